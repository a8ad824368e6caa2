/-! ===== contracts, by program ===== -/
section XCON
variable {p : Program} {l : Launch} {e : Env} {R : Room} {S0 : State} {m : MethodId} {ag : Array Value} {below : List Frame} {meth : Method} {c0 : Code} {D : va_G} {cA : Nat → ClassId} {A0 : Nat → Prop} {sA : Nat → Nat} {M0 : xM} {ad0 : Nat → Nat → Nat} {Z : State → Prop}
theorem cd_X12_within : Cond.code yX12_within cX12_within 3 (some .boolean) ∈ xG := (xg 1785 (by decide +kernel) (by decide +kernel))
theorem pr_X12_within : (∀ e ∈ pX12_within, xrow cX12_within 3 kdX12 flX12 0 false RX12 e) ∧ xnext pX12_within = true := xrows (by decide +kernel)
set_option maxRecDepth 100000 in
theorem wx_X12_within (X : xCtx p R S0 m ag c0 D cA A0 sA 3 cX12_within RX12 (.code yX12_within cX12_within 3 (some .boolean) :: xG) 0 0) (hi : meth.name = yX12_within.name) (hroom : 0 + 2 ≤ R.frames ∧ 60 * (0 + 2) ≤ R.locals) {rr : Int32 × xM} (hE : xEnd l D cA sA cX12_within 3 (some .boolean) R 0 0 (some (.inl rr.1)) rr.2 p e S0 m ag below meth c0 A0 M0 ad0 Z) (fu : Nat) (x0 : Int32) (x1 : Int32) (x2 : Int32) (M : xM) (h : F_X12_within fu x0 x1 x2 M = some rr) : xWx p l e R S0 m ag below meth c0 D cA A0 sA M0 ad0 3 Z 0 0 0 0 0 [(0, .inl x0), (1, .inl x1), (2, .inl x2)] [] M := by
  rw [← q_X12_within fu x0 x1 x2 M] at h
  have hT : ∀ w ∈ xG, w ∈ (Cond.code yX12_within cX12_within 3 (some .boolean) :: xG) := fun w hw => List.mem_cons_of_mem _ hw
  refine xrun_sound (nst := 0) (isInit := false) (kd := kdX12) X (xcls_mono hT xclsG) (xpool_mono hT plX12) (fun z => by cases z) (fun idx v hf => xkoE_mono hT (koX12_ok _ (xfind_mem hf))) (xents (ca := _) ?_) (endZ hE).1 (endZ hE).2 (xcuts (cu := _) ?_) pr_X12_within.1 pr_X12_within.2 _ _ _ _ _ _ _ _ (xat_ok pr_X12_within.1 pr_X12_within.2).1 (xat_ok pr_X12_within.1 pr_X12_within.2).2.1 (xat_ok pr_X12_within.1 pr_X12_within.2).2.2 h
  · exact (fun _ h => nomatch h)
  · exact (fun _ h => nomatch h)

theorem ok_X12_within (l : Launch) (D : va_G) (cA : Nat → ClassId) (sA : Nat → Nat) (fu : Nat) (x0 : Int32) (x1 : Int32) (x2 : Int32) (M : xM) {rr : Int32 × xM} (h : F_X12_within fu x0 x1 x2 M = some rr) : xMet l D cA sA yX12_within cX12_within 3 (some .boolean) xG (0 + 1) 0 0 [.inl x0, .inl x1, .inl x2] M (some (.inl rr.1)) rr.2 :=
  xmet_of (by decide +kernel) (Nat.le_of_ble_eq_true rfl) (fun p e s1 m ag below meth c0 A0 ad0 Z X hn hE => wx_X12_within X hn ⟨Nat.le_refl _, Nat.le_refl _⟩ hE fu x0 x1 x2 M h)
theorem hw_X12_within (l : Launch) (D : va_G) (cA : Nat → ClassId) (sA : Nat → Nat) (fu : Nat) {ρ : Type} {r0 : ρ} (kd1 : Nat) (hk2 : kd1 = 2) : ∀ (as : List xV) (M : xM) (k : Option xV → xM → Option ρ), w_X12_within fu as M k = some r0 → ∃ v M', xMet l D cA sA yX12_within cX12_within 3 (some .boolean) xG (0 + 1) 0 0 as M v M' ∧ k v M' = some r0 ∧ (kd1 ≠ 2 → ∃ a as', as = .inr (.inr (12, some a)) :: as') := by
  intro as M k h
  unfold w_X12_within at h
  replace h := pI_some h
  obtain ⟨x0, as1, rfl, h⟩ := h
  replace h := pI_some h
  obtain ⟨x1, as1, rfl, h⟩ := h
  replace h := pI_some h
  obtain ⟨x2, as1, rfl, h⟩ := h
  replace h := xe_some h
  obtain ⟨rfl, h⟩ := h
  obtain ⟨p1, hp, h⟩ := Option.bind_eq_some_iff.mp h
  exact ⟨_, _, ok_X12_within l D cA sA fu x0 x1 x2 M hp, h, fun z => absurd hk2 z⟩
theorem cd_X12_files : Cond.code yX12_files cX12_files 1 (some .int) ∈ xG := (xg 1766 (by decide +kernel) (by decide +kernel))
theorem pr_X12_files : (∀ e ∈ pX12_files, xrow cX12_files 1 kdX12 flX12 0 false RX12 e) ∧ xnext pX12_files = true := xrows (by decide +kernel)
set_option maxRecDepth 100000 in
theorem wx_X12_files (X : xCtx p R S0 m ag c0 D cA A0 sA 1 cX12_files RX12 (.code yX12_files cX12_files 1 (some .int) :: xG) 0 0) (hi : meth.name = yX12_files.name) (hroom : 0 + 2 ≤ R.frames ∧ 60 * (0 + 2) ≤ R.locals) {rr : Int32 × xM} (hE : xEnd l D cA sA cX12_files 1 (some .int) R 0 0 (some (.inl rr.1)) rr.2 p e S0 m ag below meth c0 A0 M0 ad0 Z) (fu : Nat) (s : Nat) (M : xM) (h : F_X12_files fu s M = some rr) : xWx p l e R S0 m ag below meth c0 D cA A0 sA M0 ad0 1 Z 0 0 0 0 0 [(0, .inr (.inr (12, some s)))] [] M := by
  rw [← q_X12_files fu s M] at h
  have hT : ∀ w ∈ xG, w ∈ (Cond.code yX12_files cX12_files 1 (some .int) :: xG) := fun w hw => List.mem_cons_of_mem _ hw
  refine xrun_sound (nst := 0) (isInit := false) (kd := kdX12) X (xcls_mono hT xclsG) (xpool_mono hT plX12) (fun z => by cases z) (fun idx v hf => xkoE_mono hT (koX12_ok _ (xfind_mem hf))) (xents (ca := _) ?_) (endI hE).1 (endI hE).2 (xcuts (cu := _) ?_) pr_X12_files.1 pr_X12_files.2 _ _ _ _ _ _ _ _ (xat_ok pr_X12_files.1 pr_X12_files.2).1 (xat_ok pr_X12_files.1 pr_X12_files.2).2.1 (xat_ok pr_X12_files.1 pr_X12_files.2).2.2 h
  · exact (fun _ h => nomatch h)
  · exact (fun _ h => nomatch h)

theorem ok_X12_files (l : Launch) (D : va_G) (cA : Nat → ClassId) (sA : Nat → Nat) (fu : Nat) (s : Nat) (M : xM) {rr : Int32 × xM} (h : F_X12_files fu s M = some rr) : xMet l D cA sA yX12_files cX12_files 1 (some .int) xG (0 + 1) 0 0 [.inr (.inr (12, some s))] M (some (.inl rr.1)) rr.2 :=
  xmet_of (by decide +kernel) (Nat.le_of_ble_eq_true rfl) (fun p e s1 m ag below meth c0 A0 ad0 Z X hn hE => wx_X12_files X hn ⟨Nat.le_refl _, Nat.le_refl _⟩ hE fu s M h)
theorem hw_X12_files (l : Launch) (D : va_G) (cA : Nat → ClassId) (sA : Nat → Nat) (fu : Nat) {ρ : Type} {r0 : ρ} (kd1 : Nat) : ∀ (as : List xV) (M : xM) (k : Option xV → xM → Option ρ), w_X12_files fu as M k = some r0 → ∃ v M', xMet l D cA sA yX12_files cX12_files 1 (some .int) xG (0 + 1) 0 0 as M v M' ∧ k v M' = some r0 ∧ (kd1 ≠ 2 → ∃ a as', as = .inr (.inr (12, some a)) :: as') := by
  intro as M k h
  unfold w_X12_files at h
  replace h := pR_some h
  obtain ⟨o, as1, rfl, h⟩ := h
  replace h := bd_some h
  obtain ⟨s, rfl, h⟩ := h
  replace h := xe_some h
  obtain ⟨rfl, h⟩ := h
  obtain ⟨p1, hp, h⟩ := Option.bind_eq_some_iff.mp h
  exact ⟨_, _, ok_X12_files l D cA sA fu s M hp, h, fun _ => ⟨_, _, rfl⟩⟩
theorem lk_X12_223 : xLink xG RX12 223 0 yX12_files 0 := ⟨Or.inl (xg 1763 (by decide +kernel) (by decide +kernel)), (xg 1765 (by decide +kernel) (by decide +kernel)), (xg 67 (by decide +kernel) (by decide +kernel)), (xg 141 (by decide +kernel) (by decide +kernel)), ⟨12, by decide, TX12, 29, rfl⟩⟩
theorem cd_X12_isFile : Cond.code yX12_isFile cX12_isFile 2 (some .boolean) ∈ xG := (xg 1840 (by decide +kernel) (by decide +kernel))
theorem pr_X12_isFile : (∀ e ∈ pX12_isFile, xrow cX12_isFile 2 kdX12 flX12 0 false RX12 e) ∧ xnext pX12_isFile = true := xrows (by decide +kernel)
set_option maxRecDepth 100000 in
theorem wx_X12_isFile (X : xCtx p R S0 m ag c0 D cA A0 sA 2 cX12_isFile RX12 (.code yX12_isFile cX12_isFile 2 (some .boolean) :: xG) 0 0) (hi : meth.name = yX12_isFile.name) (hroom : 1 + 2 ≤ R.frames ∧ 60 * (1 + 2) ≤ R.locals) {rr : Int32 × xM} (hE : xEnd l D cA sA cX12_isFile 2 (some .boolean) R 0 0 (some (.inl rr.1)) rr.2 p e S0 m ag below meth c0 A0 M0 ad0 Z) (fu : Nat) (s : Nat) (x1 : Int32) (M : xM) (h : F_X12_isFile fu s x1 M = some rr) : xWx p l e R S0 m ag below meth c0 D cA A0 sA M0 ad0 2 Z 0 0 0 0 0 [(0, .inr (.inr (12, some s))), (1, .inl x1)] [] M := by
  rw [← q_X12_isFile fu s x1 M] at h
  have hT : ∀ w ∈ xG, w ∈ (Cond.code yX12_isFile cX12_isFile 2 (some .boolean) :: xG) := fun w hw => List.mem_cons_of_mem _ hw
  refine xrun_sound (nst := 0) (isInit := false) (kd := kdX12) X (xcls_mono hT xclsG) (xpool_mono hT plX12) (fun z => by cases z) (fun idx v hf => xkoE_mono hT (koX12_ok _ (xfind_mem hf))) (xents (ca := _) ?_) (endZ hE).1 (endZ hE).2 (xcuts (cu := _) ?_) pr_X12_isFile.1 pr_X12_isFile.2 _ _ _ _ _ _ _ _ (xat_ok pr_X12_isFile.1 pr_X12_isFile.2).1 (xat_ok pr_X12_isFile.1 pr_X12_isFile.2).2.1 (xat_ok pr_X12_isFile.1 pr_X12_isFile.2).2.2 h
  · exact (List.forall_mem_cons.mpr ⟨(xent_met X (ci := 12) hT cd_X12_files lk_X12_223 rfl (by decide) rfl (by decide +kernel) (fun z => absurd z (by decide)) (hw_X12_files l D cA sA fu 0) (fun _ => ⟨by decide, fun _ => ⟨TX12, 29, rfl⟩⟩) (by constructor <;> omega) (by decide)), (fun _ h => nomatch h)⟩)
  · exact (fun _ h => nomatch h)

theorem ok_X12_isFile (l : Launch) (D : va_G) (cA : Nat → ClassId) (sA : Nat → Nat) (fu : Nat) (s : Nat) (x1 : Int32) (M : xM) {rr : Int32 × xM} (h : F_X12_isFile fu s x1 M = some rr) : xMet l D cA sA yX12_isFile cX12_isFile 2 (some .boolean) xG (1 + 1) 0 0 [.inr (.inr (12, some s)), .inl x1] M (some (.inl rr.1)) rr.2 :=
  xmet_of (by decide +kernel) (Nat.le_of_ble_eq_true rfl) (fun p e s1 m ag below meth c0 A0 ad0 Z X hn hE => wx_X12_isFile X hn ⟨Nat.le_refl _, Nat.le_refl _⟩ hE fu s x1 M h)
theorem hw_X12_isFile (l : Launch) (D : va_G) (cA : Nat → ClassId) (sA : Nat → Nat) (fu : Nat) {ρ : Type} {r0 : ρ} (kd1 : Nat) : ∀ (as : List xV) (M : xM) (k : Option xV → xM → Option ρ), w_X12_isFile fu as M k = some r0 → ∃ v M', xMet l D cA sA yX12_isFile cX12_isFile 2 (some .boolean) xG (1 + 1) 0 0 as M v M' ∧ k v M' = some r0 ∧ (kd1 ≠ 2 → ∃ a as', as = .inr (.inr (12, some a)) :: as') := by
  intro as M k h
  unfold w_X12_isFile at h
  replace h := pR_some h
  obtain ⟨o, as1, rfl, h⟩ := h
  replace h := bd_some h
  obtain ⟨s, rfl, h⟩ := h
  replace h := pI_some h
  obtain ⟨x1, as1, rfl, h⟩ := h
  replace h := xe_some h
  obtain ⟨rfl, h⟩ := h
  obtain ⟨p1, hp, h⟩ := Option.bind_eq_some_iff.mp h
  exact ⟨_, _, ok_X12_isFile l D cA sA fu s x1 M hp, h, fun _ => ⟨_, _, rfl⟩⟩
theorem cd_X12_pagesOf : Cond.code yX12_pagesOf cX12_pagesOf 2 (some .int) ∈ xG := (xg 1848 (by decide +kernel) (by decide +kernel))
theorem pr_X12_pagesOf : (∀ e ∈ pX12_pagesOf, xrow cX12_pagesOf 2 kdX12 flX12 0 false RX12 e) ∧ xnext pX12_pagesOf = true := xrows (by decide +kernel)
set_option maxRecDepth 100000 in
theorem wx_X12_pagesOf (X : xCtx p R S0 m ag c0 D cA A0 sA 2 cX12_pagesOf RX12 (.code yX12_pagesOf cX12_pagesOf 2 (some .int) :: xG) 0 0) (hi : meth.name = yX12_pagesOf.name) (hroom : 0 + 2 ≤ R.frames ∧ 60 * (0 + 2) ≤ R.locals) {rr : Int32 × xM} (hE : xEnd l D cA sA cX12_pagesOf 2 (some .int) R 0 0 (some (.inl rr.1)) rr.2 p e S0 m ag below meth c0 A0 M0 ad0 Z) (fu : Nat) (s : Nat) (x1 : Int32) (M : xM) (h : F_X12_pagesOf fu s x1 M = some rr) : xWx p l e R S0 m ag below meth c0 D cA A0 sA M0 ad0 2 Z 0 0 0 0 0 [(0, .inr (.inr (12, some s))), (1, .inl x1)] [] M := by
  rw [← q_X12_pagesOf fu s x1 M] at h
  have hT : ∀ w ∈ xG, w ∈ (Cond.code yX12_pagesOf cX12_pagesOf 2 (some .int) :: xG) := fun w hw => List.mem_cons_of_mem _ hw
  refine xrun_sound (nst := 0) (isInit := false) (kd := kdX12) X (xcls_mono hT xclsG) (xpool_mono hT plX12) (fun z => by cases z) (fun idx v hf => xkoE_mono hT (koX12_ok _ (xfind_mem hf))) (xents (ca := _) ?_) (endI hE).1 (endI hE).2 (xcuts (cu := _) ?_) pr_X12_pagesOf.1 pr_X12_pagesOf.2 _ _ _ _ _ _ _ _ (xat_ok pr_X12_pagesOf.1 pr_X12_pagesOf.2).1 (xat_ok pr_X12_pagesOf.1 pr_X12_pagesOf.2).2.1 (xat_ok pr_X12_pagesOf.1 pr_X12_pagesOf.2).2.2 h
  · exact (fun _ h => nomatch h)
  · exact (fun _ h => nomatch h)

theorem ok_X12_pagesOf (l : Launch) (D : va_G) (cA : Nat → ClassId) (sA : Nat → Nat) (fu : Nat) (s : Nat) (x1 : Int32) (M : xM) {rr : Int32 × xM} (h : F_X12_pagesOf fu s x1 M = some rr) : xMet l D cA sA yX12_pagesOf cX12_pagesOf 2 (some .int) xG (0 + 1) 0 0 [.inr (.inr (12, some s)), .inl x1] M (some (.inl rr.1)) rr.2 :=
  xmet_of (by decide +kernel) (Nat.le_of_ble_eq_true rfl) (fun p e s1 m ag below meth c0 A0 ad0 Z X hn hE => wx_X12_pagesOf X hn ⟨Nat.le_refl _, Nat.le_refl _⟩ hE fu s x1 M h)
theorem hw_X12_pagesOf (l : Launch) (D : va_G) (cA : Nat → ClassId) (sA : Nat → Nat) (fu : Nat) {ρ : Type} {r0 : ρ} (kd1 : Nat) : ∀ (as : List xV) (M : xM) (k : Option xV → xM → Option ρ), w_X12_pagesOf fu as M k = some r0 → ∃ v M', xMet l D cA sA yX12_pagesOf cX12_pagesOf 2 (some .int) xG (0 + 1) 0 0 as M v M' ∧ k v M' = some r0 ∧ (kd1 ≠ 2 → ∃ a as', as = .inr (.inr (12, some a)) :: as') := by
  intro as M k h
  unfold w_X12_pagesOf at h
  replace h := pR_some h
  obtain ⟨o, as1, rfl, h⟩ := h
  replace h := bd_some h
  obtain ⟨s, rfl, h⟩ := h
  replace h := pI_some h
  obtain ⟨x1, as1, rfl, h⟩ := h
  replace h := xe_some h
  obtain ⟨rfl, h⟩ := h
  obtain ⟨p1, hp, h⟩ := Option.bind_eq_some_iff.mp h
  exact ⟨_, _, ok_X12_pagesOf l D cA sA fu s x1 M hp, h, fun _ => ⟨_, _, rfl⟩⟩
theorem lk_X12_258 : xLink xG RX12 258 0 yX12_isFile 1 := ⟨Or.inl (xg 1837 (by decide +kernel) (by decide +kernel)), (xg 1839 (by decide +kernel) (by decide +kernel)), (xg 81 (by decide +kernel) (by decide +kernel)), (xg 141 (by decide +kernel) (by decide +kernel)), ⟨12, by decide, TX12, 29, rfl⟩⟩
theorem lk_X12_261 : xLink xG RX12 261 0 yX12_pagesOf 1 := ⟨Or.inl (xg 1845 (by decide +kernel) (by decide +kernel)), (xg 1847 (by decide +kernel) (by decide +kernel)), (xg 83 (by decide +kernel) (by decide +kernel)), (xg 141 (by decide +kernel) (by decide +kernel)), ⟨12, by decide, TX12, 29, rfl⟩⟩
theorem cd_X12_isPage : Cond.code yX12_isPage cX12_isPage 3 (some .boolean) ∈ xG := (xg 1876 (by decide +kernel) (by decide +kernel))
theorem pr_X12_isPage : (∀ e ∈ pX12_isPage, xrow cX12_isPage 3 kdX12 flX12 0 false RX12 e) ∧ xnext pX12_isPage = true := xrows (by decide +kernel)
set_option maxRecDepth 100000 in
theorem wx_X12_isPage (X : xCtx p R S0 m ag c0 D cA A0 sA 3 cX12_isPage RX12 (.code yX12_isPage cX12_isPage 3 (some .boolean) :: xG) 0 0) (hi : meth.name = yX12_isPage.name) (hroom : 2 + 2 ≤ R.frames ∧ 60 * (2 + 2) ≤ R.locals) {rr : Int32 × xM} (hE : xEnd l D cA sA cX12_isPage 3 (some .boolean) R 0 0 (some (.inl rr.1)) rr.2 p e S0 m ag below meth c0 A0 M0 ad0 Z) (fu : Nat) (s : Nat) (x1 : Int32) (x2 : Int32) (M : xM) (h : F_X12_isPage fu s x1 x2 M = some rr) : xWx p l e R S0 m ag below meth c0 D cA A0 sA M0 ad0 3 Z 0 0 0 0 0 [(0, .inr (.inr (12, some s))), (1, .inl x1), (2, .inl x2)] [] M := by
  rw [← q_X12_isPage fu s x1 x2 M] at h
  have hT : ∀ w ∈ xG, w ∈ (Cond.code yX12_isPage cX12_isPage 3 (some .boolean) :: xG) := fun w hw => List.mem_cons_of_mem _ hw
  refine xrun_sound (nst := 0) (isInit := false) (kd := kdX12) X (xcls_mono hT xclsG) (xpool_mono hT plX12) (fun z => by cases z) (fun idx v hf => xkoE_mono hT (koX12_ok _ (xfind_mem hf))) (xents (ca := _) ?_) (endZ hE).1 (endZ hE).2 (xcuts (cu := _) ?_) pr_X12_isPage.1 pr_X12_isPage.2 _ _ _ _ _ _ _ _ (xat_ok pr_X12_isPage.1 pr_X12_isPage.2).1 (xat_ok pr_X12_isPage.1 pr_X12_isPage.2).2.1 (xat_ok pr_X12_isPage.1 pr_X12_isPage.2).2.2 h
  · exact (List.forall_mem_cons.mpr ⟨(xent_met X (ci := 12) hT cd_X12_isFile lk_X12_258 rfl (by decide) rfl (by decide +kernel) (fun z => absurd z (by decide)) (hw_X12_isFile l D cA sA fu 0) (fun _ => ⟨by decide, fun _ => ⟨TX12, 29, rfl⟩⟩) (by constructor <;> omega) (by decide)), (List.forall_mem_cons.mpr ⟨(xent_met X (ci := 12) hT cd_X12_pagesOf lk_X12_261 rfl (by decide) rfl (by decide +kernel) (fun z => absurd z (by decide)) (hw_X12_pagesOf l D cA sA fu 0) (fun _ => ⟨by decide, fun _ => ⟨TX12, 29, rfl⟩⟩) (by constructor <;> omega) (by decide)), (fun _ h => nomatch h)⟩)⟩)
  · exact (fun _ h => nomatch h)

theorem ok_X12_isPage (l : Launch) (D : va_G) (cA : Nat → ClassId) (sA : Nat → Nat) (fu : Nat) (s : Nat) (x1 : Int32) (x2 : Int32) (M : xM) {rr : Int32 × xM} (h : F_X12_isPage fu s x1 x2 M = some rr) : xMet l D cA sA yX12_isPage cX12_isPage 3 (some .boolean) xG (2 + 1) 0 0 [.inr (.inr (12, some s)), .inl x1, .inl x2] M (some (.inl rr.1)) rr.2 :=
  xmet_of (by decide +kernel) (Nat.le_of_ble_eq_true rfl) (fun p e s1 m ag below meth c0 A0 ad0 Z X hn hE => wx_X12_isPage X hn ⟨Nat.le_refl _, Nat.le_refl _⟩ hE fu s x1 x2 M h)
theorem hw_X12_isPage (l : Launch) (D : va_G) (cA : Nat → ClassId) (sA : Nat → Nat) (fu : Nat) {ρ : Type} {r0 : ρ} (kd1 : Nat) : ∀ (as : List xV) (M : xM) (k : Option xV → xM → Option ρ), w_X12_isPage fu as M k = some r0 → ∃ v M', xMet l D cA sA yX12_isPage cX12_isPage 3 (some .boolean) xG (2 + 1) 0 0 as M v M' ∧ k v M' = some r0 ∧ (kd1 ≠ 2 → ∃ a as', as = .inr (.inr (12, some a)) :: as') := by
  intro as M k h
  unfold w_X12_isPage at h
  replace h := pR_some h
  obtain ⟨o, as1, rfl, h⟩ := h
  replace h := bd_some h
  obtain ⟨s, rfl, h⟩ := h
  replace h := pI_some h
  obtain ⟨x1, as1, rfl, h⟩ := h
  replace h := pI_some h
  obtain ⟨x2, as1, rfl, h⟩ := h
  replace h := xe_some h
  obtain ⟨rfl, h⟩ := h
  obtain ⟨p1, hp, h⟩ := Option.bind_eq_some_iff.mp h
  exact ⟨_, _, ok_X12_isPage l D cA sA fu s x1 x2 M hp, h, fun _ => ⟨_, _, rfl⟩⟩
theorem cd_X12_starts : Cond.code yX12_starts cX12_starts 3 none ∈ xG := (xg 1559 (by decide +kernel) (by decide +kernel))
theorem pr_X12_starts : (∀ e ∈ pX12_starts, xrow cX12_starts 3 kdX12 flX12 0 false RX12 e) ∧ xnext pX12_starts = true := xrows (by decide +kernel)
set_option maxRecDepth 100000 in
theorem wx_X12_starts_7 (X : xCtx p R S0 m ag c0 D cA A0 sA 3 cX12_starts RX12 (.code yX12_starts cX12_starts 3 none :: xG) 0 0) (hi : meth.name = yX12_starts.name) (hroom : 0 + 2 ≤ R.frames ∧ 60 * (0 + 2) ≤ R.locals) {rr : xM} (hE : xEnd l D cA sA cX12_starts 3 none R 0 0 none rr p e S0 m ag below meth c0 A0 M0 ad0 Z) (fu : Nat) : ∀ (n : Nat) (s : Nat) (x1 : Int32) (x2 : Int32) (M : xM), L_X12_starts_7 fu n s x1 x2 M = some rr → xWx p l e R S0 m ag below meth c0 D cA A0 sA M0 ad0 3 Z 0 0 7 0 0 [(0, .inr (.inr (12, some s))), (1, .inl x1), (2, .inl x2)] [] M := by
  intro n
  induction n with
  | zero => intro s x1 x2 M h; cases h
  | succ n ih =>
    intro s x1 x2 M h
    rw [← q_X12_starts_7 fu n s x1 x2 M] at h
    have hT : ∀ w ∈ xG, w ∈ (Cond.code yX12_starts cX12_starts 3 none :: xG) := fun w hw => List.mem_cons_of_mem _ hw
    refine xrun_sound (nst := 0) (isInit := false) (kd := kdX12) X (xcls_mono hT xclsG) (xpool_mono hT plX12) (fun z => by cases z) (fun idx v hf => xkoE_mono hT (koX12_ok _ (xfind_mem hf))) (xents (ca := _) ?_) (endV hE).1 (endV hE).2 (xcuts (cu := _) ?_) pr_X12_starts.1 pr_X12_starts.2 _ _ _ _ _ _ _ _ (xat_ok pr_X12_starts.1 pr_X12_starts.2).1 (xat_ok pr_X12_starts.1 pr_X12_starts.2).2.1 (xat_ok pr_X12_starts.1 pr_X12_starts.2).2.2 h
    · exact (fun _ h => nomatch h)
    · refine (List.forall_mem_cons.mpr ⟨?_, (fun _ h => nomatch h)⟩)
      · intro bc bs ls st M h
        replace h := xz_some h
        obtain ⟨rfl, rfl, h⟩ := h
        replace h := lR_some h
        obtain ⟨o, e0, h⟩ := h
        replace h := bd_some h
        obtain ⟨s', rfl, h⟩ := h
        replace h := lI_some h
        obtain ⟨x1', e1, h⟩ := h
        replace h := lI_some h
        obtain ⟨x2', e2, h⟩ := h
        replace h := xe_some h
        obtain ⟨rfl, h⟩ := h
        exact xWx_ls (ih s' x1' x2' M h) (List.forall_mem_cons.mpr ⟨e0, (List.forall_mem_cons.mpr ⟨e1, (List.forall_mem_cons.mpr ⟨e2, (fun _ h => nomatch h)⟩)⟩)⟩)

set_option maxRecDepth 100000 in
theorem wx_X12_starts (X : xCtx p R S0 m ag c0 D cA A0 sA 3 cX12_starts RX12 (.code yX12_starts cX12_starts 3 none :: xG) 0 0) (hi : meth.name = yX12_starts.name) (hroom : 0 + 2 ≤ R.frames ∧ 60 * (0 + 2) ≤ R.locals) {rr : xM} (hE : xEnd l D cA sA cX12_starts 3 none R 0 0 none rr p e S0 m ag below meth c0 A0 M0 ad0 Z) (fu : Nat) (s : Nat) (x1 : Int32) (M : xM) (h : F_X12_starts fu s x1 M = some rr) : xWx p l e R S0 m ag below meth c0 D cA A0 sA M0 ad0 3 Z 0 0 0 0 0 [(0, .inr (.inr (12, some s))), (1, .inl x1)] [] M := by
  rw [← q_X12_starts fu s x1 M] at h
  have hT : ∀ w ∈ xG, w ∈ (Cond.code yX12_starts cX12_starts 3 none :: xG) := fun w hw => List.mem_cons_of_mem _ hw
  refine xrun_sound (nst := 0) (isInit := false) (kd := kdX12) X (xcls_mono hT xclsG) (xpool_mono hT plX12) (fun z => by cases z) (fun idx v hf => xkoE_mono hT (koX12_ok _ (xfind_mem hf))) (xents (ca := _) ?_) (endV hE).1 (endV hE).2 (xcuts (cu := _) ?_) pr_X12_starts.1 pr_X12_starts.2 _ _ _ _ _ _ _ _ (xat_ok pr_X12_starts.1 pr_X12_starts.2).1 (xat_ok pr_X12_starts.1 pr_X12_starts.2).2.1 (xat_ok pr_X12_starts.1 pr_X12_starts.2).2.2 h
  · exact (fun _ h => nomatch h)
  · refine (List.forall_mem_cons.mpr ⟨?_, (fun _ h => nomatch h)⟩)
    · intro bc bs ls st M h
      replace h := xz_some h
      obtain ⟨rfl, rfl, h⟩ := h
      replace h := lR_some h
      obtain ⟨o, e0, h⟩ := h
      replace h := bd_some h
      obtain ⟨s', rfl, h⟩ := h
      replace h := lI_some h
      obtain ⟨x1', e1, h⟩ := h
      replace h := lI_some h
      obtain ⟨x2', e2, h⟩ := h
      replace h := xe_some h
      obtain ⟨rfl, h⟩ := h
      exact xWx_ls (wx_X12_starts_7 X hi hroom hE fu fu s' x1' x2' M h) (List.forall_mem_cons.mpr ⟨e0, (List.forall_mem_cons.mpr ⟨e1, (List.forall_mem_cons.mpr ⟨e2, (fun _ h => nomatch h)⟩)⟩)⟩)

theorem ok_X12_starts (l : Launch) (D : va_G) (cA : Nat → ClassId) (sA : Nat → Nat) (fu : Nat) (s : Nat) (x1 : Int32) (M : xM) {rr : xM} (h : F_X12_starts fu s x1 M = some rr) : xMet l D cA sA yX12_starts cX12_starts 3 none xG (0 + 1) 0 0 [.inr (.inr (12, some s)), .inl x1] M none rr :=
  xmet_of (by decide +kernel) (Nat.le_of_ble_eq_true rfl) (fun p e s1 m ag below meth c0 A0 ad0 Z X hn hE => wx_X12_starts X hn ⟨Nat.le_refl _, Nat.le_refl _⟩ hE fu s x1 M h)
theorem hw_X12_starts (l : Launch) (D : va_G) (cA : Nat → ClassId) (sA : Nat → Nat) (fu : Nat) {ρ : Type} {r0 : ρ} (kd1 : Nat) : ∀ (as : List xV) (M : xM) (k : Option xV → xM → Option ρ), w_X12_starts fu as M k = some r0 → ∃ v M', xMet l D cA sA yX12_starts cX12_starts 3 none xG (0 + 1) 0 0 as M v M' ∧ k v M' = some r0 ∧ (kd1 ≠ 2 → ∃ a as', as = .inr (.inr (12, some a)) :: as') := by
  intro as M k h
  unfold w_X12_starts at h
  replace h := pR_some h
  obtain ⟨o, as1, rfl, h⟩ := h
  replace h := bd_some h
  obtain ⟨s, rfl, h⟩ := h
  replace h := pI_some h
  obtain ⟨x1, as1, rfl, h⟩ := h
  replace h := xe_some h
  obtain ⟨rfl, h⟩ := h
  obtain ⟨p1, hp, h⟩ := Option.bind_eq_some_iff.mp h
  exact ⟨_, _, ok_X12_starts l D cA sA fu s x1 M hp, h, fun _ => ⟨_, _, rfl⟩⟩
theorem cd_X12_moves : Cond.code yX12_moves cX12_moves 5 none ∈ xG := (xg 2007 (by decide +kernel) (by decide +kernel))
theorem pr_X12_moves : (∀ e ∈ pX12_moves, xrow cX12_moves 5 kdX12 flX12 0 false RX12 e) ∧ xnext pX12_moves = true := xrows (by decide +kernel)
set_option maxRecDepth 100000 in
theorem wx_X12_moves_8 (X : xCtx p R S0 m ag c0 D cA A0 sA 5 cX12_moves RX12 (.code yX12_moves cX12_moves 5 none :: xG) 0 0) (hi : meth.name = yX12_moves.name) (hroom : 0 + 2 ≤ R.frames ∧ 60 * (0 + 2) ≤ R.locals) {rr : xM} (hE : xEnd l D cA sA cX12_moves 5 none R 0 0 none rr p e S0 m ag below meth c0 A0 M0 ad0 Z) (fu : Nat) : ∀ (n : Nat) (s : Nat) (x1 : Int32) (x2 : Int32) (x3 : Int32) (x4 : Int32) (M : xM), L_X12_moves_8 fu n s x1 x2 x3 x4 M = some rr → xWx p l e R S0 m ag below meth c0 D cA A0 sA M0 ad0 5 Z 0 0 8 0 0 [(0, .inr (.inr (12, some s))), (1, .inl x1), (2, .inl x2), (3, .inl x3), (4, .inl x4)] [] M := by
  intro n
  induction n with
  | zero => intro s x1 x2 x3 x4 M h; cases h
  | succ n ih =>
    intro s x1 x2 x3 x4 M h
    rw [← q_X12_moves_8 fu n s x1 x2 x3 x4 M] at h
    have hT : ∀ w ∈ xG, w ∈ (Cond.code yX12_moves cX12_moves 5 none :: xG) := fun w hw => List.mem_cons_of_mem _ hw
    refine xrun_sound (nst := 0) (isInit := false) (kd := kdX12) X (xcls_mono hT xclsG) (xpool_mono hT plX12) (fun z => by cases z) (fun idx v hf => xkoE_mono hT (koX12_ok _ (xfind_mem hf))) (xents (ca := _) ?_) (endV hE).1 (endV hE).2 (xcuts (cu := _) ?_) pr_X12_moves.1 pr_X12_moves.2 _ _ _ _ _ _ _ _ (xat_ok pr_X12_moves.1 pr_X12_moves.2).1 (xat_ok pr_X12_moves.1 pr_X12_moves.2).2.1 (xat_ok pr_X12_moves.1 pr_X12_moves.2).2.2 h
    · exact (fun _ h => nomatch h)
    · refine (List.forall_mem_cons.mpr ⟨?_, (fun _ h => nomatch h)⟩)
      · intro bc bs ls st M h
        replace h := xz_some h
        obtain ⟨rfl, rfl, h⟩ := h
        replace h := lR_some h
        obtain ⟨o, e0, h⟩ := h
        replace h := bd_some h
        obtain ⟨s', rfl, h⟩ := h
        replace h := lI_some h
        obtain ⟨x1', e1, h⟩ := h
        replace h := lI_some h
        obtain ⟨x2', e2, h⟩ := h
        replace h := lI_some h
        obtain ⟨x3', e3, h⟩ := h
        replace h := lI_some h
        obtain ⟨x4', e4, h⟩ := h
        replace h := xe_some h
        obtain ⟨rfl, h⟩ := h
        exact xWx_ls (ih s' x1' x2' x3' x4' M h) (List.forall_mem_cons.mpr ⟨e0, (List.forall_mem_cons.mpr ⟨e1, (List.forall_mem_cons.mpr ⟨e2, (List.forall_mem_cons.mpr ⟨e3, (List.forall_mem_cons.mpr ⟨e4, (fun _ h => nomatch h)⟩)⟩)⟩)⟩)⟩)

set_option maxRecDepth 100000 in
theorem wx_X12_moves (X : xCtx p R S0 m ag c0 D cA A0 sA 5 cX12_moves RX12 (.code yX12_moves cX12_moves 5 none :: xG) 0 0) (hi : meth.name = yX12_moves.name) (hroom : 0 + 2 ≤ R.frames ∧ 60 * (0 + 2) ≤ R.locals) {rr : xM} (hE : xEnd l D cA sA cX12_moves 5 none R 0 0 none rr p e S0 m ag below meth c0 A0 M0 ad0 Z) (fu : Nat) (s : Nat) (x1 : Int32) (x2 : Int32) (x3 : Int32) (M : xM) (h : F_X12_moves fu s x1 x2 x3 M = some rr) : xWx p l e R S0 m ag below meth c0 D cA A0 sA M0 ad0 5 Z 0 0 0 0 0 [(0, .inr (.inr (12, some s))), (1, .inl x1), (2, .inl x2), (3, .inl x3)] [] M := by
  rw [← q_X12_moves fu s x1 x2 x3 M] at h
  have hT : ∀ w ∈ xG, w ∈ (Cond.code yX12_moves cX12_moves 5 none :: xG) := fun w hw => List.mem_cons_of_mem _ hw
  refine xrun_sound (nst := 0) (isInit := false) (kd := kdX12) X (xcls_mono hT xclsG) (xpool_mono hT plX12) (fun z => by cases z) (fun idx v hf => xkoE_mono hT (koX12_ok _ (xfind_mem hf))) (xents (ca := _) ?_) (endV hE).1 (endV hE).2 (xcuts (cu := _) ?_) pr_X12_moves.1 pr_X12_moves.2 _ _ _ _ _ _ _ _ (xat_ok pr_X12_moves.1 pr_X12_moves.2).1 (xat_ok pr_X12_moves.1 pr_X12_moves.2).2.1 (xat_ok pr_X12_moves.1 pr_X12_moves.2).2.2 h
  · exact (fun _ h => nomatch h)
  · refine (List.forall_mem_cons.mpr ⟨?_, (fun _ h => nomatch h)⟩)
    · intro bc bs ls st M h
      replace h := xz_some h
      obtain ⟨rfl, rfl, h⟩ := h
      replace h := lR_some h
      obtain ⟨o, e0, h⟩ := h
      replace h := bd_some h
      obtain ⟨s', rfl, h⟩ := h
      replace h := lI_some h
      obtain ⟨x1', e1, h⟩ := h
      replace h := lI_some h
      obtain ⟨x2', e2, h⟩ := h
      replace h := lI_some h
      obtain ⟨x3', e3, h⟩ := h
      replace h := lI_some h
      obtain ⟨x4', e4, h⟩ := h
      replace h := xe_some h
      obtain ⟨rfl, h⟩ := h
      exact xWx_ls (wx_X12_moves_8 X hi hroom hE fu fu s' x1' x2' x3' x4' M h) (List.forall_mem_cons.mpr ⟨e0, (List.forall_mem_cons.mpr ⟨e1, (List.forall_mem_cons.mpr ⟨e2, (List.forall_mem_cons.mpr ⟨e3, (List.forall_mem_cons.mpr ⟨e4, (fun _ h => nomatch h)⟩)⟩)⟩)⟩)⟩)

theorem ok_X12_moves (l : Launch) (D : va_G) (cA : Nat → ClassId) (sA : Nat → Nat) (fu : Nat) (s : Nat) (x1 : Int32) (x2 : Int32) (x3 : Int32) (M : xM) {rr : xM} (h : F_X12_moves fu s x1 x2 x3 M = some rr) : xMet l D cA sA yX12_moves cX12_moves 5 none xG (0 + 1) 0 0 [.inr (.inr (12, some s)), .inl x1, .inl x2, .inl x3] M none rr :=
  xmet_of (by decide +kernel) (Nat.le_of_ble_eq_true rfl) (fun p e s1 m ag below meth c0 A0 ad0 Z X hn hE => wx_X12_moves X hn ⟨Nat.le_refl _, Nat.le_refl _⟩ hE fu s x1 x2 x3 M h)
theorem hw_X12_moves (l : Launch) (D : va_G) (cA : Nat → ClassId) (sA : Nat → Nat) (fu : Nat) {ρ : Type} {r0 : ρ} (kd1 : Nat) : ∀ (as : List xV) (M : xM) (k : Option xV → xM → Option ρ), w_X12_moves fu as M k = some r0 → ∃ v M', xMet l D cA sA yX12_moves cX12_moves 5 none xG (0 + 1) 0 0 as M v M' ∧ k v M' = some r0 ∧ (kd1 ≠ 2 → ∃ a as', as = .inr (.inr (12, some a)) :: as') := by
  intro as M k h
  unfold w_X12_moves at h
  replace h := pR_some h
  obtain ⟨o, as1, rfl, h⟩ := h
  replace h := bd_some h
  obtain ⟨s, rfl, h⟩ := h
  replace h := pI_some h
  obtain ⟨x1, as1, rfl, h⟩ := h
  replace h := pI_some h
  obtain ⟨x2, as1, rfl, h⟩ := h
  replace h := pI_some h
  obtain ⟨x3, as1, rfl, h⟩ := h
  replace h := xe_some h
  obtain ⟨rfl, h⟩ := h
  obtain ⟨p1, hp, h⟩ := Option.bind_eq_some_iff.mp h
  exact ⟨_, _, ok_X12_moves l D cA sA fu s x1 x2 x3 M hp, h, fun _ => ⟨_, _, rfl⟩⟩
theorem cd_X12_powersOff : Cond.code yX12_powersOff cX12_powersOff 3 none ∈ xG := (xg 1919 (by decide +kernel) (by decide +kernel))
theorem pr_X12_powersOff : (∀ e ∈ pX12_powersOff, xrow cX12_powersOff 3 kdX12 flX12 0 false RX12 e) ∧ xnext pX12_powersOff = true := xrows (by decide +kernel)
set_option maxRecDepth 100000 in
theorem wx_X12_powersOff_2 (X : xCtx p R S0 m ag c0 D cA A0 sA 3 cX12_powersOff RX12 (.code yX12_powersOff cX12_powersOff 3 none :: xG) 0 0) (hi : meth.name = yX12_powersOff.name) (hroom : 0 + 2 ≤ R.frames ∧ 60 * (0 + 2) ≤ R.locals) {rr : xM} (hE : xEnd l D cA sA cX12_powersOff 3 none R 0 0 none rr p e S0 m ag below meth c0 A0 M0 ad0 Z) (fu : Nat) : ∀ (n : Nat) (s : Nat) (x1 : Int32) (x2 : Int32) (M : xM), L_X12_powersOff_2 fu n s x1 x2 M = some rr → xWx p l e R S0 m ag below meth c0 D cA A0 sA M0 ad0 3 Z 0 0 2 0 0 [(0, .inr (.inr (12, some s))), (1, .inl x1), (2, .inl x2)] [] M := by
  intro n
  induction n with
  | zero => intro s x1 x2 M h; cases h
  | succ n ih =>
    intro s x1 x2 M h
    rw [← q_X12_powersOff_2 fu n s x1 x2 M] at h
    have hT : ∀ w ∈ xG, w ∈ (Cond.code yX12_powersOff cX12_powersOff 3 none :: xG) := fun w hw => List.mem_cons_of_mem _ hw
    refine xrun_sound (nst := 0) (isInit := false) (kd := kdX12) X (xcls_mono hT xclsG) (xpool_mono hT plX12) (fun z => by cases z) (fun idx v hf => xkoE_mono hT (koX12_ok _ (xfind_mem hf))) (xents (ca := _) ?_) (endV hE).1 (endV hE).2 (xcuts (cu := _) ?_) pr_X12_powersOff.1 pr_X12_powersOff.2 _ _ _ _ _ _ _ _ (xat_ok pr_X12_powersOff.1 pr_X12_powersOff.2).1 (xat_ok pr_X12_powersOff.1 pr_X12_powersOff.2).2.1 (xat_ok pr_X12_powersOff.1 pr_X12_powersOff.2).2.2 h
    · exact (fun _ h => nomatch h)
    · refine (List.forall_mem_cons.mpr ⟨?_, (fun _ h => nomatch h)⟩)
      · intro bc bs ls st M h
        replace h := xz_some h
        obtain ⟨rfl, rfl, h⟩ := h
        replace h := lR_some h
        obtain ⟨o, e0, h⟩ := h
        replace h := bd_some h
        obtain ⟨s', rfl, h⟩ := h
        replace h := lI_some h
        obtain ⟨x1', e1, h⟩ := h
        replace h := lI_some h
        obtain ⟨x2', e2, h⟩ := h
        replace h := xe_some h
        obtain ⟨rfl, h⟩ := h
        exact xWx_ls (ih s' x1' x2' M h) (List.forall_mem_cons.mpr ⟨e0, (List.forall_mem_cons.mpr ⟨e1, (List.forall_mem_cons.mpr ⟨e2, (fun _ h => nomatch h)⟩)⟩)⟩)

set_option maxRecDepth 100000 in
theorem wx_X12_powersOff (X : xCtx p R S0 m ag c0 D cA A0 sA 3 cX12_powersOff RX12 (.code yX12_powersOff cX12_powersOff 3 none :: xG) 0 0) (hi : meth.name = yX12_powersOff.name) (hroom : 0 + 2 ≤ R.frames ∧ 60 * (0 + 2) ≤ R.locals) {rr : xM} (hE : xEnd l D cA sA cX12_powersOff 3 none R 0 0 none rr p e S0 m ag below meth c0 A0 M0 ad0 Z) (fu : Nat) (s : Nat) (x1 : Int32) (M : xM) (h : F_X12_powersOff fu s x1 M = some rr) : xWx p l e R S0 m ag below meth c0 D cA A0 sA M0 ad0 3 Z 0 0 0 0 0 [(0, .inr (.inr (12, some s))), (1, .inl x1)] [] M := by
  rw [← q_X12_powersOff fu s x1 M] at h
  have hT : ∀ w ∈ xG, w ∈ (Cond.code yX12_powersOff cX12_powersOff 3 none :: xG) := fun w hw => List.mem_cons_of_mem _ hw
  refine xrun_sound (nst := 0) (isInit := false) (kd := kdX12) X (xcls_mono hT xclsG) (xpool_mono hT plX12) (fun z => by cases z) (fun idx v hf => xkoE_mono hT (koX12_ok _ (xfind_mem hf))) (xents (ca := _) ?_) (endV hE).1 (endV hE).2 (xcuts (cu := _) ?_) pr_X12_powersOff.1 pr_X12_powersOff.2 _ _ _ _ _ _ _ _ (xat_ok pr_X12_powersOff.1 pr_X12_powersOff.2).1 (xat_ok pr_X12_powersOff.1 pr_X12_powersOff.2).2.1 (xat_ok pr_X12_powersOff.1 pr_X12_powersOff.2).2.2 h
  · exact (fun _ h => nomatch h)
  · refine (List.forall_mem_cons.mpr ⟨?_, (fun _ h => nomatch h)⟩)
    · intro bc bs ls st M h
      replace h := xz_some h
      obtain ⟨rfl, rfl, h⟩ := h
      replace h := lR_some h
      obtain ⟨o, e0, h⟩ := h
      replace h := bd_some h
      obtain ⟨s', rfl, h⟩ := h
      replace h := lI_some h
      obtain ⟨x1', e1, h⟩ := h
      replace h := lI_some h
      obtain ⟨x2', e2, h⟩ := h
      replace h := xe_some h
      obtain ⟨rfl, h⟩ := h
      exact xWx_ls (wx_X12_powersOff_2 X hi hroom hE fu fu s' x1' x2' M h) (List.forall_mem_cons.mpr ⟨e0, (List.forall_mem_cons.mpr ⟨e1, (List.forall_mem_cons.mpr ⟨e2, (fun _ h => nomatch h)⟩)⟩)⟩)

theorem ok_X12_powersOff (l : Launch) (D : va_G) (cA : Nat → ClassId) (sA : Nat → Nat) (fu : Nat) (s : Nat) (x1 : Int32) (M : xM) {rr : xM} (h : F_X12_powersOff fu s x1 M = some rr) : xMet l D cA sA yX12_powersOff cX12_powersOff 3 none xG (0 + 1) 0 0 [.inr (.inr (12, some s)), .inl x1] M none rr :=
  xmet_of (by decide +kernel) (Nat.le_of_ble_eq_true rfl) (fun p e s1 m ag below meth c0 A0 ad0 Z X hn hE => wx_X12_powersOff X hn ⟨Nat.le_refl _, Nat.le_refl _⟩ hE fu s x1 M h)
theorem hw_X12_powersOff (l : Launch) (D : va_G) (cA : Nat → ClassId) (sA : Nat → Nat) (fu : Nat) {ρ : Type} {r0 : ρ} (kd1 : Nat) : ∀ (as : List xV) (M : xM) (k : Option xV → xM → Option ρ), w_X12_powersOff fu as M k = some r0 → ∃ v M', xMet l D cA sA yX12_powersOff cX12_powersOff 3 none xG (0 + 1) 0 0 as M v M' ∧ k v M' = some r0 ∧ (kd1 ≠ 2 → ∃ a as', as = .inr (.inr (12, some a)) :: as') := by
  intro as M k h
  unfold w_X12_powersOff at h
  replace h := pR_some h
  obtain ⟨o, as1, rfl, h⟩ := h
  replace h := bd_some h
  obtain ⟨s, rfl, h⟩ := h
  replace h := pI_some h
  obtain ⟨x1, as1, rfl, h⟩ := h
  replace h := xe_some h
  obtain ⟨rfl, h⟩ := h
  obtain ⟨p1, hp, h⟩ := Option.bind_eq_some_iff.mp h
  exact ⟨_, _, ok_X12_powersOff l D cA sA fu s x1 M hp, h, fun _ => ⟨_, _, rfl⟩⟩
theorem cd_X12_blocks : Cond.code yX12_blocks cX12_blocks 1 (some .int) ∈ xG := (xg 1778 (by decide +kernel) (by decide +kernel))
theorem pr_X12_blocks : (∀ e ∈ pX12_blocks, xrow cX12_blocks 1 kdX12 flX12 0 false RX12 e) ∧ xnext pX12_blocks = true := xrows (by decide +kernel)
set_option maxRecDepth 100000 in
theorem wx_X12_blocks (X : xCtx p R S0 m ag c0 D cA A0 sA 1 cX12_blocks RX12 (.code yX12_blocks cX12_blocks 1 (some .int) :: xG) 0 0) (hi : meth.name = yX12_blocks.name) (hroom : 0 + 2 ≤ R.frames ∧ 60 * (0 + 2) ≤ R.locals) {rr : Int32 × xM} (hE : xEnd l D cA sA cX12_blocks 1 (some .int) R 0 0 (some (.inl rr.1)) rr.2 p e S0 m ag below meth c0 A0 M0 ad0 Z) (fu : Nat) (s : Nat) (M : xM) (h : F_X12_blocks fu s M = some rr) : xWx p l e R S0 m ag below meth c0 D cA A0 sA M0 ad0 1 Z 0 0 0 0 0 [(0, .inr (.inr (12, some s)))] [] M := by
  rw [← q_X12_blocks fu s M] at h
  have hT : ∀ w ∈ xG, w ∈ (Cond.code yX12_blocks cX12_blocks 1 (some .int) :: xG) := fun w hw => List.mem_cons_of_mem _ hw
  refine xrun_sound (nst := 0) (isInit := false) (kd := kdX12) X (xcls_mono hT xclsG) (xpool_mono hT plX12) (fun z => by cases z) (fun idx v hf => xkoE_mono hT (koX12_ok _ (xfind_mem hf))) (xents (ca := _) ?_) (endI hE).1 (endI hE).2 (xcuts (cu := _) ?_) pr_X12_blocks.1 pr_X12_blocks.2 _ _ _ _ _ _ _ _ (xat_ok pr_X12_blocks.1 pr_X12_blocks.2).1 (xat_ok pr_X12_blocks.1 pr_X12_blocks.2).2.1 (xat_ok pr_X12_blocks.1 pr_X12_blocks.2).2.2 h
  · exact (fun _ h => nomatch h)
  · exact (fun _ h => nomatch h)

theorem ok_X12_blocks (l : Launch) (D : va_G) (cA : Nat → ClassId) (sA : Nat → Nat) (fu : Nat) (s : Nat) (M : xM) {rr : Int32 × xM} (h : F_X12_blocks fu s M = some rr) : xMet l D cA sA yX12_blocks cX12_blocks 1 (some .int) xG (0 + 1) 0 0 [.inr (.inr (12, some s))] M (some (.inl rr.1)) rr.2 :=
  xmet_of (by decide +kernel) (Nat.le_of_ble_eq_true rfl) (fun p e s1 m ag below meth c0 A0 ad0 Z X hn hE => wx_X12_blocks X hn ⟨Nat.le_refl _, Nat.le_refl _⟩ hE fu s M h)
theorem hw_X12_blocks (l : Launch) (D : va_G) (cA : Nat → ClassId) (sA : Nat → Nat) (fu : Nat) {ρ : Type} {r0 : ρ} (kd1 : Nat) : ∀ (as : List xV) (M : xM) (k : Option xV → xM → Option ρ), w_X12_blocks fu as M k = some r0 → ∃ v M', xMet l D cA sA yX12_blocks cX12_blocks 1 (some .int) xG (0 + 1) 0 0 as M v M' ∧ k v M' = some r0 ∧ (kd1 ≠ 2 → ∃ a as', as = .inr (.inr (12, some a)) :: as') := by
  intro as M k h
  unfold w_X12_blocks at h
  replace h := pR_some h
  obtain ⟨o, as1, rfl, h⟩ := h
  replace h := bd_some h
  obtain ⟨s, rfl, h⟩ := h
  replace h := xe_some h
  obtain ⟨rfl, h⟩ := h
  obtain ⟨p1, hp, h⟩ := Option.bind_eq_some_iff.mp h
  exact ⟨_, _, ok_X12_blocks l D cA sA fu s M hp, h, fun _ => ⟨_, _, rfl⟩⟩
theorem cd_X12_wide : Cond.code yX12_wide cX12_wide 1 (some .int) ∈ xG := (xg 1782 (by decide +kernel) (by decide +kernel))
theorem pr_X12_wide : (∀ e ∈ pX12_wide, xrow cX12_wide 1 kdX12 flX12 0 false RX12 e) ∧ xnext pX12_wide = true := xrows (by decide +kernel)
set_option maxRecDepth 100000 in
theorem wx_X12_wide (X : xCtx p R S0 m ag c0 D cA A0 sA 1 cX12_wide RX12 (.code yX12_wide cX12_wide 1 (some .int) :: xG) 0 0) (hi : meth.name = yX12_wide.name) (hroom : 0 + 2 ≤ R.frames ∧ 60 * (0 + 2) ≤ R.locals) {rr : Int32 × xM} (hE : xEnd l D cA sA cX12_wide 1 (some .int) R 0 0 (some (.inl rr.1)) rr.2 p e S0 m ag below meth c0 A0 M0 ad0 Z) (fu : Nat) (s : Nat) (M : xM) (h : F_X12_wide fu s M = some rr) : xWx p l e R S0 m ag below meth c0 D cA A0 sA M0 ad0 1 Z 0 0 0 0 0 [(0, .inr (.inr (12, some s)))] [] M := by
  rw [← q_X12_wide fu s M] at h
  have hT : ∀ w ∈ xG, w ∈ (Cond.code yX12_wide cX12_wide 1 (some .int) :: xG) := fun w hw => List.mem_cons_of_mem _ hw
  refine xrun_sound (nst := 0) (isInit := false) (kd := kdX12) X (xcls_mono hT xclsG) (xpool_mono hT plX12) (fun z => by cases z) (fun idx v hf => xkoE_mono hT (koX12_ok _ (xfind_mem hf))) (xents (ca := _) ?_) (endI hE).1 (endI hE).2 (xcuts (cu := _) ?_) pr_X12_wide.1 pr_X12_wide.2 _ _ _ _ _ _ _ _ (xat_ok pr_X12_wide.1 pr_X12_wide.2).1 (xat_ok pr_X12_wide.1 pr_X12_wide.2).2.1 (xat_ok pr_X12_wide.1 pr_X12_wide.2).2.2 h
  · exact (fun _ h => nomatch h)
  · exact (fun _ h => nomatch h)

theorem ok_X12_wide (l : Launch) (D : va_G) (cA : Nat → ClassId) (sA : Nat → Nat) (fu : Nat) (s : Nat) (M : xM) {rr : Int32 × xM} (h : F_X12_wide fu s M = some rr) : xMet l D cA sA yX12_wide cX12_wide 1 (some .int) xG (0 + 1) 0 0 [.inr (.inr (12, some s))] M (some (.inl rr.1)) rr.2 :=
  xmet_of (by decide +kernel) (Nat.le_of_ble_eq_true rfl) (fun p e s1 m ag below meth c0 A0 ad0 Z X hn hE => wx_X12_wide X hn ⟨Nat.le_refl _, Nat.le_refl _⟩ hE fu s M h)
theorem hw_X12_wide (l : Launch) (D : va_G) (cA : Nat → ClassId) (sA : Nat → Nat) (fu : Nat) {ρ : Type} {r0 : ρ} (kd1 : Nat) : ∀ (as : List xV) (M : xM) (k : Option xV → xM → Option ρ), w_X12_wide fu as M k = some r0 → ∃ v M', xMet l D cA sA yX12_wide cX12_wide 1 (some .int) xG (0 + 1) 0 0 as M v M' ∧ k v M' = some r0 ∧ (kd1 ≠ 2 → ∃ a as', as = .inr (.inr (12, some a)) :: as') := by
  intro as M k h
  unfold w_X12_wide at h
  replace h := pR_some h
  obtain ⟨o, as1, rfl, h⟩ := h
  replace h := bd_some h
  obtain ⟨s, rfl, h⟩ := h
  replace h := xe_some h
  obtain ⟨rfl, h⟩ := h
  obtain ⟨p1, hp, h⟩ := Option.bind_eq_some_iff.mp h
  exact ⟨_, _, ok_X12_wide l D cA sA fu s M hp, h, fun _ => ⟨_, _, rfl⟩⟩
theorem lk_X12_252 : xLink xG RX12 252 0 yX12_blocks 0 := ⟨Or.inl (xg 1775 (by decide +kernel) (by decide +kernel)), (xg 1777 (by decide +kernel) (by decide +kernel)), (xg 69 (by decide +kernel) (by decide +kernel)), (xg 141 (by decide +kernel) (by decide +kernel)), ⟨12, by decide, TX12, 29, rfl⟩⟩
theorem lk_X12_255 : xLink xG RX12 255 0 yX12_wide 0 := ⟨Or.inl (xg 1779 (by decide +kernel) (by decide +kernel)), (xg 1781 (by decide +kernel) (by decide +kernel)), (xg 70 (by decide +kernel) (by decide +kernel)), (xg 141 (by decide +kernel) (by decide +kernel)), ⟨12, by decide, TX12, 29, rfl⟩⟩
theorem cd_X12_allSlots : Cond.code yX12_allSlots cX12_allSlots 1 (some .int) ∈ xG := (xg 1774 (by decide +kernel) (by decide +kernel))
theorem pr_X12_allSlots : (∀ e ∈ pX12_allSlots, xrow cX12_allSlots 1 kdX12 flX12 0 false RX12 e) ∧ xnext pX12_allSlots = true := xrows (by decide +kernel)
set_option maxRecDepth 100000 in
theorem wx_X12_allSlots (X : xCtx p R S0 m ag c0 D cA A0 sA 1 cX12_allSlots RX12 (.code yX12_allSlots cX12_allSlots 1 (some .int) :: xG) 0 0) (hi : meth.name = yX12_allSlots.name) (hroom : 1 + 2 ≤ R.frames ∧ 60 * (1 + 2) ≤ R.locals) {rr : Int32 × xM} (hE : xEnd l D cA sA cX12_allSlots 1 (some .int) R 0 0 (some (.inl rr.1)) rr.2 p e S0 m ag below meth c0 A0 M0 ad0 Z) (fu : Nat) (s : Nat) (M : xM) (h : F_X12_allSlots fu s M = some rr) : xWx p l e R S0 m ag below meth c0 D cA A0 sA M0 ad0 1 Z 0 0 0 0 0 [(0, .inr (.inr (12, some s)))] [] M := by
  rw [← q_X12_allSlots fu s M] at h
  have hT : ∀ w ∈ xG, w ∈ (Cond.code yX12_allSlots cX12_allSlots 1 (some .int) :: xG) := fun w hw => List.mem_cons_of_mem _ hw
  refine xrun_sound (nst := 0) (isInit := false) (kd := kdX12) X (xcls_mono hT xclsG) (xpool_mono hT plX12) (fun z => by cases z) (fun idx v hf => xkoE_mono hT (koX12_ok _ (xfind_mem hf))) (xents (ca := _) ?_) (endI hE).1 (endI hE).2 (xcuts (cu := _) ?_) pr_X12_allSlots.1 pr_X12_allSlots.2 _ _ _ _ _ _ _ _ (xat_ok pr_X12_allSlots.1 pr_X12_allSlots.2).1 (xat_ok pr_X12_allSlots.1 pr_X12_allSlots.2).2.1 (xat_ok pr_X12_allSlots.1 pr_X12_allSlots.2).2.2 h
  · exact (List.forall_mem_cons.mpr ⟨(xent_met X (ci := 12) hT cd_X12_blocks lk_X12_252 rfl (by decide) rfl (by decide +kernel) (fun z => absurd z (by decide)) (hw_X12_blocks l D cA sA fu 0) (fun _ => ⟨by decide, fun _ => ⟨TX12, 29, rfl⟩⟩) (by constructor <;> omega) (by decide)), (List.forall_mem_cons.mpr ⟨(xent_met X (ci := 12) hT cd_X12_wide lk_X12_255 rfl (by decide) rfl (by decide +kernel) (fun z => absurd z (by decide)) (hw_X12_wide l D cA sA fu 0) (fun _ => ⟨by decide, fun _ => ⟨TX12, 29, rfl⟩⟩) (by constructor <;> omega) (by decide)), (fun _ h => nomatch h)⟩)⟩)
  · exact (fun _ h => nomatch h)

theorem ok_X12_allSlots (l : Launch) (D : va_G) (cA : Nat → ClassId) (sA : Nat → Nat) (fu : Nat) (s : Nat) (M : xM) {rr : Int32 × xM} (h : F_X12_allSlots fu s M = some rr) : xMet l D cA sA yX12_allSlots cX12_allSlots 1 (some .int) xG (1 + 1) 0 0 [.inr (.inr (12, some s))] M (some (.inl rr.1)) rr.2 :=
  xmet_of (by decide +kernel) (Nat.le_of_ble_eq_true rfl) (fun p e s1 m ag below meth c0 A0 ad0 Z X hn hE => wx_X12_allSlots X hn ⟨Nat.le_refl _, Nat.le_refl _⟩ hE fu s M h)
theorem hw_X12_allSlots (l : Launch) (D : va_G) (cA : Nat → ClassId) (sA : Nat → Nat) (fu : Nat) {ρ : Type} {r0 : ρ} (kd1 : Nat) : ∀ (as : List xV) (M : xM) (k : Option xV → xM → Option ρ), w_X12_allSlots fu as M k = some r0 → ∃ v M', xMet l D cA sA yX12_allSlots cX12_allSlots 1 (some .int) xG (1 + 1) 0 0 as M v M' ∧ k v M' = some r0 ∧ (kd1 ≠ 2 → ∃ a as', as = .inr (.inr (12, some a)) :: as') := by
  intro as M k h
  unfold w_X12_allSlots at h
  replace h := pR_some h
  obtain ⟨o, as1, rfl, h⟩ := h
  replace h := bd_some h
  obtain ⟨s, rfl, h⟩ := h
  replace h := xe_some h
  obtain ⟨rfl, h⟩ := h
  obtain ⟨p1, hp, h⟩ := Option.bind_eq_some_iff.mp h
  exact ⟨_, _, ok_X12_allSlots l D cA sA fu s M hp, h, fun _ => ⟨_, _, rfl⟩⟩
theorem cd_X12_slotAt : Cond.code yX12_slotAt cX12_slotAt 2 (some .int) ∈ xG := (xg 1792 (by decide +kernel) (by decide +kernel))
theorem pr_X12_slotAt : (∀ e ∈ pX12_slotAt, xrow cX12_slotAt 2 kdX12 flX12 0 false RX12 e) ∧ xnext pX12_slotAt = true := xrows (by decide +kernel)
set_option maxRecDepth 100000 in
theorem wx_X12_slotAt (X : xCtx p R S0 m ag c0 D cA A0 sA 2 cX12_slotAt RX12 (.code yX12_slotAt cX12_slotAt 2 (some .int) :: xG) 0 0) (hi : meth.name = yX12_slotAt.name) (hroom : 0 + 2 ≤ R.frames ∧ 60 * (0 + 2) ≤ R.locals) {rr : Int32 × xM} (hE : xEnd l D cA sA cX12_slotAt 2 (some .int) R 0 0 (some (.inl rr.1)) rr.2 p e S0 m ag below meth c0 A0 M0 ad0 Z) (fu : Nat) (x0 : Int32) (x1 : Int32) (M : xM) (h : F_X12_slotAt fu x0 x1 M = some rr) : xWx p l e R S0 m ag below meth c0 D cA A0 sA M0 ad0 2 Z 0 0 0 0 0 [(0, .inl x0), (1, .inl x1)] [] M := by
  rw [← q_X12_slotAt fu x0 x1 M] at h
  have hT : ∀ w ∈ xG, w ∈ (Cond.code yX12_slotAt cX12_slotAt 2 (some .int) :: xG) := fun w hw => List.mem_cons_of_mem _ hw
  refine xrun_sound (nst := 0) (isInit := false) (kd := kdX12) X (xcls_mono hT xclsG) (xpool_mono hT plX12) (fun z => by cases z) (fun idx v hf => xkoE_mono hT (koX12_ok _ (xfind_mem hf))) (xents (ca := _) ?_) (endI hE).1 (endI hE).2 (xcuts (cu := _) ?_) pr_X12_slotAt.1 pr_X12_slotAt.2 _ _ _ _ _ _ _ _ (xat_ok pr_X12_slotAt.1 pr_X12_slotAt.2).1 (xat_ok pr_X12_slotAt.1 pr_X12_slotAt.2).2.1 (xat_ok pr_X12_slotAt.1 pr_X12_slotAt.2).2.2 h
  · exact (fun _ h => nomatch h)
  · exact (fun _ h => nomatch h)

theorem ok_X12_slotAt (l : Launch) (D : va_G) (cA : Nat → ClassId) (sA : Nat → Nat) (fu : Nat) (x0 : Int32) (x1 : Int32) (M : xM) {rr : Int32 × xM} (h : F_X12_slotAt fu x0 x1 M = some rr) : xMet l D cA sA yX12_slotAt cX12_slotAt 2 (some .int) xG (0 + 1) 0 0 [.inl x0, .inl x1] M (some (.inl rr.1)) rr.2 :=
  xmet_of (by decide +kernel) (Nat.le_of_ble_eq_true rfl) (fun p e s1 m ag below meth c0 A0 ad0 Z X hn hE => wx_X12_slotAt X hn ⟨Nat.le_refl _, Nat.le_refl _⟩ hE fu x0 x1 M h)
theorem hw_X12_slotAt (l : Launch) (D : va_G) (cA : Nat → ClassId) (sA : Nat → Nat) (fu : Nat) {ρ : Type} {r0 : ρ} (kd1 : Nat) (hk2 : kd1 = 2) : ∀ (as : List xV) (M : xM) (k : Option xV → xM → Option ρ), w_X12_slotAt fu as M k = some r0 → ∃ v M', xMet l D cA sA yX12_slotAt cX12_slotAt 2 (some .int) xG (0 + 1) 0 0 as M v M' ∧ k v M' = some r0 ∧ (kd1 ≠ 2 → ∃ a as', as = .inr (.inr (12, some a)) :: as') := by
  intro as M k h
  unfold w_X12_slotAt at h
  replace h := pI_some h
  obtain ⟨x0, as1, rfl, h⟩ := h
  replace h := pI_some h
  obtain ⟨x1, as1, rfl, h⟩ := h
  replace h := xe_some h
  obtain ⟨rfl, h⟩ := h
  obtain ⟨p1, hp, h⟩ := Option.bind_eq_some_iff.mp h
  exact ⟨_, _, ok_X12_slotAt l D cA sA fu x0 x1 M hp, h, fun z => absurd hk2 z⟩
theorem lk_X12_264 : xLink xG RX12 264 2 yX12_slotAt 2 := ⟨(xg 1790 (by decide +kernel) (by decide +kernel)), (xg 1791 (by decide +kernel) (by decide +kernel)), (xg 141 (by decide +kernel) (by decide +kernel))⟩
theorem lk_X12_277 : xLink xG RX12 277 0 yX12_allSlots 0 := ⟨Or.inl (xg 1771 (by decide +kernel) (by decide +kernel)), (xg 1773 (by decide +kernel) (by decide +kernel)), (xg 68 (by decide +kernel) (by decide +kernel)), (xg 141 (by decide +kernel) (by decide +kernel)), ⟨12, by decide, TX12, 29, rfl⟩⟩
theorem cd_X12_hasPart : Cond.code yX12_hasPart cX12_hasPart 8 (some .boolean) ∈ xG := (xg 1800 (by decide +kernel) (by decide +kernel))
theorem pr_X12_hasPart : (∀ e ∈ pX12_hasPart, xrow cX12_hasPart 8 kdX12 flX12 0 false RX12 e) ∧ xnext pX12_hasPart = true := xrows (by decide +kernel)
set_option maxRecDepth 100000 in
theorem wx_X12_hasPart_6 (X : xCtx p R S0 m ag c0 D cA A0 sA 8 cX12_hasPart RX12 (.code yX12_hasPart cX12_hasPart 8 (some .boolean) :: xG) 0 0) (hi : meth.name = yX12_hasPart.name) (hroom : 2 + 2 ≤ R.frames ∧ 60 * (2 + 2) ≤ R.locals) {rr : Int32 × xM} (hE : xEnd l D cA sA cX12_hasPart 8 (some .boolean) R 0 0 (some (.inl rr.1)) rr.2 p e S0 m ag below meth c0 A0 M0 ad0 Z) (fu : Nat) : ∀ (n : Nat) (s : Nat) (x1 : Int32) (x2 : Int32) (x3 : Int32) (x4 : Int32) (x5 : Int32) (x6 : Int32) (M : xM), L_X12_hasPart_6 fu n s x1 x2 x3 x4 x5 x6 M = some rr → xWx p l e R S0 m ag below meth c0 D cA A0 sA M0 ad0 8 Z 0 0 6 0 0 [(0, .inr (.inr (12, some s))), (1, .inl x1), (2, .inl x2), (3, .inl x3), (4, .inl x4), (5, .inl x5), (6, .inl x6)] [] M := by
  intro n
  induction n with
  | zero => intro s x1 x2 x3 x4 x5 x6 M h; cases h
  | succ n ih =>
    intro s x1 x2 x3 x4 x5 x6 M h
    rw [← q_X12_hasPart_6 fu n s x1 x2 x3 x4 x5 x6 M] at h
    have hT : ∀ w ∈ xG, w ∈ (Cond.code yX12_hasPart cX12_hasPart 8 (some .boolean) :: xG) := fun w hw => List.mem_cons_of_mem _ hw
    refine xrun_sound (nst := 0) (isInit := false) (kd := kdX12) X (xcls_mono hT xclsG) (xpool_mono hT plX12) (fun z => by cases z) (fun idx v hf => xkoE_mono hT (koX12_ok _ (xfind_mem hf))) (xents (ca := _) ?_) (endZ hE).1 (endZ hE).2 (xcuts (cu := _) ?_) pr_X12_hasPart.1 pr_X12_hasPart.2 _ _ _ _ _ _ _ _ (xat_ok pr_X12_hasPart.1 pr_X12_hasPart.2).1 (xat_ok pr_X12_hasPart.1 pr_X12_hasPart.2).2.1 (xat_ok pr_X12_hasPart.1 pr_X12_hasPart.2).2.2 h
    · exact (List.forall_mem_cons.mpr ⟨(xent_met X (ci := 12) hT cd_X12_slotAt lk_X12_264 rfl (by decide) rfl (by decide +kernel) (fun z => absurd z (by decide)) (hw_X12_slotAt l D cA sA fu 2 rfl) (fun z => absurd rfl z) (by constructor <;> omega) (by decide)), (List.forall_mem_cons.mpr ⟨(xent_met X (ci := 12) hT cd_X12_allSlots lk_X12_277 rfl (by decide) rfl (by decide +kernel) (fun z => absurd z (by decide)) (hw_X12_allSlots l D cA sA fu 0) (fun _ => ⟨by decide, fun _ => ⟨TX12, 29, rfl⟩⟩) (by constructor <;> omega) (by decide)), (fun _ h => nomatch h)⟩)⟩)
    · refine (List.forall_mem_cons.mpr ⟨?_, (fun _ h => nomatch h)⟩)
      · intro bc bs ls st M h
        replace h := xz_some h
        obtain ⟨rfl, rfl, h⟩ := h
        replace h := lR_some h
        obtain ⟨o, e0, h⟩ := h
        replace h := bd_some h
        obtain ⟨s', rfl, h⟩ := h
        replace h := lI_some h
        obtain ⟨x1', e1, h⟩ := h
        replace h := lI_some h
        obtain ⟨x2', e2, h⟩ := h
        replace h := lI_some h
        obtain ⟨x3', e3, h⟩ := h
        replace h := lI_some h
        obtain ⟨x4', e4, h⟩ := h
        replace h := lI_some h
        obtain ⟨x5', e5, h⟩ := h
        replace h := lI_some h
        obtain ⟨x6', e6, h⟩ := h
        replace h := xe_some h
        obtain ⟨rfl, h⟩ := h
        exact xWx_ls (ih s' x1' x2' x3' x4' x5' x6' M h) (List.forall_mem_cons.mpr ⟨e0, (List.forall_mem_cons.mpr ⟨e1, (List.forall_mem_cons.mpr ⟨e2, (List.forall_mem_cons.mpr ⟨e3, (List.forall_mem_cons.mpr ⟨e4, (List.forall_mem_cons.mpr ⟨e5, (List.forall_mem_cons.mpr ⟨e6, (fun _ h => nomatch h)⟩)⟩)⟩)⟩)⟩)⟩)⟩)

set_option maxRecDepth 100000 in
theorem wx_X12_hasPart (X : xCtx p R S0 m ag c0 D cA A0 sA 8 cX12_hasPart RX12 (.code yX12_hasPart cX12_hasPart 8 (some .boolean) :: xG) 0 0) (hi : meth.name = yX12_hasPart.name) (hroom : 2 + 2 ≤ R.frames ∧ 60 * (2 + 2) ≤ R.locals) {rr : Int32 × xM} (hE : xEnd l D cA sA cX12_hasPart 8 (some .boolean) R 0 0 (some (.inl rr.1)) rr.2 p e S0 m ag below meth c0 A0 M0 ad0 Z) (fu : Nat) (s : Nat) (x1 : Int32) (x2 : Int32) (x3 : Int32) (x4 : Int32) (M : xM) (h : F_X12_hasPart fu s x1 x2 x3 x4 M = some rr) : xWx p l e R S0 m ag below meth c0 D cA A0 sA M0 ad0 8 Z 0 0 0 0 0 [(0, .inr (.inr (12, some s))), (1, .inl x1), (2, .inl x2), (3, .inl x3), (4, .inl x4)] [] M := by
  rw [← q_X12_hasPart fu s x1 x2 x3 x4 M] at h
  have hT : ∀ w ∈ xG, w ∈ (Cond.code yX12_hasPart cX12_hasPart 8 (some .boolean) :: xG) := fun w hw => List.mem_cons_of_mem _ hw
  refine xrun_sound (nst := 0) (isInit := false) (kd := kdX12) X (xcls_mono hT xclsG) (xpool_mono hT plX12) (fun z => by cases z) (fun idx v hf => xkoE_mono hT (koX12_ok _ (xfind_mem hf))) (xents (ca := _) ?_) (endZ hE).1 (endZ hE).2 (xcuts (cu := _) ?_) pr_X12_hasPart.1 pr_X12_hasPart.2 _ _ _ _ _ _ _ _ (xat_ok pr_X12_hasPart.1 pr_X12_hasPart.2).1 (xat_ok pr_X12_hasPart.1 pr_X12_hasPart.2).2.1 (xat_ok pr_X12_hasPart.1 pr_X12_hasPart.2).2.2 h
  · exact (fun _ h => nomatch h)
  · refine (List.forall_mem_cons.mpr ⟨?_, (fun _ h => nomatch h)⟩)
    · intro bc bs ls st M h
      replace h := xz_some h
      obtain ⟨rfl, rfl, h⟩ := h
      replace h := lR_some h
      obtain ⟨o, e0, h⟩ := h
      replace h := bd_some h
      obtain ⟨s', rfl, h⟩ := h
      replace h := lI_some h
      obtain ⟨x1', e1, h⟩ := h
      replace h := lI_some h
      obtain ⟨x2', e2, h⟩ := h
      replace h := lI_some h
      obtain ⟨x3', e3, h⟩ := h
      replace h := lI_some h
      obtain ⟨x4', e4, h⟩ := h
      replace h := lI_some h
      obtain ⟨x5', e5, h⟩ := h
      replace h := lI_some h
      obtain ⟨x6', e6, h⟩ := h
      replace h := xe_some h
      obtain ⟨rfl, h⟩ := h
      exact xWx_ls (wx_X12_hasPart_6 X hi hroom hE fu fu s' x1' x2' x3' x4' x5' x6' M h) (List.forall_mem_cons.mpr ⟨e0, (List.forall_mem_cons.mpr ⟨e1, (List.forall_mem_cons.mpr ⟨e2, (List.forall_mem_cons.mpr ⟨e3, (List.forall_mem_cons.mpr ⟨e4, (List.forall_mem_cons.mpr ⟨e5, (List.forall_mem_cons.mpr ⟨e6, (fun _ h => nomatch h)⟩)⟩)⟩)⟩)⟩)⟩)⟩)

theorem ok_X12_hasPart (l : Launch) (D : va_G) (cA : Nat → ClassId) (sA : Nat → Nat) (fu : Nat) (s : Nat) (x1 : Int32) (x2 : Int32) (x3 : Int32) (x4 : Int32) (M : xM) {rr : Int32 × xM} (h : F_X12_hasPart fu s x1 x2 x3 x4 M = some rr) : xMet l D cA sA yX12_hasPart cX12_hasPart 8 (some .boolean) xG (2 + 1) 0 0 [.inr (.inr (12, some s)), .inl x1, .inl x2, .inl x3, .inl x4] M (some (.inl rr.1)) rr.2 :=
  xmet_of (by decide +kernel) (Nat.le_of_ble_eq_true rfl) (fun p e s1 m ag below meth c0 A0 ad0 Z X hn hE => wx_X12_hasPart X hn ⟨Nat.le_refl _, Nat.le_refl _⟩ hE fu s x1 x2 x3 x4 M h)
theorem hw_X12_hasPart (l : Launch) (D : va_G) (cA : Nat → ClassId) (sA : Nat → Nat) (fu : Nat) {ρ : Type} {r0 : ρ} (kd1 : Nat) : ∀ (as : List xV) (M : xM) (k : Option xV → xM → Option ρ), w_X12_hasPart fu as M k = some r0 → ∃ v M', xMet l D cA sA yX12_hasPart cX12_hasPart 8 (some .boolean) xG (2 + 1) 0 0 as M v M' ∧ k v M' = some r0 ∧ (kd1 ≠ 2 → ∃ a as', as = .inr (.inr (12, some a)) :: as') := by
  intro as M k h
  unfold w_X12_hasPart at h
  replace h := pR_some h
  obtain ⟨o, as1, rfl, h⟩ := h
  replace h := bd_some h
  obtain ⟨s, rfl, h⟩ := h
  replace h := pI_some h
  obtain ⟨x1, as1, rfl, h⟩ := h
  replace h := pI_some h
  obtain ⟨x2, as1, rfl, h⟩ := h
  replace h := pI_some h
  obtain ⟨x3, as1, rfl, h⟩ := h
  replace h := pI_some h
  obtain ⟨x4, as1, rfl, h⟩ := h
  replace h := xe_some h
  obtain ⟨rfl, h⟩ := h
  obtain ⟨p1, hp, h⟩ := Option.bind_eq_some_iff.mp h
  exact ⟨_, _, ok_X12_hasPart l D cA sA fu s x1 x2 x3 x4 M hp, h, fun _ => ⟨_, _, rfl⟩⟩
theorem lk_X12_286 : xLink xG RX12 286 0 yX12_hasPart 4 := ⟨Or.inl (xg 1797 (by decide +kernel) (by decide +kernel)), (xg 1799 (by decide +kernel) (by decide +kernel)), (xg 73 (by decide +kernel) (by decide +kernel)), (xg 141 (by decide +kernel) (by decide +kernel)), ⟨12, by decide, TX12, 29, rfl⟩⟩
theorem cd_X12_looks : Cond.code yX12_looks cX12_looks 7 none ∈ xG := (xg 1796 (by decide +kernel) (by decide +kernel))
theorem pr_X12_looks : (∀ e ∈ pX12_looks, xrow cX12_looks 7 kdX12 flX12 0 false RX12 e) ∧ xnext pX12_looks = true := xrows (by decide +kernel)
set_option maxRecDepth 100000 in
theorem wx_X12_looks_153 (X : xCtx p R S0 m ag c0 D cA A0 sA 7 cX12_looks RX12 (.code yX12_looks cX12_looks 7 none :: xG) 0 0) (hi : meth.name = yX12_looks.name) (hroom : 3 + 2 ≤ R.frames ∧ 60 * (3 + 2) ≤ R.locals) {rr : xM} (hE : xEnd l D cA sA cX12_looks 7 none R 0 0 none rr p e S0 m ag below meth c0 A0 M0 ad0 Z) (fu : Nat) (k26 : Nat → Int32 → Int32 → xM → Option xM) (hk26 : ∀ (s : Nat) (x1 : Int32) (x2 : Int32) (M : xM), k26 s x1 x2 M = some rr → xWx p l e R S0 m ag below meth c0 D cA A0 sA M0 ad0 7 Z 0 0 26 0 0 [(0, .inr (.inr (12, some s))), (1, .inl x1), (2, .inl x2)] [] M) (s : Nat) (x1 : Int32) (x2 : Int32) (x3 : Int32) (x5 : Int32) (y0 : Int32) (y1 : Nat) (M : xM) (h : J_X12_looks_153 fu k26 s x1 x2 x3 x5 y0 y1 M = some rr) : xWx p l e R S0 m ag below meth c0 D cA A0 sA M0 ad0 7 Z 0 0 153 0 0 [(0, .inr (.inr (12, some s))), (1, .inl x1), (2, .inl x2), (3, .inl x3), (5, .inl x5)] [.inl y0, .inr (.inr (12, some y1))] M := by
  rw [← q_X12_looks_153 fu k26 s x1 x2 x3 x5 y0 y1 M] at h
  have hT : ∀ w ∈ xG, w ∈ (Cond.code yX12_looks cX12_looks 7 none :: xG) := fun w hw => List.mem_cons_of_mem _ hw
  refine xrun_sound (nst := 0) (isInit := false) (kd := kdX12) X (xcls_mono hT xclsG) (xpool_mono hT plX12) (fun z => by cases z) (fun idx v hf => xkoE_mono hT (koX12_ok _ (xfind_mem hf))) (xents (ca := _) ?_) (endV hE).1 (endV hE).2 (xcuts (cu := _) ?_) pr_X12_looks.1 pr_X12_looks.2 _ _ _ _ _ _ _ _ (xat_ok pr_X12_looks.1 pr_X12_looks.2).1 (xat_ok pr_X12_looks.1 pr_X12_looks.2).2.1 (xat_ok pr_X12_looks.1 pr_X12_looks.2).2.2 h
  · exact (fun _ h => nomatch h)
  · refine (List.forall_mem_cons.mpr ⟨?_, (fun _ h => nomatch h)⟩)
    · intro bc bs ls st M h
      replace h := xz_some h
      obtain ⟨rfl, rfl, h⟩ := h
      replace h := lR_some h
      obtain ⟨o, e0, h⟩ := h
      replace h := bd_some h
      obtain ⟨s', rfl, h⟩ := h
      replace h := lI_some h
      obtain ⟨x1', e1, h⟩ := h
      replace h := lI_some h
      obtain ⟨x2', e2, h⟩ := h
      replace h := xe_some h
      obtain ⟨rfl, h⟩ := h
      exact xWx_ls (hk26 s' x1' x2' M h) (List.forall_mem_cons.mpr ⟨e0, (List.forall_mem_cons.mpr ⟨e1, (List.forall_mem_cons.mpr ⟨e2, (fun _ h => nomatch h)⟩)⟩)⟩)

set_option maxRecDepth 100000 in
theorem wx_X12_looks_84 (X : xCtx p R S0 m ag c0 D cA A0 sA 7 cX12_looks RX12 (.code yX12_looks cX12_looks 7 none :: xG) 0 0) (hi : meth.name = yX12_looks.name) (hroom : 3 + 2 ≤ R.frames ∧ 60 * (3 + 2) ≤ R.locals) {rr : xM} (hE : xEnd l D cA sA cX12_looks 7 none R 0 0 none rr p e S0 m ag below meth c0 A0 M0 ad0 Z) (fu : Nat) (k26 : Nat → Int32 → Int32 → xM → Option xM) (hk26 : ∀ (s : Nat) (x1 : Int32) (x2 : Int32) (M : xM), k26 s x1 x2 M = some rr → xWx p l e R S0 m ag below meth c0 D cA A0 sA M0 ad0 7 Z 0 0 26 0 0 [(0, .inr (.inr (12, some s))), (1, .inl x1), (2, .inl x2)] [] M) : ∀ (n : Nat) (s : Nat) (x1 : Int32) (x2 : Int32) (x3 : Int32) (x4 : Int32) (x5 : Int32) (x6 : Int32) (M : xM), L_X12_looks_84 fu k26 n s x1 x2 x3 x4 x5 x6 M = some rr → xWx p l e R S0 m ag below meth c0 D cA A0 sA M0 ad0 7 Z 0 0 84 0 0 [(0, .inr (.inr (12, some s))), (1, .inl x1), (2, .inl x2), (3, .inl x3), (4, .inl x4), (5, .inl x5), (6, .inl x6)] [] M := by
  intro n
  induction n with
  | zero => intro s x1 x2 x3 x4 x5 x6 M h; cases h
  | succ n ih =>
    intro s x1 x2 x3 x4 x5 x6 M h
    rw [← q_X12_looks_84 fu k26 n s x1 x2 x3 x4 x5 x6 M] at h
    have hT : ∀ w ∈ xG, w ∈ (Cond.code yX12_looks cX12_looks 7 none :: xG) := fun w hw => List.mem_cons_of_mem _ hw
    refine xrun_sound (nst := 0) (isInit := false) (kd := kdX12) X (xcls_mono hT xclsG) (xpool_mono hT plX12) (fun z => by cases z) (fun idx v hf => xkoE_mono hT (koX12_ok _ (xfind_mem hf))) (xents (ca := _) ?_) (endV hE).1 (endV hE).2 (xcuts (cu := _) ?_) pr_X12_looks.1 pr_X12_looks.2 _ _ _ _ _ _ _ _ (xat_ok pr_X12_looks.1 pr_X12_looks.2).1 (xat_ok pr_X12_looks.1 pr_X12_looks.2).2.1 (xat_ok pr_X12_looks.1 pr_X12_looks.2).2.2 h
    · exact (List.forall_mem_cons.mpr ⟨(xent_met X (ci := 12) hT cd_X12_hasPart lk_X12_286 rfl (by decide) rfl (by decide +kernel) (fun z => absurd z (by decide)) (hw_X12_hasPart l D cA sA fu 0) (fun _ => ⟨by decide, fun _ => ⟨TX12, 29, rfl⟩⟩) (by constructor <;> omega) (by decide)), (fun _ h => nomatch h)⟩)
    · refine (List.forall_mem_cons.mpr ⟨?_, (List.forall_mem_cons.mpr ⟨?_, (fun _ h => nomatch h)⟩)⟩)
      · intro bc bs ls st M h
        replace h := xz_some h
        obtain ⟨rfl, rfl, h⟩ := h
        replace h := lR_some h
        obtain ⟨o, e0, h⟩ := h
        replace h := bd_some h
        obtain ⟨s', rfl, h⟩ := h
        replace h := lI_some h
        obtain ⟨x1', e1, h⟩ := h
        replace h := lI_some h
        obtain ⟨x2', e2, h⟩ := h
        replace h := lI_some h
        obtain ⟨x3', e3, h⟩ := h
        replace h := lI_some h
        obtain ⟨x4', e4, h⟩ := h
        replace h := lI_some h
        obtain ⟨x5', e5, h⟩ := h
        replace h := lI_some h
        obtain ⟨x6', e6, h⟩ := h
        replace h := xe_some h
        obtain ⟨rfl, h⟩ := h
        exact xWx_ls (ih s' x1' x2' x3' x4' x5' x6' M h) (List.forall_mem_cons.mpr ⟨e0, (List.forall_mem_cons.mpr ⟨e1, (List.forall_mem_cons.mpr ⟨e2, (List.forall_mem_cons.mpr ⟨e3, (List.forall_mem_cons.mpr ⟨e4, (List.forall_mem_cons.mpr ⟨e5, (List.forall_mem_cons.mpr ⟨e6, (fun _ h => nomatch h)⟩)⟩)⟩)⟩)⟩)⟩)⟩)
      · intro bc bs ls st M h
        replace h := xz_some h
        obtain ⟨rfl, rfl, h⟩ := h
        replace h := lR_some h
        obtain ⟨o, e0, h⟩ := h
        replace h := bd_some h
        obtain ⟨s', rfl, h⟩ := h
        replace h := lI_some h
        obtain ⟨x1', e1, h⟩ := h
        replace h := lI_some h
        obtain ⟨x2', e2, h⟩ := h
        replace h := lI_some h
        obtain ⟨x3', e3, h⟩ := h
        replace h := lI_some h
        obtain ⟨x5', e5, h⟩ := h
        replace h := pI_some h
        obtain ⟨y0', st, rfl, h⟩ := h
        replace h := pR_some h
        obtain ⟨o, st, rfl, h⟩ := h
        replace h := bd_some h
        obtain ⟨y1', rfl, h⟩ := h
        replace h := xe_some h
        obtain ⟨rfl, h⟩ := h
        exact xWx_ls (wx_X12_looks_153 X hi hroom hE fu k26 hk26 s' x1' x2' x3' x5' y0' y1' M h) (List.forall_mem_cons.mpr ⟨e0, (List.forall_mem_cons.mpr ⟨e1, (List.forall_mem_cons.mpr ⟨e2, (List.forall_mem_cons.mpr ⟨e3, (List.forall_mem_cons.mpr ⟨e5, (fun _ h => nomatch h)⟩)⟩)⟩)⟩)⟩)

set_option maxRecDepth 100000 in
theorem wx_X12_looks_26 (X : xCtx p R S0 m ag c0 D cA A0 sA 7 cX12_looks RX12 (.code yX12_looks cX12_looks 7 none :: xG) 0 0) (hi : meth.name = yX12_looks.name) (hroom : 3 + 2 ≤ R.frames ∧ 60 * (3 + 2) ≤ R.locals) {rr : xM} (hE : xEnd l D cA sA cX12_looks 7 none R 0 0 none rr p e S0 m ag below meth c0 A0 M0 ad0 Z) (fu : Nat) : ∀ (n : Nat) (s : Nat) (x1 : Int32) (x2 : Int32) (M : xM), L_X12_looks_26 fu n s x1 x2 M = some rr → xWx p l e R S0 m ag below meth c0 D cA A0 sA M0 ad0 7 Z 0 0 26 0 0 [(0, .inr (.inr (12, some s))), (1, .inl x1), (2, .inl x2)] [] M := by
  intro n
  induction n with
  | zero => intro s x1 x2 M h; cases h
  | succ n ih =>
    intro s x1 x2 M h
    rw [← q_X12_looks_26 fu n s x1 x2 M] at h
    have hT : ∀ w ∈ xG, w ∈ (Cond.code yX12_looks cX12_looks 7 none :: xG) := fun w hw => List.mem_cons_of_mem _ hw
    refine xrun_sound (nst := 0) (isInit := false) (kd := kdX12) X (xcls_mono hT xclsG) (xpool_mono hT plX12) (fun z => by cases z) (fun idx v hf => xkoE_mono hT (koX12_ok _ (xfind_mem hf))) (xents (ca := _) ?_) (endV hE).1 (endV hE).2 (xcuts (cu := _) ?_) pr_X12_looks.1 pr_X12_looks.2 _ _ _ _ _ _ _ _ (xat_ok pr_X12_looks.1 pr_X12_looks.2).1 (xat_ok pr_X12_looks.1 pr_X12_looks.2).2.1 (xat_ok pr_X12_looks.1 pr_X12_looks.2).2.2 h
    · exact (List.forall_mem_cons.mpr ⟨(xent_met X (ci := 12) hT cd_X12_slotAt lk_X12_264 rfl (by decide) rfl (by decide +kernel) (fun z => absurd z (by decide)) (hw_X12_slotAt l D cA sA fu 2 rfl) (fun z => absurd rfl z) (by constructor <;> omega) (by decide)), (List.forall_mem_cons.mpr ⟨(xent_met X (ci := 12) hT cd_X12_allSlots lk_X12_277 rfl (by decide) rfl (by decide +kernel) (fun z => absurd z (by decide)) (hw_X12_allSlots l D cA sA fu 0) (fun _ => ⟨by decide, fun _ => ⟨TX12, 29, rfl⟩⟩) (by constructor <;> omega) (by decide)), (fun _ h => nomatch h)⟩)⟩)
    · refine (List.forall_mem_cons.mpr ⟨?_, (List.forall_mem_cons.mpr ⟨?_, (fun _ h => nomatch h)⟩)⟩)
      · intro bc bs ls st M h
        replace h := xz_some h
        obtain ⟨rfl, rfl, h⟩ := h
        replace h := lR_some h
        obtain ⟨o, e0, h⟩ := h
        replace h := bd_some h
        obtain ⟨s', rfl, h⟩ := h
        replace h := lI_some h
        obtain ⟨x1', e1, h⟩ := h
        replace h := lI_some h
        obtain ⟨x2', e2, h⟩ := h
        replace h := xe_some h
        obtain ⟨rfl, h⟩ := h
        exact xWx_ls (ih s' x1' x2' M h) (List.forall_mem_cons.mpr ⟨e0, (List.forall_mem_cons.mpr ⟨e1, (List.forall_mem_cons.mpr ⟨e2, (fun _ h => nomatch h)⟩)⟩)⟩)
      · intro bc bs ls st M h
        replace h := xz_some h
        obtain ⟨rfl, rfl, h⟩ := h
        replace h := lR_some h
        obtain ⟨o, e0, h⟩ := h
        replace h := bd_some h
        obtain ⟨s', rfl, h⟩ := h
        replace h := lI_some h
        obtain ⟨x1', e1, h⟩ := h
        replace h := lI_some h
        obtain ⟨x2', e2, h⟩ := h
        replace h := lI_some h
        obtain ⟨x3', e3, h⟩ := h
        replace h := lI_some h
        obtain ⟨x4', e4, h⟩ := h
        replace h := lI_some h
        obtain ⟨x5', e5, h⟩ := h
        replace h := lI_some h
        obtain ⟨x6', e6, h⟩ := h
        replace h := xe_some h
        obtain ⟨rfl, h⟩ := h
        exact xWx_ls (wx_X12_looks_84 X hi hroom hE fu _ ih fu s' x1' x2' x3' x4' x5' x6' M h) (List.forall_mem_cons.mpr ⟨e0, (List.forall_mem_cons.mpr ⟨e1, (List.forall_mem_cons.mpr ⟨e2, (List.forall_mem_cons.mpr ⟨e3, (List.forall_mem_cons.mpr ⟨e4, (List.forall_mem_cons.mpr ⟨e5, (List.forall_mem_cons.mpr ⟨e6, (fun _ h => nomatch h)⟩)⟩)⟩)⟩)⟩)⟩)⟩)

set_option maxRecDepth 100000 in
theorem wx_X12_looks (X : xCtx p R S0 m ag c0 D cA A0 sA 7 cX12_looks RX12 (.code yX12_looks cX12_looks 7 none :: xG) 0 0) (hi : meth.name = yX12_looks.name) (hroom : 3 + 2 ≤ R.frames ∧ 60 * (3 + 2) ≤ R.locals) {rr : xM} (hE : xEnd l D cA sA cX12_looks 7 none R 0 0 none rr p e S0 m ag below meth c0 A0 M0 ad0 Z) (fu : Nat) (s : Nat) (x1 : Int32) (M : xM) (h : F_X12_looks fu s x1 M = some rr) : xWx p l e R S0 m ag below meth c0 D cA A0 sA M0 ad0 7 Z 0 0 0 0 0 [(0, .inr (.inr (12, some s))), (1, .inl x1)] [] M := by
  rw [← q_X12_looks fu s x1 M] at h
  have hT : ∀ w ∈ xG, w ∈ (Cond.code yX12_looks cX12_looks 7 none :: xG) := fun w hw => List.mem_cons_of_mem _ hw
  refine xrun_sound (nst := 0) (isInit := false) (kd := kdX12) X (xcls_mono hT xclsG) (xpool_mono hT plX12) (fun z => by cases z) (fun idx v hf => xkoE_mono hT (koX12_ok _ (xfind_mem hf))) (xents (ca := _) ?_) (endV hE).1 (endV hE).2 (xcuts (cu := _) ?_) pr_X12_looks.1 pr_X12_looks.2 _ _ _ _ _ _ _ _ (xat_ok pr_X12_looks.1 pr_X12_looks.2).1 (xat_ok pr_X12_looks.1 pr_X12_looks.2).2.1 (xat_ok pr_X12_looks.1 pr_X12_looks.2).2.2 h
  · exact (fun _ h => nomatch h)
  · refine (List.forall_mem_cons.mpr ⟨?_, (fun _ h => nomatch h)⟩)
    · intro bc bs ls st M h
      replace h := xz_some h
      obtain ⟨rfl, rfl, h⟩ := h
      replace h := lR_some h
      obtain ⟨o, e0, h⟩ := h
      replace h := bd_some h
      obtain ⟨s', rfl, h⟩ := h
      replace h := lI_some h
      obtain ⟨x1', e1, h⟩ := h
      replace h := lI_some h
      obtain ⟨x2', e2, h⟩ := h
      replace h := xe_some h
      obtain ⟨rfl, h⟩ := h
      exact xWx_ls (wx_X12_looks_26 X hi hroom hE fu fu s' x1' x2' M h) (List.forall_mem_cons.mpr ⟨e0, (List.forall_mem_cons.mpr ⟨e1, (List.forall_mem_cons.mpr ⟨e2, (fun _ h => nomatch h)⟩)⟩)⟩)

theorem ok_X12_looks (l : Launch) (D : va_G) (cA : Nat → ClassId) (sA : Nat → Nat) (fu : Nat) (s : Nat) (x1 : Int32) (M : xM) {rr : xM} (h : F_X12_looks fu s x1 M = some rr) : xMet l D cA sA yX12_looks cX12_looks 7 none xG (3 + 1) 0 0 [.inr (.inr (12, some s)), .inl x1] M none rr :=
  xmet_of (by decide +kernel) (Nat.le_of_ble_eq_true rfl) (fun p e s1 m ag below meth c0 A0 ad0 Z X hn hE => wx_X12_looks X hn ⟨Nat.le_refl _, Nat.le_refl _⟩ hE fu s x1 M h)
theorem hw_X12_looks (l : Launch) (D : va_G) (cA : Nat → ClassId) (sA : Nat → Nat) (fu : Nat) {ρ : Type} {r0 : ρ} (kd1 : Nat) : ∀ (as : List xV) (M : xM) (k : Option xV → xM → Option ρ), w_X12_looks fu as M k = some r0 → ∃ v M', xMet l D cA sA yX12_looks cX12_looks 7 none xG (3 + 1) 0 0 as M v M' ∧ k v M' = some r0 ∧ (kd1 ≠ 2 → ∃ a as', as = .inr (.inr (12, some a)) :: as') := by
  intro as M k h
  unfold w_X12_looks at h
  replace h := pR_some h
  obtain ⟨o, as1, rfl, h⟩ := h
  replace h := bd_some h
  obtain ⟨s, rfl, h⟩ := h
  replace h := pI_some h
  obtain ⟨x1, as1, rfl, h⟩ := h
  replace h := xe_some h
  obtain ⟨rfl, h⟩ := h
  obtain ⟨p1, hp, h⟩ := Option.bind_eq_some_iff.mp h
  exact ⟨_, _, ok_X12_looks l D cA sA fu s x1 M hp, h, fun _ => ⟨_, _, rfl⟩⟩
theorem cd_X12_typeOf : Cond.code yX12_typeOf cX12_typeOf 3 (some .int) ∈ xG := (xg 1789 (by decide +kernel) (by decide +kernel))
theorem pr_X12_typeOf : (∀ e ∈ pX12_typeOf, xrow cX12_typeOf 3 kdX12 flX12 0 false RX12 e) ∧ xnext pX12_typeOf = true := xrows (by decide +kernel)
set_option maxRecDepth 100000 in
theorem wx_X12_typeOf (X : xCtx p R S0 m ag c0 D cA A0 sA 3 cX12_typeOf RX12 (.code yX12_typeOf cX12_typeOf 3 (some .int) :: xG) 0 0) (hi : meth.name = yX12_typeOf.name) (hroom : 1 + 2 ≤ R.frames ∧ 60 * (1 + 2) ≤ R.locals) {rr : Int32 × xM} (hE : xEnd l D cA sA cX12_typeOf 3 (some .int) R 0 0 (some (.inl rr.1)) rr.2 p e S0 m ag below meth c0 A0 M0 ad0 Z) (fu : Nat) (s : Nat) (x1 : Int32) (x2 : Int32) (M : xM) (h : F_X12_typeOf fu s x1 x2 M = some rr) : xWx p l e R S0 m ag below meth c0 D cA A0 sA M0 ad0 3 Z 0 0 0 0 0 [(0, .inr (.inr (12, some s))), (1, .inl x1), (2, .inl x2)] [] M := by
  rw [← q_X12_typeOf fu s x1 x2 M] at h
  have hT : ∀ w ∈ xG, w ∈ (Cond.code yX12_typeOf cX12_typeOf 3 (some .int) :: xG) := fun w hw => List.mem_cons_of_mem _ hw
  refine xrun_sound (nst := 0) (isInit := false) (kd := kdX12) X (xcls_mono hT xclsG) (xpool_mono hT plX12) (fun z => by cases z) (fun idx v hf => xkoE_mono hT (koX12_ok _ (xfind_mem hf))) (xents (ca := _) ?_) (endI hE).1 (endI hE).2 (xcuts (cu := _) ?_) pr_X12_typeOf.1 pr_X12_typeOf.2 _ _ _ _ _ _ _ _ (xat_ok pr_X12_typeOf.1 pr_X12_typeOf.2).1 (xat_ok pr_X12_typeOf.1 pr_X12_typeOf.2).2.1 (xat_ok pr_X12_typeOf.1 pr_X12_typeOf.2).2.2 h
  · exact (List.forall_mem_cons.mpr ⟨(xent_met X (ci := 12) hT cd_X12_slotAt lk_X12_264 rfl (by decide) rfl (by decide +kernel) (fun z => absurd z (by decide)) (hw_X12_slotAt l D cA sA fu 2 rfl) (fun z => absurd rfl z) (by constructor <;> omega) (by decide)), (fun _ h => nomatch h)⟩)
  · exact (fun _ h => nomatch h)

theorem ok_X12_typeOf (l : Launch) (D : va_G) (cA : Nat → ClassId) (sA : Nat → Nat) (fu : Nat) (s : Nat) (x1 : Int32) (x2 : Int32) (M : xM) {rr : Int32 × xM} (h : F_X12_typeOf fu s x1 x2 M = some rr) : xMet l D cA sA yX12_typeOf cX12_typeOf 3 (some .int) xG (1 + 1) 0 0 [.inr (.inr (12, some s)), .inl x1, .inl x2] M (some (.inl rr.1)) rr.2 :=
  xmet_of (by decide +kernel) (Nat.le_of_ble_eq_true rfl) (fun p e s1 m ag below meth c0 A0 ad0 Z X hn hE => wx_X12_typeOf X hn ⟨Nat.le_refl _, Nat.le_refl _⟩ hE fu s x1 x2 M h)
theorem hw_X12_typeOf (l : Launch) (D : va_G) (cA : Nat → ClassId) (sA : Nat → Nat) (fu : Nat) {ρ : Type} {r0 : ρ} (kd1 : Nat) : ∀ (as : List xV) (M : xM) (k : Option xV → xM → Option ρ), w_X12_typeOf fu as M k = some r0 → ∃ v M', xMet l D cA sA yX12_typeOf cX12_typeOf 3 (some .int) xG (1 + 1) 0 0 as M v M' ∧ k v M' = some r0 ∧ (kd1 ≠ 2 → ∃ a as', as = .inr (.inr (12, some a)) :: as') := by
  intro as M k h
  unfold w_X12_typeOf at h
  replace h := pR_some h
  obtain ⟨o, as1, rfl, h⟩ := h
  replace h := bd_some h
  obtain ⟨s, rfl, h⟩ := h
  replace h := pI_some h
  obtain ⟨x1, as1, rfl, h⟩ := h
  replace h := pI_some h
  obtain ⟨x2, as1, rfl, h⟩ := h
  replace h := xe_some h
  obtain ⟨rfl, h⟩ := h
  obtain ⟨p1, hp, h⟩ := Option.bind_eq_some_iff.mp h
  exact ⟨_, _, ok_X12_typeOf l D cA sA fu s x1 x2 M hp, h, fun _ => ⟨_, _, rfl⟩⟩
theorem cd_X12_numberOf : Cond.code yX12_numberOf cX12_numberOf 3 (some .int) ∈ xG := (xg 1816 (by decide +kernel) (by decide +kernel))
theorem pr_X12_numberOf : (∀ e ∈ pX12_numberOf, xrow cX12_numberOf 3 kdX12 flX12 0 false RX12 e) ∧ xnext pX12_numberOf = true := xrows (by decide +kernel)
set_option maxRecDepth 100000 in
theorem wx_X12_numberOf (X : xCtx p R S0 m ag c0 D cA A0 sA 3 cX12_numberOf RX12 (.code yX12_numberOf cX12_numberOf 3 (some .int) :: xG) 0 0) (hi : meth.name = yX12_numberOf.name) (hroom : 1 + 2 ≤ R.frames ∧ 60 * (1 + 2) ≤ R.locals) {rr : Int32 × xM} (hE : xEnd l D cA sA cX12_numberOf 3 (some .int) R 0 0 (some (.inl rr.1)) rr.2 p e S0 m ag below meth c0 A0 M0 ad0 Z) (fu : Nat) (s : Nat) (x1 : Int32) (x2 : Int32) (M : xM) (h : F_X12_numberOf fu s x1 x2 M = some rr) : xWx p l e R S0 m ag below meth c0 D cA A0 sA M0 ad0 3 Z 0 0 0 0 0 [(0, .inr (.inr (12, some s))), (1, .inl x1), (2, .inl x2)] [] M := by
  rw [← q_X12_numberOf fu s x1 x2 M] at h
  have hT : ∀ w ∈ xG, w ∈ (Cond.code yX12_numberOf cX12_numberOf 3 (some .int) :: xG) := fun w hw => List.mem_cons_of_mem _ hw
  refine xrun_sound (nst := 0) (isInit := false) (kd := kdX12) X (xcls_mono hT xclsG) (xpool_mono hT plX12) (fun z => by cases z) (fun idx v hf => xkoE_mono hT (koX12_ok _ (xfind_mem hf))) (xents (ca := _) ?_) (endI hE).1 (endI hE).2 (xcuts (cu := _) ?_) pr_X12_numberOf.1 pr_X12_numberOf.2 _ _ _ _ _ _ _ _ (xat_ok pr_X12_numberOf.1 pr_X12_numberOf.2).1 (xat_ok pr_X12_numberOf.1 pr_X12_numberOf.2).2.1 (xat_ok pr_X12_numberOf.1 pr_X12_numberOf.2).2.2 h
  · exact (List.forall_mem_cons.mpr ⟨(xent_met X (ci := 12) hT cd_X12_slotAt lk_X12_264 rfl (by decide) rfl (by decide +kernel) (fun z => absurd z (by decide)) (hw_X12_slotAt l D cA sA fu 2 rfl) (fun z => absurd rfl z) (by constructor <;> omega) (by decide)), (fun _ h => nomatch h)⟩)
  · exact (fun _ h => nomatch h)

theorem ok_X12_numberOf (l : Launch) (D : va_G) (cA : Nat → ClassId) (sA : Nat → Nat) (fu : Nat) (s : Nat) (x1 : Int32) (x2 : Int32) (M : xM) {rr : Int32 × xM} (h : F_X12_numberOf fu s x1 x2 M = some rr) : xMet l D cA sA yX12_numberOf cX12_numberOf 3 (some .int) xG (1 + 1) 0 0 [.inr (.inr (12, some s)), .inl x1, .inl x2] M (some (.inl rr.1)) rr.2 :=
  xmet_of (by decide +kernel) (Nat.le_of_ble_eq_true rfl) (fun p e s1 m ag below meth c0 A0 ad0 Z X hn hE => wx_X12_numberOf X hn ⟨Nat.le_refl _, Nat.le_refl _⟩ hE fu s x1 x2 M h)
theorem hw_X12_numberOf (l : Launch) (D : va_G) (cA : Nat → ClassId) (sA : Nat → Nat) (fu : Nat) {ρ : Type} {r0 : ρ} (kd1 : Nat) : ∀ (as : List xV) (M : xM) (k : Option xV → xM → Option ρ), w_X12_numberOf fu as M k = some r0 → ∃ v M', xMet l D cA sA yX12_numberOf cX12_numberOf 3 (some .int) xG (1 + 1) 0 0 as M v M' ∧ k v M' = some r0 ∧ (kd1 ≠ 2 → ∃ a as', as = .inr (.inr (12, some a)) :: as') := by
  intro as M k h
  unfold w_X12_numberOf at h
  replace h := pR_some h
  obtain ⟨o, as1, rfl, h⟩ := h
  replace h := bd_some h
  obtain ⟨s, rfl, h⟩ := h
  replace h := pI_some h
  obtain ⟨x1, as1, rfl, h⟩ := h
  replace h := pI_some h
  obtain ⟨x2, as1, rfl, h⟩ := h
  replace h := xe_some h
  obtain ⟨rfl, h⟩ := h
  obtain ⟨p1, hp, h⟩ := Option.bind_eq_some_iff.mp h
  exact ⟨_, _, ok_X12_numberOf l D cA sA fu s x1 x2 M hp, h, fun _ => ⟨_, _, rfl⟩⟩
theorem lk_X12_290 : xLink xG RX12 290 0 yX12_typeOf 2 := ⟨Or.inl (xg 1786 (by decide +kernel) (by decide +kernel)), (xg 1788 (by decide +kernel) (by decide +kernel)), (xg 71 (by decide +kernel) (by decide +kernel)), (xg 141 (by decide +kernel) (by decide +kernel)), ⟨12, by decide, TX12, 29, rfl⟩⟩
theorem lk_X12_293 : xLink xG RX12 293 0 yX12_numberOf 2 := ⟨Or.inl (xg 1813 (by decide +kernel) (by decide +kernel)), (xg 1815 (by decide +kernel) (by decide +kernel)), (xg 77 (by decide +kernel) (by decide +kernel)), (xg 141 (by decide +kernel) (by decide +kernel)), ⟨12, by decide, TX12, 29, rfl⟩⟩
theorem cd_X12_slotOf : Cond.code yX12_slotOf cX12_slotOf 6 (some .int) ∈ xG := (xg 1987 (by decide +kernel) (by decide +kernel))
theorem pr_X12_slotOf : (∀ e ∈ pX12_slotOf, xrow cX12_slotOf 6 kdX12 flX12 0 false RX12 e) ∧ xnext pX12_slotOf = true := xrows (by decide +kernel)
set_option maxRecDepth 100000 in
theorem wx_X12_slotOf_11 (X : xCtx p R S0 m ag c0 D cA A0 sA 6 cX12_slotOf RX12 (.code yX12_slotOf cX12_slotOf 6 (some .int) :: xG) 0 0) (hi : meth.name = yX12_slotOf.name) (hroom : 2 + 2 ≤ R.frames ∧ 60 * (2 + 2) ≤ R.locals) {rr : Int32 × xM} (hE : xEnd l D cA sA cX12_slotOf 6 (some .int) R 0 0 (some (.inl rr.1)) rr.2 p e S0 m ag below meth c0 A0 M0 ad0 Z) (fu : Nat) : ∀ (n : Nat) (s : Nat) (x1 : Int32) (x2 : Int32) (x3 : Int32) (x4 : Int32) (x5 : Int32) (M : xM), L_X12_slotOf_11 fu n s x1 x2 x3 x4 x5 M = some rr → xWx p l e R S0 m ag below meth c0 D cA A0 sA M0 ad0 6 Z 0 0 11 0 0 [(0, .inr (.inr (12, some s))), (1, .inl x1), (2, .inl x2), (3, .inl x3), (4, .inl x4), (5, .inl x5)] [] M := by
  intro n
  induction n with
  | zero => intro s x1 x2 x3 x4 x5 M h; cases h
  | succ n ih =>
    intro s x1 x2 x3 x4 x5 M h
    rw [← q_X12_slotOf_11 fu n s x1 x2 x3 x4 x5 M] at h
    have hT : ∀ w ∈ xG, w ∈ (Cond.code yX12_slotOf cX12_slotOf 6 (some .int) :: xG) := fun w hw => List.mem_cons_of_mem _ hw
    refine xrun_sound (nst := 0) (isInit := false) (kd := kdX12) X (xcls_mono hT xclsG) (xpool_mono hT plX12) (fun z => by cases z) (fun idx v hf => xkoE_mono hT (koX12_ok _ (xfind_mem hf))) (xents (ca := _) ?_) (endI hE).1 (endI hE).2 (xcuts (cu := _) ?_) pr_X12_slotOf.1 pr_X12_slotOf.2 _ _ _ _ _ _ _ _ (xat_ok pr_X12_slotOf.1 pr_X12_slotOf.2).1 (xat_ok pr_X12_slotOf.1 pr_X12_slotOf.2).2.1 (xat_ok pr_X12_slotOf.1 pr_X12_slotOf.2).2.2 h
    · exact (List.forall_mem_cons.mpr ⟨(xent_met X (ci := 12) hT cd_X12_typeOf lk_X12_290 rfl (by decide) rfl (by decide +kernel) (fun z => absurd z (by decide)) (hw_X12_typeOf l D cA sA fu 0) (fun _ => ⟨by decide, fun _ => ⟨TX12, 29, rfl⟩⟩) (by constructor <;> omega) (by decide)), (List.forall_mem_cons.mpr ⟨(xent_met X (ci := 12) hT cd_X12_numberOf lk_X12_293 rfl (by decide) rfl (by decide +kernel) (fun z => absurd z (by decide)) (hw_X12_numberOf l D cA sA fu 0) (fun _ => ⟨by decide, fun _ => ⟨TX12, 29, rfl⟩⟩) (by constructor <;> omega) (by decide)), (fun _ h => nomatch h)⟩)⟩)
    · refine (List.forall_mem_cons.mpr ⟨?_, (fun _ h => nomatch h)⟩)
      · intro bc bs ls st M h
        replace h := xz_some h
        obtain ⟨rfl, rfl, h⟩ := h
        replace h := lR_some h
        obtain ⟨o, e0, h⟩ := h
        replace h := bd_some h
        obtain ⟨s', rfl, h⟩ := h
        replace h := lI_some h
        obtain ⟨x1', e1, h⟩ := h
        replace h := lI_some h
        obtain ⟨x2', e2, h⟩ := h
        replace h := lI_some h
        obtain ⟨x3', e3, h⟩ := h
        replace h := lI_some h
        obtain ⟨x4', e4, h⟩ := h
        replace h := lI_some h
        obtain ⟨x5', e5, h⟩ := h
        replace h := xe_some h
        obtain ⟨rfl, h⟩ := h
        exact xWx_ls (ih s' x1' x2' x3' x4' x5' M h) (List.forall_mem_cons.mpr ⟨e0, (List.forall_mem_cons.mpr ⟨e1, (List.forall_mem_cons.mpr ⟨e2, (List.forall_mem_cons.mpr ⟨e3, (List.forall_mem_cons.mpr ⟨e4, (List.forall_mem_cons.mpr ⟨e5, (fun _ h => nomatch h)⟩)⟩)⟩)⟩)⟩)⟩)

set_option maxRecDepth 100000 in
theorem wx_X12_slotOf (X : xCtx p R S0 m ag c0 D cA A0 sA 6 cX12_slotOf RX12 (.code yX12_slotOf cX12_slotOf 6 (some .int) :: xG) 0 0) (hi : meth.name = yX12_slotOf.name) (hroom : 2 + 2 ≤ R.frames ∧ 60 * (2 + 2) ≤ R.locals) {rr : Int32 × xM} (hE : xEnd l D cA sA cX12_slotOf 6 (some .int) R 0 0 (some (.inl rr.1)) rr.2 p e S0 m ag below meth c0 A0 M0 ad0 Z) (fu : Nat) (s : Nat) (x1 : Int32) (x2 : Int32) (x3 : Int32) (M : xM) (h : F_X12_slotOf fu s x1 x2 x3 M = some rr) : xWx p l e R S0 m ag below meth c0 D cA A0 sA M0 ad0 6 Z 0 0 0 0 0 [(0, .inr (.inr (12, some s))), (1, .inl x1), (2, .inl x2), (3, .inl x3)] [] M := by
  rw [← q_X12_slotOf fu s x1 x2 x3 M] at h
  have hT : ∀ w ∈ xG, w ∈ (Cond.code yX12_slotOf cX12_slotOf 6 (some .int) :: xG) := fun w hw => List.mem_cons_of_mem _ hw
  refine xrun_sound (nst := 0) (isInit := false) (kd := kdX12) X (xcls_mono hT xclsG) (xpool_mono hT plX12) (fun z => by cases z) (fun idx v hf => xkoE_mono hT (koX12_ok _ (xfind_mem hf))) (xents (ca := _) ?_) (endI hE).1 (endI hE).2 (xcuts (cu := _) ?_) pr_X12_slotOf.1 pr_X12_slotOf.2 _ _ _ _ _ _ _ _ (xat_ok pr_X12_slotOf.1 pr_X12_slotOf.2).1 (xat_ok pr_X12_slotOf.1 pr_X12_slotOf.2).2.1 (xat_ok pr_X12_slotOf.1 pr_X12_slotOf.2).2.2 h
  · exact (List.forall_mem_cons.mpr ⟨(xent_met X (ci := 12) hT cd_X12_allSlots lk_X12_277 rfl (by decide) rfl (by decide +kernel) (fun z => absurd z (by decide)) (hw_X12_allSlots l D cA sA fu 0) (fun _ => ⟨by decide, fun _ => ⟨TX12, 29, rfl⟩⟩) (by constructor <;> omega) (by decide)), (fun _ h => nomatch h)⟩)
  · refine (List.forall_mem_cons.mpr ⟨?_, (fun _ h => nomatch h)⟩)
    · intro bc bs ls st M h
      replace h := xz_some h
      obtain ⟨rfl, rfl, h⟩ := h
      replace h := lR_some h
      obtain ⟨o, e0, h⟩ := h
      replace h := bd_some h
      obtain ⟨s', rfl, h⟩ := h
      replace h := lI_some h
      obtain ⟨x1', e1, h⟩ := h
      replace h := lI_some h
      obtain ⟨x2', e2, h⟩ := h
      replace h := lI_some h
      obtain ⟨x3', e3, h⟩ := h
      replace h := lI_some h
      obtain ⟨x4', e4, h⟩ := h
      replace h := lI_some h
      obtain ⟨x5', e5, h⟩ := h
      replace h := xe_some h
      obtain ⟨rfl, h⟩ := h
      exact xWx_ls (wx_X12_slotOf_11 X hi hroom hE fu fu s' x1' x2' x3' x4' x5' M h) (List.forall_mem_cons.mpr ⟨e0, (List.forall_mem_cons.mpr ⟨e1, (List.forall_mem_cons.mpr ⟨e2, (List.forall_mem_cons.mpr ⟨e3, (List.forall_mem_cons.mpr ⟨e4, (List.forall_mem_cons.mpr ⟨e5, (fun _ h => nomatch h)⟩)⟩)⟩)⟩)⟩)⟩)

theorem ok_X12_slotOf (l : Launch) (D : va_G) (cA : Nat → ClassId) (sA : Nat → Nat) (fu : Nat) (s : Nat) (x1 : Int32) (x2 : Int32) (x3 : Int32) (M : xM) {rr : Int32 × xM} (h : F_X12_slotOf fu s x1 x2 x3 M = some rr) : xMet l D cA sA yX12_slotOf cX12_slotOf 6 (some .int) xG (2 + 1) 0 0 [.inr (.inr (12, some s)), .inl x1, .inl x2, .inl x3] M (some (.inl rr.1)) rr.2 :=
  xmet_of (by decide +kernel) (Nat.le_of_ble_eq_true rfl) (fun p e s1 m ag below meth c0 A0 ad0 Z X hn hE => wx_X12_slotOf X hn ⟨Nat.le_refl _, Nat.le_refl _⟩ hE fu s x1 x2 x3 M h)
theorem hw_X12_slotOf (l : Launch) (D : va_G) (cA : Nat → ClassId) (sA : Nat → Nat) (fu : Nat) {ρ : Type} {r0 : ρ} (kd1 : Nat) : ∀ (as : List xV) (M : xM) (k : Option xV → xM → Option ρ), w_X12_slotOf fu as M k = some r0 → ∃ v M', xMet l D cA sA yX12_slotOf cX12_slotOf 6 (some .int) xG (2 + 1) 0 0 as M v M' ∧ k v M' = some r0 ∧ (kd1 ≠ 2 → ∃ a as', as = .inr (.inr (12, some a)) :: as') := by
  intro as M k h
  unfold w_X12_slotOf at h
  replace h := pR_some h
  obtain ⟨o, as1, rfl, h⟩ := h
  replace h := bd_some h
  obtain ⟨s, rfl, h⟩ := h
  replace h := pI_some h
  obtain ⟨x1, as1, rfl, h⟩ := h
  replace h := pI_some h
  obtain ⟨x2, as1, rfl, h⟩ := h
  replace h := pI_some h
  obtain ⟨x3, as1, rfl, h⟩ := h
  replace h := xe_some h
  obtain ⟨rfl, h⟩ := h
  obtain ⟨p1, hp, h⟩ := Option.bind_eq_some_iff.mp h
  exact ⟨_, _, ok_X12_slotOf l D cA sA fu s x1 x2 x3 M hp, h, fun _ => ⟨_, _, rfl⟩⟩
theorem cd_X12_base : Cond.code yX12_base cX12_base 1 (some .int) ∈ xG := (xg 1824 (by decide +kernel) (by decide +kernel))
theorem pr_X12_base : (∀ e ∈ pX12_base, xrow cX12_base 1 kdX12 flX12 0 false RX12 e) ∧ xnext pX12_base = true := xrows (by decide +kernel)
set_option maxRecDepth 100000 in
theorem wx_X12_base (X : xCtx p R S0 m ag c0 D cA A0 sA 1 cX12_base RX12 (.code yX12_base cX12_base 1 (some .int) :: xG) 0 0) (hi : meth.name = yX12_base.name) (hroom : 0 + 2 ≤ R.frames ∧ 60 * (0 + 2) ≤ R.locals) {rr : Int32 × xM} (hE : xEnd l D cA sA cX12_base 1 (some .int) R 0 0 (some (.inl rr.1)) rr.2 p e S0 m ag below meth c0 A0 M0 ad0 Z) (fu : Nat) (s : Nat) (M : xM) (h : F_X12_base fu s M = some rr) : xWx p l e R S0 m ag below meth c0 D cA A0 sA M0 ad0 1 Z 0 0 0 0 0 [(0, .inr (.inr (12, some s)))] [] M := by
  rw [← q_X12_base fu s M] at h
  have hT : ∀ w ∈ xG, w ∈ (Cond.code yX12_base cX12_base 1 (some .int) :: xG) := fun w hw => List.mem_cons_of_mem _ hw
  refine xrun_sound (nst := 0) (isInit := false) (kd := kdX12) X (xcls_mono hT xclsG) (xpool_mono hT plX12) (fun z => by cases z) (fun idx v hf => xkoE_mono hT (koX12_ok _ (xfind_mem hf))) (xents (ca := _) ?_) (endI hE).1 (endI hE).2 (xcuts (cu := _) ?_) pr_X12_base.1 pr_X12_base.2 _ _ _ _ _ _ _ _ (xat_ok pr_X12_base.1 pr_X12_base.2).1 (xat_ok pr_X12_base.1 pr_X12_base.2).2.1 (xat_ok pr_X12_base.1 pr_X12_base.2).2.2 h
  · exact (fun _ h => nomatch h)
  · exact (fun _ h => nomatch h)

theorem ok_X12_base (l : Launch) (D : va_G) (cA : Nat → ClassId) (sA : Nat → Nat) (fu : Nat) (s : Nat) (M : xM) {rr : Int32 × xM} (h : F_X12_base fu s M = some rr) : xMet l D cA sA yX12_base cX12_base 1 (some .int) xG (0 + 1) 0 0 [.inr (.inr (12, some s))] M (some (.inl rr.1)) rr.2 :=
  xmet_of (by decide +kernel) (Nat.le_of_ble_eq_true rfl) (fun p e s1 m ag below meth c0 A0 ad0 Z X hn hE => wx_X12_base X hn ⟨Nat.le_refl _, Nat.le_refl _⟩ hE fu s M h)
theorem hw_X12_base (l : Launch) (D : va_G) (cA : Nat → ClassId) (sA : Nat → Nat) (fu : Nat) {ρ : Type} {r0 : ρ} (kd1 : Nat) : ∀ (as : List xV) (M : xM) (k : Option xV → xM → Option ρ), w_X12_base fu as M k = some r0 → ∃ v M', xMet l D cA sA yX12_base cX12_base 1 (some .int) xG (0 + 1) 0 0 as M v M' ∧ k v M' = some r0 ∧ (kd1 ≠ 2 → ∃ a as', as = .inr (.inr (12, some a)) :: as') := by
  intro as M k h
  unfold w_X12_base at h
  replace h := pR_some h
  obtain ⟨o, as1, rfl, h⟩ := h
  replace h := bd_some h
  obtain ⟨s, rfl, h⟩ := h
  replace h := xe_some h
  obtain ⟨rfl, h⟩ := h
  obtain ⟨p1, hp, h⟩ := Option.bind_eq_some_iff.mp h
  exact ⟨_, _, ok_X12_base l D cA sA fu s M hp, h, fun _ => ⟨_, _, rfl⟩⟩
theorem cd_X12_unmaps : Cond.code yX12_unmaps cX12_unmaps 4 none ∈ xG := (xg 1951 (by decide +kernel) (by decide +kernel))
theorem pr_X12_unmaps : (∀ e ∈ pX12_unmaps, xrow cX12_unmaps 4 kdX12 flX12 0 false RX12 e) ∧ xnext pX12_unmaps = true := xrows (by decide +kernel)
set_option maxRecDepth 100000 in
theorem wx_X12_unmaps_2 (X : xCtx p R S0 m ag c0 D cA A0 sA 4 cX12_unmaps RX12 (.code yX12_unmaps cX12_unmaps 4 none :: xG) 0 0) (hi : meth.name = yX12_unmaps.name) (hroom : 0 + 2 ≤ R.frames ∧ 60 * (0 + 2) ≤ R.locals) {rr : xM} (hE : xEnd l D cA sA cX12_unmaps 4 none R 0 0 none rr p e S0 m ag below meth c0 A0 M0 ad0 Z) (fu : Nat) : ∀ (n : Nat) (s : Nat) (x1 : Int32) (x2 : Int32) (x3 : Int32) (M : xM), L_X12_unmaps_2 fu n s x1 x2 x3 M = some rr → xWx p l e R S0 m ag below meth c0 D cA A0 sA M0 ad0 4 Z 0 0 2 0 0 [(0, .inr (.inr (12, some s))), (1, .inl x1), (2, .inl x2), (3, .inl x3)] [] M := by
  intro n
  induction n with
  | zero => intro s x1 x2 x3 M h; cases h
  | succ n ih =>
    intro s x1 x2 x3 M h
    rw [← q_X12_unmaps_2 fu n s x1 x2 x3 M] at h
    have hT : ∀ w ∈ xG, w ∈ (Cond.code yX12_unmaps cX12_unmaps 4 none :: xG) := fun w hw => List.mem_cons_of_mem _ hw
    refine xrun_sound (nst := 0) (isInit := false) (kd := kdX12) X (xcls_mono hT xclsG) (xpool_mono hT plX12) (fun z => by cases z) (fun idx v hf => xkoE_mono hT (koX12_ok _ (xfind_mem hf))) (xents (ca := _) ?_) (endV hE).1 (endV hE).2 (xcuts (cu := _) ?_) pr_X12_unmaps.1 pr_X12_unmaps.2 _ _ _ _ _ _ _ _ (xat_ok pr_X12_unmaps.1 pr_X12_unmaps.2).1 (xat_ok pr_X12_unmaps.1 pr_X12_unmaps.2).2.1 (xat_ok pr_X12_unmaps.1 pr_X12_unmaps.2).2.2 h
    · exact (fun _ h => nomatch h)
    · refine (List.forall_mem_cons.mpr ⟨?_, (fun _ h => nomatch h)⟩)
      · intro bc bs ls st M h
        replace h := xz_some h
        obtain ⟨rfl, rfl, h⟩ := h
        replace h := lR_some h
        obtain ⟨o, e0, h⟩ := h
        replace h := bd_some h
        obtain ⟨s', rfl, h⟩ := h
        replace h := lI_some h
        obtain ⟨x1', e1, h⟩ := h
        replace h := lI_some h
        obtain ⟨x2', e2, h⟩ := h
        replace h := lI_some h
        obtain ⟨x3', e3, h⟩ := h
        replace h := xe_some h
        obtain ⟨rfl, h⟩ := h
        exact xWx_ls (ih s' x1' x2' x3' M h) (List.forall_mem_cons.mpr ⟨e0, (List.forall_mem_cons.mpr ⟨e1, (List.forall_mem_cons.mpr ⟨e2, (List.forall_mem_cons.mpr ⟨e3, (fun _ h => nomatch h)⟩)⟩)⟩)⟩)

set_option maxRecDepth 100000 in
theorem wx_X12_unmaps (X : xCtx p R S0 m ag c0 D cA A0 sA 4 cX12_unmaps RX12 (.code yX12_unmaps cX12_unmaps 4 none :: xG) 0 0) (hi : meth.name = yX12_unmaps.name) (hroom : 0 + 2 ≤ R.frames ∧ 60 * (0 + 2) ≤ R.locals) {rr : xM} (hE : xEnd l D cA sA cX12_unmaps 4 none R 0 0 none rr p e S0 m ag below meth c0 A0 M0 ad0 Z) (fu : Nat) (s : Nat) (x1 : Int32) (x2 : Int32) (M : xM) (h : F_X12_unmaps fu s x1 x2 M = some rr) : xWx p l e R S0 m ag below meth c0 D cA A0 sA M0 ad0 4 Z 0 0 0 0 0 [(0, .inr (.inr (12, some s))), (1, .inl x1), (2, .inl x2)] [] M := by
  rw [← q_X12_unmaps fu s x1 x2 M] at h
  have hT : ∀ w ∈ xG, w ∈ (Cond.code yX12_unmaps cX12_unmaps 4 none :: xG) := fun w hw => List.mem_cons_of_mem _ hw
  refine xrun_sound (nst := 0) (isInit := false) (kd := kdX12) X (xcls_mono hT xclsG) (xpool_mono hT plX12) (fun z => by cases z) (fun idx v hf => xkoE_mono hT (koX12_ok _ (xfind_mem hf))) (xents (ca := _) ?_) (endV hE).1 (endV hE).2 (xcuts (cu := _) ?_) pr_X12_unmaps.1 pr_X12_unmaps.2 _ _ _ _ _ _ _ _ (xat_ok pr_X12_unmaps.1 pr_X12_unmaps.2).1 (xat_ok pr_X12_unmaps.1 pr_X12_unmaps.2).2.1 (xat_ok pr_X12_unmaps.1 pr_X12_unmaps.2).2.2 h
  · exact (fun _ h => nomatch h)
  · refine (List.forall_mem_cons.mpr ⟨?_, (fun _ h => nomatch h)⟩)
    · intro bc bs ls st M h
      replace h := xz_some h
      obtain ⟨rfl, rfl, h⟩ := h
      replace h := lR_some h
      obtain ⟨o, e0, h⟩ := h
      replace h := bd_some h
      obtain ⟨s', rfl, h⟩ := h
      replace h := lI_some h
      obtain ⟨x1', e1, h⟩ := h
      replace h := lI_some h
      obtain ⟨x2', e2, h⟩ := h
      replace h := lI_some h
      obtain ⟨x3', e3, h⟩ := h
      replace h := xe_some h
      obtain ⟨rfl, h⟩ := h
      exact xWx_ls (wx_X12_unmaps_2 X hi hroom hE fu fu s' x1' x2' x3' M h) (List.forall_mem_cons.mpr ⟨e0, (List.forall_mem_cons.mpr ⟨e1, (List.forall_mem_cons.mpr ⟨e2, (List.forall_mem_cons.mpr ⟨e3, (fun _ h => nomatch h)⟩)⟩)⟩)⟩)

theorem ok_X12_unmaps (l : Launch) (D : va_G) (cA : Nat → ClassId) (sA : Nat → Nat) (fu : Nat) (s : Nat) (x1 : Int32) (x2 : Int32) (M : xM) {rr : xM} (h : F_X12_unmaps fu s x1 x2 M = some rr) : xMet l D cA sA yX12_unmaps cX12_unmaps 4 none xG (0 + 1) 0 0 [.inr (.inr (12, some s)), .inl x1, .inl x2] M none rr :=
  xmet_of (by decide +kernel) (Nat.le_of_ble_eq_true rfl) (fun p e s1 m ag below meth c0 A0 ad0 Z X hn hE => wx_X12_unmaps X hn ⟨Nat.le_refl _, Nat.le_refl _⟩ hE fu s x1 x2 M h)
theorem hw_X12_unmaps (l : Launch) (D : va_G) (cA : Nat → ClassId) (sA : Nat → Nat) (fu : Nat) {ρ : Type} {r0 : ρ} (kd1 : Nat) : ∀ (as : List xV) (M : xM) (k : Option xV → xM → Option ρ), w_X12_unmaps fu as M k = some r0 → ∃ v M', xMet l D cA sA yX12_unmaps cX12_unmaps 4 none xG (0 + 1) 0 0 as M v M' ∧ k v M' = some r0 ∧ (kd1 ≠ 2 → ∃ a as', as = .inr (.inr (12, some a)) :: as') := by
  intro as M k h
  unfold w_X12_unmaps at h
  replace h := pR_some h
  obtain ⟨o, as1, rfl, h⟩ := h
  replace h := bd_some h
  obtain ⟨s, rfl, h⟩ := h
  replace h := pI_some h
  obtain ⟨x1, as1, rfl, h⟩ := h
  replace h := pI_some h
  obtain ⟨x2, as1, rfl, h⟩ := h
  replace h := xe_some h
  obtain ⟨rfl, h⟩ := h
  obtain ⟨p1, hp, h⟩ := Option.bind_eq_some_iff.mp h
  exact ⟨_, _, ok_X12_unmaps l D cA sA fu s x1 x2 M hp, h, fun _ => ⟨_, _, rfl⟩⟩
theorem cd_X12_erasedIn : Cond.code yX12_erasedIn cX12_erasedIn 5 (some .int) ∈ xG := (xg 1888 (by decide +kernel) (by decide +kernel))
theorem pr_X12_erasedIn : (∀ e ∈ pX12_erasedIn, xrow cX12_erasedIn 5 kdX12 flX12 0 false RX12 e) ∧ xnext pX12_erasedIn = true := xrows (by decide +kernel)
set_option maxRecDepth 100000 in
theorem wx_X12_erasedIn_10 (X : xCtx p R S0 m ag c0 D cA A0 sA 5 cX12_erasedIn RX12 (.code yX12_erasedIn cX12_erasedIn 5 (some .int) :: xG) 0 0) (hi : meth.name = yX12_erasedIn.name) (hroom : 2 + 2 ≤ R.frames ∧ 60 * (2 + 2) ≤ R.locals) {rr : Int32 × xM} (hE : xEnd l D cA sA cX12_erasedIn 5 (some .int) R 0 0 (some (.inl rr.1)) rr.2 p e S0 m ag below meth c0 A0 M0 ad0 Z) (fu : Nat) : ∀ (n : Nat) (s : Nat) (x1 : Int32) (x2 : Int32) (x3 : Int32) (x4 : Int32) (M : xM), L_X12_erasedIn_10 fu n s x1 x2 x3 x4 M = some rr → xWx p l e R S0 m ag below meth c0 D cA A0 sA M0 ad0 5 Z 0 0 10 0 0 [(0, .inr (.inr (12, some s))), (1, .inl x1), (2, .inl x2), (3, .inl x3), (4, .inl x4)] [] M := by
  intro n
  induction n with
  | zero => intro s x1 x2 x3 x4 M h; cases h
  | succ n ih =>
    intro s x1 x2 x3 x4 M h
    rw [← q_X12_erasedIn_10 fu n s x1 x2 x3 x4 M] at h
    have hT : ∀ w ∈ xG, w ∈ (Cond.code yX12_erasedIn cX12_erasedIn 5 (some .int) :: xG) := fun w hw => List.mem_cons_of_mem _ hw
    refine xrun_sound (nst := 0) (isInit := false) (kd := kdX12) X (xcls_mono hT xclsG) (xpool_mono hT plX12) (fun z => by cases z) (fun idx v hf => xkoE_mono hT (koX12_ok _ (xfind_mem hf))) (xents (ca := _) ?_) (endI hE).1 (endI hE).2 (xcuts (cu := _) ?_) pr_X12_erasedIn.1 pr_X12_erasedIn.2 _ _ _ _ _ _ _ _ (xat_ok pr_X12_erasedIn.1 pr_X12_erasedIn.2).1 (xat_ok pr_X12_erasedIn.1 pr_X12_erasedIn.2).2.1 (xat_ok pr_X12_erasedIn.1 pr_X12_erasedIn.2).2.2 h
    · exact (List.forall_mem_cons.mpr ⟨(xent_met X (ci := 12) hT cd_X12_wide lk_X12_255 rfl (by decide) rfl (by decide +kernel) (fun z => absurd z (by decide)) (hw_X12_wide l D cA sA fu 0) (fun _ => ⟨by decide, fun _ => ⟨TX12, 29, rfl⟩⟩) (by constructor <;> omega) (by decide)), (List.forall_mem_cons.mpr ⟨(xent_met X (ci := 12) hT cd_X12_typeOf lk_X12_290 rfl (by decide) rfl (by decide +kernel) (fun z => absurd z (by decide)) (hw_X12_typeOf l D cA sA fu 0) (fun _ => ⟨by decide, fun _ => ⟨TX12, 29, rfl⟩⟩) (by constructor <;> omega) (by decide)), (fun _ h => nomatch h)⟩)⟩)
    · refine (List.forall_mem_cons.mpr ⟨?_, (fun _ h => nomatch h)⟩)
      · intro bc bs ls st M h
        replace h := xz_some h
        obtain ⟨rfl, rfl, h⟩ := h
        replace h := lR_some h
        obtain ⟨o, e0, h⟩ := h
        replace h := bd_some h
        obtain ⟨s', rfl, h⟩ := h
        replace h := lI_some h
        obtain ⟨x1', e1, h⟩ := h
        replace h := lI_some h
        obtain ⟨x2', e2, h⟩ := h
        replace h := lI_some h
        obtain ⟨x3', e3, h⟩ := h
        replace h := lI_some h
        obtain ⟨x4', e4, h⟩ := h
        replace h := xe_some h
        obtain ⟨rfl, h⟩ := h
        exact xWx_ls (ih s' x1' x2' x3' x4' M h) (List.forall_mem_cons.mpr ⟨e0, (List.forall_mem_cons.mpr ⟨e1, (List.forall_mem_cons.mpr ⟨e2, (List.forall_mem_cons.mpr ⟨e3, (List.forall_mem_cons.mpr ⟨e4, (fun _ h => nomatch h)⟩)⟩)⟩)⟩)⟩)

set_option maxRecDepth 100000 in
theorem wx_X12_erasedIn (X : xCtx p R S0 m ag c0 D cA A0 sA 5 cX12_erasedIn RX12 (.code yX12_erasedIn cX12_erasedIn 5 (some .int) :: xG) 0 0) (hi : meth.name = yX12_erasedIn.name) (hroom : 2 + 2 ≤ R.frames ∧ 60 * (2 + 2) ≤ R.locals) {rr : Int32 × xM} (hE : xEnd l D cA sA cX12_erasedIn 5 (some .int) R 0 0 (some (.inl rr.1)) rr.2 p e S0 m ag below meth c0 A0 M0 ad0 Z) (fu : Nat) (s : Nat) (x1 : Int32) (x2 : Int32) (M : xM) (h : F_X12_erasedIn fu s x1 x2 M = some rr) : xWx p l e R S0 m ag below meth c0 D cA A0 sA M0 ad0 5 Z 0 0 0 0 0 [(0, .inr (.inr (12, some s))), (1, .inl x1), (2, .inl x2)] [] M := by
  rw [← q_X12_erasedIn fu s x1 x2 M] at h
  have hT : ∀ w ∈ xG, w ∈ (Cond.code yX12_erasedIn cX12_erasedIn 5 (some .int) :: xG) := fun w hw => List.mem_cons_of_mem _ hw
  refine xrun_sound (nst := 0) (isInit := false) (kd := kdX12) X (xcls_mono hT xclsG) (xpool_mono hT plX12) (fun z => by cases z) (fun idx v hf => xkoE_mono hT (koX12_ok _ (xfind_mem hf))) (xents (ca := _) ?_) (endI hE).1 (endI hE).2 (xcuts (cu := _) ?_) pr_X12_erasedIn.1 pr_X12_erasedIn.2 _ _ _ _ _ _ _ _ (xat_ok pr_X12_erasedIn.1 pr_X12_erasedIn.2).1 (xat_ok pr_X12_erasedIn.1 pr_X12_erasedIn.2).2.1 (xat_ok pr_X12_erasedIn.1 pr_X12_erasedIn.2).2.2 h
  · exact (List.forall_mem_cons.mpr ⟨(xent_met X (ci := 12) hT cd_X12_wide lk_X12_255 rfl (by decide) rfl (by decide +kernel) (fun z => absurd z (by decide)) (hw_X12_wide l D cA sA fu 0) (fun _ => ⟨by decide, fun _ => ⟨TX12, 29, rfl⟩⟩) (by constructor <;> omega) (by decide)), (fun _ h => nomatch h)⟩)
  · refine (List.forall_mem_cons.mpr ⟨?_, (fun _ h => nomatch h)⟩)
    · intro bc bs ls st M h
      replace h := xz_some h
      obtain ⟨rfl, rfl, h⟩ := h
      replace h := lR_some h
      obtain ⟨o, e0, h⟩ := h
      replace h := bd_some h
      obtain ⟨s', rfl, h⟩ := h
      replace h := lI_some h
      obtain ⟨x1', e1, h⟩ := h
      replace h := lI_some h
      obtain ⟨x2', e2, h⟩ := h
      replace h := lI_some h
      obtain ⟨x3', e3, h⟩ := h
      replace h := lI_some h
      obtain ⟨x4', e4, h⟩ := h
      replace h := xe_some h
      obtain ⟨rfl, h⟩ := h
      exact xWx_ls (wx_X12_erasedIn_10 X hi hroom hE fu fu s' x1' x2' x3' x4' M h) (List.forall_mem_cons.mpr ⟨e0, (List.forall_mem_cons.mpr ⟨e1, (List.forall_mem_cons.mpr ⟨e2, (List.forall_mem_cons.mpr ⟨e3, (List.forall_mem_cons.mpr ⟨e4, (fun _ h => nomatch h)⟩)⟩)⟩)⟩)⟩)

theorem ok_X12_erasedIn (l : Launch) (D : va_G) (cA : Nat → ClassId) (sA : Nat → Nat) (fu : Nat) (s : Nat) (x1 : Int32) (x2 : Int32) (M : xM) {rr : Int32 × xM} (h : F_X12_erasedIn fu s x1 x2 M = some rr) : xMet l D cA sA yX12_erasedIn cX12_erasedIn 5 (some .int) xG (2 + 1) 0 0 [.inr (.inr (12, some s)), .inl x1, .inl x2] M (some (.inl rr.1)) rr.2 :=
  xmet_of (by decide +kernel) (Nat.le_of_ble_eq_true rfl) (fun p e s1 m ag below meth c0 A0 ad0 Z X hn hE => wx_X12_erasedIn X hn ⟨Nat.le_refl _, Nat.le_refl _⟩ hE fu s x1 x2 M h)
theorem hw_X12_erasedIn (l : Launch) (D : va_G) (cA : Nat → ClassId) (sA : Nat → Nat) (fu : Nat) {ρ : Type} {r0 : ρ} (kd1 : Nat) : ∀ (as : List xV) (M : xM) (k : Option xV → xM → Option ρ), w_X12_erasedIn fu as M k = some r0 → ∃ v M', xMet l D cA sA yX12_erasedIn cX12_erasedIn 5 (some .int) xG (2 + 1) 0 0 as M v M' ∧ k v M' = some r0 ∧ (kd1 ≠ 2 → ∃ a as', as = .inr (.inr (12, some a)) :: as') := by
  intro as M k h
  unfold w_X12_erasedIn at h
  replace h := pR_some h
  obtain ⟨o, as1, rfl, h⟩ := h
  replace h := bd_some h
  obtain ⟨s, rfl, h⟩ := h
  replace h := pI_some h
  obtain ⟨x1, as1, rfl, h⟩ := h
  replace h := pI_some h
  obtain ⟨x2, as1, rfl, h⟩ := h
  replace h := xe_some h
  obtain ⟨rfl, h⟩ := h
  obtain ⟨p1, hp, h⟩ := Option.bind_eq_some_iff.mp h
  exact ⟨_, _, ok_X12_erasedIn l D cA sA fu s x1 x2 M hp, h, fun _ => ⟨_, _, rfl⟩⟩
theorem lk_X12_311 : xLink xG RX12 311 0 yX12_erasedIn 2 := ⟨Or.inl (xg 1885 (by decide +kernel) (by decide +kernel)), (xg 1887 (by decide +kernel) (by decide +kernel)), (xg 92 (by decide +kernel) (by decide +kernel)), (xg 141 (by decide +kernel) (by decide +kernel)), ⟨12, by decide, TX12, 29, rfl⟩⟩
theorem lk_X12_374 : xLink xG RX12 374 0 yX12_unmaps 2 := ⟨Or.inl (xg 1948 (by decide +kernel) (by decide +kernel)), (xg 1950 (by decide +kernel) (by decide +kernel)), (xg 106 (by decide +kernel) (by decide +kernel)), (xg 141 (by decide +kernel) (by decide +kernel)), ⟨12, by decide, TX12, 29, rfl⟩⟩
theorem lk_X12_377 : xLink xG RX12 377 0 yX12_slotOf 3 := ⟨Or.inl (xg 1984 (by decide +kernel) (by decide +kernel)), (xg 1986 (by decide +kernel) (by decide +kernel)), (xg 109 (by decide +kernel) (by decide +kernel)), (xg 141 (by decide +kernel) (by decide +kernel)), ⟨12, by decide, TX12, 29, rfl⟩⟩
theorem lk_X12_296 : xLink xG RX12 296 0 yX12_base 0 := ⟨Or.inl (xg 1821 (by decide +kernel) (by decide +kernel)), (xg 1823 (by decide +kernel) (by decide +kernel)), (xg 79 (by decide +kernel) (by decide +kernel)), (xg 141 (by decide +kernel) (by decide +kernel)), ⟨12, by decide, TX12, 29, rfl⟩⟩
theorem lk_X12_305 : xLink xG RX12 305 0 yX12_looks 1 := ⟨Or.inl (xg 1793 (by decide +kernel) (by decide +kernel)), (xg 1795 (by decide +kernel) (by decide +kernel)), (xg 72 (by decide +kernel) (by decide +kernel)), (xg 141 (by decide +kernel) (by decide +kernel)), ⟨12, by decide, TX12, 29, rfl⟩⟩
theorem lk_X12_317 : xLink xG RX12 317 0 yX12_powersOff 1 := ⟨Or.inl (xg 1916 (by decide +kernel) (by decide +kernel)), (xg 1918 (by decide +kernel) (by decide +kernel)), (xg 99 (by decide +kernel) (by decide +kernel)), (xg 141 (by decide +kernel) (by decide +kernel)), ⟨12, by decide, TX12, 29, rfl⟩⟩
theorem cd_X12_mounts : Cond.code yX12_mounts cX12_mounts 7 (some .int) ∈ xG := (xg 1983 (by decide +kernel) (by decide +kernel))
theorem pr_X12_mounts : (∀ e ∈ pX12_mounts, xrow cX12_mounts 7 kdX12 flX12 0 false RX12 e) ∧ xnext pX12_mounts = true := xrows (by decide +kernel)
set_option maxRecDepth 100000 in
theorem wx_X12_mounts_419 (X : xCtx p R S0 m ag c0 D cA A0 sA 7 cX12_mounts RX12 (.code yX12_mounts cX12_mounts 7 (some .int) :: xG) 0 0) (hi : meth.name = yX12_mounts.name) (hroom : 4 + 2 ≤ R.frames ∧ 60 * (4 + 2) ≤ R.locals) {rr : Int32 × xM} (hE : xEnd l D cA sA cX12_mounts 7 (some .int) R 0 0 (some (.inl rr.1)) rr.2 p e S0 m ag below meth c0 A0 M0 ad0 Z) (fu : Nat) : ∀ (n : Nat) (s : Nat) (x1 : Int32) (x3 : Int32) (x4 : Int32) (M : xM), L_X12_mounts_419 fu n s x1 x3 x4 M = some rr → xWx p l e R S0 m ag below meth c0 D cA A0 sA M0 ad0 7 Z 0 0 419 0 0 [(0, .inr (.inr (12, some s))), (1, .inl x1), (3, .inl x3), (4, .inl x4)] [] M := by
  intro n
  induction n with
  | zero => intro s x1 x3 x4 M h; cases h
  | succ n ih =>
    intro s x1 x3 x4 M h
    rw [← q_X12_mounts_419 fu n s x1 x3 x4 M] at h
    have hT : ∀ w ∈ xG, w ∈ (Cond.code yX12_mounts cX12_mounts 7 (some .int) :: xG) := fun w hw => List.mem_cons_of_mem _ hw
    refine xrun_sound (nst := 0) (isInit := false) (kd := kdX12) X (xcls_mono hT xclsG) (xpool_mono hT plX12) (fun z => by cases z) (fun idx v hf => xkoE_mono hT (koX12_ok _ (xfind_mem hf))) (xents (ca := _) ?_) (endI hE).1 (endI hE).2 (xcuts (cu := _) ?_) pr_X12_mounts.1 pr_X12_mounts.2 _ _ _ _ _ _ _ _ (xat_ok pr_X12_mounts.1 pr_X12_mounts.2).1 (xat_ok pr_X12_mounts.1 pr_X12_mounts.2).2.1 (xat_ok pr_X12_mounts.1 pr_X12_mounts.2).2.2 h
    · exact (List.forall_mem_cons.mpr ⟨(xent_met X (ci := 12) hT cd_X12_wide lk_X12_255 rfl (by decide) rfl (by decide +kernel) (fun z => absurd z (by decide)) (hw_X12_wide l D cA sA fu 0) (fun _ => ⟨by decide, fun _ => ⟨TX12, 29, rfl⟩⟩) (by constructor <;> omega) (by decide)), (List.forall_mem_cons.mpr ⟨(xent_met X (ci := 12) hT cd_X12_erasedIn lk_X12_311 rfl (by decide) rfl (by decide +kernel) (fun z => absurd z (by decide)) (hw_X12_erasedIn l D cA sA fu 0) (fun _ => ⟨by decide, fun _ => ⟨TX12, 29, rfl⟩⟩) (by constructor <;> omega) (by decide)), (fun _ h => nomatch h)⟩)⟩)
    · refine (List.forall_mem_cons.mpr ⟨?_, (fun _ h => nomatch h)⟩)
      · intro bc bs ls st M h
        replace h := xz_some h
        obtain ⟨rfl, rfl, h⟩ := h
        replace h := lR_some h
        obtain ⟨o, e0, h⟩ := h
        replace h := bd_some h
        obtain ⟨s', rfl, h⟩ := h
        replace h := lI_some h
        obtain ⟨x1', e1, h⟩ := h
        replace h := lI_some h
        obtain ⟨x3', e3, h⟩ := h
        replace h := lI_some h
        obtain ⟨x4', e4, h⟩ := h
        replace h := xe_some h
        obtain ⟨rfl, h⟩ := h
        exact xWx_ls (ih s' x1' x3' x4' M h) (List.forall_mem_cons.mpr ⟨e0, (List.forall_mem_cons.mpr ⟨e1, (List.forall_mem_cons.mpr ⟨e3, (List.forall_mem_cons.mpr ⟨e4, (fun _ h => nomatch h)⟩)⟩)⟩)⟩)

set_option maxRecDepth 100000 in
theorem wx_X12_mounts_313 (X : xCtx p R S0 m ag c0 D cA A0 sA 7 cX12_mounts RX12 (.code yX12_mounts cX12_mounts 7 (some .int) :: xG) 0 0) (hi : meth.name = yX12_mounts.name) (hroom : 4 + 2 ≤ R.frames ∧ 60 * (4 + 2) ≤ R.locals) {rr : Int32 × xM} (hE : xEnd l D cA sA cX12_mounts 7 (some .int) R 0 0 (some (.inl rr.1)) rr.2 p e S0 m ag below meth c0 A0 M0 ad0 Z) (fu : Nat) (k271 : Nat → Int32 → Int32 → Int32 → Int32 → xM → Option (Int32 × xM)) (hk271 : ∀ (s : Nat) (x1 : Int32) (x2 : Int32) (x3 : Int32) (x4 : Int32) (M : xM), k271 s x1 x2 x3 x4 M = some rr → xWx p l e R S0 m ag below meth c0 D cA A0 sA M0 ad0 7 Z 0 0 271 0 0 [(0, .inr (.inr (12, some s))), (1, .inl x1), (2, .inl x2), (3, .inl x3), (4, .inl x4)] [] M) (s : Nat) (x1 : Int32) (x2 : Int32) (x4 : Int32) (x5 : Int32) (x6 : Int32) (y0 : Int32) (y1 : Int32) (M : xM) (h : J_X12_mounts_313 fu k271 s x1 x2 x4 x5 x6 y0 y1 M = some rr) : xWx p l e R S0 m ag below meth c0 D cA A0 sA M0 ad0 7 Z 0 0 313 0 0 [(0, .inr (.inr (12, some s))), (1, .inl x1), (2, .inl x2), (4, .inl x4), (5, .inl x5), (6, .inl x6)] [.inl y0, .inl y1] M := by
  rw [← q_X12_mounts_313 fu k271 s x1 x2 x4 x5 x6 y0 y1 M] at h
  have hT : ∀ w ∈ xG, w ∈ (Cond.code yX12_mounts cX12_mounts 7 (some .int) :: xG) := fun w hw => List.mem_cons_of_mem _ hw
  refine xrun_sound (nst := 0) (isInit := false) (kd := kdX12) X (xcls_mono hT xclsG) (xpool_mono hT plX12) (fun z => by cases z) (fun idx v hf => xkoE_mono hT (koX12_ok _ (xfind_mem hf))) (xents (ca := _) ?_) (endI hE).1 (endI hE).2 (xcuts (cu := _) ?_) pr_X12_mounts.1 pr_X12_mounts.2 _ _ _ _ _ _ _ _ (xat_ok pr_X12_mounts.1 pr_X12_mounts.2).1 (xat_ok pr_X12_mounts.1 pr_X12_mounts.2).2.1 (xat_ok pr_X12_mounts.1 pr_X12_mounts.2).2.2 h
  · exact (List.forall_mem_cons.mpr ⟨(xent_met X (ci := 12) hT cd_X12_slotAt lk_X12_264 rfl (by decide) rfl (by decide +kernel) (fun z => absurd z (by decide)) (hw_X12_slotAt l D cA sA fu 2 rfl) (fun z => absurd rfl z) (by constructor <;> omega) (by decide)), (List.forall_mem_cons.mpr ⟨(xent_met X (ci := 12) hT cd_X12_unmaps lk_X12_374 rfl (by decide) rfl (by decide +kernel) (fun z => absurd z (by decide)) (hw_X12_unmaps l D cA sA fu 0) (fun _ => ⟨by decide, fun _ => ⟨TX12, 29, rfl⟩⟩) (by constructor <;> omega) (by decide)), (fun _ h => nomatch h)⟩)⟩)
  · refine (List.forall_mem_cons.mpr ⟨?_, (fun _ h => nomatch h)⟩)
    · intro bc bs ls st M h
      replace h := xz_some h
      obtain ⟨rfl, rfl, h⟩ := h
      replace h := lR_some h
      obtain ⟨o, e0, h⟩ := h
      replace h := bd_some h
      obtain ⟨s', rfl, h⟩ := h
      replace h := lI_some h
      obtain ⟨x1', e1, h⟩ := h
      replace h := lI_some h
      obtain ⟨x2', e2, h⟩ := h
      replace h := lI_some h
      obtain ⟨x3', e3, h⟩ := h
      replace h := lI_some h
      obtain ⟨x4', e4, h⟩ := h
      replace h := xe_some h
      obtain ⟨rfl, h⟩ := h
      exact xWx_ls (hk271 s' x1' x2' x3' x4' M h) (List.forall_mem_cons.mpr ⟨e0, (List.forall_mem_cons.mpr ⟨e1, (List.forall_mem_cons.mpr ⟨e2, (List.forall_mem_cons.mpr ⟨e3, (List.forall_mem_cons.mpr ⟨e4, (fun _ h => nomatch h)⟩)⟩)⟩)⟩)⟩)

set_option maxRecDepth 100000 in
theorem wx_X12_mounts_271 (X : xCtx p R S0 m ag c0 D cA A0 sA 7 cX12_mounts RX12 (.code yX12_mounts cX12_mounts 7 (some .int) :: xG) 0 0) (hi : meth.name = yX12_mounts.name) (hroom : 4 + 2 ≤ R.frames ∧ 60 * (4 + 2) ≤ R.locals) {rr : Int32 × xM} (hE : xEnd l D cA sA cX12_mounts 7 (some .int) R 0 0 (some (.inl rr.1)) rr.2 p e S0 m ag below meth c0 A0 M0 ad0 Z) (fu : Nat) : ∀ (n : Nat) (s : Nat) (x1 : Int32) (x2 : Int32) (x3 : Int32) (x4 : Int32) (M : xM), L_X12_mounts_271 fu n s x1 x2 x3 x4 M = some rr → xWx p l e R S0 m ag below meth c0 D cA A0 sA M0 ad0 7 Z 0 0 271 0 0 [(0, .inr (.inr (12, some s))), (1, .inl x1), (2, .inl x2), (3, .inl x3), (4, .inl x4)] [] M := by
  intro n
  induction n with
  | zero => intro s x1 x2 x3 x4 M h; cases h
  | succ n ih =>
    intro s x1 x2 x3 x4 M h
    rw [← q_X12_mounts_271 fu n s x1 x2 x3 x4 M] at h
    have hT : ∀ w ∈ xG, w ∈ (Cond.code yX12_mounts cX12_mounts 7 (some .int) :: xG) := fun w hw => List.mem_cons_of_mem _ hw
    refine xrun_sound (nst := 0) (isInit := false) (kd := kdX12) X (xcls_mono hT xclsG) (xpool_mono hT plX12) (fun z => by cases z) (fun idx v hf => xkoE_mono hT (koX12_ok _ (xfind_mem hf))) (xents (ca := _) ?_) (endI hE).1 (endI hE).2 (xcuts (cu := _) ?_) pr_X12_mounts.1 pr_X12_mounts.2 _ _ _ _ _ _ _ _ (xat_ok pr_X12_mounts.1 pr_X12_mounts.2).1 (xat_ok pr_X12_mounts.1 pr_X12_mounts.2).2.1 (xat_ok pr_X12_mounts.1 pr_X12_mounts.2).2.2 h
    · exact (List.forall_mem_cons.mpr ⟨(xent_met X (ci := 12) hT cd_X12_blocks lk_X12_252 rfl (by decide) rfl (by decide +kernel) (fun z => absurd z (by decide)) (hw_X12_blocks l D cA sA fu 0) (fun _ => ⟨by decide, fun _ => ⟨TX12, 29, rfl⟩⟩) (by constructor <;> omega) (by decide)), (List.forall_mem_cons.mpr ⟨(xent_met X (ci := 12) hT cd_X12_slotOf lk_X12_377 rfl (by decide) rfl (by decide +kernel) (fun z => absurd z (by decide)) (hw_X12_slotOf l D cA sA fu 0) (fun _ => ⟨by decide, fun _ => ⟨TX12, 29, rfl⟩⟩) (by constructor <;> omega) (by decide)), (fun _ h => nomatch h)⟩)⟩)
    · refine (List.forall_mem_cons.mpr ⟨?_, (List.forall_mem_cons.mpr ⟨?_, (fun _ h => nomatch h)⟩)⟩)
      · intro bc bs ls st M h
        replace h := xz_some h
        obtain ⟨rfl, rfl, h⟩ := h
        replace h := lR_some h
        obtain ⟨o, e0, h⟩ := h
        replace h := bd_some h
        obtain ⟨s', rfl, h⟩ := h
        replace h := lI_some h
        obtain ⟨x1', e1, h⟩ := h
        replace h := lI_some h
        obtain ⟨x2', e2, h⟩ := h
        replace h := lI_some h
        obtain ⟨x4', e4, h⟩ := h
        replace h := lI_some h
        obtain ⟨x5', e5, h⟩ := h
        replace h := lI_some h
        obtain ⟨x6', e6, h⟩ := h
        replace h := pI_some h
        obtain ⟨y0', st, rfl, h⟩ := h
        replace h := pI_some h
        obtain ⟨y1', st, rfl, h⟩ := h
        replace h := xe_some h
        obtain ⟨rfl, h⟩ := h
        exact xWx_ls (wx_X12_mounts_313 X hi hroom hE fu _ ih s' x1' x2' x4' x5' x6' y0' y1' M h) (List.forall_mem_cons.mpr ⟨e0, (List.forall_mem_cons.mpr ⟨e1, (List.forall_mem_cons.mpr ⟨e2, (List.forall_mem_cons.mpr ⟨e4, (List.forall_mem_cons.mpr ⟨e5, (List.forall_mem_cons.mpr ⟨e6, (fun _ h => nomatch h)⟩)⟩)⟩)⟩)⟩)⟩)
      · intro bc bs ls st M h
        replace h := xz_some h
        obtain ⟨rfl, rfl, h⟩ := h
        replace h := lR_some h
        obtain ⟨o, e0, h⟩ := h
        replace h := bd_some h
        obtain ⟨s', rfl, h⟩ := h
        replace h := lI_some h
        obtain ⟨x1', e1, h⟩ := h
        replace h := lI_some h
        obtain ⟨x3', e3, h⟩ := h
        replace h := lI_some h
        obtain ⟨x4', e4, h⟩ := h
        replace h := xe_some h
        obtain ⟨rfl, h⟩ := h
        exact xWx_ls (wx_X12_mounts_419 X hi hroom hE fu fu s' x1' x3' x4' M h) (List.forall_mem_cons.mpr ⟨e0, (List.forall_mem_cons.mpr ⟨e1, (List.forall_mem_cons.mpr ⟨e3, (List.forall_mem_cons.mpr ⟨e4, (fun _ h => nomatch h)⟩)⟩)⟩)⟩)

set_option maxRecDepth 100000 in
theorem wx_X12_mounts_227 (X : xCtx p R S0 m ag c0 D cA A0 sA 7 cX12_mounts RX12 (.code yX12_mounts cX12_mounts 7 (some .int) :: xG) 0 0) (hi : meth.name = yX12_mounts.name) (hroom : 4 + 2 ≤ R.frames ∧ 60 * (4 + 2) ≤ R.locals) {rr : Int32 × xM} (hE : xEnd l D cA sA cX12_mounts 7 (some .int) R 0 0 (some (.inl rr.1)) rr.2 p e S0 m ag below meth c0 A0 M0 ad0 Z) (fu : Nat) (k195 : Nat → Int32 → Int32 → Int32 → xM → Option (Int32 × xM)) (hk195 : ∀ (s : Nat) (x1 : Int32) (x2 : Int32) (x3 : Int32) (M : xM), k195 s x1 x2 x3 M = some rr → xWx p l e R S0 m ag below meth c0 D cA A0 sA M0 ad0 7 Z 0 0 195 0 0 [(0, .inr (.inr (12, some s))), (1, .inl x1), (2, .inl x2), (3, .inl x3)] [] M) (s : Nat) (x1 : Int32) (x2 : Int32) (x3 : Int32) (y0 : Int32) (M : xM) (h : J_X12_mounts_227 fu k195 s x1 x2 x3 y0 M = some rr) : xWx p l e R S0 m ag below meth c0 D cA A0 sA M0 ad0 7 Z 0 0 227 0 0 [(0, .inr (.inr (12, some s))), (1, .inl x1), (2, .inl x2), (3, .inl x3)] [.inl y0] M := by
  rw [← q_X12_mounts_227 fu k195 s x1 x2 x3 y0 M] at h
  have hT : ∀ w ∈ xG, w ∈ (Cond.code yX12_mounts cX12_mounts 7 (some .int) :: xG) := fun w hw => List.mem_cons_of_mem _ hw
  refine xrun_sound (nst := 0) (isInit := false) (kd := kdX12) X (xcls_mono hT xclsG) (xpool_mono hT plX12) (fun z => by cases z) (fun idx v hf => xkoE_mono hT (koX12_ok _ (xfind_mem hf))) (xents (ca := _) ?_) (endI hE).1 (endI hE).2 (xcuts (cu := _) ?_) pr_X12_mounts.1 pr_X12_mounts.2 _ _ _ _ _ _ _ _ (xat_ok pr_X12_mounts.1 pr_X12_mounts.2).1 (xat_ok pr_X12_mounts.1 pr_X12_mounts.2).2.1 (xat_ok pr_X12_mounts.1 pr_X12_mounts.2).2.2 h
  · exact (List.forall_mem_cons.mpr ⟨(xent_met X (ci := 12) hT cd_X12_numberOf lk_X12_293 rfl (by decide) rfl (by decide +kernel) (fun z => absurd z (by decide)) (hw_X12_numberOf l D cA sA fu 0) (fun _ => ⟨by decide, fun _ => ⟨TX12, 29, rfl⟩⟩) (by constructor <;> omega) (by decide)), (fun _ h => nomatch h)⟩)
  · refine (List.forall_mem_cons.mpr ⟨?_, (fun _ h => nomatch h)⟩)
    · intro bc bs ls st M h
      replace h := xz_some h
      obtain ⟨rfl, rfl, h⟩ := h
      replace h := lR_some h
      obtain ⟨o, e0, h⟩ := h
      replace h := bd_some h
      obtain ⟨s', rfl, h⟩ := h
      replace h := lI_some h
      obtain ⟨x1', e1, h⟩ := h
      replace h := lI_some h
      obtain ⟨x2', e2, h⟩ := h
      replace h := lI_some h
      obtain ⟨x3', e3, h⟩ := h
      replace h := xe_some h
      obtain ⟨rfl, h⟩ := h
      exact xWx_ls (hk195 s' x1' x2' x3' M h) (List.forall_mem_cons.mpr ⟨e0, (List.forall_mem_cons.mpr ⟨e1, (List.forall_mem_cons.mpr ⟨e2, (List.forall_mem_cons.mpr ⟨e3, (fun _ h => nomatch h)⟩)⟩)⟩)⟩)

set_option maxRecDepth 100000 in
theorem wx_X12_mounts_195 (X : xCtx p R S0 m ag c0 D cA A0 sA 7 cX12_mounts RX12 (.code yX12_mounts cX12_mounts 7 (some .int) :: xG) 0 0) (hi : meth.name = yX12_mounts.name) (hroom : 4 + 2 ≤ R.frames ∧ 60 * (4 + 2) ≤ R.locals) {rr : Int32 × xM} (hE : xEnd l D cA sA cX12_mounts 7 (some .int) R 0 0 (some (.inl rr.1)) rr.2 p e S0 m ag below meth c0 A0 M0 ad0 Z) (fu : Nat) : ∀ (n : Nat) (s : Nat) (x1 : Int32) (x2 : Int32) (x3 : Int32) (M : xM), L_X12_mounts_195 fu n s x1 x2 x3 M = some rr → xWx p l e R S0 m ag below meth c0 D cA A0 sA M0 ad0 7 Z 0 0 195 0 0 [(0, .inr (.inr (12, some s))), (1, .inl x1), (2, .inl x2), (3, .inl x3)] [] M := by
  intro n
  induction n with
  | zero => intro s x1 x2 x3 M h; cases h
  | succ n ih =>
    intro s x1 x2 x3 M h
    rw [← q_X12_mounts_195 fu n s x1 x2 x3 M] at h
    have hT : ∀ w ∈ xG, w ∈ (Cond.code yX12_mounts cX12_mounts 7 (some .int) :: xG) := fun w hw => List.mem_cons_of_mem _ hw
    refine xrun_sound (nst := 0) (isInit := false) (kd := kdX12) X (xcls_mono hT xclsG) (xpool_mono hT plX12) (fun z => by cases z) (fun idx v hf => xkoE_mono hT (koX12_ok _ (xfind_mem hf))) (xents (ca := _) ?_) (endI hE).1 (endI hE).2 (xcuts (cu := _) ?_) pr_X12_mounts.1 pr_X12_mounts.2 _ _ _ _ _ _ _ _ (xat_ok pr_X12_mounts.1 pr_X12_mounts.2).1 (xat_ok pr_X12_mounts.1 pr_X12_mounts.2).2.1 (xat_ok pr_X12_mounts.1 pr_X12_mounts.2).2.2 h
    · exact (List.forall_mem_cons.mpr ⟨(xent_met X (ci := 12) hT cd_X12_allSlots lk_X12_277 rfl (by decide) rfl (by decide +kernel) (fun z => absurd z (by decide)) (hw_X12_allSlots l D cA sA fu 0) (fun _ => ⟨by decide, fun _ => ⟨TX12, 29, rfl⟩⟩) (by constructor <;> omega) (by decide)), (List.forall_mem_cons.mpr ⟨(xent_met X (ci := 12) hT cd_X12_typeOf lk_X12_290 rfl (by decide) rfl (by decide +kernel) (fun z => absurd z (by decide)) (hw_X12_typeOf l D cA sA fu 0) (fun _ => ⟨by decide, fun _ => ⟨TX12, 29, rfl⟩⟩) (by constructor <;> omega) (by decide)), (List.forall_mem_cons.mpr ⟨(xent_met X (ci := 12) hT cd_X12_base lk_X12_296 rfl (by decide) rfl (by decide +kernel) (fun z => absurd z (by decide)) (hw_X12_base l D cA sA fu 0) (fun _ => ⟨by decide, fun _ => ⟨TX12, 29, rfl⟩⟩) (by constructor <;> omega) (by decide)), (fun _ h => nomatch h)⟩)⟩)⟩)
    · refine (List.forall_mem_cons.mpr ⟨?_, (List.forall_mem_cons.mpr ⟨?_, (fun _ h => nomatch h)⟩)⟩)
      · intro bc bs ls st M h
        replace h := xz_some h
        obtain ⟨rfl, rfl, h⟩ := h
        replace h := lR_some h
        obtain ⟨o, e0, h⟩ := h
        replace h := bd_some h
        obtain ⟨s', rfl, h⟩ := h
        replace h := lI_some h
        obtain ⟨x1', e1, h⟩ := h
        replace h := lI_some h
        obtain ⟨x2', e2, h⟩ := h
        replace h := lI_some h
        obtain ⟨x3', e3, h⟩ := h
        replace h := pI_some h
        obtain ⟨y0', st, rfl, h⟩ := h
        replace h := xe_some h
        obtain ⟨rfl, h⟩ := h
        exact xWx_ls (wx_X12_mounts_227 X hi hroom hE fu _ ih s' x1' x2' x3' y0' M h) (List.forall_mem_cons.mpr ⟨e0, (List.forall_mem_cons.mpr ⟨e1, (List.forall_mem_cons.mpr ⟨e2, (List.forall_mem_cons.mpr ⟨e3, (fun _ h => nomatch h)⟩)⟩)⟩)⟩)
      · intro bc bs ls st M h
        replace h := xz_some h
        obtain ⟨rfl, rfl, h⟩ := h
        replace h := lR_some h
        obtain ⟨o, e0, h⟩ := h
        replace h := bd_some h
        obtain ⟨s', rfl, h⟩ := h
        replace h := lI_some h
        obtain ⟨x1', e1, h⟩ := h
        replace h := lI_some h
        obtain ⟨x2', e2, h⟩ := h
        replace h := lI_some h
        obtain ⟨x3', e3, h⟩ := h
        replace h := lI_some h
        obtain ⟨x4', e4, h⟩ := h
        replace h := xe_some h
        obtain ⟨rfl, h⟩ := h
        exact xWx_ls (wx_X12_mounts_271 X hi hroom hE fu fu s' x1' x2' x3' x4' M h) (List.forall_mem_cons.mpr ⟨e0, (List.forall_mem_cons.mpr ⟨e1, (List.forall_mem_cons.mpr ⟨e2, (List.forall_mem_cons.mpr ⟨e3, (List.forall_mem_cons.mpr ⟨e4, (fun _ h => nomatch h)⟩)⟩)⟩)⟩)⟩)

set_option maxRecDepth 100000 in
theorem wx_X12_mounts_101 (X : xCtx p R S0 m ag c0 D cA A0 sA 7 cX12_mounts RX12 (.code yX12_mounts cX12_mounts 7 (some .int) :: xG) 0 0) (hi : meth.name = yX12_mounts.name) (hroom : 4 + 2 ≤ R.frames ∧ 60 * (4 + 2) ≤ R.locals) {rr : Int32 × xM} (hE : xEnd l D cA sA cX12_mounts 7 (some .int) R 0 0 (some (.inl rr.1)) rr.2 p e S0 m ag below meth c0 A0 M0 ad0 Z) (fu : Nat) (k21 : Nat → Int32 → Int32 → xM → Option (Int32 × xM)) (hk21 : ∀ (s : Nat) (x1 : Int32) (x2 : Int32) (M : xM), k21 s x1 x2 M = some rr → xWx p l e R S0 m ag below meth c0 D cA A0 sA M0 ad0 7 Z 0 0 21 0 0 [(0, .inr (.inr (12, some s))), (1, .inl x1), (2, .inl x2)] [] M) : ∀ (n : Nat) (s : Nat) (x1 : Int32) (x2 : Int32) (x3 : Int32) (x4 : Int32) (x5 : Int32) (M : xM), L_X12_mounts_101 fu k21 n s x1 x2 x3 x4 x5 M = some rr → xWx p l e R S0 m ag below meth c0 D cA A0 sA M0 ad0 7 Z 0 0 101 0 0 [(0, .inr (.inr (12, some s))), (1, .inl x1), (2, .inl x2), (3, .inl x3), (4, .inl x4), (5, .inl x5)] [] M := by
  intro n
  induction n with
  | zero => intro s x1 x2 x3 x4 x5 M h; cases h
  | succ n ih =>
    intro s x1 x2 x3 x4 x5 M h
    rw [← q_X12_mounts_101 fu k21 n s x1 x2 x3 x4 x5 M] at h
    have hT : ∀ w ∈ xG, w ∈ (Cond.code yX12_mounts cX12_mounts 7 (some .int) :: xG) := fun w hw => List.mem_cons_of_mem _ hw
    refine xrun_sound (nst := 0) (isInit := false) (kd := kdX12) X (xcls_mono hT xclsG) (xpool_mono hT plX12) (fun z => by cases z) (fun idx v hf => xkoE_mono hT (koX12_ok _ (xfind_mem hf))) (xents (ca := _) ?_) (endI hE).1 (endI hE).2 (xcuts (cu := _) ?_) pr_X12_mounts.1 pr_X12_mounts.2 _ _ _ _ _ _ _ _ (xat_ok pr_X12_mounts.1 pr_X12_mounts.2).1 (xat_ok pr_X12_mounts.1 pr_X12_mounts.2).2.1 (xat_ok pr_X12_mounts.1 pr_X12_mounts.2).2.2 h
    · exact (List.forall_mem_cons.mpr ⟨(xent_met X (ci := 12) hT cd_X12_slotOf lk_X12_377 rfl (by decide) rfl (by decide +kernel) (fun z => absurd z (by decide)) (hw_X12_slotOf l D cA sA fu 0) (fun _ => ⟨by decide, fun _ => ⟨TX12, 29, rfl⟩⟩) (by constructor <;> omega) (by decide)), (fun _ h => nomatch h)⟩)
    · refine (List.forall_mem_cons.mpr ⟨?_, (List.forall_mem_cons.mpr ⟨?_, (fun _ h => nomatch h)⟩)⟩)
      · intro bc bs ls st M h
        replace h := xz_some h
        obtain ⟨rfl, rfl, h⟩ := h
        replace h := lR_some h
        obtain ⟨o, e0, h⟩ := h
        replace h := bd_some h
        obtain ⟨s', rfl, h⟩ := h
        replace h := lI_some h
        obtain ⟨x1', e1, h⟩ := h
        replace h := lI_some h
        obtain ⟨x2', e2, h⟩ := h
        replace h := xe_some h
        obtain ⟨rfl, h⟩ := h
        exact xWx_ls (hk21 s' x1' x2' M h) (List.forall_mem_cons.mpr ⟨e0, (List.forall_mem_cons.mpr ⟨e1, (List.forall_mem_cons.mpr ⟨e2, (fun _ h => nomatch h)⟩)⟩)⟩)
      · intro bc bs ls st M h
        replace h := xz_some h
        obtain ⟨rfl, rfl, h⟩ := h
        replace h := lR_some h
        obtain ⟨o, e0, h⟩ := h
        replace h := bd_some h
        obtain ⟨s', rfl, h⟩ := h
        replace h := lI_some h
        obtain ⟨x1', e1, h⟩ := h
        replace h := lI_some h
        obtain ⟨x2', e2, h⟩ := h
        replace h := lI_some h
        obtain ⟨x3', e3, h⟩ := h
        replace h := lI_some h
        obtain ⟨x4', e4, h⟩ := h
        replace h := lI_some h
        obtain ⟨x5', e5, h⟩ := h
        replace h := xe_some h
        obtain ⟨rfl, h⟩ := h
        exact xWx_ls (ih s' x1' x2' x3' x4' x5' M h) (List.forall_mem_cons.mpr ⟨e0, (List.forall_mem_cons.mpr ⟨e1, (List.forall_mem_cons.mpr ⟨e2, (List.forall_mem_cons.mpr ⟨e3, (List.forall_mem_cons.mpr ⟨e4, (List.forall_mem_cons.mpr ⟨e5, (fun _ h => nomatch h)⟩)⟩)⟩)⟩)⟩)⟩)

set_option maxRecDepth 100000 in
theorem wx_X12_mounts_21 (X : xCtx p R S0 m ag c0 D cA A0 sA 7 cX12_mounts RX12 (.code yX12_mounts cX12_mounts 7 (some .int) :: xG) 0 0) (hi : meth.name = yX12_mounts.name) (hroom : 4 + 2 ≤ R.frames ∧ 60 * (4 + 2) ≤ R.locals) {rr : Int32 × xM} (hE : xEnd l D cA sA cX12_mounts 7 (some .int) R 0 0 (some (.inl rr.1)) rr.2 p e S0 m ag below meth c0 A0 M0 ad0 Z) (fu : Nat) : ∀ (n : Nat) (s : Nat) (x1 : Int32) (x2 : Int32) (M : xM), L_X12_mounts_21 fu n s x1 x2 M = some rr → xWx p l e R S0 m ag below meth c0 D cA A0 sA M0 ad0 7 Z 0 0 21 0 0 [(0, .inr (.inr (12, some s))), (1, .inl x1), (2, .inl x2)] [] M := by
  intro n
  induction n with
  | zero => intro s x1 x2 M h; cases h
  | succ n ih =>
    intro s x1 x2 M h
    rw [← q_X12_mounts_21 fu n s x1 x2 M] at h
    have hT : ∀ w ∈ xG, w ∈ (Cond.code yX12_mounts cX12_mounts 7 (some .int) :: xG) := fun w hw => List.mem_cons_of_mem _ hw
    refine xrun_sound (nst := 0) (isInit := false) (kd := kdX12) X (xcls_mono hT xclsG) (xpool_mono hT plX12) (fun z => by cases z) (fun idx v hf => xkoE_mono hT (koX12_ok _ (xfind_mem hf))) (xents (ca := _) ?_) (endI hE).1 (endI hE).2 (xcuts (cu := _) ?_) pr_X12_mounts.1 pr_X12_mounts.2 _ _ _ _ _ _ _ _ (xat_ok pr_X12_mounts.1 pr_X12_mounts.2).1 (xat_ok pr_X12_mounts.1 pr_X12_mounts.2).2.1 (xat_ok pr_X12_mounts.1 pr_X12_mounts.2).2.2 h
    · exact (List.forall_mem_cons.mpr ⟨(xent_met X (ci := 12) hT cd_X12_slotAt lk_X12_264 rfl (by decide) rfl (by decide +kernel) (fun z => absurd z (by decide)) (hw_X12_slotAt l D cA sA fu 2 rfl) (fun z => absurd rfl z) (by constructor <;> omega) (by decide)), (List.forall_mem_cons.mpr ⟨(xent_met X (ci := 12) hT cd_X12_allSlots lk_X12_277 rfl (by decide) rfl (by decide +kernel) (fun z => absurd z (by decide)) (hw_X12_allSlots l D cA sA fu 0) (fun _ => ⟨by decide, fun _ => ⟨TX12, 29, rfl⟩⟩) (by constructor <;> omega) (by decide)), (fun _ h => nomatch h)⟩)⟩)
    · refine (List.forall_mem_cons.mpr ⟨?_, (List.forall_mem_cons.mpr ⟨?_, (fun _ h => nomatch h)⟩)⟩)
      · intro bc bs ls st M h
        replace h := xz_some h
        obtain ⟨rfl, rfl, h⟩ := h
        replace h := lR_some h
        obtain ⟨o, e0, h⟩ := h
        replace h := bd_some h
        obtain ⟨s', rfl, h⟩ := h
        replace h := lI_some h
        obtain ⟨x1', e1, h⟩ := h
        replace h := lI_some h
        obtain ⟨x2', e2, h⟩ := h
        replace h := lI_some h
        obtain ⟨x3', e3, h⟩ := h
        replace h := lI_some h
        obtain ⟨x4', e4, h⟩ := h
        replace h := lI_some h
        obtain ⟨x5', e5, h⟩ := h
        replace h := xe_some h
        obtain ⟨rfl, h⟩ := h
        exact xWx_ls (wx_X12_mounts_101 X hi hroom hE fu _ ih fu s' x1' x2' x3' x4' x5' M h) (List.forall_mem_cons.mpr ⟨e0, (List.forall_mem_cons.mpr ⟨e1, (List.forall_mem_cons.mpr ⟨e2, (List.forall_mem_cons.mpr ⟨e3, (List.forall_mem_cons.mpr ⟨e4, (List.forall_mem_cons.mpr ⟨e5, (fun _ h => nomatch h)⟩)⟩)⟩)⟩)⟩)⟩)
      · intro bc bs ls st M h
        replace h := xz_some h
        obtain ⟨rfl, rfl, h⟩ := h
        replace h := lR_some h
        obtain ⟨o, e0, h⟩ := h
        replace h := bd_some h
        obtain ⟨s', rfl, h⟩ := h
        replace h := lI_some h
        obtain ⟨x1', e1, h⟩ := h
        replace h := lI_some h
        obtain ⟨x2', e2, h⟩ := h
        replace h := lI_some h
        obtain ⟨x3', e3, h⟩ := h
        replace h := xe_some h
        obtain ⟨rfl, h⟩ := h
        exact xWx_ls (wx_X12_mounts_195 X hi hroom hE fu fu s' x1' x2' x3' M h) (List.forall_mem_cons.mpr ⟨e0, (List.forall_mem_cons.mpr ⟨e1, (List.forall_mem_cons.mpr ⟨e2, (List.forall_mem_cons.mpr ⟨e3, (fun _ h => nomatch h)⟩)⟩)⟩)⟩)

set_option maxRecDepth 100000 in
theorem wx_X12_mounts (X : xCtx p R S0 m ag c0 D cA A0 sA 7 cX12_mounts RX12 (.code yX12_mounts cX12_mounts 7 (some .int) :: xG) 0 0) (hi : meth.name = yX12_mounts.name) (hroom : 4 + 2 ≤ R.frames ∧ 60 * (4 + 2) ≤ R.locals) {rr : Int32 × xM} (hE : xEnd l D cA sA cX12_mounts 7 (some .int) R 0 0 (some (.inl rr.1)) rr.2 p e S0 m ag below meth c0 A0 M0 ad0 Z) (fu : Nat) (s : Nat) (x1 : Int32) (M : xM) (h : F_X12_mounts fu s x1 M = some rr) : xWx p l e R S0 m ag below meth c0 D cA A0 sA M0 ad0 7 Z 0 0 0 0 0 [(0, .inr (.inr (12, some s))), (1, .inl x1)] [] M := by
  rw [← q_X12_mounts fu s x1 M] at h
  have hT : ∀ w ∈ xG, w ∈ (Cond.code yX12_mounts cX12_mounts 7 (some .int) :: xG) := fun w hw => List.mem_cons_of_mem _ hw
  refine xrun_sound (nst := 0) (isInit := false) (kd := kdX12) X (xcls_mono hT xclsG) (xpool_mono hT plX12) (fun z => by cases z) (fun idx v hf => xkoE_mono hT (koX12_ok _ (xfind_mem hf))) (xents (ca := _) ?_) (endI hE).1 (endI hE).2 (xcuts (cu := _) ?_) pr_X12_mounts.1 pr_X12_mounts.2 _ _ _ _ _ _ _ _ (xat_ok pr_X12_mounts.1 pr_X12_mounts.2).1 (xat_ok pr_X12_mounts.1 pr_X12_mounts.2).2.1 (xat_ok pr_X12_mounts.1 pr_X12_mounts.2).2.2 h
  · exact (List.forall_mem_cons.mpr ⟨(xent_met X (ci := 12) hT cd_X12_looks lk_X12_305 rfl (by decide) rfl (by decide +kernel) (fun z => absurd z (by decide)) (hw_X12_looks l D cA sA fu 0) (fun _ => ⟨by decide, fun _ => ⟨TX12, 29, rfl⟩⟩) (by constructor <;> omega) (by decide)), (List.forall_mem_cons.mpr ⟨(xent_met X (ci := 12) hT cd_X12_powersOff lk_X12_317 rfl (by decide) rfl (by decide +kernel) (fun z => absurd z (by decide)) (hw_X12_powersOff l D cA sA fu 0) (fun _ => ⟨by decide, fun _ => ⟨TX12, 29, rfl⟩⟩) (by constructor <;> omega) (by decide)), (fun _ h => nomatch h)⟩)⟩)
  · refine (List.forall_mem_cons.mpr ⟨?_, (fun _ h => nomatch h)⟩)
    · intro bc bs ls st M h
      replace h := xz_some h
      obtain ⟨rfl, rfl, h⟩ := h
      replace h := lR_some h
      obtain ⟨o, e0, h⟩ := h
      replace h := bd_some h
      obtain ⟨s', rfl, h⟩ := h
      replace h := lI_some h
      obtain ⟨x1', e1, h⟩ := h
      replace h := lI_some h
      obtain ⟨x2', e2, h⟩ := h
      replace h := xe_some h
      obtain ⟨rfl, h⟩ := h
      exact xWx_ls (wx_X12_mounts_21 X hi hroom hE fu fu s' x1' x2' M h) (List.forall_mem_cons.mpr ⟨e0, (List.forall_mem_cons.mpr ⟨e1, (List.forall_mem_cons.mpr ⟨e2, (fun _ h => nomatch h)⟩)⟩)⟩)

theorem ok_X12_mounts (l : Launch) (D : va_G) (cA : Nat → ClassId) (sA : Nat → Nat) (fu : Nat) (s : Nat) (x1 : Int32) (M : xM) {rr : Int32 × xM} (h : F_X12_mounts fu s x1 M = some rr) : xMet l D cA sA yX12_mounts cX12_mounts 7 (some .int) xG (4 + 1) 0 0 [.inr (.inr (12, some s)), .inl x1] M (some (.inl rr.1)) rr.2 :=
  xmet_of (by decide +kernel) (Nat.le_of_ble_eq_true rfl) (fun p e s1 m ag below meth c0 A0 ad0 Z X hn hE => wx_X12_mounts X hn ⟨Nat.le_refl _, Nat.le_refl _⟩ hE fu s x1 M h)
theorem hw_X12_mounts (l : Launch) (D : va_G) (cA : Nat → ClassId) (sA : Nat → Nat) (fu : Nat) {ρ : Type} {r0 : ρ} (kd1 : Nat) : ∀ (as : List xV) (M : xM) (k : Option xV → xM → Option ρ), w_X12_mounts fu as M k = some r0 → ∃ v M', xMet l D cA sA yX12_mounts cX12_mounts 7 (some .int) xG (4 + 1) 0 0 as M v M' ∧ k v M' = some r0 ∧ (kd1 ≠ 2 → ∃ a as', as = .inr (.inr (12, some a)) :: as') := by
  intro as M k h
  unfold w_X12_mounts at h
  replace h := pR_some h
  obtain ⟨o, as1, rfl, h⟩ := h
  replace h := bd_some h
  obtain ⟨s, rfl, h⟩ := h
  replace h := pI_some h
  obtain ⟨x1, as1, rfl, h⟩ := h
  replace h := xe_some h
  obtain ⟨rfl, h⟩ := h
  obtain ⟨p1, hp, h⟩ := Option.bind_eq_some_iff.mp h
  exact ⟨_, _, ok_X12_mounts l D cA sA fu s x1 M hp, h, fun _ => ⟨_, _, rfl⟩⟩
theorem cd_X12_mapOf : Cond.code yX12_mapOf cX12_mapOf 4 (some .int) ∈ xG := (xg 1808 (by decide +kernel) (by decide +kernel))
theorem pr_X12_mapOf : (∀ e ∈ pX12_mapOf, xrow cX12_mapOf 4 kdX12 flX12 0 false RX12 e) ∧ xnext pX12_mapOf = true := xrows (by decide +kernel)
set_option maxRecDepth 100000 in
theorem wx_X12_mapOf (X : xCtx p R S0 m ag c0 D cA A0 sA 4 cX12_mapOf RX12 (.code yX12_mapOf cX12_mapOf 4 (some .int) :: xG) 0 0) (hi : meth.name = yX12_mapOf.name) (hroom : 0 + 2 ≤ R.frames ∧ 60 * (0 + 2) ≤ R.locals) {rr : Int32 × xM} (hE : xEnd l D cA sA cX12_mapOf 4 (some .int) R 0 0 (some (.inl rr.1)) rr.2 p e S0 m ag below meth c0 A0 M0 ad0 Z) (fu : Nat) (s : Nat) (x1 : Int32) (x2 : Int32) (x3 : Int32) (M : xM) (h : F_X12_mapOf fu s x1 x2 x3 M = some rr) : xWx p l e R S0 m ag below meth c0 D cA A0 sA M0 ad0 4 Z 0 0 0 0 0 [(0, .inr (.inr (12, some s))), (1, .inl x1), (2, .inl x2), (3, .inl x3)] [] M := by
  rw [← q_X12_mapOf fu s x1 x2 x3 M] at h
  have hT : ∀ w ∈ xG, w ∈ (Cond.code yX12_mapOf cX12_mapOf 4 (some .int) :: xG) := fun w hw => List.mem_cons_of_mem _ hw
  refine xrun_sound (nst := 0) (isInit := false) (kd := kdX12) X (xcls_mono hT xclsG) (xpool_mono hT plX12) (fun z => by cases z) (fun idx v hf => xkoE_mono hT (koX12_ok _ (xfind_mem hf))) (xents (ca := _) ?_) (endI hE).1 (endI hE).2 (xcuts (cu := _) ?_) pr_X12_mapOf.1 pr_X12_mapOf.2 _ _ _ _ _ _ _ _ (xat_ok pr_X12_mapOf.1 pr_X12_mapOf.2).1 (xat_ok pr_X12_mapOf.1 pr_X12_mapOf.2).2.1 (xat_ok pr_X12_mapOf.1 pr_X12_mapOf.2).2.2 h
  · exact (fun _ h => nomatch h)
  · exact (fun _ h => nomatch h)

theorem ok_X12_mapOf (l : Launch) (D : va_G) (cA : Nat → ClassId) (sA : Nat → Nat) (fu : Nat) (s : Nat) (x1 : Int32) (x2 : Int32) (x3 : Int32) (M : xM) {rr : Int32 × xM} (h : F_X12_mapOf fu s x1 x2 x3 M = some rr) : xMet l D cA sA yX12_mapOf cX12_mapOf 4 (some .int) xG (0 + 1) 0 0 [.inr (.inr (12, some s)), .inl x1, .inl x2, .inl x3] M (some (.inl rr.1)) rr.2 :=
  xmet_of (by decide +kernel) (Nat.le_of_ble_eq_true rfl) (fun p e s1 m ag below meth c0 A0 ad0 Z X hn hE => wx_X12_mapOf X hn ⟨Nat.le_refl _, Nat.le_refl _⟩ hE fu s x1 x2 x3 M h)
theorem hw_X12_mapOf (l : Launch) (D : va_G) (cA : Nat → ClassId) (sA : Nat → Nat) (fu : Nat) {ρ : Type} {r0 : ρ} (kd1 : Nat) : ∀ (as : List xV) (M : xM) (k : Option xV → xM → Option ρ), w_X12_mapOf fu as M k = some r0 → ∃ v M', xMet l D cA sA yX12_mapOf cX12_mapOf 4 (some .int) xG (0 + 1) 0 0 as M v M' ∧ k v M' = some r0 ∧ (kd1 ≠ 2 → ∃ a as', as = .inr (.inr (12, some a)) :: as') := by
  intro as M k h
  unfold w_X12_mapOf at h
  replace h := pR_some h
  obtain ⟨o, as1, rfl, h⟩ := h
  replace h := bd_some h
  obtain ⟨s, rfl, h⟩ := h
  replace h := pI_some h
  obtain ⟨x1, as1, rfl, h⟩ := h
  replace h := pI_some h
  obtain ⟨x2, as1, rfl, h⟩ := h
  replace h := pI_some h
  obtain ⟨x3, as1, rfl, h⟩ := h
  replace h := xe_some h
  obtain ⟨rfl, h⟩ := h
  obtain ⟨p1, hp, h⟩ := Option.bind_eq_some_iff.mp h
  exact ⟨_, _, ok_X12_mapOf l D cA sA fu s x1 x2 x3 M hp, h, fun _ => ⟨_, _, rfl⟩⟩
theorem lk_X12_267 : xLink xG RX12 267 0 yX12_mapOf 3 := ⟨Or.inl (xg 1805 (by decide +kernel) (by decide +kernel)), (xg 1807 (by decide +kernel) (by decide +kernel)), (xg 75 (by decide +kernel) (by decide +kernel)), (xg 141 (by decide +kernel) (by decide +kernel)), ⟨12, by decide, TX12, 29, rfl⟩⟩
theorem cd_X12_saysOf : Cond.code yX12_saysOf cX12_saysOf 6 (some .int) ∈ xG := (xg 2016 (by decide +kernel) (by decide +kernel))
theorem pr_X12_saysOf : (∀ e ∈ pX12_saysOf, xrow cX12_saysOf 6 kdX12 flX12 0 false RX12 e) ∧ xnext pX12_saysOf = true := xrows (by decide +kernel)
set_option maxRecDepth 100000 in
theorem wx_X12_saysOf_26 (X : xCtx p R S0 m ag c0 D cA A0 sA 6 cX12_saysOf RX12 (.code yX12_saysOf cX12_saysOf 6 (some .int) :: xG) 0 0) (hi : meth.name = yX12_saysOf.name) (hroom : 3 + 2 ≤ R.frames ∧ 60 * (3 + 2) ≤ R.locals) {rr : Int32 × xM} (hE : xEnd l D cA sA cX12_saysOf 6 (some .int) R 0 0 (some (.inl rr.1)) rr.2 p e S0 m ag below meth c0 A0 M0 ad0 Z) (fu : Nat) (s : Nat) (x1 : Int32) (y0 : Int32) (M : xM) (h : J_X12_saysOf_26 fu s x1 y0 M = some rr) : xWx p l e R S0 m ag below meth c0 D cA A0 sA M0 ad0 6 Z 0 0 26 0 0 [(0, .inr (.inr (12, some s))), (1, .inl x1)] [.inl y0] M := by
  rw [← q_X12_saysOf_26 fu s x1 y0 M] at h
  have hT : ∀ w ∈ xG, w ∈ (Cond.code yX12_saysOf cX12_saysOf 6 (some .int) :: xG) := fun w hw => List.mem_cons_of_mem _ hw
  refine xrun_sound (nst := 0) (isInit := false) (kd := kdX12) X (xcls_mono hT xclsG) (xpool_mono hT plX12) (fun z => by cases z) (fun idx v hf => xkoE_mono hT (koX12_ok _ (xfind_mem hf))) (xents (ca := _) ?_) (endI hE).1 (endI hE).2 (xcuts (cu := _) ?_) pr_X12_saysOf.1 pr_X12_saysOf.2 _ _ _ _ _ _ _ _ (xat_ok pr_X12_saysOf.1 pr_X12_saysOf.2).1 (xat_ok pr_X12_saysOf.1 pr_X12_saysOf.2).2.1 (xat_ok pr_X12_saysOf.1 pr_X12_saysOf.2).2.2 h
  · exact (List.forall_mem_cons.mpr ⟨(xent_met X (ci := 12) hT cd_X12_slotAt lk_X12_264 rfl (by decide) rfl (by decide +kernel) (fun z => absurd z (by decide)) (hw_X12_slotAt l D cA sA fu 2 rfl) (fun z => absurd rfl z) (by constructor <;> omega) (by decide)), (fun _ h => nomatch h)⟩)
  · exact (fun _ h => nomatch h)

set_option maxRecDepth 100000 in
theorem wx_X12_saysOf (X : xCtx p R S0 m ag c0 D cA A0 sA 6 cX12_saysOf RX12 (.code yX12_saysOf cX12_saysOf 6 (some .int) :: xG) 0 0) (hi : meth.name = yX12_saysOf.name) (hroom : 3 + 2 ≤ R.frames ∧ 60 * (3 + 2) ≤ R.locals) {rr : Int32 × xM} (hE : xEnd l D cA sA cX12_saysOf 6 (some .int) R 0 0 (some (.inl rr.1)) rr.2 p e S0 m ag below meth c0 A0 M0 ad0 Z) (fu : Nat) (s : Nat) (x1 : Int32) (x2 : Int32) (x3 : Int32) (M : xM) (h : F_X12_saysOf fu s x1 x2 x3 M = some rr) : xWx p l e R S0 m ag below meth c0 D cA A0 sA M0 ad0 6 Z 0 0 0 0 0 [(0, .inr (.inr (12, some s))), (1, .inl x1), (2, .inl x2), (3, .inl x3)] [] M := by
  rw [← q_X12_saysOf fu s x1 x2 x3 M] at h
  have hT : ∀ w ∈ xG, w ∈ (Cond.code yX12_saysOf cX12_saysOf 6 (some .int) :: xG) := fun w hw => List.mem_cons_of_mem _ hw
  refine xrun_sound (nst := 0) (isInit := false) (kd := kdX12) X (xcls_mono hT xclsG) (xpool_mono hT plX12) (fun z => by cases z) (fun idx v hf => xkoE_mono hT (koX12_ok _ (xfind_mem hf))) (xents (ca := _) ?_) (endI hE).1 (endI hE).2 (xcuts (cu := _) ?_) pr_X12_saysOf.1 pr_X12_saysOf.2 _ _ _ _ _ _ _ _ (xat_ok pr_X12_saysOf.1 pr_X12_saysOf.2).1 (xat_ok pr_X12_saysOf.1 pr_X12_saysOf.2).2.1 (xat_ok pr_X12_saysOf.1 pr_X12_saysOf.2).2.2 h
  · exact (List.forall_mem_cons.mpr ⟨(xent_met X (ci := 12) hT cd_X12_mapOf lk_X12_267 rfl (by decide) rfl (by decide +kernel) (fun z => absurd z (by decide)) (hw_X12_mapOf l D cA sA fu 0) (fun _ => ⟨by decide, fun _ => ⟨TX12, 29, rfl⟩⟩) (by constructor <;> omega) (by decide)), (List.forall_mem_cons.mpr ⟨(xent_met X (ci := 12) hT cd_X12_slotOf lk_X12_377 rfl (by decide) rfl (by decide +kernel) (fun z => absurd z (by decide)) (hw_X12_slotOf l D cA sA fu 0) (fun _ => ⟨by decide, fun _ => ⟨TX12, 29, rfl⟩⟩) (by constructor <;> omega) (by decide)), (fun _ h => nomatch h)⟩)⟩)
  · refine (List.forall_mem_cons.mpr ⟨?_, (fun _ h => nomatch h)⟩)
    · intro bc bs ls st M h
      replace h := xz_some h
      obtain ⟨rfl, rfl, h⟩ := h
      replace h := lR_some h
      obtain ⟨o, e0, h⟩ := h
      replace h := bd_some h
      obtain ⟨s', rfl, h⟩ := h
      replace h := lI_some h
      obtain ⟨x1', e1, h⟩ := h
      replace h := pI_some h
      obtain ⟨y0', st, rfl, h⟩ := h
      replace h := xe_some h
      obtain ⟨rfl, h⟩ := h
      exact xWx_ls (wx_X12_saysOf_26 X hi hroom hE fu s' x1' y0' M h) (List.forall_mem_cons.mpr ⟨e0, (List.forall_mem_cons.mpr ⟨e1, (fun _ h => nomatch h)⟩)⟩)

theorem ok_X12_saysOf (l : Launch) (D : va_G) (cA : Nat → ClassId) (sA : Nat → Nat) (fu : Nat) (s : Nat) (x1 : Int32) (x2 : Int32) (x3 : Int32) (M : xM) {rr : Int32 × xM} (h : F_X12_saysOf fu s x1 x2 x3 M = some rr) : xMet l D cA sA yX12_saysOf cX12_saysOf 6 (some .int) xG (3 + 1) 0 0 [.inr (.inr (12, some s)), .inl x1, .inl x2, .inl x3] M (some (.inl rr.1)) rr.2 :=
  xmet_of (by decide +kernel) (Nat.le_of_ble_eq_true rfl) (fun p e s1 m ag below meth c0 A0 ad0 Z X hn hE => wx_X12_saysOf X hn ⟨Nat.le_refl _, Nat.le_refl _⟩ hE fu s x1 x2 x3 M h)
theorem hw_X12_saysOf (l : Launch) (D : va_G) (cA : Nat → ClassId) (sA : Nat → Nat) (fu : Nat) {ρ : Type} {r0 : ρ} (kd1 : Nat) : ∀ (as : List xV) (M : xM) (k : Option xV → xM → Option ρ), w_X12_saysOf fu as M k = some r0 → ∃ v M', xMet l D cA sA yX12_saysOf cX12_saysOf 6 (some .int) xG (3 + 1) 0 0 as M v M' ∧ k v M' = some r0 ∧ (kd1 ≠ 2 → ∃ a as', as = .inr (.inr (12, some a)) :: as') := by
  intro as M k h
  unfold w_X12_saysOf at h
  replace h := pR_some h
  obtain ⟨o, as1, rfl, h⟩ := h
  replace h := bd_some h
  obtain ⟨s, rfl, h⟩ := h
  replace h := pI_some h
  obtain ⟨x1, as1, rfl, h⟩ := h
  replace h := pI_some h
  obtain ⟨x2, as1, rfl, h⟩ := h
  replace h := pI_some h
  obtain ⟨x3, as1, rfl, h⟩ := h
  replace h := xe_some h
  obtain ⟨rfl, h⟩ := h
  obtain ⟨p1, hp, h⟩ := Option.bind_eq_some_iff.mp h
  exact ⟨_, _, ok_X12_saysOf l D cA sA fu s x1 x2 x3 M hp, h, fun _ => ⟨_, _, rfl⟩⟩
theorem lk_X12_401 : xLink xG RX12 401 0 yX12_saysOf 3 := ⟨Or.inl (xg 2013 (by decide +kernel) (by decide +kernel)), (xg 2015 (by decide +kernel) (by decide +kernel)), (xg 114 (by decide +kernel) (by decide +kernel)), (xg 141 (by decide +kernel) (by decide +kernel)), ⟨12, by decide, TX12, 29, rfl⟩⟩
theorem cd_X12_packs : Cond.code yX12_packs cX12_packs 9 none ∈ xG := (xg 2011 (by decide +kernel) (by decide +kernel))
theorem pr_X12_packs : (∀ e ∈ pX12_packs, xrow cX12_packs 9 kdX12 flX12 0 false RX12 e) ∧ xnext pX12_packs = true := xrows (by decide +kernel)
set_option maxRecDepth 100000 in
theorem wx_X12_packs_16 (X : xCtx p R S0 m ag c0 D cA A0 sA 9 cX12_packs RX12 (.code yX12_packs cX12_packs 9 none :: xG) 0 0) (hi : meth.name = yX12_packs.name) (hroom : 4 + 2 ≤ R.frames ∧ 60 * (4 + 2) ≤ R.locals) {rr : xM} (hE : xEnd l D cA sA cX12_packs 9 none R 0 0 none rr p e S0 m ag below meth c0 A0 M0 ad0 Z) (fu : Nat) (k3 : Nat → Int32 → Option Nat → Int32 → Int32 → xM → Option xM) (hk3 : ∀ (s : Nat) (x1 : Int32) (x2 : Option Nat) (x3 : Int32) (x4 : Int32) (M : xM), k3 s x1 x2 x3 x4 M = some rr → xWx p l e R S0 m ag below meth c0 D cA A0 sA M0 ad0 9 Z 0 0 3 0 0 [(0, .inr (.inr (12, some s))), (1, .inl x1), (2, .inr (.inr (21, x2))), (3, .inl x3), (4, .inl x4)] [] M) : ∀ (n : Nat) (s : Nat) (x1 : Int32) (x2 : Option Nat) (x3 : Int32) (x4 : Int32) (x5 : Int64) (x7 : Int32) (M : xM), L_X12_packs_16 fu k3 n s x1 x2 x3 x4 x5 x7 M = some rr → xWx p l e R S0 m ag below meth c0 D cA A0 sA M0 ad0 9 Z 0 0 16 0 0 [(0, .inr (.inr (12, some s))), (1, .inl x1), (2, .inr (.inr (21, x2))), (3, .inl x3), (4, .inl x4), (5, .inr (.inl x5)), (7, .inl x7)] [] M := by
  intro n
  induction n with
  | zero => intro s x1 x2 x3 x4 x5 x7 M h; cases h
  | succ n ih =>
    intro s x1 x2 x3 x4 x5 x7 M h
    rw [← q_X12_packs_16 fu k3 n s x1 x2 x3 x4 x5 x7 M] at h
    have hT : ∀ w ∈ xG, w ∈ (Cond.code yX12_packs cX12_packs 9 none :: xG) := fun w hw => List.mem_cons_of_mem _ hw
    refine xrun_sound (nst := 0) (isInit := false) (kd := kdX12) X (xcls_mono hT xclsG) (xpool_mono hT plX12) (fun z => by cases z) (fun idx v hf => xkoE_mono hT (koX12_ok _ (xfind_mem hf))) (xents (ca := _) ?_) (endV hE).1 (endV hE).2 (xcuts (cu := _) ?_) pr_X12_packs.1 pr_X12_packs.2 _ _ _ _ _ _ _ _ (xat_ok pr_X12_packs.1 pr_X12_packs.2).1 (xat_ok pr_X12_packs.1 pr_X12_packs.2).2.1 (xat_ok pr_X12_packs.1 pr_X12_packs.2).2.2 h
    · exact (List.forall_mem_cons.mpr ⟨(xent_met X (ci := 12) hT cd_X12_saysOf lk_X12_401 rfl (by decide) rfl (by decide +kernel) (fun z => absurd z (by decide)) (hw_X12_saysOf l D cA sA fu 0) (fun _ => ⟨by decide, fun _ => ⟨TX12, 29, rfl⟩⟩) (by constructor <;> omega) (by decide)), (fun _ h => nomatch h)⟩)
    · refine (List.forall_mem_cons.mpr ⟨?_, (List.forall_mem_cons.mpr ⟨?_, (fun _ h => nomatch h)⟩)⟩)
      · intro bc bs ls st M h
        replace h := xz_some h
        obtain ⟨rfl, rfl, h⟩ := h
        replace h := lR_some h
        obtain ⟨o, e0, h⟩ := h
        replace h := bd_some h
        obtain ⟨s', rfl, h⟩ := h
        replace h := lI_some h
        obtain ⟨x1', e1, h⟩ := h
        replace h := lR_some h
        obtain ⟨x2', e2, h⟩ := h
        replace h := lI_some h
        obtain ⟨x3', e3, h⟩ := h
        replace h := lI_some h
        obtain ⟨x4', e4, h⟩ := h
        replace h := xe_some h
        obtain ⟨rfl, h⟩ := h
        exact xWx_ls (hk3 s' x1' x2' x3' x4' M h) (List.forall_mem_cons.mpr ⟨e0, (List.forall_mem_cons.mpr ⟨e1, (List.forall_mem_cons.mpr ⟨e2, (List.forall_mem_cons.mpr ⟨e3, (List.forall_mem_cons.mpr ⟨e4, (fun _ h => nomatch h)⟩)⟩)⟩)⟩)⟩)
      · intro bc bs ls st M h
        replace h := xz_some h
        obtain ⟨rfl, rfl, h⟩ := h
        replace h := lR_some h
        obtain ⟨o, e0, h⟩ := h
        replace h := bd_some h
        obtain ⟨s', rfl, h⟩ := h
        replace h := lI_some h
        obtain ⟨x1', e1, h⟩ := h
        replace h := lR_some h
        obtain ⟨x2', e2, h⟩ := h
        replace h := lI_some h
        obtain ⟨x3', e3, h⟩ := h
        replace h := lI_some h
        obtain ⟨x4', e4, h⟩ := h
        replace h := lL_some h
        obtain ⟨x5', e5, h⟩ := h
        replace h := lI_some h
        obtain ⟨x7', e7, h⟩ := h
        replace h := xe_some h
        obtain ⟨rfl, h⟩ := h
        exact xWx_ls (ih s' x1' x2' x3' x4' x5' x7' M h) (List.forall_mem_cons.mpr ⟨e0, (List.forall_mem_cons.mpr ⟨e1, (List.forall_mem_cons.mpr ⟨e2, (List.forall_mem_cons.mpr ⟨e3, (List.forall_mem_cons.mpr ⟨e4, (List.forall_mem_cons.mpr ⟨e5, (List.forall_mem_cons.mpr ⟨e7, (fun _ h => nomatch h)⟩)⟩)⟩)⟩)⟩)⟩)⟩)

set_option maxRecDepth 100000 in
theorem wx_X12_packs_3 (X : xCtx p R S0 m ag c0 D cA A0 sA 9 cX12_packs RX12 (.code yX12_packs cX12_packs 9 none :: xG) 0 0) (hi : meth.name = yX12_packs.name) (hroom : 4 + 2 ≤ R.frames ∧ 60 * (4 + 2) ≤ R.locals) {rr : xM} (hE : xEnd l D cA sA cX12_packs 9 none R 0 0 none rr p e S0 m ag below meth c0 A0 M0 ad0 Z) (fu : Nat) : ∀ (n : Nat) (s : Nat) (x1 : Int32) (x2 : Option Nat) (x3 : Int32) (x4 : Int32) (M : xM), L_X12_packs_3 fu n s x1 x2 x3 x4 M = some rr → xWx p l e R S0 m ag below meth c0 D cA A0 sA M0 ad0 9 Z 0 0 3 0 0 [(0, .inr (.inr (12, some s))), (1, .inl x1), (2, .inr (.inr (21, x2))), (3, .inl x3), (4, .inl x4)] [] M := by
  intro n
  induction n with
  | zero => intro s x1 x2 x3 x4 M h; cases h
  | succ n ih =>
    intro s x1 x2 x3 x4 M h
    rw [← q_X12_packs_3 fu n s x1 x2 x3 x4 M] at h
    have hT : ∀ w ∈ xG, w ∈ (Cond.code yX12_packs cX12_packs 9 none :: xG) := fun w hw => List.mem_cons_of_mem _ hw
    refine xrun_sound (nst := 0) (isInit := false) (kd := kdX12) X (xcls_mono hT xclsG) (xpool_mono hT plX12) (fun z => by cases z) (fun idx v hf => xkoE_mono hT (koX12_ok _ (xfind_mem hf))) (xents (ca := _) ?_) (endV hE).1 (endV hE).2 (xcuts (cu := _) ?_) pr_X12_packs.1 pr_X12_packs.2 _ _ _ _ _ _ _ _ (xat_ok pr_X12_packs.1 pr_X12_packs.2).1 (xat_ok pr_X12_packs.1 pr_X12_packs.2).2.1 (xat_ok pr_X12_packs.1 pr_X12_packs.2).2.2 h
    · exact (fun _ h => nomatch h)
    · refine (List.forall_mem_cons.mpr ⟨?_, (fun _ h => nomatch h)⟩)
      · intro bc bs ls st M h
        replace h := xz_some h
        obtain ⟨rfl, rfl, h⟩ := h
        replace h := lR_some h
        obtain ⟨o, e0, h⟩ := h
        replace h := bd_some h
        obtain ⟨s', rfl, h⟩ := h
        replace h := lI_some h
        obtain ⟨x1', e1, h⟩ := h
        replace h := lR_some h
        obtain ⟨x2', e2, h⟩ := h
        replace h := lI_some h
        obtain ⟨x3', e3, h⟩ := h
        replace h := lI_some h
        obtain ⟨x4', e4, h⟩ := h
        replace h := lL_some h
        obtain ⟨x5', e5, h⟩ := h
        replace h := lI_some h
        obtain ⟨x7', e7, h⟩ := h
        replace h := xe_some h
        obtain ⟨rfl, h⟩ := h
        exact xWx_ls (wx_X12_packs_16 X hi hroom hE fu _ ih fu s' x1' x2' x3' x4' x5' x7' M h) (List.forall_mem_cons.mpr ⟨e0, (List.forall_mem_cons.mpr ⟨e1, (List.forall_mem_cons.mpr ⟨e2, (List.forall_mem_cons.mpr ⟨e3, (List.forall_mem_cons.mpr ⟨e4, (List.forall_mem_cons.mpr ⟨e5, (List.forall_mem_cons.mpr ⟨e7, (fun _ h => nomatch h)⟩)⟩)⟩)⟩)⟩)⟩)⟩)

set_option maxRecDepth 100000 in
theorem wx_X12_packs (X : xCtx p R S0 m ag c0 D cA A0 sA 9 cX12_packs RX12 (.code yX12_packs cX12_packs 9 none :: xG) 0 0) (hi : meth.name = yX12_packs.name) (hroom : 4 + 2 ≤ R.frames ∧ 60 * (4 + 2) ≤ R.locals) {rr : xM} (hE : xEnd l D cA sA cX12_packs 9 none R 0 0 none rr p e S0 m ag below meth c0 A0 M0 ad0 Z) (fu : Nat) (s : Nat) (x1 : Int32) (x2 : Option Nat) (x3 : Int32) (M : xM) (h : F_X12_packs fu s x1 x2 x3 M = some rr) : xWx p l e R S0 m ag below meth c0 D cA A0 sA M0 ad0 9 Z 0 0 0 0 0 [(0, .inr (.inr (12, some s))), (1, .inl x1), (2, .inr (.inr (21, x2))), (3, .inl x3)] [] M := by
  rw [← q_X12_packs fu s x1 x2 x3 M] at h
  have hT : ∀ w ∈ xG, w ∈ (Cond.code yX12_packs cX12_packs 9 none :: xG) := fun w hw => List.mem_cons_of_mem _ hw
  refine xrun_sound (nst := 0) (isInit := false) (kd := kdX12) X (xcls_mono hT xclsG) (xpool_mono hT plX12) (fun z => by cases z) (fun idx v hf => xkoE_mono hT (koX12_ok _ (xfind_mem hf))) (xents (ca := _) ?_) (endV hE).1 (endV hE).2 (xcuts (cu := _) ?_) pr_X12_packs.1 pr_X12_packs.2 _ _ _ _ _ _ _ _ (xat_ok pr_X12_packs.1 pr_X12_packs.2).1 (xat_ok pr_X12_packs.1 pr_X12_packs.2).2.1 (xat_ok pr_X12_packs.1 pr_X12_packs.2).2.2 h
  · exact (fun _ h => nomatch h)
  · refine (List.forall_mem_cons.mpr ⟨?_, (fun _ h => nomatch h)⟩)
    · intro bc bs ls st M h
      replace h := xz_some h
      obtain ⟨rfl, rfl, h⟩ := h
      replace h := lR_some h
      obtain ⟨o, e0, h⟩ := h
      replace h := bd_some h
      obtain ⟨s', rfl, h⟩ := h
      replace h := lI_some h
      obtain ⟨x1', e1, h⟩ := h
      replace h := lR_some h
      obtain ⟨x2', e2, h⟩ := h
      replace h := lI_some h
      obtain ⟨x3', e3, h⟩ := h
      replace h := lI_some h
      obtain ⟨x4', e4, h⟩ := h
      replace h := xe_some h
      obtain ⟨rfl, h⟩ := h
      exact xWx_ls (wx_X12_packs_3 X hi hroom hE fu fu s' x1' x2' x3' x4' M h) (List.forall_mem_cons.mpr ⟨e0, (List.forall_mem_cons.mpr ⟨e1, (List.forall_mem_cons.mpr ⟨e2, (List.forall_mem_cons.mpr ⟨e3, (List.forall_mem_cons.mpr ⟨e4, (fun _ h => nomatch h)⟩)⟩)⟩)⟩)⟩)

theorem ok_X12_packs (l : Launch) (D : va_G) (cA : Nat → ClassId) (sA : Nat → Nat) (fu : Nat) (s : Nat) (x1 : Int32) (x2 : Option Nat) (x3 : Int32) (M : xM) {rr : xM} (h : F_X12_packs fu s x1 x2 x3 M = some rr) : xMet l D cA sA yX12_packs cX12_packs 9 none xG (4 + 1) 0 0 [.inr (.inr (12, some s)), .inl x1, .inr (.inr (21, x2)), .inl x3] M none rr :=
  xmet_of (by decide +kernel) (Nat.le_of_ble_eq_true rfl) (fun p e s1 m ag below meth c0 A0 ad0 Z X hn hE => wx_X12_packs X hn ⟨Nat.le_refl _, Nat.le_refl _⟩ hE fu s x1 x2 x3 M h)
theorem hw_X12_packs (l : Launch) (D : va_G) (cA : Nat → ClassId) (sA : Nat → Nat) (fu : Nat) {ρ : Type} {r0 : ρ} (kd1 : Nat) : ∀ (as : List xV) (M : xM) (k : Option xV → xM → Option ρ), w_X12_packs fu as M k = some r0 → ∃ v M', xMet l D cA sA yX12_packs cX12_packs 9 none xG (4 + 1) 0 0 as M v M' ∧ k v M' = some r0 ∧ (kd1 ≠ 2 → ∃ a as', as = .inr (.inr (12, some a)) :: as') := by
  intro as M k h
  unfold w_X12_packs at h
  replace h := pR_some h
  obtain ⟨o, as1, rfl, h⟩ := h
  replace h := bd_some h
  obtain ⟨s, rfl, h⟩ := h
  replace h := pI_some h
  obtain ⟨x1, as1, rfl, h⟩ := h
  replace h := pR_some h
  obtain ⟨x2, as1, rfl, h⟩ := h
  replace h := pI_some h
  obtain ⟨x3, as1, rfl, h⟩ := h
  replace h := xe_some h
  obtain ⟨rfl, h⟩ := h
  obtain ⟨p1, hp, h⟩ := Option.bind_eq_some_iff.mp h
  exact ⟨_, _, ok_X12_packs l D cA sA fu s x1 x2 x3 M hp, h, fun _ => ⟨_, _, rfl⟩⟩
theorem cd_X12_isOrphan : Cond.code yX12_isOrphan cX12_isOrphan 3 (some .boolean) ∈ xG := (xg 1860 (by decide +kernel) (by decide +kernel))
theorem pr_X12_isOrphan : (∀ e ∈ pX12_isOrphan, xrow cX12_isOrphan 3 kdX12 flX12 0 false RX12 e) ∧ xnext pX12_isOrphan = true := xrows (by decide +kernel)
set_option maxRecDepth 100000 in
theorem wx_X12_isOrphan (X : xCtx p R S0 m ag c0 D cA A0 sA 3 cX12_isOrphan RX12 (.code yX12_isOrphan cX12_isOrphan 3 (some .boolean) :: xG) 0 0) (hi : meth.name = yX12_isOrphan.name) (hroom : 0 + 2 ≤ R.frames ∧ 60 * (0 + 2) ≤ R.locals) {rr : Int32 × xM} (hE : xEnd l D cA sA cX12_isOrphan 3 (some .boolean) R 0 0 (some (.inl rr.1)) rr.2 p e S0 m ag below meth c0 A0 M0 ad0 Z) (fu : Nat) (s : Nat) (x1 : Int32) (x2 : Int32) (M : xM) (h : F_X12_isOrphan fu s x1 x2 M = some rr) : xWx p l e R S0 m ag below meth c0 D cA A0 sA M0 ad0 3 Z 0 0 0 0 0 [(0, .inr (.inr (12, some s))), (1, .inl x1), (2, .inl x2)] [] M := by
  rw [← q_X12_isOrphan fu s x1 x2 M] at h
  have hT : ∀ w ∈ xG, w ∈ (Cond.code yX12_isOrphan cX12_isOrphan 3 (some .boolean) :: xG) := fun w hw => List.mem_cons_of_mem _ hw
  refine xrun_sound (nst := 0) (isInit := false) (kd := kdX12) X (xcls_mono hT xclsG) (xpool_mono hT plX12) (fun z => by cases z) (fun idx v hf => xkoE_mono hT (koX12_ok _ (xfind_mem hf))) (xents (ca := _) ?_) (endZ hE).1 (endZ hE).2 (xcuts (cu := _) ?_) pr_X12_isOrphan.1 pr_X12_isOrphan.2 _ _ _ _ _ _ _ _ (xat_ok pr_X12_isOrphan.1 pr_X12_isOrphan.2).1 (xat_ok pr_X12_isOrphan.1 pr_X12_isOrphan.2).2.1 (xat_ok pr_X12_isOrphan.1 pr_X12_isOrphan.2).2.2 h
  · exact (fun _ h => nomatch h)
  · exact (fun _ h => nomatch h)

theorem ok_X12_isOrphan (l : Launch) (D : va_G) (cA : Nat → ClassId) (sA : Nat → Nat) (fu : Nat) (s : Nat) (x1 : Int32) (x2 : Int32) (M : xM) {rr : Int32 × xM} (h : F_X12_isOrphan fu s x1 x2 M = some rr) : xMet l D cA sA yX12_isOrphan cX12_isOrphan 3 (some .boolean) xG (0 + 1) 0 0 [.inr (.inr (12, some s)), .inl x1, .inl x2] M (some (.inl rr.1)) rr.2 :=
  xmet_of (by decide +kernel) (Nat.le_of_ble_eq_true rfl) (fun p e s1 m ag below meth c0 A0 ad0 Z X hn hE => wx_X12_isOrphan X hn ⟨Nat.le_refl _, Nat.le_refl _⟩ hE fu s x1 x2 M h)
theorem hw_X12_isOrphan (l : Launch) (D : va_G) (cA : Nat → ClassId) (sA : Nat → Nat) (fu : Nat) {ρ : Type} {r0 : ρ} (kd1 : Nat) : ∀ (as : List xV) (M : xM) (k : Option xV → xM → Option ρ), w_X12_isOrphan fu as M k = some r0 → ∃ v M', xMet l D cA sA yX12_isOrphan cX12_isOrphan 3 (some .boolean) xG (0 + 1) 0 0 as M v M' ∧ k v M' = some r0 ∧ (kd1 ≠ 2 → ∃ a as', as = .inr (.inr (12, some a)) :: as') := by
  intro as M k h
  unfold w_X12_isOrphan at h
  replace h := pR_some h
  obtain ⟨o, as1, rfl, h⟩ := h
  replace h := bd_some h
  obtain ⟨s, rfl, h⟩ := h
  replace h := pI_some h
  obtain ⟨x1, as1, rfl, h⟩ := h
  replace h := pI_some h
  obtain ⟨x2, as1, rfl, h⟩ := h
  replace h := xe_some h
  obtain ⟨rfl, h⟩ := h
  obtain ⟨p1, hp, h⟩ := Option.bind_eq_some_iff.mp h
  exact ⟨_, _, ok_X12_isOrphan l D cA sA fu s x1 x2 M hp, h, fun _ => ⟨_, _, rfl⟩⟩
theorem cd_X12_kindOf : Cond.code yX12_kindOf cX12_kindOf 2 (some .int) ∈ xG := (xg 1844 (by decide +kernel) (by decide +kernel))
theorem pr_X12_kindOf : (∀ e ∈ pX12_kindOf, xrow cX12_kindOf 2 kdX12 flX12 0 false RX12 e) ∧ xnext pX12_kindOf = true := xrows (by decide +kernel)
set_option maxRecDepth 100000 in
theorem wx_X12_kindOf (X : xCtx p R S0 m ag c0 D cA A0 sA 2 cX12_kindOf RX12 (.code yX12_kindOf cX12_kindOf 2 (some .int) :: xG) 0 0) (hi : meth.name = yX12_kindOf.name) (hroom : 0 + 2 ≤ R.frames ∧ 60 * (0 + 2) ≤ R.locals) {rr : Int32 × xM} (hE : xEnd l D cA sA cX12_kindOf 2 (some .int) R 0 0 (some (.inl rr.1)) rr.2 p e S0 m ag below meth c0 A0 M0 ad0 Z) (fu : Nat) (s : Nat) (x1 : Int32) (M : xM) (h : F_X12_kindOf fu s x1 M = some rr) : xWx p l e R S0 m ag below meth c0 D cA A0 sA M0 ad0 2 Z 0 0 0 0 0 [(0, .inr (.inr (12, some s))), (1, .inl x1)] [] M := by
  rw [← q_X12_kindOf fu s x1 M] at h
  have hT : ∀ w ∈ xG, w ∈ (Cond.code yX12_kindOf cX12_kindOf 2 (some .int) :: xG) := fun w hw => List.mem_cons_of_mem _ hw
  refine xrun_sound (nst := 0) (isInit := false) (kd := kdX12) X (xcls_mono hT xclsG) (xpool_mono hT plX12) (fun z => by cases z) (fun idx v hf => xkoE_mono hT (koX12_ok _ (xfind_mem hf))) (xents (ca := _) ?_) (endI hE).1 (endI hE).2 (xcuts (cu := _) ?_) pr_X12_kindOf.1 pr_X12_kindOf.2 _ _ _ _ _ _ _ _ (xat_ok pr_X12_kindOf.1 pr_X12_kindOf.2).1 (xat_ok pr_X12_kindOf.1 pr_X12_kindOf.2).2.1 (xat_ok pr_X12_kindOf.1 pr_X12_kindOf.2).2.2 h
  · exact (fun _ h => nomatch h)
  · exact (fun _ h => nomatch h)

theorem ok_X12_kindOf (l : Launch) (D : va_G) (cA : Nat → ClassId) (sA : Nat → Nat) (fu : Nat) (s : Nat) (x1 : Int32) (M : xM) {rr : Int32 × xM} (h : F_X12_kindOf fu s x1 M = some rr) : xMet l D cA sA yX12_kindOf cX12_kindOf 2 (some .int) xG (0 + 1) 0 0 [.inr (.inr (12, some s)), .inl x1] M (some (.inl rr.1)) rr.2 :=
  xmet_of (by decide +kernel) (Nat.le_of_ble_eq_true rfl) (fun p e s1 m ag below meth c0 A0 ad0 Z X hn hE => wx_X12_kindOf X hn ⟨Nat.le_refl _, Nat.le_refl _⟩ hE fu s x1 M h)
theorem hw_X12_kindOf (l : Launch) (D : va_G) (cA : Nat → ClassId) (sA : Nat → Nat) (fu : Nat) {ρ : Type} {r0 : ρ} (kd1 : Nat) : ∀ (as : List xV) (M : xM) (k : Option xV → xM → Option ρ), w_X12_kindOf fu as M k = some r0 → ∃ v M', xMet l D cA sA yX12_kindOf cX12_kindOf 2 (some .int) xG (0 + 1) 0 0 as M v M' ∧ k v M' = some r0 ∧ (kd1 ≠ 2 → ∃ a as', as = .inr (.inr (12, some a)) :: as') := by
  intro as M k h
  unfold w_X12_kindOf at h
  replace h := pR_some h
  obtain ⟨o, as1, rfl, h⟩ := h
  replace h := bd_some h
  obtain ⟨s, rfl, h⟩ := h
  replace h := pI_some h
  obtain ⟨x1, as1, rfl, h⟩ := h
  replace h := xe_some h
  obtain ⟨rfl, h⟩ := h
  obtain ⟨p1, hp, h⟩ := Option.bind_eq_some_iff.mp h
  exact ⟨_, _, ok_X12_kindOf l D cA sA fu s x1 M hp, h, fun _ => ⟨_, _, rfl⟩⟩
theorem lk_X12_348 : xLink xG RX12 348 0 yX12_kindOf 1 := ⟨Or.inl (xg 1841 (by decide +kernel) (by decide +kernel)), (xg 1843 (by decide +kernel) (by decide +kernel)), (xg 82 (by decide +kernel) (by decide +kernel)), (xg 141 (by decide +kernel) (by decide +kernel)), ⟨12, by decide, TX12, 29, rfl⟩⟩
theorem lk_X12_270 : xLink xG RX12 270 0 yX12_isOrphan 2 := ⟨Or.inl (xg 1857 (by decide +kernel) (by decide +kernel)), (xg 1859 (by decide +kernel) (by decide +kernel)), (xg 86 (by decide +kernel) (by decide +kernel)), (xg 141 (by decide +kernel) (by decide +kernel)), ⟨12, by decide, TX12, 29, rfl⟩⟩
theorem lk_X12_345 : xLink xG RX12 345 0 yX12_isPage 2 := ⟨Or.inl (xg 1873 (by decide +kernel) (by decide +kernel)), (xg 1875 (by decide +kernel) (by decide +kernel)), (xg 89 (by decide +kernel) (by decide +kernel)), (xg 141 (by decide +kernel) (by decide +kernel)), ⟨12, by decide, TX12, 29, rfl⟩⟩
theorem cd_X12_mayWriteBut : Cond.code yX12_mayWriteBut cX12_mayWriteBut 5 (some .boolean) ∈ xG := (xg 1872 (by decide +kernel) (by decide +kernel))
theorem pr_X12_mayWriteBut : (∀ e ∈ pX12_mayWriteBut, xrow cX12_mayWriteBut 5 kdX12 flX12 0 false RX12 e) ∧ xnext pX12_mayWriteBut = true := xrows (by decide +kernel)
set_option maxRecDepth 100000 in
theorem wx_X12_mayWriteBut_57 (X : xCtx p R S0 m ag c0 D cA A0 sA 5 cX12_mayWriteBut RX12 (.code yX12_mayWriteBut cX12_mayWriteBut 5 (some .boolean) :: xG) 0 0) (hi : meth.name = yX12_mayWriteBut.name) (hroom : 3 + 2 ≤ R.frames ∧ 60 * (3 + 2) ≤ R.locals) {rr : Int32 × xM} (hE : xEnd l D cA sA cX12_mayWriteBut 5 (some .boolean) R 0 0 (some (.inl rr.1)) rr.2 p e S0 m ag below meth c0 A0 M0 ad0 Z) (fu : Nat) (s : Nat) (x2 : Int32) (x3 : Int32) (x4 : Int32) (M : xM) (h : J_X12_mayWriteBut_57 fu s x2 x3 x4 M = some rr) : xWx p l e R S0 m ag below meth c0 D cA A0 sA M0 ad0 5 Z 0 0 57 0 0 [(0, .inr (.inr (12, some s))), (2, .inl x2), (3, .inl x3), (4, .inl x4)] [] M := by
  rw [← q_X12_mayWriteBut_57 fu s x2 x3 x4 M] at h
  have hT : ∀ w ∈ xG, w ∈ (Cond.code yX12_mayWriteBut cX12_mayWriteBut 5 (some .boolean) :: xG) := fun w hw => List.mem_cons_of_mem _ hw
  refine xrun_sound (nst := 0) (isInit := false) (kd := kdX12) X (xcls_mono hT xclsG) (xpool_mono hT plX12) (fun z => by cases z) (fun idx v hf => xkoE_mono hT (koX12_ok _ (xfind_mem hf))) (xents (ca := _) ?_) (endZ hE).1 (endZ hE).2 (xcuts (cu := _) ?_) pr_X12_mayWriteBut.1 pr_X12_mayWriteBut.2 _ _ _ _ _ _ _ _ (xat_ok pr_X12_mayWriteBut.1 pr_X12_mayWriteBut.2).1 (xat_ok pr_X12_mayWriteBut.1 pr_X12_mayWriteBut.2).2.1 (xat_ok pr_X12_mayWriteBut.1 pr_X12_mayWriteBut.2).2.2 h
  · exact (List.forall_mem_cons.mpr ⟨(xent_met X (ci := 12) hT cd_X12_kindOf lk_X12_348 rfl (by decide) rfl (by decide +kernel) (fun z => absurd z (by decide)) (hw_X12_kindOf l D cA sA fu 0) (fun _ => ⟨by decide, fun _ => ⟨TX12, 29, rfl⟩⟩) (by constructor <;> omega) (by decide)), (fun _ h => nomatch h)⟩)
  · exact (fun _ h => nomatch h)

set_option maxRecDepth 100000 in
theorem wx_X12_mayWriteBut_34 (X : xCtx p R S0 m ag c0 D cA A0 sA 5 cX12_mayWriteBut RX12 (.code yX12_mayWriteBut cX12_mayWriteBut 5 (some .boolean) :: xG) 0 0) (hi : meth.name = yX12_mayWriteBut.name) (hroom : 3 + 2 ≤ R.frames ∧ 60 * (3 + 2) ≤ R.locals) {rr : Int32 × xM} (hE : xEnd l D cA sA cX12_mayWriteBut 5 (some .boolean) R 0 0 (some (.inl rr.1)) rr.2 p e S0 m ag below meth c0 A0 M0 ad0 Z) (fu : Nat) : ∀ (n : Nat) (s : Nat) (x1 : Int32) (x2 : Int32) (x3 : Int32) (x4 : Int32) (M : xM), L_X12_mayWriteBut_34 fu n s x1 x2 x3 x4 M = some rr → xWx p l e R S0 m ag below meth c0 D cA A0 sA M0 ad0 5 Z 0 0 34 0 0 [(0, .inr (.inr (12, some s))), (1, .inl x1), (2, .inl x2), (3, .inl x3), (4, .inl x4)] [] M := by
  intro n
  induction n with
  | zero => intro s x1 x2 x3 x4 M h; cases h
  | succ n ih =>
    intro s x1 x2 x3 x4 M h
    rw [← q_X12_mayWriteBut_34 fu n s x1 x2 x3 x4 M] at h
    have hT : ∀ w ∈ xG, w ∈ (Cond.code yX12_mayWriteBut cX12_mayWriteBut 5 (some .boolean) :: xG) := fun w hw => List.mem_cons_of_mem _ hw
    refine xrun_sound (nst := 0) (isInit := false) (kd := kdX12) X (xcls_mono hT xclsG) (xpool_mono hT plX12) (fun z => by cases z) (fun idx v hf => xkoE_mono hT (koX12_ok _ (xfind_mem hf))) (xents (ca := _) ?_) (endZ hE).1 (endZ hE).2 (xcuts (cu := _) ?_) pr_X12_mayWriteBut.1 pr_X12_mayWriteBut.2 _ _ _ _ _ _ _ _ (xat_ok pr_X12_mayWriteBut.1 pr_X12_mayWriteBut.2).1 (xat_ok pr_X12_mayWriteBut.1 pr_X12_mayWriteBut.2).2.1 (xat_ok pr_X12_mayWriteBut.1 pr_X12_mayWriteBut.2).2.2 h
    · exact (List.forall_mem_cons.mpr ⟨(xent_met X (ci := 12) hT cd_X12_mapOf lk_X12_267 rfl (by decide) rfl (by decide +kernel) (fun z => absurd z (by decide)) (hw_X12_mapOf l D cA sA fu 0) (fun _ => ⟨by decide, fun _ => ⟨TX12, 29, rfl⟩⟩) (by constructor <;> omega) (by decide)), (fun _ h => nomatch h)⟩)
    · refine (List.forall_mem_cons.mpr ⟨?_, (List.forall_mem_cons.mpr ⟨?_, (fun _ h => nomatch h)⟩)⟩)
      · intro bc bs ls st M h
        replace h := xz_some h
        obtain ⟨rfl, rfl, h⟩ := h
        replace h := lR_some h
        obtain ⟨o, e0, h⟩ := h
        replace h := bd_some h
        obtain ⟨s', rfl, h⟩ := h
        replace h := lI_some h
        obtain ⟨x1', e1, h⟩ := h
        replace h := lI_some h
        obtain ⟨x2', e2, h⟩ := h
        replace h := lI_some h
        obtain ⟨x3', e3, h⟩ := h
        replace h := lI_some h
        obtain ⟨x4', e4, h⟩ := h
        replace h := xe_some h
        obtain ⟨rfl, h⟩ := h
        exact xWx_ls (ih s' x1' x2' x3' x4' M h) (List.forall_mem_cons.mpr ⟨e0, (List.forall_mem_cons.mpr ⟨e1, (List.forall_mem_cons.mpr ⟨e2, (List.forall_mem_cons.mpr ⟨e3, (List.forall_mem_cons.mpr ⟨e4, (fun _ h => nomatch h)⟩)⟩)⟩)⟩)⟩)
      · intro bc bs ls st M h
        replace h := xz_some h
        obtain ⟨rfl, rfl, h⟩ := h
        replace h := lR_some h
        obtain ⟨o, e0, h⟩ := h
        replace h := bd_some h
        obtain ⟨s', rfl, h⟩ := h
        replace h := lI_some h
        obtain ⟨x2', e2, h⟩ := h
        replace h := lI_some h
        obtain ⟨x3', e3, h⟩ := h
        replace h := lI_some h
        obtain ⟨x4', e4, h⟩ := h
        replace h := xe_some h
        obtain ⟨rfl, h⟩ := h
        exact xWx_ls (wx_X12_mayWriteBut_57 X hi hroom hE fu s' x2' x3' x4' M h) (List.forall_mem_cons.mpr ⟨e0, (List.forall_mem_cons.mpr ⟨e2, (List.forall_mem_cons.mpr ⟨e3, (List.forall_mem_cons.mpr ⟨e4, (fun _ h => nomatch h)⟩)⟩)⟩)⟩)

set_option maxRecDepth 100000 in
theorem wx_X12_mayWriteBut (X : xCtx p R S0 m ag c0 D cA A0 sA 5 cX12_mayWriteBut RX12 (.code yX12_mayWriteBut cX12_mayWriteBut 5 (some .boolean) :: xG) 0 0) (hi : meth.name = yX12_mayWriteBut.name) (hroom : 3 + 2 ≤ R.frames ∧ 60 * (3 + 2) ≤ R.locals) {rr : Int32 × xM} (hE : xEnd l D cA sA cX12_mayWriteBut 5 (some .boolean) R 0 0 (some (.inl rr.1)) rr.2 p e S0 m ag below meth c0 A0 M0 ad0 Z) (fu : Nat) (s : Nat) (x1 : Int32) (x2 : Int32) (x3 : Int32) (M : xM) (h : F_X12_mayWriteBut fu s x1 x2 x3 M = some rr) : xWx p l e R S0 m ag below meth c0 D cA A0 sA M0 ad0 5 Z 0 0 0 0 0 [(0, .inr (.inr (12, some s))), (1, .inl x1), (2, .inl x2), (3, .inl x3)] [] M := by
  rw [← q_X12_mayWriteBut fu s x1 x2 x3 M] at h
  have hT : ∀ w ∈ xG, w ∈ (Cond.code yX12_mayWriteBut cX12_mayWriteBut 5 (some .boolean) :: xG) := fun w hw => List.mem_cons_of_mem _ hw
  refine xrun_sound (nst := 0) (isInit := false) (kd := kdX12) X (xcls_mono hT xclsG) (xpool_mono hT plX12) (fun z => by cases z) (fun idx v hf => xkoE_mono hT (koX12_ok _ (xfind_mem hf))) (xents (ca := _) ?_) (endZ hE).1 (endZ hE).2 (xcuts (cu := _) ?_) pr_X12_mayWriteBut.1 pr_X12_mayWriteBut.2 _ _ _ _ _ _ _ _ (xat_ok pr_X12_mayWriteBut.1 pr_X12_mayWriteBut.2).1 (xat_ok pr_X12_mayWriteBut.1 pr_X12_mayWriteBut.2).2.1 (xat_ok pr_X12_mayWriteBut.1 pr_X12_mayWriteBut.2).2.2 h
  · exact (List.forall_mem_cons.mpr ⟨(xent_met X (ci := 12) hT cd_X12_isOrphan lk_X12_270 rfl (by decide) rfl (by decide +kernel) (fun z => absurd z (by decide)) (hw_X12_isOrphan l D cA sA fu 0) (fun _ => ⟨by decide, fun _ => ⟨TX12, 29, rfl⟩⟩) (by constructor <;> omega) (by decide)), (List.forall_mem_cons.mpr ⟨(xent_met X (ci := 12) hT cd_X12_isPage lk_X12_345 rfl (by decide) rfl (by decide +kernel) (fun z => absurd z (by decide)) (hw_X12_isPage l D cA sA fu 0) (fun _ => ⟨by decide, fun _ => ⟨TX12, 29, rfl⟩⟩) (by constructor <;> omega) (by decide)), (fun _ h => nomatch h)⟩)⟩)
  · refine (List.forall_mem_cons.mpr ⟨?_, (fun _ h => nomatch h)⟩)
    · intro bc bs ls st M h
      replace h := xz_some h
      obtain ⟨rfl, rfl, h⟩ := h
      replace h := lR_some h
      obtain ⟨o, e0, h⟩ := h
      replace h := bd_some h
      obtain ⟨s', rfl, h⟩ := h
      replace h := lI_some h
      obtain ⟨x1', e1, h⟩ := h
      replace h := lI_some h
      obtain ⟨x2', e2, h⟩ := h
      replace h := lI_some h
      obtain ⟨x3', e3, h⟩ := h
      replace h := lI_some h
      obtain ⟨x4', e4, h⟩ := h
      replace h := xe_some h
      obtain ⟨rfl, h⟩ := h
      exact xWx_ls (wx_X12_mayWriteBut_34 X hi hroom hE fu fu s' x1' x2' x3' x4' M h) (List.forall_mem_cons.mpr ⟨e0, (List.forall_mem_cons.mpr ⟨e1, (List.forall_mem_cons.mpr ⟨e2, (List.forall_mem_cons.mpr ⟨e3, (List.forall_mem_cons.mpr ⟨e4, (fun _ h => nomatch h)⟩)⟩)⟩)⟩)⟩)

theorem ok_X12_mayWriteBut (l : Launch) (D : va_G) (cA : Nat → ClassId) (sA : Nat → Nat) (fu : Nat) (s : Nat) (x1 : Int32) (x2 : Int32) (x3 : Int32) (M : xM) {rr : Int32 × xM} (h : F_X12_mayWriteBut fu s x1 x2 x3 M = some rr) : xMet l D cA sA yX12_mayWriteBut cX12_mayWriteBut 5 (some .boolean) xG (3 + 1) 0 0 [.inr (.inr (12, some s)), .inl x1, .inl x2, .inl x3] M (some (.inl rr.1)) rr.2 :=
  xmet_of (by decide +kernel) (Nat.le_of_ble_eq_true rfl) (fun p e s1 m ag below meth c0 A0 ad0 Z X hn hE => wx_X12_mayWriteBut X hn ⟨Nat.le_refl _, Nat.le_refl _⟩ hE fu s x1 x2 x3 M h)
theorem hw_X12_mayWriteBut (l : Launch) (D : va_G) (cA : Nat → ClassId) (sA : Nat → Nat) (fu : Nat) {ρ : Type} {r0 : ρ} (kd1 : Nat) : ∀ (as : List xV) (M : xM) (k : Option xV → xM → Option ρ), w_X12_mayWriteBut fu as M k = some r0 → ∃ v M', xMet l D cA sA yX12_mayWriteBut cX12_mayWriteBut 5 (some .boolean) xG (3 + 1) 0 0 as M v M' ∧ k v M' = some r0 ∧ (kd1 ≠ 2 → ∃ a as', as = .inr (.inr (12, some a)) :: as') := by
  intro as M k h
  unfold w_X12_mayWriteBut at h
  replace h := pR_some h
  obtain ⟨o, as1, rfl, h⟩ := h
  replace h := bd_some h
  obtain ⟨s, rfl, h⟩ := h
  replace h := pI_some h
  obtain ⟨x1, as1, rfl, h⟩ := h
  replace h := pI_some h
  obtain ⟨x2, as1, rfl, h⟩ := h
  replace h := pI_some h
  obtain ⟨x3, as1, rfl, h⟩ := h
  replace h := xe_some h
  obtain ⟨rfl, h⟩ := h
  obtain ⟨p1, hp, h⟩ := Option.bind_eq_some_iff.mp h
  exact ⟨_, _, ok_X12_mayWriteBut l D cA sA fu s x1 x2 x3 M hp, h, fun _ => ⟨_, _, rfl⟩⟩
theorem cd_X12_erased : Cond.code yX12_erased cX12_erased 4 (some .int) ∈ xG := (xg 1884 (by decide +kernel) (by decide +kernel))
theorem pr_X12_erased : (∀ e ∈ pX12_erased, xrow cX12_erased 4 kdX12 flX12 0 false RX12 e) ∧ xnext pX12_erased = true := xrows (by decide +kernel)
set_option maxRecDepth 100000 in
theorem wx_X12_erased_4 (X : xCtx p R S0 m ag c0 D cA A0 sA 4 cX12_erased RX12 (.code yX12_erased cX12_erased 4 (some .int) :: xG) 0 0) (hi : meth.name = yX12_erased.name) (hroom : 3 + 2 ≤ R.frames ∧ 60 * (3 + 2) ≤ R.locals) {rr : Int32 × xM} (hE : xEnd l D cA sA cX12_erased 4 (some .int) R 0 0 (some (.inl rr.1)) rr.2 p e S0 m ag below meth c0 A0 M0 ad0 Z) (fu : Nat) : ∀ (n : Nat) (s : Nat) (x1 : Int32) (x2 : Int32) (x3 : Int32) (M : xM), L_X12_erased_4 fu n s x1 x2 x3 M = some rr → xWx p l e R S0 m ag below meth c0 D cA A0 sA M0 ad0 4 Z 0 0 4 0 0 [(0, .inr (.inr (12, some s))), (1, .inl x1), (2, .inl x2), (3, .inl x3)] [] M := by
  intro n
  induction n with
  | zero => intro s x1 x2 x3 M h; cases h
  | succ n ih =>
    intro s x1 x2 x3 M h
    rw [← q_X12_erased_4 fu n s x1 x2 x3 M] at h
    have hT : ∀ w ∈ xG, w ∈ (Cond.code yX12_erased cX12_erased 4 (some .int) :: xG) := fun w hw => List.mem_cons_of_mem _ hw
    refine xrun_sound (nst := 0) (isInit := false) (kd := kdX12) X (xcls_mono hT xclsG) (xpool_mono hT plX12) (fun z => by cases z) (fun idx v hf => xkoE_mono hT (koX12_ok _ (xfind_mem hf))) (xents (ca := _) ?_) (endI hE).1 (endI hE).2 (xcuts (cu := _) ?_) pr_X12_erased.1 pr_X12_erased.2 _ _ _ _ _ _ _ _ (xat_ok pr_X12_erased.1 pr_X12_erased.2).1 (xat_ok pr_X12_erased.1 pr_X12_erased.2).2.1 (xat_ok pr_X12_erased.1 pr_X12_erased.2).2.2 h
    · exact (List.forall_mem_cons.mpr ⟨(xent_met X (ci := 12) hT cd_X12_blocks lk_X12_252 rfl (by decide) rfl (by decide +kernel) (fun z => absurd z (by decide)) (hw_X12_blocks l D cA sA fu 0) (fun _ => ⟨by decide, fun _ => ⟨TX12, 29, rfl⟩⟩) (by constructor <;> omega) (by decide)), (List.forall_mem_cons.mpr ⟨(xent_met X (ci := 12) hT cd_X12_erasedIn lk_X12_311 rfl (by decide) rfl (by decide +kernel) (fun z => absurd z (by decide)) (hw_X12_erasedIn l D cA sA fu 0) (fun _ => ⟨by decide, fun _ => ⟨TX12, 29, rfl⟩⟩) (by constructor <;> omega) (by decide)), (fun _ h => nomatch h)⟩)⟩)
    · refine (List.forall_mem_cons.mpr ⟨?_, (fun _ h => nomatch h)⟩)
      · intro bc bs ls st M h
        replace h := xz_some h
        obtain ⟨rfl, rfl, h⟩ := h
        replace h := lR_some h
        obtain ⟨o, e0, h⟩ := h
        replace h := bd_some h
        obtain ⟨s', rfl, h⟩ := h
        replace h := lI_some h
        obtain ⟨x1', e1, h⟩ := h
        replace h := lI_some h
        obtain ⟨x2', e2, h⟩ := h
        replace h := lI_some h
        obtain ⟨x3', e3, h⟩ := h
        replace h := xe_some h
        obtain ⟨rfl, h⟩ := h
        exact xWx_ls (ih s' x1' x2' x3' M h) (List.forall_mem_cons.mpr ⟨e0, (List.forall_mem_cons.mpr ⟨e1, (List.forall_mem_cons.mpr ⟨e2, (List.forall_mem_cons.mpr ⟨e3, (fun _ h => nomatch h)⟩)⟩)⟩)⟩)

set_option maxRecDepth 100000 in
theorem wx_X12_erased (X : xCtx p R S0 m ag c0 D cA A0 sA 4 cX12_erased RX12 (.code yX12_erased cX12_erased 4 (some .int) :: xG) 0 0) (hi : meth.name = yX12_erased.name) (hroom : 3 + 2 ≤ R.frames ∧ 60 * (3 + 2) ≤ R.locals) {rr : Int32 × xM} (hE : xEnd l D cA sA cX12_erased 4 (some .int) R 0 0 (some (.inl rr.1)) rr.2 p e S0 m ag below meth c0 A0 M0 ad0 Z) (fu : Nat) (s : Nat) (x1 : Int32) (M : xM) (h : F_X12_erased fu s x1 M = some rr) : xWx p l e R S0 m ag below meth c0 D cA A0 sA M0 ad0 4 Z 0 0 0 0 0 [(0, .inr (.inr (12, some s))), (1, .inl x1)] [] M := by
  rw [← q_X12_erased fu s x1 M] at h
  have hT : ∀ w ∈ xG, w ∈ (Cond.code yX12_erased cX12_erased 4 (some .int) :: xG) := fun w hw => List.mem_cons_of_mem _ hw
  refine xrun_sound (nst := 0) (isInit := false) (kd := kdX12) X (xcls_mono hT xclsG) (xpool_mono hT plX12) (fun z => by cases z) (fun idx v hf => xkoE_mono hT (koX12_ok _ (xfind_mem hf))) (xents (ca := _) ?_) (endI hE).1 (endI hE).2 (xcuts (cu := _) ?_) pr_X12_erased.1 pr_X12_erased.2 _ _ _ _ _ _ _ _ (xat_ok pr_X12_erased.1 pr_X12_erased.2).1 (xat_ok pr_X12_erased.1 pr_X12_erased.2).2.1 (xat_ok pr_X12_erased.1 pr_X12_erased.2).2.2 h
  · exact (fun _ h => nomatch h)
  · refine (List.forall_mem_cons.mpr ⟨?_, (fun _ h => nomatch h)⟩)
    · intro bc bs ls st M h
      replace h := xz_some h
      obtain ⟨rfl, rfl, h⟩ := h
      replace h := lR_some h
      obtain ⟨o, e0, h⟩ := h
      replace h := bd_some h
      obtain ⟨s', rfl, h⟩ := h
      replace h := lI_some h
      obtain ⟨x1', e1, h⟩ := h
      replace h := lI_some h
      obtain ⟨x2', e2, h⟩ := h
      replace h := lI_some h
      obtain ⟨x3', e3, h⟩ := h
      replace h := xe_some h
      obtain ⟨rfl, h⟩ := h
      exact xWx_ls (wx_X12_erased_4 X hi hroom hE fu fu s' x1' x2' x3' M h) (List.forall_mem_cons.mpr ⟨e0, (List.forall_mem_cons.mpr ⟨e1, (List.forall_mem_cons.mpr ⟨e2, (List.forall_mem_cons.mpr ⟨e3, (fun _ h => nomatch h)⟩)⟩)⟩)⟩)

theorem ok_X12_erased (l : Launch) (D : va_G) (cA : Nat → ClassId) (sA : Nat → Nat) (fu : Nat) (s : Nat) (x1 : Int32) (M : xM) {rr : Int32 × xM} (h : F_X12_erased fu s x1 M = some rr) : xMet l D cA sA yX12_erased cX12_erased 4 (some .int) xG (3 + 1) 0 0 [.inr (.inr (12, some s)), .inl x1] M (some (.inl rr.1)) rr.2 :=
  xmet_of (by decide +kernel) (Nat.le_of_ble_eq_true rfl) (fun p e s1 m ag below meth c0 A0 ad0 Z X hn hE => wx_X12_erased X hn ⟨Nat.le_refl _, Nat.le_refl _⟩ hE fu s x1 M h)
theorem hw_X12_erased (l : Launch) (D : va_G) (cA : Nat → ClassId) (sA : Nat → Nat) (fu : Nat) {ρ : Type} {r0 : ρ} (kd1 : Nat) : ∀ (as : List xV) (M : xM) (k : Option xV → xM → Option ρ), w_X12_erased fu as M k = some r0 → ∃ v M', xMet l D cA sA yX12_erased cX12_erased 4 (some .int) xG (3 + 1) 0 0 as M v M' ∧ k v M' = some r0 ∧ (kd1 ≠ 2 → ∃ a as', as = .inr (.inr (12, some a)) :: as') := by
  intro as M k h
  unfold w_X12_erased at h
  replace h := pR_some h
  obtain ⟨o, as1, rfl, h⟩ := h
  replace h := bd_some h
  obtain ⟨s, rfl, h⟩ := h
  replace h := pI_some h
  obtain ⟨x1, as1, rfl, h⟩ := h
  replace h := xe_some h
  obtain ⟨rfl, h⟩ := h
  obtain ⟨p1, hp, h⟩ := Option.bind_eq_some_iff.mp h
  exact ⟨_, _, ok_X12_erased l D cA sA fu s x1 M hp, h, fun _ => ⟨_, _, rfl⟩⟩
theorem cd_X12_isFirst : Cond.code yX12_isFirst cX12_isFirst 5 (some .boolean) ∈ xG := (xg 1812 (by decide +kernel) (by decide +kernel))
theorem pr_X12_isFirst : (∀ e ∈ pX12_isFirst, xrow cX12_isFirst 5 kdX12 flX12 0 false RX12 e) ∧ xnext pX12_isFirst = true := xrows (by decide +kernel)
set_option maxRecDepth 100000 in
theorem wx_X12_isFirst_2 (X : xCtx p R S0 m ag c0 D cA A0 sA 5 cX12_isFirst RX12 (.code yX12_isFirst cX12_isFirst 5 (some .boolean) :: xG) 0 0) (hi : meth.name = yX12_isFirst.name) (hroom : 2 + 2 ≤ R.frames ∧ 60 * (2 + 2) ≤ R.locals) {rr : Int32 × xM} (hE : xEnd l D cA sA cX12_isFirst 5 (some .boolean) R 0 0 (some (.inl rr.1)) rr.2 p e S0 m ag below meth c0 A0 M0 ad0 Z) (fu : Nat) : ∀ (n : Nat) (s : Nat) (x1 : Int32) (x2 : Int32) (x3 : Int32) (M : xM), L_X12_isFirst_2 fu n s x1 x2 x3 M = some rr → xWx p l e R S0 m ag below meth c0 D cA A0 sA M0 ad0 5 Z 0 0 2 0 0 [(0, .inr (.inr (12, some s))), (1, .inl x1), (2, .inl x2), (3, .inl x3)] [] M := by
  intro n
  induction n with
  | zero => intro s x1 x2 x3 M h; cases h
  | succ n ih =>
    intro s x1 x2 x3 M h
    rw [← q_X12_isFirst_2 fu n s x1 x2 x3 M] at h
    have hT : ∀ w ∈ xG, w ∈ (Cond.code yX12_isFirst cX12_isFirst 5 (some .boolean) :: xG) := fun w hw => List.mem_cons_of_mem _ hw
    refine xrun_sound (nst := 0) (isInit := false) (kd := kdX12) X (xcls_mono hT xclsG) (xpool_mono hT plX12) (fun z => by cases z) (fun idx v hf => xkoE_mono hT (koX12_ok _ (xfind_mem hf))) (xents (ca := _) ?_) (endZ hE).1 (endZ hE).2 (xcuts (cu := _) ?_) pr_X12_isFirst.1 pr_X12_isFirst.2 _ _ _ _ _ _ _ _ (xat_ok pr_X12_isFirst.1 pr_X12_isFirst.2).1 (xat_ok pr_X12_isFirst.1 pr_X12_isFirst.2).2.1 (xat_ok pr_X12_isFirst.1 pr_X12_isFirst.2).2.2 h
    · exact (List.forall_mem_cons.mpr ⟨(xent_met X (ci := 12) hT cd_X12_typeOf lk_X12_290 rfl (by decide) rfl (by decide +kernel) (fun z => absurd z (by decide)) (hw_X12_typeOf l D cA sA fu 0) (fun _ => ⟨by decide, fun _ => ⟨TX12, 29, rfl⟩⟩) (by constructor <;> omega) (by decide)), (List.forall_mem_cons.mpr ⟨(xent_met X (ci := 12) hT cd_X12_numberOf lk_X12_293 rfl (by decide) rfl (by decide +kernel) (fun z => absurd z (by decide)) (hw_X12_numberOf l D cA sA fu 0) (fun _ => ⟨by decide, fun _ => ⟨TX12, 29, rfl⟩⟩) (by constructor <;> omega) (by decide)), (fun _ h => nomatch h)⟩)⟩)
    · refine (List.forall_mem_cons.mpr ⟨?_, (fun _ h => nomatch h)⟩)
      · intro bc bs ls st M h
        replace h := xz_some h
        obtain ⟨rfl, rfl, h⟩ := h
        replace h := lR_some h
        obtain ⟨o, e0, h⟩ := h
        replace h := bd_some h
        obtain ⟨s', rfl, h⟩ := h
        replace h := lI_some h
        obtain ⟨x1', e1, h⟩ := h
        replace h := lI_some h
        obtain ⟨x2', e2, h⟩ := h
        replace h := lI_some h
        obtain ⟨x3', e3, h⟩ := h
        replace h := xe_some h
        obtain ⟨rfl, h⟩ := h
        exact xWx_ls (ih s' x1' x2' x3' M h) (List.forall_mem_cons.mpr ⟨e0, (List.forall_mem_cons.mpr ⟨e1, (List.forall_mem_cons.mpr ⟨e2, (List.forall_mem_cons.mpr ⟨e3, (fun _ h => nomatch h)⟩)⟩)⟩)⟩)

set_option maxRecDepth 100000 in
theorem wx_X12_isFirst (X : xCtx p R S0 m ag c0 D cA A0 sA 5 cX12_isFirst RX12 (.code yX12_isFirst cX12_isFirst 5 (some .boolean) :: xG) 0 0) (hi : meth.name = yX12_isFirst.name) (hroom : 2 + 2 ≤ R.frames ∧ 60 * (2 + 2) ≤ R.locals) {rr : Int32 × xM} (hE : xEnd l D cA sA cX12_isFirst 5 (some .boolean) R 0 0 (some (.inl rr.1)) rr.2 p e S0 m ag below meth c0 A0 M0 ad0 Z) (fu : Nat) (s : Nat) (x1 : Int32) (x2 : Int32) (M : xM) (h : F_X12_isFirst fu s x1 x2 M = some rr) : xWx p l e R S0 m ag below meth c0 D cA A0 sA M0 ad0 5 Z 0 0 0 0 0 [(0, .inr (.inr (12, some s))), (1, .inl x1), (2, .inl x2)] [] M := by
  rw [← q_X12_isFirst fu s x1 x2 M] at h
  have hT : ∀ w ∈ xG, w ∈ (Cond.code yX12_isFirst cX12_isFirst 5 (some .boolean) :: xG) := fun w hw => List.mem_cons_of_mem _ hw
  refine xrun_sound (nst := 0) (isInit := false) (kd := kdX12) X (xcls_mono hT xclsG) (xpool_mono hT plX12) (fun z => by cases z) (fun idx v hf => xkoE_mono hT (koX12_ok _ (xfind_mem hf))) (xents (ca := _) ?_) (endZ hE).1 (endZ hE).2 (xcuts (cu := _) ?_) pr_X12_isFirst.1 pr_X12_isFirst.2 _ _ _ _ _ _ _ _ (xat_ok pr_X12_isFirst.1 pr_X12_isFirst.2).1 (xat_ok pr_X12_isFirst.1 pr_X12_isFirst.2).2.1 (xat_ok pr_X12_isFirst.1 pr_X12_isFirst.2).2.2 h
  · exact (fun _ h => nomatch h)
  · refine (List.forall_mem_cons.mpr ⟨?_, (fun _ h => nomatch h)⟩)
    · intro bc bs ls st M h
      replace h := xz_some h
      obtain ⟨rfl, rfl, h⟩ := h
      replace h := lR_some h
      obtain ⟨o, e0, h⟩ := h
      replace h := bd_some h
      obtain ⟨s', rfl, h⟩ := h
      replace h := lI_some h
      obtain ⟨x1', e1, h⟩ := h
      replace h := lI_some h
      obtain ⟨x2', e2, h⟩ := h
      replace h := lI_some h
      obtain ⟨x3', e3, h⟩ := h
      replace h := xe_some h
      obtain ⟨rfl, h⟩ := h
      exact xWx_ls (wx_X12_isFirst_2 X hi hroom hE fu fu s' x1' x2' x3' M h) (List.forall_mem_cons.mpr ⟨e0, (List.forall_mem_cons.mpr ⟨e1, (List.forall_mem_cons.mpr ⟨e2, (List.forall_mem_cons.mpr ⟨e3, (fun _ h => nomatch h)⟩)⟩)⟩)⟩)

theorem ok_X12_isFirst (l : Launch) (D : va_G) (cA : Nat → ClassId) (sA : Nat → Nat) (fu : Nat) (s : Nat) (x1 : Int32) (x2 : Int32) (M : xM) {rr : Int32 × xM} (h : F_X12_isFirst fu s x1 x2 M = some rr) : xMet l D cA sA yX12_isFirst cX12_isFirst 5 (some .boolean) xG (2 + 1) 0 0 [.inr (.inr (12, some s)), .inl x1, .inl x2] M (some (.inl rr.1)) rr.2 :=
  xmet_of (by decide +kernel) (Nat.le_of_ble_eq_true rfl) (fun p e s1 m ag below meth c0 A0 ad0 Z X hn hE => wx_X12_isFirst X hn ⟨Nat.le_refl _, Nat.le_refl _⟩ hE fu s x1 x2 M h)
theorem hw_X12_isFirst (l : Launch) (D : va_G) (cA : Nat → ClassId) (sA : Nat → Nat) (fu : Nat) {ρ : Type} {r0 : ρ} (kd1 : Nat) : ∀ (as : List xV) (M : xM) (k : Option xV → xM → Option ρ), w_X12_isFirst fu as M k = some r0 → ∃ v M', xMet l D cA sA yX12_isFirst cX12_isFirst 5 (some .boolean) xG (2 + 1) 0 0 as M v M' ∧ k v M' = some r0 ∧ (kd1 ≠ 2 → ∃ a as', as = .inr (.inr (12, some a)) :: as') := by
  intro as M k h
  unfold w_X12_isFirst at h
  replace h := pR_some h
  obtain ⟨o, as1, rfl, h⟩ := h
  replace h := bd_some h
  obtain ⟨s, rfl, h⟩ := h
  replace h := pI_some h
  obtain ⟨x1, as1, rfl, h⟩ := h
  replace h := pI_some h
  obtain ⟨x2, as1, rfl, h⟩ := h
  replace h := xe_some h
  obtain ⟨rfl, h⟩ := h
  obtain ⟨p1, hp, h⟩ := Option.bind_eq_some_iff.mp h
  exact ⟨_, _, ok_X12_isFirst l D cA sA fu s x1 x2 M hp, h, fun _ => ⟨_, _, rfl⟩⟩
theorem lk_X12_299 : xLink xG RX12 299 0 yX12_isFirst 2 := ⟨Or.inl (xg 1809 (by decide +kernel) (by decide +kernel)), (xg 1811 (by decide +kernel) (by decide +kernel)), (xg 76 (by decide +kernel) (by decide +kernel)), (xg 141 (by decide +kernel) (by decide +kernel)), ⟨12, by decide, TX12, 29, rfl⟩⟩
theorem cd_X12_isJournal : Cond.code yX12_isJournal cX12_isJournal 4 (some .boolean) ∈ xG := (xg 1820 (by decide +kernel) (by decide +kernel))
theorem pr_X12_isJournal : (∀ e ∈ pX12_isJournal, xrow cX12_isJournal 4 kdX12 flX12 0 false RX12 e) ∧ xnext pX12_isJournal = true := xrows (by decide +kernel)
set_option maxRecDepth 100000 in
theorem wx_X12_isJournal_17 (X : xCtx p R S0 m ag c0 D cA A0 sA 4 cX12_isJournal RX12 (.code yX12_isJournal cX12_isJournal 4 (some .boolean) :: xG) 0 0) (hi : meth.name = yX12_isJournal.name) (hroom : 3 + 2 ≤ R.frames ∧ 60 * (3 + 2) ≤ R.locals) {rr : Int32 × xM} (hE : xEnd l D cA sA cX12_isJournal 4 (some .boolean) R 0 0 (some (.inl rr.1)) rr.2 p e S0 m ag below meth c0 A0 M0 ad0 Z) (fu : Nat) (s : Nat) (x1 : Int32) (x2 : Int32) (M : xM) (h : J_X12_isJournal_17 fu s x1 x2 M = some rr) : xWx p l e R S0 m ag below meth c0 D cA A0 sA M0 ad0 4 Z 0 0 17 0 0 [(0, .inr (.inr (12, some s))), (1, .inl x1), (2, .inl x2)] [] M := by
  rw [← q_X12_isJournal_17 fu s x1 x2 M] at h
  have hT : ∀ w ∈ xG, w ∈ (Cond.code yX12_isJournal cX12_isJournal 4 (some .boolean) :: xG) := fun w hw => List.mem_cons_of_mem _ hw
  refine xrun_sound (nst := 0) (isInit := false) (kd := kdX12) X (xcls_mono hT xclsG) (xpool_mono hT plX12) (fun z => by cases z) (fun idx v hf => xkoE_mono hT (koX12_ok _ (xfind_mem hf))) (xents (ca := _) ?_) (endZ hE).1 (endZ hE).2 (xcuts (cu := _) ?_) pr_X12_isJournal.1 pr_X12_isJournal.2 _ _ _ _ _ _ _ _ (xat_ok pr_X12_isJournal.1 pr_X12_isJournal.2).1 (xat_ok pr_X12_isJournal.1 pr_X12_isJournal.2).2.1 (xat_ok pr_X12_isJournal.1 pr_X12_isJournal.2).2.2 h
  · exact (List.forall_mem_cons.mpr ⟨(xent_met X (ci := 12) hT cd_X12_numberOf lk_X12_293 rfl (by decide) rfl (by decide +kernel) (fun z => absurd z (by decide)) (hw_X12_numberOf l D cA sA fu 0) (fun _ => ⟨by decide, fun _ => ⟨TX12, 29, rfl⟩⟩) (by constructor <;> omega) (by decide)), (List.forall_mem_cons.mpr ⟨(xent_met X (ci := 12) hT cd_X12_base lk_X12_296 rfl (by decide) rfl (by decide +kernel) (fun z => absurd z (by decide)) (hw_X12_base l D cA sA fu 0) (fun _ => ⟨by decide, fun _ => ⟨TX12, 29, rfl⟩⟩) (by constructor <;> omega) (by decide)), (List.forall_mem_cons.mpr ⟨(xent_met X (ci := 12) hT cd_X12_isFirst lk_X12_299 rfl (by decide) rfl (by decide +kernel) (fun z => absurd z (by decide)) (hw_X12_isFirst l D cA sA fu 0) (fun _ => ⟨by decide, fun _ => ⟨TX12, 29, rfl⟩⟩) (by constructor <;> omega) (by decide)), (fun _ h => nomatch h)⟩)⟩)⟩)
  · exact (fun _ h => nomatch h)

set_option maxRecDepth 100000 in
theorem wx_X12_isJournal (X : xCtx p R S0 m ag c0 D cA A0 sA 4 cX12_isJournal RX12 (.code yX12_isJournal cX12_isJournal 4 (some .boolean) :: xG) 0 0) (hi : meth.name = yX12_isJournal.name) (hroom : 3 + 2 ≤ R.frames ∧ 60 * (3 + 2) ≤ R.locals) {rr : Int32 × xM} (hE : xEnd l D cA sA cX12_isJournal 4 (some .boolean) R 0 0 (some (.inl rr.1)) rr.2 p e S0 m ag below meth c0 A0 M0 ad0 Z) (fu : Nat) (s : Nat) (x1 : Int32) (x2 : Int32) (M : xM) (h : F_X12_isJournal fu s x1 x2 M = some rr) : xWx p l e R S0 m ag below meth c0 D cA A0 sA M0 ad0 4 Z 0 0 0 0 0 [(0, .inr (.inr (12, some s))), (1, .inl x1), (2, .inl x2)] [] M := by
  rw [← q_X12_isJournal fu s x1 x2 M] at h
  have hT : ∀ w ∈ xG, w ∈ (Cond.code yX12_isJournal cX12_isJournal 4 (some .boolean) :: xG) := fun w hw => List.mem_cons_of_mem _ hw
  refine xrun_sound (nst := 0) (isInit := false) (kd := kdX12) X (xcls_mono hT xclsG) (xpool_mono hT plX12) (fun z => by cases z) (fun idx v hf => xkoE_mono hT (koX12_ok _ (xfind_mem hf))) (xents (ca := _) ?_) (endZ hE).1 (endZ hE).2 (xcuts (cu := _) ?_) pr_X12_isJournal.1 pr_X12_isJournal.2 _ _ _ _ _ _ _ _ (xat_ok pr_X12_isJournal.1 pr_X12_isJournal.2).1 (xat_ok pr_X12_isJournal.1 pr_X12_isJournal.2).2.1 (xat_ok pr_X12_isJournal.1 pr_X12_isJournal.2).2.2 h
  · exact (List.forall_mem_cons.mpr ⟨(xent_met X (ci := 12) hT cd_X12_typeOf lk_X12_290 rfl (by decide) rfl (by decide +kernel) (fun z => absurd z (by decide)) (hw_X12_typeOf l D cA sA fu 0) (fun _ => ⟨by decide, fun _ => ⟨TX12, 29, rfl⟩⟩) (by constructor <;> omega) (by decide)), (fun _ h => nomatch h)⟩)
  · refine (List.forall_mem_cons.mpr ⟨?_, (fun _ h => nomatch h)⟩)
    · intro bc bs ls st M h
      replace h := xz_some h
      obtain ⟨rfl, rfl, h⟩ := h
      replace h := lR_some h
      obtain ⟨o, e0, h⟩ := h
      replace h := bd_some h
      obtain ⟨s', rfl, h⟩ := h
      replace h := lI_some h
      obtain ⟨x1', e1, h⟩ := h
      replace h := lI_some h
      obtain ⟨x2', e2, h⟩ := h
      replace h := xe_some h
      obtain ⟨rfl, h⟩ := h
      exact xWx_ls (wx_X12_isJournal_17 X hi hroom hE fu s' x1' x2' M h) (List.forall_mem_cons.mpr ⟨e0, (List.forall_mem_cons.mpr ⟨e1, (List.forall_mem_cons.mpr ⟨e2, (fun _ h => nomatch h)⟩)⟩)⟩)

theorem ok_X12_isJournal (l : Launch) (D : va_G) (cA : Nat → ClassId) (sA : Nat → Nat) (fu : Nat) (s : Nat) (x1 : Int32) (x2 : Int32) (M : xM) {rr : Int32 × xM} (h : F_X12_isJournal fu s x1 x2 M = some rr) : xMet l D cA sA yX12_isJournal cX12_isJournal 4 (some .boolean) xG (3 + 1) 0 0 [.inr (.inr (12, some s)), .inl x1, .inl x2] M (some (.inl rr.1)) rr.2 :=
  xmet_of (by decide +kernel) (Nat.le_of_ble_eq_true rfl) (fun p e s1 m ag below meth c0 A0 ad0 Z X hn hE => wx_X12_isJournal X hn ⟨Nat.le_refl _, Nat.le_refl _⟩ hE fu s x1 x2 M h)
theorem hw_X12_isJournal (l : Launch) (D : va_G) (cA : Nat → ClassId) (sA : Nat → Nat) (fu : Nat) {ρ : Type} {r0 : ρ} (kd1 : Nat) : ∀ (as : List xV) (M : xM) (k : Option xV → xM → Option ρ), w_X12_isJournal fu as M k = some r0 → ∃ v M', xMet l D cA sA yX12_isJournal cX12_isJournal 4 (some .boolean) xG (3 + 1) 0 0 as M v M' ∧ k v M' = some r0 ∧ (kd1 ≠ 2 → ∃ a as', as = .inr (.inr (12, some a)) :: as') := by
  intro as M k h
  unfold w_X12_isJournal at h
  replace h := pR_some h
  obtain ⟨o, as1, rfl, h⟩ := h
  replace h := bd_some h
  obtain ⟨s, rfl, h⟩ := h
  replace h := pI_some h
  obtain ⟨x1, as1, rfl, h⟩ := h
  replace h := pI_some h
  obtain ⟨x2, as1, rfl, h⟩ := h
  replace h := xe_some h
  obtain ⟨rfl, h⟩ := h
  obtain ⟨p1, hp, h⟩ := Option.bind_eq_some_iff.mp h
  exact ⟨_, _, ok_X12_isJournal l D cA sA fu s x1 x2 M hp, h, fun _ => ⟨_, _, rfl⟩⟩
theorem lk_X12_302 : xLink xG RX12 302 0 yX12_isJournal 2 := ⟨Or.inl (xg 1817 (by decide +kernel) (by decide +kernel)), (xg 1819 (by decide +kernel) (by decide +kernel)), (xg 78 (by decide +kernel) (by decide +kernel)), (xg 141 (by decide +kernel) (by decide +kernel)), ⟨12, by decide, TX12, 29, rfl⟩⟩
theorem cd_X12_isLive : Cond.code yX12_isLive cX12_isLive 4 (some .boolean) ∈ xG := (xg 1804 (by decide +kernel) (by decide +kernel))
theorem pr_X12_isLive : (∀ e ∈ pX12_isLive, xrow cX12_isLive 4 kdX12 flX12 0 false RX12 e) ∧ xnext pX12_isLive = true := xrows (by decide +kernel)
set_option maxRecDepth 100000 in
theorem wx_X12_isLive (X : xCtx p R S0 m ag c0 D cA A0 sA 4 cX12_isLive RX12 (.code yX12_isLive cX12_isLive 4 (some .boolean) :: xG) 0 0) (hi : meth.name = yX12_isLive.name) (hroom : 4 + 2 ≤ R.frames ∧ 60 * (4 + 2) ≤ R.locals) {rr : Int32 × xM} (hE : xEnd l D cA sA cX12_isLive 4 (some .boolean) R 0 0 (some (.inl rr.1)) rr.2 p e S0 m ag below meth c0 A0 M0 ad0 Z) (fu : Nat) (s : Nat) (x1 : Int32) (x2 : Int32) (M : xM) (h : F_X12_isLive fu s x1 x2 M = some rr) : xWx p l e R S0 m ag below meth c0 D cA A0 sA M0 ad0 4 Z 0 0 0 0 0 [(0, .inr (.inr (12, some s))), (1, .inl x1), (2, .inl x2)] [] M := by
  rw [← q_X12_isLive fu s x1 x2 M] at h
  have hT : ∀ w ∈ xG, w ∈ (Cond.code yX12_isLive cX12_isLive 4 (some .boolean) :: xG) := fun w hw => List.mem_cons_of_mem _ hw
  refine xrun_sound (nst := 0) (isInit := false) (kd := kdX12) X (xcls_mono hT xclsG) (xpool_mono hT plX12) (fun z => by cases z) (fun idx v hf => xkoE_mono hT (koX12_ok _ (xfind_mem hf))) (xents (ca := _) ?_) (endZ hE).1 (endZ hE).2 (xcuts (cu := _) ?_) pr_X12_isLive.1 pr_X12_isLive.2 _ _ _ _ _ _ _ _ (xat_ok pr_X12_isLive.1 pr_X12_isLive.2).1 (xat_ok pr_X12_isLive.1 pr_X12_isLive.2).2.1 (xat_ok pr_X12_isLive.1 pr_X12_isLive.2).2.2 h
  · exact (List.forall_mem_cons.mpr ⟨(xent_met X (ci := 12) hT cd_X12_slotAt lk_X12_264 rfl (by decide) rfl (by decide +kernel) (fun z => absurd z (by decide)) (hw_X12_slotAt l D cA sA fu 2 rfl) (fun z => absurd rfl z) (by constructor <;> omega) (by decide)), (List.forall_mem_cons.mpr ⟨(xent_met X (ci := 12) hT cd_X12_mapOf lk_X12_267 rfl (by decide) rfl (by decide +kernel) (fun z => absurd z (by decide)) (hw_X12_mapOf l D cA sA fu 0) (fun _ => ⟨by decide, fun _ => ⟨TX12, 29, rfl⟩⟩) (by constructor <;> omega) (by decide)), (List.forall_mem_cons.mpr ⟨(xent_met X (ci := 12) hT cd_X12_isFirst lk_X12_299 rfl (by decide) rfl (by decide +kernel) (fun z => absurd z (by decide)) (hw_X12_isFirst l D cA sA fu 0) (fun _ => ⟨by decide, fun _ => ⟨TX12, 29, rfl⟩⟩) (by constructor <;> omega) (by decide)), (List.forall_mem_cons.mpr ⟨(xent_met X (ci := 12) hT cd_X12_isJournal lk_X12_302 rfl (by decide) rfl (by decide +kernel) (fun z => absurd z (by decide)) (hw_X12_isJournal l D cA sA fu 0) (fun _ => ⟨by decide, fun _ => ⟨TX12, 29, rfl⟩⟩) (by constructor <;> omega) (by decide)), (fun _ h => nomatch h)⟩)⟩)⟩)⟩)
  · exact (fun _ h => nomatch h)

theorem ok_X12_isLive (l : Launch) (D : va_G) (cA : Nat → ClassId) (sA : Nat → Nat) (fu : Nat) (s : Nat) (x1 : Int32) (x2 : Int32) (M : xM) {rr : Int32 × xM} (h : F_X12_isLive fu s x1 x2 M = some rr) : xMet l D cA sA yX12_isLive cX12_isLive 4 (some .boolean) xG (4 + 1) 0 0 [.inr (.inr (12, some s)), .inl x1, .inl x2] M (some (.inl rr.1)) rr.2 :=
  xmet_of (by decide +kernel) (Nat.le_of_ble_eq_true rfl) (fun p e s1 m ag below meth c0 A0 ad0 Z X hn hE => wx_X12_isLive X hn ⟨Nat.le_refl _, Nat.le_refl _⟩ hE fu s x1 x2 M h)
theorem hw_X12_isLive (l : Launch) (D : va_G) (cA : Nat → ClassId) (sA : Nat → Nat) (fu : Nat) {ρ : Type} {r0 : ρ} (kd1 : Nat) : ∀ (as : List xV) (M : xM) (k : Option xV → xM → Option ρ), w_X12_isLive fu as M k = some r0 → ∃ v M', xMet l D cA sA yX12_isLive cX12_isLive 4 (some .boolean) xG (4 + 1) 0 0 as M v M' ∧ k v M' = some r0 ∧ (kd1 ≠ 2 → ∃ a as', as = .inr (.inr (12, some a)) :: as') := by
  intro as M k h
  unfold w_X12_isLive at h
  replace h := pR_some h
  obtain ⟨o, as1, rfl, h⟩ := h
  replace h := bd_some h
  obtain ⟨s, rfl, h⟩ := h
  replace h := pI_some h
  obtain ⟨x1, as1, rfl, h⟩ := h
  replace h := pI_some h
  obtain ⟨x2, as1, rfl, h⟩ := h
  replace h := xe_some h
  obtain ⟨rfl, h⟩ := h
  obtain ⟨p1, hp, h⟩ := Option.bind_eq_some_iff.mp h
  exact ⟨_, _, ok_X12_isLive l D cA sA fu s x1 x2 M hp, h, fun _ => ⟨_, _, rfl⟩⟩
theorem lk_X12_308 : xLink xG RX12 308 0 yX12_isLive 2 := ⟨Or.inl (xg 1801 (by decide +kernel) (by decide +kernel)), (xg 1803 (by decide +kernel) (by decide +kernel)), (xg 74 (by decide +kernel) (by decide +kernel)), (xg 141 (by decide +kernel) (by decide +kernel)), ⟨12, by decide, TX12, 29, rfl⟩⟩
theorem cd_X12_tally : Cond.code yX12_tally cX12_tally 9 (some .int) ∈ xG := (xg 1832 (by decide +kernel) (by decide +kernel))
theorem pr_X12_tally : (∀ e ∈ pX12_tally, xrow cX12_tally 9 kdX12 flX12 0 false RX12 e) ∧ xnext pX12_tally = true := xrows (by decide +kernel)
set_option maxRecDepth 100000 in
theorem wx_X12_tally_77 (X : xCtx p R S0 m ag c0 D cA A0 sA 9 cX12_tally RX12 (.code yX12_tally cX12_tally 9 (some .int) :: xG) 0 0) (hi : meth.name = yX12_tally.name) (hroom : 5 + 2 ≤ R.frames ∧ 60 * (5 + 2) ≤ R.locals) {rr : Int32 × xM} (hE : xEnd l D cA sA cX12_tally 9 (some .int) R 0 0 (some (.inl rr.1)) rr.2 p e S0 m ag below meth c0 A0 M0 ad0 Z) (fu : Nat) (k11 : Nat → Int32 → Int32 → Int32 → Int32 → Int32 → Int32 → xM → Option (Int32 × xM)) (hk11 : ∀ (s : Nat) (x1 : Int32) (x2 : Int32) (x3 : Int32) (x4 : Int32) (x5 : Int32) (x6 : Int32) (M : xM), k11 s x1 x2 x3 x4 x5 x6 M = some rr → xWx p l e R S0 m ag below meth c0 D cA A0 sA M0 ad0 9 Z 0 0 11 0 0 [(0, .inr (.inr (12, some s))), (1, .inl x1), (2, .inl x2), (3, .inl x3), (4, .inl x4), (5, .inl x5), (6, .inl x6)] [] M) (s : Nat) (x1 : Int32) (x2 : Int32) (x3 : Int32) (x4 : Int32) (x5 : Int32) (x6 : Int32) (y0 : Int32) (M : xM) (h : J_X12_tally_77 fu k11 s x1 x2 x3 x4 x5 x6 y0 M = some rr) : xWx p l e R S0 m ag below meth c0 D cA A0 sA M0 ad0 9 Z 0 0 77 0 0 [(0, .inr (.inr (12, some s))), (1, .inl x1), (2, .inl x2), (3, .inl x3), (4, .inl x4), (5, .inl x5), (6, .inl x6)] [.inl y0] M := by
  rw [← q_X12_tally_77 fu k11 s x1 x2 x3 x4 x5 x6 y0 M] at h
  have hT : ∀ w ∈ xG, w ∈ (Cond.code yX12_tally cX12_tally 9 (some .int) :: xG) := fun w hw => List.mem_cons_of_mem _ hw
  refine xrun_sound (nst := 0) (isInit := false) (kd := kdX12) X (xcls_mono hT xclsG) (xpool_mono hT plX12) (fun z => by cases z) (fun idx v hf => xkoE_mono hT (koX12_ok _ (xfind_mem hf))) (xents (ca := _) ?_) (endI hE).1 (endI hE).2 (xcuts (cu := _) ?_) pr_X12_tally.1 pr_X12_tally.2 _ _ _ _ _ _ _ _ (xat_ok pr_X12_tally.1 pr_X12_tally.2).1 (xat_ok pr_X12_tally.1 pr_X12_tally.2).2.1 (xat_ok pr_X12_tally.1 pr_X12_tally.2).2.2 h
  · exact (fun _ h => nomatch h)
  · refine (List.forall_mem_cons.mpr ⟨?_, (fun _ h => nomatch h)⟩)
    · intro bc bs ls st M h
      replace h := xz_some h
      obtain ⟨rfl, rfl, h⟩ := h
      replace h := lR_some h
      obtain ⟨o, e0, h⟩ := h
      replace h := bd_some h
      obtain ⟨s', rfl, h⟩ := h
      replace h := lI_some h
      obtain ⟨x1', e1, h⟩ := h
      replace h := lI_some h
      obtain ⟨x2', e2, h⟩ := h
      replace h := lI_some h
      obtain ⟨x3', e3, h⟩ := h
      replace h := lI_some h
      obtain ⟨x4', e4, h⟩ := h
      replace h := lI_some h
      obtain ⟨x5', e5, h⟩ := h
      replace h := lI_some h
      obtain ⟨x6', e6, h⟩ := h
      replace h := xe_some h
      obtain ⟨rfl, h⟩ := h
      exact xWx_ls (hk11 s' x1' x2' x3' x4' x5' x6' M h) (List.forall_mem_cons.mpr ⟨e0, (List.forall_mem_cons.mpr ⟨e1, (List.forall_mem_cons.mpr ⟨e2, (List.forall_mem_cons.mpr ⟨e3, (List.forall_mem_cons.mpr ⟨e4, (List.forall_mem_cons.mpr ⟨e5, (List.forall_mem_cons.mpr ⟨e6, (fun _ h => nomatch h)⟩)⟩)⟩)⟩)⟩)⟩)⟩)

set_option maxRecDepth 100000 in
theorem wx_X12_tally_69 (X : xCtx p R S0 m ag c0 D cA A0 sA 9 cX12_tally RX12 (.code yX12_tally cX12_tally 9 (some .int) :: xG) 0 0) (hi : meth.name = yX12_tally.name) (hroom : 5 + 2 ≤ R.frames ∧ 60 * (5 + 2) ≤ R.locals) {rr : Int32 × xM} (hE : xEnd l D cA sA cX12_tally 9 (some .int) R 0 0 (some (.inl rr.1)) rr.2 p e S0 m ag below meth c0 A0 M0 ad0 Z) (fu : Nat) (k11 : Nat → Int32 → Int32 → Int32 → Int32 → Int32 → Int32 → xM → Option (Int32 × xM)) (hk11 : ∀ (s : Nat) (x1 : Int32) (x2 : Int32) (x3 : Int32) (x4 : Int32) (x5 : Int32) (x6 : Int32) (M : xM), k11 s x1 x2 x3 x4 x5 x6 M = some rr → xWx p l e R S0 m ag below meth c0 D cA A0 sA M0 ad0 9 Z 0 0 11 0 0 [(0, .inr (.inr (12, some s))), (1, .inl x1), (2, .inl x2), (3, .inl x3), (4, .inl x4), (5, .inl x5), (6, .inl x6)] [] M) (s : Nat) (x1 : Int32) (x2 : Int32) (x3 : Int32) (x4 : Int32) (x5 : Int32) (x6 : Int32) (y0 : Int32) (y1 : Int32) (M : xM) (h : J_X12_tally_69 fu k11 s x1 x2 x3 x4 x5 x6 y0 y1 M = some rr) : xWx p l e R S0 m ag below meth c0 D cA A0 sA M0 ad0 9 Z 0 0 69 0 0 [(0, .inr (.inr (12, some s))), (1, .inl x1), (2, .inl x2), (3, .inl x3), (4, .inl x4), (5, .inl x5), (6, .inl x6)] [.inl y0, .inl y1] M := by
  rw [← q_X12_tally_69 fu k11 s x1 x2 x3 x4 x5 x6 y0 y1 M] at h
  have hT : ∀ w ∈ xG, w ∈ (Cond.code yX12_tally cX12_tally 9 (some .int) :: xG) := fun w hw => List.mem_cons_of_mem _ hw
  refine xrun_sound (nst := 0) (isInit := false) (kd := kdX12) X (xcls_mono hT xclsG) (xpool_mono hT plX12) (fun z => by cases z) (fun idx v hf => xkoE_mono hT (koX12_ok _ (xfind_mem hf))) (xents (ca := _) ?_) (endI hE).1 (endI hE).2 (xcuts (cu := _) ?_) pr_X12_tally.1 pr_X12_tally.2 _ _ _ _ _ _ _ _ (xat_ok pr_X12_tally.1 pr_X12_tally.2).1 (xat_ok pr_X12_tally.1 pr_X12_tally.2).2.1 (xat_ok pr_X12_tally.1 pr_X12_tally.2).2.2 h
  · exact (fun _ h => nomatch h)
  · refine (List.forall_mem_cons.mpr ⟨?_, (fun _ h => nomatch h)⟩)
    · intro bc bs ls st M h
      replace h := xz_some h
      obtain ⟨rfl, rfl, h⟩ := h
      replace h := lR_some h
      obtain ⟨o, e0, h⟩ := h
      replace h := bd_some h
      obtain ⟨s', rfl, h⟩ := h
      replace h := lI_some h
      obtain ⟨x1', e1, h⟩ := h
      replace h := lI_some h
      obtain ⟨x2', e2, h⟩ := h
      replace h := lI_some h
      obtain ⟨x3', e3, h⟩ := h
      replace h := lI_some h
      obtain ⟨x4', e4, h⟩ := h
      replace h := lI_some h
      obtain ⟨x5', e5, h⟩ := h
      replace h := lI_some h
      obtain ⟨x6', e6, h⟩ := h
      replace h := pI_some h
      obtain ⟨y0', st, rfl, h⟩ := h
      replace h := xe_some h
      obtain ⟨rfl, h⟩ := h
      exact xWx_ls (wx_X12_tally_77 X hi hroom hE fu k11 hk11 s' x1' x2' x3' x4' x5' x6' y0' M h) (List.forall_mem_cons.mpr ⟨e0, (List.forall_mem_cons.mpr ⟨e1, (List.forall_mem_cons.mpr ⟨e2, (List.forall_mem_cons.mpr ⟨e3, (List.forall_mem_cons.mpr ⟨e4, (List.forall_mem_cons.mpr ⟨e5, (List.forall_mem_cons.mpr ⟨e6, (fun _ h => nomatch h)⟩)⟩)⟩)⟩)⟩)⟩)⟩)

set_option maxRecDepth 100000 in
theorem wx_X12_tally_34 (X : xCtx p R S0 m ag c0 D cA A0 sA 9 cX12_tally RX12 (.code yX12_tally cX12_tally 9 (some .int) :: xG) 0 0) (hi : meth.name = yX12_tally.name) (hroom : 5 + 2 ≤ R.frames ∧ 60 * (5 + 2) ≤ R.locals) {rr : Int32 × xM} (hE : xEnd l D cA sA cX12_tally 9 (some .int) R 0 0 (some (.inl rr.1)) rr.2 p e S0 m ag below meth c0 A0 M0 ad0 Z) (fu : Nat) (k11 : Nat → Int32 → Int32 → Int32 → Int32 → Int32 → Int32 → xM → Option (Int32 × xM)) (hk11 : ∀ (s : Nat) (x1 : Int32) (x2 : Int32) (x3 : Int32) (x4 : Int32) (x5 : Int32) (x6 : Int32) (M : xM), k11 s x1 x2 x3 x4 x5 x6 M = some rr → xWx p l e R S0 m ag below meth c0 D cA A0 sA M0 ad0 9 Z 0 0 11 0 0 [(0, .inr (.inr (12, some s))), (1, .inl x1), (2, .inl x2), (3, .inl x3), (4, .inl x4), (5, .inl x5), (6, .inl x6)] [] M) (s : Nat) (x1 : Int32) (x2 : Int32) (x3 : Int32) (x4 : Int32) (x5 : Int32) (x6 : Int32) (y0 : Int32) (M : xM) (h : J_X12_tally_34 fu k11 s x1 x2 x3 x4 x5 x6 y0 M = some rr) : xWx p l e R S0 m ag below meth c0 D cA A0 sA M0 ad0 9 Z 0 0 34 0 0 [(0, .inr (.inr (12, some s))), (1, .inl x1), (2, .inl x2), (3, .inl x3), (4, .inl x4), (5, .inl x5), (6, .inl x6)] [.inl y0] M := by
  rw [← q_X12_tally_34 fu k11 s x1 x2 x3 x4 x5 x6 y0 M] at h
  have hT : ∀ w ∈ xG, w ∈ (Cond.code yX12_tally cX12_tally 9 (some .int) :: xG) := fun w hw => List.mem_cons_of_mem _ hw
  refine xrun_sound (nst := 0) (isInit := false) (kd := kdX12) X (xcls_mono hT xclsG) (xpool_mono hT plX12) (fun z => by cases z) (fun idx v hf => xkoE_mono hT (koX12_ok _ (xfind_mem hf))) (xents (ca := _) ?_) (endI hE).1 (endI hE).2 (xcuts (cu := _) ?_) pr_X12_tally.1 pr_X12_tally.2 _ _ _ _ _ _ _ _ (xat_ok pr_X12_tally.1 pr_X12_tally.2).1 (xat_ok pr_X12_tally.1 pr_X12_tally.2).2.1 (xat_ok pr_X12_tally.1 pr_X12_tally.2).2.2 h
  · exact (List.forall_mem_cons.mpr ⟨(xent_met X (ci := 12) hT cd_X12_isLive lk_X12_308 rfl (by decide) rfl (by decide +kernel) (fun z => absurd z (by decide)) (hw_X12_isLive l D cA sA fu 0) (fun _ => ⟨by decide, fun _ => ⟨TX12, 29, rfl⟩⟩) (by constructor <;> omega) (by decide)), (fun _ h => nomatch h)⟩)
  · refine (List.forall_mem_cons.mpr ⟨?_, (List.forall_mem_cons.mpr ⟨?_, (fun _ h => nomatch h)⟩)⟩)
    · intro bc bs ls st M h
      replace h := xz_some h
      obtain ⟨rfl, rfl, h⟩ := h
      replace h := lR_some h
      obtain ⟨o, e0, h⟩ := h
      replace h := bd_some h
      obtain ⟨s', rfl, h⟩ := h
      replace h := lI_some h
      obtain ⟨x1', e1, h⟩ := h
      replace h := lI_some h
      obtain ⟨x2', e2, h⟩ := h
      replace h := lI_some h
      obtain ⟨x3', e3, h⟩ := h
      replace h := lI_some h
      obtain ⟨x4', e4, h⟩ := h
      replace h := lI_some h
      obtain ⟨x5', e5, h⟩ := h
      replace h := lI_some h
      obtain ⟨x6', e6, h⟩ := h
      replace h := pI_some h
      obtain ⟨y0', st, rfl, h⟩ := h
      replace h := pI_some h
      obtain ⟨y1', st, rfl, h⟩ := h
      replace h := xe_some h
      obtain ⟨rfl, h⟩ := h
      exact xWx_ls (wx_X12_tally_69 X hi hroom hE fu k11 hk11 s' x1' x2' x3' x4' x5' x6' y0' y1' M h) (List.forall_mem_cons.mpr ⟨e0, (List.forall_mem_cons.mpr ⟨e1, (List.forall_mem_cons.mpr ⟨e2, (List.forall_mem_cons.mpr ⟨e3, (List.forall_mem_cons.mpr ⟨e4, (List.forall_mem_cons.mpr ⟨e5, (List.forall_mem_cons.mpr ⟨e6, (fun _ h => nomatch h)⟩)⟩)⟩)⟩)⟩)⟩)⟩)
    · intro bc bs ls st M h
      replace h := xz_some h
      obtain ⟨rfl, rfl, h⟩ := h
      replace h := lR_some h
      obtain ⟨o, e0, h⟩ := h
      replace h := bd_some h
      obtain ⟨s', rfl, h⟩ := h
      replace h := lI_some h
      obtain ⟨x1', e1, h⟩ := h
      replace h := lI_some h
      obtain ⟨x2', e2, h⟩ := h
      replace h := lI_some h
      obtain ⟨x3', e3, h⟩ := h
      replace h := lI_some h
      obtain ⟨x4', e4, h⟩ := h
      replace h := lI_some h
      obtain ⟨x5', e5, h⟩ := h
      replace h := lI_some h
      obtain ⟨x6', e6, h⟩ := h
      replace h := pI_some h
      obtain ⟨y0', st, rfl, h⟩ := h
      replace h := xe_some h
      obtain ⟨rfl, h⟩ := h
      exact xWx_ls (wx_X12_tally_77 X hi hroom hE fu k11 hk11 s' x1' x2' x3' x4' x5' x6' y0' M h) (List.forall_mem_cons.mpr ⟨e0, (List.forall_mem_cons.mpr ⟨e1, (List.forall_mem_cons.mpr ⟨e2, (List.forall_mem_cons.mpr ⟨e3, (List.forall_mem_cons.mpr ⟨e4, (List.forall_mem_cons.mpr ⟨e5, (List.forall_mem_cons.mpr ⟨e6, (fun _ h => nomatch h)⟩)⟩)⟩)⟩)⟩)⟩)⟩)

set_option maxRecDepth 100000 in
theorem wx_X12_tally_11 (X : xCtx p R S0 m ag c0 D cA A0 sA 9 cX12_tally RX12 (.code yX12_tally cX12_tally 9 (some .int) :: xG) 0 0) (hi : meth.name = yX12_tally.name) (hroom : 5 + 2 ≤ R.frames ∧ 60 * (5 + 2) ≤ R.locals) {rr : Int32 × xM} (hE : xEnd l D cA sA cX12_tally 9 (some .int) R 0 0 (some (.inl rr.1)) rr.2 p e S0 m ag below meth c0 A0 M0 ad0 Z) (fu : Nat) : ∀ (n : Nat) (s : Nat) (x1 : Int32) (x2 : Int32) (x3 : Int32) (x4 : Int32) (x5 : Int32) (x6 : Int32) (M : xM), L_X12_tally_11 fu n s x1 x2 x3 x4 x5 x6 M = some rr → xWx p l e R S0 m ag below meth c0 D cA A0 sA M0 ad0 9 Z 0 0 11 0 0 [(0, .inr (.inr (12, some s))), (1, .inl x1), (2, .inl x2), (3, .inl x3), (4, .inl x4), (5, .inl x5), (6, .inl x6)] [] M := by
  intro n
  induction n with
  | zero => intro s x1 x2 x3 x4 x5 x6 M h; cases h
  | succ n ih =>
    intro s x1 x2 x3 x4 x5 x6 M h
    rw [← q_X12_tally_11 fu n s x1 x2 x3 x4 x5 x6 M] at h
    have hT : ∀ w ∈ xG, w ∈ (Cond.code yX12_tally cX12_tally 9 (some .int) :: xG) := fun w hw => List.mem_cons_of_mem _ hw
    refine xrun_sound (nst := 0) (isInit := false) (kd := kdX12) X (xcls_mono hT xclsG) (xpool_mono hT plX12) (fun z => by cases z) (fun idx v hf => xkoE_mono hT (koX12_ok _ (xfind_mem hf))) (xents (ca := _) ?_) (endI hE).1 (endI hE).2 (xcuts (cu := _) ?_) pr_X12_tally.1 pr_X12_tally.2 _ _ _ _ _ _ _ _ (xat_ok pr_X12_tally.1 pr_X12_tally.2).1 (xat_ok pr_X12_tally.1 pr_X12_tally.2).2.1 (xat_ok pr_X12_tally.1 pr_X12_tally.2).2.2 h
    · exact (List.forall_mem_cons.mpr ⟨(xent_met X (ci := 12) hT cd_X12_typeOf lk_X12_290 rfl (by decide) rfl (by decide +kernel) (fun z => absurd z (by decide)) (hw_X12_typeOf l D cA sA fu 0) (fun _ => ⟨by decide, fun _ => ⟨TX12, 29, rfl⟩⟩) (by constructor <;> omega) (by decide)), (fun _ h => nomatch h)⟩)
    · refine (List.forall_mem_cons.mpr ⟨?_, (fun _ h => nomatch h)⟩)
      · intro bc bs ls st M h
        replace h := xz_some h
        obtain ⟨rfl, rfl, h⟩ := h
        replace h := lR_some h
        obtain ⟨o, e0, h⟩ := h
        replace h := bd_some h
        obtain ⟨s', rfl, h⟩ := h
        replace h := lI_some h
        obtain ⟨x1', e1, h⟩ := h
        replace h := lI_some h
        obtain ⟨x2', e2, h⟩ := h
        replace h := lI_some h
        obtain ⟨x3', e3, h⟩ := h
        replace h := lI_some h
        obtain ⟨x4', e4, h⟩ := h
        replace h := lI_some h
        obtain ⟨x5', e5, h⟩ := h
        replace h := lI_some h
        obtain ⟨x6', e6, h⟩ := h
        replace h := pI_some h
        obtain ⟨y0', st, rfl, h⟩ := h
        replace h := xe_some h
        obtain ⟨rfl, h⟩ := h
        exact xWx_ls (wx_X12_tally_34 X hi hroom hE fu _ ih s' x1' x2' x3' x4' x5' x6' y0' M h) (List.forall_mem_cons.mpr ⟨e0, (List.forall_mem_cons.mpr ⟨e1, (List.forall_mem_cons.mpr ⟨e2, (List.forall_mem_cons.mpr ⟨e3, (List.forall_mem_cons.mpr ⟨e4, (List.forall_mem_cons.mpr ⟨e5, (List.forall_mem_cons.mpr ⟨e6, (fun _ h => nomatch h)⟩)⟩)⟩)⟩)⟩)⟩)⟩)

set_option maxRecDepth 100000 in
theorem wx_X12_tally (X : xCtx p R S0 m ag c0 D cA A0 sA 9 cX12_tally RX12 (.code yX12_tally cX12_tally 9 (some .int) :: xG) 0 0) (hi : meth.name = yX12_tally.name) (hroom : 5 + 2 ≤ R.frames ∧ 60 * (5 + 2) ≤ R.locals) {rr : Int32 × xM} (hE : xEnd l D cA sA cX12_tally 9 (some .int) R 0 0 (some (.inl rr.1)) rr.2 p e S0 m ag below meth c0 A0 M0 ad0 Z) (fu : Nat) (s : Nat) (x1 : Int32) (x2 : Int32) (x3 : Int32) (x4 : Int32) (M : xM) (h : F_X12_tally fu s x1 x2 x3 x4 M = some rr) : xWx p l e R S0 m ag below meth c0 D cA A0 sA M0 ad0 9 Z 0 0 0 0 0 [(0, .inr (.inr (12, some s))), (1, .inl x1), (2, .inl x2), (3, .inl x3), (4, .inl x4)] [] M := by
  rw [← q_X12_tally fu s x1 x2 x3 x4 M] at h
  have hT : ∀ w ∈ xG, w ∈ (Cond.code yX12_tally cX12_tally 9 (some .int) :: xG) := fun w hw => List.mem_cons_of_mem _ hw
  refine xrun_sound (nst := 0) (isInit := false) (kd := kdX12) X (xcls_mono hT xclsG) (xpool_mono hT plX12) (fun z => by cases z) (fun idx v hf => xkoE_mono hT (koX12_ok _ (xfind_mem hf))) (xents (ca := _) ?_) (endI hE).1 (endI hE).2 (xcuts (cu := _) ?_) pr_X12_tally.1 pr_X12_tally.2 _ _ _ _ _ _ _ _ (xat_ok pr_X12_tally.1 pr_X12_tally.2).1 (xat_ok pr_X12_tally.1 pr_X12_tally.2).2.1 (xat_ok pr_X12_tally.1 pr_X12_tally.2).2.2 h
  · exact (List.forall_mem_cons.mpr ⟨(xent_met X (ci := 12) hT cd_X12_looks lk_X12_305 rfl (by decide) rfl (by decide +kernel) (fun z => absurd z (by decide)) (hw_X12_looks l D cA sA fu 0) (fun _ => ⟨by decide, fun _ => ⟨TX12, 29, rfl⟩⟩) (by constructor <;> omega) (by decide)), (fun _ h => nomatch h)⟩)
  · refine (List.forall_mem_cons.mpr ⟨?_, (fun _ h => nomatch h)⟩)
    · intro bc bs ls st M h
      replace h := xz_some h
      obtain ⟨rfl, rfl, h⟩ := h
      replace h := lR_some h
      obtain ⟨o, e0, h⟩ := h
      replace h := bd_some h
      obtain ⟨s', rfl, h⟩ := h
      replace h := lI_some h
      obtain ⟨x1', e1, h⟩ := h
      replace h := lI_some h
      obtain ⟨x2', e2, h⟩ := h
      replace h := lI_some h
      obtain ⟨x3', e3, h⟩ := h
      replace h := lI_some h
      obtain ⟨x4', e4, h⟩ := h
      replace h := lI_some h
      obtain ⟨x5', e5, h⟩ := h
      replace h := lI_some h
      obtain ⟨x6', e6, h⟩ := h
      replace h := xe_some h
      obtain ⟨rfl, h⟩ := h
      exact xWx_ls (wx_X12_tally_11 X hi hroom hE fu fu s' x1' x2' x3' x4' x5' x6' M h) (List.forall_mem_cons.mpr ⟨e0, (List.forall_mem_cons.mpr ⟨e1, (List.forall_mem_cons.mpr ⟨e2, (List.forall_mem_cons.mpr ⟨e3, (List.forall_mem_cons.mpr ⟨e4, (List.forall_mem_cons.mpr ⟨e5, (List.forall_mem_cons.mpr ⟨e6, (fun _ h => nomatch h)⟩)⟩)⟩)⟩)⟩)⟩)⟩)

theorem ok_X12_tally (l : Launch) (D : va_G) (cA : Nat → ClassId) (sA : Nat → Nat) (fu : Nat) (s : Nat) (x1 : Int32) (x2 : Int32) (x3 : Int32) (x4 : Int32) (M : xM) {rr : Int32 × xM} (h : F_X12_tally fu s x1 x2 x3 x4 M = some rr) : xMet l D cA sA yX12_tally cX12_tally 9 (some .int) xG (5 + 1) 0 0 [.inr (.inr (12, some s)), .inl x1, .inl x2, .inl x3, .inl x4] M (some (.inl rr.1)) rr.2 :=
  xmet_of (by decide +kernel) (Nat.le_of_ble_eq_true rfl) (fun p e s1 m ag below meth c0 A0 ad0 Z X hn hE => wx_X12_tally X hn ⟨Nat.le_refl _, Nat.le_refl _⟩ hE fu s x1 x2 x3 x4 M h)
theorem hw_X12_tally (l : Launch) (D : va_G) (cA : Nat → ClassId) (sA : Nat → Nat) (fu : Nat) {ρ : Type} {r0 : ρ} (kd1 : Nat) : ∀ (as : List xV) (M : xM) (k : Option xV → xM → Option ρ), w_X12_tally fu as M k = some r0 → ∃ v M', xMet l D cA sA yX12_tally cX12_tally 9 (some .int) xG (5 + 1) 0 0 as M v M' ∧ k v M' = some r0 ∧ (kd1 ≠ 2 → ∃ a as', as = .inr (.inr (12, some a)) :: as') := by
  intro as M k h
  unfold w_X12_tally at h
  replace h := pR_some h
  obtain ⟨o, as1, rfl, h⟩ := h
  replace h := bd_some h
  obtain ⟨s, rfl, h⟩ := h
  replace h := pI_some h
  obtain ⟨x1, as1, rfl, h⟩ := h
  replace h := pI_some h
  obtain ⟨x2, as1, rfl, h⟩ := h
  replace h := pI_some h
  obtain ⟨x3, as1, rfl, h⟩ := h
  replace h := pI_some h
  obtain ⟨x4, as1, rfl, h⟩ := h
  replace h := xe_some h
  obtain ⟨rfl, h⟩ := h
  obtain ⟨p1, hp, h⟩ := Option.bind_eq_some_iff.mp h
  exact ⟨_, _, ok_X12_tally l D cA sA fu s x1 x2 x3 x4 M hp, h, fun _ => ⟨_, _, rfl⟩⟩
theorem cd_X12_journalOf : Cond.code yX12_journalOf cX12_journalOf 4 (some .int) ∈ xG := (xg 1892 (by decide +kernel) (by decide +kernel))
theorem pr_X12_journalOf : (∀ e ∈ pX12_journalOf, xrow cX12_journalOf 4 kdX12 flX12 0 false RX12 e) ∧ xnext pX12_journalOf = true := xrows (by decide +kernel)
set_option maxRecDepth 100000 in
theorem wx_X12_journalOf_9 (X : xCtx p R S0 m ag c0 D cA A0 sA 4 cX12_journalOf RX12 (.code yX12_journalOf cX12_journalOf 4 (some .int) :: xG) 0 0) (hi : meth.name = yX12_journalOf.name) (hroom : 4 + 2 ≤ R.frames ∧ 60 * (4 + 2) ≤ R.locals) {rr : Int32 × xM} (hE : xEnd l D cA sA cX12_journalOf 4 (some .int) R 0 0 (some (.inl rr.1)) rr.2 p e S0 m ag below meth c0 A0 M0 ad0 Z) (fu : Nat) : ∀ (n : Nat) (s : Nat) (x1 : Int32) (x2 : Int32) (x3 : Int32) (M : xM), L_X12_journalOf_9 fu n s x1 x2 x3 M = some rr → xWx p l e R S0 m ag below meth c0 D cA A0 sA M0 ad0 4 Z 0 0 9 0 0 [(0, .inr (.inr (12, some s))), (1, .inl x1), (2, .inl x2), (3, .inl x3)] [] M := by
  intro n
  induction n with
  | zero => intro s x1 x2 x3 M h; cases h
  | succ n ih =>
    intro s x1 x2 x3 M h
    rw [← q_X12_journalOf_9 fu n s x1 x2 x3 M] at h
    have hT : ∀ w ∈ xG, w ∈ (Cond.code yX12_journalOf cX12_journalOf 4 (some .int) :: xG) := fun w hw => List.mem_cons_of_mem _ hw
    refine xrun_sound (nst := 0) (isInit := false) (kd := kdX12) X (xcls_mono hT xclsG) (xpool_mono hT plX12) (fun z => by cases z) (fun idx v hf => xkoE_mono hT (koX12_ok _ (xfind_mem hf))) (xents (ca := _) ?_) (endI hE).1 (endI hE).2 (xcuts (cu := _) ?_) pr_X12_journalOf.1 pr_X12_journalOf.2 _ _ _ _ _ _ _ _ (xat_ok pr_X12_journalOf.1 pr_X12_journalOf.2).1 (xat_ok pr_X12_journalOf.1 pr_X12_journalOf.2).2.1 (xat_ok pr_X12_journalOf.1 pr_X12_journalOf.2).2.2 h
    · exact (List.forall_mem_cons.mpr ⟨(xent_met X (ci := 12) hT cd_X12_allSlots lk_X12_277 rfl (by decide) rfl (by decide +kernel) (fun z => absurd z (by decide)) (hw_X12_allSlots l D cA sA fu 0) (fun _ => ⟨by decide, fun _ => ⟨TX12, 29, rfl⟩⟩) (by constructor <;> omega) (by decide)), (List.forall_mem_cons.mpr ⟨(xent_met X (ci := 12) hT cd_X12_isJournal lk_X12_302 rfl (by decide) rfl (by decide +kernel) (fun z => absurd z (by decide)) (hw_X12_isJournal l D cA sA fu 0) (fun _ => ⟨by decide, fun _ => ⟨TX12, 29, rfl⟩⟩) (by constructor <;> omega) (by decide)), (fun _ h => nomatch h)⟩)⟩)
    · refine (List.forall_mem_cons.mpr ⟨?_, (fun _ h => nomatch h)⟩)
      · intro bc bs ls st M h
        replace h := xz_some h
        obtain ⟨rfl, rfl, h⟩ := h
        replace h := lR_some h
        obtain ⟨o, e0, h⟩ := h
        replace h := bd_some h
        obtain ⟨s', rfl, h⟩ := h
        replace h := lI_some h
        obtain ⟨x1', e1, h⟩ := h
        replace h := lI_some h
        obtain ⟨x2', e2, h⟩ := h
        replace h := lI_some h
        obtain ⟨x3', e3, h⟩ := h
        replace h := xe_some h
        obtain ⟨rfl, h⟩ := h
        exact xWx_ls (ih s' x1' x2' x3' M h) (List.forall_mem_cons.mpr ⟨e0, (List.forall_mem_cons.mpr ⟨e1, (List.forall_mem_cons.mpr ⟨e2, (List.forall_mem_cons.mpr ⟨e3, (fun _ h => nomatch h)⟩)⟩)⟩)⟩)

set_option maxRecDepth 100000 in
theorem wx_X12_journalOf (X : xCtx p R S0 m ag c0 D cA A0 sA 4 cX12_journalOf RX12 (.code yX12_journalOf cX12_journalOf 4 (some .int) :: xG) 0 0) (hi : meth.name = yX12_journalOf.name) (hroom : 4 + 2 ≤ R.frames ∧ 60 * (4 + 2) ≤ R.locals) {rr : Int32 × xM} (hE : xEnd l D cA sA cX12_journalOf 4 (some .int) R 0 0 (some (.inl rr.1)) rr.2 p e S0 m ag below meth c0 A0 M0 ad0 Z) (fu : Nat) (s : Nat) (x1 : Int32) (M : xM) (h : F_X12_journalOf fu s x1 M = some rr) : xWx p l e R S0 m ag below meth c0 D cA A0 sA M0 ad0 4 Z 0 0 0 0 0 [(0, .inr (.inr (12, some s))), (1, .inl x1)] [] M := by
  rw [← q_X12_journalOf fu s x1 M] at h
  have hT : ∀ w ∈ xG, w ∈ (Cond.code yX12_journalOf cX12_journalOf 4 (some .int) :: xG) := fun w hw => List.mem_cons_of_mem _ hw
  refine xrun_sound (nst := 0) (isInit := false) (kd := kdX12) X (xcls_mono hT xclsG) (xpool_mono hT plX12) (fun z => by cases z) (fun idx v hf => xkoE_mono hT (koX12_ok _ (xfind_mem hf))) (xents (ca := _) ?_) (endI hE).1 (endI hE).2 (xcuts (cu := _) ?_) pr_X12_journalOf.1 pr_X12_journalOf.2 _ _ _ _ _ _ _ _ (xat_ok pr_X12_journalOf.1 pr_X12_journalOf.2).1 (xat_ok pr_X12_journalOf.1 pr_X12_journalOf.2).2.1 (xat_ok pr_X12_journalOf.1 pr_X12_journalOf.2).2.2 h
  · exact (List.forall_mem_cons.mpr ⟨(xent_met X (ci := 12) hT cd_X12_looks lk_X12_305 rfl (by decide) rfl (by decide +kernel) (fun z => absurd z (by decide)) (hw_X12_looks l D cA sA fu 0) (fun _ => ⟨by decide, fun _ => ⟨TX12, 29, rfl⟩⟩) (by constructor <;> omega) (by decide)), (fun _ h => nomatch h)⟩)
  · refine (List.forall_mem_cons.mpr ⟨?_, (fun _ h => nomatch h)⟩)
    · intro bc bs ls st M h
      replace h := xz_some h
      obtain ⟨rfl, rfl, h⟩ := h
      replace h := lR_some h
      obtain ⟨o, e0, h⟩ := h
      replace h := bd_some h
      obtain ⟨s', rfl, h⟩ := h
      replace h := lI_some h
      obtain ⟨x1', e1, h⟩ := h
      replace h := lI_some h
      obtain ⟨x2', e2, h⟩ := h
      replace h := lI_some h
      obtain ⟨x3', e3, h⟩ := h
      replace h := xe_some h
      obtain ⟨rfl, h⟩ := h
      exact xWx_ls (wx_X12_journalOf_9 X hi hroom hE fu fu s' x1' x2' x3' M h) (List.forall_mem_cons.mpr ⟨e0, (List.forall_mem_cons.mpr ⟨e1, (List.forall_mem_cons.mpr ⟨e2, (List.forall_mem_cons.mpr ⟨e3, (fun _ h => nomatch h)⟩)⟩)⟩)⟩)

theorem ok_X12_journalOf (l : Launch) (D : va_G) (cA : Nat → ClassId) (sA : Nat → Nat) (fu : Nat) (s : Nat) (x1 : Int32) (M : xM) {rr : Int32 × xM} (h : F_X12_journalOf fu s x1 M = some rr) : xMet l D cA sA yX12_journalOf cX12_journalOf 4 (some .int) xG (4 + 1) 0 0 [.inr (.inr (12, some s)), .inl x1] M (some (.inl rr.1)) rr.2 :=
  xmet_of (by decide +kernel) (Nat.le_of_ble_eq_true rfl) (fun p e s1 m ag below meth c0 A0 ad0 Z X hn hE => wx_X12_journalOf X hn ⟨Nat.le_refl _, Nat.le_refl _⟩ hE fu s x1 M h)
theorem hw_X12_journalOf (l : Launch) (D : va_G) (cA : Nat → ClassId) (sA : Nat → Nat) (fu : Nat) {ρ : Type} {r0 : ρ} (kd1 : Nat) : ∀ (as : List xV) (M : xM) (k : Option xV → xM → Option ρ), w_X12_journalOf fu as M k = some r0 → ∃ v M', xMet l D cA sA yX12_journalOf cX12_journalOf 4 (some .int) xG (4 + 1) 0 0 as M v M' ∧ k v M' = some r0 ∧ (kd1 ≠ 2 → ∃ a as', as = .inr (.inr (12, some a)) :: as') := by
  intro as M k h
  unfold w_X12_journalOf at h
  replace h := pR_some h
  obtain ⟨o, as1, rfl, h⟩ := h
  replace h := bd_some h
  obtain ⟨s, rfl, h⟩ := h
  replace h := pI_some h
  obtain ⟨x1, as1, rfl, h⟩ := h
  replace h := xe_some h
  obtain ⟨rfl, h⟩ := h
  obtain ⟨p1, hp, h⟩ := Option.bind_eq_some_iff.mp h
  exact ⟨_, _, ok_X12_journalOf l D cA sA fu s x1 M hp, h, fun _ => ⟨_, _, rfl⟩⟩
theorem cd_X12_worked : Cond.code yX12_worked cX12_worked 3 (some .int) ∈ xG := (xg 1899 (by decide +kernel) (by decide +kernel))
theorem pr_X12_worked : (∀ e ∈ pX12_worked, xrow cX12_worked 3 kdX12 flX12 0 false RX12 e) ∧ xnext pX12_worked = true := xrows (by decide +kernel)
set_option maxRecDepth 100000 in
theorem wx_X12_worked (X : xCtx p R S0 m ag c0 D cA A0 sA 3 cX12_worked RX12 (.code yX12_worked cX12_worked 3 (some .int) :: xG) 0 0) (hi : meth.name = yX12_worked.name) (hroom : 0 + 2 ≤ R.frames ∧ 60 * (0 + 2) ≤ R.locals) {rr : Int32 × xM} (hE : xEnd l D cA sA cX12_worked 3 (some .int) R 0 0 (some (.inl rr.1)) rr.2 p e S0 m ag below meth c0 A0 M0 ad0 Z) (fu : Nat) (x0 : Int32) (x1 : Int32) (x2 : Int32) (M : xM) (h : F_X12_worked fu x0 x1 x2 M = some rr) : xWx p l e R S0 m ag below meth c0 D cA A0 sA M0 ad0 3 Z 0 0 0 0 0 [(0, .inl x0), (1, .inl x1), (2, .inl x2)] [] M := by
  rw [← q_X12_worked fu x0 x1 x2 M] at h
  have hT : ∀ w ∈ xG, w ∈ (Cond.code yX12_worked cX12_worked 3 (some .int) :: xG) := fun w hw => List.mem_cons_of_mem _ hw
  refine xrun_sound (nst := 0) (isInit := false) (kd := kdX12) X (xcls_mono hT xclsG) (xpool_mono hT plX12) (fun z => by cases z) (fun idx v hf => xkoE_mono hT (koX12_ok _ (xfind_mem hf))) (xents (ca := _) ?_) (endI hE).1 (endI hE).2 (xcuts (cu := _) ?_) pr_X12_worked.1 pr_X12_worked.2 _ _ _ _ _ _ _ _ (xat_ok pr_X12_worked.1 pr_X12_worked.2).1 (xat_ok pr_X12_worked.1 pr_X12_worked.2).2.1 (xat_ok pr_X12_worked.1 pr_X12_worked.2).2.2 h
  · exact (fun _ h => nomatch h)
  · exact (fun _ h => nomatch h)

theorem ok_X12_worked (l : Launch) (D : va_G) (cA : Nat → ClassId) (sA : Nat → Nat) (fu : Nat) (x0 : Int32) (x1 : Int32) (x2 : Int32) (M : xM) {rr : Int32 × xM} (h : F_X12_worked fu x0 x1 x2 M = some rr) : xMet l D cA sA yX12_worked cX12_worked 3 (some .int) xG (0 + 1) 0 0 [.inl x0, .inl x1, .inl x2] M (some (.inl rr.1)) rr.2 :=
  xmet_of (by decide +kernel) (Nat.le_of_ble_eq_true rfl) (fun p e s1 m ag below meth c0 A0 ad0 Z X hn hE => wx_X12_worked X hn ⟨Nat.le_refl _, Nat.le_refl _⟩ hE fu x0 x1 x2 M h)
theorem hw_X12_worked (l : Launch) (D : va_G) (cA : Nat → ClassId) (sA : Nat → Nat) (fu : Nat) {ρ : Type} {r0 : ρ} (kd1 : Nat) (hk2 : kd1 = 2) : ∀ (as : List xV) (M : xM) (k : Option xV → xM → Option ρ), w_X12_worked fu as M k = some r0 → ∃ v M', xMet l D cA sA yX12_worked cX12_worked 3 (some .int) xG (0 + 1) 0 0 as M v M' ∧ k v M' = some r0 ∧ (kd1 ≠ 2 → ∃ a as', as = .inr (.inr (12, some a)) :: as') := by
  intro as M k h
  unfold w_X12_worked at h
  replace h := pI_some h
  obtain ⟨x0, as1, rfl, h⟩ := h
  replace h := pI_some h
  obtain ⟨x1, as1, rfl, h⟩ := h
  replace h := pI_some h
  obtain ⟨x2, as1, rfl, h⟩ := h
  replace h := xe_some h
  obtain ⟨rfl, h⟩ := h
  obtain ⟨p1, hp, h⟩ := Option.bind_eq_some_iff.mp h
  exact ⟨_, _, ok_X12_worked l D cA sA fu x0 x1 x2 M hp, h, fun z => absurd hk2 z⟩
theorem lk_X12_242 : xLink xG RX12 242 2 yX12_worked 3 := ⟨(xg 1897 (by decide +kernel) (by decide +kernel)), (xg 1898 (by decide +kernel) (by decide +kernel)), (xg 141 (by decide +kernel) (by decide +kernel))⟩
theorem cd_X12_worthAt : Cond.code yX12_worthAt cX12_worthAt 5 (some .int) ∈ xG := (xg 1896 (by decide +kernel) (by decide +kernel))
theorem pr_X12_worthAt : (∀ e ∈ pX12_worthAt, xrow cX12_worthAt 5 kdX12 flX12 0 false RX12 e) ∧ xnext pX12_worthAt = true := xrows (by decide +kernel)
set_option maxRecDepth 100000 in
theorem wx_X12_worthAt_39 (X : xCtx p R S0 m ag c0 D cA A0 sA 5 cX12_worthAt RX12 (.code yX12_worthAt cX12_worthAt 5 (some .int) :: xG) 0 0) (hi : meth.name = yX12_worthAt.name) (hroom : 1 + 2 ≤ R.frames ∧ 60 * (1 + 2) ≤ R.locals) {rr : Int32 × xM} (hE : xEnd l D cA sA cX12_worthAt 5 (some .int) R 0 0 (some (.inl rr.1)) rr.2 p e S0 m ag below meth c0 A0 M0 ad0 Z) (fu : Nat) (k4 : Nat → Int32 → Int32 → xM → Option (Int32 × xM)) (hk4 : ∀ (s : Nat) (x2 : Int32) (x3 : Int32) (M : xM), k4 s x2 x3 M = some rr → xWx p l e R S0 m ag below meth c0 D cA A0 sA M0 ad0 5 Z 0 0 4 0 0 [(0, .inr (.inr (12, some s))), (2, .inl x2), (3, .inl x3)] [] M) (s : Nat) (x2 : Int32) (x3 : Int32) (x4 : Int32) (M : xM) (h : J_X12_worthAt_39 fu k4 s x2 x3 x4 M = some rr) : xWx p l e R S0 m ag below meth c0 D cA A0 sA M0 ad0 5 Z 0 0 39 0 0 [(0, .inr (.inr (12, some s))), (2, .inl x2), (3, .inl x3), (4, .inl x4)] [] M := by
  rw [← q_X12_worthAt_39 fu k4 s x2 x3 x4 M] at h
  have hT : ∀ w ∈ xG, w ∈ (Cond.code yX12_worthAt cX12_worthAt 5 (some .int) :: xG) := fun w hw => List.mem_cons_of_mem _ hw
  refine xrun_sound (nst := 0) (isInit := false) (kd := kdX12) X (xcls_mono hT xclsG) (xpool_mono hT plX12) (fun z => by cases z) (fun idx v hf => xkoE_mono hT (koX12_ok _ (xfind_mem hf))) (xents (ca := _) ?_) (endI hE).1 (endI hE).2 (xcuts (cu := _) ?_) pr_X12_worthAt.1 pr_X12_worthAt.2 _ _ _ _ _ _ _ _ (xat_ok pr_X12_worthAt.1 pr_X12_worthAt.2).1 (xat_ok pr_X12_worthAt.1 pr_X12_worthAt.2).2.1 (xat_ok pr_X12_worthAt.1 pr_X12_worthAt.2).2.2 h
  · exact (fun _ h => nomatch h)
  · refine (List.forall_mem_cons.mpr ⟨?_, (fun _ h => nomatch h)⟩)
    · intro bc bs ls st M h
      replace h := xz_some h
      obtain ⟨rfl, rfl, h⟩ := h
      replace h := lR_some h
      obtain ⟨o, e0, h⟩ := h
      replace h := bd_some h
      obtain ⟨s', rfl, h⟩ := h
      replace h := lI_some h
      obtain ⟨x2', e2, h⟩ := h
      replace h := lI_some h
      obtain ⟨x3', e3, h⟩ := h
      replace h := xe_some h
      obtain ⟨rfl, h⟩ := h
      exact xWx_ls (hk4 s' x2' x3' M h) (List.forall_mem_cons.mpr ⟨e0, (List.forall_mem_cons.mpr ⟨e2, (List.forall_mem_cons.mpr ⟨e3, (fun _ h => nomatch h)⟩)⟩)⟩)

set_option maxRecDepth 100000 in
theorem wx_X12_worthAt_4 (X : xCtx p R S0 m ag c0 D cA A0 sA 5 cX12_worthAt RX12 (.code yX12_worthAt cX12_worthAt 5 (some .int) :: xG) 0 0) (hi : meth.name = yX12_worthAt.name) (hroom : 1 + 2 ≤ R.frames ∧ 60 * (1 + 2) ≤ R.locals) {rr : Int32 × xM} (hE : xEnd l D cA sA cX12_worthAt 5 (some .int) R 0 0 (some (.inl rr.1)) rr.2 p e S0 m ag below meth c0 A0 M0 ad0 Z) (fu : Nat) : ∀ (n : Nat) (s : Nat) (x2 : Int32) (x3 : Int32) (M : xM), L_X12_worthAt_4 fu n s x2 x3 M = some rr → xWx p l e R S0 m ag below meth c0 D cA A0 sA M0 ad0 5 Z 0 0 4 0 0 [(0, .inr (.inr (12, some s))), (2, .inl x2), (3, .inl x3)] [] M := by
  intro n
  induction n with
  | zero => intro s x2 x3 M h; cases h
  | succ n ih =>
    intro s x2 x3 M h
    rw [← q_X12_worthAt_4 fu n s x2 x3 M] at h
    have hT : ∀ w ∈ xG, w ∈ (Cond.code yX12_worthAt cX12_worthAt 5 (some .int) :: xG) := fun w hw => List.mem_cons_of_mem _ hw
    refine xrun_sound (nst := 0) (isInit := false) (kd := kdX12) X (xcls_mono hT xclsG) (xpool_mono hT plX12) (fun z => by cases z) (fun idx v hf => xkoE_mono hT (koX12_ok _ (xfind_mem hf))) (xents (ca := _) ?_) (endI hE).1 (endI hE).2 (xcuts (cu := _) ?_) pr_X12_worthAt.1 pr_X12_worthAt.2 _ _ _ _ _ _ _ _ (xat_ok pr_X12_worthAt.1 pr_X12_worthAt.2).1 (xat_ok pr_X12_worthAt.1 pr_X12_worthAt.2).2.1 (xat_ok pr_X12_worthAt.1 pr_X12_worthAt.2).2.2 h
    · exact (List.forall_mem_cons.mpr ⟨(xent_met X (ci := 12) hT cd_X12_worked lk_X12_242 rfl (by decide) rfl (by decide +kernel) (fun z => absurd z (by decide)) (hw_X12_worked l D cA sA fu 2 rfl) (fun z => absurd rfl z) (by constructor <;> omega) (by decide)), (fun _ h => nomatch h)⟩)
    · refine (List.forall_mem_cons.mpr ⟨?_, (List.forall_mem_cons.mpr ⟨?_, (fun _ h => nomatch h)⟩)⟩)
      · intro bc bs ls st M h
        replace h := xz_some h
        obtain ⟨rfl, rfl, h⟩ := h
        replace h := lR_some h
        obtain ⟨o, e0, h⟩ := h
        replace h := bd_some h
        obtain ⟨s', rfl, h⟩ := h
        replace h := lI_some h
        obtain ⟨x2', e2, h⟩ := h
        replace h := lI_some h
        obtain ⟨x3', e3, h⟩ := h
        replace h := xe_some h
        obtain ⟨rfl, h⟩ := h
        exact xWx_ls (ih s' x2' x3' M h) (List.forall_mem_cons.mpr ⟨e0, (List.forall_mem_cons.mpr ⟨e2, (List.forall_mem_cons.mpr ⟨e3, (fun _ h => nomatch h)⟩)⟩)⟩)
      · intro bc bs ls st M h
        replace h := xz_some h
        obtain ⟨rfl, rfl, h⟩ := h
        replace h := lR_some h
        obtain ⟨o, e0, h⟩ := h
        replace h := bd_some h
        obtain ⟨s', rfl, h⟩ := h
        replace h := lI_some h
        obtain ⟨x2', e2, h⟩ := h
        replace h := lI_some h
        obtain ⟨x3', e3, h⟩ := h
        replace h := lI_some h
        obtain ⟨x4', e4, h⟩ := h
        replace h := xe_some h
        obtain ⟨rfl, h⟩ := h
        exact xWx_ls (wx_X12_worthAt_39 X hi hroom hE fu _ ih s' x2' x3' x4' M h) (List.forall_mem_cons.mpr ⟨e0, (List.forall_mem_cons.mpr ⟨e2, (List.forall_mem_cons.mpr ⟨e3, (List.forall_mem_cons.mpr ⟨e4, (fun _ h => nomatch h)⟩)⟩)⟩)⟩)

set_option maxRecDepth 100000 in
theorem wx_X12_worthAt (X : xCtx p R S0 m ag c0 D cA A0 sA 5 cX12_worthAt RX12 (.code yX12_worthAt cX12_worthAt 5 (some .int) :: xG) 0 0) (hi : meth.name = yX12_worthAt.name) (hroom : 1 + 2 ≤ R.frames ∧ 60 * (1 + 2) ≤ R.locals) {rr : Int32 × xM} (hE : xEnd l D cA sA cX12_worthAt 5 (some .int) R 0 0 (some (.inl rr.1)) rr.2 p e S0 m ag below meth c0 A0 M0 ad0 Z) (fu : Nat) (s : Nat) (x1 : Int32) (M : xM) (h : F_X12_worthAt fu s x1 M = some rr) : xWx p l e R S0 m ag below meth c0 D cA A0 sA M0 ad0 5 Z 0 0 0 0 0 [(0, .inr (.inr (12, some s))), (1, .inl x1)] [] M := by
  rw [← q_X12_worthAt fu s x1 M] at h
  have hT : ∀ w ∈ xG, w ∈ (Cond.code yX12_worthAt cX12_worthAt 5 (some .int) :: xG) := fun w hw => List.mem_cons_of_mem _ hw
  refine xrun_sound (nst := 0) (isInit := false) (kd := kdX12) X (xcls_mono hT xclsG) (xpool_mono hT plX12) (fun z => by cases z) (fun idx v hf => xkoE_mono hT (koX12_ok _ (xfind_mem hf))) (xents (ca := _) ?_) (endI hE).1 (endI hE).2 (xcuts (cu := _) ?_) pr_X12_worthAt.1 pr_X12_worthAt.2 _ _ _ _ _ _ _ _ (xat_ok pr_X12_worthAt.1 pr_X12_worthAt.2).1 (xat_ok pr_X12_worthAt.1 pr_X12_worthAt.2).2.1 (xat_ok pr_X12_worthAt.1 pr_X12_worthAt.2).2.2 h
  · exact (fun _ h => nomatch h)
  · refine (List.forall_mem_cons.mpr ⟨?_, (fun _ h => nomatch h)⟩)
    · intro bc bs ls st M h
      replace h := xz_some h
      obtain ⟨rfl, rfl, h⟩ := h
      replace h := lR_some h
      obtain ⟨o, e0, h⟩ := h
      replace h := bd_some h
      obtain ⟨s', rfl, h⟩ := h
      replace h := lI_some h
      obtain ⟨x2', e2, h⟩ := h
      replace h := lI_some h
      obtain ⟨x3', e3, h⟩ := h
      replace h := xe_some h
      obtain ⟨rfl, h⟩ := h
      exact xWx_ls (wx_X12_worthAt_4 X hi hroom hE fu fu s' x2' x3' M h) (List.forall_mem_cons.mpr ⟨e0, (List.forall_mem_cons.mpr ⟨e2, (List.forall_mem_cons.mpr ⟨e3, (fun _ h => nomatch h)⟩)⟩)⟩)

theorem ok_X12_worthAt (l : Launch) (D : va_G) (cA : Nat → ClassId) (sA : Nat → Nat) (fu : Nat) (s : Nat) (x1 : Int32) (M : xM) {rr : Int32 × xM} (h : F_X12_worthAt fu s x1 M = some rr) : xMet l D cA sA yX12_worthAt cX12_worthAt 5 (some .int) xG (1 + 1) 0 0 [.inr (.inr (12, some s)), .inl x1] M (some (.inl rr.1)) rr.2 :=
  xmet_of (by decide +kernel) (Nat.le_of_ble_eq_true rfl) (fun p e s1 m ag below meth c0 A0 ad0 Z X hn hE => wx_X12_worthAt X hn ⟨Nat.le_refl _, Nat.le_refl _⟩ hE fu s x1 M h)
theorem hw_X12_worthAt (l : Launch) (D : va_G) (cA : Nat → ClassId) (sA : Nat → Nat) (fu : Nat) {ρ : Type} {r0 : ρ} (kd1 : Nat) : ∀ (as : List xV) (M : xM) (k : Option xV → xM → Option ρ), w_X12_worthAt fu as M k = some r0 → ∃ v M', xMet l D cA sA yX12_worthAt cX12_worthAt 5 (some .int) xG (1 + 1) 0 0 as M v M' ∧ k v M' = some r0 ∧ (kd1 ≠ 2 → ∃ a as', as = .inr (.inr (12, some a)) :: as') := by
  intro as M k h
  unfold w_X12_worthAt at h
  replace h := pR_some h
  obtain ⟨o, as1, rfl, h⟩ := h
  replace h := bd_some h
  obtain ⟨s, rfl, h⟩ := h
  replace h := pI_some h
  obtain ⟨x1, as1, rfl, h⟩ := h
  replace h := xe_some h
  obtain ⟨rfl, h⟩ := h
  obtain ⟨p1, hp, h⟩ := Option.bind_eq_some_iff.mp h
  exact ⟨_, _, ok_X12_worthAt l D cA sA fu s x1 M hp, h, fun _ => ⟨_, _, rfl⟩⟩
theorem lk_X12_326 : xLink xG RX12 326 0 yX12_erased 1 := ⟨Or.inl (xg 1881 (by decide +kernel) (by decide +kernel)), (xg 1883 (by decide +kernel) (by decide +kernel)), (xg 91 (by decide +kernel) (by decide +kernel)), (xg 141 (by decide +kernel) (by decide +kernel)), ⟨12, by decide, TX12, 29, rfl⟩⟩
theorem lk_X12_329 : xLink xG RX12 329 0 yX12_tally 4 := ⟨Or.inl (xg 1829 (by decide +kernel) (by decide +kernel)), (xg 1831 (by decide +kernel) (by decide +kernel)), (xg 80 (by decide +kernel) (by decide +kernel)), (xg 141 (by decide +kernel) (by decide +kernel)), ⟨12, by decide, TX12, 29, rfl⟩⟩
theorem cd_X12_pickOf : Cond.code yX12_pickOf cX12_pickOf 7 (some .int) ∈ xG := (xg 1907 (by decide +kernel) (by decide +kernel))
theorem pr_X12_pickOf : (∀ e ∈ pX12_pickOf, xrow cX12_pickOf 7 kdX12 flX12 0 false RX12 e) ∧ xnext pX12_pickOf = true := xrows (by decide +kernel)
set_option maxRecDepth 100000 in
theorem wx_X12_pickOf_184 (X : xCtx p R S0 m ag c0 D cA A0 sA 7 cX12_pickOf RX12 (.code yX12_pickOf cX12_pickOf 7 (some .int) :: xG) 0 0) (hi : meth.name = yX12_pickOf.name) (hroom : 6 + 2 ≤ R.frames ∧ 60 * (6 + 2) ≤ R.locals) {rr : Int32 × xM} (hE : xEnd l D cA sA cX12_pickOf 7 (some .int) R 0 0 (some (.inl rr.1)) rr.2 p e S0 m ag below meth c0 A0 M0 ad0 Z) (fu : Nat) (x2 : Int32) (y0 : Int32) (M : xM) (h : J_X12_pickOf_184 fu x2 y0 M = some rr) : xWx p l e R S0 m ag below meth c0 D cA A0 sA M0 ad0 7 Z 0 0 184 0 0 [(2, .inl x2)] [.inl y0] M := by
  rw [← q_X12_pickOf_184 fu x2 y0 M] at h
  have hT : ∀ w ∈ xG, w ∈ (Cond.code yX12_pickOf cX12_pickOf 7 (some .int) :: xG) := fun w hw => List.mem_cons_of_mem _ hw
  refine xrun_sound (nst := 0) (isInit := false) (kd := kdX12) X (xcls_mono hT xclsG) (xpool_mono hT plX12) (fun z => by cases z) (fun idx v hf => xkoE_mono hT (koX12_ok _ (xfind_mem hf))) (xents (ca := _) ?_) (endI hE).1 (endI hE).2 (xcuts (cu := _) ?_) pr_X12_pickOf.1 pr_X12_pickOf.2 _ _ _ _ _ _ _ _ (xat_ok pr_X12_pickOf.1 pr_X12_pickOf.2).1 (xat_ok pr_X12_pickOf.1 pr_X12_pickOf.2).2.1 (xat_ok pr_X12_pickOf.1 pr_X12_pickOf.2).2.2 h
  · exact (fun _ h => nomatch h)
  · exact (fun _ h => nomatch h)

set_option maxRecDepth 100000 in
theorem wx_X12_pickOf_113 (X : xCtx p R S0 m ag c0 D cA A0 sA 7 cX12_pickOf RX12 (.code yX12_pickOf cX12_pickOf 7 (some .int) :: xG) 0 0) (hi : meth.name = yX12_pickOf.name) (hroom : 6 + 2 ≤ R.frames ∧ 60 * (6 + 2) ≤ R.locals) {rr : Int32 × xM} (hE : xEnd l D cA sA cX12_pickOf 7 (some .int) R 0 0 (some (.inl rr.1)) rr.2 p e S0 m ag below meth c0 A0 M0 ad0 Z) (fu : Nat) (k7 : Nat → Int32 → Int32 → Int32 → Int32 → xM → Option (Int32 × xM)) (hk7 : ∀ (s : Nat) (x1 : Int32) (x2 : Int32) (x3 : Int32) (x4 : Int32) (M : xM), k7 s x1 x2 x3 x4 M = some rr → xWx p l e R S0 m ag below meth c0 D cA A0 sA M0 ad0 7 Z 0 0 7 0 0 [(0, .inr (.inr (12, some s))), (1, .inl x1), (2, .inl x2), (3, .inl x3), (4, .inl x4)] [] M) (s : Nat) (x1 : Int32) (x3 : Int32) (x4 : Int32) (x5 : Int32) (x6 : Int32) (y0 : Int32) (M : xM) (h : J_X12_pickOf_113 fu k7 s x1 x3 x4 x5 x6 y0 M = some rr) : xWx p l e R S0 m ag below meth c0 D cA A0 sA M0 ad0 7 Z 0 0 113 0 0 [(0, .inr (.inr (12, some s))), (1, .inl x1), (3, .inl x3), (4, .inl x4), (5, .inl x5), (6, .inl x6)] [.inl y0] M := by
  rw [← q_X12_pickOf_113 fu k7 s x1 x3 x4 x5 x6 y0 M] at h
  have hT : ∀ w ∈ xG, w ∈ (Cond.code yX12_pickOf cX12_pickOf 7 (some .int) :: xG) := fun w hw => List.mem_cons_of_mem _ hw
  refine xrun_sound (nst := 0) (isInit := false) (kd := kdX12) X (xcls_mono hT xclsG) (xpool_mono hT plX12) (fun z => by cases z) (fun idx v hf => xkoE_mono hT (koX12_ok _ (xfind_mem hf))) (xents (ca := _) ?_) (endI hE).1 (endI hE).2 (xcuts (cu := _) ?_) pr_X12_pickOf.1 pr_X12_pickOf.2 _ _ _ _ _ _ _ _ (xat_ok pr_X12_pickOf.1 pr_X12_pickOf.2).1 (xat_ok pr_X12_pickOf.1 pr_X12_pickOf.2).2.1 (xat_ok pr_X12_pickOf.1 pr_X12_pickOf.2).2.2 h
  · exact (fun _ h => nomatch h)
  · refine (List.forall_mem_cons.mpr ⟨?_, (fun _ h => nomatch h)⟩)
    · intro bc bs ls st M h
      replace h := xz_some h
      obtain ⟨rfl, rfl, h⟩ := h
      replace h := lR_some h
      obtain ⟨o, e0, h⟩ := h
      replace h := bd_some h
      obtain ⟨s', rfl, h⟩ := h
      replace h := lI_some h
      obtain ⟨x1', e1, h⟩ := h
      replace h := lI_some h
      obtain ⟨x2', e2, h⟩ := h
      replace h := lI_some h
      obtain ⟨x3', e3, h⟩ := h
      replace h := lI_some h
      obtain ⟨x4', e4, h⟩ := h
      replace h := xe_some h
      obtain ⟨rfl, h⟩ := h
      exact xWx_ls (hk7 s' x1' x2' x3' x4' M h) (List.forall_mem_cons.mpr ⟨e0, (List.forall_mem_cons.mpr ⟨e1, (List.forall_mem_cons.mpr ⟨e2, (List.forall_mem_cons.mpr ⟨e3, (List.forall_mem_cons.mpr ⟨e4, (fun _ h => nomatch h)⟩)⟩)⟩)⟩)⟩)

set_option maxRecDepth 100000 in
theorem wx_X12_pickOf_100 (X : xCtx p R S0 m ag c0 D cA A0 sA 7 cX12_pickOf RX12 (.code yX12_pickOf cX12_pickOf 7 (some .int) :: xG) 0 0) (hi : meth.name = yX12_pickOf.name) (hroom : 6 + 2 ≤ R.frames ∧ 60 * (6 + 2) ≤ R.locals) {rr : Int32 × xM} (hE : xEnd l D cA sA cX12_pickOf 7 (some .int) R 0 0 (some (.inl rr.1)) rr.2 p e S0 m ag below meth c0 A0 M0 ad0 Z) (fu : Nat) (k7 : Nat → Int32 → Int32 → Int32 → Int32 → xM → Option (Int32 × xM)) (hk7 : ∀ (s : Nat) (x1 : Int32) (x2 : Int32) (x3 : Int32) (x4 : Int32) (M : xM), k7 s x1 x2 x3 x4 M = some rr → xWx p l e R S0 m ag below meth c0 D cA A0 sA M0 ad0 7 Z 0 0 7 0 0 [(0, .inr (.inr (12, some s))), (1, .inl x1), (2, .inl x2), (3, .inl x3), (4, .inl x4)] [] M) (s : Nat) (x1 : Int32) (x2 : Int32) (x3 : Int32) (x4 : Int32) (x5 : Int32) (y0 : Int32) (M : xM) (h : J_X12_pickOf_100 fu k7 s x1 x2 x3 x4 x5 y0 M = some rr) : xWx p l e R S0 m ag below meth c0 D cA A0 sA M0 ad0 7 Z 0 0 100 0 0 [(0, .inr (.inr (12, some s))), (1, .inl x1), (2, .inl x2), (3, .inl x3), (4, .inl x4), (5, .inl x5)] [.inl y0] M := by
  rw [← q_X12_pickOf_100 fu k7 s x1 x2 x3 x4 x5 y0 M] at h
  have hT : ∀ w ∈ xG, w ∈ (Cond.code yX12_pickOf cX12_pickOf 7 (some .int) :: xG) := fun w hw => List.mem_cons_of_mem _ hw
  refine xrun_sound (nst := 0) (isInit := false) (kd := kdX12) X (xcls_mono hT xclsG) (xpool_mono hT plX12) (fun z => by cases z) (fun idx v hf => xkoE_mono hT (koX12_ok _ (xfind_mem hf))) (xents (ca := _) ?_) (endI hE).1 (endI hE).2 (xcuts (cu := _) ?_) pr_X12_pickOf.1 pr_X12_pickOf.2 _ _ _ _ _ _ _ _ (xat_ok pr_X12_pickOf.1 pr_X12_pickOf.2).1 (xat_ok pr_X12_pickOf.1 pr_X12_pickOf.2).2.1 (xat_ok pr_X12_pickOf.1 pr_X12_pickOf.2).2.2 h
  · exact (fun _ h => nomatch h)
  · refine (List.forall_mem_cons.mpr ⟨?_, (fun _ h => nomatch h)⟩)
    · intro bc bs ls st M h
      replace h := xz_some h
      obtain ⟨rfl, rfl, h⟩ := h
      replace h := lR_some h
      obtain ⟨o, e0, h⟩ := h
      replace h := bd_some h
      obtain ⟨s', rfl, h⟩ := h
      replace h := lI_some h
      obtain ⟨x1', e1, h⟩ := h
      replace h := lI_some h
      obtain ⟨x3', e3, h⟩ := h
      replace h := lI_some h
      obtain ⟨x4', e4, h⟩ := h
      replace h := lI_some h
      obtain ⟨x5', e5, h⟩ := h
      replace h := lI_some h
      obtain ⟨x6', e6, h⟩ := h
      replace h := pI_some h
      obtain ⟨y0', st, rfl, h⟩ := h
      replace h := xe_some h
      obtain ⟨rfl, h⟩ := h
      exact xWx_ls (wx_X12_pickOf_113 X hi hroom hE fu k7 hk7 s' x1' x3' x4' x5' x6' y0' M h) (List.forall_mem_cons.mpr ⟨e0, (List.forall_mem_cons.mpr ⟨e1, (List.forall_mem_cons.mpr ⟨e3, (List.forall_mem_cons.mpr ⟨e4, (List.forall_mem_cons.mpr ⟨e5, (List.forall_mem_cons.mpr ⟨e6, (fun _ h => nomatch h)⟩)⟩)⟩)⟩)⟩)⟩)

set_option maxRecDepth 100000 in
theorem wx_X12_pickOf_50 (X : xCtx p R S0 m ag c0 D cA A0 sA 7 cX12_pickOf RX12 (.code yX12_pickOf cX12_pickOf 7 (some .int) :: xG) 0 0) (hi : meth.name = yX12_pickOf.name) (hroom : 6 + 2 ≤ R.frames ∧ 60 * (6 + 2) ≤ R.locals) {rr : Int32 × xM} (hE : xEnd l D cA sA cX12_pickOf 7 (some .int) R 0 0 (some (.inl rr.1)) rr.2 p e S0 m ag below meth c0 A0 M0 ad0 Z) (fu : Nat) (k7 : Nat → Int32 → Int32 → Int32 → Int32 → xM → Option (Int32 × xM)) (hk7 : ∀ (s : Nat) (x1 : Int32) (x2 : Int32) (x3 : Int32) (x4 : Int32) (M : xM), k7 s x1 x2 x3 x4 M = some rr → xWx p l e R S0 m ag below meth c0 D cA A0 sA M0 ad0 7 Z 0 0 7 0 0 [(0, .inr (.inr (12, some s))), (1, .inl x1), (2, .inl x2), (3, .inl x3), (4, .inl x4)] [] M) (s : Nat) (x1 : Int32) (x2 : Int32) (x3 : Int32) (x4 : Int32) (y0 : Int32) (M : xM) (h : J_X12_pickOf_50 fu k7 s x1 x2 x3 x4 y0 M = some rr) : xWx p l e R S0 m ag below meth c0 D cA A0 sA M0 ad0 7 Z 0 0 50 0 0 [(0, .inr (.inr (12, some s))), (1, .inl x1), (2, .inl x2), (3, .inl x3), (4, .inl x4)] [.inl y0] M := by
  rw [← q_X12_pickOf_50 fu k7 s x1 x2 x3 x4 y0 M] at h
  have hT : ∀ w ∈ xG, w ∈ (Cond.code yX12_pickOf cX12_pickOf 7 (some .int) :: xG) := fun w hw => List.mem_cons_of_mem _ hw
  refine xrun_sound (nst := 0) (isInit := false) (kd := kdX12) X (xcls_mono hT xclsG) (xpool_mono hT plX12) (fun z => by cases z) (fun idx v hf => xkoE_mono hT (koX12_ok _ (xfind_mem hf))) (xents (ca := _) ?_) (endI hE).1 (endI hE).2 (xcuts (cu := _) ?_) pr_X12_pickOf.1 pr_X12_pickOf.2 _ _ _ _ _ _ _ _ (xat_ok pr_X12_pickOf.1 pr_X12_pickOf.2).1 (xat_ok pr_X12_pickOf.1 pr_X12_pickOf.2).2.1 (xat_ok pr_X12_pickOf.1 pr_X12_pickOf.2).2.2 h
  · exact (fun _ h => nomatch h)
  · refine (List.forall_mem_cons.mpr ⟨?_, (fun _ h => nomatch h)⟩)
    · intro bc bs ls st M h
      replace h := xz_some h
      obtain ⟨rfl, rfl, h⟩ := h
      replace h := lR_some h
      obtain ⟨o, e0, h⟩ := h
      replace h := bd_some h
      obtain ⟨s', rfl, h⟩ := h
      replace h := lI_some h
      obtain ⟨x1', e1, h⟩ := h
      replace h := lI_some h
      obtain ⟨x2', e2, h⟩ := h
      replace h := lI_some h
      obtain ⟨x3', e3, h⟩ := h
      replace h := lI_some h
      obtain ⟨x4', e4, h⟩ := h
      replace h := lI_some h
      obtain ⟨x5', e5, h⟩ := h
      replace h := pI_some h
      obtain ⟨y0', st, rfl, h⟩ := h
      replace h := xe_some h
      obtain ⟨rfl, h⟩ := h
      exact xWx_ls (wx_X12_pickOf_100 X hi hroom hE fu k7 hk7 s' x1' x2' x3' x4' x5' y0' M h) (List.forall_mem_cons.mpr ⟨e0, (List.forall_mem_cons.mpr ⟨e1, (List.forall_mem_cons.mpr ⟨e2, (List.forall_mem_cons.mpr ⟨e3, (List.forall_mem_cons.mpr ⟨e4, (List.forall_mem_cons.mpr ⟨e5, (fun _ h => nomatch h)⟩)⟩)⟩)⟩)⟩)⟩)

set_option maxRecDepth 100000 in
theorem wx_X12_pickOf_7 (X : xCtx p R S0 m ag c0 D cA A0 sA 7 cX12_pickOf RX12 (.code yX12_pickOf cX12_pickOf 7 (some .int) :: xG) 0 0) (hi : meth.name = yX12_pickOf.name) (hroom : 6 + 2 ≤ R.frames ∧ 60 * (6 + 2) ≤ R.locals) {rr : Int32 × xM} (hE : xEnd l D cA sA cX12_pickOf 7 (some .int) R 0 0 (some (.inl rr.1)) rr.2 p e S0 m ag below meth c0 A0 M0 ad0 Z) (fu : Nat) : ∀ (n : Nat) (s : Nat) (x1 : Int32) (x2 : Int32) (x3 : Int32) (x4 : Int32) (M : xM), L_X12_pickOf_7 fu n s x1 x2 x3 x4 M = some rr → xWx p l e R S0 m ag below meth c0 D cA A0 sA M0 ad0 7 Z 0 0 7 0 0 [(0, .inr (.inr (12, some s))), (1, .inl x1), (2, .inl x2), (3, .inl x3), (4, .inl x4)] [] M := by
  intro n
  induction n with
  | zero => intro s x1 x2 x3 x4 M h; cases h
  | succ n ih =>
    intro s x1 x2 x3 x4 M h
    rw [← q_X12_pickOf_7 fu n s x1 x2 x3 x4 M] at h
    have hT : ∀ w ∈ xG, w ∈ (Cond.code yX12_pickOf cX12_pickOf 7 (some .int) :: xG) := fun w hw => List.mem_cons_of_mem _ hw
    refine xrun_sound (nst := 0) (isInit := false) (kd := kdX12) X (xcls_mono hT xclsG) (xpool_mono hT plX12) (fun z => by cases z) (fun idx v hf => xkoE_mono hT (koX12_ok _ (xfind_mem hf))) (xents (ca := _) ?_) (endI hE).1 (endI hE).2 (xcuts (cu := _) ?_) pr_X12_pickOf.1 pr_X12_pickOf.2 _ _ _ _ _ _ _ _ (xat_ok pr_X12_pickOf.1 pr_X12_pickOf.2).1 (xat_ok pr_X12_pickOf.1 pr_X12_pickOf.2).2.1 (xat_ok pr_X12_pickOf.1 pr_X12_pickOf.2).2.2 h
    · exact (List.forall_mem_cons.mpr ⟨(xent_met X (ci := 12) hT cd_X12_blocks lk_X12_252 rfl (by decide) rfl (by decide +kernel) (fun z => absurd z (by decide)) (hw_X12_blocks l D cA sA fu 0) (fun _ => ⟨by decide, fun _ => ⟨TX12, 29, rfl⟩⟩) (by constructor <;> omega) (by decide)), (List.forall_mem_cons.mpr ⟨(xent_met X (ci := 12) hT cd_X12_wide lk_X12_255 rfl (by decide) rfl (by decide +kernel) (fun z => absurd z (by decide)) (hw_X12_wide l D cA sA fu 0) (fun _ => ⟨by decide, fun _ => ⟨TX12, 29, rfl⟩⟩) (by constructor <;> omega) (by decide)), (List.forall_mem_cons.mpr ⟨(xent_met X (ci := 12) hT cd_X12_erasedIn lk_X12_311 rfl (by decide) rfl (by decide +kernel) (fun z => absurd z (by decide)) (hw_X12_erasedIn l D cA sA fu 0) (fun _ => ⟨by decide, fun _ => ⟨TX12, 29, rfl⟩⟩) (by constructor <;> omega) (by decide)), (List.forall_mem_cons.mpr ⟨(xent_met X (ci := 12) hT cd_X12_erased lk_X12_326 rfl (by decide) rfl (by decide +kernel) (fun z => absurd z (by decide)) (hw_X12_erased l D cA sA fu 0) (fun _ => ⟨by decide, fun _ => ⟨TX12, 29, rfl⟩⟩) (by constructor <;> omega) (by decide)), (List.forall_mem_cons.mpr ⟨(xent_met X (ci := 12) hT cd_X12_tally lk_X12_329 rfl (by decide) rfl (by decide +kernel) (fun z => absurd z (by decide)) (hw_X12_tally l D cA sA fu 0) (fun _ => ⟨by decide, fun _ => ⟨TX12, 29, rfl⟩⟩) (by constructor <;> omega) (by decide)), (fun _ h => nomatch h)⟩)⟩)⟩)⟩)⟩)
    · refine (List.forall_mem_cons.mpr ⟨?_, (List.forall_mem_cons.mpr ⟨?_, (fun _ h => nomatch h)⟩)⟩)
      · intro bc bs ls st M h
        replace h := xz_some h
        obtain ⟨rfl, rfl, h⟩ := h
        replace h := lR_some h
        obtain ⟨o, e0, h⟩ := h
        replace h := bd_some h
        obtain ⟨s', rfl, h⟩ := h
        replace h := lI_some h
        obtain ⟨x1', e1, h⟩ := h
        replace h := lI_some h
        obtain ⟨x2', e2, h⟩ := h
        replace h := lI_some h
        obtain ⟨x3', e3, h⟩ := h
        replace h := lI_some h
        obtain ⟨x4', e4, h⟩ := h
        replace h := pI_some h
        obtain ⟨y0', st, rfl, h⟩ := h
        replace h := xe_some h
        obtain ⟨rfl, h⟩ := h
        exact xWx_ls (wx_X12_pickOf_50 X hi hroom hE fu _ ih s' x1' x2' x3' x4' y0' M h) (List.forall_mem_cons.mpr ⟨e0, (List.forall_mem_cons.mpr ⟨e1, (List.forall_mem_cons.mpr ⟨e2, (List.forall_mem_cons.mpr ⟨e3, (List.forall_mem_cons.mpr ⟨e4, (fun _ h => nomatch h)⟩)⟩)⟩)⟩)⟩)
      · intro bc bs ls st M h
        replace h := xz_some h
        obtain ⟨rfl, rfl, h⟩ := h
        replace h := lI_some h
        obtain ⟨x2', e2, h⟩ := h
        replace h := pI_some h
        obtain ⟨y0', st, rfl, h⟩ := h
        replace h := xe_some h
        obtain ⟨rfl, h⟩ := h
        exact xWx_ls (wx_X12_pickOf_184 X hi hroom hE fu x2' y0' M h) (List.forall_mem_cons.mpr ⟨e2, (fun _ h => nomatch h)⟩)

set_option maxRecDepth 100000 in
theorem wx_X12_pickOf (X : xCtx p R S0 m ag c0 D cA A0 sA 7 cX12_pickOf RX12 (.code yX12_pickOf cX12_pickOf 7 (some .int) :: xG) 0 0) (hi : meth.name = yX12_pickOf.name) (hroom : 6 + 2 ≤ R.frames ∧ 60 * (6 + 2) ≤ R.locals) {rr : Int32 × xM} (hE : xEnd l D cA sA cX12_pickOf 7 (some .int) R 0 0 (some (.inl rr.1)) rr.2 p e S0 m ag below meth c0 A0 M0 ad0 Z) (fu : Nat) (s : Nat) (x1 : Int32) (M : xM) (h : F_X12_pickOf fu s x1 M = some rr) : xWx p l e R S0 m ag below meth c0 D cA A0 sA M0 ad0 7 Z 0 0 0 0 0 [(0, .inr (.inr (12, some s))), (1, .inl x1)] [] M := by
  rw [← q_X12_pickOf fu s x1 M] at h
  have hT : ∀ w ∈ xG, w ∈ (Cond.code yX12_pickOf cX12_pickOf 7 (some .int) :: xG) := fun w hw => List.mem_cons_of_mem _ hw
  refine xrun_sound (nst := 0) (isInit := false) (kd := kdX12) X (xcls_mono hT xclsG) (xpool_mono hT plX12) (fun z => by cases z) (fun idx v hf => xkoE_mono hT (koX12_ok _ (xfind_mem hf))) (xents (ca := _) ?_) (endI hE).1 (endI hE).2 (xcuts (cu := _) ?_) pr_X12_pickOf.1 pr_X12_pickOf.2 _ _ _ _ _ _ _ _ (xat_ok pr_X12_pickOf.1 pr_X12_pickOf.2).1 (xat_ok pr_X12_pickOf.1 pr_X12_pickOf.2).2.1 (xat_ok pr_X12_pickOf.1 pr_X12_pickOf.2).2.2 h
  · exact (fun _ h => nomatch h)
  · refine (List.forall_mem_cons.mpr ⟨?_, (fun _ h => nomatch h)⟩)
    · intro bc bs ls st M h
      replace h := xz_some h
      obtain ⟨rfl, rfl, h⟩ := h
      replace h := lR_some h
      obtain ⟨o, e0, h⟩ := h
      replace h := bd_some h
      obtain ⟨s', rfl, h⟩ := h
      replace h := lI_some h
      obtain ⟨x1', e1, h⟩ := h
      replace h := lI_some h
      obtain ⟨x2', e2, h⟩ := h
      replace h := lI_some h
      obtain ⟨x3', e3, h⟩ := h
      replace h := lI_some h
      obtain ⟨x4', e4, h⟩ := h
      replace h := xe_some h
      obtain ⟨rfl, h⟩ := h
      exact xWx_ls (wx_X12_pickOf_7 X hi hroom hE fu fu s' x1' x2' x3' x4' M h) (List.forall_mem_cons.mpr ⟨e0, (List.forall_mem_cons.mpr ⟨e1, (List.forall_mem_cons.mpr ⟨e2, (List.forall_mem_cons.mpr ⟨e3, (List.forall_mem_cons.mpr ⟨e4, (fun _ h => nomatch h)⟩)⟩)⟩)⟩)⟩)

theorem ok_X12_pickOf (l : Launch) (D : va_G) (cA : Nat → ClassId) (sA : Nat → Nat) (fu : Nat) (s : Nat) (x1 : Int32) (M : xM) {rr : Int32 × xM} (h : F_X12_pickOf fu s x1 M = some rr) : xMet l D cA sA yX12_pickOf cX12_pickOf 7 (some .int) xG (6 + 1) 0 0 [.inr (.inr (12, some s)), .inl x1] M (some (.inl rr.1)) rr.2 :=
  xmet_of (by decide +kernel) (Nat.le_of_ble_eq_true rfl) (fun p e s1 m ag below meth c0 A0 ad0 Z X hn hE => wx_X12_pickOf X hn ⟨Nat.le_refl _, Nat.le_refl _⟩ hE fu s x1 M h)
theorem hw_X12_pickOf (l : Launch) (D : va_G) (cA : Nat → ClassId) (sA : Nat → Nat) (fu : Nat) {ρ : Type} {r0 : ρ} (kd1 : Nat) : ∀ (as : List xV) (M : xM) (k : Option xV → xM → Option ρ), w_X12_pickOf fu as M k = some r0 → ∃ v M', xMet l D cA sA yX12_pickOf cX12_pickOf 7 (some .int) xG (6 + 1) 0 0 as M v M' ∧ k v M' = some r0 ∧ (kd1 ≠ 2 → ∃ a as', as = .inr (.inr (12, some a)) :: as') := by
  intro as M k h
  unfold w_X12_pickOf at h
  replace h := pR_some h
  obtain ⟨o, as1, rfl, h⟩ := h
  replace h := bd_some h
  obtain ⟨s, rfl, h⟩ := h
  replace h := pI_some h
  obtain ⟨x1, as1, rfl, h⟩ := h
  replace h := xe_some h
  obtain ⟨rfl, h⟩ := h
  obtain ⟨p1, hp, h⟩ := Option.bind_eq_some_iff.mp h
  exact ⟨_, _, ok_X12_pickOf l D cA sA fu s x1 M hp, h, fun _ => ⟨_, _, rfl⟩⟩
theorem cd_X12_freshBlock : Cond.code yX12_freshBlock cX12_freshBlock 5 (some .int) ∈ xG := (xg 1915 (by decide +kernel) (by decide +kernel))
theorem pr_X12_freshBlock : (∀ e ∈ pX12_freshBlock, xrow cX12_freshBlock 5 kdX12 flX12 0 false RX12 e) ∧ xnext pX12_freshBlock = true := xrows (by decide +kernel)
set_option maxRecDepth 100000 in
theorem wx_X12_freshBlock_59 (X : xCtx p R S0 m ag c0 D cA A0 sA 5 cX12_freshBlock RX12 (.code yX12_freshBlock cX12_freshBlock 5 (some .int) :: xG) 0 0) (hi : meth.name = yX12_freshBlock.name) (hroom : 3 + 2 ≤ R.frames ∧ 60 * (3 + 2) ≤ R.locals) {rr : Int32 × xM} (hE : xEnd l D cA sA cX12_freshBlock 5 (some .int) R 0 0 (some (.inl rr.1)) rr.2 p e S0 m ag below meth c0 A0 M0 ad0 Z) (fu : Nat) (k4 : Nat → Int32 → Int32 → Int32 → xM → Option (Int32 × xM)) (hk4 : ∀ (s : Nat) (x1 : Int32) (x2 : Int32) (x3 : Int32) (M : xM), k4 s x1 x2 x3 M = some rr → xWx p l e R S0 m ag below meth c0 D cA A0 sA M0 ad0 5 Z 0 0 4 0 0 [(0, .inr (.inr (12, some s))), (1, .inl x1), (2, .inl x2), (3, .inl x3)] [] M) (s : Nat) (x1 : Int32) (x2 : Int32) (x3 : Int32) (y0 : Int32) (M : xM) (h : J_X12_freshBlock_59 fu k4 s x1 x2 x3 y0 M = some rr) : xWx p l e R S0 m ag below meth c0 D cA A0 sA M0 ad0 5 Z 0 0 59 0 0 [(0, .inr (.inr (12, some s))), (1, .inl x1), (2, .inl x2), (3, .inl x3)] [.inl y0] M := by
  rw [← q_X12_freshBlock_59 fu k4 s x1 x2 x3 y0 M] at h
  have hT : ∀ w ∈ xG, w ∈ (Cond.code yX12_freshBlock cX12_freshBlock 5 (some .int) :: xG) := fun w hw => List.mem_cons_of_mem _ hw
  refine xrun_sound (nst := 0) (isInit := false) (kd := kdX12) X (xcls_mono hT xclsG) (xpool_mono hT plX12) (fun z => by cases z) (fun idx v hf => xkoE_mono hT (koX12_ok _ (xfind_mem hf))) (xents (ca := _) ?_) (endI hE).1 (endI hE).2 (xcuts (cu := _) ?_) pr_X12_freshBlock.1 pr_X12_freshBlock.2 _ _ _ _ _ _ _ _ (xat_ok pr_X12_freshBlock.1 pr_X12_freshBlock.2).1 (xat_ok pr_X12_freshBlock.1 pr_X12_freshBlock.2).2.1 (xat_ok pr_X12_freshBlock.1 pr_X12_freshBlock.2).2.2 h
  · exact (fun _ h => nomatch h)
  · refine (List.forall_mem_cons.mpr ⟨?_, (fun _ h => nomatch h)⟩)
    · intro bc bs ls st M h
      replace h := xz_some h
      obtain ⟨rfl, rfl, h⟩ := h
      replace h := lR_some h
      obtain ⟨o, e0, h⟩ := h
      replace h := bd_some h
      obtain ⟨s', rfl, h⟩ := h
      replace h := lI_some h
      obtain ⟨x1', e1, h⟩ := h
      replace h := lI_some h
      obtain ⟨x2', e2, h⟩ := h
      replace h := lI_some h
      obtain ⟨x3', e3, h⟩ := h
      replace h := xe_some h
      obtain ⟨rfl, h⟩ := h
      exact xWx_ls (hk4 s' x1' x2' x3' M h) (List.forall_mem_cons.mpr ⟨e0, (List.forall_mem_cons.mpr ⟨e1, (List.forall_mem_cons.mpr ⟨e2, (List.forall_mem_cons.mpr ⟨e3, (fun _ h => nomatch h)⟩)⟩)⟩)⟩)

set_option maxRecDepth 100000 in
theorem wx_X12_freshBlock_4 (X : xCtx p R S0 m ag c0 D cA A0 sA 5 cX12_freshBlock RX12 (.code yX12_freshBlock cX12_freshBlock 5 (some .int) :: xG) 0 0) (hi : meth.name = yX12_freshBlock.name) (hroom : 3 + 2 ≤ R.frames ∧ 60 * (3 + 2) ≤ R.locals) {rr : Int32 × xM} (hE : xEnd l D cA sA cX12_freshBlock 5 (some .int) R 0 0 (some (.inl rr.1)) rr.2 p e S0 m ag below meth c0 A0 M0 ad0 Z) (fu : Nat) : ∀ (n : Nat) (s : Nat) (x1 : Int32) (x2 : Int32) (x3 : Int32) (M : xM), L_X12_freshBlock_4 fu n s x1 x2 x3 M = some rr → xWx p l e R S0 m ag below meth c0 D cA A0 sA M0 ad0 5 Z 0 0 4 0 0 [(0, .inr (.inr (12, some s))), (1, .inl x1), (2, .inl x2), (3, .inl x3)] [] M := by
  intro n
  induction n with
  | zero => intro s x1 x2 x3 M h; cases h
  | succ n ih =>
    intro s x1 x2 x3 M h
    rw [← q_X12_freshBlock_4 fu n s x1 x2 x3 M] at h
    have hT : ∀ w ∈ xG, w ∈ (Cond.code yX12_freshBlock cX12_freshBlock 5 (some .int) :: xG) := fun w hw => List.mem_cons_of_mem _ hw
    refine xrun_sound (nst := 0) (isInit := false) (kd := kdX12) X (xcls_mono hT xclsG) (xpool_mono hT plX12) (fun z => by cases z) (fun idx v hf => xkoE_mono hT (koX12_ok _ (xfind_mem hf))) (xents (ca := _) ?_) (endI hE).1 (endI hE).2 (xcuts (cu := _) ?_) pr_X12_freshBlock.1 pr_X12_freshBlock.2 _ _ _ _ _ _ _ _ (xat_ok pr_X12_freshBlock.1 pr_X12_freshBlock.2).1 (xat_ok pr_X12_freshBlock.1 pr_X12_freshBlock.2).2.1 (xat_ok pr_X12_freshBlock.1 pr_X12_freshBlock.2).2.2 h
    · exact (List.forall_mem_cons.mpr ⟨(xent_met X (ci := 12) hT cd_X12_blocks lk_X12_252 rfl (by decide) rfl (by decide +kernel) (fun z => absurd z (by decide)) (hw_X12_blocks l D cA sA fu 0) (fun _ => ⟨by decide, fun _ => ⟨TX12, 29, rfl⟩⟩) (by constructor <;> omega) (by decide)), (List.forall_mem_cons.mpr ⟨(xent_met X (ci := 12) hT cd_X12_wide lk_X12_255 rfl (by decide) rfl (by decide +kernel) (fun z => absurd z (by decide)) (hw_X12_wide l D cA sA fu 0) (fun _ => ⟨by decide, fun _ => ⟨TX12, 29, rfl⟩⟩) (by constructor <;> omega) (by decide)), (List.forall_mem_cons.mpr ⟨(xent_met X (ci := 12) hT cd_X12_erasedIn lk_X12_311 rfl (by decide) rfl (by decide +kernel) (fun z => absurd z (by decide)) (hw_X12_erasedIn l D cA sA fu 0) (fun _ => ⟨by decide, fun _ => ⟨TX12, 29, rfl⟩⟩) (by constructor <;> omega) (by decide)), (fun _ h => nomatch h)⟩)⟩)⟩)
    · refine (List.forall_mem_cons.mpr ⟨?_, (fun _ h => nomatch h)⟩)
      · intro bc bs ls st M h
        replace h := xz_some h
        obtain ⟨rfl, rfl, h⟩ := h
        replace h := lR_some h
        obtain ⟨o, e0, h⟩ := h
        replace h := bd_some h
        obtain ⟨s', rfl, h⟩ := h
        replace h := lI_some h
        obtain ⟨x1', e1, h⟩ := h
        replace h := lI_some h
        obtain ⟨x2', e2, h⟩ := h
        replace h := lI_some h
        obtain ⟨x3', e3, h⟩ := h
        replace h := pI_some h
        obtain ⟨y0', st, rfl, h⟩ := h
        replace h := xe_some h
        obtain ⟨rfl, h⟩ := h
        exact xWx_ls (wx_X12_freshBlock_59 X hi hroom hE fu _ ih s' x1' x2' x3' y0' M h) (List.forall_mem_cons.mpr ⟨e0, (List.forall_mem_cons.mpr ⟨e1, (List.forall_mem_cons.mpr ⟨e2, (List.forall_mem_cons.mpr ⟨e3, (fun _ h => nomatch h)⟩)⟩)⟩)⟩)

set_option maxRecDepth 100000 in
theorem wx_X12_freshBlock (X : xCtx p R S0 m ag c0 D cA A0 sA 5 cX12_freshBlock RX12 (.code yX12_freshBlock cX12_freshBlock 5 (some .int) :: xG) 0 0) (hi : meth.name = yX12_freshBlock.name) (hroom : 3 + 2 ≤ R.frames ∧ 60 * (3 + 2) ≤ R.locals) {rr : Int32 × xM} (hE : xEnd l D cA sA cX12_freshBlock 5 (some .int) R 0 0 (some (.inl rr.1)) rr.2 p e S0 m ag below meth c0 A0 M0 ad0 Z) (fu : Nat) (s : Nat) (x1 : Int32) (M : xM) (h : F_X12_freshBlock fu s x1 M = some rr) : xWx p l e R S0 m ag below meth c0 D cA A0 sA M0 ad0 5 Z 0 0 0 0 0 [(0, .inr (.inr (12, some s))), (1, .inl x1)] [] M := by
  rw [← q_X12_freshBlock fu s x1 M] at h
  have hT : ∀ w ∈ xG, w ∈ (Cond.code yX12_freshBlock cX12_freshBlock 5 (some .int) :: xG) := fun w hw => List.mem_cons_of_mem _ hw
  refine xrun_sound (nst := 0) (isInit := false) (kd := kdX12) X (xcls_mono hT xclsG) (xpool_mono hT plX12) (fun z => by cases z) (fun idx v hf => xkoE_mono hT (koX12_ok _ (xfind_mem hf))) (xents (ca := _) ?_) (endI hE).1 (endI hE).2 (xcuts (cu := _) ?_) pr_X12_freshBlock.1 pr_X12_freshBlock.2 _ _ _ _ _ _ _ _ (xat_ok pr_X12_freshBlock.1 pr_X12_freshBlock.2).1 (xat_ok pr_X12_freshBlock.1 pr_X12_freshBlock.2).2.1 (xat_ok pr_X12_freshBlock.1 pr_X12_freshBlock.2).2.2 h
  · exact (fun _ h => nomatch h)
  · refine (List.forall_mem_cons.mpr ⟨?_, (fun _ h => nomatch h)⟩)
    · intro bc bs ls st M h
      replace h := xz_some h
      obtain ⟨rfl, rfl, h⟩ := h
      replace h := lR_some h
      obtain ⟨o, e0, h⟩ := h
      replace h := bd_some h
      obtain ⟨s', rfl, h⟩ := h
      replace h := lI_some h
      obtain ⟨x1', e1, h⟩ := h
      replace h := lI_some h
      obtain ⟨x2', e2, h⟩ := h
      replace h := lI_some h
      obtain ⟨x3', e3, h⟩ := h
      replace h := xe_some h
      obtain ⟨rfl, h⟩ := h
      exact xWx_ls (wx_X12_freshBlock_4 X hi hroom hE fu fu s' x1' x2' x3' M h) (List.forall_mem_cons.mpr ⟨e0, (List.forall_mem_cons.mpr ⟨e1, (List.forall_mem_cons.mpr ⟨e2, (List.forall_mem_cons.mpr ⟨e3, (fun _ h => nomatch h)⟩)⟩)⟩)⟩)

theorem ok_X12_freshBlock (l : Launch) (D : va_G) (cA : Nat → ClassId) (sA : Nat → Nat) (fu : Nat) (s : Nat) (x1 : Int32) (M : xM) {rr : Int32 × xM} (h : F_X12_freshBlock fu s x1 M = some rr) : xMet l D cA sA yX12_freshBlock cX12_freshBlock 5 (some .int) xG (3 + 1) 0 0 [.inr (.inr (12, some s)), .inl x1] M (some (.inl rr.1)) rr.2 :=
  xmet_of (by decide +kernel) (Nat.le_of_ble_eq_true rfl) (fun p e s1 m ag below meth c0 A0 ad0 Z X hn hE => wx_X12_freshBlock X hn ⟨Nat.le_refl _, Nat.le_refl _⟩ hE fu s x1 M h)
theorem hw_X12_freshBlock (l : Launch) (D : va_G) (cA : Nat → ClassId) (sA : Nat → Nat) (fu : Nat) {ρ : Type} {r0 : ρ} (kd1 : Nat) : ∀ (as : List xV) (M : xM) (k : Option xV → xM → Option ρ), w_X12_freshBlock fu as M k = some r0 → ∃ v M', xMet l D cA sA yX12_freshBlock cX12_freshBlock 5 (some .int) xG (3 + 1) 0 0 as M v M' ∧ k v M' = some r0 ∧ (kd1 ≠ 2 → ∃ a as', as = .inr (.inr (12, some a)) :: as') := by
  intro as M k h
  unfold w_X12_freshBlock at h
  replace h := pR_some h
  obtain ⟨o, as1, rfl, h⟩ := h
  replace h := bd_some h
  obtain ⟨s, rfl, h⟩ := h
  replace h := pI_some h
  obtain ⟨x1, as1, rfl, h⟩ := h
  replace h := xe_some h
  obtain ⟨rfl, h⟩ := h
  obtain ⟨p1, hp, h⟩ := Option.bind_eq_some_iff.mp h
  exact ⟨_, _, ok_X12_freshBlock l D cA sA fu s x1 M hp, h, fun _ => ⟨_, _, rfl⟩⟩
theorem lk_X12_314 : xLink xG RX12 314 0 yX12_freshBlock 1 := ⟨Or.inl (xg 1912 (by decide +kernel) (by decide +kernel)), (xg 1914 (by decide +kernel) (by decide +kernel)), (xg 98 (by decide +kernel) (by decide +kernel)), (xg 141 (by decide +kernel) (by decide +kernel)), ⟨12, by decide, TX12, 29, rfl⟩⟩
theorem cd_X12_puts : Cond.code yX12_puts cX12_puts 6 (some .boolean) ∈ xG := (xg 1911 (by decide +kernel) (by decide +kernel))
theorem pr_X12_puts : (∀ e ∈ pX12_puts, xrow cX12_puts 6 kdX12 flX12 0 false RX12 e) ∧ xnext pX12_puts = true := xrows (by decide +kernel)
set_option maxRecDepth 100000 in
theorem wx_X12_puts_186 (X : xCtx p R S0 m ag c0 D cA A0 sA 6 cX12_puts RX12 (.code yX12_puts cX12_puts 6 (some .boolean) :: xG) 0 0) (hi : meth.name = yX12_puts.name) (hroom : 4 + 2 ≤ R.frames ∧ 60 * (4 + 2) ≤ R.locals) {rr : Int32 × xM} (hE : xEnd l D cA sA cX12_puts 6 (some .boolean) R 0 0 (some (.inl rr.1)) rr.2 p e S0 m ag below meth c0 A0 M0 ad0 Z) (fu : Nat) (x4 : Int32) (M : xM) (h : J_X12_puts_186 fu x4 M = some rr) : xWx p l e R S0 m ag below meth c0 D cA A0 sA M0 ad0 6 Z 0 0 186 0 0 [(4, .inl x4)] [] M := by
  rw [← q_X12_puts_186 fu x4 M] at h
  have hT : ∀ w ∈ xG, w ∈ (Cond.code yX12_puts cX12_puts 6 (some .boolean) :: xG) := fun w hw => List.mem_cons_of_mem _ hw
  refine xrun_sound (nst := 0) (isInit := false) (kd := kdX12) X (xcls_mono hT xclsG) (xpool_mono hT plX12) (fun z => by cases z) (fun idx v hf => xkoE_mono hT (koX12_ok _ (xfind_mem hf))) (xents (ca := _) ?_) (endZ hE).1 (endZ hE).2 (xcuts (cu := _) ?_) pr_X12_puts.1 pr_X12_puts.2 _ _ _ _ _ _ _ _ (xat_ok pr_X12_puts.1 pr_X12_puts.2).1 (xat_ok pr_X12_puts.1 pr_X12_puts.2).2.1 (xat_ok pr_X12_puts.1 pr_X12_puts.2).2.2 h
  · exact (fun _ h => nomatch h)
  · exact (fun _ h => nomatch h)

set_option maxRecDepth 100000 in
theorem wx_X12_puts_163 (X : xCtx p R S0 m ag c0 D cA A0 sA 6 cX12_puts RX12 (.code yX12_puts cX12_puts 6 (some .boolean) :: xG) 0 0) (hi : meth.name = yX12_puts.name) (hroom : 4 + 2 ≤ R.frames ∧ 60 * (4 + 2) ≤ R.locals) {rr : Int32 × xM} (hE : xEnd l D cA sA cX12_puts 6 (some .boolean) R 0 0 (some (.inl rr.1)) rr.2 p e S0 m ag below meth c0 A0 M0 ad0 Z) (fu : Nat) (s : Nat) (x1 : Int32) (x3 : Int32) (x4 : Int32) (y0 : Int32) (y1 : Int32) (y2 : Int32) (y3 : Option Nat) (M : xM) (h : J_X12_puts_163 fu s x1 x3 x4 y0 y1 y2 y3 M = some rr) : xWx p l e R S0 m ag below meth c0 D cA A0 sA M0 ad0 6 Z 0 0 163 0 0 [(0, .inr (.inr (12, some s))), (1, .inl x1), (3, .inl x3), (4, .inl x4)] [.inl y0, .inl y1, .inl y2, .inr (.inr (20, y3))] M := by
  rw [← q_X12_puts_163 fu s x1 x3 x4 y0 y1 y2 y3 M] at h
  have hT : ∀ w ∈ xG, w ∈ (Cond.code yX12_puts cX12_puts 6 (some .boolean) :: xG) := fun w hw => List.mem_cons_of_mem _ hw
  refine xrun_sound (nst := 0) (isInit := false) (kd := kdX12) X (xcls_mono hT xclsG) (xpool_mono hT plX12) (fun z => by cases z) (fun idx v hf => xkoE_mono hT (koX12_ok _ (xfind_mem hf))) (xents (ca := _) ?_) (endZ hE).1 (endZ hE).2 (xcuts (cu := _) ?_) pr_X12_puts.1 pr_X12_puts.2 _ _ _ _ _ _ _ _ (xat_ok pr_X12_puts.1 pr_X12_puts.2).1 (xat_ok pr_X12_puts.1 pr_X12_puts.2).2.1 (xat_ok pr_X12_puts.1 pr_X12_puts.2).2.2 h
  · exact (List.forall_mem_cons.mpr ⟨(xent_met X (ci := 12) hT cd_X12_slotAt lk_X12_264 rfl (by decide) rfl (by decide +kernel) (fun z => absurd z (by decide)) (hw_X12_slotAt l D cA sA fu 2 rfl) (fun z => absurd rfl z) (by constructor <;> omega) (by decide)), (List.forall_mem_cons.mpr ⟨(xent_met X (ci := 12) hT cd_X12_powersOff lk_X12_317 rfl (by decide) rfl (by decide +kernel) (fun z => absurd z (by decide)) (hw_X12_powersOff l D cA sA fu 0) (fun _ => ⟨by decide, fun _ => ⟨TX12, 29, rfl⟩⟩) (by constructor <;> omega) (by decide)), (fun _ h => nomatch h)⟩)⟩)
  · refine (List.forall_mem_cons.mpr ⟨?_, (fun _ h => nomatch h)⟩)
    · intro bc bs ls st M h
      replace h := xz_some h
      obtain ⟨rfl, rfl, h⟩ := h
      replace h := lI_some h
      obtain ⟨x4', e4, h⟩ := h
      replace h := xe_some h
      obtain ⟨rfl, h⟩ := h
      exact xWx_ls (wx_X12_puts_186 X hi hroom hE fu x4' M h) (List.forall_mem_cons.mpr ⟨e4, (fun _ h => nomatch h)⟩)

set_option maxRecDepth 100000 in
theorem wx_X12_puts_83 (X : xCtx p R S0 m ag c0 D cA A0 sA 6 cX12_puts RX12 (.code yX12_puts cX12_puts 6 (some .boolean) :: xG) 0 0) (hi : meth.name = yX12_puts.name) (hroom : 4 + 2 ≤ R.frames ∧ 60 * (4 + 2) ≤ R.locals) {rr : Int32 × xM} (hE : xEnd l D cA sA cX12_puts 6 (some .boolean) R 0 0 (some (.inl rr.1)) rr.2 p e S0 m ag below meth c0 A0 M0 ad0 Z) (fu : Nat) : ∀ (n : Nat) (s : Nat) (x1 : Int32) (x3 : Int32) (x4 : Int32) (x5 : Int32) (M : xM), L_X12_puts_83 fu n s x1 x3 x4 x5 M = some rr → xWx p l e R S0 m ag below meth c0 D cA A0 sA M0 ad0 6 Z 0 0 83 0 0 [(0, .inr (.inr (12, some s))), (1, .inl x1), (3, .inl x3), (4, .inl x4), (5, .inl x5)] [] M := by
  intro n
  induction n with
  | zero => intro s x1 x3 x4 x5 M h; cases h
  | succ n ih =>
    intro s x1 x3 x4 x5 M h
    rw [← q_X12_puts_83 fu n s x1 x3 x4 x5 M] at h
    have hT : ∀ w ∈ xG, w ∈ (Cond.code yX12_puts cX12_puts 6 (some .boolean) :: xG) := fun w hw => List.mem_cons_of_mem _ hw
    refine xrun_sound (nst := 0) (isInit := false) (kd := kdX12) X (xcls_mono hT xclsG) (xpool_mono hT plX12) (fun z => by cases z) (fun idx v hf => xkoE_mono hT (koX12_ok _ (xfind_mem hf))) (xents (ca := _) ?_) (endZ hE).1 (endZ hE).2 (xcuts (cu := _) ?_) pr_X12_puts.1 pr_X12_puts.2 _ _ _ _ _ _ _ _ (xat_ok pr_X12_puts.1 pr_X12_puts.2).1 (xat_ok pr_X12_puts.1 pr_X12_puts.2).2.1 (xat_ok pr_X12_puts.1 pr_X12_puts.2).2.2 h
    · exact (List.forall_mem_cons.mpr ⟨(xent_met X (ci := 12) hT cd_X12_slotAt lk_X12_264 rfl (by decide) rfl (by decide +kernel) (fun z => absurd z (by decide)) (hw_X12_slotAt l D cA sA fu 2 rfl) (fun z => absurd rfl z) (by constructor <;> omega) (by decide)), (fun _ h => nomatch h)⟩)
    · refine (List.forall_mem_cons.mpr ⟨?_, (List.forall_mem_cons.mpr ⟨?_, (fun _ h => nomatch h)⟩)⟩)
      · intro bc bs ls st M h
        replace h := xz_some h
        obtain ⟨rfl, rfl, h⟩ := h
        replace h := lR_some h
        obtain ⟨o, e0, h⟩ := h
        replace h := bd_some h
        obtain ⟨s', rfl, h⟩ := h
        replace h := lI_some h
        obtain ⟨x1', e1, h⟩ := h
        replace h := lI_some h
        obtain ⟨x3', e3, h⟩ := h
        replace h := lI_some h
        obtain ⟨x4', e4, h⟩ := h
        replace h := lI_some h
        obtain ⟨x5', e5, h⟩ := h
        replace h := xe_some h
        obtain ⟨rfl, h⟩ := h
        exact xWx_ls (ih s' x1' x3' x4' x5' M h) (List.forall_mem_cons.mpr ⟨e0, (List.forall_mem_cons.mpr ⟨e1, (List.forall_mem_cons.mpr ⟨e3, (List.forall_mem_cons.mpr ⟨e4, (List.forall_mem_cons.mpr ⟨e5, (fun _ h => nomatch h)⟩)⟩)⟩)⟩)⟩)
      · intro bc bs ls st M h
        replace h := xz_some h
        obtain ⟨rfl, rfl, h⟩ := h
        replace h := lR_some h
        obtain ⟨o, e0, h⟩ := h
        replace h := bd_some h
        obtain ⟨s', rfl, h⟩ := h
        replace h := lI_some h
        obtain ⟨x1', e1, h⟩ := h
        replace h := lI_some h
        obtain ⟨x3', e3, h⟩ := h
        replace h := lI_some h
        obtain ⟨x4', e4, h⟩ := h
        replace h := pI_some h
        obtain ⟨y0', st, rfl, h⟩ := h
        replace h := pI_some h
        obtain ⟨y1', st, rfl, h⟩ := h
        replace h := pI_some h
        obtain ⟨y2', st, rfl, h⟩ := h
        replace h := pR_some h
        obtain ⟨y3', st, rfl, h⟩ := h
        replace h := xe_some h
        obtain ⟨rfl, h⟩ := h
        exact xWx_ls (wx_X12_puts_163 X hi hroom hE fu s' x1' x3' x4' y0' y1' y2' y3' M h) (List.forall_mem_cons.mpr ⟨e0, (List.forall_mem_cons.mpr ⟨e1, (List.forall_mem_cons.mpr ⟨e3, (List.forall_mem_cons.mpr ⟨e4, (fun _ h => nomatch h)⟩)⟩)⟩)⟩)

set_option maxRecDepth 100000 in
theorem wx_X12_puts_37 (X : xCtx p R S0 m ag c0 D cA A0 sA 6 cX12_puts RX12 (.code yX12_puts cX12_puts 6 (some .boolean) :: xG) 0 0) (hi : meth.name = yX12_puts.name) (hroom : 4 + 2 ≤ R.frames ∧ 60 * (4 + 2) ≤ R.locals) {rr : Int32 × xM} (hE : xEnd l D cA sA cX12_puts 6 (some .boolean) R 0 0 (some (.inl rr.1)) rr.2 p e S0 m ag below meth c0 A0 M0 ad0 Z) (fu : Nat) (s : Nat) (x1 : Int32) (x2 : Int32) (M : xM) (h : J_X12_puts_37 fu s x1 x2 M = some rr) : xWx p l e R S0 m ag below meth c0 D cA A0 sA M0 ad0 6 Z 0 0 37 0 0 [(0, .inr (.inr (12, some s))), (1, .inl x1), (2, .inl x2)] [] M := by
  rw [← q_X12_puts_37 fu s x1 x2 M] at h
  have hT : ∀ w ∈ xG, w ∈ (Cond.code yX12_puts cX12_puts 6 (some .boolean) :: xG) := fun w hw => List.mem_cons_of_mem _ hw
  refine xrun_sound (nst := 0) (isInit := false) (kd := kdX12) X (xcls_mono hT xclsG) (xpool_mono hT plX12) (fun z => by cases z) (fun idx v hf => xkoE_mono hT (koX12_ok _ (xfind_mem hf))) (xents (ca := _) ?_) (endZ hE).1 (endZ hE).2 (xcuts (cu := _) ?_) pr_X12_puts.1 pr_X12_puts.2 _ _ _ _ _ _ _ _ (xat_ok pr_X12_puts.1 pr_X12_puts.2).1 (xat_ok pr_X12_puts.1 pr_X12_puts.2).2.1 (xat_ok pr_X12_puts.1 pr_X12_puts.2).2.2 h
  · exact (List.forall_mem_cons.mpr ⟨(xent_met X (ci := 12) hT cd_X12_wide lk_X12_255 rfl (by decide) rfl (by decide +kernel) (fun z => absurd z (by decide)) (hw_X12_wide l D cA sA fu 0) (fun _ => ⟨by decide, fun _ => ⟨TX12, 29, rfl⟩⟩) (by constructor <;> omega) (by decide)), (List.forall_mem_cons.mpr ⟨(xent_met X (ci := 12) hT cd_X12_erasedIn lk_X12_311 rfl (by decide) rfl (by decide +kernel) (fun z => absurd z (by decide)) (hw_X12_erasedIn l D cA sA fu 0) (fun _ => ⟨by decide, fun _ => ⟨TX12, 29, rfl⟩⟩) (by constructor <;> omega) (by decide)), (fun _ h => nomatch h)⟩)⟩)
  · refine (List.forall_mem_cons.mpr ⟨?_, (fun _ h => nomatch h)⟩)
    · intro bc bs ls st M h
      replace h := xz_some h
      obtain ⟨rfl, rfl, h⟩ := h
      replace h := lR_some h
      obtain ⟨o, e0, h⟩ := h
      replace h := bd_some h
      obtain ⟨s', rfl, h⟩ := h
      replace h := lI_some h
      obtain ⟨x1', e1, h⟩ := h
      replace h := lI_some h
      obtain ⟨x3', e3, h⟩ := h
      replace h := lI_some h
      obtain ⟨x4', e4, h⟩ := h
      replace h := lI_some h
      obtain ⟨x5', e5, h⟩ := h
      replace h := xe_some h
      obtain ⟨rfl, h⟩ := h
      exact xWx_ls (wx_X12_puts_83 X hi hroom hE fu fu s' x1' x3' x4' x5' M h) (List.forall_mem_cons.mpr ⟨e0, (List.forall_mem_cons.mpr ⟨e1, (List.forall_mem_cons.mpr ⟨e3, (List.forall_mem_cons.mpr ⟨e4, (List.forall_mem_cons.mpr ⟨e5, (fun _ h => nomatch h)⟩)⟩)⟩)⟩)⟩)

set_option maxRecDepth 100000 in
theorem wx_X12_puts_22 (X : xCtx p R S0 m ag c0 D cA A0 sA 6 cX12_puts RX12 (.code yX12_puts cX12_puts 6 (some .boolean) :: xG) 0 0) (hi : meth.name = yX12_puts.name) (hroom : 4 + 2 ≤ R.frames ∧ 60 * (4 + 2) ≤ R.locals) {rr : Int32 × xM} (hE : xEnd l D cA sA cX12_puts 6 (some .boolean) R 0 0 (some (.inl rr.1)) rr.2 p e S0 m ag below meth c0 A0 M0 ad0 Z) (fu : Nat) (s : Nat) (x1 : Int32) (M : xM) (h : J_X12_puts_22 fu s x1 M = some rr) : xWx p l e R S0 m ag below meth c0 D cA A0 sA M0 ad0 6 Z 0 0 22 0 0 [(0, .inr (.inr (12, some s))), (1, .inl x1)] [] M := by
  rw [← q_X12_puts_22 fu s x1 M] at h
  have hT : ∀ w ∈ xG, w ∈ (Cond.code yX12_puts cX12_puts 6 (some .boolean) :: xG) := fun w hw => List.mem_cons_of_mem _ hw
  refine xrun_sound (nst := 0) (isInit := false) (kd := kdX12) X (xcls_mono hT xclsG) (xpool_mono hT plX12) (fun z => by cases z) (fun idx v hf => xkoE_mono hT (koX12_ok _ (xfind_mem hf))) (xents (ca := _) ?_) (endZ hE).1 (endZ hE).2 (xcuts (cu := _) ?_) pr_X12_puts.1 pr_X12_puts.2 _ _ _ _ _ _ _ _ (xat_ok pr_X12_puts.1 pr_X12_puts.2).1 (xat_ok pr_X12_puts.1 pr_X12_puts.2).2.1 (xat_ok pr_X12_puts.1 pr_X12_puts.2).2.2 h
  · exact (List.forall_mem_cons.mpr ⟨(xent_met X (ci := 12) hT cd_X12_freshBlock lk_X12_314 rfl (by decide) rfl (by decide +kernel) (fun z => absurd z (by decide)) (hw_X12_freshBlock l D cA sA fu 0) (fun _ => ⟨by decide, fun _ => ⟨TX12, 29, rfl⟩⟩) (by constructor <;> omega) (by decide)), (fun _ h => nomatch h)⟩)
  · refine (List.forall_mem_cons.mpr ⟨?_, (fun _ h => nomatch h)⟩)
    · intro bc bs ls st M h
      replace h := xz_some h
      obtain ⟨rfl, rfl, h⟩ := h
      replace h := lR_some h
      obtain ⟨o, e0, h⟩ := h
      replace h := bd_some h
      obtain ⟨s', rfl, h⟩ := h
      replace h := lI_some h
      obtain ⟨x1', e1, h⟩ := h
      replace h := lI_some h
      obtain ⟨x2', e2, h⟩ := h
      replace h := xe_some h
      obtain ⟨rfl, h⟩ := h
      exact xWx_ls (wx_X12_puts_37 X hi hroom hE fu s' x1' x2' M h) (List.forall_mem_cons.mpr ⟨e0, (List.forall_mem_cons.mpr ⟨e1, (List.forall_mem_cons.mpr ⟨e2, (fun _ h => nomatch h)⟩)⟩)⟩)

set_option maxRecDepth 100000 in
theorem wx_X12_puts (X : xCtx p R S0 m ag c0 D cA A0 sA 6 cX12_puts RX12 (.code yX12_puts cX12_puts 6 (some .boolean) :: xG) 0 0) (hi : meth.name = yX12_puts.name) (hroom : 4 + 2 ≤ R.frames ∧ 60 * (4 + 2) ≤ R.locals) {rr : Int32 × xM} (hE : xEnd l D cA sA cX12_puts 6 (some .boolean) R 0 0 (some (.inl rr.1)) rr.2 p e S0 m ag below meth c0 A0 M0 ad0 Z) (fu : Nat) (s : Nat) (x1 : Int32) (M : xM) (h : F_X12_puts fu s x1 M = some rr) : xWx p l e R S0 m ag below meth c0 D cA A0 sA M0 ad0 6 Z 0 0 0 0 0 [(0, .inr (.inr (12, some s))), (1, .inl x1)] [] M := by
  rw [← q_X12_puts fu s x1 M] at h
  have hT : ∀ w ∈ xG, w ∈ (Cond.code yX12_puts cX12_puts 6 (some .boolean) :: xG) := fun w hw => List.mem_cons_of_mem _ hw
  refine xrun_sound (nst := 0) (isInit := false) (kd := kdX12) X (xcls_mono hT xclsG) (xpool_mono hT plX12) (fun z => by cases z) (fun idx v hf => xkoE_mono hT (koX12_ok _ (xfind_mem hf))) (xents (ca := _) ?_) (endZ hE).1 (endZ hE).2 (xcuts (cu := _) ?_) pr_X12_puts.1 pr_X12_puts.2 _ _ _ _ _ _ _ _ (xat_ok pr_X12_puts.1 pr_X12_puts.2).1 (xat_ok pr_X12_puts.1 pr_X12_puts.2).2.1 (xat_ok pr_X12_puts.1 pr_X12_puts.2).2.2 h
  · exact (List.forall_mem_cons.mpr ⟨(xent_met X (ci := 12) hT cd_X12_erasedIn lk_X12_311 rfl (by decide) rfl (by decide +kernel) (fun z => absurd z (by decide)) (hw_X12_erasedIn l D cA sA fu 0) (fun _ => ⟨by decide, fun _ => ⟨TX12, 29, rfl⟩⟩) (by constructor <;> omega) (by decide)), (fun _ h => nomatch h)⟩)
  · refine (List.forall_mem_cons.mpr ⟨?_, (List.forall_mem_cons.mpr ⟨?_, (fun _ h => nomatch h)⟩)⟩)
    · intro bc bs ls st M h
      replace h := xz_some h
      obtain ⟨rfl, rfl, h⟩ := h
      replace h := lR_some h
      obtain ⟨o, e0, h⟩ := h
      replace h := bd_some h
      obtain ⟨s', rfl, h⟩ := h
      replace h := lI_some h
      obtain ⟨x1', e1, h⟩ := h
      replace h := xe_some h
      obtain ⟨rfl, h⟩ := h
      exact xWx_ls (wx_X12_puts_22 X hi hroom hE fu s' x1' M h) (List.forall_mem_cons.mpr ⟨e0, (List.forall_mem_cons.mpr ⟨e1, (fun _ h => nomatch h)⟩)⟩)
    · intro bc bs ls st M h
      replace h := xz_some h
      obtain ⟨rfl, rfl, h⟩ := h
      replace h := lR_some h
      obtain ⟨o, e0, h⟩ := h
      replace h := bd_some h
      obtain ⟨s', rfl, h⟩ := h
      replace h := lI_some h
      obtain ⟨x1', e1, h⟩ := h
      replace h := lI_some h
      obtain ⟨x2', e2, h⟩ := h
      replace h := xe_some h
      obtain ⟨rfl, h⟩ := h
      exact xWx_ls (wx_X12_puts_37 X hi hroom hE fu s' x1' x2' M h) (List.forall_mem_cons.mpr ⟨e0, (List.forall_mem_cons.mpr ⟨e1, (List.forall_mem_cons.mpr ⟨e2, (fun _ h => nomatch h)⟩)⟩)⟩)

theorem ok_X12_puts (l : Launch) (D : va_G) (cA : Nat → ClassId) (sA : Nat → Nat) (fu : Nat) (s : Nat) (x1 : Int32) (M : xM) {rr : Int32 × xM} (h : F_X12_puts fu s x1 M = some rr) : xMet l D cA sA yX12_puts cX12_puts 6 (some .boolean) xG (4 + 1) 0 0 [.inr (.inr (12, some s)), .inl x1] M (some (.inl rr.1)) rr.2 :=
  xmet_of (by decide +kernel) (Nat.le_of_ble_eq_true rfl) (fun p e s1 m ag below meth c0 A0 ad0 Z X hn hE => wx_X12_puts X hn ⟨Nat.le_refl _, Nat.le_refl _⟩ hE fu s x1 M h)
theorem hw_X12_puts (l : Launch) (D : va_G) (cA : Nat → ClassId) (sA : Nat → Nat) (fu : Nat) {ρ : Type} {r0 : ρ} (kd1 : Nat) : ∀ (as : List xV) (M : xM) (k : Option xV → xM → Option ρ), w_X12_puts fu as M k = some r0 → ∃ v M', xMet l D cA sA yX12_puts cX12_puts 6 (some .boolean) xG (4 + 1) 0 0 as M v M' ∧ k v M' = some r0 ∧ (kd1 ≠ 2 → ∃ a as', as = .inr (.inr (12, some a)) :: as') := by
  intro as M k h
  unfold w_X12_puts at h
  replace h := pR_some h
  obtain ⟨o, as1, rfl, h⟩ := h
  replace h := bd_some h
  obtain ⟨s, rfl, h⟩ := h
  replace h := pI_some h
  obtain ⟨x1, as1, rfl, h⟩ := h
  replace h := xe_some h
  obtain ⟨rfl, h⟩ := h
  obtain ⟨p1, hp, h⟩ := Option.bind_eq_some_iff.mp h
  exact ⟨_, _, ok_X12_puts l D cA sA fu s x1 M hp, h, fun _ => ⟨_, _, rfl⟩⟩
theorem lk_X12_320 : xLink xG RX12 320 0 yX12_puts 1 := ⟨Or.inl (xg 1908 (by decide +kernel) (by decide +kernel)), (xg 1910 (by decide +kernel) (by decide +kernel)), (xg 97 (by decide +kernel) (by decide +kernel)), (xg 141 (by decide +kernel) (by decide +kernel)), ⟨12, by decide, TX12, 29, rfl⟩⟩
theorem lk_X12_333 : xLink xG RX12 333 0 yX12_pickOf 1 := ⟨Or.inl (xg 1904 (by decide +kernel) (by decide +kernel)), (xg 1906 (by decide +kernel) (by decide +kernel)), (xg 96 (by decide +kernel) (by decide +kernel)), (xg 141 (by decide +kernel) (by decide +kernel)), ⟨12, by decide, TX12, 29, rfl⟩⟩
theorem cd_X12_collects : Cond.code yX12_collects cX12_collects 6 (some .int) ∈ xG := (xg 1903 (by decide +kernel) (by decide +kernel))
theorem pr_X12_collects : (∀ e ∈ pX12_collects, xrow cX12_collects 6 kdX12 flX12 0 false RX12 e) ∧ xnext pX12_collects = true := xrows (by decide +kernel)
set_option maxRecDepth 100000 in
theorem wx_X12_collects_156 (X : xCtx p R S0 m ag c0 D cA A0 sA 6 cX12_collects RX12 (.code yX12_collects cX12_collects 6 (some .int) :: xG) 0 0) (hi : meth.name = yX12_collects.name) (hroom : 7 + 2 ≤ R.frames ∧ 60 * (7 + 2) ≤ R.locals) {rr : Int32 × xM} (hE : xEnd l D cA sA cX12_collects 6 (some .int) R 0 0 (some (.inl rr.1)) rr.2 p e S0 m ag below meth c0 A0 M0 ad0 Z) (fu : Nat) : ∀ (n : Nat) (s : Nat) (x1 : Int32) (x2 : Int32) (x4 : Int32) (M : xM), L_X12_collects_156 fu n s x1 x2 x4 M = some rr → xWx p l e R S0 m ag below meth c0 D cA A0 sA M0 ad0 6 Z 0 0 156 0 0 [(0, .inr (.inr (12, some s))), (1, .inl x1), (2, .inl x2), (4, .inl x4)] [] M := by
  intro n
  induction n with
  | zero => intro s x1 x2 x4 M h; cases h
  | succ n ih =>
    intro s x1 x2 x4 M h
    rw [← q_X12_collects_156 fu n s x1 x2 x4 M] at h
    have hT : ∀ w ∈ xG, w ∈ (Cond.code yX12_collects cX12_collects 6 (some .int) :: xG) := fun w hw => List.mem_cons_of_mem _ hw
    refine xrun_sound (nst := 0) (isInit := false) (kd := kdX12) X (xcls_mono hT xclsG) (xpool_mono hT plX12) (fun z => by cases z) (fun idx v hf => xkoE_mono hT (koX12_ok _ (xfind_mem hf))) (xents (ca := _) ?_) (endI hE).1 (endI hE).2 (xcuts (cu := _) ?_) pr_X12_collects.1 pr_X12_collects.2 _ _ _ _ _ _ _ _ (xat_ok pr_X12_collects.1 pr_X12_collects.2).1 (xat_ok pr_X12_collects.1 pr_X12_collects.2).2.1 (xat_ok pr_X12_collects.1 pr_X12_collects.2).2.2 h
    · exact (List.forall_mem_cons.mpr ⟨(xent_met X (ci := 12) hT cd_X12_wide lk_X12_255 rfl (by decide) rfl (by decide +kernel) (fun z => absurd z (by decide)) (hw_X12_wide l D cA sA fu 0) (fun _ => ⟨by decide, fun _ => ⟨TX12, 29, rfl⟩⟩) (by constructor <;> omega) (by decide)), (List.forall_mem_cons.mpr ⟨(xent_met X (ci := 12) hT cd_X12_slotAt lk_X12_264 rfl (by decide) rfl (by decide +kernel) (fun z => absurd z (by decide)) (hw_X12_slotAt l D cA sA fu 2 rfl) (fun z => absurd rfl z) (by constructor <;> omega) (by decide)), (fun _ h => nomatch h)⟩)⟩)
    · refine (List.forall_mem_cons.mpr ⟨?_, (fun _ h => nomatch h)⟩)
      · intro bc bs ls st M h
        replace h := xz_some h
        obtain ⟨rfl, rfl, h⟩ := h
        replace h := lR_some h
        obtain ⟨o, e0, h⟩ := h
        replace h := bd_some h
        obtain ⟨s', rfl, h⟩ := h
        replace h := lI_some h
        obtain ⟨x1', e1, h⟩ := h
        replace h := lI_some h
        obtain ⟨x2', e2, h⟩ := h
        replace h := lI_some h
        obtain ⟨x4', e4, h⟩ := h
        replace h := xe_some h
        obtain ⟨rfl, h⟩ := h
        exact xWx_ls (ih s' x1' x2' x4' M h) (List.forall_mem_cons.mpr ⟨e0, (List.forall_mem_cons.mpr ⟨e1, (List.forall_mem_cons.mpr ⟨e2, (List.forall_mem_cons.mpr ⟨e4, (fun _ h => nomatch h)⟩)⟩)⟩)⟩)

set_option maxRecDepth 100000 in
theorem wx_X12_collects_90 (X : xCtx p R S0 m ag c0 D cA A0 sA 6 cX12_collects RX12 (.code yX12_collects cX12_collects 6 (some .int) :: xG) 0 0) (hi : meth.name = yX12_collects.name) (hroom : 7 + 2 ≤ R.frames ∧ 60 * (7 + 2) ≤ R.locals) {rr : Int32 × xM} (hE : xEnd l D cA sA cX12_collects 6 (some .int) R 0 0 (some (.inl rr.1)) rr.2 p e S0 m ag below meth c0 A0 M0 ad0 Z) (fu : Nat) (k68 : Nat → Int32 → Int32 → Int32 → Int32 → xM → Option (Int32 × xM)) (hk68 : ∀ (s : Nat) (x1 : Int32) (x2 : Int32) (x3 : Int32) (x4 : Int32) (M : xM), k68 s x1 x2 x3 x4 M = some rr → xWx p l e R S0 m ag below meth c0 D cA A0 sA M0 ad0 6 Z 0 0 68 0 0 [(0, .inr (.inr (12, some s))), (1, .inl x1), (2, .inl x2), (3, .inl x3), (4, .inl x4)] [] M) : ∀ (n : Nat) (s : Nat) (x1 : Int32) (x2 : Int32) (x3 : Int32) (x4 : Int32) (x5 : Int32) (M : xM), L_X12_collects_90 fu k68 n s x1 x2 x3 x4 x5 M = some rr → xWx p l e R S0 m ag below meth c0 D cA A0 sA M0 ad0 6 Z 0 0 90 0 0 [(0, .inr (.inr (12, some s))), (1, .inl x1), (2, .inl x2), (3, .inl x3), (4, .inl x4), (5, .inl x5)] [] M := by
  intro n
  induction n with
  | zero => intro s x1 x2 x3 x4 x5 M h; cases h
  | succ n ih =>
    intro s x1 x2 x3 x4 x5 M h
    rw [← q_X12_collects_90 fu k68 n s x1 x2 x3 x4 x5 M] at h
    have hT : ∀ w ∈ xG, w ∈ (Cond.code yX12_collects cX12_collects 6 (some .int) :: xG) := fun w hw => List.mem_cons_of_mem _ hw
    refine xrun_sound (nst := 0) (isInit := false) (kd := kdX12) X (xcls_mono hT xclsG) (xpool_mono hT plX12) (fun z => by cases z) (fun idx v hf => xkoE_mono hT (koX12_ok _ (xfind_mem hf))) (xents (ca := _) ?_) (endI hE).1 (endI hE).2 (xcuts (cu := _) ?_) pr_X12_collects.1 pr_X12_collects.2 _ _ _ _ _ _ _ _ (xat_ok pr_X12_collects.1 pr_X12_collects.2).1 (xat_ok pr_X12_collects.1 pr_X12_collects.2).2.1 (xat_ok pr_X12_collects.1 pr_X12_collects.2).2.2 h
    · exact (List.forall_mem_cons.mpr ⟨(xent_met X (ci := 12) hT cd_X12_wide lk_X12_255 rfl (by decide) rfl (by decide +kernel) (fun z => absurd z (by decide)) (hw_X12_wide l D cA sA fu 0) (fun _ => ⟨by decide, fun _ => ⟨TX12, 29, rfl⟩⟩) (by constructor <;> omega) (by decide)), (List.forall_mem_cons.mpr ⟨(xent_met X (ci := 12) hT cd_X12_slotAt lk_X12_264 rfl (by decide) rfl (by decide +kernel) (fun z => absurd z (by decide)) (hw_X12_slotAt l D cA sA fu 2 rfl) (fun z => absurd rfl z) (by constructor <;> omega) (by decide)), (List.forall_mem_cons.mpr ⟨(xent_met X (ci := 12) hT cd_X12_puts lk_X12_320 rfl (by decide) rfl (by decide +kernel) (fun z => absurd z (by decide)) (hw_X12_puts l D cA sA fu 0) (fun _ => ⟨by decide, fun _ => ⟨TX12, 29, rfl⟩⟩) (by constructor <;> omega) (by decide)), (fun _ h => nomatch h)⟩)⟩)⟩)
    · refine (List.forall_mem_cons.mpr ⟨?_, (List.forall_mem_cons.mpr ⟨?_, (fun _ h => nomatch h)⟩)⟩)
      · intro bc bs ls st M h
        replace h := xz_some h
        obtain ⟨rfl, rfl, h⟩ := h
        replace h := lR_some h
        obtain ⟨o, e0, h⟩ := h
        replace h := bd_some h
        obtain ⟨s', rfl, h⟩ := h
        replace h := lI_some h
        obtain ⟨x1', e1, h⟩ := h
        replace h := lI_some h
        obtain ⟨x2', e2, h⟩ := h
        replace h := lI_some h
        obtain ⟨x3', e3, h⟩ := h
        replace h := lI_some h
        obtain ⟨x4', e4, h⟩ := h
        replace h := xe_some h
        obtain ⟨rfl, h⟩ := h
        exact xWx_ls (hk68 s' x1' x2' x3' x4' M h) (List.forall_mem_cons.mpr ⟨e0, (List.forall_mem_cons.mpr ⟨e1, (List.forall_mem_cons.mpr ⟨e2, (List.forall_mem_cons.mpr ⟨e3, (List.forall_mem_cons.mpr ⟨e4, (fun _ h => nomatch h)⟩)⟩)⟩)⟩)⟩)
      · intro bc bs ls st M h
        replace h := xz_some h
        obtain ⟨rfl, rfl, h⟩ := h
        replace h := lR_some h
        obtain ⟨o, e0, h⟩ := h
        replace h := bd_some h
        obtain ⟨s', rfl, h⟩ := h
        replace h := lI_some h
        obtain ⟨x1', e1, h⟩ := h
        replace h := lI_some h
        obtain ⟨x2', e2, h⟩ := h
        replace h := lI_some h
        obtain ⟨x3', e3, h⟩ := h
        replace h := lI_some h
        obtain ⟨x4', e4, h⟩ := h
        replace h := lI_some h
        obtain ⟨x5', e5, h⟩ := h
        replace h := xe_some h
        obtain ⟨rfl, h⟩ := h
        exact xWx_ls (ih s' x1' x2' x3' x4' x5' M h) (List.forall_mem_cons.mpr ⟨e0, (List.forall_mem_cons.mpr ⟨e1, (List.forall_mem_cons.mpr ⟨e2, (List.forall_mem_cons.mpr ⟨e3, (List.forall_mem_cons.mpr ⟨e4, (List.forall_mem_cons.mpr ⟨e5, (fun _ h => nomatch h)⟩)⟩)⟩)⟩)⟩)⟩)

set_option maxRecDepth 100000 in
theorem wx_X12_collects_68 (X : xCtx p R S0 m ag c0 D cA A0 sA 6 cX12_collects RX12 (.code yX12_collects cX12_collects 6 (some .int) :: xG) 0 0) (hi : meth.name = yX12_collects.name) (hroom : 7 + 2 ≤ R.frames ∧ 60 * (7 + 2) ≤ R.locals) {rr : Int32 × xM} (hE : xEnd l D cA sA cX12_collects 6 (some .int) R 0 0 (some (.inl rr.1)) rr.2 p e S0 m ag below meth c0 A0 M0 ad0 Z) (fu : Nat) : ∀ (n : Nat) (s : Nat) (x1 : Int32) (x2 : Int32) (x3 : Int32) (x4 : Int32) (M : xM), L_X12_collects_68 fu n s x1 x2 x3 x4 M = some rr → xWx p l e R S0 m ag below meth c0 D cA A0 sA M0 ad0 6 Z 0 0 68 0 0 [(0, .inr (.inr (12, some s))), (1, .inl x1), (2, .inl x2), (3, .inl x3), (4, .inl x4)] [] M := by
  intro n
  induction n with
  | zero => intro s x1 x2 x3 x4 M h; cases h
  | succ n ih =>
    intro s x1 x2 x3 x4 M h
    rw [← q_X12_collects_68 fu n s x1 x2 x3 x4 M] at h
    have hT : ∀ w ∈ xG, w ∈ (Cond.code yX12_collects cX12_collects 6 (some .int) :: xG) := fun w hw => List.mem_cons_of_mem _ hw
    refine xrun_sound (nst := 0) (isInit := false) (kd := kdX12) X (xcls_mono hT xclsG) (xpool_mono hT plX12) (fun z => by cases z) (fun idx v hf => xkoE_mono hT (koX12_ok _ (xfind_mem hf))) (xents (ca := _) ?_) (endI hE).1 (endI hE).2 (xcuts (cu := _) ?_) pr_X12_collects.1 pr_X12_collects.2 _ _ _ _ _ _ _ _ (xat_ok pr_X12_collects.1 pr_X12_collects.2).1 (xat_ok pr_X12_collects.1 pr_X12_collects.2).2.1 (xat_ok pr_X12_collects.1 pr_X12_collects.2).2.2 h
    · exact (List.forall_mem_cons.mpr ⟨(xent_met X (ci := 12) hT cd_X12_wide lk_X12_255 rfl (by decide) rfl (by decide +kernel) (fun z => absurd z (by decide)) (hw_X12_wide l D cA sA fu 0) (fun _ => ⟨by decide, fun _ => ⟨TX12, 29, rfl⟩⟩) (by constructor <;> omega) (by decide)), (fun _ h => nomatch h)⟩)
    · refine (List.forall_mem_cons.mpr ⟨?_, (List.forall_mem_cons.mpr ⟨?_, (List.forall_mem_cons.mpr ⟨?_, (fun _ h => nomatch h)⟩)⟩)⟩)
      · intro bc bs ls st M h
        replace h := xz_some h
        obtain ⟨rfl, rfl, h⟩ := h
        replace h := lR_some h
        obtain ⟨o, e0, h⟩ := h
        replace h := bd_some h
        obtain ⟨s', rfl, h⟩ := h
        replace h := lI_some h
        obtain ⟨x1', e1, h⟩ := h
        replace h := lI_some h
        obtain ⟨x2', e2, h⟩ := h
        replace h := lI_some h
        obtain ⟨x3', e3, h⟩ := h
        replace h := lI_some h
        obtain ⟨x4', e4, h⟩ := h
        replace h := xe_some h
        obtain ⟨rfl, h⟩ := h
        exact xWx_ls (ih s' x1' x2' x3' x4' M h) (List.forall_mem_cons.mpr ⟨e0, (List.forall_mem_cons.mpr ⟨e1, (List.forall_mem_cons.mpr ⟨e2, (List.forall_mem_cons.mpr ⟨e3, (List.forall_mem_cons.mpr ⟨e4, (fun _ h => nomatch h)⟩)⟩)⟩)⟩)⟩)
      · intro bc bs ls st M h
        replace h := xz_some h
        obtain ⟨rfl, rfl, h⟩ := h
        replace h := lR_some h
        obtain ⟨o, e0, h⟩ := h
        replace h := bd_some h
        obtain ⟨s', rfl, h⟩ := h
        replace h := lI_some h
        obtain ⟨x1', e1, h⟩ := h
        replace h := lI_some h
        obtain ⟨x2', e2, h⟩ := h
        replace h := lI_some h
        obtain ⟨x3', e3, h⟩ := h
        replace h := lI_some h
        obtain ⟨x4', e4, h⟩ := h
        replace h := lI_some h
        obtain ⟨x5', e5, h⟩ := h
        replace h := xe_some h
        obtain ⟨rfl, h⟩ := h
        exact xWx_ls (wx_X12_collects_90 X hi hroom hE fu _ ih fu s' x1' x2' x3' x4' x5' M h) (List.forall_mem_cons.mpr ⟨e0, (List.forall_mem_cons.mpr ⟨e1, (List.forall_mem_cons.mpr ⟨e2, (List.forall_mem_cons.mpr ⟨e3, (List.forall_mem_cons.mpr ⟨e4, (List.forall_mem_cons.mpr ⟨e5, (fun _ h => nomatch h)⟩)⟩)⟩)⟩)⟩)⟩)
      · intro bc bs ls st M h
        replace h := xz_some h
        obtain ⟨rfl, rfl, h⟩ := h
        replace h := lR_some h
        obtain ⟨o, e0, h⟩ := h
        replace h := bd_some h
        obtain ⟨s', rfl, h⟩ := h
        replace h := lI_some h
        obtain ⟨x1', e1, h⟩ := h
        replace h := lI_some h
        obtain ⟨x2', e2, h⟩ := h
        replace h := lI_some h
        obtain ⟨x4', e4, h⟩ := h
        replace h := xe_some h
        obtain ⟨rfl, h⟩ := h
        exact xWx_ls (wx_X12_collects_156 X hi hroom hE fu fu s' x1' x2' x4' M h) (List.forall_mem_cons.mpr ⟨e0, (List.forall_mem_cons.mpr ⟨e1, (List.forall_mem_cons.mpr ⟨e2, (List.forall_mem_cons.mpr ⟨e4, (fun _ h => nomatch h)⟩)⟩)⟩)⟩)

set_option maxRecDepth 100000 in
theorem wx_X12_collects_22 (X : xCtx p R S0 m ag c0 D cA A0 sA 6 cX12_collects RX12 (.code yX12_collects cX12_collects 6 (some .int) :: xG) 0 0) (hi : meth.name = yX12_collects.name) (hroom : 7 + 2 ≤ R.frames ∧ 60 * (7 + 2) ≤ R.locals) {rr : Int32 × xM} (hE : xEnd l D cA sA cX12_collects 6 (some .int) R 0 0 (some (.inl rr.1)) rr.2 p e S0 m ag below meth c0 A0 M0 ad0 Z) (fu : Nat) : ∀ (n : Nat) (s : Nat) (x1 : Int32) (x2 : Int32) (x3 : Int32) (x4 : Int32) (M : xM), L_X12_collects_22 fu n s x1 x2 x3 x4 M = some rr → xWx p l e R S0 m ag below meth c0 D cA A0 sA M0 ad0 6 Z 0 0 22 0 0 [(0, .inr (.inr (12, some s))), (1, .inl x1), (2, .inl x2), (3, .inl x3), (4, .inl x4)] [] M := by
  intro n
  induction n with
  | zero => intro s x1 x2 x3 x4 M h; cases h
  | succ n ih =>
    intro s x1 x2 x3 x4 M h
    rw [← q_X12_collects_22 fu n s x1 x2 x3 x4 M] at h
    have hT : ∀ w ∈ xG, w ∈ (Cond.code yX12_collects cX12_collects 6 (some .int) :: xG) := fun w hw => List.mem_cons_of_mem _ hw
    refine xrun_sound (nst := 0) (isInit := false) (kd := kdX12) X (xcls_mono hT xclsG) (xpool_mono hT plX12) (fun z => by cases z) (fun idx v hf => xkoE_mono hT (koX12_ok _ (xfind_mem hf))) (xents (ca := _) ?_) (endI hE).1 (endI hE).2 (xcuts (cu := _) ?_) pr_X12_collects.1 pr_X12_collects.2 _ _ _ _ _ _ _ _ (xat_ok pr_X12_collects.1 pr_X12_collects.2).1 (xat_ok pr_X12_collects.1 pr_X12_collects.2).2.1 (xat_ok pr_X12_collects.1 pr_X12_collects.2).2.2 h
    · exact (List.forall_mem_cons.mpr ⟨(xent_met X (ci := 12) hT cd_X12_wide lk_X12_255 rfl (by decide) rfl (by decide +kernel) (fun z => absurd z (by decide)) (hw_X12_wide l D cA sA fu 0) (fun _ => ⟨by decide, fun _ => ⟨TX12, 29, rfl⟩⟩) (by constructor <;> omega) (by decide)), (List.forall_mem_cons.mpr ⟨(xent_met X (ci := 12) hT cd_X12_isLive lk_X12_308 rfl (by decide) rfl (by decide +kernel) (fun z => absurd z (by decide)) (hw_X12_isLive l D cA sA fu 0) (fun _ => ⟨by decide, fun _ => ⟨TX12, 29, rfl⟩⟩) (by constructor <;> omega) (by decide)), (fun _ h => nomatch h)⟩)⟩)
    · refine (List.forall_mem_cons.mpr ⟨?_, (List.forall_mem_cons.mpr ⟨?_, (fun _ h => nomatch h)⟩)⟩)
      · intro bc bs ls st M h
        replace h := xz_some h
        obtain ⟨rfl, rfl, h⟩ := h
        replace h := lR_some h
        obtain ⟨o, e0, h⟩ := h
        replace h := bd_some h
        obtain ⟨s', rfl, h⟩ := h
        replace h := lI_some h
        obtain ⟨x1', e1, h⟩ := h
        replace h := lI_some h
        obtain ⟨x2', e2, h⟩ := h
        replace h := lI_some h
        obtain ⟨x3', e3, h⟩ := h
        replace h := lI_some h
        obtain ⟨x4', e4, h⟩ := h
        replace h := xe_some h
        obtain ⟨rfl, h⟩ := h
        exact xWx_ls (ih s' x1' x2' x3' x4' M h) (List.forall_mem_cons.mpr ⟨e0, (List.forall_mem_cons.mpr ⟨e1, (List.forall_mem_cons.mpr ⟨e2, (List.forall_mem_cons.mpr ⟨e3, (List.forall_mem_cons.mpr ⟨e4, (fun _ h => nomatch h)⟩)⟩)⟩)⟩)⟩)
      · intro bc bs ls st M h
        replace h := xz_some h
        obtain ⟨rfl, rfl, h⟩ := h
        replace h := lR_some h
        obtain ⟨o, e0, h⟩ := h
        replace h := bd_some h
        obtain ⟨s', rfl, h⟩ := h
        replace h := lI_some h
        obtain ⟨x1', e1, h⟩ := h
        replace h := lI_some h
        obtain ⟨x2', e2, h⟩ := h
        replace h := lI_some h
        obtain ⟨x3', e3, h⟩ := h
        replace h := lI_some h
        obtain ⟨x4', e4, h⟩ := h
        replace h := xe_some h
        obtain ⟨rfl, h⟩ := h
        exact xWx_ls (wx_X12_collects_68 X hi hroom hE fu fu s' x1' x2' x3' x4' M h) (List.forall_mem_cons.mpr ⟨e0, (List.forall_mem_cons.mpr ⟨e1, (List.forall_mem_cons.mpr ⟨e2, (List.forall_mem_cons.mpr ⟨e3, (List.forall_mem_cons.mpr ⟨e4, (fun _ h => nomatch h)⟩)⟩)⟩)⟩)⟩)

set_option maxRecDepth 100000 in
theorem wx_X12_collects (X : xCtx p R S0 m ag c0 D cA A0 sA 6 cX12_collects RX12 (.code yX12_collects cX12_collects 6 (some .int) :: xG) 0 0) (hi : meth.name = yX12_collects.name) (hroom : 7 + 2 ≤ R.frames ∧ 60 * (7 + 2) ≤ R.locals) {rr : Int32 × xM} (hE : xEnd l D cA sA cX12_collects 6 (some .int) R 0 0 (some (.inl rr.1)) rr.2 p e S0 m ag below meth c0 A0 M0 ad0 Z) (fu : Nat) (s : Nat) (x1 : Int32) (M : xM) (h : F_X12_collects fu s x1 M = some rr) : xWx p l e R S0 m ag below meth c0 D cA A0 sA M0 ad0 6 Z 0 0 0 0 0 [(0, .inr (.inr (12, some s))), (1, .inl x1)] [] M := by
  rw [← q_X12_collects fu s x1 M] at h
  have hT : ∀ w ∈ xG, w ∈ (Cond.code yX12_collects cX12_collects 6 (some .int) :: xG) := fun w hw => List.mem_cons_of_mem _ hw
  refine xrun_sound (nst := 0) (isInit := false) (kd := kdX12) X (xcls_mono hT xclsG) (xpool_mono hT plX12) (fun z => by cases z) (fun idx v hf => xkoE_mono hT (koX12_ok _ (xfind_mem hf))) (xents (ca := _) ?_) (endI hE).1 (endI hE).2 (xcuts (cu := _) ?_) pr_X12_collects.1 pr_X12_collects.2 _ _ _ _ _ _ _ _ (xat_ok pr_X12_collects.1 pr_X12_collects.2).1 (xat_ok pr_X12_collects.1 pr_X12_collects.2).2.1 (xat_ok pr_X12_collects.1 pr_X12_collects.2).2.2 h
  · exact (List.forall_mem_cons.mpr ⟨(xent_met X (ci := 12) hT cd_X12_looks lk_X12_305 rfl (by decide) rfl (by decide +kernel) (fun z => absurd z (by decide)) (hw_X12_looks l D cA sA fu 0) (fun _ => ⟨by decide, fun _ => ⟨TX12, 29, rfl⟩⟩) (by constructor <;> omega) (by decide)), (List.forall_mem_cons.mpr ⟨(xent_met X (ci := 12) hT cd_X12_pickOf lk_X12_333 rfl (by decide) rfl (by decide +kernel) (fun z => absurd z (by decide)) (hw_X12_pickOf l D cA sA fu 0) (fun _ => ⟨by decide, fun _ => ⟨TX12, 29, rfl⟩⟩) (by constructor <;> omega) (by decide)), (fun _ h => nomatch h)⟩)⟩)
  · refine (List.forall_mem_cons.mpr ⟨?_, (fun _ h => nomatch h)⟩)
    · intro bc bs ls st M h
      replace h := xz_some h
      obtain ⟨rfl, rfl, h⟩ := h
      replace h := lR_some h
      obtain ⟨o, e0, h⟩ := h
      replace h := bd_some h
      obtain ⟨s', rfl, h⟩ := h
      replace h := lI_some h
      obtain ⟨x1', e1, h⟩ := h
      replace h := lI_some h
      obtain ⟨x2', e2, h⟩ := h
      replace h := lI_some h
      obtain ⟨x3', e3, h⟩ := h
      replace h := lI_some h
      obtain ⟨x4', e4, h⟩ := h
      replace h := xe_some h
      obtain ⟨rfl, h⟩ := h
      exact xWx_ls (wx_X12_collects_22 X hi hroom hE fu fu s' x1' x2' x3' x4' M h) (List.forall_mem_cons.mpr ⟨e0, (List.forall_mem_cons.mpr ⟨e1, (List.forall_mem_cons.mpr ⟨e2, (List.forall_mem_cons.mpr ⟨e3, (List.forall_mem_cons.mpr ⟨e4, (fun _ h => nomatch h)⟩)⟩)⟩)⟩)⟩)

theorem ok_X12_collects (l : Launch) (D : va_G) (cA : Nat → ClassId) (sA : Nat → Nat) (fu : Nat) (s : Nat) (x1 : Int32) (M : xM) {rr : Int32 × xM} (h : F_X12_collects fu s x1 M = some rr) : xMet l D cA sA yX12_collects cX12_collects 6 (some .int) xG (7 + 1) 0 0 [.inr (.inr (12, some s)), .inl x1] M (some (.inl rr.1)) rr.2 :=
  xmet_of (by decide +kernel) (Nat.le_of_ble_eq_true rfl) (fun p e s1 m ag below meth c0 A0 ad0 Z X hn hE => wx_X12_collects X hn ⟨Nat.le_refl _, Nat.le_refl _⟩ hE fu s x1 M h)
theorem hw_X12_collects (l : Launch) (D : va_G) (cA : Nat → ClassId) (sA : Nat → Nat) (fu : Nat) {ρ : Type} {r0 : ρ} (kd1 : Nat) : ∀ (as : List xV) (M : xM) (k : Option xV → xM → Option ρ), w_X12_collects fu as M k = some r0 → ∃ v M', xMet l D cA sA yX12_collects cX12_collects 6 (some .int) xG (7 + 1) 0 0 as M v M' ∧ k v M' = some r0 ∧ (kd1 ≠ 2 → ∃ a as', as = .inr (.inr (12, some a)) :: as') := by
  intro as M k h
  unfold w_X12_collects at h
  replace h := pR_some h
  obtain ⟨o, as1, rfl, h⟩ := h
  replace h := bd_some h
  obtain ⟨s, rfl, h⟩ := h
  replace h := pI_some h
  obtain ⟨x1, as1, rfl, h⟩ := h
  replace h := xe_some h
  obtain ⟨rfl, h⟩ := h
  obtain ⟨p1, hp, h⟩ := Option.bind_eq_some_iff.mp h
  exact ⟨_, _, ok_X12_collects l D cA sA fu s x1 M hp, h, fun _ => ⟨_, _, rfl⟩⟩
theorem lk_X12_336 : xLink xG RX12 336 0 yX12_journalOf 1 := ⟨Or.inl (xg 1889 (by decide +kernel) (by decide +kernel)), (xg 1891 (by decide +kernel) (by decide +kernel)), (xg 93 (by decide +kernel) (by decide +kernel)), (xg 141 (by decide +kernel) (by decide +kernel)), ⟨12, by decide, TX12, 29, rfl⟩⟩
theorem lk_X12_339 : xLink xG RX12 339 0 yX12_worthAt 1 := ⟨Or.inl (xg 1893 (by decide +kernel) (by decide +kernel)), (xg 1895 (by decide +kernel) (by decide +kernel)), (xg 94 (by decide +kernel) (by decide +kernel)), (xg 141 (by decide +kernel) (by decide +kernel)), ⟨12, by decide, TX12, 29, rfl⟩⟩
theorem lk_X12_342 : xLink xG RX12 342 0 yX12_collects 1 := ⟨Or.inl (xg 1900 (by decide +kernel) (by decide +kernel)), (xg 1902 (by decide +kernel) (by decide +kernel)), (xg 95 (by decide +kernel) (by decide +kernel)), (xg 141 (by decide +kernel) (by decide +kernel)), ⟨12, by decide, TX12, 29, rfl⟩⟩
theorem cd_X12_cutFirst : Cond.code yX12_cutFirst cX12_cutFirst 2 (some .boolean) ∈ xG := (xg 1880 (by decide +kernel) (by decide +kernel))
theorem pr_X12_cutFirst : (∀ e ∈ pX12_cutFirst, xrow cX12_cutFirst 2 kdX12 flX12 0 false RX12 e) ∧ xnext pX12_cutFirst = true := xrows (by decide +kernel)
set_option maxRecDepth 100000 in
theorem wx_X12_cutFirst (X : xCtx p R S0 m ag c0 D cA A0 sA 2 cX12_cutFirst RX12 (.code yX12_cutFirst cX12_cutFirst 2 (some .boolean) :: xG) 0 0) (hi : meth.name = yX12_cutFirst.name) (hroom : 8 + 2 ≤ R.frames ∧ 60 * (8 + 2) ≤ R.locals) {rr : Int32 × xM} (hE : xEnd l D cA sA cX12_cutFirst 2 (some .boolean) R 0 0 (some (.inl rr.1)) rr.2 p e S0 m ag below meth c0 A0 M0 ad0 Z) (fu : Nat) (s : Nat) (x1 : Int32) (M : xM) (h : F_X12_cutFirst fu s x1 M = some rr) : xWx p l e R S0 m ag below meth c0 D cA A0 sA M0 ad0 2 Z 0 0 0 0 0 [(0, .inr (.inr (12, some s))), (1, .inl x1)] [] M := by
  rw [← q_X12_cutFirst fu s x1 M] at h
  have hT : ∀ w ∈ xG, w ∈ (Cond.code yX12_cutFirst cX12_cutFirst 2 (some .boolean) :: xG) := fun w hw => List.mem_cons_of_mem _ hw
  refine xrun_sound (nst := 0) (isInit := false) (kd := kdX12) X (xcls_mono hT xclsG) (xpool_mono hT plX12) (fun z => by cases z) (fun idx v hf => xkoE_mono hT (koX12_ok _ (xfind_mem hf))) (xents (ca := _) ?_) (endZ hE).1 (endZ hE).2 (xcuts (cu := _) ?_) pr_X12_cutFirst.1 pr_X12_cutFirst.2 _ _ _ _ _ _ _ _ (xat_ok pr_X12_cutFirst.1 pr_X12_cutFirst.2).1 (xat_ok pr_X12_cutFirst.1 pr_X12_cutFirst.2).2.1 (xat_ok pr_X12_cutFirst.1 pr_X12_cutFirst.2).2.2 h
  · exact (List.forall_mem_cons.mpr ⟨(xent_met X (ci := 12) hT cd_X12_allSlots lk_X12_277 rfl (by decide) rfl (by decide +kernel) (fun z => absurd z (by decide)) (hw_X12_allSlots l D cA sA fu 0) (fun _ => ⟨by decide, fun _ => ⟨TX12, 29, rfl⟩⟩) (by constructor <;> omega) (by decide)), (List.forall_mem_cons.mpr ⟨(xent_met X (ci := 12) hT cd_X12_erased lk_X12_326 rfl (by decide) rfl (by decide +kernel) (fun z => absurd z (by decide)) (hw_X12_erased l D cA sA fu 0) (fun _ => ⟨by decide, fun _ => ⟨TX12, 29, rfl⟩⟩) (by constructor <;> omega) (by decide)), (List.forall_mem_cons.mpr ⟨(xent_met X (ci := 12) hT cd_X12_tally lk_X12_329 rfl (by decide) rfl (by decide +kernel) (fun z => absurd z (by decide)) (hw_X12_tally l D cA sA fu 0) (fun _ => ⟨by decide, fun _ => ⟨TX12, 29, rfl⟩⟩) (by constructor <;> omega) (by decide)), (List.forall_mem_cons.mpr ⟨(xent_met X (ci := 12) hT cd_X12_journalOf lk_X12_336 rfl (by decide) rfl (by decide +kernel) (fun z => absurd z (by decide)) (hw_X12_journalOf l D cA sA fu 0) (fun _ => ⟨by decide, fun _ => ⟨TX12, 29, rfl⟩⟩) (by constructor <;> omega) (by decide)), (List.forall_mem_cons.mpr ⟨(xent_met X (ci := 12) hT cd_X12_worthAt lk_X12_339 rfl (by decide) rfl (by decide +kernel) (fun z => absurd z (by decide)) (hw_X12_worthAt l D cA sA fu 0) (fun _ => ⟨by decide, fun _ => ⟨TX12, 29, rfl⟩⟩) (by constructor <;> omega) (by decide)), (List.forall_mem_cons.mpr ⟨(xent_met X (ci := 12) hT cd_X12_collects lk_X12_342 rfl (by decide) rfl (by decide +kernel) (fun z => absurd z (by decide)) (hw_X12_collects l D cA sA fu 0) (fun _ => ⟨by decide, fun _ => ⟨TX12, 29, rfl⟩⟩) (by constructor <;> omega) (by decide)), (fun _ h => nomatch h)⟩)⟩)⟩)⟩)⟩)⟩)
  · exact (fun _ h => nomatch h)

theorem ok_X12_cutFirst (l : Launch) (D : va_G) (cA : Nat → ClassId) (sA : Nat → Nat) (fu : Nat) (s : Nat) (x1 : Int32) (M : xM) {rr : Int32 × xM} (h : F_X12_cutFirst fu s x1 M = some rr) : xMet l D cA sA yX12_cutFirst cX12_cutFirst 2 (some .boolean) xG (8 + 1) 0 0 [.inr (.inr (12, some s)), .inl x1] M (some (.inl rr.1)) rr.2 :=
  xmet_of (by decide +kernel) (Nat.le_of_ble_eq_true rfl) (fun p e s1 m ag below meth c0 A0 ad0 Z X hn hE => wx_X12_cutFirst X hn ⟨Nat.le_refl _, Nat.le_refl _⟩ hE fu s x1 M h)
theorem hw_X12_cutFirst (l : Launch) (D : va_G) (cA : Nat → ClassId) (sA : Nat → Nat) (fu : Nat) {ρ : Type} {r0 : ρ} (kd1 : Nat) : ∀ (as : List xV) (M : xM) (k : Option xV → xM → Option ρ), w_X12_cutFirst fu as M k = some r0 → ∃ v M', xMet l D cA sA yX12_cutFirst cX12_cutFirst 2 (some .boolean) xG (8 + 1) 0 0 as M v M' ∧ k v M' = some r0 ∧ (kd1 ≠ 2 → ∃ a as', as = .inr (.inr (12, some a)) :: as') := by
  intro as M k h
  unfold w_X12_cutFirst at h
  replace h := pR_some h
  obtain ⟨o, as1, rfl, h⟩ := h
  replace h := bd_some h
  obtain ⟨s, rfl, h⟩ := h
  replace h := pI_some h
  obtain ⟨x1, as1, rfl, h⟩ := h
  replace h := xe_some h
  obtain ⟨rfl, h⟩ := h
  obtain ⟨p1, hp, h⟩ := Option.bind_eq_some_iff.mp h
  exact ⟨_, _, ok_X12_cutFirst l D cA sA fu s x1 M hp, h, fun _ => ⟨_, _, rfl⟩⟩
theorem cd_X12_pagesKept : Cond.code yX12_pagesKept cX12_pagesKept 5 (some .int) ∈ xG := (xg 1927 (by decide +kernel) (by decide +kernel))
theorem pr_X12_pagesKept : (∀ e ∈ pX12_pagesKept, xrow cX12_pagesKept 5 kdX12 flX12 0 false RX12 e) ∧ xnext pX12_pagesKept = true := xrows (by decide +kernel)
set_option maxRecDepth 100000 in
theorem wx_X12_pagesKept_5 (X : xCtx p R S0 m ag c0 D cA A0 sA 5 cX12_pagesKept RX12 (.code yX12_pagesKept cX12_pagesKept 5 (some .int) :: xG) 0 0) (hi : meth.name = yX12_pagesKept.name) (hroom : 1 + 2 ≤ R.frames ∧ 60 * (1 + 2) ≤ R.locals) {rr : Int32 × xM} (hE : xEnd l D cA sA cX12_pagesKept 5 (some .int) R 0 0 (some (.inl rr.1)) rr.2 p e S0 m ag below meth c0 A0 M0 ad0 Z) (fu : Nat) : ∀ (n : Nat) (s : Nat) (x1 : Int32) (x2 : Int32) (x3 : Int32) (x4 : Int32) (M : xM), L_X12_pagesKept_5 fu n s x1 x2 x3 x4 M = some rr → xWx p l e R S0 m ag below meth c0 D cA A0 sA M0 ad0 5 Z 0 0 5 0 0 [(0, .inr (.inr (12, some s))), (1, .inl x1), (2, .inl x2), (3, .inl x3), (4, .inl x4)] [] M := by
  intro n
  induction n with
  | zero => intro s x1 x2 x3 x4 M h; cases h
  | succ n ih =>
    intro s x1 x2 x3 x4 M h
    rw [← q_X12_pagesKept_5 fu n s x1 x2 x3 x4 M] at h
    have hT : ∀ w ∈ xG, w ∈ (Cond.code yX12_pagesKept cX12_pagesKept 5 (some .int) :: xG) := fun w hw => List.mem_cons_of_mem _ hw
    refine xrun_sound (nst := 0) (isInit := false) (kd := kdX12) X (xcls_mono hT xclsG) (xpool_mono hT plX12) (fun z => by cases z) (fun idx v hf => xkoE_mono hT (koX12_ok _ (xfind_mem hf))) (xents (ca := _) ?_) (endI hE).1 (endI hE).2 (xcuts (cu := _) ?_) pr_X12_pagesKept.1 pr_X12_pagesKept.2 _ _ _ _ _ _ _ _ (xat_ok pr_X12_pagesKept.1 pr_X12_pagesKept.2).1 (xat_ok pr_X12_pagesKept.1 pr_X12_pagesKept.2).2.1 (xat_ok pr_X12_pagesKept.1 pr_X12_pagesKept.2).2.2 h
    · exact (List.forall_mem_cons.mpr ⟨(xent_met X (ci := 12) hT cd_X12_isOrphan lk_X12_270 rfl (by decide) rfl (by decide +kernel) (fun z => absurd z (by decide)) (hw_X12_isOrphan l D cA sA fu 0) (fun _ => ⟨by decide, fun _ => ⟨TX12, 29, rfl⟩⟩) (by constructor <;> omega) (by decide)), (fun _ h => nomatch h)⟩)
    · refine (List.forall_mem_cons.mpr ⟨?_, (fun _ h => nomatch h)⟩)
      · intro bc bs ls st M h
        replace h := xz_some h
        obtain ⟨rfl, rfl, h⟩ := h
        replace h := lR_some h
        obtain ⟨o, e0, h⟩ := h
        replace h := bd_some h
        obtain ⟨s', rfl, h⟩ := h
        replace h := lI_some h
        obtain ⟨x1', e1, h⟩ := h
        replace h := lI_some h
        obtain ⟨x2', e2, h⟩ := h
        replace h := lI_some h
        obtain ⟨x3', e3, h⟩ := h
        replace h := lI_some h
        obtain ⟨x4', e4, h⟩ := h
        replace h := xe_some h
        obtain ⟨rfl, h⟩ := h
        exact xWx_ls (ih s' x1' x2' x3' x4' M h) (List.forall_mem_cons.mpr ⟨e0, (List.forall_mem_cons.mpr ⟨e1, (List.forall_mem_cons.mpr ⟨e2, (List.forall_mem_cons.mpr ⟨e3, (List.forall_mem_cons.mpr ⟨e4, (fun _ h => nomatch h)⟩)⟩)⟩)⟩)⟩)

set_option maxRecDepth 100000 in
theorem wx_X12_pagesKept (X : xCtx p R S0 m ag c0 D cA A0 sA 5 cX12_pagesKept RX12 (.code yX12_pagesKept cX12_pagesKept 5 (some .int) :: xG) 0 0) (hi : meth.name = yX12_pagesKept.name) (hroom : 1 + 2 ≤ R.frames ∧ 60 * (1 + 2) ≤ R.locals) {rr : Int32 × xM} (hE : xEnd l D cA sA cX12_pagesKept 5 (some .int) R 0 0 (some (.inl rr.1)) rr.2 p e S0 m ag below meth c0 A0 M0 ad0 Z) (fu : Nat) (s : Nat) (x1 : Int32) (x2 : Int32) (M : xM) (h : F_X12_pagesKept fu s x1 x2 M = some rr) : xWx p l e R S0 m ag below meth c0 D cA A0 sA M0 ad0 5 Z 0 0 0 0 0 [(0, .inr (.inr (12, some s))), (1, .inl x1), (2, .inl x2)] [] M := by
  rw [← q_X12_pagesKept fu s x1 x2 M] at h
  have hT : ∀ w ∈ xG, w ∈ (Cond.code yX12_pagesKept cX12_pagesKept 5 (some .int) :: xG) := fun w hw => List.mem_cons_of_mem _ hw
  refine xrun_sound (nst := 0) (isInit := false) (kd := kdX12) X (xcls_mono hT xclsG) (xpool_mono hT plX12) (fun z => by cases z) (fun idx v hf => xkoE_mono hT (koX12_ok _ (xfind_mem hf))) (xents (ca := _) ?_) (endI hE).1 (endI hE).2 (xcuts (cu := _) ?_) pr_X12_pagesKept.1 pr_X12_pagesKept.2 _ _ _ _ _ _ _ _ (xat_ok pr_X12_pagesKept.1 pr_X12_pagesKept.2).1 (xat_ok pr_X12_pagesKept.1 pr_X12_pagesKept.2).2.1 (xat_ok pr_X12_pagesKept.1 pr_X12_pagesKept.2).2.2 h
  · exact (fun _ h => nomatch h)
  · refine (List.forall_mem_cons.mpr ⟨?_, (fun _ h => nomatch h)⟩)
    · intro bc bs ls st M h
      replace h := xz_some h
      obtain ⟨rfl, rfl, h⟩ := h
      replace h := lR_some h
      obtain ⟨o, e0, h⟩ := h
      replace h := bd_some h
      obtain ⟨s', rfl, h⟩ := h
      replace h := lI_some h
      obtain ⟨x1', e1, h⟩ := h
      replace h := lI_some h
      obtain ⟨x2', e2, h⟩ := h
      replace h := lI_some h
      obtain ⟨x3', e3, h⟩ := h
      replace h := lI_some h
      obtain ⟨x4', e4, h⟩ := h
      replace h := xe_some h
      obtain ⟨rfl, h⟩ := h
      exact xWx_ls (wx_X12_pagesKept_5 X hi hroom hE fu fu s' x1' x2' x3' x4' M h) (List.forall_mem_cons.mpr ⟨e0, (List.forall_mem_cons.mpr ⟨e1, (List.forall_mem_cons.mpr ⟨e2, (List.forall_mem_cons.mpr ⟨e3, (List.forall_mem_cons.mpr ⟨e4, (fun _ h => nomatch h)⟩)⟩)⟩)⟩)⟩)

theorem ok_X12_pagesKept (l : Launch) (D : va_G) (cA : Nat → ClassId) (sA : Nat → Nat) (fu : Nat) (s : Nat) (x1 : Int32) (x2 : Int32) (M : xM) {rr : Int32 × xM} (h : F_X12_pagesKept fu s x1 x2 M = some rr) : xMet l D cA sA yX12_pagesKept cX12_pagesKept 5 (some .int) xG (1 + 1) 0 0 [.inr (.inr (12, some s)), .inl x1, .inl x2] M (some (.inl rr.1)) rr.2 :=
  xmet_of (by decide +kernel) (Nat.le_of_ble_eq_true rfl) (fun p e s1 m ag below meth c0 A0 ad0 Z X hn hE => wx_X12_pagesKept X hn ⟨Nat.le_refl _, Nat.le_refl _⟩ hE fu s x1 x2 M h)
theorem hw_X12_pagesKept (l : Launch) (D : va_G) (cA : Nat → ClassId) (sA : Nat → Nat) (fu : Nat) {ρ : Type} {r0 : ρ} (kd1 : Nat) : ∀ (as : List xV) (M : xM) (k : Option xV → xM → Option ρ), w_X12_pagesKept fu as M k = some r0 → ∃ v M', xMet l D cA sA yX12_pagesKept cX12_pagesKept 5 (some .int) xG (1 + 1) 0 0 as M v M' ∧ k v M' = some r0 ∧ (kd1 ≠ 2 → ∃ a as', as = .inr (.inr (12, some a)) :: as') := by
  intro as M k h
  unfold w_X12_pagesKept at h
  replace h := pR_some h
  obtain ⟨o, as1, rfl, h⟩ := h
  replace h := bd_some h
  obtain ⟨s, rfl, h⟩ := h
  replace h := pI_some h
  obtain ⟨x1, as1, rfl, h⟩ := h
  replace h := pI_some h
  obtain ⟨x2, as1, rfl, h⟩ := h
  replace h := xe_some h
  obtain ⟨rfl, h⟩ := h
  obtain ⟨p1, hp, h⟩ := Option.bind_eq_some_iff.mp h
  exact ⟨_, _, ok_X12_pagesKept l D cA sA fu s x1 x2 M hp, h, fun _ => ⟨_, _, rfl⟩⟩
theorem lk_X12_274 : xLink xG RX12 274 0 yX12_pagesKept 2 := ⟨Or.inl (xg 1924 (by decide +kernel) (by decide +kernel)), (xg 1926 (by decide +kernel) (by decide +kernel)), (xg 101 (by decide +kernel) (by decide +kernel)), (xg 141 (by decide +kernel) (by decide +kernel)), ⟨12, by decide, TX12, 29, rfl⟩⟩
theorem cd_X12_hasRoom : Cond.code yX12_hasRoom cX12_hasRoom 6 (some .boolean) ∈ xG := (xg 1923 (by decide +kernel) (by decide +kernel))
theorem pr_X12_hasRoom : (∀ e ∈ pX12_hasRoom, xrow cX12_hasRoom 6 kdX12 flX12 0 false RX12 e) ∧ xnext pX12_hasRoom = true := xrows (by decide +kernel)
set_option maxRecDepth 100000 in
theorem wx_X12_hasRoom_58 (X : xCtx p R S0 m ag c0 D cA A0 sA 6 cX12_hasRoom RX12 (.code yX12_hasRoom cX12_hasRoom 6 (some .boolean) :: xG) 0 0) (hi : meth.name = yX12_hasRoom.name) (hroom : 4 + 2 ≤ R.frames ∧ 60 * (4 + 2) ≤ R.locals) {rr : Int32 × xM} (hE : xEnd l D cA sA cX12_hasRoom 6 (some .boolean) R 0 0 (some (.inl rr.1)) rr.2 p e S0 m ag below meth c0 A0 M0 ad0 Z) (fu : Nat) (s : Nat) (x1 : Int32) (x4 : Int32) (y0 : Int32) (M : xM) (h : J_X12_hasRoom_58 fu s x1 x4 y0 M = some rr) : xWx p l e R S0 m ag below meth c0 D cA A0 sA M0 ad0 6 Z 0 0 58 0 0 [(0, .inr (.inr (12, some s))), (1, .inl x1), (4, .inl x4)] [.inl y0] M := by
  rw [← q_X12_hasRoom_58 fu s x1 x4 y0 M] at h
  have hT : ∀ w ∈ xG, w ∈ (Cond.code yX12_hasRoom cX12_hasRoom 6 (some .boolean) :: xG) := fun w hw => List.mem_cons_of_mem _ hw
  refine xrun_sound (nst := 0) (isInit := false) (kd := kdX12) X (xcls_mono hT xclsG) (xpool_mono hT plX12) (fun z => by cases z) (fun idx v hf => xkoE_mono hT (koX12_ok _ (xfind_mem hf))) (xents (ca := _) ?_) (endZ hE).1 (endZ hE).2 (xcuts (cu := _) ?_) pr_X12_hasRoom.1 pr_X12_hasRoom.2 _ _ _ _ _ _ _ _ (xat_ok pr_X12_hasRoom.1 pr_X12_hasRoom.2).1 (xat_ok pr_X12_hasRoom.1 pr_X12_hasRoom.2).2.1 (xat_ok pr_X12_hasRoom.1 pr_X12_hasRoom.2).2.2 h
  · exact (List.forall_mem_cons.mpr ⟨(xent_met X (ci := 12) hT cd_X12_erased lk_X12_326 rfl (by decide) rfl (by decide +kernel) (fun z => absurd z (by decide)) (hw_X12_erased l D cA sA fu 0) (fun _ => ⟨by decide, fun _ => ⟨TX12, 29, rfl⟩⟩) (by constructor <;> omega) (by decide)), (fun _ h => nomatch h)⟩)
  · exact (fun _ h => nomatch h)

set_option maxRecDepth 100000 in
theorem wx_X12_hasRoom_21 (X : xCtx p R S0 m ag c0 D cA A0 sA 6 cX12_hasRoom RX12 (.code yX12_hasRoom cX12_hasRoom 6 (some .boolean) :: xG) 0 0) (hi : meth.name = yX12_hasRoom.name) (hroom : 4 + 2 ≤ R.frames ∧ 60 * (4 + 2) ≤ R.locals) {rr : Int32 × xM} (hE : xEnd l D cA sA cX12_hasRoom 6 (some .boolean) R 0 0 (some (.inl rr.1)) rr.2 p e S0 m ag below meth c0 A0 M0 ad0 Z) (fu : Nat) (s : Nat) (x1 : Int32) (x2 : Int32) (y0 : Int32) (y1 : Int32) (M : xM) (h : J_X12_hasRoom_21 fu s x1 x2 y0 y1 M = some rr) : xWx p l e R S0 m ag below meth c0 D cA A0 sA M0 ad0 6 Z 0 0 21 0 0 [(0, .inr (.inr (12, some s))), (1, .inl x1), (2, .inl x2)] [.inl y0, .inl y1] M := by
  rw [← q_X12_hasRoom_21 fu s x1 x2 y0 y1 M] at h
  have hT : ∀ w ∈ xG, w ∈ (Cond.code yX12_hasRoom cX12_hasRoom 6 (some .boolean) :: xG) := fun w hw => List.mem_cons_of_mem _ hw
  refine xrun_sound (nst := 0) (isInit := false) (kd := kdX12) X (xcls_mono hT xclsG) (xpool_mono hT plX12) (fun z => by cases z) (fun idx v hf => xkoE_mono hT (koX12_ok _ (xfind_mem hf))) (xents (ca := _) ?_) (endZ hE).1 (endZ hE).2 (xcuts (cu := _) ?_) pr_X12_hasRoom.1 pr_X12_hasRoom.2 _ _ _ _ _ _ _ _ (xat_ok pr_X12_hasRoom.1 pr_X12_hasRoom.2).1 (xat_ok pr_X12_hasRoom.1 pr_X12_hasRoom.2).2.1 (xat_ok pr_X12_hasRoom.1 pr_X12_hasRoom.2).2.2 h
  · exact (List.forall_mem_cons.mpr ⟨(xent_met X (ci := 12) hT cd_X12_kindOf lk_X12_348 rfl (by decide) rfl (by decide +kernel) (fun z => absurd z (by decide)) (hw_X12_kindOf l D cA sA fu 0) (fun _ => ⟨by decide, fun _ => ⟨TX12, 29, rfl⟩⟩) (by constructor <;> omega) (by decide)), (fun _ h => nomatch h)⟩)
  · refine (List.forall_mem_cons.mpr ⟨?_, (fun _ h => nomatch h)⟩)
    · intro bc bs ls st M h
      replace h := xz_some h
      obtain ⟨rfl, rfl, h⟩ := h
      replace h := lR_some h
      obtain ⟨o, e0, h⟩ := h
      replace h := bd_some h
      obtain ⟨s', rfl, h⟩ := h
      replace h := lI_some h
      obtain ⟨x1', e1, h⟩ := h
      replace h := lI_some h
      obtain ⟨x4', e4, h⟩ := h
      replace h := pI_some h
      obtain ⟨y0', st, rfl, h⟩ := h
      replace h := xe_some h
      obtain ⟨rfl, h⟩ := h
      exact xWx_ls (wx_X12_hasRoom_58 X hi hroom hE fu s' x1' x4' y0' M h) (List.forall_mem_cons.mpr ⟨e0, (List.forall_mem_cons.mpr ⟨e1, (List.forall_mem_cons.mpr ⟨e4, (fun _ h => nomatch h)⟩)⟩)⟩)

set_option maxRecDepth 100000 in
theorem wx_X12_hasRoom (X : xCtx p R S0 m ag c0 D cA A0 sA 6 cX12_hasRoom RX12 (.code yX12_hasRoom cX12_hasRoom 6 (some .boolean) :: xG) 0 0) (hi : meth.name = yX12_hasRoom.name) (hroom : 4 + 2 ≤ R.frames ∧ 60 * (4 + 2) ≤ R.locals) {rr : Int32 × xM} (hE : xEnd l D cA sA cX12_hasRoom 6 (some .boolean) R 0 0 (some (.inl rr.1)) rr.2 p e S0 m ag below meth c0 A0 M0 ad0 Z) (fu : Nat) (s : Nat) (x1 : Int32) (x2 : Int32) (x3 : Int32) (M : xM) (h : F_X12_hasRoom fu s x1 x2 x3 M = some rr) : xWx p l e R S0 m ag below meth c0 D cA A0 sA M0 ad0 6 Z 0 0 0 0 0 [(0, .inr (.inr (12, some s))), (1, .inl x1), (2, .inl x2), (3, .inl x3)] [] M := by
  rw [← q_X12_hasRoom fu s x1 x2 x3 M] at h
  have hT : ∀ w ∈ xG, w ∈ (Cond.code yX12_hasRoom cX12_hasRoom 6 (some .boolean) :: xG) := fun w hw => List.mem_cons_of_mem _ hw
  refine xrun_sound (nst := 0) (isInit := false) (kd := kdX12) X (xcls_mono hT xclsG) (xpool_mono hT plX12) (fun z => by cases z) (fun idx v hf => xkoE_mono hT (koX12_ok _ (xfind_mem hf))) (xents (ca := _) ?_) (endZ hE).1 (endZ hE).2 (xcuts (cu := _) ?_) pr_X12_hasRoom.1 pr_X12_hasRoom.2 _ _ _ _ _ _ _ _ (xat_ok pr_X12_hasRoom.1 pr_X12_hasRoom.2).1 (xat_ok pr_X12_hasRoom.1 pr_X12_hasRoom.2).2.1 (xat_ok pr_X12_hasRoom.1 pr_X12_hasRoom.2).2.2 h
  · exact (List.forall_mem_cons.mpr ⟨(xent_met X (ci := 12) hT cd_X12_mapOf lk_X12_267 rfl (by decide) rfl (by decide +kernel) (fun z => absurd z (by decide)) (hw_X12_mapOf l D cA sA fu 0) (fun _ => ⟨by decide, fun _ => ⟨TX12, 29, rfl⟩⟩) (by constructor <;> omega) (by decide)), (List.forall_mem_cons.mpr ⟨(xent_met X (ci := 12) hT cd_X12_pagesKept lk_X12_274 rfl (by decide) rfl (by decide +kernel) (fun z => absurd z (by decide)) (hw_X12_pagesKept l D cA sA fu 0) (fun _ => ⟨by decide, fun _ => ⟨TX12, 29, rfl⟩⟩) (by constructor <;> omega) (by decide)), (fun _ h => nomatch h)⟩)⟩)
  · refine (List.forall_mem_cons.mpr ⟨?_, (fun _ h => nomatch h)⟩)
    · intro bc bs ls st M h
      replace h := xz_some h
      obtain ⟨rfl, rfl, h⟩ := h
      replace h := lR_some h
      obtain ⟨o, e0, h⟩ := h
      replace h := bd_some h
      obtain ⟨s', rfl, h⟩ := h
      replace h := lI_some h
      obtain ⟨x1', e1, h⟩ := h
      replace h := lI_some h
      obtain ⟨x2', e2, h⟩ := h
      replace h := pI_some h
      obtain ⟨y0', st, rfl, h⟩ := h
      replace h := pI_some h
      obtain ⟨y1', st, rfl, h⟩ := h
      replace h := xe_some h
      obtain ⟨rfl, h⟩ := h
      exact xWx_ls (wx_X12_hasRoom_21 X hi hroom hE fu s' x1' x2' y0' y1' M h) (List.forall_mem_cons.mpr ⟨e0, (List.forall_mem_cons.mpr ⟨e1, (List.forall_mem_cons.mpr ⟨e2, (fun _ h => nomatch h)⟩)⟩)⟩)

theorem ok_X12_hasRoom (l : Launch) (D : va_G) (cA : Nat → ClassId) (sA : Nat → Nat) (fu : Nat) (s : Nat) (x1 : Int32) (x2 : Int32) (x3 : Int32) (M : xM) {rr : Int32 × xM} (h : F_X12_hasRoom fu s x1 x2 x3 M = some rr) : xMet l D cA sA yX12_hasRoom cX12_hasRoom 6 (some .boolean) xG (4 + 1) 0 0 [.inr (.inr (12, some s)), .inl x1, .inl x2, .inl x3] M (some (.inl rr.1)) rr.2 :=
  xmet_of (by decide +kernel) (Nat.le_of_ble_eq_true rfl) (fun p e s1 m ag below meth c0 A0 ad0 Z X hn hE => wx_X12_hasRoom X hn ⟨Nat.le_refl _, Nat.le_refl _⟩ hE fu s x1 x2 x3 M h)
theorem hw_X12_hasRoom (l : Launch) (D : va_G) (cA : Nat → ClassId) (sA : Nat → Nat) (fu : Nat) {ρ : Type} {r0 : ρ} (kd1 : Nat) : ∀ (as : List xV) (M : xM) (k : Option xV → xM → Option ρ), w_X12_hasRoom fu as M k = some r0 → ∃ v M', xMet l D cA sA yX12_hasRoom cX12_hasRoom 6 (some .boolean) xG (4 + 1) 0 0 as M v M' ∧ k v M' = some r0 ∧ (kd1 ≠ 2 → ∃ a as', as = .inr (.inr (12, some a)) :: as') := by
  intro as M k h
  unfold w_X12_hasRoom at h
  replace h := pR_some h
  obtain ⟨o, as1, rfl, h⟩ := h
  replace h := bd_some h
  obtain ⟨s, rfl, h⟩ := h
  replace h := pI_some h
  obtain ⟨x1, as1, rfl, h⟩ := h
  replace h := pI_some h
  obtain ⟨x2, as1, rfl, h⟩ := h
  replace h := pI_some h
  obtain ⟨x3, as1, rfl, h⟩ := h
  replace h := xe_some h
  obtain ⟨rfl, h⟩ := h
  obtain ⟨p1, hp, h⟩ := Option.bind_eq_some_iff.mp h
  exact ⟨_, _, ok_X12_hasRoom l D cA sA fu s x1 x2 x3 M hp, h, fun _ => ⟨_, _, rfl⟩⟩
theorem cd_X12_putsNew : Cond.code yX12_putsNew cX12_putsNew 7 (some .boolean) ∈ xG := (xg 1931 (by decide +kernel) (by decide +kernel))
theorem pr_X12_putsNew : (∀ e ∈ pX12_putsNew, xrow cX12_putsNew 7 kdX12 flX12 0 false RX12 e) ∧ xnext pX12_putsNew = true := xrows (by decide +kernel)
set_option maxRecDepth 100000 in
theorem wx_X12_putsNew_15 (X : xCtx p R S0 m ag c0 D cA A0 sA 7 cX12_putsNew RX12 (.code yX12_putsNew cX12_putsNew 7 (some .boolean) :: xG) 0 0) (hi : meth.name = yX12_putsNew.name) (hroom : 5 + 2 ≤ R.frames ∧ 60 * (5 + 2) ≤ R.locals) {rr : Int32 × xM} (hE : xEnd l D cA sA cX12_putsNew 7 (some .boolean) R 0 0 (some (.inl rr.1)) rr.2 p e S0 m ag below meth c0 A0 M0 ad0 Z) (fu : Nat) : ∀ (n : Nat) (s : Nat) (x1 : Int32) (x2 : Int32) (x3 : Int32) (x4 : Int32) (x5 : Int32) (x6 : Int32) (M : xM), L_X12_putsNew_15 fu n s x1 x2 x3 x4 x5 x6 M = some rr → xWx p l e R S0 m ag below meth c0 D cA A0 sA M0 ad0 7 Z 0 0 15 0 0 [(0, .inr (.inr (12, some s))), (1, .inl x1), (2, .inl x2), (3, .inl x3), (4, .inl x4), (5, .inl x5), (6, .inl x6)] [] M := by
  intro n
  induction n with
  | zero => intro s x1 x2 x3 x4 x5 x6 M h; cases h
  | succ n ih =>
    intro s x1 x2 x3 x4 x5 x6 M h
    rw [← q_X12_putsNew_15 fu n s x1 x2 x3 x4 x5 x6 M] at h
    have hT : ∀ w ∈ xG, w ∈ (Cond.code yX12_putsNew cX12_putsNew 7 (some .boolean) :: xG) := fun w hw => List.mem_cons_of_mem _ hw
    refine xrun_sound (nst := 0) (isInit := false) (kd := kdX12) X (xcls_mono hT xclsG) (xpool_mono hT plX12) (fun z => by cases z) (fun idx v hf => xkoE_mono hT (koX12_ok _ (xfind_mem hf))) (xents (ca := _) ?_) (endZ hE).1 (endZ hE).2 (xcuts (cu := _) ?_) pr_X12_putsNew.1 pr_X12_putsNew.2 _ _ _ _ _ _ _ _ (xat_ok pr_X12_putsNew.1 pr_X12_putsNew.2).1 (xat_ok pr_X12_putsNew.1 pr_X12_putsNew.2).2.1 (xat_ok pr_X12_putsNew.1 pr_X12_putsNew.2).2.2 h
    · exact (List.forall_mem_cons.mpr ⟨(xent_met X (ci := 12) hT cd_X12_puts lk_X12_320 rfl (by decide) rfl (by decide +kernel) (fun z => absurd z (by decide)) (hw_X12_puts l D cA sA fu 0) (fun _ => ⟨by decide, fun _ => ⟨TX12, 29, rfl⟩⟩) (by constructor <;> omega) (by decide)), (fun _ h => nomatch h)⟩)
    · refine (List.forall_mem_cons.mpr ⟨?_, (fun _ h => nomatch h)⟩)
      · intro bc bs ls st M h
        replace h := xz_some h
        obtain ⟨rfl, rfl, h⟩ := h
        replace h := lR_some h
        obtain ⟨o, e0, h⟩ := h
        replace h := bd_some h
        obtain ⟨s', rfl, h⟩ := h
        replace h := lI_some h
        obtain ⟨x1', e1, h⟩ := h
        replace h := lI_some h
        obtain ⟨x2', e2, h⟩ := h
        replace h := lI_some h
        obtain ⟨x3', e3, h⟩ := h
        replace h := lI_some h
        obtain ⟨x4', e4, h⟩ := h
        replace h := lI_some h
        obtain ⟨x5', e5, h⟩ := h
        replace h := lI_some h
        obtain ⟨x6', e6, h⟩ := h
        replace h := xe_some h
        obtain ⟨rfl, h⟩ := h
        exact xWx_ls (ih s' x1' x2' x3' x4' x5' x6' M h) (List.forall_mem_cons.mpr ⟨e0, (List.forall_mem_cons.mpr ⟨e1, (List.forall_mem_cons.mpr ⟨e2, (List.forall_mem_cons.mpr ⟨e3, (List.forall_mem_cons.mpr ⟨e4, (List.forall_mem_cons.mpr ⟨e5, (List.forall_mem_cons.mpr ⟨e6, (fun _ h => nomatch h)⟩)⟩)⟩)⟩)⟩)⟩)⟩)

set_option maxRecDepth 100000 in
theorem wx_X12_putsNew (X : xCtx p R S0 m ag c0 D cA A0 sA 7 cX12_putsNew RX12 (.code yX12_putsNew cX12_putsNew 7 (some .boolean) :: xG) 0 0) (hi : meth.name = yX12_putsNew.name) (hroom : 5 + 2 ≤ R.frames ∧ 60 * (5 + 2) ≤ R.locals) {rr : Int32 × xM} (hE : xEnd l D cA sA cX12_putsNew 7 (some .boolean) R 0 0 (some (.inl rr.1)) rr.2 p e S0 m ag below meth c0 A0 M0 ad0 Z) (fu : Nat) (s : Nat) (x1 : Int32) (x2 : Int32) (x3 : Int32) (x4 : Int32) (x5 : Int32) (M : xM) (h : F_X12_putsNew fu s x1 x2 x3 x4 x5 M = some rr) : xWx p l e R S0 m ag below meth c0 D cA A0 sA M0 ad0 7 Z 0 0 0 0 0 [(0, .inr (.inr (12, some s))), (1, .inl x1), (2, .inl x2), (3, .inl x3), (4, .inl x4), (5, .inl x5)] [] M := by
  rw [← q_X12_putsNew fu s x1 x2 x3 x4 x5 M] at h
  have hT : ∀ w ∈ xG, w ∈ (Cond.code yX12_putsNew cX12_putsNew 7 (some .boolean) :: xG) := fun w hw => List.mem_cons_of_mem _ hw
  refine xrun_sound (nst := 0) (isInit := false) (kd := kdX12) X (xcls_mono hT xclsG) (xpool_mono hT plX12) (fun z => by cases z) (fun idx v hf => xkoE_mono hT (koX12_ok _ (xfind_mem hf))) (xents (ca := _) ?_) (endZ hE).1 (endZ hE).2 (xcuts (cu := _) ?_) pr_X12_putsNew.1 pr_X12_putsNew.2 _ _ _ _ _ _ _ _ (xat_ok pr_X12_putsNew.1 pr_X12_putsNew.2).1 (xat_ok pr_X12_putsNew.1 pr_X12_putsNew.2).2.1 (xat_ok pr_X12_putsNew.1 pr_X12_putsNew.2).2.2 h
  · exact (fun _ h => nomatch h)
  · refine (List.forall_mem_cons.mpr ⟨?_, (fun _ h => nomatch h)⟩)
    · intro bc bs ls st M h
      replace h := xz_some h
      obtain ⟨rfl, rfl, h⟩ := h
      replace h := lR_some h
      obtain ⟨o, e0, h⟩ := h
      replace h := bd_some h
      obtain ⟨s', rfl, h⟩ := h
      replace h := lI_some h
      obtain ⟨x1', e1, h⟩ := h
      replace h := lI_some h
      obtain ⟨x2', e2, h⟩ := h
      replace h := lI_some h
      obtain ⟨x3', e3, h⟩ := h
      replace h := lI_some h
      obtain ⟨x4', e4, h⟩ := h
      replace h := lI_some h
      obtain ⟨x5', e5, h⟩ := h
      replace h := lI_some h
      obtain ⟨x6', e6, h⟩ := h
      replace h := xe_some h
      obtain ⟨rfl, h⟩ := h
      exact xWx_ls (wx_X12_putsNew_15 X hi hroom hE fu fu s' x1' x2' x3' x4' x5' x6' M h) (List.forall_mem_cons.mpr ⟨e0, (List.forall_mem_cons.mpr ⟨e1, (List.forall_mem_cons.mpr ⟨e2, (List.forall_mem_cons.mpr ⟨e3, (List.forall_mem_cons.mpr ⟨e4, (List.forall_mem_cons.mpr ⟨e5, (List.forall_mem_cons.mpr ⟨e6, (fun _ h => nomatch h)⟩)⟩)⟩)⟩)⟩)⟩)⟩)

theorem ok_X12_putsNew (l : Launch) (D : va_G) (cA : Nat → ClassId) (sA : Nat → Nat) (fu : Nat) (s : Nat) (x1 : Int32) (x2 : Int32) (x3 : Int32) (x4 : Int32) (x5 : Int32) (M : xM) {rr : Int32 × xM} (h : F_X12_putsNew fu s x1 x2 x3 x4 x5 M = some rr) : xMet l D cA sA yX12_putsNew cX12_putsNew 7 (some .boolean) xG (5 + 1) 0 0 [.inr (.inr (12, some s)), .inl x1, .inl x2, .inl x3, .inl x4, .inl x5] M (some (.inl rr.1)) rr.2 :=
  xmet_of (by decide +kernel) (Nat.le_of_ble_eq_true rfl) (fun p e s1 m ag below meth c0 A0 ad0 Z X hn hE => wx_X12_putsNew X hn ⟨Nat.le_refl _, Nat.le_refl _⟩ hE fu s x1 x2 x3 x4 x5 M h)
theorem hw_X12_putsNew (l : Launch) (D : va_G) (cA : Nat → ClassId) (sA : Nat → Nat) (fu : Nat) {ρ : Type} {r0 : ρ} (kd1 : Nat) : ∀ (as : List xV) (M : xM) (k : Option xV → xM → Option ρ), w_X12_putsNew fu as M k = some r0 → ∃ v M', xMet l D cA sA yX12_putsNew cX12_putsNew 7 (some .boolean) xG (5 + 1) 0 0 as M v M' ∧ k v M' = some r0 ∧ (kd1 ≠ 2 → ∃ a as', as = .inr (.inr (12, some a)) :: as') := by
  intro as M k h
  unfold w_X12_putsNew at h
  replace h := pR_some h
  obtain ⟨o, as1, rfl, h⟩ := h
  replace h := bd_some h
  obtain ⟨s, rfl, h⟩ := h
  replace h := pI_some h
  obtain ⟨x1, as1, rfl, h⟩ := h
  replace h := pI_some h
  obtain ⟨x2, as1, rfl, h⟩ := h
  replace h := pI_some h
  obtain ⟨x3, as1, rfl, h⟩ := h
  replace h := pI_some h
  obtain ⟨x4, as1, rfl, h⟩ := h
  replace h := pI_some h
  obtain ⟨x5, as1, rfl, h⟩ := h
  replace h := xe_some h
  obtain ⟨rfl, h⟩ := h
  obtain ⟨p1, hp, h⟩ := Option.bind_eq_some_iff.mp h
  exact ⟨_, _, ok_X12_putsNew l D cA sA fu s x1 x2 x3 x4 x5 M hp, h, fun _ => ⟨_, _, rfl⟩⟩
theorem cd_X12_partsOf : Cond.code yX12_partsOf cX12_partsOf 2 (some .int) ∈ xG := (xg 1939 (by decide +kernel) (by decide +kernel))
theorem pr_X12_partsOf : (∀ e ∈ pX12_partsOf, xrow cX12_partsOf 2 kdX12 flX12 0 false RX12 e) ∧ xnext pX12_partsOf = true := xrows (by decide +kernel)
set_option maxRecDepth 100000 in
theorem wx_X12_partsOf (X : xCtx p R S0 m ag c0 D cA A0 sA 2 cX12_partsOf RX12 (.code yX12_partsOf cX12_partsOf 2 (some .int) :: xG) 0 0) (hi : meth.name = yX12_partsOf.name) (hroom : 2 + 2 ≤ R.frames ∧ 60 * (2 + 2) ≤ R.locals) {rr : Int32 × xM} (hE : xEnd l D cA sA cX12_partsOf 2 (some .int) R 0 0 (some (.inl rr.1)) rr.2 p e S0 m ag below meth c0 A0 M0 ad0 Z) (fu : Nat) (s : Nat) (x1 : Int32) (M : xM) (h : F_X12_partsOf fu s x1 M = some rr) : xWx p l e R S0 m ag below meth c0 D cA A0 sA M0 ad0 2 Z 0 0 0 0 0 [(0, .inr (.inr (12, some s))), (1, .inl x1)] [] M := by
  rw [← q_X12_partsOf fu s x1 M] at h
  have hT : ∀ w ∈ xG, w ∈ (Cond.code yX12_partsOf cX12_partsOf 2 (some .int) :: xG) := fun w hw => List.mem_cons_of_mem _ hw
  refine xrun_sound (nst := 0) (isInit := false) (kd := kdX12) X (xcls_mono hT xclsG) (xpool_mono hT plX12) (fun z => by cases z) (fun idx v hf => xkoE_mono hT (koX12_ok _ (xfind_mem hf))) (xents (ca := _) ?_) (endI hE).1 (endI hE).2 (xcuts (cu := _) ?_) pr_X12_partsOf.1 pr_X12_partsOf.2 _ _ _ _ _ _ _ _ (xat_ok pr_X12_partsOf.1 pr_X12_partsOf.2).1 (xat_ok pr_X12_partsOf.1 pr_X12_partsOf.2).2.1 (xat_ok pr_X12_partsOf.1 pr_X12_partsOf.2).2.2 h
  · exact (List.forall_mem_cons.mpr ⟨(xent_met X (ci := 12) hT cd_X12_pagesKept lk_X12_274 rfl (by decide) rfl (by decide +kernel) (fun z => absurd z (by decide)) (hw_X12_pagesKept l D cA sA fu 0) (fun _ => ⟨by decide, fun _ => ⟨TX12, 29, rfl⟩⟩) (by constructor <;> omega) (by decide)), (fun _ h => nomatch h)⟩)
  · exact (fun _ h => nomatch h)

theorem ok_X12_partsOf (l : Launch) (D : va_G) (cA : Nat → ClassId) (sA : Nat → Nat) (fu : Nat) (s : Nat) (x1 : Int32) (M : xM) {rr : Int32 × xM} (h : F_X12_partsOf fu s x1 M = some rr) : xMet l D cA sA yX12_partsOf cX12_partsOf 2 (some .int) xG (2 + 1) 0 0 [.inr (.inr (12, some s)), .inl x1] M (some (.inl rr.1)) rr.2 :=
  xmet_of (by decide +kernel) (Nat.le_of_ble_eq_true rfl) (fun p e s1 m ag below meth c0 A0 ad0 Z X hn hE => wx_X12_partsOf X hn ⟨Nat.le_refl _, Nat.le_refl _⟩ hE fu s x1 M h)
theorem hw_X12_partsOf (l : Launch) (D : va_G) (cA : Nat → ClassId) (sA : Nat → Nat) (fu : Nat) {ρ : Type} {r0 : ρ} (kd1 : Nat) : ∀ (as : List xV) (M : xM) (k : Option xV → xM → Option ρ), w_X12_partsOf fu as M k = some r0 → ∃ v M', xMet l D cA sA yX12_partsOf cX12_partsOf 2 (some .int) xG (2 + 1) 0 0 as M v M' ∧ k v M' = some r0 ∧ (kd1 ≠ 2 → ∃ a as', as = .inr (.inr (12, some a)) :: as') := by
  intro as M k h
  unfold w_X12_partsOf at h
  replace h := pR_some h
  obtain ⟨o, as1, rfl, h⟩ := h
  replace h := bd_some h
  obtain ⟨s, rfl, h⟩ := h
  replace h := pI_some h
  obtain ⟨x1, as1, rfl, h⟩ := h
  replace h := xe_some h
  obtain ⟨rfl, h⟩ := h
  obtain ⟨p1, hp, h⟩ := Option.bind_eq_some_iff.mp h
  exact ⟨_, _, ok_X12_partsOf l D cA sA fu s x1 M hp, h, fun _ => ⟨_, _, rfl⟩⟩
theorem lk_X12_323 : xLink xG RX12 323 0 yX12_partsOf 1 := ⟨Or.inl (xg 1936 (by decide +kernel) (by decide +kernel)), (xg 1938 (by decide +kernel) (by decide +kernel)), (xg 104 (by decide +kernel) (by decide +kernel)), (xg 141 (by decide +kernel) (by decide +kernel)), ⟨12, by decide, TX12, 29, rfl⟩⟩
theorem cd_X12_commits : Cond.code yX12_commits cX12_commits 6 (some .int) ∈ xG := (xg 1935 (by decide +kernel) (by decide +kernel))
theorem pr_X12_commits : (∀ e ∈ pX12_commits, xrow cX12_commits 6 kdX12 flX12 0 false RX12 e) ∧ xnext pX12_commits = true := xrows (by decide +kernel)
set_option maxRecDepth 100000 in
theorem wx_X12_commits_159 (X : xCtx p R S0 m ag c0 D cA A0 sA 6 cX12_commits RX12 (.code yX12_commits cX12_commits 6 (some .int) :: xG) 0 0) (hi : meth.name = yX12_commits.name) (hroom : 5 + 2 ≤ R.frames ∧ 60 * (5 + 2) ≤ R.locals) {rr : Int32 × xM} (hE : xEnd l D cA sA cX12_commits 6 (some .int) R 0 0 (some (.inl rr.1)) rr.2 p e S0 m ag below meth c0 A0 M0 ad0 Z) (fu : Nat) (k33 : Nat → Int32 → Int32 → Int32 → Int32 → xM → Option (Int32 × xM)) (hk33 : ∀ (s : Nat) (x1 : Int32) (x2 : Int32) (x3 : Int32) (x4 : Int32) (M : xM), k33 s x1 x2 x3 x4 M = some rr → xWx p l e R S0 m ag below meth c0 D cA A0 sA M0 ad0 6 Z 0 0 33 0 0 [(0, .inr (.inr (12, some s))), (1, .inl x1), (2, .inl x2), (3, .inl x3), (4, .inl x4)] [] M) (s : Nat) (x1 : Int32) (x2 : Int32) (x3 : Int32) (x4 : Int32) (x5 : Int32) (M : xM) (h : J_X12_commits_159 fu k33 s x1 x2 x3 x4 x5 M = some rr) : xWx p l e R S0 m ag below meth c0 D cA A0 sA M0 ad0 6 Z 0 0 159 0 0 [(0, .inr (.inr (12, some s))), (1, .inl x1), (2, .inl x2), (3, .inl x3), (4, .inl x4), (5, .inl x5)] [] M := by
  rw [← q_X12_commits_159 fu k33 s x1 x2 x3 x4 x5 M] at h
  have hT : ∀ w ∈ xG, w ∈ (Cond.code yX12_commits cX12_commits 6 (some .int) :: xG) := fun w hw => List.mem_cons_of_mem _ hw
  refine xrun_sound (nst := 0) (isInit := false) (kd := kdX12) X (xcls_mono hT xclsG) (xpool_mono hT plX12) (fun z => by cases z) (fun idx v hf => xkoE_mono hT (koX12_ok _ (xfind_mem hf))) (xents (ca := _) ?_) (endI hE).1 (endI hE).2 (xcuts (cu := _) ?_) pr_X12_commits.1 pr_X12_commits.2 _ _ _ _ _ _ _ _ (xat_ok pr_X12_commits.1 pr_X12_commits.2).1 (xat_ok pr_X12_commits.1 pr_X12_commits.2).2.1 (xat_ok pr_X12_commits.1 pr_X12_commits.2).2.2 h
  · exact (List.forall_mem_cons.mpr ⟨(xent_met X (ci := 12) hT cd_X12_puts lk_X12_320 rfl (by decide) rfl (by decide +kernel) (fun z => absurd z (by decide)) (hw_X12_puts l D cA sA fu 0) (fun _ => ⟨by decide, fun _ => ⟨TX12, 29, rfl⟩⟩) (by constructor <;> omega) (by decide)), (fun _ h => nomatch h)⟩)
  · refine (List.forall_mem_cons.mpr ⟨?_, (fun _ h => nomatch h)⟩)
    · intro bc bs ls st M h
      replace h := xz_some h
      obtain ⟨rfl, rfl, h⟩ := h
      replace h := lR_some h
      obtain ⟨o, e0, h⟩ := h
      replace h := bd_some h
      obtain ⟨s', rfl, h⟩ := h
      replace h := lI_some h
      obtain ⟨x1', e1, h⟩ := h
      replace h := lI_some h
      obtain ⟨x2', e2, h⟩ := h
      replace h := lI_some h
      obtain ⟨x3', e3, h⟩ := h
      replace h := lI_some h
      obtain ⟨x4', e4, h⟩ := h
      replace h := xe_some h
      obtain ⟨rfl, h⟩ := h
      exact xWx_ls (hk33 s' x1' x2' x3' x4' M h) (List.forall_mem_cons.mpr ⟨e0, (List.forall_mem_cons.mpr ⟨e1, (List.forall_mem_cons.mpr ⟨e2, (List.forall_mem_cons.mpr ⟨e3, (List.forall_mem_cons.mpr ⟨e4, (fun _ h => nomatch h)⟩)⟩)⟩)⟩)⟩)

set_option maxRecDepth 100000 in
theorem wx_X12_commits_78 (X : xCtx p R S0 m ag c0 D cA A0 sA 6 cX12_commits RX12 (.code yX12_commits cX12_commits 6 (some .int) :: xG) 0 0) (hi : meth.name = yX12_commits.name) (hroom : 5 + 2 ≤ R.frames ∧ 60 * (5 + 2) ≤ R.locals) {rr : Int32 × xM} (hE : xEnd l D cA sA cX12_commits 6 (some .int) R 0 0 (some (.inl rr.1)) rr.2 p e S0 m ag below meth c0 A0 M0 ad0 Z) (fu : Nat) (k33 : Nat → Int32 → Int32 → Int32 → Int32 → xM → Option (Int32 × xM)) (hk33 : ∀ (s : Nat) (x1 : Int32) (x2 : Int32) (x3 : Int32) (x4 : Int32) (M : xM), k33 s x1 x2 x3 x4 M = some rr → xWx p l e R S0 m ag below meth c0 D cA A0 sA M0 ad0 6 Z 0 0 33 0 0 [(0, .inr (.inr (12, some s))), (1, .inl x1), (2, .inl x2), (3, .inl x3), (4, .inl x4)] [] M) : ∀ (n : Nat) (s : Nat) (x1 : Int32) (x2 : Int32) (x3 : Int32) (x4 : Int32) (x5 : Int32) (M : xM), L_X12_commits_78 fu k33 n s x1 x2 x3 x4 x5 M = some rr → xWx p l e R S0 m ag below meth c0 D cA A0 sA M0 ad0 6 Z 0 0 78 0 0 [(0, .inr (.inr (12, some s))), (1, .inl x1), (2, .inl x2), (3, .inl x3), (4, .inl x4), (5, .inl x5)] [] M := by
  intro n
  induction n with
  | zero => intro s x1 x2 x3 x4 x5 M h; cases h
  | succ n ih =>
    intro s x1 x2 x3 x4 x5 M h
    rw [← q_X12_commits_78 fu k33 n s x1 x2 x3 x4 x5 M] at h
    have hT : ∀ w ∈ xG, w ∈ (Cond.code yX12_commits cX12_commits 6 (some .int) :: xG) := fun w hw => List.mem_cons_of_mem _ hw
    refine xrun_sound (nst := 0) (isInit := false) (kd := kdX12) X (xcls_mono hT xclsG) (xpool_mono hT plX12) (fun z => by cases z) (fun idx v hf => xkoE_mono hT (koX12_ok _ (xfind_mem hf))) (xents (ca := _) ?_) (endI hE).1 (endI hE).2 (xcuts (cu := _) ?_) pr_X12_commits.1 pr_X12_commits.2 _ _ _ _ _ _ _ _ (xat_ok pr_X12_commits.1 pr_X12_commits.2).1 (xat_ok pr_X12_commits.1 pr_X12_commits.2).2.1 (xat_ok pr_X12_commits.1 pr_X12_commits.2).2.2 h
    · exact (List.forall_mem_cons.mpr ⟨(xent_met X (ci := 12) hT cd_X12_isOrphan lk_X12_270 rfl (by decide) rfl (by decide +kernel) (fun z => absurd z (by decide)) (hw_X12_isOrphan l D cA sA fu 0) (fun _ => ⟨by decide, fun _ => ⟨TX12, 29, rfl⟩⟩) (by constructor <;> omega) (by decide)), (fun _ h => nomatch h)⟩)
    · refine (List.forall_mem_cons.mpr ⟨?_, (List.forall_mem_cons.mpr ⟨?_, (fun _ h => nomatch h)⟩)⟩)
      · intro bc bs ls st M h
        replace h := xz_some h
        obtain ⟨rfl, rfl, h⟩ := h
        replace h := lR_some h
        obtain ⟨o, e0, h⟩ := h
        replace h := bd_some h
        obtain ⟨s', rfl, h⟩ := h
        replace h := lI_some h
        obtain ⟨x1', e1, h⟩ := h
        replace h := lI_some h
        obtain ⟨x2', e2, h⟩ := h
        replace h := lI_some h
        obtain ⟨x3', e3, h⟩ := h
        replace h := lI_some h
        obtain ⟨x4', e4, h⟩ := h
        replace h := lI_some h
        obtain ⟨x5', e5, h⟩ := h
        replace h := xe_some h
        obtain ⟨rfl, h⟩ := h
        exact xWx_ls (ih s' x1' x2' x3' x4' x5' M h) (List.forall_mem_cons.mpr ⟨e0, (List.forall_mem_cons.mpr ⟨e1, (List.forall_mem_cons.mpr ⟨e2, (List.forall_mem_cons.mpr ⟨e3, (List.forall_mem_cons.mpr ⟨e4, (List.forall_mem_cons.mpr ⟨e5, (fun _ h => nomatch h)⟩)⟩)⟩)⟩)⟩)⟩)
      · intro bc bs ls st M h
        replace h := xz_some h
        obtain ⟨rfl, rfl, h⟩ := h
        replace h := lR_some h
        obtain ⟨o, e0, h⟩ := h
        replace h := bd_some h
        obtain ⟨s', rfl, h⟩ := h
        replace h := lI_some h
        obtain ⟨x1', e1, h⟩ := h
        replace h := lI_some h
        obtain ⟨x2', e2, h⟩ := h
        replace h := lI_some h
        obtain ⟨x3', e3, h⟩ := h
        replace h := lI_some h
        obtain ⟨x4', e4, h⟩ := h
        replace h := lI_some h
        obtain ⟨x5', e5, h⟩ := h
        replace h := xe_some h
        obtain ⟨rfl, h⟩ := h
        exact xWx_ls (wx_X12_commits_159 X hi hroom hE fu k33 hk33 s' x1' x2' x3' x4' x5' M h) (List.forall_mem_cons.mpr ⟨e0, (List.forall_mem_cons.mpr ⟨e1, (List.forall_mem_cons.mpr ⟨e2, (List.forall_mem_cons.mpr ⟨e3, (List.forall_mem_cons.mpr ⟨e4, (List.forall_mem_cons.mpr ⟨e5, (fun _ h => nomatch h)⟩)⟩)⟩)⟩)⟩)⟩)

set_option maxRecDepth 100000 in
theorem wx_X12_commits_54 (X : xCtx p R S0 m ag c0 D cA A0 sA 6 cX12_commits RX12 (.code yX12_commits cX12_commits 6 (some .int) :: xG) 0 0) (hi : meth.name = yX12_commits.name) (hroom : 5 + 2 ≤ R.frames ∧ 60 * (5 + 2) ≤ R.locals) {rr : Int32 × xM} (hE : xEnd l D cA sA cX12_commits 6 (some .int) R 0 0 (some (.inl rr.1)) rr.2 p e S0 m ag below meth c0 A0 M0 ad0 Z) (fu : Nat) (k33 : Nat → Int32 → Int32 → Int32 → Int32 → xM → Option (Int32 × xM)) (hk33 : ∀ (s : Nat) (x1 : Int32) (x2 : Int32) (x3 : Int32) (x4 : Int32) (M : xM), k33 s x1 x2 x3 x4 M = some rr → xWx p l e R S0 m ag below meth c0 D cA A0 sA M0 ad0 6 Z 0 0 33 0 0 [(0, .inr (.inr (12, some s))), (1, .inl x1), (2, .inl x2), (3, .inl x3), (4, .inl x4)] [] M) : ∀ (n : Nat) (s : Nat) (x1 : Int32) (x2 : Int32) (x3 : Int32) (x4 : Int32) (x5 : Int32) (M : xM), L_X12_commits_54 fu k33 n s x1 x2 x3 x4 x5 M = some rr → xWx p l e R S0 m ag below meth c0 D cA A0 sA M0 ad0 6 Z 0 0 54 0 0 [(0, .inr (.inr (12, some s))), (1, .inl x1), (2, .inl x2), (3, .inl x3), (4, .inl x4), (5, .inl x5)] [] M := by
  intro n
  induction n with
  | zero => intro s x1 x2 x3 x4 x5 M h; cases h
  | succ n ih =>
    intro s x1 x2 x3 x4 x5 M h
    rw [← q_X12_commits_54 fu k33 n s x1 x2 x3 x4 x5 M] at h
    have hT : ∀ w ∈ xG, w ∈ (Cond.code yX12_commits cX12_commits 6 (some .int) :: xG) := fun w hw => List.mem_cons_of_mem _ hw
    refine xrun_sound (nst := 0) (isInit := false) (kd := kdX12) X (xcls_mono hT xclsG) (xpool_mono hT plX12) (fun z => by cases z) (fun idx v hf => xkoE_mono hT (koX12_ok _ (xfind_mem hf))) (xents (ca := _) ?_) (endI hE).1 (endI hE).2 (xcuts (cu := _) ?_) pr_X12_commits.1 pr_X12_commits.2 _ _ _ _ _ _ _ _ (xat_ok pr_X12_commits.1 pr_X12_commits.2).1 (xat_ok pr_X12_commits.1 pr_X12_commits.2).2.1 (xat_ok pr_X12_commits.1 pr_X12_commits.2).2.2 h
    · exact (fun _ h => nomatch h)
    · refine (List.forall_mem_cons.mpr ⟨?_, (List.forall_mem_cons.mpr ⟨?_, (fun _ h => nomatch h)⟩)⟩)
      · intro bc bs ls st M h
        replace h := xz_some h
        obtain ⟨rfl, rfl, h⟩ := h
        replace h := lR_some h
        obtain ⟨o, e0, h⟩ := h
        replace h := bd_some h
        obtain ⟨s', rfl, h⟩ := h
        replace h := lI_some h
        obtain ⟨x1', e1, h⟩ := h
        replace h := lI_some h
        obtain ⟨x2', e2, h⟩ := h
        replace h := lI_some h
        obtain ⟨x3', e3, h⟩ := h
        replace h := lI_some h
        obtain ⟨x4', e4, h⟩ := h
        replace h := lI_some h
        obtain ⟨x5', e5, h⟩ := h
        replace h := xe_some h
        obtain ⟨rfl, h⟩ := h
        exact xWx_ls (ih s' x1' x2' x3' x4' x5' M h) (List.forall_mem_cons.mpr ⟨e0, (List.forall_mem_cons.mpr ⟨e1, (List.forall_mem_cons.mpr ⟨e2, (List.forall_mem_cons.mpr ⟨e3, (List.forall_mem_cons.mpr ⟨e4, (List.forall_mem_cons.mpr ⟨e5, (fun _ h => nomatch h)⟩)⟩)⟩)⟩)⟩)⟩)
      · intro bc bs ls st M h
        replace h := xz_some h
        obtain ⟨rfl, rfl, h⟩ := h
        replace h := lR_some h
        obtain ⟨o, e0, h⟩ := h
        replace h := bd_some h
        obtain ⟨s', rfl, h⟩ := h
        replace h := lI_some h
        obtain ⟨x1', e1, h⟩ := h
        replace h := lI_some h
        obtain ⟨x2', e2, h⟩ := h
        replace h := lI_some h
        obtain ⟨x3', e3, h⟩ := h
        replace h := lI_some h
        obtain ⟨x4', e4, h⟩ := h
        replace h := lI_some h
        obtain ⟨x5', e5, h⟩ := h
        replace h := xe_some h
        obtain ⟨rfl, h⟩ := h
        exact xWx_ls (wx_X12_commits_78 X hi hroom hE fu k33 hk33 fu s' x1' x2' x3' x4' x5' M h) (List.forall_mem_cons.mpr ⟨e0, (List.forall_mem_cons.mpr ⟨e1, (List.forall_mem_cons.mpr ⟨e2, (List.forall_mem_cons.mpr ⟨e3, (List.forall_mem_cons.mpr ⟨e4, (List.forall_mem_cons.mpr ⟨e5, (fun _ h => nomatch h)⟩)⟩)⟩)⟩)⟩)⟩)

set_option maxRecDepth 100000 in
theorem wx_X12_commits_33 (X : xCtx p R S0 m ag c0 D cA A0 sA 6 cX12_commits RX12 (.code yX12_commits cX12_commits 6 (some .int) :: xG) 0 0) (hi : meth.name = yX12_commits.name) (hroom : 5 + 2 ≤ R.frames ∧ 60 * (5 + 2) ≤ R.locals) {rr : Int32 × xM} (hE : xEnd l D cA sA cX12_commits 6 (some .int) R 0 0 (some (.inl rr.1)) rr.2 p e S0 m ag below meth c0 A0 M0 ad0 Z) (fu : Nat) : ∀ (n : Nat) (s : Nat) (x1 : Int32) (x2 : Int32) (x3 : Int32) (x4 : Int32) (M : xM), L_X12_commits_33 fu n s x1 x2 x3 x4 M = some rr → xWx p l e R S0 m ag below meth c0 D cA A0 sA M0 ad0 6 Z 0 0 33 0 0 [(0, .inr (.inr (12, some s))), (1, .inl x1), (2, .inl x2), (3, .inl x3), (4, .inl x4)] [] M := by
  intro n
  induction n with
  | zero => intro s x1 x2 x3 x4 M h; cases h
  | succ n ih =>
    intro s x1 x2 x3 x4 M h
    rw [← q_X12_commits_33 fu n s x1 x2 x3 x4 M] at h
    have hT : ∀ w ∈ xG, w ∈ (Cond.code yX12_commits cX12_commits 6 (some .int) :: xG) := fun w hw => List.mem_cons_of_mem _ hw
    refine xrun_sound (nst := 0) (isInit := false) (kd := kdX12) X (xcls_mono hT xclsG) (xpool_mono hT plX12) (fun z => by cases z) (fun idx v hf => xkoE_mono hT (koX12_ok _ (xfind_mem hf))) (xents (ca := _) ?_) (endI hE).1 (endI hE).2 (xcuts (cu := _) ?_) pr_X12_commits.1 pr_X12_commits.2 _ _ _ _ _ _ _ _ (xat_ok pr_X12_commits.1 pr_X12_commits.2).1 (xat_ok pr_X12_commits.1 pr_X12_commits.2).2.1 (xat_ok pr_X12_commits.1 pr_X12_commits.2).2.2 h
    · exact (fun _ h => nomatch h)
    · refine (List.forall_mem_cons.mpr ⟨?_, (fun _ h => nomatch h)⟩)
      · intro bc bs ls st M h
        replace h := xz_some h
        obtain ⟨rfl, rfl, h⟩ := h
        replace h := lR_some h
        obtain ⟨o, e0, h⟩ := h
        replace h := bd_some h
        obtain ⟨s', rfl, h⟩ := h
        replace h := lI_some h
        obtain ⟨x1', e1, h⟩ := h
        replace h := lI_some h
        obtain ⟨x2', e2, h⟩ := h
        replace h := lI_some h
        obtain ⟨x3', e3, h⟩ := h
        replace h := lI_some h
        obtain ⟨x4', e4, h⟩ := h
        replace h := lI_some h
        obtain ⟨x5', e5, h⟩ := h
        replace h := xe_some h
        obtain ⟨rfl, h⟩ := h
        exact xWx_ls (wx_X12_commits_54 X hi hroom hE fu _ ih fu s' x1' x2' x3' x4' x5' M h) (List.forall_mem_cons.mpr ⟨e0, (List.forall_mem_cons.mpr ⟨e1, (List.forall_mem_cons.mpr ⟨e2, (List.forall_mem_cons.mpr ⟨e3, (List.forall_mem_cons.mpr ⟨e4, (List.forall_mem_cons.mpr ⟨e5, (fun _ h => nomatch h)⟩)⟩)⟩)⟩)⟩)⟩)

set_option maxRecDepth 100000 in
theorem wx_X12_commits (X : xCtx p R S0 m ag c0 D cA A0 sA 6 cX12_commits RX12 (.code yX12_commits cX12_commits 6 (some .int) :: xG) 0 0) (hi : meth.name = yX12_commits.name) (hroom : 5 + 2 ≤ R.frames ∧ 60 * (5 + 2) ≤ R.locals) {rr : Int32 × xM} (hE : xEnd l D cA sA cX12_commits 6 (some .int) R 0 0 (some (.inl rr.1)) rr.2 p e S0 m ag below meth c0 A0 M0 ad0 Z) (fu : Nat) (s : Nat) (x1 : Int32) (M : xM) (h : F_X12_commits fu s x1 M = some rr) : xWx p l e R S0 m ag below meth c0 D cA A0 sA M0 ad0 6 Z 0 0 0 0 0 [(0, .inr (.inr (12, some s))), (1, .inl x1)] [] M := by
  rw [← q_X12_commits fu s x1 M] at h
  have hT : ∀ w ∈ xG, w ∈ (Cond.code yX12_commits cX12_commits 6 (some .int) :: xG) := fun w hw => List.mem_cons_of_mem _ hw
  refine xrun_sound (nst := 0) (isInit := false) (kd := kdX12) X (xcls_mono hT xclsG) (xpool_mono hT plX12) (fun z => by cases z) (fun idx v hf => xkoE_mono hT (koX12_ok _ (xfind_mem hf))) (xents (ca := _) ?_) (endI hE).1 (endI hE).2 (xcuts (cu := _) ?_) pr_X12_commits.1 pr_X12_commits.2 _ _ _ _ _ _ _ _ (xat_ok pr_X12_commits.1 pr_X12_commits.2).1 (xat_ok pr_X12_commits.1 pr_X12_commits.2).2.1 (xat_ok pr_X12_commits.1 pr_X12_commits.2).2.2 h
  · exact (List.forall_mem_cons.mpr ⟨(xent_met X (ci := 12) hT cd_X12_partsOf lk_X12_323 rfl (by decide) rfl (by decide +kernel) (fun z => absurd z (by decide)) (hw_X12_partsOf l D cA sA fu 0) (fun _ => ⟨by decide, fun _ => ⟨TX12, 29, rfl⟩⟩) (by constructor <;> omega) (by decide)), (List.forall_mem_cons.mpr ⟨(xent_met X (ci := 12) hT cd_X12_erased lk_X12_326 rfl (by decide) rfl (by decide +kernel) (fun z => absurd z (by decide)) (hw_X12_erased l D cA sA fu 0) (fun _ => ⟨by decide, fun _ => ⟨TX12, 29, rfl⟩⟩) (by constructor <;> omega) (by decide)), (fun _ h => nomatch h)⟩)⟩)
  · refine (List.forall_mem_cons.mpr ⟨?_, (fun _ h => nomatch h)⟩)
    · intro bc bs ls st M h
      replace h := xz_some h
      obtain ⟨rfl, rfl, h⟩ := h
      replace h := lR_some h
      obtain ⟨o, e0, h⟩ := h
      replace h := bd_some h
      obtain ⟨s', rfl, h⟩ := h
      replace h := lI_some h
      obtain ⟨x1', e1, h⟩ := h
      replace h := lI_some h
      obtain ⟨x2', e2, h⟩ := h
      replace h := lI_some h
      obtain ⟨x3', e3, h⟩ := h
      replace h := lI_some h
      obtain ⟨x4', e4, h⟩ := h
      replace h := xe_some h
      obtain ⟨rfl, h⟩ := h
      exact xWx_ls (wx_X12_commits_33 X hi hroom hE fu fu s' x1' x2' x3' x4' M h) (List.forall_mem_cons.mpr ⟨e0, (List.forall_mem_cons.mpr ⟨e1, (List.forall_mem_cons.mpr ⟨e2, (List.forall_mem_cons.mpr ⟨e3, (List.forall_mem_cons.mpr ⟨e4, (fun _ h => nomatch h)⟩)⟩)⟩)⟩)⟩)

theorem ok_X12_commits (l : Launch) (D : va_G) (cA : Nat → ClassId) (sA : Nat → Nat) (fu : Nat) (s : Nat) (x1 : Int32) (M : xM) {rr : Int32 × xM} (h : F_X12_commits fu s x1 M = some rr) : xMet l D cA sA yX12_commits cX12_commits 6 (some .int) xG (5 + 1) 0 0 [.inr (.inr (12, some s)), .inl x1] M (some (.inl rr.1)) rr.2 :=
  xmet_of (by decide +kernel) (Nat.le_of_ble_eq_true rfl) (fun p e s1 m ag below meth c0 A0 ad0 Z X hn hE => wx_X12_commits X hn ⟨Nat.le_refl _, Nat.le_refl _⟩ hE fu s x1 M h)
theorem hw_X12_commits (l : Launch) (D : va_G) (cA : Nat → ClassId) (sA : Nat → Nat) (fu : Nat) {ρ : Type} {r0 : ρ} (kd1 : Nat) : ∀ (as : List xV) (M : xM) (k : Option xV → xM → Option ρ), w_X12_commits fu as M k = some r0 → ∃ v M', xMet l D cA sA yX12_commits cX12_commits 6 (some .int) xG (5 + 1) 0 0 as M v M' ∧ k v M' = some r0 ∧ (kd1 ≠ 2 → ∃ a as', as = .inr (.inr (12, some a)) :: as') := by
  intro as M k h
  unfold w_X12_commits at h
  replace h := pR_some h
  obtain ⟨o, as1, rfl, h⟩ := h
  replace h := bd_some h
  obtain ⟨s, rfl, h⟩ := h
  replace h := pI_some h
  obtain ⟨x1, as1, rfl, h⟩ := h
  replace h := xe_some h
  obtain ⟨rfl, h⟩ := h
  obtain ⟨p1, hp, h⟩ := Option.bind_eq_some_iff.mp h
  exact ⟨_, _, ok_X12_commits l D cA sA fu s x1 M hp, h, fun _ => ⟨_, _, rfl⟩⟩
theorem lk_X12_361 : xLink xG RX12 361 0 yX12_putsNew 5 := ⟨Or.inl (xg 1928 (by decide +kernel) (by decide +kernel)), (xg 1930 (by decide +kernel) (by decide +kernel)), (xg 102 (by decide +kernel) (by decide +kernel)), (xg 141 (by decide +kernel) (by decide +kernel)), ⟨12, by decide, TX12, 29, rfl⟩⟩
theorem lk_X12_365 : xLink xG RX12 365 0 yX12_commits 1 := ⟨Or.inl (xg 1932 (by decide +kernel) (by decide +kernel)), (xg 1934 (by decide +kernel) (by decide +kernel)), (xg 103 (by decide +kernel) (by decide +kernel)), (xg 141 (by decide +kernel) (by decide +kernel)), ⟨12, by decide, TX12, 29, rfl⟩⟩
theorem lk_X12_351 : xLink xG RX12 351 0 yX12_mayWriteBut 3 := ⟨Or.inl (xg 1869 (by decide +kernel) (by decide +kernel)), (xg 1871 (by decide +kernel) (by decide +kernel)), (xg 88 (by decide +kernel) (by decide +kernel)), (xg 141 (by decide +kernel) (by decide +kernel)), ⟨12, by decide, TX12, 29, rfl⟩⟩
theorem lk_X12_355 : xLink xG RX12 355 0 yX12_cutFirst 1 := ⟨Or.inl (xg 1877 (by decide +kernel) (by decide +kernel)), (xg 1879 (by decide +kernel) (by decide +kernel)), (xg 90 (by decide +kernel) (by decide +kernel)), (xg 141 (by decide +kernel) (by decide +kernel)), ⟨12, by decide, TX12, 29, rfl⟩⟩
theorem lk_X12_358 : xLink xG RX12 358 0 yX12_hasRoom 3 := ⟨Or.inl (xg 1920 (by decide +kernel) (by decide +kernel)), (xg 1922 (by decide +kernel) (by decide +kernel)), (xg 100 (by decide +kernel) (by decide +kernel)), (xg 141 (by decide +kernel) (by decide +kernel)), ⟨12, by decide, TX12, 29, rfl⟩⟩
theorem cd_X12_writes : Cond.code yX12_writes cX12_writes 6 (some .int) ∈ xG := (xg 1868 (by decide +kernel) (by decide +kernel))
theorem pr_X12_writes : (∀ e ∈ pX12_writes, xrow cX12_writes 6 kdX12 flX12 0 false RX12 e) ∧ xnext pX12_writes = true := xrows (by decide +kernel)
set_option maxRecDepth 100000 in
theorem wx_X12_writes_54 (X : xCtx p R S0 m ag c0 D cA A0 sA 6 cX12_writes RX12 (.code yX12_writes cX12_writes 6 (some .int) :: xG) 0 0) (hi : meth.name = yX12_writes.name) (hroom : 9 + 2 ≤ R.frames ∧ 60 * (9 + 2) ≤ R.locals) {rr : Int32 × xM} (hE : xEnd l D cA sA cX12_writes 6 (some .int) R 0 0 (some (.inl rr.1)) rr.2 p e S0 m ag below meth c0 A0 M0 ad0 Z) (fu : Nat) (k38 : Nat → Int32 → Int32 → Int32 → Int32 → Int32 → xM → Option (Int32 × xM)) (hk38 : ∀ (s : Nat) (x1 : Int32) (x2 : Int32) (x3 : Int32) (x4 : Int32) (x5 : Int32) (M : xM), k38 s x1 x2 x3 x4 x5 M = some rr → xWx p l e R S0 m ag below meth c0 D cA A0 sA M0 ad0 6 Z 0 0 38 0 0 [(0, .inr (.inr (12, some s))), (1, .inl x1), (2, .inl x2), (3, .inl x3), (4, .inl x4), (5, .inl x5)] [] M) (s : Nat) (x1 : Int32) (x2 : Int32) (x3 : Int32) (x4 : Int32) (x5 : Int32) (y0 : Int32) (y1 : Int32) (M : xM) (h : J_X12_writes_54 fu k38 s x1 x2 x3 x4 x5 y0 y1 M = some rr) : xWx p l e R S0 m ag below meth c0 D cA A0 sA M0 ad0 6 Z 0 0 54 0 0 [(0, .inr (.inr (12, some s))), (1, .inl x1), (2, .inl x2), (3, .inl x3), (4, .inl x4), (5, .inl x5)] [.inl y0, .inl y1] M := by
  rw [← q_X12_writes_54 fu k38 s x1 x2 x3 x4 x5 y0 y1 M] at h
  have hT : ∀ w ∈ xG, w ∈ (Cond.code yX12_writes cX12_writes 6 (some .int) :: xG) := fun w hw => List.mem_cons_of_mem _ hw
  refine xrun_sound (nst := 0) (isInit := false) (kd := kdX12) X (xcls_mono hT xclsG) (xpool_mono hT plX12) (fun z => by cases z) (fun idx v hf => xkoE_mono hT (koX12_ok _ (xfind_mem hf))) (xents (ca := _) ?_) (endI hE).1 (endI hE).2 (xcuts (cu := _) ?_) pr_X12_writes.1 pr_X12_writes.2 _ _ _ _ _ _ _ _ (xat_ok pr_X12_writes.1 pr_X12_writes.2).1 (xat_ok pr_X12_writes.1 pr_X12_writes.2).2.1 (xat_ok pr_X12_writes.1 pr_X12_writes.2).2.2 h
  · exact (List.forall_mem_cons.mpr ⟨(xent_met X (ci := 12) hT cd_X12_kindOf lk_X12_348 rfl (by decide) rfl (by decide +kernel) (fun z => absurd z (by decide)) (hw_X12_kindOf l D cA sA fu 0) (fun _ => ⟨by decide, fun _ => ⟨TX12, 29, rfl⟩⟩) (by constructor <;> omega) (by decide)), (List.forall_mem_cons.mpr ⟨(xent_met X (ci := 12) hT cd_X12_putsNew lk_X12_361 rfl (by decide) rfl (by decide +kernel) (fun z => absurd z (by decide)) (hw_X12_putsNew l D cA sA fu 0) (fun _ => ⟨by decide, fun _ => ⟨TX12, 29, rfl⟩⟩) (by constructor <;> omega) (by decide)), (List.forall_mem_cons.mpr ⟨(xent_met X (ci := 12) hT cd_X12_commits lk_X12_365 rfl (by decide) rfl (by decide +kernel) (fun z => absurd z (by decide)) (hw_X12_commits l D cA sA fu 0) (fun _ => ⟨by decide, fun _ => ⟨TX12, 29, rfl⟩⟩) (by constructor <;> omega) (by decide)), (fun _ h => nomatch h)⟩)⟩)⟩)
  · refine (List.forall_mem_cons.mpr ⟨?_, (fun _ h => nomatch h)⟩)
    · intro bc bs ls st M h
      replace h := xz_some h
      obtain ⟨rfl, rfl, h⟩ := h
      replace h := lR_some h
      obtain ⟨o, e0, h⟩ := h
      replace h := bd_some h
      obtain ⟨s', rfl, h⟩ := h
      replace h := lI_some h
      obtain ⟨x1', e1, h⟩ := h
      replace h := lI_some h
      obtain ⟨x2', e2, h⟩ := h
      replace h := lI_some h
      obtain ⟨x3', e3, h⟩ := h
      replace h := lI_some h
      obtain ⟨x4', e4, h⟩ := h
      replace h := lI_some h
      obtain ⟨x5', e5, h⟩ := h
      replace h := xe_some h
      obtain ⟨rfl, h⟩ := h
      exact xWx_ls (hk38 s' x1' x2' x3' x4' x5' M h) (List.forall_mem_cons.mpr ⟨e0, (List.forall_mem_cons.mpr ⟨e1, (List.forall_mem_cons.mpr ⟨e2, (List.forall_mem_cons.mpr ⟨e3, (List.forall_mem_cons.mpr ⟨e4, (List.forall_mem_cons.mpr ⟨e5, (fun _ h => nomatch h)⟩)⟩)⟩)⟩)⟩)⟩)

set_option maxRecDepth 100000 in
theorem wx_X12_writes_38 (X : xCtx p R S0 m ag c0 D cA A0 sA 6 cX12_writes RX12 (.code yX12_writes cX12_writes 6 (some .int) :: xG) 0 0) (hi : meth.name = yX12_writes.name) (hroom : 9 + 2 ≤ R.frames ∧ 60 * (9 + 2) ≤ R.locals) {rr : Int32 × xM} (hE : xEnd l D cA sA cX12_writes 6 (some .int) R 0 0 (some (.inl rr.1)) rr.2 p e S0 m ag below meth c0 A0 M0 ad0 Z) (fu : Nat) : ∀ (n : Nat) (s : Nat) (x1 : Int32) (x2 : Int32) (x3 : Int32) (x4 : Int32) (x5 : Int32) (M : xM), L_X12_writes_38 fu n s x1 x2 x3 x4 x5 M = some rr → xWx p l e R S0 m ag below meth c0 D cA A0 sA M0 ad0 6 Z 0 0 38 0 0 [(0, .inr (.inr (12, some s))), (1, .inl x1), (2, .inl x2), (3, .inl x3), (4, .inl x4), (5, .inl x5)] [] M := by
  intro n
  induction n with
  | zero => intro s x1 x2 x3 x4 x5 M h; cases h
  | succ n ih =>
    intro s x1 x2 x3 x4 x5 M h
    rw [← q_X12_writes_38 fu n s x1 x2 x3 x4 x5 M] at h
    have hT : ∀ w ∈ xG, w ∈ (Cond.code yX12_writes cX12_writes 6 (some .int) :: xG) := fun w hw => List.mem_cons_of_mem _ hw
    refine xrun_sound (nst := 0) (isInit := false) (kd := kdX12) X (xcls_mono hT xclsG) (xpool_mono hT plX12) (fun z => by cases z) (fun idx v hf => xkoE_mono hT (koX12_ok _ (xfind_mem hf))) (xents (ca := _) ?_) (endI hE).1 (endI hE).2 (xcuts (cu := _) ?_) pr_X12_writes.1 pr_X12_writes.2 _ _ _ _ _ _ _ _ (xat_ok pr_X12_writes.1 pr_X12_writes.2).1 (xat_ok pr_X12_writes.1 pr_X12_writes.2).2.1 (xat_ok pr_X12_writes.1 pr_X12_writes.2).2.2 h
    · exact (List.forall_mem_cons.mpr ⟨(xent_met X (ci := 12) hT cd_X12_kindOf lk_X12_348 rfl (by decide) rfl (by decide +kernel) (fun z => absurd z (by decide)) (hw_X12_kindOf l D cA sA fu 0) (fun _ => ⟨by decide, fun _ => ⟨TX12, 29, rfl⟩⟩) (by constructor <;> omega) (by decide)), (fun _ h => nomatch h)⟩)
    · refine (List.forall_mem_cons.mpr ⟨?_, (fun _ h => nomatch h)⟩)
      · intro bc bs ls st M h
        replace h := xz_some h
        obtain ⟨rfl, rfl, h⟩ := h
        replace h := lR_some h
        obtain ⟨o, e0, h⟩ := h
        replace h := bd_some h
        obtain ⟨s', rfl, h⟩ := h
        replace h := lI_some h
        obtain ⟨x1', e1, h⟩ := h
        replace h := lI_some h
        obtain ⟨x2', e2, h⟩ := h
        replace h := lI_some h
        obtain ⟨x3', e3, h⟩ := h
        replace h := lI_some h
        obtain ⟨x4', e4, h⟩ := h
        replace h := lI_some h
        obtain ⟨x5', e5, h⟩ := h
        replace h := pI_some h
        obtain ⟨y0', st, rfl, h⟩ := h
        replace h := pI_some h
        obtain ⟨y1', st, rfl, h⟩ := h
        replace h := xe_some h
        obtain ⟨rfl, h⟩ := h
        exact xWx_ls (wx_X12_writes_54 X hi hroom hE fu _ ih s' x1' x2' x3' x4' x5' y0' y1' M h) (List.forall_mem_cons.mpr ⟨e0, (List.forall_mem_cons.mpr ⟨e1, (List.forall_mem_cons.mpr ⟨e2, (List.forall_mem_cons.mpr ⟨e3, (List.forall_mem_cons.mpr ⟨e4, (List.forall_mem_cons.mpr ⟨e5, (fun _ h => nomatch h)⟩)⟩)⟩)⟩)⟩)⟩)

set_option maxRecDepth 100000 in
theorem wx_X12_writes (X : xCtx p R S0 m ag c0 D cA A0 sA 6 cX12_writes RX12 (.code yX12_writes cX12_writes 6 (some .int) :: xG) 0 0) (hi : meth.name = yX12_writes.name) (hroom : 9 + 2 ≤ R.frames ∧ 60 * (9 + 2) ≤ R.locals) {rr : Int32 × xM} (hE : xEnd l D cA sA cX12_writes 6 (some .int) R 0 0 (some (.inl rr.1)) rr.2 p e S0 m ag below meth c0 A0 M0 ad0 Z) (fu : Nat) (s : Nat) (x1 : Int32) (x2 : Int32) (x3 : Int32) (x4 : Int32) (M : xM) (h : F_X12_writes fu s x1 x2 x3 x4 M = some rr) : xWx p l e R S0 m ag below meth c0 D cA A0 sA M0 ad0 6 Z 0 0 0 0 0 [(0, .inr (.inr (12, some s))), (1, .inl x1), (2, .inl x2), (3, .inl x3), (4, .inl x4)] [] M := by
  rw [← q_X12_writes fu s x1 x2 x3 x4 M] at h
  have hT : ∀ w ∈ xG, w ∈ (Cond.code yX12_writes cX12_writes 6 (some .int) :: xG) := fun w hw => List.mem_cons_of_mem _ hw
  refine xrun_sound (nst := 0) (isInit := false) (kd := kdX12) X (xcls_mono hT xclsG) (xpool_mono hT plX12) (fun z => by cases z) (fun idx v hf => xkoE_mono hT (koX12_ok _ (xfind_mem hf))) (xents (ca := _) ?_) (endI hE).1 (endI hE).2 (xcuts (cu := _) ?_) pr_X12_writes.1 pr_X12_writes.2 _ _ _ _ _ _ _ _ (xat_ok pr_X12_writes.1 pr_X12_writes.2).1 (xat_ok pr_X12_writes.1 pr_X12_writes.2).2.1 (xat_ok pr_X12_writes.1 pr_X12_writes.2).2.2 h
  · exact (List.forall_mem_cons.mpr ⟨(xent_met X (ci := 12) hT cd_X12_mayWriteBut lk_X12_351 rfl (by decide) rfl (by decide +kernel) (fun z => absurd z (by decide)) (hw_X12_mayWriteBut l D cA sA fu 0) (fun _ => ⟨by decide, fun _ => ⟨TX12, 29, rfl⟩⟩) (by constructor <;> omega) (by decide)), (List.forall_mem_cons.mpr ⟨(xent_met X (ci := 12) hT cd_X12_cutFirst lk_X12_355 rfl (by decide) rfl (by decide +kernel) (fun z => absurd z (by decide)) (hw_X12_cutFirst l D cA sA fu 0) (fun _ => ⟨by decide, fun _ => ⟨TX12, 29, rfl⟩⟩) (by constructor <;> omega) (by decide)), (List.forall_mem_cons.mpr ⟨(xent_met X (ci := 12) hT cd_X12_hasRoom lk_X12_358 rfl (by decide) rfl (by decide +kernel) (fun z => absurd z (by decide)) (hw_X12_hasRoom l D cA sA fu 0) (fun _ => ⟨by decide, fun _ => ⟨TX12, 29, rfl⟩⟩) (by constructor <;> omega) (by decide)), (fun _ h => nomatch h)⟩)⟩)⟩)
  · refine (List.forall_mem_cons.mpr ⟨?_, (fun _ h => nomatch h)⟩)
    · intro bc bs ls st M h
      replace h := xz_some h
      obtain ⟨rfl, rfl, h⟩ := h
      replace h := lR_some h
      obtain ⟨o, e0, h⟩ := h
      replace h := bd_some h
      obtain ⟨s', rfl, h⟩ := h
      replace h := lI_some h
      obtain ⟨x1', e1, h⟩ := h
      replace h := lI_some h
      obtain ⟨x2', e2, h⟩ := h
      replace h := lI_some h
      obtain ⟨x3', e3, h⟩ := h
      replace h := lI_some h
      obtain ⟨x4', e4, h⟩ := h
      replace h := lI_some h
      obtain ⟨x5', e5, h⟩ := h
      replace h := xe_some h
      obtain ⟨rfl, h⟩ := h
      exact xWx_ls (wx_X12_writes_38 X hi hroom hE fu fu s' x1' x2' x3' x4' x5' M h) (List.forall_mem_cons.mpr ⟨e0, (List.forall_mem_cons.mpr ⟨e1, (List.forall_mem_cons.mpr ⟨e2, (List.forall_mem_cons.mpr ⟨e3, (List.forall_mem_cons.mpr ⟨e4, (List.forall_mem_cons.mpr ⟨e5, (fun _ h => nomatch h)⟩)⟩)⟩)⟩)⟩)⟩)

theorem ok_X12_writes (l : Launch) (D : va_G) (cA : Nat → ClassId) (sA : Nat → Nat) (fu : Nat) (s : Nat) (x1 : Int32) (x2 : Int32) (x3 : Int32) (x4 : Int32) (M : xM) {rr : Int32 × xM} (h : F_X12_writes fu s x1 x2 x3 x4 M = some rr) : xMet l D cA sA yX12_writes cX12_writes 6 (some .int) xG (9 + 1) 0 0 [.inr (.inr (12, some s)), .inl x1, .inl x2, .inl x3, .inl x4] M (some (.inl rr.1)) rr.2 :=
  xmet_of (by decide +kernel) (Nat.le_of_ble_eq_true rfl) (fun p e s1 m ag below meth c0 A0 ad0 Z X hn hE => wx_X12_writes X hn ⟨Nat.le_refl _, Nat.le_refl _⟩ hE fu s x1 x2 x3 x4 M h)
theorem hw_X12_writes (l : Launch) (D : va_G) (cA : Nat → ClassId) (sA : Nat → Nat) (fu : Nat) {ρ : Type} {r0 : ρ} (kd1 : Nat) : ∀ (as : List xV) (M : xM) (k : Option xV → xM → Option ρ), w_X12_writes fu as M k = some r0 → ∃ v M', xMet l D cA sA yX12_writes cX12_writes 6 (some .int) xG (9 + 1) 0 0 as M v M' ∧ k v M' = some r0 ∧ (kd1 ≠ 2 → ∃ a as', as = .inr (.inr (12, some a)) :: as') := by
  intro as M k h
  unfold w_X12_writes at h
  replace h := pR_some h
  obtain ⟨o, as1, rfl, h⟩ := h
  replace h := bd_some h
  obtain ⟨s, rfl, h⟩ := h
  replace h := pI_some h
  obtain ⟨x1, as1, rfl, h⟩ := h
  replace h := pI_some h
  obtain ⟨x2, as1, rfl, h⟩ := h
  replace h := pI_some h
  obtain ⟨x3, as1, rfl, h⟩ := h
  replace h := pI_some h
  obtain ⟨x4, as1, rfl, h⟩ := h
  replace h := xe_some h
  obtain ⟨rfl, h⟩ := h
  obtain ⟨p1, hp, h⟩ := Option.bind_eq_some_iff.mp h
  exact ⟨_, _, ok_X12_writes l D cA sA fu s x1 x2 x3 x4 M hp, h, fun _ => ⟨_, _, rfl⟩⟩
theorem cd_X12_mappedOf : Cond.code yX12_mappedOf cX12_mappedOf 5 (some .int) ∈ xG := (xg 1852 (by decide +kernel) (by decide +kernel))
theorem pr_X12_mappedOf : (∀ e ∈ pX12_mappedOf, xrow cX12_mappedOf 5 kdX12 flX12 0 false RX12 e) ∧ xnext pX12_mappedOf = true := xrows (by decide +kernel)
set_option maxRecDepth 100000 in
theorem wx_X12_mappedOf_5 (X : xCtx p R S0 m ag c0 D cA A0 sA 5 cX12_mappedOf RX12 (.code yX12_mappedOf cX12_mappedOf 5 (some .int) :: xG) 0 0) (hi : meth.name = yX12_mappedOf.name) (hroom : 1 + 2 ≤ R.frames ∧ 60 * (1 + 2) ≤ R.locals) {rr : Int32 × xM} (hE : xEnd l D cA sA cX12_mappedOf 5 (some .int) R 0 0 (some (.inl rr.1)) rr.2 p e S0 m ag below meth c0 A0 M0 ad0 Z) (fu : Nat) : ∀ (n : Nat) (s : Nat) (x1 : Int32) (x2 : Int32) (x3 : Int32) (x4 : Int32) (M : xM), L_X12_mappedOf_5 fu n s x1 x2 x3 x4 M = some rr → xWx p l e R S0 m ag below meth c0 D cA A0 sA M0 ad0 5 Z 0 0 5 0 0 [(0, .inr (.inr (12, some s))), (1, .inl x1), (2, .inl x2), (3, .inl x3), (4, .inl x4)] [] M := by
  intro n
  induction n with
  | zero => intro s x1 x2 x3 x4 M h; cases h
  | succ n ih =>
    intro s x1 x2 x3 x4 M h
    rw [← q_X12_mappedOf_5 fu n s x1 x2 x3 x4 M] at h
    have hT : ∀ w ∈ xG, w ∈ (Cond.code yX12_mappedOf cX12_mappedOf 5 (some .int) :: xG) := fun w hw => List.mem_cons_of_mem _ hw
    refine xrun_sound (nst := 0) (isInit := false) (kd := kdX12) X (xcls_mono hT xclsG) (xpool_mono hT plX12) (fun z => by cases z) (fun idx v hf => xkoE_mono hT (koX12_ok _ (xfind_mem hf))) (xents (ca := _) ?_) (endI hE).1 (endI hE).2 (xcuts (cu := _) ?_) pr_X12_mappedOf.1 pr_X12_mappedOf.2 _ _ _ _ _ _ _ _ (xat_ok pr_X12_mappedOf.1 pr_X12_mappedOf.2).1 (xat_ok pr_X12_mappedOf.1 pr_X12_mappedOf.2).2.1 (xat_ok pr_X12_mappedOf.1 pr_X12_mappedOf.2).2.2 h
    · exact (List.forall_mem_cons.mpr ⟨(xent_met X (ci := 12) hT cd_X12_mapOf lk_X12_267 rfl (by decide) rfl (by decide +kernel) (fun z => absurd z (by decide)) (hw_X12_mapOf l D cA sA fu 0) (fun _ => ⟨by decide, fun _ => ⟨TX12, 29, rfl⟩⟩) (by constructor <;> omega) (by decide)), (fun _ h => nomatch h)⟩)
    · refine (List.forall_mem_cons.mpr ⟨?_, (fun _ h => nomatch h)⟩)
      · intro bc bs ls st M h
        replace h := xz_some h
        obtain ⟨rfl, rfl, h⟩ := h
        replace h := lR_some h
        obtain ⟨o, e0, h⟩ := h
        replace h := bd_some h
        obtain ⟨s', rfl, h⟩ := h
        replace h := lI_some h
        obtain ⟨x1', e1, h⟩ := h
        replace h := lI_some h
        obtain ⟨x2', e2, h⟩ := h
        replace h := lI_some h
        obtain ⟨x3', e3, h⟩ := h
        replace h := lI_some h
        obtain ⟨x4', e4, h⟩ := h
        replace h := xe_some h
        obtain ⟨rfl, h⟩ := h
        exact xWx_ls (ih s' x1' x2' x3' x4' M h) (List.forall_mem_cons.mpr ⟨e0, (List.forall_mem_cons.mpr ⟨e1, (List.forall_mem_cons.mpr ⟨e2, (List.forall_mem_cons.mpr ⟨e3, (List.forall_mem_cons.mpr ⟨e4, (fun _ h => nomatch h)⟩)⟩)⟩)⟩)⟩)

set_option maxRecDepth 100000 in
theorem wx_X12_mappedOf (X : xCtx p R S0 m ag c0 D cA A0 sA 5 cX12_mappedOf RX12 (.code yX12_mappedOf cX12_mappedOf 5 (some .int) :: xG) 0 0) (hi : meth.name = yX12_mappedOf.name) (hroom : 1 + 2 ≤ R.frames ∧ 60 * (1 + 2) ≤ R.locals) {rr : Int32 × xM} (hE : xEnd l D cA sA cX12_mappedOf 5 (some .int) R 0 0 (some (.inl rr.1)) rr.2 p e S0 m ag below meth c0 A0 M0 ad0 Z) (fu : Nat) (s : Nat) (x1 : Int32) (x2 : Int32) (M : xM) (h : F_X12_mappedOf fu s x1 x2 M = some rr) : xWx p l e R S0 m ag below meth c0 D cA A0 sA M0 ad0 5 Z 0 0 0 0 0 [(0, .inr (.inr (12, some s))), (1, .inl x1), (2, .inl x2)] [] M := by
  rw [← q_X12_mappedOf fu s x1 x2 M] at h
  have hT : ∀ w ∈ xG, w ∈ (Cond.code yX12_mappedOf cX12_mappedOf 5 (some .int) :: xG) := fun w hw => List.mem_cons_of_mem _ hw
  refine xrun_sound (nst := 0) (isInit := false) (kd := kdX12) X (xcls_mono hT xclsG) (xpool_mono hT plX12) (fun z => by cases z) (fun idx v hf => xkoE_mono hT (koX12_ok _ (xfind_mem hf))) (xents (ca := _) ?_) (endI hE).1 (endI hE).2 (xcuts (cu := _) ?_) pr_X12_mappedOf.1 pr_X12_mappedOf.2 _ _ _ _ _ _ _ _ (xat_ok pr_X12_mappedOf.1 pr_X12_mappedOf.2).1 (xat_ok pr_X12_mappedOf.1 pr_X12_mappedOf.2).2.1 (xat_ok pr_X12_mappedOf.1 pr_X12_mappedOf.2).2.2 h
  · exact (fun _ h => nomatch h)
  · refine (List.forall_mem_cons.mpr ⟨?_, (fun _ h => nomatch h)⟩)
    · intro bc bs ls st M h
      replace h := xz_some h
      obtain ⟨rfl, rfl, h⟩ := h
      replace h := lR_some h
      obtain ⟨o, e0, h⟩ := h
      replace h := bd_some h
      obtain ⟨s', rfl, h⟩ := h
      replace h := lI_some h
      obtain ⟨x1', e1, h⟩ := h
      replace h := lI_some h
      obtain ⟨x2', e2, h⟩ := h
      replace h := lI_some h
      obtain ⟨x3', e3, h⟩ := h
      replace h := lI_some h
      obtain ⟨x4', e4, h⟩ := h
      replace h := xe_some h
      obtain ⟨rfl, h⟩ := h
      exact xWx_ls (wx_X12_mappedOf_5 X hi hroom hE fu fu s' x1' x2' x3' x4' M h) (List.forall_mem_cons.mpr ⟨e0, (List.forall_mem_cons.mpr ⟨e1, (List.forall_mem_cons.mpr ⟨e2, (List.forall_mem_cons.mpr ⟨e3, (List.forall_mem_cons.mpr ⟨e4, (fun _ h => nomatch h)⟩)⟩)⟩)⟩)⟩)

theorem ok_X12_mappedOf (l : Launch) (D : va_G) (cA : Nat → ClassId) (sA : Nat → Nat) (fu : Nat) (s : Nat) (x1 : Int32) (x2 : Int32) (M : xM) {rr : Int32 × xM} (h : F_X12_mappedOf fu s x1 x2 M = some rr) : xMet l D cA sA yX12_mappedOf cX12_mappedOf 5 (some .int) xG (1 + 1) 0 0 [.inr (.inr (12, some s)), .inl x1, .inl x2] M (some (.inl rr.1)) rr.2 :=
  xmet_of (by decide +kernel) (Nat.le_of_ble_eq_true rfl) (fun p e s1 m ag below meth c0 A0 ad0 Z X hn hE => wx_X12_mappedOf X hn ⟨Nat.le_refl _, Nat.le_refl _⟩ hE fu s x1 x2 M h)
theorem hw_X12_mappedOf (l : Launch) (D : va_G) (cA : Nat → ClassId) (sA : Nat → Nat) (fu : Nat) {ρ : Type} {r0 : ρ} (kd1 : Nat) : ∀ (as : List xV) (M : xM) (k : Option xV → xM → Option ρ), w_X12_mappedOf fu as M k = some r0 → ∃ v M', xMet l D cA sA yX12_mappedOf cX12_mappedOf 5 (some .int) xG (1 + 1) 0 0 as M v M' ∧ k v M' = some r0 ∧ (kd1 ≠ 2 → ∃ a as', as = .inr (.inr (12, some a)) :: as') := by
  intro as M k h
  unfold w_X12_mappedOf at h
  replace h := pR_some h
  obtain ⟨o, as1, rfl, h⟩ := h
  replace h := bd_some h
  obtain ⟨s, rfl, h⟩ := h
  replace h := pI_some h
  obtain ⟨x1, as1, rfl, h⟩ := h
  replace h := pI_some h
  obtain ⟨x2, as1, rfl, h⟩ := h
  replace h := xe_some h
  obtain ⟨rfl, h⟩ := h
  obtain ⟨p1, hp, h⟩ := Option.bind_eq_some_iff.mp h
  exact ⟨_, _, ok_X12_mappedOf l D cA sA fu s x1 x2 M hp, h, fun _ => ⟨_, _, rfl⟩⟩
theorem cd_X12_isOpen : Cond.code yX12_isOpen cX12_isOpen 3 (some .boolean) ∈ xG := (xg 1856 (by decide +kernel) (by decide +kernel))
theorem pr_X12_isOpen : (∀ e ∈ pX12_isOpen, xrow cX12_isOpen 3 kdX12 flX12 0 false RX12 e) ∧ xnext pX12_isOpen = true := xrows (by decide +kernel)
set_option maxRecDepth 100000 in
theorem wx_X12_isOpen (X : xCtx p R S0 m ag c0 D cA A0 sA 3 cX12_isOpen RX12 (.code yX12_isOpen cX12_isOpen 3 (some .boolean) :: xG) 0 0) (hi : meth.name = yX12_isOpen.name) (hroom : 0 + 2 ≤ R.frames ∧ 60 * (0 + 2) ≤ R.locals) {rr : Int32 × xM} (hE : xEnd l D cA sA cX12_isOpen 3 (some .boolean) R 0 0 (some (.inl rr.1)) rr.2 p e S0 m ag below meth c0 A0 M0 ad0 Z) (fu : Nat) (s : Nat) (x1 : Int32) (x2 : Int32) (M : xM) (h : F_X12_isOpen fu s x1 x2 M = some rr) : xWx p l e R S0 m ag below meth c0 D cA A0 sA M0 ad0 3 Z 0 0 0 0 0 [(0, .inr (.inr (12, some s))), (1, .inl x1), (2, .inl x2)] [] M := by
  rw [← q_X12_isOpen fu s x1 x2 M] at h
  have hT : ∀ w ∈ xG, w ∈ (Cond.code yX12_isOpen cX12_isOpen 3 (some .boolean) :: xG) := fun w hw => List.mem_cons_of_mem _ hw
  refine xrun_sound (nst := 0) (isInit := false) (kd := kdX12) X (xcls_mono hT xclsG) (xpool_mono hT plX12) (fun z => by cases z) (fun idx v hf => xkoE_mono hT (koX12_ok _ (xfind_mem hf))) (xents (ca := _) ?_) (endZ hE).1 (endZ hE).2 (xcuts (cu := _) ?_) pr_X12_isOpen.1 pr_X12_isOpen.2 _ _ _ _ _ _ _ _ (xat_ok pr_X12_isOpen.1 pr_X12_isOpen.2).1 (xat_ok pr_X12_isOpen.1 pr_X12_isOpen.2).2.1 (xat_ok pr_X12_isOpen.1 pr_X12_isOpen.2).2.2 h
  · exact (fun _ h => nomatch h)
  · exact (fun _ h => nomatch h)

theorem ok_X12_isOpen (l : Launch) (D : va_G) (cA : Nat → ClassId) (sA : Nat → Nat) (fu : Nat) (s : Nat) (x1 : Int32) (x2 : Int32) (M : xM) {rr : Int32 × xM} (h : F_X12_isOpen fu s x1 x2 M = some rr) : xMet l D cA sA yX12_isOpen cX12_isOpen 3 (some .boolean) xG (0 + 1) 0 0 [.inr (.inr (12, some s)), .inl x1, .inl x2] M (some (.inl rr.1)) rr.2 :=
  xmet_of (by decide +kernel) (Nat.le_of_ble_eq_true rfl) (fun p e s1 m ag below meth c0 A0 ad0 Z X hn hE => wx_X12_isOpen X hn ⟨Nat.le_refl _, Nat.le_refl _⟩ hE fu s x1 x2 M h)
theorem hw_X12_isOpen (l : Launch) (D : va_G) (cA : Nat → ClassId) (sA : Nat → Nat) (fu : Nat) {ρ : Type} {r0 : ρ} (kd1 : Nat) : ∀ (as : List xV) (M : xM) (k : Option xV → xM → Option ρ), w_X12_isOpen fu as M k = some r0 → ∃ v M', xMet l D cA sA yX12_isOpen cX12_isOpen 3 (some .boolean) xG (0 + 1) 0 0 as M v M' ∧ k v M' = some r0 ∧ (kd1 ≠ 2 → ∃ a as', as = .inr (.inr (12, some a)) :: as') := by
  intro as M k h
  unfold w_X12_isOpen at h
  replace h := pR_some h
  obtain ⟨o, as1, rfl, h⟩ := h
  replace h := bd_some h
  obtain ⟨s, rfl, h⟩ := h
  replace h := pI_some h
  obtain ⟨x1, as1, rfl, h⟩ := h
  replace h := pI_some h
  obtain ⟨x2, as1, rfl, h⟩ := h
  replace h := xe_some h
  obtain ⟨rfl, h⟩ := h
  obtain ⟨p1, hp, h⟩ := Option.bind_eq_some_iff.mp h
  exact ⟨_, _, ok_X12_isOpen l D cA sA fu s x1 x2 M hp, h, fun _ => ⟨_, _, rfl⟩⟩
theorem lk_X12_368 : xLink xG RX12 368 0 yX12_mappedOf 2 := ⟨Or.inl (xg 1849 (by decide +kernel) (by decide +kernel)), (xg 1851 (by decide +kernel) (by decide +kernel)), (xg 84 (by decide +kernel) (by decide +kernel)), (xg 141 (by decide +kernel) (by decide +kernel)), ⟨12, by decide, TX12, 29, rfl⟩⟩
theorem lk_X12_371 : xLink xG RX12 371 0 yX12_isOpen 2 := ⟨Or.inl (xg 1853 (by decide +kernel) (by decide +kernel)), (xg 1855 (by decide +kernel) (by decide +kernel)), (xg 85 (by decide +kernel) (by decide +kernel)), (xg 141 (by decide +kernel) (by decide +kernel)), ⟨12, by decide, TX12, 29, rfl⟩⟩
theorem cd_X12_removes : Cond.code yX12_removes cX12_removes 3 (some .int) ∈ xG := (xg 1947 (by decide +kernel) (by decide +kernel))
theorem pr_X12_removes : (∀ e ∈ pX12_removes, xrow cX12_removes 3 kdX12 flX12 0 false RX12 e) ∧ xnext pX12_removes = true := xrows (by decide +kernel)
set_option maxRecDepth 100000 in
theorem wx_X12_removes (X : xCtx p R S0 m ag c0 D cA A0 sA 3 cX12_removes RX12 (.code yX12_removes cX12_removes 3 (some .int) :: xG) 0 0) (hi : meth.name = yX12_removes.name) (hroom : 9 + 2 ≤ R.frames ∧ 60 * (9 + 2) ≤ R.locals) {rr : Int32 × xM} (hE : xEnd l D cA sA cX12_removes 3 (some .int) R 0 0 (some (.inl rr.1)) rr.2 p e S0 m ag below meth c0 A0 M0 ad0 Z) (fu : Nat) (s : Nat) (x1 : Int32) (x2 : Int32) (M : xM) (h : F_X12_removes fu s x1 x2 M = some rr) : xWx p l e R S0 m ag below meth c0 D cA A0 sA M0 ad0 3 Z 0 0 0 0 0 [(0, .inr (.inr (12, some s))), (1, .inl x1), (2, .inl x2)] [] M := by
  rw [← q_X12_removes fu s x1 x2 M] at h
  have hT : ∀ w ∈ xG, w ∈ (Cond.code yX12_removes cX12_removes 3 (some .int) :: xG) := fun w hw => List.mem_cons_of_mem _ hw
  refine xrun_sound (nst := 0) (isInit := false) (kd := kdX12) X (xcls_mono hT xclsG) (xpool_mono hT plX12) (fun z => by cases z) (fun idx v hf => xkoE_mono hT (koX12_ok _ (xfind_mem hf))) (xents (ca := _) ?_) (endI hE).1 (endI hE).2 (xcuts (cu := _) ?_) pr_X12_removes.1 pr_X12_removes.2 _ _ _ _ _ _ _ _ (xat_ok pr_X12_removes.1 pr_X12_removes.2).1 (xat_ok pr_X12_removes.1 pr_X12_removes.2).2.1 (xat_ok pr_X12_removes.1 pr_X12_removes.2).2.2 h
  · exact (List.forall_mem_cons.mpr ⟨(xent_met X (ci := 12) hT cd_X12_isFile lk_X12_258 rfl (by decide) rfl (by decide +kernel) (fun z => absurd z (by decide)) (hw_X12_isFile l D cA sA fu 0) (fun _ => ⟨by decide, fun _ => ⟨TX12, 29, rfl⟩⟩) (by constructor <;> omega) (by decide)), (List.forall_mem_cons.mpr ⟨(xent_met X (ci := 12) hT cd_X12_isOrphan lk_X12_270 rfl (by decide) rfl (by decide +kernel) (fun z => absurd z (by decide)) (hw_X12_isOrphan l D cA sA fu 0) (fun _ => ⟨by decide, fun _ => ⟨TX12, 29, rfl⟩⟩) (by constructor <;> omega) (by decide)), (List.forall_mem_cons.mpr ⟨(xent_met X (ci := 12) hT cd_X12_pagesKept lk_X12_274 rfl (by decide) rfl (by decide +kernel) (fun z => absurd z (by decide)) (hw_X12_pagesKept l D cA sA fu 0) (fun _ => ⟨by decide, fun _ => ⟨TX12, 29, rfl⟩⟩) (by constructor <;> omega) (by decide)), (List.forall_mem_cons.mpr ⟨(xent_met X (ci := 12) hT cd_X12_erased lk_X12_326 rfl (by decide) rfl (by decide +kernel) (fun z => absurd z (by decide)) (hw_X12_erased l D cA sA fu 0) (fun _ => ⟨by decide, fun _ => ⟨TX12, 29, rfl⟩⟩) (by constructor <;> omega) (by decide)), (List.forall_mem_cons.mpr ⟨(xent_met X (ci := 12) hT cd_X12_cutFirst lk_X12_355 rfl (by decide) rfl (by decide +kernel) (fun z => absurd z (by decide)) (hw_X12_cutFirst l D cA sA fu 0) (fun _ => ⟨by decide, fun _ => ⟨TX12, 29, rfl⟩⟩) (by constructor <;> omega) (by decide)), (List.forall_mem_cons.mpr ⟨(xent_met X (ci := 12) hT cd_X12_putsNew lk_X12_361 rfl (by decide) rfl (by decide +kernel) (fun z => absurd z (by decide)) (hw_X12_putsNew l D cA sA fu 0) (fun _ => ⟨by decide, fun _ => ⟨TX12, 29, rfl⟩⟩) (by constructor <;> omega) (by decide)), (List.forall_mem_cons.mpr ⟨(xent_met X (ci := 12) hT cd_X12_mappedOf lk_X12_368 rfl (by decide) rfl (by decide +kernel) (fun z => absurd z (by decide)) (hw_X12_mappedOf l D cA sA fu 0) (fun _ => ⟨by decide, fun _ => ⟨TX12, 29, rfl⟩⟩) (by constructor <;> omega) (by decide)), (List.forall_mem_cons.mpr ⟨(xent_met X (ci := 12) hT cd_X12_isOpen lk_X12_371 rfl (by decide) rfl (by decide +kernel) (fun z => absurd z (by decide)) (hw_X12_isOpen l D cA sA fu 0) (fun _ => ⟨by decide, fun _ => ⟨TX12, 29, rfl⟩⟩) (by constructor <;> omega) (by decide)), (List.forall_mem_cons.mpr ⟨(xent_met X (ci := 12) hT cd_X12_unmaps lk_X12_374 rfl (by decide) rfl (by decide +kernel) (fun z => absurd z (by decide)) (hw_X12_unmaps l D cA sA fu 0) (fun _ => ⟨by decide, fun _ => ⟨TX12, 29, rfl⟩⟩) (by constructor <;> omega) (by decide)), (fun _ h => nomatch h)⟩)⟩)⟩)⟩)⟩)⟩)⟩)⟩)⟩)
  · exact (fun _ h => nomatch h)

theorem ok_X12_removes (l : Launch) (D : va_G) (cA : Nat → ClassId) (sA : Nat → Nat) (fu : Nat) (s : Nat) (x1 : Int32) (x2 : Int32) (M : xM) {rr : Int32 × xM} (h : F_X12_removes fu s x1 x2 M = some rr) : xMet l D cA sA yX12_removes cX12_removes 3 (some .int) xG (9 + 1) 0 0 [.inr (.inr (12, some s)), .inl x1, .inl x2] M (some (.inl rr.1)) rr.2 :=
  xmet_of (by decide +kernel) (Nat.le_of_ble_eq_true rfl) (fun p e s1 m ag below meth c0 A0 ad0 Z X hn hE => wx_X12_removes X hn ⟨Nat.le_refl _, Nat.le_refl _⟩ hE fu s x1 x2 M h)
theorem hw_X12_removes (l : Launch) (D : va_G) (cA : Nat → ClassId) (sA : Nat → Nat) (fu : Nat) {ρ : Type} {r0 : ρ} (kd1 : Nat) : ∀ (as : List xV) (M : xM) (k : Option xV → xM → Option ρ), w_X12_removes fu as M k = some r0 → ∃ v M', xMet l D cA sA yX12_removes cX12_removes 3 (some .int) xG (9 + 1) 0 0 as M v M' ∧ k v M' = some r0 ∧ (kd1 ≠ 2 → ∃ a as', as = .inr (.inr (12, some a)) :: as') := by
  intro as M k h
  unfold w_X12_removes at h
  replace h := pR_some h
  obtain ⟨o, as1, rfl, h⟩ := h
  replace h := bd_some h
  obtain ⟨s, rfl, h⟩ := h
  replace h := pI_some h
  obtain ⟨x1, as1, rfl, h⟩ := h
  replace h := pI_some h
  obtain ⟨x2, as1, rfl, h⟩ := h
  replace h := xe_some h
  obtain ⟨rfl, h⟩ := h
  obtain ⟨p1, hp, h⟩ := Option.bind_eq_some_iff.mp h
  exact ⟨_, _, ok_X12_removes l D cA sA fu s x1 x2 M hp, h, fun _ => ⟨_, _, rfl⟩⟩
theorem cd_X12_opens : Cond.code yX12_opens cX12_opens 4 (some .boolean) ∈ xG := (xg 1959 (by decide +kernel) (by decide +kernel))
theorem pr_X12_opens : (∀ e ∈ pX12_opens, xrow cX12_opens 4 kdX12 flX12 0 false RX12 e) ∧ xnext pX12_opens = true := xrows (by decide +kernel)
set_option maxRecDepth 100000 in
theorem wx_X12_opens (X : xCtx p R S0 m ag c0 D cA A0 sA 4 cX12_opens RX12 (.code yX12_opens cX12_opens 4 (some .boolean) :: xG) 0 0) (hi : meth.name = yX12_opens.name) (hroom : 2 + 2 ≤ R.frames ∧ 60 * (2 + 2) ≤ R.locals) {rr : Int32 × xM} (hE : xEnd l D cA sA cX12_opens 4 (some .boolean) R 0 0 (some (.inl rr.1)) rr.2 p e S0 m ag below meth c0 A0 M0 ad0 Z) (fu : Nat) (s : Nat) (x1 : Int32) (x2 : Int32) (x3 : Int32) (M : xM) (h : F_X12_opens fu s x1 x2 x3 M = some rr) : xWx p l e R S0 m ag below meth c0 D cA A0 sA M0 ad0 4 Z 0 0 0 0 0 [(0, .inr (.inr (12, some s))), (1, .inl x1), (2, .inl x2), (3, .inl x3)] [] M := by
  rw [← q_X12_opens fu s x1 x2 x3 M] at h
  have hT : ∀ w ∈ xG, w ∈ (Cond.code yX12_opens cX12_opens 4 (some .boolean) :: xG) := fun w hw => List.mem_cons_of_mem _ hw
  refine xrun_sound (nst := 0) (isInit := false) (kd := kdX12) X (xcls_mono hT xclsG) (xpool_mono hT plX12) (fun z => by cases z) (fun idx v hf => xkoE_mono hT (koX12_ok _ (xfind_mem hf))) (xents (ca := _) ?_) (endZ hE).1 (endZ hE).2 (xcuts (cu := _) ?_) pr_X12_opens.1 pr_X12_opens.2 _ _ _ _ _ _ _ _ (xat_ok pr_X12_opens.1 pr_X12_opens.2).1 (xat_ok pr_X12_opens.1 pr_X12_opens.2).2.1 (xat_ok pr_X12_opens.1 pr_X12_opens.2).2.2 h
  · exact (List.forall_mem_cons.mpr ⟨(xent_met X (ci := 12) hT cd_X12_isFile lk_X12_258 rfl (by decide) rfl (by decide +kernel) (fun z => absurd z (by decide)) (hw_X12_isFile l D cA sA fu 0) (fun _ => ⟨by decide, fun _ => ⟨TX12, 29, rfl⟩⟩) (by constructor <;> omega) (by decide)), (List.forall_mem_cons.mpr ⟨(xent_met X (ci := 12) hT cd_X12_isOrphan lk_X12_270 rfl (by decide) rfl (by decide +kernel) (fun z => absurd z (by decide)) (hw_X12_isOrphan l D cA sA fu 0) (fun _ => ⟨by decide, fun _ => ⟨TX12, 29, rfl⟩⟩) (by constructor <;> omega) (by decide)), (List.forall_mem_cons.mpr ⟨(xent_met X (ci := 12) hT cd_X12_isOpen lk_X12_371 rfl (by decide) rfl (by decide +kernel) (fun z => absurd z (by decide)) (hw_X12_isOpen l D cA sA fu 0) (fun _ => ⟨by decide, fun _ => ⟨TX12, 29, rfl⟩⟩) (by constructor <;> omega) (by decide)), (List.forall_mem_cons.mpr ⟨(xent_met X (ci := 12) hT cd_X12_unmaps lk_X12_374 rfl (by decide) rfl (by decide +kernel) (fun z => absurd z (by decide)) (hw_X12_unmaps l D cA sA fu 0) (fun _ => ⟨by decide, fun _ => ⟨TX12, 29, rfl⟩⟩) (by constructor <;> omega) (by decide)), (fun _ h => nomatch h)⟩)⟩)⟩)⟩)
  · exact (fun _ h => nomatch h)

theorem ok_X12_opens (l : Launch) (D : va_G) (cA : Nat → ClassId) (sA : Nat → Nat) (fu : Nat) (s : Nat) (x1 : Int32) (x2 : Int32) (x3 : Int32) (M : xM) {rr : Int32 × xM} (h : F_X12_opens fu s x1 x2 x3 M = some rr) : xMet l D cA sA yX12_opens cX12_opens 4 (some .boolean) xG (2 + 1) 0 0 [.inr (.inr (12, some s)), .inl x1, .inl x2, .inl x3] M (some (.inl rr.1)) rr.2 :=
  xmet_of (by decide +kernel) (Nat.le_of_ble_eq_true rfl) (fun p e s1 m ag below meth c0 A0 ad0 Z X hn hE => wx_X12_opens X hn ⟨Nat.le_refl _, Nat.le_refl _⟩ hE fu s x1 x2 x3 M h)
theorem hw_X12_opens (l : Launch) (D : va_G) (cA : Nat → ClassId) (sA : Nat → Nat) (fu : Nat) {ρ : Type} {r0 : ρ} (kd1 : Nat) : ∀ (as : List xV) (M : xM) (k : Option xV → xM → Option ρ), w_X12_opens fu as M k = some r0 → ∃ v M', xMet l D cA sA yX12_opens cX12_opens 4 (some .boolean) xG (2 + 1) 0 0 as M v M' ∧ k v M' = some r0 ∧ (kd1 ≠ 2 → ∃ a as', as = .inr (.inr (12, some a)) :: as') := by
  intro as M k h
  unfold w_X12_opens at h
  replace h := pR_some h
  obtain ⟨o, as1, rfl, h⟩ := h
  replace h := bd_some h
  obtain ⟨s, rfl, h⟩ := h
  replace h := pI_some h
  obtain ⟨x1, as1, rfl, h⟩ := h
  replace h := pI_some h
  obtain ⟨x2, as1, rfl, h⟩ := h
  replace h := pI_some h
  obtain ⟨x3, as1, rfl, h⟩ := h
  replace h := xe_some h
  obtain ⟨rfl, h⟩ := h
  obtain ⟨p1, hp, h⟩ := Option.bind_eq_some_iff.mp h
  exact ⟨_, _, ok_X12_opens l D cA sA fu s x1 x2 x3 M hp, h, fun _ => ⟨_, _, rfl⟩⟩
theorem lk_X12_383 : xLink xG RX12 383 0 yX12_writes 4 := ⟨Or.inl (xg 1865 (by decide +kernel) (by decide +kernel)), (xg 1867 (by decide +kernel) (by decide +kernel)), (xg 87 (by decide +kernel) (by decide +kernel)), (xg 141 (by decide +kernel) (by decide +kernel)), ⟨12, by decide, TX12, 29, rfl⟩⟩
theorem lk_X12_386 : xLink xG RX12 386 0 yX12_removes 2 := ⟨Or.inl (xg 1944 (by decide +kernel) (by decide +kernel)), (xg 1946 (by decide +kernel) (by decide +kernel)), (xg 105 (by decide +kernel) (by decide +kernel)), (xg 141 (by decide +kernel) (by decide +kernel)), ⟨12, by decide, TX12, 29, rfl⟩⟩
theorem lk_X12_389 : xLink xG RX12 389 0 yX12_opens 3 := ⟨Or.inl (xg 1956 (by decide +kernel) (by decide +kernel)), (xg 1958 (by decide +kernel) (by decide +kernel)), (xg 107 (by decide +kernel) (by decide +kernel)), (xg 141 (by decide +kernel) (by decide +kernel)), ⟨12, by decide, TX12, 29, rfl⟩⟩
theorem cd_X12_doesLine : Cond.code yX12_doesLine cX12_doesLine 4 (some .boolean) ∈ xG := (xg 1995 (by decide +kernel) (by decide +kernel))
theorem pr_X12_doesLine : (∀ e ∈ pX12_doesLine, xrow cX12_doesLine 4 kdX12 flX12 0 false RX12 e) ∧ xnext pX12_doesLine = true := xrows (by decide +kernel)
set_option maxRecDepth 100000 in
theorem wx_X12_doesLine (X : xCtx p R S0 m ag c0 D cA A0 sA 4 cX12_doesLine RX12 (.code yX12_doesLine cX12_doesLine 4 (some .boolean) :: xG) 0 0) (hi : meth.name = yX12_doesLine.name) (hroom : 10 + 2 ≤ R.frames ∧ 60 * (10 + 2) ≤ R.locals) {rr : Int32 × xM} (hE : xEnd l D cA sA cX12_doesLine 4 (some .boolean) R 0 0 (some (.inl rr.1)) rr.2 p e S0 m ag below meth c0 A0 M0 ad0 Z) (fu : Nat) (s : Nat) (x1 : Int32) (x2 : Int32) (M : xM) (h : F_X12_doesLine fu s x1 x2 M = some rr) : xWx p l e R S0 m ag below meth c0 D cA A0 sA M0 ad0 4 Z 0 0 0 0 0 [(0, .inr (.inr (12, some s))), (1, .inl x1), (2, .inl x2)] [] M := by
  rw [← q_X12_doesLine fu s x1 x2 M] at h
  have hT : ∀ w ∈ xG, w ∈ (Cond.code yX12_doesLine cX12_doesLine 4 (some .boolean) :: xG) := fun w hw => List.mem_cons_of_mem _ hw
  refine xrun_sound (nst := 0) (isInit := false) (kd := kdX12) X (xcls_mono hT xclsG) (xpool_mono hT plX12) (fun z => by cases z) (fun idx v hf => xkoE_mono hT (koX12_ok _ (xfind_mem hf))) (xents (ca := _) ?_) (endZ hE).1 (endZ hE).2 (xcuts (cu := _) ?_) pr_X12_doesLine.1 pr_X12_doesLine.2 _ _ _ _ _ _ _ _ (xat_ok pr_X12_doesLine.1 pr_X12_doesLine.2).1 (xat_ok pr_X12_doesLine.1 pr_X12_doesLine.2).2.1 (xat_ok pr_X12_doesLine.1 pr_X12_doesLine.2).2.2 h
  · exact (List.forall_mem_cons.mpr ⟨(xent_met X (ci := 12) hT cd_X12_collects lk_X12_342 rfl (by decide) rfl (by decide +kernel) (fun z => absurd z (by decide)) (hw_X12_collects l D cA sA fu 0) (fun _ => ⟨by decide, fun _ => ⟨TX12, 29, rfl⟩⟩) (by constructor <;> omega) (by decide)), (List.forall_mem_cons.mpr ⟨(xent_met X (ci := 12) hT cd_X12_commits lk_X12_365 rfl (by decide) rfl (by decide +kernel) (fun z => absurd z (by decide)) (hw_X12_commits l D cA sA fu 0) (fun _ => ⟨by decide, fun _ => ⟨TX12, 29, rfl⟩⟩) (by constructor <;> omega) (by decide)), (List.forall_mem_cons.mpr ⟨(xent_met X (ci := 12) hT cd_X12_writes lk_X12_383 rfl (by decide) rfl (by decide +kernel) (fun z => absurd z (by decide)) (hw_X12_writes l D cA sA fu 0) (fun _ => ⟨by decide, fun _ => ⟨TX12, 29, rfl⟩⟩) (by constructor <;> omega) (by decide)), (List.forall_mem_cons.mpr ⟨(xent_met X (ci := 12) hT cd_X12_removes lk_X12_386 rfl (by decide) rfl (by decide +kernel) (fun z => absurd z (by decide)) (hw_X12_removes l D cA sA fu 0) (fun _ => ⟨by decide, fun _ => ⟨TX12, 29, rfl⟩⟩) (by constructor <;> omega) (by decide)), (List.forall_mem_cons.mpr ⟨(xent_met X (ci := 12) hT cd_X12_opens lk_X12_389 rfl (by decide) rfl (by decide +kernel) (fun z => absurd z (by decide)) (hw_X12_opens l D cA sA fu 0) (fun _ => ⟨by decide, fun _ => ⟨TX12, 29, rfl⟩⟩) (by constructor <;> omega) (by decide)), (fun _ h => nomatch h)⟩)⟩)⟩)⟩)⟩)
  · exact (fun _ h => nomatch h)

theorem ok_X12_doesLine (l : Launch) (D : va_G) (cA : Nat → ClassId) (sA : Nat → Nat) (fu : Nat) (s : Nat) (x1 : Int32) (x2 : Int32) (M : xM) {rr : Int32 × xM} (h : F_X12_doesLine fu s x1 x2 M = some rr) : xMet l D cA sA yX12_doesLine cX12_doesLine 4 (some .boolean) xG (10 + 1) 0 0 [.inr (.inr (12, some s)), .inl x1, .inl x2] M (some (.inl rr.1)) rr.2 :=
  xmet_of (by decide +kernel) (Nat.le_of_ble_eq_true rfl) (fun p e s1 m ag below meth c0 A0 ad0 Z X hn hE => wx_X12_doesLine X hn ⟨Nat.le_refl _, Nat.le_refl _⟩ hE fu s x1 x2 M h)
theorem hw_X12_doesLine (l : Launch) (D : va_G) (cA : Nat → ClassId) (sA : Nat → Nat) (fu : Nat) {ρ : Type} {r0 : ρ} (kd1 : Nat) : ∀ (as : List xV) (M : xM) (k : Option xV → xM → Option ρ), w_X12_doesLine fu as M k = some r0 → ∃ v M', xMet l D cA sA yX12_doesLine cX12_doesLine 4 (some .boolean) xG (10 + 1) 0 0 as M v M' ∧ k v M' = some r0 ∧ (kd1 ≠ 2 → ∃ a as', as = .inr (.inr (12, some a)) :: as') := by
  intro as M k h
  unfold w_X12_doesLine at h
  replace h := pR_some h
  obtain ⟨o, as1, rfl, h⟩ := h
  replace h := bd_some h
  obtain ⟨s, rfl, h⟩ := h
  replace h := pI_some h
  obtain ⟨x1, as1, rfl, h⟩ := h
  replace h := pI_some h
  obtain ⟨x2, as1, rfl, h⟩ := h
  replace h := xe_some h
  obtain ⟨rfl, h⟩ := h
  obtain ⟨p1, hp, h⟩ := Option.bind_eq_some_iff.mp h
  exact ⟨_, _, ok_X12_doesLine l D cA sA fu s x1 x2 M hp, h, fun _ => ⟨_, _, rfl⟩⟩
theorem cd_X12_putsOfAll : Cond.code yX12_putsOfAll cX12_putsOfAll 1 (some .int) ∈ xG := (xg 2020 (by decide +kernel) (by decide +kernel))
theorem pr_X12_putsOfAll : (∀ e ∈ pX12_putsOfAll, xrow cX12_putsOfAll 1 kdX12 flX12 0 false RX12 e) ∧ xnext pX12_putsOfAll = true := xrows (by decide +kernel)
set_option maxRecDepth 100000 in
theorem wx_X12_putsOfAll (X : xCtx p R S0 m ag c0 D cA A0 sA 1 cX12_putsOfAll RX12 (.code yX12_putsOfAll cX12_putsOfAll 1 (some .int) :: xG) 0 0) (hi : meth.name = yX12_putsOfAll.name) (hroom : 0 + 2 ≤ R.frames ∧ 60 * (0 + 2) ≤ R.locals) {rr : Int32 × xM} (hE : xEnd l D cA sA cX12_putsOfAll 1 (some .int) R 0 0 (some (.inl rr.1)) rr.2 p e S0 m ag below meth c0 A0 M0 ad0 Z) (fu : Nat) (s : Nat) (M : xM) (h : F_X12_putsOfAll fu s M = some rr) : xWx p l e R S0 m ag below meth c0 D cA A0 sA M0 ad0 1 Z 0 0 0 0 0 [(0, .inr (.inr (12, some s)))] [] M := by
  rw [← q_X12_putsOfAll fu s M] at h
  have hT : ∀ w ∈ xG, w ∈ (Cond.code yX12_putsOfAll cX12_putsOfAll 1 (some .int) :: xG) := fun w hw => List.mem_cons_of_mem _ hw
  refine xrun_sound (nst := 0) (isInit := false) (kd := kdX12) X (xcls_mono hT xclsG) (xpool_mono hT plX12) (fun z => by cases z) (fun idx v hf => xkoE_mono hT (koX12_ok _ (xfind_mem hf))) (xents (ca := _) ?_) (endI hE).1 (endI hE).2 (xcuts (cu := _) ?_) pr_X12_putsOfAll.1 pr_X12_putsOfAll.2 _ _ _ _ _ _ _ _ (xat_ok pr_X12_putsOfAll.1 pr_X12_putsOfAll.2).1 (xat_ok pr_X12_putsOfAll.1 pr_X12_putsOfAll.2).2.1 (xat_ok pr_X12_putsOfAll.1 pr_X12_putsOfAll.2).2.2 h
  · exact (fun _ h => nomatch h)
  · exact (fun _ h => nomatch h)

theorem ok_X12_putsOfAll (l : Launch) (D : va_G) (cA : Nat → ClassId) (sA : Nat → Nat) (fu : Nat) (s : Nat) (M : xM) {rr : Int32 × xM} (h : F_X12_putsOfAll fu s M = some rr) : xMet l D cA sA yX12_putsOfAll cX12_putsOfAll 1 (some .int) xG (0 + 1) 0 0 [.inr (.inr (12, some s))] M (some (.inl rr.1)) rr.2 :=
  xmet_of (by decide +kernel) (Nat.le_of_ble_eq_true rfl) (fun p e s1 m ag below meth c0 A0 ad0 Z X hn hE => wx_X12_putsOfAll X hn ⟨Nat.le_refl _, Nat.le_refl _⟩ hE fu s M h)
theorem hw_X12_putsOfAll (l : Launch) (D : va_G) (cA : Nat → ClassId) (sA : Nat → Nat) (fu : Nat) {ρ : Type} {r0 : ρ} (kd1 : Nat) : ∀ (as : List xV) (M : xM) (k : Option xV → xM → Option ρ), w_X12_putsOfAll fu as M k = some r0 → ∃ v M', xMet l D cA sA yX12_putsOfAll cX12_putsOfAll 1 (some .int) xG (0 + 1) 0 0 as M v M' ∧ k v M' = some r0 ∧ (kd1 ≠ 2 → ∃ a as', as = .inr (.inr (12, some a)) :: as') := by
  intro as M k h
  unfold w_X12_putsOfAll at h
  replace h := pR_some h
  obtain ⟨o, as1, rfl, h⟩ := h
  replace h := bd_some h
  obtain ⟨s, rfl, h⟩ := h
  replace h := xe_some h
  obtain ⟨rfl, h⟩ := h
  obtain ⟨p1, hp, h⟩ := Option.bind_eq_some_iff.mp h
  exact ⟨_, _, ok_X12_putsOfAll l D cA sA fu s M hp, h, fun _ => ⟨_, _, rfl⟩⟩
theorem lk_X12_393 : xLink xG RX12 393 0 yX12_mounts 1 := ⟨Or.inl (xg 1980 (by decide +kernel) (by decide +kernel)), (xg 1982 (by decide +kernel) (by decide +kernel)), (xg 108 (by decide +kernel) (by decide +kernel)), (xg 141 (by decide +kernel) (by decide +kernel)), ⟨12, by decide, TX12, 29, rfl⟩⟩
theorem lk_X12_396 : xLink xG RX12 396 0 yX12_doesLine 2 := ⟨Or.inl (xg 1992 (by decide +kernel) (by decide +kernel)), (xg 1994 (by decide +kernel) (by decide +kernel)), (xg 110 (by decide +kernel) (by decide +kernel)), (xg 141 (by decide +kernel) (by decide +kernel)), ⟨12, by decide, TX12, 29, rfl⟩⟩
theorem lk_X12_410 : xLink xG RX12 410 0 yX12_packs 3 := ⟨Or.inl (xg 2008 (by decide +kernel) (by decide +kernel)), (xg 2010 (by decide +kernel) (by decide +kernel)), (xg 113 (by decide +kernel) (by decide +kernel)), (xg 141 (by decide +kernel) (by decide +kernel)), ⟨12, by decide, TX12, 29, rfl⟩⟩
theorem lk_X12_249 : xLink xG RX12 249 0 yX12_starts 1 := ⟨Or.inl (xg 1556 (by decide +kernel) (by decide +kernel)), (xg 1558 (by decide +kernel) (by decide +kernel)), (xg 43 (by decide +kernel) (by decide +kernel)), (xg 141 (by decide +kernel) (by decide +kernel)), ⟨12, by decide, TX12, 29, rfl⟩⟩
theorem lk_X12_414 : xLink xG RX12 414 0 yX12_putsOfAll 0 := ⟨Or.inl (xg 2017 (by decide +kernel) (by decide +kernel)), (xg 2019 (by decide +kernel) (by decide +kernel)), (xg 115 (by decide +kernel) (by decide +kernel)), (xg 141 (by decide +kernel) (by decide +kernel)), ⟨12, by decide, TX12, 29, rfl⟩⟩
theorem lk_X12_406 : xLink xG RX12 406 0 yX12_moves 3 := ⟨Or.inl (xg 2004 (by decide +kernel) (by decide +kernel)), (xg 2006 (by decide +kernel) (by decide +kernel)), (xg 112 (by decide +kernel) (by decide +kernel)), (xg 141 (by decide +kernel) (by decide +kernel)), ⟨12, by decide, TX12, 29, rfl⟩⟩
theorem cd_X12_runs : Cond.code yX12_runs cX12_runs 3 none ∈ xG := (xg 2003 (by decide +kernel) (by decide +kernel))
theorem pr_X12_runs : (∀ e ∈ pX12_runs, xrow cX12_runs 3 kdX12 flX12 0 false RX12 e) ∧ xnext pX12_runs = true := xrows (by decide +kernel)
set_option maxRecDepth 100000 in
theorem wx_X12_runs_138 (X : xCtx p R S0 m ag c0 D cA A0 sA 3 cX12_runs RX12 (.code yX12_runs cX12_runs 3 none :: xG) 0 0) (hi : meth.name = yX12_runs.name) (hroom : 11 + 2 ≤ R.frames ∧ 60 * (11 + 2) ≤ R.locals) {rr : xM} (hE : xEnd l D cA sA cX12_runs 3 none R 0 0 none rr p e S0 m ag below meth c0 A0 M0 ad0 Z) (fu : Nat) (k112 : Nat → Int32 → xM → Option xM) (hk112 : ∀ (s : Nat) (x1 : Int32) (M : xM), k112 s x1 M = some rr → xWx p l e R S0 m ag below meth c0 D cA A0 sA M0 ad0 3 Z 0 0 112 0 0 [(0, .inr (.inr (12, some s))), (1, .inl x1)] [] M) : ∀ (n : Nat) (s : Nat) (x1 : Int32) (x2 : Int32) (M : xM), L_X12_runs_138 fu k112 n s x1 x2 M = some rr → xWx p l e R S0 m ag below meth c0 D cA A0 sA M0 ad0 3 Z 0 0 138 0 0 [(0, .inr (.inr (12, some s))), (1, .inl x1), (2, .inl x2)] [] M := by
  intro n
  induction n with
  | zero => intro s x1 x2 M h; cases h
  | succ n ih =>
    intro s x1 x2 M h
    rw [← q_X12_runs_138 fu k112 n s x1 x2 M] at h
    have hT : ∀ w ∈ xG, w ∈ (Cond.code yX12_runs cX12_runs 3 none :: xG) := fun w hw => List.mem_cons_of_mem _ hw
    refine xrun_sound (nst := 0) (isInit := false) (kd := kdX12) X (xcls_mono hT xclsG) (xpool_mono hT plX12) (fun z => by cases z) (fun idx v hf => xkoE_mono hT (koX12_ok _ (xfind_mem hf))) (xents (ca := _) ?_) (endV hE).1 (endV hE).2 (xcuts (cu := _) ?_) pr_X12_runs.1 pr_X12_runs.2 _ _ _ _ _ _ _ _ (xat_ok pr_X12_runs.1 pr_X12_runs.2).1 (xat_ok pr_X12_runs.1 pr_X12_runs.2).2.1 (xat_ok pr_X12_runs.1 pr_X12_runs.2).2.2 h
    · exact (List.forall_mem_cons.mpr ⟨(xent_met X (ci := 12) hT cd_X12_mounts lk_X12_393 rfl (by decide) rfl (by decide +kernel) (fun z => absurd z (by decide)) (hw_X12_mounts l D cA sA fu 0) (fun _ => ⟨by decide, fun _ => ⟨TX12, 29, rfl⟩⟩) (by constructor <;> omega) (by decide)), (List.forall_mem_cons.mpr ⟨(xent_met X (ci := 12) hT cd_X12_doesLine lk_X12_396 rfl (by decide) rfl (by decide +kernel) (fun z => absurd z (by decide)) (hw_X12_doesLine l D cA sA fu 0) (fun _ => ⟨by decide, fun _ => ⟨TX12, 29, rfl⟩⟩) (by constructor <;> omega) (by decide)), (List.forall_mem_cons.mpr ⟨(xent_met X (ci := 12) hT cd_X12_packs lk_X12_410 rfl (by decide) rfl (by decide +kernel) (fun z => absurd z (by decide)) (hw_X12_packs l D cA sA fu 0) (fun _ => ⟨by decide, fun _ => ⟨TX12, 29, rfl⟩⟩) (by constructor <;> omega) (by decide)), (fun _ h => nomatch h)⟩)⟩)⟩)
    · refine (List.forall_mem_cons.mpr ⟨?_, (List.forall_mem_cons.mpr ⟨?_, (fun _ h => nomatch h)⟩)⟩)
      · intro bc bs ls st M h
        replace h := xz_some h
        obtain ⟨rfl, rfl, h⟩ := h
        replace h := lR_some h
        obtain ⟨o, e0, h⟩ := h
        replace h := bd_some h
        obtain ⟨s', rfl, h⟩ := h
        replace h := lI_some h
        obtain ⟨x1', e1, h⟩ := h
        replace h := xe_some h
        obtain ⟨rfl, h⟩ := h
        exact xWx_ls (hk112 s' x1' M h) (List.forall_mem_cons.mpr ⟨e0, (List.forall_mem_cons.mpr ⟨e1, (fun _ h => nomatch h)⟩)⟩)
      · intro bc bs ls st M h
        replace h := xz_some h
        obtain ⟨rfl, rfl, h⟩ := h
        replace h := lR_some h
        obtain ⟨o, e0, h⟩ := h
        replace h := bd_some h
        obtain ⟨s', rfl, h⟩ := h
        replace h := lI_some h
        obtain ⟨x1', e1, h⟩ := h
        replace h := lI_some h
        obtain ⟨x2', e2, h⟩ := h
        replace h := xe_some h
        obtain ⟨rfl, h⟩ := h
        exact xWx_ls (ih s' x1' x2' M h) (List.forall_mem_cons.mpr ⟨e0, (List.forall_mem_cons.mpr ⟨e1, (List.forall_mem_cons.mpr ⟨e2, (fun _ h => nomatch h)⟩)⟩)⟩)

set_option maxRecDepth 100000 in
theorem wx_X12_runs_112 (X : xCtx p R S0 m ag c0 D cA A0 sA 3 cX12_runs RX12 (.code yX12_runs cX12_runs 3 none :: xG) 0 0) (hi : meth.name = yX12_runs.name) (hroom : 11 + 2 ≤ R.frames ∧ 60 * (11 + 2) ≤ R.locals) {rr : xM} (hE : xEnd l D cA sA cX12_runs 3 none R 0 0 none rr p e S0 m ag below meth c0 A0 M0 ad0 Z) (fu : Nat) : ∀ (n : Nat) (s : Nat) (x1 : Int32) (M : xM), L_X12_runs_112 fu n s x1 M = some rr → xWx p l e R S0 m ag below meth c0 D cA A0 sA M0 ad0 3 Z 0 0 112 0 0 [(0, .inr (.inr (12, some s))), (1, .inl x1)] [] M := by
  intro n
  induction n with
  | zero => intro s x1 M h; cases h
  | succ n ih =>
    intro s x1 M h
    rw [← q_X12_runs_112 fu n s x1 M] at h
    have hT : ∀ w ∈ xG, w ∈ (Cond.code yX12_runs cX12_runs 3 none :: xG) := fun w hw => List.mem_cons_of_mem _ hw
    refine xrun_sound (nst := 0) (isInit := false) (kd := kdX12) X (xcls_mono hT xclsG) (xpool_mono hT plX12) (fun z => by cases z) (fun idx v hf => xkoE_mono hT (koX12_ok _ (xfind_mem hf))) (xents (ca := _) ?_) (endV hE).1 (endV hE).2 (xcuts (cu := _) ?_) pr_X12_runs.1 pr_X12_runs.2 _ _ _ _ _ _ _ _ (xat_ok pr_X12_runs.1 pr_X12_runs.2).1 (xat_ok pr_X12_runs.1 pr_X12_runs.2).2.1 (xat_ok pr_X12_runs.1 pr_X12_runs.2).2.2 h
    · exact (List.forall_mem_cons.mpr ⟨(xent_met X (ci := 12) hT cd_X12_starts lk_X12_249 rfl (by decide) rfl (by decide +kernel) (fun z => absurd z (by decide)) (hw_X12_starts l D cA sA fu 0) (fun _ => ⟨by decide, fun _ => ⟨TX12, 29, rfl⟩⟩) (by constructor <;> omega) (by decide)), (List.forall_mem_cons.mpr ⟨(xent_met X (ci := 12) hT cd_X12_putsOfAll lk_X12_414 rfl (by decide) rfl (by decide +kernel) (fun z => absurd z (by decide)) (hw_X12_putsOfAll l D cA sA fu 0) (fun _ => ⟨by decide, fun _ => ⟨TX12, 29, rfl⟩⟩) (by constructor <;> omega) (by decide)), (fun _ h => nomatch h)⟩)⟩)
    · refine (List.forall_mem_cons.mpr ⟨?_, (fun _ h => nomatch h)⟩)
      · intro bc bs ls st M h
        replace h := xz_some h
        obtain ⟨rfl, rfl, h⟩ := h
        replace h := lR_some h
        obtain ⟨o, e0, h⟩ := h
        replace h := bd_some h
        obtain ⟨s', rfl, h⟩ := h
        replace h := lI_some h
        obtain ⟨x1', e1, h⟩ := h
        replace h := lI_some h
        obtain ⟨x2', e2, h⟩ := h
        replace h := xe_some h
        obtain ⟨rfl, h⟩ := h
        exact xWx_ls (wx_X12_runs_138 X hi hroom hE fu _ ih fu s' x1' x2' M h) (List.forall_mem_cons.mpr ⟨e0, (List.forall_mem_cons.mpr ⟨e1, (List.forall_mem_cons.mpr ⟨e2, (fun _ h => nomatch h)⟩)⟩)⟩)

set_option maxRecDepth 100000 in
theorem wx_X12_runs_22 (X : xCtx p R S0 m ag c0 D cA A0 sA 3 cX12_runs RX12 (.code yX12_runs cX12_runs 3 none :: xG) 0 0) (hi : meth.name = yX12_runs.name) (hroom : 11 + 2 ≤ R.frames ∧ 60 * (11 + 2) ≤ R.locals) {rr : xM} (hE : xEnd l D cA sA cX12_runs 3 none R 0 0 none rr p e S0 m ag below meth c0 A0 M0 ad0 Z) (fu : Nat) : ∀ (n : Nat) (s : Nat) (x1 : Int32) (M : xM), L_X12_runs_22 fu n s x1 M = some rr → xWx p l e R S0 m ag below meth c0 D cA A0 sA M0 ad0 3 Z 0 0 22 0 0 [(0, .inr (.inr (12, some s))), (1, .inl x1)] [] M := by
  intro n
  induction n with
  | zero => intro s x1 M h; cases h
  | succ n ih =>
    intro s x1 M h
    rw [← q_X12_runs_22 fu n s x1 M] at h
    have hT : ∀ w ∈ xG, w ∈ (Cond.code yX12_runs cX12_runs 3 none :: xG) := fun w hw => List.mem_cons_of_mem _ hw
    refine xrun_sound (nst := 0) (isInit := false) (kd := kdX12) X (xcls_mono hT xclsG) (xpool_mono hT plX12) (fun z => by cases z) (fun idx v hf => xkoE_mono hT (koX12_ok _ (xfind_mem hf))) (xents (ca := _) ?_) (endV hE).1 (endV hE).2 (xcuts (cu := _) ?_) pr_X12_runs.1 pr_X12_runs.2 _ _ _ _ _ _ _ _ (xat_ok pr_X12_runs.1 pr_X12_runs.2).1 (xat_ok pr_X12_runs.1 pr_X12_runs.2).2.1 (xat_ok pr_X12_runs.1 pr_X12_runs.2).2.2 h
    · exact (List.forall_mem_cons.mpr ⟨(xent_met X (ci := 12) hT cd_X12_mounts lk_X12_393 rfl (by decide) rfl (by decide +kernel) (fun z => absurd z (by decide)) (hw_X12_mounts l D cA sA fu 0) (fun _ => ⟨by decide, fun _ => ⟨TX12, 29, rfl⟩⟩) (by constructor <;> omega) (by decide)), (List.forall_mem_cons.mpr ⟨(xent_met X (ci := 12) hT cd_X12_doesLine lk_X12_396 rfl (by decide) rfl (by decide +kernel) (fun z => absurd z (by decide)) (hw_X12_doesLine l D cA sA fu 0) (fun _ => ⟨by decide, fun _ => ⟨TX12, 29, rfl⟩⟩) (by constructor <;> omega) (by decide)), (List.forall_mem_cons.mpr ⟨(xent_met X (ci := 12) hT cd_X12_moves lk_X12_406 rfl (by decide) rfl (by decide +kernel) (fun z => absurd z (by decide)) (hw_X12_moves l D cA sA fu 0) (fun _ => ⟨by decide, fun _ => ⟨TX12, 29, rfl⟩⟩) (by constructor <;> omega) (by decide)), (List.forall_mem_cons.mpr ⟨(xent_met X (ci := 12) hT cd_X12_packs lk_X12_410 rfl (by decide) rfl (by decide +kernel) (fun z => absurd z (by decide)) (hw_X12_packs l D cA sA fu 0) (fun _ => ⟨by decide, fun _ => ⟨TX12, 29, rfl⟩⟩) (by constructor <;> omega) (by decide)), (fun _ h => nomatch h)⟩)⟩)⟩)⟩)
    · refine (List.forall_mem_cons.mpr ⟨?_, (List.forall_mem_cons.mpr ⟨?_, (fun _ h => nomatch h)⟩)⟩)
      · intro bc bs ls st M h
        replace h := xz_some h
        obtain ⟨rfl, rfl, h⟩ := h
        replace h := lR_some h
        obtain ⟨o, e0, h⟩ := h
        replace h := bd_some h
        obtain ⟨s', rfl, h⟩ := h
        replace h := lI_some h
        obtain ⟨x1', e1, h⟩ := h
        replace h := xe_some h
        obtain ⟨rfl, h⟩ := h
        exact xWx_ls (ih s' x1' M h) (List.forall_mem_cons.mpr ⟨e0, (List.forall_mem_cons.mpr ⟨e1, (fun _ h => nomatch h)⟩)⟩)
      · intro bc bs ls st M h
        replace h := xz_some h
        obtain ⟨rfl, rfl, h⟩ := h
        replace h := lR_some h
        obtain ⟨o, e0, h⟩ := h
        replace h := bd_some h
        obtain ⟨s', rfl, h⟩ := h
        replace h := lI_some h
        obtain ⟨x1', e1, h⟩ := h
        replace h := xe_some h
        obtain ⟨rfl, h⟩ := h
        exact xWx_ls (wx_X12_runs_112 X hi hroom hE fu fu s' x1' M h) (List.forall_mem_cons.mpr ⟨e0, (List.forall_mem_cons.mpr ⟨e1, (fun _ h => nomatch h)⟩)⟩)

set_option maxRecDepth 100000 in
theorem wx_X12_runs (X : xCtx p R S0 m ag c0 D cA A0 sA 3 cX12_runs RX12 (.code yX12_runs cX12_runs 3 none :: xG) 0 0) (hi : meth.name = yX12_runs.name) (hroom : 11 + 2 ≤ R.frames ∧ 60 * (11 + 2) ≤ R.locals) {rr : xM} (hE : xEnd l D cA sA cX12_runs 3 none R 0 0 none rr p e S0 m ag below meth c0 A0 M0 ad0 Z) (fu : Nat) (s : Nat) (M : xM) (h : F_X12_runs fu s M = some rr) : xWx p l e R S0 m ag below meth c0 D cA A0 sA M0 ad0 3 Z 0 0 0 0 0 [(0, .inr (.inr (12, some s)))] [] M := by
  rw [← q_X12_runs fu s M] at h
  have hT : ∀ w ∈ xG, w ∈ (Cond.code yX12_runs cX12_runs 3 none :: xG) := fun w hw => List.mem_cons_of_mem _ hw
  refine xrun_sound (nst := 0) (isInit := false) (kd := kdX12) X (xcls_mono hT xclsG) (xpool_mono hT plX12) (fun z => by cases z) (fun idx v hf => xkoE_mono hT (koX12_ok _ (xfind_mem hf))) (xents (ca := _) ?_) (endV hE).1 (endV hE).2 (xcuts (cu := _) ?_) pr_X12_runs.1 pr_X12_runs.2 _ _ _ _ _ _ _ _ (xat_ok pr_X12_runs.1 pr_X12_runs.2).1 (xat_ok pr_X12_runs.1 pr_X12_runs.2).2.1 (xat_ok pr_X12_runs.1 pr_X12_runs.2).2.2 h
  · exact (List.forall_mem_cons.mpr ⟨(xent_met X (ci := 12) hT cd_X12_starts lk_X12_249 rfl (by decide) rfl (by decide +kernel) (fun z => absurd z (by decide)) (hw_X12_starts l D cA sA fu 0) (fun _ => ⟨by decide, fun _ => ⟨TX12, 29, rfl⟩⟩) (by constructor <;> omega) (by decide)), (fun _ h => nomatch h)⟩)
  · refine (List.forall_mem_cons.mpr ⟨?_, (fun _ h => nomatch h)⟩)
    · intro bc bs ls st M h
      replace h := xz_some h
      obtain ⟨rfl, rfl, h⟩ := h
      replace h := lR_some h
      obtain ⟨o, e0, h⟩ := h
      replace h := bd_some h
      obtain ⟨s', rfl, h⟩ := h
      replace h := lI_some h
      obtain ⟨x1', e1, h⟩ := h
      replace h := xe_some h
      obtain ⟨rfl, h⟩ := h
      exact xWx_ls (wx_X12_runs_22 X hi hroom hE fu fu s' x1' M h) (List.forall_mem_cons.mpr ⟨e0, (List.forall_mem_cons.mpr ⟨e1, (fun _ h => nomatch h)⟩)⟩)

theorem ok_X12_runs (l : Launch) (D : va_G) (cA : Nat → ClassId) (sA : Nat → Nat) (fu : Nat) (s : Nat) (M : xM) {rr : xM} (h : F_X12_runs fu s M = some rr) : xMet l D cA sA yX12_runs cX12_runs 3 none xG (11 + 1) 0 0 [.inr (.inr (12, some s))] M none rr :=
  xmet_of (by decide +kernel) (Nat.le_of_ble_eq_true rfl) (fun p e s1 m ag below meth c0 A0 ad0 Z X hn hE => wx_X12_runs X hn ⟨Nat.le_refl _, Nat.le_refl _⟩ hE fu s M h)
theorem hw_X12_runs (l : Launch) (D : va_G) (cA : Nat → ClassId) (sA : Nat → Nat) (fu : Nat) {ρ : Type} {r0 : ρ} (kd1 : Nat) : ∀ (as : List xV) (M : xM) (k : Option xV → xM → Option ρ), w_X12_runs fu as M k = some r0 → ∃ v M', xMet l D cA sA yX12_runs cX12_runs 3 none xG (11 + 1) 0 0 as M v M' ∧ k v M' = some r0 ∧ (kd1 ≠ 2 → ∃ a as', as = .inr (.inr (12, some a)) :: as') := by
  intro as M k h
  unfold w_X12_runs at h
  replace h := pR_some h
  obtain ⟨o, as1, rfl, h⟩ := h
  replace h := bd_some h
  obtain ⟨s, rfl, h⟩ := h
  replace h := xe_some h
  obtain ⟨rfl, h⟩ := h
  obtain ⟨p1, hp, h⟩ := Option.bind_eq_some_iff.mp h
  exact ⟨_, _, ok_X12_runs l D cA sA fu s M hp, h, fun _ => ⟨_, _, rfl⟩⟩
theorem cd_X12_saysIn : Cond.code yX12_saysIn cX12_saysIn 3 (some .int) ∈ xG := (xg 2023 (by decide +kernel) (by decide +kernel))
theorem pr_X12_saysIn : (∀ e ∈ pX12_saysIn, xrow cX12_saysIn 3 kdX12 flX12 0 false RX12 e) ∧ xnext pX12_saysIn = true := xrows (by decide +kernel)
set_option maxRecDepth 100000 in
theorem wx_X12_saysIn (X : xCtx p R S0 m ag c0 D cA A0 sA 3 cX12_saysIn RX12 (.code yX12_saysIn cX12_saysIn 3 (some .int) :: xG) 0 0) (hi : meth.name = yX12_saysIn.name) (hroom : 0 + 2 ≤ R.frames ∧ 60 * (0 + 2) ≤ R.locals) {rr : Int32 × xM} (hE : xEnd l D cA sA cX12_saysIn 3 (some .int) R 0 0 (some (.inl rr.1)) rr.2 p e S0 m ag below meth c0 A0 M0 ad0 Z) (fu : Nat) (x0 : Option Nat) (x1 : Int32) (x2 : Int32) (M : xM) (h : F_X12_saysIn fu x0 x1 x2 M = some rr) : xWx p l e R S0 m ag below meth c0 D cA A0 sA M0 ad0 3 Z 0 0 0 0 0 [(0, .inr (.inr (21, x0))), (1, .inl x1), (2, .inl x2)] [] M := by
  rw [← q_X12_saysIn fu x0 x1 x2 M] at h
  have hT : ∀ w ∈ xG, w ∈ (Cond.code yX12_saysIn cX12_saysIn 3 (some .int) :: xG) := fun w hw => List.mem_cons_of_mem _ hw
  refine xrun_sound (nst := 0) (isInit := false) (kd := kdX12) X (xcls_mono hT xclsG) (xpool_mono hT plX12) (fun z => by cases z) (fun idx v hf => xkoE_mono hT (koX12_ok _ (xfind_mem hf))) (xents (ca := _) ?_) (endI hE).1 (endI hE).2 (xcuts (cu := _) ?_) pr_X12_saysIn.1 pr_X12_saysIn.2 _ _ _ _ _ _ _ _ (xat_ok pr_X12_saysIn.1 pr_X12_saysIn.2).1 (xat_ok pr_X12_saysIn.1 pr_X12_saysIn.2).2.1 (xat_ok pr_X12_saysIn.1 pr_X12_saysIn.2).2.2 h
  · exact (fun _ h => nomatch h)
  · exact (fun _ h => nomatch h)

theorem ok_X12_saysIn (l : Launch) (D : va_G) (cA : Nat → ClassId) (sA : Nat → Nat) (fu : Nat) (x0 : Option Nat) (x1 : Int32) (x2 : Int32) (M : xM) {rr : Int32 × xM} (h : F_X12_saysIn fu x0 x1 x2 M = some rr) : xMet l D cA sA yX12_saysIn cX12_saysIn 3 (some .int) xG (0 + 1) 0 0 [.inr (.inr (21, x0)), .inl x1, .inl x2] M (some (.inl rr.1)) rr.2 :=
  xmet_of (by decide +kernel) (Nat.le_of_ble_eq_true rfl) (fun p e s1 m ag below meth c0 A0 ad0 Z X hn hE => wx_X12_saysIn X hn ⟨Nat.le_refl _, Nat.le_refl _⟩ hE fu x0 x1 x2 M h)
theorem hw_X12_saysIn (l : Launch) (D : va_G) (cA : Nat → ClassId) (sA : Nat → Nat) (fu : Nat) {ρ : Type} {r0 : ρ} (kd1 : Nat) (hk2 : kd1 = 2) : ∀ (as : List xV) (M : xM) (k : Option xV → xM → Option ρ), w_X12_saysIn fu as M k = some r0 → ∃ v M', xMet l D cA sA yX12_saysIn cX12_saysIn 3 (some .int) xG (0 + 1) 0 0 as M v M' ∧ k v M' = some r0 ∧ (kd1 ≠ 2 → ∃ a as', as = .inr (.inr (12, some a)) :: as') := by
  intro as M k h
  unfold w_X12_saysIn at h
  replace h := pR_some h
  obtain ⟨x0, as1, rfl, h⟩ := h
  replace h := pI_some h
  obtain ⟨x1, as1, rfl, h⟩ := h
  replace h := pI_some h
  obtain ⟨x2, as1, rfl, h⟩ := h
  replace h := xe_some h
  obtain ⟨rfl, h⟩ := h
  obtain ⟨p1, hp, h⟩ := Option.bind_eq_some_iff.mp h
  exact ⟨_, _, ok_X12_saysIn l D cA sA fu x0 x1 x2 M hp, h, fun z => absurd hk2 z⟩
theorem lk_X12_380 : xLink xG RX12 380 2 yX12_within 3 := ⟨(xg 1783 (by decide +kernel) (by decide +kernel)), (xg 1784 (by decide +kernel) (by decide +kernel)), (xg 141 (by decide +kernel) (by decide +kernel))⟩
theorem lk_X12_417 : xLink xG RX12 417 0 yX12_runs 0 := ⟨Or.inl (xg 2000 (by decide +kernel) (by decide +kernel)), (xg 2002 (by decide +kernel) (by decide +kernel)), (xg 111 (by decide +kernel) (by decide +kernel)), (xg 141 (by decide +kernel) (by decide +kernel)), ⟨12, by decide, TX12, 29, rfl⟩⟩
theorem lk_X12_420 : xLink xG RX12 420 2 yX12_saysIn 3 := ⟨(xg 2021 (by decide +kernel) (by decide +kernel)), (xg 2022 (by decide +kernel) (by decide +kernel)), (xg 141 (by decide +kernel) (by decide +kernel))⟩
theorem cd_X12_after : Cond.code yX12_after cX12_after 4 (some .int) ∈ xG := (xg 1999 (by decide +kernel) (by decide +kernel))
theorem pr_X12_after : (∀ e ∈ pX12_after, xrow cX12_after 4 kdX12 flX12 0 false RX12 e) ∧ xnext pX12_after = true := xrows (by decide +kernel)
set_option maxRecDepth 100000 in
theorem wx_X12_after (X : xCtx p R S0 m ag c0 D cA A0 sA 4 cX12_after RX12 (.code yX12_after cX12_after 4 (some .int) :: xG) 0 0) (hi : meth.name = yX12_after.name) (hroom : 12 + 2 ≤ R.frames ∧ 60 * (12 + 2) ≤ R.locals) {rr : Int32 × xM} (hE : xEnd l D cA sA cX12_after 4 (some .int) R 0 0 (some (.inl rr.1)) rr.2 p e S0 m ag below meth c0 A0 M0 ad0 Z) (fu : Nat) (s : Nat) (x1 : Int32) (x2 : Int32) (x3 : Int32) (M : xM) (h : F_X12_after fu s x1 x2 x3 M = some rr) : xWx p l e R S0 m ag below meth c0 D cA A0 sA M0 ad0 4 Z 0 0 0 0 0 [(0, .inr (.inr (12, some s))), (1, .inl x1), (2, .inl x2), (3, .inl x3)] [] M := by
  rw [← q_X12_after fu s x1 x2 x3 M] at h
  have hT : ∀ w ∈ xG, w ∈ (Cond.code yX12_after cX12_after 4 (some .int) :: xG) := fun w hw => List.mem_cons_of_mem _ hw
  refine xrun_sound (nst := 0) (isInit := false) (kd := kdX12) X (xcls_mono hT xclsG) (xpool_mono hT plX12) (fun z => by cases z) (fun idx v hf => xkoE_mono hT (koX12_ok _ (xfind_mem hf))) (xents (ca := _) ?_) (endI hE).1 (endI hE).2 (xcuts (cu := _) ?_) pr_X12_after.1 pr_X12_after.2 _ _ _ _ _ _ _ _ (xat_ok pr_X12_after.1 pr_X12_after.2).1 (xat_ok pr_X12_after.1 pr_X12_after.2).2.1 (xat_ok pr_X12_after.1 pr_X12_after.2).2.2 h
  · exact (List.forall_mem_cons.mpr ⟨(xent_met X (ci := 12) hT cd_X12_isPage lk_X12_345 rfl (by decide) rfl (by decide +kernel) (fun z => absurd z (by decide)) (hw_X12_isPage l D cA sA fu 0) (fun _ => ⟨by decide, fun _ => ⟨TX12, 29, rfl⟩⟩) (by constructor <;> omega) (by decide)), (List.forall_mem_cons.mpr ⟨(xent_met X (ci := 12) hT cd_X12_within lk_X12_380 rfl (by decide) rfl (by decide +kernel) (fun z => absurd z (by decide)) (hw_X12_within l D cA sA fu 2 rfl) (fun z => absurd rfl z) (by constructor <;> omega) (by decide)), (List.forall_mem_cons.mpr ⟨(xent_met X (ci := 12) hT cd_X12_putsOfAll lk_X12_414 rfl (by decide) rfl (by decide +kernel) (fun z => absurd z (by decide)) (hw_X12_putsOfAll l D cA sA fu 0) (fun _ => ⟨by decide, fun _ => ⟨TX12, 29, rfl⟩⟩) (by constructor <;> omega) (by decide)), (List.forall_mem_cons.mpr ⟨(xent_met X (ci := 12) hT cd_X12_runs lk_X12_417 rfl (by decide) rfl (by decide +kernel) (fun z => absurd z (by decide)) (hw_X12_runs l D cA sA fu 0) (fun _ => ⟨by decide, fun _ => ⟨TX12, 29, rfl⟩⟩) (by constructor <;> omega) (by decide)), (List.forall_mem_cons.mpr ⟨(xent_met X (ci := 12) hT cd_X12_saysIn lk_X12_420 rfl (by decide) rfl (by decide +kernel) (fun z => absurd z (by decide)) (hw_X12_saysIn l D cA sA fu 2 rfl) (fun z => absurd rfl z) (by constructor <;> omega) (by decide)), (fun _ h => nomatch h)⟩)⟩)⟩)⟩)⟩)
  · exact (fun _ h => nomatch h)

theorem ok_X12_after (l : Launch) (D : va_G) (cA : Nat → ClassId) (sA : Nat → Nat) (fu : Nat) (s : Nat) (x1 : Int32) (x2 : Int32) (x3 : Int32) (M : xM) {rr : Int32 × xM} (h : F_X12_after fu s x1 x2 x3 M = some rr) : xMet l D cA sA yX12_after cX12_after 4 (some .int) xG (12 + 1) 0 0 [.inr (.inr (12, some s)), .inl x1, .inl x2, .inl x3] M (some (.inl rr.1)) rr.2 :=
  xmet_of (by decide +kernel) (Nat.le_of_ble_eq_true rfl) (fun p e s1 m ag below meth c0 A0 ad0 Z X hn hE => wx_X12_after X hn ⟨Nat.le_refl _, Nat.le_refl _⟩ hE fu s x1 x2 x3 M h)
theorem hw_X12_after (l : Launch) (D : va_G) (cA : Nat → ClassId) (sA : Nat → Nat) (fu : Nat) {ρ : Type} {r0 : ρ} (kd1 : Nat) : ∀ (as : List xV) (M : xM) (k : Option xV → xM → Option ρ), w_X12_after fu as M k = some r0 → ∃ v M', xMet l D cA sA yX12_after cX12_after 4 (some .int) xG (12 + 1) 0 0 as M v M' ∧ k v M' = some r0 ∧ (kd1 ≠ 2 → ∃ a as', as = .inr (.inr (12, some a)) :: as') := by
  intro as M k h
  unfold w_X12_after at h
  replace h := pR_some h
  obtain ⟨o, as1, rfl, h⟩ := h
  replace h := bd_some h
  obtain ⟨s, rfl, h⟩ := h
  replace h := pI_some h
  obtain ⟨x1, as1, rfl, h⟩ := h
  replace h := pI_some h
  obtain ⟨x2, as1, rfl, h⟩ := h
  replace h := pI_some h
  obtain ⟨x3, as1, rfl, h⟩ := h
  replace h := xe_some h
  obtain ⟨rfl, h⟩ := h
  obtain ⟨p1, hp, h⟩ := Option.bind_eq_some_iff.mp h
  exact ⟨_, _, ok_X12_after l D cA sA fu s x1 x2 x3 M hp, h, fun _ => ⟨_, _, rfl⟩⟩
theorem cd_X12_tries : Cond.code yX12_tries cX12_tries 1 none ∈ xG := (xg 2087 (by decide +kernel) (by decide +kernel))
theorem pr_X12_tries : (∀ e ∈ pX12_tries, xrow cX12_tries 1 kdX12 flX12 0 false RX12 e) ∧ xnext pX12_tries = true := xrows (by decide +kernel)
set_option maxRecDepth 100000 in
theorem wx_X12_tries (X : xCtx p R S0 m ag c0 D cA A0 sA 1 cX12_tries RX12 (.code yX12_tries cX12_tries 1 none :: xG) 0 0) (hi : meth.name = yX12_tries.name) (hroom : 1 + 2 ≤ R.frames ∧ 60 * (1 + 2) ≤ R.locals) {rr : xM} (hE : xEnd l D cA sA cX12_tries 1 none R 0 0 none rr p e S0 m ag below meth c0 A0 M0 ad0 Z) (fu : Nat) (s : Nat) (M : xM) (h : F_X12_tries fu s M = some rr) : xWx p l e R S0 m ag below meth c0 D cA A0 sA M0 ad0 1 Z 0 0 0 0 0 [(0, .inr (.inr (12, some s)))] [] M := by
  rw [← q_X12_tries fu s M] at h
  have hT : ∀ w ∈ xG, w ∈ (Cond.code yX12_tries cX12_tries 1 none :: xG) := fun w hw => List.mem_cons_of_mem _ hw
  refine xrun_sound (nst := 0) (isInit := false) (kd := kdX12) X (xcls_mono hT xclsG) (xpool_mono hT plX12) (fun z => by cases z) (fun idx v hf => xkoE_mono hT (koX12_ok _ (xfind_mem hf))) (xents (ca := _) ?_) (endV hE).1 (endV hE).2 (xcuts (cu := _) ?_) pr_X12_tries.1 pr_X12_tries.2 _ _ _ _ _ _ _ _ (xat_ok pr_X12_tries.1 pr_X12_tries.2).1 (xat_ok pr_X12_tries.1 pr_X12_tries.2).2.1 (xat_ok pr_X12_tries.1 pr_X12_tries.2).2.2 h
  · exact (List.forall_mem_cons.mpr ⟨(xent_met X (ci := 12) hT cd_X12_moves lk_X12_406 rfl (by decide) rfl (by decide +kernel) (fun z => absurd z (by decide)) (hw_X12_moves l D cA sA fu 0) (fun _ => ⟨by decide, fun _ => ⟨TX12, 29, rfl⟩⟩) (by constructor <;> omega) (by decide)), (fun _ h => nomatch h)⟩)
  · exact (fun _ h => nomatch h)

theorem ok_X12_tries (l : Launch) (D : va_G) (cA : Nat → ClassId) (sA : Nat → Nat) (fu : Nat) (s : Nat) (M : xM) {rr : xM} (h : F_X12_tries fu s M = some rr) : xMet l D cA sA yX12_tries cX12_tries 1 none xG (1 + 1) 0 0 [.inr (.inr (12, some s))] M none rr :=
  xmet_of (by decide +kernel) (Nat.le_of_ble_eq_true rfl) (fun p e s1 m ag below meth c0 A0 ad0 Z X hn hE => wx_X12_tries X hn ⟨Nat.le_refl _, Nat.le_refl _⟩ hE fu s M h)
theorem hw_X12_tries (l : Launch) (D : va_G) (cA : Nat → ClassId) (sA : Nat → Nat) (fu : Nat) {ρ : Type} {r0 : ρ} (kd1 : Nat) : ∀ (as : List xV) (M : xM) (k : Option xV → xM → Option ρ), w_X12_tries fu as M k = some r0 → ∃ v M', xMet l D cA sA yX12_tries cX12_tries 1 none xG (1 + 1) 0 0 as M v M' ∧ k v M' = some r0 ∧ (kd1 ≠ 2 → ∃ a as', as = .inr (.inr (12, some a)) :: as') := by
  intro as M k h
  unfold w_X12_tries at h
  replace h := pR_some h
  obtain ⟨o, as1, rfl, h⟩ := h
  replace h := bd_some h
  obtain ⟨s, rfl, h⟩ := h
  replace h := xe_some h
  obtain ⟨rfl, h⟩ := h
  obtain ⟨p1, hp, h⟩ := Option.bind_eq_some_iff.mp h
  exact ⟨_, _, ok_X12_tries l D cA sA fu s M hp, h, fun _ => ⟨_, _, rfl⟩⟩
theorem cd_X12_draw : Cond.code yX12_draw cX12_draw 2 (some .int) ∈ xG := (xg 2148 (by decide +kernel) (by decide +kernel))
theorem pr_X12_draw : (∀ e ∈ pX12_draw, xrow cX12_draw 2 kdX12 flX12 0 false RX12 e) ∧ xnext pX12_draw = true := xrows (by decide +kernel)
set_option maxRecDepth 100000 in
theorem wx_X12_draw (X : xCtx p R S0 m ag c0 D cA A0 sA 2 cX12_draw RX12 (.code yX12_draw cX12_draw 2 (some .int) :: xG) 0 0) (hi : meth.name = yX12_draw.name) (hroom : 0 + 2 ≤ R.frames ∧ 60 * (0 + 2) ≤ R.locals) {rr : Int32 × xM} (hE : xEnd l D cA sA cX12_draw 2 (some .int) R 0 0 (some (.inl rr.1)) rr.2 p e S0 m ag below meth c0 A0 M0 ad0 Z) (fu : Nat) (s : Nat) (x1 : Int32) (M : xM) (h : F_X12_draw fu s x1 M = some rr) : xWx p l e R S0 m ag below meth c0 D cA A0 sA M0 ad0 2 Z 0 0 0 0 0 [(0, .inr (.inr (12, some s))), (1, .inl x1)] [] M := by
  rw [← q_X12_draw fu s x1 M] at h
  have hT : ∀ w ∈ xG, w ∈ (Cond.code yX12_draw cX12_draw 2 (some .int) :: xG) := fun w hw => List.mem_cons_of_mem _ hw
  refine xrun_sound (nst := 0) (isInit := false) (kd := kdX12) X (xcls_mono hT xclsG) (xpool_mono hT plX12) (fun z => by cases z) (fun idx v hf => xkoE_mono hT (koX12_ok _ (xfind_mem hf))) (xents (ca := _) ?_) (endI hE).1 (endI hE).2 (xcuts (cu := _) ?_) pr_X12_draw.1 pr_X12_draw.2 _ _ _ _ _ _ _ _ (xat_ok pr_X12_draw.1 pr_X12_draw.2).1 (xat_ok pr_X12_draw.1 pr_X12_draw.2).2.1 (xat_ok pr_X12_draw.1 pr_X12_draw.2).2.2 h
  · exact (fun _ h => nomatch h)
  · exact (fun _ h => nomatch h)

theorem ok_X12_draw (l : Launch) (D : va_G) (cA : Nat → ClassId) (sA : Nat → Nat) (fu : Nat) (s : Nat) (x1 : Int32) (M : xM) {rr : Int32 × xM} (h : F_X12_draw fu s x1 M = some rr) : xMet l D cA sA yX12_draw cX12_draw 2 (some .int) xG (0 + 1) 0 0 [.inr (.inr (12, some s)), .inl x1] M (some (.inl rr.1)) rr.2 :=
  xmet_of (by decide +kernel) (Nat.le_of_ble_eq_true rfl) (fun p e s1 m ag below meth c0 A0 ad0 Z X hn hE => wx_X12_draw X hn ⟨Nat.le_refl _, Nat.le_refl _⟩ hE fu s x1 M h)
theorem hw_X12_draw (l : Launch) (D : va_G) (cA : Nat → ClassId) (sA : Nat → Nat) (fu : Nat) {ρ : Type} {r0 : ρ} (kd1 : Nat) : ∀ (as : List xV) (M : xM) (k : Option xV → xM → Option ρ), w_X12_draw fu as M k = some r0 → ∃ v M', xMet l D cA sA yX12_draw cX12_draw 2 (some .int) xG (0 + 1) 0 0 as M v M' ∧ k v M' = some r0 ∧ (kd1 ≠ 2 → ∃ a as', as = .inr (.inr (12, some a)) :: as') := by
  intro as M k h
  unfold w_X12_draw at h
  replace h := pR_some h
  obtain ⟨o, as1, rfl, h⟩ := h
  replace h := bd_some h
  obtain ⟨s, rfl, h⟩ := h
  replace h := pI_some h
  obtain ⟨x1, as1, rfl, h⟩ := h
  replace h := xe_some h
  obtain ⟨rfl, h⟩ := h
  obtain ⟨p1, hp, h⟩ := Option.bind_eq_some_iff.mp h
  exact ⟨_, _, ok_X12_draw l D cA sA fu s x1 M hp, h, fun _ => ⟨_, _, rfl⟩⟩
theorem lk_X12_462 : xLink xG RX12 462 0 yX12_draw 1 := ⟨Or.inl (xg 2145 (by decide +kernel) (by decide +kernel)), (xg 2147 (by decide +kernel) (by decide +kernel)), (xg 124 (by decide +kernel) (by decide +kernel)), (xg 141 (by decide +kernel) (by decide +kernel)), ⟨12, by decide, TX12, 29, rfl⟩⟩
theorem cd_X12_drawsDeed : Cond.code yX12_drawsDeed cX12_drawsDeed 4 (some .boolean) ∈ xG := (xg 2144 (by decide +kernel) (by decide +kernel))
theorem pr_X12_drawsDeed : (∀ e ∈ pX12_drawsDeed, xrow cX12_drawsDeed 4 kdX12 flX12 0 false RX12 e) ∧ xnext pX12_drawsDeed = true := xrows (by decide +kernel)
set_option maxRecDepth 100000 in
theorem wx_X12_drawsDeed (X : xCtx p R S0 m ag c0 D cA A0 sA 4 cX12_drawsDeed RX12 (.code yX12_drawsDeed cX12_drawsDeed 4 (some .boolean) :: xG) 0 0) (hi : meth.name = yX12_drawsDeed.name) (hroom : 10 + 2 ≤ R.frames ∧ 60 * (10 + 2) ≤ R.locals) {rr : Int32 × xM} (hE : xEnd l D cA sA cX12_drawsDeed 4 (some .boolean) R 0 0 (some (.inl rr.1)) rr.2 p e S0 m ag below meth c0 A0 M0 ad0 Z) (fu : Nat) (s : Nat) (M : xM) (h : F_X12_drawsDeed fu s M = some rr) : xWx p l e R S0 m ag below meth c0 D cA A0 sA M0 ad0 4 Z 0 0 0 0 0 [(0, .inr (.inr (12, some s)))] [] M := by
  rw [← q_X12_drawsDeed fu s M] at h
  have hT : ∀ w ∈ xG, w ∈ (Cond.code yX12_drawsDeed cX12_drawsDeed 4 (some .boolean) :: xG) := fun w hw => List.mem_cons_of_mem _ hw
  refine xrun_sound (nst := 0) (isInit := false) (kd := kdX12) X (xcls_mono hT xclsG) (xpool_mono hT plX12) (fun z => by cases z) (fun idx v hf => xkoE_mono hT (koX12_ok _ (xfind_mem hf))) (xents (ca := _) ?_) (endZ hE).1 (endZ hE).2 (xcuts (cu := _) ?_) pr_X12_drawsDeed.1 pr_X12_drawsDeed.2 _ _ _ _ _ _ _ _ (xat_ok pr_X12_drawsDeed.1 pr_X12_drawsDeed.2).1 (xat_ok pr_X12_drawsDeed.1 pr_X12_drawsDeed.2).2.1 (xat_ok pr_X12_drawsDeed.1 pr_X12_drawsDeed.2).2.2 h
  · exact (List.forall_mem_cons.mpr ⟨(xent_met X (ci := 12) hT cd_X12_files lk_X12_223 rfl (by decide) rfl (by decide +kernel) (fun z => absurd z (by decide)) (hw_X12_files l D cA sA fu 0) (fun _ => ⟨by decide, fun _ => ⟨TX12, 29, rfl⟩⟩) (by constructor <;> omega) (by decide)), (List.forall_mem_cons.mpr ⟨(xent_met X (ci := 12) hT cd_X12_collects lk_X12_342 rfl (by decide) rfl (by decide +kernel) (fun z => absurd z (by decide)) (hw_X12_collects l D cA sA fu 0) (fun _ => ⟨by decide, fun _ => ⟨TX12, 29, rfl⟩⟩) (by constructor <;> omega) (by decide)), (List.forall_mem_cons.mpr ⟨(xent_met X (ci := 12) hT cd_X12_commits lk_X12_365 rfl (by decide) rfl (by decide +kernel) (fun z => absurd z (by decide)) (hw_X12_commits l D cA sA fu 0) (fun _ => ⟨by decide, fun _ => ⟨TX12, 29, rfl⟩⟩) (by constructor <;> omega) (by decide)), (List.forall_mem_cons.mpr ⟨(xent_met X (ci := 12) hT cd_X12_isOpen lk_X12_371 rfl (by decide) rfl (by decide +kernel) (fun z => absurd z (by decide)) (hw_X12_isOpen l D cA sA fu 0) (fun _ => ⟨by decide, fun _ => ⟨TX12, 29, rfl⟩⟩) (by constructor <;> omega) (by decide)), (List.forall_mem_cons.mpr ⟨(xent_met X (ci := 12) hT cd_X12_writes lk_X12_383 rfl (by decide) rfl (by decide +kernel) (fun z => absurd z (by decide)) (hw_X12_writes l D cA sA fu 0) (fun _ => ⟨by decide, fun _ => ⟨TX12, 29, rfl⟩⟩) (by constructor <;> omega) (by decide)), (List.forall_mem_cons.mpr ⟨(xent_met X (ci := 12) hT cd_X12_removes lk_X12_386 rfl (by decide) rfl (by decide +kernel) (fun z => absurd z (by decide)) (hw_X12_removes l D cA sA fu 0) (fun _ => ⟨by decide, fun _ => ⟨TX12, 29, rfl⟩⟩) (by constructor <;> omega) (by decide)), (List.forall_mem_cons.mpr ⟨(xent_met X (ci := 12) hT cd_X12_opens lk_X12_389 rfl (by decide) rfl (by decide +kernel) (fun z => absurd z (by decide)) (hw_X12_opens l D cA sA fu 0) (fun _ => ⟨by decide, fun _ => ⟨TX12, 29, rfl⟩⟩) (by constructor <;> omega) (by decide)), (List.forall_mem_cons.mpr ⟨(xent_met X (ci := 12) hT cd_X12_draw lk_X12_462 rfl (by decide) rfl (by decide +kernel) (fun z => absurd z (by decide)) (hw_X12_draw l D cA sA fu 0) (fun _ => ⟨by decide, fun _ => ⟨TX12, 29, rfl⟩⟩) (by constructor <;> omega) (by decide)), (fun _ h => nomatch h)⟩)⟩)⟩)⟩)⟩)⟩)⟩)⟩)
  · exact (fun _ h => nomatch h)

theorem ok_X12_drawsDeed (l : Launch) (D : va_G) (cA : Nat → ClassId) (sA : Nat → Nat) (fu : Nat) (s : Nat) (M : xM) {rr : Int32 × xM} (h : F_X12_drawsDeed fu s M = some rr) : xMet l D cA sA yX12_drawsDeed cX12_drawsDeed 4 (some .boolean) xG (10 + 1) 0 0 [.inr (.inr (12, some s))] M (some (.inl rr.1)) rr.2 :=
  xmet_of (by decide +kernel) (Nat.le_of_ble_eq_true rfl) (fun p e s1 m ag below meth c0 A0 ad0 Z X hn hE => wx_X12_drawsDeed X hn ⟨Nat.le_refl _, Nat.le_refl _⟩ hE fu s M h)
theorem hw_X12_drawsDeed (l : Launch) (D : va_G) (cA : Nat → ClassId) (sA : Nat → Nat) (fu : Nat) {ρ : Type} {r0 : ρ} (kd1 : Nat) : ∀ (as : List xV) (M : xM) (k : Option xV → xM → Option ρ), w_X12_drawsDeed fu as M k = some r0 → ∃ v M', xMet l D cA sA yX12_drawsDeed cX12_drawsDeed 4 (some .boolean) xG (10 + 1) 0 0 as M v M' ∧ k v M' = some r0 ∧ (kd1 ≠ 2 → ∃ a as', as = .inr (.inr (12, some a)) :: as') := by
  intro as M k h
  unfold w_X12_drawsDeed at h
  replace h := pR_some h
  obtain ⟨o, as1, rfl, h⟩ := h
  replace h := bd_some h
  obtain ⟨s, rfl, h⟩ := h
  replace h := xe_some h
  obtain ⟨rfl, h⟩ := h
  obtain ⟨p1, hp, h⟩ := Option.bind_eq_some_iff.mp h
  exact ⟨_, _, ok_X12_drawsDeed l D cA sA fu s M hp, h, fun _ => ⟨_, _, rfl⟩⟩
theorem lk_X12_465 : xLink xG RX12 465 0 yX12_drawsDeed 0 := ⟨Or.inl (xg 2141 (by decide +kernel) (by decide +kernel)), (xg 2143 (by decide +kernel) (by decide +kernel)), (xg 123 (by decide +kernel) (by decide +kernel)), (xg 141 (by decide +kernel) (by decide +kernel)), ⟨12, by decide, TX12, 29, rfl⟩⟩
theorem lk_X12_437 : xLink xG RX12 437 0 yX12_tries 0 := ⟨Or.inl (xg 2084 (by decide +kernel) (by decide +kernel)), (xg 2086 (by decide +kernel) (by decide +kernel)), (xg 119 (by decide +kernel) (by decide +kernel)), (xg 141 (by decide +kernel) (by decide +kernel)), ⟨12, by decide, TX12, 29, rfl⟩⟩
theorem cd_X12_ages : Cond.code yX12_ages cX12_ages 7 (some .int) ∈ xG := (xg 2140 (by decide +kernel) (by decide +kernel))
theorem pr_X12_ages : (∀ e ∈ pX12_ages, xrow cX12_ages 7 kdX12 flX12 0 false RX12 e) ∧ xnext pX12_ages = true := xrows (by decide +kernel)
set_option maxRecDepth 100000 in
theorem wx_X12_ages_104 (X : xCtx p R S0 m ag c0 D cA A0 sA 7 cX12_ages RX12 (.code yX12_ages cX12_ages 7 (some .int) :: xG) 0 0) (hi : meth.name = yX12_ages.name) (hroom : 11 + 2 ≤ R.frames ∧ 60 * (11 + 2) ≤ R.locals) {rr : Int32 × xM} (hE : xEnd l D cA sA cX12_ages 7 (some .int) R 0 0 (some (.inl rr.1)) rr.2 p e S0 m ag below meth c0 A0 M0 ad0 Z) (fu : Nat) : ∀ (n : Nat) (s : Nat) (x3 : Int32) (x4 : Int32) (x5 : Int32) (x6 : Int32) (M : xM), L_X12_ages_104 fu n s x3 x4 x5 x6 M = some rr → xWx p l e R S0 m ag below meth c0 D cA A0 sA M0 ad0 7 Z 0 0 104 0 0 [(0, .inr (.inr (12, some s))), (3, .inl x3), (4, .inl x4), (5, .inl x5), (6, .inl x6)] [] M := by
  intro n
  induction n with
  | zero => intro s x3 x4 x5 x6 M h; cases h
  | succ n ih =>
    intro s x3 x4 x5 x6 M h
    rw [← q_X12_ages_104 fu n s x3 x4 x5 x6 M] at h
    have hT : ∀ w ∈ xG, w ∈ (Cond.code yX12_ages cX12_ages 7 (some .int) :: xG) := fun w hw => List.mem_cons_of_mem _ hw
    refine xrun_sound (nst := 0) (isInit := false) (kd := kdX12) X (xcls_mono hT xclsG) (xpool_mono hT plX12) (fun z => by cases z) (fun idx v hf => xkoE_mono hT (koX12_ok _ (xfind_mem hf))) (xents (ca := _) ?_) (endI hE).1 (endI hE).2 (xcuts (cu := _) ?_) pr_X12_ages.1 pr_X12_ages.2 _ _ _ _ _ _ _ _ (xat_ok pr_X12_ages.1 pr_X12_ages.2).1 (xat_ok pr_X12_ages.1 pr_X12_ages.2).2.1 (xat_ok pr_X12_ages.1 pr_X12_ages.2).2.2 h
    · exact (List.forall_mem_cons.mpr ⟨(xent_met X (ci := 12) hT cd_X12_erased lk_X12_326 rfl (by decide) rfl (by decide +kernel) (fun z => absurd z (by decide)) (hw_X12_erased l D cA sA fu 0) (fun _ => ⟨by decide, fun _ => ⟨TX12, 29, rfl⟩⟩) (by constructor <;> omega) (by decide)), (fun _ h => nomatch h)⟩)
    · refine (List.forall_mem_cons.mpr ⟨?_, (fun _ h => nomatch h)⟩)
      · intro bc bs ls st M h
        replace h := xz_some h
        obtain ⟨rfl, rfl, h⟩ := h
        replace h := lR_some h
        obtain ⟨o, e0, h⟩ := h
        replace h := bd_some h
        obtain ⟨s', rfl, h⟩ := h
        replace h := lI_some h
        obtain ⟨x3', e3, h⟩ := h
        replace h := lI_some h
        obtain ⟨x4', e4, h⟩ := h
        replace h := lI_some h
        obtain ⟨x5', e5, h⟩ := h
        replace h := lI_some h
        obtain ⟨x6', e6, h⟩ := h
        replace h := xe_some h
        obtain ⟨rfl, h⟩ := h
        exact xWx_ls (ih s' x3' x4' x5' x6' M h) (List.forall_mem_cons.mpr ⟨e0, (List.forall_mem_cons.mpr ⟨e3, (List.forall_mem_cons.mpr ⟨e4, (List.forall_mem_cons.mpr ⟨e5, (List.forall_mem_cons.mpr ⟨e6, (fun _ h => nomatch h)⟩)⟩)⟩)⟩)⟩)

set_option maxRecDepth 100000 in
theorem wx_X12_ages_62 (X : xCtx p R S0 m ag c0 D cA A0 sA 7 cX12_ages RX12 (.code yX12_ages cX12_ages 7 (some .int) :: xG) 0 0) (hi : meth.name = yX12_ages.name) (hroom : 11 + 2 ≤ R.frames ∧ 60 * (11 + 2) ≤ R.locals) {rr : Int32 × xM} (hE : xEnd l D cA sA cX12_ages 7 (some .int) R 0 0 (some (.inl rr.1)) rr.2 p e S0 m ag below meth c0 A0 M0 ad0 Z) (fu : Nat) : ∀ (n : Nat) (s : Nat) (x2 : Int32) (x3 : Int32) (x4 : Int32) (x5 : Int32) (M : xM), L_X12_ages_62 fu n s x2 x3 x4 x5 M = some rr → xWx p l e R S0 m ag below meth c0 D cA A0 sA M0 ad0 7 Z 0 0 62 0 0 [(0, .inr (.inr (12, some s))), (2, .inl x2), (3, .inl x3), (4, .inl x4), (5, .inl x5)] [] M := by
  intro n
  induction n with
  | zero => intro s x2 x3 x4 x5 M h; cases h
  | succ n ih =>
    intro s x2 x3 x4 x5 M h
    rw [← q_X12_ages_62 fu n s x2 x3 x4 x5 M] at h
    have hT : ∀ w ∈ xG, w ∈ (Cond.code yX12_ages cX12_ages 7 (some .int) :: xG) := fun w hw => List.mem_cons_of_mem _ hw
    refine xrun_sound (nst := 0) (isInit := false) (kd := kdX12) X (xcls_mono hT xclsG) (xpool_mono hT plX12) (fun z => by cases z) (fun idx v hf => xkoE_mono hT (koX12_ok _ (xfind_mem hf))) (xents (ca := _) ?_) (endI hE).1 (endI hE).2 (xcuts (cu := _) ?_) pr_X12_ages.1 pr_X12_ages.2 _ _ _ _ _ _ _ _ (xat_ok pr_X12_ages.1 pr_X12_ages.2).1 (xat_ok pr_X12_ages.1 pr_X12_ages.2).2.1 (xat_ok pr_X12_ages.1 pr_X12_ages.2).2.2 h
    · exact (List.forall_mem_cons.mpr ⟨(xent_met X (ci := 12) hT cd_X12_files lk_X12_223 rfl (by decide) rfl (by decide +kernel) (fun z => absurd z (by decide)) (hw_X12_files l D cA sA fu 0) (fun _ => ⟨by decide, fun _ => ⟨TX12, 29, rfl⟩⟩) (by constructor <;> omega) (by decide)), (List.forall_mem_cons.mpr ⟨(xent_met X (ci := 12) hT cd_X12_drawsDeed lk_X12_465 rfl (by decide) rfl (by decide +kernel) (fun z => absurd z (by decide)) (hw_X12_drawsDeed l D cA sA fu 0) (fun _ => ⟨by decide, fun _ => ⟨TX12, 29, rfl⟩⟩) (by constructor <;> omega) (by decide)), (fun _ h => nomatch h)⟩)⟩)
    · refine (List.forall_mem_cons.mpr ⟨?_, (List.forall_mem_cons.mpr ⟨?_, (fun _ h => nomatch h)⟩)⟩)
      · intro bc bs ls st M h
        replace h := xz_some h
        obtain ⟨rfl, rfl, h⟩ := h
        replace h := lR_some h
        obtain ⟨o, e0, h⟩ := h
        replace h := bd_some h
        obtain ⟨s', rfl, h⟩ := h
        replace h := lI_some h
        obtain ⟨x2', e2, h⟩ := h
        replace h := lI_some h
        obtain ⟨x3', e3, h⟩ := h
        replace h := lI_some h
        obtain ⟨x4', e4, h⟩ := h
        replace h := lI_some h
        obtain ⟨x5', e5, h⟩ := h
        replace h := xe_some h
        obtain ⟨rfl, h⟩ := h
        exact xWx_ls (ih s' x2' x3' x4' x5' M h) (List.forall_mem_cons.mpr ⟨e0, (List.forall_mem_cons.mpr ⟨e2, (List.forall_mem_cons.mpr ⟨e3, (List.forall_mem_cons.mpr ⟨e4, (List.forall_mem_cons.mpr ⟨e5, (fun _ h => nomatch h)⟩)⟩)⟩)⟩)⟩)
      · intro bc bs ls st M h
        replace h := xz_some h
        obtain ⟨rfl, rfl, h⟩ := h
        replace h := lR_some h
        obtain ⟨o, e0, h⟩ := h
        replace h := bd_some h
        obtain ⟨s', rfl, h⟩ := h
        replace h := lI_some h
        obtain ⟨x3', e3, h⟩ := h
        replace h := lI_some h
        obtain ⟨x4', e4, h⟩ := h
        replace h := lI_some h
        obtain ⟨x5', e5, h⟩ := h
        replace h := lI_some h
        obtain ⟨x6', e6, h⟩ := h
        replace h := xe_some h
        obtain ⟨rfl, h⟩ := h
        exact xWx_ls (wx_X12_ages_104 X hi hroom hE fu fu s' x3' x4' x5' x6' M h) (List.forall_mem_cons.mpr ⟨e0, (List.forall_mem_cons.mpr ⟨e3, (List.forall_mem_cons.mpr ⟨e4, (List.forall_mem_cons.mpr ⟨e5, (List.forall_mem_cons.mpr ⟨e6, (fun _ h => nomatch h)⟩)⟩)⟩)⟩)⟩)

set_option maxRecDepth 100000 in
theorem wx_X12_ages (X : xCtx p R S0 m ag c0 D cA A0 sA 7 cX12_ages RX12 (.code yX12_ages cX12_ages 7 (some .int) :: xG) 0 0) (hi : meth.name = yX12_ages.name) (hroom : 11 + 2 ≤ R.frames ∧ 60 * (11 + 2) ≤ R.locals) {rr : Int32 × xM} (hE : xEnd l D cA sA cX12_ages 7 (some .int) R 0 0 (some (.inl rr.1)) rr.2 p e S0 m ag below meth c0 A0 M0 ad0 Z) (fu : Nat) (s : Nat) (x1 : Int32) (x2 : Int32) (x3 : Int32) (M : xM) (h : F_X12_ages fu s x1 x2 x3 M = some rr) : xWx p l e R S0 m ag below meth c0 D cA A0 sA M0 ad0 7 Z 0 0 0 0 0 [(0, .inr (.inr (12, some s))), (1, .inl x1), (2, .inl x2), (3, .inl x3)] [] M := by
  rw [← q_X12_ages fu s x1 x2 x3 M] at h
  have hT : ∀ w ∈ xG, w ∈ (Cond.code yX12_ages cX12_ages 7 (some .int) :: xG) := fun w hw => List.mem_cons_of_mem _ hw
  refine xrun_sound (nst := 0) (isInit := false) (kd := kdX12) X (xcls_mono hT xclsG) (xpool_mono hT plX12) (fun z => by cases z) (fun idx v hf => xkoE_mono hT (koX12_ok _ (xfind_mem hf))) (xents (ca := _) ?_) (endI hE).1 (endI hE).2 (xcuts (cu := _) ?_) pr_X12_ages.1 pr_X12_ages.2 _ _ _ _ _ _ _ _ (xat_ok pr_X12_ages.1 pr_X12_ages.2).1 (xat_ok pr_X12_ages.1 pr_X12_ages.2).2.1 (xat_ok pr_X12_ages.1 pr_X12_ages.2).2.2 h
  · exact (List.forall_mem_cons.mpr ⟨(xent_met X (ci := 12) hT cd_X12_within lk_X12_380 rfl (by decide) rfl (by decide +kernel) (fun z => absurd z (by decide)) (hw_X12_within l D cA sA fu 2 rfl) (fun z => absurd rfl z) (by constructor <;> omega) (by decide)), (List.forall_mem_cons.mpr ⟨(xent_met X (ci := 12) hT cd_X12_tries lk_X12_437 rfl (by decide) rfl (by decide +kernel) (fun z => absurd z (by decide)) (hw_X12_tries l D cA sA fu 0) (fun _ => ⟨by decide, fun _ => ⟨TX12, 29, rfl⟩⟩) (by constructor <;> omega) (by decide)), (fun _ h => nomatch h)⟩)⟩)
  · refine (List.forall_mem_cons.mpr ⟨?_, (fun _ h => nomatch h)⟩)
    · intro bc bs ls st M h
      replace h := xz_some h
      obtain ⟨rfl, rfl, h⟩ := h
      replace h := lR_some h
      obtain ⟨o, e0, h⟩ := h
      replace h := bd_some h
      obtain ⟨s', rfl, h⟩ := h
      replace h := lI_some h
      obtain ⟨x2', e2, h⟩ := h
      replace h := lI_some h
      obtain ⟨x3', e3, h⟩ := h
      replace h := lI_some h
      obtain ⟨x4', e4, h⟩ := h
      replace h := lI_some h
      obtain ⟨x5', e5, h⟩ := h
      replace h := xe_some h
      obtain ⟨rfl, h⟩ := h
      exact xWx_ls (wx_X12_ages_62 X hi hroom hE fu fu s' x2' x3' x4' x5' M h) (List.forall_mem_cons.mpr ⟨e0, (List.forall_mem_cons.mpr ⟨e2, (List.forall_mem_cons.mpr ⟨e3, (List.forall_mem_cons.mpr ⟨e4, (List.forall_mem_cons.mpr ⟨e5, (fun _ h => nomatch h)⟩)⟩)⟩)⟩)⟩)

theorem ok_X12_ages (l : Launch) (D : va_G) (cA : Nat → ClassId) (sA : Nat → Nat) (fu : Nat) (s : Nat) (x1 : Int32) (x2 : Int32) (x3 : Int32) (M : xM) {rr : Int32 × xM} (h : F_X12_ages fu s x1 x2 x3 M = some rr) : xMet l D cA sA yX12_ages cX12_ages 7 (some .int) xG (11 + 1) 0 0 [.inr (.inr (12, some s)), .inl x1, .inl x2, .inl x3] M (some (.inl rr.1)) rr.2 :=
  xmet_of (by decide +kernel) (Nat.le_of_ble_eq_true rfl) (fun p e s1 m ag below meth c0 A0 ad0 Z X hn hE => wx_X12_ages X hn ⟨Nat.le_refl _, Nat.le_refl _⟩ hE fu s x1 x2 x3 M h)
theorem hw_X12_ages (l : Launch) (D : va_G) (cA : Nat → ClassId) (sA : Nat → Nat) (fu : Nat) {ρ : Type} {r0 : ρ} (kd1 : Nat) : ∀ (as : List xV) (M : xM) (k : Option xV → xM → Option ρ), w_X12_ages fu as M k = some r0 → ∃ v M', xMet l D cA sA yX12_ages cX12_ages 7 (some .int) xG (11 + 1) 0 0 as M v M' ∧ k v M' = some r0 ∧ (kd1 ≠ 2 → ∃ a as', as = .inr (.inr (12, some a)) :: as') := by
  intro as M k h
  unfold w_X12_ages at h
  replace h := pR_some h
  obtain ⟨o, as1, rfl, h⟩ := h
  replace h := bd_some h
  obtain ⟨s, rfl, h⟩ := h
  replace h := pI_some h
  obtain ⟨x1, as1, rfl, h⟩ := h
  replace h := pI_some h
  obtain ⟨x2, as1, rfl, h⟩ := h
  replace h := pI_some h
  obtain ⟨x3, as1, rfl, h⟩ := h
  replace h := xe_some h
  obtain ⟨rfl, h⟩ := h
  obtain ⟨p1, hp, h⟩ := Option.bind_eq_some_iff.mp h
  exact ⟨_, _, ok_X12_ages l D cA sA fu s x1 x2 x3 M hp, h, fun _ => ⟨_, _, rfl⟩⟩
theorem cd_X12_finds : Cond.code yX12_finds cX12_finds 1 none ∈ xG := (xg 2095 (by decide +kernel) (by decide +kernel))
theorem pr_X12_finds : (∀ e ∈ pX12_finds, xrow cX12_finds 1 kdX12 flX12 0 false RX12 e) ∧ xnext pX12_finds = true := xrows (by decide +kernel)
set_option maxRecDepth 100000 in
theorem wx_X12_finds (X : xCtx p R S0 m ag c0 D cA A0 sA 1 cX12_finds RX12 (.code yX12_finds cX12_finds 1 none :: xG) 0 0) (hi : meth.name = yX12_finds.name) (hroom : 5 + 2 ≤ R.frames ∧ 60 * (5 + 2) ≤ R.locals) {rr : xM} (hE : xEnd l D cA sA cX12_finds 1 none R 0 0 none rr p e S0 m ag below meth c0 A0 M0 ad0 Z) (fu : Nat) (s : Nat) (M : xM) (h : F_X12_finds fu s M = some rr) : xWx p l e R S0 m ag below meth c0 D cA A0 sA M0 ad0 1 Z 0 0 0 0 0 [(0, .inr (.inr (12, some s)))] [] M := by
  rw [← q_X12_finds fu s M] at h
  have hT : ∀ w ∈ xG, w ∈ (Cond.code yX12_finds cX12_finds 1 none :: xG) := fun w hw => List.mem_cons_of_mem _ hw
  refine xrun_sound (nst := 0) (isInit := false) (kd := kdX12) X (xcls_mono hT xclsG) (xpool_mono hT plX12) (fun z => by cases z) (fun idx v hf => xkoE_mono hT (koX12_ok _ (xfind_mem hf))) (xents (ca := _) ?_) (endV hE).1 (endV hE).2 (xcuts (cu := _) ?_) pr_X12_finds.1 pr_X12_finds.2 _ _ _ _ _ _ _ _ (xat_ok pr_X12_finds.1 pr_X12_finds.2).1 (xat_ok pr_X12_finds.1 pr_X12_finds.2).2.1 (xat_ok pr_X12_finds.1 pr_X12_finds.2).2.2 h
  · exact (List.forall_mem_cons.mpr ⟨(xent_met X (ci := 12) hT cd_X12_mounts lk_X12_393 rfl (by decide) rfl (by decide +kernel) (fun z => absurd z (by decide)) (hw_X12_mounts l D cA sA fu 0) (fun _ => ⟨by decide, fun _ => ⟨TX12, 29, rfl⟩⟩) (by constructor <;> omega) (by decide)), (List.forall_mem_cons.mpr ⟨(xent_met X (ci := 12) hT cd_X12_tries lk_X12_437 rfl (by decide) rfl (by decide +kernel) (fun z => absurd z (by decide)) (hw_X12_tries l D cA sA fu 0) (fun _ => ⟨by decide, fun _ => ⟨TX12, 29, rfl⟩⟩) (by constructor <;> omega) (by decide)), (fun _ h => nomatch h)⟩)⟩)
  · exact (fun _ h => nomatch h)

theorem ok_X12_finds (l : Launch) (D : va_G) (cA : Nat → ClassId) (sA : Nat → Nat) (fu : Nat) (s : Nat) (M : xM) {rr : xM} (h : F_X12_finds fu s M = some rr) : xMet l D cA sA yX12_finds cX12_finds 1 none xG (5 + 1) 0 0 [.inr (.inr (12, some s))] M none rr :=
  xmet_of (by decide +kernel) (Nat.le_of_ble_eq_true rfl) (fun p e s1 m ag below meth c0 A0 ad0 Z X hn hE => wx_X12_finds X hn ⟨Nat.le_refl _, Nat.le_refl _⟩ hE fu s M h)
theorem hw_X12_finds (l : Launch) (D : va_G) (cA : Nat → ClassId) (sA : Nat → Nat) (fu : Nat) {ρ : Type} {r0 : ρ} (kd1 : Nat) : ∀ (as : List xV) (M : xM) (k : Option xV → xM → Option ρ), w_X12_finds fu as M k = some r0 → ∃ v M', xMet l D cA sA yX12_finds cX12_finds 1 none xG (5 + 1) 0 0 as M v M' ∧ k v M' = some r0 ∧ (kd1 ≠ 2 → ∃ a as', as = .inr (.inr (12, some a)) :: as') := by
  intro as M k h
  unfold w_X12_finds at h
  replace h := pR_some h
  obtain ⟨o, as1, rfl, h⟩ := h
  replace h := bd_some h
  obtain ⟨s, rfl, h⟩ := h
  replace h := xe_some h
  obtain ⟨rfl, h⟩ := h
  obtain ⟨p1, hp, h⟩ := Option.bind_eq_some_iff.mp h
  exact ⟨_, _, ok_X12_finds l D cA sA fu s M hp, h, fun _ => ⟨_, _, rfl⟩⟩
theorem lk_X12_440 : xLink xG RX12 440 0 yX12_finds 0 := ⟨Or.inl (xg 2092 (by decide +kernel) (by decide +kernel)), (xg 2094 (by decide +kernel) (by decide +kernel)), (xg 120 (by decide +kernel) (by decide +kernel)), (xg 141 (by decide +kernel) (by decide +kernel)), ⟨12, by decide, TX12, 29, rfl⟩⟩
theorem cd_X12_agrees : Cond.code yX12_agrees cX12_agrees 3 (some .boolean) ∈ xG := (xg 2099 (by decide +kernel) (by decide +kernel))
theorem pr_X12_agrees : (∀ e ∈ pX12_agrees, xrow cX12_agrees 3 kdX12 flX12 0 false RX12 e) ∧ xnext pX12_agrees = true := xrows (by decide +kernel)
set_option maxRecDepth 100000 in
theorem wx_X12_agrees_57 (X : xCtx p R S0 m ag c0 D cA A0 sA 3 cX12_agrees RX12 (.code yX12_agrees cX12_agrees 3 (some .boolean) :: xG) 0 0) (hi : meth.name = yX12_agrees.name) (hroom : 6 + 2 ≤ R.frames ∧ 60 * (6 + 2) ≤ R.locals) {rr : Int32 × xM} (hE : xEnd l D cA sA cX12_agrees 3 (some .boolean) R 0 0 (some (.inl rr.1)) rr.2 p e S0 m ag below meth c0 A0 M0 ad0 Z) (fu : Nat) (k13 : Nat → Int32 → Int32 → xM → Option (Int32 × xM)) (hk13 : ∀ (s : Nat) (x1 : Int32) (x2 : Int32) (M : xM), k13 s x1 x2 M = some rr → xWx p l e R S0 m ag below meth c0 D cA A0 sA M0 ad0 3 Z 0 0 13 0 0 [(0, .inr (.inr (12, some s))), (1, .inl x1), (2, .inl x2)] [] M) (s : Nat) (x2 : Int32) (y0 : Int32) (y1 : Int32) (M : xM) (h : J_X12_agrees_57 fu k13 s x2 y0 y1 M = some rr) : xWx p l e R S0 m ag below meth c0 D cA A0 sA M0 ad0 3 Z 0 0 57 0 0 [(0, .inr (.inr (12, some s))), (2, .inl x2)] [.inl y0, .inl y1] M := by
  rw [← q_X12_agrees_57 fu k13 s x2 y0 y1 M] at h
  have hT : ∀ w ∈ xG, w ∈ (Cond.code yX12_agrees cX12_agrees 3 (some .boolean) :: xG) := fun w hw => List.mem_cons_of_mem _ hw
  refine xrun_sound (nst := 0) (isInit := false) (kd := kdX12) X (xcls_mono hT xclsG) (xpool_mono hT plX12) (fun z => by cases z) (fun idx v hf => xkoE_mono hT (koX12_ok _ (xfind_mem hf))) (xents (ca := _) ?_) (endZ hE).1 (endZ hE).2 (xcuts (cu := _) ?_) pr_X12_agrees.1 pr_X12_agrees.2 _ _ _ _ _ _ _ _ (xat_ok pr_X12_agrees.1 pr_X12_agrees.2).1 (xat_ok pr_X12_agrees.1 pr_X12_agrees.2).2.1 (xat_ok pr_X12_agrees.1 pr_X12_agrees.2).2.2 h
  · exact (fun _ h => nomatch h)
  · refine (List.forall_mem_cons.mpr ⟨?_, (fun _ h => nomatch h)⟩)
    · intro bc bs ls st M h
      replace h := xz_some h
      obtain ⟨rfl, rfl, h⟩ := h
      replace h := lR_some h
      obtain ⟨o, e0, h⟩ := h
      replace h := bd_some h
      obtain ⟨s', rfl, h⟩ := h
      replace h := lI_some h
      obtain ⟨x1', e1, h⟩ := h
      replace h := lI_some h
      obtain ⟨x2', e2, h⟩ := h
      replace h := xe_some h
      obtain ⟨rfl, h⟩ := h
      exact xWx_ls (hk13 s' x1' x2' M h) (List.forall_mem_cons.mpr ⟨e0, (List.forall_mem_cons.mpr ⟨e1, (List.forall_mem_cons.mpr ⟨e2, (fun _ h => nomatch h)⟩)⟩)⟩)

set_option maxRecDepth 100000 in
theorem wx_X12_agrees_13 (X : xCtx p R S0 m ag c0 D cA A0 sA 3 cX12_agrees RX12 (.code yX12_agrees cX12_agrees 3 (some .boolean) :: xG) 0 0) (hi : meth.name = yX12_agrees.name) (hroom : 6 + 2 ≤ R.frames ∧ 60 * (6 + 2) ≤ R.locals) {rr : Int32 × xM} (hE : xEnd l D cA sA cX12_agrees 3 (some .boolean) R 0 0 (some (.inl rr.1)) rr.2 p e S0 m ag below meth c0 A0 M0 ad0 Z) (fu : Nat) : ∀ (n : Nat) (s : Nat) (x1 : Int32) (x2 : Int32) (M : xM), L_X12_agrees_13 fu n s x1 x2 M = some rr → xWx p l e R S0 m ag below meth c0 D cA A0 sA M0 ad0 3 Z 0 0 13 0 0 [(0, .inr (.inr (12, some s))), (1, .inl x1), (2, .inl x2)] [] M := by
  intro n
  induction n with
  | zero => intro s x1 x2 M h; cases h
  | succ n ih =>
    intro s x1 x2 M h
    rw [← q_X12_agrees_13 fu n s x1 x2 M] at h
    have hT : ∀ w ∈ xG, w ∈ (Cond.code yX12_agrees cX12_agrees 3 (some .boolean) :: xG) := fun w hw => List.mem_cons_of_mem _ hw
    refine xrun_sound (nst := 0) (isInit := false) (kd := kdX12) X (xcls_mono hT xclsG) (xpool_mono hT plX12) (fun z => by cases z) (fun idx v hf => xkoE_mono hT (koX12_ok _ (xfind_mem hf))) (xents (ca := _) ?_) (endZ hE).1 (endZ hE).2 (xcuts (cu := _) ?_) pr_X12_agrees.1 pr_X12_agrees.2 _ _ _ _ _ _ _ _ (xat_ok pr_X12_agrees.1 pr_X12_agrees.2).1 (xat_ok pr_X12_agrees.1 pr_X12_agrees.2).2.1 (xat_ok pr_X12_agrees.1 pr_X12_agrees.2).2.2 h
    · exact (List.forall_mem_cons.mpr ⟨(xent_met X (ci := 12) hT cd_X12_isOrphan lk_X12_270 rfl (by decide) rfl (by decide +kernel) (fun z => absurd z (by decide)) (hw_X12_isOrphan l D cA sA fu 0) (fun _ => ⟨by decide, fun _ => ⟨TX12, 29, rfl⟩⟩) (by constructor <;> omega) (by decide)), (fun _ h => nomatch h)⟩)
    · refine (List.forall_mem_cons.mpr ⟨?_, (List.forall_mem_cons.mpr ⟨?_, (fun _ h => nomatch h)⟩)⟩)
      · intro bc bs ls st M h
        replace h := xz_some h
        obtain ⟨rfl, rfl, h⟩ := h
        replace h := lR_some h
        obtain ⟨o, e0, h⟩ := h
        replace h := bd_some h
        obtain ⟨s', rfl, h⟩ := h
        replace h := lI_some h
        obtain ⟨x1', e1, h⟩ := h
        replace h := lI_some h
        obtain ⟨x2', e2, h⟩ := h
        replace h := xe_some h
        obtain ⟨rfl, h⟩ := h
        exact xWx_ls (ih s' x1' x2' M h) (List.forall_mem_cons.mpr ⟨e0, (List.forall_mem_cons.mpr ⟨e1, (List.forall_mem_cons.mpr ⟨e2, (fun _ h => nomatch h)⟩)⟩)⟩)
      · intro bc bs ls st M h
        replace h := xz_some h
        obtain ⟨rfl, rfl, h⟩ := h
        replace h := lR_some h
        obtain ⟨o, e0, h⟩ := h
        replace h := bd_some h
        obtain ⟨s', rfl, h⟩ := h
        replace h := lI_some h
        obtain ⟨x2', e2, h⟩ := h
        replace h := pI_some h
        obtain ⟨y0', st, rfl, h⟩ := h
        replace h := pI_some h
        obtain ⟨y1', st, rfl, h⟩ := h
        replace h := xe_some h
        obtain ⟨rfl, h⟩ := h
        exact xWx_ls (wx_X12_agrees_57 X hi hroom hE fu _ ih s' x2' y0' y1' M h) (List.forall_mem_cons.mpr ⟨e0, (List.forall_mem_cons.mpr ⟨e2, (fun _ h => nomatch h)⟩)⟩)

set_option maxRecDepth 100000 in
theorem wx_X12_agrees (X : xCtx p R S0 m ag c0 D cA A0 sA 3 cX12_agrees RX12 (.code yX12_agrees cX12_agrees 3 (some .boolean) :: xG) 0 0) (hi : meth.name = yX12_agrees.name) (hroom : 6 + 2 ≤ R.frames ∧ 60 * (6 + 2) ≤ R.locals) {rr : Int32 × xM} (hE : xEnd l D cA sA cX12_agrees 3 (some .boolean) R 0 0 (some (.inl rr.1)) rr.2 p e S0 m ag below meth c0 A0 M0 ad0 Z) (fu : Nat) (s : Nat) (M : xM) (h : F_X12_agrees fu s M = some rr) : xWx p l e R S0 m ag below meth c0 D cA A0 sA M0 ad0 3 Z 0 0 0 0 0 [(0, .inr (.inr (12, some s)))] [] M := by
  rw [← q_X12_agrees fu s M] at h
  have hT : ∀ w ∈ xG, w ∈ (Cond.code yX12_agrees cX12_agrees 3 (some .boolean) :: xG) := fun w hw => List.mem_cons_of_mem _ hw
  refine xrun_sound (nst := 0) (isInit := false) (kd := kdX12) X (xcls_mono hT xclsG) (xpool_mono hT plX12) (fun z => by cases z) (fun idx v hf => xkoE_mono hT (koX12_ok _ (xfind_mem hf))) (xents (ca := _) ?_) (endZ hE).1 (endZ hE).2 (xcuts (cu := _) ?_) pr_X12_agrees.1 pr_X12_agrees.2 _ _ _ _ _ _ _ _ (xat_ok pr_X12_agrees.1 pr_X12_agrees.2).1 (xat_ok pr_X12_agrees.1 pr_X12_agrees.2).2.1 (xat_ok pr_X12_agrees.1 pr_X12_agrees.2).2.2 h
  · exact (List.forall_mem_cons.mpr ⟨(xent_met X (ci := 12) hT cd_X12_finds lk_X12_440 rfl (by decide) rfl (by decide +kernel) (fun z => absurd z (by decide)) (hw_X12_finds l D cA sA fu 0) (fun _ => ⟨by decide, fun _ => ⟨TX12, 29, rfl⟩⟩) (by constructor <;> omega) (by decide)), (fun _ h => nomatch h)⟩)
  · refine (List.forall_mem_cons.mpr ⟨?_, (fun _ h => nomatch h)⟩)
    · intro bc bs ls st M h
      replace h := xz_some h
      obtain ⟨rfl, rfl, h⟩ := h
      replace h := lR_some h
      obtain ⟨o, e0, h⟩ := h
      replace h := bd_some h
      obtain ⟨s', rfl, h⟩ := h
      replace h := lI_some h
      obtain ⟨x1', e1, h⟩ := h
      replace h := lI_some h
      obtain ⟨x2', e2, h⟩ := h
      replace h := xe_some h
      obtain ⟨rfl, h⟩ := h
      exact xWx_ls (wx_X12_agrees_13 X hi hroom hE fu fu s' x1' x2' M h) (List.forall_mem_cons.mpr ⟨e0, (List.forall_mem_cons.mpr ⟨e1, (List.forall_mem_cons.mpr ⟨e2, (fun _ h => nomatch h)⟩)⟩)⟩)

theorem ok_X12_agrees (l : Launch) (D : va_G) (cA : Nat → ClassId) (sA : Nat → Nat) (fu : Nat) (s : Nat) (M : xM) {rr : Int32 × xM} (h : F_X12_agrees fu s M = some rr) : xMet l D cA sA yX12_agrees cX12_agrees 3 (some .boolean) xG (6 + 1) 0 0 [.inr (.inr (12, some s))] M (some (.inl rr.1)) rr.2 :=
  xmet_of (by decide +kernel) (Nat.le_of_ble_eq_true rfl) (fun p e s1 m ag below meth c0 A0 ad0 Z X hn hE => wx_X12_agrees X hn ⟨Nat.le_refl _, Nat.le_refl _⟩ hE fu s M h)
theorem hw_X12_agrees (l : Launch) (D : va_G) (cA : Nat → ClassId) (sA : Nat → Nat) (fu : Nat) {ρ : Type} {r0 : ρ} (kd1 : Nat) : ∀ (as : List xV) (M : xM) (k : Option xV → xM → Option ρ), w_X12_agrees fu as M k = some r0 → ∃ v M', xMet l D cA sA yX12_agrees cX12_agrees 3 (some .boolean) xG (6 + 1) 0 0 as M v M' ∧ k v M' = some r0 ∧ (kd1 ≠ 2 → ∃ a as', as = .inr (.inr (12, some a)) :: as') := by
  intro as M k h
  unfold w_X12_agrees at h
  replace h := pR_some h
  obtain ⟨o, as1, rfl, h⟩ := h
  replace h := bd_some h
  obtain ⟨s, rfl, h⟩ := h
  replace h := xe_some h
  obtain ⟨rfl, h⟩ := h
  obtain ⟨p1, hp, h⟩ := Option.bind_eq_some_iff.mp h
  exact ⟨_, _, ok_X12_agrees l D cA sA fu s M hp, h, fun _ => ⟨_, _, rfl⟩⟩
theorem cd_X12_areSame : Cond.code yX12_areSame cX12_areSame 4 (some .boolean) ∈ xG := (xg 2031 (by decide +kernel) (by decide +kernel))
theorem pr_X12_areSame : (∀ e ∈ pX12_areSame, xrow cX12_areSame 4 kdX12 flX12 0 false RX12 e) ∧ xnext pX12_areSame = true := xrows (by decide +kernel)
set_option maxRecDepth 100000 in
theorem wx_X12_areSame (X : xCtx p R S0 m ag c0 D cA A0 sA 4 cX12_areSame RX12 (.code yX12_areSame cX12_areSame 4 (some .boolean) :: xG) 0 0) (hi : meth.name = yX12_areSame.name) (hroom : 0 + 2 ≤ R.frames ∧ 60 * (0 + 2) ≤ R.locals) {rr : Int32 × xM} (hE : xEnd l D cA sA cX12_areSame 4 (some .boolean) R 0 0 (some (.inl rr.1)) rr.2 p e S0 m ag below meth c0 A0 M0 ad0 Z) (fu : Nat) (x0 : Option Nat) (x1 : Int32) (x2 : Option Nat) (x3 : Int32) (M : xM) (h : F_X12_areSame fu x0 x1 x2 x3 M = some rr) : xWx p l e R S0 m ag below meth c0 D cA A0 sA M0 ad0 4 Z 0 0 0 0 0 [(0, .inr (.inr (21, x0))), (1, .inl x1), (2, .inr (.inr (21, x2))), (3, .inl x3)] [] M := by
  rw [← q_X12_areSame fu x0 x1 x2 x3 M] at h
  have hT : ∀ w ∈ xG, w ∈ (Cond.code yX12_areSame cX12_areSame 4 (some .boolean) :: xG) := fun w hw => List.mem_cons_of_mem _ hw
  refine xrun_sound (nst := 0) (isInit := false) (kd := kdX12) X (xcls_mono hT xclsG) (xpool_mono hT plX12) (fun z => by cases z) (fun idx v hf => xkoE_mono hT (koX12_ok _ (xfind_mem hf))) (xents (ca := _) ?_) (endZ hE).1 (endZ hE).2 (xcuts (cu := _) ?_) pr_X12_areSame.1 pr_X12_areSame.2 _ _ _ _ _ _ _ _ (xat_ok pr_X12_areSame.1 pr_X12_areSame.2).1 (xat_ok pr_X12_areSame.1 pr_X12_areSame.2).2.1 (xat_ok pr_X12_areSame.1 pr_X12_areSame.2).2.2 h
  · exact (fun _ h => nomatch h)
  · exact (fun _ h => nomatch h)

theorem ok_X12_areSame (l : Launch) (D : va_G) (cA : Nat → ClassId) (sA : Nat → Nat) (fu : Nat) (x0 : Option Nat) (x1 : Int32) (x2 : Option Nat) (x3 : Int32) (M : xM) {rr : Int32 × xM} (h : F_X12_areSame fu x0 x1 x2 x3 M = some rr) : xMet l D cA sA yX12_areSame cX12_areSame 4 (some .boolean) xG (0 + 1) 0 0 [.inr (.inr (21, x0)), .inl x1, .inr (.inr (21, x2)), .inl x3] M (some (.inl rr.1)) rr.2 :=
  xmet_of (by decide +kernel) (Nat.le_of_ble_eq_true rfl) (fun p e s1 m ag below meth c0 A0 ad0 Z X hn hE => wx_X12_areSame X hn ⟨Nat.le_refl _, Nat.le_refl _⟩ hE fu x0 x1 x2 x3 M h)
theorem hw_X12_areSame (l : Launch) (D : va_G) (cA : Nat → ClassId) (sA : Nat → Nat) (fu : Nat) {ρ : Type} {r0 : ρ} (kd1 : Nat) (hk2 : kd1 = 2) : ∀ (as : List xV) (M : xM) (k : Option xV → xM → Option ρ), w_X12_areSame fu as M k = some r0 → ∃ v M', xMet l D cA sA yX12_areSame cX12_areSame 4 (some .boolean) xG (0 + 1) 0 0 as M v M' ∧ k v M' = some r0 ∧ (kd1 ≠ 2 → ∃ a as', as = .inr (.inr (12, some a)) :: as') := by
  intro as M k h
  unfold w_X12_areSame at h
  replace h := pR_some h
  obtain ⟨x0, as1, rfl, h⟩ := h
  replace h := pI_some h
  obtain ⟨x1, as1, rfl, h⟩ := h
  replace h := pR_some h
  obtain ⟨x2, as1, rfl, h⟩ := h
  replace h := pI_some h
  obtain ⟨x3, as1, rfl, h⟩ := h
  replace h := xe_some h
  obtain ⟨rfl, h⟩ := h
  obtain ⟨p1, hp, h⟩ := Option.bind_eq_some_iff.mp h
  exact ⟨_, _, ok_X12_areSame l D cA sA fu x0 x1 x2 x3 M hp, h, fun z => absurd hk2 z⟩
theorem cd_X12_baseNow : Cond.code yX12_baseNow cX12_baseNow 1 (some .int) ∈ xG := (xg 2164 (by decide +kernel) (by decide +kernel))
theorem pr_X12_baseNow : (∀ e ∈ pX12_baseNow, xrow cX12_baseNow 1 kdX12 flX12 0 false RX12 e) ∧ xnext pX12_baseNow = true := xrows (by decide +kernel)
set_option maxRecDepth 100000 in
theorem wx_X12_baseNow (X : xCtx p R S0 m ag c0 D cA A0 sA 1 cX12_baseNow RX12 (.code yX12_baseNow cX12_baseNow 1 (some .int) :: xG) 0 0) (hi : meth.name = yX12_baseNow.name) (hroom : 4 + 2 ≤ R.frames ∧ 60 * (4 + 2) ≤ R.locals) {rr : Int32 × xM} (hE : xEnd l D cA sA cX12_baseNow 1 (some .int) R 0 0 (some (.inl rr.1)) rr.2 p e S0 m ag below meth c0 A0 M0 ad0 Z) (fu : Nat) (s : Nat) (M : xM) (h : F_X12_baseNow fu s M = some rr) : xWx p l e R S0 m ag below meth c0 D cA A0 sA M0 ad0 1 Z 0 0 0 0 0 [(0, .inr (.inr (12, some s)))] [] M := by
  rw [← q_X12_baseNow fu s M] at h
  have hT : ∀ w ∈ xG, w ∈ (Cond.code yX12_baseNow cX12_baseNow 1 (some .int) :: xG) := fun w hw => List.mem_cons_of_mem _ hw
  refine xrun_sound (nst := 0) (isInit := false) (kd := kdX12) X (xcls_mono hT xclsG) (xpool_mono hT plX12) (fun z => by cases z) (fun idx v hf => xkoE_mono hT (koX12_ok _ (xfind_mem hf))) (xents (ca := _) ?_) (endI hE).1 (endI hE).2 (xcuts (cu := _) ?_) pr_X12_baseNow.1 pr_X12_baseNow.2 _ _ _ _ _ _ _ _ (xat_ok pr_X12_baseNow.1 pr_X12_baseNow.2).1 (xat_ok pr_X12_baseNow.1 pr_X12_baseNow.2).2.1 (xat_ok pr_X12_baseNow.1 pr_X12_baseNow.2).2.2 h
  · exact (List.forall_mem_cons.mpr ⟨(xent_met X (ci := 12) hT cd_X12_base lk_X12_296 rfl (by decide) rfl (by decide +kernel) (fun z => absurd z (by decide)) (hw_X12_base l D cA sA fu 0) (fun _ => ⟨by decide, fun _ => ⟨TX12, 29, rfl⟩⟩) (by constructor <;> omega) (by decide)), (List.forall_mem_cons.mpr ⟨(xent_met X (ci := 12) hT cd_X12_looks lk_X12_305 rfl (by decide) rfl (by decide +kernel) (fun z => absurd z (by decide)) (hw_X12_looks l D cA sA fu 0) (fun _ => ⟨by decide, fun _ => ⟨TX12, 29, rfl⟩⟩) (by constructor <;> omega) (by decide)), (fun _ h => nomatch h)⟩)⟩)
  · exact (fun _ h => nomatch h)

theorem ok_X12_baseNow (l : Launch) (D : va_G) (cA : Nat → ClassId) (sA : Nat → Nat) (fu : Nat) (s : Nat) (M : xM) {rr : Int32 × xM} (h : F_X12_baseNow fu s M = some rr) : xMet l D cA sA yX12_baseNow cX12_baseNow 1 (some .int) xG (4 + 1) 0 0 [.inr (.inr (12, some s))] M (some (.inl rr.1)) rr.2 :=
  xmet_of (by decide +kernel) (Nat.le_of_ble_eq_true rfl) (fun p e s1 m ag below meth c0 A0 ad0 Z X hn hE => wx_X12_baseNow X hn ⟨Nat.le_refl _, Nat.le_refl _⟩ hE fu s M h)
theorem hw_X12_baseNow (l : Launch) (D : va_G) (cA : Nat → ClassId) (sA : Nat → Nat) (fu : Nat) {ρ : Type} {r0 : ρ} (kd1 : Nat) : ∀ (as : List xV) (M : xM) (k : Option xV → xM → Option ρ), w_X12_baseNow fu as M k = some r0 → ∃ v M', xMet l D cA sA yX12_baseNow cX12_baseNow 1 (some .int) xG (4 + 1) 0 0 as M v M' ∧ k v M' = some r0 ∧ (kd1 ≠ 2 → ∃ a as', as = .inr (.inr (12, some a)) :: as') := by
  intro as M k h
  unfold w_X12_baseNow at h
  replace h := pR_some h
  obtain ⟨o, as1, rfl, h⟩ := h
  replace h := bd_some h
  obtain ⟨s, rfl, h⟩ := h
  replace h := xe_some h
  obtain ⟨rfl, h⟩ := h
  obtain ⟨p1, hp, h⟩ := Option.bind_eq_some_iff.mp h
  exact ⟨_, _, ok_X12_baseNow l D cA sA fu s M hp, h, fun _ => ⟨_, _, rfl⟩⟩
theorem cd_X12_begins : Cond.code yX12_begins cX12_begins 1 none ∈ xG := (xg 1555 (by decide +kernel) (by decide +kernel))
theorem pr_X12_begins : (∀ e ∈ pX12_begins, xrow cX12_begins 1 kdX12 flX12 0 false RX12 e) ∧ xnext pX12_begins = true := xrows (by decide +kernel)
set_option maxRecDepth 100000 in
theorem wx_X12_begins (X : xCtx p R S0 m ag c0 D cA A0 sA 1 cX12_begins RX12 (.code yX12_begins cX12_begins 1 none :: xG) 0 0) (hi : meth.name = yX12_begins.name) (hroom : 1 + 2 ≤ R.frames ∧ 60 * (1 + 2) ≤ R.locals) {rr : xM} (hE : xEnd l D cA sA cX12_begins 1 none R 0 0 none rr p e S0 m ag below meth c0 A0 M0 ad0 Z) (fu : Nat) (s : Nat) (M : xM) (h : F_X12_begins fu s M = some rr) : xWx p l e R S0 m ag below meth c0 D cA A0 sA M0 ad0 1 Z 0 0 0 0 0 [(0, .inr (.inr (12, some s)))] [] M := by
  rw [← q_X12_begins fu s M] at h
  have hT : ∀ w ∈ xG, w ∈ (Cond.code yX12_begins cX12_begins 1 none :: xG) := fun w hw => List.mem_cons_of_mem _ hw
  refine xrun_sound (nst := 0) (isInit := false) (kd := kdX12) X (xcls_mono hT xclsG) (xpool_mono hT plX12) (fun z => by cases z) (fun idx v hf => xkoE_mono hT (koX12_ok _ (xfind_mem hf))) (xents (ca := _) ?_) (endV hE).1 (endV hE).2 (xcuts (cu := _) ?_) pr_X12_begins.1 pr_X12_begins.2 _ _ _ _ _ _ _ _ (xat_ok pr_X12_begins.1 pr_X12_begins.2).1 (xat_ok pr_X12_begins.1 pr_X12_begins.2).2.1 (xat_ok pr_X12_begins.1 pr_X12_begins.2).2.2 h
  · exact (List.forall_mem_cons.mpr ⟨(xent_met X (ci := 12) hT cd_X12_starts lk_X12_249 rfl (by decide) rfl (by decide +kernel) (fun z => absurd z (by decide)) (hw_X12_starts l D cA sA fu 0) (fun _ => ⟨by decide, fun _ => ⟨TX12, 29, rfl⟩⟩) (by constructor <;> omega) (by decide)), (fun _ h => nomatch h)⟩)
  · exact (fun _ h => nomatch h)

theorem ok_X12_begins (l : Launch) (D : va_G) (cA : Nat → ClassId) (sA : Nat → Nat) (fu : Nat) (s : Nat) (M : xM) {rr : xM} (h : F_X12_begins fu s M = some rr) : xMet l D cA sA yX12_begins cX12_begins 1 none xG (1 + 1) 0 0 [.inr (.inr (12, some s))] M none rr :=
  xmet_of (by decide +kernel) (Nat.le_of_ble_eq_true rfl) (fun p e s1 m ag below meth c0 A0 ad0 Z X hn hE => wx_X12_begins X hn ⟨Nat.le_refl _, Nat.le_refl _⟩ hE fu s M h)
theorem hw_X12_begins (l : Launch) (D : va_G) (cA : Nat → ClassId) (sA : Nat → Nat) (fu : Nat) {ρ : Type} {r0 : ρ} (kd1 : Nat) : ∀ (as : List xV) (M : xM) (k : Option xV → xM → Option ρ), w_X12_begins fu as M k = some r0 → ∃ v M', xMet l D cA sA yX12_begins cX12_begins 1 none xG (1 + 1) 0 0 as M v M' ∧ k v M' = some r0 ∧ (kd1 ≠ 2 → ∃ a as', as = .inr (.inr (12, some a)) :: as') := by
  intro as M k h
  unfold w_X12_begins at h
  replace h := pR_some h
  obtain ⟨o, as1, rfl, h⟩ := h
  replace h := bd_some h
  obtain ⟨s, rfl, h⟩ := h
  replace h := xe_some h
  obtain ⟨rfl, h⟩ := h
  obtain ⟨p1, hp, h⟩ := Option.bind_eq_some_iff.mp h
  exact ⟨_, _, ok_X12_begins l D cA sA fu s M hp, h, fun _ => ⟨_, _, rfl⟩⟩
theorem cd_X12_block : Cond.code yX12_block cX12_block 3 (some .int) ∈ xG := (xg 1828 (by decide +kernel) (by decide +kernel))
theorem pr_X12_block : (∀ e ∈ pX12_block, xrow cX12_block 3 kdX12 flX12 0 false RX12 e) ∧ xnext pX12_block = true := xrows (by decide +kernel)
set_option maxRecDepth 100000 in
theorem wx_X12_block (X : xCtx p R S0 m ag c0 D cA A0 sA 3 cX12_block RX12 (.code yX12_block cX12_block 3 (some .int) :: xG) 0 0) (hi : meth.name = yX12_block.name) (hroom : 6 + 2 ≤ R.frames ∧ 60 * (6 + 2) ≤ R.locals) {rr : Int32 × xM} (hE : xEnd l D cA sA cX12_block 3 (some .int) R 0 0 (some (.inl rr.1)) rr.2 p e S0 m ag below meth c0 A0 M0 ad0 Z) (fu : Nat) (s : Nat) (x1 : Int32) (x2 : Int32) (M : xM) (h : F_X12_block fu s x1 x2 M = some rr) : xWx p l e R S0 m ag below meth c0 D cA A0 sA M0 ad0 3 Z 0 0 0 0 0 [(0, .inr (.inr (12, some s))), (1, .inl x1), (2, .inl x2)] [] M := by
  rw [← q_X12_block fu s x1 x2 M] at h
  have hT : ∀ w ∈ xG, w ∈ (Cond.code yX12_block cX12_block 3 (some .int) :: xG) := fun w hw => List.mem_cons_of_mem _ hw
  refine xrun_sound (nst := 0) (isInit := false) (kd := kdX12) X (xcls_mono hT xclsG) (xpool_mono hT plX12) (fun z => by cases z) (fun idx v hf => xkoE_mono hT (koX12_ok _ (xfind_mem hf))) (xents (ca := _) ?_) (endI hE).1 (endI hE).2 (xcuts (cu := _) ?_) pr_X12_block.1 pr_X12_block.2 _ _ _ _ _ _ _ _ (xat_ok pr_X12_block.1 pr_X12_block.2).1 (xat_ok pr_X12_block.1 pr_X12_block.2).2.1 (xat_ok pr_X12_block.1 pr_X12_block.2).2.2 h
  · exact (List.forall_mem_cons.mpr ⟨(xent_met X (ci := 12) hT cd_X12_blocks lk_X12_252 rfl (by decide) rfl (by decide +kernel) (fun z => absurd z (by decide)) (hw_X12_blocks l D cA sA fu 0) (fun _ => ⟨by decide, fun _ => ⟨TX12, 29, rfl⟩⟩) (by constructor <;> omega) (by decide)), (List.forall_mem_cons.mpr ⟨(xent_met X (ci := 12) hT cd_X12_wide lk_X12_255 rfl (by decide) rfl (by decide +kernel) (fun z => absurd z (by decide)) (hw_X12_wide l D cA sA fu 0) (fun _ => ⟨by decide, fun _ => ⟨TX12, 29, rfl⟩⟩) (by constructor <;> omega) (by decide)), (List.forall_mem_cons.mpr ⟨(xent_met X (ci := 12) hT cd_X12_tally lk_X12_329 rfl (by decide) rfl (by decide +kernel) (fun z => absurd z (by decide)) (hw_X12_tally l D cA sA fu 0) (fun _ => ⟨by decide, fun _ => ⟨TX12, 29, rfl⟩⟩) (by constructor <;> omega) (by decide)), (List.forall_mem_cons.mpr ⟨(xent_met X (ci := 12) hT cd_X12_within lk_X12_380 rfl (by decide) rfl (by decide +kernel) (fun z => absurd z (by decide)) (hw_X12_within l D cA sA fu 2 rfl) (fun z => absurd rfl z) (by constructor <;> omega) (by decide)), (fun _ h => nomatch h)⟩)⟩)⟩)⟩)
  · exact (fun _ h => nomatch h)

theorem ok_X12_block (l : Launch) (D : va_G) (cA : Nat → ClassId) (sA : Nat → Nat) (fu : Nat) (s : Nat) (x1 : Int32) (x2 : Int32) (M : xM) {rr : Int32 × xM} (h : F_X12_block fu s x1 x2 M = some rr) : xMet l D cA sA yX12_block cX12_block 3 (some .int) xG (6 + 1) 0 0 [.inr (.inr (12, some s)), .inl x1, .inl x2] M (some (.inl rr.1)) rr.2 :=
  xmet_of (by decide +kernel) (Nat.le_of_ble_eq_true rfl) (fun p e s1 m ag below meth c0 A0 ad0 Z X hn hE => wx_X12_block X hn ⟨Nat.le_refl _, Nat.le_refl _⟩ hE fu s x1 x2 M h)
theorem hw_X12_block (l : Launch) (D : va_G) (cA : Nat → ClassId) (sA : Nat → Nat) (fu : Nat) {ρ : Type} {r0 : ρ} (kd1 : Nat) : ∀ (as : List xV) (M : xM) (k : Option xV → xM → Option ρ), w_X12_block fu as M k = some r0 → ∃ v M', xMet l D cA sA yX12_block cX12_block 3 (some .int) xG (6 + 1) 0 0 as M v M' ∧ k v M' = some r0 ∧ (kd1 ≠ 2 → ∃ a as', as = .inr (.inr (12, some a)) :: as') := by
  intro as M k h
  unfold w_X12_block at h
  replace h := pR_some h
  obtain ⟨o, as1, rfl, h⟩ := h
  replace h := bd_some h
  obtain ⟨s, rfl, h⟩ := h
  replace h := pI_some h
  obtain ⟨x1, as1, rfl, h⟩ := h
  replace h := pI_some h
  obtain ⟨x2, as1, rfl, h⟩ := h
  replace h := xe_some h
  obtain ⟨rfl, h⟩ := h
  obtain ⟨p1, hp, h⟩ := Option.bind_eq_some_iff.mp h
  exact ⟨_, _, ok_X12_block l D cA sA fu s x1 x2 M hp, h, fun _ => ⟨_, _, rfl⟩⟩
theorem cd_X12_isOf : Cond.code yX12_isOf cX12_isOf 4 (some .boolean) ∈ xG := (xg 2132 (by decide +kernel) (by decide +kernel))
theorem pr_X12_isOf : (∀ e ∈ pX12_isOf, xrow cX12_isOf 4 kdX12 flX12 0 false RX12 e) ∧ xnext pX12_isOf = true := xrows (by decide +kernel)
set_option maxRecDepth 100000 in
theorem wx_X12_isOf (X : xCtx p R S0 m ag c0 D cA A0 sA 4 cX12_isOf RX12 (.code yX12_isOf cX12_isOf 4 (some .boolean) :: xG) 0 0) (hi : meth.name = yX12_isOf.name) (hroom : 2 + 2 ≤ R.frames ∧ 60 * (2 + 2) ≤ R.locals) {rr : Int32 × xM} (hE : xEnd l D cA sA cX12_isOf 4 (some .boolean) R 0 0 (some (.inl rr.1)) rr.2 p e S0 m ag below meth c0 A0 M0 ad0 Z) (fu : Nat) (s : Nat) (x1 : Int32) (x2 : Int32) (x3 : Int32) (M : xM) (h : F_X12_isOf fu s x1 x2 x3 M = some rr) : xWx p l e R S0 m ag below meth c0 D cA A0 sA M0 ad0 4 Z 0 0 0 0 0 [(0, .inr (.inr (12, some s))), (1, .inl x1), (2, .inl x2), (3, .inl x3)] [] M := by
  rw [← q_X12_isOf fu s x1 x2 x3 M] at h
  have hT : ∀ w ∈ xG, w ∈ (Cond.code yX12_isOf cX12_isOf 4 (some .boolean) :: xG) := fun w hw => List.mem_cons_of_mem _ hw
  refine xrun_sound (nst := 0) (isInit := false) (kd := kdX12) X (xcls_mono hT xclsG) (xpool_mono hT plX12) (fun z => by cases z) (fun idx v hf => xkoE_mono hT (koX12_ok _ (xfind_mem hf))) (xents (ca := _) ?_) (endZ hE).1 (endZ hE).2 (xcuts (cu := _) ?_) pr_X12_isOf.1 pr_X12_isOf.2 _ _ _ _ _ _ _ _ (xat_ok pr_X12_isOf.1 pr_X12_isOf.2).1 (xat_ok pr_X12_isOf.1 pr_X12_isOf.2).2.1 (xat_ok pr_X12_isOf.1 pr_X12_isOf.2).2.2 h
  · exact (List.forall_mem_cons.mpr ⟨(xent_met X (ci := 12) hT cd_X12_slotAt lk_X12_264 rfl (by decide) rfl (by decide +kernel) (fun z => absurd z (by decide)) (hw_X12_slotAt l D cA sA fu 2 rfl) (fun z => absurd rfl z) (by constructor <;> omega) (by decide)), (List.forall_mem_cons.mpr ⟨(xent_met X (ci := 12) hT cd_X12_typeOf lk_X12_290 rfl (by decide) rfl (by decide +kernel) (fun z => absurd z (by decide)) (hw_X12_typeOf l D cA sA fu 0) (fun _ => ⟨by decide, fun _ => ⟨TX12, 29, rfl⟩⟩) (by constructor <;> omega) (by decide)), (fun _ h => nomatch h)⟩)⟩)
  · exact (fun _ h => nomatch h)

theorem ok_X12_isOf (l : Launch) (D : va_G) (cA : Nat → ClassId) (sA : Nat → Nat) (fu : Nat) (s : Nat) (x1 : Int32) (x2 : Int32) (x3 : Int32) (M : xM) {rr : Int32 × xM} (h : F_X12_isOf fu s x1 x2 x3 M = some rr) : xMet l D cA sA yX12_isOf cX12_isOf 4 (some .boolean) xG (2 + 1) 0 0 [.inr (.inr (12, some s)), .inl x1, .inl x2, .inl x3] M (some (.inl rr.1)) rr.2 :=
  xmet_of (by decide +kernel) (Nat.le_of_ble_eq_true rfl) (fun p e s1 m ag below meth c0 A0 ad0 Z X hn hE => wx_X12_isOf X hn ⟨Nat.le_refl _, Nat.le_refl _⟩ hE fu s x1 x2 x3 M h)
theorem hw_X12_isOf (l : Launch) (D : va_G) (cA : Nat → ClassId) (sA : Nat → Nat) (fu : Nat) {ρ : Type} {r0 : ρ} (kd1 : Nat) : ∀ (as : List xV) (M : xM) (k : Option xV → xM → Option ρ), w_X12_isOf fu as M k = some r0 → ∃ v M', xMet l D cA sA yX12_isOf cX12_isOf 4 (some .boolean) xG (2 + 1) 0 0 as M v M' ∧ k v M' = some r0 ∧ (kd1 ≠ 2 → ∃ a as', as = .inr (.inr (12, some a)) :: as') := by
  intro as M k h
  unfold w_X12_isOf at h
  replace h := pR_some h
  obtain ⟨o, as1, rfl, h⟩ := h
  replace h := bd_some h
  obtain ⟨s, rfl, h⟩ := h
  replace h := pI_some h
  obtain ⟨x1, as1, rfl, h⟩ := h
  replace h := pI_some h
  obtain ⟨x2, as1, rfl, h⟩ := h
  replace h := pI_some h
  obtain ⟨x3, as1, rfl, h⟩ := h
  replace h := xe_some h
  obtain ⟨rfl, h⟩ := h
  obtain ⟨p1, hp, h⟩ := Option.bind_eq_some_iff.mp h
  exact ⟨_, _, ok_X12_isOf l D cA sA fu s x1 x2 x3 M hp, h, fun _ => ⟨_, _, rfl⟩⟩
theorem lk_X12_447 : xLink xG RX12 447 0 yX12_isOf 3 := ⟨Or.inl (xg 2129 (by decide +kernel) (by decide +kernel)), (xg 2131 (by decide +kernel) (by decide +kernel)), (xg 122 (by decide +kernel) (by decide +kernel)), (xg 141 (by decide +kernel) (by decide +kernel)), ⟨12, by decide, TX12, 29, rfl⟩⟩
theorem cd_X12_chain : Cond.code yX12_chain cX12_chain 5 (some .int) ∈ xG := (xg 2136 (by decide +kernel) (by decide +kernel))
theorem pr_X12_chain : (∀ e ∈ pX12_chain, xrow cX12_chain 5 kdX12 flX12 0 false RX12 e) ∧ xnext pX12_chain = true := xrows (by decide +kernel)
set_option maxRecDepth 100000 in
theorem wx_X12_chain_21 (X : xCtx p R S0 m ag c0 D cA A0 sA 5 cX12_chain RX12 (.code yX12_chain cX12_chain 5 (some .int) :: xG) 0 0) (hi : meth.name = yX12_chain.name) (hroom : 3 + 2 ≤ R.frames ∧ 60 * (3 + 2) ≤ R.locals) {rr : Int32 × xM} (hE : xEnd l D cA sA cX12_chain 5 (some .int) R 0 0 (some (.inl rr.1)) rr.2 p e S0 m ag below meth c0 A0 M0 ad0 Z) (fu : Nat) : ∀ (n : Nat) (s : Nat) (x1 : Int32) (x2 : Int32) (x3 : Int32) (x4 : Int32) (M : xM), L_X12_chain_21 fu n s x1 x2 x3 x4 M = some rr → xWx p l e R S0 m ag below meth c0 D cA A0 sA M0 ad0 5 Z 0 0 21 0 0 [(0, .inr (.inr (12, some s))), (1, .inl x1), (2, .inl x2), (3, .inl x3), (4, .inl x4)] [] M := by
  intro n
  induction n with
  | zero => intro s x1 x2 x3 x4 M h; cases h
  | succ n ih =>
    intro s x1 x2 x3 x4 M h
    rw [← q_X12_chain_21 fu n s x1 x2 x3 x4 M] at h
    have hT : ∀ w ∈ xG, w ∈ (Cond.code yX12_chain cX12_chain 5 (some .int) :: xG) := fun w hw => List.mem_cons_of_mem _ hw
    refine xrun_sound (nst := 0) (isInit := false) (kd := kdX12) X (xcls_mono hT xclsG) (xpool_mono hT plX12) (fun z => by cases z) (fun idx v hf => xkoE_mono hT (koX12_ok _ (xfind_mem hf))) (xents (ca := _) ?_) (endI hE).1 (endI hE).2 (xcuts (cu := _) ?_) pr_X12_chain.1 pr_X12_chain.2 _ _ _ _ _ _ _ _ (xat_ok pr_X12_chain.1 pr_X12_chain.2).1 (xat_ok pr_X12_chain.1 pr_X12_chain.2).2.1 (xat_ok pr_X12_chain.1 pr_X12_chain.2).2.2 h
    · exact (List.forall_mem_cons.mpr ⟨(xent_met X (ci := 12) hT cd_X12_allSlots lk_X12_277 rfl (by decide) rfl (by decide +kernel) (fun z => absurd z (by decide)) (hw_X12_allSlots l D cA sA fu 0) (fun _ => ⟨by decide, fun _ => ⟨TX12, 29, rfl⟩⟩) (by constructor <;> omega) (by decide)), (List.forall_mem_cons.mpr ⟨(xent_met X (ci := 12) hT cd_X12_isFirst lk_X12_299 rfl (by decide) rfl (by decide +kernel) (fun z => absurd z (by decide)) (hw_X12_isFirst l D cA sA fu 0) (fun _ => ⟨by decide, fun _ => ⟨TX12, 29, rfl⟩⟩) (by constructor <;> omega) (by decide)), (List.forall_mem_cons.mpr ⟨(xent_met X (ci := 12) hT cd_X12_isOf lk_X12_447 rfl (by decide) rfl (by decide +kernel) (fun z => absurd z (by decide)) (hw_X12_isOf l D cA sA fu 0) (fun _ => ⟨by decide, fun _ => ⟨TX12, 29, rfl⟩⟩) (by constructor <;> omega) (by decide)), (fun _ h => nomatch h)⟩)⟩)⟩)
    · refine (List.forall_mem_cons.mpr ⟨?_, (fun _ h => nomatch h)⟩)
      · intro bc bs ls st M h
        replace h := xz_some h
        obtain ⟨rfl, rfl, h⟩ := h
        replace h := lR_some h
        obtain ⟨o, e0, h⟩ := h
        replace h := bd_some h
        obtain ⟨s', rfl, h⟩ := h
        replace h := lI_some h
        obtain ⟨x1', e1, h⟩ := h
        replace h := lI_some h
        obtain ⟨x2', e2, h⟩ := h
        replace h := lI_some h
        obtain ⟨x3', e3, h⟩ := h
        replace h := lI_some h
        obtain ⟨x4', e4, h⟩ := h
        replace h := xe_some h
        obtain ⟨rfl, h⟩ := h
        exact xWx_ls (ih s' x1' x2' x3' x4' M h) (List.forall_mem_cons.mpr ⟨e0, (List.forall_mem_cons.mpr ⟨e1, (List.forall_mem_cons.mpr ⟨e2, (List.forall_mem_cons.mpr ⟨e3, (List.forall_mem_cons.mpr ⟨e4, (fun _ h => nomatch h)⟩)⟩)⟩)⟩)⟩)

set_option maxRecDepth 100000 in
theorem wx_X12_chain (X : xCtx p R S0 m ag c0 D cA A0 sA 5 cX12_chain RX12 (.code yX12_chain cX12_chain 5 (some .int) :: xG) 0 0) (hi : meth.name = yX12_chain.name) (hroom : 3 + 2 ≤ R.frames ∧ 60 * (3 + 2) ≤ R.locals) {rr : Int32 × xM} (hE : xEnd l D cA sA cX12_chain 5 (some .int) R 0 0 (some (.inl rr.1)) rr.2 p e S0 m ag below meth c0 A0 M0 ad0 Z) (fu : Nat) (s : Nat) (x1 : Int32) (x2 : Int32) (M : xM) (h : F_X12_chain fu s x1 x2 M = some rr) : xWx p l e R S0 m ag below meth c0 D cA A0 sA M0 ad0 5 Z 0 0 0 0 0 [(0, .inr (.inr (12, some s))), (1, .inl x1), (2, .inl x2)] [] M := by
  rw [← q_X12_chain fu s x1 x2 M] at h
  have hT : ∀ w ∈ xG, w ∈ (Cond.code yX12_chain cX12_chain 5 (some .int) :: xG) := fun w hw => List.mem_cons_of_mem _ hw
  refine xrun_sound (nst := 0) (isInit := false) (kd := kdX12) X (xcls_mono hT xclsG) (xpool_mono hT plX12) (fun z => by cases z) (fun idx v hf => xkoE_mono hT (koX12_ok _ (xfind_mem hf))) (xents (ca := _) ?_) (endI hE).1 (endI hE).2 (xcuts (cu := _) ?_) pr_X12_chain.1 pr_X12_chain.2 _ _ _ _ _ _ _ _ (xat_ok pr_X12_chain.1 pr_X12_chain.2).1 (xat_ok pr_X12_chain.1 pr_X12_chain.2).2.1 (xat_ok pr_X12_chain.1 pr_X12_chain.2).2.2 h
  · exact (List.forall_mem_cons.mpr ⟨(xent_met X (ci := 12) hT cd_X12_isPage lk_X12_345 rfl (by decide) rfl (by decide +kernel) (fun z => absurd z (by decide)) (hw_X12_isPage l D cA sA fu 0) (fun _ => ⟨by decide, fun _ => ⟨TX12, 29, rfl⟩⟩) (by constructor <;> omega) (by decide)), (fun _ h => nomatch h)⟩)
  · refine (List.forall_mem_cons.mpr ⟨?_, (fun _ h => nomatch h)⟩)
    · intro bc bs ls st M h
      replace h := xz_some h
      obtain ⟨rfl, rfl, h⟩ := h
      replace h := lR_some h
      obtain ⟨o, e0, h⟩ := h
      replace h := bd_some h
      obtain ⟨s', rfl, h⟩ := h
      replace h := lI_some h
      obtain ⟨x1', e1, h⟩ := h
      replace h := lI_some h
      obtain ⟨x2', e2, h⟩ := h
      replace h := lI_some h
      obtain ⟨x3', e3, h⟩ := h
      replace h := lI_some h
      obtain ⟨x4', e4, h⟩ := h
      replace h := xe_some h
      obtain ⟨rfl, h⟩ := h
      exact xWx_ls (wx_X12_chain_21 X hi hroom hE fu fu s' x1' x2' x3' x4' M h) (List.forall_mem_cons.mpr ⟨e0, (List.forall_mem_cons.mpr ⟨e1, (List.forall_mem_cons.mpr ⟨e2, (List.forall_mem_cons.mpr ⟨e3, (List.forall_mem_cons.mpr ⟨e4, (fun _ h => nomatch h)⟩)⟩)⟩)⟩)⟩)

theorem ok_X12_chain (l : Launch) (D : va_G) (cA : Nat → ClassId) (sA : Nat → Nat) (fu : Nat) (s : Nat) (x1 : Int32) (x2 : Int32) (M : xM) {rr : Int32 × xM} (h : F_X12_chain fu s x1 x2 M = some rr) : xMet l D cA sA yX12_chain cX12_chain 5 (some .int) xG (3 + 1) 0 0 [.inr (.inr (12, some s)), .inl x1, .inl x2] M (some (.inl rr.1)) rr.2 :=
  xmet_of (by decide +kernel) (Nat.le_of_ble_eq_true rfl) (fun p e s1 m ag below meth c0 A0 ad0 Z X hn hE => wx_X12_chain X hn ⟨Nat.le_refl _, Nat.le_refl _⟩ hE fu s x1 x2 M h)
theorem hw_X12_chain (l : Launch) (D : va_G) (cA : Nat → ClassId) (sA : Nat → Nat) (fu : Nat) {ρ : Type} {r0 : ρ} (kd1 : Nat) : ∀ (as : List xV) (M : xM) (k : Option xV → xM → Option ρ), w_X12_chain fu as M k = some r0 → ∃ v M', xMet l D cA sA yX12_chain cX12_chain 5 (some .int) xG (3 + 1) 0 0 as M v M' ∧ k v M' = some r0 ∧ (kd1 ≠ 2 → ∃ a as', as = .inr (.inr (12, some a)) :: as') := by
  intro as M k h
  unfold w_X12_chain at h
  replace h := pR_some h
  obtain ⟨o, as1, rfl, h⟩ := h
  replace h := bd_some h
  obtain ⟨s, rfl, h⟩ := h
  replace h := pI_some h
  obtain ⟨x1, as1, rfl, h⟩ := h
  replace h := pI_some h
  obtain ⟨x2, as1, rfl, h⟩ := h
  replace h := xe_some h
  obtain ⟨rfl, h⟩ := h
  obtain ⟨p1, hp, h⟩ := Option.bind_eq_some_iff.mp h
  exact ⟨_, _, ok_X12_chain l D cA sA fu s x1 x2 M hp, h, fun _ => ⟨_, _, rfl⟩⟩
theorem cd_X12_close : Cond.code yX12_close cX12_close 2 (some .boolean) ∈ xG := (xg 1963 (by decide +kernel) (by decide +kernel))
theorem pr_X12_close : (∀ e ∈ pX12_close, xrow cX12_close 2 kdX12 flX12 0 false RX12 e) ∧ xnext pX12_close = true := xrows (by decide +kernel)
set_option maxRecDepth 100000 in
theorem wx_X12_close (X : xCtx p R S0 m ag c0 D cA A0 sA 2 cX12_close RX12 (.code yX12_close cX12_close 2 (some .boolean) :: xG) 0 0) (hi : meth.name = yX12_close.name) (hroom : 3 + 2 ≤ R.frames ∧ 60 * (3 + 2) ≤ R.locals) {rr : Int32 × xM} (hE : xEnd l D cA sA cX12_close 2 (some .boolean) R 0 0 (some (.inl rr.1)) rr.2 p e S0 m ag below meth c0 A0 M0 ad0 Z) (fu : Nat) (s : Nat) (x1 : Int32) (M : xM) (h : F_X12_close fu s x1 M = some rr) : xWx p l e R S0 m ag below meth c0 D cA A0 sA M0 ad0 2 Z 0 0 0 0 0 [(0, .inr (.inr (12, some s))), (1, .inl x1)] [] M := by
  rw [← q_X12_close fu s x1 M] at h
  have hT : ∀ w ∈ xG, w ∈ (Cond.code yX12_close cX12_close 2 (some .boolean) :: xG) := fun w hw => List.mem_cons_of_mem _ hw
  refine xrun_sound (nst := 0) (isInit := false) (kd := kdX12) X (xcls_mono hT xclsG) (xpool_mono hT plX12) (fun z => by cases z) (fun idx v hf => xkoE_mono hT (koX12_ok _ (xfind_mem hf))) (xents (ca := _) ?_) (endZ hE).1 (endZ hE).2 (xcuts (cu := _) ?_) pr_X12_close.1 pr_X12_close.2 _ _ _ _ _ _ _ _ (xat_ok pr_X12_close.1 pr_X12_close.2).1 (xat_ok pr_X12_close.1 pr_X12_close.2).2.1 (xat_ok pr_X12_close.1 pr_X12_close.2).2.2 h
  · exact (List.forall_mem_cons.mpr ⟨(xent_met X (ci := 12) hT cd_X12_opens lk_X12_389 rfl (by decide) rfl (by decide +kernel) (fun z => absurd z (by decide)) (hw_X12_opens l D cA sA fu 0) (fun _ => ⟨by decide, fun _ => ⟨TX12, 29, rfl⟩⟩) (by constructor <;> omega) (by decide)), (fun _ h => nomatch h)⟩)
  · exact (fun _ h => nomatch h)

theorem ok_X12_close (l : Launch) (D : va_G) (cA : Nat → ClassId) (sA : Nat → Nat) (fu : Nat) (s : Nat) (x1 : Int32) (M : xM) {rr : Int32 × xM} (h : F_X12_close fu s x1 M = some rr) : xMet l D cA sA yX12_close cX12_close 2 (some .boolean) xG (3 + 1) 0 0 [.inr (.inr (12, some s)), .inl x1] M (some (.inl rr.1)) rr.2 :=
  xmet_of (by decide +kernel) (Nat.le_of_ble_eq_true rfl) (fun p e s1 m ag below meth c0 A0 ad0 Z X hn hE => wx_X12_close X hn ⟨Nat.le_refl _, Nat.le_refl _⟩ hE fu s x1 M h)
theorem hw_X12_close (l : Launch) (D : va_G) (cA : Nat → ClassId) (sA : Nat → Nat) (fu : Nat) {ρ : Type} {r0 : ρ} (kd1 : Nat) : ∀ (as : List xV) (M : xM) (k : Option xV → xM → Option ρ), w_X12_close fu as M k = some r0 → ∃ v M', xMet l D cA sA yX12_close cX12_close 2 (some .boolean) xG (3 + 1) 0 0 as M v M' ∧ k v M' = some r0 ∧ (kd1 ≠ 2 → ∃ a as', as = .inr (.inr (12, some a)) :: as') := by
  intro as M k h
  unfold w_X12_close at h
  replace h := pR_some h
  obtain ⟨o, as1, rfl, h⟩ := h
  replace h := bd_some h
  obtain ⟨s, rfl, h⟩ := h
  replace h := pI_some h
  obtain ⟨x1, as1, rfl, h⟩ := h
  replace h := xe_some h
  obtain ⟨rfl, h⟩ := h
  obtain ⟨p1, hp, h⟩ := Option.bind_eq_some_iff.mp h
  exact ⟨_, _, ok_X12_close l D cA sA fu s x1 M hp, h, fun _ => ⟨_, _, rfl⟩⟩
theorem cd_X12_collect : Cond.code yX12_collect cX12_collect 1 (some .int) ∈ xG := (xg 1971 (by decide +kernel) (by decide +kernel))
theorem pr_X12_collect : (∀ e ∈ pX12_collect, xrow cX12_collect 1 kdX12 flX12 0 false RX12 e) ∧ xnext pX12_collect = true := xrows (by decide +kernel)
set_option maxRecDepth 100000 in
theorem wx_X12_collect (X : xCtx p R S0 m ag c0 D cA A0 sA 1 cX12_collect RX12 (.code yX12_collect cX12_collect 1 (some .int) :: xG) 0 0) (hi : meth.name = yX12_collect.name) (hroom : 8 + 2 ≤ R.frames ∧ 60 * (8 + 2) ≤ R.locals) {rr : Int32 × xM} (hE : xEnd l D cA sA cX12_collect 1 (some .int) R 0 0 (some (.inl rr.1)) rr.2 p e S0 m ag below meth c0 A0 M0 ad0 Z) (fu : Nat) (s : Nat) (M : xM) (h : F_X12_collect fu s M = some rr) : xWx p l e R S0 m ag below meth c0 D cA A0 sA M0 ad0 1 Z 0 0 0 0 0 [(0, .inr (.inr (12, some s)))] [] M := by
  rw [← q_X12_collect fu s M] at h
  have hT : ∀ w ∈ xG, w ∈ (Cond.code yX12_collect cX12_collect 1 (some .int) :: xG) := fun w hw => List.mem_cons_of_mem _ hw
  refine xrun_sound (nst := 0) (isInit := false) (kd := kdX12) X (xcls_mono hT xclsG) (xpool_mono hT plX12) (fun z => by cases z) (fun idx v hf => xkoE_mono hT (koX12_ok _ (xfind_mem hf))) (xents (ca := _) ?_) (endI hE).1 (endI hE).2 (xcuts (cu := _) ?_) pr_X12_collect.1 pr_X12_collect.2 _ _ _ _ _ _ _ _ (xat_ok pr_X12_collect.1 pr_X12_collect.2).1 (xat_ok pr_X12_collect.1 pr_X12_collect.2).2.1 (xat_ok pr_X12_collect.1 pr_X12_collect.2).2.2 h
  · exact (List.forall_mem_cons.mpr ⟨(xent_met X (ci := 12) hT cd_X12_collects lk_X12_342 rfl (by decide) rfl (by decide +kernel) (fun z => absurd z (by decide)) (hw_X12_collects l D cA sA fu 0) (fun _ => ⟨by decide, fun _ => ⟨TX12, 29, rfl⟩⟩) (by constructor <;> omega) (by decide)), (fun _ h => nomatch h)⟩)
  · exact (fun _ h => nomatch h)

theorem ok_X12_collect (l : Launch) (D : va_G) (cA : Nat → ClassId) (sA : Nat → Nat) (fu : Nat) (s : Nat) (M : xM) {rr : Int32 × xM} (h : F_X12_collect fu s M = some rr) : xMet l D cA sA yX12_collect cX12_collect 1 (some .int) xG (8 + 1) 0 0 [.inr (.inr (12, some s))] M (some (.inl rr.1)) rr.2 :=
  xmet_of (by decide +kernel) (Nat.le_of_ble_eq_true rfl) (fun p e s1 m ag below meth c0 A0 ad0 Z X hn hE => wx_X12_collect X hn ⟨Nat.le_refl _, Nat.le_refl _⟩ hE fu s M h)
theorem hw_X12_collect (l : Launch) (D : va_G) (cA : Nat → ClassId) (sA : Nat → Nat) (fu : Nat) {ρ : Type} {r0 : ρ} (kd1 : Nat) : ∀ (as : List xV) (M : xM) (k : Option xV → xM → Option ρ), w_X12_collect fu as M k = some r0 → ∃ v M', xMet l D cA sA yX12_collect cX12_collect 1 (some .int) xG (8 + 1) 0 0 as M v M' ∧ k v M' = some r0 ∧ (kd1 ≠ 2 → ∃ a as', as = .inr (.inr (12, some a)) :: as') := by
  intro as M k h
  unfold w_X12_collect at h
  replace h := pR_some h
  obtain ⟨o, as1, rfl, h⟩ := h
  replace h := bd_some h
  obtain ⟨s, rfl, h⟩ := h
  replace h := xe_some h
  obtain ⟨rfl, h⟩ := h
  obtain ⟨p1, hp, h⟩ := Option.bind_eq_some_iff.mp h
  exact ⟨_, _, ok_X12_collect l D cA sA fu s M hp, h, fun _ => ⟨_, _, rfl⟩⟩
theorem cd_X12_commit : Cond.code yX12_commit cX12_commit 1 (some .int) ∈ xG := (xg 1967 (by decide +kernel) (by decide +kernel))
theorem pr_X12_commit : (∀ e ∈ pX12_commit, xrow cX12_commit 1 kdX12 flX12 0 false RX12 e) ∧ xnext pX12_commit = true := xrows (by decide +kernel)
set_option maxRecDepth 100000 in
theorem wx_X12_commit (X : xCtx p R S0 m ag c0 D cA A0 sA 1 cX12_commit RX12 (.code yX12_commit cX12_commit 1 (some .int) :: xG) 0 0) (hi : meth.name = yX12_commit.name) (hroom : 6 + 2 ≤ R.frames ∧ 60 * (6 + 2) ≤ R.locals) {rr : Int32 × xM} (hE : xEnd l D cA sA cX12_commit 1 (some .int) R 0 0 (some (.inl rr.1)) rr.2 p e S0 m ag below meth c0 A0 M0 ad0 Z) (fu : Nat) (s : Nat) (M : xM) (h : F_X12_commit fu s M = some rr) : xWx p l e R S0 m ag below meth c0 D cA A0 sA M0 ad0 1 Z 0 0 0 0 0 [(0, .inr (.inr (12, some s)))] [] M := by
  rw [← q_X12_commit fu s M] at h
  have hT : ∀ w ∈ xG, w ∈ (Cond.code yX12_commit cX12_commit 1 (some .int) :: xG) := fun w hw => List.mem_cons_of_mem _ hw
  refine xrun_sound (nst := 0) (isInit := false) (kd := kdX12) X (xcls_mono hT xclsG) (xpool_mono hT plX12) (fun z => by cases z) (fun idx v hf => xkoE_mono hT (koX12_ok _ (xfind_mem hf))) (xents (ca := _) ?_) (endI hE).1 (endI hE).2 (xcuts (cu := _) ?_) pr_X12_commit.1 pr_X12_commit.2 _ _ _ _ _ _ _ _ (xat_ok pr_X12_commit.1 pr_X12_commit.2).1 (xat_ok pr_X12_commit.1 pr_X12_commit.2).2.1 (xat_ok pr_X12_commit.1 pr_X12_commit.2).2.2 h
  · exact (List.forall_mem_cons.mpr ⟨(xent_met X (ci := 12) hT cd_X12_commits lk_X12_365 rfl (by decide) rfl (by decide +kernel) (fun z => absurd z (by decide)) (hw_X12_commits l D cA sA fu 0) (fun _ => ⟨by decide, fun _ => ⟨TX12, 29, rfl⟩⟩) (by constructor <;> omega) (by decide)), (fun _ h => nomatch h)⟩)
  · exact (fun _ h => nomatch h)

theorem ok_X12_commit (l : Launch) (D : va_G) (cA : Nat → ClassId) (sA : Nat → Nat) (fu : Nat) (s : Nat) (M : xM) {rr : Int32 × xM} (h : F_X12_commit fu s M = some rr) : xMet l D cA sA yX12_commit cX12_commit 1 (some .int) xG (6 + 1) 0 0 [.inr (.inr (12, some s))] M (some (.inl rr.1)) rr.2 :=
  xmet_of (by decide +kernel) (Nat.le_of_ble_eq_true rfl) (fun p e s1 m ag below meth c0 A0 ad0 Z X hn hE => wx_X12_commit X hn ⟨Nat.le_refl _, Nat.le_refl _⟩ hE fu s M h)
theorem hw_X12_commit (l : Launch) (D : va_G) (cA : Nat → ClassId) (sA : Nat → Nat) (fu : Nat) {ρ : Type} {r0 : ρ} (kd1 : Nat) : ∀ (as : List xV) (M : xM) (k : Option xV → xM → Option ρ), w_X12_commit fu as M k = some r0 → ∃ v M', xMet l D cA sA yX12_commit cX12_commit 1 (some .int) xG (6 + 1) 0 0 as M v M' ∧ k v M' = some r0 ∧ (kd1 ≠ 2 → ∃ a as', as = .inr (.inr (12, some a)) :: as') := by
  intro as M k h
  unfold w_X12_commit at h
  replace h := pR_some h
  obtain ⟨o, as1, rfl, h⟩ := h
  replace h := bd_some h
  obtain ⟨s, rfl, h⟩ := h
  replace h := xe_some h
  obtain ⟨rfl, h⟩ := h
  obtain ⟨p1, hp, h⟩ := Option.bind_eq_some_iff.mp h
  exact ⟨_, _, ok_X12_commit l D cA sA fu s M hp, h, fun _ => ⟨_, _, rfl⟩⟩
theorem cd_X12_copies : Cond.code yX12_copies cX12_copies 5 (some .int) ∈ xG := (xg 2128 (by decide +kernel) (by decide +kernel))
theorem pr_X12_copies : (∀ e ∈ pX12_copies, xrow cX12_copies 5 kdX12 flX12 0 false RX12 e) ∧ xnext pX12_copies = true := xrows (by decide +kernel)
set_option maxRecDepth 100000 in
theorem wx_X12_copies_21 (X : xCtx p R S0 m ag c0 D cA A0 sA 5 cX12_copies RX12 (.code yX12_copies cX12_copies 5 (some .int) :: xG) 0 0) (hi : meth.name = yX12_copies.name) (hroom : 3 + 2 ≤ R.frames ∧ 60 * (3 + 2) ≤ R.locals) {rr : Int32 × xM} (hE : xEnd l D cA sA cX12_copies 5 (some .int) R 0 0 (some (.inl rr.1)) rr.2 p e S0 m ag below meth c0 A0 M0 ad0 Z) (fu : Nat) : ∀ (n : Nat) (s : Nat) (x1 : Int32) (x2 : Int32) (x3 : Int32) (x4 : Int32) (M : xM), L_X12_copies_21 fu n s x1 x2 x3 x4 M = some rr → xWx p l e R S0 m ag below meth c0 D cA A0 sA M0 ad0 5 Z 0 0 21 0 0 [(0, .inr (.inr (12, some s))), (1, .inl x1), (2, .inl x2), (3, .inl x3), (4, .inl x4)] [] M := by
  intro n
  induction n with
  | zero => intro s x1 x2 x3 x4 M h; cases h
  | succ n ih =>
    intro s x1 x2 x3 x4 M h
    rw [← q_X12_copies_21 fu n s x1 x2 x3 x4 M] at h
    have hT : ∀ w ∈ xG, w ∈ (Cond.code yX12_copies cX12_copies 5 (some .int) :: xG) := fun w hw => List.mem_cons_of_mem _ hw
    refine xrun_sound (nst := 0) (isInit := false) (kd := kdX12) X (xcls_mono hT xclsG) (xpool_mono hT plX12) (fun z => by cases z) (fun idx v hf => xkoE_mono hT (koX12_ok _ (xfind_mem hf))) (xents (ca := _) ?_) (endI hE).1 (endI hE).2 (xcuts (cu := _) ?_) pr_X12_copies.1 pr_X12_copies.2 _ _ _ _ _ _ _ _ (xat_ok pr_X12_copies.1 pr_X12_copies.2).1 (xat_ok pr_X12_copies.1 pr_X12_copies.2).2.1 (xat_ok pr_X12_copies.1 pr_X12_copies.2).2.2 h
    · exact (List.forall_mem_cons.mpr ⟨(xent_met X (ci := 12) hT cd_X12_allSlots lk_X12_277 rfl (by decide) rfl (by decide +kernel) (fun z => absurd z (by decide)) (hw_X12_allSlots l D cA sA fu 0) (fun _ => ⟨by decide, fun _ => ⟨TX12, 29, rfl⟩⟩) (by constructor <;> omega) (by decide)), (List.forall_mem_cons.mpr ⟨(xent_met X (ci := 12) hT cd_X12_isOf lk_X12_447 rfl (by decide) rfl (by decide +kernel) (fun z => absurd z (by decide)) (hw_X12_isOf l D cA sA fu 0) (fun _ => ⟨by decide, fun _ => ⟨TX12, 29, rfl⟩⟩) (by constructor <;> omega) (by decide)), (fun _ h => nomatch h)⟩)⟩)
    · refine (List.forall_mem_cons.mpr ⟨?_, (fun _ h => nomatch h)⟩)
      · intro bc bs ls st M h
        replace h := xz_some h
        obtain ⟨rfl, rfl, h⟩ := h
        replace h := lR_some h
        obtain ⟨o, e0, h⟩ := h
        replace h := bd_some h
        obtain ⟨s', rfl, h⟩ := h
        replace h := lI_some h
        obtain ⟨x1', e1, h⟩ := h
        replace h := lI_some h
        obtain ⟨x2', e2, h⟩ := h
        replace h := lI_some h
        obtain ⟨x3', e3, h⟩ := h
        replace h := lI_some h
        obtain ⟨x4', e4, h⟩ := h
        replace h := xe_some h
        obtain ⟨rfl, h⟩ := h
        exact xWx_ls (ih s' x1' x2' x3' x4' M h) (List.forall_mem_cons.mpr ⟨e0, (List.forall_mem_cons.mpr ⟨e1, (List.forall_mem_cons.mpr ⟨e2, (List.forall_mem_cons.mpr ⟨e3, (List.forall_mem_cons.mpr ⟨e4, (fun _ h => nomatch h)⟩)⟩)⟩)⟩)⟩)

set_option maxRecDepth 100000 in
theorem wx_X12_copies (X : xCtx p R S0 m ag c0 D cA A0 sA 5 cX12_copies RX12 (.code yX12_copies cX12_copies 5 (some .int) :: xG) 0 0) (hi : meth.name = yX12_copies.name) (hroom : 3 + 2 ≤ R.frames ∧ 60 * (3 + 2) ≤ R.locals) {rr : Int32 × xM} (hE : xEnd l D cA sA cX12_copies 5 (some .int) R 0 0 (some (.inl rr.1)) rr.2 p e S0 m ag below meth c0 A0 M0 ad0 Z) (fu : Nat) (s : Nat) (x1 : Int32) (x2 : Int32) (M : xM) (h : F_X12_copies fu s x1 x2 M = some rr) : xWx p l e R S0 m ag below meth c0 D cA A0 sA M0 ad0 5 Z 0 0 0 0 0 [(0, .inr (.inr (12, some s))), (1, .inl x1), (2, .inl x2)] [] M := by
  rw [← q_X12_copies fu s x1 x2 M] at h
  have hT : ∀ w ∈ xG, w ∈ (Cond.code yX12_copies cX12_copies 5 (some .int) :: xG) := fun w hw => List.mem_cons_of_mem _ hw
  refine xrun_sound (nst := 0) (isInit := false) (kd := kdX12) X (xcls_mono hT xclsG) (xpool_mono hT plX12) (fun z => by cases z) (fun idx v hf => xkoE_mono hT (koX12_ok _ (xfind_mem hf))) (xents (ca := _) ?_) (endI hE).1 (endI hE).2 (xcuts (cu := _) ?_) pr_X12_copies.1 pr_X12_copies.2 _ _ _ _ _ _ _ _ (xat_ok pr_X12_copies.1 pr_X12_copies.2).1 (xat_ok pr_X12_copies.1 pr_X12_copies.2).2.1 (xat_ok pr_X12_copies.1 pr_X12_copies.2).2.2 h
  · exact (List.forall_mem_cons.mpr ⟨(xent_met X (ci := 12) hT cd_X12_isPage lk_X12_345 rfl (by decide) rfl (by decide +kernel) (fun z => absurd z (by decide)) (hw_X12_isPage l D cA sA fu 0) (fun _ => ⟨by decide, fun _ => ⟨TX12, 29, rfl⟩⟩) (by constructor <;> omega) (by decide)), (fun _ h => nomatch h)⟩)
  · refine (List.forall_mem_cons.mpr ⟨?_, (fun _ h => nomatch h)⟩)
    · intro bc bs ls st M h
      replace h := xz_some h
      obtain ⟨rfl, rfl, h⟩ := h
      replace h := lR_some h
      obtain ⟨o, e0, h⟩ := h
      replace h := bd_some h
      obtain ⟨s', rfl, h⟩ := h
      replace h := lI_some h
      obtain ⟨x1', e1, h⟩ := h
      replace h := lI_some h
      obtain ⟨x2', e2, h⟩ := h
      replace h := lI_some h
      obtain ⟨x3', e3, h⟩ := h
      replace h := lI_some h
      obtain ⟨x4', e4, h⟩ := h
      replace h := xe_some h
      obtain ⟨rfl, h⟩ := h
      exact xWx_ls (wx_X12_copies_21 X hi hroom hE fu fu s' x1' x2' x3' x4' M h) (List.forall_mem_cons.mpr ⟨e0, (List.forall_mem_cons.mpr ⟨e1, (List.forall_mem_cons.mpr ⟨e2, (List.forall_mem_cons.mpr ⟨e3, (List.forall_mem_cons.mpr ⟨e4, (fun _ h => nomatch h)⟩)⟩)⟩)⟩)⟩)

theorem ok_X12_copies (l : Launch) (D : va_G) (cA : Nat → ClassId) (sA : Nat → Nat) (fu : Nat) (s : Nat) (x1 : Int32) (x2 : Int32) (M : xM) {rr : Int32 × xM} (h : F_X12_copies fu s x1 x2 M = some rr) : xMet l D cA sA yX12_copies cX12_copies 5 (some .int) xG (3 + 1) 0 0 [.inr (.inr (12, some s)), .inl x1, .inl x2] M (some (.inl rr.1)) rr.2 :=
  xmet_of (by decide +kernel) (Nat.le_of_ble_eq_true rfl) (fun p e s1 m ag below meth c0 A0 ad0 Z X hn hE => wx_X12_copies X hn ⟨Nat.le_refl _, Nat.le_refl _⟩ hE fu s x1 x2 M h)
theorem hw_X12_copies (l : Launch) (D : va_G) (cA : Nat → ClassId) (sA : Nat → Nat) (fu : Nat) {ρ : Type} {r0 : ρ} (kd1 : Nat) : ∀ (as : List xV) (M : xM) (k : Option xV → xM → Option ρ), w_X12_copies fu as M k = some r0 → ∃ v M', xMet l D cA sA yX12_copies cX12_copies 5 (some .int) xG (3 + 1) 0 0 as M v M' ∧ k v M' = some r0 ∧ (kd1 ≠ 2 → ∃ a as', as = .inr (.inr (12, some a)) :: as') := by
  intro as M k h
  unfold w_X12_copies at h
  replace h := pR_some h
  obtain ⟨o, as1, rfl, h⟩ := h
  replace h := bd_some h
  obtain ⟨s, rfl, h⟩ := h
  replace h := pI_some h
  obtain ⟨x1, as1, rfl, h⟩ := h
  replace h := pI_some h
  obtain ⟨x2, as1, rfl, h⟩ := h
  replace h := xe_some h
  obtain ⟨rfl, h⟩ := h
  obtain ⟨p1, hp, h⟩ := Option.bind_eq_some_iff.mp h
  exact ⟨_, _, ok_X12_copies l D cA sA fu s x1 x2 M hp, h, fun _ => ⟨_, _, rfl⟩⟩
theorem cd_X12_mappedNow : Cond.code yX12_mappedNow cX12_mappedNow 3 (some .int) ∈ xG := (xg 2168 (by decide +kernel) (by decide +kernel))
theorem pr_X12_mappedNow : (∀ e ∈ pX12_mappedNow, xrow cX12_mappedNow 3 kdX12 flX12 0 false RX12 e) ∧ xnext pX12_mappedNow = true := xrows (by decide +kernel)
set_option maxRecDepth 100000 in
theorem wx_X12_mappedNow_4 (X : xCtx p R S0 m ag c0 D cA A0 sA 3 cX12_mappedNow RX12 (.code yX12_mappedNow cX12_mappedNow 3 (some .int) :: xG) 0 0) (hi : meth.name = yX12_mappedNow.name) (hroom : 0 + 2 ≤ R.frames ∧ 60 * (0 + 2) ≤ R.locals) {rr : Int32 × xM} (hE : xEnd l D cA sA cX12_mappedNow 3 (some .int) R 0 0 (some (.inl rr.1)) rr.2 p e S0 m ag below meth c0 A0 M0 ad0 Z) (fu : Nat) : ∀ (n : Nat) (s : Nat) (x1 : Int32) (x2 : Int32) (M : xM), L_X12_mappedNow_4 fu n s x1 x2 M = some rr → xWx p l e R S0 m ag below meth c0 D cA A0 sA M0 ad0 3 Z 0 0 4 0 0 [(0, .inr (.inr (12, some s))), (1, .inl x1), (2, .inl x2)] [] M := by
  intro n
  induction n with
  | zero => intro s x1 x2 M h; cases h
  | succ n ih =>
    intro s x1 x2 M h
    rw [← q_X12_mappedNow_4 fu n s x1 x2 M] at h
    have hT : ∀ w ∈ xG, w ∈ (Cond.code yX12_mappedNow cX12_mappedNow 3 (some .int) :: xG) := fun w hw => List.mem_cons_of_mem _ hw
    refine xrun_sound (nst := 0) (isInit := false) (kd := kdX12) X (xcls_mono hT xclsG) (xpool_mono hT plX12) (fun z => by cases z) (fun idx v hf => xkoE_mono hT (koX12_ok _ (xfind_mem hf))) (xents (ca := _) ?_) (endI hE).1 (endI hE).2 (xcuts (cu := _) ?_) pr_X12_mappedNow.1 pr_X12_mappedNow.2 _ _ _ _ _ _ _ _ (xat_ok pr_X12_mappedNow.1 pr_X12_mappedNow.2).1 (xat_ok pr_X12_mappedNow.1 pr_X12_mappedNow.2).2.1 (xat_ok pr_X12_mappedNow.1 pr_X12_mappedNow.2).2.2 h
    · exact (fun _ h => nomatch h)
    · refine (List.forall_mem_cons.mpr ⟨?_, (fun _ h => nomatch h)⟩)
      · intro bc bs ls st M h
        replace h := xz_some h
        obtain ⟨rfl, rfl, h⟩ := h
        replace h := lR_some h
        obtain ⟨o, e0, h⟩ := h
        replace h := bd_some h
        obtain ⟨s', rfl, h⟩ := h
        replace h := lI_some h
        obtain ⟨x1', e1, h⟩ := h
        replace h := lI_some h
        obtain ⟨x2', e2, h⟩ := h
        replace h := xe_some h
        obtain ⟨rfl, h⟩ := h
        exact xWx_ls (ih s' x1' x2' M h) (List.forall_mem_cons.mpr ⟨e0, (List.forall_mem_cons.mpr ⟨e1, (List.forall_mem_cons.mpr ⟨e2, (fun _ h => nomatch h)⟩)⟩)⟩)

set_option maxRecDepth 100000 in
theorem wx_X12_mappedNow (X : xCtx p R S0 m ag c0 D cA A0 sA 3 cX12_mappedNow RX12 (.code yX12_mappedNow cX12_mappedNow 3 (some .int) :: xG) 0 0) (hi : meth.name = yX12_mappedNow.name) (hroom : 0 + 2 ≤ R.frames ∧ 60 * (0 + 2) ≤ R.locals) {rr : Int32 × xM} (hE : xEnd l D cA sA cX12_mappedNow 3 (some .int) R 0 0 (some (.inl rr.1)) rr.2 p e S0 m ag below meth c0 A0 M0 ad0 Z) (fu : Nat) (s : Nat) (M : xM) (h : F_X12_mappedNow fu s M = some rr) : xWx p l e R S0 m ag below meth c0 D cA A0 sA M0 ad0 3 Z 0 0 0 0 0 [(0, .inr (.inr (12, some s)))] [] M := by
  rw [← q_X12_mappedNow fu s M] at h
  have hT : ∀ w ∈ xG, w ∈ (Cond.code yX12_mappedNow cX12_mappedNow 3 (some .int) :: xG) := fun w hw => List.mem_cons_of_mem _ hw
  refine xrun_sound (nst := 0) (isInit := false) (kd := kdX12) X (xcls_mono hT xclsG) (xpool_mono hT plX12) (fun z => by cases z) (fun idx v hf => xkoE_mono hT (koX12_ok _ (xfind_mem hf))) (xents (ca := _) ?_) (endI hE).1 (endI hE).2 (xcuts (cu := _) ?_) pr_X12_mappedNow.1 pr_X12_mappedNow.2 _ _ _ _ _ _ _ _ (xat_ok pr_X12_mappedNow.1 pr_X12_mappedNow.2).1 (xat_ok pr_X12_mappedNow.1 pr_X12_mappedNow.2).2.1 (xat_ok pr_X12_mappedNow.1 pr_X12_mappedNow.2).2.2 h
  · exact (fun _ h => nomatch h)
  · refine (List.forall_mem_cons.mpr ⟨?_, (fun _ h => nomatch h)⟩)
    · intro bc bs ls st M h
      replace h := xz_some h
      obtain ⟨rfl, rfl, h⟩ := h
      replace h := lR_some h
      obtain ⟨o, e0, h⟩ := h
      replace h := bd_some h
      obtain ⟨s', rfl, h⟩ := h
      replace h := lI_some h
      obtain ⟨x1', e1, h⟩ := h
      replace h := lI_some h
      obtain ⟨x2', e2, h⟩ := h
      replace h := xe_some h
      obtain ⟨rfl, h⟩ := h
      exact xWx_ls (wx_X12_mappedNow_4 X hi hroom hE fu fu s' x1' x2' M h) (List.forall_mem_cons.mpr ⟨e0, (List.forall_mem_cons.mpr ⟨e1, (List.forall_mem_cons.mpr ⟨e2, (fun _ h => nomatch h)⟩)⟩)⟩)

theorem ok_X12_mappedNow (l : Launch) (D : va_G) (cA : Nat → ClassId) (sA : Nat → Nat) (fu : Nat) (s : Nat) (M : xM) {rr : Int32 × xM} (h : F_X12_mappedNow fu s M = some rr) : xMet l D cA sA yX12_mappedNow cX12_mappedNow 3 (some .int) xG (0 + 1) 0 0 [.inr (.inr (12, some s))] M (some (.inl rr.1)) rr.2 :=
  xmet_of (by decide +kernel) (Nat.le_of_ble_eq_true rfl) (fun p e s1 m ag below meth c0 A0 ad0 Z X hn hE => wx_X12_mappedNow X hn ⟨Nat.le_refl _, Nat.le_refl _⟩ hE fu s M h)
theorem hw_X12_mappedNow (l : Launch) (D : va_G) (cA : Nat → ClassId) (sA : Nat → Nat) (fu : Nat) {ρ : Type} {r0 : ρ} (kd1 : Nat) : ∀ (as : List xV) (M : xM) (k : Option xV → xM → Option ρ), w_X12_mappedNow fu as M k = some r0 → ∃ v M', xMet l D cA sA yX12_mappedNow cX12_mappedNow 3 (some .int) xG (0 + 1) 0 0 as M v M' ∧ k v M' = some r0 ∧ (kd1 ≠ 2 → ∃ a as', as = .inr (.inr (12, some a)) :: as') := by
  intro as M k h
  unfold w_X12_mappedNow at h
  replace h := pR_some h
  obtain ⟨o, as1, rfl, h⟩ := h
  replace h := bd_some h
  obtain ⟨s, rfl, h⟩ := h
  replace h := xe_some h
  obtain ⟨rfl, h⟩ := h
  obtain ⟨p1, hp, h⟩ := Option.bind_eq_some_iff.mp h
  exact ⟨_, _, ok_X12_mappedNow l D cA sA fu s M hp, h, fun _ => ⟨_, _, rfl⟩⟩
theorem lk_X12_468 : xLink xG RX12 468 0 yX12_baseNow 0 := ⟨Or.inl (xg 2161 (by decide +kernel) (by decide +kernel)), (xg 2163 (by decide +kernel) (by decide +kernel)), (xg 125 (by decide +kernel) (by decide +kernel)), (xg 141 (by decide +kernel) (by decide +kernel)), ⟨12, by decide, TX12, 29, rfl⟩⟩
theorem lk_X12_471 : xLink xG RX12 471 0 yX12_mappedNow 0 := ⟨Or.inl (xg 2165 (by decide +kernel) (by decide +kernel)), (xg 2167 (by decide +kernel) (by decide +kernel)), (xg 126 (by decide +kernel) (by decide +kernel)), (xg 141 (by decide +kernel) (by decide +kernel)), ⟨12, by decide, TX12, 29, rfl⟩⟩
theorem cd_X12_count : Cond.code yX12_count cX12_count 2 (some .int) ∈ xG := (xg 2160 (by decide +kernel) (by decide +kernel))
theorem pr_X12_count : (∀ e ∈ pX12_count, xrow cX12_count 2 kdX12 flX12 0 false RX12 e) ∧ xnext pX12_count = true := xrows (by decide +kernel)
set_option maxRecDepth 100000 in
theorem wx_X12_count (X : xCtx p R S0 m ag c0 D cA A0 sA 2 cX12_count RX12 (.code yX12_count cX12_count 2 (some .int) :: xG) 0 0) (hi : meth.name = yX12_count.name) (hroom : 6 + 2 ≤ R.frames ∧ 60 * (6 + 2) ≤ R.locals) {rr : Int32 × xM} (hE : xEnd l D cA sA cX12_count 2 (some .int) R 0 0 (some (.inl rr.1)) rr.2 p e S0 m ag below meth c0 A0 M0 ad0 Z) (fu : Nat) (s : Nat) (x1 : Int32) (M : xM) (h : F_X12_count fu s x1 M = some rr) : xWx p l e R S0 m ag below meth c0 D cA A0 sA M0 ad0 2 Z 0 0 0 0 0 [(0, .inr (.inr (12, some s))), (1, .inl x1)] [] M := by
  rw [← q_X12_count fu s x1 M] at h
  have hT : ∀ w ∈ xG, w ∈ (Cond.code yX12_count cX12_count 2 (some .int) :: xG) := fun w hw => List.mem_cons_of_mem _ hw
  refine xrun_sound (nst := 0) (isInit := false) (kd := kdX12) X (xcls_mono hT xclsG) (xpool_mono hT plX12) (fun z => by cases z) (fun idx v hf => xkoE_mono hT (koX12_ok _ (xfind_mem hf))) (xents (ca := _) ?_) (endI hE).1 (endI hE).2 (xcuts (cu := _) ?_) pr_X12_count.1 pr_X12_count.2 _ _ _ _ _ _ _ _ (xat_ok pr_X12_count.1 pr_X12_count.2).1 (xat_ok pr_X12_count.1 pr_X12_count.2).2.1 (xat_ok pr_X12_count.1 pr_X12_count.2).2.2 h
  · exact (List.forall_mem_cons.mpr ⟨(xent_met X (ci := 12) hT cd_X12_files lk_X12_223 rfl (by decide) rfl (by decide +kernel) (fun z => absurd z (by decide)) (hw_X12_files l D cA sA fu 0) (fun _ => ⟨by decide, fun _ => ⟨TX12, 29, rfl⟩⟩) (by constructor <;> omega) (by decide)), (List.forall_mem_cons.mpr ⟨(xent_met X (ci := 12) hT cd_X12_blocks lk_X12_252 rfl (by decide) rfl (by decide +kernel) (fun z => absurd z (by decide)) (hw_X12_blocks l D cA sA fu 0) (fun _ => ⟨by decide, fun _ => ⟨TX12, 29, rfl⟩⟩) (by constructor <;> omega) (by decide)), (List.forall_mem_cons.mpr ⟨(xent_met X (ci := 12) hT cd_X12_wide lk_X12_255 rfl (by decide) rfl (by decide +kernel) (fun z => absurd z (by decide)) (hw_X12_wide l D cA sA fu 0) (fun _ => ⟨by decide, fun _ => ⟨TX12, 29, rfl⟩⟩) (by constructor <;> omega) (by decide)), (List.forall_mem_cons.mpr ⟨(xent_met X (ci := 12) hT cd_X12_allSlots lk_X12_277 rfl (by decide) rfl (by decide +kernel) (fun z => absurd z (by decide)) (hw_X12_allSlots l D cA sA fu 0) (fun _ => ⟨by decide, fun _ => ⟨TX12, 29, rfl⟩⟩) (by constructor <;> omega) (by decide)), (List.forall_mem_cons.mpr ⟨(xent_met X (ci := 12) hT cd_X12_partsOf lk_X12_323 rfl (by decide) rfl (by decide +kernel) (fun z => absurd z (by decide)) (hw_X12_partsOf l D cA sA fu 0) (fun _ => ⟨by decide, fun _ => ⟨TX12, 29, rfl⟩⟩) (by constructor <;> omega) (by decide)), (List.forall_mem_cons.mpr ⟨(xent_met X (ci := 12) hT cd_X12_tally lk_X12_329 rfl (by decide) rfl (by decide +kernel) (fun z => absurd z (by decide)) (hw_X12_tally l D cA sA fu 0) (fun _ => ⟨by decide, fun _ => ⟨TX12, 29, rfl⟩⟩) (by constructor <;> omega) (by decide)), (List.forall_mem_cons.mpr ⟨(xent_met X (ci := 12) hT cd_X12_journalOf lk_X12_336 rfl (by decide) rfl (by decide +kernel) (fun z => absurd z (by decide)) (hw_X12_journalOf l D cA sA fu 0) (fun _ => ⟨by decide, fun _ => ⟨TX12, 29, rfl⟩⟩) (by constructor <;> omega) (by decide)), (List.forall_mem_cons.mpr ⟨(xent_met X (ci := 12) hT cd_X12_baseNow lk_X12_468 rfl (by decide) rfl (by decide +kernel) (fun z => absurd z (by decide)) (hw_X12_baseNow l D cA sA fu 0) (fun _ => ⟨by decide, fun _ => ⟨TX12, 29, rfl⟩⟩) (by constructor <;> omega) (by decide)), (List.forall_mem_cons.mpr ⟨(xent_met X (ci := 12) hT cd_X12_mappedNow lk_X12_471 rfl (by decide) rfl (by decide +kernel) (fun z => absurd z (by decide)) (hw_X12_mappedNow l D cA sA fu 0) (fun _ => ⟨by decide, fun _ => ⟨TX12, 29, rfl⟩⟩) (by constructor <;> omega) (by decide)), (fun _ h => nomatch h)⟩)⟩)⟩)⟩)⟩)⟩)⟩)⟩)⟩)
  · exact (fun _ h => nomatch h)

theorem ok_X12_count (l : Launch) (D : va_G) (cA : Nat → ClassId) (sA : Nat → Nat) (fu : Nat) (s : Nat) (x1 : Int32) (M : xM) {rr : Int32 × xM} (h : F_X12_count fu s x1 M = some rr) : xMet l D cA sA yX12_count cX12_count 2 (some .int) xG (6 + 1) 0 0 [.inr (.inr (12, some s)), .inl x1] M (some (.inl rr.1)) rr.2 :=
  xmet_of (by decide +kernel) (Nat.le_of_ble_eq_true rfl) (fun p e s1 m ag below meth c0 A0 ad0 Z X hn hE => wx_X12_count X hn ⟨Nat.le_refl _, Nat.le_refl _⟩ hE fu s x1 M h)
theorem hw_X12_count (l : Launch) (D : va_G) (cA : Nat → ClassId) (sA : Nat → Nat) (fu : Nat) {ρ : Type} {r0 : ρ} (kd1 : Nat) : ∀ (as : List xV) (M : xM) (k : Option xV → xM → Option ρ), w_X12_count fu as M k = some r0 → ∃ v M', xMet l D cA sA yX12_count cX12_count 2 (some .int) xG (6 + 1) 0 0 as M v M' ∧ k v M' = some r0 ∧ (kd1 ≠ 2 → ∃ a as', as = .inr (.inr (12, some a)) :: as') := by
  intro as M k h
  unfold w_X12_count at h
  replace h := pR_some h
  obtain ⟨o, as1, rfl, h⟩ := h
  replace h := bd_some h
  obtain ⟨s, rfl, h⟩ := h
  replace h := pI_some h
  obtain ⟨x1, as1, rfl, h⟩ := h
  replace h := xe_some h
  obtain ⟨rfl, h⟩ := h
  obtain ⟨p1, hp, h⟩ := Option.bind_eq_some_iff.mp h
  exact ⟨_, _, ok_X12_count l D cA sA fu s x1 M hp, h, fun _ => ⟨_, _, rfl⟩⟩
theorem cd_X12_cut : Cond.code yX12_cut cX12_cut 2 (some .boolean) ∈ xG := (xg 1975 (by decide +kernel) (by decide +kernel))
theorem pr_X12_cut : (∀ e ∈ pX12_cut, xrow cX12_cut 2 kdX12 flX12 0 false RX12 e) ∧ xnext pX12_cut = true := xrows (by decide +kernel)
set_option maxRecDepth 100000 in
theorem wx_X12_cut (X : xCtx p R S0 m ag c0 D cA A0 sA 2 cX12_cut RX12 (.code yX12_cut cX12_cut 2 (some .boolean) :: xG) 0 0) (hi : meth.name = yX12_cut.name) (hroom : 1 + 2 ≤ R.frames ∧ 60 * (1 + 2) ≤ R.locals) {rr : Int32 × xM} (hE : xEnd l D cA sA cX12_cut 2 (some .boolean) R 0 0 (some (.inl rr.1)) rr.2 p e S0 m ag below meth c0 A0 M0 ad0 Z) (fu : Nat) (s : Nat) (x1 : Int32) (M : xM) (h : F_X12_cut fu s x1 M = some rr) : xWx p l e R S0 m ag below meth c0 D cA A0 sA M0 ad0 2 Z 0 0 0 0 0 [(0, .inr (.inr (12, some s))), (1, .inl x1)] [] M := by
  rw [← q_X12_cut fu s x1 M] at h
  have hT : ∀ w ∈ xG, w ∈ (Cond.code yX12_cut cX12_cut 2 (some .boolean) :: xG) := fun w hw => List.mem_cons_of_mem _ hw
  refine xrun_sound (nst := 0) (isInit := false) (kd := kdX12) X (xcls_mono hT xclsG) (xpool_mono hT plX12) (fun z => by cases z) (fun idx v hf => xkoE_mono hT (koX12_ok _ (xfind_mem hf))) (xents (ca := _) ?_) (endZ hE).1 (endZ hE).2 (xcuts (cu := _) ?_) pr_X12_cut.1 pr_X12_cut.2 _ _ _ _ _ _ _ _ (xat_ok pr_X12_cut.1 pr_X12_cut.2).1 (xat_ok pr_X12_cut.1 pr_X12_cut.2).2.1 (xat_ok pr_X12_cut.1 pr_X12_cut.2).2.2 h
  · exact (List.forall_mem_cons.mpr ⟨(xent_met X (ci := 12) hT cd_X12_within lk_X12_380 rfl (by decide) rfl (by decide +kernel) (fun z => absurd z (by decide)) (hw_X12_within l D cA sA fu 2 rfl) (fun z => absurd rfl z) (by constructor <;> omega) (by decide)), (fun _ h => nomatch h)⟩)
  · exact (fun _ h => nomatch h)

theorem ok_X12_cut (l : Launch) (D : va_G) (cA : Nat → ClassId) (sA : Nat → Nat) (fu : Nat) (s : Nat) (x1 : Int32) (M : xM) {rr : Int32 × xM} (h : F_X12_cut fu s x1 M = some rr) : xMet l D cA sA yX12_cut cX12_cut 2 (some .boolean) xG (1 + 1) 0 0 [.inr (.inr (12, some s)), .inl x1] M (some (.inl rr.1)) rr.2 :=
  xmet_of (by decide +kernel) (Nat.le_of_ble_eq_true rfl) (fun p e s1 m ag below meth c0 A0 ad0 Z X hn hE => wx_X12_cut X hn ⟨Nat.le_refl _, Nat.le_refl _⟩ hE fu s x1 M h)
theorem hw_X12_cut (l : Launch) (D : va_G) (cA : Nat → ClassId) (sA : Nat → Nat) (fu : Nat) {ρ : Type} {r0 : ρ} (kd1 : Nat) : ∀ (as : List xV) (M : xM) (k : Option xV → xM → Option ρ), w_X12_cut fu as M k = some r0 → ∃ v M', xMet l D cA sA yX12_cut cX12_cut 2 (some .boolean) xG (1 + 1) 0 0 as M v M' ∧ k v M' = some r0 ∧ (kd1 ≠ 2 → ∃ a as', as = .inr (.inr (12, some a)) :: as') := by
  intro as M k h
  unfold w_X12_cut at h
  replace h := pR_some h
  obtain ⟨o, as1, rfl, h⟩ := h
  replace h := bd_some h
  obtain ⟨s, rfl, h⟩ := h
  replace h := pI_some h
  obtain ⟨x1, as1, rfl, h⟩ := h
  replace h := xe_some h
  obtain ⟨rfl, h⟩ := h
  obtain ⟨p1, hp, h⟩ := Option.bind_eq_some_iff.mp h
  exact ⟨_, _, ok_X12_cut l D cA sA fu s x1 M hp, h, fun _ => ⟨_, _, rfl⟩⟩
theorem cd_X12_isLetter : Cond.code yX12_isLetter cX12_isLetter 1 (some .boolean) ∈ xG := (xg 1658 (by decide +kernel) (by decide +kernel))
theorem pr_X12_isLetter : (∀ e ∈ pX12_isLetter, xrow cX12_isLetter 1 kdX12 flX12 0 false RX12 e) ∧ xnext pX12_isLetter = true := xrows (by decide +kernel)
set_option maxRecDepth 100000 in
theorem wx_X12_isLetter (X : xCtx p R S0 m ag c0 D cA A0 sA 1 cX12_isLetter RX12 (.code yX12_isLetter cX12_isLetter 1 (some .boolean) :: xG) 0 0) (hi : meth.name = yX12_isLetter.name) (hroom : 0 + 2 ≤ R.frames ∧ 60 * (0 + 2) ≤ R.locals) {rr : Int32 × xM} (hE : xEnd l D cA sA cX12_isLetter 1 (some .boolean) R 0 0 (some (.inl rr.1)) rr.2 p e S0 m ag below meth c0 A0 M0 ad0 Z) (fu : Nat) (x0 : Int32) (M : xM) (h : F_X12_isLetter fu x0 M = some rr) : xWx p l e R S0 m ag below meth c0 D cA A0 sA M0 ad0 1 Z 0 0 0 0 0 [(0, .inl x0)] [] M := by
  rw [← q_X12_isLetter fu x0 M] at h
  have hT : ∀ w ∈ xG, w ∈ (Cond.code yX12_isLetter cX12_isLetter 1 (some .boolean) :: xG) := fun w hw => List.mem_cons_of_mem _ hw
  refine xrun_sound (nst := 0) (isInit := false) (kd := kdX12) X (xcls_mono hT xclsG) (xpool_mono hT plX12) (fun z => by cases z) (fun idx v hf => xkoE_mono hT (koX12_ok _ (xfind_mem hf))) (xents (ca := _) ?_) (endZ hE).1 (endZ hE).2 (xcuts (cu := _) ?_) pr_X12_isLetter.1 pr_X12_isLetter.2 _ _ _ _ _ _ _ _ (xat_ok pr_X12_isLetter.1 pr_X12_isLetter.2).1 (xat_ok pr_X12_isLetter.1 pr_X12_isLetter.2).2.1 (xat_ok pr_X12_isLetter.1 pr_X12_isLetter.2).2.2 h
  · exact (fun _ h => nomatch h)
  · exact (fun _ h => nomatch h)

theorem ok_X12_isLetter (l : Launch) (D : va_G) (cA : Nat → ClassId) (sA : Nat → Nat) (fu : Nat) (x0 : Int32) (M : xM) {rr : Int32 × xM} (h : F_X12_isLetter fu x0 M = some rr) : xMet l D cA sA yX12_isLetter cX12_isLetter 1 (some .boolean) xG (0 + 1) 0 0 [.inl x0] M (some (.inl rr.1)) rr.2 :=
  xmet_of (by decide +kernel) (Nat.le_of_ble_eq_true rfl) (fun p e s1 m ag below meth c0 A0 ad0 Z X hn hE => wx_X12_isLetter X hn ⟨Nat.le_refl _, Nat.le_refl _⟩ hE fu x0 M h)
theorem hw_X12_isLetter (l : Launch) (D : va_G) (cA : Nat → ClassId) (sA : Nat → Nat) (fu : Nat) {ρ : Type} {r0 : ρ} (kd1 : Nat) (hk2 : kd1 = 2) : ∀ (as : List xV) (M : xM) (k : Option xV → xM → Option ρ), w_X12_isLetter fu as M k = some r0 → ∃ v M', xMet l D cA sA yX12_isLetter cX12_isLetter 1 (some .boolean) xG (0 + 1) 0 0 as M v M' ∧ k v M' = some r0 ∧ (kd1 ≠ 2 → ∃ a as', as = .inr (.inr (12, some a)) :: as') := by
  intro as M k h
  unfold w_X12_isLetter at h
  replace h := pI_some h
  obtain ⟨x0, as1, rfl, h⟩ := h
  replace h := xe_some h
  obtain ⟨rfl, h⟩ := h
  obtain ⟨p1, hp, h⟩ := Option.bind_eq_some_iff.mp h
  exact ⟨_, _, ok_X12_isLetter l D cA sA fu x0 M hp, h, fun z => absurd hk2 z⟩
theorem lk_X12_130 : xLink xG RX12 130 2 yX12_isLetter 1 := ⟨(xg 1656 (by decide +kernel) (by decide +kernel)), (xg 1657 (by decide +kernel) (by decide +kernel)), (xg 141 (by decide +kernel) (by decide +kernel))⟩
theorem cd_X12_rank : Cond.code yX12_rank cX12_rank 1 (some .int) ∈ xG := (xg 1662 (by decide +kernel) (by decide +kernel))
theorem pr_X12_rank : (∀ e ∈ pX12_rank, xrow cX12_rank 1 kdX12 flX12 0 false RX12 e) ∧ xnext pX12_rank = true := xrows (by decide +kernel)
set_option maxRecDepth 100000 in
theorem wx_X12_rank (X : xCtx p R S0 m ag c0 D cA A0 sA 1 cX12_rank RX12 (.code yX12_rank cX12_rank 1 (some .int) :: xG) 0 0) (hi : meth.name = yX12_rank.name) (hroom : 1 + 2 ≤ R.frames ∧ 60 * (1 + 2) ≤ R.locals) {rr : Int32 × xM} (hE : xEnd l D cA sA cX12_rank 1 (some .int) R 0 0 (some (.inl rr.1)) rr.2 p e S0 m ag below meth c0 A0 M0 ad0 Z) (fu : Nat) (x0 : Int32) (M : xM) (h : F_X12_rank fu x0 M = some rr) : xWx p l e R S0 m ag below meth c0 D cA A0 sA M0 ad0 1 Z 0 0 0 0 0 [(0, .inl x0)] [] M := by
  rw [← q_X12_rank fu x0 M] at h
  have hT : ∀ w ∈ xG, w ∈ (Cond.code yX12_rank cX12_rank 1 (some .int) :: xG) := fun w hw => List.mem_cons_of_mem _ hw
  refine xrun_sound (nst := 0) (isInit := false) (kd := kdX12) X (xcls_mono hT xclsG) (xpool_mono hT plX12) (fun z => by cases z) (fun idx v hf => xkoE_mono hT (koX12_ok _ (xfind_mem hf))) (xents (ca := _) ?_) (endI hE).1 (endI hE).2 (xcuts (cu := _) ?_) pr_X12_rank.1 pr_X12_rank.2 _ _ _ _ _ _ _ _ (xat_ok pr_X12_rank.1 pr_X12_rank.2).1 (xat_ok pr_X12_rank.1 pr_X12_rank.2).2.1 (xat_ok pr_X12_rank.1 pr_X12_rank.2).2.2 h
  · exact (List.forall_mem_cons.mpr ⟨(xent_met X (ci := 12) hT cd_X12_isLetter lk_X12_130 rfl (by decide) rfl (by decide +kernel) (fun z => absurd z (by decide)) (hw_X12_isLetter l D cA sA fu 2 rfl) (fun z => absurd rfl z) (by constructor <;> omega) (by decide)), (fun _ h => nomatch h)⟩)
  · exact (fun _ h => nomatch h)

theorem ok_X12_rank (l : Launch) (D : va_G) (cA : Nat → ClassId) (sA : Nat → Nat) (fu : Nat) (x0 : Int32) (M : xM) {rr : Int32 × xM} (h : F_X12_rank fu x0 M = some rr) : xMet l D cA sA yX12_rank cX12_rank 1 (some .int) xG (1 + 1) 0 0 [.inl x0] M (some (.inl rr.1)) rr.2 :=
  xmet_of (by decide +kernel) (Nat.le_of_ble_eq_true rfl) (fun p e s1 m ag below meth c0 A0 ad0 Z X hn hE => wx_X12_rank X hn ⟨Nat.le_refl _, Nat.le_refl _⟩ hE fu x0 M h)
theorem hw_X12_rank (l : Launch) (D : va_G) (cA : Nat → ClassId) (sA : Nat → Nat) (fu : Nat) {ρ : Type} {r0 : ρ} (kd1 : Nat) (hk2 : kd1 = 2) : ∀ (as : List xV) (M : xM) (k : Option xV → xM → Option ρ), w_X12_rank fu as M k = some r0 → ∃ v M', xMet l D cA sA yX12_rank cX12_rank 1 (some .int) xG (1 + 1) 0 0 as M v M' ∧ k v M' = some r0 ∧ (kd1 ≠ 2 → ∃ a as', as = .inr (.inr (12, some a)) :: as') := by
  intro as M k h
  unfold w_X12_rank at h
  replace h := pI_some h
  obtain ⟨x0, as1, rfl, h⟩ := h
  replace h := xe_some h
  obtain ⟨rfl, h⟩ := h
  obtain ⟨p1, hp, h⟩ := Option.bind_eq_some_iff.mp h
  exact ⟨_, _, ok_X12_rank l D cA sA fu x0 M hp, h, fun z => absurd hk2 z⟩
theorem cd_X12_isDigit : Cond.code yX12_isDigit cX12_isDigit 1 (some .boolean) ∈ xG := (xg 1665 (by decide +kernel) (by decide +kernel))
theorem pr_X12_isDigit : (∀ e ∈ pX12_isDigit, xrow cX12_isDigit 1 kdX12 flX12 0 false RX12 e) ∧ xnext pX12_isDigit = true := xrows (by decide +kernel)
set_option maxRecDepth 100000 in
theorem wx_X12_isDigit (X : xCtx p R S0 m ag c0 D cA A0 sA 1 cX12_isDigit RX12 (.code yX12_isDigit cX12_isDigit 1 (some .boolean) :: xG) 0 0) (hi : meth.name = yX12_isDigit.name) (hroom : 0 + 2 ≤ R.frames ∧ 60 * (0 + 2) ≤ R.locals) {rr : Int32 × xM} (hE : xEnd l D cA sA cX12_isDigit 1 (some .boolean) R 0 0 (some (.inl rr.1)) rr.2 p e S0 m ag below meth c0 A0 M0 ad0 Z) (fu : Nat) (x0 : Int32) (M : xM) (h : F_X12_isDigit fu x0 M = some rr) : xWx p l e R S0 m ag below meth c0 D cA A0 sA M0 ad0 1 Z 0 0 0 0 0 [(0, .inl x0)] [] M := by
  rw [← q_X12_isDigit fu x0 M] at h
  have hT : ∀ w ∈ xG, w ∈ (Cond.code yX12_isDigit cX12_isDigit 1 (some .boolean) :: xG) := fun w hw => List.mem_cons_of_mem _ hw
  refine xrun_sound (nst := 0) (isInit := false) (kd := kdX12) X (xcls_mono hT xclsG) (xpool_mono hT plX12) (fun z => by cases z) (fun idx v hf => xkoE_mono hT (koX12_ok _ (xfind_mem hf))) (xents (ca := _) ?_) (endZ hE).1 (endZ hE).2 (xcuts (cu := _) ?_) pr_X12_isDigit.1 pr_X12_isDigit.2 _ _ _ _ _ _ _ _ (xat_ok pr_X12_isDigit.1 pr_X12_isDigit.2).1 (xat_ok pr_X12_isDigit.1 pr_X12_isDigit.2).2.1 (xat_ok pr_X12_isDigit.1 pr_X12_isDigit.2).2.2 h
  · exact (fun _ h => nomatch h)
  · exact (fun _ h => nomatch h)

theorem ok_X12_isDigit (l : Launch) (D : va_G) (cA : Nat → ClassId) (sA : Nat → Nat) (fu : Nat) (x0 : Int32) (M : xM) {rr : Int32 × xM} (h : F_X12_isDigit fu x0 M = some rr) : xMet l D cA sA yX12_isDigit cX12_isDigit 1 (some .boolean) xG (0 + 1) 0 0 [.inl x0] M (some (.inl rr.1)) rr.2 :=
  xmet_of (by decide +kernel) (Nat.le_of_ble_eq_true rfl) (fun p e s1 m ag below meth c0 A0 ad0 Z X hn hE => wx_X12_isDigit X hn ⟨Nat.le_refl _, Nat.le_refl _⟩ hE fu x0 M h)
theorem hw_X12_isDigit (l : Launch) (D : va_G) (cA : Nat → ClassId) (sA : Nat → Nat) (fu : Nat) {ρ : Type} {r0 : ρ} (kd1 : Nat) (hk2 : kd1 = 2) : ∀ (as : List xV) (M : xM) (k : Option xV → xM → Option ρ), w_X12_isDigit fu as M k = some r0 → ∃ v M', xMet l D cA sA yX12_isDigit cX12_isDigit 1 (some .boolean) xG (0 + 1) 0 0 as M v M' ∧ k v M' = some r0 ∧ (kd1 ≠ 2 → ∃ a as', as = .inr (.inr (12, some a)) :: as') := by
  intro as M k h
  unfold w_X12_isDigit at h
  replace h := pI_some h
  obtain ⟨x0, as1, rfl, h⟩ := h
  replace h := xe_some h
  obtain ⟨rfl, h⟩ := h
  obtain ⟨p1, hp, h⟩ := Option.bind_eq_some_iff.mp h
  exact ⟨_, _, ok_X12_isDigit l D cA sA fu x0 M hp, h, fun z => absurd hk2 z⟩
theorem cd_X12_isSignOf : Cond.code yX12_isSignOf cX12_isSignOf 1 (some .boolean) ∈ xG := (xg 1670 (by decide +kernel) (by decide +kernel))
theorem pr_X12_isSignOf : (∀ e ∈ pX12_isSignOf, xrow cX12_isSignOf 1 kdX12 flX12 0 false RX12 e) ∧ xnext pX12_isSignOf = true := xrows (by decide +kernel)
set_option maxRecDepth 100000 in
theorem wx_X12_isSignOf (X : xCtx p R S0 m ag c0 D cA A0 sA 1 cX12_isSignOf RX12 (.code yX12_isSignOf cX12_isSignOf 1 (some .boolean) :: xG) 0 0) (hi : meth.name = yX12_isSignOf.name) (hroom : 0 + 2 ≤ R.frames ∧ 60 * (0 + 2) ≤ R.locals) {rr : Int32 × xM} (hE : xEnd l D cA sA cX12_isSignOf 1 (some .boolean) R 0 0 (some (.inl rr.1)) rr.2 p e S0 m ag below meth c0 A0 M0 ad0 Z) (fu : Nat) (x0 : Int32) (M : xM) (h : F_X12_isSignOf fu x0 M = some rr) : xWx p l e R S0 m ag below meth c0 D cA A0 sA M0 ad0 1 Z 0 0 0 0 0 [(0, .inl x0)] [] M := by
  rw [← q_X12_isSignOf fu x0 M] at h
  have hT : ∀ w ∈ xG, w ∈ (Cond.code yX12_isSignOf cX12_isSignOf 1 (some .boolean) :: xG) := fun w hw => List.mem_cons_of_mem _ hw
  refine xrun_sound (nst := 0) (isInit := false) (kd := kdX12) X (xcls_mono hT xclsG) (xpool_mono hT plX12) (fun z => by cases z) (fun idx v hf => xkoE_mono hT (koX12_ok _ (xfind_mem hf))) (xents (ca := _) ?_) (endZ hE).1 (endZ hE).2 (xcuts (cu := _) ?_) pr_X12_isSignOf.1 pr_X12_isSignOf.2 _ _ _ _ _ _ _ _ (xat_ok pr_X12_isSignOf.1 pr_X12_isSignOf.2).1 (xat_ok pr_X12_isSignOf.1 pr_X12_isSignOf.2).2.1 (xat_ok pr_X12_isSignOf.1 pr_X12_isSignOf.2).2.2 h
  · exact (fun _ h => nomatch h)
  · exact (fun _ h => nomatch h)

theorem ok_X12_isSignOf (l : Launch) (D : va_G) (cA : Nat → ClassId) (sA : Nat → Nat) (fu : Nat) (x0 : Int32) (M : xM) {rr : Int32 × xM} (h : F_X12_isSignOf fu x0 M = some rr) : xMet l D cA sA yX12_isSignOf cX12_isSignOf 1 (some .boolean) xG (0 + 1) 0 0 [.inl x0] M (some (.inl rr.1)) rr.2 :=
  xmet_of (by decide +kernel) (Nat.le_of_ble_eq_true rfl) (fun p e s1 m ag below meth c0 A0 ad0 Z X hn hE => wx_X12_isSignOf X hn ⟨Nat.le_refl _, Nat.le_refl _⟩ hE fu x0 M h)
theorem hw_X12_isSignOf (l : Launch) (D : va_G) (cA : Nat → ClassId) (sA : Nat → Nat) (fu : Nat) {ρ : Type} {r0 : ρ} (kd1 : Nat) (hk2 : kd1 = 2) : ∀ (as : List xV) (M : xM) (k : Option xV → xM → Option ρ), w_X12_isSignOf fu as M k = some r0 → ∃ v M', xMet l D cA sA yX12_isSignOf cX12_isSignOf 1 (some .boolean) xG (0 + 1) 0 0 as M v M' ∧ k v M' = some r0 ∧ (kd1 ≠ 2 → ∃ a as', as = .inr (.inr (12, some a)) :: as') := by
  intro as M k h
  unfold w_X12_isSignOf at h
  replace h := pI_some h
  obtain ⟨x0, as1, rfl, h⟩ := h
  replace h := xe_some h
  obtain ⟨rfl, h⟩ := h
  obtain ⟨p1, hp, h⟩ := Option.bind_eq_some_iff.mp h
  exact ⟨_, _, ok_X12_isSignOf l D cA sA fu x0 M hp, h, fun z => absurd hk2 z⟩
theorem lk_X12_143 : xLink xG RX12 143 2 yX12_isDigit 1 := ⟨(xg 1663 (by decide +kernel) (by decide +kernel)), (xg 1664 (by decide +kernel) (by decide +kernel)), (xg 141 (by decide +kernel) (by decide +kernel))⟩
theorem lk_X12_139 : xLink xG RX12 139 2 yX12_rank 1 := ⟨(xg 1660 (by decide +kernel) (by decide +kernel)), (xg 1661 (by decide +kernel) (by decide +kernel)), (xg 141 (by decide +kernel) (by decide +kernel))⟩
theorem lk_X12_150 : xLink xG RX12 150 2 yX12_isSignOf 1 := ⟨(xg 1668 (by decide +kernel) (by decide +kernel)), (xg 1669 (by decide +kernel) (by decide +kernel)), (xg 141 (by decide +kernel) (by decide +kernel))⟩
theorem cd_X12_cutAll : Cond.code yX12_cutAll cX12_cutAll 7 none ∈ xG := (xg 1655 (by decide +kernel) (by decide +kernel))
theorem pr_X12_cutAll : (∀ e ∈ pX12_cutAll, xrow cX12_cutAll 7 kdX12 flX12 0 false RX12 e) ∧ xnext pX12_cutAll = true := xrows (by decide +kernel)
set_option maxRecDepth 100000 in
theorem wx_X12_cutAll_218 (X : xCtx p R S0 m ag c0 D cA A0 sA 7 cX12_cutAll RX12 (.code yX12_cutAll cX12_cutAll 7 none :: xG) 0 0) (hi : meth.name = yX12_cutAll.name) (hroom : 2 + 2 ≤ R.frames ∧ 60 * (2 + 2) ≤ R.locals) {rr : xM} (hE : xEnd l D cA sA cX12_cutAll 7 none R 0 0 none rr p e S0 m ag below meth c0 A0 M0 ad0 Z) (fu : Nat) (k17 : Nat → Int32 → Int32 → xM → Option xM) (hk17 : ∀ (s : Nat) (x1 : Int32) (x2 : Int32) (M : xM), k17 s x1 x2 M = some rr → xWx p l e R S0 m ag below meth c0 D cA A0 sA M0 ad0 7 Z 0 0 17 0 0 [(0, .inr (.inr (12, some s))), (1, .inl x1), (2, .inl x2)] [] M) (s : Nat) (x1 : Int32) (x2 : Int32) (x4 : Int32) (x5 : Int64) (M : xM) (h : J_X12_cutAll_218 fu k17 s x1 x2 x4 x5 M = some rr) : xWx p l e R S0 m ag below meth c0 D cA A0 sA M0 ad0 7 Z 0 0 218 0 0 [(0, .inr (.inr (12, some s))), (1, .inl x1), (2, .inl x2), (4, .inl x4), (5, .inr (.inl x5))] [] M := by
  rw [← q_X12_cutAll_218 fu k17 s x1 x2 x4 x5 M] at h
  have hT : ∀ w ∈ xG, w ∈ (Cond.code yX12_cutAll cX12_cutAll 7 none :: xG) := fun w hw => List.mem_cons_of_mem _ hw
  refine xrun_sound (nst := 0) (isInit := false) (kd := kdX12) X (xcls_mono hT xclsG) (xpool_mono hT plX12) (fun z => by cases z) (fun idx v hf => xkoE_mono hT (koX12_ok _ (xfind_mem hf))) (xents (ca := _) ?_) (endV hE).1 (endV hE).2 (xcuts (cu := _) ?_) pr_X12_cutAll.1 pr_X12_cutAll.2 _ _ _ _ _ _ _ _ (xat_ok pr_X12_cutAll.1 pr_X12_cutAll.2).1 (xat_ok pr_X12_cutAll.1 pr_X12_cutAll.2).2.1 (xat_ok pr_X12_cutAll.1 pr_X12_cutAll.2).2.2 h
  · exact (fun _ h => nomatch h)
  · refine (List.forall_mem_cons.mpr ⟨?_, (fun _ h => nomatch h)⟩)
    · intro bc bs ls st M h
      replace h := xz_some h
      obtain ⟨rfl, rfl, h⟩ := h
      replace h := lR_some h
      obtain ⟨o, e0, h⟩ := h
      replace h := bd_some h
      obtain ⟨s', rfl, h⟩ := h
      replace h := lI_some h
      obtain ⟨x1', e1, h⟩ := h
      replace h := lI_some h
      obtain ⟨x2', e2, h⟩ := h
      replace h := xe_some h
      obtain ⟨rfl, h⟩ := h
      exact xWx_ls (hk17 s' x1' x2' M h) (List.forall_mem_cons.mpr ⟨e0, (List.forall_mem_cons.mpr ⟨e1, (List.forall_mem_cons.mpr ⟨e2, (fun _ h => nomatch h)⟩)⟩)⟩)

set_option maxRecDepth 100000 in
theorem wx_X12_cutAll_159 (X : xCtx p R S0 m ag c0 D cA A0 sA 7 cX12_cutAll RX12 (.code yX12_cutAll cX12_cutAll 7 none :: xG) 0 0) (hi : meth.name = yX12_cutAll.name) (hroom : 2 + 2 ≤ R.frames ∧ 60 * (2 + 2) ≤ R.locals) {rr : xM} (hE : xEnd l D cA sA cX12_cutAll 7 none R 0 0 none rr p e S0 m ag below meth c0 A0 M0 ad0 Z) (fu : Nat) (k17 : Nat → Int32 → Int32 → xM → Option xM) (hk17 : ∀ (s : Nat) (x1 : Int32) (x2 : Int32) (M : xM), k17 s x1 x2 M = some rr → xWx p l e R S0 m ag below meth c0 D cA A0 sA M0 ad0 7 Z 0 0 17 0 0 [(0, .inr (.inr (12, some s))), (1, .inl x1), (2, .inl x2)] [] M) : ∀ (n : Nat) (s : Nat) (x1 : Int32) (x2 : Int32) (x4 : Int32) (x5 : Int64) (M : xM), L_X12_cutAll_159 fu k17 n s x1 x2 x4 x5 M = some rr → xWx p l e R S0 m ag below meth c0 D cA A0 sA M0 ad0 7 Z 0 0 159 0 0 [(0, .inr (.inr (12, some s))), (1, .inl x1), (2, .inl x2), (4, .inl x4), (5, .inr (.inl x5))] [] M := by
  intro n
  induction n with
  | zero => intro s x1 x2 x4 x5 M h; cases h
  | succ n ih =>
    intro s x1 x2 x4 x5 M h
    rw [← q_X12_cutAll_159 fu k17 n s x1 x2 x4 x5 M] at h
    have hT : ∀ w ∈ xG, w ∈ (Cond.code yX12_cutAll cX12_cutAll 7 none :: xG) := fun w hw => List.mem_cons_of_mem _ hw
    refine xrun_sound (nst := 0) (isInit := false) (kd := kdX12) X (xcls_mono hT xclsG) (xpool_mono hT plX12) (fun z => by cases z) (fun idx v hf => xkoE_mono hT (koX12_ok _ (xfind_mem hf))) (xents (ca := _) ?_) (endV hE).1 (endV hE).2 (xcuts (cu := _) ?_) pr_X12_cutAll.1 pr_X12_cutAll.2 _ _ _ _ _ _ _ _ (xat_ok pr_X12_cutAll.1 pr_X12_cutAll.2).1 (xat_ok pr_X12_cutAll.1 pr_X12_cutAll.2).2.1 (xat_ok pr_X12_cutAll.1 pr_X12_cutAll.2).2.2 h
    · exact (List.forall_mem_cons.mpr ⟨(xent_met X (ci := 12) hT cd_X12_isDigit lk_X12_143 rfl (by decide) rfl (by decide +kernel) (fun z => absurd z (by decide)) (hw_X12_isDigit l D cA sA fu 2 rfl) (fun z => absurd rfl z) (by constructor <;> omega) (by decide)), (fun _ h => nomatch h)⟩)
    · refine (List.forall_mem_cons.mpr ⟨?_, (List.forall_mem_cons.mpr ⟨?_, (fun _ h => nomatch h)⟩)⟩)
      · intro bc bs ls st M h
        replace h := xz_some h
        obtain ⟨rfl, rfl, h⟩ := h
        replace h := lR_some h
        obtain ⟨o, e0, h⟩ := h
        replace h := bd_some h
        obtain ⟨s', rfl, h⟩ := h
        replace h := lI_some h
        obtain ⟨x1', e1, h⟩ := h
        replace h := lI_some h
        obtain ⟨x2', e2, h⟩ := h
        replace h := lI_some h
        obtain ⟨x4', e4, h⟩ := h
        replace h := lL_some h
        obtain ⟨x5', e5, h⟩ := h
        replace h := xe_some h
        obtain ⟨rfl, h⟩ := h
        exact xWx_ls (ih s' x1' x2' x4' x5' M h) (List.forall_mem_cons.mpr ⟨e0, (List.forall_mem_cons.mpr ⟨e1, (List.forall_mem_cons.mpr ⟨e2, (List.forall_mem_cons.mpr ⟨e4, (List.forall_mem_cons.mpr ⟨e5, (fun _ h => nomatch h)⟩)⟩)⟩)⟩)⟩)
      · intro bc bs ls st M h
        replace h := xz_some h
        obtain ⟨rfl, rfl, h⟩ := h
        replace h := lR_some h
        obtain ⟨o, e0, h⟩ := h
        replace h := bd_some h
        obtain ⟨s', rfl, h⟩ := h
        replace h := lI_some h
        obtain ⟨x1', e1, h⟩ := h
        replace h := lI_some h
        obtain ⟨x2', e2, h⟩ := h
        replace h := lI_some h
        obtain ⟨x4', e4, h⟩ := h
        replace h := lL_some h
        obtain ⟨x5', e5, h⟩ := h
        replace h := xe_some h
        obtain ⟨rfl, h⟩ := h
        exact xWx_ls (wx_X12_cutAll_218 X hi hroom hE fu k17 hk17 s' x1' x2' x4' x5' M h) (List.forall_mem_cons.mpr ⟨e0, (List.forall_mem_cons.mpr ⟨e1, (List.forall_mem_cons.mpr ⟨e2, (List.forall_mem_cons.mpr ⟨e4, (List.forall_mem_cons.mpr ⟨e5, (fun _ h => nomatch h)⟩)⟩)⟩)⟩)⟩)

set_option maxRecDepth 100000 in
theorem wx_X12_cutAll_129 (X : xCtx p R S0 m ag c0 D cA A0 sA 7 cX12_cutAll RX12 (.code yX12_cutAll cX12_cutAll 7 none :: xG) 0 0) (hi : meth.name = yX12_cutAll.name) (hroom : 2 + 2 ≤ R.frames ∧ 60 * (2 + 2) ≤ R.locals) {rr : xM} (hE : xEnd l D cA sA cX12_cutAll 7 none R 0 0 none rr p e S0 m ag below meth c0 A0 M0 ad0 Z) (fu : Nat) (k17 : Nat → Int32 → Int32 → xM → Option xM) (hk17 : ∀ (s : Nat) (x1 : Int32) (x2 : Int32) (M : xM), k17 s x1 x2 M = some rr → xWx p l e R S0 m ag below meth c0 D cA A0 sA M0 ad0 7 Z 0 0 17 0 0 [(0, .inr (.inr (12, some s))), (1, .inl x1), (2, .inl x2)] [] M) (s : Nat) (x1 : Int32) (x2 : Int32) (x4 : Int32) (x5 : Int64) (M : xM) (h : J_X12_cutAll_129 fu k17 s x1 x2 x4 x5 M = some rr) : xWx p l e R S0 m ag below meth c0 D cA A0 sA M0 ad0 7 Z 0 0 129 0 0 [(0, .inr (.inr (12, some s))), (1, .inl x1), (2, .inl x2), (4, .inl x4), (5, .inr (.inl x5))] [] M := by
  rw [← q_X12_cutAll_129 fu k17 s x1 x2 x4 x5 M] at h
  have hT : ∀ w ∈ xG, w ∈ (Cond.code yX12_cutAll cX12_cutAll 7 none :: xG) := fun w hw => List.mem_cons_of_mem _ hw
  refine xrun_sound (nst := 0) (isInit := false) (kd := kdX12) X (xcls_mono hT xclsG) (xpool_mono hT plX12) (fun z => by cases z) (fun idx v hf => xkoE_mono hT (koX12_ok _ (xfind_mem hf))) (xents (ca := _) ?_) (endV hE).1 (endV hE).2 (xcuts (cu := _) ?_) pr_X12_cutAll.1 pr_X12_cutAll.2 _ _ _ _ _ _ _ _ (xat_ok pr_X12_cutAll.1 pr_X12_cutAll.2).1 (xat_ok pr_X12_cutAll.1 pr_X12_cutAll.2).2.1 (xat_ok pr_X12_cutAll.1 pr_X12_cutAll.2).2.2 h
  · exact (fun _ h => nomatch h)
  · refine (List.forall_mem_cons.mpr ⟨?_, (fun _ h => nomatch h)⟩)
    · intro bc bs ls st M h
      replace h := xz_some h
      obtain ⟨rfl, rfl, h⟩ := h
      replace h := lR_some h
      obtain ⟨o, e0, h⟩ := h
      replace h := bd_some h
      obtain ⟨s', rfl, h⟩ := h
      replace h := lI_some h
      obtain ⟨x1', e1, h⟩ := h
      replace h := lI_some h
      obtain ⟨x2', e2, h⟩ := h
      replace h := xe_some h
      obtain ⟨rfl, h⟩ := h
      exact xWx_ls (hk17 s' x1' x2' M h) (List.forall_mem_cons.mpr ⟨e0, (List.forall_mem_cons.mpr ⟨e1, (List.forall_mem_cons.mpr ⟨e2, (fun _ h => nomatch h)⟩)⟩)⟩)

set_option maxRecDepth 100000 in
theorem wx_X12_cutAll_70 (X : xCtx p R S0 m ag c0 D cA A0 sA 7 cX12_cutAll RX12 (.code yX12_cutAll cX12_cutAll 7 none :: xG) 0 0) (hi : meth.name = yX12_cutAll.name) (hroom : 2 + 2 ≤ R.frames ∧ 60 * (2 + 2) ≤ R.locals) {rr : xM} (hE : xEnd l D cA sA cX12_cutAll 7 none R 0 0 none rr p e S0 m ag below meth c0 A0 M0 ad0 Z) (fu : Nat) (k17 : Nat → Int32 → Int32 → xM → Option xM) (hk17 : ∀ (s : Nat) (x1 : Int32) (x2 : Int32) (M : xM), k17 s x1 x2 M = some rr → xWx p l e R S0 m ag below meth c0 D cA A0 sA M0 ad0 7 Z 0 0 17 0 0 [(0, .inr (.inr (12, some s))), (1, .inl x1), (2, .inl x2)] [] M) : ∀ (n : Nat) (s : Nat) (x1 : Int32) (x2 : Int32) (x4 : Int32) (x5 : Int64) (M : xM), L_X12_cutAll_70 fu k17 n s x1 x2 x4 x5 M = some rr → xWx p l e R S0 m ag below meth c0 D cA A0 sA M0 ad0 7 Z 0 0 70 0 0 [(0, .inr (.inr (12, some s))), (1, .inl x1), (2, .inl x2), (4, .inl x4), (5, .inr (.inl x5))] [] M := by
  intro n
  induction n with
  | zero => intro s x1 x2 x4 x5 M h; cases h
  | succ n ih =>
    intro s x1 x2 x4 x5 M h
    rw [← q_X12_cutAll_70 fu k17 n s x1 x2 x4 x5 M] at h
    have hT : ∀ w ∈ xG, w ∈ (Cond.code yX12_cutAll cX12_cutAll 7 none :: xG) := fun w hw => List.mem_cons_of_mem _ hw
    refine xrun_sound (nst := 0) (isInit := false) (kd := kdX12) X (xcls_mono hT xclsG) (xpool_mono hT plX12) (fun z => by cases z) (fun idx v hf => xkoE_mono hT (koX12_ok _ (xfind_mem hf))) (xents (ca := _) ?_) (endV hE).1 (endV hE).2 (xcuts (cu := _) ?_) pr_X12_cutAll.1 pr_X12_cutAll.2 _ _ _ _ _ _ _ _ (xat_ok pr_X12_cutAll.1 pr_X12_cutAll.2).1 (xat_ok pr_X12_cutAll.1 pr_X12_cutAll.2).2.1 (xat_ok pr_X12_cutAll.1 pr_X12_cutAll.2).2.2 h
    · exact (List.forall_mem_cons.mpr ⟨(xent_met X (ci := 12) hT cd_X12_isLetter lk_X12_130 rfl (by decide) rfl (by decide +kernel) (fun z => absurd z (by decide)) (hw_X12_isLetter l D cA sA fu 2 rfl) (fun z => absurd rfl z) (by constructor <;> omega) (by decide)), (List.forall_mem_cons.mpr ⟨(xent_met X (ci := 12) hT cd_X12_rank lk_X12_139 rfl (by decide) rfl (by decide +kernel) (fun z => absurd z (by decide)) (hw_X12_rank l D cA sA fu 2 rfl) (fun z => absurd rfl z) (by constructor <;> omega) (by decide)), (fun _ h => nomatch h)⟩)⟩)
    · refine (List.forall_mem_cons.mpr ⟨?_, (List.forall_mem_cons.mpr ⟨?_, (fun _ h => nomatch h)⟩)⟩)
      · intro bc bs ls st M h
        replace h := xz_some h
        obtain ⟨rfl, rfl, h⟩ := h
        replace h := lR_some h
        obtain ⟨o, e0, h⟩ := h
        replace h := bd_some h
        obtain ⟨s', rfl, h⟩ := h
        replace h := lI_some h
        obtain ⟨x1', e1, h⟩ := h
        replace h := lI_some h
        obtain ⟨x2', e2, h⟩ := h
        replace h := lI_some h
        obtain ⟨x4', e4, h⟩ := h
        replace h := lL_some h
        obtain ⟨x5', e5, h⟩ := h
        replace h := xe_some h
        obtain ⟨rfl, h⟩ := h
        exact xWx_ls (ih s' x1' x2' x4' x5' M h) (List.forall_mem_cons.mpr ⟨e0, (List.forall_mem_cons.mpr ⟨e1, (List.forall_mem_cons.mpr ⟨e2, (List.forall_mem_cons.mpr ⟨e4, (List.forall_mem_cons.mpr ⟨e5, (fun _ h => nomatch h)⟩)⟩)⟩)⟩)⟩)
      · intro bc bs ls st M h
        replace h := xz_some h
        obtain ⟨rfl, rfl, h⟩ := h
        replace h := lR_some h
        obtain ⟨o, e0, h⟩ := h
        replace h := bd_some h
        obtain ⟨s', rfl, h⟩ := h
        replace h := lI_some h
        obtain ⟨x1', e1, h⟩ := h
        replace h := lI_some h
        obtain ⟨x2', e2, h⟩ := h
        replace h := lI_some h
        obtain ⟨x4', e4, h⟩ := h
        replace h := lL_some h
        obtain ⟨x5', e5, h⟩ := h
        replace h := xe_some h
        obtain ⟨rfl, h⟩ := h
        exact xWx_ls (wx_X12_cutAll_129 X hi hroom hE fu k17 hk17 s' x1' x2' x4' x5' M h) (List.forall_mem_cons.mpr ⟨e0, (List.forall_mem_cons.mpr ⟨e1, (List.forall_mem_cons.mpr ⟨e2, (List.forall_mem_cons.mpr ⟨e4, (List.forall_mem_cons.mpr ⟨e5, (fun _ h => nomatch h)⟩)⟩)⟩)⟩)⟩)

set_option maxRecDepth 100000 in
theorem wx_X12_cutAll_17 (X : xCtx p R S0 m ag c0 D cA A0 sA 7 cX12_cutAll RX12 (.code yX12_cutAll cX12_cutAll 7 none :: xG) 0 0) (hi : meth.name = yX12_cutAll.name) (hroom : 2 + 2 ≤ R.frames ∧ 60 * (2 + 2) ≤ R.locals) {rr : xM} (hE : xEnd l D cA sA cX12_cutAll 7 none R 0 0 none rr p e S0 m ag below meth c0 A0 M0 ad0 Z) (fu : Nat) : ∀ (n : Nat) (s : Nat) (x1 : Int32) (x2 : Int32) (M : xM), L_X12_cutAll_17 fu n s x1 x2 M = some rr → xWx p l e R S0 m ag below meth c0 D cA A0 sA M0 ad0 7 Z 0 0 17 0 0 [(0, .inr (.inr (12, some s))), (1, .inl x1), (2, .inl x2)] [] M := by
  intro n
  induction n with
  | zero => intro s x1 x2 M h; cases h
  | succ n ih =>
    intro s x1 x2 M h
    rw [← q_X12_cutAll_17 fu n s x1 x2 M] at h
    have hT : ∀ w ∈ xG, w ∈ (Cond.code yX12_cutAll cX12_cutAll 7 none :: xG) := fun w hw => List.mem_cons_of_mem _ hw
    refine xrun_sound (nst := 0) (isInit := false) (kd := kdX12) X (xcls_mono hT xclsG) (xpool_mono hT plX12) (fun z => by cases z) (fun idx v hf => xkoE_mono hT (koX12_ok _ (xfind_mem hf))) (xents (ca := _) ?_) (endV hE).1 (endV hE).2 (xcuts (cu := _) ?_) pr_X12_cutAll.1 pr_X12_cutAll.2 _ _ _ _ _ _ _ _ (xat_ok pr_X12_cutAll.1 pr_X12_cutAll.2).1 (xat_ok pr_X12_cutAll.1 pr_X12_cutAll.2).2.1 (xat_ok pr_X12_cutAll.1 pr_X12_cutAll.2).2.2 h
    · exact (List.forall_mem_cons.mpr ⟨(xent_met X (ci := 12) hT cd_X12_isLetter lk_X12_130 rfl (by decide) rfl (by decide +kernel) (fun z => absurd z (by decide)) (hw_X12_isLetter l D cA sA fu 2 rfl) (fun z => absurd rfl z) (by constructor <;> omega) (by decide)), (List.forall_mem_cons.mpr ⟨(xent_met X (ci := 12) hT cd_X12_isDigit lk_X12_143 rfl (by decide) rfl (by decide +kernel) (fun z => absurd z (by decide)) (hw_X12_isDigit l D cA sA fu 2 rfl) (fun z => absurd rfl z) (by constructor <;> omega) (by decide)), (List.forall_mem_cons.mpr ⟨(xent_met X (ci := 12) hT cd_X12_isSignOf lk_X12_150 rfl (by decide) rfl (by decide +kernel) (fun z => absurd z (by decide)) (hw_X12_isSignOf l D cA sA fu 2 rfl) (fun z => absurd rfl z) (by constructor <;> omega) (by decide)), (fun _ h => nomatch h)⟩)⟩)⟩)
    · refine (List.forall_mem_cons.mpr ⟨?_, (List.forall_mem_cons.mpr ⟨?_, (List.forall_mem_cons.mpr ⟨?_, (fun _ h => nomatch h)⟩)⟩)⟩)
      · intro bc bs ls st M h
        replace h := xz_some h
        obtain ⟨rfl, rfl, h⟩ := h
        replace h := lR_some h
        obtain ⟨o, e0, h⟩ := h
        replace h := bd_some h
        obtain ⟨s', rfl, h⟩ := h
        replace h := lI_some h
        obtain ⟨x1', e1, h⟩ := h
        replace h := lI_some h
        obtain ⟨x2', e2, h⟩ := h
        replace h := xe_some h
        obtain ⟨rfl, h⟩ := h
        exact xWx_ls (ih s' x1' x2' M h) (List.forall_mem_cons.mpr ⟨e0, (List.forall_mem_cons.mpr ⟨e1, (List.forall_mem_cons.mpr ⟨e2, (fun _ h => nomatch h)⟩)⟩)⟩)
      · intro bc bs ls st M h
        replace h := xz_some h
        obtain ⟨rfl, rfl, h⟩ := h
        replace h := lR_some h
        obtain ⟨o, e0, h⟩ := h
        replace h := bd_some h
        obtain ⟨s', rfl, h⟩ := h
        replace h := lI_some h
        obtain ⟨x1', e1, h⟩ := h
        replace h := lI_some h
        obtain ⟨x2', e2, h⟩ := h
        replace h := lI_some h
        obtain ⟨x4', e4, h⟩ := h
        replace h := lL_some h
        obtain ⟨x5', e5, h⟩ := h
        replace h := xe_some h
        obtain ⟨rfl, h⟩ := h
        exact xWx_ls (wx_X12_cutAll_70 X hi hroom hE fu _ ih fu s' x1' x2' x4' x5' M h) (List.forall_mem_cons.mpr ⟨e0, (List.forall_mem_cons.mpr ⟨e1, (List.forall_mem_cons.mpr ⟨e2, (List.forall_mem_cons.mpr ⟨e4, (List.forall_mem_cons.mpr ⟨e5, (fun _ h => nomatch h)⟩)⟩)⟩)⟩)⟩)
      · intro bc bs ls st M h
        replace h := xz_some h
        obtain ⟨rfl, rfl, h⟩ := h
        replace h := lR_some h
        obtain ⟨o, e0, h⟩ := h
        replace h := bd_some h
        obtain ⟨s', rfl, h⟩ := h
        replace h := lI_some h
        obtain ⟨x1', e1, h⟩ := h
        replace h := lI_some h
        obtain ⟨x2', e2, h⟩ := h
        replace h := lI_some h
        obtain ⟨x4', e4, h⟩ := h
        replace h := lL_some h
        obtain ⟨x5', e5, h⟩ := h
        replace h := xe_some h
        obtain ⟨rfl, h⟩ := h
        exact xWx_ls (wx_X12_cutAll_159 X hi hroom hE fu _ ih fu s' x1' x2' x4' x5' M h) (List.forall_mem_cons.mpr ⟨e0, (List.forall_mem_cons.mpr ⟨e1, (List.forall_mem_cons.mpr ⟨e2, (List.forall_mem_cons.mpr ⟨e4, (List.forall_mem_cons.mpr ⟨e5, (fun _ h => nomatch h)⟩)⟩)⟩)⟩)⟩)

set_option maxRecDepth 100000 in
theorem wx_X12_cutAll (X : xCtx p R S0 m ag c0 D cA A0 sA 7 cX12_cutAll RX12 (.code yX12_cutAll cX12_cutAll 7 none :: xG) 0 0) (hi : meth.name = yX12_cutAll.name) (hroom : 2 + 2 ≤ R.frames ∧ 60 * (2 + 2) ≤ R.locals) {rr : xM} (hE : xEnd l D cA sA cX12_cutAll 7 none R 0 0 none rr p e S0 m ag below meth c0 A0 M0 ad0 Z) (fu : Nat) (s : Nat) (M : xM) (h : F_X12_cutAll fu s M = some rr) : xWx p l e R S0 m ag below meth c0 D cA A0 sA M0 ad0 7 Z 0 0 0 0 0 [(0, .inr (.inr (12, some s)))] [] M := by
  rw [← q_X12_cutAll fu s M] at h
  have hT : ∀ w ∈ xG, w ∈ (Cond.code yX12_cutAll cX12_cutAll 7 none :: xG) := fun w hw => List.mem_cons_of_mem _ hw
  refine xrun_sound (nst := 0) (isInit := false) (kd := kdX12) X (xcls_mono hT xclsG) (xpool_mono hT plX12) (fun z => by cases z) (fun idx v hf => xkoE_mono hT (koX12_ok _ (xfind_mem hf))) (xents (ca := _) ?_) (endV hE).1 (endV hE).2 (xcuts (cu := _) ?_) pr_X12_cutAll.1 pr_X12_cutAll.2 _ _ _ _ _ _ _ _ (xat_ok pr_X12_cutAll.1 pr_X12_cutAll.2).1 (xat_ok pr_X12_cutAll.1 pr_X12_cutAll.2).2.1 (xat_ok pr_X12_cutAll.1 pr_X12_cutAll.2).2.2 h
  · exact (fun _ h => nomatch h)
  · refine (List.forall_mem_cons.mpr ⟨?_, (fun _ h => nomatch h)⟩)
    · intro bc bs ls st M h
      replace h := xz_some h
      obtain ⟨rfl, rfl, h⟩ := h
      replace h := lR_some h
      obtain ⟨o, e0, h⟩ := h
      replace h := bd_some h
      obtain ⟨s', rfl, h⟩ := h
      replace h := lI_some h
      obtain ⟨x1', e1, h⟩ := h
      replace h := lI_some h
      obtain ⟨x2', e2, h⟩ := h
      replace h := xe_some h
      obtain ⟨rfl, h⟩ := h
      exact xWx_ls (wx_X12_cutAll_17 X hi hroom hE fu fu s' x1' x2' M h) (List.forall_mem_cons.mpr ⟨e0, (List.forall_mem_cons.mpr ⟨e1, (List.forall_mem_cons.mpr ⟨e2, (fun _ h => nomatch h)⟩)⟩)⟩)

theorem ok_X12_cutAll (l : Launch) (D : va_G) (cA : Nat → ClassId) (sA : Nat → Nat) (fu : Nat) (s : Nat) (M : xM) {rr : xM} (h : F_X12_cutAll fu s M = some rr) : xMet l D cA sA yX12_cutAll cX12_cutAll 7 none xG (2 + 1) 0 0 [.inr (.inr (12, some s))] M none rr :=
  xmet_of (by decide +kernel) (Nat.le_of_ble_eq_true rfl) (fun p e s1 m ag below meth c0 A0 ad0 Z X hn hE => wx_X12_cutAll X hn ⟨Nat.le_refl _, Nat.le_refl _⟩ hE fu s M h)
theorem hw_X12_cutAll (l : Launch) (D : va_G) (cA : Nat → ClassId) (sA : Nat → Nat) (fu : Nat) {ρ : Type} {r0 : ρ} (kd1 : Nat) : ∀ (as : List xV) (M : xM) (k : Option xV → xM → Option ρ), w_X12_cutAll fu as M k = some r0 → ∃ v M', xMet l D cA sA yX12_cutAll cX12_cutAll 7 none xG (2 + 1) 0 0 as M v M' ∧ k v M' = some r0 ∧ (kd1 ≠ 2 → ∃ a as', as = .inr (.inr (12, some a)) :: as') := by
  intro as M k h
  unfold w_X12_cutAll at h
  replace h := pR_some h
  obtain ⟨o, as1, rfl, h⟩ := h
  replace h := bd_some h
  obtain ⟨s, rfl, h⟩ := h
  replace h := xe_some h
  obtain ⟨rfl, h⟩ := h
  obtain ⟨p1, hp, h⟩ := Option.bind_eq_some_iff.mp h
  exact ⟨_, _, ok_X12_cutAll l D cA sA fu s M hp, h, fun _ => ⟨_, _, rfl⟩⟩
theorem cd_X12_isAsSeen : Cond.code yX12_isAsSeen cX12_isAsSeen 5 (some .boolean) ∈ xG := (xg 2051 (by decide +kernel) (by decide +kernel))
theorem pr_X12_isAsSeen : (∀ e ∈ pX12_isAsSeen, xrow cX12_isAsSeen 5 kdX12 flX12 0 false RX12 e) ∧ xnext pX12_isAsSeen = true := xrows (by decide +kernel)
set_option maxRecDepth 100000 in
theorem wx_X12_isAsSeen_93 (X : xCtx p R S0 m ag c0 D cA A0 sA 5 cX12_isAsSeen RX12 (.code yX12_isAsSeen cX12_isAsSeen 5 (some .boolean) :: xG) 0 0) (hi : meth.name = yX12_isAsSeen.name) (hroom : 1 + 2 ≤ R.frames ∧ 60 * (1 + 2) ≤ R.locals) {rr : Int32 × xM} (hE : xEnd l D cA sA cX12_isAsSeen 5 (some .boolean) R 0 0 (some (.inl rr.1)) rr.2 p e S0 m ag below meth c0 A0 M0 ad0 Z) (fu : Nat) (k4 : Nat → Int32 → Int32 → Int32 → xM → Option (Int32 × xM)) (hk4 : ∀ (s : Nat) (x1 : Int32) (x2 : Int32) (x3 : Int32) (M : xM), k4 s x1 x2 x3 M = some rr → xWx p l e R S0 m ag below meth c0 D cA A0 sA M0 ad0 5 Z 0 0 4 0 0 [(0, .inr (.inr (12, some s))), (1, .inl x1), (2, .inl x2), (3, .inl x3)] [] M) (s : Nat) (x1 : Int32) (x3 : Int32) (y0 : Int32) (y1 : Int32) (M : xM) (h : J_X12_isAsSeen_93 fu k4 s x1 x3 y0 y1 M = some rr) : xWx p l e R S0 m ag below meth c0 D cA A0 sA M0 ad0 5 Z 0 0 93 0 0 [(0, .inr (.inr (12, some s))), (1, .inl x1), (3, .inl x3)] [.inl y0, .inl y1] M := by
  rw [← q_X12_isAsSeen_93 fu k4 s x1 x3 y0 y1 M] at h
  have hT : ∀ w ∈ xG, w ∈ (Cond.code yX12_isAsSeen cX12_isAsSeen 5 (some .boolean) :: xG) := fun w hw => List.mem_cons_of_mem _ hw
  refine xrun_sound (nst := 0) (isInit := false) (kd := kdX12) X (xcls_mono hT xclsG) (xpool_mono hT plX12) (fun z => by cases z) (fun idx v hf => xkoE_mono hT (koX12_ok _ (xfind_mem hf))) (xents (ca := _) ?_) (endZ hE).1 (endZ hE).2 (xcuts (cu := _) ?_) pr_X12_isAsSeen.1 pr_X12_isAsSeen.2 _ _ _ _ _ _ _ _ (xat_ok pr_X12_isAsSeen.1 pr_X12_isAsSeen.2).1 (xat_ok pr_X12_isAsSeen.1 pr_X12_isAsSeen.2).2.1 (xat_ok pr_X12_isAsSeen.1 pr_X12_isAsSeen.2).2.2 h
  · exact (fun _ h => nomatch h)
  · refine (List.forall_mem_cons.mpr ⟨?_, (fun _ h => nomatch h)⟩)
    · intro bc bs ls st M h
      replace h := xz_some h
      obtain ⟨rfl, rfl, h⟩ := h
      replace h := lR_some h
      obtain ⟨o, e0, h⟩ := h
      replace h := bd_some h
      obtain ⟨s', rfl, h⟩ := h
      replace h := lI_some h
      obtain ⟨x1', e1, h⟩ := h
      replace h := lI_some h
      obtain ⟨x2', e2, h⟩ := h
      replace h := lI_some h
      obtain ⟨x3', e3, h⟩ := h
      replace h := xe_some h
      obtain ⟨rfl, h⟩ := h
      exact xWx_ls (hk4 s' x1' x2' x3' M h) (List.forall_mem_cons.mpr ⟨e0, (List.forall_mem_cons.mpr ⟨e1, (List.forall_mem_cons.mpr ⟨e2, (List.forall_mem_cons.mpr ⟨e3, (fun _ h => nomatch h)⟩)⟩)⟩)⟩)

set_option maxRecDepth 100000 in
theorem wx_X12_isAsSeen_75 (X : xCtx p R S0 m ag c0 D cA A0 sA 5 cX12_isAsSeen RX12 (.code yX12_isAsSeen cX12_isAsSeen 5 (some .boolean) :: xG) 0 0) (hi : meth.name = yX12_isAsSeen.name) (hroom : 1 + 2 ≤ R.frames ∧ 60 * (1 + 2) ≤ R.locals) {rr : Int32 × xM} (hE : xEnd l D cA sA cX12_isAsSeen 5 (some .boolean) R 0 0 (some (.inl rr.1)) rr.2 p e S0 m ag below meth c0 A0 M0 ad0 Z) (fu : Nat) (k4 : Nat → Int32 → Int32 → Int32 → xM → Option (Int32 × xM)) (hk4 : ∀ (s : Nat) (x1 : Int32) (x2 : Int32) (x3 : Int32) (M : xM), k4 s x1 x2 x3 M = some rr → xWx p l e R S0 m ag below meth c0 D cA A0 sA M0 ad0 5 Z 0 0 4 0 0 [(0, .inr (.inr (12, some s))), (1, .inl x1), (2, .inl x2), (3, .inl x3)] [] M) (s : Nat) (x1 : Int32) (x3 : Int32) (x4 : Int32) (y0 : Int32) (M : xM) (h : J_X12_isAsSeen_75 fu k4 s x1 x3 x4 y0 M = some rr) : xWx p l e R S0 m ag below meth c0 D cA A0 sA M0 ad0 5 Z 0 0 75 0 0 [(0, .inr (.inr (12, some s))), (1, .inl x1), (3, .inl x3), (4, .inl x4)] [.inl y0] M := by
  rw [← q_X12_isAsSeen_75 fu k4 s x1 x3 x4 y0 M] at h
  have hT : ∀ w ∈ xG, w ∈ (Cond.code yX12_isAsSeen cX12_isAsSeen 5 (some .boolean) :: xG) := fun w hw => List.mem_cons_of_mem _ hw
  refine xrun_sound (nst := 0) (isInit := false) (kd := kdX12) X (xcls_mono hT xclsG) (xpool_mono hT plX12) (fun z => by cases z) (fun idx v hf => xkoE_mono hT (koX12_ok _ (xfind_mem hf))) (xents (ca := _) ?_) (endZ hE).1 (endZ hE).2 (xcuts (cu := _) ?_) pr_X12_isAsSeen.1 pr_X12_isAsSeen.2 _ _ _ _ _ _ _ _ (xat_ok pr_X12_isAsSeen.1 pr_X12_isAsSeen.2).1 (xat_ok pr_X12_isAsSeen.1 pr_X12_isAsSeen.2).2.1 (xat_ok pr_X12_isAsSeen.1 pr_X12_isAsSeen.2).2.2 h
  · exact (fun _ h => nomatch h)
  · refine (List.forall_mem_cons.mpr ⟨?_, (fun _ h => nomatch h)⟩)
    · intro bc bs ls st M h
      replace h := xz_some h
      obtain ⟨rfl, rfl, h⟩ := h
      replace h := lR_some h
      obtain ⟨o, e0, h⟩ := h
      replace h := bd_some h
      obtain ⟨s', rfl, h⟩ := h
      replace h := lI_some h
      obtain ⟨x1', e1, h⟩ := h
      replace h := lI_some h
      obtain ⟨x3', e3, h⟩ := h
      replace h := pI_some h
      obtain ⟨y0', st, rfl, h⟩ := h
      replace h := pI_some h
      obtain ⟨y1', st, rfl, h⟩ := h
      replace h := xe_some h
      obtain ⟨rfl, h⟩ := h
      exact xWx_ls (wx_X12_isAsSeen_93 X hi hroom hE fu k4 hk4 s' x1' x3' y0' y1' M h) (List.forall_mem_cons.mpr ⟨e0, (List.forall_mem_cons.mpr ⟨e1, (List.forall_mem_cons.mpr ⟨e3, (fun _ h => nomatch h)⟩)⟩)⟩)

set_option maxRecDepth 100000 in
theorem wx_X12_isAsSeen_4 (X : xCtx p R S0 m ag c0 D cA A0 sA 5 cX12_isAsSeen RX12 (.code yX12_isAsSeen cX12_isAsSeen 5 (some .boolean) :: xG) 0 0) (hi : meth.name = yX12_isAsSeen.name) (hroom : 1 + 2 ≤ R.frames ∧ 60 * (1 + 2) ≤ R.locals) {rr : Int32 × xM} (hE : xEnd l D cA sA cX12_isAsSeen 5 (some .boolean) R 0 0 (some (.inl rr.1)) rr.2 p e S0 m ag below meth c0 A0 M0 ad0 Z) (fu : Nat) : ∀ (n : Nat) (s : Nat) (x1 : Int32) (x2 : Int32) (x3 : Int32) (M : xM), L_X12_isAsSeen_4 fu n s x1 x2 x3 M = some rr → xWx p l e R S0 m ag below meth c0 D cA A0 sA M0 ad0 5 Z 0 0 4 0 0 [(0, .inr (.inr (12, some s))), (1, .inl x1), (2, .inl x2), (3, .inl x3)] [] M := by
  intro n
  induction n with
  | zero => intro s x1 x2 x3 M h; cases h
  | succ n ih =>
    intro s x1 x2 x3 M h
    rw [← q_X12_isAsSeen_4 fu n s x1 x2 x3 M] at h
    have hT : ∀ w ∈ xG, w ∈ (Cond.code yX12_isAsSeen cX12_isAsSeen 5 (some .boolean) :: xG) := fun w hw => List.mem_cons_of_mem _ hw
    refine xrun_sound (nst := 0) (isInit := false) (kd := kdX12) X (xcls_mono hT xclsG) (xpool_mono hT plX12) (fun z => by cases z) (fun idx v hf => xkoE_mono hT (koX12_ok _ (xfind_mem hf))) (xents (ca := _) ?_) (endZ hE).1 (endZ hE).2 (xcuts (cu := _) ?_) pr_X12_isAsSeen.1 pr_X12_isAsSeen.2 _ _ _ _ _ _ _ _ (xat_ok pr_X12_isAsSeen.1 pr_X12_isAsSeen.2).1 (xat_ok pr_X12_isAsSeen.1 pr_X12_isAsSeen.2).2.1 (xat_ok pr_X12_isAsSeen.1 pr_X12_isAsSeen.2).2.2 h
    · exact (List.forall_mem_cons.mpr ⟨(xent_met X (ci := 12) hT cd_X12_saysIn lk_X12_420 rfl (by decide) rfl (by decide +kernel) (fun z => absurd z (by decide)) (hw_X12_saysIn l D cA sA fu 2 rfl) (fun z => absurd rfl z) (by constructor <;> omega) (by decide)), (fun _ h => nomatch h)⟩)
    · refine (List.forall_mem_cons.mpr ⟨?_, (List.forall_mem_cons.mpr ⟨?_, (fun _ h => nomatch h)⟩)⟩)
      · intro bc bs ls st M h
        replace h := xz_some h
        obtain ⟨rfl, rfl, h⟩ := h
        replace h := lR_some h
        obtain ⟨o, e0, h⟩ := h
        replace h := bd_some h
        obtain ⟨s', rfl, h⟩ := h
        replace h := lI_some h
        obtain ⟨x1', e1, h⟩ := h
        replace h := lI_some h
        obtain ⟨x2', e2, h⟩ := h
        replace h := lI_some h
        obtain ⟨x3', e3, h⟩ := h
        replace h := xe_some h
        obtain ⟨rfl, h⟩ := h
        exact xWx_ls (ih s' x1' x2' x3' M h) (List.forall_mem_cons.mpr ⟨e0, (List.forall_mem_cons.mpr ⟨e1, (List.forall_mem_cons.mpr ⟨e2, (List.forall_mem_cons.mpr ⟨e3, (fun _ h => nomatch h)⟩)⟩)⟩)⟩)
      · intro bc bs ls st M h
        replace h := xz_some h
        obtain ⟨rfl, rfl, h⟩ := h
        replace h := lR_some h
        obtain ⟨o, e0, h⟩ := h
        replace h := bd_some h
        obtain ⟨s', rfl, h⟩ := h
        replace h := lI_some h
        obtain ⟨x1', e1, h⟩ := h
        replace h := lI_some h
        obtain ⟨x3', e3, h⟩ := h
        replace h := lI_some h
        obtain ⟨x4', e4, h⟩ := h
        replace h := pI_some h
        obtain ⟨y0', st, rfl, h⟩ := h
        replace h := xe_some h
        obtain ⟨rfl, h⟩ := h
        exact xWx_ls (wx_X12_isAsSeen_75 X hi hroom hE fu _ ih s' x1' x3' x4' y0' M h) (List.forall_mem_cons.mpr ⟨e0, (List.forall_mem_cons.mpr ⟨e1, (List.forall_mem_cons.mpr ⟨e3, (List.forall_mem_cons.mpr ⟨e4, (fun _ h => nomatch h)⟩)⟩)⟩)⟩)

set_option maxRecDepth 100000 in
theorem wx_X12_isAsSeen (X : xCtx p R S0 m ag c0 D cA A0 sA 5 cX12_isAsSeen RX12 (.code yX12_isAsSeen cX12_isAsSeen 5 (some .boolean) :: xG) 0 0) (hi : meth.name = yX12_isAsSeen.name) (hroom : 1 + 2 ≤ R.frames ∧ 60 * (1 + 2) ≤ R.locals) {rr : Int32 × xM} (hE : xEnd l D cA sA cX12_isAsSeen 5 (some .boolean) R 0 0 (some (.inl rr.1)) rr.2 p e S0 m ag below meth c0 A0 M0 ad0 Z) (fu : Nat) (s : Nat) (x1 : Int32) (M : xM) (h : F_X12_isAsSeen fu s x1 M = some rr) : xWx p l e R S0 m ag below meth c0 D cA A0 sA M0 ad0 5 Z 0 0 0 0 0 [(0, .inr (.inr (12, some s))), (1, .inl x1)] [] M := by
  rw [← q_X12_isAsSeen fu s x1 M] at h
  have hT : ∀ w ∈ xG, w ∈ (Cond.code yX12_isAsSeen cX12_isAsSeen 5 (some .boolean) :: xG) := fun w hw => List.mem_cons_of_mem _ hw
  refine xrun_sound (nst := 0) (isInit := false) (kd := kdX12) X (xcls_mono hT xclsG) (xpool_mono hT plX12) (fun z => by cases z) (fun idx v hf => xkoE_mono hT (koX12_ok _ (xfind_mem hf))) (xents (ca := _) ?_) (endZ hE).1 (endZ hE).2 (xcuts (cu := _) ?_) pr_X12_isAsSeen.1 pr_X12_isAsSeen.2 _ _ _ _ _ _ _ _ (xat_ok pr_X12_isAsSeen.1 pr_X12_isAsSeen.2).1 (xat_ok pr_X12_isAsSeen.1 pr_X12_isAsSeen.2).2.1 (xat_ok pr_X12_isAsSeen.1 pr_X12_isAsSeen.2).2.2 h
  · exact (fun _ h => nomatch h)
  · refine (List.forall_mem_cons.mpr ⟨?_, (fun _ h => nomatch h)⟩)
    · intro bc bs ls st M h
      replace h := xz_some h
      obtain ⟨rfl, rfl, h⟩ := h
      replace h := lR_some h
      obtain ⟨o, e0, h⟩ := h
      replace h := bd_some h
      obtain ⟨s', rfl, h⟩ := h
      replace h := lI_some h
      obtain ⟨x1', e1, h⟩ := h
      replace h := lI_some h
      obtain ⟨x2', e2, h⟩ := h
      replace h := lI_some h
      obtain ⟨x3', e3, h⟩ := h
      replace h := xe_some h
      obtain ⟨rfl, h⟩ := h
      exact xWx_ls (wx_X12_isAsSeen_4 X hi hroom hE fu fu s' x1' x2' x3' M h) (List.forall_mem_cons.mpr ⟨e0, (List.forall_mem_cons.mpr ⟨e1, (List.forall_mem_cons.mpr ⟨e2, (List.forall_mem_cons.mpr ⟨e3, (fun _ h => nomatch h)⟩)⟩)⟩)⟩)

theorem ok_X12_isAsSeen (l : Launch) (D : va_G) (cA : Nat → ClassId) (sA : Nat → Nat) (fu : Nat) (s : Nat) (x1 : Int32) (M : xM) {rr : Int32 × xM} (h : F_X12_isAsSeen fu s x1 M = some rr) : xMet l D cA sA yX12_isAsSeen cX12_isAsSeen 5 (some .boolean) xG (1 + 1) 0 0 [.inr (.inr (12, some s)), .inl x1] M (some (.inl rr.1)) rr.2 :=
  xmet_of (by decide +kernel) (Nat.le_of_ble_eq_true rfl) (fun p e s1 m ag below meth c0 A0 ad0 Z X hn hE => wx_X12_isAsSeen X hn ⟨Nat.le_refl _, Nat.le_refl _⟩ hE fu s x1 M h)
theorem hw_X12_isAsSeen (l : Launch) (D : va_G) (cA : Nat → ClassId) (sA : Nat → Nat) (fu : Nat) {ρ : Type} {r0 : ρ} (kd1 : Nat) : ∀ (as : List xV) (M : xM) (k : Option xV → xM → Option ρ), w_X12_isAsSeen fu as M k = some r0 → ∃ v M', xMet l D cA sA yX12_isAsSeen cX12_isAsSeen 5 (some .boolean) xG (1 + 1) 0 0 as M v M' ∧ k v M' = some r0 ∧ (kd1 ≠ 2 → ∃ a as', as = .inr (.inr (12, some a)) :: as') := by
  intro as M k h
  unfold w_X12_isAsSeen at h
  replace h := pR_some h
  obtain ⟨o, as1, rfl, h⟩ := h
  replace h := bd_some h
  obtain ⟨s, rfl, h⟩ := h
  replace h := pI_some h
  obtain ⟨x1, as1, rfl, h⟩ := h
  replace h := xe_some h
  obtain ⟨rfl, h⟩ := h
  obtain ⟨p1, hp, h⟩ := Option.bind_eq_some_iff.mp h
  exact ⟨_, _, ok_X12_isAsSeen l D cA sA fu s x1 M hp, h, fun _ => ⟨_, _, rfl⟩⟩
theorem lk_X12_428 : xLink xG RX12 428 0 yX12_isAsSeen 1 := ⟨Or.inl (xg 2048 (by decide +kernel) (by decide +kernel)), (xg 2050 (by decide +kernel) (by decide +kernel)), (xg 117 (by decide +kernel) (by decide +kernel)), (xg 141 (by decide +kernel) (by decide +kernel)), ⟨12, by decide, TX12, 29, rfl⟩⟩
theorem cd_X12_cutsNow : Cond.code yX12_cutsNow cX12_cutsNow 3 (some .int) ∈ xG := (xg 2047 (by decide +kernel) (by decide +kernel))
theorem pr_X12_cutsNow : (∀ e ∈ pX12_cutsNow, xrow cX12_cutsNow 3 kdX12 flX12 0 false RX12 e) ∧ xnext pX12_cutsNow = true := xrows (by decide +kernel)
set_option maxRecDepth 100000 in
theorem wx_X12_cutsNow_8 (X : xCtx p R S0 m ag c0 D cA A0 sA 3 cX12_cutsNow RX12 (.code yX12_cutsNow cX12_cutsNow 3 (some .int) :: xG) 0 0) (hi : meth.name = yX12_cutsNow.name) (hroom : 12 + 2 ≤ R.frames ∧ 60 * (12 + 2) ≤ R.locals) {rr : Int32 × xM} (hE : xEnd l D cA sA cX12_cutsNow 3 (some .int) R 0 0 (some (.inl rr.1)) rr.2 p e S0 m ag below meth c0 A0 M0 ad0 Z) (fu : Nat) : ∀ (n : Nat) (s : Nat) (x1 : Int32) (x2 : Int32) (M : xM), L_X12_cutsNow_8 fu n s x1 x2 M = some rr → xWx p l e R S0 m ag below meth c0 D cA A0 sA M0 ad0 3 Z 0 0 8 0 0 [(0, .inr (.inr (12, some s))), (1, .inl x1), (2, .inl x2)] [] M := by
  intro n
  induction n with
  | zero => intro s x1 x2 M h; cases h
  | succ n ih =>
    intro s x1 x2 M h
    rw [← q_X12_cutsNow_8 fu n s x1 x2 M] at h
    have hT : ∀ w ∈ xG, w ∈ (Cond.code yX12_cutsNow cX12_cutsNow 3 (some .int) :: xG) := fun w hw => List.mem_cons_of_mem _ hw
    refine xrun_sound (nst := 0) (isInit := false) (kd := kdX12) X (xcls_mono hT xclsG) (xpool_mono hT plX12) (fun z => by cases z) (fun idx v hf => xkoE_mono hT (koX12_ok _ (xfind_mem hf))) (xents (ca := _) ?_) (endI hE).1 (endI hE).2 (xcuts (cu := _) ?_) pr_X12_cutsNow.1 pr_X12_cutsNow.2 _ _ _ _ _ _ _ _ (xat_ok pr_X12_cutsNow.1 pr_X12_cutsNow.2).1 (xat_ok pr_X12_cutsNow.1 pr_X12_cutsNow.2).2.1 (xat_ok pr_X12_cutsNow.1 pr_X12_cutsNow.2).2.2 h
    · exact (List.forall_mem_cons.mpr ⟨(xent_met X (ci := 12) hT cd_X12_putsOfAll lk_X12_414 rfl (by decide) rfl (by decide +kernel) (fun z => absurd z (by decide)) (hw_X12_putsOfAll l D cA sA fu 0) (fun _ => ⟨by decide, fun _ => ⟨TX12, 29, rfl⟩⟩) (by constructor <;> omega) (by decide)), (List.forall_mem_cons.mpr ⟨(xent_met X (ci := 12) hT cd_X12_isAsSeen lk_X12_428 rfl (by decide) rfl (by decide +kernel) (fun z => absurd z (by decide)) (hw_X12_isAsSeen l D cA sA fu 0) (fun _ => ⟨by decide, fun _ => ⟨TX12, 29, rfl⟩⟩) (by constructor <;> omega) (by decide)), (fun _ h => nomatch h)⟩)⟩)
    · refine (List.forall_mem_cons.mpr ⟨?_, (fun _ h => nomatch h)⟩)
      · intro bc bs ls st M h
        replace h := xz_some h
        obtain ⟨rfl, rfl, h⟩ := h
        replace h := lR_some h
        obtain ⟨o, e0, h⟩ := h
        replace h := bd_some h
        obtain ⟨s', rfl, h⟩ := h
        replace h := lI_some h
        obtain ⟨x1', e1, h⟩ := h
        replace h := lI_some h
        obtain ⟨x2', e2, h⟩ := h
        replace h := xe_some h
        obtain ⟨rfl, h⟩ := h
        exact xWx_ls (ih s' x1' x2' M h) (List.forall_mem_cons.mpr ⟨e0, (List.forall_mem_cons.mpr ⟨e1, (List.forall_mem_cons.mpr ⟨e2, (fun _ h => nomatch h)⟩)⟩)⟩)

set_option maxRecDepth 100000 in
theorem wx_X12_cutsNow (X : xCtx p R S0 m ag c0 D cA A0 sA 3 cX12_cutsNow RX12 (.code yX12_cutsNow cX12_cutsNow 3 (some .int) :: xG) 0 0) (hi : meth.name = yX12_cutsNow.name) (hroom : 12 + 2 ≤ R.frames ∧ 60 * (12 + 2) ≤ R.locals) {rr : Int32 × xM} (hE : xEnd l D cA sA cX12_cutsNow 3 (some .int) R 0 0 (some (.inl rr.1)) rr.2 p e S0 m ag below meth c0 A0 M0 ad0 Z) (fu : Nat) (s : Nat) (M : xM) (h : F_X12_cutsNow fu s M = some rr) : xWx p l e R S0 m ag below meth c0 D cA A0 sA M0 ad0 3 Z 0 0 0 0 0 [(0, .inr (.inr (12, some s)))] [] M := by
  rw [← q_X12_cutsNow fu s M] at h
  have hT : ∀ w ∈ xG, w ∈ (Cond.code yX12_cutsNow cX12_cutsNow 3 (some .int) :: xG) := fun w hw => List.mem_cons_of_mem _ hw
  refine xrun_sound (nst := 0) (isInit := false) (kd := kdX12) X (xcls_mono hT xclsG) (xpool_mono hT plX12) (fun z => by cases z) (fun idx v hf => xkoE_mono hT (koX12_ok _ (xfind_mem hf))) (xents (ca := _) ?_) (endI hE).1 (endI hE).2 (xcuts (cu := _) ?_) pr_X12_cutsNow.1 pr_X12_cutsNow.2 _ _ _ _ _ _ _ _ (xat_ok pr_X12_cutsNow.1 pr_X12_cutsNow.2).1 (xat_ok pr_X12_cutsNow.1 pr_X12_cutsNow.2).2.1 (xat_ok pr_X12_cutsNow.1 pr_X12_cutsNow.2).2.2 h
  · exact (List.forall_mem_cons.mpr ⟨(xent_met X (ci := 12) hT cd_X12_runs lk_X12_417 rfl (by decide) rfl (by decide +kernel) (fun z => absurd z (by decide)) (hw_X12_runs l D cA sA fu 0) (fun _ => ⟨by decide, fun _ => ⟨TX12, 29, rfl⟩⟩) (by constructor <;> omega) (by decide)), (fun _ h => nomatch h)⟩)
  · refine (List.forall_mem_cons.mpr ⟨?_, (fun _ h => nomatch h)⟩)
    · intro bc bs ls st M h
      replace h := xz_some h
      obtain ⟨rfl, rfl, h⟩ := h
      replace h := lR_some h
      obtain ⟨o, e0, h⟩ := h
      replace h := bd_some h
      obtain ⟨s', rfl, h⟩ := h
      replace h := lI_some h
      obtain ⟨x1', e1, h⟩ := h
      replace h := lI_some h
      obtain ⟨x2', e2, h⟩ := h
      replace h := xe_some h
      obtain ⟨rfl, h⟩ := h
      exact xWx_ls (wx_X12_cutsNow_8 X hi hroom hE fu fu s' x1' x2' M h) (List.forall_mem_cons.mpr ⟨e0, (List.forall_mem_cons.mpr ⟨e1, (List.forall_mem_cons.mpr ⟨e2, (fun _ h => nomatch h)⟩)⟩)⟩)

theorem ok_X12_cutsNow (l : Launch) (D : va_G) (cA : Nat → ClassId) (sA : Nat → Nat) (fu : Nat) (s : Nat) (M : xM) {rr : Int32 × xM} (h : F_X12_cutsNow fu s M = some rr) : xMet l D cA sA yX12_cutsNow cX12_cutsNow 3 (some .int) xG (12 + 1) 0 0 [.inr (.inr (12, some s))] M (some (.inl rr.1)) rr.2 :=
  xmet_of (by decide +kernel) (Nat.le_of_ble_eq_true rfl) (fun p e s1 m ag below meth c0 A0 ad0 Z X hn hE => wx_X12_cutsNow X hn ⟨Nat.le_refl _, Nat.le_refl _⟩ hE fu s M h)
theorem hw_X12_cutsNow (l : Launch) (D : va_G) (cA : Nat → ClassId) (sA : Nat → Nat) (fu : Nat) {ρ : Type} {r0 : ρ} (kd1 : Nat) : ∀ (as : List xV) (M : xM) (k : Option xV → xM → Option ρ), w_X12_cutsNow fu as M k = some r0 → ∃ v M', xMet l D cA sA yX12_cutsNow cX12_cutsNow 3 (some .int) xG (12 + 1) 0 0 as M v M' ∧ k v M' = some r0 ∧ (kd1 ≠ 2 → ∃ a as', as = .inr (.inr (12, some a)) :: as') := by
  intro as M k h
  unfold w_X12_cutsNow at h
  replace h := pR_some h
  obtain ⟨o, as1, rfl, h⟩ := h
  replace h := bd_some h
  obtain ⟨s, rfl, h⟩ := h
  replace h := xe_some h
  obtain ⟨rfl, h⟩ := h
  obtain ⟨p1, hp, h⟩ := Option.bind_eq_some_iff.mp h
  exact ⟨_, _, ok_X12_cutsNow l D cA sA fu s M hp, h, fun _ => ⟨_, _, rfl⟩⟩
theorem lk_X12_431 : xLink xG RX12 431 0 yX12_cutsNow 0 := ⟨Or.inl (xg 2044 (by decide +kernel) (by decide +kernel)), (xg 2046 (by decide +kernel) (by decide +kernel)), (xg 116 (by decide +kernel) (by decide +kernel)), (xg 141 (by decide +kernel) (by decide +kernel)), ⟨12, by decide, TX12, 29, rfl⟩⟩
theorem cd_X12_cuts : Cond.code yX12_cuts cX12_cuts 1 (some .int) ∈ xG := (xg 2043 (by decide +kernel) (by decide +kernel))
theorem pr_X12_cuts : (∀ e ∈ pX12_cuts, xrow cX12_cuts 1 kdX12 flX12 0 false RX12 e) ∧ xnext pX12_cuts = true := xrows (by decide +kernel)
set_option maxRecDepth 100000 in
theorem wx_X12_cuts (X : xCtx p R S0 m ag c0 D cA A0 sA 1 cX12_cuts RX12 (.code yX12_cuts cX12_cuts 1 (some .int) :: xG) 0 0) (hi : meth.name = yX12_cuts.name) (hroom : 13 + 2 ≤ R.frames ∧ 60 * (13 + 2) ≤ R.locals) {rr : Int32 × xM} (hE : xEnd l D cA sA cX12_cuts 1 (some .int) R 0 0 (some (.inl rr.1)) rr.2 p e S0 m ag below meth c0 A0 M0 ad0 Z) (fu : Nat) (s : Nat) (M : xM) (h : F_X12_cuts fu s M = some rr) : xWx p l e R S0 m ag below meth c0 D cA A0 sA M0 ad0 1 Z 0 0 0 0 0 [(0, .inr (.inr (12, some s)))] [] M := by
  rw [← q_X12_cuts fu s M] at h
  have hT : ∀ w ∈ xG, w ∈ (Cond.code yX12_cuts cX12_cuts 1 (some .int) :: xG) := fun w hw => List.mem_cons_of_mem _ hw
  refine xrun_sound (nst := 0) (isInit := false) (kd := kdX12) X (xcls_mono hT xclsG) (xpool_mono hT plX12) (fun z => by cases z) (fun idx v hf => xkoE_mono hT (koX12_ok _ (xfind_mem hf))) (xents (ca := _) ?_) (endI hE).1 (endI hE).2 (xcuts (cu := _) ?_) pr_X12_cuts.1 pr_X12_cuts.2 _ _ _ _ _ _ _ _ (xat_ok pr_X12_cuts.1 pr_X12_cuts.2).1 (xat_ok pr_X12_cuts.1 pr_X12_cuts.2).2.1 (xat_ok pr_X12_cuts.1 pr_X12_cuts.2).2.2 h
  · exact (List.forall_mem_cons.mpr ⟨(xent_met X (ci := 12) hT cd_X12_cutsNow lk_X12_431 rfl (by decide) rfl (by decide +kernel) (fun z => absurd z (by decide)) (hw_X12_cutsNow l D cA sA fu 0) (fun _ => ⟨by decide, fun _ => ⟨TX12, 29, rfl⟩⟩) (by constructor <;> omega) (by decide)), (fun _ h => nomatch h)⟩)
  · exact (fun _ h => nomatch h)

theorem ok_X12_cuts (l : Launch) (D : va_G) (cA : Nat → ClassId) (sA : Nat → Nat) (fu : Nat) (s : Nat) (M : xM) {rr : Int32 × xM} (h : F_X12_cuts fu s M = some rr) : xMet l D cA sA yX12_cuts cX12_cuts 1 (some .int) xG (13 + 1) 0 0 [.inr (.inr (12, some s))] M (some (.inl rr.1)) rr.2 :=
  xmet_of (by decide +kernel) (Nat.le_of_ble_eq_true rfl) (fun p e s1 m ag below meth c0 A0 ad0 Z X hn hE => wx_X12_cuts X hn ⟨Nat.le_refl _, Nat.le_refl _⟩ hE fu s M h)
theorem hw_X12_cuts (l : Launch) (D : va_G) (cA : Nat → ClassId) (sA : Nat → Nat) (fu : Nat) {ρ : Type} {r0 : ρ} (kd1 : Nat) : ∀ (as : List xV) (M : xM) (k : Option xV → xM → Option ρ), w_X12_cuts fu as M k = some r0 → ∃ v M', xMet l D cA sA yX12_cuts cX12_cuts 1 (some .int) xG (13 + 1) 0 0 as M v M' ∧ k v M' = some r0 ∧ (kd1 ≠ 2 → ∃ a as', as = .inr (.inr (12, some a)) :: as') := by
  intro as M k h
  unfold w_X12_cuts at h
  replace h := pR_some h
  obtain ⟨o, as1, rfl, h⟩ := h
  replace h := bd_some h
  obtain ⟨s, rfl, h⟩ := h
  replace h := xe_some h
  obtain ⟨rfl, h⟩ := h
  obtain ⟨p1, hp, h⟩ := Option.bind_eq_some_iff.mp h
  exact ⟨_, _, ok_X12_cuts l D cA sA fu s M hp, h, fun _ => ⟨_, _, rfl⟩⟩
theorem cd_X12_emit : Cond.code yX12_emit cX12_emit 3 none ∈ xG := (xg 1746 (by decide +kernel) (by decide +kernel))
theorem pr_X12_emit : (∀ e ∈ pX12_emit, xrow cX12_emit 3 kdX12 flX12 0 false RX12 e) ∧ xnext pX12_emit = true := xrows (by decide +kernel)
set_option maxRecDepth 100000 in
theorem wx_X12_emit (X : xCtx p R S0 m ag c0 D cA A0 sA 3 cX12_emit RX12 (.code yX12_emit cX12_emit 3 none :: xG) 0 0) (hi : meth.name = yX12_emit.name) (hroom : 0 + 2 ≤ R.frames ∧ 60 * (0 + 2) ≤ R.locals) {rr : xM} (hE : xEnd l D cA sA cX12_emit 3 none R 0 0 none rr p e S0 m ag below meth c0 A0 M0 ad0 Z) (fu : Nat) (s : Nat) (x1 : Int32) (x2 : Int32) (M : xM) (h : F_X12_emit fu s x1 x2 M = some rr) : xWx p l e R S0 m ag below meth c0 D cA A0 sA M0 ad0 3 Z 0 0 0 0 0 [(0, .inr (.inr (12, some s))), (1, .inl x1), (2, .inl x2)] [] M := by
  rw [← q_X12_emit fu s x1 x2 M] at h
  have hT : ∀ w ∈ xG, w ∈ (Cond.code yX12_emit cX12_emit 3 none :: xG) := fun w hw => List.mem_cons_of_mem _ hw
  refine xrun_sound (nst := 0) (isInit := false) (kd := kdX12) X (xcls_mono hT xclsG) (xpool_mono hT plX12) (fun z => by cases z) (fun idx v hf => xkoE_mono hT (koX12_ok _ (xfind_mem hf))) (xents (ca := _) ?_) (endV hE).1 (endV hE).2 (xcuts (cu := _) ?_) pr_X12_emit.1 pr_X12_emit.2 _ _ _ _ _ _ _ _ (xat_ok pr_X12_emit.1 pr_X12_emit.2).1 (xat_ok pr_X12_emit.1 pr_X12_emit.2).2.1 (xat_ok pr_X12_emit.1 pr_X12_emit.2).2.2 h
  · exact (fun _ h => nomatch h)
  · exact (fun _ h => nomatch h)

theorem ok_X12_emit (l : Launch) (D : va_G) (cA : Nat → ClassId) (sA : Nat → Nat) (fu : Nat) (s : Nat) (x1 : Int32) (x2 : Int32) (M : xM) {rr : xM} (h : F_X12_emit fu s x1 x2 M = some rr) : xMet l D cA sA yX12_emit cX12_emit 3 none xG (0 + 1) 0 0 [.inr (.inr (12, some s)), .inl x1, .inl x2] M none rr :=
  xmet_of (by decide +kernel) (Nat.le_of_ble_eq_true rfl) (fun p e s1 m ag below meth c0 A0 ad0 Z X hn hE => wx_X12_emit X hn ⟨Nat.le_refl _, Nat.le_refl _⟩ hE fu s x1 x2 M h)
theorem hw_X12_emit (l : Launch) (D : va_G) (cA : Nat → ClassId) (sA : Nat → Nat) (fu : Nat) {ρ : Type} {r0 : ρ} (kd1 : Nat) : ∀ (as : List xV) (M : xM) (k : Option xV → xM → Option ρ), w_X12_emit fu as M k = some r0 → ∃ v M', xMet l D cA sA yX12_emit cX12_emit 3 none xG (0 + 1) 0 0 as M v M' ∧ k v M' = some r0 ∧ (kd1 ≠ 2 → ∃ a as', as = .inr (.inr (12, some a)) :: as') := by
  intro as M k h
  unfold w_X12_emit at h
  replace h := pR_some h
  obtain ⟨o, as1, rfl, h⟩ := h
  replace h := bd_some h
  obtain ⟨s, rfl, h⟩ := h
  replace h := pI_some h
  obtain ⟨x1, as1, rfl, h⟩ := h
  replace h := pI_some h
  obtain ⟨x2, as1, rfl, h⟩ := h
  replace h := xe_some h
  obtain ⟨rfl, h⟩ := h
  obtain ⟨p1, hp, h⟩ := Option.bind_eq_some_iff.mp h
  exact ⟨_, _, ok_X12_emit l D cA sA fu s x1 x2 M hp, h, fun _ => ⟨_, _, rfl⟩⟩
theorem lk_X12_424 : xLink xG RX12 424 2 yX12_areSame 4 := ⟨(xg 2029 (by decide +kernel) (by decide +kernel)), (xg 2030 (by decide +kernel) (by decide +kernel)), (xg 141 (by decide +kernel) (by decide +kernel))⟩
theorem cd_X12_ends : Cond.code yX12_ends cX12_ends 5 (some .int) ∈ xG := (xg 2028 (by decide +kernel) (by decide +kernel))
theorem pr_X12_ends : (∀ e ∈ pX12_ends, xrow cX12_ends 5 kdX12 flX12 0 false RX12 e) ∧ xnext pX12_ends = true := xrows (by decide +kernel)
set_option maxRecDepth 100000 in
theorem wx_X12_ends_69 (X : xCtx p R S0 m ag c0 D cA A0 sA 5 cX12_ends RX12 (.code yX12_ends cX12_ends 5 (some .int) :: xG) 0 0) (hi : meth.name = yX12_ends.name) (hroom : 12 + 2 ≤ R.frames ∧ 60 * (12 + 2) ≤ R.locals) {rr : Int32 × xM} (hE : xEnd l D cA sA cX12_ends 5 (some .int) R 0 0 (some (.inl rr.1)) rr.2 p e S0 m ag below meth c0 A0 M0 ad0 Z) (fu : Nat) (k13 : Nat → Int32 → Int32 → xM → Option (Int32 × xM)) (hk13 : ∀ (s : Nat) (x1 : Int32) (x2 : Int32) (M : xM), k13 s x1 x2 M = some rr → xWx p l e R S0 m ag below meth c0 D cA A0 sA M0 ad0 5 Z 0 0 13 0 0 [(0, .inr (.inr (12, some s))), (1, .inl x1), (2, .inl x2)] [] M) (s : Nat) (x1 : Int32) (x2 : Int32) (x3 : Int32) (M : xM) (h : J_X12_ends_69 fu k13 s x1 x2 x3 M = some rr) : xWx p l e R S0 m ag below meth c0 D cA A0 sA M0 ad0 5 Z 0 0 69 0 0 [(0, .inr (.inr (12, some s))), (1, .inl x1), (2, .inl x2), (3, .inl x3)] [] M := by
  rw [← q_X12_ends_69 fu k13 s x1 x2 x3 M] at h
  have hT : ∀ w ∈ xG, w ∈ (Cond.code yX12_ends cX12_ends 5 (some .int) :: xG) := fun w hw => List.mem_cons_of_mem _ hw
  refine xrun_sound (nst := 0) (isInit := false) (kd := kdX12) X (xcls_mono hT xclsG) (xpool_mono hT plX12) (fun z => by cases z) (fun idx v hf => xkoE_mono hT (koX12_ok _ (xfind_mem hf))) (xents (ca := _) ?_) (endI hE).1 (endI hE).2 (xcuts (cu := _) ?_) pr_X12_ends.1 pr_X12_ends.2 _ _ _ _ _ _ _ _ (xat_ok pr_X12_ends.1 pr_X12_ends.2).1 (xat_ok pr_X12_ends.1 pr_X12_ends.2).2.1 (xat_ok pr_X12_ends.1 pr_X12_ends.2).2.2 h
  · exact (fun _ h => nomatch h)
  · refine (List.forall_mem_cons.mpr ⟨?_, (fun _ h => nomatch h)⟩)
    · intro bc bs ls st M h
      replace h := xz_some h
      obtain ⟨rfl, rfl, h⟩ := h
      replace h := lR_some h
      obtain ⟨o, e0, h⟩ := h
      replace h := bd_some h
      obtain ⟨s', rfl, h⟩ := h
      replace h := lI_some h
      obtain ⟨x1', e1, h⟩ := h
      replace h := lI_some h
      obtain ⟨x2', e2, h⟩ := h
      replace h := xe_some h
      obtain ⟨rfl, h⟩ := h
      exact xWx_ls (hk13 s' x1' x2' M h) (List.forall_mem_cons.mpr ⟨e0, (List.forall_mem_cons.mpr ⟨e1, (List.forall_mem_cons.mpr ⟨e2, (fun _ h => nomatch h)⟩)⟩)⟩)

set_option maxRecDepth 100000 in
theorem wx_X12_ends_26 (X : xCtx p R S0 m ag c0 D cA A0 sA 5 cX12_ends RX12 (.code yX12_ends cX12_ends 5 (some .int) :: xG) 0 0) (hi : meth.name = yX12_ends.name) (hroom : 12 + 2 ≤ R.frames ∧ 60 * (12 + 2) ≤ R.locals) {rr : Int32 × xM} (hE : xEnd l D cA sA cX12_ends 5 (some .int) R 0 0 (some (.inl rr.1)) rr.2 p e S0 m ag below meth c0 A0 M0 ad0 Z) (fu : Nat) (k13 : Nat → Int32 → Int32 → xM → Option (Int32 × xM)) (hk13 : ∀ (s : Nat) (x1 : Int32) (x2 : Int32) (M : xM), k13 s x1 x2 M = some rr → xWx p l e R S0 m ag below meth c0 D cA A0 sA M0 ad0 5 Z 0 0 13 0 0 [(0, .inr (.inr (12, some s))), (1, .inl x1), (2, .inl x2)] [] M) : ∀ (n : Nat) (s : Nat) (x1 : Int32) (x2 : Int32) (x3 : Int32) (x4 : Int32) (M : xM), L_X12_ends_26 fu k13 n s x1 x2 x3 x4 M = some rr → xWx p l e R S0 m ag below meth c0 D cA A0 sA M0 ad0 5 Z 0 0 26 0 0 [(0, .inr (.inr (12, some s))), (1, .inl x1), (2, .inl x2), (3, .inl x3), (4, .inl x4)] [] M := by
  intro n
  induction n with
  | zero => intro s x1 x2 x3 x4 M h; cases h
  | succ n ih =>
    intro s x1 x2 x3 x4 M h
    rw [← q_X12_ends_26 fu k13 n s x1 x2 x3 x4 M] at h
    have hT : ∀ w ∈ xG, w ∈ (Cond.code yX12_ends cX12_ends 5 (some .int) :: xG) := fun w hw => List.mem_cons_of_mem _ hw
    refine xrun_sound (nst := 0) (isInit := false) (kd := kdX12) X (xcls_mono hT xclsG) (xpool_mono hT plX12) (fun z => by cases z) (fun idx v hf => xkoE_mono hT (koX12_ok _ (xfind_mem hf))) (xents (ca := _) ?_) (endI hE).1 (endI hE).2 (xcuts (cu := _) ?_) pr_X12_ends.1 pr_X12_ends.2 _ _ _ _ _ _ _ _ (xat_ok pr_X12_ends.1 pr_X12_ends.2).1 (xat_ok pr_X12_ends.1 pr_X12_ends.2).2.1 (xat_ok pr_X12_ends.1 pr_X12_ends.2).2.2 h
    · exact (List.forall_mem_cons.mpr ⟨(xent_met X (ci := 12) hT cd_X12_areSame lk_X12_424 rfl (by decide) rfl (by decide +kernel) (fun z => absurd z (by decide)) (hw_X12_areSame l D cA sA fu 2 rfl) (fun z => absurd rfl z) (by constructor <;> omega) (by decide)), (fun _ h => nomatch h)⟩)
    · refine (List.forall_mem_cons.mpr ⟨?_, (List.forall_mem_cons.mpr ⟨?_, (fun _ h => nomatch h)⟩)⟩)
      · intro bc bs ls st M h
        replace h := xz_some h
        obtain ⟨rfl, rfl, h⟩ := h
        replace h := lR_some h
        obtain ⟨o, e0, h⟩ := h
        replace h := bd_some h
        obtain ⟨s', rfl, h⟩ := h
        replace h := lI_some h
        obtain ⟨x1', e1, h⟩ := h
        replace h := lI_some h
        obtain ⟨x2', e2, h⟩ := h
        replace h := lI_some h
        obtain ⟨x3', e3, h⟩ := h
        replace h := lI_some h
        obtain ⟨x4', e4, h⟩ := h
        replace h := xe_some h
        obtain ⟨rfl, h⟩ := h
        exact xWx_ls (ih s' x1' x2' x3' x4' M h) (List.forall_mem_cons.mpr ⟨e0, (List.forall_mem_cons.mpr ⟨e1, (List.forall_mem_cons.mpr ⟨e2, (List.forall_mem_cons.mpr ⟨e3, (List.forall_mem_cons.mpr ⟨e4, (fun _ h => nomatch h)⟩)⟩)⟩)⟩)⟩)
      · intro bc bs ls st M h
        replace h := xz_some h
        obtain ⟨rfl, rfl, h⟩ := h
        replace h := lR_some h
        obtain ⟨o, e0, h⟩ := h
        replace h := bd_some h
        obtain ⟨s', rfl, h⟩ := h
        replace h := lI_some h
        obtain ⟨x1', e1, h⟩ := h
        replace h := lI_some h
        obtain ⟨x2', e2, h⟩ := h
        replace h := lI_some h
        obtain ⟨x3', e3, h⟩ := h
        replace h := xe_some h
        obtain ⟨rfl, h⟩ := h
        exact xWx_ls (wx_X12_ends_69 X hi hroom hE fu k13 hk13 s' x1' x2' x3' M h) (List.forall_mem_cons.mpr ⟨e0, (List.forall_mem_cons.mpr ⟨e1, (List.forall_mem_cons.mpr ⟨e2, (List.forall_mem_cons.mpr ⟨e3, (fun _ h => nomatch h)⟩)⟩)⟩)⟩)

set_option maxRecDepth 100000 in
theorem wx_X12_ends_13 (X : xCtx p R S0 m ag c0 D cA A0 sA 5 cX12_ends RX12 (.code yX12_ends cX12_ends 5 (some .int) :: xG) 0 0) (hi : meth.name = yX12_ends.name) (hroom : 12 + 2 ≤ R.frames ∧ 60 * (12 + 2) ≤ R.locals) {rr : Int32 × xM} (hE : xEnd l D cA sA cX12_ends 5 (some .int) R 0 0 (some (.inl rr.1)) rr.2 p e S0 m ag below meth c0 A0 M0 ad0 Z) (fu : Nat) : ∀ (n : Nat) (s : Nat) (x1 : Int32) (x2 : Int32) (M : xM), L_X12_ends_13 fu n s x1 x2 M = some rr → xWx p l e R S0 m ag below meth c0 D cA A0 sA M0 ad0 5 Z 0 0 13 0 0 [(0, .inr (.inr (12, some s))), (1, .inl x1), (2, .inl x2)] [] M := by
  intro n
  induction n with
  | zero => intro s x1 x2 M h; cases h
  | succ n ih =>
    intro s x1 x2 M h
    rw [← q_X12_ends_13 fu n s x1 x2 M] at h
    have hT : ∀ w ∈ xG, w ∈ (Cond.code yX12_ends cX12_ends 5 (some .int) :: xG) := fun w hw => List.mem_cons_of_mem _ hw
    refine xrun_sound (nst := 0) (isInit := false) (kd := kdX12) X (xcls_mono hT xclsG) (xpool_mono hT plX12) (fun z => by cases z) (fun idx v hf => xkoE_mono hT (koX12_ok _ (xfind_mem hf))) (xents (ca := _) ?_) (endI hE).1 (endI hE).2 (xcuts (cu := _) ?_) pr_X12_ends.1 pr_X12_ends.2 _ _ _ _ _ _ _ _ (xat_ok pr_X12_ends.1 pr_X12_ends.2).1 (xat_ok pr_X12_ends.1 pr_X12_ends.2).2.1 (xat_ok pr_X12_ends.1 pr_X12_ends.2).2.2 h
    · exact (List.forall_mem_cons.mpr ⟨(xent_met X (ci := 12) hT cd_X12_putsOfAll lk_X12_414 rfl (by decide) rfl (by decide +kernel) (fun z => absurd z (by decide)) (hw_X12_putsOfAll l D cA sA fu 0) (fun _ => ⟨by decide, fun _ => ⟨TX12, 29, rfl⟩⟩) (by constructor <;> omega) (by decide)), (fun _ h => nomatch h)⟩)
    · refine (List.forall_mem_cons.mpr ⟨?_, (fun _ h => nomatch h)⟩)
      · intro bc bs ls st M h
        replace h := xz_some h
        obtain ⟨rfl, rfl, h⟩ := h
        replace h := lR_some h
        obtain ⟨o, e0, h⟩ := h
        replace h := bd_some h
        obtain ⟨s', rfl, h⟩ := h
        replace h := lI_some h
        obtain ⟨x1', e1, h⟩ := h
        replace h := lI_some h
        obtain ⟨x2', e2, h⟩ := h
        replace h := lI_some h
        obtain ⟨x3', e3, h⟩ := h
        replace h := lI_some h
        obtain ⟨x4', e4, h⟩ := h
        replace h := xe_some h
        obtain ⟨rfl, h⟩ := h
        exact xWx_ls (wx_X12_ends_26 X hi hroom hE fu _ ih fu s' x1' x2' x3' x4' M h) (List.forall_mem_cons.mpr ⟨e0, (List.forall_mem_cons.mpr ⟨e1, (List.forall_mem_cons.mpr ⟨e2, (List.forall_mem_cons.mpr ⟨e3, (List.forall_mem_cons.mpr ⟨e4, (fun _ h => nomatch h)⟩)⟩)⟩)⟩)⟩)

set_option maxRecDepth 100000 in
theorem wx_X12_ends (X : xCtx p R S0 m ag c0 D cA A0 sA 5 cX12_ends RX12 (.code yX12_ends cX12_ends 5 (some .int) :: xG) 0 0) (hi : meth.name = yX12_ends.name) (hroom : 12 + 2 ≤ R.frames ∧ 60 * (12 + 2) ≤ R.locals) {rr : Int32 × xM} (hE : xEnd l D cA sA cX12_ends 5 (some .int) R 0 0 (some (.inl rr.1)) rr.2 p e S0 m ag below meth c0 A0 M0 ad0 Z) (fu : Nat) (s : Nat) (M : xM) (h : F_X12_ends fu s M = some rr) : xWx p l e R S0 m ag below meth c0 D cA A0 sA M0 ad0 5 Z 0 0 0 0 0 [(0, .inr (.inr (12, some s)))] [] M := by
  rw [← q_X12_ends fu s M] at h
  have hT : ∀ w ∈ xG, w ∈ (Cond.code yX12_ends cX12_ends 5 (some .int) :: xG) := fun w hw => List.mem_cons_of_mem _ hw
  refine xrun_sound (nst := 0) (isInit := false) (kd := kdX12) X (xcls_mono hT xclsG) (xpool_mono hT plX12) (fun z => by cases z) (fun idx v hf => xkoE_mono hT (koX12_ok _ (xfind_mem hf))) (xents (ca := _) ?_) (endI hE).1 (endI hE).2 (xcuts (cu := _) ?_) pr_X12_ends.1 pr_X12_ends.2 _ _ _ _ _ _ _ _ (xat_ok pr_X12_ends.1 pr_X12_ends.2).1 (xat_ok pr_X12_ends.1 pr_X12_ends.2).2.1 (xat_ok pr_X12_ends.1 pr_X12_ends.2).2.2 h
  · exact (List.forall_mem_cons.mpr ⟨(xent_met X (ci := 12) hT cd_X12_runs lk_X12_417 rfl (by decide) rfl (by decide +kernel) (fun z => absurd z (by decide)) (hw_X12_runs l D cA sA fu 0) (fun _ => ⟨by decide, fun _ => ⟨TX12, 29, rfl⟩⟩) (by constructor <;> omega) (by decide)), (fun _ h => nomatch h)⟩)
  · refine (List.forall_mem_cons.mpr ⟨?_, (fun _ h => nomatch h)⟩)
    · intro bc bs ls st M h
      replace h := xz_some h
      obtain ⟨rfl, rfl, h⟩ := h
      replace h := lR_some h
      obtain ⟨o, e0, h⟩ := h
      replace h := bd_some h
      obtain ⟨s', rfl, h⟩ := h
      replace h := lI_some h
      obtain ⟨x1', e1, h⟩ := h
      replace h := lI_some h
      obtain ⟨x2', e2, h⟩ := h
      replace h := xe_some h
      obtain ⟨rfl, h⟩ := h
      exact xWx_ls (wx_X12_ends_13 X hi hroom hE fu fu s' x1' x2' M h) (List.forall_mem_cons.mpr ⟨e0, (List.forall_mem_cons.mpr ⟨e1, (List.forall_mem_cons.mpr ⟨e2, (fun _ h => nomatch h)⟩)⟩)⟩)

theorem ok_X12_ends (l : Launch) (D : va_G) (cA : Nat → ClassId) (sA : Nat → Nat) (fu : Nat) (s : Nat) (M : xM) {rr : Int32 × xM} (h : F_X12_ends fu s M = some rr) : xMet l D cA sA yX12_ends cX12_ends 5 (some .int) xG (12 + 1) 0 0 [.inr (.inr (12, some s))] M (some (.inl rr.1)) rr.2 :=
  xmet_of (by decide +kernel) (Nat.le_of_ble_eq_true rfl) (fun p e s1 m ag below meth c0 A0 ad0 Z X hn hE => wx_X12_ends X hn ⟨Nat.le_refl _, Nat.le_refl _⟩ hE fu s M h)
theorem hw_X12_ends (l : Launch) (D : va_G) (cA : Nat → ClassId) (sA : Nat → Nat) (fu : Nat) {ρ : Type} {r0 : ρ} (kd1 : Nat) : ∀ (as : List xV) (M : xM) (k : Option xV → xM → Option ρ), w_X12_ends fu as M k = some r0 → ∃ v M', xMet l D cA sA yX12_ends cX12_ends 5 (some .int) xG (12 + 1) 0 0 as M v M' ∧ k v M' = some r0 ∧ (kd1 ≠ 2 → ∃ a as', as = .inr (.inr (12, some a)) :: as') := by
  intro as M k h
  unfold w_X12_ends at h
  replace h := pR_some h
  obtain ⟨o, as1, rfl, h⟩ := h
  replace h := bd_some h
  obtain ⟨s, rfl, h⟩ := h
  replace h := xe_some h
  obtain ⟨rfl, h⟩ := h
  obtain ⟨p1, hp, h⟩ := Option.bind_eq_some_iff.mp h
  exact ⟨_, _, ok_X12_ends l D cA sA fu s M hp, h, fun _ => ⟨_, _, rfl⟩⟩
theorem cd_X12_lay : Cond.code yX12_lay cX12_lay 5 none ∈ xG := (xg 1519 (by decide +kernel) (by decide +kernel))
theorem pr_X12_lay : (∀ e ∈ pX12_lay, xrow cX12_lay 5 kdX12 flX12 0 false RX12 e) ∧ xnext pX12_lay = true := xrows (by decide +kernel)
set_option maxRecDepth 100000 in
theorem wx_X12_lay_38 (X : xCtx p R S0 m ag c0 D cA A0 sA 5 cX12_lay RX12 (.code yX12_lay cX12_lay 5 none :: xG) 0 0) (hi : meth.name = yX12_lay.name) (hroom : 0 + 2 ≤ R.frames ∧ 60 * (0 + 2) ≤ R.locals) {rr : xM} (hE : xEnd l D cA sA cX12_lay 5 none R 0 0 none rr p e S0 m ag below meth c0 A0 M0 ad0 Z) (fu : Nat) (k3 : Nat → Int64 → Int32 → xM → Option xM) (hk3 : ∀ (s : Nat) (x1 : Int64) (x3 : Int32) (M : xM), k3 s x1 x3 M = some rr → xWx p l e R S0 m ag below meth c0 D cA A0 sA M0 ad0 5 Z 0 0 3 0 0 [(0, .inr (.inr (12, some s))), (1, .inr (.inl x1)), (3, .inl x3)] [] M) (s : Nat) (x1 : Int64) (x3 : Int32) (x4 : Int32) (M : xM) (h : J_X12_lay_38 fu k3 s x1 x3 x4 M = some rr) : xWx p l e R S0 m ag below meth c0 D cA A0 sA M0 ad0 5 Z 0 0 38 0 0 [(0, .inr (.inr (12, some s))), (1, .inr (.inl x1)), (3, .inl x3), (4, .inl x4)] [] M := by
  rw [← q_X12_lay_38 fu k3 s x1 x3 x4 M] at h
  have hT : ∀ w ∈ xG, w ∈ (Cond.code yX12_lay cX12_lay 5 none :: xG) := fun w hw => List.mem_cons_of_mem _ hw
  refine xrun_sound (nst := 0) (isInit := false) (kd := kdX12) X (xcls_mono hT xclsG) (xpool_mono hT plX12) (fun z => by cases z) (fun idx v hf => xkoE_mono hT (koX12_ok _ (xfind_mem hf))) (xents (ca := _) ?_) (endV hE).1 (endV hE).2 (xcuts (cu := _) ?_) pr_X12_lay.1 pr_X12_lay.2 _ _ _ _ _ _ _ _ (xat_ok pr_X12_lay.1 pr_X12_lay.2).1 (xat_ok pr_X12_lay.1 pr_X12_lay.2).2.1 (xat_ok pr_X12_lay.1 pr_X12_lay.2).2.2 h
  · exact (fun _ h => nomatch h)
  · refine (List.forall_mem_cons.mpr ⟨?_, (fun _ h => nomatch h)⟩)
    · intro bc bs ls st M h
      replace h := xz_some h
      obtain ⟨rfl, rfl, h⟩ := h
      replace h := lR_some h
      obtain ⟨o, e0, h⟩ := h
      replace h := bd_some h
      obtain ⟨s', rfl, h⟩ := h
      replace h := lL_some h
      obtain ⟨x1', e1, h⟩ := h
      replace h := lI_some h
      obtain ⟨x3', e3, h⟩ := h
      replace h := xe_some h
      obtain ⟨rfl, h⟩ := h
      exact xWx_ls (hk3 s' x1' x3' M h) (List.forall_mem_cons.mpr ⟨e0, (List.forall_mem_cons.mpr ⟨e1, (List.forall_mem_cons.mpr ⟨e3, (fun _ h => nomatch h)⟩)⟩)⟩)

set_option maxRecDepth 100000 in
theorem wx_X12_lay_3 (X : xCtx p R S0 m ag c0 D cA A0 sA 5 cX12_lay RX12 (.code yX12_lay cX12_lay 5 none :: xG) 0 0) (hi : meth.name = yX12_lay.name) (hroom : 0 + 2 ≤ R.frames ∧ 60 * (0 + 2) ≤ R.locals) {rr : xM} (hE : xEnd l D cA sA cX12_lay 5 none R 0 0 none rr p e S0 m ag below meth c0 A0 M0 ad0 Z) (fu : Nat) : ∀ (n : Nat) (s : Nat) (x1 : Int64) (x3 : Int32) (M : xM), L_X12_lay_3 fu n s x1 x3 M = some rr → xWx p l e R S0 m ag below meth c0 D cA A0 sA M0 ad0 5 Z 0 0 3 0 0 [(0, .inr (.inr (12, some s))), (1, .inr (.inl x1)), (3, .inl x3)] [] M := by
  intro n
  induction n with
  | zero => intro s x1 x3 M h; cases h
  | succ n ih =>
    intro s x1 x3 M h
    rw [← q_X12_lay_3 fu n s x1 x3 M] at h
    have hT : ∀ w ∈ xG, w ∈ (Cond.code yX12_lay cX12_lay 5 none :: xG) := fun w hw => List.mem_cons_of_mem _ hw
    refine xrun_sound (nst := 0) (isInit := false) (kd := kdX12) X (xcls_mono hT xclsG) (xpool_mono hT plX12) (fun z => by cases z) (fun idx v hf => xkoE_mono hT (koX12_ok _ (xfind_mem hf))) (xents (ca := _) ?_) (endV hE).1 (endV hE).2 (xcuts (cu := _) ?_) pr_X12_lay.1 pr_X12_lay.2 _ _ _ _ _ _ _ _ (xat_ok pr_X12_lay.1 pr_X12_lay.2).1 (xat_ok pr_X12_lay.1 pr_X12_lay.2).2.1 (xat_ok pr_X12_lay.1 pr_X12_lay.2).2.2 h
    · exact (fun _ h => nomatch h)
    · refine (List.forall_mem_cons.mpr ⟨?_, (List.forall_mem_cons.mpr ⟨?_, (fun _ h => nomatch h)⟩)⟩)
      · intro bc bs ls st M h
        replace h := xz_some h
        obtain ⟨rfl, rfl, h⟩ := h
        replace h := lR_some h
        obtain ⟨o, e0, h⟩ := h
        replace h := bd_some h
        obtain ⟨s', rfl, h⟩ := h
        replace h := lL_some h
        obtain ⟨x1', e1, h⟩ := h
        replace h := lI_some h
        obtain ⟨x3', e3, h⟩ := h
        replace h := xe_some h
        obtain ⟨rfl, h⟩ := h
        exact xWx_ls (ih s' x1' x3' M h) (List.forall_mem_cons.mpr ⟨e0, (List.forall_mem_cons.mpr ⟨e1, (List.forall_mem_cons.mpr ⟨e3, (fun _ h => nomatch h)⟩)⟩)⟩)
      · intro bc bs ls st M h
        replace h := xz_some h
        obtain ⟨rfl, rfl, h⟩ := h
        replace h := lR_some h
        obtain ⟨o, e0, h⟩ := h
        replace h := bd_some h
        obtain ⟨s', rfl, h⟩ := h
        replace h := lL_some h
        obtain ⟨x1', e1, h⟩ := h
        replace h := lI_some h
        obtain ⟨x3', e3, h⟩ := h
        replace h := lI_some h
        obtain ⟨x4', e4, h⟩ := h
        replace h := xe_some h
        obtain ⟨rfl, h⟩ := h
        exact xWx_ls (wx_X12_lay_38 X hi hroom hE fu _ ih s' x1' x3' x4' M h) (List.forall_mem_cons.mpr ⟨e0, (List.forall_mem_cons.mpr ⟨e1, (List.forall_mem_cons.mpr ⟨e3, (List.forall_mem_cons.mpr ⟨e4, (fun _ h => nomatch h)⟩)⟩)⟩)⟩)

set_option maxRecDepth 100000 in
theorem wx_X12_lay (X : xCtx p R S0 m ag c0 D cA A0 sA 5 cX12_lay RX12 (.code yX12_lay cX12_lay 5 none :: xG) 0 0) (hi : meth.name = yX12_lay.name) (hroom : 0 + 2 ≤ R.frames ∧ 60 * (0 + 2) ≤ R.locals) {rr : xM} (hE : xEnd l D cA sA cX12_lay 5 none R 0 0 none rr p e S0 m ag below meth c0 A0 M0 ad0 Z) (fu : Nat) (s : Nat) (x1 : Int64) (M : xM) (h : F_X12_lay fu s x1 M = some rr) : xWx p l e R S0 m ag below meth c0 D cA A0 sA M0 ad0 5 Z 0 0 0 0 0 [(0, .inr (.inr (12, some s))), (1, .inr (.inl x1))] [] M := by
  rw [← q_X12_lay fu s x1 M] at h
  have hT : ∀ w ∈ xG, w ∈ (Cond.code yX12_lay cX12_lay 5 none :: xG) := fun w hw => List.mem_cons_of_mem _ hw
  refine xrun_sound (nst := 0) (isInit := false) (kd := kdX12) X (xcls_mono hT xclsG) (xpool_mono hT plX12) (fun z => by cases z) (fun idx v hf => xkoE_mono hT (koX12_ok _ (xfind_mem hf))) (xents (ca := _) ?_) (endV hE).1 (endV hE).2 (xcuts (cu := _) ?_) pr_X12_lay.1 pr_X12_lay.2 _ _ _ _ _ _ _ _ (xat_ok pr_X12_lay.1 pr_X12_lay.2).1 (xat_ok pr_X12_lay.1 pr_X12_lay.2).2.1 (xat_ok pr_X12_lay.1 pr_X12_lay.2).2.2 h
  · exact (fun _ h => nomatch h)
  · refine (List.forall_mem_cons.mpr ⟨?_, (fun _ h => nomatch h)⟩)
    · intro bc bs ls st M h
      replace h := xz_some h
      obtain ⟨rfl, rfl, h⟩ := h
      replace h := lR_some h
      obtain ⟨o, e0, h⟩ := h
      replace h := bd_some h
      obtain ⟨s', rfl, h⟩ := h
      replace h := lL_some h
      obtain ⟨x1', e1, h⟩ := h
      replace h := lI_some h
      obtain ⟨x3', e3, h⟩ := h
      replace h := xe_some h
      obtain ⟨rfl, h⟩ := h
      exact xWx_ls (wx_X12_lay_3 X hi hroom hE fu fu s' x1' x3' M h) (List.forall_mem_cons.mpr ⟨e0, (List.forall_mem_cons.mpr ⟨e1, (List.forall_mem_cons.mpr ⟨e3, (fun _ h => nomatch h)⟩)⟩)⟩)

theorem ok_X12_lay (l : Launch) (D : va_G) (cA : Nat → ClassId) (sA : Nat → Nat) (fu : Nat) (s : Nat) (x1 : Int64) (M : xM) {rr : xM} (h : F_X12_lay fu s x1 M = some rr) : xMet l D cA sA yX12_lay cX12_lay 5 none xG (0 + 1) 0 0 [.inr (.inr (12, some s)), .inr (.inl x1)] M none rr :=
  xmet_of (by decide +kernel) (Nat.le_of_ble_eq_true rfl) (fun p e s1 m ag below meth c0 A0 ad0 Z X hn hE => wx_X12_lay X hn ⟨Nat.le_refl _, Nat.le_refl _⟩ hE fu s x1 M h)
theorem hw_X12_lay (l : Launch) (D : va_G) (cA : Nat → ClassId) (sA : Nat → Nat) (fu : Nat) {ρ : Type} {r0 : ρ} (kd1 : Nat) : ∀ (as : List xV) (M : xM) (k : Option xV → xM → Option ρ), w_X12_lay fu as M k = some r0 → ∃ v M', xMet l D cA sA yX12_lay cX12_lay 5 none xG (0 + 1) 0 0 as M v M' ∧ k v M' = some r0 ∧ (kd1 ≠ 2 → ∃ a as', as = .inr (.inr (12, some a)) :: as') := by
  intro as M k h
  unfold w_X12_lay at h
  replace h := pR_some h
  obtain ⟨o, as1, rfl, h⟩ := h
  replace h := bd_some h
  obtain ⟨s, rfl, h⟩ := h
  replace h := pL_some h
  obtain ⟨x1, as1, rfl, h⟩ := h
  replace h := xe_some h
  obtain ⟨rfl, h⟩ := h
  obtain ⟨p1, hp, h⟩ := Option.bind_eq_some_iff.mp h
  exact ⟨_, _, ok_X12_lay l D cA sA fu s x1 M hp, h, fun _ => ⟨_, _, rfl⟩⟩
theorem lk_X12_7 : xLink xG RX12 7 0 yX12_lay 1 := ⟨Or.inl (xg 1515 (by decide +kernel) (by decide +kernel)), (xg 1517 (by decide +kernel) (by decide +kernel)), (xg 40 (by decide +kernel) (by decide +kernel)), (xg 141 (by decide +kernel) (by decide +kernel)), ⟨12, by decide, TX12, 29, rfl⟩⟩
theorem cd_X12_feed : Cond.code yX12_feed cX12_feed 7 (some .int) ∈ xG := (xg 1514 (by decide +kernel) (by decide +kernel))
theorem pr_X12_feed : (∀ e ∈ pX12_feed, xrow cX12_feed 7 kdX12 flX12 0 false RX12 e) ∧ xnext pX12_feed = true := xrows (by decide +kernel)
set_option maxRecDepth 100000 in
theorem wx_X12_feed (X : xCtx p R S0 m ag c0 D cA A0 sA 7 cX12_feed RX12 (.code yX12_feed cX12_feed 7 (some .int) :: xG) 0 0) (hi : meth.name = yX12_feed.name) (hroom : 1 + 2 ≤ R.frames ∧ 60 * (1 + 2) ≤ R.locals) {rr : Int32 × xM} (hE : xEnd l D cA sA cX12_feed 7 (some .int) R 0 0 (some (.inl rr.1)) rr.2 p e S0 m ag below meth c0 A0 M0 ad0 Z) (fu : Nat) (s : Nat) (x1 : Int64) (x3 : Int64) (x5 : Int64) (M : xM) (h : F_X12_feed fu s x1 x3 x5 M = some rr) : xWx p l e R S0 m ag below meth c0 D cA A0 sA M0 ad0 7 Z 0 0 0 0 0 [(0, .inr (.inr (12, some s))), (1, .inr (.inl x1)), (3, .inr (.inl x3)), (5, .inr (.inl x5))] [] M := by
  rw [← q_X12_feed fu s x1 x3 x5 M] at h
  have hT : ∀ w ∈ xG, w ∈ (Cond.code yX12_feed cX12_feed 7 (some .int) :: xG) := fun w hw => List.mem_cons_of_mem _ hw
  refine xrun_sound (nst := 0) (isInit := false) (kd := kdX12) X (xcls_mono hT xclsG) (xpool_mono hT plX12) (fun z => by cases z) (fun idx v hf => xkoE_mono hT (koX12_ok _ (xfind_mem hf))) (xents (ca := _) ?_) (endI hE).1 (endI hE).2 (xcuts (cu := _) ?_) pr_X12_feed.1 pr_X12_feed.2 _ _ _ _ _ _ _ _ (xat_ok pr_X12_feed.1 pr_X12_feed.2).1 (xat_ok pr_X12_feed.1 pr_X12_feed.2).2.1 (xat_ok pr_X12_feed.1 pr_X12_feed.2).2.2 h
  · exact (List.forall_mem_cons.mpr ⟨(xent_met X (ci := 12) hT cd_X12_lay lk_X12_7 rfl (by decide) rfl (by decide +kernel) (fun z => absurd z (by decide)) (hw_X12_lay l D cA sA fu 0) (fun _ => ⟨by decide, fun _ => ⟨TX12, 29, rfl⟩⟩) (by constructor <;> omega) (by decide)), (fun _ h => nomatch h)⟩)
  · exact (fun _ h => nomatch h)

theorem ok_X12_feed (l : Launch) (D : va_G) (cA : Nat → ClassId) (sA : Nat → Nat) (fu : Nat) (s : Nat) (x1 : Int64) (x3 : Int64) (x5 : Int64) (M : xM) {rr : Int32 × xM} (h : F_X12_feed fu s x1 x3 x5 M = some rr) : xMet l D cA sA yX12_feed cX12_feed 7 (some .int) xG (1 + 1) 0 0 [.inr (.inr (12, some s)), .inr (.inl x1), .inr (.inl x3), .inr (.inl x5)] M (some (.inl rr.1)) rr.2 :=
  xmet_of (by decide +kernel) (Nat.le_of_ble_eq_true rfl) (fun p e s1 m ag below meth c0 A0 ad0 Z X hn hE => wx_X12_feed X hn ⟨Nat.le_refl _, Nat.le_refl _⟩ hE fu s x1 x3 x5 M h)
theorem hw_X12_feed (l : Launch) (D : va_G) (cA : Nat → ClassId) (sA : Nat → Nat) (fu : Nat) {ρ : Type} {r0 : ρ} (kd1 : Nat) : ∀ (as : List xV) (M : xM) (k : Option xV → xM → Option ρ), w_X12_feed fu as M k = some r0 → ∃ v M', xMet l D cA sA yX12_feed cX12_feed 7 (some .int) xG (1 + 1) 0 0 as M v M' ∧ k v M' = some r0 ∧ (kd1 ≠ 2 → ∃ a as', as = .inr (.inr (12, some a)) :: as') := by
  intro as M k h
  unfold w_X12_feed at h
  replace h := pR_some h
  obtain ⟨o, as1, rfl, h⟩ := h
  replace h := bd_some h
  obtain ⟨s, rfl, h⟩ := h
  replace h := pL_some h
  obtain ⟨x1, as1, rfl, h⟩ := h
  replace h := pL_some h
  obtain ⟨x3, as1, rfl, h⟩ := h
  replace h := pL_some h
  obtain ⟨x5, as1, rfl, h⟩ := h
  replace h := xe_some h
  obtain ⟨rfl, h⟩ := h
  obtain ⟨p1, hp, h⟩ := Option.bind_eq_some_iff.mp h
  exact ⟨_, _, ok_X12_feed l D cA sA fu s x1 x3 x5 M hp, h, fun _ => ⟨_, _, rfl⟩⟩
theorem cd_X12_file : Cond.code yX12_file cX12_file 3 (some .int) ∈ xG := (xg 1836 (by decide +kernel) (by decide +kernel))
theorem pr_X12_file : (∀ e ∈ pX12_file, xrow cX12_file 3 kdX12 flX12 0 false RX12 e) ∧ xnext pX12_file = true := xrows (by decide +kernel)
set_option maxRecDepth 100000 in
theorem wx_X12_file (X : xCtx p R S0 m ag c0 D cA A0 sA 3 cX12_file RX12 (.code yX12_file cX12_file 3 (some .int) :: xG) 0 0) (hi : meth.name = yX12_file.name) (hroom : 2 + 2 ≤ R.frames ∧ 60 * (2 + 2) ≤ R.locals) {rr : Int32 × xM} (hE : xEnd l D cA sA cX12_file 3 (some .int) R 0 0 (some (.inl rr.1)) rr.2 p e S0 m ag below meth c0 A0 M0 ad0 Z) (fu : Nat) (s : Nat) (x1 : Int32) (x2 : Int32) (M : xM) (h : F_X12_file fu s x1 x2 M = some rr) : xWx p l e R S0 m ag below meth c0 D cA A0 sA M0 ad0 3 Z 0 0 0 0 0 [(0, .inr (.inr (12, some s))), (1, .inl x1), (2, .inl x2)] [] M := by
  rw [← q_X12_file fu s x1 x2 M] at h
  have hT : ∀ w ∈ xG, w ∈ (Cond.code yX12_file cX12_file 3 (some .int) :: xG) := fun w hw => List.mem_cons_of_mem _ hw
  refine xrun_sound (nst := 0) (isInit := false) (kd := kdX12) X (xcls_mono hT xclsG) (xpool_mono hT plX12) (fun z => by cases z) (fun idx v hf => xkoE_mono hT (koX12_ok _ (xfind_mem hf))) (xents (ca := _) ?_) (endI hE).1 (endI hE).2 (xcuts (cu := _) ?_) pr_X12_file.1 pr_X12_file.2 _ _ _ _ _ _ _ _ (xat_ok pr_X12_file.1 pr_X12_file.2).1 (xat_ok pr_X12_file.1 pr_X12_file.2).2.1 (xat_ok pr_X12_file.1 pr_X12_file.2).2.2 h
  · exact (List.forall_mem_cons.mpr ⟨(xent_met X (ci := 12) hT cd_X12_isFile lk_X12_258 rfl (by decide) rfl (by decide +kernel) (fun z => absurd z (by decide)) (hw_X12_isFile l D cA sA fu 0) (fun _ => ⟨by decide, fun _ => ⟨TX12, 29, rfl⟩⟩) (by constructor <;> omega) (by decide)), (List.forall_mem_cons.mpr ⟨(xent_met X (ci := 12) hT cd_X12_pagesOf lk_X12_261 rfl (by decide) rfl (by decide +kernel) (fun z => absurd z (by decide)) (hw_X12_pagesOf l D cA sA fu 0) (fun _ => ⟨by decide, fun _ => ⟨TX12, 29, rfl⟩⟩) (by constructor <;> omega) (by decide)), (List.forall_mem_cons.mpr ⟨(xent_met X (ci := 12) hT cd_X12_isOrphan lk_X12_270 rfl (by decide) rfl (by decide +kernel) (fun z => absurd z (by decide)) (hw_X12_isOrphan l D cA sA fu 0) (fun _ => ⟨by decide, fun _ => ⟨TX12, 29, rfl⟩⟩) (by constructor <;> omega) (by decide)), (List.forall_mem_cons.mpr ⟨(xent_met X (ci := 12) hT cd_X12_kindOf lk_X12_348 rfl (by decide) rfl (by decide +kernel) (fun z => absurd z (by decide)) (hw_X12_kindOf l D cA sA fu 0) (fun _ => ⟨by decide, fun _ => ⟨TX12, 29, rfl⟩⟩) (by constructor <;> omega) (by decide)), (List.forall_mem_cons.mpr ⟨(xent_met X (ci := 12) hT cd_X12_mappedOf lk_X12_368 rfl (by decide) rfl (by decide +kernel) (fun z => absurd z (by decide)) (hw_X12_mappedOf l D cA sA fu 0) (fun _ => ⟨by decide, fun _ => ⟨TX12, 29, rfl⟩⟩) (by constructor <;> omega) (by decide)), (List.forall_mem_cons.mpr ⟨(xent_met X (ci := 12) hT cd_X12_isOpen lk_X12_371 rfl (by decide) rfl (by decide +kernel) (fun z => absurd z (by decide)) (hw_X12_isOpen l D cA sA fu 0) (fun _ => ⟨by decide, fun _ => ⟨TX12, 29, rfl⟩⟩) (by constructor <;> omega) (by decide)), (fun _ h => nomatch h)⟩)⟩)⟩)⟩)⟩)⟩)
  · exact (fun _ h => nomatch h)

theorem ok_X12_file (l : Launch) (D : va_G) (cA : Nat → ClassId) (sA : Nat → Nat) (fu : Nat) (s : Nat) (x1 : Int32) (x2 : Int32) (M : xM) {rr : Int32 × xM} (h : F_X12_file fu s x1 x2 M = some rr) : xMet l D cA sA yX12_file cX12_file 3 (some .int) xG (2 + 1) 0 0 [.inr (.inr (12, some s)), .inl x1, .inl x2] M (some (.inl rr.1)) rr.2 :=
  xmet_of (by decide +kernel) (Nat.le_of_ble_eq_true rfl) (fun p e s1 m ag below meth c0 A0 ad0 Z X hn hE => wx_X12_file X hn ⟨Nat.le_refl _, Nat.le_refl _⟩ hE fu s x1 x2 M h)
theorem hw_X12_file (l : Launch) (D : va_G) (cA : Nat → ClassId) (sA : Nat → Nat) (fu : Nat) {ρ : Type} {r0 : ρ} (kd1 : Nat) : ∀ (as : List xV) (M : xM) (k : Option xV → xM → Option ρ), w_X12_file fu as M k = some r0 → ∃ v M', xMet l D cA sA yX12_file cX12_file 3 (some .int) xG (2 + 1) 0 0 as M v M' ∧ k v M' = some r0 ∧ (kd1 ≠ 2 → ∃ a as', as = .inr (.inr (12, some a)) :: as') := by
  intro as M k h
  unfold w_X12_file at h
  replace h := pR_some h
  obtain ⟨o, as1, rfl, h⟩ := h
  replace h := bd_some h
  obtain ⟨s, rfl, h⟩ := h
  replace h := pI_some h
  obtain ⟨x1, as1, rfl, h⟩ := h
  replace h := pI_some h
  obtain ⟨x2, as1, rfl, h⟩ := h
  replace h := xe_some h
  obtain ⟨rfl, h⟩ := h
  obtain ⟨p1, hp, h⟩ := Option.bind_eq_some_iff.mp h
  exact ⟨_, _, ok_X12_file l D cA sA fu s x1 x2 M hp, h, fun _ => ⟨_, _, rfl⟩⟩
theorem cd_X12_found : Cond.code yX12_found cX12_found 1 (some .int) ∈ xG := (xg 2091 (by decide +kernel) (by decide +kernel))
theorem pr_X12_found : (∀ e ∈ pX12_found, xrow cX12_found 1 kdX12 flX12 0 false RX12 e) ∧ xnext pX12_found = true := xrows (by decide +kernel)
set_option maxRecDepth 100000 in
theorem wx_X12_found (X : xCtx p R S0 m ag c0 D cA A0 sA 1 cX12_found RX12 (.code yX12_found cX12_found 1 (some .int) :: xG) 0 0) (hi : meth.name = yX12_found.name) (hroom : 6 + 2 ≤ R.frames ∧ 60 * (6 + 2) ≤ R.locals) {rr : Int32 × xM} (hE : xEnd l D cA sA cX12_found 1 (some .int) R 0 0 (some (.inl rr.1)) rr.2 p e S0 m ag below meth c0 A0 M0 ad0 Z) (fu : Nat) (s : Nat) (M : xM) (h : F_X12_found fu s M = some rr) : xWx p l e R S0 m ag below meth c0 D cA A0 sA M0 ad0 1 Z 0 0 0 0 0 [(0, .inr (.inr (12, some s)))] [] M := by
  rw [← q_X12_found fu s M] at h
  have hT : ∀ w ∈ xG, w ∈ (Cond.code yX12_found cX12_found 1 (some .int) :: xG) := fun w hw => List.mem_cons_of_mem _ hw
  refine xrun_sound (nst := 0) (isInit := false) (kd := kdX12) X (xcls_mono hT xclsG) (xpool_mono hT plX12) (fun z => by cases z) (fun idx v hf => xkoE_mono hT (koX12_ok _ (xfind_mem hf))) (xents (ca := _) ?_) (endI hE).1 (endI hE).2 (xcuts (cu := _) ?_) pr_X12_found.1 pr_X12_found.2 _ _ _ _ _ _ _ _ (xat_ok pr_X12_found.1 pr_X12_found.2).1 (xat_ok pr_X12_found.1 pr_X12_found.2).2.1 (xat_ok pr_X12_found.1 pr_X12_found.2).2.2 h
  · exact (List.forall_mem_cons.mpr ⟨(xent_met X (ci := 12) hT cd_X12_pagesKept lk_X12_274 rfl (by decide) rfl (by decide +kernel) (fun z => absurd z (by decide)) (hw_X12_pagesKept l D cA sA fu 0) (fun _ => ⟨by decide, fun _ => ⟨TX12, 29, rfl⟩⟩) (by constructor <;> omega) (by decide)), (List.forall_mem_cons.mpr ⟨(xent_met X (ci := 12) hT cd_X12_finds lk_X12_440 rfl (by decide) rfl (by decide +kernel) (fun z => absurd z (by decide)) (hw_X12_finds l D cA sA fu 0) (fun _ => ⟨by decide, fun _ => ⟨TX12, 29, rfl⟩⟩) (by constructor <;> omega) (by decide)), (fun _ h => nomatch h)⟩)⟩)
  · exact (fun _ h => nomatch h)

theorem ok_X12_found (l : Launch) (D : va_G) (cA : Nat → ClassId) (sA : Nat → Nat) (fu : Nat) (s : Nat) (M : xM) {rr : Int32 × xM} (h : F_X12_found fu s M = some rr) : xMet l D cA sA yX12_found cX12_found 1 (some .int) xG (6 + 1) 0 0 [.inr (.inr (12, some s))] M (some (.inl rr.1)) rr.2 :=
  xmet_of (by decide +kernel) (Nat.le_of_ble_eq_true rfl) (fun p e s1 m ag below meth c0 A0 ad0 Z X hn hE => wx_X12_found X hn ⟨Nat.le_refl _, Nat.le_refl _⟩ hE fu s M h)
theorem hw_X12_found (l : Launch) (D : va_G) (cA : Nat → ClassId) (sA : Nat → Nat) (fu : Nat) {ρ : Type} {r0 : ρ} (kd1 : Nat) : ∀ (as : List xV) (M : xM) (k : Option xV → xM → Option ρ), w_X12_found fu as M k = some r0 → ∃ v M', xMet l D cA sA yX12_found cX12_found 1 (some .int) xG (6 + 1) 0 0 as M v M' ∧ k v M' = some r0 ∧ (kd1 ≠ 2 → ∃ a as', as = .inr (.inr (12, some a)) :: as') := by
  intro as M k h
  unfold w_X12_found at h
  replace h := pR_some h
  obtain ⟨o, as1, rfl, h⟩ := h
  replace h := bd_some h
  obtain ⟨s, rfl, h⟩ := h
  replace h := xe_some h
  obtain ⟨rfl, h⟩ := h
  obtain ⟨p1, hp, h⟩ := Option.bind_eq_some_iff.mp h
  exact ⟨_, _, ok_X12_found l D cA sA fu s M hp, h, fun _ => ⟨_, _, rfl⟩⟩
theorem cd_X12_gain : Cond.code yX12_gain cX12_gain 2 (some .int) ∈ xG := (xg 2079 (by decide +kernel) (by decide +kernel))
theorem pr_X12_gain : (∀ e ∈ pX12_gain, xrow cX12_gain 2 kdX12 flX12 0 false RX12 e) ∧ xnext pX12_gain = true := xrows (by decide +kernel)
set_option maxRecDepth 100000 in
theorem wx_X12_gain (X : xCtx p R S0 m ag c0 D cA A0 sA 2 cX12_gain RX12 (.code yX12_gain cX12_gain 2 (some .int) :: xG) 0 0) (hi : meth.name = yX12_gain.name) (hroom : 7 + 2 ≤ R.frames ∧ 60 * (7 + 2) ≤ R.locals) {rr : Int32 × xM} (hE : xEnd l D cA sA cX12_gain 2 (some .int) R 0 0 (some (.inl rr.1)) rr.2 p e S0 m ag below meth c0 A0 M0 ad0 Z) (fu : Nat) (s : Nat) (M : xM) (h : F_X12_gain fu s M = some rr) : xWx p l e R S0 m ag below meth c0 D cA A0 sA M0 ad0 2 Z 0 0 0 0 0 [(0, .inr (.inr (12, some s)))] [] M := by
  rw [← q_X12_gain fu s M] at h
  have hT : ∀ w ∈ xG, w ∈ (Cond.code yX12_gain cX12_gain 2 (some .int) :: xG) := fun w hw => List.mem_cons_of_mem _ hw
  refine xrun_sound (nst := 0) (isInit := false) (kd := kdX12) X (xcls_mono hT xclsG) (xpool_mono hT plX12) (fun z => by cases z) (fun idx v hf => xkoE_mono hT (koX12_ok _ (xfind_mem hf))) (xents (ca := _) ?_) (endI hE).1 (endI hE).2 (xcuts (cu := _) ?_) pr_X12_gain.1 pr_X12_gain.2 _ _ _ _ _ _ _ _ (xat_ok pr_X12_gain.1 pr_X12_gain.2).1 (xat_ok pr_X12_gain.1 pr_X12_gain.2).2.1 (xat_ok pr_X12_gain.1 pr_X12_gain.2).2.2 h
  · exact (List.forall_mem_cons.mpr ⟨(xent_met X (ci := 12) hT cd_X12_wide lk_X12_255 rfl (by decide) rfl (by decide +kernel) (fun z => absurd z (by decide)) (hw_X12_wide l D cA sA fu 0) (fun _ => ⟨by decide, fun _ => ⟨TX12, 29, rfl⟩⟩) (by constructor <;> omega) (by decide)), (List.forall_mem_cons.mpr ⟨(xent_met X (ci := 12) hT cd_X12_tally lk_X12_329 rfl (by decide) rfl (by decide +kernel) (fun z => absurd z (by decide)) (hw_X12_tally l D cA sA fu 0) (fun _ => ⟨by decide, fun _ => ⟨TX12, 29, rfl⟩⟩) (by constructor <;> omega) (by decide)), (List.forall_mem_cons.mpr ⟨(xent_met X (ci := 12) hT cd_X12_pickOf lk_X12_333 rfl (by decide) rfl (by decide +kernel) (fun z => absurd z (by decide)) (hw_X12_pickOf l D cA sA fu 0) (fun _ => ⟨by decide, fun _ => ⟨TX12, 29, rfl⟩⟩) (by constructor <;> omega) (by decide)), (fun _ h => nomatch h)⟩)⟩)⟩)
  · exact (fun _ h => nomatch h)

theorem ok_X12_gain (l : Launch) (D : va_G) (cA : Nat → ClassId) (sA : Nat → Nat) (fu : Nat) (s : Nat) (M : xM) {rr : Int32 × xM} (h : F_X12_gain fu s M = some rr) : xMet l D cA sA yX12_gain cX12_gain 2 (some .int) xG (7 + 1) 0 0 [.inr (.inr (12, some s))] M (some (.inl rr.1)) rr.2 :=
  xmet_of (by decide +kernel) (Nat.le_of_ble_eq_true rfl) (fun p e s1 m ag below meth c0 A0 ad0 Z X hn hE => wx_X12_gain X hn ⟨Nat.le_refl _, Nat.le_refl _⟩ hE fu s M h)
theorem hw_X12_gain (l : Launch) (D : va_G) (cA : Nat → ClassId) (sA : Nat → Nat) (fu : Nat) {ρ : Type} {r0 : ρ} (kd1 : Nat) : ∀ (as : List xV) (M : xM) (k : Option xV → xM → Option ρ), w_X12_gain fu as M k = some r0 → ∃ v M', xMet l D cA sA yX12_gain cX12_gain 2 (some .int) xG (7 + 1) 0 0 as M v M' ∧ k v M' = some r0 ∧ (kd1 ≠ 2 → ∃ a as', as = .inr (.inr (12, some a)) :: as') := by
  intro as M k h
  unfold w_X12_gain at h
  replace h := pR_some h
  obtain ⟨o, as1, rfl, h⟩ := h
  replace h := bd_some h
  obtain ⟨s, rfl, h⟩ := h
  replace h := xe_some h
  obtain ⟨rfl, h⟩ := h
  obtain ⟨p1, hp, h⟩ := Option.bind_eq_some_iff.mp h
  exact ⟨_, _, ok_X12_gain l D cA sA fu s M hp, h, fun _ => ⟨_, _, rfl⟩⟩
theorem cd_X12_halves : Cond.code yX12_halves cX12_halves 4 (some .int) ∈ xG := (xg 2035 (by decide +kernel) (by decide +kernel))
theorem pr_X12_halves : (∀ e ∈ pX12_halves, xrow cX12_halves 4 kdX12 flX12 0 false RX12 e) ∧ xnext pX12_halves = true := xrows (by decide +kernel)
set_option maxRecDepth 100000 in
theorem wx_X12_halves_32 (X : xCtx p R S0 m ag c0 D cA A0 sA 4 cX12_halves RX12 (.code yX12_halves cX12_halves 4 (some .int) :: xG) 0 0) (hi : meth.name = yX12_halves.name) (hroom : 12 + 2 ≤ R.frames ∧ 60 * (12 + 2) ≤ R.locals) {rr : Int32 × xM} (hE : xEnd l D cA sA cX12_halves 4 (some .int) R 0 0 (some (.inl rr.1)) rr.2 p e S0 m ag below meth c0 A0 M0 ad0 Z) (fu : Nat) (k13 : Nat → Int32 → Int32 → xM → Option (Int32 × xM)) (hk13 : ∀ (s : Nat) (x1 : Int32) (x2 : Int32) (M : xM), k13 s x1 x2 M = some rr → xWx p l e R S0 m ag below meth c0 D cA A0 sA M0 ad0 4 Z 0 0 13 0 0 [(0, .inr (.inr (12, some s))), (1, .inl x1), (2, .inl x2)] [] M) : ∀ (n : Nat) (s : Nat) (x1 : Int32) (x2 : Int32) (x3 : Int32) (M : xM), L_X12_halves_32 fu k13 n s x1 x2 x3 M = some rr → xWx p l e R S0 m ag below meth c0 D cA A0 sA M0 ad0 4 Z 0 0 32 0 0 [(0, .inr (.inr (12, some s))), (1, .inl x1), (2, .inl x2), (3, .inl x3)] [] M := by
  intro n
  induction n with
  | zero => intro s x1 x2 x3 M h; cases h
  | succ n ih =>
    intro s x1 x2 x3 M h
    rw [← q_X12_halves_32 fu k13 n s x1 x2 x3 M] at h
    have hT : ∀ w ∈ xG, w ∈ (Cond.code yX12_halves cX12_halves 4 (some .int) :: xG) := fun w hw => List.mem_cons_of_mem _ hw
    refine xrun_sound (nst := 0) (isInit := false) (kd := kdX12) X (xcls_mono hT xclsG) (xpool_mono hT plX12) (fun z => by cases z) (fun idx v hf => xkoE_mono hT (koX12_ok _ (xfind_mem hf))) (xents (ca := _) ?_) (endI hE).1 (endI hE).2 (xcuts (cu := _) ?_) pr_X12_halves.1 pr_X12_halves.2 _ _ _ _ _ _ _ _ (xat_ok pr_X12_halves.1 pr_X12_halves.2).1 (xat_ok pr_X12_halves.1 pr_X12_halves.2).2.1 (xat_ok pr_X12_halves.1 pr_X12_halves.2).2.2 h
    · exact (List.forall_mem_cons.mpr ⟨(xent_met X (ci := 12) hT cd_X12_areSame lk_X12_424 rfl (by decide) rfl (by decide +kernel) (fun z => absurd z (by decide)) (hw_X12_areSame l D cA sA fu 2 rfl) (fun z => absurd rfl z) (by constructor <;> omega) (by decide)), (fun _ h => nomatch h)⟩)
    · refine (List.forall_mem_cons.mpr ⟨?_, (List.forall_mem_cons.mpr ⟨?_, (fun _ h => nomatch h)⟩)⟩)
      · intro bc bs ls st M h
        replace h := xz_some h
        obtain ⟨rfl, rfl, h⟩ := h
        replace h := lR_some h
        obtain ⟨o, e0, h⟩ := h
        replace h := bd_some h
        obtain ⟨s', rfl, h⟩ := h
        replace h := lI_some h
        obtain ⟨x1', e1, h⟩ := h
        replace h := lI_some h
        obtain ⟨x2', e2, h⟩ := h
        replace h := xe_some h
        obtain ⟨rfl, h⟩ := h
        exact xWx_ls (hk13 s' x1' x2' M h) (List.forall_mem_cons.mpr ⟨e0, (List.forall_mem_cons.mpr ⟨e1, (List.forall_mem_cons.mpr ⟨e2, (fun _ h => nomatch h)⟩)⟩)⟩)
      · intro bc bs ls st M h
        replace h := xz_some h
        obtain ⟨rfl, rfl, h⟩ := h
        replace h := lR_some h
        obtain ⟨o, e0, h⟩ := h
        replace h := bd_some h
        obtain ⟨s', rfl, h⟩ := h
        replace h := lI_some h
        obtain ⟨x1', e1, h⟩ := h
        replace h := lI_some h
        obtain ⟨x2', e2, h⟩ := h
        replace h := lI_some h
        obtain ⟨x3', e3, h⟩ := h
        replace h := xe_some h
        obtain ⟨rfl, h⟩ := h
        exact xWx_ls (ih s' x1' x2' x3' M h) (List.forall_mem_cons.mpr ⟨e0, (List.forall_mem_cons.mpr ⟨e1, (List.forall_mem_cons.mpr ⟨e2, (List.forall_mem_cons.mpr ⟨e3, (fun _ h => nomatch h)⟩)⟩)⟩)⟩)

set_option maxRecDepth 100000 in
theorem wx_X12_halves_13 (X : xCtx p R S0 m ag c0 D cA A0 sA 4 cX12_halves RX12 (.code yX12_halves cX12_halves 4 (some .int) :: xG) 0 0) (hi : meth.name = yX12_halves.name) (hroom : 12 + 2 ≤ R.frames ∧ 60 * (12 + 2) ≤ R.locals) {rr : Int32 × xM} (hE : xEnd l D cA sA cX12_halves 4 (some .int) R 0 0 (some (.inl rr.1)) rr.2 p e S0 m ag below meth c0 A0 M0 ad0 Z) (fu : Nat) : ∀ (n : Nat) (s : Nat) (x1 : Int32) (x2 : Int32) (M : xM), L_X12_halves_13 fu n s x1 x2 M = some rr → xWx p l e R S0 m ag below meth c0 D cA A0 sA M0 ad0 4 Z 0 0 13 0 0 [(0, .inr (.inr (12, some s))), (1, .inl x1), (2, .inl x2)] [] M := by
  intro n
  induction n with
  | zero => intro s x1 x2 M h; cases h
  | succ n ih =>
    intro s x1 x2 M h
    rw [← q_X12_halves_13 fu n s x1 x2 M] at h
    have hT : ∀ w ∈ xG, w ∈ (Cond.code yX12_halves cX12_halves 4 (some .int) :: xG) := fun w hw => List.mem_cons_of_mem _ hw
    refine xrun_sound (nst := 0) (isInit := false) (kd := kdX12) X (xcls_mono hT xclsG) (xpool_mono hT plX12) (fun z => by cases z) (fun idx v hf => xkoE_mono hT (koX12_ok _ (xfind_mem hf))) (xents (ca := _) ?_) (endI hE).1 (endI hE).2 (xcuts (cu := _) ?_) pr_X12_halves.1 pr_X12_halves.2 _ _ _ _ _ _ _ _ (xat_ok pr_X12_halves.1 pr_X12_halves.2).1 (xat_ok pr_X12_halves.1 pr_X12_halves.2).2.1 (xat_ok pr_X12_halves.1 pr_X12_halves.2).2.2 h
    · exact (fun _ h => nomatch h)
    · refine (List.forall_mem_cons.mpr ⟨?_, (fun _ h => nomatch h)⟩)
      · intro bc bs ls st M h
        replace h := xz_some h
        obtain ⟨rfl, rfl, h⟩ := h
        replace h := lR_some h
        obtain ⟨o, e0, h⟩ := h
        replace h := bd_some h
        obtain ⟨s', rfl, h⟩ := h
        replace h := lI_some h
        obtain ⟨x1', e1, h⟩ := h
        replace h := lI_some h
        obtain ⟨x2', e2, h⟩ := h
        replace h := lI_some h
        obtain ⟨x3', e3, h⟩ := h
        replace h := xe_some h
        obtain ⟨rfl, h⟩ := h
        exact xWx_ls (wx_X12_halves_32 X hi hroom hE fu _ ih fu s' x1' x2' x3' M h) (List.forall_mem_cons.mpr ⟨e0, (List.forall_mem_cons.mpr ⟨e1, (List.forall_mem_cons.mpr ⟨e2, (List.forall_mem_cons.mpr ⟨e3, (fun _ h => nomatch h)⟩)⟩)⟩)⟩)

set_option maxRecDepth 100000 in
theorem wx_X12_halves (X : xCtx p R S0 m ag c0 D cA A0 sA 4 cX12_halves RX12 (.code yX12_halves cX12_halves 4 (some .int) :: xG) 0 0) (hi : meth.name = yX12_halves.name) (hroom : 12 + 2 ≤ R.frames ∧ 60 * (12 + 2) ≤ R.locals) {rr : Int32 × xM} (hE : xEnd l D cA sA cX12_halves 4 (some .int) R 0 0 (some (.inl rr.1)) rr.2 p e S0 m ag below meth c0 A0 M0 ad0 Z) (fu : Nat) (s : Nat) (M : xM) (h : F_X12_halves fu s M = some rr) : xWx p l e R S0 m ag below meth c0 D cA A0 sA M0 ad0 4 Z 0 0 0 0 0 [(0, .inr (.inr (12, some s)))] [] M := by
  rw [← q_X12_halves fu s M] at h
  have hT : ∀ w ∈ xG, w ∈ (Cond.code yX12_halves cX12_halves 4 (some .int) :: xG) := fun w hw => List.mem_cons_of_mem _ hw
  refine xrun_sound (nst := 0) (isInit := false) (kd := kdX12) X (xcls_mono hT xclsG) (xpool_mono hT plX12) (fun z => by cases z) (fun idx v hf => xkoE_mono hT (koX12_ok _ (xfind_mem hf))) (xents (ca := _) ?_) (endI hE).1 (endI hE).2 (xcuts (cu := _) ?_) pr_X12_halves.1 pr_X12_halves.2 _ _ _ _ _ _ _ _ (xat_ok pr_X12_halves.1 pr_X12_halves.2).1 (xat_ok pr_X12_halves.1 pr_X12_halves.2).2.1 (xat_ok pr_X12_halves.1 pr_X12_halves.2).2.2 h
  · exact (List.forall_mem_cons.mpr ⟨(xent_met X (ci := 12) hT cd_X12_runs lk_X12_417 rfl (by decide) rfl (by decide +kernel) (fun z => absurd z (by decide)) (hw_X12_runs l D cA sA fu 0) (fun _ => ⟨by decide, fun _ => ⟨TX12, 29, rfl⟩⟩) (by constructor <;> omega) (by decide)), (fun _ h => nomatch h)⟩)
  · refine (List.forall_mem_cons.mpr ⟨?_, (fun _ h => nomatch h)⟩)
    · intro bc bs ls st M h
      replace h := xz_some h
      obtain ⟨rfl, rfl, h⟩ := h
      replace h := lR_some h
      obtain ⟨o, e0, h⟩ := h
      replace h := bd_some h
      obtain ⟨s', rfl, h⟩ := h
      replace h := lI_some h
      obtain ⟨x1', e1, h⟩ := h
      replace h := lI_some h
      obtain ⟨x2', e2, h⟩ := h
      replace h := xe_some h
      obtain ⟨rfl, h⟩ := h
      exact xWx_ls (wx_X12_halves_13 X hi hroom hE fu fu s' x1' x2' M h) (List.forall_mem_cons.mpr ⟨e0, (List.forall_mem_cons.mpr ⟨e1, (List.forall_mem_cons.mpr ⟨e2, (fun _ h => nomatch h)⟩)⟩)⟩)

theorem ok_X12_halves (l : Launch) (D : va_G) (cA : Nat → ClassId) (sA : Nat → Nat) (fu : Nat) (s : Nat) (M : xM) {rr : Int32 × xM} (h : F_X12_halves fu s M = some rr) : xMet l D cA sA yX12_halves cX12_halves 4 (some .int) xG (12 + 1) 0 0 [.inr (.inr (12, some s))] M (some (.inl rr.1)) rr.2 :=
  xmet_of (by decide +kernel) (Nat.le_of_ble_eq_true rfl) (fun p e s1 m ag below meth c0 A0 ad0 Z X hn hE => wx_X12_halves X hn ⟨Nat.le_refl _, Nat.le_refl _⟩ hE fu s M h)
theorem hw_X12_halves (l : Launch) (D : va_G) (cA : Nat → ClassId) (sA : Nat → Nat) (fu : Nat) {ρ : Type} {r0 : ρ} (kd1 : Nat) : ∀ (as : List xV) (M : xM) (k : Option xV → xM → Option ρ), w_X12_halves fu as M k = some r0 → ∃ v M', xMet l D cA sA yX12_halves cX12_halves 4 (some .int) xG (12 + 1) 0 0 as M v M' ∧ k v M' = some r0 ∧ (kd1 ≠ 2 → ∃ a as', as = .inr (.inr (12, some a)) :: as') := by
  intro as M k h
  unfold w_X12_halves at h
  replace h := pR_some h
  obtain ⟨o, as1, rfl, h⟩ := h
  replace h := bd_some h
  obtain ⟨s, rfl, h⟩ := h
  replace h := xe_some h
  obtain ⟨rfl, h⟩ := h
  obtain ⟨p1, hp, h⟩ := Option.bind_eq_some_iff.mp h
  exact ⟨_, _, ok_X12_halves l D cA sA fu s M hp, h, fun _ => ⟨_, _, rfl⟩⟩
theorem cd_X12_isSign : Cond.code yX12_isSign cX12_isSign 2 (some .boolean) ∈ xG := (xg 1742 (by decide +kernel) (by decide +kernel))
theorem pr_X12_isSign : (∀ e ∈ pX12_isSign, xrow cX12_isSign 2 kdX12 flX12 0 false RX12 e) ∧ xnext pX12_isSign = true := xrows (by decide +kernel)
set_option maxRecDepth 100000 in
theorem wx_X12_isSign (X : xCtx p R S0 m ag c0 D cA A0 sA 2 cX12_isSign RX12 (.code yX12_isSign cX12_isSign 2 (some .boolean) :: xG) 0 0) (hi : meth.name = yX12_isSign.name) (hroom : 0 + 2 ≤ R.frames ∧ 60 * (0 + 2) ≤ R.locals) {rr : Int32 × xM} (hE : xEnd l D cA sA cX12_isSign 2 (some .boolean) R 0 0 (some (.inl rr.1)) rr.2 p e S0 m ag below meth c0 A0 M0 ad0 Z) (fu : Nat) (s : Nat) (x1 : Int32) (M : xM) (h : F_X12_isSign fu s x1 M = some rr) : xWx p l e R S0 m ag below meth c0 D cA A0 sA M0 ad0 2 Z 0 0 0 0 0 [(0, .inr (.inr (12, some s))), (1, .inl x1)] [] M := by
  rw [← q_X12_isSign fu s x1 M] at h
  have hT : ∀ w ∈ xG, w ∈ (Cond.code yX12_isSign cX12_isSign 2 (some .boolean) :: xG) := fun w hw => List.mem_cons_of_mem _ hw
  refine xrun_sound (nst := 0) (isInit := false) (kd := kdX12) X (xcls_mono hT xclsG) (xpool_mono hT plX12) (fun z => by cases z) (fun idx v hf => xkoE_mono hT (koX12_ok _ (xfind_mem hf))) (xents (ca := _) ?_) (endZ hE).1 (endZ hE).2 (xcuts (cu := _) ?_) pr_X12_isSign.1 pr_X12_isSign.2 _ _ _ _ _ _ _ _ (xat_ok pr_X12_isSign.1 pr_X12_isSign.2).1 (xat_ok pr_X12_isSign.1 pr_X12_isSign.2).2.1 (xat_ok pr_X12_isSign.1 pr_X12_isSign.2).2.2 h
  · exact (fun _ h => nomatch h)
  · exact (fun _ h => nomatch h)

theorem ok_X12_isSign (l : Launch) (D : va_G) (cA : Nat → ClassId) (sA : Nat → Nat) (fu : Nat) (s : Nat) (x1 : Int32) (M : xM) {rr : Int32 × xM} (h : F_X12_isSign fu s x1 M = some rr) : xMet l D cA sA yX12_isSign cX12_isSign 2 (some .boolean) xG (0 + 1) 0 0 [.inr (.inr (12, some s)), .inl x1] M (some (.inl rr.1)) rr.2 :=
  xmet_of (by decide +kernel) (Nat.le_of_ble_eq_true rfl) (fun p e s1 m ag below meth c0 A0 ad0 Z X hn hE => wx_X12_isSign X hn ⟨Nat.le_refl _, Nat.le_refl _⟩ hE fu s x1 M h)
theorem hw_X12_isSign (l : Launch) (D : va_G) (cA : Nat → ClassId) (sA : Nat → Nat) (fu : Nat) {ρ : Type} {r0 : ρ} (kd1 : Nat) : ∀ (as : List xV) (M : xM) (k : Option xV → xM → Option ρ), w_X12_isSign fu as M k = some r0 → ∃ v M', xMet l D cA sA yX12_isSign cX12_isSign 2 (some .boolean) xG (0 + 1) 0 0 as M v M' ∧ k v M' = some r0 ∧ (kd1 ≠ 2 → ∃ a as', as = .inr (.inr (12, some a)) :: as') := by
  intro as M k h
  unfold w_X12_isSign at h
  replace h := pR_some h
  obtain ⟨o, as1, rfl, h⟩ := h
  replace h := bd_some h
  obtain ⟨s, rfl, h⟩ := h
  replace h := pI_some h
  obtain ⟨x1, as1, rfl, h⟩ := h
  replace h := xe_some h
  obtain ⟨rfl, h⟩ := h
  obtain ⟨p1, hp, h⟩ := Option.bind_eq_some_iff.mp h
  exact ⟨_, _, ok_X12_isSign l D cA sA fu s x1 M hp, h, fun _ => ⟨_, _, rfl⟩⟩
theorem lk_X12_159 : xLink xG RX12 159 0 yX12_isSign 1 := ⟨Or.inl (xg 1739 (by decide +kernel) (by decide +kernel)), (xg 1741 (by decide +kernel) (by decide +kernel)), (xg 62 (by decide +kernel) (by decide +kernel)), (xg 141 (by decide +kernel) (by decide +kernel)), ⟨12, by decide, TX12, 29, rfl⟩⟩
theorem cd_X12_hasSign : Cond.code yX12_hasSign cX12_hasSign 3 (some .boolean) ∈ xG := (xg 1750 (by decide +kernel) (by decide +kernel))
theorem pr_X12_hasSign : (∀ e ∈ pX12_hasSign, xrow cX12_hasSign 3 kdX12 flX12 0 false RX12 e) ∧ xnext pX12_hasSign = true := xrows (by decide +kernel)
set_option maxRecDepth 100000 in
theorem wx_X12_hasSign (X : xCtx p R S0 m ag c0 D cA A0 sA 3 cX12_hasSign RX12 (.code yX12_hasSign cX12_hasSign 3 (some .boolean) :: xG) 0 0) (hi : meth.name = yX12_hasSign.name) (hroom : 1 + 2 ≤ R.frames ∧ 60 * (1 + 2) ≤ R.locals) {rr : Int32 × xM} (hE : xEnd l D cA sA cX12_hasSign 3 (some .boolean) R 0 0 (some (.inl rr.1)) rr.2 p e S0 m ag below meth c0 A0 M0 ad0 Z) (fu : Nat) (s : Nat) (x1 : Int32) (M : xM) (h : F_X12_hasSign fu s x1 M = some rr) : xWx p l e R S0 m ag below meth c0 D cA A0 sA M0 ad0 3 Z 0 0 0 0 0 [(0, .inr (.inr (12, some s))), (1, .inl x1)] [] M := by
  rw [← q_X12_hasSign fu s x1 M] at h
  have hT : ∀ w ∈ xG, w ∈ (Cond.code yX12_hasSign cX12_hasSign 3 (some .boolean) :: xG) := fun w hw => List.mem_cons_of_mem _ hw
  refine xrun_sound (nst := 0) (isInit := false) (kd := kdX12) X (xcls_mono hT xclsG) (xpool_mono hT plX12) (fun z => by cases z) (fun idx v hf => xkoE_mono hT (koX12_ok _ (xfind_mem hf))) (xents (ca := _) ?_) (endZ hE).1 (endZ hE).2 (xcuts (cu := _) ?_) pr_X12_hasSign.1 pr_X12_hasSign.2 _ _ _ _ _ _ _ _ (xat_ok pr_X12_hasSign.1 pr_X12_hasSign.2).1 (xat_ok pr_X12_hasSign.1 pr_X12_hasSign.2).2.1 (xat_ok pr_X12_hasSign.1 pr_X12_hasSign.2).2.2 h
  · exact (List.forall_mem_cons.mpr ⟨(xent_met X (ci := 12) hT cd_X12_isSign lk_X12_159 rfl (by decide) rfl (by decide +kernel) (fun z => absurd z (by decide)) (hw_X12_isSign l D cA sA fu 0) (fun _ => ⟨by decide, fun _ => ⟨TX12, 29, rfl⟩⟩) (by constructor <;> omega) (by decide)), (fun _ h => nomatch h)⟩)
  · exact (fun _ h => nomatch h)

theorem ok_X12_hasSign (l : Launch) (D : va_G) (cA : Nat → ClassId) (sA : Nat → Nat) (fu : Nat) (s : Nat) (x1 : Int32) (M : xM) {rr : Int32 × xM} (h : F_X12_hasSign fu s x1 M = some rr) : xMet l D cA sA yX12_hasSign cX12_hasSign 3 (some .boolean) xG (1 + 1) 0 0 [.inr (.inr (12, some s)), .inl x1] M (some (.inl rr.1)) rr.2 :=
  xmet_of (by decide +kernel) (Nat.le_of_ble_eq_true rfl) (fun p e s1 m ag below meth c0 A0 ad0 Z X hn hE => wx_X12_hasSign X hn ⟨Nat.le_refl _, Nat.le_refl _⟩ hE fu s x1 M h)
theorem hw_X12_hasSign (l : Launch) (D : va_G) (cA : Nat → ClassId) (sA : Nat → Nat) (fu : Nat) {ρ : Type} {r0 : ρ} (kd1 : Nat) : ∀ (as : List xV) (M : xM) (k : Option xV → xM → Option ρ), w_X12_hasSign fu as M k = some r0 → ∃ v M', xMet l D cA sA yX12_hasSign cX12_hasSign 3 (some .boolean) xG (1 + 1) 0 0 as M v M' ∧ k v M' = some r0 ∧ (kd1 ≠ 2 → ∃ a as', as = .inr (.inr (12, some a)) :: as') := by
  intro as M k h
  unfold w_X12_hasSign at h
  replace h := pR_some h
  obtain ⟨o, as1, rfl, h⟩ := h
  replace h := bd_some h
  obtain ⟨s, rfl, h⟩ := h
  replace h := pI_some h
  obtain ⟨x1, as1, rfl, h⟩ := h
  replace h := xe_some h
  obtain ⟨rfl, h⟩ := h
  obtain ⟨p1, hp, h⟩ := Option.bind_eq_some_iff.mp h
  exact ⟨_, _, ok_X12_hasSign l D cA sA fu s x1 M hp, h, fun _ => ⟨_, _, rfl⟩⟩
theorem cd_X12_isWord : Cond.code yX12_isWord cX12_isWord 2 (some .boolean) ∈ xG := (xg 1682 (by decide +kernel) (by decide +kernel))
theorem pr_X12_isWord : (∀ e ∈ pX12_isWord, xrow cX12_isWord 2 kdX12 flX12 0 false RX12 e) ∧ xnext pX12_isWord = true := xrows (by decide +kernel)
set_option maxRecDepth 100000 in
theorem wx_X12_isWord (X : xCtx p R S0 m ag c0 D cA A0 sA 2 cX12_isWord RX12 (.code yX12_isWord cX12_isWord 2 (some .boolean) :: xG) 0 0) (hi : meth.name = yX12_isWord.name) (hroom : 0 + 2 ≤ R.frames ∧ 60 * (0 + 2) ≤ R.locals) {rr : Int32 × xM} (hE : xEnd l D cA sA cX12_isWord 2 (some .boolean) R 0 0 (some (.inl rr.1)) rr.2 p e S0 m ag below meth c0 A0 M0 ad0 Z) (fu : Nat) (s : Nat) (x1 : Int32) (M : xM) (h : F_X12_isWord fu s x1 M = some rr) : xWx p l e R S0 m ag below meth c0 D cA A0 sA M0 ad0 2 Z 0 0 0 0 0 [(0, .inr (.inr (12, some s))), (1, .inl x1)] [] M := by
  rw [← q_X12_isWord fu s x1 M] at h
  have hT : ∀ w ∈ xG, w ∈ (Cond.code yX12_isWord cX12_isWord 2 (some .boolean) :: xG) := fun w hw => List.mem_cons_of_mem _ hw
  refine xrun_sound (nst := 0) (isInit := false) (kd := kdX12) X (xcls_mono hT xclsG) (xpool_mono hT plX12) (fun z => by cases z) (fun idx v hf => xkoE_mono hT (koX12_ok _ (xfind_mem hf))) (xents (ca := _) ?_) (endZ hE).1 (endZ hE).2 (xcuts (cu := _) ?_) pr_X12_isWord.1 pr_X12_isWord.2 _ _ _ _ _ _ _ _ (xat_ok pr_X12_isWord.1 pr_X12_isWord.2).1 (xat_ok pr_X12_isWord.1 pr_X12_isWord.2).2.1 (xat_ok pr_X12_isWord.1 pr_X12_isWord.2).2.2 h
  · exact (fun _ h => nomatch h)
  · exact (fun _ h => nomatch h)

theorem ok_X12_isWord (l : Launch) (D : va_G) (cA : Nat → ClassId) (sA : Nat → Nat) (fu : Nat) (s : Nat) (x1 : Int32) (M : xM) {rr : Int32 × xM} (h : F_X12_isWord fu s x1 M = some rr) : xMet l D cA sA yX12_isWord cX12_isWord 2 (some .boolean) xG (0 + 1) 0 0 [.inr (.inr (12, some s)), .inl x1] M (some (.inl rr.1)) rr.2 :=
  xmet_of (by decide +kernel) (Nat.le_of_ble_eq_true rfl) (fun p e s1 m ag below meth c0 A0 ad0 Z X hn hE => wx_X12_isWord X hn ⟨Nat.le_refl _, Nat.le_refl _⟩ hE fu s x1 M h)
theorem hw_X12_isWord (l : Launch) (D : va_G) (cA : Nat → ClassId) (sA : Nat → Nat) (fu : Nat) {ρ : Type} {r0 : ρ} (kd1 : Nat) : ∀ (as : List xV) (M : xM) (k : Option xV → xM → Option ρ), w_X12_isWord fu as M k = some r0 → ∃ v M', xMet l D cA sA yX12_isWord cX12_isWord 2 (some .boolean) xG (0 + 1) 0 0 as M v M' ∧ k v M' = some r0 ∧ (kd1 ≠ 2 → ∃ a as', as = .inr (.inr (12, some a)) :: as') := by
  intro as M k h
  unfold w_X12_isWord at h
  replace h := pR_some h
  obtain ⟨o, as1, rfl, h⟩ := h
  replace h := bd_some h
  obtain ⟨s, rfl, h⟩ := h
  replace h := pI_some h
  obtain ⟨x1, as1, rfl, h⟩ := h
  replace h := xe_some h
  obtain ⟨rfl, h⟩ := h
  obtain ⟨p1, hp, h⟩ := Option.bind_eq_some_iff.mp h
  exact ⟨_, _, ok_X12_isWord l D cA sA fu s x1 M hp, h, fun _ => ⟨_, _, rfl⟩⟩
theorem lk_X12_165 : xLink xG RX12 165 0 yX12_isWord 1 := ⟨Or.inl (xg 1679 (by decide +kernel) (by decide +kernel)), (xg 1681 (by decide +kernel) (by decide +kernel)), (xg 47 (by decide +kernel) (by decide +kernel)), (xg 141 (by decide +kernel) (by decide +kernel)), ⟨12, by decide, TX12, 29, rfl⟩⟩
theorem cd_X12_hasWord : Cond.code yX12_hasWord cX12_hasWord 3 (some .boolean) ∈ xG := (xg 1710 (by decide +kernel) (by decide +kernel))
theorem pr_X12_hasWord : (∀ e ∈ pX12_hasWord, xrow cX12_hasWord 3 kdX12 flX12 0 false RX12 e) ∧ xnext pX12_hasWord = true := xrows (by decide +kernel)
set_option maxRecDepth 100000 in
theorem wx_X12_hasWord (X : xCtx p R S0 m ag c0 D cA A0 sA 3 cX12_hasWord RX12 (.code yX12_hasWord cX12_hasWord 3 (some .boolean) :: xG) 0 0) (hi : meth.name = yX12_hasWord.name) (hroom : 1 + 2 ≤ R.frames ∧ 60 * (1 + 2) ≤ R.locals) {rr : Int32 × xM} (hE : xEnd l D cA sA cX12_hasWord 3 (some .boolean) R 0 0 (some (.inl rr.1)) rr.2 p e S0 m ag below meth c0 A0 M0 ad0 Z) (fu : Nat) (s : Nat) (x1 : Int32) (M : xM) (h : F_X12_hasWord fu s x1 M = some rr) : xWx p l e R S0 m ag below meth c0 D cA A0 sA M0 ad0 3 Z 0 0 0 0 0 [(0, .inr (.inr (12, some s))), (1, .inl x1)] [] M := by
  rw [← q_X12_hasWord fu s x1 M] at h
  have hT : ∀ w ∈ xG, w ∈ (Cond.code yX12_hasWord cX12_hasWord 3 (some .boolean) :: xG) := fun w hw => List.mem_cons_of_mem _ hw
  refine xrun_sound (nst := 0) (isInit := false) (kd := kdX12) X (xcls_mono hT xclsG) (xpool_mono hT plX12) (fun z => by cases z) (fun idx v hf => xkoE_mono hT (koX12_ok _ (xfind_mem hf))) (xents (ca := _) ?_) (endZ hE).1 (endZ hE).2 (xcuts (cu := _) ?_) pr_X12_hasWord.1 pr_X12_hasWord.2 _ _ _ _ _ _ _ _ (xat_ok pr_X12_hasWord.1 pr_X12_hasWord.2).1 (xat_ok pr_X12_hasWord.1 pr_X12_hasWord.2).2.1 (xat_ok pr_X12_hasWord.1 pr_X12_hasWord.2).2.2 h
  · exact (List.forall_mem_cons.mpr ⟨(xent_met X (ci := 12) hT cd_X12_isWord lk_X12_165 rfl (by decide) rfl (by decide +kernel) (fun z => absurd z (by decide)) (hw_X12_isWord l D cA sA fu 0) (fun _ => ⟨by decide, fun _ => ⟨TX12, 29, rfl⟩⟩) (by constructor <;> omega) (by decide)), (fun _ h => nomatch h)⟩)
  · exact (fun _ h => nomatch h)

theorem ok_X12_hasWord (l : Launch) (D : va_G) (cA : Nat → ClassId) (sA : Nat → Nat) (fu : Nat) (s : Nat) (x1 : Int32) (M : xM) {rr : Int32 × xM} (h : F_X12_hasWord fu s x1 M = some rr) : xMet l D cA sA yX12_hasWord cX12_hasWord 3 (some .boolean) xG (1 + 1) 0 0 [.inr (.inr (12, some s)), .inl x1] M (some (.inl rr.1)) rr.2 :=
  xmet_of (by decide +kernel) (Nat.le_of_ble_eq_true rfl) (fun p e s1 m ag below meth c0 A0 ad0 Z X hn hE => wx_X12_hasWord X hn ⟨Nat.le_refl _, Nat.le_refl _⟩ hE fu s x1 M h)
theorem hw_X12_hasWord (l : Launch) (D : va_G) (cA : Nat → ClassId) (sA : Nat → Nat) (fu : Nat) {ρ : Type} {r0 : ρ} (kd1 : Nat) : ∀ (as : List xV) (M : xM) (k : Option xV → xM → Option ρ), w_X12_hasWord fu as M k = some r0 → ∃ v M', xMet l D cA sA yX12_hasWord cX12_hasWord 3 (some .boolean) xG (1 + 1) 0 0 as M v M' ∧ k v M' = some r0 ∧ (kd1 ≠ 2 → ∃ a as', as = .inr (.inr (12, some a)) :: as') := by
  intro as M k h
  unfold w_X12_hasWord at h
  replace h := pR_some h
  obtain ⟨o, as1, rfl, h⟩ := h
  replace h := bd_some h
  obtain ⟨s, rfl, h⟩ := h
  replace h := pI_some h
  obtain ⟨x1, as1, rfl, h⟩ := h
  replace h := xe_some h
  obtain ⟨rfl, h⟩ := h
  obtain ⟨p1, hp, h⟩ := Option.bind_eq_some_iff.mp h
  exact ⟨_, _, ok_X12_hasWord l D cA sA fu s x1 M hp, h, fun _ => ⟨_, _, rfl⟩⟩
theorem cd_X12_hot : Cond.code yX12_hot cX12_hot 6 (some .int) ∈ xG := (xg 2124 (by decide +kernel) (by decide +kernel))
theorem pr_X12_hot : (∀ e ∈ pX12_hot, xrow cX12_hot 6 kdX12 flX12 0 false RX12 e) ∧ xnext pX12_hot = true := xrows (by decide +kernel)
set_option maxRecDepth 100000 in
theorem wx_X12_hot_104 (X : xCtx p R S0 m ag c0 D cA A0 sA 6 cX12_hot RX12 (.code yX12_hot cX12_hot 6 (some .int) :: xG) 0 0) (hi : meth.name = yX12_hot.name) (hroom : 5 + 2 ≤ R.frames ∧ 60 * (5 + 2) ≤ R.locals) {rr : Int32 × xM} (hE : xEnd l D cA sA cX12_hot 6 (some .int) R 0 0 (some (.inl rr.1)) rr.2 p e S0 m ag below meth c0 A0 M0 ad0 Z) (fu : Nat) (k16 : Nat → Int32 → Int32 → Int32 → xM → Option (Int32 × xM)) (hk16 : ∀ (s : Nat) (x1 : Int32) (x2 : Int32) (x3 : Int32) (M : xM), k16 s x1 x2 x3 M = some rr → xWx p l e R S0 m ag below meth c0 D cA A0 sA M0 ad0 6 Z 0 0 16 0 0 [(0, .inr (.inr (12, some s))), (1, .inl x1), (2, .inl x2), (3, .inl x3)] [] M) (s : Nat) (x2 : Int32) (x3 : Int32) (x4 : Int32) (y0 : Int32) (M : xM) (h : J_X12_hot_104 fu k16 s x2 x3 x4 y0 M = some rr) : xWx p l e R S0 m ag below meth c0 D cA A0 sA M0 ad0 6 Z 0 0 104 0 0 [(0, .inr (.inr (12, some s))), (2, .inl x2), (3, .inl x3), (4, .inl x4)] [.inl y0] M := by
  rw [← q_X12_hot_104 fu k16 s x2 x3 x4 y0 M] at h
  have hT : ∀ w ∈ xG, w ∈ (Cond.code yX12_hot cX12_hot 6 (some .int) :: xG) := fun w hw => List.mem_cons_of_mem _ hw
  refine xrun_sound (nst := 0) (isInit := false) (kd := kdX12) X (xcls_mono hT xclsG) (xpool_mono hT plX12) (fun z => by cases z) (fun idx v hf => xkoE_mono hT (koX12_ok _ (xfind_mem hf))) (xents (ca := _) ?_) (endI hE).1 (endI hE).2 (xcuts (cu := _) ?_) pr_X12_hot.1 pr_X12_hot.2 _ _ _ _ _ _ _ _ (xat_ok pr_X12_hot.1 pr_X12_hot.2).1 (xat_ok pr_X12_hot.1 pr_X12_hot.2).2.1 (xat_ok pr_X12_hot.1 pr_X12_hot.2).2.2 h
  · exact (fun _ h => nomatch h)
  · refine (List.forall_mem_cons.mpr ⟨?_, (fun _ h => nomatch h)⟩)
    · intro bc bs ls st M h
      replace h := xz_some h
      obtain ⟨rfl, rfl, h⟩ := h
      replace h := lR_some h
      obtain ⟨o, e0, h⟩ := h
      replace h := bd_some h
      obtain ⟨s', rfl, h⟩ := h
      replace h := lI_some h
      obtain ⟨x1', e1, h⟩ := h
      replace h := lI_some h
      obtain ⟨x2', e2, h⟩ := h
      replace h := lI_some h
      obtain ⟨x3', e3, h⟩ := h
      replace h := xe_some h
      obtain ⟨rfl, h⟩ := h
      exact xWx_ls (hk16 s' x1' x2' x3' M h) (List.forall_mem_cons.mpr ⟨e0, (List.forall_mem_cons.mpr ⟨e1, (List.forall_mem_cons.mpr ⟨e2, (List.forall_mem_cons.mpr ⟨e3, (fun _ h => nomatch h)⟩)⟩)⟩)⟩)

set_option maxRecDepth 100000 in
theorem wx_X12_hot_30 (X : xCtx p R S0 m ag c0 D cA A0 sA 6 cX12_hot RX12 (.code yX12_hot cX12_hot 6 (some .int) :: xG) 0 0) (hi : meth.name = yX12_hot.name) (hroom : 5 + 2 ≤ R.frames ∧ 60 * (5 + 2) ≤ R.locals) {rr : Int32 × xM} (hE : xEnd l D cA sA cX12_hot 6 (some .int) R 0 0 (some (.inl rr.1)) rr.2 p e S0 m ag below meth c0 A0 M0 ad0 Z) (fu : Nat) (k16 : Nat → Int32 → Int32 → Int32 → xM → Option (Int32 × xM)) (hk16 : ∀ (s : Nat) (x1 : Int32) (x2 : Int32) (x3 : Int32) (M : xM), k16 s x1 x2 x3 M = some rr → xWx p l e R S0 m ag below meth c0 D cA A0 sA M0 ad0 6 Z 0 0 16 0 0 [(0, .inr (.inr (12, some s))), (1, .inl x1), (2, .inl x2), (3, .inl x3)] [] M) : ∀ (n : Nat) (s : Nat) (x1 : Int32) (x2 : Int32) (x3 : Int32) (x4 : Int32) (x5 : Int32) (M : xM), L_X12_hot_30 fu k16 n s x1 x2 x3 x4 x5 M = some rr → xWx p l e R S0 m ag below meth c0 D cA A0 sA M0 ad0 6 Z 0 0 30 0 0 [(0, .inr (.inr (12, some s))), (1, .inl x1), (2, .inl x2), (3, .inl x3), (4, .inl x4), (5, .inl x5)] [] M := by
  intro n
  induction n with
  | zero => intro s x1 x2 x3 x4 x5 M h; cases h
  | succ n ih =>
    intro s x1 x2 x3 x4 x5 M h
    rw [← q_X12_hot_30 fu k16 n s x1 x2 x3 x4 x5 M] at h
    have hT : ∀ w ∈ xG, w ∈ (Cond.code yX12_hot cX12_hot 6 (some .int) :: xG) := fun w hw => List.mem_cons_of_mem _ hw
    refine xrun_sound (nst := 0) (isInit := false) (kd := kdX12) X (xcls_mono hT xclsG) (xpool_mono hT plX12) (fun z => by cases z) (fun idx v hf => xkoE_mono hT (koX12_ok _ (xfind_mem hf))) (xents (ca := _) ?_) (endI hE).1 (endI hE).2 (xcuts (cu := _) ?_) pr_X12_hot.1 pr_X12_hot.2 _ _ _ _ _ _ _ _ (xat_ok pr_X12_hot.1 pr_X12_hot.2).1 (xat_ok pr_X12_hot.1 pr_X12_hot.2).2.1 (xat_ok pr_X12_hot.1 pr_X12_hot.2).2.2 h
    · exact (List.forall_mem_cons.mpr ⟨(xent_met X (ci := 12) hT cd_X12_slotAt lk_X12_264 rfl (by decide) rfl (by decide +kernel) (fun z => absurd z (by decide)) (hw_X12_slotAt l D cA sA fu 2 rfl) (fun z => absurd rfl z) (by constructor <;> omega) (by decide)), (List.forall_mem_cons.mpr ⟨(xent_met X (ci := 12) hT cd_X12_allSlots lk_X12_277 rfl (by decide) rfl (by decide +kernel) (fun z => absurd z (by decide)) (hw_X12_allSlots l D cA sA fu 0) (fun _ => ⟨by decide, fun _ => ⟨TX12, 29, rfl⟩⟩) (by constructor <;> omega) (by decide)), (List.forall_mem_cons.mpr ⟨(xent_met X (ci := 12) hT cd_X12_typeOf lk_X12_290 rfl (by decide) rfl (by decide +kernel) (fun z => absurd z (by decide)) (hw_X12_typeOf l D cA sA fu 0) (fun _ => ⟨by decide, fun _ => ⟨TX12, 29, rfl⟩⟩) (by constructor <;> omega) (by decide)), (List.forall_mem_cons.mpr ⟨(xent_met X (ci := 12) hT cd_X12_isLive lk_X12_308 rfl (by decide) rfl (by decide +kernel) (fun z => absurd z (by decide)) (hw_X12_isLive l D cA sA fu 0) (fun _ => ⟨by decide, fun _ => ⟨TX12, 29, rfl⟩⟩) (by constructor <;> omega) (by decide)), (fun _ h => nomatch h)⟩)⟩)⟩)⟩)
    · refine (List.forall_mem_cons.mpr ⟨?_, (List.forall_mem_cons.mpr ⟨?_, (fun _ h => nomatch h)⟩)⟩)
      · intro bc bs ls st M h
        replace h := xz_some h
        obtain ⟨rfl, rfl, h⟩ := h
        replace h := lR_some h
        obtain ⟨o, e0, h⟩ := h
        replace h := bd_some h
        obtain ⟨s', rfl, h⟩ := h
        replace h := lI_some h
        obtain ⟨x1', e1, h⟩ := h
        replace h := lI_some h
        obtain ⟨x2', e2, h⟩ := h
        replace h := lI_some h
        obtain ⟨x3', e3, h⟩ := h
        replace h := lI_some h
        obtain ⟨x4', e4, h⟩ := h
        replace h := lI_some h
        obtain ⟨x5', e5, h⟩ := h
        replace h := xe_some h
        obtain ⟨rfl, h⟩ := h
        exact xWx_ls (ih s' x1' x2' x3' x4' x5' M h) (List.forall_mem_cons.mpr ⟨e0, (List.forall_mem_cons.mpr ⟨e1, (List.forall_mem_cons.mpr ⟨e2, (List.forall_mem_cons.mpr ⟨e3, (List.forall_mem_cons.mpr ⟨e4, (List.forall_mem_cons.mpr ⟨e5, (fun _ h => nomatch h)⟩)⟩)⟩)⟩)⟩)⟩)
      · intro bc bs ls st M h
        replace h := xz_some h
        obtain ⟨rfl, rfl, h⟩ := h
        replace h := lR_some h
        obtain ⟨o, e0, h⟩ := h
        replace h := bd_some h
        obtain ⟨s', rfl, h⟩ := h
        replace h := lI_some h
        obtain ⟨x2', e2, h⟩ := h
        replace h := lI_some h
        obtain ⟨x3', e3, h⟩ := h
        replace h := lI_some h
        obtain ⟨x4', e4, h⟩ := h
        replace h := pI_some h
        obtain ⟨y0', st, rfl, h⟩ := h
        replace h := xe_some h
        obtain ⟨rfl, h⟩ := h
        exact xWx_ls (wx_X12_hot_104 X hi hroom hE fu k16 hk16 s' x2' x3' x4' y0' M h) (List.forall_mem_cons.mpr ⟨e0, (List.forall_mem_cons.mpr ⟨e2, (List.forall_mem_cons.mpr ⟨e3, (List.forall_mem_cons.mpr ⟨e4, (fun _ h => nomatch h)⟩)⟩)⟩)⟩)

set_option maxRecDepth 100000 in
theorem wx_X12_hot_16 (X : xCtx p R S0 m ag c0 D cA A0 sA 6 cX12_hot RX12 (.code yX12_hot cX12_hot 6 (some .int) :: xG) 0 0) (hi : meth.name = yX12_hot.name) (hroom : 5 + 2 ≤ R.frames ∧ 60 * (5 + 2) ≤ R.locals) {rr : Int32 × xM} (hE : xEnd l D cA sA cX12_hot 6 (some .int) R 0 0 (some (.inl rr.1)) rr.2 p e S0 m ag below meth c0 A0 M0 ad0 Z) (fu : Nat) : ∀ (n : Nat) (s : Nat) (x1 : Int32) (x2 : Int32) (x3 : Int32) (M : xM), L_X12_hot_16 fu n s x1 x2 x3 M = some rr → xWx p l e R S0 m ag below meth c0 D cA A0 sA M0 ad0 6 Z 0 0 16 0 0 [(0, .inr (.inr (12, some s))), (1, .inl x1), (2, .inl x2), (3, .inl x3)] [] M := by
  intro n
  induction n with
  | zero => intro s x1 x2 x3 M h; cases h
  | succ n ih =>
    intro s x1 x2 x3 M h
    rw [← q_X12_hot_16 fu n s x1 x2 x3 M] at h
    have hT : ∀ w ∈ xG, w ∈ (Cond.code yX12_hot cX12_hot 6 (some .int) :: xG) := fun w hw => List.mem_cons_of_mem _ hw
    refine xrun_sound (nst := 0) (isInit := false) (kd := kdX12) X (xcls_mono hT xclsG) (xpool_mono hT plX12) (fun z => by cases z) (fun idx v hf => xkoE_mono hT (koX12_ok _ (xfind_mem hf))) (xents (ca := _) ?_) (endI hE).1 (endI hE).2 (xcuts (cu := _) ?_) pr_X12_hot.1 pr_X12_hot.2 _ _ _ _ _ _ _ _ (xat_ok pr_X12_hot.1 pr_X12_hot.2).1 (xat_ok pr_X12_hot.1 pr_X12_hot.2).2.1 (xat_ok pr_X12_hot.1 pr_X12_hot.2).2.2 h
    · exact (List.forall_mem_cons.mpr ⟨(xent_met X (ci := 12) hT cd_X12_files lk_X12_223 rfl (by decide) rfl (by decide +kernel) (fun z => absurd z (by decide)) (hw_X12_files l D cA sA fu 0) (fun _ => ⟨by decide, fun _ => ⟨TX12, 29, rfl⟩⟩) (by constructor <;> omega) (by decide)), (fun _ h => nomatch h)⟩)
    · refine (List.forall_mem_cons.mpr ⟨?_, (fun _ h => nomatch h)⟩)
      · intro bc bs ls st M h
        replace h := xz_some h
        obtain ⟨rfl, rfl, h⟩ := h
        replace h := lR_some h
        obtain ⟨o, e0, h⟩ := h
        replace h := bd_some h
        obtain ⟨s', rfl, h⟩ := h
        replace h := lI_some h
        obtain ⟨x1', e1, h⟩ := h
        replace h := lI_some h
        obtain ⟨x2', e2, h⟩ := h
        replace h := lI_some h
        obtain ⟨x3', e3, h⟩ := h
        replace h := lI_some h
        obtain ⟨x4', e4, h⟩ := h
        replace h := lI_some h
        obtain ⟨x5', e5, h⟩ := h
        replace h := xe_some h
        obtain ⟨rfl, h⟩ := h
        exact xWx_ls (wx_X12_hot_30 X hi hroom hE fu _ ih fu s' x1' x2' x3' x4' x5' M h) (List.forall_mem_cons.mpr ⟨e0, (List.forall_mem_cons.mpr ⟨e1, (List.forall_mem_cons.mpr ⟨e2, (List.forall_mem_cons.mpr ⟨e3, (List.forall_mem_cons.mpr ⟨e4, (List.forall_mem_cons.mpr ⟨e5, (fun _ h => nomatch h)⟩)⟩)⟩)⟩)⟩)⟩)

set_option maxRecDepth 100000 in
theorem wx_X12_hot (X : xCtx p R S0 m ag c0 D cA A0 sA 6 cX12_hot RX12 (.code yX12_hot cX12_hot 6 (some .int) :: xG) 0 0) (hi : meth.name = yX12_hot.name) (hroom : 5 + 2 ≤ R.frames ∧ 60 * (5 + 2) ≤ R.locals) {rr : Int32 × xM} (hE : xEnd l D cA sA cX12_hot 6 (some .int) R 0 0 (some (.inl rr.1)) rr.2 p e S0 m ag below meth c0 A0 M0 ad0 Z) (fu : Nat) (s : Nat) (M : xM) (h : F_X12_hot fu s M = some rr) : xWx p l e R S0 m ag below meth c0 D cA A0 sA M0 ad0 6 Z 0 0 0 0 0 [(0, .inr (.inr (12, some s)))] [] M := by
  rw [← q_X12_hot fu s M] at h
  have hT : ∀ w ∈ xG, w ∈ (Cond.code yX12_hot cX12_hot 6 (some .int) :: xG) := fun w hw => List.mem_cons_of_mem _ hw
  refine xrun_sound (nst := 0) (isInit := false) (kd := kdX12) X (xcls_mono hT xclsG) (xpool_mono hT plX12) (fun z => by cases z) (fun idx v hf => xkoE_mono hT (koX12_ok _ (xfind_mem hf))) (xents (ca := _) ?_) (endI hE).1 (endI hE).2 (xcuts (cu := _) ?_) pr_X12_hot.1 pr_X12_hot.2 _ _ _ _ _ _ _ _ (xat_ok pr_X12_hot.1 pr_X12_hot.2).1 (xat_ok pr_X12_hot.1 pr_X12_hot.2).2.1 (xat_ok pr_X12_hot.1 pr_X12_hot.2).2.2 h
  · exact (List.forall_mem_cons.mpr ⟨(xent_met X (ci := 12) hT cd_X12_looks lk_X12_305 rfl (by decide) rfl (by decide +kernel) (fun z => absurd z (by decide)) (hw_X12_looks l D cA sA fu 0) (fun _ => ⟨by decide, fun _ => ⟨TX12, 29, rfl⟩⟩) (by constructor <;> omega) (by decide)), (fun _ h => nomatch h)⟩)
  · refine (List.forall_mem_cons.mpr ⟨?_, (fun _ h => nomatch h)⟩)
    · intro bc bs ls st M h
      replace h := xz_some h
      obtain ⟨rfl, rfl, h⟩ := h
      replace h := lR_some h
      obtain ⟨o, e0, h⟩ := h
      replace h := bd_some h
      obtain ⟨s', rfl, h⟩ := h
      replace h := lI_some h
      obtain ⟨x1', e1, h⟩ := h
      replace h := lI_some h
      obtain ⟨x2', e2, h⟩ := h
      replace h := lI_some h
      obtain ⟨x3', e3, h⟩ := h
      replace h := xe_some h
      obtain ⟨rfl, h⟩ := h
      exact xWx_ls (wx_X12_hot_16 X hi hroom hE fu fu s' x1' x2' x3' M h) (List.forall_mem_cons.mpr ⟨e0, (List.forall_mem_cons.mpr ⟨e1, (List.forall_mem_cons.mpr ⟨e2, (List.forall_mem_cons.mpr ⟨e3, (fun _ h => nomatch h)⟩)⟩)⟩)⟩)

theorem ok_X12_hot (l : Launch) (D : va_G) (cA : Nat → ClassId) (sA : Nat → Nat) (fu : Nat) (s : Nat) (M : xM) {rr : Int32 × xM} (h : F_X12_hot fu s M = some rr) : xMet l D cA sA yX12_hot cX12_hot 6 (some .int) xG (5 + 1) 0 0 [.inr (.inr (12, some s))] M (some (.inl rr.1)) rr.2 :=
  xmet_of (by decide +kernel) (Nat.le_of_ble_eq_true rfl) (fun p e s1 m ag below meth c0 A0 ad0 Z X hn hE => wx_X12_hot X hn ⟨Nat.le_refl _, Nat.le_refl _⟩ hE fu s M h)
theorem hw_X12_hot (l : Launch) (D : va_G) (cA : Nat → ClassId) (sA : Nat → Nat) (fu : Nat) {ρ : Type} {r0 : ρ} (kd1 : Nat) : ∀ (as : List xV) (M : xM) (k : Option xV → xM → Option ρ), w_X12_hot fu as M k = some r0 → ∃ v M', xMet l D cA sA yX12_hot cX12_hot 6 (some .int) xG (5 + 1) 0 0 as M v M' ∧ k v M' = some r0 ∧ (kd1 ≠ 2 → ∃ a as', as = .inr (.inr (12, some a)) :: as') := by
  intro as M k h
  unfold w_X12_hot at h
  replace h := pR_some h
  obtain ⟨o, as1, rfl, h⟩ := h
  replace h := bd_some h
  obtain ⟨s, rfl, h⟩ := h
  replace h := xe_some h
  obtain ⟨rfl, h⟩ := h
  obtain ⟨p1, hp, h⟩ := Option.bind_eq_some_iff.mp h
  exact ⟨_, _, ok_X12_hot l D cA sA fu s M hp, h, fun _ => ⟨_, _, rfl⟩⟩
theorem cd_X12_standsAsAlways : Cond.code yX12_standsAsAlways cX12_standsAsAlways 3 none ∈ xG := (xg 1551 (by decide +kernel) (by decide +kernel))
theorem pr_X12_standsAsAlways : (∀ e ∈ pX12_standsAsAlways, xrow cX12_standsAsAlways 3 kdX12 flX12 0 false RX12 e) ∧ xnext pX12_standsAsAlways = true := xrows (by decide +kernel)
set_option maxRecDepth 100000 in
theorem wx_X12_standsAsAlways_2 (X : xCtx p R S0 m ag c0 D cA A0 sA 3 cX12_standsAsAlways RX12 (.code yX12_standsAsAlways cX12_standsAsAlways 3 none :: xG) 0 0) (hi : meth.name = yX12_standsAsAlways.name) (hroom : 0 + 2 ≤ R.frames ∧ 60 * (0 + 2) ≤ R.locals) {rr : xM} (hE : xEnd l D cA sA cX12_standsAsAlways 3 none R 0 0 none rr p e S0 m ag below meth c0 A0 M0 ad0 Z) (fu : Nat) : ∀ (n : Nat) (s : Nat) (x1 : Int32) (x2 : Int32) (M : xM), L_X12_standsAsAlways_2 fu n s x1 x2 M = some rr → xWx p l e R S0 m ag below meth c0 D cA A0 sA M0 ad0 3 Z 0 0 2 0 0 [(0, .inr (.inr (12, some s))), (1, .inl x1), (2, .inl x2)] [] M := by
  intro n
  induction n with
  | zero => intro s x1 x2 M h; cases h
  | succ n ih =>
    intro s x1 x2 M h
    rw [← q_X12_standsAsAlways_2 fu n s x1 x2 M] at h
    have hT : ∀ w ∈ xG, w ∈ (Cond.code yX12_standsAsAlways cX12_standsAsAlways 3 none :: xG) := fun w hw => List.mem_cons_of_mem _ hw
    refine xrun_sound (nst := 0) (isInit := false) (kd := kdX12) X (xcls_mono hT xclsG) (xpool_mono hT plX12) (fun z => by cases z) (fun idx v hf => xkoE_mono hT (koX12_ok _ (xfind_mem hf))) (xents (ca := _) ?_) (endV hE).1 (endV hE).2 (xcuts (cu := _) ?_) pr_X12_standsAsAlways.1 pr_X12_standsAsAlways.2 _ _ _ _ _ _ _ _ (xat_ok pr_X12_standsAsAlways.1 pr_X12_standsAsAlways.2).1 (xat_ok pr_X12_standsAsAlways.1 pr_X12_standsAsAlways.2).2.1 (xat_ok pr_X12_standsAsAlways.1 pr_X12_standsAsAlways.2).2.2 h
    · exact (fun _ h => nomatch h)
    · refine (List.forall_mem_cons.mpr ⟨?_, (fun _ h => nomatch h)⟩)
      · intro bc bs ls st M h
        replace h := xz_some h
        obtain ⟨rfl, rfl, h⟩ := h
        replace h := lR_some h
        obtain ⟨o, e0, h⟩ := h
        replace h := bd_some h
        obtain ⟨s', rfl, h⟩ := h
        replace h := lI_some h
        obtain ⟨x1', e1, h⟩ := h
        replace h := lI_some h
        obtain ⟨x2', e2, h⟩ := h
        replace h := xe_some h
        obtain ⟨rfl, h⟩ := h
        exact xWx_ls (ih s' x1' x2' M h) (List.forall_mem_cons.mpr ⟨e0, (List.forall_mem_cons.mpr ⟨e1, (List.forall_mem_cons.mpr ⟨e2, (fun _ h => nomatch h)⟩)⟩)⟩)

set_option maxRecDepth 100000 in
theorem wx_X12_standsAsAlways (X : xCtx p R S0 m ag c0 D cA A0 sA 3 cX12_standsAsAlways RX12 (.code yX12_standsAsAlways cX12_standsAsAlways 3 none :: xG) 0 0) (hi : meth.name = yX12_standsAsAlways.name) (hroom : 0 + 2 ≤ R.frames ∧ 60 * (0 + 2) ≤ R.locals) {rr : xM} (hE : xEnd l D cA sA cX12_standsAsAlways 3 none R 0 0 none rr p e S0 m ag below meth c0 A0 M0 ad0 Z) (fu : Nat) (s : Nat) (x1 : Int32) (M : xM) (h : F_X12_standsAsAlways fu s x1 M = some rr) : xWx p l e R S0 m ag below meth c0 D cA A0 sA M0 ad0 3 Z 0 0 0 0 0 [(0, .inr (.inr (12, some s))), (1, .inl x1)] [] M := by
  rw [← q_X12_standsAsAlways fu s x1 M] at h
  have hT : ∀ w ∈ xG, w ∈ (Cond.code yX12_standsAsAlways cX12_standsAsAlways 3 none :: xG) := fun w hw => List.mem_cons_of_mem _ hw
  refine xrun_sound (nst := 0) (isInit := false) (kd := kdX12) X (xcls_mono hT xclsG) (xpool_mono hT plX12) (fun z => by cases z) (fun idx v hf => xkoE_mono hT (koX12_ok _ (xfind_mem hf))) (xents (ca := _) ?_) (endV hE).1 (endV hE).2 (xcuts (cu := _) ?_) pr_X12_standsAsAlways.1 pr_X12_standsAsAlways.2 _ _ _ _ _ _ _ _ (xat_ok pr_X12_standsAsAlways.1 pr_X12_standsAsAlways.2).1 (xat_ok pr_X12_standsAsAlways.1 pr_X12_standsAsAlways.2).2.1 (xat_ok pr_X12_standsAsAlways.1 pr_X12_standsAsAlways.2).2.2 h
  · exact (fun _ h => nomatch h)
  · refine (List.forall_mem_cons.mpr ⟨?_, (fun _ h => nomatch h)⟩)
    · intro bc bs ls st M h
      replace h := xz_some h
      obtain ⟨rfl, rfl, h⟩ := h
      replace h := lR_some h
      obtain ⟨o, e0, h⟩ := h
      replace h := bd_some h
      obtain ⟨s', rfl, h⟩ := h
      replace h := lI_some h
      obtain ⟨x1', e1, h⟩ := h
      replace h := lI_some h
      obtain ⟨x2', e2, h⟩ := h
      replace h := xe_some h
      obtain ⟨rfl, h⟩ := h
      exact xWx_ls (wx_X12_standsAsAlways_2 X hi hroom hE fu fu s' x1' x2' M h) (List.forall_mem_cons.mpr ⟨e0, (List.forall_mem_cons.mpr ⟨e1, (List.forall_mem_cons.mpr ⟨e2, (fun _ h => nomatch h)⟩)⟩)⟩)

theorem ok_X12_standsAsAlways (l : Launch) (D : va_G) (cA : Nat → ClassId) (sA : Nat → Nat) (fu : Nat) (s : Nat) (x1 : Int32) (M : xM) {rr : xM} (h : F_X12_standsAsAlways fu s x1 M = some rr) : xMet l D cA sA yX12_standsAsAlways cX12_standsAsAlways 3 none xG (0 + 1) 0 0 [.inr (.inr (12, some s)), .inl x1] M none rr :=
  xmet_of (by decide +kernel) (Nat.le_of_ble_eq_true rfl) (fun p e s1 m ag below meth c0 A0 ad0 Z X hn hE => wx_X12_standsAsAlways X hn ⟨Nat.le_refl _, Nat.le_refl _⟩ hE fu s x1 M h)
theorem hw_X12_standsAsAlways (l : Launch) (D : va_G) (cA : Nat → ClassId) (sA : Nat → Nat) (fu : Nat) {ρ : Type} {r0 : ρ} (kd1 : Nat) : ∀ (as : List xV) (M : xM) (k : Option xV → xM → Option ρ), w_X12_standsAsAlways fu as M k = some r0 → ∃ v M', xMet l D cA sA yX12_standsAsAlways cX12_standsAsAlways 3 none xG (0 + 1) 0 0 as M v M' ∧ k v M' = some r0 ∧ (kd1 ≠ 2 → ∃ a as', as = .inr (.inr (12, some a)) :: as') := by
  intro as M k h
  unfold w_X12_standsAsAlways at h
  replace h := pR_some h
  obtain ⟨o, as1, rfl, h⟩ := h
  replace h := bd_some h
  obtain ⟨s, rfl, h⟩ := h
  replace h := pI_some h
  obtain ⟨x1, as1, rfl, h⟩ := h
  replace h := xe_some h
  obtain ⟨rfl, h⟩ := h
  obtain ⟨p1, hp, h⟩ := Option.bind_eq_some_iff.mp h
  exact ⟨_, _, ok_X12_standsAsAlways l D cA sA fu s x1 M hp, h, fun _ => ⟨_, _, rfl⟩⟩
theorem lk_X12_123 : xLink xG RX12 123 0 yX12_standsAsAlways 1 := ⟨Or.inl (xg 1548 (by decide +kernel) (by decide +kernel)), (xg 1550 (by decide +kernel) (by decide +kernel)), (xg 41 (by decide +kernel) (by decide +kernel)), (xg 141 (by decide +kernel) (by decide +kernel)), ⟨12, by decide, TX12, 29, rfl⟩⟩
theorem lk_X12_127 : xLink xG RX12 127 0 yX12_begins 0 := ⟨Or.inl (xg 1552 (by decide +kernel) (by decide +kernel)), (xg 1554 (by decide +kernel) (by decide +kernel)), (xg 42 (by decide +kernel) (by decide +kernel)), (xg 141 (by decide +kernel) (by decide +kernel)), ⟨12, by decide, TX12, 29, rfl⟩⟩
theorem cd_X12_init : Cond.code yX12_init cX12_init 1 none ∈ xG := (xg 1523 (by decide +kernel) (by decide +kernel))
theorem pr_X12_init : (∀ e ∈ pX12_init, xrow cX12_init 1 kdX12 flX12 0 true RX12 e) ∧ xnext pX12_init = true := xrows (by decide +kernel)
set_option maxRecDepth 100000 in
theorem wx_X12_init (X : xCtx p R S0 m ag c0 D cA A0 sA 1 cX12_init RX12 (.code yX12_init cX12_init 1 none :: xG) 18 10497) (hi : meth.name = yX12_init.name) (hroom : 2 + 2 ≤ R.frames ∧ 60 * (2 + 2) ≤ R.locals) {rr : xM} (hE : xEnd l D cA sA cX12_init 1 none R 18 10497 none rr p e S0 m ag below meth c0 A0 M0 ad0 Z) (fu : Nat) (s : Nat) (M : xM) (h : F_X12_init fu s M = some rr) : xWx p l e R S0 m ag below meth c0 D cA A0 sA M0 ad0 1 Z 18 10497 0 18 10497 [(0, .inr (.inr (12, some s)))] [] M := by
  rw [← q_X12_init fu s M] at h
  have hT : ∀ w ∈ xG, w ∈ (Cond.code yX12_init cX12_init 1 none :: xG) := fun w hw => List.mem_cons_of_mem _ hw
  refine xrun_sound (nst := 0) (isInit := true) (kd := kdX12) X (xcls_mono hT xclsG) (xpool_mono hT plX12) (fun _ => hi) (fun idx v hf => xkoE_mono hT (koX12_ok _ (xfind_mem hf))) (xents (ca := _) ?_) (endV hE).1 (endV hE).2 (xcuts (cu := _) ?_) pr_X12_init.1 pr_X12_init.2 _ _ _ _ _ _ _ _ (xat_ok pr_X12_init.1 pr_X12_init.2).1 (xat_ok pr_X12_init.1 pr_X12_init.2).2.1 (xat_ok pr_X12_init.1 pr_X12_init.2).2.2 h
  · exact (List.forall_mem_cons.mpr ⟨(xent_objInit X hT (xg 1524 (by decide +kernel) (by decide +kernel)) (xg 159 (by decide +kernel) (by decide +kernel)) (xg 160 (by decide +kernel) (by decide +kernel)) rfl), (List.forall_mem_cons.mpr ⟨(xent_met X (ci := 12) hT cd_X12_standsAsAlways lk_X12_123 rfl (by decide) rfl (by decide +kernel) (fun z => absurd z (by decide)) (hw_X12_standsAsAlways l D cA sA fu 0) (fun _ => ⟨by decide, fun _ => ⟨TX12, 29, rfl⟩⟩) (by constructor <;> omega) (by decide)), (List.forall_mem_cons.mpr ⟨(xent_met X (ci := 12) hT cd_X12_begins lk_X12_127 rfl (by decide) rfl (by decide +kernel) (fun z => absurd z (by decide)) (hw_X12_begins l D cA sA fu 0) (fun _ => ⟨by decide, fun _ => ⟨TX12, 29, rfl⟩⟩) (by constructor <;> omega) (by decide)), (fun _ h => nomatch h)⟩)⟩)⟩)
  · exact (fun _ h => nomatch h)

theorem ok_X12_init (l : Launch) (D : va_G) (cA : Nat → ClassId) (sA : Nat → Nat) (fu : Nat) (s : Nat) (M : xM) {rr : xM} (h : F_X12_init fu s M = some rr) : xMet l D cA sA yX12_init cX12_init 1 none xG (2 + 1) 18 10497 [.inr (.inr (12, some s))] M none rr :=
  xmet_of (by decide +kernel) (Nat.le_of_ble_eq_true rfl) (fun p e s1 m ag below meth c0 A0 ad0 Z X hn hE => wx_X12_init X hn ⟨Nat.le_refl _, Nat.le_refl _⟩ hE fu s M h)
theorem hw_X12_init (l : Launch) (D : va_G) (cA : Nat → ClassId) (sA : Nat → Nat) (fu : Nat) {ρ : Type} {r0 : ρ} (kd1 : Nat) : ∀ (as : List xV) (M : xM) (k : Option xV → xM → Option ρ), w_X12_init fu as M k = some r0 → ∃ v M', xMet l D cA sA yX12_init cX12_init 1 none xG (2 + 1) 18 10497 as M v M' ∧ k v M' = some r0 ∧ (kd1 ≠ 2 → ∃ a as', as = .inr (.inr (12, some a)) :: as') := by
  intro as M k h
  unfold w_X12_init at h
  replace h := pR_some h
  obtain ⟨o, as1, rfl, h⟩ := h
  replace h := bd_some h
  obtain ⟨s, rfl, h⟩ := h
  replace h := xe_some h
  obtain ⟨rfl, h⟩ := h
  obtain ⟨p1, hp, h⟩ := Option.bind_eq_some_iff.mp h
  exact ⟨_, _, ok_X12_init l D cA sA fu s M hp, h, fun _ => ⟨_, _, rfl⟩⟩
theorem cd_X12_wordHere : Cond.code yX12_wordHere cX12_wordHere 5 (some .int) ∈ xG := (xg 1678 (by decide +kernel) (by decide +kernel))
theorem pr_X12_wordHere : (∀ e ∈ pX12_wordHere, xrow cX12_wordHere 5 kdX12 flX12 0 false RX12 e) ∧ xnext pX12_wordHere = true := xrows (by decide +kernel)
set_option maxRecDepth 100000 in
theorem wx_X12_wordHere_5 (X : xCtx p R S0 m ag c0 D cA A0 sA 5 cX12_wordHere RX12 (.code yX12_wordHere cX12_wordHere 5 (some .int) :: xG) 0 0) (hi : meth.name = yX12_wordHere.name) (hroom : 1 + 2 ≤ R.frames ∧ 60 * (1 + 2) ≤ R.locals) {rr : Int32 × xM} (hE : xEnd l D cA sA cX12_wordHere 5 (some .int) R 0 0 (some (.inl rr.1)) rr.2 p e S0 m ag below meth c0 A0 M0 ad0 Z) (fu : Nat) : ∀ (n : Nat) (s : Nat) (x1 : Int32) (x2 : Int32) (x3 : Int32) (x4 : Int32) (M : xM), L_X12_wordHere_5 fu n s x1 x2 x3 x4 M = some rr → xWx p l e R S0 m ag below meth c0 D cA A0 sA M0 ad0 5 Z 0 0 5 0 0 [(0, .inr (.inr (12, some s))), (1, .inl x1), (2, .inl x2), (3, .inl x3), (4, .inl x4)] [] M := by
  intro n
  induction n with
  | zero => intro s x1 x2 x3 x4 M h; cases h
  | succ n ih =>
    intro s x1 x2 x3 x4 M h
    rw [← q_X12_wordHere_5 fu n s x1 x2 x3 x4 M] at h
    have hT : ∀ w ∈ xG, w ∈ (Cond.code yX12_wordHere cX12_wordHere 5 (some .int) :: xG) := fun w hw => List.mem_cons_of_mem _ hw
    refine xrun_sound (nst := 0) (isInit := false) (kd := kdX12) X (xcls_mono hT xclsG) (xpool_mono hT plX12) (fun z => by cases z) (fun idx v hf => xkoE_mono hT (koX12_ok _ (xfind_mem hf))) (xents (ca := _) ?_) (endI hE).1 (endI hE).2 (xcuts (cu := _) ?_) pr_X12_wordHere.1 pr_X12_wordHere.2 _ _ _ _ _ _ _ _ (xat_ok pr_X12_wordHere.1 pr_X12_wordHere.2).1 (xat_ok pr_X12_wordHere.1 pr_X12_wordHere.2).2.1 (xat_ok pr_X12_wordHere.1 pr_X12_wordHere.2).2.2 h
    · exact (List.forall_mem_cons.mpr ⟨(xent_met X (ci := 12) hT cd_X12_isWord lk_X12_165 rfl (by decide) rfl (by decide +kernel) (fun z => absurd z (by decide)) (hw_X12_isWord l D cA sA fu 0) (fun _ => ⟨by decide, fun _ => ⟨TX12, 29, rfl⟩⟩) (by constructor <;> omega) (by decide)), (fun _ h => nomatch h)⟩)
    · refine (List.forall_mem_cons.mpr ⟨?_, (fun _ h => nomatch h)⟩)
      · intro bc bs ls st M h
        replace h := xz_some h
        obtain ⟨rfl, rfl, h⟩ := h
        replace h := lR_some h
        obtain ⟨o, e0, h⟩ := h
        replace h := bd_some h
        obtain ⟨s', rfl, h⟩ := h
        replace h := lI_some h
        obtain ⟨x1', e1, h⟩ := h
        replace h := lI_some h
        obtain ⟨x2', e2, h⟩ := h
        replace h := lI_some h
        obtain ⟨x3', e3, h⟩ := h
        replace h := lI_some h
        obtain ⟨x4', e4, h⟩ := h
        replace h := xe_some h
        obtain ⟨rfl, h⟩ := h
        exact xWx_ls (ih s' x1' x2' x3' x4' M h) (List.forall_mem_cons.mpr ⟨e0, (List.forall_mem_cons.mpr ⟨e1, (List.forall_mem_cons.mpr ⟨e2, (List.forall_mem_cons.mpr ⟨e3, (List.forall_mem_cons.mpr ⟨e4, (fun _ h => nomatch h)⟩)⟩)⟩)⟩)⟩)

set_option maxRecDepth 100000 in
theorem wx_X12_wordHere (X : xCtx p R S0 m ag c0 D cA A0 sA 5 cX12_wordHere RX12 (.code yX12_wordHere cX12_wordHere 5 (some .int) :: xG) 0 0) (hi : meth.name = yX12_wordHere.name) (hroom : 1 + 2 ≤ R.frames ∧ 60 * (1 + 2) ≤ R.locals) {rr : Int32 × xM} (hE : xEnd l D cA sA cX12_wordHere 5 (some .int) R 0 0 (some (.inl rr.1)) rr.2 p e S0 m ag below meth c0 A0 M0 ad0 Z) (fu : Nat) (s : Nat) (x1 : Int32) (x2 : Int32) (M : xM) (h : F_X12_wordHere fu s x1 x2 M = some rr) : xWx p l e R S0 m ag below meth c0 D cA A0 sA M0 ad0 5 Z 0 0 0 0 0 [(0, .inr (.inr (12, some s))), (1, .inl x1), (2, .inl x2)] [] M := by
  rw [← q_X12_wordHere fu s x1 x2 M] at h
  have hT : ∀ w ∈ xG, w ∈ (Cond.code yX12_wordHere cX12_wordHere 5 (some .int) :: xG) := fun w hw => List.mem_cons_of_mem _ hw
  refine xrun_sound (nst := 0) (isInit := false) (kd := kdX12) X (xcls_mono hT xclsG) (xpool_mono hT plX12) (fun z => by cases z) (fun idx v hf => xkoE_mono hT (koX12_ok _ (xfind_mem hf))) (xents (ca := _) ?_) (endI hE).1 (endI hE).2 (xcuts (cu := _) ?_) pr_X12_wordHere.1 pr_X12_wordHere.2 _ _ _ _ _ _ _ _ (xat_ok pr_X12_wordHere.1 pr_X12_wordHere.2).1 (xat_ok pr_X12_wordHere.1 pr_X12_wordHere.2).2.1 (xat_ok pr_X12_wordHere.1 pr_X12_wordHere.2).2.2 h
  · exact (fun _ h => nomatch h)
  · refine (List.forall_mem_cons.mpr ⟨?_, (fun _ h => nomatch h)⟩)
    · intro bc bs ls st M h
      replace h := xz_some h
      obtain ⟨rfl, rfl, h⟩ := h
      replace h := lR_some h
      obtain ⟨o, e0, h⟩ := h
      replace h := bd_some h
      obtain ⟨s', rfl, h⟩ := h
      replace h := lI_some h
      obtain ⟨x1', e1, h⟩ := h
      replace h := lI_some h
      obtain ⟨x2', e2, h⟩ := h
      replace h := lI_some h
      obtain ⟨x3', e3, h⟩ := h
      replace h := lI_some h
      obtain ⟨x4', e4, h⟩ := h
      replace h := xe_some h
      obtain ⟨rfl, h⟩ := h
      exact xWx_ls (wx_X12_wordHere_5 X hi hroom hE fu fu s' x1' x2' x3' x4' M h) (List.forall_mem_cons.mpr ⟨e0, (List.forall_mem_cons.mpr ⟨e1, (List.forall_mem_cons.mpr ⟨e2, (List.forall_mem_cons.mpr ⟨e3, (List.forall_mem_cons.mpr ⟨e4, (fun _ h => nomatch h)⟩)⟩)⟩)⟩)⟩)

theorem ok_X12_wordHere (l : Launch) (D : va_G) (cA : Nat → ClassId) (sA : Nat → Nat) (fu : Nat) (s : Nat) (x1 : Int32) (x2 : Int32) (M : xM) {rr : Int32 × xM} (h : F_X12_wordHere fu s x1 x2 M = some rr) : xMet l D cA sA yX12_wordHere cX12_wordHere 5 (some .int) xG (1 + 1) 0 0 [.inr (.inr (12, some s)), .inl x1, .inl x2] M (some (.inl rr.1)) rr.2 :=
  xmet_of (by decide +kernel) (Nat.le_of_ble_eq_true rfl) (fun p e s1 m ag below meth c0 A0 ad0 Z X hn hE => wx_X12_wordHere X hn ⟨Nat.le_refl _, Nat.le_refl _⟩ hE fu s x1 x2 M h)
theorem hw_X12_wordHere (l : Launch) (D : va_G) (cA : Nat → ClassId) (sA : Nat → Nat) (fu : Nat) {ρ : Type} {r0 : ρ} (kd1 : Nat) : ∀ (as : List xV) (M : xM) (k : Option xV → xM → Option ρ), w_X12_wordHere fu as M k = some r0 → ∃ v M', xMet l D cA sA yX12_wordHere cX12_wordHere 5 (some .int) xG (1 + 1) 0 0 as M v M' ∧ k v M' = some r0 ∧ (kd1 ≠ 2 → ∃ a as', as = .inr (.inr (12, some a)) :: as') := by
  intro as M k h
  unfold w_X12_wordHere at h
  replace h := pR_some h
  obtain ⟨o, as1, rfl, h⟩ := h
  replace h := bd_some h
  obtain ⟨s, rfl, h⟩ := h
  replace h := pI_some h
  obtain ⟨x1, as1, rfl, h⟩ := h
  replace h := pI_some h
  obtain ⟨x2, as1, rfl, h⟩ := h
  replace h := xe_some h
  obtain ⟨rfl, h⟩ := h
  obtain ⟨p1, hp, h⟩ := Option.bind_eq_some_iff.mp h
  exact ⟨_, _, ok_X12_wordHere l D cA sA fu s x1 x2 M hp, h, fun _ => ⟨_, _, rfl⟩⟩
theorem lk_X12_171 : xLink xG RX12 171 0 yX12_wordHere 2 := ⟨Or.inl (xg 1675 (by decide +kernel) (by decide +kernel)), (xg 1677 (by decide +kernel) (by decide +kernel)), (xg 46 (by decide +kernel) (by decide +kernel)), (xg 141 (by decide +kernel) (by decide +kernel)), ⟨12, by decide, TX12, 29, rfl⟩⟩
theorem cd_X12_isName : Cond.code yX12_isName cX12_isName 1 (some .boolean) ∈ xG := (xg 1694 (by decide +kernel) (by decide +kernel))
theorem pr_X12_isName : (∀ e ∈ pX12_isName, xrow cX12_isName 1 kdX12 flX12 0 false RX12 e) ∧ xnext pX12_isName = true := xrows (by decide +kernel)
set_option maxRecDepth 100000 in
theorem wx_X12_isName (X : xCtx p R S0 m ag c0 D cA A0 sA 1 cX12_isName RX12 (.code yX12_isName cX12_isName 1 (some .boolean) :: xG) 0 0) (hi : meth.name = yX12_isName.name) (hroom : 2 + 2 ≤ R.frames ∧ 60 * (2 + 2) ≤ R.locals) {rr : Int32 × xM} (hE : xEnd l D cA sA cX12_isName 1 (some .boolean) R 0 0 (some (.inl rr.1)) rr.2 p e S0 m ag below meth c0 A0 M0 ad0 Z) (fu : Nat) (s : Nat) (M : xM) (h : F_X12_isName fu s M = some rr) : xWx p l e R S0 m ag below meth c0 D cA A0 sA M0 ad0 1 Z 0 0 0 0 0 [(0, .inr (.inr (12, some s)))] [] M := by
  rw [← q_X12_isName fu s M] at h
  have hT : ∀ w ∈ xG, w ∈ (Cond.code yX12_isName cX12_isName 1 (some .boolean) :: xG) := fun w hw => List.mem_cons_of_mem _ hw
  refine xrun_sound (nst := 0) (isInit := false) (kd := kdX12) X (xcls_mono hT xclsG) (xpool_mono hT plX12) (fun z => by cases z) (fun idx v hf => xkoE_mono hT (koX12_ok _ (xfind_mem hf))) (xents (ca := _) ?_) (endZ hE).1 (endZ hE).2 (xcuts (cu := _) ?_) pr_X12_isName.1 pr_X12_isName.2 _ _ _ _ _ _ _ _ (xat_ok pr_X12_isName.1 pr_X12_isName.2).1 (xat_ok pr_X12_isName.1 pr_X12_isName.2).2.1 (xat_ok pr_X12_isName.1 pr_X12_isName.2).2.2 h
  · exact (List.forall_mem_cons.mpr ⟨(xent_met X (ci := 12) hT cd_X12_wordHere lk_X12_171 rfl (by decide) rfl (by decide +kernel) (fun z => absurd z (by decide)) (hw_X12_wordHere l D cA sA fu 0) (fun _ => ⟨by decide, fun _ => ⟨TX12, 29, rfl⟩⟩) (by constructor <;> omega) (by decide)), (fun _ h => nomatch h)⟩)
  · exact (fun _ h => nomatch h)

theorem ok_X12_isName (l : Launch) (D : va_G) (cA : Nat → ClassId) (sA : Nat → Nat) (fu : Nat) (s : Nat) (M : xM) {rr : Int32 × xM} (h : F_X12_isName fu s M = some rr) : xMet l D cA sA yX12_isName cX12_isName 1 (some .boolean) xG (2 + 1) 0 0 [.inr (.inr (12, some s))] M (some (.inl rr.1)) rr.2 :=
  xmet_of (by decide +kernel) (Nat.le_of_ble_eq_true rfl) (fun p e s1 m ag below meth c0 A0 ad0 Z X hn hE => wx_X12_isName X hn ⟨Nat.le_refl _, Nat.le_refl _⟩ hE fu s M h)
theorem hw_X12_isName (l : Launch) (D : va_G) (cA : Nat → ClassId) (sA : Nat → Nat) (fu : Nat) {ρ : Type} {r0 : ρ} (kd1 : Nat) : ∀ (as : List xV) (M : xM) (k : Option xV → xM → Option ρ), w_X12_isName fu as M k = some r0 → ∃ v M', xMet l D cA sA yX12_isName cX12_isName 1 (some .boolean) xG (2 + 1) 0 0 as M v M' ∧ k v M' = some r0 ∧ (kd1 ≠ 2 → ∃ a as', as = .inr (.inr (12, some a)) :: as') := by
  intro as M k h
  unfold w_X12_isName at h
  replace h := pR_some h
  obtain ⟨o, as1, rfl, h⟩ := h
  replace h := bd_some h
  obtain ⟨s, rfl, h⟩ := h
  replace h := xe_some h
  obtain ⟨rfl, h⟩ := h
  obtain ⟨p1, hp, h⟩ := Option.bind_eq_some_iff.mp h
  exact ⟨_, _, ok_X12_isName l D cA sA fu s M hp, h, fun _ => ⟨_, _, rfl⟩⟩
theorem cd_X12_wrong : Cond.code yX12_wrong cX12_wrong 2 none ∈ xG := (xg 1690 (by decide +kernel) (by decide +kernel))
theorem pr_X12_wrong : (∀ e ∈ pX12_wrong, xrow cX12_wrong 2 kdX12 flX12 0 false RX12 e) ∧ xnext pX12_wrong = true := xrows (by decide +kernel)
set_option maxRecDepth 100000 in
theorem wx_X12_wrong (X : xCtx p R S0 m ag c0 D cA A0 sA 2 cX12_wrong RX12 (.code yX12_wrong cX12_wrong 2 none :: xG) 0 0) (hi : meth.name = yX12_wrong.name) (hroom : 0 + 2 ≤ R.frames ∧ 60 * (0 + 2) ≤ R.locals) {rr : xM} (hE : xEnd l D cA sA cX12_wrong 2 none R 0 0 none rr p e S0 m ag below meth c0 A0 M0 ad0 Z) (fu : Nat) (s : Nat) (x1 : Int32) (M : xM) (h : F_X12_wrong fu s x1 M = some rr) : xWx p l e R S0 m ag below meth c0 D cA A0 sA M0 ad0 2 Z 0 0 0 0 0 [(0, .inr (.inr (12, some s))), (1, .inl x1)] [] M := by
  rw [← q_X12_wrong fu s x1 M] at h
  have hT : ∀ w ∈ xG, w ∈ (Cond.code yX12_wrong cX12_wrong 2 none :: xG) := fun w hw => List.mem_cons_of_mem _ hw
  refine xrun_sound (nst := 0) (isInit := false) (kd := kdX12) X (xcls_mono hT xclsG) (xpool_mono hT plX12) (fun z => by cases z) (fun idx v hf => xkoE_mono hT (koX12_ok _ (xfind_mem hf))) (xents (ca := _) ?_) (endV hE).1 (endV hE).2 (xcuts (cu := _) ?_) pr_X12_wrong.1 pr_X12_wrong.2 _ _ _ _ _ _ _ _ (xat_ok pr_X12_wrong.1 pr_X12_wrong.2).1 (xat_ok pr_X12_wrong.1 pr_X12_wrong.2).2.1 (xat_ok pr_X12_wrong.1 pr_X12_wrong.2).2.2 h
  · exact (fun _ h => nomatch h)
  · exact (fun _ h => nomatch h)

theorem ok_X12_wrong (l : Launch) (D : va_G) (cA : Nat → ClassId) (sA : Nat → Nat) (fu : Nat) (s : Nat) (x1 : Int32) (M : xM) {rr : xM} (h : F_X12_wrong fu s x1 M = some rr) : xMet l D cA sA yX12_wrong cX12_wrong 2 none xG (0 + 1) 0 0 [.inr (.inr (12, some s)), .inl x1] M none rr :=
  xmet_of (by decide +kernel) (Nat.le_of_ble_eq_true rfl) (fun p e s1 m ag below meth c0 A0 ad0 Z X hn hE => wx_X12_wrong X hn ⟨Nat.le_refl _, Nat.le_refl _⟩ hE fu s x1 M h)
theorem hw_X12_wrong (l : Launch) (D : va_G) (cA : Nat → ClassId) (sA : Nat → Nat) (fu : Nat) {ρ : Type} {r0 : ρ} (kd1 : Nat) : ∀ (as : List xV) (M : xM) (k : Option xV → xM → Option ρ), w_X12_wrong fu as M k = some r0 → ∃ v M', xMet l D cA sA yX12_wrong cX12_wrong 2 none xG (0 + 1) 0 0 as M v M' ∧ k v M' = some r0 ∧ (kd1 ≠ 2 → ∃ a as', as = .inr (.inr (12, some a)) :: as') := by
  intro as M k h
  unfold w_X12_wrong at h
  replace h := pR_some h
  obtain ⟨o, as1, rfl, h⟩ := h
  replace h := bd_some h
  obtain ⟨s, rfl, h⟩ := h
  replace h := pI_some h
  obtain ⟨x1, as1, rfl, h⟩ := h
  replace h := xe_some h
  obtain ⟨rfl, h⟩ := h
  obtain ⟨p1, hp, h⟩ := Option.bind_eq_some_iff.mp h
  exact ⟨_, _, ok_X12_wrong l D cA sA fu s x1 M hp, h, fun _ => ⟨_, _, rfl⟩⟩
theorem lk_X12_162 : xLink xG RX12 162 0 yX12_wrong 1 := ⟨Or.inl (xg 1687 (by decide +kernel) (by decide +kernel)), (xg 1689 (by decide +kernel) (by decide +kernel)), (xg 49 (by decide +kernel) (by decide +kernel)), (xg 141 (by decide +kernel) (by decide +kernel)), ⟨12, by decide, TX12, 29, rfl⟩⟩
theorem cd_X12_isOnce : Cond.code yX12_isOnce cX12_isOnce 2 (some .boolean) ∈ xG := (xg 1718 (by decide +kernel) (by decide +kernel))
theorem pr_X12_isOnce : (∀ e ∈ pX12_isOnce, xrow cX12_isOnce 2 kdX12 flX12 0 false RX12 e) ∧ xnext pX12_isOnce = true := xrows (by decide +kernel)
set_option maxRecDepth 100000 in
theorem wx_X12_isOnce (X : xCtx p R S0 m ag c0 D cA A0 sA 2 cX12_isOnce RX12 (.code yX12_isOnce cX12_isOnce 2 (some .boolean) :: xG) 0 0) (hi : meth.name = yX12_isOnce.name) (hroom : 1 + 2 ≤ R.frames ∧ 60 * (1 + 2) ≤ R.locals) {rr : Int32 × xM} (hE : xEnd l D cA sA cX12_isOnce 2 (some .boolean) R 0 0 (some (.inl rr.1)) rr.2 p e S0 m ag below meth c0 A0 M0 ad0 Z) (fu : Nat) (s : Nat) (x1 : Int32) (M : xM) (h : F_X12_isOnce fu s x1 M = some rr) : xWx p l e R S0 m ag below meth c0 D cA A0 sA M0 ad0 2 Z 0 0 0 0 0 [(0, .inr (.inr (12, some s))), (1, .inl x1)] [] M := by
  rw [← q_X12_isOnce fu s x1 M] at h
  have hT : ∀ w ∈ xG, w ∈ (Cond.code yX12_isOnce cX12_isOnce 2 (some .boolean) :: xG) := fun w hw => List.mem_cons_of_mem _ hw
  refine xrun_sound (nst := 0) (isInit := false) (kd := kdX12) X (xcls_mono hT xclsG) (xpool_mono hT plX12) (fun z => by cases z) (fun idx v hf => xkoE_mono hT (koX12_ok _ (xfind_mem hf))) (xents (ca := _) ?_) (endZ hE).1 (endZ hE).2 (xcuts (cu := _) ?_) pr_X12_isOnce.1 pr_X12_isOnce.2 _ _ _ _ _ _ _ _ (xat_ok pr_X12_isOnce.1 pr_X12_isOnce.2).1 (xat_ok pr_X12_isOnce.1 pr_X12_isOnce.2).2.1 (xat_ok pr_X12_isOnce.1 pr_X12_isOnce.2).2.2 h
  · exact (List.forall_mem_cons.mpr ⟨(xent_met X (ci := 12) hT cd_X12_wrong lk_X12_162 rfl (by decide) rfl (by decide +kernel) (fun z => absurd z (by decide)) (hw_X12_wrong l D cA sA fu 0) (fun _ => ⟨by decide, fun _ => ⟨TX12, 29, rfl⟩⟩) (by constructor <;> omega) (by decide)), (fun _ h => nomatch h)⟩)
  · exact (fun _ h => nomatch h)

theorem ok_X12_isOnce (l : Launch) (D : va_G) (cA : Nat → ClassId) (sA : Nat → Nat) (fu : Nat) (s : Nat) (x1 : Int32) (M : xM) {rr : Int32 × xM} (h : F_X12_isOnce fu s x1 M = some rr) : xMet l D cA sA yX12_isOnce cX12_isOnce 2 (some .boolean) xG (1 + 1) 0 0 [.inr (.inr (12, some s)), .inl x1] M (some (.inl rr.1)) rr.2 :=
  xmet_of (by decide +kernel) (Nat.le_of_ble_eq_true rfl) (fun p e s1 m ag below meth c0 A0 ad0 Z X hn hE => wx_X12_isOnce X hn ⟨Nat.le_refl _, Nat.le_refl _⟩ hE fu s x1 M h)
theorem hw_X12_isOnce (l : Launch) (D : va_G) (cA : Nat → ClassId) (sA : Nat → Nat) (fu : Nat) {ρ : Type} {r0 : ρ} (kd1 : Nat) : ∀ (as : List xV) (M : xM) (k : Option xV → xM → Option ρ), w_X12_isOnce fu as M k = some r0 → ∃ v M', xMet l D cA sA yX12_isOnce cX12_isOnce 2 (some .boolean) xG (1 + 1) 0 0 as M v M' ∧ k v M' = some r0 ∧ (kd1 ≠ 2 → ∃ a as', as = .inr (.inr (12, some a)) :: as') := by
  intro as M k h
  unfold w_X12_isOnce at h
  replace h := pR_some h
  obtain ⟨o, as1, rfl, h⟩ := h
  replace h := bd_some h
  obtain ⟨s, rfl, h⟩ := h
  replace h := pI_some h
  obtain ⟨x1, as1, rfl, h⟩ := h
  replace h := xe_some h
  obtain ⟨rfl, h⟩ := h
  obtain ⟨p1, hp, h⟩ := Option.bind_eq_some_iff.mp h
  exact ⟨_, _, ok_X12_isOnce l D cA sA fu s x1 M hp, h, fun _ => ⟨_, _, rfl⟩⟩
theorem cd_X12_judged : Cond.code yX12_judged cX12_judged 4 (some .int) ∈ xG := (xg 1991 (by decide +kernel) (by decide +kernel))
theorem pr_X12_judged : (∀ e ∈ pX12_judged, xrow cX12_judged 4 kdX12 flX12 0 false RX12 e) ∧ xnext pX12_judged = true := xrows (by decide +kernel)
set_option maxRecDepth 100000 in
theorem wx_X12_judged_28 (X : xCtx p R S0 m ag c0 D cA A0 sA 4 cX12_judged RX12 (.code yX12_judged cX12_judged 4 (some .int) :: xG) 0 0) (hi : meth.name = yX12_judged.name) (hroom : 11 + 2 ≤ R.frames ∧ 60 * (11 + 2) ≤ R.locals) {rr : Int32 × xM} (hE : xEnd l D cA sA cX12_judged 4 (some .int) R 0 0 (some (.inl rr.1)) rr.2 p e S0 m ag below meth c0 A0 M0 ad0 Z) (fu : Nat) : ∀ (n : Nat) (s : Nat) (x1 : Int32) (x2 : Int32) (x3 : Int32) (M : xM), L_X12_judged_28 fu n s x1 x2 x3 M = some rr → xWx p l e R S0 m ag below meth c0 D cA A0 sA M0 ad0 4 Z 0 0 28 0 0 [(0, .inr (.inr (12, some s))), (1, .inl x1), (2, .inl x2), (3, .inl x3)] [] M := by
  intro n
  induction n with
  | zero => intro s x1 x2 x3 M h; cases h
  | succ n ih =>
    intro s x1 x2 x3 M h
    rw [← q_X12_judged_28 fu n s x1 x2 x3 M] at h
    have hT : ∀ w ∈ xG, w ∈ (Cond.code yX12_judged cX12_judged 4 (some .int) :: xG) := fun w hw => List.mem_cons_of_mem _ hw
    refine xrun_sound (nst := 0) (isInit := false) (kd := kdX12) X (xcls_mono hT xclsG) (xpool_mono hT plX12) (fun z => by cases z) (fun idx v hf => xkoE_mono hT (koX12_ok _ (xfind_mem hf))) (xents (ca := _) ?_) (endI hE).1 (endI hE).2 (xcuts (cu := _) ?_) pr_X12_judged.1 pr_X12_judged.2 _ _ _ _ _ _ _ _ (xat_ok pr_X12_judged.1 pr_X12_judged.2).1 (xat_ok pr_X12_judged.1 pr_X12_judged.2).2.1 (xat_ok pr_X12_judged.1 pr_X12_judged.2).2.2 h
    · exact (List.forall_mem_cons.mpr ⟨(xent_met X (ci := 12) hT cd_X12_erased lk_X12_326 rfl (by decide) rfl (by decide +kernel) (fun z => absurd z (by decide)) (hw_X12_erased l D cA sA fu 0) (fun _ => ⟨by decide, fun _ => ⟨TX12, 29, rfl⟩⟩) (by constructor <;> omega) (by decide)), (List.forall_mem_cons.mpr ⟨(xent_met X (ci := 12) hT cd_X12_doesLine lk_X12_396 rfl (by decide) rfl (by decide +kernel) (fun z => absurd z (by decide)) (hw_X12_doesLine l D cA sA fu 0) (fun _ => ⟨by decide, fun _ => ⟨TX12, 29, rfl⟩⟩) (by constructor <;> omega) (by decide)), (fun _ h => nomatch h)⟩)⟩)
    · refine (List.forall_mem_cons.mpr ⟨?_, (fun _ h => nomatch h)⟩)
      · intro bc bs ls st M h
        replace h := xz_some h
        obtain ⟨rfl, rfl, h⟩ := h
        replace h := lR_some h
        obtain ⟨o, e0, h⟩ := h
        replace h := bd_some h
        obtain ⟨s', rfl, h⟩ := h
        replace h := lI_some h
        obtain ⟨x1', e1, h⟩ := h
        replace h := lI_some h
        obtain ⟨x2', e2, h⟩ := h
        replace h := lI_some h
        obtain ⟨x3', e3, h⟩ := h
        replace h := xe_some h
        obtain ⟨rfl, h⟩ := h
        exact xWx_ls (ih s' x1' x2' x3' M h) (List.forall_mem_cons.mpr ⟨e0, (List.forall_mem_cons.mpr ⟨e1, (List.forall_mem_cons.mpr ⟨e2, (List.forall_mem_cons.mpr ⟨e3, (fun _ h => nomatch h)⟩)⟩)⟩)⟩)

set_option maxRecDepth 100000 in
theorem wx_X12_judged (X : xCtx p R S0 m ag c0 D cA A0 sA 4 cX12_judged RX12 (.code yX12_judged cX12_judged 4 (some .int) :: xG) 0 0) (hi : meth.name = yX12_judged.name) (hroom : 11 + 2 ≤ R.frames ∧ 60 * (11 + 2) ≤ R.locals) {rr : Int32 × xM} (hE : xEnd l D cA sA cX12_judged 4 (some .int) R 0 0 (some (.inl rr.1)) rr.2 p e S0 m ag below meth c0 A0 M0 ad0 Z) (fu : Nat) (s : Nat) (x1 : Int32) (M : xM) (h : F_X12_judged fu s x1 M = some rr) : xWx p l e R S0 m ag below meth c0 D cA A0 sA M0 ad0 4 Z 0 0 0 0 0 [(0, .inr (.inr (12, some s))), (1, .inl x1)] [] M := by
  rw [← q_X12_judged fu s x1 M] at h
  have hT : ∀ w ∈ xG, w ∈ (Cond.code yX12_judged cX12_judged 4 (some .int) :: xG) := fun w hw => List.mem_cons_of_mem _ hw
  refine xrun_sound (nst := 0) (isInit := false) (kd := kdX12) X (xcls_mono hT xclsG) (xpool_mono hT plX12) (fun z => by cases z) (fun idx v hf => xkoE_mono hT (koX12_ok _ (xfind_mem hf))) (xents (ca := _) ?_) (endI hE).1 (endI hE).2 (xcuts (cu := _) ?_) pr_X12_judged.1 pr_X12_judged.2 _ _ _ _ _ _ _ _ (xat_ok pr_X12_judged.1 pr_X12_judged.2).1 (xat_ok pr_X12_judged.1 pr_X12_judged.2).2.1 (xat_ok pr_X12_judged.1 pr_X12_judged.2).2.2 h
  · exact (List.forall_mem_cons.mpr ⟨(xent_met X (ci := 12) hT cd_X12_starts lk_X12_249 rfl (by decide) rfl (by decide +kernel) (fun z => absurd z (by decide)) (hw_X12_starts l D cA sA fu 0) (fun _ => ⟨by decide, fun _ => ⟨TX12, 29, rfl⟩⟩) (by constructor <;> omega) (by decide)), (List.forall_mem_cons.mpr ⟨(xent_met X (ci := 12) hT cd_X12_within lk_X12_380 rfl (by decide) rfl (by decide +kernel) (fun z => absurd z (by decide)) (hw_X12_within l D cA sA fu 2 rfl) (fun z => absurd rfl z) (by constructor <;> omega) (by decide)), (fun _ h => nomatch h)⟩)⟩)
  · refine (List.forall_mem_cons.mpr ⟨?_, (fun _ h => nomatch h)⟩)
    · intro bc bs ls st M h
      replace h := xz_some h
      obtain ⟨rfl, rfl, h⟩ := h
      replace h := lR_some h
      obtain ⟨o, e0, h⟩ := h
      replace h := bd_some h
      obtain ⟨s', rfl, h⟩ := h
      replace h := lI_some h
      obtain ⟨x1', e1, h⟩ := h
      replace h := lI_some h
      obtain ⟨x2', e2, h⟩ := h
      replace h := lI_some h
      obtain ⟨x3', e3, h⟩ := h
      replace h := xe_some h
      obtain ⟨rfl, h⟩ := h
      exact xWx_ls (wx_X12_judged_28 X hi hroom hE fu fu s' x1' x2' x3' M h) (List.forall_mem_cons.mpr ⟨e0, (List.forall_mem_cons.mpr ⟨e1, (List.forall_mem_cons.mpr ⟨e2, (List.forall_mem_cons.mpr ⟨e3, (fun _ h => nomatch h)⟩)⟩)⟩)⟩)

theorem ok_X12_judged (l : Launch) (D : va_G) (cA : Nat → ClassId) (sA : Nat → Nat) (fu : Nat) (s : Nat) (x1 : Int32) (M : xM) {rr : Int32 × xM} (h : F_X12_judged fu s x1 M = some rr) : xMet l D cA sA yX12_judged cX12_judged 4 (some .int) xG (11 + 1) 0 0 [.inr (.inr (12, some s)), .inl x1] M (some (.inl rr.1)) rr.2 :=
  xmet_of (by decide +kernel) (Nat.le_of_ble_eq_true rfl) (fun p e s1 m ag below meth c0 A0 ad0 Z X hn hE => wx_X12_judged X hn ⟨Nat.le_refl _, Nat.le_refl _⟩ hE fu s x1 M h)
theorem hw_X12_judged (l : Launch) (D : va_G) (cA : Nat → ClassId) (sA : Nat → Nat) (fu : Nat) {ρ : Type} {r0 : ρ} (kd1 : Nat) : ∀ (as : List xV) (M : xM) (k : Option xV → xM → Option ρ), w_X12_judged fu as M k = some r0 → ∃ v M', xMet l D cA sA yX12_judged cX12_judged 4 (some .int) xG (11 + 1) 0 0 as M v M' ∧ k v M' = some r0 ∧ (kd1 ≠ 2 → ∃ a as', as = .inr (.inr (12, some a)) :: as') := by
  intro as M k h
  unfold w_X12_judged at h
  replace h := pR_some h
  obtain ⟨o, as1, rfl, h⟩ := h
  replace h := bd_some h
  obtain ⟨s, rfl, h⟩ := h
  replace h := pI_some h
  obtain ⟨x1, as1, rfl, h⟩ := h
  replace h := xe_some h
  obtain ⟨rfl, h⟩ := h
  obtain ⟨p1, hp, h⟩ := Option.bind_eq_some_iff.mp h
  exact ⟨_, _, ok_X12_judged l D cA sA fu s x1 M hp, h, fun _ => ⟨_, _, rfl⟩⟩
theorem cd_X12_liveAbove : Cond.code yX12_liveAbove cX12_liveAbove 5 (some .int) ∈ xG := (xg 2116 (by decide +kernel) (by decide +kernel))
theorem pr_X12_liveAbove : (∀ e ∈ pX12_liveAbove, xrow cX12_liveAbove 5 kdX12 flX12 0 false RX12 e) ∧ xnext pX12_liveAbove = true := xrows (by decide +kernel)
set_option maxRecDepth 100000 in
theorem wx_X12_liveAbove_55 (X : xCtx p R S0 m ag c0 D cA A0 sA 5 cX12_liveAbove RX12 (.code yX12_liveAbove cX12_liveAbove 5 (some .int) :: xG) 0 0) (hi : meth.name = yX12_liveAbove.name) (hroom : 5 + 2 ≤ R.frames ∧ 60 * (5 + 2) ≤ R.locals) {rr : Int32 × xM} (hE : xEnd l D cA sA cX12_liveAbove 5 (some .int) R 0 0 (some (.inl rr.1)) rr.2 p e S0 m ag below meth c0 A0 M0 ad0 Z) (fu : Nat) (k4 : Nat → Int32 → Int32 → Int32 → xM → Option (Int32 × xM)) (hk4 : ∀ (s : Nat) (x1 : Int32) (x2 : Int32) (x3 : Int32) (M : xM), k4 s x1 x2 x3 M = some rr → xWx p l e R S0 m ag below meth c0 D cA A0 sA M0 ad0 5 Z 0 0 4 0 0 [(0, .inr (.inr (12, some s))), (1, .inl x1), (2, .inl x2), (3, .inl x3)] [] M) (s : Nat) (x1 : Int32) (x2 : Int32) (x3 : Int32) (y0 : Int32) (M : xM) (h : J_X12_liveAbove_55 fu k4 s x1 x2 x3 y0 M = some rr) : xWx p l e R S0 m ag below meth c0 D cA A0 sA M0 ad0 5 Z 0 0 55 0 0 [(0, .inr (.inr (12, some s))), (1, .inl x1), (2, .inl x2), (3, .inl x3)] [.inl y0] M := by
  rw [← q_X12_liveAbove_55 fu k4 s x1 x2 x3 y0 M] at h
  have hT : ∀ w ∈ xG, w ∈ (Cond.code yX12_liveAbove cX12_liveAbove 5 (some .int) :: xG) := fun w hw => List.mem_cons_of_mem _ hw
  refine xrun_sound (nst := 0) (isInit := false) (kd := kdX12) X (xcls_mono hT xclsG) (xpool_mono hT plX12) (fun z => by cases z) (fun idx v hf => xkoE_mono hT (koX12_ok _ (xfind_mem hf))) (xents (ca := _) ?_) (endI hE).1 (endI hE).2 (xcuts (cu := _) ?_) pr_X12_liveAbove.1 pr_X12_liveAbove.2 _ _ _ _ _ _ _ _ (xat_ok pr_X12_liveAbove.1 pr_X12_liveAbove.2).1 (xat_ok pr_X12_liveAbove.1 pr_X12_liveAbove.2).2.1 (xat_ok pr_X12_liveAbove.1 pr_X12_liveAbove.2).2.2 h
  · exact (fun _ h => nomatch h)
  · refine (List.forall_mem_cons.mpr ⟨?_, (fun _ h => nomatch h)⟩)
    · intro bc bs ls st M h
      replace h := xz_some h
      obtain ⟨rfl, rfl, h⟩ := h
      replace h := lR_some h
      obtain ⟨o, e0, h⟩ := h
      replace h := bd_some h
      obtain ⟨s', rfl, h⟩ := h
      replace h := lI_some h
      obtain ⟨x1', e1, h⟩ := h
      replace h := lI_some h
      obtain ⟨x2', e2, h⟩ := h
      replace h := lI_some h
      obtain ⟨x3', e3, h⟩ := h
      replace h := xe_some h
      obtain ⟨rfl, h⟩ := h
      exact xWx_ls (hk4 s' x1' x2' x3' M h) (List.forall_mem_cons.mpr ⟨e0, (List.forall_mem_cons.mpr ⟨e1, (List.forall_mem_cons.mpr ⟨e2, (List.forall_mem_cons.mpr ⟨e3, (fun _ h => nomatch h)⟩)⟩)⟩)⟩)

set_option maxRecDepth 100000 in
theorem wx_X12_liveAbove_4 (X : xCtx p R S0 m ag c0 D cA A0 sA 5 cX12_liveAbove RX12 (.code yX12_liveAbove cX12_liveAbove 5 (some .int) :: xG) 0 0) (hi : meth.name = yX12_liveAbove.name) (hroom : 5 + 2 ≤ R.frames ∧ 60 * (5 + 2) ≤ R.locals) {rr : Int32 × xM} (hE : xEnd l D cA sA cX12_liveAbove 5 (some .int) R 0 0 (some (.inl rr.1)) rr.2 p e S0 m ag below meth c0 A0 M0 ad0 Z) (fu : Nat) : ∀ (n : Nat) (s : Nat) (x1 : Int32) (x2 : Int32) (x3 : Int32) (M : xM), L_X12_liveAbove_4 fu n s x1 x2 x3 M = some rr → xWx p l e R S0 m ag below meth c0 D cA A0 sA M0 ad0 5 Z 0 0 4 0 0 [(0, .inr (.inr (12, some s))), (1, .inl x1), (2, .inl x2), (3, .inl x3)] [] M := by
  intro n
  induction n with
  | zero => intro s x1 x2 x3 M h; cases h
  | succ n ih =>
    intro s x1 x2 x3 M h
    rw [← q_X12_liveAbove_4 fu n s x1 x2 x3 M] at h
    have hT : ∀ w ∈ xG, w ∈ (Cond.code yX12_liveAbove cX12_liveAbove 5 (some .int) :: xG) := fun w hw => List.mem_cons_of_mem _ hw
    refine xrun_sound (nst := 0) (isInit := false) (kd := kdX12) X (xcls_mono hT xclsG) (xpool_mono hT plX12) (fun z => by cases z) (fun idx v hf => xkoE_mono hT (koX12_ok _ (xfind_mem hf))) (xents (ca := _) ?_) (endI hE).1 (endI hE).2 (xcuts (cu := _) ?_) pr_X12_liveAbove.1 pr_X12_liveAbove.2 _ _ _ _ _ _ _ _ (xat_ok pr_X12_liveAbove.1 pr_X12_liveAbove.2).1 (xat_ok pr_X12_liveAbove.1 pr_X12_liveAbove.2).2.1 (xat_ok pr_X12_liveAbove.1 pr_X12_liveAbove.2).2.2 h
    · exact (List.forall_mem_cons.mpr ⟨(xent_met X (ci := 12) hT cd_X12_allSlots lk_X12_277 rfl (by decide) rfl (by decide +kernel) (fun z => absurd z (by decide)) (hw_X12_allSlots l D cA sA fu 0) (fun _ => ⟨by decide, fun _ => ⟨TX12, 29, rfl⟩⟩) (by constructor <;> omega) (by decide)), (List.forall_mem_cons.mpr ⟨(xent_met X (ci := 12) hT cd_X12_numberOf lk_X12_293 rfl (by decide) rfl (by decide +kernel) (fun z => absurd z (by decide)) (hw_X12_numberOf l D cA sA fu 0) (fun _ => ⟨by decide, fun _ => ⟨TX12, 29, rfl⟩⟩) (by constructor <;> omega) (by decide)), (List.forall_mem_cons.mpr ⟨(xent_met X (ci := 12) hT cd_X12_isLive lk_X12_308 rfl (by decide) rfl (by decide +kernel) (fun z => absurd z (by decide)) (hw_X12_isLive l D cA sA fu 0) (fun _ => ⟨by decide, fun _ => ⟨TX12, 29, rfl⟩⟩) (by constructor <;> omega) (by decide)), (fun _ h => nomatch h)⟩)⟩)⟩)
    · refine (List.forall_mem_cons.mpr ⟨?_, (fun _ h => nomatch h)⟩)
      · intro bc bs ls st M h
        replace h := xz_some h
        obtain ⟨rfl, rfl, h⟩ := h
        replace h := lR_some h
        obtain ⟨o, e0, h⟩ := h
        replace h := bd_some h
        obtain ⟨s', rfl, h⟩ := h
        replace h := lI_some h
        obtain ⟨x1', e1, h⟩ := h
        replace h := lI_some h
        obtain ⟨x2', e2, h⟩ := h
        replace h := lI_some h
        obtain ⟨x3', e3, h⟩ := h
        replace h := pI_some h
        obtain ⟨y0', st, rfl, h⟩ := h
        replace h := xe_some h
        obtain ⟨rfl, h⟩ := h
        exact xWx_ls (wx_X12_liveAbove_55 X hi hroom hE fu _ ih s' x1' x2' x3' y0' M h) (List.forall_mem_cons.mpr ⟨e0, (List.forall_mem_cons.mpr ⟨e1, (List.forall_mem_cons.mpr ⟨e2, (List.forall_mem_cons.mpr ⟨e3, (fun _ h => nomatch h)⟩)⟩)⟩)⟩)

set_option maxRecDepth 100000 in
theorem wx_X12_liveAbove (X : xCtx p R S0 m ag c0 D cA A0 sA 5 cX12_liveAbove RX12 (.code yX12_liveAbove cX12_liveAbove 5 (some .int) :: xG) 0 0) (hi : meth.name = yX12_liveAbove.name) (hroom : 5 + 2 ≤ R.frames ∧ 60 * (5 + 2) ≤ R.locals) {rr : Int32 × xM} (hE : xEnd l D cA sA cX12_liveAbove 5 (some .int) R 0 0 (some (.inl rr.1)) rr.2 p e S0 m ag below meth c0 A0 M0 ad0 Z) (fu : Nat) (s : Nat) (x1 : Int32) (M : xM) (h : F_X12_liveAbove fu s x1 M = some rr) : xWx p l e R S0 m ag below meth c0 D cA A0 sA M0 ad0 5 Z 0 0 0 0 0 [(0, .inr (.inr (12, some s))), (1, .inl x1)] [] M := by
  rw [← q_X12_liveAbove fu s x1 M] at h
  have hT : ∀ w ∈ xG, w ∈ (Cond.code yX12_liveAbove cX12_liveAbove 5 (some .int) :: xG) := fun w hw => List.mem_cons_of_mem _ hw
  refine xrun_sound (nst := 0) (isInit := false) (kd := kdX12) X (xcls_mono hT xclsG) (xpool_mono hT plX12) (fun z => by cases z) (fun idx v hf => xkoE_mono hT (koX12_ok _ (xfind_mem hf))) (xents (ca := _) ?_) (endI hE).1 (endI hE).2 (xcuts (cu := _) ?_) pr_X12_liveAbove.1 pr_X12_liveAbove.2 _ _ _ _ _ _ _ _ (xat_ok pr_X12_liveAbove.1 pr_X12_liveAbove.2).1 (xat_ok pr_X12_liveAbove.1 pr_X12_liveAbove.2).2.1 (xat_ok pr_X12_liveAbove.1 pr_X12_liveAbove.2).2.2 h
  · exact (fun _ h => nomatch h)
  · refine (List.forall_mem_cons.mpr ⟨?_, (fun _ h => nomatch h)⟩)
    · intro bc bs ls st M h
      replace h := xz_some h
      obtain ⟨rfl, rfl, h⟩ := h
      replace h := lR_some h
      obtain ⟨o, e0, h⟩ := h
      replace h := bd_some h
      obtain ⟨s', rfl, h⟩ := h
      replace h := lI_some h
      obtain ⟨x1', e1, h⟩ := h
      replace h := lI_some h
      obtain ⟨x2', e2, h⟩ := h
      replace h := lI_some h
      obtain ⟨x3', e3, h⟩ := h
      replace h := xe_some h
      obtain ⟨rfl, h⟩ := h
      exact xWx_ls (wx_X12_liveAbove_4 X hi hroom hE fu fu s' x1' x2' x3' M h) (List.forall_mem_cons.mpr ⟨e0, (List.forall_mem_cons.mpr ⟨e1, (List.forall_mem_cons.mpr ⟨e2, (List.forall_mem_cons.mpr ⟨e3, (fun _ h => nomatch h)⟩)⟩)⟩)⟩)

theorem ok_X12_liveAbove (l : Launch) (D : va_G) (cA : Nat → ClassId) (sA : Nat → Nat) (fu : Nat) (s : Nat) (x1 : Int32) (M : xM) {rr : Int32 × xM} (h : F_X12_liveAbove fu s x1 M = some rr) : xMet l D cA sA yX12_liveAbove cX12_liveAbove 5 (some .int) xG (5 + 1) 0 0 [.inr (.inr (12, some s)), .inl x1] M (some (.inl rr.1)) rr.2 :=
  xmet_of (by decide +kernel) (Nat.le_of_ble_eq_true rfl) (fun p e s1 m ag below meth c0 A0 ad0 Z X hn hE => wx_X12_liveAbove X hn ⟨Nat.le_refl _, Nat.le_refl _⟩ hE fu s x1 M h)
theorem hw_X12_liveAbove (l : Launch) (D : va_G) (cA : Nat → ClassId) (sA : Nat → Nat) (fu : Nat) {ρ : Type} {r0 : ρ} (kd1 : Nat) : ∀ (as : List xV) (M : xM) (k : Option xV → xM → Option ρ), w_X12_liveAbove fu as M k = some r0 → ∃ v M', xMet l D cA sA yX12_liveAbove cX12_liveAbove 5 (some .int) xG (5 + 1) 0 0 as M v M' ∧ k v M' = some r0 ∧ (kd1 ≠ 2 → ∃ a as', as = .inr (.inr (12, some a)) :: as') := by
  intro as M k h
  unfold w_X12_liveAbove at h
  replace h := pR_some h
  obtain ⟨o, as1, rfl, h⟩ := h
  replace h := bd_some h
  obtain ⟨s, rfl, h⟩ := h
  replace h := pI_some h
  obtain ⟨x1, as1, rfl, h⟩ := h
  replace h := xe_some h
  obtain ⟨rfl, h⟩ := h
  obtain ⟨p1, hp, h⟩ := Option.bind_eq_some_iff.mp h
  exact ⟨_, _, ok_X12_liveAbove l D cA sA fu s x1 M hp, h, fun _ => ⟨_, _, rfl⟩⟩
theorem lk_X12_444 : xLink xG RX12 444 0 yX12_liveAbove 1 := ⟨Or.inl (xg 2113 (by decide +kernel) (by decide +kernel)), (xg 2115 (by decide +kernel) (by decide +kernel)), (xg 121 (by decide +kernel) (by decide +kernel)), (xg 141 (by decide +kernel) (by decide +kernel)), ⟨12, by decide, TX12, 29, rfl⟩⟩
theorem cd_X12_lives : Cond.code yX12_lives cX12_lives 4 (some .int) ∈ xG := (xg 2120 (by decide +kernel) (by decide +kernel))
theorem pr_X12_lives : (∀ e ∈ pX12_lives, xrow cX12_lives 4 kdX12 flX12 0 false RX12 e) ∧ xnext pX12_lives = true := xrows (by decide +kernel)
set_option maxRecDepth 100000 in
theorem wx_X12_lives_57 (X : xCtx p R S0 m ag c0 D cA A0 sA 4 cX12_lives RX12 (.code yX12_lives cX12_lives 4 (some .int) :: xG) 0 0) (hi : meth.name = yX12_lives.name) (hroom : 6 + 2 ≤ R.frames ∧ 60 * (6 + 2) ≤ R.locals) {rr : Int32 × xM} (hE : xEnd l D cA sA cX12_lives 4 (some .int) R 0 0 (some (.inl rr.1)) rr.2 p e S0 m ag below meth c0 A0 M0 ad0 Z) (fu : Nat) (x2 : Int32) (y0 : Int32) (y1 : Nat) (M : xM) (h : J_X12_lives_57 fu x2 y0 y1 M = some rr) : xWx p l e R S0 m ag below meth c0 D cA A0 sA M0 ad0 4 Z 0 0 57 0 0 [(2, .inl x2)] [.inl y0, .inr (.inr (12, some y1))] M := by
  rw [← q_X12_lives_57 fu x2 y0 y1 M] at h
  have hT : ∀ w ∈ xG, w ∈ (Cond.code yX12_lives cX12_lives 4 (some .int) :: xG) := fun w hw => List.mem_cons_of_mem _ hw
  refine xrun_sound (nst := 0) (isInit := false) (kd := kdX12) X (xcls_mono hT xclsG) (xpool_mono hT plX12) (fun z => by cases z) (fun idx v hf => xkoE_mono hT (koX12_ok _ (xfind_mem hf))) (xents (ca := _) ?_) (endI hE).1 (endI hE).2 (xcuts (cu := _) ?_) pr_X12_lives.1 pr_X12_lives.2 _ _ _ _ _ _ _ _ (xat_ok pr_X12_lives.1 pr_X12_lives.2).1 (xat_ok pr_X12_lives.1 pr_X12_lives.2).2.1 (xat_ok pr_X12_lives.1 pr_X12_lives.2).2.2 h
  · exact (fun _ h => nomatch h)
  · exact (fun _ h => nomatch h)

set_option maxRecDepth 100000 in
theorem wx_X12_lives_47 (X : xCtx p R S0 m ag c0 D cA A0 sA 4 cX12_lives RX12 (.code yX12_lives cX12_lives 4 (some .int) :: xG) 0 0) (hi : meth.name = yX12_lives.name) (hroom : 6 + 2 ≤ R.frames ∧ 60 * (6 + 2) ≤ R.locals) {rr : Int32 × xM} (hE : xEnd l D cA sA cX12_lives 4 (some .int) R 0 0 (some (.inl rr.1)) rr.2 p e S0 m ag below meth c0 A0 M0 ad0 Z) (fu : Nat) (s : Nat) (x2 : Int32) (M : xM) (h : J_X12_lives_47 fu s x2 M = some rr) : xWx p l e R S0 m ag below meth c0 D cA A0 sA M0 ad0 4 Z 0 0 47 0 0 [(0, .inr (.inr (12, some s))), (2, .inl x2)] [] M := by
  rw [← q_X12_lives_47 fu s x2 M] at h
  have hT : ∀ w ∈ xG, w ∈ (Cond.code yX12_lives cX12_lives 4 (some .int) :: xG) := fun w hw => List.mem_cons_of_mem _ hw
  refine xrun_sound (nst := 0) (isInit := false) (kd := kdX12) X (xcls_mono hT xclsG) (xpool_mono hT plX12) (fun z => by cases z) (fun idx v hf => xkoE_mono hT (koX12_ok _ (xfind_mem hf))) (xents (ca := _) ?_) (endI hE).1 (endI hE).2 (xcuts (cu := _) ?_) pr_X12_lives.1 pr_X12_lives.2 _ _ _ _ _ _ _ _ (xat_ok pr_X12_lives.1 pr_X12_lives.2).1 (xat_ok pr_X12_lives.1 pr_X12_lives.2).2.1 (xat_ok pr_X12_lives.1 pr_X12_lives.2).2.2 h
  · exact (fun _ h => nomatch h)
  · refine (List.forall_mem_cons.mpr ⟨?_, (fun _ h => nomatch h)⟩)
    · intro bc bs ls st M h
      replace h := xz_some h
      obtain ⟨rfl, rfl, h⟩ := h
      replace h := lI_some h
      obtain ⟨x2', e2, h⟩ := h
      replace h := pI_some h
      obtain ⟨y0', st, rfl, h⟩ := h
      replace h := pR_some h
      obtain ⟨o, st, rfl, h⟩ := h
      replace h := bd_some h
      obtain ⟨y1', rfl, h⟩ := h
      replace h := xe_some h
      obtain ⟨rfl, h⟩ := h
      exact xWx_ls (wx_X12_lives_57 X hi hroom hE fu x2' y0' y1' M h) (List.forall_mem_cons.mpr ⟨e2, (fun _ h => nomatch h)⟩)

set_option maxRecDepth 100000 in
theorem wx_X12_lives_21 (X : xCtx p R S0 m ag c0 D cA A0 sA 4 cX12_lives RX12 (.code yX12_lives cX12_lives 4 (some .int) :: xG) 0 0) (hi : meth.name = yX12_lives.name) (hroom : 6 + 2 ≤ R.frames ∧ 60 * (6 + 2) ≤ R.locals) {rr : Int32 × xM} (hE : xEnd l D cA sA cX12_lives 4 (some .int) R 0 0 (some (.inl rr.1)) rr.2 p e S0 m ag below meth c0 A0 M0 ad0 Z) (fu : Nat) : ∀ (n : Nat) (s : Nat) (x1 : Int32) (x2 : Int32) (x3 : Int32) (M : xM), L_X12_lives_21 fu n s x1 x2 x3 M = some rr → xWx p l e R S0 m ag below meth c0 D cA A0 sA M0 ad0 4 Z 0 0 21 0 0 [(0, .inr (.inr (12, some s))), (1, .inl x1), (2, .inl x2), (3, .inl x3)] [] M := by
  intro n
  induction n with
  | zero => intro s x1 x2 x3 M h; cases h
  | succ n ih =>
    intro s x1 x2 x3 M h
    rw [← q_X12_lives_21 fu n s x1 x2 x3 M] at h
    have hT : ∀ w ∈ xG, w ∈ (Cond.code yX12_lives cX12_lives 4 (some .int) :: xG) := fun w hw => List.mem_cons_of_mem _ hw
    refine xrun_sound (nst := 0) (isInit := false) (kd := kdX12) X (xcls_mono hT xclsG) (xpool_mono hT plX12) (fun z => by cases z) (fun idx v hf => xkoE_mono hT (koX12_ok _ (xfind_mem hf))) (xents (ca := _) ?_) (endI hE).1 (endI hE).2 (xcuts (cu := _) ?_) pr_X12_lives.1 pr_X12_lives.2 _ _ _ _ _ _ _ _ (xat_ok pr_X12_lives.1 pr_X12_lives.2).1 (xat_ok pr_X12_lives.1 pr_X12_lives.2).2.1 (xat_ok pr_X12_lives.1 pr_X12_lives.2).2.2 h
    · exact (List.forall_mem_cons.mpr ⟨(xent_met X (ci := 12) hT cd_X12_numberOf lk_X12_293 rfl (by decide) rfl (by decide +kernel) (fun z => absurd z (by decide)) (hw_X12_numberOf l D cA sA fu 0) (fun _ => ⟨by decide, fun _ => ⟨TX12, 29, rfl⟩⟩) (by constructor <;> omega) (by decide)), (List.forall_mem_cons.mpr ⟨(xent_met X (ci := 12) hT cd_X12_liveAbove lk_X12_444 rfl (by decide) rfl (by decide +kernel) (fun z => absurd z (by decide)) (hw_X12_liveAbove l D cA sA fu 0) (fun _ => ⟨by decide, fun _ => ⟨TX12, 29, rfl⟩⟩) (by constructor <;> omega) (by decide)), (fun _ h => nomatch h)⟩)⟩)
    · refine (List.forall_mem_cons.mpr ⟨?_, (List.forall_mem_cons.mpr ⟨?_, (fun _ h => nomatch h)⟩)⟩)
      · intro bc bs ls st M h
        replace h := xz_some h
        obtain ⟨rfl, rfl, h⟩ := h
        replace h := lR_some h
        obtain ⟨o, e0, h⟩ := h
        replace h := bd_some h
        obtain ⟨s', rfl, h⟩ := h
        replace h := lI_some h
        obtain ⟨x1', e1, h⟩ := h
        replace h := lI_some h
        obtain ⟨x2', e2, h⟩ := h
        replace h := lI_some h
        obtain ⟨x3', e3, h⟩ := h
        replace h := xe_some h
        obtain ⟨rfl, h⟩ := h
        exact xWx_ls (ih s' x1' x2' x3' M h) (List.forall_mem_cons.mpr ⟨e0, (List.forall_mem_cons.mpr ⟨e1, (List.forall_mem_cons.mpr ⟨e2, (List.forall_mem_cons.mpr ⟨e3, (fun _ h => nomatch h)⟩)⟩)⟩)⟩)
      · intro bc bs ls st M h
        replace h := xz_some h
        obtain ⟨rfl, rfl, h⟩ := h
        replace h := lR_some h
        obtain ⟨o, e0, h⟩ := h
        replace h := bd_some h
        obtain ⟨s', rfl, h⟩ := h
        replace h := lI_some h
        obtain ⟨x2', e2, h⟩ := h
        replace h := xe_some h
        obtain ⟨rfl, h⟩ := h
        exact xWx_ls (wx_X12_lives_47 X hi hroom hE fu s' x2' M h) (List.forall_mem_cons.mpr ⟨e0, (List.forall_mem_cons.mpr ⟨e2, (fun _ h => nomatch h)⟩)⟩)

set_option maxRecDepth 100000 in
theorem wx_X12_lives (X : xCtx p R S0 m ag c0 D cA A0 sA 4 cX12_lives RX12 (.code yX12_lives cX12_lives 4 (some .int) :: xG) 0 0) (hi : meth.name = yX12_lives.name) (hroom : 6 + 2 ≤ R.frames ∧ 60 * (6 + 2) ≤ R.locals) {rr : Int32 × xM} (hE : xEnd l D cA sA cX12_lives 4 (some .int) R 0 0 (some (.inl rr.1)) rr.2 p e S0 m ag below meth c0 A0 M0 ad0 Z) (fu : Nat) (s : Nat) (x1 : Int32) (M : xM) (h : F_X12_lives fu s x1 M = some rr) : xWx p l e R S0 m ag below meth c0 D cA A0 sA M0 ad0 4 Z 0 0 0 0 0 [(0, .inr (.inr (12, some s))), (1, .inl x1)] [] M := by
  rw [← q_X12_lives fu s x1 M] at h
  have hT : ∀ w ∈ xG, w ∈ (Cond.code yX12_lives cX12_lives 4 (some .int) :: xG) := fun w hw => List.mem_cons_of_mem _ hw
  refine xrun_sound (nst := 0) (isInit := false) (kd := kdX12) X (xcls_mono hT xclsG) (xpool_mono hT plX12) (fun z => by cases z) (fun idx v hf => xkoE_mono hT (koX12_ok _ (xfind_mem hf))) (xents (ca := _) ?_) (endI hE).1 (endI hE).2 (xcuts (cu := _) ?_) pr_X12_lives.1 pr_X12_lives.2 _ _ _ _ _ _ _ _ (xat_ok pr_X12_lives.1 pr_X12_lives.2).1 (xat_ok pr_X12_lives.1 pr_X12_lives.2).2.1 (xat_ok pr_X12_lives.1 pr_X12_lives.2).2.2 h
  · exact (List.forall_mem_cons.mpr ⟨(xent_met X (ci := 12) hT cd_X12_looks lk_X12_305 rfl (by decide) rfl (by decide +kernel) (fun z => absurd z (by decide)) (hw_X12_looks l D cA sA fu 0) (fun _ => ⟨by decide, fun _ => ⟨TX12, 29, rfl⟩⟩) (by constructor <;> omega) (by decide)), (List.forall_mem_cons.mpr ⟨(xent_met X (ci := 12) hT cd_X12_liveAbove lk_X12_444 rfl (by decide) rfl (by decide +kernel) (fun z => absurd z (by decide)) (hw_X12_liveAbove l D cA sA fu 0) (fun _ => ⟨by decide, fun _ => ⟨TX12, 29, rfl⟩⟩) (by constructor <;> omega) (by decide)), (fun _ h => nomatch h)⟩)⟩)
  · refine (List.forall_mem_cons.mpr ⟨?_, (fun _ h => nomatch h)⟩)
    · intro bc bs ls st M h
      replace h := xz_some h
      obtain ⟨rfl, rfl, h⟩ := h
      replace h := lR_some h
      obtain ⟨o, e0, h⟩ := h
      replace h := bd_some h
      obtain ⟨s', rfl, h⟩ := h
      replace h := lI_some h
      obtain ⟨x1', e1, h⟩ := h
      replace h := lI_some h
      obtain ⟨x2', e2, h⟩ := h
      replace h := lI_some h
      obtain ⟨x3', e3, h⟩ := h
      replace h := xe_some h
      obtain ⟨rfl, h⟩ := h
      exact xWx_ls (wx_X12_lives_21 X hi hroom hE fu fu s' x1' x2' x3' M h) (List.forall_mem_cons.mpr ⟨e0, (List.forall_mem_cons.mpr ⟨e1, (List.forall_mem_cons.mpr ⟨e2, (List.forall_mem_cons.mpr ⟨e3, (fun _ h => nomatch h)⟩)⟩)⟩)⟩)

theorem ok_X12_lives (l : Launch) (D : va_G) (cA : Nat → ClassId) (sA : Nat → Nat) (fu : Nat) (s : Nat) (x1 : Int32) (M : xM) {rr : Int32 × xM} (h : F_X12_lives fu s x1 M = some rr) : xMet l D cA sA yX12_lives cX12_lives 4 (some .int) xG (6 + 1) 0 0 [.inr (.inr (12, some s)), .inl x1] M (some (.inl rr.1)) rr.2 :=
  xmet_of (by decide +kernel) (Nat.le_of_ble_eq_true rfl) (fun p e s1 m ag below meth c0 A0 ad0 Z X hn hE => wx_X12_lives X hn ⟨Nat.le_refl _, Nat.le_refl _⟩ hE fu s x1 M h)
theorem hw_X12_lives (l : Launch) (D : va_G) (cA : Nat → ClassId) (sA : Nat → Nat) (fu : Nat) {ρ : Type} {r0 : ρ} (kd1 : Nat) : ∀ (as : List xV) (M : xM) (k : Option xV → xM → Option ρ), w_X12_lives fu as M k = some r0 → ∃ v M', xMet l D cA sA yX12_lives cX12_lives 4 (some .int) xG (6 + 1) 0 0 as M v M' ∧ k v M' = some r0 ∧ (kd1 ≠ 2 → ∃ a as', as = .inr (.inr (12, some a)) :: as') := by
  intro as M k h
  unfold w_X12_lives at h
  replace h := pR_some h
  obtain ⟨o, as1, rfl, h⟩ := h
  replace h := bd_some h
  obtain ⟨s, rfl, h⟩ := h
  replace h := pI_some h
  obtain ⟨x1, as1, rfl, h⟩ := h
  replace h := xe_some h
  obtain ⟨rfl, h⟩ := h
  obtain ⟨p1, hp, h⟩ := Option.bind_eq_some_iff.mp h
  exact ⟨_, _, ok_X12_lives l D cA sA fu s x1 M hp, h, fun _ => ⟨_, _, rfl⟩⟩
theorem cd_X12_mostSaid : Cond.code yX12_mostSaid cX12_mostSaid 5 (some .int) ∈ xG := (xg 2059 (by decide +kernel) (by decide +kernel))
theorem pr_X12_mostSaid : (∀ e ∈ pX12_mostSaid, xrow cX12_mostSaid 5 kdX12 flX12 0 false RX12 e) ∧ xnext pX12_mostSaid = true := xrows (by decide +kernel)
set_option maxRecDepth 100000 in
theorem wx_X12_mostSaid_26 (X : xCtx p R S0 m ag c0 D cA A0 sA 5 cX12_mostSaid RX12 (.code yX12_mostSaid cX12_mostSaid 5 (some .int) :: xG) 0 0) (hi : meth.name = yX12_mostSaid.name) (hroom : 2 + 2 ≤ R.frames ∧ 60 * (2 + 2) ≤ R.locals) {rr : Int32 × xM} (hE : xEnd l D cA sA cX12_mostSaid 5 (some .int) R 0 0 (some (.inl rr.1)) rr.2 p e S0 m ag below meth c0 A0 M0 ad0 Z) (fu : Nat) : ∀ (n : Nat) (s : Nat) (x1 : Int32) (x2 : Int32) (x3 : Int32) (M : xM), L_X12_mostSaid_26 fu n s x1 x2 x3 M = some rr → xWx p l e R S0 m ag below meth c0 D cA A0 sA M0 ad0 5 Z 0 0 26 0 0 [(0, .inr (.inr (12, some s))), (1, .inl x1), (2, .inl x2), (3, .inl x3)] [] M := by
  intro n
  induction n with
  | zero => intro s x1 x2 x3 M h; cases h
  | succ n ih =>
    intro s x1 x2 x3 M h
    rw [← q_X12_mostSaid_26 fu n s x1 x2 x3 M] at h
    have hT : ∀ w ∈ xG, w ∈ (Cond.code yX12_mostSaid cX12_mostSaid 5 (some .int) :: xG) := fun w hw => List.mem_cons_of_mem _ hw
    refine xrun_sound (nst := 0) (isInit := false) (kd := kdX12) X (xcls_mono hT xclsG) (xpool_mono hT plX12) (fun z => by cases z) (fun idx v hf => xkoE_mono hT (koX12_ok _ (xfind_mem hf))) (xents (ca := _) ?_) (endI hE).1 (endI hE).2 (xcuts (cu := _) ?_) pr_X12_mostSaid.1 pr_X12_mostSaid.2 _ _ _ _ _ _ _ _ (xat_ok pr_X12_mostSaid.1 pr_X12_mostSaid.2).1 (xat_ok pr_X12_mostSaid.1 pr_X12_mostSaid.2).2.1 (xat_ok pr_X12_mostSaid.1 pr_X12_mostSaid.2).2.2 h
    · exact (List.forall_mem_cons.mpr ⟨(xent_met X (ci := 12) hT cd_X12_putsOfAll lk_X12_414 rfl (by decide) rfl (by decide +kernel) (fun z => absurd z (by decide)) (hw_X12_putsOfAll l D cA sA fu 0) (fun _ => ⟨by decide, fun _ => ⟨TX12, 29, rfl⟩⟩) (by constructor <;> omega) (by decide)), (List.forall_mem_cons.mpr ⟨(xent_met X (ci := 12) hT cd_X12_saysIn lk_X12_420 rfl (by decide) rfl (by decide +kernel) (fun z => absurd z (by decide)) (hw_X12_saysIn l D cA sA fu 2 rfl) (fun z => absurd rfl z) (by constructor <;> omega) (by decide)), (List.forall_mem_cons.mpr ⟨(xent_met X (ci := 12) hT cd_X12_isAsSeen lk_X12_428 rfl (by decide) rfl (by decide +kernel) (fun z => absurd z (by decide)) (hw_X12_isAsSeen l D cA sA fu 0) (fun _ => ⟨by decide, fun _ => ⟨TX12, 29, rfl⟩⟩) (by constructor <;> omega) (by decide)), (fun _ h => nomatch h)⟩)⟩)⟩)
    · refine (List.forall_mem_cons.mpr ⟨?_, (fun _ h => nomatch h)⟩)
      · intro bc bs ls st M h
        replace h := xz_some h
        obtain ⟨rfl, rfl, h⟩ := h
        replace h := lR_some h
        obtain ⟨o, e0, h⟩ := h
        replace h := bd_some h
        obtain ⟨s', rfl, h⟩ := h
        replace h := lI_some h
        obtain ⟨x1', e1, h⟩ := h
        replace h := lI_some h
        obtain ⟨x2', e2, h⟩ := h
        replace h := lI_some h
        obtain ⟨x3', e3, h⟩ := h
        replace h := xe_some h
        obtain ⟨rfl, h⟩ := h
        exact xWx_ls (ih s' x1' x2' x3' M h) (List.forall_mem_cons.mpr ⟨e0, (List.forall_mem_cons.mpr ⟨e1, (List.forall_mem_cons.mpr ⟨e2, (List.forall_mem_cons.mpr ⟨e3, (fun _ h => nomatch h)⟩)⟩)⟩)⟩)

set_option maxRecDepth 100000 in
theorem wx_X12_mostSaid_2 (X : xCtx p R S0 m ag c0 D cA A0 sA 5 cX12_mostSaid RX12 (.code yX12_mostSaid cX12_mostSaid 5 (some .int) :: xG) 0 0) (hi : meth.name = yX12_mostSaid.name) (hroom : 2 + 2 ≤ R.frames ∧ 60 * (2 + 2) ≤ R.locals) {rr : Int32 × xM} (hE : xEnd l D cA sA cX12_mostSaid 5 (some .int) R 0 0 (some (.inl rr.1)) rr.2 p e S0 m ag below meth c0 A0 M0 ad0 Z) (fu : Nat) : ∀ (n : Nat) (s : Nat) (x1 : Int32) (x2 : Int32) (M : xM), L_X12_mostSaid_2 fu n s x1 x2 M = some rr → xWx p l e R S0 m ag below meth c0 D cA A0 sA M0 ad0 5 Z 0 0 2 0 0 [(0, .inr (.inr (12, some s))), (1, .inl x1), (2, .inl x2)] [] M := by
  intro n
  induction n with
  | zero => intro s x1 x2 M h; cases h
  | succ n ih =>
    intro s x1 x2 M h
    rw [← q_X12_mostSaid_2 fu n s x1 x2 M] at h
    have hT : ∀ w ∈ xG, w ∈ (Cond.code yX12_mostSaid cX12_mostSaid 5 (some .int) :: xG) := fun w hw => List.mem_cons_of_mem _ hw
    refine xrun_sound (nst := 0) (isInit := false) (kd := kdX12) X (xcls_mono hT xclsG) (xpool_mono hT plX12) (fun z => by cases z) (fun idx v hf => xkoE_mono hT (koX12_ok _ (xfind_mem hf))) (xents (ca := _) ?_) (endI hE).1 (endI hE).2 (xcuts (cu := _) ?_) pr_X12_mostSaid.1 pr_X12_mostSaid.2 _ _ _ _ _ _ _ _ (xat_ok pr_X12_mostSaid.1 pr_X12_mostSaid.2).1 (xat_ok pr_X12_mostSaid.1 pr_X12_mostSaid.2).2.1 (xat_ok pr_X12_mostSaid.1 pr_X12_mostSaid.2).2.2 h
    · exact (fun _ h => nomatch h)
    · refine (List.forall_mem_cons.mpr ⟨?_, (List.forall_mem_cons.mpr ⟨?_, (fun _ h => nomatch h)⟩)⟩)
      · intro bc bs ls st M h
        replace h := xz_some h
        obtain ⟨rfl, rfl, h⟩ := h
        replace h := lR_some h
        obtain ⟨o, e0, h⟩ := h
        replace h := bd_some h
        obtain ⟨s', rfl, h⟩ := h
        replace h := lI_some h
        obtain ⟨x1', e1, h⟩ := h
        replace h := lI_some h
        obtain ⟨x2', e2, h⟩ := h
        replace h := xe_some h
        obtain ⟨rfl, h⟩ := h
        exact xWx_ls (ih s' x1' x2' M h) (List.forall_mem_cons.mpr ⟨e0, (List.forall_mem_cons.mpr ⟨e1, (List.forall_mem_cons.mpr ⟨e2, (fun _ h => nomatch h)⟩)⟩)⟩)
      · intro bc bs ls st M h
        replace h := xz_some h
        obtain ⟨rfl, rfl, h⟩ := h
        replace h := lR_some h
        obtain ⟨o, e0, h⟩ := h
        replace h := bd_some h
        obtain ⟨s', rfl, h⟩ := h
        replace h := lI_some h
        obtain ⟨x1', e1, h⟩ := h
        replace h := lI_some h
        obtain ⟨x2', e2, h⟩ := h
        replace h := lI_some h
        obtain ⟨x3', e3, h⟩ := h
        replace h := xe_some h
        obtain ⟨rfl, h⟩ := h
        exact xWx_ls (wx_X12_mostSaid_26 X hi hroom hE fu fu s' x1' x2' x3' M h) (List.forall_mem_cons.mpr ⟨e0, (List.forall_mem_cons.mpr ⟨e1, (List.forall_mem_cons.mpr ⟨e2, (List.forall_mem_cons.mpr ⟨e3, (fun _ h => nomatch h)⟩)⟩)⟩)⟩)

set_option maxRecDepth 100000 in
theorem wx_X12_mostSaid (X : xCtx p R S0 m ag c0 D cA A0 sA 5 cX12_mostSaid RX12 (.code yX12_mostSaid cX12_mostSaid 5 (some .int) :: xG) 0 0) (hi : meth.name = yX12_mostSaid.name) (hroom : 2 + 2 ≤ R.frames ∧ 60 * (2 + 2) ≤ R.locals) {rr : Int32 × xM} (hE : xEnd l D cA sA cX12_mostSaid 5 (some .int) R 0 0 (some (.inl rr.1)) rr.2 p e S0 m ag below meth c0 A0 M0 ad0 Z) (fu : Nat) (s : Nat) (x1 : Int32) (M : xM) (h : F_X12_mostSaid fu s x1 M = some rr) : xWx p l e R S0 m ag below meth c0 D cA A0 sA M0 ad0 5 Z 0 0 0 0 0 [(0, .inr (.inr (12, some s))), (1, .inl x1)] [] M := by
  rw [← q_X12_mostSaid fu s x1 M] at h
  have hT : ∀ w ∈ xG, w ∈ (Cond.code yX12_mostSaid cX12_mostSaid 5 (some .int) :: xG) := fun w hw => List.mem_cons_of_mem _ hw
  refine xrun_sound (nst := 0) (isInit := false) (kd := kdX12) X (xcls_mono hT xclsG) (xpool_mono hT plX12) (fun z => by cases z) (fun idx v hf => xkoE_mono hT (koX12_ok _ (xfind_mem hf))) (xents (ca := _) ?_) (endI hE).1 (endI hE).2 (xcuts (cu := _) ?_) pr_X12_mostSaid.1 pr_X12_mostSaid.2 _ _ _ _ _ _ _ _ (xat_ok pr_X12_mostSaid.1 pr_X12_mostSaid.2).1 (xat_ok pr_X12_mostSaid.1 pr_X12_mostSaid.2).2.1 (xat_ok pr_X12_mostSaid.1 pr_X12_mostSaid.2).2.2 h
  · exact (fun _ h => nomatch h)
  · refine (List.forall_mem_cons.mpr ⟨?_, (fun _ h => nomatch h)⟩)
    · intro bc bs ls st M h
      replace h := xz_some h
      obtain ⟨rfl, rfl, h⟩ := h
      replace h := lR_some h
      obtain ⟨o, e0, h⟩ := h
      replace h := bd_some h
      obtain ⟨s', rfl, h⟩ := h
      replace h := lI_some h
      obtain ⟨x1', e1, h⟩ := h
      replace h := lI_some h
      obtain ⟨x2', e2, h⟩ := h
      replace h := xe_some h
      obtain ⟨rfl, h⟩ := h
      exact xWx_ls (wx_X12_mostSaid_2 X hi hroom hE fu fu s' x1' x2' M h) (List.forall_mem_cons.mpr ⟨e0, (List.forall_mem_cons.mpr ⟨e1, (List.forall_mem_cons.mpr ⟨e2, (fun _ h => nomatch h)⟩)⟩)⟩)

theorem ok_X12_mostSaid (l : Launch) (D : va_G) (cA : Nat → ClassId) (sA : Nat → Nat) (fu : Nat) (s : Nat) (x1 : Int32) (M : xM) {rr : Int32 × xM} (h : F_X12_mostSaid fu s x1 M = some rr) : xMet l D cA sA yX12_mostSaid cX12_mostSaid 5 (some .int) xG (2 + 1) 0 0 [.inr (.inr (12, some s)), .inl x1] M (some (.inl rr.1)) rr.2 :=
  xmet_of (by decide +kernel) (Nat.le_of_ble_eq_true rfl) (fun p e s1 m ag below meth c0 A0 ad0 Z X hn hE => wx_X12_mostSaid X hn ⟨Nat.le_refl _, Nat.le_refl _⟩ hE fu s x1 M h)
theorem hw_X12_mostSaid (l : Launch) (D : va_G) (cA : Nat → ClassId) (sA : Nat → Nat) (fu : Nat) {ρ : Type} {r0 : ρ} (kd1 : Nat) : ∀ (as : List xV) (M : xM) (k : Option xV → xM → Option ρ), w_X12_mostSaid fu as M k = some r0 → ∃ v M', xMet l D cA sA yX12_mostSaid cX12_mostSaid 5 (some .int) xG (2 + 1) 0 0 as M v M' ∧ k v M' = some r0 ∧ (kd1 ≠ 2 → ∃ a as', as = .inr (.inr (12, some a)) :: as') := by
  intro as M k h
  unfold w_X12_mostSaid at h
  replace h := pR_some h
  obtain ⟨o, as1, rfl, h⟩ := h
  replace h := bd_some h
  obtain ⟨s, rfl, h⟩ := h
  replace h := pI_some h
  obtain ⟨x1, as1, rfl, h⟩ := h
  replace h := xe_some h
  obtain ⟨rfl, h⟩ := h
  obtain ⟨p1, hp, h⟩ := Option.bind_eq_some_iff.mp h
  exact ⟨_, _, ok_X12_mostSaid l D cA sA fu s x1 M hp, h, fun _ => ⟨_, _, rfl⟩⟩
theorem lk_X12_434 : xLink xG RX12 434 0 yX12_mostSaid 1 := ⟨Or.inl (xg 2056 (by decide +kernel) (by decide +kernel)), (xg 2058 (by decide +kernel) (by decide +kernel)), (xg 118 (by decide +kernel) (by decide +kernel)), (xg 141 (by decide +kernel) (by decide +kernel)), ⟨12, by decide, TX12, 29, rfl⟩⟩
theorem cd_X12_look : Cond.code yX12_look cX12_look 5 (some .int) ∈ xG := (xg 2055 (by decide +kernel) (by decide +kernel))
theorem pr_X12_look : (∀ e ∈ pX12_look, xrow cX12_look 5 kdX12 flX12 0 false RX12 e) ∧ xnext pX12_look = true := xrows (by decide +kernel)
set_option maxRecDepth 100000 in
theorem wx_X12_look_51 (X : xCtx p R S0 m ag c0 D cA A0 sA 5 cX12_look RX12 (.code yX12_look cX12_look 5 (some .int) :: xG) 0 0) (hi : meth.name = yX12_look.name) (hroom : 13 + 2 ≤ R.frames ∧ 60 * (13 + 2) ≤ R.locals) {rr : Int32 × xM} (hE : xEnd l D cA sA cX12_look 5 (some .int) R 0 0 (some (.inl rr.1)) rr.2 p e S0 m ag below meth c0 A0 M0 ad0 Z) (fu : Nat) (k14 : Nat → Int32 → Int32 → Int32 → xM → Option (Int32 × xM)) (hk14 : ∀ (s : Nat) (x1 : Int32) (x2 : Int32) (x3 : Int32) (M : xM), k14 s x1 x2 x3 M = some rr → xWx p l e R S0 m ag below meth c0 D cA A0 sA M0 ad0 5 Z 0 0 14 0 0 [(0, .inr (.inr (12, some s))), (1, .inl x1), (2, .inl x2), (3, .inl x3)] [] M) (s : Nat) (x1 : Int32) (x3 : Int32) (x4 : Int32) (y0 : Int32) (M : xM) (h : J_X12_look_51 fu k14 s x1 x3 x4 y0 M = some rr) : xWx p l e R S0 m ag below meth c0 D cA A0 sA M0 ad0 5 Z 0 0 51 0 0 [(0, .inr (.inr (12, some s))), (1, .inl x1), (3, .inl x3), (4, .inl x4)] [.inl y0] M := by
  rw [← q_X12_look_51 fu k14 s x1 x3 x4 y0 M] at h
  have hT : ∀ w ∈ xG, w ∈ (Cond.code yX12_look cX12_look 5 (some .int) :: xG) := fun w hw => List.mem_cons_of_mem _ hw
  refine xrun_sound (nst := 0) (isInit := false) (kd := kdX12) X (xcls_mono hT xclsG) (xpool_mono hT plX12) (fun z => by cases z) (fun idx v hf => xkoE_mono hT (koX12_ok _ (xfind_mem hf))) (xents (ca := _) ?_) (endI hE).1 (endI hE).2 (xcuts (cu := _) ?_) pr_X12_look.1 pr_X12_look.2 _ _ _ _ _ _ _ _ (xat_ok pr_X12_look.1 pr_X12_look.2).1 (xat_ok pr_X12_look.1 pr_X12_look.2).2.1 (xat_ok pr_X12_look.1 pr_X12_look.2).2.2 h
  · exact (fun _ h => nomatch h)
  · refine (List.forall_mem_cons.mpr ⟨?_, (fun _ h => nomatch h)⟩)
    · intro bc bs ls st M h
      replace h := xz_some h
      obtain ⟨rfl, rfl, h⟩ := h
      replace h := lR_some h
      obtain ⟨o, e0, h⟩ := h
      replace h := bd_some h
      obtain ⟨s', rfl, h⟩ := h
      replace h := lI_some h
      obtain ⟨x1', e1, h⟩ := h
      replace h := lI_some h
      obtain ⟨x2', e2, h⟩ := h
      replace h := lI_some h
      obtain ⟨x3', e3, h⟩ := h
      replace h := xe_some h
      obtain ⟨rfl, h⟩ := h
      exact xWx_ls (hk14 s' x1' x2' x3' M h) (List.forall_mem_cons.mpr ⟨e0, (List.forall_mem_cons.mpr ⟨e1, (List.forall_mem_cons.mpr ⟨e2, (List.forall_mem_cons.mpr ⟨e3, (fun _ h => nomatch h)⟩)⟩)⟩)⟩)

set_option maxRecDepth 100000 in
theorem wx_X12_look_14 (X : xCtx p R S0 m ag c0 D cA A0 sA 5 cX12_look RX12 (.code yX12_look cX12_look 5 (some .int) :: xG) 0 0) (hi : meth.name = yX12_look.name) (hroom : 13 + 2 ≤ R.frames ∧ 60 * (13 + 2) ≤ R.locals) {rr : Int32 × xM} (hE : xEnd l D cA sA cX12_look 5 (some .int) R 0 0 (some (.inl rr.1)) rr.2 p e S0 m ag below meth c0 A0 M0 ad0 Z) (fu : Nat) : ∀ (n : Nat) (s : Nat) (x1 : Int32) (x2 : Int32) (x3 : Int32) (M : xM), L_X12_look_14 fu n s x1 x2 x3 M = some rr → xWx p l e R S0 m ag below meth c0 D cA A0 sA M0 ad0 5 Z 0 0 14 0 0 [(0, .inr (.inr (12, some s))), (1, .inl x1), (2, .inl x2), (3, .inl x3)] [] M := by
  intro n
  induction n with
  | zero => intro s x1 x2 x3 M h; cases h
  | succ n ih =>
    intro s x1 x2 x3 M h
    rw [← q_X12_look_14 fu n s x1 x2 x3 M] at h
    have hT : ∀ w ∈ xG, w ∈ (Cond.code yX12_look cX12_look 5 (some .int) :: xG) := fun w hw => List.mem_cons_of_mem _ hw
    refine xrun_sound (nst := 0) (isInit := false) (kd := kdX12) X (xcls_mono hT xclsG) (xpool_mono hT plX12) (fun z => by cases z) (fun idx v hf => xkoE_mono hT (koX12_ok _ (xfind_mem hf))) (xents (ca := _) ?_) (endI hE).1 (endI hE).2 (xcuts (cu := _) ?_) pr_X12_look.1 pr_X12_look.2 _ _ _ _ _ _ _ _ (xat_ok pr_X12_look.1 pr_X12_look.2).1 (xat_ok pr_X12_look.1 pr_X12_look.2).2.1 (xat_ok pr_X12_look.1 pr_X12_look.2).2.2 h
    · exact (List.forall_mem_cons.mpr ⟨(xent_met X (ci := 12) hT cd_X12_isPage lk_X12_345 rfl (by decide) rfl (by decide +kernel) (fun z => absurd z (by decide)) (hw_X12_isPage l D cA sA fu 0) (fun _ => ⟨by decide, fun _ => ⟨TX12, 29, rfl⟩⟩) (by constructor <;> omega) (by decide)), (List.forall_mem_cons.mpr ⟨(xent_met X (ci := 12) hT cd_X12_mostSaid lk_X12_434 rfl (by decide) rfl (by decide +kernel) (fun z => absurd z (by decide)) (hw_X12_mostSaid l D cA sA fu 0) (fun _ => ⟨by decide, fun _ => ⟨TX12, 29, rfl⟩⟩) (by constructor <;> omega) (by decide)), (fun _ h => nomatch h)⟩)⟩)
    · refine (List.forall_mem_cons.mpr ⟨?_, (List.forall_mem_cons.mpr ⟨?_, (fun _ h => nomatch h)⟩)⟩)
      · intro bc bs ls st M h
        replace h := xz_some h
        obtain ⟨rfl, rfl, h⟩ := h
        replace h := lR_some h
        obtain ⟨o, e0, h⟩ := h
        replace h := bd_some h
        obtain ⟨s', rfl, h⟩ := h
        replace h := lI_some h
        obtain ⟨x1', e1, h⟩ := h
        replace h := lI_some h
        obtain ⟨x2', e2, h⟩ := h
        replace h := lI_some h
        obtain ⟨x3', e3, h⟩ := h
        replace h := xe_some h
        obtain ⟨rfl, h⟩ := h
        exact xWx_ls (ih s' x1' x2' x3' M h) (List.forall_mem_cons.mpr ⟨e0, (List.forall_mem_cons.mpr ⟨e1, (List.forall_mem_cons.mpr ⟨e2, (List.forall_mem_cons.mpr ⟨e3, (fun _ h => nomatch h)⟩)⟩)⟩)⟩)
      · intro bc bs ls st M h
        replace h := xz_some h
        obtain ⟨rfl, rfl, h⟩ := h
        replace h := lR_some h
        obtain ⟨o, e0, h⟩ := h
        replace h := bd_some h
        obtain ⟨s', rfl, h⟩ := h
        replace h := lI_some h
        obtain ⟨x1', e1, h⟩ := h
        replace h := lI_some h
        obtain ⟨x3', e3, h⟩ := h
        replace h := lI_some h
        obtain ⟨x4', e4, h⟩ := h
        replace h := pI_some h
        obtain ⟨y0', st, rfl, h⟩ := h
        replace h := xe_some h
        obtain ⟨rfl, h⟩ := h
        exact xWx_ls (wx_X12_look_51 X hi hroom hE fu _ ih s' x1' x3' x4' y0' M h) (List.forall_mem_cons.mpr ⟨e0, (List.forall_mem_cons.mpr ⟨e1, (List.forall_mem_cons.mpr ⟨e3, (List.forall_mem_cons.mpr ⟨e4, (fun _ h => nomatch h)⟩)⟩)⟩)⟩)

set_option maxRecDepth 100000 in
theorem wx_X12_look (X : xCtx p R S0 m ag c0 D cA A0 sA 5 cX12_look RX12 (.code yX12_look cX12_look 5 (some .int) :: xG) 0 0) (hi : meth.name = yX12_look.name) (hroom : 13 + 2 ≤ R.frames ∧ 60 * (13 + 2) ≤ R.locals) {rr : Int32 × xM} (hE : xEnd l D cA sA cX12_look 5 (some .int) R 0 0 (some (.inl rr.1)) rr.2 p e S0 m ag below meth c0 A0 M0 ad0 Z) (fu : Nat) (s : Nat) (M : xM) (h : F_X12_look fu s M = some rr) : xWx p l e R S0 m ag below meth c0 D cA A0 sA M0 ad0 5 Z 0 0 0 0 0 [(0, .inr (.inr (12, some s)))] [] M := by
  rw [← q_X12_look fu s M] at h
  have hT : ∀ w ∈ xG, w ∈ (Cond.code yX12_look cX12_look 5 (some .int) :: xG) := fun w hw => List.mem_cons_of_mem _ hw
  refine xrun_sound (nst := 0) (isInit := false) (kd := kdX12) X (xcls_mono hT xclsG) (xpool_mono hT plX12) (fun z => by cases z) (fun idx v hf => xkoE_mono hT (koX12_ok _ (xfind_mem hf))) (xents (ca := _) ?_) (endI hE).1 (endI hE).2 (xcuts (cu := _) ?_) pr_X12_look.1 pr_X12_look.2 _ _ _ _ _ _ _ _ (xat_ok pr_X12_look.1 pr_X12_look.2).1 (xat_ok pr_X12_look.1 pr_X12_look.2).2.1 (xat_ok pr_X12_look.1 pr_X12_look.2).2.2 h
  · exact (List.forall_mem_cons.mpr ⟨(xent_met X (ci := 12) hT cd_X12_cutsNow lk_X12_431 rfl (by decide) rfl (by decide +kernel) (fun z => absurd z (by decide)) (hw_X12_cutsNow l D cA sA fu 0) (fun _ => ⟨by decide, fun _ => ⟨TX12, 29, rfl⟩⟩) (by constructor <;> omega) (by decide)), (fun _ h => nomatch h)⟩)
  · refine (List.forall_mem_cons.mpr ⟨?_, (fun _ h => nomatch h)⟩)
    · intro bc bs ls st M h
      replace h := xz_some h
      obtain ⟨rfl, rfl, h⟩ := h
      replace h := lR_some h
      obtain ⟨o, e0, h⟩ := h
      replace h := bd_some h
      obtain ⟨s', rfl, h⟩ := h
      replace h := lI_some h
      obtain ⟨x1', e1, h⟩ := h
      replace h := lI_some h
      obtain ⟨x2', e2, h⟩ := h
      replace h := lI_some h
      obtain ⟨x3', e3, h⟩ := h
      replace h := xe_some h
      obtain ⟨rfl, h⟩ := h
      exact xWx_ls (wx_X12_look_14 X hi hroom hE fu fu s' x1' x2' x3' M h) (List.forall_mem_cons.mpr ⟨e0, (List.forall_mem_cons.mpr ⟨e1, (List.forall_mem_cons.mpr ⟨e2, (List.forall_mem_cons.mpr ⟨e3, (fun _ h => nomatch h)⟩)⟩)⟩)⟩)

theorem ok_X12_look (l : Launch) (D : va_G) (cA : Nat → ClassId) (sA : Nat → Nat) (fu : Nat) (s : Nat) (M : xM) {rr : Int32 × xM} (h : F_X12_look fu s M = some rr) : xMet l D cA sA yX12_look cX12_look 5 (some .int) xG (13 + 1) 0 0 [.inr (.inr (12, some s))] M (some (.inl rr.1)) rr.2 :=
  xmet_of (by decide +kernel) (Nat.le_of_ble_eq_true rfl) (fun p e s1 m ag below meth c0 A0 ad0 Z X hn hE => wx_X12_look X hn ⟨Nat.le_refl _, Nat.le_refl _⟩ hE fu s M h)
theorem hw_X12_look (l : Launch) (D : va_G) (cA : Nat → ClassId) (sA : Nat → Nat) (fu : Nat) {ρ : Type} {r0 : ρ} (kd1 : Nat) : ∀ (as : List xV) (M : xM) (k : Option xV → xM → Option ρ), w_X12_look fu as M k = some r0 → ∃ v M', xMet l D cA sA yX12_look cX12_look 5 (some .int) xG (13 + 1) 0 0 as M v M' ∧ k v M' = some r0 ∧ (kd1 ≠ 2 → ∃ a as', as = .inr (.inr (12, some a)) :: as') := by
  intro as M k h
  unfold w_X12_look at h
  replace h := pR_some h
  obtain ⟨o, as1, rfl, h⟩ := h
  replace h := bd_some h
  obtain ⟨s, rfl, h⟩ := h
  replace h := xe_some h
  obtain ⟨rfl, h⟩ := h
  obtain ⟨p1, hp, h⟩ := Option.bind_eq_some_iff.mp h
  exact ⟨_, _, ok_X12_look l D cA sA fu s M hp, h, fun _ => ⟨_, _, rfl⟩⟩
theorem cd_X12_loses : Cond.code yX12_loses cX12_loses 3 (some .int) ∈ xG := (xg 2103 (by decide +kernel) (by decide +kernel))
theorem pr_X12_loses : (∀ e ∈ pX12_loses, xrow cX12_loses 3 kdX12 flX12 0 false RX12 e) ∧ xnext pX12_loses = true := xrows (by decide +kernel)
set_option maxRecDepth 100000 in
theorem wx_X12_loses_13 (X : xCtx p R S0 m ag c0 D cA A0 sA 3 cX12_loses RX12 (.code yX12_loses cX12_loses 3 (some .int) :: xG) 0 0) (hi : meth.name = yX12_loses.name) (hroom : 6 + 2 ≤ R.frames ∧ 60 * (6 + 2) ≤ R.locals) {rr : Int32 × xM} (hE : xEnd l D cA sA cX12_loses 3 (some .int) R 0 0 (some (.inl rr.1)) rr.2 p e S0 m ag below meth c0 A0 M0 ad0 Z) (fu : Nat) : ∀ (n : Nat) (s : Nat) (x1 : Int32) (x2 : Int32) (M : xM), L_X12_loses_13 fu n s x1 x2 M = some rr → xWx p l e R S0 m ag below meth c0 D cA A0 sA M0 ad0 3 Z 0 0 13 0 0 [(0, .inr (.inr (12, some s))), (1, .inl x1), (2, .inl x2)] [] M := by
  intro n
  induction n with
  | zero => intro s x1 x2 M h; cases h
  | succ n ih =>
    intro s x1 x2 M h
    rw [← q_X12_loses_13 fu n s x1 x2 M] at h
    have hT : ∀ w ∈ xG, w ∈ (Cond.code yX12_loses cX12_loses 3 (some .int) :: xG) := fun w hw => List.mem_cons_of_mem _ hw
    refine xrun_sound (nst := 0) (isInit := false) (kd := kdX12) X (xcls_mono hT xclsG) (xpool_mono hT plX12) (fun z => by cases z) (fun idx v hf => xkoE_mono hT (koX12_ok _ (xfind_mem hf))) (xents (ca := _) ?_) (endI hE).1 (endI hE).2 (xcuts (cu := _) ?_) pr_X12_loses.1 pr_X12_loses.2 _ _ _ _ _ _ _ _ (xat_ok pr_X12_loses.1 pr_X12_loses.2).1 (xat_ok pr_X12_loses.1 pr_X12_loses.2).2.1 (xat_ok pr_X12_loses.1 pr_X12_loses.2).2.2 h
    · exact (fun _ h => nomatch h)
    · refine (List.forall_mem_cons.mpr ⟨?_, (fun _ h => nomatch h)⟩)
      · intro bc bs ls st M h
        replace h := xz_some h
        obtain ⟨rfl, rfl, h⟩ := h
        replace h := lR_some h
        obtain ⟨o, e0, h⟩ := h
        replace h := bd_some h
        obtain ⟨s', rfl, h⟩ := h
        replace h := lI_some h
        obtain ⟨x1', e1, h⟩ := h
        replace h := lI_some h
        obtain ⟨x2', e2, h⟩ := h
        replace h := xe_some h
        obtain ⟨rfl, h⟩ := h
        exact xWx_ls (ih s' x1' x2' M h) (List.forall_mem_cons.mpr ⟨e0, (List.forall_mem_cons.mpr ⟨e1, (List.forall_mem_cons.mpr ⟨e2, (fun _ h => nomatch h)⟩)⟩)⟩)

set_option maxRecDepth 100000 in
theorem wx_X12_loses (X : xCtx p R S0 m ag c0 D cA A0 sA 3 cX12_loses RX12 (.code yX12_loses cX12_loses 3 (some .int) :: xG) 0 0) (hi : meth.name = yX12_loses.name) (hroom : 6 + 2 ≤ R.frames ∧ 60 * (6 + 2) ≤ R.locals) {rr : Int32 × xM} (hE : xEnd l D cA sA cX12_loses 3 (some .int) R 0 0 (some (.inl rr.1)) rr.2 p e S0 m ag below meth c0 A0 M0 ad0 Z) (fu : Nat) (s : Nat) (M : xM) (h : F_X12_loses fu s M = some rr) : xWx p l e R S0 m ag below meth c0 D cA A0 sA M0 ad0 3 Z 0 0 0 0 0 [(0, .inr (.inr (12, some s)))] [] M := by
  rw [← q_X12_loses fu s M] at h
  have hT : ∀ w ∈ xG, w ∈ (Cond.code yX12_loses cX12_loses 3 (some .int) :: xG) := fun w hw => List.mem_cons_of_mem _ hw
  refine xrun_sound (nst := 0) (isInit := false) (kd := kdX12) X (xcls_mono hT xclsG) (xpool_mono hT plX12) (fun z => by cases z) (fun idx v hf => xkoE_mono hT (koX12_ok _ (xfind_mem hf))) (xents (ca := _) ?_) (endI hE).1 (endI hE).2 (xcuts (cu := _) ?_) pr_X12_loses.1 pr_X12_loses.2 _ _ _ _ _ _ _ _ (xat_ok pr_X12_loses.1 pr_X12_loses.2).1 (xat_ok pr_X12_loses.1 pr_X12_loses.2).2.1 (xat_ok pr_X12_loses.1 pr_X12_loses.2).2.2 h
  · exact (List.forall_mem_cons.mpr ⟨(xent_met X (ci := 12) hT cd_X12_finds lk_X12_440 rfl (by decide) rfl (by decide +kernel) (fun z => absurd z (by decide)) (hw_X12_finds l D cA sA fu 0) (fun _ => ⟨by decide, fun _ => ⟨TX12, 29, rfl⟩⟩) (by constructor <;> omega) (by decide)), (fun _ h => nomatch h)⟩)
  · refine (List.forall_mem_cons.mpr ⟨?_, (fun _ h => nomatch h)⟩)
    · intro bc bs ls st M h
      replace h := xz_some h
      obtain ⟨rfl, rfl, h⟩ := h
      replace h := lR_some h
      obtain ⟨o, e0, h⟩ := h
      replace h := bd_some h
      obtain ⟨s', rfl, h⟩ := h
      replace h := lI_some h
      obtain ⟨x1', e1, h⟩ := h
      replace h := lI_some h
      obtain ⟨x2', e2, h⟩ := h
      replace h := xe_some h
      obtain ⟨rfl, h⟩ := h
      exact xWx_ls (wx_X12_loses_13 X hi hroom hE fu fu s' x1' x2' M h) (List.forall_mem_cons.mpr ⟨e0, (List.forall_mem_cons.mpr ⟨e1, (List.forall_mem_cons.mpr ⟨e2, (fun _ h => nomatch h)⟩)⟩)⟩)

theorem ok_X12_loses (l : Launch) (D : va_G) (cA : Nat → ClassId) (sA : Nat → Nat) (fu : Nat) (s : Nat) (M : xM) {rr : Int32 × xM} (h : F_X12_loses fu s M = some rr) : xMet l D cA sA yX12_loses cX12_loses 3 (some .int) xG (6 + 1) 0 0 [.inr (.inr (12, some s))] M (some (.inl rr.1)) rr.2 :=
  xmet_of (by decide +kernel) (Nat.le_of_ble_eq_true rfl) (fun p e s1 m ag below meth c0 A0 ad0 Z X hn hE => wx_X12_loses X hn ⟨Nat.le_refl _, Nat.le_refl _⟩ hE fu s M h)
theorem hw_X12_loses (l : Launch) (D : va_G) (cA : Nat → ClassId) (sA : Nat → Nat) (fu : Nat) {ρ : Type} {r0 : ρ} (kd1 : Nat) : ∀ (as : List xV) (M : xM) (k : Option xV → xM → Option ρ), w_X12_loses fu as M k = some r0 → ∃ v M', xMet l D cA sA yX12_loses cX12_loses 3 (some .int) xG (6 + 1) 0 0 as M v M' ∧ k v M' = some r0 ∧ (kd1 ≠ 2 → ∃ a as', as = .inr (.inr (12, some a)) :: as') := by
  intro as M k h
  unfold w_X12_loses at h
  replace h := pR_some h
  obtain ⟨o, as1, rfl, h⟩ := h
  replace h := bd_some h
  obtain ⟨s, rfl, h⟩ := h
  replace h := xe_some h
  obtain ⟨rfl, h⟩ := h
  obtain ⟨p1, hp, h⟩ := Option.bind_eq_some_iff.mp h
  exact ⟨_, _, ok_X12_loses l D cA sA fu s M hp, h, fun _ => ⟨_, _, rfl⟩⟩
theorem cd_X12_mark : Cond.code yX12_mark cX12_mark 3 (some .boolean) ∈ xG := (xg 2156 (by decide +kernel) (by decide +kernel))
theorem pr_X12_mark : (∀ e ∈ pX12_mark, xrow cX12_mark 3 kdX12 flX12 0 false RX12 e) ∧ xnext pX12_mark = true := xrows (by decide +kernel)
set_option maxRecDepth 100000 in
theorem wx_X12_mark_52 (X : xCtx p R S0 m ag c0 D cA A0 sA 3 cX12_mark RX12 (.code yX12_mark cX12_mark 3 (some .boolean) :: xG) 0 0) (hi : meth.name = yX12_mark.name) (hroom : 1 + 2 ≤ R.frames ∧ 60 * (1 + 2) ≤ R.locals) {rr : Int32 × xM} (hE : xEnd l D cA sA cX12_mark 3 (some .boolean) R 0 0 (some (.inl rr.1)) rr.2 p e S0 m ag below meth c0 A0 M0 ad0 Z) (fu : Nat) (x1 : Int32) (x2 : Int32) (y0 : Int32) (y1 : Nat) (M : xM) (h : J_X12_mark_52 fu x1 x2 y0 y1 M = some rr) : xWx p l e R S0 m ag below meth c0 D cA A0 sA M0 ad0 3 Z 0 0 52 0 0 [(1, .inl x1), (2, .inl x2)] [.inl y0, .inr (.inr (12, some y1))] M := by
  rw [← q_X12_mark_52 fu x1 x2 y0 y1 M] at h
  have hT : ∀ w ∈ xG, w ∈ (Cond.code yX12_mark cX12_mark 3 (some .boolean) :: xG) := fun w hw => List.mem_cons_of_mem _ hw
  refine xrun_sound (nst := 0) (isInit := false) (kd := kdX12) X (xcls_mono hT xclsG) (xpool_mono hT plX12) (fun z => by cases z) (fun idx v hf => xkoE_mono hT (koX12_ok _ (xfind_mem hf))) (xents (ca := _) ?_) (endZ hE).1 (endZ hE).2 (xcuts (cu := _) ?_) pr_X12_mark.1 pr_X12_mark.2 _ _ _ _ _ _ _ _ (xat_ok pr_X12_mark.1 pr_X12_mark.2).1 (xat_ok pr_X12_mark.1 pr_X12_mark.2).2.1 (xat_ok pr_X12_mark.1 pr_X12_mark.2).2.2 h
  · exact (List.forall_mem_cons.mpr ⟨(xent_met X (ci := 12) hT cd_X12_moves lk_X12_406 rfl (by decide) rfl (by decide +kernel) (fun z => absurd z (by decide)) (hw_X12_moves l D cA sA fu 0) (fun _ => ⟨by decide, fun _ => ⟨TX12, 29, rfl⟩⟩) (by constructor <;> omega) (by decide)), (fun _ h => nomatch h)⟩)
  · exact (fun _ h => nomatch h)

set_option maxRecDepth 100000 in
theorem wx_X12_mark_29 (X : xCtx p R S0 m ag c0 D cA A0 sA 3 cX12_mark RX12 (.code yX12_mark cX12_mark 3 (some .boolean) :: xG) 0 0) (hi : meth.name = yX12_mark.name) (hroom : 1 + 2 ≤ R.frames ∧ 60 * (1 + 2) ≤ R.locals) {rr : Int32 × xM} (hE : xEnd l D cA sA cX12_mark 3 (some .boolean) R 0 0 (some (.inl rr.1)) rr.2 p e S0 m ag below meth c0 A0 M0 ad0 Z) (fu : Nat) (s : Nat) (x1 : Int32) (x2 : Int32) (M : xM) (h : J_X12_mark_29 fu s x1 x2 M = some rr) : xWx p l e R S0 m ag below meth c0 D cA A0 sA M0 ad0 3 Z 0 0 29 0 0 [(0, .inr (.inr (12, some s))), (1, .inl x1), (2, .inl x2)] [] M := by
  rw [← q_X12_mark_29 fu s x1 x2 M] at h
  have hT : ∀ w ∈ xG, w ∈ (Cond.code yX12_mark cX12_mark 3 (some .boolean) :: xG) := fun w hw => List.mem_cons_of_mem _ hw
  refine xrun_sound (nst := 0) (isInit := false) (kd := kdX12) X (xcls_mono hT xclsG) (xpool_mono hT plX12) (fun z => by cases z) (fun idx v hf => xkoE_mono hT (koX12_ok _ (xfind_mem hf))) (xents (ca := _) ?_) (endZ hE).1 (endZ hE).2 (xcuts (cu := _) ?_) pr_X12_mark.1 pr_X12_mark.2 _ _ _ _ _ _ _ _ (xat_ok pr_X12_mark.1 pr_X12_mark.2).1 (xat_ok pr_X12_mark.1 pr_X12_mark.2).2.1 (xat_ok pr_X12_mark.1 pr_X12_mark.2).2.2 h
  · exact (fun _ h => nomatch h)
  · refine (List.forall_mem_cons.mpr ⟨?_, (fun _ h => nomatch h)⟩)
    · intro bc bs ls st M h
      replace h := xz_some h
      obtain ⟨rfl, rfl, h⟩ := h
      replace h := lI_some h
      obtain ⟨x1', e1, h⟩ := h
      replace h := lI_some h
      obtain ⟨x2', e2, h⟩ := h
      replace h := pI_some h
      obtain ⟨y0', st, rfl, h⟩ := h
      replace h := pR_some h
      obtain ⟨o, st, rfl, h⟩ := h
      replace h := bd_some h
      obtain ⟨y1', rfl, h⟩ := h
      replace h := xe_some h
      obtain ⟨rfl, h⟩ := h
      exact xWx_ls (wx_X12_mark_52 X hi hroom hE fu x1' x2' y0' y1' M h) (List.forall_mem_cons.mpr ⟨e1, (List.forall_mem_cons.mpr ⟨e2, (fun _ h => nomatch h)⟩)⟩)

set_option maxRecDepth 100000 in
theorem wx_X12_mark (X : xCtx p R S0 m ag c0 D cA A0 sA 3 cX12_mark RX12 (.code yX12_mark cX12_mark 3 (some .boolean) :: xG) 0 0) (hi : meth.name = yX12_mark.name) (hroom : 1 + 2 ≤ R.frames ∧ 60 * (1 + 2) ≤ R.locals) {rr : Int32 × xM} (hE : xEnd l D cA sA cX12_mark 3 (some .boolean) R 0 0 (some (.inl rr.1)) rr.2 p e S0 m ag below meth c0 A0 M0 ad0 Z) (fu : Nat) (s : Nat) (x1 : Int32) (x2 : Int32) (M : xM) (h : F_X12_mark fu s x1 x2 M = some rr) : xWx p l e R S0 m ag below meth c0 D cA A0 sA M0 ad0 3 Z 0 0 0 0 0 [(0, .inr (.inr (12, some s))), (1, .inl x1), (2, .inl x2)] [] M := by
  rw [← q_X12_mark fu s x1 x2 M] at h
  have hT : ∀ w ∈ xG, w ∈ (Cond.code yX12_mark cX12_mark 3 (some .boolean) :: xG) := fun w hw => List.mem_cons_of_mem _ hw
  refine xrun_sound (nst := 0) (isInit := false) (kd := kdX12) X (xcls_mono hT xclsG) (xpool_mono hT plX12) (fun z => by cases z) (fun idx v hf => xkoE_mono hT (koX12_ok _ (xfind_mem hf))) (xents (ca := _) ?_) (endZ hE).1 (endZ hE).2 (xcuts (cu := _) ?_) pr_X12_mark.1 pr_X12_mark.2 _ _ _ _ _ _ _ _ (xat_ok pr_X12_mark.1 pr_X12_mark.2).1 (xat_ok pr_X12_mark.1 pr_X12_mark.2).2.1 (xat_ok pr_X12_mark.1 pr_X12_mark.2).2.2 h
  · exact (List.forall_mem_cons.mpr ⟨(xent_met X (ci := 12) hT cd_X12_within lk_X12_380 rfl (by decide) rfl (by decide +kernel) (fun z => absurd z (by decide)) (hw_X12_within l D cA sA fu 2 rfl) (fun z => absurd rfl z) (by constructor <;> omega) (by decide)), (fun _ h => nomatch h)⟩)
  · refine (List.forall_mem_cons.mpr ⟨?_, (fun _ h => nomatch h)⟩)
    · intro bc bs ls st M h
      replace h := xz_some h
      obtain ⟨rfl, rfl, h⟩ := h
      replace h := lR_some h
      obtain ⟨o, e0, h⟩ := h
      replace h := bd_some h
      obtain ⟨s', rfl, h⟩ := h
      replace h := lI_some h
      obtain ⟨x1', e1, h⟩ := h
      replace h := lI_some h
      obtain ⟨x2', e2, h⟩ := h
      replace h := xe_some h
      obtain ⟨rfl, h⟩ := h
      exact xWx_ls (wx_X12_mark_29 X hi hroom hE fu s' x1' x2' M h) (List.forall_mem_cons.mpr ⟨e0, (List.forall_mem_cons.mpr ⟨e1, (List.forall_mem_cons.mpr ⟨e2, (fun _ h => nomatch h)⟩)⟩)⟩)

theorem ok_X12_mark (l : Launch) (D : va_G) (cA : Nat → ClassId) (sA : Nat → Nat) (fu : Nat) (s : Nat) (x1 : Int32) (x2 : Int32) (M : xM) {rr : Int32 × xM} (h : F_X12_mark fu s x1 x2 M = some rr) : xMet l D cA sA yX12_mark cX12_mark 3 (some .boolean) xG (1 + 1) 0 0 [.inr (.inr (12, some s)), .inl x1, .inl x2] M (some (.inl rr.1)) rr.2 :=
  xmet_of (by decide +kernel) (Nat.le_of_ble_eq_true rfl) (fun p e s1 m ag below meth c0 A0 ad0 Z X hn hE => wx_X12_mark X hn ⟨Nat.le_refl _, Nat.le_refl _⟩ hE fu s x1 x2 M h)
theorem hw_X12_mark (l : Launch) (D : va_G) (cA : Nat → ClassId) (sA : Nat → Nat) (fu : Nat) {ρ : Type} {r0 : ρ} (kd1 : Nat) : ∀ (as : List xV) (M : xM) (k : Option xV → xM → Option ρ), w_X12_mark fu as M k = some r0 → ∃ v M', xMet l D cA sA yX12_mark cX12_mark 3 (some .boolean) xG (1 + 1) 0 0 as M v M' ∧ k v M' = some r0 ∧ (kd1 ≠ 2 → ∃ a as', as = .inr (.inr (12, some a)) :: as') := by
  intro as M k h
  unfold w_X12_mark at h
  replace h := pR_some h
  obtain ⟨o, as1, rfl, h⟩ := h
  replace h := bd_some h
  obtain ⟨s, rfl, h⟩ := h
  replace h := pI_some h
  obtain ⟨x1, as1, rfl, h⟩ := h
  replace h := pI_some h
  obtain ⟨x2, as1, rfl, h⟩ := h
  replace h := xe_some h
  obtain ⟨rfl, h⟩ := h
  obtain ⟨p1, hp, h⟩ := Option.bind_eq_some_iff.mp h
  exact ⟨_, _, ok_X12_mark l D cA sA fu s x1 x2 M hp, h, fun _ => ⟨_, _, rfl⟩⟩
theorem cd_X12_may : Cond.code yX12_may cX12_may 3 (some .boolean) ∈ xG := (xg 2067 (by decide +kernel) (by decide +kernel))
theorem pr_X12_may : (∀ e ∈ pX12_may, xrow cX12_may 3 kdX12 flX12 0 false RX12 e) ∧ xnext pX12_may = true := xrows (by decide +kernel)
set_option maxRecDepth 100000 in
theorem wx_X12_may (X : xCtx p R S0 m ag c0 D cA A0 sA 3 cX12_may RX12 (.code yX12_may cX12_may 3 (some .boolean) :: xG) 0 0) (hi : meth.name = yX12_may.name) (hroom : 5 + 2 ≤ R.frames ∧ 60 * (5 + 2) ≤ R.locals) {rr : Int32 × xM} (hE : xEnd l D cA sA cX12_may 3 (some .boolean) R 0 0 (some (.inl rr.1)) rr.2 p e S0 m ag below meth c0 A0 M0 ad0 Z) (fu : Nat) (s : Nat) (x1 : Int32) (x2 : Int32) (M : xM) (h : F_X12_may fu s x1 x2 M = some rr) : xWx p l e R S0 m ag below meth c0 D cA A0 sA M0 ad0 3 Z 0 0 0 0 0 [(0, .inr (.inr (12, some s))), (1, .inl x1), (2, .inl x2)] [] M := by
  rw [← q_X12_may fu s x1 x2 M] at h
  have hT : ∀ w ∈ xG, w ∈ (Cond.code yX12_may cX12_may 3 (some .boolean) :: xG) := fun w hw => List.mem_cons_of_mem _ hw
  refine xrun_sound (nst := 0) (isInit := false) (kd := kdX12) X (xcls_mono hT xclsG) (xpool_mono hT plX12) (fun z => by cases z) (fun idx v hf => xkoE_mono hT (koX12_ok _ (xfind_mem hf))) (xents (ca := _) ?_) (endZ hE).1 (endZ hE).2 (xcuts (cu := _) ?_) pr_X12_may.1 pr_X12_may.2 _ _ _ _ _ _ _ _ (xat_ok pr_X12_may.1 pr_X12_may.2).1 (xat_ok pr_X12_may.1 pr_X12_may.2).2.1 (xat_ok pr_X12_may.1 pr_X12_may.2).2.2 h
  · exact (List.forall_mem_cons.mpr ⟨(xent_met X (ci := 12) hT cd_X12_mayWriteBut lk_X12_351 rfl (by decide) rfl (by decide +kernel) (fun z => absurd z (by decide)) (hw_X12_mayWriteBut l D cA sA fu 0) (fun _ => ⟨by decide, fun _ => ⟨TX12, 29, rfl⟩⟩) (by constructor <;> omega) (by decide)), (List.forall_mem_cons.mpr ⟨(xent_met X (ci := 12) hT cd_X12_hasRoom lk_X12_358 rfl (by decide) rfl (by decide +kernel) (fun z => absurd z (by decide)) (hw_X12_hasRoom l D cA sA fu 0) (fun _ => ⟨by decide, fun _ => ⟨TX12, 29, rfl⟩⟩) (by constructor <;> omega) (by decide)), (fun _ h => nomatch h)⟩)⟩)
  · exact (fun _ h => nomatch h)

theorem ok_X12_may (l : Launch) (D : va_G) (cA : Nat → ClassId) (sA : Nat → Nat) (fu : Nat) (s : Nat) (x1 : Int32) (x2 : Int32) (M : xM) {rr : Int32 × xM} (h : F_X12_may fu s x1 x2 M = some rr) : xMet l D cA sA yX12_may cX12_may 3 (some .boolean) xG (5 + 1) 0 0 [.inr (.inr (12, some s)), .inl x1, .inl x2] M (some (.inl rr.1)) rr.2 :=
  xmet_of (by decide +kernel) (Nat.le_of_ble_eq_true rfl) (fun p e s1 m ag below meth c0 A0 ad0 Z X hn hE => wx_X12_may X hn ⟨Nat.le_refl _, Nat.le_refl _⟩ hE fu s x1 x2 M h)
theorem hw_X12_may (l : Launch) (D : va_G) (cA : Nat → ClassId) (sA : Nat → Nat) (fu : Nat) {ρ : Type} {r0 : ρ} (kd1 : Nat) : ∀ (as : List xV) (M : xM) (k : Option xV → xM → Option ρ), w_X12_may fu as M k = some r0 → ∃ v M', xMet l D cA sA yX12_may cX12_may 3 (some .boolean) xG (5 + 1) 0 0 as M v M' ∧ k v M' = some r0 ∧ (kd1 ≠ 2 → ∃ a as', as = .inr (.inr (12, some a)) :: as') := by
  intro as M k h
  unfold w_X12_may at h
  replace h := pR_some h
  obtain ⟨o, as1, rfl, h⟩ := h
  replace h := bd_some h
  obtain ⟨s, rfl, h⟩ := h
  replace h := pI_some h
  obtain ⟨x1, as1, rfl, h⟩ := h
  replace h := pI_some h
  obtain ⟨x2, as1, rfl, h⟩ := h
  replace h := xe_some h
  obtain ⟨rfl, h⟩ := h
  obtain ⟨p1, hp, h⟩ := Option.bind_eq_some_iff.mp h
  exact ⟨_, _, ok_X12_may l D cA sA fu s x1 x2 M hp, h, fun _ => ⟨_, _, rfl⟩⟩
theorem cd_X12_mount : Cond.code yX12_mount cX12_mount 1 (some .int) ∈ xG := (xg 1979 (by decide +kernel) (by decide +kernel))
theorem pr_X12_mount : (∀ e ∈ pX12_mount, xrow cX12_mount 1 kdX12 flX12 0 false RX12 e) ∧ xnext pX12_mount = true := xrows (by decide +kernel)
set_option maxRecDepth 100000 in
theorem wx_X12_mount (X : xCtx p R S0 m ag c0 D cA A0 sA 1 cX12_mount RX12 (.code yX12_mount cX12_mount 1 (some .int) :: xG) 0 0) (hi : meth.name = yX12_mount.name) (hroom : 5 + 2 ≤ R.frames ∧ 60 * (5 + 2) ≤ R.locals) {rr : Int32 × xM} (hE : xEnd l D cA sA cX12_mount 1 (some .int) R 0 0 (some (.inl rr.1)) rr.2 p e S0 m ag below meth c0 A0 M0 ad0 Z) (fu : Nat) (s : Nat) (M : xM) (h : F_X12_mount fu s M = some rr) : xWx p l e R S0 m ag below meth c0 D cA A0 sA M0 ad0 1 Z 0 0 0 0 0 [(0, .inr (.inr (12, some s)))] [] M := by
  rw [← q_X12_mount fu s M] at h
  have hT : ∀ w ∈ xG, w ∈ (Cond.code yX12_mount cX12_mount 1 (some .int) :: xG) := fun w hw => List.mem_cons_of_mem _ hw
  refine xrun_sound (nst := 0) (isInit := false) (kd := kdX12) X (xcls_mono hT xclsG) (xpool_mono hT plX12) (fun z => by cases z) (fun idx v hf => xkoE_mono hT (koX12_ok _ (xfind_mem hf))) (xents (ca := _) ?_) (endI hE).1 (endI hE).2 (xcuts (cu := _) ?_) pr_X12_mount.1 pr_X12_mount.2 _ _ _ _ _ _ _ _ (xat_ok pr_X12_mount.1 pr_X12_mount.2).1 (xat_ok pr_X12_mount.1 pr_X12_mount.2).2.1 (xat_ok pr_X12_mount.1 pr_X12_mount.2).2.2 h
  · exact (List.forall_mem_cons.mpr ⟨(xent_met X (ci := 12) hT cd_X12_mounts lk_X12_393 rfl (by decide) rfl (by decide +kernel) (fun z => absurd z (by decide)) (hw_X12_mounts l D cA sA fu 0) (fun _ => ⟨by decide, fun _ => ⟨TX12, 29, rfl⟩⟩) (by constructor <;> omega) (by decide)), (fun _ h => nomatch h)⟩)
  · exact (fun _ h => nomatch h)

theorem ok_X12_mount (l : Launch) (D : va_G) (cA : Nat → ClassId) (sA : Nat → Nat) (fu : Nat) (s : Nat) (M : xM) {rr : Int32 × xM} (h : F_X12_mount fu s M = some rr) : xMet l D cA sA yX12_mount cX12_mount 1 (some .int) xG (5 + 1) 0 0 [.inr (.inr (12, some s))] M (some (.inl rr.1)) rr.2 :=
  xmet_of (by decide +kernel) (Nat.le_of_ble_eq_true rfl) (fun p e s1 m ag below meth c0 A0 ad0 Z X hn hE => wx_X12_mount X hn ⟨Nat.le_refl _, Nat.le_refl _⟩ hE fu s M h)
theorem hw_X12_mount (l : Launch) (D : va_G) (cA : Nat → ClassId) (sA : Nat → Nat) (fu : Nat) {ρ : Type} {r0 : ρ} (kd1 : Nat) : ∀ (as : List xV) (M : xM) (k : Option xV → xM → Option ρ), w_X12_mount fu as M k = some r0 → ∃ v M', xMet l D cA sA yX12_mount cX12_mount 1 (some .int) xG (5 + 1) 0 0 as M v M' ∧ k v M' = some r0 ∧ (kd1 ≠ 2 → ∃ a as', as = .inr (.inr (12, some a)) :: as') := by
  intro as M k h
  unfold w_X12_mount at h
  replace h := pR_some h
  obtain ⟨o, as1, rfl, h⟩ := h
  replace h := bd_some h
  obtain ⟨s, rfl, h⟩ := h
  replace h := xe_some h
  obtain ⟨rfl, h⟩ := h
  obtain ⟨p1, hp, h⟩ := Option.bind_eq_some_iff.mp h
  exact ⟨_, _, ok_X12_mount l D cA sA fu s M hp, h, fun _ => ⟨_, _, rfl⟩⟩
theorem cd_X12_nameAt : Cond.code yX12_nameAt cX12_nameAt 5 (some .int) ∈ xG := (xg 1698 (by decide +kernel) (by decide +kernel))
theorem pr_X12_nameAt : (∀ e ∈ pX12_nameAt, xrow cX12_nameAt 5 kdX12 flX12 0 false RX12 e) ∧ xnext pX12_nameAt = true := xrows (by decide +kernel)
set_option maxRecDepth 100000 in
theorem wx_X12_nameAt_5 (X : xCtx p R S0 m ag c0 D cA A0 sA 5 cX12_nameAt RX12 (.code yX12_nameAt cX12_nameAt 5 (some .int) :: xG) 0 0) (hi : meth.name = yX12_nameAt.name) (hroom : 0 + 2 ≤ R.frames ∧ 60 * (0 + 2) ≤ R.locals) {rr : Int32 × xM} (hE : xEnd l D cA sA cX12_nameAt 5 (some .int) R 0 0 (some (.inl rr.1)) rr.2 p e S0 m ag below meth c0 A0 M0 ad0 Z) (fu : Nat) : ∀ (n : Nat) (s : Nat) (x1 : Int32) (x2 : Int32) (x3 : Int32) (x4 : Int32) (M : xM), L_X12_nameAt_5 fu n s x1 x2 x3 x4 M = some rr → xWx p l e R S0 m ag below meth c0 D cA A0 sA M0 ad0 5 Z 0 0 5 0 0 [(0, .inr (.inr (12, some s))), (1, .inl x1), (2, .inl x2), (3, .inl x3), (4, .inl x4)] [] M := by
  intro n
  induction n with
  | zero => intro s x1 x2 x3 x4 M h; cases h
  | succ n ih =>
    intro s x1 x2 x3 x4 M h
    rw [← q_X12_nameAt_5 fu n s x1 x2 x3 x4 M] at h
    have hT : ∀ w ∈ xG, w ∈ (Cond.code yX12_nameAt cX12_nameAt 5 (some .int) :: xG) := fun w hw => List.mem_cons_of_mem _ hw
    refine xrun_sound (nst := 0) (isInit := false) (kd := kdX12) X (xcls_mono hT xclsG) (xpool_mono hT plX12) (fun z => by cases z) (fun idx v hf => xkoE_mono hT (koX12_ok _ (xfind_mem hf))) (xents (ca := _) ?_) (endI hE).1 (endI hE).2 (xcuts (cu := _) ?_) pr_X12_nameAt.1 pr_X12_nameAt.2 _ _ _ _ _ _ _ _ (xat_ok pr_X12_nameAt.1 pr_X12_nameAt.2).1 (xat_ok pr_X12_nameAt.1 pr_X12_nameAt.2).2.1 (xat_ok pr_X12_nameAt.1 pr_X12_nameAt.2).2.2 h
    · exact (fun _ h => nomatch h)
    · refine (List.forall_mem_cons.mpr ⟨?_, (fun _ h => nomatch h)⟩)
      · intro bc bs ls st M h
        replace h := xz_some h
        obtain ⟨rfl, rfl, h⟩ := h
        replace h := lR_some h
        obtain ⟨o, e0, h⟩ := h
        replace h := bd_some h
        obtain ⟨s', rfl, h⟩ := h
        replace h := lI_some h
        obtain ⟨x1', e1, h⟩ := h
        replace h := lI_some h
        obtain ⟨x2', e2, h⟩ := h
        replace h := lI_some h
        obtain ⟨x3', e3, h⟩ := h
        replace h := lI_some h
        obtain ⟨x4', e4, h⟩ := h
        replace h := xe_some h
        obtain ⟨rfl, h⟩ := h
        exact xWx_ls (ih s' x1' x2' x3' x4' M h) (List.forall_mem_cons.mpr ⟨e0, (List.forall_mem_cons.mpr ⟨e1, (List.forall_mem_cons.mpr ⟨e2, (List.forall_mem_cons.mpr ⟨e3, (List.forall_mem_cons.mpr ⟨e4, (fun _ h => nomatch h)⟩)⟩)⟩)⟩)⟩)

set_option maxRecDepth 100000 in
theorem wx_X12_nameAt (X : xCtx p R S0 m ag c0 D cA A0 sA 5 cX12_nameAt RX12 (.code yX12_nameAt cX12_nameAt 5 (some .int) :: xG) 0 0) (hi : meth.name = yX12_nameAt.name) (hroom : 0 + 2 ≤ R.frames ∧ 60 * (0 + 2) ≤ R.locals) {rr : Int32 × xM} (hE : xEnd l D cA sA cX12_nameAt 5 (some .int) R 0 0 (some (.inl rr.1)) rr.2 p e S0 m ag below meth c0 A0 M0 ad0 Z) (fu : Nat) (s : Nat) (x1 : Int32) (x2 : Int32) (M : xM) (h : F_X12_nameAt fu s x1 x2 M = some rr) : xWx p l e R S0 m ag below meth c0 D cA A0 sA M0 ad0 5 Z 0 0 0 0 0 [(0, .inr (.inr (12, some s))), (1, .inl x1), (2, .inl x2)] [] M := by
  rw [← q_X12_nameAt fu s x1 x2 M] at h
  have hT : ∀ w ∈ xG, w ∈ (Cond.code yX12_nameAt cX12_nameAt 5 (some .int) :: xG) := fun w hw => List.mem_cons_of_mem _ hw
  refine xrun_sound (nst := 0) (isInit := false) (kd := kdX12) X (xcls_mono hT xclsG) (xpool_mono hT plX12) (fun z => by cases z) (fun idx v hf => xkoE_mono hT (koX12_ok _ (xfind_mem hf))) (xents (ca := _) ?_) (endI hE).1 (endI hE).2 (xcuts (cu := _) ?_) pr_X12_nameAt.1 pr_X12_nameAt.2 _ _ _ _ _ _ _ _ (xat_ok pr_X12_nameAt.1 pr_X12_nameAt.2).1 (xat_ok pr_X12_nameAt.1 pr_X12_nameAt.2).2.1 (xat_ok pr_X12_nameAt.1 pr_X12_nameAt.2).2.2 h
  · exact (fun _ h => nomatch h)
  · refine (List.forall_mem_cons.mpr ⟨?_, (fun _ h => nomatch h)⟩)
    · intro bc bs ls st M h
      replace h := xz_some h
      obtain ⟨rfl, rfl, h⟩ := h
      replace h := lR_some h
      obtain ⟨o, e0, h⟩ := h
      replace h := bd_some h
      obtain ⟨s', rfl, h⟩ := h
      replace h := lI_some h
      obtain ⟨x1', e1, h⟩ := h
      replace h := lI_some h
      obtain ⟨x2', e2, h⟩ := h
      replace h := lI_some h
      obtain ⟨x3', e3, h⟩ := h
      replace h := lI_some h
      obtain ⟨x4', e4, h⟩ := h
      replace h := xe_some h
      obtain ⟨rfl, h⟩ := h
      exact xWx_ls (wx_X12_nameAt_5 X hi hroom hE fu fu s' x1' x2' x3' x4' M h) (List.forall_mem_cons.mpr ⟨e0, (List.forall_mem_cons.mpr ⟨e1, (List.forall_mem_cons.mpr ⟨e2, (List.forall_mem_cons.mpr ⟨e3, (List.forall_mem_cons.mpr ⟨e4, (fun _ h => nomatch h)⟩)⟩)⟩)⟩)⟩)

theorem ok_X12_nameAt (l : Launch) (D : va_G) (cA : Nat → ClassId) (sA : Nat → Nat) (fu : Nat) (s : Nat) (x1 : Int32) (x2 : Int32) (M : xM) {rr : Int32 × xM} (h : F_X12_nameAt fu s x1 x2 M = some rr) : xMet l D cA sA yX12_nameAt cX12_nameAt 5 (some .int) xG (0 + 1) 0 0 [.inr (.inr (12, some s)), .inl x1, .inl x2] M (some (.inl rr.1)) rr.2 :=
  xmet_of (by decide +kernel) (Nat.le_of_ble_eq_true rfl) (fun p e s1 m ag below meth c0 A0 ad0 Z X hn hE => wx_X12_nameAt X hn ⟨Nat.le_refl _, Nat.le_refl _⟩ hE fu s x1 x2 M h)
theorem hw_X12_nameAt (l : Launch) (D : va_G) (cA : Nat → ClassId) (sA : Nat → Nat) (fu : Nat) {ρ : Type} {r0 : ρ} (kd1 : Nat) : ∀ (as : List xV) (M : xM) (k : Option xV → xM → Option ρ), w_X12_nameAt fu as M k = some r0 → ∃ v M', xMet l D cA sA yX12_nameAt cX12_nameAt 5 (some .int) xG (0 + 1) 0 0 as M v M' ∧ k v M' = some r0 ∧ (kd1 ≠ 2 → ∃ a as', as = .inr (.inr (12, some a)) :: as') := by
  intro as M k h
  unfold w_X12_nameAt at h
  replace h := pR_some h
  obtain ⟨o, as1, rfl, h⟩ := h
  replace h := bd_some h
  obtain ⟨s, rfl, h⟩ := h
  replace h := pI_some h
  obtain ⟨x1, as1, rfl, h⟩ := h
  replace h := pI_some h
  obtain ⟨x2, as1, rfl, h⟩ := h
  replace h := xe_some h
  obtain ⟨rfl, h⟩ := h
  obtain ⟨p1, hp, h⟩ := Option.bind_eq_some_iff.mp h
  exact ⟨_, _, ok_X12_nameAt l D cA sA fu s x1 x2 M hp, h, fun _ => ⟨_, _, rfl⟩⟩
theorem cd_X12_oldest : Cond.code yX12_oldest cX12_oldest 2 (some .int) ∈ xG := (xg 2112 (by decide +kernel) (by decide +kernel))
theorem pr_X12_oldest : (∀ e ∈ pX12_oldest, xrow cX12_oldest 2 kdX12 flX12 0 false RX12 e) ∧ xnext pX12_oldest = true := xrows (by decide +kernel)
set_option maxRecDepth 100000 in
theorem wx_X12_oldest (X : xCtx p R S0 m ag c0 D cA A0 sA 2 cX12_oldest RX12 (.code yX12_oldest cX12_oldest 2 (some .int) :: xG) 0 0) (hi : meth.name = yX12_oldest.name) (hroom : 6 + 2 ≤ R.frames ∧ 60 * (6 + 2) ≤ R.locals) {rr : Int32 × xM} (hE : xEnd l D cA sA cX12_oldest 2 (some .int) R 0 0 (some (.inl rr.1)) rr.2 p e S0 m ag below meth c0 A0 M0 ad0 Z) (fu : Nat) (s : Nat) (M : xM) (h : F_X12_oldest fu s M = some rr) : xWx p l e R S0 m ag below meth c0 D cA A0 sA M0 ad0 2 Z 0 0 0 0 0 [(0, .inr (.inr (12, some s)))] [] M := by
  rw [← q_X12_oldest fu s M] at h
  have hT : ∀ w ∈ xG, w ∈ (Cond.code yX12_oldest cX12_oldest 2 (some .int) :: xG) := fun w hw => List.mem_cons_of_mem _ hw
  refine xrun_sound (nst := 0) (isInit := false) (kd := kdX12) X (xcls_mono hT xclsG) (xpool_mono hT plX12) (fun z => by cases z) (fun idx v hf => xkoE_mono hT (koX12_ok _ (xfind_mem hf))) (xents (ca := _) ?_) (endI hE).1 (endI hE).2 (xcuts (cu := _) ?_) pr_X12_oldest.1 pr_X12_oldest.2 _ _ _ _ _ _ _ _ (xat_ok pr_X12_oldest.1 pr_X12_oldest.2).1 (xat_ok pr_X12_oldest.1 pr_X12_oldest.2).2.1 (xat_ok pr_X12_oldest.1 pr_X12_oldest.2).2.2 h
  · exact (List.forall_mem_cons.mpr ⟨(xent_met X (ci := 12) hT cd_X12_numberOf lk_X12_293 rfl (by decide) rfl (by decide +kernel) (fun z => absurd z (by decide)) (hw_X12_numberOf l D cA sA fu 0) (fun _ => ⟨by decide, fun _ => ⟨TX12, 29, rfl⟩⟩) (by constructor <;> omega) (by decide)), (List.forall_mem_cons.mpr ⟨(xent_met X (ci := 12) hT cd_X12_looks lk_X12_305 rfl (by decide) rfl (by decide +kernel) (fun z => absurd z (by decide)) (hw_X12_looks l D cA sA fu 0) (fun _ => ⟨by decide, fun _ => ⟨TX12, 29, rfl⟩⟩) (by constructor <;> omega) (by decide)), (List.forall_mem_cons.mpr ⟨(xent_met X (ci := 12) hT cd_X12_liveAbove lk_X12_444 rfl (by decide) rfl (by decide +kernel) (fun z => absurd z (by decide)) (hw_X12_liveAbove l D cA sA fu 0) (fun _ => ⟨by decide, fun _ => ⟨TX12, 29, rfl⟩⟩) (by constructor <;> omega) (by decide)), (fun _ h => nomatch h)⟩)⟩)⟩)
  · exact (fun _ h => nomatch h)

theorem ok_X12_oldest (l : Launch) (D : va_G) (cA : Nat → ClassId) (sA : Nat → Nat) (fu : Nat) (s : Nat) (M : xM) {rr : Int32 × xM} (h : F_X12_oldest fu s M = some rr) : xMet l D cA sA yX12_oldest cX12_oldest 2 (some .int) xG (6 + 1) 0 0 [.inr (.inr (12, some s))] M (some (.inl rr.1)) rr.2 :=
  xmet_of (by decide +kernel) (Nat.le_of_ble_eq_true rfl) (fun p e s1 m ag below meth c0 A0 ad0 Z X hn hE => wx_X12_oldest X hn ⟨Nat.le_refl _, Nat.le_refl _⟩ hE fu s M h)
theorem hw_X12_oldest (l : Launch) (D : va_G) (cA : Nat → ClassId) (sA : Nat → Nat) (fu : Nat) {ρ : Type} {r0 : ρ} (kd1 : Nat) : ∀ (as : List xV) (M : xM) (k : Option xV → xM → Option ρ), w_X12_oldest fu as M k = some r0 → ∃ v M', xMet l D cA sA yX12_oldest cX12_oldest 2 (some .int) xG (6 + 1) 0 0 as M v M' ∧ k v M' = some r0 ∧ (kd1 ≠ 2 → ∃ a as', as = .inr (.inr (12, some a)) :: as') := by
  intro as M k h
  unfold w_X12_oldest at h
  replace h := pR_some h
  obtain ⟨o, as1, rfl, h⟩ := h
  replace h := bd_some h
  obtain ⟨s, rfl, h⟩ := h
  replace h := xe_some h
  obtain ⟨rfl, h⟩ := h
  obtain ⟨p1, hp, h⟩ := Option.bind_eq_some_iff.mp h
  exact ⟨_, _, ok_X12_oldest l D cA sA fu s M hp, h, fun _ => ⟨_, _, rfl⟩⟩
theorem cd_X12_open : Cond.code yX12_open cX12_open 2 (some .boolean) ∈ xG := (xg 1955 (by decide +kernel) (by decide +kernel))
theorem pr_X12_open : (∀ e ∈ pX12_open, xrow cX12_open 2 kdX12 flX12 0 false RX12 e) ∧ xnext pX12_open = true := xrows (by decide +kernel)
set_option maxRecDepth 100000 in
theorem wx_X12_open (X : xCtx p R S0 m ag c0 D cA A0 sA 2 cX12_open RX12 (.code yX12_open cX12_open 2 (some .boolean) :: xG) 0 0) (hi : meth.name = yX12_open.name) (hroom : 3 + 2 ≤ R.frames ∧ 60 * (3 + 2) ≤ R.locals) {rr : Int32 × xM} (hE : xEnd l D cA sA cX12_open 2 (some .boolean) R 0 0 (some (.inl rr.1)) rr.2 p e S0 m ag below meth c0 A0 M0 ad0 Z) (fu : Nat) (s : Nat) (x1 : Int32) (M : xM) (h : F_X12_open fu s x1 M = some rr) : xWx p l e R S0 m ag below meth c0 D cA A0 sA M0 ad0 2 Z 0 0 0 0 0 [(0, .inr (.inr (12, some s))), (1, .inl x1)] [] M := by
  rw [← q_X12_open fu s x1 M] at h
  have hT : ∀ w ∈ xG, w ∈ (Cond.code yX12_open cX12_open 2 (some .boolean) :: xG) := fun w hw => List.mem_cons_of_mem _ hw
  refine xrun_sound (nst := 0) (isInit := false) (kd := kdX12) X (xcls_mono hT xclsG) (xpool_mono hT plX12) (fun z => by cases z) (fun idx v hf => xkoE_mono hT (koX12_ok _ (xfind_mem hf))) (xents (ca := _) ?_) (endZ hE).1 (endZ hE).2 (xcuts (cu := _) ?_) pr_X12_open.1 pr_X12_open.2 _ _ _ _ _ _ _ _ (xat_ok pr_X12_open.1 pr_X12_open.2).1 (xat_ok pr_X12_open.1 pr_X12_open.2).2.1 (xat_ok pr_X12_open.1 pr_X12_open.2).2.2 h
  · exact (List.forall_mem_cons.mpr ⟨(xent_met X (ci := 12) hT cd_X12_opens lk_X12_389 rfl (by decide) rfl (by decide +kernel) (fun z => absurd z (by decide)) (hw_X12_opens l D cA sA fu 0) (fun _ => ⟨by decide, fun _ => ⟨TX12, 29, rfl⟩⟩) (by constructor <;> omega) (by decide)), (fun _ h => nomatch h)⟩)
  · exact (fun _ h => nomatch h)

theorem ok_X12_open (l : Launch) (D : va_G) (cA : Nat → ClassId) (sA : Nat → Nat) (fu : Nat) (s : Nat) (x1 : Int32) (M : xM) {rr : Int32 × xM} (h : F_X12_open fu s x1 M = some rr) : xMet l D cA sA yX12_open cX12_open 2 (some .boolean) xG (3 + 1) 0 0 [.inr (.inr (12, some s)), .inl x1] M (some (.inl rr.1)) rr.2 :=
  xmet_of (by decide +kernel) (Nat.le_of_ble_eq_true rfl) (fun p e s1 m ag below meth c0 A0 ad0 Z X hn hE => wx_X12_open X hn ⟨Nat.le_refl _, Nat.le_refl _⟩ hE fu s x1 M h)
theorem hw_X12_open (l : Launch) (D : va_G) (cA : Nat → ClassId) (sA : Nat → Nat) (fu : Nat) {ρ : Type} {r0 : ρ} (kd1 : Nat) : ∀ (as : List xV) (M : xM) (k : Option xV → xM → Option ρ), w_X12_open fu as M k = some r0 → ∃ v M', xMet l D cA sA yX12_open cX12_open 2 (some .boolean) xG (3 + 1) 0 0 as M v M' ∧ k v M' = some r0 ∧ (kd1 ≠ 2 → ∃ a as', as = .inr (.inr (12, some a)) :: as') := by
  intro as M k h
  unfold w_X12_open at h
  replace h := pR_some h
  obtain ⟨o, as1, rfl, h⟩ := h
  replace h := bd_some h
  obtain ⟨s, rfl, h⟩ := h
  replace h := pI_some h
  obtain ⟨x1, as1, rfl, h⟩ := h
  replace h := xe_some h
  obtain ⟨rfl, h⟩ := h
  obtain ⟨p1, hp, h⟩ := Option.bind_eq_some_iff.mp h
  exact ⟨_, _, ok_X12_open l D cA sA fu s x1 M hp, h, fun _ => ⟨_, _, rfl⟩⟩
theorem cd_X12_pick : Cond.code yX12_pick cX12_pick 1 (some .int) ∈ xG := (xg 2075 (by decide +kernel) (by decide +kernel))
theorem pr_X12_pick : (∀ e ∈ pX12_pick, xrow cX12_pick 1 kdX12 flX12 0 false RX12 e) ∧ xnext pX12_pick = true := xrows (by decide +kernel)
set_option maxRecDepth 100000 in
theorem wx_X12_pick (X : xCtx p R S0 m ag c0 D cA A0 sA 1 cX12_pick RX12 (.code yX12_pick cX12_pick 1 (some .int) :: xG) 0 0) (hi : meth.name = yX12_pick.name) (hroom : 7 + 2 ≤ R.frames ∧ 60 * (7 + 2) ≤ R.locals) {rr : Int32 × xM} (hE : xEnd l D cA sA cX12_pick 1 (some .int) R 0 0 (some (.inl rr.1)) rr.2 p e S0 m ag below meth c0 A0 M0 ad0 Z) (fu : Nat) (s : Nat) (M : xM) (h : F_X12_pick fu s M = some rr) : xWx p l e R S0 m ag below meth c0 D cA A0 sA M0 ad0 1 Z 0 0 0 0 0 [(0, .inr (.inr (12, some s)))] [] M := by
  rw [← q_X12_pick fu s M] at h
  have hT : ∀ w ∈ xG, w ∈ (Cond.code yX12_pick cX12_pick 1 (some .int) :: xG) := fun w hw => List.mem_cons_of_mem _ hw
  refine xrun_sound (nst := 0) (isInit := false) (kd := kdX12) X (xcls_mono hT xclsG) (xpool_mono hT plX12) (fun z => by cases z) (fun idx v hf => xkoE_mono hT (koX12_ok _ (xfind_mem hf))) (xents (ca := _) ?_) (endI hE).1 (endI hE).2 (xcuts (cu := _) ?_) pr_X12_pick.1 pr_X12_pick.2 _ _ _ _ _ _ _ _ (xat_ok pr_X12_pick.1 pr_X12_pick.2).1 (xat_ok pr_X12_pick.1 pr_X12_pick.2).2.1 (xat_ok pr_X12_pick.1 pr_X12_pick.2).2.2 h
  · exact (List.forall_mem_cons.mpr ⟨(xent_met X (ci := 12) hT cd_X12_pickOf lk_X12_333 rfl (by decide) rfl (by decide +kernel) (fun z => absurd z (by decide)) (hw_X12_pickOf l D cA sA fu 0) (fun _ => ⟨by decide, fun _ => ⟨TX12, 29, rfl⟩⟩) (by constructor <;> omega) (by decide)), (fun _ h => nomatch h)⟩)
  · exact (fun _ h => nomatch h)

theorem ok_X12_pick (l : Launch) (D : va_G) (cA : Nat → ClassId) (sA : Nat → Nat) (fu : Nat) (s : Nat) (M : xM) {rr : Int32 × xM} (h : F_X12_pick fu s M = some rr) : xMet l D cA sA yX12_pick cX12_pick 1 (some .int) xG (7 + 1) 0 0 [.inr (.inr (12, some s))] M (some (.inl rr.1)) rr.2 :=
  xmet_of (by decide +kernel) (Nat.le_of_ble_eq_true rfl) (fun p e s1 m ag below meth c0 A0 ad0 Z X hn hE => wx_X12_pick X hn ⟨Nat.le_refl _, Nat.le_refl _⟩ hE fu s M h)
theorem hw_X12_pick (l : Launch) (D : va_G) (cA : Nat → ClassId) (sA : Nat → Nat) (fu : Nat) {ρ : Type} {r0 : ρ} (kd1 : Nat) : ∀ (as : List xV) (M : xM) (k : Option xV → xM → Option ρ), w_X12_pick fu as M k = some r0 → ∃ v M', xMet l D cA sA yX12_pick cX12_pick 1 (some .int) xG (7 + 1) 0 0 as M v M' ∧ k v M' = some r0 ∧ (kd1 ≠ 2 → ∃ a as', as = .inr (.inr (12, some a)) :: as') := by
  intro as M k h
  unfold w_X12_pick at h
  replace h := pR_some h
  obtain ⟨o, as1, rfl, h⟩ := h
  replace h := bd_some h
  obtain ⟨s, rfl, h⟩ := h
  replace h := xe_some h
  obtain ⟨rfl, h⟩ := h
  obtain ⟨p1, hp, h⟩ := Option.bind_eq_some_iff.mp h
  exact ⟨_, _, ok_X12_pick l D cA sA fu s M hp, h, fun _ => ⟨_, _, rfl⟩⟩
theorem cd_X12_takePart : Cond.code yX12_takePart cX12_takePart 4 none ∈ xG := (xg 1738 (by decide +kernel) (by decide +kernel))
theorem hwr_X12_takePart (l : Launch) (D : va_G) (cA : Nat → ClassId) (sA : Nat → Nat) (r : Nat → Int32 → xM → Option xM) (hR : Nat) (hr : ∀ (s : Nat) (x1 : Int32) (M : xM) (rr : xM), r s x1 M = some rr → xMet l D cA sA yX12_takePart cX12_takePart 4 none xG hR 0 0 [.inr (.inr (12, some s)), .inl x1] M none rr) {ρ : Type} {r0 : ρ} (kd1 : Nat) : ∀ (as : List xV) (M : xM) (k : Option xV → xM → Option ρ), w_X12_takePart r as M k = some r0 → ∃ v M', xMet l D cA sA yX12_takePart cX12_takePart 4 none xG hR 0 0 as M v M' ∧ k v M' = some r0 ∧ (kd1 ≠ 2 → ∃ a as', as = .inr (.inr (12, some a)) :: as') := by
  intro as M k h
  unfold w_X12_takePart at h
  replace h := pR_some h
  obtain ⟨o, as1, rfl, h⟩ := h
  replace h := bd_some h
  obtain ⟨s, rfl, h⟩ := h
  replace h := pI_some h
  obtain ⟨x1, as1, rfl, h⟩ := h
  replace h := xe_some h
  obtain ⟨rfl, h⟩ := h
  obtain ⟨p1, hp, h⟩ := Option.bind_eq_some_iff.mp h
  exact ⟨_, _, hr s x1 M _ hp, h, fun _ => ⟨_, _, rfl⟩⟩
theorem lk_X12_199 : xLink xG RX12 199 0 yX12_emit 2 := ⟨Or.inl (xg 1743 (by decide +kernel) (by decide +kernel)), (xg 1745 (by decide +kernel) (by decide +kernel)), (xg 63 (by decide +kernel) (by decide +kernel)), (xg 141 (by decide +kernel) (by decide +kernel)), ⟨12, by decide, TX12, 29, rfl⟩⟩
theorem lk_X12_233 : xLink xG RX12 233 0 yX12_hasSign 1 := ⟨Or.inl (xg 1747 (by decide +kernel) (by decide +kernel)), (xg 1749 (by decide +kernel) (by decide +kernel)), (xg 64 (by decide +kernel) (by decide +kernel)), (xg 141 (by decide +kernel) (by decide +kernel)), ⟨12, by decide, TX12, 29, rfl⟩⟩
theorem lk_X12_239 : xLink xG RX12 239 0 yX12_takePart 1 := ⟨Or.inl (xg 1735 (by decide +kernel) (by decide +kernel)), (xg 1737 (by decide +kernel) (by decide +kernel)), (xg 61 (by decide +kernel) (by decide +kernel)), (xg 141 (by decide +kernel) (by decide +kernel)), ⟨12, by decide, TX12, 29, rfl⟩⟩
theorem cd_X12_products : Cond.code yX12_products cX12_products 2 none ∈ xG := (xg 1734 (by decide +kernel) (by decide +kernel))
theorem pr_X12_products : (∀ e ∈ pX12_products, xrow cX12_products 2 kdX12 flX12 0 false RX12 e) ∧ xnext pX12_products = true := xrows (by decide +kernel)
set_option maxRecDepth 100000 in
theorem wx_X12_products_5 {hR : Nat} (X : xCtx p R S0 m ag c0 D cA A0 sA 2 cX12_products RX12 (.code yX12_products cX12_products 2 none :: xG) 0 0) (hi : meth.name = yX12_products.name) (hroom : (hR + 2) + 2 ≤ R.frames ∧ 60 * ((hR + 2) + 2) ≤ R.locals) {rr : xM} (hE : xEnd l D cA sA cX12_products 2 none R 0 0 none rr p e S0 m ag below meth c0 A0 M0 ad0 Z) (fu : Nat) (r : Nat → Int32 → xM → Option xM) (hr : ∀ (s : Nat) (x1 : Int32) (M : xM) (rr : xM), r s x1 M = some rr → xMet l D cA sA yX12_takePart cX12_takePart 4 none xG hR 0 0 [.inr (.inr (12, some s)), .inl x1] M none rr) : ∀ (n : Nat) (s : Nat) (x1 : Int32) (M : xM), L_X12_products_5 fu r n s x1 M = some rr → xWx p l e R S0 m ag below meth c0 D cA A0 sA M0 ad0 2 Z 0 0 5 0 0 [(0, .inr (.inr (12, some s))), (1, .inl x1)] [] M := by
  intro n
  induction n with
  | zero => intro s x1 M h; cases h
  | succ n ih =>
    intro s x1 M h
    rw [← q_X12_products_5 fu r n s x1 M] at h
    have hT : ∀ w ∈ xG, w ∈ (Cond.code yX12_products cX12_products 2 none :: xG) := fun w hw => List.mem_cons_of_mem _ hw
    refine xrun_sound (nst := 0) (isInit := false) (kd := kdX12) X (xcls_mono hT xclsG) (xpool_mono hT plX12) (fun z => by cases z) (fun idx v hf => xkoE_mono hT (koX12_ok _ (xfind_mem hf))) (xents (ca := _) ?_) (endV hE).1 (endV hE).2 (xcuts (cu := _) ?_) pr_X12_products.1 pr_X12_products.2 _ _ _ _ _ _ _ _ (xat_ok pr_X12_products.1 pr_X12_products.2).1 (xat_ok pr_X12_products.1 pr_X12_products.2).2.1 (xat_ok pr_X12_products.1 pr_X12_products.2).2.2 h
    · exact (List.forall_mem_cons.mpr ⟨(xent_met X (ci := 12) hT cd_X12_emit lk_X12_199 rfl (by decide) rfl (by decide +kernel) (fun z => absurd z (by decide)) (hw_X12_emit l D cA sA fu 0) (fun _ => ⟨by decide, fun _ => ⟨TX12, 29, rfl⟩⟩) (by constructor <;> omega) (by decide)), (List.forall_mem_cons.mpr ⟨(xent_met X (ci := 12) hT cd_X12_hasSign lk_X12_233 rfl (by decide) rfl (by decide +kernel) (fun z => absurd z (by decide)) (hw_X12_hasSign l D cA sA fu 0) (fun _ => ⟨by decide, fun _ => ⟨TX12, 29, rfl⟩⟩) (by constructor <;> omega) (by decide)), (List.forall_mem_cons.mpr ⟨(xent_met X (ci := 12) hT cd_X12_takePart lk_X12_239 rfl (by decide) rfl (by decide +kernel) (fun z => absurd z (by decide)) (hwr_X12_takePart l D cA sA r hR hr 0) (fun _ => ⟨by decide, fun _ => ⟨TX12, 29, rfl⟩⟩) (by constructor <;> omega) (by decide)), (fun _ h => nomatch h)⟩)⟩)⟩)
    · refine (List.forall_mem_cons.mpr ⟨?_, (fun _ h => nomatch h)⟩)
      · intro bc bs ls st M h
        replace h := xz_some h
        obtain ⟨rfl, rfl, h⟩ := h
        replace h := lR_some h
        obtain ⟨o, e0, h⟩ := h
        replace h := bd_some h
        obtain ⟨s', rfl, h⟩ := h
        replace h := lI_some h
        obtain ⟨x1', e1, h⟩ := h
        replace h := xe_some h
        obtain ⟨rfl, h⟩ := h
        exact xWx_ls (ih s' x1' M h) (List.forall_mem_cons.mpr ⟨e0, (List.forall_mem_cons.mpr ⟨e1, (fun _ h => nomatch h)⟩)⟩)

set_option maxRecDepth 100000 in
theorem wx_X12_products {hR : Nat} (X : xCtx p R S0 m ag c0 D cA A0 sA 2 cX12_products RX12 (.code yX12_products cX12_products 2 none :: xG) 0 0) (hi : meth.name = yX12_products.name) (hroom : (hR + 2) + 2 ≤ R.frames ∧ 60 * ((hR + 2) + 2) ≤ R.locals) {rr : xM} (hE : xEnd l D cA sA cX12_products 2 none R 0 0 none rr p e S0 m ag below meth c0 A0 M0 ad0 Z) (fu : Nat) (r : Nat → Int32 → xM → Option xM) (hr : ∀ (s : Nat) (x1 : Int32) (M : xM) (rr : xM), r s x1 M = some rr → xMet l D cA sA yX12_takePart cX12_takePart 4 none xG hR 0 0 [.inr (.inr (12, some s)), .inl x1] M none rr) (s : Nat) (x1 : Int32) (M : xM) (h : F_X12_products fu r s x1 M = some rr) : xWx p l e R S0 m ag below meth c0 D cA A0 sA M0 ad0 2 Z 0 0 0 0 0 [(0, .inr (.inr (12, some s))), (1, .inl x1)] [] M := by
  rw [← q_X12_products fu r s x1 M] at h
  have hT : ∀ w ∈ xG, w ∈ (Cond.code yX12_products cX12_products 2 none :: xG) := fun w hw => List.mem_cons_of_mem _ hw
  refine xrun_sound (nst := 0) (isInit := false) (kd := kdX12) X (xcls_mono hT xclsG) (xpool_mono hT plX12) (fun z => by cases z) (fun idx v hf => xkoE_mono hT (koX12_ok _ (xfind_mem hf))) (xents (ca := _) ?_) (endV hE).1 (endV hE).2 (xcuts (cu := _) ?_) pr_X12_products.1 pr_X12_products.2 _ _ _ _ _ _ _ _ (xat_ok pr_X12_products.1 pr_X12_products.2).1 (xat_ok pr_X12_products.1 pr_X12_products.2).2.1 (xat_ok pr_X12_products.1 pr_X12_products.2).2.2 h
  · exact (List.forall_mem_cons.mpr ⟨(xent_met X (ci := 12) hT cd_X12_takePart lk_X12_239 rfl (by decide) rfl (by decide +kernel) (fun z => absurd z (by decide)) (hwr_X12_takePart l D cA sA r hR hr 0) (fun _ => ⟨by decide, fun _ => ⟨TX12, 29, rfl⟩⟩) (by constructor <;> omega) (by decide)), (fun _ h => nomatch h)⟩)
  · refine (List.forall_mem_cons.mpr ⟨?_, (fun _ h => nomatch h)⟩)
    · intro bc bs ls st M h
      replace h := xz_some h
      obtain ⟨rfl, rfl, h⟩ := h
      replace h := lR_some h
      obtain ⟨o, e0, h⟩ := h
      replace h := bd_some h
      obtain ⟨s', rfl, h⟩ := h
      replace h := lI_some h
      obtain ⟨x1', e1, h⟩ := h
      replace h := xe_some h
      obtain ⟨rfl, h⟩ := h
      exact xWx_ls (wx_X12_products_5 X hi hroom hE fu r hr fu s' x1' M h) (List.forall_mem_cons.mpr ⟨e0, (List.forall_mem_cons.mpr ⟨e1, (fun _ h => nomatch h)⟩)⟩)

theorem ok_X12_products (l : Launch) (D : va_G) (cA : Nat → ClassId) (sA : Nat → Nat) (fu : Nat) (r : Nat → Int32 → xM → Option xM) (hR : Nat) (hr : ∀ (s : Nat) (x1 : Int32) (M : xM) (rr : xM), r s x1 M = some rr → xMet l D cA sA yX12_takePart cX12_takePart 4 none xG hR 0 0 [.inr (.inr (12, some s)), .inl x1] M none rr) (s : Nat) (x1 : Int32) (M : xM) {rr : xM} (h : F_X12_products fu r s x1 M = some rr) : xMet l D cA sA yX12_products cX12_products 2 none xG ((hR + 2) + 1) 0 0 [.inr (.inr (12, some s)), .inl x1] M none rr :=
  xmet_of (by decide +kernel) (Nat.le_of_ble_eq_true rfl) (fun p e s1 m ag below meth c0 A0 ad0 Z X hn hE => wx_X12_products X hn ⟨Nat.le_refl _, Nat.le_refl _⟩ hE fu r hr s x1 M h)
theorem hw_X12_products (l : Launch) (D : va_G) (cA : Nat → ClassId) (sA : Nat → Nat) (fu : Nat) (r : Nat → Int32 → xM → Option xM) (hR : Nat) (hr : ∀ (s : Nat) (x1 : Int32) (M : xM) (rr : xM), r s x1 M = some rr → xMet l D cA sA yX12_takePart cX12_takePart 4 none xG hR 0 0 [.inr (.inr (12, some s)), .inl x1] M none rr) {ρ : Type} {r0 : ρ} (kd1 : Nat) : ∀ (as : List xV) (M : xM) (k : Option xV → xM → Option ρ), w_X12_products fu r as M k = some r0 → ∃ v M', xMet l D cA sA yX12_products cX12_products 2 none xG ((hR + 2) + 1) 0 0 as M v M' ∧ k v M' = some r0 ∧ (kd1 ≠ 2 → ∃ a as', as = .inr (.inr (12, some a)) :: as') := by
  intro as M k h
  unfold w_X12_products at h
  replace h := pR_some h
  obtain ⟨o, as1, rfl, h⟩ := h
  replace h := bd_some h
  obtain ⟨s, rfl, h⟩ := h
  replace h := pI_some h
  obtain ⟨x1, as1, rfl, h⟩ := h
  replace h := xe_some h
  obtain ⟨rfl, h⟩ := h
  obtain ⟨p1, hp, h⟩ := Option.bind_eq_some_iff.mp h
  exact ⟨_, _, ok_X12_products l D cA sA fu r hR hr s x1 M hp, h, fun _ => ⟨_, _, rfl⟩⟩
theorem cd_X12_takeOne : Cond.code yX12_takeOne cX12_takeOne 4 (some .int) ∈ xG := (xg 1702 (by decide +kernel) (by decide +kernel))
theorem pr_X12_takeOne : (∀ e ∈ pX12_takeOne, xrow cX12_takeOne 4 kdX12 flX12 0 false RX12 e) ∧ xnext pX12_takeOne = true := xrows (by decide +kernel)
set_option maxRecDepth 100000 in
theorem wx_X12_takeOne_51 (X : xCtx p R S0 m ag c0 D cA A0 sA 4 cX12_takeOne RX12 (.code yX12_takeOne cX12_takeOne 4 (some .int) :: xG) 0 0) (hi : meth.name = yX12_takeOne.name) (hroom : 2 + 2 ≤ R.frames ∧ 60 * (2 + 2) ≤ R.locals) {rr : Int32 × xM} (hE : xEnd l D cA sA cX12_takeOne 4 (some .int) R 0 0 (some (.inl rr.1)) rr.2 p e S0 m ag below meth c0 A0 M0 ad0 Z) (fu : Nat) (s : Nat) (x3 : Int32) (y0 : Int32) (y1 : Int32) (y2 : Nat) (M : xM) (h : J_X12_takeOne_51 fu s x3 y0 y1 y2 M = some rr) : xWx p l e R S0 m ag below meth c0 D cA A0 sA M0 ad0 4 Z 0 0 51 0 0 [(0, .inr (.inr (12, some s))), (3, .inl x3)] [.inl y0, .inl y1, .inr (.inr (12, some y2))] M := by
  rw [← q_X12_takeOne_51 fu s x3 y0 y1 y2 M] at h
  have hT : ∀ w ∈ xG, w ∈ (Cond.code yX12_takeOne cX12_takeOne 4 (some .int) :: xG) := fun w hw => List.mem_cons_of_mem _ hw
  refine xrun_sound (nst := 0) (isInit := false) (kd := kdX12) X (xcls_mono hT xclsG) (xpool_mono hT plX12) (fun z => by cases z) (fun idx v hf => xkoE_mono hT (koX12_ok _ (xfind_mem hf))) (xents (ca := _) ?_) (endI hE).1 (endI hE).2 (xcuts (cu := _) ?_) pr_X12_takeOne.1 pr_X12_takeOne.2 _ _ _ _ _ _ _ _ (xat_ok pr_X12_takeOne.1 pr_X12_takeOne.2).1 (xat_ok pr_X12_takeOne.1 pr_X12_takeOne.2).2.1 (xat_ok pr_X12_takeOne.1 pr_X12_takeOne.2).2.2 h
  · exact (fun _ h => nomatch h)
  · exact (fun _ h => nomatch h)

set_option maxRecDepth 100000 in
theorem wx_X12_takeOne_34 (X : xCtx p R S0 m ag c0 D cA A0 sA 4 cX12_takeOne RX12 (.code yX12_takeOne cX12_takeOne 4 (some .int) :: xG) 0 0) (hi : meth.name = yX12_takeOne.name) (hroom : 2 + 2 ≤ R.frames ∧ 60 * (2 + 2) ≤ R.locals) {rr : Int32 × xM} (hE : xEnd l D cA sA cX12_takeOne 4 (some .int) R 0 0 (some (.inl rr.1)) rr.2 p e S0 m ag below meth c0 A0 M0 ad0 Z) (fu : Nat) (s : Nat) (x3 : Int32) (M : xM) (h : J_X12_takeOne_34 fu s x3 M = some rr) : xWx p l e R S0 m ag below meth c0 D cA A0 sA M0 ad0 4 Z 0 0 34 0 0 [(0, .inr (.inr (12, some s))), (3, .inl x3)] [] M := by
  rw [← q_X12_takeOne_34 fu s x3 M] at h
  have hT : ∀ w ∈ xG, w ∈ (Cond.code yX12_takeOne cX12_takeOne 4 (some .int) :: xG) := fun w hw => List.mem_cons_of_mem _ hw
  refine xrun_sound (nst := 0) (isInit := false) (kd := kdX12) X (xcls_mono hT xclsG) (xpool_mono hT plX12) (fun z => by cases z) (fun idx v hf => xkoE_mono hT (koX12_ok _ (xfind_mem hf))) (xents (ca := _) ?_) (endI hE).1 (endI hE).2 (xcuts (cu := _) ?_) pr_X12_takeOne.1 pr_X12_takeOne.2 _ _ _ _ _ _ _ _ (xat_ok pr_X12_takeOne.1 pr_X12_takeOne.2).1 (xat_ok pr_X12_takeOne.1 pr_X12_takeOne.2).2.1 (xat_ok pr_X12_takeOne.1 pr_X12_takeOne.2).2.2 h
  · exact (fun _ h => nomatch h)
  · refine (List.forall_mem_cons.mpr ⟨?_, (fun _ h => nomatch h)⟩)
    · intro bc bs ls st M h
      replace h := xz_some h
      obtain ⟨rfl, rfl, h⟩ := h
      replace h := lR_some h
      obtain ⟨o, e0, h⟩ := h
      replace h := bd_some h
      obtain ⟨s', rfl, h⟩ := h
      replace h := lI_some h
      obtain ⟨x3', e3, h⟩ := h
      replace h := pI_some h
      obtain ⟨y0', st, rfl, h⟩ := h
      replace h := pI_some h
      obtain ⟨y1', st, rfl, h⟩ := h
      replace h := pR_some h
      obtain ⟨o, st, rfl, h⟩ := h
      replace h := bd_some h
      obtain ⟨y2', rfl, h⟩ := h
      replace h := xe_some h
      obtain ⟨rfl, h⟩ := h
      exact xWx_ls (wx_X12_takeOne_51 X hi hroom hE fu s' x3' y0' y1' y2' M h) (List.forall_mem_cons.mpr ⟨e0, (List.forall_mem_cons.mpr ⟨e3, (fun _ h => nomatch h)⟩)⟩)

set_option maxRecDepth 100000 in
theorem wx_X12_takeOne_17 (X : xCtx p R S0 m ag c0 D cA A0 sA 4 cX12_takeOne RX12 (.code yX12_takeOne cX12_takeOne 4 (some .int) :: xG) 0 0) (hi : meth.name = yX12_takeOne.name) (hroom : 2 + 2 ≤ R.frames ∧ 60 * (2 + 2) ≤ R.locals) {rr : Int32 × xM} (hE : xEnd l D cA sA cX12_takeOne 4 (some .int) R 0 0 (some (.inl rr.1)) rr.2 p e S0 m ag below meth c0 A0 M0 ad0 Z) (fu : Nat) (s : Nat) (y0 : Int32) (M : xM) (h : J_X12_takeOne_17 fu s y0 M = some rr) : xWx p l e R S0 m ag below meth c0 D cA A0 sA M0 ad0 4 Z 0 0 17 0 0 [(0, .inr (.inr (12, some s)))] [.inl y0] M := by
  rw [← q_X12_takeOne_17 fu s y0 M] at h
  have hT : ∀ w ∈ xG, w ∈ (Cond.code yX12_takeOne cX12_takeOne 4 (some .int) :: xG) := fun w hw => List.mem_cons_of_mem _ hw
  refine xrun_sound (nst := 0) (isInit := false) (kd := kdX12) X (xcls_mono hT xclsG) (xpool_mono hT plX12) (fun z => by cases z) (fun idx v hf => xkoE_mono hT (koX12_ok _ (xfind_mem hf))) (xents (ca := _) ?_) (endI hE).1 (endI hE).2 (xcuts (cu := _) ?_) pr_X12_takeOne.1 pr_X12_takeOne.2 _ _ _ _ _ _ _ _ (xat_ok pr_X12_takeOne.1 pr_X12_takeOne.2).1 (xat_ok pr_X12_takeOne.1 pr_X12_takeOne.2).2.1 (xat_ok pr_X12_takeOne.1 pr_X12_takeOne.2).2.2 h
  · exact (List.forall_mem_cons.mpr ⟨(xent_met X (ci := 12) hT cd_X12_wrong lk_X12_162 rfl (by decide) rfl (by decide +kernel) (fun z => absurd z (by decide)) (hw_X12_wrong l D cA sA fu 0) (fun _ => ⟨by decide, fun _ => ⟨TX12, 29, rfl⟩⟩) (by constructor <;> omega) (by decide)), (fun _ h => nomatch h)⟩)
  · refine (List.forall_mem_cons.mpr ⟨?_, (fun _ h => nomatch h)⟩)
    · intro bc bs ls st M h
      replace h := xz_some h
      obtain ⟨rfl, rfl, h⟩ := h
      replace h := lR_some h
      obtain ⟨o, e0, h⟩ := h
      replace h := bd_some h
      obtain ⟨s', rfl, h⟩ := h
      replace h := lI_some h
      obtain ⟨x3', e3, h⟩ := h
      replace h := xe_some h
      obtain ⟨rfl, h⟩ := h
      exact xWx_ls (wx_X12_takeOne_34 X hi hroom hE fu s' x3' M h) (List.forall_mem_cons.mpr ⟨e0, (List.forall_mem_cons.mpr ⟨e3, (fun _ h => nomatch h)⟩)⟩)

set_option maxRecDepth 100000 in
theorem wx_X12_takeOne (X : xCtx p R S0 m ag c0 D cA A0 sA 4 cX12_takeOne RX12 (.code yX12_takeOne cX12_takeOne 4 (some .int) :: xG) 0 0) (hi : meth.name = yX12_takeOne.name) (hroom : 2 + 2 ≤ R.frames ∧ 60 * (2 + 2) ≤ R.locals) {rr : Int32 × xM} (hE : xEnd l D cA sA cX12_takeOne 4 (some .int) R 0 0 (some (.inl rr.1)) rr.2 p e S0 m ag below meth c0 A0 M0 ad0 Z) (fu : Nat) (s : Nat) (x1 : Int32) (x2 : Int32) (M : xM) (h : F_X12_takeOne fu s x1 x2 M = some rr) : xWx p l e R S0 m ag below meth c0 D cA A0 sA M0 ad0 4 Z 0 0 0 0 0 [(0, .inr (.inr (12, some s))), (1, .inl x1), (2, .inl x2)] [] M := by
  rw [← q_X12_takeOne fu s x1 x2 M] at h
  have hT : ∀ w ∈ xG, w ∈ (Cond.code yX12_takeOne cX12_takeOne 4 (some .int) :: xG) := fun w hw => List.mem_cons_of_mem _ hw
  refine xrun_sound (nst := 0) (isInit := false) (kd := kdX12) X (xcls_mono hT xclsG) (xpool_mono hT plX12) (fun z => by cases z) (fun idx v hf => xkoE_mono hT (koX12_ok _ (xfind_mem hf))) (xents (ca := _) ?_) (endI hE).1 (endI hE).2 (xcuts (cu := _) ?_) pr_X12_takeOne.1 pr_X12_takeOne.2 _ _ _ _ _ _ _ _ (xat_ok pr_X12_takeOne.1 pr_X12_takeOne.2).1 (xat_ok pr_X12_takeOne.1 pr_X12_takeOne.2).2.1 (xat_ok pr_X12_takeOne.1 pr_X12_takeOne.2).2.2 h
  · exact (List.forall_mem_cons.mpr ⟨(xent_met X (ci := 12) hT cd_X12_wordHere lk_X12_171 rfl (by decide) rfl (by decide +kernel) (fun z => absurd z (by decide)) (hw_X12_wordHere l D cA sA fu 0) (fun _ => ⟨by decide, fun _ => ⟨TX12, 29, rfl⟩⟩) (by constructor <;> omega) (by decide)), (fun _ h => nomatch h)⟩)
  · refine (List.forall_mem_cons.mpr ⟨?_, (fun _ h => nomatch h)⟩)
    · intro bc bs ls st M h
      replace h := xz_some h
      obtain ⟨rfl, rfl, h⟩ := h
      replace h := lR_some h
      obtain ⟨o, e0, h⟩ := h
      replace h := bd_some h
      obtain ⟨s', rfl, h⟩ := h
      replace h := pI_some h
      obtain ⟨y0', st, rfl, h⟩ := h
      replace h := xe_some h
      obtain ⟨rfl, h⟩ := h
      exact xWx_ls (wx_X12_takeOne_17 X hi hroom hE fu s' y0' M h) (List.forall_mem_cons.mpr ⟨e0, (fun _ h => nomatch h)⟩)

theorem ok_X12_takeOne (l : Launch) (D : va_G) (cA : Nat → ClassId) (sA : Nat → Nat) (fu : Nat) (s : Nat) (x1 : Int32) (x2 : Int32) (M : xM) {rr : Int32 × xM} (h : F_X12_takeOne fu s x1 x2 M = some rr) : xMet l D cA sA yX12_takeOne cX12_takeOne 4 (some .int) xG (2 + 1) 0 0 [.inr (.inr (12, some s)), .inl x1, .inl x2] M (some (.inl rr.1)) rr.2 :=
  xmet_of (by decide +kernel) (Nat.le_of_ble_eq_true rfl) (fun p e s1 m ag below meth c0 A0 ad0 Z X hn hE => wx_X12_takeOne X hn ⟨Nat.le_refl _, Nat.le_refl _⟩ hE fu s x1 x2 M h)
theorem hw_X12_takeOne (l : Launch) (D : va_G) (cA : Nat → ClassId) (sA : Nat → Nat) (fu : Nat) {ρ : Type} {r0 : ρ} (kd1 : Nat) : ∀ (as : List xV) (M : xM) (k : Option xV → xM → Option ρ), w_X12_takeOne fu as M k = some r0 → ∃ v M', xMet l D cA sA yX12_takeOne cX12_takeOne 4 (some .int) xG (2 + 1) 0 0 as M v M' ∧ k v M' = some r0 ∧ (kd1 ≠ 2 → ∃ a as', as = .inr (.inr (12, some a)) :: as') := by
  intro as M k h
  unfold w_X12_takeOne at h
  replace h := pR_some h
  obtain ⟨o, as1, rfl, h⟩ := h
  replace h := bd_some h
  obtain ⟨s, rfl, h⟩ := h
  replace h := pI_some h
  obtain ⟨x1, as1, rfl, h⟩ := h
  replace h := pI_some h
  obtain ⟨x2, as1, rfl, h⟩ := h
  replace h := xe_some h
  obtain ⟨rfl, h⟩ := h
  obtain ⟨p1, hp, h⟩ := Option.bind_eq_some_iff.mp h
  exact ⟨_, _, ok_X12_takeOne l D cA sA fu s x1 x2 M hp, h, fun _ => ⟨_, _, rfl⟩⟩
theorem lk_X12_168 : xLink xG RX12 168 0 yX12_hasWord 1 := ⟨Or.inl (xg 1707 (by decide +kernel) (by decide +kernel)), (xg 1709 (by decide +kernel) (by decide +kernel)), (xg 54 (by decide +kernel) (by decide +kernel)), (xg 141 (by decide +kernel) (by decide +kernel)), ⟨12, by decide, TX12, 29, rfl⟩⟩
theorem cd_X12_takeWord : Cond.code yX12_takeWord cX12_takeWord 2 none ∈ xG := (xg 1706 (by decide +kernel) (by decide +kernel))
theorem pr_X12_takeWord : (∀ e ∈ pX12_takeWord, xrow cX12_takeWord 2 kdX12 flX12 0 false RX12 e) ∧ xnext pX12_takeWord = true := xrows (by decide +kernel)
set_option maxRecDepth 100000 in
theorem wx_X12_takeWord (X : xCtx p R S0 m ag c0 D cA A0 sA 2 cX12_takeWord RX12 (.code yX12_takeWord cX12_takeWord 2 none :: xG) 0 0) (hi : meth.name = yX12_takeWord.name) (hroom : 2 + 2 ≤ R.frames ∧ 60 * (2 + 2) ≤ R.locals) {rr : xM} (hE : xEnd l D cA sA cX12_takeWord 2 none R 0 0 none rr p e S0 m ag below meth c0 A0 M0 ad0 Z) (fu : Nat) (s : Nat) (x1 : Int32) (M : xM) (h : F_X12_takeWord fu s x1 M = some rr) : xWx p l e R S0 m ag below meth c0 D cA A0 sA M0 ad0 2 Z 0 0 0 0 0 [(0, .inr (.inr (12, some s))), (1, .inl x1)] [] M := by
  rw [← q_X12_takeWord fu s x1 M] at h
  have hT : ∀ w ∈ xG, w ∈ (Cond.code yX12_takeWord cX12_takeWord 2 none :: xG) := fun w hw => List.mem_cons_of_mem _ hw
  refine xrun_sound (nst := 0) (isInit := false) (kd := kdX12) X (xcls_mono hT xclsG) (xpool_mono hT plX12) (fun z => by cases z) (fun idx v hf => xkoE_mono hT (koX12_ok _ (xfind_mem hf))) (xents (ca := _) ?_) (endV hE).1 (endV hE).2 (xcuts (cu := _) ?_) pr_X12_takeWord.1 pr_X12_takeWord.2 _ _ _ _ _ _ _ _ (xat_ok pr_X12_takeWord.1 pr_X12_takeWord.2).1 (xat_ok pr_X12_takeWord.1 pr_X12_takeWord.2).2.1 (xat_ok pr_X12_takeWord.1 pr_X12_takeWord.2).2.2 h
  · exact (List.forall_mem_cons.mpr ⟨(xent_met X (ci := 12) hT cd_X12_wrong lk_X12_162 rfl (by decide) rfl (by decide +kernel) (fun z => absurd z (by decide)) (hw_X12_wrong l D cA sA fu 0) (fun _ => ⟨by decide, fun _ => ⟨TX12, 29, rfl⟩⟩) (by constructor <;> omega) (by decide)), (List.forall_mem_cons.mpr ⟨(xent_met X (ci := 12) hT cd_X12_hasWord lk_X12_168 rfl (by decide) rfl (by decide +kernel) (fun z => absurd z (by decide)) (hw_X12_hasWord l D cA sA fu 0) (fun _ => ⟨by decide, fun _ => ⟨TX12, 29, rfl⟩⟩) (by constructor <;> omega) (by decide)), (fun _ h => nomatch h)⟩)⟩)
  · exact (fun _ h => nomatch h)

theorem ok_X12_takeWord (l : Launch) (D : va_G) (cA : Nat → ClassId) (sA : Nat → Nat) (fu : Nat) (s : Nat) (x1 : Int32) (M : xM) {rr : xM} (h : F_X12_takeWord fu s x1 M = some rr) : xMet l D cA sA yX12_takeWord cX12_takeWord 2 none xG (2 + 1) 0 0 [.inr (.inr (12, some s)), .inl x1] M none rr :=
  xmet_of (by decide +kernel) (Nat.le_of_ble_eq_true rfl) (fun p e s1 m ag below meth c0 A0 ad0 Z X hn hE => wx_X12_takeWord X hn ⟨Nat.le_refl _, Nat.le_refl _⟩ hE fu s x1 M h)
theorem hw_X12_takeWord (l : Launch) (D : va_G) (cA : Nat → ClassId) (sA : Nat → Nat) (fu : Nat) {ρ : Type} {r0 : ρ} (kd1 : Nat) : ∀ (as : List xV) (M : xM) (k : Option xV → xM → Option ρ), w_X12_takeWord fu as M k = some r0 → ∃ v M', xMet l D cA sA yX12_takeWord cX12_takeWord 2 none xG (2 + 1) 0 0 as M v M' ∧ k v M' = some r0 ∧ (kd1 ≠ 2 → ∃ a as', as = .inr (.inr (12, some a)) :: as') := by
  intro as M k h
  unfold w_X12_takeWord at h
  replace h := pR_some h
  obtain ⟨o, as1, rfl, h⟩ := h
  replace h := bd_some h
  obtain ⟨s, rfl, h⟩ := h
  replace h := pI_some h
  obtain ⟨x1, as1, rfl, h⟩ := h
  replace h := xe_some h
  obtain ⟨rfl, h⟩ := h
  obtain ⟨p1, hp, h⟩ := Option.bind_eq_some_iff.mp h
  exact ⟨_, _, ok_X12_takeWord l D cA sA fu s x1 M hp, h, fun _ => ⟨_, _, rfl⟩⟩
theorem cd_X12_takeNumber : Cond.code yX12_takeNumber cX12_takeNumber 3 (some .int) ∈ xG := (xg 1714 (by decide +kernel) (by decide +kernel))
theorem pr_X12_takeNumber : (∀ e ∈ pX12_takeNumber, xrow cX12_takeNumber 3 kdX12 flX12 0 false RX12 e) ∧ xnext pX12_takeNumber = true := xrows (by decide +kernel)
set_option maxRecDepth 100000 in
theorem wx_X12_takeNumber_70 (X : xCtx p R S0 m ag c0 D cA A0 sA 3 cX12_takeNumber RX12 (.code yX12_takeNumber cX12_takeNumber 3 (some .int) :: xG) 0 0) (hi : meth.name = yX12_takeNumber.name) (hroom : 1 + 2 ≤ R.frames ∧ 60 * (1 + 2) ≤ R.locals) {rr : Int32 × xM} (hE : xEnd l D cA sA cX12_takeNumber 3 (some .int) R 0 0 (some (.inl rr.1)) rr.2 p e S0 m ag below meth c0 A0 M0 ad0 Z) (fu : Nat) (s : Nat) (M : xM) (h : J_X12_takeNumber_70 fu s M = some rr) : xWx p l e R S0 m ag below meth c0 D cA A0 sA M0 ad0 3 Z 0 0 70 0 0 [(0, .inr (.inr (12, some s)))] [] M := by
  rw [← q_X12_takeNumber_70 fu s M] at h
  have hT : ∀ w ∈ xG, w ∈ (Cond.code yX12_takeNumber cX12_takeNumber 3 (some .int) :: xG) := fun w hw => List.mem_cons_of_mem _ hw
  refine xrun_sound (nst := 0) (isInit := false) (kd := kdX12) X (xcls_mono hT xclsG) (xpool_mono hT plX12) (fun z => by cases z) (fun idx v hf => xkoE_mono hT (koX12_ok _ (xfind_mem hf))) (xents (ca := _) ?_) (endI hE).1 (endI hE).2 (xcuts (cu := _) ?_) pr_X12_takeNumber.1 pr_X12_takeNumber.2 _ _ _ _ _ _ _ _ (xat_ok pr_X12_takeNumber.1 pr_X12_takeNumber.2).1 (xat_ok pr_X12_takeNumber.1 pr_X12_takeNumber.2).2.1 (xat_ok pr_X12_takeNumber.1 pr_X12_takeNumber.2).2.2 h
  · exact (fun _ h => nomatch h)
  · exact (fun _ h => nomatch h)

set_option maxRecDepth 100000 in
theorem wx_X12_takeNumber_28 (X : xCtx p R S0 m ag c0 D cA A0 sA 3 cX12_takeNumber RX12 (.code yX12_takeNumber cX12_takeNumber 3 (some .int) :: xG) 0 0) (hi : meth.name = yX12_takeNumber.name) (hroom : 1 + 2 ≤ R.frames ∧ 60 * (1 + 2) ≤ R.locals) {rr : Int32 × xM} (hE : xEnd l D cA sA cX12_takeNumber 3 (some .int) R 0 0 (some (.inl rr.1)) rr.2 p e S0 m ag below meth c0 A0 M0 ad0 Z) (fu : Nat) (s : Nat) (x1 : Int32) (x2 : Int32) (M : xM) (h : J_X12_takeNumber_28 fu s x1 x2 M = some rr) : xWx p l e R S0 m ag below meth c0 D cA A0 sA M0 ad0 3 Z 0 0 28 0 0 [(0, .inr (.inr (12, some s))), (1, .inl x1), (2, .inl x2)] [] M := by
  rw [← q_X12_takeNumber_28 fu s x1 x2 M] at h
  have hT : ∀ w ∈ xG, w ∈ (Cond.code yX12_takeNumber cX12_takeNumber 3 (some .int) :: xG) := fun w hw => List.mem_cons_of_mem _ hw
  refine xrun_sound (nst := 0) (isInit := false) (kd := kdX12) X (xcls_mono hT xclsG) (xpool_mono hT plX12) (fun z => by cases z) (fun idx v hf => xkoE_mono hT (koX12_ok _ (xfind_mem hf))) (xents (ca := _) ?_) (endI hE).1 (endI hE).2 (xcuts (cu := _) ?_) pr_X12_takeNumber.1 pr_X12_takeNumber.2 _ _ _ _ _ _ _ _ (xat_ok pr_X12_takeNumber.1 pr_X12_takeNumber.2).1 (xat_ok pr_X12_takeNumber.1 pr_X12_takeNumber.2).2.1 (xat_ok pr_X12_takeNumber.1 pr_X12_takeNumber.2).2.2 h
  · exact (List.forall_mem_cons.mpr ⟨(xent_met X (ci := 12) hT cd_X12_wrong lk_X12_162 rfl (by decide) rfl (by decide +kernel) (fun z => absurd z (by decide)) (hw_X12_wrong l D cA sA fu 0) (fun _ => ⟨by decide, fun _ => ⟨TX12, 29, rfl⟩⟩) (by constructor <;> omega) (by decide)), (fun _ h => nomatch h)⟩)
  · refine (List.forall_mem_cons.mpr ⟨?_, (fun _ h => nomatch h)⟩)
    · intro bc bs ls st M h
      replace h := xz_some h
      obtain ⟨rfl, rfl, h⟩ := h
      replace h := lR_some h
      obtain ⟨o, e0, h⟩ := h
      replace h := bd_some h
      obtain ⟨s', rfl, h⟩ := h
      replace h := xe_some h
      obtain ⟨rfl, h⟩ := h
      exact xWx_ls (wx_X12_takeNumber_70 X hi hroom hE fu s' M h) (List.forall_mem_cons.mpr ⟨e0, (fun _ h => nomatch h)⟩)

set_option maxRecDepth 100000 in
theorem wx_X12_takeNumber (X : xCtx p R S0 m ag c0 D cA A0 sA 3 cX12_takeNumber RX12 (.code yX12_takeNumber cX12_takeNumber 3 (some .int) :: xG) 0 0) (hi : meth.name = yX12_takeNumber.name) (hroom : 1 + 2 ≤ R.frames ∧ 60 * (1 + 2) ≤ R.locals) {rr : Int32 × xM} (hE : xEnd l D cA sA cX12_takeNumber 3 (some .int) R 0 0 (some (.inl rr.1)) rr.2 p e S0 m ag below meth c0 A0 M0 ad0 Z) (fu : Nat) (s : Nat) (x1 : Int32) (x2 : Int32) (M : xM) (h : F_X12_takeNumber fu s x1 x2 M = some rr) : xWx p l e R S0 m ag below meth c0 D cA A0 sA M0 ad0 3 Z 0 0 0 0 0 [(0, .inr (.inr (12, some s))), (1, .inl x1), (2, .inl x2)] [] M := by
  rw [← q_X12_takeNumber fu s x1 x2 M] at h
  have hT : ∀ w ∈ xG, w ∈ (Cond.code yX12_takeNumber cX12_takeNumber 3 (some .int) :: xG) := fun w hw => List.mem_cons_of_mem _ hw
  refine xrun_sound (nst := 0) (isInit := false) (kd := kdX12) X (xcls_mono hT xclsG) (xpool_mono hT plX12) (fun z => by cases z) (fun idx v hf => xkoE_mono hT (koX12_ok _ (xfind_mem hf))) (xents (ca := _) ?_) (endI hE).1 (endI hE).2 (xcuts (cu := _) ?_) pr_X12_takeNumber.1 pr_X12_takeNumber.2 _ _ _ _ _ _ _ _ (xat_ok pr_X12_takeNumber.1 pr_X12_takeNumber.2).1 (xat_ok pr_X12_takeNumber.1 pr_X12_takeNumber.2).2.1 (xat_ok pr_X12_takeNumber.1 pr_X12_takeNumber.2).2.2 h
  · exact (List.forall_mem_cons.mpr ⟨(xent_met X (ci := 12) hT cd_X12_wrong lk_X12_162 rfl (by decide) rfl (by decide +kernel) (fun z => absurd z (by decide)) (hw_X12_wrong l D cA sA fu 0) (fun _ => ⟨by decide, fun _ => ⟨TX12, 29, rfl⟩⟩) (by constructor <;> omega) (by decide)), (fun _ h => nomatch h)⟩)
  · refine (List.forall_mem_cons.mpr ⟨?_, (List.forall_mem_cons.mpr ⟨?_, (fun _ h => nomatch h)⟩)⟩)
    · intro bc bs ls st M h
      replace h := xz_some h
      obtain ⟨rfl, rfl, h⟩ := h
      replace h := lR_some h
      obtain ⟨o, e0, h⟩ := h
      replace h := bd_some h
      obtain ⟨s', rfl, h⟩ := h
      replace h := lI_some h
      obtain ⟨x1', e1, h⟩ := h
      replace h := lI_some h
      obtain ⟨x2', e2, h⟩ := h
      replace h := xe_some h
      obtain ⟨rfl, h⟩ := h
      exact xWx_ls (wx_X12_takeNumber_28 X hi hroom hE fu s' x1' x2' M h) (List.forall_mem_cons.mpr ⟨e0, (List.forall_mem_cons.mpr ⟨e1, (List.forall_mem_cons.mpr ⟨e2, (fun _ h => nomatch h)⟩)⟩)⟩)
    · intro bc bs ls st M h
      replace h := xz_some h
      obtain ⟨rfl, rfl, h⟩ := h
      replace h := lR_some h
      obtain ⟨o, e0, h⟩ := h
      replace h := bd_some h
      obtain ⟨s', rfl, h⟩ := h
      replace h := xe_some h
      obtain ⟨rfl, h⟩ := h
      exact xWx_ls (wx_X12_takeNumber_70 X hi hroom hE fu s' M h) (List.forall_mem_cons.mpr ⟨e0, (fun _ h => nomatch h)⟩)

theorem ok_X12_takeNumber (l : Launch) (D : va_G) (cA : Nat → ClassId) (sA : Nat → Nat) (fu : Nat) (s : Nat) (x1 : Int32) (x2 : Int32) (M : xM) {rr : Int32 × xM} (h : F_X12_takeNumber fu s x1 x2 M = some rr) : xMet l D cA sA yX12_takeNumber cX12_takeNumber 3 (some .int) xG (1 + 1) 0 0 [.inr (.inr (12, some s)), .inl x1, .inl x2] M (some (.inl rr.1)) rr.2 :=
  xmet_of (by decide +kernel) (Nat.le_of_ble_eq_true rfl) (fun p e s1 m ag below meth c0 A0 ad0 Z X hn hE => wx_X12_takeNumber X hn ⟨Nat.le_refl _, Nat.le_refl _⟩ hE fu s x1 x2 M h)
theorem hw_X12_takeNumber (l : Launch) (D : va_G) (cA : Nat → ClassId) (sA : Nat → Nat) (fu : Nat) {ρ : Type} {r0 : ρ} (kd1 : Nat) : ∀ (as : List xV) (M : xM) (k : Option xV → xM → Option ρ), w_X12_takeNumber fu as M k = some r0 → ∃ v M', xMet l D cA sA yX12_takeNumber cX12_takeNumber 3 (some .int) xG (1 + 1) 0 0 as M v M' ∧ k v M' = some r0 ∧ (kd1 ≠ 2 → ∃ a as', as = .inr (.inr (12, some a)) :: as') := by
  intro as M k h
  unfold w_X12_takeNumber at h
  replace h := pR_some h
  obtain ⟨o, as1, rfl, h⟩ := h
  replace h := bd_some h
  obtain ⟨s, rfl, h⟩ := h
  replace h := pI_some h
  obtain ⟨x1, as1, rfl, h⟩ := h
  replace h := pI_some h
  obtain ⟨x2, as1, rfl, h⟩ := h
  replace h := xe_some h
  obtain ⟨rfl, h⟩ := h
  obtain ⟨p1, hp, h⟩ := Option.bind_eq_some_iff.mp h
  exact ⟨_, _, ok_X12_takeNumber l D cA sA fu s x1 x2 M hp, h, fun _ => ⟨_, _, rfl⟩⟩
theorem lk_X12_193 : xLink xG RX12 193 0 yX12_takeNumber 2 := ⟨Or.inl (xg 1711 (by decide +kernel) (by decide +kernel)), (xg 1713 (by decide +kernel) (by decide +kernel)), (xg 55 (by decide +kernel) (by decide +kernel)), (xg 141 (by decide +kernel) (by decide +kernel)), ⟨12, by decide, TX12, 29, rfl⟩⟩
theorem lk_X12_210 : xLink xG RX12 210 0 yX12_takeOne 2 := ⟨Or.inl (xg 1699 (by decide +kernel) (by decide +kernel)), (xg 1701 (by decide +kernel) (by decide +kernel)), (xg 52 (by decide +kernel) (by decide +kernel)), (xg 141 (by decide +kernel) (by decide +kernel)), ⟨12, by decide, TX12, 29, rfl⟩⟩
theorem lk_X12_213 : xLink xG RX12 213 0 yX12_takeWord 1 := ⟨Or.inl (xg 1703 (by decide +kernel) (by decide +kernel)), (xg 1705 (by decide +kernel) (by decide +kernel)), (xg 53 (by decide +kernel) (by decide +kernel)), (xg 141 (by decide +kernel) (by decide +kernel)), ⟨12, by decide, TX12, 29, rfl⟩⟩
theorem lk_X12_203 : xLink xG RX12 203 0 yX12_isName 0 := ⟨Or.inl (xg 1691 (by decide +kernel) (by decide +kernel)), (xg 1693 (by decide +kernel) (by decide +kernel)), (xg 50 (by decide +kernel) (by decide +kernel)), (xg 141 (by decide +kernel) (by decide +kernel)), ⟨12, by decide, TX12, 29, rfl⟩⟩
theorem lk_X12_207 : xLink xG RX12 207 0 yX12_nameAt 2 := ⟨Or.inl (xg 1695 (by decide +kernel) (by decide +kernel)), (xg 1697 (by decide +kernel) (by decide +kernel)), (xg 51 (by decide +kernel) (by decide +kernel)), (xg 141 (by decide +kernel) (by decide +kernel)), ⟨12, by decide, TX12, 29, rfl⟩⟩
theorem cd_X12_readFile : Cond.code yX12_readFile cX12_readFile 4 none ∈ xG := (xg 1686 (by decide +kernel) (by decide +kernel))
theorem pr_X12_readFile : (∀ e ∈ pX12_readFile, xrow cX12_readFile 4 kdX12 flX12 0 false RX12 e) ∧ xnext pX12_readFile = true := xrows (by decide +kernel)
set_option maxRecDepth 100000 in
theorem wx_X12_readFile_58 (X : xCtx p R S0 m ag c0 D cA A0 sA 4 cX12_readFile RX12 (.code yX12_readFile cX12_readFile 4 none :: xG) 0 0) (hi : meth.name = yX12_readFile.name) (hroom : 3 + 2 ≤ R.frames ∧ 60 * (3 + 2) ≤ R.locals) {rr : xM} (hE : xEnd l D cA sA cX12_readFile 4 none R 0 0 none rr p e S0 m ag below meth c0 A0 M0 ad0 Z) (fu : Nat) (s : Nat) (x1 : Int32) (M : xM) (h : J_X12_readFile_58 fu s x1 M = some rr) : xWx p l e R S0 m ag below meth c0 D cA A0 sA M0 ad0 4 Z 0 0 58 0 0 [(0, .inr (.inr (12, some s))), (1, .inl x1)] [] M := by
  rw [← q_X12_readFile_58 fu s x1 M] at h
  have hT : ∀ w ∈ xG, w ∈ (Cond.code yX12_readFile cX12_readFile 4 none :: xG) := fun w hw => List.mem_cons_of_mem _ hw
  refine xrun_sound (nst := 0) (isInit := false) (kd := kdX12) X (xcls_mono hT xclsG) (xpool_mono hT plX12) (fun z => by cases z) (fun idx v hf => xkoE_mono hT (koX12_ok _ (xfind_mem hf))) (xents (ca := _) ?_) (endV hE).1 (endV hE).2 (xcuts (cu := _) ?_) pr_X12_readFile.1 pr_X12_readFile.2 _ _ _ _ _ _ _ _ (xat_ok pr_X12_readFile.1 pr_X12_readFile.2).1 (xat_ok pr_X12_readFile.1 pr_X12_readFile.2).2.1 (xat_ok pr_X12_readFile.1 pr_X12_readFile.2).2.2 h
  · exact (List.forall_mem_cons.mpr ⟨(xent_met X (ci := 12) hT cd_X12_takeNumber lk_X12_193 rfl (by decide) rfl (by decide +kernel) (fun z => absurd z (by decide)) (hw_X12_takeNumber l D cA sA fu 0) (fun _ => ⟨by decide, fun _ => ⟨TX12, 29, rfl⟩⟩) (by constructor <;> omega) (by decide)), (List.forall_mem_cons.mpr ⟨(xent_met X (ci := 12) hT cd_X12_takeOne lk_X12_210 rfl (by decide) rfl (by decide +kernel) (fun z => absurd z (by decide)) (hw_X12_takeOne l D cA sA fu 0) (fun _ => ⟨by decide, fun _ => ⟨TX12, 29, rfl⟩⟩) (by constructor <;> omega) (by decide)), (List.forall_mem_cons.mpr ⟨(xent_met X (ci := 12) hT cd_X12_takeWord lk_X12_213 rfl (by decide) rfl (by decide +kernel) (fun z => absurd z (by decide)) (hw_X12_takeWord l D cA sA fu 0) (fun _ => ⟨by decide, fun _ => ⟨TX12, 29, rfl⟩⟩) (by constructor <;> omega) (by decide)), (fun _ h => nomatch h)⟩)⟩)⟩)
  · exact (fun _ h => nomatch h)

set_option maxRecDepth 100000 in
theorem wx_X12_readFile (X : xCtx p R S0 m ag c0 D cA A0 sA 4 cX12_readFile RX12 (.code yX12_readFile cX12_readFile 4 none :: xG) 0 0) (hi : meth.name = yX12_readFile.name) (hroom : 3 + 2 ≤ R.frames ∧ 60 * (3 + 2) ≤ R.locals) {rr : xM} (hE : xEnd l D cA sA cX12_readFile 4 none R 0 0 none rr p e S0 m ag below meth c0 A0 M0 ad0 Z) (fu : Nat) (s : Nat) (M : xM) (h : F_X12_readFile fu s M = some rr) : xWx p l e R S0 m ag below meth c0 D cA A0 sA M0 ad0 4 Z 0 0 0 0 0 [(0, .inr (.inr (12, some s)))] [] M := by
  rw [← q_X12_readFile fu s M] at h
  have hT : ∀ w ∈ xG, w ∈ (Cond.code yX12_readFile cX12_readFile 4 none :: xG) := fun w hw => List.mem_cons_of_mem _ hw
  refine xrun_sound (nst := 0) (isInit := false) (kd := kdX12) X (xcls_mono hT xclsG) (xpool_mono hT plX12) (fun z => by cases z) (fun idx v hf => xkoE_mono hT (koX12_ok _ (xfind_mem hf))) (xents (ca := _) ?_) (endV hE).1 (endV hE).2 (xcuts (cu := _) ?_) pr_X12_readFile.1 pr_X12_readFile.2 _ _ _ _ _ _ _ _ (xat_ok pr_X12_readFile.1 pr_X12_readFile.2).1 (xat_ok pr_X12_readFile.1 pr_X12_readFile.2).2.1 (xat_ok pr_X12_readFile.1 pr_X12_readFile.2).2.2 h
  · exact (List.forall_mem_cons.mpr ⟨(xent_met X (ci := 12) hT cd_X12_wrong lk_X12_162 rfl (by decide) rfl (by decide +kernel) (fun z => absurd z (by decide)) (hw_X12_wrong l D cA sA fu 0) (fun _ => ⟨by decide, fun _ => ⟨TX12, 29, rfl⟩⟩) (by constructor <;> omega) (by decide)), (List.forall_mem_cons.mpr ⟨(xent_met X (ci := 12) hT cd_X12_isName lk_X12_203 rfl (by decide) rfl (by decide +kernel) (fun z => absurd z (by decide)) (hw_X12_isName l D cA sA fu 0) (fun _ => ⟨by decide, fun _ => ⟨TX12, 29, rfl⟩⟩) (by constructor <;> omega) (by decide)), (List.forall_mem_cons.mpr ⟨(xent_met X (ci := 12) hT cd_X12_nameAt lk_X12_207 rfl (by decide) rfl (by decide +kernel) (fun z => absurd z (by decide)) (hw_X12_nameAt l D cA sA fu 0) (fun _ => ⟨by decide, fun _ => ⟨TX12, 29, rfl⟩⟩) (by constructor <;> omega) (by decide)), (fun _ h => nomatch h)⟩)⟩)⟩)
  · refine (List.forall_mem_cons.mpr ⟨?_, (fun _ h => nomatch h)⟩)
    · intro bc bs ls st M h
      replace h := xz_some h
      obtain ⟨rfl, rfl, h⟩ := h
      replace h := lR_some h
      obtain ⟨o, e0, h⟩ := h
      replace h := bd_some h
      obtain ⟨s', rfl, h⟩ := h
      replace h := lI_some h
      obtain ⟨x1', e1, h⟩ := h
      replace h := xe_some h
      obtain ⟨rfl, h⟩ := h
      exact xWx_ls (wx_X12_readFile_58 X hi hroom hE fu s' x1' M h) (List.forall_mem_cons.mpr ⟨e0, (List.forall_mem_cons.mpr ⟨e1, (fun _ h => nomatch h)⟩)⟩)

theorem ok_X12_readFile (l : Launch) (D : va_G) (cA : Nat → ClassId) (sA : Nat → Nat) (fu : Nat) (s : Nat) (M : xM) {rr : xM} (h : F_X12_readFile fu s M = some rr) : xMet l D cA sA yX12_readFile cX12_readFile 4 none xG (3 + 1) 0 0 [.inr (.inr (12, some s))] M none rr :=
  xmet_of (by decide +kernel) (Nat.le_of_ble_eq_true rfl) (fun p e s1 m ag below meth c0 A0 ad0 Z X hn hE => wx_X12_readFile X hn ⟨Nat.le_refl _, Nat.le_refl _⟩ hE fu s M h)
theorem hw_X12_readFile (l : Launch) (D : va_G) (cA : Nat → ClassId) (sA : Nat → Nat) (fu : Nat) {ρ : Type} {r0 : ρ} (kd1 : Nat) : ∀ (as : List xV) (M : xM) (k : Option xV → xM → Option ρ), w_X12_readFile fu as M k = some r0 → ∃ v M', xMet l D cA sA yX12_readFile cX12_readFile 4 none xG (3 + 1) 0 0 as M v M' ∧ k v M' = some r0 ∧ (kd1 ≠ 2 → ∃ a as', as = .inr (.inr (12, some a)) :: as') := by
  intro as M k h
  unfold w_X12_readFile at h
  replace h := pR_some h
  obtain ⟨o, as1, rfl, h⟩ := h
  replace h := bd_some h
  obtain ⟨s, rfl, h⟩ := h
  replace h := xe_some h
  obtain ⟨rfl, h⟩ := h
  obtain ⟨p1, hp, h⟩ := Option.bind_eq_some_iff.mp h
  exact ⟨_, _, ok_X12_readFile l D cA sA fu s M hp, h, fun _ => ⟨_, _, rfl⟩⟩
theorem lk_X12_236 : xLink xG RX12 236 0 yX12_products 1 := ⟨Or.inl (xg 1731 (by decide +kernel) (by decide +kernel)), (xg 1733 (by decide +kernel) (by decide +kernel)), (xg 60 (by decide +kernel) (by decide +kernel)), (xg 141 (by decide +kernel) (by decide +kernel)), ⟨12, by decide, TX12, 29, rfl⟩⟩
theorem cd_X12_sums : Cond.code yX12_sums cX12_sums 3 none ∈ xG := (xg 1730 (by decide +kernel) (by decide +kernel))
theorem pr_X12_sums : (∀ e ∈ pX12_sums, xrow cX12_sums 3 kdX12 flX12 0 false RX12 e) ∧ xnext pX12_sums = true := xrows (by decide +kernel)
set_option maxRecDepth 100000 in
theorem wx_X12_sums_23 {hR : Nat} (X : xCtx p R S0 m ag c0 D cA A0 sA 3 cX12_sums RX12 (.code yX12_sums cX12_sums 3 none :: xG) 0 0) (hi : meth.name = yX12_sums.name) (hroom : (hR + 3) + 2 ≤ R.frames ∧ 60 * ((hR + 3) + 2) ≤ R.locals) {rr : xM} (hE : xEnd l D cA sA cX12_sums 3 none R 0 0 none rr p e S0 m ag below meth c0 A0 M0 ad0 Z) (fu : Nat) (r : Nat → Int32 → xM → Option xM) (hr : ∀ (s : Nat) (x1 : Int32) (M : xM) (rr : xM), r s x1 M = some rr → xMet l D cA sA yX12_takePart cX12_takePart 4 none xG hR 0 0 [.inr (.inr (12, some s)), .inl x1] M none rr) (k5 : Nat → Int32 → xM → Option xM) (hk5 : ∀ (s : Nat) (x1 : Int32) (M : xM), k5 s x1 M = some rr → xWx p l e R S0 m ag below meth c0 D cA A0 sA M0 ad0 3 Z 0 0 5 0 0 [(0, .inr (.inr (12, some s))), (1, .inl x1)] [] M) (s : Nat) (x1 : Int32) (M : xM) (h : J_X12_sums_23 fu r k5 s x1 M = some rr) : xWx p l e R S0 m ag below meth c0 D cA A0 sA M0 ad0 3 Z 0 0 23 0 0 [(0, .inr (.inr (12, some s))), (1, .inl x1)] [] M := by
  rw [← q_X12_sums_23 fu r k5 s x1 M] at h
  have hT : ∀ w ∈ xG, w ∈ (Cond.code yX12_sums cX12_sums 3 none :: xG) := fun w hw => List.mem_cons_of_mem _ hw
  refine xrun_sound (nst := 0) (isInit := false) (kd := kdX12) X (xcls_mono hT xclsG) (xpool_mono hT plX12) (fun z => by cases z) (fun idx v hf => xkoE_mono hT (koX12_ok _ (xfind_mem hf))) (xents (ca := _) ?_) (endV hE).1 (endV hE).2 (xcuts (cu := _) ?_) pr_X12_sums.1 pr_X12_sums.2 _ _ _ _ _ _ _ _ (xat_ok pr_X12_sums.1 pr_X12_sums.2).1 (xat_ok pr_X12_sums.1 pr_X12_sums.2).2.1 (xat_ok pr_X12_sums.1 pr_X12_sums.2).2.2 h
  · exact (List.forall_mem_cons.mpr ⟨(xent_met X (ci := 12) hT cd_X12_isSign lk_X12_159 rfl (by decide) rfl (by decide +kernel) (fun z => absurd z (by decide)) (hw_X12_isSign l D cA sA fu 0) (fun _ => ⟨by decide, fun _ => ⟨TX12, 29, rfl⟩⟩) (by constructor <;> omega) (by decide)), (List.forall_mem_cons.mpr ⟨(xent_met X (ci := 12) hT cd_X12_emit lk_X12_199 rfl (by decide) rfl (by decide +kernel) (fun z => absurd z (by decide)) (hw_X12_emit l D cA sA fu 0) (fun _ => ⟨by decide, fun _ => ⟨TX12, 29, rfl⟩⟩) (by constructor <;> omega) (by decide)), (List.forall_mem_cons.mpr ⟨(xent_met X (ci := 12) hT cd_X12_products lk_X12_236 rfl (by decide) rfl (by decide +kernel) (fun z => absurd z (by decide)) (hw_X12_products l D cA sA fu r hR hr 0) (fun _ => ⟨by decide, fun _ => ⟨TX12, 29, rfl⟩⟩) (by constructor <;> omega) (by decide)), (fun _ h => nomatch h)⟩)⟩)⟩)
  · refine (List.forall_mem_cons.mpr ⟨?_, (fun _ h => nomatch h)⟩)
    · intro bc bs ls st M h
      replace h := xz_some h
      obtain ⟨rfl, rfl, h⟩ := h
      replace h := lR_some h
      obtain ⟨o, e0, h⟩ := h
      replace h := bd_some h
      obtain ⟨s', rfl, h⟩ := h
      replace h := lI_some h
      obtain ⟨x1', e1, h⟩ := h
      replace h := xe_some h
      obtain ⟨rfl, h⟩ := h
      exact xWx_ls (hk5 s' x1' M h) (List.forall_mem_cons.mpr ⟨e0, (List.forall_mem_cons.mpr ⟨e1, (fun _ h => nomatch h)⟩)⟩)

set_option maxRecDepth 100000 in
theorem wx_X12_sums_5 {hR : Nat} (X : xCtx p R S0 m ag c0 D cA A0 sA 3 cX12_sums RX12 (.code yX12_sums cX12_sums 3 none :: xG) 0 0) (hi : meth.name = yX12_sums.name) (hroom : (hR + 3) + 2 ≤ R.frames ∧ 60 * ((hR + 3) + 2) ≤ R.locals) {rr : xM} (hE : xEnd l D cA sA cX12_sums 3 none R 0 0 none rr p e S0 m ag below meth c0 A0 M0 ad0 Z) (fu : Nat) (r : Nat → Int32 → xM → Option xM) (hr : ∀ (s : Nat) (x1 : Int32) (M : xM) (rr : xM), r s x1 M = some rr → xMet l D cA sA yX12_takePart cX12_takePart 4 none xG hR 0 0 [.inr (.inr (12, some s)), .inl x1] M none rr) : ∀ (n : Nat) (s : Nat) (x1 : Int32) (M : xM), L_X12_sums_5 fu r n s x1 M = some rr → xWx p l e R S0 m ag below meth c0 D cA A0 sA M0 ad0 3 Z 0 0 5 0 0 [(0, .inr (.inr (12, some s))), (1, .inl x1)] [] M := by
  intro n
  induction n with
  | zero => intro s x1 M h; cases h
  | succ n ih =>
    intro s x1 M h
    rw [← q_X12_sums_5 fu r n s x1 M] at h
    have hT : ∀ w ∈ xG, w ∈ (Cond.code yX12_sums cX12_sums 3 none :: xG) := fun w hw => List.mem_cons_of_mem _ hw
    refine xrun_sound (nst := 0) (isInit := false) (kd := kdX12) X (xcls_mono hT xclsG) (xpool_mono hT plX12) (fun z => by cases z) (fun idx v hf => xkoE_mono hT (koX12_ok _ (xfind_mem hf))) (xents (ca := _) ?_) (endV hE).1 (endV hE).2 (xcuts (cu := _) ?_) pr_X12_sums.1 pr_X12_sums.2 _ _ _ _ _ _ _ _ (xat_ok pr_X12_sums.1 pr_X12_sums.2).1 (xat_ok pr_X12_sums.1 pr_X12_sums.2).2.1 (xat_ok pr_X12_sums.1 pr_X12_sums.2).2.2 h
    · exact (List.forall_mem_cons.mpr ⟨(xent_met X (ci := 12) hT cd_X12_isSign lk_X12_159 rfl (by decide) rfl (by decide +kernel) (fun z => absurd z (by decide)) (hw_X12_isSign l D cA sA fu 0) (fun _ => ⟨by decide, fun _ => ⟨TX12, 29, rfl⟩⟩) (by constructor <;> omega) (by decide)), (fun _ h => nomatch h)⟩)
    · refine (List.forall_mem_cons.mpr ⟨?_, (fun _ h => nomatch h)⟩)
      · intro bc bs ls st M h
        replace h := xz_some h
        obtain ⟨rfl, rfl, h⟩ := h
        replace h := lR_some h
        obtain ⟨o, e0, h⟩ := h
        replace h := bd_some h
        obtain ⟨s', rfl, h⟩ := h
        replace h := lI_some h
        obtain ⟨x1', e1, h⟩ := h
        replace h := xe_some h
        obtain ⟨rfl, h⟩ := h
        exact xWx_ls (wx_X12_sums_23 X hi hroom hE fu r hr _ ih s' x1' M h) (List.forall_mem_cons.mpr ⟨e0, (List.forall_mem_cons.mpr ⟨e1, (fun _ h => nomatch h)⟩)⟩)

set_option maxRecDepth 100000 in
theorem wx_X12_sums {hR : Nat} (X : xCtx p R S0 m ag c0 D cA A0 sA 3 cX12_sums RX12 (.code yX12_sums cX12_sums 3 none :: xG) 0 0) (hi : meth.name = yX12_sums.name) (hroom : (hR + 3) + 2 ≤ R.frames ∧ 60 * ((hR + 3) + 2) ≤ R.locals) {rr : xM} (hE : xEnd l D cA sA cX12_sums 3 none R 0 0 none rr p e S0 m ag below meth c0 A0 M0 ad0 Z) (fu : Nat) (r : Nat → Int32 → xM → Option xM) (hr : ∀ (s : Nat) (x1 : Int32) (M : xM) (rr : xM), r s x1 M = some rr → xMet l D cA sA yX12_takePart cX12_takePart 4 none xG hR 0 0 [.inr (.inr (12, some s)), .inl x1] M none rr) (s : Nat) (x1 : Int32) (M : xM) (h : F_X12_sums fu r s x1 M = some rr) : xWx p l e R S0 m ag below meth c0 D cA A0 sA M0 ad0 3 Z 0 0 0 0 0 [(0, .inr (.inr (12, some s))), (1, .inl x1)] [] M := by
  rw [← q_X12_sums fu r s x1 M] at h
  have hT : ∀ w ∈ xG, w ∈ (Cond.code yX12_sums cX12_sums 3 none :: xG) := fun w hw => List.mem_cons_of_mem _ hw
  refine xrun_sound (nst := 0) (isInit := false) (kd := kdX12) X (xcls_mono hT xclsG) (xpool_mono hT plX12) (fun z => by cases z) (fun idx v hf => xkoE_mono hT (koX12_ok _ (xfind_mem hf))) (xents (ca := _) ?_) (endV hE).1 (endV hE).2 (xcuts (cu := _) ?_) pr_X12_sums.1 pr_X12_sums.2 _ _ _ _ _ _ _ _ (xat_ok pr_X12_sums.1 pr_X12_sums.2).1 (xat_ok pr_X12_sums.1 pr_X12_sums.2).2.1 (xat_ok pr_X12_sums.1 pr_X12_sums.2).2.2 h
  · exact (List.forall_mem_cons.mpr ⟨(xent_met X (ci := 12) hT cd_X12_products lk_X12_236 rfl (by decide) rfl (by decide +kernel) (fun z => absurd z (by decide)) (hw_X12_products l D cA sA fu r hR hr 0) (fun _ => ⟨by decide, fun _ => ⟨TX12, 29, rfl⟩⟩) (by constructor <;> omega) (by decide)), (fun _ h => nomatch h)⟩)
  · refine (List.forall_mem_cons.mpr ⟨?_, (fun _ h => nomatch h)⟩)
    · intro bc bs ls st M h
      replace h := xz_some h
      obtain ⟨rfl, rfl, h⟩ := h
      replace h := lR_some h
      obtain ⟨o, e0, h⟩ := h
      replace h := bd_some h
      obtain ⟨s', rfl, h⟩ := h
      replace h := lI_some h
      obtain ⟨x1', e1, h⟩ := h
      replace h := xe_some h
      obtain ⟨rfl, h⟩ := h
      exact xWx_ls (wx_X12_sums_5 X hi hroom hE fu r hr fu s' x1' M h) (List.forall_mem_cons.mpr ⟨e0, (List.forall_mem_cons.mpr ⟨e1, (fun _ h => nomatch h)⟩)⟩)

theorem ok_X12_sums (l : Launch) (D : va_G) (cA : Nat → ClassId) (sA : Nat → Nat) (fu : Nat) (r : Nat → Int32 → xM → Option xM) (hR : Nat) (hr : ∀ (s : Nat) (x1 : Int32) (M : xM) (rr : xM), r s x1 M = some rr → xMet l D cA sA yX12_takePart cX12_takePart 4 none xG hR 0 0 [.inr (.inr (12, some s)), .inl x1] M none rr) (s : Nat) (x1 : Int32) (M : xM) {rr : xM} (h : F_X12_sums fu r s x1 M = some rr) : xMet l D cA sA yX12_sums cX12_sums 3 none xG ((hR + 3) + 1) 0 0 [.inr (.inr (12, some s)), .inl x1] M none rr :=
  xmet_of (by decide +kernel) (Nat.le_of_ble_eq_true rfl) (fun p e s1 m ag below meth c0 A0 ad0 Z X hn hE => wx_X12_sums X hn ⟨Nat.le_refl _, Nat.le_refl _⟩ hE fu r hr s x1 M h)
theorem hw_X12_sums (l : Launch) (D : va_G) (cA : Nat → ClassId) (sA : Nat → Nat) (fu : Nat) (r : Nat → Int32 → xM → Option xM) (hR : Nat) (hr : ∀ (s : Nat) (x1 : Int32) (M : xM) (rr : xM), r s x1 M = some rr → xMet l D cA sA yX12_takePart cX12_takePart 4 none xG hR 0 0 [.inr (.inr (12, some s)), .inl x1] M none rr) {ρ : Type} {r0 : ρ} (kd1 : Nat) : ∀ (as : List xV) (M : xM) (k : Option xV → xM → Option ρ), w_X12_sums fu r as M k = some r0 → ∃ v M', xMet l D cA sA yX12_sums cX12_sums 3 none xG ((hR + 3) + 1) 0 0 as M v M' ∧ k v M' = some r0 ∧ (kd1 ≠ 2 → ∃ a as', as = .inr (.inr (12, some a)) :: as') := by
  intro as M k h
  unfold w_X12_sums at h
  replace h := pR_some h
  obtain ⟨o, as1, rfl, h⟩ := h
  replace h := bd_some h
  obtain ⟨s, rfl, h⟩ := h
  replace h := pI_some h
  obtain ⟨x1, as1, rfl, h⟩ := h
  replace h := xe_some h
  obtain ⟨rfl, h⟩ := h
  obtain ⟨p1, hp, h⟩ := Option.bind_eq_some_iff.mp h
  exact ⟨_, _, ok_X12_sums l D cA sA fu r hR hr s x1 M hp, h, fun _ => ⟨_, _, rfl⟩⟩
theorem lk_X12_230 : xLink xG RX12 230 0 yX12_sums 1 := ⟨Or.inl (xg 1727 (by decide +kernel) (by decide +kernel)), (xg 1729 (by decide +kernel) (by decide +kernel)), (xg 59 (by decide +kernel) (by decide +kernel)), (xg 141 (by decide +kernel) (by decide +kernel)), ⟨12, by decide, TX12, 29, rfl⟩⟩
theorem cd_X12_test : Cond.code yX12_test cX12_test 3 none ∈ xG := (xg 1726 (by decide +kernel) (by decide +kernel))
theorem pr_X12_test : (∀ e ∈ pX12_test, xrow cX12_test 3 kdX12 flX12 0 false RX12 e) ∧ xnext pX12_test = true := xrows (by decide +kernel)
set_option maxRecDepth 100000 in
theorem wx_X12_test_30 {hR : Nat} (X : xCtx p R S0 m ag c0 D cA A0 sA 3 cX12_test RX12 (.code yX12_test cX12_test 3 none :: xG) 0 0) (hi : meth.name = yX12_test.name) (hroom : (hR + 4) + 2 ≤ R.frames ∧ 60 * ((hR + 4) + 2) ≤ R.locals) {rr : xM} (hE : xEnd l D cA sA cX12_test 3 none R 0 0 none rr p e S0 m ag below meth c0 A0 M0 ad0 Z) (fu : Nat) (r : Nat → Int32 → xM → Option xM) (hr : ∀ (s : Nat) (x1 : Int32) (M : xM) (rr : xM), r s x1 M = some rr → xMet l D cA sA yX12_takePart cX12_takePart 4 none xG hR 0 0 [.inr (.inr (12, some s)), .inl x1] M none rr) (s : Nat) (x1 : Int32) (x2 : Int32) (M : xM) (h : J_X12_test_30 fu r s x1 x2 M = some rr) : xWx p l e R S0 m ag below meth c0 D cA A0 sA M0 ad0 3 Z 0 0 30 0 0 [(0, .inr (.inr (12, some s))), (1, .inl x1), (2, .inl x2)] [] M := by
  rw [← q_X12_test_30 fu r s x1 x2 M] at h
  have hT : ∀ w ∈ xG, w ∈ (Cond.code yX12_test cX12_test 3 none :: xG) := fun w hw => List.mem_cons_of_mem _ hw
  refine xrun_sound (nst := 0) (isInit := false) (kd := kdX12) X (xcls_mono hT xclsG) (xpool_mono hT plX12) (fun z => by cases z) (fun idx v hf => xkoE_mono hT (koX12_ok _ (xfind_mem hf))) (xents (ca := _) ?_) (endV hE).1 (endV hE).2 (xcuts (cu := _) ?_) pr_X12_test.1 pr_X12_test.2 _ _ _ _ _ _ _ _ (xat_ok pr_X12_test.1 pr_X12_test.2).1 (xat_ok pr_X12_test.1 pr_X12_test.2).2.1 (xat_ok pr_X12_test.1 pr_X12_test.2).2.2 h
  · exact (List.forall_mem_cons.mpr ⟨(xent_met X (ci := 12) hT cd_X12_emit lk_X12_199 rfl (by decide) rfl (by decide +kernel) (fun z => absurd z (by decide)) (hw_X12_emit l D cA sA fu 0) (fun _ => ⟨by decide, fun _ => ⟨TX12, 29, rfl⟩⟩) (by constructor <;> omega) (by decide)), (List.forall_mem_cons.mpr ⟨(xent_met X (ci := 12) hT cd_X12_sums lk_X12_230 rfl (by decide) rfl (by decide +kernel) (fun z => absurd z (by decide)) (hw_X12_sums l D cA sA fu r hR hr 0) (fun _ => ⟨by decide, fun _ => ⟨TX12, 29, rfl⟩⟩) (by constructor <;> omega) (by decide)), (fun _ h => nomatch h)⟩)⟩)
  · exact (fun _ h => nomatch h)

set_option maxRecDepth 100000 in
theorem wx_X12_test {hR : Nat} (X : xCtx p R S0 m ag c0 D cA A0 sA 3 cX12_test RX12 (.code yX12_test cX12_test 3 none :: xG) 0 0) (hi : meth.name = yX12_test.name) (hroom : (hR + 4) + 2 ≤ R.frames ∧ 60 * ((hR + 4) + 2) ≤ R.locals) {rr : xM} (hE : xEnd l D cA sA cX12_test 3 none R 0 0 none rr p e S0 m ag below meth c0 A0 M0 ad0 Z) (fu : Nat) (r : Nat → Int32 → xM → Option xM) (hr : ∀ (s : Nat) (x1 : Int32) (M : xM) (rr : xM), r s x1 M = some rr → xMet l D cA sA yX12_takePart cX12_takePart 4 none xG hR 0 0 [.inr (.inr (12, some s)), .inl x1] M none rr) (s : Nat) (x1 : Int32) (M : xM) (h : F_X12_test fu r s x1 M = some rr) : xWx p l e R S0 m ag below meth c0 D cA A0 sA M0 ad0 3 Z 0 0 0 0 0 [(0, .inr (.inr (12, some s))), (1, .inl x1)] [] M := by
  rw [← q_X12_test fu r s x1 M] at h
  have hT : ∀ w ∈ xG, w ∈ (Cond.code yX12_test cX12_test 3 none :: xG) := fun w hw => List.mem_cons_of_mem _ hw
  refine xrun_sound (nst := 0) (isInit := false) (kd := kdX12) X (xcls_mono hT xclsG) (xpool_mono hT plX12) (fun z => by cases z) (fun idx v hf => xkoE_mono hT (koX12_ok _ (xfind_mem hf))) (xents (ca := _) ?_) (endV hE).1 (endV hE).2 (xcuts (cu := _) ?_) pr_X12_test.1 pr_X12_test.2 _ _ _ _ _ _ _ _ (xat_ok pr_X12_test.1 pr_X12_test.2).1 (xat_ok pr_X12_test.1 pr_X12_test.2).2.1 (xat_ok pr_X12_test.1 pr_X12_test.2).2.2 h
  · exact (List.forall_mem_cons.mpr ⟨(xent_met X (ci := 12) hT cd_X12_isSign lk_X12_159 rfl (by decide) rfl (by decide +kernel) (fun z => absurd z (by decide)) (hw_X12_isSign l D cA sA fu 0) (fun _ => ⟨by decide, fun _ => ⟨TX12, 29, rfl⟩⟩) (by constructor <;> omega) (by decide)), (List.forall_mem_cons.mpr ⟨(xent_met X (ci := 12) hT cd_X12_sums lk_X12_230 rfl (by decide) rfl (by decide +kernel) (fun z => absurd z (by decide)) (hw_X12_sums l D cA sA fu r hR hr 0) (fun _ => ⟨by decide, fun _ => ⟨TX12, 29, rfl⟩⟩) (by constructor <;> omega) (by decide)), (List.forall_mem_cons.mpr ⟨(xent_met X (ci := 12) hT cd_X12_hasSign lk_X12_233 rfl (by decide) rfl (by decide +kernel) (fun z => absurd z (by decide)) (hw_X12_hasSign l D cA sA fu 0) (fun _ => ⟨by decide, fun _ => ⟨TX12, 29, rfl⟩⟩) (by constructor <;> omega) (by decide)), (fun _ h => nomatch h)⟩)⟩)⟩)
  · refine (List.forall_mem_cons.mpr ⟨?_, (fun _ h => nomatch h)⟩)
    · intro bc bs ls st M h
      replace h := xz_some h
      obtain ⟨rfl, rfl, h⟩ := h
      replace h := lR_some h
      obtain ⟨o, e0, h⟩ := h
      replace h := bd_some h
      obtain ⟨s', rfl, h⟩ := h
      replace h := lI_some h
      obtain ⟨x1', e1, h⟩ := h
      replace h := lI_some h
      obtain ⟨x2', e2, h⟩ := h
      replace h := xe_some h
      obtain ⟨rfl, h⟩ := h
      exact xWx_ls (wx_X12_test_30 X hi hroom hE fu r hr s' x1' x2' M h) (List.forall_mem_cons.mpr ⟨e0, (List.forall_mem_cons.mpr ⟨e1, (List.forall_mem_cons.mpr ⟨e2, (fun _ h => nomatch h)⟩)⟩)⟩)

theorem ok_X12_test (l : Launch) (D : va_G) (cA : Nat → ClassId) (sA : Nat → Nat) (fu : Nat) (r : Nat → Int32 → xM → Option xM) (hR : Nat) (hr : ∀ (s : Nat) (x1 : Int32) (M : xM) (rr : xM), r s x1 M = some rr → xMet l D cA sA yX12_takePart cX12_takePart 4 none xG hR 0 0 [.inr (.inr (12, some s)), .inl x1] M none rr) (s : Nat) (x1 : Int32) (M : xM) {rr : xM} (h : F_X12_test fu r s x1 M = some rr) : xMet l D cA sA yX12_test cX12_test 3 none xG ((hR + 4) + 1) 0 0 [.inr (.inr (12, some s)), .inl x1] M none rr :=
  xmet_of (by decide +kernel) (Nat.le_of_ble_eq_true rfl) (fun p e s1 m ag below meth c0 A0 ad0 Z X hn hE => wx_X12_test X hn ⟨Nat.le_refl _, Nat.le_refl _⟩ hE fu r hr s x1 M h)
theorem hw_X12_test (l : Launch) (D : va_G) (cA : Nat → ClassId) (sA : Nat → Nat) (fu : Nat) (r : Nat → Int32 → xM → Option xM) (hR : Nat) (hr : ∀ (s : Nat) (x1 : Int32) (M : xM) (rr : xM), r s x1 M = some rr → xMet l D cA sA yX12_takePart cX12_takePart 4 none xG hR 0 0 [.inr (.inr (12, some s)), .inl x1] M none rr) {ρ : Type} {r0 : ρ} (kd1 : Nat) : ∀ (as : List xV) (M : xM) (k : Option xV → xM → Option ρ), w_X12_test fu r as M k = some r0 → ∃ v M', xMet l D cA sA yX12_test cX12_test 3 none xG ((hR + 4) + 1) 0 0 as M v M' ∧ k v M' = some r0 ∧ (kd1 ≠ 2 → ∃ a as', as = .inr (.inr (12, some a)) :: as') := by
  intro as M k h
  unfold w_X12_test at h
  replace h := pR_some h
  obtain ⟨o, as1, rfl, h⟩ := h
  replace h := bd_some h
  obtain ⟨s, rfl, h⟩ := h
  replace h := pI_some h
  obtain ⟨x1, as1, rfl, h⟩ := h
  replace h := xe_some h
  obtain ⟨rfl, h⟩ := h
  obtain ⟨p1, hp, h⟩ := Option.bind_eq_some_iff.mp h
  exact ⟨_, _, ok_X12_test l D cA sA fu r hR hr s x1 M hp, h, fun _ => ⟨_, _, rfl⟩⟩
theorem lk_X12_227 : xLink xG RX12 227 0 yX12_test 1 := ⟨Or.inl (xg 1723 (by decide +kernel) (by decide +kernel)), (xg 1725 (by decide +kernel) (by decide +kernel)), (xg 58 (by decide +kernel) (by decide +kernel)), (xg 141 (by decide +kernel) (by decide +kernel)), ⟨12, by decide, TX12, 29, rfl⟩⟩
theorem cd_X12_whole : Cond.code yX12_whole cX12_whole 3 none ∈ xG := (xg 1722 (by decide +kernel) (by decide +kernel))
theorem pr_X12_whole : (∀ e ∈ pX12_whole, xrow cX12_whole 3 kdX12 flX12 0 false RX12 e) ∧ xnext pX12_whole = true := xrows (by decide +kernel)
set_option maxRecDepth 100000 in
theorem wx_X12_whole_23 {hR : Nat} (X : xCtx p R S0 m ag c0 D cA A0 sA 3 cX12_whole RX12 (.code yX12_whole cX12_whole 3 none :: xG) 0 0) (hi : meth.name = yX12_whole.name) (hroom : (hR + 5) + 2 ≤ R.frames ∧ 60 * ((hR + 5) + 2) ≤ R.locals) {rr : xM} (hE : xEnd l D cA sA cX12_whole 3 none R 0 0 none rr p e S0 m ag below meth c0 A0 M0 ad0 Z) (fu : Nat) (r : Nat → Int32 → xM → Option xM) (hr : ∀ (s : Nat) (x1 : Int32) (M : xM) (rr : xM), r s x1 M = some rr → xMet l D cA sA yX12_takePart cX12_takePart 4 none xG hR 0 0 [.inr (.inr (12, some s)), .inl x1] M none rr) (k5 : Nat → Int32 → xM → Option xM) (hk5 : ∀ (s : Nat) (x1 : Int32) (M : xM), k5 s x1 M = some rr → xWx p l e R S0 m ag below meth c0 D cA A0 sA M0 ad0 3 Z 0 0 5 0 0 [(0, .inr (.inr (12, some s))), (1, .inl x1)] [] M) (s : Nat) (x1 : Int32) (M : xM) (h : J_X12_whole_23 fu r k5 s x1 M = some rr) : xWx p l e R S0 m ag below meth c0 D cA A0 sA M0 ad0 3 Z 0 0 23 0 0 [(0, .inr (.inr (12, some s))), (1, .inl x1)] [] M := by
  rw [← q_X12_whole_23 fu r k5 s x1 M] at h
  have hT : ∀ w ∈ xG, w ∈ (Cond.code yX12_whole cX12_whole 3 none :: xG) := fun w hw => List.mem_cons_of_mem _ hw
  refine xrun_sound (nst := 0) (isInit := false) (kd := kdX12) X (xcls_mono hT xclsG) (xpool_mono hT plX12) (fun z => by cases z) (fun idx v hf => xkoE_mono hT (koX12_ok _ (xfind_mem hf))) (xents (ca := _) ?_) (endV hE).1 (endV hE).2 (xcuts (cu := _) ?_) pr_X12_whole.1 pr_X12_whole.2 _ _ _ _ _ _ _ _ (xat_ok pr_X12_whole.1 pr_X12_whole.2).1 (xat_ok pr_X12_whole.1 pr_X12_whole.2).2.1 (xat_ok pr_X12_whole.1 pr_X12_whole.2).2.2 h
  · exact (List.forall_mem_cons.mpr ⟨(xent_met X (ci := 12) hT cd_X12_isWord lk_X12_165 rfl (by decide) rfl (by decide +kernel) (fun z => absurd z (by decide)) (hw_X12_isWord l D cA sA fu 0) (fun _ => ⟨by decide, fun _ => ⟨TX12, 29, rfl⟩⟩) (by constructor <;> omega) (by decide)), (List.forall_mem_cons.mpr ⟨(xent_met X (ci := 12) hT cd_X12_emit lk_X12_199 rfl (by decide) rfl (by decide +kernel) (fun z => absurd z (by decide)) (hw_X12_emit l D cA sA fu 0) (fun _ => ⟨by decide, fun _ => ⟨TX12, 29, rfl⟩⟩) (by constructor <;> omega) (by decide)), (List.forall_mem_cons.mpr ⟨(xent_met X (ci := 12) hT cd_X12_test lk_X12_227 rfl (by decide) rfl (by decide +kernel) (fun z => absurd z (by decide)) (hw_X12_test l D cA sA fu r hR hr 0) (fun _ => ⟨by decide, fun _ => ⟨TX12, 29, rfl⟩⟩) (by constructor <;> omega) (by decide)), (fun _ h => nomatch h)⟩)⟩)⟩)
  · refine (List.forall_mem_cons.mpr ⟨?_, (fun _ h => nomatch h)⟩)
    · intro bc bs ls st M h
      replace h := xz_some h
      obtain ⟨rfl, rfl, h⟩ := h
      replace h := lR_some h
      obtain ⟨o, e0, h⟩ := h
      replace h := bd_some h
      obtain ⟨s', rfl, h⟩ := h
      replace h := lI_some h
      obtain ⟨x1', e1, h⟩ := h
      replace h := xe_some h
      obtain ⟨rfl, h⟩ := h
      exact xWx_ls (hk5 s' x1' M h) (List.forall_mem_cons.mpr ⟨e0, (List.forall_mem_cons.mpr ⟨e1, (fun _ h => nomatch h)⟩)⟩)

set_option maxRecDepth 100000 in
theorem wx_X12_whole_5 {hR : Nat} (X : xCtx p R S0 m ag c0 D cA A0 sA 3 cX12_whole RX12 (.code yX12_whole cX12_whole 3 none :: xG) 0 0) (hi : meth.name = yX12_whole.name) (hroom : (hR + 5) + 2 ≤ R.frames ∧ 60 * ((hR + 5) + 2) ≤ R.locals) {rr : xM} (hE : xEnd l D cA sA cX12_whole 3 none R 0 0 none rr p e S0 m ag below meth c0 A0 M0 ad0 Z) (fu : Nat) (r : Nat → Int32 → xM → Option xM) (hr : ∀ (s : Nat) (x1 : Int32) (M : xM) (rr : xM), r s x1 M = some rr → xMet l D cA sA yX12_takePart cX12_takePart 4 none xG hR 0 0 [.inr (.inr (12, some s)), .inl x1] M none rr) : ∀ (n : Nat) (s : Nat) (x1 : Int32) (M : xM), L_X12_whole_5 fu r n s x1 M = some rr → xWx p l e R S0 m ag below meth c0 D cA A0 sA M0 ad0 3 Z 0 0 5 0 0 [(0, .inr (.inr (12, some s))), (1, .inl x1)] [] M := by
  intro n
  induction n with
  | zero => intro s x1 M h; cases h
  | succ n ih =>
    intro s x1 M h
    rw [← q_X12_whole_5 fu r n s x1 M] at h
    have hT : ∀ w ∈ xG, w ∈ (Cond.code yX12_whole cX12_whole 3 none :: xG) := fun w hw => List.mem_cons_of_mem _ hw
    refine xrun_sound (nst := 0) (isInit := false) (kd := kdX12) X (xcls_mono hT xclsG) (xpool_mono hT plX12) (fun z => by cases z) (fun idx v hf => xkoE_mono hT (koX12_ok _ (xfind_mem hf))) (xents (ca := _) ?_) (endV hE).1 (endV hE).2 (xcuts (cu := _) ?_) pr_X12_whole.1 pr_X12_whole.2 _ _ _ _ _ _ _ _ (xat_ok pr_X12_whole.1 pr_X12_whole.2).1 (xat_ok pr_X12_whole.1 pr_X12_whole.2).2.1 (xat_ok pr_X12_whole.1 pr_X12_whole.2).2.2 h
    · exact (List.forall_mem_cons.mpr ⟨(xent_met X (ci := 12) hT cd_X12_isWord lk_X12_165 rfl (by decide) rfl (by decide +kernel) (fun z => absurd z (by decide)) (hw_X12_isWord l D cA sA fu 0) (fun _ => ⟨by decide, fun _ => ⟨TX12, 29, rfl⟩⟩) (by constructor <;> omega) (by decide)), (fun _ h => nomatch h)⟩)
    · refine (List.forall_mem_cons.mpr ⟨?_, (fun _ h => nomatch h)⟩)
      · intro bc bs ls st M h
        replace h := xz_some h
        obtain ⟨rfl, rfl, h⟩ := h
        replace h := lR_some h
        obtain ⟨o, e0, h⟩ := h
        replace h := bd_some h
        obtain ⟨s', rfl, h⟩ := h
        replace h := lI_some h
        obtain ⟨x1', e1, h⟩ := h
        replace h := xe_some h
        obtain ⟨rfl, h⟩ := h
        exact xWx_ls (wx_X12_whole_23 X hi hroom hE fu r hr _ ih s' x1' M h) (List.forall_mem_cons.mpr ⟨e0, (List.forall_mem_cons.mpr ⟨e1, (fun _ h => nomatch h)⟩)⟩)

set_option maxRecDepth 100000 in
theorem wx_X12_whole {hR : Nat} (X : xCtx p R S0 m ag c0 D cA A0 sA 3 cX12_whole RX12 (.code yX12_whole cX12_whole 3 none :: xG) 0 0) (hi : meth.name = yX12_whole.name) (hroom : (hR + 5) + 2 ≤ R.frames ∧ 60 * ((hR + 5) + 2) ≤ R.locals) {rr : xM} (hE : xEnd l D cA sA cX12_whole 3 none R 0 0 none rr p e S0 m ag below meth c0 A0 M0 ad0 Z) (fu : Nat) (r : Nat → Int32 → xM → Option xM) (hr : ∀ (s : Nat) (x1 : Int32) (M : xM) (rr : xM), r s x1 M = some rr → xMet l D cA sA yX12_takePart cX12_takePart 4 none xG hR 0 0 [.inr (.inr (12, some s)), .inl x1] M none rr) (s : Nat) (x1 : Int32) (M : xM) (h : F_X12_whole fu r s x1 M = some rr) : xWx p l e R S0 m ag below meth c0 D cA A0 sA M0 ad0 3 Z 0 0 0 0 0 [(0, .inr (.inr (12, some s))), (1, .inl x1)] [] M := by
  rw [← q_X12_whole fu r s x1 M] at h
  have hT : ∀ w ∈ xG, w ∈ (Cond.code yX12_whole cX12_whole 3 none :: xG) := fun w hw => List.mem_cons_of_mem _ hw
  refine xrun_sound (nst := 0) (isInit := false) (kd := kdX12) X (xcls_mono hT xclsG) (xpool_mono hT plX12) (fun z => by cases z) (fun idx v hf => xkoE_mono hT (koX12_ok _ (xfind_mem hf))) (xents (ca := _) ?_) (endV hE).1 (endV hE).2 (xcuts (cu := _) ?_) pr_X12_whole.1 pr_X12_whole.2 _ _ _ _ _ _ _ _ (xat_ok pr_X12_whole.1 pr_X12_whole.2).1 (xat_ok pr_X12_whole.1 pr_X12_whole.2).2.1 (xat_ok pr_X12_whole.1 pr_X12_whole.2).2.2 h
  · exact (List.forall_mem_cons.mpr ⟨(xent_met X (ci := 12) hT cd_X12_test lk_X12_227 rfl (by decide) rfl (by decide +kernel) (fun z => absurd z (by decide)) (hw_X12_test l D cA sA fu r hR hr 0) (fun _ => ⟨by decide, fun _ => ⟨TX12, 29, rfl⟩⟩) (by constructor <;> omega) (by decide)), (fun _ h => nomatch h)⟩)
  · refine (List.forall_mem_cons.mpr ⟨?_, (fun _ h => nomatch h)⟩)
    · intro bc bs ls st M h
      replace h := xz_some h
      obtain ⟨rfl, rfl, h⟩ := h
      replace h := lR_some h
      obtain ⟨o, e0, h⟩ := h
      replace h := bd_some h
      obtain ⟨s', rfl, h⟩ := h
      replace h := lI_some h
      obtain ⟨x1', e1, h⟩ := h
      replace h := xe_some h
      obtain ⟨rfl, h⟩ := h
      exact xWx_ls (wx_X12_whole_5 X hi hroom hE fu r hr fu s' x1' M h) (List.forall_mem_cons.mpr ⟨e0, (List.forall_mem_cons.mpr ⟨e1, (fun _ h => nomatch h)⟩)⟩)

theorem ok_X12_whole (l : Launch) (D : va_G) (cA : Nat → ClassId) (sA : Nat → Nat) (fu : Nat) (r : Nat → Int32 → xM → Option xM) (hR : Nat) (hr : ∀ (s : Nat) (x1 : Int32) (M : xM) (rr : xM), r s x1 M = some rr → xMet l D cA sA yX12_takePart cX12_takePart 4 none xG hR 0 0 [.inr (.inr (12, some s)), .inl x1] M none rr) (s : Nat) (x1 : Int32) (M : xM) {rr : xM} (h : F_X12_whole fu r s x1 M = some rr) : xMet l D cA sA yX12_whole cX12_whole 3 none xG ((hR + 5) + 1) 0 0 [.inr (.inr (12, some s)), .inl x1] M none rr :=
  xmet_of (by decide +kernel) (Nat.le_of_ble_eq_true rfl) (fun p e s1 m ag below meth c0 A0 ad0 Z X hn hE => wx_X12_whole X hn ⟨Nat.le_refl _, Nat.le_refl _⟩ hE fu r hr s x1 M h)
theorem hw_X12_whole (l : Launch) (D : va_G) (cA : Nat → ClassId) (sA : Nat → Nat) (fu : Nat) (r : Nat → Int32 → xM → Option xM) (hR : Nat) (hr : ∀ (s : Nat) (x1 : Int32) (M : xM) (rr : xM), r s x1 M = some rr → xMet l D cA sA yX12_takePart cX12_takePart 4 none xG hR 0 0 [.inr (.inr (12, some s)), .inl x1] M none rr) {ρ : Type} {r0 : ρ} (kd1 : Nat) : ∀ (as : List xV) (M : xM) (k : Option xV → xM → Option ρ), w_X12_whole fu r as M k = some r0 → ∃ v M', xMet l D cA sA yX12_whole cX12_whole 3 none xG ((hR + 5) + 1) 0 0 as M v M' ∧ k v M' = some r0 ∧ (kd1 ≠ 2 → ∃ a as', as = .inr (.inr (12, some a)) :: as') := by
  intro as M k h
  unfold w_X12_whole at h
  replace h := pR_some h
  obtain ⟨o, as1, rfl, h⟩ := h
  replace h := bd_some h
  obtain ⟨s, rfl, h⟩ := h
  replace h := pI_some h
  obtain ⟨x1, as1, rfl, h⟩ := h
  replace h := xe_some h
  obtain ⟨rfl, h⟩ := h
  obtain ⟨p1, hp, h⟩ := Option.bind_eq_some_iff.mp h
  exact ⟨_, _, ok_X12_whole l D cA sA fu r hR hr s x1 M hp, h, fun _ => ⟨_, _, rfl⟩⟩
theorem cd_X12_takeSign : Cond.code yX12_takeSign cX12_takeSign 2 none ∈ xG := (xg 1754 (by decide +kernel) (by decide +kernel))
theorem pr_X12_takeSign : (∀ e ∈ pX12_takeSign, xrow cX12_takeSign 2 kdX12 flX12 0 false RX12 e) ∧ xnext pX12_takeSign = true := xrows (by decide +kernel)
set_option maxRecDepth 100000 in
theorem wx_X12_takeSign (X : xCtx p R S0 m ag c0 D cA A0 sA 2 cX12_takeSign RX12 (.code yX12_takeSign cX12_takeSign 2 none :: xG) 0 0) (hi : meth.name = yX12_takeSign.name) (hroom : 1 + 2 ≤ R.frames ∧ 60 * (1 + 2) ≤ R.locals) {rr : xM} (hE : xEnd l D cA sA cX12_takeSign 2 none R 0 0 none rr p e S0 m ag below meth c0 A0 M0 ad0 Z) (fu : Nat) (s : Nat) (x1 : Int32) (M : xM) (h : F_X12_takeSign fu s x1 M = some rr) : xWx p l e R S0 m ag below meth c0 D cA A0 sA M0 ad0 2 Z 0 0 0 0 0 [(0, .inr (.inr (12, some s))), (1, .inl x1)] [] M := by
  rw [← q_X12_takeSign fu s x1 M] at h
  have hT : ∀ w ∈ xG, w ∈ (Cond.code yX12_takeSign cX12_takeSign 2 none :: xG) := fun w hw => List.mem_cons_of_mem _ hw
  refine xrun_sound (nst := 0) (isInit := false) (kd := kdX12) X (xcls_mono hT xclsG) (xpool_mono hT plX12) (fun z => by cases z) (fun idx v hf => xkoE_mono hT (koX12_ok _ (xfind_mem hf))) (xents (ca := _) ?_) (endV hE).1 (endV hE).2 (xcuts (cu := _) ?_) pr_X12_takeSign.1 pr_X12_takeSign.2 _ _ _ _ _ _ _ _ (xat_ok pr_X12_takeSign.1 pr_X12_takeSign.2).1 (xat_ok pr_X12_takeSign.1 pr_X12_takeSign.2).2.1 (xat_ok pr_X12_takeSign.1 pr_X12_takeSign.2).2.2 h
  · exact (List.forall_mem_cons.mpr ⟨(xent_met X (ci := 12) hT cd_X12_isSign lk_X12_159 rfl (by decide) rfl (by decide +kernel) (fun z => absurd z (by decide)) (hw_X12_isSign l D cA sA fu 0) (fun _ => ⟨by decide, fun _ => ⟨TX12, 29, rfl⟩⟩) (by constructor <;> omega) (by decide)), (List.forall_mem_cons.mpr ⟨(xent_met X (ci := 12) hT cd_X12_wrong lk_X12_162 rfl (by decide) rfl (by decide +kernel) (fun z => absurd z (by decide)) (hw_X12_wrong l D cA sA fu 0) (fun _ => ⟨by decide, fun _ => ⟨TX12, 29, rfl⟩⟩) (by constructor <;> omega) (by decide)), (fun _ h => nomatch h)⟩)⟩)
  · exact (fun _ h => nomatch h)

theorem ok_X12_takeSign (l : Launch) (D : va_G) (cA : Nat → ClassId) (sA : Nat → Nat) (fu : Nat) (s : Nat) (x1 : Int32) (M : xM) {rr : xM} (h : F_X12_takeSign fu s x1 M = some rr) : xMet l D cA sA yX12_takeSign cX12_takeSign 2 none xG (1 + 1) 0 0 [.inr (.inr (12, some s)), .inl x1] M none rr :=
  xmet_of (by decide +kernel) (Nat.le_of_ble_eq_true rfl) (fun p e s1 m ag below meth c0 A0 ad0 Z X hn hE => wx_X12_takeSign X hn ⟨Nat.le_refl _, Nat.le_refl _⟩ hE fu s x1 M h)
theorem hw_X12_takeSign (l : Launch) (D : va_G) (cA : Nat → ClassId) (sA : Nat → Nat) (fu : Nat) {ρ : Type} {r0 : ρ} (kd1 : Nat) : ∀ (as : List xV) (M : xM) (k : Option xV → xM → Option ρ), w_X12_takeSign fu as M k = some r0 → ∃ v M', xMet l D cA sA yX12_takeSign cX12_takeSign 2 none xG (1 + 1) 0 0 as M v M' ∧ k v M' = some r0 ∧ (kd1 ≠ 2 → ∃ a as', as = .inr (.inr (12, some a)) :: as') := by
  intro as M k h
  unfold w_X12_takeSign at h
  replace h := pR_some h
  obtain ⟨o, as1, rfl, h⟩ := h
  replace h := bd_some h
  obtain ⟨s, rfl, h⟩ := h
  replace h := pI_some h
  obtain ⟨x1, as1, rfl, h⟩ := h
  replace h := xe_some h
  obtain ⟨rfl, h⟩ := h
  obtain ⟨p1, hp, h⟩ := Option.bind_eq_some_iff.mp h
  exact ⟨_, _, ok_X12_takeSign l D cA sA fu s x1 M hp, h, fun _ => ⟨_, _, rfl⟩⟩
theorem lk_X12_184 : xLink xG RX12 184 0 yX12_takeSign 1 := ⟨Or.inl (xg 1751 (by decide +kernel) (by decide +kernel)), (xg 1753 (by decide +kernel) (by decide +kernel)), (xg 65 (by decide +kernel) (by decide +kernel)), (xg 141 (by decide +kernel) (by decide +kernel)), ⟨12, by decide, TX12, 29, rfl⟩⟩
theorem lk_X12_196 : xLink xG RX12 196 0 yX12_whole 1 := ⟨Or.inl (xg 1719 (by decide +kernel) (by decide +kernel)), (xg 1721 (by decide +kernel) (by decide +kernel)), (xg 57 (by decide +kernel) (by decide +kernel)), (xg 141 (by decide +kernel) (by decide +kernel)), ⟨12, by decide, TX12, 29, rfl⟩⟩
theorem pr_X12_takePart : (∀ e ∈ pX12_takePart, xrow cX12_takePart 4 kdX12 flX12 0 false RX12 e) ∧ xnext pX12_takePart = true := xrows (by decide +kernel)
set_option maxRecDepth 100000 in
theorem wx_X12_takePart_147 {hR : Nat} (X : xCtx p R S0 m ag c0 D cA A0 sA 4 cX12_takePart RX12 (.code yX12_takePart cX12_takePart 4 none :: xG) 0 0) (hi : meth.name = yX12_takePart.name) (hroom : (hR + 6) + 2 ≤ R.frames ∧ 60 * ((hR + 6) + 2) ≤ R.locals) {rr : xM} (hE : xEnd l D cA sA cX12_takePart 4 none R 0 0 none rr p e S0 m ag below meth c0 A0 M0 ad0 Z) (fu : Nat) (r : Nat → Int32 → xM → Option xM) (hr : ∀ (s : Nat) (x1 : Int32) (M : xM) (rr : xM), r s x1 M = some rr → xMet l D cA sA yX12_takePart cX12_takePart 4 none xG hR 0 0 [.inr (.inr (12, some s)), .inl x1] M none rr) (s : Nat) (x2 : Int32) (x3 : Int32) (y0 : Int32) (y1 : Nat) (M : xM) (h : J_X12_takePart_147 fu r s x2 x3 y0 y1 M = some rr) : xWx p l e R S0 m ag below meth c0 D cA A0 sA M0 ad0 4 Z 0 0 147 0 0 [(0, .inr (.inr (12, some s))), (2, .inl x2), (3, .inl x3)] [.inl y0, .inr (.inr (12, some y1))] M := by
  rw [← q_X12_takePart_147 fu r s x2 x3 y0 y1 M] at h
  have hT : ∀ w ∈ xG, w ∈ (Cond.code yX12_takePart cX12_takePart 4 none :: xG) := fun w hw => List.mem_cons_of_mem _ hw
  refine xrun_sound (nst := 0) (isInit := false) (kd := kdX12) X (xcls_mono hT xclsG) (xpool_mono hT plX12) (fun z => by cases z) (fun idx v hf => xkoE_mono hT (koX12_ok _ (xfind_mem hf))) (xents (ca := _) ?_) (endV hE).1 (endV hE).2 (xcuts (cu := _) ?_) pr_X12_takePart.1 pr_X12_takePart.2 _ _ _ _ _ _ _ _ (xat_ok pr_X12_takePart.1 pr_X12_takePart.2).1 (xat_ok pr_X12_takePart.1 pr_X12_takePart.2).2.1 (xat_ok pr_X12_takePart.1 pr_X12_takePart.2).2.2 h
  · exact (List.forall_mem_cons.mpr ⟨(xent_met X (ci := 12) hT cd_X12_emit lk_X12_199 rfl (by decide) rfl (by decide +kernel) (fun z => absurd z (by decide)) (hw_X12_emit l D cA sA fu 0) (fun _ => ⟨by decide, fun _ => ⟨TX12, 29, rfl⟩⟩) (by constructor <;> omega) (by decide)), (fun _ h => nomatch h)⟩)
  · exact (fun _ h => nomatch h)

set_option maxRecDepth 100000 in
theorem wx_X12_takePart_79 {hR : Nat} (X : xCtx p R S0 m ag c0 D cA A0 sA 4 cX12_takePart RX12 (.code yX12_takePart cX12_takePart 4 none :: xG) 0 0) (hi : meth.name = yX12_takePart.name) (hroom : (hR + 6) + 2 ≤ R.frames ∧ 60 * ((hR + 6) + 2) ≤ R.locals) {rr : xM} (hE : xEnd l D cA sA cX12_takePart 4 none R 0 0 none rr p e S0 m ag below meth c0 A0 M0 ad0 Z) (fu : Nat) (r : Nat → Int32 → xM → Option xM) (hr : ∀ (s : Nat) (x1 : Int32) (M : xM) (rr : xM), r s x1 M = some rr → xMet l D cA sA yX12_takePart cX12_takePart 4 none xG hR 0 0 [.inr (.inr (12, some s)), .inl x1] M none rr) (s : Nat) (x1 : Int32) (x2 : Int32) (x3 : Int32) (M : xM) (h : J_X12_takePart_79 fu r s x1 x2 x3 M = some rr) : xWx p l e R S0 m ag below meth c0 D cA A0 sA M0 ad0 4 Z 0 0 79 0 0 [(0, .inr (.inr (12, some s))), (1, .inl x1), (2, .inl x2), (3, .inl x3)] [] M := by
  rw [← q_X12_takePart_79 fu r s x1 x2 x3 M] at h
  have hT : ∀ w ∈ xG, w ∈ (Cond.code yX12_takePart cX12_takePart 4 none :: xG) := fun w hw => List.mem_cons_of_mem _ hw
  refine xrun_sound (nst := 0) (isInit := false) (kd := kdX12) X (xcls_mono hT xclsG) (xpool_mono hT plX12) (fun z => by cases z) (fun idx v hf => xkoE_mono hT (koX12_ok _ (xfind_mem hf))) (xents (ca := _) ?_) (endV hE).1 (endV hE).2 (xcuts (cu := _) ?_) pr_X12_takePart.1 pr_X12_takePart.2 _ _ _ _ _ _ _ _ (xat_ok pr_X12_takePart.1 pr_X12_takePart.2).1 (xat_ok pr_X12_takePart.1 pr_X12_takePart.2).2.1 (xat_ok pr_X12_takePart.1 pr_X12_takePart.2).2.2 h
  · exact (List.forall_mem_cons.mpr ⟨(xent_met X (ci := 12) hT cd_X12_hasWord lk_X12_168 rfl (by decide) rfl (by decide +kernel) (fun z => absurd z (by decide)) (hw_X12_hasWord l D cA sA fu 0) (fun _ => ⟨by decide, fun _ => ⟨TX12, 29, rfl⟩⟩) (by constructor <;> omega) (by decide)), (List.forall_mem_cons.mpr ⟨(xent_met X (ci := 12) hT cd_X12_takeSign lk_X12_184 rfl (by decide) rfl (by decide +kernel) (fun z => absurd z (by decide)) (hw_X12_takeSign l D cA sA fu 0) (fun _ => ⟨by decide, fun _ => ⟨TX12, 29, rfl⟩⟩) (by constructor <;> omega) (by decide)), (List.forall_mem_cons.mpr ⟨(xent_met X (ci := 12) hT cd_X12_whole lk_X12_196 rfl (by decide) rfl (by decide +kernel) (fun z => absurd z (by decide)) (hw_X12_whole l D cA sA fu r hR hr 0) (fun _ => ⟨by decide, fun _ => ⟨TX12, 29, rfl⟩⟩) (by constructor <;> omega) (by decide)), (List.forall_mem_cons.mpr ⟨(xent_met X (ci := 12) hT cd_X12_emit lk_X12_199 rfl (by decide) rfl (by decide +kernel) (fun z => absurd z (by decide)) (hw_X12_emit l D cA sA fu 0) (fun _ => ⟨by decide, fun _ => ⟨TX12, 29, rfl⟩⟩) (by constructor <;> omega) (by decide)), (List.forall_mem_cons.mpr ⟨(xent_met X (ci := 12) hT cd_X12_hasSign lk_X12_233 rfl (by decide) rfl (by decide +kernel) (fun z => absurd z (by decide)) (hw_X12_hasSign l D cA sA fu 0) (fun _ => ⟨by decide, fun _ => ⟨TX12, 29, rfl⟩⟩) (by constructor <;> omega) (by decide)), (List.forall_mem_cons.mpr ⟨(xent_met X (ci := 12) hT cd_X12_takePart lk_X12_239 rfl (by decide) rfl (by decide +kernel) (fun z => absurd z (by decide)) (hwr_X12_takePart l D cA sA r hR hr 0) (fun _ => ⟨by decide, fun _ => ⟨TX12, 29, rfl⟩⟩) (by constructor <;> omega) (by decide)), (fun _ h => nomatch h)⟩)⟩)⟩)⟩)⟩)⟩)
  · refine (List.forall_mem_cons.mpr ⟨?_, (fun _ h => nomatch h)⟩)
    · intro bc bs ls st M h
      replace h := xz_some h
      obtain ⟨rfl, rfl, h⟩ := h
      replace h := lR_some h
      obtain ⟨o, e0, h⟩ := h
      replace h := bd_some h
      obtain ⟨s', rfl, h⟩ := h
      replace h := lI_some h
      obtain ⟨x2', e2, h⟩ := h
      replace h := lI_some h
      obtain ⟨x3', e3, h⟩ := h
      replace h := pI_some h
      obtain ⟨y0', st, rfl, h⟩ := h
      replace h := pR_some h
      obtain ⟨o, st, rfl, h⟩ := h
      replace h := bd_some h
      obtain ⟨y1', rfl, h⟩ := h
      replace h := xe_some h
      obtain ⟨rfl, h⟩ := h
      exact xWx_ls (wx_X12_takePart_147 X hi hroom hE fu r hr s' x2' x3' y0' y1' M h) (List.forall_mem_cons.mpr ⟨e0, (List.forall_mem_cons.mpr ⟨e2, (List.forall_mem_cons.mpr ⟨e3, (fun _ h => nomatch h)⟩)⟩)⟩)

set_option maxRecDepth 100000 in
theorem wx_X12_takePart_69 {hR : Nat} (X : xCtx p R S0 m ag c0 D cA A0 sA 4 cX12_takePart RX12 (.code yX12_takePart cX12_takePart 4 none :: xG) 0 0) (hi : meth.name = yX12_takePart.name) (hroom : (hR + 6) + 2 ≤ R.frames ∧ 60 * ((hR + 6) + 2) ≤ R.locals) {rr : xM} (hE : xEnd l D cA sA cX12_takePart 4 none R 0 0 none rr p e S0 m ag below meth c0 A0 M0 ad0 Z) (fu : Nat) (r : Nat → Int32 → xM → Option xM) (hr : ∀ (s : Nat) (x1 : Int32) (M : xM) (rr : xM), r s x1 M = some rr → xMet l D cA sA yX12_takePart cX12_takePart 4 none xG hR 0 0 [.inr (.inr (12, some s)), .inl x1] M none rr) (s : Nat) (x1 : Int32) (x2 : Int32) (x3 : Int32) (M : xM) (h : J_X12_takePart_69 fu r s x1 x2 x3 M = some rr) : xWx p l e R S0 m ag below meth c0 D cA A0 sA M0 ad0 4 Z 0 0 69 0 0 [(0, .inr (.inr (12, some s))), (1, .inl x1), (2, .inl x2), (3, .inl x3)] [] M := by
  rw [← q_X12_takePart_69 fu r s x1 x2 x3 M] at h
  have hT : ∀ w ∈ xG, w ∈ (Cond.code yX12_takePart cX12_takePart 4 none :: xG) := fun w hw => List.mem_cons_of_mem _ hw
  refine xrun_sound (nst := 0) (isInit := false) (kd := kdX12) X (xcls_mono hT xclsG) (xpool_mono hT plX12) (fun z => by cases z) (fun idx v hf => xkoE_mono hT (koX12_ok _ (xfind_mem hf))) (xents (ca := _) ?_) (endV hE).1 (endV hE).2 (xcuts (cu := _) ?_) pr_X12_takePart.1 pr_X12_takePart.2 _ _ _ _ _ _ _ _ (xat_ok pr_X12_takePart.1 pr_X12_takePart.2).1 (xat_ok pr_X12_takePart.1 pr_X12_takePart.2).2.1 (xat_ok pr_X12_takePart.1 pr_X12_takePart.2).2.2 h
  · exact (List.forall_mem_cons.mpr ⟨(xent_met X (ci := 12) hT cd_X12_wrong lk_X12_162 rfl (by decide) rfl (by decide +kernel) (fun z => absurd z (by decide)) (hw_X12_wrong l D cA sA fu 0) (fun _ => ⟨by decide, fun _ => ⟨TX12, 29, rfl⟩⟩) (by constructor <;> omega) (by decide)), (fun _ h => nomatch h)⟩)
  · refine (List.forall_mem_cons.mpr ⟨?_, (fun _ h => nomatch h)⟩)
    · intro bc bs ls st M h
      replace h := xz_some h
      obtain ⟨rfl, rfl, h⟩ := h
      replace h := lR_some h
      obtain ⟨o, e0, h⟩ := h
      replace h := bd_some h
      obtain ⟨s', rfl, h⟩ := h
      replace h := lI_some h
      obtain ⟨x1', e1, h⟩ := h
      replace h := lI_some h
      obtain ⟨x2', e2, h⟩ := h
      replace h := lI_some h
      obtain ⟨x3', e3, h⟩ := h
      replace h := xe_some h
      obtain ⟨rfl, h⟩ := h
      exact xWx_ls (wx_X12_takePart_79 X hi hroom hE fu r hr s' x1' x2' x3' M h) (List.forall_mem_cons.mpr ⟨e0, (List.forall_mem_cons.mpr ⟨e1, (List.forall_mem_cons.mpr ⟨e2, (List.forall_mem_cons.mpr ⟨e3, (fun _ h => nomatch h)⟩)⟩)⟩)⟩)

set_option maxRecDepth 100000 in
theorem wx_X12_takePart_26 {hR : Nat} (X : xCtx p R S0 m ag c0 D cA A0 sA 4 cX12_takePart RX12 (.code yX12_takePart cX12_takePart 4 none :: xG) 0 0) (hi : meth.name = yX12_takePart.name) (hroom : (hR + 6) + 2 ≤ R.frames ∧ 60 * ((hR + 6) + 2) ≤ R.locals) {rr : xM} (hE : xEnd l D cA sA cX12_takePart 4 none R 0 0 none rr p e S0 m ag below meth c0 A0 M0 ad0 Z) (fu : Nat) (r : Nat → Int32 → xM → Option xM) (hr : ∀ (s : Nat) (x1 : Int32) (M : xM) (rr : xM), r s x1 M = some rr → xMet l D cA sA yX12_takePart cX12_takePart 4 none xG hR 0 0 [.inr (.inr (12, some s)), .inl x1] M none rr) (s : Nat) (x1 : Int32) (y0 : Int32) (M : xM) (h : J_X12_takePart_26 fu r s x1 y0 M = some rr) : xWx p l e R S0 m ag below meth c0 D cA A0 sA M0 ad0 4 Z 0 0 26 0 0 [(0, .inr (.inr (12, some s))), (1, .inl x1)] [.inl y0] M := by
  rw [← q_X12_takePart_26 fu r s x1 y0 M] at h
  have hT : ∀ w ∈ xG, w ∈ (Cond.code yX12_takePart cX12_takePart 4 none :: xG) := fun w hw => List.mem_cons_of_mem _ hw
  refine xrun_sound (nst := 0) (isInit := false) (kd := kdX12) X (xcls_mono hT xclsG) (xpool_mono hT plX12) (fun z => by cases z) (fun idx v hf => xkoE_mono hT (koX12_ok _ (xfind_mem hf))) (xents (ca := _) ?_) (endV hE).1 (endV hE).2 (xcuts (cu := _) ?_) pr_X12_takePart.1 pr_X12_takePart.2 _ _ _ _ _ _ _ _ (xat_ok pr_X12_takePart.1 pr_X12_takePart.2).1 (xat_ok pr_X12_takePart.1 pr_X12_takePart.2).2.1 (xat_ok pr_X12_takePart.1 pr_X12_takePart.2).2.2 h
  · exact (List.forall_mem_cons.mpr ⟨(xent_met X (ci := 12) hT cd_X12_isSign lk_X12_159 rfl (by decide) rfl (by decide +kernel) (fun z => absurd z (by decide)) (hw_X12_isSign l D cA sA fu 0) (fun _ => ⟨by decide, fun _ => ⟨TX12, 29, rfl⟩⟩) (by constructor <;> omega) (by decide)), (List.forall_mem_cons.mpr ⟨(xent_met X (ci := 12) hT cd_X12_wrong lk_X12_162 rfl (by decide) rfl (by decide +kernel) (fun z => absurd z (by decide)) (hw_X12_wrong l D cA sA fu 0) (fun _ => ⟨by decide, fun _ => ⟨TX12, 29, rfl⟩⟩) (by constructor <;> omega) (by decide)), (List.forall_mem_cons.mpr ⟨(xent_met X (ci := 12) hT cd_X12_isWord lk_X12_165 rfl (by decide) rfl (by decide +kernel) (fun z => absurd z (by decide)) (hw_X12_isWord l D cA sA fu 0) (fun _ => ⟨by decide, fun _ => ⟨TX12, 29, rfl⟩⟩) (by constructor <;> omega) (by decide)), (List.forall_mem_cons.mpr ⟨(xent_met X (ci := 12) hT cd_X12_wordHere lk_X12_171 rfl (by decide) rfl (by decide +kernel) (fun z => absurd z (by decide)) (hw_X12_wordHere l D cA sA fu 0) (fun _ => ⟨by decide, fun _ => ⟨TX12, 29, rfl⟩⟩) (by constructor <;> omega) (by decide)), (fun _ h => nomatch h)⟩)⟩)⟩)⟩)
  · refine (List.forall_mem_cons.mpr ⟨?_, (List.forall_mem_cons.mpr ⟨?_, (fun _ h => nomatch h)⟩)⟩)
    · intro bc bs ls st M h
      replace h := xz_some h
      obtain ⟨rfl, rfl, h⟩ := h
      replace h := lR_some h
      obtain ⟨o, e0, h⟩ := h
      replace h := bd_some h
      obtain ⟨s', rfl, h⟩ := h
      replace h := lI_some h
      obtain ⟨x1', e1, h⟩ := h
      replace h := lI_some h
      obtain ⟨x2', e2, h⟩ := h
      replace h := lI_some h
      obtain ⟨x3', e3, h⟩ := h
      replace h := xe_some h
      obtain ⟨rfl, h⟩ := h
      exact xWx_ls (wx_X12_takePart_69 X hi hroom hE fu r hr s' x1' x2' x3' M h) (List.forall_mem_cons.mpr ⟨e0, (List.forall_mem_cons.mpr ⟨e1, (List.forall_mem_cons.mpr ⟨e2, (List.forall_mem_cons.mpr ⟨e3, (fun _ h => nomatch h)⟩)⟩)⟩)⟩)
    · intro bc bs ls st M h
      replace h := xz_some h
      obtain ⟨rfl, rfl, h⟩ := h
      replace h := lR_some h
      obtain ⟨o, e0, h⟩ := h
      replace h := bd_some h
      obtain ⟨s', rfl, h⟩ := h
      replace h := lI_some h
      obtain ⟨x1', e1, h⟩ := h
      replace h := lI_some h
      obtain ⟨x2', e2, h⟩ := h
      replace h := lI_some h
      obtain ⟨x3', e3, h⟩ := h
      replace h := xe_some h
      obtain ⟨rfl, h⟩ := h
      exact xWx_ls (wx_X12_takePart_79 X hi hroom hE fu r hr s' x1' x2' x3' M h) (List.forall_mem_cons.mpr ⟨e0, (List.forall_mem_cons.mpr ⟨e1, (List.forall_mem_cons.mpr ⟨e2, (List.forall_mem_cons.mpr ⟨e3, (fun _ h => nomatch h)⟩)⟩)⟩)⟩)

set_option maxRecDepth 100000 in
theorem wx_X12_takePart {hR : Nat} (X : xCtx p R S0 m ag c0 D cA A0 sA 4 cX12_takePart RX12 (.code yX12_takePart cX12_takePart 4 none :: xG) 0 0) (hi : meth.name = yX12_takePart.name) (hroom : (hR + 6) + 2 ≤ R.frames ∧ 60 * ((hR + 6) + 2) ≤ R.locals) {rr : xM} (hE : xEnd l D cA sA cX12_takePart 4 none R 0 0 none rr p e S0 m ag below meth c0 A0 M0 ad0 Z) (fu : Nat) (r : Nat → Int32 → xM → Option xM) (hr : ∀ (s : Nat) (x1 : Int32) (M : xM) (rr : xM), r s x1 M = some rr → xMet l D cA sA yX12_takePart cX12_takePart 4 none xG hR 0 0 [.inr (.inr (12, some s)), .inl x1] M none rr) (s : Nat) (x1 : Int32) (M : xM) (h : F_X12_takeParto fu r s x1 M = some rr) : xWx p l e R S0 m ag below meth c0 D cA A0 sA M0 ad0 4 Z 0 0 0 0 0 [(0, .inr (.inr (12, some s))), (1, .inl x1)] [] M := by
  rw [← q_X12_takePart fu r s x1 M] at h
  have hT : ∀ w ∈ xG, w ∈ (Cond.code yX12_takePart cX12_takePart 4 none :: xG) := fun w hw => List.mem_cons_of_mem _ hw
  refine xrun_sound (nst := 0) (isInit := false) (kd := kdX12) X (xcls_mono hT xclsG) (xpool_mono hT plX12) (fun z => by cases z) (fun idx v hf => xkoE_mono hT (koX12_ok _ (xfind_mem hf))) (xents (ca := _) ?_) (endV hE).1 (endV hE).2 (xcuts (cu := _) ?_) pr_X12_takePart.1 pr_X12_takePart.2 _ _ _ _ _ _ _ _ (xat_ok pr_X12_takePart.1 pr_X12_takePart.2).1 (xat_ok pr_X12_takePart.1 pr_X12_takePart.2).2.1 (xat_ok pr_X12_takePart.1 pr_X12_takePart.2).2.2 h
  · exact (fun _ h => nomatch h)
  · refine (List.forall_mem_cons.mpr ⟨?_, (fun _ h => nomatch h)⟩)
    · intro bc bs ls st M h
      replace h := xz_some h
      obtain ⟨rfl, rfl, h⟩ := h
      replace h := lR_some h
      obtain ⟨o, e0, h⟩ := h
      replace h := bd_some h
      obtain ⟨s', rfl, h⟩ := h
      replace h := lI_some h
      obtain ⟨x1', e1, h⟩ := h
      replace h := pI_some h
      obtain ⟨y0', st, rfl, h⟩ := h
      replace h := xe_some h
      obtain ⟨rfl, h⟩ := h
      exact xWx_ls (wx_X12_takePart_26 X hi hroom hE fu r hr s' x1' y0' M h) (List.forall_mem_cons.mpr ⟨e0, (List.forall_mem_cons.mpr ⟨e1, (fun _ h => nomatch h)⟩)⟩)

set_option maxRecDepth 100000 in
theorem okr_X12_takePart (l : Launch) (D : va_G) (cA : Nat → ClassId) (sA : Nat → Nat) (fu : Nat) : ∀ (d : Nat) (s : Nat) (x1 : Int32) (M : xM) (rr : xM), F_X12_takePart fu d s x1 M = some rr → xMet l D cA sA yX12_takePart cX12_takePart 4 none xG (7 * (d + 1)) 0 0 [.inr (.inr (12, some s)), .inl x1] M none rr := by
  intro d
  induction d with
  | zero => intro s x1 M rr h; cases h
  | succ d ih =>
    intro s x1 M rr h
    exact xmet_of (by decide +kernel) (Nat.le_of_ble_eq_true rfl) (fun p e s1 m ag below meth c0 A0 ad0 Z X hn hE => wx_X12_takePart (hR := 7 * (d + 1)) X hn ⟨by show 7 * (d + 1) + 6 + 2 ≤ 7 * (d + 1 + 1) + 1; omega, by show 60 * (7 * (d + 1) + 6 + 2) ≤ 60 * (7 * (d + 1 + 1) + 1); omega⟩ hE fu (F_X12_takePart fu d) ih s x1 M h)
theorem lk_X12_187 : xLink xG RX12 187 0 yX12_readFile 0 := ⟨Or.inl (xg 1683 (by decide +kernel) (by decide +kernel)), (xg 1685 (by decide +kernel) (by decide +kernel)), (xg 48 (by decide +kernel) (by decide +kernel)), (xg 141 (by decide +kernel) (by decide +kernel)), ⟨12, by decide, TX12, 29, rfl⟩⟩
theorem lk_X12_190 : xLink xG RX12 190 0 yX12_isOnce 1 := ⟨Or.inl (xg 1715 (by decide +kernel) (by decide +kernel)), (xg 1717 (by decide +kernel) (by decide +kernel)), (xg 56 (by decide +kernel) (by decide +kernel)), (xg 141 (by decide +kernel) (by decide +kernel)), ⟨12, by decide, TX12, 29, rfl⟩⟩
theorem cd_X12_readLine : Cond.code yX12_readLine cX12_readLine 2 none ∈ xG := (xg 1674 (by decide +kernel) (by decide +kernel))
theorem pr_X12_readLine : (∀ e ∈ pX12_readLine, xrow cX12_readLine 2 kdX12 flX12 0 false RX12 e) ∧ xnext pX12_readLine = true := xrows (by decide +kernel)
set_option maxRecDepth 100000 in
theorem wx_X12_readLine_53 (X : xCtx p R S0 m ag c0 D cA A0 sA 2 cX12_readLine RX12 (.code yX12_readLine cX12_readLine 2 none :: xG) 0 0) (hi : meth.name = yX12_readLine.name) (hroom : 125 + 2 ≤ R.frames ∧ 60 * (125 + 2) ≤ R.locals) {rr : xM} (hE : xEnd l D cA sA cX12_readLine 2 none R 0 0 none rr p e S0 m ag below meth c0 A0 M0 ad0 Z) (fu : Nat) (x1 : Int32) (y0 : Int32) (y1 : Nat) (y2 : Int32) (y3 : Option Nat) (M : xM) (h : J_X12_readLine_53 fu x1 y0 y1 y2 y3 M = some rr) : xWx p l e R S0 m ag below meth c0 D cA A0 sA M0 ad0 2 Z 0 0 53 0 0 [(1, .inl x1)] [.inl y0, .inr (.inr (12, some y1)), .inl y2, .inr (.inr (20, y3))] M := by
  rw [← q_X12_readLine_53 fu x1 y0 y1 y2 y3 M] at h
  have hT : ∀ w ∈ xG, w ∈ (Cond.code yX12_readLine cX12_readLine 2 none :: xG) := fun w hw => List.mem_cons_of_mem _ hw
  refine xrun_sound (nst := 0) (isInit := false) (kd := kdX12) X (xcls_mono hT xclsG) (xpool_mono hT plX12) (fun z => by cases z) (fun idx v hf => xkoE_mono hT (koX12_ok _ (xfind_mem hf))) (xents (ca := _) ?_) (endV hE).1 (endV hE).2 (xcuts (cu := _) ?_) pr_X12_readLine.1 pr_X12_readLine.2 _ _ _ _ _ _ _ _ (xat_ok pr_X12_readLine.1 pr_X12_readLine.2).1 (xat_ok pr_X12_readLine.1 pr_X12_readLine.2).2.1 (xat_ok pr_X12_readLine.1 pr_X12_readLine.2).2.2 h
  · exact (List.forall_mem_cons.mpr ⟨(xent_met X (ci := 12) hT cd_X12_takeNumber lk_X12_193 rfl (by decide) rfl (by decide +kernel) (fun z => absurd z (by decide)) (hw_X12_takeNumber l D cA sA fu 0) (fun _ => ⟨by decide, fun _ => ⟨TX12, 29, rfl⟩⟩) (by constructor <;> omega) (by decide)), (fun _ h => nomatch h)⟩)
  · exact (fun _ h => nomatch h)

set_option maxRecDepth 100000 in
theorem wx_X12_readLine (X : xCtx p R S0 m ag c0 D cA A0 sA 2 cX12_readLine RX12 (.code yX12_readLine cX12_readLine 2 none :: xG) 0 0) (hi : meth.name = yX12_readLine.name) (hroom : 125 + 2 ≤ R.frames ∧ 60 * (125 + 2) ≤ R.locals) {rr : xM} (hE : xEnd l D cA sA cX12_readLine 2 none R 0 0 none rr p e S0 m ag below meth c0 A0 M0 ad0 Z) (fu : Nat) (s : Nat) (M : xM) (h : F_X12_readLine fu s M = some rr) : xWx p l e R S0 m ag below meth c0 D cA A0 sA M0 ad0 2 Z 0 0 0 0 0 [(0, .inr (.inr (12, some s)))] [] M := by
  rw [← q_X12_readLine fu s M] at h
  have hT : ∀ w ∈ xG, w ∈ (Cond.code yX12_readLine cX12_readLine 2 none :: xG) := fun w hw => List.mem_cons_of_mem _ hw
  refine xrun_sound (nst := 0) (isInit := false) (kd := kdX12) X (xcls_mono hT xclsG) (xpool_mono hT plX12) (fun z => by cases z) (fun idx v hf => xkoE_mono hT (koX12_ok _ (xfind_mem hf))) (xents (ca := _) ?_) (endV hE).1 (endV hE).2 (xcuts (cu := _) ?_) pr_X12_readLine.1 pr_X12_readLine.2 _ _ _ _ _ _ _ _ (xat_ok pr_X12_readLine.1 pr_X12_readLine.2).1 (xat_ok pr_X12_readLine.1 pr_X12_readLine.2).2.1 (xat_ok pr_X12_readLine.1 pr_X12_readLine.2).2.2 h
  · exact (List.forall_mem_cons.mpr ⟨(xent_met X (ci := 12) hT cd_X12_wrong lk_X12_162 rfl (by decide) rfl (by decide +kernel) (fun z => absurd z (by decide)) (hw_X12_wrong l D cA sA fu 0) (fun _ => ⟨by decide, fun _ => ⟨TX12, 29, rfl⟩⟩) (by constructor <;> omega) (by decide)), (List.forall_mem_cons.mpr ⟨(xent_met X (ci := 12) hT cd_X12_isWord lk_X12_165 rfl (by decide) rfl (by decide +kernel) (fun z => absurd z (by decide)) (hw_X12_isWord l D cA sA fu 0) (fun _ => ⟨by decide, fun _ => ⟨TX12, 29, rfl⟩⟩) (by constructor <;> omega) (by decide)), (List.forall_mem_cons.mpr ⟨(xent_met X (ci := 12) hT cd_X12_wordHere lk_X12_171 rfl (by decide) rfl (by decide +kernel) (fun z => absurd z (by decide)) (hw_X12_wordHere l D cA sA fu 0) (fun _ => ⟨by decide, fun _ => ⟨TX12, 29, rfl⟩⟩) (by constructor <;> omega) (by decide)), (List.forall_mem_cons.mpr ⟨(xent_met X (ci := 12) hT cd_X12_readFile lk_X12_187 rfl (by decide) rfl (by decide +kernel) (fun z => absurd z (by decide)) (hw_X12_readFile l D cA sA fu 0) (fun _ => ⟨by decide, fun _ => ⟨TX12, 29, rfl⟩⟩) (by constructor <;> omega) (by decide)), (List.forall_mem_cons.mpr ⟨(xent_met X (ci := 12) hT cd_X12_isOnce lk_X12_190 rfl (by decide) rfl (by decide +kernel) (fun z => absurd z (by decide)) (hw_X12_isOnce l D cA sA fu 0) (fun _ => ⟨by decide, fun _ => ⟨TX12, 29, rfl⟩⟩) (by constructor <;> omega) (by decide)), (List.forall_mem_cons.mpr ⟨(xent_met X (ci := 12) hT cd_X12_whole lk_X12_196 rfl (by decide) rfl (by decide +kernel) (fun z => absurd z (by decide)) (hw_X12_whole l D cA sA fu (F_X12_takePart fu 16) _ (okr_X12_takePart l D cA sA fu 16) 0) (fun _ => ⟨by decide, fun _ => ⟨TX12, 29, rfl⟩⟩) (by constructor <;> omega) (by decide)), (List.forall_mem_cons.mpr ⟨(xent_met X (ci := 12) hT cd_X12_emit lk_X12_199 rfl (by decide) rfl (by decide +kernel) (fun z => absurd z (by decide)) (hw_X12_emit l D cA sA fu 0) (fun _ => ⟨by decide, fun _ => ⟨TX12, 29, rfl⟩⟩) (by constructor <;> omega) (by decide)), (fun _ h => nomatch h)⟩)⟩)⟩)⟩)⟩)⟩)⟩)
  · refine (List.forall_mem_cons.mpr ⟨?_, (fun _ h => nomatch h)⟩)
    · intro bc bs ls st M h
      replace h := xz_some h
      obtain ⟨rfl, rfl, h⟩ := h
      replace h := lI_some h
      obtain ⟨x1', e1, h⟩ := h
      replace h := pI_some h
      obtain ⟨y0', st, rfl, h⟩ := h
      replace h := pR_some h
      obtain ⟨o, st, rfl, h⟩ := h
      replace h := bd_some h
      obtain ⟨y1', rfl, h⟩ := h
      replace h := pI_some h
      obtain ⟨y2', st, rfl, h⟩ := h
      replace h := pR_some h
      obtain ⟨y3', st, rfl, h⟩ := h
      replace h := xe_some h
      obtain ⟨rfl, h⟩ := h
      exact xWx_ls (wx_X12_readLine_53 X hi hroom hE fu x1' y0' y1' y2' y3' M h) (List.forall_mem_cons.mpr ⟨e1, (fun _ h => nomatch h)⟩)

theorem ok_X12_readLine (l : Launch) (D : va_G) (cA : Nat → ClassId) (sA : Nat → Nat) (fu : Nat) (s : Nat) (M : xM) {rr : xM} (h : F_X12_readLine fu s M = some rr) : xMet l D cA sA yX12_readLine cX12_readLine 2 none xG (125 + 1) 0 0 [.inr (.inr (12, some s))] M none rr :=
  xmet_of (by decide +kernel) (Nat.le_of_ble_eq_true rfl) (fun p e s1 m ag below meth c0 A0 ad0 Z X hn hE => wx_X12_readLine X hn ⟨Nat.le_refl _, Nat.le_refl _⟩ hE fu s M h)
theorem hw_X12_readLine (l : Launch) (D : va_G) (cA : Nat → ClassId) (sA : Nat → Nat) (fu : Nat) {ρ : Type} {r0 : ρ} (kd1 : Nat) : ∀ (as : List xV) (M : xM) (k : Option xV → xM → Option ρ), w_X12_readLine fu as M k = some r0 → ∃ v M', xMet l D cA sA yX12_readLine cX12_readLine 2 none xG (125 + 1) 0 0 as M v M' ∧ k v M' = some r0 ∧ (kd1 ≠ 2 → ∃ a as', as = .inr (.inr (12, some a)) :: as') := by
  intro as M k h
  unfold w_X12_readLine at h
  replace h := pR_some h
  obtain ⟨o, as1, rfl, h⟩ := h
  replace h := bd_some h
  obtain ⟨s, rfl, h⟩ := h
  replace h := xe_some h
  obtain ⟨rfl, h⟩ := h
  obtain ⟨p1, hp, h⟩ := Option.bind_eq_some_iff.mp h
  exact ⟨_, _, ok_X12_readLine l D cA sA fu s M hp, h, fun _ => ⟨_, _, rfl⟩⟩
theorem cd_X12_readWork : Cond.code yX12_readWork cX12_readWork 4 none ∈ xG := (xg 1762 (by decide +kernel) (by decide +kernel))
theorem pr_X12_readWork : (∀ e ∈ pX12_readWork, xrow cX12_readWork 4 kdX12 flX12 0 false RX12 e) ∧ xnext pX12_readWork = true := xrows (by decide +kernel)
set_option maxRecDepth 100000 in
theorem wx_X12_readWork_85 (X : xCtx p R S0 m ag c0 D cA A0 sA 4 cX12_readWork RX12 (.code yX12_readWork cX12_readWork 4 none :: xG) 0 0) (hi : meth.name = yX12_readWork.name) (hroom : 3 + 2 ≤ R.frames ∧ 60 * (3 + 2) ≤ R.locals) {rr : xM} (hE : xEnd l D cA sA cX12_readWork 4 none R 0 0 none rr p e S0 m ag below meth c0 A0 M0 ad0 Z) (fu : Nat) (s : Nat) (x1 : Int32) (x2 : Int32) (x3 : Int32) (M : xM) (h : J_X12_readWork_85 fu s x1 x2 x3 M = some rr) : xWx p l e R S0 m ag below meth c0 D cA A0 sA M0 ad0 4 Z 0 0 85 0 0 [(0, .inr (.inr (12, some s))), (1, .inl x1), (2, .inl x2), (3, .inl x3)] [] M := by
  rw [← q_X12_readWork_85 fu s x1 x2 x3 M] at h
  have hT : ∀ w ∈ xG, w ∈ (Cond.code yX12_readWork cX12_readWork 4 none :: xG) := fun w hw => List.mem_cons_of_mem _ hw
  refine xrun_sound (nst := 0) (isInit := false) (kd := kdX12) X (xcls_mono hT xclsG) (xpool_mono hT plX12) (fun z => by cases z) (fun idx v hf => xkoE_mono hT (koX12_ok _ (xfind_mem hf))) (xents (ca := _) ?_) (endV hE).1 (endV hE).2 (xcuts (cu := _) ?_) pr_X12_readWork.1 pr_X12_readWork.2 _ _ _ _ _ _ _ _ (xat_ok pr_X12_readWork.1 pr_X12_readWork.2).1 (xat_ok pr_X12_readWork.1 pr_X12_readWork.2).2.1 (xat_ok pr_X12_readWork.1 pr_X12_readWork.2).2.2 h
  · exact (List.forall_mem_cons.mpr ⟨(xent_met X (ci := 12) hT cd_X12_takeNumber lk_X12_193 rfl (by decide) rfl (by decide +kernel) (fun z => absurd z (by decide)) (hw_X12_takeNumber l D cA sA fu 0) (fun _ => ⟨by decide, fun _ => ⟨TX12, 29, rfl⟩⟩) (by constructor <;> omega) (by decide)), (fun _ h => nomatch h)⟩)
  · exact (fun _ h => nomatch h)

set_option maxRecDepth 100000 in
theorem wx_X12_readWork_60 (X : xCtx p R S0 m ag c0 D cA A0 sA 4 cX12_readWork RX12 (.code yX12_readWork cX12_readWork 4 none :: xG) 0 0) (hi : meth.name = yX12_readWork.name) (hroom : 3 + 2 ≤ R.frames ∧ 60 * (3 + 2) ≤ R.locals) {rr : xM} (hE : xEnd l D cA sA cX12_readWork 4 none R 0 0 none rr p e S0 m ag below meth c0 A0 M0 ad0 Z) (fu : Nat) (s : Nat) (x1 : Int32) (x2 : Int32) (y0 : Int32) (M : xM) (h : J_X12_readWork_60 fu s x1 x2 y0 M = some rr) : xWx p l e R S0 m ag below meth c0 D cA A0 sA M0 ad0 4 Z 0 0 60 0 0 [(0, .inr (.inr (12, some s))), (1, .inl x1), (2, .inl x2)] [.inl y0] M := by
  rw [← q_X12_readWork_60 fu s x1 x2 y0 M] at h
  have hT : ∀ w ∈ xG, w ∈ (Cond.code yX12_readWork cX12_readWork 4 none :: xG) := fun w hw => List.mem_cons_of_mem _ hw
  refine xrun_sound (nst := 0) (isInit := false) (kd := kdX12) X (xcls_mono hT xclsG) (xpool_mono hT plX12) (fun z => by cases z) (fun idx v hf => xkoE_mono hT (koX12_ok _ (xfind_mem hf))) (xents (ca := _) ?_) (endV hE).1 (endV hE).2 (xcuts (cu := _) ?_) pr_X12_readWork.1 pr_X12_readWork.2 _ _ _ _ _ _ _ _ (xat_ok pr_X12_readWork.1 pr_X12_readWork.2).1 (xat_ok pr_X12_readWork.1 pr_X12_readWork.2).2.1 (xat_ok pr_X12_readWork.1 pr_X12_readWork.2).2.2 h
  · exact (List.forall_mem_cons.mpr ⟨(xent_met X (ci := 12) hT cd_X12_wrong lk_X12_162 rfl (by decide) rfl (by decide +kernel) (fun z => absurd z (by decide)) (hw_X12_wrong l D cA sA fu 0) (fun _ => ⟨by decide, fun _ => ⟨TX12, 29, rfl⟩⟩) (by constructor <;> omega) (by decide)), (List.forall_mem_cons.mpr ⟨(xent_met X (ci := 12) hT cd_X12_isName lk_X12_203 rfl (by decide) rfl (by decide +kernel) (fun z => absurd z (by decide)) (hw_X12_isName l D cA sA fu 0) (fun _ => ⟨by decide, fun _ => ⟨TX12, 29, rfl⟩⟩) (by constructor <;> omega) (by decide)), (fun _ h => nomatch h)⟩)⟩)
  · refine (List.forall_mem_cons.mpr ⟨?_, (fun _ h => nomatch h)⟩)
    · intro bc bs ls st M h
      replace h := xz_some h
      obtain ⟨rfl, rfl, h⟩ := h
      replace h := lR_some h
      obtain ⟨o, e0, h⟩ := h
      replace h := bd_some h
      obtain ⟨s', rfl, h⟩ := h
      replace h := lI_some h
      obtain ⟨x1', e1, h⟩ := h
      replace h := lI_some h
      obtain ⟨x2', e2, h⟩ := h
      replace h := lI_some h
      obtain ⟨x3', e3, h⟩ := h
      replace h := xe_some h
      obtain ⟨rfl, h⟩ := h
      exact xWx_ls (wx_X12_readWork_85 X hi hroom hE fu s' x1' x2' x3' M h) (List.forall_mem_cons.mpr ⟨e0, (List.forall_mem_cons.mpr ⟨e1, (List.forall_mem_cons.mpr ⟨e2, (List.forall_mem_cons.mpr ⟨e3, (fun _ h => nomatch h)⟩)⟩)⟩)⟩)

set_option maxRecDepth 100000 in
theorem wx_X12_readWork (X : xCtx p R S0 m ag c0 D cA A0 sA 4 cX12_readWork RX12 (.code yX12_readWork cX12_readWork 4 none :: xG) 0 0) (hi : meth.name = yX12_readWork.name) (hroom : 3 + 2 ≤ R.frames ∧ 60 * (3 + 2) ≤ R.locals) {rr : xM} (hE : xEnd l D cA sA cX12_readWork 4 none R 0 0 none rr p e S0 m ag below meth c0 A0 M0 ad0 Z) (fu : Nat) (s : Nat) (x1 : Int32) (x2 : Int32) (M : xM) (h : F_X12_readWork fu s x1 x2 M = some rr) : xWx p l e R S0 m ag below meth c0 D cA A0 sA M0 ad0 4 Z 0 0 0 0 0 [(0, .inr (.inr (12, some s))), (1, .inl x1), (2, .inl x2)] [] M := by
  rw [← q_X12_readWork fu s x1 x2 M] at h
  have hT : ∀ w ∈ xG, w ∈ (Cond.code yX12_readWork cX12_readWork 4 none :: xG) := fun w hw => List.mem_cons_of_mem _ hw
  refine xrun_sound (nst := 0) (isInit := false) (kd := kdX12) X (xcls_mono hT xclsG) (xpool_mono hT plX12) (fun z => by cases z) (fun idx v hf => xkoE_mono hT (koX12_ok _ (xfind_mem hf))) (xents (ca := _) ?_) (endV hE).1 (endV hE).2 (xcuts (cu := _) ?_) pr_X12_readWork.1 pr_X12_readWork.2 _ _ _ _ _ _ _ _ (xat_ok pr_X12_readWork.1 pr_X12_readWork.2).1 (xat_ok pr_X12_readWork.1 pr_X12_readWork.2).2.1 (xat_ok pr_X12_readWork.1 pr_X12_readWork.2).2.2 h
  · exact (List.forall_mem_cons.mpr ⟨(xent_met X (ci := 12) hT cd_X12_isName lk_X12_203 rfl (by decide) rfl (by decide +kernel) (fun z => absurd z (by decide)) (hw_X12_isName l D cA sA fu 0) (fun _ => ⟨by decide, fun _ => ⟨TX12, 29, rfl⟩⟩) (by constructor <;> omega) (by decide)), (List.forall_mem_cons.mpr ⟨(xent_met X (ci := 12) hT cd_X12_nameAt lk_X12_207 rfl (by decide) rfl (by decide +kernel) (fun z => absurd z (by decide)) (hw_X12_nameAt l D cA sA fu 0) (fun _ => ⟨by decide, fun _ => ⟨TX12, 29, rfl⟩⟩) (by constructor <;> omega) (by decide)), (List.forall_mem_cons.mpr ⟨(xent_met X (ci := 12) hT cd_X12_files lk_X12_223 rfl (by decide) rfl (by decide +kernel) (fun z => absurd z (by decide)) (hw_X12_files l D cA sA fu 0) (fun _ => ⟨by decide, fun _ => ⟨TX12, 29, rfl⟩⟩) (by constructor <;> omega) (by decide)), (fun _ h => nomatch h)⟩)⟩)⟩)
  · refine (List.forall_mem_cons.mpr ⟨?_, (fun _ h => nomatch h)⟩)
    · intro bc bs ls st M h
      replace h := xz_some h
      obtain ⟨rfl, rfl, h⟩ := h
      replace h := lR_some h
      obtain ⟨o, e0, h⟩ := h
      replace h := bd_some h
      obtain ⟨s', rfl, h⟩ := h
      replace h := lI_some h
      obtain ⟨x1', e1, h⟩ := h
      replace h := lI_some h
      obtain ⟨x2', e2, h⟩ := h
      replace h := pI_some h
      obtain ⟨y0', st, rfl, h⟩ := h
      replace h := xe_some h
      obtain ⟨rfl, h⟩ := h
      exact xWx_ls (wx_X12_readWork_60 X hi hroom hE fu s' x1' x2' y0' M h) (List.forall_mem_cons.mpr ⟨e0, (List.forall_mem_cons.mpr ⟨e1, (List.forall_mem_cons.mpr ⟨e2, (fun _ h => nomatch h)⟩)⟩)⟩)

theorem ok_X12_readWork (l : Launch) (D : va_G) (cA : Nat → ClassId) (sA : Nat → Nat) (fu : Nat) (s : Nat) (x1 : Int32) (x2 : Int32) (M : xM) {rr : xM} (h : F_X12_readWork fu s x1 x2 M = some rr) : xMet l D cA sA yX12_readWork cX12_readWork 4 none xG (3 + 1) 0 0 [.inr (.inr (12, some s)), .inl x1, .inl x2] M none rr :=
  xmet_of (by decide +kernel) (Nat.le_of_ble_eq_true rfl) (fun p e s1 m ag below meth c0 A0 ad0 Z X hn hE => wx_X12_readWork X hn ⟨Nat.le_refl _, Nat.le_refl _⟩ hE fu s x1 x2 M h)
theorem hw_X12_readWork (l : Launch) (D : va_G) (cA : Nat → ClassId) (sA : Nat → Nat) (fu : Nat) {ρ : Type} {r0 : ρ} (kd1 : Nat) : ∀ (as : List xV) (M : xM) (k : Option xV → xM → Option ρ), w_X12_readWork fu as M k = some r0 → ∃ v M', xMet l D cA sA yX12_readWork cX12_readWork 4 none xG (3 + 1) 0 0 as M v M' ∧ k v M' = some r0 ∧ (kd1 ≠ 2 → ∃ a as', as = .inr (.inr (12, some a)) :: as') := by
  intro as M k h
  unfold w_X12_readWork at h
  replace h := pR_some h
  obtain ⟨o, as1, rfl, h⟩ := h
  replace h := bd_some h
  obtain ⟨s, rfl, h⟩ := h
  replace h := pI_some h
  obtain ⟨x1, as1, rfl, h⟩ := h
  replace h := pI_some h
  obtain ⟨x2, as1, rfl, h⟩ := h
  replace h := xe_some h
  obtain ⟨rfl, h⟩ := h
  obtain ⟨p1, hp, h⟩ := Option.bind_eq_some_iff.mp h
  exact ⟨_, _, ok_X12_readWork l D cA sA fu s x1 x2 M hp, h, fun _ => ⟨_, _, rfl⟩⟩
theorem cd_X12_remove : Cond.code yX12_remove cX12_remove 2 (some .int) ∈ xG := (xg 1943 (by decide +kernel) (by decide +kernel))
theorem pr_X12_remove : (∀ e ∈ pX12_remove, xrow cX12_remove 2 kdX12 flX12 0 false RX12 e) ∧ xnext pX12_remove = true := xrows (by decide +kernel)
set_option maxRecDepth 100000 in
theorem wx_X12_remove (X : xCtx p R S0 m ag c0 D cA A0 sA 2 cX12_remove RX12 (.code yX12_remove cX12_remove 2 (some .int) :: xG) 0 0) (hi : meth.name = yX12_remove.name) (hroom : 10 + 2 ≤ R.frames ∧ 60 * (10 + 2) ≤ R.locals) {rr : Int32 × xM} (hE : xEnd l D cA sA cX12_remove 2 (some .int) R 0 0 (some (.inl rr.1)) rr.2 p e S0 m ag below meth c0 A0 M0 ad0 Z) (fu : Nat) (s : Nat) (x1 : Int32) (M : xM) (h : F_X12_remove fu s x1 M = some rr) : xWx p l e R S0 m ag below meth c0 D cA A0 sA M0 ad0 2 Z 0 0 0 0 0 [(0, .inr (.inr (12, some s))), (1, .inl x1)] [] M := by
  rw [← q_X12_remove fu s x1 M] at h
  have hT : ∀ w ∈ xG, w ∈ (Cond.code yX12_remove cX12_remove 2 (some .int) :: xG) := fun w hw => List.mem_cons_of_mem _ hw
  refine xrun_sound (nst := 0) (isInit := false) (kd := kdX12) X (xcls_mono hT xclsG) (xpool_mono hT plX12) (fun z => by cases z) (fun idx v hf => xkoE_mono hT (koX12_ok _ (xfind_mem hf))) (xents (ca := _) ?_) (endI hE).1 (endI hE).2 (xcuts (cu := _) ?_) pr_X12_remove.1 pr_X12_remove.2 _ _ _ _ _ _ _ _ (xat_ok pr_X12_remove.1 pr_X12_remove.2).1 (xat_ok pr_X12_remove.1 pr_X12_remove.2).2.1 (xat_ok pr_X12_remove.1 pr_X12_remove.2).2.2 h
  · exact (List.forall_mem_cons.mpr ⟨(xent_met X (ci := 12) hT cd_X12_removes lk_X12_386 rfl (by decide) rfl (by decide +kernel) (fun z => absurd z (by decide)) (hw_X12_removes l D cA sA fu 0) (fun _ => ⟨by decide, fun _ => ⟨TX12, 29, rfl⟩⟩) (by constructor <;> omega) (by decide)), (fun _ h => nomatch h)⟩)
  · exact (fun _ h => nomatch h)

theorem ok_X12_remove (l : Launch) (D : va_G) (cA : Nat → ClassId) (sA : Nat → Nat) (fu : Nat) (s : Nat) (x1 : Int32) (M : xM) {rr : Int32 × xM} (h : F_X12_remove fu s x1 M = some rr) : xMet l D cA sA yX12_remove cX12_remove 2 (some .int) xG (10 + 1) 0 0 [.inr (.inr (12, some s)), .inl x1] M (some (.inl rr.1)) rr.2 :=
  xmet_of (by decide +kernel) (Nat.le_of_ble_eq_true rfl) (fun p e s1 m ag below meth c0 A0 ad0 Z X hn hE => wx_X12_remove X hn ⟨Nat.le_refl _, Nat.le_refl _⟩ hE fu s x1 M h)
theorem hw_X12_remove (l : Launch) (D : va_G) (cA : Nat → ClassId) (sA : Nat → Nat) (fu : Nat) {ρ : Type} {r0 : ρ} (kd1 : Nat) : ∀ (as : List xV) (M : xM) (k : Option xV → xM → Option ρ), w_X12_remove fu as M k = some r0 → ∃ v M', xMet l D cA sA yX12_remove cX12_remove 2 (some .int) xG (10 + 1) 0 0 as M v M' ∧ k v M' = some r0 ∧ (kd1 ≠ 2 → ∃ a as', as = .inr (.inr (12, some a)) :: as') := by
  intro as M k h
  unfold w_X12_remove at h
  replace h := pR_some h
  obtain ⟨o, as1, rfl, h⟩ := h
  replace h := bd_some h
  obtain ⟨s, rfl, h⟩ := h
  replace h := pI_some h
  obtain ⟨x1, as1, rfl, h⟩ := h
  replace h := xe_some h
  obtain ⟨rfl, h⟩ := h
  obtain ⟨p1, hp, h⟩ := Option.bind_eq_some_iff.mp h
  exact ⟨_, _, ok_X12_remove l D cA sA fu s x1 M hp, h, fun _ => ⟨_, _, rfl⟩⟩
theorem cd_X12_rounds : Cond.code yX12_rounds cX12_rounds 3 (some .int) ∈ xG := (xg 2083 (by decide +kernel) (by decide +kernel))
theorem pr_X12_rounds : (∀ e ∈ pX12_rounds, xrow cX12_rounds 3 kdX12 flX12 0 false RX12 e) ∧ xnext pX12_rounds = true := xrows (by decide +kernel)
set_option maxRecDepth 100000 in
theorem wx_X12_rounds_23 (X : xCtx p R S0 m ag c0 D cA A0 sA 3 cX12_rounds RX12 (.code yX12_rounds cX12_rounds 3 (some .int) :: xG) 0 0) (hi : meth.name = yX12_rounds.name) (hroom : 8 + 2 ≤ R.frames ∧ 60 * (8 + 2) ≤ R.locals) {rr : Int32 × xM} (hE : xEnd l D cA sA cX12_rounds 3 (some .int) R 0 0 (some (.inl rr.1)) rr.2 p e S0 m ag below meth c0 A0 M0 ad0 Z) (fu : Nat) : ∀ (n : Nat) (s : Nat) (x1 : Int32) (x2 : Int32) (M : xM), L_X12_rounds_23 fu n s x1 x2 M = some rr → xWx p l e R S0 m ag below meth c0 D cA A0 sA M0 ad0 3 Z 0 0 23 0 0 [(0, .inr (.inr (12, some s))), (1, .inl x1), (2, .inl x2)] [] M := by
  intro n
  induction n with
  | zero => intro s x1 x2 M h; cases h
  | succ n ih =>
    intro s x1 x2 M h
    rw [← q_X12_rounds_23 fu n s x1 x2 M] at h
    have hT : ∀ w ∈ xG, w ∈ (Cond.code yX12_rounds cX12_rounds 3 (some .int) :: xG) := fun w hw => List.mem_cons_of_mem _ hw
    refine xrun_sound (nst := 0) (isInit := false) (kd := kdX12) X (xcls_mono hT xclsG) (xpool_mono hT plX12) (fun z => by cases z) (fun idx v hf => xkoE_mono hT (koX12_ok _ (xfind_mem hf))) (xents (ca := _) ?_) (endI hE).1 (endI hE).2 (xcuts (cu := _) ?_) pr_X12_rounds.1 pr_X12_rounds.2 _ _ _ _ _ _ _ _ (xat_ok pr_X12_rounds.1 pr_X12_rounds.2).1 (xat_ok pr_X12_rounds.1 pr_X12_rounds.2).2.1 (xat_ok pr_X12_rounds.1 pr_X12_rounds.2).2.2 h
    · exact (List.forall_mem_cons.mpr ⟨(xent_met X (ci := 12) hT cd_X12_erased lk_X12_326 rfl (by decide) rfl (by decide +kernel) (fun z => absurd z (by decide)) (hw_X12_erased l D cA sA fu 0) (fun _ => ⟨by decide, fun _ => ⟨TX12, 29, rfl⟩⟩) (by constructor <;> omega) (by decide)), (List.forall_mem_cons.mpr ⟨(xent_met X (ci := 12) hT cd_X12_collects lk_X12_342 rfl (by decide) rfl (by decide +kernel) (fun z => absurd z (by decide)) (hw_X12_collects l D cA sA fu 0) (fun _ => ⟨by decide, fun _ => ⟨TX12, 29, rfl⟩⟩) (by constructor <;> omega) (by decide)), (fun _ h => nomatch h)⟩)⟩)
    · refine (List.forall_mem_cons.mpr ⟨?_, (fun _ h => nomatch h)⟩)
      · intro bc bs ls st M h
        replace h := xz_some h
        obtain ⟨rfl, rfl, h⟩ := h
        replace h := lR_some h
        obtain ⟨o, e0, h⟩ := h
        replace h := bd_some h
        obtain ⟨s', rfl, h⟩ := h
        replace h := lI_some h
        obtain ⟨x1', e1, h⟩ := h
        replace h := lI_some h
        obtain ⟨x2', e2, h⟩ := h
        replace h := xe_some h
        obtain ⟨rfl, h⟩ := h
        exact xWx_ls (ih s' x1' x2' M h) (List.forall_mem_cons.mpr ⟨e0, (List.forall_mem_cons.mpr ⟨e1, (List.forall_mem_cons.mpr ⟨e2, (fun _ h => nomatch h)⟩)⟩)⟩)

set_option maxRecDepth 100000 in
theorem wx_X12_rounds (X : xCtx p R S0 m ag c0 D cA A0 sA 3 cX12_rounds RX12 (.code yX12_rounds cX12_rounds 3 (some .int) :: xG) 0 0) (hi : meth.name = yX12_rounds.name) (hroom : 8 + 2 ≤ R.frames ∧ 60 * (8 + 2) ≤ R.locals) {rr : Int32 × xM} (hE : xEnd l D cA sA cX12_rounds 3 (some .int) R 0 0 (some (.inl rr.1)) rr.2 p e S0 m ag below meth c0 A0 M0 ad0 Z) (fu : Nat) (s : Nat) (x1 : Int32) (M : xM) (h : F_X12_rounds fu s x1 M = some rr) : xWx p l e R S0 m ag below meth c0 D cA A0 sA M0 ad0 3 Z 0 0 0 0 0 [(0, .inr (.inr (12, some s))), (1, .inl x1)] [] M := by
  rw [← q_X12_rounds fu s x1 M] at h
  have hT : ∀ w ∈ xG, w ∈ (Cond.code yX12_rounds cX12_rounds 3 (some .int) :: xG) := fun w hw => List.mem_cons_of_mem _ hw
  refine xrun_sound (nst := 0) (isInit := false) (kd := kdX12) X (xcls_mono hT xclsG) (xpool_mono hT plX12) (fun z => by cases z) (fun idx v hf => xkoE_mono hT (koX12_ok _ (xfind_mem hf))) (xents (ca := _) ?_) (endI hE).1 (endI hE).2 (xcuts (cu := _) ?_) pr_X12_rounds.1 pr_X12_rounds.2 _ _ _ _ _ _ _ _ (xat_ok pr_X12_rounds.1 pr_X12_rounds.2).1 (xat_ok pr_X12_rounds.1 pr_X12_rounds.2).2.1 (xat_ok pr_X12_rounds.1 pr_X12_rounds.2).2.2 h
  · exact (List.forall_mem_cons.mpr ⟨(xent_met X (ci := 12) hT cd_X12_within lk_X12_380 rfl (by decide) rfl (by decide +kernel) (fun z => absurd z (by decide)) (hw_X12_within l D cA sA fu 2 rfl) (fun z => absurd rfl z) (by constructor <;> omega) (by decide)), (List.forall_mem_cons.mpr ⟨(xent_met X (ci := 12) hT cd_X12_tries lk_X12_437 rfl (by decide) rfl (by decide +kernel) (fun z => absurd z (by decide)) (hw_X12_tries l D cA sA fu 0) (fun _ => ⟨by decide, fun _ => ⟨TX12, 29, rfl⟩⟩) (by constructor <;> omega) (by decide)), (fun _ h => nomatch h)⟩)⟩)
  · refine (List.forall_mem_cons.mpr ⟨?_, (fun _ h => nomatch h)⟩)
    · intro bc bs ls st M h
      replace h := xz_some h
      obtain ⟨rfl, rfl, h⟩ := h
      replace h := lR_some h
      obtain ⟨o, e0, h⟩ := h
      replace h := bd_some h
      obtain ⟨s', rfl, h⟩ := h
      replace h := lI_some h
      obtain ⟨x1', e1, h⟩ := h
      replace h := lI_some h
      obtain ⟨x2', e2, h⟩ := h
      replace h := xe_some h
      obtain ⟨rfl, h⟩ := h
      exact xWx_ls (wx_X12_rounds_23 X hi hroom hE fu fu s' x1' x2' M h) (List.forall_mem_cons.mpr ⟨e0, (List.forall_mem_cons.mpr ⟨e1, (List.forall_mem_cons.mpr ⟨e2, (fun _ h => nomatch h)⟩)⟩)⟩)

theorem ok_X12_rounds (l : Launch) (D : va_G) (cA : Nat → ClassId) (sA : Nat → Nat) (fu : Nat) (s : Nat) (x1 : Int32) (M : xM) {rr : Int32 × xM} (h : F_X12_rounds fu s x1 M = some rr) : xMet l D cA sA yX12_rounds cX12_rounds 3 (some .int) xG (8 + 1) 0 0 [.inr (.inr (12, some s)), .inl x1] M (some (.inl rr.1)) rr.2 :=
  xmet_of (by decide +kernel) (Nat.le_of_ble_eq_true rfl) (fun p e s1 m ag below meth c0 A0 ad0 Z X hn hE => wx_X12_rounds X hn ⟨Nat.le_refl _, Nat.le_refl _⟩ hE fu s x1 M h)
theorem hw_X12_rounds (l : Launch) (D : va_G) (cA : Nat → ClassId) (sA : Nat → Nat) (fu : Nat) {ρ : Type} {r0 : ρ} (kd1 : Nat) : ∀ (as : List xV) (M : xM) (k : Option xV → xM → Option ρ), w_X12_rounds fu as M k = some r0 → ∃ v M', xMet l D cA sA yX12_rounds cX12_rounds 3 (some .int) xG (8 + 1) 0 0 as M v M' ∧ k v M' = some r0 ∧ (kd1 ≠ 2 → ∃ a as', as = .inr (.inr (12, some a)) :: as') := by
  intro as M k h
  unfold w_X12_rounds at h
  replace h := pR_some h
  obtain ⟨o, as1, rfl, h⟩ := h
  replace h := bd_some h
  obtain ⟨s, rfl, h⟩ := h
  replace h := pI_some h
  obtain ⟨x1, as1, rfl, h⟩ := h
  replace h := xe_some h
  obtain ⟨rfl, h⟩ := h
  obtain ⟨p1, hp, h⟩ := Option.bind_eq_some_iff.mp h
  exact ⟨_, _, ok_X12_rounds l D cA sA fu s x1 M hp, h, fun _ => ⟨_, _, rfl⟩⟩
theorem cd_X12_says : Cond.code yX12_says cX12_says 3 (some .int) ∈ xG := (xg 2063 (by decide +kernel) (by decide +kernel))
theorem pr_X12_says : (∀ e ∈ pX12_says, xrow cX12_says 3 kdX12 flX12 0 false RX12 e) ∧ xnext pX12_says = true := xrows (by decide +kernel)
set_option maxRecDepth 100000 in
theorem wx_X12_says (X : xCtx p R S0 m ag c0 D cA A0 sA 3 cX12_says RX12 (.code yX12_says cX12_says 3 (some .int) :: xG) 0 0) (hi : meth.name = yX12_says.name) (hroom : 4 + 2 ≤ R.frames ∧ 60 * (4 + 2) ≤ R.locals) {rr : Int32 × xM} (hE : xEnd l D cA sA cX12_says 3 (some .int) R 0 0 (some (.inl rr.1)) rr.2 p e S0 m ag below meth c0 A0 M0 ad0 Z) (fu : Nat) (s : Nat) (x1 : Int32) (x2 : Int32) (M : xM) (h : F_X12_says fu s x1 x2 M = some rr) : xWx p l e R S0 m ag below meth c0 D cA A0 sA M0 ad0 3 Z 0 0 0 0 0 [(0, .inr (.inr (12, some s))), (1, .inl x1), (2, .inl x2)] [] M := by
  rw [← q_X12_says fu s x1 x2 M] at h
  have hT : ∀ w ∈ xG, w ∈ (Cond.code yX12_says cX12_says 3 (some .int) :: xG) := fun w hw => List.mem_cons_of_mem _ hw
  refine xrun_sound (nst := 0) (isInit := false) (kd := kdX12) X (xcls_mono hT xclsG) (xpool_mono hT plX12) (fun z => by cases z) (fun idx v hf => xkoE_mono hT (koX12_ok _ (xfind_mem hf))) (xents (ca := _) ?_) (endI hE).1 (endI hE).2 (xcuts (cu := _) ?_) pr_X12_says.1 pr_X12_says.2 _ _ _ _ _ _ _ _ (xat_ok pr_X12_says.1 pr_X12_says.2).1 (xat_ok pr_X12_says.1 pr_X12_says.2).2.1 (xat_ok pr_X12_says.1 pr_X12_says.2).2.2 h
  · exact (List.forall_mem_cons.mpr ⟨(xent_met X (ci := 12) hT cd_X12_isPage lk_X12_345 rfl (by decide) rfl (by decide +kernel) (fun z => absurd z (by decide)) (hw_X12_isPage l D cA sA fu 0) (fun _ => ⟨by decide, fun _ => ⟨TX12, 29, rfl⟩⟩) (by constructor <;> omega) (by decide)), (List.forall_mem_cons.mpr ⟨(xent_met X (ci := 12) hT cd_X12_saysOf lk_X12_401 rfl (by decide) rfl (by decide +kernel) (fun z => absurd z (by decide)) (hw_X12_saysOf l D cA sA fu 0) (fun _ => ⟨by decide, fun _ => ⟨TX12, 29, rfl⟩⟩) (by constructor <;> omega) (by decide)), (fun _ h => nomatch h)⟩)⟩)
  · exact (fun _ h => nomatch h)

theorem ok_X12_says (l : Launch) (D : va_G) (cA : Nat → ClassId) (sA : Nat → Nat) (fu : Nat) (s : Nat) (x1 : Int32) (x2 : Int32) (M : xM) {rr : Int32 × xM} (h : F_X12_says fu s x1 x2 M = some rr) : xMet l D cA sA yX12_says cX12_says 3 (some .int) xG (4 + 1) 0 0 [.inr (.inr (12, some s)), .inl x1, .inl x2] M (some (.inl rr.1)) rr.2 :=
  xmet_of (by decide +kernel) (Nat.le_of_ble_eq_true rfl) (fun p e s1 m ag below meth c0 A0 ad0 Z X hn hE => wx_X12_says X hn ⟨Nat.le_refl _, Nat.le_refl _⟩ hE fu s x1 x2 M h)
theorem hw_X12_says (l : Launch) (D : va_G) (cA : Nat → ClassId) (sA : Nat → Nat) (fu : Nat) {ρ : Type} {r0 : ρ} (kd1 : Nat) : ∀ (as : List xV) (M : xM) (k : Option xV → xM → Option ρ), w_X12_says fu as M k = some r0 → ∃ v M', xMet l D cA sA yX12_says cX12_says 3 (some .int) xG (4 + 1) 0 0 as M v M' ∧ k v M' = some r0 ∧ (kd1 ≠ 2 → ∃ a as', as = .inr (.inr (12, some a)) :: as') := by
  intro as M k h
  unfold w_X12_says at h
  replace h := pR_some h
  obtain ⟨o, as1, rfl, h⟩ := h
  replace h := bd_some h
  obtain ⟨s, rfl, h⟩ := h
  replace h := pI_some h
  obtain ⟨x1, as1, rfl, h⟩ := h
  replace h := pI_some h
  obtain ⟨x2, as1, rfl, h⟩ := h
  replace h := xe_some h
  obtain ⟨rfl, h⟩ := h
  obtain ⟨p1, hp, h⟩ := Option.bind_eq_some_iff.mp h
  exact ⟨_, _, ok_X12_says l D cA sA fu s x1 x2 M hp, h, fun _ => ⟨_, _, rfl⟩⟩
theorem cd_X12_see : Cond.code yX12_see cX12_see 6 (some .boolean) ∈ xG := (xg 2039 (by decide +kernel) (by decide +kernel))
theorem pr_X12_see : (∀ e ∈ pX12_see, xrow cX12_see 6 kdX12 flX12 0 false RX12 e) ∧ xnext pX12_see = true := xrows (by decide +kernel)
set_option maxRecDepth 100000 in
theorem wx_X12_see_102 (X : xCtx p R S0 m ag c0 D cA A0 sA 6 cX12_see RX12 (.code yX12_see cX12_see 6 (some .boolean) :: xG) 0 0) (hi : meth.name = yX12_see.name) (hroom : 3 + 2 ≤ R.frames ∧ 60 * (3 + 2) ≤ R.locals) {rr : Int32 × xM} (hE : xEnd l D cA sA cX12_see 6 (some .boolean) R 0 0 (some (.inl rr.1)) rr.2 p e S0 m ag below meth c0 A0 M0 ad0 Z) (fu : Nat) (s : Nat) (y0 : Int32) (y1 : Int32) (y2 : Option Nat) (M : xM) (h : J_X12_see_102 fu s y0 y1 y2 M = some rr) : xWx p l e R S0 m ag below meth c0 D cA A0 sA M0 ad0 6 Z 0 0 102 0 0 [(0, .inr (.inr (12, some s)))] [.inl y0, .inl y1, .inr (.inr (20, y2))] M := by
  rw [← q_X12_see_102 fu s y0 y1 y2 M] at h
  have hT : ∀ w ∈ xG, w ∈ (Cond.code yX12_see cX12_see 6 (some .boolean) :: xG) := fun w hw => List.mem_cons_of_mem _ hw
  refine xrun_sound (nst := 0) (isInit := false) (kd := kdX12) X (xcls_mono hT xclsG) (xpool_mono hT plX12) (fun z => by cases z) (fun idx v hf => xkoE_mono hT (koX12_ok _ (xfind_mem hf))) (xents (ca := _) ?_) (endZ hE).1 (endZ hE).2 (xcuts (cu := _) ?_) pr_X12_see.1 pr_X12_see.2 _ _ _ _ _ _ _ _ (xat_ok pr_X12_see.1 pr_X12_see.2).1 (xat_ok pr_X12_see.1 pr_X12_see.2).2.1 (xat_ok pr_X12_see.1 pr_X12_see.2).2.2 h
  · exact (fun _ h => nomatch h)
  · exact (fun _ h => nomatch h)

set_option maxRecDepth 100000 in
theorem wx_X12_see (X : xCtx p R S0 m ag c0 D cA A0 sA 6 cX12_see RX12 (.code yX12_see cX12_see 6 (some .boolean) :: xG) 0 0) (hi : meth.name = yX12_see.name) (hroom : 3 + 2 ≤ R.frames ∧ 60 * (3 + 2) ≤ R.locals) {rr : Int32 × xM} (hE : xEnd l D cA sA cX12_see 6 (some .boolean) R 0 0 (some (.inl rr.1)) rr.2 p e S0 m ag below meth c0 A0 M0 ad0 Z) (fu : Nat) (s : Nat) (x1 : Int32) (x2 : Int32) (x3 : Int32) (x4 : Int32) (M : xM) (h : F_X12_see fu s x1 x2 x3 x4 M = some rr) : xWx p l e R S0 m ag below meth c0 D cA A0 sA M0 ad0 6 Z 0 0 0 0 0 [(0, .inr (.inr (12, some s))), (1, .inl x1), (2, .inl x2), (3, .inl x3), (4, .inl x4)] [] M := by
  rw [← q_X12_see fu s x1 x2 x3 x4 M] at h
  have hT : ∀ w ∈ xG, w ∈ (Cond.code yX12_see cX12_see 6 (some .boolean) :: xG) := fun w hw => List.mem_cons_of_mem _ hw
  refine xrun_sound (nst := 0) (isInit := false) (kd := kdX12) X (xcls_mono hT xclsG) (xpool_mono hT plX12) (fun z => by cases z) (fun idx v hf => xkoE_mono hT (koX12_ok _ (xfind_mem hf))) (xents (ca := _) ?_) (endZ hE).1 (endZ hE).2 (xcuts (cu := _) ?_) pr_X12_see.1 pr_X12_see.2 _ _ _ _ _ _ _ _ (xat_ok pr_X12_see.1 pr_X12_see.2).1 (xat_ok pr_X12_see.1 pr_X12_see.2).2.1 (xat_ok pr_X12_see.1 pr_X12_see.2).2.2 h
  · exact (List.forall_mem_cons.mpr ⟨(xent_met X (ci := 12) hT cd_X12_isPage lk_X12_345 rfl (by decide) rfl (by decide +kernel) (fun z => absurd z (by decide)) (hw_X12_isPage l D cA sA fu 0) (fun _ => ⟨by decide, fun _ => ⟨TX12, 29, rfl⟩⟩) (by constructor <;> omega) (by decide)), (List.forall_mem_cons.mpr ⟨(xent_met X (ci := 12) hT cd_X12_within lk_X12_380 rfl (by decide) rfl (by decide +kernel) (fun z => absurd z (by decide)) (hw_X12_within l D cA sA fu 2 rfl) (fun z => absurd rfl z) (by constructor <;> omega) (by decide)), (fun _ h => nomatch h)⟩)⟩)
  · refine (List.forall_mem_cons.mpr ⟨?_, (fun _ h => nomatch h)⟩)
    · intro bc bs ls st M h
      replace h := xz_some h
      obtain ⟨rfl, rfl, h⟩ := h
      replace h := lR_some h
      obtain ⟨o, e0, h⟩ := h
      replace h := bd_some h
      obtain ⟨s', rfl, h⟩ := h
      replace h := pI_some h
      obtain ⟨y0', st, rfl, h⟩ := h
      replace h := pI_some h
      obtain ⟨y1', st, rfl, h⟩ := h
      replace h := pR_some h
      obtain ⟨y2', st, rfl, h⟩ := h
      replace h := xe_some h
      obtain ⟨rfl, h⟩ := h
      exact xWx_ls (wx_X12_see_102 X hi hroom hE fu s' y0' y1' y2' M h) (List.forall_mem_cons.mpr ⟨e0, (fun _ h => nomatch h)⟩)

theorem ok_X12_see (l : Launch) (D : va_G) (cA : Nat → ClassId) (sA : Nat → Nat) (fu : Nat) (s : Nat) (x1 : Int32) (x2 : Int32) (x3 : Int32) (x4 : Int32) (M : xM) {rr : Int32 × xM} (h : F_X12_see fu s x1 x2 x3 x4 M = some rr) : xMet l D cA sA yX12_see cX12_see 6 (some .boolean) xG (3 + 1) 0 0 [.inr (.inr (12, some s)), .inl x1, .inl x2, .inl x3, .inl x4] M (some (.inl rr.1)) rr.2 :=
  xmet_of (by decide +kernel) (Nat.le_of_ble_eq_true rfl) (fun p e s1 m ag below meth c0 A0 ad0 Z X hn hE => wx_X12_see X hn ⟨Nat.le_refl _, Nat.le_refl _⟩ hE fu s x1 x2 x3 x4 M h)
theorem hw_X12_see (l : Launch) (D : va_G) (cA : Nat → ClassId) (sA : Nat → Nat) (fu : Nat) {ρ : Type} {r0 : ρ} (kd1 : Nat) : ∀ (as : List xV) (M : xM) (k : Option xV → xM → Option ρ), w_X12_see fu as M k = some r0 → ∃ v M', xMet l D cA sA yX12_see cX12_see 6 (some .boolean) xG (3 + 1) 0 0 as M v M' ∧ k v M' = some r0 ∧ (kd1 ≠ 2 → ∃ a as', as = .inr (.inr (12, some a)) :: as') := by
  intro as M k h
  unfold w_X12_see at h
  replace h := pR_some h
  obtain ⟨o, as1, rfl, h⟩ := h
  replace h := bd_some h
  obtain ⟨s, rfl, h⟩ := h
  replace h := pI_some h
  obtain ⟨x1, as1, rfl, h⟩ := h
  replace h := pI_some h
  obtain ⟨x2, as1, rfl, h⟩ := h
  replace h := pI_some h
  obtain ⟨x3, as1, rfl, h⟩ := h
  replace h := pI_some h
  obtain ⟨x4, as1, rfl, h⟩ := h
  replace h := xe_some h
  obtain ⟨rfl, h⟩ := h
  obtain ⟨p1, hp, h⟩ := Option.bind_eq_some_iff.mp h
  exact ⟨_, _, ok_X12_see l D cA sA fu s x1 x2 x3 x4 M hp, h, fun _ => ⟨_, _, rfl⟩⟩
theorem cd_X12_slot : Cond.code yX12_slot cX12_slot 4 (some .int) ∈ xG := (xg 1770 (by decide +kernel) (by decide +kernel))
theorem pr_X12_slot : (∀ e ∈ pX12_slot, xrow cX12_slot 4 kdX12 flX12 0 false RX12 e) ∧ xnext pX12_slot = true := xrows (by decide +kernel)
set_option maxRecDepth 100000 in
theorem wx_X12_slot (X : xCtx p R S0 m ag c0 D cA A0 sA 4 cX12_slot RX12 (.code yX12_slot cX12_slot 4 (some .int) :: xG) 0 0) (hi : meth.name = yX12_slot.name) (hroom : 5 + 2 ≤ R.frames ∧ 60 * (5 + 2) ≤ R.locals) {rr : Int32 × xM} (hE : xEnd l D cA sA cX12_slot 4 (some .int) R 0 0 (some (.inl rr.1)) rr.2 p e S0 m ag below meth c0 A0 M0 ad0 Z) (fu : Nat) (s : Nat) (x1 : Int32) (x2 : Int32) (M : xM) (h : F_X12_slot fu s x1 x2 M = some rr) : xWx p l e R S0 m ag below meth c0 D cA A0 sA M0 ad0 4 Z 0 0 0 0 0 [(0, .inr (.inr (12, some s))), (1, .inl x1), (2, .inl x2)] [] M := by
  rw [← q_X12_slot fu s x1 x2 M] at h
  have hT : ∀ w ∈ xG, w ∈ (Cond.code yX12_slot cX12_slot 4 (some .int) :: xG) := fun w hw => List.mem_cons_of_mem _ hw
  refine xrun_sound (nst := 0) (isInit := false) (kd := kdX12) X (xcls_mono hT xclsG) (xpool_mono hT plX12) (fun z => by cases z) (fun idx v hf => xkoE_mono hT (koX12_ok _ (xfind_mem hf))) (xents (ca := _) ?_) (endI hE).1 (endI hE).2 (xcuts (cu := _) ?_) pr_X12_slot.1 pr_X12_slot.2 _ _ _ _ _ _ _ _ (xat_ok pr_X12_slot.1 pr_X12_slot.2).1 (xat_ok pr_X12_slot.1 pr_X12_slot.2).2.1 (xat_ok pr_X12_slot.1 pr_X12_slot.2).2.2 h
  · exact (List.forall_mem_cons.mpr ⟨(xent_met X (ci := 12) hT cd_X12_slotAt lk_X12_264 rfl (by decide) rfl (by decide +kernel) (fun z => absurd z (by decide)) (hw_X12_slotAt l D cA sA fu 2 rfl) (fun z => absurd rfl z) (by constructor <;> omega) (by decide)), (List.forall_mem_cons.mpr ⟨(xent_met X (ci := 12) hT cd_X12_allSlots lk_X12_277 rfl (by decide) rfl (by decide +kernel) (fun z => absurd z (by decide)) (hw_X12_allSlots l D cA sA fu 0) (fun _ => ⟨by decide, fun _ => ⟨TX12, 29, rfl⟩⟩) (by constructor <;> omega) (by decide)), (List.forall_mem_cons.mpr ⟨(xent_met X (ci := 12) hT cd_X12_typeOf lk_X12_290 rfl (by decide) rfl (by decide +kernel) (fun z => absurd z (by decide)) (hw_X12_typeOf l D cA sA fu 0) (fun _ => ⟨by decide, fun _ => ⟨TX12, 29, rfl⟩⟩) (by constructor <;> omega) (by decide)), (List.forall_mem_cons.mpr ⟨(xent_met X (ci := 12) hT cd_X12_looks lk_X12_305 rfl (by decide) rfl (by decide +kernel) (fun z => absurd z (by decide)) (hw_X12_looks l D cA sA fu 0) (fun _ => ⟨by decide, fun _ => ⟨TX12, 29, rfl⟩⟩) (by constructor <;> omega) (by decide)), (List.forall_mem_cons.mpr ⟨(xent_met X (ci := 12) hT cd_X12_isLive lk_X12_308 rfl (by decide) rfl (by decide +kernel) (fun z => absurd z (by decide)) (hw_X12_isLive l D cA sA fu 0) (fun _ => ⟨by decide, fun _ => ⟨TX12, 29, rfl⟩⟩) (by constructor <;> omega) (by decide)), (List.forall_mem_cons.mpr ⟨(xent_met X (ci := 12) hT cd_X12_within lk_X12_380 rfl (by decide) rfl (by decide +kernel) (fun z => absurd z (by decide)) (hw_X12_within l D cA sA fu 2 rfl) (fun z => absurd rfl z) (by constructor <;> omega) (by decide)), (fun _ h => nomatch h)⟩)⟩)⟩)⟩)⟩)⟩)
  · exact (fun _ h => nomatch h)

theorem ok_X12_slot (l : Launch) (D : va_G) (cA : Nat → ClassId) (sA : Nat → Nat) (fu : Nat) (s : Nat) (x1 : Int32) (x2 : Int32) (M : xM) {rr : Int32 × xM} (h : F_X12_slot fu s x1 x2 M = some rr) : xMet l D cA sA yX12_slot cX12_slot 4 (some .int) xG (5 + 1) 0 0 [.inr (.inr (12, some s)), .inl x1, .inl x2] M (some (.inl rr.1)) rr.2 :=
  xmet_of (by decide +kernel) (Nat.le_of_ble_eq_true rfl) (fun p e s1 m ag below meth c0 A0 ad0 Z X hn hE => wx_X12_slot X hn ⟨Nat.le_refl _, Nat.le_refl _⟩ hE fu s x1 x2 M h)
theorem hw_X12_slot (l : Launch) (D : va_G) (cA : Nat → ClassId) (sA : Nat → Nat) (fu : Nat) {ρ : Type} {r0 : ρ} (kd1 : Nat) : ∀ (as : List xV) (M : xM) (k : Option xV → xM → Option ρ), w_X12_slot fu as M k = some r0 → ∃ v M', xMet l D cA sA yX12_slot cX12_slot 4 (some .int) xG (5 + 1) 0 0 as M v M' ∧ k v M' = some r0 ∧ (kd1 ≠ 2 → ∃ a as', as = .inr (.inr (12, some a)) :: as') := by
  intro as M k h
  unfold w_X12_slot at h
  replace h := pR_some h
  obtain ⟨o, as1, rfl, h⟩ := h
  replace h := bd_some h
  obtain ⟨s, rfl, h⟩ := h
  replace h := pI_some h
  obtain ⟨x1, as1, rfl, h⟩ := h
  replace h := pI_some h
  obtain ⟨x2, as1, rfl, h⟩ := h
  replace h := xe_some h
  obtain ⟨rfl, h⟩ := h
  obtain ⟨p1, hp, h⟩ := Option.bind_eq_some_iff.mp h
  exact ⟨_, _, ok_X12_slot l D cA sA fu s x1 x2 M hp, h, fun _ => ⟨_, _, rfl⟩⟩
theorem cd_X12_spare : Cond.code yX12_spare cX12_spare 2 (some .int) ∈ xG := (xg 2071 (by decide +kernel) (by decide +kernel))
theorem pr_X12_spare : (∀ e ∈ pX12_spare, xrow cX12_spare 2 kdX12 flX12 0 false RX12 e) ∧ xnext pX12_spare = true := xrows (by decide +kernel)
set_option maxRecDepth 100000 in
theorem wx_X12_spare (X : xCtx p R S0 m ag c0 D cA A0 sA 2 cX12_spare RX12 (.code yX12_spare cX12_spare 2 (some .int) :: xG) 0 0) (hi : meth.name = yX12_spare.name) (hroom : 4 + 2 ≤ R.frames ∧ 60 * (4 + 2) ≤ R.locals) {rr : Int32 × xM} (hE : xEnd l D cA sA cX12_spare 2 (some .int) R 0 0 (some (.inl rr.1)) rr.2 p e S0 m ag below meth c0 A0 M0 ad0 Z) (fu : Nat) (s : Nat) (M : xM) (h : F_X12_spare fu s M = some rr) : xWx p l e R S0 m ag below meth c0 D cA A0 sA M0 ad0 2 Z 0 0 0 0 0 [(0, .inr (.inr (12, some s)))] [] M := by
  rw [← q_X12_spare fu s M] at h
  have hT : ∀ w ∈ xG, w ∈ (Cond.code yX12_spare cX12_spare 2 (some .int) :: xG) := fun w hw => List.mem_cons_of_mem _ hw
  refine xrun_sound (nst := 0) (isInit := false) (kd := kdX12) X (xcls_mono hT xclsG) (xpool_mono hT plX12) (fun z => by cases z) (fun idx v hf => xkoE_mono hT (koX12_ok _ (xfind_mem hf))) (xents (ca := _) ?_) (endI hE).1 (endI hE).2 (xcuts (cu := _) ?_) pr_X12_spare.1 pr_X12_spare.2 _ _ _ _ _ _ _ _ (xat_ok pr_X12_spare.1 pr_X12_spare.2).1 (xat_ok pr_X12_spare.1 pr_X12_spare.2).2.1 (xat_ok pr_X12_spare.1 pr_X12_spare.2).2.2 h
  · exact (List.forall_mem_cons.mpr ⟨(xent_met X (ci := 12) hT cd_X12_partsOf lk_X12_323 rfl (by decide) rfl (by decide +kernel) (fun z => absurd z (by decide)) (hw_X12_partsOf l D cA sA fu 0) (fun _ => ⟨by decide, fun _ => ⟨TX12, 29, rfl⟩⟩) (by constructor <;> omega) (by decide)), (List.forall_mem_cons.mpr ⟨(xent_met X (ci := 12) hT cd_X12_erased lk_X12_326 rfl (by decide) rfl (by decide +kernel) (fun z => absurd z (by decide)) (hw_X12_erased l D cA sA fu 0) (fun _ => ⟨by decide, fun _ => ⟨TX12, 29, rfl⟩⟩) (by constructor <;> omega) (by decide)), (fun _ h => nomatch h)⟩)⟩)
  · exact (fun _ h => nomatch h)

theorem ok_X12_spare (l : Launch) (D : va_G) (cA : Nat → ClassId) (sA : Nat → Nat) (fu : Nat) (s : Nat) (M : xM) {rr : Int32 × xM} (h : F_X12_spare fu s M = some rr) : xMet l D cA sA yX12_spare cX12_spare 2 (some .int) xG (4 + 1) 0 0 [.inr (.inr (12, some s))] M (some (.inl rr.1)) rr.2 :=
  xmet_of (by decide +kernel) (Nat.le_of_ble_eq_true rfl) (fun p e s1 m ag below meth c0 A0 ad0 Z X hn hE => wx_X12_spare X hn ⟨Nat.le_refl _, Nat.le_refl _⟩ hE fu s M h)
theorem hw_X12_spare (l : Launch) (D : va_G) (cA : Nat → ClassId) (sA : Nat → Nat) (fu : Nat) {ρ : Type} {r0 : ρ} (kd1 : Nat) : ∀ (as : List xV) (M : xM) (k : Option xV → xM → Option ρ), w_X12_spare fu as M k = some r0 → ∃ v M', xMet l D cA sA yX12_spare cX12_spare 2 (some .int) xG (4 + 1) 0 0 as M v M' ∧ k v M' = some r0 ∧ (kd1 ≠ 2 → ∃ a as', as = .inr (.inr (12, some a)) :: as') := by
  intro as M k h
  unfold w_X12_spare at h
  replace h := pR_some h
  obtain ⟨o, as1, rfl, h⟩ := h
  replace h := bd_some h
  obtain ⟨s, rfl, h⟩ := h
  replace h := xe_some h
  obtain ⟨rfl, h⟩ := h
  obtain ⟨p1, hp, h⟩ := Option.bind_eq_some_iff.mp h
  exact ⟨_, _, ok_X12_spare l D cA sA fu s M hp, h, fun _ => ⟨_, _, rfl⟩⟩
theorem lk_X12_181 : xLink xG RX12 181 0 yX12_readLine 0 := ⟨Or.inl (xg 1671 (by decide +kernel) (by decide +kernel)), (xg 1673 (by decide +kernel) (by decide +kernel)), (xg 45 (by decide +kernel) (by decide +kernel)), (xg 141 (by decide +kernel) (by decide +kernel)), ⟨12, by decide, TX12, 29, rfl⟩⟩
theorem lk_X12_175 : xLink xG RX12 175 0 yX12_cutAll 0 := ⟨Or.inl (xg 1652 (by decide +kernel) (by decide +kernel)), (xg 1654 (by decide +kernel) (by decide +kernel)), (xg 44 (by decide +kernel) (by decide +kernel)), (xg 141 (by decide +kernel) (by decide +kernel)), ⟨12, by decide, TX12, 29, rfl⟩⟩
theorem cd_X12_store : Cond.code yX12_store cX12_store 2 (some .int) ∈ xG := (xg 1651 (by decide +kernel) (by decide +kernel))
theorem pr_X12_store : (∀ e ∈ pX12_store, xrow cX12_store 2 kdX12 flX12 0 false RX12 e) ∧ xnext pX12_store = true := xrows (by decide +kernel)
set_option maxRecDepth 100000 in
theorem wx_X12_store_127 (X : xCtx p R S0 m ag c0 D cA A0 sA 2 cX12_store RX12 (.code yX12_store cX12_store 2 (some .int) :: xG) 0 0) (hi : meth.name = yX12_store.name) (hroom : 126 + 2 ≤ R.frames ∧ 60 * (126 + 2) ≤ R.locals) {rr : Int32 × xM} (hE : xEnd l D cA sA cX12_store 2 (some .int) R 0 0 (some (.inl rr.1)) rr.2 p e S0 m ag below meth c0 A0 M0 ad0 Z) (fu : Nat) : ∀ (n : Nat) (s : Nat) (x1 : Int32) (M : xM), L_X12_store_127 fu n s x1 M = some rr → xWx p l e R S0 m ag below meth c0 D cA A0 sA M0 ad0 2 Z 0 0 127 0 0 [(0, .inr (.inr (12, some s))), (1, .inl x1)] [] M := by
  intro n
  induction n with
  | zero => intro s x1 M h; cases h
  | succ n ih =>
    intro s x1 M h
    rw [← q_X12_store_127 fu n s x1 M] at h
    have hT : ∀ w ∈ xG, w ∈ (Cond.code yX12_store cX12_store 2 (some .int) :: xG) := fun w hw => List.mem_cons_of_mem _ hw
    refine xrun_sound (nst := 0) (isInit := false) (kd := kdX12) X (xcls_mono hT xclsG) (xpool_mono hT plX12) (fun z => by cases z) (fun idx v hf => xkoE_mono hT (koX12_ok _ (xfind_mem hf))) (xents (ca := _) ?_) (endI hE).1 (endI hE).2 (xcuts (cu := _) ?_) pr_X12_store.1 pr_X12_store.2 _ _ _ _ _ _ _ _ (xat_ok pr_X12_store.1 pr_X12_store.2).1 (xat_ok pr_X12_store.1 pr_X12_store.2).2.1 (xat_ok pr_X12_store.1 pr_X12_store.2).2.2 h
    · exact (List.forall_mem_cons.mpr ⟨(xent_met X (ci := 12) hT cd_X12_begins lk_X12_127 rfl (by decide) rfl (by decide +kernel) (fun z => absurd z (by decide)) (hw_X12_begins l D cA sA fu 0) (fun _ => ⟨by decide, fun _ => ⟨TX12, 29, rfl⟩⟩) (by constructor <;> omega) (by decide)), (fun _ h => nomatch h)⟩)
    · refine (List.forall_mem_cons.mpr ⟨?_, (fun _ h => nomatch h)⟩)
      · intro bc bs ls st M h
        replace h := xz_some h
        obtain ⟨rfl, rfl, h⟩ := h
        replace h := lR_some h
        obtain ⟨o, e0, h⟩ := h
        replace h := bd_some h
        obtain ⟨s', rfl, h⟩ := h
        replace h := lI_some h
        obtain ⟨x1', e1, h⟩ := h
        replace h := xe_some h
        obtain ⟨rfl, h⟩ := h
        exact xWx_ls (ih s' x1' M h) (List.forall_mem_cons.mpr ⟨e0, (List.forall_mem_cons.mpr ⟨e1, (fun _ h => nomatch h)⟩)⟩)

set_option maxRecDepth 100000 in
theorem wx_X12_store_95 (X : xCtx p R S0 m ag c0 D cA A0 sA 2 cX12_store RX12 (.code yX12_store cX12_store 2 (some .int) :: xG) 0 0) (hi : meth.name = yX12_store.name) (hroom : 126 + 2 ≤ R.frames ∧ 60 * (126 + 2) ≤ R.locals) {rr : Int32 × xM} (hE : xEnd l D cA sA cX12_store 2 (some .int) R 0 0 (some (.inl rr.1)) rr.2 p e S0 m ag below meth c0 A0 M0 ad0 Z) (fu : Nat) : ∀ (n : Nat) (s : Nat) (x1 : Int32) (M : xM), L_X12_store_95 fu n s x1 M = some rr → xWx p l e R S0 m ag below meth c0 D cA A0 sA M0 ad0 2 Z 0 0 95 0 0 [(0, .inr (.inr (12, some s))), (1, .inl x1)] [] M := by
  intro n
  induction n with
  | zero => intro s x1 M h; cases h
  | succ n ih =>
    intro s x1 M h
    rw [← q_X12_store_95 fu n s x1 M] at h
    have hT : ∀ w ∈ xG, w ∈ (Cond.code yX12_store cX12_store 2 (some .int) :: xG) := fun w hw => List.mem_cons_of_mem _ hw
    refine xrun_sound (nst := 0) (isInit := false) (kd := kdX12) X (xcls_mono hT xclsG) (xpool_mono hT plX12) (fun z => by cases z) (fun idx v hf => xkoE_mono hT (koX12_ok _ (xfind_mem hf))) (xents (ca := _) ?_) (endI hE).1 (endI hE).2 (xcuts (cu := _) ?_) pr_X12_store.1 pr_X12_store.2 _ _ _ _ _ _ _ _ (xat_ok pr_X12_store.1 pr_X12_store.2).1 (xat_ok pr_X12_store.1 pr_X12_store.2).2.1 (xat_ok pr_X12_store.1 pr_X12_store.2).2.2 h
    · exact (fun _ h => nomatch h)
    · refine (List.forall_mem_cons.mpr ⟨?_, (List.forall_mem_cons.mpr ⟨?_, (fun _ h => nomatch h)⟩)⟩)
      · intro bc bs ls st M h
        replace h := xz_some h
        obtain ⟨rfl, rfl, h⟩ := h
        replace h := lR_some h
        obtain ⟨o, e0, h⟩ := h
        replace h := bd_some h
        obtain ⟨s', rfl, h⟩ := h
        replace h := lI_some h
        obtain ⟨x1', e1, h⟩ := h
        replace h := xe_some h
        obtain ⟨rfl, h⟩ := h
        exact xWx_ls (ih s' x1' M h) (List.forall_mem_cons.mpr ⟨e0, (List.forall_mem_cons.mpr ⟨e1, (fun _ h => nomatch h)⟩)⟩)
      · intro bc bs ls st M h
        replace h := xz_some h
        obtain ⟨rfl, rfl, h⟩ := h
        replace h := lR_some h
        obtain ⟨o, e0, h⟩ := h
        replace h := bd_some h
        obtain ⟨s', rfl, h⟩ := h
        replace h := lI_some h
        obtain ⟨x1', e1, h⟩ := h
        replace h := xe_some h
        obtain ⟨rfl, h⟩ := h
        exact xWx_ls (wx_X12_store_127 X hi hroom hE fu fu s' x1' M h) (List.forall_mem_cons.mpr ⟨e0, (List.forall_mem_cons.mpr ⟨e1, (fun _ h => nomatch h)⟩)⟩)

set_option maxRecDepth 100000 in
theorem wx_X12_store_66 (X : xCtx p R S0 m ag c0 D cA A0 sA 2 cX12_store RX12 (.code yX12_store cX12_store 2 (some .int) :: xG) 0 0) (hi : meth.name = yX12_store.name) (hroom : 126 + 2 ≤ R.frames ∧ 60 * (126 + 2) ≤ R.locals) {rr : Int32 × xM} (hE : xEnd l D cA sA cX12_store 2 (some .int) R 0 0 (some (.inl rr.1)) rr.2 p e S0 m ag below meth c0 A0 M0 ad0 Z) (fu : Nat) : ∀ (n : Nat) (s : Nat) (x1 : Int32) (M : xM), L_X12_store_66 fu n s x1 M = some rr → xWx p l e R S0 m ag below meth c0 D cA A0 sA M0 ad0 2 Z 0 0 66 0 0 [(0, .inr (.inr (12, some s))), (1, .inl x1)] [] M := by
  intro n
  induction n with
  | zero => intro s x1 M h; cases h
  | succ n ih =>
    intro s x1 M h
    rw [← q_X12_store_66 fu n s x1 M] at h
    have hT : ∀ w ∈ xG, w ∈ (Cond.code yX12_store cX12_store 2 (some .int) :: xG) := fun w hw => List.mem_cons_of_mem _ hw
    refine xrun_sound (nst := 0) (isInit := false) (kd := kdX12) X (xcls_mono hT xclsG) (xpool_mono hT plX12) (fun z => by cases z) (fun idx v hf => xkoE_mono hT (koX12_ok _ (xfind_mem hf))) (xents (ca := _) ?_) (endI hE).1 (endI hE).2 (xcuts (cu := _) ?_) pr_X12_store.1 pr_X12_store.2 _ _ _ _ _ _ _ _ (xat_ok pr_X12_store.1 pr_X12_store.2).1 (xat_ok pr_X12_store.1 pr_X12_store.2).2.1 (xat_ok pr_X12_store.1 pr_X12_store.2).2.2 h
    · exact (fun _ h => nomatch h)
    · refine (List.forall_mem_cons.mpr ⟨?_, (List.forall_mem_cons.mpr ⟨?_, (fun _ h => nomatch h)⟩)⟩)
      · intro bc bs ls st M h
        replace h := xz_some h
        obtain ⟨rfl, rfl, h⟩ := h
        replace h := lR_some h
        obtain ⟨o, e0, h⟩ := h
        replace h := bd_some h
        obtain ⟨s', rfl, h⟩ := h
        replace h := lI_some h
        obtain ⟨x1', e1, h⟩ := h
        replace h := xe_some h
        obtain ⟨rfl, h⟩ := h
        exact xWx_ls (ih s' x1' M h) (List.forall_mem_cons.mpr ⟨e0, (List.forall_mem_cons.mpr ⟨e1, (fun _ h => nomatch h)⟩)⟩)
      · intro bc bs ls st M h
        replace h := xz_some h
        obtain ⟨rfl, rfl, h⟩ := h
        replace h := lR_some h
        obtain ⟨o, e0, h⟩ := h
        replace h := bd_some h
        obtain ⟨s', rfl, h⟩ := h
        replace h := lI_some h
        obtain ⟨x1', e1, h⟩ := h
        replace h := xe_some h
        obtain ⟨rfl, h⟩ := h
        exact xWx_ls (wx_X12_store_95 X hi hroom hE fu fu s' x1' M h) (List.forall_mem_cons.mpr ⟨e0, (List.forall_mem_cons.mpr ⟨e1, (fun _ h => nomatch h)⟩)⟩)

set_option maxRecDepth 100000 in
theorem wx_X12_store_52 (X : xCtx p R S0 m ag c0 D cA A0 sA 2 cX12_store RX12 (.code yX12_store cX12_store 2 (some .int) :: xG) 0 0) (hi : meth.name = yX12_store.name) (hroom : 126 + 2 ≤ R.frames ∧ 60 * (126 + 2) ≤ R.locals) {rr : Int32 × xM} (hE : xEnd l D cA sA cX12_store 2 (some .int) R 0 0 (some (.inl rr.1)) rr.2 p e S0 m ag below meth c0 A0 M0 ad0 Z) (fu : Nat) (s : Nat) (M : xM) (h : J_X12_store_52 fu s M = some rr) : xWx p l e R S0 m ag below meth c0 D cA A0 sA M0 ad0 2 Z 0 0 52 0 0 [(0, .inr (.inr (12, some s)))] [] M := by
  rw [← q_X12_store_52 fu s M] at h
  have hT : ∀ w ∈ xG, w ∈ (Cond.code yX12_store cX12_store 2 (some .int) :: xG) := fun w hw => List.mem_cons_of_mem _ hw
  refine xrun_sound (nst := 0) (isInit := false) (kd := kdX12) X (xcls_mono hT xclsG) (xpool_mono hT plX12) (fun z => by cases z) (fun idx v hf => xkoE_mono hT (koX12_ok _ (xfind_mem hf))) (xents (ca := _) ?_) (endI hE).1 (endI hE).2 (xcuts (cu := _) ?_) pr_X12_store.1 pr_X12_store.2 _ _ _ _ _ _ _ _ (xat_ok pr_X12_store.1 pr_X12_store.2).1 (xat_ok pr_X12_store.1 pr_X12_store.2).2.1 (xat_ok pr_X12_store.1 pr_X12_store.2).2.2 h
  · exact (fun _ h => nomatch h)
  · refine (List.forall_mem_cons.mpr ⟨?_, (fun _ h => nomatch h)⟩)
    · intro bc bs ls st M h
      replace h := xz_some h
      obtain ⟨rfl, rfl, h⟩ := h
      replace h := lR_some h
      obtain ⟨o, e0, h⟩ := h
      replace h := bd_some h
      obtain ⟨s', rfl, h⟩ := h
      replace h := lI_some h
      obtain ⟨x1', e1, h⟩ := h
      replace h := xe_some h
      obtain ⟨rfl, h⟩ := h
      exact xWx_ls (wx_X12_store_66 X hi hroom hE fu fu s' x1' M h) (List.forall_mem_cons.mpr ⟨e0, (List.forall_mem_cons.mpr ⟨e1, (fun _ h => nomatch h)⟩)⟩)

set_option maxRecDepth 100000 in
theorem wx_X12_store_20 (X : xCtx p R S0 m ag c0 D cA A0 sA 2 cX12_store RX12 (.code yX12_store cX12_store 2 (some .int) :: xG) 0 0) (hi : meth.name = yX12_store.name) (hroom : 126 + 2 ≤ R.frames ∧ 60 * (126 + 2) ≤ R.locals) {rr : Int32 × xM} (hE : xEnd l D cA sA cX12_store 2 (some .int) R 0 0 (some (.inl rr.1)) rr.2 p e S0 m ag below meth c0 A0 M0 ad0 Z) (fu : Nat) : ∀ (n : Nat) (s : Nat) (M : xM), L_X12_store_20 fu n s M = some rr → xWx p l e R S0 m ag below meth c0 D cA A0 sA M0 ad0 2 Z 0 0 20 0 0 [(0, .inr (.inr (12, some s)))] [] M := by
  intro n
  induction n with
  | zero => intro s M h; cases h
  | succ n ih =>
    intro s M h
    rw [← q_X12_store_20 fu n s M] at h
    have hT : ∀ w ∈ xG, w ∈ (Cond.code yX12_store cX12_store 2 (some .int) :: xG) := fun w hw => List.mem_cons_of_mem _ hw
    refine xrun_sound (nst := 0) (isInit := false) (kd := kdX12) X (xcls_mono hT xclsG) (xpool_mono hT plX12) (fun z => by cases z) (fun idx v hf => xkoE_mono hT (koX12_ok _ (xfind_mem hf))) (xents (ca := _) ?_) (endI hE).1 (endI hE).2 (xcuts (cu := _) ?_) pr_X12_store.1 pr_X12_store.2 _ _ _ _ _ _ _ _ (xat_ok pr_X12_store.1 pr_X12_store.2).1 (xat_ok pr_X12_store.1 pr_X12_store.2).2.1 (xat_ok pr_X12_store.1 pr_X12_store.2).2.2 h
    · exact (List.forall_mem_cons.mpr ⟨(xent_met X (ci := 12) hT cd_X12_readLine lk_X12_181 rfl (by decide) rfl (by decide +kernel) (fun z => absurd z (by decide)) (hw_X12_readLine l D cA sA fu 0) (fun _ => ⟨by decide, fun _ => ⟨TX12, 29, rfl⟩⟩) (by constructor <;> omega) (by decide)), (List.forall_mem_cons.mpr ⟨(xent_met X (ci := 12) hT cd_X12_takeSign lk_X12_184 rfl (by decide) rfl (by decide +kernel) (fun z => absurd z (by decide)) (hw_X12_takeSign l D cA sA fu 0) (fun _ => ⟨by decide, fun _ => ⟨TX12, 29, rfl⟩⟩) (by constructor <;> omega) (by decide)), (fun _ h => nomatch h)⟩)⟩)
    · refine (List.forall_mem_cons.mpr ⟨?_, (List.forall_mem_cons.mpr ⟨?_, (fun _ h => nomatch h)⟩)⟩)
      · intro bc bs ls st M h
        replace h := xz_some h
        obtain ⟨rfl, rfl, h⟩ := h
        replace h := lR_some h
        obtain ⟨o, e0, h⟩ := h
        replace h := bd_some h
        obtain ⟨s', rfl, h⟩ := h
        replace h := xe_some h
        obtain ⟨rfl, h⟩ := h
        exact xWx_ls (ih s' M h) (List.forall_mem_cons.mpr ⟨e0, (fun _ h => nomatch h)⟩)
      · intro bc bs ls st M h
        replace h := xz_some h
        obtain ⟨rfl, rfl, h⟩ := h
        replace h := lR_some h
        obtain ⟨o, e0, h⟩ := h
        replace h := bd_some h
        obtain ⟨s', rfl, h⟩ := h
        replace h := xe_some h
        obtain ⟨rfl, h⟩ := h
        exact xWx_ls (wx_X12_store_52 X hi hroom hE fu s' M h) (List.forall_mem_cons.mpr ⟨e0, (fun _ h => nomatch h)⟩)

set_option maxRecDepth 100000 in
theorem wx_X12_store (X : xCtx p R S0 m ag c0 D cA A0 sA 2 cX12_store RX12 (.code yX12_store cX12_store 2 (some .int) :: xG) 0 0) (hi : meth.name = yX12_store.name) (hroom : 126 + 2 ≤ R.frames ∧ 60 * (126 + 2) ≤ R.locals) {rr : Int32 × xM} (hE : xEnd l D cA sA cX12_store 2 (some .int) R 0 0 (some (.inl rr.1)) rr.2 p e S0 m ag below meth c0 A0 M0 ad0 Z) (fu : Nat) (s : Nat) (M : xM) (h : F_X12_store fu s M = some rr) : xWx p l e R S0 m ag below meth c0 D cA A0 sA M0 ad0 2 Z 0 0 0 0 0 [(0, .inr (.inr (12, some s)))] [] M := by
  rw [← q_X12_store fu s M] at h
  have hT : ∀ w ∈ xG, w ∈ (Cond.code yX12_store cX12_store 2 (some .int) :: xG) := fun w hw => List.mem_cons_of_mem _ hw
  refine xrun_sound (nst := 0) (isInit := false) (kd := kdX12) X (xcls_mono hT xclsG) (xpool_mono hT plX12) (fun z => by cases z) (fun idx v hf => xkoE_mono hT (koX12_ok _ (xfind_mem hf))) (xents (ca := _) ?_) (endI hE).1 (endI hE).2 (xcuts (cu := _) ?_) pr_X12_store.1 pr_X12_store.2 _ _ _ _ _ _ _ _ (xat_ok pr_X12_store.1 pr_X12_store.2).1 (xat_ok pr_X12_store.1 pr_X12_store.2).2.1 (xat_ok pr_X12_store.1 pr_X12_store.2).2.2 h
  · exact (List.forall_mem_cons.mpr ⟨(xent_met X (ci := 12) hT cd_X12_standsAsAlways lk_X12_123 rfl (by decide) rfl (by decide +kernel) (fun z => absurd z (by decide)) (hw_X12_standsAsAlways l D cA sA fu 0) (fun _ => ⟨by decide, fun _ => ⟨TX12, 29, rfl⟩⟩) (by constructor <;> omega) (by decide)), (List.forall_mem_cons.mpr ⟨(xent_met X (ci := 12) hT cd_X12_cutAll lk_X12_175 rfl (by decide) rfl (by decide +kernel) (fun z => absurd z (by decide)) (hw_X12_cutAll l D cA sA fu 0) (fun _ => ⟨by decide, fun _ => ⟨TX12, 29, rfl⟩⟩) (by constructor <;> omega) (by decide)), (fun _ h => nomatch h)⟩)⟩)
  · refine (List.forall_mem_cons.mpr ⟨?_, (fun _ h => nomatch h)⟩)
    · intro bc bs ls st M h
      replace h := xz_some h
      obtain ⟨rfl, rfl, h⟩ := h
      replace h := lR_some h
      obtain ⟨o, e0, h⟩ := h
      replace h := bd_some h
      obtain ⟨s', rfl, h⟩ := h
      replace h := xe_some h
      obtain ⟨rfl, h⟩ := h
      exact xWx_ls (wx_X12_store_20 X hi hroom hE fu fu s' M h) (List.forall_mem_cons.mpr ⟨e0, (fun _ h => nomatch h)⟩)

theorem ok_X12_store (l : Launch) (D : va_G) (cA : Nat → ClassId) (sA : Nat → Nat) (fu : Nat) (s : Nat) (M : xM) {rr : Int32 × xM} (h : F_X12_store fu s M = some rr) : xMet l D cA sA yX12_store cX12_store 2 (some .int) xG (126 + 1) 0 0 [.inr (.inr (12, some s))] M (some (.inl rr.1)) rr.2 :=
  xmet_of (by decide +kernel) (Nat.le_of_ble_eq_true rfl) (fun p e s1 m ag below meth c0 A0 ad0 Z X hn hE => wx_X12_store X hn ⟨Nat.le_refl _, Nat.le_refl _⟩ hE fu s M h)
theorem hw_X12_store (l : Launch) (D : va_G) (cA : Nat → ClassId) (sA : Nat → Nat) (fu : Nat) {ρ : Type} {r0 : ρ} (kd1 : Nat) : ∀ (as : List xV) (M : xM) (k : Option xV → xM → Option ρ), w_X12_store fu as M k = some r0 → ∃ v M', xMet l D cA sA yX12_store cX12_store 2 (some .int) xG (126 + 1) 0 0 as M v M' ∧ k v M' = some r0 ∧ (kd1 ≠ 2 → ∃ a as', as = .inr (.inr (12, some a)) :: as') := by
  intro as M k h
  unfold w_X12_store at h
  replace h := pR_some h
  obtain ⟨o, as1, rfl, h⟩ := h
  replace h := bd_some h
  obtain ⟨s, rfl, h⟩ := h
  replace h := xe_some h
  obtain ⟨rfl, h⟩ := h
  obtain ⟨p1, hp, h⟩ := Option.bind_eq_some_iff.mp h
  exact ⟨_, _, ok_X12_store l D cA sA fu s M hp, h, fun _ => ⟨_, _, rfl⟩⟩
theorem cd_X12_thrown : Cond.code yX12_thrown cX12_thrown 1 (some .int) ∈ xG := (xg 1510 (by decide +kernel) (by decide +kernel))
theorem pr_X12_thrown : (∀ e ∈ pX12_thrown, xrow cX12_thrown 1 kdX12 flX12 0 false RX12 e) ∧ xnext pX12_thrown = true := xrows (by decide +kernel)
set_option maxRecDepth 100000 in
theorem wx_X12_thrown (X : xCtx p R S0 m ag c0 D cA A0 sA 1 cX12_thrown RX12 (.code yX12_thrown cX12_thrown 1 (some .int) :: xG) 0 0) (hi : meth.name = yX12_thrown.name) (hroom : 0 + 2 ≤ R.frames ∧ 60 * (0 + 2) ≤ R.locals) {rr : Int32 × xM} (hE : xEnd l D cA sA cX12_thrown 1 (some .int) R 0 0 (some (.inl rr.1)) rr.2 p e S0 m ag below meth c0 A0 M0 ad0 Z) (fu : Nat) (s : Nat) (M : xM) (h : F_X12_thrown fu s M = some rr) : xWx p l e R S0 m ag below meth c0 D cA A0 sA M0 ad0 1 Z 0 0 0 0 0 [(0, .inr (.inr (12, some s)))] [] M := by
  rw [← q_X12_thrown fu s M] at h
  have hT : ∀ w ∈ xG, w ∈ (Cond.code yX12_thrown cX12_thrown 1 (some .int) :: xG) := fun w hw => List.mem_cons_of_mem _ hw
  refine xrun_sound (nst := 0) (isInit := false) (kd := kdX12) X (xcls_mono hT xclsG) (xpool_mono hT plX12) (fun z => by cases z) (fun idx v hf => xkoE_mono hT (koX12_ok _ (xfind_mem hf))) (xents (ca := _) ?_) (endI hE).1 (endI hE).2 (xcuts (cu := _) ?_) pr_X12_thrown.1 pr_X12_thrown.2 _ _ _ _ _ _ _ _ (xat_ok pr_X12_thrown.1 pr_X12_thrown.2).1 (xat_ok pr_X12_thrown.1 pr_X12_thrown.2).2.1 (xat_ok pr_X12_thrown.1 pr_X12_thrown.2).2.2 h
  · exact (fun _ h => nomatch h)
  · exact (fun _ h => nomatch h)

theorem ok_X12_thrown (l : Launch) (D : va_G) (cA : Nat → ClassId) (sA : Nat → Nat) (fu : Nat) (s : Nat) (M : xM) {rr : Int32 × xM} (h : F_X12_thrown fu s M = some rr) : xMet l D cA sA yX12_thrown cX12_thrown 1 (some .int) xG (0 + 1) 0 0 [.inr (.inr (12, some s))] M (some (.inl rr.1)) rr.2 :=
  xmet_of (by decide +kernel) (Nat.le_of_ble_eq_true rfl) (fun p e s1 m ag below meth c0 A0 ad0 Z X hn hE => wx_X12_thrown X hn ⟨Nat.le_refl _, Nat.le_refl _⟩ hE fu s M h)
theorem hw_X12_thrown (l : Launch) (D : va_G) (cA : Nat → ClassId) (sA : Nat → Nat) (fu : Nat) {ρ : Type} {r0 : ρ} (kd1 : Nat) : ∀ (as : List xV) (M : xM) (k : Option xV → xM → Option ρ), w_X12_thrown fu as M k = some r0 → ∃ v M', xMet l D cA sA yX12_thrown cX12_thrown 1 (some .int) xG (0 + 1) 0 0 as M v M' ∧ k v M' = some r0 ∧ (kd1 ≠ 2 → ∃ a as', as = .inr (.inr (12, some a)) :: as') := by
  intro as M k h
  unfold w_X12_thrown at h
  replace h := pR_some h
  obtain ⟨o, as1, rfl, h⟩ := h
  replace h := bd_some h
  obtain ⟨s, rfl, h⟩ := h
  replace h := xe_some h
  obtain ⟨rfl, h⟩ := h
  obtain ⟨p1, hp, h⟩ := Option.bind_eq_some_iff.mp h
  exact ⟨_, _, ok_X12_thrown l D cA sA fu s M hp, h, fun _ => ⟨_, _, rfl⟩⟩
theorem cd_X12_wear : Cond.code yX12_wear cX12_wear 4 (some .int) ∈ xG := (xg 2107 (by decide +kernel) (by decide +kernel))
theorem pr_X12_wear : (∀ e ∈ pX12_wear, xrow cX12_wear 4 kdX12 flX12 0 false RX12 e) ∧ xnext pX12_wear = true := xrows (by decide +kernel)
set_option maxRecDepth 100000 in
theorem wx_X12_wear_47 (X : xCtx p R S0 m ag c0 D cA A0 sA 4 cX12_wear RX12 (.code yX12_wear cX12_wear 4 (some .int) :: xG) 0 0) (hi : meth.name = yX12_wear.name) (hroom : 1 + 2 ≤ R.frames ∧ 60 * (1 + 2) ≤ R.locals) {rr : Int32 × xM} (hE : xEnd l D cA sA cX12_wear 4 (some .int) R 0 0 (some (.inl rr.1)) rr.2 p e S0 m ag below meth c0 A0 M0 ad0 Z) (fu : Nat) (k13 : Nat → Int32 → Int32 → Int32 → xM → Option (Int32 × xM)) (hk13 : ∀ (s : Nat) (x1 : Int32) (x2 : Int32) (x3 : Int32) (M : xM), k13 s x1 x2 x3 M = some rr → xWx p l e R S0 m ag below meth c0 D cA A0 sA M0 ad0 4 Z 0 0 13 0 0 [(0, .inr (.inr (12, some s))), (1, .inl x1), (2, .inl x2), (3, .inl x3)] [] M) (s : Nat) (x2 : Int32) (x3 : Int32) (y0 : Int32) (M : xM) (h : J_X12_wear_47 fu k13 s x2 x3 y0 M = some rr) : xWx p l e R S0 m ag below meth c0 D cA A0 sA M0 ad0 4 Z 0 0 47 0 0 [(0, .inr (.inr (12, some s))), (2, .inl x2), (3, .inl x3)] [.inl y0] M := by
  rw [← q_X12_wear_47 fu k13 s x2 x3 y0 M] at h
  have hT : ∀ w ∈ xG, w ∈ (Cond.code yX12_wear cX12_wear 4 (some .int) :: xG) := fun w hw => List.mem_cons_of_mem _ hw
  refine xrun_sound (nst := 0) (isInit := false) (kd := kdX12) X (xcls_mono hT xclsG) (xpool_mono hT plX12) (fun z => by cases z) (fun idx v hf => xkoE_mono hT (koX12_ok _ (xfind_mem hf))) (xents (ca := _) ?_) (endI hE).1 (endI hE).2 (xcuts (cu := _) ?_) pr_X12_wear.1 pr_X12_wear.2 _ _ _ _ _ _ _ _ (xat_ok pr_X12_wear.1 pr_X12_wear.2).1 (xat_ok pr_X12_wear.1 pr_X12_wear.2).2.1 (xat_ok pr_X12_wear.1 pr_X12_wear.2).2.2 h
  · exact (fun _ h => nomatch h)
  · refine (List.forall_mem_cons.mpr ⟨?_, (fun _ h => nomatch h)⟩)
    · intro bc bs ls st M h
      replace h := xz_some h
      obtain ⟨rfl, rfl, h⟩ := h
      replace h := lR_some h
      obtain ⟨o, e0, h⟩ := h
      replace h := bd_some h
      obtain ⟨s', rfl, h⟩ := h
      replace h := lI_some h
      obtain ⟨x1', e1, h⟩ := h
      replace h := lI_some h
      obtain ⟨x2', e2, h⟩ := h
      replace h := lI_some h
      obtain ⟨x3', e3, h⟩ := h
      replace h := xe_some h
      obtain ⟨rfl, h⟩ := h
      exact xWx_ls (hk13 s' x1' x2' x3' M h) (List.forall_mem_cons.mpr ⟨e0, (List.forall_mem_cons.mpr ⟨e1, (List.forall_mem_cons.mpr ⟨e2, (List.forall_mem_cons.mpr ⟨e3, (fun _ h => nomatch h)⟩)⟩)⟩)⟩)

set_option maxRecDepth 100000 in
theorem wx_X12_wear_13 (X : xCtx p R S0 m ag c0 D cA A0 sA 4 cX12_wear RX12 (.code yX12_wear cX12_wear 4 (some .int) :: xG) 0 0) (hi : meth.name = yX12_wear.name) (hroom : 1 + 2 ≤ R.frames ∧ 60 * (1 + 2) ≤ R.locals) {rr : Int32 × xM} (hE : xEnd l D cA sA cX12_wear 4 (some .int) R 0 0 (some (.inl rr.1)) rr.2 p e S0 m ag below meth c0 A0 M0 ad0 Z) (fu : Nat) : ∀ (n : Nat) (s : Nat) (x1 : Int32) (x2 : Int32) (x3 : Int32) (M : xM), L_X12_wear_13 fu n s x1 x2 x3 M = some rr → xWx p l e R S0 m ag below meth c0 D cA A0 sA M0 ad0 4 Z 0 0 13 0 0 [(0, .inr (.inr (12, some s))), (1, .inl x1), (2, .inl x2), (3, .inl x3)] [] M := by
  intro n
  induction n with
  | zero => intro s x1 x2 x3 M h; cases h
  | succ n ih =>
    intro s x1 x2 x3 M h
    rw [← q_X12_wear_13 fu n s x1 x2 x3 M] at h
    have hT : ∀ w ∈ xG, w ∈ (Cond.code yX12_wear cX12_wear 4 (some .int) :: xG) := fun w hw => List.mem_cons_of_mem _ hw
    refine xrun_sound (nst := 0) (isInit := false) (kd := kdX12) X (xcls_mono hT xclsG) (xpool_mono hT plX12) (fun z => by cases z) (fun idx v hf => xkoE_mono hT (koX12_ok _ (xfind_mem hf))) (xents (ca := _) ?_) (endI hE).1 (endI hE).2 (xcuts (cu := _) ?_) pr_X12_wear.1 pr_X12_wear.2 _ _ _ _ _ _ _ _ (xat_ok pr_X12_wear.1 pr_X12_wear.2).1 (xat_ok pr_X12_wear.1 pr_X12_wear.2).2.1 (xat_ok pr_X12_wear.1 pr_X12_wear.2).2.2 h
    · exact (List.forall_mem_cons.mpr ⟨(xent_met X (ci := 12) hT cd_X12_blocks lk_X12_252 rfl (by decide) rfl (by decide +kernel) (fun z => absurd z (by decide)) (hw_X12_blocks l D cA sA fu 0) (fun _ => ⟨by decide, fun _ => ⟨TX12, 29, rfl⟩⟩) (by constructor <;> omega) (by decide)), (fun _ h => nomatch h)⟩)
    · refine (List.forall_mem_cons.mpr ⟨?_, (fun _ h => nomatch h)⟩)
      · intro bc bs ls st M h
        replace h := xz_some h
        obtain ⟨rfl, rfl, h⟩ := h
        replace h := lR_some h
        obtain ⟨o, e0, h⟩ := h
        replace h := bd_some h
        obtain ⟨s', rfl, h⟩ := h
        replace h := lI_some h
        obtain ⟨x2', e2, h⟩ := h
        replace h := lI_some h
        obtain ⟨x3', e3, h⟩ := h
        replace h := pI_some h
        obtain ⟨y0', st, rfl, h⟩ := h
        replace h := xe_some h
        obtain ⟨rfl, h⟩ := h
        exact xWx_ls (wx_X12_wear_47 X hi hroom hE fu _ ih s' x2' x3' y0' M h) (List.forall_mem_cons.mpr ⟨e0, (List.forall_mem_cons.mpr ⟨e2, (List.forall_mem_cons.mpr ⟨e3, (fun _ h => nomatch h)⟩)⟩)⟩)

set_option maxRecDepth 100000 in
theorem wx_X12_wear (X : xCtx p R S0 m ag c0 D cA A0 sA 4 cX12_wear RX12 (.code yX12_wear cX12_wear 4 (some .int) :: xG) 0 0) (hi : meth.name = yX12_wear.name) (hroom : 1 + 2 ≤ R.frames ∧ 60 * (1 + 2) ≤ R.locals) {rr : Int32 × xM} (hE : xEnd l D cA sA cX12_wear 4 (some .int) R 0 0 (some (.inl rr.1)) rr.2 p e S0 m ag below meth c0 A0 M0 ad0 Z) (fu : Nat) (s : Nat) (M : xM) (h : F_X12_wear fu s M = some rr) : xWx p l e R S0 m ag below meth c0 D cA A0 sA M0 ad0 4 Z 0 0 0 0 0 [(0, .inr (.inr (12, some s)))] [] M := by
  rw [← q_X12_wear fu s M] at h
  have hT : ∀ w ∈ xG, w ∈ (Cond.code yX12_wear cX12_wear 4 (some .int) :: xG) := fun w hw => List.mem_cons_of_mem _ hw
  refine xrun_sound (nst := 0) (isInit := false) (kd := kdX12) X (xcls_mono hT xclsG) (xpool_mono hT plX12) (fun z => by cases z) (fun idx v hf => xkoE_mono hT (koX12_ok _ (xfind_mem hf))) (xents (ca := _) ?_) (endI hE).1 (endI hE).2 (xcuts (cu := _) ?_) pr_X12_wear.1 pr_X12_wear.2 _ _ _ _ _ _ _ _ (xat_ok pr_X12_wear.1 pr_X12_wear.2).1 (xat_ok pr_X12_wear.1 pr_X12_wear.2).2.1 (xat_ok pr_X12_wear.1 pr_X12_wear.2).2.2 h
  · exact (fun _ h => nomatch h)
  · refine (List.forall_mem_cons.mpr ⟨?_, (fun _ h => nomatch h)⟩)
    · intro bc bs ls st M h
      replace h := xz_some h
      obtain ⟨rfl, rfl, h⟩ := h
      replace h := lR_some h
      obtain ⟨o, e0, h⟩ := h
      replace h := bd_some h
      obtain ⟨s', rfl, h⟩ := h
      replace h := lI_some h
      obtain ⟨x1', e1, h⟩ := h
      replace h := lI_some h
      obtain ⟨x2', e2, h⟩ := h
      replace h := lI_some h
      obtain ⟨x3', e3, h⟩ := h
      replace h := xe_some h
      obtain ⟨rfl, h⟩ := h
      exact xWx_ls (wx_X12_wear_13 X hi hroom hE fu fu s' x1' x2' x3' M h) (List.forall_mem_cons.mpr ⟨e0, (List.forall_mem_cons.mpr ⟨e1, (List.forall_mem_cons.mpr ⟨e2, (List.forall_mem_cons.mpr ⟨e3, (fun _ h => nomatch h)⟩)⟩)⟩)⟩)

theorem ok_X12_wear (l : Launch) (D : va_G) (cA : Nat → ClassId) (sA : Nat → Nat) (fu : Nat) (s : Nat) (M : xM) {rr : Int32 × xM} (h : F_X12_wear fu s M = some rr) : xMet l D cA sA yX12_wear cX12_wear 4 (some .int) xG (1 + 1) 0 0 [.inr (.inr (12, some s))] M (some (.inl rr.1)) rr.2 :=
  xmet_of (by decide +kernel) (Nat.le_of_ble_eq_true rfl) (fun p e s1 m ag below meth c0 A0 ad0 Z X hn hE => wx_X12_wear X hn ⟨Nat.le_refl _, Nat.le_refl _⟩ hE fu s M h)
theorem hw_X12_wear (l : Launch) (D : va_G) (cA : Nat → ClassId) (sA : Nat → Nat) (fu : Nat) {ρ : Type} {r0 : ρ} (kd1 : Nat) : ∀ (as : List xV) (M : xM) (k : Option xV → xM → Option ρ), w_X12_wear fu as M k = some r0 → ∃ v M', xMet l D cA sA yX12_wear cX12_wear 4 (some .int) xG (1 + 1) 0 0 as M v M' ∧ k v M' = some r0 ∧ (kd1 ≠ 2 → ∃ a as', as = .inr (.inr (12, some a)) :: as') := by
  intro as M k h
  unfold w_X12_wear at h
  replace h := pR_some h
  obtain ⟨o, as1, rfl, h⟩ := h
  replace h := bd_some h
  obtain ⟨s, rfl, h⟩ := h
  replace h := xe_some h
  obtain ⟨rfl, h⟩ := h
  obtain ⟨p1, hp, h⟩ := Option.bind_eq_some_iff.mp h
  exact ⟨_, _, ok_X12_wear l D cA sA fu s M hp, h, fun _ => ⟨_, _, rfl⟩⟩
theorem lk_X12_216 : xLink xG RX12 216 0 yX12_readWork 2 := ⟨Or.inl (xg 1759 (by decide +kernel) (by decide +kernel)), (xg 1761 (by decide +kernel) (by decide +kernel)), (xg 66 (by decide +kernel) (by decide +kernel)), (xg 141 (by decide +kernel) (by decide +kernel)), ⟨12, by decide, TX12, 29, rfl⟩⟩
theorem cd_X12_work : Cond.code yX12_work cX12_work 3 (some .int) ∈ xG := (xg 1758 (by decide +kernel) (by decide +kernel))
theorem pr_X12_work : (∀ e ∈ pX12_work, xrow cX12_work 3 kdX12 flX12 0 false RX12 e) ∧ xnext pX12_work = true := xrows (by decide +kernel)
set_option maxRecDepth 100000 in
theorem wx_X12_work_119 (X : xCtx p R S0 m ag c0 D cA A0 sA 3 cX12_work RX12 (.code yX12_work cX12_work 3 (some .int) :: xG) 0 0) (hi : meth.name = yX12_work.name) (hroom : 4 + 2 ≤ R.frames ∧ 60 * (4 + 2) ≤ R.locals) {rr : Int32 × xM} (hE : xEnd l D cA sA cX12_work 3 (some .int) R 0 0 (some (.inl rr.1)) rr.2 p e S0 m ag below meth c0 A0 M0 ad0 Z) (fu : Nat) : ∀ (n : Nat) (s : Nat) (x1 : Int32) (x2 : Int32) (M : xM), L_X12_work_119 fu n s x1 x2 M = some rr → xWx p l e R S0 m ag below meth c0 D cA A0 sA M0 ad0 3 Z 0 0 119 0 0 [(0, .inr (.inr (12, some s))), (1, .inl x1), (2, .inl x2)] [] M := by
  intro n
  induction n with
  | zero => intro s x1 x2 M h; cases h
  | succ n ih =>
    intro s x1 x2 M h
    rw [← q_X12_work_119 fu n s x1 x2 M] at h
    have hT : ∀ w ∈ xG, w ∈ (Cond.code yX12_work cX12_work 3 (some .int) :: xG) := fun w hw => List.mem_cons_of_mem _ hw
    refine xrun_sound (nst := 0) (isInit := false) (kd := kdX12) X (xcls_mono hT xclsG) (xpool_mono hT plX12) (fun z => by cases z) (fun idx v hf => xkoE_mono hT (koX12_ok _ (xfind_mem hf))) (xents (ca := _) ?_) (endI hE).1 (endI hE).2 (xcuts (cu := _) ?_) pr_X12_work.1 pr_X12_work.2 _ _ _ _ _ _ _ _ (xat_ok pr_X12_work.1 pr_X12_work.2).1 (xat_ok pr_X12_work.1 pr_X12_work.2).2.1 (xat_ok pr_X12_work.1 pr_X12_work.2).2.2 h
    · exact (fun _ h => nomatch h)
    · refine (List.forall_mem_cons.mpr ⟨?_, (fun _ h => nomatch h)⟩)
      · intro bc bs ls st M h
        replace h := xz_some h
        obtain ⟨rfl, rfl, h⟩ := h
        replace h := lR_some h
        obtain ⟨o, e0, h⟩ := h
        replace h := bd_some h
        obtain ⟨s', rfl, h⟩ := h
        replace h := lI_some h
        obtain ⟨x1', e1, h⟩ := h
        replace h := lI_some h
        obtain ⟨x2', e2, h⟩ := h
        replace h := xe_some h
        obtain ⟨rfl, h⟩ := h
        exact xWx_ls (ih s' x1' x2' M h) (List.forall_mem_cons.mpr ⟨e0, (List.forall_mem_cons.mpr ⟨e1, (List.forall_mem_cons.mpr ⟨e2, (fun _ h => nomatch h)⟩)⟩)⟩)

set_option maxRecDepth 100000 in
theorem wx_X12_work_98 (X : xCtx p R S0 m ag c0 D cA A0 sA 3 cX12_work RX12 (.code yX12_work cX12_work 3 (some .int) :: xG) 0 0) (hi : meth.name = yX12_work.name) (hroom : 4 + 2 ≤ R.frames ∧ 60 * (4 + 2) ≤ R.locals) {rr : Int32 × xM} (hE : xEnd l D cA sA cX12_work 3 (some .int) R 0 0 (some (.inl rr.1)) rr.2 p e S0 m ag below meth c0 A0 M0 ad0 Z) (fu : Nat) (s : Nat) (x1 : Int32) (M : xM) (h : J_X12_work_98 fu s x1 M = some rr) : xWx p l e R S0 m ag below meth c0 D cA A0 sA M0 ad0 3 Z 0 0 98 0 0 [(0, .inr (.inr (12, some s))), (1, .inl x1)] [] M := by
  rw [← q_X12_work_98 fu s x1 M] at h
  have hT : ∀ w ∈ xG, w ∈ (Cond.code yX12_work cX12_work 3 (some .int) :: xG) := fun w hw => List.mem_cons_of_mem _ hw
  refine xrun_sound (nst := 0) (isInit := false) (kd := kdX12) X (xcls_mono hT xclsG) (xpool_mono hT plX12) (fun z => by cases z) (fun idx v hf => xkoE_mono hT (koX12_ok _ (xfind_mem hf))) (xents (ca := _) ?_) (endI hE).1 (endI hE).2 (xcuts (cu := _) ?_) pr_X12_work.1 pr_X12_work.2 _ _ _ _ _ _ _ _ (xat_ok pr_X12_work.1 pr_X12_work.2).1 (xat_ok pr_X12_work.1 pr_X12_work.2).2.1 (xat_ok pr_X12_work.1 pr_X12_work.2).2.2 h
  · exact (fun _ h => nomatch h)
  · refine (List.forall_mem_cons.mpr ⟨?_, (fun _ h => nomatch h)⟩)
    · intro bc bs ls st M h
      replace h := xz_some h
      obtain ⟨rfl, rfl, h⟩ := h
      replace h := lR_some h
      obtain ⟨o, e0, h⟩ := h
      replace h := bd_some h
      obtain ⟨s', rfl, h⟩ := h
      replace h := lI_some h
      obtain ⟨x1', e1, h⟩ := h
      replace h := lI_some h
      obtain ⟨x2', e2, h⟩ := h
      replace h := xe_some h
      obtain ⟨rfl, h⟩ := h
      exact xWx_ls (wx_X12_work_119 X hi hroom hE fu fu s' x1' x2' M h) (List.forall_mem_cons.mpr ⟨e0, (List.forall_mem_cons.mpr ⟨e1, (List.forall_mem_cons.mpr ⟨e2, (fun _ h => nomatch h)⟩)⟩)⟩)

set_option maxRecDepth 100000 in
theorem wx_X12_work_11 (X : xCtx p R S0 m ag c0 D cA A0 sA 3 cX12_work RX12 (.code yX12_work cX12_work 3 (some .int) :: xG) 0 0) (hi : meth.name = yX12_work.name) (hroom : 4 + 2 ≤ R.frames ∧ 60 * (4 + 2) ≤ R.locals) {rr : Int32 × xM} (hE : xEnd l D cA sA cX12_work 3 (some .int) R 0 0 (some (.inl rr.1)) rr.2 p e S0 m ag below meth c0 A0 M0 ad0 Z) (fu : Nat) : ∀ (n : Nat) (s : Nat) (x1 : Int32) (M : xM), L_X12_work_11 fu n s x1 M = some rr → xWx p l e R S0 m ag below meth c0 D cA A0 sA M0 ad0 3 Z 0 0 11 0 0 [(0, .inr (.inr (12, some s))), (1, .inl x1)] [] M := by
  intro n
  induction n with
  | zero => intro s x1 M h; cases h
  | succ n ih =>
    intro s x1 M h
    rw [← q_X12_work_11 fu n s x1 M] at h
    have hT : ∀ w ∈ xG, w ∈ (Cond.code yX12_work cX12_work 3 (some .int) :: xG) := fun w hw => List.mem_cons_of_mem _ hw
    refine xrun_sound (nst := 0) (isInit := false) (kd := kdX12) X (xcls_mono hT xclsG) (xpool_mono hT plX12) (fun z => by cases z) (fun idx v hf => xkoE_mono hT (koX12_ok _ (xfind_mem hf))) (xents (ca := _) ?_) (endI hE).1 (endI hE).2 (xcuts (cu := _) ?_) pr_X12_work.1 pr_X12_work.2 _ _ _ _ _ _ _ _ (xat_ok pr_X12_work.1 pr_X12_work.2).1 (xat_ok pr_X12_work.1 pr_X12_work.2).2.1 (xat_ok pr_X12_work.1 pr_X12_work.2).2.2 h
    · exact (List.forall_mem_cons.mpr ⟨(xent_met X (ci := 12) hT cd_X12_wrong lk_X12_162 rfl (by decide) rfl (by decide +kernel) (fun z => absurd z (by decide)) (hw_X12_wrong l D cA sA fu 0) (fun _ => ⟨by decide, fun _ => ⟨TX12, 29, rfl⟩⟩) (by constructor <;> omega) (by decide)), (List.forall_mem_cons.mpr ⟨(xent_met X (ci := 12) hT cd_X12_wordHere lk_X12_171 rfl (by decide) rfl (by decide +kernel) (fun z => absurd z (by decide)) (hw_X12_wordHere l D cA sA fu 0) (fun _ => ⟨by decide, fun _ => ⟨TX12, 29, rfl⟩⟩) (by constructor <;> omega) (by decide)), (List.forall_mem_cons.mpr ⟨(xent_met X (ci := 12) hT cd_X12_takeSign lk_X12_184 rfl (by decide) rfl (by decide +kernel) (fun z => absurd z (by decide)) (hw_X12_takeSign l D cA sA fu 0) (fun _ => ⟨by decide, fun _ => ⟨TX12, 29, rfl⟩⟩) (by constructor <;> omega) (by decide)), (List.forall_mem_cons.mpr ⟨(xent_met X (ci := 12) hT cd_X12_readWork lk_X12_216 rfl (by decide) rfl (by decide +kernel) (fun z => absurd z (by decide)) (hw_X12_readWork l D cA sA fu 0) (fun _ => ⟨by decide, fun _ => ⟨TX12, 29, rfl⟩⟩) (by constructor <;> omega) (by decide)), (fun _ h => nomatch h)⟩)⟩)⟩)⟩)
    · refine (List.forall_mem_cons.mpr ⟨?_, (List.forall_mem_cons.mpr ⟨?_, (fun _ h => nomatch h)⟩)⟩)
      · intro bc bs ls st M h
        replace h := xz_some h
        obtain ⟨rfl, rfl, h⟩ := h
        replace h := lR_some h
        obtain ⟨o, e0, h⟩ := h
        replace h := bd_some h
        obtain ⟨s', rfl, h⟩ := h
        replace h := lI_some h
        obtain ⟨x1', e1, h⟩ := h
        replace h := xe_some h
        obtain ⟨rfl, h⟩ := h
        exact xWx_ls (ih s' x1' M h) (List.forall_mem_cons.mpr ⟨e0, (List.forall_mem_cons.mpr ⟨e1, (fun _ h => nomatch h)⟩)⟩)
      · intro bc bs ls st M h
        replace h := xz_some h
        obtain ⟨rfl, rfl, h⟩ := h
        replace h := lR_some h
        obtain ⟨o, e0, h⟩ := h
        replace h := bd_some h
        obtain ⟨s', rfl, h⟩ := h
        replace h := lI_some h
        obtain ⟨x1', e1, h⟩ := h
        replace h := xe_some h
        obtain ⟨rfl, h⟩ := h
        exact xWx_ls (wx_X12_work_98 X hi hroom hE fu s' x1' M h) (List.forall_mem_cons.mpr ⟨e0, (List.forall_mem_cons.mpr ⟨e1, (fun _ h => nomatch h)⟩)⟩)

set_option maxRecDepth 100000 in
theorem wx_X12_work (X : xCtx p R S0 m ag c0 D cA A0 sA 3 cX12_work RX12 (.code yX12_work cX12_work 3 (some .int) :: xG) 0 0) (hi : meth.name = yX12_work.name) (hroom : 4 + 2 ≤ R.frames ∧ 60 * (4 + 2) ≤ R.locals) {rr : Int32 × xM} (hE : xEnd l D cA sA cX12_work 3 (some .int) R 0 0 (some (.inl rr.1)) rr.2 p e S0 m ag below meth c0 A0 M0 ad0 Z) (fu : Nat) (s : Nat) (M : xM) (h : F_X12_work fu s M = some rr) : xWx p l e R S0 m ag below meth c0 D cA A0 sA M0 ad0 3 Z 0 0 0 0 0 [(0, .inr (.inr (12, some s)))] [] M := by
  rw [← q_X12_work fu s M] at h
  have hT : ∀ w ∈ xG, w ∈ (Cond.code yX12_work cX12_work 3 (some .int) :: xG) := fun w hw => List.mem_cons_of_mem _ hw
  refine xrun_sound (nst := 0) (isInit := false) (kd := kdX12) X (xcls_mono hT xclsG) (xpool_mono hT plX12) (fun z => by cases z) (fun idx v hf => xkoE_mono hT (koX12_ok _ (xfind_mem hf))) (xents (ca := _) ?_) (endI hE).1 (endI hE).2 (xcuts (cu := _) ?_) pr_X12_work.1 pr_X12_work.2 _ _ _ _ _ _ _ _ (xat_ok pr_X12_work.1 pr_X12_work.2).1 (xat_ok pr_X12_work.1 pr_X12_work.2).2.1 (xat_ok pr_X12_work.1 pr_X12_work.2).2.2 h
  · exact (List.forall_mem_cons.mpr ⟨(xent_met X (ci := 12) hT cd_X12_cutAll lk_X12_175 rfl (by decide) rfl (by decide +kernel) (fun z => absurd z (by decide)) (hw_X12_cutAll l D cA sA fu 0) (fun _ => ⟨by decide, fun _ => ⟨TX12, 29, rfl⟩⟩) (by constructor <;> omega) (by decide)), (fun _ h => nomatch h)⟩)
  · refine (List.forall_mem_cons.mpr ⟨?_, (fun _ h => nomatch h)⟩)
    · intro bc bs ls st M h
      replace h := xz_some h
      obtain ⟨rfl, rfl, h⟩ := h
      replace h := lR_some h
      obtain ⟨o, e0, h⟩ := h
      replace h := bd_some h
      obtain ⟨s', rfl, h⟩ := h
      replace h := lI_some h
      obtain ⟨x1', e1, h⟩ := h
      replace h := xe_some h
      obtain ⟨rfl, h⟩ := h
      exact xWx_ls (wx_X12_work_11 X hi hroom hE fu fu s' x1' M h) (List.forall_mem_cons.mpr ⟨e0, (List.forall_mem_cons.mpr ⟨e1, (fun _ h => nomatch h)⟩)⟩)

theorem ok_X12_work (l : Launch) (D : va_G) (cA : Nat → ClassId) (sA : Nat → Nat) (fu : Nat) (s : Nat) (M : xM) {rr : Int32 × xM} (h : F_X12_work fu s M = some rr) : xMet l D cA sA yX12_work cX12_work 3 (some .int) xG (4 + 1) 0 0 [.inr (.inr (12, some s))] M (some (.inl rr.1)) rr.2 :=
  xmet_of (by decide +kernel) (Nat.le_of_ble_eq_true rfl) (fun p e s1 m ag below meth c0 A0 ad0 Z X hn hE => wx_X12_work X hn ⟨Nat.le_refl _, Nat.le_refl _⟩ hE fu s M h)
theorem hw_X12_work (l : Launch) (D : va_G) (cA : Nat → ClassId) (sA : Nat → Nat) (fu : Nat) {ρ : Type} {r0 : ρ} (kd1 : Nat) : ∀ (as : List xV) (M : xM) (k : Option xV → xM → Option ρ), w_X12_work fu as M k = some r0 → ∃ v M', xMet l D cA sA yX12_work cX12_work 3 (some .int) xG (4 + 1) 0 0 as M v M' ∧ k v M' = some r0 ∧ (kd1 ≠ 2 → ∃ a as', as = .inr (.inr (12, some a)) :: as') := by
  intro as M k h
  unfold w_X12_work at h
  replace h := pR_some h
  obtain ⟨o, as1, rfl, h⟩ := h
  replace h := bd_some h
  obtain ⟨s, rfl, h⟩ := h
  replace h := xe_some h
  obtain ⟨rfl, h⟩ := h
  obtain ⟨p1, hp, h⟩ := Option.bind_eq_some_iff.mp h
  exact ⟨_, _, ok_X12_work l D cA sA fu s M hp, h, fun _ => ⟨_, _, rfl⟩⟩
theorem cd_X12_write : Cond.code yX12_write cX12_write 4 (some .int) ∈ xG := (xg 1864 (by decide +kernel) (by decide +kernel))
theorem pr_X12_write : (∀ e ∈ pX12_write, xrow cX12_write 4 kdX12 flX12 0 false RX12 e) ∧ xnext pX12_write = true := xrows (by decide +kernel)
set_option maxRecDepth 100000 in
theorem wx_X12_write (X : xCtx p R S0 m ag c0 D cA A0 sA 4 cX12_write RX12 (.code yX12_write cX12_write 4 (some .int) :: xG) 0 0) (hi : meth.name = yX12_write.name) (hroom : 10 + 2 ≤ R.frames ∧ 60 * (10 + 2) ≤ R.locals) {rr : Int32 × xM} (hE : xEnd l D cA sA cX12_write 4 (some .int) R 0 0 (some (.inl rr.1)) rr.2 p e S0 m ag below meth c0 A0 M0 ad0 Z) (fu : Nat) (s : Nat) (x1 : Int32) (x2 : Int32) (x3 : Int32) (M : xM) (h : F_X12_write fu s x1 x2 x3 M = some rr) : xWx p l e R S0 m ag below meth c0 D cA A0 sA M0 ad0 4 Z 0 0 0 0 0 [(0, .inr (.inr (12, some s))), (1, .inl x1), (2, .inl x2), (3, .inl x3)] [] M := by
  rw [← q_X12_write fu s x1 x2 x3 M] at h
  have hT : ∀ w ∈ xG, w ∈ (Cond.code yX12_write cX12_write 4 (some .int) :: xG) := fun w hw => List.mem_cons_of_mem _ hw
  refine xrun_sound (nst := 0) (isInit := false) (kd := kdX12) X (xcls_mono hT xclsG) (xpool_mono hT plX12) (fun z => by cases z) (fun idx v hf => xkoE_mono hT (koX12_ok _ (xfind_mem hf))) (xents (ca := _) ?_) (endI hE).1 (endI hE).2 (xcuts (cu := _) ?_) pr_X12_write.1 pr_X12_write.2 _ _ _ _ _ _ _ _ (xat_ok pr_X12_write.1 pr_X12_write.2).1 (xat_ok pr_X12_write.1 pr_X12_write.2).2.1 (xat_ok pr_X12_write.1 pr_X12_write.2).2.2 h
  · exact (List.forall_mem_cons.mpr ⟨(xent_met X (ci := 12) hT cd_X12_within lk_X12_380 rfl (by decide) rfl (by decide +kernel) (fun z => absurd z (by decide)) (hw_X12_within l D cA sA fu 2 rfl) (fun z => absurd rfl z) (by constructor <;> omega) (by decide)), (List.forall_mem_cons.mpr ⟨(xent_met X (ci := 12) hT cd_X12_writes lk_X12_383 rfl (by decide) rfl (by decide +kernel) (fun z => absurd z (by decide)) (hw_X12_writes l D cA sA fu 0) (fun _ => ⟨by decide, fun _ => ⟨TX12, 29, rfl⟩⟩) (by constructor <;> omega) (by decide)), (fun _ h => nomatch h)⟩)⟩)
  · exact (fun _ h => nomatch h)

theorem ok_X12_write (l : Launch) (D : va_G) (cA : Nat → ClassId) (sA : Nat → Nat) (fu : Nat) (s : Nat) (x1 : Int32) (x2 : Int32) (x3 : Int32) (M : xM) {rr : Int32 × xM} (h : F_X12_write fu s x1 x2 x3 M = some rr) : xMet l D cA sA yX12_write cX12_write 4 (some .int) xG (10 + 1) 0 0 [.inr (.inr (12, some s)), .inl x1, .inl x2, .inl x3] M (some (.inl rr.1)) rr.2 :=
  xmet_of (by decide +kernel) (Nat.le_of_ble_eq_true rfl) (fun p e s1 m ag below meth c0 A0 ad0 Z X hn hE => wx_X12_write X hn ⟨Nat.le_refl _, Nat.le_refl _⟩ hE fu s x1 x2 x3 M h)
theorem hw_X12_write (l : Launch) (D : va_G) (cA : Nat → ClassId) (sA : Nat → Nat) (fu : Nat) {ρ : Type} {r0 : ρ} (kd1 : Nat) : ∀ (as : List xV) (M : xM) (k : Option xV → xM → Option ρ), w_X12_write fu as M k = some r0 → ∃ v M', xMet l D cA sA yX12_write cX12_write 4 (some .int) xG (10 + 1) 0 0 as M v M' ∧ k v M' = some r0 ∧ (kd1 ≠ 2 → ∃ a as', as = .inr (.inr (12, some a)) :: as') := by
  intro as M k h
  unfold w_X12_write at h
  replace h := pR_some h
  obtain ⟨o, as1, rfl, h⟩ := h
  replace h := bd_some h
  obtain ⟨s, rfl, h⟩ := h
  replace h := pI_some h
  obtain ⟨x1, as1, rfl, h⟩ := h
  replace h := pI_some h
  obtain ⟨x2, as1, rfl, h⟩ := h
  replace h := pI_some h
  obtain ⟨x3, as1, rfl, h⟩ := h
  replace h := xe_some h
  obtain ⟨rfl, h⟩ := h
  obtain ⟨p1, hp, h⟩ := Option.bind_eq_some_iff.mp h
  exact ⟨_, _, ok_X12_write l D cA sA fu s x1 x2 x3 M hp, h, fun _ => ⟨_, _, rfl⟩⟩
end XCON
