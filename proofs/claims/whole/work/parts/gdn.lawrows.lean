/-! ===== the law: its rows, sixty at a time (the kernel's memory) ===== -/
def kdL : List (Nat × Nat) := [(7, 0), (15, 1), (18, 1), (21, 0), (25, 0), (26, 0), (30, 0), (31, 0), (34, 0), (35, 0), (39, 0), (40, 0), (43, 0), (44, 0), (47, 0), (48, 0), (52, 0), (53, 0), (56, 0), (57, 0), (61, 0), (62, 0), (65, 0), (66, 0), (69, 0), (70, 0), (73, 0), (74, 0), (77, 0), (78, 0), (81, 0), (82, 0), (85, 0), (86, 0), (89, 0), (90, 0), (94, 0), (95, 0), (98, 0), (99, 0), (102, 0), (103, 0), (106, 0), (107, 0), (110, 0), (111, 0), (114, 0), (115, 0), (119, 0), (120, 0), (123, 0), (124, 0), (127, 0), (128, 0), (131, 0), (132, 0), (135, 0), (136, 0), (139, 0), (140, 0), (143, 0), (144, 0), (147, 0), (148, 0), (151, 0), (152, 0), (155, 0), (156, 0), (160, 0), (161, 0), (164, 0), (165, 0), (168, 0), (169, 2), (174, 0), (175, 0), (178, 0), (181, 0), (182, 0), (186, 0), (187, 0), (190, 0)]
theorem xchunk {α : Type} {f : α → Bool} {l : List α} {n m : Nat} (hn : 0 < n) (hl : l.length ≤ n * m) (h : ∀ k, k < m → ((l.drop (n * k)).take n).all f = true) : l.all f = true := by
  refine List.all_eq_true.mpr (fun e he => ?_)
  obtain ⟨i, hi⟩ := List.getElem?_of_mem he
  have hlt : i < l.length := (List.getElem?_eq_some_iff.mp hi).1
  have hk : i / n < m := Nat.div_lt_of_lt_mul (Nat.lt_of_lt_of_le hlt hl)
  have hm := Nat.mod_lt i hn
  have he2 : e ∈ (l.drop (n * (i / n))).take n := by
    refine List.mem_of_getElem? (i := i % n) ?_
    rw [List.getElem?_take, if_pos hm, List.getElem?_drop, Nat.div_add_mod]
    exact hi
  exact List.all_eq_true.mp (h _ hk) e he2
set_option maxRecDepth 100000 in
theorem prL_0 : ((pL_law.drop (60 * 0)).take 60).all (xrowB cL_law 7 kdL flL 0 false RL) = true := by decide +kernel
set_option maxRecDepth 100000 in
theorem prL_1 : ((pL_law.drop (60 * 1)).take 60).all (xrowB cL_law 7 kdL flL 0 false RL) = true := by decide +kernel
set_option maxRecDepth 100000 in
theorem prL_2 : ((pL_law.drop (60 * 2)).take 60).all (xrowB cL_law 7 kdL flL 0 false RL) = true := by decide +kernel
set_option maxRecDepth 100000 in
theorem prL_3 : ((pL_law.drop (60 * 3)).take 60).all (xrowB cL_law 7 kdL flL 0 false RL) = true := by decide +kernel
set_option maxRecDepth 100000 in
theorem prL_4 : ((pL_law.drop (60 * 4)).take 60).all (xrowB cL_law 7 kdL flL 0 false RL) = true := by decide +kernel
set_option maxRecDepth 100000 in
theorem prL_5 : ((pL_law.drop (60 * 5)).take 60).all (xrowB cL_law 7 kdL flL 0 false RL) = true := by decide +kernel
set_option maxRecDepth 100000 in
theorem prL_6 : ((pL_law.drop (60 * 6)).take 60).all (xrowB cL_law 7 kdL flL 0 false RL) = true := by decide +kernel
set_option maxRecDepth 100000 in
theorem prL_7 : ((pL_law.drop (60 * 7)).take 60).all (xrowB cL_law 7 kdL flL 0 false RL) = true := by decide +kernel
set_option maxRecDepth 100000 in
theorem prL_8 : ((pL_law.drop (60 * 8)).take 60).all (xrowB cL_law 7 kdL flL 0 false RL) = true := by decide +kernel
set_option maxRecDepth 100000 in
theorem prL_9 : ((pL_law.drop (60 * 9)).take 60).all (xrowB cL_law 7 kdL flL 0 false RL) = true := by decide +kernel
set_option maxRecDepth 100000 in
theorem prL_10 : ((pL_law.drop (60 * 10)).take 60).all (xrowB cL_law 7 kdL flL 0 false RL) = true := by decide +kernel
set_option maxRecDepth 100000 in
theorem prL_11 : ((pL_law.drop (60 * 11)).take 60).all (xrowB cL_law 7 kdL flL 0 false RL) = true := by decide +kernel
set_option maxRecDepth 100000 in
theorem prL_12 : ((pL_law.drop (60 * 12)).take 60).all (xrowB cL_law 7 kdL flL 0 false RL) = true := by decide +kernel
set_option maxRecDepth 100000 in
theorem prL_13 : ((pL_law.drop (60 * 13)).take 60).all (xrowB cL_law 7 kdL flL 0 false RL) = true := by decide +kernel
set_option maxRecDepth 100000 in
theorem prL_n : xnext pL_law = true := by decide +kernel
set_option maxRecDepth 100000 in
theorem prL_len : pL_law.length ≤ 60 * 14 := by decide +kernel
theorem prL_all : ∀ k, k < 14 → ((pL_law.drop (60 * k)).take 60).all (xrowB cL_law 7 kdL flL 0 false RL) = true := by
  intro k hk
  match k, hk with
  | 0, _ => exact prL_0
  | 1, _ => exact prL_1
  | 2, _ => exact prL_2
  | 3, _ => exact prL_3
  | 4, _ => exact prL_4
  | 5, _ => exact prL_5
  | 6, _ => exact prL_6
  | 7, _ => exact prL_7
  | 8, _ => exact prL_8
  | 9, _ => exact prL_9
  | 10, _ => exact prL_10
  | 11, _ => exact prL_11
  | 12, _ => exact prL_12
  | 13, _ => exact prL_13
  | k + 14, h => exact absurd h (by omega)
theorem pr_L_law : (∀ e ∈ pL_law, xrow cL_law 7 kdL flL 0 false RL e) ∧ xnext pL_law = true := xrows (by rw [xchunk (n := 60) (m := 14) (Nat.zero_lt_succ _) prL_len prL_all, prL_n]; rfl)
