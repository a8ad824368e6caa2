section
variable {M : xM} {D E X : xT} {C : xC} {R : Nat → Int32} {fu n m o p q a c k l s K P : Nat} {W : Nat → Nat} {V : Nat → Nat → Int32}
/-- as many different ends as maps are noted -/
theorem t_ends13 (h : Lay M) (hB : CB C) (hn : n ≤ 24) (hE : InE (startT C D) 0 0) (hr : Ran C R a n W V D X M) (hW : WkAs n W V X) (hf : 1100 < fu) (hEn : InE (wkN C R a W V D n) (wkP C R a W V D n) K) :
    L_X12_ends_13 fu fu 0 0 1 (mmb X M) = some (i3 K, mmb X M) := by
  obtain ⟨hPl, -⟩ := wkP_le (R := R) (a := a) (W := W) (V := V) hB hn hE
  have h7 := hr.1 n (Nat.le_refl _)
  have key := lpc (fun l i x => L_X12_ends_13 fu l 0 x (i3 (i + 1)) (mmb X M)) (fun i => i3 (cnt (firstB (fun p => xi (wkN C R a W V D n 22 p))) i)) (wkP C R a W V D n) (some (i3 K, mmb X M)) ?_ ?_ fu 0 (by omega) (by omega)
  · exact key
  · intro l i hi
    show L_X12_ends_13 fu (l + 1) 0 (i3 (cnt (firstB (fun p => xi (wkN C R a W V D n 22 p))) i)) (i3 (i + 1)) (mmb X M) = L_X12_ends_13 fu l 0 (i3 (cnt (firstB (fun p => xi (wkN C R a W V D n 22 p))) (i + 1))) (i3 (i + 1 + 1)) (mmb X M)
    conv => lhs; unfold L_X12_ends_13
    rw [t_putsAll h hW h7]
    simp only [Option.bind_some]
    rw [if_neg (fun q => by have := (i3_lt (by omega) (by omega)).mp q; omega)]
    have := t_ends26 (kk := L_X12_ends_13 fu l) (fu := fu) (k := cnt (firstB (fun p => xi (wkN C R a W V D n 22 p))) i) (c := i + 1) h hB hn hE hr (by omega) (by omega) i 1 fu (by omega) (by omega) (Nat.le_refl _) (fun t ht => absurd ht (by omega))
    rw [show (1 : Int32) = i3 1 from rfl] at this ⊢
    rw [this, show i + 1 - 1 = i by omega, cnt_s]
    congr 2
    split <;> rfl
  · intro l
    show L_X12_ends_13 fu (l + 1) 0 (i3 (cnt (firstB (fun p => xi (wkN C R a W V D n 22 p))) (wkP C R a W V D n))) (i3 (wkP C R a W V D n + 1)) (mmb X M) = _
    conv => lhs; unfold L_X12_ends_13
    rw [t_putsAll h hW h7]
    simp only [Option.bind_some]
    rw [if_pos ((i3_lt (by omega) (by omega)).mpr (by omega)), ends_cnt hEn]
end
