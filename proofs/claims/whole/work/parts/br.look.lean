/-! ===== look: both sides ===== -/
section
variable {M M' M1 M3 N N' : xM} {D E S T X X' : xT} {C : xC} {R : Nat → Int32} {d fu n m i j o p q a c k l s t w K P L L' b b' B B' f e F g l0 : Nat} {u v x y r z lo hi hh ff : Int32} {gg Bv Sv : Nat → Int32} {nt : Bool} {W A : Nat → Nat} {V : Nat → Nat → Int32} {φ ok : Nat → Bool} {mx mx' : Nat → Nat}
theorem lkF_cg (h : ∀ k, k < 20 → mx k = mx' k) : ∀ k, k ≤ 20 → lkF l0 mx ok k = lkF l0 mx' ok k
  | 0, _ => rfl
  | k + 1, hk => by
    rw [lkF_s, lkF_s, lkF_cg h k (by omega), h k (by omega)]
theorem InE_ft (hE : InE D P K) : InE (ftT D φ K) P K := by
  obtain ⟨a1, a2, a3, a4, a5, a6, a7, a8⟩ := hE
  refine ⟨a1, a2, (ftT_o (by omega)).trans a3, (ftT_o (by omega)).trans a4, fun p hp => ?_, fun m hm => ?_, fun m o hm ho hh => ?_, fun m hm => ?_⟩
  · rw [ftT_o (by omega)]; exact a5 p hp
  · rw [ftT_o (by omega), a6 m hm]
    exact congrArg i3 (cnt_congr (fun p hp => by rw [ftT_o (by omega)]))
  · refine a7 m o hm ho (fun a ha => ?_)
    have := hh a ha
    rw [ftT_o (by omega), ftT_o (by omega)] at this
    exact this
  · obtain ⟨p, p1, p2⟩ := a8 m hm
    exact ⟨p, p1, by rw [ftT_o (by omega)]; exact p2⟩
theorem sl_ft : slN (ftT D φ K) P K φ p k = slN D P K φ p k := by
  have h20 : ∀ i, ftT D φ K 20 i = D 20 i := fun i => ftT_o (by omega)
  have h22 : ∀ i, ftT D φ K 22 i = D 22 i := fun i => ftT_o (by omega)
  unfold slN tmN
  simp only [h20, h22]
theorem JB_mx (hB : CB C) (hn : n ≤ 24) (hE : InE (tb 2 N) (wkP C R a W V D n) K) (hj : JB C R a n W V D M N) (hp : p < 20) :
    msF (fun q => sfB A Bv Sv (NS (wkN C R a W V D n) q) m) (fun q => xi (NS (wkN C R a W V D n) q p + 1)) (wkP C R a W V D n) = maF (fun k => sfB A Bv Sv (fun a => tb 2 N 20 (k * 20 + a)) m) (slN (tb 2 N) (wkP C R a W V D n) K (fun k => sfB A Bv Sv (fun a => tb 2 N 20 (k * 20 + a)) m) p) K := by
  obtain ⟨t1, t2, t3⟩ := InE_t hE
  have hNS := JB_NS hj
  refine ms_ma (f := fun q => xi (tb 2 N 22 q)) t2 t3 (fun q hq => ?_) (fun q hq => ?_)
  · rw [← hNS]; rfl
  · unfold slN
    rw [sum_all t1 t2]
    refine cnt_congr (fun o ho => ?_)
    rw [← hNS]
    show (sfB A Bv Sv (fun a => tb 2 N 20 (xi (tb 2 N 22 o) * 20 + a)) m && decide (NS (tb 2 N) o p = NS (tb 2 N) q p)) = (sfB A Bv Sv (NS (tb 2 N) o) m && decide (xi (NS (tb 2 N) o p + 1) = xi (NS (tb 2 N) q p + 1)))
    obtain ⟨m1, u1, u2⟩ := NS_ok (R := R) (a := a) (W := W) (V := V) (c := o + 1) hB hn hj.2.1 (by omega) (by omega) hp
    obtain ⟨m2, v1, v2⟩ := NS_ok (R := R) (a := a) (W := W) (V := V) (c := q + 1) hB hn hj.2.1 (by omega) (by omega) hp
    rw [show o + 1 - 1 = o by omega, ← hNS] at u2
    rw [show q + 1 - 1 = q by omega, ← hNS] at v2
    have e1 : decide (NS (tb 2 N) o p = NS (tb 2 N) q p) = decide (xi (NS (tb 2 N) o p + 1) = xi (NS (tb 2 N) q p + 1)) := by
      refine decide_eq_decide.mpr ⟨fun z => by rw [z], fun z => ?_⟩
      rw [u2, v2, xi_i3 (by omega), xi_i3 (by omega)] at z
      have : NS (tb 2 N) o p + 1 = NS (tb 2 N) q p + 1 := by rw [u2, v2, z]
      exact (Int32.add_left_inj 1).mp this
    rw [e1]
    rfl
theorem op_look (hS : SimP C R a w n W V B M) (hf : 1100 < fu) : Both C R a w n W V B (F_X11_look fu 0) (F_X12_look fu 0) M := by
  obtain ⟨s1, s2, s3, s4, s5, s6, s7, s8, s9, s10, ⟨m, A, Bv, Sv, c1, c2⟩, s12, s13, s14, s15⟩ := id hS
  have h := s1.1
  refine op_jd hS hf (fun N D e1 e2 => ?_)
  obtain ⟨K, hK1, hK2⟩ := JB_E s2 s9.2.1 e2
  have hP := hK1.1
  have hSe : SeenC 0 44 45 6 m A Bv Sv N := SeenC_bs e2.1.2.2.1 (bs_20 (by omega)) (bs_20 (by omega)) (bs_22 (by omega)) (by omega) (by omega) c1
  have ef := e_fitting (fu := fu) (d := 2) (D := tb 2 N) e2.1.1 (by omega) hSe hK1 (by omega) rfl
  rw [emb_tb, JB_cuts s2 hK1 e2] at ef
  have hCN : Cfg C R a N := Cfg_bs e2.1.2.2.1 s1.2.1 s3
  have hl0 := cnt_le (fun p => sfB A Bv Sv (NS (wkN C R a W V D n) p) m) (wkP C R a W V D n)
  have hmx := fun p (hp : p < 20) => JB_mx (A := A) (Bv := Bv) (Sv := Sv) (m := m) s2 s9.2.1 hK1 e2 hp
  have eb := e_best12 (fu := fu) (d := 2) (a := a) (φ := fun k => sfB A Bv Sv (fun a => tb 2 N 20 (k * 20 + a)) m) (l0 := cnt (fun p => sfB A Bv Sv (NS (wkN C R a W V D n) p) m) (wkP C R a W V D n)) e2.1.1 (by omega) s1.2.1 hCN (InE_ft (φ := fun k => sfB A Bv Sv (fun a => tb 2 N 20 (k * 20 + a)) m) hK1) (by omega) (fun k hk => by unfold ftT; rw [if_pos ⟨rfl, hk⟩]) (by omega)
  rw [lkF_cg (mx' := fun p => msF (fun q => sfB A Bv Sv (NS (wkN C R a W V D n) q) m) (fun q => xi (NS (wkN C R a W V D n) q p + 1)) (wkP C R a W V D n)) (fun p hp => by
    rw [hmx p hp]
    exact congrArg (fun s => maF _ s K) (funext (fun k => sl_ft.symm))) 20 (Nat.le_refl _)] at eb
  refine ⟨(lkF (cnt (fun p => sfB A Bv Sv (NS (wkN C R a W V D n) p) m) (wkP C R a W V D n)) (fun p => msF (fun q => sfB A Bv Sv (NS (wkN C R a W V D n) q) m) (fun q => xi (NS (wkN C R a W V D n) q p + 1)) (wkP C R a W V D n)) (okP C) 20).2, ftT (tb 2 N) (fun k => sfB A Bv Sv (fun a => tb 2 N 20 (k * 20 + a)) m) K, ?_, fun j k hj => ftT_o hj, fun N1 X' M' h0 h1 hE hm k1 k2 k3 k4 k5 => ?_⟩
  · unfold F_X11_look
    rw [l11_0_9 h, s1.2.2.2.1, s1.2.2.2.2.2.1]
    simp only [Option.bind_some]
    rw [e1]
    simp only [Option.bind_some]
    rw [l11_0_9 e2.1.1]
    simp only [Option.bind_some]
    rw [l5_0_0 e2.1.1, l11_0_8 e2.1.1, show gR N 11 0 1 = some a from (e2.1.2.2.2.2.1 11 0 1 (by omega)).trans s1.2.2.2.1]
    simp only [Option.bind_some]
    unfold F_X3_bestPage
    rw [ef]
    simp only [Option.bind_some]
    rw [eb]
    rfl
  · have hS' := Seen_row (fun k q1 q2 => k5 k (by omega)) c2
    obtain ⟨X'', z1, z2⟩ := t_look14 (fu := fu) (l0 := cnt (fun p => sfB A Bv Sv (NS (wkN C R a W V D n) p) m) (wkP C R a W V D n)) h1 s2 hE hf rfl (by omega) 20 0 fu X' (by omega) (by omega) k4 k2 k3 hS'
    refine ⟨X'', ?_, z2⟩
    rw [hm]
    unfold F_X12_look F_X12_cutsNow
    simp only [sI_th]
    rw [k1]
    simp only [Option.bind_some]
    rw [t_cutsNow8 h1 s2 hE k2 k3 hS' hf]
    simp only [Option.bind_some]
    exact z1
end
