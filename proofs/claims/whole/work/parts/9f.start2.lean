/-! ===== a start: both sides, what holds ===== -/
section
variable {M : xM} {D E X Y Z T N X' E' E0 Tc : xT} {C : xC} {R G G' : Nat → Int32} {fu b d L L' s o t k n m i j p q f l w nb nw a r g c e B K P Q : Nat} {x y z v u : Int32} {nt : Bool}
theorem st_kind (hk : k < 36) : startT C D 2 k = 0 := by unfold startT; rw [if_neg (by omega), if_neg (by omega), if_pos ⟨rfl, hk⟩]
theorem st_36 (hj : 3 ≤ j ∧ j ≤ 6) (hk : k < 36) : startT C D j k = -1 := by unfold startT; rw [if_neg (by omega), if_neg (by omega), if_neg (by omega), if_pos ⟨hj, hk⟩]
theorem st_0 (hk : k < 6) : startT C D 0 k = 0 := by unfold startT; rw [if_pos ⟨rfl, hk⟩]
theorem st_1 (hk : k < 6) : startT C D 1 k = i3 (C 0 1) := by unfold startT; rw [if_neg (by omega), if_pos ⟨rfl, hk⟩]
theorem st_9 (hk : k < 20) : startT C D 9 k = 0 := by unfold startT; rw [if_neg (by omega), if_neg (by omega), if_neg (by omega), if_neg (by omega), if_pos ⟨rfl, hk⟩]
theorem st_bit (hj : j = 11 ∨ j = 12) (hk : k < 5) : startT C D j k = 0 := by unfold startT; rw [if_neg (by omega), if_neg (by omega), if_neg (by omega), if_neg (by omega), if_neg (by omega), if_pos ⟨hj, hk⟩]
theorem st_141 : startT C D 14 1 = 1 := by unfold startT; rw [if_neg (by omega), if_neg (by omega), if_neg (by omega), if_neg (by omega), if_neg (by omega), if_neg (by omega), if_pos ⟨rfl, rfl⟩]
theorem st_14 (hk : k = 2 ∨ k = 3 ∨ k = 10 ∨ k = 11) : startT C D 14 k = 0 := by unfold startT; rw [if_neg (by omega), if_neg (by omega), if_neg (by omega), if_neg (by omega), if_neg (by omega), if_neg (by omega), if_neg (by omega), if_pos ⟨rfl, hk⟩]
theorem st_15 : startT C D 15 0 = i3 (C 0 0) ∧ startT C D 15 1 = i3 (C 0 1) ∧ startT C D 15 2 = i3 (C 0 0 * C 0 1) ∧ startT C D 15 3 = i3 (C 0 0 * C 0 1) ∧ startT C D 15 4 = -1 ∧ startT C D 15 5 = 0 ∧ startT C D 15 6 = 0 := by
  refine ⟨?_, ?_, ?_, ?_, ?_, ?_, ?_⟩ <;> rfl
theorem Rel_start (hB : CB C) : Rel C b (startT C D) (stX X b) := by
  have h36 := tot36 hB
  have z : ∀ k, b ≤ k → k < b + 502 → k ≠ b + 1 → k ≠ b + 2 → stX X b 95 k = 0 := fun k h1 h2 h3 h4 => by unfold stX; rw [if_neg (by omega), if_neg (by omega), if_neg (by omega), if_pos ⟨rfl, h1, h2⟩]
  have hbit : ∀ j, (j = 11 ∨ j = 12) → bitsAs 0 (startT C D j) := fun j hj => ⟨0, by omega, rfl, fun f hf => by rw [st_bit hj hf, Nat.zero_div]; rfl⟩
  refine ⟨?_, ?_, ?_, ?_, ?_, ?_, ?_, fun k hk => ?_, fun k hk => ?_, fun s hs => ?_⟩
  · rw [z _ (by omega) (by omega) (by omega) (by omega), st_14 (by omega)]
  · rw [st_15.2.2.2.2.1]; unfold stX; rw [if_neg (by omega), if_pos ⟨rfl, rfl⟩]
  · rw [st_141]; unfold stX; rw [if_neg (by omega), if_neg (by omega), if_pos ⟨rfl, rfl⟩]
  · rw [z _ (by omega) (by omega) (by omega) (by omega), st_14 (by omega)]
  · rw [z _ (by omega) (by omega) (by omega) (by omega)]; exact hbit 11 (Or.inl rfl)
  · rw [z _ (by omega) (by omega) (by omega) (by omega)]; exact hbit 12 (Or.inr rfl)
  · rw [z _ (by omega) (by omega) (by omega) (by omega), st_14 (by omega)]
  · rw [z _ (by omega) (by omega) (by omega) (by omega), st_0 hk]
  · rw [z _ (by omega) (by omega) (by omega) (by omega), st_9 hk]
  · have e := st_kind (C := C) (D := D) (show s < 36 by omega)
    rw [e]
    exact ⟨z _ (by omega) (by omega) (by omega) (by omega), fun q => absurd rfl q, fun q => absurd q (by decide)⟩
theorem cnt_all {p1 : Nat → Bool} : ∀ {n}, (∀ i, i < n → p1 i = true) → cnt p1 n = n
  | 0, _ => rfl
  | n + 1, h => by rw [cnt_s, h n (by omega), if_pos rfl, cnt_all (fun i hi => h i (by omega))]
theorem Inv_start (hB : CB C) : Inv C 0 (startT C D) := by
  have h36 := tot36 hB
  have h6 := hB.1
  have h61 := hB.2.1
  have hT : tot C = C 0 0 * C 0 1 := rfl
  have hls : lsN (startT C D) = 0 := by unfold lsN; rw [st_14 (by omega)]; rfl
  have hbs : bsN (startT C D) = 0 := by unfold bsN; rw [st_15.2.2.2.2.2.1]; rfl
  have hwp : wpN (startT C D) = 0 := by unfold wpN; rw [st_15.2.2.2.2.2.2]; rfl
  have hk : ∀ s, s < tot C → startT C D 2 s = 0 := fun s hs => st_kind (by omega)
  have hno : ∀ s, s < tot C → ¬ isN (startT C D) s := fun s hs q => (isN_ne q).1 (hk s hs)
  have hera : ∀ k, k < C 0 0 → eraN (startT C D) (C 0 1) k (C 0 1) = C 0 1 := fun k hk' => cnt_all (fun i hi => by
    have := blk (nw := C 0 1) hk'
    rw [hk _ (by omega)]; rfl)
  have heA : ∀ n, n ≤ C 0 0 → eraA (startT C D) (C 0 1) n = n * C 0 1 := by
    intro n
    induction n with
    | zero => intro _; rw [Nat.zero_mul]; rfl
    | succ n ih => intro hn; show eraA (startT C D) (C 0 1) n + eraN (startT C D) (C 0 1) n (C 0 1) = _; rw [ih (by omega), hera n (by omega), Nat.succ_mul]
  refine ⟨⟨h6, h61, st_15.1, st_15.2.1, st_15.2.2.1, Or.inl st_15.2.2.2.2.1, fun s hs => ?_⟩, ⟨?_, ?_, by omega, ?_, ?_, ?_, ?_, ?_, fun _ => hbs⟩, fun s hs => Or.inl ⟨hk s hs, st_36 (by omega) (by omega), st_36 (by omega) (by omega), st_36 (by omega) (by omega), st_36 (by omega) (by omega)⟩, fun s t hs ht hn => absurd hn (hno s hs), fun a ha => ?_, ⟨fun p hp => ?_, fun s hs q => ?_, fun s t i j hs ht q => ?_, fun s t i hs ht q => ?_⟩, ⟨Or.inr st_141, ⟨0, by omega, st_14 (by omega)⟩, fun f hf => ⟨Or.inl (st_bit (Or.inl rfl) hf), Or.inl (st_bit (Or.inr rfl) hf), fun q => ?_⟩⟩, ?_, fun k hk' => ⟨C 0 1, Nat.le_refl _, st_1 (by omega), fun i hi => ?_, Or.inr (Or.inr rfl)⟩⟩
  · have e := hk s hs
    rw [e]
    exact ⟨fun q => absurd q (by decide), fun q => absurd q (by decide), fun q => absurd q (by decide)⟩
  · rw [hls, st_14 (by omega)]; rfl
  · rw [hls]; exact Nat.le_refl _
  · rw [hbs, st_15.2.2.2.2.2.1]; rfl
  · rw [hwp, st_15.2.2.2.2.2.2]; rfl
  · rw [hbs, hls]; exact Nat.le_refl _
  · rw [hbs, hwp]; exact Nat.le_refl _
  · rw [hwp]; omega
  · rw [st_9 ha, hls]
    refine ⟨rfl, Nat.le_refl _, fun s hs q => ?_⟩
    rw [hk s hs] at q; exact absurd q (by decide)
  · rw [hwp] at hp; exact absurd hp (Nat.not_lt_zero _)
  · rw [hk s hs] at q; exact absurd q (by decide)
  · rw [hk s hs] at q; exact absurd q (by decide)
  · rw [hk s hs] at q; exact absurd q (by decide)
  · rw [st_bit (Or.inr rfl) hf] at q; exact absurd q (by decide)
  · rw [heA _ (Nat.le_refl _)]; exact st_15.2.2.2.1
  · have := blk (nw := C 0 1) hk'
    rw [hk _ (by omega), Nat.sub_self]
    exact ⟨fun _ => Nat.zero_le _, fun _ => rfl⟩
theorem InV_start : InV C (startT C D) := Or.inl (st_14 (by omega))
/-- a noted work starts so: the finder has looked -/
def startF (C : xC) (D : xT) : xT := fndW true C (startT C D)
theorem Inv_startF (hB : CB C) : Inv C 0 (startF C D) := Inv_fnd (Inv_start hB) true
theorem InV_startF (hB : CB C) : InV C (startF C D) := InV_fnd InV_start (Inv_start hB) true
theorem stF_142 : startF C D 14 2 = 0 := (fndW_lo (by omega)).trans (st_14 (by omega))
theorem InE_stF (hE : InE (startT C D) P K) : InE (startF C D) P K := (InE_fnd hE true).1
theorem stF_cuA : cutAs c (startF C D) N = cutAs c (startT C D) N := fndW_cuA
theorem Rel_move (hB : CB C) (hR : Rel C p D X) : Rel C q D (mvX X p q 502) := by
  have h36 := tot36 hB
  have m : ∀ k, k < 502 → mvX X p q 502 95 (q + k) = X 95 (p + k) := fun k hk => by unfold mvX; rw [if_neg (by omega), if_pos ⟨rfl, by omega, by omega⟩, show q + k - q = k by omega]
  obtain ⟨g0, g1, g2, g3, g4, g5, g6, g7, g8, g9⟩ := hR
  refine ⟨?_, ?_, ?_, ?_, ?_, ?_, ?_, fun k hk => ?_, fun k hk => ?_, fun s hs => ?_⟩
  · exact (m 0 (by omega)).trans g0
  · exact (m 1 (by omega)).trans g1
  · exact (m 2 (by omega)).trans g2
  · exact (m 3 (by omega)).trans g3
  · rw [m 4 (by omega)]; exact g4
  · rw [m 5 (by omega)]; exact g5
  · exact (m 7 (by omega)).trans g6
  · rw [Nat.add_assoc, m (8 + k) (by omega), ← Nat.add_assoc]; exact g7 k hk
  · rw [Nat.add_assoc, m (14 + k) (by omega), ← Nat.add_assoc]; exact g8 k hk
  · have ms : ∀ c, c < 13 → mvX X p q 502 95 (q + 34 + 13 * s + c) = X 95 (p + 34 + 13 * s + c) := fun c hc => by
      rw [show q + 34 + 13 * s + c = q + (34 + 13 * s + c) by omega, m _ (by omega), show p + (34 + 13 * s + c) = p + 34 + 13 * s + c by omega]
    obtain ⟨u1, u2, u3⟩ := g9 s hs
    refine ⟨(ms 0 (by omega)).trans u1, fun w => ?_, fun w n hn hl => ?_⟩
    · rw [ms 1 (by omega), ms 2 (by omega), ms 3 (by omega), ms 4 (by omega)]; exact u2 w
    · rw [ms (5 + 2 * n) (by omega), ms (6 + 2 * n) (by omega)]; exact u3 w n hn hl
end
