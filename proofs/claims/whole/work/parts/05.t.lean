def pX0_freshBlock : List xE := [(0, 0, 1, 0, (-1), [], .iconst (-1)),
  (0, 1, 1, 0, 0, [], .istore_n 1),
  (0, 2, 1, 0, 0, [], .iconst 0),
  (0, 3, 1, 0, 0, [], .istore_n 2),
  (1, 4, 1, 0, 0, [], .iload_n 2),
  (0, 5, 1, 0, 0, [], .aload_n 0),
  (0, 6, 3, 0, 0, [], .getfield 54),
  (0, 9, 3, 69, 0, [], .if_icmp .ge 60),
  (0, 12, 1, 0, 0, [], .aload_n 0),
  (0, 13, 3, 0, 0, [], .getfield 58),
  (0, 16, 3, 36, 0, [], .ifCond .le 20),
  (0, 19, 1, 0, 0, [], .aload_n 0),
  (0, 20, 3, 0, 0, [], .getfield 15),
  (0, 23, 1, 0, 0, [], .iload_n 2),
  (0, 24, 1, 0, 0, [], .iaload),
  (0, 25, 1, 0, 0, [], .aload_n 0),
  (0, 26, 3, 0, 0, [], .getfield 58),
  (0, 29, 3, 36, 0, [], .if_icmp .ne 7),
  (0, 32, 1, 0, 1, [], .iconst 1),
  (0, 33, 3, 37, 0, [], .goto 4),
  (0, 36, 1, 0, 0, [], .iconst 0),
  (1, 37, 1, 0, 0, [], .istore_n 3),
  (0, 38, 1, 0, 0, [], .iload_n 3),
  (0, 39, 3, 63, 0, [], .ifCond .eq 24),
  (0, 42, 1, 0, 0, [], .iload_n 1),
  (0, 43, 3, 61, 0, [], .ifCond .lt 18),
  (0, 46, 1, 0, 0, [], .aload_n 0),
  (0, 47, 3, 0, 0, [], .getfield 9),
  (0, 50, 1, 0, 0, [], .iload_n 2),
  (0, 51, 1, 0, 0, [], .iaload),
  (0, 52, 1, 0, 0, [], .aload_n 0),
  (0, 53, 3, 0, 0, [], .getfield 9),
  (0, 56, 1, 0, 0, [], .iload_n 1),
  (0, 57, 1, 0, 0, [], .iaload),
  (0, 58, 3, 63, 0, [], .if_icmp .ge 5),
  (0, 61, 1, 0, 0, [], .iload_n 2),
  (0, 62, 1, 0, 0, [], .istore_n 1),
  (0, 63, 3, 0, 1, [], .iinc 2 1),
  (0, 66, 3, 4, 0, [], .goto (-62)),
  (0, 69, 1, 0, 0, [], .iload_n 1),
  (0, 70, 1, 0, 0, [], .ireturn)]
def J_X0_freshBlock_37 (fu : Nat) (k4 : Nat → Int32 → Int32 → xM → Option (Int32 × xM)) (s : Nat) (x1 : Int32) (x2 : Int32) (y0 : Int32) (M : xM) : Option (Int32 × xM) :=
  if y0 = 0 then
    k4 s x1 (x2 + 1) M
  else
    if x1 < 0 then
      k4 s x2 (x2 + 1) M
    else
      (gR M 0 s 7).bind fun a_1 =>
      gd (xin x2 (gN M 20 a_1)) <|
      (gR M 0 s 7).bind fun a_2 =>
      gd (xin x1 (gN M 20 a_2)) <|
      if (gI M 20 a_2 (xi x1)) ≤ (gI M 20 a_1 (xi x2)) then
        k4 s x1 (x2 + 1) M
      else
        k4 s x2 (x2 + 1) M
set_option maxRecDepth 100000 in
theorem q_X0_freshBlock_37 (fu : Nat) (k4 : Nat → Int32 → Int32 → xM → Option (Int32 × xM)) (s : Nat) (x1 : Int32) (x2 : Int32) (y0 : Int32) (M : xM) :
    xrun pX0_freshBlock flX0 koX0 nwX0 [] [(4, fun bc bs ls st M => xz bc bs (lR ls 0 0 fun o => o.bind fun s => lI ls 1 fun x1 => lI ls 2 fun x2 => xe st (k4 s x1 x2 M)))] xrtI 43 (xat 37 pX0_freshBlock) 0 0 [(0, .inr (.inr (0, some s))), (1, .inl x1), (2, .inl x2)] [.inl y0] M = J_X0_freshBlock_37 fu k4 s x1 x2 y0 M := rfl
def L_X0_freshBlock_4 (fu : Nat) : Nat → Nat → Int32 → Int32 → xM → Option (Int32 × xM)
  | 0, _, _, _, _ => none
  | n + 1, s, x1, x2, M =>
    if (gI M 0 s 0) ≤ x2 then
      (some (x1, M))
    else
      if (gI M 0 s 1) ≤ 0 then
        J_X0_freshBlock_37 fu (L_X0_freshBlock_4 fu n) s x1 x2 0 M
      else
        (gR M 0 s 8).bind fun a_1 =>
        gd (xin x2 (gN M 20 a_1)) <|
        if ¬ (gI M 20 a_1 (xi x2)) = (gI M 0 s 1) then
          J_X0_freshBlock_37 fu (L_X0_freshBlock_4 fu n) s x1 x2 0 M
        else
          J_X0_freshBlock_37 fu (L_X0_freshBlock_4 fu n) s x1 x2 1 M
set_option maxRecDepth 100000 in
theorem q_X0_freshBlock_4 (fu : Nat) (n : Nat) (s : Nat) (x1 : Int32) (x2 : Int32) (M : xM) :
    xrun pX0_freshBlock flX0 koX0 nwX0 [] [(37, fun bc bs ls st M => xz bc bs (lR ls 0 0 fun o => o.bind fun s => lI ls 1 fun x1 => lI ls 2 fun x2 => pI st fun y0 st => xe st (J_X0_freshBlock_37 fu (L_X0_freshBlock_4 fu n) s x1 x2 y0 M)))] xrtI 43 (xat 4 pX0_freshBlock) 0 0 [(0, .inr (.inr (0, some s))), (1, .inl x1), (2, .inl x2)] [] M = L_X0_freshBlock_4 fu (n + 1) s x1 x2 M := rfl
def F_X0_freshBlock (fu : Nat) (s : Nat) (M : xM) : Option (Int32 × xM) :=
  L_X0_freshBlock_4 fu fu s ((-1)) 0 M
set_option maxRecDepth 100000 in
theorem q_X0_freshBlock (fu : Nat) (s : Nat) (M : xM) :
    xrun pX0_freshBlock flX0 koX0 nwX0 [] [(4, fun bc bs ls st M => xz bc bs (lR ls 0 0 fun o => o.bind fun s => lI ls 1 fun x1 => lI ls 2 fun x2 => xe st (L_X0_freshBlock_4 fu fu s x1 x2 M)))] xrtI 43 (xat 0 pX0_freshBlock) 0 0 [(0, .inr (.inr (0, some s)))] [] M = F_X0_freshBlock fu s M := rfl
def w_X0_freshBlock (fu : Nat) {ρ : Type} (as : List xV) (M : xM) (k : Option xV → xM → Option ρ) : Option ρ := pR 0 as fun o as => o.bind fun s => xe as ((F_X0_freshBlock fu s M).bind fun p => k (some (.inl p.1)) p.2)
def pX0_firstErased : List xE := [(0, 0, 1, 0, 0, [], .iload_n 1),
  (0, 1, 1, 0, 0, [], .aload_n 0),
  (0, 2, 3, 0, 0, [], .getfield 58),
  (0, 5, 1, 0, 0, [], .imul),
  (0, 6, 1, 0, 0, [], .istore_n 2),
  (1, 7, 1, 0, 0, [], .iload_n 2),
  (0, 8, 1, 0, 0, [], .iload_n 1),
  (0, 9, 1, 0, 1, [], .iconst 1),
  (0, 10, 1, 0, 0, [], .iadd),
  (0, 11, 1, 0, 0, [], .aload_n 0),
  (0, 12, 3, 0, 0, [], .getfield 58),
  (0, 15, 1, 0, 0, [], .imul),
  (0, 16, 3, 36, 0, [], .if_icmp .ge 20),
  (0, 19, 1, 0, 0, [], .aload_n 0),
  (0, 20, 3, 0, 0, [], .getfield 18),
  (0, 23, 1, 0, 0, [], .iload_n 2),
  (0, 24, 1, 0, 0, [], .iaload),
  (0, 25, 3, 30, 0, [], .ifCond .ne 5),
  (0, 28, 1, 0, 0, [], .iload_n 2),
  (0, 29, 1, 0, 0, [], .ireturn),
  (0, 30, 3, 0, 1, [], .iinc 2 1),
  (0, 33, 3, 7, 0, [], .goto (-26)),
  (0, 36, 1, 0, (-1), [], .iconst (-1)),
  (0, 37, 1, 0, 0, [], .ireturn)]
def L_X0_firstErased_7 (fu : Nat) : Nat → Nat → Int32 → Int32 → xM → Option (Int32 × xM)
  | 0, _, _, _, _ => none
  | n + 1, s, x1, x2, M =>
    if ((x1 + 1) * (gI M 0 s 1)) ≤ x2 then
      (some ((-1), M))
    else
      (gR M 0 s 9).bind fun a_1 =>
      gd (xin x2 (gN M 20 a_1)) <|
      if ¬ (gI M 20 a_1 (xi x2)) = 0 then
        L_X0_firstErased_7 fu n s x1 (x2 + 1) M
      else
        (some (x2, M))
set_option maxRecDepth 100000 in
theorem q_X0_firstErased_7 (fu : Nat) (n : Nat) (s : Nat) (x1 : Int32) (x2 : Int32) (M : xM) :
    xrun pX0_firstErased flX0 koX0 nwX0 [] [(7, fun bc bs ls st M => xz bc bs (lR ls 0 0 fun o => o.bind fun s => lI ls 1 fun x1 => lI ls 2 fun x2 => xe st (L_X0_firstErased_7 fu n s x1 x2 M)))] xrtI 26 (xat 7 pX0_firstErased) 0 0 [(0, .inr (.inr (0, some s))), (1, .inl x1), (2, .inl x2)] [] M = L_X0_firstErased_7 fu (n + 1) s x1 x2 M := rfl
def F_X0_firstErased (fu : Nat) (s : Nat) (x1 : Int32) (M : xM) : Option (Int32 × xM) :=
  let x2_1 : Int32 := x1 * (gI M 0 s 1)
  L_X0_firstErased_7 fu fu s x1 x2_1 M
set_option maxRecDepth 100000 in
theorem q_X0_firstErased (fu : Nat) (s : Nat) (x1 : Int32) (M : xM) :
    xrun pX0_firstErased flX0 koX0 nwX0 [] [(7, fun bc bs ls st M => xz bc bs (lR ls 0 0 fun o => o.bind fun s => lI ls 1 fun x1 => lI ls 2 fun x2 => xe st (L_X0_firstErased_7 fu fu s x1 x2 M)))] xrtI 26 (xat 0 pX0_firstErased) 0 0 [(0, .inr (.inr (0, some s))), (1, .inl x1)] [] M = F_X0_firstErased fu s x1 M := rfl
def w_X0_firstErased (fu : Nat) {ρ : Type} (as : List xV) (M : xM) (k : Option xV → xM → Option ρ) : Option ρ := pR 0 as fun o as => o.bind fun s => pI as fun x1 as => xe as ((F_X0_firstErased fu s x1 M).bind fun p => k (some (.inl p.1)) p.2)
def pX0_takeSlot : List xE := [(0, 0, 1, 0, 0, [], .aload_n 0),
  (0, 1, 3, 0, 0, [], .getfield 67),
  (0, 4, 3, 19, 0, [], .ifCond .lt 15),
  (0, 7, 1, 0, 0, [], .aload_n 0),
  (0, 8, 3, 0, 0, [], .getfield 15),
  (0, 11, 1, 0, 0, [], .aload_n 0),
  (0, 12, 3, 0, 0, [], .getfield 67),
  (0, 15, 1, 0, 0, [], .iaload),
  (0, 16, 3, 35, 0, [], .ifCond .ne 19),
  (1, 19, 1, 0, 0, [], .aload_n 0),
  (0, 20, 3, 0, 0, [], .invokevirtual 86),
  (0, 23, 1, 0, 0, [], .istore_n 1),
  (0, 24, 1, 0, 0, [], .iload_n 1),
  (0, 25, 3, 30, 0, [], .ifCond .ge 5),
  (0, 28, 1, 0, (-1), [], .iconst (-1)),
  (0, 29, 1, 0, 0, [], .ireturn),
  (0, 30, 1, 0, 0, [], .aload_n 0),
  (0, 31, 1, 0, 0, [], .iload_n 1),
  (0, 32, 3, 0, 0, [], .putfield 67),
  (1, 35, 1, 0, 0, [], .aload_n 0),
  (0, 36, 1, 0, 0, [], .aload_n 0),
  (0, 37, 3, 0, 0, [], .getfield 67),
  (0, 40, 3, 0, 0, [], .invokevirtual 90),
  (0, 43, 1, 0, 0, [], .istore_n 1),
  (0, 44, 1, 0, 0, [], .iload_n 1),
  (0, 45, 3, 71, 0, [], .ifCond .lt 26),
  (0, 48, 1, 0, 0, [], .aload_n 0),
  (0, 49, 3, 0, 0, [], .getfield 15),
  (0, 52, 1, 0, 0, [], .aload_n 0),
  (0, 53, 3, 0, 0, [], .getfield 67),
  (0, 56, 1, 0, 0, [], .dup2),
  (0, 57, 1, 0, 0, [], .iaload),
  (0, 58, 1, 0, 1, [], .iconst 1),
  (0, 59, 1, 0, 0, [], .isub),
  (0, 60, 1, 0, 0, [], .iastore),
  (0, 61, 1, 0, 0, [], .aload_n 0),
  (0, 62, 1, 0, 0, [], .dup),
  (0, 63, 3, 0, 0, [], .getfield 64),
  (0, 66, 1, 0, 1, [], .iconst 1),
  (0, 67, 1, 0, 0, [], .isub),
  (0, 68, 3, 0, 0, [], .putfield 64),
  (0, 71, 1, 0, 0, [], .iload_n 1),
  (0, 72, 1, 0, 0, [], .ireturn)]
def J_X0_takeSlot_35 (fu : Nat) (s : Nat) (M : xM) : Option (Int32 × xM) :=
  (F_X0_firstErased fu s (gI M 0 s 4) M).bind fun p_1 =>
  if p_1.1 < 0 then
    (some (p_1.1, p_1.2))
  else
    (gR p_1.2 0 s 8).bind fun a_2 =>
    gd (xin (gI p_1.2 0 s 4) (gN p_1.2 20 a_2)) <|
    (gR p_1.2 0 s 8).bind fun a_3 =>
    gd (xin (gI p_1.2 0 s 4) (gN p_1.2 20 a_3)) <|
    let M_4 := sI p_1.2 20 a_3 (xi (gI p_1.2 0 s 4)) ((gI p_1.2 20 a_2 (xi (gI p_1.2 0 s 4))) - 1)
    let M_5 := sI M_4 0 s 3 ((gI M_4 0 s 3) - 1)
    (some (p_1.1, M_5))
set_option maxRecDepth 100000 in
theorem q_X0_takeSlot_35 (fu : Nat) (s : Nat) (M : xM) :
    xrun pX0_takeSlot flX0 koX0 nwX0 [(90, 2, 0, 0, w_X0_firstErased fu)] [] xrtI 45 (xat 35 pX0_takeSlot) 0 0 [(0, .inr (.inr (0, some s)))] [] M = J_X0_takeSlot_35 fu s M := rfl
def J_X0_takeSlot_19 (fu : Nat) (s : Nat) (M : xM) : Option (Int32 × xM) :=
  (F_X0_freshBlock fu s M).bind fun p_1 =>
  if 0 ≤ p_1.1 then
    let M_2 := sI p_1.2 0 s 4 p_1.1
    J_X0_takeSlot_35 fu s M_2
  else
    (some ((-1), p_1.2))
set_option maxRecDepth 100000 in
theorem q_X0_takeSlot_19 (fu : Nat) (s : Nat) (M : xM) :
    xrun pX0_takeSlot flX0 koX0 nwX0 [(86, 1, 0, 0, w_X0_freshBlock fu)] [(35, fun bc bs ls st M => xz bc bs (lR ls 0 0 fun o => o.bind fun s => xe st (J_X0_takeSlot_35 fu s M)))] xrtI 45 (xat 19 pX0_takeSlot) 0 0 [(0, .inr (.inr (0, some s)))] [] M = J_X0_takeSlot_19 fu s M := rfl
def F_X0_takeSlot (fu : Nat) (s : Nat) (M : xM) : Option (Int32 × xM) :=
  if (gI M 0 s 4) < 0 then
    J_X0_takeSlot_19 fu s M
  else
    (gR M 0 s 8).bind fun a_1 =>
    gd (xin (gI M 0 s 4) (gN M 20 a_1)) <|
    if ¬ (gI M 20 a_1 (xi (gI M 0 s 4))) = 0 then
      J_X0_takeSlot_35 fu s M
    else
      J_X0_takeSlot_19 fu s M
set_option maxRecDepth 100000 in
theorem q_X0_takeSlot (fu : Nat) (s : Nat) (M : xM) :
    xrun pX0_takeSlot flX0 koX0 nwX0 [] [(19, fun bc bs ls st M => xz bc bs (lR ls 0 0 fun o => o.bind fun s => xe st (J_X0_takeSlot_19 fu s M))),
    (35, fun bc bs ls st M => xz bc bs (lR ls 0 0 fun o => o.bind fun s => xe st (J_X0_takeSlot_35 fu s M)))] xrtI 45 (xat 0 pX0_takeSlot) 0 0 [(0, .inr (.inr (0, some s)))] [] M = F_X0_takeSlot fu s M := rfl
def w_X0_takeSlot (fu : Nat) {ρ : Type} (as : List xV) (M : xM) (k : Option xV → xM → Option ρ) : Option ρ := pR 0 as fun o as => o.bind fun s => xe as ((F_X0_takeSlot fu s M).bind fun p => k (some (.inl p.1)) p.2)
