def pJ6_bitCount_0f7a4 : List xE := [(0, 0, 1, 0, 0, [], .iload_n 0),
  (0, 1, 1, 0, 0, [], .iload_n 0),
  (0, 2, 1, 0, 1, [], .iconst 1),
  (0, 3, 1, 0, 0, [], .iushr),
  (0, 4, 3, 0, 0, [], .ldc_w 265),
  (0, 7, 1, 0, 0, [], .iand),
  (0, 8, 1, 0, 0, [], .isub),
  (0, 9, 1, 0, 0, [], .istore_n 0),
  (0, 10, 1, 0, 0, [], .iload_n 0),
  (0, 11, 3, 0, 0, [], .ldc_w 266),
  (0, 14, 1, 0, 0, [], .iand),
  (0, 15, 1, 0, 0, [], .iload_n 0),
  (0, 16, 1, 0, 2, [], .iconst 2),
  (0, 17, 1, 0, 0, [], .iushr),
  (0, 18, 3, 0, 0, [], .ldc_w 266),
  (0, 21, 1, 0, 0, [], .iand),
  (0, 22, 1, 0, 0, [], .iadd),
  (0, 23, 1, 0, 0, [], .istore_n 0),
  (0, 24, 1, 0, 0, [], .iload_n 0),
  (0, 25, 1, 0, 0, [], .iload_n 0),
  (0, 26, 1, 0, 4, [], .iconst 4),
  (0, 27, 1, 0, 0, [], .iushr),
  (0, 28, 1, 0, 0, [], .iadd),
  (0, 29, 3, 0, 0, [], .ldc_w 267),
  (0, 32, 1, 0, 0, [], .iand),
  (0, 33, 1, 0, 0, [], .istore_n 0),
  (0, 34, 1, 0, 0, [], .iload_n 0),
  (0, 35, 1, 0, 0, [], .iload_n 0),
  (0, 36, 2, 0, 8, [], .bipush 8),
  (0, 38, 1, 0, 0, [], .iushr),
  (0, 39, 1, 0, 0, [], .iadd),
  (0, 40, 1, 0, 0, [], .istore_n 0),
  (0, 41, 1, 0, 0, [], .iload_n 0),
  (0, 42, 1, 0, 0, [], .iload_n 0),
  (0, 43, 2, 0, 16, [], .bipush 16),
  (0, 45, 1, 0, 0, [], .iushr),
  (0, 46, 1, 0, 0, [], .iadd),
  (0, 47, 1, 0, 0, [], .istore_n 0),
  (0, 48, 1, 0, 0, [], .iload_n 0),
  (0, 49, 2, 0, 63, [], .bipush 63),
  (0, 51, 1, 0, 0, [], .iand),
  (0, 52, 1, 0, 0, [], .ireturn)]
def F_J6_bitCount_0f7a4 (fu : Nat) (x0 : Int32) (M : xM) : Option (Int32 × xM) :=
  let x0_1 : Int32 := x0 - (((Int32.toUInt32 x0 >>> (Int32.toUInt32 1 &&& Int32.toUInt32 31)).toInt32) &&& 1431655765)
  let x0_2 : Int32 := (x0_1 &&& 858993459) + (((Int32.toUInt32 x0_1 >>> (Int32.toUInt32 2 &&& Int32.toUInt32 31)).toInt32) &&& 858993459)
  let x0_3 : Int32 := (x0_2 + ((Int32.toUInt32 x0_2 >>> (Int32.toUInt32 4 &&& Int32.toUInt32 31)).toInt32)) &&& 252645135
  let x0_4 : Int32 := x0_3 + ((Int32.toUInt32 x0_3 >>> (Int32.toUInt32 8 &&& Int32.toUInt32 31)).toInt32)
  let x0_5 : Int32 := x0_4 + ((Int32.toUInt32 x0_4 >>> (Int32.toUInt32 16 &&& Int32.toUInt32 31)).toInt32)
  (some (x0_5 &&& 63, M))
set_option maxRecDepth 100000 in
theorem q_J6_bitCount_0f7a4 (fu : Nat) (x0 : Int32) (M : xM) :
    xrun pJ6_bitCount_0f7a4 flJ6 koJ6 nwJ6 [] [] xrtI 44 (xat 0 pJ6_bitCount_0f7a4) 0 0 [(0, .inl x0)] [] M = F_J6_bitCount_0f7a4 fu x0 M := rfl
def w_J6_bitCount_0f7a4 (fu : Nat) {ρ : Type} (as : List xV) (M : xM) (k : Option xV → xM → Option ρ) : Option ρ := pI as fun x0 as => xe as ((F_J6_bitCount_0f7a4 fu x0 M).bind fun p => k (some (.inl p.1)) p.2)
def pX0_begunBlock : List xE := [(0, 0, 1, 0, 0, [], .iconst 0),
  (0, 1, 1, 0, 0, [], .istore_n 1),
  (1, 2, 1, 0, 0, [], .iload_n 1),
  (0, 3, 1, 0, 0, [], .aload_n 0),
  (0, 4, 3, 0, 0, [], .getfield 54),
  (0, 7, 3, 40, 0, [], .if_icmp .ge 33),
  (0, 10, 1, 0, 0, [], .aload_n 0),
  (0, 11, 3, 0, 0, [], .getfield 15),
  (0, 14, 1, 0, 0, [], .iload_n 1),
  (0, 15, 1, 0, 0, [], .iaload),
  (0, 16, 3, 34, 0, [], .ifCond .le 18),
  (0, 19, 1, 0, 0, [], .aload_n 0),
  (0, 20, 3, 0, 0, [], .getfield 15),
  (0, 23, 1, 0, 0, [], .iload_n 1),
  (0, 24, 1, 0, 0, [], .iaload),
  (0, 25, 1, 0, 0, [], .aload_n 0),
  (0, 26, 3, 0, 0, [], .getfield 58),
  (0, 29, 3, 34, 0, [], .if_icmp .ge 5),
  (0, 32, 1, 0, 0, [], .iload_n 1),
  (0, 33, 1, 0, 0, [], .ireturn),
  (0, 34, 3, 0, 1, [], .iinc 1 1),
  (0, 37, 3, 2, 0, [], .goto (-35)),
  (0, 40, 1, 0, (-1), [], .iconst (-1)),
  (0, 41, 1, 0, 0, [], .ireturn)]
def L_X0_begunBlock_2 (fu : Nat) : Nat → Nat → Int32 → xM → Option (Int32 × xM)
  | 0, _, _, _ => none
  | n + 1, s, x1, M =>
    if (gI M 0 s 0) ≤ x1 then
      (some ((-1), M))
    else
      (gR M 0 s 8).bind fun a_1 =>
      gd (xin x1 (gN M 20 a_1)) <|
      if (gI M 20 a_1 (xi x1)) ≤ 0 then
        L_X0_begunBlock_2 fu n s (x1 + 1) M
      else
        (gR M 0 s 8).bind fun a_2 =>
        gd (xin x1 (gN M 20 a_2)) <|
        if (gI M 0 s 1) ≤ (gI M 20 a_2 (xi x1)) then
          L_X0_begunBlock_2 fu n s (x1 + 1) M
        else
          (some (x1, M))
set_option maxRecDepth 100000 in
theorem q_X0_begunBlock_2 (fu : Nat) (n : Nat) (s : Nat) (x1 : Int32) (M : xM) :
    xrun pX0_begunBlock flX0 koX0 nwX0 [] [(2, fun bc bs ls st M => xz bc bs (lR ls 0 0 fun o => o.bind fun s => lI ls 1 fun x1 => xe st (L_X0_begunBlock_2 fu n s x1 M)))] xrtI 26 (xat 2 pX0_begunBlock) 0 0 [(0, .inr (.inr (0, some s))), (1, .inl x1)] [] M = L_X0_begunBlock_2 fu (n + 1) s x1 M := rfl
def F_X0_begunBlock (fu : Nat) (s : Nat) (M : xM) : Option (Int32 × xM) :=
  L_X0_begunBlock_2 fu fu s 0 M
set_option maxRecDepth 100000 in
theorem q_X0_begunBlock (fu : Nat) (s : Nat) (M : xM) :
    xrun pX0_begunBlock flX0 koX0 nwX0 [] [(2, fun bc bs ls st M => xz bc bs (lR ls 0 0 fun o => o.bind fun s => lI ls 1 fun x1 => xe st (L_X0_begunBlock_2 fu fu s x1 M)))] xrtI 26 (xat 0 pX0_begunBlock) 0 0 [(0, .inr (.inr (0, some s)))] [] M = F_X0_begunBlock fu s M := rfl
def w_X0_begunBlock (fu : Nat) {ρ : Type} (as : List xV) (M : xM) (k : Option xV → xM → Option ρ) : Option ρ := pR 0 as fun o as => o.bind fun s => xe as ((F_X0_begunBlock fu s M).bind fun p => k (some (.inl p.1)) p.2)
def pX0_copyFrom : List xE := [(0, 0, 1, 0, 0, [], .aload_n 0),
  (0, 1, 1, 0, 0, [], .aload_n 1),
  (0, 2, 3, 0, 0, [], .getfield 54),
  (0, 5, 3, 0, 0, [], .putfield 54),
  (0, 8, 1, 0, 0, [], .aload_n 0),
  (0, 9, 1, 0, 0, [], .aload_n 1),
  (0, 10, 3, 0, 0, [], .getfield 58),
  (0, 13, 3, 0, 0, [], .putfield 58),
  (0, 16, 1, 0, 0, [], .aload_n 0),
  (0, 17, 1, 0, 0, [], .aload_n 1),
  (0, 18, 3, 0, 0, [], .getfield 61),
  (0, 21, 3, 0, 0, [], .putfield 61),
  (0, 24, 1, 0, 0, [], .aload_n 0),
  (0, 25, 1, 0, 0, [], .aload_n 1),
  (0, 26, 3, 0, 0, [], .getfield 64),
  (0, 29, 3, 0, 0, [], .putfield 64),
  (0, 32, 1, 0, 0, [], .aload_n 0),
  (0, 33, 1, 0, 0, [], .aload_n 1),
  (0, 34, 3, 0, 0, [], .getfield 67),
  (0, 37, 3, 0, 0, [], .putfield 67),
  (0, 40, 1, 0, 0, [], .aload_n 0),
  (0, 41, 1, 0, 0, [], .aload_n 1),
  (0, 42, 3, 0, 0, [], .getfield 70),
  (0, 45, 3, 0, 0, [], .putfield 70),
  (0, 48, 1, 0, 0, [], .aload_n 0),
  (0, 49, 1, 0, 0, [], .aload_n 1),
  (0, 50, 3, 0, 0, [], .getfield 73),
  (0, 53, 3, 0, 0, [], .putfield 73),
  (0, 56, 1, 0, 0, [], .aload_n 1),
  (0, 57, 3, 0, 0, [], .getfield 9),
  (0, 60, 1, 0, 0, [], .iconst 0),
  (0, 61, 1, 0, 0, [], .aload_n 0),
  (0, 62, 3, 0, 0, [], .getfield 9),
  (0, 65, 1, 0, 0, [], .iconst 0),
  (0, 66, 2, 0, 6, [], .bipush 6),
  (0, 68, 3, 0, 0, [], .invokestatic 80),
  (0, 71, 1, 0, 0, [], .aload_n 1),
  (0, 72, 3, 0, 0, [], .getfield 15),
  (0, 75, 1, 0, 0, [], .iconst 0),
  (0, 76, 1, 0, 0, [], .aload_n 0),
  (0, 77, 3, 0, 0, [], .getfield 15),
  (0, 80, 1, 0, 0, [], .iconst 0),
  (0, 81, 2, 0, 6, [], .bipush 6),
  (0, 83, 3, 0, 0, [], .invokestatic 80),
  (0, 86, 1, 0, 0, [], .aload_n 1),
  (0, 87, 3, 0, 0, [], .getfield 18),
  (0, 90, 1, 0, 0, [], .iconst 0),
  (0, 91, 1, 0, 0, [], .aload_n 0),
  (0, 92, 3, 0, 0, [], .getfield 18),
  (0, 95, 1, 0, 0, [], .iconst 0),
  (0, 96, 2, 0, 36, [], .bipush 36),
  (0, 98, 3, 0, 0, [], .invokestatic 80),
  (0, 101, 1, 0, 0, [], .aload_n 1),
  (0, 102, 3, 0, 0, [], .getfield 21),
  (0, 105, 1, 0, 0, [], .iconst 0),
  (0, 106, 1, 0, 0, [], .aload_n 0),
  (0, 107, 3, 0, 0, [], .getfield 21),
  (0, 110, 1, 0, 0, [], .iconst 0),
  (0, 111, 2, 0, 36, [], .bipush 36),
  (0, 113, 3, 0, 0, [], .invokestatic 80),
  (0, 116, 1, 0, 0, [], .aload_n 1),
  (0, 117, 3, 0, 0, [], .getfield 24),
  (0, 120, 1, 0, 0, [], .iconst 0),
  (0, 121, 1, 0, 0, [], .aload_n 0),
  (0, 122, 3, 0, 0, [], .getfield 24),
  (0, 125, 1, 0, 0, [], .iconst 0),
  (0, 126, 2, 0, 36, [], .bipush 36),
  (0, 128, 3, 0, 0, [], .invokestatic 80),
  (0, 131, 1, 0, 0, [], .aload_n 1),
  (0, 132, 3, 0, 0, [], .getfield 27),
  (0, 135, 1, 0, 0, [], .iconst 0),
  (0, 136, 1, 0, 0, [], .aload_n 0),
  (0, 137, 3, 0, 0, [], .getfield 27),
  (0, 140, 1, 0, 0, [], .iconst 0),
  (0, 141, 2, 0, 36, [], .bipush 36),
  (0, 143, 3, 0, 0, [], .invokestatic 80),
  (0, 146, 1, 0, 0, [], .aload_n 1),
  (0, 147, 3, 0, 0, [], .getfield 30),
  (0, 150, 1, 0, 0, [], .iconst 0),
  (0, 151, 1, 0, 0, [], .aload_n 0),
  (0, 152, 3, 0, 0, [], .getfield 30),
  (0, 155, 1, 0, 0, [], .iconst 0),
  (0, 156, 2, 0, 36, [], .bipush 36),
  (0, 158, 3, 0, 0, [], .invokestatic 80),
  (0, 161, 1, 0, 0, [], .aload_n 1),
  (0, 162, 3, 0, 0, [], .getfield 33),
  (0, 165, 1, 0, 0, [], .iconst 0),
  (0, 166, 1, 0, 0, [], .aload_n 0),
  (0, 167, 3, 0, 0, [], .getfield 33),
  (0, 170, 1, 0, 0, [], .iconst 0),
  (0, 171, 3, 0, 144, [], .sipush 144),
  (0, 174, 3, 0, 0, [], .invokestatic 80),
  (0, 177, 1, 0, 0, [], .aload_n 1),
  (0, 178, 3, 0, 0, [], .getfield 36),
  (0, 181, 1, 0, 0, [], .iconst 0),
  (0, 182, 1, 0, 0, [], .aload_n 0),
  (0, 183, 3, 0, 0, [], .getfield 36),
  (0, 186, 1, 0, 0, [], .iconst 0),
  (0, 187, 3, 0, 144, [], .sipush 144),
  (0, 190, 3, 0, 0, [], .invokestatic 80),
  (0, 193, 1, 0, 0, [], .return_)]
def F_X0_copyFrom (fu : Nat) (s : Nat) (x1 : Option Nat) (M : xM) : Option xM :=
  x1.bind fun a_1 =>
  let M_2 := sI M 0 s 0 (gI M 0 a_1 0)
  x1.bind fun a_3 =>
  let M_4 := sI M_2 0 s 1 (gI M_2 0 a_3 1)
  x1.bind fun a_5 =>
  let M_6 := sI M_4 0 s 2 (gI M_4 0 a_5 2)
  x1.bind fun a_7 =>
  let M_8 := sI M_6 0 s 3 (gI M_6 0 a_7 3)
  x1.bind fun a_9 =>
  let M_10 := sI M_8 0 s 4 (gI M_8 0 a_9 4)
  x1.bind fun a_11 =>
  let M_12 := sI M_10 0 s 5 (gI M_10 0 a_11 5)
  x1.bind fun a_13 =>
  let M_14 := sI M_12 0 s 6 (gI M_12 0 a_13 6)
  x1.bind fun a_15 =>
  (gR M_14 0 a_15 7).bind fun a_16 =>
  (gR M_14 0 s 7).bind fun a_17 =>
  gd (xcpok 0 0 6 (gN M_14 20 a_16) (gN M_14 20 a_17)) <|
  let M_18 := cpI M_14 20 a_16 a_17 (xi 0) (xi 0) (xi 6)
  x1.bind fun a_19 =>
  (gR M_18 0 a_19 8).bind fun a_20 =>
  (gR M_18 0 s 8).bind fun a_21 =>
  gd (xcpok 0 0 6 (gN M_18 20 a_20) (gN M_18 20 a_21)) <|
  let M_22 := cpI M_18 20 a_20 a_21 (xi 0) (xi 0) (xi 6)
  x1.bind fun a_23 =>
  (gR M_22 0 a_23 9).bind fun a_24 =>
  (gR M_22 0 s 9).bind fun a_25 =>
  gd (xcpok 0 0 36 (gN M_22 20 a_24) (gN M_22 20 a_25)) <|
  let M_26 := cpI M_22 20 a_24 a_25 (xi 0) (xi 0) (xi 36)
  x1.bind fun a_27 =>
  (gR M_26 0 a_27 10).bind fun a_28 =>
  (gR M_26 0 s 10).bind fun a_29 =>
  gd (xcpok 0 0 36 (gN M_26 20 a_28) (gN M_26 20 a_29)) <|
  let M_30 := cpI M_26 20 a_28 a_29 (xi 0) (xi 0) (xi 36)
  x1.bind fun a_31 =>
  (gR M_30 0 a_31 11).bind fun a_32 =>
  (gR M_30 0 s 11).bind fun a_33 =>
  gd (xcpok 0 0 36 (gN M_30 20 a_32) (gN M_30 20 a_33)) <|
  let M_34 := cpI M_30 20 a_32 a_33 (xi 0) (xi 0) (xi 36)
  x1.bind fun a_35 =>
  (gR M_34 0 a_35 12).bind fun a_36 =>
  (gR M_34 0 s 12).bind fun a_37 =>
  gd (xcpok 0 0 36 (gN M_34 20 a_36) (gN M_34 20 a_37)) <|
  let M_38 := cpI M_34 20 a_36 a_37 (xi 0) (xi 0) (xi 36)
  x1.bind fun a_39 =>
  (gR M_38 0 a_39 13).bind fun a_40 =>
  (gR M_38 0 s 13).bind fun a_41 =>
  gd (xcpok 0 0 36 (gN M_38 20 a_40) (gN M_38 20 a_41)) <|
  let M_42 := cpI M_38 20 a_40 a_41 (xi 0) (xi 0) (xi 36)
  x1.bind fun a_43 =>
  (gR M_42 0 a_43 14).bind fun a_44 =>
  (gR M_42 0 s 14).bind fun a_45 =>
  gd (xcpok 0 0 144 (gN M_42 20 a_44) (gN M_42 20 a_45)) <|
  let M_46 := cpI M_42 20 a_44 a_45 (xi 0) (xi 0) (xi 144)
  x1.bind fun a_47 =>
  (gR M_46 0 a_47 15).bind fun a_48 =>
  (gR M_46 0 s 15).bind fun a_49 =>
  gd (xcpok 0 0 144 (gN M_46 20 a_48) (gN M_46 20 a_49)) <|
  let M_50 := cpI M_46 20 a_48 a_49 (xi 0) (xi 0) (xi 144)
  some M_50
set_option maxRecDepth 100000 in
theorem q_X0_copyFrom (fu : Nat) (s : Nat) (x1 : Option Nat) (M : xM) :
    xrun pX0_copyFrom flX0 koX0 nwX0 [(80, 5, 0, 0, w_arraycopy)] [] xrtV 103 (xat 0 pX0_copyFrom) 0 0 [(0, .inr (.inr (0, some s))), (1, .inr (.inr (0, x1)))] [] M = F_X0_copyFrom fu s x1 M := rfl
def w_X0_copyFrom (fu : Nat) {ρ : Type} (as : List xV) (M : xM) (k : Option xV → xM → Option ρ) : Option ρ := pR 0 as fun o as => o.bind fun s => pR 0 as fun x1 as => xe as ((F_X0_copyFrom fu s x1 M).bind fun p => k none p)
def pX0_fill : List xE := [(0, 0, 1, 0, 0, [], .aload_n 0),
  (0, 1, 3, 0, 0, [], .getfield 18),
  (0, 4, 1, 0, 0, [], .iload_n 1),
  (0, 5, 1, 0, 0, [], .iload_n 2),
  (0, 6, 1, 0, 0, [], .iastore),
  (0, 7, 1, 0, 0, [], .aload_n 0),
  (0, 8, 3, 0, 0, [], .getfield 21),
  (0, 11, 1, 0, 0, [], .iload_n 1),
  (0, 12, 1, 0, 0, [], .iload_n 3),
  (0, 13, 1, 0, 0, [], .iastore),
  (0, 14, 1, 0, 0, [], .aload_n 0),
  (0, 15, 3, 0, 0, [], .getfield 24),
  (0, 18, 1, 0, 0, [], .iload_n 1),
  (0, 19, 2, 0, 0, [], .iload 4),
  (0, 21, 1, 0, 0, [], .iastore),
  (0, 22, 1, 0, 0, [], .aload_n 0),
  (0, 23, 3, 0, 0, [], .getfield 27),
  (0, 26, 1, 0, 0, [], .iload_n 1),
  (0, 27, 2, 0, 0, [], .iload 5),
  (0, 29, 1, 0, 0, [], .iastore),
  (0, 30, 1, 0, 0, [], .aload_n 0),
  (0, 31, 3, 0, 0, [], .getfield 30),
  (0, 34, 1, 0, 0, [], .iload_n 1),
  (0, 35, 2, 0, 0, [], .iload 6),
  (0, 37, 1, 0, 0, [], .iastore),
  (0, 38, 1, 0, 0, [], .return_)]
def F_X0_fill (fu : Nat) (s : Nat) (x1 : Int32) (x2 : Int32) (x3 : Int32) (x4 : Int32) (x5 : Int32) (x6 : Int32) (M : xM) : Option xM :=
  (gR M 0 s 9).bind fun a_1 =>
  gd (xin x1 (gN M 20 a_1)) <|
  let M_2 := sI M 20 a_1 (xi x1) x2
  (gR M_2 0 s 10).bind fun a_3 =>
  gd (xin x1 (gN M_2 20 a_3)) <|
  let M_4 := sI M_2 20 a_3 (xi x1) x3
  (gR M_4 0 s 11).bind fun a_5 =>
  gd (xin x1 (gN M_4 20 a_5)) <|
  let M_6 := sI M_4 20 a_5 (xi x1) x4
  (gR M_6 0 s 12).bind fun a_7 =>
  gd (xin x1 (gN M_6 20 a_7)) <|
  let M_8 := sI M_6 20 a_7 (xi x1) x5
  (gR M_8 0 s 13).bind fun a_9 =>
  gd (xin x1 (gN M_8 20 a_9)) <|
  let M_10 := sI M_8 20 a_9 (xi x1) x6
  some M_10
set_option maxRecDepth 100000 in
theorem q_X0_fill (fu : Nat) (s : Nat) (x1 : Int32) (x2 : Int32) (x3 : Int32) (x4 : Int32) (x5 : Int32) (x6 : Int32) (M : xM) :
    xrun pX0_fill flX0 koX0 nwX0 [] [] xrtV 28 (xat 0 pX0_fill) 0 0 [(0, .inr (.inr (0, some s))), (1, .inl x1), (2, .inl x2), (3, .inl x3), (4, .inl x4), (5, .inl x5), (6, .inl x6)] [] M = F_X0_fill fu s x1 x2 x3 x4 x5 x6 M := rfl
def w_X0_fill (fu : Nat) {ρ : Type} (as : List xV) (M : xM) (k : Option xV → xM → Option ρ) : Option ρ := pR 0 as fun o as => o.bind fun s => pI as fun x1 as => pI as fun x2 as => pI as fun x3 as => pI as fun x4 as => pI as fun x5 as => pI as fun x6 as => xe as ((F_X0_fill fu s x1 x2 x3 x4 x5 x6 M).bind fun p => k none p)
def pX0_copyNode : List xE := [(0, 0, 1, 0, 0, [], .aload_n 0),
  (0, 1, 1, 0, 0, [], .iload_n 2),
  (0, 2, 1, 0, 0, [], .aload_n 0),
  (0, 3, 3, 0, 0, [], .getfield 18),
  (0, 6, 1, 0, 0, [], .iload_n 1),
  (0, 7, 1, 0, 0, [], .iaload),
  (0, 8, 1, 0, 0, [], .aload_n 0),
  (0, 9, 3, 0, 0, [], .getfield 21),
  (0, 12, 1, 0, 0, [], .iload_n 1),
  (0, 13, 1, 0, 0, [], .iaload),
  (0, 14, 1, 0, 0, [], .aload_n 0),
  (0, 15, 3, 0, 0, [], .getfield 24),
  (0, 18, 1, 0, 0, [], .iload_n 1),
  (0, 19, 1, 0, 0, [], .iaload),
  (0, 20, 1, 0, 0, [], .aload_n 0),
  (0, 21, 3, 0, 0, [], .getfield 27),
  (0, 24, 1, 0, 0, [], .iload_n 1),
  (0, 25, 1, 0, 0, [], .iaload),
  (0, 26, 1, 0, 0, [], .aload_n 0),
  (0, 27, 3, 0, 0, [], .getfield 30),
  (0, 30, 1, 0, 0, [], .iload_n 1),
  (0, 31, 1, 0, 0, [], .iaload),
  (0, 32, 3, 0, 0, [], .invokevirtual 76),
  (0, 35, 1, 0, 0, [], .iconst 0),
  (0, 36, 1, 0, 0, [], .istore_n 3),
  (1, 37, 1, 0, 0, [], .iload_n 3),
  (0, 38, 1, 0, 4, [], .iconst 4),
  (0, 39, 3, 88, 0, [], .if_icmp .ge 49),
  (0, 42, 1, 0, 0, [], .aload_n 0),
  (0, 43, 3, 0, 0, [], .getfield 33),
  (0, 46, 1, 0, 0, [], .iload_n 2),
  (0, 47, 1, 0, 4, [], .iconst 4),
  (0, 48, 1, 0, 0, [], .imul),
  (0, 49, 1, 0, 0, [], .iload_n 3),
  (0, 50, 1, 0, 0, [], .iadd),
  (0, 51, 1, 0, 0, [], .aload_n 0),
  (0, 52, 3, 0, 0, [], .getfield 33),
  (0, 55, 1, 0, 0, [], .iload_n 1),
  (0, 56, 1, 0, 4, [], .iconst 4),
  (0, 57, 1, 0, 0, [], .imul),
  (0, 58, 1, 0, 0, [], .iload_n 3),
  (0, 59, 1, 0, 0, [], .iadd),
  (0, 60, 1, 0, 0, [], .iaload),
  (0, 61, 1, 0, 0, [], .iastore),
  (0, 62, 1, 0, 0, [], .aload_n 0),
  (0, 63, 3, 0, 0, [], .getfield 36),
  (0, 66, 1, 0, 0, [], .iload_n 2),
  (0, 67, 1, 0, 4, [], .iconst 4),
  (0, 68, 1, 0, 0, [], .imul),
  (0, 69, 1, 0, 0, [], .iload_n 3),
  (0, 70, 1, 0, 0, [], .iadd),
  (0, 71, 1, 0, 0, [], .aload_n 0),
  (0, 72, 3, 0, 0, [], .getfield 36),
  (0, 75, 1, 0, 0, [], .iload_n 1),
  (0, 76, 1, 0, 4, [], .iconst 4),
  (0, 77, 1, 0, 0, [], .imul),
  (0, 78, 1, 0, 0, [], .iload_n 3),
  (0, 79, 1, 0, 0, [], .iadd),
  (0, 80, 1, 0, 0, [], .iaload),
  (0, 81, 1, 0, 0, [], .iastore),
  (0, 82, 3, 0, 1, [], .iinc 3 1),
  (0, 85, 3, 37, 0, [], .goto (-48)),
  (0, 88, 1, 0, 0, [], .return_)]
def L_X0_copyNode_37 (fu : Nat) : Nat → Nat → Int32 → Int32 → Int32 → xM → Option xM
  | 0, _, _, _, _, _ => none
  | n + 1, s, x1, x2, x3, M =>
    if 4 ≤ x3 then
      some M
    else
      (gR M 0 s 14).bind fun a_1 =>
      gd (xin ((x1 * 4) + x3) (gN M 20 a_1)) <|
      (gR M 0 s 14).bind fun a_2 =>
      gd (xin ((x2 * 4) + x3) (gN M 20 a_2)) <|
      let M_3 := sI M 20 a_2 (xi ((x2 * 4) + x3)) (gI M 20 a_1 (xi ((x1 * 4) + x3)))
      (gR M_3 0 s 15).bind fun a_4 =>
      gd (xin ((x1 * 4) + x3) (gN M_3 20 a_4)) <|
      (gR M_3 0 s 15).bind fun a_5 =>
      gd (xin ((x2 * 4) + x3) (gN M_3 20 a_5)) <|
      let M_6 := sI M_3 20 a_5 (xi ((x2 * 4) + x3)) (gI M_3 20 a_4 (xi ((x1 * 4) + x3)))
      L_X0_copyNode_37 fu n s x1 x2 (x3 + 1) M_6
set_option maxRecDepth 100000 in
theorem q_X0_copyNode_37 (fu : Nat) (n : Nat) (s : Nat) (x1 : Int32) (x2 : Int32) (x3 : Int32) (M : xM) :
    xrun pX0_copyNode flX0 koX0 nwX0 [] [(37, fun bc bs ls st M => xz bc bs (lR ls 0 0 fun o => o.bind fun s => lI ls 1 fun x1 => lI ls 2 fun x2 => lI ls 3 fun x3 => xe st (L_X0_copyNode_37 fu n s x1 x2 x3 M)))] xrtV 65 (xat 37 pX0_copyNode) 0 0 [(0, .inr (.inr (0, some s))), (1, .inl x1), (2, .inl x2), (3, .inl x3)] [] M = L_X0_copyNode_37 fu (n + 1) s x1 x2 x3 M := rfl
def F_X0_copyNode (fu : Nat) (s : Nat) (x1 : Int32) (x2 : Int32) (M : xM) : Option xM :=
  (gR M 0 s 9).bind fun a_1 =>
  gd (xin x1 (gN M 20 a_1)) <|
  (gR M 0 s 10).bind fun a_2 =>
  gd (xin x1 (gN M 20 a_2)) <|
  (gR M 0 s 11).bind fun a_3 =>
  gd (xin x1 (gN M 20 a_3)) <|
  (gR M 0 s 12).bind fun a_4 =>
  gd (xin x1 (gN M 20 a_4)) <|
  (gR M 0 s 13).bind fun a_5 =>
  gd (xin x1 (gN M 20 a_5)) <|
  (F_X0_fill fu s x2 (gI M 20 a_1 (xi x1)) (gI M 20 a_2 (xi x1)) (gI M 20 a_3 (xi x1)) (gI M 20 a_4 (xi x1)) (gI M 20 a_5 (xi x1)) M).bind fun p_6 =>
  L_X0_copyNode_37 fu fu s x1 x2 0 p_6
set_option maxRecDepth 100000 in
theorem q_X0_copyNode (fu : Nat) (s : Nat) (x1 : Int32) (x2 : Int32) (M : xM) :
    xrun pX0_copyNode flX0 koX0 nwX0 [(76, 7, 0, 0, w_X0_fill fu)] [(37, fun bc bs ls st M => xz bc bs (lR ls 0 0 fun o => o.bind fun s => lI ls 1 fun x1 => lI ls 2 fun x2 => lI ls 3 fun x3 => xe st (L_X0_copyNode_37 fu fu s x1 x2 x3 M)))] xrtV 65 (xat 0 pX0_copyNode) 0 0 [(0, .inr (.inr (0, some s))), (1, .inl x1), (2, .inl x2)] [] M = F_X0_copyNode fu s x1 x2 M := rfl
def w_X0_copyNode (fu : Nat) {ρ : Type} (as : List xV) (M : xM) (k : Option xV → xM → Option ρ) : Option ρ := pR 0 as fun o as => o.bind fun s => pI as fun x1 as => pI as fun x2 as => xe as ((F_X0_copyNode fu s x1 x2 M).bind fun p => k none p)
def pX0_isLeast : List xE := [(0, 0, 1, 0, 0, [], .iconst 0),
  (0, 1, 1, 0, 0, [], .istore_n 2),
  (1, 2, 1, 0, 0, [], .iload_n 2),
  (0, 3, 1, 0, 0, [], .iload_n 1),
  (0, 4, 3, 30, 0, [], .if_icmp .ge 26),
  (0, 7, 1, 0, 0, [], .aload_n 0),
  (0, 8, 3, 0, 0, [], .getfield 21),
  (0, 11, 1, 0, 0, [], .iload_n 2),
  (0, 12, 1, 0, 0, [], .iaload),
  (0, 13, 1, 0, 0, [], .aload_n 0),
  (0, 14, 3, 0, 0, [], .getfield 21),
  (0, 17, 1, 0, 0, [], .iload_n 1),
  (0, 18, 1, 0, 0, [], .iaload),
  (0, 19, 3, 24, 0, [], .if_icmp .ne 5),
  (0, 22, 1, 0, 0, [], .iconst 0),
  (0, 23, 1, 0, 0, [], .ireturn),
  (0, 24, 3, 0, 1, [], .iinc 2 1),
  (0, 27, 3, 2, 0, [], .goto (-25)),
  (0, 30, 1, 0, 1, [], .iconst 1),
  (0, 31, 1, 0, 0, [], .ireturn)]
def L_X0_isLeast_2 (fu : Nat) : Nat → Nat → Int32 → Int32 → xM → Option (Int32 × xM)
  | 0, _, _, _, _ => none
  | n + 1, s, x1, x2, M =>
    if x1 ≤ x2 then
      gd (xbool 1) (some (1, M))
    else
      (gR M 0 s 10).bind fun a_1 =>
      gd (xin x2 (gN M 20 a_1)) <|
      (gR M 0 s 10).bind fun a_2 =>
      gd (xin x1 (gN M 20 a_2)) <|
      if ¬ (gI M 20 a_1 (xi x2)) = (gI M 20 a_2 (xi x1)) then
        L_X0_isLeast_2 fu n s x1 (x2 + 1) M
      else
        gd (xbool 0) (some (0, M))
set_option maxRecDepth 100000 in
theorem q_X0_isLeast_2 (fu : Nat) (n : Nat) (s : Nat) (x1 : Int32) (x2 : Int32) (M : xM) :
    xrun pX0_isLeast flX0 koX0 nwX0 [] [(2, fun bc bs ls st M => xz bc bs (lR ls 0 0 fun o => o.bind fun s => lI ls 1 fun x1 => lI ls 2 fun x2 => xe st (L_X0_isLeast_2 fu n s x1 x2 M)))] xrtZ 22 (xat 2 pX0_isLeast) 0 0 [(0, .inr (.inr (0, some s))), (1, .inl x1), (2, .inl x2)] [] M = L_X0_isLeast_2 fu (n + 1) s x1 x2 M := rfl
def F_X0_isLeast (fu : Nat) (s : Nat) (x1 : Int32) (M : xM) : Option (Int32 × xM) :=
  L_X0_isLeast_2 fu fu s x1 0 M
set_option maxRecDepth 100000 in
theorem q_X0_isLeast (fu : Nat) (s : Nat) (x1 : Int32) (M : xM) :
    xrun pX0_isLeast flX0 koX0 nwX0 [] [(2, fun bc bs ls st M => xz bc bs (lR ls 0 0 fun o => o.bind fun s => lI ls 1 fun x1 => lI ls 2 fun x2 => xe st (L_X0_isLeast_2 fu fu s x1 x2 M)))] xrtZ 22 (xat 0 pX0_isLeast) 0 0 [(0, .inr (.inr (0, some s))), (1, .inl x1)] [] M = F_X0_isLeast fu s x1 M := rfl
def w_X0_isLeast (fu : Nat) {ρ : Type} (as : List xV) (M : xM) (k : Option xV → xM → Option ρ) : Option ρ := pR 0 as fun o as => o.bind fun s => pI as fun x1 as => xe as ((F_X0_isLeast fu s x1 M).bind fun p => k (some (.inl p.1)) p.2)
def pX0_countData : List xE := [(0, 0, 1, 0, 0, [], .iconst 0),
  (0, 1, 2, 0, 0, [], .istore 4),
  (0, 3, 1, 0, 0, [], .iconst 0),
  (0, 4, 2, 0, 0, [], .istore 5),
  (1, 6, 2, 0, 0, [], .iload 5),
  (0, 8, 1, 0, 0, [], .aload_n 0),
  (0, 9, 3, 0, 0, [], .getfield 61),
  (0, 12, 3, 82, 0, [], .if_icmp .ge 70),
  (0, 15, 1, 0, 0, [], .aload_n 0),
  (0, 16, 3, 0, 0, [], .getfield 18),
  (0, 19, 2, 0, 0, [], .iload 5),
  (0, 21, 1, 0, 0, [], .iaload),
  (0, 22, 1, 0, 1, [], .iconst 1),
  (0, 23, 3, 52, 0, [], .if_icmp .ne 29),
  (0, 26, 1, 0, 0, [], .aload_n 0),
  (0, 27, 3, 0, 0, [], .getfield 24),
  (0, 30, 2, 0, 0, [], .iload 5),
  (0, 32, 1, 0, 0, [], .iaload),
  (0, 33, 1, 0, 0, [], .iload_n 1),
  (0, 34, 3, 52, 0, [], .if_icmp .ne 18),
  (0, 37, 1, 0, 0, [], .aload_n 0),
  (0, 38, 3, 0, 0, [], .getfield 27),
  (0, 41, 2, 0, 0, [], .iload 5),
  (0, 43, 1, 0, 0, [], .iaload),
  (0, 44, 1, 0, 0, [], .iload_n 2),
  (0, 45, 3, 52, 0, [], .if_icmp .ne 7),
  (0, 48, 1, 0, 1, [], .iconst 1),
  (0, 49, 3, 53, 0, [], .goto 4),
  (0, 52, 1, 0, 0, [], .iconst 0),
  (1, 53, 2, 0, 0, [], .istore 6),
  (0, 55, 2, 0, 0, [], .iload 6),
  (0, 57, 3, 76, 0, [], .ifCond .eq 19),
  (0, 60, 1, 0, 0, [], .iload_n 3),
  (0, 61, 3, 73, 0, [], .ifCond .eq 12),
  (0, 64, 1, 0, 0, [], .aload_n 0),
  (0, 65, 2, 0, 0, [], .iload 5),
  (0, 67, 3, 0, 0, [], .invokevirtual 94),
  (0, 70, 3, 76, 0, [], .ifCond .eq 6),
  (0, 73, 3, 0, 1, [], .iinc 4 1),
  (0, 76, 3, 0, 1, [], .iinc 5 1),
  (0, 79, 3, 6, 0, [], .goto (-73)),
  (0, 82, 2, 0, 0, [], .iload 4),
  (0, 84, 1, 0, 0, [], .ireturn)]
def J_X0_countData_53 (fu : Nat) (k6 : Nat → Int32 → Int32 → Int32 → Int32 → Int32 → xM → Option (Int32 × xM)) (s : Nat) (x1 : Int32) (x2 : Int32) (x3 : Int32) (x4 : Int32) (x5 : Int32) (y0 : Int32) (M : xM) : Option (Int32 × xM) :=
  if y0 = 0 then
    k6 s x1 x2 x3 x4 (x5 + 1) M
  else
    if x3 = 0 then
      k6 s x1 x2 x3 (x4 + 1) (x5 + 1) M
    else
      (F_X0_isLeast fu s x5 M).bind fun p_1 =>
      if p_1.1 = 0 then
        k6 s x1 x2 x3 x4 (x5 + 1) p_1.2
      else
        k6 s x1 x2 x3 (x4 + 1) (x5 + 1) p_1.2
set_option maxRecDepth 100000 in
theorem q_X0_countData_53 (fu : Nat) (k6 : Nat → Int32 → Int32 → Int32 → Int32 → Int32 → xM → Option (Int32 × xM)) (s : Nat) (x1 : Int32) (x2 : Int32) (x3 : Int32) (x4 : Int32) (x5 : Int32) (y0 : Int32) (M : xM) :
    xrun pX0_countData flX0 koX0 nwX0 [(94, 2, 0, 0, w_X0_isLeast fu)] [(6, fun bc bs ls st M => xz bc bs (lR ls 0 0 fun o => o.bind fun s => lI ls 1 fun x1 => lI ls 2 fun x2 => lI ls 3 fun x3 => lI ls 4 fun x4 => lI ls 5 fun x5 => xe st (k6 s x1 x2 x3 x4 x5 M)))] xrtI 45 (xat 53 pX0_countData) 0 0 [(0, .inr (.inr (0, some s))), (1, .inl x1), (2, .inl x2), (3, .inl x3), (4, .inl x4), (5, .inl x5)] [.inl y0] M = J_X0_countData_53 fu k6 s x1 x2 x3 x4 x5 y0 M := rfl
def L_X0_countData_6 (fu : Nat) : Nat → Nat → Int32 → Int32 → Int32 → Int32 → Int32 → xM → Option (Int32 × xM)
  | 0, _, _, _, _, _, _, _ => none
  | n + 1, s, x1, x2, x3, x4, x5, M =>
    if (gI M 0 s 2) ≤ x5 then
      (some (x4, M))
    else
      (gR M 0 s 9).bind fun a_1 =>
      gd (xin x5 (gN M 20 a_1)) <|
      if ¬ (gI M 20 a_1 (xi x5)) = 1 then
        J_X0_countData_53 fu (L_X0_countData_6 fu n) s x1 x2 x3 x4 x5 0 M
      else
        (gR M 0 s 11).bind fun a_2 =>
        gd (xin x5 (gN M 20 a_2)) <|
        if ¬ (gI M 20 a_2 (xi x5)) = x1 then
          J_X0_countData_53 fu (L_X0_countData_6 fu n) s x1 x2 x3 x4 x5 0 M
        else
          (gR M 0 s 12).bind fun a_3 =>
          gd (xin x5 (gN M 20 a_3)) <|
          if ¬ (gI M 20 a_3 (xi x5)) = x2 then
            J_X0_countData_53 fu (L_X0_countData_6 fu n) s x1 x2 x3 x4 x5 0 M
          else
            J_X0_countData_53 fu (L_X0_countData_6 fu n) s x1 x2 x3 x4 x5 1 M
set_option maxRecDepth 100000 in
theorem q_X0_countData_6 (fu : Nat) (n : Nat) (s : Nat) (x1 : Int32) (x2 : Int32) (x3 : Int32) (x4 : Int32) (x5 : Int32) (M : xM) :
    xrun pX0_countData flX0 koX0 nwX0 [] [(53, fun bc bs ls st M => xz bc bs (lR ls 0 0 fun o => o.bind fun s => lI ls 1 fun x1 => lI ls 2 fun x2 => lI ls 3 fun x3 => lI ls 4 fun x4 => lI ls 5 fun x5 => pI st fun y0 st => xe st (J_X0_countData_53 fu (L_X0_countData_6 fu n) s x1 x2 x3 x4 x5 y0 M)))] xrtI 45 (xat 6 pX0_countData) 0 0 [(0, .inr (.inr (0, some s))), (1, .inl x1), (2, .inl x2), (3, .inl x3), (4, .inl x4), (5, .inl x5)] [] M = L_X0_countData_6 fu (n + 1) s x1 x2 x3 x4 x5 M := rfl
def F_X0_countData (fu : Nat) (s : Nat) (x1 : Int32) (x2 : Int32) (x3 : Int32) (M : xM) : Option (Int32 × xM) :=
  L_X0_countData_6 fu fu s x1 x2 x3 0 0 M
set_option maxRecDepth 100000 in
theorem q_X0_countData (fu : Nat) (s : Nat) (x1 : Int32) (x2 : Int32) (x3 : Int32) (M : xM) :
    xrun pX0_countData flX0 koX0 nwX0 [] [(6, fun bc bs ls st M => xz bc bs (lR ls 0 0 fun o => o.bind fun s => lI ls 1 fun x1 => lI ls 2 fun x2 => lI ls 3 fun x3 => lI ls 4 fun x4 => lI ls 5 fun x5 => xe st (L_X0_countData_6 fu fu s x1 x2 x3 x4 x5 M)))] xrtI 45 (xat 0 pX0_countData) 0 0 [(0, .inr (.inr (0, some s))), (1, .inl x1), (2, .inl x2), (3, .inl x3)] [] M = F_X0_countData fu s x1 x2 x3 M := rfl
def w_X0_countData (fu : Nat) {ρ : Type} (as : List xV) (M : xM) (k : Option xV → xM → Option ρ) : Option ρ := pR 0 as fun o as => o.bind fun s => pI as fun x1 as => pI as fun x2 as => pI as fun x3 as => xe as ((F_X0_countData fu s x1 x2 x3 M).bind fun p => k (some (.inl p.1)) p.2)
def pX0_erase : List xE := [(0, 0, 1, 0, 0, [], .aload_n 0),
  (0, 1, 1, 0, 0, [], .dup),
  (0, 2, 3, 0, 0, [], .getfield 64),
  (0, 5, 1, 0, 0, [], .aload_n 0),
  (0, 6, 3, 0, 0, [], .getfield 58),
  (0, 9, 1, 0, 0, [], .aload_n 0),
  (0, 10, 3, 0, 0, [], .getfield 15),
  (0, 13, 1, 0, 0, [], .iload_n 1),
  (0, 14, 1, 0, 0, [], .iaload),
  (0, 15, 1, 0, 0, [], .isub),
  (0, 16, 1, 0, 0, [], .iadd),
  (0, 17, 3, 0, 0, [], .putfield 64),
  (0, 20, 1, 0, 0, [], .aload_n 0),
  (0, 21, 3, 0, 0, [], .getfield 15),
  (0, 24, 1, 0, 0, [], .iload_n 1),
  (0, 25, 1, 0, 0, [], .aload_n 0),
  (0, 26, 3, 0, 0, [], .getfield 58),
  (0, 29, 1, 0, 0, [], .iastore),
  (0, 30, 1, 0, 0, [], .iload_n 1),
  (0, 31, 1, 0, 0, [], .aload_n 0),
  (0, 32, 3, 0, 0, [], .getfield 58),
  (0, 35, 1, 0, 0, [], .imul),
  (0, 36, 1, 0, 0, [], .istore_n 2),
  (1, 37, 1, 0, 0, [], .iload_n 2),
  (0, 38, 1, 0, 0, [], .iload_n 1),
  (0, 39, 1, 0, 1, [], .iconst 1),
  (0, 40, 1, 0, 0, [], .iadd),
  (0, 41, 1, 0, 0, [], .aload_n 0),
  (0, 42, 3, 0, 0, [], .getfield 58),
  (0, 45, 1, 0, 0, [], .imul),
  (0, 46, 3, 65, 0, [], .if_icmp .ge 19),
  (0, 49, 1, 0, 0, [], .aload_n 0),
  (0, 50, 1, 0, 0, [], .iload_n 2),
  (0, 51, 1, 0, 0, [], .iconst 0),
  (0, 52, 1, 0, (-1), [], .iconst (-1)),
  (0, 53, 1, 0, (-1), [], .iconst (-1)),
  (0, 54, 1, 0, (-1), [], .iconst (-1)),
  (0, 55, 1, 0, (-1), [], .iconst (-1)),
  (0, 56, 3, 0, 0, [], .invokevirtual 76),
  (0, 59, 3, 0, 1, [], .iinc 2 1),
  (0, 62, 3, 37, 0, [], .goto (-25)),
  (0, 65, 1, 0, 0, [], .aload_n 0),
  (0, 66, 3, 0, 0, [], .getfield 9),
  (0, 69, 1, 0, 0, [], .iload_n 1),
  (0, 70, 1, 0, 0, [], .dup2),
  (0, 71, 1, 0, 0, [], .iaload),
  (0, 72, 1, 0, 1, [], .iconst 1),
  (0, 73, 1, 0, 0, [], .iadd),
  (0, 74, 1, 0, 0, [], .iastore),
  (0, 75, 1, 0, 0, [], .return_)]
def L_X0_erase_37 (fu : Nat) : Nat → Nat → Int32 → Int32 → xM → Option xM
  | 0, _, _, _, _ => none
  | n + 1, s, x1, x2, M =>
    if ((x1 + 1) * (gI M 0 s 1)) ≤ x2 then
      (gR M 0 s 7).bind fun a_1 =>
      gd (xin x1 (gN M 20 a_1)) <|
      (gR M 0 s 7).bind fun a_2 =>
      gd (xin x1 (gN M 20 a_2)) <|
      let M_3 := sI M 20 a_2 (xi x1) ((gI M 20 a_1 (xi x1)) + 1)
      some M_3
    else
      (F_X0_fill fu s x2 0 ((-1)) ((-1)) ((-1)) ((-1)) M).bind fun p_4 =>
      L_X0_erase_37 fu n s x1 (x2 + 1) p_4
set_option maxRecDepth 100000 in
theorem q_X0_erase_37 (fu : Nat) (n : Nat) (s : Nat) (x1 : Int32) (x2 : Int32) (M : xM) :
    xrun pX0_erase flX0 koX0 nwX0 [(76, 7, 0, 0, w_X0_fill fu)] [(37, fun bc bs ls st M => xz bc bs (lR ls 0 0 fun o => o.bind fun s => lI ls 1 fun x1 => lI ls 2 fun x2 => xe st (L_X0_erase_37 fu n s x1 x2 M)))] xrtV 52 (xat 37 pX0_erase) 0 0 [(0, .inr (.inr (0, some s))), (1, .inl x1), (2, .inl x2)] [] M = L_X0_erase_37 fu (n + 1) s x1 x2 M := rfl
def F_X0_erase (fu : Nat) (s : Nat) (x1 : Int32) (M : xM) : Option xM :=
  (gR M 0 s 8).bind fun a_1 =>
  gd (xin x1 (gN M 20 a_1)) <|
  let M_2 := sI M 0 s 3 ((gI M 0 s 3) + ((gI M 0 s 1) - (gI M 20 a_1 (xi x1))))
  (gR M_2 0 s 8).bind fun a_3 =>
  gd (xin x1 (gN M_2 20 a_3)) <|
  let M_4 := sI M_2 20 a_3 (xi x1) (gI M_2 0 s 1)
  let x2_5 : Int32 := x1 * (gI M_4 0 s 1)
  L_X0_erase_37 fu fu s x1 x2_5 M_4
set_option maxRecDepth 100000 in
theorem q_X0_erase (fu : Nat) (s : Nat) (x1 : Int32) (M : xM) :
    xrun pX0_erase flX0 koX0 nwX0 [] [(37, fun bc bs ls st M => xz bc bs (lR ls 0 0 fun o => o.bind fun s => lI ls 1 fun x1 => lI ls 2 fun x2 => xe st (L_X0_erase_37 fu fu s x1 x2 M)))] xrtV 52 (xat 0 pX0_erase) 0 0 [(0, .inr (.inr (0, some s))), (1, .inl x1)] [] M = F_X0_erase fu s x1 M := rfl
def w_X0_erase (fu : Nat) {ρ : Type} (as : List xV) (M : xM) (k : Option xV → xM → Option ρ) : Option ρ := pR 0 as fun o as => o.bind fun s => pI as fun x1 as => xe as ((F_X0_erase fu s x1 M).bind fun p => k none p)
def pX0_firstErased : List xE := [(0, 0, 1, 0, 0, [], .iload_n 1),
  (0, 1, 1, 0, 0, [], .aload_n 0),
  (0, 2, 3, 0, 0, [], .getfield 58),
  (0, 5, 1, 0, 0, [], .imul),
  (0, 6, 1, 0, 0, [], .istore_n 2),
  (1, 7, 1, 0, 0, [], .iload_n 2),
  (0, 8, 1, 0, 0, [], .iload_n 1),
  (0, 9, 1, 0, 1, [], .iconst 1),
  (0, 10, 1, 0, 0, [], .iadd),
  (0, 11, 1, 0, 0, [], .aload_n 0),
  (0, 12, 3, 0, 0, [], .getfield 58),
  (0, 15, 1, 0, 0, [], .imul),
  (0, 16, 3, 36, 0, [], .if_icmp .ge 20),
  (0, 19, 1, 0, 0, [], .aload_n 0),
  (0, 20, 3, 0, 0, [], .getfield 18),
  (0, 23, 1, 0, 0, [], .iload_n 2),
  (0, 24, 1, 0, 0, [], .iaload),
  (0, 25, 3, 30, 0, [], .ifCond .ne 5),
  (0, 28, 1, 0, 0, [], .iload_n 2),
  (0, 29, 1, 0, 0, [], .ireturn),
  (0, 30, 3, 0, 1, [], .iinc 2 1),
  (0, 33, 3, 7, 0, [], .goto (-26)),
  (0, 36, 1, 0, (-1), [], .iconst (-1)),
  (0, 37, 1, 0, 0, [], .ireturn)]
def L_X0_firstErased_7 (fu : Nat) : Nat → Nat → Int32 → Int32 → xM → Option (Int32 × xM)
  | 0, _, _, _, _ => none
  | n + 1, s, x1, x2, M =>
    if ((x1 + 1) * (gI M 0 s 1)) ≤ x2 then
      (some ((-1), M))
    else
      (gR M 0 s 9).bind fun a_1 =>
      gd (xin x2 (gN M 20 a_1)) <|
      if ¬ (gI M 20 a_1 (xi x2)) = 0 then
        L_X0_firstErased_7 fu n s x1 (x2 + 1) M
      else
        (some (x2, M))
set_option maxRecDepth 100000 in
theorem q_X0_firstErased_7 (fu : Nat) (n : Nat) (s : Nat) (x1 : Int32) (x2 : Int32) (M : xM) :
    xrun pX0_firstErased flX0 koX0 nwX0 [] [(7, fun bc bs ls st M => xz bc bs (lR ls 0 0 fun o => o.bind fun s => lI ls 1 fun x1 => lI ls 2 fun x2 => xe st (L_X0_firstErased_7 fu n s x1 x2 M)))] xrtI 26 (xat 7 pX0_firstErased) 0 0 [(0, .inr (.inr (0, some s))), (1, .inl x1), (2, .inl x2)] [] M = L_X0_firstErased_7 fu (n + 1) s x1 x2 M := rfl
def F_X0_firstErased (fu : Nat) (s : Nat) (x1 : Int32) (M : xM) : Option (Int32 × xM) :=
  let x2_1 : Int32 := x1 * (gI M 0 s 1)
  L_X0_firstErased_7 fu fu s x1 x2_1 M
set_option maxRecDepth 100000 in
theorem q_X0_firstErased (fu : Nat) (s : Nat) (x1 : Int32) (M : xM) :
    xrun pX0_firstErased flX0 koX0 nwX0 [] [(7, fun bc bs ls st M => xz bc bs (lR ls 0 0 fun o => o.bind fun s => lI ls 1 fun x1 => lI ls 2 fun x2 => xe st (L_X0_firstErased_7 fu fu s x1 x2 M)))] xrtI 26 (xat 0 pX0_firstErased) 0 0 [(0, .inr (.inr (0, some s))), (1, .inl x1)] [] M = F_X0_firstErased fu s x1 M := rfl
def w_X0_firstErased (fu : Nat) {ρ : Type} (as : List xV) (M : xM) (k : Option xV → xM → Option ρ) : Option ρ := pR 0 as fun o as => o.bind fun s => pI as fun x1 as => xe as ((F_X0_firstErased fu s x1 M).bind fun p => k (some (.inl p.1)) p.2)
def pX0_freshBlock : List xE := [(0, 0, 1, 0, (-1), [], .iconst (-1)),
  (0, 1, 1, 0, 0, [], .istore_n 1),
  (0, 2, 1, 0, 0, [], .iconst 0),
  (0, 3, 1, 0, 0, [], .istore_n 2),
  (1, 4, 1, 0, 0, [], .iload_n 2),
  (0, 5, 1, 0, 0, [], .aload_n 0),
  (0, 6, 3, 0, 0, [], .getfield 54),
  (0, 9, 3, 69, 0, [], .if_icmp .ge 60),
  (0, 12, 1, 0, 0, [], .aload_n 0),
  (0, 13, 3, 0, 0, [], .getfield 58),
  (0, 16, 3, 36, 0, [], .ifCond .le 20),
  (0, 19, 1, 0, 0, [], .aload_n 0),
  (0, 20, 3, 0, 0, [], .getfield 15),
  (0, 23, 1, 0, 0, [], .iload_n 2),
  (0, 24, 1, 0, 0, [], .iaload),
  (0, 25, 1, 0, 0, [], .aload_n 0),
  (0, 26, 3, 0, 0, [], .getfield 58),
  (0, 29, 3, 36, 0, [], .if_icmp .ne 7),
  (0, 32, 1, 0, 1, [], .iconst 1),
  (0, 33, 3, 37, 0, [], .goto 4),
  (0, 36, 1, 0, 0, [], .iconst 0),
  (1, 37, 1, 0, 0, [], .istore_n 3),
  (0, 38, 1, 0, 0, [], .iload_n 3),
  (0, 39, 3, 63, 0, [], .ifCond .eq 24),
  (0, 42, 1, 0, 0, [], .iload_n 1),
  (0, 43, 3, 61, 0, [], .ifCond .lt 18),
  (0, 46, 1, 0, 0, [], .aload_n 0),
  (0, 47, 3, 0, 0, [], .getfield 9),
  (0, 50, 1, 0, 0, [], .iload_n 2),
  (0, 51, 1, 0, 0, [], .iaload),
  (0, 52, 1, 0, 0, [], .aload_n 0),
  (0, 53, 3, 0, 0, [], .getfield 9),
  (0, 56, 1, 0, 0, [], .iload_n 1),
  (0, 57, 1, 0, 0, [], .iaload),
  (0, 58, 3, 63, 0, [], .if_icmp .ge 5),
  (0, 61, 1, 0, 0, [], .iload_n 2),
  (0, 62, 1, 0, 0, [], .istore_n 1),
  (0, 63, 3, 0, 1, [], .iinc 2 1),
  (0, 66, 3, 4, 0, [], .goto (-62)),
  (0, 69, 1, 0, 0, [], .iload_n 1),
  (0, 70, 1, 0, 0, [], .ireturn)]
def J_X0_freshBlock_37 (fu : Nat) (k4 : Nat → Int32 → Int32 → xM → Option (Int32 × xM)) (s : Nat) (x1 : Int32) (x2 : Int32) (y0 : Int32) (M : xM) : Option (Int32 × xM) :=
  if y0 = 0 then
    k4 s x1 (x2 + 1) M
  else
    if x1 < 0 then
      k4 s x2 (x2 + 1) M
    else
      (gR M 0 s 7).bind fun a_1 =>
      gd (xin x2 (gN M 20 a_1)) <|
      (gR M 0 s 7).bind fun a_2 =>
      gd (xin x1 (gN M 20 a_2)) <|
      if (gI M 20 a_2 (xi x1)) ≤ (gI M 20 a_1 (xi x2)) then
        k4 s x1 (x2 + 1) M
      else
        k4 s x2 (x2 + 1) M
set_option maxRecDepth 100000 in
theorem q_X0_freshBlock_37 (fu : Nat) (k4 : Nat → Int32 → Int32 → xM → Option (Int32 × xM)) (s : Nat) (x1 : Int32) (x2 : Int32) (y0 : Int32) (M : xM) :
    xrun pX0_freshBlock flX0 koX0 nwX0 [] [(4, fun bc bs ls st M => xz bc bs (lR ls 0 0 fun o => o.bind fun s => lI ls 1 fun x1 => lI ls 2 fun x2 => xe st (k4 s x1 x2 M)))] xrtI 43 (xat 37 pX0_freshBlock) 0 0 [(0, .inr (.inr (0, some s))), (1, .inl x1), (2, .inl x2)] [.inl y0] M = J_X0_freshBlock_37 fu k4 s x1 x2 y0 M := rfl
def L_X0_freshBlock_4 (fu : Nat) : Nat → Nat → Int32 → Int32 → xM → Option (Int32 × xM)
  | 0, _, _, _, _ => none
  | n + 1, s, x1, x2, M =>
    if (gI M 0 s 0) ≤ x2 then
      (some (x1, M))
    else
      if (gI M 0 s 1) ≤ 0 then
        J_X0_freshBlock_37 fu (L_X0_freshBlock_4 fu n) s x1 x2 0 M
      else
        (gR M 0 s 8).bind fun a_1 =>
        gd (xin x2 (gN M 20 a_1)) <|
        if ¬ (gI M 20 a_1 (xi x2)) = (gI M 0 s 1) then
          J_X0_freshBlock_37 fu (L_X0_freshBlock_4 fu n) s x1 x2 0 M
        else
          J_X0_freshBlock_37 fu (L_X0_freshBlock_4 fu n) s x1 x2 1 M
set_option maxRecDepth 100000 in
theorem q_X0_freshBlock_4 (fu : Nat) (n : Nat) (s : Nat) (x1 : Int32) (x2 : Int32) (M : xM) :
    xrun pX0_freshBlock flX0 koX0 nwX0 [] [(37, fun bc bs ls st M => xz bc bs (lR ls 0 0 fun o => o.bind fun s => lI ls 1 fun x1 => lI ls 2 fun x2 => pI st fun y0 st => xe st (J_X0_freshBlock_37 fu (L_X0_freshBlock_4 fu n) s x1 x2 y0 M)))] xrtI 43 (xat 4 pX0_freshBlock) 0 0 [(0, .inr (.inr (0, some s))), (1, .inl x1), (2, .inl x2)] [] M = L_X0_freshBlock_4 fu (n + 1) s x1 x2 M := rfl
def F_X0_freshBlock (fu : Nat) (s : Nat) (M : xM) : Option (Int32 × xM) :=
  L_X0_freshBlock_4 fu fu s ((-1)) 0 M
set_option maxRecDepth 100000 in
theorem q_X0_freshBlock (fu : Nat) (s : Nat) (M : xM) :
    xrun pX0_freshBlock flX0 koX0 nwX0 [] [(4, fun bc bs ls st M => xz bc bs (lR ls 0 0 fun o => o.bind fun s => lI ls 1 fun x1 => lI ls 2 fun x2 => xe st (L_X0_freshBlock_4 fu fu s x1 x2 M)))] xrtI 43 (xat 0 pX0_freshBlock) 0 0 [(0, .inr (.inr (0, some s)))] [] M = F_X0_freshBlock fu s M := rfl
def w_X0_freshBlock (fu : Nat) {ρ : Type} (as : List xV) (M : xM) (k : Option xV → xM → Option ρ) : Option ρ := pR 0 as fun o as => o.bind fun s => xe as ((F_X0_freshBlock fu s M).bind fun p => k (some (.inl p.1)) p.2)
def pX0_greatestSeq : List xE := [(0, 0, 1, 0, 0, [], .iconst 0),
  (0, 1, 1, 0, 0, [], .istore_n 1),
  (0, 2, 1, 0, 0, [], .iconst 0),
  (0, 3, 1, 0, 0, [], .istore_n 2),
  (1, 4, 1, 0, 0, [], .iload_n 2),
  (0, 5, 1, 0, 0, [], .aload_n 0),
  (0, 6, 3, 0, 0, [], .getfield 61),
  (0, 9, 3, 29, 0, [], .if_icmp .ge 20),
  (0, 12, 1, 0, 0, [], .iload_n 1),
  (0, 13, 1, 0, 0, [], .aload_n 0),
  (0, 14, 3, 0, 0, [], .getfield 21),
  (0, 17, 1, 0, 0, [], .iload_n 2),
  (0, 18, 1, 0, 0, [], .iaload),
  (0, 19, 3, 0, 0, [], .invokestatic 51),
  (0, 22, 1, 0, 0, [], .istore_n 1),
  (0, 23, 3, 0, 1, [], .iinc 2 1),
  (0, 26, 3, 4, 0, [], .goto (-22)),
  (0, 29, 1, 0, 0, [], .iload_n 1),
  (0, 30, 1, 0, 0, [], .ireturn)]
def L_X0_greatestSeq_4 (fu : Nat) : Nat → Nat → Int32 → Int32 → xM → Option (Int32 × xM)
  | 0, _, _, _, _ => none
  | n + 1, s, x1, x2, M =>
    if (gI M 0 s 2) ≤ x2 then
      (some (x1, M))
    else
      (gR M 0 s 10).bind fun a_1 =>
      gd (xin x2 (gN M 20 a_1)) <|
      let x1_2 : Int32 := xmaxI x1 (gI M 20 a_1 (xi x2))
      L_X0_greatestSeq_4 fu n s x1_2 (x2 + 1) M
set_option maxRecDepth 100000 in
theorem q_X0_greatestSeq_4 (fu : Nat) (n : Nat) (s : Nat) (x1 : Int32) (x2 : Int32) (M : xM) :
    xrun pX0_greatestSeq flX0 koX0 nwX0 [(51, 2, 0, 0, w_max)] [(4, fun bc bs ls st M => xz bc bs (lR ls 0 0 fun o => o.bind fun s => lI ls 1 fun x1 => lI ls 2 fun x2 => xe st (L_X0_greatestSeq_4 fu n s x1 x2 M)))] xrtI 21 (xat 4 pX0_greatestSeq) 0 0 [(0, .inr (.inr (0, some s))), (1, .inl x1), (2, .inl x2)] [] M = L_X0_greatestSeq_4 fu (n + 1) s x1 x2 M := rfl
def F_X0_greatestSeq (fu : Nat) (s : Nat) (M : xM) : Option (Int32 × xM) :=
  L_X0_greatestSeq_4 fu fu s 0 0 M
set_option maxRecDepth 100000 in
theorem q_X0_greatestSeq (fu : Nat) (s : Nat) (M : xM) :
    xrun pX0_greatestSeq flX0 koX0 nwX0 [] [(4, fun bc bs ls st M => xz bc bs (lR ls 0 0 fun o => o.bind fun s => lI ls 1 fun x1 => lI ls 2 fun x2 => xe st (L_X0_greatestSeq_4 fu fu s x1 x2 M)))] xrtI 21 (xat 0 pX0_greatestSeq) 0 0 [(0, .inr (.inr (0, some s)))] [] M = F_X0_greatestSeq fu s M := rfl
def w_X0_greatestSeq (fu : Nat) {ρ : Type} (as : List xV) (M : xM) (k : Option xV → xM → Option ρ) : Option ρ := pR 0 as fun o as => o.bind fun s => xe as ((F_X0_greatestSeq fu s M).bind fun p => k (some (.inl p.1)) p.2)
def pX0_init : List xE := [(0, 0, 1, 0, 0, [], .aload_n 0),
  (0, 1, 3, 0, 0, [], .invokespecial 3),
  (0, 4, 1, 0, 0, [], .aload_n 0),
  (0, 5, 2, 0, 6, [], .bipush 6),
  (0, 7, 2, 6, 0, [], .newarray .int),
  (0, 9, 3, 0, 0, [], .putfield 9),
  (0, 12, 1, 0, 0, [], .aload_n 0),
  (0, 13, 2, 0, 6, [], .bipush 6),
  (0, 15, 2, 6, 0, [], .newarray .int),
  (0, 17, 3, 0, 0, [], .putfield 15),
  (0, 20, 1, 0, 0, [], .aload_n 0),
  (0, 21, 2, 0, 36, [], .bipush 36),
  (0, 23, 2, 36, 0, [], .newarray .int),
  (0, 25, 3, 0, 0, [], .putfield 18),
  (0, 28, 1, 0, 0, [], .aload_n 0),
  (0, 29, 2, 0, 36, [], .bipush 36),
  (0, 31, 2, 36, 0, [], .newarray .int),
  (0, 33, 3, 0, 0, [], .putfield 21),
  (0, 36, 1, 0, 0, [], .aload_n 0),
  (0, 37, 2, 0, 36, [], .bipush 36),
  (0, 39, 2, 36, 0, [], .newarray .int),
  (0, 41, 3, 0, 0, [], .putfield 24),
  (0, 44, 1, 0, 0, [], .aload_n 0),
  (0, 45, 2, 0, 36, [], .bipush 36),
  (0, 47, 2, 36, 0, [], .newarray .int),
  (0, 49, 3, 0, 0, [], .putfield 27),
  (0, 52, 1, 0, 0, [], .aload_n 0),
  (0, 53, 2, 0, 36, [], .bipush 36),
  (0, 55, 2, 36, 0, [], .newarray .int),
  (0, 57, 3, 0, 0, [], .putfield 30),
  (0, 60, 1, 0, 0, [], .aload_n 0),
  (0, 61, 3, 0, 144, [], .sipush 144),
  (0, 64, 2, 144, 0, [], .newarray .int),
  (0, 66, 3, 0, 0, [], .putfield 33),
  (0, 69, 1, 0, 0, [], .aload_n 0),
  (0, 70, 3, 0, 144, [], .sipush 144),
  (0, 73, 2, 144, 0, [], .newarray .int),
  (0, 75, 3, 0, 0, [], .putfield 36),
  (0, 78, 1, 0, 0, [], .return_)]
def F_X0_init (fu : Nat) (s : Nat) (M : xM) : Option xM :=
  gd ((6 : Int32) == Int32.ofNat 6) <|
  let M_1 := nC M 20 6
  let M_2 := sR M_1 0 s 7 (some (gA M 20))
  gd ((6 : Int32) == Int32.ofNat 6) <|
  let M_3 := nC M_2 20 6
  let M_4 := sR M_3 0 s 8 (some (gA M_2 20))
  gd ((36 : Int32) == Int32.ofNat 36) <|
  let M_5 := nC M_4 20 36
  let M_6 := sR M_5 0 s 9 (some (gA M_4 20))
  gd ((36 : Int32) == Int32.ofNat 36) <|
  let M_7 := nC M_6 20 36
  let M_8 := sR M_7 0 s 10 (some (gA M_6 20))
  gd ((36 : Int32) == Int32.ofNat 36) <|
  let M_9 := nC M_8 20 36
  let M_10 := sR M_9 0 s 11 (some (gA M_8 20))
  gd ((36 : Int32) == Int32.ofNat 36) <|
  let M_11 := nC M_10 20 36
  let M_12 := sR M_11 0 s 12 (some (gA M_10 20))
  gd ((36 : Int32) == Int32.ofNat 36) <|
  let M_13 := nC M_12 20 36
  let M_14 := sR M_13 0 s 13 (some (gA M_12 20))
  gd ((144 : Int32) == Int32.ofNat 144) <|
  let M_15 := nC M_14 20 144
  let M_16 := sR M_15 0 s 14 (some (gA M_14 20))
  gd ((144 : Int32) == Int32.ofNat 144) <|
  let M_17 := nC M_16 20 144
  let M_18 := sR M_17 0 s 15 (some (gA M_16 20))
  some M_18
set_option maxRecDepth 100000 in
theorem q_X0_init (fu : Nat) (s : Nat) (M : xM) :
    xrun pX0_init flX0 koX0 nwX0 [(3, 1, 0, 0, w_objInit)] [] xrtV 41 (xat 0 pX0_init) 9 480 [(0, .inr (.inr (0, some s)))] [] M = F_X0_init fu s M := rfl
def w_X0_init (fu : Nat) {ρ : Type} (as : List xV) (M : xM) (k : Option xV → xM → Option ρ) : Option ρ := pR 0 as fun o as => o.bind fun s => xe as ((F_X0_init fu s M).bind fun p => k none p)
def pX0_isBlock : List xE := [(0, 0, 1, 0, 0, [], .iload_n 1),
  (0, 1, 3, 22, 0, [], .ifCond .lt 21),
  (0, 4, 1, 0, 0, [], .iload_n 1),
  (0, 5, 1, 0, 0, [], .aload_n 0),
  (0, 6, 3, 0, 0, [], .getfield 54),
  (0, 9, 3, 22, 0, [], .if_icmp .ge 13),
  (0, 12, 1, 0, 0, [], .iload_n 1),
  (0, 13, 2, 0, 6, [], .bipush 6),
  (0, 15, 3, 22, 0, [], .if_icmp .ge 7),
  (0, 18, 1, 0, 1, [], .iconst 1),
  (0, 19, 3, 23, 0, [], .goto 4),
  (0, 22, 1, 0, 0, [], .iconst 0),
  (0, 23, 1, 0, 0, [], .ireturn)]
def F_X0_isBlock (fu : Nat) (s : Nat) (x1 : Int32) (M : xM) : Option (Int32 × xM) :=
  if x1 < 0 then
    gd (xbool 0) (some (0, M))
  else
    if (gI M 0 s 0) ≤ x1 then
      gd (xbool 0) (some (0, M))
    else
      if 6 ≤ x1 then
        gd (xbool 0) (some (0, M))
      else
        gd (xbool 1) (some (1, M))
set_option maxRecDepth 100000 in
theorem q_X0_isBlock (fu : Nat) (s : Nat) (x1 : Int32) (M : xM) :
    xrun pX0_isBlock flX0 koX0 nwX0 [] [] xrtZ 15 (xat 0 pX0_isBlock) 0 0 [(0, .inr (.inr (0, some s))), (1, .inl x1)] [] M = F_X0_isBlock fu s x1 M := rfl
def w_X0_isBlock (fu : Nat) {ρ : Type} (as : List xV) (M : xM) (k : Option xV → xM → Option ρ) : Option ρ := pR 0 as fun o as => o.bind fun s => pI as fun x1 as => xe as ((F_X0_isBlock fu s x1 M).bind fun p => k (some (.inl p.1)) p.2)
def pX0_isInJournal : List xE := [(0, 0, 1, 0, 0, [], .aload_n 0),
  (0, 1, 3, 0, 0, [], .getfield 18),
  (0, 4, 1, 0, 0, [], .iload_n 1),
  (0, 5, 1, 0, 0, [], .iaload),
  (0, 6, 1, 0, 1, [], .iconst 1),
  (0, 7, 3, 20, 0, [], .if_icmp .eq 13),
  (0, 10, 1, 0, 0, [], .aload_n 0),
  (0, 11, 3, 0, 0, [], .getfield 18),
  (0, 14, 1, 0, 0, [], .iload_n 1),
  (0, 15, 1, 0, 0, [], .iaload),
  (0, 16, 1, 0, 2, [], .iconst 2),
  (0, 17, 3, 37, 0, [], .if_icmp .ne 20),
  (1, 20, 1, 0, 0, [], .aload_n 0),
  (0, 21, 3, 0, 0, [], .getfield 21),
  (0, 24, 1, 0, 0, [], .iload_n 1),
  (0, 25, 1, 0, 0, [], .iaload),
  (0, 26, 1, 0, 0, [], .aload_n 0),
  (0, 27, 3, 0, 0, [], .getfield 70),
  (0, 30, 3, 37, 0, [], .if_icmp .le 7),
  (0, 33, 1, 0, 1, [], .iconst 1),
  (0, 34, 3, 38, 0, [], .goto 4),
  (0, 37, 1, 0, 0, [], .iconst 0),
  (0, 38, 1, 0, 0, [], .ireturn)]
def J_X0_isInJournal_20 (fu : Nat) (s : Nat) (x1 : Int32) (M : xM) : Option (Int32 × xM) :=
  (gR M 0 s 10).bind fun a_1 =>
  gd (xin x1 (gN M 20 a_1)) <|
  if (gI M 20 a_1 (xi x1)) ≤ (gI M 0 s 5) then
    gd (xbool 0) (some (0, M))
  else
    gd (xbool 1) (some (1, M))
set_option maxRecDepth 100000 in
theorem q_X0_isInJournal_20 (fu : Nat) (s : Nat) (x1 : Int32) (M : xM) :
    xrun pX0_isInJournal flX0 koX0 nwX0 [] [] xrtZ 25 (xat 20 pX0_isInJournal) 0 0 [(0, .inr (.inr (0, some s))), (1, .inl x1)] [] M = J_X0_isInJournal_20 fu s x1 M := rfl
def F_X0_isInJournal (fu : Nat) (s : Nat) (x1 : Int32) (M : xM) : Option (Int32 × xM) :=
  (gR M 0 s 9).bind fun a_1 =>
  gd (xin x1 (gN M 20 a_1)) <|
  if (gI M 20 a_1 (xi x1)) = 1 then
    J_X0_isInJournal_20 fu s x1 M
  else
    (gR M 0 s 9).bind fun a_2 =>
    gd (xin x1 (gN M 20 a_2)) <|
    if ¬ (gI M 20 a_2 (xi x1)) = 2 then
      gd (xbool 0) (some (0, M))
    else
      J_X0_isInJournal_20 fu s x1 M
set_option maxRecDepth 100000 in
theorem q_X0_isInJournal (fu : Nat) (s : Nat) (x1 : Int32) (M : xM) :
    xrun pX0_isInJournal flX0 koX0 nwX0 [] [(20, fun bc bs ls st M => xz bc bs (lR ls 0 0 fun o => o.bind fun s => lI ls 1 fun x1 => xe st (J_X0_isInJournal_20 fu s x1 M)))] xrtZ 25 (xat 0 pX0_isInJournal) 0 0 [(0, .inr (.inr (0, some s))), (1, .inl x1)] [] M = F_X0_isInJournal fu s x1 M := rfl
def w_X0_isInJournal (fu : Nat) {ρ : Type} (as : List xV) (M : xM) (k : Option xV → xM → Option ρ) : Option ρ := pR 0 as fun o as => o.bind fun s => pI as fun x1 as => xe as ((F_X0_isInJournal fu s x1 M).bind fun p => k (some (.inl p.1)) p.2)
def pX0_isSlot : List xE := [(0, 0, 1, 0, 0, [], .iload_n 1),
  (0, 1, 3, 22, 0, [], .ifCond .lt 21),
  (0, 4, 1, 0, 0, [], .iload_n 1),
  (0, 5, 1, 0, 0, [], .aload_n 0),
  (0, 6, 3, 0, 0, [], .getfield 61),
  (0, 9, 3, 22, 0, [], .if_icmp .ge 13),
  (0, 12, 1, 0, 0, [], .iload_n 1),
  (0, 13, 2, 0, 36, [], .bipush 36),
  (0, 15, 3, 22, 0, [], .if_icmp .ge 7),
  (0, 18, 1, 0, 1, [], .iconst 1),
  (0, 19, 3, 23, 0, [], .goto 4),
  (0, 22, 1, 0, 0, [], .iconst 0),
  (0, 23, 1, 0, 0, [], .ireturn)]
def F_X0_isSlot (fu : Nat) (s : Nat) (x1 : Int32) (M : xM) : Option (Int32 × xM) :=
  if x1 < 0 then
    gd (xbool 0) (some (0, M))
  else
    if (gI M 0 s 2) ≤ x1 then
      gd (xbool 0) (some (0, M))
    else
      if 36 ≤ x1 then
        gd (xbool 0) (some (0, M))
      else
        gd (xbool 1) (some (1, M))
set_option maxRecDepth 100000 in
theorem q_X0_isSlot (fu : Nat) (s : Nat) (x1 : Int32) (M : xM) :
    xrun pX0_isSlot flX0 koX0 nwX0 [] [] xrtZ 15 (xat 0 pX0_isSlot) 0 0 [(0, .inr (.inr (0, some s))), (1, .inl x1)] [] M = F_X0_isSlot fu s x1 M := rfl
def w_X0_isSlot (fu : Nat) {ρ : Type} (as : List xV) (M : xM) (k : Option xV → xM → Option ρ) : Option ρ := pR 0 as fun o as => o.bind fun s => pI as fun x1 as => xe as ((F_X0_isSlot fu s x1 M).bind fun p => k (some (.inl p.1)) p.2)
def pX0_isWhole : List xE := [(0, 0, 1, 0, 0, [], .aload_n 0),
  (0, 1, 3, 0, 0, [], .getfield 18),
  (0, 4, 1, 0, 0, [], .iload_n 1),
  (0, 5, 1, 0, 0, [], .iaload),
  (0, 6, 1, 0, 3, [], .iconst 3),
  (0, 7, 3, 45, 0, [], .if_icmp .ne 38),
  (0, 10, 1, 0, 0, [], .aload_n 0),
  (0, 11, 3, 0, 0, [], .getfield 21),
  (0, 14, 1, 0, 0, [], .iload_n 1),
  (0, 15, 1, 0, 0, [], .iaload),
  (0, 16, 1, 0, 0, [], .aload_n 0),
  (0, 17, 3, 0, 0, [], .getfield 70),
  (0, 20, 3, 45, 0, [], .if_icmp .gt 25),
  (0, 23, 1, 0, 0, [], .aload_n 0),
  (0, 24, 3, 0, 0, [], .getfield 21),
  (0, 27, 1, 0, 0, [], .iload_n 1),
  (0, 28, 1, 0, 0, [], .iaload),
  (0, 29, 1, 0, 0, [], .aload_n 0),
  (0, 30, 3, 0, 0, [], .getfield 70),
  (0, 33, 1, 0, 0, [], .aload_n 0),
  (0, 34, 3, 0, 0, [], .getfield 73),
  (0, 37, 1, 0, 0, [], .isub),
  (0, 38, 3, 45, 0, [], .if_icmp .le 7),
  (0, 41, 1, 0, 1, [], .iconst 1),
  (0, 42, 3, 46, 0, [], .goto 4),
  (0, 45, 1, 0, 0, [], .iconst 0),
  (0, 46, 1, 0, 0, [], .ireturn)]
def F_X0_isWhole (fu : Nat) (s : Nat) (x1 : Int32) (M : xM) : Option (Int32 × xM) :=
  (gR M 0 s 9).bind fun a_1 =>
  gd (xin x1 (gN M 20 a_1)) <|
  if ¬ (gI M 20 a_1 (xi x1)) = 3 then
    gd (xbool 0) (some (0, M))
  else
    (gR M 0 s 10).bind fun a_2 =>
    gd (xin x1 (gN M 20 a_2)) <|
    if (gI M 0 s 5) < (gI M 20 a_2 (xi x1)) then
      gd (xbool 0) (some (0, M))
    else
      (gR M 0 s 10).bind fun a_3 =>
      gd (xin x1 (gN M 20 a_3)) <|
      if (gI M 20 a_3 (xi x1)) ≤ ((gI M 0 s 5) - (gI M 0 s 6)) then
        gd (xbool 0) (some (0, M))
      else
        gd (xbool 1) (some (1, M))
set_option maxRecDepth 100000 in
theorem q_X0_isWhole (fu : Nat) (s : Nat) (x1 : Int32) (M : xM) :
    xrun pX0_isWhole flX0 koX0 nwX0 [] [] xrtZ 29 (xat 0 pX0_isWhole) 0 0 [(0, .inr (.inr (0, some s))), (1, .inl x1)] [] M = F_X0_isWhole fu s x1 M := rfl
def w_X0_isWhole (fu : Nat) {ρ : Type} (as : List xV) (M : xM) (k : Option xV → xM → Option ρ) : Option ρ := pR 0 as fun o as => o.bind fun s => pI as fun x1 as => xe as ((F_X0_isWhole fu s x1 M).bind fun p => k (some (.inl p.1)) p.2)
def pX0_spreadOfErasures : List xE := [(0, 0, 1, 0, 0, [], .aload_n 0),
  (0, 1, 3, 0, 0, [], .getfield 54),
  (0, 4, 3, 16, 0, [], .ifCond .le 12),
  (0, 7, 1, 0, 0, [], .aload_n 0),
  (0, 8, 3, 0, 0, [], .getfield 9),
  (0, 11, 1, 0, 0, [], .iconst 0),
  (0, 12, 1, 0, 0, [], .iaload),
  (0, 13, 3, 17, 0, [], .goto 4),
  (0, 16, 1, 0, 0, [], .iconst 0),
  (0, 17, 1, 0, 0, [], .istore_n 1),
  (0, 18, 1, 0, 0, [], .iload_n 1),
  (0, 19, 1, 0, 0, [], .istore_n 2),
  (0, 20, 1, 0, 1, [], .iconst 1),
  (0, 21, 1, 0, 0, [], .istore_n 3),
  (1, 22, 1, 0, 0, [], .iload_n 3),
  (0, 23, 1, 0, 0, [], .aload_n 0),
  (0, 24, 3, 0, 0, [], .getfield 54),
  (0, 27, 3, 58, 0, [], .if_icmp .ge 31),
  (0, 30, 1, 0, 0, [], .iload_n 1),
  (0, 31, 1, 0, 0, [], .aload_n 0),
  (0, 32, 3, 0, 0, [], .getfield 9),
  (0, 35, 1, 0, 0, [], .iload_n 3),
  (0, 36, 1, 0, 0, [], .iaload),
  (0, 37, 3, 0, 0, [], .invokestatic 51),
  (0, 40, 1, 0, 0, [], .istore_n 1),
  (0, 41, 1, 0, 0, [], .iload_n 2),
  (0, 42, 1, 0, 0, [], .aload_n 0),
  (0, 43, 3, 0, 0, [], .getfield 9),
  (0, 46, 1, 0, 0, [], .iload_n 3),
  (0, 47, 1, 0, 0, [], .iaload),
  (0, 48, 3, 0, 0, [], .invokestatic 45),
  (0, 51, 1, 0, 0, [], .istore_n 2),
  (0, 52, 3, 0, 1, [], .iinc 3 1),
  (0, 55, 3, 22, 0, [], .goto (-33)),
  (0, 58, 1, 0, 0, [], .iload_n 1),
  (0, 59, 1, 0, 0, [], .iload_n 2),
  (0, 60, 1, 0, 0, [], .isub),
  (0, 61, 1, 0, 0, [], .ireturn)]
def L_X0_spreadOfErasures_22 (fu : Nat) : Nat → Nat → Int32 → Int32 → Int32 → xM → Option (Int32 × xM)
  | 0, _, _, _, _, _ => none
  | n + 1, s, x1, x2, x3, M =>
    if (gI M 0 s 0) ≤ x3 then
      (some (x1 - x2, M))
    else
      (gR M 0 s 7).bind fun a_1 =>
      gd (xin x3 (gN M 20 a_1)) <|
      let x1_2 : Int32 := xmaxI x1 (gI M 20 a_1 (xi x3))
      (gR M 0 s 7).bind fun a_3 =>
      gd (xin x3 (gN M 20 a_3)) <|
      let x2_4 : Int32 := xminI x2 (gI M 20 a_3 (xi x3))
      L_X0_spreadOfErasures_22 fu n s x1_2 x2_4 (x3 + 1) M
set_option maxRecDepth 100000 in
theorem q_X0_spreadOfErasures_22 (fu : Nat) (n : Nat) (s : Nat) (x1 : Int32) (x2 : Int32) (x3 : Int32) (M : xM) :
    xrun pX0_spreadOfErasures flX0 koX0 nwX0 [(45, 2, 0, 0, w_min), (51, 2, 0, 0, w_max)] [(22, fun bc bs ls st M => xz bc bs (lR ls 0 0 fun o => o.bind fun s => lI ls 1 fun x1 => lI ls 2 fun x2 => lI ls 3 fun x3 => xe st (L_X0_spreadOfErasures_22 fu n s x1 x2 x3 M)))] xrtI 40 (xat 22 pX0_spreadOfErasures) 0 0 [(0, .inr (.inr (0, some s))), (1, .inl x1), (2, .inl x2), (3, .inl x3)] [] M = L_X0_spreadOfErasures_22 fu (n + 1) s x1 x2 x3 M := rfl
def F_X0_spreadOfErasures (fu : Nat) (s : Nat) (M : xM) : Option (Int32 × xM) :=
  if (gI M 0 s 0) ≤ 0 then
    L_X0_spreadOfErasures_22 fu fu s 0 0 1 M
  else
    (gR M 0 s 7).bind fun a_1 =>
    gd (xin 0 (gN M 20 a_1)) <|
    let x1_2 : Int32 := gI M 20 a_1 (xi 0)
    L_X0_spreadOfErasures_22 fu fu s x1_2 x1_2 1 M
set_option maxRecDepth 100000 in
theorem q_X0_spreadOfErasures (fu : Nat) (s : Nat) (M : xM) :
    xrun pX0_spreadOfErasures flX0 koX0 nwX0 [] [(22, fun bc bs ls st M => xz bc bs (lR ls 0 0 fun o => o.bind fun s => lI ls 1 fun x1 => lI ls 2 fun x2 => lI ls 3 fun x3 => xe st (L_X0_spreadOfErasures_22 fu fu s x1 x2 x3 M)))] xrtI 40 (xat 0 pX0_spreadOfErasures) 0 0 [(0, .inr (.inr (0, some s)))] [] M = F_X0_spreadOfErasures fu s M := rfl
def w_X0_spreadOfErasures (fu : Nat) {ρ : Type} (as : List xV) (M : xM) (k : Option xV → xM → Option ρ) : Option ρ := pR 0 as fun o as => o.bind fun s => xe as ((F_X0_spreadOfErasures fu s M).bind fun p => k (some (.inl p.1)) p.2)
def pX0_start : List xE := [(0, 0, 1, 0, 0, [], .aload_n 0),
  (0, 1, 1, 0, 0, [], .iconst 0),
  (0, 2, 1, 0, 0, [], .aload_n 1),
  (0, 3, 3, 0, 0, [], .getfield 39),
  (0, 6, 2, 0, 6, [], .bipush 6),
  (0, 8, 3, 0, 0, [], .invokestatic 45),
  (0, 11, 3, 0, 0, [], .invokestatic 51),
  (0, 14, 3, 0, 0, [], .putfield 54),
  (0, 17, 1, 0, 0, [], .aload_n 0),
  (0, 18, 1, 0, 0, [], .iconst 0),
  (0, 19, 1, 0, 0, [], .aload_n 1),
  (0, 20, 3, 0, 0, [], .getfield 55),
  (0, 23, 2, 0, 6, [], .bipush 6),
  (0, 25, 3, 0, 0, [], .invokestatic 45),
  (0, 28, 3, 0, 0, [], .invokestatic 51),
  (0, 31, 3, 0, 0, [], .putfield 58),
  (0, 34, 1, 0, 0, [], .aload_n 0),
  (0, 35, 1, 0, 0, [], .aload_n 0),
  (0, 36, 3, 0, 0, [], .getfield 54),
  (0, 39, 1, 0, 0, [], .aload_n 0),
  (0, 40, 3, 0, 0, [], .getfield 58),
  (0, 43, 1, 0, 0, [], .imul),
  (0, 44, 3, 0, 0, [], .putfield 61),
  (0, 47, 1, 0, 0, [], .aload_n 0),
  (0, 48, 1, 0, 0, [], .aload_n 0),
  (0, 49, 3, 0, 0, [], .getfield 61),
  (0, 52, 3, 0, 0, [], .putfield 64),
  (0, 55, 1, 0, 0, [], .aload_n 0),
  (0, 56, 1, 0, (-1), [], .iconst (-1)),
  (0, 57, 3, 0, 0, [], .putfield 67),
  (0, 60, 1, 0, 0, [], .aload_n 0),
  (0, 61, 1, 0, 0, [], .iconst 0),
  (0, 62, 3, 0, 0, [], .putfield 70),
  (0, 65, 1, 0, 0, [], .aload_n 0),
  (0, 66, 1, 0, 0, [], .iconst 0),
  (0, 67, 3, 0, 0, [], .putfield 73),
  (0, 70, 1, 0, 0, [], .iconst 0),
  (0, 71, 1, 0, 0, [], .istore_n 2),
  (1, 72, 1, 0, 0, [], .iload_n 2),
  (0, 73, 2, 0, 6, [], .bipush 6),
  (0, 75, 3, 101, 0, [], .if_icmp .ge 26),
  (0, 78, 1, 0, 0, [], .aload_n 0),
  (0, 79, 3, 0, 0, [], .getfield 9),
  (0, 82, 1, 0, 0, [], .iload_n 2),
  (0, 83, 1, 0, 0, [], .iconst 0),
  (0, 84, 1, 0, 0, [], .iastore),
  (0, 85, 1, 0, 0, [], .aload_n 0),
  (0, 86, 3, 0, 0, [], .getfield 15),
  (0, 89, 1, 0, 0, [], .iload_n 2),
  (0, 90, 1, 0, 0, [], .aload_n 0),
  (0, 91, 3, 0, 0, [], .getfield 58),
  (0, 94, 1, 0, 0, [], .iastore),
  (0, 95, 3, 0, 1, [], .iinc 2 1),
  (0, 98, 3, 72, 0, [], .goto (-26)),
  (0, 101, 1, 0, 0, [], .iconst 0),
  (0, 102, 1, 0, 0, [], .istore_n 2),
  (1, 103, 1, 0, 0, [], .iload_n 2),
  (0, 104, 2, 0, 36, [], .bipush 36),
  (0, 106, 3, 125, 0, [], .if_icmp .ge 19),
  (0, 109, 1, 0, 0, [], .aload_n 0),
  (0, 110, 1, 0, 0, [], .iload_n 2),
  (0, 111, 1, 0, 0, [], .iconst 0),
  (0, 112, 1, 0, (-1), [], .iconst (-1)),
  (0, 113, 1, 0, (-1), [], .iconst (-1)),
  (0, 114, 1, 0, (-1), [], .iconst (-1)),
  (0, 115, 1, 0, (-1), [], .iconst (-1)),
  (0, 116, 3, 0, 0, [], .invokevirtual 76),
  (0, 119, 3, 0, 1, [], .iinc 2 1),
  (0, 122, 3, 103, 0, [], .goto (-19)),
  (0, 125, 1, 0, 0, [], .return_)]
def L_X0_start_103 (fu : Nat) : Nat → Nat → Int32 → xM → Option xM
  | 0, _, _, _ => none
  | n + 1, s, x2, M =>
    if 36 ≤ x2 then
      some M
    else
      (F_X0_fill fu s x2 0 ((-1)) ((-1)) ((-1)) ((-1)) M).bind fun p_1 =>
      L_X0_start_103 fu n s (x2 + 1) p_1
set_option maxRecDepth 100000 in
theorem q_X0_start_103 (fu : Nat) (n : Nat) (s : Nat) (x2 : Int32) (M : xM) :
    xrun pX0_start flX0 koX0 nwX0 [(76, 7, 0, 0, w_X0_fill fu)] [(103, fun bc bs ls st M => xz bc bs (lR ls 0 0 fun o => o.bind fun s => lI ls 2 fun x2 => xe st (L_X0_start_103 fu n s x2 M)))] xrtV 72 (xat 103 pX0_start) 0 0 [(0, .inr (.inr (0, some s))), (2, .inl x2)] [] M = L_X0_start_103 fu (n + 1) s x2 M := rfl
def L_X0_start_72 (fu : Nat) : Nat → Nat → Int32 → xM → Option xM
  | 0, _, _, _ => none
  | n + 1, s, x2, M =>
    if 6 ≤ x2 then
      L_X0_start_103 fu fu s 0 M
    else
      (gR M 0 s 7).bind fun a_1 =>
      gd (xin x2 (gN M 20 a_1)) <|
      let M_2 := sI M 20 a_1 (xi x2) 0
      (gR M_2 0 s 8).bind fun a_3 =>
      gd (xin x2 (gN M_2 20 a_3)) <|
      let M_4 := sI M_2 20 a_3 (xi x2) (gI M_2 0 s 1)
      L_X0_start_72 fu n s (x2 + 1) M_4
set_option maxRecDepth 100000 in
theorem q_X0_start_72 (fu : Nat) (n : Nat) (s : Nat) (x2 : Int32) (M : xM) :
    xrun pX0_start flX0 koX0 nwX0 [] [(72, fun bc bs ls st M => xz bc bs (lR ls 0 0 fun o => o.bind fun s => lI ls 2 fun x2 => xe st (L_X0_start_72 fu n s x2 M))),
    (103, fun bc bs ls st M => xz bc bs (lR ls 0 0 fun o => o.bind fun s => lI ls 2 fun x2 => xe st (L_X0_start_103 fu fu s x2 M)))] xrtV 72 (xat 72 pX0_start) 0 0 [(0, .inr (.inr (0, some s))), (2, .inl x2)] [] M = L_X0_start_72 fu (n + 1) s x2 M := rfl
def F_X0_start (fu : Nat) (s : Nat) (x1 : Option Nat) (M : xM) : Option xM :=
  x1.bind fun a_1 =>
  let M_2 := sI M 0 s 0 (xmaxI 0 (xminI (gI M 7 a_1 0) 6))
  x1.bind fun a_3 =>
  let M_4 := sI M_2 0 s 1 (xmaxI 0 (xminI (gI M_2 7 a_3 1) 6))
  let M_5 := sI M_4 0 s 2 ((gI M_4 0 s 0) * (gI M_4 0 s 1))
  let M_6 := sI M_5 0 s 3 (gI M_5 0 s 2)
  let M_7 := sI M_6 0 s 4 ((-1))
  let M_8 := sI M_7 0 s 5 0
  let M_9 := sI M_8 0 s 6 0
  L_X0_start_72 fu fu s 0 M_9
set_option maxRecDepth 100000 in
theorem q_X0_start (fu : Nat) (s : Nat) (x1 : Option Nat) (M : xM) :
    xrun pX0_start flX0 koX0 nwX0 [(45, 2, 0, 0, w_min), (51, 2, 0, 0, w_max)] [(72, fun bc bs ls st M => xz bc bs (lR ls 0 0 fun o => o.bind fun s => lI ls 2 fun x2 => xe st (L_X0_start_72 fu fu s x2 M)))] xrtV 72 (xat 0 pX0_start) 0 0 [(0, .inr (.inr (0, some s))), (1, .inr (.inr (7, x1)))] [] M = F_X0_start fu s x1 M := rfl
def w_X0_start (fu : Nat) {ρ : Type} (as : List xV) (M : xM) (k : Option xV → xM → Option ρ) : Option ρ := pR 0 as fun o as => o.bind fun s => pR 7 as fun x1 as => xe as ((F_X0_start fu s x1 M).bind fun p => k none p)
def pX0_takeSlot : List xE := [(0, 0, 1, 0, 0, [], .aload_n 0),
  (0, 1, 3, 0, 0, [], .getfield 67),
  (0, 4, 3, 19, 0, [], .ifCond .lt 15),
  (0, 7, 1, 0, 0, [], .aload_n 0),
  (0, 8, 3, 0, 0, [], .getfield 15),
  (0, 11, 1, 0, 0, [], .aload_n 0),
  (0, 12, 3, 0, 0, [], .getfield 67),
  (0, 15, 1, 0, 0, [], .iaload),
  (0, 16, 3, 35, 0, [], .ifCond .ne 19),
  (1, 19, 1, 0, 0, [], .aload_n 0),
  (0, 20, 3, 0, 0, [], .invokevirtual 86),
  (0, 23, 1, 0, 0, [], .istore_n 1),
  (0, 24, 1, 0, 0, [], .iload_n 1),
  (0, 25, 3, 30, 0, [], .ifCond .ge 5),
  (0, 28, 1, 0, (-1), [], .iconst (-1)),
  (0, 29, 1, 0, 0, [], .ireturn),
  (0, 30, 1, 0, 0, [], .aload_n 0),
  (0, 31, 1, 0, 0, [], .iload_n 1),
  (0, 32, 3, 0, 0, [], .putfield 67),
  (1, 35, 1, 0, 0, [], .aload_n 0),
  (0, 36, 1, 0, 0, [], .aload_n 0),
  (0, 37, 3, 0, 0, [], .getfield 67),
  (0, 40, 3, 0, 0, [], .invokevirtual 90),
  (0, 43, 1, 0, 0, [], .istore_n 1),
  (0, 44, 1, 0, 0, [], .iload_n 1),
  (0, 45, 3, 71, 0, [], .ifCond .lt 26),
  (0, 48, 1, 0, 0, [], .aload_n 0),
  (0, 49, 3, 0, 0, [], .getfield 15),
  (0, 52, 1, 0, 0, [], .aload_n 0),
  (0, 53, 3, 0, 0, [], .getfield 67),
  (0, 56, 1, 0, 0, [], .dup2),
  (0, 57, 1, 0, 0, [], .iaload),
  (0, 58, 1, 0, 1, [], .iconst 1),
  (0, 59, 1, 0, 0, [], .isub),
  (0, 60, 1, 0, 0, [], .iastore),
  (0, 61, 1, 0, 0, [], .aload_n 0),
  (0, 62, 1, 0, 0, [], .dup),
  (0, 63, 3, 0, 0, [], .getfield 64),
  (0, 66, 1, 0, 1, [], .iconst 1),
  (0, 67, 1, 0, 0, [], .isub),
  (0, 68, 3, 0, 0, [], .putfield 64),
  (0, 71, 1, 0, 0, [], .iload_n 1),
  (0, 72, 1, 0, 0, [], .ireturn)]
def J_X0_takeSlot_35 (fu : Nat) (s : Nat) (M : xM) : Option (Int32 × xM) :=
  (F_X0_firstErased fu s (gI M 0 s 4) M).bind fun p_1 =>
  if p_1.1 < 0 then
    (some (p_1.1, p_1.2))
  else
    (gR p_1.2 0 s 8).bind fun a_2 =>
    gd (xin (gI p_1.2 0 s 4) (gN p_1.2 20 a_2)) <|
    (gR p_1.2 0 s 8).bind fun a_3 =>
    gd (xin (gI p_1.2 0 s 4) (gN p_1.2 20 a_3)) <|
    let M_4 := sI p_1.2 20 a_3 (xi (gI p_1.2 0 s 4)) ((gI p_1.2 20 a_2 (xi (gI p_1.2 0 s 4))) - 1)
    let M_5 := sI M_4 0 s 3 ((gI M_4 0 s 3) - 1)
    (some (p_1.1, M_5))
set_option maxRecDepth 100000 in
theorem q_X0_takeSlot_35 (fu : Nat) (s : Nat) (M : xM) :
    xrun pX0_takeSlot flX0 koX0 nwX0 [(90, 2, 0, 0, w_X0_firstErased fu)] [] xrtI 45 (xat 35 pX0_takeSlot) 0 0 [(0, .inr (.inr (0, some s)))] [] M = J_X0_takeSlot_35 fu s M := rfl
def J_X0_takeSlot_19 (fu : Nat) (s : Nat) (M : xM) : Option (Int32 × xM) :=
  (F_X0_freshBlock fu s M).bind fun p_1 =>
  if 0 ≤ p_1.1 then
    let M_2 := sI p_1.2 0 s 4 p_1.1
    J_X0_takeSlot_35 fu s M_2
  else
    (some ((-1), p_1.2))
set_option maxRecDepth 100000 in
theorem q_X0_takeSlot_19 (fu : Nat) (s : Nat) (M : xM) :
    xrun pX0_takeSlot flX0 koX0 nwX0 [(86, 1, 0, 0, w_X0_freshBlock fu)] [(35, fun bc bs ls st M => xz bc bs (lR ls 0 0 fun o => o.bind fun s => xe st (J_X0_takeSlot_35 fu s M)))] xrtI 45 (xat 19 pX0_takeSlot) 0 0 [(0, .inr (.inr (0, some s)))] [] M = J_X0_takeSlot_19 fu s M := rfl
def F_X0_takeSlot (fu : Nat) (s : Nat) (M : xM) : Option (Int32 × xM) :=
  if (gI M 0 s 4) < 0 then
    J_X0_takeSlot_19 fu s M
  else
    (gR M 0 s 8).bind fun a_1 =>
    gd (xin (gI M 0 s 4) (gN M 20 a_1)) <|
    if ¬ (gI M 20 a_1 (xi (gI M 0 s 4))) = 0 then
      J_X0_takeSlot_35 fu s M
    else
      J_X0_takeSlot_19 fu s M
set_option maxRecDepth 100000 in
theorem q_X0_takeSlot (fu : Nat) (s : Nat) (M : xM) :
    xrun pX0_takeSlot flX0 koX0 nwX0 [] [(19, fun bc bs ls st M => xz bc bs (lR ls 0 0 fun o => o.bind fun s => xe st (J_X0_takeSlot_19 fu s M))),
    (35, fun bc bs ls st M => xz bc bs (lR ls 0 0 fun o => o.bind fun s => xe st (J_X0_takeSlot_35 fu s M)))] xrtI 45 (xat 0 pX0_takeSlot) 0 0 [(0, .inr (.inr (0, some s)))] [] M = F_X0_takeSlot fu s M := rfl
def w_X0_takeSlot (fu : Nat) {ρ : Type} (as : List xV) (M : xM) (k : Option xV → xM → Option ρ) : Option ρ := pR 0 as fun o as => o.bind fun s => xe as ((F_X0_takeSlot fu s M).bind fun p => k (some (.inl p.1)) p.2)
def pX0_tell : List xE := [(0, 0, 1, 0, 0, [], .iload_n 2),
  (0, 1, 31, 60, 0, [(0, 32), (1, 39), (2, 46), (3, 53)], .tableswitch 59 0 3 #[31, 38, 45, 52]),
  (0, 32, 1, 0, 0, [], .aload_n 0),
  (0, 33, 3, 0, 0, [], .getfield 18),
  (0, 36, 1, 0, 0, [], .iload_n 1),
  (0, 37, 1, 0, 0, [], .iaload),
  (0, 38, 1, 0, 0, [], .ireturn),
  (0, 39, 1, 0, 0, [], .aload_n 0),
  (0, 40, 3, 0, 0, [], .getfield 21),
  (0, 43, 1, 0, 0, [], .iload_n 1),
  (0, 44, 1, 0, 0, [], .iaload),
  (0, 45, 1, 0, 0, [], .ireturn),
  (0, 46, 1, 0, 0, [], .aload_n 0),
  (0, 47, 3, 0, 0, [], .getfield 24),
  (0, 50, 1, 0, 0, [], .iload_n 1),
  (0, 51, 1, 0, 0, [], .iaload),
  (0, 52, 1, 0, 0, [], .ireturn),
  (0, 53, 1, 0, 0, [], .aload_n 0),
  (0, 54, 3, 0, 0, [], .getfield 27),
  (0, 57, 1, 0, 0, [], .iload_n 1),
  (0, 58, 1, 0, 0, [], .iaload),
  (0, 59, 1, 0, 0, [], .ireturn),
  (0, 60, 1, 0, 0, [], .aload_n 0),
  (0, 61, 3, 0, 0, [], .getfield 30),
  (0, 64, 1, 0, 0, [], .iload_n 1),
  (0, 65, 1, 0, 0, [], .iaload),
  (0, 66, 1, 0, 0, [], .ireturn)]
def F_X0_tell (fu : Nat) (s : Nat) (x1 : Int32) (x2 : Int32) (M : xM) : Option (Int32 × xM) :=
  if x2 = 0 then
    (gR M 0 s 9).bind fun a_1 =>
    gd (xin x1 (gN M 20 a_1)) <|
    (some (gI M 20 a_1 (xi x1), M))
  else
  if x2 = 1 then
    (gR M 0 s 10).bind fun a_2 =>
    gd (xin x1 (gN M 20 a_2)) <|
    (some (gI M 20 a_2 (xi x1), M))
  else
  if x2 = 2 then
    (gR M 0 s 11).bind fun a_3 =>
    gd (xin x1 (gN M 20 a_3)) <|
    (some (gI M 20 a_3 (xi x1), M))
  else
  if x2 = 3 then
    (gR M 0 s 12).bind fun a_4 =>
    gd (xin x1 (gN M 20 a_4)) <|
    (some (gI M 20 a_4 (xi x1), M))
  else
    (gR M 0 s 13).bind fun a_5 =>
    gd (xin x1 (gN M 20 a_5)) <|
    (some (gI M 20 a_5 (xi x1), M))
set_option maxRecDepth 100000 in
theorem q_X0_tell (fu : Nat) (s : Nat) (x1 : Int32) (x2 : Int32) (M : xM) :
    xrun pX0_tell flX0 koX0 nwX0 [] [] xrtI 29 (xat 0 pX0_tell) 0 0 [(0, .inr (.inr (0, some s))), (1, .inl x1), (2, .inl x2)] [] M = F_X0_tell fu s x1 x2 M := rfl
def w_X0_tell (fu : Nat) {ρ : Type} (as : List xV) (M : xM) (k : Option xV → xM → Option ρ) : Option ρ := pR 0 as fun o as => o.bind fun s => pI as fun x1 as => pI as fun x2 as => xe as ((F_X0_tell fu s x1 x2 M).bind fun p => k (some (.inl p.1)) p.2)
def pX10_add : List xE := [(0, 0, 2, 0, 56, [], .bipush 56),
  (0, 2, 1, 0, 0, [], .istore_n 3),
  (1, 3, 1, 0, 0, [], .iload_n 3),
  (0, 4, 3, 76, 0, [], .ifCond .lt 72),
  (0, 7, 1, 0, 0, [], .lload_n 1),
  (0, 8, 1, 0, 0, [], .iload_n 3),
  (0, 9, 1, 0, 0, [], .lushr),
  (0, 10, 3, 0, 0, [], .ldc2_w 15),
  (0, 13, 1, 0, 0, [], .land),
  (0, 14, 1, 0, 0, [], .l2i),
  (0, 15, 1, 0, 0, [], .i2c),
  (0, 16, 2, 0, 0, [], .istore 4),
  (0, 18, 1, 0, 0, [], .aload_n 0),
  (0, 19, 3, 0, 0, [], .getfield 17),
  (0, 22, 3, 0, 1000, [], .sipush 1000),
  (0, 25, 3, 70, 0, [], .if_icmp .ge 45),
  (0, 28, 2, 0, 0, [], .iload 4),
  (0, 30, 2, 0, 10, [], .bipush 10),
  (0, 32, 3, 49, 0, [], .if_icmp .eq 17),
  (0, 35, 2, 0, 0, [], .iload 4),
  (0, 37, 2, 0, 32, [], .bipush 32),
  (0, 39, 3, 70, 0, [], .if_icmp .lt 31),
  (0, 42, 2, 0, 0, [], .iload 4),
  (0, 44, 2, 0, 126, [], .bipush 126),
  (0, 46, 3, 70, 0, [], .if_icmp .gt 24),
  (1, 49, 1, 0, 0, [], .aload_n 0),
  (0, 50, 3, 0, 0, [], .getfield 11),
  (0, 53, 1, 0, 0, [], .aload_n 0),
  (0, 54, 3, 0, 0, [], .getfield 17),
  (0, 57, 2, 0, 0, [], .iload 4),
  (0, 59, 1, 0, 0, [], .castore),
  (0, 60, 1, 0, 0, [], .aload_n 0),
  (0, 61, 1, 0, 0, [], .dup),
  (0, 62, 3, 0, 0, [], .getfield 17),
  (0, 65, 1, 0, 1, [], .iconst 1),
  (0, 66, 1, 0, 0, [], .iadd),
  (0, 67, 3, 0, 0, [], .putfield 17),
  (0, 70, 3, 0, (-8), [], .iinc 3 (-8)),
  (0, 73, 3, 3, 0, [], .goto (-70)),
  (0, 76, 1, 0, 0, [], .return_)]
def J_X10_add_49 (fu : Nat) (k3 : Nat → Int64 → Int32 → xM → Option xM) (s : Nat) (x1 : Int64) (x3 : Int32) (x4 : Int32) (M : xM) : Option xM :=
  (gR M 10 s 0).bind fun a_1 =>
  gd (xin (gI M 10 s 1) (gN M 23 a_1)) <|
  gd (xchar x4) <|
  let M_2 := sI M 23 a_1 (xi (gI M 10 s 1)) x4
  let M_3 := sI M_2 10 s 1 ((gI M_2 10 s 1) + 1)
  k3 s x1 (x3 + (-8)) M_3
set_option maxRecDepth 100000 in
theorem q_X10_add_49 (fu : Nat) (k3 : Nat → Int64 → Int32 → xM → Option xM) (s : Nat) (x1 : Int64) (x3 : Int32) (x4 : Int32) (M : xM) :
    xrun pX10_add flX10 koX10 nwX10 [] [(3, fun bc bs ls st M => xz bc bs (lR ls 0 10 fun o => o.bind fun s => lL ls 1 fun x1 => lI ls 3 fun x3 => xe st (k3 s x1 x3 M)))] xrtV 42 (xat 49 pX10_add) 0 0 [(0, .inr (.inr (10, some s))), (1, .inr (.inl x1)), (3, .inl x3), (4, .inl x4)] [] M = J_X10_add_49 fu k3 s x1 x3 x4 M := rfl
def L_X10_add_3 (fu : Nat) : Nat → Nat → Int64 → Int32 → xM → Option xM
  | 0, _, _, _, _ => none
  | n + 1, s, x1, x3, M =>
    if x3 < 0 then
      some M
    else
      let x4_1 : Int32 := (Int32.toUInt32 (Int64.toInt32 (((x1.toUInt64 >>> ((x3 : Int32).toInt64.toUInt64 &&& Int64.toUInt64 63)).toInt64) &&& 255)) % 65536).toInt32
      if 1000 ≤ (gI M 10 s 1) then
        L_X10_add_3 fu n s x1 (x3 + (-8)) M
      else
        if x4_1 = 10 then
          J_X10_add_49 fu (L_X10_add_3 fu n) s x1 x3 x4_1 M
        else
          if x4_1 < 32 then
            L_X10_add_3 fu n s x1 (x3 + (-8)) M
          else
            if 126 < x4_1 then
              L_X10_add_3 fu n s x1 (x3 + (-8)) M
            else
              J_X10_add_49 fu (L_X10_add_3 fu n) s x1 x3 x4_1 M
set_option maxRecDepth 100000 in
theorem q_X10_add_3 (fu : Nat) (n : Nat) (s : Nat) (x1 : Int64) (x3 : Int32) (M : xM) :
    xrun pX10_add flX10 koX10 nwX10 [] [(3, fun bc bs ls st M => xz bc bs (lR ls 0 10 fun o => o.bind fun s => lL ls 1 fun x1 => lI ls 3 fun x3 => xe st (L_X10_add_3 fu n s x1 x3 M))),
    (49, fun bc bs ls st M => xz bc bs (lR ls 0 10 fun o => o.bind fun s => lL ls 1 fun x1 => lI ls 3 fun x3 => lI ls 4 fun x4 => xe st (J_X10_add_49 fu (L_X10_add_3 fu n) s x1 x3 x4 M)))] xrtV 42 (xat 3 pX10_add) 0 0 [(0, .inr (.inr (10, some s))), (1, .inr (.inl x1)), (3, .inl x3)] [] M = L_X10_add_3 fu (n + 1) s x1 x3 M := rfl
def F_X10_add (fu : Nat) (s : Nat) (x1 : Int64) (M : xM) : Option xM :=
  L_X10_add_3 fu fu s x1 56 M
set_option maxRecDepth 100000 in
theorem q_X10_add (fu : Nat) (s : Nat) (x1 : Int64) (M : xM) :
    xrun pX10_add flX10 koX10 nwX10 [] [(3, fun bc bs ls st M => xz bc bs (lR ls 0 10 fun o => o.bind fun s => lL ls 1 fun x1 => lI ls 3 fun x3 => xe st (L_X10_add_3 fu fu s x1 x3 M)))] xrtV 42 (xat 0 pX10_add) 0 0 [(0, .inr (.inr (10, some s))), (1, .inr (.inl x1))] [] M = F_X10_add fu s x1 M := rfl
def w_X10_add (fu : Nat) {ρ : Type} (as : List xV) (M : xM) (k : Option xV → xM → Option ρ) : Option ρ := pR 10 as fun o as => o.bind fun s => pL as fun x1 as => xe as ((F_X10_add fu s x1 M).bind fun p => k none p)
def pX10_isLetter : List xE := [(0, 0, 1, 0, 0, [], .iload_n 0),
  (0, 1, 2, 0, 97, [], .bipush 97),
  (0, 3, 3, 16, 0, [], .if_icmp .lt 13),
  (0, 6, 1, 0, 0, [], .iload_n 0),
  (0, 7, 2, 0, 122, [], .bipush 122),
  (0, 9, 3, 16, 0, [], .if_icmp .gt 7),
  (0, 12, 1, 0, 1, [], .iconst 1),
  (0, 13, 3, 17, 0, [], .goto 4),
  (0, 16, 1, 0, 0, [], .iconst 0),
  (0, 17, 1, 0, 0, [], .ireturn)]
def F_X10_isLetter (fu : Nat) (x0 : Int32) (M : xM) : Option (Int32 × xM) :=
  if x0 < 97 then
    gd (xbool 0) (some (0, M))
  else
    if 122 < x0 then
      gd (xbool 0) (some (0, M))
    else
      gd (xbool 1) (some (1, M))
set_option maxRecDepth 100000 in
theorem q_X10_isLetter (fu : Nat) (x0 : Int32) (M : xM) :
    xrun pX10_isLetter flX10 koX10 nwX10 [] [] xrtZ 12 (xat 0 pX10_isLetter) 0 0 [(0, .inl x0)] [] M = F_X10_isLetter fu x0 M := rfl
def w_X10_isLetter (fu : Nat) {ρ : Type} (as : List xV) (M : xM) (k : Option xV → xM → Option ρ) : Option ρ := pI as fun x0 as => xe as ((F_X10_isLetter fu x0 M).bind fun p => k (some (.inl p.1)) p.2)
def pX10_readWord : List xE := [(0, 0, 1, 0, 0, [], .aload_n 0),
  (0, 1, 1, 0, 0, [], .lconst 0),
  (0, 2, 3, 0, 0, [], .putfield 71),
  (1, 5, 1, 0, 0, [], .aload_n 0),
  (0, 6, 3, 0, 0, [], .getfield 24),
  (0, 9, 1, 0, 0, [], .aload_n 0),
  (0, 10, 3, 0, 0, [], .getfield 17),
  (0, 13, 3, 72, 0, [], .if_icmp .ge 59),
  (0, 16, 1, 0, 0, [], .aload_n 0),
  (0, 17, 3, 0, 0, [], .getfield 11),
  (0, 20, 1, 0, 0, [], .aload_n 0),
  (0, 21, 3, 0, 0, [], .getfield 24),
  (0, 24, 1, 0, 0, [], .caload),
  (0, 25, 3, 0, 0, [], .invokestatic 46),
  (0, 28, 3, 72, 0, [], .ifCond .eq 44),
  (0, 31, 1, 0, 0, [], .aload_n 0),
  (0, 32, 1, 0, 0, [], .aload_n 0),
  (0, 33, 3, 0, 0, [], .getfield 71),
  (0, 36, 3, 0, 0, [], .ldc2_w 75),
  (0, 39, 1, 0, 0, [], .lmul),
  (0, 40, 1, 0, 0, [], .aload_n 0),
  (0, 41, 3, 0, 0, [], .getfield 11),
  (0, 44, 1, 0, 0, [], .aload_n 0),
  (0, 45, 3, 0, 0, [], .getfield 24),
  (0, 48, 1, 0, 0, [], .caload),
  (0, 49, 2, 0, 97, [], .bipush 97),
  (0, 51, 1, 0, 0, [], .isub),
  (0, 52, 1, 0, 1, [], .iconst 1),
  (0, 53, 1, 0, 0, [], .iadd),
  (0, 54, 1, 0, 0, [], .i2l),
  (0, 55, 1, 0, 0, [], .ladd),
  (0, 56, 3, 0, 0, [], .putfield 71),
  (0, 59, 1, 0, 0, [], .aload_n 0),
  (0, 60, 1, 0, 0, [], .dup),
  (0, 61, 3, 0, 0, [], .getfield 24),
  (0, 64, 1, 0, 1, [], .iconst 1),
  (0, 65, 1, 0, 0, [], .iadd),
  (0, 66, 3, 0, 0, [], .putfield 24),
  (0, 69, 3, 5, 0, [], .goto (-64)),
  (1, 72, 1, 0, 0, [], .aload_n 0),
  (0, 73, 1, 0, 0, [], .aload_n 0),
  (0, 74, 3, 0, 0, [], .getfield 24),
  (0, 77, 1, 0, 0, [], .aload_n 0),
  (0, 78, 3, 0, 0, [], .getfield 30),
  (0, 81, 1, 0, 0, [], .isub),
  (0, 82, 2, 0, 8, [], .bipush 8),
  (0, 84, 3, 91, 0, [], .if_icmp .gt 7),
  (0, 87, 1, 0, 1, [], .iconst 1),
  (0, 88, 3, 92, 0, [], .goto 4),
  (0, 91, 1, 0, 4, [], .iconst 4),
  (0, 92, 3, 0, 0, [], .putfield 43),
  (0, 95, 1, 0, 0, [], .return_)]
def J_X10_readWord_72 (fu : Nat) (s : Nat) (M : xM) : Option xM :=
  if 8 < ((gI M 10 s 8) - (gI M 10 s 7)) then
    let M_1 := sI M 10 s 2 4
    some M_1
  else
    let M_2 := sI M 10 s 2 1
    some M_2
set_option maxRecDepth 100000 in
theorem q_X10_readWord_72 (fu : Nat) (s : Nat) (M : xM) :
    xrun pX10_readWord flX10 koX10 nwX10 [] [] xrtV 54 (xat 72 pX10_readWord) 0 0 [(0, .inr (.inr (10, some s)))] [] M = J_X10_readWord_72 fu s M := rfl
def L_X10_readWord_5 (fu : Nat) : Nat → Nat → xM → Option xM
  | 0, _, _ => none
  | n + 1, s, M =>
    if (gI M 10 s 1) ≤ (gI M 10 s 8) then
      J_X10_readWord_72 fu s M
    else
      (gR M 10 s 0).bind fun a_1 =>
      gd (xin (gI M 10 s 8) (gN M 23 a_1)) <|
      (F_X10_isLetter fu (gI M 23 a_1 (xi (gI M 10 s 8))) M).bind fun p_2 =>
      if p_2.1 = 0 then
        J_X10_readWord_72 fu s p_2.2
      else
        (gR p_2.2 10 s 0).bind fun a_3 =>
        gd (xin (gI p_2.2 10 s 8) (gN p_2.2 23 a_3)) <|
        let M_4 := sL p_2.2 10 s 6 (((gL p_2.2 10 s 6) * 32) + (Int32.toInt64 (((gI p_2.2 23 a_3 (xi (gI p_2.2 10 s 8))) - 97) + 1)))
        let M_5 := sI M_4 10 s 8 ((gI M_4 10 s 8) + 1)
        L_X10_readWord_5 fu n s M_5
set_option maxRecDepth 100000 in
theorem q_X10_readWord_5 (fu : Nat) (n : Nat) (s : Nat) (M : xM) :
    xrun pX10_readWord flX10 koX10 nwX10 [(46, 1, 0, 0, w_X10_isLetter fu)] [(5, fun bc bs ls st M => xz bc bs (lR ls 0 10 fun o => o.bind fun s => xe st (L_X10_readWord_5 fu n s M))),
    (72, fun bc bs ls st M => xz bc bs (lR ls 0 10 fun o => o.bind fun s => xe st (J_X10_readWord_72 fu s M)))] xrtV 54 (xat 5 pX10_readWord) 0 0 [(0, .inr (.inr (10, some s)))] [] M = L_X10_readWord_5 fu (n + 1) s M := rfl
def F_X10_readWord (fu : Nat) (s : Nat) (M : xM) : Option xM :=
  let M_1 := sL M 10 s 6 ((Int64.ofNat 0))
  L_X10_readWord_5 fu fu s M_1
set_option maxRecDepth 100000 in
theorem q_X10_readWord (fu : Nat) (s : Nat) (M : xM) :
    xrun pX10_readWord flX10 koX10 nwX10 [] [(5, fun bc bs ls st M => xz bc bs (lR ls 0 10 fun o => o.bind fun s => xe st (L_X10_readWord_5 fu fu s M)))] xrtV 54 (xat 0 pX10_readWord) 0 0 [(0, .inr (.inr (10, some s)))] [] M = F_X10_readWord fu s M := rfl
def w_X10_readWord (fu : Nat) {ρ : Type} (as : List xV) (M : xM) (k : Option xV → xM → Option ρ) : Option ρ := pR 10 as fun o as => o.bind fun s => xe as ((F_X10_readWord fu s M).bind fun p => k none p)
def pX10_isDigit : List xE := [(0, 0, 1, 0, 0, [], .iload_n 0),
  (0, 1, 2, 0, 48, [], .bipush 48),
  (0, 3, 3, 16, 0, [], .if_icmp .lt 13),
  (0, 6, 1, 0, 0, [], .iload_n 0),
  (0, 7, 2, 0, 57, [], .bipush 57),
  (0, 9, 3, 16, 0, [], .if_icmp .gt 7),
  (0, 12, 1, 0, 1, [], .iconst 1),
  (0, 13, 3, 17, 0, [], .goto 4),
  (0, 16, 1, 0, 0, [], .iconst 0),
  (0, 17, 1, 0, 0, [], .ireturn)]
def F_X10_isDigit (fu : Nat) (x0 : Int32) (M : xM) : Option (Int32 × xM) :=
  if x0 < 48 then
    gd (xbool 0) (some (0, M))
  else
    if 57 < x0 then
      gd (xbool 0) (some (0, M))
    else
      gd (xbool 1) (some (1, M))
set_option maxRecDepth 100000 in
theorem q_X10_isDigit (fu : Nat) (x0 : Int32) (M : xM) :
    xrun pX10_isDigit flX10 koX10 nwX10 [] [] xrtZ 12 (xat 0 pX10_isDigit) 0 0 [(0, .inl x0)] [] M = F_X10_isDigit fu x0 M := rfl
def w_X10_isDigit (fu : Nat) {ρ : Type} (as : List xV) (M : xM) (k : Option xV → xM → Option ρ) : Option ρ := pI as fun x0 as => xe as ((F_X10_isDigit fu x0 M).bind fun p => k (some (.inl p.1)) p.2)
def pX10_readNumber : List xE := [(0, 0, 1, 0, 0, [], .aload_n 0),
  (0, 1, 1, 0, 0, [], .iconst 0),
  (0, 2, 3, 0, 0, [], .putfield 36),
  (1, 5, 1, 0, 0, [], .aload_n 0),
  (0, 6, 3, 0, 0, [], .getfield 24),
  (0, 9, 1, 0, 0, [], .aload_n 0),
  (0, 10, 3, 0, 0, [], .getfield 17),
  (0, 13, 3, 68, 0, [], .if_icmp .ge 55),
  (0, 16, 1, 0, 0, [], .aload_n 0),
  (0, 17, 3, 0, 0, [], .getfield 11),
  (0, 20, 1, 0, 0, [], .aload_n 0),
  (0, 21, 3, 0, 0, [], .getfield 24),
  (0, 24, 1, 0, 0, [], .caload),
  (0, 25, 3, 0, 0, [], .invokestatic 53),
  (0, 28, 3, 68, 0, [], .ifCond .eq 40),
  (0, 31, 1, 0, 0, [], .aload_n 0),
  (0, 32, 1, 0, 0, [], .aload_n 0),
  (0, 33, 3, 0, 0, [], .getfield 36),
  (0, 36, 2, 0, 10, [], .bipush 10),
  (0, 38, 1, 0, 0, [], .imul),
  (0, 39, 1, 0, 0, [], .aload_n 0),
  (0, 40, 3, 0, 0, [], .getfield 11),
  (0, 43, 1, 0, 0, [], .aload_n 0),
  (0, 44, 3, 0, 0, [], .getfield 24),
  (0, 47, 1, 0, 0, [], .caload),
  (0, 48, 2, 0, 48, [], .bipush 48),
  (0, 50, 1, 0, 0, [], .isub),
  (0, 51, 1, 0, 0, [], .iadd),
  (0, 52, 3, 0, 0, [], .putfield 36),
  (0, 55, 1, 0, 0, [], .aload_n 0),
  (0, 56, 1, 0, 0, [], .dup),
  (0, 57, 3, 0, 0, [], .getfield 24),
  (0, 60, 1, 0, 1, [], .iconst 1),
  (0, 61, 1, 0, 0, [], .iadd),
  (0, 62, 3, 0, 0, [], .putfield 24),
  (0, 65, 3, 5, 0, [], .goto (-60)),
  (1, 68, 1, 0, 0, [], .aload_n 0),
  (0, 69, 1, 0, 0, [], .aload_n 0),
  (0, 70, 3, 0, 0, [], .getfield 24),
  (0, 73, 1, 0, 0, [], .aload_n 0),
  (0, 74, 3, 0, 0, [], .getfield 30),
  (0, 77, 1, 0, 0, [], .isub),
  (0, 78, 1, 0, 4, [], .iconst 4),
  (0, 79, 3, 86, 0, [], .if_icmp .gt 7),
  (0, 82, 1, 0, 2, [], .iconst 2),
  (0, 83, 3, 87, 0, [], .goto 4),
  (0, 86, 1, 0, 4, [], .iconst 4),
  (0, 87, 3, 0, 0, [], .putfield 43),
  (0, 90, 1, 0, 0, [], .return_)]
def J_X10_readNumber_68 (fu : Nat) (s : Nat) (M : xM) : Option xM :=
  if 4 < ((gI M 10 s 8) - (gI M 10 s 7)) then
    let M_1 := sI M 10 s 2 4
    some M_1
  else
    let M_2 := sI M 10 s 2 2
    some M_2
set_option maxRecDepth 100000 in
theorem q_X10_readNumber_68 (fu : Nat) (s : Nat) (M : xM) :
    xrun pX10_readNumber flX10 koX10 nwX10 [] [] xrtV 51 (xat 68 pX10_readNumber) 0 0 [(0, .inr (.inr (10, some s)))] [] M = J_X10_readNumber_68 fu s M := rfl
def L_X10_readNumber_5 (fu : Nat) : Nat → Nat → xM → Option xM
  | 0, _, _ => none
  | n + 1, s, M =>
    if (gI M 10 s 1) ≤ (gI M 10 s 8) then
      J_X10_readNumber_68 fu s M
    else
      (gR M 10 s 0).bind fun a_1 =>
      gd (xin (gI M 10 s 8) (gN M 23 a_1)) <|
      (F_X10_isDigit fu (gI M 23 a_1 (xi (gI M 10 s 8))) M).bind fun p_2 =>
      if p_2.1 = 0 then
        J_X10_readNumber_68 fu s p_2.2
      else
        (gR p_2.2 10 s 0).bind fun a_3 =>
        gd (xin (gI p_2.2 10 s 8) (gN p_2.2 23 a_3)) <|
        let M_4 := sI p_2.2 10 s 4 (((gI p_2.2 10 s 4) * 10) + ((gI p_2.2 23 a_3 (xi (gI p_2.2 10 s 8))) - 48))
        let M_5 := sI M_4 10 s 8 ((gI M_4 10 s 8) + 1)
        L_X10_readNumber_5 fu n s M_5
set_option maxRecDepth 100000 in
theorem q_X10_readNumber_5 (fu : Nat) (n : Nat) (s : Nat) (M : xM) :
    xrun pX10_readNumber flX10 koX10 nwX10 [(53, 1, 0, 0, w_X10_isDigit fu)] [(5, fun bc bs ls st M => xz bc bs (lR ls 0 10 fun o => o.bind fun s => xe st (L_X10_readNumber_5 fu n s M))),
    (68, fun bc bs ls st M => xz bc bs (lR ls 0 10 fun o => o.bind fun s => xe st (J_X10_readNumber_68 fu s M)))] xrtV 51 (xat 5 pX10_readNumber) 0 0 [(0, .inr (.inr (10, some s)))] [] M = L_X10_readNumber_5 fu (n + 1) s M := rfl
def F_X10_readNumber (fu : Nat) (s : Nat) (M : xM) : Option xM :=
  let M_1 := sI M 10 s 4 0
  L_X10_readNumber_5 fu fu s M_1
set_option maxRecDepth 100000 in
theorem q_X10_readNumber (fu : Nat) (s : Nat) (M : xM) :
    xrun pX10_readNumber flX10 koX10 nwX10 [] [(5, fun bc bs ls st M => xz bc bs (lR ls 0 10 fun o => o.bind fun s => xe st (L_X10_readNumber_5 fu fu s M)))] xrtV 51 (xat 0 pX10_readNumber) 0 0 [(0, .inr (.inr (10, some s)))] [] M = F_X10_readNumber fu s M := rfl
def w_X10_readNumber (fu : Nat) {ρ : Type} (as : List xV) (M : xM) (k : Option xV → xM → Option ρ) : Option ρ := pR 10 as fun o as => o.bind fun s => xe as ((F_X10_readNumber fu s M).bind fun p => k none p)
def pX10_letter : List xE := [(0, 0, 1, 0, 0, [], .aload_n 0),
  (0, 1, 3, 0, 0, [], .getfield 30),
  (0, 4, 1, 0, 0, [], .iload_n 1),
  (0, 5, 1, 0, 0, [], .iadd),
  (0, 6, 1, 0, 0, [], .aload_n 0),
  (0, 7, 3, 0, 0, [], .getfield 24),
  (0, 10, 3, 27, 0, [], .if_icmp .ge 17),
  (0, 13, 1, 0, 0, [], .aload_n 0),
  (0, 14, 3, 0, 0, [], .getfield 11),
  (0, 17, 1, 0, 0, [], .aload_n 0),
  (0, 18, 3, 0, 0, [], .getfield 30),
  (0, 21, 1, 0, 0, [], .iload_n 1),
  (0, 22, 1, 0, 0, [], .iadd),
  (0, 23, 1, 0, 0, [], .caload),
  (0, 24, 3, 29, 0, [], .goto 5),
  (0, 27, 2, 0, 32, [], .bipush 32),
  (0, 29, 1, 0, 0, [], .ireturn)]
def F_X10_letter (fu : Nat) (s : Nat) (x1 : Int32) (M : xM) : Option (Int32 × xM) :=
  if (gI M 10 s 8) ≤ ((gI M 10 s 7) + x1) then
    gd (xchar 32) (some (32, M))
  else
    (gR M 10 s 0).bind fun a_1 =>
    gd (xin ((gI M 10 s 7) + x1) (gN M 23 a_1)) <|
    gd (xchar (gI M 23 a_1 (xi ((gI M 10 s 7) + x1)))) (some (gI M 23 a_1 (xi ((gI M 10 s 7) + x1)), M))
set_option maxRecDepth 100000 in
theorem q_X10_letter (fu : Nat) (s : Nat) (x1 : Int32) (M : xM) :
    xrun pX10_letter flX10 koX10 nwX10 [] [] xrtC 19 (xat 0 pX10_letter) 0 0 [(0, .inr (.inr (10, some s))), (1, .inl x1)] [] M = F_X10_letter fu s x1 M := rfl
def w_X10_letter (fu : Nat) {ρ : Type} (as : List xV) (M : xM) (k : Option xV → xM → Option ρ) : Option ρ := pR 10 as fun o as => o.bind fun s => pI as fun x1 as => xe as ((F_X10_letter fu s x1 M).bind fun p => k (some (.inl p.1)) p.2)
def pX10_knownWord : List xE := [(0, 0, 1, 0, 0, [], .iconst 0),
  (0, 1, 1, 0, 0, [], .istore_n 1),
  (1, 2, 1, 0, 0, [], .iload_n 1),
  (0, 3, 2, 0, 23, [], .bipush 23),
  (0, 5, 3, 55, 0, [], .if_icmp .ge 50),
  (0, 8, 1, 0, 0, [], .iconst 0),
  (0, 9, 1, 0, 0, [], .istore_n 2),
  (1, 10, 1, 0, 0, [], .iload_n 2),
  (0, 11, 2, 0, 8, [], .bipush 8),
  (0, 13, 3, 41, 0, [], .if_icmp .ge 28),
  (0, 16, 2, 0, 0, [], .ldc 77),
  (0, 18, 1, 0, 0, [], .iload_n 1),
  (0, 19, 2, 0, 8, [], .bipush 8),
  (0, 21, 1, 0, 0, [], .imul),
  (0, 22, 1, 0, 0, [], .iload_n 2),
  (0, 23, 1, 0, 0, [], .iadd),
  (0, 24, 3, 0, 0, [], .invokevirtual 79),
  (0, 27, 1, 0, 0, [], .aload_n 0),
  (0, 28, 1, 0, 0, [], .iload_n 2),
  (0, 29, 3, 0, 0, [], .invokevirtual 83),
  (0, 32, 3, 41, 0, [], .if_icmp .ne 9),
  (0, 35, 3, 0, 1, [], .iinc 2 1),
  (0, 38, 3, 10, 0, [], .goto (-28)),
  (1, 41, 1, 0, 0, [], .iload_n 2),
  (0, 42, 2, 0, 8, [], .bipush 8),
  (0, 44, 3, 49, 0, [], .if_icmp .ne 5),
  (0, 47, 1, 0, 0, [], .iload_n 1),
  (0, 48, 1, 0, 0, [], .ireturn),
  (0, 49, 3, 0, 1, [], .iinc 1 1),
  (0, 52, 3, 2, 0, [], .goto (-50)),
  (0, 55, 1, 0, (-1), [], .iconst (-1)),
  (0, 56, 1, 0, 0, [], .ireturn)]
def J_X10_knownWord_41 (fu : Nat) (k2 : Nat → Int32 → xM → Option (Int32 × xM)) (s : Nat) (x1 : Int32) (x2 : Int32) (M : xM) : Option (Int32 × xM) :=
  if ¬ x2 = 8 then
    k2 s (x1 + 1) M
  else
    (some (x1, M))
set_option maxRecDepth 100000 in
theorem q_X10_knownWord_41 (fu : Nat) (k2 : Nat → Int32 → xM → Option (Int32 × xM)) (s : Nat) (x1 : Int32) (x2 : Int32) (M : xM) :
    xrun pX10_knownWord flX10 koX10 nwX10 [] [(2, fun bc bs ls st M => xz bc bs (lR ls 0 10 fun o => o.bind fun s => lI ls 1 fun x1 => xe st (k2 s x1 M)))] xrtI 34 (xat 41 pX10_knownWord) 0 0 [(0, .inr (.inr (10, some s))), (1, .inl x1), (2, .inl x2)] [] M = J_X10_knownWord_41 fu k2 s x1 x2 M := rfl
def L_X10_knownWord_10 (fu : Nat) (k2 : Nat → Int32 → xM → Option (Int32 × xM)) : Nat → Nat → Int32 → Int32 → xM → Option (Int32 × xM)
  | 0, _, _, _, _ => none
  | n + 1, s, x1, x2, M =>
    if 8 ≤ x2 then
      J_X10_knownWord_41 fu k2 s x1 x2 M
    else
      gd (xin ((x1 * 8) + x2) (xstrN 1)) <|
      (F_X10_letter fu s x2 M).bind fun p_1 =>
      if ¬ (xstr 1 (xi ((x1 * 8) + x2))) = p_1.1 then
        J_X10_knownWord_41 fu k2 s x1 x2 p_1.2
      else
        L_X10_knownWord_10 fu k2 n s x1 (x2 + 1) p_1.2
set_option maxRecDepth 100000 in
theorem q_X10_knownWord_10 (fu : Nat) (k2 : Nat → Int32 → xM → Option (Int32 × xM)) (n : Nat) (s : Nat) (x1 : Int32) (x2 : Int32) (M : xM) :
    xrun pX10_knownWord flX10 koX10 nwX10 [(79, 2, 0, 0, w_charAt), (83, 2, 0, 0, w_X10_letter fu)] [(10, fun bc bs ls st M => xz bc bs (lR ls 0 10 fun o => o.bind fun s => lI ls 1 fun x1 => lI ls 2 fun x2 => xe st (L_X10_knownWord_10 fu k2 n s x1 x2 M))),
    (41, fun bc bs ls st M => xz bc bs (lR ls 0 10 fun o => o.bind fun s => lI ls 1 fun x1 => lI ls 2 fun x2 => xe st (J_X10_knownWord_41 fu k2 s x1 x2 M)))] xrtI 34 (xat 10 pX10_knownWord) 0 0 [(0, .inr (.inr (10, some s))), (1, .inl x1), (2, .inl x2)] [] M = L_X10_knownWord_10 fu k2 (n + 1) s x1 x2 M := rfl
def L_X10_knownWord_2 (fu : Nat) : Nat → Nat → Int32 → xM → Option (Int32 × xM)
  | 0, _, _, _ => none
  | n + 1, s, x1, M =>
    if 23 ≤ x1 then
      (some ((-1), M))
    else
      L_X10_knownWord_10 fu (L_X10_knownWord_2 fu n) fu s x1 0 M
set_option maxRecDepth 100000 in
theorem q_X10_knownWord_2 (fu : Nat) (n : Nat) (s : Nat) (x1 : Int32) (M : xM) :
    xrun pX10_knownWord flX10 koX10 nwX10 [] [(10, fun bc bs ls st M => xz bc bs (lR ls 0 10 fun o => o.bind fun s => lI ls 1 fun x1 => lI ls 2 fun x2 => xe st (L_X10_knownWord_10 fu (L_X10_knownWord_2 fu n) fu s x1 x2 M)))] xrtI 34 (xat 2 pX10_knownWord) 0 0 [(0, .inr (.inr (10, some s))), (1, .inl x1)] [] M = L_X10_knownWord_2 fu (n + 1) s x1 M := rfl
def F_X10_knownWord (fu : Nat) (s : Nat) (M : xM) : Option (Int32 × xM) :=
  L_X10_knownWord_2 fu fu s 0 M
set_option maxRecDepth 100000 in
theorem q_X10_knownWord (fu : Nat) (s : Nat) (M : xM) :
    xrun pX10_knownWord flX10 koX10 nwX10 [] [(2, fun bc bs ls st M => xz bc bs (lR ls 0 10 fun o => o.bind fun s => lI ls 1 fun x1 => xe st (L_X10_knownWord_2 fu fu s x1 M)))] xrtI 34 (xat 0 pX10_knownWord) 0 0 [(0, .inr (.inr (10, some s)))] [] M = F_X10_knownWord fu s M := rfl
def w_X10_knownWord (fu : Nat) {ρ : Type} (as : List xV) (M : xM) (k : Option xV → xM → Option ρ) : Option ρ := pR 10 as fun o as => o.bind fun s => xe as ((F_X10_knownWord fu s M).bind fun p => k (some (.inl p.1)) p.2)
def pX10_next : List xE := [(0, 0, 1, 0, 0, [], .aload_n 0),
  (0, 1, 1, 0, 0, [], .aload_n 0),
  (0, 2, 3, 0, 0, [], .getfield 24),
  (0, 5, 3, 0, 0, [], .putfield 30),
  (1, 8, 1, 0, 0, [], .aload_n 0),
  (0, 9, 3, 0, 0, [], .getfield 30),
  (0, 12, 1, 0, 0, [], .aload_n 0),
  (0, 13, 3, 0, 0, [], .getfield 17),
  (0, 16, 3, 60, 0, [], .if_icmp .ge 44),
  (0, 19, 1, 0, 0, [], .aload_n 0),
  (0, 20, 3, 0, 0, [], .getfield 11),
  (0, 23, 1, 0, 0, [], .aload_n 0),
  (0, 24, 3, 0, 0, [], .getfield 30),
  (0, 27, 1, 0, 0, [], .caload),
  (0, 28, 2, 0, 10, [], .bipush 10),
  (0, 30, 3, 47, 0, [], .if_icmp .eq 17),
  (0, 33, 1, 0, 0, [], .aload_n 0),
  (0, 34, 3, 0, 0, [], .getfield 11),
  (0, 37, 1, 0, 0, [], .aload_n 0),
  (0, 38, 3, 0, 0, [], .getfield 30),
  (0, 41, 1, 0, 0, [], .caload),
  (0, 42, 2, 0, 32, [], .bipush 32),
  (0, 44, 3, 60, 0, [], .if_icmp .ne 16),
  (0, 47, 1, 0, 0, [], .aload_n 0),
  (0, 48, 1, 0, 0, [], .dup),
  (0, 49, 3, 0, 0, [], .getfield 30),
  (0, 52, 1, 0, 1, [], .iconst 1),
  (0, 53, 1, 0, 0, [], .iadd),
  (0, 54, 3, 0, 0, [], .putfield 30),
  (0, 57, 3, 8, 0, [], .goto (-49)),
  (1, 60, 1, 0, 0, [], .aload_n 0),
  (0, 61, 1, 0, (-1), [], .iconst (-1)),
  (0, 62, 3, 0, 0, [], .putfield 33),
  (0, 65, 1, 0, 0, [], .aload_n 0),
  (0, 66, 1, 0, (-1), [], .iconst (-1)),
  (0, 67, 3, 0, 0, [], .putfield 36),
  (0, 70, 1, 0, 0, [], .aload_n 0),
  (0, 71, 1, 0, 0, [], .iconst 0),
  (0, 72, 3, 0, 0, [], .putfield 39),
  (0, 75, 1, 0, 0, [], .aload_n 0),
  (0, 76, 1, 0, 0, [], .aload_n 0),
  (0, 77, 3, 0, 0, [], .getfield 30),
  (0, 80, 3, 0, 0, [], .putfield 24),
  (0, 83, 1, 0, 0, [], .aload_n 0),
  (0, 84, 3, 0, 0, [], .getfield 30),
  (0, 87, 1, 0, 0, [], .aload_n 0),
  (0, 88, 3, 0, 0, [], .getfield 17),
  (0, 91, 3, 102, 0, [], .if_icmp .lt 11),
  (0, 94, 1, 0, 0, [], .aload_n 0),
  (0, 95, 1, 0, 0, [], .iconst 0),
  (0, 96, 3, 0, 0, [], .putfield 43),
  (0, 99, 3, 190, 0, [], .goto 91),
  (0, 102, 1, 0, 0, [], .aload_n 0),
  (0, 103, 3, 0, 0, [], .getfield 11),
  (0, 106, 1, 0, 0, [], .aload_n 0),
  (0, 107, 3, 0, 0, [], .getfield 30),
  (0, 110, 1, 0, 0, [], .caload),
  (0, 111, 3, 0, 0, [], .invokestatic 46),
  (0, 114, 3, 124, 0, [], .ifCond .eq 10),
  (0, 117, 1, 0, 0, [], .aload_n 0),
  (0, 118, 3, 0, 0, [], .invokevirtual 50),
  (0, 121, 3, 190, 0, [], .goto 69),
  (0, 124, 1, 0, 0, [], .aload_n 0),
  (0, 125, 3, 0, 0, [], .getfield 11),
  (0, 128, 1, 0, 0, [], .aload_n 0),
  (0, 129, 3, 0, 0, [], .getfield 30),
  (0, 132, 1, 0, 0, [], .caload),
  (0, 133, 3, 0, 0, [], .invokestatic 53),
  (0, 136, 3, 146, 0, [], .ifCond .eq 10),
  (0, 139, 1, 0, 0, [], .aload_n 0),
  (0, 140, 3, 0, 0, [], .invokevirtual 56),
  (0, 143, 3, 190, 0, [], .goto 47),
  (0, 146, 1, 0, 0, [], .aload_n 0),
  (0, 147, 1, 0, 0, [], .aload_n 0),
  (0, 148, 3, 0, 0, [], .getfield 11),
  (0, 151, 1, 0, 0, [], .aload_n 0),
  (0, 152, 3, 0, 0, [], .getfield 30),
  (0, 155, 1, 0, 0, [], .caload),
  (0, 156, 3, 0, 0, [], .putfield 39),
  (0, 159, 1, 0, 0, [], .aload_n 0),
  (0, 160, 2, 0, 0, [], .ldc 59),
  (0, 162, 1, 0, 0, [], .aload_n 0),
  (0, 163, 3, 0, 0, [], .getfield 39),
  (0, 166, 3, 0, 0, [], .invokevirtual 61),
  (0, 169, 3, 176, 0, [], .ifCond .lt 7),
  (0, 172, 1, 0, 3, [], .iconst 3),
  (0, 173, 3, 177, 0, [], .goto 4),
  (0, 176, 1, 0, 4, [], .iconst 4),
  (0, 177, 3, 0, 0, [], .putfield 43),
  (0, 180, 1, 0, 0, [], .aload_n 0),
  (0, 181, 1, 0, 0, [], .aload_n 0),
  (0, 182, 3, 0, 0, [], .getfield 30),
  (0, 185, 1, 0, 1, [], .iconst 1),
  (0, 186, 1, 0, 0, [], .iadd),
  (0, 187, 3, 0, 0, [], .putfield 24),
  (1, 190, 1, 0, 0, [], .aload_n 0),
  (0, 191, 3, 0, 0, [], .getfield 43),
  (0, 194, 1, 0, 1, [], .iconst 1),
  (0, 195, 3, 206, 0, [], .if_icmp .ne 11),
  (0, 198, 1, 0, 0, [], .aload_n 0),
  (0, 199, 1, 0, 0, [], .aload_n 0),
  (0, 200, 3, 0, 0, [], .invokevirtual 67),
  (0, 203, 3, 0, 0, [], .putfield 33),
  (0, 206, 1, 0, 0, [], .return_)]
def J_X10_next_190 (fu : Nat) (s : Nat) (M : xM) : Option xM :=
  if ¬ (gI M 10 s 2) = 1 then
    some M
  else
    (F_X10_knownWord fu s M).bind fun p_1 =>
    let M_2 := sI p_1.2 10 s 3 p_1.1
    some M_2
set_option maxRecDepth 100000 in
theorem q_X10_next_190 (fu : Nat) (s : Nat) (M : xM) :
    xrun pX10_next flX10 koX10 nwX10 [(67, 1, 0, 0, w_X10_knownWord fu)] [] xrtV 106 (xat 190 pX10_next) 0 0 [(0, .inr (.inr (10, some s)))] [] M = J_X10_next_190 fu s M := rfl
def J_X10_next_60 (fu : Nat) (s : Nat) (M : xM) : Option xM :=
  let M_1 := sI M 10 s 3 ((-1))
  let M_2 := sI M_1 10 s 4 ((-1))
  gd (xchar 0) <|
  let M_3 := sI M_2 10 s 5 0
  let M_4 := sI M_3 10 s 8 (gI M_3 10 s 7)
  if (gI M_4 10 s 7) < (gI M_4 10 s 1) then
    (gR M_4 10 s 0).bind fun a_5 =>
    gd (xin (gI M_4 10 s 7) (gN M_4 23 a_5)) <|
    (F_X10_isLetter fu (gI M_4 23 a_5 (xi (gI M_4 10 s 7))) M_4).bind fun p_6 =>
    if p_6.1 = 0 then
      (gR p_6.2 10 s 0).bind fun a_7 =>
      gd (xin (gI p_6.2 10 s 7) (gN p_6.2 23 a_7)) <|
      (F_X10_isDigit fu (gI p_6.2 23 a_7 (xi (gI p_6.2 10 s 7))) p_6.2).bind fun p_8 =>
      if p_8.1 = 0 then
        (gR p_8.2 10 s 0).bind fun a_9 =>
        gd (xin (gI p_8.2 10 s 7) (gN p_8.2 23 a_9)) <|
        gd (xchar (gI p_8.2 23 a_9 (xi (gI p_8.2 10 s 7)))) <|
        let M_10 := sI p_8.2 10 s 5 (gI p_8.2 23 a_9 (xi (gI p_8.2 10 s 7)))
        gd (Nat.beq 0 0) <|
        if (xstrF 0 (gI M_10 10 s 5)) < 0 then
          let M_11 := sI M_10 10 s 2 4
          let M_12 := sI M_11 10 s 8 ((gI M_11 10 s 7) + 1)
          J_X10_next_190 fu s M_12
        else
          let M_13 := sI M_10 10 s 2 3
          let M_14 := sI M_13 10 s 8 ((gI M_13 10 s 7) + 1)
          J_X10_next_190 fu s M_14
      else
        (F_X10_readNumber fu s p_8.2).bind fun p_15 =>
        J_X10_next_190 fu s p_15
    else
      (F_X10_readWord fu s p_6.2).bind fun p_16 =>
      J_X10_next_190 fu s p_16
  else
    let M_17 := sI M_4 10 s 2 0
    J_X10_next_190 fu s M_17
set_option maxRecDepth 100000 in
theorem q_X10_next_60 (fu : Nat) (s : Nat) (M : xM) :
    xrun pX10_next flX10 koX10 nwX10 [(46, 1, 0, 0, w_X10_isLetter fu), (50, 1, 0, 0, w_X10_readWord fu), (53, 1, 0, 0, w_X10_isDigit fu), (56, 1, 0, 0, w_X10_readNumber fu), (61, 2, 0, 0, w_indexOf)] [(190, fun bc bs ls st M => xz bc bs (lR ls 0 10 fun o => o.bind fun s => xe st (J_X10_next_190 fu s M)))] xrtV 106 (xat 60 pX10_next) 0 0 [(0, .inr (.inr (10, some s)))] [] M = J_X10_next_60 fu s M := rfl
def L_X10_next_8 (fu : Nat) : Nat → Nat → xM → Option xM
  | 0, _, _ => none
  | n + 1, s, M =>
    if (gI M 10 s 1) ≤ (gI M 10 s 7) then
      J_X10_next_60 fu s M
    else
      (gR M 10 s 0).bind fun a_1 =>
      gd (xin (gI M 10 s 7) (gN M 23 a_1)) <|
      if (gI M 23 a_1 (xi (gI M 10 s 7))) = 10 then
        let M_2 := sI M 10 s 7 ((gI M 10 s 7) + 1)
        L_X10_next_8 fu n s M_2
      else
        (gR M 10 s 0).bind fun a_3 =>
        gd (xin (gI M 10 s 7) (gN M 23 a_3)) <|
        if ¬ (gI M 23 a_3 (xi (gI M 10 s 7))) = 32 then
          J_X10_next_60 fu s M
        else
          let M_4 := sI M 10 s 7 ((gI M 10 s 7) + 1)
          L_X10_next_8 fu n s M_4
set_option maxRecDepth 100000 in
theorem q_X10_next_8 (fu : Nat) (n : Nat) (s : Nat) (M : xM) :
    xrun pX10_next flX10 koX10 nwX10 [] [(8, fun bc bs ls st M => xz bc bs (lR ls 0 10 fun o => o.bind fun s => xe st (L_X10_next_8 fu n s M))),
    (60, fun bc bs ls st M => xz bc bs (lR ls 0 10 fun o => o.bind fun s => xe st (J_X10_next_60 fu s M)))] xrtV 106 (xat 8 pX10_next) 0 0 [(0, .inr (.inr (10, some s)))] [] M = L_X10_next_8 fu (n + 1) s M := rfl
def F_X10_next (fu : Nat) (s : Nat) (M : xM) : Option xM :=
  let M_1 := sI M 10 s 7 (gI M 10 s 8)
  L_X10_next_8 fu fu s M_1
set_option maxRecDepth 100000 in
theorem q_X10_next (fu : Nat) (s : Nat) (M : xM) :
    xrun pX10_next flX10 koX10 nwX10 [] [(8, fun bc bs ls st M => xz bc bs (lR ls 0 10 fun o => o.bind fun s => xe st (L_X10_next_8 fu fu s M)))] xrtV 106 (xat 0 pX10_next) 0 0 [(0, .inr (.inr (10, some s)))] [] M = F_X10_next fu s M := rfl
def w_X10_next (fu : Nat) {ρ : Type} (as : List xV) (M : xM) (k : Option xV → xM → Option ρ) : Option ρ := pR 10 as fun o as => o.bind fun s => xe as ((F_X10_next fu s M).bind fun p => k none p)
def pX10_begin : List xE := [(0, 0, 1, 0, 0, [], .aload_n 0),
  (0, 1, 1, 0, 0, [], .iconst 0),
  (0, 2, 3, 0, 0, [], .putfield 21),
  (0, 5, 1, 0, 0, [], .aload_n 0),
  (0, 6, 1, 0, 0, [], .iconst 0),
  (0, 7, 3, 0, 0, [], .putfield 24),
  (0, 10, 1, 0, 0, [], .aload_n 0),
  (0, 11, 3, 0, 0, [], .invokevirtual 27),
  (0, 14, 1, 0, 0, [], .return_)]
def F_X10_begin (fu : Nat) (s : Nat) (M : xM) : Option xM :=
  let M_1 := sI M 10 s 9 0
  let M_2 := sI M_1 10 s 8 0
  (F_X10_next fu s M_2).bind fun p_3 =>
  some p_3
set_option maxRecDepth 100000 in
theorem q_X10_begin (fu : Nat) (s : Nat) (M : xM) :
    xrun pX10_begin flX10 koX10 nwX10 [(27, 1, 0, 0, w_X10_next fu)] [] xrtV 11 (xat 0 pX10_begin) 0 0 [(0, .inr (.inr (10, some s)))] [] M = F_X10_begin fu s M := rfl
def w_X10_begin (fu : Nat) {ρ : Type} (as : List xV) (M : xM) (k : Option xV → xM → Option ρ) : Option ρ := pR 10 as fun o as => o.bind fun s => xe as ((F_X10_begin fu s M).bind fun p => k none p)
def pX10_fail : List xE := [(0, 0, 1, 0, 0, [], .aload_n 0),
  (0, 1, 1, 0, 0, [], .iload_n 1),
  (0, 2, 2, 0, 16, [], .bipush 16),
  (0, 4, 1, 0, 0, [], .aload_n 0),
  (0, 5, 3, 0, 0, [], .getfield 30),
  (0, 8, 1, 0, 0, [], .imul),
  (0, 9, 1, 0, 0, [], .iadd),
  (0, 10, 3, 0, 0, [], .putfield 21),
  (0, 13, 1, 0, 0, [], .iconst 0),
  (0, 14, 1, 0, 0, [], .ireturn)]
def F_X10_fail (fu : Nat) (s : Nat) (x1 : Int32) (M : xM) : Option (Int32 × xM) :=
  let M_1 := sI M 10 s 9 (x1 + (16 * (gI M 10 s 7)))
  gd (xbool 0) (some (0, M_1))
set_option maxRecDepth 100000 in
theorem q_X10_fail (fu : Nat) (s : Nat) (x1 : Int32) (M : xM) :
    xrun pX10_fail flX10 koX10 nwX10 [] [] xrtZ 12 (xat 0 pX10_fail) 0 0 [(0, .inr (.inr (10, some s))), (1, .inl x1)] [] M = F_X10_fail fu s x1 M := rfl
def w_X10_fail (fu : Nat) {ρ : Type} (as : List xV) (M : xM) (k : Option xV → xM → Option ρ) : Option ρ := pR 10 as fun o as => o.bind fun s => pI as fun x1 as => xe as ((F_X10_fail fu s x1 M).bind fun p => k (some (.inl p.1)) p.2)
def pX10_init : List xE := [(0, 0, 1, 0, 0, [], .aload_n 0),
  (0, 1, 3, 0, 0, [], .invokespecial 3),
  (0, 4, 1, 0, 0, [], .aload_n 0),
  (0, 5, 3, 0, 1000, [], .sipush 1000),
  (0, 8, 2, 1000, 0, [], .newarray .char),
  (0, 10, 3, 0, 0, [], .putfield 11),
  (0, 13, 1, 0, 0, [], .return_)]
def F_X10_init (fu : Nat) (s : Nat) (M : xM) : Option xM :=
  gd ((1000 : Int32) == Int32.ofNat 1000) <|
  let M_1 := nC M 23 1000
  let M_2 := sR M_1 10 s 0 (some (gA M 23))
  some M_2
set_option maxRecDepth 100000 in
theorem q_X10_init (fu : Nat) (s : Nat) (M : xM) :
    xrun pX10_init flX10 koX10 nwX10 [(3, 1, 0, 0, w_objInit)] [] xrtV 9 (xat 0 pX10_init) 1 1000 [(0, .inr (.inr (10, some s)))] [] M = F_X10_init fu s M := rfl
def w_X10_init (fu : Nat) {ρ : Type} (as : List xV) (M : xM) (k : Option xV → xM → Option ρ) : Option ρ := pR 10 as fun o as => o.bind fun s => xe as ((F_X10_init fu s M).bind fun p => k none p)
def pX10_isFact : List xE := [(0, 0, 1, 0, 0, [], .aload_n 0),
  (0, 1, 3, 0, 0, [], .getfield 33),
  (0, 4, 2, 0, 19, [], .bipush 19),
  (0, 6, 3, 22, 0, [], .if_icmp .lt 16),
  (0, 9, 1, 0, 0, [], .aload_n 0),
  (0, 10, 3, 0, 0, [], .getfield 33),
  (0, 13, 2, 0, 22, [], .bipush 22),
  (0, 15, 3, 22, 0, [], .if_icmp .gt 7),
  (0, 18, 1, 0, 1, [], .iconst 1),
  (0, 19, 3, 23, 0, [], .goto 4),
  (0, 22, 1, 0, 0, [], .iconst 0),
  (0, 23, 1, 0, 0, [], .ireturn)]
def F_X10_isFact (fu : Nat) (s : Nat) (M : xM) : Option (Int32 × xM) :=
  if (gI M 10 s 3) < 19 then
    gd (xbool 0) (some (0, M))
  else
    if 22 < (gI M 10 s 3) then
      gd (xbool 0) (some (0, M))
    else
      gd (xbool 1) (some (1, M))
set_option maxRecDepth 100000 in
theorem q_X10_isFact (fu : Nat) (s : Nat) (M : xM) :
    xrun pX10_isFact flX10 koX10 nwX10 [] [] xrtZ 14 (xat 0 pX10_isFact) 0 0 [(0, .inr (.inr (10, some s)))] [] M = F_X10_isFact fu s M := rfl
def w_X10_isFact (fu : Nat) {ρ : Type} (as : List xV) (M : xM) (k : Option xV → xM → Option ρ) : Option ρ := pR 10 as fun o as => o.bind fun s => xe as ((F_X10_isFact fu s M).bind fun p => k (some (.inl p.1)) p.2)
def pX10_isName : List xE := [(0, 0, 1, 0, 0, [], .aload_n 0),
  (0, 1, 3, 0, 0, [], .getfield 43),
  (0, 4, 1, 0, 1, [], .iconst 1),
  (0, 5, 3, 28, 0, [], .if_icmp .ne 23),
  (0, 8, 1, 0, 0, [], .aload_n 0),
  (0, 9, 3, 0, 0, [], .getfield 33),
  (0, 12, 3, 24, 0, [], .ifCond .lt 12),
  (0, 15, 1, 0, 0, [], .aload_n 0),
  (0, 16, 3, 0, 0, [], .getfield 33),
  (0, 19, 2, 0, 19, [], .bipush 19),
  (0, 21, 3, 28, 0, [], .if_icmp .lt 7),
  (0, 24, 1, 0, 1, [], .iconst 1),
  (0, 25, 3, 29, 0, [], .goto 4),
  (0, 28, 1, 0, 0, [], .iconst 0),
  (0, 29, 1, 0, 0, [], .ireturn)]
def F_X10_isName (fu : Nat) (s : Nat) (M : xM) : Option (Int32 × xM) :=
  if ¬ (gI M 10 s 2) = 1 then
    gd (xbool 0) (some (0, M))
  else
    if (gI M 10 s 3) < 0 then
      gd (xbool 1) (some (1, M))
    else
      if (gI M 10 s 3) < 19 then
        gd (xbool 0) (some (0, M))
      else
        gd (xbool 1) (some (1, M))
set_option maxRecDepth 100000 in
theorem q_X10_isName (fu : Nat) (s : Nat) (M : xM) :
    xrun pX10_isName flX10 koX10 nwX10 [] [] xrtZ 17 (xat 0 pX10_isName) 0 0 [(0, .inr (.inr (10, some s)))] [] M = F_X10_isName fu s M := rfl
def w_X10_isName (fu : Nat) {ρ : Type} (as : List xV) (M : xM) (k : Option xV → xM → Option ρ) : Option ρ := pR 10 as fun o as => o.bind fun s => xe as ((F_X10_isName fu s M).bind fun p => k (some (.inl p.1)) p.2)
def pX10_isSign : List xE := [(0, 0, 1, 0, 0, [], .aload_n 0),
  (0, 1, 3, 0, 0, [], .getfield 43),
  (0, 4, 1, 0, 3, [], .iconst 3),
  (0, 5, 3, 20, 0, [], .if_icmp .ne 15),
  (0, 8, 1, 0, 0, [], .aload_n 0),
  (0, 9, 3, 0, 0, [], .getfield 39),
  (0, 12, 1, 0, 0, [], .iload_n 1),
  (0, 13, 3, 20, 0, [], .if_icmp .ne 7),
  (0, 16, 1, 0, 1, [], .iconst 1),
  (0, 17, 3, 21, 0, [], .goto 4),
  (0, 20, 1, 0, 0, [], .iconst 0),
  (0, 21, 1, 0, 0, [], .ireturn)]
def F_X10_isSign (fu : Nat) (s : Nat) (x1 : Int32) (M : xM) : Option (Int32 × xM) :=
  if ¬ (gI M 10 s 2) = 3 then
    gd (xbool 0) (some (0, M))
  else
    if ¬ (gI M 10 s 5) = x1 then
      gd (xbool 0) (some (0, M))
    else
      gd (xbool 1) (some (1, M))
set_option maxRecDepth 100000 in
theorem q_X10_isSign (fu : Nat) (s : Nat) (x1 : Int32) (M : xM) :
    xrun pX10_isSign flX10 koX10 nwX10 [] [] xrtZ 14 (xat 0 pX10_isSign) 0 0 [(0, .inr (.inr (10, some s))), (1, .inl x1)] [] M = F_X10_isSign fu s x1 M := rfl
def w_X10_isSign (fu : Nat) {ρ : Type} (as : List xV) (M : xM) (k : Option xV → xM → Option ρ) : Option ρ := pR 10 as fun o as => o.bind fun s => pI as fun x1 as => xe as ((F_X10_isSign fu s x1 M).bind fun p => k (some (.inl p.1)) p.2)
def pX10_takeNumber : List xE := [(0, 0, 1, 0, 0, [], .aload_n 0),
  (0, 1, 3, 0, 0, [], .getfield 43),
  (0, 4, 1, 0, 2, [], .iconst 2),
  (0, 5, 3, 16, 0, [], .if_icmp .eq 11),
  (0, 8, 1, 0, 0, [], .aload_n 0),
  (0, 9, 1, 0, 1, [], .iconst 1),
  (0, 10, 3, 0, 0, [], .invokevirtual 89),
  (0, 13, 1, 0, 0, [], .pop),
  (0, 14, 1, 0, (-1), [], .iconst (-1)),
  (0, 15, 1, 0, 0, [], .ireturn),
  (0, 16, 1, 0, 0, [], .aload_n 0),
  (0, 17, 3, 0, 0, [], .getfield 36),
  (0, 20, 1, 0, 0, [], .iload_n 1),
  (0, 21, 3, 32, 0, [], .if_icmp .lt 11),
  (0, 24, 1, 0, 0, [], .aload_n 0),
  (0, 25, 3, 0, 0, [], .getfield 36),
  (0, 28, 1, 0, 0, [], .iload_n 2),
  (0, 29, 3, 40, 0, [], .if_icmp .le 11),
  (0, 32, 1, 0, 0, [], .aload_n 0),
  (0, 33, 1, 0, 4, [], .iconst 4),
  (0, 34, 3, 0, 0, [], .invokevirtual 89),
  (0, 37, 1, 0, 0, [], .pop),
  (0, 38, 1, 0, (-1), [], .iconst (-1)),
  (0, 39, 1, 0, 0, [], .ireturn),
  (0, 40, 1, 0, 0, [], .aload_n 0),
  (0, 41, 3, 0, 0, [], .getfield 36),
  (0, 44, 1, 0, 0, [], .istore_n 3),
  (0, 45, 1, 0, 0, [], .aload_n 0),
  (0, 46, 3, 0, 0, [], .invokevirtual 27),
  (0, 49, 1, 0, 0, [], .iload_n 3),
  (0, 50, 1, 0, 0, [], .ireturn)]
def F_X10_takeNumber (fu : Nat) (s : Nat) (x1 : Int32) (x2 : Int32) (M : xM) : Option (Int32 × xM) :=
  if (gI M 10 s 2) = 2 then
    if (gI M 10 s 4) < x1 then
      (F_X10_fail fu s 4 M).bind fun p_1 =>
      (some ((-1), p_1.2))
    else
      if (gI M 10 s 4) ≤ x2 then
        let x3_2 : Int32 := gI M 10 s 4
        (F_X10_next fu s M).bind fun p_3 =>
        (some (x3_2, p_3))
      else
        (F_X10_fail fu s 4 M).bind fun p_4 =>
        (some ((-1), p_4.2))
  else
    (F_X10_fail fu s 1 M).bind fun p_5 =>
    (some ((-1), p_5.2))
set_option maxRecDepth 100000 in
theorem q_X10_takeNumber (fu : Nat) (s : Nat) (x1 : Int32) (x2 : Int32) (M : xM) :
    xrun pX10_takeNumber flX10 koX10 nwX10 [(27, 1, 0, 0, w_X10_next fu), (89, 2, 0, 0, w_X10_fail fu)] [] xrtI 33 (xat 0 pX10_takeNumber) 0 0 [(0, .inr (.inr (10, some s))), (1, .inl x1), (2, .inl x2)] [] M = F_X10_takeNumber fu s x1 x2 M := rfl
def w_X10_takeNumber (fu : Nat) {ρ : Type} (as : List xV) (M : xM) (k : Option xV → xM → Option ρ) : Option ρ := pR 10 as fun o as => o.bind fun s => pI as fun x1 as => pI as fun x2 as => xe as ((F_X10_takeNumber fu s x1 x2 M).bind fun p => k (some (.inl p.1)) p.2)
def pX10_takeSign : List xE := [(0, 0, 1, 0, 0, [], .aload_n 0),
  (0, 1, 1, 0, 0, [], .iload_n 1),
  (0, 2, 3, 0, 0, [], .invokevirtual 86),
  (0, 5, 3, 14, 0, [], .ifCond .ne 9),
  (0, 8, 1, 0, 0, [], .aload_n 0),
  (0, 9, 1, 0, 1, [], .iconst 1),
  (0, 10, 3, 0, 0, [], .invokevirtual 89),
  (0, 13, 1, 0, 0, [], .ireturn),
  (0, 14, 1, 0, 0, [], .aload_n 0),
  (0, 15, 3, 0, 0, [], .invokevirtual 27),
  (0, 18, 1, 0, 1, [], .iconst 1),
  (0, 19, 1, 0, 0, [], .ireturn)]
def F_X10_takeSign (fu : Nat) (s : Nat) (x1 : Int32) (M : xM) : Option (Int32 × xM) :=
  (F_X10_isSign fu s x1 M).bind fun p_1 =>
  if ¬ p_1.1 = 0 then
    (F_X10_next fu s p_1.2).bind fun p_2 =>
    gd (xbool 1) (some (1, p_2))
  else
    (F_X10_fail fu s 1 p_1.2).bind fun p_3 =>
    gd (xbool p_3.1) (some (p_3.1, p_3.2))
set_option maxRecDepth 100000 in
theorem q_X10_takeSign (fu : Nat) (s : Nat) (x1 : Int32) (M : xM) :
    xrun pX10_takeSign flX10 koX10 nwX10 [(27, 1, 0, 0, w_X10_next fu), (86, 2, 0, 0, w_X10_isSign fu), (89, 2, 0, 0, w_X10_fail fu)] [] xrtZ 14 (xat 0 pX10_takeSign) 0 0 [(0, .inr (.inr (10, some s))), (1, .inl x1)] [] M = F_X10_takeSign fu s x1 M := rfl
def w_X10_takeSign (fu : Nat) {ρ : Type} (as : List xV) (M : xM) (k : Option xV → xM → Option ρ) : Option ρ := pR 10 as fun o as => o.bind fun s => pI as fun x1 as => xe as ((F_X10_takeSign fu s x1 M).bind fun p => k (some (.inl p.1)) p.2)
def pX10_taken : List xE := [(0, 0, 1, 0, 0, [], .aload_n 0),
  (0, 1, 1, 0, 0, [], .iconst 0),
  (0, 2, 3, 0, 0, [], .putfield 17),
  (0, 5, 1, 0, 0, [], .iload_n 1),
  (0, 6, 3, 13, 0, [], .ifCond .eq 7),
  (0, 9, 1, 0, 0, [], .iconst 0),
  (0, 10, 3, 17, 0, [], .goto 7),
  (0, 13, 1, 0, 0, [], .aload_n 0),
  (0, 14, 3, 0, 0, [], .getfield 21),
  (0, 17, 1, 0, 0, [], .ireturn)]
def F_X10_taken (fu : Nat) (s : Nat) (x1 : Int32) (M : xM) : Option (Int32 × xM) :=
  let M_1 := sI M 10 s 1 0
  if x1 = 0 then
    (some (gI M_1 10 s 9, M_1))
  else
    (some (0, M_1))
set_option maxRecDepth 100000 in
theorem q_X10_taken (fu : Nat) (s : Nat) (x1 : Int32) (M : xM) :
    xrun pX10_taken flX10 koX10 nwX10 [] [] xrtI 12 (xat 0 pX10_taken) 0 0 [(0, .inr (.inr (10, some s))), (1, .inl x1)] [] M = F_X10_taken fu s x1 M := rfl
def w_X10_taken (fu : Nat) {ρ : Type} (as : List xV) (M : xM) (k : Option xV → xM → Option ρ) : Option ρ := pR 10 as fun o as => o.bind fun s => pI as fun x1 as => xe as ((F_X10_taken fu s x1 M).bind fun p => k (some (.inl p.1)) p.2)
def pX7_isFile : List xE := [(0, 0, 1, 0, 0, [], .iload_n 1),
  (0, 1, 3, 21, 0, [], .ifCond .lt 20),
  (0, 4, 1, 0, 0, [], .iload_n 1),
  (0, 5, 1, 0, 0, [], .aload_n 0),
  (0, 6, 3, 0, 0, [], .getfield 29),
  (0, 9, 3, 21, 0, [], .if_icmp .ge 12),
  (0, 12, 1, 0, 0, [], .iload_n 1),
  (0, 13, 1, 0, 5, [], .iconst 5),
  (0, 14, 3, 21, 0, [], .if_icmp .ge 7),
  (0, 17, 1, 0, 1, [], .iconst 1),
  (0, 18, 3, 22, 0, [], .goto 4),
  (0, 21, 1, 0, 0, [], .iconst 0),
  (0, 22, 1, 0, 0, [], .ireturn)]
def F_X7_isFile (fu : Nat) (s : Nat) (x1 : Int32) (M : xM) : Option (Int32 × xM) :=
  if x1 < 0 then
    gd (xbool 0) (some (0, M))
  else
    if (gI M 7 s 3) ≤ x1 then
      gd (xbool 0) (some (0, M))
    else
      if 5 ≤ x1 then
        gd (xbool 0) (some (0, M))
      else
        gd (xbool 1) (some (1, M))
set_option maxRecDepth 100000 in
theorem q_X7_isFile (fu : Nat) (s : Nat) (x1 : Int32) (M : xM) :
    xrun pX7_isFile flX7 koX7 nwX7 [] [] xrtZ 15 (xat 0 pX7_isFile) 0 0 [(0, .inr (.inr (7, some s))), (1, .inl x1)] [] M = F_X7_isFile fu s x1 M := rfl
def w_X7_isFile (fu : Nat) {ρ : Type} (as : List xV) (M : xM) (k : Option xV → xM → Option ρ) : Option ρ := pR 7 as fun o as => o.bind fun s => pI as fun x1 as => xe as ((F_X7_isFile fu s x1 M).bind fun p => k (some (.inl p.1)) p.2)
def pX7_isPage : List xE := [(0, 0, 1, 0, 0, [], .aload_n 0),
  (0, 1, 1, 0, 0, [], .iload_n 1),
  (0, 2, 3, 0, 0, [], .invokevirtual 33),
  (0, 5, 3, 26, 0, [], .ifCond .eq 21),
  (0, 8, 1, 0, 0, [], .iload_n 2),
  (0, 9, 3, 26, 0, [], .ifCond .lt 17),
  (0, 12, 1, 0, 0, [], .iload_n 2),
  (0, 13, 1, 0, 0, [], .aload_n 0),
  (0, 14, 3, 0, 0, [], .getfield 15),
  (0, 17, 1, 0, 0, [], .iload_n 1),
  (0, 18, 1, 0, 0, [], .iaload),
  (0, 19, 3, 26, 0, [], .if_icmp .ge 7),
  (0, 22, 1, 0, 1, [], .iconst 1),
  (0, 23, 3, 27, 0, [], .goto 4),
  (0, 26, 1, 0, 0, [], .iconst 0),
  (0, 27, 1, 0, 0, [], .ireturn)]
def F_X7_isPage (fu : Nat) (s : Nat) (x1 : Int32) (x2 : Int32) (M : xM) : Option (Int32 × xM) :=
  (F_X7_isFile fu s x1 M).bind fun p_1 =>
  if p_1.1 = 0 then
    gd (xbool 0) (some (0, p_1.2))
  else
    if x2 < 0 then
      gd (xbool 0) (some (0, p_1.2))
    else
      (gR p_1.2 7 s 5).bind fun a_2 =>
      gd (xin x1 (gN p_1.2 20 a_2)) <|
      if (gI p_1.2 20 a_2 (xi x1)) ≤ x2 then
        gd (xbool 0) (some (0, p_1.2))
      else
        gd (xbool 1) (some (1, p_1.2))
set_option maxRecDepth 100000 in
theorem q_X7_isPage (fu : Nat) (s : Nat) (x1 : Int32) (x2 : Int32) (M : xM) :
    xrun pX7_isPage flX7 koX7 nwX7 [(33, 2, 0, 0, w_X7_isFile fu)] [] xrtZ 18 (xat 0 pX7_isPage) 0 0 [(0, .inr (.inr (7, some s))), (1, .inl x1), (2, .inl x2)] [] M = F_X7_isPage fu s x1 x2 M := rfl
def w_X7_isPage (fu : Nat) {ρ : Type} (as : List xV) (M : xM) (k : Option xV → xM → Option ρ) : Option ρ := pR 7 as fun o as => o.bind fun s => pI as fun x1 as => pI as fun x2 as => xe as ((F_X7_isPage fu s x1 x2 M).bind fun p => k (some (.inl p.1)) p.2)
def pX3_clear : List xE := [(0, 0, 1, 0, 0, [], .aload_n 0),
  (0, 1, 1, 0, 0, [], .iconst 0),
  (0, 2, 3, 0, 0, [], .putfield 25),
  (0, 5, 1, 0, 0, [], .aload_n 0),
  (0, 6, 1, 0, 0, [], .iconst 0),
  (0, 7, 3, 0, 0, [], .putfield 29),
  (0, 10, 1, 0, 0, [], .return_)]
def F_X3_clear (fu : Nat) (s : Nat) (M : xM) : Option xM :=
  let M_1 := sI M 3 s 0 0
  let M_2 := sI M_1 3 s 1 0
  some M_2
set_option maxRecDepth 100000 in
theorem q_X3_clear (fu : Nat) (s : Nat) (M : xM) :
    xrun pX3_clear flX3 koX3 nwX3 [] [] xrtV 9 (xat 0 pX3_clear) 0 0 [(0, .inr (.inr (3, some s)))] [] M = F_X3_clear fu s M := rfl
def w_X3_clear (fu : Nat) {ρ : Type} (as : List xV) (M : xM) (k : Option xV → xM → Option ρ) : Option ρ := pR 3 as fun o as => o.bind fun s => xe as ((F_X3_clear fu s M).bind fun p => k none p)
def pX2_forgetFiles : List xE := [(0, 0, 1, 0, 0, [], .iconst 0),
  (0, 1, 1, 0, 0, [], .istore_n 1),
  (1, 2, 1, 0, 0, [], .iload_n 1),
  (0, 3, 2, 0, 20, [], .bipush 20),
  (0, 5, 3, 21, 0, [], .if_icmp .ge 16),
  (0, 8, 1, 0, 0, [], .aload_n 0),
  (0, 9, 3, 0, 0, [], .getfield 18),
  (0, 12, 1, 0, 0, [], .iload_n 1),
  (0, 13, 1, 0, 0, [], .iconst 0),
  (0, 14, 1, 0, 0, [], .iastore),
  (0, 15, 3, 0, 1, [], .iinc 1 1),
  (0, 18, 3, 2, 0, [], .goto (-16)),
  (0, 21, 1, 0, 0, [], .iconst 0),
  (0, 22, 1, 0, 0, [], .istore_n 1),
  (1, 23, 1, 0, 0, [], .iload_n 1),
  (0, 24, 1, 0, 5, [], .iconst 5),
  (0, 25, 3, 48, 0, [], .if_icmp .ge 23),
  (0, 28, 1, 0, 0, [], .aload_n 0),
  (0, 29, 3, 0, 0, [], .getfield 22),
  (0, 32, 1, 0, 0, [], .iload_n 1),
  (0, 33, 1, 0, 0, [], .iconst 0),
  (0, 34, 1, 0, 0, [], .bastore),
  (0, 35, 1, 0, 0, [], .aload_n 0),
  (0, 36, 3, 0, 0, [], .getfield 26),
  (0, 39, 1, 0, 0, [], .iload_n 1),
  (0, 40, 1, 0, 0, [], .iconst 0),
  (0, 41, 1, 0, 0, [], .bastore),
  (0, 42, 3, 0, 1, [], .iinc 1 1),
  (0, 45, 3, 23, 0, [], .goto (-22)),
  (0, 48, 1, 0, 0, [], .aload_n 0),
  (0, 49, 1, 0, 0, [], .iconst 0),
  (0, 50, 3, 0, 0, [], .putfield 68),
  (0, 53, 1, 0, 0, [], .return_)]
def L_X2_forgetFiles_23 (fu : Nat) : Nat → Nat → Int32 → xM → Option xM
  | 0, _, _, _ => none
  | n + 1, s, x1, M =>
    if 5 ≤ x1 then
      gd (xbool 0) <|
      let M_1 := sI M 2 s 11 0
      some M_1
    else
      (gR M 2 s 8).bind fun a_2 =>
      gd (xin x1 (gN M 22 a_2)) <|
      gd (xbool 0) <|
      let M_3 := sI M 22 a_2 (xi x1) 0
      (gR M_3 2 s 9).bind fun a_4 =>
      gd (xin x1 (gN M_3 22 a_4)) <|
      gd (xbool 0) <|
      let M_5 := sI M_3 22 a_4 (xi x1) 0
      L_X2_forgetFiles_23 fu n s (x1 + 1) M_5
set_option maxRecDepth 100000 in
theorem q_X2_forgetFiles_23 (fu : Nat) (n : Nat) (s : Nat) (x1 : Int32) (M : xM) :
    xrun pX2_forgetFiles flX2 koX2 nwX2 [] [(23, fun bc bs ls st M => xz bc bs (lR ls 0 2 fun o => o.bind fun s => lI ls 1 fun x1 => xe st (L_X2_forgetFiles_23 fu n s x1 M)))] xrtV 35 (xat 23 pX2_forgetFiles) 0 0 [(0, .inr (.inr (2, some s))), (1, .inl x1)] [] M = L_X2_forgetFiles_23 fu (n + 1) s x1 M := rfl
def L_X2_forgetFiles_2 (fu : Nat) : Nat → Nat → Int32 → xM → Option xM
  | 0, _, _, _ => none
  | n + 1, s, x1, M =>
    if 20 ≤ x1 then
      L_X2_forgetFiles_23 fu fu s 0 M
    else
      (gR M 2 s 7).bind fun a_1 =>
      gd (xin x1 (gN M 20 a_1)) <|
      let M_2 := sI M 20 a_1 (xi x1) 0
      L_X2_forgetFiles_2 fu n s (x1 + 1) M_2
set_option maxRecDepth 100000 in
theorem q_X2_forgetFiles_2 (fu : Nat) (n : Nat) (s : Nat) (x1 : Int32) (M : xM) :
    xrun pX2_forgetFiles flX2 koX2 nwX2 [] [(2, fun bc bs ls st M => xz bc bs (lR ls 0 2 fun o => o.bind fun s => lI ls 1 fun x1 => xe st (L_X2_forgetFiles_2 fu n s x1 M))),
    (23, fun bc bs ls st M => xz bc bs (lR ls 0 2 fun o => o.bind fun s => lI ls 1 fun x1 => xe st (L_X2_forgetFiles_23 fu fu s x1 M)))] xrtV 35 (xat 2 pX2_forgetFiles) 0 0 [(0, .inr (.inr (2, some s))), (1, .inl x1)] [] M = L_X2_forgetFiles_2 fu (n + 1) s x1 M := rfl
def F_X2_forgetFiles (fu : Nat) (s : Nat) (M : xM) : Option xM :=
  L_X2_forgetFiles_2 fu fu s 0 M
set_option maxRecDepth 100000 in
theorem q_X2_forgetFiles (fu : Nat) (s : Nat) (M : xM) :
    xrun pX2_forgetFiles flX2 koX2 nwX2 [] [(2, fun bc bs ls st M => xz bc bs (lR ls 0 2 fun o => o.bind fun s => lI ls 1 fun x1 => xe st (L_X2_forgetFiles_2 fu fu s x1 M)))] xrtV 35 (xat 0 pX2_forgetFiles) 0 0 [(0, .inr (.inr (2, some s)))] [] M = F_X2_forgetFiles fu s M := rfl
def w_X2_forgetFiles (fu : Nat) {ρ : Type} (as : List xV) (M : xM) (k : Option xV → xM → Option ρ) : Option ρ := pR 2 as fun o as => o.bind fun s => xe as ((F_X2_forgetFiles fu s M).bind fun p => k none p)
def pX2_start : List xE := [(0, 0, 1, 0, 0, [], .aload_n 0),
  (0, 1, 1, 0, 0, [], .aload_n 1),
  (0, 2, 3, 0, 0, [], .putfield 35),
  (0, 5, 1, 0, 0, [], .aload_n 0),
  (0, 6, 1, 0, 1, [], .iconst 1),
  (0, 7, 3, 0, 0, [], .putfield 47),
  (0, 10, 1, 0, 0, [], .aload_n 0),
  (0, 11, 1, 0, 0, [], .iconst 0),
  (0, 12, 3, 0, 0, [], .putfield 55),
  (0, 15, 1, 0, 0, [], .aload_n 0),
  (0, 16, 1, 0, 0, [], .iconst 0),
  (0, 17, 3, 0, 0, [], .putfield 59),
  (0, 20, 1, 0, 0, [], .aload_n 0),
  (0, 21, 1, 0, 0, [], .iconst 0),
  (0, 22, 3, 0, 0, [], .putfield 62),
  (0, 25, 1, 0, 0, [], .aload_n 0),
  (0, 26, 3, 0, 0, [], .getfield 12),
  (0, 29, 1, 0, 0, [], .aload_n 1),
  (0, 30, 3, 0, 0, [], .invokevirtual 51),
  (0, 33, 1, 0, 0, [], .aload_n 0),
  (0, 34, 3, 0, 0, [], .invokevirtual 65),
  (0, 37, 1, 0, 0, [], .return_)]
def F_X2_start (fu : Nat) (s : Nat) (x1 : Option Nat) (M : xM) : Option xM :=
  let M_1 := sR M 2 s 4 x1
  gd (xbool 1) <|
  let M_2 := sI M_1 2 s 1 1
  let M_3 := sI M_2 2 s 2 0
  let M_4 := sI M_3 2 s 3 0
  let M_5 := sI M_4 2 s 10 0
  (gR M_5 2 s 0).bind fun a_6 =>
  (F_X0_start fu a_6 x1 M_5).bind fun p_7 =>
  (F_X2_forgetFiles fu s p_7).bind fun p_8 =>
  some p_8
set_option maxRecDepth 100000 in
theorem q_X2_start (fu : Nat) (s : Nat) (x1 : Option Nat) (M : xM) :
    xrun pX2_start flX2 koX2 nwX2 [(51, 2, 0, 0, w_X0_start fu), (65, 1, 0, 0, w_X2_forgetFiles fu)] [] xrtV 24 (xat 0 pX2_start) 0 0 [(0, .inr (.inr (2, some s))), (1, .inr (.inr (7, x1)))] [] M = F_X2_start fu s x1 M := rfl
def w_X2_start (fu : Nat) {ρ : Type} (as : List xV) (M : xM) (k : Option xV → xM → Option ρ) : Option ρ := pR 2 as fun o as => o.bind fun s => pR 7 as fun x1 as => xe as ((F_X2_start fu s x1 M).bind fun p => k none p)
def pX4_clear : List xE := [(0, 0, 1, 0, 0, [], .iconst 0),
  (0, 1, 1, 0, 0, [], .istore_n 1),
  (1, 2, 1, 0, 0, [], .iload_n 1),
  (0, 3, 2, 0, 20, [], .bipush 20),
  (0, 5, 3, 35, 0, [], .if_icmp .ge 30),
  (0, 8, 1, 0, 0, [], .aload_n 0),
  (0, 9, 3, 0, 0, [], .getfield 9),
  (0, 12, 1, 0, 0, [], .iload_n 1),
  (0, 13, 1, 0, 0, [], .iconst 0),
  (0, 14, 1, 0, 0, [], .iastore),
  (0, 15, 1, 0, 0, [], .aload_n 0),
  (0, 16, 3, 0, 0, [], .getfield 15),
  (0, 19, 1, 0, 0, [], .iload_n 1),
  (0, 20, 1, 0, (-1), [], .iconst (-1)),
  (0, 21, 1, 0, 0, [], .iastore),
  (0, 22, 1, 0, 0, [], .aload_n 0),
  (0, 23, 3, 0, 0, [], .getfield 18),
  (0, 26, 1, 0, 0, [], .iload_n 1),
  (0, 27, 1, 0, 0, [], .iconst 0),
  (0, 28, 1, 0, 0, [], .iastore),
  (0, 29, 3, 0, 1, [], .iinc 1 1),
  (0, 32, 3, 2, 0, [], .goto (-30)),
  (0, 35, 1, 0, 0, [], .iconst 0),
  (0, 36, 1, 0, 0, [], .istore_n 1),
  (1, 37, 1, 0, 0, [], .iload_n 1),
  (0, 38, 1, 0, 5, [], .iconst 5),
  (0, 39, 3, 55, 0, [], .if_icmp .ge 16),
  (0, 42, 1, 0, 0, [], .aload_n 0),
  (0, 43, 3, 0, 0, [], .getfield 21),
  (0, 46, 1, 0, 0, [], .iload_n 1),
  (0, 47, 1, 0, 0, [], .iconst 0),
  (0, 48, 1, 0, 0, [], .iastore),
  (0, 49, 3, 0, 1, [], .iinc 1 1),
  (0, 52, 3, 37, 0, [], .goto (-15)),
  (0, 55, 1, 0, 0, [], .return_)]
def L_X4_clear_37 (fu : Nat) : Nat → Nat → Int32 → xM → Option xM
  | 0, _, _, _ => none
  | n + 1, s, x1, M =>
    if 5 ≤ x1 then
      some M
    else
      (gR M 4 s 3).bind fun a_1 =>
      gd (xin x1 (gN M 20 a_1)) <|
      let M_2 := sI M 20 a_1 (xi x1) 0
      L_X4_clear_37 fu n s (x1 + 1) M_2
set_option maxRecDepth 100000 in
theorem q_X4_clear_37 (fu : Nat) (n : Nat) (s : Nat) (x1 : Int32) (M : xM) :
    xrun pX4_clear flX4 koX4 nwX4 [] [(37, fun bc bs ls st M => xz bc bs (lR ls 0 4 fun o => o.bind fun s => lI ls 1 fun x1 => xe st (L_X4_clear_37 fu n s x1 M)))] xrtV 37 (xat 37 pX4_clear) 0 0 [(0, .inr (.inr (4, some s))), (1, .inl x1)] [] M = L_X4_clear_37 fu (n + 1) s x1 M := rfl
def L_X4_clear_2 (fu : Nat) : Nat → Nat → Int32 → xM → Option xM
  | 0, _, _, _ => none
  | n + 1, s, x1, M =>
    if 20 ≤ x1 then
      L_X4_clear_37 fu fu s 0 M
    else
      (gR M 4 s 0).bind fun a_1 =>
      gd (xin x1 (gN M 20 a_1)) <|
      let M_2 := sI M 20 a_1 (xi x1) 0
      (gR M_2 4 s 1).bind fun a_3 =>
      gd (xin x1 (gN M_2 20 a_3)) <|
      let M_4 := sI M_2 20 a_3 (xi x1) ((-1))
      (gR M_4 4 s 2).bind fun a_5 =>
      gd (xin x1 (gN M_4 20 a_5)) <|
      let M_6 := sI M_4 20 a_5 (xi x1) 0
      L_X4_clear_2 fu n s (x1 + 1) M_6
set_option maxRecDepth 100000 in
theorem q_X4_clear_2 (fu : Nat) (n : Nat) (s : Nat) (x1 : Int32) (M : xM) :
    xrun pX4_clear flX4 koX4 nwX4 [] [(2, fun bc bs ls st M => xz bc bs (lR ls 0 4 fun o => o.bind fun s => lI ls 1 fun x1 => xe st (L_X4_clear_2 fu n s x1 M))),
    (37, fun bc bs ls st M => xz bc bs (lR ls 0 4 fun o => o.bind fun s => lI ls 1 fun x1 => xe st (L_X4_clear_37 fu fu s x1 M)))] xrtV 37 (xat 2 pX4_clear) 0 0 [(0, .inr (.inr (4, some s))), (1, .inl x1)] [] M = L_X4_clear_2 fu (n + 1) s x1 M := rfl
def F_X4_clear (fu : Nat) (s : Nat) (M : xM) : Option xM :=
  L_X4_clear_2 fu fu s 0 M
set_option maxRecDepth 100000 in
theorem q_X4_clear (fu : Nat) (s : Nat) (M : xM) :
    xrun pX4_clear flX4 koX4 nwX4 [] [(2, fun bc bs ls st M => xz bc bs (lR ls 0 4 fun o => o.bind fun s => lI ls 1 fun x1 => xe st (L_X4_clear_2 fu fu s x1 M)))] xrtV 37 (xat 0 pX4_clear) 0 0 [(0, .inr (.inr (4, some s)))] [] M = F_X4_clear fu s M := rfl
def w_X4_clear (fu : Nat) {ρ : Type} (as : List xV) (M : xM) (k : Option xV → xM → Option ρ) : Option ρ := pR 4 as fun o as => o.bind fun s => xe as ((F_X4_clear fu s M).bind fun p => k none p)
def pX4_takePart : List xE := [(0, 0, 1, 0, 0, [], .iconst 0),
  (0, 1, 1, 0, 0, [], .istore_n 3),
  (1, 2, 1, 0, 0, [], .iload_n 3),
  (0, 3, 1, 0, 0, [], .aload_n 1),
  (0, 4, 3, 0, 0, [], .getfield 62),
  (0, 7, 1, 0, 0, [], .iload_n 2),
  (0, 8, 1, 0, 0, [], .iaload),
  (0, 9, 3, 48, 0, [], .if_icmp .ge 39),
  (0, 12, 1, 0, 0, [], .iload_n 3),
  (0, 13, 1, 0, 4, [], .iconst 4),
  (0, 14, 3, 48, 0, [], .if_icmp .ge 34),
  (0, 17, 1, 0, 0, [], .aload_n 0),
  (0, 18, 3, 0, 0, [], .getfield 18),
  (0, 21, 1, 0, 0, [], .aload_n 1),
  (0, 22, 3, 0, 0, [], .getfield 65),
  (0, 25, 1, 0, 0, [], .iload_n 2),
  (0, 26, 1, 0, 4, [], .iconst 4),
  (0, 27, 1, 0, 0, [], .imul),
  (0, 28, 1, 0, 0, [], .iload_n 3),
  (0, 29, 1, 0, 0, [], .iadd),
  (0, 30, 1, 0, 0, [], .iaload),
  (0, 31, 1, 0, 0, [], .aload_n 1),
  (0, 32, 3, 0, 0, [], .getfield 68),
  (0, 35, 1, 0, 0, [], .iload_n 2),
  (0, 36, 1, 0, 4, [], .iconst 4),
  (0, 37, 1, 0, 0, [], .imul),
  (0, 38, 1, 0, 0, [], .iload_n 3),
  (0, 39, 1, 0, 0, [], .iadd),
  (0, 40, 1, 0, 0, [], .iaload),
  (0, 41, 1, 0, 0, [], .iastore),
  (0, 42, 3, 0, 1, [], .iinc 3 1),
  (0, 45, 3, 2, 0, [], .goto (-43)),
  (0, 48, 1, 0, 0, [], .return_)]
def L_X4_takePart_2 (fu : Nat) : Nat → Nat → Option Nat → Int32 → Int32 → xM → Option xM
  | 0, _, _, _, _, _ => none
  | n + 1, s, x1, x2, x3, M =>
    x1.bind fun a_1 =>
    (gR M 0 a_1 13).bind fun a_2 =>
    gd (xin x2 (gN M 20 a_2)) <|
    if (gI M 20 a_2 (xi x2)) ≤ x3 then
      some M
    else
      if 4 ≤ x3 then
        some M
      else
        x1.bind fun a_3 =>
        (gR M 0 a_3 14).bind fun a_4 =>
        gd (xin ((x2 * 4) + x3) (gN M 20 a_4)) <|
        x1.bind fun a_5 =>
        (gR M 0 a_5 15).bind fun a_6 =>
        gd (xin ((x2 * 4) + x3) (gN M 20 a_6)) <|
        (gR M 4 s 2).bind fun a_7 =>
        gd (xin (gI M 20 a_4 (xi ((x2 * 4) + x3))) (gN M 20 a_7)) <|
        let M_8 := sI M 20 a_7 (xi (gI M 20 a_4 (xi ((x2 * 4) + x3)))) (gI M 20 a_6 (xi ((x2 * 4) + x3)))
        L_X4_takePart_2 fu n s x1 x2 (x3 + 1) M_8
set_option maxRecDepth 100000 in
theorem q_X4_takePart_2 (fu : Nat) (n : Nat) (s : Nat) (x1 : Option Nat) (x2 : Int32) (x3 : Int32) (M : xM) :
    xrun pX4_takePart flX4 koX4 nwX4 [] [(2, fun bc bs ls st M => xz bc bs (lR ls 0 4 fun o => o.bind fun s => lR ls 1 0 fun x1 => lI ls 2 fun x2 => lI ls 3 fun x3 => xe st (L_X4_takePart_2 fu n s x1 x2 x3 M)))] xrtV 35 (xat 2 pX4_takePart) 0 0 [(0, .inr (.inr (4, some s))), (1, .inr (.inr (0, x1))), (2, .inl x2), (3, .inl x3)] [] M = L_X4_takePart_2 fu (n + 1) s x1 x2 x3 M := rfl
def F_X4_takePart (fu : Nat) (s : Nat) (x1 : Option Nat) (x2 : Int32) (M : xM) : Option xM :=
  L_X4_takePart_2 fu fu s x1 x2 0 M
set_option maxRecDepth 100000 in
theorem q_X4_takePart (fu : Nat) (s : Nat) (x1 : Option Nat) (x2 : Int32) (M : xM) :
    xrun pX4_takePart flX4 koX4 nwX4 [] [(2, fun bc bs ls st M => xz bc bs (lR ls 0 4 fun o => o.bind fun s => lR ls 1 0 fun x1 => lI ls 2 fun x2 => lI ls 3 fun x3 => xe st (L_X4_takePart_2 fu fu s x1 x2 x3 M)))] xrtV 35 (xat 0 pX4_takePart) 0 0 [(0, .inr (.inr (4, some s))), (1, .inr (.inr (0, x1))), (2, .inl x2)] [] M = F_X4_takePart fu s x1 x2 M := rfl
def w_X4_takePart (fu : Nat) {ρ : Type} (as : List xV) (M : xM) (k : Option xV → xM → Option ρ) : Option ρ := pR 4 as fun o as => o.bind fun s => pR 0 as fun x1 as => pI as fun x2 as => xe as ((F_X4_takePart fu s x1 x2 M).bind fun p => k none p)
def pX4_takeData : List xE := [(0, 0, 1, 0, 0, [], .aload_n 1),
  (0, 1, 3, 0, 0, [], .getfield 44),
  (0, 4, 1, 0, 0, [], .iload_n 2),
  (0, 5, 1, 0, 0, [], .iaload),
  (0, 6, 1, 0, 0, [], .istore_n 3),
  (0, 7, 1, 0, 0, [], .aload_n 0),
  (0, 8, 3, 0, 0, [], .getfield 21),
  (0, 11, 1, 0, 0, [], .aload_n 1),
  (0, 12, 3, 0, 0, [], .getfield 50),
  (0, 15, 1, 0, 0, [], .iload_n 2),
  (0, 16, 1, 0, 0, [], .iaload),
  (0, 17, 1, 0, 0, [], .iaload),
  (0, 18, 2, 0, 0, [], .istore 4),
  (0, 20, 1, 0, 0, [], .aload_n 1),
  (0, 21, 3, 0, 0, [], .getfield 50),
  (0, 24, 1, 0, 0, [], .iload_n 2),
  (0, 25, 1, 0, 0, [], .iaload),
  (0, 26, 1, 0, 4, [], .iconst 4),
  (0, 27, 1, 0, 0, [], .imul),
  (0, 28, 1, 0, 0, [], .aload_n 1),
  (0, 29, 3, 0, 0, [], .getfield 71),
  (0, 32, 1, 0, 0, [], .iload_n 2),
  (0, 33, 1, 0, 0, [], .iaload),
  (0, 34, 1, 0, 0, [], .iadd),
  (0, 35, 2, 0, 0, [], .istore 5),
  (0, 37, 1, 0, 0, [], .iload_n 3),
  (0, 38, 1, 0, 0, [], .aload_n 1),
  (0, 39, 3, 0, 0, [], .getfield 47),
  (0, 42, 3, 59, 0, [], .if_icmp .le 17),
  (0, 45, 1, 0, 0, [], .iload_n 3),
  (0, 46, 2, 0, 0, [], .iload 4),
  (0, 48, 3, 55, 0, [], .if_icmp .le 7),
  (0, 51, 1, 0, 1, [], .iconst 1),
  (0, 52, 3, 80, 0, [], .goto 28),
  (0, 55, 1, 0, 0, [], .iconst 0),
  (0, 56, 3, 80, 0, [], .goto 24),
  (0, 59, 2, 0, 0, [], .iload 4),
  (0, 61, 3, 79, 0, [], .ifCond .ne 18),
  (0, 64, 1, 0, 0, [], .aload_n 0),
  (0, 65, 3, 0, 0, [], .getfield 18),
  (0, 68, 2, 0, 0, [], .iload 5),
  (0, 70, 1, 0, 0, [], .iaload),
  (0, 71, 1, 0, 0, [], .iload_n 3),
  (0, 72, 3, 79, 0, [], .if_icmp .ne 7),
  (0, 75, 1, 0, 1, [], .iconst 1),
  (0, 76, 3, 80, 0, [], .goto 4),
  (0, 79, 1, 0, 0, [], .iconst 0),
  (1, 80, 2, 0, 0, [], .istore 6),
  (0, 82, 2, 0, 0, [], .iload 6),
  (0, 84, 3, 119, 0, [], .ifCond .eq 35),
  (0, 87, 1, 0, 0, [], .iload_n 3),
  (0, 88, 1, 0, 0, [], .aload_n 0),
  (0, 89, 3, 0, 0, [], .getfield 9),
  (0, 92, 2, 0, 0, [], .iload 5),
  (0, 94, 1, 0, 0, [], .iaload),
  (0, 95, 3, 119, 0, [], .if_icmp .le 24),
  (0, 98, 1, 0, 0, [], .aload_n 0),
  (0, 99, 3, 0, 0, [], .getfield 9),
  (0, 102, 2, 0, 0, [], .iload 5),
  (0, 104, 1, 0, 0, [], .iload_n 3),
  (0, 105, 1, 0, 0, [], .iastore),
  (0, 106, 1, 0, 0, [], .aload_n 0),
  (0, 107, 3, 0, 0, [], .getfield 15),
  (0, 110, 2, 0, 0, [], .iload 5),
  (0, 112, 1, 0, 0, [], .aload_n 1),
  (0, 113, 3, 0, 0, [], .getfield 62),
  (0, 116, 1, 0, 0, [], .iload_n 2),
  (0, 117, 1, 0, 0, [], .iaload),
  (0, 118, 1, 0, 0, [], .iastore),
  (0, 119, 1, 0, 0, [], .return_)]
def J_X4_takeData_80 (fu : Nat) (s : Nat) (x1 : Option Nat) (x2 : Int32) (x3 : Int32) (x5 : Int32) (y0 : Int32) (M : xM) : Option xM :=
  if y0 = 0 then
    some M
  else
    (gR M 4 s 0).bind fun a_1 =>
    gd (xin x5 (gN M 20 a_1)) <|
    if x3 ≤ (gI M 20 a_1 (xi x5)) then
      some M
    else
      (gR M 4 s 0).bind fun a_2 =>
      gd (xin x5 (gN M 20 a_2)) <|
      let M_3 := sI M 20 a_2 (xi x5) x3
      x1.bind fun a_4 =>
      (gR M_3 0 a_4 13).bind fun a_5 =>
      gd (xin x2 (gN M_3 20 a_5)) <|
      (gR M_3 4 s 1).bind fun a_6 =>
      gd (xin x5 (gN M_3 20 a_6)) <|
      let M_7 := sI M_3 20 a_6 (xi x5) (gI M_3 20 a_5 (xi x2))
      some M_7
set_option maxRecDepth 100000 in
theorem q_X4_takeData_80 (fu : Nat) (s : Nat) (x1 : Option Nat) (x2 : Int32) (x3 : Int32) (x5 : Int32) (y0 : Int32) (M : xM) :
    xrun pX4_takeData flX4 koX4 nwX4 [] [] xrtV 72 (xat 80 pX4_takeData) 0 0 [(0, .inr (.inr (4, some s))), (1, .inr (.inr (0, x1))), (2, .inl x2), (3, .inl x3), (5, .inl x5)] [.inl y0] M = J_X4_takeData_80 fu s x1 x2 x3 x5 y0 M := rfl
def F_X4_takeData (fu : Nat) (s : Nat) (x1 : Option Nat) (x2 : Int32) (M : xM) : Option xM :=
  x1.bind fun a_1 =>
  (gR M 0 a_1 10).bind fun a_2 =>
  gd (xin x2 (gN M 20 a_2)) <|
  let x3_3 : Int32 := gI M 20 a_2 (xi x2)
  x1.bind fun a_4 =>
  (gR M 0 a_4 11).bind fun a_5 =>
  gd (xin x2 (gN M 20 a_5)) <|
  (gR M 4 s 3).bind fun a_6 =>
  gd (xin (gI M 20 a_5 (xi x2)) (gN M 20 a_6)) <|
  let x4_7 : Int32 := gI M 20 a_6 (xi (gI M 20 a_5 (xi x2)))
  x1.bind fun a_8 =>
  (gR M 0 a_8 11).bind fun a_9 =>
  gd (xin x2 (gN M 20 a_9)) <|
  x1.bind fun a_10 =>
  (gR M 0 a_10 12).bind fun a_11 =>
  gd (xin x2 (gN M 20 a_11)) <|
  let x5_12 : Int32 := ((gI M 20 a_9 (xi x2)) * 4) + (gI M 20 a_11 (xi x2))
  x1.bind fun a_13 =>
  if x3_3 ≤ (gI M 0 a_13 5) then
    if ¬ x4_7 = 0 then
      J_X4_takeData_80 fu s x1 x2 x3_3 x5_12 0 M
    else
      (gR M 4 s 2).bind fun a_14 =>
      gd (xin x5_12 (gN M 20 a_14)) <|
      if ¬ (gI M 20 a_14 (xi x5_12)) = x3_3 then
        J_X4_takeData_80 fu s x1 x2 x3_3 x5_12 0 M
      else
        J_X4_takeData_80 fu s x1 x2 x3_3 x5_12 1 M
  else
    if x3_3 ≤ x4_7 then
      J_X4_takeData_80 fu s x1 x2 x3_3 x5_12 0 M
    else
      J_X4_takeData_80 fu s x1 x2 x3_3 x5_12 1 M
set_option maxRecDepth 100000 in
theorem q_X4_takeData (fu : Nat) (s : Nat) (x1 : Option Nat) (x2 : Int32) (M : xM) :
    xrun pX4_takeData flX4 koX4 nwX4 [] [(80, fun bc bs ls st M => xz bc bs (lR ls 0 4 fun o => o.bind fun s => lR ls 1 0 fun x1 => lI ls 2 fun x2 => lI ls 3 fun x3 => lI ls 5 fun x5 => pI st fun y0 st => xe st (J_X4_takeData_80 fu s x1 x2 x3 x5 y0 M)))] xrtV 72 (xat 0 pX4_takeData) 0 0 [(0, .inr (.inr (4, some s))), (1, .inr (.inr (0, x1))), (2, .inl x2)] [] M = F_X4_takeData fu s x1 x2 M := rfl
def w_X4_takeData (fu : Nat) {ρ : Type} (as : List xV) (M : xM) (k : Option xV → xM → Option ρ) : Option ρ := pR 4 as fun o as => o.bind fun s => pR 0 as fun x1 as => pI as fun x2 as => xe as ((F_X4_takeData fu s x1 x2 M).bind fun p => k none p)
def pX4_find : List xE := [(0, 0, 1, 0, 0, [], .aload_n 0),
  (0, 1, 3, 0, 0, [], .invokevirtual 24),
  (0, 4, 1, 0, 0, [], .iconst 0),
  (0, 5, 1, 0, 0, [], .istore_n 2),
  (1, 6, 1, 0, 0, [], .iload_n 2),
  (0, 7, 1, 0, 0, [], .aload_n 1),
  (0, 8, 3, 0, 0, [], .getfield 27),
  (0, 11, 3, 91, 0, [], .if_icmp .ge 80),
  (0, 14, 1, 0, 0, [], .aload_n 1),
  (0, 15, 1, 0, 0, [], .iload_n 2),
  (0, 16, 3, 0, 0, [], .invokevirtual 33),
  (0, 19, 3, 31, 0, [], .ifCond .eq 12),
  (0, 22, 1, 0, 0, [], .aload_n 0),
  (0, 23, 1, 0, 0, [], .aload_n 1),
  (0, 24, 1, 0, 0, [], .iload_n 2),
  (0, 25, 3, 0, 0, [], .invokevirtual 37),
  (0, 28, 3, 85, 0, [], .goto 57),
  (0, 31, 1, 0, 0, [], .aload_n 1),
  (0, 32, 3, 0, 0, [], .getfield 41),
  (0, 35, 1, 0, 0, [], .iload_n 2),
  (0, 36, 1, 0, 0, [], .iaload),
  (0, 37, 1, 0, 2, [], .iconst 2),
  (0, 38, 3, 85, 0, [], .if_icmp .ne 47),
  (0, 41, 1, 0, 0, [], .aload_n 1),
  (0, 42, 3, 0, 0, [], .getfield 44),
  (0, 45, 1, 0, 0, [], .iload_n 2),
  (0, 46, 1, 0, 0, [], .iaload),
  (0, 47, 1, 0, 0, [], .aload_n 1),
  (0, 48, 3, 0, 0, [], .getfield 47),
  (0, 51, 3, 85, 0, [], .if_icmp .le 34),
  (0, 54, 1, 0, 0, [], .aload_n 0),
  (0, 55, 3, 0, 0, [], .getfield 21),
  (0, 58, 1, 0, 0, [], .aload_n 1),
  (0, 59, 3, 0, 0, [], .getfield 50),
  (0, 62, 1, 0, 0, [], .iload_n 2),
  (0, 63, 1, 0, 0, [], .iaload),
  (0, 64, 1, 0, 0, [], .aload_n 0),
  (0, 65, 3, 0, 0, [], .getfield 21),
  (0, 68, 1, 0, 0, [], .aload_n 1),
  (0, 69, 3, 0, 0, [], .getfield 50),
  (0, 72, 1, 0, 0, [], .iload_n 2),
  (0, 73, 1, 0, 0, [], .iaload),
  (0, 74, 1, 0, 0, [], .iaload),
  (0, 75, 1, 0, 0, [], .aload_n 1),
  (0, 76, 3, 0, 0, [], .getfield 44),
  (0, 79, 1, 0, 0, [], .iload_n 2),
  (0, 80, 1, 0, 0, [], .iaload),
  (0, 81, 3, 0, 0, [], .invokestatic 53),
  (0, 84, 1, 0, 0, [], .iastore),
  (0, 85, 3, 0, 1, [], .iinc 2 1),
  (0, 88, 3, 6, 0, [], .goto (-82)),
  (0, 91, 1, 0, 0, [], .iconst 0),
  (0, 92, 1, 0, 0, [], .istore_n 2),
  (1, 93, 1, 0, 0, [], .iload_n 2),
  (0, 94, 1, 0, 0, [], .aload_n 1),
  (0, 95, 3, 0, 0, [], .getfield 27),
  (0, 98, 3, 123, 0, [], .if_icmp .ge 25),
  (0, 101, 1, 0, 0, [], .aload_n 1),
  (0, 102, 3, 0, 0, [], .getfield 41),
  (0, 105, 1, 0, 0, [], .iload_n 2),
  (0, 106, 1, 0, 0, [], .iaload),
  (0, 107, 1, 0, 1, [], .iconst 1),
  (0, 108, 3, 117, 0, [], .if_icmp .ne 9),
  (0, 111, 1, 0, 0, [], .aload_n 0),
  (0, 112, 1, 0, 0, [], .aload_n 1),
  (0, 113, 1, 0, 0, [], .iload_n 2),
  (0, 114, 3, 0, 0, [], .invokevirtual 59),
  (0, 117, 3, 0, 1, [], .iinc 2 1),
  (0, 120, 3, 93, 0, [], .goto (-27)),
  (0, 123, 1, 0, 0, [], .return_)]
def L_X4_find_93 (fu : Nat) : Nat → Nat → Option Nat → Int32 → xM → Option xM
  | 0, _, _, _, _ => none
  | n + 1, s, x1, x2, M =>
    x1.bind fun a_1 =>
    if (gI M 0 a_1 2) ≤ x2 then
      some M
    else
      x1.bind fun a_2 =>
      (gR M 0 a_2 9).bind fun a_3 =>
      gd (xin x2 (gN M 20 a_3)) <|
      if ¬ (gI M 20 a_3 (xi x2)) = 1 then
        L_X4_find_93 fu n s x1 (x2 + 1) M
      else
        (F_X4_takeData fu s x1 x2 M).bind fun p_4 =>
        L_X4_find_93 fu n s x1 (x2 + 1) p_4
set_option maxRecDepth 100000 in
theorem q_X4_find_93 (fu : Nat) (n : Nat) (s : Nat) (x1 : Option Nat) (x2 : Int32) (M : xM) :
    xrun pX4_find flX4 koX4 nwX4 [(59, 3, 0, 0, w_X4_takeData fu)] [(93, fun bc bs ls st M => xz bc bs (lR ls 0 4 fun o => o.bind fun s => lR ls 1 0 fun x1 => lI ls 2 fun x2 => xe st (L_X4_find_93 fu n s x1 x2 M)))] xrtV 72 (xat 93 pX4_find) 0 0 [(0, .inr (.inr (4, some s))), (1, .inr (.inr (0, x1))), (2, .inl x2)] [] M = L_X4_find_93 fu (n + 1) s x1 x2 M := rfl
def L_X4_find_6 (fu : Nat) : Nat → Nat → Option Nat → Int32 → xM → Option xM
  | 0, _, _, _, _ => none
  | n + 1, s, x1, x2, M =>
    x1.bind fun a_1 =>
    if (gI M 0 a_1 2) ≤ x2 then
      L_X4_find_93 fu fu s x1 0 M
    else
      x1.bind fun a_2 =>
      (F_X0_isWhole fu a_2 x2 M).bind fun p_3 =>
      if p_3.1 = 0 then
        x1.bind fun a_4 =>
        (gR p_3.2 0 a_4 9).bind fun a_5 =>
        gd (xin x2 (gN p_3.2 20 a_5)) <|
        if ¬ (gI p_3.2 20 a_5 (xi x2)) = 2 then
          L_X4_find_6 fu n s x1 (x2 + 1) p_3.2
        else
          x1.bind fun a_6 =>
          (gR p_3.2 0 a_6 10).bind fun a_7 =>
          gd (xin x2 (gN p_3.2 20 a_7)) <|
          x1.bind fun a_8 =>
          if (gI p_3.2 20 a_7 (xi x2)) ≤ (gI p_3.2 0 a_8 5) then
            L_X4_find_6 fu n s x1 (x2 + 1) p_3.2
          else
            x1.bind fun a_9 =>
            (gR p_3.2 0 a_9 11).bind fun a_10 =>
            gd (xin x2 (gN p_3.2 20 a_10)) <|
            x1.bind fun a_11 =>
            (gR p_3.2 0 a_11 11).bind fun a_12 =>
            gd (xin x2 (gN p_3.2 20 a_12)) <|
            (gR p_3.2 4 s 3).bind fun a_13 =>
            gd (xin (gI p_3.2 20 a_12 (xi x2)) (gN p_3.2 20 a_13)) <|
            x1.bind fun a_14 =>
            (gR p_3.2 0 a_14 10).bind fun a_15 =>
            gd (xin x2 (gN p_3.2 20 a_15)) <|
            (gR p_3.2 4 s 3).bind fun a_16 =>
            gd (xin (gI p_3.2 20 a_10 (xi x2)) (gN p_3.2 20 a_16)) <|
            let M_17 := sI p_3.2 20 a_16 (xi (gI p_3.2 20 a_10 (xi x2))) (xmaxI (gI p_3.2 20 a_13 (xi (gI p_3.2 20 a_12 (xi x2)))) (gI p_3.2 20 a_15 (xi x2)))
            L_X4_find_6 fu n s x1 (x2 + 1) M_17
      else
        (F_X4_takePart fu s x1 x2 p_3.2).bind fun p_18 =>
        L_X4_find_6 fu n s x1 (x2 + 1) p_18
set_option maxRecDepth 100000 in
theorem q_X4_find_6 (fu : Nat) (n : Nat) (s : Nat) (x1 : Option Nat) (x2 : Int32) (M : xM) :
    xrun pX4_find flX4 koX4 nwX4 [(33, 2, 0, 0, w_X0_isWhole fu), (37, 3, 0, 0, w_X4_takePart fu), (53, 2, 0, 0, w_max)] [(6, fun bc bs ls st M => xz bc bs (lR ls 0 4 fun o => o.bind fun s => lR ls 1 0 fun x1 => lI ls 2 fun x2 => xe st (L_X4_find_6 fu n s x1 x2 M))),
    (93, fun bc bs ls st M => xz bc bs (lR ls 0 4 fun o => o.bind fun s => lR ls 1 0 fun x1 => lI ls 2 fun x2 => xe st (L_X4_find_93 fu fu s x1 x2 M)))] xrtV 72 (xat 6 pX4_find) 0 0 [(0, .inr (.inr (4, some s))), (1, .inr (.inr (0, x1))), (2, .inl x2)] [] M = L_X4_find_6 fu (n + 1) s x1 x2 M := rfl
def F_X4_find (fu : Nat) (s : Nat) (x1 : Option Nat) (M : xM) : Option xM :=
  (F_X4_clear fu s M).bind fun p_1 =>
  L_X4_find_6 fu fu s x1 0 p_1
set_option maxRecDepth 100000 in
theorem q_X4_find (fu : Nat) (s : Nat) (x1 : Option Nat) (M : xM) :
    xrun pX4_find flX4 koX4 nwX4 [(24, 1, 0, 0, w_X4_clear fu)] [(6, fun bc bs ls st M => xz bc bs (lR ls 0 4 fun o => o.bind fun s => lR ls 1 0 fun x1 => lI ls 2 fun x2 => xe st (L_X4_find_6 fu fu s x1 x2 M)))] xrtV 72 (xat 0 pX4_find) 0 0 [(0, .inr (.inr (4, some s))), (1, .inr (.inr (0, x1)))] [] M = F_X4_find fu s x1 M := rfl
def w_X4_find (fu : Nat) {ρ : Type} (as : List xV) (M : xM) (k : Option xV → xM → Option ρ) : Option ρ := pR 4 as fun o as => o.bind fun s => pR 0 as fun x1 as => xe as ((F_X4_find fu s x1 M).bind fun p => k none p)
def pX2_firstUnmapped : List xE := [(0, 0, 1, 0, 0, [], .iconst 0),
  (0, 1, 1, 0, 0, [], .istore_n 2),
  (1, 2, 1, 0, 0, [], .iload_n 2),
  (0, 3, 1, 0, 4, [], .iconst 4),
  (0, 4, 3, 28, 0, [], .if_icmp .ge 24),
  (0, 7, 1, 0, 0, [], .aload_n 0),
  (0, 8, 3, 0, 0, [], .getfield 18),
  (0, 11, 1, 0, 0, [], .iload_n 1),
  (0, 12, 1, 0, 4, [], .iconst 4),
  (0, 13, 1, 0, 0, [], .imul),
  (0, 14, 1, 0, 0, [], .iload_n 2),
  (0, 15, 1, 0, 0, [], .iadd),
  (0, 16, 1, 0, 0, [], .iaload),
  (0, 17, 3, 22, 0, [], .ifCond .ne 5),
  (0, 20, 1, 0, 0, [], .iload_n 2),
  (0, 21, 1, 0, 0, [], .ireturn),
  (0, 22, 3, 0, 1, [], .iinc 2 1),
  (0, 25, 3, 2, 0, [], .goto (-23)),
  (0, 28, 1, 0, (-1), [], .iconst (-1)),
  (0, 29, 1, 0, 0, [], .ireturn)]
def L_X2_firstUnmapped_2 (fu : Nat) : Nat → Nat → Int32 → Int32 → xM → Option (Int32 × xM)
  | 0, _, _, _, _ => none
  | n + 1, s, x1, x2, M =>
    if 4 ≤ x2 then
      (some ((-1), M))
    else
      (gR M 2 s 7).bind fun a_1 =>
      gd (xin ((x1 * 4) + x2) (gN M 20 a_1)) <|
      if ¬ (gI M 20 a_1 (xi ((x1 * 4) + x2))) = 0 then
        L_X2_firstUnmapped_2 fu n s x1 (x2 + 1) M
      else
        (some (x2, M))
set_option maxRecDepth 100000 in
theorem q_X2_firstUnmapped_2 (fu : Nat) (n : Nat) (s : Nat) (x1 : Int32) (x2 : Int32) (M : xM) :
    xrun pX2_firstUnmapped flX2 koX2 nwX2 [] [(2, fun bc bs ls st M => xz bc bs (lR ls 0 2 fun o => o.bind fun s => lI ls 1 fun x1 => lI ls 2 fun x2 => xe st (L_X2_firstUnmapped_2 fu n s x1 x2 M)))] xrtI 22 (xat 2 pX2_firstUnmapped) 0 0 [(0, .inr (.inr (2, some s))), (1, .inl x1), (2, .inl x2)] [] M = L_X2_firstUnmapped_2 fu (n + 1) s x1 x2 M := rfl
def F_X2_firstUnmapped (fu : Nat) (s : Nat) (x1 : Int32) (M : xM) : Option (Int32 × xM) :=
  L_X2_firstUnmapped_2 fu fu s x1 0 M
set_option maxRecDepth 100000 in
theorem q_X2_firstUnmapped (fu : Nat) (s : Nat) (x1 : Int32) (M : xM) :
    xrun pX2_firstUnmapped flX2 koX2 nwX2 [] [(2, fun bc bs ls st M => xz bc bs (lR ls 0 2 fun o => o.bind fun s => lI ls 1 fun x1 => lI ls 2 fun x2 => xe st (L_X2_firstUnmapped_2 fu fu s x1 x2 M)))] xrtI 22 (xat 0 pX2_firstUnmapped) 0 0 [(0, .inr (.inr (2, some s))), (1, .inl x1)] [] M = F_X2_firstUnmapped fu s x1 M := rfl
def w_X2_firstUnmapped (fu : Nat) {ρ : Type} (as : List xV) (M : xM) (k : Option xV → xM → Option ρ) : Option ρ := pR 2 as fun o as => o.bind fun s => pI as fun x1 as => xe as ((F_X2_firstUnmapped fu s x1 M).bind fun p => k (some (.inl p.1)) p.2)
def pX2_mayWrite : List xE := [(0, 0, 1, 0, 0, [], .aload_n 0),
  (0, 1, 3, 0, 0, [], .getfield 47),
  (0, 4, 3, 28, 0, [], .ifCond .eq 24),
  (0, 7, 1, 0, 0, [], .aload_n 0),
  (0, 8, 3, 0, 0, [], .getfield 35),
  (0, 11, 1, 0, 0, [], .iload_n 1),
  (0, 12, 1, 0, 0, [], .iload_n 2),
  (0, 13, 3, 0, 0, [], .invokevirtual 147),
  (0, 16, 3, 28, 0, [], .ifCond .eq 12),
  (0, 19, 1, 0, 0, [], .aload_n 0),
  (0, 20, 3, 0, 0, [], .getfield 26),
  (0, 23, 1, 0, 0, [], .iload_n 1),
  (0, 24, 1, 0, 0, [], .baload),
  (0, 25, 3, 30, 0, [], .ifCond .eq 5),
  (0, 28, 1, 0, 0, [], .iconst 0),
  (0, 29, 1, 0, 0, [], .ireturn),
  (0, 30, 1, 0, 0, [], .aload_n 0),
  (0, 31, 3, 0, 0, [], .getfield 35),
  (0, 34, 3, 0, 0, [], .getfield 138),
  (0, 37, 1, 0, 0, [], .iload_n 1),
  (0, 38, 1, 0, 0, [], .iaload),
  (0, 39, 1, 0, 1, [], .iconst 1),
  (0, 40, 3, 52, 0, [], .if_icmp .ne 12),
  (0, 43, 1, 0, 0, [], .iload_n 2),
  (0, 44, 1, 0, 0, [], .aload_n 0),
  (0, 45, 1, 0, 0, [], .iload_n 1),
  (0, 46, 3, 0, 0, [], .invokevirtual 150),
  (0, 49, 3, 56, 0, [], .if_icmp .ne 7),
  (0, 52, 1, 0, 1, [], .iconst 1),
  (0, 53, 3, 57, 0, [], .goto 4),
  (0, 56, 1, 0, 0, [], .iconst 0),
  (0, 57, 1, 0, 0, [], .ireturn)]
def F_X2_mayWrite (fu : Nat) (s : Nat) (x1 : Int32) (x2 : Int32) (M : xM) : Option (Int32 × xM) :=
  if (gI M 2 s 1) = 0 then
    gd (xbool 0) (some (0, M))
  else
    (gR M 2 s 4).bind fun a_1 =>
    (F_X7_isPage fu a_1 x1 x2 M).bind fun p_2 =>
    if p_2.1 = 0 then
      gd (xbool 0) (some (0, p_2.2))
    else
      (gR p_2.2 2 s 9).bind fun a_3 =>
      gd (xin x1 (gN p_2.2 22 a_3)) <|
      if (gI p_2.2 22 a_3 (xi x1)) = 0 then
        (gR p_2.2 2 s 4).bind fun a_4 =>
        (gR p_2.2 7 a_4 4).bind fun a_5 =>
        gd (xin x1 (gN p_2.2 20 a_5)) <|
        if ¬ (gI p_2.2 20 a_5 (xi x1)) = 1 then
          gd (xbool 1) (some (1, p_2.2))
        else
          (F_X2_firstUnmapped fu s x1 p_2.2).bind fun p_6 =>
          if ¬ x2 = p_6.1 then
            gd (xbool 0) (some (0, p_6.2))
          else
            gd (xbool 1) (some (1, p_6.2))
      else
        gd (xbool 0) (some (0, p_2.2))
set_option maxRecDepth 100000 in
theorem q_X2_mayWrite (fu : Nat) (s : Nat) (x1 : Int32) (x2 : Int32) (M : xM) :
    xrun pX2_mayWrite flX2 koX2 nwX2 [(147, 3, 0, 0, w_X7_isPage fu), (150, 2, 0, 0, w_X2_firstUnmapped fu)] [] xrtZ 34 (xat 0 pX2_mayWrite) 0 0 [(0, .inr (.inr (2, some s))), (1, .inl x1), (2, .inl x2)] [] M = F_X2_mayWrite fu s x1 x2 M := rfl
def w_X2_mayWrite (fu : Nat) {ρ : Type} (as : List xV) (M : xM) (k : Option xV → xM → Option ρ) : Option ρ := pR 2 as fun o as => o.bind fun s => pI as fun x1 as => pI as fun x2 as => xe as ((F_X2_mayWrite fu s x1 x2 M).bind fun p => k (some (.inl p.1)) p.2)
def pX2_isMappedTo : List xE := [(0, 0, 1, 0, 0, [], .aload_n 0),
  (0, 1, 3, 0, 0, [], .getfield 12),
  (0, 4, 3, 0, 0, [], .getfield 270),
  (0, 7, 1, 0, 0, [], .iload_n 1),
  (0, 8, 1, 0, 0, [], .iaload),
  (0, 9, 1, 0, 1, [], .iconst 1),
  (0, 10, 3, 55, 0, [], .if_icmp .ne 45),
  (0, 13, 1, 0, 0, [], .aload_n 0),
  (0, 14, 3, 0, 0, [], .getfield 18),
  (0, 17, 1, 0, 0, [], .aload_n 0),
  (0, 18, 3, 0, 0, [], .getfield 12),
  (0, 21, 3, 0, 0, [], .getfield 279),
  (0, 24, 1, 0, 0, [], .iload_n 1),
  (0, 25, 1, 0, 0, [], .iaload),
  (0, 26, 1, 0, 4, [], .iconst 4),
  (0, 27, 1, 0, 0, [], .imul),
  (0, 28, 1, 0, 0, [], .aload_n 0),
  (0, 29, 3, 0, 0, [], .getfield 12),
  (0, 32, 3, 0, 0, [], .getfield 282),
  (0, 35, 1, 0, 0, [], .iload_n 1),
  (0, 36, 1, 0, 0, [], .iaload),
  (0, 37, 1, 0, 0, [], .iadd),
  (0, 38, 1, 0, 0, [], .iaload),
  (0, 39, 1, 0, 0, [], .aload_n 0),
  (0, 40, 3, 0, 0, [], .getfield 12),
  (0, 43, 3, 0, 0, [], .getfield 285),
  (0, 46, 1, 0, 0, [], .iload_n 1),
  (0, 47, 1, 0, 0, [], .iaload),
  (0, 48, 3, 55, 0, [], .if_icmp .ne 7),
  (0, 51, 1, 0, 1, [], .iconst 1),
  (0, 52, 3, 56, 0, [], .goto 4),
  (0, 55, 1, 0, 0, [], .iconst 0),
  (0, 56, 1, 0, 0, [], .ireturn)]
def F_X2_isMappedTo (fu : Nat) (s : Nat) (x1 : Int32) (M : xM) : Option (Int32 × xM) :=
  (gR M 2 s 0).bind fun a_1 =>
  (gR M 0 a_1 9).bind fun a_2 =>
  gd (xin x1 (gN M 20 a_2)) <|
  if ¬ (gI M 20 a_2 (xi x1)) = 1 then
    gd (xbool 0) (some (0, M))
  else
    (gR M 2 s 0).bind fun a_3 =>
    (gR M 0 a_3 11).bind fun a_4 =>
    gd (xin x1 (gN M 20 a_4)) <|
    (gR M 2 s 0).bind fun a_5 =>
    (gR M 0 a_5 12).bind fun a_6 =>
    gd (xin x1 (gN M 20 a_6)) <|
    (gR M 2 s 7).bind fun a_7 =>
    gd (xin (((gI M 20 a_4 (xi x1)) * 4) + (gI M 20 a_6 (xi x1))) (gN M 20 a_7)) <|
    (gR M 2 s 0).bind fun a_8 =>
    (gR M 0 a_8 10).bind fun a_9 =>
    gd (xin x1 (gN M 20 a_9)) <|
    if ¬ (gI M 20 a_7 (xi (((gI M 20 a_4 (xi x1)) * 4) + (gI M 20 a_6 (xi x1))))) = (gI M 20 a_9 (xi x1)) then
      gd (xbool 0) (some (0, M))
    else
      gd (xbool 1) (some (1, M))
set_option maxRecDepth 100000 in
theorem q_X2_isMappedTo (fu : Nat) (s : Nat) (x1 : Int32) (M : xM) :
    xrun pX2_isMappedTo flX2 koX2 nwX2 [] [] xrtZ 35 (xat 0 pX2_isMappedTo) 0 0 [(0, .inr (.inr (2, some s))), (1, .inl x1)] [] M = F_X2_isMappedTo fu s x1 M := rfl
def w_X2_isMappedTo (fu : Nat) {ρ : Type} (as : List xV) (M : xM) (k : Option xV → xM → Option ρ) : Option ρ := pR 2 as fun o as => o.bind fun s => pI as fun x1 as => xe as ((F_X2_isMappedTo fu s x1 M).bind fun p => k (some (.inl p.1)) p.2)
def pX2_survey : List xE := [(0, 0, 1, 0, 0, [], .aload_n 0),
  (0, 1, 3, 0, 0, [], .getfield 68),
  (0, 4, 3, 8, 0, [], .ifCond .eq 4),
  (0, 7, 1, 0, 0, [], .return_),
  (0, 8, 1, 0, 0, [], .aload_n 0),
  (0, 9, 1, 0, 1, [], .iconst 1),
  (0, 10, 3, 0, 0, [], .putfield 68),
  (0, 13, 1, 0, 0, [], .aload_n 0),
  (0, 14, 1, 0, 0, [], .iconst 0),
  (0, 15, 3, 0, 0, [], .putfield 180),
  (0, 18, 1, 0, 0, [], .aload_n 0),
  (0, 19, 1, 0, 0, [], .iconst 0),
  (0, 20, 3, 0, 0, [], .putfield 183),
  (0, 23, 1, 0, 0, [], .iconst 0),
  (0, 24, 1, 0, 0, [], .istore_n 1),
  (1, 25, 1, 0, 0, [], .iload_n 1),
  (0, 26, 2, 0, 6, [], .bipush 6),
  (0, 28, 3, 44, 0, [], .if_icmp .ge 16),
  (0, 31, 1, 0, 0, [], .aload_n 0),
  (0, 32, 3, 0, 0, [], .getfield 32),
  (0, 35, 1, 0, 0, [], .iload_n 1),
  (0, 36, 1, 0, 0, [], .iconst 0),
  (0, 37, 1, 0, 0, [], .iastore),
  (0, 38, 3, 0, 1, [], .iinc 1 1),
  (0, 41, 3, 25, 0, [], .goto (-16)),
  (0, 44, 1, 0, 0, [], .iconst 0),
  (0, 45, 1, 0, 0, [], .istore_n 1),
  (1, 46, 1, 0, 0, [], .iload_n 1),
  (0, 47, 1, 0, 0, [], .aload_n 0),
  (0, 48, 3, 0, 0, [], .getfield 12),
  (0, 51, 3, 0, 0, [], .getfield 177),
  (0, 54, 3, 226, 0, [], .if_icmp .ge 172),
  (0, 57, 1, 0, 0, [], .aload_n 0),
  (0, 58, 3, 0, 0, [], .getfield 12),
  (0, 61, 1, 0, 0, [], .iload_n 1),
  (0, 62, 3, 0, 0, [], .invokevirtual 264),
  (0, 65, 1, 0, 0, [], .istore_n 2),
  (0, 66, 1, 0, 0, [], .aload_n 0),
  (0, 67, 3, 0, 0, [], .getfield 12),
  (0, 70, 1, 0, 0, [], .iload_n 1),
  (0, 71, 3, 0, 0, [], .invokevirtual 267),
  (0, 74, 3, 102, 0, [], .ifCond .ne 28),
  (0, 77, 1, 0, 0, [], .iload_n 2),
  (0, 78, 3, 94, 0, [], .ifCond .eq 16),
  (0, 81, 1, 0, 0, [], .aload_n 0),
  (0, 82, 3, 0, 0, [], .getfield 12),
  (0, 85, 3, 0, 0, [], .getfield 270),
  (0, 88, 1, 0, 0, [], .iload_n 1),
  (0, 89, 1, 0, 0, [], .iaload),
  (0, 90, 1, 0, 2, [], .iconst 2),
  (0, 91, 3, 102, 0, [], .if_icmp .eq 11),
  (1, 94, 1, 0, 0, [], .aload_n 0),
  (0, 95, 1, 0, 0, [], .iload_n 1),
  (0, 96, 3, 0, 0, [], .invokevirtual 273),
  (0, 99, 3, 106, 0, [], .ifCond .eq 7),
  (0, 102, 1, 0, 1, [], .iconst 1),
  (0, 103, 3, 107, 0, [], .goto 4),
  (0, 106, 1, 0, 0, [], .iconst 0),
  (1, 107, 1, 0, 0, [], .istore_n 3),
  (0, 108, 1, 0, 0, [], .iload_n 2),
  (0, 109, 3, 116, 0, [], .ifCond .ne 7),
  (0, 112, 1, 0, 0, [], .iload_n 3),
  (0, 113, 3, 131, 0, [], .ifCond .eq 18),
  (1, 116, 1, 0, 0, [], .aload_n 0),
  (0, 117, 3, 0, 0, [], .getfield 12),
  (0, 120, 1, 0, 0, [], .iload_n 1),
  (0, 121, 3, 0, 0, [], .invokevirtual 276),
  (0, 124, 3, 131, 0, [], .ifCond .eq 7),
  (0, 127, 1, 0, 1, [], .iconst 1),
  (0, 128, 3, 132, 0, [], .goto 4),
  (0, 131, 1, 0, 0, [], .iconst 0),
  (1, 132, 2, 0, 0, [], .istore 4),
  (0, 134, 1, 0, 0, [], .iload_n 2),
  (0, 135, 3, 153, 0, [], .ifCond .eq 18),
  (0, 138, 2, 0, 0, [], .iload 4),
  (0, 140, 3, 153, 0, [], .ifCond .eq 13),
  (0, 143, 1, 0, 0, [], .aload_n 0),
  (0, 144, 1, 0, 0, [], .dup),
  (0, 145, 3, 0, 0, [], .getfield 183),
  (0, 148, 1, 0, 1, [], .iconst 1),
  (0, 149, 1, 0, 0, [], .iadd),
  (0, 150, 3, 0, 0, [], .putfield 183),
  (1, 153, 1, 0, 0, [], .aload_n 0),
  (0, 154, 3, 0, 0, [], .getfield 29),
  (0, 157, 1, 0, 0, [], .iload_n 1),
  (0, 158, 1, 0, 0, [], .iload_n 3),
  (0, 159, 3, 171, 0, [], .ifCond .eq 12),
  (0, 162, 2, 0, 0, [], .iload 4),
  (0, 164, 3, 171, 0, [], .ifCond .eq 7),
  (0, 167, 1, 0, 1, [], .iconst 1),
  (0, 168, 3, 172, 0, [], .goto 4),
  (0, 171, 1, 0, 0, [], .iconst 0),
  (1, 172, 1, 0, 0, [], .bastore),
  (0, 173, 1, 0, 0, [], .aload_n 0),
  (0, 174, 3, 0, 0, [], .getfield 29),
  (0, 177, 1, 0, 0, [], .iload_n 1),
  (0, 178, 1, 0, 0, [], .baload),
  (0, 179, 3, 220, 0, [], .ifCond .eq 41),
  (0, 182, 1, 0, 0, [], .aload_n 0),
  (0, 183, 3, 0, 0, [], .getfield 12),
  (0, 186, 3, 0, 0, [], .getfield 232),
  (0, 189, 3, 220, 0, [], .ifCond .le 31),
  (0, 192, 1, 0, 0, [], .aload_n 0),
  (0, 193, 1, 0, 0, [], .dup),
  (0, 194, 3, 0, 0, [], .getfield 180),
  (0, 197, 1, 0, 1, [], .iconst 1),
  (0, 198, 1, 0, 0, [], .iadd),
  (0, 199, 3, 0, 0, [], .putfield 180),
  (0, 202, 1, 0, 0, [], .aload_n 0),
  (0, 203, 3, 0, 0, [], .getfield 32),
  (0, 206, 1, 0, 0, [], .iload_n 1),
  (0, 207, 1, 0, 0, [], .aload_n 0),
  (0, 208, 3, 0, 0, [], .getfield 12),
  (0, 211, 3, 0, 0, [], .getfield 232),
  (0, 214, 1, 0, 0, [], .idiv),
  (0, 215, 1, 0, 0, [], .dup2),
  (0, 216, 1, 0, 0, [], .iaload),
  (0, 217, 1, 0, 1, [], .iconst 1),
  (0, 218, 1, 0, 0, [], .iadd),
  (0, 219, 1, 0, 0, [], .iastore),
  (0, 220, 3, 0, 1, [], .iinc 1 1),
  (0, 223, 3, 46, 0, [], .goto (-177)),
  (0, 226, 1, 0, 0, [], .return_)]
def J_X2_survey_172 (fu : Nat) (k46 : Nat → Int32 → xM → Option xM) (s : Nat) (x1 : Int32) (y0 : Int32) (y1 : Int32) (y2 : Option Nat) (M : xM) : Option xM :=
  y2.bind fun a_1 =>
  gd (xin y1 (gN M 22 a_1)) <|
  gd (xbool y0) <|
  let M_2 := sI M 22 a_1 (xi y1) y0
  (gR M_2 2 s 12).bind fun a_3 =>
  gd (xin x1 (gN M_2 22 a_3)) <|
  if (gI M_2 22 a_3 (xi x1)) = 0 then
    k46 s (x1 + 1) M_2
  else
    (gR M_2 2 s 0).bind fun a_4 =>
    if (gI M_2 0 a_4 1) ≤ 0 then
      k46 s (x1 + 1) M_2
    else
      let M_5 := sI M_2 2 s 14 ((gI M_2 2 s 14) + 1)
      (gR M_5 2 s 0).bind fun a_6 =>
      gd (!((gI M_5 0 a_6 1 : Int32) == 0)) <|
      (gR M_5 2 s 13).bind fun a_7 =>
      gd (xin (x1 / (gI M_5 0 a_6 1)) (gN M_5 20 a_7)) <|
      (gR M_5 2 s 13).bind fun a_8 =>
      gd (xin (x1 / (gI M_5 0 a_6 1)) (gN M_5 20 a_8)) <|
      let M_9 := sI M_5 20 a_8 (xi (x1 / (gI M_5 0 a_6 1))) ((gI M_5 20 a_7 (xi (x1 / (gI M_5 0 a_6 1)))) + 1)
      k46 s (x1 + 1) M_9
set_option maxRecDepth 100000 in
theorem q_X2_survey_172 (fu : Nat) (k46 : Nat → Int32 → xM → Option xM) (s : Nat) (x1 : Int32) (y0 : Int32) (y1 : Int32) (y2 : Option Nat) (M : xM) :
    xrun pX2_survey flX2 koX2 nwX2 [] [(46, fun bc bs ls st M => xz bc bs (lR ls 0 2 fun o => o.bind fun s => lI ls 1 fun x1 => xe st (k46 s x1 M)))] xrtV 125 (xat 172 pX2_survey) 0 0 [(0, .inr (.inr (2, some s))), (1, .inl x1)] [.inl y0, .inl y1, .inr (.inr (22, y2))] M = J_X2_survey_172 fu k46 s x1 y0 y1 y2 M := rfl
def J_X2_survey_153 (fu : Nat) (k46 : Nat → Int32 → xM → Option xM) (s : Nat) (x1 : Int32) (x3 : Int32) (x4 : Int32) (M : xM) : Option xM :=
  if x3 = 0 then
    J_X2_survey_172 fu k46 s x1 0 x1 (gR M 2 s 12) M
  else
    if x4 = 0 then
      J_X2_survey_172 fu k46 s x1 0 x1 (gR M 2 s 12) M
    else
      J_X2_survey_172 fu k46 s x1 1 x1 (gR M 2 s 12) M
set_option maxRecDepth 100000 in
theorem q_X2_survey_153 (fu : Nat) (k46 : Nat → Int32 → xM → Option xM) (s : Nat) (x1 : Int32) (x3 : Int32) (x4 : Int32) (M : xM) :
    xrun pX2_survey flX2 koX2 nwX2 [] [(172, fun bc bs ls st M => xz bc bs (lR ls 0 2 fun o => o.bind fun s => lI ls 1 fun x1 => pI st fun y0 st => pI st fun y1 st => pR 22 st fun y2 st => xe st (J_X2_survey_172 fu k46 s x1 y0 y1 y2 M)))] xrtV 125 (xat 153 pX2_survey) 0 0 [(0, .inr (.inr (2, some s))), (1, .inl x1), (3, .inl x3), (4, .inl x4)] [] M = J_X2_survey_153 fu k46 s x1 x3 x4 M := rfl
def J_X2_survey_132 (fu : Nat) (k46 : Nat → Int32 → xM → Option xM) (s : Nat) (x1 : Int32) (x2 : Int32) (x3 : Int32) (y0 : Int32) (M : xM) : Option xM :=
  if x2 = 0 then
    J_X2_survey_153 fu k46 s x1 x3 y0 M
  else
    if y0 = 0 then
      J_X2_survey_153 fu k46 s x1 x3 y0 M
    else
      let M_1 := sI M 2 s 15 ((gI M 2 s 15) + 1)
      J_X2_survey_153 fu k46 s x1 x3 y0 M_1
set_option maxRecDepth 100000 in
theorem q_X2_survey_132 (fu : Nat) (k46 : Nat → Int32 → xM → Option xM) (s : Nat) (x1 : Int32) (x2 : Int32) (x3 : Int32) (y0 : Int32) (M : xM) :
    xrun pX2_survey flX2 koX2 nwX2 [] [(153, fun bc bs ls st M => xz bc bs (lR ls 0 2 fun o => o.bind fun s => lI ls 1 fun x1 => lI ls 3 fun x3 => lI ls 4 fun x4 => xe st (J_X2_survey_153 fu k46 s x1 x3 x4 M)))] xrtV 125 (xat 132 pX2_survey) 0 0 [(0, .inr (.inr (2, some s))), (1, .inl x1), (2, .inl x2), (3, .inl x3)] [.inl y0] M = J_X2_survey_132 fu k46 s x1 x2 x3 y0 M := rfl
def J_X2_survey_116 (fu : Nat) (k46 : Nat → Int32 → xM → Option xM) (s : Nat) (x1 : Int32) (x2 : Int32) (x3 : Int32) (M : xM) : Option xM :=
  (gR M 2 s 0).bind fun a_1 =>
  (F_X0_isLeast fu a_1 x1 M).bind fun p_2 =>
  if p_2.1 = 0 then
    J_X2_survey_132 fu k46 s x1 x2 x3 0 p_2.2
  else
    J_X2_survey_132 fu k46 s x1 x2 x3 1 p_2.2
set_option maxRecDepth 100000 in
theorem q_X2_survey_116 (fu : Nat) (k46 : Nat → Int32 → xM → Option xM) (s : Nat) (x1 : Int32) (x2 : Int32) (x3 : Int32) (M : xM) :
    xrun pX2_survey flX2 koX2 nwX2 [(276, 2, 0, 0, w_X0_isLeast fu)] [(132, fun bc bs ls st M => xz bc bs (lR ls 0 2 fun o => o.bind fun s => lI ls 1 fun x1 => lI ls 2 fun x2 => lI ls 3 fun x3 => pI st fun y0 st => xe st (J_X2_survey_132 fu k46 s x1 x2 x3 y0 M)))] xrtV 125 (xat 116 pX2_survey) 0 0 [(0, .inr (.inr (2, some s))), (1, .inl x1), (2, .inl x2), (3, .inl x3)] [] M = J_X2_survey_116 fu k46 s x1 x2 x3 M := rfl
def J_X2_survey_107 (fu : Nat) (k46 : Nat → Int32 → xM → Option xM) (s : Nat) (x1 : Int32) (x2 : Int32) (y0 : Int32) (M : xM) : Option xM :=
  if ¬ x2 = 0 then
    J_X2_survey_116 fu k46 s x1 x2 y0 M
  else
    if y0 = 0 then
      J_X2_survey_132 fu k46 s x1 x2 y0 0 M
    else
      J_X2_survey_116 fu k46 s x1 x2 y0 M
set_option maxRecDepth 100000 in
theorem q_X2_survey_107 (fu : Nat) (k46 : Nat → Int32 → xM → Option xM) (s : Nat) (x1 : Int32) (x2 : Int32) (y0 : Int32) (M : xM) :
    xrun pX2_survey flX2 koX2 nwX2 [] [(116, fun bc bs ls st M => xz bc bs (lR ls 0 2 fun o => o.bind fun s => lI ls 1 fun x1 => lI ls 2 fun x2 => lI ls 3 fun x3 => xe st (J_X2_survey_116 fu k46 s x1 x2 x3 M))),
    (132, fun bc bs ls st M => xz bc bs (lR ls 0 2 fun o => o.bind fun s => lI ls 1 fun x1 => lI ls 2 fun x2 => lI ls 3 fun x3 => pI st fun y0 st => xe st (J_X2_survey_132 fu k46 s x1 x2 x3 y0 M)))] xrtV 125 (xat 107 pX2_survey) 0 0 [(0, .inr (.inr (2, some s))), (1, .inl x1), (2, .inl x2)] [.inl y0] M = J_X2_survey_107 fu k46 s x1 x2 y0 M := rfl
def J_X2_survey_94 (fu : Nat) (k46 : Nat → Int32 → xM → Option xM) (s : Nat) (x1 : Int32) (x2 : Int32) (M : xM) : Option xM :=
  (F_X2_isMappedTo fu s x1 M).bind fun p_1 =>
  if p_1.1 = 0 then
    J_X2_survey_107 fu k46 s x1 x2 0 p_1.2
  else
    J_X2_survey_107 fu k46 s x1 x2 1 p_1.2
set_option maxRecDepth 100000 in
theorem q_X2_survey_94 (fu : Nat) (k46 : Nat → Int32 → xM → Option xM) (s : Nat) (x1 : Int32) (x2 : Int32) (M : xM) :
    xrun pX2_survey flX2 koX2 nwX2 [(273, 2, 0, 0, w_X2_isMappedTo fu)] [(107, fun bc bs ls st M => xz bc bs (lR ls 0 2 fun o => o.bind fun s => lI ls 1 fun x1 => lI ls 2 fun x2 => pI st fun y0 st => xe st (J_X2_survey_107 fu k46 s x1 x2 y0 M)))] xrtV 125 (xat 94 pX2_survey) 0 0 [(0, .inr (.inr (2, some s))), (1, .inl x1), (2, .inl x2)] [] M = J_X2_survey_94 fu k46 s x1 x2 M := rfl
def L_X2_survey_46 (fu : Nat) : Nat → Nat → Int32 → xM → Option xM
  | 0, _, _, _ => none
  | n + 1, s, x1, M =>
    (gR M 2 s 0).bind fun a_1 =>
    if (gI M 0 a_1 2) ≤ x1 then
      some M
    else
      (gR M 2 s 0).bind fun a_2 =>
      (F_X0_isInJournal fu a_2 x1 M).bind fun p_3 =>
      (gR p_3.2 2 s 0).bind fun a_4 =>
      (F_X0_isWhole fu a_4 x1 p_3.2).bind fun p_5 =>
      if ¬ p_5.1 = 0 then
        J_X2_survey_107 fu (L_X2_survey_46 fu n) s x1 p_3.1 1 p_5.2
      else
        if p_3.1 = 0 then
          J_X2_survey_94 fu (L_X2_survey_46 fu n) s x1 p_3.1 p_5.2
        else
          (gR p_5.2 2 s 0).bind fun a_6 =>
          (gR p_5.2 0 a_6 9).bind fun a_7 =>
          gd (xin x1 (gN p_5.2 20 a_7)) <|
          if (gI p_5.2 20 a_7 (xi x1)) = 2 then
            J_X2_survey_107 fu (L_X2_survey_46 fu n) s x1 p_3.1 1 p_5.2
          else
            J_X2_survey_94 fu (L_X2_survey_46 fu n) s x1 p_3.1 p_5.2
set_option maxRecDepth 100000 in
theorem q_X2_survey_46 (fu : Nat) (n : Nat) (s : Nat) (x1 : Int32) (M : xM) :
    xrun pX2_survey flX2 koX2 nwX2 [(264, 2, 0, 0, w_X0_isInJournal fu), (267, 2, 0, 0, w_X0_isWhole fu)] [(94, fun bc bs ls st M => xz bc bs (lR ls 0 2 fun o => o.bind fun s => lI ls 1 fun x1 => lI ls 2 fun x2 => xe st (J_X2_survey_94 fu (L_X2_survey_46 fu n) s x1 x2 M))),
    (107, fun bc bs ls st M => xz bc bs (lR ls 0 2 fun o => o.bind fun s => lI ls 1 fun x1 => lI ls 2 fun x2 => pI st fun y0 st => xe st (J_X2_survey_107 fu (L_X2_survey_46 fu n) s x1 x2 y0 M)))] xrtV 125 (xat 46 pX2_survey) 0 0 [(0, .inr (.inr (2, some s))), (1, .inl x1)] [] M = L_X2_survey_46 fu (n + 1) s x1 M := rfl
def L_X2_survey_25 (fu : Nat) : Nat → Nat → Int32 → xM → Option xM
  | 0, _, _, _ => none
  | n + 1, s, x1, M =>
    if 6 ≤ x1 then
      L_X2_survey_46 fu fu s 0 M
    else
      (gR M 2 s 13).bind fun a_1 =>
      gd (xin x1 (gN M 20 a_1)) <|
      let M_2 := sI M 20 a_1 (xi x1) 0
      L_X2_survey_25 fu n s (x1 + 1) M_2
set_option maxRecDepth 100000 in
theorem q_X2_survey_25 (fu : Nat) (n : Nat) (s : Nat) (x1 : Int32) (M : xM) :
    xrun pX2_survey flX2 koX2 nwX2 [] [(25, fun bc bs ls st M => xz bc bs (lR ls 0 2 fun o => o.bind fun s => lI ls 1 fun x1 => xe st (L_X2_survey_25 fu n s x1 M))),
    (46, fun bc bs ls st M => xz bc bs (lR ls 0 2 fun o => o.bind fun s => lI ls 1 fun x1 => xe st (L_X2_survey_46 fu fu s x1 M)))] xrtV 125 (xat 25 pX2_survey) 0 0 [(0, .inr (.inr (2, some s))), (1, .inl x1)] [] M = L_X2_survey_25 fu (n + 1) s x1 M := rfl
def F_X2_survey (fu : Nat) (s : Nat) (M : xM) : Option xM :=
  if (gI M 2 s 11) = 0 then
    gd (xbool 1) <|
    let M_1 := sI M 2 s 11 1
    let M_2 := sI M_1 2 s 14 0
    let M_3 := sI M_2 2 s 15 0
    L_X2_survey_25 fu fu s 0 M_3
  else
    some M
set_option maxRecDepth 100000 in
theorem q_X2_survey (fu : Nat) (s : Nat) (M : xM) :
    xrun pX2_survey flX2 koX2 nwX2 [] [(25, fun bc bs ls st M => xz bc bs (lR ls 0 2 fun o => o.bind fun s => lI ls 1 fun x1 => xe st (L_X2_survey_25 fu fu s x1 M)))] xrtV 125 (xat 0 pX2_survey) 0 0 [(0, .inr (.inr (2, some s)))] [] M = F_X2_survey fu s M := rfl
def w_X2_survey (fu : Nat) {ρ : Type} (as : List xV) (M : xM) (k : Option xV → xM → Option ρ) : Option ρ := pR 2 as fun o as => o.bind fun s => xe as ((F_X2_survey fu s M).bind fun p => k none p)
def pX8_joined : List xE := [(0, 0, 1, 0, 0, [], .iload_n 0),
  (0, 1, 39, 88, 0, [(-11, 74), (-10, 63), (-9, 52), (-8, 48), (-7, 44), (-6, 40)], .tableswitch 87 (-11) (-6) #[73, 62, 51, 47, 43, 39]),
  (0, 40, 1, 0, 0, [], .iload_n 1),
  (0, 41, 1, 0, 0, [], .iload_n 2),
  (0, 42, 1, 0, 0, [], .imul),
  (0, 43, 1, 0, 0, [], .ireturn),
  (0, 44, 1, 0, 0, [], .iload_n 1),
  (0, 45, 1, 0, 0, [], .iload_n 2),
  (0, 46, 1, 0, 0, [], .iadd),
  (0, 47, 1, 0, 0, [], .ireturn),
  (0, 48, 1, 0, 0, [], .iload_n 1),
  (0, 49, 1, 0, 0, [], .iload_n 2),
  (0, 50, 1, 0, 0, [], .isub),
  (0, 51, 1, 0, 0, [], .ireturn),
  (0, 52, 1, 0, 0, [], .iload_n 1),
  (0, 53, 1, 0, 0, [], .iload_n 2),
  (0, 54, 3, 61, 0, [], .if_icmp .ge 7),
  (0, 57, 1, 0, 1, [], .iconst 1),
  (0, 58, 3, 62, 0, [], .goto 4),
  (0, 61, 1, 0, 0, [], .iconst 0),
  (0, 62, 1, 0, 0, [], .ireturn),
  (0, 63, 1, 0, 0, [], .iload_n 1),
  (0, 64, 1, 0, 0, [], .iload_n 2),
  (0, 65, 3, 72, 0, [], .if_icmp .ne 7),
  (0, 68, 1, 0, 1, [], .iconst 1),
  (0, 69, 3, 73, 0, [], .goto 4),
  (0, 72, 1, 0, 0, [], .iconst 0),
  (0, 73, 1, 0, 0, [], .ireturn),
  (0, 74, 1, 0, 0, [], .iload_n 1),
  (0, 75, 3, 86, 0, [], .ifCond .eq 11),
  (0, 78, 1, 0, 0, [], .iload_n 2),
  (0, 79, 3, 86, 0, [], .ifCond .eq 7),
  (0, 82, 1, 0, 1, [], .iconst 1),
  (0, 83, 3, 87, 0, [], .goto 4),
  (0, 86, 1, 0, 0, [], .iconst 0),
  (0, 87, 1, 0, 0, [], .ireturn),
  (0, 88, 1, 0, 0, [], .iload_n 1),
  (0, 89, 3, 96, 0, [], .ifCond .ne 7),
  (0, 92, 1, 0, 0, [], .iload_n 2),
  (0, 93, 3, 100, 0, [], .ifCond .eq 7),
  (0, 96, 1, 0, 1, [], .iconst 1),
  (0, 97, 3, 101, 0, [], .goto 4),
  (0, 100, 1, 0, 0, [], .iconst 0),
  (0, 101, 1, 0, 0, [], .ireturn)]
def F_X8_joined (fu : Nat) (x0 : Int32) (x1 : Int32) (x2 : Int32) (M : xM) : Option (Int32 × xM) :=
  if x0 = (-11) then
    if x1 = 0 then
      (some (0, M))
    else
      if x2 = 0 then
        (some (0, M))
      else
        (some (1, M))
  else
  if x0 = (-10) then
    if ¬ x1 = x2 then
      (some (0, M))
    else
      (some (1, M))
  else
  if x0 = (-9) then
    if x2 ≤ x1 then
      (some (0, M))
    else
      (some (1, M))
  else
  if x0 = (-8) then
    (some (x1 - x2, M))
  else
  if x0 = (-7) then
    (some (x1 + x2, M))
  else
  if x0 = (-6) then
    (some (x1 * x2, M))
  else
    if ¬ x1 = 0 then
      (some (1, M))
    else
      if x2 = 0 then
        (some (0, M))
      else
        (some (1, M))
set_option maxRecDepth 100000 in
theorem q_X8_joined (fu : Nat) (x0 : Int32) (x1 : Int32) (x2 : Int32) (M : xM) :
    xrun pX8_joined flX8 koX8 nwX8 [] [] xrtI 46 (xat 0 pX8_joined) 0 0 [(0, .inl x0), (1, .inl x1), (2, .inl x2)] [] M = F_X8_joined fu x0 x1 x2 M := rfl
def w_X8_joined (fu : Nat) {ρ : Type} (as : List xV) (M : xM) (k : Option xV → xM → Option ρ) : Option ρ := pI as fun x0 as => pI as fun x1 as => pI as fun x2 as => xe as ((F_X8_joined fu x0 x1 x2 M).bind fun p => k (some (.inl p.1)) p.2)
def pX8_value : List xE := [(0, 0, 1, 0, 0, [], .aload_n 0),
  (0, 1, 3, 0, 0, [], .getfield 16),
  (0, 4, 1, 0, 0, [], .iconst 0),
  (0, 5, 1, 0, 0, [], .iload_n 1),
  (0, 6, 1, 0, 0, [], .iastore),
  (0, 7, 1, 0, 0, [], .aload_n 0),
  (0, 8, 3, 0, 0, [], .getfield 16),
  (0, 11, 1, 0, 1, [], .iconst 1),
  (0, 12, 1, 0, 0, [], .iload_n 2),
  (0, 13, 1, 0, 0, [], .iastore),
  (0, 14, 1, 0, 0, [], .aload_n 0),
  (0, 15, 3, 0, 0, [], .getfield 16),
  (0, 18, 1, 0, 2, [], .iconst 2),
  (0, 19, 1, 0, 0, [], .iload_n 3),
  (0, 20, 1, 0, 0, [], .iastore),
  (0, 21, 1, 0, 0, [], .aload_n 0),
  (0, 22, 3, 0, 0, [], .getfield 16),
  (0, 25, 1, 0, 3, [], .iconst 3),
  (0, 26, 2, 0, 0, [], .iload 4),
  (0, 28, 1, 0, 0, [], .iastore),
  (0, 29, 1, 0, 0, [], .iconst 0),
  (0, 30, 2, 0, 0, [], .istore 5),
  (0, 32, 1, 0, 0, [], .iconst 0),
  (0, 33, 2, 0, 0, [], .istore 6),
  (1, 35, 2, 0, 0, [], .iload 6),
  (0, 37, 1, 0, 0, [], .aload_n 0),
  (0, 38, 3, 0, 0, [], .getfield 19),
  (0, 41, 3, 192, 0, [], .if_icmp .ge 151),
  (0, 44, 1, 0, 0, [], .aload_n 0),
  (0, 45, 3, 0, 0, [], .getfield 9),
  (0, 48, 2, 0, 0, [], .iload 6),
  (0, 50, 1, 0, 0, [], .iaload),
  (0, 51, 2, 0, 0, [], .istore 7),
  (0, 53, 2, 0, 0, [], .iload 7),
  (0, 55, 2, 0, (-5), [], .bipush (-5)),
  (0, 57, 3, 99, 0, [], .if_icmp .le 42),
  (0, 60, 2, 0, 0, [], .iload 5),
  (0, 62, 2, 0, 32, [], .bipush 32),
  (0, 64, 3, 99, 0, [], .if_icmp .ge 35),
  (0, 67, 1, 0, 0, [], .aload_n 0),
  (0, 68, 3, 0, 0, [], .getfield 13),
  (0, 71, 2, 0, 0, [], .iload 5),
  (0, 73, 2, 0, 0, [], .iload 7),
  (0, 75, 3, 83, 0, [], .ifCond .lt 8),
  (0, 78, 2, 0, 0, [], .iload 7),
  (0, 80, 3, 92, 0, [], .goto 12),
  (0, 83, 1, 0, 0, [], .aload_n 0),
  (0, 84, 3, 0, 0, [], .getfield 16),
  (0, 87, 1, 0, (-1), [], .iconst (-1)),
  (0, 88, 2, 0, 0, [], .iload 7),
  (0, 90, 1, 0, 0, [], .isub),
  (0, 91, 1, 0, 0, [], .iaload),
  (0, 92, 1, 0, 0, [], .iastore),
  (0, 93, 3, 0, 1, [], .iinc 5 1),
  (0, 96, 3, 186, 0, [], .goto 90),
  (1, 99, 2, 0, 0, [], .iload 7),
  (0, 101, 2, 0, (-5), [], .bipush (-5)),
  (0, 103, 3, 140, 0, [], .if_icmp .ne 37),
  (0, 106, 2, 0, 0, [], .iload 5),
  (0, 108, 3, 140, 0, [], .ifCond .le 32),
  (0, 111, 1, 0, 0, [], .aload_n 0),
  (0, 112, 3, 0, 0, [], .getfield 13),
  (0, 115, 2, 0, 0, [], .iload 5),
  (0, 117, 1, 0, 1, [], .iconst 1),
  (0, 118, 1, 0, 0, [], .isub),
  (0, 119, 1, 0, 0, [], .aload_n 0),
  (0, 120, 3, 0, 0, [], .getfield 13),
  (0, 123, 2, 0, 0, [], .iload 5),
  (0, 125, 1, 0, 1, [], .iconst 1),
  (0, 126, 1, 0, 0, [], .isub),
  (0, 127, 1, 0, 0, [], .iaload),
  (0, 128, 3, 135, 0, [], .ifCond .ne 7),
  (0, 131, 1, 0, 1, [], .iconst 1),
  (0, 132, 3, 136, 0, [], .goto 4),
  (0, 135, 1, 0, 0, [], .iconst 0),
  (0, 136, 1, 0, 0, [], .iastore),
  (0, 137, 3, 186, 0, [], .goto 49),
  (1, 140, 2, 0, 0, [], .iload 7),
  (0, 142, 2, 0, (-5), [], .bipush (-5)),
  (0, 144, 3, 186, 0, [], .if_icmp .ge 42),
  (0, 147, 2, 0, 0, [], .iload 5),
  (0, 149, 1, 0, 1, [], .iconst 1),
  (0, 150, 3, 186, 0, [], .if_icmp .le 36),
  (0, 153, 3, 0, (-1), [], .iinc 5 (-1)),
  (0, 156, 1, 0, 0, [], .aload_n 0),
  (0, 157, 3, 0, 0, [], .getfield 13),
  (0, 160, 2, 0, 0, [], .iload 5),
  (0, 162, 1, 0, 1, [], .iconst 1),
  (0, 163, 1, 0, 0, [], .isub),
  (0, 164, 2, 0, 0, [], .iload 7),
  (0, 166, 1, 0, 0, [], .aload_n 0),
  (0, 167, 3, 0, 0, [], .getfield 13),
  (0, 170, 2, 0, 0, [], .iload 5),
  (0, 172, 1, 0, 1, [], .iconst 1),
  (0, 173, 1, 0, 0, [], .isub),
  (0, 174, 1, 0, 0, [], .iaload),
  (0, 175, 1, 0, 0, [], .aload_n 0),
  (0, 176, 3, 0, 0, [], .getfield 13),
  (0, 179, 2, 0, 0, [], .iload 5),
  (0, 181, 1, 0, 0, [], .iaload),
  (0, 182, 3, 0, 0, [], .invokestatic 69),
  (0, 185, 1, 0, 0, [], .iastore),
  (0, 186, 3, 0, 1, [], .iinc 6 1),
  (0, 189, 3, 35, 0, [], .goto (-154)),
  (0, 192, 2, 0, 0, [], .iload 5),
  (0, 194, 3, 206, 0, [], .ifCond .le 12),
  (0, 197, 1, 0, 0, [], .aload_n 0),
  (0, 198, 3, 0, 0, [], .getfield 13),
  (0, 201, 1, 0, 0, [], .iconst 0),
  (0, 202, 1, 0, 0, [], .iaload),
  (0, 203, 3, 207, 0, [], .goto 4),
  (0, 206, 1, 0, 0, [], .iconst 0),
  (0, 207, 1, 0, 0, [], .ireturn)]
def J_X8_value_140 (fu : Nat) (k35 : Nat → Int32 → Int32 → xM → Option (Int32 × xM)) (s : Nat) (x5 : Int32) (x6 : Int32) (x7 : Int32) (M : xM) : Option (Int32 × xM) :=
  if ((-5)) ≤ x7 then
    k35 s x5 (x6 + 1) M
  else
    if x5 ≤ 1 then
      k35 s x5 (x6 + 1) M
    else
      (gR M 8 s 1).bind fun a_1 =>
      gd (xin ((x5 + (-1)) - 1) (gN M 20 a_1)) <|
      (gR M 8 s 1).bind fun a_2 =>
      gd (xin (x5 + (-1)) (gN M 20 a_2)) <|
      (F_X8_joined fu x7 (gI M 20 a_1 (xi ((x5 + (-1)) - 1))) (gI M 20 a_2 (xi (x5 + (-1)))) M).bind fun p_3 =>
      (gR M 8 s 1).bind fun a_4 =>
      gd (xin ((x5 + (-1)) - 1) (gN p_3.2 20 a_4)) <|
      let M_5 := sI p_3.2 20 a_4 (xi ((x5 + (-1)) - 1)) p_3.1
      k35 s (x5 + (-1)) (x6 + 1) M_5
set_option maxRecDepth 100000 in
theorem q_X8_value_140 (fu : Nat) (k35 : Nat → Int32 → Int32 → xM → Option (Int32 × xM)) (s : Nat) (x5 : Int32) (x6 : Int32) (x7 : Int32) (M : xM) :
    xrun pX8_value flX8 koX8 nwX8 [(69, 3, 0, 0, w_X8_joined fu)] [(35, fun bc bs ls st M => xz bc bs (lR ls 0 8 fun o => o.bind fun s => lI ls 5 fun x5 => lI ls 6 fun x6 => xe st (k35 s x5 x6 M)))] xrtI 115 (xat 140 pX8_value) 0 0 [(0, .inr (.inr (8, some s))), (5, .inl x5), (6, .inl x6), (7, .inl x7)] [] M = J_X8_value_140 fu k35 s x5 x6 x7 M := rfl
def J_X8_value_99 (fu : Nat) (k35 : Nat → Int32 → Int32 → xM → Option (Int32 × xM)) (s : Nat) (x5 : Int32) (x6 : Int32) (x7 : Int32) (M : xM) : Option (Int32 × xM) :=
  if ¬ x7 = ((-5)) then
    J_X8_value_140 fu k35 s x5 x6 x7 M
  else
    if x5 ≤ 0 then
      J_X8_value_140 fu k35 s x5 x6 x7 M
    else
      (gR M 8 s 1).bind fun a_1 =>
      gd (xin (x5 - 1) (gN M 20 a_1)) <|
      if ¬ (gI M 20 a_1 (xi (x5 - 1))) = 0 then
        (gR M 8 s 1).bind fun a_2 =>
        gd (xin (x5 - 1) (gN M 20 a_2)) <|
        let M_3 := sI M 20 a_2 (xi (x5 - 1)) 0
        k35 s x5 (x6 + 1) M_3
      else
        (gR M 8 s 1).bind fun a_4 =>
        gd (xin (x5 - 1) (gN M 20 a_4)) <|
        let M_5 := sI M 20 a_4 (xi (x5 - 1)) 1
        k35 s x5 (x6 + 1) M_5
set_option maxRecDepth 100000 in
theorem q_X8_value_99 (fu : Nat) (k35 : Nat → Int32 → Int32 → xM → Option (Int32 × xM)) (s : Nat) (x5 : Int32) (x6 : Int32) (x7 : Int32) (M : xM) :
    xrun pX8_value flX8 koX8 nwX8 [] [(35, fun bc bs ls st M => xz bc bs (lR ls 0 8 fun o => o.bind fun s => lI ls 5 fun x5 => lI ls 6 fun x6 => xe st (k35 s x5 x6 M))),
    (140, fun bc bs ls st M => xz bc bs (lR ls 0 8 fun o => o.bind fun s => lI ls 5 fun x5 => lI ls 6 fun x6 => lI ls 7 fun x7 => xe st (J_X8_value_140 fu k35 s x5 x6 x7 M)))] xrtI 115 (xat 99 pX8_value) 0 0 [(0, .inr (.inr (8, some s))), (5, .inl x5), (6, .inl x6), (7, .inl x7)] [] M = J_X8_value_99 fu k35 s x5 x6 x7 M := rfl
def L_X8_value_35 (fu : Nat) : Nat → Nat → Int32 → Int32 → xM → Option (Int32 × xM)
  | 0, _, _, _, _ => none
  | n + 1, s, x5, x6, M =>
    if (gI M 8 s 3) ≤ x6 then
      if x5 ≤ 0 then
        (some (0, M))
      else
        (gR M 8 s 1).bind fun a_1 =>
        gd (xin 0 (gN M 20 a_1)) <|
        (some (gI M 20 a_1 (xi 0), M))
    else
      (gR M 8 s 0).bind fun a_2 =>
      gd (xin x6 (gN M 20 a_2)) <|
      let x7_3 : Int32 := gI M 20 a_2 (xi x6)
      if x7_3 ≤ ((-5)) then
        J_X8_value_99 fu (L_X8_value_35 fu n) s x5 x6 x7_3 M
      else
        if 32 ≤ x5 then
          J_X8_value_99 fu (L_X8_value_35 fu n) s x5 x6 x7_3 M
        else
          if x7_3 < 0 then
            (gR M 8 s 2).bind fun a_4 =>
            gd (xin (((-1)) - x7_3) (gN M 20 a_4)) <|
            (gR M 8 s 1).bind fun a_5 =>
            gd (xin x5 (gN M 20 a_5)) <|
            let M_6 := sI M 20 a_5 (xi x5) (gI M 20 a_4 (xi (((-1)) - x7_3)))
            L_X8_value_35 fu n s (x5 + 1) (x6 + 1) M_6
          else
            (gR M 8 s 1).bind fun a_7 =>
            gd (xin x5 (gN M 20 a_7)) <|
            let M_8 := sI M 20 a_7 (xi x5) x7_3
            L_X8_value_35 fu n s (x5 + 1) (x6 + 1) M_8
set_option maxRecDepth 100000 in
theorem q_X8_value_35 (fu : Nat) (n : Nat) (s : Nat) (x5 : Int32) (x6 : Int32) (M : xM) :
    xrun pX8_value flX8 koX8 nwX8 [] [(35, fun bc bs ls st M => xz bc bs (lR ls 0 8 fun o => o.bind fun s => lI ls 5 fun x5 => lI ls 6 fun x6 => xe st (L_X8_value_35 fu n s x5 x6 M))),
    (99, fun bc bs ls st M => xz bc bs (lR ls 0 8 fun o => o.bind fun s => lI ls 5 fun x5 => lI ls 6 fun x6 => lI ls 7 fun x7 => xe st (J_X8_value_99 fu (L_X8_value_35 fu n) s x5 x6 x7 M)))] xrtI 115 (xat 35 pX8_value) 0 0 [(0, .inr (.inr (8, some s))), (5, .inl x5), (6, .inl x6)] [] M = L_X8_value_35 fu (n + 1) s x5 x6 M := rfl
def F_X8_value (fu : Nat) (s : Nat) (x1 : Int32) (x2 : Int32) (x3 : Int32) (x4 : Int32) (M : xM) : Option (Int32 × xM) :=
  (gR M 8 s 2).bind fun a_1 =>
  gd (xin 0 (gN M 20 a_1)) <|
  let M_2 := sI M 20 a_1 (xi 0) x1
  (gR M_2 8 s 2).bind fun a_3 =>
  gd (xin 1 (gN M_2 20 a_3)) <|
  let M_4 := sI M_2 20 a_3 (xi 1) x2
  (gR M_4 8 s 2).bind fun a_5 =>
  gd (xin 2 (gN M_4 20 a_5)) <|
  let M_6 := sI M_4 20 a_5 (xi 2) x3
  (gR M_6 8 s 2).bind fun a_7 =>
  gd (xin 3 (gN M_6 20 a_7)) <|
  let M_8 := sI M_6 20 a_7 (xi 3) x4
  L_X8_value_35 fu fu s 0 0 M_8
set_option maxRecDepth 100000 in
theorem q_X8_value (fu : Nat) (s : Nat) (x1 : Int32) (x2 : Int32) (x3 : Int32) (x4 : Int32) (M : xM) :
    xrun pX8_value flX8 koX8 nwX8 [] [(35, fun bc bs ls st M => xz bc bs (lR ls 0 8 fun o => o.bind fun s => lI ls 5 fun x5 => lI ls 6 fun x6 => xe st (L_X8_value_35 fu fu s x5 x6 M)))] xrtI 115 (xat 0 pX8_value) 0 0 [(0, .inr (.inr (8, some s))), (1, .inl x1), (2, .inl x2), (3, .inl x3), (4, .inl x4)] [] M = F_X8_value fu s x1 x2 x3 x4 M := rfl
def w_X8_value (fu : Nat) {ρ : Type} (as : List xV) (M : xM) (k : Option xV → xM → Option ρ) : Option ρ := pR 8 as fun o as => o.bind fun s => pI as fun x1 as => pI as fun x2 as => pI as fun x3 as => pI as fun x4 as => xe as ((F_X8_value fu s x1 x2 x3 x4 M).bind fun p => k (some (.inl p.1)) p.2)
def pX2_wantsCollect : List xE := [(0, 0, 1, 0, 0, [], .aload_n 0),
  (0, 1, 3, 0, 0, [], .getfield 35),
  (0, 4, 3, 0, 0, [], .getfield 165),
  (0, 7, 3, 0, 0, [], .getfield 169),
  (0, 10, 3, 15, 0, [], .ifCond .ne 5),
  (0, 13, 1, 0, 0, [], .iconst 0),
  (0, 14, 1, 0, 0, [], .ireturn),
  (0, 15, 1, 0, 0, [], .aload_n 0),
  (0, 16, 3, 0, 0, [], .invokevirtual 174),
  (0, 19, 1, 0, 0, [], .aload_n 0),
  (0, 20, 3, 0, 0, [], .getfield 12),
  (0, 23, 3, 0, 0, [], .getfield 177),
  (0, 26, 1, 0, 0, [], .aload_n 0),
  (0, 27, 3, 0, 0, [], .getfield 12),
  (0, 30, 3, 0, 0, [], .getfield 159),
  (0, 33, 1, 0, 0, [], .isub),
  (0, 34, 1, 0, 0, [], .aload_n 0),
  (0, 35, 3, 0, 0, [], .getfield 180),
  (0, 38, 1, 0, 0, [], .isub),
  (0, 39, 1, 0, 0, [], .istore_n 1),
  (0, 40, 1, 0, 0, [], .aload_n 0),
  (0, 41, 3, 0, 0, [], .getfield 35),
  (0, 44, 3, 0, 0, [], .getfield 165),
  (0, 47, 1, 0, 0, [], .aload_n 0),
  (0, 48, 3, 0, 0, [], .getfield 12),
  (0, 51, 3, 0, 0, [], .getfield 159),
  (0, 54, 1, 0, 0, [], .aload_n 0),
  (0, 55, 3, 0, 0, [], .getfield 180),
  (0, 58, 1, 0, 0, [], .iload_n 1),
  (0, 59, 1, 0, 0, [], .aload_n 0),
  (0, 60, 3, 0, 0, [], .getfield 183),
  (0, 63, 3, 0, 0, [], .invokevirtual 186),
  (0, 66, 3, 73, 0, [], .ifCond .eq 7),
  (0, 69, 1, 0, 1, [], .iconst 1),
  (0, 70, 3, 74, 0, [], .goto 4),
  (0, 73, 1, 0, 0, [], .iconst 0),
  (0, 74, 1, 0, 0, [], .ireturn)]
def F_X2_wantsCollect (fu : Nat) (s : Nat) (M : xM) : Option (Int32 × xM) :=
  (gR M 2 s 4).bind fun a_1 =>
  (gR M 7 a_1 6).bind fun a_2 =>
  if ¬ (gI M 8 a_2 3) = 0 then
    (F_X2_survey fu s M).bind fun p_3 =>
    (gR p_3 2 s 0).bind fun a_4 =>
    (gR p_3 2 s 0).bind fun a_5 =>
    let x1_6 : Int32 := ((gI p_3 0 a_4 2) - (gI p_3 0 a_5 3)) - (gI p_3 2 s 14)
    (gR p_3 2 s 4).bind fun a_7 =>
    (gR p_3 2 s 0).bind fun a_8 =>
    (gR p_3 7 a_7 6).bind fun a_9 =>
    (F_X8_value fu a_9 (gI p_3 0 a_8 3) (gI p_3 2 s 14) x1_6 (gI p_3 2 s 15) p_3).bind fun p_10 =>
    if p_10.1 = 0 then
      gd (xbool 0) (some (0, p_10.2))
    else
      gd (xbool 1) (some (1, p_10.2))
  else
    gd (xbool 0) (some (0, M))
set_option maxRecDepth 100000 in
theorem q_X2_wantsCollect (fu : Nat) (s : Nat) (M : xM) :
    xrun pX2_wantsCollect flX2 koX2 nwX2 [(174, 1, 0, 0, w_X2_survey fu), (186, 5, 0, 0, w_X8_value fu)] [] xrtZ 39 (xat 0 pX2_wantsCollect) 0 0 [(0, .inr (.inr (2, some s)))] [] M = F_X2_wantsCollect fu s M := rfl
def w_X2_wantsCollect (fu : Nat) {ρ : Type} (as : List xV) (M : xM) (k : Option xV → xM → Option ρ) : Option ρ := pR 2 as fun o as => o.bind fun s => xe as ((F_X2_wantsCollect fu s M).bind fun p => k (some (.inl p.1)) p.2)
def pX2_dirtyIn : List xE := [(0, 0, 1, 0, 0, [], .aload_n 0),
  (0, 1, 3, 0, 0, [], .getfield 12),
  (0, 4, 3, 0, 0, [], .getfield 232),
  (0, 7, 1, 0, 0, [], .aload_n 0),
  (0, 8, 3, 0, 0, [], .getfield 12),
  (0, 11, 3, 0, 0, [], .getfield 252),
  (0, 14, 1, 0, 0, [], .iload_n 1),
  (0, 15, 1, 0, 0, [], .iaload),
  (0, 16, 1, 0, 0, [], .isub),
  (0, 17, 1, 0, 0, [], .aload_n 0),
  (0, 18, 3, 0, 0, [], .getfield 32),
  (0, 21, 1, 0, 0, [], .iload_n 1),
  (0, 22, 1, 0, 0, [], .iaload),
  (0, 23, 1, 0, 0, [], .isub),
  (0, 24, 1, 0, 0, [], .ireturn)]
def F_X2_dirtyIn (fu : Nat) (s : Nat) (x1 : Int32) (M : xM) : Option (Int32 × xM) :=
  (gR M 2 s 0).bind fun a_1 =>
  (gR M 2 s 0).bind fun a_2 =>
  (gR M 0 a_2 8).bind fun a_3 =>
  gd (xin x1 (gN M 20 a_3)) <|
  (gR M 2 s 13).bind fun a_4 =>
  gd (xin x1 (gN M 20 a_4)) <|
  (some (((gI M 0 a_1 1) - (gI M 20 a_3 (xi x1))) - (gI M 20 a_4 (xi x1)), M))
set_option maxRecDepth 100000 in
theorem q_X2_dirtyIn (fu : Nat) (s : Nat) (x1 : Int32) (M : xM) :
    xrun pX2_dirtyIn flX2 koX2 nwX2 [] [] xrtI 17 (xat 0 pX2_dirtyIn) 0 0 [(0, .inr (.inr (2, some s))), (1, .inl x1)] [] M = F_X2_dirtyIn fu s x1 M := rfl
def w_X2_dirtyIn (fu : Nat) {ρ : Type} (as : List xV) (M : xM) (k : Option xV → xM → Option ρ) : Option ρ := pR 2 as fun o as => o.bind fun s => pI as fun x1 as => xe as ((F_X2_dirtyIn fu s x1 M).bind fun p => k (some (.inl p.1)) p.2)
def pX2_picked : List xE := [(0, 0, 1, 0, 0, [], .aload_n 0),
  (0, 1, 3, 0, 0, [], .getfield 47),
  (0, 4, 3, 9, 0, [], .ifCond .ne 5),
  (0, 7, 1, 0, (-1), [], .iconst (-1)),
  (0, 8, 1, 0, 0, [], .ireturn),
  (0, 9, 1, 0, 0, [], .aload_n 0),
  (0, 10, 3, 0, 0, [], .invokevirtual 174),
  (0, 13, 1, 0, (-1), [], .iconst (-1)),
  (0, 14, 1, 0, 0, [], .istore_n 1),
  (0, 15, 1, 0, 0, [], .iconst 0),
  (0, 16, 1, 0, 0, [], .istore_n 2),
  (0, 17, 1, 0, 0, [], .iconst 0),
  (0, 18, 1, 0, 0, [], .istore_n 3),
  (1, 19, 1, 0, 0, [], .iload_n 3),
  (0, 20, 1, 0, 0, [], .aload_n 0),
  (0, 21, 3, 0, 0, [], .getfield 12),
  (0, 24, 3, 0, 0, [], .getfield 240),
  (0, 27, 3, 112, 0, [], .if_icmp .ge 85),
  (0, 30, 1, 0, 0, [], .iload_n 3),
  (0, 31, 1, 0, 0, [], .aload_n 0),
  (0, 32, 3, 0, 0, [], .getfield 12),
  (0, 35, 3, 0, 0, [], .getfield 243),
  (0, 38, 3, 45, 0, [], .if_icmp .ne 7),
  (0, 41, 1, 0, 0, [], .iconst 0),
  (0, 42, 3, 50, 0, [], .goto 8),
  (0, 45, 1, 0, 0, [], .aload_n 0),
  (0, 46, 1, 0, 0, [], .iload_n 3),
  (0, 47, 3, 0, 0, [], .invokevirtual 246),
  (1, 50, 2, 0, 0, [], .istore 4),
  (0, 52, 1, 0, 0, [], .iload_n 1),
  (0, 53, 3, 87, 0, [], .ifCond .lt 34),
  (0, 56, 2, 0, 0, [], .iload 4),
  (0, 58, 1, 0, 0, [], .iload_n 2),
  (0, 59, 3, 87, 0, [], .if_icmp .ne 28),
  (0, 62, 1, 0, 0, [], .aload_n 0),
  (0, 63, 3, 0, 0, [], .getfield 12),
  (0, 66, 3, 0, 0, [], .getfield 249),
  (0, 69, 1, 0, 0, [], .iload_n 3),
  (0, 70, 1, 0, 0, [], .iaload),
  (0, 71, 1, 0, 0, [], .aload_n 0),
  (0, 72, 3, 0, 0, [], .getfield 12),
  (0, 75, 3, 0, 0, [], .getfield 249),
  (0, 78, 1, 0, 0, [], .iload_n 1),
  (0, 79, 1, 0, 0, [], .iaload),
  (0, 80, 3, 87, 0, [], .if_icmp .ge 7),
  (0, 83, 1, 0, 1, [], .iconst 1),
  (0, 84, 3, 88, 0, [], .goto 4),
  (0, 87, 1, 0, 0, [], .iconst 0),
  (1, 88, 2, 0, 0, [], .istore 5),
  (0, 90, 2, 0, 0, [], .iload 4),
  (0, 92, 1, 0, 0, [], .iload_n 2),
  (0, 93, 3, 101, 0, [], .if_icmp .gt 8),
  (0, 96, 2, 0, 0, [], .iload 5),
  (0, 98, 3, 106, 0, [], .ifCond .eq 8),
  (0, 101, 1, 0, 0, [], .iload_n 3),
  (0, 102, 1, 0, 0, [], .istore_n 1),
  (0, 103, 2, 0, 0, [], .iload 4),
  (0, 105, 1, 0, 0, [], .istore_n 2),
  (0, 106, 3, 0, 1, [], .iinc 3 1),
  (0, 109, 3, 19, 0, [], .goto (-90)),
  (0, 112, 1, 0, 0, [], .iload_n 1),
  (0, 113, 3, 142, 0, [], .ifCond .lt 29),
  (0, 116, 1, 0, 0, [], .aload_n 0),
  (0, 117, 3, 0, 0, [], .getfield 32),
  (0, 120, 1, 0, 0, [], .iload_n 1),
  (0, 121, 1, 0, 0, [], .iaload),
  (0, 122, 1, 0, 0, [], .aload_n 0),
  (0, 123, 3, 0, 0, [], .getfield 12),
  (0, 126, 3, 0, 0, [], .getfield 159),
  (0, 129, 1, 0, 0, [], .aload_n 0),
  (0, 130, 3, 0, 0, [], .getfield 12),
  (0, 133, 3, 0, 0, [], .getfield 252),
  (0, 136, 1, 0, 0, [], .iload_n 1),
  (0, 137, 1, 0, 0, [], .iaload),
  (0, 138, 1, 0, 0, [], .isub),
  (0, 139, 3, 144, 0, [], .if_icmp .le 5),
  (0, 142, 1, 0, (-1), [], .iconst (-1)),
  (0, 143, 1, 0, 0, [], .ireturn),
  (0, 144, 1, 0, 0, [], .iload_n 1),
  (0, 145, 1, 0, 0, [], .ireturn)]
def J_X2_picked_88 (fu : Nat) (k19 : Nat → Int32 → Int32 → Int32 → xM → Option (Int32 × xM)) (s : Nat) (x1 : Int32) (x2 : Int32) (x3 : Int32) (x4 : Int32) (y0 : Int32) (M : xM) : Option (Int32 × xM) :=
  if x2 < x4 then
    k19 s x3 x4 (x3 + 1) M
  else
    if y0 = 0 then
      k19 s x1 x2 (x3 + 1) M
    else
      k19 s x3 x4 (x3 + 1) M
set_option maxRecDepth 100000 in
theorem q_X2_picked_88 (fu : Nat) (k19 : Nat → Int32 → Int32 → Int32 → xM → Option (Int32 × xM)) (s : Nat) (x1 : Int32) (x2 : Int32) (x3 : Int32) (x4 : Int32) (y0 : Int32) (M : xM) :
    xrun pX2_picked flX2 koX2 nwX2 [] [(19, fun bc bs ls st M => xz bc bs (lR ls 0 2 fun o => o.bind fun s => lI ls 1 fun x1 => lI ls 2 fun x2 => lI ls 3 fun x3 => xe st (k19 s x1 x2 x3 M)))] xrtI 82 (xat 88 pX2_picked) 0 0 [(0, .inr (.inr (2, some s))), (1, .inl x1), (2, .inl x2), (3, .inl x3), (4, .inl x4)] [.inl y0] M = J_X2_picked_88 fu k19 s x1 x2 x3 x4 y0 M := rfl
def J_X2_picked_50 (fu : Nat) (k19 : Nat → Int32 → Int32 → Int32 → xM → Option (Int32 × xM)) (s : Nat) (x1 : Int32) (x2 : Int32) (x3 : Int32) (y0 : Int32) (M : xM) : Option (Int32 × xM) :=
  if x1 < 0 then
    J_X2_picked_88 fu k19 s x1 x2 x3 y0 0 M
  else
    if ¬ y0 = x2 then
      J_X2_picked_88 fu k19 s x1 x2 x3 y0 0 M
    else
      (gR M 2 s 0).bind fun a_1 =>
      (gR M 0 a_1 7).bind fun a_2 =>
      gd (xin x3 (gN M 20 a_2)) <|
      (gR M 2 s 0).bind fun a_3 =>
      (gR M 0 a_3 7).bind fun a_4 =>
      gd (xin x1 (gN M 20 a_4)) <|
      if (gI M 20 a_4 (xi x1)) ≤ (gI M 20 a_2 (xi x3)) then
        J_X2_picked_88 fu k19 s x1 x2 x3 y0 0 M
      else
        J_X2_picked_88 fu k19 s x1 x2 x3 y0 1 M
set_option maxRecDepth 100000 in
theorem q_X2_picked_50 (fu : Nat) (k19 : Nat → Int32 → Int32 → Int32 → xM → Option (Int32 × xM)) (s : Nat) (x1 : Int32) (x2 : Int32) (x3 : Int32) (y0 : Int32) (M : xM) :
    xrun pX2_picked flX2 koX2 nwX2 [] [(88, fun bc bs ls st M => xz bc bs (lR ls 0 2 fun o => o.bind fun s => lI ls 1 fun x1 => lI ls 2 fun x2 => lI ls 3 fun x3 => lI ls 4 fun x4 => pI st fun y0 st => xe st (J_X2_picked_88 fu k19 s x1 x2 x3 x4 y0 M)))] xrtI 82 (xat 50 pX2_picked) 0 0 [(0, .inr (.inr (2, some s))), (1, .inl x1), (2, .inl x2), (3, .inl x3)] [.inl y0] M = J_X2_picked_50 fu k19 s x1 x2 x3 y0 M := rfl
def L_X2_picked_19 (fu : Nat) : Nat → Nat → Int32 → Int32 → Int32 → xM → Option (Int32 × xM)
  | 0, _, _, _, _, _ => none
  | n + 1, s, x1, x2, x3, M =>
    (gR M 2 s 0).bind fun a_1 =>
    if (gI M 0 a_1 0) ≤ x3 then
      if x1 < 0 then
        (some ((-1), M))
      else
        (gR M 2 s 13).bind fun a_2 =>
        gd (xin x1 (gN M 20 a_2)) <|
        (gR M 2 s 0).bind fun a_3 =>
        (gR M 2 s 0).bind fun a_4 =>
        (gR M 0 a_4 8).bind fun a_5 =>
        gd (xin x1 (gN M 20 a_5)) <|
        if (gI M 20 a_2 (xi x1)) ≤ ((gI M 0 a_3 3) - (gI M 20 a_5 (xi x1))) then
          (some (x1, M))
        else
          (some ((-1), M))
    else
      (gR M 2 s 0).bind fun a_6 =>
      if ¬ x3 = (gI M 0 a_6 4) then
        (F_X2_dirtyIn fu s x3 M).bind fun p_7 =>
        J_X2_picked_50 fu (L_X2_picked_19 fu n) s x1 x2 x3 p_7.1 p_7.2
      else
        J_X2_picked_50 fu (L_X2_picked_19 fu n) s x1 x2 x3 0 M
set_option maxRecDepth 100000 in
theorem q_X2_picked_19 (fu : Nat) (n : Nat) (s : Nat) (x1 : Int32) (x2 : Int32) (x3 : Int32) (M : xM) :
    xrun pX2_picked flX2 koX2 nwX2 [(246, 2, 0, 0, w_X2_dirtyIn fu)] [(50, fun bc bs ls st M => xz bc bs (lR ls 0 2 fun o => o.bind fun s => lI ls 1 fun x1 => lI ls 2 fun x2 => lI ls 3 fun x3 => pI st fun y0 st => xe st (J_X2_picked_50 fu (L_X2_picked_19 fu n) s x1 x2 x3 y0 M)))] xrtI 82 (xat 19 pX2_picked) 0 0 [(0, .inr (.inr (2, some s))), (1, .inl x1), (2, .inl x2), (3, .inl x3)] [] M = L_X2_picked_19 fu (n + 1) s x1 x2 x3 M := rfl
def F_X2_picked (fu : Nat) (s : Nat) (M : xM) : Option (Int32 × xM) :=
  if ¬ (gI M 2 s 1) = 0 then
    (F_X2_survey fu s M).bind fun p_1 =>
    L_X2_picked_19 fu fu s ((-1)) 0 0 p_1
  else
    (some ((-1), M))
set_option maxRecDepth 100000 in
theorem q_X2_picked (fu : Nat) (s : Nat) (M : xM) :
    xrun pX2_picked flX2 koX2 nwX2 [(174, 1, 0, 0, w_X2_survey fu)] [(19, fun bc bs ls st M => xz bc bs (lR ls 0 2 fun o => o.bind fun s => lI ls 1 fun x1 => lI ls 2 fun x2 => lI ls 3 fun x3 => xe st (L_X2_picked_19 fu fu s x1 x2 x3 M)))] xrtI 82 (xat 0 pX2_picked) 0 0 [(0, .inr (.inr (2, some s)))] [] M = F_X2_picked fu s M := rfl
def w_X2_picked (fu : Nat) {ρ : Type} (as : List xV) (M : xM) (k : Option xV → xM → Option ρ) : Option ρ := pR 2 as fun o as => o.bind fun s => xe as ((F_X2_picked fu s M).bind fun p => k (some (.inl p.1)) p.2)
def pX3_isAlike : List xE := [(0, 0, 1, 0, 0, [], .iconst 0),
  (0, 1, 1, 0, 0, [], .istore_n 3),
  (1, 2, 1, 0, 0, [], .iload_n 3),
  (0, 3, 2, 0, 20, [], .bipush 20),
  (0, 5, 3, 33, 0, [], .if_icmp .ge 28),
  (0, 8, 1, 0, 0, [], .aload_n 0),
  (0, 9, 3, 0, 0, [], .getfield 11),
  (0, 12, 1, 0, 0, [], .iload_n 1),
  (0, 13, 2, 0, 20, [], .bipush 20),
  (0, 15, 1, 0, 0, [], .imul),
  (0, 16, 1, 0, 0, [], .iload_n 3),
  (0, 17, 1, 0, 0, [], .iadd),
  (0, 18, 1, 0, 0, [], .iaload),
  (0, 19, 1, 0, 0, [], .aload_n 2),
  (0, 20, 1, 0, 0, [], .iload_n 3),
  (0, 21, 1, 0, 0, [], .iaload),
  (0, 22, 3, 27, 0, [], .if_icmp .eq 5),
  (0, 25, 1, 0, 0, [], .iconst 0),
  (0, 26, 1, 0, 0, [], .ireturn),
  (0, 27, 3, 0, 1, [], .iinc 3 1),
  (0, 30, 3, 2, 0, [], .goto (-28)),
  (0, 33, 1, 0, 1, [], .iconst 1),
  (0, 34, 1, 0, 0, [], .ireturn)]
def L_X3_isAlike_2 (fu : Nat) : Nat → Nat → Int32 → Option Nat → Int32 → xM → Option (Int32 × xM)
  | 0, _, _, _, _, _ => none
  | n + 1, s, x1, x2, x3, M =>
    if 20 ≤ x3 then
      gd (xbool 1) (some (1, M))
    else
      (gR M 3 s 2).bind fun a_1 =>
      gd (xin ((x1 * 20) + x3) (gN M 20 a_1)) <|
      x2.bind fun a_2 =>
      gd (xin x3 (gN M 20 a_2)) <|
      if (gI M 20 a_1 (xi ((x1 * 20) + x3))) = (gI M 20 a_2 (xi x3)) then
        L_X3_isAlike_2 fu n s x1 x2 (x3 + 1) M
      else
        gd (xbool 0) (some (0, M))
set_option maxRecDepth 100000 in
theorem q_X3_isAlike_2 (fu : Nat) (n : Nat) (s : Nat) (x1 : Int32) (x2 : Option Nat) (x3 : Int32) (M : xM) :
    xrun pX3_isAlike flX3 koX3 nwX3 [] [(2, fun bc bs ls st M => xz bc bs (lR ls 0 3 fun o => o.bind fun s => lI ls 1 fun x1 => lR ls 2 20 fun x2 => lI ls 3 fun x3 => xe st (L_X3_isAlike_2 fu n s x1 x2 x3 M)))] xrtZ 25 (xat 2 pX3_isAlike) 0 0 [(0, .inr (.inr (3, some s))), (1, .inl x1), (2, .inr (.inr (20, x2))), (3, .inl x3)] [] M = L_X3_isAlike_2 fu (n + 1) s x1 x2 x3 M := rfl
def F_X3_isAlike (fu : Nat) (s : Nat) (x1 : Int32) (x2 : Option Nat) (M : xM) : Option (Int32 × xM) :=
  L_X3_isAlike_2 fu fu s x1 x2 0 M
set_option maxRecDepth 100000 in
theorem q_X3_isAlike (fu : Nat) (s : Nat) (x1 : Int32) (x2 : Option Nat) (M : xM) :
    xrun pX3_isAlike flX3 koX3 nwX3 [] [(2, fun bc bs ls st M => xz bc bs (lR ls 0 3 fun o => o.bind fun s => lI ls 1 fun x1 => lR ls 2 20 fun x2 => lI ls 3 fun x3 => xe st (L_X3_isAlike_2 fu fu s x1 x2 x3 M)))] xrtZ 25 (xat 0 pX3_isAlike) 0 0 [(0, .inr (.inr (3, some s))), (1, .inl x1), (2, .inr (.inr (20, x2)))] [] M = F_X3_isAlike fu s x1 x2 M := rfl
def w_X3_isAlike (fu : Nat) {ρ : Type} (as : List xV) (M : xM) (k : Option xV → xM → Option ρ) : Option ρ := pR 3 as fun o as => o.bind fun s => pI as fun x1 as => pR 20 as fun x2 as => xe as ((F_X3_isAlike fu s x1 x2 M).bind fun p => k (some (.inl p.1)) p.2)
def pX3_note : List xE := [(0, 0, 1, 0, 0, [], .aload_n 0),
  (0, 1, 3, 0, 0, [], .getfield 25),
  (0, 4, 3, 0, 288, [], .sipush 288),
  (0, 7, 3, 11, 0, [], .if_icmp .lt 4),
  (0, 10, 1, 0, 0, [], .return_),
  (0, 11, 1, 0, 0, [], .aload_n 0),
  (0, 12, 3, 0, 0, [], .getfield 29),
  (0, 15, 1, 0, 1, [], .iconst 1),
  (0, 16, 1, 0, 0, [], .isub),
  (0, 17, 1, 0, 0, [], .istore_n 2),
  (1, 18, 1, 0, 0, [], .iload_n 2),
  (0, 19, 3, 37, 0, [], .ifCond .lt 18),
  (0, 22, 1, 0, 0, [], .aload_n 0),
  (0, 23, 1, 0, 0, [], .iload_n 2),
  (0, 24, 1, 0, 0, [], .aload_n 1),
  (0, 25, 3, 0, 0, [], .invokevirtual 32),
  (0, 28, 3, 37, 0, [], .ifCond .ne 9),
  (0, 31, 3, 0, (-1), [], .iinc 2 (-1)),
  (0, 34, 3, 18, 0, [], .goto (-16)),
  (1, 37, 1, 0, 0, [], .iload_n 2),
  (0, 38, 3, 78, 0, [], .ifCond .ge 40),
  (0, 41, 1, 0, 0, [], .aload_n 0),
  (0, 42, 3, 0, 0, [], .getfield 29),
  (0, 45, 1, 0, 0, [], .istore_n 2),
  (0, 46, 1, 0, 0, [], .aload_n 1),
  (0, 47, 1, 0, 0, [], .iconst 0),
  (0, 48, 1, 0, 0, [], .aload_n 0),
  (0, 49, 3, 0, 0, [], .getfield 11),
  (0, 52, 1, 0, 0, [], .iload_n 2),
  (0, 53, 2, 0, 20, [], .bipush 20),
  (0, 55, 1, 0, 0, [], .imul),
  (0, 56, 2, 0, 20, [], .bipush 20),
  (0, 58, 3, 0, 0, [], .invokestatic 36),
  (0, 61, 1, 0, 0, [], .aload_n 0),
  (0, 62, 3, 0, 0, [], .getfield 15),
  (0, 65, 1, 0, 0, [], .iload_n 2),
  (0, 66, 1, 0, 0, [], .iconst 0),
  (0, 67, 1, 0, 0, [], .iastore),
  (0, 68, 1, 0, 0, [], .aload_n 0),
  (0, 69, 1, 0, 0, [], .dup),
  (0, 70, 3, 0, 0, [], .getfield 29),
  (0, 73, 1, 0, 1, [], .iconst 1),
  (0, 74, 1, 0, 0, [], .iadd),
  (0, 75, 3, 0, 0, [], .putfield 29),
  (1, 78, 1, 0, 0, [], .aload_n 0),
  (0, 79, 3, 0, 0, [], .getfield 15),
  (0, 82, 1, 0, 0, [], .iload_n 2),
  (0, 83, 1, 0, 0, [], .dup2),
  (0, 84, 1, 0, 0, [], .iaload),
  (0, 85, 1, 0, 1, [], .iconst 1),
  (0, 86, 1, 0, 0, [], .iadd),
  (0, 87, 1, 0, 0, [], .iastore),
  (0, 88, 1, 0, 0, [], .aload_n 0),
  (0, 89, 3, 0, 0, [], .getfield 18),
  (0, 92, 1, 0, 0, [], .aload_n 0),
  (0, 93, 3, 0, 0, [], .getfield 25),
  (0, 96, 1, 0, 0, [], .iload_n 2),
  (0, 97, 1, 0, 0, [], .iastore),
  (0, 98, 1, 0, 0, [], .aload_n 0),
  (0, 99, 1, 0, 0, [], .dup),
  (0, 100, 3, 0, 0, [], .getfield 25),
  (0, 103, 1, 0, 1, [], .iconst 1),
  (0, 104, 1, 0, 0, [], .iadd),
  (0, 105, 3, 0, 0, [], .putfield 25),
  (0, 108, 1, 0, 0, [], .return_)]
def J_X3_note_78 (fu : Nat) (s : Nat) (x2 : Int32) (M : xM) : Option xM :=
  (gR M 3 s 3).bind fun a_1 =>
  gd (xin x2 (gN M 20 a_1)) <|
  (gR M 3 s 3).bind fun a_2 =>
  gd (xin x2 (gN M 20 a_2)) <|
  let M_3 := sI M 20 a_2 (xi x2) ((gI M 20 a_1 (xi x2)) + 1)
  (gR M_3 3 s 4).bind fun a_4 =>
  gd (xin (gI M_3 3 s 0) (gN M_3 20 a_4)) <|
  let M_5 := sI M_3 20 a_4 (xi (gI M_3 3 s 0)) x2
  let M_6 := sI M_5 3 s 0 ((gI M_5 3 s 0) + 1)
  some M_6
set_option maxRecDepth 100000 in
theorem q_X3_note_78 (fu : Nat) (s : Nat) (x2 : Int32) (M : xM) :
    xrun pX3_note flX3 koX3 nwX3 [] [] xrtV 67 (xat 78 pX3_note) 0 0 [(0, .inr (.inr (3, some s))), (2, .inl x2)] [] M = J_X3_note_78 fu s x2 M := rfl
def J_X3_note_37 (fu : Nat) (s : Nat) (x1 : Option Nat) (x2 : Int32) (M : xM) : Option xM :=
  if 0 ≤ x2 then
    J_X3_note_78 fu s x2 M
  else
    let x2_1 : Int32 := gI M 3 s 1
    x1.bind fun a_2 =>
    (gR M 3 s 2).bind fun a_3 =>
    gd (xcpok 0 (x2_1 * 20) 20 (gN M 20 a_2) (gN M 20 a_3)) <|
    let M_4 := cpI M 20 a_2 a_3 (xi 0) (xi (x2_1 * 20)) (xi 20)
    (gR M_4 3 s 3).bind fun a_5 =>
    gd (xin x2_1 (gN M_4 20 a_5)) <|
    let M_6 := sI M_4 20 a_5 (xi x2_1) 0
    let M_7 := sI M_6 3 s 1 ((gI M_6 3 s 1) + 1)
    J_X3_note_78 fu s x2_1 M_7
set_option maxRecDepth 100000 in
theorem q_X3_note_37 (fu : Nat) (s : Nat) (x1 : Option Nat) (x2 : Int32) (M : xM) :
    xrun pX3_note flX3 koX3 nwX3 [(36, 5, 0, 0, w_arraycopy)] [(78, fun bc bs ls st M => xz bc bs (lR ls 0 3 fun o => o.bind fun s => lI ls 2 fun x2 => xe st (J_X3_note_78 fu s x2 M)))] xrtV 67 (xat 37 pX3_note) 0 0 [(0, .inr (.inr (3, some s))), (1, .inr (.inr (20, x1))), (2, .inl x2)] [] M = J_X3_note_37 fu s x1 x2 M := rfl
def L_X3_note_18 (fu : Nat) : Nat → Nat → Option Nat → Int32 → xM → Option xM
  | 0, _, _, _, _ => none
  | n + 1, s, x1, x2, M =>
    if x2 < 0 then
      J_X3_note_37 fu s x1 x2 M
    else
      (F_X3_isAlike fu s x2 x1 M).bind fun p_1 =>
      if ¬ p_1.1 = 0 then
        J_X3_note_37 fu s x1 x2 p_1.2
      else
        L_X3_note_18 fu n s x1 (x2 + (-1)) p_1.2
set_option maxRecDepth 100000 in
theorem q_X3_note_18 (fu : Nat) (n : Nat) (s : Nat) (x1 : Option Nat) (x2 : Int32) (M : xM) :
    xrun pX3_note flX3 koX3 nwX3 [(32, 3, 0, 0, w_X3_isAlike fu)] [(18, fun bc bs ls st M => xz bc bs (lR ls 0 3 fun o => o.bind fun s => lR ls 1 20 fun x1 => lI ls 2 fun x2 => xe st (L_X3_note_18 fu n s x1 x2 M))),
    (37, fun bc bs ls st M => xz bc bs (lR ls 0 3 fun o => o.bind fun s => lR ls 1 20 fun x1 => lI ls 2 fun x2 => xe st (J_X3_note_37 fu s x1 x2 M)))] xrtV 67 (xat 18 pX3_note) 0 0 [(0, .inr (.inr (3, some s))), (1, .inr (.inr (20, x1))), (2, .inl x2)] [] M = L_X3_note_18 fu (n + 1) s x1 x2 M := rfl
def F_X3_note (fu : Nat) (s : Nat) (x1 : Option Nat) (M : xM) : Option xM :=
  if (gI M 3 s 0) < 288 then
    let x2_1 : Int32 := (gI M 3 s 1) - 1
    L_X3_note_18 fu fu s x1 x2_1 M
  else
    some M
set_option maxRecDepth 100000 in
theorem q_X3_note (fu : Nat) (s : Nat) (x1 : Option Nat) (M : xM) :
    xrun pX3_note flX3 koX3 nwX3 [] [(18, fun bc bs ls st M => xz bc bs (lR ls 0 3 fun o => o.bind fun s => lR ls 1 20 fun x1 => lI ls 2 fun x2 => xe st (L_X3_note_18 fu fu s x1 x2 M)))] xrtV 67 (xat 0 pX3_note) 0 0 [(0, .inr (.inr (3, some s))), (1, .inr (.inr (20, x1)))] [] M = F_X3_note fu s x1 M := rfl
def w_X3_note (fu : Nat) {ρ : Type} (as : List xV) (M : xM) (k : Option xV → xM → Option ρ) : Option ρ := pR 3 as fun o as => o.bind fun s => pR 20 as fun x1 as => xe as ((F_X3_note fu s x1 M).bind fun p => k none p)
def pX2_put : List xE := [(0, 0, 1, 0, 0, [], .aload_n 0),
  (0, 1, 3, 0, 0, [], .getfield 12),
  (0, 4, 3, 0, 0, [], .invokevirtual 103),
  (0, 7, 1, 0, 0, [], .istore_n 1),
  (0, 8, 1, 0, 0, [], .iload_n 1),
  (0, 9, 3, 14, 0, [], .ifCond .ge 5),
  (0, 12, 1, 0, (-1), [], .iconst (-1)),
  (0, 13, 1, 0, 0, [], .ireturn),
  (0, 14, 1, 0, 0, [], .aload_n 0),
  (0, 15, 1, 0, 0, [], .iconst 0),
  (0, 16, 3, 0, 0, [], .putfield 68),
  (0, 19, 1, 0, 0, [], .aload_n 0),
  (0, 20, 3, 0, 0, [], .getfield 43),
  (0, 23, 3, 51, 0, [], .ifnull 28),
  (0, 26, 1, 0, 0, [], .aload_n 0),
  (0, 27, 3, 0, 0, [], .getfield 39),
  (0, 30, 1, 0, 0, [], .aload_n 0),
  (0, 31, 3, 0, 0, [], .getfield 12),
  (0, 34, 3, 0, 0, [], .invokevirtual 106),
  (0, 37, 1, 0, 0, [], .aload_n 0),
  (0, 38, 3, 0, 0, [], .getfield 43),
  (0, 41, 1, 0, 0, [], .aload_n 0),
  (0, 42, 3, 0, 0, [], .getfield 39),
  (0, 45, 3, 0, 0, [], .getfield 111),
  (0, 48, 3, 0, 0, [], .invokevirtual 114),
  (1, 51, 1, 0, 0, [], .aload_n 0),
  (0, 52, 3, 0, 0, [], .getfield 55),
  (0, 55, 1, 0, 1, [], .iconst 1),
  (0, 56, 3, 88, 0, [], .if_icmp .ne 32),
  (0, 59, 1, 0, 0, [], .aload_n 0),
  (0, 60, 3, 0, 0, [], .getfield 12),
  (0, 63, 1, 0, 0, [], .iload_n 1),
  (0, 64, 1, 0, 4, [], .iconst 4),
  (0, 65, 1, 0, (-1), [], .iconst (-1)),
  (0, 66, 1, 0, (-1), [], .iconst (-1)),
  (0, 67, 1, 0, (-1), [], .iconst (-1)),
  (0, 68, 1, 0, (-1), [], .iconst (-1)),
  (0, 69, 3, 0, 0, [], .invokevirtual 120),
  (0, 72, 1, 0, 0, [], .aload_n 0),
  (0, 73, 1, 0, 0, [], .iconst 0),
  (0, 74, 3, 0, 0, [], .putfield 47),
  (0, 77, 1, 0, 0, [], .aload_n 0),
  (0, 78, 1, 0, 0, [], .iconst 0),
  (0, 79, 3, 0, 0, [], .putfield 55),
  (0, 82, 1, 0, 0, [], .aload_n 0),
  (0, 83, 3, 0, 0, [], .invokevirtual 65),
  (0, 86, 1, 0, (-1), [], .iconst (-1)),
  (0, 87, 1, 0, 0, [], .ireturn),
  (0, 88, 1, 0, 0, [], .aload_n 0),
  (0, 89, 3, 0, 0, [], .getfield 55),
  (0, 92, 1, 0, 1, [], .iconst 1),
  (0, 93, 3, 106, 0, [], .if_icmp .le 13),
  (0, 96, 1, 0, 0, [], .aload_n 0),
  (0, 97, 1, 0, 0, [], .dup),
  (0, 98, 3, 0, 0, [], .getfield 55),
  (0, 101, 1, 0, 1, [], .iconst 1),
  (0, 102, 1, 0, 0, [], .isub),
  (0, 103, 3, 0, 0, [], .putfield 55),
  (0, 106, 1, 0, 0, [], .iload_n 1),
  (0, 107, 1, 0, 0, [], .ireturn)]
def J_X2_put_51 (fu : Nat) (s : Nat) (x1 : Int32) (M : xM) : Option (Int32 × xM) :=
  if ¬ (gI M 2 s 2) = 1 then
    if (gI M 2 s 2) ≤ 1 then
      (some (x1, M))
    else
      let M_1 := sI M 2 s 2 ((gI M 2 s 2) - 1)
      (some (x1, M_1))
  else
    (gR M 2 s 0).bind fun a_2 =>
    (F_X0_fill fu a_2 x1 4 ((-1)) ((-1)) ((-1)) ((-1)) M).bind fun p_3 =>
    gd (xbool 0) <|
    let M_4 := sI p_3 2 s 1 0
    let M_5 := sI M_4 2 s 2 0
    (F_X2_forgetFiles fu s M_5).bind fun p_6 =>
    (some ((-1), p_6))
set_option maxRecDepth 100000 in
theorem q_X2_put_51 (fu : Nat) (s : Nat) (x1 : Int32) (M : xM) :
    xrun pX2_put flX2 koX2 nwX2 [(65, 1, 0, 0, w_X2_forgetFiles fu), (120, 7, 0, 0, w_X0_fill fu)] [] xrtI 62 (xat 51 pX2_put) 0 0 [(0, .inr (.inr (2, some s))), (1, .inl x1)] [] M = J_X2_put_51 fu s x1 M := rfl
def F_X2_put (fu : Nat) (s : Nat) (M : xM) : Option (Int32 × xM) :=
  (gR M 2 s 0).bind fun a_1 =>
  (F_X0_takeSlot fu a_1 M).bind fun p_2 =>
  if 0 ≤ p_2.1 then
    gd (xbool 0) <|
    let M_3 := sI p_2.2 2 s 11 0
    match gR M_3 2 s 6 with
    | none =>
      J_X2_put_51 fu s p_2.1 M_3
    | some _ =>
      (gR M_3 2 s 5).bind fun a_4 =>
      (F_X4_find fu a_4 (gR M_3 2 s 0) M_3).bind fun p_5 =>
      (gR p_5 2 s 5).bind fun a_6 =>
      (gR p_5 2 s 6).bind fun a_7 =>
      (F_X3_note fu a_7 (gR p_5 4 a_6 1) p_5).bind fun p_8 =>
      J_X2_put_51 fu s p_2.1 p_8
  else
    (some ((-1), p_2.2))
set_option maxRecDepth 100000 in
theorem q_X2_put (fu : Nat) (s : Nat) (M : xM) :
    xrun pX2_put flX2 koX2 nwX2 [(103, 1, 0, 0, w_X0_takeSlot fu), (106, 2, 0, 0, w_X4_find fu), (114, 2, 0, 0, w_X3_note fu)] [(51, fun bc bs ls st M => xz bc bs (lR ls 0 2 fun o => o.bind fun s => lI ls 1 fun x1 => xe st (J_X2_put_51 fu s x1 M)))] xrtI 62 (xat 0 pX2_put) 0 0 [(0, .inr (.inr (2, some s)))] [] M = F_X2_put fu s M := rfl
def w_X2_put (fu : Nat) {ρ : Type} (as : List xV) (M : xM) (k : Option xV → xM → Option ρ) : Option ρ := pR 2 as fun o as => o.bind fun s => xe as ((F_X2_put fu s M).bind fun p => k (some (.inl p.1)) p.2)
def pX2_collectBlock : List xE := [(0, 0, 1, 0, 0, [], .aload_n 0),
  (0, 1, 3, 0, 0, [], .invokevirtual 226),
  (0, 4, 1, 0, 0, [], .istore_n 1),
  (0, 5, 1, 0, 0, [], .aload_n 0),
  (0, 6, 3, 0, 0, [], .getfield 12),
  (0, 9, 1, 0, 0, [], .iload_n 1),
  (0, 10, 3, 0, 0, [], .invokevirtual 229),
  (0, 13, 3, 18, 0, [], .ifCond .ne 5),
  (0, 16, 1, 0, (-1), [], .iconst (-1)),
  (0, 17, 1, 0, 0, [], .ireturn),
  (0, 18, 1, 0, 0, [], .iload_n 1),
  (0, 19, 1, 0, 0, [], .aload_n 0),
  (0, 20, 3, 0, 0, [], .getfield 12),
  (0, 23, 3, 0, 0, [], .getfield 232),
  (0, 26, 1, 0, 0, [], .imul),
  (0, 27, 1, 0, 0, [], .istore_n 2),
  (1, 28, 1, 0, 0, [], .iload_n 2),
  (0, 29, 1, 0, 0, [], .iload_n 1),
  (0, 30, 1, 0, 1, [], .iconst 1),
  (0, 31, 1, 0, 0, [], .iadd),
  (0, 32, 1, 0, 0, [], .aload_n 0),
  (0, 33, 3, 0, 0, [], .getfield 12),
  (0, 36, 3, 0, 0, [], .getfield 232),
  (0, 39, 1, 0, 0, [], .imul),
  (0, 40, 3, 79, 0, [], .if_icmp .ge 39),
  (0, 43, 1, 0, 0, [], .aload_n 0),
  (0, 44, 3, 0, 0, [], .getfield 29),
  (0, 47, 1, 0, 0, [], .iload_n 2),
  (0, 48, 1, 0, 0, [], .baload),
  (0, 49, 3, 73, 0, [], .ifCond .eq 24),
  (0, 52, 1, 0, 0, [], .aload_n 0),
  (0, 53, 3, 0, 0, [], .invokevirtual 124),
  (0, 56, 1, 0, 0, [], .istore_n 3),
  (0, 57, 1, 0, 0, [], .iload_n 3),
  (0, 58, 3, 64, 0, [], .ifCond .ge 6),
  (0, 61, 2, 0, (-2), [], .bipush (-2)),
  (0, 63, 1, 0, 0, [], .ireturn),
  (0, 64, 1, 0, 0, [], .aload_n 0),
  (0, 65, 3, 0, 0, [], .getfield 12),
  (0, 68, 1, 0, 0, [], .iload_n 2),
  (0, 69, 1, 0, 0, [], .iload_n 3),
  (0, 70, 3, 0, 0, [], .invokevirtual 233),
  (0, 73, 3, 0, 1, [], .iinc 2 1),
  (0, 76, 3, 28, 0, [], .goto (-48)),
  (0, 79, 1, 0, 0, [], .aload_n 0),
  (0, 80, 3, 0, 0, [], .getfield 12),
  (0, 83, 1, 0, 0, [], .iload_n 1),
  (0, 84, 3, 0, 0, [], .invokevirtual 237),
  (0, 87, 1, 0, 0, [], .aload_n 0),
  (0, 88, 1, 0, 0, [], .iconst 0),
  (0, 89, 3, 0, 0, [], .putfield 68),
  (0, 92, 1, 0, 0, [], .aload_n 0),
  (0, 93, 1, 0, 0, [], .dup),
  (0, 94, 3, 0, 0, [], .getfield 59),
  (0, 97, 1, 0, 1, [], .iconst 1),
  (0, 98, 1, 0, 0, [], .iadd),
  (0, 99, 3, 0, 0, [], .putfield 59),
  (0, 102, 1, 0, 0, [], .iload_n 1),
  (0, 103, 1, 0, 0, [], .ireturn)]
def L_X2_collectBlock_28 (fu : Nat) : Nat → Nat → Int32 → Int32 → xM → Option (Int32 × xM)
  | 0, _, _, _, _ => none
  | n + 1, s, x1, x2, M =>
    (gR M 2 s 0).bind fun a_1 =>
    if ((x1 + 1) * (gI M 0 a_1 1)) ≤ x2 then
      (gR M 2 s 0).bind fun a_2 =>
      (F_X0_erase fu a_2 x1 M).bind fun p_3 =>
      gd (xbool 0) <|
      let M_4 := sI p_3 2 s 11 0
      let M_5 := sI M_4 2 s 3 ((gI M_4 2 s 3) + 1)
      (some (x1, M_5))
    else
      (gR M 2 s 12).bind fun a_6 =>
      gd (xin x2 (gN M 22 a_6)) <|
      if (gI M 22 a_6 (xi x2)) = 0 then
        L_X2_collectBlock_28 fu n s x1 (x2 + 1) M
      else
        (F_X2_put fu s M).bind fun p_7 =>
        if 0 ≤ p_7.1 then
          (gR p_7.2 2 s 0).bind fun a_8 =>
          (F_X0_copyNode fu a_8 x2 p_7.1 p_7.2).bind fun p_9 =>
          L_X2_collectBlock_28 fu n s x1 (x2 + 1) p_9
        else
          (some ((-2), p_7.2))
set_option maxRecDepth 100000 in
theorem q_X2_collectBlock_28 (fu : Nat) (n : Nat) (s : Nat) (x1 : Int32) (x2 : Int32) (M : xM) :
    xrun pX2_collectBlock flX2 koX2 nwX2 [(124, 1, 0, 0, w_X2_put fu), (233, 3, 0, 0, w_X0_copyNode fu), (237, 2, 0, 0, w_X0_erase fu)] [(28, fun bc bs ls st M => xz bc bs (lR ls 0 2 fun o => o.bind fun s => lI ls 1 fun x1 => lI ls 2 fun x2 => xe st (L_X2_collectBlock_28 fu n s x1 x2 M)))] xrtI 61 (xat 28 pX2_collectBlock) 0 0 [(0, .inr (.inr (2, some s))), (1, .inl x1), (2, .inl x2)] [] M = L_X2_collectBlock_28 fu (n + 1) s x1 x2 M := rfl
def F_X2_collectBlock (fu : Nat) (s : Nat) (M : xM) : Option (Int32 × xM) :=
  (F_X2_picked fu s M).bind fun p_1 =>
  (gR p_1.2 2 s 0).bind fun a_2 =>
  (F_X0_isBlock fu a_2 p_1.1 p_1.2).bind fun p_3 =>
  if ¬ p_3.1 = 0 then
    (gR p_3.2 2 s 0).bind fun a_4 =>
    let x2_5 : Int32 := p_1.1 * (gI p_3.2 0 a_4 1)
    L_X2_collectBlock_28 fu fu s p_1.1 x2_5 p_3.2
  else
    (some ((-1), p_3.2))
set_option maxRecDepth 100000 in
theorem q_X2_collectBlock (fu : Nat) (s : Nat) (M : xM) :
    xrun pX2_collectBlock flX2 koX2 nwX2 [(226, 1, 0, 0, w_X2_picked fu), (229, 2, 0, 0, w_X0_isBlock fu)] [(28, fun bc bs ls st M => xz bc bs (lR ls 0 2 fun o => o.bind fun s => lI ls 1 fun x1 => lI ls 2 fun x2 => xe st (L_X2_collectBlock_28 fu fu s x1 x2 M)))] xrtI 61 (xat 0 pX2_collectBlock) 0 0 [(0, .inr (.inr (2, some s)))] [] M = F_X2_collectBlock fu s M := rfl
def w_X2_collectBlock (fu : Nat) {ρ : Type} (as : List xV) (M : xM) (k : Option xV → xM → Option ρ) : Option ρ := pR 2 as fun o as => o.bind fun s => xe as ((F_X2_collectBlock fu s M).bind fun p => k (some (.inl p.1)) p.2)
def pX2_isKept : List xE := [(0, 0, 1, 0, 0, [], .aload_n 0),
  (0, 1, 3, 0, 0, [], .getfield 18),
  (0, 4, 1, 0, 0, [], .iload_n 1),
  (0, 5, 1, 0, 0, [], .iaload),
  (0, 6, 3, 24, 0, [], .ifCond .eq 18),
  (0, 9, 1, 0, 0, [], .aload_n 0),
  (0, 10, 3, 0, 0, [], .getfield 26),
  (0, 13, 1, 0, 0, [], .iload_n 1),
  (0, 14, 1, 0, 4, [], .iconst 4),
  (0, 15, 1, 0, 0, [], .idiv),
  (0, 16, 1, 0, 0, [], .baload),
  (0, 17, 3, 24, 0, [], .ifCond .ne 7),
  (0, 20, 1, 0, 1, [], .iconst 1),
  (0, 21, 3, 25, 0, [], .goto 4),
  (0, 24, 1, 0, 0, [], .iconst 0),
  (0, 25, 1, 0, 0, [], .ireturn)]
def F_X2_isKept (fu : Nat) (s : Nat) (x1 : Int32) (M : xM) : Option (Int32 × xM) :=
  (gR M 2 s 7).bind fun a_1 =>
  gd (xin x1 (gN M 20 a_1)) <|
  if (gI M 20 a_1 (xi x1)) = 0 then
    gd (xbool 0) (some (0, M))
  else
    gd (!((4 : Int32) == 0)) <|
    (gR M 2 s 9).bind fun a_2 =>
    gd (xin (x1 / 4) (gN M 22 a_2)) <|
    if ¬ (gI M 22 a_2 (xi (x1 / 4))) = 0 then
      gd (xbool 0) (some (0, M))
    else
      gd (xbool 1) (some (1, M))
set_option maxRecDepth 100000 in
theorem q_X2_isKept (fu : Nat) (s : Nat) (x1 : Int32) (M : xM) :
    xrun pX2_isKept flX2 koX2 nwX2 [] [] xrtZ 18 (xat 0 pX2_isKept) 0 0 [(0, .inr (.inr (2, some s))), (1, .inl x1)] [] M = F_X2_isKept fu s x1 M := rfl
def w_X2_isKept (fu : Nat) {ρ : Type} (as : List xV) (M : xM) (k : Option xV → xM → Option ρ) : Option ρ := pR 2 as fun o as => o.bind fun s => pI as fun x1 as => xe as ((F_X2_isKept fu s x1 M).bind fun p => k (some (.inl p.1)) p.2)
def pX2_keptPages : List xE := [(0, 0, 1, 0, 0, [], .iconst 0),
  (0, 1, 1, 0, 0, [], .istore_n 1),
  (0, 2, 1, 0, 0, [], .iconst 0),
  (0, 3, 1, 0, 0, [], .istore_n 2),
  (1, 4, 1, 0, 0, [], .iload_n 2),
  (0, 5, 2, 0, 20, [], .bipush 20),
  (0, 7, 3, 27, 0, [], .if_icmp .ge 20),
  (0, 10, 1, 0, 0, [], .aload_n 0),
  (0, 11, 1, 0, 0, [], .iload_n 2),
  (0, 12, 3, 0, 0, [], .invokevirtual 217),
  (0, 15, 3, 21, 0, [], .ifCond .eq 6),
  (0, 18, 3, 0, 1, [], .iinc 1 1),
  (0, 21, 3, 0, 1, [], .iinc 2 1),
  (0, 24, 3, 4, 0, [], .goto (-20)),
  (0, 27, 1, 0, 0, [], .iload_n 1),
  (0, 28, 1, 0, 0, [], .ireturn)]
def L_X2_keptPages_4 (fu : Nat) : Nat → Nat → Int32 → Int32 → xM → Option (Int32 × xM)
  | 0, _, _, _, _ => none
  | n + 1, s, x1, x2, M =>
    if 20 ≤ x2 then
      (some (x1, M))
    else
      (F_X2_isKept fu s x2 M).bind fun p_1 =>
      if p_1.1 = 0 then
        L_X2_keptPages_4 fu n s x1 (x2 + 1) p_1.2
      else
        L_X2_keptPages_4 fu n s (x1 + 1) (x2 + 1) p_1.2
set_option maxRecDepth 100000 in
theorem q_X2_keptPages_4 (fu : Nat) (n : Nat) (s : Nat) (x1 : Int32) (x2 : Int32) (M : xM) :
    xrun pX2_keptPages flX2 koX2 nwX2 [(217, 2, 0, 0, w_X2_isKept fu)] [(4, fun bc bs ls st M => xz bc bs (lR ls 0 2 fun o => o.bind fun s => lI ls 1 fun x1 => lI ls 2 fun x2 => xe st (L_X2_keptPages_4 fu n s x1 x2 M)))] xrtI 18 (xat 4 pX2_keptPages) 0 0 [(0, .inr (.inr (2, some s))), (1, .inl x1), (2, .inl x2)] [] M = L_X2_keptPages_4 fu (n + 1) s x1 x2 M := rfl
def F_X2_keptPages (fu : Nat) (s : Nat) (M : xM) : Option (Int32 × xM) :=
  L_X2_keptPages_4 fu fu s 0 0 M
set_option maxRecDepth 100000 in
theorem q_X2_keptPages (fu : Nat) (s : Nat) (M : xM) :
    xrun pX2_keptPages flX2 koX2 nwX2 [] [(4, fun bc bs ls st M => xz bc bs (lR ls 0 2 fun o => o.bind fun s => lI ls 1 fun x1 => lI ls 2 fun x2 => xe st (L_X2_keptPages_4 fu fu s x1 x2 M)))] xrtI 18 (xat 0 pX2_keptPages) 0 0 [(0, .inr (.inr (2, some s)))] [] M = F_X2_keptPages fu s M := rfl
def w_X2_keptPages (fu : Nat) {ρ : Type} (as : List xV) (M : xM) (k : Option xV → xM → Option ρ) : Option ρ := pR 2 as fun o as => o.bind fun s => xe as ((F_X2_keptPages fu s M).bind fun p => k (some (.inl p.1)) p.2)
def pX2_partsOf : List xE := [(0, 0, 1, 0, 0, [], .iload_n 0),
  (0, 1, 1, 0, 4, [], .iconst 4),
  (0, 2, 1, 0, 0, [], .idiv),
  (0, 3, 1, 0, 1, [], .iconst 1),
  (0, 4, 1, 0, 0, [], .iadd),
  (0, 5, 1, 0, 0, [], .ireturn)]
def F_X2_partsOf (fu : Nat) (x0 : Int32) (M : xM) : Option (Int32 × xM) :=
  gd (!((4 : Int32) == 0)) <|
  (some ((x0 / 4) + 1, M))
set_option maxRecDepth 100000 in
theorem q_X2_partsOf (fu : Nat) (x0 : Int32) (M : xM) :
    xrun pX2_partsOf flX2 koX2 nwX2 [] [] xrtI 8 (xat 0 pX2_partsOf) 0 0 [(0, .inl x0)] [] M = F_X2_partsOf fu x0 M := rfl
def w_X2_partsOf (fu : Nat) {ρ : Type} (as : List xV) (M : xM) (k : Option xV → xM → Option ρ) : Option ρ := pI as fun x0 as => xe as ((F_X2_partsOf fu x0 M).bind fun p => k (some (.inl p.1)) p.2)
def pX2_hasRoomToWrite : List xE := [(0, 0, 1, 0, 0, [], .aload_n 0),
  (0, 1, 3, 0, 0, [], .getfield 18),
  (0, 4, 1, 0, 0, [], .iload_n 1),
  (0, 5, 1, 0, 4, [], .iconst 4),
  (0, 6, 1, 0, 0, [], .imul),
  (0, 7, 1, 0, 0, [], .iload_n 2),
  (0, 8, 1, 0, 0, [], .iadd),
  (0, 9, 1, 0, 0, [], .iaload),
  (0, 10, 3, 17, 0, [], .ifCond .ne 7),
  (0, 13, 1, 0, 1, [], .iconst 1),
  (0, 14, 3, 18, 0, [], .goto 4),
  (0, 17, 1, 0, 0, [], .iconst 0),
  (1, 18, 1, 0, 0, [], .istore_n 3),
  (0, 19, 1, 0, 0, [], .aload_n 0),
  (0, 20, 3, 0, 0, [], .invokevirtual 153),
  (0, 23, 1, 0, 0, [], .iload_n 3),
  (0, 24, 1, 0, 0, [], .iadd),
  (0, 25, 3, 0, 0, [], .invokestatic 156),
  (0, 28, 2, 0, 0, [], .istore 4),
  (0, 30, 1, 0, 0, [], .aload_n 0),
  (0, 31, 3, 0, 0, [], .getfield 35),
  (0, 34, 3, 0, 0, [], .getfield 138),
  (0, 37, 1, 0, 0, [], .iload_n 1),
  (0, 38, 1, 0, 0, [], .iaload),
  (0, 39, 1, 0, 2, [], .iconst 2),
  (0, 40, 3, 47, 0, [], .if_icmp .ne 7),
  (0, 43, 1, 0, 2, [], .iconst 2),
  (0, 44, 3, 68, 0, [], .goto 24),
  (0, 47, 1, 0, 0, [], .aload_n 0),
  (0, 48, 3, 0, 0, [], .getfield 35),
  (0, 51, 3, 0, 0, [], .getfield 138),
  (0, 54, 1, 0, 0, [], .iload_n 1),
  (0, 55, 1, 0, 0, [], .iaload),
  (0, 56, 1, 0, 3, [], .iconst 3),
  (0, 57, 3, 67, 0, [], .if_icmp .ne 10),
  (0, 60, 1, 0, 1, [], .iconst 1),
  (0, 61, 2, 0, 0, [], .iload 4),
  (0, 63, 1, 0, 0, [], .iadd),
  (0, 64, 3, 68, 0, [], .goto 4),
  (0, 67, 1, 0, 1, [], .iconst 1),
  (1, 68, 2, 0, 0, [], .istore 5),
  (0, 70, 1, 0, 0, [], .aload_n 0),
  (0, 71, 3, 0, 0, [], .getfield 12),
  (0, 74, 3, 0, 0, [], .getfield 159),
  (0, 77, 2, 0, 0, [], .iload 5),
  (0, 79, 2, 0, 0, [], .iload 4),
  (0, 81, 1, 0, 0, [], .iadd),
  (0, 82, 1, 0, 0, [], .aload_n 0),
  (0, 83, 3, 0, 0, [], .getfield 35),
  (0, 86, 3, 0, 0, [], .getfield 162),
  (0, 89, 1, 0, 0, [], .iadd),
  (0, 90, 3, 97, 0, [], .if_icmp .lt 7),
  (0, 93, 1, 0, 1, [], .iconst 1),
  (0, 94, 3, 98, 0, [], .goto 4),
  (0, 97, 1, 0, 0, [], .iconst 0),
  (0, 98, 1, 0, 0, [], .ireturn)]
def J_X2_hasRoomToWrite_68 (fu : Nat) (s : Nat) (x4 : Int32) (y0 : Int32) (M : xM) : Option (Int32 × xM) :=
  (gR M 2 s 0).bind fun a_1 =>
  (gR M 2 s 4).bind fun a_2 =>
  if (gI M 0 a_1 3) < ((y0 + x4) + (gI M 7 a_2 2)) then
    gd (xbool 0) (some (0, M))
  else
    gd (xbool 1) (some (1, M))
set_option maxRecDepth 100000 in
theorem q_X2_hasRoomToWrite_68 (fu : Nat) (s : Nat) (x4 : Int32) (y0 : Int32) (M : xM) :
    xrun pX2_hasRoomToWrite flX2 koX2 nwX2 [] [] xrtZ 58 (xat 68 pX2_hasRoomToWrite) 0 0 [(0, .inr (.inr (2, some s))), (4, .inl x4)] [.inl y0] M = J_X2_hasRoomToWrite_68 fu s x4 y0 M := rfl
def J_X2_hasRoomToWrite_18 (fu : Nat) (s : Nat) (x1 : Int32) (y0 : Int32) (M : xM) : Option (Int32 × xM) :=
  (F_X2_keptPages fu s M).bind fun p_1 =>
  (F_X2_partsOf fu (p_1.1 + y0) p_1.2).bind fun p_2 =>
  (gR p_2.2 2 s 4).bind fun a_3 =>
  (gR p_2.2 7 a_3 4).bind fun a_4 =>
  gd (xin x1 (gN p_2.2 20 a_4)) <|
  if ¬ (gI p_2.2 20 a_4 (xi x1)) = 2 then
    (gR p_2.2 2 s 4).bind fun a_5 =>
    (gR p_2.2 7 a_5 4).bind fun a_6 =>
    gd (xin x1 (gN p_2.2 20 a_6)) <|
    if ¬ (gI p_2.2 20 a_6 (xi x1)) = 3 then
      J_X2_hasRoomToWrite_68 fu s p_2.1 1 p_2.2
    else
      J_X2_hasRoomToWrite_68 fu s p_2.1 (1 + p_2.1) p_2.2
  else
    J_X2_hasRoomToWrite_68 fu s p_2.1 2 p_2.2
set_option maxRecDepth 100000 in
theorem q_X2_hasRoomToWrite_18 (fu : Nat) (s : Nat) (x1 : Int32) (y0 : Int32) (M : xM) :
    xrun pX2_hasRoomToWrite flX2 koX2 nwX2 [(153, 1, 0, 0, w_X2_keptPages fu), (156, 1, 0, 0, w_X2_partsOf fu)] [(68, fun bc bs ls st M => xz bc bs (lR ls 0 2 fun o => o.bind fun s => lI ls 4 fun x4 => pI st fun y0 st => xe st (J_X2_hasRoomToWrite_68 fu s x4 y0 M)))] xrtZ 58 (xat 18 pX2_hasRoomToWrite) 0 0 [(0, .inr (.inr (2, some s))), (1, .inl x1)] [.inl y0] M = J_X2_hasRoomToWrite_18 fu s x1 y0 M := rfl
def F_X2_hasRoomToWrite (fu : Nat) (s : Nat) (x1 : Int32) (x2 : Int32) (M : xM) : Option (Int32 × xM) :=
  (gR M 2 s 7).bind fun a_1 =>
  gd (xin ((x1 * 4) + x2) (gN M 20 a_1)) <|
  if ¬ (gI M 20 a_1 (xi ((x1 * 4) + x2))) = 0 then
    J_X2_hasRoomToWrite_18 fu s x1 0 M
  else
    J_X2_hasRoomToWrite_18 fu s x1 1 M
set_option maxRecDepth 100000 in
theorem q_X2_hasRoomToWrite (fu : Nat) (s : Nat) (x1 : Int32) (x2 : Int32) (M : xM) :
    xrun pX2_hasRoomToWrite flX2 koX2 nwX2 [] [(18, fun bc bs ls st M => xz bc bs (lR ls 0 2 fun o => o.bind fun s => lI ls 1 fun x1 => pI st fun y0 st => xe st (J_X2_hasRoomToWrite_18 fu s x1 y0 M)))] xrtZ 58 (xat 0 pX2_hasRoomToWrite) 0 0 [(0, .inr (.inr (2, some s))), (1, .inl x1), (2, .inl x2)] [] M = F_X2_hasRoomToWrite fu s x1 x2 M := rfl
def w_X2_hasRoomToWrite (fu : Nat) {ρ : Type} (as : List xV) (M : xM) (k : Option xV → xM → Option ρ) : Option ρ := pR 2 as fun o as => o.bind fun s => pI as fun x1 as => pI as fun x2 as => xe as ((F_X2_hasRoomToWrite fu s x1 x2 M).bind fun p => k (some (.inl p.1)) p.2)
def pX2_putNew : List xE := [(0, 0, 1, 0, 0, [], .aload_n 0),
  (0, 1, 1, 0, 0, [], .dup),
  (0, 2, 3, 0, 0, [], .getfield 62),
  (0, 5, 1, 0, 1, [], .iconst 1),
  (0, 6, 1, 0, 0, [], .iadd),
  (0, 7, 3, 0, 0, [], .putfield 62),
  (0, 10, 1, 0, 0, [], .aload_n 0),
  (0, 11, 3, 0, 0, [], .invokevirtual 124),
  (0, 14, 2, 0, 0, [], .istore 5),
  (0, 16, 2, 0, 0, [], .iload 5),
  (0, 18, 3, 23, 0, [], .ifCond .ge 5),
  (0, 21, 1, 0, 0, [], .iconst 0),
  (0, 22, 1, 0, 0, [], .ireturn),
  (0, 23, 1, 0, 0, [], .aload_n 0),
  (0, 24, 3, 0, 0, [], .getfield 12),
  (0, 27, 2, 0, 0, [], .iload 5),
  (0, 29, 1, 0, 0, [], .iload_n 1),
  (0, 30, 1, 0, 0, [], .aload_n 0),
  (0, 31, 3, 0, 0, [], .getfield 62),
  (0, 34, 1, 0, 0, [], .iload_n 2),
  (0, 35, 1, 0, 0, [], .iload_n 3),
  (0, 36, 2, 0, 0, [], .iload 4),
  (0, 38, 3, 0, 0, [], .invokevirtual 120),
  (0, 41, 1, 0, 1, [], .iconst 1),
  (0, 42, 1, 0, 0, [], .ireturn)]
def F_X2_putNew (fu : Nat) (s : Nat) (x1 : Int32) (x2 : Int32) (x3 : Int32) (x4 : Int32) (M : xM) : Option (Int32 × xM) :=
  let M_1 := sI M 2 s 10 ((gI M 2 s 10) + 1)
  (F_X2_put fu s M_1).bind fun p_2 =>
  if 0 ≤ p_2.1 then
    (gR p_2.2 2 s 0).bind fun a_3 =>
    (F_X0_fill fu a_3 p_2.1 x1 (gI p_2.2 2 s 10) x2 x3 x4 p_2.2).bind fun p_4 =>
    gd (xbool 1) (some (1, p_4))
  else
    gd (xbool 0) (some (0, p_2.2))
set_option maxRecDepth 100000 in
theorem q_X2_putNew (fu : Nat) (s : Nat) (x1 : Int32) (x2 : Int32) (x3 : Int32) (x4 : Int32) (M : xM) :
    xrun pX2_putNew flX2 koX2 nwX2 [(120, 7, 0, 0, w_X0_fill fu), (124, 1, 0, 0, w_X2_put fu)] [] xrtZ 27 (xat 0 pX2_putNew) 0 0 [(0, .inr (.inr (2, some s))), (1, .inl x1), (2, .inl x2), (3, .inl x3), (4, .inl x4)] [] M = F_X2_putNew fu s x1 x2 x3 x4 M := rfl
def w_X2_putNew (fu : Nat) {ρ : Type} (as : List xV) (M : xM) (k : Option xV → xM → Option ρ) : Option ρ := pR 2 as fun o as => o.bind fun s => pI as fun x1 as => pI as fun x2 as => pI as fun x3 as => pI as fun x4 as => xe as ((F_X2_putNew fu s x1 x2 x3 x4 M).bind fun p => k (some (.inl p.1)) p.2)
def pX2_parts : List xE := [(0, 0, 1, 0, 0, [], .aload_n 0),
  (0, 1, 3, 0, 0, [], .invokevirtual 153),
  (0, 4, 3, 0, 0, [], .invokestatic 156),
  (0, 7, 1, 0, 0, [], .ireturn)]
def F_X2_parts (fu : Nat) (s : Nat) (M : xM) : Option (Int32 × xM) :=
  (F_X2_keptPages fu s M).bind fun p_1 =>
  (F_X2_partsOf fu p_1.1 p_1.2).bind fun p_2 =>
  (some (p_2.1, p_2.2))
set_option maxRecDepth 100000 in
theorem q_X2_parts (fu : Nat) (s : Nat) (M : xM) :
    xrun pX2_parts flX2 koX2 nwX2 [(153, 1, 0, 0, w_X2_keptPages fu), (156, 1, 0, 0, w_X2_partsOf fu)] [] xrtI 6 (xat 0 pX2_parts) 0 0 [(0, .inr (.inr (2, some s)))] [] M = F_X2_parts fu s M := rfl
def w_X2_parts (fu : Nat) {ρ : Type} (as : List xV) (M : xM) (k : Option xV → xM → Option ρ) : Option ρ := pR 2 as fun o as => o.bind fun s => xe as ((F_X2_parts fu s M).bind fun p => k (some (.inl p.1)) p.2)
def pX2_fillPart : List xE := [(0, 0, 1, 0, 0, [], .iconst 0),
  (0, 1, 2, 0, 0, [], .istore 5),
  (0, 3, 2, 0, 0, [], .iload 4),
  (0, 5, 2, 0, 0, [], .istore 6),
  (1, 7, 2, 0, 0, [], .iload 6),
  (0, 9, 2, 0, 20, [], .bipush 20),
  (0, 11, 3, 75, 0, [], .if_icmp .ge 64),
  (0, 14, 2, 0, 0, [], .iload 5),
  (0, 16, 1, 0, 4, [], .iconst 4),
  (0, 17, 3, 75, 0, [], .if_icmp .ge 58),
  (0, 20, 1, 0, 0, [], .aload_n 0),
  (0, 21, 2, 0, 0, [], .iload 6),
  (0, 23, 3, 0, 0, [], .invokevirtual 217),
  (0, 26, 3, 69, 0, [], .ifCond .eq 43),
  (0, 29, 1, 0, 0, [], .aload_n 0),
  (0, 30, 3, 0, 0, [], .getfield 12),
  (0, 33, 3, 0, 0, [], .getfield 220),
  (0, 36, 1, 0, 0, [], .iload_n 1),
  (0, 37, 1, 0, 4, [], .iconst 4),
  (0, 38, 1, 0, 0, [], .imul),
  (0, 39, 2, 0, 0, [], .iload 5),
  (0, 41, 1, 0, 0, [], .iadd),
  (0, 42, 2, 0, 0, [], .iload 6),
  (0, 44, 1, 0, 0, [], .iastore),
  (0, 45, 1, 0, 0, [], .aload_n 0),
  (0, 46, 3, 0, 0, [], .getfield 12),
  (0, 49, 3, 0, 0, [], .getfield 223),
  (0, 52, 1, 0, 0, [], .iload_n 1),
  (0, 53, 1, 0, 4, [], .iconst 4),
  (0, 54, 1, 0, 0, [], .imul),
  (0, 55, 2, 0, 0, [], .iload 5),
  (0, 57, 1, 0, 0, [], .iadd),
  (0, 58, 1, 0, 0, [], .aload_n 0),
  (0, 59, 3, 0, 0, [], .getfield 18),
  (0, 62, 2, 0, 0, [], .iload 6),
  (0, 64, 1, 0, 0, [], .iaload),
  (0, 65, 1, 0, 0, [], .iastore),
  (0, 66, 3, 0, 1, [], .iinc 5 1),
  (0, 69, 3, 0, 1, [], .iinc 6 1),
  (0, 72, 3, 7, 0, [], .goto (-65)),
  (1, 75, 1, 0, 0, [], .aload_n 0),
  (0, 76, 3, 0, 0, [], .getfield 12),
  (0, 79, 1, 0, 0, [], .iload_n 1),
  (0, 80, 1, 0, 3, [], .iconst 3),
  (0, 81, 1, 0, 0, [], .aload_n 0),
  (0, 82, 3, 0, 0, [], .getfield 62),
  (0, 85, 1, 0, 0, [], .iload_n 2),
  (0, 86, 1, 0, 0, [], .iload_n 3),
  (0, 87, 2, 0, 0, [], .iload 5),
  (0, 89, 3, 0, 0, [], .invokevirtual 120),
  (0, 92, 2, 0, 0, [], .iload 6),
  (0, 94, 1, 0, 0, [], .ireturn)]
def J_X2_fillPart_75 (fu : Nat) (s : Nat) (x1 : Int32) (x2 : Int32) (x3 : Int32) (x5 : Int32) (x6 : Int32) (M : xM) : Option (Int32 × xM) :=
  (gR M 2 s 0).bind fun a_1 =>
  (F_X0_fill fu a_1 x1 3 (gI M 2 s 10) x2 x3 x5 M).bind fun p_2 =>
  (some (x6, p_2))
set_option maxRecDepth 100000 in
theorem q_X2_fillPart_75 (fu : Nat) (s : Nat) (x1 : Int32) (x2 : Int32) (x3 : Int32) (x5 : Int32) (x6 : Int32) (M : xM) :
    xrun pX2_fillPart flX2 koX2 nwX2 [(120, 7, 0, 0, w_X0_fill fu)] [] xrtI 54 (xat 75 pX2_fillPart) 0 0 [(0, .inr (.inr (2, some s))), (1, .inl x1), (2, .inl x2), (3, .inl x3), (5, .inl x5), (6, .inl x6)] [] M = J_X2_fillPart_75 fu s x1 x2 x3 x5 x6 M := rfl
def L_X2_fillPart_7 (fu : Nat) : Nat → Nat → Int32 → Int32 → Int32 → Int32 → Int32 → xM → Option (Int32 × xM)
  | 0, _, _, _, _, _, _, _ => none
  | n + 1, s, x1, x2, x3, x5, x6, M =>
    if 20 ≤ x6 then
      J_X2_fillPart_75 fu s x1 x2 x3 x5 x6 M
    else
      if 4 ≤ x5 then
        J_X2_fillPart_75 fu s x1 x2 x3 x5 x6 M
      else
        (F_X2_isKept fu s x6 M).bind fun p_1 =>
        if p_1.1 = 0 then
          L_X2_fillPart_7 fu n s x1 x2 x3 x5 (x6 + 1) p_1.2
        else
          (gR p_1.2 2 s 0).bind fun a_2 =>
          (gR p_1.2 0 a_2 14).bind fun a_3 =>
          gd (xin ((x1 * 4) + x5) (gN p_1.2 20 a_3)) <|
          let M_4 := sI p_1.2 20 a_3 (xi ((x1 * 4) + x5)) x6
          (gR M_4 2 s 0).bind fun a_5 =>
          (gR M_4 2 s 7).bind fun a_6 =>
          gd (xin x6 (gN M_4 20 a_6)) <|
          (gR M_4 0 a_5 15).bind fun a_7 =>
          gd (xin ((x1 * 4) + x5) (gN M_4 20 a_7)) <|
          let M_8 := sI M_4 20 a_7 (xi ((x1 * 4) + x5)) (gI M_4 20 a_6 (xi x6))
          L_X2_fillPart_7 fu n s x1 x2 x3 (x5 + 1) (x6 + 1) M_8
set_option maxRecDepth 100000 in
theorem q_X2_fillPart_7 (fu : Nat) (n : Nat) (s : Nat) (x1 : Int32) (x2 : Int32) (x3 : Int32) (x5 : Int32) (x6 : Int32) (M : xM) :
    xrun pX2_fillPart flX2 koX2 nwX2 [(217, 2, 0, 0, w_X2_isKept fu)] [(7, fun bc bs ls st M => xz bc bs (lR ls 0 2 fun o => o.bind fun s => lI ls 1 fun x1 => lI ls 2 fun x2 => lI ls 3 fun x3 => lI ls 5 fun x5 => lI ls 6 fun x6 => xe st (L_X2_fillPart_7 fu n s x1 x2 x3 x5 x6 M))),
    (75, fun bc bs ls st M => xz bc bs (lR ls 0 2 fun o => o.bind fun s => lI ls 1 fun x1 => lI ls 2 fun x2 => lI ls 3 fun x3 => lI ls 5 fun x5 => lI ls 6 fun x6 => xe st (J_X2_fillPart_75 fu s x1 x2 x3 x5 x6 M)))] xrtI 54 (xat 7 pX2_fillPart) 0 0 [(0, .inr (.inr (2, some s))), (1, .inl x1), (2, .inl x2), (3, .inl x3), (5, .inl x5), (6, .inl x6)] [] M = L_X2_fillPart_7 fu (n + 1) s x1 x2 x3 x5 x6 M := rfl
def F_X2_fillPart (fu : Nat) (s : Nat) (x1 : Int32) (x2 : Int32) (x3 : Int32) (x4 : Int32) (M : xM) : Option (Int32 × xM) :=
  L_X2_fillPart_7 fu fu s x1 x2 x3 0 x4 M
set_option maxRecDepth 100000 in
theorem q_X2_fillPart (fu : Nat) (s : Nat) (x1 : Int32) (x2 : Int32) (x3 : Int32) (x4 : Int32) (M : xM) :
    xrun pX2_fillPart flX2 koX2 nwX2 [] [(7, fun bc bs ls st M => xz bc bs (lR ls 0 2 fun o => o.bind fun s => lI ls 1 fun x1 => lI ls 2 fun x2 => lI ls 3 fun x3 => lI ls 5 fun x5 => lI ls 6 fun x6 => xe st (L_X2_fillPart_7 fu fu s x1 x2 x3 x5 x6 M)))] xrtI 54 (xat 0 pX2_fillPart) 0 0 [(0, .inr (.inr (2, some s))), (1, .inl x1), (2, .inl x2), (3, .inl x3), (4, .inl x4)] [] M = F_X2_fillPart fu s x1 x2 x3 x4 M := rfl
def w_X2_fillPart (fu : Nat) {ρ : Type} (as : List xV) (M : xM) (k : Option xV → xM → Option ρ) : Option ρ := pR 2 as fun o as => o.bind fun s => pI as fun x1 as => pI as fun x2 as => pI as fun x3 as => pI as fun x4 as => xe as ((F_X2_fillPart fu s x1 x2 x3 x4 M).bind fun p => k (some (.inl p.1)) p.2)
def pX2_commitPages : List xE := [(0, 0, 1, 0, 0, [], .aload_n 0),
  (0, 1, 3, 0, 0, [], .invokevirtual 205),
  (0, 4, 1, 0, 0, [], .istore_n 1),
  (0, 5, 1, 0, 0, [], .aload_n 0),
  (0, 6, 3, 0, 0, [], .getfield 47),
  (0, 9, 3, 23, 0, [], .ifCond .eq 14),
  (0, 12, 1, 0, 0, [], .aload_n 0),
  (0, 13, 3, 0, 0, [], .getfield 12),
  (0, 16, 3, 0, 0, [], .getfield 159),
  (0, 19, 1, 0, 0, [], .iload_n 1),
  (0, 20, 3, 25, 0, [], .if_icmp .ge 5),
  (0, 23, 1, 0, (-1), [], .iconst (-1)),
  (0, 24, 1, 0, 0, [], .ireturn),
  (0, 25, 1, 0, 0, [], .iconst 0),
  (0, 26, 1, 0, 0, [], .istore_n 2),
  (0, 27, 1, 0, 0, [], .iconst 0),
  (0, 28, 1, 0, 0, [], .istore_n 3),
  (1, 29, 1, 0, 0, [], .iload_n 3),
  (0, 30, 1, 0, 0, [], .iload_n 1),
  (0, 31, 3, 74, 0, [], .if_icmp .ge 43),
  (0, 34, 1, 0, 0, [], .aload_n 0),
  (0, 35, 1, 0, 0, [], .dup),
  (0, 36, 3, 0, 0, [], .getfield 62),
  (0, 39, 1, 0, 1, [], .iconst 1),
  (0, 40, 1, 0, 0, [], .iadd),
  (0, 41, 3, 0, 0, [], .putfield 62),
  (0, 44, 1, 0, 0, [], .aload_n 0),
  (0, 45, 3, 0, 0, [], .invokevirtual 124),
  (0, 48, 2, 0, 0, [], .istore 4),
  (0, 50, 2, 0, 0, [], .iload 4),
  (0, 52, 3, 58, 0, [], .ifCond .ge 6),
  (0, 55, 2, 0, (-2), [], .bipush (-2)),
  (0, 57, 1, 0, 0, [], .ireturn),
  (0, 58, 1, 0, 0, [], .aload_n 0),
  (0, 59, 2, 0, 0, [], .iload 4),
  (0, 61, 1, 0, 0, [], .iload_n 3),
  (0, 62, 1, 0, 0, [], .iload_n 1),
  (0, 63, 1, 0, 0, [], .iload_n 2),
  (0, 64, 3, 0, 0, [], .invokevirtual 208),
  (0, 67, 1, 0, 0, [], .istore_n 2),
  (0, 68, 3, 0, 1, [], .iinc 3 1),
  (0, 71, 3, 29, 0, [], .goto (-42)),
  (0, 74, 1, 0, 0, [], .aload_n 0),
  (0, 75, 3, 0, 0, [], .getfield 12),
  (0, 78, 1, 0, 0, [], .aload_n 0),
  (0, 79, 3, 0, 0, [], .getfield 62),
  (0, 82, 3, 0, 0, [], .putfield 211),
  (0, 85, 1, 0, 0, [], .aload_n 0),
  (0, 86, 3, 0, 0, [], .getfield 12),
  (0, 89, 1, 0, 0, [], .iload_n 1),
  (0, 90, 3, 0, 0, [], .putfield 214),
  (0, 93, 1, 0, 0, [], .aload_n 0),
  (0, 94, 1, 0, 0, [], .iconst 0),
  (0, 95, 3, 0, 0, [], .putfield 68),
  (0, 98, 1, 0, 0, [], .iload_n 1),
  (0, 99, 1, 0, 0, [], .ireturn)]
def L_X2_commitPages_29 (fu : Nat) : Nat → Nat → Int32 → Int32 → Int32 → xM → Option (Int32 × xM)
  | 0, _, _, _, _, _ => none
  | n + 1, s, x1, x2, x3, M =>
    if x1 ≤ x3 then
      (gR M 2 s 0).bind fun a_1 =>
      let M_2 := sI M 0 a_1 5 (gI M 2 s 10)
      (gR M_2 2 s 0).bind fun a_3 =>
      let M_4 := sI M_2 0 a_3 6 x1
      gd (xbool 0) <|
      let M_5 := sI M_4 2 s 11 0
      (some (x1, M_5))
    else
      let M_6 := sI M 2 s 10 ((gI M 2 s 10) + 1)
      (F_X2_put fu s M_6).bind fun p_7 =>
      if 0 ≤ p_7.1 then
        (F_X2_fillPart fu s p_7.1 x3 x1 x2 p_7.2).bind fun p_8 =>
        L_X2_commitPages_29 fu n s x1 p_8.1 (x3 + 1) p_8.2
      else
        (some ((-2), p_7.2))
set_option maxRecDepth 100000 in
theorem q_X2_commitPages_29 (fu : Nat) (n : Nat) (s : Nat) (x1 : Int32) (x2 : Int32) (x3 : Int32) (M : xM) :
    xrun pX2_commitPages flX2 koX2 nwX2 [(124, 1, 0, 0, w_X2_put fu), (208, 5, 0, 0, w_X2_fillPart fu)] [(29, fun bc bs ls st M => xz bc bs (lR ls 0 2 fun o => o.bind fun s => lI ls 1 fun x1 => lI ls 2 fun x2 => lI ls 3 fun x3 => xe st (L_X2_commitPages_29 fu n s x1 x2 x3 M)))] xrtI 58 (xat 29 pX2_commitPages) 0 0 [(0, .inr (.inr (2, some s))), (1, .inl x1), (2, .inl x2), (3, .inl x3)] [] M = L_X2_commitPages_29 fu (n + 1) s x1 x2 x3 M := rfl
def F_X2_commitPages (fu : Nat) (s : Nat) (M : xM) : Option (Int32 × xM) :=
  (F_X2_parts fu s M).bind fun p_1 =>
  if (gI p_1.2 2 s 1) = 0 then
    (some ((-1), p_1.2))
  else
    (gR p_1.2 2 s 0).bind fun a_2 =>
    if p_1.1 ≤ (gI p_1.2 0 a_2 3) then
      L_X2_commitPages_29 fu fu s p_1.1 0 0 p_1.2
    else
      (some ((-1), p_1.2))
set_option maxRecDepth 100000 in
theorem q_X2_commitPages (fu : Nat) (s : Nat) (M : xM) :
    xrun pX2_commitPages flX2 koX2 nwX2 [(205, 1, 0, 0, w_X2_parts fu)] [(29, fun bc bs ls st M => xz bc bs (lR ls 0 2 fun o => o.bind fun s => lI ls 1 fun x1 => lI ls 2 fun x2 => lI ls 3 fun x3 => xe st (L_X2_commitPages_29 fu fu s x1 x2 x3 M)))] xrtI 58 (xat 0 pX2_commitPages) 0 0 [(0, .inr (.inr (2, some s)))] [] M = F_X2_commitPages fu s M := rfl
def w_X2_commitPages (fu : Nat) {ρ : Type} (as : List xV) (M : xM) (k : Option xV → xM → Option ρ) : Option ρ := pR 2 as fun o as => o.bind fun s => xe as ((F_X2_commitPages fu s M).bind fun p => k (some (.inl p.1)) p.2)
def pX2_writePage : List xE := [(0, 0, 1, 0, 0, [], .aload_n 0),
  (0, 1, 1, 0, 0, [], .iload_n 1),
  (0, 2, 1, 0, 0, [], .iload_n 2),
  (0, 3, 3, 0, 0, [], .invokevirtual 127),
  (0, 6, 3, 20, 0, [], .ifCond .eq 14),
  (0, 9, 1, 0, 0, [], .iload_n 3),
  (0, 10, 3, 20, 0, [], .ifCond .lt 10),
  (0, 13, 1, 0, 0, [], .iload_n 3),
  (0, 14, 3, 0, 255, [], .sipush 255),
  (0, 17, 3, 22, 0, [], .if_icmp .le 5),
  (0, 20, 1, 0, (-1), [], .iconst (-1)),
  (0, 21, 1, 0, 0, [], .ireturn),
  (0, 22, 1, 0, 0, [], .aload_n 0),
  (0, 23, 3, 0, 0, [], .invokevirtual 131),
  (0, 26, 3, 41, 0, [], .ifCond .eq 15),
  (0, 29, 1, 0, 0, [], .aload_n 0),
  (0, 30, 3, 0, 0, [], .invokevirtual 100),
  (0, 33, 2, 0, (-2), [], .bipush (-2)),
  (0, 35, 3, 41, 0, [], .if_icmp .ne 6),
  (0, 38, 2, 0, (-2), [], .bipush (-2)),
  (0, 40, 1, 0, 0, [], .ireturn),
  (1, 41, 1, 0, 0, [], .aload_n 0),
  (0, 42, 1, 0, 0, [], .iload_n 1),
  (0, 43, 1, 0, 0, [], .iload_n 2),
  (0, 44, 3, 0, 0, [], .invokevirtual 135),
  (0, 47, 3, 52, 0, [], .ifCond .ne 5),
  (0, 50, 1, 0, (-1), [], .iconst (-1)),
  (0, 51, 1, 0, 0, [], .ireturn),
  (0, 52, 1, 0, 0, [], .aload_n 0),
  (0, 53, 3, 0, 0, [], .getfield 35),
  (0, 56, 3, 0, 0, [], .getfield 138),
  (0, 59, 1, 0, 0, [], .iload_n 1),
  (0, 60, 1, 0, 0, [], .iaload),
  (0, 61, 1, 0, 2, [], .iconst 2),
  (0, 62, 3, 69, 0, [], .if_icmp .ne 7),
  (0, 65, 1, 0, 2, [], .iconst 2),
  (0, 66, 3, 70, 0, [], .goto 4),
  (0, 69, 1, 0, 1, [], .iconst 1),
  (0, 70, 2, 0, 0, [], .istore 4),
  (0, 72, 1, 0, 0, [], .iconst 0),
  (0, 73, 2, 0, 0, [], .istore 5),
  (1, 75, 2, 0, 0, [], .iload 5),
  (0, 77, 2, 0, 0, [], .iload 4),
  (0, 79, 3, 102, 0, [], .if_icmp .ge 23),
  (0, 82, 1, 0, 0, [], .aload_n 0),
  (0, 83, 1, 0, 1, [], .iconst 1),
  (0, 84, 1, 0, 0, [], .iload_n 1),
  (0, 85, 1, 0, 0, [], .iload_n 2),
  (0, 86, 1, 0, 0, [], .iload_n 3),
  (0, 87, 3, 0, 0, [], .invokevirtual 143),
  (0, 90, 3, 96, 0, [], .ifCond .ne 6),
  (0, 93, 2, 0, (-2), [], .bipush (-2)),
  (0, 95, 1, 0, 0, [], .ireturn),
  (0, 96, 3, 0, 1, [], .iinc 5 1),
  (0, 99, 3, 75, 0, [], .goto (-24)),
  (0, 102, 1, 0, 0, [], .aload_n 0),
  (0, 103, 3, 0, 0, [], .getfield 62),
  (0, 106, 2, 0, 0, [], .istore 5),
  (0, 108, 1, 0, 0, [], .aload_n 0),
  (0, 109, 3, 0, 0, [], .getfield 18),
  (0, 112, 1, 0, 0, [], .iload_n 1),
  (0, 113, 1, 0, 4, [], .iconst 4),
  (0, 114, 1, 0, 0, [], .imul),
  (0, 115, 1, 0, 0, [], .iload_n 2),
  (0, 116, 1, 0, 0, [], .iadd),
  (0, 117, 2, 0, 0, [], .iload 5),
  (0, 119, 1, 0, 0, [], .iastore),
  (0, 120, 1, 0, 0, [], .aload_n 0),
  (0, 121, 1, 0, 0, [], .iconst 0),
  (0, 122, 3, 0, 0, [], .putfield 68),
  (0, 125, 1, 0, 0, [], .aload_n 0),
  (0, 126, 3, 0, 0, [], .getfield 35),
  (0, 129, 3, 0, 0, [], .getfield 138),
  (0, 132, 1, 0, 0, [], .iload_n 1),
  (0, 133, 1, 0, 0, [], .iaload),
  (0, 134, 1, 0, 3, [], .iconst 3),
  (0, 135, 3, 148, 0, [], .if_icmp .ne 13),
  (0, 138, 1, 0, 0, [], .aload_n 0),
  (0, 139, 3, 0, 0, [], .invokevirtual 96),
  (0, 142, 3, 148, 0, [], .ifCond .ge 6),
  (0, 145, 2, 0, (-2), [], .bipush (-2)),
  (0, 147, 1, 0, 0, [], .ireturn),
  (0, 148, 2, 0, 0, [], .iload 5),
  (0, 150, 1, 0, 0, [], .ireturn)]
def L_X2_writePage_75 (fu : Nat) : Nat → Nat → Int32 → Int32 → Int32 → Int32 → Int32 → xM → Option (Int32 × xM)
  | 0, _, _, _, _, _, _, _ => none
  | n + 1, s, x1, x2, x3, x4, x5, M =>
    if x4 ≤ x5 then
      let x5_1 : Int32 := gI M 2 s 10
      (gR M 2 s 7).bind fun a_2 =>
      gd (xin ((x1 * 4) + x2) (gN M 20 a_2)) <|
      let M_3 := sI M 20 a_2 (xi ((x1 * 4) + x2)) x5_1
      gd (xbool 0) <|
      let M_4 := sI M_3 2 s 11 0
      (gR M_4 2 s 4).bind fun a_5 =>
      (gR M_4 7 a_5 4).bind fun a_6 =>
      gd (xin x1 (gN M_4 20 a_6)) <|
      if ¬ (gI M_4 20 a_6 (xi x1)) = 3 then
        (some (x5_1, M_4))
      else
        (F_X2_commitPages fu s M_4).bind fun p_7 =>
        if 0 ≤ p_7.1 then
          (some (x5_1, p_7.2))
        else
          (some ((-2), p_7.2))
    else
      (F_X2_putNew fu s 1 x1 x2 x3 M).bind fun p_8 =>
      if ¬ p_8.1 = 0 then
        L_X2_writePage_75 fu n s x1 x2 x3 x4 (x5 + 1) p_8.2
      else
        (some ((-2), p_8.2))
set_option maxRecDepth 100000 in
theorem q_X2_writePage_75 (fu : Nat) (n : Nat) (s : Nat) (x1 : Int32) (x2 : Int32) (x3 : Int32) (x4 : Int32) (x5 : Int32) (M : xM) :
    xrun pX2_writePage flX2 koX2 nwX2 [(96, 1, 0, 0, w_X2_commitPages fu), (143, 5, 0, 0, w_X2_putNew fu)] [(75, fun bc bs ls st M => xz bc bs (lR ls 0 2 fun o => o.bind fun s => lI ls 1 fun x1 => lI ls 2 fun x2 => lI ls 3 fun x3 => lI ls 4 fun x4 => lI ls 5 fun x5 => xe st (L_X2_writePage_75 fu n s x1 x2 x3 x4 x5 M)))] xrtI 86 (xat 75 pX2_writePage) 0 0 [(0, .inr (.inr (2, some s))), (1, .inl x1), (2, .inl x2), (3, .inl x3), (4, .inl x4), (5, .inl x5)] [] M = L_X2_writePage_75 fu (n + 1) s x1 x2 x3 x4 x5 M := rfl
def J_X2_writePage_41 (fu : Nat) (s : Nat) (x1 : Int32) (x2 : Int32) (x3 : Int32) (M : xM) : Option (Int32 × xM) :=
  (F_X2_hasRoomToWrite fu s x1 x2 M).bind fun p_1 =>
  if ¬ p_1.1 = 0 then
    (gR p_1.2 2 s 4).bind fun a_2 =>
    (gR p_1.2 7 a_2 4).bind fun a_3 =>
    gd (xin x1 (gN p_1.2 20 a_3)) <|
    if ¬ (gI p_1.2 20 a_3 (xi x1)) = 2 then
      L_X2_writePage_75 fu fu s x1 x2 x3 1 0 p_1.2
    else
      L_X2_writePage_75 fu fu s x1 x2 x3 2 0 p_1.2
  else
    (some ((-1), p_1.2))
set_option maxRecDepth 100000 in
theorem q_X2_writePage_41 (fu : Nat) (s : Nat) (x1 : Int32) (x2 : Int32) (x3 : Int32) (M : xM) :
    xrun pX2_writePage flX2 koX2 nwX2 [(135, 3, 0, 0, w_X2_hasRoomToWrite fu)] [(75, fun bc bs ls st M => xz bc bs (lR ls 0 2 fun o => o.bind fun s => lI ls 1 fun x1 => lI ls 2 fun x2 => lI ls 3 fun x3 => lI ls 4 fun x4 => lI ls 5 fun x5 => xe st (L_X2_writePage_75 fu fu s x1 x2 x3 x4 x5 M)))] xrtI 86 (xat 41 pX2_writePage) 0 0 [(0, .inr (.inr (2, some s))), (1, .inl x1), (2, .inl x2), (3, .inl x3)] [] M = J_X2_writePage_41 fu s x1 x2 x3 M := rfl
def F_X2_writePage (fu : Nat) (s : Nat) (x1 : Int32) (x2 : Int32) (x3 : Int32) (M : xM) : Option (Int32 × xM) :=
  (F_X2_mayWrite fu s x1 x2 M).bind fun p_1 =>
  if p_1.1 = 0 then
    (some ((-1), p_1.2))
  else
    if x3 < 0 then
      (some ((-1), p_1.2))
    else
      if x3 ≤ 255 then
        (F_X2_wantsCollect fu s p_1.2).bind fun p_2 =>
        if p_2.1 = 0 then
          J_X2_writePage_41 fu s x1 x2 x3 p_2.2
        else
          (F_X2_collectBlock fu s p_2.2).bind fun p_3 =>
          if ¬ p_3.1 = ((-2)) then
            J_X2_writePage_41 fu s x1 x2 x3 p_3.2
          else
            (some ((-2), p_3.2))
      else
        (some ((-1), p_1.2))
set_option maxRecDepth 100000 in
theorem q_X2_writePage (fu : Nat) (s : Nat) (x1 : Int32) (x2 : Int32) (x3 : Int32) (M : xM) :
    xrun pX2_writePage flX2 koX2 nwX2 [(100, 1, 0, 0, w_X2_collectBlock fu), (127, 3, 0, 0, w_X2_mayWrite fu), (131, 1, 0, 0, w_X2_wantsCollect fu)] [(41, fun bc bs ls st M => xz bc bs (lR ls 0 2 fun o => o.bind fun s => lI ls 1 fun x1 => lI ls 2 fun x2 => lI ls 3 fun x3 => xe st (J_X2_writePage_41 fu s x1 x2 x3 M)))] xrtI 86 (xat 0 pX2_writePage) 0 0 [(0, .inr (.inr (2, some s))), (1, .inl x1), (2, .inl x2), (3, .inl x3)] [] M = F_X2_writePage fu s x1 x2 x3 M := rfl
def w_X2_writePage (fu : Nat) {ρ : Type} (as : List xV) (M : xM) (k : Option xV → xM → Option ρ) : Option ρ := pR 2 as fun o as => o.bind fun s => pI as fun x1 as => pI as fun x2 as => pI as fun x3 as => xe as ((F_X2_writePage fu s x1 x2 x3 M).bind fun p => k (some (.inl p.1)) p.2)
def pX2_mappedBits : List xE := [(0, 0, 1, 0, 0, [], .iconst 0),
  (0, 1, 1, 0, 0, [], .istore_n 2),
  (0, 2, 1, 0, 0, [], .iconst 0),
  (0, 3, 1, 0, 0, [], .istore_n 3),
  (1, 4, 1, 0, 0, [], .iload_n 3),
  (0, 5, 1, 0, 4, [], .iconst 4),
  (0, 6, 3, 34, 0, [], .if_icmp .ge 28),
  (0, 9, 1, 0, 0, [], .aload_n 0),
  (0, 10, 3, 0, 0, [], .getfield 18),
  (0, 13, 1, 0, 0, [], .iload_n 1),
  (0, 14, 1, 0, 4, [], .iconst 4),
  (0, 15, 1, 0, 0, [], .imul),
  (0, 16, 1, 0, 0, [], .iload_n 3),
  (0, 17, 1, 0, 0, [], .iadd),
  (0, 18, 1, 0, 0, [], .iaload),
  (0, 19, 3, 28, 0, [], .ifCond .eq 9),
  (0, 22, 1, 0, 0, [], .iload_n 2),
  (0, 23, 1, 0, 1, [], .iconst 1),
  (0, 24, 1, 0, 0, [], .iload_n 3),
  (0, 25, 1, 0, 0, [], .ishl),
  (0, 26, 1, 0, 0, [], .ior),
  (0, 27, 1, 0, 0, [], .istore_n 2),
  (0, 28, 3, 0, 1, [], .iinc 3 1),
  (0, 31, 3, 4, 0, [], .goto (-27)),
  (0, 34, 1, 0, 0, [], .iload_n 2),
  (0, 35, 1, 0, 0, [], .ireturn)]
def L_X2_mappedBits_4 (fu : Nat) : Nat → Nat → Int32 → Int32 → Int32 → xM → Option (Int32 × xM)
  | 0, _, _, _, _, _ => none
  | n + 1, s, x1, x2, x3, M =>
    if 4 ≤ x3 then
      (some (x2, M))
    else
      (gR M 2 s 7).bind fun a_1 =>
      gd (xin ((x1 * 4) + x3) (gN M 20 a_1)) <|
      if (gI M 20 a_1 (xi ((x1 * 4) + x3))) = 0 then
        L_X2_mappedBits_4 fu n s x1 x2 (x3 + 1) M
      else
        let x2_2 : Int32 := x2 ||| (1 <<< (x3 &&& 31))
        L_X2_mappedBits_4 fu n s x1 x2_2 (x3 + 1) M
set_option maxRecDepth 100000 in
theorem q_X2_mappedBits_4 (fu : Nat) (n : Nat) (s : Nat) (x1 : Int32) (x2 : Int32) (x3 : Int32) (M : xM) :
    xrun pX2_mappedBits flX2 koX2 nwX2 [] [(4, fun bc bs ls st M => xz bc bs (lR ls 0 2 fun o => o.bind fun s => lI ls 1 fun x1 => lI ls 2 fun x2 => lI ls 3 fun x3 => xe st (L_X2_mappedBits_4 fu n s x1 x2 x3 M)))] xrtI 28 (xat 4 pX2_mappedBits) 0 0 [(0, .inr (.inr (2, some s))), (1, .inl x1), (2, .inl x2), (3, .inl x3)] [] M = L_X2_mappedBits_4 fu (n + 1) s x1 x2 x3 M := rfl
def F_X2_mappedBits (fu : Nat) (s : Nat) (x1 : Int32) (M : xM) : Option (Int32 × xM) :=
  L_X2_mappedBits_4 fu fu s x1 0 0 M
set_option maxRecDepth 100000 in
theorem q_X2_mappedBits (fu : Nat) (s : Nat) (x1 : Int32) (M : xM) :
    xrun pX2_mappedBits flX2 koX2 nwX2 [] [(4, fun bc bs ls st M => xz bc bs (lR ls 0 2 fun o => o.bind fun s => lI ls 1 fun x1 => lI ls 2 fun x2 => lI ls 3 fun x3 => xe st (L_X2_mappedBits_4 fu fu s x1 x2 x3 M)))] xrtI 28 (xat 0 pX2_mappedBits) 0 0 [(0, .inr (.inr (2, some s))), (1, .inl x1)] [] M = F_X2_mappedBits fu s x1 M := rfl
def w_X2_mappedBits (fu : Nat) {ρ : Type} (as : List xV) (M : xM) (k : Option xV → xM → Option ρ) : Option ρ := pR 2 as fun o as => o.bind fun s => pI as fun x1 as => xe as ((F_X2_mappedBits fu s x1 M).bind fun p => k (some (.inl p.1)) p.2)
def pX2_unmap : List xE := [(0, 0, 1, 0, 0, [], .iconst 0),
  (0, 1, 1, 0, 0, [], .istore_n 2),
  (1, 2, 1, 0, 0, [], .iload_n 2),
  (0, 3, 1, 0, 4, [], .iconst 4),
  (0, 4, 3, 24, 0, [], .if_icmp .ge 20),
  (0, 7, 1, 0, 0, [], .aload_n 0),
  (0, 8, 3, 0, 0, [], .getfield 18),
  (0, 11, 1, 0, 0, [], .iload_n 1),
  (0, 12, 1, 0, 4, [], .iconst 4),
  (0, 13, 1, 0, 0, [], .imul),
  (0, 14, 1, 0, 0, [], .iload_n 2),
  (0, 15, 1, 0, 0, [], .iadd),
  (0, 16, 1, 0, 0, [], .iconst 0),
  (0, 17, 1, 0, 0, [], .iastore),
  (0, 18, 3, 0, 1, [], .iinc 2 1),
  (0, 21, 3, 2, 0, [], .goto (-19)),
  (0, 24, 1, 0, 0, [], .aload_n 0),
  (0, 25, 1, 0, 0, [], .iconst 0),
  (0, 26, 3, 0, 0, [], .putfield 68),
  (0, 29, 1, 0, 0, [], .return_)]
def L_X2_unmap_2 (fu : Nat) : Nat → Nat → Int32 → Int32 → xM → Option xM
  | 0, _, _, _, _ => none
  | n + 1, s, x1, x2, M =>
    if 4 ≤ x2 then
      gd (xbool 0) <|
      let M_1 := sI M 2 s 11 0
      some M_1
    else
      (gR M 2 s 7).bind fun a_2 =>
      gd (xin ((x1 * 4) + x2) (gN M 20 a_2)) <|
      let M_3 := sI M 20 a_2 (xi ((x1 * 4) + x2)) 0
      L_X2_unmap_2 fu n s x1 (x2 + 1) M_3
set_option maxRecDepth 100000 in
theorem q_X2_unmap_2 (fu : Nat) (n : Nat) (s : Nat) (x1 : Int32) (x2 : Int32) (M : xM) :
    xrun pX2_unmap flX2 koX2 nwX2 [] [(2, fun bc bs ls st M => xz bc bs (lR ls 0 2 fun o => o.bind fun s => lI ls 1 fun x1 => lI ls 2 fun x2 => xe st (L_X2_unmap_2 fu n s x1 x2 M)))] xrtV 22 (xat 2 pX2_unmap) 0 0 [(0, .inr (.inr (2, some s))), (1, .inl x1), (2, .inl x2)] [] M = L_X2_unmap_2 fu (n + 1) s x1 x2 M := rfl
def F_X2_unmap (fu : Nat) (s : Nat) (x1 : Int32) (M : xM) : Option xM :=
  L_X2_unmap_2 fu fu s x1 0 M
set_option maxRecDepth 100000 in
theorem q_X2_unmap (fu : Nat) (s : Nat) (x1 : Int32) (M : xM) :
    xrun pX2_unmap flX2 koX2 nwX2 [] [(2, fun bc bs ls st M => xz bc bs (lR ls 0 2 fun o => o.bind fun s => lI ls 1 fun x1 => lI ls 2 fun x2 => xe st (L_X2_unmap_2 fu fu s x1 x2 M)))] xrtV 22 (xat 0 pX2_unmap) 0 0 [(0, .inr (.inr (2, some s))), (1, .inl x1)] [] M = F_X2_unmap fu s x1 M := rfl
def w_X2_unmap (fu : Nat) {ρ : Type} (as : List xV) (M : xM) (k : Option xV → xM → Option ρ) : Option ρ := pR 2 as fun o as => o.bind fun s => pI as fun x1 as => xe as ((F_X2_unmap fu s x1 M).bind fun p => k none p)
def pX2_removeFile : List xE := [(0, 0, 1, 0, 0, [], .aload_n 0),
  (0, 1, 3, 0, 0, [], .getfield 47),
  (0, 4, 3, 35, 0, [], .ifCond .eq 31),
  (0, 7, 1, 0, 0, [], .aload_n 0),
  (0, 8, 3, 0, 0, [], .getfield 35),
  (0, 11, 1, 0, 0, [], .iload_n 1),
  (0, 12, 3, 0, 0, [], .invokevirtual 190),
  (0, 15, 3, 35, 0, [], .ifCond .eq 20),
  (0, 18, 1, 0, 0, [], .aload_n 0),
  (0, 19, 3, 0, 0, [], .getfield 26),
  (0, 22, 1, 0, 0, [], .iload_n 1),
  (0, 23, 1, 0, 0, [], .baload),
  (0, 24, 3, 35, 0, [], .ifCond .ne 11),
  (0, 27, 1, 0, 0, [], .aload_n 0),
  (0, 28, 1, 0, 0, [], .iload_n 1),
  (0, 29, 3, 0, 0, [], .invokevirtual 193),
  (0, 32, 3, 37, 0, [], .ifCond .ne 5),
  (0, 35, 1, 0, (-1), [], .iconst (-1)),
  (0, 36, 1, 0, 0, [], .ireturn),
  (0, 37, 1, 0, 0, [], .aload_n 0),
  (0, 38, 3, 0, 0, [], .invokevirtual 131),
  (0, 41, 3, 56, 0, [], .ifCond .eq 15),
  (0, 44, 1, 0, 0, [], .aload_n 0),
  (0, 45, 3, 0, 0, [], .invokevirtual 100),
  (0, 48, 2, 0, (-2), [], .bipush (-2)),
  (0, 50, 3, 56, 0, [], .if_icmp .ne 6),
  (0, 53, 2, 0, (-2), [], .bipush (-2)),
  (0, 55, 1, 0, 0, [], .ireturn),
  (1, 56, 1, 0, 0, [], .aload_n 0),
  (0, 57, 3, 0, 0, [], .invokevirtual 153),
  (0, 60, 1, 0, 0, [], .aload_n 0),
  (0, 61, 1, 0, 0, [], .iload_n 1),
  (0, 62, 3, 0, 0, [], .invokevirtual 193),
  (0, 65, 3, 0, 0, [], .invokestatic 196),
  (0, 68, 1, 0, 0, [], .isub),
  (0, 69, 3, 0, 0, [], .invokestatic 156),
  (0, 72, 1, 0, 0, [], .istore_n 2),
  (0, 73, 1, 0, 0, [], .aload_n 0),
  (0, 74, 3, 0, 0, [], .getfield 12),
  (0, 77, 3, 0, 0, [], .getfield 159),
  (0, 80, 1, 0, 1, [], .iconst 1),
  (0, 81, 1, 0, 0, [], .iload_n 2),
  (0, 82, 1, 0, 0, [], .iadd),
  (0, 83, 1, 0, 0, [], .aload_n 0),
  (0, 84, 3, 0, 0, [], .getfield 35),
  (0, 87, 3, 0, 0, [], .getfield 162),
  (0, 90, 1, 0, 0, [], .iadd),
  (0, 91, 3, 96, 0, [], .if_icmp .ge 5),
  (0, 94, 1, 0, (-1), [], .iconst (-1)),
  (0, 95, 1, 0, 0, [], .ireturn),
  (0, 96, 1, 0, 0, [], .aload_n 0),
  (0, 97, 1, 0, 2, [], .iconst 2),
  (0, 98, 1, 0, 0, [], .iload_n 1),
  (0, 99, 1, 0, (-1), [], .iconst (-1)),
  (0, 100, 1, 0, (-1), [], .iconst (-1)),
  (0, 101, 3, 0, 0, [], .invokevirtual 143),
  (0, 104, 3, 110, 0, [], .ifCond .ne 6),
  (0, 107, 2, 0, (-2), [], .bipush (-2)),
  (0, 109, 1, 0, 0, [], .ireturn),
  (0, 110, 1, 0, 0, [], .aload_n 0),
  (0, 111, 3, 0, 0, [], .getfield 22),
  (0, 114, 1, 0, 0, [], .iload_n 1),
  (0, 115, 1, 0, 0, [], .baload),
  (0, 116, 3, 129, 0, [], .ifCond .eq 13),
  (0, 119, 1, 0, 0, [], .aload_n 0),
  (0, 120, 3, 0, 0, [], .getfield 26),
  (0, 123, 1, 0, 0, [], .iload_n 1),
  (0, 124, 1, 0, 1, [], .iconst 1),
  (0, 125, 1, 0, 0, [], .bastore),
  (0, 126, 3, 134, 0, [], .goto 8),
  (0, 129, 1, 0, 0, [], .aload_n 0),
  (0, 130, 1, 0, 0, [], .iload_n 1),
  (0, 131, 3, 0, 0, [], .invokevirtual 201),
  (0, 134, 1, 0, 0, [], .aload_n 0),
  (0, 135, 3, 0, 0, [], .getfield 62),
  (0, 138, 1, 0, 0, [], .ireturn)]
def J_X2_removeFile_56 (fu : Nat) (s : Nat) (x1 : Int32) (M : xM) : Option (Int32 × xM) :=
  (F_X2_keptPages fu s M).bind fun p_1 =>
  (F_X2_mappedBits fu s x1 p_1.2).bind fun p_2 =>
  (F_J6_bitCount_0f7a4 fu p_2.1 p_2.2).bind fun p_3 =>
  (F_X2_partsOf fu (p_1.1 - p_3.1) p_3.2).bind fun p_4 =>
  (gR p_4.2 2 s 0).bind fun a_5 =>
  (gR p_4.2 2 s 4).bind fun a_6 =>
  if ((1 + p_4.1) + (gI p_4.2 7 a_6 2)) ≤ (gI p_4.2 0 a_5 3) then
    (F_X2_putNew fu s 2 x1 ((-1)) ((-1)) p_4.2).bind fun p_7 =>
    if ¬ p_7.1 = 0 then
      (gR p_7.2 2 s 8).bind fun a_8 =>
      gd (xin x1 (gN p_7.2 22 a_8)) <|
      if (gI p_7.2 22 a_8 (xi x1)) = 0 then
        (F_X2_unmap fu s x1 p_7.2).bind fun p_9 =>
        (some (gI p_9 2 s 10, p_9))
      else
        (gR p_7.2 2 s 9).bind fun a_10 =>
        gd (xin x1 (gN p_7.2 22 a_10)) <|
        gd (xbool 1) <|
        let M_11 := sI p_7.2 22 a_10 (xi x1) 1
        (some (gI M_11 2 s 10, M_11))
    else
      (some ((-2), p_7.2))
  else
    (some ((-1), p_4.2))
set_option maxRecDepth 100000 in
theorem q_X2_removeFile_56 (fu : Nat) (s : Nat) (x1 : Int32) (M : xM) :
    xrun pX2_removeFile flX2 koX2 nwX2 [(143, 5, 0, 0, w_X2_putNew fu), (153, 1, 0, 0, w_X2_keptPages fu), (156, 1, 0, 0, w_X2_partsOf fu), (193, 2, 0, 0, w_X2_mappedBits fu), (196, 1, 0, 0, w_J6_bitCount_0f7a4 fu), (201, 2, 0, 0, w_X2_unmap fu)] [] xrtI 78 (xat 56 pX2_removeFile) 0 0 [(0, .inr (.inr (2, some s))), (1, .inl x1)] [] M = J_X2_removeFile_56 fu s x1 M := rfl
def F_X2_removeFile (fu : Nat) (s : Nat) (x1 : Int32) (M : xM) : Option (Int32 × xM) :=
  if (gI M 2 s 1) = 0 then
    (some ((-1), M))
  else
    (gR M 2 s 4).bind fun a_1 =>
    (F_X7_isFile fu a_1 x1 M).bind fun p_2 =>
    if p_2.1 = 0 then
      (some ((-1), p_2.2))
    else
      (gR p_2.2 2 s 9).bind fun a_3 =>
      gd (xin x1 (gN p_2.2 22 a_3)) <|
      if ¬ (gI p_2.2 22 a_3 (xi x1)) = 0 then
        (some ((-1), p_2.2))
      else
        (F_X2_mappedBits fu s x1 p_2.2).bind fun p_4 =>
        if ¬ p_4.1 = 0 then
          (F_X2_wantsCollect fu s p_4.2).bind fun p_5 =>
          if p_5.1 = 0 then
            J_X2_removeFile_56 fu s x1 p_5.2
          else
            (F_X2_collectBlock fu s p_5.2).bind fun p_6 =>
            if ¬ p_6.1 = ((-2)) then
              J_X2_removeFile_56 fu s x1 p_6.2
            else
              (some ((-2), p_6.2))
        else
          (some ((-1), p_4.2))
set_option maxRecDepth 100000 in
theorem q_X2_removeFile (fu : Nat) (s : Nat) (x1 : Int32) (M : xM) :
    xrun pX2_removeFile flX2 koX2 nwX2 [(100, 1, 0, 0, w_X2_collectBlock fu), (131, 1, 0, 0, w_X2_wantsCollect fu), (190, 2, 0, 0, w_X7_isFile fu), (193, 2, 0, 0, w_X2_mappedBits fu)] [(56, fun bc bs ls st M => xz bc bs (lR ls 0 2 fun o => o.bind fun s => lI ls 1 fun x1 => xe st (J_X2_removeFile_56 fu s x1 M)))] xrtI 78 (xat 0 pX2_removeFile) 0 0 [(0, .inr (.inr (2, some s))), (1, .inl x1)] [] M = F_X2_removeFile fu s x1 M := rfl
def w_X2_removeFile (fu : Nat) {ρ : Type} (as : List xV) (M : xM) (k : Option xV → xM → Option ρ) : Option ρ := pR 2 as fun o as => o.bind fun s => pI as fun x1 as => xe as ((F_X2_removeFile fu s x1 M).bind fun p => k (some (.inl p.1)) p.2)
def pX2_openFile : List xE := [(0, 0, 1, 0, 0, [], .aload_n 0),
  (0, 1, 3, 0, 0, [], .getfield 47),
  (0, 4, 3, 27, 0, [], .ifCond .eq 23),
  (0, 7, 1, 0, 0, [], .aload_n 0),
  (0, 8, 3, 0, 0, [], .getfield 35),
  (0, 11, 1, 0, 0, [], .iload_n 1),
  (0, 12, 3, 0, 0, [], .invokevirtual 190),
  (0, 15, 3, 27, 0, [], .ifCond .eq 12),
  (0, 18, 1, 0, 0, [], .aload_n 0),
  (0, 19, 3, 0, 0, [], .getfield 22),
  (0, 22, 1, 0, 0, [], .iload_n 1),
  (0, 23, 1, 0, 0, [], .baload),
  (0, 24, 3, 29, 0, [], .ifCond .eq 5),
  (0, 27, 1, 0, 0, [], .iconst 0),
  (0, 28, 1, 0, 0, [], .ireturn),
  (0, 29, 1, 0, 0, [], .aload_n 0),
  (0, 30, 3, 0, 0, [], .getfield 22),
  (0, 33, 1, 0, 0, [], .iload_n 1),
  (0, 34, 1, 0, 1, [], .iconst 1),
  (0, 35, 1, 0, 0, [], .bastore),
  (0, 36, 1, 0, 1, [], .iconst 1),
  (0, 37, 1, 0, 0, [], .ireturn)]
def F_X2_openFile (fu : Nat) (s : Nat) (x1 : Int32) (M : xM) : Option (Int32 × xM) :=
  if (gI M 2 s 1) = 0 then
    gd (xbool 0) (some (0, M))
  else
    (gR M 2 s 4).bind fun a_1 =>
    (F_X7_isFile fu a_1 x1 M).bind fun p_2 =>
    if p_2.1 = 0 then
      gd (xbool 0) (some (0, p_2.2))
    else
      (gR p_2.2 2 s 8).bind fun a_3 =>
      gd (xin x1 (gN p_2.2 22 a_3)) <|
      if (gI p_2.2 22 a_3 (xi x1)) = 0 then
        (gR p_2.2 2 s 8).bind fun a_4 =>
        gd (xin x1 (gN p_2.2 22 a_4)) <|
        gd (xbool 1) <|
        let M_5 := sI p_2.2 22 a_4 (xi x1) 1
        gd (xbool 1) (some (1, M_5))
      else
        gd (xbool 0) (some (0, p_2.2))
set_option maxRecDepth 100000 in
theorem q_X2_openFile (fu : Nat) (s : Nat) (x1 : Int32) (M : xM) :
    xrun pX2_openFile flX2 koX2 nwX2 [(190, 2, 0, 0, w_X7_isFile fu)] [] xrtZ 24 (xat 0 pX2_openFile) 0 0 [(0, .inr (.inr (2, some s))), (1, .inl x1)] [] M = F_X2_openFile fu s x1 M := rfl
def w_X2_openFile (fu : Nat) {ρ : Type} (as : List xV) (M : xM) (k : Option xV → xM → Option ρ) : Option ρ := pR 2 as fun o as => o.bind fun s => pI as fun x1 as => xe as ((F_X2_openFile fu s x1 M).bind fun p => k (some (.inl p.1)) p.2)
def pX2_closeFile : List xE := [(0, 0, 1, 0, 0, [], .aload_n 0),
  (0, 1, 3, 0, 0, [], .getfield 47),
  (0, 4, 3, 27, 0, [], .ifCond .eq 23),
  (0, 7, 1, 0, 0, [], .aload_n 0),
  (0, 8, 3, 0, 0, [], .getfield 35),
  (0, 11, 1, 0, 0, [], .iload_n 1),
  (0, 12, 3, 0, 0, [], .invokevirtual 190),
  (0, 15, 3, 27, 0, [], .ifCond .eq 12),
  (0, 18, 1, 0, 0, [], .aload_n 0),
  (0, 19, 3, 0, 0, [], .getfield 22),
  (0, 22, 1, 0, 0, [], .iload_n 1),
  (0, 23, 1, 0, 0, [], .baload),
  (0, 24, 3, 29, 0, [], .ifCond .ne 5),
  (0, 27, 1, 0, 0, [], .iconst 0),
  (0, 28, 1, 0, 0, [], .ireturn),
  (0, 29, 1, 0, 0, [], .aload_n 0),
  (0, 30, 3, 0, 0, [], .getfield 22),
  (0, 33, 1, 0, 0, [], .iload_n 1),
  (0, 34, 1, 0, 0, [], .iconst 0),
  (0, 35, 1, 0, 0, [], .bastore),
  (0, 36, 1, 0, 0, [], .aload_n 0),
  (0, 37, 3, 0, 0, [], .getfield 26),
  (0, 40, 1, 0, 0, [], .iload_n 1),
  (0, 41, 1, 0, 0, [], .baload),
  (0, 42, 3, 57, 0, [], .ifCond .eq 15),
  (0, 45, 1, 0, 0, [], .aload_n 0),
  (0, 46, 3, 0, 0, [], .getfield 26),
  (0, 49, 1, 0, 0, [], .iload_n 1),
  (0, 50, 1, 0, 0, [], .iconst 0),
  (0, 51, 1, 0, 0, [], .bastore),
  (0, 52, 1, 0, 0, [], .aload_n 0),
  (0, 53, 1, 0, 0, [], .iload_n 1),
  (0, 54, 3, 0, 0, [], .invokevirtual 201),
  (0, 57, 1, 0, 1, [], .iconst 1),
  (0, 58, 1, 0, 0, [], .ireturn)]
def F_X2_closeFile (fu : Nat) (s : Nat) (x1 : Int32) (M : xM) : Option (Int32 × xM) :=
  if (gI M 2 s 1) = 0 then
    gd (xbool 0) (some (0, M))
  else
    (gR M 2 s 4).bind fun a_1 =>
    (F_X7_isFile fu a_1 x1 M).bind fun p_2 =>
    if p_2.1 = 0 then
      gd (xbool 0) (some (0, p_2.2))
    else
      (gR p_2.2 2 s 8).bind fun a_3 =>
      gd (xin x1 (gN p_2.2 22 a_3)) <|
      if ¬ (gI p_2.2 22 a_3 (xi x1)) = 0 then
        (gR p_2.2 2 s 8).bind fun a_4 =>
        gd (xin x1 (gN p_2.2 22 a_4)) <|
        gd (xbool 0) <|
        let M_5 := sI p_2.2 22 a_4 (xi x1) 0
        (gR M_5 2 s 9).bind fun a_6 =>
        gd (xin x1 (gN M_5 22 a_6)) <|
        if (gI M_5 22 a_6 (xi x1)) = 0 then
          gd (xbool 1) (some (1, M_5))
        else
          (gR M_5 2 s 9).bind fun a_7 =>
          gd (xin x1 (gN M_5 22 a_7)) <|
          gd (xbool 0) <|
          let M_8 := sI M_5 22 a_7 (xi x1) 0
          (F_X2_unmap fu s x1 M_8).bind fun p_9 =>
          gd (xbool 1) (some (1, p_9))
      else
        gd (xbool 0) (some (0, p_2.2))
set_option maxRecDepth 100000 in
theorem q_X2_closeFile (fu : Nat) (s : Nat) (x1 : Int32) (M : xM) :
    xrun pX2_closeFile flX2 koX2 nwX2 [(190, 2, 0, 0, w_X7_isFile fu), (201, 2, 0, 0, w_X2_unmap fu)] [] xrtZ 37 (xat 0 pX2_closeFile) 0 0 [(0, .inr (.inr (2, some s))), (1, .inl x1)] [] M = F_X2_closeFile fu s x1 M := rfl
def w_X2_closeFile (fu : Nat) {ρ : Type} (as : List xV) (M : xM) (k : Option xV → xM → Option ρ) : Option ρ := pR 2 as fun o as => o.bind fun s => pI as fun x1 as => xe as ((F_X2_closeFile fu s x1 M).bind fun p => k (some (.inl p.1)) p.2)
def pX2_act : List xE := [(0, 0, 1, 0, 0, [], .iload_n 1),
  (0, 1, 39, 109, 0, [(0, 40), (1, 57), (2, 71), (3, 77), (4, 83), (5, 96)], .tableswitch 108 0 5 #[39, 56, 70, 76, 82, 95]),
  (0, 40, 1, 0, 0, [], .aload_n 0),
  (0, 41, 1, 0, 0, [], .iload_n 2),
  (0, 42, 1, 0, 0, [], .iload_n 3),
  (0, 43, 2, 0, 0, [], .iload 4),
  (0, 45, 3, 0, 0, [], .invokevirtual 81),
  (0, 48, 3, 55, 0, [], .ifCond .lt 7),
  (0, 51, 1, 0, 1, [], .iconst 1),
  (0, 52, 3, 56, 0, [], .goto 4),
  (0, 55, 1, 0, 0, [], .iconst 0),
  (0, 56, 1, 0, 0, [], .ireturn),
  (0, 57, 1, 0, 0, [], .aload_n 0),
  (0, 58, 1, 0, 0, [], .iload_n 2),
  (0, 59, 3, 0, 0, [], .invokevirtual 85),
  (0, 62, 3, 69, 0, [], .ifCond .lt 7),
  (0, 65, 1, 0, 1, [], .iconst 1),
  (0, 66, 3, 70, 0, [], .goto 4),
  (0, 69, 1, 0, 0, [], .iconst 0),
  (0, 70, 1, 0, 0, [], .ireturn),
  (0, 71, 1, 0, 0, [], .aload_n 0),
  (0, 72, 1, 0, 0, [], .iload_n 2),
  (0, 73, 3, 0, 0, [], .invokevirtual 89),
  (0, 76, 1, 0, 0, [], .ireturn),
  (0, 77, 1, 0, 0, [], .aload_n 0),
  (0, 78, 1, 0, 0, [], .iload_n 2),
  (0, 79, 3, 0, 0, [], .invokevirtual 93),
  (0, 82, 1, 0, 0, [], .ireturn),
  (0, 83, 1, 0, 0, [], .aload_n 0),
  (0, 84, 3, 0, 0, [], .invokevirtual 96),
  (0, 87, 3, 94, 0, [], .ifCond .lt 7),
  (0, 90, 1, 0, 1, [], .iconst 1),
  (0, 91, 3, 95, 0, [], .goto 4),
  (0, 94, 1, 0, 0, [], .iconst 0),
  (0, 95, 1, 0, 0, [], .ireturn),
  (0, 96, 1, 0, 0, [], .aload_n 0),
  (0, 97, 3, 0, 0, [], .invokevirtual 100),
  (0, 100, 3, 107, 0, [], .ifCond .lt 7),
  (0, 103, 1, 0, 1, [], .iconst 1),
  (0, 104, 3, 108, 0, [], .goto 4),
  (0, 107, 1, 0, 0, [], .iconst 0),
  (0, 108, 1, 0, 0, [], .ireturn),
  (0, 109, 1, 0, 0, [], .iconst 0),
  (0, 110, 1, 0, 0, [], .ireturn)]
def F_X2_act (fu : Nat) (s : Nat) (x1 : Int32) (x2 : Int32) (x3 : Int32) (x4 : Int32) (M : xM) : Option (Int32 × xM) :=
  if x1 = 0 then
    (F_X2_writePage fu s x2 x3 x4 M).bind fun p_1 =>
    if p_1.1 < 0 then
      gd (xbool 0) (some (0, p_1.2))
    else
      gd (xbool 1) (some (1, p_1.2))
  else
  if x1 = 1 then
    (F_X2_removeFile fu s x2 M).bind fun p_2 =>
    if p_2.1 < 0 then
      gd (xbool 0) (some (0, p_2.2))
    else
      gd (xbool 1) (some (1, p_2.2))
  else
  if x1 = 2 then
    (F_X2_openFile fu s x2 M).bind fun p_3 =>
    gd (xbool p_3.1) (some (p_3.1, p_3.2))
  else
  if x1 = 3 then
    (F_X2_closeFile fu s x2 M).bind fun p_4 =>
    gd (xbool p_4.1) (some (p_4.1, p_4.2))
  else
  if x1 = 4 then
    (F_X2_commitPages fu s M).bind fun p_5 =>
    if p_5.1 < 0 then
      gd (xbool 0) (some (0, p_5.2))
    else
      gd (xbool 1) (some (1, p_5.2))
  else
  if x1 = 5 then
    (F_X2_collectBlock fu s M).bind fun p_6 =>
    if p_6.1 < 0 then
      gd (xbool 0) (some (0, p_6.2))
    else
      gd (xbool 1) (some (1, p_6.2))
  else
    gd (xbool 0) (some (0, M))
set_option maxRecDepth 100000 in
theorem q_X2_act (fu : Nat) (s : Nat) (x1 : Int32) (x2 : Int32) (x3 : Int32) (x4 : Int32) (M : xM) :
    xrun pX2_act flX2 koX2 nwX2 [(81, 4, 0, 0, w_X2_writePage fu), (85, 2, 0, 0, w_X2_removeFile fu), (89, 2, 0, 0, w_X2_openFile fu), (93, 2, 0, 0, w_X2_closeFile fu), (96, 1, 0, 0, w_X2_commitPages fu), (100, 1, 0, 0, w_X2_collectBlock fu)] [] xrtZ 46 (xat 0 pX2_act) 0 0 [(0, .inr (.inr (2, some s))), (1, .inl x1), (2, .inl x2), (3, .inl x3), (4, .inl x4)] [] M = F_X2_act fu s x1 x2 x3 x4 M := rfl
def w_X2_act (fu : Nat) {ρ : Type} (as : List xV) (M : xM) (k : Option xV → xM → Option ρ) : Option ρ := pR 2 as fun o as => o.bind fun s => pI as fun x1 as => pI as fun x2 as => pI as fun x3 as => pI as fun x4 as => xe as ((F_X2_act fu s x1 x2 x3 x4 M).bind fun p => k (some (.inl p.1)) p.2)
def pX3_mapOf : List xE := [(0, 0, 1, 0, 0, [], .iload_n 1),
  (0, 1, 3, 28, 0, [], .ifCond .lt 27),
  (0, 4, 1, 0, 0, [], .iload_n 1),
  (0, 5, 1, 0, 0, [], .aload_n 0),
  (0, 6, 3, 0, 0, [], .getfield 25),
  (0, 9, 3, 28, 0, [], .if_icmp .ge 19),
  (0, 12, 1, 0, 0, [], .iload_n 1),
  (0, 13, 3, 0, 288, [], .sipush 288),
  (0, 16, 3, 28, 0, [], .if_icmp .ge 12),
  (0, 19, 1, 0, 0, [], .aload_n 0),
  (0, 20, 3, 0, 0, [], .getfield 18),
  (0, 23, 1, 0, 0, [], .iload_n 1),
  (0, 24, 1, 0, 0, [], .iaload),
  (0, 25, 3, 29, 0, [], .goto 4),
  (0, 28, 1, 0, 0, [], .iconst 0),
  (0, 29, 1, 0, 0, [], .ireturn)]
def F_X3_mapOf (fu : Nat) (s : Nat) (x1 : Int32) (M : xM) : Option (Int32 × xM) :=
  if x1 < 0 then
    (some (0, M))
  else
    if (gI M 3 s 0) ≤ x1 then
      (some (0, M))
    else
      if 288 ≤ x1 then
        (some (0, M))
      else
        (gR M 3 s 4).bind fun a_1 =>
        gd (xin x1 (gN M 20 a_1)) <|
        (some (gI M 20 a_1 (xi x1), M))
set_option maxRecDepth 100000 in
theorem q_X3_mapOf (fu : Nat) (s : Nat) (x1 : Int32) (M : xM) :
    xrun pX3_mapOf flX3 koX3 nwX3 [] [] xrtI 18 (xat 0 pX3_mapOf) 0 0 [(0, .inr (.inr (3, some s))), (1, .inl x1)] [] M = F_X3_mapOf fu s x1 M := rfl
def w_X3_mapOf (fu : Nat) {ρ : Type} (as : List xV) (M : xM) (k : Option xV → xM → Option ρ) : Option ρ := pR 3 as fun o as => o.bind fun s => pI as fun x1 as => xe as ((F_X3_mapOf fu s x1 M).bind fun p => k (some (.inl p.1)) p.2)
def pX5_countHalfDone : List xE := [(0, 0, 1, 0, 0, [], .iload_n 1),
  (0, 1, 1, 0, 0, [], .istore_n 2),
  (1, 2, 1, 0, 0, [], .iload_n 2),
  (0, 3, 1, 0, 0, [], .aload_n 0),
  (0, 4, 3, 0, 0, [], .getfield 22),
  (0, 7, 3, 0, 0, [], .getfield 77),
  (0, 10, 3, 71, 0, [], .if_icmp .ge 61),
  (0, 13, 1, 0, 0, [], .aload_n 0),
  (0, 14, 3, 0, 0, [], .getfield 22),
  (0, 17, 1, 0, 0, [], .iload_n 2),
  (0, 18, 3, 0, 0, [], .invokevirtual 100),
  (0, 21, 1, 0, 0, [], .istore_n 3),
  (0, 22, 1, 0, 0, [], .aload_n 0),
  (0, 23, 3, 0, 0, [], .getfield 22),
  (0, 26, 1, 0, 0, [], .iload_n 3),
  (0, 27, 1, 0, 0, [], .aload_n 0),
  (0, 28, 3, 0, 0, [], .getfield 9),
  (0, 31, 3, 0, 0, [], .invokevirtual 104),
  (0, 34, 3, 65, 0, [], .ifCond .ne 31),
  (0, 37, 1, 0, 0, [], .aload_n 0),
  (0, 38, 3, 0, 0, [], .getfield 22),
  (0, 41, 1, 0, 0, [], .iload_n 3),
  (0, 42, 1, 0, 0, [], .aload_n 0),
  (0, 43, 3, 0, 0, [], .getfield 15),
  (0, 46, 3, 0, 0, [], .getfield 68),
  (0, 49, 3, 0, 0, [], .invokevirtual 104),
  (0, 52, 3, 65, 0, [], .ifCond .ne 13),
  (0, 55, 1, 0, 0, [], .aload_n 0),
  (0, 56, 1, 0, 0, [], .dup),
  (0, 57, 3, 0, 0, [], .getfield 50),
  (0, 60, 1, 0, 1, [], .iconst 1),
  (0, 61, 1, 0, 0, [], .iadd),
  (0, 62, 3, 0, 0, [], .putfield 50),
  (0, 65, 3, 0, 1, [], .iinc 2 1),
  (0, 68, 3, 2, 0, [], .goto (-66)),
  (0, 71, 1, 0, 0, [], .return_)]
def L_X5_countHalfDone_2 (fu : Nat) : Nat → Nat → Int32 → xM → Option xM
  | 0, _, _, _ => none
  | n + 1, s, x2, M =>
    (gR M 5 s 0).bind fun a_1 =>
    if (gI M 3 a_1 0) ≤ x2 then
      some M
    else
      (gR M 5 s 0).bind fun a_2 =>
      (F_X3_mapOf fu a_2 x2 M).bind fun p_3 =>
      (gR p_3.2 5 s 0).bind fun a_4 =>
      (F_X3_isAlike fu a_4 p_3.1 (gR p_3.2 5 s 4) p_3.2).bind fun p_5 =>
      if ¬ p_5.1 = 0 then
        L_X5_countHalfDone_2 fu n s (x2 + 1) p_5.2
      else
        (gR p_5.2 5 s 2).bind fun a_6 =>
        (gR p_5.2 5 s 0).bind fun a_7 =>
        (F_X3_isAlike fu a_7 p_3.1 (gR p_5.2 4 a_6 1) p_5.2).bind fun p_8 =>
        if ¬ p_8.1 = 0 then
          L_X5_countHalfDone_2 fu n s (x2 + 1) p_8.2
        else
          let M_9 := sI p_8.2 5 s 1 ((gI p_8.2 5 s 1) + 1)
          L_X5_countHalfDone_2 fu n s (x2 + 1) M_9
set_option maxRecDepth 100000 in
theorem q_X5_countHalfDone_2 (fu : Nat) (n : Nat) (s : Nat) (x2 : Int32) (M : xM) :
    xrun pX5_countHalfDone flX5 koX5 nwX5 [(100, 2, 0, 0, w_X3_mapOf fu), (104, 3, 0, 0, w_X3_isAlike fu)] [(2, fun bc bs ls st M => xz bc bs (lR ls 0 5 fun o => o.bind fun s => lI ls 2 fun x2 => xe st (L_X5_countHalfDone_2 fu n s x2 M)))] xrtV 38 (xat 2 pX5_countHalfDone) 0 0 [(0, .inr (.inr (5, some s))), (2, .inl x2)] [] M = L_X5_countHalfDone_2 fu (n + 1) s x2 M := rfl
def F_X5_countHalfDone (fu : Nat) (s : Nat) (x1 : Int32) (M : xM) : Option xM :=
  L_X5_countHalfDone_2 fu fu s x1 M
set_option maxRecDepth 100000 in
theorem q_X5_countHalfDone (fu : Nat) (s : Nat) (x1 : Int32) (M : xM) :
    xrun pX5_countHalfDone flX5 koX5 nwX5 [] [(2, fun bc bs ls st M => xz bc bs (lR ls 0 5 fun o => o.bind fun s => lI ls 2 fun x2 => xe st (L_X5_countHalfDone_2 fu fu s x2 M)))] xrtV 38 (xat 0 pX5_countHalfDone) 0 0 [(0, .inr (.inr (5, some s))), (1, .inl x1)] [] M = F_X5_countHalfDone fu s x1 M := rfl
def w_X5_countHalfDone (fu : Nat) {ρ : Type} (as : List xV) (M : xM) (k : Option xV → xM → Option ρ) : Option ρ := pR 5 as fun o as => o.bind fun s => pI as fun x1 as => xe as ((F_X5_countHalfDone fu s x1 M).bind fun p => k none p)
def pX5_run : List xE := [(0, 0, 1, 0, 0, [], .aload_n 0),
  (0, 1, 3, 0, 0, [], .getfield 35),
  (0, 4, 3, 8, 0, [], .ifCond .eq 4),
  (0, 7, 1, 0, 0, [], .return_),
  (0, 8, 1, 0, 0, [], .aload_n 0),
  (0, 9, 1, 0, 1, [], .iconst 1),
  (0, 10, 3, 0, 0, [], .putfield 35),
  (0, 13, 1, 0, 0, [], .aload_n 0),
  (0, 14, 3, 0, 0, [], .getfield 22),
  (0, 17, 3, 0, 0, [], .invokevirtual 39),
  (0, 20, 1, 0, 0, [], .aload_n 0),
  (0, 21, 3, 0, 0, [], .getfield 31),
  (0, 24, 1, 0, 0, [], .aload_n 1),
  (0, 25, 3, 0, 0, [], .invokevirtual 42),
  (0, 28, 1, 0, 0, [], .aload_n 0),
  (0, 29, 1, 0, (-1), [], .iconst (-1)),
  (0, 30, 3, 0, 0, [], .putfield 46),
  (0, 33, 1, 0, 0, [], .aload_n 0),
  (0, 34, 1, 0, 0, [], .iconst 0),
  (0, 35, 3, 0, 0, [], .putfield 50),
  (0, 38, 1, 0, 0, [], .aload_n 0),
  (0, 39, 3, 0, 0, [], .getfield 15),
  (0, 42, 1, 0, 0, [], .aload_n 0),
  (0, 43, 3, 0, 0, [], .getfield 31),
  (0, 46, 3, 0, 0, [], .getfield 53),
  (0, 49, 3, 0, 0, [], .invokevirtual 57),
  (0, 52, 1, 0, 0, [], .iconst 0),
  (0, 53, 1, 0, 0, [], .istore_n 3),
  (1, 54, 1, 0, 0, [], .iload_n 3),
  (0, 55, 1, 0, 0, [], .aload_n 2),
  (0, 56, 3, 0, 0, [], .getfield 63),
  (0, 59, 3, 171, 0, [], .if_icmp .ge 112),
  (0, 62, 1, 0, 0, [], .iload_n 3),
  (0, 63, 2, 0, 24, [], .bipush 24),
  (0, 65, 3, 171, 0, [], .if_icmp .ge 106),
  (0, 68, 1, 0, 0, [], .aload_n 0),
  (0, 69, 3, 0, 0, [], .getfield 15),
  (0, 72, 3, 0, 0, [], .getfield 68),
  (0, 75, 1, 0, 0, [], .iconst 0),
  (0, 76, 1, 0, 0, [], .aload_n 0),
  (0, 77, 3, 0, 0, [], .getfield 9),
  (0, 80, 1, 0, 0, [], .iconst 0),
  (0, 81, 2, 0, 20, [], .bipush 20),
  (0, 83, 3, 0, 0, [], .invokestatic 71),
  (0, 86, 1, 0, 0, [], .aload_n 0),
  (0, 87, 3, 0, 0, [], .getfield 22),
  (0, 90, 3, 0, 0, [], .getfield 77),
  (0, 93, 2, 0, 0, [], .istore 4),
  (0, 95, 1, 0, 0, [], .aload_n 0),
  (0, 96, 3, 0, 0, [], .getfield 31),
  (0, 99, 1, 0, 0, [], .aload_n 2),
  (0, 100, 3, 0, 0, [], .getfield 80),
  (0, 103, 1, 0, 0, [], .iload_n 3),
  (0, 104, 1, 0, 0, [], .iaload),
  (0, 105, 1, 0, 0, [], .aload_n 2),
  (0, 106, 3, 0, 0, [], .getfield 83),
  (0, 109, 1, 0, 0, [], .iload_n 3),
  (0, 110, 1, 0, 0, [], .iaload),
  (0, 111, 1, 0, 0, [], .aload_n 2),
  (0, 112, 3, 0, 0, [], .getfield 86),
  (0, 115, 1, 0, 0, [], .iload_n 3),
  (0, 116, 1, 0, 0, [], .iaload),
  (0, 117, 1, 0, 0, [], .aload_n 2),
  (0, 118, 3, 0, 0, [], .getfield 89),
  (0, 121, 1, 0, 0, [], .iload_n 3),
  (0, 122, 1, 0, 0, [], .iaload),
  (0, 123, 3, 0, 0, [], .invokevirtual 92),
  (0, 126, 2, 0, 0, [], .istore 5),
  (0, 128, 2, 0, 0, [], .iload 5),
  (0, 130, 3, 145, 0, [], .ifCond .ne 15),
  (0, 133, 1, 0, 0, [], .aload_n 0),
  (0, 134, 3, 0, 0, [], .getfield 46),
  (0, 137, 3, 145, 0, [], .ifCond .ge 8),
  (0, 140, 1, 0, 0, [], .aload_n 0),
  (0, 141, 1, 0, 0, [], .iload_n 3),
  (0, 142, 3, 0, 0, [], .putfield 46),
  (1, 145, 1, 0, 0, [], .aload_n 0),
  (0, 146, 3, 0, 0, [], .getfield 15),
  (0, 149, 1, 0, 0, [], .aload_n 0),
  (0, 150, 3, 0, 0, [], .getfield 31),
  (0, 153, 3, 0, 0, [], .getfield 53),
  (0, 156, 3, 0, 0, [], .invokevirtual 57),
  (0, 159, 1, 0, 0, [], .aload_n 0),
  (0, 160, 2, 0, 0, [], .iload 4),
  (0, 162, 3, 0, 0, [], .invokevirtual 96),
  (0, 165, 3, 0, 1, [], .iinc 3 1),
  (0, 168, 3, 54, 0, [], .goto (-114)),
  (1, 171, 1, 0, 0, [], .aload_n 0),
  (0, 172, 3, 0, 0, [], .getfield 15),
  (0, 175, 3, 0, 0, [], .getfield 68),
  (0, 178, 1, 0, 0, [], .iconst 0),
  (0, 179, 1, 0, 0, [], .aload_n 0),
  (0, 180, 3, 0, 0, [], .getfield 9),
  (0, 183, 1, 0, 0, [], .iconst 0),
  (0, 184, 2, 0, 20, [], .bipush 20),
  (0, 186, 3, 0, 0, [], .invokestatic 71),
  (0, 189, 1, 0, 0, [], .return_)]
def J_X5_run_171 (fu : Nat) (s : Nat) (M : xM) : Option xM :=
  (gR M 5 s 2).bind fun a_1 =>
  (gR M 4 a_1 1).bind fun a_2 =>
  (gR M 5 s 4).bind fun a_3 =>
  gd (xcpok 0 0 20 (gN M 20 a_2) (gN M 20 a_3)) <|
  let M_4 := cpI M 20 a_2 a_3 (xi 0) (xi 0) (xi 20)
  some M_4
set_option maxRecDepth 100000 in
theorem q_X5_run_171 (fu : Nat) (s : Nat) (M : xM) :
    xrun pX5_run flX5 koX5 nwX5 [(71, 5, 0, 0, w_arraycopy)] [] xrtV 99 (xat 171 pX5_run) 0 0 [(0, .inr (.inr (5, some s)))] [] M = J_X5_run_171 fu s M := rfl
def J_X5_run_145 (fu : Nat) (k54 : Nat → Option Nat → Int32 → xM → Option xM) (s : Nat) (x2 : Option Nat) (x3 : Int32) (x4 : Int32) (M : xM) : Option xM :=
  (gR M 5 s 3).bind fun a_1 =>
  (gR M 5 s 2).bind fun a_2 =>
  (F_X4_find fu a_2 (gR M 2 a_1 0) M).bind fun p_3 =>
  (F_X5_countHalfDone fu s x4 p_3).bind fun p_4 =>
  k54 s x2 (x3 + 1) p_4
set_option maxRecDepth 100000 in
theorem q_X5_run_145 (fu : Nat) (k54 : Nat → Option Nat → Int32 → xM → Option xM) (s : Nat) (x2 : Option Nat) (x3 : Int32) (x4 : Int32) (M : xM) :
    xrun pX5_run flX5 koX5 nwX5 [(57, 2, 0, 0, w_X4_find fu), (96, 2, 0, 0, w_X5_countHalfDone fu)] [(54, fun bc bs ls st M => xz bc bs (lR ls 0 5 fun o => o.bind fun s => lR ls 2 9 fun x2 => lI ls 3 fun x3 => xe st (k54 s x2 x3 M)))] xrtV 99 (xat 145 pX5_run) 0 0 [(0, .inr (.inr (5, some s))), (2, .inr (.inr (9, x2))), (3, .inl x3), (4, .inl x4)] [] M = J_X5_run_145 fu k54 s x2 x3 x4 M := rfl
def L_X5_run_54 (fu : Nat) : Nat → Nat → Option Nat → Int32 → xM → Option xM
  | 0, _, _, _, _ => none
  | n + 1, s, x2, x3, M =>
    x2.bind fun a_1 =>
    if (gI M 9 a_1 0) ≤ x3 then
      J_X5_run_171 fu s M
    else
      if 24 ≤ x3 then
        J_X5_run_171 fu s M
      else
        (gR M 5 s 2).bind fun a_2 =>
        (gR M 4 a_2 1).bind fun a_3 =>
        (gR M 5 s 4).bind fun a_4 =>
        gd (xcpok 0 0 20 (gN M 20 a_3) (gN M 20 a_4)) <|
        let M_5 := cpI M 20 a_3 a_4 (xi 0) (xi 0) (xi 20)
        (gR M_5 5 s 0).bind fun a_6 =>
        let x4_7 : Int32 := gI M_5 3 a_6 0
        x2.bind fun a_8 =>
        (gR M_5 9 a_8 1).bind fun a_9 =>
        gd (xin x3 (gN M_5 20 a_9)) <|
        x2.bind fun a_10 =>
        (gR M_5 9 a_10 2).bind fun a_11 =>
        gd (xin x3 (gN M_5 20 a_11)) <|
        x2.bind fun a_12 =>
        (gR M_5 9 a_12 3).bind fun a_13 =>
        gd (xin x3 (gN M_5 20 a_13)) <|
        x2.bind fun a_14 =>
        (gR M_5 9 a_14 4).bind fun a_15 =>
        gd (xin x3 (gN M_5 20 a_15)) <|
        (gR M_5 5 s 3).bind fun a_16 =>
        (F_X2_act fu a_16 (gI M_5 20 a_9 (xi x3)) (gI M_5 20 a_11 (xi x3)) (gI M_5 20 a_13 (xi x3)) (gI M_5 20 a_15 (xi x3)) M_5).bind fun p_17 =>
        if ¬ p_17.1 = 0 then
          J_X5_run_145 fu (L_X5_run_54 fu n) s x2 x3 x4_7 p_17.2
        else
          if 0 ≤ (gI p_17.2 5 s 6) then
            J_X5_run_145 fu (L_X5_run_54 fu n) s x2 x3 x4_7 p_17.2
          else
            let M_18 := sI p_17.2 5 s 6 x3
            J_X5_run_145 fu (L_X5_run_54 fu n) s x2 x3 x4_7 M_18
set_option maxRecDepth 100000 in
theorem q_X5_run_54 (fu : Nat) (n : Nat) (s : Nat) (x2 : Option Nat) (x3 : Int32) (M : xM) :
    xrun pX5_run flX5 koX5 nwX5 [(71, 5, 0, 0, w_arraycopy), (92, 5, 0, 0, w_X2_act fu)] [(145, fun bc bs ls st M => xz bc bs (lR ls 0 5 fun o => o.bind fun s => lR ls 2 9 fun x2 => lI ls 3 fun x3 => lI ls 4 fun x4 => xe st (J_X5_run_145 fu (L_X5_run_54 fu n) s x2 x3 x4 M))),
    (171, fun bc bs ls st M => xz bc bs (lR ls 0 5 fun o => o.bind fun s => xe st (J_X5_run_171 fu s M)))] xrtV 99 (xat 54 pX5_run) 0 0 [(0, .inr (.inr (5, some s))), (2, .inr (.inr (9, x2))), (3, .inl x3)] [] M = L_X5_run_54 fu (n + 1) s x2 x3 M := rfl
def F_X5_run (fu : Nat) (s : Nat) (x1 : Option Nat) (x2 : Option Nat) (M : xM) : Option xM :=
  if (gI M 5 s 5) = 0 then
    gd (xbool 1) <|
    let M_1 := sI M 5 s 5 1
    (gR M_1 5 s 0).bind fun a_2 =>
    (F_X3_clear fu a_2 M_1).bind fun p_3 =>
    (gR p_3 5 s 3).bind fun a_4 =>
    (F_X2_start fu a_4 x1 p_3).bind fun p_5 =>
    let M_6 := sI p_5 5 s 6 ((-1))
    let M_7 := sI M_6 5 s 1 0
    (gR M_7 5 s 3).bind fun a_8 =>
    (gR M_7 5 s 2).bind fun a_9 =>
    (F_X4_find fu a_9 (gR M_7 2 a_8 0) M_7).bind fun p_10 =>
    L_X5_run_54 fu fu s x2 0 p_10
  else
    some M
set_option maxRecDepth 100000 in
theorem q_X5_run (fu : Nat) (s : Nat) (x1 : Option Nat) (x2 : Option Nat) (M : xM) :
    xrun pX5_run flX5 koX5 nwX5 [(39, 1, 0, 0, w_X3_clear fu), (42, 2, 0, 0, w_X2_start fu), (57, 2, 0, 0, w_X4_find fu)] [(54, fun bc bs ls st M => xz bc bs (lR ls 0 5 fun o => o.bind fun s => lR ls 2 9 fun x2 => lI ls 3 fun x3 => xe st (L_X5_run_54 fu fu s x2 x3 M)))] xrtV 99 (xat 0 pX5_run) 0 0 [(0, .inr (.inr (5, some s))), (1, .inr (.inr (7, x1))), (2, .inr (.inr (9, x2)))] [] M = F_X5_run fu s x1 x2 M := rfl
def w_X5_run (fu : Nat) {ρ : Type} (as : List xV) (M : xM) (k : Option xV → xM → Option ρ) : Option ρ := pR 5 as fun o as => o.bind fun s => pR 7 as fun x1 as => pR 9 as fun x2 as => xe as ((F_X5_run fu s x1 x2 M).bind fun p => k none p)
def pX3_saysAt : List xE := [(0, 0, 1, 0, 0, [], .aload_n 0),
  (0, 1, 3, 0, 0, [], .getfield 11),
  (0, 4, 1, 0, 0, [], .aload_n 0),
  (0, 5, 1, 0, 0, [], .iload_n 1),
  (0, 6, 3, 0, 0, [], .invokevirtual 42),
  (0, 9, 2, 0, 20, [], .bipush 20),
  (0, 11, 1, 0, 0, [], .imul),
  (0, 12, 1, 0, 0, [], .iload_n 2),
  (0, 13, 1, 0, 0, [], .iadd),
  (0, 14, 1, 0, 0, [], .iaload),
  (0, 15, 1, 0, 0, [], .ireturn)]
def F_X3_saysAt (fu : Nat) (s : Nat) (x1 : Int32) (x2 : Int32) (M : xM) : Option (Int32 × xM) :=
  (F_X3_mapOf fu s x1 M).bind fun p_1 =>
  (gR M 3 s 2).bind fun a_2 =>
  gd (xin ((p_1.1 * 20) + x2) (gN p_1.2 20 a_2)) <|
  (some (gI p_1.2 20 a_2 (xi ((p_1.1 * 20) + x2)), p_1.2))
set_option maxRecDepth 100000 in
theorem q_X3_saysAt (fu : Nat) (s : Nat) (x1 : Int32) (x2 : Int32) (M : xM) :
    xrun pX3_saysAt flX3 koX3 nwX3 [(42, 2, 0, 0, w_X3_mapOf fu)] [] xrtI 13 (xat 0 pX3_saysAt) 0 0 [(0, .inr (.inr (3, some s))), (1, .inl x1), (2, .inl x2)] [] M = F_X3_saysAt fu s x1 x2 M := rfl
def w_X3_saysAt (fu : Nat) {ρ : Type} (as : List xV) (M : xM) (k : Option xV → xM → Option ρ) : Option ρ := pR 3 as fun o as => o.bind fun s => pI as fun x1 as => pI as fun x2 as => xe as ((F_X3_saysAt fu s x1 x2 M).bind fun p => k (some (.inl p.1)) p.2)
def pX5_saysAfter : List xE := [(0, 0, 1, 0, 0, [], .iload_n 1),
  (0, 1, 1, 0, 0, [], .aload_n 0),
  (0, 2, 3, 0, 0, [], .getfield 22),
  (0, 5, 3, 0, 0, [], .getfield 77),
  (0, 8, 3, 25, 0, [], .if_icmp .gt 17),
  (0, 11, 1, 0, 0, [], .aload_n 0),
  (0, 12, 3, 0, 0, [], .getfield 22),
  (0, 15, 1, 0, 0, [], .iload_n 1),
  (0, 16, 1, 0, 1, [], .iconst 1),
  (0, 17, 1, 0, 0, [], .isub),
  (0, 18, 1, 0, 0, [], .iload_n 2),
  (0, 19, 3, 0, 0, [], .invokevirtual 116),
  (0, 22, 3, 31, 0, [], .goto 9),
  (0, 25, 1, 0, 0, [], .aload_n 0),
  (0, 26, 3, 0, 0, [], .getfield 9),
  (0, 29, 1, 0, 0, [], .iload_n 2),
  (0, 30, 1, 0, 0, [], .iaload),
  (0, 31, 1, 0, 0, [], .ireturn)]
def F_X5_saysAfter (fu : Nat) (s : Nat) (x1 : Int32) (x2 : Int32) (M : xM) : Option (Int32 × xM) :=
  (gR M 5 s 0).bind fun a_1 =>
  if (gI M 3 a_1 0) < x1 then
    (gR M 5 s 4).bind fun a_2 =>
    gd (xin x2 (gN M 20 a_2)) <|
    (some (gI M 20 a_2 (xi x2), M))
  else
    (gR M 5 s 0).bind fun a_3 =>
    (F_X3_saysAt fu a_3 (x1 - 1) x2 M).bind fun p_4 =>
    (some (p_4.1, p_4.2))
set_option maxRecDepth 100000 in
theorem q_X5_saysAfter (fu : Nat) (s : Nat) (x1 : Int32) (x2 : Int32) (M : xM) :
    xrun pX5_saysAfter flX5 koX5 nwX5 [(116, 3, 0, 0, w_X3_saysAt fu)] [] xrtI 20 (xat 0 pX5_saysAfter) 0 0 [(0, .inr (.inr (5, some s))), (1, .inl x1), (2, .inl x2)] [] M = F_X5_saysAfter fu s x1 x2 M := rfl
def w_X5_saysAfter (fu : Nat) {ρ : Type} (as : List xV) (M : xM) (k : Option xV → xM → Option ρ) : Option ρ := pR 5 as fun o as => o.bind fun s => pI as fun x1 as => pI as fun x2 as => xe as ((F_X5_saysAfter fu s x1 x2 M).bind fun p => k (some (.inl p.1)) p.2)
def pX11_after : List xE := [(0, 0, 1, 0, 0, [], .iload_n 1),
  (0, 1, 1, 0, 1, [], .iconst 1),
  (0, 2, 3, 24, 0, [], .if_icmp .lt 22),
  (0, 5, 1, 0, 0, [], .iload_n 1),
  (0, 6, 3, 0, 200, [], .sipush 200),
  (0, 9, 3, 24, 0, [], .if_icmp .gt 15),
  (0, 12, 1, 0, 0, [], .aload_n 0),
  (0, 13, 3, 0, 0, [], .getfield 19),
  (0, 16, 1, 0, 0, [], .iload_n 2),
  (0, 17, 1, 0, 0, [], .iload_n 3),
  (0, 18, 3, 0, 0, [], .invokevirtual 213),
  (0, 21, 3, 27, 0, [], .ifCond .ne 6),
  (0, 24, 2, 0, (-2), [], .bipush (-2)),
  (0, 26, 1, 0, 0, [], .ireturn),
  (0, 27, 1, 0, 0, [], .aload_n 0),
  (0, 28, 3, 0, 0, [], .getfield 67),
  (0, 31, 1, 0, 0, [], .aload_n 0),
  (0, 32, 3, 0, 0, [], .getfield 19),
  (0, 35, 1, 0, 0, [], .aload_n 0),
  (0, 36, 3, 0, 0, [], .getfield 29),
  (0, 39, 3, 0, 0, [], .invokevirtual 207),
  (0, 42, 1, 0, 0, [], .aload_n 0),
  (0, 43, 3, 0, 0, [], .getfield 67),
  (0, 46, 1, 0, 0, [], .iload_n 1),
  (0, 47, 1, 0, 0, [], .iload_n 2),
  (0, 48, 1, 0, 4, [], .iconst 4),
  (0, 49, 1, 0, 0, [], .imul),
  (0, 50, 1, 0, 0, [], .iload_n 3),
  (0, 51, 1, 0, 0, [], .iadd),
  (0, 52, 3, 0, 0, [], .invokevirtual 282),
  (0, 55, 1, 0, 0, [], .ireturn)]
def F_X11_after (fu : Nat) (s : Nat) (x1 : Int32) (x2 : Int32) (x3 : Int32) (M : xM) : Option (Int32 × xM) :=
  if x1 < 1 then
    (some ((-2), M))
  else
    if 200 < x1 then
      (some ((-2), M))
    else
      (gR M 11 s 1).bind fun a_1 =>
      (F_X7_isPage fu a_1 x2 x3 M).bind fun p_2 =>
      if ¬ p_2.1 = 0 then
        (gR p_2.2 11 s 9).bind fun a_3 =>
        (F_X5_run fu a_3 (gR p_2.2 11 s 1) (gR p_2.2 11 s 3) p_2.2).bind fun p_4 =>
        (gR p_4 11 s 9).bind fun a_5 =>
        (F_X5_saysAfter fu a_5 x1 ((x2 * 4) + x3) p_4).bind fun p_6 =>
        (some (p_6.1, p_6.2))
      else
        (some ((-2), p_2.2))
set_option maxRecDepth 100000 in
theorem q_X11_after (fu : Nat) (s : Nat) (x1 : Int32) (x2 : Int32) (x3 : Int32) (M : xM) :
    xrun pX11_after flX11 koX11 nwX11 [(207, 3, 0, 0, w_X5_run fu), (213, 3, 0, 0, w_X7_isPage fu), (282, 3, 0, 0, w_X5_saysAfter fu)] [] xrtI 33 (xat 0 pX11_after) 0 0 [(0, .inr (.inr (11, some s))), (1, .inl x1), (2, .inl x2), (3, .inl x3)] [] M = F_X11_after fu s x1 x2 x3 M := rfl
def w_X11_after (fu : Nat) {ρ : Type} (as : List xV) (M : xM) (k : Option xV → xM → Option ρ) : Option ρ := pR 11 as fun o as => o.bind fun s => pI as fun x1 as => pI as fun x2 as => pI as fun x3 as => xe as ((F_X11_after fu s x1 x2 x3 M).bind fun p => k (some (.inl p.1)) p.2)
def pX2_copyFrom : List xE := [(0, 0, 1, 0, 0, [], .aload_n 0),
  (0, 1, 1, 0, 0, [], .aload_n 1),
  (0, 2, 3, 0, 0, [], .getfield 35),
  (0, 5, 3, 0, 0, [], .putfield 35),
  (0, 8, 1, 0, 0, [], .aload_n 0),
  (0, 9, 1, 0, 0, [], .aload_n 1),
  (0, 10, 3, 0, 0, [], .getfield 47),
  (0, 13, 3, 0, 0, [], .putfield 47),
  (0, 16, 1, 0, 0, [], .aload_n 0),
  (0, 17, 1, 0, 0, [], .aload_n 1),
  (0, 18, 3, 0, 0, [], .getfield 55),
  (0, 21, 3, 0, 0, [], .putfield 55),
  (0, 24, 1, 0, 0, [], .aload_n 0),
  (0, 25, 1, 0, 0, [], .aload_n 1),
  (0, 26, 3, 0, 0, [], .getfield 59),
  (0, 29, 3, 0, 0, [], .putfield 59),
  (0, 32, 1, 0, 0, [], .aload_n 0),
  (0, 33, 1, 0, 0, [], .aload_n 1),
  (0, 34, 3, 0, 0, [], .getfield 62),
  (0, 37, 3, 0, 0, [], .putfield 62),
  (0, 40, 1, 0, 0, [], .aload_n 0),
  (0, 41, 3, 0, 0, [], .getfield 12),
  (0, 44, 1, 0, 0, [], .aload_n 1),
  (0, 45, 3, 0, 0, [], .getfield 12),
  (0, 48, 3, 0, 0, [], .invokevirtual 71),
  (0, 51, 1, 0, 0, [], .aload_n 1),
  (0, 52, 3, 0, 0, [], .getfield 18),
  (0, 55, 1, 0, 0, [], .iconst 0),
  (0, 56, 1, 0, 0, [], .aload_n 0),
  (0, 57, 3, 0, 0, [], .getfield 18),
  (0, 60, 1, 0, 0, [], .iconst 0),
  (0, 61, 2, 0, 20, [], .bipush 20),
  (0, 63, 3, 0, 0, [], .invokestatic 75),
  (0, 66, 1, 0, 0, [], .aload_n 1),
  (0, 67, 3, 0, 0, [], .getfield 22),
  (0, 70, 1, 0, 0, [], .iconst 0),
  (0, 71, 1, 0, 0, [], .aload_n 0),
  (0, 72, 3, 0, 0, [], .getfield 22),
  (0, 75, 1, 0, 0, [], .iconst 0),
  (0, 76, 1, 0, 5, [], .iconst 5),
  (0, 77, 3, 0, 0, [], .invokestatic 75),
  (0, 80, 1, 0, 0, [], .aload_n 1),
  (0, 81, 3, 0, 0, [], .getfield 26),
  (0, 84, 1, 0, 0, [], .iconst 0),
  (0, 85, 1, 0, 0, [], .aload_n 0),
  (0, 86, 3, 0, 0, [], .getfield 26),
  (0, 89, 1, 0, 0, [], .iconst 0),
  (0, 90, 1, 0, 5, [], .iconst 5),
  (0, 91, 3, 0, 0, [], .invokestatic 75),
  (0, 94, 1, 0, 0, [], .aload_n 0),
  (0, 95, 1, 0, 0, [], .iconst 0),
  (0, 96, 3, 0, 0, [], .putfield 68),
  (0, 99, 1, 0, 0, [], .return_)]
def F_X2_copyFrom (fu : Nat) (s : Nat) (x1 : Option Nat) (M : xM) : Option xM :=
  x1.bind fun a_1 =>
  let M_2 := sR M 2 s 4 (gR M 2 a_1 4)
  x1.bind fun a_3 =>
  gd (xbool (gI M_2 2 a_3 1)) <|
  let M_4 := sI M_2 2 s 1 (gI M_2 2 a_3 1)
  x1.bind fun a_5 =>
  let M_6 := sI M_4 2 s 2 (gI M_4 2 a_5 2)
  x1.bind fun a_7 =>
  let M_8 := sI M_6 2 s 3 (gI M_6 2 a_7 3)
  x1.bind fun a_9 =>
  let M_10 := sI M_8 2 s 10 (gI M_8 2 a_9 10)
  x1.bind fun a_11 =>
  (gR M_10 2 s 0).bind fun a_12 =>
  (F_X0_copyFrom fu a_12 (gR M_10 2 a_11 0) M_10).bind fun p_13 =>
  x1.bind fun a_14 =>
  (gR p_13 2 a_14 7).bind fun a_15 =>
  (gR p_13 2 s 7).bind fun a_16 =>
  gd (xcpok 0 0 20 (gN p_13 20 a_15) (gN p_13 20 a_16)) <|
  let M_17 := cpI p_13 20 a_15 a_16 (xi 0) (xi 0) (xi 20)
  x1.bind fun a_18 =>
  (gR M_17 2 a_18 8).bind fun a_19 =>
  (gR M_17 2 s 8).bind fun a_20 =>
  gd (xcpok 0 0 5 (gN M_17 22 a_19) (gN M_17 22 a_20)) <|
  let M_21 := cpI M_17 22 a_19 a_20 (xi 0) (xi 0) (xi 5)
  x1.bind fun a_22 =>
  (gR M_21 2 a_22 9).bind fun a_23 =>
  (gR M_21 2 s 9).bind fun a_24 =>
  gd (xcpok 0 0 5 (gN M_21 22 a_23) (gN M_21 22 a_24)) <|
  let M_25 := cpI M_21 22 a_23 a_24 (xi 0) (xi 0) (xi 5)
  gd (xbool 0) <|
  let M_26 := sI M_25 2 s 11 0
  some M_26
set_option maxRecDepth 100000 in
theorem q_X2_copyFrom (fu : Nat) (s : Nat) (x1 : Option Nat) (M : xM) :
    xrun pX2_copyFrom flX2 koX2 nwX2 [(71, 2, 0, 0, w_X0_copyFrom fu), (75, 5, 0, 0, w_arraycopy)] [] xrtV 55 (xat 0 pX2_copyFrom) 0 0 [(0, .inr (.inr (2, some s))), (1, .inr (.inr (2, x1)))] [] M = F_X2_copyFrom fu s x1 M := rfl
def w_X2_copyFrom (fu : Nat) {ρ : Type} (as : List xV) (M : xM) (k : Option xV → xM → Option ρ) : Option ρ := pR 2 as fun o as => o.bind fun s => pR 2 as fun x1 as => xe as ((F_X2_copyFrom fu s x1 M).bind fun p => k none p)
def pX11_tryFromNow : List xE := [(0, 0, 1, 0, 0, [], .aload_n 0),
  (0, 1, 3, 0, 0, [], .getfield 52),
  (0, 4, 1, 0, 0, [], .aload_n 0),
  (0, 5, 3, 0, 0, [], .getfield 48),
  (0, 8, 3, 0, 0, [], .invokevirtual 249),
  (0, 11, 1, 0, 0, [], .aload_n 0),
  (0, 12, 3, 0, 0, [], .getfield 52),
  (0, 15, 1, 0, 0, [], .iconst 0),
  (0, 16, 3, 0, 0, [], .putfield 253),
  (0, 19, 1, 0, 0, [], .return_)]
def F_X11_tryFromNow (fu : Nat) (s : Nat) (M : xM) : Option xM :=
  (gR M 11 s 7).bind fun a_1 =>
  (F_X2_copyFrom fu a_1 (gR M 11 s 6) M).bind fun p_2 =>
  (gR p_2 11 s 7).bind fun a_3 =>
  let M_4 := sI p_2 2 a_3 2 0
  some M_4
set_option maxRecDepth 100000 in
theorem q_X11_tryFromNow (fu : Nat) (s : Nat) (M : xM) :
    xrun pX11_tryFromNow flX11 koX11 nwX11 [(249, 2, 0, 0, w_X2_copyFrom fu)] [] xrtV 12 (xat 0 pX11_tryFromNow) 0 0 [(0, .inr (.inr (11, some s)))] [] M = F_X11_tryFromNow fu s M := rfl
def w_X11_tryFromNow (fu : Nat) {ρ : Type} (as : List xV) (M : xM) (k : Option xV → xM → Option ρ) : Option ρ := pR 11 as fun o as => o.bind fun s => xe as ((F_X11_tryFromNow fu s M).bind fun p => k none p)
def pX6_drawBelow : List xE := [(0, 0, 1, 0, 0, [], .aload_n 0),
  (0, 1, 1, 0, 0, [], .aload_n 0),
  (0, 2, 3, 0, 0, [], .getfield 9),
  (0, 5, 3, 0, 0, [], .ldc2_w 15),
  (0, 8, 1, 0, 0, [], .lmul),
  (0, 9, 3, 0, 0, [], .ldc2_w 17),
  (0, 12, 1, 0, 0, [], .ladd),
  (0, 13, 3, 0, 0, [], .ldc2_w 19),
  (0, 16, 1, 0, 0, [], .lrem),
  (0, 17, 3, 0, 0, [], .putfield 9),
  (0, 20, 1, 0, 0, [], .iload_n 1),
  (0, 21, 3, 39, 0, [], .ifCond .le 18),
  (0, 24, 1, 0, 0, [], .aload_n 0),
  (0, 25, 3, 0, 0, [], .getfield 9),
  (0, 28, 3, 0, 0, [], .ldc2_w 21),
  (0, 31, 1, 0, 0, [], .ldiv),
  (0, 32, 1, 0, 0, [], .iload_n 1),
  (0, 33, 1, 0, 0, [], .i2l),
  (0, 34, 1, 0, 0, [], .lrem),
  (0, 35, 1, 0, 0, [], .l2i),
  (0, 36, 3, 40, 0, [], .goto 4),
  (0, 39, 1, 0, 0, [], .iconst 0),
  (0, 40, 1, 0, 0, [], .ireturn)]
def F_X6_drawBelow (fu : Nat) (s : Nat) (x1 : Int32) (M : xM) : Option (Int32 × xM) :=
  gd (!((2147483648 : Int64) == 0)) <|
  let M_1 := sL M 6 s 0 ((((gL M 6 s 0) * 1103515245) + 12345) - (((gL M 6 s 0) * 1103515245) + 12345) / 2147483648 * 2147483648)
  if x1 ≤ 0 then
    (some (0, M_1))
  else
    gd (!((65536 : Int64) == 0)) <|
    gd (!((Int32.toInt64 x1 : Int64) == 0)) <|
    (some (Int64.toInt32 (((gL M_1 6 s 0) / 65536) - ((gL M_1 6 s 0) / 65536) / (Int32.toInt64 x1) * (Int32.toInt64 x1)), M_1))
set_option maxRecDepth 100000 in
theorem q_X6_drawBelow (fu : Nat) (s : Nat) (x1 : Int32) (M : xM) :
    xrun pX6_drawBelow flX6 koX6 nwX6 [] [] xrtI 25 (xat 0 pX6_drawBelow) 0 0 [(0, .inr (.inr (6, some s))), (1, .inl x1)] [] M = F_X6_drawBelow fu s x1 M := rfl
def w_X6_drawBelow (fu : Nat) {ρ : Type} (as : List xV) (M : xM) (k : Option xV → xM → Option ρ) : Option ρ := pR 6 as fun o as => o.bind fun s => pI as fun x1 as => xe as ((F_X6_drawBelow fu s x1 M).bind fun p => k (some (.inl p.1)) p.2)
def pX2_isOpen : List xE := [(0, 0, 1, 0, 0, [], .aload_n 0),
  (0, 1, 3, 0, 0, [], .getfield 22),
  (0, 4, 1, 0, 0, [], .iload_n 1),
  (0, 5, 1, 0, 0, [], .baload),
  (0, 6, 1, 0, 0, [], .ireturn)]
def F_X2_isOpen (fu : Nat) (s : Nat) (x1 : Int32) (M : xM) : Option (Int32 × xM) :=
  (gR M 2 s 8).bind fun a_1 =>
  gd (xin x1 (gN M 22 a_1)) <|
  gd (xbool (gI M 22 a_1 (xi x1))) (some (gI M 22 a_1 (xi x1), M))
set_option maxRecDepth 100000 in
theorem q_X2_isOpen (fu : Nat) (s : Nat) (x1 : Int32) (M : xM) :
    xrun pX2_isOpen flX2 koX2 nwX2 [] [] xrtZ 7 (xat 0 pX2_isOpen) 0 0 [(0, .inr (.inr (2, some s))), (1, .inl x1)] [] M = F_X2_isOpen fu s x1 M := rfl
def w_X2_isOpen (fu : Nat) {ρ : Type} (as : List xV) (M : xM) (k : Option xV → xM → Option ρ) : Option ρ := pR 2 as fun o as => o.bind fun s => pI as fun x1 as => xe as ((F_X2_isOpen fu s x1 M).bind fun p => k (some (.inl p.1)) p.2)
def pX6_actOf : List xE := [(0, 0, 1, 0, 0, [], .iload_n 0),
  (0, 1, 31, 48, 0, [(4, 32), (5, 34), (6, 44), (7, 46)], .tableswitch 47 4 7 #[31, 33, 43, 45]),
  (0, 32, 1, 0, 1, [], .iconst 1),
  (0, 33, 1, 0, 0, [], .ireturn),
  (0, 34, 1, 0, 0, [], .iload_n 1),
  (0, 35, 3, 42, 0, [], .ifCond .eq 7),
  (0, 38, 1, 0, 3, [], .iconst 3),
  (0, 39, 3, 43, 0, [], .goto 4),
  (0, 42, 1, 0, 2, [], .iconst 2),
  (0, 43, 1, 0, 0, [], .ireturn),
  (0, 44, 1, 0, 4, [], .iconst 4),
  (0, 45, 1, 0, 0, [], .ireturn),
  (0, 46, 1, 0, 5, [], .iconst 5),
  (0, 47, 1, 0, 0, [], .ireturn),
  (0, 48, 1, 0, 0, [], .iconst 0),
  (0, 49, 1, 0, 0, [], .ireturn)]
def F_X6_actOf (fu : Nat) (x0 : Int32) (x1 : Int32) (M : xM) : Option (Int32 × xM) :=
  if x0 = 4 then
    (some (1, M))
  else
  if x0 = 5 then
    if x1 = 0 then
      (some (2, M))
    else
      (some (3, M))
  else
  if x0 = 6 then
    (some (4, M))
  else
  if x0 = 7 then
    (some (5, M))
  else
    (some (0, M))
set_option maxRecDepth 100000 in
theorem q_X6_actOf (fu : Nat) (x0 : Int32) (x1 : Int32) (M : xM) :
    xrun pX6_actOf flX6 koX6 nwX6 [] [] xrtI 18 (xat 0 pX6_actOf) 0 0 [(0, .inl x0), (1, .inl x1)] [] M = F_X6_actOf fu x0 x1 M := rfl
def w_X6_actOf (fu : Nat) {ρ : Type} (as : List xV) (M : xM) (k : Option xV → xM → Option ρ) : Option ρ := pI as fun x0 as => pI as fun x1 as => xe as ((F_X6_actOf fu x0 x1 M).bind fun p => k (some (.inl p.1)) p.2)
def pX6_run : List xE := [(0, 0, 1, 0, 0, [], .aload_n 0),
  (0, 1, 1, 0, 0, [], .iload_n 2),
  (0, 2, 1, 0, 0, [], .i2l),
  (0, 3, 3, 0, 0, [], .putfield 9),
  (0, 6, 1, 0, 0, [], .aload_n 1),
  (0, 7, 3, 0, 0, [], .getfield 23),
  (0, 10, 3, 0, 0, [], .getfield 29),
  (0, 13, 2, 0, 0, [], .istore 4),
  (0, 15, 1, 0, 0, [], .iconst 0),
  (0, 16, 2, 0, 0, [], .istore 5),
  (0, 18, 1, 0, 0, [], .iconst 0),
  (0, 19, 2, 0, 0, [], .istore 6),
  (1, 21, 2, 0, 0, [], .iload 6),
  (0, 23, 1, 0, 0, [], .iload_n 3),
  (0, 24, 3, 128, 0, [], .if_icmp .ge 104),
  (0, 27, 2, 0, 0, [], .iload 4),
  (0, 29, 3, 128, 0, [], .ifCond .le 99),
  (0, 32, 1, 0, 0, [], .aload_n 0),
  (0, 33, 2, 0, 8, [], .bipush 8),
  (0, 35, 3, 0, 0, [], .invokevirtual 35),
  (0, 38, 2, 0, 0, [], .istore 7),
  (0, 40, 2, 0, 0, [], .iload 7),
  (0, 42, 2, 0, 6, [], .bipush 6),
  (0, 44, 3, 56, 0, [], .if_icmp .ge 12),
  (0, 47, 1, 0, 0, [], .aload_n 0),
  (0, 48, 2, 0, 0, [], .iload 4),
  (0, 50, 3, 0, 0, [], .invokevirtual 35),
  (0, 53, 3, 57, 0, [], .goto 4),
  (0, 56, 1, 0, 0, [], .iconst 0),
  (1, 57, 2, 0, 0, [], .istore 8),
  (0, 59, 2, 0, 0, [], .iload 7),
  (0, 61, 1, 0, 4, [], .iconst 4),
  (0, 62, 3, 73, 0, [], .if_icmp .ge 11),
  (0, 65, 1, 0, 0, [], .aload_n 0),
  (0, 66, 1, 0, 4, [], .iconst 4),
  (0, 67, 3, 0, 0, [], .invokevirtual 35),
  (0, 70, 3, 74, 0, [], .goto 4),
  (0, 73, 1, 0, 0, [], .iconst 0),
  (1, 74, 2, 0, 0, [], .istore 9),
  (0, 76, 2, 0, 0, [], .iload 7),
  (0, 78, 1, 0, 4, [], .iconst 4),
  (0, 79, 3, 92, 0, [], .if_icmp .ge 13),
  (0, 82, 1, 0, 0, [], .aload_n 0),
  (0, 83, 3, 0, 256, [], .sipush 256),
  (0, 86, 3, 0, 0, [], .invokevirtual 35),
  (0, 89, 3, 93, 0, [], .goto 4),
  (0, 92, 1, 0, 0, [], .iconst 0),
  (1, 93, 2, 0, 0, [], .istore 10),
  (0, 95, 1, 0, 0, [], .aload_n 1),
  (0, 96, 2, 0, 0, [], .iload 7),
  (0, 98, 1, 0, 0, [], .aload_n 1),
  (0, 99, 2, 0, 0, [], .iload 8),
  (0, 101, 3, 0, 0, [], .invokevirtual 39),
  (0, 104, 3, 0, 0, [], .invokestatic 43),
  (0, 107, 2, 0, 0, [], .iload 8),
  (0, 109, 2, 0, 0, [], .iload 9),
  (0, 111, 2, 0, 0, [], .iload 10),
  (0, 113, 3, 0, 0, [], .invokevirtual 47),
  (0, 116, 3, 122, 0, [], .ifCond .eq 6),
  (0, 119, 3, 0, 1, [], .iinc 5 1),
  (0, 122, 3, 0, 1, [], .iinc 6 1),
  (0, 125, 3, 21, 0, [], .goto (-104)),
  (0, 128, 2, 0, 0, [], .iload 5),
  (0, 130, 1, 0, 0, [], .ireturn)]
def J_X6_run_93 (fu : Nat) (k21 : Nat → Option Nat → Int32 → Int32 → Int32 → Int32 → xM → Option (Int32 × xM)) (s : Nat) (x1 : Option Nat) (x3 : Int32) (x4 : Int32) (x5 : Int32) (x6 : Int32) (x7 : Int32) (x8 : Int32) (x9 : Int32) (y0 : Int32) (M : xM) : Option (Int32 × xM) :=
  x1.bind fun a_1 =>
  (F_X2_isOpen fu a_1 x8 M).bind fun p_2 =>
  (F_X6_actOf fu x7 p_2.1 p_2.2).bind fun p_3 =>
  x1.bind fun a_4 =>
  (F_X2_act fu a_4 p_3.1 x8 x9 y0 p_3.2).bind fun p_5 =>
  if p_5.1 = 0 then
    k21 s x1 x3 x4 x5 (x6 + 1) p_5.2
  else
    k21 s x1 x3 x4 (x5 + 1) (x6 + 1) p_5.2
set_option maxRecDepth 100000 in
theorem q_X6_run_93 (fu : Nat) (k21 : Nat → Option Nat → Int32 → Int32 → Int32 → Int32 → xM → Option (Int32 × xM)) (s : Nat) (x1 : Option Nat) (x3 : Int32) (x4 : Int32) (x5 : Int32) (x6 : Int32) (x7 : Int32) (x8 : Int32) (x9 : Int32) (y0 : Int32) (M : xM) :
    xrun pX6_run flX6 koX6 nwX6 [(39, 2, 0, 0, w_X2_isOpen fu), (43, 2, 0, 0, w_X6_actOf fu), (47, 5, 0, 0, w_X2_act fu)] [(21, fun bc bs ls st M => xz bc bs (lR ls 0 6 fun o => o.bind fun s => lR ls 1 2 fun x1 => lI ls 3 fun x3 => lI ls 4 fun x4 => lI ls 5 fun x5 => lI ls 6 fun x6 => xe st (k21 s x1 x3 x4 x5 x6 M)))] xrtI 66 (xat 93 pX6_run) 0 0 [(0, .inr (.inr (6, some s))), (1, .inr (.inr (2, x1))), (3, .inl x3), (4, .inl x4), (5, .inl x5), (6, .inl x6), (7, .inl x7), (8, .inl x8), (9, .inl x9)] [.inl y0] M = J_X6_run_93 fu k21 s x1 x3 x4 x5 x6 x7 x8 x9 y0 M := rfl
def J_X6_run_74 (fu : Nat) (k21 : Nat → Option Nat → Int32 → Int32 → Int32 → Int32 → xM → Option (Int32 × xM)) (s : Nat) (x1 : Option Nat) (x3 : Int32) (x4 : Int32) (x5 : Int32) (x6 : Int32) (x7 : Int32) (x8 : Int32) (y0 : Int32) (M : xM) : Option (Int32 × xM) :=
  if 4 ≤ x7 then
    J_X6_run_93 fu k21 s x1 x3 x4 x5 x6 x7 x8 y0 0 M
  else
    (F_X6_drawBelow fu s 256 M).bind fun p_1 =>
    J_X6_run_93 fu k21 s x1 x3 x4 x5 x6 x7 x8 y0 p_1.1 p_1.2
set_option maxRecDepth 100000 in
theorem q_X6_run_74 (fu : Nat) (k21 : Nat → Option Nat → Int32 → Int32 → Int32 → Int32 → xM → Option (Int32 × xM)) (s : Nat) (x1 : Option Nat) (x3 : Int32) (x4 : Int32) (x5 : Int32) (x6 : Int32) (x7 : Int32) (x8 : Int32) (y0 : Int32) (M : xM) :
    xrun pX6_run flX6 koX6 nwX6 [(35, 2, 0, 0, w_X6_drawBelow fu)] [(93, fun bc bs ls st M => xz bc bs (lR ls 0 6 fun o => o.bind fun s => lR ls 1 2 fun x1 => lI ls 3 fun x3 => lI ls 4 fun x4 => lI ls 5 fun x5 => lI ls 6 fun x6 => lI ls 7 fun x7 => lI ls 8 fun x8 => lI ls 9 fun x9 => pI st fun y0 st => xe st (J_X6_run_93 fu k21 s x1 x3 x4 x5 x6 x7 x8 x9 y0 M)))] xrtI 66 (xat 74 pX6_run) 0 0 [(0, .inr (.inr (6, some s))), (1, .inr (.inr (2, x1))), (3, .inl x3), (4, .inl x4), (5, .inl x5), (6, .inl x6), (7, .inl x7), (8, .inl x8)] [.inl y0] M = J_X6_run_74 fu k21 s x1 x3 x4 x5 x6 x7 x8 y0 M := rfl
def J_X6_run_57 (fu : Nat) (k21 : Nat → Option Nat → Int32 → Int32 → Int32 → Int32 → xM → Option (Int32 × xM)) (s : Nat) (x1 : Option Nat) (x3 : Int32) (x4 : Int32) (x5 : Int32) (x6 : Int32) (x7 : Int32) (y0 : Int32) (M : xM) : Option (Int32 × xM) :=
  if 4 ≤ x7 then
    J_X6_run_74 fu k21 s x1 x3 x4 x5 x6 x7 y0 0 M
  else
    (F_X6_drawBelow fu s 4 M).bind fun p_1 =>
    J_X6_run_74 fu k21 s x1 x3 x4 x5 x6 x7 y0 p_1.1 p_1.2
set_option maxRecDepth 100000 in
theorem q_X6_run_57 (fu : Nat) (k21 : Nat → Option Nat → Int32 → Int32 → Int32 → Int32 → xM → Option (Int32 × xM)) (s : Nat) (x1 : Option Nat) (x3 : Int32) (x4 : Int32) (x5 : Int32) (x6 : Int32) (x7 : Int32) (y0 : Int32) (M : xM) :
    xrun pX6_run flX6 koX6 nwX6 [(35, 2, 0, 0, w_X6_drawBelow fu)] [(74, fun bc bs ls st M => xz bc bs (lR ls 0 6 fun o => o.bind fun s => lR ls 1 2 fun x1 => lI ls 3 fun x3 => lI ls 4 fun x4 => lI ls 5 fun x5 => lI ls 6 fun x6 => lI ls 7 fun x7 => lI ls 8 fun x8 => pI st fun y0 st => xe st (J_X6_run_74 fu k21 s x1 x3 x4 x5 x6 x7 x8 y0 M)))] xrtI 66 (xat 57 pX6_run) 0 0 [(0, .inr (.inr (6, some s))), (1, .inr (.inr (2, x1))), (3, .inl x3), (4, .inl x4), (5, .inl x5), (6, .inl x6), (7, .inl x7)] [.inl y0] M = J_X6_run_57 fu k21 s x1 x3 x4 x5 x6 x7 y0 M := rfl
def L_X6_run_21 (fu : Nat) : Nat → Nat → Option Nat → Int32 → Int32 → Int32 → Int32 → xM → Option (Int32 × xM)
  | 0, _, _, _, _, _, _, _ => none
  | n + 1, s, x1, x3, x4, x5, x6, M =>
    if x3 ≤ x6 then
      (some (x5, M))
    else
      if x4 ≤ 0 then
        (some (x5, M))
      else
        (F_X6_drawBelow fu s 8 M).bind fun p_1 =>
        if 6 ≤ p_1.1 then
          J_X6_run_57 fu (L_X6_run_21 fu n) s x1 x3 x4 x5 x6 p_1.1 0 p_1.2
        else
          (F_X6_drawBelow fu s x4 p_1.2).bind fun p_2 =>
          J_X6_run_57 fu (L_X6_run_21 fu n) s x1 x3 x4 x5 x6 p_1.1 p_2.1 p_2.2
set_option maxRecDepth 100000 in
theorem q_X6_run_21 (fu : Nat) (n : Nat) (s : Nat) (x1 : Option Nat) (x3 : Int32) (x4 : Int32) (x5 : Int32) (x6 : Int32) (M : xM) :
    xrun pX6_run flX6 koX6 nwX6 [(35, 2, 0, 0, w_X6_drawBelow fu)] [(57, fun bc bs ls st M => xz bc bs (lR ls 0 6 fun o => o.bind fun s => lR ls 1 2 fun x1 => lI ls 3 fun x3 => lI ls 4 fun x4 => lI ls 5 fun x5 => lI ls 6 fun x6 => lI ls 7 fun x7 => pI st fun y0 st => xe st (J_X6_run_57 fu (L_X6_run_21 fu n) s x1 x3 x4 x5 x6 x7 y0 M)))] xrtI 66 (xat 21 pX6_run) 0 0 [(0, .inr (.inr (6, some s))), (1, .inr (.inr (2, x1))), (3, .inl x3), (4, .inl x4), (5, .inl x5), (6, .inl x6)] [] M = L_X6_run_21 fu (n + 1) s x1 x3 x4 x5 x6 M := rfl
def F_X6_run (fu : Nat) (s : Nat) (x1 : Option Nat) (x2 : Int32) (x3 : Int32) (M : xM) : Option (Int32 × xM) :=
  let M_1 := sL M 6 s 0 (Int32.toInt64 x2)
  x1.bind fun a_2 =>
  (gR M_1 2 a_2 4).bind fun a_3 =>
  let x4_4 : Int32 := gI M_1 7 a_3 3
  L_X6_run_21 fu fu s x1 x3 x4_4 0 0 M_1
set_option maxRecDepth 100000 in
theorem q_X6_run (fu : Nat) (s : Nat) (x1 : Option Nat) (x2 : Int32) (x3 : Int32) (M : xM) :
    xrun pX6_run flX6 koX6 nwX6 [] [(21, fun bc bs ls st M => xz bc bs (lR ls 0 6 fun o => o.bind fun s => lR ls 1 2 fun x1 => lI ls 3 fun x3 => lI ls 4 fun x4 => lI ls 5 fun x5 => lI ls 6 fun x6 => xe st (L_X6_run_21 fu fu s x1 x3 x4 x5 x6 M)))] xrtI 66 (xat 0 pX6_run) 0 0 [(0, .inr (.inr (6, some s))), (1, .inr (.inr (2, x1))), (2, .inl x2), (3, .inl x3)] [] M = F_X6_run fu s x1 x2 x3 M := rfl
def w_X6_run (fu : Nat) {ρ : Type} (as : List xV) (M : xM) (k : Option xV → xM → Option ρ) : Option ρ := pR 6 as fun o as => o.bind fun s => pR 2 as fun x1 as => pI as fun x2 as => pI as fun x3 as => xe as ((F_X6_run fu s x1 x2 x3 M).bind fun p => k (some (.inl p.1)) p.2)
def pX2_mappedPages : List xE := [(0, 0, 1, 0, 0, [], .iconst 0),
  (0, 1, 1, 0, 0, [], .istore_n 1),
  (0, 2, 1, 0, 0, [], .iconst 0),
  (0, 3, 1, 0, 0, [], .istore_n 2),
  (1, 4, 1, 0, 0, [], .iload_n 2),
  (0, 5, 2, 0, 20, [], .bipush 20),
  (0, 7, 3, 28, 0, [], .if_icmp .ge 21),
  (0, 10, 1, 0, 0, [], .aload_n 0),
  (0, 11, 3, 0, 0, [], .getfield 18),
  (0, 14, 1, 0, 0, [], .iload_n 2),
  (0, 15, 1, 0, 0, [], .iaload),
  (0, 16, 3, 22, 0, [], .ifCond .eq 6),
  (0, 19, 3, 0, 1, [], .iinc 1 1),
  (0, 22, 3, 0, 1, [], .iinc 2 1),
  (0, 25, 3, 4, 0, [], .goto (-21)),
  (0, 28, 1, 0, 0, [], .iload_n 1),
  (0, 29, 1, 0, 0, [], .ireturn)]
def L_X2_mappedPages_4 (fu : Nat) : Nat → Nat → Int32 → Int32 → xM → Option (Int32 × xM)
  | 0, _, _, _, _ => none
  | n + 1, s, x1, x2, M =>
    if 20 ≤ x2 then
      (some (x1, M))
    else
      (gR M 2 s 7).bind fun a_1 =>
      gd (xin x2 (gN M 20 a_1)) <|
      if (gI M 20 a_1 (xi x2)) = 0 then
        L_X2_mappedPages_4 fu n s x1 (x2 + 1) M
      else
        L_X2_mappedPages_4 fu n s (x1 + 1) (x2 + 1) M
set_option maxRecDepth 100000 in
theorem q_X2_mappedPages_4 (fu : Nat) (n : Nat) (s : Nat) (x1 : Int32) (x2 : Int32) (M : xM) :
    xrun pX2_mappedPages flX2 koX2 nwX2 [] [(4, fun bc bs ls st M => xz bc bs (lR ls 0 2 fun o => o.bind fun s => lI ls 1 fun x1 => lI ls 2 fun x2 => xe st (L_X2_mappedPages_4 fu n s x1 x2 M)))] xrtI 19 (xat 4 pX2_mappedPages) 0 0 [(0, .inr (.inr (2, some s))), (1, .inl x1), (2, .inl x2)] [] M = L_X2_mappedPages_4 fu (n + 1) s x1 x2 M := rfl
def F_X2_mappedPages (fu : Nat) (s : Nat) (M : xM) : Option (Int32 × xM) :=
  L_X2_mappedPages_4 fu fu s 0 0 M
set_option maxRecDepth 100000 in
theorem q_X2_mappedPages (fu : Nat) (s : Nat) (M : xM) :
    xrun pX2_mappedPages flX2 koX2 nwX2 [] [(4, fun bc bs ls st M => xz bc bs (lR ls 0 2 fun o => o.bind fun s => lI ls 1 fun x1 => lI ls 2 fun x2 => xe st (L_X2_mappedPages_4 fu fu s x1 x2 M)))] xrtI 19 (xat 0 pX2_mappedPages) 0 0 [(0, .inr (.inr (2, some s)))] [] M = F_X2_mappedPages fu s M := rfl
def w_X2_mappedPages (fu : Nat) {ρ : Type} (as : List xV) (M : xM) (k : Option xV → xM → Option ρ) : Option ρ := pR 2 as fun o as => o.bind fun s => xe as ((F_X2_mappedPages fu s M).bind fun p => k (some (.inl p.1)) p.2)
def pX11_ages : List xE := [(0, 0, 1, 0, 0, [], .aload_n 0),
  (0, 1, 3, 0, 0, [], .getfield 48),
  (0, 4, 3, 0, 0, [], .getfield 315),
  (0, 7, 3, 41, 0, [], .ifCond .eq 34),
  (0, 10, 1, 0, 0, [], .iload_n 1),
  (0, 11, 3, 41, 0, [], .ifCond .lt 30),
  (0, 14, 1, 0, 0, [], .iload_n 1),
  (0, 15, 3, 0, 9999, [], .sipush 9999),
  (0, 18, 3, 41, 0, [], .if_icmp .gt 23),
  (0, 21, 1, 0, 0, [], .iload_n 2),
  (0, 22, 1, 0, 1, [], .iconst 1),
  (0, 23, 3, 41, 0, [], .if_icmp .lt 18),
  (0, 26, 1, 0, 0, [], .iload_n 2),
  (0, 27, 2, 0, 99, [], .bipush 99),
  (0, 29, 3, 41, 0, [], .if_icmp .gt 12),
  (0, 32, 1, 0, 0, [], .iload_n 3),
  (0, 33, 3, 41, 0, [], .ifCond .lt 8),
  (0, 36, 1, 0, 0, [], .iload_n 3),
  (0, 37, 1, 0, 2, [], .iconst 2),
  (0, 38, 3, 43, 0, [], .if_icmp .le 5),
  (0, 41, 1, 0, (-1), [], .iconst (-1)),
  (0, 42, 1, 0, 0, [], .ireturn),
  (0, 43, 1, 0, 0, [], .aload_n 0),
  (0, 44, 3, 0, 0, [], .invokevirtual 246),
  (0, 47, 1, 0, 0, [], .aload_n 0),
  (0, 48, 3, 0, 0, [], .getfield 74),
  (0, 51, 1, 0, 0, [], .aload_n 0),
  (0, 52, 3, 0, 0, [], .getfield 52),
  (0, 55, 1, 0, 0, [], .iload_n 1),
  (0, 56, 1, 0, 0, [], .iload_n 2),
  (0, 57, 3, 0, 0, [], .invokevirtual 319),
  (0, 60, 2, 0, 0, [], .istore 4),
  (0, 62, 1, 0, 0, [], .iload_n 3),
  (0, 63, 3, 69, 0, [], .ifCond .ne 6),
  (0, 66, 2, 0, 0, [], .iload 4),
  (0, 68, 1, 0, 0, [], .ireturn),
  (0, 69, 1, 0, 0, [], .iload_n 3),
  (0, 70, 1, 0, 1, [], .iconst 1),
  (0, 71, 3, 87, 0, [], .if_icmp .ne 16),
  (0, 74, 1, 0, 0, [], .aload_n 0),
  (0, 75, 3, 0, 0, [], .getfield 52),
  (0, 78, 3, 0, 0, [], .getfield 123),
  (0, 81, 3, 0, 0, [], .getfield 226),
  (0, 84, 3, 94, 0, [], .goto 10),
  (0, 87, 1, 0, 0, [], .aload_n 0),
  (0, 88, 3, 0, 0, [], .getfield 52),
  (0, 91, 3, 0, 0, [], .invokevirtual 322),
  (0, 94, 1, 0, 0, [], .ireturn)]
def F_X11_ages (fu : Nat) (s : Nat) (x1 : Int32) (x2 : Int32) (x3 : Int32) (M : xM) : Option (Int32 × xM) :=
  (gR M 11 s 6).bind fun a_1 =>
  if (gI M 2 a_1 1) = 0 then
    (some ((-1), M))
  else
    if x1 < 0 then
      (some ((-1), M))
    else
      if 9999 < x1 then
        (some ((-1), M))
      else
        if x2 < 1 then
          (some ((-1), M))
        else
          if 99 < x2 then
            (some ((-1), M))
          else
            if x3 < 0 then
              (some ((-1), M))
            else
              if x3 ≤ 2 then
                (F_X11_tryFromNow fu s M).bind fun p_2 =>
                (gR p_2 11 s 10).bind fun a_3 =>
                (F_X6_run fu a_3 (gR p_2 11 s 7) x1 x2 p_2).bind fun p_4 =>
                if ¬ x3 = 0 then
                  if ¬ x3 = 1 then
                    (gR p_4.2 11 s 7).bind fun a_5 =>
                    (F_X2_mappedPages fu a_5 p_4.2).bind fun p_6 =>
                    (some (p_6.1, p_6.2))
                  else
                    (gR p_4.2 11 s 7).bind fun a_7 =>
                    (gR p_4.2 2 a_7 0).bind fun a_8 =>
                    (some (gI p_4.2 0 a_8 3, p_4.2))
                else
                  (some (p_4.1, p_4.2))
              else
                (some ((-1), M))
set_option maxRecDepth 100000 in
theorem q_X11_ages (fu : Nat) (s : Nat) (x1 : Int32) (x2 : Int32) (x3 : Int32) (M : xM) :
    xrun pX11_ages flX11 koX11 nwX11 [(246, 1, 0, 0, w_X11_tryFromNow fu), (319, 4, 0, 0, w_X6_run fu), (322, 1, 0, 0, w_X2_mappedPages fu)] [] xrtI 50 (xat 0 pX11_ages) 0 0 [(0, .inr (.inr (11, some s))), (1, .inl x1), (2, .inl x2), (3, .inl x3)] [] M = F_X11_ages fu s x1 x2 x3 M := rfl
def w_X11_ages (fu : Nat) {ρ : Type} (as : List xV) (M : xM) (k : Option xV → xM → Option ρ) : Option ρ := pR 11 as fun o as => o.bind fun s => pI as fun x1 as => pI as fun x2 as => pI as fun x3 as => xe as ((F_X11_ages fu s x1 x2 x3 M).bind fun p => k (some (.inl p.1)) p.2)
def pX2_agreesWithFound : List xE := [(0, 0, 1, 0, 0, [], .aload_n 0),
  (0, 1, 3, 0, 0, [], .getfield 39),
  (0, 4, 1, 0, 0, [], .aload_n 0),
  (0, 5, 3, 0, 0, [], .getfield 12),
  (0, 8, 3, 0, 0, [], .invokevirtual 106),
  (0, 11, 1, 0, 0, [], .iconst 0),
  (0, 12, 1, 0, 0, [], .istore_n 1),
  (1, 13, 1, 0, 0, [], .iload_n 1),
  (0, 14, 2, 0, 20, [], .bipush 20),
  (0, 16, 3, 57, 0, [], .if_icmp .ge 41),
  (0, 19, 1, 0, 0, [], .aload_n 0),
  (0, 20, 3, 0, 0, [], .getfield 39),
  (0, 23, 3, 0, 0, [], .getfield 255),
  (0, 26, 1, 0, 0, [], .iload_n 1),
  (0, 27, 1, 0, 0, [], .iaload),
  (0, 28, 1, 0, 0, [], .aload_n 0),
  (0, 29, 1, 0, 0, [], .iload_n 1),
  (0, 30, 3, 0, 0, [], .invokevirtual 217),
  (0, 33, 3, 45, 0, [], .ifCond .eq 12),
  (0, 36, 1, 0, 0, [], .aload_n 0),
  (0, 37, 3, 0, 0, [], .getfield 18),
  (0, 40, 1, 0, 0, [], .iload_n 1),
  (0, 41, 1, 0, 0, [], .iaload),
  (0, 42, 3, 46, 0, [], .goto 4),
  (0, 45, 1, 0, 0, [], .iconst 0),
  (1, 46, 3, 51, 0, [], .if_icmp .eq 5),
  (0, 49, 1, 0, 0, [], .iconst 0),
  (0, 50, 1, 0, 0, [], .ireturn),
  (0, 51, 3, 0, 1, [], .iinc 1 1),
  (0, 54, 3, 13, 0, [], .goto (-41)),
  (0, 57, 1, 0, 1, [], .iconst 1),
  (0, 58, 1, 0, 0, [], .ireturn)]
def J_X2_agreesWithFound_46 (fu : Nat) (k13 : Nat → Int32 → xM → Option (Int32 × xM)) (s : Nat) (x1 : Int32) (y0 : Int32) (y1 : Int32) (M : xM) : Option (Int32 × xM) :=
  if y1 = y0 then
    k13 s (x1 + 1) M
  else
    gd (xbool 0) (some (0, M))
set_option maxRecDepth 100000 in
theorem q_X2_agreesWithFound_46 (fu : Nat) (k13 : Nat → Int32 → xM → Option (Int32 × xM)) (s : Nat) (x1 : Int32) (y0 : Int32) (y1 : Int32) (M : xM) :
    xrun pX2_agreesWithFound flX2 koX2 nwX2 [] [(13, fun bc bs ls st M => xz bc bs (lR ls 0 2 fun o => o.bind fun s => lI ls 1 fun x1 => xe st (k13 s x1 M)))] xrtZ 34 (xat 46 pX2_agreesWithFound) 0 0 [(0, .inr (.inr (2, some s))), (1, .inl x1)] [.inl y0, .inl y1] M = J_X2_agreesWithFound_46 fu k13 s x1 y0 y1 M := rfl
def L_X2_agreesWithFound_13 (fu : Nat) : Nat → Nat → Int32 → xM → Option (Int32 × xM)
  | 0, _, _, _ => none
  | n + 1, s, x1, M =>
    if 20 ≤ x1 then
      gd (xbool 1) (some (1, M))
    else
      (gR M 2 s 5).bind fun a_1 =>
      (gR M 4 a_1 0).bind fun a_2 =>
      gd (xin x1 (gN M 20 a_2)) <|
      (F_X2_isKept fu s x1 M).bind fun p_3 =>
      if p_3.1 = 0 then
        J_X2_agreesWithFound_46 fu (L_X2_agreesWithFound_13 fu n) s x1 0 (gI M 20 a_2 (xi x1)) p_3.2
      else
        (gR p_3.2 2 s 7).bind fun a_4 =>
        gd (xin x1 (gN p_3.2 20 a_4)) <|
        J_X2_agreesWithFound_46 fu (L_X2_agreesWithFound_13 fu n) s x1 (gI p_3.2 20 a_4 (xi x1)) (gI M 20 a_2 (xi x1)) p_3.2
set_option maxRecDepth 100000 in
theorem q_X2_agreesWithFound_13 (fu : Nat) (n : Nat) (s : Nat) (x1 : Int32) (M : xM) :
    xrun pX2_agreesWithFound flX2 koX2 nwX2 [(217, 2, 0, 0, w_X2_isKept fu)] [(46, fun bc bs ls st M => xz bc bs (lR ls 0 2 fun o => o.bind fun s => lI ls 1 fun x1 => pI st fun y0 st => pI st fun y1 st => xe st (J_X2_agreesWithFound_46 fu (L_X2_agreesWithFound_13 fu n) s x1 y0 y1 M)))] xrtZ 34 (xat 13 pX2_agreesWithFound) 0 0 [(0, .inr (.inr (2, some s))), (1, .inl x1)] [] M = L_X2_agreesWithFound_13 fu (n + 1) s x1 M := rfl
def F_X2_agreesWithFound (fu : Nat) (s : Nat) (M : xM) : Option (Int32 × xM) :=
  (gR M 2 s 5).bind fun a_1 =>
  (F_X4_find fu a_1 (gR M 2 s 0) M).bind fun p_2 =>
  L_X2_agreesWithFound_13 fu fu s 0 p_2
set_option maxRecDepth 100000 in
theorem q_X2_agreesWithFound (fu : Nat) (s : Nat) (M : xM) :
    xrun pX2_agreesWithFound flX2 koX2 nwX2 [(106, 2, 0, 0, w_X4_find fu)] [(13, fun bc bs ls st M => xz bc bs (lR ls 0 2 fun o => o.bind fun s => lI ls 1 fun x1 => xe st (L_X2_agreesWithFound_13 fu fu s x1 M)))] xrtZ 34 (xat 0 pX2_agreesWithFound) 0 0 [(0, .inr (.inr (2, some s)))] [] M = F_X2_agreesWithFound fu s M := rfl
def w_X2_agreesWithFound (fu : Nat) {ρ : Type} (as : List xV) (M : xM) (k : Option xV → xM → Option ρ) : Option ρ := pR 2 as fun o as => o.bind fun s => xe as ((F_X2_agreesWithFound fu s M).bind fun p => k (some (.inl p.1)) p.2)
def pX11_agrees : List xE := [(0, 0, 1, 0, 0, [], .aload_n 0),
  (0, 1, 3, 0, 0, [], .getfield 48),
  (0, 4, 3, 0, 0, [], .invokevirtual 259),
  (0, 7, 1, 0, 0, [], .ireturn)]
def F_X11_agrees (fu : Nat) (s : Nat) (M : xM) : Option (Int32 × xM) :=
  (gR M 11 s 6).bind fun a_1 =>
  (F_X2_agreesWithFound fu a_1 M).bind fun p_2 =>
  gd (xbool p_2.1) (some (p_2.1, p_2.2))
set_option maxRecDepth 100000 in
theorem q_X11_agrees (fu : Nat) (s : Nat) (M : xM) :
    xrun pX11_agrees flX11 koX11 nwX11 [(259, 1, 0, 0, w_X2_agreesWithFound fu)] [] xrtZ 6 (xat 0 pX11_agrees) 0 0 [(0, .inr (.inr (11, some s)))] [] M = F_X11_agrees fu s M := rfl
def w_X11_agrees (fu : Nat) {ρ : Type} (as : List xV) (M : xM) (k : Option xV → xM → Option ρ) : Option ρ := pR 11 as fun o as => o.bind fun s => xe as ((F_X11_agrees fu s M).bind fun p => k (some (.inl p.1)) p.2)
def pX11_block : List xE := [(0, 0, 1, 0, 0, [], .aload_n 0),
  (0, 1, 3, 0, 0, [], .getfield 48),
  (0, 4, 3, 0, 0, [], .getfield 123),
  (0, 7, 1, 0, 0, [], .iload_n 1),
  (0, 8, 3, 0, 0, [], .invokevirtual 140),
  (0, 11, 3, 16, 0, [], .ifCond .ne 5),
  (0, 14, 1, 0, (-1), [], .iconst (-1)),
  (0, 15, 1, 0, 0, [], .ireturn),
  (0, 16, 1, 0, 0, [], .aload_n 0),
  (0, 17, 3, 0, 0, [], .getfield 48),
  (0, 20, 3, 0, 0, [], .invokevirtual 143),
  (0, 23, 1, 0, 0, [], .iload_n 2),
  (0, 24, 36, 125, 0, [(0, 60), (1, 73), (2, 83), (3, 92), (4, 105)], .tableswitch 101 0 4 #[36, 49, 59, 68, 81]),
  (0, 60, 1, 0, 0, [], .aload_n 0),
  (0, 61, 3, 0, 0, [], .getfield 48),
  (0, 64, 3, 0, 0, [], .getfield 123),
  (0, 67, 3, 0, 0, [], .getfield 146),
  (0, 70, 1, 0, 0, [], .iload_n 1),
  (0, 71, 1, 0, 0, [], .iaload),
  (0, 72, 1, 0, 0, [], .ireturn),
  (0, 73, 1, 0, 0, [], .aload_n 0),
  (0, 74, 3, 0, 0, [], .getfield 48),
  (0, 77, 3, 0, 0, [], .getfield 150),
  (0, 80, 1, 0, 0, [], .iload_n 1),
  (0, 81, 1, 0, 0, [], .iaload),
  (0, 82, 1, 0, 0, [], .ireturn),
  (0, 83, 1, 0, 0, [], .aload_n 0),
  (0, 84, 3, 0, 0, [], .getfield 48),
  (0, 87, 1, 0, 0, [], .iload_n 1),
  (0, 88, 3, 0, 0, [], .invokevirtual 153),
  (0, 91, 1, 0, 0, [], .ireturn),
  (0, 92, 1, 0, 0, [], .aload_n 0),
  (0, 93, 3, 0, 0, [], .getfield 48),
  (0, 96, 3, 0, 0, [], .getfield 123),
  (0, 99, 3, 0, 0, [], .getfield 157),
  (0, 102, 1, 0, 0, [], .iload_n 1),
  (0, 103, 1, 0, 0, [], .iaload),
  (0, 104, 1, 0, 0, [], .ireturn),
  (0, 105, 1, 0, 0, [], .aload_n 0),
  (0, 106, 3, 0, 0, [], .getfield 48),
  (0, 109, 3, 0, 0, [], .getfield 123),
  (0, 112, 3, 0, 0, [], .getfield 160),
  (0, 115, 1, 0, 0, [], .iload_n 1),
  (0, 116, 3, 123, 0, [], .if_icmp .ne 7),
  (0, 119, 1, 0, 1, [], .iconst 1),
  (0, 120, 3, 124, 0, [], .goto 4),
  (0, 123, 1, 0, 0, [], .iconst 0),
  (0, 124, 1, 0, 0, [], .ireturn),
  (0, 125, 1, 0, (-1), [], .iconst (-1)),
  (0, 126, 1, 0, 0, [], .ireturn)]
def F_X11_block (fu : Nat) (s : Nat) (x1 : Int32) (x2 : Int32) (M : xM) : Option (Int32 × xM) :=
  (gR M 11 s 6).bind fun a_1 =>
  (gR M 2 a_1 0).bind fun a_2 =>
  (F_X0_isBlock fu a_2 x1 M).bind fun p_3 =>
  if ¬ p_3.1 = 0 then
    (gR p_3.2 11 s 6).bind fun a_4 =>
    (F_X2_survey fu a_4 p_3.2).bind fun p_5 =>
    if x2 = 0 then
      (gR p_5 11 s 6).bind fun a_6 =>
      (gR p_5 2 a_6 0).bind fun a_7 =>
      (gR p_5 0 a_7 8).bind fun a_8 =>
      gd (xin x1 (gN p_5 20 a_8)) <|
      (some (gI p_5 20 a_8 (xi x1), p_5))
    else
    if x2 = 1 then
      (gR p_5 11 s 6).bind fun a_9 =>
      (gR p_5 2 a_9 13).bind fun a_10 =>
      gd (xin x1 (gN p_5 20 a_10)) <|
      (some (gI p_5 20 a_10 (xi x1), p_5))
    else
    if x2 = 2 then
      (gR p_5 11 s 6).bind fun a_11 =>
      (F_X2_dirtyIn fu a_11 x1 p_5).bind fun p_12 =>
      (some (p_12.1, p_12.2))
    else
    if x2 = 3 then
      (gR p_5 11 s 6).bind fun a_13 =>
      (gR p_5 2 a_13 0).bind fun a_14 =>
      (gR p_5 0 a_14 7).bind fun a_15 =>
      gd (xin x1 (gN p_5 20 a_15)) <|
      (some (gI p_5 20 a_15 (xi x1), p_5))
    else
    if x2 = 4 then
      (gR p_5 11 s 6).bind fun a_16 =>
      (gR p_5 2 a_16 0).bind fun a_17 =>
      if ¬ (gI p_5 0 a_17 4) = x1 then
        (some (0, p_5))
      else
        (some (1, p_5))
    else
      (some ((-1), p_5))
  else
    (some ((-1), p_3.2))
set_option maxRecDepth 100000 in
theorem q_X11_block (fu : Nat) (s : Nat) (x1 : Int32) (x2 : Int32) (M : xM) :
    xrun pX11_block flX11 koX11 nwX11 [(140, 2, 0, 0, w_X0_isBlock fu), (143, 1, 0, 0, w_X2_survey fu), (153, 2, 0, 0, w_X2_dirtyIn fu)] [] xrtI 52 (xat 0 pX11_block) 0 0 [(0, .inr (.inr (11, some s))), (1, .inl x1), (2, .inl x2)] [] M = F_X11_block fu s x1 x2 M := rfl
def w_X11_block (fu : Nat) {ρ : Type} (as : List xV) (M : xM) (k : Option xV → xM → Option ρ) : Option ρ := pR 11 as fun o as => o.bind fun s => pI as fun x1 as => pI as fun x2 as => xe as ((F_X11_block fu s x1 x2 M).bind fun p => k (some (.inl p.1)) p.2)
def pX11_chain : List xE := [(0, 0, 1, 0, 0, [], .aload_n 0),
  (0, 1, 3, 0, 0, [], .getfield 19),
  (0, 4, 1, 0, 0, [], .iload_n 1),
  (0, 5, 1, 0, 0, [], .iload_n 2),
  (0, 6, 3, 0, 0, [], .invokevirtual 213),
  (0, 9, 3, 28, 0, [], .ifCond .eq 19),
  (0, 12, 1, 0, 0, [], .aload_n 0),
  (0, 13, 3, 0, 0, [], .getfield 48),
  (0, 16, 3, 0, 0, [], .getfield 123),
  (0, 19, 1, 0, 0, [], .iload_n 1),
  (0, 20, 1, 0, 0, [], .iload_n 2),
  (0, 21, 1, 0, 1, [], .iconst 1),
  (0, 22, 3, 0, 0, [], .invokevirtual 278),
  (0, 25, 3, 29, 0, [], .goto 4),
  (0, 28, 1, 0, (-1), [], .iconst (-1)),
  (0, 29, 1, 0, 0, [], .ireturn)]
def F_X11_chain (fu : Nat) (s : Nat) (x1 : Int32) (x2 : Int32) (M : xM) : Option (Int32 × xM) :=
  (gR M 11 s 1).bind fun a_1 =>
  (F_X7_isPage fu a_1 x1 x2 M).bind fun p_2 =>
  if p_2.1 = 0 then
    (some ((-1), p_2.2))
  else
    (gR p_2.2 11 s 6).bind fun a_3 =>
    (gR p_2.2 2 a_3 0).bind fun a_4 =>
    (F_X0_countData fu a_4 x1 x2 1 p_2.2).bind fun p_5 =>
    (some (p_5.1, p_5.2))
set_option maxRecDepth 100000 in
theorem q_X11_chain (fu : Nat) (s : Nat) (x1 : Int32) (x2 : Int32) (M : xM) :
    xrun pX11_chain flX11 koX11 nwX11 [(213, 3, 0, 0, w_X7_isPage fu), (278, 4, 0, 0, w_X0_countData fu)] [] xrtI 18 (xat 0 pX11_chain) 0 0 [(0, .inr (.inr (11, some s))), (1, .inl x1), (2, .inl x2)] [] M = F_X11_chain fu s x1 x2 M := rfl
def w_X11_chain (fu : Nat) {ρ : Type} (as : List xV) (M : xM) (k : Option xV → xM → Option ρ) : Option ρ := pR 11 as fun o as => o.bind fun s => pI as fun x1 as => pI as fun x2 as => xe as ((F_X11_chain fu s x1 x2 M).bind fun p => k (some (.inl p.1)) p.2)
def pX11_close : List xE := [(0, 0, 1, 0, 0, [], .aload_n 0),
  (0, 1, 3, 0, 0, [], .getfield 48),
  (0, 4, 1, 0, 0, [], .iload_n 1),
  (0, 5, 3, 0, 0, [], .invokevirtual 191),
  (0, 8, 1, 0, 0, [], .ireturn)]
def F_X11_close (fu : Nat) (s : Nat) (x1 : Int32) (M : xM) : Option (Int32 × xM) :=
  (gR M 11 s 6).bind fun a_1 =>
  (F_X2_closeFile fu a_1 x1 M).bind fun p_2 =>
  gd (xbool p_2.1) (some (p_2.1, p_2.2))
set_option maxRecDepth 100000 in
theorem q_X11_close (fu : Nat) (s : Nat) (x1 : Int32) (M : xM) :
    xrun pX11_close flX11 koX11 nwX11 [(191, 2, 0, 0, w_X2_closeFile fu)] [] xrtZ 7 (xat 0 pX11_close) 0 0 [(0, .inr (.inr (11, some s))), (1, .inl x1)] [] M = F_X11_close fu s x1 M := rfl
def w_X11_close (fu : Nat) {ρ : Type} (as : List xV) (M : xM) (k : Option xV → xM → Option ρ) : Option ρ := pR 11 as fun o as => o.bind fun s => pI as fun x1 as => xe as ((F_X11_close fu s x1 M).bind fun p => k (some (.inl p.1)) p.2)
def pX11_collect : List xE := [(0, 0, 1, 0, 0, [], .aload_n 0),
  (0, 1, 3, 0, 0, [], .getfield 48),
  (0, 4, 3, 0, 0, [], .invokevirtual 198),
  (0, 7, 1, 0, 0, [], .ireturn)]
def F_X11_collect (fu : Nat) (s : Nat) (M : xM) : Option (Int32 × xM) :=
  (gR M 11 s 6).bind fun a_1 =>
  (F_X2_collectBlock fu a_1 M).bind fun p_2 =>
  (some (p_2.1, p_2.2))
set_option maxRecDepth 100000 in
theorem q_X11_collect (fu : Nat) (s : Nat) (M : xM) :
    xrun pX11_collect flX11 koX11 nwX11 [(198, 1, 0, 0, w_X2_collectBlock fu)] [] xrtI 6 (xat 0 pX11_collect) 0 0 [(0, .inr (.inr (11, some s)))] [] M = F_X11_collect fu s M := rfl
def w_X11_collect (fu : Nat) {ρ : Type} (as : List xV) (M : xM) (k : Option xV → xM → Option ρ) : Option ρ := pR 11 as fun o as => o.bind fun s => xe as ((F_X11_collect fu s M).bind fun p => k (some (.inl p.1)) p.2)
def pX11_commit : List xE := [(0, 0, 1, 0, 0, [], .aload_n 0),
  (0, 1, 3, 0, 0, [], .getfield 48),
  (0, 4, 3, 0, 0, [], .invokevirtual 194),
  (0, 7, 1, 0, 0, [], .ireturn)]
def F_X11_commit (fu : Nat) (s : Nat) (M : xM) : Option (Int32 × xM) :=
  (gR M 11 s 6).bind fun a_1 =>
  (F_X2_commitPages fu a_1 M).bind fun p_2 =>
  (some (p_2.1, p_2.2))
set_option maxRecDepth 100000 in
theorem q_X11_commit (fu : Nat) (s : Nat) (M : xM) :
    xrun pX11_commit flX11 koX11 nwX11 [(194, 1, 0, 0, w_X2_commitPages fu)] [] xrtI 6 (xat 0 pX11_commit) 0 0 [(0, .inr (.inr (11, some s)))] [] M = F_X11_commit fu s M := rfl
def w_X11_commit (fu : Nat) {ρ : Type} (as : List xV) (M : xM) (k : Option xV → xM → Option ρ) : Option ρ := pR 11 as fun o as => o.bind fun s => xe as ((F_X11_commit fu s M).bind fun p => k (some (.inl p.1)) p.2)
def pX11_copies : List xE := [(0, 0, 1, 0, 0, [], .aload_n 0),
  (0, 1, 3, 0, 0, [], .getfield 19),
  (0, 4, 1, 0, 0, [], .iload_n 1),
  (0, 5, 1, 0, 0, [], .iload_n 2),
  (0, 6, 3, 0, 0, [], .invokevirtual 213),
  (0, 9, 3, 28, 0, [], .ifCond .eq 19),
  (0, 12, 1, 0, 0, [], .aload_n 0),
  (0, 13, 3, 0, 0, [], .getfield 48),
  (0, 16, 3, 0, 0, [], .getfield 123),
  (0, 19, 1, 0, 0, [], .iload_n 1),
  (0, 20, 1, 0, 0, [], .iload_n 2),
  (0, 21, 1, 0, 0, [], .iconst 0),
  (0, 22, 3, 0, 0, [], .invokevirtual 278),
  (0, 25, 3, 29, 0, [], .goto 4),
  (0, 28, 1, 0, (-1), [], .iconst (-1)),
  (0, 29, 1, 0, 0, [], .ireturn)]
def F_X11_copies (fu : Nat) (s : Nat) (x1 : Int32) (x2 : Int32) (M : xM) : Option (Int32 × xM) :=
  (gR M 11 s 1).bind fun a_1 =>
  (F_X7_isPage fu a_1 x1 x2 M).bind fun p_2 =>
  if p_2.1 = 0 then
    (some ((-1), p_2.2))
  else
    (gR p_2.2 11 s 6).bind fun a_3 =>
    (gR p_2.2 2 a_3 0).bind fun a_4 =>
    (F_X0_countData fu a_4 x1 x2 0 p_2.2).bind fun p_5 =>
    (some (p_5.1, p_5.2))
set_option maxRecDepth 100000 in
theorem q_X11_copies (fu : Nat) (s : Nat) (x1 : Int32) (x2 : Int32) (M : xM) :
    xrun pX11_copies flX11 koX11 nwX11 [(213, 3, 0, 0, w_X7_isPage fu), (278, 4, 0, 0, w_X0_countData fu)] [] xrtI 18 (xat 0 pX11_copies) 0 0 [(0, .inr (.inr (11, some s))), (1, .inl x1), (2, .inl x2)] [] M = F_X11_copies fu s x1 x2 M := rfl
def w_X11_copies (fu : Nat) {ρ : Type} (as : List xV) (M : xM) (k : Option xV → xM → Option ρ) : Option ρ := pR 11 as fun o as => o.bind fun s => pI as fun x1 as => pI as fun x2 as => xe as ((F_X11_copies fu s x1 x2 M).bind fun p => k (some (.inl p.1)) p.2)
def pX2_tell : List xE := [(0, 0, 1, 0, 0, [], .aload_n 0),
  (0, 1, 3, 0, 0, [], .invokevirtual 174),
  (0, 4, 1, 0, 0, [], .iload_n 1),
  (0, 5, 59, 147, 0, [(3, 64), (4, 72), (5, 77), (6, 98), (7, 103), (8, 111), (9, 116), (10, 121), (11, 126), (12, 147), (13, 139)], .tableswitch 142 3 13 #[59, 67, 72, 93, 98, 106, 111, 116, 121, 142, 134]),
  (0, 64, 1, 0, 0, [], .aload_n 0),
  (0, 65, 3, 0, 0, [], .getfield 12),
  (0, 68, 3, 0, 0, [], .getfield 159),
  (0, 71, 1, 0, 0, [], .ireturn),
  (0, 72, 1, 0, 0, [], .aload_n 0),
  (0, 73, 3, 0, 0, [], .getfield 180),
  (0, 76, 1, 0, 0, [], .ireturn),
  (0, 77, 1, 0, 0, [], .aload_n 0),
  (0, 78, 3, 0, 0, [], .getfield 12),
  (0, 81, 3, 0, 0, [], .getfield 177),
  (0, 84, 1, 0, 0, [], .aload_n 0),
  (0, 85, 3, 0, 0, [], .getfield 12),
  (0, 88, 3, 0, 0, [], .getfield 159),
  (0, 91, 1, 0, 0, [], .isub),
  (0, 92, 1, 0, 0, [], .aload_n 0),
  (0, 93, 3, 0, 0, [], .getfield 180),
  (0, 96, 1, 0, 0, [], .isub),
  (0, 97, 1, 0, 0, [], .ireturn),
  (0, 98, 1, 0, 0, [], .aload_n 0),
  (0, 99, 3, 0, 0, [], .getfield 62),
  (0, 102, 1, 0, 0, [], .ireturn),
  (0, 103, 1, 0, 0, [], .aload_n 0),
  (0, 104, 3, 0, 0, [], .getfield 12),
  (0, 107, 3, 0, 0, [], .getfield 211),
  (0, 110, 1, 0, 0, [], .ireturn),
  (0, 111, 1, 0, 0, [], .aload_n 0),
  (0, 112, 3, 0, 0, [], .getfield 183),
  (0, 115, 1, 0, 0, [], .ireturn),
  (0, 116, 1, 0, 0, [], .aload_n 0),
  (0, 117, 3, 0, 0, [], .invokevirtual 205),
  (0, 120, 1, 0, 0, [], .ireturn),
  (0, 121, 1, 0, 0, [], .aload_n 0),
  (0, 122, 3, 0, 0, [], .invokevirtual 299),
  (0, 125, 1, 0, 0, [], .ireturn),
  (0, 126, 1, 0, 0, [], .aload_n 0),
  (0, 127, 3, 0, 0, [], .getfield 47),
  (0, 130, 3, 137, 0, [], .ifCond .eq 7),
  (0, 133, 1, 0, 1, [], .iconst 1),
  (0, 134, 3, 138, 0, [], .goto 4),
  (0, 137, 1, 0, 0, [], .iconst 0),
  (0, 138, 1, 0, 0, [], .ireturn),
  (0, 139, 1, 0, 0, [], .aload_n 0),
  (0, 140, 3, 0, 0, [], .getfield 12),
  (0, 143, 3, 0, 0, [], .getfield 243),
  (0, 146, 1, 0, 0, [], .ireturn),
  (0, 147, 1, 0, (-1), [], .iconst (-1)),
  (0, 148, 1, 0, 0, [], .ireturn)]
def F_X2_tell (fu : Nat) (s : Nat) (x1 : Int32) (M : xM) : Option (Int32 × xM) :=
  (F_X2_survey fu s M).bind fun p_1 =>
  if x1 = 3 then
    (gR p_1 2 s 0).bind fun a_2 =>
    (some (gI p_1 0 a_2 3, p_1))
  else
  if x1 = 4 then
    (some (gI p_1 2 s 14, p_1))
  else
  if x1 = 5 then
    (gR p_1 2 s 0).bind fun a_3 =>
    (gR p_1 2 s 0).bind fun a_4 =>
    (some (((gI p_1 0 a_3 2) - (gI p_1 0 a_4 3)) - (gI p_1 2 s 14), p_1))
  else
  if x1 = 6 then
    (some (gI p_1 2 s 10, p_1))
  else
  if x1 = 7 then
    (gR p_1 2 s 0).bind fun a_5 =>
    (some (gI p_1 0 a_5 5, p_1))
  else
  if x1 = 8 then
    (some (gI p_1 2 s 15, p_1))
  else
  if x1 = 9 then
    (F_X2_parts fu s p_1).bind fun p_6 =>
    (some (p_6.1, p_6.2))
  else
  if x1 = 10 then
    (F_X2_mappedPages fu s p_1).bind fun p_7 =>
    (some (p_7.1, p_7.2))
  else
  if x1 = 11 then
    if (gI p_1 2 s 1) = 0 then
      (some (0, p_1))
    else
      (some (1, p_1))
  else
  if x1 = 12 then
    (some ((-1), p_1))
  else
  if x1 = 13 then
    (gR p_1 2 s 0).bind fun a_8 =>
    (some (gI p_1 0 a_8 4, p_1))
  else
    (some ((-1), p_1))
set_option maxRecDepth 100000 in
theorem q_X2_tell (fu : Nat) (s : Nat) (x1 : Int32) (M : xM) :
    xrun pX2_tell flX2 koX2 nwX2 [(174, 1, 0, 0, w_X2_survey fu), (205, 1, 0, 0, w_X2_parts fu), (299, 1, 0, 0, w_X2_mappedPages fu)] [] xrtI 53 (xat 0 pX2_tell) 0 0 [(0, .inr (.inr (2, some s))), (1, .inl x1)] [] M = F_X2_tell fu s x1 M := rfl
def w_X2_tell (fu : Nat) {ρ : Type} (as : List xV) (M : xM) (k : Option xV → xM → Option ρ) : Option ρ := pR 2 as fun o as => o.bind fun s => pI as fun x1 as => xe as ((F_X2_tell fu s x1 M).bind fun p => k (some (.inl p.1)) p.2)
def pX11_count : List xE := [(0, 0, 1, 0, 0, [], .iload_n 1),
  (0, 1, 83, 140, 0, [(0, 84), (1, 92), (2, 100), (3, 140), (4, 140), (5, 140), (6, 140), (7, 140), (8, 140), (9, 140), (10, 140), (11, 140), (12, 108), (13, 140), (14, 116), (15, 124), (16, 132)], .tableswitch 139 0 16 #[83, 91, 99, 139, 139, 139, 139, 139, 139, 139, 139, 139, 107, 139, 115, 123, 131]),
  (0, 84, 1, 0, 0, [], .aload_n 0),
  (0, 85, 3, 0, 0, [], .getfield 19),
  (0, 88, 3, 0, 0, [], .getfield 328),
  (0, 91, 1, 0, 0, [], .ireturn),
  (0, 92, 1, 0, 0, [], .aload_n 0),
  (0, 93, 3, 0, 0, [], .getfield 19),
  (0, 96, 3, 0, 0, [], .getfield 331),
  (0, 99, 1, 0, 0, [], .ireturn),
  (0, 100, 1, 0, 0, [], .aload_n 0),
  (0, 101, 3, 0, 0, [], .getfield 19),
  (0, 104, 3, 0, 0, [], .getfield 334),
  (0, 107, 1, 0, 0, [], .ireturn),
  (0, 108, 1, 0, 0, [], .aload_n 0),
  (0, 109, 3, 0, 0, [], .getfield 48),
  (0, 112, 3, 0, 0, [], .getfield 253),
  (0, 115, 1, 0, 0, [], .ireturn),
  (0, 116, 1, 0, 0, [], .aload_n 0),
  (0, 117, 3, 0, 0, [], .getfield 29),
  (0, 120, 3, 0, 0, [], .getfield 337),
  (0, 123, 1, 0, 0, [], .ireturn),
  (0, 124, 1, 0, 0, [], .aload_n 0),
  (0, 125, 3, 0, 0, [], .getfield 58),
  (0, 128, 3, 0, 0, [], .getfield 340),
  (0, 131, 1, 0, 0, [], .ireturn),
  (0, 132, 1, 0, 0, [], .aload_n 0),
  (0, 133, 3, 0, 0, [], .getfield 10),
  (0, 136, 3, 0, 0, [], .getfield 94),
  (0, 139, 1, 0, 0, [], .ireturn),
  (0, 140, 1, 0, 0, [], .aload_n 0),
  (0, 141, 3, 0, 0, [], .getfield 48),
  (0, 144, 1, 0, 0, [], .iload_n 1),
  (0, 145, 3, 0, 0, [], .invokevirtual 343),
  (0, 148, 1, 0, 0, [], .ireturn)]
def F_X11_count (fu : Nat) (s : Nat) (x1 : Int32) (M : xM) : Option (Int32 × xM) :=
  if x1 = 0 then
    (gR M 11 s 1).bind fun a_1 =>
    (some (gI M 7 a_1 0, M))
  else
  if x1 = 1 then
    (gR M 11 s 1).bind fun a_2 =>
    (some (gI M 7 a_2 1, M))
  else
  if x1 = 2 then
    (gR M 11 s 1).bind fun a_3 =>
    (some (gI M 7 a_3 3, M))
  else
  if x1 = 3 then
    (gR M 11 s 6).bind fun a_4 =>
    (F_X2_tell fu a_4 x1 M).bind fun p_5 =>
    (some (p_5.1, p_5.2))
  else
  if x1 = 4 then
    (gR M 11 s 6).bind fun a_6 =>
    (F_X2_tell fu a_6 x1 M).bind fun p_7 =>
    (some (p_7.1, p_7.2))
  else
  if x1 = 5 then
    (gR M 11 s 6).bind fun a_8 =>
    (F_X2_tell fu a_8 x1 M).bind fun p_9 =>
    (some (p_9.1, p_9.2))
  else
  if x1 = 6 then
    (gR M 11 s 6).bind fun a_10 =>
    (F_X2_tell fu a_10 x1 M).bind fun p_11 =>
    (some (p_11.1, p_11.2))
  else
  if x1 = 7 then
    (gR M 11 s 6).bind fun a_12 =>
    (F_X2_tell fu a_12 x1 M).bind fun p_13 =>
    (some (p_13.1, p_13.2))
  else
  if x1 = 8 then
    (gR M 11 s 6).bind fun a_14 =>
    (F_X2_tell fu a_14 x1 M).bind fun p_15 =>
    (some (p_15.1, p_15.2))
  else
  if x1 = 9 then
    (gR M 11 s 6).bind fun a_16 =>
    (F_X2_tell fu a_16 x1 M).bind fun p_17 =>
    (some (p_17.1, p_17.2))
  else
  if x1 = 10 then
    (gR M 11 s 6).bind fun a_18 =>
    (F_X2_tell fu a_18 x1 M).bind fun p_19 =>
    (some (p_19.1, p_19.2))
  else
  if x1 = 11 then
    (gR M 11 s 6).bind fun a_20 =>
    (F_X2_tell fu a_20 x1 M).bind fun p_21 =>
    (some (p_21.1, p_21.2))
  else
  if x1 = 12 then
    (gR M 11 s 6).bind fun a_22 =>
    (some (gI M 2 a_22 2, M))
  else
  if x1 = 13 then
    (gR M 11 s 6).bind fun a_23 =>
    (F_X2_tell fu a_23 x1 M).bind fun p_24 =>
    (some (p_24.1, p_24.2))
  else
  if x1 = 14 then
    (gR M 11 s 3).bind fun a_25 =>
    (some (gI M 9 a_25 0, M))
  else
  if x1 = 15 then
    (gR M 11 s 8).bind fun a_26 =>
    (some (gI M 1 a_26 0, M))
  else
  if x1 = 16 then
    (gR M 11 s 0).bind fun a_27 =>
    (some (gI M 10 a_27 1, M))
  else
    (gR M 11 s 6).bind fun a_28 =>
    (F_X2_tell fu a_28 x1 M).bind fun p_29 =>
    (some (p_29.1, p_29.2))
set_option maxRecDepth 100000 in
theorem q_X11_count (fu : Nat) (s : Nat) (x1 : Int32) (M : xM) :
    xrun pX11_count flX11 koX11 nwX11 [(343, 2, 0, 0, w_X2_tell fu)] [] xrtI 37 (xat 0 pX11_count) 0 0 [(0, .inr (.inr (11, some s))), (1, .inl x1)] [] M = F_X11_count fu s x1 M := rfl
def w_X11_count (fu : Nat) {ρ : Type} (as : List xV) (M : xM) (k : Option xV → xM → Option ρ) : Option ρ := pR 11 as fun o as => o.bind fun s => pI as fun x1 as => xe as ((F_X11_count fu s x1 M).bind fun p => k (some (.inl p.1)) p.2)
def pX2_cutAt : List xE := [(0, 0, 1, 0, 0, [], .aload_n 0),
  (0, 1, 3, 0, 0, [], .getfield 47),
  (0, 4, 3, 18, 0, [], .ifCond .eq 14),
  (0, 7, 1, 0, 0, [], .iload_n 1),
  (0, 8, 1, 0, 1, [], .iconst 1),
  (0, 9, 3, 18, 0, [], .if_icmp .lt 9),
  (0, 12, 1, 0, 0, [], .iload_n 1),
  (0, 13, 2, 0, 20, [], .bipush 20),
  (0, 15, 3, 20, 0, [], .if_icmp .le 5),
  (0, 18, 1, 0, 0, [], .iconst 0),
  (0, 19, 1, 0, 0, [], .ireturn),
  (0, 20, 1, 0, 0, [], .aload_n 0),
  (0, 21, 1, 0, 0, [], .iload_n 1),
  (0, 22, 3, 0, 0, [], .putfield 55),
  (0, 25, 1, 0, 1, [], .iconst 1),
  (0, 26, 1, 0, 0, [], .ireturn)]
def F_X2_cutAt (fu : Nat) (s : Nat) (x1 : Int32) (M : xM) : Option (Int32 × xM) :=
  if (gI M 2 s 1) = 0 then
    gd (xbool 0) (some (0, M))
  else
    if x1 < 1 then
      gd (xbool 0) (some (0, M))
    else
      if x1 ≤ 20 then
        let M_1 := sI M 2 s 2 x1
        gd (xbool 1) (some (1, M_1))
      else
        gd (xbool 0) (some (0, M))
set_option maxRecDepth 100000 in
theorem q_X2_cutAt (fu : Nat) (s : Nat) (x1 : Int32) (M : xM) :
    xrun pX2_cutAt flX2 koX2 nwX2 [] [] xrtZ 18 (xat 0 pX2_cutAt) 0 0 [(0, .inr (.inr (2, some s))), (1, .inl x1)] [] M = F_X2_cutAt fu s x1 M := rfl
def w_X2_cutAt (fu : Nat) {ρ : Type} (as : List xV) (M : xM) (k : Option xV → xM → Option ρ) : Option ρ := pR 2 as fun o as => o.bind fun s => pI as fun x1 as => xe as ((F_X2_cutAt fu s x1 M).bind fun p => k (some (.inl p.1)) p.2)
def pX11_cut : List xE := [(0, 0, 1, 0, 0, [], .aload_n 0),
  (0, 1, 3, 0, 0, [], .getfield 48),
  (0, 4, 1, 0, 0, [], .iload_n 1),
  (0, 5, 3, 0, 0, [], .invokevirtual 201),
  (0, 8, 1, 0, 0, [], .ireturn)]
def F_X11_cut (fu : Nat) (s : Nat) (x1 : Int32) (M : xM) : Option (Int32 × xM) :=
  (gR M 11 s 6).bind fun a_1 =>
  (F_X2_cutAt fu a_1 x1 M).bind fun p_2 =>
  gd (xbool p_2.1) (some (p_2.1, p_2.2))
set_option maxRecDepth 100000 in
theorem q_X11_cut (fu : Nat) (s : Nat) (x1 : Int32) (M : xM) :
    xrun pX11_cut flX11 koX11 nwX11 [(201, 2, 0, 0, w_X2_cutAt fu)] [] xrtZ 7 (xat 0 pX11_cut) 0 0 [(0, .inr (.inr (11, some s))), (1, .inl x1)] [] M = F_X11_cut fu s x1 M := rfl
def w_X11_cut (fu : Nat) {ρ : Type} (as : List xV) (M : xM) (k : Option xV → xM → Option ρ) : Option ρ := pR 11 as fun o as => o.bind fun s => pI as fun x1 as => xe as ((F_X11_cut fu s x1 M).bind fun p => k (some (.inl p.1)) p.2)
def pX1_fit : List xE := [(0, 0, 1, 0, 0, [], .iconst 0),
  (0, 1, 1, 0, 0, [], .istore_n 3),
  (1, 2, 1, 0, 0, [], .iload_n 3),
  (0, 3, 1, 0, 0, [], .aload_n 0),
  (0, 4, 3, 0, 0, [], .getfield 20),
  (0, 7, 3, 68, 0, [], .if_icmp .ge 61),
  (0, 10, 1, 0, 0, [], .iload_n 3),
  (0, 11, 2, 0, 8, [], .bipush 8),
  (0, 13, 3, 68, 0, [], .if_icmp .ge 55),
  (0, 16, 1, 0, 0, [], .iload_n 2),
  (0, 17, 1, 0, 0, [], .aload_n 0),
  (0, 18, 3, 0, 0, [], .getfield 9),
  (0, 21, 1, 0, 0, [], .iload_n 3),
  (0, 22, 1, 0, 0, [], .iaload),
  (0, 23, 1, 0, 0, [], .iadd),
  (0, 24, 2, 0, 0, [], .istore 4),
  (0, 26, 2, 0, 0, [], .iload 4),
  (0, 28, 1, 0, 0, [], .aload_n 1),
  (0, 29, 1, 0, 0, [], .arraylength),
  (0, 30, 3, 60, 0, [], .if_icmp .ge 30),
  (0, 33, 1, 0, 0, [], .aload_n 1),
  (0, 34, 2, 0, 0, [], .iload 4),
  (0, 36, 1, 0, 0, [], .iaload),
  (0, 37, 1, 0, 0, [], .aload_n 0),
  (0, 38, 3, 0, 0, [], .getfield 13),
  (0, 41, 1, 0, 0, [], .iload_n 3),
  (0, 42, 1, 0, 0, [], .iaload),
  (0, 43, 3, 50, 0, [], .if_icmp .ne 7),
  (0, 46, 1, 0, 1, [], .iconst 1),
  (0, 47, 3, 51, 0, [], .goto 4),
  (0, 50, 1, 0, 0, [], .iconst 0),
  (1, 51, 1, 0, 0, [], .aload_n 0),
  (0, 52, 3, 0, 0, [], .getfield 16),
  (0, 55, 1, 0, 0, [], .iload_n 3),
  (0, 56, 1, 0, 0, [], .baload),
  (0, 57, 3, 62, 0, [], .if_icmp .eq 5),
  (0, 60, 1, 0, 0, [], .iconst 0),
  (0, 61, 1, 0, 0, [], .ireturn),
  (0, 62, 3, 0, 1, [], .iinc 3 1),
  (0, 65, 3, 2, 0, [], .goto (-63)),
  (0, 68, 1, 0, 1, [], .iconst 1),
  (0, 69, 1, 0, 0, [], .ireturn)]
def J_X1_fit_51 (fu : Nat) (k2 : Nat → Option Nat → Int32 → Int32 → xM → Option (Int32 × xM)) (s : Nat) (x1 : Option Nat) (x2 : Int32) (x3 : Int32) (y0 : Int32) (M : xM) : Option (Int32 × xM) :=
  (gR M 1 s 3).bind fun a_1 =>
  gd (xin x3 (gN M 22 a_1)) <|
  if y0 = (gI M 22 a_1 (xi x3)) then
    k2 s x1 x2 (x3 + 1) M
  else
    gd (xbool 0) (some (0, M))
set_option maxRecDepth 100000 in
theorem q_X1_fit_51 (fu : Nat) (k2 : Nat → Option Nat → Int32 → Int32 → xM → Option (Int32 × xM)) (s : Nat) (x1 : Option Nat) (x2 : Int32) (x3 : Int32) (y0 : Int32) (M : xM) :
    xrun pX1_fit flX1 koX1 nwX1 [] [(2, fun bc bs ls st M => xz bc bs (lR ls 0 1 fun o => o.bind fun s => lR ls 1 20 fun x1 => lI ls 2 fun x2 => lI ls 3 fun x3 => xe st (k2 s x1 x2 x3 M)))] xrtZ 44 (xat 51 pX1_fit) 0 0 [(0, .inr (.inr (1, some s))), (1, .inr (.inr (20, x1))), (2, .inl x2), (3, .inl x3)] [.inl y0] M = J_X1_fit_51 fu k2 s x1 x2 x3 y0 M := rfl
def L_X1_fit_2 (fu : Nat) : Nat → Nat → Option Nat → Int32 → Int32 → xM → Option (Int32 × xM)
  | 0, _, _, _, _, _ => none
  | n + 1, s, x1, x2, x3, M =>
    if (gI M 1 s 0) ≤ x3 then
      gd (xbool 1) (some (1, M))
    else
      if 8 ≤ x3 then
        gd (xbool 1) (some (1, M))
      else
        (gR M 1 s 1).bind fun a_1 =>
        gd (xin x3 (gN M 20 a_1)) <|
        let x4_2 : Int32 := x2 + (gI M 20 a_1 (xi x3))
        x1.bind fun a_3 =>
        if (Int32.ofNat (gN M 20 a_3)) ≤ x4_2 then
          gd (xbool 0) (some (0, M))
        else
          x1.bind fun a_4 =>
          gd (xin x4_2 (gN M 20 a_4)) <|
          (gR M 1 s 2).bind fun a_5 =>
          gd (xin x3 (gN M 20 a_5)) <|
          if ¬ (gI M 20 a_4 (xi x4_2)) = (gI M 20 a_5 (xi x3)) then
            J_X1_fit_51 fu (L_X1_fit_2 fu n) s x1 x2 x3 0 M
          else
            J_X1_fit_51 fu (L_X1_fit_2 fu n) s x1 x2 x3 1 M
set_option maxRecDepth 100000 in
theorem q_X1_fit_2 (fu : Nat) (n : Nat) (s : Nat) (x1 : Option Nat) (x2 : Int32) (x3 : Int32) (M : xM) :
    xrun pX1_fit flX1 koX1 nwX1 [] [(51, fun bc bs ls st M => xz bc bs (lR ls 0 1 fun o => o.bind fun s => lR ls 1 20 fun x1 => lI ls 2 fun x2 => lI ls 3 fun x3 => pI st fun y0 st => xe st (J_X1_fit_51 fu (L_X1_fit_2 fu n) s x1 x2 x3 y0 M)))] xrtZ 44 (xat 2 pX1_fit) 0 0 [(0, .inr (.inr (1, some s))), (1, .inr (.inr (20, x1))), (2, .inl x2), (3, .inl x3)] [] M = L_X1_fit_2 fu (n + 1) s x1 x2 x3 M := rfl
def F_X1_fit (fu : Nat) (s : Nat) (x1 : Option Nat) (x2 : Int32) (M : xM) : Option (Int32 × xM) :=
  L_X1_fit_2 fu fu s x1 x2 0 M
set_option maxRecDepth 100000 in
theorem q_X1_fit (fu : Nat) (s : Nat) (x1 : Option Nat) (x2 : Int32) (M : xM) :
    xrun pX1_fit flX1 koX1 nwX1 [] [(2, fun bc bs ls st M => xz bc bs (lR ls 0 1 fun o => o.bind fun s => lR ls 1 20 fun x1 => lI ls 2 fun x2 => lI ls 3 fun x3 => xe st (L_X1_fit_2 fu fu s x1 x2 x3 M)))] xrtZ 44 (xat 0 pX1_fit) 0 0 [(0, .inr (.inr (1, some s))), (1, .inr (.inr (20, x1))), (2, .inl x2)] [] M = F_X1_fit fu s x1 x2 M := rfl
def w_X1_fit (fu : Nat) {ρ : Type} (as : List xV) (M : xM) (k : Option xV → xM → Option ρ) : Option ρ := pR 1 as fun o as => o.bind fun s => pR 20 as fun x1 as => pI as fun x2 as => xe as ((F_X1_fit fu s x1 x2 M).bind fun p => k (some (.inl p.1)) p.2)
def pX3_fitting : List xE := [(0, 0, 1, 0, 0, [], .iconst 0),
  (0, 1, 1, 0, 0, [], .istore_n 2),
  (0, 2, 1, 0, 0, [], .iconst 0),
  (0, 3, 1, 0, 0, [], .istore_n 3),
  (1, 4, 1, 0, 0, [], .iload_n 3),
  (0, 5, 1, 0, 0, [], .aload_n 0),
  (0, 6, 3, 0, 0, [], .getfield 29),
  (0, 9, 3, 58, 0, [], .if_icmp .ge 49),
  (0, 12, 1, 0, 0, [], .aload_n 0),
  (0, 13, 3, 0, 0, [], .getfield 21),
  (0, 16, 1, 0, 0, [], .iload_n 3),
  (0, 17, 1, 0, 0, [], .aload_n 1),
  (0, 18, 1, 0, 0, [], .aload_n 0),
  (0, 19, 3, 0, 0, [], .getfield 11),
  (0, 22, 1, 0, 0, [], .iload_n 3),
  (0, 23, 2, 0, 20, [], .bipush 20),
  (0, 25, 1, 0, 0, [], .imul),
  (0, 26, 3, 0, 0, [], .invokevirtual 46),
  (0, 29, 1, 0, 0, [], .bastore),
  (0, 30, 1, 0, 0, [], .iload_n 2),
  (0, 31, 1, 0, 0, [], .aload_n 0),
  (0, 32, 3, 0, 0, [], .getfield 21),
  (0, 35, 1, 0, 0, [], .iload_n 3),
  (0, 36, 1, 0, 0, [], .baload),
  (0, 37, 3, 49, 0, [], .ifCond .eq 12),
  (0, 40, 1, 0, 0, [], .aload_n 0),
  (0, 41, 3, 0, 0, [], .getfield 15),
  (0, 44, 1, 0, 0, [], .iload_n 3),
  (0, 45, 1, 0, 0, [], .iaload),
  (0, 46, 3, 50, 0, [], .goto 4),
  (0, 49, 1, 0, 0, [], .iconst 0),
  (0, 50, 1, 0, 0, [], .iadd),
  (0, 51, 1, 0, 0, [], .istore_n 2),
  (0, 52, 3, 0, 1, [], .iinc 3 1),
  (0, 55, 3, 4, 0, [], .goto (-51)),
  (0, 58, 1, 0, 0, [], .iload_n 2),
  (0, 59, 1, 0, 0, [], .ireturn)]
def L_X3_fitting_4 (fu : Nat) : Nat → Nat → Option Nat → Int32 → Int32 → xM → Option (Int32 × xM)
  | 0, _, _, _, _, _ => none
  | n + 1, s, x1, x2, x3, M =>
    if (gI M 3 s 1) ≤ x3 then
      (some (x2, M))
    else
      x1.bind fun a_1 =>
      (F_X1_fit fu a_1 (gR M 3 s 2) (x3 * 20) M).bind fun p_2 =>
      (gR M 3 s 5).bind fun a_3 =>
      gd (xin x3 (gN p_2.2 22 a_3)) <|
      gd (xbool p_2.1) <|
      let M_4 := sI p_2.2 22 a_3 (xi x3) p_2.1
      (gR M_4 3 s 5).bind fun a_5 =>
      gd (xin x3 (gN M_4 22 a_5)) <|
      if (gI M_4 22 a_5 (xi x3)) = 0 then
        let x2_6 : Int32 := x2 + 0
        L_X3_fitting_4 fu n s x1 x2_6 (x3 + 1) M_4
      else
        (gR M_4 3 s 3).bind fun a_7 =>
        gd (xin x3 (gN M_4 20 a_7)) <|
        let x2_8 : Int32 := x2 + (gI M_4 20 a_7 (xi x3))
        L_X3_fitting_4 fu n s x1 x2_8 (x3 + 1) M_4
set_option maxRecDepth 100000 in
theorem q_X3_fitting_4 (fu : Nat) (n : Nat) (s : Nat) (x1 : Option Nat) (x2 : Int32) (x3 : Int32) (M : xM) :
    xrun pX3_fitting flX3 koX3 nwX3 [(46, 3, 0, 0, w_X1_fit fu)] [(4, fun bc bs ls st M => xz bc bs (lR ls 0 3 fun o => o.bind fun s => lR ls 1 1 fun x1 => lI ls 2 fun x2 => lI ls 3 fun x3 => xe st (L_X3_fitting_4 fu n s x1 x2 x3 M)))] xrtI 39 (xat 4 pX3_fitting) 0 0 [(0, .inr (.inr (3, some s))), (1, .inr (.inr (1, x1))), (2, .inl x2), (3, .inl x3)] [] M = L_X3_fitting_4 fu (n + 1) s x1 x2 x3 M := rfl
def F_X3_fitting (fu : Nat) (s : Nat) (x1 : Option Nat) (M : xM) : Option (Int32 × xM) :=
  L_X3_fitting_4 fu fu s x1 0 0 M
set_option maxRecDepth 100000 in
theorem q_X3_fitting (fu : Nat) (s : Nat) (x1 : Option Nat) (M : xM) :
    xrun pX3_fitting flX3 koX3 nwX3 [] [(4, fun bc bs ls st M => xz bc bs (lR ls 0 3 fun o => o.bind fun s => lR ls 1 1 fun x1 => lI ls 2 fun x2 => lI ls 3 fun x3 => xe st (L_X3_fitting_4 fu fu s x1 x2 x3 M)))] xrtI 39 (xat 0 pX3_fitting) 0 0 [(0, .inr (.inr (3, some s))), (1, .inr (.inr (1, x1)))] [] M = F_X3_fitting fu s x1 M := rfl
def w_X3_fitting (fu : Nat) {ρ : Type} (as : List xV) (M : xM) (k : Option xV → xM → Option ρ) : Option ρ := pR 3 as fun o as => o.bind fun s => pR 1 as fun x1 as => xe as ((F_X3_fitting fu s x1 M).bind fun p => k (some (.inl p.1)) p.2)
def pX11_cuts : List xE := [(0, 0, 1, 0, 0, [], .aload_n 0),
  (0, 1, 3, 0, 0, [], .getfield 67),
  (0, 4, 1, 0, 0, [], .aload_n 0),
  (0, 5, 3, 0, 0, [], .getfield 19),
  (0, 8, 1, 0, 0, [], .aload_n 0),
  (0, 9, 3, 0, 0, [], .getfield 29),
  (0, 12, 3, 0, 0, [], .invokevirtual 207),
  (0, 15, 1, 0, 0, [], .aload_n 0),
  (0, 16, 3, 0, 0, [], .getfield 67),
  (0, 19, 3, 0, 0, [], .getfield 285),
  (0, 22, 1, 0, 0, [], .aload_n 0),
  (0, 23, 3, 0, 0, [], .getfield 58),
  (0, 26, 3, 0, 0, [], .invokevirtual 300),
  (0, 29, 1, 0, 0, [], .ireturn)]
def F_X11_cuts (fu : Nat) (s : Nat) (M : xM) : Option (Int32 × xM) :=
  (gR M 11 s 9).bind fun a_1 =>
  (F_X5_run fu a_1 (gR M 11 s 1) (gR M 11 s 3) M).bind fun p_2 =>
  (gR p_2 11 s 9).bind fun a_3 =>
  (gR p_2 5 a_3 0).bind fun a_4 =>
  (F_X3_fitting fu a_4 (gR p_2 11 s 8) p_2).bind fun p_5 =>
  (some (p_5.1, p_5.2))
set_option maxRecDepth 100000 in
theorem q_X11_cuts (fu : Nat) (s : Nat) (M : xM) :
    xrun pX11_cuts flX11 koX11 nwX11 [(207, 3, 0, 0, w_X5_run fu), (300, 2, 0, 0, w_X3_fitting fu)] [] xrtI 16 (xat 0 pX11_cuts) 0 0 [(0, .inr (.inr (11, some s)))] [] M = F_X11_cuts fu s M := rfl
def w_X11_cuts (fu : Nat) {ρ : Type} (as : List xV) (M : xM) (k : Option xV → xM → Option ρ) : Option ρ := pR 11 as fun o as => o.bind fun s => xe as ((F_X11_cuts fu s M).bind fun p => k (some (.inl p.1)) p.2)
def pX11_ends : List xE := [(0, 0, 1, 0, 0, [], .aload_n 0),
  (0, 1, 3, 0, 0, [], .getfield 67),
  (0, 4, 1, 0, 0, [], .aload_n 0),
  (0, 5, 3, 0, 0, [], .getfield 19),
  (0, 8, 1, 0, 0, [], .aload_n 0),
  (0, 9, 3, 0, 0, [], .getfield 29),
  (0, 12, 3, 0, 0, [], .invokevirtual 207),
  (0, 15, 1, 0, 0, [], .aload_n 0),
  (0, 16, 3, 0, 0, [], .getfield 67),
  (0, 19, 3, 0, 0, [], .getfield 285),
  (0, 22, 3, 0, 0, [], .getfield 289),
  (0, 25, 1, 0, 0, [], .ireturn)]
def F_X11_ends (fu : Nat) (s : Nat) (M : xM) : Option (Int32 × xM) :=
  (gR M 11 s 9).bind fun a_1 =>
  (F_X5_run fu a_1 (gR M 11 s 1) (gR M 11 s 3) M).bind fun p_2 =>
  (gR p_2 11 s 9).bind fun a_3 =>
  (gR p_2 5 a_3 0).bind fun a_4 =>
  (some (gI p_2 3 a_4 1, p_2))
set_option maxRecDepth 100000 in
theorem q_X11_ends (fu : Nat) (s : Nat) (M : xM) :
    xrun pX11_ends flX11 koX11 nwX11 [(207, 3, 0, 0, w_X5_run fu)] [] xrtI 14 (xat 0 pX11_ends) 0 0 [(0, .inr (.inr (11, some s)))] [] M = F_X11_ends fu s M := rfl
def w_X11_ends (fu : Nat) {ρ : Type} (as : List xV) (M : xM) (k : Option xV → xM → Option ρ) : Option ρ := pR 11 as fun o as => o.bind fun s => xe as ((F_X11_ends fu s M).bind fun p => k (some (.inl p.1)) p.2)
def pX11_feed : List xE := [(0, 0, 1, 0, 0, [], .aload_n 0),
  (0, 1, 3, 0, 0, [], .getfield 10),
  (0, 4, 1, 0, 0, [], .lload_n 1),
  (0, 5, 3, 0, 0, [], .invokevirtual 90),
  (0, 8, 1, 0, 0, [], .aload_n 0),
  (0, 9, 3, 0, 0, [], .getfield 10),
  (0, 12, 1, 0, 0, [], .lload_n 3),
  (0, 13, 3, 0, 0, [], .invokevirtual 90),
  (0, 16, 1, 0, 0, [], .aload_n 0),
  (0, 17, 3, 0, 0, [], .getfield 10),
  (0, 20, 2, 0, 0, [], .lload 5),
  (0, 22, 3, 0, 0, [], .invokevirtual 90),
  (0, 25, 1, 0, 0, [], .aload_n 0),
  (0, 26, 3, 0, 0, [], .getfield 10),
  (0, 29, 3, 0, 0, [], .getfield 94),
  (0, 32, 1, 0, 0, [], .ireturn)]
def F_X11_feed (fu : Nat) (s : Nat) (x1 : Int64) (x3 : Int64) (x5 : Int64) (M : xM) : Option (Int32 × xM) :=
  (gR M 11 s 0).bind fun a_1 =>
  (F_X10_add fu a_1 x1 M).bind fun p_2 =>
  (gR p_2 11 s 0).bind fun a_3 =>
  (F_X10_add fu a_3 x3 p_2).bind fun p_4 =>
  (gR p_4 11 s 0).bind fun a_5 =>
  (F_X10_add fu a_5 x5 p_4).bind fun p_6 =>
  (gR p_6 11 s 0).bind fun a_7 =>
  (some (gI p_6 10 a_7 1, p_6))
set_option maxRecDepth 100000 in
theorem q_X11_feed (fu : Nat) (s : Nat) (x1 : Int64) (x3 : Int64) (x5 : Int64) (M : xM) :
    xrun pX11_feed flX11 koX11 nwX11 [(90, 2, 0, 0, w_X10_add fu)] [] xrtI 18 (xat 0 pX11_feed) 0 0 [(0, .inr (.inr (11, some s))), (1, .inr (.inl x1)), (3, .inr (.inl x3)), (5, .inr (.inl x5))] [] M = F_X11_feed fu s x1 x3 x5 M := rfl
def w_X11_feed (fu : Nat) {ρ : Type} (as : List xV) (M : xM) (k : Option xV → xM → Option ρ) : Option ρ := pR 11 as fun o as => o.bind fun s => pL as fun x1 as => pL as fun x3 as => pL as fun x5 as => xe as ((F_X11_feed fu s x1 x3 x5 M).bind fun p => k (some (.inl p.1)) p.2)
def pX2_isOrphan : List xE := [(0, 0, 1, 0, 0, [], .aload_n 0),
  (0, 1, 3, 0, 0, [], .getfield 26),
  (0, 4, 1, 0, 0, [], .iload_n 1),
  (0, 5, 1, 0, 0, [], .baload),
  (0, 6, 1, 0, 0, [], .ireturn)]
def F_X2_isOrphan (fu : Nat) (s : Nat) (x1 : Int32) (M : xM) : Option (Int32 × xM) :=
  (gR M 2 s 9).bind fun a_1 =>
  gd (xin x1 (gN M 22 a_1)) <|
  gd (xbool (gI M 22 a_1 (xi x1))) (some (gI M 22 a_1 (xi x1), M))
set_option maxRecDepth 100000 in
theorem q_X2_isOrphan (fu : Nat) (s : Nat) (x1 : Int32) (M : xM) :
    xrun pX2_isOrphan flX2 koX2 nwX2 [] [] xrtZ 7 (xat 0 pX2_isOrphan) 0 0 [(0, .inr (.inr (2, some s))), (1, .inl x1)] [] M = F_X2_isOrphan fu s x1 M := rfl
def w_X2_isOrphan (fu : Nat) {ρ : Type} (as : List xV) (M : xM) (k : Option xV → xM → Option ρ) : Option ρ := pR 2 as fun o as => o.bind fun s => pI as fun x1 as => xe as ((F_X2_isOrphan fu s x1 M).bind fun p => k (some (.inl p.1)) p.2)
def pX11_file : List xE := [(0, 0, 1, 0, 0, [], .aload_n 0),
  (0, 1, 3, 0, 0, [], .getfield 19),
  (0, 4, 1, 0, 0, [], .iload_n 1),
  (0, 5, 3, 0, 0, [], .invokevirtual 163),
  (0, 8, 3, 13, 0, [], .ifCond .ne 5),
  (0, 11, 1, 0, (-1), [], .iconst (-1)),
  (0, 12, 1, 0, 0, [], .ireturn),
  (0, 13, 1, 0, 0, [], .iload_n 2),
  (0, 14, 34, 111, 0, [(0, 48), (1, 58), (2, 68), (3, 77), (4, 94)], .tableswitch 97 0 4 #[34, 44, 54, 63, 80]),
  (0, 48, 1, 0, 0, [], .aload_n 0),
  (0, 49, 3, 0, 0, [], .getfield 19),
  (0, 52, 3, 0, 0, [], .getfield 166),
  (0, 55, 1, 0, 0, [], .iload_n 1),
  (0, 56, 1, 0, 0, [], .iaload),
  (0, 57, 1, 0, 0, [], .ireturn),
  (0, 58, 1, 0, 0, [], .aload_n 0),
  (0, 59, 3, 0, 0, [], .getfield 19),
  (0, 62, 3, 0, 0, [], .getfield 169),
  (0, 65, 1, 0, 0, [], .iload_n 1),
  (0, 66, 1, 0, 0, [], .iaload),
  (0, 67, 1, 0, 0, [], .ireturn),
  (0, 68, 1, 0, 0, [], .aload_n 0),
  (0, 69, 3, 0, 0, [], .getfield 48),
  (0, 72, 1, 0, 0, [], .iload_n 1),
  (0, 73, 3, 0, 0, [], .invokevirtual 172),
  (0, 76, 1, 0, 0, [], .ireturn),
  (0, 77, 1, 0, 0, [], .aload_n 0),
  (0, 78, 3, 0, 0, [], .getfield 48),
  (0, 81, 1, 0, 0, [], .iload_n 1),
  (0, 82, 3, 0, 0, [], .invokevirtual 175),
  (0, 85, 3, 92, 0, [], .ifCond .eq 7),
  (0, 88, 1, 0, 1, [], .iconst 1),
  (0, 89, 3, 93, 0, [], .goto 4),
  (0, 92, 1, 0, 0, [], .iconst 0),
  (0, 93, 1, 0, 0, [], .ireturn),
  (0, 94, 1, 0, 0, [], .aload_n 0),
  (0, 95, 3, 0, 0, [], .getfield 48),
  (0, 98, 1, 0, 0, [], .iload_n 1),
  (0, 99, 3, 0, 0, [], .invokevirtual 178),
  (0, 102, 3, 109, 0, [], .ifCond .eq 7),
  (0, 105, 1, 0, 1, [], .iconst 1),
  (0, 106, 3, 110, 0, [], .goto 4),
  (0, 109, 1, 0, 0, [], .iconst 0),
  (0, 110, 1, 0, 0, [], .ireturn),
  (0, 111, 1, 0, (-1), [], .iconst (-1)),
  (0, 112, 1, 0, 0, [], .ireturn)]
def F_X11_file (fu : Nat) (s : Nat) (x1 : Int32) (x2 : Int32) (M : xM) : Option (Int32 × xM) :=
  (gR M 11 s 1).bind fun a_1 =>
  (F_X7_isFile fu a_1 x1 M).bind fun p_2 =>
  if ¬ p_2.1 = 0 then
    if x2 = 0 then
      (gR p_2.2 11 s 1).bind fun a_3 =>
      (gR p_2.2 7 a_3 4).bind fun a_4 =>
      gd (xin x1 (gN p_2.2 20 a_4)) <|
      (some (gI p_2.2 20 a_4 (xi x1), p_2.2))
    else
    if x2 = 1 then
      (gR p_2.2 11 s 1).bind fun a_5 =>
      (gR p_2.2 7 a_5 5).bind fun a_6 =>
      gd (xin x1 (gN p_2.2 20 a_6)) <|
      (some (gI p_2.2 20 a_6 (xi x1), p_2.2))
    else
    if x2 = 2 then
      (gR p_2.2 11 s 6).bind fun a_7 =>
      (F_X2_mappedBits fu a_7 x1 p_2.2).bind fun p_8 =>
      (some (p_8.1, p_8.2))
    else
    if x2 = 3 then
      (gR p_2.2 11 s 6).bind fun a_9 =>
      (F_X2_isOpen fu a_9 x1 p_2.2).bind fun p_10 =>
      if p_10.1 = 0 then
        (some (0, p_10.2))
      else
        (some (1, p_10.2))
    else
    if x2 = 4 then
      (gR p_2.2 11 s 6).bind fun a_11 =>
      (F_X2_isOrphan fu a_11 x1 p_2.2).bind fun p_12 =>
      if p_12.1 = 0 then
        (some (0, p_12.2))
      else
        (some (1, p_12.2))
    else
      (some ((-1), p_2.2))
  else
    (some ((-1), p_2.2))
set_option maxRecDepth 100000 in
theorem q_X11_file (fu : Nat) (s : Nat) (x1 : Int32) (x2 : Int32) (M : xM) :
    xrun pX11_file flX11 koX11 nwX11 [(163, 2, 0, 0, w_X7_isFile fu), (172, 2, 0, 0, w_X2_mappedBits fu), (175, 2, 0, 0, w_X2_isOpen fu), (178, 2, 0, 0, w_X2_isOrphan fu)] [] xrtI 48 (xat 0 pX11_file) 0 0 [(0, .inr (.inr (11, some s))), (1, .inl x1), (2, .inl x2)] [] M = F_X11_file fu s x1 x2 M := rfl
def w_X11_file (fu : Nat) {ρ : Type} (as : List xV) (M : xM) (k : Option xV → xM → Option ρ) : Option ρ := pR 11 as fun o as => o.bind fun s => pI as fun x1 as => pI as fun x2 as => xe as ((F_X11_file fu s x1 x2 M).bind fun p => k (some (.inl p.1)) p.2)
def pX2_foundPages : List xE := [(0, 0, 1, 0, 0, [], .aload_n 0),
  (0, 1, 3, 0, 0, [], .getfield 39),
  (0, 4, 1, 0, 0, [], .aload_n 0),
  (0, 5, 3, 0, 0, [], .getfield 12),
  (0, 8, 3, 0, 0, [], .invokevirtual 106),
  (0, 11, 1, 0, 0, [], .iconst 0),
  (0, 12, 1, 0, 0, [], .istore_n 1),
  (0, 13, 1, 0, 0, [], .iconst 0),
  (0, 14, 1, 0, 0, [], .istore_n 2),
  (1, 15, 1, 0, 0, [], .iload_n 2),
  (0, 16, 2, 0, 20, [], .bipush 20),
  (0, 18, 3, 42, 0, [], .if_icmp .ge 24),
  (0, 21, 1, 0, 0, [], .aload_n 0),
  (0, 22, 3, 0, 0, [], .getfield 39),
  (0, 25, 3, 0, 0, [], .getfield 255),
  (0, 28, 1, 0, 0, [], .iload_n 2),
  (0, 29, 1, 0, 0, [], .iaload),
  (0, 30, 3, 36, 0, [], .ifCond .eq 6),
  (0, 33, 3, 0, 1, [], .iinc 1 1),
  (0, 36, 3, 0, 1, [], .iinc 2 1),
  (0, 39, 3, 15, 0, [], .goto (-24)),
  (0, 42, 1, 0, 0, [], .iload_n 1),
  (0, 43, 1, 0, 0, [], .ireturn)]
def L_X2_foundPages_15 (fu : Nat) : Nat → Nat → Int32 → Int32 → xM → Option (Int32 × xM)
  | 0, _, _, _, _ => none
  | n + 1, s, x1, x2, M =>
    if 20 ≤ x2 then
      (some (x1, M))
    else
      (gR M 2 s 5).bind fun a_1 =>
      (gR M 4 a_1 0).bind fun a_2 =>
      gd (xin x2 (gN M 20 a_2)) <|
      if (gI M 20 a_2 (xi x2)) = 0 then
        L_X2_foundPages_15 fu n s x1 (x2 + 1) M
      else
        L_X2_foundPages_15 fu n s (x1 + 1) (x2 + 1) M
set_option maxRecDepth 100000 in
theorem q_X2_foundPages_15 (fu : Nat) (n : Nat) (s : Nat) (x1 : Int32) (x2 : Int32) (M : xM) :
    xrun pX2_foundPages flX2 koX2 nwX2 [] [(15, fun bc bs ls st M => xz bc bs (lR ls 0 2 fun o => o.bind fun s => lI ls 1 fun x1 => lI ls 2 fun x2 => xe st (L_X2_foundPages_15 fu n s x1 x2 M)))] xrtI 25 (xat 15 pX2_foundPages) 0 0 [(0, .inr (.inr (2, some s))), (1, .inl x1), (2, .inl x2)] [] M = L_X2_foundPages_15 fu (n + 1) s x1 x2 M := rfl
def F_X2_foundPages (fu : Nat) (s : Nat) (M : xM) : Option (Int32 × xM) :=
  (gR M 2 s 5).bind fun a_1 =>
  (F_X4_find fu a_1 (gR M 2 s 0) M).bind fun p_2 =>
  L_X2_foundPages_15 fu fu s 0 0 p_2
set_option maxRecDepth 100000 in
theorem q_X2_foundPages (fu : Nat) (s : Nat) (M : xM) :
    xrun pX2_foundPages flX2 koX2 nwX2 [(106, 2, 0, 0, w_X4_find fu)] [(15, fun bc bs ls st M => xz bc bs (lR ls 0 2 fun o => o.bind fun s => lI ls 1 fun x1 => lI ls 2 fun x2 => xe st (L_X2_foundPages_15 fu fu s x1 x2 M)))] xrtI 25 (xat 0 pX2_foundPages) 0 0 [(0, .inr (.inr (2, some s)))] [] M = F_X2_foundPages fu s M := rfl
def w_X2_foundPages (fu : Nat) {ρ : Type} (as : List xV) (M : xM) (k : Option xV → xM → Option ρ) : Option ρ := pR 2 as fun o as => o.bind fun s => xe as ((F_X2_foundPages fu s M).bind fun p => k (some (.inl p.1)) p.2)
def pX11_found : List xE := [(0, 0, 1, 0, 0, [], .aload_n 0),
  (0, 1, 3, 0, 0, [], .getfield 48),
  (0, 4, 3, 0, 0, [], .invokevirtual 256),
  (0, 7, 1, 0, 0, [], .ireturn)]
def F_X11_found (fu : Nat) (s : Nat) (M : xM) : Option (Int32 × xM) :=
  (gR M 11 s 6).bind fun a_1 =>
  (F_X2_foundPages fu a_1 M).bind fun p_2 =>
  (some (p_2.1, p_2.2))
set_option maxRecDepth 100000 in
theorem q_X11_found (fu : Nat) (s : Nat) (M : xM) :
    xrun pX11_found flX11 koX11 nwX11 [(256, 1, 0, 0, w_X2_foundPages fu)] [] xrtI 6 (xat 0 pX11_found) 0 0 [(0, .inr (.inr (11, some s)))] [] M = F_X11_found fu s M := rfl
def w_X11_found (fu : Nat) {ρ : Type} (as : List xV) (M : xM) (k : Option xV → xM → Option ρ) : Option ρ := pR 11 as fun o as => o.bind fun s => xe as ((F_X11_found fu s M).bind fun p => k (some (.inl p.1)) p.2)
def pX2_gained : List xE := [(0, 0, 1, 0, 0, [], .aload_n 0),
  (0, 1, 3, 0, 0, [], .invokevirtual 226),
  (0, 4, 1, 0, 0, [], .istore_n 1),
  (0, 5, 1, 0, 0, [], .iload_n 1),
  (0, 6, 3, 13, 0, [], .ifCond .ge 7),
  (0, 9, 1, 0, (-1), [], .iconst (-1)),
  (0, 10, 3, 18, 0, [], .goto 8),
  (0, 13, 1, 0, 0, [], .aload_n 0),
  (0, 14, 1, 0, 0, [], .iload_n 1),
  (0, 15, 3, 0, 0, [], .invokevirtual 246),
  (0, 18, 1, 0, 0, [], .ireturn)]
def F_X2_gained (fu : Nat) (s : Nat) (M : xM) : Option (Int32 × xM) :=
  (F_X2_picked fu s M).bind fun p_1 =>
  if 0 ≤ p_1.1 then
    (F_X2_dirtyIn fu s p_1.1 p_1.2).bind fun p_2 =>
    (some (p_2.1, p_2.2))
  else
    (some ((-1), p_1.2))
set_option maxRecDepth 100000 in
theorem q_X2_gained (fu : Nat) (s : Nat) (M : xM) :
    xrun pX2_gained flX2 koX2 nwX2 [(226, 1, 0, 0, w_X2_picked fu), (246, 2, 0, 0, w_X2_dirtyIn fu)] [] xrtI 13 (xat 0 pX2_gained) 0 0 [(0, .inr (.inr (2, some s)))] [] M = F_X2_gained fu s M := rfl
def w_X2_gained (fu : Nat) {ρ : Type} (as : List xV) (M : xM) (k : Option xV → xM → Option ρ) : Option ρ := pR 2 as fun o as => o.bind fun s => xe as ((F_X2_gained fu s M).bind fun p => k (some (.inl p.1)) p.2)
def pX11_gain : List xE := [(0, 0, 1, 0, 0, [], .aload_n 0),
  (0, 1, 3, 0, 0, [], .getfield 48),
  (0, 4, 3, 0, 0, [], .invokevirtual 243),
  (0, 7, 1, 0, 0, [], .ireturn)]
def F_X11_gain (fu : Nat) (s : Nat) (M : xM) : Option (Int32 × xM) :=
  (gR M 11 s 6).bind fun a_1 =>
  (F_X2_gained fu a_1 M).bind fun p_2 =>
  (some (p_2.1, p_2.2))
set_option maxRecDepth 100000 in
theorem q_X11_gain (fu : Nat) (s : Nat) (M : xM) :
    xrun pX11_gain flX11 koX11 nwX11 [(243, 1, 0, 0, w_X2_gained fu)] [] xrtI 6 (xat 0 pX11_gain) 0 0 [(0, .inr (.inr (11, some s)))] [] M = F_X11_gain fu s M := rfl
def w_X11_gain (fu : Nat) {ρ : Type} (as : List xV) (M : xM) (k : Option xV → xM → Option ρ) : Option ρ := pR 11 as fun o as => o.bind fun s => xe as ((F_X11_gain fu s M).bind fun p => k (some (.inl p.1)) p.2)
def pX11_halves : List xE := [(0, 0, 1, 0, 0, [], .aload_n 0),
  (0, 1, 3, 0, 0, [], .getfield 67),
  (0, 4, 1, 0, 0, [], .aload_n 0),
  (0, 5, 3, 0, 0, [], .getfield 19),
  (0, 8, 1, 0, 0, [], .aload_n 0),
  (0, 9, 3, 0, 0, [], .getfield 29),
  (0, 12, 3, 0, 0, [], .invokevirtual 207),
  (0, 15, 1, 0, 0, [], .aload_n 0),
  (0, 16, 3, 0, 0, [], .getfield 67),
  (0, 19, 3, 0, 0, [], .getfield 294),
  (0, 22, 1, 0, 0, [], .ireturn)]
def F_X11_halves (fu : Nat) (s : Nat) (M : xM) : Option (Int32 × xM) :=
  (gR M 11 s 9).bind fun a_1 =>
  (F_X5_run fu a_1 (gR M 11 s 1) (gR M 11 s 3) M).bind fun p_2 =>
  (gR p_2 11 s 9).bind fun a_3 =>
  (some (gI p_2 5 a_3 1, p_2))
set_option maxRecDepth 100000 in
theorem q_X11_halves (fu : Nat) (s : Nat) (M : xM) :
    xrun pX11_halves flX11 koX11 nwX11 [(207, 3, 0, 0, w_X5_run fu)] [] xrtI 13 (xat 0 pX11_halves) 0 0 [(0, .inr (.inr (11, some s)))] [] M = F_X11_halves fu s M := rfl
def w_X11_halves (fu : Nat) {ρ : Type} (as : List xV) (M : xM) (k : Option xV → xM → Option ρ) : Option ρ := pR 11 as fun o as => o.bind fun s => xe as ((F_X11_halves fu s M).bind fun p => k (some (.inl p.1)) p.2)
def pX2_dirtyDataOf : List xE := [(0, 0, 1, 0, 0, [], .aload_n 0),
  (0, 1, 3, 0, 0, [], .invokevirtual 174),
  (0, 4, 1, 0, 0, [], .iconst 0),
  (0, 5, 1, 0, 0, [], .istore_n 2),
  (0, 6, 1, 0, 0, [], .iconst 0),
  (0, 7, 1, 0, 0, [], .istore_n 3),
  (1, 8, 1, 0, 0, [], .iload_n 3),
  (0, 9, 1, 0, 0, [], .aload_n 0),
  (0, 10, 3, 0, 0, [], .getfield 12),
  (0, 13, 3, 0, 0, [], .getfield 177),
  (0, 16, 3, 63, 0, [], .if_icmp .ge 47),
  (0, 19, 1, 0, 0, [], .aload_n 0),
  (0, 20, 3, 0, 0, [], .getfield 12),
  (0, 23, 3, 0, 0, [], .getfield 270),
  (0, 26, 1, 0, 0, [], .iload_n 3),
  (0, 27, 1, 0, 0, [], .iaload),
  (0, 28, 1, 0, 1, [], .iconst 1),
  (0, 29, 3, 57, 0, [], .if_icmp .ne 28),
  (0, 32, 1, 0, 0, [], .aload_n 0),
  (0, 33, 3, 0, 0, [], .getfield 12),
  (0, 36, 3, 0, 0, [], .getfield 279),
  (0, 39, 1, 0, 0, [], .iload_n 3),
  (0, 40, 1, 0, 0, [], .iaload),
  (0, 41, 1, 0, 0, [], .iload_n 1),
  (0, 42, 3, 57, 0, [], .if_icmp .ne 15),
  (0, 45, 1, 0, 0, [], .aload_n 0),
  (0, 46, 3, 0, 0, [], .getfield 29),
  (0, 49, 1, 0, 0, [], .iload_n 3),
  (0, 50, 1, 0, 0, [], .baload),
  (0, 51, 3, 57, 0, [], .ifCond .ne 6),
  (0, 54, 3, 0, 1, [], .iinc 2 1),
  (0, 57, 3, 0, 1, [], .iinc 3 1),
  (0, 60, 3, 8, 0, [], .goto (-52)),
  (0, 63, 1, 0, 0, [], .iload_n 2),
  (0, 64, 1, 0, 0, [], .ireturn)]
def L_X2_dirtyDataOf_8 (fu : Nat) : Nat → Nat → Int32 → Int32 → Int32 → xM → Option (Int32 × xM)
  | 0, _, _, _, _, _ => none
  | n + 1, s, x1, x2, x3, M =>
    (gR M 2 s 0).bind fun a_1 =>
    if (gI M 0 a_1 2) ≤ x3 then
      (some (x2, M))
    else
      (gR M 2 s 0).bind fun a_2 =>
      (gR M 0 a_2 9).bind fun a_3 =>
      gd (xin x3 (gN M 20 a_3)) <|
      if ¬ (gI M 20 a_3 (xi x3)) = 1 then
        L_X2_dirtyDataOf_8 fu n s x1 x2 (x3 + 1) M
      else
        (gR M 2 s 0).bind fun a_4 =>
        (gR M 0 a_4 11).bind fun a_5 =>
        gd (xin x3 (gN M 20 a_5)) <|
        if ¬ (gI M 20 a_5 (xi x3)) = x1 then
          L_X2_dirtyDataOf_8 fu n s x1 x2 (x3 + 1) M
        else
          (gR M 2 s 12).bind fun a_6 =>
          gd (xin x3 (gN M 22 a_6)) <|
          if ¬ (gI M 22 a_6 (xi x3)) = 0 then
            L_X2_dirtyDataOf_8 fu n s x1 x2 (x3 + 1) M
          else
            L_X2_dirtyDataOf_8 fu n s x1 (x2 + 1) (x3 + 1) M
set_option maxRecDepth 100000 in
theorem q_X2_dirtyDataOf_8 (fu : Nat) (n : Nat) (s : Nat) (x1 : Int32) (x2 : Int32) (x3 : Int32) (M : xM) :
    xrun pX2_dirtyDataOf flX2 koX2 nwX2 [] [(8, fun bc bs ls st M => xz bc bs (lR ls 0 2 fun o => o.bind fun s => lI ls 1 fun x1 => lI ls 2 fun x2 => lI ls 3 fun x3 => xe st (L_X2_dirtyDataOf_8 fu n s x1 x2 x3 M)))] xrtI 37 (xat 8 pX2_dirtyDataOf) 0 0 [(0, .inr (.inr (2, some s))), (1, .inl x1), (2, .inl x2), (3, .inl x3)] [] M = L_X2_dirtyDataOf_8 fu (n + 1) s x1 x2 x3 M := rfl
def F_X2_dirtyDataOf (fu : Nat) (s : Nat) (x1 : Int32) (M : xM) : Option (Int32 × xM) :=
  (F_X2_survey fu s M).bind fun p_1 =>
  L_X2_dirtyDataOf_8 fu fu s x1 0 0 p_1
set_option maxRecDepth 100000 in
theorem q_X2_dirtyDataOf (fu : Nat) (s : Nat) (x1 : Int32) (M : xM) :
    xrun pX2_dirtyDataOf flX2 koX2 nwX2 [(174, 1, 0, 0, w_X2_survey fu)] [(8, fun bc bs ls st M => xz bc bs (lR ls 0 2 fun o => o.bind fun s => lI ls 1 fun x1 => lI ls 2 fun x2 => lI ls 3 fun x3 => xe st (L_X2_dirtyDataOf_8 fu fu s x1 x2 x3 M)))] xrtI 37 (xat 0 pX2_dirtyDataOf) 0 0 [(0, .inr (.inr (2, some s))), (1, .inl x1)] [] M = F_X2_dirtyDataOf fu s x1 M := rfl
def w_X2_dirtyDataOf (fu : Nat) {ρ : Type} (as : List xV) (M : xM) (k : Option xV → xM → Option ρ) : Option ρ := pR 2 as fun o as => o.bind fun s => pI as fun x1 as => xe as ((F_X2_dirtyDataOf fu s x1 M).bind fun p => k (some (.inl p.1)) p.2)
def pX2_hottestFile : List xE := [(0, 0, 1, 0, (-1), [], .iconst (-1)),
  (0, 1, 1, 0, 0, [], .istore_n 1),
  (0, 2, 1, 0, 0, [], .iconst 0),
  (0, 3, 1, 0, 0, [], .istore_n 2),
  (0, 4, 1, 0, 0, [], .iconst 0),
  (0, 5, 1, 0, 0, [], .istore_n 3),
  (1, 6, 1, 0, 0, [], .iload_n 3),
  (0, 7, 1, 0, 0, [], .aload_n 0),
  (0, 8, 3, 0, 0, [], .getfield 35),
  (0, 11, 3, 0, 0, [], .getfield 291),
  (0, 14, 3, 41, 0, [], .if_icmp .ge 27),
  (0, 17, 1, 0, 0, [], .aload_n 0),
  (0, 18, 1, 0, 0, [], .iload_n 3),
  (0, 19, 3, 0, 0, [], .invokevirtual 294),
  (0, 22, 2, 0, 0, [], .istore 4),
  (0, 24, 2, 0, 0, [], .iload 4),
  (0, 26, 1, 0, 0, [], .iload_n 2),
  (0, 27, 3, 35, 0, [], .if_icmp .le 8),
  (0, 30, 1, 0, 0, [], .iload_n 3),
  (0, 31, 1, 0, 0, [], .istore_n 1),
  (0, 32, 2, 0, 0, [], .iload 4),
  (0, 34, 1, 0, 0, [], .istore_n 2),
  (0, 35, 3, 0, 1, [], .iinc 3 1),
  (0, 38, 3, 6, 0, [], .goto (-32)),
  (0, 41, 1, 0, 0, [], .iload_n 1),
  (0, 42, 1, 0, 0, [], .ireturn)]
def L_X2_hottestFile_6 (fu : Nat) : Nat → Nat → Int32 → Int32 → Int32 → xM → Option (Int32 × xM)
  | 0, _, _, _, _, _ => none
  | n + 1, s, x1, x2, x3, M =>
    (gR M 2 s 4).bind fun a_1 =>
    if (gI M 7 a_1 3) ≤ x3 then
      (some (x1, M))
    else
      (F_X2_dirtyDataOf fu s x3 M).bind fun p_2 =>
      if p_2.1 ≤ x2 then
        L_X2_hottestFile_6 fu n s x1 x2 (x3 + 1) p_2.2
      else
        L_X2_hottestFile_6 fu n s x3 p_2.1 (x3 + 1) p_2.2
set_option maxRecDepth 100000 in
theorem q_X2_hottestFile_6 (fu : Nat) (n : Nat) (s : Nat) (x1 : Int32) (x2 : Int32) (x3 : Int32) (M : xM) :
    xrun pX2_hottestFile flX2 koX2 nwX2 [(294, 2, 0, 0, w_X2_dirtyDataOf fu)] [(6, fun bc bs ls st M => xz bc bs (lR ls 0 2 fun o => o.bind fun s => lI ls 1 fun x1 => lI ls 2 fun x2 => lI ls 3 fun x3 => xe st (L_X2_hottestFile_6 fu n s x1 x2 x3 M)))] xrtI 28 (xat 6 pX2_hottestFile) 0 0 [(0, .inr (.inr (2, some s))), (1, .inl x1), (2, .inl x2), (3, .inl x3)] [] M = L_X2_hottestFile_6 fu (n + 1) s x1 x2 x3 M := rfl
def F_X2_hottestFile (fu : Nat) (s : Nat) (M : xM) : Option (Int32 × xM) :=
  L_X2_hottestFile_6 fu fu s ((-1)) 0 0 M
set_option maxRecDepth 100000 in
theorem q_X2_hottestFile (fu : Nat) (s : Nat) (M : xM) :
    xrun pX2_hottestFile flX2 koX2 nwX2 [] [(6, fun bc bs ls st M => xz bc bs (lR ls 0 2 fun o => o.bind fun s => lI ls 1 fun x1 => lI ls 2 fun x2 => lI ls 3 fun x3 => xe st (L_X2_hottestFile_6 fu fu s x1 x2 x3 M)))] xrtI 28 (xat 0 pX2_hottestFile) 0 0 [(0, .inr (.inr (2, some s)))] [] M = F_X2_hottestFile fu s M := rfl
def w_X2_hottestFile (fu : Nat) {ρ : Type} (as : List xV) (M : xM) (k : Option xV → xM → Option ρ) : Option ρ := pR 2 as fun o as => o.bind fun s => xe as ((F_X2_hottestFile fu s M).bind fun p => k (some (.inl p.1)) p.2)
def pX11_hot : List xE := [(0, 0, 1, 0, 0, [], .aload_n 0),
  (0, 1, 3, 0, 0, [], .getfield 48),
  (0, 4, 3, 0, 0, [], .invokevirtual 275),
  (0, 7, 1, 0, 0, [], .ireturn)]
def F_X11_hot (fu : Nat) (s : Nat) (M : xM) : Option (Int32 × xM) :=
  (gR M 11 s 6).bind fun a_1 =>
  (F_X2_hottestFile fu a_1 M).bind fun p_2 =>
  (some (p_2.1, p_2.2))
set_option maxRecDepth 100000 in
theorem q_X11_hot (fu : Nat) (s : Nat) (M : xM) :
    xrun pX11_hot flX11 koX11 nwX11 [(275, 1, 0, 0, w_X2_hottestFile fu)] [] xrtI 6 (xat 0 pX11_hot) 0 0 [(0, .inr (.inr (11, some s)))] [] M = F_X11_hot fu s M := rfl
def w_X11_hot (fu : Nat) {ρ : Type} (as : List xV) (M : xM) (k : Option xV → xM → Option ρ) : Option ρ := pR 11 as fun o as => o.bind fun s => xe as ((F_X11_hot fu s M).bind fun p => k (some (.inl p.1)) p.2)
def pX8_init : List xE := [(0, 0, 1, 0, 0, [], .aload_n 0),
  (0, 1, 3, 0, 0, [], .invokespecial 1),
  (0, 4, 1, 0, 0, [], .aload_n 0),
  (0, 5, 3, 0, 1000, [], .sipush 1000),
  (0, 8, 2, 1000, 0, [], .newarray .int),
  (0, 10, 3, 0, 0, [], .putfield 9),
  (0, 13, 1, 0, 0, [], .aload_n 0),
  (0, 14, 2, 0, 32, [], .bipush 32),
  (0, 16, 2, 32, 0, [], .newarray .int),
  (0, 18, 3, 0, 0, [], .putfield 13),
  (0, 21, 1, 0, 0, [], .aload_n 0),
  (0, 22, 1, 0, 4, [], .iconst 4),
  (0, 23, 2, 4, 0, [], .newarray .int),
  (0, 25, 3, 0, 0, [], .putfield 16),
  (0, 28, 1, 0, 0, [], .return_)]
def F_X8_init (fu : Nat) (s : Nat) (M : xM) : Option xM :=
  gd ((1000 : Int32) == Int32.ofNat 1000) <|
  let M_1 := nC M 20 1000
  let M_2 := sR M_1 8 s 0 (some (gA M 20))
  gd ((32 : Int32) == Int32.ofNat 32) <|
  let M_3 := nC M_2 20 32
  let M_4 := sR M_3 8 s 1 (some (gA M_2 20))
  gd ((4 : Int32) == Int32.ofNat 4) <|
  let M_5 := nC M_4 20 4
  let M_6 := sR M_5 8 s 2 (some (gA M_4 20))
  some M_6
set_option maxRecDepth 100000 in
theorem q_X8_init (fu : Nat) (s : Nat) (M : xM) :
    xrun pX8_init flX8 koX8 nwX8 [(1, 1, 0, 0, w_objInit)] [] xrtV 17 (xat 0 pX8_init) 3 1036 [(0, .inr (.inr (8, some s)))] [] M = F_X8_init fu s M := rfl
def w_X8_init (fu : Nat) {ρ : Type} (as : List xV) (M : xM) (k : Option xV → xM → Option ρ) : Option ρ := pR 8 as fun o as => o.bind fun s => xe as ((F_X8_init fu s M).bind fun p => k none p)
def pX7_init : List xE := [(0, 0, 1, 0, 0, [], .aload_n 0),
  (0, 1, 3, 0, 0, [], .invokespecial 3),
  (0, 4, 1, 0, 0, [], .aload_n 0),
  (0, 5, 1, 0, 5, [], .iconst 5),
  (0, 6, 2, 5, 0, [], .newarray .int),
  (0, 8, 3, 0, 0, [], .putfield 9),
  (0, 11, 1, 0, 0, [], .aload_n 0),
  (0, 12, 1, 0, 5, [], .iconst 5),
  (0, 13, 2, 5, 0, [], .newarray .int),
  (0, 15, 3, 0, 0, [], .putfield 15),
  (0, 18, 1, 0, 0, [], .aload_n 0),
  (0, 19, 3, 0, 0, [], .new 18),
  (0, 22, 1, 0, 0, [], .dup),
  (0, 23, 3, 0, 0, [], .invokespecial 20),
  (0, 26, 3, 0, 0, [], .putfield 21),
  (0, 29, 1, 0, 0, [], .aload_n 0),
  (0, 30, 1, 0, 5, [], .iconst 5),
  (0, 31, 2, 5, 0, [], .newarray .long),
  (0, 33, 3, 0, 0, [], .putfield 25),
  (0, 36, 1, 0, 0, [], .return_)]
def F_X7_init (fu : Nat) (s : Nat) (M : xM) : Option xM :=
  gd ((5 : Int32) == Int32.ofNat 5) <|
  let M_1 := nC M 20 5
  let M_2 := sR M_1 7 s 4 (some (gA M 20))
  gd ((5 : Int32) == Int32.ofNat 5) <|
  let M_3 := nC M_2 20 5
  let M_4 := sR M_3 7 s 5 (some (gA M_2 20))
  let M_5 := nC M_4 8 0
  (F_X8_init fu (gA M_4 8) M_5).bind fun p_6 =>
  let M_7 := sR p_6 7 s 6 (some (gA M_4 8))
  gd ((5 : Int32) == Int32.ofNat 5) <|
  let M_8 := nC M_7 21 5
  let M_9 := sR M_8 7 s 7 (some (gA M_7 21))
  some M_9
set_option maxRecDepth 100000 in
theorem q_X7_init (fu : Nat) (s : Nat) (M : xM) :
    xrun pX7_init flX7 koX7 nwX7 [(3, 1, 0, 0, w_objInit), (20, 1, 3, 1036, w_X8_init fu)] [] xrtV 22 (xat 0 pX7_init) 7 1055 [(0, .inr (.inr (7, some s)))] [] M = F_X7_init fu s M := rfl
def w_X7_init (fu : Nat) {ρ : Type} (as : List xV) (M : xM) (k : Option xV → xM → Option ρ) : Option ρ := pR 7 as fun o as => o.bind fun s => xe as ((F_X7_init fu s M).bind fun p => k none p)
def pX9_init : List xE := [(0, 0, 1, 0, 0, [], .aload_n 0),
  (0, 1, 3, 0, 0, [], .invokespecial 3),
  (0, 4, 1, 0, 0, [], .aload_n 0),
  (0, 5, 2, 0, 24, [], .bipush 24),
  (0, 7, 2, 24, 0, [], .newarray .int),
  (0, 9, 3, 0, 0, [], .putfield 11),
  (0, 12, 1, 0, 0, [], .aload_n 0),
  (0, 13, 2, 0, 24, [], .bipush 24),
  (0, 15, 2, 24, 0, [], .newarray .int),
  (0, 17, 3, 0, 0, [], .putfield 15),
  (0, 20, 1, 0, 0, [], .aload_n 0),
  (0, 21, 2, 0, 24, [], .bipush 24),
  (0, 23, 2, 24, 0, [], .newarray .int),
  (0, 25, 3, 0, 0, [], .putfield 18),
  (0, 28, 1, 0, 0, [], .aload_n 0),
  (0, 29, 2, 0, 24, [], .bipush 24),
  (0, 31, 2, 24, 0, [], .newarray .int),
  (0, 33, 3, 0, 0, [], .putfield 21),
  (0, 36, 1, 0, 0, [], .return_)]
def F_X9_init (fu : Nat) (s : Nat) (M : xM) : Option xM :=
  gd ((24 : Int32) == Int32.ofNat 24) <|
  let M_1 := nC M 20 24
  let M_2 := sR M_1 9 s 1 (some (gA M 20))
  gd ((24 : Int32) == Int32.ofNat 24) <|
  let M_3 := nC M_2 20 24
  let M_4 := sR M_3 9 s 2 (some (gA M_2 20))
  gd ((24 : Int32) == Int32.ofNat 24) <|
  let M_5 := nC M_4 20 24
  let M_6 := sR M_5 9 s 3 (some (gA M_4 20))
  gd ((24 : Int32) == Int32.ofNat 24) <|
  let M_7 := nC M_6 20 24
  let M_8 := sR M_7 9 s 4 (some (gA M_6 20))
  some M_8
set_option maxRecDepth 100000 in
theorem q_X9_init (fu : Nat) (s : Nat) (M : xM) :
    xrun pX9_init flX9 koX9 nwX9 [(3, 1, 0, 0, w_objInit)] [] xrtV 21 (xat 0 pX9_init) 4 96 [(0, .inr (.inr (9, some s)))] [] M = F_X9_init fu s M := rfl
def w_X9_init (fu : Nat) {ρ : Type} (as : List xV) (M : xM) (k : Option xV → xM → Option ρ) : Option ρ := pR 9 as fun o as => o.bind fun s => xe as ((F_X9_init fu s M).bind fun p => k none p)
def pX4_init : List xE := [(0, 0, 1, 0, 0, [], .aload_n 0),
  (0, 1, 3, 0, 0, [], .invokespecial 3),
  (0, 4, 1, 0, 0, [], .aload_n 0),
  (0, 5, 2, 0, 20, [], .bipush 20),
  (0, 7, 2, 20, 0, [], .newarray .int),
  (0, 9, 3, 0, 0, [], .putfield 9),
  (0, 12, 1, 0, 0, [], .aload_n 0),
  (0, 13, 2, 0, 20, [], .bipush 20),
  (0, 15, 2, 20, 0, [], .newarray .int),
  (0, 17, 3, 0, 0, [], .putfield 15),
  (0, 20, 1, 0, 0, [], .aload_n 0),
  (0, 21, 2, 0, 20, [], .bipush 20),
  (0, 23, 2, 20, 0, [], .newarray .int),
  (0, 25, 3, 0, 0, [], .putfield 18),
  (0, 28, 1, 0, 0, [], .aload_n 0),
  (0, 29, 1, 0, 5, [], .iconst 5),
  (0, 30, 2, 5, 0, [], .newarray .int),
  (0, 32, 3, 0, 0, [], .putfield 21),
  (0, 35, 1, 0, 0, [], .return_)]
def F_X4_init (fu : Nat) (s : Nat) (M : xM) : Option xM :=
  gd ((20 : Int32) == Int32.ofNat 20) <|
  let M_1 := nC M 20 20
  let M_2 := sR M_1 4 s 0 (some (gA M 20))
  gd ((20 : Int32) == Int32.ofNat 20) <|
  let M_3 := nC M_2 20 20
  let M_4 := sR M_3 4 s 1 (some (gA M_2 20))
  gd ((20 : Int32) == Int32.ofNat 20) <|
  let M_5 := nC M_4 20 20
  let M_6 := sR M_5 4 s 2 (some (gA M_4 20))
  gd ((5 : Int32) == Int32.ofNat 5) <|
  let M_7 := nC M_6 20 5
  let M_8 := sR M_7 4 s 3 (some (gA M_6 20))
  some M_8
set_option maxRecDepth 100000 in
theorem q_X4_init (fu : Nat) (s : Nat) (M : xM) :
    xrun pX4_init flX4 koX4 nwX4 [(3, 1, 0, 0, w_objInit)] [] xrtV 21 (xat 0 pX4_init) 4 65 [(0, .inr (.inr (4, some s)))] [] M = F_X4_init fu s M := rfl
def w_X4_init (fu : Nat) {ρ : Type} (as : List xV) (M : xM) (k : Option xV → xM → Option ρ) : Option ρ := pR 4 as fun o as => o.bind fun s => xe as ((F_X4_init fu s M).bind fun p => k none p)
def pX2_init : List xE := [(0, 0, 1, 0, 0, [], .aload_n 0),
  (0, 1, 3, 0, 0, [], .invokespecial 3),
  (0, 4, 1, 0, 0, [], .aload_n 0),
  (0, 5, 3, 0, 0, [], .new 9),
  (0, 8, 1, 0, 0, [], .dup),
  (0, 9, 3, 0, 0, [], .invokespecial 11),
  (0, 12, 3, 0, 0, [], .putfield 12),
  (0, 15, 1, 0, 0, [], .aload_n 0),
  (0, 16, 2, 0, 20, [], .bipush 20),
  (0, 18, 2, 20, 0, [], .newarray .int),
  (0, 20, 3, 0, 0, [], .putfield 18),
  (0, 23, 1, 0, 0, [], .aload_n 0),
  (0, 24, 1, 0, 5, [], .iconst 5),
  (0, 25, 2, 5, 0, [], .newarray .boolean),
  (0, 27, 3, 0, 0, [], .putfield 22),
  (0, 30, 1, 0, 0, [], .aload_n 0),
  (0, 31, 1, 0, 5, [], .iconst 5),
  (0, 32, 2, 5, 0, [], .newarray .boolean),
  (0, 34, 3, 0, 0, [], .putfield 26),
  (0, 37, 1, 0, 0, [], .aload_n 0),
  (0, 38, 2, 0, 36, [], .bipush 36),
  (0, 40, 2, 36, 0, [], .newarray .boolean),
  (0, 42, 3, 0, 0, [], .putfield 29),
  (0, 45, 1, 0, 0, [], .aload_n 0),
  (0, 46, 2, 0, 6, [], .bipush 6),
  (0, 48, 2, 6, 0, [], .newarray .int),
  (0, 50, 3, 0, 0, [], .putfield 32),
  (0, 53, 1, 0, 0, [], .aload_n 0),
  (0, 54, 1, 0, 0, [], .aload_n 1),
  (0, 55, 3, 0, 0, [], .putfield 35),
  (0, 58, 1, 0, 0, [], .aload_n 0),
  (0, 59, 1, 0, 0, [], .aload_n 2),
  (0, 60, 3, 0, 0, [], .putfield 39),
  (0, 63, 1, 0, 0, [], .aload_n 0),
  (0, 64, 1, 0, 0, [], .aload_n 3),
  (0, 65, 3, 0, 0, [], .putfield 43),
  (0, 68, 1, 0, 0, [], .aload_n 0),
  (0, 69, 1, 0, 1, [], .iconst 1),
  (0, 70, 3, 0, 0, [], .putfield 47),
  (0, 73, 1, 0, 0, [], .aload_n 0),
  (0, 74, 3, 0, 0, [], .getfield 12),
  (0, 77, 1, 0, 0, [], .aload_n 1),
  (0, 78, 3, 0, 0, [], .invokevirtual 51),
  (0, 81, 1, 0, 0, [], .return_)]
def F_X2_init (fu : Nat) (s : Nat) (x1 : Option Nat) (x2 : Option Nat) (x3 : Option Nat) (M : xM) : Option xM :=
  let M_1 := nC M 0 0
  (F_X0_init fu (gA M 0) M_1).bind fun p_2 =>
  let M_3 := sR p_2 2 s 0 (some (gA M 0))
  gd ((20 : Int32) == Int32.ofNat 20) <|
  let M_4 := nC M_3 20 20
  let M_5 := sR M_4 2 s 7 (some (gA M_3 20))
  gd ((5 : Int32) == Int32.ofNat 5) <|
  let M_6 := nC M_5 22 5
  let M_7 := sR M_6 2 s 8 (some (gA M_5 22))
  gd ((5 : Int32) == Int32.ofNat 5) <|
  let M_8 := nC M_7 22 5
  let M_9 := sR M_8 2 s 9 (some (gA M_7 22))
  gd ((36 : Int32) == Int32.ofNat 36) <|
  let M_10 := nC M_9 22 36
  let M_11 := sR M_10 2 s 12 (some (gA M_9 22))
  gd ((6 : Int32) == Int32.ofNat 6) <|
  let M_12 := nC M_11 20 6
  let M_13 := sR M_12 2 s 13 (some (gA M_11 20))
  let M_14 := sR M_13 2 s 4 x1
  let M_15 := sR M_14 2 s 5 x2
  let M_16 := sR M_15 2 s 6 x3
  gd (xbool 1) <|
  let M_17 := sI M_16 2 s 1 1
  (gR M_17 2 s 0).bind fun a_18 =>
  (F_X0_start fu a_18 x1 M_17).bind fun p_19 =>
  some p_19
set_option maxRecDepth 100000 in
theorem q_X2_init (fu : Nat) (s : Nat) (x1 : Option Nat) (x2 : Option Nat) (x3 : Option Nat) (M : xM) :
    xrun pX2_init flX2 koX2 nwX2 [(3, 1, 0, 0, w_objInit), (11, 1, 9, 480, w_X0_init fu), (51, 2, 0, 0, w_X0_start fu)] [] xrtV 46 (xat 0 pX2_init) 15 568 [(0, .inr (.inr (2, some s))), (1, .inr (.inr (7, x1))), (2, .inr (.inr (4, x2))), (3, .inr (.inr (3, x3)))] [] M = F_X2_init fu s x1 x2 x3 M := rfl
def w_X2_init (fu : Nat) {ρ : Type} (as : List xV) (M : xM) (k : Option xV → xM → Option ρ) : Option ρ := pR 2 as fun o as => o.bind fun s => pR 7 as fun x1 as => pR 4 as fun x2 as => pR 3 as fun x3 as => xe as ((F_X2_init fu s x1 x2 x3 M).bind fun p => k none p)
def pX1_init : List xE := [(0, 0, 1, 0, 0, [], .aload_n 0),
  (0, 1, 3, 0, 0, [], .invokespecial 1),
  (0, 4, 1, 0, 0, [], .aload_n 0),
  (0, 5, 2, 0, 8, [], .bipush 8),
  (0, 7, 2, 8, 0, [], .newarray .int),
  (0, 9, 3, 0, 0, [], .putfield 9),
  (0, 12, 1, 0, 0, [], .aload_n 0),
  (0, 13, 2, 0, 8, [], .bipush 8),
  (0, 15, 2, 8, 0, [], .newarray .int),
  (0, 17, 3, 0, 0, [], .putfield 13),
  (0, 20, 1, 0, 0, [], .aload_n 0),
  (0, 21, 2, 0, 8, [], .bipush 8),
  (0, 23, 2, 8, 0, [], .newarray .boolean),
  (0, 25, 3, 0, 0, [], .putfield 16),
  (0, 28, 1, 0, 0, [], .return_)]
def F_X1_init (fu : Nat) (s : Nat) (M : xM) : Option xM :=
  gd ((8 : Int32) == Int32.ofNat 8) <|
  let M_1 := nC M 20 8
  let M_2 := sR M_1 1 s 1 (some (gA M 20))
  gd ((8 : Int32) == Int32.ofNat 8) <|
  let M_3 := nC M_2 20 8
  let M_4 := sR M_3 1 s 2 (some (gA M_2 20))
  gd ((8 : Int32) == Int32.ofNat 8) <|
  let M_5 := nC M_4 22 8
  let M_6 := sR M_5 1 s 3 (some (gA M_4 22))
  some M_6
set_option maxRecDepth 100000 in
theorem q_X1_init (fu : Nat) (s : Nat) (M : xM) :
    xrun pX1_init flX1 koX1 nwX1 [(1, 1, 0, 0, w_objInit)] [] xrtV 17 (xat 0 pX1_init) 3 24 [(0, .inr (.inr (1, some s)))] [] M = F_X1_init fu s M := rfl
def w_X1_init (fu : Nat) {ρ : Type} (as : List xV) (M : xM) (k : Option xV → xM → Option ρ) : Option ρ := pR 1 as fun o as => o.bind fun s => xe as ((F_X1_init fu s M).bind fun p => k none p)
def pX3_init : List xE := [(0, 0, 1, 0, 0, [], .aload_n 0),
  (0, 1, 3, 0, 0, [], .invokespecial 3),
  (0, 4, 1, 0, 0, [], .aload_n 0),
  (0, 5, 3, 0, 5760, [], .sipush 5760),
  (0, 8, 2, 5760, 0, [], .newarray .int),
  (0, 10, 3, 0, 0, [], .putfield 11),
  (0, 13, 1, 0, 0, [], .aload_n 0),
  (0, 14, 3, 0, 288, [], .sipush 288),
  (0, 17, 2, 288, 0, [], .newarray .int),
  (0, 19, 3, 0, 0, [], .putfield 15),
  (0, 22, 1, 0, 0, [], .aload_n 0),
  (0, 23, 3, 0, 288, [], .sipush 288),
  (0, 26, 2, 288, 0, [], .newarray .int),
  (0, 28, 3, 0, 0, [], .putfield 18),
  (0, 31, 1, 0, 0, [], .aload_n 0),
  (0, 32, 3, 0, 288, [], .sipush 288),
  (0, 35, 2, 288, 0, [], .newarray .boolean),
  (0, 37, 3, 0, 0, [], .putfield 21),
  (0, 40, 1, 0, 0, [], .return_)]
def F_X3_init (fu : Nat) (s : Nat) (M : xM) : Option xM :=
  gd ((5760 : Int32) == Int32.ofNat 5760) <|
  let M_1 := nC M 20 5760
  let M_2 := sR M_1 3 s 2 (some (gA M 20))
  gd ((288 : Int32) == Int32.ofNat 288) <|
  let M_3 := nC M_2 20 288
  let M_4 := sR M_3 3 s 3 (some (gA M_2 20))
  gd ((288 : Int32) == Int32.ofNat 288) <|
  let M_5 := nC M_4 20 288
  let M_6 := sR M_5 3 s 4 (some (gA M_4 20))
  gd ((288 : Int32) == Int32.ofNat 288) <|
  let M_7 := nC M_6 22 288
  let M_8 := sR M_7 3 s 5 (some (gA M_6 22))
  some M_8
set_option maxRecDepth 100000 in
theorem q_X3_init (fu : Nat) (s : Nat) (M : xM) :
    xrun pX3_init flX3 koX3 nwX3 [(3, 1, 0, 0, w_objInit)] [] xrtV 21 (xat 0 pX3_init) 4 6624 [(0, .inr (.inr (3, some s)))] [] M = F_X3_init fu s M := rfl
def w_X3_init (fu : Nat) {ρ : Type} (as : List xV) (M : xM) (k : Option xV → xM → Option ρ) : Option ρ := pR 3 as fun o as => o.bind fun s => xe as ((F_X3_init fu s M).bind fun p => k none p)
def pX5_init : List xE := [(0, 0, 1, 0, 0, [], .aload_n 0),
  (0, 1, 3, 0, 0, [], .invokespecial 3),
  (0, 4, 1, 0, 0, [], .aload_n 0),
  (0, 5, 2, 0, 20, [], .bipush 20),
  (0, 7, 2, 20, 0, [], .newarray .int),
  (0, 9, 3, 0, 0, [], .putfield 9),
  (0, 12, 1, 0, 0, [], .aload_n 0),
  (0, 13, 1, 0, 0, [], .aload_n 2),
  (0, 14, 3, 0, 0, [], .putfield 15),
  (0, 17, 1, 0, 0, [], .aload_n 0),
  (0, 18, 3, 0, 0, [], .new 19),
  (0, 21, 1, 0, 0, [], .dup),
  (0, 22, 3, 0, 0, [], .invokespecial 21),
  (0, 25, 3, 0, 0, [], .putfield 22),
  (0, 28, 1, 0, 0, [], .aload_n 0),
  (0, 29, 3, 0, 0, [], .new 26),
  (0, 32, 1, 0, 0, [], .dup),
  (0, 33, 1, 0, 0, [], .aload_n 1),
  (0, 34, 1, 0, 0, [], .aload_n 2),
  (0, 35, 1, 0, 0, [], .aload_n 0),
  (0, 36, 3, 0, 0, [], .getfield 22),
  (0, 39, 3, 0, 0, [], .invokespecial 28),
  (0, 42, 3, 0, 0, [], .putfield 31),
  (0, 45, 1, 0, 0, [], .return_)]
def F_X5_init (fu : Nat) (s : Nat) (x1 : Option Nat) (x2 : Option Nat) (M : xM) : Option xM :=
  gd ((20 : Int32) == Int32.ofNat 20) <|
  let M_1 := nC M 20 20
  let M_2 := sR M_1 5 s 4 (some (gA M 20))
  let M_3 := sR M_2 5 s 2 x2
  let M_4 := nC M_3 3 0
  (F_X3_init fu (gA M_3 3) M_4).bind fun p_5 =>
  let M_6 := sR p_5 5 s 0 (some (gA M_3 3))
  let M_7 := nC M_6 2 0
  (F_X2_init fu (gA M_6 2) x1 x2 (gR M_7 5 s 0) M_7).bind fun p_8 =>
  let M_9 := sR p_8 5 s 3 (some (gA M_6 2))
  some M_9
set_option maxRecDepth 100000 in
theorem q_X5_init (fu : Nat) (s : Nat) (x1 : Option Nat) (x2 : Option Nat) (M : xM) :
    xrun pX5_init flX5 koX5 nwX5 [(3, 1, 0, 0, w_objInit), (21, 1, 4, 6624, w_X3_init fu), (28, 4, 15, 568, w_X2_init fu)] [] xrtV 26 (xat 0 pX5_init) 22 7234 [(0, .inr (.inr (5, some s))), (1, .inr (.inr (7, x1))), (2, .inr (.inr (4, x2)))] [] M = F_X5_init fu s x1 x2 M := rfl
def w_X5_init (fu : Nat) {ρ : Type} (as : List xV) (M : xM) (k : Option xV → xM → Option ρ) : Option ρ := pR 5 as fun o as => o.bind fun s => pR 7 as fun x1 as => pR 4 as fun x2 as => xe as ((F_X5_init fu s x1 x2 M).bind fun p => k none p)
def pX6_init : List xE := [(0, 0, 1, 0, 0, [], .aload_n 0),
  (0, 1, 3, 0, 0, [], .invokespecial 3),
  (0, 4, 1, 0, 0, [], .return_)]
def F_X6_init (fu : Nat) (s : Nat) (M : xM) : Option xM :=
  some M
set_option maxRecDepth 100000 in
theorem q_X6_init (fu : Nat) (s : Nat) (M : xM) :
    xrun pX6_init flX6 koX6 nwX6 [(3, 1, 0, 0, w_objInit)] [] xrtV 5 (xat 0 pX6_init) 0 0 [(0, .inr (.inr (6, some s)))] [] M = F_X6_init fu s M := rfl
def w_X6_init (fu : Nat) {ρ : Type} (as : List xV) (M : xM) (k : Option xV → xM → Option ρ) : Option ρ := pR 6 as fun o as => o.bind fun s => xe as ((F_X6_init fu s M).bind fun p => k none p)
def pX11_init : List xE := [(0, 0, 1, 0, 0, [], .aload_n 0),
  (0, 1, 3, 0, 0, [], .invokespecial 1),
  (0, 4, 1, 0, 0, [], .aload_n 0),
  (0, 5, 3, 0, 0, [], .new 7),
  (0, 8, 1, 0, 0, [], .dup),
  (0, 9, 3, 0, 0, [], .invokespecial 9),
  (0, 12, 3, 0, 0, [], .putfield 10),
  (0, 15, 1, 0, 0, [], .aload_n 0),
  (0, 16, 3, 0, 0, [], .new 16),
  (0, 19, 1, 0, 0, [], .dup),
  (0, 20, 3, 0, 0, [], .invokespecial 18),
  (0, 23, 3, 0, 0, [], .putfield 19),
  (0, 26, 1, 0, 0, [], .aload_n 0),
  (0, 27, 3, 0, 0, [], .new 16),
  (0, 30, 1, 0, 0, [], .dup),
  (0, 31, 3, 0, 0, [], .invokespecial 18),
  (0, 34, 3, 0, 0, [], .putfield 23),
  (0, 37, 1, 0, 0, [], .aload_n 0),
  (0, 38, 3, 0, 0, [], .new 26),
  (0, 41, 1, 0, 0, [], .dup),
  (0, 42, 3, 0, 0, [], .invokespecial 28),
  (0, 45, 3, 0, 0, [], .putfield 29),
  (0, 48, 1, 0, 0, [], .aload_n 0),
  (0, 49, 3, 0, 0, [], .new 26),
  (0, 52, 1, 0, 0, [], .dup),
  (0, 53, 3, 0, 0, [], .invokespecial 28),
  (0, 56, 3, 0, 0, [], .putfield 33),
  (0, 59, 1, 0, 0, [], .aload_n 0),
  (0, 60, 3, 0, 0, [], .new 36),
  (0, 63, 1, 0, 0, [], .dup),
  (0, 64, 3, 0, 0, [], .invokespecial 38),
  (0, 67, 3, 0, 0, [], .putfield 39),
  (0, 70, 1, 0, 0, [], .aload_n 0),
  (0, 71, 3, 0, 0, [], .new 43),
  (0, 74, 1, 0, 0, [], .dup),
  (0, 75, 1, 0, 0, [], .aload_n 0),
  (0, 76, 3, 0, 0, [], .getfield 19),
  (0, 79, 1, 0, 0, [], .aload_n 0),
  (0, 80, 3, 0, 0, [], .getfield 39),
  (0, 83, 1, 3, 0, [], .aconst_null),
  (0, 84, 3, 0, 0, [], .invokespecial 45),
  (0, 87, 3, 0, 0, [], .putfield 48),
  (0, 90, 1, 0, 0, [], .aload_n 0),
  (0, 91, 3, 0, 0, [], .new 43),
  (0, 94, 1, 0, 0, [], .dup),
  (0, 95, 1, 0, 0, [], .aload_n 0),
  (0, 96, 3, 0, 0, [], .getfield 19),
  (0, 99, 1, 0, 0, [], .aload_n 0),
  (0, 100, 3, 0, 0, [], .getfield 39),
  (0, 103, 1, 3, 0, [], .aconst_null),
  (0, 104, 3, 0, 0, [], .invokespecial 45),
  (0, 107, 3, 0, 0, [], .putfield 52),
  (0, 110, 1, 0, 0, [], .aload_n 0),
  (0, 111, 3, 0, 0, [], .new 55),
  (0, 114, 1, 0, 0, [], .dup),
  (0, 115, 3, 0, 0, [], .invokespecial 57),
  (0, 118, 3, 0, 0, [], .putfield 58),
  (0, 121, 1, 0, 0, [], .aload_n 0),
  (0, 122, 3, 0, 0, [], .new 62),
  (0, 125, 1, 0, 0, [], .dup),
  (0, 126, 1, 0, 0, [], .aload_n 0),
  (0, 127, 3, 0, 0, [], .getfield 19),
  (0, 130, 1, 0, 0, [], .aload_n 0),
  (0, 131, 3, 0, 0, [], .getfield 39),
  (0, 134, 3, 0, 0, [], .invokespecial 64),
  (0, 137, 3, 0, 0, [], .putfield 67),
  (0, 140, 1, 0, 0, [], .aload_n 0),
  (0, 141, 3, 0, 0, [], .new 71),
  (0, 144, 1, 0, 0, [], .dup),
  (0, 145, 3, 0, 0, [], .invokespecial 73),
  (0, 148, 3, 0, 0, [], .putfield 74),
  (0, 151, 1, 0, 0, [], .aload_n 0),
  (0, 152, 1, 0, 2, [], .iconst 2),
  (0, 153, 3, 2, 0, [], .anewarray 43),
  (0, 156, 1, 0, 0, [], .dup),
  (0, 157, 1, 0, 0, [], .iconst 0),
  (0, 158, 3, 0, 0, [], .new 43),
  (0, 161, 1, 0, 0, [], .dup),
  (0, 162, 1, 0, 0, [], .aload_n 0),
  (0, 163, 3, 0, 0, [], .getfield 19),
  (0, 166, 1, 0, 0, [], .aload_n 0),
  (0, 167, 3, 0, 0, [], .getfield 39),
  (0, 170, 1, 3, 0, [], .aconst_null),
  (0, 171, 3, 0, 0, [], .invokespecial 45),
  (0, 174, 1, 0, 0, [], .aastore),
  (0, 175, 1, 0, 0, [], .dup),
  (0, 176, 1, 0, 1, [], .iconst 1),
  (0, 177, 3, 0, 0, [], .new 43),
  (0, 180, 1, 0, 0, [], .dup),
  (0, 181, 1, 0, 0, [], .aload_n 0),
  (0, 182, 3, 0, 0, [], .getfield 19),
  (0, 185, 1, 0, 0, [], .aload_n 0),
  (0, 186, 3, 0, 0, [], .getfield 39),
  (0, 189, 1, 3, 0, [], .aconst_null),
  (0, 190, 3, 0, 0, [], .invokespecial 45),
  (0, 193, 1, 0, 0, [], .aastore),
  (0, 194, 3, 0, 0, [], .putfield 78),
  (0, 197, 1, 0, 0, [], .aload_n 0),
  (0, 198, 1, 0, 2, [], .iconst 2),
  (0, 199, 3, 2, 0, [], .anewarray 55),
  (0, 202, 1, 0, 0, [], .dup),
  (0, 203, 1, 0, 0, [], .iconst 0),
  (0, 204, 3, 0, 0, [], .new 55),
  (0, 207, 1, 0, 0, [], .dup),
  (0, 208, 3, 0, 0, [], .invokespecial 57),
  (0, 211, 1, 0, 0, [], .aastore),
  (0, 212, 1, 0, 0, [], .dup),
  (0, 213, 1, 0, 1, [], .iconst 1),
  (0, 214, 3, 0, 0, [], .new 55),
  (0, 217, 1, 0, 0, [], .dup),
  (0, 218, 3, 0, 0, [], .invokespecial 57),
  (0, 221, 1, 0, 0, [], .aastore),
  (0, 222, 3, 0, 0, [], .putfield 82),
  (0, 225, 1, 0, 0, [], .aload_n 0),
  (0, 226, 1, 0, 2, [], .iconst 2),
  (0, 227, 2, 2, 0, [], .newarray .boolean),
  (0, 229, 1, 0, 0, [], .dup),
  (0, 230, 1, 0, 0, [], .iconst 0),
  (0, 231, 1, 0, 0, [], .iconst 0),
  (0, 232, 1, 0, 0, [], .bastore),
  (0, 233, 1, 0, 0, [], .dup),
  (0, 234, 1, 0, 1, [], .iconst 1),
  (0, 235, 1, 0, 0, [], .iconst 0),
  (0, 236, 1, 0, 0, [], .bastore),
  (0, 237, 3, 0, 0, [], .putfield 86),
  (0, 240, 1, 0, 0, [], .return_)]
def F_X11_init (fu : Nat) (s : Nat) (M : xM) : Option xM :=
  let M_1 := nC M 10 0
  (F_X10_init fu (gA M 10) M_1).bind fun p_2 =>
  let M_3 := sR p_2 11 s 0 (some (gA M 10))
  let M_4 := nC M_3 7 0
  (F_X7_init fu (gA M_3 7) M_4).bind fun p_5 =>
  let M_6 := sR p_5 11 s 1 (some (gA M_3 7))
  let M_7 := nC M_6 7 0
  (F_X7_init fu (gA M_6 7) M_7).bind fun p_8 =>
  let M_9 := sR p_8 11 s 2 (some (gA M_6 7))
  let M_10 := nC M_9 9 0
  (F_X9_init fu (gA M_9 9) M_10).bind fun p_11 =>
  let M_12 := sR p_11 11 s 3 (some (gA M_9 9))
  let M_13 := nC M_12 9 0
  (F_X9_init fu (gA M_12 9) M_13).bind fun p_14 =>
  let M_15 := sR p_14 11 s 4 (some (gA M_12 9))
  let M_16 := nC M_15 4 0
  (F_X4_init fu (gA M_15 4) M_16).bind fun p_17 =>
  let M_18 := sR p_17 11 s 5 (some (gA M_15 4))
  let M_19 := nC M_18 2 0
  (F_X2_init fu (gA M_18 2) (gR M_19 11 s 1) (gR M_19 11 s 5) none M_19).bind fun p_20 =>
  let M_21 := sR p_20 11 s 6 (some (gA M_18 2))
  let M_22 := nC M_21 2 0
  (F_X2_init fu (gA M_21 2) (gR M_22 11 s 1) (gR M_22 11 s 5) none M_22).bind fun p_23 =>
  let M_24 := sR p_23 11 s 7 (some (gA M_21 2))
  let M_25 := nC M_24 1 0
  (F_X1_init fu (gA M_24 1) M_25).bind fun p_26 =>
  let M_27 := sR p_26 11 s 8 (some (gA M_24 1))
  let M_28 := nC M_27 5 0
  (F_X5_init fu (gA M_27 5) (gR M_28 11 s 1) (gR M_28 11 s 5) M_28).bind fun p_29 =>
  let M_30 := sR p_29 11 s 9 (some (gA M_27 5))
  let M_31 := nC M_30 6 0
  (F_X6_init fu (gA M_30 6) M_31).bind fun p_32 =>
  let M_33 := sR p_32 11 s 10 (some (gA M_30 6))
  gd ((2 : Int32) == Int32.ofNat 2) <|
  let M_34 := nC M_33 24 2
  let M_35 := nC M_34 2 0
  (F_X2_init fu (gA M_34 2) (gR M_35 11 s 1) (gR M_35 11 s 5) none M_35).bind fun p_36 =>
  gd (xin 0 (gN p_36 24 (gA M_33 24))) <|
  let M_37 := sR p_36 24 (gA M_33 24) (xi 0) (some (gA M_34 2))
  let M_38 := nC M_37 2 0
  (F_X2_init fu (gA M_37 2) (gR M_38 11 s 1) (gR M_38 11 s 5) none M_38).bind fun p_39 =>
  gd (xin 1 (gN p_39 24 (gA M_33 24))) <|
  let M_40 := sR p_39 24 (gA M_33 24) (xi 1) (some (gA M_37 2))
  let M_41 := sR M_40 11 s 11 (some (gA M_33 24))
  gd ((2 : Int32) == Int32.ofNat 2) <|
  let M_42 := nC M_41 25 2
  let M_43 := nC M_42 1 0
  (F_X1_init fu (gA M_42 1) M_43).bind fun p_44 =>
  gd (xin 0 (gN p_44 25 (gA M_41 25))) <|
  let M_45 := sR p_44 25 (gA M_41 25) (xi 0) (some (gA M_42 1))
  let M_46 := nC M_45 1 0
  (F_X1_init fu (gA M_45 1) M_46).bind fun p_47 =>
  gd (xin 1 (gN p_47 25 (gA M_41 25))) <|
  let M_48 := sR p_47 25 (gA M_41 25) (xi 1) (some (gA M_45 1))
  let M_49 := sR M_48 11 s 12 (some (gA M_41 25))
  gd ((2 : Int32) == Int32.ofNat 2) <|
  let M_50 := nC M_49 22 2
  gd (xin 0 (gN M_50 22 (gA M_49 22))) <|
  gd (xbool 0) <|
  let M_51 := sI M_50 22 (gA M_49 22) (xi 0) 0
  gd (xin 1 (gN M_51 22 (gA M_49 22))) <|
  gd (xbool 0) <|
  let M_52 := sI M_51 22 (gA M_49 22) (xi 1) 0
  let M_53 := sR M_52 11 s 13 (some (gA M_49 22))
  some M_53
set_option maxRecDepth 100000 in
theorem q_X11_init (fu : Nat) (s : Nat) (M : xM) :
    xrun pX11_init flX11 koX11 nwX11 [(1, 1, 0, 0, w_objInit), (9, 1, 1, 1000, w_X10_init fu), (18, 1, 7, 1055, w_X7_init fu), (28, 1, 4, 96, w_X9_init fu), (38, 1, 4, 65, w_X4_init fu), (45, 4, 15, 568, w_X2_init fu), (57, 1, 3, 24, w_X1_init fu), (64, 3, 22, 7234, w_X5_init fu), (73, 1, 0, 0, w_X6_init fu)] [] xrtV 128 (xat 0 pX11_init) 136 13077 [(0, .inr (.inr (11, some s)))] [] M = F_X11_init fu s M := rfl
def w_X11_init (fu : Nat) {ρ : Type} (as : List xV) (M : xM) (k : Option xV → xM → Option ρ) : Option ρ := pR 11 as fun o as => o.bind fun s => xe as ((F_X11_init fu s M).bind fun p => k none p)
def pX5_tell : List xE := [(0, 0, 1, 0, 0, [], .iload_n 1),
  (0, 1, 27, 52, 0, [(0, 28), (1, 33), (2, 41)], .tableswitch 51 0 2 #[27, 32, 40]),
  (0, 28, 1, 0, 0, [], .aload_n 0),
  (0, 29, 3, 0, 0, [], .getfield 46),
  (0, 32, 1, 0, 0, [], .ireturn),
  (0, 33, 1, 0, 0, [], .aload_n 0),
  (0, 34, 3, 0, 0, [], .getfield 22),
  (0, 37, 3, 0, 0, [], .getfield 77),
  (0, 40, 1, 0, 0, [], .ireturn),
  (0, 41, 1, 0, 0, [], .aload_n 0),
  (0, 42, 3, 0, 0, [], .getfield 31),
  (0, 45, 3, 0, 0, [], .getfield 53),
  (0, 48, 3, 0, 0, [], .getfield 108),
  (0, 51, 1, 0, 0, [], .ireturn),
  (0, 52, 1, 0, 0, [], .aload_n 0),
  (0, 53, 3, 0, 0, [], .getfield 31),
  (0, 56, 3, 0, 0, [], .getfield 113),
  (0, 59, 1, 0, 0, [], .ireturn)]
def F_X5_tell (fu : Nat) (s : Nat) (x1 : Int32) (M : xM) : Option (Int32 × xM) :=
  if x1 = 0 then
    (some (gI M 5 s 6, M))
  else
  if x1 = 1 then
    (gR M 5 s 0).bind fun a_1 =>
    (some (gI M 3 a_1 0, M))
  else
  if x1 = 2 then
    (gR M 5 s 3).bind fun a_2 =>
    (gR M 2 a_2 0).bind fun a_3 =>
    (some (gI M 0 a_3 3, M))
  else
    (gR M 5 s 3).bind fun a_4 =>
    (some (gI M 2 a_4 3, M))
set_option maxRecDepth 100000 in
theorem q_X5_tell (fu : Nat) (s : Nat) (x1 : Int32) (M : xM) :
    xrun pX5_tell flX5 koX5 nwX5 [] [] xrtI 20 (xat 0 pX5_tell) 0 0 [(0, .inr (.inr (5, some s))), (1, .inl x1)] [] M = F_X5_tell fu s x1 M := rfl
def w_X5_tell (fu : Nat) {ρ : Type} (as : List xV) (M : xM) (k : Option xV → xM → Option ρ) : Option ρ := pR 5 as fun o as => o.bind fun s => pI as fun x1 as => xe as ((F_X5_tell fu s x1 M).bind fun p => k (some (.inl p.1)) p.2)
def pX11_judged : List xE := [(0, 0, 1, 0, 0, [], .iload_n 1),
  (0, 1, 3, 9, 0, [], .ifCond .lt 8),
  (0, 4, 1, 0, 0, [], .iload_n 1),
  (0, 5, 1, 0, 3, [], .iconst 3),
  (0, 6, 3, 12, 0, [], .if_icmp .le 6),
  (0, 9, 2, 0, (-2), [], .bipush (-2)),
  (0, 11, 1, 0, 0, [], .ireturn),
  (0, 12, 1, 0, 0, [], .aload_n 0),
  (0, 13, 3, 0, 0, [], .getfield 67),
  (0, 16, 1, 0, 0, [], .aload_n 0),
  (0, 17, 3, 0, 0, [], .getfield 19),
  (0, 20, 1, 0, 0, [], .aload_n 0),
  (0, 21, 3, 0, 0, [], .getfield 29),
  (0, 24, 3, 0, 0, [], .invokevirtual 207),
  (0, 27, 1, 0, 0, [], .aload_n 0),
  (0, 28, 3, 0, 0, [], .getfield 67),
  (0, 31, 1, 0, 0, [], .iload_n 1),
  (0, 32, 3, 0, 0, [], .invokevirtual 211),
  (0, 35, 1, 0, 0, [], .ireturn)]
def F_X11_judged (fu : Nat) (s : Nat) (x1 : Int32) (M : xM) : Option (Int32 × xM) :=
  if x1 < 0 then
    (some ((-2), M))
  else
    if x1 ≤ 3 then
      (gR M 11 s 9).bind fun a_1 =>
      (F_X5_run fu a_1 (gR M 11 s 1) (gR M 11 s 3) M).bind fun p_2 =>
      (gR p_2 11 s 9).bind fun a_3 =>
      (F_X5_tell fu a_3 x1 p_2).bind fun p_4 =>
      (some (p_4.1, p_4.2))
    else
      (some ((-2), M))
set_option maxRecDepth 100000 in
theorem q_X11_judged (fu : Nat) (s : Nat) (x1 : Int32) (M : xM) :
    xrun pX11_judged flX11 koX11 nwX11 [(207, 3, 0, 0, w_X5_run fu), (211, 2, 0, 0, w_X5_tell fu)] [] xrtI 21 (xat 0 pX11_judged) 0 0 [(0, .inr (.inr (11, some s))), (1, .inl x1)] [] M = F_X11_judged fu s x1 M := rfl
def w_X11_judged (fu : Nat) {ρ : Type} (as : List xV) (M : xM) (k : Option xV → xM → Option ρ) : Option ρ := pR 11 as fun o as => o.bind fun s => pI as fun x1 as => xe as ((F_X11_judged fu s x1 M).bind fun p => k (some (.inl p.1)) p.2)
def pX2_liveBelow : List xE := [(0, 0, 1, 0, 0, [], .iconst 0),
  (0, 1, 1, 0, 0, [], .istore_n 2),
  (0, 2, 1, 0, 0, [], .iconst 0),
  (0, 3, 1, 0, 0, [], .istore_n 3),
  (1, 4, 1, 0, 0, [], .iload_n 3),
  (0, 5, 1, 0, 0, [], .aload_n 0),
  (0, 6, 3, 0, 0, [], .getfield 12),
  (0, 9, 3, 0, 0, [], .getfield 177),
  (0, 12, 3, 46, 0, [], .if_icmp .ge 34),
  (0, 15, 1, 0, 0, [], .aload_n 0),
  (0, 16, 3, 0, 0, [], .getfield 29),
  (0, 19, 1, 0, 0, [], .iload_n 3),
  (0, 20, 1, 0, 0, [], .baload),
  (0, 21, 3, 40, 0, [], .ifCond .eq 19),
  (0, 24, 1, 0, 0, [], .aload_n 0),
  (0, 25, 3, 0, 0, [], .getfield 12),
  (0, 28, 3, 0, 0, [], .getfield 285),
  (0, 31, 1, 0, 0, [], .iload_n 3),
  (0, 32, 1, 0, 0, [], .iaload),
  (0, 33, 1, 0, 0, [], .iload_n 1),
  (0, 34, 3, 40, 0, [], .if_icmp .ge 6),
  (0, 37, 3, 0, 1, [], .iinc 2 1),
  (0, 40, 3, 0, 1, [], .iinc 3 1),
  (0, 43, 3, 4, 0, [], .goto (-39)),
  (0, 46, 1, 0, 0, [], .iload_n 2),
  (0, 47, 1, 0, 0, [], .ireturn)]
def L_X2_liveBelow_4 (fu : Nat) : Nat → Nat → Int32 → Int32 → Int32 → xM → Option (Int32 × xM)
  | 0, _, _, _, _, _ => none
  | n + 1, s, x1, x2, x3, M =>
    (gR M 2 s 0).bind fun a_1 =>
    if (gI M 0 a_1 2) ≤ x3 then
      (some (x2, M))
    else
      (gR M 2 s 12).bind fun a_2 =>
      gd (xin x3 (gN M 22 a_2)) <|
      if (gI M 22 a_2 (xi x3)) = 0 then
        L_X2_liveBelow_4 fu n s x1 x2 (x3 + 1) M
      else
        (gR M 2 s 0).bind fun a_3 =>
        (gR M 0 a_3 10).bind fun a_4 =>
        gd (xin x3 (gN M 20 a_4)) <|
        if x1 ≤ (gI M 20 a_4 (xi x3)) then
          L_X2_liveBelow_4 fu n s x1 x2 (x3 + 1) M
        else
          L_X2_liveBelow_4 fu n s x1 (x2 + 1) (x3 + 1) M
set_option maxRecDepth 100000 in
theorem q_X2_liveBelow_4 (fu : Nat) (n : Nat) (s : Nat) (x1 : Int32) (x2 : Int32) (x3 : Int32) (M : xM) :
    xrun pX2_liveBelow flX2 koX2 nwX2 [] [(4, fun bc bs ls st M => xz bc bs (lR ls 0 2 fun o => o.bind fun s => lI ls 1 fun x1 => lI ls 2 fun x2 => lI ls 3 fun x3 => xe st (L_X2_liveBelow_4 fu n s x1 x2 x3 M)))] xrtI 28 (xat 4 pX2_liveBelow) 0 0 [(0, .inr (.inr (2, some s))), (1, .inl x1), (2, .inl x2), (3, .inl x3)] [] M = L_X2_liveBelow_4 fu (n + 1) s x1 x2 x3 M := rfl
def F_X2_liveBelow (fu : Nat) (s : Nat) (x1 : Int32) (M : xM) : Option (Int32 × xM) :=
  L_X2_liveBelow_4 fu fu s x1 0 0 M
set_option maxRecDepth 100000 in
theorem q_X2_liveBelow (fu : Nat) (s : Nat) (x1 : Int32) (M : xM) :
    xrun pX2_liveBelow flX2 koX2 nwX2 [] [(4, fun bc bs ls st M => xz bc bs (lR ls 0 2 fun o => o.bind fun s => lI ls 1 fun x1 => lI ls 2 fun x2 => lI ls 3 fun x3 => xe st (L_X2_liveBelow_4 fu fu s x1 x2 x3 M)))] xrtI 28 (xat 0 pX2_liveBelow) 0 0 [(0, .inr (.inr (2, some s))), (1, .inl x1)] [] M = F_X2_liveBelow fu s x1 M := rfl
def w_X2_liveBelow (fu : Nat) {ρ : Type} (as : List xV) (M : xM) (k : Option xV → xM → Option ρ) : Option ρ := pR 2 as fun o as => o.bind fun s => pI as fun x1 as => xe as ((F_X2_liveBelow fu s x1 M).bind fun p => k (some (.inl p.1)) p.2)
def pX2_slotOfLive : List xE := [(0, 0, 1, 0, 0, [], .aload_n 0),
  (0, 1, 3, 0, 0, [], .invokevirtual 174),
  (0, 4, 1, 0, 0, [], .iconst 0),
  (0, 5, 1, 0, 0, [], .istore_n 2),
  (1, 6, 1, 0, 0, [], .iload_n 2),
  (0, 7, 1, 0, 0, [], .aload_n 0),
  (0, 8, 3, 0, 0, [], .getfield 12),
  (0, 11, 3, 0, 0, [], .getfield 177),
  (0, 14, 3, 51, 0, [], .if_icmp .ge 37),
  (0, 17, 1, 0, 0, [], .aload_n 0),
  (0, 18, 3, 0, 0, [], .getfield 29),
  (0, 21, 1, 0, 0, [], .iload_n 2),
  (0, 22, 1, 0, 0, [], .baload),
  (0, 23, 3, 45, 0, [], .ifCond .eq 22),
  (0, 26, 1, 0, 0, [], .aload_n 0),
  (0, 27, 1, 0, 0, [], .aload_n 0),
  (0, 28, 3, 0, 0, [], .getfield 12),
  (0, 31, 3, 0, 0, [], .getfield 285),
  (0, 34, 1, 0, 0, [], .iload_n 2),
  (0, 35, 1, 0, 0, [], .iaload),
  (0, 36, 3, 0, 0, [], .invokevirtual 288),
  (0, 39, 1, 0, 0, [], .iload_n 1),
  (0, 40, 3, 45, 0, [], .if_icmp .ne 5),
  (0, 43, 1, 0, 0, [], .iload_n 2),
  (0, 44, 1, 0, 0, [], .ireturn),
  (0, 45, 3, 0, 1, [], .iinc 2 1),
  (0, 48, 3, 6, 0, [], .goto (-42)),
  (0, 51, 1, 0, (-1), [], .iconst (-1)),
  (0, 52, 1, 0, 0, [], .ireturn)]
def L_X2_slotOfLive_6 (fu : Nat) : Nat → Nat → Int32 → Int32 → xM → Option (Int32 × xM)
  | 0, _, _, _, _ => none
  | n + 1, s, x1, x2, M =>
    (gR M 2 s 0).bind fun a_1 =>
    if (gI M 0 a_1 2) ≤ x2 then
      (some ((-1), M))
    else
      (gR M 2 s 12).bind fun a_2 =>
      gd (xin x2 (gN M 22 a_2)) <|
      if (gI M 22 a_2 (xi x2)) = 0 then
        L_X2_slotOfLive_6 fu n s x1 (x2 + 1) M
      else
        (gR M 2 s 0).bind fun a_3 =>
        (gR M 0 a_3 10).bind fun a_4 =>
        gd (xin x2 (gN M 20 a_4)) <|
        (F_X2_liveBelow fu s (gI M 20 a_4 (xi x2)) M).bind fun p_5 =>
        if ¬ p_5.1 = x1 then
          L_X2_slotOfLive_6 fu n s x1 (x2 + 1) p_5.2
        else
          (some (x2, p_5.2))
set_option maxRecDepth 100000 in
theorem q_X2_slotOfLive_6 (fu : Nat) (n : Nat) (s : Nat) (x1 : Int32) (x2 : Int32) (M : xM) :
    xrun pX2_slotOfLive flX2 koX2 nwX2 [(288, 2, 0, 0, w_X2_liveBelow fu)] [(6, fun bc bs ls st M => xz bc bs (lR ls 0 2 fun o => o.bind fun s => lI ls 1 fun x1 => lI ls 2 fun x2 => xe st (L_X2_slotOfLive_6 fu n s x1 x2 M)))] xrtI 31 (xat 6 pX2_slotOfLive) 0 0 [(0, .inr (.inr (2, some s))), (1, .inl x1), (2, .inl x2)] [] M = L_X2_slotOfLive_6 fu (n + 1) s x1 x2 M := rfl
def F_X2_slotOfLive (fu : Nat) (s : Nat) (x1 : Int32) (M : xM) : Option (Int32 × xM) :=
  (F_X2_survey fu s M).bind fun p_1 =>
  L_X2_slotOfLive_6 fu fu s x1 0 p_1
set_option maxRecDepth 100000 in
theorem q_X2_slotOfLive (fu : Nat) (s : Nat) (x1 : Int32) (M : xM) :
    xrun pX2_slotOfLive flX2 koX2 nwX2 [(174, 1, 0, 0, w_X2_survey fu)] [(6, fun bc bs ls st M => xz bc bs (lR ls 0 2 fun o => o.bind fun s => lI ls 1 fun x1 => lI ls 2 fun x2 => xe st (L_X2_slotOfLive_6 fu fu s x1 x2 M)))] xrtI 31 (xat 0 pX2_slotOfLive) 0 0 [(0, .inr (.inr (2, some s))), (1, .inl x1)] [] M = F_X2_slotOfLive fu s x1 M := rfl
def w_X2_slotOfLive (fu : Nat) {ρ : Type} (as : List xV) (M : xM) (k : Option xV → xM → Option ρ) : Option ρ := pR 2 as fun o as => o.bind fun s => pI as fun x1 as => xe as ((F_X2_slotOfLive fu s x1 M).bind fun p => k (some (.inl p.1)) p.2)
def pX3_sayingLike : List xE := [(0, 0, 1, 0, 0, [], .iconst 0),
  (0, 1, 1, 0, 0, [], .istore_n 3),
  (0, 2, 1, 0, 0, [], .iconst 0),
  (0, 3, 2, 0, 0, [], .istore 4),
  (1, 5, 2, 0, 0, [], .iload 4),
  (0, 7, 1, 0, 0, [], .aload_n 0),
  (0, 8, 3, 0, 0, [], .getfield 29),
  (0, 11, 3, 66, 0, [], .if_icmp .ge 55),
  (0, 14, 1, 0, 0, [], .aload_n 0),
  (0, 15, 3, 0, 0, [], .getfield 21),
  (0, 18, 2, 0, 0, [], .iload 4),
  (0, 20, 1, 0, 0, [], .baload),
  (0, 21, 3, 60, 0, [], .ifCond .eq 39),
  (0, 24, 1, 0, 0, [], .aload_n 0),
  (0, 25, 3, 0, 0, [], .getfield 11),
  (0, 28, 2, 0, 0, [], .iload 4),
  (0, 30, 2, 0, 20, [], .bipush 20),
  (0, 32, 1, 0, 0, [], .imul),
  (0, 33, 1, 0, 0, [], .iload_n 2),
  (0, 34, 1, 0, 0, [], .iadd),
  (0, 35, 1, 0, 0, [], .iaload),
  (0, 36, 1, 0, 0, [], .aload_n 0),
  (0, 37, 3, 0, 0, [], .getfield 11),
  (0, 40, 1, 0, 0, [], .iload_n 1),
  (0, 41, 2, 0, 20, [], .bipush 20),
  (0, 43, 1, 0, 0, [], .imul),
  (0, 44, 1, 0, 0, [], .iload_n 2),
  (0, 45, 1, 0, 0, [], .iadd),
  (0, 46, 1, 0, 0, [], .iaload),
  (0, 47, 3, 60, 0, [], .if_icmp .ne 13),
  (0, 50, 1, 0, 0, [], .iload_n 3),
  (0, 51, 1, 0, 0, [], .aload_n 0),
  (0, 52, 3, 0, 0, [], .getfield 15),
  (0, 55, 2, 0, 0, [], .iload 4),
  (0, 57, 1, 0, 0, [], .iaload),
  (0, 58, 1, 0, 0, [], .iadd),
  (0, 59, 1, 0, 0, [], .istore_n 3),
  (0, 60, 3, 0, 1, [], .iinc 4 1),
  (0, 63, 3, 5, 0, [], .goto (-58)),
  (0, 66, 1, 0, 0, [], .iload_n 3),
  (0, 67, 1, 0, 0, [], .ireturn)]
def L_X3_sayingLike_5 (fu : Nat) : Nat → Nat → Int32 → Int32 → Int32 → Int32 → xM → Option (Int32 × xM)
  | 0, _, _, _, _, _, _ => none
  | n + 1, s, x1, x2, x3, x4, M =>
    if (gI M 3 s 1) ≤ x4 then
      (some (x3, M))
    else
      (gR M 3 s 5).bind fun a_1 =>
      gd (xin x4 (gN M 22 a_1)) <|
      if (gI M 22 a_1 (xi x4)) = 0 then
        L_X3_sayingLike_5 fu n s x1 x2 x3 (x4 + 1) M
      else
        (gR M 3 s 2).bind fun a_2 =>
        gd (xin ((x4 * 20) + x2) (gN M 20 a_2)) <|
        (gR M 3 s 2).bind fun a_3 =>
        gd (xin ((x1 * 20) + x2) (gN M 20 a_3)) <|
        if ¬ (gI M 20 a_2 (xi ((x4 * 20) + x2))) = (gI M 20 a_3 (xi ((x1 * 20) + x2))) then
          L_X3_sayingLike_5 fu n s x1 x2 x3 (x4 + 1) M
        else
          (gR M 3 s 3).bind fun a_4 =>
          gd (xin x4 (gN M 20 a_4)) <|
          let x3_5 : Int32 := x3 + (gI M 20 a_4 (xi x4))
          L_X3_sayingLike_5 fu n s x1 x2 x3_5 (x4 + 1) M
set_option maxRecDepth 100000 in
theorem q_X3_sayingLike_5 (fu : Nat) (n : Nat) (s : Nat) (x1 : Int32) (x2 : Int32) (x3 : Int32) (x4 : Int32) (M : xM) :
    xrun pX3_sayingLike flX3 koX3 nwX3 [] [(5, fun bc bs ls st M => xz bc bs (lR ls 0 3 fun o => o.bind fun s => lI ls 1 fun x1 => lI ls 2 fun x2 => lI ls 3 fun x3 => lI ls 4 fun x4 => xe st (L_X3_sayingLike_5 fu n s x1 x2 x3 x4 M)))] xrtI 43 (xat 5 pX3_sayingLike) 0 0 [(0, .inr (.inr (3, some s))), (1, .inl x1), (2, .inl x2), (3, .inl x3), (4, .inl x4)] [] M = L_X3_sayingLike_5 fu (n + 1) s x1 x2 x3 x4 M := rfl
def F_X3_sayingLike (fu : Nat) (s : Nat) (x1 : Int32) (x2 : Int32) (M : xM) : Option (Int32 × xM) :=
  L_X3_sayingLike_5 fu fu s x1 x2 0 0 M
set_option maxRecDepth 100000 in
theorem q_X3_sayingLike (fu : Nat) (s : Nat) (x1 : Int32) (x2 : Int32) (M : xM) :
    xrun pX3_sayingLike flX3 koX3 nwX3 [] [(5, fun bc bs ls st M => xz bc bs (lR ls 0 3 fun o => o.bind fun s => lI ls 1 fun x1 => lI ls 2 fun x2 => lI ls 3 fun x3 => lI ls 4 fun x4 => xe st (L_X3_sayingLike_5 fu fu s x1 x2 x3 x4 M)))] xrtI 43 (xat 0 pX3_sayingLike) 0 0 [(0, .inr (.inr (3, some s))), (1, .inl x1), (2, .inl x2)] [] M = F_X3_sayingLike fu s x1 x2 M := rfl
def w_X3_sayingLike (fu : Nat) {ρ : Type} (as : List xV) (M : xM) (k : Option xV → xM → Option ρ) : Option ρ := pR 3 as fun o as => o.bind fun s => pI as fun x1 as => pI as fun x2 as => xe as ((F_X3_sayingLike fu s x1 x2 M).bind fun p => k (some (.inl p.1)) p.2)
def pX3_mostAlike : List xE := [(0, 0, 1, 0, 0, [], .iconst 0),
  (0, 1, 1, 0, 0, [], .istore_n 2),
  (0, 2, 1, 0, 0, [], .iconst 0),
  (0, 3, 1, 0, 0, [], .istore_n 3),
  (1, 4, 1, 0, 0, [], .iload_n 3),
  (0, 5, 1, 0, 0, [], .aload_n 0),
  (0, 6, 3, 0, 0, [], .getfield 29),
  (0, 9, 3, 38, 0, [], .if_icmp .ge 29),
  (0, 12, 1, 0, 0, [], .aload_n 0),
  (0, 13, 3, 0, 0, [], .getfield 21),
  (0, 16, 1, 0, 0, [], .iload_n 3),
  (0, 17, 1, 0, 0, [], .baload),
  (0, 18, 3, 32, 0, [], .ifCond .eq 14),
  (0, 21, 1, 0, 0, [], .iload_n 2),
  (0, 22, 1, 0, 0, [], .aload_n 0),
  (0, 23, 1, 0, 0, [], .iload_n 3),
  (0, 24, 1, 0, 0, [], .iload_n 1),
  (0, 25, 3, 0, 0, [], .invokevirtual 65),
  (0, 28, 3, 0, 0, [], .invokestatic 69),
  (0, 31, 1, 0, 0, [], .istore_n 2),
  (0, 32, 3, 0, 1, [], .iinc 3 1),
  (0, 35, 3, 4, 0, [], .goto (-31)),
  (0, 38, 1, 0, 0, [], .iload_n 2),
  (0, 39, 1, 0, 0, [], .ireturn)]
def L_X3_mostAlike_4 (fu : Nat) : Nat → Nat → Int32 → Int32 → Int32 → xM → Option (Int32 × xM)
  | 0, _, _, _, _, _ => none
  | n + 1, s, x1, x2, x3, M =>
    if (gI M 3 s 1) ≤ x3 then
      (some (x2, M))
    else
      (gR M 3 s 5).bind fun a_1 =>
      gd (xin x3 (gN M 22 a_1)) <|
      if (gI M 22 a_1 (xi x3)) = 0 then
        L_X3_mostAlike_4 fu n s x1 x2 (x3 + 1) M
      else
        (F_X3_sayingLike fu s x3 x1 M).bind fun p_2 =>
        let x2_3 : Int32 := xmaxI x2 p_2.1
        L_X3_mostAlike_4 fu n s x1 x2_3 (x3 + 1) p_2.2
set_option maxRecDepth 100000 in
theorem q_X3_mostAlike_4 (fu : Nat) (n : Nat) (s : Nat) (x1 : Int32) (x2 : Int32) (x3 : Int32) (M : xM) :
    xrun pX3_mostAlike flX3 koX3 nwX3 [(65, 3, 0, 0, w_X3_sayingLike fu), (69, 2, 0, 0, w_max)] [(4, fun bc bs ls st M => xz bc bs (lR ls 0 3 fun o => o.bind fun s => lI ls 1 fun x1 => lI ls 2 fun x2 => lI ls 3 fun x3 => xe st (L_X3_mostAlike_4 fu n s x1 x2 x3 M)))] xrtI 26 (xat 4 pX3_mostAlike) 0 0 [(0, .inr (.inr (3, some s))), (1, .inl x1), (2, .inl x2), (3, .inl x3)] [] M = L_X3_mostAlike_4 fu (n + 1) s x1 x2 x3 M := rfl
def F_X3_mostAlike (fu : Nat) (s : Nat) (x1 : Int32) (M : xM) : Option (Int32 × xM) :=
  L_X3_mostAlike_4 fu fu s x1 0 0 M
set_option maxRecDepth 100000 in
theorem q_X3_mostAlike (fu : Nat) (s : Nat) (x1 : Int32) (M : xM) :
    xrun pX3_mostAlike flX3 koX3 nwX3 [] [(4, fun bc bs ls st M => xz bc bs (lR ls 0 3 fun o => o.bind fun s => lI ls 1 fun x1 => lI ls 2 fun x2 => lI ls 3 fun x3 => xe st (L_X3_mostAlike_4 fu fu s x1 x2 x3 M)))] xrtI 26 (xat 0 pX3_mostAlike) 0 0 [(0, .inr (.inr (3, some s))), (1, .inl x1)] [] M = F_X3_mostAlike fu s x1 M := rfl
def w_X3_mostAlike (fu : Nat) {ρ : Type} (as : List xV) (M : xM) (k : Option xV → xM → Option ρ) : Option ρ := pR 3 as fun o as => o.bind fun s => pI as fun x1 as => xe as ((F_X3_mostAlike fu s x1 M).bind fun p => k (some (.inl p.1)) p.2)
def pX3_bestPage : List xE := [(0, 0, 1, 0, 0, [], .aload_n 0),
  (0, 1, 1, 0, 0, [], .aload_n 1),
  (0, 2, 3, 0, 0, [], .invokevirtual 52),
  (0, 5, 1, 0, 0, [], .istore_n 3),
  (0, 6, 1, 0, (-1), [], .iconst (-1)),
  (0, 7, 2, 0, 0, [], .istore 4),
  (0, 9, 1, 0, 0, [], .iconst 0),
  (0, 10, 2, 0, 0, [], .istore 5),
  (1, 12, 2, 0, 0, [], .iload 5),
  (0, 14, 2, 0, 20, [], .bipush 20),
  (0, 16, 3, 61, 0, [], .if_icmp .ge 45),
  (0, 19, 1, 0, 0, [], .aload_n 2),
  (0, 20, 2, 0, 0, [], .iload 5),
  (0, 22, 1, 0, 4, [], .iconst 4),
  (0, 23, 1, 0, 0, [], .idiv),
  (0, 24, 2, 0, 0, [], .iload 5),
  (0, 26, 1, 0, 4, [], .iconst 4),
  (0, 27, 1, 0, 0, [], .irem),
  (0, 28, 3, 0, 0, [], .invokevirtual 56),
  (0, 31, 3, 55, 0, [], .ifCond .eq 24),
  (0, 34, 1, 0, 0, [], .aload_n 0),
  (0, 35, 2, 0, 0, [], .iload 5),
  (0, 37, 3, 0, 0, [], .invokevirtual 62),
  (0, 40, 2, 0, 0, [], .istore 6),
  (0, 42, 2, 0, 0, [], .iload 6),
  (0, 44, 1, 0, 0, [], .iload_n 3),
  (0, 45, 3, 55, 0, [], .if_icmp .ge 10),
  (0, 48, 2, 0, 0, [], .iload 6),
  (0, 50, 1, 0, 0, [], .istore_n 3),
  (0, 51, 2, 0, 0, [], .iload 5),
  (0, 53, 2, 0, 0, [], .istore 4),
  (0, 55, 3, 0, 1, [], .iinc 5 1),
  (0, 58, 3, 12, 0, [], .goto (-46)),
  (0, 61, 2, 0, 0, [], .iload 4),
  (0, 63, 1, 0, 0, [], .ireturn)]
def L_X3_bestPage_12 (fu : Nat) : Nat → Nat → Option Nat → Int32 → Int32 → Int32 → xM → Option (Int32 × xM)
  | 0, _, _, _, _, _, _ => none
  | n + 1, s, x2, x3, x4, x5, M =>
    if 20 ≤ x5 then
      (some (x4, M))
    else
      gd (!((4 : Int32) == 0)) <|
      gd (!((4 : Int32) == 0)) <|
      x2.bind fun a_1 =>
      (F_X7_isPage fu a_1 (x5 / 4) (x5 - x5 / 4 * 4) M).bind fun p_2 =>
      if p_2.1 = 0 then
        L_X3_bestPage_12 fu n s x2 x3 x4 (x5 + 1) p_2.2
      else
        (F_X3_mostAlike fu s x5 p_2.2).bind fun p_3 =>
        if x3 ≤ p_3.1 then
          L_X3_bestPage_12 fu n s x2 x3 x4 (x5 + 1) p_3.2
        else
          L_X3_bestPage_12 fu n s x2 p_3.1 x5 (x5 + 1) p_3.2
set_option maxRecDepth 100000 in
theorem q_X3_bestPage_12 (fu : Nat) (n : Nat) (s : Nat) (x2 : Option Nat) (x3 : Int32) (x4 : Int32) (x5 : Int32) (M : xM) :
    xrun pX3_bestPage flX3 koX3 nwX3 [(56, 3, 0, 0, w_X7_isPage fu), (62, 2, 0, 0, w_X3_mostAlike fu)] [(12, fun bc bs ls st M => xz bc bs (lR ls 0 3 fun o => o.bind fun s => lR ls 2 7 fun x2 => lI ls 3 fun x3 => lI ls 4 fun x4 => lI ls 5 fun x5 => xe st (L_X3_bestPage_12 fu n s x2 x3 x4 x5 M)))] xrtI 37 (xat 12 pX3_bestPage) 0 0 [(0, .inr (.inr (3, some s))), (2, .inr (.inr (7, x2))), (3, .inl x3), (4, .inl x4), (5, .inl x5)] [] M = L_X3_bestPage_12 fu (n + 1) s x2 x3 x4 x5 M := rfl
def F_X3_bestPage (fu : Nat) (s : Nat) (x1 : Option Nat) (x2 : Option Nat) (M : xM) : Option (Int32 × xM) :=
  (F_X3_fitting fu s x1 M).bind fun p_1 =>
  L_X3_bestPage_12 fu fu s x2 p_1.1 ((-1)) 0 p_1.2
set_option maxRecDepth 100000 in
theorem q_X3_bestPage (fu : Nat) (s : Nat) (x1 : Option Nat) (x2 : Option Nat) (M : xM) :
    xrun pX3_bestPage flX3 koX3 nwX3 [(52, 2, 0, 0, w_X3_fitting fu)] [(12, fun bc bs ls st M => xz bc bs (lR ls 0 3 fun o => o.bind fun s => lR ls 2 7 fun x2 => lI ls 3 fun x3 => lI ls 4 fun x4 => lI ls 5 fun x5 => xe st (L_X3_bestPage_12 fu fu s x2 x3 x4 x5 M)))] xrtI 37 (xat 0 pX3_bestPage) 0 0 [(0, .inr (.inr (3, some s))), (1, .inr (.inr (1, x1))), (2, .inr (.inr (7, x2)))] [] M = F_X3_bestPage fu s x1 x2 M := rfl
def w_X3_bestPage (fu : Nat) {ρ : Type} (as : List xV) (M : xM) (k : Option xV → xM → Option ρ) : Option ρ := pR 3 as fun o as => o.bind fun s => pR 1 as fun x1 as => pR 7 as fun x2 as => xe as ((F_X3_bestPage fu s x1 x2 M).bind fun p => k (some (.inl p.1)) p.2)
def pX11_look : List xE := [(0, 0, 1, 0, 0, [], .aload_n 0),
  (0, 1, 3, 0, 0, [], .getfield 67),
  (0, 4, 1, 0, 0, [], .aload_n 0),
  (0, 5, 3, 0, 0, [], .getfield 19),
  (0, 8, 1, 0, 0, [], .aload_n 0),
  (0, 9, 3, 0, 0, [], .getfield 29),
  (0, 12, 3, 0, 0, [], .invokevirtual 207),
  (0, 15, 1, 0, 0, [], .aload_n 0),
  (0, 16, 3, 0, 0, [], .getfield 67),
  (0, 19, 3, 0, 0, [], .getfield 285),
  (0, 22, 1, 0, 0, [], .aload_n 0),
  (0, 23, 3, 0, 0, [], .getfield 58),
  (0, 26, 1, 0, 0, [], .aload_n 0),
  (0, 27, 3, 0, 0, [], .getfield 19),
  (0, 30, 3, 0, 0, [], .invokevirtual 304),
  (0, 33, 1, 0, 0, [], .ireturn)]
def F_X11_look (fu : Nat) (s : Nat) (M : xM) : Option (Int32 × xM) :=
  (gR M 11 s 9).bind fun a_1 =>
  (F_X5_run fu a_1 (gR M 11 s 1) (gR M 11 s 3) M).bind fun p_2 =>
  (gR p_2 11 s 9).bind fun a_3 =>
  (gR p_2 5 a_3 0).bind fun a_4 =>
  (F_X3_bestPage fu a_4 (gR p_2 11 s 8) (gR p_2 11 s 1) p_2).bind fun p_5 =>
  (some (p_5.1, p_5.2))
set_option maxRecDepth 100000 in
theorem q_X11_look (fu : Nat) (s : Nat) (M : xM) :
    xrun pX11_look flX11 koX11 nwX11 [(207, 3, 0, 0, w_X5_run fu), (304, 3, 0, 0, w_X3_bestPage fu)] [] xrtI 18 (xat 0 pX11_look) 0 0 [(0, .inr (.inr (11, some s)))] [] M = F_X11_look fu s M := rfl
def w_X11_look (fu : Nat) {ρ : Type} (as : List xV) (M : xM) (k : Option xV → xM → Option ρ) : Option ρ := pR 11 as fun o as => o.bind fun s => xe as ((F_X11_look fu s M).bind fun p => k (some (.inl p.1)) p.2)
def pX2_lostPages : List xE := [(0, 0, 1, 0, 0, [], .aload_n 0),
  (0, 1, 3, 0, 0, [], .getfield 39),
  (0, 4, 1, 0, 0, [], .aload_n 0),
  (0, 5, 3, 0, 0, [], .getfield 12),
  (0, 8, 3, 0, 0, [], .invokevirtual 106),
  (0, 11, 1, 0, 0, [], .iconst 0),
  (0, 12, 1, 0, 0, [], .istore_n 1),
  (0, 13, 1, 0, 0, [], .iconst 0),
  (0, 14, 1, 0, 0, [], .istore_n 2),
  (1, 15, 1, 0, 0, [], .iload_n 2),
  (0, 16, 2, 0, 20, [], .bipush 20),
  (0, 18, 3, 51, 0, [], .if_icmp .ge 33),
  (0, 21, 1, 0, 0, [], .aload_n 0),
  (0, 22, 3, 0, 0, [], .getfield 18),
  (0, 25, 1, 0, 0, [], .iload_n 2),
  (0, 26, 1, 0, 0, [], .iaload),
  (0, 27, 3, 45, 0, [], .ifCond .eq 18),
  (0, 30, 1, 0, 0, [], .aload_n 0),
  (0, 31, 3, 0, 0, [], .getfield 39),
  (0, 34, 3, 0, 0, [], .getfield 255),
  (0, 37, 1, 0, 0, [], .iload_n 2),
  (0, 38, 1, 0, 0, [], .iaload),
  (0, 39, 3, 45, 0, [], .ifCond .ne 6),
  (0, 42, 3, 0, 1, [], .iinc 1 1),
  (0, 45, 3, 0, 1, [], .iinc 2 1),
  (0, 48, 3, 15, 0, [], .goto (-33)),
  (0, 51, 1, 0, 0, [], .iload_n 1),
  (0, 52, 1, 0, 0, [], .ireturn)]
def L_X2_lostPages_15 (fu : Nat) : Nat → Nat → Int32 → Int32 → xM → Option (Int32 × xM)
  | 0, _, _, _, _ => none
  | n + 1, s, x1, x2, M =>
    if 20 ≤ x2 then
      (some (x1, M))
    else
      (gR M 2 s 7).bind fun a_1 =>
      gd (xin x2 (gN M 20 a_1)) <|
      if (gI M 20 a_1 (xi x2)) = 0 then
        L_X2_lostPages_15 fu n s x1 (x2 + 1) M
      else
        (gR M 2 s 5).bind fun a_2 =>
        (gR M 4 a_2 0).bind fun a_3 =>
        gd (xin x2 (gN M 20 a_3)) <|
        if ¬ (gI M 20 a_3 (xi x2)) = 0 then
          L_X2_lostPages_15 fu n s x1 (x2 + 1) M
        else
          L_X2_lostPages_15 fu n s (x1 + 1) (x2 + 1) M
set_option maxRecDepth 100000 in
theorem q_X2_lostPages_15 (fu : Nat) (n : Nat) (s : Nat) (x1 : Int32) (x2 : Int32) (M : xM) :
    xrun pX2_lostPages flX2 koX2 nwX2 [] [(15, fun bc bs ls st M => xz bc bs (lR ls 0 2 fun o => o.bind fun s => lI ls 1 fun x1 => lI ls 2 fun x2 => xe st (L_X2_lostPages_15 fu n s x1 x2 M)))] xrtI 30 (xat 15 pX2_lostPages) 0 0 [(0, .inr (.inr (2, some s))), (1, .inl x1), (2, .inl x2)] [] M = L_X2_lostPages_15 fu (n + 1) s x1 x2 M := rfl
def F_X2_lostPages (fu : Nat) (s : Nat) (M : xM) : Option (Int32 × xM) :=
  (gR M 2 s 5).bind fun a_1 =>
  (F_X4_find fu a_1 (gR M 2 s 0) M).bind fun p_2 =>
  L_X2_lostPages_15 fu fu s 0 0 p_2
set_option maxRecDepth 100000 in
theorem q_X2_lostPages (fu : Nat) (s : Nat) (M : xM) :
    xrun pX2_lostPages flX2 koX2 nwX2 [(106, 2, 0, 0, w_X4_find fu)] [(15, fun bc bs ls st M => xz bc bs (lR ls 0 2 fun o => o.bind fun s => lI ls 1 fun x1 => lI ls 2 fun x2 => xe st (L_X2_lostPages_15 fu fu s x1 x2 M)))] xrtI 30 (xat 0 pX2_lostPages) 0 0 [(0, .inr (.inr (2, some s)))] [] M = F_X2_lostPages fu s M := rfl
def w_X2_lostPages (fu : Nat) {ρ : Type} (as : List xV) (M : xM) (k : Option xV → xM → Option ρ) : Option ρ := pR 2 as fun o as => o.bind fun s => xe as ((F_X2_lostPages fu s M).bind fun p => k (some (.inl p.1)) p.2)
def pX11_loses : List xE := [(0, 0, 1, 0, 0, [], .aload_n 0),
  (0, 1, 3, 0, 0, [], .getfield 48),
  (0, 4, 3, 0, 0, [], .invokevirtual 263),
  (0, 7, 1, 0, 0, [], .ireturn)]
def F_X11_loses (fu : Nat) (s : Nat) (M : xM) : Option (Int32 × xM) :=
  (gR M 11 s 6).bind fun a_1 =>
  (F_X2_lostPages fu a_1 M).bind fun p_2 =>
  (some (p_2.1, p_2.2))
set_option maxRecDepth 100000 in
theorem q_X11_loses (fu : Nat) (s : Nat) (M : xM) :
    xrun pX11_loses flX11 koX11 nwX11 [(263, 1, 0, 0, w_X2_lostPages fu)] [] xrtI 6 (xat 0 pX11_loses) 0 0 [(0, .inr (.inr (11, some s)))] [] M = F_X11_loses fu s M := rfl
def w_X11_loses (fu : Nat) {ρ : Type} (as : List xV) (M : xM) (k : Option xV → xM → Option ρ) : Option ρ := pR 11 as fun o as => o.bind fun s => xe as ((F_X11_loses fu s M).bind fun p => k (some (.inl p.1)) p.2)
def pX1_copyFrom : List xE := [(0, 0, 1, 0, 0, [], .aload_n 0),
  (0, 1, 1, 0, 0, [], .aload_n 1),
  (0, 2, 3, 0, 0, [], .getfield 20),
  (0, 5, 3, 0, 0, [], .putfield 20),
  (0, 8, 1, 0, 0, [], .aload_n 1),
  (0, 9, 3, 0, 0, [], .getfield 9),
  (0, 12, 1, 0, 0, [], .iconst 0),
  (0, 13, 1, 0, 0, [], .aload_n 0),
  (0, 14, 3, 0, 0, [], .getfield 9),
  (0, 17, 1, 0, 0, [], .iconst 0),
  (0, 18, 2, 0, 8, [], .bipush 8),
  (0, 20, 3, 0, 0, [], .invokestatic 24),
  (0, 23, 1, 0, 0, [], .aload_n 1),
  (0, 24, 3, 0, 0, [], .getfield 13),
  (0, 27, 1, 0, 0, [], .iconst 0),
  (0, 28, 1, 0, 0, [], .aload_n 0),
  (0, 29, 3, 0, 0, [], .getfield 13),
  (0, 32, 1, 0, 0, [], .iconst 0),
  (0, 33, 2, 0, 8, [], .bipush 8),
  (0, 35, 3, 0, 0, [], .invokestatic 24),
  (0, 38, 1, 0, 0, [], .aload_n 1),
  (0, 39, 3, 0, 0, [], .getfield 16),
  (0, 42, 1, 0, 0, [], .iconst 0),
  (0, 43, 1, 0, 0, [], .aload_n 0),
  (0, 44, 3, 0, 0, [], .getfield 16),
  (0, 47, 1, 0, 0, [], .iconst 0),
  (0, 48, 2, 0, 8, [], .bipush 8),
  (0, 50, 3, 0, 0, [], .invokestatic 24),
  (0, 53, 1, 0, 0, [], .return_)]
def F_X1_copyFrom (fu : Nat) (s : Nat) (x1 : Option Nat) (M : xM) : Option xM :=
  x1.bind fun a_1 =>
  let M_2 := sI M 1 s 0 (gI M 1 a_1 0)
  x1.bind fun a_3 =>
  (gR M_2 1 a_3 1).bind fun a_4 =>
  (gR M_2 1 s 1).bind fun a_5 =>
  gd (xcpok 0 0 8 (gN M_2 20 a_4) (gN M_2 20 a_5)) <|
  let M_6 := cpI M_2 20 a_4 a_5 (xi 0) (xi 0) (xi 8)
  x1.bind fun a_7 =>
  (gR M_6 1 a_7 2).bind fun a_8 =>
  (gR M_6 1 s 2).bind fun a_9 =>
  gd (xcpok 0 0 8 (gN M_6 20 a_8) (gN M_6 20 a_9)) <|
  let M_10 := cpI M_6 20 a_8 a_9 (xi 0) (xi 0) (xi 8)
  x1.bind fun a_11 =>
  (gR M_10 1 a_11 3).bind fun a_12 =>
  (gR M_10 1 s 3).bind fun a_13 =>
  gd (xcpok 0 0 8 (gN M_10 22 a_12) (gN M_10 22 a_13)) <|
  let M_14 := cpI M_10 22 a_12 a_13 (xi 0) (xi 0) (xi 8)
  some M_14
set_option maxRecDepth 100000 in
theorem q_X1_copyFrom (fu : Nat) (s : Nat) (x1 : Option Nat) (M : xM) :
    xrun pX1_copyFrom flX1 koX1 nwX1 [(24, 5, 0, 0, w_arraycopy)] [] xrtV 31 (xat 0 pX1_copyFrom) 0 0 [(0, .inr (.inr (1, some s))), (1, .inr (.inr (1, x1)))] [] M = F_X1_copyFrom fu s x1 M := rfl
def w_X1_copyFrom (fu : Nat) {ρ : Type} (as : List xV) (M : xM) (k : Option xV → xM → Option ρ) : Option ρ := pR 1 as fun o as => o.bind fun s => pR 1 as fun x1 as => xe as ((F_X1_copyFrom fu s x1 M).bind fun p => k none p)
def pX11_mark : List xE := [(0, 0, 1, 0, 0, [], .iload_n 1),
  (0, 1, 3, 13, 0, [], .ifCond .lt 12),
  (0, 4, 1, 0, 0, [], .iload_n 1),
  (0, 5, 1, 0, 0, [], .aload_n 0),
  (0, 6, 3, 0, 0, [], .getfield 86),
  (0, 9, 1, 0, 0, [], .arraylength),
  (0, 10, 3, 15, 0, [], .if_icmp .lt 5),
  (0, 13, 1, 0, 0, [], .iconst 0),
  (0, 14, 1, 0, 0, [], .ireturn),
  (0, 15, 1, 0, 0, [], .iload_n 2),
  (0, 16, 3, 54, 0, [], .ifCond .ne 38),
  (0, 19, 1, 0, 0, [], .aload_n 0),
  (0, 20, 3, 0, 0, [], .getfield 78),
  (0, 23, 1, 0, 0, [], .iload_n 1),
  (0, 24, 1, 0, 0, [], .aaload),
  (0, 25, 1, 0, 0, [], .aload_n 0),
  (0, 26, 3, 0, 0, [], .getfield 48),
  (0, 29, 3, 0, 0, [], .invokevirtual 249),
  (0, 32, 1, 0, 0, [], .aload_n 0),
  (0, 33, 3, 0, 0, [], .getfield 82),
  (0, 36, 1, 0, 0, [], .iload_n 1),
  (0, 37, 1, 0, 0, [], .aaload),
  (0, 38, 1, 0, 0, [], .aload_n 0),
  (0, 39, 3, 0, 0, [], .getfield 58),
  (0, 42, 3, 0, 0, [], .invokevirtual 325),
  (0, 45, 1, 0, 0, [], .aload_n 0),
  (0, 46, 3, 0, 0, [], .getfield 86),
  (0, 49, 1, 0, 0, [], .iload_n 1),
  (0, 50, 1, 0, 1, [], .iconst 1),
  (0, 51, 1, 0, 0, [], .bastore),
  (0, 52, 1, 0, 1, [], .iconst 1),
  (0, 53, 1, 0, 0, [], .ireturn),
  (0, 54, 1, 0, 0, [], .aload_n 0),
  (0, 55, 3, 0, 0, [], .getfield 86),
  (0, 58, 1, 0, 0, [], .iload_n 1),
  (0, 59, 1, 0, 0, [], .baload),
  (0, 60, 3, 65, 0, [], .ifCond .ne 5),
  (0, 63, 1, 0, 0, [], .iconst 0),
  (0, 64, 1, 0, 0, [], .ireturn),
  (0, 65, 1, 0, 0, [], .aload_n 0),
  (0, 66, 3, 0, 0, [], .getfield 48),
  (0, 69, 1, 0, 0, [], .aload_n 0),
  (0, 70, 3, 0, 0, [], .getfield 78),
  (0, 73, 1, 0, 0, [], .iload_n 1),
  (0, 74, 1, 0, 0, [], .aaload),
  (0, 75, 3, 0, 0, [], .invokevirtual 249),
  (0, 78, 1, 0, 0, [], .aload_n 0),
  (0, 79, 3, 0, 0, [], .getfield 58),
  (0, 82, 1, 0, 0, [], .aload_n 0),
  (0, 83, 3, 0, 0, [], .getfield 82),
  (0, 86, 1, 0, 0, [], .iload_n 1),
  (0, 87, 1, 0, 0, [], .aaload),
  (0, 88, 3, 0, 0, [], .invokevirtual 325),
  (0, 91, 1, 0, 1, [], .iconst 1),
  (0, 92, 1, 0, 0, [], .ireturn)]
def F_X11_mark (fu : Nat) (s : Nat) (x1 : Int32) (x2 : Int32) (M : xM) : Option (Int32 × xM) :=
  if x1 < 0 then
    gd (xbool 0) (some (0, M))
  else
    (gR M 11 s 13).bind fun a_1 =>
    if x1 < (Int32.ofNat (gN M 22 a_1)) then
      if ¬ x2 = 0 then
        (gR M 11 s 13).bind fun a_2 =>
        gd (xin x1 (gN M 22 a_2)) <|
        if ¬ (gI M 22 a_2 (xi x1)) = 0 then
          (gR M 11 s 11).bind fun a_3 =>
          gd (xin x1 (gN M 24 a_3)) <|
          (gR M 11 s 6).bind fun a_4 =>
          (F_X2_copyFrom fu a_4 (gR M 24 a_3 (xi x1)) M).bind fun p_5 =>
          (gR p_5 11 s 12).bind fun a_6 =>
          gd (xin x1 (gN p_5 25 a_6)) <|
          (gR p_5 11 s 8).bind fun a_7 =>
          (F_X1_copyFrom fu a_7 (gR p_5 25 a_6 (xi x1)) p_5).bind fun p_8 =>
          gd (xbool 1) (some (1, p_8))
        else
          gd (xbool 0) (some (0, M))
      else
        (gR M 11 s 11).bind fun a_9 =>
        gd (xin x1 (gN M 24 a_9)) <|
        (gR M 24 a_9 (xi x1)).bind fun a_10 =>
        (F_X2_copyFrom fu a_10 (gR M 11 s 6) M).bind fun p_11 =>
        (gR p_11 11 s 12).bind fun a_12 =>
        gd (xin x1 (gN p_11 25 a_12)) <|
        (gR p_11 25 a_12 (xi x1)).bind fun a_13 =>
        (F_X1_copyFrom fu a_13 (gR p_11 11 s 8) p_11).bind fun p_14 =>
        (gR p_14 11 s 13).bind fun a_15 =>
        gd (xin x1 (gN p_14 22 a_15)) <|
        gd (xbool 1) <|
        let M_16 := sI p_14 22 a_15 (xi x1) 1
        gd (xbool 1) (some (1, M_16))
    else
      gd (xbool 0) (some (0, M))
set_option maxRecDepth 100000 in
theorem q_X11_mark (fu : Nat) (s : Nat) (x1 : Int32) (x2 : Int32) (M : xM) :
    xrun pX11_mark flX11 koX11 nwX11 [(249, 2, 0, 0, w_X2_copyFrom fu), (325, 2, 0, 0, w_X1_copyFrom fu)] [] xrtZ 57 (xat 0 pX11_mark) 0 0 [(0, .inr (.inr (11, some s))), (1, .inl x1), (2, .inl x2)] [] M = F_X11_mark fu s x1 x2 M := rfl
def w_X11_mark (fu : Nat) {ρ : Type} (as : List xV) (M : xM) (k : Option xV → xM → Option ρ) : Option ρ := pR 11 as fun o as => o.bind fun s => pI as fun x1 as => pI as fun x2 as => xe as ((F_X11_mark fu s x1 x2 M).bind fun p => k (some (.inl p.1)) p.2)
def pX11_may : List xE := [(0, 0, 1, 0, 0, [], .aload_n 0),
  (0, 1, 3, 0, 0, [], .getfield 48),
  (0, 4, 1, 0, 0, [], .iload_n 1),
  (0, 5, 1, 0, 0, [], .iload_n 2),
  (0, 6, 3, 0, 0, [], .invokevirtual 220),
  (0, 9, 3, 28, 0, [], .ifCond .eq 19),
  (0, 12, 1, 0, 0, [], .aload_n 0),
  (0, 13, 3, 0, 0, [], .getfield 48),
  (0, 16, 1, 0, 0, [], .iload_n 1),
  (0, 17, 1, 0, 0, [], .iload_n 2),
  (0, 18, 3, 0, 0, [], .invokevirtual 223),
  (0, 21, 3, 28, 0, [], .ifCond .eq 7),
  (0, 24, 1, 0, 1, [], .iconst 1),
  (0, 25, 3, 29, 0, [], .goto 4),
  (0, 28, 1, 0, 0, [], .iconst 0),
  (0, 29, 1, 0, 0, [], .ireturn)]
def F_X11_may (fu : Nat) (s : Nat) (x1 : Int32) (x2 : Int32) (M : xM) : Option (Int32 × xM) :=
  (gR M 11 s 6).bind fun a_1 =>
  (F_X2_mayWrite fu a_1 x1 x2 M).bind fun p_2 =>
  if p_2.1 = 0 then
    gd (xbool 0) (some (0, p_2.2))
  else
    (gR p_2.2 11 s 6).bind fun a_3 =>
    (F_X2_hasRoomToWrite fu a_3 x1 x2 p_2.2).bind fun p_4 =>
    if p_4.1 = 0 then
      gd (xbool 0) (some (0, p_4.2))
    else
      gd (xbool 1) (some (1, p_4.2))
set_option maxRecDepth 100000 in
theorem q_X11_may (fu : Nat) (s : Nat) (x1 : Int32) (x2 : Int32) (M : xM) :
    xrun pX11_may flX11 koX11 nwX11 [(220, 3, 0, 0, w_X2_mayWrite fu), (223, 3, 0, 0, w_X2_hasRoomToWrite fu)] [] xrtZ 18 (xat 0 pX11_may) 0 0 [(0, .inr (.inr (11, some s))), (1, .inl x1), (2, .inl x2)] [] M = F_X11_may fu s x1 x2 M := rfl
def w_X11_may (fu : Nat) {ρ : Type} (as : List xV) (M : xM) (k : Option xV → xM → Option ρ) : Option ρ := pR 11 as fun o as => o.bind fun s => pI as fun x1 as => pI as fun x2 as => xe as ((F_X11_may fu s x1 x2 M).bind fun p => k (some (.inl p.1)) p.2)
def pX2_mountAgain : List xE := [(0, 0, 1, 0, 0, [], .aload_n 0),
  (0, 1, 3, 0, 0, [], .getfield 39),
  (0, 4, 1, 0, 0, [], .aload_n 0),
  (0, 5, 3, 0, 0, [], .getfield 12),
  (0, 8, 3, 0, 0, [], .invokevirtual 106),
  (0, 11, 1, 0, 0, [], .aload_n 0),
  (0, 12, 3, 0, 0, [], .invokevirtual 65),
  (0, 15, 1, 0, 0, [], .aload_n 0),
  (0, 16, 3, 0, 0, [], .getfield 39),
  (0, 19, 3, 0, 0, [], .getfield 255),
  (0, 22, 1, 0, 0, [], .iconst 0),
  (0, 23, 1, 0, 0, [], .aload_n 0),
  (0, 24, 3, 0, 0, [], .getfield 18),
  (0, 27, 1, 0, 0, [], .iconst 0),
  (0, 28, 2, 0, 20, [], .bipush 20),
  (0, 30, 3, 0, 0, [], .invokestatic 75),
  (0, 33, 1, 0, 0, [], .aload_n 0),
  (0, 34, 1, 0, 1, [], .iconst 1),
  (0, 35, 3, 0, 0, [], .putfield 47),
  (0, 38, 1, 0, 0, [], .aload_n 0),
  (0, 39, 1, 0, 0, [], .iconst 0),
  (0, 40, 3, 0, 0, [], .putfield 55),
  (0, 43, 1, 0, 0, [], .aload_n 0),
  (0, 44, 1, 0, 0, [], .aload_n 0),
  (0, 45, 3, 0, 0, [], .getfield 12),
  (0, 48, 3, 0, 0, [], .invokevirtual 258),
  (0, 51, 3, 0, 0, [], .putfield 62),
  (0, 54, 1, 0, 0, [], .aload_n 0),
  (0, 55, 3, 0, 0, [], .getfield 12),
  (0, 58, 1, 0, 0, [], .aload_n 0),
  (0, 59, 3, 0, 0, [], .getfield 12),
  (0, 62, 3, 0, 0, [], .invokevirtual 261),
  (0, 65, 3, 0, 0, [], .putfield 243),
  (0, 68, 1, 0, 0, [], .aload_n 0),
  (0, 69, 3, 0, 0, [], .invokevirtual 174),
  (0, 72, 1, 0, 0, [], .aload_n 0),
  (0, 73, 3, 0, 0, [], .getfield 183),
  (0, 76, 1, 0, 0, [], .ireturn)]
def F_X2_mountAgain (fu : Nat) (s : Nat) (M : xM) : Option (Int32 × xM) :=
  (gR M 2 s 5).bind fun a_1 =>
  (F_X4_find fu a_1 (gR M 2 s 0) M).bind fun p_2 =>
  (F_X2_forgetFiles fu s p_2).bind fun p_3 =>
  (gR p_3 2 s 5).bind fun a_4 =>
  (gR p_3 4 a_4 0).bind fun a_5 =>
  (gR p_3 2 s 7).bind fun a_6 =>
  gd (xcpok 0 0 20 (gN p_3 20 a_5) (gN p_3 20 a_6)) <|
  let M_7 := cpI p_3 20 a_5 a_6 (xi 0) (xi 0) (xi 20)
  gd (xbool 1) <|
  let M_8 := sI M_7 2 s 1 1
  let M_9 := sI M_8 2 s 2 0
  (gR M_9 2 s 0).bind fun a_10 =>
  (F_X0_greatestSeq fu a_10 M_9).bind fun p_11 =>
  let M_12 := sI p_11.2 2 s 10 p_11.1
  (gR M_12 2 s 0).bind fun a_13 =>
  (F_X0_begunBlock fu a_13 M_12).bind fun p_14 =>
  (gR M_12 2 s 0).bind fun a_15 =>
  let M_16 := sI p_14.2 0 a_15 4 p_14.1
  (F_X2_survey fu s M_16).bind fun p_17 =>
  (some (gI p_17 2 s 15, p_17))
set_option maxRecDepth 100000 in
theorem q_X2_mountAgain (fu : Nat) (s : Nat) (M : xM) :
    xrun pX2_mountAgain flX2 koX2 nwX2 [(65, 1, 0, 0, w_X2_forgetFiles fu), (75, 5, 0, 0, w_arraycopy), (106, 2, 0, 0, w_X4_find fu), (174, 1, 0, 0, w_X2_survey fu), (258, 1, 0, 0, w_X0_greatestSeq fu), (261, 1, 0, 0, w_X0_begunBlock fu)] [] xrtI 40 (xat 0 pX2_mountAgain) 0 0 [(0, .inr (.inr (2, some s)))] [] M = F_X2_mountAgain fu s M := rfl
def w_X2_mountAgain (fu : Nat) {ρ : Type} (as : List xV) (M : xM) (k : Option xV → xM → Option ρ) : Option ρ := pR 2 as fun o as => o.bind fun s => xe as ((F_X2_mountAgain fu s M).bind fun p => k (some (.inl p.1)) p.2)
def pX11_mount : List xE := [(0, 0, 1, 0, 0, [], .aload_n 0),
  (0, 1, 3, 0, 0, [], .getfield 48),
  (0, 4, 3, 0, 0, [], .invokevirtual 204),
  (0, 7, 1, 0, 0, [], .ireturn)]
def F_X11_mount (fu : Nat) (s : Nat) (M : xM) : Option (Int32 × xM) :=
  (gR M 11 s 6).bind fun a_1 =>
  (F_X2_mountAgain fu a_1 M).bind fun p_2 =>
  (some (p_2.1, p_2.2))
set_option maxRecDepth 100000 in
theorem q_X11_mount (fu : Nat) (s : Nat) (M : xM) :
    xrun pX11_mount flX11 koX11 nwX11 [(204, 1, 0, 0, w_X2_mountAgain fu)] [] xrtI 6 (xat 0 pX11_mount) 0 0 [(0, .inr (.inr (11, some s)))] [] M = F_X11_mount fu s M := rfl
def w_X11_mount (fu : Nat) {ρ : Type} (as : List xV) (M : xM) (k : Option xV → xM → Option ρ) : Option ρ := pR 11 as fun o as => o.bind fun s => xe as ((F_X11_mount fu s M).bind fun p => k (some (.inl p.1)) p.2)
def pX11_oldest : List xE := [(0, 0, 1, 0, 0, [], .aload_n 0),
  (0, 1, 3, 0, 0, [], .getfield 48),
  (0, 4, 1, 0, 0, [], .iconst 0),
  (0, 5, 3, 0, 0, [], .invokevirtual 269),
  (0, 8, 1, 0, 0, [], .istore_n 1),
  (0, 9, 1, 0, 0, [], .aload_n 0),
  (0, 10, 3, 0, 0, [], .getfield 48),
  (0, 13, 3, 0, 0, [], .getfield 123),
  (0, 16, 1, 0, 0, [], .iload_n 1),
  (0, 17, 3, 0, 0, [], .invokevirtual 127),
  (0, 20, 3, 38, 0, [], .ifCond .eq 18),
  (0, 23, 1, 0, 0, [], .aload_n 0),
  (0, 24, 3, 0, 0, [], .getfield 48),
  (0, 27, 3, 0, 0, [], .getfield 123),
  (0, 30, 3, 0, 0, [], .getfield 272),
  (0, 33, 1, 0, 0, [], .iload_n 1),
  (0, 34, 1, 0, 0, [], .iaload),
  (0, 35, 3, 39, 0, [], .goto 4),
  (0, 38, 1, 0, (-1), [], .iconst (-1)),
  (0, 39, 1, 0, 0, [], .ireturn)]
def F_X11_oldest (fu : Nat) (s : Nat) (M : xM) : Option (Int32 × xM) :=
  (gR M 11 s 6).bind fun a_1 =>
  (F_X2_slotOfLive fu a_1 0 M).bind fun p_2 =>
  (gR p_2.2 11 s 6).bind fun a_3 =>
  (gR p_2.2 2 a_3 0).bind fun a_4 =>
  (F_X0_isSlot fu a_4 p_2.1 p_2.2).bind fun p_5 =>
  if p_5.1 = 0 then
    (some ((-1), p_5.2))
  else
    (gR p_5.2 11 s 6).bind fun a_6 =>
    (gR p_5.2 2 a_6 0).bind fun a_7 =>
    (gR p_5.2 0 a_7 10).bind fun a_8 =>
    gd (xin p_2.1 (gN p_5.2 20 a_8)) <|
    (some (gI p_5.2 20 a_8 (xi p_2.1), p_5.2))
set_option maxRecDepth 100000 in
theorem q_X11_oldest (fu : Nat) (s : Nat) (M : xM) :
    xrun pX11_oldest flX11 koX11 nwX11 [(127, 2, 0, 0, w_X0_isSlot fu), (269, 2, 0, 0, w_X2_slotOfLive fu)] [] xrtI 22 (xat 0 pX11_oldest) 0 0 [(0, .inr (.inr (11, some s)))] [] M = F_X11_oldest fu s M := rfl
def w_X11_oldest (fu : Nat) {ρ : Type} (as : List xV) (M : xM) (k : Option xV → xM → Option ρ) : Option ρ := pR 11 as fun o as => o.bind fun s => xe as ((F_X11_oldest fu s M).bind fun p => k (some (.inl p.1)) p.2)
def pX11_open : List xE := [(0, 0, 1, 0, 0, [], .aload_n 0),
  (0, 1, 3, 0, 0, [], .getfield 48),
  (0, 4, 1, 0, 0, [], .iload_n 1),
  (0, 5, 3, 0, 0, [], .invokevirtual 188),
  (0, 8, 1, 0, 0, [], .ireturn)]
def F_X11_open (fu : Nat) (s : Nat) (x1 : Int32) (M : xM) : Option (Int32 × xM) :=
  (gR M 11 s 6).bind fun a_1 =>
  (F_X2_openFile fu a_1 x1 M).bind fun p_2 =>
  gd (xbool p_2.1) (some (p_2.1, p_2.2))
set_option maxRecDepth 100000 in
theorem q_X11_open (fu : Nat) (s : Nat) (x1 : Int32) (M : xM) :
    xrun pX11_open flX11 koX11 nwX11 [(188, 2, 0, 0, w_X2_openFile fu)] [] xrtZ 7 (xat 0 pX11_open) 0 0 [(0, .inr (.inr (11, some s))), (1, .inl x1)] [] M = F_X11_open fu s x1 M := rfl
def w_X11_open (fu : Nat) {ρ : Type} (as : List xV) (M : xM) (k : Option xV → xM → Option ρ) : Option ρ := pR 11 as fun o as => o.bind fun s => pI as fun x1 as => xe as ((F_X11_open fu s x1 M).bind fun p => k (some (.inl p.1)) p.2)
def pX11_pick : List xE := [(0, 0, 1, 0, 0, [], .aload_n 0),
  (0, 1, 3, 0, 0, [], .getfield 48),
  (0, 4, 3, 0, 0, [], .invokevirtual 240),
  (0, 7, 1, 0, 0, [], .ireturn)]
def F_X11_pick (fu : Nat) (s : Nat) (M : xM) : Option (Int32 × xM) :=
  (gR M 11 s 6).bind fun a_1 =>
  (F_X2_picked fu a_1 M).bind fun p_2 =>
  (some (p_2.1, p_2.2))
set_option maxRecDepth 100000 in
theorem q_X11_pick (fu : Nat) (s : Nat) (M : xM) :
    xrun pX11_pick flX11 koX11 nwX11 [(240, 1, 0, 0, w_X2_picked fu)] [] xrtI 6 (xat 0 pX11_pick) 0 0 [(0, .inr (.inr (11, some s)))] [] M = F_X11_pick fu s M := rfl
def w_X11_pick (fu : Nat) {ρ : Type} (as : List xV) (M : xM) (k : Option xV → xM → Option ρ) : Option ρ := pR 11 as fun o as => o.bind fun s => xe as ((F_X11_pick fu s M).bind fun p => k (some (.inl p.1)) p.2)
def pX11_remove : List xE := [(0, 0, 1, 0, 0, [], .aload_n 0),
  (0, 1, 3, 0, 0, [], .getfield 48),
  (0, 4, 1, 0, 0, [], .iload_n 1),
  (0, 5, 3, 0, 0, [], .invokevirtual 185),
  (0, 8, 1, 0, 0, [], .ireturn)]
def F_X11_remove (fu : Nat) (s : Nat) (x1 : Int32) (M : xM) : Option (Int32 × xM) :=
  (gR M 11 s 6).bind fun a_1 =>
  (F_X2_removeFile fu a_1 x1 M).bind fun p_2 =>
  (some (p_2.1, p_2.2))
set_option maxRecDepth 100000 in
theorem q_X11_remove (fu : Nat) (s : Nat) (x1 : Int32) (M : xM) :
    xrun pX11_remove flX11 koX11 nwX11 [(185, 2, 0, 0, w_X2_removeFile fu)] [] xrtI 7 (xat 0 pX11_remove) 0 0 [(0, .inr (.inr (11, some s))), (1, .inl x1)] [] M = F_X11_remove fu s x1 M := rfl
def w_X11_remove (fu : Nat) {ρ : Type} (as : List xV) (M : xM) (k : Option xV → xM → Option ρ) : Option ρ := pR 11 as fun o as => o.bind fun s => pI as fun x1 as => xe as ((F_X11_remove fu s x1 M).bind fun p => k (some (.inl p.1)) p.2)
def pX11_rounds : List xE := [(0, 0, 1, 0, 0, [], .iload_n 1),
  (0, 1, 3, 10, 0, [], .ifCond .lt 9),
  (0, 4, 1, 0, 0, [], .iload_n 1),
  (0, 5, 2, 0, 36, [], .bipush 36),
  (0, 7, 3, 12, 0, [], .if_icmp .le 5),
  (0, 10, 1, 0, (-1), [], .iconst (-1)),
  (0, 11, 1, 0, 0, [], .ireturn),
  (0, 12, 1, 0, 0, [], .aload_n 0),
  (0, 13, 3, 0, 0, [], .invokevirtual 246),
  (0, 16, 1, 0, 0, [], .iconst 0),
  (0, 17, 1, 0, 0, [], .istore_n 2),
  (1, 18, 1, 0, 0, [], .iload_n 2),
  (0, 19, 2, 0, 36, [], .bipush 36),
  (0, 21, 3, 58, 0, [], .if_icmp .gt 37),
  (0, 24, 1, 0, 0, [], .aload_n 0),
  (0, 25, 3, 0, 0, [], .getfield 52),
  (0, 28, 3, 0, 0, [], .getfield 123),
  (0, 31, 3, 0, 0, [], .getfield 226),
  (0, 34, 1, 0, 0, [], .iload_n 1),
  (0, 35, 3, 40, 0, [], .if_icmp .lt 5),
  (0, 38, 1, 0, 0, [], .iload_n 2),
  (0, 39, 1, 0, 0, [], .ireturn),
  (0, 40, 1, 0, 0, [], .aload_n 0),
  (0, 41, 3, 0, 0, [], .getfield 52),
  (0, 44, 3, 0, 0, [], .invokevirtual 198),
  (0, 47, 3, 52, 0, [], .ifCond .ge 5),
  (0, 50, 1, 0, (-1), [], .iconst (-1)),
  (0, 51, 1, 0, 0, [], .ireturn),
  (0, 52, 3, 0, 1, [], .iinc 2 1),
  (0, 55, 3, 18, 0, [], .goto (-37)),
  (0, 58, 1, 0, (-1), [], .iconst (-1)),
  (0, 59, 1, 0, 0, [], .ireturn)]
def L_X11_rounds_18 (fu : Nat) : Nat → Nat → Int32 → Int32 → xM → Option (Int32 × xM)
  | 0, _, _, _, _ => none
  | n + 1, s, x1, x2, M =>
    if 36 < x2 then
      (some ((-1), M))
    else
      (gR M 11 s 7).bind fun a_1 =>
      (gR M 2 a_1 0).bind fun a_2 =>
      if (gI M 0 a_2 3) < x1 then
        (gR M 11 s 7).bind fun a_3 =>
        (F_X2_collectBlock fu a_3 M).bind fun p_4 =>
        if 0 ≤ p_4.1 then
          L_X11_rounds_18 fu n s x1 (x2 + 1) p_4.2
        else
          (some ((-1), p_4.2))
      else
        (some (x2, M))
set_option maxRecDepth 100000 in
theorem q_X11_rounds_18 (fu : Nat) (n : Nat) (s : Nat) (x1 : Int32) (x2 : Int32) (M : xM) :
    xrun pX11_rounds flX11 koX11 nwX11 [(198, 1, 0, 0, w_X2_collectBlock fu)] [(18, fun bc bs ls st M => xz bc bs (lR ls 0 11 fun o => o.bind fun s => lI ls 1 fun x1 => lI ls 2 fun x2 => xe st (L_X11_rounds_18 fu n s x1 x2 M)))] xrtI 34 (xat 18 pX11_rounds) 0 0 [(0, .inr (.inr (11, some s))), (1, .inl x1), (2, .inl x2)] [] M = L_X11_rounds_18 fu (n + 1) s x1 x2 M := rfl
def F_X11_rounds (fu : Nat) (s : Nat) (x1 : Int32) (M : xM) : Option (Int32 × xM) :=
  if x1 < 0 then
    (some ((-1), M))
  else
    if x1 ≤ 36 then
      (F_X11_tryFromNow fu s M).bind fun p_1 =>
      L_X11_rounds_18 fu fu s x1 0 p_1
    else
      (some ((-1), M))
set_option maxRecDepth 100000 in
theorem q_X11_rounds (fu : Nat) (s : Nat) (x1 : Int32) (M : xM) :
    xrun pX11_rounds flX11 koX11 nwX11 [(246, 1, 0, 0, w_X11_tryFromNow fu)] [(18, fun bc bs ls st M => xz bc bs (lR ls 0 11 fun o => o.bind fun s => lI ls 1 fun x1 => lI ls 2 fun x2 => xe st (L_X11_rounds_18 fu fu s x1 x2 M)))] xrtI 34 (xat 0 pX11_rounds) 0 0 [(0, .inr (.inr (11, some s))), (1, .inl x1)] [] M = F_X11_rounds fu s x1 M := rfl
def w_X11_rounds (fu : Nat) {ρ : Type} (as : List xV) (M : xM) (k : Option xV → xM → Option ρ) : Option ρ := pR 11 as fun o as => o.bind fun s => pI as fun x1 as => xe as ((F_X11_rounds fu s x1 M).bind fun p => k (some (.inl p.1)) p.2)
def pX2_valueOf : List xE := [(0, 0, 1, 0, 0, [], .aload_n 0),
  (0, 1, 3, 0, 0, [], .getfield 18),
  (0, 4, 1, 0, 0, [], .iload_n 1),
  (0, 5, 1, 0, 0, [], .iaload),
  (0, 6, 3, 11, 0, [], .ifCond .ne 5),
  (0, 9, 1, 0, (-1), [], .iconst (-1)),
  (0, 10, 1, 0, 0, [], .ireturn),
  (0, 11, 1, 0, 0, [], .iconst 0),
  (0, 12, 1, 0, 0, [], .istore_n 2),
  (1, 13, 1, 0, 0, [], .iload_n 2),
  (0, 14, 1, 0, 0, [], .aload_n 0),
  (0, 15, 3, 0, 0, [], .getfield 12),
  (0, 18, 3, 0, 0, [], .getfield 177),
  (0, 21, 3, 71, 0, [], .if_icmp .ge 50),
  (0, 24, 1, 0, 0, [], .aload_n 0),
  (0, 25, 3, 0, 0, [], .getfield 12),
  (0, 28, 3, 0, 0, [], .getfield 270),
  (0, 31, 1, 0, 0, [], .iload_n 2),
  (0, 32, 1, 0, 0, [], .iaload),
  (0, 33, 1, 0, 1, [], .iconst 1),
  (0, 34, 3, 65, 0, [], .if_icmp .ne 31),
  (0, 37, 1, 0, 0, [], .aload_n 0),
  (0, 38, 3, 0, 0, [], .getfield 12),
  (0, 41, 3, 0, 0, [], .getfield 285),
  (0, 44, 1, 0, 0, [], .iload_n 2),
  (0, 45, 1, 0, 0, [], .iaload),
  (0, 46, 1, 0, 0, [], .aload_n 0),
  (0, 47, 3, 0, 0, [], .getfield 18),
  (0, 50, 1, 0, 0, [], .iload_n 1),
  (0, 51, 1, 0, 0, [], .iaload),
  (0, 52, 3, 65, 0, [], .if_icmp .ne 13),
  (0, 55, 1, 0, 0, [], .aload_n 0),
  (0, 56, 3, 0, 0, [], .getfield 12),
  (0, 59, 3, 0, 0, [], .getfield 297),
  (0, 62, 1, 0, 0, [], .iload_n 2),
  (0, 63, 1, 0, 0, [], .iaload),
  (0, 64, 1, 0, 0, [], .ireturn),
  (0, 65, 3, 0, 1, [], .iinc 2 1),
  (0, 68, 3, 13, 0, [], .goto (-55)),
  (0, 71, 1, 0, (-1), [], .iconst (-1)),
  (0, 72, 1, 0, 0, [], .ireturn)]
def L_X2_valueOf_13 (fu : Nat) : Nat → Nat → Int32 → Int32 → xM → Option (Int32 × xM)
  | 0, _, _, _, _ => none
  | n + 1, s, x1, x2, M =>
    (gR M 2 s 0).bind fun a_1 =>
    if (gI M 0 a_1 2) ≤ x2 then
      (some ((-1), M))
    else
      (gR M 2 s 0).bind fun a_2 =>
      (gR M 0 a_2 9).bind fun a_3 =>
      gd (xin x2 (gN M 20 a_3)) <|
      if ¬ (gI M 20 a_3 (xi x2)) = 1 then
        L_X2_valueOf_13 fu n s x1 (x2 + 1) M
      else
        (gR M 2 s 0).bind fun a_4 =>
        (gR M 0 a_4 10).bind fun a_5 =>
        gd (xin x2 (gN M 20 a_5)) <|
        (gR M 2 s 7).bind fun a_6 =>
        gd (xin x1 (gN M 20 a_6)) <|
        if ¬ (gI M 20 a_5 (xi x2)) = (gI M 20 a_6 (xi x1)) then
          L_X2_valueOf_13 fu n s x1 (x2 + 1) M
        else
          (gR M 2 s 0).bind fun a_7 =>
          (gR M 0 a_7 13).bind fun a_8 =>
          gd (xin x2 (gN M 20 a_8)) <|
          (some (gI M 20 a_8 (xi x2), M))
set_option maxRecDepth 100000 in
theorem q_X2_valueOf_13 (fu : Nat) (n : Nat) (s : Nat) (x1 : Int32) (x2 : Int32) (M : xM) :
    xrun pX2_valueOf flX2 koX2 nwX2 [] [(13, fun bc bs ls st M => xz bc bs (lR ls 0 2 fun o => o.bind fun s => lI ls 1 fun x1 => lI ls 2 fun x2 => xe st (L_X2_valueOf_13 fu n s x1 x2 M)))] xrtI 43 (xat 13 pX2_valueOf) 0 0 [(0, .inr (.inr (2, some s))), (1, .inl x1), (2, .inl x2)] [] M = L_X2_valueOf_13 fu (n + 1) s x1 x2 M := rfl
def F_X2_valueOf (fu : Nat) (s : Nat) (x1 : Int32) (M : xM) : Option (Int32 × xM) :=
  (gR M 2 s 7).bind fun a_1 =>
  gd (xin x1 (gN M 20 a_1)) <|
  if ¬ (gI M 20 a_1 (xi x1)) = 0 then
    L_X2_valueOf_13 fu fu s x1 0 M
  else
    (some ((-1), M))
set_option maxRecDepth 100000 in
theorem q_X2_valueOf (fu : Nat) (s : Nat) (x1 : Int32) (M : xM) :
    xrun pX2_valueOf flX2 koX2 nwX2 [] [(13, fun bc bs ls st M => xz bc bs (lR ls 0 2 fun o => o.bind fun s => lI ls 1 fun x1 => lI ls 2 fun x2 => xe st (L_X2_valueOf_13 fu fu s x1 x2 M)))] xrtI 43 (xat 0 pX2_valueOf) 0 0 [(0, .inr (.inr (2, some s))), (1, .inl x1)] [] M = F_X2_valueOf fu s x1 M := rfl
def w_X2_valueOf (fu : Nat) {ρ : Type} (as : List xV) (M : xM) (k : Option xV → xM → Option ρ) : Option ρ := pR 2 as fun o as => o.bind fun s => pI as fun x1 as => xe as ((F_X2_valueOf fu s x1 M).bind fun p => k (some (.inl p.1)) p.2)
def pX11_says : List xE := [(0, 0, 1, 0, 0, [], .aload_n 0),
  (0, 1, 3, 0, 0, [], .getfield 19),
  (0, 4, 1, 0, 0, [], .iload_n 1),
  (0, 5, 1, 0, 0, [], .iload_n 2),
  (0, 6, 3, 0, 0, [], .invokevirtual 213),
  (0, 9, 3, 27, 0, [], .ifCond .eq 18),
  (0, 12, 1, 0, 0, [], .aload_n 0),
  (0, 13, 3, 0, 0, [], .getfield 48),
  (0, 16, 1, 0, 0, [], .iload_n 1),
  (0, 17, 1, 0, 4, [], .iconst 4),
  (0, 18, 1, 0, 0, [], .imul),
  (0, 19, 1, 0, 0, [], .iload_n 2),
  (0, 20, 1, 0, 0, [], .iadd),
  (0, 21, 3, 0, 0, [], .invokevirtual 217),
  (0, 24, 3, 28, 0, [], .goto 4),
  (0, 27, 1, 0, (-1), [], .iconst (-1)),
  (0, 28, 1, 0, 0, [], .ireturn)]
def F_X11_says (fu : Nat) (s : Nat) (x1 : Int32) (x2 : Int32) (M : xM) : Option (Int32 × xM) :=
  (gR M 11 s 1).bind fun a_1 =>
  (F_X7_isPage fu a_1 x1 x2 M).bind fun p_2 =>
  if p_2.1 = 0 then
    (some ((-1), p_2.2))
  else
    (gR p_2.2 11 s 6).bind fun a_3 =>
    (F_X2_valueOf fu a_3 ((x1 * 4) + x2) p_2.2).bind fun p_4 =>
    (some (p_4.1, p_4.2))
set_option maxRecDepth 100000 in
theorem q_X11_says (fu : Nat) (s : Nat) (x1 : Int32) (x2 : Int32) (M : xM) :
    xrun pX11_says flX11 koX11 nwX11 [(213, 3, 0, 0, w_X7_isPage fu), (217, 2, 0, 0, w_X2_valueOf fu)] [] xrtI 19 (xat 0 pX11_says) 0 0 [(0, .inr (.inr (11, some s))), (1, .inl x1), (2, .inl x2)] [] M = F_X11_says fu s x1 x2 M := rfl
def w_X11_says (fu : Nat) {ρ : Type} (as : List xV) (M : xM) (k : Option xV → xM → Option ρ) : Option ρ := pR 11 as fun o as => o.bind fun s => pI as fun x1 as => pI as fun x2 as => xe as ((F_X11_says fu s x1 x2 M).bind fun p => k (some (.inl p.1)) p.2)
def pX1_add : List xE := [(0, 0, 1, 0, 0, [], .aload_n 0),
  (0, 1, 3, 0, 0, [], .getfield 20),
  (0, 4, 2, 0, 8, [], .bipush 8),
  (0, 6, 3, 11, 0, [], .if_icmp .lt 5),
  (0, 9, 1, 0, 0, [], .iconst 0),
  (0, 10, 1, 0, 0, [], .ireturn),
  (0, 11, 1, 0, 0, [], .aload_n 0),
  (0, 12, 3, 0, 0, [], .getfield 9),
  (0, 15, 1, 0, 0, [], .aload_n 0),
  (0, 16, 3, 0, 0, [], .getfield 20),
  (0, 19, 1, 0, 0, [], .iload_n 1),
  (0, 20, 1, 0, 0, [], .iastore),
  (0, 21, 1, 0, 0, [], .aload_n 0),
  (0, 22, 3, 0, 0, [], .getfield 13),
  (0, 25, 1, 0, 0, [], .aload_n 0),
  (0, 26, 3, 0, 0, [], .getfield 20),
  (0, 29, 1, 0, 0, [], .iload_n 2),
  (0, 30, 1, 0, 0, [], .iastore),
  (0, 31, 1, 0, 0, [], .aload_n 0),
  (0, 32, 3, 0, 0, [], .getfield 16),
  (0, 35, 1, 0, 0, [], .aload_n 0),
  (0, 36, 3, 0, 0, [], .getfield 20),
  (0, 39, 1, 0, 0, [], .iload_n 3),
  (0, 40, 1, 0, 0, [], .bastore),
  (0, 41, 1, 0, 0, [], .aload_n 0),
  (0, 42, 1, 0, 0, [], .dup),
  (0, 43, 3, 0, 0, [], .getfield 20),
  (0, 46, 1, 0, 1, [], .iconst 1),
  (0, 47, 1, 0, 0, [], .iadd),
  (0, 48, 3, 0, 0, [], .putfield 20),
  (0, 51, 1, 0, 1, [], .iconst 1),
  (0, 52, 1, 0, 0, [], .ireturn)]
def F_X1_add (fu : Nat) (s : Nat) (x1 : Int32) (x2 : Int32) (x3 : Int32) (M : xM) : Option (Int32 × xM) :=
  if (gI M 1 s 0) < 8 then
    (gR M 1 s 1).bind fun a_1 =>
    gd (xin (gI M 1 s 0) (gN M 20 a_1)) <|
    let M_2 := sI M 20 a_1 (xi (gI M 1 s 0)) x1
    (gR M_2 1 s 2).bind fun a_3 =>
    gd (xin (gI M_2 1 s 0) (gN M_2 20 a_3)) <|
    let M_4 := sI M_2 20 a_3 (xi (gI M_2 1 s 0)) x2
    (gR M_4 1 s 3).bind fun a_5 =>
    gd (xin (gI M_4 1 s 0) (gN M_4 22 a_5)) <|
    gd (xbool x3) <|
    let M_6 := sI M_4 22 a_5 (xi (gI M_4 1 s 0)) x3
    let M_7 := sI M_6 1 s 0 ((gI M_6 1 s 0) + 1)
    gd (xbool 1) (some (1, M_7))
  else
    gd (xbool 0) (some (0, M))
set_option maxRecDepth 100000 in
theorem q_X1_add (fu : Nat) (s : Nat) (x1 : Int32) (x2 : Int32) (x3 : Int32) (M : xM) :
    xrun pX1_add flX1 koX1 nwX1 [] [] xrtZ 34 (xat 0 pX1_add) 0 0 [(0, .inr (.inr (1, some s))), (1, .inl x1), (2, .inl x2), (3, .inl x3)] [] M = F_X1_add fu s x1 x2 x3 M := rfl
def w_X1_add (fu : Nat) {ρ : Type} (as : List xV) (M : xM) (k : Option xV → xM → Option ρ) : Option ρ := pR 1 as fun o as => o.bind fun s => pI as fun x1 as => pI as fun x2 as => pI as fun x3 as => xe as ((F_X1_add fu s x1 x2 x3 M).bind fun p => k (some (.inl p.1)) p.2)
def pX11_see : List xE := [(0, 0, 1, 0, 0, [], .aload_n 0),
  (0, 1, 3, 0, 0, [], .getfield 19),
  (0, 4, 1, 0, 0, [], .iload_n 1),
  (0, 5, 1, 0, 0, [], .iload_n 2),
  (0, 6, 3, 0, 0, [], .invokevirtual 213),
  (0, 9, 3, 24, 0, [], .ifCond .eq 15),
  (0, 12, 1, 0, 0, [], .iload_n 3),
  (0, 13, 1, 0, (-1), [], .iconst (-1)),
  (0, 14, 3, 24, 0, [], .if_icmp .lt 10),
  (0, 17, 1, 0, 0, [], .iload_n 3),
  (0, 18, 3, 0, 255, [], .sipush 255),
  (0, 21, 3, 26, 0, [], .if_icmp .le 5),
  (0, 24, 1, 0, 0, [], .iconst 0),
  (0, 25, 1, 0, 0, [], .ireturn),
  (0, 26, 1, 0, 0, [], .aload_n 0),
  (0, 27, 3, 0, 0, [], .getfield 58),
  (0, 30, 1, 0, 0, [], .iload_n 1),
  (0, 31, 1, 0, 4, [], .iconst 4),
  (0, 32, 1, 0, 0, [], .imul),
  (0, 33, 1, 0, 0, [], .iload_n 2),
  (0, 34, 1, 0, 0, [], .iadd),
  (0, 35, 1, 0, 0, [], .iload_n 3),
  (0, 36, 2, 0, 0, [], .iload 4),
  (0, 38, 3, 0, 0, [], .invokevirtual 297),
  (0, 41, 1, 0, 0, [], .ireturn)]
def F_X11_see (fu : Nat) (s : Nat) (x1 : Int32) (x2 : Int32) (x3 : Int32) (x4 : Int32) (M : xM) : Option (Int32 × xM) :=
  (gR M 11 s 1).bind fun a_1 =>
  (F_X7_isPage fu a_1 x1 x2 M).bind fun p_2 =>
  if p_2.1 = 0 then
    gd (xbool 0) (some (0, p_2.2))
  else
    if x3 < ((-1)) then
      gd (xbool 0) (some (0, p_2.2))
    else
      if x3 ≤ 255 then
        (gR p_2.2 11 s 8).bind fun a_3 =>
        (F_X1_add fu a_3 ((x1 * 4) + x2) x3 x4 p_2.2).bind fun p_4 =>
        gd (xbool p_4.1) (some (p_4.1, p_4.2))
      else
        gd (xbool 0) (some (0, p_2.2))
set_option maxRecDepth 100000 in
theorem q_X11_see (fu : Nat) (s : Nat) (x1 : Int32) (x2 : Int32) (x3 : Int32) (x4 : Int32) (M : xM) :
    xrun pX11_see flX11 koX11 nwX11 [(213, 3, 0, 0, w_X7_isPage fu), (297, 4, 0, 0, w_X1_add fu)] [] xrtZ 27 (xat 0 pX11_see) 0 0 [(0, .inr (.inr (11, some s))), (1, .inl x1), (2, .inl x2), (3, .inl x3), (4, .inl x4)] [] M = F_X11_see fu s x1 x2 x3 x4 M := rfl
def w_X11_see (fu : Nat) {ρ : Type} (as : List xV) (M : xM) (k : Option xV → xM → Option ρ) : Option ρ := pR 11 as fun o as => o.bind fun s => pI as fun x1 as => pI as fun x2 as => pI as fun x3 as => pI as fun x4 as => xe as ((F_X11_see fu s x1 x2 x3 x4 M).bind fun p => k (some (.inl p.1)) p.2)
def pX2_isLive : List xE := [(0, 0, 1, 0, 0, [], .aload_n 0),
  (0, 1, 3, 0, 0, [], .invokevirtual 174),
  (0, 4, 1, 0, 0, [], .aload_n 0),
  (0, 5, 3, 0, 0, [], .getfield 29),
  (0, 8, 1, 0, 0, [], .iload_n 1),
  (0, 9, 1, 0, 0, [], .baload),
  (0, 10, 1, 0, 0, [], .ireturn)]
def F_X2_isLive (fu : Nat) (s : Nat) (x1 : Int32) (M : xM) : Option (Int32 × xM) :=
  (F_X2_survey fu s M).bind fun p_1 =>
  (gR p_1 2 s 12).bind fun a_2 =>
  gd (xin x1 (gN p_1 22 a_2)) <|
  gd (xbool (gI p_1 22 a_2 (xi x1))) (some (gI p_1 22 a_2 (xi x1), p_1))
set_option maxRecDepth 100000 in
theorem q_X2_isLive (fu : Nat) (s : Nat) (x1 : Int32) (M : xM) :
    xrun pX2_isLive flX2 koX2 nwX2 [(174, 1, 0, 0, w_X2_survey fu)] [] xrtZ 9 (xat 0 pX2_isLive) 0 0 [(0, .inr (.inr (2, some s))), (1, .inl x1)] [] M = F_X2_isLive fu s x1 M := rfl
def w_X2_isLive (fu : Nat) {ρ : Type} (as : List xV) (M : xM) (k : Option xV → xM → Option ρ) : Option ρ := pR 2 as fun o as => o.bind fun s => pI as fun x1 as => xe as ((F_X2_isLive fu s x1 M).bind fun p => k (some (.inl p.1)) p.2)
def pX11_slot : List xE := [(0, 0, 1, 0, 0, [], .aload_n 0),
  (0, 1, 3, 0, 0, [], .getfield 48),
  (0, 4, 3, 0, 0, [], .getfield 123),
  (0, 7, 1, 0, 0, [], .iload_n 1),
  (0, 8, 3, 0, 0, [], .invokevirtual 127),
  (0, 11, 3, 23, 0, [], .ifCond .eq 12),
  (0, 14, 1, 0, 0, [], .iload_n 2),
  (0, 15, 3, 23, 0, [], .ifCond .lt 8),
  (0, 18, 1, 0, 0, [], .iload_n 2),
  (0, 19, 1, 0, 5, [], .iconst 5),
  (0, 20, 3, 26, 0, [], .if_icmp .le 6),
  (0, 23, 2, 0, (-2), [], .bipush (-2)),
  (0, 25, 1, 0, 0, [], .ireturn),
  (0, 26, 1, 0, 0, [], .iload_n 2),
  (0, 27, 1, 0, 5, [], .iconst 5),
  (0, 28, 3, 48, 0, [], .if_icmp .ne 20),
  (0, 31, 1, 0, 0, [], .aload_n 0),
  (0, 32, 3, 0, 0, [], .getfield 48),
  (0, 35, 1, 0, 0, [], .iload_n 1),
  (0, 36, 3, 0, 0, [], .invokevirtual 133),
  (0, 39, 3, 46, 0, [], .ifCond .eq 7),
  (0, 42, 1, 0, 1, [], .iconst 1),
  (0, 43, 3, 47, 0, [], .goto 4),
  (0, 46, 1, 0, 0, [], .iconst 0),
  (0, 47, 1, 0, 0, [], .ireturn),
  (0, 48, 1, 0, 0, [], .aload_n 0),
  (0, 49, 3, 0, 0, [], .getfield 48),
  (0, 52, 3, 0, 0, [], .getfield 123),
  (0, 55, 1, 0, 0, [], .iload_n 1),
  (0, 56, 1, 0, 0, [], .iload_n 2),
  (0, 57, 3, 0, 0, [], .invokevirtual 136),
  (0, 60, 1, 0, 0, [], .ireturn)]
def F_X11_slot (fu : Nat) (s : Nat) (x1 : Int32) (x2 : Int32) (M : xM) : Option (Int32 × xM) :=
  (gR M 11 s 6).bind fun a_1 =>
  (gR M 2 a_1 0).bind fun a_2 =>
  (F_X0_isSlot fu a_2 x1 M).bind fun p_3 =>
  if p_3.1 = 0 then
    (some ((-2), p_3.2))
  else
    if x2 < 0 then
      (some ((-2), p_3.2))
    else
      if x2 ≤ 5 then
        if ¬ x2 = 5 then
          (gR p_3.2 11 s 6).bind fun a_4 =>
          (gR p_3.2 2 a_4 0).bind fun a_5 =>
          (F_X0_tell fu a_5 x1 x2 p_3.2).bind fun p_6 =>
          (some (p_6.1, p_6.2))
        else
          (gR p_3.2 11 s 6).bind fun a_7 =>
          (F_X2_isLive fu a_7 x1 p_3.2).bind fun p_8 =>
          if p_8.1 = 0 then
            (some (0, p_8.2))
          else
            (some (1, p_8.2))
      else
        (some ((-2), p_3.2))
set_option maxRecDepth 100000 in
theorem q_X11_slot (fu : Nat) (s : Nat) (x1 : Int32) (x2 : Int32) (M : xM) :
    xrun pX11_slot flX11 koX11 nwX11 [(127, 2, 0, 0, w_X0_isSlot fu), (133, 2, 0, 0, w_X2_isLive fu), (136, 3, 0, 0, w_X0_tell fu)] [] xrtI 34 (xat 0 pX11_slot) 0 0 [(0, .inr (.inr (11, some s))), (1, .inl x1), (2, .inl x2)] [] M = F_X11_slot fu s x1 x2 M := rfl
def w_X11_slot (fu : Nat) {ρ : Type} (as : List xV) (M : xM) (k : Option xV → xM → Option ρ) : Option ρ := pR 11 as fun o as => o.bind fun s => pI as fun x1 as => pI as fun x2 as => xe as ((F_X11_slot fu s x1 x2 M).bind fun p => k (some (.inl p.1)) p.2)
def pX11_spare : List xE := [(0, 0, 1, 0, 0, [], .iconst 0),
  (0, 1, 1, 0, 0, [], .aload_n 0),
  (0, 2, 3, 0, 0, [], .getfield 48),
  (0, 5, 3, 0, 0, [], .getfield 123),
  (0, 8, 3, 0, 0, [], .getfield 226),
  (0, 11, 1, 0, 0, [], .aload_n 0),
  (0, 12, 3, 0, 0, [], .getfield 48),
  (0, 15, 3, 0, 0, [], .invokevirtual 229),
  (0, 18, 1, 0, 0, [], .isub),
  (0, 19, 1, 0, 0, [], .aload_n 0),
  (0, 20, 3, 0, 0, [], .getfield 19),
  (0, 23, 3, 0, 0, [], .getfield 232),
  (0, 26, 1, 0, 0, [], .isub),
  (0, 27, 3, 0, 0, [], .invokestatic 235),
  (0, 30, 1, 0, 0, [], .ireturn)]
def F_X11_spare (fu : Nat) (s : Nat) (M : xM) : Option (Int32 × xM) :=
  (gR M 11 s 6).bind fun a_1 =>
  (gR M 2 a_1 0).bind fun a_2 =>
  (gR M 11 s 6).bind fun a_3 =>
  (F_X2_parts fu a_3 M).bind fun p_4 =>
  (gR p_4.2 11 s 1).bind fun a_5 =>
  (some (xmaxI 0 (((gI M 0 a_2 3) - p_4.1) - (gI p_4.2 7 a_5 2)), p_4.2))
set_option maxRecDepth 100000 in
theorem q_X11_spare (fu : Nat) (s : Nat) (M : xM) :
    xrun pX11_spare flX11 koX11 nwX11 [(229, 1, 0, 0, w_X2_parts fu), (235, 2, 0, 0, w_max)] [] xrtI 17 (xat 0 pX11_spare) 0 0 [(0, .inr (.inr (11, some s)))] [] M = F_X11_spare fu s M := rfl
def w_X11_spare (fu : Nat) {ρ : Type} (as : List xV) (M : xM) (k : Option xV → xM → Option ρ) : Option ρ := pR 11 as fun o as => o.bind fun s => xe as ((F_X11_spare fu s M).bind fun p => k (some (.inl p.1)) p.2)
def pX9_clear : List xE := [(0, 0, 1, 0, 0, [], .aload_n 0),
  (0, 1, 1, 0, 0, [], .iconst 0),
  (0, 2, 3, 0, 0, [], .putfield 24),
  (0, 5, 1, 0, 0, [], .return_)]
def F_X9_clear (fu : Nat) (s : Nat) (M : xM) : Option xM :=
  let M_1 := sI M 9 s 0 0
  some M_1
set_option maxRecDepth 100000 in
theorem q_X9_clear (fu : Nat) (s : Nat) (M : xM) :
    xrun pX9_clear flX9 koX9 nwX9 [] [] xrtV 6 (xat 0 pX9_clear) 0 0 [(0, .inr (.inr (9, some s)))] [] M = F_X9_clear fu s M := rfl
def w_X9_clear (fu : Nat) {ρ : Type} (as : List xV) (M : xM) (k : Option xV → xM → Option ρ) : Option ρ := pR 9 as fun o as => o.bind fun s => xe as ((F_X9_clear fu s M).bind fun p => k none p)
def pX1_clear : List xE := [(0, 0, 1, 0, 0, [], .aload_n 0),
  (0, 1, 1, 0, 0, [], .iconst 0),
  (0, 2, 3, 0, 0, [], .putfield 20),
  (0, 5, 1, 0, 0, [], .return_)]
def F_X1_clear (fu : Nat) (s : Nat) (M : xM) : Option xM :=
  let M_1 := sI M 1 s 0 0
  some M_1
set_option maxRecDepth 100000 in
theorem q_X1_clear (fu : Nat) (s : Nat) (M : xM) :
    xrun pX1_clear flX1 koX1 nwX1 [] [] xrtV 6 (xat 0 pX1_clear) 0 0 [(0, .inr (.inr (1, some s)))] [] M = F_X1_clear fu s M := rfl
def w_X1_clear (fu : Nat) {ρ : Type} (as : List xV) (M : xM) (k : Option xV → xM → Option ρ) : Option ρ := pR 1 as fun o as => o.bind fun s => xe as ((F_X1_clear fu s M).bind fun p => k none p)
def pX5_forget : List xE := [(0, 0, 1, 0, 0, [], .aload_n 0),
  (0, 1, 1, 0, 0, [], .iconst 0),
  (0, 2, 3, 0, 0, [], .putfield 35),
  (0, 5, 1, 0, 0, [], .return_)]
def F_X5_forget (fu : Nat) (s : Nat) (M : xM) : Option xM :=
  gd (xbool 0) <|
  let M_1 := sI M 5 s 5 0
  some M_1
set_option maxRecDepth 100000 in
theorem q_X5_forget (fu : Nat) (s : Nat) (M : xM) :
    xrun pX5_forget flX5 koX5 nwX5 [] [] xrtV 6 (xat 0 pX5_forget) 0 0 [(0, .inr (.inr (5, some s)))] [] M = F_X5_forget fu s M := rfl
def w_X5_forget (fu : Nat) {ρ : Type} (as : List xV) (M : xM) (k : Option xV → xM → Option ρ) : Option ρ := pR 5 as fun o as => o.bind fun s => xe as ((F_X5_forget fu s M).bind fun p => k none p)
def pX11_startAnew : List xE := [(0, 0, 1, 0, 0, [], .aload_n 0),
  (0, 1, 3, 0, 0, [], .getfield 48),
  (0, 4, 1, 0, 0, [], .aload_n 0),
  (0, 5, 3, 0, 0, [], .getfield 19),
  (0, 8, 3, 0, 0, [], .invokevirtual 109),
  (0, 11, 1, 0, 0, [], .aload_n 0),
  (0, 12, 3, 0, 0, [], .getfield 29),
  (0, 15, 3, 0, 0, [], .invokevirtual 113),
  (0, 18, 1, 0, 0, [], .aload_n 0),
  (0, 19, 3, 0, 0, [], .getfield 58),
  (0, 22, 3, 0, 0, [], .invokevirtual 116),
  (0, 25, 1, 0, 0, [], .aload_n 0),
  (0, 26, 3, 0, 0, [], .getfield 86),
  (0, 29, 1, 0, 0, [], .iconst 0),
  (0, 30, 1, 0, 0, [], .iconst 0),
  (0, 31, 1, 0, 0, [], .bastore),
  (0, 32, 1, 0, 0, [], .aload_n 0),
  (0, 33, 3, 0, 0, [], .getfield 86),
  (0, 36, 1, 0, 1, [], .iconst 1),
  (0, 37, 1, 0, 0, [], .iconst 0),
  (0, 38, 1, 0, 0, [], .bastore),
  (0, 39, 1, 0, 0, [], .aload_n 0),
  (0, 40, 3, 0, 0, [], .getfield 67),
  (0, 43, 3, 0, 0, [], .invokevirtual 117),
  (0, 46, 1, 0, 0, [], .return_)]
def F_X11_startAnew (fu : Nat) (s : Nat) (M : xM) : Option xM :=
  (gR M 11 s 6).bind fun a_1 =>
  (F_X2_start fu a_1 (gR M 11 s 1) M).bind fun p_2 =>
  (gR p_2 11 s 3).bind fun a_3 =>
  (F_X9_clear fu a_3 p_2).bind fun p_4 =>
  (gR p_4 11 s 8).bind fun a_5 =>
  (F_X1_clear fu a_5 p_4).bind fun p_6 =>
  (gR p_6 11 s 13).bind fun a_7 =>
  gd (xin 0 (gN p_6 22 a_7)) <|
  gd (xbool 0) <|
  let M_8 := sI p_6 22 a_7 (xi 0) 0
  (gR M_8 11 s 13).bind fun a_9 =>
  gd (xin 1 (gN M_8 22 a_9)) <|
  gd (xbool 0) <|
  let M_10 := sI M_8 22 a_9 (xi 1) 0
  (gR M_10 11 s 9).bind fun a_11 =>
  (F_X5_forget fu a_11 M_10).bind fun p_12 =>
  some p_12
set_option maxRecDepth 100000 in
theorem q_X11_startAnew (fu : Nat) (s : Nat) (M : xM) :
    xrun pX11_startAnew flX11 koX11 nwX11 [(109, 2, 0, 0, w_X2_start fu), (113, 1, 0, 0, w_X9_clear fu), (116, 1, 0, 0, w_X1_clear fu), (117, 1, 0, 0, w_X5_forget fu)] [] xrtV 27 (xat 0 pX11_startAnew) 0 0 [(0, .inr (.inr (11, some s)))] [] M = F_X11_startAnew fu s M := rfl
def w_X11_startAnew (fu : Nat) {ρ : Type} (as : List xV) (M : xM) (k : Option xV → xM → Option ρ) : Option ρ := pR 11 as fun o as => o.bind fun s => xe as ((F_X11_startAnew fu s M).bind fun p => k none p)
def pX7_clear : List xE := [(0, 0, 1, 0, 0, [], .aload_n 0),
  (0, 1, 1, 0, 0, [], .iconst 0),
  (0, 2, 3, 0, 0, [], .putfield 37),
  (0, 5, 1, 0, 0, [], .aload_n 0),
  (0, 6, 1, 0, 0, [], .iconst 0),
  (0, 7, 3, 0, 0, [], .putfield 40),
  (0, 10, 1, 0, 0, [], .aload_n 0),
  (0, 11, 1, 0, 0, [], .iconst 0),
  (0, 12, 3, 0, 0, [], .putfield 43),
  (0, 15, 1, 0, 0, [], .aload_n 0),
  (0, 16, 1, 0, 0, [], .iconst 0),
  (0, 17, 3, 0, 0, [], .putfield 29),
  (0, 20, 1, 0, 0, [], .aload_n 0),
  (0, 21, 1, 0, 0, [], .iconst 0),
  (0, 22, 3, 0, 0, [], .putfield 46),
  (0, 25, 1, 0, 0, [], .aload_n 0),
  (0, 26, 3, 0, 0, [], .getfield 21),
  (0, 29, 1, 0, 0, [], .iconst 0),
  (0, 30, 3, 0, 0, [], .putfield 49),
  (0, 33, 1, 0, 0, [], .return_)]
def F_X7_clear (fu : Nat) (s : Nat) (M : xM) : Option xM :=
  let M_1 := sI M 7 s 0 0
  let M_2 := sI M_1 7 s 1 0
  let M_3 := sI M_2 7 s 2 0
  let M_4 := sI M_3 7 s 3 0
  let M_5 := sI M_4 7 s 8 0
  (gR M_5 7 s 6).bind fun a_6 =>
  let M_7 := sI M_5 8 a_6 3 0
  some M_7
set_option maxRecDepth 100000 in
theorem q_X7_clear (fu : Nat) (s : Nat) (M : xM) :
    xrun pX7_clear flX7 koX7 nwX7 [] [] xrtV 22 (xat 0 pX7_clear) 0 0 [(0, .inr (.inr (7, some s)))] [] M = F_X7_clear fu s M := rfl
def w_X7_clear (fu : Nat) {ρ : Type} (as : List xV) (M : xM) (k : Option xV → xM → Option ρ) : Option ρ := pR 7 as fun o as => o.bind fun s => xe as ((F_X7_clear fu s M).bind fun p => k none p)
def pX7_fileNamed : List xE := [(0, 0, 1, 0, 0, [], .iconst 0),
  (0, 1, 1, 0, 0, [], .istore_n 3),
  (1, 2, 1, 0, 0, [], .iload_n 3),
  (0, 3, 1, 0, 0, [], .aload_n 0),
  (0, 4, 3, 0, 0, [], .getfield 29),
  (0, 7, 3, 34, 0, [], .if_icmp .ge 27),
  (0, 10, 1, 0, 0, [], .iload_n 3),
  (0, 11, 1, 0, 5, [], .iconst 5),
  (0, 12, 3, 34, 0, [], .if_icmp .ge 22),
  (0, 15, 1, 0, 0, [], .aload_n 0),
  (0, 16, 3, 0, 0, [], .getfield 25),
  (0, 19, 1, 0, 0, [], .iload_n 3),
  (0, 20, 1, 0, 0, [], .laload),
  (0, 21, 1, 0, 0, [], .lload_n 1),
  (0, 22, 1, 0, 0, [], .lcmp),
  (0, 23, 3, 28, 0, [], .ifCond .ne 5),
  (0, 26, 1, 0, 0, [], .iload_n 3),
  (0, 27, 1, 0, 0, [], .ireturn),
  (0, 28, 3, 0, 1, [], .iinc 3 1),
  (0, 31, 3, 2, 0, [], .goto (-29)),
  (0, 34, 1, 0, (-1), [], .iconst (-1)),
  (0, 35, 1, 0, 0, [], .ireturn)]
def L_X7_fileNamed_2 (fu : Nat) : Nat → Nat → Int64 → Int32 → xM → Option (Int32 × xM)
  | 0, _, _, _, _ => none
  | n + 1, s, x1, x3, M =>
    if (gI M 7 s 3) ≤ x3 then
      (some ((-1), M))
    else
      if 5 ≤ x3 then
        (some ((-1), M))
      else
        (gR M 7 s 7).bind fun a_1 =>
        gd (xin x3 (gN M 21 a_1)) <|
        if ¬ (lg_cmp (gL M 21 a_1 (xi x3)) x1) = 0 then
          L_X7_fileNamed_2 fu n s x1 (x3 + 1) M
        else
          (some (x3, M))
set_option maxRecDepth 100000 in
theorem q_X7_fileNamed_2 (fu : Nat) (n : Nat) (s : Nat) (x1 : Int64) (x3 : Int32) (M : xM) :
    xrun pX7_fileNamed flX7 koX7 nwX7 [] [(2, fun bc bs ls st M => xz bc bs (lR ls 0 7 fun o => o.bind fun s => lL ls 1 fun x1 => lI ls 3 fun x3 => xe st (L_X7_fileNamed_2 fu n s x1 x3 M)))] xrtI 24 (xat 2 pX7_fileNamed) 0 0 [(0, .inr (.inr (7, some s))), (1, .inr (.inl x1)), (3, .inl x3)] [] M = L_X7_fileNamed_2 fu (n + 1) s x1 x3 M := rfl
def F_X7_fileNamed (fu : Nat) (s : Nat) (x1 : Int64) (M : xM) : Option (Int32 × xM) :=
  L_X7_fileNamed_2 fu fu s x1 0 M
set_option maxRecDepth 100000 in
theorem q_X7_fileNamed (fu : Nat) (s : Nat) (x1 : Int64) (M : xM) :
    xrun pX7_fileNamed flX7 koX7 nwX7 [] [(2, fun bc bs ls st M => xz bc bs (lR ls 0 7 fun o => o.bind fun s => lL ls 1 fun x1 => lI ls 3 fun x3 => xe st (L_X7_fileNamed_2 fu fu s x1 x3 M)))] xrtI 24 (xat 0 pX7_fileNamed) 0 0 [(0, .inr (.inr (7, some s))), (1, .inr (.inl x1))] [] M = F_X7_fileNamed fu s x1 M := rfl
def w_X7_fileNamed (fu : Nat) {ρ : Type} (as : List xV) (M : xM) (k : Option xV → xM → Option ρ) : Option ρ := pR 7 as fun o as => o.bind fun s => pL as fun x1 as => xe as ((F_X7_fileNamed fu s x1 M).bind fun p => k (some (.inl p.1)) p.2)
def pX7_readFile : List xE := [(0, 0, 1, 0, 0, [], .aload_n 0),
  (0, 1, 3, 0, 0, [], .getfield 29),
  (0, 4, 1, 0, 5, [], .iconst 5),
  (0, 5, 3, 14, 0, [], .if_icmp .lt 9),
  (0, 8, 1, 0, 0, [], .aload_n 1),
  (0, 9, 1, 0, 5, [], .iconst 5),
  (0, 10, 3, 0, 0, [], .invokevirtual 77),
  (0, 13, 1, 0, 0, [], .ireturn),
  (0, 14, 1, 0, 0, [], .aload_n 1),
  (0, 15, 3, 0, 0, [], .invokevirtual 80),
  (0, 18, 1, 0, 0, [], .aload_n 1),
  (0, 19, 3, 0, 0, [], .invokevirtual 90),
  (0, 22, 3, 31, 0, [], .ifCond .ne 9),
  (0, 25, 1, 0, 0, [], .aload_n 1),
  (0, 26, 1, 0, 1, [], .iconst 1),
  (0, 27, 3, 0, 0, [], .invokevirtual 77),
  (0, 30, 1, 0, 0, [], .ireturn),
  (0, 31, 1, 0, 0, [], .aload_n 0),
  (0, 32, 1, 0, 0, [], .aload_n 1),
  (0, 33, 3, 0, 0, [], .getfield 94),
  (0, 36, 3, 0, 0, [], .invokevirtual 98),
  (0, 39, 3, 48, 0, [], .ifCond .lt 9),
  (0, 42, 1, 0, 0, [], .aload_n 1),
  (0, 43, 1, 0, 3, [], .iconst 3),
  (0, 44, 3, 0, 0, [], .invokevirtual 77),
  (0, 47, 1, 0, 0, [], .ireturn),
  (0, 48, 1, 0, 0, [], .aload_n 1),
  (0, 49, 3, 0, 0, [], .getfield 94),
  (0, 52, 1, 0, 0, [], .lstore_n 2),
  (0, 53, 1, 0, 0, [], .aload_n 1),
  (0, 54, 3, 0, 0, [], .invokevirtual 80),
  (0, 57, 1, 0, 0, [], .aload_n 1),
  (0, 58, 3, 0, 0, [], .getfield 71),
  (0, 61, 2, 0, 12, [], .bipush 12),
  (0, 63, 3, 75, 0, [], .if_icmp .lt 12),
  (0, 66, 1, 0, 0, [], .aload_n 1),
  (0, 67, 3, 0, 0, [], .getfield 71),
  (0, 70, 2, 0, 15, [], .bipush 15),
  (0, 72, 3, 81, 0, [], .if_icmp .le 9),
  (0, 75, 1, 0, 0, [], .aload_n 1),
  (0, 76, 1, 0, 1, [], .iconst 1),
  (0, 77, 3, 0, 0, [], .invokevirtual 77),
  (0, 80, 1, 0, 0, [], .ireturn),
  (0, 81, 1, 0, 0, [], .aload_n 1),
  (0, 82, 3, 0, 0, [], .getfield 71),
  (0, 85, 2, 0, 12, [], .bipush 12),
  (0, 87, 1, 0, 0, [], .isub),
  (0, 88, 2, 0, 0, [], .istore 4),
  (0, 90, 1, 0, 0, [], .aload_n 1),
  (0, 91, 3, 0, 0, [], .invokevirtual 80),
  (0, 94, 1, 0, 0, [], .aload_n 1),
  (0, 95, 3, 0, 0, [], .getfield 71),
  (0, 98, 1, 0, 4, [], .iconst 4),
  (0, 99, 3, 108, 0, [], .if_icmp .eq 9),
  (0, 102, 1, 0, 0, [], .aload_n 1),
  (0, 103, 1, 0, 1, [], .iconst 1),
  (0, 104, 3, 0, 0, [], .invokevirtual 77),
  (0, 107, 1, 0, 0, [], .ireturn),
  (0, 108, 1, 0, 0, [], .aload_n 1),
  (0, 109, 3, 0, 0, [], .invokevirtual 80),
  (0, 112, 1, 0, 0, [], .aload_n 1),
  (0, 113, 1, 0, 1, [], .iconst 1),
  (0, 114, 1, 0, 4, [], .iconst 4),
  (0, 115, 3, 0, 0, [], .invokevirtual 83),
  (0, 118, 2, 0, 0, [], .istore 5),
  (0, 120, 2, 0, 0, [], .iload 5),
  (0, 122, 3, 127, 0, [], .ifCond .ge 5),
  (0, 125, 1, 0, 0, [], .iconst 0),
  (0, 126, 1, 0, 0, [], .ireturn),
  (0, 127, 1, 0, 0, [], .aload_n 0),
  (0, 128, 3, 0, 0, [], .getfield 25),
  (0, 131, 1, 0, 0, [], .aload_n 0),
  (0, 132, 3, 0, 0, [], .getfield 29),
  (0, 135, 1, 0, 0, [], .lload_n 2),
  (0, 136, 1, 0, 0, [], .lastore),
  (0, 137, 1, 0, 0, [], .aload_n 0),
  (0, 138, 3, 0, 0, [], .getfield 9),
  (0, 141, 1, 0, 0, [], .aload_n 0),
  (0, 142, 3, 0, 0, [], .getfield 29),
  (0, 145, 2, 0, 0, [], .iload 4),
  (0, 147, 1, 0, 0, [], .iastore),
  (0, 148, 1, 0, 0, [], .aload_n 0),
  (0, 149, 3, 0, 0, [], .getfield 15),
  (0, 152, 1, 0, 0, [], .aload_n 0),
  (0, 153, 3, 0, 0, [], .getfield 29),
  (0, 156, 2, 0, 0, [], .iload 5),
  (0, 158, 1, 0, 0, [], .iastore),
  (0, 159, 1, 0, 0, [], .aload_n 0),
  (0, 160, 1, 0, 0, [], .dup),
  (0, 161, 3, 0, 0, [], .getfield 29),
  (0, 164, 1, 0, 1, [], .iconst 1),
  (0, 165, 1, 0, 0, [], .iadd),
  (0, 166, 3, 0, 0, [], .putfield 29),
  (0, 169, 1, 0, 1, [], .iconst 1),
  (0, 170, 1, 0, 0, [], .ireturn)]
def F_X7_readFile (fu : Nat) (s : Nat) (x1 : Option Nat) (M : xM) : Option (Int32 × xM) :=
  if (gI M 7 s 3) < 5 then
    x1.bind fun a_1 =>
    (F_X10_next fu a_1 M).bind fun p_2 =>
    x1.bind fun a_3 =>
    (F_X10_isName fu a_3 p_2).bind fun p_4 =>
    if ¬ p_4.1 = 0 then
      x1.bind fun a_5 =>
      (F_X7_fileNamed fu s (gL p_4.2 10 a_5 6) p_4.2).bind fun p_6 =>
      if p_6.1 < 0 then
        x1.bind fun a_7 =>
        let x2_8 : Int64 := gL p_6.2 10 a_7 6
        x1.bind fun a_9 =>
        (F_X10_next fu a_9 p_6.2).bind fun p_10 =>
        x1.bind fun a_11 =>
        if (gI p_10 10 a_11 3) < 12 then
          x1.bind fun a_12 =>
          (F_X10_fail fu a_12 1 p_10).bind fun p_13 =>
          gd (xbool p_13.1) (some (p_13.1, p_13.2))
        else
          x1.bind fun a_14 =>
          if (gI p_10 10 a_14 3) ≤ 15 then
            x1.bind fun a_15 =>
            let x4_16 : Int32 := (gI p_10 10 a_15 3) - 12
            x1.bind fun a_17 =>
            (F_X10_next fu a_17 p_10).bind fun p_18 =>
            x1.bind fun a_19 =>
            if (gI p_18 10 a_19 3) = 4 then
              x1.bind fun a_20 =>
              (F_X10_next fu a_20 p_18).bind fun p_21 =>
              x1.bind fun a_22 =>
              (F_X10_takeNumber fu a_22 1 4 p_21).bind fun p_23 =>
              if 0 ≤ p_23.1 then
                (gR p_23.2 7 s 7).bind fun a_24 =>
                gd (xin (gI p_23.2 7 s 3) (gN p_23.2 21 a_24)) <|
                let M_25 := sL p_23.2 21 a_24 (xi (gI p_23.2 7 s 3)) x2_8
                (gR M_25 7 s 4).bind fun a_26 =>
                gd (xin (gI M_25 7 s 3) (gN M_25 20 a_26)) <|
                let M_27 := sI M_25 20 a_26 (xi (gI M_25 7 s 3)) x4_16
                (gR M_27 7 s 5).bind fun a_28 =>
                gd (xin (gI M_27 7 s 3) (gN M_27 20 a_28)) <|
                let M_29 := sI M_27 20 a_28 (xi (gI M_27 7 s 3)) p_23.1
                let M_30 := sI M_29 7 s 3 ((gI M_29 7 s 3) + 1)
                gd (xbool 1) (some (1, M_30))
              else
                gd (xbool 0) (some (0, p_23.2))
            else
              x1.bind fun a_31 =>
              (F_X10_fail fu a_31 1 p_18).bind fun p_32 =>
              gd (xbool p_32.1) (some (p_32.1, p_32.2))
          else
            x1.bind fun a_33 =>
            (F_X10_fail fu a_33 1 p_10).bind fun p_34 =>
            gd (xbool p_34.1) (some (p_34.1, p_34.2))
      else
        x1.bind fun a_35 =>
        (F_X10_fail fu a_35 3 p_6.2).bind fun p_36 =>
        gd (xbool p_36.1) (some (p_36.1, p_36.2))
    else
      x1.bind fun a_37 =>
      (F_X10_fail fu a_37 1 p_4.2).bind fun p_38 =>
      gd (xbool p_38.1) (some (p_38.1, p_38.2))
  else
    x1.bind fun a_39 =>
    (F_X10_fail fu a_39 5 M).bind fun p_40 =>
    gd (xbool p_40.1) (some (p_40.1, p_40.2))
set_option maxRecDepth 100000 in
theorem q_X7_readFile (fu : Nat) (s : Nat) (x1 : Option Nat) (M : xM) :
    xrun pX7_readFile flX7 koX7 nwX7 [(77, 2, 0, 0, w_X10_fail fu), (80, 1, 0, 0, w_X10_next fu), (83, 3, 0, 0, w_X10_takeNumber fu), (90, 1, 0, 0, w_X10_isName fu), (98, 2, 0, 0, w_X7_fileNamed fu)] [] xrtZ 97 (xat 0 pX7_readFile) 0 0 [(0, .inr (.inr (7, some s))), (1, .inr (.inr (10, x1)))] [] M = F_X7_readFile fu s x1 M := rfl
def w_X7_readFile (fu : Nat) {ρ : Type} (as : List xV) (M : xM) (k : Option xV → xM → Option ρ) : Option ρ := pR 7 as fun o as => o.bind fun s => pR 10 as fun x1 as => xe as ((F_X7_readFile fu s x1 M).bind fun p => k (some (.inl p.1)) p.2)
def pX8_emit : List xE := [(0, 0, 1, 0, 0, [], .aload_n 0),
  (0, 1, 3, 0, 0, [], .getfield 19),
  (0, 4, 3, 0, 1000, [], .sipush 1000),
  (0, 7, 3, 30, 0, [], .if_icmp .ge 23),
  (0, 10, 1, 0, 0, [], .aload_n 0),
  (0, 11, 3, 0, 0, [], .getfield 9),
  (0, 14, 1, 0, 0, [], .aload_n 0),
  (0, 15, 3, 0, 0, [], .getfield 19),
  (0, 18, 1, 0, 0, [], .iload_n 1),
  (0, 19, 1, 0, 0, [], .iastore),
  (0, 20, 1, 0, 0, [], .aload_n 0),
  (0, 21, 1, 0, 0, [], .dup),
  (0, 22, 3, 0, 0, [], .getfield 19),
  (0, 25, 1, 0, 1, [], .iconst 1),
  (0, 26, 1, 0, 0, [], .iadd),
  (0, 27, 3, 0, 0, [], .putfield 19),
  (0, 30, 1, 0, 0, [], .return_)]
def F_X8_emit (fu : Nat) (s : Nat) (x1 : Int32) (M : xM) : Option xM :=
  if 1000 ≤ (gI M 8 s 3) then
    some M
  else
    (gR M 8 s 0).bind fun a_1 =>
    gd (xin (gI M 8 s 3) (gN M 20 a_1)) <|
    let M_2 := sI M 20 a_1 (xi (gI M 8 s 3)) x1
    let M_3 := sI M_2 8 s 3 ((gI M_2 8 s 3) + 1)
    some M_3
set_option maxRecDepth 100000 in
theorem q_X8_emit (fu : Nat) (s : Nat) (x1 : Int32) (M : xM) :
    xrun pX8_emit flX8 koX8 nwX8 [] [] xrtV 19 (xat 0 pX8_emit) 0 0 [(0, .inr (.inr (8, some s))), (1, .inl x1)] [] M = F_X8_emit fu s x1 M := rfl
def w_X8_emit (fu : Nat) {ρ : Type} (as : List xV) (M : xM) (k : Option xV → xM → Option ρ) : Option ρ := pR 8 as fun o as => o.bind fun s => pI as fun x1 as => xe as ((F_X8_emit fu s x1 M).bind fun p => k none p)
def w_X8_readPart (r : Nat → Option Nat → Int32 → xM → Option (Int32 × xM)) {ρ : Type} (as : List xV) (M : xM) (k : Option xV → xM → Option ρ) : Option ρ := pR 8 as fun o as => o.bind fun s => pR 10 as fun x1 as => pI as fun x2 as => xe as ((r s x1 x2 M).bind fun p => k (some (.inl p.1)) p.2)
def pX8_readProduct : List xE := [(0, 0, 1, 0, 0, [], .aload_n 0),
  (0, 1, 1, 0, 0, [], .aload_n 1),
  (0, 2, 1, 0, 0, [], .iload_n 2),
  (0, 3, 3, 0, 0, [], .invokevirtual 52),
  (0, 6, 1, 0, 0, [], .istore_n 3),
  (0, 7, 1, 0, 0, [], .iconst 0),
  (0, 8, 2, 0, 0, [], .istore 4),
  (1, 10, 2, 0, 0, [], .iload 4),
  (0, 12, 3, 0, 1000, [], .sipush 1000),
  (0, 15, 3, 54, 0, [], .if_icmp .ge 39),
  (0, 18, 1, 0, 0, [], .iload_n 3),
  (0, 19, 3, 54, 0, [], .ifCond .eq 35),
  (0, 22, 1, 0, 0, [], .aload_n 1),
  (0, 23, 2, 0, 42, [], .bipush 42),
  (0, 25, 3, 0, 0, [], .invokevirtual 45),
  (0, 28, 3, 54, 0, [], .ifCond .eq 26),
  (0, 31, 1, 0, 0, [], .aload_n 1),
  (0, 32, 3, 0, 0, [], .invokevirtual 35),
  (0, 35, 1, 0, 0, [], .aload_n 0),
  (0, 36, 1, 0, 0, [], .aload_n 1),
  (0, 37, 1, 0, 0, [], .iload_n 2),
  (0, 38, 3, 0, 0, [], .invokevirtual 52),
  (0, 41, 1, 0, 0, [], .istore_n 3),
  (0, 42, 1, 0, 0, [], .aload_n 0),
  (0, 43, 2, 0, (-6), [], .bipush (-6)),
  (0, 45, 3, 0, 0, [], .invokevirtual 38),
  (0, 48, 3, 0, 1, [], .iinc 4 1),
  (0, 51, 3, 10, 0, [], .goto (-41)),
  (0, 54, 1, 0, 0, [], .iload_n 3),
  (0, 55, 1, 0, 0, [], .ireturn)]
def L_X8_readProduct_10 (fu : Nat) (r : Nat → Option Nat → Int32 → xM → Option (Int32 × xM)) : Nat → Nat → Option Nat → Int32 → Int32 → Int32 → xM → Option (Int32 × xM)
  | 0, _, _, _, _, _, _ => none
  | n + 1, s, x1, x2, x3, x4, M =>
    if 1000 ≤ x4 then
      gd (xbool x3) (some (x3, M))
    else
      if x3 = 0 then
        gd (xbool x3) (some (x3, M))
      else
        x1.bind fun a_1 =>
        (F_X10_isSign fu a_1 42 M).bind fun p_2 =>
        if p_2.1 = 0 then
          gd (xbool x3) (some (x3, p_2.2))
        else
          x1.bind fun a_3 =>
          (F_X10_next fu a_3 p_2.2).bind fun p_4 =>
          (r s x1 x2 p_4).bind fun p_5 =>
          (F_X8_emit fu s ((-6)) p_5.2).bind fun p_6 =>
          L_X8_readProduct_10 fu r n s x1 x2 p_5.1 (x4 + 1) p_6
set_option maxRecDepth 100000 in
theorem q_X8_readProduct_10 (fu : Nat) (r : Nat → Option Nat → Int32 → xM → Option (Int32 × xM)) (n : Nat) (s : Nat) (x1 : Option Nat) (x2 : Int32) (x3 : Int32) (x4 : Int32) (M : xM) :
    xrun pX8_readProduct flX8 koX8 nwX8 [(35, 1, 0, 0, w_X10_next fu), (38, 2, 0, 0, w_X8_emit fu), (45, 2, 0, 0, w_X10_isSign fu), (52, 3, 0, 0, w_X8_readPart r)] [(10, fun bc bs ls st M => xz bc bs (lR ls 0 8 fun o => o.bind fun s => lR ls 1 10 fun x1 => lI ls 2 fun x2 => lI ls 3 fun x3 => lI ls 4 fun x4 => xe st (L_X8_readProduct_10 fu r n s x1 x2 x3 x4 M)))] xrtZ 32 (xat 10 pX8_readProduct) 0 0 [(0, .inr (.inr (8, some s))), (1, .inr (.inr (10, x1))), (2, .inl x2), (3, .inl x3), (4, .inl x4)] [] M = L_X8_readProduct_10 fu r (n + 1) s x1 x2 x3 x4 M := rfl
def F_X8_readProduct (fu : Nat) (r : Nat → Option Nat → Int32 → xM → Option (Int32 × xM)) (s : Nat) (x1 : Option Nat) (x2 : Int32) (M : xM) : Option (Int32 × xM) :=
  (r s x1 x2 M).bind fun p_1 =>
  L_X8_readProduct_10 fu r fu s x1 x2 p_1.1 0 p_1.2
set_option maxRecDepth 100000 in
theorem q_X8_readProduct (fu : Nat) (r : Nat → Option Nat → Int32 → xM → Option (Int32 × xM)) (s : Nat) (x1 : Option Nat) (x2 : Int32) (M : xM) :
    xrun pX8_readProduct flX8 koX8 nwX8 [(52, 3, 0, 0, w_X8_readPart r)] [(10, fun bc bs ls st M => xz bc bs (lR ls 0 8 fun o => o.bind fun s => lR ls 1 10 fun x1 => lI ls 2 fun x2 => lI ls 3 fun x3 => lI ls 4 fun x4 => xe st (L_X8_readProduct_10 fu r fu s x1 x2 x3 x4 M)))] xrtZ 32 (xat 0 pX8_readProduct) 0 0 [(0, .inr (.inr (8, some s))), (1, .inr (.inr (10, x1))), (2, .inl x2)] [] M = F_X8_readProduct fu r s x1 x2 M := rfl
def w_X8_readProduct (fu : Nat) (r : Nat → Option Nat → Int32 → xM → Option (Int32 × xM)) {ρ : Type} (as : List xV) (M : xM) (k : Option xV → xM → Option ρ) : Option ρ := pR 8 as fun o as => o.bind fun s => pR 10 as fun x1 as => pI as fun x2 as => xe as ((F_X8_readProduct fu r s x1 x2 M).bind fun p => k (some (.inl p.1)) p.2)
def pX8_readSum : List xE := [(0, 0, 1, 0, 0, [], .aload_n 0),
  (0, 1, 1, 0, 0, [], .aload_n 1),
  (0, 2, 1, 0, 0, [], .iload_n 2),
  (0, 3, 3, 0, 0, [], .invokevirtual 49),
  (0, 6, 1, 0, 0, [], .istore_n 3),
  (0, 7, 1, 0, 0, [], .iconst 0),
  (0, 8, 2, 0, 0, [], .istore 4),
  (1, 10, 2, 0, 0, [], .iload 4),
  (0, 12, 3, 0, 1000, [], .sipush 1000),
  (0, 15, 3, 81, 0, [], .if_icmp .ge 66),
  (0, 18, 1, 0, 0, [], .iload_n 3),
  (0, 19, 3, 81, 0, [], .ifCond .eq 62),
  (0, 22, 1, 0, 0, [], .aload_n 1),
  (0, 23, 2, 0, 43, [], .bipush 43),
  (0, 25, 3, 0, 0, [], .invokevirtual 45),
  (0, 28, 3, 40, 0, [], .ifCond .ne 12),
  (0, 31, 1, 0, 0, [], .aload_n 1),
  (0, 32, 2, 0, 45, [], .bipush 45),
  (0, 34, 3, 0, 0, [], .invokevirtual 45),
  (0, 37, 3, 81, 0, [], .ifCond .eq 44),
  (1, 40, 1, 0, 0, [], .aload_n 1),
  (0, 41, 2, 0, 43, [], .bipush 43),
  (0, 43, 3, 0, 0, [], .invokevirtual 45),
  (0, 46, 3, 54, 0, [], .ifCond .eq 8),
  (0, 49, 2, 0, (-7), [], .bipush (-7)),
  (0, 51, 3, 56, 0, [], .goto 5),
  (0, 54, 2, 0, (-8), [], .bipush (-8)),
  (1, 56, 2, 0, 0, [], .istore 5),
  (0, 58, 1, 0, 0, [], .aload_n 1),
  (0, 59, 3, 0, 0, [], .invokevirtual 35),
  (0, 62, 1, 0, 0, [], .aload_n 0),
  (0, 63, 1, 0, 0, [], .aload_n 1),
  (0, 64, 1, 0, 0, [], .iload_n 2),
  (0, 65, 3, 0, 0, [], .invokevirtual 49),
  (0, 68, 1, 0, 0, [], .istore_n 3),
  (0, 69, 1, 0, 0, [], .aload_n 0),
  (0, 70, 2, 0, 0, [], .iload 5),
  (0, 72, 3, 0, 0, [], .invokevirtual 38),
  (0, 75, 3, 0, 1, [], .iinc 4 1),
  (0, 78, 3, 10, 0, [], .goto (-68)),
  (0, 81, 1, 0, 0, [], .iload_n 3),
  (0, 82, 1, 0, 0, [], .ireturn)]
def J_X8_readSum_56 (fu : Nat) (r : Nat → Option Nat → Int32 → xM → Option (Int32 × xM)) (k10 : Nat → Option Nat → Int32 → Int32 → Int32 → xM → Option (Int32 × xM)) (s : Nat) (x1 : Option Nat) (x2 : Int32) (x4 : Int32) (y0 : Int32) (M : xM) : Option (Int32 × xM) :=
  x1.bind fun a_1 =>
  (F_X10_next fu a_1 M).bind fun p_2 =>
  (F_X8_readProduct fu r s x1 x2 p_2).bind fun p_3 =>
  (F_X8_emit fu s y0 p_3.2).bind fun p_4 =>
  k10 s x1 x2 p_3.1 (x4 + 1) p_4
set_option maxRecDepth 100000 in
theorem q_X8_readSum_56 (fu : Nat) (r : Nat → Option Nat → Int32 → xM → Option (Int32 × xM)) (k10 : Nat → Option Nat → Int32 → Int32 → Int32 → xM → Option (Int32 × xM)) (s : Nat) (x1 : Option Nat) (x2 : Int32) (x4 : Int32) (y0 : Int32) (M : xM) :
    xrun pX8_readSum flX8 koX8 nwX8 [(35, 1, 0, 0, w_X10_next fu), (38, 2, 0, 0, w_X8_emit fu), (49, 3, 0, 0, w_X8_readProduct fu r)] [(10, fun bc bs ls st M => xz bc bs (lR ls 0 8 fun o => o.bind fun s => lR ls 1 10 fun x1 => lI ls 2 fun x2 => lI ls 3 fun x3 => lI ls 4 fun x4 => xe st (k10 s x1 x2 x3 x4 M)))] xrtZ 44 (xat 56 pX8_readSum) 0 0 [(0, .inr (.inr (8, some s))), (1, .inr (.inr (10, x1))), (2, .inl x2), (4, .inl x4)] [.inl y0] M = J_X8_readSum_56 fu r k10 s x1 x2 x4 y0 M := rfl
def J_X8_readSum_40 (fu : Nat) (r : Nat → Option Nat → Int32 → xM → Option (Int32 × xM)) (k10 : Nat → Option Nat → Int32 → Int32 → Int32 → xM → Option (Int32 × xM)) (s : Nat) (x1 : Option Nat) (x2 : Int32) (x4 : Int32) (M : xM) : Option (Int32 × xM) :=
  x1.bind fun a_1 =>
  (F_X10_isSign fu a_1 43 M).bind fun p_2 =>
  if p_2.1 = 0 then
    J_X8_readSum_56 fu r k10 s x1 x2 x4 ((-8)) p_2.2
  else
    J_X8_readSum_56 fu r k10 s x1 x2 x4 ((-7)) p_2.2
set_option maxRecDepth 100000 in
theorem q_X8_readSum_40 (fu : Nat) (r : Nat → Option Nat → Int32 → xM → Option (Int32 × xM)) (k10 : Nat → Option Nat → Int32 → Int32 → Int32 → xM → Option (Int32 × xM)) (s : Nat) (x1 : Option Nat) (x2 : Int32) (x4 : Int32) (M : xM) :
    xrun pX8_readSum flX8 koX8 nwX8 [(45, 2, 0, 0, w_X10_isSign fu)] [(56, fun bc bs ls st M => xz bc bs (lR ls 0 8 fun o => o.bind fun s => lR ls 1 10 fun x1 => lI ls 2 fun x2 => lI ls 4 fun x4 => pI st fun y0 st => xe st (J_X8_readSum_56 fu r k10 s x1 x2 x4 y0 M)))] xrtZ 44 (xat 40 pX8_readSum) 0 0 [(0, .inr (.inr (8, some s))), (1, .inr (.inr (10, x1))), (2, .inl x2), (4, .inl x4)] [] M = J_X8_readSum_40 fu r k10 s x1 x2 x4 M := rfl
def L_X8_readSum_10 (fu : Nat) (r : Nat → Option Nat → Int32 → xM → Option (Int32 × xM)) : Nat → Nat → Option Nat → Int32 → Int32 → Int32 → xM → Option (Int32 × xM)
  | 0, _, _, _, _, _, _ => none
  | n + 1, s, x1, x2, x3, x4, M =>
    if 1000 ≤ x4 then
      gd (xbool x3) (some (x3, M))
    else
      if x3 = 0 then
        gd (xbool x3) (some (x3, M))
      else
        x1.bind fun a_1 =>
        (F_X10_isSign fu a_1 43 M).bind fun p_2 =>
        if ¬ p_2.1 = 0 then
          J_X8_readSum_40 fu r (L_X8_readSum_10 fu r n) s x1 x2 x4 p_2.2
        else
          x1.bind fun a_3 =>
          (F_X10_isSign fu a_3 45 p_2.2).bind fun p_4 =>
          if p_4.1 = 0 then
            gd (xbool x3) (some (x3, p_4.2))
          else
            J_X8_readSum_40 fu r (L_X8_readSum_10 fu r n) s x1 x2 x4 p_4.2
set_option maxRecDepth 100000 in
theorem q_X8_readSum_10 (fu : Nat) (r : Nat → Option Nat → Int32 → xM → Option (Int32 × xM)) (n : Nat) (s : Nat) (x1 : Option Nat) (x2 : Int32) (x3 : Int32) (x4 : Int32) (M : xM) :
    xrun pX8_readSum flX8 koX8 nwX8 [(45, 2, 0, 0, w_X10_isSign fu)] [(40, fun bc bs ls st M => xz bc bs (lR ls 0 8 fun o => o.bind fun s => lR ls 1 10 fun x1 => lI ls 2 fun x2 => lI ls 4 fun x4 => xe st (J_X8_readSum_40 fu r (L_X8_readSum_10 fu r n) s x1 x2 x4 M)))] xrtZ 44 (xat 10 pX8_readSum) 0 0 [(0, .inr (.inr (8, some s))), (1, .inr (.inr (10, x1))), (2, .inl x2), (3, .inl x3), (4, .inl x4)] [] M = L_X8_readSum_10 fu r (n + 1) s x1 x2 x3 x4 M := rfl
def F_X8_readSum (fu : Nat) (r : Nat → Option Nat → Int32 → xM → Option (Int32 × xM)) (s : Nat) (x1 : Option Nat) (x2 : Int32) (M : xM) : Option (Int32 × xM) :=
  (F_X8_readProduct fu r s x1 x2 M).bind fun p_1 =>
  L_X8_readSum_10 fu r fu s x1 x2 p_1.1 0 p_1.2
set_option maxRecDepth 100000 in
theorem q_X8_readSum (fu : Nat) (r : Nat → Option Nat → Int32 → xM → Option (Int32 × xM)) (s : Nat) (x1 : Option Nat) (x2 : Int32) (M : xM) :
    xrun pX8_readSum flX8 koX8 nwX8 [(49, 3, 0, 0, w_X8_readProduct fu r)] [(10, fun bc bs ls st M => xz bc bs (lR ls 0 8 fun o => o.bind fun s => lR ls 1 10 fun x1 => lI ls 2 fun x2 => lI ls 3 fun x3 => lI ls 4 fun x4 => xe st (L_X8_readSum_10 fu r fu s x1 x2 x3 x4 M)))] xrtZ 44 (xat 0 pX8_readSum) 0 0 [(0, .inr (.inr (8, some s))), (1, .inr (.inr (10, x1))), (2, .inl x2)] [] M = F_X8_readSum fu r s x1 x2 M := rfl
def w_X8_readSum (fu : Nat) (r : Nat → Option Nat → Int32 → xM → Option (Int32 × xM)) {ρ : Type} (as : List xV) (M : xM) (k : Option xV → xM → Option ρ) : Option ρ := pR 8 as fun o as => o.bind fun s => pR 10 as fun x1 as => pI as fun x2 as => xe as ((F_X8_readSum fu r s x1 x2 M).bind fun p => k (some (.inl p.1)) p.2)
def pX8_readTest : List xE := [(0, 0, 1, 0, 0, [], .aload_n 0),
  (0, 1, 1, 0, 0, [], .aload_n 1),
  (0, 2, 1, 0, 0, [], .iload_n 2),
  (0, 3, 3, 0, 0, [], .invokevirtual 42),
  (0, 6, 1, 0, 0, [], .istore_n 3),
  (0, 7, 1, 0, 0, [], .iload_n 3),
  (0, 8, 3, 64, 0, [], .ifCond .eq 56),
  (0, 11, 1, 0, 0, [], .aload_n 1),
  (0, 12, 2, 0, 60, [], .bipush 60),
  (0, 14, 3, 0, 0, [], .invokevirtual 45),
  (0, 17, 3, 29, 0, [], .ifCond .ne 12),
  (0, 20, 1, 0, 0, [], .aload_n 1),
  (0, 21, 2, 0, 61, [], .bipush 61),
  (0, 23, 3, 0, 0, [], .invokevirtual 45),
  (0, 26, 3, 64, 0, [], .ifCond .eq 38),
  (1, 29, 1, 0, 0, [], .aload_n 1),
  (0, 30, 2, 0, 60, [], .bipush 60),
  (0, 32, 3, 0, 0, [], .invokevirtual 45),
  (0, 35, 3, 43, 0, [], .ifCond .eq 8),
  (0, 38, 2, 0, (-9), [], .bipush (-9)),
  (0, 40, 3, 45, 0, [], .goto 5),
  (0, 43, 2, 0, (-10), [], .bipush (-10)),
  (1, 45, 2, 0, 0, [], .istore 4),
  (0, 47, 1, 0, 0, [], .aload_n 1),
  (0, 48, 3, 0, 0, [], .invokevirtual 35),
  (0, 51, 1, 0, 0, [], .aload_n 0),
  (0, 52, 1, 0, 0, [], .aload_n 1),
  (0, 53, 1, 0, 0, [], .iload_n 2),
  (0, 54, 3, 0, 0, [], .invokevirtual 42),
  (0, 57, 1, 0, 0, [], .istore_n 3),
  (0, 58, 1, 0, 0, [], .aload_n 0),
  (0, 59, 2, 0, 0, [], .iload 4),
  (0, 61, 3, 0, 0, [], .invokevirtual 38),
  (0, 64, 1, 0, 0, [], .iload_n 3),
  (0, 65, 1, 0, 0, [], .ireturn)]
def J_X8_readTest_45 (fu : Nat) (r : Nat → Option Nat → Int32 → xM → Option (Int32 × xM)) (s : Nat) (x1 : Option Nat) (x2 : Int32) (y0 : Int32) (M : xM) : Option (Int32 × xM) :=
  x1.bind fun a_1 =>
  (F_X10_next fu a_1 M).bind fun p_2 =>
  (F_X8_readSum fu r s x1 x2 p_2).bind fun p_3 =>
  (F_X8_emit fu s y0 p_3.2).bind fun p_4 =>
  gd (xbool p_3.1) (some (p_3.1, p_4))
set_option maxRecDepth 100000 in
theorem q_X8_readTest_45 (fu : Nat) (r : Nat → Option Nat → Int32 → xM → Option (Int32 × xM)) (s : Nat) (x1 : Option Nat) (x2 : Int32) (y0 : Int32) (M : xM) :
    xrun pX8_readTest flX8 koX8 nwX8 [(35, 1, 0, 0, w_X10_next fu), (38, 2, 0, 0, w_X8_emit fu), (42, 3, 0, 0, w_X8_readSum fu r)] [] xrtZ 37 (xat 45 pX8_readTest) 0 0 [(0, .inr (.inr (8, some s))), (1, .inr (.inr (10, x1))), (2, .inl x2)] [.inl y0] M = J_X8_readTest_45 fu r s x1 x2 y0 M := rfl
def J_X8_readTest_29 (fu : Nat) (r : Nat → Option Nat → Int32 → xM → Option (Int32 × xM)) (s : Nat) (x1 : Option Nat) (x2 : Int32) (M : xM) : Option (Int32 × xM) :=
  x1.bind fun a_1 =>
  (F_X10_isSign fu a_1 60 M).bind fun p_2 =>
  if p_2.1 = 0 then
    J_X8_readTest_45 fu r s x1 x2 ((-10)) p_2.2
  else
    J_X8_readTest_45 fu r s x1 x2 ((-9)) p_2.2
set_option maxRecDepth 100000 in
theorem q_X8_readTest_29 (fu : Nat) (r : Nat → Option Nat → Int32 → xM → Option (Int32 × xM)) (s : Nat) (x1 : Option Nat) (x2 : Int32) (M : xM) :
    xrun pX8_readTest flX8 koX8 nwX8 [(45, 2, 0, 0, w_X10_isSign fu)] [(45, fun bc bs ls st M => xz bc bs (lR ls 0 8 fun o => o.bind fun s => lR ls 1 10 fun x1 => lI ls 2 fun x2 => pI st fun y0 st => xe st (J_X8_readTest_45 fu r s x1 x2 y0 M)))] xrtZ 37 (xat 29 pX8_readTest) 0 0 [(0, .inr (.inr (8, some s))), (1, .inr (.inr (10, x1))), (2, .inl x2)] [] M = J_X8_readTest_29 fu r s x1 x2 M := rfl
def F_X8_readTest (fu : Nat) (r : Nat → Option Nat → Int32 → xM → Option (Int32 × xM)) (s : Nat) (x1 : Option Nat) (x2 : Int32) (M : xM) : Option (Int32 × xM) :=
  (F_X8_readSum fu r s x1 x2 M).bind fun p_1 =>
  if p_1.1 = 0 then
    gd (xbool p_1.1) (some (p_1.1, p_1.2))
  else
    x1.bind fun a_2 =>
    (F_X10_isSign fu a_2 60 p_1.2).bind fun p_3 =>
    if ¬ p_3.1 = 0 then
      J_X8_readTest_29 fu r s x1 x2 p_3.2
    else
      x1.bind fun a_4 =>
      (F_X10_isSign fu a_4 61 p_3.2).bind fun p_5 =>
      if p_5.1 = 0 then
        gd (xbool p_1.1) (some (p_1.1, p_5.2))
      else
        J_X8_readTest_29 fu r s x1 x2 p_5.2
set_option maxRecDepth 100000 in
theorem q_X8_readTest (fu : Nat) (r : Nat → Option Nat → Int32 → xM → Option (Int32 × xM)) (s : Nat) (x1 : Option Nat) (x2 : Int32) (M : xM) :
    xrun pX8_readTest flX8 koX8 nwX8 [(42, 3, 0, 0, w_X8_readSum fu r), (45, 2, 0, 0, w_X10_isSign fu)] [(29, fun bc bs ls st M => xz bc bs (lR ls 0 8 fun o => o.bind fun s => lR ls 1 10 fun x1 => lI ls 2 fun x2 => xe st (J_X8_readTest_29 fu r s x1 x2 M)))] xrtZ 37 (xat 0 pX8_readTest) 0 0 [(0, .inr (.inr (8, some s))), (1, .inr (.inr (10, x1))), (2, .inl x2)] [] M = F_X8_readTest fu r s x1 x2 M := rfl
def w_X8_readTest (fu : Nat) (r : Nat → Option Nat → Int32 → xM → Option (Int32 × xM)) {ρ : Type} (as : List xV) (M : xM) (k : Option xV → xM → Option ρ) : Option ρ := pR 8 as fun o as => o.bind fun s => pR 10 as fun x1 as => pI as fun x2 as => xe as ((F_X8_readTest fu r s x1 x2 M).bind fun p => k (some (.inl p.1)) p.2)
def pX8_readAll : List xE := [(0, 0, 1, 0, 0, [], .aload_n 0),
  (0, 1, 1, 0, 0, [], .aload_n 1),
  (0, 2, 1, 0, 0, [], .iload_n 2),
  (0, 3, 3, 0, 0, [], .invokevirtual 27),
  (0, 6, 1, 0, 0, [], .istore_n 3),
  (0, 7, 1, 0, 0, [], .iconst 0),
  (0, 8, 2, 0, 0, [], .istore 4),
  (1, 10, 2, 0, 0, [], .iload 4),
  (0, 12, 3, 0, 1000, [], .sipush 1000),
  (0, 15, 3, 81, 0, [], .if_icmp .ge 66),
  (0, 18, 1, 0, 0, [], .iload_n 3),
  (0, 19, 3, 81, 0, [], .ifCond .eq 62),
  (0, 22, 1, 0, 0, [], .aload_n 1),
  (0, 23, 3, 0, 0, [], .getfield 30),
  (0, 26, 2, 0, 17, [], .bipush 17),
  (0, 28, 3, 40, 0, [], .if_icmp .eq 12),
  (0, 31, 1, 0, 0, [], .aload_n 1),
  (0, 32, 3, 0, 0, [], .getfield 30),
  (0, 35, 2, 0, 18, [], .bipush 18),
  (0, 37, 3, 81, 0, [], .if_icmp .ne 44),
  (1, 40, 1, 0, 0, [], .aload_n 1),
  (0, 41, 3, 0, 0, [], .getfield 30),
  (0, 44, 2, 0, 17, [], .bipush 17),
  (0, 46, 3, 54, 0, [], .if_icmp .ne 8),
  (0, 49, 2, 0, (-11), [], .bipush (-11)),
  (0, 51, 3, 56, 0, [], .goto 5),
  (0, 54, 2, 0, (-12), [], .bipush (-12)),
  (1, 56, 2, 0, 0, [], .istore 5),
  (0, 58, 1, 0, 0, [], .aload_n 1),
  (0, 59, 3, 0, 0, [], .invokevirtual 35),
  (0, 62, 1, 0, 0, [], .aload_n 0),
  (0, 63, 1, 0, 0, [], .aload_n 1),
  (0, 64, 1, 0, 0, [], .iload_n 2),
  (0, 65, 3, 0, 0, [], .invokevirtual 27),
  (0, 68, 1, 0, 0, [], .istore_n 3),
  (0, 69, 1, 0, 0, [], .aload_n 0),
  (0, 70, 2, 0, 0, [], .iload 5),
  (0, 72, 3, 0, 0, [], .invokevirtual 38),
  (0, 75, 3, 0, 1, [], .iinc 4 1),
  (0, 78, 3, 10, 0, [], .goto (-68)),
  (0, 81, 1, 0, 0, [], .iload_n 3),
  (0, 82, 1, 0, 0, [], .ireturn)]
def J_X8_readAll_56 (fu : Nat) (r : Nat → Option Nat → Int32 → xM → Option (Int32 × xM)) (k10 : Nat → Option Nat → Int32 → Int32 → Int32 → xM → Option (Int32 × xM)) (s : Nat) (x1 : Option Nat) (x2 : Int32) (x4 : Int32) (y0 : Int32) (M : xM) : Option (Int32 × xM) :=
  x1.bind fun a_1 =>
  (F_X10_next fu a_1 M).bind fun p_2 =>
  (F_X8_readTest fu r s x1 x2 p_2).bind fun p_3 =>
  (F_X8_emit fu s y0 p_3.2).bind fun p_4 =>
  k10 s x1 x2 p_3.1 (x4 + 1) p_4
set_option maxRecDepth 100000 in
theorem q_X8_readAll_56 (fu : Nat) (r : Nat → Option Nat → Int32 → xM → Option (Int32 × xM)) (k10 : Nat → Option Nat → Int32 → Int32 → Int32 → xM → Option (Int32 × xM)) (s : Nat) (x1 : Option Nat) (x2 : Int32) (x4 : Int32) (y0 : Int32) (M : xM) :
    xrun pX8_readAll flX8 koX8 nwX8 [(27, 3, 0, 0, w_X8_readTest fu r), (35, 1, 0, 0, w_X10_next fu), (38, 2, 0, 0, w_X8_emit fu)] [(10, fun bc bs ls st M => xz bc bs (lR ls 0 8 fun o => o.bind fun s => lR ls 1 10 fun x1 => lI ls 2 fun x2 => lI ls 3 fun x3 => lI ls 4 fun x4 => xe st (k10 s x1 x2 x3 x4 M)))] xrtZ 44 (xat 56 pX8_readAll) 0 0 [(0, .inr (.inr (8, some s))), (1, .inr (.inr (10, x1))), (2, .inl x2), (4, .inl x4)] [.inl y0] M = J_X8_readAll_56 fu r k10 s x1 x2 x4 y0 M := rfl
def J_X8_readAll_40 (fu : Nat) (r : Nat → Option Nat → Int32 → xM → Option (Int32 × xM)) (k10 : Nat → Option Nat → Int32 → Int32 → Int32 → xM → Option (Int32 × xM)) (s : Nat) (x1 : Option Nat) (x2 : Int32) (x4 : Int32) (M : xM) : Option (Int32 × xM) :=
  x1.bind fun a_1 =>
  if ¬ (gI M 10 a_1 3) = 17 then
    J_X8_readAll_56 fu r k10 s x1 x2 x4 ((-12)) M
  else
    J_X8_readAll_56 fu r k10 s x1 x2 x4 ((-11)) M
set_option maxRecDepth 100000 in
theorem q_X8_readAll_40 (fu : Nat) (r : Nat → Option Nat → Int32 → xM → Option (Int32 × xM)) (k10 : Nat → Option Nat → Int32 → Int32 → Int32 → xM → Option (Int32 × xM)) (s : Nat) (x1 : Option Nat) (x2 : Int32) (x4 : Int32) (M : xM) :
    xrun pX8_readAll flX8 koX8 nwX8 [] [(56, fun bc bs ls st M => xz bc bs (lR ls 0 8 fun o => o.bind fun s => lR ls 1 10 fun x1 => lI ls 2 fun x2 => lI ls 4 fun x4 => pI st fun y0 st => xe st (J_X8_readAll_56 fu r k10 s x1 x2 x4 y0 M)))] xrtZ 44 (xat 40 pX8_readAll) 0 0 [(0, .inr (.inr (8, some s))), (1, .inr (.inr (10, x1))), (2, .inl x2), (4, .inl x4)] [] M = J_X8_readAll_40 fu r k10 s x1 x2 x4 M := rfl
def L_X8_readAll_10 (fu : Nat) (r : Nat → Option Nat → Int32 → xM → Option (Int32 × xM)) : Nat → Nat → Option Nat → Int32 → Int32 → Int32 → xM → Option (Int32 × xM)
  | 0, _, _, _, _, _, _ => none
  | n + 1, s, x1, x2, x3, x4, M =>
    if 1000 ≤ x4 then
      gd (xbool x3) (some (x3, M))
    else
      if x3 = 0 then
        gd (xbool x3) (some (x3, M))
      else
        x1.bind fun a_1 =>
        if (gI M 10 a_1 3) = 17 then
          J_X8_readAll_40 fu r (L_X8_readAll_10 fu r n) s x1 x2 x4 M
        else
          x1.bind fun a_2 =>
          if ¬ (gI M 10 a_2 3) = 18 then
            gd (xbool x3) (some (x3, M))
          else
            J_X8_readAll_40 fu r (L_X8_readAll_10 fu r n) s x1 x2 x4 M
set_option maxRecDepth 100000 in
theorem q_X8_readAll_10 (fu : Nat) (r : Nat → Option Nat → Int32 → xM → Option (Int32 × xM)) (n : Nat) (s : Nat) (x1 : Option Nat) (x2 : Int32) (x3 : Int32) (x4 : Int32) (M : xM) :
    xrun pX8_readAll flX8 koX8 nwX8 [] [(40, fun bc bs ls st M => xz bc bs (lR ls 0 8 fun o => o.bind fun s => lR ls 1 10 fun x1 => lI ls 2 fun x2 => lI ls 4 fun x4 => xe st (J_X8_readAll_40 fu r (L_X8_readAll_10 fu r n) s x1 x2 x4 M)))] xrtZ 44 (xat 10 pX8_readAll) 0 0 [(0, .inr (.inr (8, some s))), (1, .inr (.inr (10, x1))), (2, .inl x2), (3, .inl x3), (4, .inl x4)] [] M = L_X8_readAll_10 fu r (n + 1) s x1 x2 x3 x4 M := rfl
def F_X8_readAll (fu : Nat) (r : Nat → Option Nat → Int32 → xM → Option (Int32 × xM)) (s : Nat) (x1 : Option Nat) (x2 : Int32) (M : xM) : Option (Int32 × xM) :=
  (F_X8_readTest fu r s x1 x2 M).bind fun p_1 =>
  L_X8_readAll_10 fu r fu s x1 x2 p_1.1 0 p_1.2
set_option maxRecDepth 100000 in
theorem q_X8_readAll (fu : Nat) (r : Nat → Option Nat → Int32 → xM → Option (Int32 × xM)) (s : Nat) (x1 : Option Nat) (x2 : Int32) (M : xM) :
    xrun pX8_readAll flX8 koX8 nwX8 [(27, 3, 0, 0, w_X8_readTest fu r)] [(10, fun bc bs ls st M => xz bc bs (lR ls 0 8 fun o => o.bind fun s => lR ls 1 10 fun x1 => lI ls 2 fun x2 => lI ls 3 fun x3 => lI ls 4 fun x4 => xe st (L_X8_readAll_10 fu r fu s x1 x2 x3 x4 M)))] xrtZ 44 (xat 0 pX8_readAll) 0 0 [(0, .inr (.inr (8, some s))), (1, .inr (.inr (10, x1))), (2, .inl x2)] [] M = F_X8_readAll fu r s x1 x2 M := rfl
def w_X8_readAll (fu : Nat) (r : Nat → Option Nat → Int32 → xM → Option (Int32 × xM)) {ρ : Type} (as : List xV) (M : xM) (k : Option xV → xM → Option ρ) : Option ρ := pR 8 as fun o as => o.bind fun s => pR 10 as fun x1 as => pI as fun x2 as => xe as ((F_X8_readAll fu r s x1 x2 M).bind fun p => k (some (.inl p.1)) p.2)
def pX8_readPart : List xE := [(0, 0, 1, 0, 0, [], .aload_n 1),
  (0, 1, 3, 0, 0, [], .getfield 55),
  (0, 4, 1, 0, 2, [], .iconst 2),
  (0, 5, 3, 15, 0, [], .if_icmp .eq 10),
  (0, 8, 1, 0, 0, [], .aload_n 1),
  (0, 9, 3, 0, 0, [], .invokevirtual 58),
  (0, 12, 3, 19, 0, [], .ifCond .eq 7),
  (0, 15, 1, 0, 1, [], .iconst 1),
  (0, 16, 3, 20, 0, [], .goto 4),
  (0, 19, 1, 0, 0, [], .iconst 0),
  (1, 20, 1, 0, 0, [], .istore_n 3),
  (0, 21, 1, 0, 0, [], .aload_n 1),
  (0, 22, 3, 0, 0, [], .getfield 30),
  (0, 25, 2, 0, 16, [], .bipush 16),
  (0, 27, 3, 34, 0, [], .if_icmp .ne 7),
  (0, 30, 1, 0, 1, [], .iconst 1),
  (0, 31, 3, 35, 0, [], .goto 4),
  (0, 34, 1, 0, 0, [], .iconst 0),
  (1, 35, 2, 0, 0, [], .istore 4),
  (0, 37, 1, 0, 0, [], .iload_n 3),
  (0, 38, 3, 61, 0, [], .ifCond .ne 23),
  (0, 41, 2, 0, 0, [], .iload 4),
  (0, 43, 3, 61, 0, [], .ifCond .ne 18),
  (0, 46, 1, 0, 0, [], .aload_n 1),
  (0, 47, 2, 0, 40, [], .bipush 40),
  (0, 49, 3, 0, 0, [], .invokevirtual 45),
  (0, 52, 3, 61, 0, [], .ifCond .ne 9),
  (0, 55, 1, 0, 0, [], .aload_n 1),
  (0, 56, 1, 0, 1, [], .iconst 1),
  (0, 57, 3, 0, 0, [], .invokevirtual 62),
  (0, 60, 1, 0, 0, [], .ireturn),
  (1, 61, 1, 0, 0, [], .iload_n 2),
  (0, 62, 1, 0, 5, [], .iconst 5),
  (0, 63, 3, 72, 0, [], .if_icmp .lt 9),
  (0, 66, 1, 0, 0, [], .aload_n 1),
  (0, 67, 1, 0, 5, [], .iconst 5),
  (0, 68, 3, 0, 0, [], .invokevirtual 62),
  (0, 71, 1, 0, 0, [], .ireturn),
  (0, 72, 1, 0, 0, [], .iload_n 3),
  (0, 73, 3, 108, 0, [], .ifCond .eq 35),
  (0, 76, 1, 0, 0, [], .aload_n 0),
  (0, 77, 1, 0, 0, [], .aload_n 1),
  (0, 78, 3, 0, 0, [], .getfield 55),
  (0, 81, 1, 0, 2, [], .iconst 2),
  (0, 82, 3, 92, 0, [], .if_icmp .ne 10),
  (0, 85, 1, 0, 0, [], .aload_n 1),
  (0, 86, 3, 0, 0, [], .getfield 66),
  (0, 89, 3, 99, 0, [], .goto 10),
  (0, 92, 2, 0, 18, [], .bipush 18),
  (0, 94, 1, 0, 0, [], .aload_n 1),
  (0, 95, 3, 0, 0, [], .getfield 30),
  (0, 98, 1, 0, 0, [], .isub),
  (0, 99, 3, 0, 0, [], .invokevirtual 38),
  (0, 102, 1, 0, 0, [], .aload_n 1),
  (0, 103, 3, 0, 0, [], .invokevirtual 35),
  (0, 106, 1, 0, 1, [], .iconst 1),
  (0, 107, 1, 0, 0, [], .ireturn),
  (0, 108, 1, 0, 0, [], .aload_n 1),
  (0, 109, 3, 0, 0, [], .invokevirtual 35),
  (0, 112, 2, 0, 0, [], .iload 4),
  (0, 114, 3, 136, 0, [], .ifCond .eq 22),
  (0, 117, 1, 0, 0, [], .aload_n 0),
  (0, 118, 1, 0, 0, [], .aload_n 1),
  (0, 119, 1, 0, 0, [], .iload_n 2),
  (0, 120, 1, 0, 1, [], .iconst 1),
  (0, 121, 1, 0, 0, [], .iadd),
  (0, 122, 3, 0, 0, [], .invokevirtual 52),
  (0, 125, 2, 0, 0, [], .istore 5),
  (0, 127, 1, 0, 0, [], .aload_n 0),
  (0, 128, 2, 0, (-5), [], .bipush (-5)),
  (0, 130, 3, 0, 0, [], .invokevirtual 38),
  (0, 133, 2, 0, 0, [], .iload 5),
  (0, 135, 1, 0, 0, [], .ireturn),
  (0, 136, 1, 0, 0, [], .aload_n 0),
  (0, 137, 1, 0, 0, [], .aload_n 1),
  (0, 138, 1, 0, 0, [], .iload_n 2),
  (0, 139, 1, 0, 1, [], .iconst 1),
  (0, 140, 1, 0, 0, [], .iadd),
  (0, 141, 3, 0, 0, [], .invokevirtual 23),
  (0, 144, 3, 149, 0, [], .ifCond .ne 5),
  (0, 147, 1, 0, 0, [], .iconst 0),
  (0, 148, 1, 0, 0, [], .ireturn),
  (0, 149, 1, 0, 0, [], .aload_n 1),
  (0, 150, 2, 0, 41, [], .bipush 41),
  (0, 152, 3, 0, 0, [], .invokevirtual 45),
  (0, 155, 3, 164, 0, [], .ifCond .ne 9),
  (0, 158, 1, 0, 0, [], .aload_n 1),
  (0, 159, 1, 0, 1, [], .iconst 1),
  (0, 160, 3, 0, 0, [], .invokevirtual 62),
  (0, 163, 1, 0, 0, [], .ireturn),
  (0, 164, 1, 0, 0, [], .aload_n 1),
  (0, 165, 3, 0, 0, [], .invokevirtual 35),
  (0, 168, 1, 0, 1, [], .iconst 1),
  (0, 169, 1, 0, 0, [], .ireturn)]
def J_X8_readPart_61 (fu : Nat) (r : Nat → Option Nat → Int32 → xM → Option (Int32 × xM)) (s : Nat) (x1 : Option Nat) (x2 : Int32) (x3 : Int32) (x4 : Int32) (M : xM) : Option (Int32 × xM) :=
  if x2 < 5 then
    if x3 = 0 then
      x1.bind fun a_1 =>
      (F_X10_next fu a_1 M).bind fun p_2 =>
      if x4 = 0 then
        (F_X8_readAll fu r s x1 (x2 + 1) p_2).bind fun p_3 =>
        if ¬ p_3.1 = 0 then
          x1.bind fun a_4 =>
          (F_X10_isSign fu a_4 41 p_3.2).bind fun p_5 =>
          if ¬ p_5.1 = 0 then
            x1.bind fun a_6 =>
            (F_X10_next fu a_6 p_5.2).bind fun p_7 =>
            gd (xbool 1) (some (1, p_7))
          else
            x1.bind fun a_8 =>
            (F_X10_fail fu a_8 1 p_5.2).bind fun p_9 =>
            gd (xbool p_9.1) (some (p_9.1, p_9.2))
        else
          gd (xbool 0) (some (0, p_3.2))
      else
        (r s x1 (x2 + 1) p_2).bind fun p_10 =>
        (F_X8_emit fu s ((-5)) p_10.2).bind fun p_11 =>
        gd (xbool p_10.1) (some (p_10.1, p_11))
    else
      x1.bind fun a_12 =>
      if ¬ (gI M 10 a_12 2) = 2 then
        x1.bind fun a_13 =>
        (F_X8_emit fu s (18 - (gI M 10 a_13 3)) M).bind fun p_14 =>
        x1.bind fun a_15 =>
        (F_X10_next fu a_15 p_14).bind fun p_16 =>
        gd (xbool 1) (some (1, p_16))
      else
        x1.bind fun a_17 =>
        (F_X8_emit fu s (gI M 10 a_17 4) M).bind fun p_18 =>
        x1.bind fun a_19 =>
        (F_X10_next fu a_19 p_18).bind fun p_20 =>
        gd (xbool 1) (some (1, p_20))
  else
    x1.bind fun a_21 =>
    (F_X10_fail fu a_21 5 M).bind fun p_22 =>
    gd (xbool p_22.1) (some (p_22.1, p_22.2))
set_option maxRecDepth 100000 in
theorem q_X8_readPart_61 (fu : Nat) (r : Nat → Option Nat → Int32 → xM → Option (Int32 × xM)) (s : Nat) (x1 : Option Nat) (x2 : Int32) (x3 : Int32) (x4 : Int32) (M : xM) :
    xrun pX8_readPart flX8 koX8 nwX8 [(23, 3, 0, 0, w_X8_readAll fu r), (35, 1, 0, 0, w_X10_next fu), (38, 2, 0, 0, w_X8_emit fu), (45, 2, 0, 0, w_X10_isSign fu), (52, 3, 0, 0, w_X8_readPart r), (62, 2, 0, 0, w_X10_fail fu)] [] xrtZ 96 (xat 61 pX8_readPart) 0 0 [(0, .inr (.inr (8, some s))), (1, .inr (.inr (10, x1))), (2, .inl x2), (3, .inl x3), (4, .inl x4)] [] M = J_X8_readPart_61 fu r s x1 x2 x3 x4 M := rfl
def J_X8_readPart_35 (fu : Nat) (r : Nat → Option Nat → Int32 → xM → Option (Int32 × xM)) (s : Nat) (x1 : Option Nat) (x2 : Int32) (x3 : Int32) (y0 : Int32) (M : xM) : Option (Int32 × xM) :=
  if ¬ x3 = 0 then
    J_X8_readPart_61 fu r s x1 x2 x3 y0 M
  else
    if ¬ y0 = 0 then
      J_X8_readPart_61 fu r s x1 x2 x3 y0 M
    else
      x1.bind fun a_1 =>
      (F_X10_isSign fu a_1 40 M).bind fun p_2 =>
      if ¬ p_2.1 = 0 then
        J_X8_readPart_61 fu r s x1 x2 x3 y0 p_2.2
      else
        x1.bind fun a_3 =>
        (F_X10_fail fu a_3 1 p_2.2).bind fun p_4 =>
        gd (xbool p_4.1) (some (p_4.1, p_4.2))
set_option maxRecDepth 100000 in
theorem q_X8_readPart_35 (fu : Nat) (r : Nat → Option Nat → Int32 → xM → Option (Int32 × xM)) (s : Nat) (x1 : Option Nat) (x2 : Int32) (x3 : Int32) (y0 : Int32) (M : xM) :
    xrun pX8_readPart flX8 koX8 nwX8 [(45, 2, 0, 0, w_X10_isSign fu), (62, 2, 0, 0, w_X10_fail fu)] [(61, fun bc bs ls st M => xz bc bs (lR ls 0 8 fun o => o.bind fun s => lR ls 1 10 fun x1 => lI ls 2 fun x2 => lI ls 3 fun x3 => lI ls 4 fun x4 => xe st (J_X8_readPart_61 fu r s x1 x2 x3 x4 M)))] xrtZ 96 (xat 35 pX8_readPart) 0 0 [(0, .inr (.inr (8, some s))), (1, .inr (.inr (10, x1))), (2, .inl x2), (3, .inl x3)] [.inl y0] M = J_X8_readPart_35 fu r s x1 x2 x3 y0 M := rfl
def J_X8_readPart_20 (fu : Nat) (r : Nat → Option Nat → Int32 → xM → Option (Int32 × xM)) (s : Nat) (x1 : Option Nat) (x2 : Int32) (y0 : Int32) (M : xM) : Option (Int32 × xM) :=
  x1.bind fun a_1 =>
  if ¬ (gI M 10 a_1 3) = 16 then
    J_X8_readPart_35 fu r s x1 x2 y0 0 M
  else
    J_X8_readPart_35 fu r s x1 x2 y0 1 M
set_option maxRecDepth 100000 in
theorem q_X8_readPart_20 (fu : Nat) (r : Nat → Option Nat → Int32 → xM → Option (Int32 × xM)) (s : Nat) (x1 : Option Nat) (x2 : Int32) (y0 : Int32) (M : xM) :
    xrun pX8_readPart flX8 koX8 nwX8 [] [(35, fun bc bs ls st M => xz bc bs (lR ls 0 8 fun o => o.bind fun s => lR ls 1 10 fun x1 => lI ls 2 fun x2 => lI ls 3 fun x3 => pI st fun y0 st => xe st (J_X8_readPart_35 fu r s x1 x2 x3 y0 M)))] xrtZ 96 (xat 20 pX8_readPart) 0 0 [(0, .inr (.inr (8, some s))), (1, .inr (.inr (10, x1))), (2, .inl x2)] [.inl y0] M = J_X8_readPart_20 fu r s x1 x2 y0 M := rfl
def F_X8_readParto (fu : Nat) (r : Nat → Option Nat → Int32 → xM → Option (Int32 × xM)) (s : Nat) (x1 : Option Nat) (x2 : Int32) (M : xM) : Option (Int32 × xM) :=
  x1.bind fun a_1 =>
  if (gI M 10 a_1 2) = 2 then
    J_X8_readPart_20 fu r s x1 x2 1 M
  else
    x1.bind fun a_2 =>
    (F_X10_isFact fu a_2 M).bind fun p_3 =>
    if p_3.1 = 0 then
      J_X8_readPart_20 fu r s x1 x2 0 p_3.2
    else
      J_X8_readPart_20 fu r s x1 x2 1 p_3.2
set_option maxRecDepth 100000 in
theorem q_X8_readPart (fu : Nat) (r : Nat → Option Nat → Int32 → xM → Option (Int32 × xM)) (s : Nat) (x1 : Option Nat) (x2 : Int32) (M : xM) :
    xrun pX8_readPart flX8 koX8 nwX8 [(58, 1, 0, 0, w_X10_isFact fu)] [(20, fun bc bs ls st M => xz bc bs (lR ls 0 8 fun o => o.bind fun s => lR ls 1 10 fun x1 => lI ls 2 fun x2 => pI st fun y0 st => xe st (J_X8_readPart_20 fu r s x1 x2 y0 M)))] xrtZ 96 (xat 0 pX8_readPart) 0 0 [(0, .inr (.inr (8, some s))), (1, .inr (.inr (10, x1))), (2, .inl x2)] [] M = F_X8_readParto fu r s x1 x2 M := rfl
def F_X8_readPart (fu : Nat) : Nat → Nat → Option Nat → Int32 → xM → Option (Int32 × xM)
  | 0, _, _, _, _ => none
  | d + 1, s, x1, x2, M => F_X8_readParto fu (F_X8_readPart fu d) s x1 x2 M
def pX8_read : List xE := [(0, 0, 1, 0, 0, [], .aload_n 0),
  (0, 1, 1, 0, 0, [], .iconst 0),
  (0, 2, 3, 0, 0, [], .putfield 19),
  (0, 5, 1, 0, 0, [], .aload_n 0),
  (0, 6, 1, 0, 0, [], .aload_n 1),
  (0, 7, 1, 0, 0, [], .iconst 0),
  (0, 8, 3, 0, 0, [], .invokevirtual 23),
  (0, 11, 1, 0, 0, [], .ireturn)]
def F_X8_read (fu : Nat) (s : Nat) (x1 : Option Nat) (M : xM) : Option (Int32 × xM) :=
  let M_1 := sI M 8 s 3 0
  (F_X8_readAll fu (F_X8_readPart fu 16) s x1 0 M_1).bind fun p_2 =>
  gd (xbool p_2.1) (some (p_2.1, p_2.2))
set_option maxRecDepth 100000 in
theorem q_X8_read (fu : Nat) (s : Nat) (x1 : Option Nat) (M : xM) :
    xrun pX8_read flX8 koX8 nwX8 [(23, 3, 0, 0, w_X8_readAll fu (F_X8_readPart fu 16))] [] xrtZ 10 (xat 0 pX8_read) 0 0 [(0, .inr (.inr (8, some s))), (1, .inr (.inr (10, x1)))] [] M = F_X8_read fu s x1 M := rfl
def w_X8_read (fu : Nat) {ρ : Type} (as : List xV) (M : xM) (k : Option xV → xM → Option ρ) : Option ρ := pR 8 as fun o as => o.bind fun s => pR 10 as fun x1 as => xe as ((F_X8_read fu s x1 M).bind fun p => k (some (.inl p.1)) p.2)
def pX7_readLine : List xE := [(0, 0, 1, 0, 0, [], .aload_n 1),
  (0, 1, 3, 0, 0, [], .getfield 71),
  (0, 4, 1, 0, 0, [], .istore_n 2),
  (0, 5, 1, 0, 0, [], .iload_n 2),
  (0, 6, 1, 0, 3, [], .iconst 3),
  (0, 7, 3, 16, 0, [], .if_icmp .ne 9),
  (0, 10, 1, 0, 0, [], .aload_n 0),
  (0, 11, 1, 0, 0, [], .aload_n 1),
  (0, 12, 3, 0, 0, [], .invokevirtual 74),
  (0, 15, 1, 0, 0, [], .ireturn),
  (0, 16, 1, 0, 0, [], .iload_n 2),
  (0, 17, 3, 30, 0, [], .ifCond .lt 13),
  (0, 20, 1, 0, 0, [], .iload_n 2),
  (0, 21, 1, 0, 5, [], .iconst 5),
  (0, 22, 3, 30, 0, [], .if_icmp .gt 8),
  (0, 25, 1, 0, 0, [], .iload_n 2),
  (0, 26, 1, 0, 4, [], .iconst 4),
  (0, 27, 3, 36, 0, [], .if_icmp .ne 9),
  (0, 30, 1, 0, 0, [], .aload_n 1),
  (0, 31, 1, 0, 1, [], .iconst 1),
  (0, 32, 3, 0, 0, [], .invokevirtual 77),
  (0, 35, 1, 0, 0, [], .ireturn),
  (0, 36, 1, 0, 0, [], .aload_n 0),
  (0, 37, 3, 0, 0, [], .getfield 46),
  (0, 40, 1, 0, 1, [], .iconst 1),
  (0, 41, 1, 0, 0, [], .iload_n 2),
  (0, 42, 1, 0, 0, [], .ishl),
  (0, 43, 1, 0, 0, [], .iand),
  (0, 44, 3, 53, 0, [], .ifCond .eq 9),
  (0, 47, 1, 0, 0, [], .aload_n 1),
  (0, 48, 1, 0, 3, [], .iconst 3),
  (0, 49, 3, 0, 0, [], .invokevirtual 77),
  (0, 52, 1, 0, 0, [], .ireturn),
  (0, 53, 1, 0, 0, [], .aload_n 0),
  (0, 54, 1, 0, 0, [], .dup),
  (0, 55, 3, 0, 0, [], .getfield 46),
  (0, 58, 1, 0, 1, [], .iconst 1),
  (0, 59, 1, 0, 0, [], .iload_n 2),
  (0, 60, 1, 0, 0, [], .ishl),
  (0, 61, 1, 0, 0, [], .ior),
  (0, 62, 3, 0, 0, [], .putfield 46),
  (0, 65, 1, 0, 0, [], .aload_n 1),
  (0, 66, 3, 0, 0, [], .invokevirtual 80),
  (0, 69, 1, 0, 0, [], .iload_n 2),
  (0, 70, 26, 168, 0, [(0, 96), (1, 120), (2, 144)], .tableswitch 98 0 2 #[26, 50, 74]),
  (0, 96, 1, 0, 0, [], .aload_n 0),
  (0, 97, 1, 0, 0, [], .aload_n 1),
  (0, 98, 1, 0, 1, [], .iconst 1),
  (0, 99, 2, 0, 6, [], .bipush 6),
  (0, 101, 3, 0, 0, [], .invokevirtual 83),
  (0, 104, 3, 0, 0, [], .putfield 37),
  (0, 107, 1, 0, 0, [], .aload_n 0),
  (0, 108, 3, 0, 0, [], .getfield 37),
  (0, 111, 3, 118, 0, [], .ifCond .lt 7),
  (0, 114, 1, 0, 1, [], .iconst 1),
  (0, 115, 3, 119, 0, [], .goto 4),
  (0, 118, 1, 0, 0, [], .iconst 0),
  (0, 119, 1, 0, 0, [], .ireturn),
  (0, 120, 1, 0, 0, [], .aload_n 0),
  (0, 121, 1, 0, 0, [], .aload_n 1),
  (0, 122, 1, 0, 1, [], .iconst 1),
  (0, 123, 2, 0, 6, [], .bipush 6),
  (0, 125, 3, 0, 0, [], .invokevirtual 83),
  (0, 128, 3, 0, 0, [], .putfield 40),
  (0, 131, 1, 0, 0, [], .aload_n 0),
  (0, 132, 3, 0, 0, [], .getfield 40),
  (0, 135, 3, 142, 0, [], .ifCond .lt 7),
  (0, 138, 1, 0, 1, [], .iconst 1),
  (0, 139, 3, 143, 0, [], .goto 4),
  (0, 142, 1, 0, 0, [], .iconst 0),
  (0, 143, 1, 0, 0, [], .ireturn),
  (0, 144, 1, 0, 0, [], .aload_n 0),
  (0, 145, 1, 0, 0, [], .aload_n 1),
  (0, 146, 1, 0, 0, [], .iconst 0),
  (0, 147, 2, 0, 8, [], .bipush 8),
  (0, 149, 3, 0, 0, [], .invokevirtual 83),
  (0, 152, 3, 0, 0, [], .putfield 43),
  (0, 155, 1, 0, 0, [], .aload_n 0),
  (0, 156, 3, 0, 0, [], .getfield 43),
  (0, 159, 3, 166, 0, [], .ifCond .lt 7),
  (0, 162, 1, 0, 1, [], .iconst 1),
  (0, 163, 3, 167, 0, [], .goto 4),
  (0, 166, 1, 0, 0, [], .iconst 0),
  (0, 167, 1, 0, 0, [], .ireturn),
  (0, 168, 1, 0, 0, [], .aload_n 0),
  (0, 169, 3, 0, 0, [], .getfield 21),
  (0, 172, 1, 0, 0, [], .aload_n 1),
  (0, 173, 3, 0, 0, [], .invokevirtual 87),
  (0, 176, 1, 0, 0, [], .ireturn)]
def F_X7_readLine (fu : Nat) (s : Nat) (x1 : Option Nat) (M : xM) : Option (Int32 × xM) :=
  x1.bind fun a_1 =>
  let x2_2 : Int32 := gI M 10 a_1 3
  if ¬ x2_2 = 3 then
    if x2_2 < 0 then
      x1.bind fun a_3 =>
      (F_X10_fail fu a_3 1 M).bind fun p_4 =>
      gd (xbool p_4.1) (some (p_4.1, p_4.2))
    else
      if 5 < x2_2 then
        x1.bind fun a_5 =>
        (F_X10_fail fu a_5 1 M).bind fun p_6 =>
        gd (xbool p_6.1) (some (p_6.1, p_6.2))
      else
        if ¬ x2_2 = 4 then
          if ((gI M 7 s 8) &&& (1 <<< (x2_2 &&& 31))) = 0 then
            let M_7 := sI M 7 s 8 ((gI M 7 s 8) ||| (1 <<< (x2_2 &&& 31)))
            x1.bind fun a_8 =>
            (F_X10_next fu a_8 M_7).bind fun p_9 =>
            if x2_2 = 0 then
              x1.bind fun a_10 =>
              (F_X10_takeNumber fu a_10 1 6 p_9).bind fun p_11 =>
              let M_12 := sI p_11.2 7 s 0 p_11.1
              if (gI M_12 7 s 0) < 0 then
                gd (xbool 0) (some (0, M_12))
              else
                gd (xbool 1) (some (1, M_12))
            else
            if x2_2 = 1 then
              x1.bind fun a_13 =>
              (F_X10_takeNumber fu a_13 1 6 p_9).bind fun p_14 =>
              let M_15 := sI p_14.2 7 s 1 p_14.1
              if (gI M_15 7 s 1) < 0 then
                gd (xbool 0) (some (0, M_15))
              else
                gd (xbool 1) (some (1, M_15))
            else
            if x2_2 = 2 then
              x1.bind fun a_16 =>
              (F_X10_takeNumber fu a_16 0 8 p_9).bind fun p_17 =>
              let M_18 := sI p_17.2 7 s 2 p_17.1
              if (gI M_18 7 s 2) < 0 then
                gd (xbool 0) (some (0, M_18))
              else
                gd (xbool 1) (some (1, M_18))
            else
              (gR p_9 7 s 6).bind fun a_19 =>
              (F_X8_read fu a_19 x1 p_9).bind fun p_20 =>
              gd (xbool p_20.1) (some (p_20.1, p_20.2))
          else
            x1.bind fun a_21 =>
            (F_X10_fail fu a_21 3 M).bind fun p_22 =>
            gd (xbool p_22.1) (some (p_22.1, p_22.2))
        else
          x1.bind fun a_23 =>
          (F_X10_fail fu a_23 1 M).bind fun p_24 =>
          gd (xbool p_24.1) (some (p_24.1, p_24.2))
  else
    (F_X7_readFile fu s x1 M).bind fun p_25 =>
    gd (xbool p_25.1) (some (p_25.1, p_25.2))
set_option maxRecDepth 100000 in
theorem q_X7_readLine (fu : Nat) (s : Nat) (x1 : Option Nat) (M : xM) :
    xrun pX7_readLine flX7 koX7 nwX7 [(74, 2, 0, 0, w_X7_readFile fu), (77, 2, 0, 0, w_X10_fail fu), (80, 1, 0, 0, w_X10_next fu), (83, 3, 0, 0, w_X10_takeNumber fu), (87, 2, 0, 0, w_X8_read fu)] [] xrtZ 91 (xat 0 pX7_readLine) 0 0 [(0, .inr (.inr (7, some s))), (1, .inr (.inr (10, x1)))] [] M = F_X7_readLine fu s x1 M := rfl
def w_X7_readLine (fu : Nat) {ρ : Type} (as : List xV) (M : xM) (k : Option xV → xM → Option ρ) : Option ρ := pR 7 as fun o as => o.bind fun s => pR 10 as fun x1 as => xe as ((F_X7_readLine fu s x1 M).bind fun p => k (some (.inl p.1)) p.2)
def pX7_read : List xE := [(0, 0, 1, 0, 0, [], .aload_n 0),
  (0, 1, 3, 0, 0, [], .invokevirtual 52),
  (0, 4, 1, 0, 0, [], .aload_n 1),
  (0, 5, 3, 0, 0, [], .invokevirtual 55),
  (0, 8, 1, 0, 1, [], .iconst 1),
  (0, 9, 1, 0, 0, [], .istore_n 2),
  (0, 10, 1, 0, 0, [], .iconst 0),
  (0, 11, 1, 0, 0, [], .istore_n 3),
  (1, 12, 1, 0, 0, [], .iload_n 3),
  (0, 13, 3, 0, 1000, [], .sipush 1000),
  (0, 16, 3, 59, 0, [], .if_icmp .ge 43),
  (0, 19, 1, 0, 0, [], .iload_n 2),
  (0, 20, 3, 59, 0, [], .ifCond .eq 39),
  (0, 23, 1, 0, 0, [], .aload_n 1),
  (0, 24, 3, 0, 0, [], .getfield 60),
  (0, 27, 3, 59, 0, [], .ifCond .eq 32),
  (0, 30, 1, 0, 0, [], .aload_n 0),
  (0, 31, 1, 0, 0, [], .aload_n 1),
  (0, 32, 3, 0, 0, [], .invokevirtual 63),
  (0, 35, 3, 51, 0, [], .ifCond .eq 16),
  (0, 38, 1, 0, 0, [], .aload_n 1),
  (0, 39, 2, 0, 59, [], .bipush 59),
  (0, 41, 3, 0, 0, [], .invokevirtual 67),
  (0, 44, 3, 51, 0, [], .ifCond .eq 7),
  (0, 47, 1, 0, 1, [], .iconst 1),
  (0, 48, 3, 52, 0, [], .goto 4),
  (0, 51, 1, 0, 0, [], .iconst 0),
  (0, 52, 1, 0, 0, [], .istore_n 2),
  (0, 53, 3, 0, 1, [], .iinc 3 1),
  (0, 56, 3, 12, 0, [], .goto (-44)),
  (0, 59, 1, 0, 0, [], .iload_n 2),
  (0, 60, 1, 0, 0, [], .ireturn)]
def L_X7_read_12 (fu : Nat) : Nat → Nat → Option Nat → Int32 → Int32 → xM → Option (Int32 × xM)
  | 0, _, _, _, _, _ => none
  | n + 1, s, x1, x2, x3, M =>
    if 1000 ≤ x3 then
      gd (xbool x2) (some (x2, M))
    else
      if x2 = 0 then
        gd (xbool x2) (some (x2, M))
      else
        x1.bind fun a_1 =>
        if (gI M 10 a_1 2) = 0 then
          gd (xbool x2) (some (x2, M))
        else
          (F_X7_readLine fu s x1 M).bind fun p_2 =>
          if p_2.1 = 0 then
            L_X7_read_12 fu n s x1 0 (x3 + 1) p_2.2
          else
            x1.bind fun a_3 =>
            (F_X10_takeSign fu a_3 59 p_2.2).bind fun p_4 =>
            if p_4.1 = 0 then
              L_X7_read_12 fu n s x1 0 (x3 + 1) p_4.2
            else
              L_X7_read_12 fu n s x1 1 (x3 + 1) p_4.2
set_option maxRecDepth 100000 in
theorem q_X7_read_12 (fu : Nat) (n : Nat) (s : Nat) (x1 : Option Nat) (x2 : Int32) (x3 : Int32) (M : xM) :
    xrun pX7_read flX7 koX7 nwX7 [(63, 2, 0, 0, w_X7_readLine fu), (67, 2, 0, 0, w_X10_takeSign fu)] [(12, fun bc bs ls st M => xz bc bs (lR ls 0 7 fun o => o.bind fun s => lR ls 1 10 fun x1 => lI ls 2 fun x2 => lI ls 3 fun x3 => xe st (L_X7_read_12 fu n s x1 x2 x3 M)))] xrtZ 34 (xat 12 pX7_read) 0 0 [(0, .inr (.inr (7, some s))), (1, .inr (.inr (10, x1))), (2, .inl x2), (3, .inl x3)] [] M = L_X7_read_12 fu (n + 1) s x1 x2 x3 M := rfl
def F_X7_read (fu : Nat) (s : Nat) (x1 : Option Nat) (M : xM) : Option (Int32 × xM) :=
  (F_X7_clear fu s M).bind fun p_1 =>
  x1.bind fun a_2 =>
  (F_X10_begin fu a_2 p_1).bind fun p_3 =>
  L_X7_read_12 fu fu s x1 1 0 p_3
set_option maxRecDepth 100000 in
theorem q_X7_read (fu : Nat) (s : Nat) (x1 : Option Nat) (M : xM) :
    xrun pX7_read flX7 koX7 nwX7 [(52, 1, 0, 0, w_X7_clear fu), (55, 1, 0, 0, w_X10_begin fu)] [(12, fun bc bs ls st M => xz bc bs (lR ls 0 7 fun o => o.bind fun s => lR ls 1 10 fun x1 => lI ls 2 fun x2 => lI ls 3 fun x3 => xe st (L_X7_read_12 fu fu s x1 x2 x3 M)))] xrtZ 34 (xat 0 pX7_read) 0 0 [(0, .inr (.inr (7, some s))), (1, .inr (.inr (10, x1)))] [] M = F_X7_read fu s x1 M := rfl
def w_X7_read (fu : Nat) {ρ : Type} (as : List xV) (M : xM) (k : Option xV → xM → Option ρ) : Option ρ := pR 7 as fun o as => o.bind fun s => pR 10 as fun x1 as => xe as ((F_X7_read fu s x1 M).bind fun p => k (some (.inl p.1)) p.2)
def pX11_store : List xE := [(0, 0, 1, 0, 0, [], .aload_n 0),
  (0, 1, 3, 0, 0, [], .getfield 23),
  (0, 4, 1, 0, 0, [], .aload_n 0),
  (0, 5, 3, 0, 0, [], .getfield 10),
  (0, 8, 3, 0, 0, [], .invokevirtual 98),
  (0, 11, 1, 0, 0, [], .istore_n 1),
  (0, 12, 1, 0, 0, [], .iload_n 1),
  (0, 13, 3, 38, 0, [], .ifCond .eq 25),
  (0, 16, 1, 0, 0, [], .aload_n 0),
  (0, 17, 3, 0, 0, [], .getfield 19),
  (0, 20, 1, 0, 0, [], .astore_n 2),
  (0, 21, 1, 0, 0, [], .aload_n 0),
  (0, 22, 1, 0, 0, [], .aload_n 0),
  (0, 23, 3, 0, 0, [], .getfield 23),
  (0, 26, 3, 0, 0, [], .putfield 19),
  (0, 29, 1, 0, 0, [], .aload_n 0),
  (0, 30, 1, 0, 0, [], .aload_n 2),
  (0, 31, 3, 0, 0, [], .putfield 23),
  (0, 34, 1, 0, 0, [], .aload_n 0),
  (0, 35, 3, 0, 0, [], .invokevirtual 102),
  (0, 38, 1, 0, 0, [], .aload_n 0),
  (0, 39, 3, 0, 0, [], .getfield 10),
  (0, 42, 1, 0, 0, [], .iload_n 1),
  (0, 43, 3, 0, 0, [], .invokevirtual 105),
  (0, 46, 1, 0, 0, [], .ireturn)]
def F_X11_store (fu : Nat) (s : Nat) (M : xM) : Option (Int32 × xM) :=
  (gR M 11 s 2).bind fun a_1 =>
  (F_X7_read fu a_1 (gR M 11 s 0) M).bind fun p_2 =>
  if p_2.1 = 0 then
    (gR p_2.2 11 s 0).bind fun a_3 =>
    (F_X10_taken fu a_3 p_2.1 p_2.2).bind fun p_4 =>
    (some (p_4.1, p_4.2))
  else
    let M_5 := sR p_2.2 11 s 1 (gR p_2.2 11 s 2)
    let M_6 := sR M_5 11 s 2 (gR p_2.2 11 s 1)
    (F_X11_startAnew fu s M_6).bind fun p_7 =>
    (gR p_7 11 s 0).bind fun a_8 =>
    (F_X10_taken fu a_8 p_2.1 p_7).bind fun p_9 =>
    (some (p_9.1, p_9.2))
set_option maxRecDepth 100000 in
theorem q_X11_store (fu : Nat) (s : Nat) (M : xM) :
    xrun pX11_store flX11 koX11 nwX11 [(98, 2, 0, 0, w_X7_read fu), (102, 1, 0, 0, w_X11_startAnew fu), (105, 2, 0, 0, w_X10_taken fu)] [] xrtI 27 (xat 0 pX11_store) 0 0 [(0, .inr (.inr (11, some s)))] [] M = F_X11_store fu s M := rfl
def w_X11_store (fu : Nat) {ρ : Type} (as : List xV) (M : xM) (k : Option xV → xM → Option ρ) : Option ρ := pR 11 as fun o as => o.bind fun s => xe as ((F_X11_store fu s M).bind fun p => k (some (.inl p.1)) p.2)
def pX11_wear : List xE := [(0, 0, 1, 0, 0, [], .aload_n 0),
  (0, 1, 3, 0, 0, [], .getfield 48),
  (0, 4, 3, 0, 0, [], .getfield 123),
  (0, 7, 3, 0, 0, [], .invokevirtual 266),
  (0, 10, 1, 0, 0, [], .ireturn)]
def F_X11_wear (fu : Nat) (s : Nat) (M : xM) : Option (Int32 × xM) :=
  (gR M 11 s 6).bind fun a_1 =>
  (gR M 2 a_1 0).bind fun a_2 =>
  (F_X0_spreadOfErasures fu a_2 M).bind fun p_3 =>
  (some (p_3.1, p_3.2))
set_option maxRecDepth 100000 in
theorem q_X11_wear (fu : Nat) (s : Nat) (M : xM) :
    xrun pX11_wear flX11 koX11 nwX11 [(266, 1, 0, 0, w_X0_spreadOfErasures fu)] [] xrtI 7 (xat 0 pX11_wear) 0 0 [(0, .inr (.inr (11, some s)))] [] M = F_X11_wear fu s M := rfl
def w_X11_wear (fu : Nat) {ρ : Type} (as : List xV) (M : xM) (k : Option xV → xM → Option ρ) : Option ρ := pR 11 as fun o as => o.bind fun s => xe as ((F_X11_wear fu s M).bind fun p => k (some (.inl p.1)) p.2)
def pX9_readName : List xE := [(0, 0, 1, 0, 0, [], .aload_n 1),
  (0, 1, 3, 0, 0, [], .invokevirtual 64),
  (0, 4, 3, 13, 0, [], .ifCond .ne 9),
  (0, 7, 1, 0, 0, [], .aload_n 1),
  (0, 8, 1, 0, 1, [], .iconst 1),
  (0, 9, 3, 0, 0, [], .invokevirtual 50),
  (0, 12, 1, 0, 0, [], .ireturn),
  (0, 13, 1, 0, 0, [], .aload_n 2),
  (0, 14, 1, 0, 0, [], .aload_n 1),
  (0, 15, 3, 0, 0, [], .getfield 68),
  (0, 18, 3, 0, 0, [], .invokevirtual 72),
  (0, 21, 1, 0, 0, [], .istore_n 3),
  (0, 22, 1, 0, 0, [], .iload_n 3),
  (0, 23, 3, 32, 0, [], .ifCond .ge 9),
  (0, 26, 1, 0, 0, [], .aload_n 1),
  (0, 27, 1, 0, 2, [], .iconst 2),
  (0, 28, 3, 0, 0, [], .invokevirtual 50),
  (0, 31, 1, 0, 0, [], .ireturn),
  (0, 32, 1, 0, 0, [], .aload_n 0),
  (0, 33, 3, 0, 0, [], .getfield 15),
  (0, 36, 1, 0, 0, [], .aload_n 0),
  (0, 37, 3, 0, 0, [], .getfield 24),
  (0, 40, 1, 0, 0, [], .iload_n 3),
  (0, 41, 1, 0, 0, [], .iastore),
  (0, 42, 1, 0, 0, [], .aload_n 1),
  (0, 43, 3, 0, 0, [], .invokevirtual 54),
  (0, 46, 1, 0, 1, [], .iconst 1),
  (0, 47, 1, 0, 0, [], .ireturn)]
def F_X9_readName (fu : Nat) (s : Nat) (x1 : Option Nat) (x2 : Option Nat) (M : xM) : Option (Int32 × xM) :=
  x1.bind fun a_1 =>
  (F_X10_isName fu a_1 M).bind fun p_2 =>
  if ¬ p_2.1 = 0 then
    x1.bind fun a_3 =>
    x2.bind fun a_4 =>
    (F_X7_fileNamed fu a_4 (gL p_2.2 10 a_3 6) p_2.2).bind fun p_5 =>
    if 0 ≤ p_5.1 then
      (gR p_5.2 9 s 2).bind fun a_6 =>
      gd (xin (gI p_5.2 9 s 0) (gN p_5.2 20 a_6)) <|
      let M_7 := sI p_5.2 20 a_6 (xi (gI p_5.2 9 s 0)) p_5.1
      x1.bind fun a_8 =>
      (F_X10_next fu a_8 M_7).bind fun p_9 =>
      gd (xbool 1) (some (1, p_9))
    else
      x1.bind fun a_10 =>
      (F_X10_fail fu a_10 2 p_5.2).bind fun p_11 =>
      gd (xbool p_11.1) (some (p_11.1, p_11.2))
  else
    x1.bind fun a_12 =>
    (F_X10_fail fu a_12 1 p_2.2).bind fun p_13 =>
    gd (xbool p_13.1) (some (p_13.1, p_13.2))
set_option maxRecDepth 100000 in
theorem q_X9_readName (fu : Nat) (s : Nat) (x1 : Option Nat) (x2 : Option Nat) (M : xM) :
    xrun pX9_readName flX9 koX9 nwX9 [(50, 2, 0, 0, w_X10_fail fu), (54, 1, 0, 0, w_X10_next fu), (64, 1, 0, 0, w_X10_isName fu), (72, 2, 0, 0, w_X7_fileNamed fu)] [] xrtZ 30 (xat 0 pX9_readName) 0 0 [(0, .inr (.inr (9, some s))), (1, .inr (.inr (10, x1))), (2, .inr (.inr (7, x2)))] [] M = F_X9_readName fu s x1 x2 M := rfl
def w_X9_readName (fu : Nat) {ρ : Type} (as : List xV) (M : xM) (k : Option xV → xM → Option ρ) : Option ρ := pR 9 as fun o as => o.bind fun s => pR 10 as fun x1 as => pR 7 as fun x2 as => xe as ((F_X9_readName fu s x1 x2 M).bind fun p => k (some (.inl p.1)) p.2)
def pX9_readNumbers : List xE := [(0, 0, 1, 0, 0, [], .aload_n 1),
  (0, 1, 1, 0, 0, [], .iconst 0),
  (0, 2, 1, 0, 3, [], .iconst 3),
  (0, 3, 3, 0, 0, [], .invokevirtual 78),
  (0, 6, 1, 0, 0, [], .istore_n 2),
  (0, 7, 1, 0, 0, [], .iload_n 2),
  (0, 8, 3, 13, 0, [], .ifCond .ge 5),
  (0, 11, 1, 0, 0, [], .iconst 0),
  (0, 12, 1, 0, 0, [], .ireturn),
  (0, 13, 1, 0, 0, [], .aload_n 0),
  (0, 14, 3, 0, 0, [], .getfield 18),
  (0, 17, 1, 0, 0, [], .aload_n 0),
  (0, 18, 3, 0, 0, [], .getfield 24),
  (0, 21, 1, 0, 0, [], .iload_n 2),
  (0, 22, 1, 0, 0, [], .iastore),
  (0, 23, 1, 0, 0, [], .aload_n 1),
  (0, 24, 1, 0, 0, [], .iconst 0),
  (0, 25, 3, 0, 255, [], .sipush 255),
  (0, 28, 3, 0, 0, [], .invokevirtual 78),
  (0, 31, 1, 0, 0, [], .istore_n 3),
  (0, 32, 1, 0, 0, [], .iload_n 3),
  (0, 33, 3, 38, 0, [], .ifCond .ge 5),
  (0, 36, 1, 0, 0, [], .iconst 0),
  (0, 37, 1, 0, 0, [], .ireturn),
  (0, 38, 1, 0, 0, [], .aload_n 0),
  (0, 39, 3, 0, 0, [], .getfield 21),
  (0, 42, 1, 0, 0, [], .aload_n 0),
  (0, 43, 3, 0, 0, [], .getfield 24),
  (0, 46, 1, 0, 0, [], .iload_n 3),
  (0, 47, 1, 0, 0, [], .iastore),
  (0, 48, 1, 0, 1, [], .iconst 1),
  (0, 49, 1, 0, 0, [], .ireturn)]
def F_X9_readNumbers (fu : Nat) (s : Nat) (x1 : Option Nat) (M : xM) : Option (Int32 × xM) :=
  x1.bind fun a_1 =>
  (F_X10_takeNumber fu a_1 0 3 M).bind fun p_2 =>
  if 0 ≤ p_2.1 then
    (gR p_2.2 9 s 3).bind fun a_3 =>
    gd (xin (gI p_2.2 9 s 0) (gN p_2.2 20 a_3)) <|
    let M_4 := sI p_2.2 20 a_3 (xi (gI p_2.2 9 s 0)) p_2.1
    x1.bind fun a_5 =>
    (F_X10_takeNumber fu a_5 0 255 M_4).bind fun p_6 =>
    if 0 ≤ p_6.1 then
      (gR p_6.2 9 s 4).bind fun a_7 =>
      gd (xin (gI p_6.2 9 s 0) (gN p_6.2 20 a_7)) <|
      let M_8 := sI p_6.2 20 a_7 (xi (gI p_6.2 9 s 0)) p_6.1
      gd (xbool 1) (some (1, M_8))
    else
      gd (xbool 0) (some (0, p_6.2))
  else
    gd (xbool 0) (some (0, p_2.2))
set_option maxRecDepth 100000 in
theorem q_X9_readNumbers (fu : Nat) (s : Nat) (x1 : Option Nat) (M : xM) :
    xrun pX9_readNumbers flX9 koX9 nwX9 [(78, 3, 0, 0, w_X10_takeNumber fu)] [] xrtZ 34 (xat 0 pX9_readNumbers) 0 0 [(0, .inr (.inr (9, some s))), (1, .inr (.inr (10, x1)))] [] M = F_X9_readNumbers fu s x1 M := rfl
def w_X9_readNumbers (fu : Nat) {ρ : Type} (as : List xV) (M : xM) (k : Option xV → xM → Option ρ) : Option ρ := pR 9 as fun o as => o.bind fun s => pR 10 as fun x1 as => xe as ((F_X9_readNumbers fu s x1 M).bind fun p => k (some (.inl p.1)) p.2)
def pX9_readLine : List xE := [(0, 0, 1, 0, 0, [], .aload_n 1),
  (0, 1, 3, 0, 0, [], .getfield 47),
  (0, 4, 2, 0, 6, [], .bipush 6),
  (0, 6, 3, 18, 0, [], .if_icmp .lt 12),
  (0, 9, 1, 0, 0, [], .aload_n 1),
  (0, 10, 3, 0, 0, [], .getfield 47),
  (0, 13, 2, 0, 11, [], .bipush 11),
  (0, 15, 3, 24, 0, [], .if_icmp .le 9),
  (0, 18, 1, 0, 0, [], .aload_n 1),
  (0, 19, 1, 0, 1, [], .iconst 1),
  (0, 20, 3, 0, 0, [], .invokevirtual 50),
  (0, 23, 1, 0, 0, [], .ireturn),
  (0, 24, 1, 0, 0, [], .aload_n 0),
  (0, 25, 3, 0, 0, [], .getfield 24),
  (0, 28, 2, 0, 24, [], .bipush 24),
  (0, 30, 3, 39, 0, [], .if_icmp .lt 9),
  (0, 33, 1, 0, 0, [], .aload_n 1),
  (0, 34, 1, 0, 5, [], .iconst 5),
  (0, 35, 3, 0, 0, [], .invokevirtual 50),
  (0, 38, 1, 0, 0, [], .ireturn),
  (0, 39, 1, 0, 0, [], .aload_n 1),
  (0, 40, 3, 0, 0, [], .getfield 47),
  (0, 43, 2, 0, 6, [], .bipush 6),
  (0, 45, 1, 0, 0, [], .isub),
  (0, 46, 1, 0, 0, [], .istore_n 3),
  (0, 47, 1, 0, 0, [], .aload_n 0),
  (0, 48, 3, 0, 0, [], .getfield 11),
  (0, 51, 1, 0, 0, [], .aload_n 0),
  (0, 52, 3, 0, 0, [], .getfield 24),
  (0, 55, 1, 0, 0, [], .iload_n 3),
  (0, 56, 1, 0, 0, [], .iastore),
  (0, 57, 1, 0, 0, [], .aload_n 0),
  (0, 58, 3, 0, 0, [], .getfield 15),
  (0, 61, 1, 0, 0, [], .aload_n 0),
  (0, 62, 3, 0, 0, [], .getfield 24),
  (0, 65, 1, 0, 0, [], .iconst 0),
  (0, 66, 1, 0, 0, [], .iastore),
  (0, 67, 1, 0, 0, [], .aload_n 0),
  (0, 68, 3, 0, 0, [], .getfield 18),
  (0, 71, 1, 0, 0, [], .aload_n 0),
  (0, 72, 3, 0, 0, [], .getfield 24),
  (0, 75, 1, 0, 0, [], .iconst 0),
  (0, 76, 1, 0, 0, [], .iastore),
  (0, 77, 1, 0, 0, [], .aload_n 0),
  (0, 78, 3, 0, 0, [], .getfield 21),
  (0, 81, 1, 0, 0, [], .aload_n 0),
  (0, 82, 3, 0, 0, [], .getfield 24),
  (0, 85, 1, 0, 0, [], .iconst 0),
  (0, 86, 1, 0, 0, [], .iastore),
  (0, 87, 1, 0, 0, [], .aload_n 1),
  (0, 88, 3, 0, 0, [], .invokevirtual 54),
  (0, 91, 1, 0, 0, [], .iload_n 3),
  (0, 92, 1, 0, 3, [], .iconst 3),
  (0, 93, 3, 107, 0, [], .if_icmp .gt 14),
  (0, 96, 1, 0, 0, [], .aload_n 0),
  (0, 97, 1, 0, 0, [], .aload_n 1),
  (0, 98, 1, 0, 0, [], .aload_n 2),
  (0, 99, 3, 0, 0, [], .invokevirtual 57),
  (0, 102, 3, 107, 0, [], .ifCond .ne 5),
  (0, 105, 1, 0, 0, [], .iconst 0),
  (0, 106, 1, 0, 0, [], .ireturn),
  (1, 107, 1, 0, 0, [], .iload_n 3),
  (0, 108, 3, 121, 0, [], .ifCond .ne 13),
  (0, 111, 1, 0, 0, [], .aload_n 0),
  (0, 112, 1, 0, 0, [], .aload_n 1),
  (0, 113, 3, 0, 0, [], .invokevirtual 60),
  (0, 116, 3, 121, 0, [], .ifCond .ne 5),
  (0, 119, 1, 0, 0, [], .iconst 0),
  (0, 120, 1, 0, 0, [], .ireturn),
  (0, 121, 1, 0, 0, [], .aload_n 0),
  (0, 122, 1, 0, 0, [], .dup),
  (0, 123, 3, 0, 0, [], .getfield 24),
  (0, 126, 1, 0, 1, [], .iconst 1),
  (0, 127, 1, 0, 0, [], .iadd),
  (0, 128, 3, 0, 0, [], .putfield 24),
  (0, 131, 1, 0, 1, [], .iconst 1),
  (0, 132, 1, 0, 0, [], .ireturn)]
def J_X9_readLine_107 (fu : Nat) (s : Nat) (x1 : Option Nat) (x3 : Int32) (M : xM) : Option (Int32 × xM) :=
  if ¬ x3 = 0 then
    let M_1 := sI M 9 s 0 ((gI M 9 s 0) + 1)
    gd (xbool 1) (some (1, M_1))
  else
    (F_X9_readNumbers fu s x1 M).bind fun p_2 =>
    if ¬ p_2.1 = 0 then
      let M_3 := sI p_2.2 9 s 0 ((gI p_2.2 9 s 0) + 1)
      gd (xbool 1) (some (1, M_3))
    else
      gd (xbool 0) (some (0, p_2.2))
set_option maxRecDepth 100000 in
theorem q_X9_readLine_107 (fu : Nat) (s : Nat) (x1 : Option Nat) (x3 : Int32) (M : xM) :
    xrun pX9_readLine flX9 koX9 nwX9 [(60, 2, 0, 0, w_X9_readNumbers fu)] [] xrtZ 79 (xat 107 pX9_readLine) 0 0 [(0, .inr (.inr (9, some s))), (1, .inr (.inr (10, x1))), (3, .inl x3)] [] M = J_X9_readLine_107 fu s x1 x3 M := rfl
def F_X9_readLine (fu : Nat) (s : Nat) (x1 : Option Nat) (x2 : Option Nat) (M : xM) : Option (Int32 × xM) :=
  x1.bind fun a_1 =>
  if (gI M 10 a_1 3) < 6 then
    x1.bind fun a_2 =>
    (F_X10_fail fu a_2 1 M).bind fun p_3 =>
    gd (xbool p_3.1) (some (p_3.1, p_3.2))
  else
    x1.bind fun a_4 =>
    if (gI M 10 a_4 3) ≤ 11 then
      if (gI M 9 s 0) < 24 then
        x1.bind fun a_5 =>
        let x3_6 : Int32 := (gI M 10 a_5 3) - 6
        (gR M 9 s 1).bind fun a_7 =>
        gd (xin (gI M 9 s 0) (gN M 20 a_7)) <|
        let M_8 := sI M 20 a_7 (xi (gI M 9 s 0)) x3_6
        (gR M_8 9 s 2).bind fun a_9 =>
        gd (xin (gI M_8 9 s 0) (gN M_8 20 a_9)) <|
        let M_10 := sI M_8 20 a_9 (xi (gI M_8 9 s 0)) 0
        (gR M_10 9 s 3).bind fun a_11 =>
        gd (xin (gI M_10 9 s 0) (gN M_10 20 a_11)) <|
        let M_12 := sI M_10 20 a_11 (xi (gI M_10 9 s 0)) 0
        (gR M_12 9 s 4).bind fun a_13 =>
        gd (xin (gI M_12 9 s 0) (gN M_12 20 a_13)) <|
        let M_14 := sI M_12 20 a_13 (xi (gI M_12 9 s 0)) 0
        x1.bind fun a_15 =>
        (F_X10_next fu a_15 M_14).bind fun p_16 =>
        if 3 < x3_6 then
          J_X9_readLine_107 fu s x1 x3_6 p_16
        else
          (F_X9_readName fu s x1 x2 p_16).bind fun p_17 =>
          if ¬ p_17.1 = 0 then
            J_X9_readLine_107 fu s x1 x3_6 p_17.2
          else
            gd (xbool 0) (some (0, p_17.2))
      else
        x1.bind fun a_18 =>
        (F_X10_fail fu a_18 5 M).bind fun p_19 =>
        gd (xbool p_19.1) (some (p_19.1, p_19.2))
    else
      x1.bind fun a_20 =>
      (F_X10_fail fu a_20 1 M).bind fun p_21 =>
      gd (xbool p_21.1) (some (p_21.1, p_21.2))
set_option maxRecDepth 100000 in
theorem q_X9_readLine (fu : Nat) (s : Nat) (x1 : Option Nat) (x2 : Option Nat) (M : xM) :
    xrun pX9_readLine flX9 koX9 nwX9 [(50, 2, 0, 0, w_X10_fail fu), (54, 1, 0, 0, w_X10_next fu), (57, 3, 0, 0, w_X9_readName fu)] [(107, fun bc bs ls st M => xz bc bs (lR ls 0 9 fun o => o.bind fun s => lR ls 1 10 fun x1 => lI ls 3 fun x3 => xe st (J_X9_readLine_107 fu s x1 x3 M)))] xrtZ 79 (xat 0 pX9_readLine) 0 0 [(0, .inr (.inr (9, some s))), (1, .inr (.inr (10, x1))), (2, .inr (.inr (7, x2)))] [] M = F_X9_readLine fu s x1 x2 M := rfl
def w_X9_readLine (fu : Nat) {ρ : Type} (as : List xV) (M : xM) (k : Option xV → xM → Option ρ) : Option ρ := pR 9 as fun o as => o.bind fun s => pR 10 as fun x1 as => pR 7 as fun x2 as => xe as ((F_X9_readLine fu s x1 x2 M).bind fun p => k (some (.inl p.1)) p.2)
def pX9_read : List xE := [(0, 0, 1, 0, 0, [], .aload_n 0),
  (0, 1, 3, 0, 0, [], .invokevirtual 28),
  (0, 4, 1, 0, 0, [], .aload_n 1),
  (0, 5, 3, 0, 0, [], .invokevirtual 31),
  (0, 8, 1, 0, 1, [], .iconst 1),
  (0, 9, 1, 0, 0, [], .istore_n 3),
  (0, 10, 1, 0, 0, [], .iconst 0),
  (0, 11, 2, 0, 0, [], .istore 4),
  (1, 13, 2, 0, 0, [], .iload 4),
  (0, 15, 2, 0, 24, [], .bipush 24),
  (0, 17, 3, 61, 0, [], .if_icmp .gt 44),
  (0, 20, 1, 0, 0, [], .iload_n 3),
  (0, 21, 3, 61, 0, [], .ifCond .eq 40),
  (0, 24, 1, 0, 0, [], .aload_n 1),
  (0, 25, 3, 0, 0, [], .getfield 36),
  (0, 28, 3, 61, 0, [], .ifCond .eq 33),
  (0, 31, 1, 0, 0, [], .aload_n 0),
  (0, 32, 1, 0, 0, [], .aload_n 1),
  (0, 33, 1, 0, 0, [], .aload_n 2),
  (0, 34, 3, 0, 0, [], .invokevirtual 39),
  (0, 37, 3, 53, 0, [], .ifCond .eq 16),
  (0, 40, 1, 0, 0, [], .aload_n 1),
  (0, 41, 2, 0, 59, [], .bipush 59),
  (0, 43, 3, 0, 0, [], .invokevirtual 43),
  (0, 46, 3, 53, 0, [], .ifCond .eq 7),
  (0, 49, 1, 0, 1, [], .iconst 1),
  (0, 50, 3, 54, 0, [], .goto 4),
  (0, 53, 1, 0, 0, [], .iconst 0),
  (0, 54, 1, 0, 0, [], .istore_n 3),
  (0, 55, 3, 0, 1, [], .iinc 4 1),
  (0, 58, 3, 13, 0, [], .goto (-45)),
  (0, 61, 1, 0, 0, [], .iload_n 3),
  (0, 62, 1, 0, 0, [], .ireturn)]
def L_X9_read_13 (fu : Nat) : Nat → Nat → Option Nat → Option Nat → Int32 → Int32 → xM → Option (Int32 × xM)
  | 0, _, _, _, _, _, _ => none
  | n + 1, s, x1, x2, x3, x4, M =>
    if 24 < x4 then
      gd (xbool x3) (some (x3, M))
    else
      if x3 = 0 then
        gd (xbool x3) (some (x3, M))
      else
        x1.bind fun a_1 =>
        if (gI M 10 a_1 2) = 0 then
          gd (xbool x3) (some (x3, M))
        else
          (F_X9_readLine fu s x1 x2 M).bind fun p_2 =>
          if p_2.1 = 0 then
            L_X9_read_13 fu n s x1 x2 0 (x4 + 1) p_2.2
          else
            x1.bind fun a_3 =>
            (F_X10_takeSign fu a_3 59 p_2.2).bind fun p_4 =>
            if p_4.1 = 0 then
              L_X9_read_13 fu n s x1 x2 0 (x4 + 1) p_4.2
            else
              L_X9_read_13 fu n s x1 x2 1 (x4 + 1) p_4.2
set_option maxRecDepth 100000 in
theorem q_X9_read_13 (fu : Nat) (n : Nat) (s : Nat) (x1 : Option Nat) (x2 : Option Nat) (x3 : Int32) (x4 : Int32) (M : xM) :
    xrun pX9_read flX9 koX9 nwX9 [(39, 3, 0, 0, w_X9_readLine fu), (43, 2, 0, 0, w_X10_takeSign fu)] [(13, fun bc bs ls st M => xz bc bs (lR ls 0 9 fun o => o.bind fun s => lR ls 1 10 fun x1 => lR ls 2 7 fun x2 => lI ls 3 fun x3 => lI ls 4 fun x4 => xe st (L_X9_read_13 fu n s x1 x2 x3 x4 M)))] xrtZ 35 (xat 13 pX9_read) 0 0 [(0, .inr (.inr (9, some s))), (1, .inr (.inr (10, x1))), (2, .inr (.inr (7, x2))), (3, .inl x3), (4, .inl x4)] [] M = L_X9_read_13 fu (n + 1) s x1 x2 x3 x4 M := rfl
def F_X9_read (fu : Nat) (s : Nat) (x1 : Option Nat) (x2 : Option Nat) (M : xM) : Option (Int32 × xM) :=
  (F_X9_clear fu s M).bind fun p_1 =>
  x1.bind fun a_2 =>
  (F_X10_begin fu a_2 p_1).bind fun p_3 =>
  L_X9_read_13 fu fu s x1 x2 1 0 p_3
set_option maxRecDepth 100000 in
theorem q_X9_read (fu : Nat) (s : Nat) (x1 : Option Nat) (x2 : Option Nat) (M : xM) :
    xrun pX9_read flX9 koX9 nwX9 [(28, 1, 0, 0, w_X9_clear fu), (31, 1, 0, 0, w_X10_begin fu)] [(13, fun bc bs ls st M => xz bc bs (lR ls 0 9 fun o => o.bind fun s => lR ls 1 10 fun x1 => lR ls 2 7 fun x2 => lI ls 3 fun x3 => lI ls 4 fun x4 => xe st (L_X9_read_13 fu fu s x1 x2 x3 x4 M)))] xrtZ 35 (xat 0 pX9_read) 0 0 [(0, .inr (.inr (9, some s))), (1, .inr (.inr (10, x1))), (2, .inr (.inr (7, x2)))] [] M = F_X9_read fu s x1 x2 M := rfl
def w_X9_read (fu : Nat) {ρ : Type} (as : List xV) (M : xM) (k : Option xV → xM → Option ρ) : Option ρ := pR 9 as fun o as => o.bind fun s => pR 10 as fun x1 as => pR 7 as fun x2 as => xe as ((F_X9_read fu s x1 x2 M).bind fun p => k (some (.inl p.1)) p.2)
def pX11_work : List xE := [(0, 0, 1, 0, 0, [], .aload_n 0),
  (0, 1, 3, 0, 0, [], .getfield 33),
  (0, 4, 1, 0, 0, [], .aload_n 0),
  (0, 5, 3, 0, 0, [], .getfield 10),
  (0, 8, 1, 0, 0, [], .aload_n 0),
  (0, 9, 3, 0, 0, [], .getfield 19),
  (0, 12, 3, 0, 0, [], .invokevirtual 120),
  (0, 15, 1, 0, 0, [], .istore_n 1),
  (0, 16, 1, 0, 0, [], .iload_n 1),
  (0, 17, 3, 45, 0, [], .ifCond .eq 28),
  (0, 20, 1, 0, 0, [], .aload_n 0),
  (0, 21, 3, 0, 0, [], .getfield 29),
  (0, 24, 1, 0, 0, [], .astore_n 2),
  (0, 25, 1, 0, 0, [], .aload_n 0),
  (0, 26, 1, 0, 0, [], .aload_n 0),
  (0, 27, 3, 0, 0, [], .getfield 33),
  (0, 30, 3, 0, 0, [], .putfield 29),
  (0, 33, 1, 0, 0, [], .aload_n 0),
  (0, 34, 1, 0, 0, [], .aload_n 2),
  (0, 35, 3, 0, 0, [], .putfield 33),
  (0, 38, 1, 0, 0, [], .aload_n 0),
  (0, 39, 3, 0, 0, [], .getfield 67),
  (0, 42, 3, 0, 0, [], .invokevirtual 117),
  (0, 45, 1, 0, 0, [], .aload_n 0),
  (0, 46, 3, 0, 0, [], .getfield 10),
  (0, 49, 1, 0, 0, [], .iload_n 1),
  (0, 50, 3, 0, 0, [], .invokevirtual 105),
  (0, 53, 1, 0, 0, [], .ireturn)]
def F_X11_work (fu : Nat) (s : Nat) (M : xM) : Option (Int32 × xM) :=
  (gR M 11 s 4).bind fun a_1 =>
  (F_X9_read fu a_1 (gR M 11 s 0) (gR M 11 s 1) M).bind fun p_2 =>
  if p_2.1 = 0 then
    (gR p_2.2 11 s 0).bind fun a_3 =>
    (F_X10_taken fu a_3 p_2.1 p_2.2).bind fun p_4 =>
    (some (p_4.1, p_4.2))
  else
    let M_5 := sR p_2.2 11 s 3 (gR p_2.2 11 s 4)
    let M_6 := sR M_5 11 s 4 (gR p_2.2 11 s 3)
    (gR M_6 11 s 9).bind fun a_7 =>
    (F_X5_forget fu a_7 M_6).bind fun p_8 =>
    (gR p_8 11 s 0).bind fun a_9 =>
    (F_X10_taken fu a_9 p_2.1 p_8).bind fun p_10 =>
    (some (p_10.1, p_10.2))
set_option maxRecDepth 100000 in
theorem q_X11_work (fu : Nat) (s : Nat) (M : xM) :
    xrun pX11_work flX11 koX11 nwX11 [(105, 2, 0, 0, w_X10_taken fu), (117, 1, 0, 0, w_X5_forget fu), (120, 3, 0, 0, w_X9_read fu)] [] xrtI 30 (xat 0 pX11_work) 0 0 [(0, .inr (.inr (11, some s)))] [] M = F_X11_work fu s M := rfl
def w_X11_work (fu : Nat) {ρ : Type} (as : List xV) (M : xM) (k : Option xV → xM → Option ρ) : Option ρ := pR 11 as fun o as => o.bind fun s => xe as ((F_X11_work fu s M).bind fun p => k (some (.inl p.1)) p.2)
def pX11_write : List xE := [(0, 0, 1, 0, 0, [], .aload_n 0),
  (0, 1, 3, 0, 0, [], .getfield 48),
  (0, 4, 1, 0, 0, [], .iload_n 1),
  (0, 5, 1, 0, 0, [], .iload_n 2),
  (0, 6, 1, 0, 0, [], .iload_n 3),
  (0, 7, 3, 0, 0, [], .invokevirtual 181),
  (0, 10, 1, 0, 0, [], .ireturn)]
def F_X11_write (fu : Nat) (s : Nat) (x1 : Int32) (x2 : Int32) (x3 : Int32) (M : xM) : Option (Int32 × xM) :=
  (gR M 11 s 6).bind fun a_1 =>
  (F_X2_writePage fu a_1 x1 x2 x3 M).bind fun p_2 =>
  (some (p_2.1, p_2.2))
set_option maxRecDepth 100000 in
theorem q_X11_write (fu : Nat) (s : Nat) (x1 : Int32) (x2 : Int32) (x3 : Int32) (M : xM) :
    xrun pX11_write flX11 koX11 nwX11 [(181, 4, 0, 0, w_X2_writePage fu)] [] xrtI 9 (xat 0 pX11_write) 0 0 [(0, .inr (.inr (11, some s))), (1, .inl x1), (2, .inl x2), (3, .inl x3)] [] M = F_X11_write fu s x1 x2 x3 M := rfl
def w_X11_write (fu : Nat) {ρ : Type} (as : List xV) (M : xM) (k : Option xV → xM → Option ρ) : Option ρ := pR 11 as fun o as => o.bind fun s => pI as fun x1 as => pI as fun x2 as => pI as fun x3 as => xe as ((F_X11_write fu s x1 x2 x3 M).bind fun p => k (some (.inl p.1)) p.2)
