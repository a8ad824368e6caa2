def pX12_within : List xE := [(0, 0, 1, 0, 0, [], .iload_n 0),
  (0, 1, 1, 0, 0, [], .iload_n 1),
  (0, 2, 3, 14, 0, [], .if_icmp .lt 12),
  (0, 5, 1, 0, 0, [], .iload_n 0),
  (0, 6, 1, 0, 0, [], .iload_n 2),
  (0, 7, 3, 14, 0, [], .if_icmp .gt 7),
  (0, 10, 1, 0, 1, [], .iconst 1),
  (0, 11, 3, 15, 0, [], .goto 4),
  (0, 14, 1, 0, 0, [], .iconst 0),
  (0, 15, 1, 0, 0, [], .ireturn)]
def F_X12_within (fu : Nat) (x0 : Int32) (x1 : Int32) (x2 : Int32) (M : xM) : Option (Int32 × xM) :=
  if x0 < x1 then
    gd (xbool 0) (some (0, M))
  else
    if x2 < x0 then
      gd (xbool 0) (some (0, M))
    else
      gd (xbool 1) (some (1, M))
set_option maxRecDepth 100000 in
theorem q_X12_within (fu : Nat) (x0 : Int32) (x1 : Int32) (x2 : Int32) (M : xM) :
    xrun pX12_within flX12 koX12 nwX12 [] [] xrtZ 12 (xat 0 pX12_within) 0 0 [(0, .inl x0), (1, .inl x1), (2, .inl x2)] [] M = F_X12_within fu x0 x1 x2 M := rfl
def w_X12_within (fu : Nat) {ρ : Type} (as : List xV) (M : xM) (k : Option xV → xM → Option ρ) : Option ρ := pI as fun x0 as => pI as fun x1 as => pI as fun x2 as => xe as ((F_X12_within fu x0 x1 x2 M).bind fun p => k (some (.inl p.1)) p.2)
def pX12_files : List xE := [(0, 0, 1, 0, 0, [], .aload_n 0),
  (0, 1, 3, 0, 0, [], .getfield 83),
  (0, 4, 1, 0, 3, [], .iconst 3),
  (0, 5, 1, 0, 0, [], .iaload),
  (0, 6, 1, 0, 0, [], .ireturn)]
def F_X12_files (fu : Nat) (s : Nat) (M : xM) : Option (Int32 × xM) :=
  (gR M 12 s 10).bind fun a_1 =>
  gd (xin 3 (gN M 20 a_1)) <|
  (some (gI M 20 a_1 (xi 3), M))
set_option maxRecDepth 100000 in
theorem q_X12_files (fu : Nat) (s : Nat) (M : xM) :
    xrun pX12_files flX12 koX12 nwX12 [] [] xrtI 7 (xat 0 pX12_files) 0 0 [(0, .inr (.inr (12, some s)))] [] M = F_X12_files fu s M := rfl
def w_X12_files (fu : Nat) {ρ : Type} (as : List xV) (M : xM) (k : Option xV → xM → Option ρ) : Option ρ := pR 12 as fun o as => o.bind fun s => xe as ((F_X12_files fu s M).bind fun p => k (some (.inl p.1)) p.2)
def pX12_isFile : List xE := [(0, 0, 1, 0, 0, [], .iload_n 1),
  (0, 1, 3, 16, 0, [], .ifCond .lt 15),
  (0, 4, 1, 0, 0, [], .iload_n 1),
  (0, 5, 1, 0, 0, [], .aload_n 0),
  (0, 6, 3, 0, 0, [], .invokevirtual 223),
  (0, 9, 3, 16, 0, [], .if_icmp .ge 7),
  (0, 12, 1, 0, 1, [], .iconst 1),
  (0, 13, 3, 17, 0, [], .goto 4),
  (0, 16, 1, 0, 0, [], .iconst 0),
  (0, 17, 1, 0, 0, [], .ireturn)]
def F_X12_isFile (fu : Nat) (s : Nat) (x1 : Int32) (M : xM) : Option (Int32 × xM) :=
  if x1 < 0 then
    gd (xbool 0) (some (0, M))
  else
    (F_X12_files fu s M).bind fun p_1 =>
    if p_1.1 ≤ x1 then
      gd (xbool 0) (some (0, p_1.2))
    else
      gd (xbool 1) (some (1, p_1.2))
set_option maxRecDepth 100000 in
theorem q_X12_isFile (fu : Nat) (s : Nat) (x1 : Int32) (M : xM) :
    xrun pX12_isFile flX12 koX12 nwX12 [(223, 1, 0, 0, w_X12_files fu)] [] xrtZ 12 (xat 0 pX12_isFile) 0 0 [(0, .inr (.inr (12, some s))), (1, .inl x1)] [] M = F_X12_isFile fu s x1 M := rfl
def w_X12_isFile (fu : Nat) {ρ : Type} (as : List xV) (M : xM) (k : Option xV → xM → Option ρ) : Option ρ := pR 12 as fun o as => o.bind fun s => pI as fun x1 as => xe as ((F_X12_isFile fu s x1 M).bind fun p => k (some (.inl p.1)) p.2)
def pX12_pagesOf : List xE := [(0, 0, 1, 0, 0, [], .aload_n 0),
  (0, 1, 3, 0, 0, [], .getfield 83),
  (0, 4, 1, 0, 5, [], .iconst 5),
  (0, 5, 1, 0, 2, [], .iconst 2),
  (0, 6, 1, 0, 0, [], .iload_n 1),
  (0, 7, 1, 0, 0, [], .imul),
  (0, 8, 1, 0, 0, [], .iadd),
  (0, 9, 1, 0, 1, [], .iconst 1),
  (0, 10, 1, 0, 0, [], .iadd),
  (0, 11, 1, 0, 0, [], .iaload),
  (0, 12, 1, 0, 0, [], .ireturn)]
def F_X12_pagesOf (fu : Nat) (s : Nat) (x1 : Int32) (M : xM) : Option (Int32 × xM) :=
  (gR M 12 s 10).bind fun a_1 =>
  gd (xin ((5 + (2 * x1)) + 1) (gN M 20 a_1)) <|
  (some (gI M 20 a_1 (xi ((5 + (2 * x1)) + 1)), M))
set_option maxRecDepth 100000 in
theorem q_X12_pagesOf (fu : Nat) (s : Nat) (x1 : Int32) (M : xM) :
    xrun pX12_pagesOf flX12 koX12 nwX12 [] [] xrtI 13 (xat 0 pX12_pagesOf) 0 0 [(0, .inr (.inr (12, some s))), (1, .inl x1)] [] M = F_X12_pagesOf fu s x1 M := rfl
def w_X12_pagesOf (fu : Nat) {ρ : Type} (as : List xV) (M : xM) (k : Option xV → xM → Option ρ) : Option ρ := pR 12 as fun o as => o.bind fun s => pI as fun x1 as => xe as ((F_X12_pagesOf fu s x1 M).bind fun p => k (some (.inl p.1)) p.2)
def pX12_isPage : List xE := [(0, 0, 1, 0, 0, [], .aload_n 0),
  (0, 1, 1, 0, 0, [], .iload_n 1),
  (0, 2, 3, 0, 0, [], .invokevirtual 258),
  (0, 5, 3, 25, 0, [], .ifCond .eq 20),
  (0, 8, 1, 0, 0, [], .iload_n 2),
  (0, 9, 3, 25, 0, [], .ifCond .lt 16),
  (0, 12, 1, 0, 0, [], .iload_n 2),
  (0, 13, 1, 0, 0, [], .aload_n 0),
  (0, 14, 1, 0, 0, [], .iload_n 1),
  (0, 15, 3, 0, 0, [], .invokevirtual 261),
  (0, 18, 3, 25, 0, [], .if_icmp .ge 7),
  (0, 21, 1, 0, 1, [], .iconst 1),
  (0, 22, 3, 26, 0, [], .goto 4),
  (0, 25, 1, 0, 0, [], .iconst 0),
  (0, 26, 1, 0, 0, [], .ireturn)]
def F_X12_isPage (fu : Nat) (s : Nat) (x1 : Int32) (x2 : Int32) (M : xM) : Option (Int32 × xM) :=
  (F_X12_isFile fu s x1 M).bind fun p_1 =>
  if p_1.1 = 0 then
    gd (xbool 0) (some (0, p_1.2))
  else
    if x2 < 0 then
      gd (xbool 0) (some (0, p_1.2))
    else
      (F_X12_pagesOf fu s x1 p_1.2).bind fun p_2 =>
      if p_2.1 ≤ x2 then
        gd (xbool 0) (some (0, p_2.2))
      else
        gd (xbool 1) (some (1, p_2.2))
set_option maxRecDepth 100000 in
theorem q_X12_isPage (fu : Nat) (s : Nat) (x1 : Int32) (x2 : Int32) (M : xM) :
    xrun pX12_isPage flX12 koX12 nwX12 [(258, 2, 0, 0, w_X12_isFile fu), (261, 2, 0, 0, w_X12_pagesOf fu)] [] xrtZ 17 (xat 0 pX12_isPage) 0 0 [(0, .inr (.inr (12, some s))), (1, .inl x1), (2, .inl x2)] [] M = F_X12_isPage fu s x1 x2 M := rfl
def w_X12_isPage (fu : Nat) {ρ : Type} (as : List xV) (M : xM) (k : Option xV → xM → Option ρ) : Option ρ := pR 12 as fun o as => o.bind fun s => pI as fun x1 as => pI as fun x2 as => xe as ((F_X12_isPage fu s x1 x2 M).bind fun p => k (some (.inl p.1)) p.2)
def pX12_starts : List xE := [(0, 0, 1, 0, 0, [], .aload_n 0),
  (0, 1, 1, 0, (-1), [], .iconst (-1)),
  (0, 2, 3, 0, 0, [], .putfield 246),
  (0, 5, 1, 0, 0, [], .iconst 0),
  (0, 6, 1, 0, 0, [], .istore_n 2),
  (1, 7, 1, 0, 0, [], .iload_n 2),
  (0, 8, 3, 0, 502, [], .sipush 502),
  (0, 11, 3, 29, 0, [], .if_icmp .ge 18),
  (0, 14, 1, 0, 0, [], .aload_n 0),
  (0, 15, 3, 0, 0, [], .getfield 101),
  (0, 18, 1, 0, 0, [], .iload_n 1),
  (0, 19, 1, 0, 0, [], .iload_n 2),
  (0, 20, 1, 0, 0, [], .iadd),
  (0, 21, 1, 0, 0, [], .iconst 0),
  (0, 22, 1, 0, 0, [], .iastore),
  (0, 23, 3, 0, 1, [], .iinc 2 1),
  (0, 26, 3, 7, 0, [], .goto (-19)),
  (0, 29, 1, 0, 0, [], .aload_n 0),
  (0, 30, 3, 0, 0, [], .getfield 101),
  (0, 33, 1, 0, 0, [], .iload_n 1),
  (0, 34, 1, 0, 1, [], .iconst 1),
  (0, 35, 1, 0, 0, [], .iadd),
  (0, 36, 1, 0, (-1), [], .iconst (-1)),
  (0, 37, 1, 0, 0, [], .iastore),
  (0, 38, 1, 0, 0, [], .aload_n 0),
  (0, 39, 3, 0, 0, [], .getfield 101),
  (0, 42, 1, 0, 0, [], .iload_n 1),
  (0, 43, 1, 0, 2, [], .iconst 2),
  (0, 44, 1, 0, 0, [], .iadd),
  (0, 45, 1, 0, 1, [], .iconst 1),
  (0, 46, 1, 0, 0, [], .iastore),
  (0, 47, 1, 0, 0, [], .return_)]
def L_X12_starts_7 (fu : Nat) : Nat → Nat → Int32 → Int32 → xM → Option xM
  | 0, _, _, _, _ => none
  | n + 1, s, x1, x2, M =>
    if 502 ≤ x2 then
      (gR M 12 s 17).bind fun a_1 =>
      gd (xin (x1 + 1) (gN M 20 a_1)) <|
      let M_2 := sI M 20 a_1 (xi (x1 + 1)) ((-1))
      (gR M_2 12 s 17).bind fun a_3 =>
      gd (xin (x1 + 2) (gN M_2 20 a_3)) <|
      let M_4 := sI M_2 20 a_3 (xi (x1 + 2)) 1
      some M_4
    else
      (gR M 12 s 17).bind fun a_5 =>
      gd (xin (x1 + x2) (gN M 20 a_5)) <|
      let M_6 := sI M 20 a_5 (xi (x1 + x2)) 0
      L_X12_starts_7 fu n s x1 (x2 + 1) M_6
set_option maxRecDepth 100000 in
theorem q_X12_starts_7 (fu : Nat) (n : Nat) (s : Nat) (x1 : Int32) (x2 : Int32) (M : xM) :
    xrun pX12_starts flX12 koX12 nwX12 [] [(7, fun bc bs ls st M => xz bc bs (lR ls 0 12 fun o => o.bind fun s => lI ls 1 fun x1 => lI ls 2 fun x2 => xe st (L_X12_starts_7 fu n s x1 x2 M)))] xrtV 34 (xat 7 pX12_starts) 0 0 [(0, .inr (.inr (12, some s))), (1, .inl x1), (2, .inl x2)] [] M = L_X12_starts_7 fu (n + 1) s x1 x2 M := rfl
def F_X12_starts (fu : Nat) (s : Nat) (x1 : Int32) (M : xM) : Option xM :=
  let M_1 := sI M 12 s 22 ((-1))
  L_X12_starts_7 fu fu s x1 0 M_1
set_option maxRecDepth 100000 in
theorem q_X12_starts (fu : Nat) (s : Nat) (x1 : Int32) (M : xM) :
    xrun pX12_starts flX12 koX12 nwX12 [] [(7, fun bc bs ls st M => xz bc bs (lR ls 0 12 fun o => o.bind fun s => lI ls 1 fun x1 => lI ls 2 fun x2 => xe st (L_X12_starts_7 fu fu s x1 x2 M)))] xrtV 34 (xat 0 pX12_starts) 0 0 [(0, .inr (.inr (12, some s))), (1, .inl x1)] [] M = F_X12_starts fu s x1 M := rfl
def w_X12_starts (fu : Nat) {ρ : Type} (as : List xV) (M : xM) (k : Option xV → xM → Option ρ) : Option ρ := pR 12 as fun o as => o.bind fun s => pI as fun x1 as => xe as ((F_X12_starts fu s x1 M).bind fun p => k none p)
def pX12_moves : List xE := [(0, 0, 1, 0, 0, [], .aload_n 0),
  (0, 1, 1, 0, (-1), [], .iconst (-1)),
  (0, 2, 3, 0, 0, [], .putfield 246),
  (0, 5, 1, 0, 0, [], .iconst 0),
  (0, 6, 2, 0, 0, [], .istore 4),
  (1, 8, 2, 0, 0, [], .iload 4),
  (0, 10, 1, 0, 0, [], .iload_n 3),
  (0, 11, 3, 38, 0, [], .if_icmp .ge 27),
  (0, 14, 1, 0, 0, [], .aload_n 0),
  (0, 15, 3, 0, 0, [], .getfield 101),
  (0, 18, 1, 0, 0, [], .iload_n 2),
  (0, 19, 2, 0, 0, [], .iload 4),
  (0, 21, 1, 0, 0, [], .iadd),
  (0, 22, 1, 0, 0, [], .aload_n 0),
  (0, 23, 3, 0, 0, [], .getfield 101),
  (0, 26, 1, 0, 0, [], .iload_n 1),
  (0, 27, 2, 0, 0, [], .iload 4),
  (0, 29, 1, 0, 0, [], .iadd),
  (0, 30, 1, 0, 0, [], .iaload),
  (0, 31, 1, 0, 0, [], .iastore),
  (0, 32, 3, 0, 1, [], .iinc 4 1),
  (0, 35, 3, 8, 0, [], .goto (-27)),
  (0, 38, 1, 0, 0, [], .return_)]
def L_X12_moves_8 (fu : Nat) : Nat → Nat → Int32 → Int32 → Int32 → Int32 → xM → Option xM
  | 0, _, _, _, _, _, _ => none
  | n + 1, s, x1, x2, x3, x4, M =>
    if x3 ≤ x4 then
      some M
    else
      (gR M 12 s 17).bind fun a_1 =>
      gd (xin (x1 + x4) (gN M 20 a_1)) <|
      (gR M 12 s 17).bind fun a_2 =>
      gd (xin (x2 + x4) (gN M 20 a_2)) <|
      let M_3 := sI M 20 a_2 (xi (x2 + x4)) (gI M 20 a_1 (xi (x1 + x4)))
      L_X12_moves_8 fu n s x1 x2 x3 (x4 + 1) M_3
set_option maxRecDepth 100000 in
theorem q_X12_moves_8 (fu : Nat) (n : Nat) (s : Nat) (x1 : Int32) (x2 : Int32) (x3 : Int32) (x4 : Int32) (M : xM) :
    xrun pX12_moves flX12 koX12 nwX12 [] [(8, fun bc bs ls st M => xz bc bs (lR ls 0 12 fun o => o.bind fun s => lI ls 1 fun x1 => lI ls 2 fun x2 => lI ls 3 fun x3 => lI ls 4 fun x4 => xe st (L_X12_moves_8 fu n s x1 x2 x3 x4 M)))] xrtV 25 (xat 8 pX12_moves) 0 0 [(0, .inr (.inr (12, some s))), (1, .inl x1), (2, .inl x2), (3, .inl x3), (4, .inl x4)] [] M = L_X12_moves_8 fu (n + 1) s x1 x2 x3 x4 M := rfl
def F_X12_moves (fu : Nat) (s : Nat) (x1 : Int32) (x2 : Int32) (x3 : Int32) (M : xM) : Option xM :=
  let M_1 := sI M 12 s 22 ((-1))
  L_X12_moves_8 fu fu s x1 x2 x3 0 M_1
set_option maxRecDepth 100000 in
theorem q_X12_moves (fu : Nat) (s : Nat) (x1 : Int32) (x2 : Int32) (x3 : Int32) (M : xM) :
    xrun pX12_moves flX12 koX12 nwX12 [] [(8, fun bc bs ls st M => xz bc bs (lR ls 0 12 fun o => o.bind fun s => lI ls 1 fun x1 => lI ls 2 fun x2 => lI ls 3 fun x3 => lI ls 4 fun x4 => xe st (L_X12_moves_8 fu fu s x1 x2 x3 x4 M)))] xrtV 25 (xat 0 pX12_moves) 0 0 [(0, .inr (.inr (12, some s))), (1, .inl x1), (2, .inl x2), (3, .inl x3)] [] M = F_X12_moves fu s x1 x2 x3 M := rfl
def w_X12_moves (fu : Nat) {ρ : Type} (as : List xV) (M : xM) (k : Option xV → xM → Option ρ) : Option ρ := pR 12 as fun o as => o.bind fun s => pI as fun x1 as => pI as fun x2 as => pI as fun x3 as => xe as ((F_X12_moves fu s x1 x2 x3 M).bind fun p => k none p)
def pX12_powersOff : List xE := [(0, 0, 1, 0, 0, [], .iconst 0),
  (0, 1, 1, 0, 0, [], .istore_n 2),
  (1, 2, 1, 0, 0, [], .iload_n 2),
  (0, 3, 2, 0, 20, [], .bipush 20),
  (0, 5, 3, 26, 0, [], .if_icmp .ge 21),
  (0, 8, 1, 0, 0, [], .aload_n 0),
  (0, 9, 3, 0, 0, [], .getfield 101),
  (0, 12, 1, 0, 0, [], .iload_n 1),
  (0, 13, 2, 0, 14, [], .bipush 14),
  (0, 15, 1, 0, 0, [], .iadd),
  (0, 16, 1, 0, 0, [], .iload_n 2),
  (0, 17, 1, 0, 0, [], .iadd),
  (0, 18, 1, 0, 0, [], .iconst 0),
  (0, 19, 1, 0, 0, [], .iastore),
  (0, 20, 3, 0, 1, [], .iinc 2 1),
  (0, 23, 3, 2, 0, [], .goto (-21)),
  (0, 26, 1, 0, 0, [], .aload_n 0),
  (0, 27, 3, 0, 0, [], .getfield 101),
  (0, 30, 1, 0, 0, [], .iload_n 1),
  (0, 31, 1, 0, 4, [], .iconst 4),
  (0, 32, 1, 0, 0, [], .iadd),
  (0, 33, 1, 0, 0, [], .iconst 0),
  (0, 34, 1, 0, 0, [], .iastore),
  (0, 35, 1, 0, 0, [], .aload_n 0),
  (0, 36, 3, 0, 0, [], .getfield 101),
  (0, 39, 1, 0, 0, [], .iload_n 1),
  (0, 40, 1, 0, 5, [], .iconst 5),
  (0, 41, 1, 0, 0, [], .iadd),
  (0, 42, 1, 0, 0, [], .iconst 0),
  (0, 43, 1, 0, 0, [], .iastore),
  (0, 44, 1, 0, 0, [], .aload_n 0),
  (0, 45, 3, 0, 0, [], .getfield 101),
  (0, 48, 1, 0, 0, [], .iload_n 1),
  (0, 49, 1, 0, 2, [], .iconst 2),
  (0, 50, 1, 0, 0, [], .iadd),
  (0, 51, 1, 0, 0, [], .iconst 0),
  (0, 52, 1, 0, 0, [], .iastore),
  (0, 53, 1, 0, 0, [], .aload_n 0),
  (0, 54, 3, 0, 0, [], .getfield 101),
  (0, 57, 1, 0, 0, [], .iload_n 1),
  (0, 58, 1, 0, 3, [], .iconst 3),
  (0, 59, 1, 0, 0, [], .iadd),
  (0, 60, 1, 0, 0, [], .iconst 0),
  (0, 61, 1, 0, 0, [], .iastore),
  (0, 62, 1, 0, 0, [], .return_)]
def L_X12_powersOff_2 (fu : Nat) : Nat → Nat → Int32 → Int32 → xM → Option xM
  | 0, _, _, _, _ => none
  | n + 1, s, x1, x2, M =>
    if 20 ≤ x2 then
      (gR M 12 s 17).bind fun a_1 =>
      gd (xin (x1 + 4) (gN M 20 a_1)) <|
      let M_2 := sI M 20 a_1 (xi (x1 + 4)) 0
      (gR M_2 12 s 17).bind fun a_3 =>
      gd (xin (x1 + 5) (gN M_2 20 a_3)) <|
      let M_4 := sI M_2 20 a_3 (xi (x1 + 5)) 0
      (gR M_4 12 s 17).bind fun a_5 =>
      gd (xin (x1 + 2) (gN M_4 20 a_5)) <|
      let M_6 := sI M_4 20 a_5 (xi (x1 + 2)) 0
      (gR M_6 12 s 17).bind fun a_7 =>
      gd (xin (x1 + 3) (gN M_6 20 a_7)) <|
      let M_8 := sI M_6 20 a_7 (xi (x1 + 3)) 0
      some M_8
    else
      (gR M 12 s 17).bind fun a_9 =>
      gd (xin ((x1 + 14) + x2) (gN M 20 a_9)) <|
      let M_10 := sI M 20 a_9 (xi ((x1 + 14) + x2)) 0
      L_X12_powersOff_2 fu n s x1 (x2 + 1) M_10
set_option maxRecDepth 100000 in
theorem q_X12_powersOff_2 (fu : Nat) (n : Nat) (s : Nat) (x1 : Int32) (x2 : Int32) (M : xM) :
    xrun pX12_powersOff flX12 koX12 nwX12 [] [(2, fun bc bs ls st M => xz bc bs (lR ls 0 12 fun o => o.bind fun s => lI ls 1 fun x1 => lI ls 2 fun x2 => xe st (L_X12_powersOff_2 fu n s x1 x2 M)))] xrtV 47 (xat 2 pX12_powersOff) 0 0 [(0, .inr (.inr (12, some s))), (1, .inl x1), (2, .inl x2)] [] M = L_X12_powersOff_2 fu (n + 1) s x1 x2 M := rfl
def F_X12_powersOff (fu : Nat) (s : Nat) (x1 : Int32) (M : xM) : Option xM :=
  L_X12_powersOff_2 fu fu s x1 0 M
set_option maxRecDepth 100000 in
theorem q_X12_powersOff (fu : Nat) (s : Nat) (x1 : Int32) (M : xM) :
    xrun pX12_powersOff flX12 koX12 nwX12 [] [(2, fun bc bs ls st M => xz bc bs (lR ls 0 12 fun o => o.bind fun s => lI ls 1 fun x1 => lI ls 2 fun x2 => xe st (L_X12_powersOff_2 fu fu s x1 x2 M)))] xrtV 47 (xat 0 pX12_powersOff) 0 0 [(0, .inr (.inr (12, some s))), (1, .inl x1)] [] M = F_X12_powersOff fu s x1 M := rfl
def w_X12_powersOff (fu : Nat) {ρ : Type} (as : List xV) (M : xM) (k : Option xV → xM → Option ρ) : Option ρ := pR 12 as fun o as => o.bind fun s => pI as fun x1 as => xe as ((F_X12_powersOff fu s x1 M).bind fun p => k none p)
def pX12_blocks : List xE := [(0, 0, 1, 0, 0, [], .aload_n 0),
  (0, 1, 3, 0, 0, [], .getfield 83),
  (0, 4, 1, 0, 0, [], .iconst 0),
  (0, 5, 1, 0, 0, [], .iaload),
  (0, 6, 1, 0, 0, [], .ireturn)]
def F_X12_blocks (fu : Nat) (s : Nat) (M : xM) : Option (Int32 × xM) :=
  (gR M 12 s 10).bind fun a_1 =>
  gd (xin 0 (gN M 20 a_1)) <|
  (some (gI M 20 a_1 (xi 0), M))
set_option maxRecDepth 100000 in
theorem q_X12_blocks (fu : Nat) (s : Nat) (M : xM) :
    xrun pX12_blocks flX12 koX12 nwX12 [] [] xrtI 7 (xat 0 pX12_blocks) 0 0 [(0, .inr (.inr (12, some s)))] [] M = F_X12_blocks fu s M := rfl
def w_X12_blocks (fu : Nat) {ρ : Type} (as : List xV) (M : xM) (k : Option xV → xM → Option ρ) : Option ρ := pR 12 as fun o as => o.bind fun s => xe as ((F_X12_blocks fu s M).bind fun p => k (some (.inl p.1)) p.2)
def pX12_wide : List xE := [(0, 0, 1, 0, 0, [], .aload_n 0),
  (0, 1, 3, 0, 0, [], .getfield 83),
  (0, 4, 1, 0, 1, [], .iconst 1),
  (0, 5, 1, 0, 0, [], .iaload),
  (0, 6, 1, 0, 0, [], .ireturn)]
def F_X12_wide (fu : Nat) (s : Nat) (M : xM) : Option (Int32 × xM) :=
  (gR M 12 s 10).bind fun a_1 =>
  gd (xin 1 (gN M 20 a_1)) <|
  (some (gI M 20 a_1 (xi 1), M))
set_option maxRecDepth 100000 in
theorem q_X12_wide (fu : Nat) (s : Nat) (M : xM) :
    xrun pX12_wide flX12 koX12 nwX12 [] [] xrtI 7 (xat 0 pX12_wide) 0 0 [(0, .inr (.inr (12, some s)))] [] M = F_X12_wide fu s M := rfl
def w_X12_wide (fu : Nat) {ρ : Type} (as : List xV) (M : xM) (k : Option xV → xM → Option ρ) : Option ρ := pR 12 as fun o as => o.bind fun s => xe as ((F_X12_wide fu s M).bind fun p => k (some (.inl p.1)) p.2)
def pX12_allSlots : List xE := [(0, 0, 1, 0, 0, [], .aload_n 0),
  (0, 1, 3, 0, 0, [], .invokevirtual 252),
  (0, 4, 1, 0, 0, [], .aload_n 0),
  (0, 5, 3, 0, 0, [], .invokevirtual 255),
  (0, 8, 1, 0, 0, [], .imul),
  (0, 9, 1, 0, 0, [], .ireturn)]
def F_X12_allSlots (fu : Nat) (s : Nat) (M : xM) : Option (Int32 × xM) :=
  (F_X12_blocks fu s M).bind fun p_1 =>
  (F_X12_wide fu s p_1.2).bind fun p_2 =>
  (some (p_1.1 * p_2.1, p_2.2))
set_option maxRecDepth 100000 in
theorem q_X12_allSlots (fu : Nat) (s : Nat) (M : xM) :
    xrun pX12_allSlots flX12 koX12 nwX12 [(252, 1, 0, 0, w_X12_blocks fu), (255, 1, 0, 0, w_X12_wide fu)] [] xrtI 8 (xat 0 pX12_allSlots) 0 0 [(0, .inr (.inr (12, some s)))] [] M = F_X12_allSlots fu s M := rfl
def w_X12_allSlots (fu : Nat) {ρ : Type} (as : List xV) (M : xM) (k : Option xV → xM → Option ρ) : Option ρ := pR 12 as fun o as => o.bind fun s => xe as ((F_X12_allSlots fu s M).bind fun p => k (some (.inl p.1)) p.2)
def pX12_slotAt : List xE := [(0, 0, 1, 0, 0, [], .iload_n 0),
  (0, 1, 2, 0, 34, [], .bipush 34),
  (0, 3, 1, 0, 0, [], .iadd),
  (0, 4, 2, 0, 13, [], .bipush 13),
  (0, 6, 1, 0, 0, [], .iload_n 1),
  (0, 7, 1, 0, 0, [], .imul),
  (0, 8, 1, 0, 0, [], .iadd),
  (0, 9, 1, 0, 0, [], .ireturn)]
def F_X12_slotAt (fu : Nat) (x0 : Int32) (x1 : Int32) (M : xM) : Option (Int32 × xM) :=
  (some ((x0 + 34) + (13 * x1), M))
set_option maxRecDepth 100000 in
theorem q_X12_slotAt (fu : Nat) (x0 : Int32) (x1 : Int32) (M : xM) :
    xrun pX12_slotAt flX12 koX12 nwX12 [] [] xrtI 10 (xat 0 pX12_slotAt) 0 0 [(0, .inl x0), (1, .inl x1)] [] M = F_X12_slotAt fu x0 x1 M := rfl
def w_X12_slotAt (fu : Nat) {ρ : Type} (as : List xV) (M : xM) (k : Option xV → xM → Option ρ) : Option ρ := pI as fun x0 as => pI as fun x1 as => xe as ((F_X12_slotAt fu x0 x1 M).bind fun p => k (some (.inl p.1)) p.2)
def pX12_hasPart : List xE := [(0, 0, 1, 0, 0, [], .iconst 0),
  (0, 1, 2, 0, 0, [], .istore 5),
  (0, 3, 1, 0, 0, [], .iconst 0),
  (0, 4, 2, 0, 0, [], .istore 6),
  (1, 6, 2, 0, 0, [], .iload 6),
  (0, 8, 1, 0, 0, [], .aload_n 0),
  (0, 9, 3, 0, 0, [], .invokevirtual 277),
  (0, 12, 3, 92, 0, [], .if_icmp .ge 80),
  (0, 15, 1, 0, 0, [], .iload_n 1),
  (0, 16, 2, 0, 0, [], .iload 6),
  (0, 18, 3, 0, 0, [], .invokestatic 264),
  (0, 21, 2, 0, 0, [], .istore 7),
  (0, 23, 2, 0, 0, [], .iload 5),
  (0, 25, 3, 79, 0, [], .ifCond .ne 54),
  (0, 28, 1, 0, 0, [], .aload_n 0),
  (0, 29, 3, 0, 0, [], .getfield 101),
  (0, 32, 2, 0, 0, [], .iload 7),
  (0, 34, 1, 0, 0, [], .iaload),
  (0, 35, 1, 0, 3, [], .iconst 3),
  (0, 36, 3, 83, 0, [], .if_icmp .ne 47),
  (0, 39, 1, 0, 0, [], .aload_n 0),
  (0, 40, 3, 0, 0, [], .getfield 101),
  (0, 43, 2, 0, 0, [], .iload 7),
  (0, 45, 1, 0, 1, [], .iconst 1),
  (0, 46, 1, 0, 0, [], .iadd),
  (0, 47, 1, 0, 0, [], .iaload),
  (0, 48, 2, 0, 0, [], .iload 4),
  (0, 50, 3, 83, 0, [], .if_icmp .ne 33),
  (0, 53, 1, 0, 0, [], .aload_n 0),
  (0, 54, 3, 0, 0, [], .getfield 101),
  (0, 57, 2, 0, 0, [], .iload 7),
  (0, 59, 1, 0, 2, [], .iconst 2),
  (0, 60, 1, 0, 0, [], .iadd),
  (0, 61, 1, 0, 0, [], .iaload),
  (0, 62, 1, 0, 0, [], .iload_n 2),
  (0, 63, 3, 83, 0, [], .if_icmp .ne 20),
  (0, 66, 1, 0, 0, [], .aload_n 0),
  (0, 67, 3, 0, 0, [], .getfield 101),
  (0, 70, 2, 0, 0, [], .iload 7),
  (0, 72, 1, 0, 3, [], .iconst 3),
  (0, 73, 1, 0, 0, [], .iadd),
  (0, 74, 1, 0, 0, [], .iaload),
  (0, 75, 1, 0, 0, [], .iload_n 3),
  (0, 76, 3, 83, 0, [], .if_icmp .ne 7),
  (0, 79, 1, 0, 1, [], .iconst 1),
  (0, 80, 3, 84, 0, [], .goto 4),
  (0, 83, 1, 0, 0, [], .iconst 0),
  (0, 84, 2, 0, 0, [], .istore 5),
  (0, 86, 3, 0, 1, [], .iinc 6 1),
  (0, 89, 3, 6, 0, [], .goto (-83)),
  (0, 92, 2, 0, 0, [], .iload 5),
  (0, 94, 1, 0, 0, [], .ireturn)]
def L_X12_hasPart_6 (fu : Nat) : Nat → Nat → Int32 → Int32 → Int32 → Int32 → Int32 → Int32 → xM → Option (Int32 × xM)
  | 0, _, _, _, _, _, _, _, _ => none
  | n + 1, s, x1, x2, x3, x4, x5, x6, M =>
    (F_X12_allSlots fu s M).bind fun p_1 =>
    if p_1.1 ≤ x6 then
      gd (xbool x5) (some (x5, p_1.2))
    else
      (F_X12_slotAt fu x1 x6 p_1.2).bind fun p_2 =>
      if ¬ x5 = 0 then
        L_X12_hasPart_6 fu n s x1 x2 x3 x4 1 (x6 + 1) p_2.2
      else
        (gR p_2.2 12 s 17).bind fun a_3 =>
        gd (xin p_2.1 (gN p_2.2 20 a_3)) <|
        if ¬ (gI p_2.2 20 a_3 (xi p_2.1)) = 3 then
          L_X12_hasPart_6 fu n s x1 x2 x3 x4 0 (x6 + 1) p_2.2
        else
          (gR p_2.2 12 s 17).bind fun a_4 =>
          gd (xin (p_2.1 + 1) (gN p_2.2 20 a_4)) <|
          if ¬ (gI p_2.2 20 a_4 (xi (p_2.1 + 1))) = x4 then
            L_X12_hasPart_6 fu n s x1 x2 x3 x4 0 (x6 + 1) p_2.2
          else
            (gR p_2.2 12 s 17).bind fun a_5 =>
            gd (xin (p_2.1 + 2) (gN p_2.2 20 a_5)) <|
            if ¬ (gI p_2.2 20 a_5 (xi (p_2.1 + 2))) = x2 then
              L_X12_hasPart_6 fu n s x1 x2 x3 x4 0 (x6 + 1) p_2.2
            else
              (gR p_2.2 12 s 17).bind fun a_6 =>
              gd (xin (p_2.1 + 3) (gN p_2.2 20 a_6)) <|
              if ¬ (gI p_2.2 20 a_6 (xi (p_2.1 + 3))) = x3 then
                L_X12_hasPart_6 fu n s x1 x2 x3 x4 0 (x6 + 1) p_2.2
              else
                L_X12_hasPart_6 fu n s x1 x2 x3 x4 1 (x6 + 1) p_2.2
set_option maxRecDepth 100000 in
theorem q_X12_hasPart_6 (fu : Nat) (n : Nat) (s : Nat) (x1 : Int32) (x2 : Int32) (x3 : Int32) (x4 : Int32) (x5 : Int32) (x6 : Int32) (M : xM) :
    xrun pX12_hasPart flX12 koX12 nwX12 [(264, 2, 0, 0, w_X12_slotAt fu), (277, 1, 0, 0, w_X12_allSlots fu)] [(6, fun bc bs ls st M => xz bc bs (lR ls 0 12 fun o => o.bind fun s => lI ls 1 fun x1 => lI ls 2 fun x2 => lI ls 3 fun x3 => lI ls 4 fun x4 => lI ls 5 fun x5 => lI ls 6 fun x6 => xe st (L_X12_hasPart_6 fu n s x1 x2 x3 x4 x5 x6 M)))] xrtZ 54 (xat 6 pX12_hasPart) 0 0 [(0, .inr (.inr (12, some s))), (1, .inl x1), (2, .inl x2), (3, .inl x3), (4, .inl x4), (5, .inl x5), (6, .inl x6)] [] M = L_X12_hasPart_6 fu (n + 1) s x1 x2 x3 x4 x5 x6 M := rfl
def F_X12_hasPart (fu : Nat) (s : Nat) (x1 : Int32) (x2 : Int32) (x3 : Int32) (x4 : Int32) (M : xM) : Option (Int32 × xM) :=
  L_X12_hasPart_6 fu fu s x1 x2 x3 x4 0 0 M
set_option maxRecDepth 100000 in
theorem q_X12_hasPart (fu : Nat) (s : Nat) (x1 : Int32) (x2 : Int32) (x3 : Int32) (x4 : Int32) (M : xM) :
    xrun pX12_hasPart flX12 koX12 nwX12 [] [(6, fun bc bs ls st M => xz bc bs (lR ls 0 12 fun o => o.bind fun s => lI ls 1 fun x1 => lI ls 2 fun x2 => lI ls 3 fun x3 => lI ls 4 fun x4 => lI ls 5 fun x5 => lI ls 6 fun x6 => xe st (L_X12_hasPart_6 fu fu s x1 x2 x3 x4 x5 x6 M)))] xrtZ 54 (xat 0 pX12_hasPart) 0 0 [(0, .inr (.inr (12, some s))), (1, .inl x1), (2, .inl x2), (3, .inl x3), (4, .inl x4)] [] M = F_X12_hasPart fu s x1 x2 x3 x4 M := rfl
def w_X12_hasPart (fu : Nat) {ρ : Type} (as : List xV) (M : xM) (k : Option xV → xM → Option ρ) : Option ρ := pR 12 as fun o as => o.bind fun s => pI as fun x1 as => pI as fun x2 as => pI as fun x3 as => pI as fun x4 as => xe as ((F_X12_hasPart fu s x1 x2 x3 x4 M).bind fun p => k (some (.inl p.1)) p.2)
def pX12_looks : List xE := [(0, 0, 1, 0, 0, [], .aload_n 0),
  (0, 1, 3, 0, 0, [], .getfield 246),
  (0, 4, 1, 0, 0, [], .iload_n 1),
  (0, 5, 3, 9, 0, [], .if_icmp .ne 4),
  (0, 8, 1, 0, 0, [], .return_),
  (0, 9, 1, 0, 0, [], .aload_n 0),
  (0, 10, 1, 0, 0, [], .iload_n 1),
  (0, 11, 3, 0, 0, [], .putfield 246),
  (0, 14, 1, 0, 0, [], .aload_n 0),
  (0, 15, 1, 0, 0, [], .iconst 0),
  (0, 16, 3, 0, 0, [], .putfield 280),
  (0, 19, 1, 0, 0, [], .aload_n 0),
  (0, 20, 1, 0, 0, [], .iconst 0),
  (0, 21, 3, 0, 0, [], .putfield 283),
  (0, 24, 1, 0, 0, [], .iconst 0),
  (0, 25, 1, 0, 0, [], .istore_n 2),
  (1, 26, 1, 0, 0, [], .iload_n 2),
  (0, 27, 1, 0, 0, [], .aload_n 0),
  (0, 28, 3, 0, 0, [], .invokevirtual 277),
  (0, 31, 3, 186, 0, [], .if_icmp .ge 155),
  (0, 34, 1, 0, 0, [], .iload_n 1),
  (0, 35, 1, 0, 0, [], .iload_n 2),
  (0, 36, 3, 0, 0, [], .invokestatic 264),
  (0, 39, 1, 0, 0, [], .istore_n 3),
  (0, 40, 1, 0, 0, [], .aload_n 0),
  (0, 41, 3, 0, 0, [], .getfield 101),
  (0, 44, 1, 0, 0, [], .iload_n 3),
  (0, 45, 1, 0, 1, [], .iconst 1),
  (0, 46, 1, 0, 0, [], .iadd),
  (0, 47, 1, 0, 0, [], .iaload),
  (0, 48, 1, 0, 0, [], .aload_n 0),
  (0, 49, 3, 0, 0, [], .getfield 101),
  (0, 52, 1, 0, 0, [], .iload_n 3),
  (0, 53, 1, 0, 2, [], .iconst 2),
  (0, 54, 1, 0, 0, [], .iadd),
  (0, 55, 1, 0, 0, [], .iaload),
  (0, 56, 1, 0, 0, [], .isub),
  (0, 57, 2, 0, 0, [], .istore 4),
  (0, 59, 1, 0, 0, [], .aload_n 0),
  (0, 60, 3, 0, 0, [], .getfield 101),
  (0, 63, 1, 0, 0, [], .iload_n 3),
  (0, 64, 1, 0, 0, [], .iaload),
  (0, 65, 1, 0, 3, [], .iconst 3),
  (0, 66, 3, 180, 0, [], .if_icmp .ne 114),
  (0, 69, 2, 0, 0, [], .iload 4),
  (0, 71, 1, 0, 0, [], .aload_n 0),
  (0, 72, 3, 0, 0, [], .getfield 280),
  (0, 75, 3, 180, 0, [], .if_icmp .le 105),
  (0, 78, 1, 0, 1, [], .iconst 1),
  (0, 79, 2, 0, 0, [], .istore 5),
  (0, 81, 1, 0, 0, [], .iconst 0),
  (0, 82, 2, 0, 0, [], .istore 6),
  (1, 84, 2, 0, 0, [], .iload 6),
  (0, 86, 1, 0, 0, [], .aload_n 0),
  (0, 87, 3, 0, 0, [], .getfield 101),
  (0, 90, 1, 0, 0, [], .iload_n 3),
  (0, 91, 1, 0, 3, [], .iconst 3),
  (0, 92, 1, 0, 0, [], .iadd),
  (0, 93, 1, 0, 0, [], .iaload),
  (0, 94, 3, 138, 0, [], .if_icmp .ge 44),
  (0, 97, 2, 0, 0, [], .iload 5),
  (0, 99, 3, 129, 0, [], .ifCond .eq 30),
  (0, 102, 1, 0, 0, [], .aload_n 0),
  (0, 103, 1, 0, 0, [], .iload_n 1),
  (0, 104, 2, 0, 0, [], .iload 6),
  (0, 106, 1, 0, 0, [], .aload_n 0),
  (0, 107, 3, 0, 0, [], .getfield 101),
  (0, 110, 1, 0, 0, [], .iload_n 3),
  (0, 111, 1, 0, 3, [], .iconst 3),
  (0, 112, 1, 0, 0, [], .iadd),
  (0, 113, 1, 0, 0, [], .iaload),
  (0, 114, 2, 0, 0, [], .iload 4),
  (0, 116, 2, 0, 0, [], .iload 6),
  (0, 118, 1, 0, 0, [], .iadd),
  (0, 119, 3, 0, 0, [], .invokevirtual 286),
  (0, 122, 3, 129, 0, [], .ifCond .eq 7),
  (0, 125, 1, 0, 1, [], .iconst 1),
  (0, 126, 3, 130, 0, [], .goto 4),
  (0, 129, 1, 0, 0, [], .iconst 0),
  (0, 130, 2, 0, 0, [], .istore 5),
  (0, 132, 3, 0, 1, [], .iinc 6 1),
  (0, 135, 3, 84, 0, [], .goto (-51)),
  (0, 138, 1, 0, 0, [], .aload_n 0),
  (0, 139, 2, 0, 0, [], .iload 5),
  (0, 141, 3, 149, 0, [], .ifCond .eq 8),
  (0, 144, 2, 0, 0, [], .iload 4),
  (0, 146, 3, 153, 0, [], .goto 7),
  (0, 149, 1, 0, 0, [], .aload_n 0),
  (0, 150, 3, 0, 0, [], .getfield 280),
  (1, 153, 3, 0, 0, [], .putfield 280),
  (0, 156, 1, 0, 0, [], .aload_n 0),
  (0, 157, 2, 0, 0, [], .iload 5),
  (0, 159, 3, 173, 0, [], .ifCond .eq 14),
  (0, 162, 1, 0, 0, [], .aload_n 0),
  (0, 163, 3, 0, 0, [], .getfield 101),
  (0, 166, 1, 0, 0, [], .iload_n 3),
  (0, 167, 1, 0, 3, [], .iconst 3),
  (0, 168, 1, 0, 0, [], .iadd),
  (0, 169, 1, 0, 0, [], .iaload),
  (0, 170, 3, 177, 0, [], .goto 7),
  (0, 173, 1, 0, 0, [], .aload_n 0),
  (0, 174, 3, 0, 0, [], .getfield 283),
  (0, 177, 3, 0, 0, [], .putfield 283),
  (0, 180, 3, 0, 1, [], .iinc 2 1),
  (0, 183, 3, 26, 0, [], .goto (-157)),
  (0, 186, 1, 0, 0, [], .return_)]
def J_X12_looks_153 (fu : Nat) (k26 : Nat → Int32 → Int32 → xM → Option xM) (s : Nat) (x1 : Int32) (x2 : Int32) (x3 : Int32) (x5 : Int32) (y0 : Int32) (y1 : Nat) (M : xM) : Option xM :=
  let M_1 := sI M 12 y1 20 y0
  if x5 = 0 then
    let M_2 := sI M_1 12 s 21 (gI M_1 12 s 21)
    k26 s x1 (x2 + 1) M_2
  else
    (gR M_1 12 s 17).bind fun a_3 =>
    gd (xin (x3 + 3) (gN M_1 20 a_3)) <|
    let M_4 := sI M_1 12 s 21 (gI M_1 20 a_3 (xi (x3 + 3)))
    k26 s x1 (x2 + 1) M_4
set_option maxRecDepth 100000 in
theorem q_X12_looks_153 (fu : Nat) (k26 : Nat → Int32 → Int32 → xM → Option xM) (s : Nat) (x1 : Int32) (x2 : Int32) (x3 : Int32) (x5 : Int32) (y0 : Int32) (y1 : Nat) (M : xM) :
    xrun pX12_looks flX12 koX12 nwX12 [] [(26, fun bc bs ls st M => xz bc bs (lR ls 0 12 fun o => o.bind fun s => lI ls 1 fun x1 => lI ls 2 fun x2 => xe st (k26 s x1 x2 M)))] xrtV 108 (xat 153 pX12_looks) 0 0 [(0, .inr (.inr (12, some s))), (1, .inl x1), (2, .inl x2), (3, .inl x3), (5, .inl x5)] [.inl y0, .inr (.inr (12, some y1))] M = J_X12_looks_153 fu k26 s x1 x2 x3 x5 y0 y1 M := rfl
def L_X12_looks_84 (fu : Nat) (k26 : Nat → Int32 → Int32 → xM → Option xM) : Nat → Nat → Int32 → Int32 → Int32 → Int32 → Int32 → Int32 → xM → Option xM
  | 0, _, _, _, _, _, _, _, _ => none
  | n + 1, s, x1, x2, x3, x4, x5, x6, M =>
    (gR M 12 s 17).bind fun a_1 =>
    gd (xin (x3 + 3) (gN M 20 a_1)) <|
    if (gI M 20 a_1 (xi (x3 + 3))) ≤ x6 then
      if x5 = 0 then
        J_X12_looks_153 fu k26 s x1 x2 x3 x5 (gI M 12 s 20) s M
      else
        J_X12_looks_153 fu k26 s x1 x2 x3 x5 x4 s M
    else
      if x5 = 0 then
        L_X12_looks_84 fu k26 n s x1 x2 x3 x4 0 (x6 + 1) M
      else
        (gR M 12 s 17).bind fun a_2 =>
        gd (xin (x3 + 3) (gN M 20 a_2)) <|
        (F_X12_hasPart fu s x1 x6 (gI M 20 a_2 (xi (x3 + 3))) (x4 + x6) M).bind fun p_3 =>
        if p_3.1 = 0 then
          L_X12_looks_84 fu k26 n s x1 x2 x3 x4 0 (x6 + 1) p_3.2
        else
          L_X12_looks_84 fu k26 n s x1 x2 x3 x4 1 (x6 + 1) p_3.2
set_option maxRecDepth 100000 in
theorem q_X12_looks_84 (fu : Nat) (k26 : Nat → Int32 → Int32 → xM → Option xM) (n : Nat) (s : Nat) (x1 : Int32) (x2 : Int32) (x3 : Int32) (x4 : Int32) (x5 : Int32) (x6 : Int32) (M : xM) :
    xrun pX12_looks flX12 koX12 nwX12 [(286, 5, 0, 0, w_X12_hasPart fu)] [(84, fun bc bs ls st M => xz bc bs (lR ls 0 12 fun o => o.bind fun s => lI ls 1 fun x1 => lI ls 2 fun x2 => lI ls 3 fun x3 => lI ls 4 fun x4 => lI ls 5 fun x5 => lI ls 6 fun x6 => xe st (L_X12_looks_84 fu k26 n s x1 x2 x3 x4 x5 x6 M))),
    (153, fun bc bs ls st M => xz bc bs (lR ls 0 12 fun o => o.bind fun s => lI ls 1 fun x1 => lI ls 2 fun x2 => lI ls 3 fun x3 => lI ls 5 fun x5 => pI st fun y0 st => pR 12 st fun o st => o.bind fun y1 => xe st (J_X12_looks_153 fu k26 s x1 x2 x3 x5 y0 y1 M)))] xrtV 108 (xat 84 pX12_looks) 0 0 [(0, .inr (.inr (12, some s))), (1, .inl x1), (2, .inl x2), (3, .inl x3), (4, .inl x4), (5, .inl x5), (6, .inl x6)] [] M = L_X12_looks_84 fu k26 (n + 1) s x1 x2 x3 x4 x5 x6 M := rfl
def L_X12_looks_26 (fu : Nat) : Nat → Nat → Int32 → Int32 → xM → Option xM
  | 0, _, _, _, _ => none
  | n + 1, s, x1, x2, M =>
    (F_X12_allSlots fu s M).bind fun p_1 =>
    if p_1.1 ≤ x2 then
      some p_1.2
    else
      (F_X12_slotAt fu x1 x2 p_1.2).bind fun p_2 =>
      (gR p_2.2 12 s 17).bind fun a_3 =>
      gd (xin (p_2.1 + 1) (gN p_2.2 20 a_3)) <|
      (gR p_2.2 12 s 17).bind fun a_4 =>
      gd (xin (p_2.1 + 2) (gN p_2.2 20 a_4)) <|
      let x4_5 : Int32 := (gI p_2.2 20 a_3 (xi (p_2.1 + 1))) - (gI p_2.2 20 a_4 (xi (p_2.1 + 2)))
      (gR p_2.2 12 s 17).bind fun a_6 =>
      gd (xin p_2.1 (gN p_2.2 20 a_6)) <|
      if ¬ (gI p_2.2 20 a_6 (xi p_2.1)) = 3 then
        L_X12_looks_26 fu n s x1 (x2 + 1) p_2.2
      else
        if x4_5 ≤ (gI p_2.2 12 s 20) then
          L_X12_looks_26 fu n s x1 (x2 + 1) p_2.2
        else
          L_X12_looks_84 fu (L_X12_looks_26 fu n) fu s x1 x2 p_2.1 x4_5 1 0 p_2.2
set_option maxRecDepth 100000 in
theorem q_X12_looks_26 (fu : Nat) (n : Nat) (s : Nat) (x1 : Int32) (x2 : Int32) (M : xM) :
    xrun pX12_looks flX12 koX12 nwX12 [(264, 2, 0, 0, w_X12_slotAt fu), (277, 1, 0, 0, w_X12_allSlots fu)] [(26, fun bc bs ls st M => xz bc bs (lR ls 0 12 fun o => o.bind fun s => lI ls 1 fun x1 => lI ls 2 fun x2 => xe st (L_X12_looks_26 fu n s x1 x2 M))),
    (84, fun bc bs ls st M => xz bc bs (lR ls 0 12 fun o => o.bind fun s => lI ls 1 fun x1 => lI ls 2 fun x2 => lI ls 3 fun x3 => lI ls 4 fun x4 => lI ls 5 fun x5 => lI ls 6 fun x6 => xe st (L_X12_looks_84 fu (L_X12_looks_26 fu n) fu s x1 x2 x3 x4 x5 x6 M)))] xrtV 108 (xat 26 pX12_looks) 0 0 [(0, .inr (.inr (12, some s))), (1, .inl x1), (2, .inl x2)] [] M = L_X12_looks_26 fu (n + 1) s x1 x2 M := rfl
def F_X12_looks (fu : Nat) (s : Nat) (x1 : Int32) (M : xM) : Option xM :=
  if ¬ (gI M 12 s 22) = x1 then
    let M_1 := sI M 12 s 22 x1
    let M_2 := sI M_1 12 s 20 0
    let M_3 := sI M_2 12 s 21 0
    L_X12_looks_26 fu fu s x1 0 M_3
  else
    some M
set_option maxRecDepth 100000 in
theorem q_X12_looks (fu : Nat) (s : Nat) (x1 : Int32) (M : xM) :
    xrun pX12_looks flX12 koX12 nwX12 [] [(26, fun bc bs ls st M => xz bc bs (lR ls 0 12 fun o => o.bind fun s => lI ls 1 fun x1 => lI ls 2 fun x2 => xe st (L_X12_looks_26 fu fu s x1 x2 M)))] xrtV 108 (xat 0 pX12_looks) 0 0 [(0, .inr (.inr (12, some s))), (1, .inl x1)] [] M = F_X12_looks fu s x1 M := rfl
def w_X12_looks (fu : Nat) {ρ : Type} (as : List xV) (M : xM) (k : Option xV → xM → Option ρ) : Option ρ := pR 12 as fun o as => o.bind fun s => pI as fun x1 as => xe as ((F_X12_looks fu s x1 M).bind fun p => k none p)
def pX12_typeOf : List xE := [(0, 0, 1, 0, 0, [], .aload_n 0),
  (0, 1, 3, 0, 0, [], .getfield 101),
  (0, 4, 1, 0, 0, [], .iload_n 1),
  (0, 5, 1, 0, 0, [], .iload_n 2),
  (0, 6, 3, 0, 0, [], .invokestatic 264),
  (0, 9, 1, 0, 0, [], .iaload),
  (0, 10, 1, 0, 0, [], .ireturn)]
def F_X12_typeOf (fu : Nat) (s : Nat) (x1 : Int32) (x2 : Int32) (M : xM) : Option (Int32 × xM) :=
  (F_X12_slotAt fu x1 x2 M).bind fun p_1 =>
  (gR M 12 s 17).bind fun a_2 =>
  gd (xin p_1.1 (gN p_1.2 20 a_2)) <|
  (some (gI p_1.2 20 a_2 (xi p_1.1), p_1.2))
set_option maxRecDepth 100000 in
theorem q_X12_typeOf (fu : Nat) (s : Nat) (x1 : Int32) (x2 : Int32) (M : xM) :
    xrun pX12_typeOf flX12 koX12 nwX12 [(264, 2, 0, 0, w_X12_slotAt fu)] [] xrtI 9 (xat 0 pX12_typeOf) 0 0 [(0, .inr (.inr (12, some s))), (1, .inl x1), (2, .inl x2)] [] M = F_X12_typeOf fu s x1 x2 M := rfl
def w_X12_typeOf (fu : Nat) {ρ : Type} (as : List xV) (M : xM) (k : Option xV → xM → Option ρ) : Option ρ := pR 12 as fun o as => o.bind fun s => pI as fun x1 as => pI as fun x2 as => xe as ((F_X12_typeOf fu s x1 x2 M).bind fun p => k (some (.inl p.1)) p.2)
def pX12_numberOf : List xE := [(0, 0, 1, 0, 0, [], .aload_n 0),
  (0, 1, 3, 0, 0, [], .getfield 101),
  (0, 4, 1, 0, 0, [], .iload_n 1),
  (0, 5, 1, 0, 0, [], .iload_n 2),
  (0, 6, 3, 0, 0, [], .invokestatic 264),
  (0, 9, 1, 0, 1, [], .iconst 1),
  (0, 10, 1, 0, 0, [], .iadd),
  (0, 11, 1, 0, 0, [], .iaload),
  (0, 12, 1, 0, 0, [], .ireturn)]
def F_X12_numberOf (fu : Nat) (s : Nat) (x1 : Int32) (x2 : Int32) (M : xM) : Option (Int32 × xM) :=
  (F_X12_slotAt fu x1 x2 M).bind fun p_1 =>
  (gR M 12 s 17).bind fun a_2 =>
  gd (xin (p_1.1 + 1) (gN p_1.2 20 a_2)) <|
  (some (gI p_1.2 20 a_2 (xi (p_1.1 + 1)), p_1.2))
set_option maxRecDepth 100000 in
theorem q_X12_numberOf (fu : Nat) (s : Nat) (x1 : Int32) (x2 : Int32) (M : xM) :
    xrun pX12_numberOf flX12 koX12 nwX12 [(264, 2, 0, 0, w_X12_slotAt fu)] [] xrtI 11 (xat 0 pX12_numberOf) 0 0 [(0, .inr (.inr (12, some s))), (1, .inl x1), (2, .inl x2)] [] M = F_X12_numberOf fu s x1 x2 M := rfl
def w_X12_numberOf (fu : Nat) {ρ : Type} (as : List xV) (M : xM) (k : Option xV → xM → Option ρ) : Option ρ := pR 12 as fun o as => o.bind fun s => pI as fun x1 as => pI as fun x2 as => xe as ((F_X12_numberOf fu s x1 x2 M).bind fun p => k (some (.inl p.1)) p.2)
def pX12_slotOf : List xE := [(0, 0, 1, 0, (-1), [], .iconst (-1)),
  (0, 1, 2, 0, 0, [], .istore 4),
  (0, 3, 1, 0, 0, [], .aload_n 0),
  (0, 4, 3, 0, 0, [], .invokevirtual 277),
  (0, 7, 1, 0, 1, [], .iconst 1),
  (0, 8, 1, 0, 0, [], .isub),
  (0, 9, 2, 0, 0, [], .istore 5),
  (1, 11, 2, 0, 0, [], .iload 5),
  (0, 13, 3, 53, 0, [], .ifCond .lt 40),
  (0, 16, 1, 0, 0, [], .aload_n 0),
  (0, 17, 1, 0, 0, [], .iload_n 1),
  (0, 18, 2, 0, 0, [], .iload 5),
  (0, 20, 3, 0, 0, [], .invokevirtual 290),
  (0, 23, 1, 0, 0, [], .iload_n 2),
  (0, 24, 3, 43, 0, [], .if_icmp .ne 19),
  (0, 27, 1, 0, 0, [], .aload_n 0),
  (0, 28, 1, 0, 0, [], .iload_n 1),
  (0, 29, 2, 0, 0, [], .iload 5),
  (0, 31, 3, 0, 0, [], .invokevirtual 293),
  (0, 34, 1, 0, 0, [], .iload_n 3),
  (0, 35, 3, 43, 0, [], .if_icmp .ne 8),
  (0, 38, 2, 0, 0, [], .iload 5),
  (0, 40, 3, 45, 0, [], .goto 5),
  (0, 43, 2, 0, 0, [], .iload 4),
  (0, 45, 2, 0, 0, [], .istore 4),
  (0, 47, 3, 0, (-1), [], .iinc 5 (-1)),
  (0, 50, 3, 11, 0, [], .goto (-39)),
  (0, 53, 2, 0, 0, [], .iload 4),
  (0, 55, 1, 0, 0, [], .ireturn)]
def L_X12_slotOf_11 (fu : Nat) : Nat → Nat → Int32 → Int32 → Int32 → Int32 → Int32 → xM → Option (Int32 × xM)
  | 0, _, _, _, _, _, _, _ => none
  | n + 1, s, x1, x2, x3, x4, x5, M =>
    if x5 < 0 then
      (some (x4, M))
    else
      (F_X12_typeOf fu s x1 x5 M).bind fun p_1 =>
      if ¬ p_1.1 = x2 then
        L_X12_slotOf_11 fu n s x1 x2 x3 x4 (x5 + (-1)) p_1.2
      else
        (F_X12_numberOf fu s x1 x5 p_1.2).bind fun p_2 =>
        if ¬ p_2.1 = x3 then
          L_X12_slotOf_11 fu n s x1 x2 x3 x4 (x5 + (-1)) p_2.2
        else
          L_X12_slotOf_11 fu n s x1 x2 x3 x5 (x5 + (-1)) p_2.2
set_option maxRecDepth 100000 in
theorem q_X12_slotOf_11 (fu : Nat) (n : Nat) (s : Nat) (x1 : Int32) (x2 : Int32) (x3 : Int32) (x4 : Int32) (x5 : Int32) (M : xM) :
    xrun pX12_slotOf flX12 koX12 nwX12 [(290, 3, 0, 0, w_X12_typeOf fu), (293, 3, 0, 0, w_X12_numberOf fu)] [(11, fun bc bs ls st M => xz bc bs (lR ls 0 12 fun o => o.bind fun s => lI ls 1 fun x1 => lI ls 2 fun x2 => lI ls 3 fun x3 => lI ls 4 fun x4 => lI ls 5 fun x5 => xe st (L_X12_slotOf_11 fu n s x1 x2 x3 x4 x5 M)))] xrtI 31 (xat 11 pX12_slotOf) 0 0 [(0, .inr (.inr (12, some s))), (1, .inl x1), (2, .inl x2), (3, .inl x3), (4, .inl x4), (5, .inl x5)] [] M = L_X12_slotOf_11 fu (n + 1) s x1 x2 x3 x4 x5 M := rfl
def F_X12_slotOf (fu : Nat) (s : Nat) (x1 : Int32) (x2 : Int32) (x3 : Int32) (M : xM) : Option (Int32 × xM) :=
  (F_X12_allSlots fu s M).bind fun p_1 =>
  let x5_2 : Int32 := p_1.1 - 1
  L_X12_slotOf_11 fu fu s x1 x2 x3 ((-1)) x5_2 p_1.2
set_option maxRecDepth 100000 in
theorem q_X12_slotOf (fu : Nat) (s : Nat) (x1 : Int32) (x2 : Int32) (x3 : Int32) (M : xM) :
    xrun pX12_slotOf flX12 koX12 nwX12 [(277, 1, 0, 0, w_X12_allSlots fu)] [(11, fun bc bs ls st M => xz bc bs (lR ls 0 12 fun o => o.bind fun s => lI ls 1 fun x1 => lI ls 2 fun x2 => lI ls 3 fun x3 => lI ls 4 fun x4 => lI ls 5 fun x5 => xe st (L_X12_slotOf_11 fu fu s x1 x2 x3 x4 x5 M)))] xrtI 31 (xat 0 pX12_slotOf) 0 0 [(0, .inr (.inr (12, some s))), (1, .inl x1), (2, .inl x2), (3, .inl x3)] [] M = F_X12_slotOf fu s x1 x2 x3 M := rfl
def w_X12_slotOf (fu : Nat) {ρ : Type} (as : List xV) (M : xM) (k : Option xV → xM → Option ρ) : Option ρ := pR 12 as fun o as => o.bind fun s => pI as fun x1 as => pI as fun x2 as => pI as fun x3 as => xe as ((F_X12_slotOf fu s x1 x2 x3 M).bind fun p => k (some (.inl p.1)) p.2)
def pX12_base : List xE := [(0, 0, 1, 0, 0, [], .aload_n 0),
  (0, 1, 3, 0, 0, [], .getfield 280),
  (0, 4, 3, 11, 0, [], .ifCond .ne 7),
  (0, 7, 1, 0, 0, [], .iconst 0),
  (0, 8, 3, 22, 0, [], .goto 14),
  (0, 11, 1, 0, 0, [], .aload_n 0),
  (0, 12, 3, 0, 0, [], .getfield 280),
  (0, 15, 1, 0, 0, [], .aload_n 0),
  (0, 16, 3, 0, 0, [], .getfield 283),
  (0, 19, 1, 0, 0, [], .iadd),
  (0, 20, 1, 0, 1, [], .iconst 1),
  (0, 21, 1, 0, 0, [], .isub),
  (0, 22, 1, 0, 0, [], .ireturn)]
def F_X12_base (fu : Nat) (s : Nat) (M : xM) : Option (Int32 × xM) :=
  if ¬ (gI M 12 s 20) = 0 then
    (some (((gI M 12 s 20) + (gI M 12 s 21)) - 1, M))
  else
    (some (0, M))
set_option maxRecDepth 100000 in
theorem q_X12_base (fu : Nat) (s : Nat) (M : xM) :
    xrun pX12_base flX12 koX12 nwX12 [] [] xrtI 15 (xat 0 pX12_base) 0 0 [(0, .inr (.inr (12, some s)))] [] M = F_X12_base fu s M := rfl
def w_X12_base (fu : Nat) {ρ : Type} (as : List xV) (M : xM) (k : Option xV → xM → Option ρ) : Option ρ := pR 12 as fun o as => o.bind fun s => xe as ((F_X12_base fu s M).bind fun p => k (some (.inl p.1)) p.2)
def pX12_unmaps : List xE := [(0, 0, 1, 0, 0, [], .iconst 0),
  (0, 1, 1, 0, 0, [], .istore_n 3),
  (1, 2, 1, 0, 0, [], .iload_n 3),
  (0, 3, 1, 0, 4, [], .iconst 4),
  (0, 4, 3, 29, 0, [], .if_icmp .ge 25),
  (0, 7, 1, 0, 0, [], .aload_n 0),
  (0, 8, 3, 0, 0, [], .getfield 101),
  (0, 11, 1, 0, 0, [], .iload_n 1),
  (0, 12, 2, 0, 14, [], .bipush 14),
  (0, 14, 1, 0, 0, [], .iadd),
  (0, 15, 1, 0, 4, [], .iconst 4),
  (0, 16, 1, 0, 0, [], .iload_n 2),
  (0, 17, 1, 0, 0, [], .imul),
  (0, 18, 1, 0, 0, [], .iadd),
  (0, 19, 1, 0, 0, [], .iload_n 3),
  (0, 20, 1, 0, 0, [], .iadd),
  (0, 21, 1, 0, 0, [], .iconst 0),
  (0, 22, 1, 0, 0, [], .iastore),
  (0, 23, 3, 0, 1, [], .iinc 3 1),
  (0, 26, 3, 2, 0, [], .goto (-24)),
  (0, 29, 1, 0, 0, [], .return_)]
def L_X12_unmaps_2 (fu : Nat) : Nat → Nat → Int32 → Int32 → Int32 → xM → Option xM
  | 0, _, _, _, _, _ => none
  | n + 1, s, x1, x2, x3, M =>
    if 4 ≤ x3 then
      some M
    else
      (gR M 12 s 17).bind fun a_1 =>
      gd (xin (((x1 + 14) + (4 * x2)) + x3) (gN M 20 a_1)) <|
      let M_2 := sI M 20 a_1 (xi (((x1 + 14) + (4 * x2)) + x3)) 0
      L_X12_unmaps_2 fu n s x1 x2 (x3 + 1) M_2
set_option maxRecDepth 100000 in
theorem q_X12_unmaps_2 (fu : Nat) (n : Nat) (s : Nat) (x1 : Int32) (x2 : Int32) (x3 : Int32) (M : xM) :
    xrun pX12_unmaps flX12 koX12 nwX12 [] [(2, fun bc bs ls st M => xz bc bs (lR ls 0 12 fun o => o.bind fun s => lI ls 1 fun x1 => lI ls 2 fun x2 => lI ls 3 fun x3 => xe st (L_X12_unmaps_2 fu n s x1 x2 x3 M)))] xrtV 23 (xat 2 pX12_unmaps) 0 0 [(0, .inr (.inr (12, some s))), (1, .inl x1), (2, .inl x2), (3, .inl x3)] [] M = L_X12_unmaps_2 fu (n + 1) s x1 x2 x3 M := rfl
def F_X12_unmaps (fu : Nat) (s : Nat) (x1 : Int32) (x2 : Int32) (M : xM) : Option xM :=
  L_X12_unmaps_2 fu fu s x1 x2 0 M
set_option maxRecDepth 100000 in
theorem q_X12_unmaps (fu : Nat) (s : Nat) (x1 : Int32) (x2 : Int32) (M : xM) :
    xrun pX12_unmaps flX12 koX12 nwX12 [] [(2, fun bc bs ls st M => xz bc bs (lR ls 0 12 fun o => o.bind fun s => lI ls 1 fun x1 => lI ls 2 fun x2 => lI ls 3 fun x3 => xe st (L_X12_unmaps_2 fu fu s x1 x2 x3 M)))] xrtV 23 (xat 0 pX12_unmaps) 0 0 [(0, .inr (.inr (12, some s))), (1, .inl x1), (2, .inl x2)] [] M = F_X12_unmaps fu s x1 x2 M := rfl
def w_X12_unmaps (fu : Nat) {ρ : Type} (as : List xV) (M : xM) (k : Option xV → xM → Option ρ) : Option ρ := pR 12 as fun o as => o.bind fun s => pI as fun x1 as => pI as fun x2 as => xe as ((F_X12_unmaps fu s x1 x2 M).bind fun p => k none p)
def pX12_erasedIn : List xE := [(0, 0, 1, 0, 0, [], .iconst 0),
  (0, 1, 1, 0, 0, [], .istore_n 3),
  (0, 2, 1, 0, 0, [], .aload_n 0),
  (0, 3, 3, 0, 0, [], .invokevirtual 255),
  (0, 6, 1, 0, 0, [], .iload_n 2),
  (0, 7, 1, 0, 0, [], .imul),
  (0, 8, 2, 0, 0, [], .istore 4),
  (1, 10, 2, 0, 0, [], .iload 4),
  (0, 12, 1, 0, 0, [], .aload_n 0),
  (0, 13, 3, 0, 0, [], .invokevirtual 255),
  (0, 16, 1, 0, 0, [], .iload_n 2),
  (0, 17, 1, 0, 1, [], .iconst 1),
  (0, 18, 1, 0, 0, [], .iadd),
  (0, 19, 1, 0, 0, [], .imul),
  (0, 20, 3, 47, 0, [], .if_icmp .ge 27),
  (0, 23, 1, 0, 0, [], .iload_n 3),
  (0, 24, 1, 0, 0, [], .aload_n 0),
  (0, 25, 1, 0, 0, [], .iload_n 1),
  (0, 26, 2, 0, 0, [], .iload 4),
  (0, 28, 3, 0, 0, [], .invokevirtual 290),
  (0, 31, 3, 38, 0, [], .ifCond .ne 7),
  (0, 34, 1, 0, 1, [], .iconst 1),
  (0, 35, 3, 39, 0, [], .goto 4),
  (0, 38, 1, 0, 0, [], .iconst 0),
  (0, 39, 1, 0, 0, [], .iadd),
  (0, 40, 1, 0, 0, [], .istore_n 3),
  (0, 41, 3, 0, 1, [], .iinc 4 1),
  (0, 44, 3, 10, 0, [], .goto (-34)),
  (0, 47, 1, 0, 0, [], .iload_n 3),
  (0, 48, 1, 0, 0, [], .ireturn)]
def L_X12_erasedIn_10 (fu : Nat) : Nat → Nat → Int32 → Int32 → Int32 → Int32 → xM → Option (Int32 × xM)
  | 0, _, _, _, _, _, _ => none
  | n + 1, s, x1, x2, x3, x4, M =>
    (F_X12_wide fu s M).bind fun p_1 =>
    if (p_1.1 * (x2 + 1)) ≤ x4 then
      (some (x3, p_1.2))
    else
      (F_X12_typeOf fu s x1 x4 p_1.2).bind fun p_2 =>
      if ¬ p_2.1 = 0 then
        let x3_3 : Int32 := x3 + 0
        L_X12_erasedIn_10 fu n s x1 x2 x3_3 (x4 + 1) p_2.2
      else
        let x3_4 : Int32 := x3 + 1
        L_X12_erasedIn_10 fu n s x1 x2 x3_4 (x4 + 1) p_2.2
set_option maxRecDepth 100000 in
theorem q_X12_erasedIn_10 (fu : Nat) (n : Nat) (s : Nat) (x1 : Int32) (x2 : Int32) (x3 : Int32) (x4 : Int32) (M : xM) :
    xrun pX12_erasedIn flX12 koX12 nwX12 [(255, 1, 0, 0, w_X12_wide fu), (290, 3, 0, 0, w_X12_typeOf fu)] [(10, fun bc bs ls st M => xz bc bs (lR ls 0 12 fun o => o.bind fun s => lI ls 1 fun x1 => lI ls 2 fun x2 => lI ls 3 fun x3 => lI ls 4 fun x4 => xe st (L_X12_erasedIn_10 fu n s x1 x2 x3 x4 M)))] xrtI 32 (xat 10 pX12_erasedIn) 0 0 [(0, .inr (.inr (12, some s))), (1, .inl x1), (2, .inl x2), (3, .inl x3), (4, .inl x4)] [] M = L_X12_erasedIn_10 fu (n + 1) s x1 x2 x3 x4 M := rfl
def F_X12_erasedIn (fu : Nat) (s : Nat) (x1 : Int32) (x2 : Int32) (M : xM) : Option (Int32 × xM) :=
  (F_X12_wide fu s M).bind fun p_1 =>
  let x4_2 : Int32 := p_1.1 * x2
  L_X12_erasedIn_10 fu fu s x1 x2 0 x4_2 p_1.2
set_option maxRecDepth 100000 in
theorem q_X12_erasedIn (fu : Nat) (s : Nat) (x1 : Int32) (x2 : Int32) (M : xM) :
    xrun pX12_erasedIn flX12 koX12 nwX12 [(255, 1, 0, 0, w_X12_wide fu)] [(10, fun bc bs ls st M => xz bc bs (lR ls 0 12 fun o => o.bind fun s => lI ls 1 fun x1 => lI ls 2 fun x2 => lI ls 3 fun x3 => lI ls 4 fun x4 => xe st (L_X12_erasedIn_10 fu fu s x1 x2 x3 x4 M)))] xrtI 32 (xat 0 pX12_erasedIn) 0 0 [(0, .inr (.inr (12, some s))), (1, .inl x1), (2, .inl x2)] [] M = F_X12_erasedIn fu s x1 x2 M := rfl
def w_X12_erasedIn (fu : Nat) {ρ : Type} (as : List xV) (M : xM) (k : Option xV → xM → Option ρ) : Option ρ := pR 12 as fun o as => o.bind fun s => pI as fun x1 as => pI as fun x2 as => xe as ((F_X12_erasedIn fu s x1 x2 M).bind fun p => k (some (.inl p.1)) p.2)
def pX12_mounts : List xE := [(0, 0, 1, 0, 0, [], .aload_n 0),
  (0, 1, 1, 0, 0, [], .iload_n 1),
  (0, 2, 3, 0, 0, [], .invokevirtual 317),
  (0, 5, 1, 0, 0, [], .aload_n 0),
  (0, 6, 3, 0, 0, [], .getfield 101),
  (0, 9, 1, 0, 0, [], .iload_n 1),
  (0, 10, 1, 0, 2, [], .iconst 2),
  (0, 11, 1, 0, 0, [], .iadd),
  (0, 12, 1, 0, 1, [], .iconst 1),
  (0, 13, 1, 0, 0, [], .iastore),
  (0, 14, 1, 0, 0, [], .aload_n 0),
  (0, 15, 1, 0, 0, [], .iload_n 1),
  (0, 16, 3, 0, 0, [], .invokevirtual 305),
  (0, 19, 1, 0, 0, [], .iconst 0),
  (0, 20, 1, 0, 0, [], .istore_n 2),
  (1, 21, 1, 0, 0, [], .iload_n 2),
  (0, 22, 1, 0, 0, [], .aload_n 0),
  (0, 23, 3, 0, 0, [], .invokevirtual 277),
  (0, 26, 3, 191, 0, [], .if_icmp .ge 165),
  (0, 29, 1, 0, 0, [], .iload_n 1),
  (0, 30, 1, 0, 0, [], .iload_n 2),
  (0, 31, 3, 0, 0, [], .invokestatic 264),
  (0, 34, 1, 0, 0, [], .istore_n 3),
  (0, 35, 1, 0, 0, [], .aload_n 0),
  (0, 36, 3, 0, 0, [], .getfield 101),
  (0, 39, 1, 0, 0, [], .iload_n 3),
  (0, 40, 1, 0, 0, [], .iaload),
  (0, 41, 1, 0, 3, [], .iconst 3),
  (0, 42, 3, 95, 0, [], .if_icmp .ne 53),
  (0, 45, 1, 0, 0, [], .aload_n 0),
  (0, 46, 3, 0, 0, [], .getfield 280),
  (0, 49, 3, 95, 0, [], .ifCond .le 46),
  (0, 52, 1, 0, 0, [], .aload_n 0),
  (0, 53, 3, 0, 0, [], .getfield 101),
  (0, 56, 1, 0, 0, [], .iload_n 3),
  (0, 57, 1, 0, 1, [], .iconst 1),
  (0, 58, 1, 0, 0, [], .iadd),
  (0, 59, 1, 0, 0, [], .iaload),
  (0, 60, 1, 0, 0, [], .aload_n 0),
  (0, 61, 3, 0, 0, [], .getfield 101),
  (0, 64, 1, 0, 0, [], .iload_n 3),
  (0, 65, 1, 0, 2, [], .iconst 2),
  (0, 66, 1, 0, 0, [], .iadd),
  (0, 67, 1, 0, 0, [], .iaload),
  (0, 68, 1, 0, 0, [], .isub),
  (0, 69, 1, 0, 0, [], .aload_n 0),
  (0, 70, 3, 0, 0, [], .getfield 280),
  (0, 73, 3, 95, 0, [], .if_icmp .ne 22),
  (0, 76, 1, 0, 0, [], .aload_n 0),
  (0, 77, 3, 0, 0, [], .getfield 101),
  (0, 80, 1, 0, 0, [], .iload_n 3),
  (0, 81, 1, 0, 3, [], .iconst 3),
  (0, 82, 1, 0, 0, [], .iadd),
  (0, 83, 1, 0, 0, [], .iaload),
  (0, 84, 1, 0, 0, [], .aload_n 0),
  (0, 85, 3, 0, 0, [], .getfield 283),
  (0, 88, 3, 95, 0, [], .if_icmp .ne 7),
  (0, 91, 1, 0, 1, [], .iconst 1),
  (0, 92, 3, 96, 0, [], .goto 4),
  (0, 95, 1, 0, 0, [], .iconst 0),
  (0, 96, 2, 0, 0, [], .istore 4),
  (0, 98, 1, 0, 0, [], .iconst 0),
  (0, 99, 2, 0, 0, [], .istore 5),
  (1, 101, 2, 0, 0, [], .iload 4),
  (0, 103, 3, 185, 0, [], .ifCond .eq 82),
  (0, 106, 2, 0, 0, [], .iload 5),
  (0, 108, 1, 0, 0, [], .aload_n 0),
  (0, 109, 3, 0, 0, [], .getfield 101),
  (0, 112, 1, 0, 0, [], .iload_n 3),
  (0, 113, 1, 0, 4, [], .iconst 4),
  (0, 114, 1, 0, 0, [], .iadd),
  (0, 115, 1, 0, 0, [], .iaload),
  (0, 116, 3, 185, 0, [], .if_icmp .ge 69),
  (0, 119, 1, 0, 0, [], .aload_n 0),
  (0, 120, 1, 0, 0, [], .iload_n 1),
  (0, 121, 1, 0, 1, [], .iconst 1),
  (0, 122, 1, 0, 0, [], .aload_n 0),
  (0, 123, 3, 0, 0, [], .getfield 101),
  (0, 126, 1, 0, 0, [], .iload_n 3),
  (0, 127, 2, 0, 6, [], .bipush 6),
  (0, 129, 1, 0, 0, [], .iadd),
  (0, 130, 1, 0, 2, [], .iconst 2),
  (0, 131, 2, 0, 0, [], .iload 5),
  (0, 133, 1, 0, 0, [], .imul),
  (0, 134, 1, 0, 0, [], .iadd),
  (0, 135, 1, 0, 0, [], .iaload),
  (0, 136, 3, 0, 0, [], .invokevirtual 377),
  (0, 139, 3, 179, 0, [], .ifCond .lt 40),
  (0, 142, 1, 0, 0, [], .aload_n 0),
  (0, 143, 3, 0, 0, [], .getfield 101),
  (0, 146, 1, 0, 0, [], .iload_n 1),
  (0, 147, 2, 0, 14, [], .bipush 14),
  (0, 149, 1, 0, 0, [], .iadd),
  (0, 150, 1, 0, 0, [], .aload_n 0),
  (0, 151, 3, 0, 0, [], .getfield 101),
  (0, 154, 1, 0, 0, [], .iload_n 3),
  (0, 155, 1, 0, 5, [], .iconst 5),
  (0, 156, 1, 0, 0, [], .iadd),
  (0, 157, 1, 0, 2, [], .iconst 2),
  (0, 158, 2, 0, 0, [], .iload 5),
  (0, 160, 1, 0, 0, [], .imul),
  (0, 161, 1, 0, 0, [], .iadd),
  (0, 162, 1, 0, 0, [], .iaload),
  (0, 163, 1, 0, 0, [], .iadd),
  (0, 164, 1, 0, 0, [], .aload_n 0),
  (0, 165, 3, 0, 0, [], .getfield 101),
  (0, 168, 1, 0, 0, [], .iload_n 3),
  (0, 169, 2, 0, 6, [], .bipush 6),
  (0, 171, 1, 0, 0, [], .iadd),
  (0, 172, 1, 0, 2, [], .iconst 2),
  (0, 173, 2, 0, 0, [], .iload 5),
  (0, 175, 1, 0, 0, [], .imul),
  (0, 176, 1, 0, 0, [], .iadd),
  (0, 177, 1, 0, 0, [], .iaload),
  (0, 178, 1, 0, 0, [], .iastore),
  (0, 179, 3, 0, 1, [], .iinc 5 1),
  (0, 182, 3, 101, 0, [], .goto (-81)),
  (0, 185, 3, 0, 1, [], .iinc 2 1),
  (0, 188, 3, 21, 0, [], .goto (-167)),
  (0, 191, 1, 0, 0, [], .iconst 0),
  (0, 192, 1, 0, 0, [], .istore_n 2),
  (0, 193, 1, 0, 0, [], .iconst 0),
  (0, 194, 1, 0, 0, [], .istore_n 3),
  (1, 195, 1, 0, 0, [], .iload_n 3),
  (0, 196, 1, 0, 0, [], .aload_n 0),
  (0, 197, 3, 0, 0, [], .invokevirtual 277),
  (0, 200, 3, 261, 0, [], .if_icmp .ge 61),
  (0, 203, 1, 0, 0, [], .aload_n 0),
  (0, 204, 1, 0, 0, [], .iload_n 1),
  (0, 205, 1, 0, 0, [], .iload_n 3),
  (0, 206, 3, 0, 0, [], .invokevirtual 290),
  (0, 209, 3, 226, 0, [], .ifCond .eq 17),
  (0, 212, 1, 0, 0, [], .aload_n 0),
  (0, 213, 1, 0, 0, [], .iload_n 1),
  (0, 214, 1, 0, 0, [], .iload_n 3),
  (0, 215, 3, 0, 0, [], .invokevirtual 290),
  (0, 218, 1, 0, 4, [], .iconst 4),
  (0, 219, 3, 226, 0, [], .if_icmp .eq 7),
  (0, 222, 1, 0, 1, [], .iconst 1),
  (0, 223, 3, 227, 0, [], .goto 4),
  (0, 226, 1, 0, 0, [], .iconst 0),
  (1, 227, 2, 0, 0, [], .istore 4),
  (0, 229, 2, 0, 0, [], .iload 4),
  (0, 231, 3, 253, 0, [], .ifCond .eq 22),
  (0, 234, 1, 0, 0, [], .aload_n 0),
  (0, 235, 1, 0, 0, [], .iload_n 1),
  (0, 236, 1, 0, 0, [], .iload_n 3),
  (0, 237, 3, 0, 0, [], .invokevirtual 293),
  (0, 240, 1, 0, 0, [], .iload_n 2),
  (0, 241, 3, 253, 0, [], .if_icmp .le 12),
  (0, 244, 1, 0, 0, [], .aload_n 0),
  (0, 245, 1, 0, 0, [], .iload_n 1),
  (0, 246, 1, 0, 0, [], .iload_n 3),
  (0, 247, 3, 0, 0, [], .invokevirtual 293),
  (0, 250, 3, 254, 0, [], .goto 4),
  (0, 253, 1, 0, 0, [], .iload_n 2),
  (0, 254, 1, 0, 0, [], .istore_n 2),
  (0, 255, 3, 0, 1, [], .iinc 3 1),
  (0, 258, 3, 195, 0, [], .goto (-63)),
  (0, 261, 1, 0, 0, [], .iconst 0),
  (0, 262, 1, 0, 0, [], .istore_n 3),
  (0, 263, 1, 0, 0, [], .aload_n 0),
  (0, 264, 3, 0, 0, [], .invokevirtual 296),
  (0, 267, 1, 0, 1, [], .iconst 1),
  (0, 268, 1, 0, 0, [], .iadd),
  (0, 269, 2, 0, 0, [], .istore 4),
  (1, 271, 2, 0, 0, [], .iload 4),
  (0, 273, 1, 0, 0, [], .iload_n 2),
  (0, 274, 3, 393, 0, [], .if_icmp .gt 119),
  (0, 277, 1, 0, 0, [], .aload_n 0),
  (0, 278, 1, 0, 0, [], .iload_n 1),
  (0, 279, 1, 0, 1, [], .iconst 1),
  (0, 280, 2, 0, 0, [], .iload 4),
  (0, 282, 3, 0, 0, [], .invokevirtual 377),
  (0, 285, 2, 0, 0, [], .istore 5),
  (0, 287, 1, 0, 0, [], .aload_n 0),
  (0, 288, 1, 0, 0, [], .iload_n 1),
  (0, 289, 1, 0, 2, [], .iconst 2),
  (0, 290, 2, 0, 0, [], .iload 4),
  (0, 292, 3, 0, 0, [], .invokevirtual 377),
  (0, 295, 2, 0, 0, [], .istore 6),
  (0, 297, 1, 0, 0, [], .iload_n 3),
  (0, 298, 2, 0, 0, [], .iload 5),
  (0, 300, 3, 308, 0, [], .ifCond .ge 8),
  (0, 303, 2, 0, 0, [], .iload 6),
  (0, 305, 3, 312, 0, [], .ifCond .lt 7),
  (0, 308, 1, 0, 1, [], .iconst 1),
  (0, 309, 3, 313, 0, [], .goto 4),
  (0, 312, 1, 0, 0, [], .iconst 0),
  (1, 313, 1, 0, 0, [], .iadd),
  (0, 314, 1, 0, 0, [], .istore_n 3),
  (0, 315, 2, 0, 0, [], .iload 5),
  (0, 317, 3, 364, 0, [], .ifCond .lt 47),
  (0, 320, 1, 0, 0, [], .aload_n 0),
  (0, 321, 3, 0, 0, [], .getfield 101),
  (0, 324, 1, 0, 0, [], .iload_n 1),
  (0, 325, 2, 0, 14, [], .bipush 14),
  (0, 327, 1, 0, 0, [], .iadd),
  (0, 328, 1, 0, 4, [], .iconst 4),
  (0, 329, 1, 0, 0, [], .aload_n 0),
  (0, 330, 3, 0, 0, [], .getfield 101),
  (0, 333, 1, 0, 0, [], .iload_n 1),
  (0, 334, 2, 0, 0, [], .iload 5),
  (0, 336, 3, 0, 0, [], .invokestatic 264),
  (0, 339, 1, 0, 2, [], .iconst 2),
  (0, 340, 1, 0, 0, [], .iadd),
  (0, 341, 1, 0, 0, [], .iaload),
  (0, 342, 1, 0, 0, [], .imul),
  (0, 343, 1, 0, 0, [], .iadd),
  (0, 344, 1, 0, 0, [], .aload_n 0),
  (0, 345, 3, 0, 0, [], .getfield 101),
  (0, 348, 1, 0, 0, [], .iload_n 1),
  (0, 349, 2, 0, 0, [], .iload 5),
  (0, 351, 3, 0, 0, [], .invokestatic 264),
  (0, 354, 1, 0, 3, [], .iconst 3),
  (0, 355, 1, 0, 0, [], .iadd),
  (0, 356, 1, 0, 0, [], .iaload),
  (0, 357, 1, 0, 0, [], .iadd),
  (0, 358, 2, 0, 0, [], .iload 4),
  (0, 360, 1, 0, 0, [], .iastore),
  (0, 361, 3, 387, 0, [], .goto 26),
  (0, 364, 2, 0, 0, [], .iload 6),
  (0, 366, 3, 387, 0, [], .ifCond .lt 21),
  (0, 369, 1, 0, 0, [], .aload_n 0),
  (0, 370, 1, 0, 0, [], .iload_n 1),
  (0, 371, 1, 0, 0, [], .aload_n 0),
  (0, 372, 3, 0, 0, [], .getfield 101),
  (0, 375, 1, 0, 0, [], .iload_n 1),
  (0, 376, 2, 0, 0, [], .iload 6),
  (0, 378, 3, 0, 0, [], .invokestatic 264),
  (0, 381, 1, 0, 2, [], .iconst 2),
  (0, 382, 1, 0, 0, [], .iadd),
  (0, 383, 1, 0, 0, [], .iaload),
  (0, 384, 3, 0, 0, [], .invokevirtual 374),
  (0, 387, 3, 0, 1, [], .iinc 4 1),
  (0, 390, 3, 271, 0, [], .goto (-119)),
  (0, 393, 1, 0, 0, [], .aload_n 0),
  (0, 394, 3, 0, 0, [], .getfield 101),
  (0, 397, 1, 0, 0, [], .iload_n 1),
  (0, 398, 1, 0, 0, [], .iconst 0),
  (0, 399, 1, 0, 0, [], .iadd),
  (0, 400, 1, 0, 0, [], .iload_n 2),
  (0, 401, 1, 0, 0, [], .iastore),
  (0, 402, 1, 0, 0, [], .aload_n 0),
  (0, 403, 3, 0, 0, [], .getfield 101),
  (0, 406, 1, 0, 0, [], .iload_n 1),
  (0, 407, 1, 0, 1, [], .iconst 1),
  (0, 408, 1, 0, 0, [], .iadd),
  (0, 409, 1, 0, (-1), [], .iconst (-1)),
  (0, 410, 1, 0, 0, [], .iastore),
  (0, 411, 1, 0, 0, [], .aload_n 0),
  (0, 412, 3, 0, 0, [], .invokevirtual 252),
  (0, 415, 1, 0, 1, [], .iconst 1),
  (0, 416, 1, 0, 0, [], .isub),
  (0, 417, 2, 0, 0, [], .istore 4),
  (1, 419, 2, 0, 0, [], .iload 4),
  (0, 421, 3, 475, 0, [], .ifCond .lt 54),
  (0, 424, 1, 0, 0, [], .aload_n 0),
  (0, 425, 3, 0, 0, [], .getfield 101),
  (0, 428, 1, 0, 0, [], .iload_n 1),
  (0, 429, 1, 0, 1, [], .iconst 1),
  (0, 430, 1, 0, 0, [], .iadd),
  (0, 431, 1, 0, 0, [], .aload_n 0),
  (0, 432, 1, 0, 0, [], .iload_n 1),
  (0, 433, 2, 0, 0, [], .iload 4),
  (0, 435, 3, 0, 0, [], .invokevirtual 311),
  (0, 438, 3, 460, 0, [], .ifCond .le 22),
  (0, 441, 1, 0, 0, [], .aload_n 0),
  (0, 442, 1, 0, 0, [], .iload_n 1),
  (0, 443, 2, 0, 0, [], .iload 4),
  (0, 445, 3, 0, 0, [], .invokevirtual 311),
  (0, 448, 1, 0, 0, [], .aload_n 0),
  (0, 449, 3, 0, 0, [], .invokevirtual 255),
  (0, 452, 3, 460, 0, [], .if_icmp .ge 8),
  (0, 455, 2, 0, 0, [], .iload 4),
  (0, 457, 3, 468, 0, [], .goto 11),
  (0, 460, 1, 0, 0, [], .aload_n 0),
  (0, 461, 3, 0, 0, [], .getfield 101),
  (0, 464, 1, 0, 0, [], .iload_n 1),
  (0, 465, 1, 0, 1, [], .iconst 1),
  (0, 466, 1, 0, 0, [], .iadd),
  (0, 467, 1, 0, 0, [], .iaload),
  (0, 468, 1, 0, 0, [], .iastore),
  (0, 469, 3, 0, (-1), [], .iinc 4 (-1)),
  (0, 472, 3, 419, 0, [], .goto (-53)),
  (0, 475, 1, 0, 0, [], .iload_n 3),
  (0, 476, 1, 0, 0, [], .ireturn)]
def L_X12_mounts_419 (fu : Nat) : Nat → Nat → Int32 → Int32 → Int32 → xM → Option (Int32 × xM)
  | 0, _, _, _, _, _ => none
  | n + 1, s, x1, x3, x4, M =>
    if x4 < 0 then
      (some (x3, M))
    else
      (F_X12_erasedIn fu s x1 x4 M).bind fun p_1 =>
      if p_1.1 ≤ 0 then
        (gR p_1.2 12 s 17).bind fun a_2 =>
        gd (xin (x1 + 1) (gN p_1.2 20 a_2)) <|
        (gR M 12 s 17).bind fun a_3 =>
        gd (xin (x1 + 1) (gN p_1.2 20 a_3)) <|
        let M_4 := sI p_1.2 20 a_3 (xi (x1 + 1)) (gI p_1.2 20 a_2 (xi (x1 + 1)))
        L_X12_mounts_419 fu n s x1 x3 (x4 + (-1)) M_4
      else
        (F_X12_erasedIn fu s x1 x4 p_1.2).bind fun p_5 =>
        (F_X12_wide fu s p_5.2).bind fun p_6 =>
        if p_6.1 ≤ p_5.1 then
          (gR p_6.2 12 s 17).bind fun a_7 =>
          gd (xin (x1 + 1) (gN p_6.2 20 a_7)) <|
          (gR M 12 s 17).bind fun a_8 =>
          gd (xin (x1 + 1) (gN p_6.2 20 a_8)) <|
          let M_9 := sI p_6.2 20 a_8 (xi (x1 + 1)) (gI p_6.2 20 a_7 (xi (x1 + 1)))
          L_X12_mounts_419 fu n s x1 x3 (x4 + (-1)) M_9
        else
          (gR M 12 s 17).bind fun a_10 =>
          gd (xin (x1 + 1) (gN p_6.2 20 a_10)) <|
          let M_11 := sI p_6.2 20 a_10 (xi (x1 + 1)) x4
          L_X12_mounts_419 fu n s x1 x3 (x4 + (-1)) M_11
set_option maxRecDepth 100000 in
theorem q_X12_mounts_419 (fu : Nat) (n : Nat) (s : Nat) (x1 : Int32) (x3 : Int32) (x4 : Int32) (M : xM) :
    xrun pX12_mounts flX12 koX12 nwX12 [(255, 1, 0, 0, w_X12_wide fu), (311, 3, 0, 0, w_X12_erasedIn fu)] [(419, fun bc bs ls st M => xz bc bs (lR ls 0 12 fun o => o.bind fun s => lI ls 1 fun x1 => lI ls 3 fun x3 => lI ls 4 fun x4 => xe st (L_X12_mounts_419 fu n s x1 x3 x4 M)))] xrtI 289 (xat 419 pX12_mounts) 0 0 [(0, .inr (.inr (12, some s))), (1, .inl x1), (3, .inl x3), (4, .inl x4)] [] M = L_X12_mounts_419 fu (n + 1) s x1 x3 x4 M := rfl
def J_X12_mounts_313 (fu : Nat) (k271 : Nat → Int32 → Int32 → Int32 → Int32 → xM → Option (Int32 × xM)) (s : Nat) (x1 : Int32) (x2 : Int32) (x4 : Int32) (x5 : Int32) (x6 : Int32) (y0 : Int32) (y1 : Int32) (M : xM) : Option (Int32 × xM) :=
  let x3_1 : Int32 := y1 + y0
  if x5 < 0 then
    if x6 < 0 then
      k271 s x1 x2 x3_1 (x4 + 1) M
    else
      (F_X12_slotAt fu x1 x6 M).bind fun p_2 =>
      (gR M 12 s 17).bind fun a_3 =>
      gd (xin (p_2.1 + 2) (gN p_2.2 20 a_3)) <|
      (F_X12_unmaps fu s x1 (gI p_2.2 20 a_3 (xi (p_2.1 + 2))) p_2.2).bind fun p_4 =>
      k271 s x1 x2 x3_1 (x4 + 1) p_4
  else
    (F_X12_slotAt fu x1 x5 M).bind fun p_5 =>
    (gR M 12 s 17).bind fun a_6 =>
    gd (xin (p_5.1 + 2) (gN p_5.2 20 a_6)) <|
    (F_X12_slotAt fu x1 x5 p_5.2).bind fun p_7 =>
    (gR p_5.2 12 s 17).bind fun a_8 =>
    gd (xin (p_7.1 + 3) (gN p_7.2 20 a_8)) <|
    (gR M 12 s 17).bind fun a_9 =>
    gd (xin (((x1 + 14) + (4 * (gI p_5.2 20 a_6 (xi (p_5.1 + 2))))) + (gI p_7.2 20 a_8 (xi (p_7.1 + 3)))) (gN p_7.2 20 a_9)) <|
    let M_10 := sI p_7.2 20 a_9 (xi (((x1 + 14) + (4 * (gI p_5.2 20 a_6 (xi (p_5.1 + 2))))) + (gI p_7.2 20 a_8 (xi (p_7.1 + 3))))) x4
    k271 s x1 x2 x3_1 (x4 + 1) M_10
set_option maxRecDepth 100000 in
theorem q_X12_mounts_313 (fu : Nat) (k271 : Nat → Int32 → Int32 → Int32 → Int32 → xM → Option (Int32 × xM)) (s : Nat) (x1 : Int32) (x2 : Int32) (x4 : Int32) (x5 : Int32) (x6 : Int32) (y0 : Int32) (y1 : Int32) (M : xM) :
    xrun pX12_mounts flX12 koX12 nwX12 [(264, 2, 0, 0, w_X12_slotAt fu), (374, 3, 0, 0, w_X12_unmaps fu)] [(271, fun bc bs ls st M => xz bc bs (lR ls 0 12 fun o => o.bind fun s => lI ls 1 fun x1 => lI ls 2 fun x2 => lI ls 3 fun x3 => lI ls 4 fun x4 => xe st (k271 s x1 x2 x3 x4 M)))] xrtI 289 (xat 313 pX12_mounts) 0 0 [(0, .inr (.inr (12, some s))), (1, .inl x1), (2, .inl x2), (4, .inl x4), (5, .inl x5), (6, .inl x6)] [.inl y0, .inl y1] M = J_X12_mounts_313 fu k271 s x1 x2 x4 x5 x6 y0 y1 M := rfl
def L_X12_mounts_271 (fu : Nat) : Nat → Nat → Int32 → Int32 → Int32 → Int32 → xM → Option (Int32 × xM)
  | 0, _, _, _, _, _, _ => none
  | n + 1, s, x1, x2, x3, x4, M =>
    if x2 < x4 then
      (gR M 12 s 17).bind fun a_1 =>
      gd (xin (x1 + 0) (gN M 20 a_1)) <|
      let M_2 := sI M 20 a_1 (xi (x1 + 0)) x2
      (gR M_2 12 s 17).bind fun a_3 =>
      gd (xin (x1 + 1) (gN M_2 20 a_3)) <|
      let M_4 := sI M_2 20 a_3 (xi (x1 + 1)) ((-1))
      (F_X12_blocks fu s M_4).bind fun p_5 =>
      let x4_6 : Int32 := p_5.1 - 1
      L_X12_mounts_419 fu fu s x1 x3 x4_6 p_5.2
    else
      (F_X12_slotOf fu s x1 1 x4 M).bind fun p_7 =>
      (F_X12_slotOf fu s x1 2 x4 p_7.2).bind fun p_8 =>
      if 0 ≤ p_7.1 then
        J_X12_mounts_313 fu (L_X12_mounts_271 fu n) s x1 x2 x4 p_7.1 p_8.1 1 x3 p_8.2
      else
        if p_8.1 < 0 then
          J_X12_mounts_313 fu (L_X12_mounts_271 fu n) s x1 x2 x4 p_7.1 p_8.1 0 x3 p_8.2
        else
          J_X12_mounts_313 fu (L_X12_mounts_271 fu n) s x1 x2 x4 p_7.1 p_8.1 1 x3 p_8.2
set_option maxRecDepth 100000 in
theorem q_X12_mounts_271 (fu : Nat) (n : Nat) (s : Nat) (x1 : Int32) (x2 : Int32) (x3 : Int32) (x4 : Int32) (M : xM) :
    xrun pX12_mounts flX12 koX12 nwX12 [(252, 1, 0, 0, w_X12_blocks fu), (377, 4, 0, 0, w_X12_slotOf fu)] [(313, fun bc bs ls st M => xz bc bs (lR ls 0 12 fun o => o.bind fun s => lI ls 1 fun x1 => lI ls 2 fun x2 => lI ls 4 fun x4 => lI ls 5 fun x5 => lI ls 6 fun x6 => pI st fun y0 st => pI st fun y1 st => xe st (J_X12_mounts_313 fu (L_X12_mounts_271 fu n) s x1 x2 x4 x5 x6 y0 y1 M))),
    (419, fun bc bs ls st M => xz bc bs (lR ls 0 12 fun o => o.bind fun s => lI ls 1 fun x1 => lI ls 3 fun x3 => lI ls 4 fun x4 => xe st (L_X12_mounts_419 fu fu s x1 x3 x4 M)))] xrtI 289 (xat 271 pX12_mounts) 0 0 [(0, .inr (.inr (12, some s))), (1, .inl x1), (2, .inl x2), (3, .inl x3), (4, .inl x4)] [] M = L_X12_mounts_271 fu (n + 1) s x1 x2 x3 x4 M := rfl
def J_X12_mounts_227 (fu : Nat) (k195 : Nat → Int32 → Int32 → Int32 → xM → Option (Int32 × xM)) (s : Nat) (x1 : Int32) (x2 : Int32) (x3 : Int32) (y0 : Int32) (M : xM) : Option (Int32 × xM) :=
  if y0 = 0 then
    k195 s x1 x2 (x3 + 1) M
  else
    (F_X12_numberOf fu s x1 x3 M).bind fun p_1 =>
    if p_1.1 ≤ x2 then
      k195 s x1 x2 (x3 + 1) p_1.2
    else
      (F_X12_numberOf fu s x1 x3 p_1.2).bind fun p_2 =>
      k195 s x1 p_2.1 (x3 + 1) p_2.2
set_option maxRecDepth 100000 in
theorem q_X12_mounts_227 (fu : Nat) (k195 : Nat → Int32 → Int32 → Int32 → xM → Option (Int32 × xM)) (s : Nat) (x1 : Int32) (x2 : Int32) (x3 : Int32) (y0 : Int32) (M : xM) :
    xrun pX12_mounts flX12 koX12 nwX12 [(293, 3, 0, 0, w_X12_numberOf fu)] [(195, fun bc bs ls st M => xz bc bs (lR ls 0 12 fun o => o.bind fun s => lI ls 1 fun x1 => lI ls 2 fun x2 => lI ls 3 fun x3 => xe st (k195 s x1 x2 x3 M)))] xrtI 289 (xat 227 pX12_mounts) 0 0 [(0, .inr (.inr (12, some s))), (1, .inl x1), (2, .inl x2), (3, .inl x3)] [.inl y0] M = J_X12_mounts_227 fu k195 s x1 x2 x3 y0 M := rfl
def L_X12_mounts_195 (fu : Nat) : Nat → Nat → Int32 → Int32 → Int32 → xM → Option (Int32 × xM)
  | 0, _, _, _, _, _ => none
  | n + 1, s, x1, x2, x3, M =>
    (F_X12_allSlots fu s M).bind fun p_1 =>
    if p_1.1 ≤ x3 then
      (F_X12_base fu s p_1.2).bind fun p_2 =>
      let x4_3 : Int32 := p_2.1 + 1
      L_X12_mounts_271 fu fu s x1 x2 0 x4_3 p_2.2
    else
      (F_X12_typeOf fu s x1 x3 p_1.2).bind fun p_4 =>
      if p_4.1 = 0 then
        J_X12_mounts_227 fu (L_X12_mounts_195 fu n) s x1 x2 x3 0 p_4.2
      else
        (F_X12_typeOf fu s x1 x3 p_4.2).bind fun p_5 =>
        if p_5.1 = 4 then
          J_X12_mounts_227 fu (L_X12_mounts_195 fu n) s x1 x2 x3 0 p_5.2
        else
          J_X12_mounts_227 fu (L_X12_mounts_195 fu n) s x1 x2 x3 1 p_5.2
set_option maxRecDepth 100000 in
theorem q_X12_mounts_195 (fu : Nat) (n : Nat) (s : Nat) (x1 : Int32) (x2 : Int32) (x3 : Int32) (M : xM) :
    xrun pX12_mounts flX12 koX12 nwX12 [(277, 1, 0, 0, w_X12_allSlots fu), (290, 3, 0, 0, w_X12_typeOf fu), (296, 1, 0, 0, w_X12_base fu)] [(227, fun bc bs ls st M => xz bc bs (lR ls 0 12 fun o => o.bind fun s => lI ls 1 fun x1 => lI ls 2 fun x2 => lI ls 3 fun x3 => pI st fun y0 st => xe st (J_X12_mounts_227 fu (L_X12_mounts_195 fu n) s x1 x2 x3 y0 M))),
    (271, fun bc bs ls st M => xz bc bs (lR ls 0 12 fun o => o.bind fun s => lI ls 1 fun x1 => lI ls 2 fun x2 => lI ls 3 fun x3 => lI ls 4 fun x4 => xe st (L_X12_mounts_271 fu fu s x1 x2 x3 x4 M)))] xrtI 289 (xat 195 pX12_mounts) 0 0 [(0, .inr (.inr (12, some s))), (1, .inl x1), (2, .inl x2), (3, .inl x3)] [] M = L_X12_mounts_195 fu (n + 1) s x1 x2 x3 M := rfl
def L_X12_mounts_101 (fu : Nat) (k21 : Nat → Int32 → Int32 → xM → Option (Int32 × xM)) : Nat → Nat → Int32 → Int32 → Int32 → Int32 → Int32 → xM → Option (Int32 × xM)
  | 0, _, _, _, _, _, _, _ => none
  | n + 1, s, x1, x2, x3, x4, x5, M =>
    if x4 = 0 then
      k21 s x1 (x2 + 1) M
    else
      (gR M 12 s 17).bind fun a_1 =>
      gd (xin (x3 + 4) (gN M 20 a_1)) <|
      if (gI M 20 a_1 (xi (x3 + 4))) ≤ x5 then
        k21 s x1 (x2 + 1) M
      else
        (gR M 12 s 17).bind fun a_2 =>
        gd (xin ((x3 + 6) + (2 * x5)) (gN M 20 a_2)) <|
        (F_X12_slotOf fu s x1 1 (gI M 20 a_2 (xi ((x3 + 6) + (2 * x5)))) M).bind fun p_3 =>
        if p_3.1 < 0 then
          L_X12_mounts_101 fu k21 n s x1 x2 x3 x4 (x5 + 1) p_3.2
        else
          (gR p_3.2 12 s 17).bind fun a_4 =>
          gd (xin ((x3 + 5) + (2 * x5)) (gN p_3.2 20 a_4)) <|
          (gR p_3.2 12 s 17).bind fun a_5 =>
          gd (xin ((x3 + 6) + (2 * x5)) (gN p_3.2 20 a_5)) <|
          (gR p_3.2 12 s 17).bind fun a_6 =>
          gd (xin ((x1 + 14) + (gI p_3.2 20 a_4 (xi ((x3 + 5) + (2 * x5))))) (gN p_3.2 20 a_6)) <|
          let M_7 := sI p_3.2 20 a_6 (xi ((x1 + 14) + (gI p_3.2 20 a_4 (xi ((x3 + 5) + (2 * x5)))))) (gI p_3.2 20 a_5 (xi ((x3 + 6) + (2 * x5))))
          L_X12_mounts_101 fu k21 n s x1 x2 x3 x4 (x5 + 1) M_7
set_option maxRecDepth 100000 in
theorem q_X12_mounts_101 (fu : Nat) (k21 : Nat → Int32 → Int32 → xM → Option (Int32 × xM)) (n : Nat) (s : Nat) (x1 : Int32) (x2 : Int32) (x3 : Int32) (x4 : Int32) (x5 : Int32) (M : xM) :
    xrun pX12_mounts flX12 koX12 nwX12 [(377, 4, 0, 0, w_X12_slotOf fu)] [(21, fun bc bs ls st M => xz bc bs (lR ls 0 12 fun o => o.bind fun s => lI ls 1 fun x1 => lI ls 2 fun x2 => xe st (k21 s x1 x2 M))),
    (101, fun bc bs ls st M => xz bc bs (lR ls 0 12 fun o => o.bind fun s => lI ls 1 fun x1 => lI ls 2 fun x2 => lI ls 3 fun x3 => lI ls 4 fun x4 => lI ls 5 fun x5 => xe st (L_X12_mounts_101 fu k21 n s x1 x2 x3 x4 x5 M)))] xrtI 289 (xat 101 pX12_mounts) 0 0 [(0, .inr (.inr (12, some s))), (1, .inl x1), (2, .inl x2), (3, .inl x3), (4, .inl x4), (5, .inl x5)] [] M = L_X12_mounts_101 fu k21 (n + 1) s x1 x2 x3 x4 x5 M := rfl
def L_X12_mounts_21 (fu : Nat) : Nat → Nat → Int32 → Int32 → xM → Option (Int32 × xM)
  | 0, _, _, _, _ => none
  | n + 1, s, x1, x2, M =>
    (F_X12_allSlots fu s M).bind fun p_1 =>
    if p_1.1 ≤ x2 then
      L_X12_mounts_195 fu fu s x1 0 0 p_1.2
    else
      (F_X12_slotAt fu x1 x2 p_1.2).bind fun p_2 =>
      (gR p_2.2 12 s 17).bind fun a_3 =>
      gd (xin p_2.1 (gN p_2.2 20 a_3)) <|
      if ¬ (gI p_2.2 20 a_3 (xi p_2.1)) = 3 then
        L_X12_mounts_101 fu (L_X12_mounts_21 fu n) fu s x1 x2 p_2.1 0 0 p_2.2
      else
        if (gI p_2.2 12 s 20) ≤ 0 then
          L_X12_mounts_101 fu (L_X12_mounts_21 fu n) fu s x1 x2 p_2.1 0 0 p_2.2
        else
          (gR p_2.2 12 s 17).bind fun a_4 =>
          gd (xin (p_2.1 + 1) (gN p_2.2 20 a_4)) <|
          (gR p_2.2 12 s 17).bind fun a_5 =>
          gd (xin (p_2.1 + 2) (gN p_2.2 20 a_5)) <|
          if ¬ ((gI p_2.2 20 a_4 (xi (p_2.1 + 1))) - (gI p_2.2 20 a_5 (xi (p_2.1 + 2)))) = (gI p_2.2 12 s 20) then
            L_X12_mounts_101 fu (L_X12_mounts_21 fu n) fu s x1 x2 p_2.1 0 0 p_2.2
          else
            (gR p_2.2 12 s 17).bind fun a_6 =>
            gd (xin (p_2.1 + 3) (gN p_2.2 20 a_6)) <|
            if ¬ (gI p_2.2 20 a_6 (xi (p_2.1 + 3))) = (gI p_2.2 12 s 21) then
              L_X12_mounts_101 fu (L_X12_mounts_21 fu n) fu s x1 x2 p_2.1 0 0 p_2.2
            else
              L_X12_mounts_101 fu (L_X12_mounts_21 fu n) fu s x1 x2 p_2.1 1 0 p_2.2
set_option maxRecDepth 100000 in
theorem q_X12_mounts_21 (fu : Nat) (n : Nat) (s : Nat) (x1 : Int32) (x2 : Int32) (M : xM) :
    xrun pX12_mounts flX12 koX12 nwX12 [(264, 2, 0, 0, w_X12_slotAt fu), (277, 1, 0, 0, w_X12_allSlots fu)] [(101, fun bc bs ls st M => xz bc bs (lR ls 0 12 fun o => o.bind fun s => lI ls 1 fun x1 => lI ls 2 fun x2 => lI ls 3 fun x3 => lI ls 4 fun x4 => lI ls 5 fun x5 => xe st (L_X12_mounts_101 fu (L_X12_mounts_21 fu n) fu s x1 x2 x3 x4 x5 M))),
    (195, fun bc bs ls st M => xz bc bs (lR ls 0 12 fun o => o.bind fun s => lI ls 1 fun x1 => lI ls 2 fun x2 => lI ls 3 fun x3 => xe st (L_X12_mounts_195 fu fu s x1 x2 x3 M)))] xrtI 289 (xat 21 pX12_mounts) 0 0 [(0, .inr (.inr (12, some s))), (1, .inl x1), (2, .inl x2)] [] M = L_X12_mounts_21 fu (n + 1) s x1 x2 M := rfl
def F_X12_mounts (fu : Nat) (s : Nat) (x1 : Int32) (M : xM) : Option (Int32 × xM) :=
  (F_X12_powersOff fu s x1 M).bind fun p_1 =>
  (gR p_1 12 s 17).bind fun a_2 =>
  gd (xin (x1 + 2) (gN p_1 20 a_2)) <|
  let M_3 := sI p_1 20 a_2 (xi (x1 + 2)) 1
  (F_X12_looks fu s x1 M_3).bind fun p_4 =>
  L_X12_mounts_21 fu fu s x1 0 p_4
set_option maxRecDepth 100000 in
theorem q_X12_mounts (fu : Nat) (s : Nat) (x1 : Int32) (M : xM) :
    xrun pX12_mounts flX12 koX12 nwX12 [(305, 2, 0, 0, w_X12_looks fu), (317, 2, 0, 0, w_X12_powersOff fu)] [(21, fun bc bs ls st M => xz bc bs (lR ls 0 12 fun o => o.bind fun s => lI ls 1 fun x1 => lI ls 2 fun x2 => xe st (L_X12_mounts_21 fu fu s x1 x2 M)))] xrtI 289 (xat 0 pX12_mounts) 0 0 [(0, .inr (.inr (12, some s))), (1, .inl x1)] [] M = F_X12_mounts fu s x1 M := rfl
def w_X12_mounts (fu : Nat) {ρ : Type} (as : List xV) (M : xM) (k : Option xV → xM → Option ρ) : Option ρ := pR 12 as fun o as => o.bind fun s => pI as fun x1 as => xe as ((F_X12_mounts fu s x1 M).bind fun p => k (some (.inl p.1)) p.2)
def pX12_mapOf : List xE := [(0, 0, 1, 0, 0, [], .aload_n 0),
  (0, 1, 3, 0, 0, [], .getfield 101),
  (0, 4, 1, 0, 0, [], .iload_n 1),
  (0, 5, 2, 0, 14, [], .bipush 14),
  (0, 7, 1, 0, 0, [], .iadd),
  (0, 8, 1, 0, 4, [], .iconst 4),
  (0, 9, 1, 0, 0, [], .iload_n 2),
  (0, 10, 1, 0, 0, [], .imul),
  (0, 11, 1, 0, 0, [], .iadd),
  (0, 12, 1, 0, 0, [], .iload_n 3),
  (0, 13, 1, 0, 0, [], .iadd),
  (0, 14, 1, 0, 0, [], .iaload),
  (0, 15, 1, 0, 0, [], .ireturn)]
def F_X12_mapOf (fu : Nat) (s : Nat) (x1 : Int32) (x2 : Int32) (x3 : Int32) (M : xM) : Option (Int32 × xM) :=
  (gR M 12 s 17).bind fun a_1 =>
  gd (xin (((x1 + 14) + (4 * x2)) + x3) (gN M 20 a_1)) <|
  (some (gI M 20 a_1 (xi (((x1 + 14) + (4 * x2)) + x3)), M))
set_option maxRecDepth 100000 in
theorem q_X12_mapOf (fu : Nat) (s : Nat) (x1 : Int32) (x2 : Int32) (x3 : Int32) (M : xM) :
    xrun pX12_mapOf flX12 koX12 nwX12 [] [] xrtI 15 (xat 0 pX12_mapOf) 0 0 [(0, .inr (.inr (12, some s))), (1, .inl x1), (2, .inl x2), (3, .inl x3)] [] M = F_X12_mapOf fu s x1 x2 x3 M := rfl
def w_X12_mapOf (fu : Nat) {ρ : Type} (as : List xV) (M : xM) (k : Option xV → xM → Option ρ) : Option ρ := pR 12 as fun o as => o.bind fun s => pI as fun x1 as => pI as fun x2 as => pI as fun x3 as => xe as ((F_X12_mapOf fu s x1 x2 x3 M).bind fun p => k (some (.inl p.1)) p.2)
def pX12_saysOf : List xE := [(0, 0, 1, 0, 0, [], .aload_n 0),
  (0, 1, 1, 0, 0, [], .iload_n 1),
  (0, 2, 1, 0, 0, [], .iload_n 2),
  (0, 3, 1, 0, 0, [], .iload_n 3),
  (0, 4, 3, 0, 0, [], .invokevirtual 267),
  (0, 7, 2, 0, 0, [], .istore 4),
  (0, 9, 2, 0, 0, [], .iload 4),
  (0, 11, 3, 25, 0, [], .ifCond .le 14),
  (0, 14, 1, 0, 0, [], .aload_n 0),
  (0, 15, 1, 0, 0, [], .iload_n 1),
  (0, 16, 1, 0, 1, [], .iconst 1),
  (0, 17, 2, 0, 0, [], .iload 4),
  (0, 19, 3, 0, 0, [], .invokevirtual 377),
  (0, 22, 3, 26, 0, [], .goto 4),
  (0, 25, 1, 0, (-1), [], .iconst (-1)),
  (1, 26, 2, 0, 0, [], .istore 5),
  (0, 28, 2, 0, 0, [], .iload 5),
  (0, 30, 3, 37, 0, [], .ifCond .ge 7),
  (0, 33, 1, 0, (-1), [], .iconst (-1)),
  (0, 34, 3, 50, 0, [], .goto 16),
  (0, 37, 1, 0, 0, [], .aload_n 0),
  (0, 38, 3, 0, 0, [], .getfield 101),
  (0, 41, 1, 0, 0, [], .iload_n 1),
  (0, 42, 2, 0, 0, [], .iload 5),
  (0, 44, 3, 0, 0, [], .invokestatic 264),
  (0, 47, 1, 0, 4, [], .iconst 4),
  (0, 48, 1, 0, 0, [], .iadd),
  (0, 49, 1, 0, 0, [], .iaload),
  (0, 50, 1, 0, 0, [], .ireturn)]
def J_X12_saysOf_26 (fu : Nat) (s : Nat) (x1 : Int32) (y0 : Int32) (M : xM) : Option (Int32 × xM) :=
  if 0 ≤ y0 then
    (F_X12_slotAt fu x1 y0 M).bind fun p_1 =>
    (gR M 12 s 17).bind fun a_2 =>
    gd (xin (p_1.1 + 4) (gN p_1.2 20 a_2)) <|
    (some (gI p_1.2 20 a_2 (xi (p_1.1 + 4)), p_1.2))
  else
    (some ((-1), M))
set_option maxRecDepth 100000 in
theorem q_X12_saysOf_26 (fu : Nat) (s : Nat) (x1 : Int32) (y0 : Int32) (M : xM) :
    xrun pX12_saysOf flX12 koX12 nwX12 [(264, 2, 0, 0, w_X12_slotAt fu)] [] xrtI 31 (xat 26 pX12_saysOf) 0 0 [(0, .inr (.inr (12, some s))), (1, .inl x1)] [.inl y0] M = J_X12_saysOf_26 fu s x1 y0 M := rfl
def F_X12_saysOf (fu : Nat) (s : Nat) (x1 : Int32) (x2 : Int32) (x3 : Int32) (M : xM) : Option (Int32 × xM) :=
  (F_X12_mapOf fu s x1 x2 x3 M).bind fun p_1 =>
  if p_1.1 ≤ 0 then
    J_X12_saysOf_26 fu s x1 ((-1)) p_1.2
  else
    (F_X12_slotOf fu s x1 1 p_1.1 p_1.2).bind fun p_2 =>
    J_X12_saysOf_26 fu s x1 p_2.1 p_2.2
set_option maxRecDepth 100000 in
theorem q_X12_saysOf (fu : Nat) (s : Nat) (x1 : Int32) (x2 : Int32) (x3 : Int32) (M : xM) :
    xrun pX12_saysOf flX12 koX12 nwX12 [(267, 4, 0, 0, w_X12_mapOf fu), (377, 4, 0, 0, w_X12_slotOf fu)] [(26, fun bc bs ls st M => xz bc bs (lR ls 0 12 fun o => o.bind fun s => lI ls 1 fun x1 => pI st fun y0 st => xe st (J_X12_saysOf_26 fu s x1 y0 M)))] xrtI 31 (xat 0 pX12_saysOf) 0 0 [(0, .inr (.inr (12, some s))), (1, .inl x1), (2, .inl x2), (3, .inl x3)] [] M = F_X12_saysOf fu s x1 x2 x3 M := rfl
def w_X12_saysOf (fu : Nat) {ρ : Type} (as : List xV) (M : xM) (k : Option xV → xM → Option ρ) : Option ρ := pR 12 as fun o as => o.bind fun s => pI as fun x1 as => pI as fun x2 as => pI as fun x3 as => xe as ((F_X12_saysOf fu s x1 x2 x3 M).bind fun p => k (some (.inl p.1)) p.2)
def pX12_packs : List xE := [(0, 0, 1, 0, 0, [], .iconst 0),
  (0, 1, 2, 0, 0, [], .istore 4),
  (1, 3, 2, 0, 0, [], .iload 4),
  (0, 5, 1, 0, 3, [], .iconst 3),
  (0, 6, 3, 87, 0, [], .if_icmp .ge 81),
  (0, 9, 1, 0, 0, [], .lconst 0),
  (0, 10, 2, 0, 0, [], .lstore 5),
  (0, 12, 2, 0, 6, [], .bipush 6),
  (0, 14, 2, 0, 0, [], .istore 7),
  (1, 16, 2, 0, 0, [], .iload 7),
  (0, 18, 3, 73, 0, [], .ifCond .lt 55),
  (0, 21, 2, 0, 7, [], .bipush 7),
  (0, 23, 2, 0, 0, [], .iload 4),
  (0, 25, 1, 0, 0, [], .imul),
  (0, 26, 2, 0, 0, [], .iload 7),
  (0, 28, 1, 0, 0, [], .iadd),
  (0, 29, 2, 0, 0, [], .istore 8),
  (0, 31, 3, 0, 0, [], .ldc2_w 399),
  (0, 34, 2, 0, 0, [], .lload 5),
  (0, 36, 1, 0, 0, [], .lmul),
  (0, 37, 2, 0, 0, [], .iload 8),
  (0, 39, 2, 0, 20, [], .bipush 20),
  (0, 41, 3, 62, 0, [], .if_icmp .ge 21),
  (0, 44, 1, 0, 0, [], .aload_n 0),
  (0, 45, 1, 0, 0, [], .iload_n 1),
  (0, 46, 2, 0, 0, [], .iload 8),
  (0, 48, 1, 0, 4, [], .iconst 4),
  (0, 49, 1, 0, 0, [], .idiv),
  (0, 50, 2, 0, 0, [], .iload 8),
  (0, 52, 1, 0, 4, [], .iconst 4),
  (0, 53, 1, 0, 0, [], .irem),
  (0, 54, 3, 0, 0, [], .invokevirtual 401),
  (0, 57, 1, 0, 1, [], .iconst 1),
  (0, 58, 1, 0, 0, [], .iadd),
  (0, 59, 3, 63, 0, [], .goto 4),
  (0, 62, 1, 0, 0, [], .iconst 0),
  (0, 63, 1, 0, 0, [], .i2l),
  (0, 64, 1, 0, 0, [], .ladd),
  (0, 65, 2, 0, 0, [], .lstore 5),
  (0, 67, 3, 0, (-1), [], .iinc 7 (-1)),
  (0, 70, 3, 16, 0, [], .goto (-54)),
  (0, 73, 1, 0, 0, [], .aload_n 2),
  (0, 74, 1, 0, 0, [], .iload_n 3),
  (0, 75, 2, 0, 0, [], .iload 4),
  (0, 77, 1, 0, 0, [], .iadd),
  (0, 78, 2, 0, 0, [], .lload 5),
  (0, 80, 1, 0, 0, [], .lastore),
  (0, 81, 3, 0, 1, [], .iinc 4 1),
  (0, 84, 3, 3, 0, [], .goto (-81)),
  (0, 87, 1, 0, 0, [], .return_)]
def L_X12_packs_16 (fu : Nat) (k3 : Nat → Int32 → Option Nat → Int32 → Int32 → xM → Option xM) : Nat → Nat → Int32 → Option Nat → Int32 → Int32 → Int64 → Int32 → xM → Option xM
  | 0, _, _, _, _, _, _, _, _ => none
  | n + 1, s, x1, x2, x3, x4, x5, x7, M =>
    if x7 < 0 then
      x2.bind fun a_1 =>
      gd (xin (x3 + x4) (gN M 21 a_1)) <|
      let M_2 := sL M 21 a_1 (xi (x3 + x4)) x5
      k3 s x1 x2 x3 (x4 + 1) M_2
    else
      let x8_3 : Int32 := (7 * x4) + x7
      if 20 ≤ x8_3 then
        let x5_4 : Int64 := (512 * x5) + (Int32.toInt64 0)
        L_X12_packs_16 fu k3 n s x1 x2 x3 x4 x5_4 (x7 + (-1)) M
      else
        gd (!((4 : Int32) == 0)) <|
        gd (!((4 : Int32) == 0)) <|
        (F_X12_saysOf fu s x1 (x8_3 / 4) (x8_3 - x8_3 / 4 * 4) M).bind fun p_5 =>
        let x5_6 : Int64 := (512 * x5) + (Int32.toInt64 (p_5.1 + 1))
        L_X12_packs_16 fu k3 n s x1 x2 x3 x4 x5_6 (x7 + (-1)) p_5.2
set_option maxRecDepth 100000 in
theorem q_X12_packs_16 (fu : Nat) (k3 : Nat → Int32 → Option Nat → Int32 → Int32 → xM → Option xM) (n : Nat) (s : Nat) (x1 : Int32) (x2 : Option Nat) (x3 : Int32) (x4 : Int32) (x5 : Int64) (x7 : Int32) (M : xM) :
    xrun pX12_packs flX12 koX12 nwX12 [(401, 4, 0, 0, w_X12_saysOf fu)] [(3, fun bc bs ls st M => xz bc bs (lR ls 0 12 fun o => o.bind fun s => lI ls 1 fun x1 => lR ls 2 21 fun x2 => lI ls 3 fun x3 => lI ls 4 fun x4 => xe st (k3 s x1 x2 x3 x4 M))),
    (16, fun bc bs ls st M => xz bc bs (lR ls 0 12 fun o => o.bind fun s => lI ls 1 fun x1 => lR ls 2 21 fun x2 => lI ls 3 fun x3 => lI ls 4 fun x4 => lL ls 5 fun x5 => lI ls 7 fun x7 => xe st (L_X12_packs_16 fu k3 n s x1 x2 x3 x4 x5 x7 M)))] xrtV 52 (xat 16 pX12_packs) 0 0 [(0, .inr (.inr (12, some s))), (1, .inl x1), (2, .inr (.inr (21, x2))), (3, .inl x3), (4, .inl x4), (5, .inr (.inl x5)), (7, .inl x7)] [] M = L_X12_packs_16 fu k3 (n + 1) s x1 x2 x3 x4 x5 x7 M := rfl
def L_X12_packs_3 (fu : Nat) : Nat → Nat → Int32 → Option Nat → Int32 → Int32 → xM → Option xM
  | 0, _, _, _, _, _, _ => none
  | n + 1, s, x1, x2, x3, x4, M =>
    if 3 ≤ x4 then
      some M
    else
      let x5_1 : Int64 := (Int64.ofNat 0)
      L_X12_packs_16 fu (L_X12_packs_3 fu n) fu s x1 x2 x3 x4 x5_1 6 M
set_option maxRecDepth 100000 in
theorem q_X12_packs_3 (fu : Nat) (n : Nat) (s : Nat) (x1 : Int32) (x2 : Option Nat) (x3 : Int32) (x4 : Int32) (M : xM) :
    xrun pX12_packs flX12 koX12 nwX12 [] [(16, fun bc bs ls st M => xz bc bs (lR ls 0 12 fun o => o.bind fun s => lI ls 1 fun x1 => lR ls 2 21 fun x2 => lI ls 3 fun x3 => lI ls 4 fun x4 => lL ls 5 fun x5 => lI ls 7 fun x7 => xe st (L_X12_packs_16 fu (L_X12_packs_3 fu n) fu s x1 x2 x3 x4 x5 x7 M)))] xrtV 52 (xat 3 pX12_packs) 0 0 [(0, .inr (.inr (12, some s))), (1, .inl x1), (2, .inr (.inr (21, x2))), (3, .inl x3), (4, .inl x4)] [] M = L_X12_packs_3 fu (n + 1) s x1 x2 x3 x4 M := rfl
def F_X12_packs (fu : Nat) (s : Nat) (x1 : Int32) (x2 : Option Nat) (x3 : Int32) (M : xM) : Option xM :=
  L_X12_packs_3 fu fu s x1 x2 x3 0 M
set_option maxRecDepth 100000 in
theorem q_X12_packs (fu : Nat) (s : Nat) (x1 : Int32) (x2 : Option Nat) (x3 : Int32) (M : xM) :
    xrun pX12_packs flX12 koX12 nwX12 [] [(3, fun bc bs ls st M => xz bc bs (lR ls 0 12 fun o => o.bind fun s => lI ls 1 fun x1 => lR ls 2 21 fun x2 => lI ls 3 fun x3 => lI ls 4 fun x4 => xe st (L_X12_packs_3 fu fu s x1 x2 x3 x4 M)))] xrtV 52 (xat 0 pX12_packs) 0 0 [(0, .inr (.inr (12, some s))), (1, .inl x1), (2, .inr (.inr (21, x2))), (3, .inl x3)] [] M = F_X12_packs fu s x1 x2 x3 M := rfl
def w_X12_packs (fu : Nat) {ρ : Type} (as : List xV) (M : xM) (k : Option xV → xM → Option ρ) : Option ρ := pR 12 as fun o as => o.bind fun s => pI as fun x1 as => pR 21 as fun x2 as => pI as fun x3 as => xe as ((F_X12_packs fu s x1 x2 x3 M).bind fun p => k none p)
def pX12_isOrphan : List xE := [(0, 0, 1, 0, 0, [], .aload_n 0),
  (0, 1, 3, 0, 0, [], .getfield 101),
  (0, 4, 1, 0, 0, [], .iload_n 1),
  (0, 5, 1, 0, 5, [], .iconst 5),
  (0, 6, 1, 0, 0, [], .iadd),
  (0, 7, 1, 0, 0, [], .iaload),
  (0, 8, 1, 0, 0, [], .iload_n 2),
  (0, 9, 1, 0, 0, [], .ishr),
  (0, 10, 1, 0, 1, [], .iconst 1),
  (0, 11, 1, 0, 0, [], .iand),
  (0, 12, 1, 0, 1, [], .iconst 1),
  (0, 13, 3, 20, 0, [], .if_icmp .ne 7),
  (0, 16, 1, 0, 1, [], .iconst 1),
  (0, 17, 3, 21, 0, [], .goto 4),
  (0, 20, 1, 0, 0, [], .iconst 0),
  (0, 21, 1, 0, 0, [], .ireturn)]
def F_X12_isOrphan (fu : Nat) (s : Nat) (x1 : Int32) (x2 : Int32) (M : xM) : Option (Int32 × xM) :=
  (gR M 12 s 17).bind fun a_1 =>
  gd (xin (x1 + 5) (gN M 20 a_1)) <|
  if ¬ (((gI M 20 a_1 (xi (x1 + 5))) >>> (x2 &&& 31)) &&& 1) = 1 then
    gd (xbool 0) (some (0, M))
  else
    gd (xbool 1) (some (1, M))
set_option maxRecDepth 100000 in
theorem q_X12_isOrphan (fu : Nat) (s : Nat) (x1 : Int32) (x2 : Int32) (M : xM) :
    xrun pX12_isOrphan flX12 koX12 nwX12 [] [] xrtZ 18 (xat 0 pX12_isOrphan) 0 0 [(0, .inr (.inr (12, some s))), (1, .inl x1), (2, .inl x2)] [] M = F_X12_isOrphan fu s x1 x2 M := rfl
def w_X12_isOrphan (fu : Nat) {ρ : Type} (as : List xV) (M : xM) (k : Option xV → xM → Option ρ) : Option ρ := pR 12 as fun o as => o.bind fun s => pI as fun x1 as => pI as fun x2 as => xe as ((F_X12_isOrphan fu s x1 x2 M).bind fun p => k (some (.inl p.1)) p.2)
def pX12_kindOf : List xE := [(0, 0, 1, 0, 0, [], .aload_n 0),
  (0, 1, 3, 0, 0, [], .getfield 83),
  (0, 4, 1, 0, 5, [], .iconst 5),
  (0, 5, 1, 0, 2, [], .iconst 2),
  (0, 6, 1, 0, 0, [], .iload_n 1),
  (0, 7, 1, 0, 0, [], .imul),
  (0, 8, 1, 0, 0, [], .iadd),
  (0, 9, 1, 0, 0, [], .iaload),
  (0, 10, 1, 0, 0, [], .ireturn)]
def F_X12_kindOf (fu : Nat) (s : Nat) (x1 : Int32) (M : xM) : Option (Int32 × xM) :=
  (gR M 12 s 10).bind fun a_1 =>
  gd (xin (5 + (2 * x1)) (gN M 20 a_1)) <|
  (some (gI M 20 a_1 (xi (5 + (2 * x1))), M))
set_option maxRecDepth 100000 in
theorem q_X12_kindOf (fu : Nat) (s : Nat) (x1 : Int32) (M : xM) :
    xrun pX12_kindOf flX12 koX12 nwX12 [] [] xrtI 11 (xat 0 pX12_kindOf) 0 0 [(0, .inr (.inr (12, some s))), (1, .inl x1)] [] M = F_X12_kindOf fu s x1 M := rfl
def w_X12_kindOf (fu : Nat) {ρ : Type} (as : List xV) (M : xM) (k : Option xV → xM → Option ρ) : Option ρ := pR 12 as fun o as => o.bind fun s => pI as fun x1 as => xe as ((F_X12_kindOf fu s x1 M).bind fun p => k (some (.inl p.1)) p.2)
def pX12_mayWriteBut : List xE := [(0, 0, 1, 0, 0, [], .aload_n 0),
  (0, 1, 3, 0, 0, [], .getfield 101),
  (0, 4, 1, 0, 0, [], .iload_n 1),
  (0, 5, 1, 0, 2, [], .iconst 2),
  (0, 6, 1, 0, 0, [], .iadd),
  (0, 7, 1, 0, 0, [], .iaload),
  (0, 8, 3, 29, 0, [], .ifCond .eq 21),
  (0, 11, 1, 0, 0, [], .aload_n 0),
  (0, 12, 1, 0, 0, [], .iload_n 2),
  (0, 13, 1, 0, 0, [], .iload_n 3),
  (0, 14, 3, 0, 0, [], .invokevirtual 345),
  (0, 17, 3, 29, 0, [], .ifCond .eq 12),
  (0, 20, 1, 0, 0, [], .aload_n 0),
  (0, 21, 1, 0, 0, [], .iload_n 1),
  (0, 22, 1, 0, 0, [], .iload_n 2),
  (0, 23, 3, 0, 0, [], .invokevirtual 270),
  (0, 26, 3, 31, 0, [], .ifCond .eq 5),
  (0, 29, 1, 0, 0, [], .iconst 0),
  (0, 30, 1, 0, 0, [], .ireturn),
  (0, 31, 1, 0, 0, [], .iconst 0),
  (0, 32, 2, 0, 0, [], .istore 4),
  (1, 34, 2, 0, 0, [], .iload 4),
  (0, 36, 1, 0, 4, [], .iconst 4),
  (0, 37, 3, 57, 0, [], .if_icmp .ge 20),
  (0, 40, 1, 0, 0, [], .aload_n 0),
  (0, 41, 1, 0, 0, [], .iload_n 1),
  (0, 42, 1, 0, 0, [], .iload_n 2),
  (0, 43, 2, 0, 0, [], .iload 4),
  (0, 45, 3, 0, 0, [], .invokevirtual 267),
  (0, 48, 3, 57, 0, [], .ifCond .le 9),
  (0, 51, 3, 0, 1, [], .iinc 4 1),
  (0, 54, 3, 34, 0, [], .goto (-20)),
  (1, 57, 1, 0, 0, [], .aload_n 0),
  (0, 58, 1, 0, 0, [], .iload_n 2),
  (0, 59, 3, 0, 0, [], .invokevirtual 348),
  (0, 62, 1, 0, 1, [], .iconst 1),
  (0, 63, 3, 72, 0, [], .if_icmp .ne 9),
  (0, 66, 1, 0, 0, [], .iload_n 3),
  (0, 67, 2, 0, 0, [], .iload 4),
  (0, 69, 3, 76, 0, [], .if_icmp .ne 7),
  (0, 72, 1, 0, 1, [], .iconst 1),
  (0, 73, 3, 77, 0, [], .goto 4),
  (0, 76, 1, 0, 0, [], .iconst 0),
  (0, 77, 1, 0, 0, [], .ireturn)]
def J_X12_mayWriteBut_57 (fu : Nat) (s : Nat) (x2 : Int32) (x3 : Int32) (x4 : Int32) (M : xM) : Option (Int32 × xM) :=
  (F_X12_kindOf fu s x2 M).bind fun p_1 =>
  if ¬ p_1.1 = 1 then
    gd (xbool 1) (some (1, p_1.2))
  else
    if ¬ x3 = x4 then
      gd (xbool 0) (some (0, p_1.2))
    else
      gd (xbool 1) (some (1, p_1.2))
set_option maxRecDepth 100000 in
theorem q_X12_mayWriteBut_57 (fu : Nat) (s : Nat) (x2 : Int32) (x3 : Int32) (x4 : Int32) (M : xM) :
    xrun pX12_mayWriteBut flX12 koX12 nwX12 [(348, 2, 0, 0, w_X12_kindOf fu)] [] xrtZ 46 (xat 57 pX12_mayWriteBut) 0 0 [(0, .inr (.inr (12, some s))), (2, .inl x2), (3, .inl x3), (4, .inl x4)] [] M = J_X12_mayWriteBut_57 fu s x2 x3 x4 M := rfl
def L_X12_mayWriteBut_34 (fu : Nat) : Nat → Nat → Int32 → Int32 → Int32 → Int32 → xM → Option (Int32 × xM)
  | 0, _, _, _, _, _, _ => none
  | n + 1, s, x1, x2, x3, x4, M =>
    if 4 ≤ x4 then
      J_X12_mayWriteBut_57 fu s x2 x3 x4 M
    else
      (F_X12_mapOf fu s x1 x2 x4 M).bind fun p_1 =>
      if p_1.1 ≤ 0 then
        J_X12_mayWriteBut_57 fu s x2 x3 x4 p_1.2
      else
        L_X12_mayWriteBut_34 fu n s x1 x2 x3 (x4 + 1) p_1.2
set_option maxRecDepth 100000 in
theorem q_X12_mayWriteBut_34 (fu : Nat) (n : Nat) (s : Nat) (x1 : Int32) (x2 : Int32) (x3 : Int32) (x4 : Int32) (M : xM) :
    xrun pX12_mayWriteBut flX12 koX12 nwX12 [(267, 4, 0, 0, w_X12_mapOf fu)] [(34, fun bc bs ls st M => xz bc bs (lR ls 0 12 fun o => o.bind fun s => lI ls 1 fun x1 => lI ls 2 fun x2 => lI ls 3 fun x3 => lI ls 4 fun x4 => xe st (L_X12_mayWriteBut_34 fu n s x1 x2 x3 x4 M))),
    (57, fun bc bs ls st M => xz bc bs (lR ls 0 12 fun o => o.bind fun s => lI ls 2 fun x2 => lI ls 3 fun x3 => lI ls 4 fun x4 => xe st (J_X12_mayWriteBut_57 fu s x2 x3 x4 M)))] xrtZ 46 (xat 34 pX12_mayWriteBut) 0 0 [(0, .inr (.inr (12, some s))), (1, .inl x1), (2, .inl x2), (3, .inl x3), (4, .inl x4)] [] M = L_X12_mayWriteBut_34 fu (n + 1) s x1 x2 x3 x4 M := rfl
def F_X12_mayWriteBut (fu : Nat) (s : Nat) (x1 : Int32) (x2 : Int32) (x3 : Int32) (M : xM) : Option (Int32 × xM) :=
  (gR M 12 s 17).bind fun a_1 =>
  gd (xin (x1 + 2) (gN M 20 a_1)) <|
  if (gI M 20 a_1 (xi (x1 + 2))) = 0 then
    gd (xbool 0) (some (0, M))
  else
    (F_X12_isPage fu s x2 x3 M).bind fun p_2 =>
    if p_2.1 = 0 then
      gd (xbool 0) (some (0, p_2.2))
    else
      (F_X12_isOrphan fu s x1 x2 p_2.2).bind fun p_3 =>
      if p_3.1 = 0 then
        L_X12_mayWriteBut_34 fu fu s x1 x2 x3 0 p_3.2
      else
        gd (xbool 0) (some (0, p_3.2))
set_option maxRecDepth 100000 in
theorem q_X12_mayWriteBut (fu : Nat) (s : Nat) (x1 : Int32) (x2 : Int32) (x3 : Int32) (M : xM) :
    xrun pX12_mayWriteBut flX12 koX12 nwX12 [(270, 3, 0, 0, w_X12_isOrphan fu), (345, 3, 0, 0, w_X12_isPage fu)] [(34, fun bc bs ls st M => xz bc bs (lR ls 0 12 fun o => o.bind fun s => lI ls 1 fun x1 => lI ls 2 fun x2 => lI ls 3 fun x3 => lI ls 4 fun x4 => xe st (L_X12_mayWriteBut_34 fu fu s x1 x2 x3 x4 M)))] xrtZ 46 (xat 0 pX12_mayWriteBut) 0 0 [(0, .inr (.inr (12, some s))), (1, .inl x1), (2, .inl x2), (3, .inl x3)] [] M = F_X12_mayWriteBut fu s x1 x2 x3 M := rfl
def w_X12_mayWriteBut (fu : Nat) {ρ : Type} (as : List xV) (M : xM) (k : Option xV → xM → Option ρ) : Option ρ := pR 12 as fun o as => o.bind fun s => pI as fun x1 as => pI as fun x2 as => pI as fun x3 as => xe as ((F_X12_mayWriteBut fu s x1 x2 x3 M).bind fun p => k (some (.inl p.1)) p.2)
def pX12_erased : List xE := [(0, 0, 1, 0, 0, [], .iconst 0),
  (0, 1, 1, 0, 0, [], .istore_n 2),
  (0, 2, 1, 0, 0, [], .iconst 0),
  (0, 3, 1, 0, 0, [], .istore_n 3),
  (1, 4, 1, 0, 0, [], .iload_n 3),
  (0, 5, 1, 0, 0, [], .aload_n 0),
  (0, 6, 3, 0, 0, [], .invokevirtual 252),
  (0, 9, 3, 27, 0, [], .if_icmp .ge 18),
  (0, 12, 1, 0, 0, [], .iload_n 2),
  (0, 13, 1, 0, 0, [], .aload_n 0),
  (0, 14, 1, 0, 0, [], .iload_n 1),
  (0, 15, 1, 0, 0, [], .iload_n 3),
  (0, 16, 3, 0, 0, [], .invokevirtual 311),
  (0, 19, 1, 0, 0, [], .iadd),
  (0, 20, 1, 0, 0, [], .istore_n 2),
  (0, 21, 3, 0, 1, [], .iinc 3 1),
  (0, 24, 3, 4, 0, [], .goto (-20)),
  (0, 27, 1, 0, 0, [], .iload_n 2),
  (0, 28, 1, 0, 0, [], .ireturn)]
def L_X12_erased_4 (fu : Nat) : Nat → Nat → Int32 → Int32 → Int32 → xM → Option (Int32 × xM)
  | 0, _, _, _, _, _ => none
  | n + 1, s, x1, x2, x3, M =>
    (F_X12_blocks fu s M).bind fun p_1 =>
    if p_1.1 ≤ x3 then
      (some (x2, p_1.2))
    else
      (F_X12_erasedIn fu s x1 x3 p_1.2).bind fun p_2 =>
      let x2_3 : Int32 := x2 + p_2.1
      L_X12_erased_4 fu n s x1 x2_3 (x3 + 1) p_2.2
set_option maxRecDepth 100000 in
theorem q_X12_erased_4 (fu : Nat) (n : Nat) (s : Nat) (x1 : Int32) (x2 : Int32) (x3 : Int32) (M : xM) :
    xrun pX12_erased flX12 koX12 nwX12 [(252, 1, 0, 0, w_X12_blocks fu), (311, 3, 0, 0, w_X12_erasedIn fu)] [(4, fun bc bs ls st M => xz bc bs (lR ls 0 12 fun o => o.bind fun s => lI ls 1 fun x1 => lI ls 2 fun x2 => lI ls 3 fun x3 => xe st (L_X12_erased_4 fu n s x1 x2 x3 M)))] xrtI 21 (xat 4 pX12_erased) 0 0 [(0, .inr (.inr (12, some s))), (1, .inl x1), (2, .inl x2), (3, .inl x3)] [] M = L_X12_erased_4 fu (n + 1) s x1 x2 x3 M := rfl
def F_X12_erased (fu : Nat) (s : Nat) (x1 : Int32) (M : xM) : Option (Int32 × xM) :=
  L_X12_erased_4 fu fu s x1 0 0 M
set_option maxRecDepth 100000 in
theorem q_X12_erased (fu : Nat) (s : Nat) (x1 : Int32) (M : xM) :
    xrun pX12_erased flX12 koX12 nwX12 [] [(4, fun bc bs ls st M => xz bc bs (lR ls 0 12 fun o => o.bind fun s => lI ls 1 fun x1 => lI ls 2 fun x2 => lI ls 3 fun x3 => xe st (L_X12_erased_4 fu fu s x1 x2 x3 M)))] xrtI 21 (xat 0 pX12_erased) 0 0 [(0, .inr (.inr (12, some s))), (1, .inl x1)] [] M = F_X12_erased fu s x1 M := rfl
def w_X12_erased (fu : Nat) {ρ : Type} (as : List xV) (M : xM) (k : Option xV → xM → Option ρ) : Option ρ := pR 12 as fun o as => o.bind fun s => pI as fun x1 as => xe as ((F_X12_erased fu s x1 M).bind fun p => k (some (.inl p.1)) p.2)
def pX12_isFirst : List xE := [(0, 0, 1, 0, 0, [], .iconst 0),
  (0, 1, 1, 0, 0, [], .istore_n 3),
  (1, 2, 1, 0, 0, [], .iload_n 3),
  (0, 3, 1, 0, 0, [], .iload_n 2),
  (0, 4, 3, 49, 0, [], .if_icmp .ge 45),
  (0, 7, 1, 0, 0, [], .aload_n 0),
  (0, 8, 1, 0, 0, [], .iload_n 1),
  (0, 9, 1, 0, 0, [], .iload_n 3),
  (0, 10, 3, 0, 0, [], .invokevirtual 290),
  (0, 13, 2, 0, 0, [], .istore 4),
  (0, 15, 2, 0, 0, [], .iload 4),
  (0, 17, 3, 43, 0, [], .ifCond .eq 26),
  (0, 20, 2, 0, 0, [], .iload 4),
  (0, 22, 1, 0, 4, [], .iconst 4),
  (0, 23, 3, 43, 0, [], .if_icmp .eq 20),
  (0, 26, 1, 0, 0, [], .aload_n 0),
  (0, 27, 1, 0, 0, [], .iload_n 1),
  (0, 28, 1, 0, 0, [], .iload_n 3),
  (0, 29, 3, 0, 0, [], .invokevirtual 293),
  (0, 32, 1, 0, 0, [], .aload_n 0),
  (0, 33, 1, 0, 0, [], .iload_n 1),
  (0, 34, 1, 0, 0, [], .iload_n 2),
  (0, 35, 3, 0, 0, [], .invokevirtual 293),
  (0, 38, 3, 43, 0, [], .if_icmp .ne 5),
  (0, 41, 1, 0, 0, [], .iconst 0),
  (0, 42, 1, 0, 0, [], .ireturn),
  (0, 43, 3, 0, 1, [], .iinc 3 1),
  (0, 46, 3, 2, 0, [], .goto (-44)),
  (0, 49, 1, 0, 1, [], .iconst 1),
  (0, 50, 1, 0, 0, [], .ireturn)]
def L_X12_isFirst_2 (fu : Nat) : Nat → Nat → Int32 → Int32 → Int32 → xM → Option (Int32 × xM)
  | 0, _, _, _, _, _ => none
  | n + 1, s, x1, x2, x3, M =>
    if x2 ≤ x3 then
      gd (xbool 1) (some (1, M))
    else
      (F_X12_typeOf fu s x1 x3 M).bind fun p_1 =>
      if p_1.1 = 0 then
        L_X12_isFirst_2 fu n s x1 x2 (x3 + 1) p_1.2
      else
        if p_1.1 = 4 then
          L_X12_isFirst_2 fu n s x1 x2 (x3 + 1) p_1.2
        else
          (F_X12_numberOf fu s x1 x3 p_1.2).bind fun p_2 =>
          (F_X12_numberOf fu s x1 x2 p_2.2).bind fun p_3 =>
          if ¬ p_2.1 = p_3.1 then
            L_X12_isFirst_2 fu n s x1 x2 (x3 + 1) p_3.2
          else
            gd (xbool 0) (some (0, p_3.2))
set_option maxRecDepth 100000 in
theorem q_X12_isFirst_2 (fu : Nat) (n : Nat) (s : Nat) (x1 : Int32) (x2 : Int32) (x3 : Int32) (M : xM) :
    xrun pX12_isFirst flX12 koX12 nwX12 [(290, 3, 0, 0, w_X12_typeOf fu), (293, 3, 0, 0, w_X12_numberOf fu)] [(2, fun bc bs ls st M => xz bc bs (lR ls 0 12 fun o => o.bind fun s => lI ls 1 fun x1 => lI ls 2 fun x2 => lI ls 3 fun x3 => xe st (L_X12_isFirst_2 fu n s x1 x2 x3 M)))] xrtZ 32 (xat 2 pX12_isFirst) 0 0 [(0, .inr (.inr (12, some s))), (1, .inl x1), (2, .inl x2), (3, .inl x3)] [] M = L_X12_isFirst_2 fu (n + 1) s x1 x2 x3 M := rfl
def F_X12_isFirst (fu : Nat) (s : Nat) (x1 : Int32) (x2 : Int32) (M : xM) : Option (Int32 × xM) :=
  L_X12_isFirst_2 fu fu s x1 x2 0 M
set_option maxRecDepth 100000 in
theorem q_X12_isFirst (fu : Nat) (s : Nat) (x1 : Int32) (x2 : Int32) (M : xM) :
    xrun pX12_isFirst flX12 koX12 nwX12 [] [(2, fun bc bs ls st M => xz bc bs (lR ls 0 12 fun o => o.bind fun s => lI ls 1 fun x1 => lI ls 2 fun x2 => lI ls 3 fun x3 => xe st (L_X12_isFirst_2 fu fu s x1 x2 x3 M)))] xrtZ 32 (xat 0 pX12_isFirst) 0 0 [(0, .inr (.inr (12, some s))), (1, .inl x1), (2, .inl x2)] [] M = F_X12_isFirst fu s x1 x2 M := rfl
def w_X12_isFirst (fu : Nat) {ρ : Type} (as : List xV) (M : xM) (k : Option xV → xM → Option ρ) : Option ρ := pR 12 as fun o as => o.bind fun s => pI as fun x1 as => pI as fun x2 as => xe as ((F_X12_isFirst fu s x1 x2 M).bind fun p => k (some (.inl p.1)) p.2)
def pX12_isJournal : List xE := [(0, 0, 1, 0, 0, [], .aload_n 0),
  (0, 1, 1, 0, 0, [], .iload_n 1),
  (0, 2, 1, 0, 0, [], .iload_n 2),
  (0, 3, 3, 0, 0, [], .invokevirtual 290),
  (0, 6, 1, 0, 0, [], .istore_n 3),
  (0, 7, 1, 0, 0, [], .iload_n 3),
  (0, 8, 1, 0, 1, [], .iconst 1),
  (0, 9, 3, 17, 0, [], .if_icmp .eq 8),
  (0, 12, 1, 0, 0, [], .iload_n 3),
  (0, 13, 1, 0, 2, [], .iconst 2),
  (0, 14, 3, 43, 0, [], .if_icmp .ne 29),
  (1, 17, 1, 0, 0, [], .aload_n 0),
  (0, 18, 1, 0, 0, [], .iload_n 1),
  (0, 19, 1, 0, 0, [], .iload_n 2),
  (0, 20, 3, 0, 0, [], .invokevirtual 293),
  (0, 23, 1, 0, 0, [], .aload_n 0),
  (0, 24, 3, 0, 0, [], .invokevirtual 296),
  (0, 27, 3, 43, 0, [], .if_icmp .le 16),
  (0, 30, 1, 0, 0, [], .aload_n 0),
  (0, 31, 1, 0, 0, [], .iload_n 1),
  (0, 32, 1, 0, 0, [], .iload_n 2),
  (0, 33, 3, 0, 0, [], .invokevirtual 299),
  (0, 36, 3, 43, 0, [], .ifCond .eq 7),
  (0, 39, 1, 0, 1, [], .iconst 1),
  (0, 40, 3, 44, 0, [], .goto 4),
  (0, 43, 1, 0, 0, [], .iconst 0),
  (0, 44, 1, 0, 0, [], .ireturn)]
def J_X12_isJournal_17 (fu : Nat) (s : Nat) (x1 : Int32) (x2 : Int32) (M : xM) : Option (Int32 × xM) :=
  (F_X12_numberOf fu s x1 x2 M).bind fun p_1 =>
  (F_X12_base fu s p_1.2).bind fun p_2 =>
  if p_1.1 ≤ p_2.1 then
    gd (xbool 0) (some (0, p_2.2))
  else
    (F_X12_isFirst fu s x1 x2 p_2.2).bind fun p_3 =>
    if p_3.1 = 0 then
      gd (xbool 0) (some (0, p_3.2))
    else
      gd (xbool 1) (some (1, p_3.2))
set_option maxRecDepth 100000 in
theorem q_X12_isJournal_17 (fu : Nat) (s : Nat) (x1 : Int32) (x2 : Int32) (M : xM) :
    xrun pX12_isJournal flX12 koX12 nwX12 [(293, 3, 0, 0, w_X12_numberOf fu), (296, 1, 0, 0, w_X12_base fu), (299, 3, 0, 0, w_X12_isFirst fu)] [] xrtZ 29 (xat 17 pX12_isJournal) 0 0 [(0, .inr (.inr (12, some s))), (1, .inl x1), (2, .inl x2)] [] M = J_X12_isJournal_17 fu s x1 x2 M := rfl
def F_X12_isJournal (fu : Nat) (s : Nat) (x1 : Int32) (x2 : Int32) (M : xM) : Option (Int32 × xM) :=
  (F_X12_typeOf fu s x1 x2 M).bind fun p_1 =>
  if p_1.1 = 1 then
    J_X12_isJournal_17 fu s x1 x2 p_1.2
  else
    if ¬ p_1.1 = 2 then
      gd (xbool 0) (some (0, p_1.2))
    else
      J_X12_isJournal_17 fu s x1 x2 p_1.2
set_option maxRecDepth 100000 in
theorem q_X12_isJournal (fu : Nat) (s : Nat) (x1 : Int32) (x2 : Int32) (M : xM) :
    xrun pX12_isJournal flX12 koX12 nwX12 [(290, 3, 0, 0, w_X12_typeOf fu)] [(17, fun bc bs ls st M => xz bc bs (lR ls 0 12 fun o => o.bind fun s => lI ls 1 fun x1 => lI ls 2 fun x2 => xe st (J_X12_isJournal_17 fu s x1 x2 M)))] xrtZ 29 (xat 0 pX12_isJournal) 0 0 [(0, .inr (.inr (12, some s))), (1, .inl x1), (2, .inl x2)] [] M = F_X12_isJournal fu s x1 x2 M := rfl
def w_X12_isJournal (fu : Nat) {ρ : Type} (as : List xV) (M : xM) (k : Option xV → xM → Option ρ) : Option ρ := pR 12 as fun o as => o.bind fun s => pI as fun x1 as => pI as fun x2 as => xe as ((F_X12_isJournal fu s x1 x2 M).bind fun p => k (some (.inl p.1)) p.2)
def pX12_isLive : List xE := [(0, 0, 1, 0, 0, [], .iload_n 1),
  (0, 1, 1, 0, 0, [], .iload_n 2),
  (0, 2, 3, 0, 0, [], .invokestatic 264),
  (0, 5, 1, 0, 0, [], .istore_n 3),
  (0, 6, 1, 0, 0, [], .aload_n 0),
  (0, 7, 3, 0, 0, [], .getfield 101),
  (0, 10, 1, 0, 0, [], .iload_n 3),
  (0, 11, 1, 0, 0, [], .iaload),
  (0, 12, 28, 148, 0, [(1, 40), (2, 87), (3, 94)], .tableswitch 136 1 3 #[28, 75, 82]),
  (0, 40, 1, 0, 0, [], .aload_n 0),
  (0, 41, 1, 0, 0, [], .iload_n 1),
  (0, 42, 1, 0, 0, [], .aload_n 0),
  (0, 43, 3, 0, 0, [], .getfield 101),
  (0, 46, 1, 0, 0, [], .iload_n 3),
  (0, 47, 1, 0, 2, [], .iconst 2),
  (0, 48, 1, 0, 0, [], .iadd),
  (0, 49, 1, 0, 0, [], .iaload),
  (0, 50, 1, 0, 0, [], .aload_n 0),
  (0, 51, 3, 0, 0, [], .getfield 101),
  (0, 54, 1, 0, 0, [], .iload_n 3),
  (0, 55, 1, 0, 3, [], .iconst 3),
  (0, 56, 1, 0, 0, [], .iadd),
  (0, 57, 1, 0, 0, [], .iaload),
  (0, 58, 3, 0, 0, [], .invokevirtual 267),
  (0, 61, 1, 0, 0, [], .aload_n 0),
  (0, 62, 3, 0, 0, [], .getfield 101),
  (0, 65, 1, 0, 0, [], .iload_n 3),
  (0, 66, 1, 0, 1, [], .iconst 1),
  (0, 67, 1, 0, 0, [], .iadd),
  (0, 68, 1, 0, 0, [], .iaload),
  (0, 69, 3, 85, 0, [], .if_icmp .ne 16),
  (0, 72, 1, 0, 0, [], .aload_n 0),
  (0, 73, 1, 0, 0, [], .iload_n 1),
  (0, 74, 1, 0, 0, [], .iload_n 2),
  (0, 75, 3, 0, 0, [], .invokevirtual 299),
  (0, 78, 3, 85, 0, [], .ifCond .eq 7),
  (0, 81, 1, 0, 1, [], .iconst 1),
  (0, 82, 3, 86, 0, [], .goto 4),
  (0, 85, 1, 0, 0, [], .iconst 0),
  (0, 86, 1, 0, 0, [], .ireturn),
  (0, 87, 1, 0, 0, [], .aload_n 0),
  (0, 88, 1, 0, 0, [], .iload_n 1),
  (0, 89, 1, 0, 0, [], .iload_n 2),
  (0, 90, 3, 0, 0, [], .invokevirtual 302),
  (0, 93, 1, 0, 0, [], .ireturn),
  (0, 94, 1, 0, 0, [], .aload_n 0),
  (0, 95, 3, 0, 0, [], .getfield 101),
  (0, 98, 1, 0, 0, [], .iload_n 3),
  (0, 99, 1, 0, 1, [], .iconst 1),
  (0, 100, 1, 0, 0, [], .iadd),
  (0, 101, 1, 0, 0, [], .iaload),
  (0, 102, 1, 0, 0, [], .aload_n 0),
  (0, 103, 3, 0, 0, [], .getfield 101),
  (0, 106, 1, 0, 0, [], .iload_n 3),
  (0, 107, 1, 0, 2, [], .iconst 2),
  (0, 108, 1, 0, 0, [], .iadd),
  (0, 109, 1, 0, 0, [], .iaload),
  (0, 110, 1, 0, 0, [], .isub),
  (0, 111, 1, 0, 0, [], .aload_n 0),
  (0, 112, 3, 0, 0, [], .getfield 280),
  (0, 115, 3, 146, 0, [], .if_icmp .ne 31),
  (0, 118, 1, 0, 0, [], .aload_n 0),
  (0, 119, 3, 0, 0, [], .getfield 101),
  (0, 122, 1, 0, 0, [], .iload_n 3),
  (0, 123, 1, 0, 3, [], .iconst 3),
  (0, 124, 1, 0, 0, [], .iadd),
  (0, 125, 1, 0, 0, [], .iaload),
  (0, 126, 1, 0, 0, [], .aload_n 0),
  (0, 127, 3, 0, 0, [], .getfield 283),
  (0, 130, 3, 146, 0, [], .if_icmp .ne 16),
  (0, 133, 1, 0, 0, [], .aload_n 0),
  (0, 134, 1, 0, 0, [], .iload_n 1),
  (0, 135, 1, 0, 0, [], .iload_n 2),
  (0, 136, 3, 0, 0, [], .invokevirtual 299),
  (0, 139, 3, 146, 0, [], .ifCond .eq 7),
  (0, 142, 1, 0, 1, [], .iconst 1),
  (0, 143, 3, 147, 0, [], .goto 4),
  (0, 146, 1, 0, 0, [], .iconst 0),
  (0, 147, 1, 0, 0, [], .ireturn),
  (0, 148, 1, 0, 0, [], .iconst 0),
  (0, 149, 1, 0, 0, [], .ireturn)]
def F_X12_isLive (fu : Nat) (s : Nat) (x1 : Int32) (x2 : Int32) (M : xM) : Option (Int32 × xM) :=
  (F_X12_slotAt fu x1 x2 M).bind fun p_1 =>
  (gR p_1.2 12 s 17).bind fun a_2 =>
  gd (xin p_1.1 (gN p_1.2 20 a_2)) <|
  if (gI p_1.2 20 a_2 (xi p_1.1)) = 1 then
    (gR p_1.2 12 s 17).bind fun a_3 =>
    gd (xin (p_1.1 + 2) (gN p_1.2 20 a_3)) <|
    (gR p_1.2 12 s 17).bind fun a_4 =>
    gd (xin (p_1.1 + 3) (gN p_1.2 20 a_4)) <|
    (F_X12_mapOf fu s x1 (gI p_1.2 20 a_3 (xi (p_1.1 + 2))) (gI p_1.2 20 a_4 (xi (p_1.1 + 3))) p_1.2).bind fun p_5 =>
    (gR p_5.2 12 s 17).bind fun a_6 =>
    gd (xin (p_1.1 + 1) (gN p_5.2 20 a_6)) <|
    if ¬ p_5.1 = (gI p_5.2 20 a_6 (xi (p_1.1 + 1))) then
      gd (xbool 0) (some (0, p_5.2))
    else
      (F_X12_isFirst fu s x1 x2 p_5.2).bind fun p_7 =>
      if p_7.1 = 0 then
        gd (xbool 0) (some (0, p_7.2))
      else
        gd (xbool 1) (some (1, p_7.2))
  else
  if (gI p_1.2 20 a_2 (xi p_1.1)) = 2 then
    (F_X12_isJournal fu s x1 x2 p_1.2).bind fun p_8 =>
    gd (xbool p_8.1) (some (p_8.1, p_8.2))
  else
  if (gI p_1.2 20 a_2 (xi p_1.1)) = 3 then
    (gR p_1.2 12 s 17).bind fun a_9 =>
    gd (xin (p_1.1 + 1) (gN p_1.2 20 a_9)) <|
    (gR p_1.2 12 s 17).bind fun a_10 =>
    gd (xin (p_1.1 + 2) (gN p_1.2 20 a_10)) <|
    if ¬ ((gI p_1.2 20 a_9 (xi (p_1.1 + 1))) - (gI p_1.2 20 a_10 (xi (p_1.1 + 2)))) = (gI p_1.2 12 s 20) then
      gd (xbool 0) (some (0, p_1.2))
    else
      (gR p_1.2 12 s 17).bind fun a_11 =>
      gd (xin (p_1.1 + 3) (gN p_1.2 20 a_11)) <|
      if ¬ (gI p_1.2 20 a_11 (xi (p_1.1 + 3))) = (gI p_1.2 12 s 21) then
        gd (xbool 0) (some (0, p_1.2))
      else
        (F_X12_isFirst fu s x1 x2 p_1.2).bind fun p_12 =>
        if p_12.1 = 0 then
          gd (xbool 0) (some (0, p_12.2))
        else
          gd (xbool 1) (some (1, p_12.2))
  else
    gd (xbool 0) (some (0, p_1.2))
set_option maxRecDepth 100000 in
theorem q_X12_isLive (fu : Nat) (s : Nat) (x1 : Int32) (x2 : Int32) (M : xM) :
    xrun pX12_isLive flX12 koX12 nwX12 [(264, 2, 0, 0, w_X12_slotAt fu), (267, 4, 0, 0, w_X12_mapOf fu), (299, 3, 0, 0, w_X12_isFirst fu), (302, 3, 0, 0, w_X12_isJournal fu)] [] xrtZ 83 (xat 0 pX12_isLive) 0 0 [(0, .inr (.inr (12, some s))), (1, .inl x1), (2, .inl x2)] [] M = F_X12_isLive fu s x1 x2 M := rfl
def w_X12_isLive (fu : Nat) {ρ : Type} (as : List xV) (M : xM) (k : Option xV → xM → Option ρ) : Option ρ := pR 12 as fun o as => o.bind fun s => pI as fun x1 as => pI as fun x2 as => xe as ((F_X12_isLive fu s x1 x2 M).bind fun p => k (some (.inl p.1)) p.2)
def pX12_tally : List xE := [(0, 0, 1, 0, 0, [], .iconst 0),
  (0, 1, 2, 0, 0, [], .istore 5),
  (0, 3, 1, 0, 0, [], .aload_n 0),
  (0, 4, 1, 0, 0, [], .iload_n 1),
  (0, 5, 3, 0, 0, [], .invokevirtual 305),
  (0, 8, 1, 0, 0, [], .iload_n 2),
  (0, 9, 2, 0, 0, [], .istore 6),
  (1, 11, 2, 0, 0, [], .iload 6),
  (0, 13, 1, 0, 0, [], .iload_n 2),
  (0, 14, 1, 0, 0, [], .iload_n 3),
  (0, 15, 1, 0, 0, [], .iadd),
  (0, 16, 3, 100, 0, [], .if_icmp .ge 84),
  (0, 19, 1, 0, 0, [], .aload_n 0),
  (0, 20, 1, 0, 0, [], .iload_n 1),
  (0, 21, 2, 0, 0, [], .iload 6),
  (0, 23, 3, 0, 0, [], .invokevirtual 290),
  (0, 26, 3, 33, 0, [], .ifCond .ne 7),
  (0, 29, 1, 0, 1, [], .iconst 1),
  (0, 30, 3, 34, 0, [], .goto 4),
  (0, 33, 1, 0, 0, [], .iconst 0),
  (1, 34, 2, 0, 0, [], .istore 7),
  (0, 36, 2, 0, 0, [], .iload 4),
  (0, 38, 3, 46, 0, [], .ifCond .ne 8),
  (0, 41, 2, 0, 0, [], .iload 7),
  (0, 43, 3, 77, 0, [], .goto 34),
  (0, 46, 2, 0, 0, [], .iload 7),
  (0, 48, 3, 76, 0, [], .ifCond .ne 28),
  (0, 51, 1, 0, 0, [], .aload_n 0),
  (0, 52, 1, 0, 0, [], .iload_n 1),
  (0, 53, 2, 0, 0, [], .iload 6),
  (0, 55, 3, 0, 0, [], .invokevirtual 308),
  (0, 58, 2, 0, 0, [], .iload 4),
  (0, 60, 1, 0, 1, [], .iconst 1),
  (0, 61, 3, 68, 0, [], .if_icmp .ne 7),
  (0, 64, 1, 0, 1, [], .iconst 1),
  (0, 65, 3, 69, 0, [], .goto 4),
  (0, 68, 1, 0, 0, [], .iconst 0),
  (1, 69, 3, 76, 0, [], .if_icmp .ne 7),
  (0, 72, 1, 0, 1, [], .iconst 1),
  (0, 73, 3, 77, 0, [], .goto 4),
  (0, 76, 1, 0, 0, [], .iconst 0),
  (1, 77, 2, 0, 0, [], .istore 8),
  (0, 79, 2, 0, 0, [], .iload 5),
  (0, 81, 2, 0, 0, [], .iload 8),
  (0, 83, 3, 90, 0, [], .ifCond .eq 7),
  (0, 86, 1, 0, 1, [], .iconst 1),
  (0, 87, 3, 91, 0, [], .goto 4),
  (0, 90, 1, 0, 0, [], .iconst 0),
  (0, 91, 1, 0, 0, [], .iadd),
  (0, 92, 2, 0, 0, [], .istore 5),
  (0, 94, 3, 0, 1, [], .iinc 6 1),
  (0, 97, 3, 11, 0, [], .goto (-86)),
  (0, 100, 2, 0, 0, [], .iload 5),
  (0, 102, 1, 0, 0, [], .ireturn)]
def J_X12_tally_77 (fu : Nat) (k11 : Nat → Int32 → Int32 → Int32 → Int32 → Int32 → Int32 → xM → Option (Int32 × xM)) (s : Nat) (x1 : Int32) (x2 : Int32) (x3 : Int32) (x4 : Int32) (x5 : Int32) (x6 : Int32) (y0 : Int32) (M : xM) : Option (Int32 × xM) :=
  if y0 = 0 then
    let x5_1 : Int32 := x5 + 0
    k11 s x1 x2 x3 x4 x5_1 (x6 + 1) M
  else
    let x5_2 : Int32 := x5 + 1
    k11 s x1 x2 x3 x4 x5_2 (x6 + 1) M
set_option maxRecDepth 100000 in
theorem q_X12_tally_77 (fu : Nat) (k11 : Nat → Int32 → Int32 → Int32 → Int32 → Int32 → Int32 → xM → Option (Int32 × xM)) (s : Nat) (x1 : Int32) (x2 : Int32) (x3 : Int32) (x4 : Int32) (x5 : Int32) (x6 : Int32) (y0 : Int32) (M : xM) :
    xrun pX12_tally flX12 koX12 nwX12 [] [(11, fun bc bs ls st M => xz bc bs (lR ls 0 12 fun o => o.bind fun s => lI ls 1 fun x1 => lI ls 2 fun x2 => lI ls 3 fun x3 => lI ls 4 fun x4 => lI ls 5 fun x5 => lI ls 6 fun x6 => xe st (k11 s x1 x2 x3 x4 x5 x6 M)))] xrtI 56 (xat 77 pX12_tally) 0 0 [(0, .inr (.inr (12, some s))), (1, .inl x1), (2, .inl x2), (3, .inl x3), (4, .inl x4), (5, .inl x5), (6, .inl x6)] [.inl y0] M = J_X12_tally_77 fu k11 s x1 x2 x3 x4 x5 x6 y0 M := rfl
def J_X12_tally_69 (fu : Nat) (k11 : Nat → Int32 → Int32 → Int32 → Int32 → Int32 → Int32 → xM → Option (Int32 × xM)) (s : Nat) (x1 : Int32) (x2 : Int32) (x3 : Int32) (x4 : Int32) (x5 : Int32) (x6 : Int32) (y0 : Int32) (y1 : Int32) (M : xM) : Option (Int32 × xM) :=
  if ¬ y1 = y0 then
    J_X12_tally_77 fu k11 s x1 x2 x3 x4 x5 x6 0 M
  else
    J_X12_tally_77 fu k11 s x1 x2 x3 x4 x5 x6 1 M
set_option maxRecDepth 100000 in
theorem q_X12_tally_69 (fu : Nat) (k11 : Nat → Int32 → Int32 → Int32 → Int32 → Int32 → Int32 → xM → Option (Int32 × xM)) (s : Nat) (x1 : Int32) (x2 : Int32) (x3 : Int32) (x4 : Int32) (x5 : Int32) (x6 : Int32) (y0 : Int32) (y1 : Int32) (M : xM) :
    xrun pX12_tally flX12 koX12 nwX12 [] [(77, fun bc bs ls st M => xz bc bs (lR ls 0 12 fun o => o.bind fun s => lI ls 1 fun x1 => lI ls 2 fun x2 => lI ls 3 fun x3 => lI ls 4 fun x4 => lI ls 5 fun x5 => lI ls 6 fun x6 => pI st fun y0 st => xe st (J_X12_tally_77 fu k11 s x1 x2 x3 x4 x5 x6 y0 M)))] xrtI 56 (xat 69 pX12_tally) 0 0 [(0, .inr (.inr (12, some s))), (1, .inl x1), (2, .inl x2), (3, .inl x3), (4, .inl x4), (5, .inl x5), (6, .inl x6)] [.inl y0, .inl y1] M = J_X12_tally_69 fu k11 s x1 x2 x3 x4 x5 x6 y0 y1 M := rfl
def J_X12_tally_34 (fu : Nat) (k11 : Nat → Int32 → Int32 → Int32 → Int32 → Int32 → Int32 → xM → Option (Int32 × xM)) (s : Nat) (x1 : Int32) (x2 : Int32) (x3 : Int32) (x4 : Int32) (x5 : Int32) (x6 : Int32) (y0 : Int32) (M : xM) : Option (Int32 × xM) :=
  if ¬ x4 = 0 then
    if ¬ y0 = 0 then
      J_X12_tally_77 fu k11 s x1 x2 x3 x4 x5 x6 0 M
    else
      (F_X12_isLive fu s x1 x6 M).bind fun p_1 =>
      if ¬ x4 = 1 then
        J_X12_tally_69 fu k11 s x1 x2 x3 x4 x5 x6 0 p_1.1 p_1.2
      else
        J_X12_tally_69 fu k11 s x1 x2 x3 x4 x5 x6 1 p_1.1 p_1.2
  else
    J_X12_tally_77 fu k11 s x1 x2 x3 x4 x5 x6 y0 M
set_option maxRecDepth 100000 in
theorem q_X12_tally_34 (fu : Nat) (k11 : Nat → Int32 → Int32 → Int32 → Int32 → Int32 → Int32 → xM → Option (Int32 × xM)) (s : Nat) (x1 : Int32) (x2 : Int32) (x3 : Int32) (x4 : Int32) (x5 : Int32) (x6 : Int32) (y0 : Int32) (M : xM) :
    xrun pX12_tally flX12 koX12 nwX12 [(308, 3, 0, 0, w_X12_isLive fu)] [(69, fun bc bs ls st M => xz bc bs (lR ls 0 12 fun o => o.bind fun s => lI ls 1 fun x1 => lI ls 2 fun x2 => lI ls 3 fun x3 => lI ls 4 fun x4 => lI ls 5 fun x5 => lI ls 6 fun x6 => pI st fun y0 st => pI st fun y1 st => xe st (J_X12_tally_69 fu k11 s x1 x2 x3 x4 x5 x6 y0 y1 M))),
    (77, fun bc bs ls st M => xz bc bs (lR ls 0 12 fun o => o.bind fun s => lI ls 1 fun x1 => lI ls 2 fun x2 => lI ls 3 fun x3 => lI ls 4 fun x4 => lI ls 5 fun x5 => lI ls 6 fun x6 => pI st fun y0 st => xe st (J_X12_tally_77 fu k11 s x1 x2 x3 x4 x5 x6 y0 M)))] xrtI 56 (xat 34 pX12_tally) 0 0 [(0, .inr (.inr (12, some s))), (1, .inl x1), (2, .inl x2), (3, .inl x3), (4, .inl x4), (5, .inl x5), (6, .inl x6)] [.inl y0] M = J_X12_tally_34 fu k11 s x1 x2 x3 x4 x5 x6 y0 M := rfl
def L_X12_tally_11 (fu : Nat) : Nat → Nat → Int32 → Int32 → Int32 → Int32 → Int32 → Int32 → xM → Option (Int32 × xM)
  | 0, _, _, _, _, _, _, _, _ => none
  | n + 1, s, x1, x2, x3, x4, x5, x6, M =>
    if (x2 + x3) ≤ x6 then
      (some (x5, M))
    else
      (F_X12_typeOf fu s x1 x6 M).bind fun p_1 =>
      if ¬ p_1.1 = 0 then
        J_X12_tally_34 fu (L_X12_tally_11 fu n) s x1 x2 x3 x4 x5 x6 0 p_1.2
      else
        J_X12_tally_34 fu (L_X12_tally_11 fu n) s x1 x2 x3 x4 x5 x6 1 p_1.2
set_option maxRecDepth 100000 in
theorem q_X12_tally_11 (fu : Nat) (n : Nat) (s : Nat) (x1 : Int32) (x2 : Int32) (x3 : Int32) (x4 : Int32) (x5 : Int32) (x6 : Int32) (M : xM) :
    xrun pX12_tally flX12 koX12 nwX12 [(290, 3, 0, 0, w_X12_typeOf fu)] [(34, fun bc bs ls st M => xz bc bs (lR ls 0 12 fun o => o.bind fun s => lI ls 1 fun x1 => lI ls 2 fun x2 => lI ls 3 fun x3 => lI ls 4 fun x4 => lI ls 5 fun x5 => lI ls 6 fun x6 => pI st fun y0 st => xe st (J_X12_tally_34 fu (L_X12_tally_11 fu n) s x1 x2 x3 x4 x5 x6 y0 M)))] xrtI 56 (xat 11 pX12_tally) 0 0 [(0, .inr (.inr (12, some s))), (1, .inl x1), (2, .inl x2), (3, .inl x3), (4, .inl x4), (5, .inl x5), (6, .inl x6)] [] M = L_X12_tally_11 fu (n + 1) s x1 x2 x3 x4 x5 x6 M := rfl
def F_X12_tally (fu : Nat) (s : Nat) (x1 : Int32) (x2 : Int32) (x3 : Int32) (x4 : Int32) (M : xM) : Option (Int32 × xM) :=
  (F_X12_looks fu s x1 M).bind fun p_1 =>
  L_X12_tally_11 fu fu s x1 x2 x3 x4 0 x2 p_1
set_option maxRecDepth 100000 in
theorem q_X12_tally (fu : Nat) (s : Nat) (x1 : Int32) (x2 : Int32) (x3 : Int32) (x4 : Int32) (M : xM) :
    xrun pX12_tally flX12 koX12 nwX12 [(305, 2, 0, 0, w_X12_looks fu)] [(11, fun bc bs ls st M => xz bc bs (lR ls 0 12 fun o => o.bind fun s => lI ls 1 fun x1 => lI ls 2 fun x2 => lI ls 3 fun x3 => lI ls 4 fun x4 => lI ls 5 fun x5 => lI ls 6 fun x6 => xe st (L_X12_tally_11 fu fu s x1 x2 x3 x4 x5 x6 M)))] xrtI 56 (xat 0 pX12_tally) 0 0 [(0, .inr (.inr (12, some s))), (1, .inl x1), (2, .inl x2), (3, .inl x3), (4, .inl x4)] [] M = F_X12_tally fu s x1 x2 x3 x4 M := rfl
def w_X12_tally (fu : Nat) {ρ : Type} (as : List xV) (M : xM) (k : Option xV → xM → Option ρ) : Option ρ := pR 12 as fun o as => o.bind fun s => pI as fun x1 as => pI as fun x2 as => pI as fun x3 as => pI as fun x4 as => xe as ((F_X12_tally fu s x1 x2 x3 x4 M).bind fun p => k (some (.inl p.1)) p.2)
def pX12_journalOf : List xE := [(0, 0, 1, 0, 0, [], .aload_n 0),
  (0, 1, 1, 0, 0, [], .iload_n 1),
  (0, 2, 3, 0, 0, [], .invokevirtual 305),
  (0, 5, 1, 0, 0, [], .iconst 0),
  (0, 6, 1, 0, 0, [], .istore_n 2),
  (0, 7, 1, 0, 0, [], .iconst 0),
  (0, 8, 1, 0, 0, [], .istore_n 3),
  (1, 9, 1, 0, 0, [], .iload_n 3),
  (0, 10, 1, 0, 0, [], .aload_n 0),
  (0, 11, 3, 0, 0, [], .invokevirtual 277),
  (0, 14, 3, 40, 0, [], .if_icmp .ge 26),
  (0, 17, 1, 0, 0, [], .iload_n 2),
  (0, 18, 1, 0, 0, [], .aload_n 0),
  (0, 19, 1, 0, 0, [], .iload_n 1),
  (0, 20, 1, 0, 0, [], .iload_n 3),
  (0, 21, 3, 0, 0, [], .invokevirtual 302),
  (0, 24, 3, 31, 0, [], .ifCond .eq 7),
  (0, 27, 1, 0, 1, [], .iconst 1),
  (0, 28, 3, 32, 0, [], .goto 4),
  (0, 31, 1, 0, 0, [], .iconst 0),
  (0, 32, 1, 0, 0, [], .iadd),
  (0, 33, 1, 0, 0, [], .istore_n 2),
  (0, 34, 3, 0, 1, [], .iinc 3 1),
  (0, 37, 3, 9, 0, [], .goto (-28)),
  (0, 40, 1, 0, 0, [], .iload_n 2),
  (0, 41, 1, 0, 0, [], .ireturn)]
def L_X12_journalOf_9 (fu : Nat) : Nat → Nat → Int32 → Int32 → Int32 → xM → Option (Int32 × xM)
  | 0, _, _, _, _, _ => none
  | n + 1, s, x1, x2, x3, M =>
    (F_X12_allSlots fu s M).bind fun p_1 =>
    if p_1.1 ≤ x3 then
      (some (x2, p_1.2))
    else
      (F_X12_isJournal fu s x1 x3 p_1.2).bind fun p_2 =>
      if p_2.1 = 0 then
        let x2_3 : Int32 := x2 + 0
        L_X12_journalOf_9 fu n s x1 x2_3 (x3 + 1) p_2.2
      else
        let x2_4 : Int32 := x2 + 1
        L_X12_journalOf_9 fu n s x1 x2_4 (x3 + 1) p_2.2
set_option maxRecDepth 100000 in
theorem q_X12_journalOf_9 (fu : Nat) (n : Nat) (s : Nat) (x1 : Int32) (x2 : Int32) (x3 : Int32) (M : xM) :
    xrun pX12_journalOf flX12 koX12 nwX12 [(277, 1, 0, 0, w_X12_allSlots fu), (302, 3, 0, 0, w_X12_isJournal fu)] [(9, fun bc bs ls st M => xz bc bs (lR ls 0 12 fun o => o.bind fun s => lI ls 1 fun x1 => lI ls 2 fun x2 => lI ls 3 fun x3 => xe st (L_X12_journalOf_9 fu n s x1 x2 x3 M)))] xrtI 28 (xat 9 pX12_journalOf) 0 0 [(0, .inr (.inr (12, some s))), (1, .inl x1), (2, .inl x2), (3, .inl x3)] [] M = L_X12_journalOf_9 fu (n + 1) s x1 x2 x3 M := rfl
def F_X12_journalOf (fu : Nat) (s : Nat) (x1 : Int32) (M : xM) : Option (Int32 × xM) :=
  (F_X12_looks fu s x1 M).bind fun p_1 =>
  L_X12_journalOf_9 fu fu s x1 0 0 p_1
set_option maxRecDepth 100000 in
theorem q_X12_journalOf (fu : Nat) (s : Nat) (x1 : Int32) (M : xM) :
    xrun pX12_journalOf flX12 koX12 nwX12 [(305, 2, 0, 0, w_X12_looks fu)] [(9, fun bc bs ls st M => xz bc bs (lR ls 0 12 fun o => o.bind fun s => lI ls 1 fun x1 => lI ls 2 fun x2 => lI ls 3 fun x3 => xe st (L_X12_journalOf_9 fu fu s x1 x2 x3 M)))] xrtI 28 (xat 0 pX12_journalOf) 0 0 [(0, .inr (.inr (12, some s))), (1, .inl x1)] [] M = F_X12_journalOf fu s x1 M := rfl
def w_X12_journalOf (fu : Nat) {ρ : Type} (as : List xV) (M : xM) (k : Option xV → xM → Option ρ) : Option ρ := pR 12 as fun o as => o.bind fun s => pI as fun x1 as => xe as ((F_X12_journalOf fu s x1 M).bind fun p => k (some (.inl p.1)) p.2)
def pX12_worked : List xE := [(0, 0, 1, 0, 0, [], .iload_n 0),
  (0, 1, 39, 88, 0, [(4, 40), (5, 44), (6, 48), (7, 52), (8, 63), (9, 74)], .tableswitch 87 4 9 #[39, 43, 47, 51, 62, 73]),
  (0, 40, 1, 0, 0, [], .iload_n 1),
  (0, 41, 1, 0, 0, [], .iload_n 2),
  (0, 42, 1, 0, 0, [], .iadd),
  (0, 43, 1, 0, 0, [], .ireturn),
  (0, 44, 1, 0, 0, [], .iload_n 1),
  (0, 45, 1, 0, 0, [], .iload_n 2),
  (0, 46, 1, 0, 0, [], .isub),
  (0, 47, 1, 0, 0, [], .ireturn),
  (0, 48, 1, 0, 0, [], .iload_n 1),
  (0, 49, 1, 0, 0, [], .iload_n 2),
  (0, 50, 1, 0, 0, [], .imul),
  (0, 51, 1, 0, 0, [], .ireturn),
  (0, 52, 1, 0, 0, [], .iload_n 1),
  (0, 53, 1, 0, 0, [], .iload_n 2),
  (0, 54, 3, 61, 0, [], .if_icmp .ge 7),
  (0, 57, 1, 0, 1, [], .iconst 1),
  (0, 58, 3, 62, 0, [], .goto 4),
  (0, 61, 1, 0, 0, [], .iconst 0),
  (0, 62, 1, 0, 0, [], .ireturn),
  (0, 63, 1, 0, 0, [], .iload_n 1),
  (0, 64, 1, 0, 0, [], .iload_n 2),
  (0, 65, 3, 72, 0, [], .if_icmp .ne 7),
  (0, 68, 1, 0, 1, [], .iconst 1),
  (0, 69, 3, 73, 0, [], .goto 4),
  (0, 72, 1, 0, 0, [], .iconst 0),
  (0, 73, 1, 0, 0, [], .ireturn),
  (0, 74, 1, 0, 0, [], .iload_n 1),
  (0, 75, 3, 86, 0, [], .ifCond .eq 11),
  (0, 78, 1, 0, 0, [], .iload_n 2),
  (0, 79, 3, 86, 0, [], .ifCond .eq 7),
  (0, 82, 1, 0, 1, [], .iconst 1),
  (0, 83, 3, 87, 0, [], .goto 4),
  (0, 86, 1, 0, 0, [], .iconst 0),
  (0, 87, 1, 0, 0, [], .ireturn),
  (0, 88, 1, 0, 0, [], .iload_n 1),
  (0, 89, 3, 96, 0, [], .ifCond .ne 7),
  (0, 92, 1, 0, 0, [], .iload_n 2),
  (0, 93, 3, 100, 0, [], .ifCond .eq 7),
  (0, 96, 1, 0, 1, [], .iconst 1),
  (0, 97, 3, 101, 0, [], .goto 4),
  (0, 100, 1, 0, 0, [], .iconst 0),
  (0, 101, 1, 0, 0, [], .ireturn)]
def F_X12_worked (fu : Nat) (x0 : Int32) (x1 : Int32) (x2 : Int32) (M : xM) : Option (Int32 × xM) :=
  if x0 = 4 then
    (some (x1 + x2, M))
  else
  if x0 = 5 then
    (some (x1 - x2, M))
  else
  if x0 = 6 then
    (some (x1 * x2, M))
  else
  if x0 = 7 then
    if x2 ≤ x1 then
      (some (0, M))
    else
      (some (1, M))
  else
  if x0 = 8 then
    if ¬ x1 = x2 then
      (some (0, M))
    else
      (some (1, M))
  else
  if x0 = 9 then
    if x1 = 0 then
      (some (0, M))
    else
      if x2 = 0 then
        (some (0, M))
      else
        (some (1, M))
  else
    if ¬ x1 = 0 then
      (some (1, M))
    else
      if x2 = 0 then
        (some (0, M))
      else
        (some (1, M))
set_option maxRecDepth 100000 in
theorem q_X12_worked (fu : Nat) (x0 : Int32) (x1 : Int32) (x2 : Int32) (M : xM) :
    xrun pX12_worked flX12 koX12 nwX12 [] [] xrtI 46 (xat 0 pX12_worked) 0 0 [(0, .inl x0), (1, .inl x1), (2, .inl x2)] [] M = F_X12_worked fu x0 x1 x2 M := rfl
def w_X12_worked (fu : Nat) {ρ : Type} (as : List xV) (M : xM) (k : Option xV → xM → Option ρ) : Option ρ := pI as fun x0 as => pI as fun x1 as => pI as fun x2 as => xe as ((F_X12_worked fu x0 x1 x2 M).bind fun p => k (some (.inl p.1)) p.2)
def pX12_worthAt : List xE := [(0, 0, 1, 0, 0, [], .iconst 0),
  (0, 1, 1, 0, 0, [], .istore_n 2),
  (0, 2, 1, 0, 0, [], .iload_n 1),
  (0, 3, 1, 0, 0, [], .istore_n 3),
  (1, 4, 1, 0, 0, [], .aload_n 0),
  (0, 5, 3, 0, 0, [], .getfield 86),
  (0, 8, 1, 0, 0, [], .iload_n 3),
  (0, 9, 1, 0, 0, [], .iaload),
  (0, 10, 2, 0, 16, [], .bipush 16),
  (0, 12, 1, 0, 0, [], .irem),
  (0, 13, 3, 152, 0, [], .ifCond .eq 139),
  (0, 16, 1, 0, 0, [], .aload_n 0),
  (0, 17, 3, 0, 0, [], .getfield 86),
  (0, 20, 1, 0, 0, [], .iload_n 3),
  (0, 21, 1, 0, 0, [], .iaload),
  (0, 22, 2, 0, 16, [], .bipush 16),
  (0, 24, 1, 0, 0, [], .irem),
  (0, 25, 2, 0, 0, [], .istore 4),
  (0, 27, 2, 0, 0, [], .iload 4),
  (0, 29, 1, 0, 1, [], .iconst 1),
  (0, 30, 3, 39, 0, [], .if_icmp .eq 9),
  (0, 33, 2, 0, 0, [], .iload 4),
  (0, 35, 1, 0, 2, [], .iconst 2),
  (0, 36, 3, 83, 0, [], .if_icmp .ne 47),
  (1, 39, 1, 0, 0, [], .aload_n 0),
  (0, 40, 3, 0, 0, [], .getfield 98),
  (0, 43, 1, 0, 0, [], .iload_n 2),
  (0, 44, 2, 0, 0, [], .iload 4),
  (0, 46, 1, 0, 1, [], .iconst 1),
  (0, 47, 3, 62, 0, [], .if_icmp .ne 15),
  (0, 50, 1, 0, 0, [], .aload_n 0),
  (0, 51, 3, 0, 0, [], .getfield 86),
  (0, 54, 1, 0, 0, [], .iload_n 3),
  (0, 55, 1, 0, 0, [], .iaload),
  (0, 56, 2, 0, 16, [], .bipush 16),
  (0, 58, 1, 0, 0, [], .idiv),
  (0, 59, 3, 76, 0, [], .goto 17),
  (0, 62, 1, 0, 0, [], .aload_n 0),
  (0, 63, 3, 0, 0, [], .getfield 95),
  (0, 66, 1, 0, 0, [], .aload_n 0),
  (0, 67, 3, 0, 0, [], .getfield 86),
  (0, 70, 1, 0, 0, [], .iload_n 3),
  (0, 71, 1, 0, 0, [], .iaload),
  (0, 72, 2, 0, 16, [], .bipush 16),
  (0, 74, 1, 0, 0, [], .idiv),
  (0, 75, 1, 0, 0, [], .iaload),
  (0, 76, 1, 0, 0, [], .iastore),
  (0, 77, 3, 0, 1, [], .iinc 2 1),
  (0, 80, 3, 146, 0, [], .goto 66),
  (0, 83, 2, 0, 0, [], .iload 4),
  (0, 85, 1, 0, 3, [], .iconst 3),
  (0, 86, 3, 116, 0, [], .if_icmp .ne 30),
  (0, 89, 1, 0, 0, [], .aload_n 0),
  (0, 90, 3, 0, 0, [], .getfield 98),
  (0, 93, 1, 0, 0, [], .iload_n 2),
  (0, 94, 1, 0, 1, [], .iconst 1),
  (0, 95, 1, 0, 0, [], .isub),
  (0, 96, 1, 0, 0, [], .aload_n 0),
  (0, 97, 3, 0, 0, [], .getfield 98),
  (0, 100, 1, 0, 0, [], .iload_n 2),
  (0, 101, 1, 0, 1, [], .iconst 1),
  (0, 102, 1, 0, 0, [], .isub),
  (0, 103, 1, 0, 0, [], .iaload),
  (0, 104, 3, 111, 0, [], .ifCond .ne 7),
  (0, 107, 1, 0, 1, [], .iconst 1),
  (0, 108, 3, 112, 0, [], .goto 4),
  (0, 111, 1, 0, 0, [], .iconst 0),
  (0, 112, 1, 0, 0, [], .iastore),
  (0, 113, 3, 146, 0, [], .goto 33),
  (0, 116, 3, 0, (-1), [], .iinc 2 (-1)),
  (0, 119, 1, 0, 0, [], .aload_n 0),
  (0, 120, 3, 0, 0, [], .getfield 98),
  (0, 123, 1, 0, 0, [], .iload_n 2),
  (0, 124, 1, 0, 1, [], .iconst 1),
  (0, 125, 1, 0, 0, [], .isub),
  (0, 126, 2, 0, 0, [], .iload 4),
  (0, 128, 1, 0, 0, [], .aload_n 0),
  (0, 129, 3, 0, 0, [], .getfield 98),
  (0, 132, 1, 0, 0, [], .iload_n 2),
  (0, 133, 1, 0, 1, [], .iconst 1),
  (0, 134, 1, 0, 0, [], .isub),
  (0, 135, 1, 0, 0, [], .iaload),
  (0, 136, 1, 0, 0, [], .aload_n 0),
  (0, 137, 3, 0, 0, [], .getfield 98),
  (0, 140, 1, 0, 0, [], .iload_n 2),
  (0, 141, 1, 0, 0, [], .iaload),
  (0, 142, 3, 0, 0, [], .invokestatic 242),
  (0, 145, 1, 0, 0, [], .iastore),
  (0, 146, 3, 0, 1, [], .iinc 3 1),
  (0, 149, 3, 4, 0, [], .goto (-145)),
  (0, 152, 1, 0, 0, [], .aload_n 0),
  (0, 153, 3, 0, 0, [], .getfield 98),
  (0, 156, 1, 0, 0, [], .iconst 0),
  (0, 157, 1, 0, 0, [], .iaload),
  (0, 158, 1, 0, 0, [], .ireturn)]
def J_X12_worthAt_39 (fu : Nat) (k4 : Nat → Int32 → Int32 → xM → Option (Int32 × xM)) (s : Nat) (x2 : Int32) (x3 : Int32) (x4 : Int32) (M : xM) : Option (Int32 × xM) :=
  if ¬ x4 = 1 then
    (gR M 12 s 11).bind fun a_1 =>
    gd (xin x3 (gN M 20 a_1)) <|
    gd (!((16 : Int32) == 0)) <|
    (gR M 12 s 15).bind fun a_2 =>
    gd (xin ((gI M 20 a_1 (xi x3)) / 16) (gN M 20 a_2)) <|
    (gR M 12 s 16).bind fun a_3 =>
    gd (xin x2 (gN M 20 a_3)) <|
    let M_4 := sI M 20 a_3 (xi x2) (gI M 20 a_2 (xi ((gI M 20 a_1 (xi x3)) / 16)))
    k4 s (x2 + 1) (x3 + 1) M_4
  else
    (gR M 12 s 11).bind fun a_5 =>
    gd (xin x3 (gN M 20 a_5)) <|
    gd (!((16 : Int32) == 0)) <|
    (gR M 12 s 16).bind fun a_6 =>
    gd (xin x2 (gN M 20 a_6)) <|
    let M_7 := sI M 20 a_6 (xi x2) ((gI M 20 a_5 (xi x3)) / 16)
    k4 s (x2 + 1) (x3 + 1) M_7
set_option maxRecDepth 100000 in
theorem q_X12_worthAt_39 (fu : Nat) (k4 : Nat → Int32 → Int32 → xM → Option (Int32 × xM)) (s : Nat) (x2 : Int32) (x3 : Int32) (x4 : Int32) (M : xM) :
    xrun pX12_worthAt flX12 koX12 nwX12 [] [(4, fun bc bs ls st M => xz bc bs (lR ls 0 12 fun o => o.bind fun s => lI ls 2 fun x2 => lI ls 3 fun x3 => xe st (k4 s x2 x3 M)))] xrtI 97 (xat 39 pX12_worthAt) 0 0 [(0, .inr (.inr (12, some s))), (2, .inl x2), (3, .inl x3), (4, .inl x4)] [] M = J_X12_worthAt_39 fu k4 s x2 x3 x4 M := rfl
def L_X12_worthAt_4 (fu : Nat) : Nat → Nat → Int32 → Int32 → xM → Option (Int32 × xM)
  | 0, _, _, _, _ => none
  | n + 1, s, x2, x3, M =>
    (gR M 12 s 11).bind fun a_1 =>
    gd (xin x3 (gN M 20 a_1)) <|
    gd (!((16 : Int32) == 0)) <|
    if ((gI M 20 a_1 (xi x3)) - (gI M 20 a_1 (xi x3)) / 16 * 16) = 0 then
      (gR M 12 s 16).bind fun a_2 =>
      gd (xin 0 (gN M 20 a_2)) <|
      (some (gI M 20 a_2 (xi 0), M))
    else
      (gR M 12 s 11).bind fun a_3 =>
      gd (xin x3 (gN M 20 a_3)) <|
      gd (!((16 : Int32) == 0)) <|
      let x4_4 : Int32 := (gI M 20 a_3 (xi x3)) - (gI M 20 a_3 (xi x3)) / 16 * 16
      if x4_4 = 1 then
        J_X12_worthAt_39 fu (L_X12_worthAt_4 fu n) s x2 x3 x4_4 M
      else
        if ¬ x4_4 = 2 then
          if ¬ x4_4 = 3 then
            (gR M 12 s 16).bind fun a_5 =>
            gd (xin ((x2 + (-1)) - 1) (gN M 20 a_5)) <|
            (gR M 12 s 16).bind fun a_6 =>
            gd (xin (x2 + (-1)) (gN M 20 a_6)) <|
            (F_X12_worked fu x4_4 (gI M 20 a_5 (xi ((x2 + (-1)) - 1))) (gI M 20 a_6 (xi (x2 + (-1)))) M).bind fun p_7 =>
            (gR M 12 s 16).bind fun a_8 =>
            gd (xin ((x2 + (-1)) - 1) (gN p_7.2 20 a_8)) <|
            let M_9 := sI p_7.2 20 a_8 (xi ((x2 + (-1)) - 1)) p_7.1
            L_X12_worthAt_4 fu n s (x2 + (-1)) (x3 + 1) M_9
          else
            (gR M 12 s 16).bind fun a_10 =>
            gd (xin (x2 - 1) (gN M 20 a_10)) <|
            if ¬ (gI M 20 a_10 (xi (x2 - 1))) = 0 then
              (gR M 12 s 16).bind fun a_11 =>
              gd (xin (x2 - 1) (gN M 20 a_11)) <|
              let M_12 := sI M 20 a_11 (xi (x2 - 1)) 0
              L_X12_worthAt_4 fu n s x2 (x3 + 1) M_12
            else
              (gR M 12 s 16).bind fun a_13 =>
              gd (xin (x2 - 1) (gN M 20 a_13)) <|
              let M_14 := sI M 20 a_13 (xi (x2 - 1)) 1
              L_X12_worthAt_4 fu n s x2 (x3 + 1) M_14
        else
          J_X12_worthAt_39 fu (L_X12_worthAt_4 fu n) s x2 x3 x4_4 M
set_option maxRecDepth 100000 in
theorem q_X12_worthAt_4 (fu : Nat) (n : Nat) (s : Nat) (x2 : Int32) (x3 : Int32) (M : xM) :
    xrun pX12_worthAt flX12 koX12 nwX12 [(242, 3, 0, 0, w_X12_worked fu)] [(4, fun bc bs ls st M => xz bc bs (lR ls 0 12 fun o => o.bind fun s => lI ls 2 fun x2 => lI ls 3 fun x3 => xe st (L_X12_worthAt_4 fu n s x2 x3 M))),
    (39, fun bc bs ls st M => xz bc bs (lR ls 0 12 fun o => o.bind fun s => lI ls 2 fun x2 => lI ls 3 fun x3 => lI ls 4 fun x4 => xe st (J_X12_worthAt_39 fu (L_X12_worthAt_4 fu n) s x2 x3 x4 M)))] xrtI 97 (xat 4 pX12_worthAt) 0 0 [(0, .inr (.inr (12, some s))), (2, .inl x2), (3, .inl x3)] [] M = L_X12_worthAt_4 fu (n + 1) s x2 x3 M := rfl
def F_X12_worthAt (fu : Nat) (s : Nat) (x1 : Int32) (M : xM) : Option (Int32 × xM) :=
  L_X12_worthAt_4 fu fu s 0 x1 M
set_option maxRecDepth 100000 in
theorem q_X12_worthAt (fu : Nat) (s : Nat) (x1 : Int32) (M : xM) :
    xrun pX12_worthAt flX12 koX12 nwX12 [] [(4, fun bc bs ls st M => xz bc bs (lR ls 0 12 fun o => o.bind fun s => lI ls 2 fun x2 => lI ls 3 fun x3 => xe st (L_X12_worthAt_4 fu fu s x2 x3 M)))] xrtI 97 (xat 0 pX12_worthAt) 0 0 [(0, .inr (.inr (12, some s))), (1, .inl x1)] [] M = F_X12_worthAt fu s x1 M := rfl
def w_X12_worthAt (fu : Nat) {ρ : Type} (as : List xV) (M : xM) (k : Option xV → xM → Option ρ) : Option ρ := pR 12 as fun o as => o.bind fun s => pI as fun x1 as => xe as ((F_X12_worthAt fu s x1 M).bind fun p => k (some (.inl p.1)) p.2)
def pX12_pickOf : List xE := [(0, 0, 1, 0, (-1), [], .iconst (-1)),
  (0, 1, 1, 0, 0, [], .istore_n 2),
  (0, 2, 1, 0, 0, [], .iconst 0),
  (0, 3, 1, 0, 0, [], .istore_n 3),
  (0, 4, 1, 0, 0, [], .iconst 0),
  (0, 5, 2, 0, 0, [], .istore 4),
  (1, 7, 2, 0, 0, [], .iload 4),
  (0, 9, 1, 0, 0, [], .aload_n 0),
  (0, 10, 3, 0, 0, [], .invokevirtual 252),
  (0, 13, 3, 132, 0, [], .if_icmp .ge 119),
  (0, 16, 2, 0, 0, [], .iload 4),
  (0, 18, 1, 0, 0, [], .aload_n 0),
  (0, 19, 3, 0, 0, [], .getfield 101),
  (0, 22, 1, 0, 0, [], .iload_n 1),
  (0, 23, 1, 0, 1, [], .iconst 1),
  (0, 24, 1, 0, 0, [], .iadd),
  (0, 25, 1, 0, 0, [], .iaload),
  (0, 26, 3, 33, 0, [], .if_icmp .ne 7),
  (0, 29, 1, 0, 0, [], .iconst 0),
  (0, 30, 3, 50, 0, [], .goto 20),
  (0, 33, 1, 0, 0, [], .aload_n 0),
  (0, 34, 1, 0, 0, [], .iload_n 1),
  (0, 35, 1, 0, 0, [], .aload_n 0),
  (0, 36, 3, 0, 0, [], .invokevirtual 255),
  (0, 39, 2, 0, 0, [], .iload 4),
  (0, 41, 1, 0, 0, [], .imul),
  (0, 42, 1, 0, 0, [], .aload_n 0),
  (0, 43, 3, 0, 0, [], .invokevirtual 255),
  (0, 46, 1, 0, 2, [], .iconst 2),
  (0, 47, 3, 0, 0, [], .invokevirtual 329),
  (1, 50, 2, 0, 0, [], .istore 5),
  (0, 52, 2, 0, 0, [], .iload 5),
  (0, 54, 1, 0, 0, [], .iload_n 3),
  (0, 55, 3, 95, 0, [], .if_icmp .gt 40),
  (0, 58, 2, 0, 0, [], .iload 5),
  (0, 60, 1, 0, 0, [], .iload_n 3),
  (0, 61, 3, 99, 0, [], .if_icmp .ne 38),
  (0, 64, 2, 0, 0, [], .iload 5),
  (0, 66, 3, 99, 0, [], .ifCond .le 33),
  (0, 69, 1, 0, 0, [], .aload_n 0),
  (0, 70, 3, 0, 0, [], .getfield 101),
  (0, 73, 1, 0, 0, [], .iload_n 1),
  (0, 74, 2, 0, 8, [], .bipush 8),
  (0, 76, 1, 0, 0, [], .iadd),
  (0, 77, 2, 0, 0, [], .iload 4),
  (0, 79, 1, 0, 0, [], .iadd),
  (0, 80, 1, 0, 0, [], .iaload),
  (0, 81, 1, 0, 0, [], .aload_n 0),
  (0, 82, 3, 0, 0, [], .getfield 101),
  (0, 85, 1, 0, 0, [], .iload_n 1),
  (0, 86, 2, 0, 8, [], .bipush 8),
  (0, 88, 1, 0, 0, [], .iadd),
  (0, 89, 1, 0, 0, [], .iload_n 2),
  (0, 90, 1, 0, 0, [], .iadd),
  (0, 91, 1, 0, 0, [], .iaload),
  (0, 92, 3, 99, 0, [], .if_icmp .ge 7),
  (0, 95, 1, 0, 1, [], .iconst 1),
  (0, 96, 3, 100, 0, [], .goto 4),
  (0, 99, 1, 0, 0, [], .iconst 0),
  (1, 100, 2, 0, 0, [], .istore 6),
  (0, 102, 2, 0, 0, [], .iload 6),
  (0, 104, 3, 112, 0, [], .ifCond .eq 8),
  (0, 107, 2, 0, 0, [], .iload 4),
  (0, 109, 3, 113, 0, [], .goto 4),
  (0, 112, 1, 0, 0, [], .iload_n 2),
  (1, 113, 1, 0, 0, [], .istore_n 2),
  (0, 114, 2, 0, 0, [], .iload 6),
  (0, 116, 3, 124, 0, [], .ifCond .eq 8),
  (0, 119, 2, 0, 0, [], .iload 5),
  (0, 121, 3, 125, 0, [], .goto 4),
  (0, 124, 1, 0, 0, [], .iload_n 3),
  (0, 125, 1, 0, 0, [], .istore_n 3),
  (0, 126, 3, 0, 1, [], .iinc 4 1),
  (0, 129, 3, 7, 0, [], .goto (-122)),
  (0, 132, 1, 0, 0, [], .aload_n 0),
  (0, 133, 3, 0, 0, [], .getfield 101),
  (0, 136, 1, 0, 0, [], .iload_n 1),
  (0, 137, 1, 0, 2, [], .iconst 2),
  (0, 138, 1, 0, 0, [], .iadd),
  (0, 139, 1, 0, 0, [], .iaload),
  (0, 140, 1, 0, 1, [], .iconst 1),
  (0, 141, 3, 183, 0, [], .if_icmp .ne 42),
  (0, 144, 1, 0, 0, [], .iload_n 2),
  (0, 145, 3, 183, 0, [], .ifCond .lt 38),
  (0, 148, 1, 0, 0, [], .aload_n 0),
  (0, 149, 1, 0, 0, [], .iload_n 1),
  (0, 150, 3, 0, 0, [], .invokevirtual 326),
  (0, 153, 1, 0, 0, [], .aload_n 0),
  (0, 154, 1, 0, 0, [], .iload_n 1),
  (0, 155, 1, 0, 0, [], .iload_n 2),
  (0, 156, 3, 0, 0, [], .invokevirtual 311),
  (0, 159, 1, 0, 0, [], .isub),
  (0, 160, 1, 0, 0, [], .aload_n 0),
  (0, 161, 1, 0, 0, [], .iload_n 1),
  (0, 162, 1, 0, 0, [], .aload_n 0),
  (0, 163, 3, 0, 0, [], .invokevirtual 255),
  (0, 166, 1, 0, 0, [], .iload_n 2),
  (0, 167, 1, 0, 0, [], .imul),
  (0, 168, 1, 0, 0, [], .aload_n 0),
  (0, 169, 3, 0, 0, [], .invokevirtual 255),
  (0, 172, 1, 0, 1, [], .iconst 1),
  (0, 173, 3, 0, 0, [], .invokevirtual 329),
  (0, 176, 3, 183, 0, [], .if_icmp .lt 7),
  (0, 179, 1, 0, 1, [], .iconst 1),
  (0, 180, 3, 184, 0, [], .goto 4),
  (0, 183, 1, 0, 0, [], .iconst 0),
  (1, 184, 2, 0, 0, [], .istore 4),
  (0, 186, 2, 0, 0, [], .iload 4),
  (0, 188, 3, 195, 0, [], .ifCond .eq 7),
  (0, 191, 1, 0, 0, [], .iload_n 2),
  (0, 192, 3, 196, 0, [], .goto 4),
  (0, 195, 1, 0, (-1), [], .iconst (-1)),
  (0, 196, 1, 0, 0, [], .ireturn)]
def J_X12_pickOf_184 (fu : Nat) (x2 : Int32) (y0 : Int32) (M : xM) : Option (Int32 × xM) :=
  if y0 = 0 then
    (some ((-1), M))
  else
    (some (x2, M))
set_option maxRecDepth 100000 in
theorem q_X12_pickOf_184 (fu : Nat) (x2 : Int32) (y0 : Int32) (M : xM) :
    xrun pX12_pickOf flX12 koX12 nwX12 [] [] xrtI 115 (xat 184 pX12_pickOf) 0 0 [(2, .inl x2)] [.inl y0] M = J_X12_pickOf_184 fu x2 y0 M := rfl
def J_X12_pickOf_113 (fu : Nat) (k7 : Nat → Int32 → Int32 → Int32 → Int32 → xM → Option (Int32 × xM)) (s : Nat) (x1 : Int32) (x3 : Int32) (x4 : Int32) (x5 : Int32) (x6 : Int32) (y0 : Int32) (M : xM) : Option (Int32 × xM) :=
  if x6 = 0 then
    k7 s x1 y0 x3 (x4 + 1) M
  else
    k7 s x1 y0 x5 (x4 + 1) M
set_option maxRecDepth 100000 in
theorem q_X12_pickOf_113 (fu : Nat) (k7 : Nat → Int32 → Int32 → Int32 → Int32 → xM → Option (Int32 × xM)) (s : Nat) (x1 : Int32) (x3 : Int32) (x4 : Int32) (x5 : Int32) (x6 : Int32) (y0 : Int32) (M : xM) :
    xrun pX12_pickOf flX12 koX12 nwX12 [] [(7, fun bc bs ls st M => xz bc bs (lR ls 0 12 fun o => o.bind fun s => lI ls 1 fun x1 => lI ls 2 fun x2 => lI ls 3 fun x3 => lI ls 4 fun x4 => xe st (k7 s x1 x2 x3 x4 M)))] xrtI 115 (xat 113 pX12_pickOf) 0 0 [(0, .inr (.inr (12, some s))), (1, .inl x1), (3, .inl x3), (4, .inl x4), (5, .inl x5), (6, .inl x6)] [.inl y0] M = J_X12_pickOf_113 fu k7 s x1 x3 x4 x5 x6 y0 M := rfl
def J_X12_pickOf_100 (fu : Nat) (k7 : Nat → Int32 → Int32 → Int32 → Int32 → xM → Option (Int32 × xM)) (s : Nat) (x1 : Int32) (x2 : Int32) (x3 : Int32) (x4 : Int32) (x5 : Int32) (y0 : Int32) (M : xM) : Option (Int32 × xM) :=
  if y0 = 0 then
    J_X12_pickOf_113 fu k7 s x1 x3 x4 x5 y0 x2 M
  else
    J_X12_pickOf_113 fu k7 s x1 x3 x4 x5 y0 x4 M
set_option maxRecDepth 100000 in
theorem q_X12_pickOf_100 (fu : Nat) (k7 : Nat → Int32 → Int32 → Int32 → Int32 → xM → Option (Int32 × xM)) (s : Nat) (x1 : Int32) (x2 : Int32) (x3 : Int32) (x4 : Int32) (x5 : Int32) (y0 : Int32) (M : xM) :
    xrun pX12_pickOf flX12 koX12 nwX12 [] [(113, fun bc bs ls st M => xz bc bs (lR ls 0 12 fun o => o.bind fun s => lI ls 1 fun x1 => lI ls 3 fun x3 => lI ls 4 fun x4 => lI ls 5 fun x5 => lI ls 6 fun x6 => pI st fun y0 st => xe st (J_X12_pickOf_113 fu k7 s x1 x3 x4 x5 x6 y0 M)))] xrtI 115 (xat 100 pX12_pickOf) 0 0 [(0, .inr (.inr (12, some s))), (1, .inl x1), (2, .inl x2), (3, .inl x3), (4, .inl x4), (5, .inl x5)] [.inl y0] M = J_X12_pickOf_100 fu k7 s x1 x2 x3 x4 x5 y0 M := rfl
def J_X12_pickOf_50 (fu : Nat) (k7 : Nat → Int32 → Int32 → Int32 → Int32 → xM → Option (Int32 × xM)) (s : Nat) (x1 : Int32) (x2 : Int32) (x3 : Int32) (x4 : Int32) (y0 : Int32) (M : xM) : Option (Int32 × xM) :=
  if x3 < y0 then
    J_X12_pickOf_100 fu k7 s x1 x2 x3 x4 y0 1 M
  else
    if ¬ y0 = x3 then
      J_X12_pickOf_100 fu k7 s x1 x2 x3 x4 y0 0 M
    else
      if y0 ≤ 0 then
        J_X12_pickOf_100 fu k7 s x1 x2 x3 x4 y0 0 M
      else
        (gR M 12 s 17).bind fun a_1 =>
        gd (xin ((x1 + 8) + x4) (gN M 20 a_1)) <|
        (gR M 12 s 17).bind fun a_2 =>
        gd (xin ((x1 + 8) + x2) (gN M 20 a_2)) <|
        if (gI M 20 a_2 (xi ((x1 + 8) + x2))) ≤ (gI M 20 a_1 (xi ((x1 + 8) + x4))) then
          J_X12_pickOf_100 fu k7 s x1 x2 x3 x4 y0 0 M
        else
          J_X12_pickOf_100 fu k7 s x1 x2 x3 x4 y0 1 M
set_option maxRecDepth 100000 in
theorem q_X12_pickOf_50 (fu : Nat) (k7 : Nat → Int32 → Int32 → Int32 → Int32 → xM → Option (Int32 × xM)) (s : Nat) (x1 : Int32) (x2 : Int32) (x3 : Int32) (x4 : Int32) (y0 : Int32) (M : xM) :
    xrun pX12_pickOf flX12 koX12 nwX12 [] [(100, fun bc bs ls st M => xz bc bs (lR ls 0 12 fun o => o.bind fun s => lI ls 1 fun x1 => lI ls 2 fun x2 => lI ls 3 fun x3 => lI ls 4 fun x4 => lI ls 5 fun x5 => pI st fun y0 st => xe st (J_X12_pickOf_100 fu k7 s x1 x2 x3 x4 x5 y0 M)))] xrtI 115 (xat 50 pX12_pickOf) 0 0 [(0, .inr (.inr (12, some s))), (1, .inl x1), (2, .inl x2), (3, .inl x3), (4, .inl x4)] [.inl y0] M = J_X12_pickOf_50 fu k7 s x1 x2 x3 x4 y0 M := rfl
def L_X12_pickOf_7 (fu : Nat) : Nat → Nat → Int32 → Int32 → Int32 → Int32 → xM → Option (Int32 × xM)
  | 0, _, _, _, _, _, _ => none
  | n + 1, s, x1, x2, x3, x4, M =>
    (F_X12_blocks fu s M).bind fun p_1 =>
    if p_1.1 ≤ x4 then
      (gR p_1.2 12 s 17).bind fun a_2 =>
      gd (xin (x1 + 2) (gN p_1.2 20 a_2)) <|
      if ¬ (gI p_1.2 20 a_2 (xi (x1 + 2))) = 1 then
        J_X12_pickOf_184 fu x2 0 p_1.2
      else
        if x2 < 0 then
          J_X12_pickOf_184 fu x2 0 p_1.2
        else
          (F_X12_erased fu s x1 p_1.2).bind fun p_3 =>
          (F_X12_erasedIn fu s x1 x2 p_3.2).bind fun p_4 =>
          (F_X12_wide fu s p_4.2).bind fun p_5 =>
          (F_X12_wide fu s p_5.2).bind fun p_6 =>
          (F_X12_tally fu s x1 (p_5.1 * x2) p_6.1 1 p_6.2).bind fun p_7 =>
          if (p_3.1 - p_4.1) < p_7.1 then
            J_X12_pickOf_184 fu x2 0 p_7.2
          else
            J_X12_pickOf_184 fu x2 1 p_7.2
    else
      (gR p_1.2 12 s 17).bind fun a_8 =>
      gd (xin (x1 + 1) (gN p_1.2 20 a_8)) <|
      if ¬ x4 = (gI p_1.2 20 a_8 (xi (x1 + 1))) then
        (F_X12_wide fu s p_1.2).bind fun p_9 =>
        (F_X12_wide fu s p_9.2).bind fun p_10 =>
        (F_X12_tally fu s x1 (p_9.1 * x4) p_10.1 2 p_10.2).bind fun p_11 =>
        J_X12_pickOf_50 fu (L_X12_pickOf_7 fu n) s x1 x2 x3 x4 p_11.1 p_11.2
      else
        J_X12_pickOf_50 fu (L_X12_pickOf_7 fu n) s x1 x2 x3 x4 0 p_1.2
set_option maxRecDepth 100000 in
theorem q_X12_pickOf_7 (fu : Nat) (n : Nat) (s : Nat) (x1 : Int32) (x2 : Int32) (x3 : Int32) (x4 : Int32) (M : xM) :
    xrun pX12_pickOf flX12 koX12 nwX12 [(252, 1, 0, 0, w_X12_blocks fu), (255, 1, 0, 0, w_X12_wide fu), (311, 3, 0, 0, w_X12_erasedIn fu), (326, 2, 0, 0, w_X12_erased fu), (329, 5, 0, 0, w_X12_tally fu)] [(50, fun bc bs ls st M => xz bc bs (lR ls 0 12 fun o => o.bind fun s => lI ls 1 fun x1 => lI ls 2 fun x2 => lI ls 3 fun x3 => lI ls 4 fun x4 => pI st fun y0 st => xe st (J_X12_pickOf_50 fu (L_X12_pickOf_7 fu n) s x1 x2 x3 x4 y0 M))),
    (184, fun bc bs ls st M => xz bc bs (lI ls 2 fun x2 => pI st fun y0 st => xe st (J_X12_pickOf_184 fu x2 y0 M)))] xrtI 115 (xat 7 pX12_pickOf) 0 0 [(0, .inr (.inr (12, some s))), (1, .inl x1), (2, .inl x2), (3, .inl x3), (4, .inl x4)] [] M = L_X12_pickOf_7 fu (n + 1) s x1 x2 x3 x4 M := rfl
def F_X12_pickOf (fu : Nat) (s : Nat) (x1 : Int32) (M : xM) : Option (Int32 × xM) :=
  L_X12_pickOf_7 fu fu s x1 ((-1)) 0 0 M
set_option maxRecDepth 100000 in
theorem q_X12_pickOf (fu : Nat) (s : Nat) (x1 : Int32) (M : xM) :
    xrun pX12_pickOf flX12 koX12 nwX12 [] [(7, fun bc bs ls st M => xz bc bs (lR ls 0 12 fun o => o.bind fun s => lI ls 1 fun x1 => lI ls 2 fun x2 => lI ls 3 fun x3 => lI ls 4 fun x4 => xe st (L_X12_pickOf_7 fu fu s x1 x2 x3 x4 M)))] xrtI 115 (xat 0 pX12_pickOf) 0 0 [(0, .inr (.inr (12, some s))), (1, .inl x1)] [] M = F_X12_pickOf fu s x1 M := rfl
def w_X12_pickOf (fu : Nat) {ρ : Type} (as : List xV) (M : xM) (k : Option xV → xM → Option ρ) : Option ρ := pR 12 as fun o as => o.bind fun s => pI as fun x1 as => xe as ((F_X12_pickOf fu s x1 M).bind fun p => k (some (.inl p.1)) p.2)
def pX12_freshBlock : List xE := [(0, 0, 1, 0, (-1), [], .iconst (-1)),
  (0, 1, 1, 0, 0, [], .istore_n 2),
  (0, 2, 1, 0, 0, [], .iconst 0),
  (0, 3, 1, 0, 0, [], .istore_n 3),
  (1, 4, 1, 0, 0, [], .iload_n 3),
  (0, 5, 1, 0, 0, [], .aload_n 0),
  (0, 6, 3, 0, 0, [], .invokevirtual 252),
  (0, 9, 3, 78, 0, [], .if_icmp .ge 69),
  (0, 12, 1, 0, 0, [], .aload_n 0),
  (0, 13, 1, 0, 0, [], .iload_n 1),
  (0, 14, 1, 0, 0, [], .iload_n 3),
  (0, 15, 3, 0, 0, [], .invokevirtual 311),
  (0, 18, 1, 0, 0, [], .aload_n 0),
  (0, 19, 3, 0, 0, [], .invokevirtual 255),
  (0, 22, 3, 58, 0, [], .if_icmp .ne 36),
  (0, 25, 1, 0, 0, [], .iload_n 2),
  (0, 26, 3, 54, 0, [], .ifCond .lt 28),
  (0, 29, 1, 0, 0, [], .aload_n 0),
  (0, 30, 3, 0, 0, [], .getfield 101),
  (0, 33, 1, 0, 0, [], .iload_n 1),
  (0, 34, 2, 0, 8, [], .bipush 8),
  (0, 36, 1, 0, 0, [], .iadd),
  (0, 37, 1, 0, 0, [], .iload_n 3),
  (0, 38, 1, 0, 0, [], .iadd),
  (0, 39, 1, 0, 0, [], .iaload),
  (0, 40, 1, 0, 0, [], .aload_n 0),
  (0, 41, 3, 0, 0, [], .getfield 101),
  (0, 44, 1, 0, 0, [], .iload_n 1),
  (0, 45, 2, 0, 8, [], .bipush 8),
  (0, 47, 1, 0, 0, [], .iadd),
  (0, 48, 1, 0, 0, [], .iload_n 2),
  (0, 49, 1, 0, 0, [], .iadd),
  (0, 50, 1, 0, 0, [], .iaload),
  (0, 51, 3, 58, 0, [], .if_icmp .ge 7),
  (0, 54, 1, 0, 1, [], .iconst 1),
  (0, 55, 3, 59, 0, [], .goto 4),
  (0, 58, 1, 0, 0, [], .iconst 0),
  (1, 59, 2, 0, 0, [], .istore 4),
  (0, 61, 2, 0, 0, [], .iload 4),
  (0, 63, 3, 70, 0, [], .ifCond .eq 7),
  (0, 66, 1, 0, 0, [], .iload_n 3),
  (0, 67, 3, 71, 0, [], .goto 4),
  (0, 70, 1, 0, 0, [], .iload_n 2),
  (0, 71, 1, 0, 0, [], .istore_n 2),
  (0, 72, 3, 0, 1, [], .iinc 3 1),
  (0, 75, 3, 4, 0, [], .goto (-71)),
  (0, 78, 1, 0, 0, [], .iload_n 2),
  (0, 79, 1, 0, 0, [], .ireturn)]
def J_X12_freshBlock_59 (fu : Nat) (k4 : Nat → Int32 → Int32 → Int32 → xM → Option (Int32 × xM)) (s : Nat) (x1 : Int32) (x2 : Int32) (x3 : Int32) (y0 : Int32) (M : xM) : Option (Int32 × xM) :=
  if y0 = 0 then
    k4 s x1 x2 (x3 + 1) M
  else
    k4 s x1 x3 (x3 + 1) M
set_option maxRecDepth 100000 in
theorem q_X12_freshBlock_59 (fu : Nat) (k4 : Nat → Int32 → Int32 → Int32 → xM → Option (Int32 × xM)) (s : Nat) (x1 : Int32) (x2 : Int32) (x3 : Int32) (y0 : Int32) (M : xM) :
    xrun pX12_freshBlock flX12 koX12 nwX12 [] [(4, fun bc bs ls st M => xz bc bs (lR ls 0 12 fun o => o.bind fun s => lI ls 1 fun x1 => lI ls 2 fun x2 => lI ls 3 fun x3 => xe st (k4 s x1 x2 x3 M)))] xrtI 50 (xat 59 pX12_freshBlock) 0 0 [(0, .inr (.inr (12, some s))), (1, .inl x1), (2, .inl x2), (3, .inl x3)] [.inl y0] M = J_X12_freshBlock_59 fu k4 s x1 x2 x3 y0 M := rfl
def L_X12_freshBlock_4 (fu : Nat) : Nat → Nat → Int32 → Int32 → Int32 → xM → Option (Int32 × xM)
  | 0, _, _, _, _, _ => none
  | n + 1, s, x1, x2, x3, M =>
    (F_X12_blocks fu s M).bind fun p_1 =>
    if p_1.1 ≤ x3 then
      (some (x2, p_1.2))
    else
      (F_X12_erasedIn fu s x1 x3 p_1.2).bind fun p_2 =>
      (F_X12_wide fu s p_2.2).bind fun p_3 =>
      if ¬ p_2.1 = p_3.1 then
        J_X12_freshBlock_59 fu (L_X12_freshBlock_4 fu n) s x1 x2 x3 0 p_3.2
      else
        if x2 < 0 then
          J_X12_freshBlock_59 fu (L_X12_freshBlock_4 fu n) s x1 x2 x3 1 p_3.2
        else
          (gR p_3.2 12 s 17).bind fun a_4 =>
          gd (xin ((x1 + 8) + x3) (gN p_3.2 20 a_4)) <|
          (gR p_3.2 12 s 17).bind fun a_5 =>
          gd (xin ((x1 + 8) + x2) (gN p_3.2 20 a_5)) <|
          if (gI p_3.2 20 a_5 (xi ((x1 + 8) + x2))) ≤ (gI p_3.2 20 a_4 (xi ((x1 + 8) + x3))) then
            J_X12_freshBlock_59 fu (L_X12_freshBlock_4 fu n) s x1 x2 x3 0 p_3.2
          else
            J_X12_freshBlock_59 fu (L_X12_freshBlock_4 fu n) s x1 x2 x3 1 p_3.2
set_option maxRecDepth 100000 in
theorem q_X12_freshBlock_4 (fu : Nat) (n : Nat) (s : Nat) (x1 : Int32) (x2 : Int32) (x3 : Int32) (M : xM) :
    xrun pX12_freshBlock flX12 koX12 nwX12 [(252, 1, 0, 0, w_X12_blocks fu), (255, 1, 0, 0, w_X12_wide fu), (311, 3, 0, 0, w_X12_erasedIn fu)] [(59, fun bc bs ls st M => xz bc bs (lR ls 0 12 fun o => o.bind fun s => lI ls 1 fun x1 => lI ls 2 fun x2 => lI ls 3 fun x3 => pI st fun y0 st => xe st (J_X12_freshBlock_59 fu (L_X12_freshBlock_4 fu n) s x1 x2 x3 y0 M)))] xrtI 50 (xat 4 pX12_freshBlock) 0 0 [(0, .inr (.inr (12, some s))), (1, .inl x1), (2, .inl x2), (3, .inl x3)] [] M = L_X12_freshBlock_4 fu (n + 1) s x1 x2 x3 M := rfl
def F_X12_freshBlock (fu : Nat) (s : Nat) (x1 : Int32) (M : xM) : Option (Int32 × xM) :=
  L_X12_freshBlock_4 fu fu s x1 ((-1)) 0 M
set_option maxRecDepth 100000 in
theorem q_X12_freshBlock (fu : Nat) (s : Nat) (x1 : Int32) (M : xM) :
    xrun pX12_freshBlock flX12 koX12 nwX12 [] [(4, fun bc bs ls st M => xz bc bs (lR ls 0 12 fun o => o.bind fun s => lI ls 1 fun x1 => lI ls 2 fun x2 => lI ls 3 fun x3 => xe st (L_X12_freshBlock_4 fu fu s x1 x2 x3 M)))] xrtI 50 (xat 0 pX12_freshBlock) 0 0 [(0, .inr (.inr (12, some s))), (1, .inl x1)] [] M = F_X12_freshBlock fu s x1 M := rfl
def w_X12_freshBlock (fu : Nat) {ρ : Type} (as : List xV) (M : xM) (k : Option xV → xM → Option ρ) : Option ρ := pR 12 as fun o as => o.bind fun s => pI as fun x1 as => xe as ((F_X12_freshBlock fu s x1 M).bind fun p => k (some (.inl p.1)) p.2)
def pX12_puts : List xE := [(0, 0, 1, 0, 0, [], .aload_n 0),
  (0, 1, 3, 0, 0, [], .getfield 101),
  (0, 4, 1, 0, 0, [], .iload_n 1),
  (0, 5, 1, 0, 1, [], .iconst 1),
  (0, 6, 1, 0, 0, [], .iadd),
  (0, 7, 1, 0, 0, [], .iaload),
  (0, 8, 1, 0, 0, [], .istore_n 2),
  (0, 9, 1, 0, 0, [], .iload_n 2),
  (0, 10, 3, 22, 0, [], .ifCond .lt 12),
  (0, 13, 1, 0, 0, [], .aload_n 0),
  (0, 14, 1, 0, 0, [], .iload_n 1),
  (0, 15, 1, 0, 0, [], .iload_n 2),
  (0, 16, 3, 0, 0, [], .invokevirtual 311),
  (0, 19, 3, 37, 0, [], .ifCond .ne 18),
  (1, 22, 1, 0, 0, [], .aload_n 0),
  (0, 23, 1, 0, 0, [], .iload_n 1),
  (0, 24, 3, 0, 0, [], .invokevirtual 314),
  (0, 27, 1, 0, 0, [], .istore_n 2),
  (0, 28, 1, 0, 0, [], .aload_n 0),
  (0, 29, 3, 0, 0, [], .getfield 101),
  (0, 32, 1, 0, 0, [], .iload_n 1),
  (0, 33, 1, 0, 1, [], .iconst 1),
  (0, 34, 1, 0, 0, [], .iadd),
  (0, 35, 1, 0, 0, [], .iload_n 2),
  (0, 36, 1, 0, 0, [], .iastore),
  (1, 37, 1, 0, 0, [], .aload_n 0),
  (0, 38, 3, 0, 0, [], .invokevirtual 255),
  (0, 41, 1, 0, 0, [], .iload_n 2),
  (0, 42, 1, 0, 0, [], .imul),
  (0, 43, 1, 0, 0, [], .aload_n 0),
  (0, 44, 3, 0, 0, [], .invokevirtual 255),
  (0, 47, 1, 0, 0, [], .iadd),
  (0, 48, 1, 0, 0, [], .aload_n 0),
  (0, 49, 1, 0, 0, [], .iload_n 1),
  (0, 50, 1, 0, 0, [], .iload_n 2),
  (0, 51, 3, 0, 0, [], .invokevirtual 311),
  (0, 54, 1, 0, 0, [], .isub),
  (0, 55, 1, 0, 0, [], .istore_n 3),
  (0, 56, 1, 0, 0, [], .aload_n 0),
  (0, 57, 3, 0, 0, [], .getfield 101),
  (0, 60, 1, 0, 0, [], .iload_n 1),
  (0, 61, 1, 0, 3, [], .iconst 3),
  (0, 62, 1, 0, 0, [], .iadd),
  (0, 63, 1, 0, 0, [], .iaload),
  (0, 64, 1, 0, 1, [], .iconst 1),
  (0, 65, 3, 72, 0, [], .if_icmp .ne 7),
  (0, 68, 1, 0, 1, [], .iconst 1),
  (0, 69, 3, 73, 0, [], .goto 4),
  (0, 72, 1, 0, 0, [], .iconst 0),
  (0, 73, 2, 0, 0, [], .istore 4),
  (0, 75, 1, 0, 0, [], .aload_n 0),
  (0, 76, 1, 0, (-1), [], .iconst (-1)),
  (0, 77, 3, 0, 0, [], .putfield 246),
  (0, 80, 1, 0, 0, [], .iconst 0),
  (0, 81, 2, 0, 0, [], .istore 5),
  (1, 83, 2, 0, 0, [], .iload 5),
  (0, 85, 2, 0, 13, [], .bipush 13),
  (0, 87, 3, 125, 0, [], .if_icmp .ge 38),
  (0, 90, 1, 0, 0, [], .aload_n 0),
  (0, 91, 3, 0, 0, [], .getfield 101),
  (0, 94, 1, 0, 0, [], .iload_n 1),
  (0, 95, 1, 0, 0, [], .iload_n 3),
  (0, 96, 3, 0, 0, [], .invokestatic 264),
  (0, 99, 2, 0, 0, [], .iload 5),
  (0, 101, 1, 0, 0, [], .iadd),
  (0, 102, 2, 0, 0, [], .iload 4),
  (0, 104, 3, 111, 0, [], .ifCond .eq 7),
  (0, 107, 1, 0, (-1), [], .iconst (-1)),
  (0, 108, 3, 118, 0, [], .goto 10),
  (0, 111, 1, 0, 0, [], .aload_n 0),
  (0, 112, 3, 0, 0, [], .getfield 108),
  (0, 115, 2, 0, 0, [], .iload 5),
  (0, 117, 1, 0, 0, [], .iaload),
  (0, 118, 1, 0, 0, [], .iastore),
  (0, 119, 3, 0, 1, [], .iinc 5 1),
  (0, 122, 3, 83, 0, [], .goto (-39)),
  (0, 125, 1, 0, 0, [], .aload_n 0),
  (0, 126, 3, 0, 0, [], .getfield 101),
  (0, 129, 1, 0, 0, [], .iload_n 1),
  (0, 130, 2, 0, 6, [], .bipush 6),
  (0, 132, 1, 0, 0, [], .iadd),
  (0, 133, 1, 0, 0, [], .dup2),
  (0, 134, 1, 0, 0, [], .iaload),
  (0, 135, 1, 0, 1, [], .iconst 1),
  (0, 136, 1, 0, 0, [], .iadd),
  (0, 137, 1, 0, 0, [], .iastore),
  (0, 138, 1, 0, 0, [], .aload_n 0),
  (0, 139, 3, 0, 0, [], .getfield 101),
  (0, 142, 1, 0, 0, [], .iload_n 1),
  (0, 143, 1, 0, 3, [], .iconst 3),
  (0, 144, 1, 0, 0, [], .iadd),
  (0, 145, 1, 0, 0, [], .dup2),
  (0, 146, 1, 0, 0, [], .iaload),
  (0, 147, 1, 0, 0, [], .aload_n 0),
  (0, 148, 3, 0, 0, [], .getfield 101),
  (0, 151, 1, 0, 0, [], .iload_n 1),
  (0, 152, 1, 0, 3, [], .iconst 3),
  (0, 153, 1, 0, 0, [], .iadd),
  (0, 154, 1, 0, 0, [], .iaload),
  (0, 155, 3, 162, 0, [], .ifCond .le 7),
  (0, 158, 1, 0, 1, [], .iconst 1),
  (0, 159, 3, 163, 0, [], .goto 4),
  (0, 162, 1, 0, 0, [], .iconst 0),
  (1, 163, 1, 0, 0, [], .isub),
  (0, 164, 1, 0, 0, [], .iastore),
  (0, 165, 2, 0, 0, [], .iload 4),
  (0, 167, 3, 186, 0, [], .ifCond .eq 19),
  (0, 170, 1, 0, 0, [], .aload_n 0),
  (0, 171, 3, 0, 0, [], .getfield 101),
  (0, 174, 1, 0, 0, [], .iload_n 1),
  (0, 175, 1, 0, 0, [], .iload_n 3),
  (0, 176, 3, 0, 0, [], .invokestatic 264),
  (0, 179, 1, 0, 4, [], .iconst 4),
  (0, 180, 1, 0, 0, [], .iastore),
  (0, 181, 1, 0, 0, [], .aload_n 0),
  (0, 182, 1, 0, 0, [], .iload_n 1),
  (0, 183, 3, 0, 0, [], .invokevirtual 317),
  (1, 186, 2, 0, 0, [], .iload 4),
  (0, 188, 3, 195, 0, [], .ifCond .ne 7),
  (0, 191, 1, 0, 1, [], .iconst 1),
  (0, 192, 3, 196, 0, [], .goto 4),
  (0, 195, 1, 0, 0, [], .iconst 0),
  (0, 196, 1, 0, 0, [], .ireturn)]
def J_X12_puts_186 (fu : Nat) (x4 : Int32) (M : xM) : Option (Int32 × xM) :=
  if ¬ x4 = 0 then
    gd (xbool 0) (some (0, M))
  else
    gd (xbool 1) (some (1, M))
set_option maxRecDepth 100000 in
theorem q_X12_puts_186 (fu : Nat) (x4 : Int32) (M : xM) :
    xrun pX12_puts flX12 koX12 nwX12 [] [] xrtZ 125 (xat 186 pX12_puts) 0 0 [(4, .inl x4)] [] M = J_X12_puts_186 fu x4 M := rfl
def J_X12_puts_163 (fu : Nat) (s : Nat) (x1 : Int32) (x3 : Int32) (x4 : Int32) (y0 : Int32) (y1 : Int32) (y2 : Int32) (y3 : Option Nat) (M : xM) : Option (Int32 × xM) :=
  y3.bind fun a_1 =>
  gd (xin y2 (gN M 20 a_1)) <|
  let M_2 := sI M 20 a_1 (xi y2) (y1 - y0)
  if x4 = 0 then
    J_X12_puts_186 fu x4 M_2
  else
    (F_X12_slotAt fu x1 x3 M_2).bind fun p_3 =>
    (gR M_2 12 s 17).bind fun a_4 =>
    gd (xin p_3.1 (gN p_3.2 20 a_4)) <|
    let M_5 := sI p_3.2 20 a_4 (xi p_3.1) 4
    (F_X12_powersOff fu s x1 M_5).bind fun p_6 =>
    J_X12_puts_186 fu x4 p_6
set_option maxRecDepth 100000 in
theorem q_X12_puts_163 (fu : Nat) (s : Nat) (x1 : Int32) (x3 : Int32) (x4 : Int32) (y0 : Int32) (y1 : Int32) (y2 : Int32) (y3 : Option Nat) (M : xM) :
    xrun pX12_puts flX12 koX12 nwX12 [(264, 2, 0, 0, w_X12_slotAt fu), (317, 2, 0, 0, w_X12_powersOff fu)] [(186, fun bc bs ls st M => xz bc bs (lI ls 4 fun x4 => xe st (J_X12_puts_186 fu x4 M)))] xrtZ 125 (xat 163 pX12_puts) 0 0 [(0, .inr (.inr (12, some s))), (1, .inl x1), (3, .inl x3), (4, .inl x4)] [.inl y0, .inl y1, .inl y2, .inr (.inr (20, y3))] M = J_X12_puts_163 fu s x1 x3 x4 y0 y1 y2 y3 M := rfl
def L_X12_puts_83 (fu : Nat) : Nat → Nat → Int32 → Int32 → Int32 → Int32 → xM → Option (Int32 × xM)
  | 0, _, _, _, _, _, _ => none
  | n + 1, s, x1, x3, x4, x5, M =>
    if 13 ≤ x5 then
      (gR M 12 s 17).bind fun a_1 =>
      gd (xin (x1 + 6) (gN M 20 a_1)) <|
      (gR M 12 s 17).bind fun a_2 =>
      gd (xin (x1 + 6) (gN M 20 a_2)) <|
      let M_3 := sI M 20 a_2 (xi (x1 + 6)) ((gI M 20 a_1 (xi (x1 + 6))) + 1)
      (gR M_3 12 s 17).bind fun a_4 =>
      gd (xin (x1 + 3) (gN M_3 20 a_4)) <|
      (gR M_3 12 s 17).bind fun a_5 =>
      gd (xin (x1 + 3) (gN M_3 20 a_5)) <|
      if (gI M_3 20 a_5 (xi (x1 + 3))) ≤ 0 then
        J_X12_puts_163 fu s x1 x3 x4 0 (gI M_3 20 a_4 (xi (x1 + 3))) (x1 + 3) (gR M_3 12 s 17) M_3
      else
        J_X12_puts_163 fu s x1 x3 x4 1 (gI M_3 20 a_4 (xi (x1 + 3))) (x1 + 3) (gR M_3 12 s 17) M_3
    else
      (F_X12_slotAt fu x1 x3 M).bind fun p_6 =>
      if x4 = 0 then
        (gR p_6.2 12 s 19).bind fun a_7 =>
        gd (xin x5 (gN p_6.2 20 a_7)) <|
        (gR M 12 s 17).bind fun a_8 =>
        gd (xin (p_6.1 + x5) (gN p_6.2 20 a_8)) <|
        let M_9 := sI p_6.2 20 a_8 (xi (p_6.1 + x5)) (gI p_6.2 20 a_7 (xi x5))
        L_X12_puts_83 fu n s x1 x3 x4 (x5 + 1) M_9
      else
        (gR M 12 s 17).bind fun a_10 =>
        gd (xin (p_6.1 + x5) (gN p_6.2 20 a_10)) <|
        let M_11 := sI p_6.2 20 a_10 (xi (p_6.1 + x5)) ((-1))
        L_X12_puts_83 fu n s x1 x3 x4 (x5 + 1) M_11
set_option maxRecDepth 100000 in
theorem q_X12_puts_83 (fu : Nat) (n : Nat) (s : Nat) (x1 : Int32) (x3 : Int32) (x4 : Int32) (x5 : Int32) (M : xM) :
    xrun pX12_puts flX12 koX12 nwX12 [(264, 2, 0, 0, w_X12_slotAt fu)] [(83, fun bc bs ls st M => xz bc bs (lR ls 0 12 fun o => o.bind fun s => lI ls 1 fun x1 => lI ls 3 fun x3 => lI ls 4 fun x4 => lI ls 5 fun x5 => xe st (L_X12_puts_83 fu n s x1 x3 x4 x5 M))),
    (163, fun bc bs ls st M => xz bc bs (lR ls 0 12 fun o => o.bind fun s => lI ls 1 fun x1 => lI ls 3 fun x3 => lI ls 4 fun x4 => pI st fun y0 st => pI st fun y1 st => pI st fun y2 st => pR 20 st fun y3 st => xe st (J_X12_puts_163 fu s x1 x3 x4 y0 y1 y2 y3 M)))] xrtZ 125 (xat 83 pX12_puts) 0 0 [(0, .inr (.inr (12, some s))), (1, .inl x1), (3, .inl x3), (4, .inl x4), (5, .inl x5)] [] M = L_X12_puts_83 fu (n + 1) s x1 x3 x4 x5 M := rfl
def J_X12_puts_37 (fu : Nat) (s : Nat) (x1 : Int32) (x2 : Int32) (M : xM) : Option (Int32 × xM) :=
  (F_X12_wide fu s M).bind fun p_1 =>
  (F_X12_wide fu s p_1.2).bind fun p_2 =>
  (F_X12_erasedIn fu s x1 x2 p_2.2).bind fun p_3 =>
  let x3_4 : Int32 := ((p_1.1 * x2) + p_2.1) - p_3.1
  (gR p_3.2 12 s 17).bind fun a_5 =>
  gd (xin (x1 + 3) (gN p_3.2 20 a_5)) <|
  if ¬ (gI p_3.2 20 a_5 (xi (x1 + 3))) = 1 then
    let M_6 := sI p_3.2 12 s 22 ((-1))
    L_X12_puts_83 fu fu s x1 x3_4 0 0 M_6
  else
    let M_7 := sI p_3.2 12 s 22 ((-1))
    L_X12_puts_83 fu fu s x1 x3_4 1 0 M_7
set_option maxRecDepth 100000 in
theorem q_X12_puts_37 (fu : Nat) (s : Nat) (x1 : Int32) (x2 : Int32) (M : xM) :
    xrun pX12_puts flX12 koX12 nwX12 [(255, 1, 0, 0, w_X12_wide fu), (311, 3, 0, 0, w_X12_erasedIn fu)] [(83, fun bc bs ls st M => xz bc bs (lR ls 0 12 fun o => o.bind fun s => lI ls 1 fun x1 => lI ls 3 fun x3 => lI ls 4 fun x4 => lI ls 5 fun x5 => xe st (L_X12_puts_83 fu fu s x1 x3 x4 x5 M)))] xrtZ 125 (xat 37 pX12_puts) 0 0 [(0, .inr (.inr (12, some s))), (1, .inl x1), (2, .inl x2)] [] M = J_X12_puts_37 fu s x1 x2 M := rfl
def J_X12_puts_22 (fu : Nat) (s : Nat) (x1 : Int32) (M : xM) : Option (Int32 × xM) :=
  (F_X12_freshBlock fu s x1 M).bind fun p_1 =>
  (gR p_1.2 12 s 17).bind fun a_2 =>
  gd (xin (x1 + 1) (gN p_1.2 20 a_2)) <|
  let M_3 := sI p_1.2 20 a_2 (xi (x1 + 1)) p_1.1
  J_X12_puts_37 fu s x1 p_1.1 M_3
set_option maxRecDepth 100000 in
theorem q_X12_puts_22 (fu : Nat) (s : Nat) (x1 : Int32) (M : xM) :
    xrun pX12_puts flX12 koX12 nwX12 [(314, 2, 0, 0, w_X12_freshBlock fu)] [(37, fun bc bs ls st M => xz bc bs (lR ls 0 12 fun o => o.bind fun s => lI ls 1 fun x1 => lI ls 2 fun x2 => xe st (J_X12_puts_37 fu s x1 x2 M)))] xrtZ 125 (xat 22 pX12_puts) 0 0 [(0, .inr (.inr (12, some s))), (1, .inl x1)] [] M = J_X12_puts_22 fu s x1 M := rfl
def F_X12_puts (fu : Nat) (s : Nat) (x1 : Int32) (M : xM) : Option (Int32 × xM) :=
  (gR M 12 s 17).bind fun a_1 =>
  gd (xin (x1 + 1) (gN M 20 a_1)) <|
  let x2_2 : Int32 := gI M 20 a_1 (xi (x1 + 1))
  if x2_2 < 0 then
    J_X12_puts_22 fu s x1 M
  else
    (F_X12_erasedIn fu s x1 x2_2 M).bind fun p_3 =>
    if ¬ p_3.1 = 0 then
      J_X12_puts_37 fu s x1 x2_2 p_3.2
    else
      J_X12_puts_22 fu s x1 p_3.2
set_option maxRecDepth 100000 in
theorem q_X12_puts (fu : Nat) (s : Nat) (x1 : Int32) (M : xM) :
    xrun pX12_puts flX12 koX12 nwX12 [(311, 3, 0, 0, w_X12_erasedIn fu)] [(22, fun bc bs ls st M => xz bc bs (lR ls 0 12 fun o => o.bind fun s => lI ls 1 fun x1 => xe st (J_X12_puts_22 fu s x1 M))),
    (37, fun bc bs ls st M => xz bc bs (lR ls 0 12 fun o => o.bind fun s => lI ls 1 fun x1 => lI ls 2 fun x2 => xe st (J_X12_puts_37 fu s x1 x2 M)))] xrtZ 125 (xat 0 pX12_puts) 0 0 [(0, .inr (.inr (12, some s))), (1, .inl x1)] [] M = F_X12_puts fu s x1 M := rfl
def w_X12_puts (fu : Nat) {ρ : Type} (as : List xV) (M : xM) (k : Option xV → xM → Option ρ) : Option ρ := pR 12 as fun o as => o.bind fun s => pI as fun x1 as => xe as ((F_X12_puts fu s x1 M).bind fun p => k (some (.inl p.1)) p.2)
def pX12_collects : List xE := [(0, 0, 1, 0, 0, [], .aload_n 0),
  (0, 1, 1, 0, 0, [], .iload_n 1),
  (0, 2, 3, 0, 0, [], .invokevirtual 333),
  (0, 5, 1, 0, 0, [], .istore_n 2),
  (0, 6, 1, 0, 0, [], .iload_n 2),
  (0, 7, 3, 12, 0, [], .ifCond .ge 5),
  (0, 10, 1, 0, (-1), [], .iconst (-1)),
  (0, 11, 1, 0, 0, [], .ireturn),
  (0, 12, 1, 0, 0, [], .iconst 0),
  (0, 13, 1, 0, 0, [], .istore_n 3),
  (0, 14, 1, 0, 0, [], .aload_n 0),
  (0, 15, 1, 0, 0, [], .iload_n 1),
  (0, 16, 3, 0, 0, [], .invokevirtual 305),
  (0, 19, 1, 0, 0, [], .iconst 0),
  (0, 20, 2, 0, 0, [], .istore 4),
  (1, 22, 2, 0, 0, [], .iload 4),
  (0, 24, 1, 0, 0, [], .aload_n 0),
  (0, 25, 3, 0, 0, [], .invokevirtual 255),
  (0, 28, 3, 65, 0, [], .if_icmp .ge 37),
  (0, 31, 1, 0, 0, [], .iload_n 3),
  (0, 32, 1, 0, 0, [], .aload_n 0),
  (0, 33, 1, 0, 0, [], .iload_n 1),
  (0, 34, 1, 0, 0, [], .aload_n 0),
  (0, 35, 3, 0, 0, [], .invokevirtual 255),
  (0, 38, 1, 0, 0, [], .iload_n 2),
  (0, 39, 1, 0, 0, [], .imul),
  (0, 40, 2, 0, 0, [], .iload 4),
  (0, 42, 1, 0, 0, [], .iadd),
  (0, 43, 3, 0, 0, [], .invokevirtual 308),
  (0, 46, 3, 56, 0, [], .ifCond .eq 10),
  (0, 49, 1, 0, 1, [], .iconst 1),
  (0, 50, 2, 0, 0, [], .iload 4),
  (0, 52, 1, 0, 0, [], .ishl),
  (0, 53, 3, 57, 0, [], .goto 4),
  (0, 56, 1, 0, 0, [], .iconst 0),
  (0, 57, 1, 0, 0, [], .ior),
  (0, 58, 1, 0, 0, [], .istore_n 3),
  (0, 59, 3, 0, 1, [], .iinc 4 1),
  (0, 62, 3, 22, 0, [], .goto (-40)),
  (0, 65, 1, 0, 0, [], .iconst 0),
  (0, 66, 2, 0, 0, [], .istore 4),
  (1, 68, 2, 0, 0, [], .iload 4),
  (0, 70, 1, 0, 0, [], .aload_n 0),
  (0, 71, 3, 0, 0, [], .invokevirtual 255),
  (0, 74, 3, 148, 0, [], .if_icmp .ge 74),
  (0, 77, 1, 0, 0, [], .iload_n 3),
  (0, 78, 2, 0, 0, [], .iload 4),
  (0, 80, 1, 0, 0, [], .ishr),
  (0, 81, 1, 0, 1, [], .iconst 1),
  (0, 82, 1, 0, 0, [], .iand),
  (0, 83, 1, 0, 1, [], .iconst 1),
  (0, 84, 3, 142, 0, [], .if_icmp .ne 58),
  (0, 87, 1, 0, 0, [], .iconst 0),
  (0, 88, 2, 0, 0, [], .istore 5),
  (1, 90, 2, 0, 0, [], .iload 5),
  (0, 92, 2, 0, 13, [], .bipush 13),
  (0, 94, 3, 131, 0, [], .if_icmp .ge 37),
  (0, 97, 1, 0, 0, [], .aload_n 0),
  (0, 98, 3, 0, 0, [], .getfield 108),
  (0, 101, 2, 0, 0, [], .iload 5),
  (0, 103, 1, 0, 0, [], .aload_n 0),
  (0, 104, 3, 0, 0, [], .getfield 101),
  (0, 107, 1, 0, 0, [], .iload_n 1),
  (0, 108, 1, 0, 0, [], .aload_n 0),
  (0, 109, 3, 0, 0, [], .invokevirtual 255),
  (0, 112, 1, 0, 0, [], .iload_n 2),
  (0, 113, 1, 0, 0, [], .imul),
  (0, 114, 2, 0, 0, [], .iload 4),
  (0, 116, 1, 0, 0, [], .iadd),
  (0, 117, 3, 0, 0, [], .invokestatic 264),
  (0, 120, 2, 0, 0, [], .iload 5),
  (0, 122, 1, 0, 0, [], .iadd),
  (0, 123, 1, 0, 0, [], .iaload),
  (0, 124, 1, 0, 0, [], .iastore),
  (0, 125, 3, 0, 1, [], .iinc 5 1),
  (0, 128, 3, 90, 0, [], .goto (-38)),
  (0, 131, 1, 0, 0, [], .aload_n 0),
  (0, 132, 1, 0, 0, [], .iload_n 1),
  (0, 133, 3, 0, 0, [], .invokevirtual 320),
  (0, 136, 3, 142, 0, [], .ifCond .ne 6),
  (0, 139, 2, 0, (-2), [], .bipush (-2)),
  (0, 141, 1, 0, 0, [], .ireturn),
  (0, 142, 3, 0, 1, [], .iinc 4 1),
  (0, 145, 3, 68, 0, [], .goto (-77)),
  (0, 148, 1, 0, 0, [], .aload_n 0),
  (0, 149, 1, 0, (-1), [], .iconst (-1)),
  (0, 150, 3, 0, 0, [], .putfield 246),
  (0, 153, 1, 0, 0, [], .iconst 0),
  (0, 154, 2, 0, 0, [], .istore 4),
  (1, 156, 2, 0, 0, [], .iload 4),
  (0, 158, 2, 0, 13, [], .bipush 13),
  (0, 160, 1, 0, 0, [], .aload_n 0),
  (0, 161, 3, 0, 0, [], .invokevirtual 255),
  (0, 164, 1, 0, 0, [], .imul),
  (0, 165, 3, 193, 0, [], .if_icmp .ge 28),
  (0, 168, 1, 0, 0, [], .aload_n 0),
  (0, 169, 3, 0, 0, [], .getfield 101),
  (0, 172, 1, 0, 0, [], .iload_n 1),
  (0, 173, 1, 0, 0, [], .aload_n 0),
  (0, 174, 3, 0, 0, [], .invokevirtual 255),
  (0, 177, 1, 0, 0, [], .iload_n 2),
  (0, 178, 1, 0, 0, [], .imul),
  (0, 179, 3, 0, 0, [], .invokestatic 264),
  (0, 182, 2, 0, 0, [], .iload 4),
  (0, 184, 1, 0, 0, [], .iadd),
  (0, 185, 1, 0, 0, [], .iconst 0),
  (0, 186, 1, 0, 0, [], .iastore),
  (0, 187, 3, 0, 1, [], .iinc 4 1),
  (0, 190, 3, 156, 0, [], .goto (-34)),
  (0, 193, 1, 0, 0, [], .aload_n 0),
  (0, 194, 3, 0, 0, [], .getfield 101),
  (0, 197, 1, 0, 0, [], .iload_n 1),
  (0, 198, 2, 0, 8, [], .bipush 8),
  (0, 200, 1, 0, 0, [], .iadd),
  (0, 201, 1, 0, 0, [], .iload_n 2),
  (0, 202, 1, 0, 0, [], .iadd),
  (0, 203, 1, 0, 0, [], .dup2),
  (0, 204, 1, 0, 0, [], .iaload),
  (0, 205, 1, 0, 1, [], .iconst 1),
  (0, 206, 1, 0, 0, [], .iadd),
  (0, 207, 1, 0, 0, [], .iastore),
  (0, 208, 1, 0, 0, [], .aload_n 0),
  (0, 209, 3, 0, 0, [], .getfield 101),
  (0, 212, 1, 0, 0, [], .iload_n 1),
  (0, 213, 2, 0, 7, [], .bipush 7),
  (0, 215, 1, 0, 0, [], .iadd),
  (0, 216, 1, 0, 0, [], .dup2),
  (0, 217, 1, 0, 0, [], .iaload),
  (0, 218, 1, 0, 1, [], .iconst 1),
  (0, 219, 1, 0, 0, [], .iadd),
  (0, 220, 1, 0, 0, [], .iastore),
  (0, 221, 1, 0, 0, [], .iload_n 2),
  (0, 222, 1, 0, 0, [], .ireturn)]
def L_X12_collects_156 (fu : Nat) : Nat → Nat → Int32 → Int32 → Int32 → xM → Option (Int32 × xM)
  | 0, _, _, _, _, _ => none
  | n + 1, s, x1, x2, x4, M =>
    (F_X12_wide fu s M).bind fun p_1 =>
    if (13 * p_1.1) ≤ x4 then
      (gR p_1.2 12 s 17).bind fun a_2 =>
      gd (xin ((x1 + 8) + x2) (gN p_1.2 20 a_2)) <|
      (gR p_1.2 12 s 17).bind fun a_3 =>
      gd (xin ((x1 + 8) + x2) (gN p_1.2 20 a_3)) <|
      let M_4 := sI p_1.2 20 a_3 (xi ((x1 + 8) + x2)) ((gI p_1.2 20 a_2 (xi ((x1 + 8) + x2))) + 1)
      (gR M_4 12 s 17).bind fun a_5 =>
      gd (xin (x1 + 7) (gN M_4 20 a_5)) <|
      (gR M_4 12 s 17).bind fun a_6 =>
      gd (xin (x1 + 7) (gN M_4 20 a_6)) <|
      let M_7 := sI M_4 20 a_6 (xi (x1 + 7)) ((gI M_4 20 a_5 (xi (x1 + 7))) + 1)
      (some (x2, M_7))
    else
      (F_X12_wide fu s p_1.2).bind fun p_8 =>
      (F_X12_slotAt fu x1 (p_8.1 * x2) p_8.2).bind fun p_9 =>
      (gR p_1.2 12 s 17).bind fun a_10 =>
      gd (xin (p_9.1 + x4) (gN p_9.2 20 a_10)) <|
      let M_11 := sI p_9.2 20 a_10 (xi (p_9.1 + x4)) 0
      L_X12_collects_156 fu n s x1 x2 (x4 + 1) M_11
set_option maxRecDepth 100000 in
theorem q_X12_collects_156 (fu : Nat) (n : Nat) (s : Nat) (x1 : Int32) (x2 : Int32) (x4 : Int32) (M : xM) :
    xrun pX12_collects flX12 koX12 nwX12 [(255, 1, 0, 0, w_X12_wide fu), (264, 2, 0, 0, w_X12_slotAt fu)] [(156, fun bc bs ls st M => xz bc bs (lR ls 0 12 fun o => o.bind fun s => lI ls 1 fun x1 => lI ls 2 fun x2 => lI ls 4 fun x4 => xe st (L_X12_collects_156 fu n s x1 x2 x4 M)))] xrtI 135 (xat 156 pX12_collects) 0 0 [(0, .inr (.inr (12, some s))), (1, .inl x1), (2, .inl x2), (4, .inl x4)] [] M = L_X12_collects_156 fu (n + 1) s x1 x2 x4 M := rfl
def L_X12_collects_90 (fu : Nat) (k68 : Nat → Int32 → Int32 → Int32 → Int32 → xM → Option (Int32 × xM)) : Nat → Nat → Int32 → Int32 → Int32 → Int32 → Int32 → xM → Option (Int32 × xM)
  | 0, _, _, _, _, _, _, _ => none
  | n + 1, s, x1, x2, x3, x4, x5, M =>
    if 13 ≤ x5 then
      (F_X12_puts fu s x1 M).bind fun p_1 =>
      if ¬ p_1.1 = 0 then
        k68 s x1 x2 x3 (x4 + 1) p_1.2
      else
        (some ((-2), p_1.2))
    else
      (F_X12_wide fu s M).bind fun p_2 =>
      (F_X12_slotAt fu x1 ((p_2.1 * x2) + x4) p_2.2).bind fun p_3 =>
      (gR M 12 s 17).bind fun a_4 =>
      gd (xin (p_3.1 + x5) (gN p_3.2 20 a_4)) <|
      (gR M 12 s 19).bind fun a_5 =>
      gd (xin x5 (gN p_3.2 20 a_5)) <|
      let M_6 := sI p_3.2 20 a_5 (xi x5) (gI p_3.2 20 a_4 (xi (p_3.1 + x5)))
      L_X12_collects_90 fu k68 n s x1 x2 x3 x4 (x5 + 1) M_6
set_option maxRecDepth 100000 in
theorem q_X12_collects_90 (fu : Nat) (k68 : Nat → Int32 → Int32 → Int32 → Int32 → xM → Option (Int32 × xM)) (n : Nat) (s : Nat) (x1 : Int32) (x2 : Int32) (x3 : Int32) (x4 : Int32) (x5 : Int32) (M : xM) :
    xrun pX12_collects flX12 koX12 nwX12 [(255, 1, 0, 0, w_X12_wide fu), (264, 2, 0, 0, w_X12_slotAt fu), (320, 2, 0, 0, w_X12_puts fu)] [(68, fun bc bs ls st M => xz bc bs (lR ls 0 12 fun o => o.bind fun s => lI ls 1 fun x1 => lI ls 2 fun x2 => lI ls 3 fun x3 => lI ls 4 fun x4 => xe st (k68 s x1 x2 x3 x4 M))),
    (90, fun bc bs ls st M => xz bc bs (lR ls 0 12 fun o => o.bind fun s => lI ls 1 fun x1 => lI ls 2 fun x2 => lI ls 3 fun x3 => lI ls 4 fun x4 => lI ls 5 fun x5 => xe st (L_X12_collects_90 fu k68 n s x1 x2 x3 x4 x5 M)))] xrtI 135 (xat 90 pX12_collects) 0 0 [(0, .inr (.inr (12, some s))), (1, .inl x1), (2, .inl x2), (3, .inl x3), (4, .inl x4), (5, .inl x5)] [] M = L_X12_collects_90 fu k68 (n + 1) s x1 x2 x3 x4 x5 M := rfl
def L_X12_collects_68 (fu : Nat) : Nat → Nat → Int32 → Int32 → Int32 → Int32 → xM → Option (Int32 × xM)
  | 0, _, _, _, _, _, _ => none
  | n + 1, s, x1, x2, x3, x4, M =>
    (F_X12_wide fu s M).bind fun p_1 =>
    if p_1.1 ≤ x4 then
      let M_2 := sI p_1.2 12 s 22 ((-1))
      L_X12_collects_156 fu fu s x1 x2 0 M_2
    else
      if ¬ ((x3 >>> (x4 &&& 31)) &&& 1) = 1 then
        L_X12_collects_68 fu n s x1 x2 x3 (x4 + 1) p_1.2
      else
        L_X12_collects_90 fu (L_X12_collects_68 fu n) fu s x1 x2 x3 x4 0 p_1.2
set_option maxRecDepth 100000 in
theorem q_X12_collects_68 (fu : Nat) (n : Nat) (s : Nat) (x1 : Int32) (x2 : Int32) (x3 : Int32) (x4 : Int32) (M : xM) :
    xrun pX12_collects flX12 koX12 nwX12 [(255, 1, 0, 0, w_X12_wide fu)] [(68, fun bc bs ls st M => xz bc bs (lR ls 0 12 fun o => o.bind fun s => lI ls 1 fun x1 => lI ls 2 fun x2 => lI ls 3 fun x3 => lI ls 4 fun x4 => xe st (L_X12_collects_68 fu n s x1 x2 x3 x4 M))),
    (90, fun bc bs ls st M => xz bc bs (lR ls 0 12 fun o => o.bind fun s => lI ls 1 fun x1 => lI ls 2 fun x2 => lI ls 3 fun x3 => lI ls 4 fun x4 => lI ls 5 fun x5 => xe st (L_X12_collects_90 fu (L_X12_collects_68 fu n) fu s x1 x2 x3 x4 x5 M))),
    (156, fun bc bs ls st M => xz bc bs (lR ls 0 12 fun o => o.bind fun s => lI ls 1 fun x1 => lI ls 2 fun x2 => lI ls 4 fun x4 => xe st (L_X12_collects_156 fu fu s x1 x2 x4 M)))] xrtI 135 (xat 68 pX12_collects) 0 0 [(0, .inr (.inr (12, some s))), (1, .inl x1), (2, .inl x2), (3, .inl x3), (4, .inl x4)] [] M = L_X12_collects_68 fu (n + 1) s x1 x2 x3 x4 M := rfl
def L_X12_collects_22 (fu : Nat) : Nat → Nat → Int32 → Int32 → Int32 → Int32 → xM → Option (Int32 × xM)
  | 0, _, _, _, _, _, _ => none
  | n + 1, s, x1, x2, x3, x4, M =>
    (F_X12_wide fu s M).bind fun p_1 =>
    if p_1.1 ≤ x4 then
      L_X12_collects_68 fu fu s x1 x2 x3 0 p_1.2
    else
      (F_X12_wide fu s p_1.2).bind fun p_2 =>
      (F_X12_isLive fu s x1 ((p_2.1 * x2) + x4) p_2.2).bind fun p_3 =>
      if p_3.1 = 0 then
        let x3_4 : Int32 := x3 ||| 0
        L_X12_collects_22 fu n s x1 x2 x3_4 (x4 + 1) p_3.2
      else
        let x3_5 : Int32 := x3 ||| (1 <<< (x4 &&& 31))
        L_X12_collects_22 fu n s x1 x2 x3_5 (x4 + 1) p_3.2
set_option maxRecDepth 100000 in
theorem q_X12_collects_22 (fu : Nat) (n : Nat) (s : Nat) (x1 : Int32) (x2 : Int32) (x3 : Int32) (x4 : Int32) (M : xM) :
    xrun pX12_collects flX12 koX12 nwX12 [(255, 1, 0, 0, w_X12_wide fu), (308, 3, 0, 0, w_X12_isLive fu)] [(22, fun bc bs ls st M => xz bc bs (lR ls 0 12 fun o => o.bind fun s => lI ls 1 fun x1 => lI ls 2 fun x2 => lI ls 3 fun x3 => lI ls 4 fun x4 => xe st (L_X12_collects_22 fu n s x1 x2 x3 x4 M))),
    (68, fun bc bs ls st M => xz bc bs (lR ls 0 12 fun o => o.bind fun s => lI ls 1 fun x1 => lI ls 2 fun x2 => lI ls 3 fun x3 => lI ls 4 fun x4 => xe st (L_X12_collects_68 fu fu s x1 x2 x3 x4 M)))] xrtI 135 (xat 22 pX12_collects) 0 0 [(0, .inr (.inr (12, some s))), (1, .inl x1), (2, .inl x2), (3, .inl x3), (4, .inl x4)] [] M = L_X12_collects_22 fu (n + 1) s x1 x2 x3 x4 M := rfl
def F_X12_collects (fu : Nat) (s : Nat) (x1 : Int32) (M : xM) : Option (Int32 × xM) :=
  (F_X12_pickOf fu s x1 M).bind fun p_1 =>
  if 0 ≤ p_1.1 then
    (F_X12_looks fu s x1 p_1.2).bind fun p_2 =>
    L_X12_collects_22 fu fu s x1 p_1.1 0 0 p_2
  else
    (some ((-1), p_1.2))
set_option maxRecDepth 100000 in
theorem q_X12_collects (fu : Nat) (s : Nat) (x1 : Int32) (M : xM) :
    xrun pX12_collects flX12 koX12 nwX12 [(305, 2, 0, 0, w_X12_looks fu), (333, 2, 0, 0, w_X12_pickOf fu)] [(22, fun bc bs ls st M => xz bc bs (lR ls 0 12 fun o => o.bind fun s => lI ls 1 fun x1 => lI ls 2 fun x2 => lI ls 3 fun x3 => lI ls 4 fun x4 => xe st (L_X12_collects_22 fu fu s x1 x2 x3 x4 M)))] xrtI 135 (xat 0 pX12_collects) 0 0 [(0, .inr (.inr (12, some s))), (1, .inl x1)] [] M = F_X12_collects fu s x1 M := rfl
def w_X12_collects (fu : Nat) {ρ : Type} (as : List xV) (M : xM) (k : Option xV → xM → Option ρ) : Option ρ := pR 12 as fun o as => o.bind fun s => pI as fun x1 as => xe as ((F_X12_collects fu s x1 M).bind fun p => k (some (.inl p.1)) p.2)
def pX12_cutFirst : List xE := [(0, 0, 1, 0, 0, [], .aload_n 0),
  (0, 1, 3, 0, 0, [], .getfield 83),
  (0, 4, 1, 0, 4, [], .iconst 4),
  (0, 5, 1, 0, 0, [], .iaload),
  (0, 6, 3, 11, 0, [], .ifCond .ge 5),
  (0, 9, 1, 0, 0, [], .iconst 0),
  (0, 10, 1, 0, 0, [], .ireturn),
  (0, 11, 1, 0, 0, [], .aload_n 0),
  (0, 12, 3, 0, 0, [], .getfield 95),
  (0, 15, 1, 0, 0, [], .iconst 0),
  (0, 16, 1, 0, 0, [], .aload_n 0),
  (0, 17, 1, 0, 0, [], .iload_n 1),
  (0, 18, 3, 0, 0, [], .invokevirtual 326),
  (0, 21, 1, 0, 0, [], .iastore),
  (0, 22, 1, 0, 0, [], .aload_n 0),
  (0, 23, 3, 0, 0, [], .getfield 95),
  (0, 26, 1, 0, 1, [], .iconst 1),
  (0, 27, 1, 0, 0, [], .aload_n 0),
  (0, 28, 1, 0, 0, [], .iload_n 1),
  (0, 29, 1, 0, 0, [], .iconst 0),
  (0, 30, 1, 0, 0, [], .aload_n 0),
  (0, 31, 3, 0, 0, [], .invokevirtual 277),
  (0, 34, 1, 0, 1, [], .iconst 1),
  (0, 35, 3, 0, 0, [], .invokevirtual 329),
  (0, 38, 1, 0, 0, [], .iastore),
  (0, 39, 1, 0, 0, [], .aload_n 0),
  (0, 40, 3, 0, 0, [], .getfield 95),
  (0, 43, 1, 0, 2, [], .iconst 2),
  (0, 44, 1, 0, 0, [], .aload_n 0),
  (0, 45, 1, 0, 0, [], .iload_n 1),
  (0, 46, 1, 0, 0, [], .iconst 0),
  (0, 47, 1, 0, 0, [], .aload_n 0),
  (0, 48, 3, 0, 0, [], .invokevirtual 277),
  (0, 51, 1, 0, 2, [], .iconst 2),
  (0, 52, 3, 0, 0, [], .invokevirtual 329),
  (0, 55, 1, 0, 0, [], .iastore),
  (0, 56, 1, 0, 0, [], .aload_n 0),
  (0, 57, 3, 0, 0, [], .getfield 95),
  (0, 60, 1, 0, 3, [], .iconst 3),
  (0, 61, 1, 0, 0, [], .aload_n 0),
  (0, 62, 1, 0, 0, [], .iload_n 1),
  (0, 63, 3, 0, 0, [], .invokevirtual 336),
  (0, 66, 1, 0, 0, [], .iastore),
  (0, 67, 1, 0, 0, [], .aload_n 0),
  (0, 68, 1, 0, 0, [], .aload_n 0),
  (0, 69, 3, 0, 0, [], .getfield 83),
  (0, 72, 1, 0, 4, [], .iconst 4),
  (0, 73, 1, 0, 0, [], .iaload),
  (0, 74, 3, 0, 0, [], .invokevirtual 339),
  (0, 77, 3, 94, 0, [], .ifCond .eq 17),
  (0, 80, 1, 0, 0, [], .aload_n 0),
  (0, 81, 1, 0, 0, [], .iload_n 1),
  (0, 82, 3, 0, 0, [], .invokevirtual 342),
  (0, 85, 2, 0, (-2), [], .bipush (-2)),
  (0, 87, 3, 94, 0, [], .if_icmp .ne 7),
  (0, 90, 1, 0, 1, [], .iconst 1),
  (0, 91, 3, 95, 0, [], .goto 4),
  (0, 94, 1, 0, 0, [], .iconst 0),
  (0, 95, 1, 0, 0, [], .ireturn)]
def F_X12_cutFirst (fu : Nat) (s : Nat) (x1 : Int32) (M : xM) : Option (Int32 × xM) :=
  (gR M 12 s 10).bind fun a_1 =>
  gd (xin 4 (gN M 20 a_1)) <|
  if 0 ≤ (gI M 20 a_1 (xi 4)) then
    (F_X12_erased fu s x1 M).bind fun p_2 =>
    (gR M 12 s 15).bind fun a_3 =>
    gd (xin 0 (gN p_2.2 20 a_3)) <|
    let M_4 := sI p_2.2 20 a_3 (xi 0) p_2.1
    (F_X12_allSlots fu s M_4).bind fun p_5 =>
    (F_X12_tally fu s x1 0 p_5.1 1 p_5.2).bind fun p_6 =>
    (gR M_4 12 s 15).bind fun a_7 =>
    gd (xin 1 (gN p_6.2 20 a_7)) <|
    let M_8 := sI p_6.2 20 a_7 (xi 1) p_6.1
    (F_X12_allSlots fu s M_8).bind fun p_9 =>
    (F_X12_tally fu s x1 0 p_9.1 2 p_9.2).bind fun p_10 =>
    (gR M_8 12 s 15).bind fun a_11 =>
    gd (xin 2 (gN p_10.2 20 a_11)) <|
    let M_12 := sI p_10.2 20 a_11 (xi 2) p_10.1
    (F_X12_journalOf fu s x1 M_12).bind fun p_13 =>
    (gR M_12 12 s 15).bind fun a_14 =>
    gd (xin 3 (gN p_13.2 20 a_14)) <|
    let M_15 := sI p_13.2 20 a_14 (xi 3) p_13.1
    (gR M_15 12 s 10).bind fun a_16 =>
    gd (xin 4 (gN M_15 20 a_16)) <|
    (F_X12_worthAt fu s (gI M_15 20 a_16 (xi 4)) M_15).bind fun p_17 =>
    if p_17.1 = 0 then
      gd (xbool 0) (some (0, p_17.2))
    else
      (F_X12_collects fu s x1 p_17.2).bind fun p_18 =>
      if ¬ p_18.1 = ((-2)) then
        gd (xbool 0) (some (0, p_18.2))
      else
        gd (xbool 1) (some (1, p_18.2))
  else
    gd (xbool 0) (some (0, M))
set_option maxRecDepth 100000 in
theorem q_X12_cutFirst (fu : Nat) (s : Nat) (x1 : Int32) (M : xM) :
    xrun pX12_cutFirst flX12 koX12 nwX12 [(277, 1, 0, 0, w_X12_allSlots fu), (326, 2, 0, 0, w_X12_erased fu), (329, 5, 0, 0, w_X12_tally fu), (336, 2, 0, 0, w_X12_journalOf fu), (339, 2, 0, 0, w_X12_worthAt fu), (342, 2, 0, 0, w_X12_collects fu)] [] xrtZ 61 (xat 0 pX12_cutFirst) 0 0 [(0, .inr (.inr (12, some s))), (1, .inl x1)] [] M = F_X12_cutFirst fu s x1 M := rfl
def w_X12_cutFirst (fu : Nat) {ρ : Type} (as : List xV) (M : xM) (k : Option xV → xM → Option ρ) : Option ρ := pR 12 as fun o as => o.bind fun s => pI as fun x1 as => xe as ((F_X12_cutFirst fu s x1 M).bind fun p => k (some (.inl p.1)) p.2)
def pX12_pagesKept : List xE := [(0, 0, 1, 0, 0, [], .iconst 0),
  (0, 1, 1, 0, 0, [], .istore_n 3),
  (0, 2, 1, 0, 0, [], .iconst 0),
  (0, 3, 2, 0, 0, [], .istore 4),
  (1, 5, 2, 0, 0, [], .iload 4),
  (0, 7, 2, 0, 20, [], .bipush 20),
  (0, 9, 3, 61, 0, [], .if_icmp .ge 52),
  (0, 12, 1, 0, 0, [], .iload_n 3),
  (0, 13, 1, 0, 0, [], .aload_n 0),
  (0, 14, 3, 0, 0, [], .getfield 101),
  (0, 17, 1, 0, 0, [], .iload_n 1),
  (0, 18, 2, 0, 14, [], .bipush 14),
  (0, 20, 1, 0, 0, [], .iadd),
  (0, 21, 2, 0, 0, [], .iload 4),
  (0, 23, 1, 0, 0, [], .iadd),
  (0, 24, 1, 0, 0, [], .iaload),
  (0, 25, 3, 52, 0, [], .ifCond .le 27),
  (0, 28, 1, 0, 0, [], .aload_n 0),
  (0, 29, 1, 0, 0, [], .iload_n 1),
  (0, 30, 2, 0, 0, [], .iload 4),
  (0, 32, 1, 0, 4, [], .iconst 4),
  (0, 33, 1, 0, 0, [], .idiv),
  (0, 34, 3, 0, 0, [], .invokevirtual 270),
  (0, 37, 3, 52, 0, [], .ifCond .ne 15),
  (0, 40, 2, 0, 0, [], .iload 4),
  (0, 42, 1, 0, 4, [], .iconst 4),
  (0, 43, 1, 0, 0, [], .idiv),
  (0, 44, 1, 0, 0, [], .iload_n 2),
  (0, 45, 3, 52, 0, [], .if_icmp .eq 7),
  (0, 48, 1, 0, 1, [], .iconst 1),
  (0, 49, 3, 53, 0, [], .goto 4),
  (0, 52, 1, 0, 0, [], .iconst 0),
  (0, 53, 1, 0, 0, [], .iadd),
  (0, 54, 1, 0, 0, [], .istore_n 3),
  (0, 55, 3, 0, 1, [], .iinc 4 1),
  (0, 58, 3, 5, 0, [], .goto (-53)),
  (0, 61, 1, 0, 0, [], .iload_n 3),
  (0, 62, 1, 0, 0, [], .ireturn)]
def L_X12_pagesKept_5 (fu : Nat) : Nat → Nat → Int32 → Int32 → Int32 → Int32 → xM → Option (Int32 × xM)
  | 0, _, _, _, _, _, _ => none
  | n + 1, s, x1, x2, x3, x4, M =>
    if 20 ≤ x4 then
      (some (x3, M))
    else
      (gR M 12 s 17).bind fun a_1 =>
      gd (xin ((x1 + 14) + x4) (gN M 20 a_1)) <|
      if (gI M 20 a_1 (xi ((x1 + 14) + x4))) ≤ 0 then
        let x3_2 : Int32 := x3 + 0
        L_X12_pagesKept_5 fu n s x1 x2 x3_2 (x4 + 1) M
      else
        gd (!((4 : Int32) == 0)) <|
        (F_X12_isOrphan fu s x1 (x4 / 4) M).bind fun p_3 =>
        if ¬ p_3.1 = 0 then
          let x3_4 : Int32 := x3 + 0
          L_X12_pagesKept_5 fu n s x1 x2 x3_4 (x4 + 1) p_3.2
        else
          gd (!((4 : Int32) == 0)) <|
          if (x4 / 4) = x2 then
            let x3_5 : Int32 := x3 + 0
            L_X12_pagesKept_5 fu n s x1 x2 x3_5 (x4 + 1) p_3.2
          else
            let x3_6 : Int32 := x3 + 1
            L_X12_pagesKept_5 fu n s x1 x2 x3_6 (x4 + 1) p_3.2
set_option maxRecDepth 100000 in
theorem q_X12_pagesKept_5 (fu : Nat) (n : Nat) (s : Nat) (x1 : Int32) (x2 : Int32) (x3 : Int32) (x4 : Int32) (M : xM) :
    xrun pX12_pagesKept flX12 koX12 nwX12 [(270, 3, 0, 0, w_X12_isOrphan fu)] [(5, fun bc bs ls st M => xz bc bs (lR ls 0 12 fun o => o.bind fun s => lI ls 1 fun x1 => lI ls 2 fun x2 => lI ls 3 fun x3 => lI ls 4 fun x4 => xe st (L_X12_pagesKept_5 fu n s x1 x2 x3 x4 M)))] xrtI 40 (xat 5 pX12_pagesKept) 0 0 [(0, .inr (.inr (12, some s))), (1, .inl x1), (2, .inl x2), (3, .inl x3), (4, .inl x4)] [] M = L_X12_pagesKept_5 fu (n + 1) s x1 x2 x3 x4 M := rfl
def F_X12_pagesKept (fu : Nat) (s : Nat) (x1 : Int32) (x2 : Int32) (M : xM) : Option (Int32 × xM) :=
  L_X12_pagesKept_5 fu fu s x1 x2 0 0 M
set_option maxRecDepth 100000 in
theorem q_X12_pagesKept (fu : Nat) (s : Nat) (x1 : Int32) (x2 : Int32) (M : xM) :
    xrun pX12_pagesKept flX12 koX12 nwX12 [] [(5, fun bc bs ls st M => xz bc bs (lR ls 0 12 fun o => o.bind fun s => lI ls 1 fun x1 => lI ls 2 fun x2 => lI ls 3 fun x3 => lI ls 4 fun x4 => xe st (L_X12_pagesKept_5 fu fu s x1 x2 x3 x4 M)))] xrtI 40 (xat 0 pX12_pagesKept) 0 0 [(0, .inr (.inr (12, some s))), (1, .inl x1), (2, .inl x2)] [] M = F_X12_pagesKept fu s x1 x2 M := rfl
def w_X12_pagesKept (fu : Nat) {ρ : Type} (as : List xV) (M : xM) (k : Option xV → xM → Option ρ) : Option ρ := pR 12 as fun o as => o.bind fun s => pI as fun x1 as => pI as fun x2 as => xe as ((F_X12_pagesKept fu s x1 x2 M).bind fun p => k (some (.inl p.1)) p.2)
def pX12_hasRoom : List xE := [(0, 0, 1, 0, 0, [], .aload_n 0),
  (0, 1, 1, 0, 0, [], .iload_n 1),
  (0, 2, 1, 0, (-1), [], .iconst (-1)),
  (0, 3, 3, 0, 0, [], .invokevirtual 274),
  (0, 6, 1, 0, 0, [], .aload_n 0),
  (0, 7, 1, 0, 0, [], .iload_n 1),
  (0, 8, 1, 0, 0, [], .iload_n 2),
  (0, 9, 1, 0, 0, [], .iload_n 3),
  (0, 10, 3, 0, 0, [], .invokevirtual 267),
  (0, 13, 3, 20, 0, [], .ifCond .le 7),
  (0, 16, 1, 0, 0, [], .iconst 0),
  (0, 17, 3, 21, 0, [], .goto 4),
  (0, 20, 1, 0, 1, [], .iconst 1),
  (1, 21, 1, 0, 0, [], .iadd),
  (0, 22, 1, 0, 4, [], .iconst 4),
  (0, 23, 1, 0, 0, [], .idiv),
  (0, 24, 1, 0, 1, [], .iconst 1),
  (0, 25, 1, 0, 0, [], .iadd),
  (0, 26, 2, 0, 0, [], .istore 4),
  (0, 28, 1, 0, 0, [], .aload_n 0),
  (0, 29, 1, 0, 0, [], .iload_n 2),
  (0, 30, 3, 0, 0, [], .invokevirtual 348),
  (0, 33, 1, 0, 2, [], .iconst 2),
  (0, 34, 3, 41, 0, [], .if_icmp .ne 7),
  (0, 37, 1, 0, 2, [], .iconst 2),
  (0, 38, 3, 58, 0, [], .goto 20),
  (0, 41, 1, 0, 0, [], .aload_n 0),
  (0, 42, 1, 0, 0, [], .iload_n 2),
  (0, 43, 3, 0, 0, [], .invokevirtual 348),
  (0, 46, 1, 0, 3, [], .iconst 3),
  (0, 47, 3, 57, 0, [], .if_icmp .ne 10),
  (0, 50, 1, 0, 1, [], .iconst 1),
  (0, 51, 2, 0, 0, [], .iload 4),
  (0, 53, 1, 0, 0, [], .iadd),
  (0, 54, 3, 58, 0, [], .goto 4),
  (0, 57, 1, 0, 1, [], .iconst 1),
  (1, 58, 2, 0, 0, [], .istore 5),
  (0, 60, 1, 0, 0, [], .aload_n 0),
  (0, 61, 1, 0, 0, [], .iload_n 1),
  (0, 62, 3, 0, 0, [], .invokevirtual 326),
  (0, 65, 2, 0, 0, [], .iload 5),
  (0, 67, 2, 0, 0, [], .iload 4),
  (0, 69, 1, 0, 0, [], .iadd),
  (0, 70, 1, 0, 0, [], .aload_n 0),
  (0, 71, 3, 0, 0, [], .getfield 83),
  (0, 74, 1, 0, 2, [], .iconst 2),
  (0, 75, 1, 0, 0, [], .iaload),
  (0, 76, 1, 0, 0, [], .iadd),
  (0, 77, 3, 84, 0, [], .if_icmp .lt 7),
  (0, 80, 1, 0, 1, [], .iconst 1),
  (0, 81, 3, 85, 0, [], .goto 4),
  (0, 84, 1, 0, 0, [], .iconst 0),
  (0, 85, 1, 0, 0, [], .ireturn)]
def J_X12_hasRoom_58 (fu : Nat) (s : Nat) (x1 : Int32) (x4 : Int32) (y0 : Int32) (M : xM) : Option (Int32 × xM) :=
  (F_X12_erased fu s x1 M).bind fun p_1 =>
  (gR p_1.2 12 s 10).bind fun a_2 =>
  gd (xin 2 (gN p_1.2 20 a_2)) <|
  if p_1.1 < ((y0 + x4) + (gI p_1.2 20 a_2 (xi 2))) then
    gd (xbool 0) (some (0, p_1.2))
  else
    gd (xbool 1) (some (1, p_1.2))
set_option maxRecDepth 100000 in
theorem q_X12_hasRoom_58 (fu : Nat) (s : Nat) (x1 : Int32) (x4 : Int32) (y0 : Int32) (M : xM) :
    xrun pX12_hasRoom flX12 koX12 nwX12 [(326, 2, 0, 0, w_X12_erased fu)] [] xrtZ 55 (xat 58 pX12_hasRoom) 0 0 [(0, .inr (.inr (12, some s))), (1, .inl x1), (4, .inl x4)] [.inl y0] M = J_X12_hasRoom_58 fu s x1 x4 y0 M := rfl
def J_X12_hasRoom_21 (fu : Nat) (s : Nat) (x1 : Int32) (x2 : Int32) (y0 : Int32) (y1 : Int32) (M : xM) : Option (Int32 × xM) :=
  gd (!((4 : Int32) == 0)) <|
  let x4_1 : Int32 := ((y1 + y0) / 4) + 1
  (F_X12_kindOf fu s x2 M).bind fun p_2 =>
  if ¬ p_2.1 = 2 then
    (F_X12_kindOf fu s x2 p_2.2).bind fun p_3 =>
    if ¬ p_3.1 = 3 then
      J_X12_hasRoom_58 fu s x1 x4_1 1 p_3.2
    else
      J_X12_hasRoom_58 fu s x1 x4_1 (1 + x4_1) p_3.2
  else
    J_X12_hasRoom_58 fu s x1 x4_1 2 p_2.2
set_option maxRecDepth 100000 in
theorem q_X12_hasRoom_21 (fu : Nat) (s : Nat) (x1 : Int32) (x2 : Int32) (y0 : Int32) (y1 : Int32) (M : xM) :
    xrun pX12_hasRoom flX12 koX12 nwX12 [(348, 2, 0, 0, w_X12_kindOf fu)] [(58, fun bc bs ls st M => xz bc bs (lR ls 0 12 fun o => o.bind fun s => lI ls 1 fun x1 => lI ls 4 fun x4 => pI st fun y0 st => xe st (J_X12_hasRoom_58 fu s x1 x4 y0 M)))] xrtZ 55 (xat 21 pX12_hasRoom) 0 0 [(0, .inr (.inr (12, some s))), (1, .inl x1), (2, .inl x2)] [.inl y0, .inl y1] M = J_X12_hasRoom_21 fu s x1 x2 y0 y1 M := rfl
def F_X12_hasRoom (fu : Nat) (s : Nat) (x1 : Int32) (x2 : Int32) (x3 : Int32) (M : xM) : Option (Int32 × xM) :=
  (F_X12_pagesKept fu s x1 ((-1)) M).bind fun p_1 =>
  (F_X12_mapOf fu s x1 x2 x3 p_1.2).bind fun p_2 =>
  if p_2.1 ≤ 0 then
    J_X12_hasRoom_21 fu s x1 x2 1 p_1.1 p_2.2
  else
    J_X12_hasRoom_21 fu s x1 x2 0 p_1.1 p_2.2
set_option maxRecDepth 100000 in
theorem q_X12_hasRoom (fu : Nat) (s : Nat) (x1 : Int32) (x2 : Int32) (x3 : Int32) (M : xM) :
    xrun pX12_hasRoom flX12 koX12 nwX12 [(267, 4, 0, 0, w_X12_mapOf fu), (274, 3, 0, 0, w_X12_pagesKept fu)] [(21, fun bc bs ls st M => xz bc bs (lR ls 0 12 fun o => o.bind fun s => lI ls 1 fun x1 => lI ls 2 fun x2 => pI st fun y0 st => pI st fun y1 st => xe st (J_X12_hasRoom_21 fu s x1 x2 y0 y1 M)))] xrtZ 55 (xat 0 pX12_hasRoom) 0 0 [(0, .inr (.inr (12, some s))), (1, .inl x1), (2, .inl x2), (3, .inl x3)] [] M = F_X12_hasRoom fu s x1 x2 x3 M := rfl
def w_X12_hasRoom (fu : Nat) {ρ : Type} (as : List xV) (M : xM) (k : Option xV → xM → Option ρ) : Option ρ := pR 12 as fun o as => o.bind fun s => pI as fun x1 as => pI as fun x2 as => pI as fun x3 as => xe as ((F_X12_hasRoom fu s x1 x2 x3 M).bind fun p => k (some (.inl p.1)) p.2)
def pX12_putsNew : List xE := [(0, 0, 1, 0, 0, [], .aload_n 0),
  (0, 1, 3, 0, 0, [], .getfield 101),
  (0, 4, 1, 0, 0, [], .iload_n 1),
  (0, 5, 1, 0, 0, [], .iconst 0),
  (0, 6, 1, 0, 0, [], .iadd),
  (0, 7, 1, 0, 0, [], .dup2),
  (0, 8, 1, 0, 0, [], .iaload),
  (0, 9, 1, 0, 1, [], .iconst 1),
  (0, 10, 1, 0, 0, [], .iadd),
  (0, 11, 1, 0, 0, [], .iastore),
  (0, 12, 1, 0, 0, [], .iconst 0),
  (0, 13, 2, 0, 0, [], .istore 6),
  (1, 15, 2, 0, 0, [], .iload 6),
  (0, 17, 2, 0, 13, [], .bipush 13),
  (0, 19, 3, 36, 0, [], .if_icmp .ge 17),
  (0, 22, 1, 0, 0, [], .aload_n 0),
  (0, 23, 3, 0, 0, [], .getfield 108),
  (0, 26, 2, 0, 0, [], .iload 6),
  (0, 28, 1, 0, (-1), [], .iconst (-1)),
  (0, 29, 1, 0, 0, [], .iastore),
  (0, 30, 3, 0, 1, [], .iinc 6 1),
  (0, 33, 3, 15, 0, [], .goto (-18)),
  (0, 36, 1, 0, 0, [], .aload_n 0),
  (0, 37, 3, 0, 0, [], .getfield 108),
  (0, 40, 1, 0, 0, [], .iconst 0),
  (0, 41, 1, 0, 0, [], .iload_n 2),
  (0, 42, 1, 0, 0, [], .iastore),
  (0, 43, 1, 0, 0, [], .aload_n 0),
  (0, 44, 3, 0, 0, [], .getfield 108),
  (0, 47, 1, 0, 1, [], .iconst 1),
  (0, 48, 1, 0, 0, [], .aload_n 0),
  (0, 49, 3, 0, 0, [], .getfield 101),
  (0, 52, 1, 0, 0, [], .iload_n 1),
  (0, 53, 1, 0, 0, [], .iconst 0),
  (0, 54, 1, 0, 0, [], .iadd),
  (0, 55, 1, 0, 0, [], .iaload),
  (0, 56, 1, 0, 0, [], .iastore),
  (0, 57, 1, 0, 0, [], .aload_n 0),
  (0, 58, 3, 0, 0, [], .getfield 108),
  (0, 61, 1, 0, 2, [], .iconst 2),
  (0, 62, 1, 0, 0, [], .iload_n 3),
  (0, 63, 1, 0, 0, [], .iastore),
  (0, 64, 1, 0, 0, [], .aload_n 0),
  (0, 65, 3, 0, 0, [], .getfield 108),
  (0, 68, 1, 0, 3, [], .iconst 3),
  (0, 69, 2, 0, 0, [], .iload 4),
  (0, 71, 1, 0, 0, [], .iastore),
  (0, 72, 1, 0, 0, [], .aload_n 0),
  (0, 73, 3, 0, 0, [], .getfield 108),
  (0, 76, 1, 0, 4, [], .iconst 4),
  (0, 77, 2, 0, 0, [], .iload 5),
  (0, 79, 1, 0, 0, [], .iastore),
  (0, 80, 1, 0, 0, [], .aload_n 0),
  (0, 81, 1, 0, 0, [], .iload_n 1),
  (0, 82, 3, 0, 0, [], .invokevirtual 320),
  (0, 85, 1, 0, 0, [], .ireturn)]
def L_X12_putsNew_15 (fu : Nat) : Nat → Nat → Int32 → Int32 → Int32 → Int32 → Int32 → Int32 → xM → Option (Int32 × xM)
  | 0, _, _, _, _, _, _, _, _ => none
  | n + 1, s, x1, x2, x3, x4, x5, x6, M =>
    if 13 ≤ x6 then
      (gR M 12 s 19).bind fun a_1 =>
      gd (xin 0 (gN M 20 a_1)) <|
      let M_2 := sI M 20 a_1 (xi 0) x2
      (gR M_2 12 s 17).bind fun a_3 =>
      gd (xin (x1 + 0) (gN M_2 20 a_3)) <|
      (gR M_2 12 s 19).bind fun a_4 =>
      gd (xin 1 (gN M_2 20 a_4)) <|
      let M_5 := sI M_2 20 a_4 (xi 1) (gI M_2 20 a_3 (xi (x1 + 0)))
      (gR M_5 12 s 19).bind fun a_6 =>
      gd (xin 2 (gN M_5 20 a_6)) <|
      let M_7 := sI M_5 20 a_6 (xi 2) x3
      (gR M_7 12 s 19).bind fun a_8 =>
      gd (xin 3 (gN M_7 20 a_8)) <|
      let M_9 := sI M_7 20 a_8 (xi 3) x4
      (gR M_9 12 s 19).bind fun a_10 =>
      gd (xin 4 (gN M_9 20 a_10)) <|
      let M_11 := sI M_9 20 a_10 (xi 4) x5
      (F_X12_puts fu s x1 M_11).bind fun p_12 =>
      gd (xbool p_12.1) (some (p_12.1, p_12.2))
    else
      (gR M 12 s 19).bind fun a_13 =>
      gd (xin x6 (gN M 20 a_13)) <|
      let M_14 := sI M 20 a_13 (xi x6) ((-1))
      L_X12_putsNew_15 fu n s x1 x2 x3 x4 x5 (x6 + 1) M_14
set_option maxRecDepth 100000 in
theorem q_X12_putsNew_15 (fu : Nat) (n : Nat) (s : Nat) (x1 : Int32) (x2 : Int32) (x3 : Int32) (x4 : Int32) (x5 : Int32) (x6 : Int32) (M : xM) :
    xrun pX12_putsNew flX12 koX12 nwX12 [(320, 2, 0, 0, w_X12_puts fu)] [(15, fun bc bs ls st M => xz bc bs (lR ls 0 12 fun o => o.bind fun s => lI ls 1 fun x1 => lI ls 2 fun x2 => lI ls 3 fun x3 => lI ls 4 fun x4 => lI ls 5 fun x5 => lI ls 6 fun x6 => xe st (L_X12_putsNew_15 fu n s x1 x2 x3 x4 x5 x6 M)))] xrtZ 58 (xat 15 pX12_putsNew) 0 0 [(0, .inr (.inr (12, some s))), (1, .inl x1), (2, .inl x2), (3, .inl x3), (4, .inl x4), (5, .inl x5), (6, .inl x6)] [] M = L_X12_putsNew_15 fu (n + 1) s x1 x2 x3 x4 x5 x6 M := rfl
def F_X12_putsNew (fu : Nat) (s : Nat) (x1 : Int32) (x2 : Int32) (x3 : Int32) (x4 : Int32) (x5 : Int32) (M : xM) : Option (Int32 × xM) :=
  (gR M 12 s 17).bind fun a_1 =>
  gd (xin (x1 + 0) (gN M 20 a_1)) <|
  (gR M 12 s 17).bind fun a_2 =>
  gd (xin (x1 + 0) (gN M 20 a_2)) <|
  let M_3 := sI M 20 a_2 (xi (x1 + 0)) ((gI M 20 a_1 (xi (x1 + 0))) + 1)
  L_X12_putsNew_15 fu fu s x1 x2 x3 x4 x5 0 M_3
set_option maxRecDepth 100000 in
theorem q_X12_putsNew (fu : Nat) (s : Nat) (x1 : Int32) (x2 : Int32) (x3 : Int32) (x4 : Int32) (x5 : Int32) (M : xM) :
    xrun pX12_putsNew flX12 koX12 nwX12 [] [(15, fun bc bs ls st M => xz bc bs (lR ls 0 12 fun o => o.bind fun s => lI ls 1 fun x1 => lI ls 2 fun x2 => lI ls 3 fun x3 => lI ls 4 fun x4 => lI ls 5 fun x5 => lI ls 6 fun x6 => xe st (L_X12_putsNew_15 fu fu s x1 x2 x3 x4 x5 x6 M)))] xrtZ 58 (xat 0 pX12_putsNew) 0 0 [(0, .inr (.inr (12, some s))), (1, .inl x1), (2, .inl x2), (3, .inl x3), (4, .inl x4), (5, .inl x5)] [] M = F_X12_putsNew fu s x1 x2 x3 x4 x5 M := rfl
def w_X12_putsNew (fu : Nat) {ρ : Type} (as : List xV) (M : xM) (k : Option xV → xM → Option ρ) : Option ρ := pR 12 as fun o as => o.bind fun s => pI as fun x1 as => pI as fun x2 as => pI as fun x3 as => pI as fun x4 as => pI as fun x5 as => xe as ((F_X12_putsNew fu s x1 x2 x3 x4 x5 M).bind fun p => k (some (.inl p.1)) p.2)
def pX12_partsOf : List xE := [(0, 0, 1, 0, 0, [], .aload_n 0),
  (0, 1, 1, 0, 0, [], .iload_n 1),
  (0, 2, 1, 0, (-1), [], .iconst (-1)),
  (0, 3, 3, 0, 0, [], .invokevirtual 274),
  (0, 6, 1, 0, 4, [], .iconst 4),
  (0, 7, 1, 0, 0, [], .idiv),
  (0, 8, 1, 0, 1, [], .iconst 1),
  (0, 9, 1, 0, 0, [], .iadd),
  (0, 10, 1, 0, 0, [], .ireturn)]
def F_X12_partsOf (fu : Nat) (s : Nat) (x1 : Int32) (M : xM) : Option (Int32 × xM) :=
  (F_X12_pagesKept fu s x1 ((-1)) M).bind fun p_1 =>
  gd (!((4 : Int32) == 0)) <|
  (some ((p_1.1 / 4) + 1, p_1.2))
set_option maxRecDepth 100000 in
theorem q_X12_partsOf (fu : Nat) (s : Nat) (x1 : Int32) (M : xM) :
    xrun pX12_partsOf flX12 koX12 nwX12 [(274, 3, 0, 0, w_X12_pagesKept fu)] [] xrtI 11 (xat 0 pX12_partsOf) 0 0 [(0, .inr (.inr (12, some s))), (1, .inl x1)] [] M = F_X12_partsOf fu s x1 M := rfl
def w_X12_partsOf (fu : Nat) {ρ : Type} (as : List xV) (M : xM) (k : Option xV → xM → Option ρ) : Option ρ := pR 12 as fun o as => o.bind fun s => pI as fun x1 as => xe as ((F_X12_partsOf fu s x1 M).bind fun p => k (some (.inl p.1)) p.2)
def pX12_commits : List xE := [(0, 0, 1, 0, 0, [], .aload_n 0),
  (0, 1, 1, 0, 0, [], .iload_n 1),
  (0, 2, 3, 0, 0, [], .invokevirtual 323),
  (0, 5, 1, 0, 0, [], .istore_n 2),
  (0, 6, 1, 0, 0, [], .aload_n 0),
  (0, 7, 3, 0, 0, [], .getfield 101),
  (0, 10, 1, 0, 0, [], .iload_n 1),
  (0, 11, 1, 0, 2, [], .iconst 2),
  (0, 12, 1, 0, 0, [], .iadd),
  (0, 13, 1, 0, 0, [], .iaload),
  (0, 14, 3, 26, 0, [], .ifCond .eq 12),
  (0, 17, 1, 0, 0, [], .aload_n 0),
  (0, 18, 1, 0, 0, [], .iload_n 1),
  (0, 19, 3, 0, 0, [], .invokevirtual 326),
  (0, 22, 1, 0, 0, [], .iload_n 2),
  (0, 23, 3, 28, 0, [], .if_icmp .ge 5),
  (0, 26, 1, 0, (-1), [], .iconst (-1)),
  (0, 27, 1, 0, 0, [], .ireturn),
  (0, 28, 1, 0, 0, [], .iconst 0),
  (0, 29, 1, 0, 0, [], .istore_n 3),
  (0, 30, 1, 0, 0, [], .iconst 0),
  (0, 31, 2, 0, 0, [], .istore 4),
  (1, 33, 2, 0, 0, [], .iload 4),
  (0, 35, 1, 0, 0, [], .iload_n 2),
  (0, 36, 3, 220, 0, [], .if_icmp .ge 184),
  (0, 39, 1, 0, 0, [], .aload_n 0),
  (0, 40, 3, 0, 0, [], .getfield 101),
  (0, 43, 1, 0, 0, [], .iload_n 1),
  (0, 44, 1, 0, 0, [], .iconst 0),
  (0, 45, 1, 0, 0, [], .iadd),
  (0, 46, 1, 0, 0, [], .dup2),
  (0, 47, 1, 0, 0, [], .iaload),
  (0, 48, 1, 0, 1, [], .iconst 1),
  (0, 49, 1, 0, 0, [], .iadd),
  (0, 50, 1, 0, 0, [], .iastore),
  (0, 51, 1, 0, 0, [], .iconst 0),
  (0, 52, 2, 0, 0, [], .istore 5),
  (1, 54, 2, 0, 0, [], .iload 5),
  (0, 56, 2, 0, 13, [], .bipush 13),
  (0, 58, 3, 75, 0, [], .if_icmp .ge 17),
  (0, 61, 1, 0, 0, [], .aload_n 0),
  (0, 62, 3, 0, 0, [], .getfield 108),
  (0, 65, 2, 0, 0, [], .iload 5),
  (0, 67, 1, 0, (-1), [], .iconst (-1)),
  (0, 68, 1, 0, 0, [], .iastore),
  (0, 69, 3, 0, 1, [], .iinc 5 1),
  (0, 72, 3, 54, 0, [], .goto (-18)),
  (0, 75, 1, 0, 0, [], .iconst 0),
  (0, 76, 2, 0, 0, [], .istore 5),
  (1, 78, 1, 0, 0, [], .iload_n 3),
  (0, 79, 2, 0, 20, [], .bipush 20),
  (0, 81, 3, 159, 0, [], .if_icmp .ge 78),
  (0, 84, 2, 0, 0, [], .iload 5),
  (0, 86, 1, 0, 4, [], .iconst 4),
  (0, 87, 3, 159, 0, [], .if_icmp .ge 72),
  (0, 90, 1, 0, 0, [], .aload_n 0),
  (0, 91, 3, 0, 0, [], .getfield 101),
  (0, 94, 1, 0, 0, [], .iload_n 1),
  (0, 95, 2, 0, 14, [], .bipush 14),
  (0, 97, 1, 0, 0, [], .iadd),
  (0, 98, 1, 0, 0, [], .iload_n 3),
  (0, 99, 1, 0, 0, [], .iadd),
  (0, 100, 1, 0, 0, [], .iaload),
  (0, 101, 3, 153, 0, [], .ifCond .le 52),
  (0, 104, 1, 0, 0, [], .aload_n 0),
  (0, 105, 1, 0, 0, [], .iload_n 1),
  (0, 106, 1, 0, 0, [], .iload_n 3),
  (0, 107, 1, 0, 4, [], .iconst 4),
  (0, 108, 1, 0, 0, [], .idiv),
  (0, 109, 3, 0, 0, [], .invokevirtual 270),
  (0, 112, 3, 153, 0, [], .ifCond .ne 41),
  (0, 115, 1, 0, 0, [], .aload_n 0),
  (0, 116, 3, 0, 0, [], .getfield 108),
  (0, 119, 1, 0, 5, [], .iconst 5),
  (0, 120, 1, 0, 2, [], .iconst 2),
  (0, 121, 2, 0, 0, [], .iload 5),
  (0, 123, 1, 0, 0, [], .imul),
  (0, 124, 1, 0, 0, [], .iadd),
  (0, 125, 1, 0, 0, [], .iload_n 3),
  (0, 126, 1, 0, 0, [], .iastore),
  (0, 127, 1, 0, 0, [], .aload_n 0),
  (0, 128, 3, 0, 0, [], .getfield 108),
  (0, 131, 2, 0, 6, [], .bipush 6),
  (0, 133, 1, 0, 2, [], .iconst 2),
  (0, 134, 2, 0, 0, [], .iload 5),
  (0, 136, 1, 0, 0, [], .imul),
  (0, 137, 1, 0, 0, [], .iadd),
  (0, 138, 1, 0, 0, [], .aload_n 0),
  (0, 139, 3, 0, 0, [], .getfield 101),
  (0, 142, 1, 0, 0, [], .iload_n 1),
  (0, 143, 2, 0, 14, [], .bipush 14),
  (0, 145, 1, 0, 0, [], .iadd),
  (0, 146, 1, 0, 0, [], .iload_n 3),
  (0, 147, 1, 0, 0, [], .iadd),
  (0, 148, 1, 0, 0, [], .iaload),
  (0, 149, 1, 0, 0, [], .iastore),
  (0, 150, 3, 0, 1, [], .iinc 5 1),
  (0, 153, 3, 0, 1, [], .iinc 3 1),
  (0, 156, 3, 78, 0, [], .goto (-78)),
  (1, 159, 1, 0, 0, [], .aload_n 0),
  (0, 160, 3, 0, 0, [], .getfield 108),
  (0, 163, 1, 0, 0, [], .iconst 0),
  (0, 164, 1, 0, 3, [], .iconst 3),
  (0, 165, 1, 0, 0, [], .iastore),
  (0, 166, 1, 0, 0, [], .aload_n 0),
  (0, 167, 3, 0, 0, [], .getfield 108),
  (0, 170, 1, 0, 1, [], .iconst 1),
  (0, 171, 1, 0, 0, [], .aload_n 0),
  (0, 172, 3, 0, 0, [], .getfield 101),
  (0, 175, 1, 0, 0, [], .iload_n 1),
  (0, 176, 1, 0, 0, [], .iconst 0),
  (0, 177, 1, 0, 0, [], .iadd),
  (0, 178, 1, 0, 0, [], .iaload),
  (0, 179, 1, 0, 0, [], .iastore),
  (0, 180, 1, 0, 0, [], .aload_n 0),
  (0, 181, 3, 0, 0, [], .getfield 108),
  (0, 184, 1, 0, 2, [], .iconst 2),
  (0, 185, 2, 0, 0, [], .iload 4),
  (0, 187, 1, 0, 0, [], .iastore),
  (0, 188, 1, 0, 0, [], .aload_n 0),
  (0, 189, 3, 0, 0, [], .getfield 108),
  (0, 192, 1, 0, 3, [], .iconst 3),
  (0, 193, 1, 0, 0, [], .iload_n 2),
  (0, 194, 1, 0, 0, [], .iastore),
  (0, 195, 1, 0, 0, [], .aload_n 0),
  (0, 196, 3, 0, 0, [], .getfield 108),
  (0, 199, 1, 0, 4, [], .iconst 4),
  (0, 200, 2, 0, 0, [], .iload 5),
  (0, 202, 1, 0, 0, [], .iastore),
  (0, 203, 1, 0, 0, [], .aload_n 0),
  (0, 204, 1, 0, 0, [], .iload_n 1),
  (0, 205, 3, 0, 0, [], .invokevirtual 320),
  (0, 208, 3, 214, 0, [], .ifCond .ne 6),
  (0, 211, 2, 0, (-2), [], .bipush (-2)),
  (0, 213, 1, 0, 0, [], .ireturn),
  (0, 214, 3, 0, 1, [], .iinc 4 1),
  (0, 217, 3, 33, 0, [], .goto (-184)),
  (0, 220, 1, 0, 0, [], .iload_n 2),
  (0, 221, 1, 0, 0, [], .ireturn)]
def J_X12_commits_159 (fu : Nat) (k33 : Nat → Int32 → Int32 → Int32 → Int32 → xM → Option (Int32 × xM)) (s : Nat) (x1 : Int32) (x2 : Int32) (x3 : Int32) (x4 : Int32) (x5 : Int32) (M : xM) : Option (Int32 × xM) :=
  (gR M 12 s 19).bind fun a_1 =>
  gd (xin 0 (gN M 20 a_1)) <|
  let M_2 := sI M 20 a_1 (xi 0) 3
  (gR M_2 12 s 17).bind fun a_3 =>
  gd (xin (x1 + 0) (gN M_2 20 a_3)) <|
  (gR M_2 12 s 19).bind fun a_4 =>
  gd (xin 1 (gN M_2 20 a_4)) <|
  let M_5 := sI M_2 20 a_4 (xi 1) (gI M_2 20 a_3 (xi (x1 + 0)))
  (gR M_5 12 s 19).bind fun a_6 =>
  gd (xin 2 (gN M_5 20 a_6)) <|
  let M_7 := sI M_5 20 a_6 (xi 2) x4
  (gR M_7 12 s 19).bind fun a_8 =>
  gd (xin 3 (gN M_7 20 a_8)) <|
  let M_9 := sI M_7 20 a_8 (xi 3) x2
  (gR M_9 12 s 19).bind fun a_10 =>
  gd (xin 4 (gN M_9 20 a_10)) <|
  let M_11 := sI M_9 20 a_10 (xi 4) x5
  (F_X12_puts fu s x1 M_11).bind fun p_12 =>
  if ¬ p_12.1 = 0 then
    k33 s x1 x2 x3 (x4 + 1) p_12.2
  else
    (some ((-2), p_12.2))
set_option maxRecDepth 100000 in
theorem q_X12_commits_159 (fu : Nat) (k33 : Nat → Int32 → Int32 → Int32 → Int32 → xM → Option (Int32 × xM)) (s : Nat) (x1 : Int32) (x2 : Int32) (x3 : Int32) (x4 : Int32) (x5 : Int32) (M : xM) :
    xrun pX12_commits flX12 koX12 nwX12 [(320, 2, 0, 0, w_X12_puts fu)] [(33, fun bc bs ls st M => xz bc bs (lR ls 0 12 fun o => o.bind fun s => lI ls 1 fun x1 => lI ls 2 fun x2 => lI ls 3 fun x3 => lI ls 4 fun x4 => xe st (k33 s x1 x2 x3 x4 M)))] xrtI 141 (xat 159 pX12_commits) 0 0 [(0, .inr (.inr (12, some s))), (1, .inl x1), (2, .inl x2), (3, .inl x3), (4, .inl x4), (5, .inl x5)] [] M = J_X12_commits_159 fu k33 s x1 x2 x3 x4 x5 M := rfl
def L_X12_commits_78 (fu : Nat) (k33 : Nat → Int32 → Int32 → Int32 → Int32 → xM → Option (Int32 × xM)) : Nat → Nat → Int32 → Int32 → Int32 → Int32 → Int32 → xM → Option (Int32 × xM)
  | 0, _, _, _, _, _, _, _ => none
  | n + 1, s, x1, x2, x3, x4, x5, M =>
    if 20 ≤ x3 then
      J_X12_commits_159 fu k33 s x1 x2 x3 x4 x5 M
    else
      if 4 ≤ x5 then
        J_X12_commits_159 fu k33 s x1 x2 x3 x4 x5 M
      else
        (gR M 12 s 17).bind fun a_1 =>
        gd (xin ((x1 + 14) + x3) (gN M 20 a_1)) <|
        if (gI M 20 a_1 (xi ((x1 + 14) + x3))) ≤ 0 then
          L_X12_commits_78 fu k33 n s x1 x2 (x3 + 1) x4 x5 M
        else
          gd (!((4 : Int32) == 0)) <|
          (F_X12_isOrphan fu s x1 (x3 / 4) M).bind fun p_2 =>
          if ¬ p_2.1 = 0 then
            L_X12_commits_78 fu k33 n s x1 x2 (x3 + 1) x4 x5 p_2.2
          else
            (gR p_2.2 12 s 19).bind fun a_3 =>
            gd (xin (5 + (2 * x5)) (gN p_2.2 20 a_3)) <|
            let M_4 := sI p_2.2 20 a_3 (xi (5 + (2 * x5))) x3
            (gR M_4 12 s 17).bind fun a_5 =>
            gd (xin ((x1 + 14) + x3) (gN M_4 20 a_5)) <|
            (gR M_4 12 s 19).bind fun a_6 =>
            gd (xin (6 + (2 * x5)) (gN M_4 20 a_6)) <|
            let M_7 := sI M_4 20 a_6 (xi (6 + (2 * x5))) (gI M_4 20 a_5 (xi ((x1 + 14) + x3)))
            L_X12_commits_78 fu k33 n s x1 x2 (x3 + 1) x4 (x5 + 1) M_7
set_option maxRecDepth 100000 in
theorem q_X12_commits_78 (fu : Nat) (k33 : Nat → Int32 → Int32 → Int32 → Int32 → xM → Option (Int32 × xM)) (n : Nat) (s : Nat) (x1 : Int32) (x2 : Int32) (x3 : Int32) (x4 : Int32) (x5 : Int32) (M : xM) :
    xrun pX12_commits flX12 koX12 nwX12 [(270, 3, 0, 0, w_X12_isOrphan fu)] [(78, fun bc bs ls st M => xz bc bs (lR ls 0 12 fun o => o.bind fun s => lI ls 1 fun x1 => lI ls 2 fun x2 => lI ls 3 fun x3 => lI ls 4 fun x4 => lI ls 5 fun x5 => xe st (L_X12_commits_78 fu k33 n s x1 x2 x3 x4 x5 M))),
    (159, fun bc bs ls st M => xz bc bs (lR ls 0 12 fun o => o.bind fun s => lI ls 1 fun x1 => lI ls 2 fun x2 => lI ls 3 fun x3 => lI ls 4 fun x4 => lI ls 5 fun x5 => xe st (J_X12_commits_159 fu k33 s x1 x2 x3 x4 x5 M)))] xrtI 141 (xat 78 pX12_commits) 0 0 [(0, .inr (.inr (12, some s))), (1, .inl x1), (2, .inl x2), (3, .inl x3), (4, .inl x4), (5, .inl x5)] [] M = L_X12_commits_78 fu k33 (n + 1) s x1 x2 x3 x4 x5 M := rfl
def L_X12_commits_54 (fu : Nat) (k33 : Nat → Int32 → Int32 → Int32 → Int32 → xM → Option (Int32 × xM)) : Nat → Nat → Int32 → Int32 → Int32 → Int32 → Int32 → xM → Option (Int32 × xM)
  | 0, _, _, _, _, _, _, _ => none
  | n + 1, s, x1, x2, x3, x4, x5, M =>
    if 13 ≤ x5 then
      L_X12_commits_78 fu k33 fu s x1 x2 x3 x4 0 M
    else
      (gR M 12 s 19).bind fun a_1 =>
      gd (xin x5 (gN M 20 a_1)) <|
      let M_2 := sI M 20 a_1 (xi x5) ((-1))
      L_X12_commits_54 fu k33 n s x1 x2 x3 x4 (x5 + 1) M_2
set_option maxRecDepth 100000 in
theorem q_X12_commits_54 (fu : Nat) (k33 : Nat → Int32 → Int32 → Int32 → Int32 → xM → Option (Int32 × xM)) (n : Nat) (s : Nat) (x1 : Int32) (x2 : Int32) (x3 : Int32) (x4 : Int32) (x5 : Int32) (M : xM) :
    xrun pX12_commits flX12 koX12 nwX12 [] [(54, fun bc bs ls st M => xz bc bs (lR ls 0 12 fun o => o.bind fun s => lI ls 1 fun x1 => lI ls 2 fun x2 => lI ls 3 fun x3 => lI ls 4 fun x4 => lI ls 5 fun x5 => xe st (L_X12_commits_54 fu k33 n s x1 x2 x3 x4 x5 M))),
    (78, fun bc bs ls st M => xz bc bs (lR ls 0 12 fun o => o.bind fun s => lI ls 1 fun x1 => lI ls 2 fun x2 => lI ls 3 fun x3 => lI ls 4 fun x4 => lI ls 5 fun x5 => xe st (L_X12_commits_78 fu k33 fu s x1 x2 x3 x4 x5 M)))] xrtI 141 (xat 54 pX12_commits) 0 0 [(0, .inr (.inr (12, some s))), (1, .inl x1), (2, .inl x2), (3, .inl x3), (4, .inl x4), (5, .inl x5)] [] M = L_X12_commits_54 fu k33 (n + 1) s x1 x2 x3 x4 x5 M := rfl
def L_X12_commits_33 (fu : Nat) : Nat → Nat → Int32 → Int32 → Int32 → Int32 → xM → Option (Int32 × xM)
  | 0, _, _, _, _, _, _ => none
  | n + 1, s, x1, x2, x3, x4, M =>
    if x2 ≤ x4 then
      (some (x2, M))
    else
      (gR M 12 s 17).bind fun a_1 =>
      gd (xin (x1 + 0) (gN M 20 a_1)) <|
      (gR M 12 s 17).bind fun a_2 =>
      gd (xin (x1 + 0) (gN M 20 a_2)) <|
      let M_3 := sI M 20 a_2 (xi (x1 + 0)) ((gI M 20 a_1 (xi (x1 + 0))) + 1)
      L_X12_commits_54 fu (L_X12_commits_33 fu n) fu s x1 x2 x3 x4 0 M_3
set_option maxRecDepth 100000 in
theorem q_X12_commits_33 (fu : Nat) (n : Nat) (s : Nat) (x1 : Int32) (x2 : Int32) (x3 : Int32) (x4 : Int32) (M : xM) :
    xrun pX12_commits flX12 koX12 nwX12 [] [(54, fun bc bs ls st M => xz bc bs (lR ls 0 12 fun o => o.bind fun s => lI ls 1 fun x1 => lI ls 2 fun x2 => lI ls 3 fun x3 => lI ls 4 fun x4 => lI ls 5 fun x5 => xe st (L_X12_commits_54 fu (L_X12_commits_33 fu n) fu s x1 x2 x3 x4 x5 M)))] xrtI 141 (xat 33 pX12_commits) 0 0 [(0, .inr (.inr (12, some s))), (1, .inl x1), (2, .inl x2), (3, .inl x3), (4, .inl x4)] [] M = L_X12_commits_33 fu (n + 1) s x1 x2 x3 x4 M := rfl
def F_X12_commits (fu : Nat) (s : Nat) (x1 : Int32) (M : xM) : Option (Int32 × xM) :=
  (F_X12_partsOf fu s x1 M).bind fun p_1 =>
  (gR p_1.2 12 s 17).bind fun a_2 =>
  gd (xin (x1 + 2) (gN p_1.2 20 a_2)) <|
  if (gI p_1.2 20 a_2 (xi (x1 + 2))) = 0 then
    (some ((-1), p_1.2))
  else
    (F_X12_erased fu s x1 p_1.2).bind fun p_3 =>
    if p_1.1 ≤ p_3.1 then
      L_X12_commits_33 fu fu s x1 p_1.1 0 0 p_3.2
    else
      (some ((-1), p_3.2))
set_option maxRecDepth 100000 in
theorem q_X12_commits (fu : Nat) (s : Nat) (x1 : Int32) (M : xM) :
    xrun pX12_commits flX12 koX12 nwX12 [(323, 2, 0, 0, w_X12_partsOf fu), (326, 2, 0, 0, w_X12_erased fu)] [(33, fun bc bs ls st M => xz bc bs (lR ls 0 12 fun o => o.bind fun s => lI ls 1 fun x1 => lI ls 2 fun x2 => lI ls 3 fun x3 => lI ls 4 fun x4 => xe st (L_X12_commits_33 fu fu s x1 x2 x3 x4 M)))] xrtI 141 (xat 0 pX12_commits) 0 0 [(0, .inr (.inr (12, some s))), (1, .inl x1)] [] M = F_X12_commits fu s x1 M := rfl
def w_X12_commits (fu : Nat) {ρ : Type} (as : List xV) (M : xM) (k : Option xV → xM → Option ρ) : Option ρ := pR 12 as fun o as => o.bind fun s => pI as fun x1 as => xe as ((F_X12_commits fu s x1 M).bind fun p => k (some (.inl p.1)) p.2)
def pX12_writes : List xE := [(0, 0, 1, 0, 0, [], .aload_n 0),
  (0, 1, 1, 0, 0, [], .iload_n 1),
  (0, 2, 1, 0, 0, [], .iload_n 2),
  (0, 3, 1, 0, 0, [], .iload_n 3),
  (0, 4, 3, 0, 0, [], .invokevirtual 351),
  (0, 7, 3, 12, 0, [], .ifCond .ne 5),
  (0, 10, 1, 0, (-1), [], .iconst (-1)),
  (0, 11, 1, 0, 0, [], .ireturn),
  (0, 12, 1, 0, 0, [], .aload_n 0),
  (0, 13, 1, 0, 0, [], .iload_n 1),
  (0, 14, 3, 0, 0, [], .invokevirtual 355),
  (0, 17, 3, 23, 0, [], .ifCond .eq 6),
  (0, 20, 2, 0, (-2), [], .bipush (-2)),
  (0, 22, 1, 0, 0, [], .ireturn),
  (0, 23, 1, 0, 0, [], .aload_n 0),
  (0, 24, 1, 0, 0, [], .iload_n 1),
  (0, 25, 1, 0, 0, [], .iload_n 2),
  (0, 26, 1, 0, 0, [], .iload_n 3),
  (0, 27, 3, 0, 0, [], .invokevirtual 358),
  (0, 30, 3, 35, 0, [], .ifCond .ne 5),
  (0, 33, 1, 0, (-1), [], .iconst (-1)),
  (0, 34, 1, 0, 0, [], .ireturn),
  (0, 35, 1, 0, 0, [], .iconst 0),
  (0, 36, 2, 0, 0, [], .istore 5),
  (1, 38, 2, 0, 0, [], .iload 5),
  (0, 40, 1, 0, 0, [], .aload_n 0),
  (0, 41, 1, 0, 0, [], .iload_n 2),
  (0, 42, 3, 0, 0, [], .invokevirtual 348),
  (0, 45, 1, 0, 2, [], .iconst 2),
  (0, 46, 3, 53, 0, [], .if_icmp .ne 7),
  (0, 49, 1, 0, 2, [], .iconst 2),
  (0, 50, 3, 54, 0, [], .goto 4),
  (0, 53, 1, 0, 1, [], .iconst 1),
  (1, 54, 3, 79, 0, [], .if_icmp .ge 25),
  (0, 57, 1, 0, 0, [], .aload_n 0),
  (0, 58, 1, 0, 0, [], .iload_n 1),
  (0, 59, 1, 0, 1, [], .iconst 1),
  (0, 60, 1, 0, 0, [], .iload_n 2),
  (0, 61, 1, 0, 0, [], .iload_n 3),
  (0, 62, 2, 0, 0, [], .iload 4),
  (0, 64, 3, 0, 0, [], .invokevirtual 361),
  (0, 67, 3, 73, 0, [], .ifCond .ne 6),
  (0, 70, 2, 0, (-2), [], .bipush (-2)),
  (0, 72, 1, 0, 0, [], .ireturn),
  (0, 73, 3, 0, 1, [], .iinc 5 1),
  (0, 76, 3, 38, 0, [], .goto (-38)),
  (0, 79, 1, 0, 0, [], .aload_n 0),
  (0, 80, 3, 0, 0, [], .getfield 101),
  (0, 83, 1, 0, 0, [], .iload_n 1),
  (0, 84, 1, 0, 0, [], .iconst 0),
  (0, 85, 1, 0, 0, [], .iadd),
  (0, 86, 1, 0, 0, [], .iaload),
  (0, 87, 2, 0, 0, [], .istore 5),
  (0, 89, 1, 0, 0, [], .aload_n 0),
  (0, 90, 3, 0, 0, [], .getfield 101),
  (0, 93, 1, 0, 0, [], .iload_n 1),
  (0, 94, 2, 0, 14, [], .bipush 14),
  (0, 96, 1, 0, 0, [], .iadd),
  (0, 97, 1, 0, 4, [], .iconst 4),
  (0, 98, 1, 0, 0, [], .iload_n 2),
  (0, 99, 1, 0, 0, [], .imul),
  (0, 100, 1, 0, 0, [], .iadd),
  (0, 101, 1, 0, 0, [], .iload_n 3),
  (0, 102, 1, 0, 0, [], .iadd),
  (0, 103, 2, 0, 0, [], .iload 5),
  (0, 105, 1, 0, 0, [], .iastore),
  (0, 106, 1, 0, 0, [], .aload_n 0),
  (0, 107, 1, 0, 0, [], .iload_n 2),
  (0, 108, 3, 0, 0, [], .invokevirtual 348),
  (0, 111, 1, 0, 3, [], .iconst 3),
  (0, 112, 3, 130, 0, [], .if_icmp .ne 18),
  (0, 115, 1, 0, 0, [], .aload_n 0),
  (0, 116, 1, 0, 0, [], .iload_n 1),
  (0, 117, 3, 0, 0, [], .invokevirtual 365),
  (0, 120, 2, 0, (-2), [], .bipush (-2)),
  (0, 122, 3, 130, 0, [], .if_icmp .ne 8),
  (0, 125, 2, 0, (-2), [], .bipush (-2)),
  (0, 127, 3, 132, 0, [], .goto 5),
  (0, 130, 2, 0, 0, [], .iload 5),
  (0, 132, 1, 0, 0, [], .ireturn)]
def J_X12_writes_54 (fu : Nat) (k38 : Nat → Int32 → Int32 → Int32 → Int32 → Int32 → xM → Option (Int32 × xM)) (s : Nat) (x1 : Int32) (x2 : Int32) (x3 : Int32) (x4 : Int32) (x5 : Int32) (y0 : Int32) (y1 : Int32) (M : xM) : Option (Int32 × xM) :=
  if y0 ≤ y1 then
    (gR M 12 s 17).bind fun a_1 =>
    gd (xin (x1 + 0) (gN M 20 a_1)) <|
    let x5_2 : Int32 := gI M 20 a_1 (xi (x1 + 0))
    (gR M 12 s 17).bind fun a_3 =>
    gd (xin (((x1 + 14) + (4 * x2)) + x3) (gN M 20 a_3)) <|
    let M_4 := sI M 20 a_3 (xi (((x1 + 14) + (4 * x2)) + x3)) x5_2
    (F_X12_kindOf fu s x2 M_4).bind fun p_5 =>
    if ¬ p_5.1 = 3 then
      (some (x5_2, p_5.2))
    else
      (F_X12_commits fu s x1 p_5.2).bind fun p_6 =>
      if ¬ p_6.1 = ((-2)) then
        (some (x5_2, p_6.2))
      else
        (some ((-2), p_6.2))
  else
    (F_X12_putsNew fu s x1 1 x2 x3 x4 M).bind fun p_7 =>
    if ¬ p_7.1 = 0 then
      k38 s x1 x2 x3 x4 (x5 + 1) p_7.2
    else
      (some ((-2), p_7.2))
set_option maxRecDepth 100000 in
theorem q_X12_writes_54 (fu : Nat) (k38 : Nat → Int32 → Int32 → Int32 → Int32 → Int32 → xM → Option (Int32 × xM)) (s : Nat) (x1 : Int32) (x2 : Int32) (x3 : Int32) (x4 : Int32) (x5 : Int32) (y0 : Int32) (y1 : Int32) (M : xM) :
    xrun pX12_writes flX12 koX12 nwX12 [(348, 2, 0, 0, w_X12_kindOf fu), (361, 6, 0, 0, w_X12_putsNew fu), (365, 2, 0, 0, w_X12_commits fu)] [(38, fun bc bs ls st M => xz bc bs (lR ls 0 12 fun o => o.bind fun s => lI ls 1 fun x1 => lI ls 2 fun x2 => lI ls 3 fun x3 => lI ls 4 fun x4 => lI ls 5 fun x5 => xe st (k38 s x1 x2 x3 x4 x5 M)))] xrtI 82 (xat 54 pX12_writes) 0 0 [(0, .inr (.inr (12, some s))), (1, .inl x1), (2, .inl x2), (3, .inl x3), (4, .inl x4), (5, .inl x5)] [.inl y0, .inl y1] M = J_X12_writes_54 fu k38 s x1 x2 x3 x4 x5 y0 y1 M := rfl
def L_X12_writes_38 (fu : Nat) : Nat → Nat → Int32 → Int32 → Int32 → Int32 → Int32 → xM → Option (Int32 × xM)
  | 0, _, _, _, _, _, _, _ => none
  | n + 1, s, x1, x2, x3, x4, x5, M =>
    (F_X12_kindOf fu s x2 M).bind fun p_1 =>
    if ¬ p_1.1 = 2 then
      J_X12_writes_54 fu (L_X12_writes_38 fu n) s x1 x2 x3 x4 x5 1 x5 p_1.2
    else
      J_X12_writes_54 fu (L_X12_writes_38 fu n) s x1 x2 x3 x4 x5 2 x5 p_1.2
set_option maxRecDepth 100000 in
theorem q_X12_writes_38 (fu : Nat) (n : Nat) (s : Nat) (x1 : Int32) (x2 : Int32) (x3 : Int32) (x4 : Int32) (x5 : Int32) (M : xM) :
    xrun pX12_writes flX12 koX12 nwX12 [(348, 2, 0, 0, w_X12_kindOf fu)] [(54, fun bc bs ls st M => xz bc bs (lR ls 0 12 fun o => o.bind fun s => lI ls 1 fun x1 => lI ls 2 fun x2 => lI ls 3 fun x3 => lI ls 4 fun x4 => lI ls 5 fun x5 => pI st fun y0 st => pI st fun y1 st => xe st (J_X12_writes_54 fu (L_X12_writes_38 fu n) s x1 x2 x3 x4 x5 y0 y1 M)))] xrtI 82 (xat 38 pX12_writes) 0 0 [(0, .inr (.inr (12, some s))), (1, .inl x1), (2, .inl x2), (3, .inl x3), (4, .inl x4), (5, .inl x5)] [] M = L_X12_writes_38 fu (n + 1) s x1 x2 x3 x4 x5 M := rfl
def F_X12_writes (fu : Nat) (s : Nat) (x1 : Int32) (x2 : Int32) (x3 : Int32) (x4 : Int32) (M : xM) : Option (Int32 × xM) :=
  (F_X12_mayWriteBut fu s x1 x2 x3 M).bind fun p_1 =>
  if ¬ p_1.1 = 0 then
    (F_X12_cutFirst fu s x1 p_1.2).bind fun p_2 =>
    if p_2.1 = 0 then
      (F_X12_hasRoom fu s x1 x2 x3 p_2.2).bind fun p_3 =>
      if ¬ p_3.1 = 0 then
        L_X12_writes_38 fu fu s x1 x2 x3 x4 0 p_3.2
      else
        (some ((-1), p_3.2))
    else
      (some ((-2), p_2.2))
  else
    (some ((-1), p_1.2))
set_option maxRecDepth 100000 in
theorem q_X12_writes (fu : Nat) (s : Nat) (x1 : Int32) (x2 : Int32) (x3 : Int32) (x4 : Int32) (M : xM) :
    xrun pX12_writes flX12 koX12 nwX12 [(351, 4, 0, 0, w_X12_mayWriteBut fu), (355, 2, 0, 0, w_X12_cutFirst fu), (358, 4, 0, 0, w_X12_hasRoom fu)] [(38, fun bc bs ls st M => xz bc bs (lR ls 0 12 fun o => o.bind fun s => lI ls 1 fun x1 => lI ls 2 fun x2 => lI ls 3 fun x3 => lI ls 4 fun x4 => lI ls 5 fun x5 => xe st (L_X12_writes_38 fu fu s x1 x2 x3 x4 x5 M)))] xrtI 82 (xat 0 pX12_writes) 0 0 [(0, .inr (.inr (12, some s))), (1, .inl x1), (2, .inl x2), (3, .inl x3), (4, .inl x4)] [] M = F_X12_writes fu s x1 x2 x3 x4 M := rfl
def w_X12_writes (fu : Nat) {ρ : Type} (as : List xV) (M : xM) (k : Option xV → xM → Option ρ) : Option ρ := pR 12 as fun o as => o.bind fun s => pI as fun x1 as => pI as fun x2 as => pI as fun x3 as => pI as fun x4 as => xe as ((F_X12_writes fu s x1 x2 x3 x4 M).bind fun p => k (some (.inl p.1)) p.2)
def pX12_mappedOf : List xE := [(0, 0, 1, 0, 0, [], .iconst 0),
  (0, 1, 1, 0, 0, [], .istore_n 3),
  (0, 2, 1, 0, 0, [], .iconst 0),
  (0, 3, 2, 0, 0, [], .istore 4),
  (1, 5, 2, 0, 0, [], .iload 4),
  (0, 7, 1, 0, 4, [], .iconst 4),
  (0, 8, 3, 39, 0, [], .if_icmp .ge 31),
  (0, 11, 1, 0, 0, [], .iload_n 3),
  (0, 12, 1, 0, 0, [], .aload_n 0),
  (0, 13, 1, 0, 0, [], .iload_n 1),
  (0, 14, 1, 0, 0, [], .iload_n 2),
  (0, 15, 2, 0, 0, [], .iload 4),
  (0, 17, 3, 0, 0, [], .invokevirtual 267),
  (0, 20, 3, 30, 0, [], .ifCond .le 10),
  (0, 23, 1, 0, 1, [], .iconst 1),
  (0, 24, 2, 0, 0, [], .iload 4),
  (0, 26, 1, 0, 0, [], .ishl),
  (0, 27, 3, 31, 0, [], .goto 4),
  (0, 30, 1, 0, 0, [], .iconst 0),
  (0, 31, 1, 0, 0, [], .ior),
  (0, 32, 1, 0, 0, [], .istore_n 3),
  (0, 33, 3, 0, 1, [], .iinc 4 1),
  (0, 36, 3, 5, 0, [], .goto (-31)),
  (0, 39, 1, 0, 0, [], .iload_n 3),
  (0, 40, 1, 0, 0, [], .ireturn)]
def L_X12_mappedOf_5 (fu : Nat) : Nat → Nat → Int32 → Int32 → Int32 → Int32 → xM → Option (Int32 × xM)
  | 0, _, _, _, _, _, _ => none
  | n + 1, s, x1, x2, x3, x4, M =>
    if 4 ≤ x4 then
      (some (x3, M))
    else
      (F_X12_mapOf fu s x1 x2 x4 M).bind fun p_1 =>
      if p_1.1 ≤ 0 then
        let x3_2 : Int32 := x3 ||| 0
        L_X12_mappedOf_5 fu n s x1 x2 x3_2 (x4 + 1) p_1.2
      else
        let x3_3 : Int32 := x3 ||| (1 <<< (x4 &&& 31))
        L_X12_mappedOf_5 fu n s x1 x2 x3_3 (x4 + 1) p_1.2
set_option maxRecDepth 100000 in
theorem q_X12_mappedOf_5 (fu : Nat) (n : Nat) (s : Nat) (x1 : Int32) (x2 : Int32) (x3 : Int32) (x4 : Int32) (M : xM) :
    xrun pX12_mappedOf flX12 koX12 nwX12 [(267, 4, 0, 0, w_X12_mapOf fu)] [(5, fun bc bs ls st M => xz bc bs (lR ls 0 12 fun o => o.bind fun s => lI ls 1 fun x1 => lI ls 2 fun x2 => lI ls 3 fun x3 => lI ls 4 fun x4 => xe st (L_X12_mappedOf_5 fu n s x1 x2 x3 x4 M)))] xrtI 27 (xat 5 pX12_mappedOf) 0 0 [(0, .inr (.inr (12, some s))), (1, .inl x1), (2, .inl x2), (3, .inl x3), (4, .inl x4)] [] M = L_X12_mappedOf_5 fu (n + 1) s x1 x2 x3 x4 M := rfl
def F_X12_mappedOf (fu : Nat) (s : Nat) (x1 : Int32) (x2 : Int32) (M : xM) : Option (Int32 × xM) :=
  L_X12_mappedOf_5 fu fu s x1 x2 0 0 M
set_option maxRecDepth 100000 in
theorem q_X12_mappedOf (fu : Nat) (s : Nat) (x1 : Int32) (x2 : Int32) (M : xM) :
    xrun pX12_mappedOf flX12 koX12 nwX12 [] [(5, fun bc bs ls st M => xz bc bs (lR ls 0 12 fun o => o.bind fun s => lI ls 1 fun x1 => lI ls 2 fun x2 => lI ls 3 fun x3 => lI ls 4 fun x4 => xe st (L_X12_mappedOf_5 fu fu s x1 x2 x3 x4 M)))] xrtI 27 (xat 0 pX12_mappedOf) 0 0 [(0, .inr (.inr (12, some s))), (1, .inl x1), (2, .inl x2)] [] M = F_X12_mappedOf fu s x1 x2 M := rfl
def w_X12_mappedOf (fu : Nat) {ρ : Type} (as : List xV) (M : xM) (k : Option xV → xM → Option ρ) : Option ρ := pR 12 as fun o as => o.bind fun s => pI as fun x1 as => pI as fun x2 as => xe as ((F_X12_mappedOf fu s x1 x2 M).bind fun p => k (some (.inl p.1)) p.2)
def pX12_isOpen : List xE := [(0, 0, 1, 0, 0, [], .aload_n 0),
  (0, 1, 3, 0, 0, [], .getfield 101),
  (0, 4, 1, 0, 0, [], .iload_n 1),
  (0, 5, 1, 0, 4, [], .iconst 4),
  (0, 6, 1, 0, 0, [], .iadd),
  (0, 7, 1, 0, 0, [], .iaload),
  (0, 8, 1, 0, 0, [], .iload_n 2),
  (0, 9, 1, 0, 0, [], .ishr),
  (0, 10, 1, 0, 1, [], .iconst 1),
  (0, 11, 1, 0, 0, [], .iand),
  (0, 12, 1, 0, 1, [], .iconst 1),
  (0, 13, 3, 20, 0, [], .if_icmp .ne 7),
  (0, 16, 1, 0, 1, [], .iconst 1),
  (0, 17, 3, 21, 0, [], .goto 4),
  (0, 20, 1, 0, 0, [], .iconst 0),
  (0, 21, 1, 0, 0, [], .ireturn)]
def F_X12_isOpen (fu : Nat) (s : Nat) (x1 : Int32) (x2 : Int32) (M : xM) : Option (Int32 × xM) :=
  (gR M 12 s 17).bind fun a_1 =>
  gd (xin (x1 + 4) (gN M 20 a_1)) <|
  if ¬ (((gI M 20 a_1 (xi (x1 + 4))) >>> (x2 &&& 31)) &&& 1) = 1 then
    gd (xbool 0) (some (0, M))
  else
    gd (xbool 1) (some (1, M))
set_option maxRecDepth 100000 in
theorem q_X12_isOpen (fu : Nat) (s : Nat) (x1 : Int32) (x2 : Int32) (M : xM) :
    xrun pX12_isOpen flX12 koX12 nwX12 [] [] xrtZ 18 (xat 0 pX12_isOpen) 0 0 [(0, .inr (.inr (12, some s))), (1, .inl x1), (2, .inl x2)] [] M = F_X12_isOpen fu s x1 x2 M := rfl
def w_X12_isOpen (fu : Nat) {ρ : Type} (as : List xV) (M : xM) (k : Option xV → xM → Option ρ) : Option ρ := pR 12 as fun o as => o.bind fun s => pI as fun x1 as => pI as fun x2 as => xe as ((F_X12_isOpen fu s x1 x2 M).bind fun p => k (some (.inl p.1)) p.2)
def pX12_removes : List xE := [(0, 0, 1, 0, 0, [], .aload_n 0),
  (0, 1, 3, 0, 0, [], .getfield 101),
  (0, 4, 1, 0, 0, [], .iload_n 1),
  (0, 5, 1, 0, 2, [], .iconst 2),
  (0, 6, 1, 0, 0, [], .iadd),
  (0, 7, 1, 0, 0, [], .iaload),
  (0, 8, 3, 37, 0, [], .ifCond .eq 29),
  (0, 11, 1, 0, 0, [], .aload_n 0),
  (0, 12, 1, 0, 0, [], .iload_n 2),
  (0, 13, 3, 0, 0, [], .invokevirtual 258),
  (0, 16, 3, 37, 0, [], .ifCond .eq 21),
  (0, 19, 1, 0, 0, [], .aload_n 0),
  (0, 20, 1, 0, 0, [], .iload_n 1),
  (0, 21, 1, 0, 0, [], .iload_n 2),
  (0, 22, 3, 0, 0, [], .invokevirtual 270),
  (0, 25, 3, 37, 0, [], .ifCond .ne 12),
  (0, 28, 1, 0, 0, [], .aload_n 0),
  (0, 29, 1, 0, 0, [], .iload_n 1),
  (0, 30, 1, 0, 0, [], .iload_n 2),
  (0, 31, 3, 0, 0, [], .invokevirtual 368),
  (0, 34, 3, 39, 0, [], .ifCond .ne 5),
  (0, 37, 1, 0, (-1), [], .iconst (-1)),
  (0, 38, 1, 0, 0, [], .ireturn),
  (0, 39, 1, 0, 0, [], .aload_n 0),
  (0, 40, 1, 0, 0, [], .iload_n 1),
  (0, 41, 3, 0, 0, [], .invokevirtual 355),
  (0, 44, 3, 50, 0, [], .ifCond .eq 6),
  (0, 47, 2, 0, (-2), [], .bipush (-2)),
  (0, 49, 1, 0, 0, [], .ireturn),
  (0, 50, 1, 0, 0, [], .aload_n 0),
  (0, 51, 1, 0, 0, [], .iload_n 1),
  (0, 52, 3, 0, 0, [], .invokevirtual 326),
  (0, 55, 1, 0, 1, [], .iconst 1),
  (0, 56, 1, 0, 0, [], .aload_n 0),
  (0, 57, 1, 0, 0, [], .iload_n 1),
  (0, 58, 1, 0, 0, [], .iload_n 2),
  (0, 59, 3, 0, 0, [], .invokevirtual 274),
  (0, 62, 1, 0, 4, [], .iconst 4),
  (0, 63, 1, 0, 0, [], .idiv),
  (0, 64, 1, 0, 0, [], .iadd),
  (0, 65, 1, 0, 1, [], .iconst 1),
  (0, 66, 1, 0, 0, [], .iadd),
  (0, 67, 1, 0, 0, [], .aload_n 0),
  (0, 68, 3, 0, 0, [], .getfield 83),
  (0, 71, 1, 0, 2, [], .iconst 2),
  (0, 72, 1, 0, 0, [], .iaload),
  (0, 73, 1, 0, 0, [], .iadd),
  (0, 74, 3, 79, 0, [], .if_icmp .ge 5),
  (0, 77, 1, 0, (-1), [], .iconst (-1)),
  (0, 78, 1, 0, 0, [], .ireturn),
  (0, 79, 1, 0, 0, [], .aload_n 0),
  (0, 80, 1, 0, 0, [], .iload_n 1),
  (0, 81, 1, 0, 2, [], .iconst 2),
  (0, 82, 1, 0, 0, [], .iload_n 2),
  (0, 83, 1, 0, (-1), [], .iconst (-1)),
  (0, 84, 1, 0, (-1), [], .iconst (-1)),
  (0, 85, 3, 0, 0, [], .invokevirtual 361),
  (0, 88, 3, 94, 0, [], .ifCond .ne 6),
  (0, 91, 2, 0, (-2), [], .bipush (-2)),
  (0, 93, 1, 0, 0, [], .ireturn),
  (0, 94, 1, 0, 0, [], .aload_n 0),
  (0, 95, 1, 0, 0, [], .iload_n 1),
  (0, 96, 1, 0, 0, [], .iload_n 2),
  (0, 97, 3, 0, 0, [], .invokevirtual 371),
  (0, 100, 3, 120, 0, [], .ifCond .eq 20),
  (0, 103, 1, 0, 0, [], .aload_n 0),
  (0, 104, 3, 0, 0, [], .getfield 101),
  (0, 107, 1, 0, 0, [], .iload_n 1),
  (0, 108, 1, 0, 5, [], .iconst 5),
  (0, 109, 1, 0, 0, [], .iadd),
  (0, 110, 1, 0, 0, [], .dup2),
  (0, 111, 1, 0, 0, [], .iaload),
  (0, 112, 1, 0, 1, [], .iconst 1),
  (0, 113, 1, 0, 0, [], .iload_n 2),
  (0, 114, 1, 0, 0, [], .ishl),
  (0, 115, 1, 0, 0, [], .ior),
  (0, 116, 1, 0, 0, [], .iastore),
  (0, 117, 3, 126, 0, [], .goto 9),
  (0, 120, 1, 0, 0, [], .aload_n 0),
  (0, 121, 1, 0, 0, [], .iload_n 1),
  (0, 122, 1, 0, 0, [], .iload_n 2),
  (0, 123, 3, 0, 0, [], .invokevirtual 374),
  (0, 126, 1, 0, 0, [], .aload_n 0),
  (0, 127, 3, 0, 0, [], .getfield 101),
  (0, 130, 1, 0, 0, [], .iload_n 1),
  (0, 131, 1, 0, 0, [], .iconst 0),
  (0, 132, 1, 0, 0, [], .iadd),
  (0, 133, 1, 0, 0, [], .iaload),
  (0, 134, 1, 0, 0, [], .ireturn)]
def F_X12_removes (fu : Nat) (s : Nat) (x1 : Int32) (x2 : Int32) (M : xM) : Option (Int32 × xM) :=
  (gR M 12 s 17).bind fun a_1 =>
  gd (xin (x1 + 2) (gN M 20 a_1)) <|
  if (gI M 20 a_1 (xi (x1 + 2))) = 0 then
    (some ((-1), M))
  else
    (F_X12_isFile fu s x2 M).bind fun p_2 =>
    if p_2.1 = 0 then
      (some ((-1), p_2.2))
    else
      (F_X12_isOrphan fu s x1 x2 p_2.2).bind fun p_3 =>
      if ¬ p_3.1 = 0 then
        (some ((-1), p_3.2))
      else
        (F_X12_mappedOf fu s x1 x2 p_3.2).bind fun p_4 =>
        if ¬ p_4.1 = 0 then
          (F_X12_cutFirst fu s x1 p_4.2).bind fun p_5 =>
          if p_5.1 = 0 then
            (F_X12_erased fu s x1 p_5.2).bind fun p_6 =>
            (F_X12_pagesKept fu s x1 x2 p_6.2).bind fun p_7 =>
            gd (!((4 : Int32) == 0)) <|
            (gR p_7.2 12 s 10).bind fun a_8 =>
            gd (xin 2 (gN p_7.2 20 a_8)) <|
            if (((1 + (p_7.1 / 4)) + 1) + (gI p_7.2 20 a_8 (xi 2))) ≤ p_6.1 then
              (F_X12_putsNew fu s x1 2 x2 ((-1)) ((-1)) p_7.2).bind fun p_9 =>
              if ¬ p_9.1 = 0 then
                (F_X12_isOpen fu s x1 x2 p_9.2).bind fun p_10 =>
                if p_10.1 = 0 then
                  (F_X12_unmaps fu s x1 x2 p_10.2).bind fun p_11 =>
                  (gR p_11 12 s 17).bind fun a_12 =>
                  gd (xin (x1 + 0) (gN p_11 20 a_12)) <|
                  (some (gI p_11 20 a_12 (xi (x1 + 0)), p_11))
                else
                  (gR p_10.2 12 s 17).bind fun a_13 =>
                  gd (xin (x1 + 5) (gN p_10.2 20 a_13)) <|
                  (gR p_10.2 12 s 17).bind fun a_14 =>
                  gd (xin (x1 + 5) (gN p_10.2 20 a_14)) <|
                  let M_15 := sI p_10.2 20 a_14 (xi (x1 + 5)) ((gI p_10.2 20 a_13 (xi (x1 + 5))) ||| (1 <<< (x2 &&& 31)))
                  (gR M_15 12 s 17).bind fun a_16 =>
                  gd (xin (x1 + 0) (gN M_15 20 a_16)) <|
                  (some (gI M_15 20 a_16 (xi (x1 + 0)), M_15))
              else
                (some ((-2), p_9.2))
            else
              (some ((-1), p_7.2))
          else
            (some ((-2), p_5.2))
        else
          (some ((-1), p_4.2))
set_option maxRecDepth 100000 in
theorem q_X12_removes (fu : Nat) (s : Nat) (x1 : Int32) (x2 : Int32) (M : xM) :
    xrun pX12_removes flX12 koX12 nwX12 [(258, 2, 0, 0, w_X12_isFile fu), (270, 3, 0, 0, w_X12_isOrphan fu), (274, 3, 0, 0, w_X12_pagesKept fu), (326, 2, 0, 0, w_X12_erased fu), (355, 2, 0, 0, w_X12_cutFirst fu), (361, 6, 0, 0, w_X12_putsNew fu), (368, 3, 0, 0, w_X12_mappedOf fu), (371, 3, 0, 0, w_X12_isOpen fu), (374, 3, 0, 0, w_X12_unmaps fu)] [] xrtI 91 (xat 0 pX12_removes) 0 0 [(0, .inr (.inr (12, some s))), (1, .inl x1), (2, .inl x2)] [] M = F_X12_removes fu s x1 x2 M := rfl
def w_X12_removes (fu : Nat) {ρ : Type} (as : List xV) (M : xM) (k : Option xV → xM → Option ρ) : Option ρ := pR 12 as fun o as => o.bind fun s => pI as fun x1 as => pI as fun x2 as => xe as ((F_X12_removes fu s x1 x2 M).bind fun p => k (some (.inl p.1)) p.2)
def pX12_opens : List xE := [(0, 0, 1, 0, 0, [], .aload_n 0),
  (0, 1, 3, 0, 0, [], .getfield 101),
  (0, 4, 1, 0, 0, [], .iload_n 1),
  (0, 5, 1, 0, 2, [], .iconst 2),
  (0, 6, 1, 0, 0, [], .iadd),
  (0, 7, 1, 0, 0, [], .iaload),
  (0, 8, 3, 29, 0, [], .ifCond .eq 21),
  (0, 11, 1, 0, 0, [], .aload_n 0),
  (0, 12, 1, 0, 0, [], .iload_n 2),
  (0, 13, 3, 0, 0, [], .invokevirtual 258),
  (0, 16, 3, 29, 0, [], .ifCond .eq 13),
  (0, 19, 1, 0, 0, [], .aload_n 0),
  (0, 20, 1, 0, 0, [], .iload_n 1),
  (0, 21, 1, 0, 0, [], .iload_n 2),
  (0, 22, 3, 0, 0, [], .invokevirtual 371),
  (0, 25, 1, 0, 0, [], .iload_n 3),
  (0, 26, 3, 31, 0, [], .if_icmp .ne 5),
  (0, 29, 1, 0, 0, [], .iconst 0),
  (0, 30, 1, 0, 0, [], .ireturn),
  (0, 31, 1, 0, 0, [], .aload_n 0),
  (0, 32, 3, 0, 0, [], .getfield 101),
  (0, 35, 1, 0, 0, [], .iload_n 1),
  (0, 36, 1, 0, 4, [], .iconst 4),
  (0, 37, 1, 0, 0, [], .iadd),
  (0, 38, 1, 0, 0, [], .dup2),
  (0, 39, 1, 0, 0, [], .iaload),
  (0, 40, 1, 0, 1, [], .iconst 1),
  (0, 41, 1, 0, 0, [], .iload_n 2),
  (0, 42, 1, 0, 0, [], .ishl),
  (0, 43, 1, 0, 0, [], .ixor),
  (0, 44, 1, 0, 0, [], .iastore),
  (0, 45, 1, 0, 0, [], .aload_n 0),
  (0, 46, 1, 0, 0, [], .iload_n 1),
  (0, 47, 1, 0, 0, [], .iload_n 2),
  (0, 48, 3, 0, 0, [], .invokevirtual 270),
  (0, 51, 3, 76, 0, [], .ifCond .eq 25),
  (0, 54, 1, 0, 0, [], .aload_n 0),
  (0, 55, 3, 0, 0, [], .getfield 101),
  (0, 58, 1, 0, 0, [], .iload_n 1),
  (0, 59, 1, 0, 5, [], .iconst 5),
  (0, 60, 1, 0, 0, [], .iadd),
  (0, 61, 1, 0, 0, [], .dup2),
  (0, 62, 1, 0, 0, [], .iaload),
  (0, 63, 1, 0, 1, [], .iconst 1),
  (0, 64, 1, 0, 0, [], .iload_n 2),
  (0, 65, 1, 0, 0, [], .ishl),
  (0, 66, 1, 0, (-1), [], .iconst (-1)),
  (0, 67, 1, 0, 0, [], .ixor),
  (0, 68, 1, 0, 0, [], .iand),
  (0, 69, 1, 0, 0, [], .iastore),
  (0, 70, 1, 0, 0, [], .aload_n 0),
  (0, 71, 1, 0, 0, [], .iload_n 1),
  (0, 72, 1, 0, 0, [], .iload_n 2),
  (0, 73, 3, 0, 0, [], .invokevirtual 374),
  (0, 76, 1, 0, 1, [], .iconst 1),
  (0, 77, 1, 0, 0, [], .ireturn)]
def F_X12_opens (fu : Nat) (s : Nat) (x1 : Int32) (x2 : Int32) (x3 : Int32) (M : xM) : Option (Int32 × xM) :=
  (gR M 12 s 17).bind fun a_1 =>
  gd (xin (x1 + 2) (gN M 20 a_1)) <|
  if (gI M 20 a_1 (xi (x1 + 2))) = 0 then
    gd (xbool 0) (some (0, M))
  else
    (F_X12_isFile fu s x2 M).bind fun p_2 =>
    if p_2.1 = 0 then
      gd (xbool 0) (some (0, p_2.2))
    else
      (F_X12_isOpen fu s x1 x2 p_2.2).bind fun p_3 =>
      if ¬ p_3.1 = x3 then
        (gR p_3.2 12 s 17).bind fun a_4 =>
        gd (xin (x1 + 4) (gN p_3.2 20 a_4)) <|
        (gR p_3.2 12 s 17).bind fun a_5 =>
        gd (xin (x1 + 4) (gN p_3.2 20 a_5)) <|
        let M_6 := sI p_3.2 20 a_5 (xi (x1 + 4)) ((gI p_3.2 20 a_4 (xi (x1 + 4))) ^^^ (1 <<< (x2 &&& 31)))
        (F_X12_isOrphan fu s x1 x2 M_6).bind fun p_7 =>
        if p_7.1 = 0 then
          gd (xbool 1) (some (1, p_7.2))
        else
          (gR p_7.2 12 s 17).bind fun a_8 =>
          gd (xin (x1 + 5) (gN p_7.2 20 a_8)) <|
          (gR p_7.2 12 s 17).bind fun a_9 =>
          gd (xin (x1 + 5) (gN p_7.2 20 a_9)) <|
          let M_10 := sI p_7.2 20 a_9 (xi (x1 + 5)) ((gI p_7.2 20 a_8 (xi (x1 + 5))) &&& ((1 <<< (x2 &&& 31)) ^^^ ((-1))))
          (F_X12_unmaps fu s x1 x2 M_10).bind fun p_11 =>
          gd (xbool 1) (some (1, p_11))
      else
        gd (xbool 0) (some (0, p_3.2))
set_option maxRecDepth 100000 in
theorem q_X12_opens (fu : Nat) (s : Nat) (x1 : Int32) (x2 : Int32) (x3 : Int32) (M : xM) :
    xrun pX12_opens flX12 koX12 nwX12 [(258, 2, 0, 0, w_X12_isFile fu), (270, 3, 0, 0, w_X12_isOrphan fu), (371, 3, 0, 0, w_X12_isOpen fu), (374, 3, 0, 0, w_X12_unmaps fu)] [] xrtZ 58 (xat 0 pX12_opens) 0 0 [(0, .inr (.inr (12, some s))), (1, .inl x1), (2, .inl x2), (3, .inl x3)] [] M = F_X12_opens fu s x1 x2 x3 M := rfl
def w_X12_opens (fu : Nat) {ρ : Type} (as : List xV) (M : xM) (k : Option xV → xM → Option ρ) : Option ρ := pR 12 as fun o as => o.bind fun s => pI as fun x1 as => pI as fun x2 as => pI as fun x3 as => xe as ((F_X12_opens fu s x1 x2 x3 M).bind fun p => k (some (.inl p.1)) p.2)
def pX12_doesLine : List xE := [(0, 0, 1, 0, 0, [], .aload_n 0),
  (0, 1, 3, 0, 0, [], .getfield 92),
  (0, 4, 1, 0, 0, [], .iload_n 2),
  (0, 5, 1, 0, 1, [], .iconst 1),
  (0, 6, 1, 0, 0, [], .iadd),
  (0, 7, 1, 0, 0, [], .iaload),
  (0, 8, 1, 0, 0, [], .istore_n 3),
  (0, 9, 1, 0, 0, [], .aload_n 0),
  (0, 10, 3, 0, 0, [], .getfield 92),
  (0, 13, 1, 0, 0, [], .iload_n 2),
  (0, 14, 1, 0, 0, [], .iaload),
  (0, 15, 33, 127, 0, [(0, 48), (1, 80), (2, 96), (3, 104), (4, 112)], .tableswitch 112 0 4 #[33, 65, 81, 89, 97]),
  (0, 48, 1, 0, 0, [], .aload_n 0),
  (0, 49, 1, 0, 0, [], .iload_n 1),
  (0, 50, 1, 0, 0, [], .iload_n 3),
  (0, 51, 1, 0, 0, [], .aload_n 0),
  (0, 52, 3, 0, 0, [], .getfield 92),
  (0, 55, 1, 0, 0, [], .iload_n 2),
  (0, 56, 1, 0, 2, [], .iconst 2),
  (0, 57, 1, 0, 0, [], .iadd),
  (0, 58, 1, 0, 0, [], .iaload),
  (0, 59, 1, 0, 0, [], .aload_n 0),
  (0, 60, 3, 0, 0, [], .getfield 92),
  (0, 63, 1, 0, 0, [], .iload_n 2),
  (0, 64, 1, 0, 3, [], .iconst 3),
  (0, 65, 1, 0, 0, [], .iadd),
  (0, 66, 1, 0, 0, [], .iaload),
  (0, 67, 3, 0, 0, [], .invokevirtual 383),
  (0, 70, 1, 0, (-1), [], .iconst (-1)),
  (0, 71, 3, 78, 0, [], .if_icmp .eq 7),
  (0, 74, 1, 0, 1, [], .iconst 1),
  (0, 75, 3, 79, 0, [], .goto 4),
  (0, 78, 1, 0, 0, [], .iconst 0),
  (0, 79, 1, 0, 0, [], .ireturn),
  (0, 80, 1, 0, 0, [], .aload_n 0),
  (0, 81, 1, 0, 0, [], .iload_n 1),
  (0, 82, 1, 0, 0, [], .iload_n 3),
  (0, 83, 3, 0, 0, [], .invokevirtual 386),
  (0, 86, 1, 0, (-1), [], .iconst (-1)),
  (0, 87, 3, 94, 0, [], .if_icmp .eq 7),
  (0, 90, 1, 0, 1, [], .iconst 1),
  (0, 91, 3, 95, 0, [], .goto 4),
  (0, 94, 1, 0, 0, [], .iconst 0),
  (0, 95, 1, 0, 0, [], .ireturn),
  (0, 96, 1, 0, 0, [], .aload_n 0),
  (0, 97, 1, 0, 0, [], .iload_n 1),
  (0, 98, 1, 0, 0, [], .iload_n 3),
  (0, 99, 1, 0, 1, [], .iconst 1),
  (0, 100, 3, 0, 0, [], .invokevirtual 389),
  (0, 103, 1, 0, 0, [], .ireturn),
  (0, 104, 1, 0, 0, [], .aload_n 0),
  (0, 105, 1, 0, 0, [], .iload_n 1),
  (0, 106, 1, 0, 0, [], .iload_n 3),
  (0, 107, 1, 0, 0, [], .iconst 0),
  (0, 108, 3, 0, 0, [], .invokevirtual 389),
  (0, 111, 1, 0, 0, [], .ireturn),
  (0, 112, 1, 0, 0, [], .aload_n 0),
  (0, 113, 1, 0, 0, [], .iload_n 1),
  (0, 114, 3, 0, 0, [], .invokevirtual 365),
  (0, 117, 1, 0, (-1), [], .iconst (-1)),
  (0, 118, 3, 125, 0, [], .if_icmp .eq 7),
  (0, 121, 1, 0, 1, [], .iconst 1),
  (0, 122, 3, 126, 0, [], .goto 4),
  (0, 125, 1, 0, 0, [], .iconst 0),
  (0, 126, 1, 0, 0, [], .ireturn),
  (0, 127, 1, 0, 0, [], .aload_n 0),
  (0, 128, 1, 0, 0, [], .iload_n 1),
  (0, 129, 3, 0, 0, [], .invokevirtual 342),
  (0, 132, 1, 0, (-1), [], .iconst (-1)),
  (0, 133, 3, 140, 0, [], .if_icmp .eq 7),
  (0, 136, 1, 0, 1, [], .iconst 1),
  (0, 137, 3, 141, 0, [], .goto 4),
  (0, 140, 1, 0, 0, [], .iconst 0),
  (0, 141, 1, 0, 0, [], .ireturn)]
def F_X12_doesLine (fu : Nat) (s : Nat) (x1 : Int32) (x2 : Int32) (M : xM) : Option (Int32 × xM) :=
  (gR M 12 s 14).bind fun a_1 =>
  gd (xin (x2 + 1) (gN M 20 a_1)) <|
  let x3_2 : Int32 := gI M 20 a_1 (xi (x2 + 1))
  (gR M 12 s 14).bind fun a_3 =>
  gd (xin x2 (gN M 20 a_3)) <|
  if (gI M 20 a_3 (xi x2)) = 0 then
    (gR M 12 s 14).bind fun a_4 =>
    gd (xin (x2 + 2) (gN M 20 a_4)) <|
    (gR M 12 s 14).bind fun a_5 =>
    gd (xin (x2 + 3) (gN M 20 a_5)) <|
    (F_X12_writes fu s x1 x3_2 (gI M 20 a_4 (xi (x2 + 2))) (gI M 20 a_5 (xi (x2 + 3))) M).bind fun p_6 =>
    if p_6.1 = ((-1)) then
      gd (xbool 0) (some (0, p_6.2))
    else
      gd (xbool 1) (some (1, p_6.2))
  else
  if (gI M 20 a_3 (xi x2)) = 1 then
    (F_X12_removes fu s x1 x3_2 M).bind fun p_7 =>
    if p_7.1 = ((-1)) then
      gd (xbool 0) (some (0, p_7.2))
    else
      gd (xbool 1) (some (1, p_7.2))
  else
  if (gI M 20 a_3 (xi x2)) = 2 then
    (F_X12_opens fu s x1 x3_2 1 M).bind fun p_8 =>
    gd (xbool p_8.1) (some (p_8.1, p_8.2))
  else
  if (gI M 20 a_3 (xi x2)) = 3 then
    (F_X12_opens fu s x1 x3_2 0 M).bind fun p_9 =>
    gd (xbool p_9.1) (some (p_9.1, p_9.2))
  else
  if (gI M 20 a_3 (xi x2)) = 4 then
    (F_X12_commits fu s x1 M).bind fun p_10 =>
    if p_10.1 = ((-1)) then
      gd (xbool 0) (some (0, p_10.2))
    else
      gd (xbool 1) (some (1, p_10.2))
  else
    (F_X12_collects fu s x1 M).bind fun p_11 =>
    if p_11.1 = ((-1)) then
      gd (xbool 0) (some (0, p_11.2))
    else
      gd (xbool 1) (some (1, p_11.2))
set_option maxRecDepth 100000 in
theorem q_X12_doesLine (fu : Nat) (s : Nat) (x1 : Int32) (x2 : Int32) (M : xM) :
    xrun pX12_doesLine flX12 koX12 nwX12 [(342, 2, 0, 0, w_X12_collects fu), (365, 2, 0, 0, w_X12_commits fu), (383, 5, 0, 0, w_X12_writes fu), (386, 3, 0, 0, w_X12_removes fu), (389, 4, 0, 0, w_X12_opens fu)] [] xrtZ 76 (xat 0 pX12_doesLine) 0 0 [(0, .inr (.inr (12, some s))), (1, .inl x1), (2, .inl x2)] [] M = F_X12_doesLine fu s x1 x2 M := rfl
def w_X12_doesLine (fu : Nat) {ρ : Type} (as : List xV) (M : xM) (k : Option xV → xM → Option ρ) : Option ρ := pR 12 as fun o as => o.bind fun s => pI as fun x1 as => pI as fun x2 as => xe as ((F_X12_doesLine fu s x1 x2 M).bind fun p => k (some (.inl p.1)) p.2)
def pX12_putsOfAll : List xE := [(0, 0, 1, 0, 0, [], .aload_n 0),
  (0, 1, 3, 0, 0, [], .getfield 117),
  (0, 4, 1, 0, 0, [], .aload_n 0),
  (0, 5, 3, 0, 0, [], .getfield 92),
  (0, 8, 1, 0, 0, [], .iconst 0),
  (0, 9, 1, 0, 0, [], .iaload),
  (0, 10, 1, 0, 0, [], .iaload),
  (0, 11, 1, 0, 0, [], .ireturn)]
def F_X12_putsOfAll (fu : Nat) (s : Nat) (M : xM) : Option (Int32 × xM) :=
  (gR M 12 s 14).bind fun a_1 =>
  gd (xin 0 (gN M 20 a_1)) <|
  (gR M 12 s 25).bind fun a_2 =>
  gd (xin (gI M 20 a_1 (xi 0)) (gN M 20 a_2)) <|
  (some (gI M 20 a_2 (xi (gI M 20 a_1 (xi 0))), M))
set_option maxRecDepth 100000 in
theorem q_X12_putsOfAll (fu : Nat) (s : Nat) (M : xM) :
    xrun pX12_putsOfAll flX12 koX12 nwX12 [] [] xrtI 10 (xat 0 pX12_putsOfAll) 0 0 [(0, .inr (.inr (12, some s)))] [] M = F_X12_putsOfAll fu s M := rfl
def w_X12_putsOfAll (fu : Nat) {ρ : Type} (as : List xV) (M : xM) (k : Option xV → xM → Option ρ) : Option ρ := pR 12 as fun o as => o.bind fun s => xe as ((F_X12_putsOfAll fu s M).bind fun p => k (some (.inl p.1)) p.2)
def pX12_runs : List xE := [(0, 0, 1, 0, 0, [], .aload_n 0),
  (0, 1, 3, 0, 0, [], .getfield 219),
  (0, 4, 3, 8, 0, [], .ifCond .eq 4),
  (0, 7, 1, 0, 0, [], .return_),
  (0, 8, 1, 0, 0, [], .aload_n 0),
  (0, 9, 1, 0, 1, [], .iconst 1),
  (0, 10, 3, 0, 0, [], .putfield 219),
  (0, 13, 1, 0, 0, [], .aload_n 0),
  (0, 14, 3, 0, 1605, [], .sipush 1605),
  (0, 17, 3, 0, 0, [], .invokevirtual 249),
  (0, 20, 1, 0, 0, [], .iconst 0),
  (0, 21, 1, 0, 0, [], .istore_n 1),
  (1, 22, 1, 0, 0, [], .iload_n 1),
  (0, 23, 1, 0, 0, [], .aload_n 0),
  (0, 24, 3, 0, 0, [], .getfield 92),
  (0, 27, 1, 0, 0, [], .iconst 0),
  (0, 28, 1, 0, 0, [], .iaload),
  (0, 29, 3, 110, 0, [], .if_icmp .gt 81),
  (0, 32, 1, 0, 0, [], .aload_n 0),
  (0, 33, 3, 0, 1605, [], .sipush 1605),
  (0, 36, 3, 0, 2140, [], .sipush 2140),
  (0, 39, 3, 0, 502, [], .sipush 502),
  (0, 42, 3, 0, 0, [], .invokevirtual 406),
  (0, 45, 1, 0, 0, [], .aload_n 0),
  (0, 46, 3, 0, 2140, [], .sipush 2140),
  (0, 49, 3, 0, 0, [], .invokevirtual 393),
  (0, 52, 1, 0, 0, [], .pop),
  (0, 53, 1, 0, 0, [], .aload_n 0),
  (0, 54, 3, 0, 2140, [], .sipush 2140),
  (0, 57, 1, 0, 0, [], .aload_n 0),
  (0, 58, 3, 0, 0, [], .getfield 114),
  (0, 61, 1, 0, 3, [], .iconst 3),
  (0, 62, 1, 0, 0, [], .iload_n 1),
  (0, 63, 1, 0, 0, [], .imul),
  (0, 64, 3, 0, 0, [], .invokevirtual 410),
  (0, 67, 1, 0, 0, [], .aload_n 0),
  (0, 68, 3, 0, 0, [], .getfield 117),
  (0, 71, 1, 0, 0, [], .iload_n 1),
  (0, 72, 1, 0, 0, [], .aload_n 0),
  (0, 73, 3, 0, 0, [], .getfield 101),
  (0, 76, 3, 0, 1611, [], .sipush 1611),
  (0, 79, 1, 0, 0, [], .iaload),
  (0, 80, 1, 0, 0, [], .iastore),
  (0, 81, 1, 0, 0, [], .iload_n 1),
  (0, 82, 1, 0, 0, [], .aload_n 0),
  (0, 83, 3, 0, 0, [], .getfield 92),
  (0, 86, 1, 0, 0, [], .iconst 0),
  (0, 87, 1, 0, 0, [], .iaload),
  (0, 88, 3, 104, 0, [], .if_icmp .ge 16),
  (0, 91, 1, 0, 0, [], .aload_n 0),
  (0, 92, 3, 0, 1605, [], .sipush 1605),
  (0, 95, 1, 0, 1, [], .iconst 1),
  (0, 96, 1, 0, 4, [], .iconst 4),
  (0, 97, 1, 0, 0, [], .iload_n 1),
  (0, 98, 1, 0, 0, [], .imul),
  (0, 99, 1, 0, 0, [], .iadd),
  (0, 100, 3, 0, 0, [], .invokevirtual 396),
  (0, 103, 1, 0, 0, [], .pop),
  (0, 104, 3, 0, 1, [], .iinc 1 1),
  (0, 107, 3, 22, 0, [], .goto (-85)),
  (0, 110, 1, 0, 1, [], .iconst 1),
  (0, 111, 1, 0, 0, [], .istore_n 1),
  (1, 112, 1, 0, 0, [], .iload_n 1),
  (0, 113, 1, 0, 0, [], .aload_n 0),
  (0, 114, 3, 0, 0, [], .invokevirtual 414),
  (0, 117, 3, 195, 0, [], .if_icmp .gt 78),
  (0, 120, 1, 0, 0, [], .aload_n 0),
  (0, 121, 3, 0, 1605, [], .sipush 1605),
  (0, 124, 3, 0, 0, [], .invokevirtual 249),
  (0, 127, 1, 0, 0, [], .aload_n 0),
  (0, 128, 3, 0, 0, [], .getfield 101),
  (0, 131, 3, 0, 1608, [], .sipush 1608),
  (0, 134, 1, 0, 0, [], .iload_n 1),
  (0, 135, 1, 0, 0, [], .iastore),
  (0, 136, 1, 0, 0, [], .iconst 0),
  (0, 137, 1, 0, 0, [], .istore_n 2),
  (1, 138, 1, 0, 0, [], .iload_n 2),
  (0, 139, 1, 0, 0, [], .aload_n 0),
  (0, 140, 3, 0, 0, [], .getfield 92),
  (0, 143, 1, 0, 0, [], .iconst 0),
  (0, 144, 1, 0, 0, [], .iaload),
  (0, 145, 3, 167, 0, [], .if_icmp .ge 22),
  (0, 148, 1, 0, 0, [], .aload_n 0),
  (0, 149, 3, 0, 1605, [], .sipush 1605),
  (0, 152, 1, 0, 1, [], .iconst 1),
  (0, 153, 1, 0, 4, [], .iconst 4),
  (0, 154, 1, 0, 0, [], .iload_n 2),
  (0, 155, 1, 0, 0, [], .imul),
  (0, 156, 1, 0, 0, [], .iadd),
  (0, 157, 3, 0, 0, [], .invokevirtual 396),
  (0, 160, 1, 0, 0, [], .pop),
  (0, 161, 3, 0, 1, [], .iinc 2 1),
  (0, 164, 3, 138, 0, [], .goto (-26)),
  (0, 167, 1, 0, 0, [], .aload_n 0),
  (0, 168, 3, 0, 1605, [], .sipush 1605),
  (0, 171, 3, 0, 0, [], .invokevirtual 393),
  (0, 174, 1, 0, 0, [], .pop),
  (0, 175, 1, 0, 0, [], .aload_n 0),
  (0, 176, 3, 0, 1605, [], .sipush 1605),
  (0, 179, 1, 0, 0, [], .aload_n 0),
  (0, 180, 3, 0, 0, [], .getfield 111),
  (0, 183, 1, 0, 3, [], .iconst 3),
  (0, 184, 1, 0, 0, [], .iload_n 1),
  (0, 185, 1, 0, 0, [], .imul),
  (0, 186, 3, 0, 0, [], .invokevirtual 410),
  (0, 189, 3, 0, 1, [], .iinc 1 1),
  (0, 192, 3, 112, 0, [], .goto (-80)),
  (0, 195, 1, 0, 0, [], .return_)]
def L_X12_runs_138 (fu : Nat) (k112 : Nat → Int32 → xM → Option xM) : Nat → Nat → Int32 → Int32 → xM → Option xM
  | 0, _, _, _, _ => none
  | n + 1, s, x1, x2, M =>
    (gR M 12 s 14).bind fun a_1 =>
    gd (xin 0 (gN M 20 a_1)) <|
    if (gI M 20 a_1 (xi 0)) ≤ x2 then
      (F_X12_mounts fu s 1605 M).bind fun p_2 =>
      (F_X12_packs fu s 1605 (gR p_2.2 12 s 23) (3 * x1) p_2.2).bind fun p_3 =>
      k112 s (x1 + 1) p_3
    else
      (F_X12_doesLine fu s 1605 (1 + (4 * x2)) M).bind fun p_4 =>
      L_X12_runs_138 fu k112 n s x1 (x2 + 1) p_4.2
set_option maxRecDepth 100000 in
theorem q_X12_runs_138 (fu : Nat) (k112 : Nat → Int32 → xM → Option xM) (n : Nat) (s : Nat) (x1 : Int32) (x2 : Int32) (M : xM) :
    xrun pX12_runs flX12 koX12 nwX12 [(393, 2, 0, 0, w_X12_mounts fu), (396, 3, 0, 0, w_X12_doesLine fu), (410, 4, 0, 0, w_X12_packs fu)] [(112, fun bc bs ls st M => xz bc bs (lR ls 0 12 fun o => o.bind fun s => lI ls 1 fun x1 => xe st (k112 s x1 M))),
    (138, fun bc bs ls st M => xz bc bs (lR ls 0 12 fun o => o.bind fun s => lI ls 1 fun x1 => lI ls 2 fun x2 => xe st (L_X12_runs_138 fu k112 n s x1 x2 M)))] xrtV 110 (xat 138 pX12_runs) 0 0 [(0, .inr (.inr (12, some s))), (1, .inl x1), (2, .inl x2)] [] M = L_X12_runs_138 fu k112 (n + 1) s x1 x2 M := rfl
def L_X12_runs_112 (fu : Nat) : Nat → Nat → Int32 → xM → Option xM
  | 0, _, _, _ => none
  | n + 1, s, x1, M =>
    (F_X12_putsOfAll fu s M).bind fun p_1 =>
    if p_1.1 < x1 then
      some p_1.2
    else
      (F_X12_starts fu s 1605 p_1.2).bind fun p_2 =>
      (gR p_2 12 s 17).bind fun a_3 =>
      gd (xin 1608 (gN p_2 20 a_3)) <|
      let M_4 := sI p_2 20 a_3 (xi 1608) x1
      L_X12_runs_138 fu (L_X12_runs_112 fu n) fu s x1 0 M_4
set_option maxRecDepth 100000 in
theorem q_X12_runs_112 (fu : Nat) (n : Nat) (s : Nat) (x1 : Int32) (M : xM) :
    xrun pX12_runs flX12 koX12 nwX12 [(249, 2, 0, 0, w_X12_starts fu), (414, 1, 0, 0, w_X12_putsOfAll fu)] [(138, fun bc bs ls st M => xz bc bs (lR ls 0 12 fun o => o.bind fun s => lI ls 1 fun x1 => lI ls 2 fun x2 => xe st (L_X12_runs_138 fu (L_X12_runs_112 fu n) fu s x1 x2 M)))] xrtV 110 (xat 112 pX12_runs) 0 0 [(0, .inr (.inr (12, some s))), (1, .inl x1)] [] M = L_X12_runs_112 fu (n + 1) s x1 M := rfl
def L_X12_runs_22 (fu : Nat) : Nat → Nat → Int32 → xM → Option xM
  | 0, _, _, _ => none
  | n + 1, s, x1, M =>
    (gR M 12 s 14).bind fun a_1 =>
    gd (xin 0 (gN M 20 a_1)) <|
    if (gI M 20 a_1 (xi 0)) < x1 then
      L_X12_runs_112 fu fu s 1 M
    else
      (F_X12_moves fu s 1605 2140 502 M).bind fun p_2 =>
      (F_X12_mounts fu s 2140 p_2).bind fun p_3 =>
      (F_X12_packs fu s 2140 (gR p_3.2 12 s 24) (3 * x1) p_3.2).bind fun p_4 =>
      (gR p_4 12 s 17).bind fun a_5 =>
      gd (xin 1611 (gN p_4 20 a_5)) <|
      (gR p_4 12 s 25).bind fun a_6 =>
      gd (xin x1 (gN p_4 20 a_6)) <|
      let M_7 := sI p_4 20 a_6 (xi x1) (gI p_4 20 a_5 (xi 1611))
      (gR M_7 12 s 14).bind fun a_8 =>
      gd (xin 0 (gN M_7 20 a_8)) <|
      if (gI M_7 20 a_8 (xi 0)) ≤ x1 then
        L_X12_runs_22 fu n s (x1 + 1) M_7
      else
        (F_X12_doesLine fu s 1605 (1 + (4 * x1)) M_7).bind fun p_9 =>
        L_X12_runs_22 fu n s (x1 + 1) p_9.2
set_option maxRecDepth 100000 in
theorem q_X12_runs_22 (fu : Nat) (n : Nat) (s : Nat) (x1 : Int32) (M : xM) :
    xrun pX12_runs flX12 koX12 nwX12 [(393, 2, 0, 0, w_X12_mounts fu), (396, 3, 0, 0, w_X12_doesLine fu), (406, 4, 0, 0, w_X12_moves fu), (410, 4, 0, 0, w_X12_packs fu)] [(22, fun bc bs ls st M => xz bc bs (lR ls 0 12 fun o => o.bind fun s => lI ls 1 fun x1 => xe st (L_X12_runs_22 fu n s x1 M))),
    (112, fun bc bs ls st M => xz bc bs (lR ls 0 12 fun o => o.bind fun s => lI ls 1 fun x1 => xe st (L_X12_runs_112 fu fu s x1 M)))] xrtV 110 (xat 22 pX12_runs) 0 0 [(0, .inr (.inr (12, some s))), (1, .inl x1)] [] M = L_X12_runs_22 fu (n + 1) s x1 M := rfl
def F_X12_runs (fu : Nat) (s : Nat) (M : xM) : Option xM :=
  if (gI M 12 s 26) = 0 then
    gd (xbool 1) <|
    let M_1 := sI M 12 s 26 1
    (F_X12_starts fu s 1605 M_1).bind fun p_2 =>
    L_X12_runs_22 fu fu s 0 p_2
  else
    some M
set_option maxRecDepth 100000 in
theorem q_X12_runs (fu : Nat) (s : Nat) (M : xM) :
    xrun pX12_runs flX12 koX12 nwX12 [(249, 2, 0, 0, w_X12_starts fu)] [(22, fun bc bs ls st M => xz bc bs (lR ls 0 12 fun o => o.bind fun s => lI ls 1 fun x1 => xe st (L_X12_runs_22 fu fu s x1 M)))] xrtV 110 (xat 0 pX12_runs) 0 0 [(0, .inr (.inr (12, some s)))] [] M = F_X12_runs fu s M := rfl
def w_X12_runs (fu : Nat) {ρ : Type} (as : List xV) (M : xM) (k : Option xV → xM → Option ρ) : Option ρ := pR 12 as fun o as => o.bind fun s => xe as ((F_X12_runs fu s M).bind fun p => k none p)
def pX12_saysIn : List xE := [(0, 0, 1, 0, 0, [], .aload_n 0),
  (0, 1, 1, 0, 0, [], .iload_n 1),
  (0, 2, 1, 0, 0, [], .iload_n 2),
  (0, 3, 2, 0, 7, [], .bipush 7),
  (0, 5, 1, 0, 0, [], .idiv),
  (0, 6, 1, 0, 0, [], .iadd),
  (0, 7, 1, 0, 0, [], .laload),
  (0, 8, 2, 0, 9, [], .bipush 9),
  (0, 10, 1, 0, 0, [], .iload_n 2),
  (0, 11, 2, 0, 7, [], .bipush 7),
  (0, 13, 1, 0, 0, [], .irem),
  (0, 14, 1, 0, 0, [], .imul),
  (0, 15, 1, 0, 0, [], .lshr),
  (0, 16, 3, 0, 0, [], .ldc2_w 404),
  (0, 19, 1, 0, 0, [], .land),
  (0, 20, 1, 0, 0, [], .l2i),
  (0, 21, 1, 0, 1, [], .iconst 1),
  (0, 22, 1, 0, 0, [], .isub),
  (0, 23, 1, 0, 0, [], .ireturn)]
def F_X12_saysIn (fu : Nat) (x0 : Option Nat) (x1 : Int32) (x2 : Int32) (M : xM) : Option (Int32 × xM) :=
  gd (!((7 : Int32) == 0)) <|
  x0.bind fun a_1 =>
  gd (xin (x1 + (x2 / 7)) (gN M 21 a_1)) <|
  gd (!((7 : Int32) == 0)) <|
  (some ((Int64.toInt32 (((gL M 21 a_1 (xi (x1 + (x2 / 7)))) >>> ((9 * (x2 - x2 / 7 * 7) : Int32).toInt64 &&& 63)) &&& 511)) - 1, M))
set_option maxRecDepth 100000 in
theorem q_X12_saysIn (fu : Nat) (x0 : Option Nat) (x1 : Int32) (x2 : Int32) (M : xM) :
    xrun pX12_saysIn flX12 koX12 nwX12 [] [] xrtI 21 (xat 0 pX12_saysIn) 0 0 [(0, .inr (.inr (21, x0))), (1, .inl x1), (2, .inl x2)] [] M = F_X12_saysIn fu x0 x1 x2 M := rfl
def w_X12_saysIn (fu : Nat) {ρ : Type} (as : List xV) (M : xM) (k : Option xV → xM → Option ρ) : Option ρ := pR 21 as fun x0 as => pI as fun x1 as => pI as fun x2 as => xe as ((F_X12_saysIn fu x0 x1 x2 M).bind fun p => k (some (.inl p.1)) p.2)
def pX12_after : List xE := [(0, 0, 1, 0, 0, [], .aload_n 0),
  (0, 1, 1, 0, 0, [], .iconst 0),
  (0, 2, 3, 0, 0, [], .putfield 1),
  (0, 5, 1, 0, 0, [], .iload_n 1),
  (0, 6, 1, 0, 1, [], .iconst 1),
  (0, 7, 3, 0, 200, [], .sipush 200),
  (0, 10, 3, 0, 0, [], .invokestatic 380),
  (0, 13, 3, 25, 0, [], .ifCond .eq 12),
  (0, 16, 1, 0, 0, [], .aload_n 0),
  (0, 17, 1, 0, 0, [], .iload_n 2),
  (0, 18, 1, 0, 0, [], .iload_n 3),
  (0, 19, 3, 0, 0, [], .invokevirtual 345),
  (0, 22, 3, 28, 0, [], .ifCond .ne 6),
  (0, 25, 2, 0, (-2), [], .bipush (-2)),
  (0, 27, 1, 0, 0, [], .ireturn),
  (0, 28, 1, 0, 0, [], .aload_n 0),
  (0, 29, 3, 0, 0, [], .invokevirtual 417),
  (0, 32, 1, 0, 0, [], .iload_n 1),
  (0, 33, 1, 0, 0, [], .aload_n 0),
  (0, 34, 3, 0, 0, [], .invokevirtual 414),
  (0, 37, 3, 63, 0, [], .if_icmp .le 26),
  (0, 40, 1, 0, 0, [], .aload_n 0),
  (0, 41, 3, 0, 0, [], .getfield 114),
  (0, 44, 1, 0, 3, [], .iconst 3),
  (0, 45, 1, 0, 0, [], .aload_n 0),
  (0, 46, 3, 0, 0, [], .getfield 92),
  (0, 49, 1, 0, 0, [], .iconst 0),
  (0, 50, 1, 0, 0, [], .iaload),
  (0, 51, 1, 0, 0, [], .imul),
  (0, 52, 1, 0, 4, [], .iconst 4),
  (0, 53, 1, 0, 0, [], .iload_n 2),
  (0, 54, 1, 0, 0, [], .imul),
  (0, 55, 1, 0, 0, [], .iload_n 3),
  (0, 56, 1, 0, 0, [], .iadd),
  (0, 57, 3, 0, 0, [], .invokestatic 420),
  (0, 60, 3, 78, 0, [], .goto 18),
  (0, 63, 1, 0, 0, [], .aload_n 0),
  (0, 64, 3, 0, 0, [], .getfield 111),
  (0, 67, 1, 0, 3, [], .iconst 3),
  (0, 68, 1, 0, 0, [], .iload_n 1),
  (0, 69, 1, 0, 0, [], .imul),
  (0, 70, 1, 0, 4, [], .iconst 4),
  (0, 71, 1, 0, 0, [], .iload_n 2),
  (0, 72, 1, 0, 0, [], .imul),
  (0, 73, 1, 0, 0, [], .iload_n 3),
  (0, 74, 1, 0, 0, [], .iadd),
  (0, 75, 3, 0, 0, [], .invokestatic 420),
  (0, 78, 1, 0, 0, [], .ireturn)]
def F_X12_after (fu : Nat) (s : Nat) (x1 : Int32) (x2 : Int32) (x3 : Int32) (M : xM) : Option (Int32 × xM) :=
  let M_1 := sI M 12 s 0 0
  (F_X12_within fu x1 1 200 M_1).bind fun p_2 =>
  if p_2.1 = 0 then
    (some ((-2), p_2.2))
  else
    (F_X12_isPage fu s x2 x3 p_2.2).bind fun p_3 =>
    if ¬ p_3.1 = 0 then
      (F_X12_runs fu s p_3.2).bind fun p_4 =>
      (F_X12_putsOfAll fu s p_4).bind fun p_5 =>
      if x1 ≤ p_5.1 then
        (F_X12_saysIn fu (gR p_5.2 12 s 23) (3 * x1) ((4 * x2) + x3) p_5.2).bind fun p_6 =>
        (some (p_6.1, p_6.2))
      else
        (gR p_5.2 12 s 14).bind fun a_7 =>
        gd (xin 0 (gN p_5.2 20 a_7)) <|
        (F_X12_saysIn fu (gR p_5.2 12 s 24) (3 * (gI p_5.2 20 a_7 (xi 0))) ((4 * x2) + x3) p_5.2).bind fun p_8 =>
        (some (p_8.1, p_8.2))
    else
      (some ((-2), p_3.2))
set_option maxRecDepth 100000 in
theorem q_X12_after (fu : Nat) (s : Nat) (x1 : Int32) (x2 : Int32) (x3 : Int32) (M : xM) :
    xrun pX12_after flX12 koX12 nwX12 [(345, 3, 0, 0, w_X12_isPage fu), (380, 3, 0, 0, w_X12_within fu), (414, 1, 0, 0, w_X12_putsOfAll fu), (417, 1, 0, 0, w_X12_runs fu), (420, 3, 0, 0, w_X12_saysIn fu)] [] xrtI 50 (xat 0 pX12_after) 0 0 [(0, .inr (.inr (12, some s))), (1, .inl x1), (2, .inl x2), (3, .inl x3)] [] M = F_X12_after fu s x1 x2 x3 M := rfl
def w_X12_after (fu : Nat) {ρ : Type} (as : List xV) (M : xM) (k : Option xV → xM → Option ρ) : Option ρ := pR 12 as fun o as => o.bind fun s => pI as fun x1 as => pI as fun x2 as => pI as fun x3 as => xe as ((F_X12_after fu s x1 x2 x3 M).bind fun p => k (some (.inl p.1)) p.2)
def pX12_tries : List xE := [(0, 0, 1, 0, 0, [], .aload_n 0),
  (0, 1, 1, 0, 0, [], .iconst 0),
  (0, 2, 3, 0, 1605, [], .sipush 1605),
  (0, 5, 3, 0, 502, [], .sipush 502),
  (0, 8, 3, 0, 0, [], .invokevirtual 406),
  (0, 11, 1, 0, 0, [], .aload_n 0),
  (0, 12, 3, 0, 0, [], .getfield 101),
  (0, 15, 3, 0, 1608, [], .sipush 1608),
  (0, 18, 1, 0, 0, [], .iconst 0),
  (0, 19, 1, 0, 0, [], .iastore),
  (0, 20, 1, 0, 0, [], .return_)]
def F_X12_tries (fu : Nat) (s : Nat) (M : xM) : Option xM :=
  (F_X12_moves fu s 0 1605 502 M).bind fun p_1 =>
  (gR p_1 12 s 17).bind fun a_2 =>
  gd (xin 1608 (gN p_1 20 a_2)) <|
  let M_3 := sI p_1 20 a_2 (xi 1608) 0
  some M_3
set_option maxRecDepth 100000 in
theorem q_X12_tries (fu : Nat) (s : Nat) (M : xM) :
    xrun pX12_tries flX12 koX12 nwX12 [(406, 4, 0, 0, w_X12_moves fu)] [] xrtV 13 (xat 0 pX12_tries) 0 0 [(0, .inr (.inr (12, some s)))] [] M = F_X12_tries fu s M := rfl
def w_X12_tries (fu : Nat) {ρ : Type} (as : List xV) (M : xM) (k : Option xV → xM → Option ρ) : Option ρ := pR 12 as fun o as => o.bind fun s => xe as ((F_X12_tries fu s M).bind fun p => k none p)
def pX12_draw : List xE := [(0, 0, 1, 0, 0, [], .aload_n 0),
  (0, 1, 1, 0, 0, [], .aload_n 0),
  (0, 2, 3, 0, 0, [], .getfield 450),
  (0, 5, 3, 0, 0, [], .ldc2_w 454),
  (0, 8, 1, 0, 0, [], .lmul),
  (0, 9, 3, 0, 0, [], .ldc2_w 456),
  (0, 12, 1, 0, 0, [], .ladd),
  (0, 13, 3, 0, 0, [], .ldc2_w 458),
  (0, 16, 1, 0, 0, [], .lrem),
  (0, 17, 3, 0, 0, [], .putfield 450),
  (0, 20, 1, 0, 0, [], .aload_n 0),
  (0, 21, 3, 0, 0, [], .getfield 450),
  (0, 24, 3, 0, 0, [], .ldc2_w 460),
  (0, 27, 1, 0, 0, [], .ldiv),
  (0, 28, 1, 0, 0, [], .iload_n 1),
  (0, 29, 1, 0, 0, [], .i2l),
  (0, 30, 1, 0, 0, [], .lrem),
  (0, 31, 1, 0, 0, [], .l2i),
  (0, 32, 1, 0, 0, [], .ireturn)]
def F_X12_draw (fu : Nat) (s : Nat) (x1 : Int32) (M : xM) : Option (Int32 × xM) :=
  gd (!((2147483648 : Int64) == 0)) <|
  let M_1 := sL M 12 s 28 ((((gL M 12 s 28) * 1103515245) + 12345) - (((gL M 12 s 28) * 1103515245) + 12345) / 2147483648 * 2147483648)
  gd (!((65536 : Int64) == 0)) <|
  gd (!((Int32.toInt64 x1 : Int64) == 0)) <|
  (some (Int64.toInt32 (((gL M_1 12 s 28) / 65536) - ((gL M_1 12 s 28) / 65536) / (Int32.toInt64 x1) * (Int32.toInt64 x1)), M_1))
set_option maxRecDepth 100000 in
theorem q_X12_draw (fu : Nat) (s : Nat) (x1 : Int32) (M : xM) :
    xrun pX12_draw flX12 koX12 nwX12 [] [] xrtI 21 (xat 0 pX12_draw) 0 0 [(0, .inr (.inr (12, some s))), (1, .inl x1)] [] M = F_X12_draw fu s x1 M := rfl
def w_X12_draw (fu : Nat) {ρ : Type} (as : List xV) (M : xM) (k : Option xV → xM → Option ρ) : Option ρ := pR 12 as fun o as => o.bind fun s => pI as fun x1 as => xe as ((F_X12_draw fu s x1 M).bind fun p => k (some (.inl p.1)) p.2)
def pX12_drawsDeed : List xE := [(0, 0, 1, 0, 0, [], .aload_n 0),
  (0, 1, 2, 0, 8, [], .bipush 8),
  (0, 3, 3, 0, 0, [], .invokevirtual 462),
  (0, 6, 1, 0, 0, [], .istore_n 1),
  (0, 7, 1, 0, 0, [], .iload_n 1),
  (0, 8, 2, 0, 6, [], .bipush 6),
  (0, 10, 3, 30, 0, [], .if_icmp .ne 20),
  (0, 13, 1, 0, 0, [], .aload_n 0),
  (0, 14, 3, 0, 1605, [], .sipush 1605),
  (0, 17, 3, 0, 0, [], .invokevirtual 365),
  (0, 20, 1, 0, (-1), [], .iconst (-1)),
  (0, 21, 3, 28, 0, [], .if_icmp .eq 7),
  (0, 24, 1, 0, 1, [], .iconst 1),
  (0, 25, 3, 29, 0, [], .goto 4),
  (0, 28, 1, 0, 0, [], .iconst 0),
  (0, 29, 1, 0, 0, [], .ireturn),
  (0, 30, 1, 0, 0, [], .iload_n 1),
  (0, 31, 2, 0, 7, [], .bipush 7),
  (0, 33, 3, 53, 0, [], .if_icmp .ne 20),
  (0, 36, 1, 0, 0, [], .aload_n 0),
  (0, 37, 3, 0, 1605, [], .sipush 1605),
  (0, 40, 3, 0, 0, [], .invokevirtual 342),
  (0, 43, 1, 0, (-1), [], .iconst (-1)),
  (0, 44, 3, 51, 0, [], .if_icmp .eq 7),
  (0, 47, 1, 0, 1, [], .iconst 1),
  (0, 48, 3, 52, 0, [], .goto 4),
  (0, 51, 1, 0, 0, [], .iconst 0),
  (0, 52, 1, 0, 0, [], .ireturn),
  (0, 53, 1, 0, 0, [], .aload_n 0),
  (0, 54, 1, 0, 0, [], .aload_n 0),
  (0, 55, 3, 0, 0, [], .invokevirtual 223),
  (0, 58, 3, 0, 0, [], .invokevirtual 462),
  (0, 61, 1, 0, 0, [], .istore_n 2),
  (0, 62, 1, 0, 0, [], .iload_n 1),
  (0, 63, 1, 0, 4, [], .iconst 4),
  (0, 64, 3, 85, 0, [], .if_icmp .ne 21),
  (0, 67, 1, 0, 0, [], .aload_n 0),
  (0, 68, 3, 0, 1605, [], .sipush 1605),
  (0, 71, 1, 0, 0, [], .iload_n 2),
  (0, 72, 3, 0, 0, [], .invokevirtual 386),
  (0, 75, 1, 0, (-1), [], .iconst (-1)),
  (0, 76, 3, 83, 0, [], .if_icmp .eq 7),
  (0, 79, 1, 0, 1, [], .iconst 1),
  (0, 80, 3, 84, 0, [], .goto 4),
  (0, 83, 1, 0, 0, [], .iconst 0),
  (0, 84, 1, 0, 0, [], .ireturn),
  (0, 85, 1, 0, 0, [], .iload_n 1),
  (0, 86, 1, 0, 5, [], .iconst 5),
  (0, 87, 3, 115, 0, [], .if_icmp .ne 28),
  (0, 90, 1, 0, 0, [], .aload_n 0),
  (0, 91, 3, 0, 1605, [], .sipush 1605),
  (0, 94, 1, 0, 0, [], .iload_n 2),
  (0, 95, 1, 0, 0, [], .aload_n 0),
  (0, 96, 3, 0, 1605, [], .sipush 1605),
  (0, 99, 1, 0, 0, [], .iload_n 2),
  (0, 100, 3, 0, 0, [], .invokevirtual 371),
  (0, 103, 3, 110, 0, [], .ifCond .ne 7),
  (0, 106, 1, 0, 1, [], .iconst 1),
  (0, 107, 3, 111, 0, [], .goto 4),
  (0, 110, 1, 0, 0, [], .iconst 0),
  (0, 111, 3, 0, 0, [], .invokevirtual 389),
  (0, 114, 1, 0, 0, [], .ireturn),
  (0, 115, 1, 0, 0, [], .aload_n 0),
  (0, 116, 1, 0, 4, [], .iconst 4),
  (0, 117, 3, 0, 0, [], .invokevirtual 462),
  (0, 120, 1, 0, 0, [], .istore_n 3),
  (0, 121, 1, 0, 0, [], .aload_n 0),
  (0, 122, 3, 0, 1605, [], .sipush 1605),
  (0, 125, 1, 0, 0, [], .iload_n 2),
  (0, 126, 1, 0, 0, [], .iload_n 3),
  (0, 127, 1, 0, 0, [], .aload_n 0),
  (0, 128, 3, 0, 256, [], .sipush 256),
  (0, 131, 3, 0, 0, [], .invokevirtual 462),
  (0, 134, 3, 0, 0, [], .invokevirtual 383),
  (0, 137, 1, 0, (-1), [], .iconst (-1)),
  (0, 138, 3, 145, 0, [], .if_icmp .eq 7),
  (0, 141, 1, 0, 1, [], .iconst 1),
  (0, 142, 3, 146, 0, [], .goto 4),
  (0, 145, 1, 0, 0, [], .iconst 0),
  (0, 146, 1, 0, 0, [], .ireturn)]
def F_X12_drawsDeed (fu : Nat) (s : Nat) (M : xM) : Option (Int32 × xM) :=
  (F_X12_draw fu s 8 M).bind fun p_1 =>
  if ¬ p_1.1 = 6 then
    if ¬ p_1.1 = 7 then
      (F_X12_files fu s p_1.2).bind fun p_2 =>
      (F_X12_draw fu s p_2.1 p_2.2).bind fun p_3 =>
      if ¬ p_1.1 = 4 then
        if ¬ p_1.1 = 5 then
          (F_X12_draw fu s 4 p_3.2).bind fun p_4 =>
          (F_X12_draw fu s 256 p_4.2).bind fun p_5 =>
          (F_X12_writes fu s 1605 p_3.1 p_4.1 p_5.1 p_5.2).bind fun p_6 =>
          if p_6.1 = ((-1)) then
            gd (xbool 0) (some (0, p_6.2))
          else
            gd (xbool 1) (some (1, p_6.2))
        else
          (F_X12_isOpen fu s 1605 p_3.1 p_3.2).bind fun p_7 =>
          if ¬ p_7.1 = 0 then
            (F_X12_opens fu s 1605 p_3.1 0 p_7.2).bind fun p_8 =>
            gd (xbool p_8.1) (some (p_8.1, p_8.2))
          else
            (F_X12_opens fu s 1605 p_3.1 1 p_7.2).bind fun p_9 =>
            gd (xbool p_9.1) (some (p_9.1, p_9.2))
      else
        (F_X12_removes fu s 1605 p_3.1 p_3.2).bind fun p_10 =>
        if p_10.1 = ((-1)) then
          gd (xbool 0) (some (0, p_10.2))
        else
          gd (xbool 1) (some (1, p_10.2))
    else
      (F_X12_collects fu s 1605 p_1.2).bind fun p_11 =>
      if p_11.1 = ((-1)) then
        gd (xbool 0) (some (0, p_11.2))
      else
        gd (xbool 1) (some (1, p_11.2))
  else
    (F_X12_commits fu s 1605 p_1.2).bind fun p_12 =>
    if p_12.1 = ((-1)) then
      gd (xbool 0) (some (0, p_12.2))
    else
      gd (xbool 1) (some (1, p_12.2))
set_option maxRecDepth 100000 in
theorem q_X12_drawsDeed (fu : Nat) (s : Nat) (M : xM) :
    xrun pX12_drawsDeed flX12 koX12 nwX12 [(223, 1, 0, 0, w_X12_files fu), (342, 2, 0, 0, w_X12_collects fu), (365, 2, 0, 0, w_X12_commits fu), (371, 3, 0, 0, w_X12_isOpen fu), (383, 5, 0, 0, w_X12_writes fu), (386, 3, 0, 0, w_X12_removes fu), (389, 4, 0, 0, w_X12_opens fu), (462, 2, 0, 0, w_X12_draw fu)] [] xrtZ 82 (xat 0 pX12_drawsDeed) 0 0 [(0, .inr (.inr (12, some s)))] [] M = F_X12_drawsDeed fu s M := rfl
def w_X12_drawsDeed (fu : Nat) {ρ : Type} (as : List xV) (M : xM) (k : Option xV → xM → Option ρ) : Option ρ := pR 12 as fun o as => o.bind fun s => xe as ((F_X12_drawsDeed fu s M).bind fun p => k (some (.inl p.1)) p.2)
def pX12_ages : List xE := [(0, 0, 1, 0, 0, [], .aload_n 0),
  (0, 1, 1, 0, 0, [], .iconst 0),
  (0, 2, 3, 0, 0, [], .putfield 1),
  (0, 5, 1, 0, 0, [], .iload_n 1),
  (0, 6, 1, 0, 0, [], .iconst 0),
  (0, 7, 3, 0, 9999, [], .sipush 9999),
  (0, 10, 3, 0, 0, [], .invokestatic 380),
  (0, 13, 3, 44, 0, [], .ifCond .eq 31),
  (0, 16, 1, 0, 0, [], .iload_n 2),
  (0, 17, 1, 0, 1, [], .iconst 1),
  (0, 18, 2, 0, 99, [], .bipush 99),
  (0, 20, 3, 0, 0, [], .invokestatic 380),
  (0, 23, 3, 44, 0, [], .ifCond .eq 21),
  (0, 26, 1, 0, 0, [], .iload_n 3),
  (0, 27, 1, 0, 0, [], .iconst 0),
  (0, 28, 1, 0, 2, [], .iconst 2),
  (0, 29, 3, 0, 0, [], .invokestatic 380),
  (0, 32, 3, 44, 0, [], .ifCond .eq 12),
  (0, 35, 1, 0, 0, [], .aload_n 0),
  (0, 36, 3, 0, 0, [], .getfield 101),
  (0, 39, 1, 0, 2, [], .iconst 2),
  (0, 40, 1, 0, 0, [], .iaload),
  (0, 41, 3, 46, 0, [], .ifCond .ne 5),
  (0, 44, 1, 0, (-1), [], .iconst (-1)),
  (0, 45, 1, 0, 0, [], .ireturn),
  (0, 46, 1, 0, 0, [], .aload_n 0),
  (0, 47, 3, 0, 0, [], .invokevirtual 437),
  (0, 50, 1, 0, 0, [], .aload_n 0),
  (0, 51, 1, 0, 0, [], .iload_n 1),
  (0, 52, 1, 0, 0, [], .i2l),
  (0, 53, 3, 0, 0, [], .putfield 450),
  (0, 56, 1, 0, 0, [], .iconst 0),
  (0, 57, 2, 0, 0, [], .istore 4),
  (0, 59, 1, 0, 0, [], .iconst 0),
  (0, 60, 2, 0, 0, [], .istore 5),
  (1, 62, 2, 0, 0, [], .iload 5),
  (0, 64, 1, 0, 0, [], .iload_n 2),
  (0, 65, 3, 98, 0, [], .if_icmp .ge 33),
  (0, 68, 2, 0, 0, [], .iload 4),
  (0, 70, 1, 0, 0, [], .aload_n 0),
  (0, 71, 3, 0, 0, [], .invokevirtual 223),
  (0, 74, 3, 88, 0, [], .ifCond .le 14),
  (0, 77, 1, 0, 0, [], .aload_n 0),
  (0, 78, 3, 0, 0, [], .invokevirtual 465),
  (0, 81, 3, 88, 0, [], .ifCond .eq 7),
  (0, 84, 1, 0, 1, [], .iconst 1),
  (0, 85, 3, 89, 0, [], .goto 4),
  (0, 88, 1, 0, 0, [], .iconst 0),
  (0, 89, 1, 0, 0, [], .iadd),
  (0, 90, 2, 0, 0, [], .istore 4),
  (0, 92, 3, 0, 1, [], .iinc 5 1),
  (0, 95, 3, 62, 0, [], .goto (-33)),
  (0, 98, 1, 0, 0, [], .iconst 0),
  (0, 99, 2, 0, 0, [], .istore 5),
  (0, 101, 1, 0, 0, [], .iconst 0),
  (0, 102, 2, 0, 0, [], .istore 6),
  (1, 104, 2, 0, 0, [], .iload 6),
  (0, 106, 2, 0, 20, [], .bipush 20),
  (0, 108, 3, 141, 0, [], .if_icmp .ge 33),
  (0, 111, 2, 0, 0, [], .iload 5),
  (0, 113, 1, 0, 0, [], .aload_n 0),
  (0, 114, 3, 0, 0, [], .getfield 101),
  (0, 117, 3, 0, 1619, [], .sipush 1619),
  (0, 120, 2, 0, 0, [], .iload 6),
  (0, 122, 1, 0, 0, [], .iadd),
  (0, 123, 1, 0, 0, [], .iaload),
  (0, 124, 3, 131, 0, [], .ifCond .le 7),
  (0, 127, 1, 0, 1, [], .iconst 1),
  (0, 128, 3, 132, 0, [], .goto 4),
  (0, 131, 1, 0, 0, [], .iconst 0),
  (0, 132, 1, 0, 0, [], .iadd),
  (0, 133, 2, 0, 0, [], .istore 5),
  (0, 135, 3, 0, 1, [], .iinc 6 1),
  (0, 138, 3, 104, 0, [], .goto (-34)),
  (0, 141, 1, 0, 0, [], .iload_n 3),
  (0, 142, 3, 150, 0, [], .ifCond .ne 8),
  (0, 145, 2, 0, 0, [], .iload 4),
  (0, 147, 3, 167, 0, [], .goto 20),
  (0, 150, 1, 0, 0, [], .iload_n 3),
  (0, 151, 1, 0, 1, [], .iconst 1),
  (0, 152, 3, 165, 0, [], .if_icmp .ne 13),
  (0, 155, 1, 0, 0, [], .aload_n 0),
  (0, 156, 3, 0, 1605, [], .sipush 1605),
  (0, 159, 3, 0, 0, [], .invokevirtual 326),
  (0, 162, 3, 167, 0, [], .goto 5),
  (0, 165, 2, 0, 0, [], .iload 5),
  (0, 167, 1, 0, 0, [], .ireturn)]
def L_X12_ages_104 (fu : Nat) : Nat → Nat → Int32 → Int32 → Int32 → Int32 → xM → Option (Int32 × xM)
  | 0, _, _, _, _, _, _ => none
  | n + 1, s, x3, x4, x5, x6, M =>
    if 20 ≤ x6 then
      if ¬ x3 = 0 then
        if ¬ x3 = 1 then
          (some (x5, M))
        else
          (F_X12_erased fu s 1605 M).bind fun p_1 =>
          (some (p_1.1, p_1.2))
      else
        (some (x4, M))
    else
      (gR M 12 s 17).bind fun a_2 =>
      gd (xin (1619 + x6) (gN M 20 a_2)) <|
      if (gI M 20 a_2 (xi (1619 + x6))) ≤ 0 then
        let x5_3 : Int32 := x5 + 0
        L_X12_ages_104 fu n s x3 x4 x5_3 (x6 + 1) M
      else
        let x5_4 : Int32 := x5 + 1
        L_X12_ages_104 fu n s x3 x4 x5_4 (x6 + 1) M
set_option maxRecDepth 100000 in
theorem q_X12_ages_104 (fu : Nat) (n : Nat) (s : Nat) (x3 : Int32) (x4 : Int32) (x5 : Int32) (x6 : Int32) (M : xM) :
    xrun pX12_ages flX12 koX12 nwX12 [(326, 2, 0, 0, w_X12_erased fu)] [(104, fun bc bs ls st M => xz bc bs (lR ls 0 12 fun o => o.bind fun s => lI ls 3 fun x3 => lI ls 4 fun x4 => lI ls 5 fun x5 => lI ls 6 fun x6 => xe st (L_X12_ages_104 fu n s x3 x4 x5 x6 M)))] xrtI 89 (xat 104 pX12_ages) 0 0 [(0, .inr (.inr (12, some s))), (3, .inl x3), (4, .inl x4), (5, .inl x5), (6, .inl x6)] [] M = L_X12_ages_104 fu (n + 1) s x3 x4 x5 x6 M := rfl
def L_X12_ages_62 (fu : Nat) : Nat → Nat → Int32 → Int32 → Int32 → Int32 → xM → Option (Int32 × xM)
  | 0, _, _, _, _, _, _ => none
  | n + 1, s, x2, x3, x4, x5, M =>
    if x2 ≤ x5 then
      L_X12_ages_104 fu fu s x3 x4 0 0 M
    else
      (F_X12_files fu s M).bind fun p_1 =>
      if p_1.1 ≤ 0 then
        let x4_2 : Int32 := x4 + 0
        L_X12_ages_62 fu n s x2 x3 x4_2 (x5 + 1) p_1.2
      else
        (F_X12_drawsDeed fu s p_1.2).bind fun p_3 =>
        if p_3.1 = 0 then
          let x4_4 : Int32 := x4 + 0
          L_X12_ages_62 fu n s x2 x3 x4_4 (x5 + 1) p_3.2
        else
          let x4_5 : Int32 := x4 + 1
          L_X12_ages_62 fu n s x2 x3 x4_5 (x5 + 1) p_3.2
set_option maxRecDepth 100000 in
theorem q_X12_ages_62 (fu : Nat) (n : Nat) (s : Nat) (x2 : Int32) (x3 : Int32) (x4 : Int32) (x5 : Int32) (M : xM) :
    xrun pX12_ages flX12 koX12 nwX12 [(223, 1, 0, 0, w_X12_files fu), (465, 1, 0, 0, w_X12_drawsDeed fu)] [(62, fun bc bs ls st M => xz bc bs (lR ls 0 12 fun o => o.bind fun s => lI ls 2 fun x2 => lI ls 3 fun x3 => lI ls 4 fun x4 => lI ls 5 fun x5 => xe st (L_X12_ages_62 fu n s x2 x3 x4 x5 M))),
    (104, fun bc bs ls st M => xz bc bs (lR ls 0 12 fun o => o.bind fun s => lI ls 3 fun x3 => lI ls 4 fun x4 => lI ls 5 fun x5 => lI ls 6 fun x6 => xe st (L_X12_ages_104 fu fu s x3 x4 x5 x6 M)))] xrtI 89 (xat 62 pX12_ages) 0 0 [(0, .inr (.inr (12, some s))), (2, .inl x2), (3, .inl x3), (4, .inl x4), (5, .inl x5)] [] M = L_X12_ages_62 fu (n + 1) s x2 x3 x4 x5 M := rfl
def F_X12_ages (fu : Nat) (s : Nat) (x1 : Int32) (x2 : Int32) (x3 : Int32) (M : xM) : Option (Int32 × xM) :=
  let M_1 := sI M 12 s 0 0
  (F_X12_within fu x1 0 9999 M_1).bind fun p_2 =>
  if p_2.1 = 0 then
    (some ((-1), p_2.2))
  else
    (F_X12_within fu x2 1 99 p_2.2).bind fun p_3 =>
    if p_3.1 = 0 then
      (some ((-1), p_3.2))
    else
      (F_X12_within fu x3 0 2 p_3.2).bind fun p_4 =>
      if p_4.1 = 0 then
        (some ((-1), p_4.2))
      else
        (gR p_4.2 12 s 17).bind fun a_5 =>
        gd (xin 2 (gN p_4.2 20 a_5)) <|
        if ¬ (gI p_4.2 20 a_5 (xi 2)) = 0 then
          (F_X12_tries fu s p_4.2).bind fun p_6 =>
          let M_7 := sL p_6 12 s 28 (Int32.toInt64 x1)
          L_X12_ages_62 fu fu s x2 x3 0 0 M_7
        else
          (some ((-1), p_4.2))
set_option maxRecDepth 100000 in
theorem q_X12_ages (fu : Nat) (s : Nat) (x1 : Int32) (x2 : Int32) (x3 : Int32) (M : xM) :
    xrun pX12_ages flX12 koX12 nwX12 [(380, 3, 0, 0, w_X12_within fu), (437, 1, 0, 0, w_X12_tries fu)] [(62, fun bc bs ls st M => xz bc bs (lR ls 0 12 fun o => o.bind fun s => lI ls 2 fun x2 => lI ls 3 fun x3 => lI ls 4 fun x4 => lI ls 5 fun x5 => xe st (L_X12_ages_62 fu fu s x2 x3 x4 x5 M)))] xrtI 89 (xat 0 pX12_ages) 0 0 [(0, .inr (.inr (12, some s))), (1, .inl x1), (2, .inl x2), (3, .inl x3)] [] M = F_X12_ages fu s x1 x2 x3 M := rfl
def w_X12_ages (fu : Nat) {ρ : Type} (as : List xV) (M : xM) (k : Option xV → xM → Option ρ) : Option ρ := pR 12 as fun o as => o.bind fun s => pI as fun x1 as => pI as fun x2 as => pI as fun x3 as => xe as ((F_X12_ages fu s x1 x2 x3 M).bind fun p => k (some (.inl p.1)) p.2)
def pX12_finds : List xE := [(0, 0, 1, 0, 0, [], .aload_n 0),
  (0, 1, 3, 0, 0, [], .invokevirtual 437),
  (0, 4, 1, 0, 0, [], .aload_n 0),
  (0, 5, 3, 0, 1605, [], .sipush 1605),
  (0, 8, 3, 0, 0, [], .invokevirtual 393),
  (0, 11, 1, 0, 0, [], .pop),
  (0, 12, 1, 0, 0, [], .return_)]
def F_X12_finds (fu : Nat) (s : Nat) (M : xM) : Option xM :=
  (F_X12_tries fu s M).bind fun p_1 =>
  (F_X12_mounts fu s 1605 p_1).bind fun p_2 =>
  some p_2.2
set_option maxRecDepth 100000 in
theorem q_X12_finds (fu : Nat) (s : Nat) (M : xM) :
    xrun pX12_finds flX12 koX12 nwX12 [(393, 2, 0, 0, w_X12_mounts fu), (437, 1, 0, 0, w_X12_tries fu)] [] xrtV 9 (xat 0 pX12_finds) 0 0 [(0, .inr (.inr (12, some s)))] [] M = F_X12_finds fu s M := rfl
def w_X12_finds (fu : Nat) {ρ : Type} (as : List xV) (M : xM) (k : Option xV → xM → Option ρ) : Option ρ := pR 12 as fun o as => o.bind fun s => xe as ((F_X12_finds fu s M).bind fun p => k none p)
def pX12_agrees : List xE := [(0, 0, 1, 0, 0, [], .aload_n 0),
  (0, 1, 1, 0, 0, [], .iconst 0),
  (0, 2, 3, 0, 0, [], .putfield 1),
  (0, 5, 1, 0, 0, [], .aload_n 0),
  (0, 6, 3, 0, 0, [], .invokevirtual 440),
  (0, 9, 1, 0, 1, [], .iconst 1),
  (0, 10, 1, 0, 0, [], .istore_n 1),
  (0, 11, 1, 0, 0, [], .iconst 0),
  (0, 12, 1, 0, 0, [], .istore_n 2),
  (1, 13, 1, 0, 0, [], .iload_n 2),
  (0, 14, 2, 0, 20, [], .bipush 20),
  (0, 16, 3, 72, 0, [], .if_icmp .ge 56),
  (0, 19, 1, 0, 0, [], .iload_n 1),
  (0, 20, 3, 64, 0, [], .ifCond .eq 44),
  (0, 23, 1, 0, 0, [], .aload_n 0),
  (0, 24, 3, 0, 0, [], .getfield 101),
  (0, 27, 3, 0, 1619, [], .sipush 1619),
  (0, 30, 1, 0, 0, [], .iload_n 2),
  (0, 31, 1, 0, 0, [], .iadd),
  (0, 32, 1, 0, 0, [], .iaload),
  (0, 33, 1, 0, 0, [], .aload_n 0),
  (0, 34, 1, 0, 0, [], .iconst 0),
  (0, 35, 1, 0, 0, [], .iload_n 2),
  (0, 36, 1, 0, 4, [], .iconst 4),
  (0, 37, 1, 0, 0, [], .idiv),
  (0, 38, 3, 0, 0, [], .invokevirtual 270),
  (0, 41, 3, 48, 0, [], .ifCond .eq 7),
  (0, 44, 1, 0, 0, [], .iconst 0),
  (0, 45, 3, 57, 0, [], .goto 12),
  (0, 48, 1, 0, 0, [], .aload_n 0),
  (0, 49, 3, 0, 0, [], .getfield 101),
  (0, 52, 2, 0, 14, [], .bipush 14),
  (0, 54, 1, 0, 0, [], .iload_n 2),
  (0, 55, 1, 0, 0, [], .iadd),
  (0, 56, 1, 0, 0, [], .iaload),
  (1, 57, 3, 64, 0, [], .if_icmp .ne 7),
  (0, 60, 1, 0, 1, [], .iconst 1),
  (0, 61, 3, 65, 0, [], .goto 4),
  (0, 64, 1, 0, 0, [], .iconst 0),
  (0, 65, 1, 0, 0, [], .istore_n 1),
  (0, 66, 3, 0, 1, [], .iinc 2 1),
  (0, 69, 3, 13, 0, [], .goto (-56)),
  (0, 72, 1, 0, 0, [], .iload_n 1),
  (0, 73, 1, 0, 0, [], .ireturn)]
def J_X12_agrees_57 (fu : Nat) (k13 : Nat → Int32 → Int32 → xM → Option (Int32 × xM)) (s : Nat) (x2 : Int32) (y0 : Int32) (y1 : Int32) (M : xM) : Option (Int32 × xM) :=
  if ¬ y1 = y0 then
    k13 s 0 (x2 + 1) M
  else
    k13 s 1 (x2 + 1) M
set_option maxRecDepth 100000 in
theorem q_X12_agrees_57 (fu : Nat) (k13 : Nat → Int32 → Int32 → xM → Option (Int32 × xM)) (s : Nat) (x2 : Int32) (y0 : Int32) (y1 : Int32) (M : xM) :
    xrun pX12_agrees flX12 koX12 nwX12 [] [(13, fun bc bs ls st M => xz bc bs (lR ls 0 12 fun o => o.bind fun s => lI ls 1 fun x1 => lI ls 2 fun x2 => xe st (k13 s x1 x2 M)))] xrtZ 46 (xat 57 pX12_agrees) 0 0 [(0, .inr (.inr (12, some s))), (2, .inl x2)] [.inl y0, .inl y1] M = J_X12_agrees_57 fu k13 s x2 y0 y1 M := rfl
def L_X12_agrees_13 (fu : Nat) : Nat → Nat → Int32 → Int32 → xM → Option (Int32 × xM)
  | 0, _, _, _, _ => none
  | n + 1, s, x1, x2, M =>
    if 20 ≤ x2 then
      gd (xbool x1) (some (x1, M))
    else
      if x1 = 0 then
        L_X12_agrees_13 fu n s 0 (x2 + 1) M
      else
        (gR M 12 s 17).bind fun a_1 =>
        gd (xin (1619 + x2) (gN M 20 a_1)) <|
        gd (!((4 : Int32) == 0)) <|
        (F_X12_isOrphan fu s 0 (x2 / 4) M).bind fun p_2 =>
        if p_2.1 = 0 then
          (gR p_2.2 12 s 17).bind fun a_3 =>
          gd (xin (14 + x2) (gN p_2.2 20 a_3)) <|
          J_X12_agrees_57 fu (L_X12_agrees_13 fu n) s x2 (gI p_2.2 20 a_3 (xi (14 + x2))) (gI M 20 a_1 (xi (1619 + x2))) p_2.2
        else
          J_X12_agrees_57 fu (L_X12_agrees_13 fu n) s x2 0 (gI M 20 a_1 (xi (1619 + x2))) p_2.2
set_option maxRecDepth 100000 in
theorem q_X12_agrees_13 (fu : Nat) (n : Nat) (s : Nat) (x1 : Int32) (x2 : Int32) (M : xM) :
    xrun pX12_agrees flX12 koX12 nwX12 [(270, 3, 0, 0, w_X12_isOrphan fu)] [(13, fun bc bs ls st M => xz bc bs (lR ls 0 12 fun o => o.bind fun s => lI ls 1 fun x1 => lI ls 2 fun x2 => xe st (L_X12_agrees_13 fu n s x1 x2 M))),
    (57, fun bc bs ls st M => xz bc bs (lR ls 0 12 fun o => o.bind fun s => lI ls 2 fun x2 => pI st fun y0 st => pI st fun y1 st => xe st (J_X12_agrees_57 fu (L_X12_agrees_13 fu n) s x2 y0 y1 M)))] xrtZ 46 (xat 13 pX12_agrees) 0 0 [(0, .inr (.inr (12, some s))), (1, .inl x1), (2, .inl x2)] [] M = L_X12_agrees_13 fu (n + 1) s x1 x2 M := rfl
def F_X12_agrees (fu : Nat) (s : Nat) (M : xM) : Option (Int32 × xM) :=
  let M_1 := sI M 12 s 0 0
  (F_X12_finds fu s M_1).bind fun p_2 =>
  L_X12_agrees_13 fu fu s 1 0 p_2
set_option maxRecDepth 100000 in
theorem q_X12_agrees (fu : Nat) (s : Nat) (M : xM) :
    xrun pX12_agrees flX12 koX12 nwX12 [(440, 1, 0, 0, w_X12_finds fu)] [(13, fun bc bs ls st M => xz bc bs (lR ls 0 12 fun o => o.bind fun s => lI ls 1 fun x1 => lI ls 2 fun x2 => xe st (L_X12_agrees_13 fu fu s x1 x2 M)))] xrtZ 46 (xat 0 pX12_agrees) 0 0 [(0, .inr (.inr (12, some s)))] [] M = F_X12_agrees fu s M := rfl
def w_X12_agrees (fu : Nat) {ρ : Type} (as : List xV) (M : xM) (k : Option xV → xM → Option ρ) : Option ρ := pR 12 as fun o as => o.bind fun s => xe as ((F_X12_agrees fu s M).bind fun p => k (some (.inl p.1)) p.2)
def pX12_areSame : List xE := [(0, 0, 1, 0, 0, [], .aload_n 0),
  (0, 1, 1, 0, 0, [], .iload_n 1),
  (0, 2, 1, 0, 0, [], .laload),
  (0, 3, 1, 0, 0, [], .aload_n 2),
  (0, 4, 1, 0, 0, [], .iload_n 3),
  (0, 5, 1, 0, 0, [], .laload),
  (0, 6, 1, 0, 0, [], .lcmp),
  (0, 7, 3, 42, 0, [], .ifCond .ne 35),
  (0, 10, 1, 0, 0, [], .aload_n 0),
  (0, 11, 1, 0, 0, [], .iload_n 1),
  (0, 12, 1, 0, 1, [], .iconst 1),
  (0, 13, 1, 0, 0, [], .iadd),
  (0, 14, 1, 0, 0, [], .laload),
  (0, 15, 1, 0, 0, [], .aload_n 2),
  (0, 16, 1, 0, 0, [], .iload_n 3),
  (0, 17, 1, 0, 1, [], .iconst 1),
  (0, 18, 1, 0, 0, [], .iadd),
  (0, 19, 1, 0, 0, [], .laload),
  (0, 20, 1, 0, 0, [], .lcmp),
  (0, 21, 3, 42, 0, [], .ifCond .ne 21),
  (0, 24, 1, 0, 0, [], .aload_n 0),
  (0, 25, 1, 0, 0, [], .iload_n 1),
  (0, 26, 1, 0, 2, [], .iconst 2),
  (0, 27, 1, 0, 0, [], .iadd),
  (0, 28, 1, 0, 0, [], .laload),
  (0, 29, 1, 0, 0, [], .aload_n 2),
  (0, 30, 1, 0, 0, [], .iload_n 3),
  (0, 31, 1, 0, 2, [], .iconst 2),
  (0, 32, 1, 0, 0, [], .iadd),
  (0, 33, 1, 0, 0, [], .laload),
  (0, 34, 1, 0, 0, [], .lcmp),
  (0, 35, 3, 42, 0, [], .ifCond .ne 7),
  (0, 38, 1, 0, 1, [], .iconst 1),
  (0, 39, 3, 43, 0, [], .goto 4),
  (0, 42, 1, 0, 0, [], .iconst 0),
  (0, 43, 1, 0, 0, [], .ireturn)]
def F_X12_areSame (fu : Nat) (x0 : Option Nat) (x1 : Int32) (x2 : Option Nat) (x3 : Int32) (M : xM) : Option (Int32 × xM) :=
  x0.bind fun a_1 =>
  gd (xin x1 (gN M 21 a_1)) <|
  x2.bind fun a_2 =>
  gd (xin x3 (gN M 21 a_2)) <|
  if ¬ (lg_cmp (gL M 21 a_1 (xi x1)) (gL M 21 a_2 (xi x3))) = 0 then
    gd (xbool 0) (some (0, M))
  else
    x0.bind fun a_3 =>
    gd (xin (x1 + 1) (gN M 21 a_3)) <|
    x2.bind fun a_4 =>
    gd (xin (x3 + 1) (gN M 21 a_4)) <|
    if ¬ (lg_cmp (gL M 21 a_3 (xi (x1 + 1))) (gL M 21 a_4 (xi (x3 + 1)))) = 0 then
      gd (xbool 0) (some (0, M))
    else
      x0.bind fun a_5 =>
      gd (xin (x1 + 2) (gN M 21 a_5)) <|
      x2.bind fun a_6 =>
      gd (xin (x3 + 2) (gN M 21 a_6)) <|
      if ¬ (lg_cmp (gL M 21 a_5 (xi (x1 + 2))) (gL M 21 a_6 (xi (x3 + 2)))) = 0 then
        gd (xbool 0) (some (0, M))
      else
        gd (xbool 1) (some (1, M))
set_option maxRecDepth 100000 in
theorem q_X12_areSame (fu : Nat) (x0 : Option Nat) (x1 : Int32) (x2 : Option Nat) (x3 : Int32) (M : xM) :
    xrun pX12_areSame flX12 koX12 nwX12 [] [] xrtZ 38 (xat 0 pX12_areSame) 0 0 [(0, .inr (.inr (21, x0))), (1, .inl x1), (2, .inr (.inr (21, x2))), (3, .inl x3)] [] M = F_X12_areSame fu x0 x1 x2 x3 M := rfl
def w_X12_areSame (fu : Nat) {ρ : Type} (as : List xV) (M : xM) (k : Option xV → xM → Option ρ) : Option ρ := pR 21 as fun x0 as => pI as fun x1 as => pR 21 as fun x2 as => pI as fun x3 as => xe as ((F_X12_areSame fu x0 x1 x2 x3 M).bind fun p => k (some (.inl p.1)) p.2)
def pX12_baseNow : List xE := [(0, 0, 1, 0, 0, [], .aload_n 0),
  (0, 1, 1, 0, 0, [], .iconst 0),
  (0, 2, 3, 0, 0, [], .invokevirtual 305),
  (0, 5, 1, 0, 0, [], .aload_n 0),
  (0, 6, 3, 0, 0, [], .invokevirtual 296),
  (0, 9, 1, 0, 0, [], .ireturn)]
def F_X12_baseNow (fu : Nat) (s : Nat) (M : xM) : Option (Int32 × xM) :=
  (F_X12_looks fu s 0 M).bind fun p_1 =>
  (F_X12_base fu s p_1).bind fun p_2 =>
  (some (p_2.1, p_2.2))
set_option maxRecDepth 100000 in
theorem q_X12_baseNow (fu : Nat) (s : Nat) (M : xM) :
    xrun pX12_baseNow flX12 koX12 nwX12 [(296, 1, 0, 0, w_X12_base fu), (305, 2, 0, 0, w_X12_looks fu)] [] xrtI 8 (xat 0 pX12_baseNow) 0 0 [(0, .inr (.inr (12, some s)))] [] M = F_X12_baseNow fu s M := rfl
def w_X12_baseNow (fu : Nat) {ρ : Type} (as : List xV) (M : xM) (k : Option xV → xM → Option ρ) : Option ρ := pR 12 as fun o as => o.bind fun s => xe as ((F_X12_baseNow fu s M).bind fun p => k (some (.inl p.1)) p.2)
def pX12_begins : List xE := [(0, 0, 1, 0, 0, [], .aload_n 0),
  (0, 1, 1, 0, 0, [], .iconst 0),
  (0, 2, 3, 0, 0, [], .invokevirtual 249),
  (0, 5, 1, 0, 0, [], .aload_n 0),
  (0, 6, 3, 0, 0, [], .getfield 101),
  (0, 9, 3, 0, 502, [], .sipush 502),
  (0, 12, 1, 0, 0, [], .iconst 0),
  (0, 13, 1, 0, 0, [], .iastore),
  (0, 14, 1, 0, 0, [], .aload_n 0),
  (0, 15, 3, 0, 0, [], .getfield 92),
  (0, 18, 1, 0, 0, [], .iconst 0),
  (0, 19, 1, 0, 0, [], .iconst 0),
  (0, 20, 1, 0, 0, [], .iastore),
  (0, 21, 1, 0, 0, [], .aload_n 0),
  (0, 22, 1, 0, 0, [], .iconst 0),
  (0, 23, 3, 0, 0, [], .putfield 219),
  (0, 26, 1, 0, 0, [], .aload_n 0),
  (0, 27, 3, 0, 0, [], .getfield 104),
  (0, 30, 1, 0, 0, [], .iconst 0),
  (0, 31, 1, 0, 0, [], .iconst 0),
  (0, 32, 1, 0, 0, [], .bastore),
  (0, 33, 1, 0, 0, [], .aload_n 0),
  (0, 34, 3, 0, 0, [], .getfield 104),
  (0, 37, 1, 0, 1, [], .iconst 1),
  (0, 38, 1, 0, 0, [], .iconst 0),
  (0, 39, 1, 0, 0, [], .bastore),
  (0, 40, 1, 0, 0, [], .return_)]
def F_X12_begins (fu : Nat) (s : Nat) (M : xM) : Option xM :=
  (F_X12_starts fu s 0 M).bind fun p_1 =>
  (gR p_1 12 s 17).bind fun a_2 =>
  gd (xin 502 (gN p_1 20 a_2)) <|
  let M_3 := sI p_1 20 a_2 (xi 502) 0
  (gR M_3 12 s 14).bind fun a_4 =>
  gd (xin 0 (gN M_3 20 a_4)) <|
  let M_5 := sI M_3 20 a_4 (xi 0) 0
  gd (xbool 0) <|
  let M_6 := sI M_5 12 s 26 0
  (gR M_6 12 s 18).bind fun a_7 =>
  gd (xin 0 (gN M_6 22 a_7)) <|
  gd (xbool 0) <|
  let M_8 := sI M_6 22 a_7 (xi 0) 0
  (gR M_8 12 s 18).bind fun a_9 =>
  gd (xin 1 (gN M_8 22 a_9)) <|
  gd (xbool 0) <|
  let M_10 := sI M_8 22 a_9 (xi 1) 0
  some M_10
set_option maxRecDepth 100000 in
theorem q_X12_begins (fu : Nat) (s : Nat) (M : xM) :
    xrun pX12_begins flX12 koX12 nwX12 [(249, 2, 0, 0, w_X12_starts fu)] [] xrtV 29 (xat 0 pX12_begins) 0 0 [(0, .inr (.inr (12, some s)))] [] M = F_X12_begins fu s M := rfl
def w_X12_begins (fu : Nat) {ρ : Type} (as : List xV) (M : xM) (k : Option xV → xM → Option ρ) : Option ρ := pR 12 as fun o as => o.bind fun s => xe as ((F_X12_begins fu s M).bind fun p => k none p)
def pX12_block : List xE := [(0, 0, 1, 0, 0, [], .aload_n 0),
  (0, 1, 1, 0, 0, [], .iconst 0),
  (0, 2, 3, 0, 0, [], .putfield 1),
  (0, 5, 1, 0, 0, [], .iload_n 1),
  (0, 6, 1, 0, 0, [], .iconst 0),
  (0, 7, 1, 0, 0, [], .aload_n 0),
  (0, 8, 3, 0, 0, [], .invokevirtual 252),
  (0, 11, 1, 0, 1, [], .iconst 1),
  (0, 12, 1, 0, 0, [], .isub),
  (0, 13, 3, 0, 0, [], .invokestatic 380),
  (0, 16, 3, 28, 0, [], .ifCond .eq 12),
  (0, 19, 1, 0, 0, [], .iload_n 2),
  (0, 20, 1, 0, 0, [], .iconst 0),
  (0, 21, 1, 0, 4, [], .iconst 4),
  (0, 22, 3, 0, 0, [], .invokestatic 380),
  (0, 25, 3, 30, 0, [], .ifCond .ne 5),
  (0, 28, 1, 0, (-1), [], .iconst (-1)),
  (0, 29, 1, 0, 0, [], .ireturn),
  (0, 30, 1, 0, 0, [], .iload_n 2),
  (0, 31, 1, 0, 3, [], .iconst 3),
  (0, 32, 3, 54, 0, [], .if_icmp .ge 22),
  (0, 35, 1, 0, 0, [], .aload_n 0),
  (0, 36, 1, 0, 0, [], .iconst 0),
  (0, 37, 1, 0, 0, [], .aload_n 0),
  (0, 38, 3, 0, 0, [], .invokevirtual 255),
  (0, 41, 1, 0, 0, [], .iload_n 1),
  (0, 42, 1, 0, 0, [], .imul),
  (0, 43, 1, 0, 0, [], .aload_n 0),
  (0, 44, 3, 0, 0, [], .invokevirtual 255),
  (0, 47, 1, 0, 0, [], .iload_n 2),
  (0, 48, 3, 0, 0, [], .invokevirtual 329),
  (0, 51, 3, 86, 0, [], .goto 35),
  (0, 54, 1, 0, 0, [], .iload_n 2),
  (0, 55, 1, 0, 3, [], .iconst 3),
  (0, 56, 3, 71, 0, [], .if_icmp .ne 15),
  (0, 59, 1, 0, 0, [], .aload_n 0),
  (0, 60, 3, 0, 0, [], .getfield 101),
  (0, 63, 2, 0, 8, [], .bipush 8),
  (0, 65, 1, 0, 0, [], .iload_n 1),
  (0, 66, 1, 0, 0, [], .iadd),
  (0, 67, 1, 0, 0, [], .iaload),
  (0, 68, 3, 86, 0, [], .goto 18),
  (0, 71, 1, 0, 0, [], .aload_n 0),
  (0, 72, 3, 0, 0, [], .getfield 101),
  (0, 75, 1, 0, 1, [], .iconst 1),
  (0, 76, 1, 0, 0, [], .iaload),
  (0, 77, 1, 0, 0, [], .iload_n 1),
  (0, 78, 3, 85, 0, [], .if_icmp .ne 7),
  (0, 81, 1, 0, 1, [], .iconst 1),
  (0, 82, 3, 86, 0, [], .goto 4),
  (0, 85, 1, 0, 0, [], .iconst 0),
  (0, 86, 1, 0, 0, [], .ireturn)]
def F_X12_block (fu : Nat) (s : Nat) (x1 : Int32) (x2 : Int32) (M : xM) : Option (Int32 × xM) :=
  let M_1 := sI M 12 s 0 0
  (F_X12_blocks fu s M_1).bind fun p_2 =>
  (F_X12_within fu x1 0 (p_2.1 - 1) p_2.2).bind fun p_3 =>
  if p_3.1 = 0 then
    (some ((-1), p_3.2))
  else
    (F_X12_within fu x2 0 4 p_3.2).bind fun p_4 =>
    if ¬ p_4.1 = 0 then
      if 3 ≤ x2 then
        if ¬ x2 = 3 then
          (gR p_4.2 12 s 17).bind fun a_5 =>
          gd (xin 1 (gN p_4.2 20 a_5)) <|
          if ¬ (gI p_4.2 20 a_5 (xi 1)) = x1 then
            (some (0, p_4.2))
          else
            (some (1, p_4.2))
        else
          (gR p_4.2 12 s 17).bind fun a_6 =>
          gd (xin (8 + x1) (gN p_4.2 20 a_6)) <|
          (some (gI p_4.2 20 a_6 (xi (8 + x1)), p_4.2))
      else
        (F_X12_wide fu s p_4.2).bind fun p_7 =>
        (F_X12_wide fu s p_7.2).bind fun p_8 =>
        (F_X12_tally fu s 0 (p_7.1 * x1) p_8.1 x2 p_8.2).bind fun p_9 =>
        (some (p_9.1, p_9.2))
    else
      (some ((-1), p_4.2))
set_option maxRecDepth 100000 in
theorem q_X12_block (fu : Nat) (s : Nat) (x1 : Int32) (x2 : Int32) (M : xM) :
    xrun pX12_block flX12 koX12 nwX12 [(252, 1, 0, 0, w_X12_blocks fu), (255, 1, 0, 0, w_X12_wide fu), (329, 5, 0, 0, w_X12_tally fu), (380, 3, 0, 0, w_X12_within fu)] [] xrtI 54 (xat 0 pX12_block) 0 0 [(0, .inr (.inr (12, some s))), (1, .inl x1), (2, .inl x2)] [] M = F_X12_block fu s x1 x2 M := rfl
def w_X12_block (fu : Nat) {ρ : Type} (as : List xV) (M : xM) (k : Option xV → xM → Option ρ) : Option ρ := pR 12 as fun o as => o.bind fun s => pI as fun x1 as => pI as fun x2 as => xe as ((F_X12_block fu s x1 x2 M).bind fun p => k (some (.inl p.1)) p.2)
def pX12_isOf : List xE := [(0, 0, 1, 0, 0, [], .aload_n 0),
  (0, 1, 1, 0, 0, [], .iconst 0),
  (0, 2, 1, 0, 0, [], .iload_n 1),
  (0, 3, 3, 0, 0, [], .invokevirtual 290),
  (0, 6, 1, 0, 1, [], .iconst 1),
  (0, 7, 3, 46, 0, [], .if_icmp .ne 39),
  (0, 10, 1, 0, 0, [], .aload_n 0),
  (0, 11, 3, 0, 0, [], .getfield 101),
  (0, 14, 1, 0, 0, [], .iconst 0),
  (0, 15, 1, 0, 0, [], .iload_n 1),
  (0, 16, 3, 0, 0, [], .invokestatic 264),
  (0, 19, 1, 0, 2, [], .iconst 2),
  (0, 20, 1, 0, 0, [], .iadd),
  (0, 21, 1, 0, 0, [], .iaload),
  (0, 22, 1, 0, 0, [], .iload_n 2),
  (0, 23, 3, 46, 0, [], .if_icmp .ne 23),
  (0, 26, 1, 0, 0, [], .aload_n 0),
  (0, 27, 3, 0, 0, [], .getfield 101),
  (0, 30, 1, 0, 0, [], .iconst 0),
  (0, 31, 1, 0, 0, [], .iload_n 1),
  (0, 32, 3, 0, 0, [], .invokestatic 264),
  (0, 35, 1, 0, 3, [], .iconst 3),
  (0, 36, 1, 0, 0, [], .iadd),
  (0, 37, 1, 0, 0, [], .iaload),
  (0, 38, 1, 0, 0, [], .iload_n 3),
  (0, 39, 3, 46, 0, [], .if_icmp .ne 7),
  (0, 42, 1, 0, 1, [], .iconst 1),
  (0, 43, 3, 47, 0, [], .goto 4),
  (0, 46, 1, 0, 0, [], .iconst 0),
  (0, 47, 1, 0, 0, [], .ireturn)]
def F_X12_isOf (fu : Nat) (s : Nat) (x1 : Int32) (x2 : Int32) (x3 : Int32) (M : xM) : Option (Int32 × xM) :=
  (F_X12_typeOf fu s 0 x1 M).bind fun p_1 =>
  if ¬ p_1.1 = 1 then
    gd (xbool 0) (some (0, p_1.2))
  else
    (F_X12_slotAt fu 0 x1 p_1.2).bind fun p_2 =>
    (gR p_1.2 12 s 17).bind fun a_3 =>
    gd (xin (p_2.1 + 2) (gN p_2.2 20 a_3)) <|
    if ¬ (gI p_2.2 20 a_3 (xi (p_2.1 + 2))) = x2 then
      gd (xbool 0) (some (0, p_2.2))
    else
      (F_X12_slotAt fu 0 x1 p_2.2).bind fun p_4 =>
      (gR p_2.2 12 s 17).bind fun a_5 =>
      gd (xin (p_4.1 + 3) (gN p_4.2 20 a_5)) <|
      if ¬ (gI p_4.2 20 a_5 (xi (p_4.1 + 3))) = x3 then
        gd (xbool 0) (some (0, p_4.2))
      else
        gd (xbool 1) (some (1, p_4.2))
set_option maxRecDepth 100000 in
theorem q_X12_isOf (fu : Nat) (s : Nat) (x1 : Int32) (x2 : Int32) (x3 : Int32) (M : xM) :
    xrun pX12_isOf flX12 koX12 nwX12 [(264, 2, 0, 0, w_X12_slotAt fu), (290, 3, 0, 0, w_X12_typeOf fu)] [] xrtZ 32 (xat 0 pX12_isOf) 0 0 [(0, .inr (.inr (12, some s))), (1, .inl x1), (2, .inl x2), (3, .inl x3)] [] M = F_X12_isOf fu s x1 x2 x3 M := rfl
def w_X12_isOf (fu : Nat) {ρ : Type} (as : List xV) (M : xM) (k : Option xV → xM → Option ρ) : Option ρ := pR 12 as fun o as => o.bind fun s => pI as fun x1 as => pI as fun x2 as => pI as fun x3 as => xe as ((F_X12_isOf fu s x1 x2 x3 M).bind fun p => k (some (.inl p.1)) p.2)
def pX12_chain : List xE := [(0, 0, 1, 0, 0, [], .aload_n 0),
  (0, 1, 1, 0, 0, [], .iconst 0),
  (0, 2, 3, 0, 0, [], .putfield 1),
  (0, 5, 1, 0, 0, [], .aload_n 0),
  (0, 6, 1, 0, 0, [], .iload_n 1),
  (0, 7, 1, 0, 0, [], .iload_n 2),
  (0, 8, 3, 0, 0, [], .invokevirtual 345),
  (0, 11, 3, 16, 0, [], .ifCond .ne 5),
  (0, 14, 1, 0, (-1), [], .iconst (-1)),
  (0, 15, 1, 0, 0, [], .ireturn),
  (0, 16, 1, 0, 0, [], .iconst 0),
  (0, 17, 1, 0, 0, [], .istore_n 3),
  (0, 18, 1, 0, 0, [], .iconst 0),
  (0, 19, 2, 0, 0, [], .istore 4),
  (1, 21, 2, 0, 0, [], .iload 4),
  (0, 23, 1, 0, 0, [], .aload_n 0),
  (0, 24, 3, 0, 0, [], .invokevirtual 277),
  (0, 27, 3, 65, 0, [], .if_icmp .ge 38),
  (0, 30, 1, 0, 0, [], .iload_n 3),
  (0, 31, 1, 0, 0, [], .aload_n 0),
  (0, 32, 2, 0, 0, [], .iload 4),
  (0, 34, 1, 0, 0, [], .iload_n 1),
  (0, 35, 1, 0, 0, [], .iload_n 2),
  (0, 36, 3, 0, 0, [], .invokevirtual 447),
  (0, 39, 3, 56, 0, [], .ifCond .eq 17),
  (0, 42, 1, 0, 0, [], .aload_n 0),
  (0, 43, 1, 0, 0, [], .iconst 0),
  (0, 44, 2, 0, 0, [], .iload 4),
  (0, 46, 3, 0, 0, [], .invokevirtual 299),
  (0, 49, 3, 56, 0, [], .ifCond .eq 7),
  (0, 52, 1, 0, 1, [], .iconst 1),
  (0, 53, 3, 57, 0, [], .goto 4),
  (0, 56, 1, 0, 0, [], .iconst 0),
  (0, 57, 1, 0, 0, [], .iadd),
  (0, 58, 1, 0, 0, [], .istore_n 3),
  (0, 59, 3, 0, 1, [], .iinc 4 1),
  (0, 62, 3, 21, 0, [], .goto (-41)),
  (0, 65, 1, 0, 0, [], .iload_n 3),
  (0, 66, 1, 0, 0, [], .ireturn)]
def L_X12_chain_21 (fu : Nat) : Nat → Nat → Int32 → Int32 → Int32 → Int32 → xM → Option (Int32 × xM)
  | 0, _, _, _, _, _, _ => none
  | n + 1, s, x1, x2, x3, x4, M =>
    (F_X12_allSlots fu s M).bind fun p_1 =>
    if p_1.1 ≤ x4 then
      (some (x3, p_1.2))
    else
      (F_X12_isOf fu s x4 x1 x2 p_1.2).bind fun p_2 =>
      if p_2.1 = 0 then
        let x3_3 : Int32 := x3 + 0
        L_X12_chain_21 fu n s x1 x2 x3_3 (x4 + 1) p_2.2
      else
        (F_X12_isFirst fu s 0 x4 p_2.2).bind fun p_4 =>
        if p_4.1 = 0 then
          let x3_5 : Int32 := x3 + 0
          L_X12_chain_21 fu n s x1 x2 x3_5 (x4 + 1) p_4.2
        else
          let x3_6 : Int32 := x3 + 1
          L_X12_chain_21 fu n s x1 x2 x3_6 (x4 + 1) p_4.2
set_option maxRecDepth 100000 in
theorem q_X12_chain_21 (fu : Nat) (n : Nat) (s : Nat) (x1 : Int32) (x2 : Int32) (x3 : Int32) (x4 : Int32) (M : xM) :
    xrun pX12_chain flX12 koX12 nwX12 [(277, 1, 0, 0, w_X12_allSlots fu), (299, 3, 0, 0, w_X12_isFirst fu), (447, 4, 0, 0, w_X12_isOf fu)] [(21, fun bc bs ls st M => xz bc bs (lR ls 0 12 fun o => o.bind fun s => lI ls 1 fun x1 => lI ls 2 fun x2 => lI ls 3 fun x3 => lI ls 4 fun x4 => xe st (L_X12_chain_21 fu n s x1 x2 x3 x4 M)))] xrtI 41 (xat 21 pX12_chain) 0 0 [(0, .inr (.inr (12, some s))), (1, .inl x1), (2, .inl x2), (3, .inl x3), (4, .inl x4)] [] M = L_X12_chain_21 fu (n + 1) s x1 x2 x3 x4 M := rfl
def F_X12_chain (fu : Nat) (s : Nat) (x1 : Int32) (x2 : Int32) (M : xM) : Option (Int32 × xM) :=
  let M_1 := sI M 12 s 0 0
  (F_X12_isPage fu s x1 x2 M_1).bind fun p_2 =>
  if ¬ p_2.1 = 0 then
    L_X12_chain_21 fu fu s x1 x2 0 0 p_2.2
  else
    (some ((-1), p_2.2))
set_option maxRecDepth 100000 in
theorem q_X12_chain (fu : Nat) (s : Nat) (x1 : Int32) (x2 : Int32) (M : xM) :
    xrun pX12_chain flX12 koX12 nwX12 [(345, 3, 0, 0, w_X12_isPage fu)] [(21, fun bc bs ls st M => xz bc bs (lR ls 0 12 fun o => o.bind fun s => lI ls 1 fun x1 => lI ls 2 fun x2 => lI ls 3 fun x3 => lI ls 4 fun x4 => xe st (L_X12_chain_21 fu fu s x1 x2 x3 x4 M)))] xrtI 41 (xat 0 pX12_chain) 0 0 [(0, .inr (.inr (12, some s))), (1, .inl x1), (2, .inl x2)] [] M = F_X12_chain fu s x1 x2 M := rfl
def w_X12_chain (fu : Nat) {ρ : Type} (as : List xV) (M : xM) (k : Option xV → xM → Option ρ) : Option ρ := pR 12 as fun o as => o.bind fun s => pI as fun x1 as => pI as fun x2 as => xe as ((F_X12_chain fu s x1 x2 M).bind fun p => k (some (.inl p.1)) p.2)
def pX12_close : List xE := [(0, 0, 1, 0, 0, [], .aload_n 0),
  (0, 1, 1, 0, 0, [], .iconst 0),
  (0, 2, 3, 0, 0, [], .putfield 1),
  (0, 5, 1, 0, 0, [], .aload_n 0),
  (0, 6, 1, 0, 0, [], .iconst 0),
  (0, 7, 1, 0, 0, [], .iload_n 1),
  (0, 8, 1, 0, 0, [], .iconst 0),
  (0, 9, 3, 0, 0, [], .invokevirtual 389),
  (0, 12, 1, 0, 0, [], .ireturn)]
def F_X12_close (fu : Nat) (s : Nat) (x1 : Int32) (M : xM) : Option (Int32 × xM) :=
  let M_1 := sI M 12 s 0 0
  (F_X12_opens fu s 0 x1 0 M_1).bind fun p_2 =>
  gd (xbool p_2.1) (some (p_2.1, p_2.2))
set_option maxRecDepth 100000 in
theorem q_X12_close (fu : Nat) (s : Nat) (x1 : Int32) (M : xM) :
    xrun pX12_close flX12 koX12 nwX12 [(389, 4, 0, 0, w_X12_opens fu)] [] xrtZ 11 (xat 0 pX12_close) 0 0 [(0, .inr (.inr (12, some s))), (1, .inl x1)] [] M = F_X12_close fu s x1 M := rfl
def w_X12_close (fu : Nat) {ρ : Type} (as : List xV) (M : xM) (k : Option xV → xM → Option ρ) : Option ρ := pR 12 as fun o as => o.bind fun s => pI as fun x1 as => xe as ((F_X12_close fu s x1 M).bind fun p => k (some (.inl p.1)) p.2)
def pX12_collect : List xE := [(0, 0, 1, 0, 0, [], .aload_n 0),
  (0, 1, 1, 0, 0, [], .iconst 0),
  (0, 2, 3, 0, 0, [], .putfield 1),
  (0, 5, 1, 0, 0, [], .aload_n 0),
  (0, 6, 1, 0, 0, [], .iconst 0),
  (0, 7, 3, 0, 0, [], .invokevirtual 342),
  (0, 10, 1, 0, 0, [], .ireturn)]
def F_X12_collect (fu : Nat) (s : Nat) (M : xM) : Option (Int32 × xM) :=
  let M_1 := sI M 12 s 0 0
  (F_X12_collects fu s 0 M_1).bind fun p_2 =>
  (some (p_2.1, p_2.2))
set_option maxRecDepth 100000 in
theorem q_X12_collect (fu : Nat) (s : Nat) (M : xM) :
    xrun pX12_collect flX12 koX12 nwX12 [(342, 2, 0, 0, w_X12_collects fu)] [] xrtI 9 (xat 0 pX12_collect) 0 0 [(0, .inr (.inr (12, some s)))] [] M = F_X12_collect fu s M := rfl
def w_X12_collect (fu : Nat) {ρ : Type} (as : List xV) (M : xM) (k : Option xV → xM → Option ρ) : Option ρ := pR 12 as fun o as => o.bind fun s => xe as ((F_X12_collect fu s M).bind fun p => k (some (.inl p.1)) p.2)
def pX12_commit : List xE := [(0, 0, 1, 0, 0, [], .aload_n 0),
  (0, 1, 1, 0, 0, [], .iconst 0),
  (0, 2, 3, 0, 0, [], .putfield 1),
  (0, 5, 1, 0, 0, [], .aload_n 0),
  (0, 6, 1, 0, 0, [], .iconst 0),
  (0, 7, 3, 0, 0, [], .invokevirtual 365),
  (0, 10, 1, 0, 0, [], .ireturn)]
def F_X12_commit (fu : Nat) (s : Nat) (M : xM) : Option (Int32 × xM) :=
  let M_1 := sI M 12 s 0 0
  (F_X12_commits fu s 0 M_1).bind fun p_2 =>
  (some (p_2.1, p_2.2))
set_option maxRecDepth 100000 in
theorem q_X12_commit (fu : Nat) (s : Nat) (M : xM) :
    xrun pX12_commit flX12 koX12 nwX12 [(365, 2, 0, 0, w_X12_commits fu)] [] xrtI 9 (xat 0 pX12_commit) 0 0 [(0, .inr (.inr (12, some s)))] [] M = F_X12_commit fu s M := rfl
def w_X12_commit (fu : Nat) {ρ : Type} (as : List xV) (M : xM) (k : Option xV → xM → Option ρ) : Option ρ := pR 12 as fun o as => o.bind fun s => xe as ((F_X12_commit fu s M).bind fun p => k (some (.inl p.1)) p.2)
def pX12_copies : List xE := [(0, 0, 1, 0, 0, [], .aload_n 0),
  (0, 1, 1, 0, 0, [], .iconst 0),
  (0, 2, 3, 0, 0, [], .putfield 1),
  (0, 5, 1, 0, 0, [], .aload_n 0),
  (0, 6, 1, 0, 0, [], .iload_n 1),
  (0, 7, 1, 0, 0, [], .iload_n 2),
  (0, 8, 3, 0, 0, [], .invokevirtual 345),
  (0, 11, 3, 16, 0, [], .ifCond .ne 5),
  (0, 14, 1, 0, (-1), [], .iconst (-1)),
  (0, 15, 1, 0, 0, [], .ireturn),
  (0, 16, 1, 0, 0, [], .iconst 0),
  (0, 17, 1, 0, 0, [], .istore_n 3),
  (0, 18, 1, 0, 0, [], .iconst 0),
  (0, 19, 2, 0, 0, [], .istore 4),
  (1, 21, 2, 0, 0, [], .iload 4),
  (0, 23, 1, 0, 0, [], .aload_n 0),
  (0, 24, 3, 0, 0, [], .invokevirtual 277),
  (0, 27, 3, 55, 0, [], .if_icmp .ge 28),
  (0, 30, 1, 0, 0, [], .iload_n 3),
  (0, 31, 1, 0, 0, [], .aload_n 0),
  (0, 32, 2, 0, 0, [], .iload 4),
  (0, 34, 1, 0, 0, [], .iload_n 1),
  (0, 35, 1, 0, 0, [], .iload_n 2),
  (0, 36, 3, 0, 0, [], .invokevirtual 447),
  (0, 39, 3, 46, 0, [], .ifCond .eq 7),
  (0, 42, 1, 0, 1, [], .iconst 1),
  (0, 43, 3, 47, 0, [], .goto 4),
  (0, 46, 1, 0, 0, [], .iconst 0),
  (0, 47, 1, 0, 0, [], .iadd),
  (0, 48, 1, 0, 0, [], .istore_n 3),
  (0, 49, 3, 0, 1, [], .iinc 4 1),
  (0, 52, 3, 21, 0, [], .goto (-31)),
  (0, 55, 1, 0, 0, [], .iload_n 3),
  (0, 56, 1, 0, 0, [], .ireturn)]
def L_X12_copies_21 (fu : Nat) : Nat → Nat → Int32 → Int32 → Int32 → Int32 → xM → Option (Int32 × xM)
  | 0, _, _, _, _, _, _ => none
  | n + 1, s, x1, x2, x3, x4, M =>
    (F_X12_allSlots fu s M).bind fun p_1 =>
    if p_1.1 ≤ x4 then
      (some (x3, p_1.2))
    else
      (F_X12_isOf fu s x4 x1 x2 p_1.2).bind fun p_2 =>
      if p_2.1 = 0 then
        let x3_3 : Int32 := x3 + 0
        L_X12_copies_21 fu n s x1 x2 x3_3 (x4 + 1) p_2.2
      else
        let x3_4 : Int32 := x3 + 1
        L_X12_copies_21 fu n s x1 x2 x3_4 (x4 + 1) p_2.2
set_option maxRecDepth 100000 in
theorem q_X12_copies_21 (fu : Nat) (n : Nat) (s : Nat) (x1 : Int32) (x2 : Int32) (x3 : Int32) (x4 : Int32) (M : xM) :
    xrun pX12_copies flX12 koX12 nwX12 [(277, 1, 0, 0, w_X12_allSlots fu), (447, 4, 0, 0, w_X12_isOf fu)] [(21, fun bc bs ls st M => xz bc bs (lR ls 0 12 fun o => o.bind fun s => lI ls 1 fun x1 => lI ls 2 fun x2 => lI ls 3 fun x3 => lI ls 4 fun x4 => xe st (L_X12_copies_21 fu n s x1 x2 x3 x4 M)))] xrtI 36 (xat 21 pX12_copies) 0 0 [(0, .inr (.inr (12, some s))), (1, .inl x1), (2, .inl x2), (3, .inl x3), (4, .inl x4)] [] M = L_X12_copies_21 fu (n + 1) s x1 x2 x3 x4 M := rfl
def F_X12_copies (fu : Nat) (s : Nat) (x1 : Int32) (x2 : Int32) (M : xM) : Option (Int32 × xM) :=
  let M_1 := sI M 12 s 0 0
  (F_X12_isPage fu s x1 x2 M_1).bind fun p_2 =>
  if ¬ p_2.1 = 0 then
    L_X12_copies_21 fu fu s x1 x2 0 0 p_2.2
  else
    (some ((-1), p_2.2))
set_option maxRecDepth 100000 in
theorem q_X12_copies (fu : Nat) (s : Nat) (x1 : Int32) (x2 : Int32) (M : xM) :
    xrun pX12_copies flX12 koX12 nwX12 [(345, 3, 0, 0, w_X12_isPage fu)] [(21, fun bc bs ls st M => xz bc bs (lR ls 0 12 fun o => o.bind fun s => lI ls 1 fun x1 => lI ls 2 fun x2 => lI ls 3 fun x3 => lI ls 4 fun x4 => xe st (L_X12_copies_21 fu fu s x1 x2 x3 x4 M)))] xrtI 36 (xat 0 pX12_copies) 0 0 [(0, .inr (.inr (12, some s))), (1, .inl x1), (2, .inl x2)] [] M = F_X12_copies fu s x1 x2 M := rfl
def w_X12_copies (fu : Nat) {ρ : Type} (as : List xV) (M : xM) (k : Option xV → xM → Option ρ) : Option ρ := pR 12 as fun o as => o.bind fun s => pI as fun x1 as => pI as fun x2 as => xe as ((F_X12_copies fu s x1 x2 M).bind fun p => k (some (.inl p.1)) p.2)
def pX12_mappedNow : List xE := [(0, 0, 1, 0, 0, [], .iconst 0),
  (0, 1, 1, 0, 0, [], .istore_n 1),
  (0, 2, 1, 0, 0, [], .iconst 0),
  (0, 3, 1, 0, 0, [], .istore_n 2),
  (1, 4, 1, 0, 0, [], .iload_n 2),
  (0, 5, 2, 0, 20, [], .bipush 20),
  (0, 7, 3, 36, 0, [], .if_icmp .ge 29),
  (0, 10, 1, 0, 0, [], .iload_n 1),
  (0, 11, 1, 0, 0, [], .aload_n 0),
  (0, 12, 3, 0, 0, [], .getfield 101),
  (0, 15, 2, 0, 14, [], .bipush 14),
  (0, 17, 1, 0, 0, [], .iload_n 2),
  (0, 18, 1, 0, 0, [], .iadd),
  (0, 19, 1, 0, 0, [], .iaload),
  (0, 20, 3, 27, 0, [], .ifCond .le 7),
  (0, 23, 1, 0, 1, [], .iconst 1),
  (0, 24, 3, 28, 0, [], .goto 4),
  (0, 27, 1, 0, 0, [], .iconst 0),
  (0, 28, 1, 0, 0, [], .iadd),
  (0, 29, 1, 0, 0, [], .istore_n 1),
  (0, 30, 3, 0, 1, [], .iinc 2 1),
  (0, 33, 3, 4, 0, [], .goto (-29)),
  (0, 36, 1, 0, 0, [], .iload_n 1),
  (0, 37, 1, 0, 0, [], .ireturn)]
def L_X12_mappedNow_4 (fu : Nat) : Nat → Nat → Int32 → Int32 → xM → Option (Int32 × xM)
  | 0, _, _, _, _ => none
  | n + 1, s, x1, x2, M =>
    if 20 ≤ x2 then
      (some (x1, M))
    else
      (gR M 12 s 17).bind fun a_1 =>
      gd (xin (14 + x2) (gN M 20 a_1)) <|
      if (gI M 20 a_1 (xi (14 + x2))) ≤ 0 then
        let x1_2 : Int32 := x1 + 0
        L_X12_mappedNow_4 fu n s x1_2 (x2 + 1) M
      else
        let x1_3 : Int32 := x1 + 1
        L_X12_mappedNow_4 fu n s x1_3 (x2 + 1) M
set_option maxRecDepth 100000 in
theorem q_X12_mappedNow_4 (fu : Nat) (n : Nat) (s : Nat) (x1 : Int32) (x2 : Int32) (M : xM) :
    xrun pX12_mappedNow flX12 koX12 nwX12 [] [(4, fun bc bs ls st M => xz bc bs (lR ls 0 12 fun o => o.bind fun s => lI ls 1 fun x1 => lI ls 2 fun x2 => xe st (L_X12_mappedNow_4 fu n s x1 x2 M)))] xrtI 26 (xat 4 pX12_mappedNow) 0 0 [(0, .inr (.inr (12, some s))), (1, .inl x1), (2, .inl x2)] [] M = L_X12_mappedNow_4 fu (n + 1) s x1 x2 M := rfl
def F_X12_mappedNow (fu : Nat) (s : Nat) (M : xM) : Option (Int32 × xM) :=
  L_X12_mappedNow_4 fu fu s 0 0 M
set_option maxRecDepth 100000 in
theorem q_X12_mappedNow (fu : Nat) (s : Nat) (M : xM) :
    xrun pX12_mappedNow flX12 koX12 nwX12 [] [(4, fun bc bs ls st M => xz bc bs (lR ls 0 12 fun o => o.bind fun s => lI ls 1 fun x1 => lI ls 2 fun x2 => xe st (L_X12_mappedNow_4 fu fu s x1 x2 M)))] xrtI 26 (xat 0 pX12_mappedNow) 0 0 [(0, .inr (.inr (12, some s)))] [] M = F_X12_mappedNow fu s M := rfl
def w_X12_mappedNow (fu : Nat) {ρ : Type} (as : List xV) (M : xM) (k : Option xV → xM → Option ρ) : Option ρ := pR 12 as fun o as => o.bind fun s => xe as ((F_X12_mappedNow fu s M).bind fun p => k (some (.inl p.1)) p.2)
def pX12_count : List xE := [(0, 0, 1, 0, 0, [], .aload_n 0),
  (0, 1, 1, 0, 0, [], .iconst 0),
  (0, 2, 3, 0, 0, [], .putfield 1),
  (0, 5, 1, 0, 0, [], .iload_n 1),
  (0, 6, 82, 188, 0, [(0, 88), (1, 93), (2, 98), (3, 103), (4, 103), (5, 103), (6, 117), (7, 124), (8, 129), (9, 135), (10, 141), (11, 146), (12, 153), (13, 160), (14, 167), (15, 174), (16, 183)], .tableswitch 182 0 16 #[82, 87, 92, 97, 97, 97, 111, 118, 123, 129, 135, 140, 147, 154, 161, 168, 177]),
  (0, 88, 1, 0, 0, [], .aload_n 0),
  (0, 89, 3, 0, 0, [], .invokevirtual 252),
  (0, 92, 1, 0, 0, [], .ireturn),
  (0, 93, 1, 0, 0, [], .aload_n 0),
  (0, 94, 3, 0, 0, [], .invokevirtual 255),
  (0, 97, 1, 0, 0, [], .ireturn),
  (0, 98, 1, 0, 0, [], .aload_n 0),
  (0, 99, 3, 0, 0, [], .invokevirtual 223),
  (0, 102, 1, 0, 0, [], .ireturn),
  (0, 103, 1, 0, 0, [], .aload_n 0),
  (0, 104, 1, 0, 0, [], .iconst 0),
  (0, 105, 1, 0, 0, [], .iconst 0),
  (0, 106, 1, 0, 0, [], .aload_n 0),
  (0, 107, 3, 0, 0, [], .invokevirtual 277),
  (0, 110, 1, 0, 0, [], .iload_n 1),
  (0, 111, 1, 0, 3, [], .iconst 3),
  (0, 112, 1, 0, 0, [], .isub),
  (0, 113, 3, 0, 0, [], .invokevirtual 329),
  (0, 116, 1, 0, 0, [], .ireturn),
  (0, 117, 1, 0, 0, [], .aload_n 0),
  (0, 118, 3, 0, 0, [], .getfield 101),
  (0, 121, 1, 0, 0, [], .iconst 0),
  (0, 122, 1, 0, 0, [], .iaload),
  (0, 123, 1, 0, 0, [], .ireturn),
  (0, 124, 1, 0, 0, [], .aload_n 0),
  (0, 125, 3, 0, 0, [], .invokevirtual 468),
  (0, 128, 1, 0, 0, [], .ireturn),
  (0, 129, 1, 0, 0, [], .aload_n 0),
  (0, 130, 1, 0, 0, [], .iconst 0),
  (0, 131, 3, 0, 0, [], .invokevirtual 336),
  (0, 134, 1, 0, 0, [], .ireturn),
  (0, 135, 1, 0, 0, [], .aload_n 0),
  (0, 136, 1, 0, 0, [], .iconst 0),
  (0, 137, 3, 0, 0, [], .invokevirtual 323),
  (0, 140, 1, 0, 0, [], .ireturn),
  (0, 141, 1, 0, 0, [], .aload_n 0),
  (0, 142, 3, 0, 0, [], .invokevirtual 471),
  (0, 145, 1, 0, 0, [], .ireturn),
  (0, 146, 1, 0, 0, [], .aload_n 0),
  (0, 147, 3, 0, 0, [], .getfield 101),
  (0, 150, 1, 0, 2, [], .iconst 2),
  (0, 151, 1, 0, 0, [], .iaload),
  (0, 152, 1, 0, 0, [], .ireturn),
  (0, 153, 1, 0, 0, [], .aload_n 0),
  (0, 154, 3, 0, 0, [], .getfield 101),
  (0, 157, 1, 0, 3, [], .iconst 3),
  (0, 158, 1, 0, 0, [], .iaload),
  (0, 159, 1, 0, 0, [], .ireturn),
  (0, 160, 1, 0, 0, [], .aload_n 0),
  (0, 161, 3, 0, 0, [], .getfield 101),
  (0, 164, 1, 0, 1, [], .iconst 1),
  (0, 165, 1, 0, 0, [], .iaload),
  (0, 166, 1, 0, 0, [], .ireturn),
  (0, 167, 1, 0, 0, [], .aload_n 0),
  (0, 168, 3, 0, 0, [], .getfield 92),
  (0, 171, 1, 0, 0, [], .iconst 0),
  (0, 172, 1, 0, 0, [], .iaload),
  (0, 173, 1, 0, 0, [], .ireturn),
  (0, 174, 1, 0, 0, [], .aload_n 0),
  (0, 175, 3, 0, 0, [], .getfield 101),
  (0, 178, 3, 0, 502, [], .sipush 502),
  (0, 181, 1, 0, 0, [], .iaload),
  (0, 182, 1, 0, 0, [], .ireturn),
  (0, 183, 1, 0, 0, [], .aload_n 0),
  (0, 184, 3, 0, 0, [], .getfield 11),
  (0, 187, 1, 0, 0, [], .ireturn),
  (0, 188, 1, 0, (-1), [], .iconst (-1)),
  (0, 189, 1, 0, 0, [], .ireturn)]
def F_X12_count (fu : Nat) (s : Nat) (x1 : Int32) (M : xM) : Option (Int32 × xM) :=
  let M_1 := sI M 12 s 0 0
  if x1 = 0 then
    (F_X12_blocks fu s M_1).bind fun p_2 =>
    (some (p_2.1, p_2.2))
  else
  if x1 = 1 then
    (F_X12_wide fu s M_1).bind fun p_3 =>
    (some (p_3.1, p_3.2))
  else
  if x1 = 2 then
    (F_X12_files fu s M_1).bind fun p_4 =>
    (some (p_4.1, p_4.2))
  else
  if x1 = 3 then
    (F_X12_allSlots fu s M_1).bind fun p_5 =>
    (F_X12_tally fu s 0 0 p_5.1 (x1 - 3) p_5.2).bind fun p_6 =>
    (some (p_6.1, p_6.2))
  else
  if x1 = 4 then
    (F_X12_allSlots fu s M_1).bind fun p_7 =>
    (F_X12_tally fu s 0 0 p_7.1 (x1 - 3) p_7.2).bind fun p_8 =>
    (some (p_8.1, p_8.2))
  else
  if x1 = 5 then
    (F_X12_allSlots fu s M_1).bind fun p_9 =>
    (F_X12_tally fu s 0 0 p_9.1 (x1 - 3) p_9.2).bind fun p_10 =>
    (some (p_10.1, p_10.2))
  else
  if x1 = 6 then
    (gR M_1 12 s 17).bind fun a_11 =>
    gd (xin 0 (gN M_1 20 a_11)) <|
    (some (gI M_1 20 a_11 (xi 0), M_1))
  else
  if x1 = 7 then
    (F_X12_baseNow fu s M_1).bind fun p_12 =>
    (some (p_12.1, p_12.2))
  else
  if x1 = 8 then
    (F_X12_journalOf fu s 0 M_1).bind fun p_13 =>
    (some (p_13.1, p_13.2))
  else
  if x1 = 9 then
    (F_X12_partsOf fu s 0 M_1).bind fun p_14 =>
    (some (p_14.1, p_14.2))
  else
  if x1 = 10 then
    (F_X12_mappedNow fu s M_1).bind fun p_15 =>
    (some (p_15.1, p_15.2))
  else
  if x1 = 11 then
    (gR M_1 12 s 17).bind fun a_16 =>
    gd (xin 2 (gN M_1 20 a_16)) <|
    (some (gI M_1 20 a_16 (xi 2), M_1))
  else
  if x1 = 12 then
    (gR M_1 12 s 17).bind fun a_17 =>
    gd (xin 3 (gN M_1 20 a_17)) <|
    (some (gI M_1 20 a_17 (xi 3), M_1))
  else
  if x1 = 13 then
    (gR M_1 12 s 17).bind fun a_18 =>
    gd (xin 1 (gN M_1 20 a_18)) <|
    (some (gI M_1 20 a_18 (xi 1), M_1))
  else
  if x1 = 14 then
    (gR M_1 12 s 14).bind fun a_19 =>
    gd (xin 0 (gN M_1 20 a_19)) <|
    (some (gI M_1 20 a_19 (xi 0), M_1))
  else
  if x1 = 15 then
    (gR M_1 12 s 17).bind fun a_20 =>
    gd (xin 502 (gN M_1 20 a_20)) <|
    (some (gI M_1 20 a_20 (xi 502), M_1))
  else
  if x1 = 16 then
    (some (gI M_1 12 s 2, M_1))
  else
    (some ((-1), M_1))
set_option maxRecDepth 100000 in
theorem q_X12_count (fu : Nat) (s : Nat) (x1 : Int32) (M : xM) :
    xrun pX12_count flX12 koX12 nwX12 [(223, 1, 0, 0, w_X12_files fu), (252, 1, 0, 0, w_X12_blocks fu), (255, 1, 0, 0, w_X12_wide fu), (277, 1, 0, 0, w_X12_allSlots fu), (323, 2, 0, 0, w_X12_partsOf fu), (329, 5, 0, 0, w_X12_tally fu), (336, 2, 0, 0, w_X12_journalOf fu), (468, 1, 0, 0, w_X12_baseNow fu), (471, 1, 0, 0, w_X12_mappedNow fu)] [] xrtI 75 (xat 0 pX12_count) 0 0 [(0, .inr (.inr (12, some s))), (1, .inl x1)] [] M = F_X12_count fu s x1 M := rfl
def w_X12_count (fu : Nat) {ρ : Type} (as : List xV) (M : xM) (k : Option xV → xM → Option ρ) : Option ρ := pR 12 as fun o as => o.bind fun s => pI as fun x1 as => xe as ((F_X12_count fu s x1 M).bind fun p => k (some (.inl p.1)) p.2)
def pX12_cut : List xE := [(0, 0, 1, 0, 0, [], .aload_n 0),
  (0, 1, 1, 0, 0, [], .iconst 0),
  (0, 2, 3, 0, 0, [], .putfield 1),
  (0, 5, 1, 0, 0, [], .iload_n 1),
  (0, 6, 1, 0, 1, [], .iconst 1),
  (0, 7, 2, 0, 20, [], .bipush 20),
  (0, 9, 3, 0, 0, [], .invokestatic 380),
  (0, 12, 3, 24, 0, [], .ifCond .eq 12),
  (0, 15, 1, 0, 0, [], .aload_n 0),
  (0, 16, 3, 0, 0, [], .getfield 101),
  (0, 19, 1, 0, 2, [], .iconst 2),
  (0, 20, 1, 0, 0, [], .iaload),
  (0, 21, 3, 26, 0, [], .ifCond .ne 5),
  (0, 24, 1, 0, 0, [], .iconst 0),
  (0, 25, 1, 0, 0, [], .ireturn),
  (0, 26, 1, 0, 0, [], .aload_n 0),
  (0, 27, 3, 0, 0, [], .getfield 101),
  (0, 30, 1, 0, 3, [], .iconst 3),
  (0, 31, 1, 0, 0, [], .iload_n 1),
  (0, 32, 1, 0, 0, [], .iastore),
  (0, 33, 1, 0, 1, [], .iconst 1),
  (0, 34, 1, 0, 0, [], .ireturn)]
def F_X12_cut (fu : Nat) (s : Nat) (x1 : Int32) (M : xM) : Option (Int32 × xM) :=
  let M_1 := sI M 12 s 0 0
  (F_X12_within fu x1 1 20 M_1).bind fun p_2 =>
  if p_2.1 = 0 then
    gd (xbool 0) (some (0, p_2.2))
  else
    (gR p_2.2 12 s 17).bind fun a_3 =>
    gd (xin 2 (gN p_2.2 20 a_3)) <|
    if ¬ (gI p_2.2 20 a_3 (xi 2)) = 0 then
      (gR p_2.2 12 s 17).bind fun a_4 =>
      gd (xin 3 (gN p_2.2 20 a_4)) <|
      let M_5 := sI p_2.2 20 a_4 (xi 3) x1
      gd (xbool 1) (some (1, M_5))
    else
      gd (xbool 0) (some (0, p_2.2))
set_option maxRecDepth 100000 in
theorem q_X12_cut (fu : Nat) (s : Nat) (x1 : Int32) (M : xM) :
    xrun pX12_cut flX12 koX12 nwX12 [(380, 3, 0, 0, w_X12_within fu)] [] xrtZ 24 (xat 0 pX12_cut) 0 0 [(0, .inr (.inr (12, some s))), (1, .inl x1)] [] M = F_X12_cut fu s x1 M := rfl
def w_X12_cut (fu : Nat) {ρ : Type} (as : List xV) (M : xM) (k : Option xV → xM → Option ρ) : Option ρ := pR 12 as fun o as => o.bind fun s => pI as fun x1 as => xe as ((F_X12_cut fu s x1 M).bind fun p => k (some (.inl p.1)) p.2)
def pX12_isLetter : List xE := [(0, 0, 1, 0, 0, [], .iload_n 0),
  (0, 1, 2, 0, 97, [], .bipush 97),
  (0, 3, 3, 16, 0, [], .if_icmp .lt 13),
  (0, 6, 1, 0, 0, [], .iload_n 0),
  (0, 7, 2, 0, 122, [], .bipush 122),
  (0, 9, 3, 16, 0, [], .if_icmp .gt 7),
  (0, 12, 1, 0, 1, [], .iconst 1),
  (0, 13, 3, 17, 0, [], .goto 4),
  (0, 16, 1, 0, 0, [], .iconst 0),
  (0, 17, 1, 0, 0, [], .ireturn)]
def F_X12_isLetter (fu : Nat) (x0 : Int32) (M : xM) : Option (Int32 × xM) :=
  if x0 < 97 then
    gd (xbool 0) (some (0, M))
  else
    if 122 < x0 then
      gd (xbool 0) (some (0, M))
    else
      gd (xbool 1) (some (1, M))
set_option maxRecDepth 100000 in
theorem q_X12_isLetter (fu : Nat) (x0 : Int32) (M : xM) :
    xrun pX12_isLetter flX12 koX12 nwX12 [] [] xrtZ 12 (xat 0 pX12_isLetter) 0 0 [(0, .inl x0)] [] M = F_X12_isLetter fu x0 M := rfl
def w_X12_isLetter (fu : Nat) {ρ : Type} (as : List xV) (M : xM) (k : Option xV → xM → Option ρ) : Option ρ := pI as fun x0 as => xe as ((F_X12_isLetter fu x0 M).bind fun p => k (some (.inl p.1)) p.2)
def pX12_rank : List xE := [(0, 0, 1, 0, 0, [], .iload_n 0),
  (0, 1, 3, 0, 0, [], .invokestatic 130),
  (0, 4, 3, 14, 0, [], .ifCond .eq 10),
  (0, 7, 1, 0, 0, [], .iload_n 0),
  (0, 8, 2, 0, 96, [], .bipush 96),
  (0, 10, 1, 0, 0, [], .isub),
  (0, 11, 3, 18, 0, [], .goto 7),
  (0, 14, 1, 0, 0, [], .iload_n 0),
  (0, 15, 2, 0, 21, [], .bipush 21),
  (0, 17, 1, 0, 0, [], .isub),
  (0, 18, 1, 0, 0, [], .ireturn)]
def F_X12_rank (fu : Nat) (x0 : Int32) (M : xM) : Option (Int32 × xM) :=
  (F_X12_isLetter fu x0 M).bind fun p_1 =>
  if p_1.1 = 0 then
    (some (x0 - 21, p_1.2))
  else
    (some (x0 - 96, p_1.2))
set_option maxRecDepth 100000 in
theorem q_X12_rank (fu : Nat) (x0 : Int32) (M : xM) :
    xrun pX12_rank flX12 koX12 nwX12 [(130, 1, 0, 0, w_X12_isLetter fu)] [] xrtI 13 (xat 0 pX12_rank) 0 0 [(0, .inl x0)] [] M = F_X12_rank fu x0 M := rfl
def w_X12_rank (fu : Nat) {ρ : Type} (as : List xV) (M : xM) (k : Option xV → xM → Option ρ) : Option ρ := pI as fun x0 as => xe as ((F_X12_rank fu x0 M).bind fun p => k (some (.inl p.1)) p.2)
def pX12_isDigit : List xE := [(0, 0, 1, 0, 0, [], .iload_n 0),
  (0, 1, 2, 0, 48, [], .bipush 48),
  (0, 3, 3, 16, 0, [], .if_icmp .lt 13),
  (0, 6, 1, 0, 0, [], .iload_n 0),
  (0, 7, 2, 0, 57, [], .bipush 57),
  (0, 9, 3, 16, 0, [], .if_icmp .gt 7),
  (0, 12, 1, 0, 1, [], .iconst 1),
  (0, 13, 3, 17, 0, [], .goto 4),
  (0, 16, 1, 0, 0, [], .iconst 0),
  (0, 17, 1, 0, 0, [], .ireturn)]
def F_X12_isDigit (fu : Nat) (x0 : Int32) (M : xM) : Option (Int32 × xM) :=
  if x0 < 48 then
    gd (xbool 0) (some (0, M))
  else
    if 57 < x0 then
      gd (xbool 0) (some (0, M))
    else
      gd (xbool 1) (some (1, M))
set_option maxRecDepth 100000 in
theorem q_X12_isDigit (fu : Nat) (x0 : Int32) (M : xM) :
    xrun pX12_isDigit flX12 koX12 nwX12 [] [] xrtZ 12 (xat 0 pX12_isDigit) 0 0 [(0, .inl x0)] [] M = F_X12_isDigit fu x0 M := rfl
def w_X12_isDigit (fu : Nat) {ρ : Type} (as : List xV) (M : xM) (k : Option xV → xM → Option ρ) : Option ρ := pI as fun x0 as => xe as ((F_X12_isDigit fu x0 M).bind fun p => k (some (.inl p.1)) p.2)
def pX12_isSignOf : List xE := [(0, 0, 1, 0, 0, [], .iload_n 0),
  (0, 1, 2, 0, 40, [], .bipush 40),
  (0, 3, 3, 48, 0, [], .if_icmp .eq 45),
  (0, 6, 1, 0, 0, [], .iload_n 0),
  (0, 7, 2, 0, 41, [], .bipush 41),
  (0, 9, 3, 48, 0, [], .if_icmp .eq 39),
  (0, 12, 1, 0, 0, [], .iload_n 0),
  (0, 13, 2, 0, 59, [], .bipush 59),
  (0, 15, 3, 48, 0, [], .if_icmp .eq 33),
  (0, 18, 1, 0, 0, [], .iload_n 0),
  (0, 19, 2, 0, 61, [], .bipush 61),
  (0, 21, 3, 48, 0, [], .if_icmp .eq 27),
  (0, 24, 1, 0, 0, [], .iload_n 0),
  (0, 25, 2, 0, 60, [], .bipush 60),
  (0, 27, 3, 48, 0, [], .if_icmp .eq 21),
  (0, 30, 1, 0, 0, [], .iload_n 0),
  (0, 31, 2, 0, 43, [], .bipush 43),
  (0, 33, 3, 48, 0, [], .if_icmp .eq 15),
  (0, 36, 1, 0, 0, [], .iload_n 0),
  (0, 37, 2, 0, 45, [], .bipush 45),
  (0, 39, 3, 48, 0, [], .if_icmp .eq 9),
  (0, 42, 1, 0, 0, [], .iload_n 0),
  (0, 43, 2, 0, 42, [], .bipush 42),
  (0, 45, 3, 52, 0, [], .if_icmp .ne 7),
  (0, 48, 1, 0, 1, [], .iconst 1),
  (0, 49, 3, 53, 0, [], .goto 4),
  (0, 52, 1, 0, 0, [], .iconst 0),
  (0, 53, 1, 0, 0, [], .ireturn)]
def F_X12_isSignOf (fu : Nat) (x0 : Int32) (M : xM) : Option (Int32 × xM) :=
  if x0 = 40 then
    gd (xbool 1) (some (1, M))
  else
    if x0 = 41 then
      gd (xbool 1) (some (1, M))
    else
      if x0 = 59 then
        gd (xbool 1) (some (1, M))
      else
        if x0 = 61 then
          gd (xbool 1) (some (1, M))
        else
          if x0 = 60 then
            gd (xbool 1) (some (1, M))
          else
            if x0 = 43 then
              gd (xbool 1) (some (1, M))
            else
              if x0 = 45 then
                gd (xbool 1) (some (1, M))
              else
                if ¬ x0 = 42 then
                  gd (xbool 0) (some (0, M))
                else
                  gd (xbool 1) (some (1, M))
set_option maxRecDepth 100000 in
theorem q_X12_isSignOf (fu : Nat) (x0 : Int32) (M : xM) :
    xrun pX12_isSignOf flX12 koX12 nwX12 [] [] xrtZ 30 (xat 0 pX12_isSignOf) 0 0 [(0, .inl x0)] [] M = F_X12_isSignOf fu x0 M := rfl
def w_X12_isSignOf (fu : Nat) {ρ : Type} (as : List xV) (M : xM) (k : Option xV → xM → Option ρ) : Option ρ := pI as fun x0 as => xe as ((F_X12_isSignOf fu x0 M).bind fun p => k (some (.inl p.1)) p.2)
def pX12_cutAll : List xE := [(0, 0, 1, 0, 0, [], .aload_n 0),
  (0, 1, 1, 0, 0, [], .aload_n 0),
  (0, 2, 3, 0, 0, [], .getfield 11),
  (0, 5, 3, 0, 0, [], .putfield 134),
  (0, 8, 1, 0, 0, [], .aload_n 0),
  (0, 9, 1, 0, 0, [], .iconst 0),
  (0, 10, 3, 0, 0, [], .putfield 11),
  (0, 13, 1, 0, 0, [], .iconst 0),
  (0, 14, 1, 0, 0, [], .istore_n 1),
  (0, 15, 1, 0, 0, [], .iconst 0),
  (0, 16, 1, 0, 0, [], .istore_n 2),
  (1, 17, 1, 0, 0, [], .iload_n 2),
  (0, 18, 1, 0, 0, [], .aload_n 0),
  (0, 19, 3, 0, 0, [], .getfield 134),
  (0, 22, 3, 279, 0, [], .if_icmp .ge 257),
  (0, 25, 1, 0, 0, [], .aload_n 0),
  (0, 26, 3, 0, 0, [], .getfield 14),
  (0, 29, 1, 0, 0, [], .iload_n 2),
  (0, 30, 1, 0, 0, [], .iaload),
  (0, 31, 1, 0, 0, [], .istore_n 3),
  (0, 32, 1, 0, 0, [], .iload_n 3),
  (0, 33, 2, 0, 10, [], .bipush 10),
  (0, 35, 3, 44, 0, [], .if_icmp .eq 9),
  (0, 38, 1, 0, 0, [], .iload_n 3),
  (0, 39, 2, 0, 32, [], .bipush 32),
  (0, 41, 3, 50, 0, [], .if_icmp .ne 9),
  (0, 44, 3, 0, 1, [], .iinc 2 1),
  (0, 47, 3, 17, 0, [], .goto (-30)),
  (0, 50, 1, 0, 0, [], .iload_n 2),
  (0, 51, 2, 0, 0, [], .istore 4),
  (0, 53, 1, 0, 0, [], .lconst 0),
  (0, 54, 2, 0, 0, [], .lstore 5),
  (0, 56, 1, 0, 0, [], .aload_n 0),
  (0, 57, 3, 0, 0, [], .getfield 27),
  (0, 60, 1, 0, 0, [], .iload_n 1),
  (0, 61, 1, 0, 0, [], .iload_n 2),
  (0, 62, 1, 0, 0, [], .iastore),
  (0, 63, 1, 0, 0, [], .iload_n 3),
  (0, 64, 3, 0, 0, [], .invokestatic 130),
  (0, 67, 3, 152, 0, [], .ifCond .eq 85),
  (1, 70, 1, 0, 0, [], .iload_n 2),
  (0, 71, 1, 0, 0, [], .aload_n 0),
  (0, 72, 3, 0, 0, [], .getfield 134),
  (0, 75, 3, 129, 0, [], .if_icmp .ge 54),
  (0, 78, 1, 0, 0, [], .aload_n 0),
  (0, 79, 3, 0, 0, [], .getfield 14),
  (0, 82, 1, 0, 0, [], .iload_n 2),
  (0, 83, 1, 0, 0, [], .iaload),
  (0, 84, 3, 0, 0, [], .invokestatic 130),
  (0, 87, 3, 129, 0, [], .ifCond .eq 42),
  (0, 90, 1, 0, 0, [], .iload_n 2),
  (0, 91, 2, 0, 0, [], .iload 4),
  (0, 93, 1, 0, 0, [], .isub),
  (0, 94, 2, 0, 8, [], .bipush 8),
  (0, 96, 3, 119, 0, [], .if_icmp .ge 23),
  (0, 99, 3, 0, 0, [], .ldc2_w 137),
  (0, 102, 2, 0, 0, [], .lload 5),
  (0, 104, 1, 0, 0, [], .lmul),
  (0, 105, 1, 0, 0, [], .aload_n 0),
  (0, 106, 3, 0, 0, [], .getfield 14),
  (0, 109, 1, 0, 0, [], .iload_n 2),
  (0, 110, 1, 0, 0, [], .iaload),
  (0, 111, 3, 0, 0, [], .invokestatic 139),
  (0, 114, 1, 0, 0, [], .i2l),
  (0, 115, 1, 0, 0, [], .ladd),
  (0, 116, 3, 121, 0, [], .goto 5),
  (0, 119, 2, 0, 0, [], .lload 5),
  (0, 121, 2, 0, 0, [], .lstore 5),
  (0, 123, 3, 0, 1, [], .iinc 2 1),
  (0, 126, 3, 70, 0, [], .goto (-56)),
  (1, 129, 1, 0, 0, [], .aload_n 0),
  (0, 130, 3, 0, 0, [], .getfield 24),
  (0, 133, 1, 0, 0, [], .iload_n 1),
  (0, 134, 1, 0, 0, [], .iload_n 2),
  (0, 135, 2, 0, 0, [], .iload 4),
  (0, 137, 1, 0, 0, [], .isub),
  (0, 138, 2, 0, 8, [], .bipush 8),
  (0, 140, 3, 147, 0, [], .if_icmp .le 7),
  (0, 143, 1, 0, 4, [], .iconst 4),
  (0, 144, 3, 148, 0, [], .goto 4),
  (0, 147, 1, 0, 1, [], .iconst 1),
  (0, 148, 1, 0, 0, [], .iastore),
  (0, 149, 3, 265, 0, [], .goto 116),
  (0, 152, 1, 0, 0, [], .iload_n 3),
  (0, 153, 3, 0, 0, [], .invokestatic 143),
  (0, 156, 3, 240, 0, [], .ifCond .eq 84),
  (1, 159, 1, 0, 0, [], .iload_n 2),
  (0, 160, 1, 0, 0, [], .aload_n 0),
  (0, 161, 3, 0, 0, [], .getfield 134),
  (0, 164, 3, 218, 0, [], .if_icmp .ge 54),
  (0, 167, 1, 0, 0, [], .aload_n 0),
  (0, 168, 3, 0, 0, [], .getfield 14),
  (0, 171, 1, 0, 0, [], .iload_n 2),
  (0, 172, 1, 0, 0, [], .iaload),
  (0, 173, 3, 0, 0, [], .invokestatic 143),
  (0, 176, 3, 218, 0, [], .ifCond .eq 42),
  (0, 179, 1, 0, 0, [], .iload_n 2),
  (0, 180, 2, 0, 0, [], .iload 4),
  (0, 182, 1, 0, 0, [], .isub),
  (0, 183, 1, 0, 4, [], .iconst 4),
  (0, 184, 3, 208, 0, [], .if_icmp .ge 24),
  (0, 187, 3, 0, 0, [], .ldc2_w 146),
  (0, 190, 2, 0, 0, [], .lload 5),
  (0, 192, 1, 0, 0, [], .lmul),
  (0, 193, 1, 0, 0, [], .aload_n 0),
  (0, 194, 3, 0, 0, [], .getfield 14),
  (0, 197, 1, 0, 0, [], .iload_n 2),
  (0, 198, 1, 0, 0, [], .iaload),
  (0, 199, 1, 0, 0, [], .i2l),
  (0, 200, 1, 0, 0, [], .ladd),
  (0, 201, 3, 0, 0, [], .ldc2_w 148),
  (0, 204, 1, 0, 0, [], .lsub),
  (0, 205, 3, 210, 0, [], .goto 5),
  (0, 208, 2, 0, 0, [], .lload 5),
  (0, 210, 2, 0, 0, [], .lstore 5),
  (0, 212, 3, 0, 1, [], .iinc 2 1),
  (0, 215, 3, 159, 0, [], .goto (-56)),
  (1, 218, 1, 0, 0, [], .aload_n 0),
  (0, 219, 3, 0, 0, [], .getfield 24),
  (0, 222, 1, 0, 0, [], .iload_n 1),
  (0, 223, 1, 0, 0, [], .iload_n 2),
  (0, 224, 2, 0, 0, [], .iload 4),
  (0, 226, 1, 0, 0, [], .isub),
  (0, 227, 1, 0, 4, [], .iconst 4),
  (0, 228, 3, 235, 0, [], .if_icmp .le 7),
  (0, 231, 1, 0, 4, [], .iconst 4),
  (0, 232, 3, 236, 0, [], .goto 4),
  (0, 235, 1, 0, 2, [], .iconst 2),
  (0, 236, 1, 0, 0, [], .iastore),
  (0, 237, 3, 265, 0, [], .goto 28),
  (0, 240, 1, 0, 0, [], .iload_n 3),
  (0, 241, 1, 0, 0, [], .i2l),
  (0, 242, 2, 0, 0, [], .lstore 5),
  (0, 244, 1, 0, 0, [], .aload_n 0),
  (0, 245, 3, 0, 0, [], .getfield 24),
  (0, 248, 1, 0, 0, [], .iload_n 1),
  (0, 249, 1, 0, 0, [], .iload_n 3),
  (0, 250, 3, 0, 0, [], .invokestatic 150),
  (0, 253, 3, 260, 0, [], .ifCond .eq 7),
  (0, 256, 1, 0, 3, [], .iconst 3),
  (0, 257, 3, 261, 0, [], .goto 4),
  (0, 260, 1, 0, 4, [], .iconst 4),
  (0, 261, 1, 0, 0, [], .iastore),
  (0, 262, 3, 0, 1, [], .iinc 2 1),
  (0, 265, 1, 0, 0, [], .aload_n 0),
  (0, 266, 3, 0, 0, [], .getfield 30),
  (0, 269, 1, 0, 0, [], .iload_n 1),
  (0, 270, 2, 0, 0, [], .lload 5),
  (0, 272, 1, 0, 0, [], .lastore),
  (0, 273, 3, 0, 1, [], .iinc 1 1),
  (0, 276, 3, 17, 0, [], .goto (-259)),
  (0, 279, 1, 0, 0, [], .aload_n 0),
  (0, 280, 3, 0, 0, [], .getfield 24),
  (0, 283, 1, 0, 0, [], .iload_n 1),
  (0, 284, 1, 0, 0, [], .iconst 0),
  (0, 285, 1, 0, 0, [], .iastore),
  (0, 286, 1, 0, 0, [], .aload_n 0),
  (0, 287, 3, 0, 0, [], .getfield 27),
  (0, 290, 1, 0, 0, [], .iload_n 1),
  (0, 291, 1, 0, 0, [], .aload_n 0),
  (0, 292, 3, 0, 0, [], .getfield 134),
  (0, 295, 1, 0, 0, [], .iastore),
  (0, 296, 1, 0, 0, [], .aload_n 0),
  (0, 297, 1, 0, 0, [], .iconst 0),
  (0, 298, 3, 0, 0, [], .putfield 153),
  (0, 301, 1, 0, 0, [], .aload_n 0),
  (0, 302, 1, 0, 0, [], .iconst 0),
  (0, 303, 3, 0, 0, [], .putfield 156),
  (0, 306, 1, 0, 0, [], .return_)]
def J_X12_cutAll_218 (fu : Nat) (k17 : Nat → Int32 → Int32 → xM → Option xM) (s : Nat) (x1 : Int32) (x2 : Int32) (x4 : Int32) (x5 : Int64) (M : xM) : Option xM :=
  if (x2 - x4) ≤ 4 then
    (gR M 12 s 4).bind fun a_1 =>
    gd (xin x1 (gN M 20 a_1)) <|
    let M_2 := sI M 20 a_1 (xi x1) 2
    (gR M_2 12 s 6).bind fun a_3 =>
    gd (xin x1 (gN M_2 21 a_3)) <|
    let M_4 := sL M_2 21 a_3 (xi x1) x5
    k17 s (x1 + 1) x2 M_4
  else
    (gR M 12 s 4).bind fun a_5 =>
    gd (xin x1 (gN M 20 a_5)) <|
    let M_6 := sI M 20 a_5 (xi x1) 4
    (gR M_6 12 s 6).bind fun a_7 =>
    gd (xin x1 (gN M_6 21 a_7)) <|
    let M_8 := sL M_6 21 a_7 (xi x1) x5
    k17 s (x1 + 1) x2 M_8
set_option maxRecDepth 100000 in
theorem q_X12_cutAll_218 (fu : Nat) (k17 : Nat → Int32 → Int32 → xM → Option xM) (s : Nat) (x1 : Int32) (x2 : Int32) (x4 : Int32) (x5 : Int64) (M : xM) :
    xrun pX12_cutAll flX12 koX12 nwX12 [] [(17, fun bc bs ls st M => xz bc bs (lR ls 0 12 fun o => o.bind fun s => lI ls 1 fun x1 => lI ls 2 fun x2 => xe st (k17 s x1 x2 M)))] xrtV 171 (xat 218 pX12_cutAll) 0 0 [(0, .inr (.inr (12, some s))), (1, .inl x1), (2, .inl x2), (4, .inl x4), (5, .inr (.inl x5))] [] M = J_X12_cutAll_218 fu k17 s x1 x2 x4 x5 M := rfl
def L_X12_cutAll_159 (fu : Nat) (k17 : Nat → Int32 → Int32 → xM → Option xM) : Nat → Nat → Int32 → Int32 → Int32 → Int64 → xM → Option xM
  | 0, _, _, _, _, _, _ => none
  | n + 1, s, x1, x2, x4, x5, M =>
    if (gI M 12 s 3) ≤ x2 then
      J_X12_cutAll_218 fu k17 s x1 x2 x4 x5 M
    else
      (gR M 12 s 1).bind fun a_1 =>
      gd (xin x2 (gN M 20 a_1)) <|
      (F_X12_isDigit fu (gI M 20 a_1 (xi x2)) M).bind fun p_2 =>
      if p_2.1 = 0 then
        J_X12_cutAll_218 fu k17 s x1 x2 x4 x5 p_2.2
      else
        if 4 ≤ (x2 - x4) then
          L_X12_cutAll_159 fu k17 n s x1 (x2 + 1) x4 x5 p_2.2
        else
          (gR p_2.2 12 s 1).bind fun a_3 =>
          gd (xin x2 (gN p_2.2 20 a_3)) <|
          let x5_4 : Int64 := ((10 * x5) + (Int32.toInt64 (gI p_2.2 20 a_3 (xi x2)))) - 48
          L_X12_cutAll_159 fu k17 n s x1 (x2 + 1) x4 x5_4 p_2.2
set_option maxRecDepth 100000 in
theorem q_X12_cutAll_159 (fu : Nat) (k17 : Nat → Int32 → Int32 → xM → Option xM) (n : Nat) (s : Nat) (x1 : Int32) (x2 : Int32) (x4 : Int32) (x5 : Int64) (M : xM) :
    xrun pX12_cutAll flX12 koX12 nwX12 [(143, 1, 0, 0, w_X12_isDigit fu)] [(159, fun bc bs ls st M => xz bc bs (lR ls 0 12 fun o => o.bind fun s => lI ls 1 fun x1 => lI ls 2 fun x2 => lI ls 4 fun x4 => lL ls 5 fun x5 => xe st (L_X12_cutAll_159 fu k17 n s x1 x2 x4 x5 M))),
    (218, fun bc bs ls st M => xz bc bs (lR ls 0 12 fun o => o.bind fun s => lI ls 1 fun x1 => lI ls 2 fun x2 => lI ls 4 fun x4 => lL ls 5 fun x5 => xe st (J_X12_cutAll_218 fu k17 s x1 x2 x4 x5 M)))] xrtV 171 (xat 159 pX12_cutAll) 0 0 [(0, .inr (.inr (12, some s))), (1, .inl x1), (2, .inl x2), (4, .inl x4), (5, .inr (.inl x5))] [] M = L_X12_cutAll_159 fu k17 (n + 1) s x1 x2 x4 x5 M := rfl
def J_X12_cutAll_129 (fu : Nat) (k17 : Nat → Int32 → Int32 → xM → Option xM) (s : Nat) (x1 : Int32) (x2 : Int32) (x4 : Int32) (x5 : Int64) (M : xM) : Option xM :=
  if (x2 - x4) ≤ 8 then
    (gR M 12 s 4).bind fun a_1 =>
    gd (xin x1 (gN M 20 a_1)) <|
    let M_2 := sI M 20 a_1 (xi x1) 1
    (gR M_2 12 s 6).bind fun a_3 =>
    gd (xin x1 (gN M_2 21 a_3)) <|
    let M_4 := sL M_2 21 a_3 (xi x1) x5
    k17 s (x1 + 1) x2 M_4
  else
    (gR M 12 s 4).bind fun a_5 =>
    gd (xin x1 (gN M 20 a_5)) <|
    let M_6 := sI M 20 a_5 (xi x1) 4
    (gR M_6 12 s 6).bind fun a_7 =>
    gd (xin x1 (gN M_6 21 a_7)) <|
    let M_8 := sL M_6 21 a_7 (xi x1) x5
    k17 s (x1 + 1) x2 M_8
set_option maxRecDepth 100000 in
theorem q_X12_cutAll_129 (fu : Nat) (k17 : Nat → Int32 → Int32 → xM → Option xM) (s : Nat) (x1 : Int32) (x2 : Int32) (x4 : Int32) (x5 : Int64) (M : xM) :
    xrun pX12_cutAll flX12 koX12 nwX12 [] [(17, fun bc bs ls st M => xz bc bs (lR ls 0 12 fun o => o.bind fun s => lI ls 1 fun x1 => lI ls 2 fun x2 => xe st (k17 s x1 x2 M)))] xrtV 171 (xat 129 pX12_cutAll) 0 0 [(0, .inr (.inr (12, some s))), (1, .inl x1), (2, .inl x2), (4, .inl x4), (5, .inr (.inl x5))] [] M = J_X12_cutAll_129 fu k17 s x1 x2 x4 x5 M := rfl
def L_X12_cutAll_70 (fu : Nat) (k17 : Nat → Int32 → Int32 → xM → Option xM) : Nat → Nat → Int32 → Int32 → Int32 → Int64 → xM → Option xM
  | 0, _, _, _, _, _, _ => none
  | n + 1, s, x1, x2, x4, x5, M =>
    if (gI M 12 s 3) ≤ x2 then
      J_X12_cutAll_129 fu k17 s x1 x2 x4 x5 M
    else
      (gR M 12 s 1).bind fun a_1 =>
      gd (xin x2 (gN M 20 a_1)) <|
      (F_X12_isLetter fu (gI M 20 a_1 (xi x2)) M).bind fun p_2 =>
      if p_2.1 = 0 then
        J_X12_cutAll_129 fu k17 s x1 x2 x4 x5 p_2.2
      else
        if 8 ≤ (x2 - x4) then
          L_X12_cutAll_70 fu k17 n s x1 (x2 + 1) x4 x5 p_2.2
        else
          (gR p_2.2 12 s 1).bind fun a_3 =>
          gd (xin x2 (gN p_2.2 20 a_3)) <|
          (F_X12_rank fu (gI p_2.2 20 a_3 (xi x2)) p_2.2).bind fun p_4 =>
          let x5_5 : Int64 := (37 * x5) + (Int32.toInt64 p_4.1)
          L_X12_cutAll_70 fu k17 n s x1 (x2 + 1) x4 x5_5 p_4.2
set_option maxRecDepth 100000 in
theorem q_X12_cutAll_70 (fu : Nat) (k17 : Nat → Int32 → Int32 → xM → Option xM) (n : Nat) (s : Nat) (x1 : Int32) (x2 : Int32) (x4 : Int32) (x5 : Int64) (M : xM) :
    xrun pX12_cutAll flX12 koX12 nwX12 [(130, 1, 0, 0, w_X12_isLetter fu), (139, 1, 0, 0, w_X12_rank fu)] [(70, fun bc bs ls st M => xz bc bs (lR ls 0 12 fun o => o.bind fun s => lI ls 1 fun x1 => lI ls 2 fun x2 => lI ls 4 fun x4 => lL ls 5 fun x5 => xe st (L_X12_cutAll_70 fu k17 n s x1 x2 x4 x5 M))),
    (129, fun bc bs ls st M => xz bc bs (lR ls 0 12 fun o => o.bind fun s => lI ls 1 fun x1 => lI ls 2 fun x2 => lI ls 4 fun x4 => lL ls 5 fun x5 => xe st (J_X12_cutAll_129 fu k17 s x1 x2 x4 x5 M)))] xrtV 171 (xat 70 pX12_cutAll) 0 0 [(0, .inr (.inr (12, some s))), (1, .inl x1), (2, .inl x2), (4, .inl x4), (5, .inr (.inl x5))] [] M = L_X12_cutAll_70 fu k17 (n + 1) s x1 x2 x4 x5 M := rfl
def L_X12_cutAll_17 (fu : Nat) : Nat → Nat → Int32 → Int32 → xM → Option xM
  | 0, _, _, _, _ => none
  | n + 1, s, x1, x2, M =>
    if (gI M 12 s 3) ≤ x2 then
      (gR M 12 s 4).bind fun a_1 =>
      gd (xin x1 (gN M 20 a_1)) <|
      let M_2 := sI M 20 a_1 (xi x1) 0
      (gR M_2 12 s 5).bind fun a_3 =>
      gd (xin x1 (gN M_2 20 a_3)) <|
      let M_4 := sI M_2 20 a_3 (xi x1) (gI M_2 12 s 3)
      let M_5 := sI M_4 12 s 7 0
      let M_6 := sI M_5 12 s 8 0
      some M_6
    else
      (gR M 12 s 1).bind fun a_7 =>
      gd (xin x2 (gN M 20 a_7)) <|
      let x3_8 : Int32 := gI M 20 a_7 (xi x2)
      if x3_8 = 10 then
        L_X12_cutAll_17 fu n s x1 (x2 + 1) M
      else
        if ¬ x3_8 = 32 then
          let x5_9 : Int64 := (Int64.ofNat 0)
          (gR M 12 s 5).bind fun a_10 =>
          gd (xin x1 (gN M 20 a_10)) <|
          let M_11 := sI M 20 a_10 (xi x1) x2
          (F_X12_isLetter fu x3_8 M_11).bind fun p_12 =>
          if p_12.1 = 0 then
            (F_X12_isDigit fu x3_8 p_12.2).bind fun p_13 =>
            if p_13.1 = 0 then
              let x5_14 : Int64 := Int32.toInt64 x3_8
              (F_X12_isSignOf fu x3_8 p_13.2).bind fun p_15 =>
              if p_15.1 = 0 then
                (gR p_13.2 12 s 4).bind fun a_16 =>
                gd (xin x1 (gN p_15.2 20 a_16)) <|
                let M_17 := sI p_15.2 20 a_16 (xi x1) 4
                (gR M_17 12 s 6).bind fun a_18 =>
                gd (xin x1 (gN M_17 21 a_18)) <|
                let M_19 := sL M_17 21 a_18 (xi x1) x5_14
                L_X12_cutAll_17 fu n s (x1 + 1) (x2 + 1) M_19
              else
                (gR p_13.2 12 s 4).bind fun a_20 =>
                gd (xin x1 (gN p_15.2 20 a_20)) <|
                let M_21 := sI p_15.2 20 a_20 (xi x1) 3
                (gR M_21 12 s 6).bind fun a_22 =>
                gd (xin x1 (gN M_21 21 a_22)) <|
                let M_23 := sL M_21 21 a_22 (xi x1) x5_14
                L_X12_cutAll_17 fu n s (x1 + 1) (x2 + 1) M_23
            else
              L_X12_cutAll_159 fu (L_X12_cutAll_17 fu n) fu s x1 x2 x2 x5_9 p_13.2
          else
            L_X12_cutAll_70 fu (L_X12_cutAll_17 fu n) fu s x1 x2 x2 x5_9 p_12.2
        else
          L_X12_cutAll_17 fu n s x1 (x2 + 1) M
set_option maxRecDepth 100000 in
theorem q_X12_cutAll_17 (fu : Nat) (n : Nat) (s : Nat) (x1 : Int32) (x2 : Int32) (M : xM) :
    xrun pX12_cutAll flX12 koX12 nwX12 [(130, 1, 0, 0, w_X12_isLetter fu), (143, 1, 0, 0, w_X12_isDigit fu), (150, 1, 0, 0, w_X12_isSignOf fu)] [(17, fun bc bs ls st M => xz bc bs (lR ls 0 12 fun o => o.bind fun s => lI ls 1 fun x1 => lI ls 2 fun x2 => xe st (L_X12_cutAll_17 fu n s x1 x2 M))),
    (70, fun bc bs ls st M => xz bc bs (lR ls 0 12 fun o => o.bind fun s => lI ls 1 fun x1 => lI ls 2 fun x2 => lI ls 4 fun x4 => lL ls 5 fun x5 => xe st (L_X12_cutAll_70 fu (L_X12_cutAll_17 fu n) fu s x1 x2 x4 x5 M))),
    (159, fun bc bs ls st M => xz bc bs (lR ls 0 12 fun o => o.bind fun s => lI ls 1 fun x1 => lI ls 2 fun x2 => lI ls 4 fun x4 => lL ls 5 fun x5 => xe st (L_X12_cutAll_159 fu (L_X12_cutAll_17 fu n) fu s x1 x2 x4 x5 M)))] xrtV 171 (xat 17 pX12_cutAll) 0 0 [(0, .inr (.inr (12, some s))), (1, .inl x1), (2, .inl x2)] [] M = L_X12_cutAll_17 fu (n + 1) s x1 x2 M := rfl
def F_X12_cutAll (fu : Nat) (s : Nat) (M : xM) : Option xM :=
  let M_1 := sI M 12 s 3 (gI M 12 s 2)
  let M_2 := sI M_1 12 s 2 0
  L_X12_cutAll_17 fu fu s 0 0 M_2
set_option maxRecDepth 100000 in
theorem q_X12_cutAll (fu : Nat) (s : Nat) (M : xM) :
    xrun pX12_cutAll flX12 koX12 nwX12 [] [(17, fun bc bs ls st M => xz bc bs (lR ls 0 12 fun o => o.bind fun s => lI ls 1 fun x1 => lI ls 2 fun x2 => xe st (L_X12_cutAll_17 fu fu s x1 x2 M)))] xrtV 171 (xat 0 pX12_cutAll) 0 0 [(0, .inr (.inr (12, some s)))] [] M = F_X12_cutAll fu s M := rfl
def w_X12_cutAll (fu : Nat) {ρ : Type} (as : List xV) (M : xM) (k : Option xV → xM → Option ρ) : Option ρ := pR 12 as fun o as => o.bind fun s => xe as ((F_X12_cutAll fu s M).bind fun p => k none p)
def pX12_isAsSeen : List xE := [(0, 0, 1, 0, 1, [], .iconst 1),
  (0, 1, 1, 0, 0, [], .istore_n 2),
  (0, 2, 1, 0, 0, [], .iconst 0),
  (0, 3, 1, 0, 0, [], .istore_n 3),
  (1, 4, 1, 0, 0, [], .iload_n 3),
  (0, 5, 1, 0, 0, [], .aload_n 0),
  (0, 6, 3, 0, 0, [], .getfield 101),
  (0, 9, 3, 0, 502, [], .sipush 502),
  (0, 12, 1, 0, 0, [], .iaload),
  (0, 13, 3, 108, 0, [], .if_icmp .ge 95),
  (0, 16, 3, 0, 503, [], .sipush 503),
  (0, 19, 1, 0, 4, [], .iconst 4),
  (0, 20, 1, 0, 0, [], .iload_n 3),
  (0, 21, 1, 0, 0, [], .imul),
  (0, 22, 1, 0, 0, [], .iadd),
  (0, 23, 2, 0, 0, [], .istore 4),
  (0, 25, 1, 0, 0, [], .iload_n 2),
  (0, 26, 3, 100, 0, [], .ifCond .eq 74),
  (0, 29, 1, 0, 0, [], .aload_n 0),
  (0, 30, 3, 0, 0, [], .getfield 111),
  (0, 33, 1, 0, 3, [], .iconst 3),
  (0, 34, 1, 0, 0, [], .iload_n 1),
  (0, 35, 1, 0, 0, [], .imul),
  (0, 36, 1, 0, 4, [], .iconst 4),
  (0, 37, 1, 0, 0, [], .aload_n 0),
  (0, 38, 3, 0, 0, [], .getfield 101),
  (0, 41, 2, 0, 0, [], .iload 4),
  (0, 43, 1, 0, 0, [], .iaload),
  (0, 44, 1, 0, 0, [], .imul),
  (0, 45, 1, 0, 0, [], .aload_n 0),
  (0, 46, 3, 0, 0, [], .getfield 101),
  (0, 49, 2, 0, 0, [], .iload 4),
  (0, 51, 1, 0, 1, [], .iconst 1),
  (0, 52, 1, 0, 0, [], .iadd),
  (0, 53, 1, 0, 0, [], .iaload),
  (0, 54, 1, 0, 0, [], .iadd),
  (0, 55, 3, 0, 0, [], .invokestatic 420),
  (0, 58, 1, 0, 0, [], .aload_n 0),
  (0, 59, 3, 0, 0, [], .getfield 101),
  (0, 62, 2, 0, 0, [], .iload 4),
  (0, 64, 1, 0, 2, [], .iconst 2),
  (0, 65, 1, 0, 0, [], .iadd),
  (0, 66, 1, 0, 0, [], .iaload),
  (0, 67, 3, 74, 0, [], .if_icmp .ne 7),
  (0, 70, 1, 0, 1, [], .iconst 1),
  (0, 71, 3, 75, 0, [], .goto 4),
  (0, 74, 1, 0, 0, [], .iconst 0),
  (1, 75, 1, 0, 0, [], .aload_n 0),
  (0, 76, 3, 0, 0, [], .getfield 101),
  (0, 79, 2, 0, 0, [], .iload 4),
  (0, 81, 1, 0, 3, [], .iconst 3),
  (0, 82, 1, 0, 0, [], .iadd),
  (0, 83, 1, 0, 0, [], .iaload),
  (0, 84, 1, 0, 1, [], .iconst 1),
  (0, 85, 3, 92, 0, [], .if_icmp .ne 7),
  (0, 88, 1, 0, 1, [], .iconst 1),
  (0, 89, 3, 93, 0, [], .goto 4),
  (0, 92, 1, 0, 0, [], .iconst 0),
  (1, 93, 3, 100, 0, [], .if_icmp .ne 7),
  (0, 96, 1, 0, 1, [], .iconst 1),
  (0, 97, 3, 101, 0, [], .goto 4),
  (0, 100, 1, 0, 0, [], .iconst 0),
  (0, 101, 1, 0, 0, [], .istore_n 2),
  (0, 102, 3, 0, 1, [], .iinc 3 1),
  (0, 105, 3, 4, 0, [], .goto (-101)),
  (0, 108, 1, 0, 0, [], .iload_n 2),
  (0, 109, 1, 0, 0, [], .ireturn)]
def J_X12_isAsSeen_93 (fu : Nat) (k4 : Nat → Int32 → Int32 → Int32 → xM → Option (Int32 × xM)) (s : Nat) (x1 : Int32) (x3 : Int32) (y0 : Int32) (y1 : Int32) (M : xM) : Option (Int32 × xM) :=
  if ¬ y1 = y0 then
    k4 s x1 0 (x3 + 1) M
  else
    k4 s x1 1 (x3 + 1) M
set_option maxRecDepth 100000 in
theorem q_X12_isAsSeen_93 (fu : Nat) (k4 : Nat → Int32 → Int32 → Int32 → xM → Option (Int32 × xM)) (s : Nat) (x1 : Int32) (x3 : Int32) (y0 : Int32) (y1 : Int32) (M : xM) :
    xrun pX12_isAsSeen flX12 koX12 nwX12 [] [(4, fun bc bs ls st M => xz bc bs (lR ls 0 12 fun o => o.bind fun s => lI ls 1 fun x1 => lI ls 2 fun x2 => lI ls 3 fun x3 => xe st (k4 s x1 x2 x3 M)))] xrtZ 69 (xat 93 pX12_isAsSeen) 0 0 [(0, .inr (.inr (12, some s))), (1, .inl x1), (3, .inl x3)] [.inl y0, .inl y1] M = J_X12_isAsSeen_93 fu k4 s x1 x3 y0 y1 M := rfl
def J_X12_isAsSeen_75 (fu : Nat) (k4 : Nat → Int32 → Int32 → Int32 → xM → Option (Int32 × xM)) (s : Nat) (x1 : Int32) (x3 : Int32) (x4 : Int32) (y0 : Int32) (M : xM) : Option (Int32 × xM) :=
  (gR M 12 s 17).bind fun a_1 =>
  gd (xin (x4 + 3) (gN M 20 a_1)) <|
  if ¬ (gI M 20 a_1 (xi (x4 + 3))) = 1 then
    J_X12_isAsSeen_93 fu k4 s x1 x3 0 y0 M
  else
    J_X12_isAsSeen_93 fu k4 s x1 x3 1 y0 M
set_option maxRecDepth 100000 in
theorem q_X12_isAsSeen_75 (fu : Nat) (k4 : Nat → Int32 → Int32 → Int32 → xM → Option (Int32 × xM)) (s : Nat) (x1 : Int32) (x3 : Int32) (x4 : Int32) (y0 : Int32) (M : xM) :
    xrun pX12_isAsSeen flX12 koX12 nwX12 [] [(93, fun bc bs ls st M => xz bc bs (lR ls 0 12 fun o => o.bind fun s => lI ls 1 fun x1 => lI ls 3 fun x3 => pI st fun y0 st => pI st fun y1 st => xe st (J_X12_isAsSeen_93 fu k4 s x1 x3 y0 y1 M)))] xrtZ 69 (xat 75 pX12_isAsSeen) 0 0 [(0, .inr (.inr (12, some s))), (1, .inl x1), (3, .inl x3), (4, .inl x4)] [.inl y0] M = J_X12_isAsSeen_75 fu k4 s x1 x3 x4 y0 M := rfl
def L_X12_isAsSeen_4 (fu : Nat) : Nat → Nat → Int32 → Int32 → Int32 → xM → Option (Int32 × xM)
  | 0, _, _, _, _, _ => none
  | n + 1, s, x1, x2, x3, M =>
    (gR M 12 s 17).bind fun a_1 =>
    gd (xin 502 (gN M 20 a_1)) <|
    if (gI M 20 a_1 (xi 502)) ≤ x3 then
      gd (xbool x2) (some (x2, M))
    else
      let x4_2 : Int32 := 503 + (4 * x3)
      if x2 = 0 then
        L_X12_isAsSeen_4 fu n s x1 0 (x3 + 1) M
      else
        (gR M 12 s 17).bind fun a_3 =>
        gd (xin x4_2 (gN M 20 a_3)) <|
        (gR M 12 s 17).bind fun a_4 =>
        gd (xin (x4_2 + 1) (gN M 20 a_4)) <|
        (F_X12_saysIn fu (gR M 12 s 23) (3 * x1) ((4 * (gI M 20 a_3 (xi x4_2))) + (gI M 20 a_4 (xi (x4_2 + 1)))) M).bind fun p_5 =>
        (gR p_5.2 12 s 17).bind fun a_6 =>
        gd (xin (x4_2 + 2) (gN p_5.2 20 a_6)) <|
        if ¬ p_5.1 = (gI p_5.2 20 a_6 (xi (x4_2 + 2))) then
          J_X12_isAsSeen_75 fu (L_X12_isAsSeen_4 fu n) s x1 x3 x4_2 0 p_5.2
        else
          J_X12_isAsSeen_75 fu (L_X12_isAsSeen_4 fu n) s x1 x3 x4_2 1 p_5.2
set_option maxRecDepth 100000 in
theorem q_X12_isAsSeen_4 (fu : Nat) (n : Nat) (s : Nat) (x1 : Int32) (x2 : Int32) (x3 : Int32) (M : xM) :
    xrun pX12_isAsSeen flX12 koX12 nwX12 [(420, 3, 0, 0, w_X12_saysIn fu)] [(4, fun bc bs ls st M => xz bc bs (lR ls 0 12 fun o => o.bind fun s => lI ls 1 fun x1 => lI ls 2 fun x2 => lI ls 3 fun x3 => xe st (L_X12_isAsSeen_4 fu n s x1 x2 x3 M))),
    (75, fun bc bs ls st M => xz bc bs (lR ls 0 12 fun o => o.bind fun s => lI ls 1 fun x1 => lI ls 3 fun x3 => lI ls 4 fun x4 => pI st fun y0 st => xe st (J_X12_isAsSeen_75 fu (L_X12_isAsSeen_4 fu n) s x1 x3 x4 y0 M)))] xrtZ 69 (xat 4 pX12_isAsSeen) 0 0 [(0, .inr (.inr (12, some s))), (1, .inl x1), (2, .inl x2), (3, .inl x3)] [] M = L_X12_isAsSeen_4 fu (n + 1) s x1 x2 x3 M := rfl
def F_X12_isAsSeen (fu : Nat) (s : Nat) (x1 : Int32) (M : xM) : Option (Int32 × xM) :=
  L_X12_isAsSeen_4 fu fu s x1 1 0 M
set_option maxRecDepth 100000 in
theorem q_X12_isAsSeen (fu : Nat) (s : Nat) (x1 : Int32) (M : xM) :
    xrun pX12_isAsSeen flX12 koX12 nwX12 [] [(4, fun bc bs ls st M => xz bc bs (lR ls 0 12 fun o => o.bind fun s => lI ls 1 fun x1 => lI ls 2 fun x2 => lI ls 3 fun x3 => xe st (L_X12_isAsSeen_4 fu fu s x1 x2 x3 M)))] xrtZ 69 (xat 0 pX12_isAsSeen) 0 0 [(0, .inr (.inr (12, some s))), (1, .inl x1)] [] M = F_X12_isAsSeen fu s x1 M := rfl
def w_X12_isAsSeen (fu : Nat) {ρ : Type} (as : List xV) (M : xM) (k : Option xV → xM → Option ρ) : Option ρ := pR 12 as fun o as => o.bind fun s => pI as fun x1 as => xe as ((F_X12_isAsSeen fu s x1 M).bind fun p => k (some (.inl p.1)) p.2)
def pX12_cutsNow : List xE := [(0, 0, 1, 0, 0, [], .aload_n 0),
  (0, 1, 3, 0, 0, [], .invokevirtual 417),
  (0, 4, 1, 0, 0, [], .iconst 0),
  (0, 5, 1, 0, 0, [], .istore_n 1),
  (0, 6, 1, 0, 1, [], .iconst 1),
  (0, 7, 1, 0, 0, [], .istore_n 2),
  (1, 8, 1, 0, 0, [], .iload_n 2),
  (0, 9, 1, 0, 0, [], .aload_n 0),
  (0, 10, 3, 0, 0, [], .invokevirtual 414),
  (0, 13, 3, 38, 0, [], .if_icmp .gt 25),
  (0, 16, 1, 0, 0, [], .iload_n 1),
  (0, 17, 1, 0, 0, [], .aload_n 0),
  (0, 18, 1, 0, 0, [], .iload_n 2),
  (0, 19, 3, 0, 0, [], .invokevirtual 428),
  (0, 22, 3, 29, 0, [], .ifCond .eq 7),
  (0, 25, 1, 0, 1, [], .iconst 1),
  (0, 26, 3, 30, 0, [], .goto 4),
  (0, 29, 1, 0, 0, [], .iconst 0),
  (0, 30, 1, 0, 0, [], .iadd),
  (0, 31, 1, 0, 0, [], .istore_n 1),
  (0, 32, 3, 0, 1, [], .iinc 2 1),
  (0, 35, 3, 8, 0, [], .goto (-27)),
  (0, 38, 1, 0, 0, [], .iload_n 1),
  (0, 39, 1, 0, 0, [], .ireturn)]
def L_X12_cutsNow_8 (fu : Nat) : Nat → Nat → Int32 → Int32 → xM → Option (Int32 × xM)
  | 0, _, _, _, _ => none
  | n + 1, s, x1, x2, M =>
    (F_X12_putsOfAll fu s M).bind fun p_1 =>
    if p_1.1 < x2 then
      (some (x1, p_1.2))
    else
      (F_X12_isAsSeen fu s x2 p_1.2).bind fun p_2 =>
      if p_2.1 = 0 then
        let x1_3 : Int32 := x1 + 0
        L_X12_cutsNow_8 fu n s x1_3 (x2 + 1) p_2.2
      else
        let x1_4 : Int32 := x1 + 1
        L_X12_cutsNow_8 fu n s x1_4 (x2 + 1) p_2.2
set_option maxRecDepth 100000 in
theorem q_X12_cutsNow_8 (fu : Nat) (n : Nat) (s : Nat) (x1 : Int32) (x2 : Int32) (M : xM) :
    xrun pX12_cutsNow flX12 koX12 nwX12 [(414, 1, 0, 0, w_X12_putsOfAll fu), (428, 2, 0, 0, w_X12_isAsSeen fu)] [(8, fun bc bs ls st M => xz bc bs (lR ls 0 12 fun o => o.bind fun s => lI ls 1 fun x1 => lI ls 2 fun x2 => xe st (L_X12_cutsNow_8 fu n s x1 x2 M)))] xrtI 26 (xat 8 pX12_cutsNow) 0 0 [(0, .inr (.inr (12, some s))), (1, .inl x1), (2, .inl x2)] [] M = L_X12_cutsNow_8 fu (n + 1) s x1 x2 M := rfl
def F_X12_cutsNow (fu : Nat) (s : Nat) (M : xM) : Option (Int32 × xM) :=
  (F_X12_runs fu s M).bind fun p_1 =>
  L_X12_cutsNow_8 fu fu s 0 1 p_1
set_option maxRecDepth 100000 in
theorem q_X12_cutsNow (fu : Nat) (s : Nat) (M : xM) :
    xrun pX12_cutsNow flX12 koX12 nwX12 [(417, 1, 0, 0, w_X12_runs fu)] [(8, fun bc bs ls st M => xz bc bs (lR ls 0 12 fun o => o.bind fun s => lI ls 1 fun x1 => lI ls 2 fun x2 => xe st (L_X12_cutsNow_8 fu fu s x1 x2 M)))] xrtI 26 (xat 0 pX12_cutsNow) 0 0 [(0, .inr (.inr (12, some s)))] [] M = F_X12_cutsNow fu s M := rfl
def w_X12_cutsNow (fu : Nat) {ρ : Type} (as : List xV) (M : xM) (k : Option xV → xM → Option ρ) : Option ρ := pR 12 as fun o as => o.bind fun s => xe as ((F_X12_cutsNow fu s M).bind fun p => k (some (.inl p.1)) p.2)
def pX12_cuts : List xE := [(0, 0, 1, 0, 0, [], .aload_n 0),
  (0, 1, 1, 0, 0, [], .iconst 0),
  (0, 2, 3, 0, 0, [], .putfield 1),
  (0, 5, 1, 0, 0, [], .aload_n 0),
  (0, 6, 3, 0, 0, [], .invokevirtual 431),
  (0, 9, 1, 0, 0, [], .ireturn)]
def F_X12_cuts (fu : Nat) (s : Nat) (M : xM) : Option (Int32 × xM) :=
  let M_1 := sI M 12 s 0 0
  (F_X12_cutsNow fu s M_1).bind fun p_2 =>
  (some (p_2.1, p_2.2))
set_option maxRecDepth 100000 in
theorem q_X12_cuts (fu : Nat) (s : Nat) (M : xM) :
    xrun pX12_cuts flX12 koX12 nwX12 [(431, 1, 0, 0, w_X12_cutsNow fu)] [] xrtI 8 (xat 0 pX12_cuts) 0 0 [(0, .inr (.inr (12, some s)))] [] M = F_X12_cuts fu s M := rfl
def w_X12_cuts (fu : Nat) {ρ : Type} (as : List xV) (M : xM) (k : Option xV → xM → Option ρ) : Option ρ := pR 12 as fun o as => o.bind fun s => xe as ((F_X12_cuts fu s M).bind fun p => k (some (.inl p.1)) p.2)
def pX12_emit : List xE := [(0, 0, 1, 0, 0, [], .aload_n 0),
  (0, 1, 3, 0, 0, [], .getfield 86),
  (0, 4, 3, 0, 1100, [], .sipush 1100),
  (0, 7, 1, 0, 0, [], .aload_n 0),
  (0, 8, 3, 0, 0, [], .getfield 178),
  (0, 11, 1, 0, 0, [], .iadd),
  (0, 12, 1, 0, 0, [], .iload_n 1),
  (0, 13, 2, 0, 16, [], .bipush 16),
  (0, 15, 1, 0, 0, [], .iload_n 2),
  (0, 16, 1, 0, 0, [], .imul),
  (0, 17, 1, 0, 0, [], .iadd),
  (0, 18, 1, 0, 0, [], .iastore),
  (0, 19, 1, 0, 0, [], .aload_n 0),
  (0, 20, 1, 0, 0, [], .dup),
  (0, 21, 3, 0, 0, [], .getfield 178),
  (0, 24, 1, 0, 1, [], .iconst 1),
  (0, 25, 1, 0, 0, [], .iadd),
  (0, 26, 3, 0, 0, [], .putfield 178),
  (0, 29, 1, 0, 0, [], .return_)]
def F_X12_emit (fu : Nat) (s : Nat) (x1 : Int32) (x2 : Int32) (M : xM) : Option xM :=
  (gR M 12 s 11).bind fun a_1 =>
  gd (xin (1100 + (gI M 12 s 12)) (gN M 20 a_1)) <|
  let M_2 := sI M 20 a_1 (xi (1100 + (gI M 12 s 12))) (x1 + (16 * x2))
  let M_3 := sI M_2 12 s 12 ((gI M_2 12 s 12) + 1)
  some M_3
set_option maxRecDepth 100000 in
theorem q_X12_emit (fu : Nat) (s : Nat) (x1 : Int32) (x2 : Int32) (M : xM) :
    xrun pX12_emit flX12 koX12 nwX12 [] [] xrtV 21 (xat 0 pX12_emit) 0 0 [(0, .inr (.inr (12, some s))), (1, .inl x1), (2, .inl x2)] [] M = F_X12_emit fu s x1 x2 M := rfl
def w_X12_emit (fu : Nat) {ρ : Type} (as : List xV) (M : xM) (k : Option xV → xM → Option ρ) : Option ρ := pR 12 as fun o as => o.bind fun s => pI as fun x1 as => pI as fun x2 as => xe as ((F_X12_emit fu s x1 x2 M).bind fun p => k none p)
def pX12_ends : List xE := [(0, 0, 1, 0, 0, [], .aload_n 0),
  (0, 1, 1, 0, 0, [], .iconst 0),
  (0, 2, 3, 0, 0, [], .putfield 1),
  (0, 5, 1, 0, 0, [], .aload_n 0),
  (0, 6, 3, 0, 0, [], .invokevirtual 417),
  (0, 9, 1, 0, 0, [], .iconst 0),
  (0, 10, 1, 0, 0, [], .istore_n 1),
  (0, 11, 1, 0, 1, [], .iconst 1),
  (0, 12, 1, 0, 0, [], .istore_n 2),
  (1, 13, 1, 0, 0, [], .iload_n 2),
  (0, 14, 1, 0, 0, [], .aload_n 0),
  (0, 15, 3, 0, 0, [], .invokevirtual 414),
  (0, 18, 3, 87, 0, [], .if_icmp .gt 69),
  (0, 21, 1, 0, 1, [], .iconst 1),
  (0, 22, 1, 0, 0, [], .istore_n 3),
  (0, 23, 1, 0, 1, [], .iconst 1),
  (0, 24, 2, 0, 0, [], .istore 4),
  (1, 26, 2, 0, 0, [], .iload 4),
  (0, 28, 1, 0, 0, [], .iload_n 2),
  (0, 29, 3, 69, 0, [], .if_icmp .ge 40),
  (0, 32, 1, 0, 0, [], .iload_n 3),
  (0, 33, 3, 69, 0, [], .ifCond .eq 36),
  (0, 36, 1, 0, 0, [], .aload_n 0),
  (0, 37, 3, 0, 0, [], .getfield 111),
  (0, 40, 1, 0, 3, [], .iconst 3),
  (0, 41, 1, 0, 0, [], .iload_n 2),
  (0, 42, 1, 0, 0, [], .imul),
  (0, 43, 1, 0, 0, [], .aload_n 0),
  (0, 44, 3, 0, 0, [], .getfield 111),
  (0, 47, 1, 0, 3, [], .iconst 3),
  (0, 48, 2, 0, 0, [], .iload 4),
  (0, 50, 1, 0, 0, [], .imul),
  (0, 51, 3, 0, 0, [], .invokestatic 424),
  (0, 54, 3, 61, 0, [], .ifCond .ne 7),
  (0, 57, 1, 0, 1, [], .iconst 1),
  (0, 58, 3, 62, 0, [], .goto 4),
  (0, 61, 1, 0, 0, [], .iconst 0),
  (0, 62, 1, 0, 0, [], .istore_n 3),
  (0, 63, 3, 0, 1, [], .iinc 4 1),
  (0, 66, 3, 26, 0, [], .goto (-40)),
  (1, 69, 1, 0, 0, [], .iload_n 1),
  (0, 70, 1, 0, 0, [], .iload_n 3),
  (0, 71, 3, 78, 0, [], .ifCond .eq 7),
  (0, 74, 1, 0, 1, [], .iconst 1),
  (0, 75, 3, 79, 0, [], .goto 4),
  (0, 78, 1, 0, 0, [], .iconst 0),
  (0, 79, 1, 0, 0, [], .iadd),
  (0, 80, 1, 0, 0, [], .istore_n 1),
  (0, 81, 3, 0, 1, [], .iinc 2 1),
  (0, 84, 3, 13, 0, [], .goto (-71)),
  (0, 87, 1, 0, 0, [], .iload_n 1),
  (0, 88, 1, 0, 0, [], .ireturn)]
def J_X12_ends_69 (fu : Nat) (k13 : Nat → Int32 → Int32 → xM → Option (Int32 × xM)) (s : Nat) (x1 : Int32) (x2 : Int32) (x3 : Int32) (M : xM) : Option (Int32 × xM) :=
  if x3 = 0 then
    let x1_1 : Int32 := x1 + 0
    k13 s x1_1 (x2 + 1) M
  else
    let x1_2 : Int32 := x1 + 1
    k13 s x1_2 (x2 + 1) M
set_option maxRecDepth 100000 in
theorem q_X12_ends_69 (fu : Nat) (k13 : Nat → Int32 → Int32 → xM → Option (Int32 × xM)) (s : Nat) (x1 : Int32) (x2 : Int32) (x3 : Int32) (M : xM) :
    xrun pX12_ends flX12 koX12 nwX12 [] [(13, fun bc bs ls st M => xz bc bs (lR ls 0 12 fun o => o.bind fun s => lI ls 1 fun x1 => lI ls 2 fun x2 => xe st (k13 s x1 x2 M)))] xrtI 54 (xat 69 pX12_ends) 0 0 [(0, .inr (.inr (12, some s))), (1, .inl x1), (2, .inl x2), (3, .inl x3)] [] M = J_X12_ends_69 fu k13 s x1 x2 x3 M := rfl
def L_X12_ends_26 (fu : Nat) (k13 : Nat → Int32 → Int32 → xM → Option (Int32 × xM)) : Nat → Nat → Int32 → Int32 → Int32 → Int32 → xM → Option (Int32 × xM)
  | 0, _, _, _, _, _, _ => none
  | n + 1, s, x1, x2, x3, x4, M =>
    if x2 ≤ x4 then
      J_X12_ends_69 fu k13 s x1 x2 x3 M
    else
      if x3 = 0 then
        J_X12_ends_69 fu k13 s x1 x2 x3 M
      else
        (F_X12_areSame fu (gR M 12 s 23) (3 * x2) (gR M 12 s 23) (3 * x4) M).bind fun p_1 =>
        if ¬ p_1.1 = 0 then
          L_X12_ends_26 fu k13 n s x1 x2 0 (x4 + 1) p_1.2
        else
          L_X12_ends_26 fu k13 n s x1 x2 1 (x4 + 1) p_1.2
set_option maxRecDepth 100000 in
theorem q_X12_ends_26 (fu : Nat) (k13 : Nat → Int32 → Int32 → xM → Option (Int32 × xM)) (n : Nat) (s : Nat) (x1 : Int32) (x2 : Int32) (x3 : Int32) (x4 : Int32) (M : xM) :
    xrun pX12_ends flX12 koX12 nwX12 [(424, 4, 0, 0, w_X12_areSame fu)] [(26, fun bc bs ls st M => xz bc bs (lR ls 0 12 fun o => o.bind fun s => lI ls 1 fun x1 => lI ls 2 fun x2 => lI ls 3 fun x3 => lI ls 4 fun x4 => xe st (L_X12_ends_26 fu k13 n s x1 x2 x3 x4 M))),
    (69, fun bc bs ls st M => xz bc bs (lR ls 0 12 fun o => o.bind fun s => lI ls 1 fun x1 => lI ls 2 fun x2 => lI ls 3 fun x3 => xe st (J_X12_ends_69 fu k13 s x1 x2 x3 M)))] xrtI 54 (xat 26 pX12_ends) 0 0 [(0, .inr (.inr (12, some s))), (1, .inl x1), (2, .inl x2), (3, .inl x3), (4, .inl x4)] [] M = L_X12_ends_26 fu k13 (n + 1) s x1 x2 x3 x4 M := rfl
def L_X12_ends_13 (fu : Nat) : Nat → Nat → Int32 → Int32 → xM → Option (Int32 × xM)
  | 0, _, _, _, _ => none
  | n + 1, s, x1, x2, M =>
    (F_X12_putsOfAll fu s M).bind fun p_1 =>
    if p_1.1 < x2 then
      (some (x1, p_1.2))
    else
      L_X12_ends_26 fu (L_X12_ends_13 fu n) fu s x1 x2 1 1 p_1.2
set_option maxRecDepth 100000 in
theorem q_X12_ends_13 (fu : Nat) (n : Nat) (s : Nat) (x1 : Int32) (x2 : Int32) (M : xM) :
    xrun pX12_ends flX12 koX12 nwX12 [(414, 1, 0, 0, w_X12_putsOfAll fu)] [(26, fun bc bs ls st M => xz bc bs (lR ls 0 12 fun o => o.bind fun s => lI ls 1 fun x1 => lI ls 2 fun x2 => lI ls 3 fun x3 => lI ls 4 fun x4 => xe st (L_X12_ends_26 fu (L_X12_ends_13 fu n) fu s x1 x2 x3 x4 M)))] xrtI 54 (xat 13 pX12_ends) 0 0 [(0, .inr (.inr (12, some s))), (1, .inl x1), (2, .inl x2)] [] M = L_X12_ends_13 fu (n + 1) s x1 x2 M := rfl
def F_X12_ends (fu : Nat) (s : Nat) (M : xM) : Option (Int32 × xM) :=
  let M_1 := sI M 12 s 0 0
  (F_X12_runs fu s M_1).bind fun p_2 =>
  L_X12_ends_13 fu fu s 0 1 p_2
set_option maxRecDepth 100000 in
theorem q_X12_ends (fu : Nat) (s : Nat) (M : xM) :
    xrun pX12_ends flX12 koX12 nwX12 [(417, 1, 0, 0, w_X12_runs fu)] [(13, fun bc bs ls st M => xz bc bs (lR ls 0 12 fun o => o.bind fun s => lI ls 1 fun x1 => lI ls 2 fun x2 => xe st (L_X12_ends_13 fu fu s x1 x2 M)))] xrtI 54 (xat 0 pX12_ends) 0 0 [(0, .inr (.inr (12, some s)))] [] M = F_X12_ends fu s M := rfl
def w_X12_ends (fu : Nat) {ρ : Type} (as : List xV) (M : xM) (k : Option xV → xM → Option ρ) : Option ρ := pR 12 as fun o as => o.bind fun s => xe as ((F_X12_ends fu s M).bind fun p => k (some (.inl p.1)) p.2)
def pX12_lay : List xE := [(0, 0, 2, 0, 56, [], .bipush 56),
  (0, 2, 1, 0, 0, [], .istore_n 3),
  (1, 3, 1, 0, 0, [], .iload_n 3),
  (0, 4, 3, 75, 0, [], .ifCond .lt 71),
  (0, 7, 1, 0, 0, [], .lload_n 1),
  (0, 8, 1, 0, 0, [], .iload_n 3),
  (0, 9, 1, 0, 0, [], .lshr),
  (0, 10, 1, 0, 0, [], .l2i),
  (0, 11, 3, 0, 255, [], .sipush 255),
  (0, 14, 1, 0, 0, [], .iand),
  (0, 15, 2, 0, 0, [], .istore 4),
  (0, 17, 2, 0, 0, [], .iload 4),
  (0, 19, 2, 0, 10, [], .bipush 10),
  (0, 21, 3, 38, 0, [], .if_icmp .eq 17),
  (0, 24, 2, 0, 0, [], .iload 4),
  (0, 26, 2, 0, 32, [], .bipush 32),
  (0, 28, 3, 69, 0, [], .if_icmp .lt 41),
  (0, 31, 2, 0, 0, [], .iload 4),
  (0, 33, 2, 0, 126, [], .bipush 126),
  (0, 35, 3, 69, 0, [], .if_icmp .gt 34),
  (1, 38, 1, 0, 0, [], .aload_n 0),
  (0, 39, 3, 0, 0, [], .getfield 11),
  (0, 42, 3, 0, 1000, [], .sipush 1000),
  (0, 45, 3, 69, 0, [], .if_icmp .ge 24),
  (0, 48, 1, 0, 0, [], .aload_n 0),
  (0, 49, 3, 0, 0, [], .getfield 14),
  (0, 52, 1, 0, 0, [], .aload_n 0),
  (0, 53, 3, 0, 0, [], .getfield 11),
  (0, 56, 2, 0, 0, [], .iload 4),
  (0, 58, 1, 0, 0, [], .iastore),
  (0, 59, 1, 0, 0, [], .aload_n 0),
  (0, 60, 1, 0, 0, [], .dup),
  (0, 61, 3, 0, 0, [], .getfield 11),
  (0, 64, 1, 0, 1, [], .iconst 1),
  (0, 65, 1, 0, 0, [], .iadd),
  (0, 66, 3, 0, 0, [], .putfield 11),
  (0, 69, 3, 0, (-8), [], .iinc 3 (-8)),
  (0, 72, 3, 3, 0, [], .goto (-69)),
  (0, 75, 1, 0, 0, [], .return_)]
def J_X12_lay_38 (fu : Nat) (k3 : Nat → Int64 → Int32 → xM → Option xM) (s : Nat) (x1 : Int64) (x3 : Int32) (x4 : Int32) (M : xM) : Option xM :=
  if 1000 ≤ (gI M 12 s 2) then
    k3 s x1 (x3 + (-8)) M
  else
    (gR M 12 s 1).bind fun a_1 =>
    gd (xin (gI M 12 s 2) (gN M 20 a_1)) <|
    let M_2 := sI M 20 a_1 (xi (gI M 12 s 2)) x4
    let M_3 := sI M_2 12 s 2 ((gI M_2 12 s 2) + 1)
    k3 s x1 (x3 + (-8)) M_3
set_option maxRecDepth 100000 in
theorem q_X12_lay_38 (fu : Nat) (k3 : Nat → Int64 → Int32 → xM → Option xM) (s : Nat) (x1 : Int64) (x3 : Int32) (x4 : Int32) (M : xM) :
    xrun pX12_lay flX12 koX12 nwX12 [] [(3, fun bc bs ls st M => xz bc bs (lR ls 0 12 fun o => o.bind fun s => lL ls 1 fun x1 => lI ls 3 fun x3 => xe st (k3 s x1 x3 M)))] xrtV 41 (xat 38 pX12_lay) 0 0 [(0, .inr (.inr (12, some s))), (1, .inr (.inl x1)), (3, .inl x3), (4, .inl x4)] [] M = J_X12_lay_38 fu k3 s x1 x3 x4 M := rfl
def L_X12_lay_3 (fu : Nat) : Nat → Nat → Int64 → Int32 → xM → Option xM
  | 0, _, _, _, _ => none
  | n + 1, s, x1, x3, M =>
    if x3 < 0 then
      some M
    else
      let x4_1 : Int32 := (Int64.toInt32 (x1 >>> ((x3 : Int32).toInt64 &&& 63))) &&& 255
      if x4_1 = 10 then
        J_X12_lay_38 fu (L_X12_lay_3 fu n) s x1 x3 x4_1 M
      else
        if x4_1 < 32 then
          L_X12_lay_3 fu n s x1 (x3 + (-8)) M
        else
          if 126 < x4_1 then
            L_X12_lay_3 fu n s x1 (x3 + (-8)) M
          else
            J_X12_lay_38 fu (L_X12_lay_3 fu n) s x1 x3 x4_1 M
set_option maxRecDepth 100000 in
theorem q_X12_lay_3 (fu : Nat) (n : Nat) (s : Nat) (x1 : Int64) (x3 : Int32) (M : xM) :
    xrun pX12_lay flX12 koX12 nwX12 [] [(3, fun bc bs ls st M => xz bc bs (lR ls 0 12 fun o => o.bind fun s => lL ls 1 fun x1 => lI ls 3 fun x3 => xe st (L_X12_lay_3 fu n s x1 x3 M))),
    (38, fun bc bs ls st M => xz bc bs (lR ls 0 12 fun o => o.bind fun s => lL ls 1 fun x1 => lI ls 3 fun x3 => lI ls 4 fun x4 => xe st (J_X12_lay_38 fu (L_X12_lay_3 fu n) s x1 x3 x4 M)))] xrtV 41 (xat 3 pX12_lay) 0 0 [(0, .inr (.inr (12, some s))), (1, .inr (.inl x1)), (3, .inl x3)] [] M = L_X12_lay_3 fu (n + 1) s x1 x3 M := rfl
def F_X12_lay (fu : Nat) (s : Nat) (x1 : Int64) (M : xM) : Option xM :=
  L_X12_lay_3 fu fu s x1 56 M
set_option maxRecDepth 100000 in
theorem q_X12_lay (fu : Nat) (s : Nat) (x1 : Int64) (M : xM) :
    xrun pX12_lay flX12 koX12 nwX12 [] [(3, fun bc bs ls st M => xz bc bs (lR ls 0 12 fun o => o.bind fun s => lL ls 1 fun x1 => lI ls 3 fun x3 => xe st (L_X12_lay_3 fu fu s x1 x3 M)))] xrtV 41 (xat 0 pX12_lay) 0 0 [(0, .inr (.inr (12, some s))), (1, .inr (.inl x1))] [] M = F_X12_lay fu s x1 M := rfl
def w_X12_lay (fu : Nat) {ρ : Type} (as : List xV) (M : xM) (k : Option xV → xM → Option ρ) : Option ρ := pR 12 as fun o as => o.bind fun s => pL as fun x1 as => xe as ((F_X12_lay fu s x1 M).bind fun p => k none p)
def pX12_feed : List xE := [(0, 0, 1, 0, 0, [], .aload_n 0),
  (0, 1, 1, 0, 0, [], .iconst 0),
  (0, 2, 3, 0, 0, [], .putfield 1),
  (0, 5, 1, 0, 0, [], .aload_n 0),
  (0, 6, 1, 0, 0, [], .lload_n 1),
  (0, 7, 3, 0, 0, [], .invokevirtual 7),
  (0, 10, 1, 0, 0, [], .aload_n 0),
  (0, 11, 1, 0, 0, [], .lload_n 3),
  (0, 12, 3, 0, 0, [], .invokevirtual 7),
  (0, 15, 1, 0, 0, [], .aload_n 0),
  (0, 16, 2, 0, 0, [], .lload 5),
  (0, 18, 3, 0, 0, [], .invokevirtual 7),
  (0, 21, 1, 0, 0, [], .aload_n 0),
  (0, 22, 3, 0, 0, [], .getfield 11),
  (0, 25, 1, 0, 0, [], .ireturn)]
def F_X12_feed (fu : Nat) (s : Nat) (x1 : Int64) (x3 : Int64) (x5 : Int64) (M : xM) : Option (Int32 × xM) :=
  let M_1 := sI M 12 s 0 0
  (F_X12_lay fu s x1 M_1).bind fun p_2 =>
  (F_X12_lay fu s x3 p_2).bind fun p_3 =>
  (F_X12_lay fu s x5 p_3).bind fun p_4 =>
  (some (gI p_4 12 s 2, p_4))
set_option maxRecDepth 100000 in
theorem q_X12_feed (fu : Nat) (s : Nat) (x1 : Int64) (x3 : Int64) (x5 : Int64) (M : xM) :
    xrun pX12_feed flX12 koX12 nwX12 [(7, 2, 0, 0, w_X12_lay fu)] [] xrtI 17 (xat 0 pX12_feed) 0 0 [(0, .inr (.inr (12, some s))), (1, .inr (.inl x1)), (3, .inr (.inl x3)), (5, .inr (.inl x5))] [] M = F_X12_feed fu s x1 x3 x5 M := rfl
def w_X12_feed (fu : Nat) {ρ : Type} (as : List xV) (M : xM) (k : Option xV → xM → Option ρ) : Option ρ := pR 12 as fun o as => o.bind fun s => pL as fun x1 as => pL as fun x3 as => pL as fun x5 as => xe as ((F_X12_feed fu s x1 x3 x5 M).bind fun p => k (some (.inl p.1)) p.2)
def pX12_file : List xE := [(0, 0, 1, 0, 0, [], .aload_n 0),
  (0, 1, 1, 0, 0, [], .iconst 0),
  (0, 2, 3, 0, 0, [], .putfield 1),
  (0, 5, 1, 0, 0, [], .aload_n 0),
  (0, 6, 1, 0, 0, [], .iload_n 1),
  (0, 7, 3, 0, 0, [], .invokevirtual 258),
  (0, 10, 3, 15, 0, [], .ifCond .ne 5),
  (0, 13, 1, 0, (-1), [], .iconst (-1)),
  (0, 14, 1, 0, 0, [], .ireturn),
  (0, 15, 1, 0, 0, [], .iload_n 2),
  (0, 16, 36, 101, 0, [(0, 52), (1, 58), (2, 64), (3, 71), (4, 86)], .tableswitch 85 0 4 #[36, 42, 48, 55, 70]),
  (0, 52, 1, 0, 0, [], .aload_n 0),
  (0, 53, 1, 0, 0, [], .iload_n 1),
  (0, 54, 3, 0, 0, [], .invokevirtual 348),
  (0, 57, 1, 0, 0, [], .ireturn),
  (0, 58, 1, 0, 0, [], .aload_n 0),
  (0, 59, 1, 0, 0, [], .iload_n 1),
  (0, 60, 3, 0, 0, [], .invokevirtual 261),
  (0, 63, 1, 0, 0, [], .ireturn),
  (0, 64, 1, 0, 0, [], .aload_n 0),
  (0, 65, 1, 0, 0, [], .iconst 0),
  (0, 66, 1, 0, 0, [], .iload_n 1),
  (0, 67, 3, 0, 0, [], .invokevirtual 368),
  (0, 70, 1, 0, 0, [], .ireturn),
  (0, 71, 1, 0, 0, [], .aload_n 0),
  (0, 72, 1, 0, 0, [], .iconst 0),
  (0, 73, 1, 0, 0, [], .iload_n 1),
  (0, 74, 3, 0, 0, [], .invokevirtual 371),
  (0, 77, 3, 84, 0, [], .ifCond .eq 7),
  (0, 80, 1, 0, 1, [], .iconst 1),
  (0, 81, 3, 85, 0, [], .goto 4),
  (0, 84, 1, 0, 0, [], .iconst 0),
  (0, 85, 1, 0, 0, [], .ireturn),
  (0, 86, 1, 0, 0, [], .aload_n 0),
  (0, 87, 1, 0, 0, [], .iconst 0),
  (0, 88, 1, 0, 0, [], .iload_n 1),
  (0, 89, 3, 0, 0, [], .invokevirtual 270),
  (0, 92, 3, 99, 0, [], .ifCond .eq 7),
  (0, 95, 1, 0, 1, [], .iconst 1),
  (0, 96, 3, 100, 0, [], .goto 4),
  (0, 99, 1, 0, 0, [], .iconst 0),
  (0, 100, 1, 0, 0, [], .ireturn),
  (0, 101, 1, 0, (-1), [], .iconst (-1)),
  (0, 102, 1, 0, 0, [], .ireturn)]
def F_X12_file (fu : Nat) (s : Nat) (x1 : Int32) (x2 : Int32) (M : xM) : Option (Int32 × xM) :=
  let M_1 := sI M 12 s 0 0
  (F_X12_isFile fu s x1 M_1).bind fun p_2 =>
  if ¬ p_2.1 = 0 then
    if x2 = 0 then
      (F_X12_kindOf fu s x1 p_2.2).bind fun p_3 =>
      (some (p_3.1, p_3.2))
    else
    if x2 = 1 then
      (F_X12_pagesOf fu s x1 p_2.2).bind fun p_4 =>
      (some (p_4.1, p_4.2))
    else
    if x2 = 2 then
      (F_X12_mappedOf fu s 0 x1 p_2.2).bind fun p_5 =>
      (some (p_5.1, p_5.2))
    else
    if x2 = 3 then
      (F_X12_isOpen fu s 0 x1 p_2.2).bind fun p_6 =>
      if p_6.1 = 0 then
        (some (0, p_6.2))
      else
        (some (1, p_6.2))
    else
    if x2 = 4 then
      (F_X12_isOrphan fu s 0 x1 p_2.2).bind fun p_7 =>
      if p_7.1 = 0 then
        (some (0, p_7.2))
      else
        (some (1, p_7.2))
    else
      (some ((-1), p_2.2))
  else
    (some ((-1), p_2.2))
set_option maxRecDepth 100000 in
theorem q_X12_file (fu : Nat) (s : Nat) (x1 : Int32) (x2 : Int32) (M : xM) :
    xrun pX12_file flX12 koX12 nwX12 [(258, 2, 0, 0, w_X12_isFile fu), (261, 2, 0, 0, w_X12_pagesOf fu), (270, 3, 0, 0, w_X12_isOrphan fu), (348, 2, 0, 0, w_X12_kindOf fu), (368, 3, 0, 0, w_X12_mappedOf fu), (371, 3, 0, 0, w_X12_isOpen fu)] [] xrtI 46 (xat 0 pX12_file) 0 0 [(0, .inr (.inr (12, some s))), (1, .inl x1), (2, .inl x2)] [] M = F_X12_file fu s x1 x2 M := rfl
def w_X12_file (fu : Nat) {ρ : Type} (as : List xV) (M : xM) (k : Option xV → xM → Option ρ) : Option ρ := pR 12 as fun o as => o.bind fun s => pI as fun x1 as => pI as fun x2 as => xe as ((F_X12_file fu s x1 x2 M).bind fun p => k (some (.inl p.1)) p.2)
def pX12_found : List xE := [(0, 0, 1, 0, 0, [], .aload_n 0),
  (0, 1, 1, 0, 0, [], .iconst 0),
  (0, 2, 3, 0, 0, [], .putfield 1),
  (0, 5, 1, 0, 0, [], .aload_n 0),
  (0, 6, 3, 0, 0, [], .invokevirtual 440),
  (0, 9, 1, 0, 0, [], .aload_n 0),
  (0, 10, 3, 0, 1605, [], .sipush 1605),
  (0, 13, 1, 0, (-1), [], .iconst (-1)),
  (0, 14, 3, 0, 0, [], .invokevirtual 274),
  (0, 17, 1, 0, 0, [], .ireturn)]
def F_X12_found (fu : Nat) (s : Nat) (M : xM) : Option (Int32 × xM) :=
  let M_1 := sI M 12 s 0 0
  (F_X12_finds fu s M_1).bind fun p_2 =>
  (F_X12_pagesKept fu s 1605 ((-1)) p_2).bind fun p_3 =>
  (some (p_3.1, p_3.2))
set_option maxRecDepth 100000 in
theorem q_X12_found (fu : Nat) (s : Nat) (M : xM) :
    xrun pX12_found flX12 koX12 nwX12 [(274, 3, 0, 0, w_X12_pagesKept fu), (440, 1, 0, 0, w_X12_finds fu)] [] xrtI 12 (xat 0 pX12_found) 0 0 [(0, .inr (.inr (12, some s)))] [] M = F_X12_found fu s M := rfl
def w_X12_found (fu : Nat) {ρ : Type} (as : List xV) (M : xM) (k : Option xV → xM → Option ρ) : Option ρ := pR 12 as fun o as => o.bind fun s => xe as ((F_X12_found fu s M).bind fun p => k (some (.inl p.1)) p.2)
def pX12_gain : List xE := [(0, 0, 1, 0, 0, [], .aload_n 0),
  (0, 1, 1, 0, 0, [], .iconst 0),
  (0, 2, 3, 0, 0, [], .putfield 1),
  (0, 5, 1, 0, 0, [], .aload_n 0),
  (0, 6, 1, 0, 0, [], .iconst 0),
  (0, 7, 3, 0, 0, [], .invokevirtual 333),
  (0, 10, 1, 0, 0, [], .istore_n 1),
  (0, 11, 1, 0, 0, [], .iload_n 1),
  (0, 12, 3, 19, 0, [], .ifCond .ge 7),
  (0, 15, 1, 0, (-1), [], .iconst (-1)),
  (0, 16, 3, 35, 0, [], .goto 19),
  (0, 19, 1, 0, 0, [], .aload_n 0),
  (0, 20, 1, 0, 0, [], .iconst 0),
  (0, 21, 1, 0, 0, [], .aload_n 0),
  (0, 22, 3, 0, 0, [], .invokevirtual 255),
  (0, 25, 1, 0, 0, [], .iload_n 1),
  (0, 26, 1, 0, 0, [], .imul),
  (0, 27, 1, 0, 0, [], .aload_n 0),
  (0, 28, 3, 0, 0, [], .invokevirtual 255),
  (0, 31, 1, 0, 2, [], .iconst 2),
  (0, 32, 3, 0, 0, [], .invokevirtual 329),
  (0, 35, 1, 0, 0, [], .ireturn)]
def F_X12_gain (fu : Nat) (s : Nat) (M : xM) : Option (Int32 × xM) :=
  let M_1 := sI M 12 s 0 0
  (F_X12_pickOf fu s 0 M_1).bind fun p_2 =>
  if 0 ≤ p_2.1 then
    (F_X12_wide fu s p_2.2).bind fun p_3 =>
    (F_X12_wide fu s p_3.2).bind fun p_4 =>
    (F_X12_tally fu s 0 (p_3.1 * p_2.1) p_4.1 2 p_4.2).bind fun p_5 =>
    (some (p_5.1, p_5.2))
  else
    (some ((-1), p_2.2))
set_option maxRecDepth 100000 in
theorem q_X12_gain (fu : Nat) (s : Nat) (M : xM) :
    xrun pX12_gain flX12 koX12 nwX12 [(255, 1, 0, 0, w_X12_wide fu), (329, 5, 0, 0, w_X12_tally fu), (333, 2, 0, 0, w_X12_pickOf fu)] [] xrtI 24 (xat 0 pX12_gain) 0 0 [(0, .inr (.inr (12, some s)))] [] M = F_X12_gain fu s M := rfl
def w_X12_gain (fu : Nat) {ρ : Type} (as : List xV) (M : xM) (k : Option xV → xM → Option ρ) : Option ρ := pR 12 as fun o as => o.bind fun s => xe as ((F_X12_gain fu s M).bind fun p => k (some (.inl p.1)) p.2)
def pX12_halves : List xE := [(0, 0, 1, 0, 0, [], .aload_n 0),
  (0, 1, 1, 0, 0, [], .iconst 0),
  (0, 2, 3, 0, 0, [], .putfield 1),
  (0, 5, 1, 0, 0, [], .aload_n 0),
  (0, 6, 3, 0, 0, [], .invokevirtual 417),
  (0, 9, 1, 0, 0, [], .iconst 0),
  (0, 10, 1, 0, 0, [], .istore_n 1),
  (0, 11, 1, 0, 0, [], .iconst 0),
  (0, 12, 1, 0, 0, [], .istore_n 2),
  (1, 13, 1, 0, 0, [], .iload_n 2),
  (0, 14, 1, 0, 0, [], .aload_n 0),
  (0, 15, 3, 0, 0, [], .getfield 92),
  (0, 18, 1, 0, 0, [], .iconst 0),
  (0, 19, 1, 0, 0, [], .iaload),
  (0, 20, 3, 106, 0, [], .if_icmp .ge 86),
  (0, 23, 1, 0, 0, [], .aload_n 0),
  (0, 24, 3, 0, 0, [], .getfield 117),
  (0, 27, 1, 0, 0, [], .iload_n 2),
  (0, 28, 1, 0, 0, [], .iaload),
  (0, 29, 1, 0, 1, [], .iconst 1),
  (0, 30, 1, 0, 0, [], .iadd),
  (0, 31, 1, 0, 0, [], .istore_n 3),
  (1, 32, 1, 0, 0, [], .iload_n 3),
  (0, 33, 1, 0, 0, [], .aload_n 0),
  (0, 34, 3, 0, 0, [], .getfield 117),
  (0, 37, 1, 0, 0, [], .iload_n 2),
  (0, 38, 1, 0, 1, [], .iconst 1),
  (0, 39, 1, 0, 0, [], .iadd),
  (0, 40, 1, 0, 0, [], .iaload),
  (0, 41, 3, 100, 0, [], .if_icmp .gt 59),
  (0, 44, 1, 0, 0, [], .iload_n 1),
  (0, 45, 1, 0, 0, [], .aload_n 0),
  (0, 46, 3, 0, 0, [], .getfield 111),
  (0, 49, 1, 0, 3, [], .iconst 3),
  (0, 50, 1, 0, 0, [], .iload_n 3),
  (0, 51, 1, 0, 0, [], .imul),
  (0, 52, 1, 0, 0, [], .aload_n 0),
  (0, 53, 3, 0, 0, [], .getfield 114),
  (0, 56, 1, 0, 3, [], .iconst 3),
  (0, 57, 1, 0, 0, [], .iload_n 2),
  (0, 58, 1, 0, 0, [], .imul),
  (0, 59, 3, 0, 0, [], .invokestatic 424),
  (0, 62, 3, 87, 0, [], .ifCond .ne 25),
  (0, 65, 1, 0, 0, [], .aload_n 0),
  (0, 66, 3, 0, 0, [], .getfield 111),
  (0, 69, 1, 0, 3, [], .iconst 3),
  (0, 70, 1, 0, 0, [], .iload_n 3),
  (0, 71, 1, 0, 0, [], .imul),
  (0, 72, 1, 0, 0, [], .aload_n 0),
  (0, 73, 3, 0, 0, [], .getfield 114),
  (0, 76, 1, 0, 3, [], .iconst 3),
  (0, 77, 1, 0, 0, [], .iload_n 2),
  (0, 78, 1, 0, 0, [], .imul),
  (0, 79, 1, 0, 3, [], .iconst 3),
  (0, 80, 1, 0, 0, [], .iadd),
  (0, 81, 3, 0, 0, [], .invokestatic 424),
  (0, 84, 3, 91, 0, [], .ifCond .eq 7),
  (0, 87, 1, 0, 0, [], .iconst 0),
  (0, 88, 3, 92, 0, [], .goto 4),
  (0, 91, 1, 0, 1, [], .iconst 1),
  (0, 92, 1, 0, 0, [], .iadd),
  (0, 93, 1, 0, 0, [], .istore_n 1),
  (0, 94, 3, 0, 1, [], .iinc 3 1),
  (0, 97, 3, 32, 0, [], .goto (-65)),
  (0, 100, 3, 0, 1, [], .iinc 2 1),
  (0, 103, 3, 13, 0, [], .goto (-90)),
  (0, 106, 1, 0, 0, [], .iload_n 1),
  (0, 107, 1, 0, 0, [], .ireturn)]
def L_X12_halves_32 (fu : Nat) (k13 : Nat → Int32 → Int32 → xM → Option (Int32 × xM)) : Nat → Nat → Int32 → Int32 → Int32 → xM → Option (Int32 × xM)
  | 0, _, _, _, _, _ => none
  | n + 1, s, x1, x2, x3, M =>
    (gR M 12 s 25).bind fun a_1 =>
    gd (xin (x2 + 1) (gN M 20 a_1)) <|
    if (gI M 20 a_1 (xi (x2 + 1))) < x3 then
      k13 s x1 (x2 + 1) M
    else
      (F_X12_areSame fu (gR M 12 s 23) (3 * x3) (gR M 12 s 24) (3 * x2) M).bind fun p_2 =>
      if ¬ p_2.1 = 0 then
        let x1_3 : Int32 := x1 + 0
        L_X12_halves_32 fu k13 n s x1_3 x2 (x3 + 1) p_2.2
      else
        (F_X12_areSame fu (gR p_2.2 12 s 23) (3 * x3) (gR p_2.2 12 s 24) ((3 * x2) + 3) p_2.2).bind fun p_4 =>
        if p_4.1 = 0 then
          let x1_5 : Int32 := x1 + 1
          L_X12_halves_32 fu k13 n s x1_5 x2 (x3 + 1) p_4.2
        else
          let x1_6 : Int32 := x1 + 0
          L_X12_halves_32 fu k13 n s x1_6 x2 (x3 + 1) p_4.2
set_option maxRecDepth 100000 in
theorem q_X12_halves_32 (fu : Nat) (k13 : Nat → Int32 → Int32 → xM → Option (Int32 × xM)) (n : Nat) (s : Nat) (x1 : Int32) (x2 : Int32) (x3 : Int32) (M : xM) :
    xrun pX12_halves flX12 koX12 nwX12 [(424, 4, 0, 0, w_X12_areSame fu)] [(13, fun bc bs ls st M => xz bc bs (lR ls 0 12 fun o => o.bind fun s => lI ls 1 fun x1 => lI ls 2 fun x2 => xe st (k13 s x1 x2 M))),
    (32, fun bc bs ls st M => xz bc bs (lR ls 0 12 fun o => o.bind fun s => lI ls 1 fun x1 => lI ls 2 fun x2 => lI ls 3 fun x3 => xe st (L_X12_halves_32 fu k13 n s x1 x2 x3 M)))] xrtI 70 (xat 32 pX12_halves) 0 0 [(0, .inr (.inr (12, some s))), (1, .inl x1), (2, .inl x2), (3, .inl x3)] [] M = L_X12_halves_32 fu k13 (n + 1) s x1 x2 x3 M := rfl
def L_X12_halves_13 (fu : Nat) : Nat → Nat → Int32 → Int32 → xM → Option (Int32 × xM)
  | 0, _, _, _, _ => none
  | n + 1, s, x1, x2, M =>
    (gR M 12 s 14).bind fun a_1 =>
    gd (xin 0 (gN M 20 a_1)) <|
    if (gI M 20 a_1 (xi 0)) ≤ x2 then
      (some (x1, M))
    else
      (gR M 12 s 25).bind fun a_2 =>
      gd (xin x2 (gN M 20 a_2)) <|
      let x3_3 : Int32 := (gI M 20 a_2 (xi x2)) + 1
      L_X12_halves_32 fu (L_X12_halves_13 fu n) fu s x1 x2 x3_3 M
set_option maxRecDepth 100000 in
theorem q_X12_halves_13 (fu : Nat) (n : Nat) (s : Nat) (x1 : Int32) (x2 : Int32) (M : xM) :
    xrun pX12_halves flX12 koX12 nwX12 [] [(32, fun bc bs ls st M => xz bc bs (lR ls 0 12 fun o => o.bind fun s => lI ls 1 fun x1 => lI ls 2 fun x2 => lI ls 3 fun x3 => xe st (L_X12_halves_32 fu (L_X12_halves_13 fu n) fu s x1 x2 x3 M)))] xrtI 70 (xat 13 pX12_halves) 0 0 [(0, .inr (.inr (12, some s))), (1, .inl x1), (2, .inl x2)] [] M = L_X12_halves_13 fu (n + 1) s x1 x2 M := rfl
def F_X12_halves (fu : Nat) (s : Nat) (M : xM) : Option (Int32 × xM) :=
  let M_1 := sI M 12 s 0 0
  (F_X12_runs fu s M_1).bind fun p_2 =>
  L_X12_halves_13 fu fu s 0 0 p_2
set_option maxRecDepth 100000 in
theorem q_X12_halves (fu : Nat) (s : Nat) (M : xM) :
    xrun pX12_halves flX12 koX12 nwX12 [(417, 1, 0, 0, w_X12_runs fu)] [(13, fun bc bs ls st M => xz bc bs (lR ls 0 12 fun o => o.bind fun s => lI ls 1 fun x1 => lI ls 2 fun x2 => xe st (L_X12_halves_13 fu fu s x1 x2 M)))] xrtI 70 (xat 0 pX12_halves) 0 0 [(0, .inr (.inr (12, some s)))] [] M = F_X12_halves fu s M := rfl
def w_X12_halves (fu : Nat) {ρ : Type} (as : List xV) (M : xM) (k : Option xV → xM → Option ρ) : Option ρ := pR 12 as fun o as => o.bind fun s => xe as ((F_X12_halves fu s M).bind fun p => k (some (.inl p.1)) p.2)
def pX12_isSign : List xE := [(0, 0, 1, 0, 0, [], .aload_n 0),
  (0, 1, 3, 0, 0, [], .getfield 156),
  (0, 4, 3, 39, 0, [], .ifCond .ne 35),
  (0, 7, 1, 0, 0, [], .aload_n 0),
  (0, 8, 3, 0, 0, [], .getfield 24),
  (0, 11, 1, 0, 0, [], .aload_n 0),
  (0, 12, 3, 0, 0, [], .getfield 153),
  (0, 15, 1, 0, 0, [], .iaload),
  (0, 16, 1, 0, 3, [], .iconst 3),
  (0, 17, 3, 39, 0, [], .if_icmp .ne 22),
  (0, 20, 1, 0, 0, [], .aload_n 0),
  (0, 21, 3, 0, 0, [], .getfield 30),
  (0, 24, 1, 0, 0, [], .aload_n 0),
  (0, 25, 3, 0, 0, [], .getfield 153),
  (0, 28, 1, 0, 0, [], .laload),
  (0, 29, 1, 0, 0, [], .iload_n 1),
  (0, 30, 1, 0, 0, [], .i2l),
  (0, 31, 1, 0, 0, [], .lcmp),
  (0, 32, 3, 39, 0, [], .ifCond .ne 7),
  (0, 35, 1, 0, 1, [], .iconst 1),
  (0, 36, 3, 40, 0, [], .goto 4),
  (0, 39, 1, 0, 0, [], .iconst 0),
  (0, 40, 1, 0, 0, [], .ireturn)]
def F_X12_isSign (fu : Nat) (s : Nat) (x1 : Int32) (M : xM) : Option (Int32 × xM) :=
  if ¬ (gI M 12 s 8) = 0 then
    gd (xbool 0) (some (0, M))
  else
    (gR M 12 s 4).bind fun a_1 =>
    gd (xin (gI M 12 s 7) (gN M 20 a_1)) <|
    if ¬ (gI M 20 a_1 (xi (gI M 12 s 7))) = 3 then
      gd (xbool 0) (some (0, M))
    else
      (gR M 12 s 6).bind fun a_2 =>
      gd (xin (gI M 12 s 7) (gN M 21 a_2)) <|
      if ¬ (lg_cmp (gL M 21 a_2 (xi (gI M 12 s 7))) (Int32.toInt64 x1)) = 0 then
        gd (xbool 0) (some (0, M))
      else
        gd (xbool 1) (some (1, M))
set_option maxRecDepth 100000 in
theorem q_X12_isSign (fu : Nat) (s : Nat) (x1 : Int32) (M : xM) :
    xrun pX12_isSign flX12 koX12 nwX12 [] [] xrtZ 25 (xat 0 pX12_isSign) 0 0 [(0, .inr (.inr (12, some s))), (1, .inl x1)] [] M = F_X12_isSign fu s x1 M := rfl
def w_X12_isSign (fu : Nat) {ρ : Type} (as : List xV) (M : xM) (k : Option xV → xM → Option ρ) : Option ρ := pR 12 as fun o as => o.bind fun s => pI as fun x1 as => xe as ((F_X12_isSign fu s x1 M).bind fun p => k (some (.inl p.1)) p.2)
def pX12_hasSign : List xE := [(0, 0, 1, 0, 0, [], .aload_n 0),
  (0, 1, 1, 0, 0, [], .iload_n 1),
  (0, 2, 3, 0, 0, [], .invokevirtual 159),
  (0, 5, 1, 0, 0, [], .istore_n 2),
  (0, 6, 1, 0, 0, [], .aload_n 0),
  (0, 7, 1, 0, 0, [], .dup),
  (0, 8, 3, 0, 0, [], .getfield 153),
  (0, 11, 1, 0, 0, [], .iload_n 2),
  (0, 12, 3, 19, 0, [], .ifCond .eq 7),
  (0, 15, 1, 0, 1, [], .iconst 1),
  (0, 16, 3, 20, 0, [], .goto 4),
  (0, 19, 1, 0, 0, [], .iconst 0),
  (0, 20, 1, 0, 0, [], .iadd),
  (0, 21, 3, 0, 0, [], .putfield 153),
  (0, 24, 1, 0, 0, [], .iload_n 2),
  (0, 25, 1, 0, 0, [], .ireturn)]
def F_X12_hasSign (fu : Nat) (s : Nat) (x1 : Int32) (M : xM) : Option (Int32 × xM) :=
  (F_X12_isSign fu s x1 M).bind fun p_1 =>
  if p_1.1 = 0 then
    let M_2 := sI p_1.2 12 s 7 ((gI p_1.2 12 s 7) + 0)
    gd (xbool p_1.1) (some (p_1.1, M_2))
  else
    let M_3 := sI p_1.2 12 s 7 ((gI p_1.2 12 s 7) + 1)
    gd (xbool p_1.1) (some (p_1.1, M_3))
set_option maxRecDepth 100000 in
theorem q_X12_hasSign (fu : Nat) (s : Nat) (x1 : Int32) (M : xM) :
    xrun pX12_hasSign flX12 koX12 nwX12 [(159, 2, 0, 0, w_X12_isSign fu)] [] xrtZ 18 (xat 0 pX12_hasSign) 0 0 [(0, .inr (.inr (12, some s))), (1, .inl x1)] [] M = F_X12_hasSign fu s x1 M := rfl
def w_X12_hasSign (fu : Nat) {ρ : Type} (as : List xV) (M : xM) (k : Option xV → xM → Option ρ) : Option ρ := pR 12 as fun o as => o.bind fun s => pI as fun x1 as => xe as ((F_X12_hasSign fu s x1 M).bind fun p => k (some (.inl p.1)) p.2)
def pX12_isWord : List xE := [(0, 0, 1, 0, 0, [], .aload_n 0),
  (0, 1, 3, 0, 0, [], .getfield 156),
  (0, 4, 3, 43, 0, [], .ifCond .ne 39),
  (0, 7, 1, 0, 0, [], .aload_n 0),
  (0, 8, 3, 0, 0, [], .getfield 24),
  (0, 11, 1, 0, 0, [], .aload_n 0),
  (0, 12, 3, 0, 0, [], .getfield 153),
  (0, 15, 1, 0, 0, [], .iaload),
  (0, 16, 1, 0, 1, [], .iconst 1),
  (0, 17, 3, 43, 0, [], .if_icmp .ne 26),
  (0, 20, 1, 0, 0, [], .aload_n 0),
  (0, 21, 3, 0, 0, [], .getfield 30),
  (0, 24, 1, 0, 0, [], .aload_n 0),
  (0, 25, 3, 0, 0, [], .getfield 153),
  (0, 28, 1, 0, 0, [], .laload),
  (0, 29, 1, 0, 0, [], .aload_n 0),
  (0, 30, 3, 0, 0, [], .getfield 80),
  (0, 33, 1, 0, 0, [], .iload_n 1),
  (0, 34, 1, 0, 0, [], .laload),
  (0, 35, 1, 0, 0, [], .lcmp),
  (0, 36, 3, 43, 0, [], .ifCond .ne 7),
  (0, 39, 1, 0, 1, [], .iconst 1),
  (0, 40, 3, 44, 0, [], .goto 4),
  (0, 43, 1, 0, 0, [], .iconst 0),
  (0, 44, 1, 0, 0, [], .ireturn)]
def F_X12_isWord (fu : Nat) (s : Nat) (x1 : Int32) (M : xM) : Option (Int32 × xM) :=
  if ¬ (gI M 12 s 8) = 0 then
    gd (xbool 0) (some (0, M))
  else
    (gR M 12 s 4).bind fun a_1 =>
    gd (xin (gI M 12 s 7) (gN M 20 a_1)) <|
    if ¬ (gI M 20 a_1 (xi (gI M 12 s 7))) = 1 then
      gd (xbool 0) (some (0, M))
    else
      (gR M 12 s 6).bind fun a_2 =>
      gd (xin (gI M 12 s 7) (gN M 21 a_2)) <|
      (gR M 12 s 9).bind fun a_3 =>
      gd (xin x1 (gN M 21 a_3)) <|
      if ¬ (lg_cmp (gL M 21 a_2 (xi (gI M 12 s 7))) (gL M 21 a_3 (xi x1))) = 0 then
        gd (xbool 0) (some (0, M))
      else
        gd (xbool 1) (some (1, M))
set_option maxRecDepth 100000 in
theorem q_X12_isWord (fu : Nat) (s : Nat) (x1 : Int32) (M : xM) :
    xrun pX12_isWord flX12 koX12 nwX12 [] [] xrtZ 27 (xat 0 pX12_isWord) 0 0 [(0, .inr (.inr (12, some s))), (1, .inl x1)] [] M = F_X12_isWord fu s x1 M := rfl
def w_X12_isWord (fu : Nat) {ρ : Type} (as : List xV) (M : xM) (k : Option xV → xM → Option ρ) : Option ρ := pR 12 as fun o as => o.bind fun s => pI as fun x1 as => xe as ((F_X12_isWord fu s x1 M).bind fun p => k (some (.inl p.1)) p.2)
def pX12_hasWord : List xE := [(0, 0, 1, 0, 0, [], .aload_n 0),
  (0, 1, 1, 0, 0, [], .iload_n 1),
  (0, 2, 3, 0, 0, [], .invokevirtual 165),
  (0, 5, 1, 0, 0, [], .istore_n 2),
  (0, 6, 1, 0, 0, [], .aload_n 0),
  (0, 7, 1, 0, 0, [], .dup),
  (0, 8, 3, 0, 0, [], .getfield 153),
  (0, 11, 1, 0, 0, [], .iload_n 2),
  (0, 12, 3, 19, 0, [], .ifCond .eq 7),
  (0, 15, 1, 0, 1, [], .iconst 1),
  (0, 16, 3, 20, 0, [], .goto 4),
  (0, 19, 1, 0, 0, [], .iconst 0),
  (0, 20, 1, 0, 0, [], .iadd),
  (0, 21, 3, 0, 0, [], .putfield 153),
  (0, 24, 1, 0, 0, [], .iload_n 2),
  (0, 25, 1, 0, 0, [], .ireturn)]
def F_X12_hasWord (fu : Nat) (s : Nat) (x1 : Int32) (M : xM) : Option (Int32 × xM) :=
  (F_X12_isWord fu s x1 M).bind fun p_1 =>
  if p_1.1 = 0 then
    let M_2 := sI p_1.2 12 s 7 ((gI p_1.2 12 s 7) + 0)
    gd (xbool p_1.1) (some (p_1.1, M_2))
  else
    let M_3 := sI p_1.2 12 s 7 ((gI p_1.2 12 s 7) + 1)
    gd (xbool p_1.1) (some (p_1.1, M_3))
set_option maxRecDepth 100000 in
theorem q_X12_hasWord (fu : Nat) (s : Nat) (x1 : Int32) (M : xM) :
    xrun pX12_hasWord flX12 koX12 nwX12 [(165, 2, 0, 0, w_X12_isWord fu)] [] xrtZ 18 (xat 0 pX12_hasWord) 0 0 [(0, .inr (.inr (12, some s))), (1, .inl x1)] [] M = F_X12_hasWord fu s x1 M := rfl
def w_X12_hasWord (fu : Nat) {ρ : Type} (as : List xV) (M : xM) (k : Option xV → xM → Option ρ) : Option ρ := pR 12 as fun o as => o.bind fun s => pI as fun x1 as => xe as ((F_X12_hasWord fu s x1 M).bind fun p => k (some (.inl p.1)) p.2)
def pX12_hot : List xE := [(0, 0, 1, 0, 0, [], .aload_n 0),
  (0, 1, 1, 0, 0, [], .iconst 0),
  (0, 2, 3, 0, 0, [], .putfield 1),
  (0, 5, 1, 0, 0, [], .aload_n 0),
  (0, 6, 1, 0, 0, [], .iconst 0),
  (0, 7, 3, 0, 0, [], .invokevirtual 305),
  (0, 10, 1, 0, (-1), [], .iconst (-1)),
  (0, 11, 1, 0, 0, [], .istore_n 1),
  (0, 12, 1, 0, 0, [], .iconst 0),
  (0, 13, 1, 0, 0, [], .istore_n 2),
  (0, 14, 1, 0, 0, [], .iconst 0),
  (0, 15, 1, 0, 0, [], .istore_n 3),
  (1, 16, 1, 0, 0, [], .iload_n 3),
  (0, 17, 1, 0, 0, [], .aload_n 0),
  (0, 18, 3, 0, 0, [], .invokevirtual 223),
  (0, 21, 3, 124, 0, [], .if_icmp .ge 103),
  (0, 24, 1, 0, 0, [], .iconst 0),
  (0, 25, 2, 0, 0, [], .istore 4),
  (0, 27, 1, 0, 0, [], .iconst 0),
  (0, 28, 2, 0, 0, [], .istore 5),
  (1, 30, 2, 0, 0, [], .iload 5),
  (0, 32, 1, 0, 0, [], .aload_n 0),
  (0, 33, 3, 0, 0, [], .invokevirtual 277),
  (0, 36, 3, 93, 0, [], .if_icmp .ge 57),
  (0, 39, 2, 0, 0, [], .iload 4),
  (0, 41, 1, 0, 0, [], .aload_n 0),
  (0, 42, 1, 0, 0, [], .iconst 0),
  (0, 43, 2, 0, 0, [], .iload 5),
  (0, 45, 3, 0, 0, [], .invokevirtual 290),
  (0, 48, 1, 0, 1, [], .iconst 1),
  (0, 49, 3, 83, 0, [], .if_icmp .ne 34),
  (0, 52, 1, 0, 0, [], .aload_n 0),
  (0, 53, 3, 0, 0, [], .getfield 101),
  (0, 56, 1, 0, 0, [], .iconst 0),
  (0, 57, 2, 0, 0, [], .iload 5),
  (0, 59, 3, 0, 0, [], .invokestatic 264),
  (0, 62, 1, 0, 2, [], .iconst 2),
  (0, 63, 1, 0, 0, [], .iadd),
  (0, 64, 1, 0, 0, [], .iaload),
  (0, 65, 1, 0, 0, [], .iload_n 3),
  (0, 66, 3, 83, 0, [], .if_icmp .ne 17),
  (0, 69, 1, 0, 0, [], .aload_n 0),
  (0, 70, 1, 0, 0, [], .iconst 0),
  (0, 71, 2, 0, 0, [], .iload 5),
  (0, 73, 3, 0, 0, [], .invokevirtual 308),
  (0, 76, 3, 83, 0, [], .ifCond .ne 7),
  (0, 79, 1, 0, 1, [], .iconst 1),
  (0, 80, 3, 84, 0, [], .goto 4),
  (0, 83, 1, 0, 0, [], .iconst 0),
  (0, 84, 1, 0, 0, [], .iadd),
  (0, 85, 2, 0, 0, [], .istore 4),
  (0, 87, 3, 0, 1, [], .iinc 5 1),
  (0, 90, 3, 30, 0, [], .goto (-60)),
  (0, 93, 2, 0, 0, [], .iload 4),
  (0, 95, 1, 0, 0, [], .iload_n 2),
  (0, 96, 3, 103, 0, [], .if_icmp .le 7),
  (0, 99, 1, 0, 0, [], .iload_n 3),
  (0, 100, 3, 104, 0, [], .goto 4),
  (0, 103, 1, 0, 0, [], .iload_n 1),
  (1, 104, 1, 0, 0, [], .istore_n 1),
  (0, 105, 2, 0, 0, [], .iload 4),
  (0, 107, 1, 0, 0, [], .iload_n 2),
  (0, 108, 3, 116, 0, [], .if_icmp .le 8),
  (0, 111, 2, 0, 0, [], .iload 4),
  (0, 113, 3, 117, 0, [], .goto 4),
  (0, 116, 1, 0, 0, [], .iload_n 2),
  (0, 117, 1, 0, 0, [], .istore_n 2),
  (0, 118, 3, 0, 1, [], .iinc 3 1),
  (0, 121, 3, 16, 0, [], .goto (-105)),
  (0, 124, 1, 0, 0, [], .iload_n 1),
  (0, 125, 1, 0, 0, [], .ireturn)]
def J_X12_hot_104 (fu : Nat) (k16 : Nat → Int32 → Int32 → Int32 → xM → Option (Int32 × xM)) (s : Nat) (x2 : Int32) (x3 : Int32) (x4 : Int32) (y0 : Int32) (M : xM) : Option (Int32 × xM) :=
  if x4 ≤ x2 then
    k16 s y0 x2 (x3 + 1) M
  else
    k16 s y0 x4 (x3 + 1) M
set_option maxRecDepth 100000 in
theorem q_X12_hot_104 (fu : Nat) (k16 : Nat → Int32 → Int32 → Int32 → xM → Option (Int32 × xM)) (s : Nat) (x2 : Int32) (x3 : Int32) (x4 : Int32) (y0 : Int32) (M : xM) :
    xrun pX12_hot flX12 koX12 nwX12 [] [(16, fun bc bs ls st M => xz bc bs (lR ls 0 12 fun o => o.bind fun s => lI ls 1 fun x1 => lI ls 2 fun x2 => lI ls 3 fun x3 => xe st (k16 s x1 x2 x3 M)))] xrtI 73 (xat 104 pX12_hot) 0 0 [(0, .inr (.inr (12, some s))), (2, .inl x2), (3, .inl x3), (4, .inl x4)] [.inl y0] M = J_X12_hot_104 fu k16 s x2 x3 x4 y0 M := rfl
def L_X12_hot_30 (fu : Nat) (k16 : Nat → Int32 → Int32 → Int32 → xM → Option (Int32 × xM)) : Nat → Nat → Int32 → Int32 → Int32 → Int32 → Int32 → xM → Option (Int32 × xM)
  | 0, _, _, _, _, _, _, _ => none
  | n + 1, s, x1, x2, x3, x4, x5, M =>
    (F_X12_allSlots fu s M).bind fun p_1 =>
    if p_1.1 ≤ x5 then
      if x4 ≤ x2 then
        J_X12_hot_104 fu k16 s x2 x3 x4 x1 p_1.2
      else
        J_X12_hot_104 fu k16 s x2 x3 x4 x3 p_1.2
    else
      (F_X12_typeOf fu s 0 x5 p_1.2).bind fun p_2 =>
      if ¬ p_2.1 = 1 then
        let x4_3 : Int32 := x4 + 0
        L_X12_hot_30 fu k16 n s x1 x2 x3 x4_3 (x5 + 1) p_2.2
      else
        (F_X12_slotAt fu 0 x5 p_2.2).bind fun p_4 =>
        (gR p_2.2 12 s 17).bind fun a_5 =>
        gd (xin (p_4.1 + 2) (gN p_4.2 20 a_5)) <|
        if ¬ (gI p_4.2 20 a_5 (xi (p_4.1 + 2))) = x3 then
          let x4_6 : Int32 := x4 + 0
          L_X12_hot_30 fu k16 n s x1 x2 x3 x4_6 (x5 + 1) p_4.2
        else
          (F_X12_isLive fu s 0 x5 p_4.2).bind fun p_7 =>
          if ¬ p_7.1 = 0 then
            let x4_8 : Int32 := x4 + 0
            L_X12_hot_30 fu k16 n s x1 x2 x3 x4_8 (x5 + 1) p_7.2
          else
            let x4_9 : Int32 := x4 + 1
            L_X12_hot_30 fu k16 n s x1 x2 x3 x4_9 (x5 + 1) p_7.2
set_option maxRecDepth 100000 in
theorem q_X12_hot_30 (fu : Nat) (k16 : Nat → Int32 → Int32 → Int32 → xM → Option (Int32 × xM)) (n : Nat) (s : Nat) (x1 : Int32) (x2 : Int32) (x3 : Int32) (x4 : Int32) (x5 : Int32) (M : xM) :
    xrun pX12_hot flX12 koX12 nwX12 [(264, 2, 0, 0, w_X12_slotAt fu), (277, 1, 0, 0, w_X12_allSlots fu), (290, 3, 0, 0, w_X12_typeOf fu), (308, 3, 0, 0, w_X12_isLive fu)] [(30, fun bc bs ls st M => xz bc bs (lR ls 0 12 fun o => o.bind fun s => lI ls 1 fun x1 => lI ls 2 fun x2 => lI ls 3 fun x3 => lI ls 4 fun x4 => lI ls 5 fun x5 => xe st (L_X12_hot_30 fu k16 n s x1 x2 x3 x4 x5 M))),
    (104, fun bc bs ls st M => xz bc bs (lR ls 0 12 fun o => o.bind fun s => lI ls 2 fun x2 => lI ls 3 fun x3 => lI ls 4 fun x4 => pI st fun y0 st => xe st (J_X12_hot_104 fu k16 s x2 x3 x4 y0 M)))] xrtI 73 (xat 30 pX12_hot) 0 0 [(0, .inr (.inr (12, some s))), (1, .inl x1), (2, .inl x2), (3, .inl x3), (4, .inl x4), (5, .inl x5)] [] M = L_X12_hot_30 fu k16 (n + 1) s x1 x2 x3 x4 x5 M := rfl
def L_X12_hot_16 (fu : Nat) : Nat → Nat → Int32 → Int32 → Int32 → xM → Option (Int32 × xM)
  | 0, _, _, _, _, _ => none
  | n + 1, s, x1, x2, x3, M =>
    (F_X12_files fu s M).bind fun p_1 =>
    if p_1.1 ≤ x3 then
      (some (x1, p_1.2))
    else
      L_X12_hot_30 fu (L_X12_hot_16 fu n) fu s x1 x2 x3 0 0 p_1.2
set_option maxRecDepth 100000 in
theorem q_X12_hot_16 (fu : Nat) (n : Nat) (s : Nat) (x1 : Int32) (x2 : Int32) (x3 : Int32) (M : xM) :
    xrun pX12_hot flX12 koX12 nwX12 [(223, 1, 0, 0, w_X12_files fu)] [(30, fun bc bs ls st M => xz bc bs (lR ls 0 12 fun o => o.bind fun s => lI ls 1 fun x1 => lI ls 2 fun x2 => lI ls 3 fun x3 => lI ls 4 fun x4 => lI ls 5 fun x5 => xe st (L_X12_hot_30 fu (L_X12_hot_16 fu n) fu s x1 x2 x3 x4 x5 M)))] xrtI 73 (xat 16 pX12_hot) 0 0 [(0, .inr (.inr (12, some s))), (1, .inl x1), (2, .inl x2), (3, .inl x3)] [] M = L_X12_hot_16 fu (n + 1) s x1 x2 x3 M := rfl
def F_X12_hot (fu : Nat) (s : Nat) (M : xM) : Option (Int32 × xM) :=
  let M_1 := sI M 12 s 0 0
  (F_X12_looks fu s 0 M_1).bind fun p_2 =>
  L_X12_hot_16 fu fu s ((-1)) 0 0 p_2
set_option maxRecDepth 100000 in
theorem q_X12_hot (fu : Nat) (s : Nat) (M : xM) :
    xrun pX12_hot flX12 koX12 nwX12 [(305, 2, 0, 0, w_X12_looks fu)] [(16, fun bc bs ls st M => xz bc bs (lR ls 0 12 fun o => o.bind fun s => lI ls 1 fun x1 => lI ls 2 fun x2 => lI ls 3 fun x3 => xe st (L_X12_hot_16 fu fu s x1 x2 x3 M)))] xrtI 73 (xat 0 pX12_hot) 0 0 [(0, .inr (.inr (12, some s)))] [] M = F_X12_hot fu s M := rfl
def w_X12_hot (fu : Nat) {ρ : Type} (as : List xV) (M : xM) (k : Option xV → xM → Option ρ) : Option ρ := pR 12 as fun o as => o.bind fun s => xe as ((F_X12_hot fu s M).bind fun p => k (some (.inl p.1)) p.2)
def pX12_standsAsAlways : List xE := [(0, 0, 1, 0, 0, [], .iconst 0),
  (0, 1, 1, 0, 0, [], .istore_n 2),
  (1, 2, 1, 0, 0, [], .iload_n 2),
  (0, 3, 2, 0, 20, [], .bipush 20),
  (0, 5, 3, 23, 0, [], .if_icmp .ge 18),
  (0, 8, 1, 0, 0, [], .aload_n 0),
  (0, 9, 3, 0, 0, [], .getfield 83),
  (0, 12, 1, 0, 0, [], .iload_n 1),
  (0, 13, 1, 0, 0, [], .iload_n 2),
  (0, 14, 1, 0, 0, [], .iadd),
  (0, 15, 1, 0, 0, [], .iconst 0),
  (0, 16, 1, 0, 0, [], .iastore),
  (0, 17, 3, 0, 1, [], .iinc 2 1),
  (0, 20, 3, 2, 0, [], .goto (-18)),
  (0, 23, 1, 0, 0, [], .aload_n 0),
  (0, 24, 3, 0, 0, [], .getfield 83),
  (0, 27, 1, 0, 0, [], .iload_n 1),
  (0, 28, 1, 0, 4, [], .iconst 4),
  (0, 29, 1, 0, 0, [], .iadd),
  (0, 30, 1, 0, (-1), [], .iconst (-1)),
  (0, 31, 1, 0, 0, [], .iastore),
  (0, 32, 1, 0, 0, [], .return_)]
def L_X12_standsAsAlways_2 (fu : Nat) : Nat → Nat → Int32 → Int32 → xM → Option xM
  | 0, _, _, _, _ => none
  | n + 1, s, x1, x2, M =>
    if 20 ≤ x2 then
      (gR M 12 s 10).bind fun a_1 =>
      gd (xin (x1 + 4) (gN M 20 a_1)) <|
      let M_2 := sI M 20 a_1 (xi (x1 + 4)) ((-1))
      some M_2
    else
      (gR M 12 s 10).bind fun a_3 =>
      gd (xin (x1 + x2) (gN M 20 a_3)) <|
      let M_4 := sI M 20 a_3 (xi (x1 + x2)) 0
      L_X12_standsAsAlways_2 fu n s x1 (x2 + 1) M_4
set_option maxRecDepth 100000 in
theorem q_X12_standsAsAlways_2 (fu : Nat) (n : Nat) (s : Nat) (x1 : Int32) (x2 : Int32) (M : xM) :
    xrun pX12_standsAsAlways flX12 koX12 nwX12 [] [(2, fun bc bs ls st M => xz bc bs (lR ls 0 12 fun o => o.bind fun s => lI ls 1 fun x1 => lI ls 2 fun x2 => xe st (L_X12_standsAsAlways_2 fu n s x1 x2 M)))] xrtV 24 (xat 2 pX12_standsAsAlways) 0 0 [(0, .inr (.inr (12, some s))), (1, .inl x1), (2, .inl x2)] [] M = L_X12_standsAsAlways_2 fu (n + 1) s x1 x2 M := rfl
def F_X12_standsAsAlways (fu : Nat) (s : Nat) (x1 : Int32) (M : xM) : Option xM :=
  L_X12_standsAsAlways_2 fu fu s x1 0 M
set_option maxRecDepth 100000 in
theorem q_X12_standsAsAlways (fu : Nat) (s : Nat) (x1 : Int32) (M : xM) :
    xrun pX12_standsAsAlways flX12 koX12 nwX12 [] [(2, fun bc bs ls st M => xz bc bs (lR ls 0 12 fun o => o.bind fun s => lI ls 1 fun x1 => lI ls 2 fun x2 => xe st (L_X12_standsAsAlways_2 fu fu s x1 x2 M)))] xrtV 24 (xat 0 pX12_standsAsAlways) 0 0 [(0, .inr (.inr (12, some s))), (1, .inl x1)] [] M = F_X12_standsAsAlways fu s x1 M := rfl
def w_X12_standsAsAlways (fu : Nat) {ρ : Type} (as : List xV) (M : xM) (k : Option xV → xM → Option ρ) : Option ρ := pR 12 as fun o as => o.bind fun s => pI as fun x1 as => xe as ((F_X12_standsAsAlways fu s x1 M).bind fun p => k none p)
def pX12_init : List xE := [(0, 0, 1, 0, 0, [], .aload_n 0),
  (0, 1, 3, 0, 0, [], .invokespecial 18),
  (0, 4, 1, 0, 0, [], .aload_n 0),
  (0, 5, 3, 0, 1000, [], .sipush 1000),
  (0, 8, 2, 1000, 0, [], .newarray .int),
  (0, 10, 3, 0, 0, [], .putfield 14),
  (0, 13, 1, 0, 0, [], .aload_n 0),
  (0, 14, 3, 0, 1002, [], .sipush 1002),
  (0, 17, 2, 1002, 0, [], .newarray .int),
  (0, 19, 3, 0, 0, [], .putfield 24),
  (0, 22, 1, 0, 0, [], .aload_n 0),
  (0, 23, 3, 0, 1002, [], .sipush 1002),
  (0, 26, 2, 1002, 0, [], .newarray .int),
  (0, 28, 3, 0, 0, [], .putfield 27),
  (0, 31, 1, 0, 0, [], .aload_n 0),
  (0, 32, 3, 0, 1002, [], .sipush 1002),
  (0, 35, 2, 1002, 0, [], .newarray .long),
  (0, 37, 3, 0, 0, [], .putfield 30),
  (0, 40, 1, 0, 0, [], .aload_n 0),
  (0, 41, 2, 0, 23, [], .bipush 23),
  (0, 43, 2, 23, 0, [], .newarray .long),
  (0, 45, 1, 0, 0, [], .dup),
  (0, 46, 1, 0, 0, [], .iconst 0),
  (0, 47, 3, 0, 0, [], .ldc2_w 34),
  (0, 50, 1, 0, 0, [], .lastore),
  (0, 51, 1, 0, 0, [], .dup),
  (0, 52, 1, 0, 1, [], .iconst 1),
  (0, 53, 3, 0, 0, [], .ldc2_w 36),
  (0, 56, 1, 0, 0, [], .lastore),
  (0, 57, 1, 0, 0, [], .dup),
  (0, 58, 1, 0, 2, [], .iconst 2),
  (0, 59, 3, 0, 0, [], .ldc2_w 38),
  (0, 62, 1, 0, 0, [], .lastore),
  (0, 63, 1, 0, 0, [], .dup),
  (0, 64, 1, 0, 3, [], .iconst 3),
  (0, 65, 3, 0, 0, [], .ldc2_w 40),
  (0, 68, 1, 0, 0, [], .lastore),
  (0, 69, 1, 0, 0, [], .dup),
  (0, 70, 1, 0, 4, [], .iconst 4),
  (0, 71, 3, 0, 0, [], .ldc2_w 42),
  (0, 74, 1, 0, 0, [], .lastore),
  (0, 75, 1, 0, 0, [], .dup),
  (0, 76, 1, 0, 5, [], .iconst 5),
  (0, 77, 3, 0, 0, [], .ldc2_w 44),
  (0, 80, 1, 0, 0, [], .lastore),
  (0, 81, 1, 0, 0, [], .dup),
  (0, 82, 2, 0, 6, [], .bipush 6),
  (0, 84, 3, 0, 0, [], .ldc2_w 46),
  (0, 87, 1, 0, 0, [], .lastore),
  (0, 88, 1, 0, 0, [], .dup),
  (0, 89, 2, 0, 7, [], .bipush 7),
  (0, 91, 3, 0, 0, [], .ldc2_w 48),
  (0, 94, 1, 0, 0, [], .lastore),
  (0, 95, 1, 0, 0, [], .dup),
  (0, 96, 2, 0, 8, [], .bipush 8),
  (0, 98, 3, 0, 0, [], .ldc2_w 50),
  (0, 101, 1, 0, 0, [], .lastore),
  (0, 102, 1, 0, 0, [], .dup),
  (0, 103, 2, 0, 9, [], .bipush 9),
  (0, 105, 3, 0, 0, [], .ldc2_w 52),
  (0, 108, 1, 0, 0, [], .lastore),
  (0, 109, 1, 0, 0, [], .dup),
  (0, 110, 2, 0, 10, [], .bipush 10),
  (0, 112, 3, 0, 0, [], .ldc2_w 54),
  (0, 115, 1, 0, 0, [], .lastore),
  (0, 116, 1, 0, 0, [], .dup),
  (0, 117, 2, 0, 11, [], .bipush 11),
  (0, 119, 3, 0, 0, [], .ldc2_w 56),
  (0, 122, 1, 0, 0, [], .lastore),
  (0, 123, 1, 0, 0, [], .dup),
  (0, 124, 2, 0, 12, [], .bipush 12),
  (0, 126, 3, 0, 0, [], .ldc2_w 58),
  (0, 129, 1, 0, 0, [], .lastore),
  (0, 130, 1, 0, 0, [], .dup),
  (0, 131, 2, 0, 13, [], .bipush 13),
  (0, 133, 3, 0, 0, [], .ldc2_w 60),
  (0, 136, 1, 0, 0, [], .lastore),
  (0, 137, 1, 0, 0, [], .dup),
  (0, 138, 2, 0, 14, [], .bipush 14),
  (0, 140, 3, 0, 0, [], .ldc2_w 62),
  (0, 143, 1, 0, 0, [], .lastore),
  (0, 144, 1, 0, 0, [], .dup),
  (0, 145, 2, 0, 15, [], .bipush 15),
  (0, 147, 3, 0, 0, [], .ldc2_w 64),
  (0, 150, 1, 0, 0, [], .lastore),
  (0, 151, 1, 0, 0, [], .dup),
  (0, 152, 2, 0, 16, [], .bipush 16),
  (0, 154, 3, 0, 0, [], .ldc2_w 66),
  (0, 157, 1, 0, 0, [], .lastore),
  (0, 158, 1, 0, 0, [], .dup),
  (0, 159, 2, 0, 17, [], .bipush 17),
  (0, 161, 3, 0, 0, [], .ldc2_w 68),
  (0, 164, 1, 0, 0, [], .lastore),
  (0, 165, 1, 0, 0, [], .dup),
  (0, 166, 2, 0, 18, [], .bipush 18),
  (0, 168, 3, 0, 0, [], .ldc2_w 70),
  (0, 171, 1, 0, 0, [], .lastore),
  (0, 172, 1, 0, 0, [], .dup),
  (0, 173, 2, 0, 19, [], .bipush 19),
  (0, 175, 3, 0, 0, [], .ldc2_w 72),
  (0, 178, 1, 0, 0, [], .lastore),
  (0, 179, 1, 0, 0, [], .dup),
  (0, 180, 2, 0, 20, [], .bipush 20),
  (0, 182, 3, 0, 0, [], .ldc2_w 74),
  (0, 185, 1, 0, 0, [], .lastore),
  (0, 186, 1, 0, 0, [], .dup),
  (0, 187, 2, 0, 21, [], .bipush 21),
  (0, 189, 3, 0, 0, [], .ldc2_w 76),
  (0, 192, 1, 0, 0, [], .lastore),
  (0, 193, 1, 0, 0, [], .dup),
  (0, 194, 2, 0, 22, [], .bipush 22),
  (0, 196, 3, 0, 0, [], .ldc2_w 78),
  (0, 199, 1, 0, 0, [], .lastore),
  (0, 200, 3, 0, 0, [], .putfield 80),
  (0, 203, 1, 0, 0, [], .aload_n 0),
  (0, 204, 2, 0, 40, [], .bipush 40),
  (0, 206, 2, 40, 0, [], .newarray .int),
  (0, 208, 3, 0, 0, [], .putfield 83),
  (0, 211, 1, 0, 0, [], .aload_n 0),
  (0, 212, 3, 0, 2200, [], .sipush 2200),
  (0, 215, 2, 2200, 0, [], .newarray .int),
  (0, 217, 3, 0, 0, [], .putfield 86),
  (0, 220, 1, 0, 0, [], .aload_n 0),
  (0, 221, 2, 0, 10, [], .bipush 10),
  (0, 223, 2, 10, 0, [], .newarray .long),
  (0, 225, 3, 0, 0, [], .putfield 89),
  (0, 228, 1, 0, 0, [], .aload_n 0),
  (0, 229, 3, 0, 200, [], .sipush 200),
  (0, 232, 2, 200, 0, [], .newarray .int),
  (0, 234, 3, 0, 0, [], .putfield 92),
  (0, 237, 1, 0, 0, [], .aload_n 0),
  (0, 238, 1, 0, 4, [], .iconst 4),
  (0, 239, 2, 4, 0, [], .newarray .int),
  (0, 241, 3, 0, 0, [], .putfield 95),
  (0, 244, 1, 0, 0, [], .aload_n 0),
  (0, 245, 2, 0, 64, [], .bipush 64),
  (0, 247, 2, 64, 0, [], .newarray .int),
  (0, 249, 3, 0, 0, [], .putfield 98),
  (0, 252, 1, 0, 0, [], .aload_n 0),
  (0, 253, 3, 0, 2675, [], .sipush 2675),
  (0, 256, 2, 2675, 0, [], .newarray .int),
  (0, 258, 3, 0, 0, [], .putfield 101),
  (0, 261, 1, 0, 0, [], .aload_n 0),
  (0, 262, 1, 0, 2, [], .iconst 2),
  (0, 263, 2, 2, 0, [], .newarray .boolean),
  (0, 265, 3, 0, 0, [], .putfield 104),
  (0, 268, 1, 0, 0, [], .aload_n 0),
  (0, 269, 2, 0, 13, [], .bipush 13),
  (0, 271, 2, 13, 0, [], .newarray .int),
  (0, 273, 3, 0, 0, [], .putfield 108),
  (0, 276, 1, 0, 0, [], .aload_n 0),
  (0, 277, 3, 0, 903, [], .sipush 903),
  (0, 280, 2, 903, 0, [], .newarray .long),
  (0, 282, 3, 0, 0, [], .putfield 111),
  (0, 285, 1, 0, 0, [], .aload_n 0),
  (0, 286, 2, 0, 75, [], .bipush 75),
  (0, 288, 2, 75, 0, [], .newarray .long),
  (0, 290, 3, 0, 0, [], .putfield 114),
  (0, 293, 1, 0, 0, [], .aload_n 0),
  (0, 294, 2, 0, 25, [], .bipush 25),
  (0, 296, 2, 25, 0, [], .newarray .int),
  (0, 298, 3, 0, 0, [], .putfield 117),
  (0, 301, 1, 0, 0, [], .aload_n 0),
  (0, 302, 3, 0, 257, [], .sipush 257),
  (0, 305, 2, 257, 0, [], .newarray .int),
  (0, 307, 3, 0, 0, [], .putfield 120),
  (0, 310, 1, 0, 0, [], .aload_n 0),
  (0, 311, 1, 0, 0, [], .iconst 0),
  (0, 312, 3, 0, 0, [], .invokevirtual 123),
  (0, 315, 1, 0, 0, [], .aload_n 0),
  (0, 316, 3, 0, 0, [], .invokevirtual 127),
  (0, 319, 1, 0, 0, [], .return_)]
def F_X12_init (fu : Nat) (s : Nat) (M : xM) : Option xM :=
  gd ((1000 : Int32) == Int32.ofNat 1000) <|
  let M_1 := nC M 20 1000
  let M_2 := sR M_1 12 s 1 (some (gA M 20))
  gd ((1002 : Int32) == Int32.ofNat 1002) <|
  let M_3 := nC M_2 20 1002
  let M_4 := sR M_3 12 s 4 (some (gA M_2 20))
  gd ((1002 : Int32) == Int32.ofNat 1002) <|
  let M_5 := nC M_4 20 1002
  let M_6 := sR M_5 12 s 5 (some (gA M_4 20))
  gd ((1002 : Int32) == Int32.ofNat 1002) <|
  let M_7 := nC M_6 21 1002
  let M_8 := sR M_7 12 s 6 (some (gA M_6 21))
  gd ((23 : Int32) == Int32.ofNat 23) <|
  let M_9 := nC M_8 21 23
  gd (xin 0 (gN M_9 21 (gA M_8 21))) <|
  let M_10 := sL M_9 21 (gA M_8 21) (xi 0) 161942174
  gd (xin 1 (gN M_10 21 (gA M_8 21))) <|
  let M_11 := sL M_10 21 (gA M_8 21) (xi 1) 36238189
  gd (xin 2 (gN M_11 21 (gA M_8 21))) <|
  let M_12 := sL M_11 21 (gA M_8 21) (xi 2) 46565682932
  gd (xin 3 (gN M_12 21 (gA M_8 21))) <|
  let M_13 := sL M_12 21 (gA M_8 21) (xi 3) 316688
  gd (xin 4 (gN M_13 21 (gA M_8 21))) <|
  let M_14 := sL M_13 21 (gA M_8 21) (xi 4) 30047016
  gd (xin 5 (gN M_14 21 (gA M_8 21))) <|
  let M_15 := sL M_14 21 (gA M_8 21) (xi 5) 324136403081
  gd (xin 6 (gN M_15 21 (gA M_8 21))) <|
  let M_16 := sL M_15 21 (gA M_8 21) (xi 6) 44030523
  gd (xin 7 (gN M_16 21 (gA M_8 21))) <|
  let M_17 := sL M_16 21 (gA M_8 21) (xi 7) 1258241874
  gd (xin 8 (gN M_17 21 (gA M_8 21))) <|
  let M_18 := sL M_17 21 (gA M_8 21) (xi 8) 781898
  gd (xin 9 (gN M_18 21 (gA M_8 21))) <|
  let M_19 := sL M_18 21 (gA M_8 21) (xi 9) 6251562
  gd (xin 10 (gN M_19 21 (gA M_8 21))) <|
  let M_20 := sL M_19 21 (gA M_8 21) (xi 10) 236820925
  gd (xin 11 (gN M_20 21 (gA M_8 21))) <|
  let M_21 := sL M_20 21 (gA M_8 21) (xi 11) 8760443326
  gd (xin 12 (gN M_21 21 (gA M_8 21))) <|
  let M_22 := sL M_21 21 (gA M_8 21) (xi 12) 30596128
  gd (xin 13 (gN M_22 21 (gA M_8 21))) <|
  let M_23 := sL M_22 21 (gA M_8 21) (xi 13) 16990
  gd (xin 14 (gN M_23 21 (gA M_8 21))) <|
  let M_24 := sL M_23 21 (gA M_8 21) (xi 14) 1044894
  gd (xin 15 (gN M_24 21 (gA M_8 21))) <|
  let M_25 := sL M_24 21 (gA M_8 21) (xi 15) 997153
  gd (xin 16 (gN M_25 21 (gA M_8 21))) <|
  let M_26 := sL M_25 21 (gA M_8 21) (xi 16) 19741
  gd (xin 17 (gN M_26 21 (gA M_8 21))) <|
  let M_27 := sL M_26 21 (gA M_8 21) (xi 17) 1891
  gd (xin 18 (gN M_27 21 (gA M_8 21))) <|
  let M_28 := sL M_27 21 (gA M_8 21) (xi 18) 573
  gd (xin 19 (gN M_28 21 (gA M_8 21))) <|
  let M_29 := sL M_28 21 (gA M_8 21) (xi 19) 380531536
  gd (xin 20 (gN M_29 21 (gA M_8 21))) <|
  let M_30 := sL M_29 21 (gA M_8 21) (xi 20) 620976
  gd (xin 21 (gN M_30 21 (gA M_8 21))) <|
  let M_31 := sL M_30 21 (gA M_8 21) (xi 21) 7977928
  gd (xin 22 (gN M_31 21 (gA M_8 21))) <|
  let M_32 := sL M_31 21 (gA M_8 21) (xi 22) 26737711795
  let M_33 := sR M_32 12 s 9 (some (gA M_8 21))
  gd ((40 : Int32) == Int32.ofNat 40) <|
  let M_34 := nC M_33 20 40
  let M_35 := sR M_34 12 s 10 (some (gA M_33 20))
  gd ((2200 : Int32) == Int32.ofNat 2200) <|
  let M_36 := nC M_35 20 2200
  let M_37 := sR M_36 12 s 11 (some (gA M_35 20))
  gd ((10 : Int32) == Int32.ofNat 10) <|
  let M_38 := nC M_37 21 10
  let M_39 := sR M_38 12 s 13 (some (gA M_37 21))
  gd ((200 : Int32) == Int32.ofNat 200) <|
  let M_40 := nC M_39 20 200
  let M_41 := sR M_40 12 s 14 (some (gA M_39 20))
  gd ((4 : Int32) == Int32.ofNat 4) <|
  let M_42 := nC M_41 20 4
  let M_43 := sR M_42 12 s 15 (some (gA M_41 20))
  gd ((64 : Int32) == Int32.ofNat 64) <|
  let M_44 := nC M_43 20 64
  let M_45 := sR M_44 12 s 16 (some (gA M_43 20))
  gd ((2675 : Int32) == Int32.ofNat 2675) <|
  let M_46 := nC M_45 20 2675
  let M_47 := sR M_46 12 s 17 (some (gA M_45 20))
  gd ((2 : Int32) == Int32.ofNat 2) <|
  let M_48 := nC M_47 22 2
  let M_49 := sR M_48 12 s 18 (some (gA M_47 22))
  gd ((13 : Int32) == Int32.ofNat 13) <|
  let M_50 := nC M_49 20 13
  let M_51 := sR M_50 12 s 19 (some (gA M_49 20))
  gd ((903 : Int32) == Int32.ofNat 903) <|
  let M_52 := nC M_51 21 903
  let M_53 := sR M_52 12 s 23 (some (gA M_51 21))
  gd ((75 : Int32) == Int32.ofNat 75) <|
  let M_54 := nC M_53 21 75
  let M_55 := sR M_54 12 s 24 (some (gA M_53 21))
  gd ((25 : Int32) == Int32.ofNat 25) <|
  let M_56 := nC M_55 20 25
  let M_57 := sR M_56 12 s 25 (some (gA M_55 20))
  gd ((257 : Int32) == Int32.ofNat 257) <|
  let M_58 := nC M_57 20 257
  let M_59 := sR M_58 12 s 27 (some (gA M_57 20))
  (F_X12_standsAsAlways fu s 0 M_59).bind fun p_60 =>
  (F_X12_begins fu s p_60).bind fun p_61 =>
  some p_61
set_option maxRecDepth 100000 in
theorem q_X12_init (fu : Nat) (s : Nat) (M : xM) :
    xrun pX12_init flX12 koX12 nwX12 [(18, 1, 0, 0, w_objInit), (123, 2, 0, 0, w_X12_standsAsAlways fu), (127, 1, 0, 0, w_X12_begins fu)] [] xrtV 174 (xat 0 pX12_init) 18 10497 [(0, .inr (.inr (12, some s)))] [] M = F_X12_init fu s M := rfl
def w_X12_init (fu : Nat) {ρ : Type} (as : List xV) (M : xM) (k : Option xV → xM → Option ρ) : Option ρ := pR 12 as fun o as => o.bind fun s => xe as ((F_X12_init fu s M).bind fun p => k none p)
def pX12_wordHere : List xE := [(0, 0, 1, 0, (-1), [], .iconst (-1)),
  (0, 1, 1, 0, 0, [], .istore_n 3),
  (0, 2, 1, 0, 0, [], .iconst 0),
  (0, 3, 2, 0, 0, [], .istore 4),
  (1, 5, 2, 0, 0, [], .iload 4),
  (0, 7, 1, 0, 0, [], .iload_n 2),
  (0, 8, 3, 35, 0, [], .if_icmp .ge 27),
  (0, 11, 1, 0, 0, [], .aload_n 0),
  (0, 12, 1, 0, 0, [], .iload_n 1),
  (0, 13, 2, 0, 0, [], .iload 4),
  (0, 15, 1, 0, 0, [], .iadd),
  (0, 16, 3, 0, 0, [], .invokevirtual 165),
  (0, 19, 3, 27, 0, [], .ifCond .eq 8),
  (0, 22, 2, 0, 0, [], .iload 4),
  (0, 24, 3, 28, 0, [], .goto 4),
  (0, 27, 1, 0, 0, [], .iload_n 3),
  (0, 28, 1, 0, 0, [], .istore_n 3),
  (0, 29, 3, 0, 1, [], .iinc 4 1),
  (0, 32, 3, 5, 0, [], .goto (-27)),
  (0, 35, 1, 0, 0, [], .iload_n 3),
  (0, 36, 1, 0, 0, [], .ireturn)]
def L_X12_wordHere_5 (fu : Nat) : Nat → Nat → Int32 → Int32 → Int32 → Int32 → xM → Option (Int32 × xM)
  | 0, _, _, _, _, _, _ => none
  | n + 1, s, x1, x2, x3, x4, M =>
    if x2 ≤ x4 then
      (some (x3, M))
    else
      (F_X12_isWord fu s (x1 + x4) M).bind fun p_1 =>
      if p_1.1 = 0 then
        L_X12_wordHere_5 fu n s x1 x2 x3 (x4 + 1) p_1.2
      else
        L_X12_wordHere_5 fu n s x1 x2 x4 (x4 + 1) p_1.2
set_option maxRecDepth 100000 in
theorem q_X12_wordHere_5 (fu : Nat) (n : Nat) (s : Nat) (x1 : Int32) (x2 : Int32) (x3 : Int32) (x4 : Int32) (M : xM) :
    xrun pX12_wordHere flX12 koX12 nwX12 [(165, 2, 0, 0, w_X12_isWord fu)] [(5, fun bc bs ls st M => xz bc bs (lR ls 0 12 fun o => o.bind fun s => lI ls 1 fun x1 => lI ls 2 fun x2 => lI ls 3 fun x3 => lI ls 4 fun x4 => xe st (L_X12_wordHere_5 fu n s x1 x2 x3 x4 M)))] xrtI 23 (xat 5 pX12_wordHere) 0 0 [(0, .inr (.inr (12, some s))), (1, .inl x1), (2, .inl x2), (3, .inl x3), (4, .inl x4)] [] M = L_X12_wordHere_5 fu (n + 1) s x1 x2 x3 x4 M := rfl
def F_X12_wordHere (fu : Nat) (s : Nat) (x1 : Int32) (x2 : Int32) (M : xM) : Option (Int32 × xM) :=
  L_X12_wordHere_5 fu fu s x1 x2 ((-1)) 0 M
set_option maxRecDepth 100000 in
theorem q_X12_wordHere (fu : Nat) (s : Nat) (x1 : Int32) (x2 : Int32) (M : xM) :
    xrun pX12_wordHere flX12 koX12 nwX12 [] [(5, fun bc bs ls st M => xz bc bs (lR ls 0 12 fun o => o.bind fun s => lI ls 1 fun x1 => lI ls 2 fun x2 => lI ls 3 fun x3 => lI ls 4 fun x4 => xe st (L_X12_wordHere_5 fu fu s x1 x2 x3 x4 M)))] xrtI 23 (xat 0 pX12_wordHere) 0 0 [(0, .inr (.inr (12, some s))), (1, .inl x1), (2, .inl x2)] [] M = F_X12_wordHere fu s x1 x2 M := rfl
def w_X12_wordHere (fu : Nat) {ρ : Type} (as : List xV) (M : xM) (k : Option xV → xM → Option ρ) : Option ρ := pR 12 as fun o as => o.bind fun s => pI as fun x1 as => pI as fun x2 as => xe as ((F_X12_wordHere fu s x1 x2 M).bind fun p => k (some (.inl p.1)) p.2)
def pX12_isName : List xE := [(0, 0, 1, 0, 0, [], .aload_n 0),
  (0, 1, 3, 0, 0, [], .getfield 156),
  (0, 4, 3, 34, 0, [], .ifCond .ne 30),
  (0, 7, 1, 0, 0, [], .aload_n 0),
  (0, 8, 3, 0, 0, [], .getfield 24),
  (0, 11, 1, 0, 0, [], .aload_n 0),
  (0, 12, 3, 0, 0, [], .getfield 153),
  (0, 15, 1, 0, 0, [], .iaload),
  (0, 16, 1, 0, 1, [], .iconst 1),
  (0, 17, 3, 34, 0, [], .if_icmp .ne 17),
  (0, 20, 1, 0, 0, [], .aload_n 0),
  (0, 21, 1, 0, 0, [], .iconst 0),
  (0, 22, 2, 0, 19, [], .bipush 19),
  (0, 24, 3, 0, 0, [], .invokevirtual 171),
  (0, 27, 3, 34, 0, [], .ifCond .ge 7),
  (0, 30, 1, 0, 1, [], .iconst 1),
  (0, 31, 3, 35, 0, [], .goto 4),
  (0, 34, 1, 0, 0, [], .iconst 0),
  (0, 35, 1, 0, 0, [], .ireturn)]
def F_X12_isName (fu : Nat) (s : Nat) (M : xM) : Option (Int32 × xM) :=
  if ¬ (gI M 12 s 8) = 0 then
    gd (xbool 0) (some (0, M))
  else
    (gR M 12 s 4).bind fun a_1 =>
    gd (xin (gI M 12 s 7) (gN M 20 a_1)) <|
    if ¬ (gI M 20 a_1 (xi (gI M 12 s 7))) = 1 then
      gd (xbool 0) (some (0, M))
    else
      (F_X12_wordHere fu s 0 19 M).bind fun p_2 =>
      if 0 ≤ p_2.1 then
        gd (xbool 0) (some (0, p_2.2))
      else
        gd (xbool 1) (some (1, p_2.2))
set_option maxRecDepth 100000 in
theorem q_X12_isName (fu : Nat) (s : Nat) (M : xM) :
    xrun pX12_isName flX12 koX12 nwX12 [(171, 3, 0, 0, w_X12_wordHere fu)] [] xrtZ 21 (xat 0 pX12_isName) 0 0 [(0, .inr (.inr (12, some s)))] [] M = F_X12_isName fu s M := rfl
def w_X12_isName (fu : Nat) {ρ : Type} (as : List xV) (M : xM) (k : Option xV → xM → Option ρ) : Option ρ := pR 12 as fun o as => o.bind fun s => xe as ((F_X12_isName fu s M).bind fun p => k (some (.inl p.1)) p.2)
def pX12_wrong : List xE := [(0, 0, 1, 0, 0, [], .aload_n 0),
  (0, 1, 3, 0, 0, [], .getfield 156),
  (0, 4, 3, 25, 0, [], .ifCond .ne 21),
  (0, 7, 1, 0, 0, [], .aload_n 0),
  (0, 8, 1, 0, 0, [], .iload_n 1),
  (0, 9, 2, 0, 16, [], .bipush 16),
  (0, 11, 1, 0, 0, [], .aload_n 0),
  (0, 12, 3, 0, 0, [], .getfield 27),
  (0, 15, 1, 0, 0, [], .aload_n 0),
  (0, 16, 3, 0, 0, [], .getfield 153),
  (0, 19, 1, 0, 0, [], .iaload),
  (0, 20, 1, 0, 0, [], .imul),
  (0, 21, 1, 0, 0, [], .iadd),
  (0, 22, 3, 0, 0, [], .putfield 156),
  (0, 25, 1, 0, 0, [], .return_)]
def F_X12_wrong (fu : Nat) (s : Nat) (x1 : Int32) (M : xM) : Option xM :=
  if ¬ (gI M 12 s 8) = 0 then
    some M
  else
    (gR M 12 s 5).bind fun a_1 =>
    gd (xin (gI M 12 s 7) (gN M 20 a_1)) <|
    let M_2 := sI M 12 s 8 (x1 + (16 * (gI M 20 a_1 (xi (gI M 12 s 7)))))
    some M_2
set_option maxRecDepth 100000 in
theorem q_X12_wrong (fu : Nat) (s : Nat) (x1 : Int32) (M : xM) :
    xrun pX12_wrong flX12 koX12 nwX12 [] [] xrtV 17 (xat 0 pX12_wrong) 0 0 [(0, .inr (.inr (12, some s))), (1, .inl x1)] [] M = F_X12_wrong fu s x1 M := rfl
def w_X12_wrong (fu : Nat) {ρ : Type} (as : List xV) (M : xM) (k : Option xV → xM → Option ρ) : Option ρ := pR 12 as fun o as => o.bind fun s => pI as fun x1 as => xe as ((F_X12_wrong fu s x1 M).bind fun p => k none p)
def pX12_isOnce : List xE := [(0, 0, 1, 0, 0, [], .aload_n 0),
  (0, 1, 3, 0, 0, [], .getfield 83),
  (0, 4, 2, 0, 35, [], .bipush 35),
  (0, 6, 1, 0, 0, [], .iaload),
  (0, 7, 1, 0, 0, [], .iload_n 1),
  (0, 8, 1, 0, 0, [], .ishr),
  (0, 9, 1, 0, 1, [], .iconst 1),
  (0, 10, 1, 0, 0, [], .iand),
  (0, 11, 1, 0, 1, [], .iconst 1),
  (0, 12, 3, 22, 0, [], .if_icmp .ne 10),
  (0, 15, 1, 0, 0, [], .aload_n 0),
  (0, 16, 1, 0, 3, [], .iconst 3),
  (0, 17, 3, 0, 0, [], .invokevirtual 162),
  (0, 20, 1, 0, 0, [], .iconst 0),
  (0, 21, 1, 0, 0, [], .ireturn),
  (0, 22, 1, 0, 0, [], .aload_n 0),
  (0, 23, 3, 0, 0, [], .getfield 83),
  (0, 26, 2, 0, 35, [], .bipush 35),
  (0, 28, 1, 0, 0, [], .dup2),
  (0, 29, 1, 0, 0, [], .iaload),
  (0, 30, 1, 0, 1, [], .iconst 1),
  (0, 31, 1, 0, 0, [], .iload_n 1),
  (0, 32, 1, 0, 0, [], .ishl),
  (0, 33, 1, 0, 0, [], .ior),
  (0, 34, 1, 0, 0, [], .iastore),
  (0, 35, 1, 0, 0, [], .aload_n 0),
  (0, 36, 1, 0, 0, [], .dup),
  (0, 37, 3, 0, 0, [], .getfield 153),
  (0, 40, 1, 0, 1, [], .iconst 1),
  (0, 41, 1, 0, 0, [], .iadd),
  (0, 42, 3, 0, 0, [], .putfield 153),
  (0, 45, 1, 0, 1, [], .iconst 1),
  (0, 46, 1, 0, 0, [], .ireturn)]
def F_X12_isOnce (fu : Nat) (s : Nat) (x1 : Int32) (M : xM) : Option (Int32 × xM) :=
  (gR M 12 s 10).bind fun a_1 =>
  gd (xin 35 (gN M 20 a_1)) <|
  if ¬ (((gI M 20 a_1 (xi 35)) >>> (x1 &&& 31)) &&& 1) = 1 then
    (gR M 12 s 10).bind fun a_2 =>
    gd (xin 35 (gN M 20 a_2)) <|
    (gR M 12 s 10).bind fun a_3 =>
    gd (xin 35 (gN M 20 a_3)) <|
    let M_4 := sI M 20 a_3 (xi 35) ((gI M 20 a_2 (xi 35)) ||| (1 <<< (x1 &&& 31)))
    let M_5 := sI M_4 12 s 7 ((gI M_4 12 s 7) + 1)
    gd (xbool 1) (some (1, M_5))
  else
    (F_X12_wrong fu s 3 M).bind fun p_6 =>
    gd (xbool 0) (some (0, p_6))
set_option maxRecDepth 100000 in
theorem q_X12_isOnce (fu : Nat) (s : Nat) (x1 : Int32) (M : xM) :
    xrun pX12_isOnce flX12 koX12 nwX12 [(162, 2, 0, 0, w_X12_wrong fu)] [] xrtZ 35 (xat 0 pX12_isOnce) 0 0 [(0, .inr (.inr (12, some s))), (1, .inl x1)] [] M = F_X12_isOnce fu s x1 M := rfl
def w_X12_isOnce (fu : Nat) {ρ : Type} (as : List xV) (M : xM) (k : Option xV → xM → Option ρ) : Option ρ := pR 12 as fun o as => o.bind fun s => pI as fun x1 as => xe as ((F_X12_isOnce fu s x1 M).bind fun p => k (some (.inl p.1)) p.2)
def pX12_judged : List xE := [(0, 0, 1, 0, 0, [], .aload_n 0),
  (0, 1, 1, 0, 0, [], .iconst 0),
  (0, 2, 3, 0, 0, [], .putfield 1),
  (0, 5, 1, 0, 0, [], .iload_n 1),
  (0, 6, 1, 0, 0, [], .iconst 0),
  (0, 7, 1, 0, 3, [], .iconst 3),
  (0, 8, 3, 0, 0, [], .invokestatic 380),
  (0, 11, 3, 17, 0, [], .ifCond .ne 6),
  (0, 14, 2, 0, (-2), [], .bipush (-2)),
  (0, 16, 1, 0, 0, [], .ireturn),
  (0, 17, 1, 0, 0, [], .aload_n 0),
  (0, 18, 3, 0, 1605, [], .sipush 1605),
  (0, 21, 3, 0, 0, [], .invokevirtual 249),
  (0, 24, 1, 0, (-1), [], .iconst (-1)),
  (0, 25, 1, 0, 0, [], .istore_n 2),
  (0, 26, 1, 0, 0, [], .iconst 0),
  (0, 27, 1, 0, 0, [], .istore_n 3),
  (1, 28, 1, 0, 0, [], .iload_n 3),
  (0, 29, 1, 0, 0, [], .aload_n 0),
  (0, 30, 3, 0, 0, [], .getfield 92),
  (0, 33, 1, 0, 0, [], .iconst 0),
  (0, 34, 1, 0, 0, [], .iaload),
  (0, 35, 3, 69, 0, [], .if_icmp .ge 34),
  (0, 38, 1, 0, 0, [], .aload_n 0),
  (0, 39, 3, 0, 1605, [], .sipush 1605),
  (0, 42, 1, 0, 1, [], .iconst 1),
  (0, 43, 1, 0, 4, [], .iconst 4),
  (0, 44, 1, 0, 0, [], .iload_n 3),
  (0, 45, 1, 0, 0, [], .imul),
  (0, 46, 1, 0, 0, [], .iadd),
  (0, 47, 3, 0, 0, [], .invokevirtual 396),
  (0, 50, 3, 61, 0, [], .ifCond .ne 11),
  (0, 53, 1, 0, 0, [], .iload_n 2),
  (0, 54, 3, 61, 0, [], .ifCond .ge 7),
  (0, 57, 1, 0, 0, [], .iload_n 3),
  (0, 58, 3, 62, 0, [], .goto 4),
  (0, 61, 1, 0, 0, [], .iload_n 2),
  (0, 62, 1, 0, 0, [], .istore_n 2),
  (0, 63, 3, 0, 1, [], .iinc 3 1),
  (0, 66, 3, 28, 0, [], .goto (-38)),
  (0, 69, 1, 0, 0, [], .iload_n 1),
  (0, 70, 3, 77, 0, [], .ifCond .ne 7),
  (0, 73, 1, 0, 0, [], .iload_n 2),
  (0, 74, 3, 116, 0, [], .goto 42),
  (0, 77, 1, 0, 0, [], .iload_n 1),
  (0, 78, 1, 0, 1, [], .iconst 1),
  (0, 79, 3, 93, 0, [], .if_icmp .ne 14),
  (0, 82, 1, 0, 0, [], .aload_n 0),
  (0, 83, 3, 0, 0, [], .getfield 101),
  (0, 86, 3, 0, 1611, [], .sipush 1611),
  (0, 89, 1, 0, 0, [], .iaload),
  (0, 90, 3, 116, 0, [], .goto 26),
  (0, 93, 1, 0, 0, [], .iload_n 1),
  (0, 94, 1, 0, 2, [], .iconst 2),
  (0, 95, 3, 108, 0, [], .if_icmp .ne 13),
  (0, 98, 1, 0, 0, [], .aload_n 0),
  (0, 99, 3, 0, 1605, [], .sipush 1605),
  (0, 102, 3, 0, 0, [], .invokevirtual 326),
  (0, 105, 3, 116, 0, [], .goto 11),
  (0, 108, 1, 0, 0, [], .aload_n 0),
  (0, 109, 3, 0, 0, [], .getfield 101),
  (0, 112, 3, 0, 1612, [], .sipush 1612),
  (0, 115, 1, 0, 0, [], .iaload),
  (0, 116, 1, 0, 0, [], .ireturn)]
def L_X12_judged_28 (fu : Nat) : Nat → Nat → Int32 → Int32 → Int32 → xM → Option (Int32 × xM)
  | 0, _, _, _, _, _ => none
  | n + 1, s, x1, x2, x3, M =>
    (gR M 12 s 14).bind fun a_1 =>
    gd (xin 0 (gN M 20 a_1)) <|
    if (gI M 20 a_1 (xi 0)) ≤ x3 then
      if ¬ x1 = 0 then
        if ¬ x1 = 1 then
          if ¬ x1 = 2 then
            (gR M 12 s 17).bind fun a_2 =>
            gd (xin 1612 (gN M 20 a_2)) <|
            (some (gI M 20 a_2 (xi 1612), M))
          else
            (F_X12_erased fu s 1605 M).bind fun p_3 =>
            (some (p_3.1, p_3.2))
        else
          (gR M 12 s 17).bind fun a_4 =>
          gd (xin 1611 (gN M 20 a_4)) <|
          (some (gI M 20 a_4 (xi 1611), M))
      else
        (some (x2, M))
    else
      (F_X12_doesLine fu s 1605 (1 + (4 * x3)) M).bind fun p_5 =>
      if ¬ p_5.1 = 0 then
        L_X12_judged_28 fu n s x1 x2 (x3 + 1) p_5.2
      else
        if 0 ≤ x2 then
          L_X12_judged_28 fu n s x1 x2 (x3 + 1) p_5.2
        else
          L_X12_judged_28 fu n s x1 x3 (x3 + 1) p_5.2
set_option maxRecDepth 100000 in
theorem q_X12_judged_28 (fu : Nat) (n : Nat) (s : Nat) (x1 : Int32) (x2 : Int32) (x3 : Int32) (M : xM) :
    xrun pX12_judged flX12 koX12 nwX12 [(326, 2, 0, 0, w_X12_erased fu), (396, 3, 0, 0, w_X12_doesLine fu)] [(28, fun bc bs ls st M => xz bc bs (lR ls 0 12 fun o => o.bind fun s => lI ls 1 fun x1 => lI ls 2 fun x2 => lI ls 3 fun x3 => xe st (L_X12_judged_28 fu n s x1 x2 x3 M)))] xrtI 66 (xat 28 pX12_judged) 0 0 [(0, .inr (.inr (12, some s))), (1, .inl x1), (2, .inl x2), (3, .inl x3)] [] M = L_X12_judged_28 fu (n + 1) s x1 x2 x3 M := rfl
def F_X12_judged (fu : Nat) (s : Nat) (x1 : Int32) (M : xM) : Option (Int32 × xM) :=
  let M_1 := sI M 12 s 0 0
  (F_X12_within fu x1 0 3 M_1).bind fun p_2 =>
  if ¬ p_2.1 = 0 then
    (F_X12_starts fu s 1605 p_2.2).bind fun p_3 =>
    L_X12_judged_28 fu fu s x1 ((-1)) 0 p_3
  else
    (some ((-2), p_2.2))
set_option maxRecDepth 100000 in
theorem q_X12_judged (fu : Nat) (s : Nat) (x1 : Int32) (M : xM) :
    xrun pX12_judged flX12 koX12 nwX12 [(249, 2, 0, 0, w_X12_starts fu), (380, 3, 0, 0, w_X12_within fu)] [(28, fun bc bs ls st M => xz bc bs (lR ls 0 12 fun o => o.bind fun s => lI ls 1 fun x1 => lI ls 2 fun x2 => lI ls 3 fun x3 => xe st (L_X12_judged_28 fu fu s x1 x2 x3 M)))] xrtI 66 (xat 0 pX12_judged) 0 0 [(0, .inr (.inr (12, some s))), (1, .inl x1)] [] M = F_X12_judged fu s x1 M := rfl
def w_X12_judged (fu : Nat) {ρ : Type} (as : List xV) (M : xM) (k : Option xV → xM → Option ρ) : Option ρ := pR 12 as fun o as => o.bind fun s => pI as fun x1 as => xe as ((F_X12_judged fu s x1 M).bind fun p => k (some (.inl p.1)) p.2)
def pX12_liveAbove : List xE := [(0, 0, 1, 0, (-1), [], .iconst (-1)),
  (0, 1, 1, 0, 0, [], .istore_n 2),
  (0, 2, 1, 0, 0, [], .iconst 0),
  (0, 3, 1, 0, 0, [], .istore_n 3),
  (1, 4, 1, 0, 0, [], .iload_n 3),
  (0, 5, 1, 0, 0, [], .aload_n 0),
  (0, 6, 3, 0, 0, [], .invokevirtual 277),
  (0, 9, 3, 74, 0, [], .if_icmp .ge 65),
  (0, 12, 1, 0, 0, [], .aload_n 0),
  (0, 13, 1, 0, 0, [], .iconst 0),
  (0, 14, 1, 0, 0, [], .iload_n 3),
  (0, 15, 3, 0, 0, [], .invokevirtual 308),
  (0, 18, 3, 54, 0, [], .ifCond .eq 36),
  (0, 21, 1, 0, 0, [], .aload_n 0),
  (0, 22, 1, 0, 0, [], .iconst 0),
  (0, 23, 1, 0, 0, [], .iload_n 3),
  (0, 24, 3, 0, 0, [], .invokevirtual 293),
  (0, 27, 1, 0, 0, [], .iload_n 1),
  (0, 28, 3, 54, 0, [], .if_icmp .le 26),
  (0, 31, 1, 0, 0, [], .iload_n 2),
  (0, 32, 3, 50, 0, [], .ifCond .lt 18),
  (0, 35, 1, 0, 0, [], .aload_n 0),
  (0, 36, 1, 0, 0, [], .iconst 0),
  (0, 37, 1, 0, 0, [], .iload_n 3),
  (0, 38, 3, 0, 0, [], .invokevirtual 293),
  (0, 41, 1, 0, 0, [], .aload_n 0),
  (0, 42, 1, 0, 0, [], .iconst 0),
  (0, 43, 1, 0, 0, [], .iload_n 2),
  (0, 44, 3, 0, 0, [], .invokevirtual 293),
  (0, 47, 3, 54, 0, [], .if_icmp .ge 7),
  (0, 50, 1, 0, 1, [], .iconst 1),
  (0, 51, 3, 55, 0, [], .goto 4),
  (0, 54, 1, 0, 0, [], .iconst 0),
  (1, 55, 2, 0, 0, [], .istore 4),
  (0, 57, 2, 0, 0, [], .iload 4),
  (0, 59, 3, 66, 0, [], .ifCond .eq 7),
  (0, 62, 1, 0, 0, [], .iload_n 3),
  (0, 63, 3, 67, 0, [], .goto 4),
  (0, 66, 1, 0, 0, [], .iload_n 2),
  (0, 67, 1, 0, 0, [], .istore_n 2),
  (0, 68, 3, 0, 1, [], .iinc 3 1),
  (0, 71, 3, 4, 0, [], .goto (-67)),
  (0, 74, 1, 0, 0, [], .iload_n 2),
  (0, 75, 1, 0, 0, [], .ireturn)]
def J_X12_liveAbove_55 (fu : Nat) (k4 : Nat → Int32 → Int32 → Int32 → xM → Option (Int32 × xM)) (s : Nat) (x1 : Int32) (x2 : Int32) (x3 : Int32) (y0 : Int32) (M : xM) : Option (Int32 × xM) :=
  if y0 = 0 then
    k4 s x1 x2 (x3 + 1) M
  else
    k4 s x1 x3 (x3 + 1) M
set_option maxRecDepth 100000 in
theorem q_X12_liveAbove_55 (fu : Nat) (k4 : Nat → Int32 → Int32 → Int32 → xM → Option (Int32 × xM)) (s : Nat) (x1 : Int32) (x2 : Int32) (x3 : Int32) (y0 : Int32) (M : xM) :
    xrun pX12_liveAbove flX12 koX12 nwX12 [] [(4, fun bc bs ls st M => xz bc bs (lR ls 0 12 fun o => o.bind fun s => lI ls 1 fun x1 => lI ls 2 fun x2 => lI ls 3 fun x3 => xe st (k4 s x1 x2 x3 M)))] xrtI 46 (xat 55 pX12_liveAbove) 0 0 [(0, .inr (.inr (12, some s))), (1, .inl x1), (2, .inl x2), (3, .inl x3)] [.inl y0] M = J_X12_liveAbove_55 fu k4 s x1 x2 x3 y0 M := rfl
def L_X12_liveAbove_4 (fu : Nat) : Nat → Nat → Int32 → Int32 → Int32 → xM → Option (Int32 × xM)
  | 0, _, _, _, _, _ => none
  | n + 1, s, x1, x2, x3, M =>
    (F_X12_allSlots fu s M).bind fun p_1 =>
    if p_1.1 ≤ x3 then
      (some (x2, p_1.2))
    else
      (F_X12_isLive fu s 0 x3 p_1.2).bind fun p_2 =>
      if p_2.1 = 0 then
        J_X12_liveAbove_55 fu (L_X12_liveAbove_4 fu n) s x1 x2 x3 0 p_2.2
      else
        (F_X12_numberOf fu s 0 x3 p_2.2).bind fun p_3 =>
        if p_3.1 ≤ x1 then
          J_X12_liveAbove_55 fu (L_X12_liveAbove_4 fu n) s x1 x2 x3 0 p_3.2
        else
          if x2 < 0 then
            J_X12_liveAbove_55 fu (L_X12_liveAbove_4 fu n) s x1 x2 x3 1 p_3.2
          else
            (F_X12_numberOf fu s 0 x3 p_3.2).bind fun p_4 =>
            (F_X12_numberOf fu s 0 x2 p_4.2).bind fun p_5 =>
            if p_5.1 ≤ p_4.1 then
              J_X12_liveAbove_55 fu (L_X12_liveAbove_4 fu n) s x1 x2 x3 0 p_5.2
            else
              J_X12_liveAbove_55 fu (L_X12_liveAbove_4 fu n) s x1 x2 x3 1 p_5.2
set_option maxRecDepth 100000 in
theorem q_X12_liveAbove_4 (fu : Nat) (n : Nat) (s : Nat) (x1 : Int32) (x2 : Int32) (x3 : Int32) (M : xM) :
    xrun pX12_liveAbove flX12 koX12 nwX12 [(277, 1, 0, 0, w_X12_allSlots fu), (293, 3, 0, 0, w_X12_numberOf fu), (308, 3, 0, 0, w_X12_isLive fu)] [(55, fun bc bs ls st M => xz bc bs (lR ls 0 12 fun o => o.bind fun s => lI ls 1 fun x1 => lI ls 2 fun x2 => lI ls 3 fun x3 => pI st fun y0 st => xe st (J_X12_liveAbove_55 fu (L_X12_liveAbove_4 fu n) s x1 x2 x3 y0 M)))] xrtI 46 (xat 4 pX12_liveAbove) 0 0 [(0, .inr (.inr (12, some s))), (1, .inl x1), (2, .inl x2), (3, .inl x3)] [] M = L_X12_liveAbove_4 fu (n + 1) s x1 x2 x3 M := rfl
def F_X12_liveAbove (fu : Nat) (s : Nat) (x1 : Int32) (M : xM) : Option (Int32 × xM) :=
  L_X12_liveAbove_4 fu fu s x1 ((-1)) 0 M
set_option maxRecDepth 100000 in
theorem q_X12_liveAbove (fu : Nat) (s : Nat) (x1 : Int32) (M : xM) :
    xrun pX12_liveAbove flX12 koX12 nwX12 [] [(4, fun bc bs ls st M => xz bc bs (lR ls 0 12 fun o => o.bind fun s => lI ls 1 fun x1 => lI ls 2 fun x2 => lI ls 3 fun x3 => xe st (L_X12_liveAbove_4 fu fu s x1 x2 x3 M)))] xrtI 46 (xat 0 pX12_liveAbove) 0 0 [(0, .inr (.inr (12, some s))), (1, .inl x1)] [] M = F_X12_liveAbove fu s x1 M := rfl
def w_X12_liveAbove (fu : Nat) {ρ : Type} (as : List xV) (M : xM) (k : Option xV → xM → Option ρ) : Option ρ := pR 12 as fun o as => o.bind fun s => pI as fun x1 as => xe as ((F_X12_liveAbove fu s x1 M).bind fun p => k (some (.inl p.1)) p.2)
def pX12_lives : List xE := [(0, 0, 1, 0, 0, [], .aload_n 0),
  (0, 1, 1, 0, 0, [], .iconst 0),
  (0, 2, 3, 0, 0, [], .invokevirtual 305),
  (0, 5, 1, 0, 0, [], .iload_n 1),
  (0, 6, 3, 13, 0, [], .ifCond .ge 7),
  (0, 9, 1, 0, (-1), [], .iconst (-1)),
  (0, 10, 3, 18, 0, [], .goto 8),
  (0, 13, 1, 0, 0, [], .aload_n 0),
  (0, 14, 1, 0, 0, [], .iconst 0),
  (0, 15, 3, 0, 0, [], .invokevirtual 444),
  (0, 18, 1, 0, 0, [], .istore_n 2),
  (0, 19, 1, 0, 0, [], .iconst 0),
  (0, 20, 1, 0, 0, [], .istore_n 3),
  (1, 21, 1, 0, 0, [], .iload_n 3),
  (0, 22, 1, 0, 0, [], .iload_n 1),
  (0, 23, 3, 47, 0, [], .if_icmp .ge 24),
  (0, 26, 1, 0, 0, [], .iload_n 2),
  (0, 27, 3, 47, 0, [], .ifCond .lt 20),
  (0, 30, 1, 0, 0, [], .aload_n 0),
  (0, 31, 1, 0, 0, [], .aload_n 0),
  (0, 32, 1, 0, 0, [], .iconst 0),
  (0, 33, 1, 0, 0, [], .iload_n 2),
  (0, 34, 3, 0, 0, [], .invokevirtual 293),
  (0, 37, 3, 0, 0, [], .invokevirtual 444),
  (0, 40, 1, 0, 0, [], .istore_n 2),
  (0, 41, 3, 0, 1, [], .iinc 3 1),
  (0, 44, 3, 21, 0, [], .goto (-23)),
  (1, 47, 1, 0, 0, [], .aload_n 0),
  (0, 48, 1, 0, 0, [], .iload_n 2),
  (0, 49, 3, 56, 0, [], .ifCond .ge 7),
  (0, 52, 1, 0, 1, [], .iconst 1),
  (0, 53, 3, 57, 0, [], .goto 4),
  (0, 56, 1, 0, 0, [], .iconst 0),
  (1, 57, 3, 0, 0, [], .putfield 1),
  (0, 60, 1, 0, 0, [], .iload_n 2),
  (0, 61, 3, 68, 0, [], .ifCond .ge 7),
  (0, 64, 1, 0, 0, [], .iconst 0),
  (0, 65, 3, 69, 0, [], .goto 4),
  (0, 68, 1, 0, 0, [], .iload_n 2),
  (0, 69, 1, 0, 0, [], .ireturn)]
def J_X12_lives_57 (fu : Nat) (x2 : Int32) (y0 : Int32) (y1 : Nat) (M : xM) : Option (Int32 × xM) :=
  let M_1 := sI M 12 y1 0 y0
  if 0 ≤ x2 then
    (some (x2, M_1))
  else
    (some (0, M_1))
set_option maxRecDepth 100000 in
theorem q_X12_lives_57 (fu : Nat) (x2 : Int32) (y0 : Int32) (y1 : Nat) (M : xM) :
    xrun pX12_lives flX12 koX12 nwX12 [] [] xrtI 42 (xat 57 pX12_lives) 0 0 [(2, .inl x2)] [.inl y0, .inr (.inr (12, some y1))] M = J_X12_lives_57 fu x2 y0 y1 M := rfl
def J_X12_lives_47 (fu : Nat) (s : Nat) (x2 : Int32) (M : xM) : Option (Int32 × xM) :=
  if 0 ≤ x2 then
    J_X12_lives_57 fu x2 0 s M
  else
    J_X12_lives_57 fu x2 1 s M
set_option maxRecDepth 100000 in
theorem q_X12_lives_47 (fu : Nat) (s : Nat) (x2 : Int32) (M : xM) :
    xrun pX12_lives flX12 koX12 nwX12 [] [(57, fun bc bs ls st M => xz bc bs (lI ls 2 fun x2 => pI st fun y0 st => pR 12 st fun o st => o.bind fun y1 => xe st (J_X12_lives_57 fu x2 y0 y1 M)))] xrtI 42 (xat 47 pX12_lives) 0 0 [(0, .inr (.inr (12, some s))), (2, .inl x2)] [] M = J_X12_lives_47 fu s x2 M := rfl
def L_X12_lives_21 (fu : Nat) : Nat → Nat → Int32 → Int32 → Int32 → xM → Option (Int32 × xM)
  | 0, _, _, _, _, _ => none
  | n + 1, s, x1, x2, x3, M =>
    if x1 ≤ x3 then
      J_X12_lives_47 fu s x2 M
    else
      if x2 < 0 then
        J_X12_lives_47 fu s x2 M
      else
        (F_X12_numberOf fu s 0 x2 M).bind fun p_1 =>
        (F_X12_liveAbove fu s p_1.1 p_1.2).bind fun p_2 =>
        L_X12_lives_21 fu n s x1 p_2.1 (x3 + 1) p_2.2
set_option maxRecDepth 100000 in
theorem q_X12_lives_21 (fu : Nat) (n : Nat) (s : Nat) (x1 : Int32) (x2 : Int32) (x3 : Int32) (M : xM) :
    xrun pX12_lives flX12 koX12 nwX12 [(293, 3, 0, 0, w_X12_numberOf fu), (444, 2, 0, 0, w_X12_liveAbove fu)] [(21, fun bc bs ls st M => xz bc bs (lR ls 0 12 fun o => o.bind fun s => lI ls 1 fun x1 => lI ls 2 fun x2 => lI ls 3 fun x3 => xe st (L_X12_lives_21 fu n s x1 x2 x3 M))),
    (47, fun bc bs ls st M => xz bc bs (lR ls 0 12 fun o => o.bind fun s => lI ls 2 fun x2 => xe st (J_X12_lives_47 fu s x2 M)))] xrtI 42 (xat 21 pX12_lives) 0 0 [(0, .inr (.inr (12, some s))), (1, .inl x1), (2, .inl x2), (3, .inl x3)] [] M = L_X12_lives_21 fu (n + 1) s x1 x2 x3 M := rfl
def F_X12_lives (fu : Nat) (s : Nat) (x1 : Int32) (M : xM) : Option (Int32 × xM) :=
  (F_X12_looks fu s 0 M).bind fun p_1 =>
  if 0 ≤ x1 then
    (F_X12_liveAbove fu s 0 p_1).bind fun p_2 =>
    L_X12_lives_21 fu fu s x1 p_2.1 0 p_2.2
  else
    L_X12_lives_21 fu fu s x1 ((-1)) 0 p_1
set_option maxRecDepth 100000 in
theorem q_X12_lives (fu : Nat) (s : Nat) (x1 : Int32) (M : xM) :
    xrun pX12_lives flX12 koX12 nwX12 [(305, 2, 0, 0, w_X12_looks fu), (444, 2, 0, 0, w_X12_liveAbove fu)] [(21, fun bc bs ls st M => xz bc bs (lR ls 0 12 fun o => o.bind fun s => lI ls 1 fun x1 => lI ls 2 fun x2 => lI ls 3 fun x3 => xe st (L_X12_lives_21 fu fu s x1 x2 x3 M)))] xrtI 42 (xat 0 pX12_lives) 0 0 [(0, .inr (.inr (12, some s))), (1, .inl x1)] [] M = F_X12_lives fu s x1 M := rfl
def w_X12_lives (fu : Nat) {ρ : Type} (as : List xV) (M : xM) (k : Option xV → xM → Option ρ) : Option ρ := pR 12 as fun o as => o.bind fun s => pI as fun x1 as => xe as ((F_X12_lives fu s x1 M).bind fun p => k (some (.inl p.1)) p.2)
def pX12_mostSaid : List xE := [(0, 0, 1, 0, 0, [], .iconst 0),
  (0, 1, 1, 0, 0, [], .istore_n 2),
  (1, 2, 1, 0, 0, [], .iload_n 2),
  (0, 3, 3, 0, 257, [], .sipush 257),
  (0, 6, 3, 22, 0, [], .if_icmp .ge 16),
  (0, 9, 1, 0, 0, [], .aload_n 0),
  (0, 10, 3, 0, 0, [], .getfield 120),
  (0, 13, 1, 0, 0, [], .iload_n 2),
  (0, 14, 1, 0, 0, [], .iconst 0),
  (0, 15, 1, 0, 0, [], .iastore),
  (0, 16, 3, 0, 1, [], .iinc 2 1),
  (0, 19, 3, 2, 0, [], .goto (-17)),
  (0, 22, 1, 0, 0, [], .iconst 0),
  (0, 23, 1, 0, 0, [], .istore_n 2),
  (0, 24, 1, 0, 1, [], .iconst 1),
  (0, 25, 1, 0, 0, [], .istore_n 3),
  (1, 26, 1, 0, 0, [], .iload_n 3),
  (0, 27, 1, 0, 0, [], .aload_n 0),
  (0, 28, 3, 0, 0, [], .invokevirtual 414),
  (0, 31, 3, 97, 0, [], .if_icmp .gt 66),
  (0, 34, 1, 0, 0, [], .aload_n 0),
  (0, 35, 1, 0, 0, [], .iload_n 3),
  (0, 36, 3, 0, 0, [], .invokevirtual 428),
  (0, 39, 3, 91, 0, [], .ifCond .eq 52),
  (0, 42, 1, 0, 0, [], .aload_n 0),
  (0, 43, 3, 0, 0, [], .getfield 111),
  (0, 46, 1, 0, 3, [], .iconst 3),
  (0, 47, 1, 0, 0, [], .iload_n 3),
  (0, 48, 1, 0, 0, [], .imul),
  (0, 49, 1, 0, 0, [], .iload_n 1),
  (0, 50, 3, 0, 0, [], .invokestatic 420),
  (0, 53, 1, 0, 1, [], .iconst 1),
  (0, 54, 1, 0, 0, [], .iadd),
  (0, 55, 2, 0, 0, [], .istore 4),
  (0, 57, 1, 0, 0, [], .aload_n 0),
  (0, 58, 3, 0, 0, [], .getfield 120),
  (0, 61, 2, 0, 0, [], .iload 4),
  (0, 63, 1, 0, 0, [], .dup2),
  (0, 64, 1, 0, 0, [], .iaload),
  (0, 65, 1, 0, 1, [], .iconst 1),
  (0, 66, 1, 0, 0, [], .iadd),
  (0, 67, 1, 0, 0, [], .iastore),
  (0, 68, 1, 0, 0, [], .aload_n 0),
  (0, 69, 3, 0, 0, [], .getfield 120),
  (0, 72, 2, 0, 0, [], .iload 4),
  (0, 74, 1, 0, 0, [], .iaload),
  (0, 75, 1, 0, 0, [], .iload_n 2),
  (0, 76, 3, 89, 0, [], .if_icmp .le 13),
  (0, 79, 1, 0, 0, [], .aload_n 0),
  (0, 80, 3, 0, 0, [], .getfield 120),
  (0, 83, 2, 0, 0, [], .iload 4),
  (0, 85, 1, 0, 0, [], .iaload),
  (0, 86, 3, 90, 0, [], .goto 4),
  (0, 89, 1, 0, 0, [], .iload_n 2),
  (0, 90, 1, 0, 0, [], .istore_n 2),
  (0, 91, 3, 0, 1, [], .iinc 3 1),
  (0, 94, 3, 26, 0, [], .goto (-68)),
  (0, 97, 1, 0, 0, [], .iload_n 2),
  (0, 98, 1, 0, 0, [], .ireturn)]
def L_X12_mostSaid_26 (fu : Nat) : Nat → Nat → Int32 → Int32 → Int32 → xM → Option (Int32 × xM)
  | 0, _, _, _, _, _ => none
  | n + 1, s, x1, x2, x3, M =>
    (F_X12_putsOfAll fu s M).bind fun p_1 =>
    if p_1.1 < x3 then
      (some (x2, p_1.2))
    else
      (F_X12_isAsSeen fu s x3 p_1.2).bind fun p_2 =>
      if p_2.1 = 0 then
        L_X12_mostSaid_26 fu n s x1 x2 (x3 + 1) p_2.2
      else
        (F_X12_saysIn fu (gR p_2.2 12 s 23) (3 * x3) x1 p_2.2).bind fun p_3 =>
        let x4_4 : Int32 := p_3.1 + 1
        (gR p_3.2 12 s 27).bind fun a_5 =>
        gd (xin x4_4 (gN p_3.2 20 a_5)) <|
        (gR p_3.2 12 s 27).bind fun a_6 =>
        gd (xin x4_4 (gN p_3.2 20 a_6)) <|
        let M_7 := sI p_3.2 20 a_6 (xi x4_4) ((gI p_3.2 20 a_5 (xi x4_4)) + 1)
        (gR M_7 12 s 27).bind fun a_8 =>
        gd (xin x4_4 (gN M_7 20 a_8)) <|
        if (gI M_7 20 a_8 (xi x4_4)) ≤ x2 then
          L_X12_mostSaid_26 fu n s x1 x2 (x3 + 1) M_7
        else
          (gR M_7 12 s 27).bind fun a_9 =>
          gd (xin x4_4 (gN M_7 20 a_9)) <|
          let x2_10 : Int32 := gI M_7 20 a_9 (xi x4_4)
          L_X12_mostSaid_26 fu n s x1 x2_10 (x3 + 1) M_7
set_option maxRecDepth 100000 in
theorem q_X12_mostSaid_26 (fu : Nat) (n : Nat) (s : Nat) (x1 : Int32) (x2 : Int32) (x3 : Int32) (M : xM) :
    xrun pX12_mostSaid flX12 koX12 nwX12 [(414, 1, 0, 0, w_X12_putsOfAll fu), (420, 3, 0, 0, w_X12_saysIn fu), (428, 2, 0, 0, w_X12_isAsSeen fu)] [(26, fun bc bs ls st M => xz bc bs (lR ls 0 12 fun o => o.bind fun s => lI ls 1 fun x1 => lI ls 2 fun x2 => lI ls 3 fun x3 => xe st (L_X12_mostSaid_26 fu n s x1 x2 x3 M)))] xrtI 61 (xat 26 pX12_mostSaid) 0 0 [(0, .inr (.inr (12, some s))), (1, .inl x1), (2, .inl x2), (3, .inl x3)] [] M = L_X12_mostSaid_26 fu (n + 1) s x1 x2 x3 M := rfl
def L_X12_mostSaid_2 (fu : Nat) : Nat → Nat → Int32 → Int32 → xM → Option (Int32 × xM)
  | 0, _, _, _, _ => none
  | n + 1, s, x1, x2, M =>
    if 257 ≤ x2 then
      L_X12_mostSaid_26 fu fu s x1 0 1 M
    else
      (gR M 12 s 27).bind fun a_1 =>
      gd (xin x2 (gN M 20 a_1)) <|
      let M_2 := sI M 20 a_1 (xi x2) 0
      L_X12_mostSaid_2 fu n s x1 (x2 + 1) M_2
set_option maxRecDepth 100000 in
theorem q_X12_mostSaid_2 (fu : Nat) (n : Nat) (s : Nat) (x1 : Int32) (x2 : Int32) (M : xM) :
    xrun pX12_mostSaid flX12 koX12 nwX12 [] [(2, fun bc bs ls st M => xz bc bs (lR ls 0 12 fun o => o.bind fun s => lI ls 1 fun x1 => lI ls 2 fun x2 => xe st (L_X12_mostSaid_2 fu n s x1 x2 M))),
    (26, fun bc bs ls st M => xz bc bs (lR ls 0 12 fun o => o.bind fun s => lI ls 1 fun x1 => lI ls 2 fun x2 => lI ls 3 fun x3 => xe st (L_X12_mostSaid_26 fu fu s x1 x2 x3 M)))] xrtI 61 (xat 2 pX12_mostSaid) 0 0 [(0, .inr (.inr (12, some s))), (1, .inl x1), (2, .inl x2)] [] M = L_X12_mostSaid_2 fu (n + 1) s x1 x2 M := rfl
def F_X12_mostSaid (fu : Nat) (s : Nat) (x1 : Int32) (M : xM) : Option (Int32 × xM) :=
  L_X12_mostSaid_2 fu fu s x1 0 M
set_option maxRecDepth 100000 in
theorem q_X12_mostSaid (fu : Nat) (s : Nat) (x1 : Int32) (M : xM) :
    xrun pX12_mostSaid flX12 koX12 nwX12 [] [(2, fun bc bs ls st M => xz bc bs (lR ls 0 12 fun o => o.bind fun s => lI ls 1 fun x1 => lI ls 2 fun x2 => xe st (L_X12_mostSaid_2 fu fu s x1 x2 M)))] xrtI 61 (xat 0 pX12_mostSaid) 0 0 [(0, .inr (.inr (12, some s))), (1, .inl x1)] [] M = F_X12_mostSaid fu s x1 M := rfl
def w_X12_mostSaid (fu : Nat) {ρ : Type} (as : List xV) (M : xM) (k : Option xV → xM → Option ρ) : Option ρ := pR 12 as fun o as => o.bind fun s => pI as fun x1 as => xe as ((F_X12_mostSaid fu s x1 M).bind fun p => k (some (.inl p.1)) p.2)
def pX12_look : List xE := [(0, 0, 1, 0, 0, [], .aload_n 0),
  (0, 1, 1, 0, 0, [], .iconst 0),
  (0, 2, 3, 0, 0, [], .putfield 1),
  (0, 5, 1, 0, 0, [], .aload_n 0),
  (0, 6, 3, 0, 0, [], .invokevirtual 431),
  (0, 9, 1, 0, 0, [], .istore_n 1),
  (0, 10, 1, 0, (-1), [], .iconst (-1)),
  (0, 11, 1, 0, 0, [], .istore_n 2),
  (0, 12, 1, 0, 0, [], .iconst 0),
  (0, 13, 1, 0, 0, [], .istore_n 3),
  (1, 14, 1, 0, 0, [], .iload_n 3),
  (0, 15, 2, 0, 20, [], .bipush 20),
  (0, 17, 3, 71, 0, [], .if_icmp .ge 54),
  (0, 20, 1, 0, 0, [], .aload_n 0),
  (0, 21, 1, 0, 0, [], .iload_n 3),
  (0, 22, 1, 0, 4, [], .iconst 4),
  (0, 23, 1, 0, 0, [], .idiv),
  (0, 24, 1, 0, 0, [], .iload_n 3),
  (0, 25, 1, 0, 4, [], .iconst 4),
  (0, 26, 1, 0, 0, [], .irem),
  (0, 27, 3, 0, 0, [], .invokevirtual 345),
  (0, 30, 3, 65, 0, [], .ifCond .eq 35),
  (0, 33, 1, 0, 0, [], .aload_n 0),
  (0, 34, 1, 0, 0, [], .iload_n 3),
  (0, 35, 3, 0, 0, [], .invokevirtual 434),
  (0, 38, 2, 0, 0, [], .istore 4),
  (0, 40, 2, 0, 0, [], .iload 4),
  (0, 42, 1, 0, 0, [], .iload_n 1),
  (0, 43, 3, 50, 0, [], .if_icmp .ge 7),
  (0, 46, 1, 0, 0, [], .iload_n 3),
  (0, 47, 3, 51, 0, [], .goto 4),
  (0, 50, 1, 0, 0, [], .iload_n 2),
  (1, 51, 1, 0, 0, [], .istore_n 2),
  (0, 52, 2, 0, 0, [], .iload 4),
  (0, 54, 1, 0, 0, [], .iload_n 1),
  (0, 55, 3, 63, 0, [], .if_icmp .ge 8),
  (0, 58, 2, 0, 0, [], .iload 4),
  (0, 60, 3, 64, 0, [], .goto 4),
  (0, 63, 1, 0, 0, [], .iload_n 1),
  (0, 64, 1, 0, 0, [], .istore_n 1),
  (0, 65, 3, 0, 1, [], .iinc 3 1),
  (0, 68, 3, 14, 0, [], .goto (-54)),
  (0, 71, 1, 0, 0, [], .iload_n 2),
  (0, 72, 1, 0, 0, [], .ireturn)]
def J_X12_look_51 (fu : Nat) (k14 : Nat → Int32 → Int32 → Int32 → xM → Option (Int32 × xM)) (s : Nat) (x1 : Int32) (x3 : Int32) (x4 : Int32) (y0 : Int32) (M : xM) : Option (Int32 × xM) :=
  if x1 ≤ x4 then
    k14 s x1 y0 (x3 + 1) M
  else
    k14 s x4 y0 (x3 + 1) M
set_option maxRecDepth 100000 in
theorem q_X12_look_51 (fu : Nat) (k14 : Nat → Int32 → Int32 → Int32 → xM → Option (Int32 × xM)) (s : Nat) (x1 : Int32) (x3 : Int32) (x4 : Int32) (y0 : Int32) (M : xM) :
    xrun pX12_look flX12 koX12 nwX12 [] [(14, fun bc bs ls st M => xz bc bs (lR ls 0 12 fun o => o.bind fun s => lI ls 1 fun x1 => lI ls 2 fun x2 => lI ls 3 fun x3 => xe st (k14 s x1 x2 x3 M)))] xrtI 46 (xat 51 pX12_look) 0 0 [(0, .inr (.inr (12, some s))), (1, .inl x1), (3, .inl x3), (4, .inl x4)] [.inl y0] M = J_X12_look_51 fu k14 s x1 x3 x4 y0 M := rfl
def L_X12_look_14 (fu : Nat) : Nat → Nat → Int32 → Int32 → Int32 → xM → Option (Int32 × xM)
  | 0, _, _, _, _, _ => none
  | n + 1, s, x1, x2, x3, M =>
    if 20 ≤ x3 then
      (some (x2, M))
    else
      gd (!((4 : Int32) == 0)) <|
      gd (!((4 : Int32) == 0)) <|
      (F_X12_isPage fu s (x3 / 4) (x3 - x3 / 4 * 4) M).bind fun p_1 =>
      if p_1.1 = 0 then
        L_X12_look_14 fu n s x1 x2 (x3 + 1) p_1.2
      else
        (F_X12_mostSaid fu s x3 p_1.2).bind fun p_2 =>
        if x1 ≤ p_2.1 then
          J_X12_look_51 fu (L_X12_look_14 fu n) s x1 x3 p_2.1 x2 p_2.2
        else
          J_X12_look_51 fu (L_X12_look_14 fu n) s x1 x3 p_2.1 x3 p_2.2
set_option maxRecDepth 100000 in
theorem q_X12_look_14 (fu : Nat) (n : Nat) (s : Nat) (x1 : Int32) (x2 : Int32) (x3 : Int32) (M : xM) :
    xrun pX12_look flX12 koX12 nwX12 [(345, 3, 0, 0, w_X12_isPage fu), (434, 2, 0, 0, w_X12_mostSaid fu)] [(14, fun bc bs ls st M => xz bc bs (lR ls 0 12 fun o => o.bind fun s => lI ls 1 fun x1 => lI ls 2 fun x2 => lI ls 3 fun x3 => xe st (L_X12_look_14 fu n s x1 x2 x3 M))),
    (51, fun bc bs ls st M => xz bc bs (lR ls 0 12 fun o => o.bind fun s => lI ls 1 fun x1 => lI ls 3 fun x3 => lI ls 4 fun x4 => pI st fun y0 st => xe st (J_X12_look_51 fu (L_X12_look_14 fu n) s x1 x3 x4 y0 M)))] xrtI 46 (xat 14 pX12_look) 0 0 [(0, .inr (.inr (12, some s))), (1, .inl x1), (2, .inl x2), (3, .inl x3)] [] M = L_X12_look_14 fu (n + 1) s x1 x2 x3 M := rfl
def F_X12_look (fu : Nat) (s : Nat) (M : xM) : Option (Int32 × xM) :=
  let M_1 := sI M 12 s 0 0
  (F_X12_cutsNow fu s M_1).bind fun p_2 =>
  L_X12_look_14 fu fu s p_2.1 ((-1)) 0 p_2.2
set_option maxRecDepth 100000 in
theorem q_X12_look (fu : Nat) (s : Nat) (M : xM) :
    xrun pX12_look flX12 koX12 nwX12 [(431, 1, 0, 0, w_X12_cutsNow fu)] [(14, fun bc bs ls st M => xz bc bs (lR ls 0 12 fun o => o.bind fun s => lI ls 1 fun x1 => lI ls 2 fun x2 => lI ls 3 fun x3 => xe st (L_X12_look_14 fu fu s x1 x2 x3 M)))] xrtI 46 (xat 0 pX12_look) 0 0 [(0, .inr (.inr (12, some s)))] [] M = F_X12_look fu s M := rfl
def w_X12_look (fu : Nat) {ρ : Type} (as : List xV) (M : xM) (k : Option xV → xM → Option ρ) : Option ρ := pR 12 as fun o as => o.bind fun s => xe as ((F_X12_look fu s M).bind fun p => k (some (.inl p.1)) p.2)
def pX12_loses : List xE := [(0, 0, 1, 0, 0, [], .aload_n 0),
  (0, 1, 1, 0, 0, [], .iconst 0),
  (0, 2, 3, 0, 0, [], .putfield 1),
  (0, 5, 1, 0, 0, [], .aload_n 0),
  (0, 6, 3, 0, 0, [], .invokevirtual 440),
  (0, 9, 1, 0, 0, [], .iconst 0),
  (0, 10, 1, 0, 0, [], .istore_n 1),
  (0, 11, 1, 0, 0, [], .iconst 0),
  (0, 12, 1, 0, 0, [], .istore_n 2),
  (1, 13, 1, 0, 0, [], .iload_n 2),
  (0, 14, 2, 0, 20, [], .bipush 20),
  (0, 16, 3, 58, 0, [], .if_icmp .ge 42),
  (0, 19, 1, 0, 0, [], .iload_n 1),
  (0, 20, 1, 0, 0, [], .aload_n 0),
  (0, 21, 3, 0, 0, [], .getfield 101),
  (0, 24, 2, 0, 14, [], .bipush 14),
  (0, 26, 1, 0, 0, [], .iload_n 2),
  (0, 27, 1, 0, 0, [], .iadd),
  (0, 28, 1, 0, 0, [], .iaload),
  (0, 29, 3, 49, 0, [], .ifCond .le 20),
  (0, 32, 1, 0, 0, [], .aload_n 0),
  (0, 33, 3, 0, 0, [], .getfield 101),
  (0, 36, 3, 0, 1619, [], .sipush 1619),
  (0, 39, 1, 0, 0, [], .iload_n 2),
  (0, 40, 1, 0, 0, [], .iadd),
  (0, 41, 1, 0, 0, [], .iaload),
  (0, 42, 3, 49, 0, [], .ifCond .ne 7),
  (0, 45, 1, 0, 1, [], .iconst 1),
  (0, 46, 3, 50, 0, [], .goto 4),
  (0, 49, 1, 0, 0, [], .iconst 0),
  (0, 50, 1, 0, 0, [], .iadd),
  (0, 51, 1, 0, 0, [], .istore_n 1),
  (0, 52, 3, 0, 1, [], .iinc 2 1),
  (0, 55, 3, 13, 0, [], .goto (-42)),
  (0, 58, 1, 0, 0, [], .iload_n 1),
  (0, 59, 1, 0, 0, [], .ireturn)]
def L_X12_loses_13 (fu : Nat) : Nat → Nat → Int32 → Int32 → xM → Option (Int32 × xM)
  | 0, _, _, _, _ => none
  | n + 1, s, x1, x2, M =>
    if 20 ≤ x2 then
      (some (x1, M))
    else
      (gR M 12 s 17).bind fun a_1 =>
      gd (xin (14 + x2) (gN M 20 a_1)) <|
      if (gI M 20 a_1 (xi (14 + x2))) ≤ 0 then
        let x1_2 : Int32 := x1 + 0
        L_X12_loses_13 fu n s x1_2 (x2 + 1) M
      else
        (gR M 12 s 17).bind fun a_3 =>
        gd (xin (1619 + x2) (gN M 20 a_3)) <|
        if ¬ (gI M 20 a_3 (xi (1619 + x2))) = 0 then
          let x1_4 : Int32 := x1 + 0
          L_X12_loses_13 fu n s x1_4 (x2 + 1) M
        else
          let x1_5 : Int32 := x1 + 1
          L_X12_loses_13 fu n s x1_5 (x2 + 1) M
set_option maxRecDepth 100000 in
theorem q_X12_loses_13 (fu : Nat) (n : Nat) (s : Nat) (x1 : Int32) (x2 : Int32) (M : xM) :
    xrun pX12_loses flX12 koX12 nwX12 [] [(13, fun bc bs ls st M => xz bc bs (lR ls 0 12 fun o => o.bind fun s => lI ls 1 fun x1 => lI ls 2 fun x2 => xe st (L_X12_loses_13 fu n s x1 x2 M)))] xrtI 38 (xat 13 pX12_loses) 0 0 [(0, .inr (.inr (12, some s))), (1, .inl x1), (2, .inl x2)] [] M = L_X12_loses_13 fu (n + 1) s x1 x2 M := rfl
def F_X12_loses (fu : Nat) (s : Nat) (M : xM) : Option (Int32 × xM) :=
  let M_1 := sI M 12 s 0 0
  (F_X12_finds fu s M_1).bind fun p_2 =>
  L_X12_loses_13 fu fu s 0 0 p_2
set_option maxRecDepth 100000 in
theorem q_X12_loses (fu : Nat) (s : Nat) (M : xM) :
    xrun pX12_loses flX12 koX12 nwX12 [(440, 1, 0, 0, w_X12_finds fu)] [(13, fun bc bs ls st M => xz bc bs (lR ls 0 12 fun o => o.bind fun s => lI ls 1 fun x1 => lI ls 2 fun x2 => xe st (L_X12_loses_13 fu fu s x1 x2 M)))] xrtI 38 (xat 0 pX12_loses) 0 0 [(0, .inr (.inr (12, some s)))] [] M = F_X12_loses fu s M := rfl
def w_X12_loses (fu : Nat) {ρ : Type} (as : List xV) (M : xM) (k : Option xV → xM → Option ρ) : Option ρ := pR 12 as fun o as => o.bind fun s => xe as ((F_X12_loses fu s M).bind fun p => k (some (.inl p.1)) p.2)
def pX12_mark : List xE := [(0, 0, 1, 0, 0, [], .aload_n 0),
  (0, 1, 1, 0, 0, [], .iconst 0),
  (0, 2, 3, 0, 0, [], .putfield 1),
  (0, 5, 1, 0, 0, [], .iload_n 1),
  (0, 6, 1, 0, 0, [], .iconst 0),
  (0, 7, 1, 0, 1, [], .iconst 1),
  (0, 8, 3, 0, 0, [], .invokestatic 380),
  (0, 11, 3, 27, 0, [], .ifCond .eq 16),
  (0, 14, 1, 0, 0, [], .iload_n 2),
  (0, 15, 3, 29, 0, [], .ifCond .eq 14),
  (0, 18, 1, 0, 0, [], .aload_n 0),
  (0, 19, 3, 0, 0, [], .getfield 104),
  (0, 22, 1, 0, 0, [], .iload_n 1),
  (0, 23, 1, 0, 0, [], .baload),
  (0, 24, 3, 29, 0, [], .ifCond .ne 5),
  (0, 27, 1, 0, 0, [], .iconst 0),
  (0, 28, 1, 0, 0, [], .ireturn),
  (1, 29, 1, 0, 0, [], .aload_n 0),
  (0, 30, 3, 0, 0, [], .getfield 104),
  (0, 33, 1, 0, 0, [], .iload_n 1),
  (0, 34, 1, 0, 1, [], .iconst 1),
  (0, 35, 1, 0, 0, [], .bastore),
  (0, 36, 1, 0, 0, [], .aload_n 0),
  (0, 37, 1, 0, 0, [], .iload_n 2),
  (0, 38, 3, 51, 0, [], .ifCond .eq 13),
  (0, 41, 3, 0, 535, [], .sipush 535),
  (0, 44, 1, 0, 1, [], .iconst 1),
  (0, 45, 1, 0, 0, [], .iload_n 1),
  (0, 46, 1, 0, 0, [], .iadd),
  (0, 47, 1, 0, 0, [], .imul),
  (0, 48, 3, 52, 0, [], .goto 4),
  (0, 51, 1, 0, 0, [], .iconst 0),
  (1, 52, 1, 0, 0, [], .iload_n 2),
  (0, 53, 3, 60, 0, [], .ifCond .eq 7),
  (0, 56, 1, 0, 0, [], .iconst 0),
  (0, 57, 3, 67, 0, [], .goto 10),
  (0, 60, 3, 0, 535, [], .sipush 535),
  (0, 63, 1, 0, 1, [], .iconst 1),
  (0, 64, 1, 0, 0, [], .iload_n 1),
  (0, 65, 1, 0, 0, [], .iadd),
  (0, 66, 1, 0, 0, [], .imul),
  (0, 67, 3, 0, 535, [], .sipush 535),
  (0, 70, 3, 0, 0, [], .invokevirtual 406),
  (0, 73, 1, 0, 1, [], .iconst 1),
  (0, 74, 1, 0, 0, [], .ireturn)]
def J_X12_mark_52 (fu : Nat) (x1 : Int32) (x2 : Int32) (y0 : Int32) (y1 : Nat) (M : xM) : Option (Int32 × xM) :=
  if x2 = 0 then
    (F_X12_moves fu y1 y0 (535 * (1 + x1)) 535 M).bind fun p_1 =>
    gd (xbool 1) (some (1, p_1))
  else
    (F_X12_moves fu y1 y0 0 535 M).bind fun p_2 =>
    gd (xbool 1) (some (1, p_2))
set_option maxRecDepth 100000 in
theorem q_X12_mark_52 (fu : Nat) (x1 : Int32) (x2 : Int32) (y0 : Int32) (y1 : Nat) (M : xM) :
    xrun pX12_mark flX12 koX12 nwX12 [(406, 4, 0, 0, w_X12_moves fu)] [] xrtZ 47 (xat 52 pX12_mark) 0 0 [(1, .inl x1), (2, .inl x2)] [.inl y0, .inr (.inr (12, some y1))] M = J_X12_mark_52 fu x1 x2 y0 y1 M := rfl
def J_X12_mark_29 (fu : Nat) (s : Nat) (x1 : Int32) (x2 : Int32) (M : xM) : Option (Int32 × xM) :=
  (gR M 12 s 18).bind fun a_1 =>
  gd (xin x1 (gN M 22 a_1)) <|
  gd (xbool 1) <|
  let M_2 := sI M 22 a_1 (xi x1) 1
  if x2 = 0 then
    J_X12_mark_52 fu x1 x2 0 s M_2
  else
    J_X12_mark_52 fu x1 x2 (535 * (1 + x1)) s M_2
set_option maxRecDepth 100000 in
theorem q_X12_mark_29 (fu : Nat) (s : Nat) (x1 : Int32) (x2 : Int32) (M : xM) :
    xrun pX12_mark flX12 koX12 nwX12 [] [(52, fun bc bs ls st M => xz bc bs (lI ls 1 fun x1 => lI ls 2 fun x2 => pI st fun y0 st => pR 12 st fun o st => o.bind fun y1 => xe st (J_X12_mark_52 fu x1 x2 y0 y1 M)))] xrtZ 47 (xat 29 pX12_mark) 0 0 [(0, .inr (.inr (12, some s))), (1, .inl x1), (2, .inl x2)] [] M = J_X12_mark_29 fu s x1 x2 M := rfl
def F_X12_mark (fu : Nat) (s : Nat) (x1 : Int32) (x2 : Int32) (M : xM) : Option (Int32 × xM) :=
  let M_1 := sI M 12 s 0 0
  (F_X12_within fu x1 0 1 M_1).bind fun p_2 =>
  if p_2.1 = 0 then
    gd (xbool 0) (some (0, p_2.2))
  else
    if x2 = 0 then
      J_X12_mark_29 fu s x1 x2 p_2.2
    else
      (gR p_2.2 12 s 18).bind fun a_3 =>
      gd (xin x1 (gN p_2.2 22 a_3)) <|
      if ¬ (gI p_2.2 22 a_3 (xi x1)) = 0 then
        J_X12_mark_29 fu s x1 x2 p_2.2
      else
        gd (xbool 0) (some (0, p_2.2))
set_option maxRecDepth 100000 in
theorem q_X12_mark (fu : Nat) (s : Nat) (x1 : Int32) (x2 : Int32) (M : xM) :
    xrun pX12_mark flX12 koX12 nwX12 [(380, 3, 0, 0, w_X12_within fu)] [(29, fun bc bs ls st M => xz bc bs (lR ls 0 12 fun o => o.bind fun s => lI ls 1 fun x1 => lI ls 2 fun x2 => xe st (J_X12_mark_29 fu s x1 x2 M)))] xrtZ 47 (xat 0 pX12_mark) 0 0 [(0, .inr (.inr (12, some s))), (1, .inl x1), (2, .inl x2)] [] M = F_X12_mark fu s x1 x2 M := rfl
def w_X12_mark (fu : Nat) {ρ : Type} (as : List xV) (M : xM) (k : Option xV → xM → Option ρ) : Option ρ := pR 12 as fun o as => o.bind fun s => pI as fun x1 as => pI as fun x2 as => xe as ((F_X12_mark fu s x1 x2 M).bind fun p => k (some (.inl p.1)) p.2)
def pX12_may : List xE := [(0, 0, 1, 0, 0, [], .aload_n 0),
  (0, 1, 1, 0, 0, [], .iconst 0),
  (0, 2, 3, 0, 0, [], .putfield 1),
  (0, 5, 1, 0, 0, [], .aload_n 0),
  (0, 6, 1, 0, 0, [], .iconst 0),
  (0, 7, 1, 0, 0, [], .iload_n 1),
  (0, 8, 1, 0, 0, [], .iload_n 2),
  (0, 9, 3, 0, 0, [], .invokevirtual 351),
  (0, 12, 3, 29, 0, [], .ifCond .eq 17),
  (0, 15, 1, 0, 0, [], .aload_n 0),
  (0, 16, 1, 0, 0, [], .iconst 0),
  (0, 17, 1, 0, 0, [], .iload_n 1),
  (0, 18, 1, 0, 0, [], .iload_n 2),
  (0, 19, 3, 0, 0, [], .invokevirtual 358),
  (0, 22, 3, 29, 0, [], .ifCond .eq 7),
  (0, 25, 1, 0, 1, [], .iconst 1),
  (0, 26, 3, 30, 0, [], .goto 4),
  (0, 29, 1, 0, 0, [], .iconst 0),
  (0, 30, 1, 0, 0, [], .ireturn)]
def F_X12_may (fu : Nat) (s : Nat) (x1 : Int32) (x2 : Int32) (M : xM) : Option (Int32 × xM) :=
  let M_1 := sI M 12 s 0 0
  (F_X12_mayWriteBut fu s 0 x1 x2 M_1).bind fun p_2 =>
  if p_2.1 = 0 then
    gd (xbool 0) (some (0, p_2.2))
  else
    (F_X12_hasRoom fu s 0 x1 x2 p_2.2).bind fun p_3 =>
    if p_3.1 = 0 then
      gd (xbool 0) (some (0, p_3.2))
    else
      gd (xbool 1) (some (1, p_3.2))
set_option maxRecDepth 100000 in
theorem q_X12_may (fu : Nat) (s : Nat) (x1 : Int32) (x2 : Int32) (M : xM) :
    xrun pX12_may flX12 koX12 nwX12 [(351, 4, 0, 0, w_X12_mayWriteBut fu), (358, 4, 0, 0, w_X12_hasRoom fu)] [] xrtZ 21 (xat 0 pX12_may) 0 0 [(0, .inr (.inr (12, some s))), (1, .inl x1), (2, .inl x2)] [] M = F_X12_may fu s x1 x2 M := rfl
def w_X12_may (fu : Nat) {ρ : Type} (as : List xV) (M : xM) (k : Option xV → xM → Option ρ) : Option ρ := pR 12 as fun o as => o.bind fun s => pI as fun x1 as => pI as fun x2 as => xe as ((F_X12_may fu s x1 x2 M).bind fun p => k (some (.inl p.1)) p.2)
def pX12_mount : List xE := [(0, 0, 1, 0, 0, [], .aload_n 0),
  (0, 1, 1, 0, 0, [], .iconst 0),
  (0, 2, 3, 0, 0, [], .putfield 1),
  (0, 5, 1, 0, 0, [], .aload_n 0),
  (0, 6, 1, 0, 0, [], .iconst 0),
  (0, 7, 3, 0, 0, [], .invokevirtual 393),
  (0, 10, 1, 0, 0, [], .ireturn)]
def F_X12_mount (fu : Nat) (s : Nat) (M : xM) : Option (Int32 × xM) :=
  let M_1 := sI M 12 s 0 0
  (F_X12_mounts fu s 0 M_1).bind fun p_2 =>
  (some (p_2.1, p_2.2))
set_option maxRecDepth 100000 in
theorem q_X12_mount (fu : Nat) (s : Nat) (M : xM) :
    xrun pX12_mount flX12 koX12 nwX12 [(393, 2, 0, 0, w_X12_mounts fu)] [] xrtI 9 (xat 0 pX12_mount) 0 0 [(0, .inr (.inr (12, some s)))] [] M = F_X12_mount fu s M := rfl
def w_X12_mount (fu : Nat) {ρ : Type} (as : List xV) (M : xM) (k : Option xV → xM → Option ρ) : Option ρ := pR 12 as fun o as => o.bind fun s => xe as ((F_X12_mount fu s M).bind fun p => k (some (.inl p.1)) p.2)
def pX12_nameAt : List xE := [(0, 0, 1, 0, (-1), [], .iconst (-1)),
  (0, 1, 1, 0, 0, [], .istore_n 3),
  (0, 2, 1, 0, 0, [], .iconst 0),
  (0, 3, 2, 0, 0, [], .istore 4),
  (1, 5, 2, 0, 0, [], .iload 4),
  (0, 7, 1, 0, 0, [], .iload_n 2),
  (0, 8, 3, 46, 0, [], .if_icmp .ge 38),
  (0, 11, 1, 0, 0, [], .aload_n 0),
  (0, 12, 3, 0, 0, [], .getfield 89),
  (0, 15, 1, 0, 0, [], .iload_n 1),
  (0, 16, 2, 0, 0, [], .iload 4),
  (0, 18, 1, 0, 0, [], .iadd),
  (0, 19, 1, 0, 0, [], .laload),
  (0, 20, 1, 0, 0, [], .aload_n 0),
  (0, 21, 3, 0, 0, [], .getfield 30),
  (0, 24, 1, 0, 0, [], .aload_n 0),
  (0, 25, 3, 0, 0, [], .getfield 153),
  (0, 28, 1, 0, 0, [], .laload),
  (0, 29, 1, 0, 0, [], .lcmp),
  (0, 30, 3, 38, 0, [], .ifCond .ne 8),
  (0, 33, 2, 0, 0, [], .iload 4),
  (0, 35, 3, 39, 0, [], .goto 4),
  (0, 38, 1, 0, 0, [], .iload_n 3),
  (0, 39, 1, 0, 0, [], .istore_n 3),
  (0, 40, 3, 0, 1, [], .iinc 4 1),
  (0, 43, 3, 5, 0, [], .goto (-38)),
  (0, 46, 1, 0, 0, [], .iload_n 3),
  (0, 47, 1, 0, 0, [], .ireturn)]
def L_X12_nameAt_5 (fu : Nat) : Nat → Nat → Int32 → Int32 → Int32 → Int32 → xM → Option (Int32 × xM)
  | 0, _, _, _, _, _, _ => none
  | n + 1, s, x1, x2, x3, x4, M =>
    if x2 ≤ x4 then
      (some (x3, M))
    else
      (gR M 12 s 13).bind fun a_1 =>
      gd (xin (x1 + x4) (gN M 21 a_1)) <|
      (gR M 12 s 6).bind fun a_2 =>
      gd (xin (gI M 12 s 7) (gN M 21 a_2)) <|
      if ¬ (lg_cmp (gL M 21 a_1 (xi (x1 + x4))) (gL M 21 a_2 (xi (gI M 12 s 7)))) = 0 then
        L_X12_nameAt_5 fu n s x1 x2 x3 (x4 + 1) M
      else
        L_X12_nameAt_5 fu n s x1 x2 x4 (x4 + 1) M
set_option maxRecDepth 100000 in
theorem q_X12_nameAt_5 (fu : Nat) (n : Nat) (s : Nat) (x1 : Int32) (x2 : Int32) (x3 : Int32) (x4 : Int32) (M : xM) :
    xrun pX12_nameAt flX12 koX12 nwX12 [] [(5, fun bc bs ls st M => xz bc bs (lR ls 0 12 fun o => o.bind fun s => lI ls 1 fun x1 => lI ls 2 fun x2 => lI ls 3 fun x3 => lI ls 4 fun x4 => xe st (L_X12_nameAt_5 fu n s x1 x2 x3 x4 M)))] xrtI 30 (xat 5 pX12_nameAt) 0 0 [(0, .inr (.inr (12, some s))), (1, .inl x1), (2, .inl x2), (3, .inl x3), (4, .inl x4)] [] M = L_X12_nameAt_5 fu (n + 1) s x1 x2 x3 x4 M := rfl
def F_X12_nameAt (fu : Nat) (s : Nat) (x1 : Int32) (x2 : Int32) (M : xM) : Option (Int32 × xM) :=
  L_X12_nameAt_5 fu fu s x1 x2 ((-1)) 0 M
set_option maxRecDepth 100000 in
theorem q_X12_nameAt (fu : Nat) (s : Nat) (x1 : Int32) (x2 : Int32) (M : xM) :
    xrun pX12_nameAt flX12 koX12 nwX12 [] [(5, fun bc bs ls st M => xz bc bs (lR ls 0 12 fun o => o.bind fun s => lI ls 1 fun x1 => lI ls 2 fun x2 => lI ls 3 fun x3 => lI ls 4 fun x4 => xe st (L_X12_nameAt_5 fu fu s x1 x2 x3 x4 M)))] xrtI 30 (xat 0 pX12_nameAt) 0 0 [(0, .inr (.inr (12, some s))), (1, .inl x1), (2, .inl x2)] [] M = F_X12_nameAt fu s x1 x2 M := rfl
def w_X12_nameAt (fu : Nat) {ρ : Type} (as : List xV) (M : xM) (k : Option xV → xM → Option ρ) : Option ρ := pR 12 as fun o as => o.bind fun s => pI as fun x1 as => pI as fun x2 as => xe as ((F_X12_nameAt fu s x1 x2 M).bind fun p => k (some (.inl p.1)) p.2)
def pX12_oldest : List xE := [(0, 0, 1, 0, 0, [], .aload_n 0),
  (0, 1, 1, 0, 0, [], .iconst 0),
  (0, 2, 3, 0, 0, [], .putfield 1),
  (0, 5, 1, 0, 0, [], .aload_n 0),
  (0, 6, 1, 0, 0, [], .iconst 0),
  (0, 7, 3, 0, 0, [], .invokevirtual 305),
  (0, 10, 1, 0, 0, [], .aload_n 0),
  (0, 11, 1, 0, 0, [], .iconst 0),
  (0, 12, 3, 0, 0, [], .invokevirtual 444),
  (0, 15, 1, 0, 0, [], .istore_n 1),
  (0, 16, 1, 0, 0, [], .iload_n 1),
  (0, 17, 3, 24, 0, [], .ifCond .ge 7),
  (0, 20, 1, 0, (-1), [], .iconst (-1)),
  (0, 21, 3, 30, 0, [], .goto 9),
  (0, 24, 1, 0, 0, [], .aload_n 0),
  (0, 25, 1, 0, 0, [], .iconst 0),
  (0, 26, 1, 0, 0, [], .iload_n 1),
  (0, 27, 3, 0, 0, [], .invokevirtual 293),
  (0, 30, 1, 0, 0, [], .ireturn)]
def F_X12_oldest (fu : Nat) (s : Nat) (M : xM) : Option (Int32 × xM) :=
  let M_1 := sI M 12 s 0 0
  (F_X12_looks fu s 0 M_1).bind fun p_2 =>
  (F_X12_liveAbove fu s 0 p_2).bind fun p_3 =>
  if 0 ≤ p_3.1 then
    (F_X12_numberOf fu s 0 p_3.1 p_3.2).bind fun p_4 =>
    (some (p_4.1, p_4.2))
  else
    (some ((-1), p_3.2))
set_option maxRecDepth 100000 in
theorem q_X12_oldest (fu : Nat) (s : Nat) (M : xM) :
    xrun pX12_oldest flX12 koX12 nwX12 [(293, 3, 0, 0, w_X12_numberOf fu), (305, 2, 0, 0, w_X12_looks fu), (444, 2, 0, 0, w_X12_liveAbove fu)] [] xrtI 21 (xat 0 pX12_oldest) 0 0 [(0, .inr (.inr (12, some s)))] [] M = F_X12_oldest fu s M := rfl
def w_X12_oldest (fu : Nat) {ρ : Type} (as : List xV) (M : xM) (k : Option xV → xM → Option ρ) : Option ρ := pR 12 as fun o as => o.bind fun s => xe as ((F_X12_oldest fu s M).bind fun p => k (some (.inl p.1)) p.2)
def pX12_open : List xE := [(0, 0, 1, 0, 0, [], .aload_n 0),
  (0, 1, 1, 0, 0, [], .iconst 0),
  (0, 2, 3, 0, 0, [], .putfield 1),
  (0, 5, 1, 0, 0, [], .aload_n 0),
  (0, 6, 1, 0, 0, [], .iconst 0),
  (0, 7, 1, 0, 0, [], .iload_n 1),
  (0, 8, 1, 0, 1, [], .iconst 1),
  (0, 9, 3, 0, 0, [], .invokevirtual 389),
  (0, 12, 1, 0, 0, [], .ireturn)]
def F_X12_open (fu : Nat) (s : Nat) (x1 : Int32) (M : xM) : Option (Int32 × xM) :=
  let M_1 := sI M 12 s 0 0
  (F_X12_opens fu s 0 x1 1 M_1).bind fun p_2 =>
  gd (xbool p_2.1) (some (p_2.1, p_2.2))
set_option maxRecDepth 100000 in
theorem q_X12_open (fu : Nat) (s : Nat) (x1 : Int32) (M : xM) :
    xrun pX12_open flX12 koX12 nwX12 [(389, 4, 0, 0, w_X12_opens fu)] [] xrtZ 11 (xat 0 pX12_open) 0 0 [(0, .inr (.inr (12, some s))), (1, .inl x1)] [] M = F_X12_open fu s x1 M := rfl
def w_X12_open (fu : Nat) {ρ : Type} (as : List xV) (M : xM) (k : Option xV → xM → Option ρ) : Option ρ := pR 12 as fun o as => o.bind fun s => pI as fun x1 as => xe as ((F_X12_open fu s x1 M).bind fun p => k (some (.inl p.1)) p.2)
def pX12_pick : List xE := [(0, 0, 1, 0, 0, [], .aload_n 0),
  (0, 1, 1, 0, 0, [], .iconst 0),
  (0, 2, 3, 0, 0, [], .putfield 1),
  (0, 5, 1, 0, 0, [], .aload_n 0),
  (0, 6, 1, 0, 0, [], .iconst 0),
  (0, 7, 3, 0, 0, [], .invokevirtual 333),
  (0, 10, 1, 0, 0, [], .ireturn)]
def F_X12_pick (fu : Nat) (s : Nat) (M : xM) : Option (Int32 × xM) :=
  let M_1 := sI M 12 s 0 0
  (F_X12_pickOf fu s 0 M_1).bind fun p_2 =>
  (some (p_2.1, p_2.2))
set_option maxRecDepth 100000 in
theorem q_X12_pick (fu : Nat) (s : Nat) (M : xM) :
    xrun pX12_pick flX12 koX12 nwX12 [(333, 2, 0, 0, w_X12_pickOf fu)] [] xrtI 9 (xat 0 pX12_pick) 0 0 [(0, .inr (.inr (12, some s)))] [] M = F_X12_pick fu s M := rfl
def w_X12_pick (fu : Nat) {ρ : Type} (as : List xV) (M : xM) (k : Option xV → xM → Option ρ) : Option ρ := pR 12 as fun o as => o.bind fun s => xe as ((F_X12_pick fu s M).bind fun p => k (some (.inl p.1)) p.2)
def w_X12_takePart (r : Nat → Int32 → xM → Option xM) {ρ : Type} (as : List xV) (M : xM) (k : Option xV → xM → Option ρ) : Option ρ := pR 12 as fun o as => o.bind fun s => pI as fun x1 as => xe as ((r s x1 M).bind fun p => k none p)
def pX12_products : List xE := [(0, 0, 1, 0, 0, [], .aload_n 0),
  (0, 1, 1, 0, 0, [], .iload_n 1),
  (0, 2, 3, 0, 0, [], .invokevirtual 239),
  (1, 5, 1, 0, 0, [], .aload_n 0),
  (0, 6, 2, 0, 42, [], .bipush 42),
  (0, 8, 3, 0, 0, [], .invokevirtual 233),
  (0, 11, 3, 29, 0, [], .ifCond .eq 18),
  (0, 14, 1, 0, 0, [], .aload_n 0),
  (0, 15, 1, 0, 0, [], .iload_n 1),
  (0, 16, 3, 0, 0, [], .invokevirtual 239),
  (0, 19, 1, 0, 0, [], .aload_n 0),
  (0, 20, 2, 0, 6, [], .bipush 6),
  (0, 22, 1, 0, 0, [], .iconst 0),
  (0, 23, 3, 0, 0, [], .invokevirtual 199),
  (0, 26, 3, 5, 0, [], .goto (-21)),
  (0, 29, 1, 0, 0, [], .return_)]
def L_X12_products_5 (fu : Nat) (r : Nat → Int32 → xM → Option xM) : Nat → Nat → Int32 → xM → Option xM
  | 0, _, _, _ => none
  | n + 1, s, x1, M =>
    (F_X12_hasSign fu s 42 M).bind fun p_1 =>
    if p_1.1 = 0 then
      some p_1.2
    else
      (r s x1 p_1.2).bind fun p_2 =>
      (F_X12_emit fu s 6 0 p_2).bind fun p_3 =>
      L_X12_products_5 fu r n s x1 p_3
set_option maxRecDepth 100000 in
theorem q_X12_products_5 (fu : Nat) (r : Nat → Int32 → xM → Option xM) (n : Nat) (s : Nat) (x1 : Int32) (M : xM) :
    xrun pX12_products flX12 koX12 nwX12 [(199, 3, 0, 0, w_X12_emit fu), (233, 2, 0, 0, w_X12_hasSign fu), (239, 2, 0, 0, w_X12_takePart r)] [(5, fun bc bs ls st M => xz bc bs (lR ls 0 12 fun o => o.bind fun s => lI ls 1 fun x1 => xe st (L_X12_products_5 fu r n s x1 M)))] xrtV 18 (xat 5 pX12_products) 0 0 [(0, .inr (.inr (12, some s))), (1, .inl x1)] [] M = L_X12_products_5 fu r (n + 1) s x1 M := rfl
def F_X12_products (fu : Nat) (r : Nat → Int32 → xM → Option xM) (s : Nat) (x1 : Int32) (M : xM) : Option xM :=
  (r s x1 M).bind fun p_1 =>
  L_X12_products_5 fu r fu s x1 p_1
set_option maxRecDepth 100000 in
theorem q_X12_products (fu : Nat) (r : Nat → Int32 → xM → Option xM) (s : Nat) (x1 : Int32) (M : xM) :
    xrun pX12_products flX12 koX12 nwX12 [(239, 2, 0, 0, w_X12_takePart r)] [(5, fun bc bs ls st M => xz bc bs (lR ls 0 12 fun o => o.bind fun s => lI ls 1 fun x1 => xe st (L_X12_products_5 fu r fu s x1 M)))] xrtV 18 (xat 0 pX12_products) 0 0 [(0, .inr (.inr (12, some s))), (1, .inl x1)] [] M = F_X12_products fu r s x1 M := rfl
def w_X12_products (fu : Nat) (r : Nat → Int32 → xM → Option xM) {ρ : Type} (as : List xV) (M : xM) (k : Option xV → xM → Option ρ) : Option ρ := pR 12 as fun o as => o.bind fun s => pI as fun x1 as => xe as ((F_X12_products fu r s x1 M).bind fun p => k none p)
def pX12_takeOne : List xE := [(0, 0, 1, 0, 0, [], .aload_n 0),
  (0, 1, 3, 0, 0, [], .getfield 156),
  (0, 4, 3, 11, 0, [], .ifCond .le 7),
  (0, 7, 1, 0, (-1), [], .iconst (-1)),
  (0, 8, 3, 17, 0, [], .goto 9),
  (0, 11, 1, 0, 0, [], .aload_n 0),
  (0, 12, 1, 0, 0, [], .iload_n 1),
  (0, 13, 1, 0, 0, [], .iload_n 2),
  (0, 14, 3, 0, 0, [], .invokevirtual 171),
  (1, 17, 1, 0, 0, [], .istore_n 3),
  (0, 18, 1, 0, 0, [], .aload_n 0),
  (0, 19, 3, 0, 0, [], .getfield 156),
  (0, 22, 3, 34, 0, [], .ifCond .ne 12),
  (0, 25, 1, 0, 0, [], .iload_n 3),
  (0, 26, 3, 34, 0, [], .ifCond .ge 8),
  (0, 29, 1, 0, 0, [], .aload_n 0),
  (0, 30, 1, 0, 1, [], .iconst 1),
  (0, 31, 3, 0, 0, [], .invokevirtual 162),
  (1, 34, 1, 0, 0, [], .aload_n 0),
  (0, 35, 1, 0, 0, [], .dup),
  (0, 36, 3, 0, 0, [], .getfield 153),
  (0, 39, 1, 0, 0, [], .aload_n 0),
  (0, 40, 3, 0, 0, [], .getfield 156),
  (0, 43, 3, 50, 0, [], .ifCond .le 7),
  (0, 46, 1, 0, 0, [], .iconst 0),
  (0, 47, 3, 51, 0, [], .goto 4),
  (0, 50, 1, 0, 1, [], .iconst 1),
  (1, 51, 1, 0, 0, [], .iadd),
  (0, 52, 3, 0, 0, [], .putfield 153),
  (0, 55, 1, 0, 0, [], .aload_n 0),
  (0, 56, 3, 0, 0, [], .getfield 156),
  (0, 59, 3, 66, 0, [], .ifCond .le 7),
  (0, 62, 1, 0, 0, [], .iconst 0),
  (0, 63, 3, 67, 0, [], .goto 4),
  (0, 66, 1, 0, 0, [], .iload_n 3),
  (0, 67, 1, 0, 0, [], .ireturn)]
def J_X12_takeOne_51 (fu : Nat) (s : Nat) (x3 : Int32) (y0 : Int32) (y1 : Int32) (y2 : Nat) (M : xM) : Option (Int32 × xM) :=
  let M_1 := sI M 12 y2 7 (y1 + y0)
  if (gI M_1 12 s 8) ≤ 0 then
    (some (x3, M_1))
  else
    (some (0, M_1))
set_option maxRecDepth 100000 in
theorem q_X12_takeOne_51 (fu : Nat) (s : Nat) (x3 : Int32) (y0 : Int32) (y1 : Int32) (y2 : Nat) (M : xM) :
    xrun pX12_takeOne flX12 koX12 nwX12 [] [] xrtI 38 (xat 51 pX12_takeOne) 0 0 [(0, .inr (.inr (12, some s))), (3, .inl x3)] [.inl y0, .inl y1, .inr (.inr (12, some y2))] M = J_X12_takeOne_51 fu s x3 y0 y1 y2 M := rfl
def J_X12_takeOne_34 (fu : Nat) (s : Nat) (x3 : Int32) (M : xM) : Option (Int32 × xM) :=
  if (gI M 12 s 8) ≤ 0 then
    J_X12_takeOne_51 fu s x3 1 (gI M 12 s 7) s M
  else
    J_X12_takeOne_51 fu s x3 0 (gI M 12 s 7) s M
set_option maxRecDepth 100000 in
theorem q_X12_takeOne_34 (fu : Nat) (s : Nat) (x3 : Int32) (M : xM) :
    xrun pX12_takeOne flX12 koX12 nwX12 [] [(51, fun bc bs ls st M => xz bc bs (lR ls 0 12 fun o => o.bind fun s => lI ls 3 fun x3 => pI st fun y0 st => pI st fun y1 st => pR 12 st fun o st => o.bind fun y2 => xe st (J_X12_takeOne_51 fu s x3 y0 y1 y2 M)))] xrtI 38 (xat 34 pX12_takeOne) 0 0 [(0, .inr (.inr (12, some s))), (3, .inl x3)] [] M = J_X12_takeOne_34 fu s x3 M := rfl
def J_X12_takeOne_17 (fu : Nat) (s : Nat) (y0 : Int32) (M : xM) : Option (Int32 × xM) :=
  if ¬ (gI M 12 s 8) = 0 then
    J_X12_takeOne_34 fu s y0 M
  else
    if 0 ≤ y0 then
      J_X12_takeOne_34 fu s y0 M
    else
      (F_X12_wrong fu s 1 M).bind fun p_1 =>
      J_X12_takeOne_34 fu s y0 p_1
set_option maxRecDepth 100000 in
theorem q_X12_takeOne_17 (fu : Nat) (s : Nat) (y0 : Int32) (M : xM) :
    xrun pX12_takeOne flX12 koX12 nwX12 [(162, 2, 0, 0, w_X12_wrong fu)] [(34, fun bc bs ls st M => xz bc bs (lR ls 0 12 fun o => o.bind fun s => lI ls 3 fun x3 => xe st (J_X12_takeOne_34 fu s x3 M)))] xrtI 38 (xat 17 pX12_takeOne) 0 0 [(0, .inr (.inr (12, some s)))] [.inl y0] M = J_X12_takeOne_17 fu s y0 M := rfl
def F_X12_takeOne (fu : Nat) (s : Nat) (x1 : Int32) (x2 : Int32) (M : xM) : Option (Int32 × xM) :=
  if (gI M 12 s 8) ≤ 0 then
    (F_X12_wordHere fu s x1 x2 M).bind fun p_1 =>
    J_X12_takeOne_17 fu s p_1.1 p_1.2
  else
    J_X12_takeOne_17 fu s ((-1)) M
set_option maxRecDepth 100000 in
theorem q_X12_takeOne (fu : Nat) (s : Nat) (x1 : Int32) (x2 : Int32) (M : xM) :
    xrun pX12_takeOne flX12 koX12 nwX12 [(171, 3, 0, 0, w_X12_wordHere fu)] [(17, fun bc bs ls st M => xz bc bs (lR ls 0 12 fun o => o.bind fun s => pI st fun y0 st => xe st (J_X12_takeOne_17 fu s y0 M)))] xrtI 38 (xat 0 pX12_takeOne) 0 0 [(0, .inr (.inr (12, some s))), (1, .inl x1), (2, .inl x2)] [] M = F_X12_takeOne fu s x1 x2 M := rfl
def w_X12_takeOne (fu : Nat) {ρ : Type} (as : List xV) (M : xM) (k : Option xV → xM → Option ρ) : Option ρ := pR 12 as fun o as => o.bind fun s => pI as fun x1 as => pI as fun x2 as => xe as ((F_X12_takeOne fu s x1 x2 M).bind fun p => k (some (.inl p.1)) p.2)
def pX12_takeWord : List xE := [(0, 0, 1, 0, 0, [], .aload_n 0),
  (0, 1, 1, 0, 0, [], .iload_n 1),
  (0, 2, 3, 0, 0, [], .invokevirtual 168),
  (0, 5, 3, 13, 0, [], .ifCond .ne 8),
  (0, 8, 1, 0, 0, [], .aload_n 0),
  (0, 9, 1, 0, 1, [], .iconst 1),
  (0, 10, 3, 0, 0, [], .invokevirtual 162),
  (0, 13, 1, 0, 0, [], .return_)]
def F_X12_takeWord (fu : Nat) (s : Nat) (x1 : Int32) (M : xM) : Option xM :=
  (F_X12_hasWord fu s x1 M).bind fun p_1 =>
  if ¬ p_1.1 = 0 then
    some p_1.2
  else
    (F_X12_wrong fu s 1 p_1.2).bind fun p_2 =>
    some p_2
set_option maxRecDepth 100000 in
theorem q_X12_takeWord (fu : Nat) (s : Nat) (x1 : Int32) (M : xM) :
    xrun pX12_takeWord flX12 koX12 nwX12 [(162, 2, 0, 0, w_X12_wrong fu), (168, 2, 0, 0, w_X12_hasWord fu)] [] xrtV 10 (xat 0 pX12_takeWord) 0 0 [(0, .inr (.inr (12, some s))), (1, .inl x1)] [] M = F_X12_takeWord fu s x1 M := rfl
def w_X12_takeWord (fu : Nat) {ρ : Type} (as : List xV) (M : xM) (k : Option xV → xM → Option ρ) : Option ρ := pR 12 as fun o as => o.bind fun s => pI as fun x1 as => xe as ((F_X12_takeWord fu s x1 M).bind fun p => k none p)
def pX12_takeNumber : List xE := [(0, 0, 1, 0, 0, [], .aload_n 0),
  (0, 1, 3, 0, 0, [], .getfield 156),
  (0, 4, 3, 28, 0, [], .ifCond .ne 24),
  (0, 7, 1, 0, 0, [], .aload_n 0),
  (0, 8, 3, 0, 0, [], .getfield 24),
  (0, 11, 1, 0, 0, [], .aload_n 0),
  (0, 12, 3, 0, 0, [], .getfield 153),
  (0, 15, 1, 0, 0, [], .iaload),
  (0, 16, 1, 0, 2, [], .iconst 2),
  (0, 17, 3, 28, 0, [], .if_icmp .eq 11),
  (0, 20, 1, 0, 0, [], .aload_n 0),
  (0, 21, 1, 0, 1, [], .iconst 1),
  (0, 22, 3, 0, 0, [], .invokevirtual 162),
  (0, 25, 3, 70, 0, [], .goto 45),
  (1, 28, 1, 0, 0, [], .aload_n 0),
  (0, 29, 3, 0, 0, [], .getfield 156),
  (0, 32, 3, 70, 0, [], .ifCond .ne 38),
  (0, 35, 1, 0, 0, [], .aload_n 0),
  (0, 36, 3, 0, 0, [], .getfield 30),
  (0, 39, 1, 0, 0, [], .aload_n 0),
  (0, 40, 3, 0, 0, [], .getfield 153),
  (0, 43, 1, 0, 0, [], .laload),
  (0, 44, 1, 0, 0, [], .iload_n 1),
  (0, 45, 1, 0, 0, [], .i2l),
  (0, 46, 1, 0, 0, [], .lcmp),
  (0, 47, 3, 65, 0, [], .ifCond .lt 18),
  (0, 50, 1, 0, 0, [], .aload_n 0),
  (0, 51, 3, 0, 0, [], .getfield 30),
  (0, 54, 1, 0, 0, [], .aload_n 0),
  (0, 55, 3, 0, 0, [], .getfield 153),
  (0, 58, 1, 0, 0, [], .laload),
  (0, 59, 1, 0, 0, [], .iload_n 2),
  (0, 60, 1, 0, 0, [], .i2l),
  (0, 61, 1, 0, 0, [], .lcmp),
  (0, 62, 3, 70, 0, [], .ifCond .le 8),
  (0, 65, 1, 0, 0, [], .aload_n 0),
  (0, 66, 1, 0, 4, [], .iconst 4),
  (0, 67, 3, 0, 0, [], .invokevirtual 162),
  (1, 70, 1, 0, 0, [], .aload_n 0),
  (0, 71, 3, 0, 0, [], .getfield 156),
  (0, 74, 3, 79, 0, [], .ifCond .le 5),
  (0, 77, 1, 0, 0, [], .iconst 0),
  (0, 78, 1, 0, 0, [], .ireturn),
  (0, 79, 1, 0, 0, [], .aload_n 0),
  (0, 80, 1, 0, 0, [], .dup),
  (0, 81, 3, 0, 0, [], .getfield 153),
  (0, 84, 1, 0, 1, [], .iconst 1),
  (0, 85, 1, 0, 0, [], .iadd),
  (0, 86, 3, 0, 0, [], .putfield 153),
  (0, 89, 1, 0, 0, [], .aload_n 0),
  (0, 90, 3, 0, 0, [], .getfield 30),
  (0, 93, 1, 0, 0, [], .aload_n 0),
  (0, 94, 3, 0, 0, [], .getfield 153),
  (0, 97, 1, 0, 1, [], .iconst 1),
  (0, 98, 1, 0, 0, [], .isub),
  (0, 99, 1, 0, 0, [], .laload),
  (0, 100, 1, 0, 0, [], .l2i),
  (0, 101, 1, 0, 0, [], .ireturn)]
def J_X12_takeNumber_70 (fu : Nat) (s : Nat) (M : xM) : Option (Int32 × xM) :=
  if (gI M 12 s 8) ≤ 0 then
    let M_1 := sI M 12 s 7 ((gI M 12 s 7) + 1)
    (gR M_1 12 s 6).bind fun a_2 =>
    gd (xin ((gI M_1 12 s 7) - 1) (gN M_1 21 a_2)) <|
    (some (Int64.toInt32 (gL M_1 21 a_2 (xi ((gI M_1 12 s 7) - 1))), M_1))
  else
    (some (0, M))
set_option maxRecDepth 100000 in
theorem q_X12_takeNumber_70 (fu : Nat) (s : Nat) (M : xM) :
    xrun pX12_takeNumber flX12 koX12 nwX12 [] [] xrtI 60 (xat 70 pX12_takeNumber) 0 0 [(0, .inr (.inr (12, some s)))] [] M = J_X12_takeNumber_70 fu s M := rfl
def J_X12_takeNumber_28 (fu : Nat) (s : Nat) (x1 : Int32) (x2 : Int32) (M : xM) : Option (Int32 × xM) :=
  if ¬ (gI M 12 s 8) = 0 then
    J_X12_takeNumber_70 fu s M
  else
    (gR M 12 s 6).bind fun a_1 =>
    gd (xin (gI M 12 s 7) (gN M 21 a_1)) <|
    if (lg_cmp (gL M 21 a_1 (xi (gI M 12 s 7))) (Int32.toInt64 x1)) < 0 then
      (F_X12_wrong fu s 4 M).bind fun p_2 =>
      J_X12_takeNumber_70 fu s p_2
    else
      (gR M 12 s 6).bind fun a_3 =>
      gd (xin (gI M 12 s 7) (gN M 21 a_3)) <|
      if (lg_cmp (gL M 21 a_3 (xi (gI M 12 s 7))) (Int32.toInt64 x2)) ≤ 0 then
        J_X12_takeNumber_70 fu s M
      else
        (F_X12_wrong fu s 4 M).bind fun p_4 =>
        J_X12_takeNumber_70 fu s p_4
set_option maxRecDepth 100000 in
theorem q_X12_takeNumber_28 (fu : Nat) (s : Nat) (x1 : Int32) (x2 : Int32) (M : xM) :
    xrun pX12_takeNumber flX12 koX12 nwX12 [(162, 2, 0, 0, w_X12_wrong fu)] [(70, fun bc bs ls st M => xz bc bs (lR ls 0 12 fun o => o.bind fun s => xe st (J_X12_takeNumber_70 fu s M)))] xrtI 60 (xat 28 pX12_takeNumber) 0 0 [(0, .inr (.inr (12, some s))), (1, .inl x1), (2, .inl x2)] [] M = J_X12_takeNumber_28 fu s x1 x2 M := rfl
def F_X12_takeNumber (fu : Nat) (s : Nat) (x1 : Int32) (x2 : Int32) (M : xM) : Option (Int32 × xM) :=
  if ¬ (gI M 12 s 8) = 0 then
    J_X12_takeNumber_28 fu s x1 x2 M
  else
    (gR M 12 s 4).bind fun a_1 =>
    gd (xin (gI M 12 s 7) (gN M 20 a_1)) <|
    if (gI M 20 a_1 (xi (gI M 12 s 7))) = 2 then
      J_X12_takeNumber_28 fu s x1 x2 M
    else
      (F_X12_wrong fu s 1 M).bind fun p_2 =>
      J_X12_takeNumber_70 fu s p_2
set_option maxRecDepth 100000 in
theorem q_X12_takeNumber (fu : Nat) (s : Nat) (x1 : Int32) (x2 : Int32) (M : xM) :
    xrun pX12_takeNumber flX12 koX12 nwX12 [(162, 2, 0, 0, w_X12_wrong fu)] [(28, fun bc bs ls st M => xz bc bs (lR ls 0 12 fun o => o.bind fun s => lI ls 1 fun x1 => lI ls 2 fun x2 => xe st (J_X12_takeNumber_28 fu s x1 x2 M))),
    (70, fun bc bs ls st M => xz bc bs (lR ls 0 12 fun o => o.bind fun s => xe st (J_X12_takeNumber_70 fu s M)))] xrtI 60 (xat 0 pX12_takeNumber) 0 0 [(0, .inr (.inr (12, some s))), (1, .inl x1), (2, .inl x2)] [] M = F_X12_takeNumber fu s x1 x2 M := rfl
def w_X12_takeNumber (fu : Nat) {ρ : Type} (as : List xV) (M : xM) (k : Option xV → xM → Option ρ) : Option ρ := pR 12 as fun o as => o.bind fun s => pI as fun x1 as => pI as fun x2 as => xe as ((F_X12_takeNumber fu s x1 x2 M).bind fun p => k (some (.inl p.1)) p.2)
def pX12_readFile : List xE := [(0, 0, 1, 0, 0, [], .aload_n 0),
  (0, 1, 3, 0, 0, [], .getfield 83),
  (0, 4, 2, 0, 23, [], .bipush 23),
  (0, 6, 1, 0, 0, [], .iaload),
  (0, 7, 1, 0, 0, [], .istore_n 1),
  (0, 8, 1, 0, 0, [], .iload_n 1),
  (0, 9, 1, 0, 5, [], .iconst 5),
  (0, 10, 3, 19, 0, [], .if_icmp .ne 9),
  (0, 13, 1, 0, 0, [], .aload_n 0),
  (0, 14, 1, 0, 5, [], .iconst 5),
  (0, 15, 3, 0, 0, [], .invokevirtual 162),
  (0, 18, 1, 0, 0, [], .return_),
  (0, 19, 1, 0, 0, [], .aload_n 0),
  (0, 20, 1, 0, 0, [], .dup),
  (0, 21, 3, 0, 0, [], .getfield 153),
  (0, 24, 1, 0, 1, [], .iconst 1),
  (0, 25, 1, 0, 0, [], .iadd),
  (0, 26, 3, 0, 0, [], .putfield 153),
  (0, 29, 1, 0, 0, [], .aload_n 0),
  (0, 30, 3, 0, 0, [], .invokevirtual 203),
  (0, 33, 3, 44, 0, [], .ifCond .ne 11),
  (0, 36, 1, 0, 0, [], .aload_n 0),
  (0, 37, 1, 0, 1, [], .iconst 1),
  (0, 38, 3, 0, 0, [], .invokevirtual 162),
  (0, 41, 3, 58, 0, [], .goto 17),
  (0, 44, 1, 0, 0, [], .aload_n 0),
  (0, 45, 1, 0, 5, [], .iconst 5),
  (0, 46, 1, 0, 0, [], .iload_n 1),
  (0, 47, 3, 0, 0, [], .invokevirtual 207),
  (0, 50, 3, 58, 0, [], .ifCond .lt 8),
  (0, 53, 1, 0, 0, [], .aload_n 0),
  (0, 54, 1, 0, 3, [], .iconst 3),
  (0, 55, 3, 0, 0, [], .invokevirtual 162),
  (1, 58, 1, 0, 0, [], .aload_n 0),
  (0, 59, 3, 0, 0, [], .getfield 156),
  (0, 62, 3, 66, 0, [], .ifCond .le 4),
  (0, 65, 1, 0, 0, [], .return_),
  (0, 66, 1, 0, 0, [], .aload_n 0),
  (0, 67, 3, 0, 0, [], .getfield 89),
  (0, 70, 1, 0, 5, [], .iconst 5),
  (0, 71, 1, 0, 0, [], .iload_n 1),
  (0, 72, 1, 0, 0, [], .iadd),
  (0, 73, 1, 0, 0, [], .aload_n 0),
  (0, 74, 3, 0, 0, [], .getfield 30),
  (0, 77, 1, 0, 0, [], .aload_n 0),
  (0, 78, 3, 0, 0, [], .getfield 153),
  (0, 81, 1, 0, 0, [], .laload),
  (0, 82, 1, 0, 0, [], .lastore),
  (0, 83, 1, 0, 0, [], .aload_n 0),
  (0, 84, 1, 0, 0, [], .dup),
  (0, 85, 3, 0, 0, [], .getfield 153),
  (0, 88, 1, 0, 1, [], .iconst 1),
  (0, 89, 1, 0, 0, [], .iadd),
  (0, 90, 3, 0, 0, [], .putfield 153),
  (0, 93, 1, 0, 0, [], .aload_n 0),
  (0, 94, 2, 0, 12, [], .bipush 12),
  (0, 96, 1, 0, 4, [], .iconst 4),
  (0, 97, 3, 0, 0, [], .invokevirtual 210),
  (0, 100, 1, 0, 0, [], .istore_n 2),
  (0, 101, 1, 0, 0, [], .aload_n 0),
  (0, 102, 1, 0, 4, [], .iconst 4),
  (0, 103, 3, 0, 0, [], .invokevirtual 213),
  (0, 106, 1, 0, 0, [], .aload_n 0),
  (0, 107, 1, 0, 1, [], .iconst 1),
  (0, 108, 1, 0, 4, [], .iconst 4),
  (0, 109, 3, 0, 0, [], .invokevirtual 193),
  (0, 112, 1, 0, 0, [], .istore_n 3),
  (0, 113, 1, 0, 0, [], .aload_n 0),
  (0, 114, 3, 0, 0, [], .getfield 156),
  (0, 117, 3, 157, 0, [], .ifCond .ne 40),
  (0, 120, 1, 0, 0, [], .aload_n 0),
  (0, 121, 3, 0, 0, [], .getfield 83),
  (0, 124, 2, 0, 25, [], .bipush 25),
  (0, 126, 1, 0, 2, [], .iconst 2),
  (0, 127, 1, 0, 0, [], .iload_n 1),
  (0, 128, 1, 0, 0, [], .imul),
  (0, 129, 1, 0, 0, [], .iadd),
  (0, 130, 1, 0, 0, [], .iload_n 2),
  (0, 131, 1, 0, 0, [], .iastore),
  (0, 132, 1, 0, 0, [], .aload_n 0),
  (0, 133, 3, 0, 0, [], .getfield 83),
  (0, 136, 2, 0, 25, [], .bipush 25),
  (0, 138, 1, 0, 2, [], .iconst 2),
  (0, 139, 1, 0, 0, [], .iload_n 1),
  (0, 140, 1, 0, 0, [], .imul),
  (0, 141, 1, 0, 0, [], .iadd),
  (0, 142, 1, 0, 1, [], .iconst 1),
  (0, 143, 1, 0, 0, [], .iadd),
  (0, 144, 1, 0, 0, [], .iload_n 3),
  (0, 145, 1, 0, 0, [], .iastore),
  (0, 146, 1, 0, 0, [], .aload_n 0),
  (0, 147, 3, 0, 0, [], .getfield 83),
  (0, 150, 2, 0, 23, [], .bipush 23),
  (0, 152, 1, 0, 0, [], .dup2),
  (0, 153, 1, 0, 0, [], .iaload),
  (0, 154, 1, 0, 1, [], .iconst 1),
  (0, 155, 1, 0, 0, [], .iadd),
  (0, 156, 1, 0, 0, [], .iastore),
  (0, 157, 1, 0, 0, [], .return_)]
def J_X12_readFile_58 (fu : Nat) (s : Nat) (x1 : Int32) (M : xM) : Option xM :=
  if (gI M 12 s 8) ≤ 0 then
    (gR M 12 s 6).bind fun a_1 =>
    gd (xin (gI M 12 s 7) (gN M 21 a_1)) <|
    (gR M 12 s 13).bind fun a_2 =>
    gd (xin (5 + x1) (gN M 21 a_2)) <|
    let M_3 := sL M 21 a_2 (xi (5 + x1)) (gL M 21 a_1 (xi (gI M 12 s 7)))
    let M_4 := sI M_3 12 s 7 ((gI M_3 12 s 7) + 1)
    (F_X12_takeOne fu s 12 4 M_4).bind fun p_5 =>
    (F_X12_takeWord fu s 4 p_5.2).bind fun p_6 =>
    (F_X12_takeNumber fu s 1 4 p_6).bind fun p_7 =>
    if ¬ (gI p_7.2 12 s 8) = 0 then
      some p_7.2
    else
      (gR p_7.2 12 s 10).bind fun a_8 =>
      gd (xin (25 + (2 * x1)) (gN p_7.2 20 a_8)) <|
      let M_9 := sI p_7.2 20 a_8 (xi (25 + (2 * x1))) p_5.1
      (gR M_9 12 s 10).bind fun a_10 =>
      gd (xin ((25 + (2 * x1)) + 1) (gN M_9 20 a_10)) <|
      let M_11 := sI M_9 20 a_10 (xi ((25 + (2 * x1)) + 1)) p_7.1
      (gR M_11 12 s 10).bind fun a_12 =>
      gd (xin 23 (gN M_11 20 a_12)) <|
      (gR M_11 12 s 10).bind fun a_13 =>
      gd (xin 23 (gN M_11 20 a_13)) <|
      let M_14 := sI M_11 20 a_13 (xi 23) ((gI M_11 20 a_12 (xi 23)) + 1)
      some M_14
  else
    some M
set_option maxRecDepth 100000 in
theorem q_X12_readFile_58 (fu : Nat) (s : Nat) (x1 : Int32) (M : xM) :
    xrun pX12_readFile flX12 koX12 nwX12 [(193, 3, 0, 0, w_X12_takeNumber fu), (210, 3, 0, 0, w_X12_takeOne fu), (213, 2, 0, 0, w_X12_takeWord fu)] [] xrtV 101 (xat 58 pX12_readFile) 0 0 [(0, .inr (.inr (12, some s))), (1, .inl x1)] [] M = J_X12_readFile_58 fu s x1 M := rfl
def F_X12_readFile (fu : Nat) (s : Nat) (M : xM) : Option xM :=
  (gR M 12 s 10).bind fun a_1 =>
  gd (xin 23 (gN M 20 a_1)) <|
  let x1_2 : Int32 := gI M 20 a_1 (xi 23)
  if ¬ x1_2 = 5 then
    let M_3 := sI M 12 s 7 ((gI M 12 s 7) + 1)
    (F_X12_isName fu s M_3).bind fun p_4 =>
    if ¬ p_4.1 = 0 then
      (F_X12_nameAt fu s 5 x1_2 p_4.2).bind fun p_5 =>
      if p_5.1 < 0 then
        J_X12_readFile_58 fu s x1_2 p_5.2
      else
        (F_X12_wrong fu s 3 p_5.2).bind fun p_6 =>
        J_X12_readFile_58 fu s x1_2 p_6
    else
      (F_X12_wrong fu s 1 p_4.2).bind fun p_7 =>
      J_X12_readFile_58 fu s x1_2 p_7
  else
    (F_X12_wrong fu s 5 M).bind fun p_8 =>
    some p_8
set_option maxRecDepth 100000 in
theorem q_X12_readFile (fu : Nat) (s : Nat) (M : xM) :
    xrun pX12_readFile flX12 koX12 nwX12 [(162, 2, 0, 0, w_X12_wrong fu), (203, 1, 0, 0, w_X12_isName fu), (207, 3, 0, 0, w_X12_nameAt fu)] [(58, fun bc bs ls st M => xz bc bs (lR ls 0 12 fun o => o.bind fun s => lI ls 1 fun x1 => xe st (J_X12_readFile_58 fu s x1 M)))] xrtV 101 (xat 0 pX12_readFile) 0 0 [(0, .inr (.inr (12, some s)))] [] M = F_X12_readFile fu s M := rfl
def w_X12_readFile (fu : Nat) {ρ : Type} (as : List xV) (M : xM) (k : Option xV → xM → Option ρ) : Option ρ := pR 12 as fun o as => o.bind fun s => xe as ((F_X12_readFile fu s M).bind fun p => k none p)
def pX12_sums : List xE := [(0, 0, 1, 0, 0, [], .aload_n 0),
  (0, 1, 1, 0, 0, [], .iload_n 1),
  (0, 2, 3, 0, 0, [], .invokevirtual 236),
  (1, 5, 1, 0, 0, [], .aload_n 0),
  (0, 6, 2, 0, 43, [], .bipush 43),
  (0, 8, 3, 0, 0, [], .invokevirtual 159),
  (0, 11, 3, 23, 0, [], .ifCond .ne 12),
  (0, 14, 1, 0, 0, [], .aload_n 0),
  (0, 15, 2, 0, 45, [], .bipush 45),
  (0, 17, 3, 0, 0, [], .invokevirtual 159),
  (0, 20, 3, 62, 0, [], .ifCond .eq 42),
  (1, 23, 1, 0, 0, [], .aload_n 0),
  (0, 24, 2, 0, 43, [], .bipush 43),
  (0, 26, 3, 0, 0, [], .invokevirtual 159),
  (0, 29, 1, 0, 0, [], .istore_n 2),
  (0, 30, 1, 0, 0, [], .aload_n 0),
  (0, 31, 1, 0, 0, [], .dup),
  (0, 32, 3, 0, 0, [], .getfield 153),
  (0, 35, 1, 0, 1, [], .iconst 1),
  (0, 36, 1, 0, 0, [], .iadd),
  (0, 37, 3, 0, 0, [], .putfield 153),
  (0, 40, 1, 0, 0, [], .aload_n 0),
  (0, 41, 1, 0, 0, [], .iload_n 1),
  (0, 42, 3, 0, 0, [], .invokevirtual 236),
  (0, 45, 1, 0, 0, [], .aload_n 0),
  (0, 46, 1, 0, 0, [], .iload_n 2),
  (0, 47, 3, 54, 0, [], .ifCond .eq 7),
  (0, 50, 1, 0, 4, [], .iconst 4),
  (0, 51, 3, 55, 0, [], .goto 4),
  (0, 54, 1, 0, 5, [], .iconst 5),
  (0, 55, 1, 0, 0, [], .iconst 0),
  (0, 56, 3, 0, 0, [], .invokevirtual 199),
  (0, 59, 3, 5, 0, [], .goto (-54)),
  (0, 62, 1, 0, 0, [], .return_)]
def J_X12_sums_23 (fu : Nat) (r : Nat → Int32 → xM → Option xM) (k5 : Nat → Int32 → xM → Option xM) (s : Nat) (x1 : Int32) (M : xM) : Option xM :=
  (F_X12_isSign fu s 43 M).bind fun p_1 =>
  let M_2 := sI p_1.2 12 s 7 ((gI p_1.2 12 s 7) + 1)
  (F_X12_products fu r s x1 M_2).bind fun p_3 =>
  if p_1.1 = 0 then
    (F_X12_emit fu s 5 0 p_3).bind fun p_4 =>
    k5 s x1 p_4
  else
    (F_X12_emit fu s 4 0 p_3).bind fun p_5 =>
    k5 s x1 p_5
set_option maxRecDepth 100000 in
theorem q_X12_sums_23 (fu : Nat) (r : Nat → Int32 → xM → Option xM) (k5 : Nat → Int32 → xM → Option xM) (s : Nat) (x1 : Int32) (M : xM) :
    xrun pX12_sums flX12 koX12 nwX12 [(159, 2, 0, 0, w_X12_isSign fu), (199, 3, 0, 0, w_X12_emit fu), (236, 2, 0, 0, w_X12_products fu r)] [(5, fun bc bs ls st M => xz bc bs (lR ls 0 12 fun o => o.bind fun s => lI ls 1 fun x1 => xe st (k5 s x1 M)))] xrtV 36 (xat 23 pX12_sums) 0 0 [(0, .inr (.inr (12, some s))), (1, .inl x1)] [] M = J_X12_sums_23 fu r k5 s x1 M := rfl
def L_X12_sums_5 (fu : Nat) (r : Nat → Int32 → xM → Option xM) : Nat → Nat → Int32 → xM → Option xM
  | 0, _, _, _ => none
  | n + 1, s, x1, M =>
    (F_X12_isSign fu s 43 M).bind fun p_1 =>
    if ¬ p_1.1 = 0 then
      J_X12_sums_23 fu r (L_X12_sums_5 fu r n) s x1 p_1.2
    else
      (F_X12_isSign fu s 45 p_1.2).bind fun p_2 =>
      if p_2.1 = 0 then
        some p_2.2
      else
        J_X12_sums_23 fu r (L_X12_sums_5 fu r n) s x1 p_2.2
set_option maxRecDepth 100000 in
theorem q_X12_sums_5 (fu : Nat) (r : Nat → Int32 → xM → Option xM) (n : Nat) (s : Nat) (x1 : Int32) (M : xM) :
    xrun pX12_sums flX12 koX12 nwX12 [(159, 2, 0, 0, w_X12_isSign fu)] [(23, fun bc bs ls st M => xz bc bs (lR ls 0 12 fun o => o.bind fun s => lI ls 1 fun x1 => xe st (J_X12_sums_23 fu r (L_X12_sums_5 fu r n) s x1 M)))] xrtV 36 (xat 5 pX12_sums) 0 0 [(0, .inr (.inr (12, some s))), (1, .inl x1)] [] M = L_X12_sums_5 fu r (n + 1) s x1 M := rfl
def F_X12_sums (fu : Nat) (r : Nat → Int32 → xM → Option xM) (s : Nat) (x1 : Int32) (M : xM) : Option xM :=
  (F_X12_products fu r s x1 M).bind fun p_1 =>
  L_X12_sums_5 fu r fu s x1 p_1
set_option maxRecDepth 100000 in
theorem q_X12_sums (fu : Nat) (r : Nat → Int32 → xM → Option xM) (s : Nat) (x1 : Int32) (M : xM) :
    xrun pX12_sums flX12 koX12 nwX12 [(236, 2, 0, 0, w_X12_products fu r)] [(5, fun bc bs ls st M => xz bc bs (lR ls 0 12 fun o => o.bind fun s => lI ls 1 fun x1 => xe st (L_X12_sums_5 fu r fu s x1 M)))] xrtV 36 (xat 0 pX12_sums) 0 0 [(0, .inr (.inr (12, some s))), (1, .inl x1)] [] M = F_X12_sums fu r s x1 M := rfl
def w_X12_sums (fu : Nat) (r : Nat → Int32 → xM → Option xM) {ρ : Type} (as : List xV) (M : xM) (k : Option xV → xM → Option ρ) : Option ρ := pR 12 as fun o as => o.bind fun s => pI as fun x1 as => xe as ((F_X12_sums fu r s x1 M).bind fun p => k none p)
def pX12_test : List xE := [(0, 0, 1, 0, 0, [], .aload_n 0),
  (0, 1, 1, 0, 0, [], .iload_n 1),
  (0, 2, 3, 0, 0, [], .invokevirtual 230),
  (0, 5, 1, 0, 0, [], .aload_n 0),
  (0, 6, 2, 0, 60, [], .bipush 60),
  (0, 8, 3, 0, 0, [], .invokevirtual 159),
  (0, 11, 1, 0, 0, [], .istore_n 2),
  (0, 12, 1, 0, 0, [], .aload_n 0),
  (0, 13, 2, 0, 60, [], .bipush 60),
  (0, 15, 3, 0, 0, [], .invokevirtual 233),
  (0, 18, 3, 30, 0, [], .ifCond .ne 12),
  (0, 21, 1, 0, 0, [], .aload_n 0),
  (0, 22, 2, 0, 61, [], .bipush 61),
  (0, 24, 3, 0, 0, [], .invokevirtual 233),
  (0, 27, 3, 51, 0, [], .ifCond .eq 24),
  (1, 30, 1, 0, 0, [], .aload_n 0),
  (0, 31, 1, 0, 0, [], .iload_n 1),
  (0, 32, 3, 0, 0, [], .invokevirtual 230),
  (0, 35, 1, 0, 0, [], .aload_n 0),
  (0, 36, 1, 0, 0, [], .iload_n 2),
  (0, 37, 3, 45, 0, [], .ifCond .eq 8),
  (0, 40, 2, 0, 7, [], .bipush 7),
  (0, 42, 3, 47, 0, [], .goto 5),
  (0, 45, 2, 0, 8, [], .bipush 8),
  (0, 47, 1, 0, 0, [], .iconst 0),
  (0, 48, 3, 0, 0, [], .invokevirtual 199),
  (0, 51, 1, 0, 0, [], .return_)]
def J_X12_test_30 (fu : Nat) (r : Nat → Int32 → xM → Option xM) (s : Nat) (x1 : Int32) (x2 : Int32) (M : xM) : Option xM :=
  (F_X12_sums fu r s x1 M).bind fun p_1 =>
  if x2 = 0 then
    (F_X12_emit fu s 8 0 p_1).bind fun p_2 =>
    some p_2
  else
    (F_X12_emit fu s 7 0 p_1).bind fun p_3 =>
    some p_3
set_option maxRecDepth 100000 in
theorem q_X12_test_30 (fu : Nat) (r : Nat → Int32 → xM → Option xM) (s : Nat) (x1 : Int32) (x2 : Int32) (M : xM) :
    xrun pX12_test flX12 koX12 nwX12 [(199, 3, 0, 0, w_X12_emit fu), (230, 2, 0, 0, w_X12_sums fu r)] [] xrtV 29 (xat 30 pX12_test) 0 0 [(0, .inr (.inr (12, some s))), (1, .inl x1), (2, .inl x2)] [] M = J_X12_test_30 fu r s x1 x2 M := rfl
def F_X12_test (fu : Nat) (r : Nat → Int32 → xM → Option xM) (s : Nat) (x1 : Int32) (M : xM) : Option xM :=
  (F_X12_sums fu r s x1 M).bind fun p_1 =>
  (F_X12_isSign fu s 60 p_1).bind fun p_2 =>
  (F_X12_hasSign fu s 60 p_2.2).bind fun p_3 =>
  if ¬ p_3.1 = 0 then
    J_X12_test_30 fu r s x1 p_2.1 p_3.2
  else
    (F_X12_hasSign fu s 61 p_3.2).bind fun p_4 =>
    if p_4.1 = 0 then
      some p_4.2
    else
      J_X12_test_30 fu r s x1 p_2.1 p_4.2
set_option maxRecDepth 100000 in
theorem q_X12_test (fu : Nat) (r : Nat → Int32 → xM → Option xM) (s : Nat) (x1 : Int32) (M : xM) :
    xrun pX12_test flX12 koX12 nwX12 [(159, 2, 0, 0, w_X12_isSign fu), (230, 2, 0, 0, w_X12_sums fu r), (233, 2, 0, 0, w_X12_hasSign fu)] [(30, fun bc bs ls st M => xz bc bs (lR ls 0 12 fun o => o.bind fun s => lI ls 1 fun x1 => lI ls 2 fun x2 => xe st (J_X12_test_30 fu r s x1 x2 M)))] xrtV 29 (xat 0 pX12_test) 0 0 [(0, .inr (.inr (12, some s))), (1, .inl x1)] [] M = F_X12_test fu r s x1 M := rfl
def w_X12_test (fu : Nat) (r : Nat → Int32 → xM → Option xM) {ρ : Type} (as : List xV) (M : xM) (k : Option xV → xM → Option ρ) : Option ρ := pR 12 as fun o as => o.bind fun s => pI as fun x1 as => xe as ((F_X12_test fu r s x1 M).bind fun p => k none p)
def pX12_whole : List xE := [(0, 0, 1, 0, 0, [], .aload_n 0),
  (0, 1, 1, 0, 0, [], .iload_n 1),
  (0, 2, 3, 0, 0, [], .invokevirtual 227),
  (1, 5, 1, 0, 0, [], .aload_n 0),
  (0, 6, 2, 0, 17, [], .bipush 17),
  (0, 8, 3, 0, 0, [], .invokevirtual 165),
  (0, 11, 3, 23, 0, [], .ifCond .ne 12),
  (0, 14, 1, 0, 0, [], .aload_n 0),
  (0, 15, 2, 0, 18, [], .bipush 18),
  (0, 17, 3, 0, 0, [], .invokevirtual 165),
  (0, 20, 3, 64, 0, [], .ifCond .eq 44),
  (1, 23, 1, 0, 0, [], .aload_n 0),
  (0, 24, 2, 0, 17, [], .bipush 17),
  (0, 26, 3, 0, 0, [], .invokevirtual 165),
  (0, 29, 1, 0, 0, [], .istore_n 2),
  (0, 30, 1, 0, 0, [], .aload_n 0),
  (0, 31, 1, 0, 0, [], .dup),
  (0, 32, 3, 0, 0, [], .getfield 153),
  (0, 35, 1, 0, 1, [], .iconst 1),
  (0, 36, 1, 0, 0, [], .iadd),
  (0, 37, 3, 0, 0, [], .putfield 153),
  (0, 40, 1, 0, 0, [], .aload_n 0),
  (0, 41, 1, 0, 0, [], .iload_n 1),
  (0, 42, 3, 0, 0, [], .invokevirtual 227),
  (0, 45, 1, 0, 0, [], .aload_n 0),
  (0, 46, 1, 0, 0, [], .iload_n 2),
  (0, 47, 3, 55, 0, [], .ifCond .eq 8),
  (0, 50, 2, 0, 9, [], .bipush 9),
  (0, 52, 3, 57, 0, [], .goto 5),
  (0, 55, 2, 0, 10, [], .bipush 10),
  (0, 57, 1, 0, 0, [], .iconst 0),
  (0, 58, 3, 0, 0, [], .invokevirtual 199),
  (0, 61, 3, 5, 0, [], .goto (-56)),
  (0, 64, 1, 0, 0, [], .return_)]
def J_X12_whole_23 (fu : Nat) (r : Nat → Int32 → xM → Option xM) (k5 : Nat → Int32 → xM → Option xM) (s : Nat) (x1 : Int32) (M : xM) : Option xM :=
  (F_X12_isWord fu s 17 M).bind fun p_1 =>
  let M_2 := sI p_1.2 12 s 7 ((gI p_1.2 12 s 7) + 1)
  (F_X12_test fu r s x1 M_2).bind fun p_3 =>
  if p_1.1 = 0 then
    (F_X12_emit fu s 10 0 p_3).bind fun p_4 =>
    k5 s x1 p_4
  else
    (F_X12_emit fu s 9 0 p_3).bind fun p_5 =>
    k5 s x1 p_5
set_option maxRecDepth 100000 in
theorem q_X12_whole_23 (fu : Nat) (r : Nat → Int32 → xM → Option xM) (k5 : Nat → Int32 → xM → Option xM) (s : Nat) (x1 : Int32) (M : xM) :
    xrun pX12_whole flX12 koX12 nwX12 [(165, 2, 0, 0, w_X12_isWord fu), (199, 3, 0, 0, w_X12_emit fu), (227, 2, 0, 0, w_X12_test fu r)] [(5, fun bc bs ls st M => xz bc bs (lR ls 0 12 fun o => o.bind fun s => lI ls 1 fun x1 => xe st (k5 s x1 M)))] xrtV 36 (xat 23 pX12_whole) 0 0 [(0, .inr (.inr (12, some s))), (1, .inl x1)] [] M = J_X12_whole_23 fu r k5 s x1 M := rfl
def L_X12_whole_5 (fu : Nat) (r : Nat → Int32 → xM → Option xM) : Nat → Nat → Int32 → xM → Option xM
  | 0, _, _, _ => none
  | n + 1, s, x1, M =>
    (F_X12_isWord fu s 17 M).bind fun p_1 =>
    if ¬ p_1.1 = 0 then
      J_X12_whole_23 fu r (L_X12_whole_5 fu r n) s x1 p_1.2
    else
      (F_X12_isWord fu s 18 p_1.2).bind fun p_2 =>
      if p_2.1 = 0 then
        some p_2.2
      else
        J_X12_whole_23 fu r (L_X12_whole_5 fu r n) s x1 p_2.2
set_option maxRecDepth 100000 in
theorem q_X12_whole_5 (fu : Nat) (r : Nat → Int32 → xM → Option xM) (n : Nat) (s : Nat) (x1 : Int32) (M : xM) :
    xrun pX12_whole flX12 koX12 nwX12 [(165, 2, 0, 0, w_X12_isWord fu)] [(23, fun bc bs ls st M => xz bc bs (lR ls 0 12 fun o => o.bind fun s => lI ls 1 fun x1 => xe st (J_X12_whole_23 fu r (L_X12_whole_5 fu r n) s x1 M)))] xrtV 36 (xat 5 pX12_whole) 0 0 [(0, .inr (.inr (12, some s))), (1, .inl x1)] [] M = L_X12_whole_5 fu r (n + 1) s x1 M := rfl
def F_X12_whole (fu : Nat) (r : Nat → Int32 → xM → Option xM) (s : Nat) (x1 : Int32) (M : xM) : Option xM :=
  (F_X12_test fu r s x1 M).bind fun p_1 =>
  L_X12_whole_5 fu r fu s x1 p_1
set_option maxRecDepth 100000 in
theorem q_X12_whole (fu : Nat) (r : Nat → Int32 → xM → Option xM) (s : Nat) (x1 : Int32) (M : xM) :
    xrun pX12_whole flX12 koX12 nwX12 [(227, 2, 0, 0, w_X12_test fu r)] [(5, fun bc bs ls st M => xz bc bs (lR ls 0 12 fun o => o.bind fun s => lI ls 1 fun x1 => xe st (L_X12_whole_5 fu r fu s x1 M)))] xrtV 36 (xat 0 pX12_whole) 0 0 [(0, .inr (.inr (12, some s))), (1, .inl x1)] [] M = F_X12_whole fu r s x1 M := rfl
def w_X12_whole (fu : Nat) (r : Nat → Int32 → xM → Option xM) {ρ : Type} (as : List xV) (M : xM) (k : Option xV → xM → Option ρ) : Option ρ := pR 12 as fun o as => o.bind fun s => pI as fun x1 as => xe as ((F_X12_whole fu r s x1 M).bind fun p => k none p)
def pX12_takeSign : List xE := [(0, 0, 1, 0, 0, [], .aload_n 0),
  (0, 1, 1, 0, 0, [], .iload_n 1),
  (0, 2, 3, 0, 0, [], .invokevirtual 159),
  (0, 5, 3, 21, 0, [], .ifCond .eq 16),
  (0, 8, 1, 0, 0, [], .aload_n 0),
  (0, 9, 1, 0, 0, [], .dup),
  (0, 10, 3, 0, 0, [], .getfield 153),
  (0, 13, 1, 0, 1, [], .iconst 1),
  (0, 14, 1, 0, 0, [], .iadd),
  (0, 15, 3, 0, 0, [], .putfield 153),
  (0, 18, 3, 26, 0, [], .goto 8),
  (0, 21, 1, 0, 0, [], .aload_n 0),
  (0, 22, 1, 0, 1, [], .iconst 1),
  (0, 23, 3, 0, 0, [], .invokevirtual 162),
  (0, 26, 1, 0, 0, [], .return_)]
def F_X12_takeSign (fu : Nat) (s : Nat) (x1 : Int32) (M : xM) : Option xM :=
  (F_X12_isSign fu s x1 M).bind fun p_1 =>
  if p_1.1 = 0 then
    (F_X12_wrong fu s 1 p_1.2).bind fun p_2 =>
    some p_2
  else
    let M_3 := sI p_1.2 12 s 7 ((gI p_1.2 12 s 7) + 1)
    some M_3
set_option maxRecDepth 100000 in
theorem q_X12_takeSign (fu : Nat) (s : Nat) (x1 : Int32) (M : xM) :
    xrun pX12_takeSign flX12 koX12 nwX12 [(159, 2, 0, 0, w_X12_isSign fu), (162, 2, 0, 0, w_X12_wrong fu)] [] xrtV 17 (xat 0 pX12_takeSign) 0 0 [(0, .inr (.inr (12, some s))), (1, .inl x1)] [] M = F_X12_takeSign fu s x1 M := rfl
def w_X12_takeSign (fu : Nat) {ρ : Type} (as : List xV) (M : xM) (k : Option xV → xM → Option ρ) : Option ρ := pR 12 as fun o as => o.bind fun s => pI as fun x1 as => xe as ((F_X12_takeSign fu s x1 M).bind fun p => k none p)
def pX12_takePart : List xE := [(0, 0, 1, 0, 0, [], .aload_n 0),
  (0, 1, 3, 0, 0, [], .getfield 156),
  (0, 4, 3, 8, 0, [], .ifCond .le 4),
  (0, 7, 1, 0, 0, [], .return_),
  (0, 8, 1, 0, 0, [], .aload_n 0),
  (0, 9, 3, 0, 0, [], .getfield 24),
  (0, 12, 1, 0, 0, [], .aload_n 0),
  (0, 13, 3, 0, 0, [], .getfield 153),
  (0, 16, 1, 0, 0, [], .iaload),
  (0, 17, 1, 0, 2, [], .iconst 2),
  (0, 18, 3, 25, 0, [], .if_icmp .ne 7),
  (0, 21, 1, 0, 1, [], .iconst 1),
  (0, 22, 3, 26, 0, [], .goto 4),
  (0, 25, 1, 0, 0, [], .iconst 0),
  (1, 26, 1, 0, 0, [], .istore_n 2),
  (0, 27, 1, 0, 0, [], .aload_n 0),
  (0, 28, 2, 0, 19, [], .bipush 19),
  (0, 30, 1, 0, 4, [], .iconst 4),
  (0, 31, 3, 0, 0, [], .invokevirtual 171),
  (0, 34, 1, 0, 0, [], .istore_n 3),
  (0, 35, 1, 0, 0, [], .iload_n 3),
  (0, 36, 3, 69, 0, [], .ifCond .ge 33),
  (0, 39, 1, 0, 0, [], .iload_n 2),
  (0, 40, 3, 69, 0, [], .ifCond .ne 29),
  (0, 43, 1, 0, 0, [], .aload_n 0),
  (0, 44, 2, 0, 40, [], .bipush 40),
  (0, 46, 3, 0, 0, [], .invokevirtual 159),
  (0, 49, 3, 69, 0, [], .ifCond .ne 20),
  (0, 52, 1, 0, 0, [], .aload_n 0),
  (0, 53, 2, 0, 16, [], .bipush 16),
  (0, 55, 3, 0, 0, [], .invokevirtual 165),
  (0, 58, 3, 69, 0, [], .ifCond .ne 11),
  (0, 61, 1, 0, 0, [], .aload_n 0),
  (0, 62, 1, 0, 1, [], .iconst 1),
  (0, 63, 3, 0, 0, [], .invokevirtual 162),
  (0, 66, 3, 79, 0, [], .goto 13),
  (1, 69, 1, 0, 0, [], .iload_n 1),
  (0, 70, 1, 0, 5, [], .iconst 5),
  (0, 71, 3, 79, 0, [], .if_icmp .ne 8),
  (0, 74, 1, 0, 0, [], .aload_n 0),
  (0, 75, 1, 0, 5, [], .iconst 5),
  (0, 76, 3, 0, 0, [], .invokevirtual 162),
  (1, 79, 1, 0, 0, [], .aload_n 0),
  (0, 80, 3, 0, 0, [], .getfield 156),
  (0, 83, 3, 87, 0, [], .ifCond .le 4),
  (0, 86, 1, 0, 0, [], .return_),
  (0, 87, 1, 0, 0, [], .aload_n 0),
  (0, 88, 2, 0, 16, [], .bipush 16),
  (0, 90, 3, 0, 0, [], .invokevirtual 168),
  (0, 93, 3, 112, 0, [], .ifCond .eq 19),
  (0, 96, 1, 0, 0, [], .aload_n 0),
  (0, 97, 1, 0, 0, [], .iload_n 1),
  (0, 98, 1, 0, 1, [], .iconst 1),
  (0, 99, 1, 0, 0, [], .iadd),
  (0, 100, 3, 0, 0, [], .invokevirtual 239),
  (0, 103, 1, 0, 0, [], .aload_n 0),
  (0, 104, 1, 0, 3, [], .iconst 3),
  (0, 105, 1, 0, 0, [], .iconst 0),
  (0, 106, 3, 0, 0, [], .invokevirtual 199),
  (0, 109, 3, 178, 0, [], .goto 69),
  (0, 112, 1, 0, 0, [], .aload_n 0),
  (0, 113, 2, 0, 40, [], .bipush 40),
  (0, 115, 3, 0, 0, [], .invokevirtual 233),
  (0, 118, 3, 137, 0, [], .ifCond .eq 19),
  (0, 121, 1, 0, 0, [], .aload_n 0),
  (0, 122, 1, 0, 0, [], .iload_n 1),
  (0, 123, 1, 0, 1, [], .iconst 1),
  (0, 124, 1, 0, 0, [], .iadd),
  (0, 125, 3, 0, 0, [], .invokevirtual 196),
  (0, 128, 1, 0, 0, [], .aload_n 0),
  (0, 129, 2, 0, 41, [], .bipush 41),
  (0, 131, 3, 0, 0, [], .invokevirtual 184),
  (0, 134, 3, 178, 0, [], .goto 44),
  (0, 137, 1, 0, 0, [], .aload_n 0),
  (0, 138, 1, 0, 0, [], .iload_n 2),
  (0, 139, 3, 146, 0, [], .ifCond .eq 7),
  (0, 142, 1, 0, 1, [], .iconst 1),
  (0, 143, 3, 147, 0, [], .goto 4),
  (0, 146, 1, 0, 2, [], .iconst 2),
  (1, 147, 1, 0, 0, [], .iload_n 2),
  (0, 148, 3, 164, 0, [], .ifCond .eq 16),
  (0, 151, 1, 0, 0, [], .aload_n 0),
  (0, 152, 3, 0, 0, [], .getfield 30),
  (0, 155, 1, 0, 0, [], .aload_n 0),
  (0, 156, 3, 0, 0, [], .getfield 153),
  (0, 159, 1, 0, 0, [], .laload),
  (0, 160, 1, 0, 0, [], .l2i),
  (0, 161, 3, 165, 0, [], .goto 4),
  (0, 164, 1, 0, 0, [], .iload_n 3),
  (0, 165, 3, 0, 0, [], .invokevirtual 199),
  (0, 168, 1, 0, 0, [], .aload_n 0),
  (0, 169, 1, 0, 0, [], .dup),
  (0, 170, 3, 0, 0, [], .getfield 153),
  (0, 173, 1, 0, 1, [], .iconst 1),
  (0, 174, 1, 0, 0, [], .iadd),
  (0, 175, 3, 0, 0, [], .putfield 153),
  (0, 178, 1, 0, 0, [], .return_)]
def J_X12_takePart_147 (fu : Nat) (r : Nat → Int32 → xM → Option xM) (s : Nat) (x2 : Int32) (x3 : Int32) (y0 : Int32) (y1 : Nat) (M : xM) : Option xM :=
  if x2 = 0 then
    (F_X12_emit fu y1 y0 x3 M).bind fun p_1 =>
    let M_2 := sI p_1 12 s 7 ((gI p_1 12 s 7) + 1)
    some M_2
  else
    (gR M 12 s 6).bind fun a_3 =>
    gd (xin (gI M 12 s 7) (gN M 21 a_3)) <|
    (F_X12_emit fu y1 y0 (Int64.toInt32 (gL M 21 a_3 (xi (gI M 12 s 7)))) M).bind fun p_4 =>
    let M_5 := sI p_4 12 s 7 ((gI p_4 12 s 7) + 1)
    some M_5
set_option maxRecDepth 100000 in
theorem q_X12_takePart_147 (fu : Nat) (r : Nat → Int32 → xM → Option xM) (s : Nat) (x2 : Int32) (x3 : Int32) (y0 : Int32) (y1 : Nat) (M : xM) :
    xrun pX12_takePart flX12 koX12 nwX12 [(199, 3, 0, 0, w_X12_emit fu)] [] xrtV 99 (xat 147 pX12_takePart) 0 0 [(0, .inr (.inr (12, some s))), (2, .inl x2), (3, .inl x3)] [.inl y0, .inr (.inr (12, some y1))] M = J_X12_takePart_147 fu r s x2 x3 y0 y1 M := rfl
def J_X12_takePart_79 (fu : Nat) (r : Nat → Int32 → xM → Option xM) (s : Nat) (x1 : Int32) (x2 : Int32) (x3 : Int32) (M : xM) : Option xM :=
  if (gI M 12 s 8) ≤ 0 then
    (F_X12_hasWord fu s 16 M).bind fun p_1 =>
    if p_1.1 = 0 then
      (F_X12_hasSign fu s 40 p_1.2).bind fun p_2 =>
      if p_2.1 = 0 then
        if x2 = 0 then
          J_X12_takePart_147 fu r s x2 x3 2 s p_2.2
        else
          J_X12_takePart_147 fu r s x2 x3 1 s p_2.2
      else
        (F_X12_whole fu r s (x1 + 1) p_2.2).bind fun p_3 =>
        (F_X12_takeSign fu s 41 p_3).bind fun p_4 =>
        some p_4
    else
      (r s (x1 + 1) p_1.2).bind fun p_5 =>
      (F_X12_emit fu s 3 0 p_5).bind fun p_6 =>
      some p_6
  else
    some M
set_option maxRecDepth 100000 in
theorem q_X12_takePart_79 (fu : Nat) (r : Nat → Int32 → xM → Option xM) (s : Nat) (x1 : Int32) (x2 : Int32) (x3 : Int32) (M : xM) :
    xrun pX12_takePart flX12 koX12 nwX12 [(168, 2, 0, 0, w_X12_hasWord fu), (184, 2, 0, 0, w_X12_takeSign fu), (196, 2, 0, 0, w_X12_whole fu r), (199, 3, 0, 0, w_X12_emit fu), (233, 2, 0, 0, w_X12_hasSign fu), (239, 2, 0, 0, w_X12_takePart r)] [(147, fun bc bs ls st M => xz bc bs (lR ls 0 12 fun o => o.bind fun s => lI ls 2 fun x2 => lI ls 3 fun x3 => pI st fun y0 st => pR 12 st fun o st => o.bind fun y1 => xe st (J_X12_takePart_147 fu r s x2 x3 y0 y1 M)))] xrtV 99 (xat 79 pX12_takePart) 0 0 [(0, .inr (.inr (12, some s))), (1, .inl x1), (2, .inl x2), (3, .inl x3)] [] M = J_X12_takePart_79 fu r s x1 x2 x3 M := rfl
def J_X12_takePart_69 (fu : Nat) (r : Nat → Int32 → xM → Option xM) (s : Nat) (x1 : Int32) (x2 : Int32) (x3 : Int32) (M : xM) : Option xM :=
  if ¬ x1 = 5 then
    J_X12_takePart_79 fu r s x1 x2 x3 M
  else
    (F_X12_wrong fu s 5 M).bind fun p_1 =>
    J_X12_takePart_79 fu r s x1 x2 x3 p_1
set_option maxRecDepth 100000 in
theorem q_X12_takePart_69 (fu : Nat) (r : Nat → Int32 → xM → Option xM) (s : Nat) (x1 : Int32) (x2 : Int32) (x3 : Int32) (M : xM) :
    xrun pX12_takePart flX12 koX12 nwX12 [(162, 2, 0, 0, w_X12_wrong fu)] [(79, fun bc bs ls st M => xz bc bs (lR ls 0 12 fun o => o.bind fun s => lI ls 1 fun x1 => lI ls 2 fun x2 => lI ls 3 fun x3 => xe st (J_X12_takePart_79 fu r s x1 x2 x3 M)))] xrtV 99 (xat 69 pX12_takePart) 0 0 [(0, .inr (.inr (12, some s))), (1, .inl x1), (2, .inl x2), (3, .inl x3)] [] M = J_X12_takePart_69 fu r s x1 x2 x3 M := rfl
def J_X12_takePart_26 (fu : Nat) (r : Nat → Int32 → xM → Option xM) (s : Nat) (x1 : Int32) (y0 : Int32) (M : xM) : Option xM :=
  (F_X12_wordHere fu s 19 4 M).bind fun p_1 =>
  if 0 ≤ p_1.1 then
    J_X12_takePart_69 fu r s x1 y0 p_1.1 p_1.2
  else
    if ¬ y0 = 0 then
      J_X12_takePart_69 fu r s x1 y0 p_1.1 p_1.2
    else
      (F_X12_isSign fu s 40 p_1.2).bind fun p_2 =>
      if ¬ p_2.1 = 0 then
        J_X12_takePart_69 fu r s x1 y0 p_1.1 p_2.2
      else
        (F_X12_isWord fu s 16 p_2.2).bind fun p_3 =>
        if ¬ p_3.1 = 0 then
          J_X12_takePart_69 fu r s x1 y0 p_1.1 p_3.2
        else
          (F_X12_wrong fu s 1 p_3.2).bind fun p_4 =>
          J_X12_takePart_79 fu r s x1 y0 p_1.1 p_4
set_option maxRecDepth 100000 in
theorem q_X12_takePart_26 (fu : Nat) (r : Nat → Int32 → xM → Option xM) (s : Nat) (x1 : Int32) (y0 : Int32) (M : xM) :
    xrun pX12_takePart flX12 koX12 nwX12 [(159, 2, 0, 0, w_X12_isSign fu), (162, 2, 0, 0, w_X12_wrong fu), (165, 2, 0, 0, w_X12_isWord fu), (171, 3, 0, 0, w_X12_wordHere fu)] [(69, fun bc bs ls st M => xz bc bs (lR ls 0 12 fun o => o.bind fun s => lI ls 1 fun x1 => lI ls 2 fun x2 => lI ls 3 fun x3 => xe st (J_X12_takePart_69 fu r s x1 x2 x3 M))),
    (79, fun bc bs ls st M => xz bc bs (lR ls 0 12 fun o => o.bind fun s => lI ls 1 fun x1 => lI ls 2 fun x2 => lI ls 3 fun x3 => xe st (J_X12_takePart_79 fu r s x1 x2 x3 M)))] xrtV 99 (xat 26 pX12_takePart) 0 0 [(0, .inr (.inr (12, some s))), (1, .inl x1)] [.inl y0] M = J_X12_takePart_26 fu r s x1 y0 M := rfl
def F_X12_takeParto (fu : Nat) (r : Nat → Int32 → xM → Option xM) (s : Nat) (x1 : Int32) (M : xM) : Option xM :=
  if (gI M 12 s 8) ≤ 0 then
    (gR M 12 s 4).bind fun a_1 =>
    gd (xin (gI M 12 s 7) (gN M 20 a_1)) <|
    if ¬ (gI M 20 a_1 (xi (gI M 12 s 7))) = 2 then
      J_X12_takePart_26 fu r s x1 0 M
    else
      J_X12_takePart_26 fu r s x1 1 M
  else
    some M
set_option maxRecDepth 100000 in
theorem q_X12_takePart (fu : Nat) (r : Nat → Int32 → xM → Option xM) (s : Nat) (x1 : Int32) (M : xM) :
    xrun pX12_takePart flX12 koX12 nwX12 [] [(26, fun bc bs ls st M => xz bc bs (lR ls 0 12 fun o => o.bind fun s => lI ls 1 fun x1 => pI st fun y0 st => xe st (J_X12_takePart_26 fu r s x1 y0 M)))] xrtV 99 (xat 0 pX12_takePart) 0 0 [(0, .inr (.inr (12, some s))), (1, .inl x1)] [] M = F_X12_takeParto fu r s x1 M := rfl
def F_X12_takePart (fu : Nat) : Nat → Nat → Int32 → xM → Option xM
  | 0, _, _, _ => none
  | d + 1, s, x1, M => F_X12_takeParto fu (F_X12_takePart fu d) s x1 M
def pX12_readLine : List xE := [(0, 0, 1, 0, 0, [], .aload_n 0),
  (0, 1, 1, 0, 0, [], .iconst 0),
  (0, 2, 1, 0, 3, [], .iconst 3),
  (0, 3, 3, 0, 0, [], .invokevirtual 171),
  (0, 6, 1, 0, 0, [], .istore_n 1),
  (0, 7, 1, 0, 0, [], .aload_n 0),
  (0, 8, 1, 0, 3, [], .iconst 3),
  (0, 9, 3, 0, 0, [], .invokevirtual 165),
  (0, 12, 3, 22, 0, [], .ifCond .eq 10),
  (0, 15, 1, 0, 0, [], .aload_n 0),
  (0, 16, 3, 0, 0, [], .invokevirtual 187),
  (0, 19, 3, 118, 0, [], .goto 99),
  (0, 22, 1, 0, 0, [], .iload_n 1),
  (0, 23, 3, 72, 0, [], .ifCond .lt 49),
  (0, 26, 1, 0, 0, [], .aload_n 0),
  (0, 27, 1, 0, 0, [], .iload_n 1),
  (0, 28, 3, 0, 0, [], .invokevirtual 190),
  (0, 31, 3, 118, 0, [], .ifCond .eq 87),
  (0, 34, 1, 0, 0, [], .aload_n 0),
  (0, 35, 3, 0, 0, [], .getfield 83),
  (0, 38, 2, 0, 20, [], .bipush 20),
  (0, 40, 1, 0, 0, [], .iload_n 1),
  (0, 41, 1, 0, 0, [], .iadd),
  (0, 42, 1, 0, 0, [], .aload_n 0),
  (0, 43, 1, 0, 0, [], .iload_n 1),
  (0, 44, 1, 0, 2, [], .iconst 2),
  (0, 45, 3, 52, 0, [], .if_icmp .ne 7),
  (0, 48, 1, 0, 0, [], .iconst 0),
  (0, 49, 3, 53, 0, [], .goto 4),
  (0, 52, 1, 0, 1, [], .iconst 1),
  (1, 53, 1, 0, 0, [], .iload_n 1),
  (0, 54, 1, 0, 2, [], .iconst 2),
  (0, 55, 3, 63, 0, [], .if_icmp .ne 8),
  (0, 58, 2, 0, 8, [], .bipush 8),
  (0, 60, 3, 65, 0, [], .goto 5),
  (0, 63, 2, 0, 6, [], .bipush 6),
  (0, 65, 3, 0, 0, [], .invokevirtual 193),
  (0, 68, 1, 0, 0, [], .iastore),
  (0, 69, 3, 118, 0, [], .goto 49),
  (0, 72, 1, 0, 0, [], .aload_n 0),
  (0, 73, 1, 0, 5, [], .iconst 5),
  (0, 74, 3, 0, 0, [], .invokevirtual 165),
  (0, 77, 3, 88, 0, [], .ifCond .ne 11),
  (0, 80, 1, 0, 0, [], .aload_n 0),
  (0, 81, 1, 0, 1, [], .iconst 1),
  (0, 82, 3, 0, 0, [], .invokevirtual 162),
  (0, 85, 3, 118, 0, [], .goto 33),
  (0, 88, 1, 0, 0, [], .aload_n 0),
  (0, 89, 1, 0, 3, [], .iconst 3),
  (0, 90, 3, 0, 0, [], .invokevirtual 190),
  (0, 93, 3, 118, 0, [], .ifCond .eq 25),
  (0, 96, 1, 0, 0, [], .aload_n 0),
  (0, 97, 3, 0, 0, [], .getfield 83),
  (0, 100, 2, 0, 24, [], .bipush 24),
  (0, 102, 1, 0, 0, [], .aload_n 0),
  (0, 103, 3, 0, 0, [], .getfield 178),
  (0, 106, 1, 0, 0, [], .iastore),
  (0, 107, 1, 0, 0, [], .aload_n 0),
  (0, 108, 1, 0, 0, [], .iconst 0),
  (0, 109, 3, 0, 0, [], .invokevirtual 196),
  (0, 112, 1, 0, 0, [], .aload_n 0),
  (0, 113, 1, 0, 0, [], .iconst 0),
  (0, 114, 1, 0, 0, [], .iconst 0),
  (0, 115, 3, 0, 0, [], .invokevirtual 199),
  (0, 118, 1, 0, 0, [], .return_)]
def J_X12_readLine_53 (fu : Nat) (x1 : Int32) (y0 : Int32) (y1 : Nat) (y2 : Int32) (y3 : Option Nat) (M : xM) : Option xM :=
  if ¬ x1 = 2 then
    (F_X12_takeNumber fu y1 y0 6 M).bind fun p_1 =>
    y3.bind fun a_2 =>
    gd (xin y2 (gN p_1.2 20 a_2)) <|
    let M_3 := sI p_1.2 20 a_2 (xi y2) p_1.1
    some M_3
  else
    (F_X12_takeNumber fu y1 y0 8 M).bind fun p_4 =>
    y3.bind fun a_5 =>
    gd (xin y2 (gN p_4.2 20 a_5)) <|
    let M_6 := sI p_4.2 20 a_5 (xi y2) p_4.1
    some M_6
set_option maxRecDepth 100000 in
theorem q_X12_readLine_53 (fu : Nat) (x1 : Int32) (y0 : Int32) (y1 : Nat) (y2 : Int32) (y3 : Option Nat) (M : xM) :
    xrun pX12_readLine flX12 koX12 nwX12 [(193, 3, 0, 0, w_X12_takeNumber fu)] [] xrtV 67 (xat 53 pX12_readLine) 0 0 [(1, .inl x1)] [.inl y0, .inr (.inr (12, some y1)), .inl y2, .inr (.inr (20, y3))] M = J_X12_readLine_53 fu x1 y0 y1 y2 y3 M := rfl
def F_X12_readLine (fu : Nat) (s : Nat) (M : xM) : Option xM :=
  (F_X12_wordHere fu s 0 3 M).bind fun p_1 =>
  (F_X12_isWord fu s 3 p_1.2).bind fun p_2 =>
  if p_2.1 = 0 then
    if p_1.1 < 0 then
      (F_X12_isWord fu s 5 p_2.2).bind fun p_3 =>
      if ¬ p_3.1 = 0 then
        (F_X12_isOnce fu s 3 p_3.2).bind fun p_4 =>
        if p_4.1 = 0 then
          some p_4.2
        else
          (gR p_4.2 12 s 10).bind fun a_5 =>
          gd (xin 24 (gN p_4.2 20 a_5)) <|
          let M_6 := sI p_4.2 20 a_5 (xi 24) (gI p_4.2 12 s 12)
          (F_X12_whole fu (F_X12_takePart fu 16) s 0 M_6).bind fun p_7 =>
          (F_X12_emit fu s 0 0 p_7).bind fun p_8 =>
          some p_8
      else
        (F_X12_wrong fu s 1 p_3.2).bind fun p_9 =>
        some p_9
    else
      (F_X12_isOnce fu s p_1.1 p_2.2).bind fun p_10 =>
      if p_10.1 = 0 then
        some p_10.2
      else
        if ¬ p_1.1 = 2 then
          J_X12_readLine_53 fu p_1.1 1 s (20 + p_1.1) (gR p_10.2 12 s 10) p_10.2
        else
          J_X12_readLine_53 fu p_1.1 0 s (20 + p_1.1) (gR p_10.2 12 s 10) p_10.2
  else
    (F_X12_readFile fu s p_2.2).bind fun p_11 =>
    some p_11
set_option maxRecDepth 100000 in
theorem q_X12_readLine (fu : Nat) (s : Nat) (M : xM) :
    xrun pX12_readLine flX12 koX12 nwX12 [(162, 2, 0, 0, w_X12_wrong fu), (165, 2, 0, 0, w_X12_isWord fu), (171, 3, 0, 0, w_X12_wordHere fu), (187, 1, 0, 0, w_X12_readFile fu), (190, 2, 0, 0, w_X12_isOnce fu), (196, 2, 0, 0, w_X12_whole fu (F_X12_takePart fu 16)), (199, 3, 0, 0, w_X12_emit fu)] [(53, fun bc bs ls st M => xz bc bs (lI ls 1 fun x1 => pI st fun y0 st => pR 12 st fun o st => o.bind fun y1 => pI st fun y2 st => pR 20 st fun y3 st => xe st (J_X12_readLine_53 fu x1 y0 y1 y2 y3 M)))] xrtV 67 (xat 0 pX12_readLine) 0 0 [(0, .inr (.inr (12, some s)))] [] M = F_X12_readLine fu s M := rfl
def w_X12_readLine (fu : Nat) {ρ : Type} (as : List xV) (M : xM) (k : Option xV → xM → Option ρ) : Option ρ := pR 12 as fun o as => o.bind fun s => xe as ((F_X12_readLine fu s M).bind fun p => k none p)
def pX12_readWork : List xE := [(0, 0, 1, 0, 0, [], .aload_n 0),
  (0, 1, 3, 0, 0, [], .getfield 92),
  (0, 4, 1, 0, 0, [], .iload_n 1),
  (0, 5, 1, 0, 0, [], .iload_n 2),
  (0, 6, 1, 0, 0, [], .iastore),
  (0, 7, 1, 0, 0, [], .aload_n 0),
  (0, 8, 3, 0, 0, [], .getfield 92),
  (0, 11, 1, 0, 0, [], .iload_n 1),
  (0, 12, 1, 0, 1, [], .iconst 1),
  (0, 13, 1, 0, 0, [], .iadd),
  (0, 14, 1, 0, 0, [], .iconst 0),
  (0, 15, 1, 0, 0, [], .iastore),
  (0, 16, 1, 0, 0, [], .aload_n 0),
  (0, 17, 3, 0, 0, [], .getfield 92),
  (0, 20, 1, 0, 0, [], .iload_n 1),
  (0, 21, 1, 0, 2, [], .iconst 2),
  (0, 22, 1, 0, 0, [], .iadd),
  (0, 23, 1, 0, 0, [], .iconst 0),
  (0, 24, 1, 0, 0, [], .iastore),
  (0, 25, 1, 0, 0, [], .aload_n 0),
  (0, 26, 3, 0, 0, [], .getfield 92),
  (0, 29, 1, 0, 0, [], .iload_n 1),
  (0, 30, 1, 0, 3, [], .iconst 3),
  (0, 31, 1, 0, 0, [], .iadd),
  (0, 32, 1, 0, 0, [], .iconst 0),
  (0, 33, 1, 0, 0, [], .iastore),
  (0, 34, 1, 0, 0, [], .iload_n 2),
  (0, 35, 1, 0, 3, [], .iconst 3),
  (0, 36, 3, 40, 0, [], .if_icmp .le 4),
  (0, 39, 1, 0, 0, [], .return_),
  (0, 40, 1, 0, 0, [], .aload_n 0),
  (0, 41, 3, 0, 0, [], .invokevirtual 203),
  (0, 44, 3, 59, 0, [], .ifCond .eq 15),
  (0, 47, 1, 0, 0, [], .aload_n 0),
  (0, 48, 1, 0, 0, [], .iconst 0),
  (0, 49, 1, 0, 0, [], .aload_n 0),
  (0, 50, 3, 0, 0, [], .invokevirtual 223),
  (0, 53, 3, 0, 0, [], .invokevirtual 207),
  (0, 56, 3, 60, 0, [], .goto 4),
  (0, 59, 1, 0, (-1), [], .iconst (-1)),
  (1, 60, 1, 0, 0, [], .istore_n 3),
  (0, 61, 1, 0, 0, [], .aload_n 0),
  (0, 62, 3, 0, 0, [], .invokevirtual 203),
  (0, 65, 3, 76, 0, [], .ifCond .ne 11),
  (0, 68, 1, 0, 0, [], .aload_n 0),
  (0, 69, 1, 0, 1, [], .iconst 1),
  (0, 70, 3, 0, 0, [], .invokevirtual 162),
  (0, 73, 3, 85, 0, [], .goto 12),
  (0, 76, 1, 0, 0, [], .iload_n 3),
  (0, 77, 3, 85, 0, [], .ifCond .ge 8),
  (0, 80, 1, 0, 0, [], .aload_n 0),
  (0, 81, 1, 0, 2, [], .iconst 2),
  (0, 82, 3, 0, 0, [], .invokevirtual 162),
  (1, 85, 1, 0, 0, [], .aload_n 0),
  (0, 86, 3, 0, 0, [], .getfield 156),
  (0, 89, 3, 93, 0, [], .ifCond .le 4),
  (0, 92, 1, 0, 0, [], .return_),
  (0, 93, 1, 0, 0, [], .aload_n 0),
  (0, 94, 1, 0, 0, [], .dup),
  (0, 95, 3, 0, 0, [], .getfield 153),
  (0, 98, 1, 0, 1, [], .iconst 1),
  (0, 99, 1, 0, 0, [], .iadd),
  (0, 100, 3, 0, 0, [], .putfield 153),
  (0, 103, 1, 0, 0, [], .aload_n 0),
  (0, 104, 3, 0, 0, [], .getfield 92),
  (0, 107, 1, 0, 0, [], .iload_n 1),
  (0, 108, 1, 0, 1, [], .iconst 1),
  (0, 109, 1, 0, 0, [], .iadd),
  (0, 110, 1, 0, 0, [], .iload_n 3),
  (0, 111, 1, 0, 0, [], .iastore),
  (0, 112, 1, 0, 0, [], .iload_n 2),
  (0, 113, 3, 146, 0, [], .ifCond .ne 33),
  (0, 116, 1, 0, 0, [], .aload_n 0),
  (0, 117, 3, 0, 0, [], .getfield 92),
  (0, 120, 1, 0, 0, [], .iload_n 1),
  (0, 121, 1, 0, 2, [], .iconst 2),
  (0, 122, 1, 0, 0, [], .iadd),
  (0, 123, 1, 0, 0, [], .aload_n 0),
  (0, 124, 1, 0, 0, [], .iconst 0),
  (0, 125, 1, 0, 3, [], .iconst 3),
  (0, 126, 3, 0, 0, [], .invokevirtual 193),
  (0, 129, 1, 0, 0, [], .iastore),
  (0, 130, 1, 0, 0, [], .aload_n 0),
  (0, 131, 3, 0, 0, [], .getfield 92),
  (0, 134, 1, 0, 0, [], .iload_n 1),
  (0, 135, 1, 0, 3, [], .iconst 3),
  (0, 136, 1, 0, 0, [], .iadd),
  (0, 137, 1, 0, 0, [], .aload_n 0),
  (0, 138, 1, 0, 0, [], .iconst 0),
  (0, 139, 3, 0, 255, [], .sipush 255),
  (0, 142, 3, 0, 0, [], .invokevirtual 193),
  (0, 145, 1, 0, 0, [], .iastore),
  (0, 146, 1, 0, 0, [], .return_)]
def J_X12_readWork_85 (fu : Nat) (s : Nat) (x1 : Int32) (x2 : Int32) (x3 : Int32) (M : xM) : Option xM :=
  if (gI M 12 s 8) ≤ 0 then
    let M_1 := sI M 12 s 7 ((gI M 12 s 7) + 1)
    (gR M_1 12 s 14).bind fun a_2 =>
    gd (xin (x1 + 1) (gN M_1 20 a_2)) <|
    let M_3 := sI M_1 20 a_2 (xi (x1 + 1)) x3
    if ¬ x2 = 0 then
      some M_3
    else
      (F_X12_takeNumber fu s 0 3 M_3).bind fun p_4 =>
      (gR M_3 12 s 14).bind fun a_5 =>
      gd (xin (x1 + 2) (gN p_4.2 20 a_5)) <|
      let M_6 := sI p_4.2 20 a_5 (xi (x1 + 2)) p_4.1
      (F_X12_takeNumber fu s 0 255 M_6).bind fun p_7 =>
      (gR M_6 12 s 14).bind fun a_8 =>
      gd (xin (x1 + 3) (gN p_7.2 20 a_8)) <|
      let M_9 := sI p_7.2 20 a_8 (xi (x1 + 3)) p_7.1
      some M_9
  else
    some M
set_option maxRecDepth 100000 in
theorem q_X12_readWork_85 (fu : Nat) (s : Nat) (x1 : Int32) (x2 : Int32) (x3 : Int32) (M : xM) :
    xrun pX12_readWork flX12 koX12 nwX12 [(193, 3, 0, 0, w_X12_takeNumber fu)] [] xrtV 95 (xat 85 pX12_readWork) 0 0 [(0, .inr (.inr (12, some s))), (1, .inl x1), (2, .inl x2), (3, .inl x3)] [] M = J_X12_readWork_85 fu s x1 x2 x3 M := rfl
def J_X12_readWork_60 (fu : Nat) (s : Nat) (x1 : Int32) (x2 : Int32) (y0 : Int32) (M : xM) : Option xM :=
  (F_X12_isName fu s M).bind fun p_1 =>
  if ¬ p_1.1 = 0 then
    if 0 ≤ y0 then
      J_X12_readWork_85 fu s x1 x2 y0 p_1.2
    else
      (F_X12_wrong fu s 2 p_1.2).bind fun p_2 =>
      J_X12_readWork_85 fu s x1 x2 y0 p_2
  else
    (F_X12_wrong fu s 1 p_1.2).bind fun p_3 =>
    J_X12_readWork_85 fu s x1 x2 y0 p_3
set_option maxRecDepth 100000 in
theorem q_X12_readWork_60 (fu : Nat) (s : Nat) (x1 : Int32) (x2 : Int32) (y0 : Int32) (M : xM) :
    xrun pX12_readWork flX12 koX12 nwX12 [(162, 2, 0, 0, w_X12_wrong fu), (203, 1, 0, 0, w_X12_isName fu)] [(85, fun bc bs ls st M => xz bc bs (lR ls 0 12 fun o => o.bind fun s => lI ls 1 fun x1 => lI ls 2 fun x2 => lI ls 3 fun x3 => xe st (J_X12_readWork_85 fu s x1 x2 x3 M)))] xrtV 95 (xat 60 pX12_readWork) 0 0 [(0, .inr (.inr (12, some s))), (1, .inl x1), (2, .inl x2)] [.inl y0] M = J_X12_readWork_60 fu s x1 x2 y0 M := rfl
def F_X12_readWork (fu : Nat) (s : Nat) (x1 : Int32) (x2 : Int32) (M : xM) : Option xM :=
  (gR M 12 s 14).bind fun a_1 =>
  gd (xin x1 (gN M 20 a_1)) <|
  let M_2 := sI M 20 a_1 (xi x1) x2
  (gR M_2 12 s 14).bind fun a_3 =>
  gd (xin (x1 + 1) (gN M_2 20 a_3)) <|
  let M_4 := sI M_2 20 a_3 (xi (x1 + 1)) 0
  (gR M_4 12 s 14).bind fun a_5 =>
  gd (xin (x1 + 2) (gN M_4 20 a_5)) <|
  let M_6 := sI M_4 20 a_5 (xi (x1 + 2)) 0
  (gR M_6 12 s 14).bind fun a_7 =>
  gd (xin (x1 + 3) (gN M_6 20 a_7)) <|
  let M_8 := sI M_6 20 a_7 (xi (x1 + 3)) 0
  if x2 ≤ 3 then
    (F_X12_isName fu s M_8).bind fun p_9 =>
    if p_9.1 = 0 then
      J_X12_readWork_60 fu s x1 x2 ((-1)) p_9.2
    else
      (F_X12_files fu s p_9.2).bind fun p_10 =>
      (F_X12_nameAt fu s 0 p_10.1 p_10.2).bind fun p_11 =>
      J_X12_readWork_60 fu s x1 x2 p_11.1 p_11.2
  else
    some M_8
set_option maxRecDepth 100000 in
theorem q_X12_readWork (fu : Nat) (s : Nat) (x1 : Int32) (x2 : Int32) (M : xM) :
    xrun pX12_readWork flX12 koX12 nwX12 [(203, 1, 0, 0, w_X12_isName fu), (207, 3, 0, 0, w_X12_nameAt fu), (223, 1, 0, 0, w_X12_files fu)] [(60, fun bc bs ls st M => xz bc bs (lR ls 0 12 fun o => o.bind fun s => lI ls 1 fun x1 => lI ls 2 fun x2 => pI st fun y0 st => xe st (J_X12_readWork_60 fu s x1 x2 y0 M)))] xrtV 95 (xat 0 pX12_readWork) 0 0 [(0, .inr (.inr (12, some s))), (1, .inl x1), (2, .inl x2)] [] M = F_X12_readWork fu s x1 x2 M := rfl
def w_X12_readWork (fu : Nat) {ρ : Type} (as : List xV) (M : xM) (k : Option xV → xM → Option ρ) : Option ρ := pR 12 as fun o as => o.bind fun s => pI as fun x1 as => pI as fun x2 as => xe as ((F_X12_readWork fu s x1 x2 M).bind fun p => k none p)
def pX12_remove : List xE := [(0, 0, 1, 0, 0, [], .aload_n 0),
  (0, 1, 1, 0, 0, [], .iconst 0),
  (0, 2, 3, 0, 0, [], .putfield 1),
  (0, 5, 1, 0, 0, [], .aload_n 0),
  (0, 6, 1, 0, 0, [], .iconst 0),
  (0, 7, 1, 0, 0, [], .iload_n 1),
  (0, 8, 3, 0, 0, [], .invokevirtual 386),
  (0, 11, 1, 0, 0, [], .ireturn)]
def F_X12_remove (fu : Nat) (s : Nat) (x1 : Int32) (M : xM) : Option (Int32 × xM) :=
  let M_1 := sI M 12 s 0 0
  (F_X12_removes fu s 0 x1 M_1).bind fun p_2 =>
  (some (p_2.1, p_2.2))
set_option maxRecDepth 100000 in
theorem q_X12_remove (fu : Nat) (s : Nat) (x1 : Int32) (M : xM) :
    xrun pX12_remove flX12 koX12 nwX12 [(386, 3, 0, 0, w_X12_removes fu)] [] xrtI 10 (xat 0 pX12_remove) 0 0 [(0, .inr (.inr (12, some s))), (1, .inl x1)] [] M = F_X12_remove fu s x1 M := rfl
def w_X12_remove (fu : Nat) {ρ : Type} (as : List xV) (M : xM) (k : Option xV → xM → Option ρ) : Option ρ := pR 12 as fun o as => o.bind fun s => pI as fun x1 as => xe as ((F_X12_remove fu s x1 M).bind fun p => k (some (.inl p.1)) p.2)
def pX12_rounds : List xE := [(0, 0, 1, 0, 0, [], .aload_n 0),
  (0, 1, 1, 0, 0, [], .iconst 0),
  (0, 2, 3, 0, 0, [], .putfield 1),
  (0, 5, 1, 0, 0, [], .iload_n 1),
  (0, 6, 1, 0, 0, [], .iconst 0),
  (0, 7, 2, 0, 36, [], .bipush 36),
  (0, 9, 3, 0, 0, [], .invokestatic 380),
  (0, 12, 3, 17, 0, [], .ifCond .ne 5),
  (0, 15, 1, 0, (-1), [], .iconst (-1)),
  (0, 16, 1, 0, 0, [], .ireturn),
  (0, 17, 1, 0, 0, [], .aload_n 0),
  (0, 18, 3, 0, 0, [], .invokevirtual 437),
  (0, 21, 1, 0, 0, [], .iconst 0),
  (0, 22, 1, 0, 0, [], .istore_n 2),
  (1, 23, 1, 0, 0, [], .aload_n 0),
  (0, 24, 3, 0, 1605, [], .sipush 1605),
  (0, 27, 3, 0, 0, [], .invokevirtual 326),
  (0, 30, 1, 0, 0, [], .iload_n 1),
  (0, 31, 3, 52, 0, [], .if_icmp .ge 21),
  (0, 34, 1, 0, 0, [], .aload_n 0),
  (0, 35, 3, 0, 1605, [], .sipush 1605),
  (0, 38, 3, 0, 0, [], .invokevirtual 342),
  (0, 41, 3, 46, 0, [], .ifCond .ge 5),
  (0, 44, 1, 0, (-1), [], .iconst (-1)),
  (0, 45, 1, 0, 0, [], .ireturn),
  (0, 46, 3, 0, 1, [], .iinc 2 1),
  (0, 49, 3, 23, 0, [], .goto (-26)),
  (0, 52, 1, 0, 0, [], .iload_n 2),
  (0, 53, 1, 0, 0, [], .ireturn)]
def L_X12_rounds_23 (fu : Nat) : Nat → Nat → Int32 → Int32 → xM → Option (Int32 × xM)
  | 0, _, _, _, _ => none
  | n + 1, s, x1, x2, M =>
    (F_X12_erased fu s 1605 M).bind fun p_1 =>
    if x1 ≤ p_1.1 then
      (some (x2, p_1.2))
    else
      (F_X12_collects fu s 1605 p_1.2).bind fun p_2 =>
      if 0 ≤ p_2.1 then
        L_X12_rounds_23 fu n s x1 (x2 + 1) p_2.2
      else
        (some ((-1), p_2.2))
set_option maxRecDepth 100000 in
theorem q_X12_rounds_23 (fu : Nat) (n : Nat) (s : Nat) (x1 : Int32) (x2 : Int32) (M : xM) :
    xrun pX12_rounds flX12 koX12 nwX12 [(326, 2, 0, 0, w_X12_erased fu), (342, 2, 0, 0, w_X12_collects fu)] [(23, fun bc bs ls st M => xz bc bs (lR ls 0 12 fun o => o.bind fun s => lI ls 1 fun x1 => lI ls 2 fun x2 => xe st (L_X12_rounds_23 fu n s x1 x2 M)))] xrtI 31 (xat 23 pX12_rounds) 0 0 [(0, .inr (.inr (12, some s))), (1, .inl x1), (2, .inl x2)] [] M = L_X12_rounds_23 fu (n + 1) s x1 x2 M := rfl
def F_X12_rounds (fu : Nat) (s : Nat) (x1 : Int32) (M : xM) : Option (Int32 × xM) :=
  let M_1 := sI M 12 s 0 0
  (F_X12_within fu x1 0 36 M_1).bind fun p_2 =>
  if ¬ p_2.1 = 0 then
    (F_X12_tries fu s p_2.2).bind fun p_3 =>
    L_X12_rounds_23 fu fu s x1 0 p_3
  else
    (some ((-1), p_2.2))
set_option maxRecDepth 100000 in
theorem q_X12_rounds (fu : Nat) (s : Nat) (x1 : Int32) (M : xM) :
    xrun pX12_rounds flX12 koX12 nwX12 [(380, 3, 0, 0, w_X12_within fu), (437, 1, 0, 0, w_X12_tries fu)] [(23, fun bc bs ls st M => xz bc bs (lR ls 0 12 fun o => o.bind fun s => lI ls 1 fun x1 => lI ls 2 fun x2 => xe st (L_X12_rounds_23 fu fu s x1 x2 M)))] xrtI 31 (xat 0 pX12_rounds) 0 0 [(0, .inr (.inr (12, some s))), (1, .inl x1)] [] M = F_X12_rounds fu s x1 M := rfl
def w_X12_rounds (fu : Nat) {ρ : Type} (as : List xV) (M : xM) (k : Option xV → xM → Option ρ) : Option ρ := pR 12 as fun o as => o.bind fun s => pI as fun x1 as => xe as ((F_X12_rounds fu s x1 M).bind fun p => k (some (.inl p.1)) p.2)
def pX12_says : List xE := [(0, 0, 1, 0, 0, [], .aload_n 0),
  (0, 1, 1, 0, 0, [], .iconst 0),
  (0, 2, 3, 0, 0, [], .putfield 1),
  (0, 5, 1, 0, 0, [], .aload_n 0),
  (0, 6, 1, 0, 0, [], .iload_n 1),
  (0, 7, 1, 0, 0, [], .iload_n 2),
  (0, 8, 3, 0, 0, [], .invokevirtual 345),
  (0, 11, 3, 24, 0, [], .ifCond .eq 13),
  (0, 14, 1, 0, 0, [], .aload_n 0),
  (0, 15, 1, 0, 0, [], .iconst 0),
  (0, 16, 1, 0, 0, [], .iload_n 1),
  (0, 17, 1, 0, 0, [], .iload_n 2),
  (0, 18, 3, 0, 0, [], .invokevirtual 401),
  (0, 21, 3, 25, 0, [], .goto 4),
  (0, 24, 1, 0, (-1), [], .iconst (-1)),
  (0, 25, 1, 0, 0, [], .ireturn)]
def F_X12_says (fu : Nat) (s : Nat) (x1 : Int32) (x2 : Int32) (M : xM) : Option (Int32 × xM) :=
  let M_1 := sI M 12 s 0 0
  (F_X12_isPage fu s x1 x2 M_1).bind fun p_2 =>
  if p_2.1 = 0 then
    (some ((-1), p_2.2))
  else
    (F_X12_saysOf fu s 0 x1 x2 p_2.2).bind fun p_3 =>
    (some (p_3.1, p_3.2))
set_option maxRecDepth 100000 in
theorem q_X12_says (fu : Nat) (s : Nat) (x1 : Int32) (x2 : Int32) (M : xM) :
    xrun pX12_says flX12 koX12 nwX12 [(345, 3, 0, 0, w_X12_isPage fu), (401, 4, 0, 0, w_X12_saysOf fu)] [] xrtI 18 (xat 0 pX12_says) 0 0 [(0, .inr (.inr (12, some s))), (1, .inl x1), (2, .inl x2)] [] M = F_X12_says fu s x1 x2 M := rfl
def w_X12_says (fu : Nat) {ρ : Type} (as : List xV) (M : xM) (k : Option xV → xM → Option ρ) : Option ρ := pR 12 as fun o as => o.bind fun s => pI as fun x1 as => pI as fun x2 as => xe as ((F_X12_says fu s x1 x2 M).bind fun p => k (some (.inl p.1)) p.2)
def pX12_see : List xE := [(0, 0, 1, 0, 0, [], .aload_n 0),
  (0, 1, 1, 0, 0, [], .iconst 0),
  (0, 2, 3, 0, 0, [], .putfield 1),
  (0, 5, 1, 0, 0, [], .aload_n 0),
  (0, 6, 1, 0, 0, [], .iload_n 1),
  (0, 7, 1, 0, 0, [], .iload_n 2),
  (0, 8, 3, 0, 0, [], .invokevirtual 345),
  (0, 11, 3, 38, 0, [], .ifCond .eq 27),
  (0, 14, 1, 0, 0, [], .iload_n 3),
  (0, 15, 1, 0, (-1), [], .iconst (-1)),
  (0, 16, 3, 0, 255, [], .sipush 255),
  (0, 19, 3, 0, 0, [], .invokestatic 380),
  (0, 22, 3, 38, 0, [], .ifCond .eq 16),
  (0, 25, 1, 0, 0, [], .aload_n 0),
  (0, 26, 3, 0, 0, [], .getfield 101),
  (0, 29, 3, 0, 502, [], .sipush 502),
  (0, 32, 1, 0, 0, [], .iaload),
  (0, 33, 2, 0, 8, [], .bipush 8),
  (0, 35, 3, 40, 0, [], .if_icmp .ne 5),
  (0, 38, 1, 0, 0, [], .iconst 0),
  (0, 39, 1, 0, 0, [], .ireturn),
  (0, 40, 3, 0, 503, [], .sipush 503),
  (0, 43, 1, 0, 4, [], .iconst 4),
  (0, 44, 1, 0, 0, [], .aload_n 0),
  (0, 45, 3, 0, 0, [], .getfield 101),
  (0, 48, 3, 0, 502, [], .sipush 502),
  (0, 51, 1, 0, 0, [], .iaload),
  (0, 52, 1, 0, 0, [], .imul),
  (0, 53, 1, 0, 0, [], .iadd),
  (0, 54, 2, 0, 0, [], .istore 5),
  (0, 56, 1, 0, 0, [], .aload_n 0),
  (0, 57, 3, 0, 0, [], .getfield 101),
  (0, 60, 2, 0, 0, [], .iload 5),
  (0, 62, 1, 0, 0, [], .iload_n 1),
  (0, 63, 1, 0, 0, [], .iastore),
  (0, 64, 1, 0, 0, [], .aload_n 0),
  (0, 65, 3, 0, 0, [], .getfield 101),
  (0, 68, 2, 0, 0, [], .iload 5),
  (0, 70, 1, 0, 1, [], .iconst 1),
  (0, 71, 1, 0, 0, [], .iadd),
  (0, 72, 1, 0, 0, [], .iload_n 2),
  (0, 73, 1, 0, 0, [], .iastore),
  (0, 74, 1, 0, 0, [], .aload_n 0),
  (0, 75, 3, 0, 0, [], .getfield 101),
  (0, 78, 2, 0, 0, [], .iload 5),
  (0, 80, 1, 0, 2, [], .iconst 2),
  (0, 81, 1, 0, 0, [], .iadd),
  (0, 82, 1, 0, 0, [], .iload_n 3),
  (0, 83, 1, 0, 0, [], .iastore),
  (0, 84, 1, 0, 0, [], .aload_n 0),
  (0, 85, 3, 0, 0, [], .getfield 101),
  (0, 88, 2, 0, 0, [], .iload 5),
  (0, 90, 1, 0, 3, [], .iconst 3),
  (0, 91, 1, 0, 0, [], .iadd),
  (0, 92, 2, 0, 0, [], .iload 4),
  (0, 94, 3, 101, 0, [], .ifCond .eq 7),
  (0, 97, 1, 0, 1, [], .iconst 1),
  (0, 98, 3, 102, 0, [], .goto 4),
  (0, 101, 1, 0, 0, [], .iconst 0),
  (1, 102, 1, 0, 0, [], .iastore),
  (0, 103, 1, 0, 0, [], .aload_n 0),
  (0, 104, 3, 0, 0, [], .getfield 101),
  (0, 107, 3, 0, 502, [], .sipush 502),
  (0, 110, 1, 0, 0, [], .dup2),
  (0, 111, 1, 0, 0, [], .iaload),
  (0, 112, 1, 0, 1, [], .iconst 1),
  (0, 113, 1, 0, 0, [], .iadd),
  (0, 114, 1, 0, 0, [], .iastore),
  (0, 115, 1, 0, 1, [], .iconst 1),
  (0, 116, 1, 0, 0, [], .ireturn)]
def J_X12_see_102 (fu : Nat) (s : Nat) (y0 : Int32) (y1 : Int32) (y2 : Option Nat) (M : xM) : Option (Int32 × xM) :=
  y2.bind fun a_1 =>
  gd (xin y1 (gN M 20 a_1)) <|
  let M_2 := sI M 20 a_1 (xi y1) y0
  (gR M_2 12 s 17).bind fun a_3 =>
  gd (xin 502 (gN M_2 20 a_3)) <|
  (gR M_2 12 s 17).bind fun a_4 =>
  gd (xin 502 (gN M_2 20 a_4)) <|
  let M_5 := sI M_2 20 a_4 (xi 502) ((gI M_2 20 a_3 (xi 502)) + 1)
  gd (xbool 1) (some (1, M_5))
set_option maxRecDepth 100000 in
theorem q_X12_see_102 (fu : Nat) (s : Nat) (y0 : Int32) (y1 : Int32) (y2 : Option Nat) (M : xM) :
    xrun pX12_see flX12 koX12 nwX12 [] [] xrtZ 72 (xat 102 pX12_see) 0 0 [(0, .inr (.inr (12, some s)))] [.inl y0, .inl y1, .inr (.inr (20, y2))] M = J_X12_see_102 fu s y0 y1 y2 M := rfl
def F_X12_see (fu : Nat) (s : Nat) (x1 : Int32) (x2 : Int32) (x3 : Int32) (x4 : Int32) (M : xM) : Option (Int32 × xM) :=
  let M_1 := sI M 12 s 0 0
  (F_X12_isPage fu s x1 x2 M_1).bind fun p_2 =>
  if p_2.1 = 0 then
    gd (xbool 0) (some (0, p_2.2))
  else
    (F_X12_within fu x3 ((-1)) 255 p_2.2).bind fun p_3 =>
    if p_3.1 = 0 then
      gd (xbool 0) (some (0, p_3.2))
    else
      (gR p_3.2 12 s 17).bind fun a_4 =>
      gd (xin 502 (gN p_3.2 20 a_4)) <|
      if ¬ (gI p_3.2 20 a_4 (xi 502)) = 8 then
        (gR p_3.2 12 s 17).bind fun a_5 =>
        gd (xin 502 (gN p_3.2 20 a_5)) <|
        let x5_6 : Int32 := 503 + (4 * (gI p_3.2 20 a_5 (xi 502)))
        (gR p_3.2 12 s 17).bind fun a_7 =>
        gd (xin x5_6 (gN p_3.2 20 a_7)) <|
        let M_8 := sI p_3.2 20 a_7 (xi x5_6) x1
        (gR M_8 12 s 17).bind fun a_9 =>
        gd (xin (x5_6 + 1) (gN M_8 20 a_9)) <|
        let M_10 := sI M_8 20 a_9 (xi (x5_6 + 1)) x2
        (gR M_10 12 s 17).bind fun a_11 =>
        gd (xin (x5_6 + 2) (gN M_10 20 a_11)) <|
        let M_12 := sI M_10 20 a_11 (xi (x5_6 + 2)) x3
        if x4 = 0 then
          J_X12_see_102 fu s 0 (x5_6 + 3) (gR M_12 12 s 17) M_12
        else
          J_X12_see_102 fu s 1 (x5_6 + 3) (gR M_12 12 s 17) M_12
      else
        gd (xbool 0) (some (0, p_3.2))
set_option maxRecDepth 100000 in
theorem q_X12_see (fu : Nat) (s : Nat) (x1 : Int32) (x2 : Int32) (x3 : Int32) (x4 : Int32) (M : xM) :
    xrun pX12_see flX12 koX12 nwX12 [(345, 3, 0, 0, w_X12_isPage fu), (380, 3, 0, 0, w_X12_within fu)] [(102, fun bc bs ls st M => xz bc bs (lR ls 0 12 fun o => o.bind fun s => pI st fun y0 st => pI st fun y1 st => pR 20 st fun y2 st => xe st (J_X12_see_102 fu s y0 y1 y2 M)))] xrtZ 72 (xat 0 pX12_see) 0 0 [(0, .inr (.inr (12, some s))), (1, .inl x1), (2, .inl x2), (3, .inl x3), (4, .inl x4)] [] M = F_X12_see fu s x1 x2 x3 x4 M := rfl
def w_X12_see (fu : Nat) {ρ : Type} (as : List xV) (M : xM) (k : Option xV → xM → Option ρ) : Option ρ := pR 12 as fun o as => o.bind fun s => pI as fun x1 as => pI as fun x2 as => pI as fun x3 as => pI as fun x4 as => xe as ((F_X12_see fu s x1 x2 x3 x4 M).bind fun p => k (some (.inl p.1)) p.2)
def pX12_slot : List xE := [(0, 0, 1, 0, 0, [], .aload_n 0),
  (0, 1, 1, 0, 0, [], .iconst 0),
  (0, 2, 3, 0, 0, [], .putfield 1),
  (0, 5, 1, 0, 0, [], .iload_n 1),
  (0, 6, 1, 0, 0, [], .iconst 0),
  (0, 7, 1, 0, 0, [], .aload_n 0),
  (0, 8, 3, 0, 0, [], .invokevirtual 277),
  (0, 11, 1, 0, 1, [], .iconst 1),
  (0, 12, 1, 0, 0, [], .isub),
  (0, 13, 3, 0, 0, [], .invokestatic 380),
  (0, 16, 3, 28, 0, [], .ifCond .eq 12),
  (0, 19, 1, 0, 0, [], .iload_n 2),
  (0, 20, 1, 0, 0, [], .iconst 0),
  (0, 21, 1, 0, 5, [], .iconst 5),
  (0, 22, 3, 0, 0, [], .invokestatic 380),
  (0, 25, 3, 31, 0, [], .ifCond .ne 6),
  (0, 28, 2, 0, (-2), [], .bipush (-2)),
  (0, 30, 1, 0, 0, [], .ireturn),
  (0, 31, 1, 0, 0, [], .aload_n 0),
  (0, 32, 1, 0, 0, [], .iconst 0),
  (0, 33, 1, 0, 0, [], .iload_n 1),
  (0, 34, 3, 0, 0, [], .invokevirtual 290),
  (0, 37, 1, 0, 0, [], .istore_n 3),
  (0, 38, 1, 0, 0, [], .iload_n 2),
  (0, 39, 3, 44, 0, [], .ifCond .ne 5),
  (0, 42, 1, 0, 0, [], .iload_n 3),
  (0, 43, 1, 0, 0, [], .ireturn),
  (0, 44, 1, 0, 0, [], .iload_n 2),
  (0, 45, 1, 0, 5, [], .iconst 5),
  (0, 46, 3, 69, 0, [], .if_icmp .ne 23),
  (0, 49, 1, 0, 0, [], .aload_n 0),
  (0, 50, 1, 0, 0, [], .iconst 0),
  (0, 51, 3, 0, 0, [], .invokevirtual 305),
  (0, 54, 1, 0, 0, [], .aload_n 0),
  (0, 55, 1, 0, 0, [], .iconst 0),
  (0, 56, 1, 0, 0, [], .iload_n 1),
  (0, 57, 3, 0, 0, [], .invokevirtual 308),
  (0, 60, 3, 67, 0, [], .ifCond .eq 7),
  (0, 63, 1, 0, 1, [], .iconst 1),
  (0, 64, 3, 68, 0, [], .goto 4),
  (0, 67, 1, 0, 0, [], .iconst 0),
  (0, 68, 1, 0, 0, [], .ireturn),
  (0, 69, 1, 0, 0, [], .iload_n 3),
  (0, 70, 3, 77, 0, [], .ifCond .ne 7),
  (0, 73, 1, 0, (-1), [], .iconst (-1)),
  (0, 74, 3, 89, 0, [], .goto 15),
  (0, 77, 1, 0, 0, [], .aload_n 0),
  (0, 78, 3, 0, 0, [], .getfield 101),
  (0, 81, 1, 0, 0, [], .iconst 0),
  (0, 82, 1, 0, 0, [], .iload_n 1),
  (0, 83, 3, 0, 0, [], .invokestatic 264),
  (0, 86, 1, 0, 0, [], .iload_n 2),
  (0, 87, 1, 0, 0, [], .iadd),
  (0, 88, 1, 0, 0, [], .iaload),
  (0, 89, 1, 0, 0, [], .ireturn)]
def F_X12_slot (fu : Nat) (s : Nat) (x1 : Int32) (x2 : Int32) (M : xM) : Option (Int32 × xM) :=
  let M_1 := sI M 12 s 0 0
  (F_X12_allSlots fu s M_1).bind fun p_2 =>
  (F_X12_within fu x1 0 (p_2.1 - 1) p_2.2).bind fun p_3 =>
  if p_3.1 = 0 then
    (some ((-2), p_3.2))
  else
    (F_X12_within fu x2 0 5 p_3.2).bind fun p_4 =>
    if ¬ p_4.1 = 0 then
      (F_X12_typeOf fu s 0 x1 p_4.2).bind fun p_5 =>
      if ¬ x2 = 0 then
        if ¬ x2 = 5 then
          if ¬ p_5.1 = 0 then
            (F_X12_slotAt fu 0 x1 p_5.2).bind fun p_6 =>
            (gR p_5.2 12 s 17).bind fun a_7 =>
            gd (xin (p_6.1 + x2) (gN p_6.2 20 a_7)) <|
            (some (gI p_6.2 20 a_7 (xi (p_6.1 + x2)), p_6.2))
          else
            (some ((-1), p_5.2))
        else
          (F_X12_looks fu s 0 p_5.2).bind fun p_8 =>
          (F_X12_isLive fu s 0 x1 p_8).bind fun p_9 =>
          if p_9.1 = 0 then
            (some (0, p_9.2))
          else
            (some (1, p_9.2))
      else
        (some (p_5.1, p_5.2))
    else
      (some ((-2), p_4.2))
set_option maxRecDepth 100000 in
theorem q_X12_slot (fu : Nat) (s : Nat) (x1 : Int32) (x2 : Int32) (M : xM) :
    xrun pX12_slot flX12 koX12 nwX12 [(264, 2, 0, 0, w_X12_slotAt fu), (277, 1, 0, 0, w_X12_allSlots fu), (290, 3, 0, 0, w_X12_typeOf fu), (305, 2, 0, 0, w_X12_looks fu), (308, 3, 0, 0, w_X12_isLive fu), (380, 3, 0, 0, w_X12_within fu)] [] xrtI 57 (xat 0 pX12_slot) 0 0 [(0, .inr (.inr (12, some s))), (1, .inl x1), (2, .inl x2)] [] M = F_X12_slot fu s x1 x2 M := rfl
def w_X12_slot (fu : Nat) {ρ : Type} (as : List xV) (M : xM) (k : Option xV → xM → Option ρ) : Option ρ := pR 12 as fun o as => o.bind fun s => pI as fun x1 as => pI as fun x2 as => xe as ((F_X12_slot fu s x1 x2 M).bind fun p => k (some (.inl p.1)) p.2)
def pX12_spare : List xE := [(0, 0, 1, 0, 0, [], .aload_n 0),
  (0, 1, 1, 0, 0, [], .iconst 0),
  (0, 2, 3, 0, 0, [], .putfield 1),
  (0, 5, 1, 0, 0, [], .aload_n 0),
  (0, 6, 1, 0, 0, [], .iconst 0),
  (0, 7, 3, 0, 0, [], .invokevirtual 326),
  (0, 10, 1, 0, 0, [], .aload_n 0),
  (0, 11, 1, 0, 0, [], .iconst 0),
  (0, 12, 3, 0, 0, [], .invokevirtual 323),
  (0, 15, 1, 0, 0, [], .isub),
  (0, 16, 1, 0, 0, [], .aload_n 0),
  (0, 17, 3, 0, 0, [], .getfield 83),
  (0, 20, 1, 0, 2, [], .iconst 2),
  (0, 21, 1, 0, 0, [], .iaload),
  (0, 22, 1, 0, 0, [], .isub),
  (0, 23, 1, 0, 0, [], .istore_n 1),
  (0, 24, 1, 0, 0, [], .iload_n 1),
  (0, 25, 3, 32, 0, [], .ifCond .ge 7),
  (0, 28, 1, 0, 0, [], .iconst 0),
  (0, 29, 3, 33, 0, [], .goto 4),
  (0, 32, 1, 0, 0, [], .iload_n 1),
  (0, 33, 1, 0, 0, [], .ireturn)]
def F_X12_spare (fu : Nat) (s : Nat) (M : xM) : Option (Int32 × xM) :=
  let M_1 := sI M 12 s 0 0
  (F_X12_erased fu s 0 M_1).bind fun p_2 =>
  (F_X12_partsOf fu s 0 p_2.2).bind fun p_3 =>
  (gR p_3.2 12 s 10).bind fun a_4 =>
  gd (xin 2 (gN p_3.2 20 a_4)) <|
  let x1_5 : Int32 := (p_2.1 - p_3.1) - (gI p_3.2 20 a_4 (xi 2))
  if 0 ≤ x1_5 then
    (some (x1_5, p_3.2))
  else
    (some (0, p_3.2))
set_option maxRecDepth 100000 in
theorem q_X12_spare (fu : Nat) (s : Nat) (M : xM) :
    xrun pX12_spare flX12 koX12 nwX12 [(323, 2, 0, 0, w_X12_partsOf fu), (326, 2, 0, 0, w_X12_erased fu)] [] xrtI 24 (xat 0 pX12_spare) 0 0 [(0, .inr (.inr (12, some s)))] [] M = F_X12_spare fu s M := rfl
def w_X12_spare (fu : Nat) {ρ : Type} (as : List xV) (M : xM) (k : Option xV → xM → Option ρ) : Option ρ := pR 12 as fun o as => o.bind fun s => xe as ((F_X12_spare fu s M).bind fun p => k (some (.inl p.1)) p.2)
def pX12_store : List xE := [(0, 0, 1, 0, 0, [], .aload_n 0),
  (0, 1, 1, 0, 0, [], .iconst 0),
  (0, 2, 3, 0, 0, [], .putfield 1),
  (0, 5, 1, 0, 0, [], .aload_n 0),
  (0, 6, 3, 0, 0, [], .invokevirtual 175),
  (0, 9, 1, 0, 0, [], .aload_n 0),
  (0, 10, 1, 0, 0, [], .iconst 0),
  (0, 11, 3, 0, 0, [], .putfield 178),
  (0, 14, 1, 0, 0, [], .aload_n 0),
  (0, 15, 2, 0, 20, [], .bipush 20),
  (0, 17, 3, 0, 0, [], .invokevirtual 123),
  (1, 20, 1, 0, 0, [], .aload_n 0),
  (0, 21, 3, 0, 0, [], .getfield 156),
  (0, 24, 3, 52, 0, [], .ifCond .ne 28),
  (0, 27, 1, 0, 0, [], .aload_n 0),
  (0, 28, 3, 0, 0, [], .getfield 24),
  (0, 31, 1, 0, 0, [], .aload_n 0),
  (0, 32, 3, 0, 0, [], .getfield 153),
  (0, 35, 1, 0, 0, [], .iaload),
  (0, 36, 3, 52, 0, [], .ifCond .eq 16),
  (0, 39, 1, 0, 0, [], .aload_n 0),
  (0, 40, 3, 0, 0, [], .invokevirtual 181),
  (0, 43, 1, 0, 0, [], .aload_n 0),
  (0, 44, 2, 0, 59, [], .bipush 59),
  (0, 46, 3, 0, 0, [], .invokevirtual 184),
  (0, 49, 3, 20, 0, [], .goto (-29)),
  (1, 52, 1, 0, 0, [], .aload_n 0),
  (0, 53, 3, 0, 0, [], .getfield 156),
  (0, 56, 3, 64, 0, [], .ifCond .le 8),
  (0, 59, 1, 0, 0, [], .aload_n 0),
  (0, 60, 3, 0, 0, [], .getfield 156),
  (0, 63, 1, 0, 0, [], .ireturn),
  (0, 64, 1, 0, 0, [], .iconst 0),
  (0, 65, 1, 0, 0, [], .istore_n 1),
  (1, 66, 1, 0, 0, [], .iload_n 1),
  (0, 67, 2, 0, 20, [], .bipush 20),
  (0, 69, 3, 93, 0, [], .if_icmp .ge 24),
  (0, 72, 1, 0, 0, [], .aload_n 0),
  (0, 73, 3, 0, 0, [], .getfield 83),
  (0, 76, 1, 0, 0, [], .iload_n 1),
  (0, 77, 1, 0, 0, [], .aload_n 0),
  (0, 78, 3, 0, 0, [], .getfield 83),
  (0, 81, 2, 0, 20, [], .bipush 20),
  (0, 83, 1, 0, 0, [], .iload_n 1),
  (0, 84, 1, 0, 0, [], .iadd),
  (0, 85, 1, 0, 0, [], .iaload),
  (0, 86, 1, 0, 0, [], .iastore),
  (0, 87, 3, 0, 1, [], .iinc 1 1),
  (0, 90, 3, 66, 0, [], .goto (-24)),
  (0, 93, 1, 0, 0, [], .iconst 0),
  (0, 94, 1, 0, 0, [], .istore_n 1),
  (1, 95, 1, 0, 0, [], .iload_n 1),
  (0, 96, 1, 0, 0, [], .aload_n 0),
  (0, 97, 3, 0, 0, [], .getfield 178),
  (0, 100, 3, 125, 0, [], .if_icmp .ge 25),
  (0, 103, 1, 0, 0, [], .aload_n 0),
  (0, 104, 3, 0, 0, [], .getfield 86),
  (0, 107, 1, 0, 0, [], .iload_n 1),
  (0, 108, 1, 0, 0, [], .aload_n 0),
  (0, 109, 3, 0, 0, [], .getfield 86),
  (0, 112, 3, 0, 1100, [], .sipush 1100),
  (0, 115, 1, 0, 0, [], .iload_n 1),
  (0, 116, 1, 0, 0, [], .iadd),
  (0, 117, 1, 0, 0, [], .iaload),
  (0, 118, 1, 0, 0, [], .iastore),
  (0, 119, 3, 0, 1, [], .iinc 1 1),
  (0, 122, 3, 95, 0, [], .goto (-27)),
  (0, 125, 1, 0, 0, [], .iconst 0),
  (0, 126, 1, 0, 0, [], .istore_n 1),
  (1, 127, 1, 0, 0, [], .iload_n 1),
  (0, 128, 1, 0, 5, [], .iconst 5),
  (0, 129, 3, 152, 0, [], .if_icmp .ge 23),
  (0, 132, 1, 0, 0, [], .aload_n 0),
  (0, 133, 3, 0, 0, [], .getfield 89),
  (0, 136, 1, 0, 0, [], .iload_n 1),
  (0, 137, 1, 0, 0, [], .aload_n 0),
  (0, 138, 3, 0, 0, [], .getfield 89),
  (0, 141, 1, 0, 5, [], .iconst 5),
  (0, 142, 1, 0, 0, [], .iload_n 1),
  (0, 143, 1, 0, 0, [], .iadd),
  (0, 144, 1, 0, 0, [], .laload),
  (0, 145, 1, 0, 0, [], .lastore),
  (0, 146, 3, 0, 1, [], .iinc 1 1),
  (0, 149, 3, 127, 0, [], .goto (-22)),
  (0, 152, 1, 0, 0, [], .aload_n 0),
  (0, 153, 3, 0, 0, [], .invokevirtual 127),
  (0, 156, 1, 0, 0, [], .iconst 0),
  (0, 157, 1, 0, 0, [], .ireturn)]
def L_X12_store_127 (fu : Nat) : Nat → Nat → Int32 → xM → Option (Int32 × xM)
  | 0, _, _, _ => none
  | n + 1, s, x1, M =>
    if 5 ≤ x1 then
      (F_X12_begins fu s M).bind fun p_1 =>
      (some (0, p_1))
    else
      (gR M 12 s 13).bind fun a_2 =>
      gd (xin (5 + x1) (gN M 21 a_2)) <|
      (gR M 12 s 13).bind fun a_3 =>
      gd (xin x1 (gN M 21 a_3)) <|
      let M_4 := sL M 21 a_3 (xi x1) (gL M 21 a_2 (xi (5 + x1)))
      L_X12_store_127 fu n s (x1 + 1) M_4
set_option maxRecDepth 100000 in
theorem q_X12_store_127 (fu : Nat) (n : Nat) (s : Nat) (x1 : Int32) (M : xM) :
    xrun pX12_store flX12 koX12 nwX12 [(127, 1, 0, 0, w_X12_begins fu)] [(127, fun bc bs ls st M => xz bc bs (lR ls 0 12 fun o => o.bind fun s => lI ls 1 fun x1 => xe st (L_X12_store_127 fu n s x1 M)))] xrtI 90 (xat 127 pX12_store) 0 0 [(0, .inr (.inr (12, some s))), (1, .inl x1)] [] M = L_X12_store_127 fu (n + 1) s x1 M := rfl
def L_X12_store_95 (fu : Nat) : Nat → Nat → Int32 → xM → Option (Int32 × xM)
  | 0, _, _, _ => none
  | n + 1, s, x1, M =>
    if (gI M 12 s 12) ≤ x1 then
      L_X12_store_127 fu fu s 0 M
    else
      (gR M 12 s 11).bind fun a_1 =>
      gd (xin (1100 + x1) (gN M 20 a_1)) <|
      (gR M 12 s 11).bind fun a_2 =>
      gd (xin x1 (gN M 20 a_2)) <|
      let M_3 := sI M 20 a_2 (xi x1) (gI M 20 a_1 (xi (1100 + x1)))
      L_X12_store_95 fu n s (x1 + 1) M_3
set_option maxRecDepth 100000 in
theorem q_X12_store_95 (fu : Nat) (n : Nat) (s : Nat) (x1 : Int32) (M : xM) :
    xrun pX12_store flX12 koX12 nwX12 [] [(95, fun bc bs ls st M => xz bc bs (lR ls 0 12 fun o => o.bind fun s => lI ls 1 fun x1 => xe st (L_X12_store_95 fu n s x1 M))),
    (127, fun bc bs ls st M => xz bc bs (lR ls 0 12 fun o => o.bind fun s => lI ls 1 fun x1 => xe st (L_X12_store_127 fu fu s x1 M)))] xrtI 90 (xat 95 pX12_store) 0 0 [(0, .inr (.inr (12, some s))), (1, .inl x1)] [] M = L_X12_store_95 fu (n + 1) s x1 M := rfl
def L_X12_store_66 (fu : Nat) : Nat → Nat → Int32 → xM → Option (Int32 × xM)
  | 0, _, _, _ => none
  | n + 1, s, x1, M =>
    if 20 ≤ x1 then
      L_X12_store_95 fu fu s 0 M
    else
      (gR M 12 s 10).bind fun a_1 =>
      gd (xin (20 + x1) (gN M 20 a_1)) <|
      (gR M 12 s 10).bind fun a_2 =>
      gd (xin x1 (gN M 20 a_2)) <|
      let M_3 := sI M 20 a_2 (xi x1) (gI M 20 a_1 (xi (20 + x1)))
      L_X12_store_66 fu n s (x1 + 1) M_3
set_option maxRecDepth 100000 in
theorem q_X12_store_66 (fu : Nat) (n : Nat) (s : Nat) (x1 : Int32) (M : xM) :
    xrun pX12_store flX12 koX12 nwX12 [] [(66, fun bc bs ls st M => xz bc bs (lR ls 0 12 fun o => o.bind fun s => lI ls 1 fun x1 => xe st (L_X12_store_66 fu n s x1 M))),
    (95, fun bc bs ls st M => xz bc bs (lR ls 0 12 fun o => o.bind fun s => lI ls 1 fun x1 => xe st (L_X12_store_95 fu fu s x1 M)))] xrtI 90 (xat 66 pX12_store) 0 0 [(0, .inr (.inr (12, some s))), (1, .inl x1)] [] M = L_X12_store_66 fu (n + 1) s x1 M := rfl
def J_X12_store_52 (fu : Nat) (s : Nat) (M : xM) : Option (Int32 × xM) :=
  if (gI M 12 s 8) ≤ 0 then
    L_X12_store_66 fu fu s 0 M
  else
    (some (gI M 12 s 8, M))
set_option maxRecDepth 100000 in
theorem q_X12_store_52 (fu : Nat) (s : Nat) (M : xM) :
    xrun pX12_store flX12 koX12 nwX12 [] [(66, fun bc bs ls st M => xz bc bs (lR ls 0 12 fun o => o.bind fun s => lI ls 1 fun x1 => xe st (L_X12_store_66 fu fu s x1 M)))] xrtI 90 (xat 52 pX12_store) 0 0 [(0, .inr (.inr (12, some s)))] [] M = J_X12_store_52 fu s M := rfl
def L_X12_store_20 (fu : Nat) : Nat → Nat → xM → Option (Int32 × xM)
  | 0, _, _ => none
  | n + 1, s, M =>
    if ¬ (gI M 12 s 8) = 0 then
      J_X12_store_52 fu s M
    else
      (gR M 12 s 4).bind fun a_1 =>
      gd (xin (gI M 12 s 7) (gN M 20 a_1)) <|
      if (gI M 20 a_1 (xi (gI M 12 s 7))) = 0 then
        J_X12_store_52 fu s M
      else
        (F_X12_readLine fu s M).bind fun p_2 =>
        (F_X12_takeSign fu s 59 p_2).bind fun p_3 =>
        L_X12_store_20 fu n s p_3
set_option maxRecDepth 100000 in
theorem q_X12_store_20 (fu : Nat) (n : Nat) (s : Nat) (M : xM) :
    xrun pX12_store flX12 koX12 nwX12 [(181, 1, 0, 0, w_X12_readLine fu), (184, 2, 0, 0, w_X12_takeSign fu)] [(20, fun bc bs ls st M => xz bc bs (lR ls 0 12 fun o => o.bind fun s => xe st (L_X12_store_20 fu n s M))),
    (52, fun bc bs ls st M => xz bc bs (lR ls 0 12 fun o => o.bind fun s => xe st (J_X12_store_52 fu s M)))] xrtI 90 (xat 20 pX12_store) 0 0 [(0, .inr (.inr (12, some s)))] [] M = L_X12_store_20 fu (n + 1) s M := rfl
def F_X12_store (fu : Nat) (s : Nat) (M : xM) : Option (Int32 × xM) :=
  let M_1 := sI M 12 s 0 0
  (F_X12_cutAll fu s M_1).bind fun p_2 =>
  let M_3 := sI p_2 12 s 12 0
  (F_X12_standsAsAlways fu s 20 M_3).bind fun p_4 =>
  L_X12_store_20 fu fu s p_4
set_option maxRecDepth 100000 in
theorem q_X12_store (fu : Nat) (s : Nat) (M : xM) :
    xrun pX12_store flX12 koX12 nwX12 [(123, 2, 0, 0, w_X12_standsAsAlways fu), (175, 1, 0, 0, w_X12_cutAll fu)] [(20, fun bc bs ls st M => xz bc bs (lR ls 0 12 fun o => o.bind fun s => xe st (L_X12_store_20 fu fu s M)))] xrtI 90 (xat 0 pX12_store) 0 0 [(0, .inr (.inr (12, some s)))] [] M = F_X12_store fu s M := rfl
def w_X12_store (fu : Nat) {ρ : Type} (as : List xV) (M : xM) (k : Option xV → xM → Option ρ) : Option ρ := pR 12 as fun o as => o.bind fun s => xe as ((F_X12_store fu s M).bind fun p => k (some (.inl p.1)) p.2)
def pX12_thrown : List xE := [(0, 0, 1, 0, 0, [], .aload_n 0),
  (0, 1, 3, 0, 0, [], .getfield 1),
  (0, 4, 1, 0, 0, [], .ireturn)]
def F_X12_thrown (fu : Nat) (s : Nat) (M : xM) : Option (Int32 × xM) :=
  (some (gI M 12 s 0, M))
set_option maxRecDepth 100000 in
theorem q_X12_thrown (fu : Nat) (s : Nat) (M : xM) :
    xrun pX12_thrown flX12 koX12 nwX12 [] [] xrtI 5 (xat 0 pX12_thrown) 0 0 [(0, .inr (.inr (12, some s)))] [] M = F_X12_thrown fu s M := rfl
def w_X12_thrown (fu : Nat) {ρ : Type} (as : List xV) (M : xM) (k : Option xV → xM → Option ρ) : Option ρ := pR 12 as fun o as => o.bind fun s => xe as ((F_X12_thrown fu s M).bind fun p => k (some (.inl p.1)) p.2)
def pX12_wear : List xE := [(0, 0, 1, 0, 0, [], .aload_n 0),
  (0, 1, 1, 0, 0, [], .iconst 0),
  (0, 2, 3, 0, 0, [], .putfield 1),
  (0, 5, 1, 0, 0, [], .iconst 0),
  (0, 6, 1, 0, 0, [], .istore_n 1),
  (0, 7, 3, 0, 0, [], .ldc_w 443),
  (0, 10, 1, 0, 0, [], .istore_n 2),
  (0, 11, 1, 0, 0, [], .iconst 0),
  (0, 12, 1, 0, 0, [], .istore_n 3),
  (1, 13, 1, 0, 0, [], .iload_n 3),
  (0, 14, 1, 0, 0, [], .aload_n 0),
  (0, 15, 3, 0, 0, [], .invokevirtual 252),
  (0, 18, 3, 81, 0, [], .if_icmp .ge 63),
  (0, 21, 1, 0, 0, [], .aload_n 0),
  (0, 22, 3, 0, 0, [], .getfield 101),
  (0, 25, 2, 0, 8, [], .bipush 8),
  (0, 27, 1, 0, 0, [], .iload_n 3),
  (0, 28, 1, 0, 0, [], .iadd),
  (0, 29, 1, 0, 0, [], .iaload),
  (0, 30, 1, 0, 0, [], .iload_n 1),
  (0, 31, 3, 46, 0, [], .if_icmp .le 15),
  (0, 34, 1, 0, 0, [], .aload_n 0),
  (0, 35, 3, 0, 0, [], .getfield 101),
  (0, 38, 2, 0, 8, [], .bipush 8),
  (0, 40, 1, 0, 0, [], .iload_n 3),
  (0, 41, 1, 0, 0, [], .iadd),
  (0, 42, 1, 0, 0, [], .iaload),
  (0, 43, 3, 47, 0, [], .goto 4),
  (0, 46, 1, 0, 0, [], .iload_n 1),
  (1, 47, 1, 0, 0, [], .istore_n 1),
  (0, 48, 1, 0, 0, [], .aload_n 0),
  (0, 49, 3, 0, 0, [], .getfield 101),
  (0, 52, 2, 0, 8, [], .bipush 8),
  (0, 54, 1, 0, 0, [], .iload_n 3),
  (0, 55, 1, 0, 0, [], .iadd),
  (0, 56, 1, 0, 0, [], .iaload),
  (0, 57, 1, 0, 0, [], .iload_n 2),
  (0, 58, 3, 73, 0, [], .if_icmp .ge 15),
  (0, 61, 1, 0, 0, [], .aload_n 0),
  (0, 62, 3, 0, 0, [], .getfield 101),
  (0, 65, 2, 0, 8, [], .bipush 8),
  (0, 67, 1, 0, 0, [], .iload_n 3),
  (0, 68, 1, 0, 0, [], .iadd),
  (0, 69, 1, 0, 0, [], .iaload),
  (0, 70, 3, 74, 0, [], .goto 4),
  (0, 73, 1, 0, 0, [], .iload_n 2),
  (0, 74, 1, 0, 0, [], .istore_n 2),
  (0, 75, 3, 0, 1, [], .iinc 3 1),
  (0, 78, 3, 13, 0, [], .goto (-65)),
  (0, 81, 1, 0, 0, [], .aload_n 0),
  (0, 82, 3, 0, 0, [], .invokevirtual 252),
  (0, 85, 3, 92, 0, [], .ifCond .ne 7),
  (0, 88, 1, 0, 0, [], .iconst 0),
  (0, 89, 3, 95, 0, [], .goto 6),
  (0, 92, 1, 0, 0, [], .iload_n 1),
  (0, 93, 1, 0, 0, [], .iload_n 2),
  (0, 94, 1, 0, 0, [], .isub),
  (0, 95, 1, 0, 0, [], .ireturn)]
def J_X12_wear_47 (fu : Nat) (k13 : Nat → Int32 → Int32 → Int32 → xM → Option (Int32 × xM)) (s : Nat) (x2 : Int32) (x3 : Int32) (y0 : Int32) (M : xM) : Option (Int32 × xM) :=
  (gR M 12 s 17).bind fun a_1 =>
  gd (xin (8 + x3) (gN M 20 a_1)) <|
  if x2 ≤ (gI M 20 a_1 (xi (8 + x3))) then
    k13 s y0 x2 (x3 + 1) M
  else
    (gR M 12 s 17).bind fun a_2 =>
    gd (xin (8 + x3) (gN M 20 a_2)) <|
    let x2_3 : Int32 := gI M 20 a_2 (xi (8 + x3))
    k13 s y0 x2_3 (x3 + 1) M
set_option maxRecDepth 100000 in
theorem q_X12_wear_47 (fu : Nat) (k13 : Nat → Int32 → Int32 → Int32 → xM → Option (Int32 × xM)) (s : Nat) (x2 : Int32) (x3 : Int32) (y0 : Int32) (M : xM) :
    xrun pX12_wear flX12 koX12 nwX12 [] [(13, fun bc bs ls st M => xz bc bs (lR ls 0 12 fun o => o.bind fun s => lI ls 1 fun x1 => lI ls 2 fun x2 => lI ls 3 fun x3 => xe st (k13 s x1 x2 x3 M)))] xrtI 60 (xat 47 pX12_wear) 0 0 [(0, .inr (.inr (12, some s))), (2, .inl x2), (3, .inl x3)] [.inl y0] M = J_X12_wear_47 fu k13 s x2 x3 y0 M := rfl
def L_X12_wear_13 (fu : Nat) : Nat → Nat → Int32 → Int32 → Int32 → xM → Option (Int32 × xM)
  | 0, _, _, _, _, _ => none
  | n + 1, s, x1, x2, x3, M =>
    (F_X12_blocks fu s M).bind fun p_1 =>
    if p_1.1 ≤ x3 then
      (F_X12_blocks fu s p_1.2).bind fun p_2 =>
      if ¬ p_2.1 = 0 then
        (some (x1 - x2, p_2.2))
      else
        (some (0, p_2.2))
    else
      (gR p_1.2 12 s 17).bind fun a_3 =>
      gd (xin (8 + x3) (gN p_1.2 20 a_3)) <|
      if (gI p_1.2 20 a_3 (xi (8 + x3))) ≤ x1 then
        J_X12_wear_47 fu (L_X12_wear_13 fu n) s x2 x3 x1 p_1.2
      else
        (gR p_1.2 12 s 17).bind fun a_4 =>
        gd (xin (8 + x3) (gN p_1.2 20 a_4)) <|
        J_X12_wear_47 fu (L_X12_wear_13 fu n) s x2 x3 (gI p_1.2 20 a_4 (xi (8 + x3))) p_1.2
set_option maxRecDepth 100000 in
theorem q_X12_wear_13 (fu : Nat) (n : Nat) (s : Nat) (x1 : Int32) (x2 : Int32) (x3 : Int32) (M : xM) :
    xrun pX12_wear flX12 koX12 nwX12 [(252, 1, 0, 0, w_X12_blocks fu)] [(47, fun bc bs ls st M => xz bc bs (lR ls 0 12 fun o => o.bind fun s => lI ls 2 fun x2 => lI ls 3 fun x3 => pI st fun y0 st => xe st (J_X12_wear_47 fu (L_X12_wear_13 fu n) s x2 x3 y0 M)))] xrtI 60 (xat 13 pX12_wear) 0 0 [(0, .inr (.inr (12, some s))), (1, .inl x1), (2, .inl x2), (3, .inl x3)] [] M = L_X12_wear_13 fu (n + 1) s x1 x2 x3 M := rfl
def F_X12_wear (fu : Nat) (s : Nat) (M : xM) : Option (Int32 × xM) :=
  let M_1 := sI M 12 s 0 0
  L_X12_wear_13 fu fu s 0 1000000 0 M_1
set_option maxRecDepth 100000 in
theorem q_X12_wear (fu : Nat) (s : Nat) (M : xM) :
    xrun pX12_wear flX12 koX12 nwX12 [] [(13, fun bc bs ls st M => xz bc bs (lR ls 0 12 fun o => o.bind fun s => lI ls 1 fun x1 => lI ls 2 fun x2 => lI ls 3 fun x3 => xe st (L_X12_wear_13 fu fu s x1 x2 x3 M)))] xrtI 60 (xat 0 pX12_wear) 0 0 [(0, .inr (.inr (12, some s)))] [] M = F_X12_wear fu s M := rfl
def w_X12_wear (fu : Nat) {ρ : Type} (as : List xV) (M : xM) (k : Option xV → xM → Option ρ) : Option ρ := pR 12 as fun o as => o.bind fun s => xe as ((F_X12_wear fu s M).bind fun p => k (some (.inl p.1)) p.2)
def pX12_work : List xE := [(0, 0, 1, 0, 0, [], .aload_n 0),
  (0, 1, 1, 0, 0, [], .iconst 0),
  (0, 2, 3, 0, 0, [], .putfield 1),
  (0, 5, 1, 0, 0, [], .aload_n 0),
  (0, 6, 3, 0, 0, [], .invokevirtual 175),
  (0, 9, 1, 0, 0, [], .iconst 0),
  (0, 10, 1, 0, 0, [], .istore_n 1),
  (1, 11, 1, 0, 0, [], .aload_n 0),
  (0, 12, 3, 0, 0, [], .getfield 156),
  (0, 15, 3, 98, 0, [], .ifCond .ne 83),
  (0, 18, 1, 0, 0, [], .aload_n 0),
  (0, 19, 3, 0, 0, [], .getfield 24),
  (0, 22, 1, 0, 0, [], .aload_n 0),
  (0, 23, 3, 0, 0, [], .getfield 153),
  (0, 26, 1, 0, 0, [], .iaload),
  (0, 27, 3, 98, 0, [], .ifCond .eq 71),
  (0, 30, 1, 0, 0, [], .aload_n 0),
  (0, 31, 2, 0, 6, [], .bipush 6),
  (0, 33, 2, 0, 6, [], .bipush 6),
  (0, 35, 3, 0, 0, [], .invokevirtual 171),
  (0, 38, 1, 0, 0, [], .istore_n 2),
  (0, 39, 1, 0, 0, [], .iload_n 2),
  (0, 40, 3, 51, 0, [], .ifCond .ge 11),
  (0, 43, 1, 0, 0, [], .aload_n 0),
  (0, 44, 1, 0, 1, [], .iconst 1),
  (0, 45, 3, 0, 0, [], .invokevirtual 162),
  (0, 48, 3, 89, 0, [], .goto 41),
  (0, 51, 1, 0, 0, [], .iload_n 1),
  (0, 52, 2, 0, 24, [], .bipush 24),
  (0, 54, 3, 65, 0, [], .if_icmp .ne 11),
  (0, 57, 1, 0, 0, [], .aload_n 0),
  (0, 58, 1, 0, 5, [], .iconst 5),
  (0, 59, 3, 0, 0, [], .invokevirtual 162),
  (0, 62, 3, 89, 0, [], .goto 27),
  (0, 65, 1, 0, 0, [], .aload_n 0),
  (0, 66, 1, 0, 0, [], .dup),
  (0, 67, 3, 0, 0, [], .getfield 153),
  (0, 70, 1, 0, 1, [], .iconst 1),
  (0, 71, 1, 0, 0, [], .iadd),
  (0, 72, 3, 0, 0, [], .putfield 153),
  (0, 75, 1, 0, 0, [], .aload_n 0),
  (0, 76, 2, 0, 100, [], .bipush 100),
  (0, 78, 1, 0, 4, [], .iconst 4),
  (0, 79, 1, 0, 0, [], .iload_n 1),
  (0, 80, 1, 0, 0, [], .imul),
  (0, 81, 1, 0, 0, [], .iadd),
  (0, 82, 1, 0, 0, [], .iload_n 2),
  (0, 83, 3, 0, 0, [], .invokevirtual 216),
  (0, 86, 3, 0, 1, [], .iinc 1 1),
  (0, 89, 1, 0, 0, [], .aload_n 0),
  (0, 90, 2, 0, 59, [], .bipush 59),
  (0, 92, 3, 0, 0, [], .invokevirtual 184),
  (0, 95, 3, 11, 0, [], .goto (-84)),
  (1, 98, 1, 0, 0, [], .aload_n 0),
  (0, 99, 3, 0, 0, [], .getfield 156),
  (0, 102, 3, 110, 0, [], .ifCond .le 8),
  (0, 105, 1, 0, 0, [], .aload_n 0),
  (0, 106, 3, 0, 0, [], .getfield 156),
  (0, 109, 1, 0, 0, [], .ireturn),
  (0, 110, 1, 0, 0, [], .aload_n 0),
  (0, 111, 3, 0, 0, [], .getfield 92),
  (0, 114, 1, 0, 0, [], .iconst 0),
  (0, 115, 1, 0, 0, [], .iload_n 1),
  (0, 116, 1, 0, 0, [], .iastore),
  (0, 117, 1, 0, 0, [], .iconst 0),
  (0, 118, 1, 0, 0, [], .istore_n 2),
  (1, 119, 1, 0, 0, [], .iload_n 2),
  (0, 120, 1, 0, 4, [], .iconst 4),
  (0, 121, 1, 0, 0, [], .iload_n 1),
  (0, 122, 1, 0, 0, [], .imul),
  (0, 123, 3, 149, 0, [], .if_icmp .ge 26),
  (0, 126, 1, 0, 0, [], .aload_n 0),
  (0, 127, 3, 0, 0, [], .getfield 92),
  (0, 130, 1, 0, 1, [], .iconst 1),
  (0, 131, 1, 0, 0, [], .iload_n 2),
  (0, 132, 1, 0, 0, [], .iadd),
  (0, 133, 1, 0, 0, [], .aload_n 0),
  (0, 134, 3, 0, 0, [], .getfield 92),
  (0, 137, 2, 0, 100, [], .bipush 100),
  (0, 139, 1, 0, 0, [], .iload_n 2),
  (0, 140, 1, 0, 0, [], .iadd),
  (0, 141, 1, 0, 0, [], .iaload),
  (0, 142, 1, 0, 0, [], .iastore),
  (0, 143, 3, 0, 1, [], .iinc 2 1),
  (0, 146, 3, 119, 0, [], .goto (-27)),
  (0, 149, 1, 0, 0, [], .aload_n 0),
  (0, 150, 1, 0, 0, [], .iconst 0),
  (0, 151, 3, 0, 0, [], .putfield 219),
  (0, 154, 1, 0, 0, [], .iconst 0),
  (0, 155, 1, 0, 0, [], .ireturn)]
def L_X12_work_119 (fu : Nat) : Nat → Nat → Int32 → Int32 → xM → Option (Int32 × xM)
  | 0, _, _, _, _ => none
  | n + 1, s, x1, x2, M =>
    if (4 * x1) ≤ x2 then
      gd (xbool 0) <|
      let M_1 := sI M 12 s 26 0
      (some (0, M_1))
    else
      (gR M 12 s 14).bind fun a_2 =>
      gd (xin (100 + x2) (gN M 20 a_2)) <|
      (gR M 12 s 14).bind fun a_3 =>
      gd (xin (1 + x2) (gN M 20 a_3)) <|
      let M_4 := sI M 20 a_3 (xi (1 + x2)) (gI M 20 a_2 (xi (100 + x2)))
      L_X12_work_119 fu n s x1 (x2 + 1) M_4
set_option maxRecDepth 100000 in
theorem q_X12_work_119 (fu : Nat) (n : Nat) (s : Nat) (x1 : Int32) (x2 : Int32) (M : xM) :
    xrun pX12_work flX12 koX12 nwX12 [] [(119, fun bc bs ls st M => xz bc bs (lR ls 0 12 fun o => o.bind fun s => lI ls 1 fun x1 => lI ls 2 fun x2 => xe st (L_X12_work_119 fu n s x1 x2 M)))] xrtI 92 (xat 119 pX12_work) 0 0 [(0, .inr (.inr (12, some s))), (1, .inl x1), (2, .inl x2)] [] M = L_X12_work_119 fu (n + 1) s x1 x2 M := rfl
def J_X12_work_98 (fu : Nat) (s : Nat) (x1 : Int32) (M : xM) : Option (Int32 × xM) :=
  if (gI M 12 s 8) ≤ 0 then
    (gR M 12 s 14).bind fun a_1 =>
    gd (xin 0 (gN M 20 a_1)) <|
    let M_2 := sI M 20 a_1 (xi 0) x1
    L_X12_work_119 fu fu s x1 0 M_2
  else
    (some (gI M 12 s 8, M))
set_option maxRecDepth 100000 in
theorem q_X12_work_98 (fu : Nat) (s : Nat) (x1 : Int32) (M : xM) :
    xrun pX12_work flX12 koX12 nwX12 [] [(119, fun bc bs ls st M => xz bc bs (lR ls 0 12 fun o => o.bind fun s => lI ls 1 fun x1 => lI ls 2 fun x2 => xe st (L_X12_work_119 fu fu s x1 x2 M)))] xrtI 92 (xat 98 pX12_work) 0 0 [(0, .inr (.inr (12, some s))), (1, .inl x1)] [] M = J_X12_work_98 fu s x1 M := rfl
def L_X12_work_11 (fu : Nat) : Nat → Nat → Int32 → xM → Option (Int32 × xM)
  | 0, _, _, _ => none
  | n + 1, s, x1, M =>
    if ¬ (gI M 12 s 8) = 0 then
      J_X12_work_98 fu s x1 M
    else
      (gR M 12 s 4).bind fun a_1 =>
      gd (xin (gI M 12 s 7) (gN M 20 a_1)) <|
      if (gI M 20 a_1 (xi (gI M 12 s 7))) = 0 then
        J_X12_work_98 fu s x1 M
      else
        (F_X12_wordHere fu s 6 6 M).bind fun p_2 =>
        if 0 ≤ p_2.1 then
          if ¬ x1 = 24 then
            let M_3 := sI p_2.2 12 s 7 ((gI p_2.2 12 s 7) + 1)
            (F_X12_readWork fu s (100 + (4 * x1)) p_2.1 M_3).bind fun p_4 =>
            (F_X12_takeSign fu s 59 p_4).bind fun p_5 =>
            L_X12_work_11 fu n s (x1 + 1) p_5
          else
            (F_X12_wrong fu s 5 p_2.2).bind fun p_6 =>
            (F_X12_takeSign fu s 59 p_6).bind fun p_7 =>
            L_X12_work_11 fu n s x1 p_7
        else
          (F_X12_wrong fu s 1 p_2.2).bind fun p_8 =>
          (F_X12_takeSign fu s 59 p_8).bind fun p_9 =>
          L_X12_work_11 fu n s x1 p_9
set_option maxRecDepth 100000 in
theorem q_X12_work_11 (fu : Nat) (n : Nat) (s : Nat) (x1 : Int32) (M : xM) :
    xrun pX12_work flX12 koX12 nwX12 [(162, 2, 0, 0, w_X12_wrong fu), (171, 3, 0, 0, w_X12_wordHere fu), (184, 2, 0, 0, w_X12_takeSign fu), (216, 3, 0, 0, w_X12_readWork fu)] [(11, fun bc bs ls st M => xz bc bs (lR ls 0 12 fun o => o.bind fun s => lI ls 1 fun x1 => xe st (L_X12_work_11 fu n s x1 M))),
    (98, fun bc bs ls st M => xz bc bs (lR ls 0 12 fun o => o.bind fun s => lI ls 1 fun x1 => xe st (J_X12_work_98 fu s x1 M)))] xrtI 92 (xat 11 pX12_work) 0 0 [(0, .inr (.inr (12, some s))), (1, .inl x1)] [] M = L_X12_work_11 fu (n + 1) s x1 M := rfl
def F_X12_work (fu : Nat) (s : Nat) (M : xM) : Option (Int32 × xM) :=
  let M_1 := sI M 12 s 0 0
  (F_X12_cutAll fu s M_1).bind fun p_2 =>
  L_X12_work_11 fu fu s 0 p_2
set_option maxRecDepth 100000 in
theorem q_X12_work (fu : Nat) (s : Nat) (M : xM) :
    xrun pX12_work flX12 koX12 nwX12 [(175, 1, 0, 0, w_X12_cutAll fu)] [(11, fun bc bs ls st M => xz bc bs (lR ls 0 12 fun o => o.bind fun s => lI ls 1 fun x1 => xe st (L_X12_work_11 fu fu s x1 M)))] xrtI 92 (xat 0 pX12_work) 0 0 [(0, .inr (.inr (12, some s)))] [] M = F_X12_work fu s M := rfl
def w_X12_work (fu : Nat) {ρ : Type} (as : List xV) (M : xM) (k : Option xV → xM → Option ρ) : Option ρ := pR 12 as fun o as => o.bind fun s => xe as ((F_X12_work fu s M).bind fun p => k (some (.inl p.1)) p.2)
def pX12_write : List xE := [(0, 0, 1, 0, 0, [], .aload_n 0),
  (0, 1, 1, 0, 0, [], .iconst 0),
  (0, 2, 3, 0, 0, [], .putfield 1),
  (0, 5, 1, 0, 0, [], .iload_n 3),
  (0, 6, 1, 0, 0, [], .iconst 0),
  (0, 7, 3, 0, 255, [], .sipush 255),
  (0, 10, 3, 0, 0, [], .invokestatic 380),
  (0, 13, 3, 27, 0, [], .ifCond .eq 14),
  (0, 16, 1, 0, 0, [], .aload_n 0),
  (0, 17, 1, 0, 0, [], .iconst 0),
  (0, 18, 1, 0, 0, [], .iload_n 1),
  (0, 19, 1, 0, 0, [], .iload_n 2),
  (0, 20, 1, 0, 0, [], .iload_n 3),
  (0, 21, 3, 0, 0, [], .invokevirtual 383),
  (0, 24, 3, 28, 0, [], .goto 4),
  (0, 27, 1, 0, (-1), [], .iconst (-1)),
  (0, 28, 1, 0, 0, [], .ireturn)]
def F_X12_write (fu : Nat) (s : Nat) (x1 : Int32) (x2 : Int32) (x3 : Int32) (M : xM) : Option (Int32 × xM) :=
  let M_1 := sI M 12 s 0 0
  (F_X12_within fu x3 0 255 M_1).bind fun p_2 =>
  if p_2.1 = 0 then
    (some ((-1), p_2.2))
  else
    (F_X12_writes fu s 0 x1 x2 x3 p_2.2).bind fun p_3 =>
    (some (p_3.1, p_3.2))
set_option maxRecDepth 100000 in
theorem q_X12_write (fu : Nat) (s : Nat) (x1 : Int32) (x2 : Int32) (x3 : Int32) (M : xM) :
    xrun pX12_write flX12 koX12 nwX12 [(380, 3, 0, 0, w_X12_within fu), (383, 5, 0, 0, w_X12_writes fu)] [] xrtI 19 (xat 0 pX12_write) 0 0 [(0, .inr (.inr (12, some s))), (1, .inl x1), (2, .inl x2), (3, .inl x3)] [] M = F_X12_write fu s x1 x2 x3 M := rfl
def w_X12_write (fu : Nat) {ρ : Type} (as : List xV) (M : xM) (k : Option xV → xM → Option ρ) : Option ρ := pR 12 as fun o as => o.bind fun s => pI as fun x1 as => pI as fun x2 as => pI as fun x3 as => xe as ((F_X12_write fu s x1 x2 x3 M).bind fun p => k (some (.inl p.1)) p.2)
