/-! ===== the law, by program ===== -/
/-- the runner, with the script beside it -/
def xscr {ρ : Type} (ins : Instr) (st : List xV) (scr : Nat → Int32) (L : Nat) (go : List xV → Option ρ) (el : Option ρ) : Option ρ := match ins with
  | .iaload => pI st fun i st => pR 30 st fun o st => o.bind fun q => match Nat.beq q 5 with
    | true => gd (xin i L) (go (.inl (scr (xi i)) :: st))
    | false => none
  | .arraylength => pR 30 st fun o st => o.bind fun q => match Nat.beq q 5 with
    | true => go (.inl (Int32.ofNat L) :: st)
    | false => none
  | _ => el
def xrunL {ρ : Type} (scr : Nat → Int32) (L : Nat) (prog : List xE) (fl : xFl) (ko : List (Nat × xV)) (nw : xNw) (ca : xCa ρ) (cu : xCu ρ) (rt : Option xV → xM → Option ρ) : Nat → List xE → Nat → Nat → xLs → List xV → xM → Option ρ
  | 0, _, _, _, _, _, _ => none
  | _ + 1, [], _, _, _, _, _ => none
  | n + 1, (fg, pc, _, tgt, aux, sw, ins) :: code, bc, bs, ls, st, M => match fg with
    | 0 => xscr ins st scr L (fun st => xrunL scr L prog fl ko nw ca cu rt n code bc bs ls st M) (xexec prog fl ko nw ca rt (xrunL scr L prog fl ko nw ca cu rt n) tgt aux sw ins code bc bs ls st M)
    | _ + 1 => match xfind pc cu with
      | none => none
      | some h => h bc bs ls st M
/-- the script lies in its place -/
def lS {ρ : Type} (ls : xLs) (k : Option ρ) : Option ρ := lR ls 0 30 fun o => o.bind fun q => match Nat.beq q 5 with
  | true => k
  | false => none
def flL : xFl := []
def koL : List (Nat × xV) := [(19, .inr (.inl 4294967295))]
def nwL : xNw := [(8, 11, 14), (16, 12, 29)]
/-- lives, through the law's own hands: 1 if it throws -/
def F_L_lives (fu : Nat) (x0 : Option Nat) (x1 : Int32) (x2 : Option Nat) (M : xM) : Option (Int32 × xM) :=
  x2.bind fun a => x0.bind fun s => (gR M 11 s 6).bind fun d => (F_X2_slotOfLive fu d x1 M).bind fun p =>
    if p.1 < 0 then some (1, p.2) else gd (xin 0 (gN p.2 21 a)) (some (0, sL p.2 21 a (xi 0) (Int32.toInt64 p.1)))
def w_L_lives (fu : Nat) {ρ : Type} (as : List xV) (M : xM) (k : Option xV → xM → Option ρ) : Option ρ := pR 11 as fun x0 as => pI as fun x1 as => pR 21 as fun x2 as => xe as ((F_L_lives fu x0 x1 x2 M).bind fun p => k (some (.inl p.1)) p.2)
def pL_law : List xE := [(0, 0, 3, 0, 0, [], .new 8),
  (0, 3, 1, 0, 0, [], .dup),
  (0, 4, 3, 0, 0, [], .invokespecial 15),
  (0, 7, 1, 0, 0, [], .astore_n 1),
  (0, 8, 3, 0, 0, [], .new 16),
  (0, 11, 1, 0, 0, [], .dup),
  (0, 12, 3, 0, 0, [], .invokespecial 18),
  (0, 15, 1, 0, 0, [], .astore_n 2),
  (0, 16, 1, 0, 1, [], .iconst 1),
  (0, 17, 2, 1, 0, [], .newarray .long),
  (0, 19, 1, 0, 0, [], .astore_n 3),
  (0, 20, 1, 0, 0, [], .iconst 0),
  (0, 21, 2, 0, 0, [], .istore 4),
  (1, 23, 2, 0, 0, [], .iload 4),
  (0, 25, 1, 0, 0, [], .aload_n 0),
  (0, 26, 1, 0, 0, [], .arraylength),
  (0, 27, 2, 0, 7, [], .bipush 7),
  (0, 29, 1, 0, 0, [], .isub),
  (0, 30, 3, 1366, 0, [], .if_icmp .gt 1336),
  (0, 33, 1, 0, 0, [], .aload_n 0),
  (0, 34, 2, 0, 0, [], .iload 4),
  (0, 36, 1, 0, 0, [], .iaload),
  (0, 37, 2, 0, 63, [], .bipush 63),
  (0, 39, 1, 0, 0, [], .iand),
  (0, 40, 172, 1360, 0, [(0, 212), (1, 359), (2, 372), (3, 385), (4, 422), (5, 459), (6, 496), (7, 545), (8, 570), (9, 595), (10, 620), (11, 633), (12, 646), (13, 671), (14, 684), (15, 709), (16, 746), (17, 783), (18, 796), (19, 809), (20, 822), (21, 847), (22, 860), (23, 873), (24, 886), (25, 899), (26, 912), (27, 925), (28, 962), (29, 999), (30, 1048), (31, 1061), (32, 1074), (33, 1151), (34, 1164), (35, 1177), (36, 1233), (37, 1282), (38, 1335)], .tableswitch 1320 0 38 #[172, 319, 332, 345, 382, 419, 456, 505, 530, 555, 580, 593, 606, 631, 644, 669, 706, 743, 756, 769, 782, 807, 820, 833, 846, 859, 872, 885, 922, 959, 1008, 1021, 1034, 1111, 1124, 1137, 1193, 1242, 1295]),
  (0, 212, 1, 0, 0, [], .aload_n 1),
  (0, 213, 1, 0, 0, [], .aload_n 0),
  (0, 214, 2, 0, 0, [], .iload 4),
  (0, 216, 1, 0, 1, [], .iconst 1),
  (0, 217, 1, 0, 0, [], .iadd),
  (0, 218, 1, 0, 0, [], .iaload),
  (0, 219, 1, 0, 0, [], .i2l),
  (0, 220, 2, 0, 32, [], .bipush 32),
  (0, 222, 1, 0, 0, [], .lshl),
  (0, 223, 1, 0, 0, [], .aload_n 0),
  (0, 224, 2, 0, 0, [], .iload 4),
  (0, 226, 1, 0, 2, [], .iconst 2),
  (0, 227, 1, 0, 0, [], .iadd),
  (0, 228, 1, 0, 0, [], .iaload),
  (0, 229, 1, 0, 0, [], .i2l),
  (0, 230, 3, 0, 0, [], .ldc2_w 19),
  (0, 233, 1, 0, 0, [], .land),
  (0, 234, 1, 0, 0, [], .lor),
  (0, 235, 1, 0, 0, [], .aload_n 0),
  (0, 236, 2, 0, 0, [], .iload 4),
  (0, 238, 1, 0, 3, [], .iconst 3),
  (0, 239, 1, 0, 0, [], .iadd),
  (0, 240, 1, 0, 0, [], .iaload),
  (0, 241, 1, 0, 0, [], .i2l),
  (0, 242, 2, 0, 32, [], .bipush 32),
  (0, 244, 1, 0, 0, [], .lshl),
  (0, 245, 1, 0, 0, [], .aload_n 0),
  (0, 246, 2, 0, 0, [], .iload 4),
  (0, 248, 1, 0, 4, [], .iconst 4),
  (0, 249, 1, 0, 0, [], .iadd),
  (0, 250, 1, 0, 0, [], .iaload),
  (0, 251, 1, 0, 0, [], .i2l),
  (0, 252, 3, 0, 0, [], .ldc2_w 19),
  (0, 255, 1, 0, 0, [], .land),
  (0, 256, 1, 0, 0, [], .lor),
  (0, 257, 1, 0, 0, [], .aload_n 0),
  (0, 258, 2, 0, 0, [], .iload 4),
  (0, 260, 1, 0, 5, [], .iconst 5),
  (0, 261, 1, 0, 0, [], .iadd),
  (0, 262, 1, 0, 0, [], .iaload),
  (0, 263, 1, 0, 0, [], .i2l),
  (0, 264, 2, 0, 32, [], .bipush 32),
  (0, 266, 1, 0, 0, [], .lshl),
  (0, 267, 1, 0, 0, [], .aload_n 0),
  (0, 268, 2, 0, 0, [], .iload 4),
  (0, 270, 2, 0, 6, [], .bipush 6),
  (0, 272, 1, 0, 0, [], .iadd),
  (0, 273, 1, 0, 0, [], .iaload),
  (0, 274, 1, 0, 0, [], .i2l),
  (0, 275, 3, 0, 0, [], .ldc2_w 19),
  (0, 278, 1, 0, 0, [], .land),
  (0, 279, 1, 0, 0, [], .lor),
  (0, 280, 3, 0, 0, [], .invokevirtual 21),
  (0, 283, 1, 0, 0, [], .aload_n 2),
  (0, 284, 1, 0, 0, [], .aload_n 0),
  (0, 285, 2, 0, 0, [], .iload 4),
  (0, 287, 1, 0, 1, [], .iconst 1),
  (0, 288, 1, 0, 0, [], .iadd),
  (0, 289, 1, 0, 0, [], .iaload),
  (0, 290, 1, 0, 0, [], .i2l),
  (0, 291, 2, 0, 32, [], .bipush 32),
  (0, 293, 1, 0, 0, [], .lshl),
  (0, 294, 1, 0, 0, [], .aload_n 0),
  (0, 295, 2, 0, 0, [], .iload 4),
  (0, 297, 1, 0, 2, [], .iconst 2),
  (0, 298, 1, 0, 0, [], .iadd),
  (0, 299, 1, 0, 0, [], .iaload),
  (0, 300, 1, 0, 0, [], .i2l),
  (0, 301, 3, 0, 0, [], .ldc2_w 19),
  (0, 304, 1, 0, 0, [], .land),
  (0, 305, 1, 0, 0, [], .lor),
  (0, 306, 1, 0, 0, [], .aload_n 0),
  (0, 307, 2, 0, 0, [], .iload 4),
  (0, 309, 1, 0, 3, [], .iconst 3),
  (0, 310, 1, 0, 0, [], .iadd),
  (0, 311, 1, 0, 0, [], .iaload),
  (0, 312, 1, 0, 0, [], .i2l),
  (0, 313, 2, 0, 32, [], .bipush 32),
  (0, 315, 1, 0, 0, [], .lshl),
  (0, 316, 1, 0, 0, [], .aload_n 0),
  (0, 317, 2, 0, 0, [], .iload 4),
  (0, 319, 1, 0, 4, [], .iconst 4),
  (0, 320, 1, 0, 0, [], .iadd),
  (0, 321, 1, 0, 0, [], .iaload),
  (0, 322, 1, 0, 0, [], .i2l),
  (0, 323, 3, 0, 0, [], .ldc2_w 19),
  (0, 326, 1, 0, 0, [], .land),
  (0, 327, 1, 0, 0, [], .lor),
  (0, 328, 1, 0, 0, [], .aload_n 0),
  (0, 329, 2, 0, 0, [], .iload 4),
  (0, 331, 1, 0, 5, [], .iconst 5),
  (0, 332, 1, 0, 0, [], .iadd),
  (0, 333, 1, 0, 0, [], .iaload),
  (0, 334, 1, 0, 0, [], .i2l),
  (0, 335, 2, 0, 32, [], .bipush 32),
  (0, 337, 1, 0, 0, [], .lshl),
  (0, 338, 1, 0, 0, [], .aload_n 0),
  (0, 339, 2, 0, 0, [], .iload 4),
  (0, 341, 2, 0, 6, [], .bipush 6),
  (0, 343, 1, 0, 0, [], .iadd),
  (0, 344, 1, 0, 0, [], .iaload),
  (0, 345, 1, 0, 0, [], .i2l),
  (0, 346, 3, 0, 0, [], .ldc2_w 19),
  (0, 349, 1, 0, 0, [], .land),
  (0, 350, 1, 0, 0, [], .lor),
  (0, 351, 3, 0, 0, [], .invokevirtual 25),
  (0, 354, 3, 1360, 0, [], .if_icmp .eq 1006),
  (0, 357, 1, 0, 0, [], .iconst 0),
  (0, 358, 1, 0, 0, [], .ireturn),
  (0, 359, 1, 0, 0, [], .aload_n 1),
  (0, 360, 3, 0, 0, [], .invokevirtual 26),
  (0, 363, 1, 0, 0, [], .aload_n 2),
  (0, 364, 3, 0, 0, [], .invokevirtual 30),
  (0, 367, 3, 1360, 0, [], .if_icmp .eq 993),
  (0, 370, 1, 0, 0, [], .iconst 0),
  (0, 371, 1, 0, 0, [], .ireturn),
  (0, 372, 1, 0, 0, [], .aload_n 1),
  (0, 373, 3, 0, 0, [], .invokevirtual 31),
  (0, 376, 1, 0, 0, [], .aload_n 2),
  (0, 377, 3, 0, 0, [], .invokevirtual 34),
  (0, 380, 3, 1360, 0, [], .if_icmp .eq 980),
  (0, 383, 1, 0, 0, [], .iconst 0),
  (0, 384, 1, 0, 0, [], .ireturn),
  (0, 385, 1, 0, 0, [], .aload_n 1),
  (0, 386, 1, 0, 0, [], .aload_n 0),
  (0, 387, 2, 0, 0, [], .iload 4),
  (0, 389, 1, 0, 1, [], .iconst 1),
  (0, 390, 1, 0, 0, [], .iadd),
  (0, 391, 1, 0, 0, [], .iaload),
  (0, 392, 1, 0, 0, [], .aload_n 0),
  (0, 393, 2, 0, 0, [], .iload 4),
  (0, 395, 1, 0, 2, [], .iconst 2),
  (0, 396, 1, 0, 0, [], .iadd),
  (0, 397, 1, 0, 0, [], .iaload),
  (0, 398, 3, 0, 0, [], .invokevirtual 35),
  (0, 401, 1, 0, 0, [], .aload_n 2),
  (0, 402, 1, 0, 0, [], .aload_n 0),
  (0, 403, 2, 0, 0, [], .iload 4),
  (0, 405, 1, 0, 1, [], .iconst 1),
  (0, 406, 1, 0, 0, [], .iadd),
  (0, 407, 1, 0, 0, [], .iaload),
  (0, 408, 1, 0, 0, [], .aload_n 0),
  (0, 409, 2, 0, 0, [], .iload 4),
  (0, 411, 1, 0, 2, [], .iconst 2),
  (0, 412, 1, 0, 0, [], .iadd),
  (0, 413, 1, 0, 0, [], .iaload),
  (0, 414, 3, 0, 0, [], .invokevirtual 39),
  (0, 417, 3, 1360, 0, [], .if_icmp .eq 943),
  (0, 420, 1, 0, 0, [], .iconst 0),
  (0, 421, 1, 0, 0, [], .ireturn),
  (0, 422, 1, 0, 0, [], .aload_n 1),
  (0, 423, 1, 0, 0, [], .aload_n 0),
  (0, 424, 2, 0, 0, [], .iload 4),
  (0, 426, 1, 0, 1, [], .iconst 1),
  (0, 427, 1, 0, 0, [], .iadd),
  (0, 428, 1, 0, 0, [], .iaload),
  (0, 429, 1, 0, 0, [], .aload_n 0),
  (0, 430, 2, 0, 0, [], .iload 4),
  (0, 432, 1, 0, 2, [], .iconst 2),
  (0, 433, 1, 0, 0, [], .iadd),
  (0, 434, 1, 0, 0, [], .iaload),
  (0, 435, 3, 0, 0, [], .invokevirtual 40),
  (0, 438, 1, 0, 0, [], .aload_n 2),
  (0, 439, 1, 0, 0, [], .aload_n 0),
  (0, 440, 2, 0, 0, [], .iload 4),
  (0, 442, 1, 0, 1, [], .iconst 1),
  (0, 443, 1, 0, 0, [], .iadd),
  (0, 444, 1, 0, 0, [], .iaload),
  (0, 445, 1, 0, 0, [], .aload_n 0),
  (0, 446, 2, 0, 0, [], .iload 4),
  (0, 448, 1, 0, 2, [], .iconst 2),
  (0, 449, 1, 0, 0, [], .iadd),
  (0, 450, 1, 0, 0, [], .iaload),
  (0, 451, 3, 0, 0, [], .invokevirtual 43),
  (0, 454, 3, 1360, 0, [], .if_icmp .eq 906),
  (0, 457, 1, 0, 0, [], .iconst 0),
  (0, 458, 1, 0, 0, [], .ireturn),
  (0, 459, 1, 0, 0, [], .aload_n 1),
  (0, 460, 1, 0, 0, [], .aload_n 0),
  (0, 461, 2, 0, 0, [], .iload 4),
  (0, 463, 1, 0, 1, [], .iconst 1),
  (0, 464, 1, 0, 0, [], .iadd),
  (0, 465, 1, 0, 0, [], .iaload),
  (0, 466, 1, 0, 0, [], .aload_n 0),
  (0, 467, 2, 0, 0, [], .iload 4),
  (0, 469, 1, 0, 2, [], .iconst 2),
  (0, 470, 1, 0, 0, [], .iadd),
  (0, 471, 1, 0, 0, [], .iaload),
  (0, 472, 3, 0, 0, [], .invokevirtual 44),
  (0, 475, 1, 0, 0, [], .aload_n 2),
  (0, 476, 1, 0, 0, [], .aload_n 0),
  (0, 477, 2, 0, 0, [], .iload 4),
  (0, 479, 1, 0, 1, [], .iconst 1),
  (0, 480, 1, 0, 0, [], .iadd),
  (0, 481, 1, 0, 0, [], .iaload),
  (0, 482, 1, 0, 0, [], .aload_n 0),
  (0, 483, 2, 0, 0, [], .iload 4),
  (0, 485, 1, 0, 2, [], .iconst 2),
  (0, 486, 1, 0, 0, [], .iadd),
  (0, 487, 1, 0, 0, [], .iaload),
  (0, 488, 3, 0, 0, [], .invokevirtual 47),
  (0, 491, 3, 1360, 0, [], .if_icmp .eq 869),
  (0, 494, 1, 0, 0, [], .iconst 0),
  (0, 495, 1, 0, 0, [], .ireturn),
  (0, 496, 1, 0, 0, [], .aload_n 1),
  (0, 497, 1, 0, 0, [], .aload_n 0),
  (0, 498, 2, 0, 0, [], .iload 4),
  (0, 500, 1, 0, 1, [], .iconst 1),
  (0, 501, 1, 0, 0, [], .iadd),
  (0, 502, 1, 0, 0, [], .iaload),
  (0, 503, 1, 0, 0, [], .aload_n 0),
  (0, 504, 2, 0, 0, [], .iload 4),
  (0, 506, 1, 0, 2, [], .iconst 2),
  (0, 507, 1, 0, 0, [], .iadd),
  (0, 508, 1, 0, 0, [], .iaload),
  (0, 509, 1, 0, 0, [], .aload_n 0),
  (0, 510, 2, 0, 0, [], .iload 4),
  (0, 512, 1, 0, 3, [], .iconst 3),
  (0, 513, 1, 0, 0, [], .iadd),
  (0, 514, 1, 0, 0, [], .iaload),
  (0, 515, 3, 0, 0, [], .invokevirtual 48),
  (0, 518, 1, 0, 0, [], .aload_n 2),
  (0, 519, 1, 0, 0, [], .aload_n 0),
  (0, 520, 2, 0, 0, [], .iload 4),
  (0, 522, 1, 0, 1, [], .iconst 1),
  (0, 523, 1, 0, 0, [], .iadd),
  (0, 524, 1, 0, 0, [], .iaload),
  (0, 525, 1, 0, 0, [], .aload_n 0),
  (0, 526, 2, 0, 0, [], .iload 4),
  (0, 528, 1, 0, 2, [], .iconst 2),
  (0, 529, 1, 0, 0, [], .iadd),
  (0, 530, 1, 0, 0, [], .iaload),
  (0, 531, 1, 0, 0, [], .aload_n 0),
  (0, 532, 2, 0, 0, [], .iload 4),
  (0, 534, 1, 0, 3, [], .iconst 3),
  (0, 535, 1, 0, 0, [], .iadd),
  (0, 536, 1, 0, 0, [], .iaload),
  (0, 537, 3, 0, 0, [], .invokevirtual 52),
  (0, 540, 3, 1360, 0, [], .if_icmp .eq 820),
  (0, 543, 1, 0, 0, [], .iconst 0),
  (0, 544, 1, 0, 0, [], .ireturn),
  (0, 545, 1, 0, 0, [], .aload_n 1),
  (0, 546, 1, 0, 0, [], .aload_n 0),
  (0, 547, 2, 0, 0, [], .iload 4),
  (0, 549, 1, 0, 1, [], .iconst 1),
  (0, 550, 1, 0, 0, [], .iadd),
  (0, 551, 1, 0, 0, [], .iaload),
  (0, 552, 3, 0, 0, [], .invokevirtual 53),
  (0, 555, 1, 0, 0, [], .aload_n 2),
  (0, 556, 1, 0, 0, [], .aload_n 0),
  (0, 557, 2, 0, 0, [], .iload 4),
  (0, 559, 1, 0, 1, [], .iconst 1),
  (0, 560, 1, 0, 0, [], .iadd),
  (0, 561, 1, 0, 0, [], .iaload),
  (0, 562, 3, 0, 0, [], .invokevirtual 56),
  (0, 565, 3, 1360, 0, [], .if_icmp .eq 795),
  (0, 568, 1, 0, 0, [], .iconst 0),
  (0, 569, 1, 0, 0, [], .ireturn),
  (0, 570, 1, 0, 0, [], .aload_n 1),
  (0, 571, 1, 0, 0, [], .aload_n 0),
  (0, 572, 2, 0, 0, [], .iload 4),
  (0, 574, 1, 0, 1, [], .iconst 1),
  (0, 575, 1, 0, 0, [], .iadd),
  (0, 576, 1, 0, 0, [], .iaload),
  (0, 577, 3, 0, 0, [], .invokevirtual 57),
  (0, 580, 1, 0, 0, [], .aload_n 2),
  (0, 581, 1, 0, 0, [], .aload_n 0),
  (0, 582, 2, 0, 0, [], .iload 4),
  (0, 584, 1, 0, 1, [], .iconst 1),
  (0, 585, 1, 0, 0, [], .iadd),
  (0, 586, 1, 0, 0, [], .iaload),
  (0, 587, 3, 0, 0, [], .invokevirtual 61),
  (0, 590, 3, 1360, 0, [], .if_icmp .eq 770),
  (0, 593, 1, 0, 0, [], .iconst 0),
  (0, 594, 1, 0, 0, [], .ireturn),
  (0, 595, 1, 0, 0, [], .aload_n 1),
  (0, 596, 1, 0, 0, [], .aload_n 0),
  (0, 597, 2, 0, 0, [], .iload 4),
  (0, 599, 1, 0, 1, [], .iconst 1),
  (0, 600, 1, 0, 0, [], .iadd),
  (0, 601, 1, 0, 0, [], .iaload),
  (0, 602, 3, 0, 0, [], .invokevirtual 62),
  (0, 605, 1, 0, 0, [], .aload_n 2),
  (0, 606, 1, 0, 0, [], .aload_n 0),
  (0, 607, 2, 0, 0, [], .iload 4),
  (0, 609, 1, 0, 1, [], .iconst 1),
  (0, 610, 1, 0, 0, [], .iadd),
  (0, 611, 1, 0, 0, [], .iaload),
  (0, 612, 3, 0, 0, [], .invokevirtual 65),
  (0, 615, 3, 1360, 0, [], .if_icmp .eq 745),
  (0, 618, 1, 0, 0, [], .iconst 0),
  (0, 619, 1, 0, 0, [], .ireturn),
  (0, 620, 1, 0, 0, [], .aload_n 1),
  (0, 621, 3, 0, 0, [], .invokevirtual 66),
  (0, 624, 1, 0, 0, [], .aload_n 2),
  (0, 625, 3, 0, 0, [], .invokevirtual 69),
  (0, 628, 3, 1360, 0, [], .if_icmp .eq 732),
  (0, 631, 1, 0, 0, [], .iconst 0),
  (0, 632, 1, 0, 0, [], .ireturn),
  (0, 633, 1, 0, 0, [], .aload_n 1),
  (0, 634, 3, 0, 0, [], .invokevirtual 70),
  (0, 637, 1, 0, 0, [], .aload_n 2),
  (0, 638, 3, 0, 0, [], .invokevirtual 73),
  (0, 641, 3, 1360, 0, [], .if_icmp .eq 719),
  (0, 644, 1, 0, 0, [], .iconst 0),
  (0, 645, 1, 0, 0, [], .ireturn),
  (0, 646, 1, 0, 0, [], .aload_n 1),
  (0, 647, 1, 0, 0, [], .aload_n 0),
  (0, 648, 2, 0, 0, [], .iload 4),
  (0, 650, 1, 0, 1, [], .iconst 1),
  (0, 651, 1, 0, 0, [], .iadd),
  (0, 652, 1, 0, 0, [], .iaload),
  (0, 653, 3, 0, 0, [], .invokevirtual 74),
  (0, 656, 1, 0, 0, [], .aload_n 2),
  (0, 657, 1, 0, 0, [], .aload_n 0),
  (0, 658, 2, 0, 0, [], .iload 4),
  (0, 660, 1, 0, 1, [], .iconst 1),
  (0, 661, 1, 0, 0, [], .iadd),
  (0, 662, 1, 0, 0, [], .iaload),
  (0, 663, 3, 0, 0, [], .invokevirtual 77),
  (0, 666, 3, 1360, 0, [], .if_icmp .eq 694),
  (0, 669, 1, 0, 0, [], .iconst 0),
  (0, 670, 1, 0, 0, [], .ireturn),
  (0, 671, 1, 0, 0, [], .aload_n 1),
  (0, 672, 3, 0, 0, [], .invokevirtual 78),
  (0, 675, 1, 0, 0, [], .aload_n 2),
  (0, 676, 3, 0, 0, [], .invokevirtual 81),
  (0, 679, 3, 1360, 0, [], .if_icmp .eq 681),
  (0, 682, 1, 0, 0, [], .iconst 0),
  (0, 683, 1, 0, 0, [], .ireturn),
  (0, 684, 1, 0, 0, [], .aload_n 1),
  (0, 685, 1, 0, 0, [], .aload_n 0),
  (0, 686, 2, 0, 0, [], .iload 4),
  (0, 688, 1, 0, 1, [], .iconst 1),
  (0, 689, 1, 0, 0, [], .iadd),
  (0, 690, 1, 0, 0, [], .iaload),
  (0, 691, 3, 0, 0, [], .invokevirtual 82),
  (0, 694, 1, 0, 0, [], .aload_n 2),
  (0, 695, 1, 0, 0, [], .aload_n 0),
  (0, 696, 2, 0, 0, [], .iload 4),
  (0, 698, 1, 0, 1, [], .iconst 1),
  (0, 699, 1, 0, 0, [], .iadd),
  (0, 700, 1, 0, 0, [], .iaload),
  (0, 701, 3, 0, 0, [], .invokevirtual 85),
  (0, 704, 3, 1360, 0, [], .if_icmp .eq 656),
  (0, 707, 1, 0, 0, [], .iconst 0),
  (0, 708, 1, 0, 0, [], .ireturn),
  (0, 709, 1, 0, 0, [], .aload_n 1),
  (0, 710, 1, 0, 0, [], .aload_n 0),
  (0, 711, 2, 0, 0, [], .iload 4),
  (0, 713, 1, 0, 1, [], .iconst 1),
  (0, 714, 1, 0, 0, [], .iadd),
  (0, 715, 1, 0, 0, [], .iaload),
  (0, 716, 1, 0, 0, [], .aload_n 0),
  (0, 717, 2, 0, 0, [], .iload 4),
  (0, 719, 1, 0, 2, [], .iconst 2),
  (0, 720, 1, 0, 0, [], .iadd),
  (0, 721, 1, 0, 0, [], .iaload),
  (0, 722, 3, 0, 0, [], .invokevirtual 86),
  (0, 725, 1, 0, 0, [], .aload_n 2),
  (0, 726, 1, 0, 0, [], .aload_n 0),
  (0, 727, 2, 0, 0, [], .iload 4),
  (0, 729, 1, 0, 1, [], .iconst 1),
  (0, 730, 1, 0, 0, [], .iadd),
  (0, 731, 1, 0, 0, [], .iaload),
  (0, 732, 1, 0, 0, [], .aload_n 0),
  (0, 733, 2, 0, 0, [], .iload 4),
  (0, 735, 1, 0, 2, [], .iconst 2),
  (0, 736, 1, 0, 0, [], .iadd),
  (0, 737, 1, 0, 0, [], .iaload),
  (0, 738, 3, 0, 0, [], .invokevirtual 89),
  (0, 741, 3, 1360, 0, [], .if_icmp .eq 619),
  (0, 744, 1, 0, 0, [], .iconst 0),
  (0, 745, 1, 0, 0, [], .ireturn),
  (0, 746, 1, 0, 0, [], .aload_n 1),
  (0, 747, 1, 0, 0, [], .aload_n 0),
  (0, 748, 2, 0, 0, [], .iload 4),
  (0, 750, 1, 0, 1, [], .iconst 1),
  (0, 751, 1, 0, 0, [], .iadd),
  (0, 752, 1, 0, 0, [], .iaload),
  (0, 753, 1, 0, 0, [], .aload_n 0),
  (0, 754, 2, 0, 0, [], .iload 4),
  (0, 756, 1, 0, 2, [], .iconst 2),
  (0, 757, 1, 0, 0, [], .iadd),
  (0, 758, 1, 0, 0, [], .iaload),
  (0, 759, 3, 0, 0, [], .invokevirtual 90),
  (0, 762, 1, 0, 0, [], .aload_n 2),
  (0, 763, 1, 0, 0, [], .aload_n 0),
  (0, 764, 2, 0, 0, [], .iload 4),
  (0, 766, 1, 0, 1, [], .iconst 1),
  (0, 767, 1, 0, 0, [], .iadd),
  (0, 768, 1, 0, 0, [], .iaload),
  (0, 769, 1, 0, 0, [], .aload_n 0),
  (0, 770, 2, 0, 0, [], .iload 4),
  (0, 772, 1, 0, 2, [], .iconst 2),
  (0, 773, 1, 0, 0, [], .iadd),
  (0, 774, 1, 0, 0, [], .iaload),
  (0, 775, 3, 0, 0, [], .invokevirtual 94),
  (0, 778, 3, 1360, 0, [], .if_icmp .eq 582),
  (0, 781, 1, 0, 0, [], .iconst 0),
  (0, 782, 1, 0, 0, [], .ireturn),
  (0, 783, 1, 0, 0, [], .aload_n 1),
  (0, 784, 3, 0, 0, [], .invokevirtual 95),
  (0, 787, 1, 0, 0, [], .aload_n 2),
  (0, 788, 3, 0, 0, [], .invokevirtual 98),
  (0, 791, 3, 1360, 0, [], .if_icmp .eq 569),
  (0, 794, 1, 0, 0, [], .iconst 0),
  (0, 795, 1, 0, 0, [], .ireturn),
  (0, 796, 1, 0, 0, [], .aload_n 1),
  (0, 797, 3, 0, 0, [], .invokevirtual 99),
  (0, 800, 1, 0, 0, [], .aload_n 2),
  (0, 801, 3, 0, 0, [], .invokevirtual 102),
  (0, 804, 3, 1360, 0, [], .if_icmp .eq 556),
  (0, 807, 1, 0, 0, [], .iconst 0),
  (0, 808, 1, 0, 0, [], .ireturn),
  (0, 809, 1, 0, 0, [], .aload_n 1),
  (0, 810, 3, 0, 0, [], .invokevirtual 103),
  (0, 813, 1, 0, 0, [], .aload_n 2),
  (0, 814, 3, 0, 0, [], .invokevirtual 106),
  (0, 817, 3, 1360, 0, [], .if_icmp .eq 543),
  (0, 820, 1, 0, 0, [], .iconst 0),
  (0, 821, 1, 0, 0, [], .ireturn),
  (0, 822, 1, 0, 0, [], .aload_n 1),
  (0, 823, 1, 0, 0, [], .aload_n 0),
  (0, 824, 2, 0, 0, [], .iload 4),
  (0, 826, 1, 0, 1, [], .iconst 1),
  (0, 827, 1, 0, 0, [], .iadd),
  (0, 828, 1, 0, 0, [], .iaload),
  (0, 829, 3, 0, 0, [], .invokevirtual 107),
  (0, 832, 1, 0, 0, [], .aload_n 2),
  (0, 833, 1, 0, 0, [], .aload_n 0),
  (0, 834, 2, 0, 0, [], .iload 4),
  (0, 836, 1, 0, 1, [], .iconst 1),
  (0, 837, 1, 0, 0, [], .iadd),
  (0, 838, 1, 0, 0, [], .iaload),
  (0, 839, 3, 0, 0, [], .invokevirtual 110),
  (0, 842, 3, 1360, 0, [], .if_icmp .eq 518),
  (0, 845, 1, 0, 0, [], .iconst 0),
  (0, 846, 1, 0, 0, [], .ireturn),
  (0, 847, 1, 0, 0, [], .aload_n 1),
  (0, 848, 3, 0, 0, [], .invokevirtual 111),
  (0, 851, 1, 0, 0, [], .aload_n 2),
  (0, 852, 3, 0, 0, [], .invokevirtual 114),
  (0, 855, 3, 1360, 0, [], .if_icmp .eq 505),
  (0, 858, 1, 0, 0, [], .iconst 0),
  (0, 859, 1, 0, 0, [], .ireturn),
  (0, 860, 1, 0, 0, [], .aload_n 1),
  (0, 861, 3, 0, 0, [], .invokevirtual 115),
  (0, 864, 1, 0, 0, [], .aload_n 2),
  (0, 865, 3, 0, 0, [], .invokevirtual 119),
  (0, 868, 3, 1360, 0, [], .if_icmp .eq 492),
  (0, 871, 1, 0, 0, [], .iconst 0),
  (0, 872, 1, 0, 0, [], .ireturn),
  (0, 873, 1, 0, 0, [], .aload_n 1),
  (0, 874, 3, 0, 0, [], .invokevirtual 120),
  (0, 877, 1, 0, 0, [], .aload_n 2),
  (0, 878, 3, 0, 0, [], .invokevirtual 123),
  (0, 881, 3, 1360, 0, [], .if_icmp .eq 479),
  (0, 884, 1, 0, 0, [], .iconst 0),
  (0, 885, 1, 0, 0, [], .ireturn),
  (0, 886, 1, 0, 0, [], .aload_n 1),
  (0, 887, 3, 0, 0, [], .invokevirtual 124),
  (0, 890, 1, 0, 0, [], .aload_n 2),
  (0, 891, 3, 0, 0, [], .invokevirtual 127),
  (0, 894, 3, 1360, 0, [], .if_icmp .eq 466),
  (0, 897, 1, 0, 0, [], .iconst 0),
  (0, 898, 1, 0, 0, [], .ireturn),
  (0, 899, 1, 0, 0, [], .aload_n 1),
  (0, 900, 3, 0, 0, [], .invokevirtual 128),
  (0, 903, 1, 0, 0, [], .aload_n 2),
  (0, 904, 3, 0, 0, [], .invokevirtual 131),
  (0, 907, 3, 1360, 0, [], .if_icmp .eq 453),
  (0, 910, 1, 0, 0, [], .iconst 0),
  (0, 911, 1, 0, 0, [], .ireturn),
  (0, 912, 1, 0, 0, [], .aload_n 1),
  (0, 913, 3, 0, 0, [], .invokevirtual 132),
  (0, 916, 1, 0, 0, [], .aload_n 2),
  (0, 917, 3, 0, 0, [], .invokevirtual 135),
  (0, 920, 3, 1360, 0, [], .if_icmp .eq 440),
  (0, 923, 1, 0, 0, [], .iconst 0),
  (0, 924, 1, 0, 0, [], .ireturn),
  (0, 925, 1, 0, 0, [], .aload_n 1),
  (0, 926, 1, 0, 0, [], .aload_n 0),
  (0, 927, 2, 0, 0, [], .iload 4),
  (0, 929, 1, 0, 1, [], .iconst 1),
  (0, 930, 1, 0, 0, [], .iadd),
  (0, 931, 1, 0, 0, [], .iaload),
  (0, 932, 1, 0, 0, [], .aload_n 0),
  (0, 933, 2, 0, 0, [], .iload 4),
  (0, 935, 1, 0, 2, [], .iconst 2),
  (0, 936, 1, 0, 0, [], .iadd),
  (0, 937, 1, 0, 0, [], .iaload),
  (0, 938, 3, 0, 0, [], .invokevirtual 136),
  (0, 941, 1, 0, 0, [], .aload_n 2),
  (0, 942, 1, 0, 0, [], .aload_n 0),
  (0, 943, 2, 0, 0, [], .iload 4),
  (0, 945, 1, 0, 1, [], .iconst 1),
  (0, 946, 1, 0, 0, [], .iadd),
  (0, 947, 1, 0, 0, [], .iaload),
  (0, 948, 1, 0, 0, [], .aload_n 0),
  (0, 949, 2, 0, 0, [], .iload 4),
  (0, 951, 1, 0, 2, [], .iconst 2),
  (0, 952, 1, 0, 0, [], .iadd),
  (0, 953, 1, 0, 0, [], .iaload),
  (0, 954, 3, 0, 0, [], .invokevirtual 139),
  (0, 957, 3, 1360, 0, [], .if_icmp .eq 403),
  (0, 960, 1, 0, 0, [], .iconst 0),
  (0, 961, 1, 0, 0, [], .ireturn),
  (0, 962, 1, 0, 0, [], .aload_n 1),
  (0, 963, 1, 0, 0, [], .aload_n 0),
  (0, 964, 2, 0, 0, [], .iload 4),
  (0, 966, 1, 0, 1, [], .iconst 1),
  (0, 967, 1, 0, 0, [], .iadd),
  (0, 968, 1, 0, 0, [], .iaload),
  (0, 969, 1, 0, 0, [], .aload_n 0),
  (0, 970, 2, 0, 0, [], .iload 4),
  (0, 972, 1, 0, 2, [], .iconst 2),
  (0, 973, 1, 0, 0, [], .iadd),
  (0, 974, 1, 0, 0, [], .iaload),
  (0, 975, 3, 0, 0, [], .invokevirtual 140),
  (0, 978, 1, 0, 0, [], .aload_n 2),
  (0, 979, 1, 0, 0, [], .aload_n 0),
  (0, 980, 2, 0, 0, [], .iload 4),
  (0, 982, 1, 0, 1, [], .iconst 1),
  (0, 983, 1, 0, 0, [], .iadd),
  (0, 984, 1, 0, 0, [], .iaload),
  (0, 985, 1, 0, 0, [], .aload_n 0),
  (0, 986, 2, 0, 0, [], .iload 4),
  (0, 988, 1, 0, 2, [], .iconst 2),
  (0, 989, 1, 0, 0, [], .iadd),
  (0, 990, 1, 0, 0, [], .iaload),
  (0, 991, 3, 0, 0, [], .invokevirtual 143),
  (0, 994, 3, 1360, 0, [], .if_icmp .eq 366),
  (0, 997, 1, 0, 0, [], .iconst 0),
  (0, 998, 1, 0, 0, [], .ireturn),
  (0, 999, 1, 0, 0, [], .aload_n 1),
  (0, 1000, 1, 0, 0, [], .aload_n 0),
  (0, 1001, 2, 0, 0, [], .iload 4),
  (0, 1003, 1, 0, 1, [], .iconst 1),
  (0, 1004, 1, 0, 0, [], .iadd),
  (0, 1005, 1, 0, 0, [], .iaload),
  (0, 1006, 1, 0, 0, [], .aload_n 0),
  (0, 1007, 2, 0, 0, [], .iload 4),
  (0, 1009, 1, 0, 2, [], .iconst 2),
  (0, 1010, 1, 0, 0, [], .iadd),
  (0, 1011, 1, 0, 0, [], .iaload),
  (0, 1012, 1, 0, 0, [], .aload_n 0),
  (0, 1013, 2, 0, 0, [], .iload 4),
  (0, 1015, 1, 0, 3, [], .iconst 3),
  (0, 1016, 1, 0, 0, [], .iadd),
  (0, 1017, 1, 0, 0, [], .iaload),
  (0, 1018, 3, 0, 0, [], .invokevirtual 144),
  (0, 1021, 1, 0, 0, [], .aload_n 2),
  (0, 1022, 1, 0, 0, [], .aload_n 0),
  (0, 1023, 2, 0, 0, [], .iload 4),
  (0, 1025, 1, 0, 1, [], .iconst 1),
  (0, 1026, 1, 0, 0, [], .iadd),
  (0, 1027, 1, 0, 0, [], .iaload),
  (0, 1028, 1, 0, 0, [], .aload_n 0),
  (0, 1029, 2, 0, 0, [], .iload 4),
  (0, 1031, 1, 0, 2, [], .iconst 2),
  (0, 1032, 1, 0, 0, [], .iadd),
  (0, 1033, 1, 0, 0, [], .iaload),
  (0, 1034, 1, 0, 0, [], .aload_n 0),
  (0, 1035, 2, 0, 0, [], .iload 4),
  (0, 1037, 1, 0, 3, [], .iconst 3),
  (0, 1038, 1, 0, 0, [], .iadd),
  (0, 1039, 1, 0, 0, [], .iaload),
  (0, 1040, 3, 0, 0, [], .invokevirtual 147),
  (0, 1043, 3, 1360, 0, [], .if_icmp .eq 317),
  (0, 1046, 1, 0, 0, [], .iconst 0),
  (0, 1047, 1, 0, 0, [], .ireturn),
  (0, 1048, 1, 0, 0, [], .aload_n 1),
  (0, 1049, 3, 0, 0, [], .invokevirtual 148),
  (0, 1052, 1, 0, 0, [], .aload_n 2),
  (0, 1053, 3, 0, 0, [], .invokevirtual 151),
  (0, 1056, 3, 1360, 0, [], .if_icmp .eq 304),
  (0, 1059, 1, 0, 0, [], .iconst 0),
  (0, 1060, 1, 0, 0, [], .ireturn),
  (0, 1061, 1, 0, 0, [], .aload_n 1),
  (0, 1062, 3, 0, 0, [], .invokevirtual 152),
  (0, 1065, 1, 0, 0, [], .aload_n 2),
  (0, 1066, 3, 0, 0, [], .invokevirtual 155),
  (0, 1069, 3, 1360, 0, [], .if_icmp .eq 291),
  (0, 1072, 1, 0, 0, [], .iconst 0),
  (0, 1073, 1, 0, 0, [], .ireturn),
  (0, 1074, 1, 0, 0, [], .aload_n 1),
  (0, 1075, 1, 0, 0, [], .aload_n 0),
  (0, 1076, 2, 0, 0, [], .iload 4),
  (0, 1078, 1, 0, 1, [], .iconst 1),
  (0, 1079, 1, 0, 0, [], .iadd),
  (0, 1080, 1, 0, 0, [], .iaload),
  (0, 1081, 1, 0, 0, [], .aload_n 0),
  (0, 1082, 2, 0, 0, [], .iload 4),
  (0, 1084, 1, 0, 2, [], .iconst 2),
  (0, 1085, 1, 0, 0, [], .iadd),
  (0, 1086, 1, 0, 0, [], .iaload),
  (0, 1087, 1, 0, 0, [], .aload_n 0),
  (0, 1088, 2, 0, 0, [], .iload 4),
  (0, 1090, 1, 0, 3, [], .iconst 3),
  (0, 1091, 1, 0, 0, [], .iadd),
  (0, 1092, 1, 0, 0, [], .iaload),
  (0, 1093, 1, 0, 0, [], .aload_n 0),
  (0, 1094, 2, 0, 0, [], .iload 4),
  (0, 1096, 1, 0, 4, [], .iconst 4),
  (0, 1097, 1, 0, 0, [], .iadd),
  (0, 1098, 1, 0, 0, [], .iaload),
  (0, 1099, 3, 1106, 0, [], .ifCond .eq 7),
  (0, 1102, 1, 0, 1, [], .iconst 1),
  (0, 1103, 3, 1107, 0, [], .goto 4),
  (0, 1106, 1, 0, 0, [], .iconst 0),
  (1, 1107, 3, 0, 0, [], .invokevirtual 156),
  (0, 1110, 1, 0, 0, [], .aload_n 2),
  (0, 1111, 1, 0, 0, [], .aload_n 0),
  (0, 1112, 2, 0, 0, [], .iload 4),
  (0, 1114, 1, 0, 1, [], .iconst 1),
  (0, 1115, 1, 0, 0, [], .iadd),
  (0, 1116, 1, 0, 0, [], .iaload),
  (0, 1117, 1, 0, 0, [], .aload_n 0),
  (0, 1118, 2, 0, 0, [], .iload 4),
  (0, 1120, 1, 0, 2, [], .iconst 2),
  (0, 1121, 1, 0, 0, [], .iadd),
  (0, 1122, 1, 0, 0, [], .iaload),
  (0, 1123, 1, 0, 0, [], .aload_n 0),
  (0, 1124, 2, 0, 0, [], .iload 4),
  (0, 1126, 1, 0, 3, [], .iconst 3),
  (0, 1127, 1, 0, 0, [], .iadd),
  (0, 1128, 1, 0, 0, [], .iaload),
  (0, 1129, 1, 0, 0, [], .aload_n 0),
  (0, 1130, 2, 0, 0, [], .iload 4),
  (0, 1132, 1, 0, 4, [], .iconst 4),
  (0, 1133, 1, 0, 0, [], .iadd),
  (0, 1134, 1, 0, 0, [], .iaload),
  (0, 1135, 3, 1142, 0, [], .ifCond .eq 7),
  (0, 1138, 1, 0, 1, [], .iconst 1),
  (0, 1139, 3, 1143, 0, [], .goto 4),
  (0, 1142, 1, 0, 0, [], .iconst 0),
  (1, 1143, 3, 0, 0, [], .invokevirtual 160),
  (0, 1146, 3, 1360, 0, [], .if_icmp .eq 214),
  (0, 1149, 1, 0, 0, [], .iconst 0),
  (0, 1150, 1, 0, 0, [], .ireturn),
  (0, 1151, 1, 0, 0, [], .aload_n 1),
  (0, 1152, 3, 0, 0, [], .invokevirtual 161),
  (0, 1155, 1, 0, 0, [], .aload_n 2),
  (0, 1156, 3, 0, 0, [], .invokevirtual 164),
  (0, 1159, 3, 1360, 0, [], .if_icmp .eq 201),
  (0, 1162, 1, 0, 0, [], .iconst 0),
  (0, 1163, 1, 0, 0, [], .ireturn),
  (0, 1164, 1, 0, 0, [], .aload_n 1),
  (0, 1165, 3, 0, 0, [], .invokevirtual 165),
  (0, 1168, 1, 0, 0, [], .aload_n 2),
  (0, 1169, 3, 0, 0, [], .invokevirtual 168),
  (0, 1172, 3, 1360, 0, [], .if_icmp .eq 188),
  (0, 1175, 1, 0, 0, [], .iconst 0),
  (0, 1176, 1, 0, 0, [], .ireturn),
  (0, 1177, 1, 0, 0, [], .aload_n 1),
  (0, 1178, 1, 0, 0, [], .aload_n 0),
  (0, 1179, 2, 0, 0, [], .iload 4),
  (0, 1181, 1, 0, 1, [], .iconst 1),
  (0, 1182, 1, 0, 0, [], .iadd),
  (0, 1183, 1, 0, 0, [], .iaload),
  (0, 1184, 1, 0, 0, [], .aload_n 3),
  (0, 1185, 3, 0, 0, [], .invokestatic 169),
  (0, 1188, 2, 0, 0, [], .istore 5),
  (0, 1190, 1, 0, 0, [], .aload_n 2),
  (0, 1191, 1, 0, 0, [], .aload_n 0),
  (0, 1192, 2, 0, 0, [], .iload 4),
  (0, 1194, 1, 0, 1, [], .iconst 1),
  (0, 1195, 1, 0, 0, [], .iadd),
  (0, 1196, 1, 0, 0, [], .iaload),
  (0, 1197, 3, 0, 0, [], .invokevirtual 174),
  (0, 1200, 2, 0, 0, [], .istore 6),
  (0, 1202, 1, 0, 0, [], .aload_n 2),
  (0, 1203, 3, 0, 0, [], .invokevirtual 175),
  (0, 1206, 2, 0, 0, [], .iload 5),
  (0, 1208, 3, 1213, 0, [], .if_icmp .eq 5),
  (0, 1211, 1, 0, 0, [], .iconst 0),
  (0, 1212, 1, 0, 0, [], .ireturn),
  (0, 1213, 2, 0, 0, [], .iload 5),
  (0, 1215, 3, 1230, 0, [], .ifCond .ne 15),
  (0, 1218, 1, 0, 0, [], .aload_n 3),
  (0, 1219, 1, 0, 0, [], .iconst 0),
  (0, 1220, 1, 0, 0, [], .laload),
  (0, 1221, 2, 0, 0, [], .iload 6),
  (0, 1223, 1, 0, 0, [], .i2l),
  (0, 1224, 1, 0, 0, [], .lcmp),
  (0, 1225, 3, 1230, 0, [], .ifCond .eq 5),
  (0, 1228, 1, 0, 0, [], .iconst 0),
  (0, 1229, 1, 0, 0, [], .ireturn),
  (0, 1230, 3, 1360, 0, [], .goto 130),
  (0, 1233, 1, 0, 0, [], .aload_n 1),
  (0, 1234, 1, 0, 0, [], .aload_n 0),
  (0, 1235, 2, 0, 0, [], .iload 4),
  (0, 1237, 1, 0, 1, [], .iconst 1),
  (0, 1238, 1, 0, 0, [], .iadd),
  (0, 1239, 1, 0, 0, [], .iaload),
  (0, 1240, 1, 0, 0, [], .aload_n 0),
  (0, 1241, 2, 0, 0, [], .iload 4),
  (0, 1243, 1, 0, 2, [], .iconst 2),
  (0, 1244, 1, 0, 0, [], .iadd),
  (0, 1245, 1, 0, 0, [], .iaload),
  (0, 1246, 1, 0, 0, [], .aload_n 0),
  (0, 1247, 2, 0, 0, [], .iload 4),
  (0, 1249, 1, 0, 3, [], .iconst 3),
  (0, 1250, 1, 0, 0, [], .iadd),
  (0, 1251, 1, 0, 0, [], .iaload),
  (0, 1252, 3, 0, 0, [], .invokevirtual 178),
  (0, 1255, 1, 0, 0, [], .aload_n 2),
  (0, 1256, 1, 0, 0, [], .aload_n 0),
  (0, 1257, 2, 0, 0, [], .iload 4),
  (0, 1259, 1, 0, 1, [], .iconst 1),
  (0, 1260, 1, 0, 0, [], .iadd),
  (0, 1261, 1, 0, 0, [], .iaload),
  (0, 1262, 1, 0, 0, [], .aload_n 0),
  (0, 1263, 2, 0, 0, [], .iload 4),
  (0, 1265, 1, 0, 2, [], .iconst 2),
  (0, 1266, 1, 0, 0, [], .iadd),
  (0, 1267, 1, 0, 0, [], .iaload),
  (0, 1268, 1, 0, 0, [], .aload_n 0),
  (0, 1269, 2, 0, 0, [], .iload 4),
  (0, 1271, 1, 0, 3, [], .iconst 3),
  (0, 1272, 1, 0, 0, [], .iadd),
  (0, 1273, 1, 0, 0, [], .iaload),
  (0, 1274, 3, 0, 0, [], .invokevirtual 181),
  (0, 1277, 3, 1360, 0, [], .if_icmp .eq 83),
  (0, 1280, 1, 0, 0, [], .iconst 0),
  (0, 1281, 1, 0, 0, [], .ireturn),
  (0, 1282, 1, 0, 0, [], .aload_n 1),
  (0, 1283, 1, 0, 0, [], .aload_n 0),
  (0, 1284, 2, 0, 0, [], .iload 4),
  (0, 1286, 1, 0, 1, [], .iconst 1),
  (0, 1287, 1, 0, 0, [], .iadd),
  (0, 1288, 1, 0, 0, [], .iaload),
  (0, 1289, 1, 0, 0, [], .aload_n 0),
  (0, 1290, 2, 0, 0, [], .iload 4),
  (0, 1292, 1, 0, 2, [], .iconst 2),
  (0, 1293, 1, 0, 0, [], .iadd),
  (0, 1294, 1, 0, 0, [], .iaload),
  (0, 1295, 3, 1302, 0, [], .ifCond .eq 7),
  (0, 1298, 1, 0, 1, [], .iconst 1),
  (0, 1299, 3, 1303, 0, [], .goto 4),
  (0, 1302, 1, 0, 0, [], .iconst 0),
  (1, 1303, 3, 0, 0, [], .invokevirtual 182),
  (0, 1306, 1, 0, 0, [], .aload_n 2),
  (0, 1307, 1, 0, 0, [], .aload_n 0),
  (0, 1308, 2, 0, 0, [], .iload 4),
  (0, 1310, 1, 0, 1, [], .iconst 1),
  (0, 1311, 1, 0, 0, [], .iadd),
  (0, 1312, 1, 0, 0, [], .iaload),
  (0, 1313, 1, 0, 0, [], .aload_n 0),
  (0, 1314, 2, 0, 0, [], .iload 4),
  (0, 1316, 1, 0, 2, [], .iconst 2),
  (0, 1317, 1, 0, 0, [], .iadd),
  (0, 1318, 1, 0, 0, [], .iaload),
  (0, 1319, 3, 1326, 0, [], .ifCond .eq 7),
  (0, 1322, 1, 0, 1, [], .iconst 1),
  (0, 1323, 3, 1327, 0, [], .goto 4),
  (0, 1326, 1, 0, 0, [], .iconst 0),
  (1, 1327, 3, 0, 0, [], .invokevirtual 186),
  (0, 1330, 3, 1360, 0, [], .if_icmp .eq 30),
  (0, 1333, 1, 0, 0, [], .iconst 0),
  (0, 1334, 1, 0, 0, [], .ireturn),
  (0, 1335, 1, 0, 0, [], .aload_n 1),
  (0, 1336, 1, 0, 0, [], .aload_n 0),
  (0, 1337, 2, 0, 0, [], .iload 4),
  (0, 1339, 1, 0, 1, [], .iconst 1),
  (0, 1340, 1, 0, 0, [], .iadd),
  (0, 1341, 1, 0, 0, [], .iaload),
  (0, 1342, 3, 0, 0, [], .invokevirtual 187),
  (0, 1345, 1, 0, 0, [], .aload_n 2),
  (0, 1346, 1, 0, 0, [], .aload_n 0),
  (0, 1347, 2, 0, 0, [], .iload 4),
  (0, 1349, 1, 0, 1, [], .iconst 1),
  (0, 1350, 1, 0, 0, [], .iadd),
  (0, 1351, 1, 0, 0, [], .iaload),
  (0, 1352, 3, 0, 0, [], .invokevirtual 190),
  (0, 1355, 3, 1360, 0, [], .if_icmp .eq 5),
  (0, 1358, 1, 0, 0, [], .iconst 0),
  (0, 1359, 1, 0, 0, [], .ireturn),
  (0, 1360, 3, 0, 7, [], .iinc 4 7),
  (0, 1363, 3, 23, 0, [], .goto (-1340)),
  (0, 1366, 1, 0, 1, [], .iconst 1),
  (0, 1367, 1, 0, 0, [], .ireturn)]
def J_L_law_1327 (fu : Nat) (scr : Nat → Int32) (L : Nat) (k23 : Option Nat → Option Nat → Option Nat → Int32 → xM → Option (Int32 × xM)) (x1 : Option Nat) (x2 : Option Nat) (x3 : Option Nat) (x4 : Int32) (y0 : Int32) (y1 : Int32) (y2 : Option Nat) (y3 : Int32) (M : xM) : Option (Int32 × xM) :=
  y2.bind fun a_1 =>
  (F_X12_mark fu a_1 y1 y0 M).bind fun p_2 =>
  if y3 = p_2.1 then
    k23 x1 x2 x3 (x4 + 7) p_2.2
  else
    gd (xbool 0) (some (0, p_2.2))
set_option maxRecDepth 100000 in
theorem q_L_law_1327 (fu : Nat) (scr : Nat → Int32) (L : Nat) (k23 : Option Nat → Option Nat → Option Nat → Int32 → xM → Option (Int32 × xM)) (x1 : Option Nat) (x2 : Option Nat) (x3 : Option Nat) (x4 : Int32) (y0 : Int32) (y1 : Int32) (y2 : Option Nat) (y3 : Int32) (M : xM) :
    xrunL scr L pL_law flL koL nwL [(186, 3, 0, 0, w_X12_mark fu)] [(23, fun bc bs ls st M => (lS ls <| lR ls 1 11 fun x1 => lR ls 2 12 fun x2 => lR ls 3 21 fun x3 => lI ls 4 fun x4 => xe st (k23 x1 x2 x3 x4 M)))] xrtZ 810 (xat 1327 pL_law) 0 0 [(0, .inr (.inr (30, some 5))), (1, .inr (.inr (11, x1))), (2, .inr (.inr (12, x2))), (3, .inr (.inr (21, x3))), (4, .inl x4)] [.inl y0, .inl y1, .inr (.inr (12, y2)), .inl y3] M = J_L_law_1327 fu scr L k23 x1 x2 x3 x4 y0 y1 y2 y3 M := rfl
def J_L_law_1303 (fu : Nat) (scr : Nat → Int32) (L : Nat) (k23 : Option Nat → Option Nat → Option Nat → Int32 → xM → Option (Int32 × xM)) (x1 : Option Nat) (x2 : Option Nat) (x3 : Option Nat) (x4 : Int32) (y0 : Int32) (y1 : Int32) (y2 : Option Nat) (M : xM) : Option (Int32 × xM) :=
  y2.bind fun a_1 =>
  (F_X11_mark fu a_1 y1 y0 M).bind fun p_2 =>
  gd (xin (x4 + 1) L) <|
  gd (xin (x4 + 2) L) <|
  if (scr (xi (x4 + 2))) = 0 then
    J_L_law_1327 fu scr L k23 x1 x2 x3 x4 0 (scr (xi (x4 + 1))) x2 p_2.1 p_2.2
  else
    J_L_law_1327 fu scr L k23 x1 x2 x3 x4 1 (scr (xi (x4 + 1))) x2 p_2.1 p_2.2
set_option maxRecDepth 100000 in
theorem q_L_law_1303 (fu : Nat) (scr : Nat → Int32) (L : Nat) (k23 : Option Nat → Option Nat → Option Nat → Int32 → xM → Option (Int32 × xM)) (x1 : Option Nat) (x2 : Option Nat) (x3 : Option Nat) (x4 : Int32) (y0 : Int32) (y1 : Int32) (y2 : Option Nat) (M : xM) :
    xrunL scr L pL_law flL koL nwL [(182, 3, 0, 0, w_X11_mark fu)] [(1327, fun bc bs ls st M => (lS ls <| lR ls 1 11 fun x1 => lR ls 2 12 fun x2 => lR ls 3 21 fun x3 => lI ls 4 fun x4 => pI st fun y0 st => pI st fun y1 st => pR 12 st fun y2 st => pI st fun y3 st => xe st (J_L_law_1327 fu scr L k23 x1 x2 x3 x4 y0 y1 y2 y3 M)))] xrtZ 810 (xat 1303 pL_law) 0 0 [(0, .inr (.inr (30, some 5))), (1, .inr (.inr (11, x1))), (2, .inr (.inr (12, x2))), (3, .inr (.inr (21, x3))), (4, .inl x4)] [.inl y0, .inl y1, .inr (.inr (11, y2))] M = J_L_law_1303 fu scr L k23 x1 x2 x3 x4 y0 y1 y2 M := rfl
def J_L_law_1143 (fu : Nat) (scr : Nat → Int32) (L : Nat) (k23 : Option Nat → Option Nat → Option Nat → Int32 → xM → Option (Int32 × xM)) (x1 : Option Nat) (x2 : Option Nat) (x3 : Option Nat) (x4 : Int32) (y0 : Int32) (y1 : Int32) (y2 : Int32) (y3 : Int32) (y4 : Option Nat) (y5 : Int32) (M : xM) : Option (Int32 × xM) :=
  y4.bind fun a_1 =>
  (F_X12_see fu a_1 y3 y2 y1 y0 M).bind fun p_2 =>
  if y5 = p_2.1 then
    k23 x1 x2 x3 (x4 + 7) p_2.2
  else
    gd (xbool 0) (some (0, p_2.2))
set_option maxRecDepth 100000 in
theorem q_L_law_1143 (fu : Nat) (scr : Nat → Int32) (L : Nat) (k23 : Option Nat → Option Nat → Option Nat → Int32 → xM → Option (Int32 × xM)) (x1 : Option Nat) (x2 : Option Nat) (x3 : Option Nat) (x4 : Int32) (y0 : Int32) (y1 : Int32) (y2 : Int32) (y3 : Int32) (y4 : Option Nat) (y5 : Int32) (M : xM) :
    xrunL scr L pL_law flL koL nwL [(160, 5, 0, 0, w_X12_see fu)] [(23, fun bc bs ls st M => (lS ls <| lR ls 1 11 fun x1 => lR ls 2 12 fun x2 => lR ls 3 21 fun x3 => lI ls 4 fun x4 => xe st (k23 x1 x2 x3 x4 M)))] xrtZ 810 (xat 1143 pL_law) 0 0 [(0, .inr (.inr (30, some 5))), (1, .inr (.inr (11, x1))), (2, .inr (.inr (12, x2))), (3, .inr (.inr (21, x3))), (4, .inl x4)] [.inl y0, .inl y1, .inl y2, .inl y3, .inr (.inr (12, y4)), .inl y5] M = J_L_law_1143 fu scr L k23 x1 x2 x3 x4 y0 y1 y2 y3 y4 y5 M := rfl
def J_L_law_1107 (fu : Nat) (scr : Nat → Int32) (L : Nat) (k23 : Option Nat → Option Nat → Option Nat → Int32 → xM → Option (Int32 × xM)) (x1 : Option Nat) (x2 : Option Nat) (x3 : Option Nat) (x4 : Int32) (y0 : Int32) (y1 : Int32) (y2 : Int32) (y3 : Int32) (y4 : Option Nat) (M : xM) : Option (Int32 × xM) :=
  y4.bind fun a_1 =>
  (F_X11_see fu a_1 y3 y2 y1 y0 M).bind fun p_2 =>
  gd (xin (x4 + 1) L) <|
  gd (xin (x4 + 2) L) <|
  gd (xin (x4 + 3) L) <|
  gd (xin (x4 + 4) L) <|
  if (scr (xi (x4 + 4))) = 0 then
    J_L_law_1143 fu scr L k23 x1 x2 x3 x4 0 (scr (xi (x4 + 3))) (scr (xi (x4 + 2))) (scr (xi (x4 + 1))) x2 p_2.1 p_2.2
  else
    J_L_law_1143 fu scr L k23 x1 x2 x3 x4 1 (scr (xi (x4 + 3))) (scr (xi (x4 + 2))) (scr (xi (x4 + 1))) x2 p_2.1 p_2.2
set_option maxRecDepth 100000 in
theorem q_L_law_1107 (fu : Nat) (scr : Nat → Int32) (L : Nat) (k23 : Option Nat → Option Nat → Option Nat → Int32 → xM → Option (Int32 × xM)) (x1 : Option Nat) (x2 : Option Nat) (x3 : Option Nat) (x4 : Int32) (y0 : Int32) (y1 : Int32) (y2 : Int32) (y3 : Int32) (y4 : Option Nat) (M : xM) :
    xrunL scr L pL_law flL koL nwL [(156, 5, 0, 0, w_X11_see fu)] [(1143, fun bc bs ls st M => (lS ls <| lR ls 1 11 fun x1 => lR ls 2 12 fun x2 => lR ls 3 21 fun x3 => lI ls 4 fun x4 => pI st fun y0 st => pI st fun y1 st => pI st fun y2 st => pI st fun y3 st => pR 12 st fun y4 st => pI st fun y5 st => xe st (J_L_law_1143 fu scr L k23 x1 x2 x3 x4 y0 y1 y2 y3 y4 y5 M)))] xrtZ 810 (xat 1107 pL_law) 0 0 [(0, .inr (.inr (30, some 5))), (1, .inr (.inr (11, x1))), (2, .inr (.inr (12, x2))), (3, .inr (.inr (21, x3))), (4, .inl x4)] [.inl y0, .inl y1, .inl y2, .inl y3, .inr (.inr (11, y4))] M = J_L_law_1107 fu scr L k23 x1 x2 x3 x4 y0 y1 y2 y3 y4 M := rfl
def L_L_law_23 (fu : Nat) (scr : Nat → Int32) (L : Nat) : Nat → Option Nat → Option Nat → Option Nat → Int32 → xM → Option (Int32 × xM)
  | 0, _, _, _, _, _ => none
  | n + 1, x1, x2, x3, x4, M =>
    if ((Int32.ofNat L) - 7) < x4 then
      gd (xbool 1) (some (1, M))
    else
      gd (xin x4 L) <|
      if ((scr (xi x4)) &&& 63) = 0 then
        gd (xin (x4 + 1) L) <|
        gd (xin (x4 + 2) L) <|
        gd (xin (x4 + 3) L) <|
        gd (xin (x4 + 4) L) <|
        gd (xin (x4 + 5) L) <|
        gd (xin (x4 + 6) L) <|
        x1.bind fun a_1 =>
        (F_X11_feed fu a_1 (((Int32.toInt64 (scr (xi (x4 + 1)))) <<< ((32 : Int32).toInt64 &&& 63)) ||| ((Int32.toInt64 (scr (xi (x4 + 2)))) &&& 4294967295)) (((Int32.toInt64 (scr (xi (x4 + 3)))) <<< ((32 : Int32).toInt64 &&& 63)) ||| ((Int32.toInt64 (scr (xi (x4 + 4)))) &&& 4294967295)) (((Int32.toInt64 (scr (xi (x4 + 5)))) <<< ((32 : Int32).toInt64 &&& 63)) ||| ((Int32.toInt64 (scr (xi (x4 + 6)))) &&& 4294967295)) M).bind fun p_2 =>
        gd (xin (x4 + 1) L) <|
        gd (xin (x4 + 2) L) <|
        gd (xin (x4 + 3) L) <|
        gd (xin (x4 + 4) L) <|
        gd (xin (x4 + 5) L) <|
        gd (xin (x4 + 6) L) <|
        x2.bind fun a_3 =>
        (F_X12_feed fu a_3 (((Int32.toInt64 (scr (xi (x4 + 1)))) <<< ((32 : Int32).toInt64 &&& 63)) ||| ((Int32.toInt64 (scr (xi (x4 + 2)))) &&& 4294967295)) (((Int32.toInt64 (scr (xi (x4 + 3)))) <<< ((32 : Int32).toInt64 &&& 63)) ||| ((Int32.toInt64 (scr (xi (x4 + 4)))) &&& 4294967295)) (((Int32.toInt64 (scr (xi (x4 + 5)))) <<< ((32 : Int32).toInt64 &&& 63)) ||| ((Int32.toInt64 (scr (xi (x4 + 6)))) &&& 4294967295)) p_2.2).bind fun p_4 =>
        if p_2.1 = p_4.1 then
          L_L_law_23 fu scr L n x1 x2 x3 (x4 + 7) p_4.2
        else
          gd (xbool 0) (some (0, p_4.2))
      else
      if ((scr (xi x4)) &&& 63) = 1 then
        x1.bind fun a_5 =>
        (F_X11_store fu a_5 M).bind fun p_6 =>
        x2.bind fun a_7 =>
        (F_X12_store fu a_7 p_6.2).bind fun p_8 =>
        if p_6.1 = p_8.1 then
          L_L_law_23 fu scr L n x1 x2 x3 (x4 + 7) p_8.2
        else
          gd (xbool 0) (some (0, p_8.2))
      else
      if ((scr (xi x4)) &&& 63) = 2 then
        x1.bind fun a_9 =>
        (F_X11_work fu a_9 M).bind fun p_10 =>
        x2.bind fun a_11 =>
        (F_X12_work fu a_11 p_10.2).bind fun p_12 =>
        if p_10.1 = p_12.1 then
          L_L_law_23 fu scr L n x1 x2 x3 (x4 + 7) p_12.2
        else
          gd (xbool 0) (some (0, p_12.2))
      else
      if ((scr (xi x4)) &&& 63) = 3 then
        gd (xin (x4 + 1) L) <|
        gd (xin (x4 + 2) L) <|
        x1.bind fun a_13 =>
        (F_X11_slot fu a_13 (scr (xi (x4 + 1))) (scr (xi (x4 + 2))) M).bind fun p_14 =>
        gd (xin (x4 + 1) L) <|
        gd (xin (x4 + 2) L) <|
        x2.bind fun a_15 =>
        (F_X12_slot fu a_15 (scr (xi (x4 + 1))) (scr (xi (x4 + 2))) p_14.2).bind fun p_16 =>
        if p_14.1 = p_16.1 then
          L_L_law_23 fu scr L n x1 x2 x3 (x4 + 7) p_16.2
        else
          gd (xbool 0) (some (0, p_16.2))
      else
      if ((scr (xi x4)) &&& 63) = 4 then
        gd (xin (x4 + 1) L) <|
        gd (xin (x4 + 2) L) <|
        x1.bind fun a_17 =>
        (F_X11_block fu a_17 (scr (xi (x4 + 1))) (scr (xi (x4 + 2))) M).bind fun p_18 =>
        gd (xin (x4 + 1) L) <|
        gd (xin (x4 + 2) L) <|
        x2.bind fun a_19 =>
        (F_X12_block fu a_19 (scr (xi (x4 + 1))) (scr (xi (x4 + 2))) p_18.2).bind fun p_20 =>
        if p_18.1 = p_20.1 then
          L_L_law_23 fu scr L n x1 x2 x3 (x4 + 7) p_20.2
        else
          gd (xbool 0) (some (0, p_20.2))
      else
      if ((scr (xi x4)) &&& 63) = 5 then
        gd (xin (x4 + 1) L) <|
        gd (xin (x4 + 2) L) <|
        x1.bind fun a_21 =>
        (F_X11_file fu a_21 (scr (xi (x4 + 1))) (scr (xi (x4 + 2))) M).bind fun p_22 =>
        gd (xin (x4 + 1) L) <|
        gd (xin (x4 + 2) L) <|
        x2.bind fun a_23 =>
        (F_X12_file fu a_23 (scr (xi (x4 + 1))) (scr (xi (x4 + 2))) p_22.2).bind fun p_24 =>
        if p_22.1 = p_24.1 then
          L_L_law_23 fu scr L n x1 x2 x3 (x4 + 7) p_24.2
        else
          gd (xbool 0) (some (0, p_24.2))
      else
      if ((scr (xi x4)) &&& 63) = 6 then
        gd (xin (x4 + 1) L) <|
        gd (xin (x4 + 2) L) <|
        gd (xin (x4 + 3) L) <|
        x1.bind fun a_25 =>
        (F_X11_write fu a_25 (scr (xi (x4 + 1))) (scr (xi (x4 + 2))) (scr (xi (x4 + 3))) M).bind fun p_26 =>
        gd (xin (x4 + 1) L) <|
        gd (xin (x4 + 2) L) <|
        gd (xin (x4 + 3) L) <|
        x2.bind fun a_27 =>
        (F_X12_write fu a_27 (scr (xi (x4 + 1))) (scr (xi (x4 + 2))) (scr (xi (x4 + 3))) p_26.2).bind fun p_28 =>
        if p_26.1 = p_28.1 then
          L_L_law_23 fu scr L n x1 x2 x3 (x4 + 7) p_28.2
        else
          gd (xbool 0) (some (0, p_28.2))
      else
      if ((scr (xi x4)) &&& 63) = 7 then
        gd (xin (x4 + 1) L) <|
        x1.bind fun a_29 =>
        (F_X11_remove fu a_29 (scr (xi (x4 + 1))) M).bind fun p_30 =>
        gd (xin (x4 + 1) L) <|
        x2.bind fun a_31 =>
        (F_X12_remove fu a_31 (scr (xi (x4 + 1))) p_30.2).bind fun p_32 =>
        if p_30.1 = p_32.1 then
          L_L_law_23 fu scr L n x1 x2 x3 (x4 + 7) p_32.2
        else
          gd (xbool 0) (some (0, p_32.2))
      else
      if ((scr (xi x4)) &&& 63) = 8 then
        gd (xin (x4 + 1) L) <|
        x1.bind fun a_33 =>
        (F_X11_open fu a_33 (scr (xi (x4 + 1))) M).bind fun p_34 =>
        gd (xin (x4 + 1) L) <|
        x2.bind fun a_35 =>
        (F_X12_open fu a_35 (scr (xi (x4 + 1))) p_34.2).bind fun p_36 =>
        if p_34.1 = p_36.1 then
          L_L_law_23 fu scr L n x1 x2 x3 (x4 + 7) p_36.2
        else
          gd (xbool 0) (some (0, p_36.2))
      else
      if ((scr (xi x4)) &&& 63) = 9 then
        gd (xin (x4 + 1) L) <|
        x1.bind fun a_37 =>
        (F_X11_close fu a_37 (scr (xi (x4 + 1))) M).bind fun p_38 =>
        gd (xin (x4 + 1) L) <|
        x2.bind fun a_39 =>
        (F_X12_close fu a_39 (scr (xi (x4 + 1))) p_38.2).bind fun p_40 =>
        if p_38.1 = p_40.1 then
          L_L_law_23 fu scr L n x1 x2 x3 (x4 + 7) p_40.2
        else
          gd (xbool 0) (some (0, p_40.2))
      else
      if ((scr (xi x4)) &&& 63) = 10 then
        x1.bind fun a_41 =>
        (F_X11_commit fu a_41 M).bind fun p_42 =>
        x2.bind fun a_43 =>
        (F_X12_commit fu a_43 p_42.2).bind fun p_44 =>
        if p_42.1 = p_44.1 then
          L_L_law_23 fu scr L n x1 x2 x3 (x4 + 7) p_44.2
        else
          gd (xbool 0) (some (0, p_44.2))
      else
      if ((scr (xi x4)) &&& 63) = 11 then
        x1.bind fun a_45 =>
        (F_X11_collect fu a_45 M).bind fun p_46 =>
        x2.bind fun a_47 =>
        (F_X12_collect fu a_47 p_46.2).bind fun p_48 =>
        if p_46.1 = p_48.1 then
          L_L_law_23 fu scr L n x1 x2 x3 (x4 + 7) p_48.2
        else
          gd (xbool 0) (some (0, p_48.2))
      else
      if ((scr (xi x4)) &&& 63) = 12 then
        gd (xin (x4 + 1) L) <|
        x1.bind fun a_49 =>
        (F_X11_cut fu a_49 (scr (xi (x4 + 1))) M).bind fun p_50 =>
        gd (xin (x4 + 1) L) <|
        x2.bind fun a_51 =>
        (F_X12_cut fu a_51 (scr (xi (x4 + 1))) p_50.2).bind fun p_52 =>
        if p_50.1 = p_52.1 then
          L_L_law_23 fu scr L n x1 x2 x3 (x4 + 7) p_52.2
        else
          gd (xbool 0) (some (0, p_52.2))
      else
      if ((scr (xi x4)) &&& 63) = 13 then
        x1.bind fun a_53 =>
        (F_X11_mount fu a_53 M).bind fun p_54 =>
        x2.bind fun a_55 =>
        (F_X12_mount fu a_55 p_54.2).bind fun p_56 =>
        if p_54.1 = p_56.1 then
          L_L_law_23 fu scr L n x1 x2 x3 (x4 + 7) p_56.2
        else
          gd (xbool 0) (some (0, p_56.2))
      else
      if ((scr (xi x4)) &&& 63) = 14 then
        gd (xin (x4 + 1) L) <|
        x1.bind fun a_57 =>
        (F_X11_judged fu a_57 (scr (xi (x4 + 1))) M).bind fun p_58 =>
        gd (xin (x4 + 1) L) <|
        x2.bind fun a_59 =>
        (F_X12_judged fu a_59 (scr (xi (x4 + 1))) p_58.2).bind fun p_60 =>
        if p_58.1 = p_60.1 then
          L_L_law_23 fu scr L n x1 x2 x3 (x4 + 7) p_60.2
        else
          gd (xbool 0) (some (0, p_60.2))
      else
      if ((scr (xi x4)) &&& 63) = 15 then
        gd (xin (x4 + 1) L) <|
        gd (xin (x4 + 2) L) <|
        x1.bind fun a_61 =>
        (F_X11_says fu a_61 (scr (xi (x4 + 1))) (scr (xi (x4 + 2))) M).bind fun p_62 =>
        gd (xin (x4 + 1) L) <|
        gd (xin (x4 + 2) L) <|
        x2.bind fun a_63 =>
        (F_X12_says fu a_63 (scr (xi (x4 + 1))) (scr (xi (x4 + 2))) p_62.2).bind fun p_64 =>
        if p_62.1 = p_64.1 then
          L_L_law_23 fu scr L n x1 x2 x3 (x4 + 7) p_64.2
        else
          gd (xbool 0) (some (0, p_64.2))
      else
      if ((scr (xi x4)) &&& 63) = 16 then
        gd (xin (x4 + 1) L) <|
        gd (xin (x4 + 2) L) <|
        x1.bind fun a_65 =>
        (F_X11_may fu a_65 (scr (xi (x4 + 1))) (scr (xi (x4 + 2))) M).bind fun p_66 =>
        gd (xin (x4 + 1) L) <|
        gd (xin (x4 + 2) L) <|
        x2.bind fun a_67 =>
        (F_X12_may fu a_67 (scr (xi (x4 + 1))) (scr (xi (x4 + 2))) p_66.2).bind fun p_68 =>
        if p_66.1 = p_68.1 then
          L_L_law_23 fu scr L n x1 x2 x3 (x4 + 7) p_68.2
        else
          gd (xbool 0) (some (0, p_68.2))
      else
      if ((scr (xi x4)) &&& 63) = 17 then
        x1.bind fun a_69 =>
        (F_X11_spare fu a_69 M).bind fun p_70 =>
        x2.bind fun a_71 =>
        (F_X12_spare fu a_71 p_70.2).bind fun p_72 =>
        if p_70.1 = p_72.1 then
          L_L_law_23 fu scr L n x1 x2 x3 (x4 + 7) p_72.2
        else
          gd (xbool 0) (some (0, p_72.2))
      else
      if ((scr (xi x4)) &&& 63) = 18 then
        x1.bind fun a_73 =>
        (F_X11_pick fu a_73 M).bind fun p_74 =>
        x2.bind fun a_75 =>
        (F_X12_pick fu a_75 p_74.2).bind fun p_76 =>
        if p_74.1 = p_76.1 then
          L_L_law_23 fu scr L n x1 x2 x3 (x4 + 7) p_76.2
        else
          gd (xbool 0) (some (0, p_76.2))
      else
      if ((scr (xi x4)) &&& 63) = 19 then
        x1.bind fun a_77 =>
        (F_X11_gain fu a_77 M).bind fun p_78 =>
        x2.bind fun a_79 =>
        (F_X12_gain fu a_79 p_78.2).bind fun p_80 =>
        if p_78.1 = p_80.1 then
          L_L_law_23 fu scr L n x1 x2 x3 (x4 + 7) p_80.2
        else
          gd (xbool 0) (some (0, p_80.2))
      else
      if ((scr (xi x4)) &&& 63) = 20 then
        gd (xin (x4 + 1) L) <|
        x1.bind fun a_81 =>
        (F_X11_rounds fu a_81 (scr (xi (x4 + 1))) M).bind fun p_82 =>
        gd (xin (x4 + 1) L) <|
        x2.bind fun a_83 =>
        (F_X12_rounds fu a_83 (scr (xi (x4 + 1))) p_82.2).bind fun p_84 =>
        if p_82.1 = p_84.1 then
          L_L_law_23 fu scr L n x1 x2 x3 (x4 + 7) p_84.2
        else
          gd (xbool 0) (some (0, p_84.2))
      else
      if ((scr (xi x4)) &&& 63) = 21 then
        x1.bind fun a_85 =>
        (F_X11_found fu a_85 M).bind fun p_86 =>
        x2.bind fun a_87 =>
        (F_X12_found fu a_87 p_86.2).bind fun p_88 =>
        if p_86.1 = p_88.1 then
          L_L_law_23 fu scr L n x1 x2 x3 (x4 + 7) p_88.2
        else
          gd (xbool 0) (some (0, p_88.2))
      else
      if ((scr (xi x4)) &&& 63) = 22 then
        x1.bind fun a_89 =>
        (F_X11_agrees fu a_89 M).bind fun p_90 =>
        x2.bind fun a_91 =>
        (F_X12_agrees fu a_91 p_90.2).bind fun p_92 =>
        if p_90.1 = p_92.1 then
          L_L_law_23 fu scr L n x1 x2 x3 (x4 + 7) p_92.2
        else
          gd (xbool 0) (some (0, p_92.2))
      else
      if ((scr (xi x4)) &&& 63) = 23 then
        x1.bind fun a_93 =>
        (F_X11_loses fu a_93 M).bind fun p_94 =>
        x2.bind fun a_95 =>
        (F_X12_loses fu a_95 p_94.2).bind fun p_96 =>
        if p_94.1 = p_96.1 then
          L_L_law_23 fu scr L n x1 x2 x3 (x4 + 7) p_96.2
        else
          gd (xbool 0) (some (0, p_96.2))
      else
      if ((scr (xi x4)) &&& 63) = 24 then
        x1.bind fun a_97 =>
        (F_X11_wear fu a_97 M).bind fun p_98 =>
        x2.bind fun a_99 =>
        (F_X12_wear fu a_99 p_98.2).bind fun p_100 =>
        if p_98.1 = p_100.1 then
          L_L_law_23 fu scr L n x1 x2 x3 (x4 + 7) p_100.2
        else
          gd (xbool 0) (some (0, p_100.2))
      else
      if ((scr (xi x4)) &&& 63) = 25 then
        x1.bind fun a_101 =>
        (F_X11_oldest fu a_101 M).bind fun p_102 =>
        x2.bind fun a_103 =>
        (F_X12_oldest fu a_103 p_102.2).bind fun p_104 =>
        if p_102.1 = p_104.1 then
          L_L_law_23 fu scr L n x1 x2 x3 (x4 + 7) p_104.2
        else
          gd (xbool 0) (some (0, p_104.2))
      else
      if ((scr (xi x4)) &&& 63) = 26 then
        x1.bind fun a_105 =>
        (F_X11_hot fu a_105 M).bind fun p_106 =>
        x2.bind fun a_107 =>
        (F_X12_hot fu a_107 p_106.2).bind fun p_108 =>
        if p_106.1 = p_108.1 then
          L_L_law_23 fu scr L n x1 x2 x3 (x4 + 7) p_108.2
        else
          gd (xbool 0) (some (0, p_108.2))
      else
      if ((scr (xi x4)) &&& 63) = 27 then
        gd (xin (x4 + 1) L) <|
        gd (xin (x4 + 2) L) <|
        x1.bind fun a_109 =>
        (F_X11_copies fu a_109 (scr (xi (x4 + 1))) (scr (xi (x4 + 2))) M).bind fun p_110 =>
        gd (xin (x4 + 1) L) <|
        gd (xin (x4 + 2) L) <|
        x2.bind fun a_111 =>
        (F_X12_copies fu a_111 (scr (xi (x4 + 1))) (scr (xi (x4 + 2))) p_110.2).bind fun p_112 =>
        if p_110.1 = p_112.1 then
          L_L_law_23 fu scr L n x1 x2 x3 (x4 + 7) p_112.2
        else
          gd (xbool 0) (some (0, p_112.2))
      else
      if ((scr (xi x4)) &&& 63) = 28 then
        gd (xin (x4 + 1) L) <|
        gd (xin (x4 + 2) L) <|
        x1.bind fun a_113 =>
        (F_X11_chain fu a_113 (scr (xi (x4 + 1))) (scr (xi (x4 + 2))) M).bind fun p_114 =>
        gd (xin (x4 + 1) L) <|
        gd (xin (x4 + 2) L) <|
        x2.bind fun a_115 =>
        (F_X12_chain fu a_115 (scr (xi (x4 + 1))) (scr (xi (x4 + 2))) p_114.2).bind fun p_116 =>
        if p_114.1 = p_116.1 then
          L_L_law_23 fu scr L n x1 x2 x3 (x4 + 7) p_116.2
        else
          gd (xbool 0) (some (0, p_116.2))
      else
      if ((scr (xi x4)) &&& 63) = 29 then
        gd (xin (x4 + 1) L) <|
        gd (xin (x4 + 2) L) <|
        gd (xin (x4 + 3) L) <|
        x1.bind fun a_117 =>
        (F_X11_after fu a_117 (scr (xi (x4 + 1))) (scr (xi (x4 + 2))) (scr (xi (x4 + 3))) M).bind fun p_118 =>
        gd (xin (x4 + 1) L) <|
        gd (xin (x4 + 2) L) <|
        gd (xin (x4 + 3) L) <|
        x2.bind fun a_119 =>
        (F_X12_after fu a_119 (scr (xi (x4 + 1))) (scr (xi (x4 + 2))) (scr (xi (x4 + 3))) p_118.2).bind fun p_120 =>
        if p_118.1 = p_120.1 then
          L_L_law_23 fu scr L n x1 x2 x3 (x4 + 7) p_120.2
        else
          gd (xbool 0) (some (0, p_120.2))
      else
      if ((scr (xi x4)) &&& 63) = 30 then
        x1.bind fun a_121 =>
        (F_X11_ends fu a_121 M).bind fun p_122 =>
        x2.bind fun a_123 =>
        (F_X12_ends fu a_123 p_122.2).bind fun p_124 =>
        if p_122.1 = p_124.1 then
          L_L_law_23 fu scr L n x1 x2 x3 (x4 + 7) p_124.2
        else
          gd (xbool 0) (some (0, p_124.2))
      else
      if ((scr (xi x4)) &&& 63) = 31 then
        x1.bind fun a_125 =>
        (F_X11_halves fu a_125 M).bind fun p_126 =>
        x2.bind fun a_127 =>
        (F_X12_halves fu a_127 p_126.2).bind fun p_128 =>
        if p_126.1 = p_128.1 then
          L_L_law_23 fu scr L n x1 x2 x3 (x4 + 7) p_128.2
        else
          gd (xbool 0) (some (0, p_128.2))
      else
      if ((scr (xi x4)) &&& 63) = 32 then
        gd (xin (x4 + 1) L) <|
        gd (xin (x4 + 2) L) <|
        gd (xin (x4 + 3) L) <|
        gd (xin (x4 + 4) L) <|
        if (scr (xi (x4 + 4))) = 0 then
          J_L_law_1107 fu scr L (L_L_law_23 fu scr L n) x1 x2 x3 x4 0 (scr (xi (x4 + 3))) (scr (xi (x4 + 2))) (scr (xi (x4 + 1))) x1 M
        else
          J_L_law_1107 fu scr L (L_L_law_23 fu scr L n) x1 x2 x3 x4 1 (scr (xi (x4 + 3))) (scr (xi (x4 + 2))) (scr (xi (x4 + 1))) x1 M
      else
      if ((scr (xi x4)) &&& 63) = 33 then
        x1.bind fun a_129 =>
        (F_X11_cuts fu a_129 M).bind fun p_130 =>
        x2.bind fun a_131 =>
        (F_X12_cuts fu a_131 p_130.2).bind fun p_132 =>
        if p_130.1 = p_132.1 then
          L_L_law_23 fu scr L n x1 x2 x3 (x4 + 7) p_132.2
        else
          gd (xbool 0) (some (0, p_132.2))
      else
      if ((scr (xi x4)) &&& 63) = 34 then
        x1.bind fun a_133 =>
        (F_X11_look fu a_133 M).bind fun p_134 =>
        x2.bind fun a_135 =>
        (F_X12_look fu a_135 p_134.2).bind fun p_136 =>
        if p_134.1 = p_136.1 then
          L_L_law_23 fu scr L n x1 x2 x3 (x4 + 7) p_136.2
        else
          gd (xbool 0) (some (0, p_136.2))
      else
      if ((scr (xi x4)) &&& 63) = 35 then
        gd (xin (x4 + 1) L) <|
        (F_L_lives fu x1 (scr (xi (x4 + 1))) x3 M).bind fun p_137 =>
        gd (xin (x4 + 1) L) <|
        x2.bind fun a_138 =>
        (F_X12_lives fu a_138 (scr (xi (x4 + 1))) p_137.2).bind fun p_139 =>
        x2.bind fun a_140 =>
        (F_X12_thrown fu a_140 p_139.2).bind fun p_141 =>
        if p_141.1 = p_137.1 then
          if ¬ p_137.1 = 0 then
            L_L_law_23 fu scr L n x1 x2 x3 (x4 + 7) p_141.2
          else
            x3.bind fun a_142 =>
            gd (xin 0 (gN p_141.2 21 a_142)) <|
            if (lg_cmp (gL p_141.2 21 a_142 (xi 0)) (Int32.toInt64 p_139.1)) = 0 then
              L_L_law_23 fu scr L n x1 x2 x3 (x4 + 7) p_141.2
            else
              gd (xbool 0) (some (0, p_141.2))
        else
          gd (xbool 0) (some (0, p_141.2))
      else
      if ((scr (xi x4)) &&& 63) = 36 then
        gd (xin (x4 + 1) L) <|
        gd (xin (x4 + 2) L) <|
        gd (xin (x4 + 3) L) <|
        x1.bind fun a_143 =>
        (F_X11_ages fu a_143 (scr (xi (x4 + 1))) (scr (xi (x4 + 2))) (scr (xi (x4 + 3))) M).bind fun p_144 =>
        gd (xin (x4 + 1) L) <|
        gd (xin (x4 + 2) L) <|
        gd (xin (x4 + 3) L) <|
        x2.bind fun a_145 =>
        (F_X12_ages fu a_145 (scr (xi (x4 + 1))) (scr (xi (x4 + 2))) (scr (xi (x4 + 3))) p_144.2).bind fun p_146 =>
        if p_144.1 = p_146.1 then
          L_L_law_23 fu scr L n x1 x2 x3 (x4 + 7) p_146.2
        else
          gd (xbool 0) (some (0, p_146.2))
      else
      if ((scr (xi x4)) &&& 63) = 37 then
        gd (xin (x4 + 1) L) <|
        gd (xin (x4 + 2) L) <|
        if (scr (xi (x4 + 2))) = 0 then
          J_L_law_1303 fu scr L (L_L_law_23 fu scr L n) x1 x2 x3 x4 0 (scr (xi (x4 + 1))) x1 M
        else
          J_L_law_1303 fu scr L (L_L_law_23 fu scr L n) x1 x2 x3 x4 1 (scr (xi (x4 + 1))) x1 M
      else
      if ((scr (xi x4)) &&& 63) = 38 then
        gd (xin (x4 + 1) L) <|
        x1.bind fun a_147 =>
        (F_X11_count fu a_147 (scr (xi (x4 + 1))) M).bind fun p_148 =>
        gd (xin (x4 + 1) L) <|
        x2.bind fun a_149 =>
        (F_X12_count fu a_149 (scr (xi (x4 + 1))) p_148.2).bind fun p_150 =>
        if p_148.1 = p_150.1 then
          L_L_law_23 fu scr L n x1 x2 x3 (x4 + 7) p_150.2
        else
          gd (xbool 0) (some (0, p_150.2))
      else
        L_L_law_23 fu scr L n x1 x2 x3 (x4 + 7) M
set_option maxRecDepth 100000 in
theorem q_L_law_23 (fu : Nat) (scr : Nat → Int32) (L : Nat) (n : Nat) (x1 : Option Nat) (x2 : Option Nat) (x3 : Option Nat) (x4 : Int32) (M : xM) :
    xrunL scr L pL_law flL koL nwL [(21, 4, 0, 0, w_X11_feed fu), (25, 4, 0, 0, w_X12_feed fu), (26, 1, 0, 0, w_X11_store fu), (30, 1, 0, 0, w_X12_store fu), (31, 1, 0, 0, w_X11_work fu), (34, 1, 0, 0, w_X12_work fu), (35, 3, 0, 0, w_X11_slot fu), (39, 3, 0, 0, w_X12_slot fu), (40, 3, 0, 0, w_X11_block fu), (43, 3, 0, 0, w_X12_block fu), (44, 3, 0, 0, w_X11_file fu), (47, 3, 0, 0, w_X12_file fu), (48, 4, 0, 0, w_X11_write fu), (52, 4, 0, 0, w_X12_write fu), (53, 2, 0, 0, w_X11_remove fu), (56, 2, 0, 0, w_X12_remove fu), (57, 2, 0, 0, w_X11_open fu), (61, 2, 0, 0, w_X12_open fu), (62, 2, 0, 0, w_X11_close fu), (65, 2, 0, 0, w_X12_close fu), (66, 1, 0, 0, w_X11_commit fu), (69, 1, 0, 0, w_X12_commit fu), (70, 1, 0, 0, w_X11_collect fu), (73, 1, 0, 0, w_X12_collect fu), (74, 2, 0, 0, w_X11_cut fu), (77, 2, 0, 0, w_X12_cut fu), (78, 1, 0, 0, w_X11_mount fu), (81, 1, 0, 0, w_X12_mount fu), (82, 2, 0, 0, w_X11_judged fu), (85, 2, 0, 0, w_X12_judged fu), (86, 3, 0, 0, w_X11_says fu), (89, 3, 0, 0, w_X12_says fu), (90, 3, 0, 0, w_X11_may fu), (94, 3, 0, 0, w_X12_may fu), (95, 1, 0, 0, w_X11_spare fu), (98, 1, 0, 0, w_X12_spare fu), (99, 1, 0, 0, w_X11_pick fu), (102, 1, 0, 0, w_X12_pick fu), (103, 1, 0, 0, w_X11_gain fu), (106, 1, 0, 0, w_X12_gain fu), (107, 2, 0, 0, w_X11_rounds fu), (110, 2, 0, 0, w_X12_rounds fu), (111, 1, 0, 0, w_X11_found fu), (114, 1, 0, 0, w_X12_found fu), (115, 1, 0, 0, w_X11_agrees fu), (119, 1, 0, 0, w_X12_agrees fu), (120, 1, 0, 0, w_X11_loses fu), (123, 1, 0, 0, w_X12_loses fu), (124, 1, 0, 0, w_X11_wear fu), (127, 1, 0, 0, w_X12_wear fu), (128, 1, 0, 0, w_X11_oldest fu), (131, 1, 0, 0, w_X12_oldest fu), (132, 1, 0, 0, w_X11_hot fu), (135, 1, 0, 0, w_X12_hot fu), (136, 3, 0, 0, w_X11_copies fu), (139, 3, 0, 0, w_X12_copies fu), (140, 3, 0, 0, w_X11_chain fu), (143, 3, 0, 0, w_X12_chain fu), (144, 4, 0, 0, w_X11_after fu), (147, 4, 0, 0, w_X12_after fu), (148, 1, 0, 0, w_X11_ends fu), (151, 1, 0, 0, w_X12_ends fu), (152, 1, 0, 0, w_X11_halves fu), (155, 1, 0, 0, w_X12_halves fu), (161, 1, 0, 0, w_X11_cuts fu), (164, 1, 0, 0, w_X12_cuts fu), (165, 1, 0, 0, w_X11_look fu), (168, 1, 0, 0, w_X12_look fu), (169, 3, 1, 10, w_L_lives fu), (174, 2, 0, 0, w_X12_lives fu), (175, 1, 0, 0, w_X12_thrown fu), (178, 4, 0, 0, w_X11_ages fu), (181, 4, 0, 0, w_X12_ages fu), (187, 2, 0, 0, w_X11_count fu), (190, 2, 0, 0, w_X12_count fu)] [(23, fun bc bs ls st M => (lS ls <| lR ls 1 11 fun x1 => lR ls 2 12 fun x2 => lR ls 3 21 fun x3 => lI ls 4 fun x4 => xe st (L_L_law_23 fu scr L n x1 x2 x3 x4 M))),
    (1107, fun bc bs ls st M => (lS ls <| lR ls 1 11 fun x1 => lR ls 2 12 fun x2 => lR ls 3 21 fun x3 => lI ls 4 fun x4 => pI st fun y0 st => pI st fun y1 st => pI st fun y2 st => pI st fun y3 st => pR 11 st fun y4 st => xe st (J_L_law_1107 fu scr L (L_L_law_23 fu scr L n) x1 x2 x3 x4 y0 y1 y2 y3 y4 M))),
    (1303, fun bc bs ls st M => (lS ls <| lR ls 1 11 fun x1 => lR ls 2 12 fun x2 => lR ls 3 21 fun x3 => lI ls 4 fun x4 => pI st fun y0 st => pI st fun y1 st => pR 11 st fun y2 st => xe st (J_L_law_1303 fu scr L (L_L_law_23 fu scr L n) x1 x2 x3 x4 y0 y1 y2 M)))] xrtZ 810 (xat 23 pL_law) 1 10 [(0, .inr (.inr (30, some 5))), (1, .inr (.inr (11, x1))), (2, .inr (.inr (12, x2))), (3, .inr (.inr (21, x3))), (4, .inl x4)] [] M = L_L_law_23 fu scr L (n + 1) x1 x2 x3 x4 M := rfl
def F_L_law (fu : Nat) (scr : Nat → Int32) (L : Nat) (M : xM) : Option (Int32 × xM) :=
  let M_1 := nC M 11 0
  (F_X11_init fu (gA M 11) M_1).bind fun p_2 =>
  let M_3 := nC p_2 12 0
  (F_X12_init fu (gA p_2 12) M_3).bind fun p_4 =>
  gd ((1 : Int32) == Int32.ofNat 1) <|
  let M_5 := nC p_4 21 1
  L_L_law_23 fu scr L fu (some (gA M 11)) (some (gA p_2 12)) (some (gA p_4 21)) 0 M_5
set_option maxRecDepth 100000 in
theorem q_L_law (fu : Nat) (scr : Nat → Int32) (L : Nat) (M : xM) :
    xrunL scr L pL_law flL koL nwL [(15, 1, 136, 13077, w_X11_init fu), (18, 1, 18, 10497, w_X12_init fu)] [(23, fun bc bs ls st M => (lS ls <| lR ls 1 11 fun x1 => lR ls 2 12 fun x2 => lR ls 3 21 fun x3 => lI ls 4 fun x4 => xe st (L_L_law_23 fu scr L fu x1 x2 x3 x4 M)))] xrtZ 810 (xat 0 pL_law) 157 23618 [(0, .inr (.inr (30, some 5)))] [] M = F_L_law fu scr L M := rfl
