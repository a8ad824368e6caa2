/-! ===== core: runs of a method over a world of numbered cells, as a function ===== -/
/-- a value: an int, a long, a reference (the number of its kind, the number of the cell in its kind; none: null) -/
abbrev xV : Type := Int32 ⊕ (Int64 ⊕ (Nat × Option Nat))
/-- a world: ints, longs, references by kind, cell and place; lengths by kind and cell; how many cells of a kind -/
abbrev xM : Type := (Nat → Nat → Nat → Int32) × (Nat → Nat → Nat → Int64) × (Nat → Nat → Nat → Option Nat) × (Nat → Nat → Nat) × (Nat → Nat)
abbrev vI (x : Int32) : xV := .inl x
abbrev vL (x : Int64) : xV := .inr (.inl x)
abbrev vR (c : Nat) (o : Option Nat) : xV := .inr (.inr (c, o))
def gI (M : xM) (c s k : Nat) : Int32 := M.1 c s k
def gL (M : xM) (c s k : Nat) : Int64 := M.2.1 c s k
def gR (M : xM) (c s k : Nat) : Option Nat := M.2.2.1 c s k
def gN (M : xM) (c s : Nat) : Nat := M.2.2.2.1 c s
def gA (M : xM) (c : Nat) : Nat := M.2.2.2.2 c
def x3 {α : Type} (f : Nat → Nat → Nat → α) (c s k : Nat) (v : α) : Nat → Nat → Nat → α := fun c' s' k' => if c' = c ∧ s' = s ∧ k' = k then v else f c' s' k'
def sI (M : xM) (c s k : Nat) (v : Int32) : xM := (x3 M.1 c s k v, M.2)
def sL (M : xM) (c s k : Nat) (v : Int64) : xM := (M.1, x3 M.2.1 c s k v, M.2.2)
def sR (M : xM) (c s k : Nat) (v : Option Nat) : xM := (M.1, M.2.1, x3 M.2.2.1 c s k v, M.2.2.2)
/-- ints of one cell copied to another of its kind -/
def cpI (M : xM) (c s d sp dp n : Nat) : xM := (fun c' s' k' => if c' = c ∧ s' = d ∧ dp ≤ k' ∧ k' < dp + n then M.1 c s (sp + (k' - dp)) else M.1 c' s' k', M.2)
/-- a new cell of a kind, of a length -/
def nC (M : xM) (c n : Nat) : xM := (fun c' s' k' => if c' = c ∧ s' = gA M c then 0 else M.1 c' s' k', fun c' s' k' => if c' = c ∧ s' = gA M c then 0 else M.2.1 c' s' k', fun c' s' k' => if c' = c ∧ s' = gA M c then none else M.2.2.1 c' s' k', fun c' s' => if c' = c ∧ s' = gA M c then n else M.2.2.2.1 c' s', fun c' => if c' = c then gA M c + 1 else M.2.2.2.2 c')
/-- a row of a method's code: marked, where, how long, where it jumps, its number, where a switch goes, the instruction -/
abbrev xE : Type := Nat × Nat × Nat × Nat × Int32 × List (Int32 × Nat) × Instr
abbrev xLs : Type := List (Nat × xV)
def xlook (i : Nat) : xLs → Option xV
  | [] => none
  | (j, v) :: r => match Nat.beq j i with
    | true => some v
    | false => xlook i r
def xcat : xV → Nat
  | .inl _ => 1
  | .inr (.inl _) => 2
  | .inr (.inr _) => 1
def xdel (i : Nat) : xLs → xLs
  | [] => []
  | (j, v) :: r => match Nat.beq j i with
    | true => xdel i r
    | false => match Nat.beq (j + 1) i with
      | true => match v with
        | .inr (.inl _) => xdel i r
        | _ => (j, v) :: xdel i r
      | false => (j, v) :: xdel i r
def xdel2 (i : Nat) (l : xLs) : xLs := xdel i (xdel (i + 1) l)
def xfind {β : Type} (i : Nat) : List (Nat × β) → Option β
  | [] => none
  | (j, v) :: r => match Nat.beq j i with
    | true => some v
    | false => xfind i r
section
variable {ρ : Type}
def gd (b : Bool) (x : Option ρ) : Option ρ := match b with
  | true => x
  | false => none
/-- (the length is looked at first, so that no number is computed with while it isn't known) -/
def xin (i : Int32) (n : Nat) : Bool := match n with
  | 0 => false
  | k + 1 => decide (0 ≤ i.toInt ∧ i.toInt < ((k + 1 : Nat) : Int))
def xi (i : Int32) : Nat := i.toNatClampNeg
def xbool (x : Int32) : Bool := x == 0 || x == 1
def xchar (x : Int32) : Bool := decide (0 ≤ x.toInt ∧ x.toInt < 65536)
def pI (st : List xV) (k : Int32 → List xV → Option ρ) : Option ρ := match st with
  | .inl x :: r => k x r
  | _ => none
def pL (st : List xV) (k : Int64 → List xV → Option ρ) : Option ρ := match st with
  | .inr (.inl x) :: r => k x r
  | _ => none
def pR (c : Nat) (st : List xV) (k : Option Nat → List xV → Option ρ) : Option ρ := match st with
  | .inr (.inr (c', o)) :: r => match Nat.beq c' c with
    | true => k o r
    | false => none
  | _ => none
def pA (st : List xV) (k : Nat → Option Nat → List xV → Option ρ) : Option ρ := match st with
  | .inr (.inr (c', o)) :: r => k c' o r
  | _ => none
def pV (st : List xV) (k : xV → List xV → Option ρ) : Option ρ := match st with
  | v :: r => k v r
  | _ => none
def lI (ls : xLs) (i : Nat) (k : Int32 → Option ρ) : Option ρ := match xlook i ls with
  | some (.inl x) => k x
  | _ => none
def lL (ls : xLs) (i : Nat) (k : Int64 → Option ρ) : Option ρ := match xlook i ls with
  | some (.inr (.inl x)) => k x
  | _ => none
def lA (ls : xLs) (i : Nat) (k : Nat → Option Nat → Option ρ) : Option ρ := match xlook i ls with
  | some (.inr (.inr (c', o))) => k c' o
  | _ => none
def lR (ls : xLs) (i c : Nat) (k : Option Nat → Option ρ) : Option ρ := match xlook i ls with
  | some (.inr (.inr (c', o))) => match Nat.beq c' c with
    | true => k o
    | false => none
  | _ => none
/-- what a place holds by its type: 0 int, 1 long, 2 boolean, 3 char, n + 4 a reference of kind n -/
def xget (M : xM) (c s k t : Nat) : xV := match t with
  | 0 => .inl (gI M c s k)
  | 1 => .inr (.inl (gL M c s k))
  | 2 => .inl (gI M c s k)
  | 3 => .inl (gI M c s k)
  | n + 4 => .inr (.inr (n, gR M c s k))
def xjump (t : Nat) : List xE → List xE
  | [] => []
  | (fg, pc, e) :: r => match Nat.beq pc t with
    | true => (fg, pc, e) :: r
    | false => xjump t r
def xat (t : Nat) (prog : List xE) : List xE := match xjump t prog with
  | [] => []
  | (_, e) :: r => (0, e) :: r
def xsw (x : Int32) (d : Option ρ) (go : Nat → Option ρ) : List (Int32 × Nat) → Option ρ
  | [] => d
  | (v, t) :: r => if x = v then go t else xsw x d go r
def xcats : List xV → Nat
  | [] => 0
  | v :: r => xcat v + xcats r
/-- callees by their pool numbers: how many arguments, how many cells and places they make, what they do -/
abbrev xCa (ρ : Type) : Type := List (Nat × Nat × Nat × Nat × (List xV → xM → (Option xV → xM → Option ρ) → Option ρ))
abbrev xCu (ρ : Type) : Type := List (Nat × (Nat → Nat → xLs → List xV → xM → Option ρ))
abbrev xFl : Type := List (Nat × Nat × Nat × Nat)
def xcall (ca : xCa ρ) (idx bc bs : Nat) (st : List xV) (M : xM) (go : Nat → Nat → List xV → xM → Option ρ) : Option ρ := match xfind idx ca with
  | none => none
  | some (na, kc, ks, w) => match Nat.ble kc bc && Nat.ble ks bs && Nat.ble (xcats (st.drop na)) 8 && Nat.ble na st.length with
    | true => w (st.take na).reverse M (fun v M' => go (bc - kc) (bs - ks) (match v with | none => st.drop na | some v => v :: st.drop na) M')
    | false => none
def xelt (c : Nat) : Nat := match Nat.beq c 24 with
  | true => 2
  | false => 1
def xqof (c : Nat) : Nat := match Nat.beq c 2 with
  | true => 24
  | false => 25
def xisq (c : Nat) : Bool := Nat.ble 24 c && Nat.ble c 25
def xif (op : Jvm.ClassFile.Cond) (x : Int32) (a b : Option ρ) : Option ρ := match op with
  | .eq => if x = 0 then a else b
  | .ne => if ¬ x = 0 then a else b
  | .lt => if x < 0 then a else b
  | .ge => if 0 ≤ x then a else b
  | .gt => if 0 < x then a else b
  | .le => if x ≤ 0 then a else b
def xic (op : Jvm.ClassFile.Cond) (x y : Int32) (a b : Option ρ) : Option ρ := match op with
  | .eq => if x = y then a else b
  | .ne => if ¬ x = y then a else b
  | .lt => if x < y then a else b
  | .ge => if y ≤ x then a else b
  | .gt => if y < x then a else b
  | .le => if x ≤ y then a else b
/-- pool numbers of kinds that are made: the kind, its places -/
abbrev xNw : Type := List (Nat × Nat × Nat)
def xput (M : xM) (c s k t : Nat) (v : xV) (go : xM → Option ρ) : Option ρ := match t with
  | 0 => match v with
    | .inl x => go (sI M c s k x)
    | _ => none
  | 1 => match v with
    | .inr (.inl x) => go (sL M c s k x)
    | _ => none
  | 2 => match v with
    | .inl x => gd (xbool x) (go (sI M c s k x))
    | _ => none
  | 3 => match v with
    | .inl x => gd (xchar x) (go (sI M c s k x))
    | _ => none
  | n + 4 => match v with
    | .inr (.inr (c', o)) => match Nat.beq c' n with
      | true => go (sR M c s k o)
      | false => none
    | _ => none
def xnew (M : xM) (c n bc bs : Nat) (go : Nat → Nat → xM → Option ρ) : Option ρ := match bc with
  | 0 => none
  | b + 1 => match Nat.ble n bs with
    | true => go b (bs - n) (nC M c (match Nat.ble 20 c with | true => n | false => 0))
    | false => none
def xacode (t : ArrayType) : Nat := match t with
  | .int => 20
  | .long => 21
  | .boolean => 22
  | .char => 23
  | _ => 0
def xbin (st : List xV) (k : Int32 → Int32 → List xV → Option ρ) : Option ρ := pI st fun y st => pI st fun x st => k x y st
def xbinL (st : List xV) (k : Int64 → Int64 → List xV → Option ρ) : Option ρ := pL st fun y st => pL st fun x st => k x y st
def xexec (prog : List xE) (fl : xFl) (ko : List (Nat × xV)) (nw : xNw) (ca : xCa ρ) (rt : Option xV → xM → Option ρ)
    (go : List xE → Nat → Nat → xLs → List xV → xM → Option ρ) (tgt : Nat) (aux : Int32) (sw : List (Int32 × Nat)) (ins : Instr) (code : List xE) (bc bs : Nat) (ls : xLs) (st : List xV) (M : xM) : Option ρ :=
  match ins with
  | .iconst _ => go code bc bs ls (.inl aux :: st) M
  | .bipush _ => go code bc bs ls (.inl aux :: st) M
  | .sipush _ => go code bc bs ls (.inl aux :: st) M
  | .lconst n => go code bc bs ls (.inr (.inl (Int64.ofNat (n : Nat))) :: st) M
  | .aconst_null => go code bc bs ls (.inr (.inr (tgt, none)) :: st) M
  | .iload_n i => lI ls (i : Nat) fun x => go code bc bs ls (.inl x :: st) M
  | .iload i => lI ls i fun x => go code bc bs ls (.inl x :: st) M
  | .lload_n i => lL ls (i : Nat) fun x => go code bc bs ls (.inr (.inl x) :: st) M
  | .lload i => lL ls i fun x => go code bc bs ls (.inr (.inl x) :: st) M
  | .aload_n i => lA ls (i : Nat) fun c o => go code bc bs ls (.inr (.inr (c, o)) :: st) M
  | .aload i => lA ls i fun c o => go code bc bs ls (.inr (.inr (c, o)) :: st) M
  | .istore_n i => pI st fun x st => go code bc bs (((i : Nat), .inl x) :: xdel (i : Nat) ls) st M
  | .istore i => pI st fun x st => go code bc bs ((i, .inl x) :: xdel i ls) st M
  | .lstore_n i => pL st fun x st => go code bc bs (((i : Nat), .inr (.inl x)) :: xdel2 (i : Nat) ls) st M
  | .lstore i => pL st fun x st => go code bc bs ((i, .inr (.inl x)) :: xdel2 i ls) st M
  | .astore_n i => pA st fun c o st => go code bc bs (((i : Nat), .inr (.inr (c, o))) :: xdel (i : Nat) ls) st M
  | .astore i => pA st fun c o st => go code bc bs ((i, .inr (.inr (c, o))) :: xdel i ls) st M
  | .iinc i _ => lI ls i fun x => go code bc bs ((i, .inl (x + aux)) :: xdel i ls) st M
  | .iadd => xbin st fun x y st => go code bc bs ls (.inl (x + y) :: st) M
  | .isub => xbin st fun x y st => go code bc bs ls (.inl (x - y) :: st) M
  | .imul => xbin st fun x y st => go code bc bs ls (.inl (x * y) :: st) M
  | .iand => xbin st fun x y st => go code bc bs ls (.inl (x &&& y) :: st) M
  | .ior => xbin st fun x y st => go code bc bs ls (.inl (x ||| y) :: st) M
  | .ixor => xbin st fun x y st => go code bc bs ls (.inl (x ^^^ y) :: st) M
  | .ishl => xbin st fun x y st => go code bc bs ls (.inl (x <<< (y &&& 31)) :: st) M
  | .ishr => xbin st fun x y st => go code bc bs ls (.inl (x >>> (y &&& 31)) :: st) M
  | .iushr => xbin st fun x y st => go code bc bs ls (.inl (x.toUInt32 >>> (y.toUInt32 &&& Int32.toUInt32 31)).toInt32 :: st) M
  | .idiv => xbin st fun x y st => gd (!(y == 0)) (go code bc bs ls (.inl (x / y) :: st) M)
  | .irem => xbin st fun x y st => gd (!(y == 0)) (go code bc bs ls (.inl (x - x / y * y) :: st) M)
  | .ladd => xbinL st fun x y st => go code bc bs ls (.inr (.inl (x + y)) :: st) M
  | .lsub => xbinL st fun x y st => go code bc bs ls (.inr (.inl (x - y)) :: st) M
  | .lmul => xbinL st fun x y st => go code bc bs ls (.inr (.inl (x * y)) :: st) M
  | .land => xbinL st fun x y st => go code bc bs ls (.inr (.inl (x &&& y)) :: st) M
  | .lor => xbinL st fun x y st => go code bc bs ls (.inr (.inl (x ||| y)) :: st) M
  | .ldiv => xbinL st fun x y st => gd (!(y == 0)) (go code bc bs ls (.inr (.inl (x / y)) :: st) M)
  | .lrem => xbinL st fun x y st => gd (!(y == 0)) (go code bc bs ls (.inr (.inl (x - x / y * y)) :: st) M)
  | .lcmp => xbinL st fun x y st => go code bc bs ls (.inl (lg_cmp x y) :: st) M
  | .lshl => pI st fun y st => pL st fun x st => go code bc bs ls (.inr (.inl (x <<< (y.toInt64 &&& 63))) :: st) M
  | .lshr => pI st fun y st => pL st fun x st => go code bc bs ls (.inr (.inl (x >>> (y.toInt64 &&& 63))) :: st) M
  | .lushr => pI st fun y st => pL st fun x st => go code bc bs ls (.inr (.inl (x.toUInt64 >>> (y.toInt64.toUInt64 &&& Int64.toUInt64 63)).toInt64) :: st) M
  | .i2l => pI st fun x st => go code bc bs ls (.inr (.inl x.toInt64) :: st) M
  | .l2i => pL st fun x st => go code bc bs ls (.inl x.toInt32 :: st) M
  | .i2c => pI st fun x st => go code bc bs ls (.inl (x.toUInt32 % 65536).toInt32 :: st) M
  | .dup => pV st fun v st => match Nat.beq (xcat v) 1 with
    | true => go code bc bs ls (v :: v :: st) M
    | false => none
  | .dup2 => pV st fun v st => pV st fun w st => match Nat.beq (xcat v + xcat w) 2 with
    | true => go code bc bs ls (v :: w :: v :: w :: st) M
    | false => none
  | .pop => pV st fun v st => match Nat.beq (xcat v) 1 with
    | true => go code bc bs ls st M
    | false => none
  | .getfield idx => match xfind idx fl with
    | none => none
    | some (ci, k, t) => pR ci st fun o st => o.bind fun s => go code bc bs ls (xget M ci s k t :: st) M
  | .putfield idx => match xfind idx fl with
    | none => none
    | some (ci, k, t) => pV st fun v st => pR ci st fun o st => o.bind fun s => xput M ci s k t v fun M => go code bc bs ls st M
  | .iaload => pI st fun i st => pR 20 st fun o st => o.bind fun a => gd (xin i (gN M 20 a)) (go code bc bs ls (.inl (gI M 20 a (xi i)) :: st) M)
  | .baload => pI st fun i st => pR 22 st fun o st => o.bind fun a => gd (xin i (gN M 22 a)) (go code bc bs ls (.inl (gI M 22 a (xi i)) :: st) M)
  | .caload => pI st fun i st => pR 23 st fun o st => o.bind fun a => gd (xin i (gN M 23 a)) (go code bc bs ls (.inl (gI M 23 a (xi i)) :: st) M)
  | .laload => pI st fun i st => pR 21 st fun o st => o.bind fun a => gd (xin i (gN M 21 a)) (go code bc bs ls (.inr (.inl (gL M 21 a (xi i))) :: st) M)
  | .aaload => pI st fun i st => pA st fun c o st => match xisq c with
    | true => o.bind fun a => gd (xin i (gN M c a)) (go code bc bs ls (.inr (.inr (xelt c, gR M c a (xi i))) :: st) M)
    | false => none
  | .iastore => pI st fun v st => pI st fun i st => pR 20 st fun o st => o.bind fun a => gd (xin i (gN M 20 a)) (go code bc bs ls st (sI M 20 a (xi i) v))
  | .bastore => pI st fun v st => pI st fun i st => pR 22 st fun o st => o.bind fun a => gd (xin i (gN M 22 a)) (gd (xbool v) (go code bc bs ls st (sI M 22 a (xi i) v)))
  | .castore => pI st fun v st => pI st fun i st => pR 23 st fun o st => o.bind fun a => gd (xin i (gN M 23 a)) (gd (xchar v) (go code bc bs ls st (sI M 23 a (xi i) v)))
  | .lastore => pL st fun v st => pI st fun i st => pR 21 st fun o st => o.bind fun a => gd (xin i (gN M 21 a)) (go code bc bs ls st (sL M 21 a (xi i) v))
  | .aastore => pA st fun c1 w st => pI st fun i st => pA st fun c o st => match xisq c && Nat.beq c1 (xelt c) with
    | true => o.bind fun a => w.bind fun w => gd (xin i (gN M c a)) (go code bc bs ls st (sR M c a (xi i) (some w)))
    | false => none
  | .arraylength => pA st fun c o st => match Nat.ble 20 c && Nat.ble c 25 with
    | true => o.bind fun a => go code bc bs ls (.inl (Int32.ofNat (gN M c a)) :: st) M
    | false => none
  | .new idx => match xfind idx nw with
    | none => none
    | some (ci, nf) => match Nat.ble ci 12 with
      | true => xnew M ci nf bc bs fun bc bs M' => go code bc bs ls (.inr (.inr (ci, some (gA M ci))) :: st) M'
      | false => none
  | .newarray t => pI st fun n st => gd (n == Int32.ofNat tgt) (match Nat.ble 20 (xacode t) && Nat.ble tgt 100000 with
    | true => xnew M (xacode t) tgt bc bs fun bc bs M' => go code bc bs ls (.inr (.inr (xacode t, some (gA M (xacode t)))) :: st) M'
    | false => none)
  | .anewarray idx => match xfind idx nw with
    | none => none
    | some (ci, _) => pI st fun n st => gd (n == Int32.ofNat tgt) (match (Nat.beq ci 1 || Nat.beq ci 2) && Nat.ble tgt 100000 with
      | true => xnew M (xqof ci) tgt bc bs fun bc bs M' => go code bc bs ls (.inr (.inr (xqof ci, some (gA M (xqof ci)))) :: st) M'
      | false => none)
  | .ldc idx => match xfind idx ko with
    | some (.inl x) => go code bc bs ls (.inl x :: st) M
    | some (.inr (.inr q)) => go code bc bs ls (.inr (.inr q) :: st) M
    | _ => none
  | .ldc_w idx => match xfind idx ko with
    | some (.inl x) => go code bc bs ls (.inl x :: st) M
    | _ => none
  | .ldc2_w idx => match xfind idx ko with
    | some (.inr (.inl x)) => go code bc bs ls (.inr (.inl x) :: st) M
    | _ => none
  | .ifCond op _ => pI st fun x st => xif op x (go (xjump tgt prog) bc bs ls st M) (go code bc bs ls st M)
  | .if_icmp op _ => xbin st fun x y st => xic op x y (go (xjump tgt prog) bc bs ls st M) (go code bc bs ls st M)
  | .ifnull _ => pA st fun _ o st => match o with
    | none => go (xjump tgt prog) bc bs ls st M
    | some _ => go code bc bs ls st M
  | .goto _ => go (xjump tgt prog) bc bs ls st M
  | .tableswitch _ _ _ _ => pI st fun x st => xsw x (go (xjump tgt prog) bc bs ls st M) (fun t => go (xjump t prog) bc bs ls st M) sw
  | .ireturn => pI st fun x st => match st with
    | [] => rt (some (.inl x)) M
    | _ => none
  | .return_ => match st with
    | [] => rt none M
    | _ => none
  | .invokevirtual idx => xcall ca idx bc bs st M fun bc bs st M => go code bc bs ls st M
  | .invokespecial idx => xcall ca idx bc bs st M fun bc bs st M => go code bc bs ls st M
  | .invokestatic idx => xcall ca idx bc bs st M fun bc bs st M => go code bc bs ls st M
  | _ => none
def xrun (prog : List xE) (fl : xFl) (ko : List (Nat × xV)) (nw : xNw) (ca : xCa ρ) (cu : xCu ρ) (rt : Option xV → xM → Option ρ) : Nat → List xE → Nat → Nat → xLs → List xV → xM → Option ρ
  | 0, _, _, _, _, _, _ => none
  | _ + 1, [], _, _, _, _, _ => none
  | n + 1, (fg, pc, _, tgt, aux, sw, ins) :: code, bc, bs, ls, st, M => match fg with
    | 0 => xexec prog fl ko nw ca rt (xrun prog fl ko nw ca cu rt n) tgt aux sw ins code bc bs ls st M
    | _ + 1 => match xfind pc cu with
      | none => none
      | some h => h bc bs ls st M
end
section
variable {ρ : Type}
def xz (bc bs : Nat) (x : Option ρ) : Option ρ := match Nat.beq (bc + bs) 0 with
  | true => x
  | false => none
def xe (st : List xV) (x : Option ρ) : Option ρ := match st with
  | [] => x
  | _ => none
def xrtI (v : Option xV) (M : xM) : Option (Int32 × xM) := match v with
  | some (.inl x) => some (x, M)
  | _ => none
def xrtZ (v : Option xV) (M : xM) : Option (Int32 × xM) := match v with
  | some (.inl x) => gd (xbool x) (some (x, M))
  | _ => none
def xrtC (v : Option xV) (M : xM) : Option (Int32 × xM) := match v with
  | some (.inl x) => gd (xchar x) (some (x, M))
  | _ => none
def xrtV (v : Option xV) (M : xM) : Option xM := match v with
  | none => some M
  | some _ => none
def xmaxI (x y : Int32) : Int32 := if x < y then y else x
def xminI (x y : Int32) : Int32 := if y < x then y else x
def xcpok (sp dp n : Int32) (a b : Nat) : Bool := decide (0 ≤ sp.toInt ∧ 0 ≤ dp.toInt ∧ 0 ≤ n.toInt ∧ sp.toInt + n.toInt ≤ (a : Int) ∧ dp.toInt + n.toInt ≤ (b : Int))
def w_objInit (as : List xV) (M : xM) (k : Option xV → xM → Option ρ) : Option ρ := pA as fun _ o as => o.bind fun _ => xe as (k none M)
def w_max (as : List xV) (M : xM) (k : Option xV → xM → Option ρ) : Option ρ := pI as fun x as => pI as fun y as => xe as (k (some (.inl (xmaxI x y))) M)
def w_min (as : List xV) (M : xM) (k : Option xV → xM → Option ρ) : Option ρ := pI as fun x as => pI as fun y as => xe as (k (some (.inl (xminI x y))) M)
def w_arraycopy (as : List xV) (M : xM) (k : Option xV → xM → Option ρ) : Option ρ := pA as fun c o as => pI as fun sp as => pA as fun c2 o2 as => pI as fun dp as => pI as fun n as => xe as (match Nat.beq c c2 && (Nat.beq c 20 || Nat.beq c 22) with
  | true => o.bind fun a => o2.bind fun b => gd (xcpok sp dp n (gN M c a) (gN M c b)) (k none (cpI M c a b (xi sp) (xi dp) (xi n)))
  | false => none)
/-- the two texts -/
def xtx (q : Nat) : List Nat := match q with
  | 0 => [40, 41, 60, 61, 43, 45, 42, 59]
  | 1 => [98, 108, 111, 99, 107, 115, 32, 32, 115, 108, 111, 116, 115, 32, 32, 32, 114, 101, 115, 101, 114, 118, 101, 32, 102, 105, 108, 101, 32, 32, 32, 32, 112, 97, 103, 101, 115, 32, 32, 32, 99, 111, 108, 108, 101, 99, 116, 115, 119, 114, 105, 116, 101, 32, 32, 32, 114, 101, 109, 111, 118, 101, 32, 32, 111, 112, 101, 110, 32, 32, 32, 32, 99, 108, 111, 115, 101, 32, 32, 32, 99, 111, 109, 109, 105, 116, 32, 32, 99, 111, 108, 108, 101, 99, 116, 32, 112, 108, 97, 105, 110, 32, 32, 32, 108, 111, 103, 32, 32, 32, 32, 32, 116, 119, 105, 110, 32, 32, 32, 32, 115, 121, 110, 99, 32, 32, 32, 32, 110, 111, 116, 32, 32, 32, 32, 32, 97, 110, 100, 32, 32, 32, 32, 32, 111, 114, 32, 32, 32, 32, 32, 32, 101, 114, 97, 115, 101, 100, 32, 32, 108, 105, 118, 101, 32, 32, 32, 32, 100, 105, 114, 116, 121, 32, 32, 32, 106, 111, 117, 114, 110, 97, 108, 32]
  | _ => []
def xstrN (q : Nat) : Nat := (xtx q).length
def xstr (q i : Nat) : Int32 := Int32.ofNat ((xtx q).getD i 0)
/-- where a sign stands first; -1: nowhere -/
def xstrF (q : Nat) (c : Int32) : Int32 := match (List.range (xstrN q)).find? (fun i => xstr q i == c) with
  | some i => Int32.ofNat i
  | none => -1
def w_charAt (as : List xV) (M : xM) (k : Option xV → xM → Option ρ) : Option ρ := pR 30 as fun o as => o.bind fun q => pI as fun i as => xe as (gd (xin i (xstrN q)) (k (some (.inl (xstr q (xi i)))) M))
def w_indexOf (as : List xV) (M : xM) (k : Option xV → xM → Option ρ) : Option ρ := pR 30 as fun o as => o.bind fun q => pI as fun c as => xe as (gd (Nat.beq q 0) (k (some (.inl (xstrF q c))) M))
end
