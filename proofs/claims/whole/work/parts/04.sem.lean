/-! ===== values, memory: whole numbers stand for their rest modulo 2^32, 2^64; addresses are relative; 0 is null ===== -/
abbrev AV : Type := Int ⊕ (Int ⊕ Nat)
abbrev vI (x : Int) : AV := .inl x
abbrev vL (x : Int) : AV := .inr (.inl x)
abbrev vR (a : Nat) : AV := .inr (.inr a)
abbrev Ls : Type := List (Option AV)
abbrev Mem : Type := Nat × Nat × (Nat → Nat) × (Nat → Nat) × (Nat → Nat → Int) × (Nat → Nat → Nat) × (Nat → Nat → Int) × (Nat → Nat → Int) × (Nat → Nat → Nat)
/-- how many cells were made, how many slots; the kind and the length of each cell; fields (of ints, of references), rows (of ints, longs, references) -/
def mN (m : Mem) : Nat := m.1
def mZ (m : Mem) : Nat := m.2.1
def mK (m : Mem) : Nat → Nat := m.2.2.1
def mLen (m : Mem) : Nat → Nat := m.2.2.2.1
def mFI (m : Mem) : Nat → Nat → Int := m.2.2.2.2.1
def mFR (m : Mem) : Nat → Nat → Nat := m.2.2.2.2.2.1
def mAI (m : Mem) : Nat → Nat → Int := m.2.2.2.2.2.2.1
def mAL (m : Mem) : Nat → Nat → Int := m.2.2.2.2.2.2.2.1
def mAR (m : Mem) : Nat → Nat → Nat := m.2.2.2.2.2.2.2.2
def sFI (m : Mem) (f a : Nat) (v : Int) : Mem := (mN m, mZ m, mK m, mLen m, fun f' a' => if f' = f ∧ a' = a then v else mFI m f' a', mFR m, mAI m, mAL m, mAR m)
def sFR (m : Mem) (f a : Nat) (v : Nat) : Mem := (mN m, mZ m, mK m, mLen m, mFI m, fun f' a' => if f' = f ∧ a' = a then v else mFR m f' a', mAI m, mAL m, mAR m)
def sAI (m : Mem) (a : Nat) (r : Nat → Int) : Mem := (mN m, mZ m, mK m, mLen m, mFI m, mFR m, fun a' => if a' = a then r else mAI m a', mAL m, mAR m)
def sAL (m : Mem) (a : Nat) (r : Nat → Int) : Mem := (mN m, mZ m, mK m, mLen m, mFI m, mFR m, mAI m, fun a' => if a' = a then r else mAL m a', mAR m)
def sAR (m : Mem) (a : Nat) (r : Nat → Nat) : Mem := (mN m, mZ m, mK m, mLen m, mFI m, mFR m, mAI m, mAL m, fun a' => if a' = a then r else mAR m a')
/-- one cell more: of kind k, with len elements, sz slots; all is 0 there -/
def alloc (m : Mem) (k len sz : Nat) : Mem :=
  (mN m + 1, mZ m + sz, (fun a => if a = 100 + mN m then k else mK m a), (fun a => if a = 100 + mN m then len else mLen m a), (fun f a => if a = 100 + mN m then 0 else mFI m f a), (fun f a => if a = 100 + mN m then 0 else mFR m f a),
   (fun a => if a = 100 + mN m then fun _ => 0 else mAI m a), (fun a => if a = 100 + mN m then fun _ => 0 else mAL m a), (fun a => if a = 100 + mN m then fun _ => 0 else mAR m a))
def allocs (m : Mem) (k len sz : Nat) : Nat → Mem
  | 0 => m
  | n + 1 => alloc (allocs m k len sz n) k len sz
def up1 {α : Type} (f : Nat → α) (k : Nat) (x : α) : Nat → α := fun j => if j = k then x else f j
def cpy1 (f g : Nat → Int) (sp dp n : Nat) : Nat → Int := fun k => if dp ≤ k ∧ k < dp + n then f (sp + (k - dp)) else g k
/-! ===== the numbers of the machine ===== -/
def w32 (x : Int) : Int := (Int32.ofInt x).toInt
def w64 (x : Int) : Int := (Int64.ofInt x).toInt
def iAnd (x y : Int) : Int := (Int32.ofInt x &&& Int32.ofInt y).toInt
def iOr (x y : Int) : Int := (Int32.ofInt x ||| Int32.ofInt y).toInt
def iXor (x y : Int) : Int := (Int32.ofInt x ^^^ Int32.ofInt y).toInt
def iShl (x y : Int) : Int := (Int32.ofInt x <<< (Int32.ofInt y &&& 31)).toInt
def iShr (x y : Int) : Int := (Int32.ofInt x >>> (Int32.ofInt y &&& 31)).toInt
def iUshr (x y : Int) : Int := ((Int32.ofInt x).toUInt32 >>> ((Int32.ofInt y).toUInt32 &&& Int32.toUInt32 31)).toInt32.toInt
def iDiv (x y : Int) : Int := (Int32.ofInt x / Int32.ofInt y).toInt
def iRem (x y : Int) : Int := (Int32.ofInt x - Int32.ofInt x / Int32.ofInt y * Int32.ofInt y).toInt
def i2cF (x : Int) : Int := ((Int32.ofInt x).toUInt32 % 65536).toInt32.toInt
def lAnd (x y : Int) : Int := (Int64.ofInt x &&& Int64.ofInt y).toInt
def lOr (x y : Int) : Int := (Int64.ofInt x ||| Int64.ofInt y).toInt
def lXor (x y : Int) : Int := (Int64.ofInt x ^^^ Int64.ofInt y).toInt
def lShl (x y : Int) : Int := (Int64.ofInt x <<< ((Int32.ofInt y).toInt64 &&& 63)).toInt
def lShr (x y : Int) : Int := (Int64.ofInt x >>> ((Int32.ofInt y).toInt64 &&& 63)).toInt
def lUshr (x y : Int) : Int := ((Int64.ofInt x).toUInt64 >>> ((Int32.ofInt y).toInt64.toUInt64 &&& Int64.toUInt64 63)).toInt64.toInt
def lDiv (x y : Int) : Int := (Int64.ofInt x / Int64.ofInt y).toInt
def l2iF (x : Int) : Int := (Int64.ofInt x).toInt32.toInt
def lCmp (x y : Int) : Int := (lg_cmp (Int64.ofInt x) (Int64.ofInt y)).toInt
/-! ===== locals ===== -/
def stL (ls : Ls) (i : Nat) (v : AV) : Ls := match i with
  | 0 => ls.set 0 (some v)
  | i + 1 => match ls[i]? with
    | some (some (.inr (.inl _))) => (ls.set i none).set (i + 1) (some v)
    | _ => ls.set (i + 1) (some v)
def stL2 (ls : Ls) (i : Nat) (x : Int) : Ls := (stL ls i (vL x)).set (i + 1) none
/-! ===== what an instruction asks: its entry is (instruction, the place behind it, numbers, a constant) ===== -/
abbrev Ent : Type := Instr × Nat × List Nat × Int
abbrev Kn : Type := Nat → Ls → List AV → Mem → Prop
def n1 (e : Ent) : Nat := e.2.2.1.getD 0 0
def n2 (e : Ent) : Nat := e.2.2.1.getD 1 0
def n3 (e : Ent) : Nat := e.2.2.1.getD 2 0
def qI (st : List AV) (k : Int → List AV → Prop) : Prop := match st with
  | .inl x :: r => k x r
  | _ => False
def qII (st : List AV) (k : Int → Int → List AV → Prop) : Prop := match st with
  | .inl y :: .inl x :: r => k x y r
  | _ => False
def qL (st : List AV) (k : Int → List AV → Prop) : Prop := match st with
  | .inr (.inl x) :: r => k x r
  | _ => False
def qLL (st : List AV) (k : Int → Int → List AV → Prop) : Prop := match st with
  | .inr (.inl y) :: .inr (.inl x) :: r => k x y r
  | _ => False
def qLI (st : List AV) (k : Int → Int → List AV → Prop) : Prop := match st with
  | .inl y :: .inr (.inl x) :: r => k x y r
  | _ => False
def qR (st : List AV) (k : Nat → List AV → Prop) : Prop := match st with
  | .inr (.inr a) :: r => k a r
  | _ => False
def qRI (st : List AV) (k : Nat → Int → List AV → Prop) : Prop := match st with
  | .inl i :: .inr (.inr a) :: r => k a i r
  | _ => False
def lkI (ls : Ls) (i : Nat) (k : Int → Prop) : Prop := match ls[i]? with
  | some (some (.inl x)) => k x
  | _ => False
def lkL (ls : Ls) (i : Nat) (k : Int → Prop) : Prop := match ls[i]? with
  | some (some (.inr (.inl x))) => k x
  | _ => False
def lkR (ls : Ls) (i : Nat) (k : Nat → Prop) : Prop := match ls[i]? with
  | some (some (.inr (.inr x))) => k x
  | _ => False
/-- an index inside a row -/
def inR (i : Int) (n : Nat) : Prop := 0 ≤ w32 i ∧ w32 i < (n : Int)
def ix (i : Int) : Nat := (w32 i).toNat
def cmpI (o : Jvm.ClassFile.Cond) (x y : Int) : Prop := match o with
  | .eq => w32 x = w32 y
  | .ne => ¬ w32 x = w32 y
  | .lt => w32 x < w32 y
  | .ge => w32 y ≤ w32 x
  | .gt => w32 y < w32 x
  | .le => w32 x ≤ w32 y
def tsw (lo hi : Int) (ts : List Nat) (x : Int) : Nat := if x < lo ∨ hi < x then ts.getD 0 0 else ts.getD ((x - lo).toNat + 1) 0
def lsw : List Nat → Nat → Int → Nat
  | k :: t :: r, d, x => if x = (k : Int) then t else lsw r d x
  | _, d, _ => d
/-- the array kinds: 13 int, 14 long, 15 boolean, 16 to 18 rows of Best, Book, Design, 19 rows of int rows, 21 bytes of a text -/
def isArr (k : Nat) : Prop := k = 13 ∨ k = 14 ∨ k = 15 ∨ k = 16 ∨ k = 17 ∨ k = 18 ∨ k = 19 ∨ k = 21
def catS (r : List AV) : Nat := (r.map (fun v => match v with | .inr (.inl _) => 2 | _ => 1)).sum
def wp1 (e : Ent) (ls : Ls) (st : List AV) (m : Mem) (K : Kn) (Rt : Option AV → Mem → Prop) : Prop := match e.1 with
  | .iconst i => K e.2.1 ls (vI i :: st) m
  | .bipush i => K e.2.1 ls (vI i :: st) m
  | .sipush i => K e.2.1 ls (vI i :: st) m
  | .lconst i => K e.2.1 ls (vL (i.val : Int) :: st) m
  | .aconst_null => K e.2.1 ls (vR 0 :: st) m
  | .ldc _ => K e.2.1 ls ((bif Nat.beq (n1 e) 0 then vI e.2.2.2 else vR (n2 e)) :: st) m
  | .ldc_w _ => K e.2.1 ls (vI e.2.2.2 :: st) m
  | .ldc2_w _ => K e.2.1 ls (vL e.2.2.2 :: st) m
  | .iload i => lkI ls i fun x => K e.2.1 ls (vI x :: st) m
  | .iload_n i => lkI ls i.val fun x => K e.2.1 ls (vI x :: st) m
  | .lload i => lkL ls i fun x => K e.2.1 ls (vL x :: st) m
  | .lload_n i => lkL ls i.val fun x => K e.2.1 ls (vL x :: st) m
  | .aload i => lkR ls i fun x => K e.2.1 ls (vR x :: st) m
  | .aload_n i => lkR ls i.val fun x => K e.2.1 ls (vR x :: st) m
  | .istore i => qI st fun x r => K e.2.1 (stL ls i (vI x)) r m
  | .istore_n i => qI st fun x r => K e.2.1 (stL ls i.val (vI x)) r m
  | .lstore i => qL st fun x r => K e.2.1 (stL2 ls i x) r m
  | .lstore_n i => qL st fun x r => K e.2.1 (stL2 ls i.val x) r m
  | .astore i => qR st fun x r => K e.2.1 (stL ls i (vR x)) r m
  | .astore_n i => qR st fun x r => K e.2.1 (stL ls i.val (vR x)) r m
  | .iinc i n => lkI ls i fun x => K e.2.1 (stL ls i (vI (x + n))) st m
  | .iadd => qII st fun x y r => K e.2.1 ls (vI (x + y) :: r) m
  | .isub => qII st fun x y r => K e.2.1 ls (vI (x - y) :: r) m
  | .imul => qII st fun x y r => K e.2.1 ls (vI (x * y) :: r) m
  | .idiv => qII st fun x y r => w32 y ≠ 0 ∧ K e.2.1 ls (vI (iDiv x y) :: r) m
  | .irem => qII st fun x y r => w32 y ≠ 0 ∧ K e.2.1 ls (vI (iRem x y) :: r) m
  | .ineg => qI st fun x r => K e.2.1 ls (vI (-x) :: r) m
  | .iand => qII st fun x y r => K e.2.1 ls (vI (iAnd x y) :: r) m
  | .ior => qII st fun x y r => K e.2.1 ls (vI (iOr x y) :: r) m
  | .ixor => qII st fun x y r => K e.2.1 ls (vI (iXor x y) :: r) m
  | .ishl => qII st fun x y r => K e.2.1 ls (vI (iShl x y) :: r) m
  | .ishr => qII st fun x y r => K e.2.1 ls (vI (iShr x y) :: r) m
  | .iushr => qII st fun x y r => K e.2.1 ls (vI (iUshr x y) :: r) m
  | .i2l => qI st fun x r => K e.2.1 ls (vL (w32 x) :: r) m
  | .i2c => qI st fun x r => K e.2.1 ls (vI (i2cF x) :: r) m
  | .l2i => qL st fun x r => K e.2.1 ls (vI (l2iF x) :: r) m
  | .ladd => qLL st fun x y r => K e.2.1 ls (vL (x + y) :: r) m
  | .lsub => qLL st fun x y r => K e.2.1 ls (vL (x - y) :: r) m
  | .lmul => qLL st fun x y r => K e.2.1 ls (vL (x * y) :: r) m
  | .ldiv => qLL st fun x y r => w64 y ≠ 0 ∧ K e.2.1 ls (vL (lDiv x y) :: r) m
  | .land => qLL st fun x y r => K e.2.1 ls (vL (lAnd x y) :: r) m
  | .lor => qLL st fun x y r => K e.2.1 ls (vL (lOr x y) :: r) m
  | .lxor => qLL st fun x y r => K e.2.1 ls (vL (lXor x y) :: r) m
  | .lshl => qLI st fun x y r => K e.2.1 ls (vL (lShl x y) :: r) m
  | .lshr => qLI st fun x y r => K e.2.1 ls (vL (lShr x y) :: r) m
  | .lushr => qLI st fun x y r => K e.2.1 ls (vL (lUshr x y) :: r) m
  | .lcmp => qLL st fun x y r => K e.2.1 ls (vI (lCmp x y) :: r) m
  | .dup => match st with
    | .inl x :: r => K e.2.1 ls (vI x :: vI x :: r) m
    | .inr (.inr a) :: r => K e.2.1 ls (vR a :: vR a :: r) m
    | _ => False
  | .dup2 => match st with
    | .inl i :: .inr (.inr a) :: r => K e.2.1 ls (vI i :: vR a :: vI i :: vR a :: r) m
    | _ => False
  | .pop => match st with
    | .inl _ :: r => K e.2.1 ls r m
    | .inr (.inr _) :: r => K e.2.1 ls r m
    | _ => False
  | .goto _ => K (n1 e) ls st m
  | .ifCond o _ => qI st fun x r => (cmpI o x 0 → K (n1 e) ls r m) ∧ (¬ cmpI o x 0 → K e.2.1 ls r m)
  | .if_icmp o _ => qII st fun x y r => (cmpI o x y → K (n1 e) ls r m) ∧ (¬ cmpI o x y → K e.2.1 ls r m)
  | .ifnull _ => qR st fun a r => a ≠ 99 ∧ (a = 0 → K (n1 e) ls r m) ∧ (a ≠ 0 → K e.2.1 ls r m)
  | .ifnonnull _ => qR st fun a r => a ≠ 99 ∧ (a ≠ 0 → K (n1 e) ls r m) ∧ (a = 0 → K e.2.1 ls r m)
  | .tableswitch _ lo hi _ => qI st fun x r => K (tsw lo hi e.2.2.1 (w32 x)) ls r m
  | .lookupswitch _ _ => qI st fun x r => K (lsw (e.2.2.1.drop 1) (n1 e) (w32 x)) ls r m
  | .getfield _ => qR st fun a r => mK m a = n2 e ∧ K e.2.1 ls ((bif Nat.beq (n3 e) 2 then vR (mFR m (n1 e) a) else vI (mFI m (n1 e) a)) :: r) m
  | .putfield _ => match st with
    | .inl x :: .inr (.inr a) :: r => mK m a = n2 e ∧ (bif Nat.beq (n3 e) 1 then x = 0 ∨ x = 1 else True) ∧ n3 e < 2 ∧ K e.2.1 ls r (sFI m (n1 e) a x)
    | .inr (.inr v) :: .inr (.inr a) :: r => mK m a = n2 e ∧ n3 e = 2 ∧ K e.2.1 ls r (sFR m (n1 e) a v)
    | _ => False
  | .getstatic _ => K e.2.1 ls ((bif Nat.beq (n1 e) 0 then vI e.2.2.2 else vR 99) :: st) m
  | .arraylength => qR st fun a r => isArr (mK m a) ∧ K e.2.1 ls (vI (mLen m a : Int) :: r) m
  | .iaload => qRI st fun a i r => mK m a = 13 ∧ inR i (mLen m a) ∧ K e.2.1 ls (vI (mAI m a (ix i)) :: r) m
  | .baload => qRI st fun a i r => (mK m a = 15 ∨ mK m a = 21) ∧ inR i (mLen m a) ∧ K e.2.1 ls (vI (mAI m a (ix i)) :: r) m
  | .laload => qRI st fun a i r => mK m a = 14 ∧ inR i (mLen m a) ∧ K e.2.1 ls (vL (mAL m a (ix i)) :: r) m
  | .aaload => qRI st fun a i r => 16 ≤ mK m a ∧ mK m a ≤ 19 ∧ inR i (mLen m a) ∧ K e.2.1 ls (vR (mAR m a (ix i)) :: r) m
  | .iastore => match st with
    | .inl x :: .inl i :: .inr (.inr a) :: r => mK m a = 13 ∧ a ≠ 1 ∧ inR i (mLen m a) ∧ K e.2.1 ls r (sAI m a (up1 (mAI m a) (ix i) x))
    | _ => False
  | .bastore => match st with
    | .inl x :: .inl i :: .inr (.inr a) :: r => mK m a = 15 ∧ inR i (mLen m a) ∧ (x = 0 ∨ x = 1) ∧ K e.2.1 ls r (sAI m a (up1 (mAI m a) (ix i) x))
    | _ => False
  | .lastore => match st with
    | .inr (.inl x) :: .inl i :: .inr (.inr a) :: r => mK m a = 14 ∧ inR i (mLen m a) ∧ K e.2.1 ls r (sAL m a (up1 (mAL m a) (ix i) x))
    | _ => False
  | .aastore => match st with
    | .inr (.inr v) :: .inl i :: .inr (.inr a) :: r => 16 ≤ mK m a ∧ mK m a ≤ 18 ∧ mK m v = mK m a - 15 ∧ inR i (mLen m a) ∧ K e.2.1 ls r (sAR m a (up1 (mAR m a) (ix i) v))
    | _ => False
  | .new _ => n1 e ≤ 12 ∧ K e.2.1 ls (vR (100 + mN m) :: st) (alloc m (n1 e) 0 (n2 e))
  | .newarray _ => qI st fun x r => 0 ≤ w32 x ∧ w32 x ≤ 100000 ∧ K e.2.1 ls (vR (100 + mN m) :: r) (alloc m (n1 e) (ix x) (ix x))
  | .anewarray _ => qI st fun x r => 0 ≤ w32 x ∧ w32 x ≤ 100000 ∧ K e.2.1 ls (vR (100 + mN m) :: r) (alloc m (n1 e) (ix x) (ix x))
  | .multianewarray _ _ => qII st fun x y r => 0 ≤ w32 x ∧ w32 x ≤ 10000 ∧ 0 ≤ w32 y ∧ w32 y ≤ 10000 ∧
      K e.2.1 ls (vR (100 + mN m) :: r) (sAR (allocs (alloc m 19 (ix x) (ix x)) 13 (ix y) (ix y) (ix x)) (100 + mN m) (fun j => if j < ix x then 101 + mN m + j else 0))
  | .invokespecial _ => n1 e = 999 ∧ qR st fun a r => 100 ≤ a ∧ catS r ≤ 8 ∧ K e.2.1 ls r m
  | .invokestatic _ => n1 e = 998 ∧ match st with
    | .inl n :: .inl dp :: .inr (.inr b) :: .inl sp :: .inr (.inr a) :: r => mK m a = 13 ∧ mK m b = 13 ∧ 100 ≤ a ∧ 100 ≤ b ∧ a ≠ b ∧ catS r ≤ 8 ∧ 0 ≤ w32 sp ∧ 0 ≤ w32 dp ∧ 0 ≤ w32 n ∧ w32 sp + w32 n ≤ (mLen m a : Int) ∧ w32 dp + w32 n ≤ (mLen m b : Int) ∧
        K e.2.1 ls r (sAI m b (cpy1 (mAI m a) (mAI m b) (ix sp) (ix dp) (ix n)))
    | _ => False
  | .ireturn => qI st fun x r => r = [] ∧ (match n1 e with
    | 0 => Rt (some (vI x)) m
    | 1 => (x = 0 ∨ x = 1) ∧ Rt (some (vI x)) m
    | _ => (0 ≤ x ∧ x ≤ 127) ∧ Rt (some (vI x)) m)
  | .lreturn => qL st fun x r => r = [] ∧ Rt (some (vL x)) m
  | .areturn => qR st fun a r => r = [] ∧ Rt (some (vR a)) m
  | .return_ => st = [] ∧ Rt none m
  | _ => False
