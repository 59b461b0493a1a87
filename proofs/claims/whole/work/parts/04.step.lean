/-! ONE STEP of the small machine (no calls, no returns), and that the machine does it. -/
def mSt : List (Nat × String) := [(36, "house"), (87, "at"), (92, "heads"), (94, "jam"), (96, "habit"), (63, "spit"), (68, "tax"), (72, "grow"), (46, "draw"), (120, "or"), (128, "and"), (130, "not"), (159, "hidden"), (161, "stones"), (163, "year")]
def mStB : List (List Int32) := [[104, 111, 117, 115, 101], [97, 116], [104, 101, 97, 100, 115], [106, 97, 109], [104, 97, 98, 105, 116], [115, 112, 105, 116], [116, 97, 120], [103, 114, 111, 119], [100, 114, 97, 119], [111, 114], [97, 110, 100], [110, 111, 116], [104, 105, 100, 100, 101, 110], [115, 116, 111, 110, 101, 115], [121, 101, 97, 114]]
def mStL : List Nat := [5, 2, 5, 3, 5, 4, 3, 4, 4, 2, 3, 3, 6, 6, 4]
def mBad (h : mHp) : mC := (false, 0, [], [], h)
def mTg (pc : Nat) (off : Int) : Nat := ((pc : Int) + off).toNat
def mTk (pc : Nat) (off : Int) : Bool := decide (0 ≤ (pc : Int) + off)
def mU1 (st : List Value) (bad : mC) (f : Int32 → List Value → mC) : mC := match st with
  | .int x :: r => f x r
  | _ => bad
def mU2 (st : List Value) (bad : mC) (f : Int32 → Int32 → List Value → mC) : mC := match st with
  | .int y :: .int x :: r => f x y r
  | _ => bad
def mUl (st : List Value) (bad : mC) (f : Int64 → List Value → mC) : mC := match st with
  | .long x :: r => f x r
  | _ => bad
def mUll (st : List Value) (bad : mC) (f : Int64 → Int64 → List Value → mC) : mC := match st with
  | .long y :: .long x :: r => f x y r
  | _ => bad
def mUr (st : List Value) (bad : mC) (f : Nat → List Value → mC) : mC := match st with
  | .ref x :: r => f x r
  | _ => bad
def mUir (st : List Value) (bad : mC) (f : Int32 → Nat → List Value → mC) : mC := match st with
  | .int i :: .ref a :: r => f i a r
  | _ => bad
def mUxir (st : List Value) (bad : mC) (f : Value → Int32 → Nat → List Value → mC) : mC := match st with
  | x :: .int i :: .ref a :: r => f x i a r
  | _ => bad
def mUvr (st : List Value) (bad : mC) (f : Value → Nat → List Value → mC) : mC := match st with
  | v :: .ref a :: r => f v a r
  | _ => bad
def mUv (st : List Value) (bad : mC) (f : Value → List Value → mC) : mC := match st with
  | v :: r => f v r
  | _ => bad
def mUvv (st : List Value) (bad : mC) (f : Value → Value → List Value → mC) : mC := match st with
  | v :: w :: r => f v w r
  | _ => bad
def mUc (st : List Value) (bad : mC) (f : Int32 → Int32 → Nat → Int32 → Nat → List Value → mC) : mC := match st with
  | .int n :: .int dp :: .ref d :: .int sp :: .ref a :: r => f n dp d sp a r
  | _ => bad
/-- copying of ints between arrays -/
def cpyI (h : mHp) (a d : Nat) (sp dp n : Int32) : mHp := (va_up h.1 d (va_cpy (h.1 a) (h.1 d) (mIx sp) (mIx dp) (mIx n)), h.2)
def cpOk (la ld : Nat) (sp dp n : Int32) : Bool := (!(decide (sp < 0)) && !(decide (dp < 0)) && !(decide (n < 0))) && (decide (mIx sp + mIx n ≤ la) && decide (mIx dp + mIx n ≤ ld))
def chC (h : mHp) (a d : Nat) (sp dp n : Int32) : Bool := (chL h a && chL h d) && cpOk (mLen h a) (mLen h d) sp dp n
/-- a store breaks a long that lies over its place -/
def mFix (L : List Value) (i : Nat) : List Value := match i with
  | 0 => L
  | j + 1 => (match L.getD j (.retAddr 0) with
    | .long _ => L.set j (.retAddr 0)
    | .double _ => L.set j (.retAddr 0)
    | _ => L)
def mGet (a : Nat) (h : mHp) (r k : Nat) (ty : FieldType) : Value := match ty with
  | .long => .long (hJ h r k)
  | .object _ => .ref (hR h r k)
  | .array _ => .ref (hR h r k)
  | _ => .int (hI h r k)
/-- is that field final -/
def mFin (a b : Nat) : Bool := match vwCl[a]? with
  | some q => (q.2.1 b).2.2.2
  | none => true
def mCond (cnd : ClassFile.Cond) (x y : Int32) (t f : Nat) : Nat := match cnd with
  | .eq => if x = y then t else f
  | .ne => if x = y then f else t
  | .lt => if x < y then t else f
  | .ge => if y ≤ x then t else f
  | .gt => if y < x then t else f
  | .le => if x ≤ y then t else f
def mLkp (pc : Nat) : List (Int × Int) → Int → Int32 → Nat
  | [], d, _ => mTg pc d
  | (v, o) :: os, d, x => if v = x.toInt then mTg pc o else mLkp pc os d x
def mTab (pc : Nat) : List Int → Int → Int → Int32 → Nat
  | [], _, d, _ => mTg pc d
  | o :: os, lo, d, x => if x = Int32.ofInt lo then mTg pc o else mTab pc os (lo + 1) d x
def mLd (ok : Bool) (pc : Nat) (L st : List Value) (h : mHp) (i : Nat) (cat : Nat) : mC := match cat, L.getD i (.retAddr 0) with
  | 0, .int x => (ok, pc, L, .int x :: st, h)
  | 1, .ref x => (ok, pc, L, .ref x :: st, h)
  | 2, .long x => (ok, pc, L, .long x :: st, h)
  | _, _ => mBad h
def mSto (ok : Bool) (pc nL : Nat) (L st : List Value) (h : mHp) (i : Nat) (cat : Nat) : mC := match cat, st with
  | 0, .int x :: r => (ok, pc, (mFix L i).set i (.int x), r, h)
  | 1, .ref x :: r => (ok, pc, (mFix L i).set i (.ref x), r, h)
  | 2, .long x :: r => (ok, pc, ((mFix L i).set i (.long x)).set (i + 1) (.retAddr 0), r, h)
  | _, _ => mBad h
/-- a value into a field of such a type -/
def mPutB (ty : FieldType) (v : Value) (ok : Bool) (pc : Nat) (L t : List Value) (h : mHp) (r a b : Nat) : mC := match ty, v with
    | .int, .int x => (chO h r a && ok, pc + 3, L, t, putI h r b x)
    | .boolean, .int x => (mFit .boolean x && (chO h r a && ok), pc + 3, L, t, putI h r b x)
    | .char, .int x => (mFit .char x && (chO h r a && ok), pc + 3, L, t, putI h r b x)
    | .long, .long x => (chO h r a && ok, pc + 3, L, t, putJ h r b x)
    | .object _, .ref x => (chO h r a && ok, pc + 3, L, t, putR h r b x)
    | .array _, .ref x => (chO h r a && ok, pc + 3, L, t, putR h r b x)
    | _, _ => mBad h
/-- one row of code; nL: how many locals, fin: may final fields be written, nM, wM: how many cells and slots there may be; pc, the row's two numbers; all well so far, locals, stack, heap -/
abbrev mFn : Type := Nat → Bool → Nat → Nat → Nat → Nat → Nat → Bool → List Value → List Value → mHp → mC
def c_bad : mFn := fun _ _ _ _ _ _ _ _ _ _ h => mBad h
def c_iconst (n : Int) : mFn := fun nL fin nM wM pc a b ok L st h => (ok, pc + 1, L, .int (Int32.ofInt n) :: st, h)
def c_bipush (n : Int) : mFn := fun nL fin nM wM pc a b ok L st h => (ok, pc + 2, L, .int (Int8.ofInt n).toInt32 :: st, h)
def c_sipush (n : Int) : mFn := fun nL fin nM wM pc a b ok L st h => (ok, pc + 3, L, .int (Int16.ofInt n).toInt32 :: st, h)
def c_lconst (n : Fin 2) : mFn := fun nL fin nM wM pc a b ok L st h => (ok, pc + 1, L, .long (Int64.ofNat (n : Nat)) :: st, h)
def c_ldc  : mFn := fun nL fin nM wM pc a b ok L st h => if b = 0 then (ok, pc + 2, L, .int (Int32.ofNat a) :: st, h) else (ok, pc + 2, L, .ref (900000 + a) :: st, h)
def c_ldc_w  : mFn := fun nL fin nM wM pc a b ok L st h => (ok, pc + 3, L, .int (Int32.ofNat a) :: st, h)
def c_ldc2_w  : mFn := fun nL fin nM wM pc a b ok L st h => (ok, pc + 3, L, .long (Int64.ofNat a) :: st, h)
def c_iload (i : Nat) : mFn := fun nL fin nM wM pc a b ok L st h => mLd ok (pc + 2) L st h i 0
def c_iload_n (i : Fin 4) : mFn := fun nL fin nM wM pc a b ok L st h => mLd ok (pc + 1) L st h i 0
def c_aload (i : Nat) : mFn := fun nL fin nM wM pc a b ok L st h => mLd ok (pc + 2) L st h i 1
def c_aload_n (i : Fin 4) : mFn := fun nL fin nM wM pc a b ok L st h => mLd ok (pc + 1) L st h i 1
def c_lload (i : Nat) : mFn := fun nL fin nM wM pc a b ok L st h => mLd ok (pc + 2) L st h i 2
def c_lload_n (i : Fin 4) : mFn := fun nL fin nM wM pc a b ok L st h => mLd ok (pc + 1) L st h i 2
def c_istore (i : Nat) : mFn := fun nL fin nM wM pc a b ok L st h => mSto ok (pc + 2) nL L st h i 0
def c_istore_n (i : Fin 4) : mFn := fun nL fin nM wM pc a b ok L st h => mSto ok (pc + 1) nL L st h i 0
def c_astore (i : Nat) : mFn := fun nL fin nM wM pc a b ok L st h => mSto ok (pc + 2) nL L st h i 1
def c_astore_n (i : Fin 4) : mFn := fun nL fin nM wM pc a b ok L st h => mSto ok (pc + 1) nL L st h i 1
def c_lstore (i : Nat) : mFn := fun nL fin nM wM pc a b ok L st h => mSto ok (pc + 2) nL L st h i 2
def c_lstore_n (i : Fin 4) : mFn := fun nL fin nM wM pc a b ok L st h => mSto ok (pc + 1) nL L st h i 2
def c_iinc (i : Nat) (n : Int) : mFn := fun nL fin nM wM pc a b ok L st h => (match L.getD i (.retAddr 0) with
      | .int x => (ok, pc + 3, (mFix L i).set i (.int (x + Int32.ofInt n)), st, h)
      | _ => mBad h)
def c_dup  : mFn := fun nL fin nM wM pc a b ok L st h => (match st with
    | .int x :: r => (ok, pc + 1, L, .int x :: .int x :: r, h)
    | .ref x :: r => (ok, pc + 1, L, .ref x :: .ref x :: r, h)
    | _ => mBad h)
def c_pop  : mFn := fun nL fin nM wM pc a b ok L st h => (match st with
    | .int _ :: r => (ok, pc + 1, L, r, h)
    | .ref _ :: r => (ok, pc + 1, L, r, h)
    | _ => mBad h)
def c_dup2  : mFn := fun nL fin nM wM pc a b ok L st h => (match st with
    | .int x :: .ref y :: r => (ok, pc + 1, L, .int x :: .ref y :: .int x :: .ref y :: r, h)
    | _ => mBad h)
def c_iadd  : mFn := fun nL fin nM wM pc a b ok L st h => mU2 st (mBad h) (fun x y r => (ok, pc + 1, L, .int (x + y) :: r, h))
def c_isub  : mFn := fun nL fin nM wM pc a b ok L st h => mU2 st (mBad h) (fun x y r => (ok, pc + 1, L, .int (x - y) :: r, h))
def c_imul  : mFn := fun nL fin nM wM pc a b ok L st h => mU2 st (mBad h) (fun x y r => (ok, pc + 1, L, .int (x * y) :: r, h))
def c_idiv  : mFn := fun nL fin nM wM pc a b ok L st h => mU2 st (mBad h) (fun x y r => (decide (¬ y = 0) && ok, pc + 1, L, .int (x / y) :: r, h))
def c_irem  : mFn := fun nL fin nM wM pc a b ok L st h => mU2 st (mBad h) (fun x y r => (decide (¬ y = 0) && ok, pc + 1, L, .int (x - x / y * y) :: r, h))
def c_iand  : mFn := fun nL fin nM wM pc a b ok L st h => mU2 st (mBad h) (fun x y r => (ok, pc + 1, L, .int (x &&& y) :: r, h))
def c_ior  : mFn := fun nL fin nM wM pc a b ok L st h => mU2 st (mBad h) (fun x y r => (ok, pc + 1, L, .int (x ||| y) :: r, h))
def c_ixor  : mFn := fun nL fin nM wM pc a b ok L st h => mU2 st (mBad h) (fun x y r => (ok, pc + 1, L, .int (x ^^^ y) :: r, h))
def c_ishl  : mFn := fun nL fin nM wM pc a b ok L st h => mU2 st (mBad h) (fun x y r => (ok, pc + 1, L, .int (x <<< (y &&& 31)) :: r, h))
def c_ishr  : mFn := fun nL fin nM wM pc a b ok L st h => mU2 st (mBad h) (fun x y r => (ok, pc + 1, L, .int (x >>> (y &&& 31)) :: r, h))
def c_iushr  : mFn := fun nL fin nM wM pc a b ok L st h => mU2 st (mBad h) (fun x y r => (ok, pc + 1, L, .int (x.toUInt32 >>> (y.toUInt32 &&& Int32.toUInt32 31)).toInt32 :: r, h))
def c_ladd  : mFn := fun nL fin nM wM pc a b ok L st h => mUll st (mBad h) (fun x y r => (ok, pc + 1, L, .long (x + y) :: r, h))
def c_lmul  : mFn := fun nL fin nM wM pc a b ok L st h => mUll st (mBad h) (fun x y r => (ok, pc + 1, L, .long (x * y) :: r, h))
def c_lor  : mFn := fun nL fin nM wM pc a b ok L st h => mUll st (mBad h) (fun x y r => (ok, pc + 1, L, .long (x ||| y) :: r, h))
def c_lcmp  : mFn := fun nL fin nM wM pc a b ok L st h => mUll st (mBad h) (fun x y r => (ok, pc + 1, L, .int (lg_cmp x y) :: r, h))
def c_lshl  : mFn := fun nL fin nM wM pc a b ok L st h => mU1 st (mBad h) (fun y r => mUl r (mBad h) (fun x r => (ok, pc + 1, L, .long (x <<< (y.toInt64 &&& 63)) :: r, h)))
def c_i2l  : mFn := fun nL fin nM wM pc a b ok L st h => mU1 st (mBad h) (fun x r => (ok, pc + 1, L, .long x.toInt64 :: r, h))
def c_i2b  : mFn := fun nL fin nM wM pc a b ok L st h => mU1 st (mBad h) (fun x r => (ok, pc + 1, L, .int x.toInt8.toInt32 :: r, h))
def c_i2c  : mFn := fun nL fin nM wM pc a b ok L st h => mU1 st (mBad h) (fun x r => (ok, pc + 1, L, .int (x.toUInt32 % 65536).toInt32 :: r, h))
def c_goto (off : Int) : mFn := fun nL fin nM wM pc a b ok L st h => (ok, mTg pc off, L, st, h)
def c_if_icmp (cnd : ClassFile.Cond) (off : Int) : mFn := fun nL fin nM wM pc a b ok L st h => mU2 st (mBad h) (fun x y r => (ok, mCond cnd x y (mTg pc off) (pc + 3), L, r, h))
def c_ifCond (cnd : ClassFile.Cond) (off : Int) : mFn := fun nL fin nM wM pc a b ok L st h => mU1 st (mBad h) (fun x r => (ok, mCond cnd x 0 (mTg pc off) (pc + 3), L, r, h))
def c_aconst_null : mFn := fun nL fin nM wM pc a b ok L st h => (ok, pc + 1, L, .ref NUL :: st, h)
def c_ifnull (off : Int) : mFn := fun nL fin nM wM pc a b ok L st h => mUr st (mBad h) (fun x r => (ok, if x = NUL then mTg pc off else pc + 3, L, r, h))
def c_tableswitch (d lo hi : Int) (os : Array Int) : mFn := fun nL fin nM wM pc a b ok L st h => mU1 st (mBad h) (fun x r => (ok, mTab pc os.toList lo d x, L, r, h))
def c_lookupswitch (d : Int) (ps : Array (Int × Int)) : mFn := fun nL fin nM wM pc a b ok L st h => mU1 st (mBad h) (fun x r => (ok, mLkp pc ps.toList d x, L, r, h))
def c_getfield  : mFn := fun nL fin nM wM pc a b ok L st h => mUr st (mBad h) (fun r t => (chO h r a && ok, pc + 3, L, mGet a h r b (mTy a b) :: t, h))
def c_putfield  : mFn := fun nL fin nM wM pc a b ok L st h => mUvr st (mBad h) (fun v r t => mPutB (mTy a b) v ok pc L t h r a b)
def c_iaload  : mFn := fun nL fin nM wM pc a b ok L st h => mUir st (mBad h) (fun i r t => (chI h r i && ok, pc + 1, L, .int (hI h r (mIx i)) :: t, h))
def c_baload  : mFn := fun nL fin nM wM pc a b ok L st h => mUir st (mBad h) (fun i r t => (chB h r i && ok, pc + 1, L, .int (hI h r (mIx i)) :: t, h))
def c_laload  : mFn := fun nL fin nM wM pc a b ok L st h => mUir st (mBad h) (fun i r t => (chJ h r i && ok, pc + 1, L, .long (hJ h r (mIx i)) :: t, h))
def c_aaload  : mFn := fun nL fin nM wM pc a b ok L st h => mUir st (mBad h) (fun i r t => (chR h r i && ok, pc + 1, L, .ref (hR h r (mIx i)) :: t, h))
def c_iastore  : mFn := fun nL fin nM wM pc a b ok L st h => mUxir st (mBad h) (fun v i r t => (match v with
      | .int x => (chI h r i && ok, pc + 1, L, t, putI h r (mIx i) x)
      | _ => mBad h))
def c_bastore  : mFn := fun nL fin nM wM pc a b ok L st h => mUxir st (mBad h) (fun v i r t => (match v with
      | .int x => (chB h r i && ok, pc + 1, L, t, putI h r (mIx i) (mNar h r x))
      | _ => mBad h))
def c_lastore  : mFn := fun nL fin nM wM pc a b ok L st h => mUxir st (mBad h) (fun v i r t => (match v with
      | .long x => (chJ h r i && ok, pc + 1, L, t, putJ h r (mIx i) x)
      | _ => mBad h))
def c_arraylength  : mFn := fun nL fin nM wM pc a b ok L st h => mUr st (mBad h) (fun r t => (chL h r && ok, pc + 1, L, .int (Int32.ofNat (mLen h r)) :: t, h))
def c_invokestatic  : mFn := fun nL fin nM wM pc a b ok L st h => cond (Nat.beq b 7777) (match st with
    | [.int n, .int dp, .ref d, .int sp, .ref a] => (chC h a d sp dp n && ok, pc + 3, L, [], cpyI h a d sp dp n)
    | _ => mBad h) (mBad h)
def c_invokespecial  : mFn := fun nL fin nM wM pc a b ok L st h => cond (Nat.beq b 8888) (match st with
    | [.ref r] => (Nat.blt r (hN h) && ok, pc + 3, L, [], h)
    | _ => mBad h) (mBad h)
def c_newarray (ty : ArrayType) : mFn := fun nL fin nM wM pc a b ok L st h => mU1 st (mBad h) (fun n r => (!(decide (n < 0)) && (decide (mIx n ≤ 60000000) && (decide (hN h + 1 ≤ nM) && (decide (hW h + mIx n ≤ wM) && ok))), pc + 2, L, .ref (hN h) :: r, newA h (newarray.typeOf ty) (mIx n)))
def c_new  : mFn := fun nL fin nM wM pc a b ok L st h => (decide (hN h + 1 ≤ nM) && (decide (hW h + mNf a ≤ wM) && ok), pc + 3, L, .ref (hN h) :: st, newO h a (mNf a))
def c_multianewarray (d : Nat) : mFn := fun nL fin nM wM pc a b ok L st h => mU2 st (mBad h) (fun n k r => (decide (d = 2) && (!(decide (n < 0)) && (!(decide (k < 0)) && (decide (mIx n ≤ 60000000) && (decide (mIx k ≤ 60000000) && (decide (hN h + 1 + mIx n ≤ nM) && (decide (hW h + mIx n + mIx n * mIx k ≤ wM) && ok)))))), pc + 4, L, .ref (hN h) :: r, newM h (mIx n) (mIx k)))
def mDis (ins : Instr) : mFn := match ins with
  | .iconst n => c_iconst n
  | .bipush n => c_bipush n
  | .sipush n => c_sipush n
  | .lconst n => c_lconst n
  | .ldc _ => c_ldc
  | .ldc_w _ => c_ldc_w
  | .ldc2_w _ => c_ldc2_w
  | .iload i => c_iload i
  | .iload_n i => c_iload_n i
  | .aload i => c_aload i
  | .aload_n i => c_aload_n i
  | .lload i => c_lload i
  | .lload_n i => c_lload_n i
  | .istore i => c_istore i
  | .istore_n i => c_istore_n i
  | .astore i => c_astore i
  | .astore_n i => c_astore_n i
  | .lstore i => c_lstore i
  | .lstore_n i => c_lstore_n i
  | .iinc i n => c_iinc i n
  | .dup => c_dup
  | .pop => c_pop
  | .dup2 => c_dup2
  | .iadd => c_iadd
  | .isub => c_isub
  | .imul => c_imul
  | .idiv => c_idiv
  | .irem => c_irem
  | .iand => c_iand
  | .ior => c_ior
  | .ixor => c_ixor
  | .ishl => c_ishl
  | .ishr => c_ishr
  | .iushr => c_iushr
  | .ladd => c_ladd
  | .lmul => c_lmul
  | .lor => c_lor
  | .lcmp => c_lcmp
  | .lshl => c_lshl
  | .i2l => c_i2l
  | .i2b => c_i2b
  | .i2c => c_i2c
  | .goto off => c_goto off
  | .if_icmp cnd off => c_if_icmp cnd off
  | .ifCond cnd off => c_ifCond cnd off
  | .aconst_null => c_aconst_null
  | .ifnull off => c_ifnull off
  | .tableswitch d lo hi os => c_tableswitch d lo hi os
  | .lookupswitch d ps => c_lookupswitch d ps
  | .getfield _ => c_getfield
  | .putfield _ => c_putfield
  | .iaload => c_iaload
  | .baload => c_baload
  | .laload => c_laload
  | .aaload => c_aaload
  | .iastore => c_iastore
  | .bastore => c_bastore
  | .lastore => c_lastore
  | .arraylength => c_arraylength
  | .invokestatic _ => c_invokestatic
  | .invokespecial _ => c_invokespecial
  | .newarray ty => c_newarray ty
  | .new _ => c_new
  | .multianewarray _ d => c_multianewarray d
  | _ => c_bad
def mst (nL : Nat) (fin : Bool) (nM wM : Nat) (q : mI) (c : mC) : mC := mDis q.2.1 nL fin nM wM q.1 q.2.2.2.1 q.2.2.2.2 c.1 c.2.2.1 c.2.2.2.1 c.2.2.2.2
/-- a stretch of rows, one behind another -/
def mgo (nL : Nat) (fin : Bool) (nM wM : Nat) : List mI → mC → mC
  | [], c => c
  | q :: qs, c => mgo nL fin nM wM qs (cond (Nat.beq c.2.1 q.1) (mst nL fin nM wM q c) (mBad c.2.2.2.2))
