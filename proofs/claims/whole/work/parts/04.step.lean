/-! ONE STEP of the small machine (no calls, no returns), and that the machine does it. -/
def mSt : List (Nat × String) := [(40, "house"), (86, "at"), (91, "heads"), (93, "jam"), (95, "habit"), (49, "spit"), (58, "tax"), (62, "grow"), (66, "draw"), (119, "or"), (127, "and"), (129, "not"), (158, "hidden"), (160, "stones"), (162, "year")]
def mStB : List (List Int32) := [[104, 111, 117, 115, 101], [97, 116], [104, 101, 97, 100, 115], [106, 97, 109], [104, 97, 98, 105, 116], [115, 112, 105, 116], [116, 97, 120], [103, 114, 111, 119], [100, 114, 97, 119], [111, 114], [97, 110, 100], [110, 111, 116], [104, 105, 100, 100, 101, 110], [115, 116, 111, 110, 101, 115], [121, 101, 97, 114]]
def mStL : List Nat := [5, 2, 5, 3, 5, 4, 3, 4, 4, 2, 3, 3, 6, 6, 4]
def mBad (h : mHp) : mC := (false, 0, [], [], h)
def mTg (pc : Nat) (off : Int) : Nat := ((pc : Int) + off).toNat
def mTk (pc : Nat) (off : Int) : Bool := decide (0 ≤ (pc : Int) + off)
def mU1 (st : List Value) (bad : mC) (f : Int32 → List Value → mC) : mC := match st with
  | .int x :: r => f x r
  | _ => bad
def mU2 (st : List Value) (bad : mC) (f : Int32 → Int32 → List Value → mC) : mC := match st with
  | .int y :: .int x :: r => f x y r
  | _ => bad
def mUl (st : List Value) (bad : mC) (f : Int64 → List Value → mC) : mC := match st with
  | .long x :: r => f x r
  | _ => bad
def mUll (st : List Value) (bad : mC) (f : Int64 → Int64 → List Value → mC) : mC := match st with
  | .long y :: .long x :: r => f x y r
  | _ => bad
def mUr (st : List Value) (bad : mC) (f : Nat → List Value → mC) : mC := match st with
  | .ref x :: r => f x r
  | _ => bad
def mUir (st : List Value) (bad : mC) (f : Int32 → Nat → List Value → mC) : mC := match st with
  | .int i :: .ref a :: r => f i a r
  | _ => bad
def mUxir (st : List Value) (bad : mC) (f : Value → Int32 → Nat → List Value → mC) : mC := match st with
  | x :: .int i :: .ref a :: r => f x i a r
  | _ => bad
def mUvr (st : List Value) (bad : mC) (f : Value → Nat → List Value → mC) : mC := match st with
  | v :: .ref a :: r => f v a r
  | _ => bad
def mUv (st : List Value) (bad : mC) (f : Value → List Value → mC) : mC := match st with
  | v :: r => f v r
  | _ => bad
def mUvv (st : List Value) (bad : mC) (f : Value → Value → List Value → mC) : mC := match st with
  | v :: w :: r => f v w r
  | _ => bad
def mUc (st : List Value) (bad : mC) (f : Int32 → Int32 → Nat → Int32 → Nat → List Value → mC) : mC := match st with
  | .int n :: .int dp :: .ref d :: .int sp :: .ref a :: r => f n dp d sp a r
  | _ => bad
/-- copying of ints between arrays -/
def cpyI (h : mHp) (a d : Nat) (sp dp n : Int32) : mHp := (va_up h.1 d (va_cpy (h.1 a) (h.1 d) (mIx sp) (mIx dp) (mIx n)), h.2)
def chC (h : mHp) (a d : Nat) (sp dp n : Int32) : Bool := (chL h a .int && chL h d .int) && ((!(decide (sp < 0)) && !(decide (dp < 0)) && !(decide (n < 0))) && (decide (mIx sp + mIx n ≤ mLen h a) && decide (mIx dp + mIx n ≤ mLen h d)))
def mPrev (L : List Value) (i : Nat) : Bool := match i with
  | 0 => true
  | j + 1 => (L.getD j (.retAddr 0)).category == 1
def mGet (a : Nat) (h : mHp) (r k : Nat) (ty : FieldType) : Value := match ty with
  | .long => .long (hJ h r k)
  | .object _ => .ref (hR h r k)
  | .array _ => .ref (hR h r k)
  | _ => .int (hI h r k)
/-- a value into a field: fits it, the heap then -/
def mPut (h : mHp) (r k : Nat) (ty : FieldType) (v : Value) : Bool × mHp := match ty, v with
  | .long, .long x => (true, putJ h r k x)
  | .object _, .ref x => (true, putR h r k x)
  | .array _, .ref x => (true, putR h r k x)
  | ty, .int x => (mFit ty x, putI h r k x)
  | _, _ => (false, h)
/-- is that field final -/
def mFin (a b : Nat) : Bool := match vwCl[a]? with
  | some q => (q.2.1 b).2.2.2
  | none => true
def mCond (cnd : ClassFile.Cond) (x y : Int32) (t f : Nat) : Nat := match cnd with
  | .eq => if x = y then t else f
  | .ne => if x = y then f else t
  | .lt => if x < y then t else f
  | .ge => if y ≤ x then t else f
  | .gt => if y < x then t else f
  | .le => if x ≤ y then t else f
def mTab (pc : Nat) : List Int → Int → Int → Int32 → Nat
  | [], _, d, _ => mTg pc d
  | o :: os, lo, d, x => if x = Int32.ofInt lo then mTg pc o else mTab pc os (lo + 1) d x
def mLd (ok : Bool) (pc : Nat) (L st : List Value) (h : mHp) (i : Nat) (cat : Nat) : mC := match cat, L.getD i (.retAddr 0) with
  | 0, .int x => (ok, pc, L, .int x :: st, h)
  | 1, .ref x => (ok, pc, L, .ref x :: st, h)
  | 2, .long x => (ok, pc, L, .long x :: st, h)
  | _, _ => mBad h
def mSto (ok : Bool) (pc nL : Nat) (L st : List Value) (h : mHp) (i : Nat) (cat : Nat) : mC := match cat, st with
  | 0, .int x :: r => (decide (i < nL) && (mPrev L i && ok), pc, L.set i (.int x), r, h)
  | 1, .ref x :: r => (decide (i < nL) && (mPrev L i && ok), pc, L.set i (.ref x), r, h)
  | 2, .long x :: r => (decide (i + 1 < nL) && (mPrev L i && ok), pc, (L.set i (.long x)).set (i + 1) (.retAddr 0), r, h)
  | _, _ => mBad h
/-- one row of code; nL: how many locals, fin: may final fields be written, nM, wM: how many cells and slots there may be -/
def mst (nL : Nat) (fin : Bool) (nM wM : Nat) (q : mI) (c : mC) : mC := match q, c with
  | (pc, ins, _, a, b), (ok, _, L, st, h) => match ins with
    | .iconst n => (ok, pc + 1, L, .int (Int32.ofInt n) :: st, h)
    | .bipush n => (ok, pc + 2, L, .int (Int8.ofInt n).toInt32 :: st, h)
    | .sipush n => (ok, pc + 3, L, .int (Int16.ofInt n).toInt32 :: st, h)
    | .lconst n => (ok, pc + 1, L, .long (Int64.ofNat (n : Nat)) :: st, h)
    | .ldc _ => if b = 0 then (ok, pc + 2, L, .int (Int32.ofNat a) :: st, h) else (ok, pc + 2, L, .ref (900000 + a) :: st, h)
    | .ldc_w _ => (ok, pc + 3, L, .int (Int32.ofNat a) :: st, h)
    | .ldc2_w _ => (ok, pc + 3, L, .long (Int64.ofNat a) :: st, h)
    | .iload i => mLd ok (pc + 2) L st h i 0
    | .iload_n i => mLd ok (pc + 1) L st h i 0
    | .aload i => mLd ok (pc + 2) L st h i 1
    | .aload_n i => mLd ok (pc + 1) L st h i 1
    | .lload i => mLd ok (pc + 2) L st h i 2
    | .lload_n i => mLd ok (pc + 1) L st h i 2
    | .istore i => mSto ok (pc + 2) nL L st h i 0
    | .istore_n i => mSto ok (pc + 1) nL L st h i 0
    | .astore i => mSto ok (pc + 2) nL L st h i 1
    | .astore_n i => mSto ok (pc + 1) nL L st h i 1
    | .lstore i => mSto ok (pc + 2) nL L st h i 2
    | .lstore_n i => mSto ok (pc + 1) nL L st h i 2
    | .iinc i n => (match L.getD i (.retAddr 0) with
      | .int x => (decide (i < nL) && (mPrev L i && ok), pc + 3, L.set i (.int (x + Int32.ofInt n)), st, h)
      | _ => mBad h)
    | .dup => mUv st (mBad h) (fun v r => ((v.category == 1) && ok, pc + 1, L, v :: v :: r, h))
    | .pop => mUv st (mBad h) (fun v r => ((v.category == 1) && ok, pc + 1, L, r, h))
    | .dup2 => mUvv st (mBad h) (fun v w r => ((v.category == 1) && ((w.category == 1) && ok), pc + 1, L, v :: w :: v :: w :: r, h))
    | .iadd => mU2 st (mBad h) (fun x y r => (ok, pc + 1, L, .int (x + y) :: r, h))
    | .isub => mU2 st (mBad h) (fun x y r => (ok, pc + 1, L, .int (x - y) :: r, h))
    | .imul => mU2 st (mBad h) (fun x y r => (ok, pc + 1, L, .int (x * y) :: r, h))
    | .idiv => mU2 st (mBad h) (fun x y r => (decide (¬ y = 0) && ok, pc + 1, L, .int (x / y) :: r, h))
    | .irem => mU2 st (mBad h) (fun x y r => (decide (¬ y = 0) && ok, pc + 1, L, .int (x - x / y * y) :: r, h))
    | .iand => mU2 st (mBad h) (fun x y r => (ok, pc + 1, L, .int (x &&& y) :: r, h))
    | .ior => mU2 st (mBad h) (fun x y r => (ok, pc + 1, L, .int (x ||| y) :: r, h))
    | .ixor => mU2 st (mBad h) (fun x y r => (ok, pc + 1, L, .int (x ^^^ y) :: r, h))
    | .ishl => mU2 st (mBad h) (fun x y r => (ok, pc + 1, L, .int (x <<< (y &&& 31)) :: r, h))
    | .ishr => mU2 st (mBad h) (fun x y r => (ok, pc + 1, L, .int (x >>> (y &&& 31)) :: r, h))
    | .iushr => mU2 st (mBad h) (fun x y r => (ok, pc + 1, L, .int (x.toUInt32 >>> (y.toUInt32 &&& Int32.toUInt32 31)).toInt32 :: r, h))
    | .ladd => mUll st (mBad h) (fun x y r => (ok, pc + 1, L, .long (x + y) :: r, h))
    | .lmul => mUll st (mBad h) (fun x y r => (ok, pc + 1, L, .long (x * y) :: r, h))
    | .lor => mUll st (mBad h) (fun x y r => (ok, pc + 1, L, .long (x ||| y) :: r, h))
    | .lcmp => mUll st (mBad h) (fun x y r => (ok, pc + 1, L, .int (lg_cmp x y) :: r, h))
    | .lshl => mU1 st (mBad h) (fun y r => mUl r (mBad h) (fun x r => (ok, pc + 1, L, .long (x <<< (y.toInt64 &&& 63)) :: r, h)))
    | .i2l => mU1 st (mBad h) (fun x r => (ok, pc + 1, L, .long x.toInt64 :: r, h))
    | .i2b => mU1 st (mBad h) (fun x r => (ok, pc + 1, L, .int x.toInt8.toInt32 :: r, h))
    | .i2c => mU1 st (mBad h) (fun x r => (ok, pc + 1, L, .int (x.toUInt32 % 65536).toInt32 :: r, h))
    | .goto off => (mTk pc off && ok, mTg pc off, L, st, h)
    | .if_icmp cnd off => mU2 st (mBad h) (fun x y r => (mTk pc off && ok, mCond cnd x y (mTg pc off) (pc + 3), L, r, h))
    | .ifCond cnd off => mU1 st (mBad h) (fun x r => (mTk pc off && ok, mCond cnd x 0 (mTg pc off) (pc + 3), L, r, h))
    | .tableswitch d lo hi os => mU1 st (mBad h) (fun x r => ((d :: os.toList).all (fun o => mTk pc o) && (decide (hi - lo + 1 = (os.toList.length : Int)) && (decide (-2147483648 ≤ lo ∧ hi ≤ 2147483647) && ok)), mTab pc os.toList lo d x, L, r, h))
    | .lookupswitch d ps => mU1 st (mBad h) (fun x r => (mTk pc (Op.lookupswitch.offset ps.toList d x.toInt) && ((ps.toList.zip (ps.toList.drop 1)).all (fun (a, next) => a.1 < next.1) && ok), mTg pc (Op.lookupswitch.offset ps.toList d x.toInt), L, r, h))
    | .getfield _ => mUr st (mBad h) (fun r t => (chO h r a && (decide (b < mNf a) && ok), pc + 3, L, mGet a h r b (mTy a b) :: t, h))
    | .putfield _ => mUvr st (mBad h) (fun v r t => (chO h r a && ((decide (b < mNf a) && (!(mFin a b) || fin)) && ((mPut h r b (mTy a b) v).1 && ok)), pc + 3, L, t, (mPut h r b (mTy a b) v).2))
    | .iaload => mUir st (mBad h) (fun i r t => (chA h r .int i && ok, pc + 1, L, .int (hI h r (mIx i)) :: t, h))
    | .baload => mUir st (mBad h) (fun i r t => ((chA h r .byte i || chA h r .boolean i) && ok, pc + 1, L, .int (hI h r (mIx i)) :: t, h))
    | .laload => mUir st (mBad h) (fun i r t => (chA h r .long i && ok, pc + 1, L, .long (hJ h r (mIx i)) :: t, h))
    | .aaload => mUir st (mBad h) (fun i r t => (chA h r (.array .int) i && ok, pc + 1, L, .ref (hR h r (mIx i)) :: t, h))
    | .iastore => mUxir st (mBad h) (fun v i r t => (match v with
      | .int x => (chA h r .int i && ok, pc + 1, L, t, putI h r (mIx i) x)
      | _ => mBad h))
    | .bastore => mUxir st (mBad h) (fun v i r t => (match v with
      | .int x => ((chA h r .byte i || chA h r .boolean i) && ok, pc + 1, L, t, putI h r (mIx i) (mNar h r x))
      | _ => mBad h))
    | .lastore => mUxir st (mBad h) (fun v i r t => (match v with
      | .long x => (chA h r .long i && ok, pc + 1, L, t, putJ h r (mIx i) x)
      | _ => mBad h))
    | .arraylength => mUr st (mBad h) (fun r t => (chL h r .int && ok, pc + 1, L, .int (Int32.ofNat (mLen h r)) :: t, h))
    | .invokestatic _ => if b = 7777 then mUc st (mBad h) (fun n dp d sp a t => (chC h a d sp dp n && (decide ((t.map fun v => v.category).sum ≤ 8) && ok), pc + 3, L, t, cpyI h a d sp dp n)) else mBad h
    | .invokespecial _ => if b = 8888 then mUr st (mBad h) (fun r t => (decide (r < hN h) && (decide ((t.map fun v => v.category).sum ≤ 8) && ok), pc + 3, L, t, h)) else mBad h
    | .newarray ty => mU1 st (mBad h) (fun n r => (!(decide (n < 0)) && (decide (mIx n ≤ 60000000) && (decide (hN h + 1 ≤ nM) && (decide (hW h + mIx n ≤ wM) && ok))), pc + 2, L, .ref (hN h) :: r, newA h (newarray.typeOf ty) (mIx n)))
    | .new _ => (decide (hN h + 1 ≤ nM) && (decide (hW h + mNf a ≤ wM) && ok), pc + 3, L, .ref (hN h) :: st, newO h a (mNf a))
    | .multianewarray _ d => mU2 st (mBad h) (fun n k r => (decide (d = 2) && (!(decide (n < 0)) && (!(decide (k < 0)) && (decide (mIx n ≤ 60000000) && (decide (mIx k ≤ 60000000) && (decide (hN h + 1 + mIx n ≤ nM) && (decide (hW h + mIx n + mIx n * mIx k ≤ wM) && ok)))))), pc + 4, L, .ref (hN h) :: r, newM h (mIx n) (mIx k)))
    | _ => mBad h
/-- a stretch of rows, one behind another -/
def mgo (nL : Nat) (fin : Bool) (nM wM : Nat) : List mI → mC → mC
  | [], c => c
  | q :: qs, c => mgo nL fin nM wM qs (cond (Nat.beq c.2.1 q.1) (mst nL fin nM wM q c) (mBad c.2.2.2.2))
