/-- the words that stay as they are while classes are linked -/
def mTb : List Cond := lw_tbl.filter goodWord
theorem mTb_in {w : Cond} (h : w ∈ mTb) : w ∈ lw_tbl := (List.mem_filter.mp h).1
theorem mTb_good : ∀ w ∈ mTb, (w.onTables && w.keeps) = true ∨ ∃ ty, w = .arrayClass ty := fun w h => good_of_word (List.mem_filter.mp h).2
/-- calls of private members of nest mates -/
def mNs : List (String × Nat × MethodName × String) := [(RX11, 9, yX4_init, "StoneCensus"), (RX11, 18, yX8_init, "StoneCensus"), (RX8, 30, yX0_init, "StoneCensus"), (RX11, 35, yX2_init, "StoneCensus"), (RX11, 42, yX1_init, "StoneCensus"), (RX11, 49, yX6_init, "StoneCensus"), (RX11, 56, yX7_init, "StoneCensus"), (RX11, 63, yX5_init, "StoneCensus"), (RX11, 70, yX10_init, "StoneCensus"), (RX10, 25, yX9_init, "StoneCensus"), (RX11, 77, yX3_init, "StoneCensus"), (RX3, 18, yX9_init, "StoneCensus"), (RX8, 80, yX11_limited, "StoneCensus")]
/-! THE SMALL MACHINE. A heap is six things: what ints, longs and references the cells hold (by cell and place), what each cell is (a class's number, or an array's element type and length), how many cells and how many slots there are. A reference is a cell's number; NUL is null; from 900000 on the numbers are cells of the start (the script, the String constants). -/
abbrev mSh : Type := Nat ⊕ (FieldType × Nat)
abbrev mHp : Type := (Nat → Nat → Int32) × (Nat → Nat → Int64) × (Nat → Nat → Nat) × (Nat → mSh) × Nat × Nat
/-- a configuration: is all well so far, pc, locals, stack, heap -/
abbrev mC : Type := Bool × Nat × List Value × List Value × mHp
/-- a row of code: pc, instruction, length, two numbers that say what its index means -/
abbrev mI : Type := Nat × Instr × Nat × Nat × Nat
def hI (h : mHp) : Nat → Nat → Int32 := h.1
def hJ (h : mHp) : Nat → Nat → Int64 := h.2.1
def hR (h : mHp) : Nat → Nat → Nat := h.2.2.1
def hS (h : mHp) : Nat → mSh := h.2.2.2.1
def hN (h : mHp) : Nat := h.2.2.2.2.1
def hW (h : mHp) : Nat := h.2.2.2.2.2
def up2 {α : Type} (f : Nat → Nat → α) (i k : Nat) (v : α) : Nat → Nat → α := va_up f i (va_up (f i) k v)
def putI (h : mHp) (i k : Nat) (v : Int32) : mHp := (up2 h.1 i k v, h.2)
def putJ (h : mHp) (i k : Nat) (v : Int64) : mHp := (h.1, up2 h.2.1 i k v, h.2.2)
def putR (h : mHp) (i k v : Nat) : mHp := (h.1, h.2.1, up2 h.2.2.1 i k v, h.2.2.2)
def NUL : Nat := 999999
def mB : Nat := 900000
def newA (h : mHp) (ty : FieldType) (n : Nat) : mHp := (va_up h.1 (hN h) (fun _ => 0), va_up h.2.1 (hN h) (fun _ => 0), va_up h.2.2.1 (hN h) (fun _ => NUL), va_up h.2.2.2.1 (hN h) (.inr (ty, n)), hN h + 1, hW h + n)
def newO (h : mHp) (c n : Nat) : mHp := (va_up h.1 (hN h) (fun _ => 0), va_up h.2.1 (hN h) (fun _ => 0), va_up h.2.2.1 (hN h) (fun _ => NUL), va_up h.2.2.2.1 (hN h) (.inl c), hN h + 1, hW h + n)
/-- new int[n][k] -/
def newM (h : mHp) (n k : Nat) : mHp :=
  (fun a => if hN h ≤ a then (fun _ => 0) else h.1 a, fun a => if hN h ≤ a then (fun _ => 0) else h.2.1 a,
   fun a => if hN h ≤ a then (if a = hN h then (fun j => if j < n then hN h + 1 + j else NUL) else fun _ => NUL) else h.2.2.1 a,
   fun a => if hN h ≤ a then (if a = hN h then .inr (.array .int, n) else .inr (.int, k)) else h.2.2.2.1 a, hN h + 1 + n, hW h + n + n * k)
def mIx (i : Int32) : Nat := i.toNatClampNeg
def mIn (i : Int32) (n : Nat) : Bool := !(decide (i < 0)) && decide (i.toNatClampNeg < n)
/-- r is an object of class c -/
def kAO (n : Nat) (sh : mSh) (r c : Nat) : Bool := Nat.blt r n && (match sh with
  | .inl x => Nat.beq x c
  | .inr _ => false)
/-- r is an array of ints (of bytes or booleans; of longs; of rows of ints), and i is a place of it -/
def kAI (n : Nat) (sh : mSh) (r : Nat) (i : Int32) : Bool := Nat.blt r n && (match sh with
  | .inr (.int, n) => mIn i n
  | _ => false)
def kAB (n : Nat) (sh : mSh) (r : Nat) (i : Int32) : Bool := Nat.blt r n && (match sh with
  | .inr (.byte, n) => mIn i n
  | .inr (.boolean, n) => mIn i n
  | _ => false)
def kAJ (n : Nat) (sh : mSh) (r : Nat) (i : Int32) : Bool := Nat.blt r n && (match sh with
  | .inr (.long, n) => mIn i n
  | _ => false)
def kAR (n : Nat) (sh : mSh) (r : Nat) (i : Int32) : Bool := Nat.blt r n && (match sh with
  | .inr (.array .int, n) => mIn i n
  | _ => false)
def kLen (sh : mSh) : Nat := match sh with
  | .inr (_, n) => n
  | .inl _ => 0
def kAL (n : Nat) (sh : mSh) (r : Nat) : Bool := Nat.blt r n && (match sh with
  | .inr (.int, _) => true
  | _ => false)
def chO (h : mHp) (r c : Nat) : Bool := kAO (hN h) (hS h r) r c
def chI (h : mHp) (r : Nat) (i : Int32) : Bool := kAI (hN h) (hS h r) r i
def chB (h : mHp) (r : Nat) (i : Int32) : Bool := kAB (hN h) (hS h r) r i
def chJ (h : mHp) (r : Nat) (i : Int32) : Bool := kAJ (hN h) (hS h r) r i
def chR (h : mHp) (r : Nat) (i : Int32) : Bool := kAR (hN h) (hS h r) r i
def mLen (h : mHp) (r : Nat) : Nat := kLen (hS h r)
def chL (h : mHp) (r : Nat) : Bool := kAL (hN h) (hS h r) r
/-- what a store into a byte or a boolean array makes of a number -/
def kNar (sh : mSh) (x : Int32) : Int32 := match sh with
  | .inr (.byte, _) => vp_nar .byte x
  | _ => vp_nar .boolean x
def mNar (h : mHp) (r : Nat) (x : Int32) : Int32 := kNar (hS h r) x
/-- a number fits a field -/
def mFit (ty : FieldType) (x : Int32) : Bool := match ty with
  | .int => true
  | .boolean => decide (x = 0 ∨ x = 1)
  | .char => decide (narrow .char (.int x) = .int x) && fits .char (.int x)
  | _ => false
def mTy (c k : Nat) : FieldType := match c with
  | 0 => tyX0 k
  | 1 => tyX1 k
  | 2 => tyX2 k
  | 3 => tyX3 k
  | 4 => tyX4 k
  | 5 => tyX5 k
  | 6 => tyX6 k
  | 7 => tyX7 k
  | 8 => tyX8 k
  | 9 => tyX9 k
  | 10 => tyX10 k
  | 11 => tyX11 k
  | _ => tyX12 k
def mNf (c : Nat) : Nat := cond (Nat.blt c 6) (cond (Nat.blt c 3) (cond (Nat.beq c 0) 5 (cond (Nat.beq c 1) 4 6)) (cond (Nat.beq c 3) 9 (cond (Nat.beq c 4) 10 6))) (cond (Nat.blt c 9) (cond (Nat.beq c 6) 9 (cond (Nat.beq c 7) 5 12)) (cond (Nat.blt c 11) (cond (Nat.beq c 9) 3 15) (cond (Nat.beq c 11) 15 73)))
/-! what the cells are in the machine -/
/-- the first address, the addresses of the start's cells, of the strings' bytes, the classes, the arrays' classes -/
abbrev mG : Type := Nat × (Nat → Nat) × (Nat → Nat) × va_G × (FieldType → ClassId)
def mAd (G : mG) (i : Nat) : Nat := if i < 900000 then G.1 + i else G.2.1 (i - 900000)
def mRo (G : mG) (i : Nat) : Option Nat := if i = NUL then none else some (mAd G i)
def mCv (G : mG) (v : Value) : Value := match v with
  | .ref i => va_rf (mRo G i)
  | w => w
def mFv (G : mG) (h : mHp) (i k : Nat) (ty : FieldType) : Value := match ty with
  | .long => .long (hJ h i k)
  | .object _ => va_rf (mRo G (hR h i k))
  | .array _ => va_rf (mRo G (hR h i k))
  | _ => .int (hI h i k)
def mAr (G : mG) (h : mHp) (i n : Nat) (ty : FieldType) : vp_A := match ty with
  | .long => (n, .inr (.inl (hJ h i)))
  | .object _ => (n, .inr (.inr (.inr (.inr (fun k => mRo G (hR h i k))))))
  | .array _ => (n, .inr (.inr (.inr (.inr (fun k => mRo G (hR h i k))))))
  | _ => (n, .inl (hI h i))
def mEl (G : mG) (h : mHp) (i : Nat) : va_E := match hS h i with
  | .inl c => .inr (c, (List.range (mNf c)).map (fun k => mFv G h i k (mTy c k)))
  | .inr (ty, n) => .inl (G.2.2.2.2 ty, mAr G h i n ty)
def mWs (G : mG) (h : mHp) : va_W := (List.range (hN h)).map (fun i => (G.1 + i, mEl G h i))
def mA (G : mG) : Nat → Prop := fun q => G.1 ≤ q
def mWd (G : mG) (h : mHp) (H : Heap) : Prop := va_P G.2.2.2.1 vwCl (mWs G h) H ∧ hN h ≤ 900000
abbrev mTys (G : mG) : List (ClassId × FieldType) := [(G.2.2.2.2 .int, .int), (G.2.2.2.2 .byte, .byte), (G.2.2.2.2 .boolean, .boolean), (G.2.2.2.2 .long, .long), (G.2.2.2.2 (.array .int), .array .int)]
theorem mWs_get {G : mG} {h : mHp} {i : Nat} (hi : i < hN h) : (mWs G h)[i]? = some (G.1 + i, mEl G h i) := by
  unfold mWs
  rw [List.getElem?_map, List.getElem?_range hi]
  rfl
theorem mWs_len {G : mG} {h : mHp} : (mWs G h).length = hN h := by simp [mWs]
theorem mWs_D {G : mG} {h : mHp} : va_D (mA G) (mWs G h) := by
  have key : ∀ (k : Nat) (q : Nat × va_E), (mWs G h)[k]? = some q → q.1 = G.1 + k := by
    intro k q hk
    by_cases hl : k < hN h
    · rw [mWs_get hl] at hk
      cases hk
      rfl
    · rw [List.getElem?_eq_none (by rw [mWs_len]; omega)] at hk
      cases hk
  refine ⟨fun i j p q hi hj e => ?_, fun k q hk => ?_⟩
  · have h1 := key i p hi
    have h2 := key j q hj
    omega
  · have h1 := key k q hk
    show G.1 ≤ q.1
    omega
theorem mWs_set {G : mG} {h h' : mHp} {r : Nat} {e : va_E} (hn : hN h' = hN h) (hr : r < hN h) (he : mEl G h' r = e) (ho : ∀ j, j < hN h → j ≠ r → mEl G h' j = mEl G h j) : (mWs G h).set r (G.1 + r, e) = mWs G h' := by
  apply List.ext_getElem?
  intro k
  by_cases hk : k < hN h
  · rw [mWs_get (h := h') (by omega)]
    by_cases e1 : k = r
    · subst e1
      rw [List.getElem?_set_self (by rw [mWs_len]; exact hk), he]
    · rw [List.getElem?_set_ne (fun z => e1 z.symm), mWs_get hk, ho k hk e1]
  · rw [List.getElem?_eq_none (by rw [List.length_set, mWs_len]; omega), List.getElem?_eq_none (by rw [mWs_len]; omega)]
theorem mWs_push {G : mG} {h h' : mHp} {e : va_E} (hn : hN h' = hN h + 1) (he : mEl G h' (hN h) = e) (ho : ∀ j, j < hN h → mEl G h' j = mEl G h j) : mWs G h ++ [(G.1 + hN h, e)] = mWs G h' := by
  apply List.ext_getElem?
  intro k
  by_cases hk : k < hN h
  · rw [mWs_get (h := h') (by omega), List.getElem?_append_left (by rw [mWs_len]; exact hk), mWs_get hk, ho k hk]
  · rw [List.getElem?_append_right (by rw [mWs_len]; omega), mWs_len]
    by_cases e1 : k = hN h
    · subst e1
      rw [mWs_get (by omega), he, Nat.sub_self]
      rfl
    · rw [List.getElem?_eq_none (by simp; omega), List.getElem?_eq_none (by rw [mWs_len]; omega)]
/-! an element behind a store elsewhere -/
theorem mEl_eq {G : mG} {h h' : mHp} {j : Nat} (hs : hS h' j = hS h j) (hi : hI h' j = hI h j) (hj : hJ h' j = hJ h j) (hr : hR h' j = hR h j) : mEl G h' j = mEl G h j := by
  unfold mEl
  rw [hs]
  cases hS h j with
  | inl c =>
    show Sum.inr (c, _) = Sum.inr (c, _)
    congr 2
    apply List.map_congr_left
    intro k _
    unfold mFv
    rw [hi, hj, hr]
  | inr q =>
    obtain ⟨ty, n⟩ := q
    show Sum.inl (_, mAr G h' j n ty) = Sum.inl (_, mAr G h j n ty)
    unfold mAr
    rw [hi, hj, hr]
theorem up2_ne {α : Type} {f : Nat → Nat → α} {i k j : Nat} {v : α} (hj : j ≠ i) : up2 f i k v j = f j := by
  unfold up2 va_up
  rw [if_neg hj]
theorem up2_at {α : Type} {f : Nat → Nat → α} {i k : Nat} {v : α} : up2 f i k v i = va_up (f i) k v := by
  unfold up2 va_up
  rw [if_pos rfl]
theorem mEl_putI {G : mG} {h : mHp} {r k j : Nat} {v : Int32} (hj : j ≠ r) : mEl G (putI h r k v) j = mEl G h j := mEl_eq rfl (up2_ne hj) rfl rfl
theorem mEl_putJ {G : mG} {h : mHp} {r k j : Nat} {v : Int64} (hj : j ≠ r) : mEl G (putJ h r k v) j = mEl G h j := mEl_eq rfl rfl (up2_ne hj) rfl
theorem mEl_putR {G : mG} {h : mHp} {r k v j : Nat} (hj : j ≠ r) : mEl G (putR h r k v) j = mEl G h j := mEl_eq rfl rfl rfl (up2_ne hj)
