/-! THE JUDGEMENT, and that it goes back over a step. -/
def mAO (U : State) : Prop := (Cond.arrayOver (.array .int)).before #[] U = true
theorem mAO_use {A : Array Value} {U : State} (h : mAO U) : (Cond.arrayOver (.array .int)).before A U = true := h
theorem mAO_moved {u U : State} (hvm : u.vm.Alike U.vm) (h : mAO u) : mAO U := by
  have key : ∃ comp c k, u.vm.findClass (FieldType.array .int).toString = some comp ∧ (u.vm.classes.findIdx? fun (x : Class) => match x.kind with | .array component _ => component == comp | _ => false) = some c ∧ u.vm.classes[c]? = some k ∧ k.kind = .array comp (.array .int) ∧ u.vm.findClass ("[" ++ (FieldType.array .int).toString) = some c := by
    unfold mAO Cond.before Cond.holds at h
    simp only [Cond.value, beq_iff_eq] at h
    cases hc : u.vm.findClass (FieldType.array .int).toString with
    | none => simp [hc] at h
    | some comp =>
      simp only [hc, Option.bind_some, Option.bind_eq_some_iff, Option.map_eq_some_iff] at h
      obtain ⟨c, h2, k, h3, h4⟩ := h
      refine ⟨comp, c, k, rfl, h2, h3, ?_⟩
      cases hk : k.kind with
      | array cm ty =>
        rw [hk] at h4
        simp only [Bool.and_eq_true, decide_eq_true_eq] at h4
        have hc2 : cm = comp := by
          have h5 := Array.findIdx?_eq_some_iff_getElem.mp h2
          obtain ⟨hl, h6, -⟩ := h5
          have h7 : u.vm.classes[c]? = some u.vm.classes[c] := Array.getElem?_eq_getElem hl
          rw [h3] at h7
          have h8 : u.vm.classes[c] = k := (Option.some.inj h7).symm
          rw [h8, hk] at h6
          simpa using h6
        rw [hc2, h4.1]
        exact ⟨rfl, h4.2⟩
      | _ => rw [hk] at h4; cases h4
  obtain ⟨comp, c, k, h1, h2, h3, h4, h5⟩ := key
  obtain ⟨k', hk', he⟩ := hvm.2.2 _ _ h3
  have hi : (U.vm.classes.findIdx? fun (x : Class) => match x.kind with | .array component _ => component == comp | _ => false) = some c := by
    have hbe : U.vm.bare = u.vm.bare := by first | exact hvm.bare_eq | exact hvm.bare_eq.symm
    refine (va_idx_bare U.vm comp).symm.trans ?_
    rw [hbe]
    exact (va_idx_bare u.vm comp).trans h2
  have hkind : k'.kind = .array comp (.array .int) := by rw [he]; exact h4
  have f1 : U.vm.findClass (FieldType.array .int).toString = some comp := by rw [hvm.findClass]; exact h1
  have f2 : U.vm.findClass ("[" ++ (FieldType.array .int).toString) = some c := by rw [hvm.findClass]; exact h5
  unfold mAO Cond.before Cond.holds
  simp only [Cond.value]
  rw [f1, Option.bind_some]
  refine (congrArg (fun o : Option Nat => (o.bind (fun c => (U.vm.classes[c]?).map fun (k : Class) => match k.kind with | .array _ ty => decide (ty = FieldType.array .int) && decide (U.vm.findClass ("[" ++ (FieldType.array .int).toString) = some c) | _ => false) == some true)) hi).trans ?_
  simp [hk', hkind, f2]
def mX (G : mG) (U : State) (H : Heap) : Prop := (∀ (j : Nat) (q : Nat × String), mSt[j]? = some q → vk_R RX4 q.1 q.2 (G.2.1 j) U) ∧ vk_S 15 mStL mStB G.2.1 G.2.2.1 (mA G) U H ∧ (∀ q ∈ mNs, va_Nw (.methodLinkNest q.1 q.2.1 q.2.2.1 q.2.2.2) U) ∧ mAO U ∧ va_Z "java/lang/String" "COMPACT_STRINGS" "Z" (.int 1) (mA G) U H ∧ (∃ f : Nat, (f = NUL ∨ f = 900200) ∧ va_Z "jdk/internal/util/Preconditions" "SIOOBE_FORMATTER" "Ljava/util/function/BiFunction;" (va_rf (mRo G f)) (mA G) U H) ∧ ∀ j, j < 15 → G.2.1 (100 + j) = G.2.2.1 j
/-- what stays the same over a method's body -/
def mCx (p : Program) (R : Room) (s : State) (m : MethodId) (args : Array Value) (meth : Method) (c : Code) (G : mG) (cc : ByteArray) (own : String) (nL : Nat) (fin : Bool) (nM wM n0 w0 : Nat) : Prop :=
  p.tables.exec = Jvm.exec ∧ c.code = cc ∧ c.maxLocals = nL ∧ s.vm.findClass own = some m.cls ∧ (∀ w ∈ mTb, w.before args s = true) ∧ va_K G.2.2.2.1 vwCl (mTys G) s ∧ s.heap.size = G.1 + n0 ∧ mX G s s.heap ∧ (nM ≤ n0 + R.cells ∧ wM ≤ w0 + R.slots ∧ nM ≤ 900000) ∧ (1 ≤ R.frames ∧ 100 ≤ R.locals) ∧ (fin = true → meth.name = "<init>")
/-- from here the machine comes to Q -/
def mW (p : Program) (l : Launch) (e : Env) (R : Room) (s : State) (m : MethodId) (args : Array Value) (below : List Frame) (meth : Method) (c : Code) (G : mG) (nL n0 w0 : Nat) (Q : State → Prop) (f : mC) : Prop :=
  ∀ (H : Heap) (locs : List Loc) (ls : Array Slot), mWd G f.2.2.2.2 H → va_S (mA G) s.heap H locs → lv_has ls nL (mLv G f.2.2.1) → n0 ≤ hN f.2.2.2.2 → w0 ≤ hW f.2.2.2.2 →
    W p l e R s m args below meth c H locs (hN f.2.2.2.2 - n0) (hW f.2.2.2.2 - w0) Q (F0 m f.2.1 ls (f.2.2.2.1.map (mCv G)))
section SO
variable {p : Program} {l : Launch} {e : Env} {R : Room} {s : State} {m : MethodId} {args : Array Value} {below : List Frame} {meth : Method} {c : Code} {Q : State → Prop} {cc : ByteArray} {own : String} {G : mG} {nL n0 w0 nM wM : Nat} {fin : Bool}
theorem mA_ge (C : mCx p R s m args meth c G cc own nL fin nM wM n0 w0) : ∀ q, s.heap.size ≤ q → mA G q := fun q hq => by
  have := C.2.2.2.2.2.2.1
  show G.1 ≤ q
  omega
theorem W_sz {H : Heap} {locs : List Loc} {cells slots : Nat} {g : JFrame} (k : H.size ≤ s.heap.size + cells → W p l e R s m args below meth c H locs cells slots Q g) : W p l e R s m args below meth c H locs cells slots Q g := by
  intro T hT X
  have h1 := X.same.2.2.1
  exact k (by rw [← hT]; exact h1) T hT X
theorem mWd_sz {H : Heap} {h : mHp} (hw : mWd G h H) (h0 : s.heap.size = G.1 + n0) (h1 : H.size ≤ s.heap.size + (hN h - n0)) (h2 : n0 ≤ hN h) (h3 : s.heap.size ≤ H.size) : H.size = G.1 + hN h := by
  rcases Nat.eq_zero_or_pos (hN h) with z | z
  · omega
  · have h4 := (hw.1 (hN h - 1) _ (mWs_get (by omega))).lt
    simp only at h4
    omega
/-- a load -/
theorem so_ld {pc pc' i cat : Nat} {ok : Bool} {L st : List Value} {h : mHp} (hok : (mLd ok pc' L st h i cat).1 = true)
    (k : mW p l e R s m args below meth c G nL n0 w0 Q (mLd ok pc' L st h i cat))
    (hi : cat = 0 → ∀ (x : Int32) (H : Heap) (locs : List Loc) (cells slots : Nat) (ls : Array Slot) (rest : List Value), ls[i]? = some (.val (.int x)) → W p l e R s m args below meth c H locs cells slots Q (F0 m pc' ls (.int x :: rest)) → W p l e R s m args below meth c H locs cells slots Q (F0 m pc ls rest))
    (ha : cat = 1 → ∀ (x : Option Nat) (H : Heap) (locs : List Loc) (cells slots : Nat) (ls : Array Slot) (rest : List Value), ls[i]? = some (.val (va_rf x)) → W p l e R s m args below meth c H locs cells slots Q (F0 m pc' ls (va_rf x :: rest)) → W p l e R s m args below meth c H locs cells slots Q (F0 m pc ls rest))
    (hl : cat = 2 → ∀ (x : Int64) (H : Heap) (locs : List Loc) (cells slots : Nat) (ls : Array Slot) (rest : List Value), ls[i]? = some (.val (.long x)) → W p l e R s m args below meth c H locs cells slots Q (F0 m pc' ls (.long x :: rest)) → W p l e R s m args below meth c H locs cells slots Q (F0 m pc ls rest)) :
    mW p l e R s m args below meth c G nL n0 w0 Q (ok, pc, L, st, h) := by
  intro H locs ls hw hS hv h0 h1
  unfold mLd at hok k
  split at hok
  · rename_i x e
    rw [e] at k
    exact hi rfl x H locs _ _ ls _ (mLv_at (v := .int x) hv e (fun n z => by cases z)) (k H locs ls hw hS hv h0 h1)
  · rename_i x e
    rw [e] at k
    exact ha rfl (mRo G x) H locs _ _ ls _ (mLv_at (v := .ref x) hv e (fun n z => by cases z)) (k H locs ls hw hS hv h0 h1)
  · rename_i x e
    rw [e] at k
    exact hl rfl x H locs _ _ ls _ (mLv_at (v := .long x) hv e (fun n z => by cases z)) (k H locs ls hw hS hv h0 h1)
  · cases hok
/-- a load of a reference, null or not -/
theorem so_aload (hx : p.tables.exec = Jvm.exec) (hb : c.code = cc) {i pc : Nat} {x : Option Nat} {H : Heap} {locs : List Loc} {cells slots : Nat} {ls : Array Slot} {rest : List Value} (hd : decode cc pc = .ok (.aload i, 2)) (hl : ls[i]? = some (.val (va_rf x)))
    (k : W p l e R s m args below meth c H locs cells slots Q (F0 m (pc + 2) ls (va_rf x :: rest))) : W p l e R s m args below meth c H locs cells slots Q (F0 m pc ls rest) := by
  cases x with
  | none => exact lv_aloadN hx hb hd hl k
  | some y => exact lv_aload hx hb hd hl k
theorem so_aload_n (hx : p.tables.exec = Jvm.exec) (hb : c.code = cc) {i : Fin 4} {pc : Nat} {x : Option Nat} {H : Heap} {locs : List Loc} {cells slots : Nat} {ls : Array Slot} {rest : List Value} (hd : decode cc pc = .ok (.aload_n i, 1)) (hl : ls[(i : Nat)]? = some (.val (va_rf x)))
    (k : W p l e R s m args below meth c H locs cells slots Q (F0 m (pc + 1) ls (va_rf x :: rest))) : W p l e R s m args below meth c H locs cells slots Q (F0 m pc ls rest) := by
  cases x with
  | none => exact lv_aload_nN hx hb hd rfl hl k
  | some y => exact lv_aload_n hx hb hd rfl hl k
/-- a store -/
theorem so_sto {pc pc' i cat : Nat} {ok : Bool} {L st : List Value} {h : mHp} (hsi : i < nL) (hs2 : cat = 2 → i + 1 < nL) (hok : (mSto ok pc' nL L st h i cat).1 = true)
    (k : mW p l e R s m args below meth c G nL n0 w0 Q (mSto ok pc' nL L st h i cat))
    (hi : cat = 0 → i < nL → ∀ (x : Int32) (H : Heap) (locs : List Loc) (cells slots : Nat) (ls : Array Slot) (rest : List Value) (lv : List (Nat × Value)), lv_has ls nL lv → (∀ ls' : Array Slot, lv_has ls' nL ((i, Value.int x) :: lv.filter (fun q => !(q.1 == i) && !(q.1 + 1 == i && q.2.category == 2))) → W p l e R s m args below meth c H locs cells slots Q (F0 m pc' ls' rest)) → W p l e R s m args below meth c H locs cells slots Q (F0 m pc ls (.int x :: rest)))
    (ha : cat = 1 → i < nL → ∀ (x : Option Nat) (H : Heap) (locs : List Loc) (cells slots : Nat) (ls : Array Slot) (rest : List Value) (lv : List (Nat × Value)), lv_has ls nL lv → (∀ ls' : Array Slot, lv_has ls' nL ((i, va_rf x) :: lv.filter (fun q => !(q.1 == i) && !(q.1 + 1 == i && q.2.category == 2))) → W p l e R s m args below meth c H locs cells slots Q (F0 m pc' ls' rest)) → W p l e R s m args below meth c H locs cells slots Q (F0 m pc ls (va_rf x :: rest)))
    (hl : cat = 2 → i + 1 < nL → ∀ (x : Int64) (H : Heap) (locs : List Loc) (cells slots : Nat) (ls : Array Slot) (rest : List Value) (lv : List (Nat × Value)), lv_has ls nL lv → (∀ ls' : Array Slot, lv_has ls' nL ((i, Value.long x) :: lv.filter (fun q => !(q.1 == i) && (!(q.1 == i + 1) && !(q.1 + 1 == i && q.2.category == 2)))) → W p l e R s m args below meth c H locs cells slots Q (F0 m pc' ls' rest)) → W p l e R s m args below meth c H locs cells slots Q (F0 m pc ls (.long x :: rest))) :
    mW p l e R s m args below meth c G nL n0 w0 Q (ok, pc, L, st, h) := by
  intro H locs ls hw hS hv h0 h1
  unfold mSto at hok k
  split at hok
  · rename_i x r
    exact hi rfl hsi x H locs _ _ ls _ _ hv (fun ls' hl' => k H locs ls' hw hS (mLv_set (v := .int x) hl') h0 h1)
  · rename_i x r
    exact ha rfl hsi (mRo G x) H locs _ _ ls _ _ hv (fun ls' hl' => k H locs ls' hw hS (mLv_set (v := .ref x) hl') h0 h1)
  · rename_i x r
    exact hl rfl (hs2 rfl) x H locs _ _ ls _ _ hv (fun ls' hl' => k H locs ls' hw hS (mLv_set2 (x := x) hl') h0 h1)
  · cases hok
theorem so_astore (hx : p.tables.exec = Jvm.exec) (hb : c.code = cc) {i pc : Nat} {x : Option Nat} {H : Heap} {locs : List Loc} {cells slots : Nat} {ls : Array Slot} {rest : List Value} {lv : List (Nat × Value)} (hd : decode cc pc = .ok (.astore i, 2)) (hn : i < nL) (h : lv_has ls nL lv)
    (k : ∀ ls' : Array Slot, lv_has ls' nL ((i, va_rf x) :: lv.filter (fun q => !(q.1 == i) && !(q.1 + 1 == i && q.2.category == 2))) → W p l e R s m args below meth c H locs cells slots Q (F0 m (pc + 2) ls' rest)) : W p l e R s m args below meth c H locs cells slots Q (F0 m pc ls (va_rf x :: rest)) := by
  cases x with
  | none => exact lv_astoreN hx hb hd h hn rfl k
  | some y => exact lv_astore hx hb hd h hn rfl k
theorem so_astore_n (hx : p.tables.exec = Jvm.exec) (hb : c.code = cc) {i : Fin 4} {pc : Nat} {x : Option Nat} {H : Heap} {locs : List Loc} {cells slots : Nat} {ls : Array Slot} {rest : List Value} {lv : List (Nat × Value)} (hd : decode cc pc = .ok (.astore_n i, 1)) (hn : (i : Nat) < nL) (h : lv_has ls nL lv)
    (k : ∀ ls' : Array Slot, lv_has ls' nL (((i : Nat), va_rf x) :: lv.filter (fun q => !(q.1 == (i : Nat)) && !(q.1 + 1 == (i : Nat) && q.2.category == 2))) → W p l e R s m args below meth c H locs cells slots Q (F0 m (pc + 1) ls' rest)) : W p l e R s m args below meth c H locs cells slots Q (F0 m pc ls (va_rf x :: rest)) := by
  cases x with
  | none => exact lv_astore_nN hx hb hd rfl h hn rfl k
  | some y => exact lv_astore_n hx hb hd rfl h hn rfl k
/-- a branch on two ints -/
theorem so_icmp (hx : p.tables.exec = Jvm.exec) (hb : c.code = cc) {cnd : ClassFile.Cond} {pc tgt : Nat} {off : Int} {x y : Int32} {H : Heap} {locs : List Loc} {cells slots : Nat} {ls : Array Slot} {rest : List Value} (hd : decode cc pc = .ok (.if_icmp cnd off, 3)) (ht : (pc : Int) + off = (tgt : Int))
    (k : W p l e R s m args below meth c H locs cells slots Q (F0 m (mCond cnd x y tgt (pc + 3)) ls rest)) : W p l e R s m args below meth c H locs cells slots Q (F0 m pc ls (.int y :: .int x :: rest)) := by
  cases cnd with
  | eq => exact lv_icmp_eq hx hb hd ht (fun z => by simpa [mCond, z] using k) (fun z => by simpa [mCond, z] using k)
  | ne => exact lv_icmp_ne hx hb hd ht (fun z => by simpa [mCond, z] using k) (fun z => by simpa [mCond, z] using k)
  | lt => exact lv_icmp_lt hx hb hd ht (fun z => by rw [mCond, if_pos z] at k; exact k) (fun z => by rw [mCond, if_neg z] at k; exact k)
  | ge => exact lv_icmp_ge hx hb hd ht (fun z => by rw [mCond, if_pos z] at k; exact k) (fun z => by rw [mCond, if_neg z] at k; exact k)
  | gt => exact lv_icmp_gt hx hb hd ht (fun z => by rw [mCond, if_pos z] at k; exact k) (fun z => by rw [mCond, if_neg z] at k; exact k)
  | le => exact lv_icmp_le hx hb hd ht (fun z => by rw [mCond, if_pos z] at k; exact k) (fun z => by rw [mCond, if_neg z] at k; exact k)
theorem so_icnd (hx : p.tables.exec = Jvm.exec) (hb : c.code = cc) {cnd : ClassFile.Cond} {pc tgt : Nat} {off : Int} {x : Int32} {H : Heap} {locs : List Loc} {cells slots : Nat} {ls : Array Slot} {rest : List Value} (hd : decode cc pc = .ok (.ifCond cnd off, 3)) (ht : (pc : Int) + off = (tgt : Int))
    (k : W p l e R s m args below meth c H locs cells slots Q (F0 m (mCond cnd x 0 tgt (pc + 3)) ls rest)) : W p l e R s m args below meth c H locs cells slots Q (F0 m pc ls (.int x :: rest)) := by
  cases cnd with
  | eq => exact lv_if_eq hx hb hd ht (fun z => by simpa [mCond, z] using k) (fun z => by simpa [mCond, z] using k)
  | ne => exact lv_if_ne hx hb hd ht (fun z => by simpa [mCond, z] using k) (fun z => by simpa [mCond, z] using k)
  | lt => exact lv_if_lt hx hb hd ht (fun z => by rw [mCond, if_pos z] at k; exact k) (fun z => by rw [mCond, if_neg z] at k; exact k)
  | ge => exact lv_if_ge hx hb hd ht (fun z => by rw [mCond, if_pos z] at k; exact k) (fun z => by rw [mCond, if_neg z] at k; exact k)
  | gt => exact lv_if_gt hx hb hd ht (fun z => by rw [mCond, if_pos z] at k; exact k) (fun z => by rw [mCond, if_neg z] at k; exact k)
  | le => exact lv_if_le hx hb hd ht (fun z => by rw [mCond, if_pos z] at k; exact k) (fun z => by rw [mCond, if_neg z] at k; exact k)
/-- is it null -/
theorem so_ifnull (hx : p.tables.exec = Jvm.exec) (hb : c.code = cc) {pc tgt : Nat} {off : Int} {x : Nat} {H : Heap} {locs : List Loc} {cells slots : Nat} {ls : Array Slot} {rest : List Value} (hd : decode cc pc = .ok (.ifnull off, 3)) (ht : (pc : Int) + off = (tgt : Int))
    (k : W p l e R s m args below meth c H locs cells slots Q (F0 m (if x = NUL then tgt else pc + 3) ls rest)) : W p l e R s m args below meth c H locs cells slots Q (F0 m pc ls (mCv G (.ref x) :: rest)) := by
  by_cases z : x = NUL
  · rw [if_pos z] at k
    have e1 : mCv G (.ref x) = .null := by
      show va_rf (mRo G x) = _
      unfold mRo
      rw [if_pos z]
      rfl
    rw [e1]
    exact lv_ifnullN hx hb hd ht k
  · rw [if_neg z] at k
    have e1 : mCv G (.ref x) = .ref (mAd G x) := by
      show va_rf (mRo G x) = _
      unfold mRo
      rw [if_neg z]
      rfl
    rw [e1]
    exact lv_ifnull hx hb hd k
theorem mTk_ok {pc : Nat} {off : Int} (h : mTk pc off = true) : (pc : Int) + off = (mTg pc off : Int) := by
  have h1 : 0 ≤ (pc : Int) + off := of_decide_eq_true h
  unfold mTg
  omega
/-- a table's place -/
theorem mTab_in {pc : Nat} {d : Int} {x : Int32} : ∀ (os : List Int) (lo : Int), -2147483648 ≤ lo → lo + (os.length : Int) ≤ 2147483648 → ¬ x.toInt < lo → x.toInt < lo + (os.length : Int) → ∃ o, os[(x.toInt - lo).toNat]? = some o ∧ mTab pc os lo d x = mTg pc o
  | [], lo, h1, h2, h3, h4 => by simp at h4; omega
  | o :: os, lo, h1, h2, h3, h4 => by
    have h5 : ((o :: os).length : Int) = (os.length : Int) + 1 := by simp
    rw [h5] at h2 h4
    by_cases e : x = Int32.ofInt lo
    · have e2 : x.toInt = lo := by rw [e]; exact Int32.toInt_ofInt_of_le (by simpa using h1) (by omega)
      refine ⟨o, ?_, ?_⟩
      · rw [e2]; simp
      · unfold mTab
        rw [if_pos e]
    · have e2 : x.toInt ≠ lo := fun z => e (by
        rw [← z]; exact (Int32.ofInt_toInt x).symm)
      obtain ⟨o', g1, g2⟩ := mTab_in (pc := pc) (d := d) (x := x) os (lo + 1) (by omega) (by omega) (by omega) (by omega)
      refine ⟨o', ?_, ?_⟩
      · have e3 : (x.toInt - lo).toNat = (x.toInt - (lo + 1)).toNat + 1 := by omega
        rw [e3]; simpa using g1
      · unfold mTab
        rw [if_neg e]; exact g2
theorem mTab_out {pc : Nat} {d : Int} {x : Int32} : ∀ (os : List Int) (lo : Int), -2147483648 ≤ lo → lo + (os.length : Int) ≤ 2147483648 → (x.toInt < lo ∨ lo + (os.length : Int) ≤ x.toInt) → mTab pc os lo d x = mTg pc d
  | [], lo, h1, h2, h3 => rfl
  | o :: os, lo, h1, h2, h3 => by
    have h5 : ((o :: os).length : Int) = (os.length : Int) + 1 := by simp
    rw [h5] at h2 h3
    have e : ¬ x = Int32.ofInt lo := fun z => by
      have e2 : x.toInt = lo := by rw [z]; exact Int32.toInt_ofInt_of_le (by simpa using h1) (by omega)
      omega
    unfold mTab
    rw [if_neg e]
    exact mTab_out (pc := pc) (d := d) (x := x) os (lo + 1) (by omega) (by omega) (by omega)
theorem mLkp_eq {pc : Nat} {d : Int} {x : Int32} : ∀ (ps : List (Int × Int)), mLkp pc ps d x = mTg pc (Op.lookupswitch.offset ps d x.toInt) ∧ (Op.lookupswitch.offset ps d x.toInt = d ∨ Op.lookupswitch.offset ps d x.toInt ∈ ps.map (fun q => q.2))
  | [] => ⟨rfl, Or.inl rfl⟩
  | (v, o) :: ps => by
    obtain ⟨h1, h2⟩ := mLkp_eq (pc := pc) (d := d) (x := x) ps
    rw [Op.lookupswitch.offset_cons]
    unfold mLkp
    by_cases e : v = x.toInt
    · rw [if_pos e, if_pos e]
      exact ⟨rfl, Or.inr (by simp)⟩
    · rw [if_neg e, if_neg e]
      refine ⟨h1, ?_⟩
      rcases h2 with h2 | h2
      · exact Or.inl h2
      · exact Or.inr (List.mem_cons_of_mem _ h2)
end SO
