/-! THAT THE MACHINE DOES A STEP of the small machine. -/
def mIl (ins : Instr) : Option Nat := match ins with
  | .iconst _ => some 1
  | .bipush _ => some 2
  | .sipush _ => some 3
  | .lconst _ => some 1
  | .ldc _ => some 2
  | .ldc_w _ => some 3
  | .ldc2_w _ => some 3
  | .iload _ => some 2
  | .aload _ => some 2
  | .lload _ => some 2
  | .istore _ => some 2
  | .astore _ => some 2
  | .lstore _ => some 2
  | .iinc _ _ => some 3
  | .goto _ => some 3
  | .if_icmp _ _ => some 3
  | .ifCond _ _ => some 3
  | .ifnull _ => some 3
  | .getfield _ => some 3
  | .putfield _ => some 3
  | .invokestatic _ => some 3
  | .invokevirtual _ => some 3
  | .invokespecial _ => some 3
  | .newarray _ => some 2
  | .new _ => some 3
  | .multianewarray _ _ => some 4
  | .tableswitch _ _ _ _ => none
  | .lookupswitch _ _ => none
  | _ => some 1
def mLok (q : mI) : Bool := match mIl q.2.1 with
  | some n => q.2.2.1 == n
  | none => true
/-- what can be seen of a row ahead of its run -/
def mSta (nL : Nat) (fin : Bool) (q : mI) : Bool := match q with
  | (pc, ins, _, a, b) => match ins with
    | .istore i => decide (i < nL)
    | .istore_n i => decide ((i : Nat) < nL)
    | .astore i => decide (i < nL)
    | .astore_n i => decide ((i : Nat) < nL)
    | .lstore i => decide (i + 1 < nL)
    | .lstore_n i => decide ((i : Nat) + 1 < nL)
    | .iinc i _ => decide (i < nL)
    | .goto off => mTk pc off
    | .if_icmp _ off => mTk pc off
    | .ifCond _ off => mTk pc off
    | .ifnull off => mTk pc off
    | .tableswitch d lo hi os => (d :: os.toList).all (fun o => mTk pc o) && (decide (hi - lo + 1 = (os.toList.length : Int)) && decide (-2147483648 ≤ lo ∧ hi ≤ 2147483647))
    | .lookupswitch d ps => (d :: ps.toList.map (fun q => q.2)).all (fun o => mTk pc o) && (ps.toList.zip (ps.toList.drop 1)).all (fun (a, next) => a.1 < next.1)
    | .getfield _ => decide (b < mNf a)
    | .putfield _ => decide (b < mNf a) && (!(mFin a b) || fin)
    | _ => true
/-- what the words say of a row's index -/
def mEnt (own : String) (q : mI) : Prop := match q with
  | (_, ins, _, a, b) => match ins with
    | .ldc i => if b = 0 then Cond.constant own i (Int32.ofNat a) ∈ mTb else own = RX4 ∧ ∃ tx, mSt[a]? = some (i, tx)
    | .ldc_w i => Cond.constant own i (Int32.ofNat a) ∈ mTb
    | .ldc2_w i => Cond.constantLong own i (Int64.ofNat a) ∈ mTb
    | .getfield i => ∃ r : vw_C, vwCl[a]? = some r ∧ Cond.fieldLink own i (r.2.1 b).1 (r.2.1 b).2.1 (r.2.1 b).2.2.1 ∈ mTb
    | .putfield i => ∃ r : vw_C, vwCl[a]? = some r ∧ Cond.fieldLink own i (r.2.1 b).1 (r.2.1 b).2.1 (r.2.1 b).2.2.1 ∈ mTb ∧ (mFin a b = true → (r.2.1 b).1 = own)
    | .new i => ∃ r : vw_C, vwCl[a]? = some r ∧ Cond.classLink own i r.1 ∈ mTb ∧ Cond.instantiable r.1 r.2.2 ∈ mTb ∧ Cond.initialized r.1 ∈ mTb
    | .newarray ty => Cond.arrayClass (newarray.typeOf ty) ∈ mTb ∧ (newarray.typeOf ty = .int ∨ newarray.typeOf ty = .byte ∨ newarray.typeOf ty = .boolean ∨ newarray.typeOf ty = .long)
    | .multianewarray i _ => Cond.classLink own i "[[I" ∈ mTb
    | .invokespecial i => b = 8888 → Cond.methodLink own i objectInit ∈ mTb
    | .invokestatic i => b = 7777 → Cond.methodLink own i arraycopyName ∈ mTb
    | _ => True
theorem mCl_ty {a : Nat} {r : vw_C} (h : vwCl[a]? = some r) : ∀ k, k < r.2.2 → parseFieldDescriptor (r.2.1 k).2.2.1 = some (mTy a k) := by
  match a, h with
  | 0, h => cases h; exact tyX0_ok
  | 1, h => cases h; exact tyX1_ok
  | 2, h => cases h; exact tyX2_ok
  | 3, h => cases h; exact tyX3_ok
  | 4, h => cases h; exact tyX4_ok
  | 5, h => cases h; exact tyX5_ok
  | 6, h => cases h; exact tyX6_ok
  | 7, h => cases h; exact tyX7_ok
  | 8, h => cases h; exact tyX8_ok
  | 9, h => cases h; exact tyX9_ok
  | 10, h => cases h; exact tyX10_ok
  | 11, h => cases h; exact tyX11_ok
  | 12, h => cases h; exact tyX12_ok
  | n + 13, h => cases h
theorem mCl_nm {a : Nat} {r : vw_C} (h : vwCl[a]? = some r) : ∀ x, x < r.2.2 → ∀ y, y < r.2.2 → x ≠ y → (r.2.1 x).2.1 ≠ (r.2.1 y).2.1 := by
  match a, h with
  | 0, h => cases h; exact nmX0
  | 1, h => cases h; exact nmX1
  | 2, h => cases h; exact nmX2
  | 3, h => cases h; exact nmX3
  | 4, h => cases h; exact nmX4
  | 5, h => cases h; exact nmX5
  | 6, h => cases h; exact nmX6
  | 7, h => cases h; exact nmX7
  | 8, h => cases h; exact nmX8
  | 9, h => cases h; exact nmX9
  | 10, h => cases h; exact nmX10
  | 11, h => cases h; exact nmX11
  | 12, h => cases h; exact nmX12
  | n + 13, h => cases h
theorem mCl_nf {a : Nat} {r : vw_C} (h : vwCl[a]? = some r) : mNf a = r.2.2 := by
  match a, h with
  | 0, h => cases h; rfl
  | 1, h => cases h; rfl
  | 2, h => cases h; rfl
  | 3, h => cases h; rfl
  | 4, h => cases h; rfl
  | 5, h => cases h; rfl
  | 6, h => cases h; rfl
  | 7, h => cases h; rfl
  | 8, h => cases h; rfl
  | 9, h => cases h; rfl
  | 10, h => cases h; rfl
  | 11, h => cases h; rfl
  | 12, h => cases h; rfl
  | n + 13, h => cases h
theorem mCl_fin {a b : Nat} {r : vw_C} (h : vwCl[a]? = some r) : mFin a b = (r.2.1 b).2.2.2 := by
  unfold mFin
  rw [h]
theorem mU1_ok {st : List Value} {bad : mC} {f : Int32 → List Value → mC} (h : (mU1 st bad f).1 = true) (hb : bad.1 = false) : ∃ x r, st = .int x :: r := by
  unfold mU1 at h
  split at h
  · exact ⟨_, _, rfl⟩
  · rw [hb] at h; cases h
theorem mU2_ok {st : List Value} {bad : mC} {f : Int32 → Int32 → List Value → mC} (h : (mU2 st bad f).1 = true) (hb : bad.1 = false) : ∃ y x r, st = .int y :: .int x :: r := by
  unfold mU2 at h
  split at h
  · exact ⟨_, _, _, rfl⟩
  · rw [hb] at h; cases h
theorem mUl_ok {st : List Value} {bad : mC} {f : Int64 → List Value → mC} (h : (mUl st bad f).1 = true) (hb : bad.1 = false) : ∃ x r, st = .long x :: r := by
  unfold mUl at h
  split at h
  · exact ⟨_, _, rfl⟩
  · rw [hb] at h; cases h
theorem mUll_ok {st : List Value} {bad : mC} {f : Int64 → Int64 → List Value → mC} (h : (mUll st bad f).1 = true) (hb : bad.1 = false) : ∃ y x r, st = .long y :: .long x :: r := by
  unfold mUll at h
  split at h
  · exact ⟨_, _, _, rfl⟩
  · rw [hb] at h; cases h
theorem mUr_ok {st : List Value} {bad : mC} {f : Nat → List Value → mC} (h : (mUr st bad f).1 = true) (hb : bad.1 = false) : ∃ x r, st = .ref x :: r := by
  unfold mUr at h
  split at h
  · exact ⟨_, _, rfl⟩
  · rw [hb] at h; cases h
theorem mUir_ok {st : List Value} {bad : mC} {f : Int32 → Nat → List Value → mC} (h : (mUir st bad f).1 = true) (hb : bad.1 = false) : ∃ i a r, st = .int i :: .ref a :: r := by
  unfold mUir at h
  split at h
  · exact ⟨_, _, _, rfl⟩
  · rw [hb] at h; cases h
theorem mUxir_ok {st : List Value} {bad : mC} {f : Value → Int32 → Nat → List Value → mC} (h : (mUxir st bad f).1 = true) (hb : bad.1 = false) : ∃ x i a r, st = x :: .int i :: .ref a :: r := by
  unfold mUxir at h
  split at h
  · exact ⟨_, _, _, _, rfl⟩
  · rw [hb] at h; cases h
theorem mUvr_ok {st : List Value} {bad : mC} {f : Value → Nat → List Value → mC} (h : (mUvr st bad f).1 = true) (hb : bad.1 = false) : ∃ v a r, st = v :: .ref a :: r := by
  unfold mUvr at h
  split at h
  · exact ⟨_, _, _, rfl⟩
  · rw [hb] at h; cases h
theorem mUv_ok {st : List Value} {bad : mC} {f : Value → List Value → mC} (h : (mUv st bad f).1 = true) (hb : bad.1 = false) : ∃ v r, st = v :: r := by
  unfold mUv at h
  split at h
  · exact ⟨_, _, rfl⟩
  · rw [hb] at h; cases h
theorem mUvv_ok {st : List Value} {bad : mC} {f : Value → Value → List Value → mC} (h : (mUvv st bad f).1 = true) (hb : bad.1 = false) : ∃ v w r, st = v :: w :: r := by
  unfold mUvv at h
  split at h
  · exact ⟨_, _, _, rfl⟩
  · rw [hb] at h; cases h
theorem mUc_ok {st : List Value} {bad : mC} {f : Int32 → Int32 → Nat → Int32 → Nat → List Value → mC} (h : (mUc st bad f).1 = true) (hb : bad.1 = false) : ∃ n dp d sp a r, st = .int n :: .int dp :: .ref d :: .int sp :: .ref a :: r := by
  unfold mUc at h
  split at h
  · exact ⟨_, _, _, _, _, _, rfl⟩
  · rw [hb] at h; cases h
/-! addresses -/
theorem mCv_ref {G : mG} {r : Nat} (h : r < 900000) : mCv G (.ref r) = .ref (G.1 + r) := by
  show va_rf (mRo G r) = _
  unfold mRo mAd NUL
  rw [if_neg (by omega), if_pos h]
  rfl
theorem mCv_cat {G : mG} (v : Value) : (mCv G v).category = v.category := by
  cases v with
  | ref i =>
    show (va_rf (mRo G i)).category = 1
    unfold mRo
    split <;> rfl
  | _ => rfl
theorem mCv_get {G : mG} {h : mHp} {r k a : Nat} {ty : FieldType} : mCv G (mGet a h r k ty) = mFv G h r k ty := by
  cases ty <;> rfl
theorem mIn_in {i : Int32} {n : Nat} (h : mIn i n = true) : vp_in i n := by
  unfold mIn at h
  simp only [Bool.and_eq_true, Bool.not_eq_true', decide_eq_true_eq, decide_eq_false_iff_not] at h
  intro z
  rcases z with z | z
  · exact h.1 z
  · omega
theorem chO_ok {h : mHp} {r c : Nat} (z : chO h r c = true) : r < hN h ∧ hS h r = .inl c := by
  unfold chO kAO at z
  rw [Bool.and_eq_true] at z
  refine ⟨Nat.blt_eq.mp z.1, ?_⟩
  have z2 := z.2
  split at z2
  · rename_i x e
    rw [e, Nat.eq_of_beq_eq_true z2]
  · cases z2
theorem chI_ok {h : mHp} {r : Nat} {i : Int32} (z : chI h r i = true) : r < hN h ∧ ∃ n, hS h r = .inr (.int, n) ∧ vp_in i n := by
  unfold chI kAI at z
  rw [Bool.and_eq_true] at z
  refine ⟨Nat.blt_eq.mp z.1, ?_⟩
  have z2 := z.2
  split at z2
  · rename_i n e
    exact ⟨n, e, mIn_in z2⟩
  · cases z2
theorem chB_ok {h : mHp} {r : Nat} {i : Int32} (z : chB h r i = true) : r < hN h ∧ ∃ n, (hS h r = .inr (.byte, n) ∨ hS h r = .inr (.boolean, n)) ∧ vp_in i n := by
  unfold chB kAB at z
  rw [Bool.and_eq_true] at z
  refine ⟨Nat.blt_eq.mp z.1, ?_⟩
  have z2 := z.2
  split at z2
  · rename_i n e
    exact ⟨n, Or.inl e, mIn_in z2⟩
  · rename_i n e
    exact ⟨n, Or.inr e, mIn_in z2⟩
  · cases z2
theorem chJ_ok {h : mHp} {r : Nat} {i : Int32} (z : chJ h r i = true) : r < hN h ∧ ∃ n, hS h r = .inr (.long, n) ∧ vp_in i n := by
  unfold chJ kAJ at z
  rw [Bool.and_eq_true] at z
  refine ⟨Nat.blt_eq.mp z.1, ?_⟩
  have z2 := z.2
  split at z2
  · rename_i n e
    exact ⟨n, e, mIn_in z2⟩
  · cases z2
theorem chR_ok {h : mHp} {r : Nat} {i : Int32} (z : chR h r i = true) : r < hN h ∧ ∃ n, hS h r = .inr (.array .int, n) ∧ vp_in i n := by
  unfold chR kAR at z
  rw [Bool.and_eq_true] at z
  refine ⟨Nat.blt_eq.mp z.1, ?_⟩
  have z2 := z.2
  split at z2
  · rename_i n e
    exact ⟨n, e, mIn_in z2⟩
  · cases z2
theorem chL_ok {h : mHp} {r : Nat} (z : chL h r = true) : r < hN h ∧ hS h r = .inr (.int, mLen h r) := by
  unfold chL kAL at z
  rw [Bool.and_eq_true] at z
  refine ⟨Nat.blt_eq.mp z.1, ?_⟩
  have z2 := z.2
  unfold mLen kLen
  split at z2
  · rename_i n e
    rw [e]
  · cases z2
theorem mEl_O {G : mG} {h : mHp} {r c : Nat} (e : hS h r = .inl c) : mEl G h r = .inr (c, (List.range (mNf c)).map (fun k => mFv G h r k (mTy c k))) := by
  unfold mEl
  rw [e]
theorem mEl_A {G : mG} {h : mHp} {r n : Nat} {ty : FieldType} (e : hS h r = .inr (ty, n)) : mEl G h r = .inl (G.2.2.2.2 ty, mAr G h r n ty) := by
  unfold mEl
  rw [e]
theorem mFs_get {G : mG} {h : mHp} {r c k : Nat} (hk : k < mNf c) : ((List.range (mNf c)).map (fun k => mFv G h r k (mTy c k)))[k]? = some (mFv G h r k (mTy c k)) := by
  rw [List.getElem?_map, List.getElem?_range hk]
  rfl
/-! the locals -/
def mLv (G : mG) (L : List Value) : List (Nat × Value) := (List.range L.length).filterMap (fun i => match L.getD i (.retAddr 0) with
  | .retAddr _ => none
  | v => some (i, mCv G v))
theorem mLv_mem {G : mG} {L : List Value} {q : Nat × Value} : q ∈ mLv G L ↔ ∃ v, q.1 < L.length ∧ L.getD q.1 (.retAddr 0) = v ∧ (∀ n, v ≠ .retAddr n) ∧ q.2 = mCv G v := by
  unfold mLv
  rw [List.mem_filterMap]
  constructor
  · rintro ⟨i, hi, e⟩
    rw [List.mem_range] at hi
    cases hv : L.getD i (.retAddr 0) with
    | retAddr n => rw [hv] at e; cases e
    | _ => rw [hv] at e; cases e; exact ⟨_, hi, hv, (fun n z => by cases z), rfl⟩
  · rintro ⟨v, hi, hv, hn, e⟩
    refine ⟨q.1, List.mem_range.mpr hi, ?_⟩
    rw [hv]
    cases v with
    | retAddr n => exact absurd rfl (hn n)
    | _ => exact congrArg some (Prod.ext rfl e.symm)
theorem mLv_at {G : mG} {L : List Value} {ls : Array Slot} {nL i : Nat} {v : Value} (h : lv_has ls nL (mLv G L)) (hv : L.getD i (.retAddr 0) = v) (hn : ∀ n, v ≠ .retAddr n) : ls[i]? = some (.val (mCv G v)) := by
  have hi : i < L.length := by
    rcases Nat.lt_or_ge i L.length with z | z
    · exact z
    · rw [show L.getD i (.retAddr 0) = .retAddr 0 by simp [List.getD, List.getElem?_eq_none z]] at hv
      exact absurd hv.symm (hn 0)
  exact h.2.2 (i, mCv G v) (mLv_mem.mpr ⟨v, hi, hv, hn, rfl⟩)
theorem mFix_len (L : List Value) (i : Nat) : (mFix L i).length = L.length := by
  cases i with
  | zero => rfl
  | succ j =>
    unfold mFix
    simp only
    split <;> simp
theorem mFix_at {L : List Value} {i j : Nat} {w : Value} (h : (mFix L i).getD j (.retAddr 0) = w) (hw : ∀ n, w ≠ .retAddr n) : L.getD j (.retAddr 0) = w ∧ (j + 1 = i → w.category = 1) := by
  have gone : ∀ k, (L.set k (.retAddr 0)).getD j (.retAddr 0) = w → j ≠ k ∧ L.getD j (.retAddr 0) = w := by
    intro k hk
    by_cases e : j = k
    · exfalso
      subst e
      by_cases hl : j < L.length
      · rw [show (L.set j (.retAddr 0)).getD j (.retAddr 0) = .retAddr 0 by simp [List.getD, hl]] at hk
        exact hw 0 hk.symm
      · rw [show (L.set j (.retAddr 0)).getD j (.retAddr 0) = .retAddr 0 by simp [List.getD, List.getElem?_eq_none (show (L.set j (.retAddr 0)).length ≤ j by simp; omega)]] at hk
        exact hw 0 hk.symm
    · refine ⟨e, ?_⟩
      rw [← hk]
      simp [List.getD, List.getElem?_set_ne (Ne.symm e)]
  cases i with
  | zero => exact ⟨h, fun z => by omega⟩
  | succ k =>
    unfold mFix at h
    simp only at h
    split at h
    · obtain ⟨g1, g2⟩ := gone k h
      exact ⟨g2, fun z => by omega⟩
    · obtain ⟨g1, g2⟩ := gone k h
      exact ⟨g2, fun z => by omega⟩
    · rename_i h1 h2
      refine ⟨h, fun z => ?_⟩
      obtain rfl : j = k := by omega
      rw [h] at h1 h2
      cases w with
      | long x => exact absurd rfl (h1 x)
      | double x => exact absurd rfl (h2 x)
      | _ => rfl
theorem mLv_set {G : mG} {L : List Value} {ls : Array Slot} {nL i : Nat} {v : Value} (h : lv_has ls nL ((i, mCv G v) :: (mLv G L).filter (fun q => !(q.1 == i) && !(q.1 + 1 == i && q.2.category == 2)))) : lv_has ls nL (mLv G ((mFix L i).set i v)) := by
  refine ⟨h.1, h.2.1, fun q hq => ?_⟩
  obtain ⟨w, h1, h2, h3, h4⟩ := mLv_mem.mp hq
  rw [List.length_set] at h1
  by_cases e : q.1 = i
  · rw [e] at h2 h1
    have e2 : w = v := by
      rw [← h2]
      simp [List.getD, h1]
    have e3 : q = (i, mCv G v) := by
      obtain ⟨q1, q2⟩ := q
      simp only at e h4
      rw [e, h4, e2]
    rw [e3]
    exact h.2.2 _ List.mem_cons_self
  · have h5 : (mFix L i).getD q.1 (.retAddr 0) = w := by
      rw [← h2]
      simp [List.getD, List.getElem?_set_ne (Ne.symm e)]
    obtain ⟨h6, h7⟩ := mFix_at h5 h3
    rw [mFix_len] at h1
    refine h.2.2 q (List.mem_cons_of_mem _ (List.mem_filter.mpr ⟨mLv_mem.mpr ⟨w, h1, h6, h3, h4⟩, ?_⟩))
    simp only [Bool.and_eq_true, Bool.not_eq_true', beq_eq_false_iff_ne, Bool.and_eq_false_iff]
    refine ⟨e, ?_⟩
    by_cases e6 : q.1 + 1 = i
    · right
      rw [h4, mCv_cat, h7 e6]
      decide
    · left
      exact e6
theorem mLv_set2 {G : mG} {L : List Value} {ls : Array Slot} {nL i : Nat} {x : Int64} (h : lv_has ls nL ((i, Value.long x) :: (mLv G L).filter (fun q => !(q.1 == i) && (!(q.1 == i + 1) && !(q.1 + 1 == i && q.2.category == 2))))) : lv_has ls nL (mLv G (((mFix L i).set i (.long x)).set (i + 1) (.retAddr 0))) := by
  refine ⟨h.1, h.2.1, fun q hq => ?_⟩
  obtain ⟨w, h1, h2, h3, h4⟩ := mLv_mem.mp hq
  rw [List.length_set, List.length_set] at h1
  by_cases e0 : q.1 = i + 1
  · refine absurd ?_ (h3 0)
    rw [← h2, e0]
    rw [e0] at h1
    simp [List.getD, h1]
  by_cases e : q.1 = i
  · rw [e] at h2 h1
    have e2 : w = .long x := by
      rw [← h2]
      simp [List.getD, h1, List.getElem?_set_ne (show i + 1 ≠ i by omega)]
    have e3 : q = (i, Value.long x) := by
      obtain ⟨q1, q2⟩ := q
      simp only at e h4
      rw [e, h4, e2]
      rfl
    rw [e3]
    exact h.2.2 _ List.mem_cons_self
  · have h5 : (mFix L i).getD q.1 (.retAddr 0) = w := by
      rw [← h2]
      simp [List.getD, List.getElem?_set_ne (Ne.symm e), List.getElem?_set_ne (Ne.symm e0)]
    obtain ⟨h6, h7⟩ := mFix_at h5 h3
    rw [mFix_len] at h1
    refine h.2.2 q (List.mem_cons_of_mem _ (List.mem_filter.mpr ⟨mLv_mem.mpr ⟨w, h1, h6, h3, h4⟩, ?_⟩))
    simp only [Bool.and_eq_true, Bool.not_eq_true', beq_eq_false_iff_ne, Bool.and_eq_false_iff]
    refine ⟨e, e0, ?_⟩
    by_cases e6 : q.1 + 1 = i
    · right
      rw [h4, mCv_cat, h7 e6]
      decide
    · left
      exact e6
