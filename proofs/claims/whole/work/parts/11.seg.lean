/-! A STRETCH OF ROWS. -/
theorem mU1_ff {st : List Value} {h : mHp} {f : Int32 → List Value → mC} (z : ∀ x r, (f x r).1 = false) : (mU1 st (mBad h) f).1 = false := by
  unfold mU1
  split
  · exact z _ _
  · rfl
theorem mU2_ff {st : List Value} {h : mHp} {f : Int32 → Int32 → List Value → mC} (z : ∀ x y r, (f x y r).1 = false) : (mU2 st (mBad h) f).1 = false := by
  unfold mU2
  split
  · exact z _ _ _
  · rfl
theorem mUl_ff {st : List Value} {h : mHp} {f : Int64 → List Value → mC} (z : ∀ x r, (f x r).1 = false) : (mUl st (mBad h) f).1 = false := by
  unfold mUl
  split
  · exact z _ _
  · rfl
theorem mUll_ff {st : List Value} {h : mHp} {f : Int64 → Int64 → List Value → mC} (z : ∀ x y r, (f x y r).1 = false) : (mUll st (mBad h) f).1 = false := by
  unfold mUll
  split
  · exact z _ _ _
  · rfl
theorem mUr_ff {st : List Value} {h : mHp} {f : Nat → List Value → mC} (z : ∀ x r, (f x r).1 = false) : (mUr st (mBad h) f).1 = false := by
  unfold mUr
  split
  · exact z _ _
  · rfl
theorem mUir_ff {st : List Value} {h : mHp} {f : Int32 → Nat → List Value → mC} (z : ∀ x y r, (f x y r).1 = false) : (mUir st (mBad h) f).1 = false := by
  unfold mUir
  split
  · exact z _ _ _
  · rfl
theorem mUxir_ff {st : List Value} {h : mHp} {f : Value → Int32 → Nat → List Value → mC} (z : ∀ v x y r, (f v x y r).1 = false) : (mUxir st (mBad h) f).1 = false := by
  unfold mUxir
  split
  · exact z _ _ _ _
  · rfl
theorem mUvr_ff {st : List Value} {h : mHp} {f : Value → Nat → List Value → mC} (z : ∀ x y r, (f x y r).1 = false) : (mUvr st (mBad h) f).1 = false := by
  unfold mUvr
  split
  · exact z _ _ _
  · rfl
theorem mUv_ff {st : List Value} {h : mHp} {f : Value → List Value → mC} (z : ∀ x r, (f x r).1 = false) : (mUv st (mBad h) f).1 = false := by
  unfold mUv
  split
  · exact z _ _
  · rfl
theorem mUvv_ff {st : List Value} {h : mHp} {f : Value → Value → List Value → mC} (z : ∀ x y r, (f x y r).1 = false) : (mUvv st (mBad h) f).1 = false := by
  unfold mUvv
  split
  · exact z _ _ _
  · rfl
theorem mUc_ff {st : List Value} {h : mHp} {f : Int32 → Int32 → Nat → Int32 → Nat → List Value → mC} (z : ∀ n dp d sp a r, (f n dp d sp a r).1 = false) : (mUc st (mBad h) f).1 = false := by
  unfold mUc
  split
  · exact z _ _ _ _ _ _
  · rfl
theorem mLd_ff {pc i cat : Nat} {L st : List Value} {h : mHp} : (mLd false pc L st h i cat).1 = false := by
  unfold mLd
  split <;> rfl
theorem mSto_ff {pc nL i cat : Nat} {L st : List Value} {h : mHp} : (mSto false pc nL L st h i cat).1 = false := by
  unfold mSto
  split <;> rfl
set_option maxHeartbeats 2000000 in
theorem mst_ff {nL : Nat} {fin : Bool} {nM wM : Nat} {q : mI} {f : mC} (hf : f.1 = false) : (mst nL fin nM wM q f).1 = false := by
  obtain ⟨pc, ins, len, a, b⟩ := q
  obtain ⟨ok, pc0, L, st, h⟩ := f
  simp only at hf
  subst hf
  cases ins
  case ldc i => by_cases z : b = 0 <;> simp [mst, mDis, c_ldc, z]
  case new i => simp [mst, mDis, c_new]
  case iinc i n =>
    show (match L.getD i (.retAddr 0) with
      | .int x => ((false, pc + 3, (mFix L i).set i (.int (x + Int32.ofInt n)), st, h) : mC)
      | _ => mBad h).1 = false
    split <;> rfl
  case dup =>
    show (c_dup nL fin nM wM pc a b false L st h).1 = false
    unfold c_dup
    split <;> rfl
  case pop =>
    show (c_pop nL fin nM wM pc a b false L st h).1 = false
    unfold c_pop
    split <;> rfl
  case dup2 =>
    show (c_dup2 nL fin nM wM pc a b false L st h).1 = false
    unfold c_dup2
    split <;> rfl
  case putfield i =>
    refine mUvr_ff (fun v r t => ?_)
    unfold mPutB
    split <;> simp [mBad]
  case istore i => exact (mSto_ff : (mSto false (pc + 2) nL L st h i 0).1 = false)
  case istore_n i => exact (mSto_ff : (mSto false (pc + 1) nL L st h (i : Nat) 0).1 = false)
  case astore i => exact (mSto_ff : (mSto false (pc + 2) nL L st h i 1).1 = false)
  case astore_n i => exact (mSto_ff : (mSto false (pc + 1) nL L st h (i : Nat) 1).1 = false)
  case lstore i => exact (mSto_ff : (mSto false (pc + 2) nL L st h i 2).1 = false)
  case lstore_n i => exact (mSto_ff : (mSto false (pc + 1) nL L st h (i : Nat) 2).1 = false)
  case lshl => exact mU1_ff (fun _ _ => mUl_ff (fun _ _ => rfl))
  case invokestatic i =>
    show (c_invokestatic nL fin nM wM pc a b false L st h).1 = false
    unfold c_invokestatic
    cases Nat.beq b 7777
    · rfl
    · simp only [cond_true]
      split <;> simp [mBad]
  case invokespecial i =>
    show (c_invokespecial nL fin nM wM pc a b false L st h).1 = false
    unfold c_invokespecial
    cases Nat.beq b 8888
    · rfl
    · simp only [cond_true]
      split <;> simp [mBad]
  case iastore => exact mUxir_ff (fun v _ _ _ => by cases v <;> simp [mBad])
  case bastore => exact mUxir_ff (fun v _ _ _ => by cases v <;> simp [mBad])
  case lastore => exact mUxir_ff (fun v _ _ _ => by cases v <;> simp [mBad])
  all_goals first
    | rfl
    | exact mLd_ff
    | exact mSto_ff
    | exact mU1_ff (fun _ _ => by simp)
    | exact mU2_ff (fun _ _ _ => by simp)
    | exact mUll_ff (fun _ _ _ => by simp)
    | exact mUr_ff (fun _ _ => by simp)
    | exact mUir_ff (fun _ _ _ => by simp)
    | exact mUvr_ff (fun _ _ _ => by simp)
    | exact mUv_ff (fun _ _ => by simp)
    | exact mUvv_ff (fun _ _ _ => by simp)
    | exact Bool.and_false _
    | simp [mst]
theorem mgo_ff {nL : Nat} {fin : Bool} {nM wM : Nat} : ∀ (qs : List mI) (f : mC), f.1 = false → (mgo nL fin nM wM qs f).1 = false
  | [], _, h => h
  | q :: qs, f, h => by
    show (mgo nL fin nM wM qs (cond (Nat.beq f.2.1 q.1) (mst nL fin nM wM q f) (mBad f.2.2.2.2))).1 = false
    refine mgo_ff qs _ ?_
    cases Nat.beq f.2.1 q.1
    · rfl
    · exact mst_ff h
/-- a method's rows are its code's, and the words say what their indices mean -/
def mTok (cc : ByteArray) (own : String) (nL : Nat) (fin : Bool) (T : List mI) : Prop := ∀ q ∈ T, decode cc q.1 = .ok (q.2.1, q.2.2.1) ∧ mLok q = true ∧ mSta nL fin q = true ∧ mEnt own q
section SG
variable {p : Program} {l : Launch} {e : Env} {R : Room} {s : State} {m : MethodId} {args : Array Value} {below : List Frame} {meth : Method} {c : Code} {Q : State → Prop} {cc : ByteArray} {own : String} {G : mG} {nL n0 w0 nM wM : Nat} {fin : Bool} {T : List mI}
theorem mgo_ok (C : mCx p R s m args meth c G cc own nL fin nM wM n0 w0) (hT : mTok cc own nL fin T) : ∀ (qs : List mI) (f : mC), (∀ q ∈ qs, q ∈ T) → (mgo nL fin nM wM qs f).1 = true → mW p l e R s m args below meth c G nL n0 w0 Q (mgo nL fin nM wM qs f) → mW p l e R s m args below meth c G nL n0 w0 Q f
  | [], _, _, _, k => k
  | q :: qs, f, hs, hok, k => by
    have k1 := mgo_ok C hT qs (cond (Nat.beq f.2.1 q.1) (mst nL fin nM wM q f) (mBad f.2.2.2.2)) (fun x hx => hs x (List.mem_cons_of_mem _ hx)) hok k
    have h1 : (cond (Nat.beq f.2.1 q.1) (mst nL fin nM wM q f) (mBad f.2.2.2.2)).1 = true := by
      cases z : (cond (Nat.beq f.2.1 q.1) (mst nL fin nM wM q f) (mBad f.2.2.2.2)).1
      · have h2 := mgo_ff (nL := nL) (fin := fin) (nM := nM) (wM := wM) qs _ z
        have h3 : (mgo nL fin nM wM qs (cond (Nat.beq f.2.1 q.1) (mst nL fin nM wM q f) (mBad f.2.2.2.2))).1 = true := hok
        rw [h2] at h3
        cases h3
      · rfl
    obtain ⟨g1, g2, g4, g3⟩ := hT q (hs q List.mem_cons_self)
    cases hb : Nat.beq f.2.1 q.1
    · rw [hb] at h1
      cases h1
    · rw [hb] at h1 k1
      exact mst_ok C g1 g2 g4 g3 (Nat.eq_of_beq_eq_true hb) h1 k1
/-- THE STRETCH RULE: n rows from the a-th on lead from f to g -/
theorem mseg (C : mCx p R s m args meth c G cc own nL fin nM wM n0 w0) (hT : mTok cc own nL fin T) (a n : Nat) {f g : mC} (he : mgo nL fin nM wM ((T.drop a).take n) f = g) (hok : g.1 = true) (k : mW p l e R s m args below meth c G nL n0 w0 Q g) : mW p l e R s m args below meth c G nL n0 w0 Q f :=
  mgo_ok C hT ((T.drop a).take n) f (fun q hq => List.mem_of_mem_drop (List.mem_of_mem_take hq)) (by rw [he]; exact hok) (by rw [he]; exact k)
end SG
