/-! The same stretches, so laid that each row is worked out once. -/
def mgoK (nL : Nat) (fin : Bool) (nM wM : Nat) : List mI → Bool → Nat → List Value → List Value → mHp → mC
  | [], ok, pc, L, st, h => (ok, pc, L, st, h)
  | q :: qs, ok, pc, L, st, h => cond (Nat.beq pc q.1) (match mDis q.2.1 nL fin nM wM q.1 q.2.2.2.1 q.2.2.2.2 ok L st h with
    | (ok', pc', L', st', h') => mgoK nL fin nM wM qs ok' pc' L' st' h') (mgo nL fin nM wM qs (mBad h))
theorem mgoK_eq {nL : Nat} {fin : Bool} {nM wM : Nat} : ∀ (qs : List mI) (ok : Bool) (pc : Nat) (L st : List Value) (h : mHp), mgoK nL fin nM wM qs ok pc L st h = mgo nL fin nM wM qs (ok, pc, L, st, h)
  | [], _, _, _, _, _ => rfl
  | q :: qs, ok, pc, L, st, h => by
    show cond (Nat.beq pc q.1) (match mst nL fin nM wM q (ok, pc, L, st, h) with
      | (ok', pc', L', st', h') => mgoK nL fin nM wM qs ok' pc' L' st' h') (mgo nL fin nM wM qs (mBad h)) = mgo nL fin nM wM qs (cond (Nat.beq pc q.1) (mst nL fin nM wM q (ok, pc, L, st, h)) (mBad h))
    cases Nat.beq pc q.1
    · rfl
    · show (match mst nL fin nM wM q (ok, pc, L, st, h) with
        | (ok', pc', L', st', h') => mgoK nL fin nM wM qs ok' pc' L' st' h') = mgo nL fin nM wM qs (mst nL fin nM wM q (ok, pc, L, st, h))
      obtain ⟨a1, a2, a3, a4, a5⟩ := mst nL fin nM wM q (ok, pc, L, st, h)
      exact mgoK_eq qs a1 a2 a3 a4 a5
section SF
variable {p : Program} {l : Launch} {e : Env} {R : Room} {s : State} {m : MethodId} {args : Array Value} {below : List Frame} {meth : Method} {c : Code} {Q : State → Prop} {cc : ByteArray} {own : String} {G : mG} {nL n0 w0 nM wM : Nat} {fin : Bool} {T : List mI}
/-- THE STRETCH RULE, the quick one -/
theorem msegK (C : mCx p R s m args meth c G cc own nL fin nM wM n0 w0) (hT : mTok cc own nL fin T) (a n : Nat) {ok : Bool} {pc : Nat} {L st : List Value} {h : mHp} {g : mC} (he : mgoK nL fin nM wM ((T.drop a).take n) ok pc L st h = g) (hok : g.1 = true) (k : mW p l e R s m args below meth c G nL n0 w0 Q g) : mW p l e R s m args below meth c G nL n0 w0 Q (ok, pc, L, st, h) :=
  mseg C hT a n ((mgoK_eq _ _ _ _ _ _).symm.trans he) hok k
end SF
