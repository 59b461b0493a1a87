theorem mk_a {b b' : Bool} {a k : Nat} (h : a ≠ 0) : rT b a k = rT b' a k := by
  have h1 : Nat.blt a 1 = false := by
    cases z : Nat.blt a 1
    · rfl
    · exact absurd (Nat.lt_one_iff.mp (Nat.blt_eq.mp z)) h
  simp only [rT, h1, cond_false]
theorem mk_k16 {b : Bool} {k : Nat} (h : 16 ≤ k) : rT b 0 k = NUL := by
  have z : ∀ n, n ≤ 16 → Nat.blt k n = false := fun n hn => by
    cases q : Nat.blt k n
    · rfl
    · have := Nat.blt_eq.mp q
      omega
  change cond (Nat.blt k 8) _ (cond (Nat.blt k 12) _ (cond (Nat.blt k 14) _ NUL)) = NUL
  rw [z 8 (by omega), z 12 (by omega), z 14 (by omega)]
  rfl
theorem mk_k : ∀ k, k < 16 → k ≠ 1 → k ≠ 2 → rT false 0 k = rT true 0 k := by decide
theorem mk_R {b : Bool} : up2 (up2 (rT b) 0 1 (shV b)) 0 2 (shU b) = rT (!b) := by
  funext a k
  by_cases ha : a = 0
  · subst ha
    rw [up2_at]
    by_cases h2 : k = 2
    · subst h2
      rw [mup_at]
      cases b <;> rfl
    · rw [mup_ne h2, up2_at]
      by_cases h1 : k = 1
      · subst h1
        rw [mup_at]
        cases b <;> rfl
      · rw [mup_ne h1]
        rcases Nat.lt_or_ge k 16 with z | z
        · cases b
          · exact mk_k k z h1 h2
          · exact (mk_k k z h1 h2).symm
        · rw [mk_k16 z, mk_k16 z]
  · rw [up2_ne ha, up2_ne ha]
    exact mk_a ha
theorem mk_sw_f {S : mT} : putR (putR (mk false S) 0 1 (shV false)) 0 2 (shU false) = mk true S := by
  show (S.1, S.2, up2 (up2 (rT false) 0 1 (shV false)) 0 2 (shU false), sT, 233, 54500) = (S.1, S.2, rT true, sT, 233, 54500)
  rw [mk_R]
  rfl
theorem mk_sw_t {S : mT} : putR (putR (mk true S) 0 1 (shV true)) 0 2 (shU true) = mk false S := by
  show (S.1, S.2, up2 (up2 (rT true) 0 1 (shV true)) 0 2 (shU true), sT, 233, 54500) = (S.1, S.2, rT false, sT, 233, 54500)
  rw [mk_R]
  rfl
theorem gRm2 {d : Nat} {b b2 : Bool} {S0 S1 : mT} : mRm d (mk b S0) (mk b2 S1) = mR d := by
  unfold mRm mR
  rw [show hN (mk b2 S1) - hN (mk b S0) = 0 from Nat.sub_self 233, show hW (mk b2 S1) - hW (mk b S0) = 0 from Nat.sub_self 54500]
theorem gMet2 {l : Launch} {d : Nat} {b b2 : Bool} {S : mT} {M : mM} {vs : List Value} {S2 : mT} {r : Option Value} (hy : plainName M.1.cls = true) (hd : 1 ≤ d) (hp : mPl vs = true) (hl : (mEx vs).length ≤ M.2.2.1)
    (body : ∀ (p : Program) (e : Env) (s : State) (m : MethodId) (args : Array Value) (below : List Frame) (meth : Method) (c : Code) (G : mG), mCx p (mR d) s m args meth c G M.2.1 M.1.cls M.2.2.1 false 233 54500 233 54500 → meth.sig.returnType = M.2.2.2 → meth.locks = false →
      mW p l e (mR d) s m args below meth c G M.2.2.1 233 54500 (mQ below G args s b2 S2 r) (true, 0, mL0 M.2.2.1 vs, [], mk b S)) : mMet l M d vs (mk b S) r (mk b2 S2) := by
  refine mMet_of false hy (fun z => by cases z) hd hp hl (Nat.le_refl _) (Nat.le_refl _) (Nat.le_of_ble_eq_true rfl) (fun p e s m args below meth c G C hr hk => ?_)
  rw [gRm2] at C ⊢
  have k := body p e s m args below meth c G C hr hk
  rw [← gQ] at k
  exact k
section GP
variable {p : Program} {l : Launch} {e : Env} {s : State} {m : MethodId} {args : Array Value} {below : List Frame} {meth : Method} {c : Code} {G : mG}
theorem bX0_add_30_9 (C : mCx p (mR 1) s m args meth c G cX0_add RX0 2 false 233 54500 233 54500) (hr : meth.sig.returnType = none) (hk : meth.locks = false) {b : Bool} {S' : mT} {S : mT} (hf : fX0_add_30 9 S = some S') (ok : Bool) : mW p l e (mR 1) s m args below meth c G 2 233 54500 (mQ below G args s b S' none) (ok, 30, [.retAddr 0, .retAddr 0], [], mk b S) := by
  unfold fX0_add_30 at hf
  cases hf
  exact gret_v C hr hk (kX0_add _ (List.mem_of_getElem? (i := 16) rfl)).1
theorem bX0_add_0_9 (C : mCx p (mR 1) s m args meth c G cX0_add RX0 2 false 233 54500 233 54500) (hr : meth.sig.returnType = none) (hk : meth.locks = false) {b : Bool} {S' : mT} {v1 : Int32} {S : mT} (hf : fX0_add 9 v1 S = some S') (ok : Bool) : mW p l e (mR 1) s m args below meth c G 2 233 54500 (mQ below G args s b S' none) (ok, 0, [.ref (9), .int v1], [], mk b S) := by
  unfold fX0_add at hf
  obtain ⟨hok, hf⟩ := grd_ex hf
  refine msegT C kX0_add 0 4 (g := ((kO 9 0 && true), (if (280 : Int32) ≤ (S.1 9 2) then 30 else 10), [.ref (9), .int v1], [], mk b S)) rfl hok ?_
  by_cases hc : (280 : Int32) ≤ (S.1 9 2)
  · rw [if_pos hc] at hf ⊢
    exact mfor (L' := [.retAddr 0, .retAddr 0]) ⟨Or.inl rfl, Or.inl rfl, trivial⟩ (bX0_add_30_9 C hr hk hf true)
  · rw [if_neg hc] at hf ⊢
    obtain ⟨hok, hf⟩ := grd_ex hf
    refine msegT C kX0_add 4 6 (g := ((kI (9 + 1) (S.1 9 2) && (kO 9 0 && (kO 9 0 && true))), 20, [.ref (9), .int v1], [], mk b (sI S (9 + 1) (mIx (S.1 9 2)) v1))) rfl hok ?_
    obtain ⟨S1, eS1, hf⟩ := bnd_ex hf
    rw [← eS1]
    obtain ⟨hok, hf⟩ := grd_ex hf
    refine msegT C kX0_add 10 6 (g := ((kO 9 0 && (kO 9 0 && true)), 30, [.ref (9), .int v1], [], mk b (sI S1 9 2 ((S1.1 9 2) + (1 : Int32))))) rfl hok ?_
    obtain ⟨S2, eS2, hf⟩ := bnd_ex hf
    rw [← eS2]
    exact mfor (L' := [.retAddr 0, .retAddr 0]) ⟨Or.inl rfl, Or.inl rfl, trivial⟩ (bX0_add_30_9 C hr hk hf true)
theorem qX0_add_9 {b : Bool} {v1 : Int32} {S S' : mT} (hf : fX0_add 9 v1 S = some S') : mOk l mX0_add 1 [.ref (9), .int v1] b S none S' :=
  gMet (by decide) (Nat.le_of_ble_eq_true rfl) rfl (Nat.le_of_ble_eq_true rfl) (fun p e s m args below meth c G C hr hk => bX0_add_0_9 C hr hk hf true)
theorem bX0_add_30_12 (C : mCx p (mR 1) s m args meth c G cX0_add RX0 2 false 233 54500 233 54500) (hr : meth.sig.returnType = none) (hk : meth.locks = false) {b : Bool} {S' : mT} {S : mT} (hf : fX0_add_30 12 S = some S') (ok : Bool) : mW p l e (mR 1) s m args below meth c G 2 233 54500 (mQ below G args s b S' none) (ok, 30, [.retAddr 0, .retAddr 0], [], mk b S) := by
  unfold fX0_add_30 at hf
  cases hf
  exact gret_v C hr hk (kX0_add _ (List.mem_of_getElem? (i := 16) rfl)).1
theorem bX0_add_0_12 (C : mCx p (mR 1) s m args meth c G cX0_add RX0 2 false 233 54500 233 54500) (hr : meth.sig.returnType = none) (hk : meth.locks = false) {b : Bool} {S' : mT} {v1 : Int32} {S : mT} (hf : fX0_add 12 v1 S = some S') (ok : Bool) : mW p l e (mR 1) s m args below meth c G 2 233 54500 (mQ below G args s b S' none) (ok, 0, [.ref (12), .int v1], [], mk b S) := by
  unfold fX0_add at hf
  obtain ⟨hok, hf⟩ := grd_ex hf
  refine msegT C kX0_add 0 4 (g := ((kO 12 0 && true), (if (280 : Int32) ≤ (S.1 12 2) then 30 else 10), [.ref (12), .int v1], [], mk b S)) rfl hok ?_
  by_cases hc : (280 : Int32) ≤ (S.1 12 2)
  · rw [if_pos hc] at hf ⊢
    exact mfor (L' := [.retAddr 0, .retAddr 0]) ⟨Or.inl rfl, Or.inl rfl, trivial⟩ (bX0_add_30_12 C hr hk hf true)
  · rw [if_neg hc] at hf ⊢
    obtain ⟨hok, hf⟩ := grd_ex hf
    refine msegT C kX0_add 4 6 (g := ((kI (12 + 1) (S.1 12 2) && (kO 12 0 && (kO 12 0 && true))), 20, [.ref (12), .int v1], [], mk b (sI S (12 + 1) (mIx (S.1 12 2)) v1))) rfl hok ?_
    obtain ⟨S1, eS1, hf⟩ := bnd_ex hf
    rw [← eS1]
    obtain ⟨hok, hf⟩ := grd_ex hf
    refine msegT C kX0_add 10 6 (g := ((kO 12 0 && (kO 12 0 && true)), 30, [.ref (12), .int v1], [], mk b (sI S1 12 2 ((S1.1 12 2) + (1 : Int32))))) rfl hok ?_
    obtain ⟨S2, eS2, hf⟩ := bnd_ex hf
    rw [← eS2]
    exact mfor (L' := [.retAddr 0, .retAddr 0]) ⟨Or.inl rfl, Or.inl rfl, trivial⟩ (bX0_add_30_12 C hr hk hf true)
theorem qX0_add_12 {b : Bool} {v1 : Int32} {S S' : mT} (hf : fX0_add 12 v1 S = some S') : mOk l mX0_add 1 [.ref (12), .int v1] b S none S' :=
  gMet (by decide) (Nat.le_of_ble_eq_true rfl) rfl (Nat.le_of_ble_eq_true rfl) (fun p e s m args below meth c G C hr hk => bX0_add_0_12 C hr hk hf true)
theorem bX0_add_30_15 (C : mCx p (mR 1) s m args meth c G cX0_add RX0 2 false 233 54500 233 54500) (hr : meth.sig.returnType = none) (hk : meth.locks = false) {b : Bool} {S' : mT} {S : mT} (hf : fX0_add_30 15 S = some S') (ok : Bool) : mW p l e (mR 1) s m args below meth c G 2 233 54500 (mQ below G args s b S' none) (ok, 30, [.retAddr 0, .retAddr 0], [], mk b S) := by
  unfold fX0_add_30 at hf
  cases hf
  exact gret_v C hr hk (kX0_add _ (List.mem_of_getElem? (i := 16) rfl)).1
theorem bX0_add_0_15 (C : mCx p (mR 1) s m args meth c G cX0_add RX0 2 false 233 54500 233 54500) (hr : meth.sig.returnType = none) (hk : meth.locks = false) {b : Bool} {S' : mT} {v1 : Int32} {S : mT} (hf : fX0_add 15 v1 S = some S') (ok : Bool) : mW p l e (mR 1) s m args below meth c G 2 233 54500 (mQ below G args s b S' none) (ok, 0, [.ref (15), .int v1], [], mk b S) := by
  unfold fX0_add at hf
  obtain ⟨hok, hf⟩ := grd_ex hf
  refine msegT C kX0_add 0 4 (g := ((kO 15 0 && true), (if (280 : Int32) ≤ (S.1 15 2) then 30 else 10), [.ref (15), .int v1], [], mk b S)) rfl hok ?_
  by_cases hc : (280 : Int32) ≤ (S.1 15 2)
  · rw [if_pos hc] at hf ⊢
    exact mfor (L' := [.retAddr 0, .retAddr 0]) ⟨Or.inl rfl, Or.inl rfl, trivial⟩ (bX0_add_30_15 C hr hk hf true)
  · rw [if_neg hc] at hf ⊢
    obtain ⟨hok, hf⟩ := grd_ex hf
    refine msegT C kX0_add 4 6 (g := ((kI (15 + 1) (S.1 15 2) && (kO 15 0 && (kO 15 0 && true))), 20, [.ref (15), .int v1], [], mk b (sI S (15 + 1) (mIx (S.1 15 2)) v1))) rfl hok ?_
    obtain ⟨S1, eS1, hf⟩ := bnd_ex hf
    rw [← eS1]
    obtain ⟨hok, hf⟩ := grd_ex hf
    refine msegT C kX0_add 10 6 (g := ((kO 15 0 && (kO 15 0 && true)), 30, [.ref (15), .int v1], [], mk b (sI S1 15 2 ((S1.1 15 2) + (1 : Int32))))) rfl hok ?_
    obtain ⟨S2, eS2, hf⟩ := bnd_ex hf
    rw [← eS2]
    exact mfor (L' := [.retAddr 0, .retAddr 0]) ⟨Or.inl rfl, Or.inl rfl, trivial⟩ (bX0_add_30_15 C hr hk hf true)
theorem qX0_add_15 {b : Bool} {v1 : Int32} {S S' : mT} (hf : fX0_add 15 v1 S = some S') : mOk l mX0_add 1 [.ref (15), .int v1] b S none S' :=
  gMet (by decide) (Nat.le_of_ble_eq_true rfl) rfl (Nat.le_of_ble_eq_true rfl) (fun p e s m args below meth c G C hr hk => bX0_add_0_15 C hr hk hf true)
theorem bX0_add_30_25 (C : mCx p (mR 1) s m args meth c G cX0_add RX0 2 false 233 54500 233 54500) (hr : meth.sig.returnType = none) (hk : meth.locks = false) {b : Bool} {S' : mT} {S : mT} (hf : fX0_add_30 25 S = some S') (ok : Bool) : mW p l e (mR 1) s m args below meth c G 2 233 54500 (mQ below G args s b S' none) (ok, 30, [.retAddr 0, .retAddr 0], [], mk b S) := by
  unfold fX0_add_30 at hf
  cases hf
  exact gret_v C hr hk (kX0_add _ (List.mem_of_getElem? (i := 16) rfl)).1
theorem bX0_add_0_25 (C : mCx p (mR 1) s m args meth c G cX0_add RX0 2 false 233 54500 233 54500) (hr : meth.sig.returnType = none) (hk : meth.locks = false) {b : Bool} {S' : mT} {v1 : Int32} {S : mT} (hf : fX0_add 25 v1 S = some S') (ok : Bool) : mW p l e (mR 1) s m args below meth c G 2 233 54500 (mQ below G args s b S' none) (ok, 0, [.ref (25), .int v1], [], mk b S) := by
  unfold fX0_add at hf
  obtain ⟨hok, hf⟩ := grd_ex hf
  refine msegT C kX0_add 0 4 (g := ((kO 25 0 && true), (if (280 : Int32) ≤ (S.1 25 2) then 30 else 10), [.ref (25), .int v1], [], mk b S)) rfl hok ?_
  by_cases hc : (280 : Int32) ≤ (S.1 25 2)
  · rw [if_pos hc] at hf ⊢
    exact mfor (L' := [.retAddr 0, .retAddr 0]) ⟨Or.inl rfl, Or.inl rfl, trivial⟩ (bX0_add_30_25 C hr hk hf true)
  · rw [if_neg hc] at hf ⊢
    obtain ⟨hok, hf⟩ := grd_ex hf
    refine msegT C kX0_add 4 6 (g := ((kI (25 + 1) (S.1 25 2) && (kO 25 0 && (kO 25 0 && true))), 20, [.ref (25), .int v1], [], mk b (sI S (25 + 1) (mIx (S.1 25 2)) v1))) rfl hok ?_
    obtain ⟨S1, eS1, hf⟩ := bnd_ex hf
    rw [← eS1]
    obtain ⟨hok, hf⟩ := grd_ex hf
    refine msegT C kX0_add 10 6 (g := ((kO 25 0 && (kO 25 0 && true)), 30, [.ref (25), .int v1], [], mk b (sI S1 25 2 ((S1.1 25 2) + (1 : Int32))))) rfl hok ?_
    obtain ⟨S2, eS2, hf⟩ := bnd_ex hf
    rw [← eS2]
    exact mfor (L' := [.retAddr 0, .retAddr 0]) ⟨Or.inl rfl, Or.inl rfl, trivial⟩ (bX0_add_30_25 C hr hk hf true)
theorem qX0_add_25 {b : Bool} {v1 : Int32} {S S' : mT} (hf : fX0_add 25 v1 S = some S') : mOk l mX0_add 1 [.ref (25), .int v1] b S none S' :=
  gMet (by decide) (Nat.le_of_ble_eq_true rfl) rfl (Nat.le_of_ble_eq_true rfl) (fun p e s m args below meth c G C hr hk => bX0_add_0_25 C hr hk hf true)
theorem bX0_add_30_28 (C : mCx p (mR 1) s m args meth c G cX0_add RX0 2 false 233 54500 233 54500) (hr : meth.sig.returnType = none) (hk : meth.locks = false) {b : Bool} {S' : mT} {S : mT} (hf : fX0_add_30 28 S = some S') (ok : Bool) : mW p l e (mR 1) s m args below meth c G 2 233 54500 (mQ below G args s b S' none) (ok, 30, [.retAddr 0, .retAddr 0], [], mk b S) := by
  unfold fX0_add_30 at hf
  cases hf
  exact gret_v C hr hk (kX0_add _ (List.mem_of_getElem? (i := 16) rfl)).1
theorem bX0_add_0_28 (C : mCx p (mR 1) s m args meth c G cX0_add RX0 2 false 233 54500 233 54500) (hr : meth.sig.returnType = none) (hk : meth.locks = false) {b : Bool} {S' : mT} {v1 : Int32} {S : mT} (hf : fX0_add 28 v1 S = some S') (ok : Bool) : mW p l e (mR 1) s m args below meth c G 2 233 54500 (mQ below G args s b S' none) (ok, 0, [.ref (28), .int v1], [], mk b S) := by
  unfold fX0_add at hf
  obtain ⟨hok, hf⟩ := grd_ex hf
  refine msegT C kX0_add 0 4 (g := ((kO 28 0 && true), (if (280 : Int32) ≤ (S.1 28 2) then 30 else 10), [.ref (28), .int v1], [], mk b S)) rfl hok ?_
  by_cases hc : (280 : Int32) ≤ (S.1 28 2)
  · rw [if_pos hc] at hf ⊢
    exact mfor (L' := [.retAddr 0, .retAddr 0]) ⟨Or.inl rfl, Or.inl rfl, trivial⟩ (bX0_add_30_28 C hr hk hf true)
  · rw [if_neg hc] at hf ⊢
    obtain ⟨hok, hf⟩ := grd_ex hf
    refine msegT C kX0_add 4 6 (g := ((kI (28 + 1) (S.1 28 2) && (kO 28 0 && (kO 28 0 && true))), 20, [.ref (28), .int v1], [], mk b (sI S (28 + 1) (mIx (S.1 28 2)) v1))) rfl hok ?_
    obtain ⟨S1, eS1, hf⟩ := bnd_ex hf
    rw [← eS1]
    obtain ⟨hok, hf⟩ := grd_ex hf
    refine msegT C kX0_add 10 6 (g := ((kO 28 0 && (kO 28 0 && true)), 30, [.ref (28), .int v1], [], mk b (sI S1 28 2 ((S1.1 28 2) + (1 : Int32))))) rfl hok ?_
    obtain ⟨S2, eS2, hf⟩ := bnd_ex hf
    rw [← eS2]
    exact mfor (L' := [.retAddr 0, .retAddr 0]) ⟨Or.inl rfl, Or.inl rfl, trivial⟩ (bX0_add_30_28 C hr hk hf true)
theorem qX0_add_28 {b : Bool} {v1 : Int32} {S S' : mT} (hf : fX0_add 28 v1 S = some S') : mOk l mX0_add 1 [.ref (28), .int v1] b S none S' :=
  gMet (by decide) (Nat.le_of_ble_eq_true rfl) rfl (Nat.le_of_ble_eq_true rfl) (fun p e s m args below meth c G C hr hk => bX0_add_0_28 C hr hk hf true)
theorem bX0_add_30_31 (C : mCx p (mR 1) s m args meth c G cX0_add RX0 2 false 233 54500 233 54500) (hr : meth.sig.returnType = none) (hk : meth.locks = false) {b : Bool} {S' : mT} {S : mT} (hf : fX0_add_30 31 S = some S') (ok : Bool) : mW p l e (mR 1) s m args below meth c G 2 233 54500 (mQ below G args s b S' none) (ok, 30, [.retAddr 0, .retAddr 0], [], mk b S) := by
  unfold fX0_add_30 at hf
  cases hf
  exact gret_v C hr hk (kX0_add _ (List.mem_of_getElem? (i := 16) rfl)).1
theorem bX0_add_0_31 (C : mCx p (mR 1) s m args meth c G cX0_add RX0 2 false 233 54500 233 54500) (hr : meth.sig.returnType = none) (hk : meth.locks = false) {b : Bool} {S' : mT} {v1 : Int32} {S : mT} (hf : fX0_add 31 v1 S = some S') (ok : Bool) : mW p l e (mR 1) s m args below meth c G 2 233 54500 (mQ below G args s b S' none) (ok, 0, [.ref (31), .int v1], [], mk b S) := by
  unfold fX0_add at hf
  obtain ⟨hok, hf⟩ := grd_ex hf
  refine msegT C kX0_add 0 4 (g := ((kO 31 0 && true), (if (280 : Int32) ≤ (S.1 31 2) then 30 else 10), [.ref (31), .int v1], [], mk b S)) rfl hok ?_
  by_cases hc : (280 : Int32) ≤ (S.1 31 2)
  · rw [if_pos hc] at hf ⊢
    exact mfor (L' := [.retAddr 0, .retAddr 0]) ⟨Or.inl rfl, Or.inl rfl, trivial⟩ (bX0_add_30_31 C hr hk hf true)
  · rw [if_neg hc] at hf ⊢
    obtain ⟨hok, hf⟩ := grd_ex hf
    refine msegT C kX0_add 4 6 (g := ((kI (31 + 1) (S.1 31 2) && (kO 31 0 && (kO 31 0 && true))), 20, [.ref (31), .int v1], [], mk b (sI S (31 + 1) (mIx (S.1 31 2)) v1))) rfl hok ?_
    obtain ⟨S1, eS1, hf⟩ := bnd_ex hf
    rw [← eS1]
    obtain ⟨hok, hf⟩ := grd_ex hf
    refine msegT C kX0_add 10 6 (g := ((kO 31 0 && (kO 31 0 && true)), 30, [.ref (31), .int v1], [], mk b (sI S1 31 2 ((S1.1 31 2) + (1 : Int32))))) rfl hok ?_
    obtain ⟨S2, eS2, hf⟩ := bnd_ex hf
    rw [← eS2]
    exact mfor (L' := [.retAddr 0, .retAddr 0]) ⟨Or.inl rfl, Or.inl rfl, trivial⟩ (bX0_add_30_31 C hr hk hf true)
theorem qX0_add_31 {b : Bool} {v1 : Int32} {S S' : mT} (hf : fX0_add 31 v1 S = some S') : mOk l mX0_add 1 [.ref (31), .int v1] b S none S' :=
  gMet (by decide) (Nat.le_of_ble_eq_true rfl) rfl (Nat.le_of_ble_eq_true rfl) (fun p e s m args below meth c G C hr hk => bX0_add_0_31 C hr hk hf true)
theorem bX0_clear_0_9 (C : mCx p (mR 1) s m args meth c G cX0_clear RX0 1 false 233 54500 233 54500) (hr : meth.sig.returnType = none) (hk : meth.locks = false) {b : Bool} {S' : mT} {S : mT} (hf : fX0_clear 9 S = some S') (ok : Bool) : mW p l e (mR 1) s m args below meth c G 1 233 54500 (mQ below G args s b S' none) (ok, 0, [.ref (9)], [], mk b S) := by
  unfold fX0_clear at hf
  obtain ⟨hok, hf⟩ := grd_ex hf
  refine msegT C kX0_clear 0 3 (g := ((kO 9 0 && true), 5, [.ref (9)], [], mk b (sI S 9 2 (0 : Int32)))) rfl hok ?_
  obtain ⟨S1, eS1, hf⟩ := bnd_ex hf
  rw [← eS1]
  obtain ⟨hok, hf⟩ := grd_ex hf
  refine msegT C kX0_clear 3 3 (g := ((kO 9 0 && true), 10, [.ref (9)], [], mk b (sI S1 9 3 (0 : Int32)))) rfl hok ?_
  obtain ⟨S2, eS2, hf⟩ := bnd_ex hf
  rw [← eS2]
  obtain ⟨hok, hf⟩ := grd_ex hf
  refine msegT C kX0_clear 6 3 (g := ((mFit .boolean (0 : Int32) && (kO 9 0 && true)), 15, [.ref (9)], [], mk b (sI S2 9 4 (0 : Int32)))) rfl hok ?_
  obtain ⟨S3, eS3, hf⟩ := bnd_ex hf
  rw [← eS3]
  cases hf
  exact gret_v C hr hk (kX0_clear _ (List.mem_of_getElem? (i := 9) rfl)).1
theorem qX0_clear_9 {b : Bool} {S S' : mT} (hf : fX0_clear 9 S = some S') : mOk l mX0_clear 1 [.ref (9)] b S none S' :=
  gMet (by decide) (Nat.le_of_ble_eq_true rfl) rfl (Nat.le_of_ble_eq_true rfl) (fun p e s m args below meth c G C hr hk => bX0_clear_0_9 C hr hk hf true)
theorem bX0_clear_0_12 (C : mCx p (mR 1) s m args meth c G cX0_clear RX0 1 false 233 54500 233 54500) (hr : meth.sig.returnType = none) (hk : meth.locks = false) {b : Bool} {S' : mT} {S : mT} (hf : fX0_clear 12 S = some S') (ok : Bool) : mW p l e (mR 1) s m args below meth c G 1 233 54500 (mQ below G args s b S' none) (ok, 0, [.ref (12)], [], mk b S) := by
  unfold fX0_clear at hf
  obtain ⟨hok, hf⟩ := grd_ex hf
  refine msegT C kX0_clear 0 3 (g := ((kO 12 0 && true), 5, [.ref (12)], [], mk b (sI S 12 2 (0 : Int32)))) rfl hok ?_
  obtain ⟨S1, eS1, hf⟩ := bnd_ex hf
  rw [← eS1]
  obtain ⟨hok, hf⟩ := grd_ex hf
  refine msegT C kX0_clear 3 3 (g := ((kO 12 0 && true), 10, [.ref (12)], [], mk b (sI S1 12 3 (0 : Int32)))) rfl hok ?_
  obtain ⟨S2, eS2, hf⟩ := bnd_ex hf
  rw [← eS2]
  obtain ⟨hok, hf⟩ := grd_ex hf
  refine msegT C kX0_clear 6 3 (g := ((mFit .boolean (0 : Int32) && (kO 12 0 && true)), 15, [.ref (12)], [], mk b (sI S2 12 4 (0 : Int32)))) rfl hok ?_
  obtain ⟨S3, eS3, hf⟩ := bnd_ex hf
  rw [← eS3]
  cases hf
  exact gret_v C hr hk (kX0_clear _ (List.mem_of_getElem? (i := 9) rfl)).1
theorem qX0_clear_12 {b : Bool} {S S' : mT} (hf : fX0_clear 12 S = some S') : mOk l mX0_clear 1 [.ref (12)] b S none S' :=
  gMet (by decide) (Nat.le_of_ble_eq_true rfl) rfl (Nat.le_of_ble_eq_true rfl) (fun p e s m args below meth c G C hr hk => bX0_clear_0_12 C hr hk hf true)
theorem bX0_clear_0_15 (C : mCx p (mR 1) s m args meth c G cX0_clear RX0 1 false 233 54500 233 54500) (hr : meth.sig.returnType = none) (hk : meth.locks = false) {b : Bool} {S' : mT} {S : mT} (hf : fX0_clear 15 S = some S') (ok : Bool) : mW p l e (mR 1) s m args below meth c G 1 233 54500 (mQ below G args s b S' none) (ok, 0, [.ref (15)], [], mk b S) := by
  unfold fX0_clear at hf
  obtain ⟨hok, hf⟩ := grd_ex hf
  refine msegT C kX0_clear 0 3 (g := ((kO 15 0 && true), 5, [.ref (15)], [], mk b (sI S 15 2 (0 : Int32)))) rfl hok ?_
  obtain ⟨S1, eS1, hf⟩ := bnd_ex hf
  rw [← eS1]
  obtain ⟨hok, hf⟩ := grd_ex hf
  refine msegT C kX0_clear 3 3 (g := ((kO 15 0 && true), 10, [.ref (15)], [], mk b (sI S1 15 3 (0 : Int32)))) rfl hok ?_
  obtain ⟨S2, eS2, hf⟩ := bnd_ex hf
  rw [← eS2]
  obtain ⟨hok, hf⟩ := grd_ex hf
  refine msegT C kX0_clear 6 3 (g := ((mFit .boolean (0 : Int32) && (kO 15 0 && true)), 15, [.ref (15)], [], mk b (sI S2 15 4 (0 : Int32)))) rfl hok ?_
  obtain ⟨S3, eS3, hf⟩ := bnd_ex hf
  rw [← eS3]
  cases hf
  exact gret_v C hr hk (kX0_clear _ (List.mem_of_getElem? (i := 9) rfl)).1
theorem qX0_clear_15 {b : Bool} {S S' : mT} (hf : fX0_clear 15 S = some S') : mOk l mX0_clear 1 [.ref (15)] b S none S' :=
  gMet (by decide) (Nat.le_of_ble_eq_true rfl) rfl (Nat.le_of_ble_eq_true rfl) (fun p e s m args below meth c G C hr hk => bX0_clear_0_15 C hr hk hf true)
theorem bX0_clear_0_25 (C : mCx p (mR 1) s m args meth c G cX0_clear RX0 1 false 233 54500 233 54500) (hr : meth.sig.returnType = none) (hk : meth.locks = false) {b : Bool} {S' : mT} {S : mT} (hf : fX0_clear 25 S = some S') (ok : Bool) : mW p l e (mR 1) s m args below meth c G 1 233 54500 (mQ below G args s b S' none) (ok, 0, [.ref (25)], [], mk b S) := by
  unfold fX0_clear at hf
  obtain ⟨hok, hf⟩ := grd_ex hf
  refine msegT C kX0_clear 0 3 (g := ((kO 25 0 && true), 5, [.ref (25)], [], mk b (sI S 25 2 (0 : Int32)))) rfl hok ?_
  obtain ⟨S1, eS1, hf⟩ := bnd_ex hf
  rw [← eS1]
  obtain ⟨hok, hf⟩ := grd_ex hf
  refine msegT C kX0_clear 3 3 (g := ((kO 25 0 && true), 10, [.ref (25)], [], mk b (sI S1 25 3 (0 : Int32)))) rfl hok ?_
  obtain ⟨S2, eS2, hf⟩ := bnd_ex hf
  rw [← eS2]
  obtain ⟨hok, hf⟩ := grd_ex hf
  refine msegT C kX0_clear 6 3 (g := ((mFit .boolean (0 : Int32) && (kO 25 0 && true)), 15, [.ref (25)], [], mk b (sI S2 25 4 (0 : Int32)))) rfl hok ?_
  obtain ⟨S3, eS3, hf⟩ := bnd_ex hf
  rw [← eS3]
  cases hf
  exact gret_v C hr hk (kX0_clear _ (List.mem_of_getElem? (i := 9) rfl)).1
theorem qX0_clear_25 {b : Bool} {S S' : mT} (hf : fX0_clear 25 S = some S') : mOk l mX0_clear 1 [.ref (25)] b S none S' :=
  gMet (by decide) (Nat.le_of_ble_eq_true rfl) rfl (Nat.le_of_ble_eq_true rfl) (fun p e s m args below meth c G C hr hk => bX0_clear_0_25 C hr hk hf true)
theorem bX0_clear_0_28 (C : mCx p (mR 1) s m args meth c G cX0_clear RX0 1 false 233 54500 233 54500) (hr : meth.sig.returnType = none) (hk : meth.locks = false) {b : Bool} {S' : mT} {S : mT} (hf : fX0_clear 28 S = some S') (ok : Bool) : mW p l e (mR 1) s m args below meth c G 1 233 54500 (mQ below G args s b S' none) (ok, 0, [.ref (28)], [], mk b S) := by
  unfold fX0_clear at hf
  obtain ⟨hok, hf⟩ := grd_ex hf
  refine msegT C kX0_clear 0 3 (g := ((kO 28 0 && true), 5, [.ref (28)], [], mk b (sI S 28 2 (0 : Int32)))) rfl hok ?_
  obtain ⟨S1, eS1, hf⟩ := bnd_ex hf
  rw [← eS1]
  obtain ⟨hok, hf⟩ := grd_ex hf
  refine msegT C kX0_clear 3 3 (g := ((kO 28 0 && true), 10, [.ref (28)], [], mk b (sI S1 28 3 (0 : Int32)))) rfl hok ?_
  obtain ⟨S2, eS2, hf⟩ := bnd_ex hf
  rw [← eS2]
  obtain ⟨hok, hf⟩ := grd_ex hf
  refine msegT C kX0_clear 6 3 (g := ((mFit .boolean (0 : Int32) && (kO 28 0 && true)), 15, [.ref (28)], [], mk b (sI S2 28 4 (0 : Int32)))) rfl hok ?_
  obtain ⟨S3, eS3, hf⟩ := bnd_ex hf
  rw [← eS3]
  cases hf
  exact gret_v C hr hk (kX0_clear _ (List.mem_of_getElem? (i := 9) rfl)).1
theorem qX0_clear_28 {b : Bool} {S S' : mT} (hf : fX0_clear 28 S = some S') : mOk l mX0_clear 1 [.ref (28)] b S none S' :=
  gMet (by decide) (Nat.le_of_ble_eq_true rfl) rfl (Nat.le_of_ble_eq_true rfl) (fun p e s m args below meth c G C hr hk => bX0_clear_0_28 C hr hk hf true)
theorem bX0_clear_0_31 (C : mCx p (mR 1) s m args meth c G cX0_clear RX0 1 false 233 54500 233 54500) (hr : meth.sig.returnType = none) (hk : meth.locks = false) {b : Bool} {S' : mT} {S : mT} (hf : fX0_clear 31 S = some S') (ok : Bool) : mW p l e (mR 1) s m args below meth c G 1 233 54500 (mQ below G args s b S' none) (ok, 0, [.ref (31)], [], mk b S) := by
  unfold fX0_clear at hf
  obtain ⟨hok, hf⟩ := grd_ex hf
  refine msegT C kX0_clear 0 3 (g := ((kO 31 0 && true), 5, [.ref (31)], [], mk b (sI S 31 2 (0 : Int32)))) rfl hok ?_
  obtain ⟨S1, eS1, hf⟩ := bnd_ex hf
  rw [← eS1]
  obtain ⟨hok, hf⟩ := grd_ex hf
  refine msegT C kX0_clear 3 3 (g := ((kO 31 0 && true), 10, [.ref (31)], [], mk b (sI S1 31 3 (0 : Int32)))) rfl hok ?_
  obtain ⟨S2, eS2, hf⟩ := bnd_ex hf
  rw [← eS2]
  obtain ⟨hok, hf⟩ := grd_ex hf
  refine msegT C kX0_clear 6 3 (g := ((mFit .boolean (0 : Int32) && (kO 31 0 && true)), 15, [.ref (31)], [], mk b (sI S2 31 4 (0 : Int32)))) rfl hok ?_
  obtain ⟨S3, eS3, hf⟩ := bnd_ex hf
  rw [← eS3]
  cases hf
  exact gret_v C hr hk (kX0_clear _ (List.mem_of_getElem? (i := 9) rfl)).1
theorem qX0_clear_31 {b : Bool} {S S' : mT} (hf : fX0_clear 31 S = some S') : mOk l mX0_clear 1 [.ref (31)] b S none S' :=
  gMet (by decide) (Nat.le_of_ble_eq_true rfl) rfl (Nat.le_of_ble_eq_true rfl) (fun p e s m args below meth c G C hr hk => bX0_clear_0_31 C hr hk hf true)
theorem bX10_forget_0 (C : mCx p (mR 1) s m args meth c G cX10_forget RX10 1 false 233 54500 233 54500) (hr : meth.sig.returnType = none) (hk : meth.locks = false) {b : Bool} {S' : mT} {S : mT} (hf : fX10_forget S = some S') (ok : Bool) : mW p l e (mR 1) s m args below meth c G 1 233 54500 (mQ below G args s b S' none) (ok, 0, [.ref (120)], [], mk b S) := by
  unfold fX10_forget at hf
  obtain ⟨hok, hf⟩ := grd_ex hf
  refine msegT C kX10_forget 0 3 (g := ((mFit .boolean (0 : Int32) && (kO 120 10 && true)), 5, [.ref (120)], [], mk b (sI S 120 14 (0 : Int32)))) rfl hok ?_
  obtain ⟨S1, eS1, hf⟩ := bnd_ex hf
  rw [← eS1]
  cases hf
  exact gret_v C hr hk (kX10_forget _ (List.mem_of_getElem? (i := 3) rfl)).1
theorem qX10_forget {b : Bool} {S S' : mT} (hf : fX10_forget S = some S') : mOk l mX10_forget 1 [.ref (120)] b S none S' :=
  gMet (by decide) (Nat.le_of_ble_eq_true rfl) rfl (Nat.le_of_ble_eq_true rfl) (fun p e s m args below meth c G C hr hk => bX10_forget_0 C hr hk hf true)
theorem bX2_emptyBoxes_2 (C : mCx p (mR 1) s m args meth c G cX2_emptyBoxes RX2 2 false 233 54500 233 54500) (hr : meth.sig.returnType = none) (hk : meth.locks = false) {b : Bool} {S' : mT} : ∀ (k : Nat) (v1 : Int32) (S : mT), fX2_emptyBoxes_2 k v1 S = some S' → ∀ ok : Bool, mW p l e (mR 1) s m args below meth c G 2 233 54500 (mQ below G args s b S' none) (ok, 2, [.ref (37), .int v1], [], mk b S) := by
  intro k
  induction k with
  | zero =>
    intro v1 S hf ok
    cases hf
  | succ k ih =>
    intro v1 S hf ok
    unfold fX2_emptyBoxes_2 at hf
    refine msegT C kX2_emptyBoxes 2 3 (g := (true, (if (3 : Int32) ≤ v1 then 20 else 7), [.ref (37), .int v1], [], mk b S)) rfl rfl ?_
    by_cases hc : (3 : Int32) ≤ v1
    · rw [if_pos hc] at hf ⊢
      cases hf
      exact gret_v C hr hk (kX2_emptyBoxes _ (List.mem_of_getElem? (i := 12) rfl)).1
    · rw [if_neg hc] at hf ⊢
      obtain ⟨hok, hf⟩ := grd_ex hf
      refine msegT C kX2_emptyBoxes 5 5 (g := ((kB 84 v1 && (kO 37 2 && true)), 14, [.ref (37), .int v1], [], mk b (sI S 84 (mIx v1) (kN 84 (0 : Int32))))) rfl hok ?_
      obtain ⟨S1, eS1, hf⟩ := bnd_ex hf
      rw [← eS1]
      refine msegT C kX2_emptyBoxes 10 1 (g := (true, 17, [.ref (37), .int (v1 + (1 : Int32))], [], mk b S1)) rfl rfl ?_
      obtain ⟨x2, ex2, hf⟩ := bnd_ex hf
      rw [← ex2]
      refine msegT C kX2_emptyBoxes 11 1 (g := (true, 2, [.ref (37), .int x2], [], mk b S1)) rfl rfl ?_
      exact mfor (L' := [.ref (37), .int x2]) ⟨Or.inr rfl, Or.inr rfl, trivial⟩ (ih _ _ hf true)
theorem bX2_emptyBoxes_0 (C : mCx p (mR 1) s m args meth c G cX2_emptyBoxes RX2 2 false 233 54500 233 54500) (hr : meth.sig.returnType = none) (hk : meth.locks = false) {b : Bool} {S' : mT} {S : mT} (hf : fX2_emptyBoxes S = some S') (ok : Bool) : mW p l e (mR 1) s m args below meth c G 2 233 54500 (mQ below G args s b S' none) (ok, 0, [.ref (37), .retAddr 0], [], mk b S) := by
  unfold fX2_emptyBoxes at hf
  refine msegT C kX2_emptyBoxes 0 2 (g := (true, 2, [.ref (37), .int (0 : Int32)], [], mk b S)) rfl rfl ?_
  exact mfor (L' := [.ref (37), .int (0 : Int32)]) ⟨Or.inr rfl, Or.inr rfl, trivial⟩ (bX2_emptyBoxes_2 C hr hk _ _ _ hf true)
theorem qX2_emptyBoxes {b : Bool} {S S' : mT} (hf : fX2_emptyBoxes S = some S') : mOk l mX2_emptyBoxes 1 [.ref (37)] b S none S' :=
  gMet (by decide) (Nat.le_of_ble_eq_true rfl) rfl (Nat.le_of_ble_eq_true rfl) (fun p e s m args below meth c G C hr hk => bX2_emptyBoxes_0 C hr hk hf true)
theorem bX3_forget_0 (C : mCx p (mR 1) s m args meth c G cX3_forget RX3 1 false 233 54500 233 54500) (hr : meth.sig.returnType = none) (hk : meth.locks = false) {b : Bool} {S' : mT} {S : mT} (hf : fX3_forget S = some S') (ok : Bool) : mW p l e (mR 1) s m args below meth c G 1 233 54500 (mQ below G args s b S' none) (ok, 0, [.ref (140)], [], mk b S) := by
  unfold fX3_forget at hf
  obtain ⟨hok, hf⟩ := grd_ex hf
  refine msegT C kX3_forget 0 3 (g := ((mFit .boolean (0 : Int32) && (kO 140 3 && true)), 5, [.ref (140)], [], mk b (sI S 140 8 (0 : Int32)))) rfl hok ?_
  obtain ⟨S1, eS1, hf⟩ := bnd_ex hf
  rw [← eS1]
  cases hf
  exact gret_v C hr hk (kX3_forget _ (List.mem_of_getElem? (i := 3) rfl)).1
theorem qX3_forget {b : Bool} {S S' : mT} (hf : fX3_forget S = some S') : mOk l mX3_forget 1 [.ref (140)] b S none S' :=
  gMet (by decide) (Nat.le_of_ble_eq_true rfl) rfl (Nat.le_of_ble_eq_true rfl) (fun p e s m args below meth c G C hr hk => bX3_forget_0 C hr hk hf true)
theorem bX4_isDigitAt_35 (C : mCx p (mR 1) s m args meth c G cX4_isDigitAt RX4 2 false 233 54500 233 54500) (hr : meth.sig.returnType = (some .boolean)) (hk : meth.locks = false) {b : Bool} {S' : mT} {r : Int32} {s0 : Int32} {S : mT} (hf : fX4_isDigitAt_35 s0 S = some (r, S')) (ok : Bool) : mW p l e (mR 1) s m args below meth c G 2 233 54500 (mQ below G args s b S' (some (.int r))) (ok, 35, [.retAddr 0, .retAddr 0], [.int s0], mk b S) := by
  unfold fX4_isDigitAt_35 at hf
  obtain ⟨hz, hf⟩ := grd_ex hf
  cases hf
  exact gret_z C hr hk (mFit_nar hz) (kX4_isDigitAt _ (List.mem_of_getElem? (i := 19) rfl)).1
theorem bX4_isDigitAt_34 (C : mCx p (mR 1) s m args meth c G cX4_isDigitAt RX4 2 false 233 54500 233 54500) (hr : meth.sig.returnType = (some .boolean)) (hk : meth.locks = false) {b : Bool} {S' : mT} {r : Int32} {S : mT} (hf : fX4_isDigitAt_34 S = some (r, S')) (ok : Bool) : mW p l e (mR 1) s m args below meth c G 2 233 54500 (mQ below G args s b S' (some (.int r))) (ok, 34, [.retAddr 0, .retAddr 0], [], mk b S) := by
  unfold fX4_isDigitAt_34 at hf
  refine msegT C kX4_isDigitAt 18 1 (g := (true, 35, [.retAddr 0, .retAddr 0], [.int (0 : Int32)], mk b S)) rfl rfl ?_
  exact mfor (L' := [.retAddr 0, .retAddr 0]) ⟨Or.inl rfl, Or.inl rfl, trivial⟩ (bX4_isDigitAt_35 C hr hk hf true)
theorem bX4_isDigitAt_0 (C : mCx p (mR 1) s m args meth c G cX4_isDigitAt RX4 2 false 233 54500 233 54500) (hr : meth.sig.returnType = (some .boolean)) (hk : meth.locks = false) {b : Bool} {S' : mT} {r : Int32} {v1 : Int32} {S : mT} (hf : fX4_isDigitAt v1 S = some (r, S')) (ok : Bool) : mW p l e (mR 1) s m args below meth c G 2 233 54500 (mQ below G args s b S' (some (.int r))) (ok, 0, [.ref (1), .int v1], [], mk b S) := by
  unfold fX4_isDigitAt at hf
  obtain ⟨hok, hf⟩ := grd_ex hf
  refine msegT C kX4_isDigitAt 0 4 (g := ((kO 1 4 && true), (if (S.1 1 1) ≤ v1 then 34 else 8), [.ref (1), .int v1], [], mk b S)) rfl hok ?_
  by_cases hc : (S.1 1 1) ≤ v1
  · rw [if_pos hc] at hf ⊢
    exact mfor (L' := [.retAddr 0, .retAddr 0]) ⟨Or.inl rfl, Or.inl rfl, trivial⟩ (bX4_isDigitAt_34 C hr hk hf true)
  · rw [if_neg hc] at hf ⊢
    obtain ⟨hok, hf⟩ := grd_ex hf
    refine msegT C kX4_isDigitAt 4 6 (g := ((kB 2 v1 && (kO 1 4 && true)), (if (S.1 2 (mIx v1)) < (48 : Int32) then 34 else 19), [.ref (1), .int v1], [], mk b S)) rfl hok ?_
    by_cases hc : (S.1 2 (mIx v1)) < (48 : Int32)
    · rw [if_pos hc] at hf ⊢
      exact mfor (L' := [.retAddr 0, .retAddr 0]) ⟨Or.inl rfl, Or.inl rfl, trivial⟩ (bX4_isDigitAt_34 C hr hk hf true)
    · rw [if_neg hc] at hf ⊢
      obtain ⟨hok, hf⟩ := grd_ex hf
      refine msegT C kX4_isDigitAt 10 6 (g := ((kB 2 v1 && (kO 1 4 && true)), (if (57 : Int32) < (S.1 2 (mIx v1)) then 34 else 30), [.ref (1), .int v1], [], mk b S)) rfl hok ?_
      by_cases hc : (57 : Int32) < (S.1 2 (mIx v1))
      · rw [if_pos hc] at hf ⊢
        exact mfor (L' := [.retAddr 0, .retAddr 0]) ⟨Or.inl rfl, Or.inl rfl, trivial⟩ (bX4_isDigitAt_34 C hr hk hf true)
      · rw [if_neg hc] at hf ⊢
        refine msegT C kX4_isDigitAt 16 2 (g := (true, 35, [.ref (1), .int v1], [.int (1 : Int32)], mk b S)) rfl rfl ?_
        exact mfor (L' := [.retAddr 0, .retAddr 0]) ⟨Or.inl rfl, Or.inl rfl, trivial⟩ (bX4_isDigitAt_35 C hr hk hf true)
theorem qX4_isDigitAt {b : Bool} {v1 : Int32} {S S' : mT} {r : Int32} (hf : fX4_isDigitAt v1 S = some (r, S')) : mOk l mX4_isDigitAt 1 [.ref (1), .int v1] b S (some (.int r)) S' :=
  gMet (by decide) (Nat.le_of_ble_eq_true rfl) rfl (Nat.le_of_ble_eq_true rfl) (fun p e s m args below meth c G C hr hk => bX4_isDigitAt_0 C hr hk hf true)
theorem bX4_isLetterAt_35 (C : mCx p (mR 1) s m args meth c G cX4_isLetterAt RX4 2 false 233 54500 233 54500) (hr : meth.sig.returnType = (some .boolean)) (hk : meth.locks = false) {b : Bool} {S' : mT} {r : Int32} {s0 : Int32} {S : mT} (hf : fX4_isLetterAt_35 s0 S = some (r, S')) (ok : Bool) : mW p l e (mR 1) s m args below meth c G 2 233 54500 (mQ below G args s b S' (some (.int r))) (ok, 35, [.retAddr 0, .retAddr 0], [.int s0], mk b S) := by
  unfold fX4_isLetterAt_35 at hf
  obtain ⟨hz, hf⟩ := grd_ex hf
  cases hf
  exact gret_z C hr hk (mFit_nar hz) (kX4_isLetterAt _ (List.mem_of_getElem? (i := 19) rfl)).1
theorem bX4_isLetterAt_34 (C : mCx p (mR 1) s m args meth c G cX4_isLetterAt RX4 2 false 233 54500 233 54500) (hr : meth.sig.returnType = (some .boolean)) (hk : meth.locks = false) {b : Bool} {S' : mT} {r : Int32} {S : mT} (hf : fX4_isLetterAt_34 S = some (r, S')) (ok : Bool) : mW p l e (mR 1) s m args below meth c G 2 233 54500 (mQ below G args s b S' (some (.int r))) (ok, 34, [.retAddr 0, .retAddr 0], [], mk b S) := by
  unfold fX4_isLetterAt_34 at hf
  refine msegT C kX4_isLetterAt 18 1 (g := (true, 35, [.retAddr 0, .retAddr 0], [.int (0 : Int32)], mk b S)) rfl rfl ?_
  exact mfor (L' := [.retAddr 0, .retAddr 0]) ⟨Or.inl rfl, Or.inl rfl, trivial⟩ (bX4_isLetterAt_35 C hr hk hf true)
theorem bX4_isLetterAt_0 (C : mCx p (mR 1) s m args meth c G cX4_isLetterAt RX4 2 false 233 54500 233 54500) (hr : meth.sig.returnType = (some .boolean)) (hk : meth.locks = false) {b : Bool} {S' : mT} {r : Int32} {v1 : Int32} {S : mT} (hf : fX4_isLetterAt v1 S = some (r, S')) (ok : Bool) : mW p l e (mR 1) s m args below meth c G 2 233 54500 (mQ below G args s b S' (some (.int r))) (ok, 0, [.ref (1), .int v1], [], mk b S) := by
  unfold fX4_isLetterAt at hf
  obtain ⟨hok, hf⟩ := grd_ex hf
  refine msegT C kX4_isLetterAt 0 4 (g := ((kO 1 4 && true), (if (S.1 1 1) ≤ v1 then 34 else 8), [.ref (1), .int v1], [], mk b S)) rfl hok ?_
  by_cases hc : (S.1 1 1) ≤ v1
  · rw [if_pos hc] at hf ⊢
    exact mfor (L' := [.retAddr 0, .retAddr 0]) ⟨Or.inl rfl, Or.inl rfl, trivial⟩ (bX4_isLetterAt_34 C hr hk hf true)
  · rw [if_neg hc] at hf ⊢
    obtain ⟨hok, hf⟩ := grd_ex hf
    refine msegT C kX4_isLetterAt 4 6 (g := ((kB 2 v1 && (kO 1 4 && true)), (if (S.1 2 (mIx v1)) < (97 : Int32) then 34 else 19), [.ref (1), .int v1], [], mk b S)) rfl hok ?_
    by_cases hc : (S.1 2 (mIx v1)) < (97 : Int32)
    · rw [if_pos hc] at hf ⊢
      exact mfor (L' := [.retAddr 0, .retAddr 0]) ⟨Or.inl rfl, Or.inl rfl, trivial⟩ (bX4_isLetterAt_34 C hr hk hf true)
    · rw [if_neg hc] at hf ⊢
      obtain ⟨hok, hf⟩ := grd_ex hf
      refine msegT C kX4_isLetterAt 10 6 (g := ((kB 2 v1 && (kO 1 4 && true)), (if (122 : Int32) < (S.1 2 (mIx v1)) then 34 else 30), [.ref (1), .int v1], [], mk b S)) rfl hok ?_
      by_cases hc : (122 : Int32) < (S.1 2 (mIx v1))
      · rw [if_pos hc] at hf ⊢
        exact mfor (L' := [.retAddr 0, .retAddr 0]) ⟨Or.inl rfl, Or.inl rfl, trivial⟩ (bX4_isLetterAt_34 C hr hk hf true)
      · rw [if_neg hc] at hf ⊢
        refine msegT C kX4_isLetterAt 16 2 (g := (true, 35, [.ref (1), .int v1], [.int (1 : Int32)], mk b S)) rfl rfl ?_
        exact mfor (L' := [.retAddr 0, .retAddr 0]) ⟨Or.inl rfl, Or.inl rfl, trivial⟩ (bX4_isLetterAt_35 C hr hk hf true)
theorem qX4_isLetterAt {b : Bool} {v1 : Int32} {S S' : mT} {r : Int32} (hf : fX4_isLetterAt v1 S = some (r, S')) : mOk l mX4_isLetterAt 1 [.ref (1), .int v1] b S (some (.int r)) S' :=
  gMet (by decide) (Nat.le_of_ble_eq_true rfl) rfl (Nat.le_of_ble_eq_true rfl) (fun p e s m args below meth c G C hr hk => bX4_isLetterAt_0 C hr hk hf true)
theorem bX4_refuse_20 (C : mCx p (mR 1) s m args meth c G cX4_refuse RX4 2 false 233 54500 233 54500) (hr : meth.sig.returnType = none) (hk : meth.locks = false) {b : Bool} {S' : mT} {S : mT} (hf : fX4_refuse_20 S = some S') (ok : Bool) : mW p l e (mR 1) s m args below meth c G 2 233 54500 (mQ below G args s b S' none) (ok, 20, [.ref (1), .retAddr 0], [], mk b S) := by
  unfold fX4_refuse_20 at hf
  obtain ⟨hok, hf⟩ := grd_ex hf
  refine msegT C kX4_refuse 10 3 (g := ((kO 1 4 && true), 25, [.ref (1), .retAddr 0], [], mk b (sI S 1 4 (0 : Int32)))) rfl hok ?_
  obtain ⟨S3, eS3, hf⟩ := bnd_ex hf
  rw [← eS3]
  cases hf
  exact gret_v C hr hk (kX4_refuse _ (List.mem_of_getElem? (i := 13) rfl)).1
theorem bX4_refuse_0 (C : mCx p (mR 1) s m args meth c G cX4_refuse RX4 2 false 233 54500 233 54500) (hr : meth.sig.returnType = none) (hk : meth.locks = false) {b : Bool} {S' : mT} {v1 : Int32} {S : mT} (hf : fX4_refuse v1 S = some S') (ok : Bool) : mW p l e (mR 1) s m args below meth c G 2 233 54500 (mQ below G args s b S' none) (ok, 0, [.ref (1), .int v1], [], mk b S) := by
  unfold fX4_refuse at hf
  obtain ⟨hok, hf⟩ := grd_ex hf
  refine msegT C kX4_refuse 0 3 (g := ((kO 1 4 && true), (if (S.1 1 2) = 0 then 7 else 20), [.ref (1), .int v1], [], mk b S)) rfl hok ?_
  by_cases hc : (S.1 1 2) = 0
  · rw [if_pos hc] at hf ⊢
    obtain ⟨hok, hf⟩ := grd_ex hf
    refine msegT C kX4_refuse 3 3 (g := ((kO 1 4 && true), 12, [.ref (1), .int v1], [], mk b (sI S 1 2 v1))) rfl hok ?_
    obtain ⟨S1, eS1, hf⟩ := bnd_ex hf
    rw [← eS1]
    obtain ⟨hok, hf⟩ := grd_ex hf
    refine msegT C kX4_refuse 6 4 (g := ((kO 1 4 && (kO 1 4 && true)), 20, [.ref (1), .int v1], [], mk b (sI S1 1 3 (S1.1 1 5)))) rfl hok ?_
    obtain ⟨S2, eS2, hf⟩ := bnd_ex hf
    rw [← eS2]
    exact mfor (L' := [.ref (1), .retAddr 0]) ⟨Or.inr rfl, Or.inl rfl, trivial⟩ (bX4_refuse_20 C hr hk hf true)
  · rw [if_neg hc] at hf ⊢
    exact mfor (L' := [.ref (1), .retAddr 0]) ⟨Or.inr rfl, Or.inl rfl, trivial⟩ (bX4_refuse_20 C hr hk hf true)
theorem qX4_refuse {b : Bool} {v1 : Int32} {S S' : mT} (hf : fX4_refuse v1 S = some S') : mOk l mX4_refuse 1 [.ref (1), .int v1] b S none S' :=
  gMet (by decide) (Nat.le_of_ble_eq_true rfl) rfl (Nat.le_of_ble_eq_true rfl) (fun p e s m args below meth c G C hr hk => bX4_refuse_0 C hr hk hf true)
theorem bX4_scanNumber_98 (C : mCx p (mR 2) s m args meth c G cX4_scanNumber RX4 1 false 233 54500 233 54500) (hr : meth.sig.returnType = none) (hk : meth.locks = false) {b : Bool} {S' : mT} {S : mT} (hf : fX4_scanNumber_98 S = some S') (ok : Bool) : mW p l e (mR 2) s m args below meth c G 1 233 54500 (mQ below G args s b S' none) (ok, 98, [.retAddr 0], [], mk b S) := by
  unfold fX4_scanNumber_98 at hf
  cases hf
  exact gret_v C hr hk (kX4_scanNumber _ (List.mem_of_getElem? (i := 52) rfl)).1
theorem bX4_scanNumber_93 (C : mCx p (mR 2) s m args meth c G cX4_scanNumber RX4 1 false 233 54500 233 54500) (hr : meth.sig.returnType = none) (hk : meth.locks = false) {b : Bool} {S' : mT} {S : mT} (hf : fX4_scanNumber_93 S = some S') (ok : Bool) : mW p l e (mR 2) s m args below meth c G 1 233 54500 (mQ below G args s b S' none) (ok, 93, [.ref (1)], [], mk b S) := by
  unfold fX4_scanNumber_93 at hf
  refine msegT C kX4_scanNumber 49 2 (g := (true, 95, [.ref (1)], [.int (1 : Int32), .ref (1)], mk b S)) rfl rfl ?_
  obtain ⟨S9, hq, hf⟩ := bndV_ex hf
  refine mcall (kd := 0) (vs := [.ref (1), .int (1 : Int32)]) (rest := []) (r := none) (h' := mk b S9) (ok' := true) C lkRX4_79 (qX4_refuse hq) (kX4_scanNumber _ (List.mem_of_getElem? (i := 51) rfl)).1 ⟨_, _, rfl, rfl, Nat.le_of_ble_eq_true rfl, _, _, rfl, rfl, rfl⟩ (Nat.le_of_ble_eq_true rfl) (Nat.le_of_ble_eq_true rfl) (Nat.le_refl _) (Nat.le_refl _) (Nat.le_of_ble_eq_true rfl) ?_
  exact mfor (L' := [.retAddr 0]) ⟨Or.inl rfl, trivial⟩ (bX4_scanNumber_98 C hr hk hf true)
theorem bX4_scanNumber_69 (C : mCx p (mR 2) s m args meth c G cX4_scanNumber RX4 1 false 233 54500 233 54500) (hr : meth.sig.returnType = none) (hk : meth.locks = false) {b : Bool} {S' : mT} {S : mT} (hf : fX4_scanNumber_69 S = some S') (ok : Bool) : mW p l e (mR 2) s m args below meth c G 1 233 54500 (mQ below G args s b S' none) (ok, 69, [.ref (1)], [], mk b S) := by
  unfold fX4_scanNumber_69 at hf
  obtain ⟨hok, hf⟩ := grd_ex hf
  refine msegT C kX4_scanNumber 37 7 (g := ((kO 1 4 && (kO 1 4 && true)), (if (4 : Int32) < ((S.1 1 6) - (S.1 1 5)) then 93 else 82), [.ref (1)], [], mk b S)) rfl hok ?_
  by_cases hc : (4 : Int32) < ((S.1 1 6) - (S.1 1 5))
  · rw [if_pos hc] at hf ⊢
    exact mfor (L' := [.ref (1)]) ⟨Or.inr rfl, trivial⟩ (bX4_scanNumber_93 C hr hk hf true)
  · rw [if_neg hc] at hf ⊢
    obtain ⟨hok, hf⟩ := grd_ex hf
    refine msegT C kX4_scanNumber 44 3 (g := ((kO 1 4 && true), 87, [.ref (1)], [.int (S.1 1 6), .ref (1)], mk b S)) rfl hok ?_
    obtain ⟨x8, S7, hq, hf⟩ := bndC_ex hf
    refine mcall (kd := 0) (vs := [.ref (1), .int (S.1 1 6)]) (rest := []) (r := (some (.int x8))) (h' := mk b S7) (ok' := true) C lkRX4_191 (qX4_isLetterAt hq) (kX4_scanNumber _ (List.mem_of_getElem? (i := 47) rfl)).1 ⟨_, _, rfl, rfl, Nat.le_of_ble_eq_true rfl, _, _, rfl, rfl, rfl⟩ (Nat.le_of_ble_eq_true rfl) (Nat.le_of_ble_eq_true rfl) (Nat.le_refl _) (Nat.le_refl _) (Nat.le_of_ble_eq_true rfl) ?_
    refine msegT C kX4_scanNumber 48 1 (g := (true, (if x8 = 0 then 98 else 93), [.ref (1)], [], mk b S7)) rfl rfl ?_
    by_cases hc : x8 = 0
    · rw [if_pos hc] at hf ⊢
      exact mfor (L' := [.retAddr 0]) ⟨Or.inl rfl, trivial⟩ (bX4_scanNumber_98 C hr hk hf true)
    · rw [if_neg hc] at hf ⊢
      exact mfor (L' := [.ref (1)]) ⟨Or.inr rfl, trivial⟩ (bX4_scanNumber_93 C hr hk hf true)
theorem bX4_scanNumber_10 (C : mCx p (mR 2) s m args meth c G cX4_scanNumber RX4 1 false 233 54500 233 54500) (hr : meth.sig.returnType = none) (hk : meth.locks = false) {b : Bool} {S' : mT} : ∀ (k : Nat) (S : mT), fX4_scanNumber_10 k S = some S' → ∀ ok : Bool, mW p l e (mR 2) s m args below meth c G 1 233 54500 (mQ below G args s b S' none) (ok, 10, [.ref (1)], [], mk b S) := by
  intro k
  induction k with
  | zero =>
    intro S hf ok
    cases hf
  | succ k ih =>
    intro S hf ok
    unfold fX4_scanNumber_10 at hf
    obtain ⟨hok, hf⟩ := grd_ex hf
    refine msegT C kX4_scanNumber 6 5 (g := ((kO 1 4 && (kO 1 4 && true)), (if (S.1 1 1) ≤ (S.1 1 6) then 69 else 21), [.ref (1)], [], mk b S)) rfl hok ?_
    by_cases hc : (S.1 1 1) ≤ (S.1 1 6)
    · rw [if_pos hc] at hf ⊢
      exact mfor (L' := [.ref (1)]) ⟨Or.inr rfl, trivial⟩ (bX4_scanNumber_69 C hr hk hf true)
    · rw [if_neg hc] at hf ⊢
      obtain ⟨hok, hf⟩ := grd_ex hf
      refine msegT C kX4_scanNumber 11 3 (g := ((kO 1 4 && true), 26, [.ref (1)], [.int (S.1 1 6), .ref (1)], mk b S)) rfl hok ?_
      obtain ⟨x4, S3, hq, hf⟩ := bndC_ex hf
      refine mcall (kd := 0) (vs := [.ref (1), .int (S.1 1 6)]) (rest := []) (r := (some (.int x4))) (h' := mk b S3) (ok' := true) C lkRX4_198 (qX4_isDigitAt hq) (kX4_scanNumber _ (List.mem_of_getElem? (i := 14) rfl)).1 ⟨_, _, rfl, rfl, Nat.le_of_ble_eq_true rfl, _, _, rfl, rfl, rfl⟩ (Nat.le_of_ble_eq_true rfl) (Nat.le_of_ble_eq_true rfl) (Nat.le_refl _) (Nat.le_refl _) (Nat.le_of_ble_eq_true rfl) ?_
      refine msegT C kX4_scanNumber 15 1 (g := (true, (if x4 = 0 then 69 else 32), [.ref (1)], [], mk b S3)) rfl rfl ?_
      by_cases hc : x4 = 0
      · rw [if_pos hc] at hf ⊢
        exact mfor (L' := [.ref (1)]) ⟨Or.inr rfl, trivial⟩ (bX4_scanNumber_69 C hr hk hf true)
      · rw [if_neg hc] at hf ⊢
        obtain ⟨hok, hf⟩ := grd_ex hf
        refine msegT C kX4_scanNumber 16 10 (g := ((kB 2 (S3.1 1 6) && (kO 1 4 && (kO 1 4 && (kO 1 4 && true)))), 49, [.ref (1)], [.int (S3.1 2 (mIx (S3.1 1 6))), .int ((S3.1 1 7) * (10 : Int32)), .ref (1)], mk b S3)) rfl hok ?_
        obtain ⟨hok, hf⟩ := grd_ex hf
        refine msegT C kX4_scanNumber 26 4 (g := ((kO 1 4 && true), 56, [.ref (1)], [], mk b (sI S3 1 7 (((S3.1 1 7) * (10 : Int32)) + ((S3.1 2 (mIx (S3.1 1 6))) - (48 : Int32)))))) rfl hok ?_
        obtain ⟨S5, eS5, hf⟩ := bnd_ex hf
        rw [← eS5]
        obtain ⟨hok, hf⟩ := grd_ex hf
        refine msegT C kX4_scanNumber 30 6 (g := ((kO 1 4 && (kO 1 4 && true)), 66, [.ref (1)], [], mk b (sI S5 1 6 ((S5.1 1 6) + (1 : Int32))))) rfl hok ?_
        obtain ⟨S6, eS6, hf⟩ := bnd_ex hf
        rw [← eS6]
        refine msegT C kX4_scanNumber 36 1 (g := (true, 10, [.ref (1)], [], mk b S6)) rfl rfl ?_
        exact mfor (L' := [.ref (1)]) ⟨Or.inr rfl, trivial⟩ (ih _ hf true)
theorem bX4_scanNumber_0 (C : mCx p (mR 2) s m args meth c G cX4_scanNumber RX4 1 false 233 54500 233 54500) (hr : meth.sig.returnType = none) (hk : meth.locks = false) {b : Bool} {S' : mT} {S : mT} (hf : fX4_scanNumber S = some S') (ok : Bool) : mW p l e (mR 2) s m args below meth c G 1 233 54500 (mQ below G args s b S' none) (ok, 0, [.ref (1)], [], mk b S) := by
  unfold fX4_scanNumber at hf
  obtain ⟨hok, hf⟩ := grd_ex hf
  refine msegT C kX4_scanNumber 0 3 (g := ((kO 1 4 && true), 5, [.ref (1)], [], mk b (sI S 1 4 (2 : Int32)))) rfl hok ?_
  obtain ⟨S1, eS1, hf⟩ := bnd_ex hf
  rw [← eS1]
  obtain ⟨hok, hf⟩ := grd_ex hf
  refine msegT C kX4_scanNumber 3 3 (g := ((kO 1 4 && true), 10, [.ref (1)], [], mk b (sI S1 1 7 (0 : Int32)))) rfl hok ?_
  obtain ⟨S2, eS2, hf⟩ := bnd_ex hf
  rw [← eS2]
  exact mfor (L' := [.ref (1)]) ⟨Or.inr rfl, trivial⟩ (bX4_scanNumber_10 C hr hk _ _ hf true)
theorem qX4_scanNumber {b : Bool} {S S' : mT} (hf : fX4_scanNumber S = some S') : mOk l mX4_scanNumber 2 [.ref (1)] b S none S' :=
  gMet (by decide) (Nat.le_of_ble_eq_true rfl) rfl (Nat.le_of_ble_eq_true rfl) (fun p e s m args below meth c G C hr hk => bX4_scanNumber_0 C hr hk hf true)
theorem bX4_scanSign_164 (C : mCx p (mR 2) s m args meth c G cX4_scanSign RX4 1 false 233 54500 233 54500) (hr : meth.sig.returnType = none) (hk : meth.locks = false) {b : Bool} {S' : mT} {S : mT} (hf : fX4_scanSign_164 S = some S') (ok : Bool) : mW p l e (mR 2) s m args below meth c G 1 233 54500 (mQ below G args s b S' none) (ok, 164, [.retAddr 0], [], mk b S) := by
  unfold fX4_scanSign_164 at hf
  cases hf
  exact gret_v C hr hk (kX4_scanSign _ (List.mem_of_getElem? (i := 26) rfl)).1
theorem bX4_scanSign_0 (C : mCx p (mR 2) s m args meth c G cX4_scanSign RX4 1 false 233 54500 233 54500) (hr : meth.sig.returnType = none) (hk : meth.locks = false) {b : Bool} {S' : mT} {S : mT} (hf : fX4_scanSign S = some S') (ok : Bool) : mW p l e (mR 2) s m args below meth c G 1 233 54500 (mQ below G args s b S' none) (ok, 0, [.ref (1)], [], mk b S) := by
  unfold fX4_scanSign at hf
  obtain ⟨hok, hf⟩ := grd_ex hf
  refine msegT C kX4_scanSign 0 3 (g := ((kO 1 4 && true), 5, [.ref (1)], [], mk b (sI S 1 4 (3 : Int32)))) rfl hok ?_
  obtain ⟨S1, eS1, hf⟩ := bnd_ex hf
  rw [← eS1]
  obtain ⟨hok, hf⟩ := grd_ex hf
  refine msegT C kX4_scanSign 3 10 (g := ((mFit .char (((S1.1 2 (mIx (S1.1 1 6))) &&& (255 : Int32)).toUInt32 % 65536).toInt32 && (kO 1 4 && (kB 2 (S1.1 1 6) && (kO 1 4 && (kO 1 4 && true))))), 23, [.ref (1)], [], mk b (sI S1 1 9 (((S1.1 2 (mIx (S1.1 1 6))) &&& (255 : Int32)).toUInt32 % 65536).toInt32))) rfl hok ?_
  obtain ⟨S2, eS2, hf⟩ := bnd_ex hf
  rw [← eS2]
  obtain ⟨hok, hf⟩ := grd_ex hf
  refine msegT C kX4_scanSign 13 6 (g := ((kO 1 4 && (kO 1 4 && true)), 33, [.ref (1)], [], mk b (sI S2 1 6 ((S2.1 1 6) + (1 : Int32))))) rfl hok ?_
  obtain ⟨S3, eS3, hf⟩ := bnd_ex hf
  rw [← eS3]
  obtain ⟨hok, hf⟩ := grd_ex hf
  refine msegT C kX4_scanSign 19 3 (g := ((kO 1 4 && true), (if (S3.1 1 9) = (37 : Int32) then 156 else (if (S3.1 1 9) = (38 : Int32) then 159 else (if (S3.1 1 9) = (39 : Int32) then 159 else (if (S3.1 1 9) = (40 : Int32) then 156 else (if (S3.1 1 9) = (41 : Int32) then 156 else (if (S3.1 1 9) = (42 : Int32) then 156 else (if (S3.1 1 9) = (43 : Int32) then 156 else (if (S3.1 1 9) = (44 : Int32) then 159 else (if (S3.1 1 9) = (45 : Int32) then 156 else (if (S3.1 1 9) = (46 : Int32) then 159 else (if (S3.1 1 9) = (47 : Int32) then 156 else (if (S3.1 1 9) = (48 : Int32) then 159 else (if (S3.1 1 9) = (49 : Int32) then 159 else (if (S3.1 1 9) = (50 : Int32) then 159 else (if (S3.1 1 9) = (51 : Int32) then 159 else (if (S3.1 1 9) = (52 : Int32) then 159 else (if (S3.1 1 9) = (53 : Int32) then 159 else (if (S3.1 1 9) = (54 : Int32) then 159 else (if (S3.1 1 9) = (55 : Int32) then 159 else (if (S3.1 1 9) = (56 : Int32) then 159 else (if (S3.1 1 9) = (57 : Int32) then 159 else (if (S3.1 1 9) = (58 : Int32) then 159 else (if (S3.1 1 9) = (59 : Int32) then 156 else (if (S3.1 1 9) = (60 : Int32) then 156 else (if (S3.1 1 9) = (61 : Int32) then 156 else (if (S3.1 1 9) = (62 : Int32) then 156 else 159)))))))))))))))))))))))))), [.ref (1)], [], mk b S3)) rfl hok ?_
  by_cases hc : (S3.1 1 9) = (37 : Int32)
  · rw [if_pos hc] at hf ⊢
    refine msegT C kX4_scanSign 22 1 (g := (true, 164, [.ref (1)], [], mk b S3)) rfl rfl ?_
    exact mfor (L' := [.retAddr 0]) ⟨Or.inl rfl, trivial⟩ (bX4_scanSign_164 C hr hk hf true)
  · rw [if_neg hc] at hf ⊢
    by_cases hc : (S3.1 1 9) = (38 : Int32)
    · rw [if_pos hc] at hf ⊢
      refine msegT C kX4_scanSign 23 2 (g := (true, 161, [.ref (1)], [.int (1 : Int32), .ref (1)], mk b S3)) rfl rfl ?_
      obtain ⟨S19, hq, hf⟩ := bndV_ex hf
      refine mcall (kd := 0) (vs := [.ref (1), .int (1 : Int32)]) (rest := []) (r := none) (h' := mk b S19) (ok' := true) C lkRX4_79 (qX4_refuse hq) (kX4_scanSign _ (List.mem_of_getElem? (i := 25) rfl)).1 ⟨_, _, rfl, rfl, Nat.le_of_ble_eq_true rfl, _, _, rfl, rfl, rfl⟩ (Nat.le_of_ble_eq_true rfl) (Nat.le_of_ble_eq_true rfl) (Nat.le_refl _) (Nat.le_refl _) (Nat.le_of_ble_eq_true rfl) ?_
      exact mfor (L' := [.retAddr 0]) ⟨Or.inl rfl, trivial⟩ (bX4_scanSign_164 C hr hk hf true)
    · rw [if_neg hc] at hf ⊢
      by_cases hc : (S3.1 1 9) = (39 : Int32)
      · rw [if_pos hc] at hf ⊢
        refine msegT C kX4_scanSign 23 2 (g := (true, 161, [.ref (1)], [.int (1 : Int32), .ref (1)], mk b S3)) rfl rfl ?_
        obtain ⟨S18, hq, hf⟩ := bndV_ex hf
        refine mcall (kd := 0) (vs := [.ref (1), .int (1 : Int32)]) (rest := []) (r := none) (h' := mk b S18) (ok' := true) C lkRX4_79 (qX4_refuse hq) (kX4_scanSign _ (List.mem_of_getElem? (i := 25) rfl)).1 ⟨_, _, rfl, rfl, Nat.le_of_ble_eq_true rfl, _, _, rfl, rfl, rfl⟩ (Nat.le_of_ble_eq_true rfl) (Nat.le_of_ble_eq_true rfl) (Nat.le_refl _) (Nat.le_refl _) (Nat.le_of_ble_eq_true rfl) ?_
        exact mfor (L' := [.retAddr 0]) ⟨Or.inl rfl, trivial⟩ (bX4_scanSign_164 C hr hk hf true)
      · rw [if_neg hc] at hf ⊢
        by_cases hc : (S3.1 1 9) = (40 : Int32)
        · rw [if_pos hc] at hf ⊢
          refine msegT C kX4_scanSign 22 1 (g := (true, 164, [.ref (1)], [], mk b S3)) rfl rfl ?_
          exact mfor (L' := [.retAddr 0]) ⟨Or.inl rfl, trivial⟩ (bX4_scanSign_164 C hr hk hf true)
        · rw [if_neg hc] at hf ⊢
          by_cases hc : (S3.1 1 9) = (41 : Int32)
          · rw [if_pos hc] at hf ⊢
            refine msegT C kX4_scanSign 22 1 (g := (true, 164, [.ref (1)], [], mk b S3)) rfl rfl ?_
            exact mfor (L' := [.retAddr 0]) ⟨Or.inl rfl, trivial⟩ (bX4_scanSign_164 C hr hk hf true)
          · rw [if_neg hc] at hf ⊢
            by_cases hc : (S3.1 1 9) = (42 : Int32)
            · rw [if_pos hc] at hf ⊢
              refine msegT C kX4_scanSign 22 1 (g := (true, 164, [.ref (1)], [], mk b S3)) rfl rfl ?_
              exact mfor (L' := [.retAddr 0]) ⟨Or.inl rfl, trivial⟩ (bX4_scanSign_164 C hr hk hf true)
            · rw [if_neg hc] at hf ⊢
              by_cases hc : (S3.1 1 9) = (43 : Int32)
              · rw [if_pos hc] at hf ⊢
                refine msegT C kX4_scanSign 22 1 (g := (true, 164, [.ref (1)], [], mk b S3)) rfl rfl ?_
                exact mfor (L' := [.retAddr 0]) ⟨Or.inl rfl, trivial⟩ (bX4_scanSign_164 C hr hk hf true)
              · rw [if_neg hc] at hf ⊢
                by_cases hc : (S3.1 1 9) = (44 : Int32)
                · rw [if_pos hc] at hf ⊢
                  refine msegT C kX4_scanSign 23 2 (g := (true, 161, [.ref (1)], [.int (1 : Int32), .ref (1)], mk b S3)) rfl rfl ?_
                  obtain ⟨S17, hq, hf⟩ := bndV_ex hf
                  refine mcall (kd := 0) (vs := [.ref (1), .int (1 : Int32)]) (rest := []) (r := none) (h' := mk b S17) (ok' := true) C lkRX4_79 (qX4_refuse hq) (kX4_scanSign _ (List.mem_of_getElem? (i := 25) rfl)).1 ⟨_, _, rfl, rfl, Nat.le_of_ble_eq_true rfl, _, _, rfl, rfl, rfl⟩ (Nat.le_of_ble_eq_true rfl) (Nat.le_of_ble_eq_true rfl) (Nat.le_refl _) (Nat.le_refl _) (Nat.le_of_ble_eq_true rfl) ?_
                  exact mfor (L' := [.retAddr 0]) ⟨Or.inl rfl, trivial⟩ (bX4_scanSign_164 C hr hk hf true)
                · rw [if_neg hc] at hf ⊢
                  by_cases hc : (S3.1 1 9) = (45 : Int32)
                  · rw [if_pos hc] at hf ⊢
                    refine msegT C kX4_scanSign 22 1 (g := (true, 164, [.ref (1)], [], mk b S3)) rfl rfl ?_
                    exact mfor (L' := [.retAddr 0]) ⟨Or.inl rfl, trivial⟩ (bX4_scanSign_164 C hr hk hf true)
                  · rw [if_neg hc] at hf ⊢
                    by_cases hc : (S3.1 1 9) = (46 : Int32)
                    · rw [if_pos hc] at hf ⊢
                      refine msegT C kX4_scanSign 23 2 (g := (true, 161, [.ref (1)], [.int (1 : Int32), .ref (1)], mk b S3)) rfl rfl ?_
                      obtain ⟨S16, hq, hf⟩ := bndV_ex hf
                      refine mcall (kd := 0) (vs := [.ref (1), .int (1 : Int32)]) (rest := []) (r := none) (h' := mk b S16) (ok' := true) C lkRX4_79 (qX4_refuse hq) (kX4_scanSign _ (List.mem_of_getElem? (i := 25) rfl)).1 ⟨_, _, rfl, rfl, Nat.le_of_ble_eq_true rfl, _, _, rfl, rfl, rfl⟩ (Nat.le_of_ble_eq_true rfl) (Nat.le_of_ble_eq_true rfl) (Nat.le_refl _) (Nat.le_refl _) (Nat.le_of_ble_eq_true rfl) ?_
                      exact mfor (L' := [.retAddr 0]) ⟨Or.inl rfl, trivial⟩ (bX4_scanSign_164 C hr hk hf true)
                    · rw [if_neg hc] at hf ⊢
                      by_cases hc : (S3.1 1 9) = (47 : Int32)
                      · rw [if_pos hc] at hf ⊢
                        refine msegT C kX4_scanSign 22 1 (g := (true, 164, [.ref (1)], [], mk b S3)) rfl rfl ?_
                        exact mfor (L' := [.retAddr 0]) ⟨Or.inl rfl, trivial⟩ (bX4_scanSign_164 C hr hk hf true)
                      · rw [if_neg hc] at hf ⊢
                        by_cases hc : (S3.1 1 9) = (48 : Int32)
                        · rw [if_pos hc] at hf ⊢
                          refine msegT C kX4_scanSign 23 2 (g := (true, 161, [.ref (1)], [.int (1 : Int32), .ref (1)], mk b S3)) rfl rfl ?_
                          obtain ⟨S15, hq, hf⟩ := bndV_ex hf
                          refine mcall (kd := 0) (vs := [.ref (1), .int (1 : Int32)]) (rest := []) (r := none) (h' := mk b S15) (ok' := true) C lkRX4_79 (qX4_refuse hq) (kX4_scanSign _ (List.mem_of_getElem? (i := 25) rfl)).1 ⟨_, _, rfl, rfl, Nat.le_of_ble_eq_true rfl, _, _, rfl, rfl, rfl⟩ (Nat.le_of_ble_eq_true rfl) (Nat.le_of_ble_eq_true rfl) (Nat.le_refl _) (Nat.le_refl _) (Nat.le_of_ble_eq_true rfl) ?_
                          exact mfor (L' := [.retAddr 0]) ⟨Or.inl rfl, trivial⟩ (bX4_scanSign_164 C hr hk hf true)
                        · rw [if_neg hc] at hf ⊢
                          by_cases hc : (S3.1 1 9) = (49 : Int32)
                          · rw [if_pos hc] at hf ⊢
                            refine msegT C kX4_scanSign 23 2 (g := (true, 161, [.ref (1)], [.int (1 : Int32), .ref (1)], mk b S3)) rfl rfl ?_
                            obtain ⟨S14, hq, hf⟩ := bndV_ex hf
                            refine mcall (kd := 0) (vs := [.ref (1), .int (1 : Int32)]) (rest := []) (r := none) (h' := mk b S14) (ok' := true) C lkRX4_79 (qX4_refuse hq) (kX4_scanSign _ (List.mem_of_getElem? (i := 25) rfl)).1 ⟨_, _, rfl, rfl, Nat.le_of_ble_eq_true rfl, _, _, rfl, rfl, rfl⟩ (Nat.le_of_ble_eq_true rfl) (Nat.le_of_ble_eq_true rfl) (Nat.le_refl _) (Nat.le_refl _) (Nat.le_of_ble_eq_true rfl) ?_
                            exact mfor (L' := [.retAddr 0]) ⟨Or.inl rfl, trivial⟩ (bX4_scanSign_164 C hr hk hf true)
                          · rw [if_neg hc] at hf ⊢
                            by_cases hc : (S3.1 1 9) = (50 : Int32)
                            · rw [if_pos hc] at hf ⊢
                              refine msegT C kX4_scanSign 23 2 (g := (true, 161, [.ref (1)], [.int (1 : Int32), .ref (1)], mk b S3)) rfl rfl ?_
                              obtain ⟨S13, hq, hf⟩ := bndV_ex hf
                              refine mcall (kd := 0) (vs := [.ref (1), .int (1 : Int32)]) (rest := []) (r := none) (h' := mk b S13) (ok' := true) C lkRX4_79 (qX4_refuse hq) (kX4_scanSign _ (List.mem_of_getElem? (i := 25) rfl)).1 ⟨_, _, rfl, rfl, Nat.le_of_ble_eq_true rfl, _, _, rfl, rfl, rfl⟩ (Nat.le_of_ble_eq_true rfl) (Nat.le_of_ble_eq_true rfl) (Nat.le_refl _) (Nat.le_refl _) (Nat.le_of_ble_eq_true rfl) ?_
                              exact mfor (L' := [.retAddr 0]) ⟨Or.inl rfl, trivial⟩ (bX4_scanSign_164 C hr hk hf true)
                            · rw [if_neg hc] at hf ⊢
                              by_cases hc : (S3.1 1 9) = (51 : Int32)
                              · rw [if_pos hc] at hf ⊢
                                refine msegT C kX4_scanSign 23 2 (g := (true, 161, [.ref (1)], [.int (1 : Int32), .ref (1)], mk b S3)) rfl rfl ?_
                                obtain ⟨S12, hq, hf⟩ := bndV_ex hf
                                refine mcall (kd := 0) (vs := [.ref (1), .int (1 : Int32)]) (rest := []) (r := none) (h' := mk b S12) (ok' := true) C lkRX4_79 (qX4_refuse hq) (kX4_scanSign _ (List.mem_of_getElem? (i := 25) rfl)).1 ⟨_, _, rfl, rfl, Nat.le_of_ble_eq_true rfl, _, _, rfl, rfl, rfl⟩ (Nat.le_of_ble_eq_true rfl) (Nat.le_of_ble_eq_true rfl) (Nat.le_refl _) (Nat.le_refl _) (Nat.le_of_ble_eq_true rfl) ?_
                                exact mfor (L' := [.retAddr 0]) ⟨Or.inl rfl, trivial⟩ (bX4_scanSign_164 C hr hk hf true)
                              · rw [if_neg hc] at hf ⊢
                                by_cases hc : (S3.1 1 9) = (52 : Int32)
                                · rw [if_pos hc] at hf ⊢
                                  refine msegT C kX4_scanSign 23 2 (g := (true, 161, [.ref (1)], [.int (1 : Int32), .ref (1)], mk b S3)) rfl rfl ?_
                                  obtain ⟨S11, hq, hf⟩ := bndV_ex hf
                                  refine mcall (kd := 0) (vs := [.ref (1), .int (1 : Int32)]) (rest := []) (r := none) (h' := mk b S11) (ok' := true) C lkRX4_79 (qX4_refuse hq) (kX4_scanSign _ (List.mem_of_getElem? (i := 25) rfl)).1 ⟨_, _, rfl, rfl, Nat.le_of_ble_eq_true rfl, _, _, rfl, rfl, rfl⟩ (Nat.le_of_ble_eq_true rfl) (Nat.le_of_ble_eq_true rfl) (Nat.le_refl _) (Nat.le_refl _) (Nat.le_of_ble_eq_true rfl) ?_
                                  exact mfor (L' := [.retAddr 0]) ⟨Or.inl rfl, trivial⟩ (bX4_scanSign_164 C hr hk hf true)
                                · rw [if_neg hc] at hf ⊢
                                  by_cases hc : (S3.1 1 9) = (53 : Int32)
                                  · rw [if_pos hc] at hf ⊢
                                    refine msegT C kX4_scanSign 23 2 (g := (true, 161, [.ref (1)], [.int (1 : Int32), .ref (1)], mk b S3)) rfl rfl ?_
                                    obtain ⟨S10, hq, hf⟩ := bndV_ex hf
                                    refine mcall (kd := 0) (vs := [.ref (1), .int (1 : Int32)]) (rest := []) (r := none) (h' := mk b S10) (ok' := true) C lkRX4_79 (qX4_refuse hq) (kX4_scanSign _ (List.mem_of_getElem? (i := 25) rfl)).1 ⟨_, _, rfl, rfl, Nat.le_of_ble_eq_true rfl, _, _, rfl, rfl, rfl⟩ (Nat.le_of_ble_eq_true rfl) (Nat.le_of_ble_eq_true rfl) (Nat.le_refl _) (Nat.le_refl _) (Nat.le_of_ble_eq_true rfl) ?_
                                    exact mfor (L' := [.retAddr 0]) ⟨Or.inl rfl, trivial⟩ (bX4_scanSign_164 C hr hk hf true)
                                  · rw [if_neg hc] at hf ⊢
                                    by_cases hc : (S3.1 1 9) = (54 : Int32)
                                    · rw [if_pos hc] at hf ⊢
                                      refine msegT C kX4_scanSign 23 2 (g := (true, 161, [.ref (1)], [.int (1 : Int32), .ref (1)], mk b S3)) rfl rfl ?_
                                      obtain ⟨S9, hq, hf⟩ := bndV_ex hf
                                      refine mcall (kd := 0) (vs := [.ref (1), .int (1 : Int32)]) (rest := []) (r := none) (h' := mk b S9) (ok' := true) C lkRX4_79 (qX4_refuse hq) (kX4_scanSign _ (List.mem_of_getElem? (i := 25) rfl)).1 ⟨_, _, rfl, rfl, Nat.le_of_ble_eq_true rfl, _, _, rfl, rfl, rfl⟩ (Nat.le_of_ble_eq_true rfl) (Nat.le_of_ble_eq_true rfl) (Nat.le_refl _) (Nat.le_refl _) (Nat.le_of_ble_eq_true rfl) ?_
                                      exact mfor (L' := [.retAddr 0]) ⟨Or.inl rfl, trivial⟩ (bX4_scanSign_164 C hr hk hf true)
                                    · rw [if_neg hc] at hf ⊢
                                      by_cases hc : (S3.1 1 9) = (55 : Int32)
                                      · rw [if_pos hc] at hf ⊢
                                        refine msegT C kX4_scanSign 23 2 (g := (true, 161, [.ref (1)], [.int (1 : Int32), .ref (1)], mk b S3)) rfl rfl ?_
                                        obtain ⟨S8, hq, hf⟩ := bndV_ex hf
                                        refine mcall (kd := 0) (vs := [.ref (1), .int (1 : Int32)]) (rest := []) (r := none) (h' := mk b S8) (ok' := true) C lkRX4_79 (qX4_refuse hq) (kX4_scanSign _ (List.mem_of_getElem? (i := 25) rfl)).1 ⟨_, _, rfl, rfl, Nat.le_of_ble_eq_true rfl, _, _, rfl, rfl, rfl⟩ (Nat.le_of_ble_eq_true rfl) (Nat.le_of_ble_eq_true rfl) (Nat.le_refl _) (Nat.le_refl _) (Nat.le_of_ble_eq_true rfl) ?_
                                        exact mfor (L' := [.retAddr 0]) ⟨Or.inl rfl, trivial⟩ (bX4_scanSign_164 C hr hk hf true)
                                      · rw [if_neg hc] at hf ⊢
                                        by_cases hc : (S3.1 1 9) = (56 : Int32)
                                        · rw [if_pos hc] at hf ⊢
                                          refine msegT C kX4_scanSign 23 2 (g := (true, 161, [.ref (1)], [.int (1 : Int32), .ref (1)], mk b S3)) rfl rfl ?_
                                          obtain ⟨S7, hq, hf⟩ := bndV_ex hf
                                          refine mcall (kd := 0) (vs := [.ref (1), .int (1 : Int32)]) (rest := []) (r := none) (h' := mk b S7) (ok' := true) C lkRX4_79 (qX4_refuse hq) (kX4_scanSign _ (List.mem_of_getElem? (i := 25) rfl)).1 ⟨_, _, rfl, rfl, Nat.le_of_ble_eq_true rfl, _, _, rfl, rfl, rfl⟩ (Nat.le_of_ble_eq_true rfl) (Nat.le_of_ble_eq_true rfl) (Nat.le_refl _) (Nat.le_refl _) (Nat.le_of_ble_eq_true rfl) ?_
                                          exact mfor (L' := [.retAddr 0]) ⟨Or.inl rfl, trivial⟩ (bX4_scanSign_164 C hr hk hf true)
                                        · rw [if_neg hc] at hf ⊢
                                          by_cases hc : (S3.1 1 9) = (57 : Int32)
                                          · rw [if_pos hc] at hf ⊢
                                            refine msegT C kX4_scanSign 23 2 (g := (true, 161, [.ref (1)], [.int (1 : Int32), .ref (1)], mk b S3)) rfl rfl ?_
                                            obtain ⟨S6, hq, hf⟩ := bndV_ex hf
                                            refine mcall (kd := 0) (vs := [.ref (1), .int (1 : Int32)]) (rest := []) (r := none) (h' := mk b S6) (ok' := true) C lkRX4_79 (qX4_refuse hq) (kX4_scanSign _ (List.mem_of_getElem? (i := 25) rfl)).1 ⟨_, _, rfl, rfl, Nat.le_of_ble_eq_true rfl, _, _, rfl, rfl, rfl⟩ (Nat.le_of_ble_eq_true rfl) (Nat.le_of_ble_eq_true rfl) (Nat.le_refl _) (Nat.le_refl _) (Nat.le_of_ble_eq_true rfl) ?_
                                            exact mfor (L' := [.retAddr 0]) ⟨Or.inl rfl, trivial⟩ (bX4_scanSign_164 C hr hk hf true)
                                          · rw [if_neg hc] at hf ⊢
                                            by_cases hc : (S3.1 1 9) = (58 : Int32)
                                            · rw [if_pos hc] at hf ⊢
                                              refine msegT C kX4_scanSign 23 2 (g := (true, 161, [.ref (1)], [.int (1 : Int32), .ref (1)], mk b S3)) rfl rfl ?_
                                              obtain ⟨S5, hq, hf⟩ := bndV_ex hf
                                              refine mcall (kd := 0) (vs := [.ref (1), .int (1 : Int32)]) (rest := []) (r := none) (h' := mk b S5) (ok' := true) C lkRX4_79 (qX4_refuse hq) (kX4_scanSign _ (List.mem_of_getElem? (i := 25) rfl)).1 ⟨_, _, rfl, rfl, Nat.le_of_ble_eq_true rfl, _, _, rfl, rfl, rfl⟩ (Nat.le_of_ble_eq_true rfl) (Nat.le_of_ble_eq_true rfl) (Nat.le_refl _) (Nat.le_refl _) (Nat.le_of_ble_eq_true rfl) ?_
                                              exact mfor (L' := [.retAddr 0]) ⟨Or.inl rfl, trivial⟩ (bX4_scanSign_164 C hr hk hf true)
                                            · rw [if_neg hc] at hf ⊢
                                              by_cases hc : (S3.1 1 9) = (59 : Int32)
                                              · rw [if_pos hc] at hf ⊢
                                                refine msegT C kX4_scanSign 22 1 (g := (true, 164, [.ref (1)], [], mk b S3)) rfl rfl ?_
                                                exact mfor (L' := [.retAddr 0]) ⟨Or.inl rfl, trivial⟩ (bX4_scanSign_164 C hr hk hf true)
                                              · rw [if_neg hc] at hf ⊢
                                                by_cases hc : (S3.1 1 9) = (60 : Int32)
                                                · rw [if_pos hc] at hf ⊢
                                                  refine msegT C kX4_scanSign 22 1 (g := (true, 164, [.ref (1)], [], mk b S3)) rfl rfl ?_
                                                  exact mfor (L' := [.retAddr 0]) ⟨Or.inl rfl, trivial⟩ (bX4_scanSign_164 C hr hk hf true)
                                                · rw [if_neg hc] at hf ⊢
                                                  by_cases hc : (S3.1 1 9) = (61 : Int32)
                                                  · rw [if_pos hc] at hf ⊢
                                                    refine msegT C kX4_scanSign 22 1 (g := (true, 164, [.ref (1)], [], mk b S3)) rfl rfl ?_
                                                    exact mfor (L' := [.retAddr 0]) ⟨Or.inl rfl, trivial⟩ (bX4_scanSign_164 C hr hk hf true)
                                                  · rw [if_neg hc] at hf ⊢
                                                    by_cases hc : (S3.1 1 9) = (62 : Int32)
                                                    · rw [if_pos hc] at hf ⊢
                                                      refine msegT C kX4_scanSign 22 1 (g := (true, 164, [.ref (1)], [], mk b S3)) rfl rfl ?_
                                                      exact mfor (L' := [.retAddr 0]) ⟨Or.inl rfl, trivial⟩ (bX4_scanSign_164 C hr hk hf true)
                                                    · rw [if_neg hc] at hf ⊢
                                                      refine msegT C kX4_scanSign 23 2 (g := (true, 161, [.ref (1)], [.int (1 : Int32), .ref (1)], mk b S3)) rfl rfl ?_
                                                      obtain ⟨S4, hq, hf⟩ := bndV_ex hf
                                                      refine mcall (kd := 0) (vs := [.ref (1), .int (1 : Int32)]) (rest := []) (r := none) (h' := mk b S4) (ok' := true) C lkRX4_79 (qX4_refuse hq) (kX4_scanSign _ (List.mem_of_getElem? (i := 25) rfl)).1 ⟨_, _, rfl, rfl, Nat.le_of_ble_eq_true rfl, _, _, rfl, rfl, rfl⟩ (Nat.le_of_ble_eq_true rfl) (Nat.le_of_ble_eq_true rfl) (Nat.le_refl _) (Nat.le_refl _) (Nat.le_of_ble_eq_true rfl) ?_
                                                      exact mfor (L' := [.retAddr 0]) ⟨Or.inl rfl, trivial⟩ (bX4_scanSign_164 C hr hk hf true)
theorem qX4_scanSign {b : Bool} {S S' : mT} (hf : fX4_scanSign S = some S') : mOk l mX4_scanSign 2 [.ref (1)] b S none S' :=
  gMet (by decide) (Nat.le_of_ble_eq_true rfl) rfl (Nat.le_of_ble_eq_true rfl) (fun p e s m args below meth c G C hr hk => bX4_scanSign_0 C hr hk hf true)
theorem bX4_scanWord_92 (C : mCx p (mR 2) s m args meth c G cX4_scanWord RX4 1 false 233 54500 233 54500) (hr : meth.sig.returnType = none) (hk : meth.locks = false) {b : Bool} {S' : mT} {S : mT} (hf : fX4_scanWord_92 S = some S') (ok : Bool) : mW p l e (mR 2) s m args below meth c G 1 233 54500 (mQ below G args s b S' none) (ok, 92, [.retAddr 0], [], mk b S) := by
  unfold fX4_scanWord_92 at hf
  cases hf
  exact gret_v C hr hk (kX4_scanWord _ (List.mem_of_getElem? (i := 50) rfl)).1
theorem bX4_scanWord_73 (C : mCx p (mR 2) s m args meth c G cX4_scanWord RX4 1 false 233 54500 233 54500) (hr : meth.sig.returnType = none) (hk : meth.locks = false) {b : Bool} {S' : mT} {S : mT} (hf : fX4_scanWord_73 S = some S') (ok : Bool) : mW p l e (mR 2) s m args below meth c G 1 233 54500 (mQ below G args s b S' none) (ok, 73, [.ref (1)], [], mk b S) := by
  unfold fX4_scanWord_73 at hf
  obtain ⟨hok, hf⟩ := grd_ex hf
  refine msegT C kX4_scanWord 40 7 (g := ((kO 1 4 && (kO 1 4 && true)), (if ((S.1 1 6) - (S.1 1 5)) ≤ (8 : Int32) then 92 else 87), [.ref (1)], [], mk b S)) rfl hok ?_
  by_cases hc : ((S.1 1 6) - (S.1 1 5)) ≤ (8 : Int32)
  · rw [if_pos hc] at hf ⊢
    exact mfor (L' := [.retAddr 0]) ⟨Or.inl rfl, trivial⟩ (bX4_scanWord_92 C hr hk hf true)
  · rw [if_neg hc] at hf ⊢
    refine msegT C kX4_scanWord 47 2 (g := (true, 89, [.ref (1)], [.int (1 : Int32), .ref (1)], mk b S)) rfl rfl ?_
    obtain ⟨S7, hq, hf⟩ := bndV_ex hf
    refine mcall (kd := 0) (vs := [.ref (1), .int (1 : Int32)]) (rest := []) (r := none) (h' := mk b S7) (ok' := true) C lkRX4_79 (qX4_refuse hq) (kX4_scanWord _ (List.mem_of_getElem? (i := 49) rfl)).1 ⟨_, _, rfl, rfl, Nat.le_of_ble_eq_true rfl, _, _, rfl, rfl, rfl⟩ (Nat.le_of_ble_eq_true rfl) (Nat.le_of_ble_eq_true rfl) (Nat.le_refl _) (Nat.le_refl _) (Nat.le_of_ble_eq_true rfl) ?_
    exact mfor (L' := [.retAddr 0]) ⟨Or.inl rfl, trivial⟩ (bX4_scanWord_92 C hr hk hf true)
theorem bX4_scanWord_10 (C : mCx p (mR 2) s m args meth c G cX4_scanWord RX4 1 false 233 54500 233 54500) (hr : meth.sig.returnType = none) (hk : meth.locks = false) {b : Bool} {S' : mT} : ∀ (k : Nat) (S : mT), fX4_scanWord_10 k S = some S' → ∀ ok : Bool, mW p l e (mR 2) s m args below meth c G 1 233 54500 (mQ below G args s b S' none) (ok, 10, [.ref (1)], [], mk b S) := by
  intro k
  induction k with
  | zero =>
    intro S hf ok
    cases hf
  | succ k ih =>
    intro S hf ok
    unfold fX4_scanWord_10 at hf
    obtain ⟨hok, hf⟩ := grd_ex hf
    refine msegT C kX4_scanWord 6 5 (g := ((kO 1 4 && (kO 1 4 && true)), (if (S.1 1 1) ≤ (S.1 1 6) then 73 else 21), [.ref (1)], [], mk b S)) rfl hok ?_
    by_cases hc : (S.1 1 1) ≤ (S.1 1 6)
    · rw [if_pos hc] at hf ⊢
      exact mfor (L' := [.ref (1)]) ⟨Or.inr rfl, trivial⟩ (bX4_scanWord_73 C hr hk hf true)
    · rw [if_neg hc] at hf ⊢
      obtain ⟨hok, hf⟩ := grd_ex hf
      refine msegT C kX4_scanWord 11 3 (g := ((kO 1 4 && true), 26, [.ref (1)], [.int (S.1 1 6), .ref (1)], mk b S)) rfl hok ?_
      obtain ⟨x4, S3, hq, hf⟩ := bndC_ex hf
      refine mcall (kd := 0) (vs := [.ref (1), .int (S.1 1 6)]) (rest := []) (r := (some (.int x4))) (h' := mk b S3) (ok' := true) C lkRX4_191 (qX4_isLetterAt hq) (kX4_scanWord _ (List.mem_of_getElem? (i := 14) rfl)).1 ⟨_, _, rfl, rfl, Nat.le_of_ble_eq_true rfl, _, _, rfl, rfl, rfl⟩ (Nat.le_of_ble_eq_true rfl) (Nat.le_of_ble_eq_true rfl) (Nat.le_refl _) (Nat.le_refl _) (Nat.le_of_ble_eq_true rfl) ?_
      refine msegT C kX4_scanWord 15 1 (g := (true, (if x4 = 0 then 73 else 32), [.ref (1)], [], mk b S3)) rfl rfl ?_
      by_cases hc : x4 = 0
      · rw [if_pos hc] at hf ⊢
        exact mfor (L' := [.ref (1)]) ⟨Or.inr rfl, trivial⟩ (bX4_scanWord_73 C hr hk hf true)
      · rw [if_neg hc] at hf ⊢
        obtain ⟨hok, hf⟩ := grd_ex hf
        refine msegT C kX4_scanWord 16 10 (g := ((kB 2 (S3.1 1 6) && (kO 1 4 && (kO 1 4 && (kO 1 4 && true)))), 50, [.ref (1)], [.int (S3.1 2 (mIx (S3.1 1 6))), .long ((S3.2 1 8) * (32 : Int64)), .ref (1)], mk b S3)) rfl hok ?_
        obtain ⟨hok, hf⟩ := grd_ex hf
        refine msegT C kX4_scanWord 26 7 (g := ((kO 1 4 && true), 60, [.ref (1)], [], mk b (sJ S3 1 8 (((S3.2 1 8) * (32 : Int64)) + ((((S3.1 2 (mIx (S3.1 1 6))) - (97 : Int32)) + (1 : Int32)).toInt64))))) rfl hok ?_
        obtain ⟨S5, eS5, hf⟩ := bnd_ex hf
        rw [← eS5]
        obtain ⟨hok, hf⟩ := grd_ex hf
        refine msegT C kX4_scanWord 33 6 (g := ((kO 1 4 && (kO 1 4 && true)), 70, [.ref (1)], [], mk b (sI S5 1 6 ((S5.1 1 6) + (1 : Int32))))) rfl hok ?_
        obtain ⟨S6, eS6, hf⟩ := bnd_ex hf
        rw [← eS6]
        refine msegT C kX4_scanWord 39 1 (g := (true, 10, [.ref (1)], [], mk b S6)) rfl rfl ?_
        exact mfor (L' := [.ref (1)]) ⟨Or.inr rfl, trivial⟩ (ih _ hf true)
theorem bX4_scanWord_0 (C : mCx p (mR 2) s m args meth c G cX4_scanWord RX4 1 false 233 54500 233 54500) (hr : meth.sig.returnType = none) (hk : meth.locks = false) {b : Bool} {S' : mT} {S : mT} (hf : fX4_scanWord S = some S') (ok : Bool) : mW p l e (mR 2) s m args below meth c G 1 233 54500 (mQ below G args s b S' none) (ok, 0, [.ref (1)], [], mk b S) := by
  unfold fX4_scanWord at hf
  obtain ⟨hok, hf⟩ := grd_ex hf
  refine msegT C kX4_scanWord 0 3 (g := ((kO 1 4 && true), 5, [.ref (1)], [], mk b (sI S 1 4 (1 : Int32)))) rfl hok ?_
  obtain ⟨S1, eS1, hf⟩ := bnd_ex hf
  rw [← eS1]
  obtain ⟨hok, hf⟩ := grd_ex hf
  refine msegT C kX4_scanWord 3 3 (g := ((kO 1 4 && true), 10, [.ref (1)], [], mk b (sJ S1 1 8 (0 : Int64)))) rfl hok ?_
  obtain ⟨S2, eS2, hf⟩ := bnd_ex hf
  rw [← eS2]
  exact mfor (L' := [.ref (1)]) ⟨Or.inr rfl, trivial⟩ (bX4_scanWord_10 C hr hk _ _ hf true)
theorem qX4_scanWord {b : Bool} {S S' : mT} (hf : fX4_scanWord S = some S') : mOk l mX4_scanWord 2 [.ref (1)] b S none S' :=
  gMet (by decide) (Nat.le_of_ble_eq_true rfl) rfl (Nat.le_of_ble_eq_true rfl) (fun p e s m args below meth c G C hr hk => bX4_scanWord_0 C hr hk hf true)
theorem bX4_advance_47 (C : mCx p (mR 3) s m args meth c G cX4_advance RX4 1 false 233 54500 233 54500) (hr : meth.sig.returnType = none) (hk : meth.locks = false) {b : Bool} {S' : mT} {rc8 : mT → Option (mT)} (Hrc8 : ∀ (S : mT), rc8 S = some S' → ∀ ok : Bool, mW p l e (mR 3) s m args below meth c G 1 233 54500 (mQ below G args s b S' none) (ok, 8, [.ref (1)], [], mk b S)) {S : mT} (hf : fX4_advance_47 rc8 S = some S') (ok : Bool) : mW p l e (mR 3) s m args below meth c G 1 233 54500 (mQ below G args s b S' none) (ok, 47, [.ref (1)], [], mk b S) := by
  unfold fX4_advance_47 at hf
  obtain ⟨hok, hf⟩ := grd_ex hf
  refine msegT C kX4_advance 23 6 (g := ((kO 1 4 && (kO 1 4 && true)), 57, [.ref (1)], [], mk b (sI S 1 6 ((S.1 1 6) + (1 : Int32))))) rfl hok ?_
  obtain ⟨S10, eS10, hf⟩ := bnd_ex hf
  rw [← eS10]
  refine msegT C kX4_advance 29 1 (g := (true, 8, [.ref (1)], [], mk b S10)) rfl rfl ?_
  exact mfor (L' := [.ref (1)]) ⟨Or.inr rfl, trivial⟩ (Hrc8 _ hf true)
theorem bX4_advance_127 (C : mCx p (mR 3) s m args meth c G cX4_advance RX4 1 false 233 54500 233 54500) (hr : meth.sig.returnType = none) (hk : meth.locks = false) {b : Bool} {S' : mT} {S : mT} (hf : fX4_advance_127 S = some S') (ok : Bool) : mW p l e (mR 3) s m args below meth c G 1 233 54500 (mQ below G args s b S' none) (ok, 127, [.retAddr 0], [], mk b S) := by
  unfold fX4_advance_127 at hf
  cases hf
  exact gret_v C hr hk (kX4_advance _ (List.mem_of_getElem? (i := 61) rfl)).1
theorem bX4_advance_60 (C : mCx p (mR 3) s m args meth c G cX4_advance RX4 1 false 233 54500 233 54500) (hr : meth.sig.returnType = none) (hk : meth.locks = false) {b : Bool} {S' : mT} {S : mT} (hf : fX4_advance_60 S = some S') (ok : Bool) : mW p l e (mR 3) s m args below meth c G 1 233 54500 (mQ below G args s b S' none) (ok, 60, [.ref (1)], [], mk b S) := by
  unfold fX4_advance_60 at hf
  obtain ⟨hok, hf⟩ := grd_ex hf
  refine msegT C kX4_advance 30 4 (g := ((kO 1 4 && (kO 1 4 && true)), 68, [.ref (1)], [], mk b (sI S 1 5 (S.1 1 6)))) rfl hok ?_
  obtain ⟨S1, eS1, hf⟩ := bnd_ex hf
  rw [← eS1]
  obtain ⟨hok, hf⟩ := grd_ex hf
  refine msegT C kX4_advance 34 5 (g := ((kO 1 4 && (kO 1 4 && true)), (if (S1.1 1 6) < (S1.1 1 1) then 87 else 79), [.ref (1)], [], mk b S1)) rfl hok ?_
  by_cases hc : (S1.1 1 6) < (S1.1 1 1)
  · rw [if_pos hc] at hf ⊢
    obtain ⟨hok, hf⟩ := grd_ex hf
    refine msegT C kX4_advance 43 3 (g := ((kO 1 4 && true), 92, [.ref (1)], [.int (S1.1 1 6), .ref (1)], mk b S1)) rfl hok ?_
    obtain ⟨x3, S2, hq, hf⟩ := bndC_ex hf
    refine mcall (kd := 0) (vs := [.ref (1), .int (S1.1 1 6)]) (rest := []) (r := (some (.int x3))) (h' := mk b S2) (ok' := true) C lkRX4_191 (qX4_isLetterAt hq) (kX4_advance _ (List.mem_of_getElem? (i := 46) rfl)).1 ⟨_, _, rfl, rfl, Nat.le_of_ble_eq_true rfl, _, _, rfl, rfl, rfl⟩ (Nat.le_of_ble_eq_true rfl) (Nat.le_of_ble_eq_true rfl) (Nat.le_refl _) (Nat.le_refl _) (Nat.le_of_ble_eq_true rfl) ?_
    refine msegT C kX4_advance 47 1 (g := (true, (if x3 = 0 then 105 else 98), [.ref (1)], [], mk b S2)) rfl rfl ?_
    by_cases hc : x3 = 0
    · rw [if_pos hc] at hf ⊢
      obtain ⟨hok, hf⟩ := grd_ex hf
      refine msegT C kX4_advance 51 3 (g := ((kO 1 4 && true), 110, [.ref (1)], [.int (S2.1 1 6), .ref (1)], mk b S2)) rfl hok ?_
      obtain ⟨x5, S4, hq, hf⟩ := bndC_ex hf
      refine mcall (kd := 0) (vs := [.ref (1), .int (S2.1 1 6)]) (rest := []) (r := (some (.int x5))) (h' := mk b S4) (ok' := true) C lkRX4_198 (qX4_isDigitAt hq) (kX4_advance _ (List.mem_of_getElem? (i := 54) rfl)).1 ⟨_, _, rfl, rfl, Nat.le_of_ble_eq_true rfl, _, _, rfl, rfl, rfl⟩ (Nat.le_of_ble_eq_true rfl) (Nat.le_of_ble_eq_true rfl) (Nat.le_refl _) (Nat.le_refl _) (Nat.le_of_ble_eq_true rfl) ?_
      refine msegT C kX4_advance 55 1 (g := (true, (if x5 = 0 then 123 else 116), [.ref (1)], [], mk b S4)) rfl rfl ?_
      by_cases hc : x5 = 0
      · rw [if_pos hc] at hf ⊢
        refine msegT C kX4_advance 59 1 (g := (true, 124, [.ref (1)], [.ref (1)], mk b S4)) rfl rfl ?_
        obtain ⟨S6, hq, hf⟩ := bndV_ex hf
        refine mcall (kd := 0) (vs := [.ref (1)]) (rest := []) (r := none) (h' := mk b S6) (ok' := true) C lkRX4_204 (qX4_scanSign hq) (kX4_advance _ (List.mem_of_getElem? (i := 60) rfl)).1 ⟨_, _, rfl, rfl, Nat.le_of_ble_eq_true rfl, _, _, rfl, rfl, rfl⟩ (Nat.le_of_ble_eq_true rfl) (Nat.le_of_ble_eq_true rfl) (Nat.le_refl _) (Nat.le_refl _) (Nat.le_of_ble_eq_true rfl) ?_
        exact mfor (L' := [.retAddr 0]) ⟨Or.inl rfl, trivial⟩ (bX4_advance_127 C hr hk hf true)
      · rw [if_neg hc] at hf ⊢
        refine msegT C kX4_advance 56 1 (g := (true, 117, [.ref (1)], [.ref (1)], mk b S4)) rfl rfl ?_
        obtain ⟨S7, hq, hf⟩ := bndV_ex hf
        refine mcall (kd := 0) (vs := [.ref (1)]) (rest := []) (r := none) (h' := mk b S7) (ok' := true) C lkRX4_201 (qX4_scanNumber hq) (kX4_advance _ (List.mem_of_getElem? (i := 57) rfl)).1 ⟨_, _, rfl, rfl, Nat.le_of_ble_eq_true rfl, _, _, rfl, rfl, rfl⟩ (Nat.le_of_ble_eq_true rfl) (Nat.le_of_ble_eq_true rfl) (Nat.le_refl _) (Nat.le_refl _) (Nat.le_of_ble_eq_true rfl) ?_
        refine msegT C kX4_advance 58 1 (g := (true, 127, [.ref (1)], [], mk b S7)) rfl rfl ?_
        exact mfor (L' := [.retAddr 0]) ⟨Or.inl rfl, trivial⟩ (bX4_advance_127 C hr hk hf true)
    · rw [if_neg hc] at hf ⊢
      refine msegT C kX4_advance 48 1 (g := (true, 99, [.ref (1)], [.ref (1)], mk b S2)) rfl rfl ?_
      obtain ⟨S8, hq, hf⟩ := bndV_ex hf
      refine mcall (kd := 0) (vs := [.ref (1)]) (rest := []) (r := none) (h' := mk b S8) (ok' := true) C lkRX4_195 (qX4_scanWord hq) (kX4_advance _ (List.mem_of_getElem? (i := 49) rfl)).1 ⟨_, _, rfl, rfl, Nat.le_of_ble_eq_true rfl, _, _, rfl, rfl, rfl⟩ (Nat.le_of_ble_eq_true rfl) (Nat.le_of_ble_eq_true rfl) (Nat.le_refl _) (Nat.le_refl _) (Nat.le_of_ble_eq_true rfl) ?_
      refine msegT C kX4_advance 50 1 (g := (true, 127, [.ref (1)], [], mk b S8)) rfl rfl ?_
      exact mfor (L' := [.retAddr 0]) ⟨Or.inl rfl, trivial⟩ (bX4_advance_127 C hr hk hf true)
  · rw [if_neg hc] at hf ⊢
    obtain ⟨hok, hf⟩ := grd_ex hf
    refine msegT C kX4_advance 39 3 (g := ((kO 1 4 && true), 84, [.ref (1)], [], mk b (sI S1 1 4 (0 : Int32)))) rfl hok ?_
    obtain ⟨S9, eS9, hf⟩ := bnd_ex hf
    rw [← eS9]
    refine msegT C kX4_advance 42 1 (g := (true, 127, [.ref (1)], [], mk b S9)) rfl rfl ?_
    exact mfor (L' := [.retAddr 0]) ⟨Or.inl rfl, trivial⟩ (bX4_advance_127 C hr hk hf true)
theorem bX4_advance_8 (C : mCx p (mR 3) s m args meth c G cX4_advance RX4 1 false 233 54500 233 54500) (hr : meth.sig.returnType = none) (hk : meth.locks = false) {b : Bool} {S' : mT} : ∀ (k : Nat) (S : mT), fX4_advance_8 k S = some S' → ∀ ok : Bool, mW p l e (mR 3) s m args below meth c G 1 233 54500 (mQ below G args s b S' none) (ok, 8, [.ref (1)], [], mk b S) := by
  intro k
  induction k with
  | zero =>
    intro S hf ok
    cases hf
  | succ k ih =>
    intro S hf ok
    unfold fX4_advance_8 at hf
    obtain ⟨hok, hf⟩ := grd_ex hf
    refine msegT C kX4_advance 4 5 (g := ((kO 1 4 && (kO 1 4 && true)), (if (S.1 1 1) ≤ (S.1 1 6) then 60 else 19), [.ref (1)], [], mk b S)) rfl hok ?_
    by_cases hc : (S.1 1 1) ≤ (S.1 1 6)
    · rw [if_pos hc] at hf ⊢
      exact mfor (L' := [.ref (1)]) ⟨Or.inr rfl, trivial⟩ (bX4_advance_60 C hr hk hf true)
    · rw [if_neg hc] at hf ⊢
      obtain ⟨hok, hf⟩ := grd_ex hf
      refine msegT C kX4_advance 9 7 (g := ((kB 2 (S.1 1 6) && (kO 1 4 && (kO 1 4 && true))), (if (S.1 2 (mIx (S.1 1 6))) = (32 : Int32) then 47 else 33), [.ref (1)], [], mk b S)) rfl hok ?_
      by_cases hc : (S.1 2 (mIx (S.1 1 6))) = (32 : Int32)
      · rw [if_pos hc] at hf ⊢
        exact mfor (L' := [.ref (1)]) ⟨Or.inr rfl, trivial⟩ (bX4_advance_47 C hr hk ih hf true)
      · rw [if_neg hc] at hf ⊢
        obtain ⟨hok, hf⟩ := grd_ex hf
        refine msegT C kX4_advance 16 7 (g := ((kB 2 (S.1 1 6) && (kO 1 4 && (kO 1 4 && true))), (if (S.1 2 (mIx (S.1 1 6))) = (10 : Int32) then 47 else 60), [.ref (1)], [], mk b S)) rfl hok ?_
        by_cases hc : (S.1 2 (mIx (S.1 1 6))) = (10 : Int32)
        · rw [if_pos hc] at hf ⊢
          exact mfor (L' := [.ref (1)]) ⟨Or.inr rfl, trivial⟩ (bX4_advance_47 C hr hk ih hf true)
        · rw [if_neg hc] at hf ⊢
          exact mfor (L' := [.ref (1)]) ⟨Or.inr rfl, trivial⟩ (bX4_advance_60 C hr hk hf true)
theorem bX4_advance_0 (C : mCx p (mR 3) s m args meth c G cX4_advance RX4 1 false 233 54500 233 54500) (hr : meth.sig.returnType = none) (hk : meth.locks = false) {b : Bool} {S' : mT} {S : mT} (hf : fX4_advance S = some S') (ok : Bool) : mW p l e (mR 3) s m args below meth c G 1 233 54500 (mQ below G args s b S' none) (ok, 0, [.ref (1)], [], mk b S) := by
  unfold fX4_advance at hf
  obtain ⟨hok, hf⟩ := grd_ex hf
  refine msegT C kX4_advance 0 3 (g := ((kO 1 4 && true), (if (S.1 1 2) = 0 then 8 else 7), [.ref (1)], [], mk b S)) rfl hok ?_
  by_cases hc : (S.1 1 2) = 0
  · rw [if_pos hc] at hf ⊢
    exact mfor (L' := [.ref (1)]) ⟨Or.inr rfl, trivial⟩ (bX4_advance_8 C hr hk _ _ hf true)
  · rw [if_neg hc] at hf ⊢
    cases hf
    exact gret_v C hr hk (kX4_advance _ (List.mem_of_getElem? (i := 3) rfl)).1
theorem qX4_advance {b : Bool} {S S' : mT} (hf : fX4_advance S = some S') : mOk l mX4_advance 3 [.ref (1)] b S none S' :=
  gMet (by decide) (Nat.le_of_ble_eq_true rfl) rfl (Nat.le_of_ble_eq_true rfl) (fun p e s m args below meth c G C hr hk => bX4_advance_0 C hr hk hf true)
theorem bX4_isWord_26_900000 (C : mCx p (mR 6) s m args meth c G cX4_isWord RX4 4 false 233 54500 233 54500) (hr : meth.sig.returnType = (some .boolean)) (hk : meth.locks = false) {b : Bool} {S' : mT} {r : Int32} {S : mT} (hf : fX4_isWord_26 900000 S = some (r, S')) (ok : Bool) : mW p l e (mR 6) s m args below meth c G 4 233 54500 (mQ below G args s b S' (some (.int r))) (ok, 26, [.retAddr 0, .retAddr 0, .retAddr 0, .retAddr 0], [], mk b S) := by
  unfold fX4_isWord_26 at hf
  refine msegT C kX4_isWord 14 1 (g := (true, 27, [.retAddr 0, .retAddr 0, .retAddr 0, .retAddr 0], [.int (0 : Int32)], mk b S)) rfl rfl ?_
  cases hf
  exact gret_z C hr hk (by decide) (kX4_isWord _ (List.mem_of_getElem? (i := 15) rfl)).1
theorem bX4_isWord_30_900000 (C : mCx p (mR 6) s m args meth c G cX4_isWord RX4 4 false 233 54500 233 54500) (hr : meth.sig.returnType = (some .boolean)) (hk : meth.locks = false) {b : Bool} {S' : mT} {r : Int32} : ∀ (k : Nat) (v2 : Int32) (v3 : Int32) (S : mT), fX4_isWord_30 900000 k v2 v3 S = some (r, S') → ∀ ok : Bool, mW p l e (mR 6) s m args below meth c G 4 233 54500 (mQ below G args s b S' (some (.int r))) (ok, 30, [.ref (1), .ref (900000), .int v2, .int v3], [], mk b S) := by
  intro k
  induction k with
  | zero =>
    intro v2 v3 S hf ok
    cases hf
  | succ k ih =>
    intro v2 v3 S hf ok
    unfold fX4_isWord_30 at hf
    refine msegT C kX4_isWord 18 3 (g := (true, (if v2 ≤ v3 then 62 else 35), [.ref (1), .ref (900000), .int v2, .int v3], [], mk b S)) rfl rfl ?_
    by_cases hc : v2 ≤ v3
    · rw [if_pos hc] at hf ⊢
      refine msegT C kX4_isWord 36 1 (g := (true, 63, [.ref (1), .ref (900000), .int v2, .int v3], [.int (1 : Int32)], mk b S)) rfl rfl ?_
      cases hf
      exact gret_z C hr hk (by decide) (kX4_isWord _ (List.mem_of_getElem? (i := 37) rfl)).1
    · rw [if_neg hc] at hf ⊢
      obtain ⟨hok, hf⟩ := grd_ex hf
      refine msegT C kX4_isWord 21 9 (g := ((kB 2 ((S.1 1 5) + v3) && (kO 1 4 && (kO 1 4 && true))), 48, [.ref (1), .ref (900000), .int v2, .int v3], [.int v3, .ref (900000), .int (S.1 2 (mIx ((S.1 1 5) + v3)))], mk b S)) rfl hok ?_
      obtain ⟨hok, hf⟩ := grd_ex hf
      obtain ⟨x2, ex2, hf⟩ := bnd_ex hf
      refine so_schr (j := 0) (ok' := true) C (kX4_isWord _ (List.mem_of_getElem? (i := 30) rfl)).1 (Nat.le_of_ble_eq_true rfl) (Nat.le_of_ble_eq_true rfl) (Nat.le_refl _) (Nat.le_refl _) (Nat.le_of_ble_eq_true rfl) (Nat.le_of_ble_eq_true rfl) hok ?_
      rw [← ex2]
      refine msegT C kX4_isWord 31 1 (g := (true, (if (S.1 2 (mIx ((S.1 1 5) + v3))) = x2 then 56 else 54), [.ref (1), .ref (900000), .int v2, .int v3], [], mk b S)) rfl rfl ?_
      by_cases hc : (S.1 2 (mIx ((S.1 1 5) + v3))) = x2
      · rw [if_pos hc] at hf ⊢
        refine msegT C kX4_isWord 34 1 (g := (true, 59, [.ref (1), .ref (900000), .int v2, .int (v3 + (1 : Int32))], [], mk b S)) rfl rfl ?_
        obtain ⟨x3, ex3, hf⟩ := bnd_ex hf
        rw [← ex3]
        refine msegT C kX4_isWord 35 1 (g := (true, 30, [.ref (1), .ref (900000), .int v2, .int x3], [], mk b S)) rfl rfl ?_
        exact mfor (L' := [.ref (1), .ref (900000), .int v2, .int x3]) ⟨Or.inr rfl, Or.inr rfl, Or.inr rfl, Or.inr rfl, trivial⟩ (ih _ _ _ hf true)
      · rw [if_neg hc] at hf ⊢
        refine msegT C kX4_isWord 32 1 (g := (true, 55, [.ref (1), .ref (900000), .int v2, .int v3], [.int (0 : Int32)], mk b S)) rfl rfl ?_
        cases hf
        exact gret_z C hr hk (by decide) (kX4_isWord _ (List.mem_of_getElem? (i := 33) rfl)).1
theorem bX4_isWord_0_900000 (C : mCx p (mR 6) s m args meth c G cX4_isWord RX4 4 false 233 54500 233 54500) (hr : meth.sig.returnType = (some .boolean)) (hk : meth.locks = false) {b : Bool} {S' : mT} {r : Int32} {S : mT} (hf : fX4_isWord 900000 S = some (r, S')) (ok : Bool) : mW p l e (mR 6) s m args below meth c G 4 233 54500 (mQ below G args s b S' (some (.int r))) (ok, 0, [.ref (1), .ref (900000), .retAddr 0, .retAddr 0], [], mk b S) := by
  unfold fX4_isWord at hf
  refine msegT C kX4_isWord 0 1 (g := (true, 1, [.ref (1), .ref (900000), .retAddr 0, .retAddr 0], [.ref (900000)], mk b S)) rfl rfl ?_
  obtain ⟨x1, ex1, hf⟩ := bnd_ex hf
  refine so_slen (j := 0) (ok' := true) C (kX4_isWord _ (List.mem_of_getElem? (i := 1) rfl)).1 (Nat.le_of_ble_eq_true rfl) (Nat.le_of_ble_eq_true rfl) (Nat.le_refl _) (Nat.le_refl _) (Nat.le_of_ble_eq_true rfl) (Nat.le_of_ble_eq_true rfl) ?_
  rw [← ex1]
  obtain ⟨hok, hf⟩ := grd_ex hf
  refine msegT C kX4_isWord 2 5 (g := ((kO 1 4 && true), (if (S.1 1 4) = (1 : Int32) then 13 else 26), [.ref (1), .ref (900000), .int x1, .retAddr 0], [], mk b S)) rfl hok ?_
  by_cases hc : (S.1 1 4) = (1 : Int32)
  · rw [if_pos hc] at hf ⊢
    obtain ⟨hok, hf⟩ := grd_ex hf
    refine msegT C kX4_isWord 7 7 (g := ((kO 1 4 && (kO 1 4 && true)), (if ((S.1 1 6) - (S.1 1 5)) = x1 then 28 else 26), [.ref (1), .ref (900000), .int x1, .retAddr 0], [], mk b S)) rfl hok ?_
    by_cases hc : ((S.1 1 6) - (S.1 1 5)) = x1
    · rw [if_pos hc] at hf ⊢
      refine msegT C kX4_isWord 16 2 (g := (true, 30, [.ref (1), .ref (900000), .int x1, .int (0 : Int32)], [], mk b S)) rfl rfl ?_
      exact mfor (L' := [.ref (1), .ref (900000), .int x1, .int (0 : Int32)]) ⟨Or.inr rfl, Or.inr rfl, Or.inr rfl, Or.inr rfl, trivial⟩ (bX4_isWord_30_900000 C hr hk _ _ _ _ hf true)
    · rw [if_neg hc] at hf ⊢
      exact mfor (L' := [.retAddr 0, .retAddr 0, .retAddr 0, .retAddr 0]) ⟨Or.inl rfl, Or.inl rfl, Or.inl rfl, Or.inl rfl, trivial⟩ (bX4_isWord_26_900000 C hr hk hf true)
  · rw [if_neg hc] at hf ⊢
    exact mfor (L' := [.retAddr 0, .retAddr 0, .retAddr 0, .retAddr 0]) ⟨Or.inl rfl, Or.inl rfl, Or.inl rfl, Or.inl rfl, trivial⟩ (bX4_isWord_26_900000 C hr hk hf true)
theorem qX4_isWord_900000 {b : Bool} {S S' : mT} {r : Int32} (hf : fX4_isWord 900000 S = some (r, S')) : mOk l mX4_isWord 6 [.ref (1), .ref (900000)] b S (some (.int r)) S' :=
  gMet (by decide) (Nat.le_of_ble_eq_true rfl) rfl (Nat.le_of_ble_eq_true rfl) (fun p e s m args below meth c G C hr hk => bX4_isWord_0_900000 C hr hk hf true)
theorem bX4_isWord_26_900008 (C : mCx p (mR 6) s m args meth c G cX4_isWord RX4 4 false 233 54500 233 54500) (hr : meth.sig.returnType = (some .boolean)) (hk : meth.locks = false) {b : Bool} {S' : mT} {r : Int32} {S : mT} (hf : fX4_isWord_26 900008 S = some (r, S')) (ok : Bool) : mW p l e (mR 6) s m args below meth c G 4 233 54500 (mQ below G args s b S' (some (.int r))) (ok, 26, [.retAddr 0, .retAddr 0, .retAddr 0, .retAddr 0], [], mk b S) := by
  unfold fX4_isWord_26 at hf
  refine msegT C kX4_isWord 14 1 (g := (true, 27, [.retAddr 0, .retAddr 0, .retAddr 0, .retAddr 0], [.int (0 : Int32)], mk b S)) rfl rfl ?_
  cases hf
  exact gret_z C hr hk (by decide) (kX4_isWord _ (List.mem_of_getElem? (i := 15) rfl)).1
theorem bX4_isWord_30_900008 (C : mCx p (mR 6) s m args meth c G cX4_isWord RX4 4 false 233 54500 233 54500) (hr : meth.sig.returnType = (some .boolean)) (hk : meth.locks = false) {b : Bool} {S' : mT} {r : Int32} : ∀ (k : Nat) (v2 : Int32) (v3 : Int32) (S : mT), fX4_isWord_30 900008 k v2 v3 S = some (r, S') → ∀ ok : Bool, mW p l e (mR 6) s m args below meth c G 4 233 54500 (mQ below G args s b S' (some (.int r))) (ok, 30, [.ref (1), .ref (900008), .int v2, .int v3], [], mk b S) := by
  intro k
  induction k with
  | zero =>
    intro v2 v3 S hf ok
    cases hf
  | succ k ih =>
    intro v2 v3 S hf ok
    unfold fX4_isWord_30 at hf
    refine msegT C kX4_isWord 18 3 (g := (true, (if v2 ≤ v3 then 62 else 35), [.ref (1), .ref (900008), .int v2, .int v3], [], mk b S)) rfl rfl ?_
    by_cases hc : v2 ≤ v3
    · rw [if_pos hc] at hf ⊢
      refine msegT C kX4_isWord 36 1 (g := (true, 63, [.ref (1), .ref (900008), .int v2, .int v3], [.int (1 : Int32)], mk b S)) rfl rfl ?_
      cases hf
      exact gret_z C hr hk (by decide) (kX4_isWord _ (List.mem_of_getElem? (i := 37) rfl)).1
    · rw [if_neg hc] at hf ⊢
      obtain ⟨hok, hf⟩ := grd_ex hf
      refine msegT C kX4_isWord 21 9 (g := ((kB 2 ((S.1 1 5) + v3) && (kO 1 4 && (kO 1 4 && true))), 48, [.ref (1), .ref (900008), .int v2, .int v3], [.int v3, .ref (900008), .int (S.1 2 (mIx ((S.1 1 5) + v3)))], mk b S)) rfl hok ?_
      obtain ⟨hok, hf⟩ := grd_ex hf
      obtain ⟨x2, ex2, hf⟩ := bnd_ex hf
      refine so_schr (j := 8) (ok' := true) C (kX4_isWord _ (List.mem_of_getElem? (i := 30) rfl)).1 (Nat.le_of_ble_eq_true rfl) (Nat.le_of_ble_eq_true rfl) (Nat.le_refl _) (Nat.le_refl _) (Nat.le_of_ble_eq_true rfl) (Nat.le_of_ble_eq_true rfl) hok ?_
      rw [← ex2]
      refine msegT C kX4_isWord 31 1 (g := (true, (if (S.1 2 (mIx ((S.1 1 5) + v3))) = x2 then 56 else 54), [.ref (1), .ref (900008), .int v2, .int v3], [], mk b S)) rfl rfl ?_
      by_cases hc : (S.1 2 (mIx ((S.1 1 5) + v3))) = x2
      · rw [if_pos hc] at hf ⊢
        refine msegT C kX4_isWord 34 1 (g := (true, 59, [.ref (1), .ref (900008), .int v2, .int (v3 + (1 : Int32))], [], mk b S)) rfl rfl ?_
        obtain ⟨x3, ex3, hf⟩ := bnd_ex hf
        rw [← ex3]
        refine msegT C kX4_isWord 35 1 (g := (true, 30, [.ref (1), .ref (900008), .int v2, .int x3], [], mk b S)) rfl rfl ?_
        exact mfor (L' := [.ref (1), .ref (900008), .int v2, .int x3]) ⟨Or.inr rfl, Or.inr rfl, Or.inr rfl, Or.inr rfl, trivial⟩ (ih _ _ _ hf true)
      · rw [if_neg hc] at hf ⊢
        refine msegT C kX4_isWord 32 1 (g := (true, 55, [.ref (1), .ref (900008), .int v2, .int v3], [.int (0 : Int32)], mk b S)) rfl rfl ?_
        cases hf
        exact gret_z C hr hk (by decide) (kX4_isWord _ (List.mem_of_getElem? (i := 33) rfl)).1
theorem bX4_isWord_0_900008 (C : mCx p (mR 6) s m args meth c G cX4_isWord RX4 4 false 233 54500 233 54500) (hr : meth.sig.returnType = (some .boolean)) (hk : meth.locks = false) {b : Bool} {S' : mT} {r : Int32} {S : mT} (hf : fX4_isWord 900008 S = some (r, S')) (ok : Bool) : mW p l e (mR 6) s m args below meth c G 4 233 54500 (mQ below G args s b S' (some (.int r))) (ok, 0, [.ref (1), .ref (900008), .retAddr 0, .retAddr 0], [], mk b S) := by
  unfold fX4_isWord at hf
  refine msegT C kX4_isWord 0 1 (g := (true, 1, [.ref (1), .ref (900008), .retAddr 0, .retAddr 0], [.ref (900008)], mk b S)) rfl rfl ?_
  obtain ⟨x1, ex1, hf⟩ := bnd_ex hf
  refine so_slen (j := 8) (ok' := true) C (kX4_isWord _ (List.mem_of_getElem? (i := 1) rfl)).1 (Nat.le_of_ble_eq_true rfl) (Nat.le_of_ble_eq_true rfl) (Nat.le_refl _) (Nat.le_refl _) (Nat.le_of_ble_eq_true rfl) (Nat.le_of_ble_eq_true rfl) ?_
  rw [← ex1]
  obtain ⟨hok, hf⟩ := grd_ex hf
  refine msegT C kX4_isWord 2 5 (g := ((kO 1 4 && true), (if (S.1 1 4) = (1 : Int32) then 13 else 26), [.ref (1), .ref (900008), .int x1, .retAddr 0], [], mk b S)) rfl hok ?_
  by_cases hc : (S.1 1 4) = (1 : Int32)
  · rw [if_pos hc] at hf ⊢
    obtain ⟨hok, hf⟩ := grd_ex hf
    refine msegT C kX4_isWord 7 7 (g := ((kO 1 4 && (kO 1 4 && true)), (if ((S.1 1 6) - (S.1 1 5)) = x1 then 28 else 26), [.ref (1), .ref (900008), .int x1, .retAddr 0], [], mk b S)) rfl hok ?_
    by_cases hc : ((S.1 1 6) - (S.1 1 5)) = x1
    · rw [if_pos hc] at hf ⊢
      refine msegT C kX4_isWord 16 2 (g := (true, 30, [.ref (1), .ref (900008), .int x1, .int (0 : Int32)], [], mk b S)) rfl rfl ?_
      exact mfor (L' := [.ref (1), .ref (900008), .int x1, .int (0 : Int32)]) ⟨Or.inr rfl, Or.inr rfl, Or.inr rfl, Or.inr rfl, trivial⟩ (bX4_isWord_30_900008 C hr hk _ _ _ _ hf true)
    · rw [if_neg hc] at hf ⊢
      exact mfor (L' := [.retAddr 0, .retAddr 0, .retAddr 0, .retAddr 0]) ⟨Or.inl rfl, Or.inl rfl, Or.inl rfl, Or.inl rfl, trivial⟩ (bX4_isWord_26_900008 C hr hk hf true)
  · rw [if_neg hc] at hf ⊢
    exact mfor (L' := [.retAddr 0, .retAddr 0, .retAddr 0, .retAddr 0]) ⟨Or.inl rfl, Or.inl rfl, Or.inl rfl, Or.inl rfl, trivial⟩ (bX4_isWord_26_900008 C hr hk hf true)
theorem qX4_isWord_900008 {b : Bool} {S S' : mT} {r : Int32} (hf : fX4_isWord 900008 S = some (r, S')) : mOk l mX4_isWord 6 [.ref (1), .ref (900008)] b S (some (.int r)) S' :=
  gMet (by decide) (Nat.le_of_ble_eq_true rfl) rfl (Nat.le_of_ble_eq_true rfl) (fun p e s m args below meth c G C hr hk => bX4_isWord_0_900008 C hr hk hf true)
theorem bX4_isWord_26_900005 (C : mCx p (mR 6) s m args meth c G cX4_isWord RX4 4 false 233 54500 233 54500) (hr : meth.sig.returnType = (some .boolean)) (hk : meth.locks = false) {b : Bool} {S' : mT} {r : Int32} {S : mT} (hf : fX4_isWord_26 900005 S = some (r, S')) (ok : Bool) : mW p l e (mR 6) s m args below meth c G 4 233 54500 (mQ below G args s b S' (some (.int r))) (ok, 26, [.retAddr 0, .retAddr 0, .retAddr 0, .retAddr 0], [], mk b S) := by
  unfold fX4_isWord_26 at hf
  refine msegT C kX4_isWord 14 1 (g := (true, 27, [.retAddr 0, .retAddr 0, .retAddr 0, .retAddr 0], [.int (0 : Int32)], mk b S)) rfl rfl ?_
  cases hf
  exact gret_z C hr hk (by decide) (kX4_isWord _ (List.mem_of_getElem? (i := 15) rfl)).1
theorem bX4_isWord_30_900005 (C : mCx p (mR 6) s m args meth c G cX4_isWord RX4 4 false 233 54500 233 54500) (hr : meth.sig.returnType = (some .boolean)) (hk : meth.locks = false) {b : Bool} {S' : mT} {r : Int32} : ∀ (k : Nat) (v2 : Int32) (v3 : Int32) (S : mT), fX4_isWord_30 900005 k v2 v3 S = some (r, S') → ∀ ok : Bool, mW p l e (mR 6) s m args below meth c G 4 233 54500 (mQ below G args s b S' (some (.int r))) (ok, 30, [.ref (1), .ref (900005), .int v2, .int v3], [], mk b S) := by
  intro k
  induction k with
  | zero =>
    intro v2 v3 S hf ok
    cases hf
  | succ k ih =>
    intro v2 v3 S hf ok
    unfold fX4_isWord_30 at hf
    refine msegT C kX4_isWord 18 3 (g := (true, (if v2 ≤ v3 then 62 else 35), [.ref (1), .ref (900005), .int v2, .int v3], [], mk b S)) rfl rfl ?_
    by_cases hc : v2 ≤ v3
    · rw [if_pos hc] at hf ⊢
      refine msegT C kX4_isWord 36 1 (g := (true, 63, [.ref (1), .ref (900005), .int v2, .int v3], [.int (1 : Int32)], mk b S)) rfl rfl ?_
      cases hf
      exact gret_z C hr hk (by decide) (kX4_isWord _ (List.mem_of_getElem? (i := 37) rfl)).1
    · rw [if_neg hc] at hf ⊢
      obtain ⟨hok, hf⟩ := grd_ex hf
      refine msegT C kX4_isWord 21 9 (g := ((kB 2 ((S.1 1 5) + v3) && (kO 1 4 && (kO 1 4 && true))), 48, [.ref (1), .ref (900005), .int v2, .int v3], [.int v3, .ref (900005), .int (S.1 2 (mIx ((S.1 1 5) + v3)))], mk b S)) rfl hok ?_
      obtain ⟨hok, hf⟩ := grd_ex hf
      obtain ⟨x2, ex2, hf⟩ := bnd_ex hf
      refine so_schr (j := 5) (ok' := true) C (kX4_isWord _ (List.mem_of_getElem? (i := 30) rfl)).1 (Nat.le_of_ble_eq_true rfl) (Nat.le_of_ble_eq_true rfl) (Nat.le_refl _) (Nat.le_refl _) (Nat.le_of_ble_eq_true rfl) (Nat.le_of_ble_eq_true rfl) hok ?_
      rw [← ex2]
      refine msegT C kX4_isWord 31 1 (g := (true, (if (S.1 2 (mIx ((S.1 1 5) + v3))) = x2 then 56 else 54), [.ref (1), .ref (900005), .int v2, .int v3], [], mk b S)) rfl rfl ?_
      by_cases hc : (S.1 2 (mIx ((S.1 1 5) + v3))) = x2
      · rw [if_pos hc] at hf ⊢
        refine msegT C kX4_isWord 34 1 (g := (true, 59, [.ref (1), .ref (900005), .int v2, .int (v3 + (1 : Int32))], [], mk b S)) rfl rfl ?_
        obtain ⟨x3, ex3, hf⟩ := bnd_ex hf
        rw [← ex3]
        refine msegT C kX4_isWord 35 1 (g := (true, 30, [.ref (1), .ref (900005), .int v2, .int x3], [], mk b S)) rfl rfl ?_
        exact mfor (L' := [.ref (1), .ref (900005), .int v2, .int x3]) ⟨Or.inr rfl, Or.inr rfl, Or.inr rfl, Or.inr rfl, trivial⟩ (ih _ _ _ hf true)
      · rw [if_neg hc] at hf ⊢
        refine msegT C kX4_isWord 32 1 (g := (true, 55, [.ref (1), .ref (900005), .int v2, .int v3], [.int (0 : Int32)], mk b S)) rfl rfl ?_
        cases hf
        exact gret_z C hr hk (by decide) (kX4_isWord _ (List.mem_of_getElem? (i := 33) rfl)).1
theorem bX4_isWord_0_900005 (C : mCx p (mR 6) s m args meth c G cX4_isWord RX4 4 false 233 54500 233 54500) (hr : meth.sig.returnType = (some .boolean)) (hk : meth.locks = false) {b : Bool} {S' : mT} {r : Int32} {S : mT} (hf : fX4_isWord 900005 S = some (r, S')) (ok : Bool) : mW p l e (mR 6) s m args below meth c G 4 233 54500 (mQ below G args s b S' (some (.int r))) (ok, 0, [.ref (1), .ref (900005), .retAddr 0, .retAddr 0], [], mk b S) := by
  unfold fX4_isWord at hf
  refine msegT C kX4_isWord 0 1 (g := (true, 1, [.ref (1), .ref (900005), .retAddr 0, .retAddr 0], [.ref (900005)], mk b S)) rfl rfl ?_
  obtain ⟨x1, ex1, hf⟩ := bnd_ex hf
  refine so_slen (j := 5) (ok' := true) C (kX4_isWord _ (List.mem_of_getElem? (i := 1) rfl)).1 (Nat.le_of_ble_eq_true rfl) (Nat.le_of_ble_eq_true rfl) (Nat.le_refl _) (Nat.le_refl _) (Nat.le_of_ble_eq_true rfl) (Nat.le_of_ble_eq_true rfl) ?_
  rw [← ex1]
  obtain ⟨hok, hf⟩ := grd_ex hf
  refine msegT C kX4_isWord 2 5 (g := ((kO 1 4 && true), (if (S.1 1 4) = (1 : Int32) then 13 else 26), [.ref (1), .ref (900005), .int x1, .retAddr 0], [], mk b S)) rfl hok ?_
  by_cases hc : (S.1 1 4) = (1 : Int32)
  · rw [if_pos hc] at hf ⊢
    obtain ⟨hok, hf⟩ := grd_ex hf
    refine msegT C kX4_isWord 7 7 (g := ((kO 1 4 && (kO 1 4 && true)), (if ((S.1 1 6) - (S.1 1 5)) = x1 then 28 else 26), [.ref (1), .ref (900005), .int x1, .retAddr 0], [], mk b S)) rfl hok ?_
    by_cases hc : ((S.1 1 6) - (S.1 1 5)) = x1
    · rw [if_pos hc] at hf ⊢
      refine msegT C kX4_isWord 16 2 (g := (true, 30, [.ref (1), .ref (900005), .int x1, .int (0 : Int32)], [], mk b S)) rfl rfl ?_
      exact mfor (L' := [.ref (1), .ref (900005), .int x1, .int (0 : Int32)]) ⟨Or.inr rfl, Or.inr rfl, Or.inr rfl, Or.inr rfl, trivial⟩ (bX4_isWord_30_900005 C hr hk _ _ _ _ hf true)
    · rw [if_neg hc] at hf ⊢
      exact mfor (L' := [.retAddr 0, .retAddr 0, .retAddr 0, .retAddr 0]) ⟨Or.inl rfl, Or.inl rfl, Or.inl rfl, Or.inl rfl, trivial⟩ (bX4_isWord_26_900005 C hr hk hf true)
  · rw [if_neg hc] at hf ⊢
    exact mfor (L' := [.retAddr 0, .retAddr 0, .retAddr 0, .retAddr 0]) ⟨Or.inl rfl, Or.inl rfl, Or.inl rfl, Or.inl rfl, trivial⟩ (bX4_isWord_26_900005 C hr hk hf true)
theorem qX4_isWord_900005 {b : Bool} {S S' : mT} {r : Int32} (hf : fX4_isWord 900005 S = some (r, S')) : mOk l mX4_isWord 6 [.ref (1), .ref (900005)] b S (some (.int r)) S' :=
  gMet (by decide) (Nat.le_of_ble_eq_true rfl) rfl (Nat.le_of_ble_eq_true rfl) (fun p e s m args below meth c G C hr hk => bX4_isWord_0_900005 C hr hk hf true)
theorem bX4_isWord_26_900006 (C : mCx p (mR 6) s m args meth c G cX4_isWord RX4 4 false 233 54500 233 54500) (hr : meth.sig.returnType = (some .boolean)) (hk : meth.locks = false) {b : Bool} {S' : mT} {r : Int32} {S : mT} (hf : fX4_isWord_26 900006 S = some (r, S')) (ok : Bool) : mW p l e (mR 6) s m args below meth c G 4 233 54500 (mQ below G args s b S' (some (.int r))) (ok, 26, [.retAddr 0, .retAddr 0, .retAddr 0, .retAddr 0], [], mk b S) := by
  unfold fX4_isWord_26 at hf
  refine msegT C kX4_isWord 14 1 (g := (true, 27, [.retAddr 0, .retAddr 0, .retAddr 0, .retAddr 0], [.int (0 : Int32)], mk b S)) rfl rfl ?_
  cases hf
  exact gret_z C hr hk (by decide) (kX4_isWord _ (List.mem_of_getElem? (i := 15) rfl)).1
theorem bX4_isWord_30_900006 (C : mCx p (mR 6) s m args meth c G cX4_isWord RX4 4 false 233 54500 233 54500) (hr : meth.sig.returnType = (some .boolean)) (hk : meth.locks = false) {b : Bool} {S' : mT} {r : Int32} : ∀ (k : Nat) (v2 : Int32) (v3 : Int32) (S : mT), fX4_isWord_30 900006 k v2 v3 S = some (r, S') → ∀ ok : Bool, mW p l e (mR 6) s m args below meth c G 4 233 54500 (mQ below G args s b S' (some (.int r))) (ok, 30, [.ref (1), .ref (900006), .int v2, .int v3], [], mk b S) := by
  intro k
  induction k with
  | zero =>
    intro v2 v3 S hf ok
    cases hf
  | succ k ih =>
    intro v2 v3 S hf ok
    unfold fX4_isWord_30 at hf
    refine msegT C kX4_isWord 18 3 (g := (true, (if v2 ≤ v3 then 62 else 35), [.ref (1), .ref (900006), .int v2, .int v3], [], mk b S)) rfl rfl ?_
    by_cases hc : v2 ≤ v3
    · rw [if_pos hc] at hf ⊢
      refine msegT C kX4_isWord 36 1 (g := (true, 63, [.ref (1), .ref (900006), .int v2, .int v3], [.int (1 : Int32)], mk b S)) rfl rfl ?_
      cases hf
      exact gret_z C hr hk (by decide) (kX4_isWord _ (List.mem_of_getElem? (i := 37) rfl)).1
    · rw [if_neg hc] at hf ⊢
      obtain ⟨hok, hf⟩ := grd_ex hf
      refine msegT C kX4_isWord 21 9 (g := ((kB 2 ((S.1 1 5) + v3) && (kO 1 4 && (kO 1 4 && true))), 48, [.ref (1), .ref (900006), .int v2, .int v3], [.int v3, .ref (900006), .int (S.1 2 (mIx ((S.1 1 5) + v3)))], mk b S)) rfl hok ?_
      obtain ⟨hok, hf⟩ := grd_ex hf
      obtain ⟨x2, ex2, hf⟩ := bnd_ex hf
      refine so_schr (j := 6) (ok' := true) C (kX4_isWord _ (List.mem_of_getElem? (i := 30) rfl)).1 (Nat.le_of_ble_eq_true rfl) (Nat.le_of_ble_eq_true rfl) (Nat.le_refl _) (Nat.le_refl _) (Nat.le_of_ble_eq_true rfl) (Nat.le_of_ble_eq_true rfl) hok ?_
      rw [← ex2]
      refine msegT C kX4_isWord 31 1 (g := (true, (if (S.1 2 (mIx ((S.1 1 5) + v3))) = x2 then 56 else 54), [.ref (1), .ref (900006), .int v2, .int v3], [], mk b S)) rfl rfl ?_
      by_cases hc : (S.1 2 (mIx ((S.1 1 5) + v3))) = x2
      · rw [if_pos hc] at hf ⊢
        refine msegT C kX4_isWord 34 1 (g := (true, 59, [.ref (1), .ref (900006), .int v2, .int (v3 + (1 : Int32))], [], mk b S)) rfl rfl ?_
        obtain ⟨x3, ex3, hf⟩ := bnd_ex hf
        rw [← ex3]
        refine msegT C kX4_isWord 35 1 (g := (true, 30, [.ref (1), .ref (900006), .int v2, .int x3], [], mk b S)) rfl rfl ?_
        exact mfor (L' := [.ref (1), .ref (900006), .int v2, .int x3]) ⟨Or.inr rfl, Or.inr rfl, Or.inr rfl, Or.inr rfl, trivial⟩ (ih _ _ _ hf true)
      · rw [if_neg hc] at hf ⊢
        refine msegT C kX4_isWord 32 1 (g := (true, 55, [.ref (1), .ref (900006), .int v2, .int v3], [.int (0 : Int32)], mk b S)) rfl rfl ?_
        cases hf
        exact gret_z C hr hk (by decide) (kX4_isWord _ (List.mem_of_getElem? (i := 33) rfl)).1
theorem bX4_isWord_0_900006 (C : mCx p (mR 6) s m args meth c G cX4_isWord RX4 4 false 233 54500 233 54500) (hr : meth.sig.returnType = (some .boolean)) (hk : meth.locks = false) {b : Bool} {S' : mT} {r : Int32} {S : mT} (hf : fX4_isWord 900006 S = some (r, S')) (ok : Bool) : mW p l e (mR 6) s m args below meth c G 4 233 54500 (mQ below G args s b S' (some (.int r))) (ok, 0, [.ref (1), .ref (900006), .retAddr 0, .retAddr 0], [], mk b S) := by
  unfold fX4_isWord at hf
  refine msegT C kX4_isWord 0 1 (g := (true, 1, [.ref (1), .ref (900006), .retAddr 0, .retAddr 0], [.ref (900006)], mk b S)) rfl rfl ?_
  obtain ⟨x1, ex1, hf⟩ := bnd_ex hf
  refine so_slen (j := 6) (ok' := true) C (kX4_isWord _ (List.mem_of_getElem? (i := 1) rfl)).1 (Nat.le_of_ble_eq_true rfl) (Nat.le_of_ble_eq_true rfl) (Nat.le_refl _) (Nat.le_refl _) (Nat.le_of_ble_eq_true rfl) (Nat.le_of_ble_eq_true rfl) ?_
  rw [← ex1]
  obtain ⟨hok, hf⟩ := grd_ex hf
  refine msegT C kX4_isWord 2 5 (g := ((kO 1 4 && true), (if (S.1 1 4) = (1 : Int32) then 13 else 26), [.ref (1), .ref (900006), .int x1, .retAddr 0], [], mk b S)) rfl hok ?_
  by_cases hc : (S.1 1 4) = (1 : Int32)
  · rw [if_pos hc] at hf ⊢
    obtain ⟨hok, hf⟩ := grd_ex hf
    refine msegT C kX4_isWord 7 7 (g := ((kO 1 4 && (kO 1 4 && true)), (if ((S.1 1 6) - (S.1 1 5)) = x1 then 28 else 26), [.ref (1), .ref (900006), .int x1, .retAddr 0], [], mk b S)) rfl hok ?_
    by_cases hc : ((S.1 1 6) - (S.1 1 5)) = x1
    · rw [if_pos hc] at hf ⊢
      refine msegT C kX4_isWord 16 2 (g := (true, 30, [.ref (1), .ref (900006), .int x1, .int (0 : Int32)], [], mk b S)) rfl rfl ?_
      exact mfor (L' := [.ref (1), .ref (900006), .int x1, .int (0 : Int32)]) ⟨Or.inr rfl, Or.inr rfl, Or.inr rfl, Or.inr rfl, trivial⟩ (bX4_isWord_30_900006 C hr hk _ _ _ _ hf true)
    · rw [if_neg hc] at hf ⊢
      exact mfor (L' := [.retAddr 0, .retAddr 0, .retAddr 0, .retAddr 0]) ⟨Or.inl rfl, Or.inl rfl, Or.inl rfl, Or.inl rfl, trivial⟩ (bX4_isWord_26_900006 C hr hk hf true)
  · rw [if_neg hc] at hf ⊢
    exact mfor (L' := [.retAddr 0, .retAddr 0, .retAddr 0, .retAddr 0]) ⟨Or.inl rfl, Or.inl rfl, Or.inl rfl, Or.inl rfl, trivial⟩ (bX4_isWord_26_900006 C hr hk hf true)
theorem qX4_isWord_900006 {b : Bool} {S S' : mT} {r : Int32} (hf : fX4_isWord 900006 S = some (r, S')) : mOk l mX4_isWord 6 [.ref (1), .ref (900006)] b S (some (.int r)) S' :=
  gMet (by decide) (Nat.le_of_ble_eq_true rfl) rfl (Nat.le_of_ble_eq_true rfl) (fun p e s m args below meth c G C hr hk => bX4_isWord_0_900006 C hr hk hf true)
theorem bX4_isWord_26_900007 (C : mCx p (mR 6) s m args meth c G cX4_isWord RX4 4 false 233 54500 233 54500) (hr : meth.sig.returnType = (some .boolean)) (hk : meth.locks = false) {b : Bool} {S' : mT} {r : Int32} {S : mT} (hf : fX4_isWord_26 900007 S = some (r, S')) (ok : Bool) : mW p l e (mR 6) s m args below meth c G 4 233 54500 (mQ below G args s b S' (some (.int r))) (ok, 26, [.retAddr 0, .retAddr 0, .retAddr 0, .retAddr 0], [], mk b S) := by
  unfold fX4_isWord_26 at hf
  refine msegT C kX4_isWord 14 1 (g := (true, 27, [.retAddr 0, .retAddr 0, .retAddr 0, .retAddr 0], [.int (0 : Int32)], mk b S)) rfl rfl ?_
  cases hf
  exact gret_z C hr hk (by decide) (kX4_isWord _ (List.mem_of_getElem? (i := 15) rfl)).1
theorem bX4_isWord_30_900007 (C : mCx p (mR 6) s m args meth c G cX4_isWord RX4 4 false 233 54500 233 54500) (hr : meth.sig.returnType = (some .boolean)) (hk : meth.locks = false) {b : Bool} {S' : mT} {r : Int32} : ∀ (k : Nat) (v2 : Int32) (v3 : Int32) (S : mT), fX4_isWord_30 900007 k v2 v3 S = some (r, S') → ∀ ok : Bool, mW p l e (mR 6) s m args below meth c G 4 233 54500 (mQ below G args s b S' (some (.int r))) (ok, 30, [.ref (1), .ref (900007), .int v2, .int v3], [], mk b S) := by
  intro k
  induction k with
  | zero =>
    intro v2 v3 S hf ok
    cases hf
  | succ k ih =>
    intro v2 v3 S hf ok
    unfold fX4_isWord_30 at hf
    refine msegT C kX4_isWord 18 3 (g := (true, (if v2 ≤ v3 then 62 else 35), [.ref (1), .ref (900007), .int v2, .int v3], [], mk b S)) rfl rfl ?_
    by_cases hc : v2 ≤ v3
    · rw [if_pos hc] at hf ⊢
      refine msegT C kX4_isWord 36 1 (g := (true, 63, [.ref (1), .ref (900007), .int v2, .int v3], [.int (1 : Int32)], mk b S)) rfl rfl ?_
      cases hf
      exact gret_z C hr hk (by decide) (kX4_isWord _ (List.mem_of_getElem? (i := 37) rfl)).1
    · rw [if_neg hc] at hf ⊢
      obtain ⟨hok, hf⟩ := grd_ex hf
      refine msegT C kX4_isWord 21 9 (g := ((kB 2 ((S.1 1 5) + v3) && (kO 1 4 && (kO 1 4 && true))), 48, [.ref (1), .ref (900007), .int v2, .int v3], [.int v3, .ref (900007), .int (S.1 2 (mIx ((S.1 1 5) + v3)))], mk b S)) rfl hok ?_
      obtain ⟨hok, hf⟩ := grd_ex hf
      obtain ⟨x2, ex2, hf⟩ := bnd_ex hf
      refine so_schr (j := 7) (ok' := true) C (kX4_isWord _ (List.mem_of_getElem? (i := 30) rfl)).1 (Nat.le_of_ble_eq_true rfl) (Nat.le_of_ble_eq_true rfl) (Nat.le_refl _) (Nat.le_refl _) (Nat.le_of_ble_eq_true rfl) (Nat.le_of_ble_eq_true rfl) hok ?_
      rw [← ex2]
      refine msegT C kX4_isWord 31 1 (g := (true, (if (S.1 2 (mIx ((S.1 1 5) + v3))) = x2 then 56 else 54), [.ref (1), .ref (900007), .int v2, .int v3], [], mk b S)) rfl rfl ?_
      by_cases hc : (S.1 2 (mIx ((S.1 1 5) + v3))) = x2
      · rw [if_pos hc] at hf ⊢
        refine msegT C kX4_isWord 34 1 (g := (true, 59, [.ref (1), .ref (900007), .int v2, .int (v3 + (1 : Int32))], [], mk b S)) rfl rfl ?_
        obtain ⟨x3, ex3, hf⟩ := bnd_ex hf
        rw [← ex3]
        refine msegT C kX4_isWord 35 1 (g := (true, 30, [.ref (1), .ref (900007), .int v2, .int x3], [], mk b S)) rfl rfl ?_
        exact mfor (L' := [.ref (1), .ref (900007), .int v2, .int x3]) ⟨Or.inr rfl, Or.inr rfl, Or.inr rfl, Or.inr rfl, trivial⟩ (ih _ _ _ hf true)
      · rw [if_neg hc] at hf ⊢
        refine msegT C kX4_isWord 32 1 (g := (true, 55, [.ref (1), .ref (900007), .int v2, .int v3], [.int (0 : Int32)], mk b S)) rfl rfl ?_
        cases hf
        exact gret_z C hr hk (by decide) (kX4_isWord _ (List.mem_of_getElem? (i := 33) rfl)).1
theorem bX4_isWord_0_900007 (C : mCx p (mR 6) s m args meth c G cX4_isWord RX4 4 false 233 54500 233 54500) (hr : meth.sig.returnType = (some .boolean)) (hk : meth.locks = false) {b : Bool} {S' : mT} {r : Int32} {S : mT} (hf : fX4_isWord 900007 S = some (r, S')) (ok : Bool) : mW p l e (mR 6) s m args below meth c G 4 233 54500 (mQ below G args s b S' (some (.int r))) (ok, 0, [.ref (1), .ref (900007), .retAddr 0, .retAddr 0], [], mk b S) := by
  unfold fX4_isWord at hf
  refine msegT C kX4_isWord 0 1 (g := (true, 1, [.ref (1), .ref (900007), .retAddr 0, .retAddr 0], [.ref (900007)], mk b S)) rfl rfl ?_
  obtain ⟨x1, ex1, hf⟩ := bnd_ex hf
  refine so_slen (j := 7) (ok' := true) C (kX4_isWord _ (List.mem_of_getElem? (i := 1) rfl)).1 (Nat.le_of_ble_eq_true rfl) (Nat.le_of_ble_eq_true rfl) (Nat.le_refl _) (Nat.le_refl _) (Nat.le_of_ble_eq_true rfl) (Nat.le_of_ble_eq_true rfl) ?_
  rw [← ex1]
  obtain ⟨hok, hf⟩ := grd_ex hf
  refine msegT C kX4_isWord 2 5 (g := ((kO 1 4 && true), (if (S.1 1 4) = (1 : Int32) then 13 else 26), [.ref (1), .ref (900007), .int x1, .retAddr 0], [], mk b S)) rfl hok ?_
  by_cases hc : (S.1 1 4) = (1 : Int32)
  · rw [if_pos hc] at hf ⊢
    obtain ⟨hok, hf⟩ := grd_ex hf
    refine msegT C kX4_isWord 7 7 (g := ((kO 1 4 && (kO 1 4 && true)), (if ((S.1 1 6) - (S.1 1 5)) = x1 then 28 else 26), [.ref (1), .ref (900007), .int x1, .retAddr 0], [], mk b S)) rfl hok ?_
    by_cases hc : ((S.1 1 6) - (S.1 1 5)) = x1
    · rw [if_pos hc] at hf ⊢
      refine msegT C kX4_isWord 16 2 (g := (true, 30, [.ref (1), .ref (900007), .int x1, .int (0 : Int32)], [], mk b S)) rfl rfl ?_
      exact mfor (L' := [.ref (1), .ref (900007), .int x1, .int (0 : Int32)]) ⟨Or.inr rfl, Or.inr rfl, Or.inr rfl, Or.inr rfl, trivial⟩ (bX4_isWord_30_900007 C hr hk _ _ _ _ hf true)
    · rw [if_neg hc] at hf ⊢
      exact mfor (L' := [.retAddr 0, .retAddr 0, .retAddr 0, .retAddr 0]) ⟨Or.inl rfl, Or.inl rfl, Or.inl rfl, Or.inl rfl, trivial⟩ (bX4_isWord_26_900007 C hr hk hf true)
  · rw [if_neg hc] at hf ⊢
    exact mfor (L' := [.retAddr 0, .retAddr 0, .retAddr 0, .retAddr 0]) ⟨Or.inl rfl, Or.inl rfl, Or.inl rfl, Or.inl rfl, trivial⟩ (bX4_isWord_26_900007 C hr hk hf true)
theorem qX4_isWord_900007 {b : Bool} {S S' : mT} {r : Int32} (hf : fX4_isWord 900007 S = some (r, S')) : mOk l mX4_isWord 6 [.ref (1), .ref (900007)] b S (some (.int r)) S' :=
  gMet (by decide) (Nat.le_of_ble_eq_true rfl) rfl (Nat.le_of_ble_eq_true rfl) (fun p e s m args below meth c G C hr hk => bX4_isWord_0_900007 C hr hk hf true)
theorem bX4_isWord_26_900003 (C : mCx p (mR 6) s m args meth c G cX4_isWord RX4 4 false 233 54500 233 54500) (hr : meth.sig.returnType = (some .boolean)) (hk : meth.locks = false) {b : Bool} {S' : mT} {r : Int32} {S : mT} (hf : fX4_isWord_26 900003 S = some (r, S')) (ok : Bool) : mW p l e (mR 6) s m args below meth c G 4 233 54500 (mQ below G args s b S' (some (.int r))) (ok, 26, [.retAddr 0, .retAddr 0, .retAddr 0, .retAddr 0], [], mk b S) := by
  unfold fX4_isWord_26 at hf
  refine msegT C kX4_isWord 14 1 (g := (true, 27, [.retAddr 0, .retAddr 0, .retAddr 0, .retAddr 0], [.int (0 : Int32)], mk b S)) rfl rfl ?_
  cases hf
  exact gret_z C hr hk (by decide) (kX4_isWord _ (List.mem_of_getElem? (i := 15) rfl)).1
theorem bX4_isWord_30_900003 (C : mCx p (mR 6) s m args meth c G cX4_isWord RX4 4 false 233 54500 233 54500) (hr : meth.sig.returnType = (some .boolean)) (hk : meth.locks = false) {b : Bool} {S' : mT} {r : Int32} : ∀ (k : Nat) (v2 : Int32) (v3 : Int32) (S : mT), fX4_isWord_30 900003 k v2 v3 S = some (r, S') → ∀ ok : Bool, mW p l e (mR 6) s m args below meth c G 4 233 54500 (mQ below G args s b S' (some (.int r))) (ok, 30, [.ref (1), .ref (900003), .int v2, .int v3], [], mk b S) := by
  intro k
  induction k with
  | zero =>
    intro v2 v3 S hf ok
    cases hf
  | succ k ih =>
    intro v2 v3 S hf ok
    unfold fX4_isWord_30 at hf
    refine msegT C kX4_isWord 18 3 (g := (true, (if v2 ≤ v3 then 62 else 35), [.ref (1), .ref (900003), .int v2, .int v3], [], mk b S)) rfl rfl ?_
    by_cases hc : v2 ≤ v3
    · rw [if_pos hc] at hf ⊢
      refine msegT C kX4_isWord 36 1 (g := (true, 63, [.ref (1), .ref (900003), .int v2, .int v3], [.int (1 : Int32)], mk b S)) rfl rfl ?_
      cases hf
      exact gret_z C hr hk (by decide) (kX4_isWord _ (List.mem_of_getElem? (i := 37) rfl)).1
    · rw [if_neg hc] at hf ⊢
      obtain ⟨hok, hf⟩ := grd_ex hf
      refine msegT C kX4_isWord 21 9 (g := ((kB 2 ((S.1 1 5) + v3) && (kO 1 4 && (kO 1 4 && true))), 48, [.ref (1), .ref (900003), .int v2, .int v3], [.int v3, .ref (900003), .int (S.1 2 (mIx ((S.1 1 5) + v3)))], mk b S)) rfl hok ?_
      obtain ⟨hok, hf⟩ := grd_ex hf
      obtain ⟨x2, ex2, hf⟩ := bnd_ex hf
      refine so_schr (j := 3) (ok' := true) C (kX4_isWord _ (List.mem_of_getElem? (i := 30) rfl)).1 (Nat.le_of_ble_eq_true rfl) (Nat.le_of_ble_eq_true rfl) (Nat.le_refl _) (Nat.le_refl _) (Nat.le_of_ble_eq_true rfl) (Nat.le_of_ble_eq_true rfl) hok ?_
      rw [← ex2]
      refine msegT C kX4_isWord 31 1 (g := (true, (if (S.1 2 (mIx ((S.1 1 5) + v3))) = x2 then 56 else 54), [.ref (1), .ref (900003), .int v2, .int v3], [], mk b S)) rfl rfl ?_
      by_cases hc : (S.1 2 (mIx ((S.1 1 5) + v3))) = x2
      · rw [if_pos hc] at hf ⊢
        refine msegT C kX4_isWord 34 1 (g := (true, 59, [.ref (1), .ref (900003), .int v2, .int (v3 + (1 : Int32))], [], mk b S)) rfl rfl ?_
        obtain ⟨x3, ex3, hf⟩ := bnd_ex hf
        rw [← ex3]
        refine msegT C kX4_isWord 35 1 (g := (true, 30, [.ref (1), .ref (900003), .int v2, .int x3], [], mk b S)) rfl rfl ?_
        exact mfor (L' := [.ref (1), .ref (900003), .int v2, .int x3]) ⟨Or.inr rfl, Or.inr rfl, Or.inr rfl, Or.inr rfl, trivial⟩ (ih _ _ _ hf true)
      · rw [if_neg hc] at hf ⊢
        refine msegT C kX4_isWord 32 1 (g := (true, 55, [.ref (1), .ref (900003), .int v2, .int v3], [.int (0 : Int32)], mk b S)) rfl rfl ?_
        cases hf
        exact gret_z C hr hk (by decide) (kX4_isWord _ (List.mem_of_getElem? (i := 33) rfl)).1
theorem bX4_isWord_0_900003 (C : mCx p (mR 6) s m args meth c G cX4_isWord RX4 4 false 233 54500 233 54500) (hr : meth.sig.returnType = (some .boolean)) (hk : meth.locks = false) {b : Bool} {S' : mT} {r : Int32} {S : mT} (hf : fX4_isWord 900003 S = some (r, S')) (ok : Bool) : mW p l e (mR 6) s m args below meth c G 4 233 54500 (mQ below G args s b S' (some (.int r))) (ok, 0, [.ref (1), .ref (900003), .retAddr 0, .retAddr 0], [], mk b S) := by
  unfold fX4_isWord at hf
  refine msegT C kX4_isWord 0 1 (g := (true, 1, [.ref (1), .ref (900003), .retAddr 0, .retAddr 0], [.ref (900003)], mk b S)) rfl rfl ?_
  obtain ⟨x1, ex1, hf⟩ := bnd_ex hf
  refine so_slen (j := 3) (ok' := true) C (kX4_isWord _ (List.mem_of_getElem? (i := 1) rfl)).1 (Nat.le_of_ble_eq_true rfl) (Nat.le_of_ble_eq_true rfl) (Nat.le_refl _) (Nat.le_refl _) (Nat.le_of_ble_eq_true rfl) (Nat.le_of_ble_eq_true rfl) ?_
  rw [← ex1]
  obtain ⟨hok, hf⟩ := grd_ex hf
  refine msegT C kX4_isWord 2 5 (g := ((kO 1 4 && true), (if (S.1 1 4) = (1 : Int32) then 13 else 26), [.ref (1), .ref (900003), .int x1, .retAddr 0], [], mk b S)) rfl hok ?_
  by_cases hc : (S.1 1 4) = (1 : Int32)
  · rw [if_pos hc] at hf ⊢
    obtain ⟨hok, hf⟩ := grd_ex hf
    refine msegT C kX4_isWord 7 7 (g := ((kO 1 4 && (kO 1 4 && true)), (if ((S.1 1 6) - (S.1 1 5)) = x1 then 28 else 26), [.ref (1), .ref (900003), .int x1, .retAddr 0], [], mk b S)) rfl hok ?_
    by_cases hc : ((S.1 1 6) - (S.1 1 5)) = x1
    · rw [if_pos hc] at hf ⊢
      refine msegT C kX4_isWord 16 2 (g := (true, 30, [.ref (1), .ref (900003), .int x1, .int (0 : Int32)], [], mk b S)) rfl rfl ?_
      exact mfor (L' := [.ref (1), .ref (900003), .int x1, .int (0 : Int32)]) ⟨Or.inr rfl, Or.inr rfl, Or.inr rfl, Or.inr rfl, trivial⟩ (bX4_isWord_30_900003 C hr hk _ _ _ _ hf true)
    · rw [if_neg hc] at hf ⊢
      exact mfor (L' := [.retAddr 0, .retAddr 0, .retAddr 0, .retAddr 0]) ⟨Or.inl rfl, Or.inl rfl, Or.inl rfl, Or.inl rfl, trivial⟩ (bX4_isWord_26_900003 C hr hk hf true)
  · rw [if_neg hc] at hf ⊢
    exact mfor (L' := [.retAddr 0, .retAddr 0, .retAddr 0, .retAddr 0]) ⟨Or.inl rfl, Or.inl rfl, Or.inl rfl, Or.inl rfl, trivial⟩ (bX4_isWord_26_900003 C hr hk hf true)
theorem qX4_isWord_900003 {b : Bool} {S S' : mT} {r : Int32} (hf : fX4_isWord 900003 S = some (r, S')) : mOk l mX4_isWord 6 [.ref (1), .ref (900003)] b S (some (.int r)) S' :=
  gMet (by decide) (Nat.le_of_ble_eq_true rfl) rfl (Nat.le_of_ble_eq_true rfl) (fun p e s m args below meth c G C hr hk => bX4_isWord_0_900003 C hr hk hf true)
theorem bX4_isWord_26_900004 (C : mCx p (mR 6) s m args meth c G cX4_isWord RX4 4 false 233 54500 233 54500) (hr : meth.sig.returnType = (some .boolean)) (hk : meth.locks = false) {b : Bool} {S' : mT} {r : Int32} {S : mT} (hf : fX4_isWord_26 900004 S = some (r, S')) (ok : Bool) : mW p l e (mR 6) s m args below meth c G 4 233 54500 (mQ below G args s b S' (some (.int r))) (ok, 26, [.retAddr 0, .retAddr 0, .retAddr 0, .retAddr 0], [], mk b S) := by
  unfold fX4_isWord_26 at hf
  refine msegT C kX4_isWord 14 1 (g := (true, 27, [.retAddr 0, .retAddr 0, .retAddr 0, .retAddr 0], [.int (0 : Int32)], mk b S)) rfl rfl ?_
  cases hf
  exact gret_z C hr hk (by decide) (kX4_isWord _ (List.mem_of_getElem? (i := 15) rfl)).1
theorem bX4_isWord_30_900004 (C : mCx p (mR 6) s m args meth c G cX4_isWord RX4 4 false 233 54500 233 54500) (hr : meth.sig.returnType = (some .boolean)) (hk : meth.locks = false) {b : Bool} {S' : mT} {r : Int32} : ∀ (k : Nat) (v2 : Int32) (v3 : Int32) (S : mT), fX4_isWord_30 900004 k v2 v3 S = some (r, S') → ∀ ok : Bool, mW p l e (mR 6) s m args below meth c G 4 233 54500 (mQ below G args s b S' (some (.int r))) (ok, 30, [.ref (1), .ref (900004), .int v2, .int v3], [], mk b S) := by
  intro k
  induction k with
  | zero =>
    intro v2 v3 S hf ok
    cases hf
  | succ k ih =>
    intro v2 v3 S hf ok
    unfold fX4_isWord_30 at hf
    refine msegT C kX4_isWord 18 3 (g := (true, (if v2 ≤ v3 then 62 else 35), [.ref (1), .ref (900004), .int v2, .int v3], [], mk b S)) rfl rfl ?_
    by_cases hc : v2 ≤ v3
    · rw [if_pos hc] at hf ⊢
      refine msegT C kX4_isWord 36 1 (g := (true, 63, [.ref (1), .ref (900004), .int v2, .int v3], [.int (1 : Int32)], mk b S)) rfl rfl ?_
      cases hf
      exact gret_z C hr hk (by decide) (kX4_isWord _ (List.mem_of_getElem? (i := 37) rfl)).1
    · rw [if_neg hc] at hf ⊢
      obtain ⟨hok, hf⟩ := grd_ex hf
      refine msegT C kX4_isWord 21 9 (g := ((kB 2 ((S.1 1 5) + v3) && (kO 1 4 && (kO 1 4 && true))), 48, [.ref (1), .ref (900004), .int v2, .int v3], [.int v3, .ref (900004), .int (S.1 2 (mIx ((S.1 1 5) + v3)))], mk b S)) rfl hok ?_
      obtain ⟨hok, hf⟩ := grd_ex hf
      obtain ⟨x2, ex2, hf⟩ := bnd_ex hf
      refine so_schr (j := 4) (ok' := true) C (kX4_isWord _ (List.mem_of_getElem? (i := 30) rfl)).1 (Nat.le_of_ble_eq_true rfl) (Nat.le_of_ble_eq_true rfl) (Nat.le_refl _) (Nat.le_refl _) (Nat.le_of_ble_eq_true rfl) (Nat.le_of_ble_eq_true rfl) hok ?_
      rw [← ex2]
      refine msegT C kX4_isWord 31 1 (g := (true, (if (S.1 2 (mIx ((S.1 1 5) + v3))) = x2 then 56 else 54), [.ref (1), .ref (900004), .int v2, .int v3], [], mk b S)) rfl rfl ?_
      by_cases hc : (S.1 2 (mIx ((S.1 1 5) + v3))) = x2
      · rw [if_pos hc] at hf ⊢
        refine msegT C kX4_isWord 34 1 (g := (true, 59, [.ref (1), .ref (900004), .int v2, .int (v3 + (1 : Int32))], [], mk b S)) rfl rfl ?_
        obtain ⟨x3, ex3, hf⟩ := bnd_ex hf
        rw [← ex3]
        refine msegT C kX4_isWord 35 1 (g := (true, 30, [.ref (1), .ref (900004), .int v2, .int x3], [], mk b S)) rfl rfl ?_
        exact mfor (L' := [.ref (1), .ref (900004), .int v2, .int x3]) ⟨Or.inr rfl, Or.inr rfl, Or.inr rfl, Or.inr rfl, trivial⟩ (ih _ _ _ hf true)
      · rw [if_neg hc] at hf ⊢
        refine msegT C kX4_isWord 32 1 (g := (true, 55, [.ref (1), .ref (900004), .int v2, .int v3], [.int (0 : Int32)], mk b S)) rfl rfl ?_
        cases hf
        exact gret_z C hr hk (by decide) (kX4_isWord _ (List.mem_of_getElem? (i := 33) rfl)).1
theorem bX4_isWord_0_900004 (C : mCx p (mR 6) s m args meth c G cX4_isWord RX4 4 false 233 54500 233 54500) (hr : meth.sig.returnType = (some .boolean)) (hk : meth.locks = false) {b : Bool} {S' : mT} {r : Int32} {S : mT} (hf : fX4_isWord 900004 S = some (r, S')) (ok : Bool) : mW p l e (mR 6) s m args below meth c G 4 233 54500 (mQ below G args s b S' (some (.int r))) (ok, 0, [.ref (1), .ref (900004), .retAddr 0, .retAddr 0], [], mk b S) := by
  unfold fX4_isWord at hf
  refine msegT C kX4_isWord 0 1 (g := (true, 1, [.ref (1), .ref (900004), .retAddr 0, .retAddr 0], [.ref (900004)], mk b S)) rfl rfl ?_
  obtain ⟨x1, ex1, hf⟩ := bnd_ex hf
  refine so_slen (j := 4) (ok' := true) C (kX4_isWord _ (List.mem_of_getElem? (i := 1) rfl)).1 (Nat.le_of_ble_eq_true rfl) (Nat.le_of_ble_eq_true rfl) (Nat.le_refl _) (Nat.le_refl _) (Nat.le_of_ble_eq_true rfl) (Nat.le_of_ble_eq_true rfl) ?_
  rw [← ex1]
  obtain ⟨hok, hf⟩ := grd_ex hf
  refine msegT C kX4_isWord 2 5 (g := ((kO 1 4 && true), (if (S.1 1 4) = (1 : Int32) then 13 else 26), [.ref (1), .ref (900004), .int x1, .retAddr 0], [], mk b S)) rfl hok ?_
  by_cases hc : (S.1 1 4) = (1 : Int32)
  · rw [if_pos hc] at hf ⊢
    obtain ⟨hok, hf⟩ := grd_ex hf
    refine msegT C kX4_isWord 7 7 (g := ((kO 1 4 && (kO 1 4 && true)), (if ((S.1 1 6) - (S.1 1 5)) = x1 then 28 else 26), [.ref (1), .ref (900004), .int x1, .retAddr 0], [], mk b S)) rfl hok ?_
    by_cases hc : ((S.1 1 6) - (S.1 1 5)) = x1
    · rw [if_pos hc] at hf ⊢
      refine msegT C kX4_isWord 16 2 (g := (true, 30, [.ref (1), .ref (900004), .int x1, .int (0 : Int32)], [], mk b S)) rfl rfl ?_
      exact mfor (L' := [.ref (1), .ref (900004), .int x1, .int (0 : Int32)]) ⟨Or.inr rfl, Or.inr rfl, Or.inr rfl, Or.inr rfl, trivial⟩ (bX4_isWord_30_900004 C hr hk _ _ _ _ hf true)
    · rw [if_neg hc] at hf ⊢
      exact mfor (L' := [.retAddr 0, .retAddr 0, .retAddr 0, .retAddr 0]) ⟨Or.inl rfl, Or.inl rfl, Or.inl rfl, Or.inl rfl, trivial⟩ (bX4_isWord_26_900004 C hr hk hf true)
  · rw [if_neg hc] at hf ⊢
    exact mfor (L' := [.retAddr 0, .retAddr 0, .retAddr 0, .retAddr 0]) ⟨Or.inl rfl, Or.inl rfl, Or.inl rfl, Or.inl rfl, trivial⟩ (bX4_isWord_26_900004 C hr hk hf true)
theorem qX4_isWord_900004 {b : Bool} {S S' : mT} {r : Int32} (hf : fX4_isWord 900004 S = some (r, S')) : mOk l mX4_isWord 6 [.ref (1), .ref (900004)] b S (some (.int r)) S' :=
  gMet (by decide) (Nat.le_of_ble_eq_true rfl) rfl (Nat.le_of_ble_eq_true rfl) (fun p e s m args below meth c G C hr hk => bX4_isWord_0_900004 C hr hk hf true)
theorem bX4_isWord_26_900009 (C : mCx p (mR 6) s m args meth c G cX4_isWord RX4 4 false 233 54500 233 54500) (hr : meth.sig.returnType = (some .boolean)) (hk : meth.locks = false) {b : Bool} {S' : mT} {r : Int32} {S : mT} (hf : fX4_isWord_26 900009 S = some (r, S')) (ok : Bool) : mW p l e (mR 6) s m args below meth c G 4 233 54500 (mQ below G args s b S' (some (.int r))) (ok, 26, [.retAddr 0, .retAddr 0, .retAddr 0, .retAddr 0], [], mk b S) := by
  unfold fX4_isWord_26 at hf
  refine msegT C kX4_isWord 14 1 (g := (true, 27, [.retAddr 0, .retAddr 0, .retAddr 0, .retAddr 0], [.int (0 : Int32)], mk b S)) rfl rfl ?_
  cases hf
  exact gret_z C hr hk (by decide) (kX4_isWord _ (List.mem_of_getElem? (i := 15) rfl)).1
theorem bX4_isWord_30_900009 (C : mCx p (mR 6) s m args meth c G cX4_isWord RX4 4 false 233 54500 233 54500) (hr : meth.sig.returnType = (some .boolean)) (hk : meth.locks = false) {b : Bool} {S' : mT} {r : Int32} : ∀ (k : Nat) (v2 : Int32) (v3 : Int32) (S : mT), fX4_isWord_30 900009 k v2 v3 S = some (r, S') → ∀ ok : Bool, mW p l e (mR 6) s m args below meth c G 4 233 54500 (mQ below G args s b S' (some (.int r))) (ok, 30, [.ref (1), .ref (900009), .int v2, .int v3], [], mk b S) := by
  intro k
  induction k with
  | zero =>
    intro v2 v3 S hf ok
    cases hf
  | succ k ih =>
    intro v2 v3 S hf ok
    unfold fX4_isWord_30 at hf
    refine msegT C kX4_isWord 18 3 (g := (true, (if v2 ≤ v3 then 62 else 35), [.ref (1), .ref (900009), .int v2, .int v3], [], mk b S)) rfl rfl ?_
    by_cases hc : v2 ≤ v3
    · rw [if_pos hc] at hf ⊢
      refine msegT C kX4_isWord 36 1 (g := (true, 63, [.ref (1), .ref (900009), .int v2, .int v3], [.int (1 : Int32)], mk b S)) rfl rfl ?_
      cases hf
      exact gret_z C hr hk (by decide) (kX4_isWord _ (List.mem_of_getElem? (i := 37) rfl)).1
    · rw [if_neg hc] at hf ⊢
      obtain ⟨hok, hf⟩ := grd_ex hf
      refine msegT C kX4_isWord 21 9 (g := ((kB 2 ((S.1 1 5) + v3) && (kO 1 4 && (kO 1 4 && true))), 48, [.ref (1), .ref (900009), .int v2, .int v3], [.int v3, .ref (900009), .int (S.1 2 (mIx ((S.1 1 5) + v3)))], mk b S)) rfl hok ?_
      obtain ⟨hok, hf⟩ := grd_ex hf
      obtain ⟨x2, ex2, hf⟩ := bnd_ex hf
      refine so_schr (j := 9) (ok' := true) C (kX4_isWord _ (List.mem_of_getElem? (i := 30) rfl)).1 (Nat.le_of_ble_eq_true rfl) (Nat.le_of_ble_eq_true rfl) (Nat.le_refl _) (Nat.le_refl _) (Nat.le_of_ble_eq_true rfl) (Nat.le_of_ble_eq_true rfl) hok ?_
      rw [← ex2]
      refine msegT C kX4_isWord 31 1 (g := (true, (if (S.1 2 (mIx ((S.1 1 5) + v3))) = x2 then 56 else 54), [.ref (1), .ref (900009), .int v2, .int v3], [], mk b S)) rfl rfl ?_
      by_cases hc : (S.1 2 (mIx ((S.1 1 5) + v3))) = x2
      · rw [if_pos hc] at hf ⊢
        refine msegT C kX4_isWord 34 1 (g := (true, 59, [.ref (1), .ref (900009), .int v2, .int (v3 + (1 : Int32))], [], mk b S)) rfl rfl ?_
        obtain ⟨x3, ex3, hf⟩ := bnd_ex hf
        rw [← ex3]
        refine msegT C kX4_isWord 35 1 (g := (true, 30, [.ref (1), .ref (900009), .int v2, .int x3], [], mk b S)) rfl rfl ?_
        exact mfor (L' := [.ref (1), .ref (900009), .int v2, .int x3]) ⟨Or.inr rfl, Or.inr rfl, Or.inr rfl, Or.inr rfl, trivial⟩ (ih _ _ _ hf true)
      · rw [if_neg hc] at hf ⊢
        refine msegT C kX4_isWord 32 1 (g := (true, 55, [.ref (1), .ref (900009), .int v2, .int v3], [.int (0 : Int32)], mk b S)) rfl rfl ?_
        cases hf
        exact gret_z C hr hk (by decide) (kX4_isWord _ (List.mem_of_getElem? (i := 33) rfl)).1
theorem bX4_isWord_0_900009 (C : mCx p (mR 6) s m args meth c G cX4_isWord RX4 4 false 233 54500 233 54500) (hr : meth.sig.returnType = (some .boolean)) (hk : meth.locks = false) {b : Bool} {S' : mT} {r : Int32} {S : mT} (hf : fX4_isWord 900009 S = some (r, S')) (ok : Bool) : mW p l e (mR 6) s m args below meth c G 4 233 54500 (mQ below G args s b S' (some (.int r))) (ok, 0, [.ref (1), .ref (900009), .retAddr 0, .retAddr 0], [], mk b S) := by
  unfold fX4_isWord at hf
  refine msegT C kX4_isWord 0 1 (g := (true, 1, [.ref (1), .ref (900009), .retAddr 0, .retAddr 0], [.ref (900009)], mk b S)) rfl rfl ?_
  obtain ⟨x1, ex1, hf⟩ := bnd_ex hf
  refine so_slen (j := 9) (ok' := true) C (kX4_isWord _ (List.mem_of_getElem? (i := 1) rfl)).1 (Nat.le_of_ble_eq_true rfl) (Nat.le_of_ble_eq_true rfl) (Nat.le_refl _) (Nat.le_refl _) (Nat.le_of_ble_eq_true rfl) (Nat.le_of_ble_eq_true rfl) ?_
  rw [← ex1]
  obtain ⟨hok, hf⟩ := grd_ex hf
  refine msegT C kX4_isWord 2 5 (g := ((kO 1 4 && true), (if (S.1 1 4) = (1 : Int32) then 13 else 26), [.ref (1), .ref (900009), .int x1, .retAddr 0], [], mk b S)) rfl hok ?_
  by_cases hc : (S.1 1 4) = (1 : Int32)
  · rw [if_pos hc] at hf ⊢
    obtain ⟨hok, hf⟩ := grd_ex hf
    refine msegT C kX4_isWord 7 7 (g := ((kO 1 4 && (kO 1 4 && true)), (if ((S.1 1 6) - (S.1 1 5)) = x1 then 28 else 26), [.ref (1), .ref (900009), .int x1, .retAddr 0], [], mk b S)) rfl hok ?_
    by_cases hc : ((S.1 1 6) - (S.1 1 5)) = x1
    · rw [if_pos hc] at hf ⊢
      refine msegT C kX4_isWord 16 2 (g := (true, 30, [.ref (1), .ref (900009), .int x1, .int (0 : Int32)], [], mk b S)) rfl rfl ?_
      exact mfor (L' := [.ref (1), .ref (900009), .int x1, .int (0 : Int32)]) ⟨Or.inr rfl, Or.inr rfl, Or.inr rfl, Or.inr rfl, trivial⟩ (bX4_isWord_30_900009 C hr hk _ _ _ _ hf true)
    · rw [if_neg hc] at hf ⊢
      exact mfor (L' := [.retAddr 0, .retAddr 0, .retAddr 0, .retAddr 0]) ⟨Or.inl rfl, Or.inl rfl, Or.inl rfl, Or.inl rfl, trivial⟩ (bX4_isWord_26_900009 C hr hk hf true)
  · rw [if_neg hc] at hf ⊢
    exact mfor (L' := [.retAddr 0, .retAddr 0, .retAddr 0, .retAddr 0]) ⟨Or.inl rfl, Or.inl rfl, Or.inl rfl, Or.inl rfl, trivial⟩ (bX4_isWord_26_900009 C hr hk hf true)
theorem qX4_isWord_900009 {b : Bool} {S S' : mT} {r : Int32} (hf : fX4_isWord 900009 S = some (r, S')) : mOk l mX4_isWord 6 [.ref (1), .ref (900009)] b S (some (.int r)) S' :=
  gMet (by decide) (Nat.le_of_ble_eq_true rfl) rfl (Nat.le_of_ble_eq_true rfl) (fun p e s m args below meth c G C hr hk => bX4_isWord_0_900009 C hr hk hf true)
theorem bX4_isWord_26_900001 (C : mCx p (mR 6) s m args meth c G cX4_isWord RX4 4 false 233 54500 233 54500) (hr : meth.sig.returnType = (some .boolean)) (hk : meth.locks = false) {b : Bool} {S' : mT} {r : Int32} {S : mT} (hf : fX4_isWord_26 900001 S = some (r, S')) (ok : Bool) : mW p l e (mR 6) s m args below meth c G 4 233 54500 (mQ below G args s b S' (some (.int r))) (ok, 26, [.retAddr 0, .retAddr 0, .retAddr 0, .retAddr 0], [], mk b S) := by
  unfold fX4_isWord_26 at hf
  refine msegT C kX4_isWord 14 1 (g := (true, 27, [.retAddr 0, .retAddr 0, .retAddr 0, .retAddr 0], [.int (0 : Int32)], mk b S)) rfl rfl ?_
  cases hf
  exact gret_z C hr hk (by decide) (kX4_isWord _ (List.mem_of_getElem? (i := 15) rfl)).1
theorem bX4_isWord_30_900001 (C : mCx p (mR 6) s m args meth c G cX4_isWord RX4 4 false 233 54500 233 54500) (hr : meth.sig.returnType = (some .boolean)) (hk : meth.locks = false) {b : Bool} {S' : mT} {r : Int32} : ∀ (k : Nat) (v2 : Int32) (v3 : Int32) (S : mT), fX4_isWord_30 900001 k v2 v3 S = some (r, S') → ∀ ok : Bool, mW p l e (mR 6) s m args below meth c G 4 233 54500 (mQ below G args s b S' (some (.int r))) (ok, 30, [.ref (1), .ref (900001), .int v2, .int v3], [], mk b S) := by
  intro k
  induction k with
  | zero =>
    intro v2 v3 S hf ok
    cases hf
  | succ k ih =>
    intro v2 v3 S hf ok
    unfold fX4_isWord_30 at hf
    refine msegT C kX4_isWord 18 3 (g := (true, (if v2 ≤ v3 then 62 else 35), [.ref (1), .ref (900001), .int v2, .int v3], [], mk b S)) rfl rfl ?_
    by_cases hc : v2 ≤ v3
    · rw [if_pos hc] at hf ⊢
      refine msegT C kX4_isWord 36 1 (g := (true, 63, [.ref (1), .ref (900001), .int v2, .int v3], [.int (1 : Int32)], mk b S)) rfl rfl ?_
      cases hf
      exact gret_z C hr hk (by decide) (kX4_isWord _ (List.mem_of_getElem? (i := 37) rfl)).1
    · rw [if_neg hc] at hf ⊢
      obtain ⟨hok, hf⟩ := grd_ex hf
      refine msegT C kX4_isWord 21 9 (g := ((kB 2 ((S.1 1 5) + v3) && (kO 1 4 && (kO 1 4 && true))), 48, [.ref (1), .ref (900001), .int v2, .int v3], [.int v3, .ref (900001), .int (S.1 2 (mIx ((S.1 1 5) + v3)))], mk b S)) rfl hok ?_
      obtain ⟨hok, hf⟩ := grd_ex hf
      obtain ⟨x2, ex2, hf⟩ := bnd_ex hf
      refine so_schr (j := 1) (ok' := true) C (kX4_isWord _ (List.mem_of_getElem? (i := 30) rfl)).1 (Nat.le_of_ble_eq_true rfl) (Nat.le_of_ble_eq_true rfl) (Nat.le_refl _) (Nat.le_refl _) (Nat.le_of_ble_eq_true rfl) (Nat.le_of_ble_eq_true rfl) hok ?_
      rw [← ex2]
      refine msegT C kX4_isWord 31 1 (g := (true, (if (S.1 2 (mIx ((S.1 1 5) + v3))) = x2 then 56 else 54), [.ref (1), .ref (900001), .int v2, .int v3], [], mk b S)) rfl rfl ?_
      by_cases hc : (S.1 2 (mIx ((S.1 1 5) + v3))) = x2
      · rw [if_pos hc] at hf ⊢
        refine msegT C kX4_isWord 34 1 (g := (true, 59, [.ref (1), .ref (900001), .int v2, .int (v3 + (1 : Int32))], [], mk b S)) rfl rfl ?_
        obtain ⟨x3, ex3, hf⟩ := bnd_ex hf
        rw [← ex3]
        refine msegT C kX4_isWord 35 1 (g := (true, 30, [.ref (1), .ref (900001), .int v2, .int x3], [], mk b S)) rfl rfl ?_
        exact mfor (L' := [.ref (1), .ref (900001), .int v2, .int x3]) ⟨Or.inr rfl, Or.inr rfl, Or.inr rfl, Or.inr rfl, trivial⟩ (ih _ _ _ hf true)
      · rw [if_neg hc] at hf ⊢
        refine msegT C kX4_isWord 32 1 (g := (true, 55, [.ref (1), .ref (900001), .int v2, .int v3], [.int (0 : Int32)], mk b S)) rfl rfl ?_
        cases hf
        exact gret_z C hr hk (by decide) (kX4_isWord _ (List.mem_of_getElem? (i := 33) rfl)).1
theorem bX4_isWord_0_900001 (C : mCx p (mR 6) s m args meth c G cX4_isWord RX4 4 false 233 54500 233 54500) (hr : meth.sig.returnType = (some .boolean)) (hk : meth.locks = false) {b : Bool} {S' : mT} {r : Int32} {S : mT} (hf : fX4_isWord 900001 S = some (r, S')) (ok : Bool) : mW p l e (mR 6) s m args below meth c G 4 233 54500 (mQ below G args s b S' (some (.int r))) (ok, 0, [.ref (1), .ref (900001), .retAddr 0, .retAddr 0], [], mk b S) := by
  unfold fX4_isWord at hf
  refine msegT C kX4_isWord 0 1 (g := (true, 1, [.ref (1), .ref (900001), .retAddr 0, .retAddr 0], [.ref (900001)], mk b S)) rfl rfl ?_
  obtain ⟨x1, ex1, hf⟩ := bnd_ex hf
  refine so_slen (j := 1) (ok' := true) C (kX4_isWord _ (List.mem_of_getElem? (i := 1) rfl)).1 (Nat.le_of_ble_eq_true rfl) (Nat.le_of_ble_eq_true rfl) (Nat.le_refl _) (Nat.le_refl _) (Nat.le_of_ble_eq_true rfl) (Nat.le_of_ble_eq_true rfl) ?_
  rw [← ex1]
  obtain ⟨hok, hf⟩ := grd_ex hf
  refine msegT C kX4_isWord 2 5 (g := ((kO 1 4 && true), (if (S.1 1 4) = (1 : Int32) then 13 else 26), [.ref (1), .ref (900001), .int x1, .retAddr 0], [], mk b S)) rfl hok ?_
  by_cases hc : (S.1 1 4) = (1 : Int32)
  · rw [if_pos hc] at hf ⊢
    obtain ⟨hok, hf⟩ := grd_ex hf
    refine msegT C kX4_isWord 7 7 (g := ((kO 1 4 && (kO 1 4 && true)), (if ((S.1 1 6) - (S.1 1 5)) = x1 then 28 else 26), [.ref (1), .ref (900001), .int x1, .retAddr 0], [], mk b S)) rfl hok ?_
    by_cases hc : ((S.1 1 6) - (S.1 1 5)) = x1
    · rw [if_pos hc] at hf ⊢
      refine msegT C kX4_isWord 16 2 (g := (true, 30, [.ref (1), .ref (900001), .int x1, .int (0 : Int32)], [], mk b S)) rfl rfl ?_
      exact mfor (L' := [.ref (1), .ref (900001), .int x1, .int (0 : Int32)]) ⟨Or.inr rfl, Or.inr rfl, Or.inr rfl, Or.inr rfl, trivial⟩ (bX4_isWord_30_900001 C hr hk _ _ _ _ hf true)
    · rw [if_neg hc] at hf ⊢
      exact mfor (L' := [.retAddr 0, .retAddr 0, .retAddr 0, .retAddr 0]) ⟨Or.inl rfl, Or.inl rfl, Or.inl rfl, Or.inl rfl, trivial⟩ (bX4_isWord_26_900001 C hr hk hf true)
  · rw [if_neg hc] at hf ⊢
    exact mfor (L' := [.retAddr 0, .retAddr 0, .retAddr 0, .retAddr 0]) ⟨Or.inl rfl, Or.inl rfl, Or.inl rfl, Or.inl rfl, trivial⟩ (bX4_isWord_26_900001 C hr hk hf true)
theorem qX4_isWord_900001 {b : Bool} {S S' : mT} {r : Int32} (hf : fX4_isWord 900001 S = some (r, S')) : mOk l mX4_isWord 6 [.ref (1), .ref (900001)] b S (some (.int r)) S' :=
  gMet (by decide) (Nat.le_of_ble_eq_true rfl) rfl (Nat.le_of_ble_eq_true rfl) (fun p e s m args below meth c G C hr hk => bX4_isWord_0_900001 C hr hk hf true)
theorem bX4_isWord_26_900002 (C : mCx p (mR 6) s m args meth c G cX4_isWord RX4 4 false 233 54500 233 54500) (hr : meth.sig.returnType = (some .boolean)) (hk : meth.locks = false) {b : Bool} {S' : mT} {r : Int32} {S : mT} (hf : fX4_isWord_26 900002 S = some (r, S')) (ok : Bool) : mW p l e (mR 6) s m args below meth c G 4 233 54500 (mQ below G args s b S' (some (.int r))) (ok, 26, [.retAddr 0, .retAddr 0, .retAddr 0, .retAddr 0], [], mk b S) := by
  unfold fX4_isWord_26 at hf
  refine msegT C kX4_isWord 14 1 (g := (true, 27, [.retAddr 0, .retAddr 0, .retAddr 0, .retAddr 0], [.int (0 : Int32)], mk b S)) rfl rfl ?_
  cases hf
  exact gret_z C hr hk (by decide) (kX4_isWord _ (List.mem_of_getElem? (i := 15) rfl)).1
theorem bX4_isWord_30_900002 (C : mCx p (mR 6) s m args meth c G cX4_isWord RX4 4 false 233 54500 233 54500) (hr : meth.sig.returnType = (some .boolean)) (hk : meth.locks = false) {b : Bool} {S' : mT} {r : Int32} : ∀ (k : Nat) (v2 : Int32) (v3 : Int32) (S : mT), fX4_isWord_30 900002 k v2 v3 S = some (r, S') → ∀ ok : Bool, mW p l e (mR 6) s m args below meth c G 4 233 54500 (mQ below G args s b S' (some (.int r))) (ok, 30, [.ref (1), .ref (900002), .int v2, .int v3], [], mk b S) := by
  intro k
  induction k with
  | zero =>
    intro v2 v3 S hf ok
    cases hf
  | succ k ih =>
    intro v2 v3 S hf ok
    unfold fX4_isWord_30 at hf
    refine msegT C kX4_isWord 18 3 (g := (true, (if v2 ≤ v3 then 62 else 35), [.ref (1), .ref (900002), .int v2, .int v3], [], mk b S)) rfl rfl ?_
    by_cases hc : v2 ≤ v3
    · rw [if_pos hc] at hf ⊢
      refine msegT C kX4_isWord 36 1 (g := (true, 63, [.ref (1), .ref (900002), .int v2, .int v3], [.int (1 : Int32)], mk b S)) rfl rfl ?_
      cases hf
      exact gret_z C hr hk (by decide) (kX4_isWord _ (List.mem_of_getElem? (i := 37) rfl)).1
    · rw [if_neg hc] at hf ⊢
      obtain ⟨hok, hf⟩ := grd_ex hf
      refine msegT C kX4_isWord 21 9 (g := ((kB 2 ((S.1 1 5) + v3) && (kO 1 4 && (kO 1 4 && true))), 48, [.ref (1), .ref (900002), .int v2, .int v3], [.int v3, .ref (900002), .int (S.1 2 (mIx ((S.1 1 5) + v3)))], mk b S)) rfl hok ?_
      obtain ⟨hok, hf⟩ := grd_ex hf
      obtain ⟨x2, ex2, hf⟩ := bnd_ex hf
      refine so_schr (j := 2) (ok' := true) C (kX4_isWord _ (List.mem_of_getElem? (i := 30) rfl)).1 (Nat.le_of_ble_eq_true rfl) (Nat.le_of_ble_eq_true rfl) (Nat.le_refl _) (Nat.le_refl _) (Nat.le_of_ble_eq_true rfl) (Nat.le_of_ble_eq_true rfl) hok ?_
      rw [← ex2]
      refine msegT C kX4_isWord 31 1 (g := (true, (if (S.1 2 (mIx ((S.1 1 5) + v3))) = x2 then 56 else 54), [.ref (1), .ref (900002), .int v2, .int v3], [], mk b S)) rfl rfl ?_
      by_cases hc : (S.1 2 (mIx ((S.1 1 5) + v3))) = x2
      · rw [if_pos hc] at hf ⊢
        refine msegT C kX4_isWord 34 1 (g := (true, 59, [.ref (1), .ref (900002), .int v2, .int (v3 + (1 : Int32))], [], mk b S)) rfl rfl ?_
        obtain ⟨x3, ex3, hf⟩ := bnd_ex hf
        rw [← ex3]
        refine msegT C kX4_isWord 35 1 (g := (true, 30, [.ref (1), .ref (900002), .int v2, .int x3], [], mk b S)) rfl rfl ?_
        exact mfor (L' := [.ref (1), .ref (900002), .int v2, .int x3]) ⟨Or.inr rfl, Or.inr rfl, Or.inr rfl, Or.inr rfl, trivial⟩ (ih _ _ _ hf true)
      · rw [if_neg hc] at hf ⊢
        refine msegT C kX4_isWord 32 1 (g := (true, 55, [.ref (1), .ref (900002), .int v2, .int v3], [.int (0 : Int32)], mk b S)) rfl rfl ?_
        cases hf
        exact gret_z C hr hk (by decide) (kX4_isWord _ (List.mem_of_getElem? (i := 33) rfl)).1
theorem bX4_isWord_0_900002 (C : mCx p (mR 6) s m args meth c G cX4_isWord RX4 4 false 233 54500 233 54500) (hr : meth.sig.returnType = (some .boolean)) (hk : meth.locks = false) {b : Bool} {S' : mT} {r : Int32} {S : mT} (hf : fX4_isWord 900002 S = some (r, S')) (ok : Bool) : mW p l e (mR 6) s m args below meth c G 4 233 54500 (mQ below G args s b S' (some (.int r))) (ok, 0, [.ref (1), .ref (900002), .retAddr 0, .retAddr 0], [], mk b S) := by
  unfold fX4_isWord at hf
  refine msegT C kX4_isWord 0 1 (g := (true, 1, [.ref (1), .ref (900002), .retAddr 0, .retAddr 0], [.ref (900002)], mk b S)) rfl rfl ?_
  obtain ⟨x1, ex1, hf⟩ := bnd_ex hf
  refine so_slen (j := 2) (ok' := true) C (kX4_isWord _ (List.mem_of_getElem? (i := 1) rfl)).1 (Nat.le_of_ble_eq_true rfl) (Nat.le_of_ble_eq_true rfl) (Nat.le_refl _) (Nat.le_refl _) (Nat.le_of_ble_eq_true rfl) (Nat.le_of_ble_eq_true rfl) ?_
  rw [← ex1]
  obtain ⟨hok, hf⟩ := grd_ex hf
  refine msegT C kX4_isWord 2 5 (g := ((kO 1 4 && true), (if (S.1 1 4) = (1 : Int32) then 13 else 26), [.ref (1), .ref (900002), .int x1, .retAddr 0], [], mk b S)) rfl hok ?_
  by_cases hc : (S.1 1 4) = (1 : Int32)
  · rw [if_pos hc] at hf ⊢
    obtain ⟨hok, hf⟩ := grd_ex hf
    refine msegT C kX4_isWord 7 7 (g := ((kO 1 4 && (kO 1 4 && true)), (if ((S.1 1 6) - (S.1 1 5)) = x1 then 28 else 26), [.ref (1), .ref (900002), .int x1, .retAddr 0], [], mk b S)) rfl hok ?_
    by_cases hc : ((S.1 1 6) - (S.1 1 5)) = x1
    · rw [if_pos hc] at hf ⊢
      refine msegT C kX4_isWord 16 2 (g := (true, 30, [.ref (1), .ref (900002), .int x1, .int (0 : Int32)], [], mk b S)) rfl rfl ?_
      exact mfor (L' := [.ref (1), .ref (900002), .int x1, .int (0 : Int32)]) ⟨Or.inr rfl, Or.inr rfl, Or.inr rfl, Or.inr rfl, trivial⟩ (bX4_isWord_30_900002 C hr hk _ _ _ _ hf true)
    · rw [if_neg hc] at hf ⊢
      exact mfor (L' := [.retAddr 0, .retAddr 0, .retAddr 0, .retAddr 0]) ⟨Or.inl rfl, Or.inl rfl, Or.inl rfl, Or.inl rfl, trivial⟩ (bX4_isWord_26_900002 C hr hk hf true)
  · rw [if_neg hc] at hf ⊢
    exact mfor (L' := [.retAddr 0, .retAddr 0, .retAddr 0, .retAddr 0]) ⟨Or.inl rfl, Or.inl rfl, Or.inl rfl, Or.inl rfl, trivial⟩ (bX4_isWord_26_900002 C hr hk hf true)
theorem qX4_isWord_900002 {b : Bool} {S S' : mT} {r : Int32} (hf : fX4_isWord 900002 S = some (r, S')) : mOk l mX4_isWord 6 [.ref (1), .ref (900002)] b S (some (.int r)) S' :=
  gMet (by decide) (Nat.le_of_ble_eq_true rfl) rfl (Nat.le_of_ble_eq_true rfl) (fun p e s m args below meth c G C hr hk => bX4_isWord_0_900002 C hr hk hf true)
theorem bX4_isWord_26_900010 (C : mCx p (mR 6) s m args meth c G cX4_isWord RX4 4 false 233 54500 233 54500) (hr : meth.sig.returnType = (some .boolean)) (hk : meth.locks = false) {b : Bool} {S' : mT} {r : Int32} {S : mT} (hf : fX4_isWord_26 900010 S = some (r, S')) (ok : Bool) : mW p l e (mR 6) s m args below meth c G 4 233 54500 (mQ below G args s b S' (some (.int r))) (ok, 26, [.retAddr 0, .retAddr 0, .retAddr 0, .retAddr 0], [], mk b S) := by
  unfold fX4_isWord_26 at hf
  refine msegT C kX4_isWord 14 1 (g := (true, 27, [.retAddr 0, .retAddr 0, .retAddr 0, .retAddr 0], [.int (0 : Int32)], mk b S)) rfl rfl ?_
  cases hf
  exact gret_z C hr hk (by decide) (kX4_isWord _ (List.mem_of_getElem? (i := 15) rfl)).1
theorem bX4_isWord_30_900010 (C : mCx p (mR 6) s m args meth c G cX4_isWord RX4 4 false 233 54500 233 54500) (hr : meth.sig.returnType = (some .boolean)) (hk : meth.locks = false) {b : Bool} {S' : mT} {r : Int32} : ∀ (k : Nat) (v2 : Int32) (v3 : Int32) (S : mT), fX4_isWord_30 900010 k v2 v3 S = some (r, S') → ∀ ok : Bool, mW p l e (mR 6) s m args below meth c G 4 233 54500 (mQ below G args s b S' (some (.int r))) (ok, 30, [.ref (1), .ref (900010), .int v2, .int v3], [], mk b S) := by
  intro k
  induction k with
  | zero =>
    intro v2 v3 S hf ok
    cases hf
  | succ k ih =>
    intro v2 v3 S hf ok
    unfold fX4_isWord_30 at hf
    refine msegT C kX4_isWord 18 3 (g := (true, (if v2 ≤ v3 then 62 else 35), [.ref (1), .ref (900010), .int v2, .int v3], [], mk b S)) rfl rfl ?_
    by_cases hc : v2 ≤ v3
    · rw [if_pos hc] at hf ⊢
      refine msegT C kX4_isWord 36 1 (g := (true, 63, [.ref (1), .ref (900010), .int v2, .int v3], [.int (1 : Int32)], mk b S)) rfl rfl ?_
      cases hf
      exact gret_z C hr hk (by decide) (kX4_isWord _ (List.mem_of_getElem? (i := 37) rfl)).1
    · rw [if_neg hc] at hf ⊢
      obtain ⟨hok, hf⟩ := grd_ex hf
      refine msegT C kX4_isWord 21 9 (g := ((kB 2 ((S.1 1 5) + v3) && (kO 1 4 && (kO 1 4 && true))), 48, [.ref (1), .ref (900010), .int v2, .int v3], [.int v3, .ref (900010), .int (S.1 2 (mIx ((S.1 1 5) + v3)))], mk b S)) rfl hok ?_
      obtain ⟨hok, hf⟩ := grd_ex hf
      obtain ⟨x2, ex2, hf⟩ := bnd_ex hf
      refine so_schr (j := 10) (ok' := true) C (kX4_isWord _ (List.mem_of_getElem? (i := 30) rfl)).1 (Nat.le_of_ble_eq_true rfl) (Nat.le_of_ble_eq_true rfl) (Nat.le_refl _) (Nat.le_refl _) (Nat.le_of_ble_eq_true rfl) (Nat.le_of_ble_eq_true rfl) hok ?_
      rw [← ex2]
      refine msegT C kX4_isWord 31 1 (g := (true, (if (S.1 2 (mIx ((S.1 1 5) + v3))) = x2 then 56 else 54), [.ref (1), .ref (900010), .int v2, .int v3], [], mk b S)) rfl rfl ?_
      by_cases hc : (S.1 2 (mIx ((S.1 1 5) + v3))) = x2
      · rw [if_pos hc] at hf ⊢
        refine msegT C kX4_isWord 34 1 (g := (true, 59, [.ref (1), .ref (900010), .int v2, .int (v3 + (1 : Int32))], [], mk b S)) rfl rfl ?_
        obtain ⟨x3, ex3, hf⟩ := bnd_ex hf
        rw [← ex3]
        refine msegT C kX4_isWord 35 1 (g := (true, 30, [.ref (1), .ref (900010), .int v2, .int x3], [], mk b S)) rfl rfl ?_
        exact mfor (L' := [.ref (1), .ref (900010), .int v2, .int x3]) ⟨Or.inr rfl, Or.inr rfl, Or.inr rfl, Or.inr rfl, trivial⟩ (ih _ _ _ hf true)
      · rw [if_neg hc] at hf ⊢
        refine msegT C kX4_isWord 32 1 (g := (true, 55, [.ref (1), .ref (900010), .int v2, .int v3], [.int (0 : Int32)], mk b S)) rfl rfl ?_
        cases hf
        exact gret_z C hr hk (by decide) (kX4_isWord _ (List.mem_of_getElem? (i := 33) rfl)).1
theorem bX4_isWord_0_900010 (C : mCx p (mR 6) s m args meth c G cX4_isWord RX4 4 false 233 54500 233 54500) (hr : meth.sig.returnType = (some .boolean)) (hk : meth.locks = false) {b : Bool} {S' : mT} {r : Int32} {S : mT} (hf : fX4_isWord 900010 S = some (r, S')) (ok : Bool) : mW p l e (mR 6) s m args below meth c G 4 233 54500 (mQ below G args s b S' (some (.int r))) (ok, 0, [.ref (1), .ref (900010), .retAddr 0, .retAddr 0], [], mk b S) := by
  unfold fX4_isWord at hf
  refine msegT C kX4_isWord 0 1 (g := (true, 1, [.ref (1), .ref (900010), .retAddr 0, .retAddr 0], [.ref (900010)], mk b S)) rfl rfl ?_
  obtain ⟨x1, ex1, hf⟩ := bnd_ex hf
  refine so_slen (j := 10) (ok' := true) C (kX4_isWord _ (List.mem_of_getElem? (i := 1) rfl)).1 (Nat.le_of_ble_eq_true rfl) (Nat.le_of_ble_eq_true rfl) (Nat.le_refl _) (Nat.le_refl _) (Nat.le_of_ble_eq_true rfl) (Nat.le_of_ble_eq_true rfl) ?_
  rw [← ex1]
  obtain ⟨hok, hf⟩ := grd_ex hf
  refine msegT C kX4_isWord 2 5 (g := ((kO 1 4 && true), (if (S.1 1 4) = (1 : Int32) then 13 else 26), [.ref (1), .ref (900010), .int x1, .retAddr 0], [], mk b S)) rfl hok ?_
  by_cases hc : (S.1 1 4) = (1 : Int32)
  · rw [if_pos hc] at hf ⊢
    obtain ⟨hok, hf⟩ := grd_ex hf
    refine msegT C kX4_isWord 7 7 (g := ((kO 1 4 && (kO 1 4 && true)), (if ((S.1 1 6) - (S.1 1 5)) = x1 then 28 else 26), [.ref (1), .ref (900010), .int x1, .retAddr 0], [], mk b S)) rfl hok ?_
    by_cases hc : ((S.1 1 6) - (S.1 1 5)) = x1
    · rw [if_pos hc] at hf ⊢
      refine msegT C kX4_isWord 16 2 (g := (true, 30, [.ref (1), .ref (900010), .int x1, .int (0 : Int32)], [], mk b S)) rfl rfl ?_
      exact mfor (L' := [.ref (1), .ref (900010), .int x1, .int (0 : Int32)]) ⟨Or.inr rfl, Or.inr rfl, Or.inr rfl, Or.inr rfl, trivial⟩ (bX4_isWord_30_900010 C hr hk _ _ _ _ hf true)
    · rw [if_neg hc] at hf ⊢
      exact mfor (L' := [.retAddr 0, .retAddr 0, .retAddr 0, .retAddr 0]) ⟨Or.inl rfl, Or.inl rfl, Or.inl rfl, Or.inl rfl, trivial⟩ (bX4_isWord_26_900010 C hr hk hf true)
  · rw [if_neg hc] at hf ⊢
    exact mfor (L' := [.retAddr 0, .retAddr 0, .retAddr 0, .retAddr 0]) ⟨Or.inl rfl, Or.inl rfl, Or.inl rfl, Or.inl rfl, trivial⟩ (bX4_isWord_26_900010 C hr hk hf true)
theorem qX4_isWord_900010 {b : Bool} {S S' : mT} {r : Int32} (hf : fX4_isWord 900010 S = some (r, S')) : mOk l mX4_isWord 6 [.ref (1), .ref (900010)] b S (some (.int r)) S' :=
  gMet (by decide) (Nat.le_of_ble_eq_true rfl) rfl (Nat.le_of_ble_eq_true rfl) (fun p e s m args below meth c G C hr hk => bX4_isWord_0_900010 C hr hk hf true)
theorem bX4_isWord_26_900011 (C : mCx p (mR 6) s m args meth c G cX4_isWord RX4 4 false 233 54500 233 54500) (hr : meth.sig.returnType = (some .boolean)) (hk : meth.locks = false) {b : Bool} {S' : mT} {r : Int32} {S : mT} (hf : fX4_isWord_26 900011 S = some (r, S')) (ok : Bool) : mW p l e (mR 6) s m args below meth c G 4 233 54500 (mQ below G args s b S' (some (.int r))) (ok, 26, [.retAddr 0, .retAddr 0, .retAddr 0, .retAddr 0], [], mk b S) := by
  unfold fX4_isWord_26 at hf
  refine msegT C kX4_isWord 14 1 (g := (true, 27, [.retAddr 0, .retAddr 0, .retAddr 0, .retAddr 0], [.int (0 : Int32)], mk b S)) rfl rfl ?_
  cases hf
  exact gret_z C hr hk (by decide) (kX4_isWord _ (List.mem_of_getElem? (i := 15) rfl)).1
theorem bX4_isWord_30_900011 (C : mCx p (mR 6) s m args meth c G cX4_isWord RX4 4 false 233 54500 233 54500) (hr : meth.sig.returnType = (some .boolean)) (hk : meth.locks = false) {b : Bool} {S' : mT} {r : Int32} : ∀ (k : Nat) (v2 : Int32) (v3 : Int32) (S : mT), fX4_isWord_30 900011 k v2 v3 S = some (r, S') → ∀ ok : Bool, mW p l e (mR 6) s m args below meth c G 4 233 54500 (mQ below G args s b S' (some (.int r))) (ok, 30, [.ref (1), .ref (900011), .int v2, .int v3], [], mk b S) := by
  intro k
  induction k with
  | zero =>
    intro v2 v3 S hf ok
    cases hf
  | succ k ih =>
    intro v2 v3 S hf ok
    unfold fX4_isWord_30 at hf
    refine msegT C kX4_isWord 18 3 (g := (true, (if v2 ≤ v3 then 62 else 35), [.ref (1), .ref (900011), .int v2, .int v3], [], mk b S)) rfl rfl ?_
    by_cases hc : v2 ≤ v3
    · rw [if_pos hc] at hf ⊢
      refine msegT C kX4_isWord 36 1 (g := (true, 63, [.ref (1), .ref (900011), .int v2, .int v3], [.int (1 : Int32)], mk b S)) rfl rfl ?_
      cases hf
      exact gret_z C hr hk (by decide) (kX4_isWord _ (List.mem_of_getElem? (i := 37) rfl)).1
    · rw [if_neg hc] at hf ⊢
      obtain ⟨hok, hf⟩ := grd_ex hf
      refine msegT C kX4_isWord 21 9 (g := ((kB 2 ((S.1 1 5) + v3) && (kO 1 4 && (kO 1 4 && true))), 48, [.ref (1), .ref (900011), .int v2, .int v3], [.int v3, .ref (900011), .int (S.1 2 (mIx ((S.1 1 5) + v3)))], mk b S)) rfl hok ?_
      obtain ⟨hok, hf⟩ := grd_ex hf
      obtain ⟨x2, ex2, hf⟩ := bnd_ex hf
      refine so_schr (j := 11) (ok' := true) C (kX4_isWord _ (List.mem_of_getElem? (i := 30) rfl)).1 (Nat.le_of_ble_eq_true rfl) (Nat.le_of_ble_eq_true rfl) (Nat.le_refl _) (Nat.le_refl _) (Nat.le_of_ble_eq_true rfl) (Nat.le_of_ble_eq_true rfl) hok ?_
      rw [← ex2]
      refine msegT C kX4_isWord 31 1 (g := (true, (if (S.1 2 (mIx ((S.1 1 5) + v3))) = x2 then 56 else 54), [.ref (1), .ref (900011), .int v2, .int v3], [], mk b S)) rfl rfl ?_
      by_cases hc : (S.1 2 (mIx ((S.1 1 5) + v3))) = x2
      · rw [if_pos hc] at hf ⊢
        refine msegT C kX4_isWord 34 1 (g := (true, 59, [.ref (1), .ref (900011), .int v2, .int (v3 + (1 : Int32))], [], mk b S)) rfl rfl ?_
        obtain ⟨x3, ex3, hf⟩ := bnd_ex hf
        rw [← ex3]
        refine msegT C kX4_isWord 35 1 (g := (true, 30, [.ref (1), .ref (900011), .int v2, .int x3], [], mk b S)) rfl rfl ?_
        exact mfor (L' := [.ref (1), .ref (900011), .int v2, .int x3]) ⟨Or.inr rfl, Or.inr rfl, Or.inr rfl, Or.inr rfl, trivial⟩ (ih _ _ _ hf true)
      · rw [if_neg hc] at hf ⊢
        refine msegT C kX4_isWord 32 1 (g := (true, 55, [.ref (1), .ref (900011), .int v2, .int v3], [.int (0 : Int32)], mk b S)) rfl rfl ?_
        cases hf
        exact gret_z C hr hk (by decide) (kX4_isWord _ (List.mem_of_getElem? (i := 33) rfl)).1
theorem bX4_isWord_0_900011 (C : mCx p (mR 6) s m args meth c G cX4_isWord RX4 4 false 233 54500 233 54500) (hr : meth.sig.returnType = (some .boolean)) (hk : meth.locks = false) {b : Bool} {S' : mT} {r : Int32} {S : mT} (hf : fX4_isWord 900011 S = some (r, S')) (ok : Bool) : mW p l e (mR 6) s m args below meth c G 4 233 54500 (mQ below G args s b S' (some (.int r))) (ok, 0, [.ref (1), .ref (900011), .retAddr 0, .retAddr 0], [], mk b S) := by
  unfold fX4_isWord at hf
  refine msegT C kX4_isWord 0 1 (g := (true, 1, [.ref (1), .ref (900011), .retAddr 0, .retAddr 0], [.ref (900011)], mk b S)) rfl rfl ?_
  obtain ⟨x1, ex1, hf⟩ := bnd_ex hf
  refine so_slen (j := 11) (ok' := true) C (kX4_isWord _ (List.mem_of_getElem? (i := 1) rfl)).1 (Nat.le_of_ble_eq_true rfl) (Nat.le_of_ble_eq_true rfl) (Nat.le_refl _) (Nat.le_refl _) (Nat.le_of_ble_eq_true rfl) (Nat.le_of_ble_eq_true rfl) ?_
  rw [← ex1]
  obtain ⟨hok, hf⟩ := grd_ex hf
  refine msegT C kX4_isWord 2 5 (g := ((kO 1 4 && true), (if (S.1 1 4) = (1 : Int32) then 13 else 26), [.ref (1), .ref (900011), .int x1, .retAddr 0], [], mk b S)) rfl hok ?_
  by_cases hc : (S.1 1 4) = (1 : Int32)
  · rw [if_pos hc] at hf ⊢
    obtain ⟨hok, hf⟩ := grd_ex hf
    refine msegT C kX4_isWord 7 7 (g := ((kO 1 4 && (kO 1 4 && true)), (if ((S.1 1 6) - (S.1 1 5)) = x1 then 28 else 26), [.ref (1), .ref (900011), .int x1, .retAddr 0], [], mk b S)) rfl hok ?_
    by_cases hc : ((S.1 1 6) - (S.1 1 5)) = x1
    · rw [if_pos hc] at hf ⊢
      refine msegT C kX4_isWord 16 2 (g := (true, 30, [.ref (1), .ref (900011), .int x1, .int (0 : Int32)], [], mk b S)) rfl rfl ?_
      exact mfor (L' := [.ref (1), .ref (900011), .int x1, .int (0 : Int32)]) ⟨Or.inr rfl, Or.inr rfl, Or.inr rfl, Or.inr rfl, trivial⟩ (bX4_isWord_30_900011 C hr hk _ _ _ _ hf true)
    · rw [if_neg hc] at hf ⊢
      exact mfor (L' := [.retAddr 0, .retAddr 0, .retAddr 0, .retAddr 0]) ⟨Or.inl rfl, Or.inl rfl, Or.inl rfl, Or.inl rfl, trivial⟩ (bX4_isWord_26_900011 C hr hk hf true)
  · rw [if_neg hc] at hf ⊢
    exact mfor (L' := [.retAddr 0, .retAddr 0, .retAddr 0, .retAddr 0]) ⟨Or.inl rfl, Or.inl rfl, Or.inl rfl, Or.inl rfl, trivial⟩ (bX4_isWord_26_900011 C hr hk hf true)
theorem qX4_isWord_900011 {b : Bool} {S S' : mT} {r : Int32} (hf : fX4_isWord 900011 S = some (r, S')) : mOk l mX4_isWord 6 [.ref (1), .ref (900011)] b S (some (.int r)) S' :=
  gMet (by decide) (Nat.le_of_ble_eq_true rfl) rfl (Nat.le_of_ble_eq_true rfl) (fun p e s m args below meth c G C hr hk => bX4_isWord_0_900011 C hr hk hf true)
theorem bX4_isWord_26_900012 (C : mCx p (mR 6) s m args meth c G cX4_isWord RX4 4 false 233 54500 233 54500) (hr : meth.sig.returnType = (some .boolean)) (hk : meth.locks = false) {b : Bool} {S' : mT} {r : Int32} {S : mT} (hf : fX4_isWord_26 900012 S = some (r, S')) (ok : Bool) : mW p l e (mR 6) s m args below meth c G 4 233 54500 (mQ below G args s b S' (some (.int r))) (ok, 26, [.retAddr 0, .retAddr 0, .retAddr 0, .retAddr 0], [], mk b S) := by
  unfold fX4_isWord_26 at hf
  refine msegT C kX4_isWord 14 1 (g := (true, 27, [.retAddr 0, .retAddr 0, .retAddr 0, .retAddr 0], [.int (0 : Int32)], mk b S)) rfl rfl ?_
  cases hf
  exact gret_z C hr hk (by decide) (kX4_isWord _ (List.mem_of_getElem? (i := 15) rfl)).1
theorem bX4_isWord_30_900012 (C : mCx p (mR 6) s m args meth c G cX4_isWord RX4 4 false 233 54500 233 54500) (hr : meth.sig.returnType = (some .boolean)) (hk : meth.locks = false) {b : Bool} {S' : mT} {r : Int32} : ∀ (k : Nat) (v2 : Int32) (v3 : Int32) (S : mT), fX4_isWord_30 900012 k v2 v3 S = some (r, S') → ∀ ok : Bool, mW p l e (mR 6) s m args below meth c G 4 233 54500 (mQ below G args s b S' (some (.int r))) (ok, 30, [.ref (1), .ref (900012), .int v2, .int v3], [], mk b S) := by
  intro k
  induction k with
  | zero =>
    intro v2 v3 S hf ok
    cases hf
  | succ k ih =>
    intro v2 v3 S hf ok
    unfold fX4_isWord_30 at hf
    refine msegT C kX4_isWord 18 3 (g := (true, (if v2 ≤ v3 then 62 else 35), [.ref (1), .ref (900012), .int v2, .int v3], [], mk b S)) rfl rfl ?_
    by_cases hc : v2 ≤ v3
    · rw [if_pos hc] at hf ⊢
      refine msegT C kX4_isWord 36 1 (g := (true, 63, [.ref (1), .ref (900012), .int v2, .int v3], [.int (1 : Int32)], mk b S)) rfl rfl ?_
      cases hf
      exact gret_z C hr hk (by decide) (kX4_isWord _ (List.mem_of_getElem? (i := 37) rfl)).1
    · rw [if_neg hc] at hf ⊢
      obtain ⟨hok, hf⟩ := grd_ex hf
      refine msegT C kX4_isWord 21 9 (g := ((kB 2 ((S.1 1 5) + v3) && (kO 1 4 && (kO 1 4 && true))), 48, [.ref (1), .ref (900012), .int v2, .int v3], [.int v3, .ref (900012), .int (S.1 2 (mIx ((S.1 1 5) + v3)))], mk b S)) rfl hok ?_
      obtain ⟨hok, hf⟩ := grd_ex hf
      obtain ⟨x2, ex2, hf⟩ := bnd_ex hf
      refine so_schr (j := 12) (ok' := true) C (kX4_isWord _ (List.mem_of_getElem? (i := 30) rfl)).1 (Nat.le_of_ble_eq_true rfl) (Nat.le_of_ble_eq_true rfl) (Nat.le_refl _) (Nat.le_refl _) (Nat.le_of_ble_eq_true rfl) (Nat.le_of_ble_eq_true rfl) hok ?_
      rw [← ex2]
      refine msegT C kX4_isWord 31 1 (g := (true, (if (S.1 2 (mIx ((S.1 1 5) + v3))) = x2 then 56 else 54), [.ref (1), .ref (900012), .int v2, .int v3], [], mk b S)) rfl rfl ?_
      by_cases hc : (S.1 2 (mIx ((S.1 1 5) + v3))) = x2
      · rw [if_pos hc] at hf ⊢
        refine msegT C kX4_isWord 34 1 (g := (true, 59, [.ref (1), .ref (900012), .int v2, .int (v3 + (1 : Int32))], [], mk b S)) rfl rfl ?_
        obtain ⟨x3, ex3, hf⟩ := bnd_ex hf
        rw [← ex3]
        refine msegT C kX4_isWord 35 1 (g := (true, 30, [.ref (1), .ref (900012), .int v2, .int x3], [], mk b S)) rfl rfl ?_
        exact mfor (L' := [.ref (1), .ref (900012), .int v2, .int x3]) ⟨Or.inr rfl, Or.inr rfl, Or.inr rfl, Or.inr rfl, trivial⟩ (ih _ _ _ hf true)
      · rw [if_neg hc] at hf ⊢
        refine msegT C kX4_isWord 32 1 (g := (true, 55, [.ref (1), .ref (900012), .int v2, .int v3], [.int (0 : Int32)], mk b S)) rfl rfl ?_
        cases hf
        exact gret_z C hr hk (by decide) (kX4_isWord _ (List.mem_of_getElem? (i := 33) rfl)).1
theorem bX4_isWord_0_900012 (C : mCx p (mR 6) s m args meth c G cX4_isWord RX4 4 false 233 54500 233 54500) (hr : meth.sig.returnType = (some .boolean)) (hk : meth.locks = false) {b : Bool} {S' : mT} {r : Int32} {S : mT} (hf : fX4_isWord 900012 S = some (r, S')) (ok : Bool) : mW p l e (mR 6) s m args below meth c G 4 233 54500 (mQ below G args s b S' (some (.int r))) (ok, 0, [.ref (1), .ref (900012), .retAddr 0, .retAddr 0], [], mk b S) := by
  unfold fX4_isWord at hf
  refine msegT C kX4_isWord 0 1 (g := (true, 1, [.ref (1), .ref (900012), .retAddr 0, .retAddr 0], [.ref (900012)], mk b S)) rfl rfl ?_
  obtain ⟨x1, ex1, hf⟩ := bnd_ex hf
  refine so_slen (j := 12) (ok' := true) C (kX4_isWord _ (List.mem_of_getElem? (i := 1) rfl)).1 (Nat.le_of_ble_eq_true rfl) (Nat.le_of_ble_eq_true rfl) (Nat.le_refl _) (Nat.le_refl _) (Nat.le_of_ble_eq_true rfl) (Nat.le_of_ble_eq_true rfl) ?_
  rw [← ex1]
  obtain ⟨hok, hf⟩ := grd_ex hf
  refine msegT C kX4_isWord 2 5 (g := ((kO 1 4 && true), (if (S.1 1 4) = (1 : Int32) then 13 else 26), [.ref (1), .ref (900012), .int x1, .retAddr 0], [], mk b S)) rfl hok ?_
  by_cases hc : (S.1 1 4) = (1 : Int32)
  · rw [if_pos hc] at hf ⊢
    obtain ⟨hok, hf⟩ := grd_ex hf
    refine msegT C kX4_isWord 7 7 (g := ((kO 1 4 && (kO 1 4 && true)), (if ((S.1 1 6) - (S.1 1 5)) = x1 then 28 else 26), [.ref (1), .ref (900012), .int x1, .retAddr 0], [], mk b S)) rfl hok ?_
    by_cases hc : ((S.1 1 6) - (S.1 1 5)) = x1
    · rw [if_pos hc] at hf ⊢
      refine msegT C kX4_isWord 16 2 (g := (true, 30, [.ref (1), .ref (900012), .int x1, .int (0 : Int32)], [], mk b S)) rfl rfl ?_
      exact mfor (L' := [.ref (1), .ref (900012), .int x1, .int (0 : Int32)]) ⟨Or.inr rfl, Or.inr rfl, Or.inr rfl, Or.inr rfl, trivial⟩ (bX4_isWord_30_900012 C hr hk _ _ _ _ hf true)
    · rw [if_neg hc] at hf ⊢
      exact mfor (L' := [.retAddr 0, .retAddr 0, .retAddr 0, .retAddr 0]) ⟨Or.inl rfl, Or.inl rfl, Or.inl rfl, Or.inl rfl, trivial⟩ (bX4_isWord_26_900012 C hr hk hf true)
  · rw [if_neg hc] at hf ⊢
    exact mfor (L' := [.retAddr 0, .retAddr 0, .retAddr 0, .retAddr 0]) ⟨Or.inl rfl, Or.inl rfl, Or.inl rfl, Or.inl rfl, trivial⟩ (bX4_isWord_26_900012 C hr hk hf true)
theorem qX4_isWord_900012 {b : Bool} {S S' : mT} {r : Int32} (hf : fX4_isWord 900012 S = some (r, S')) : mOk l mX4_isWord 6 [.ref (1), .ref (900012)] b S (some (.int r)) S' :=
  gMet (by decide) (Nat.le_of_ble_eq_true rfl) rfl (Nat.le_of_ble_eq_true rfl) (fun p e s m args below meth c G C hr hk => bX4_isWord_0_900012 C hr hk hf true)
theorem bX4_isWord_26_900013 (C : mCx p (mR 6) s m args meth c G cX4_isWord RX4 4 false 233 54500 233 54500) (hr : meth.sig.returnType = (some .boolean)) (hk : meth.locks = false) {b : Bool} {S' : mT} {r : Int32} {S : mT} (hf : fX4_isWord_26 900013 S = some (r, S')) (ok : Bool) : mW p l e (mR 6) s m args below meth c G 4 233 54500 (mQ below G args s b S' (some (.int r))) (ok, 26, [.retAddr 0, .retAddr 0, .retAddr 0, .retAddr 0], [], mk b S) := by
  unfold fX4_isWord_26 at hf
  refine msegT C kX4_isWord 14 1 (g := (true, 27, [.retAddr 0, .retAddr 0, .retAddr 0, .retAddr 0], [.int (0 : Int32)], mk b S)) rfl rfl ?_
  cases hf
  exact gret_z C hr hk (by decide) (kX4_isWord _ (List.mem_of_getElem? (i := 15) rfl)).1
theorem bX4_isWord_30_900013 (C : mCx p (mR 6) s m args meth c G cX4_isWord RX4 4 false 233 54500 233 54500) (hr : meth.sig.returnType = (some .boolean)) (hk : meth.locks = false) {b : Bool} {S' : mT} {r : Int32} : ∀ (k : Nat) (v2 : Int32) (v3 : Int32) (S : mT), fX4_isWord_30 900013 k v2 v3 S = some (r, S') → ∀ ok : Bool, mW p l e (mR 6) s m args below meth c G 4 233 54500 (mQ below G args s b S' (some (.int r))) (ok, 30, [.ref (1), .ref (900013), .int v2, .int v3], [], mk b S) := by
  intro k
  induction k with
  | zero =>
    intro v2 v3 S hf ok
    cases hf
  | succ k ih =>
    intro v2 v3 S hf ok
    unfold fX4_isWord_30 at hf
    refine msegT C kX4_isWord 18 3 (g := (true, (if v2 ≤ v3 then 62 else 35), [.ref (1), .ref (900013), .int v2, .int v3], [], mk b S)) rfl rfl ?_
    by_cases hc : v2 ≤ v3
    · rw [if_pos hc] at hf ⊢
      refine msegT C kX4_isWord 36 1 (g := (true, 63, [.ref (1), .ref (900013), .int v2, .int v3], [.int (1 : Int32)], mk b S)) rfl rfl ?_
      cases hf
      exact gret_z C hr hk (by decide) (kX4_isWord _ (List.mem_of_getElem? (i := 37) rfl)).1
    · rw [if_neg hc] at hf ⊢
      obtain ⟨hok, hf⟩ := grd_ex hf
      refine msegT C kX4_isWord 21 9 (g := ((kB 2 ((S.1 1 5) + v3) && (kO 1 4 && (kO 1 4 && true))), 48, [.ref (1), .ref (900013), .int v2, .int v3], [.int v3, .ref (900013), .int (S.1 2 (mIx ((S.1 1 5) + v3)))], mk b S)) rfl hok ?_
      obtain ⟨hok, hf⟩ := grd_ex hf
      obtain ⟨x2, ex2, hf⟩ := bnd_ex hf
      refine so_schr (j := 13) (ok' := true) C (kX4_isWord _ (List.mem_of_getElem? (i := 30) rfl)).1 (Nat.le_of_ble_eq_true rfl) (Nat.le_of_ble_eq_true rfl) (Nat.le_refl _) (Nat.le_refl _) (Nat.le_of_ble_eq_true rfl) (Nat.le_of_ble_eq_true rfl) hok ?_
      rw [← ex2]
      refine msegT C kX4_isWord 31 1 (g := (true, (if (S.1 2 (mIx ((S.1 1 5) + v3))) = x2 then 56 else 54), [.ref (1), .ref (900013), .int v2, .int v3], [], mk b S)) rfl rfl ?_
      by_cases hc : (S.1 2 (mIx ((S.1 1 5) + v3))) = x2
      · rw [if_pos hc] at hf ⊢
        refine msegT C kX4_isWord 34 1 (g := (true, 59, [.ref (1), .ref (900013), .int v2, .int (v3 + (1 : Int32))], [], mk b S)) rfl rfl ?_
        obtain ⟨x3, ex3, hf⟩ := bnd_ex hf
        rw [← ex3]
        refine msegT C kX4_isWord 35 1 (g := (true, 30, [.ref (1), .ref (900013), .int v2, .int x3], [], mk b S)) rfl rfl ?_
        exact mfor (L' := [.ref (1), .ref (900013), .int v2, .int x3]) ⟨Or.inr rfl, Or.inr rfl, Or.inr rfl, Or.inr rfl, trivial⟩ (ih _ _ _ hf true)
      · rw [if_neg hc] at hf ⊢
        refine msegT C kX4_isWord 32 1 (g := (true, 55, [.ref (1), .ref (900013), .int v2, .int v3], [.int (0 : Int32)], mk b S)) rfl rfl ?_
        cases hf
        exact gret_z C hr hk (by decide) (kX4_isWord _ (List.mem_of_getElem? (i := 33) rfl)).1
theorem bX4_isWord_0_900013 (C : mCx p (mR 6) s m args meth c G cX4_isWord RX4 4 false 233 54500 233 54500) (hr : meth.sig.returnType = (some .boolean)) (hk : meth.locks = false) {b : Bool} {S' : mT} {r : Int32} {S : mT} (hf : fX4_isWord 900013 S = some (r, S')) (ok : Bool) : mW p l e (mR 6) s m args below meth c G 4 233 54500 (mQ below G args s b S' (some (.int r))) (ok, 0, [.ref (1), .ref (900013), .retAddr 0, .retAddr 0], [], mk b S) := by
  unfold fX4_isWord at hf
  refine msegT C kX4_isWord 0 1 (g := (true, 1, [.ref (1), .ref (900013), .retAddr 0, .retAddr 0], [.ref (900013)], mk b S)) rfl rfl ?_
  obtain ⟨x1, ex1, hf⟩ := bnd_ex hf
  refine so_slen (j := 13) (ok' := true) C (kX4_isWord _ (List.mem_of_getElem? (i := 1) rfl)).1 (Nat.le_of_ble_eq_true rfl) (Nat.le_of_ble_eq_true rfl) (Nat.le_refl _) (Nat.le_refl _) (Nat.le_of_ble_eq_true rfl) (Nat.le_of_ble_eq_true rfl) ?_
  rw [← ex1]
  obtain ⟨hok, hf⟩ := grd_ex hf
  refine msegT C kX4_isWord 2 5 (g := ((kO 1 4 && true), (if (S.1 1 4) = (1 : Int32) then 13 else 26), [.ref (1), .ref (900013), .int x1, .retAddr 0], [], mk b S)) rfl hok ?_
  by_cases hc : (S.1 1 4) = (1 : Int32)
  · rw [if_pos hc] at hf ⊢
    obtain ⟨hok, hf⟩ := grd_ex hf
    refine msegT C kX4_isWord 7 7 (g := ((kO 1 4 && (kO 1 4 && true)), (if ((S.1 1 6) - (S.1 1 5)) = x1 then 28 else 26), [.ref (1), .ref (900013), .int x1, .retAddr 0], [], mk b S)) rfl hok ?_
    by_cases hc : ((S.1 1 6) - (S.1 1 5)) = x1
    · rw [if_pos hc] at hf ⊢
      refine msegT C kX4_isWord 16 2 (g := (true, 30, [.ref (1), .ref (900013), .int x1, .int (0 : Int32)], [], mk b S)) rfl rfl ?_
      exact mfor (L' := [.ref (1), .ref (900013), .int x1, .int (0 : Int32)]) ⟨Or.inr rfl, Or.inr rfl, Or.inr rfl, Or.inr rfl, trivial⟩ (bX4_isWord_30_900013 C hr hk _ _ _ _ hf true)
    · rw [if_neg hc] at hf ⊢
      exact mfor (L' := [.retAddr 0, .retAddr 0, .retAddr 0, .retAddr 0]) ⟨Or.inl rfl, Or.inl rfl, Or.inl rfl, Or.inl rfl, trivial⟩ (bX4_isWord_26_900013 C hr hk hf true)
  · rw [if_neg hc] at hf ⊢
    exact mfor (L' := [.retAddr 0, .retAddr 0, .retAddr 0, .retAddr 0]) ⟨Or.inl rfl, Or.inl rfl, Or.inl rfl, Or.inl rfl, trivial⟩ (bX4_isWord_26_900013 C hr hk hf true)
theorem qX4_isWord_900013 {b : Bool} {S S' : mT} {r : Int32} (hf : fX4_isWord 900013 S = some (r, S')) : mOk l mX4_isWord 6 [.ref (1), .ref (900013)] b S (some (.int r)) S' :=
  gMet (by decide) (Nat.le_of_ble_eq_true rfl) rfl (Nat.le_of_ble_eq_true rfl) (fun p e s m args below meth c G C hr hk => bX4_isWord_0_900013 C hr hk hf true)
theorem bX4_isWord_26_900014 (C : mCx p (mR 6) s m args meth c G cX4_isWord RX4 4 false 233 54500 233 54500) (hr : meth.sig.returnType = (some .boolean)) (hk : meth.locks = false) {b : Bool} {S' : mT} {r : Int32} {S : mT} (hf : fX4_isWord_26 900014 S = some (r, S')) (ok : Bool) : mW p l e (mR 6) s m args below meth c G 4 233 54500 (mQ below G args s b S' (some (.int r))) (ok, 26, [.retAddr 0, .retAddr 0, .retAddr 0, .retAddr 0], [], mk b S) := by
  unfold fX4_isWord_26 at hf
  refine msegT C kX4_isWord 14 1 (g := (true, 27, [.retAddr 0, .retAddr 0, .retAddr 0, .retAddr 0], [.int (0 : Int32)], mk b S)) rfl rfl ?_
  cases hf
  exact gret_z C hr hk (by decide) (kX4_isWord _ (List.mem_of_getElem? (i := 15) rfl)).1
theorem bX4_isWord_30_900014 (C : mCx p (mR 6) s m args meth c G cX4_isWord RX4 4 false 233 54500 233 54500) (hr : meth.sig.returnType = (some .boolean)) (hk : meth.locks = false) {b : Bool} {S' : mT} {r : Int32} : ∀ (k : Nat) (v2 : Int32) (v3 : Int32) (S : mT), fX4_isWord_30 900014 k v2 v3 S = some (r, S') → ∀ ok : Bool, mW p l e (mR 6) s m args below meth c G 4 233 54500 (mQ below G args s b S' (some (.int r))) (ok, 30, [.ref (1), .ref (900014), .int v2, .int v3], [], mk b S) := by
  intro k
  induction k with
  | zero =>
    intro v2 v3 S hf ok
    cases hf
  | succ k ih =>
    intro v2 v3 S hf ok
    unfold fX4_isWord_30 at hf
    refine msegT C kX4_isWord 18 3 (g := (true, (if v2 ≤ v3 then 62 else 35), [.ref (1), .ref (900014), .int v2, .int v3], [], mk b S)) rfl rfl ?_
    by_cases hc : v2 ≤ v3
    · rw [if_pos hc] at hf ⊢
      refine msegT C kX4_isWord 36 1 (g := (true, 63, [.ref (1), .ref (900014), .int v2, .int v3], [.int (1 : Int32)], mk b S)) rfl rfl ?_
      cases hf
      exact gret_z C hr hk (by decide) (kX4_isWord _ (List.mem_of_getElem? (i := 37) rfl)).1
    · rw [if_neg hc] at hf ⊢
      obtain ⟨hok, hf⟩ := grd_ex hf
      refine msegT C kX4_isWord 21 9 (g := ((kB 2 ((S.1 1 5) + v3) && (kO 1 4 && (kO 1 4 && true))), 48, [.ref (1), .ref (900014), .int v2, .int v3], [.int v3, .ref (900014), .int (S.1 2 (mIx ((S.1 1 5) + v3)))], mk b S)) rfl hok ?_
      obtain ⟨hok, hf⟩ := grd_ex hf
      obtain ⟨x2, ex2, hf⟩ := bnd_ex hf
      refine so_schr (j := 14) (ok' := true) C (kX4_isWord _ (List.mem_of_getElem? (i := 30) rfl)).1 (Nat.le_of_ble_eq_true rfl) (Nat.le_of_ble_eq_true rfl) (Nat.le_refl _) (Nat.le_refl _) (Nat.le_of_ble_eq_true rfl) (Nat.le_of_ble_eq_true rfl) hok ?_
      rw [← ex2]
      refine msegT C kX4_isWord 31 1 (g := (true, (if (S.1 2 (mIx ((S.1 1 5) + v3))) = x2 then 56 else 54), [.ref (1), .ref (900014), .int v2, .int v3], [], mk b S)) rfl rfl ?_
      by_cases hc : (S.1 2 (mIx ((S.1 1 5) + v3))) = x2
      · rw [if_pos hc] at hf ⊢
        refine msegT C kX4_isWord 34 1 (g := (true, 59, [.ref (1), .ref (900014), .int v2, .int (v3 + (1 : Int32))], [], mk b S)) rfl rfl ?_
        obtain ⟨x3, ex3, hf⟩ := bnd_ex hf
        rw [← ex3]
        refine msegT C kX4_isWord 35 1 (g := (true, 30, [.ref (1), .ref (900014), .int v2, .int x3], [], mk b S)) rfl rfl ?_
        exact mfor (L' := [.ref (1), .ref (900014), .int v2, .int x3]) ⟨Or.inr rfl, Or.inr rfl, Or.inr rfl, Or.inr rfl, trivial⟩ (ih _ _ _ hf true)
      · rw [if_neg hc] at hf ⊢
        refine msegT C kX4_isWord 32 1 (g := (true, 55, [.ref (1), .ref (900014), .int v2, .int v3], [.int (0 : Int32)], mk b S)) rfl rfl ?_
        cases hf
        exact gret_z C hr hk (by decide) (kX4_isWord _ (List.mem_of_getElem? (i := 33) rfl)).1
theorem bX4_isWord_0_900014 (C : mCx p (mR 6) s m args meth c G cX4_isWord RX4 4 false 233 54500 233 54500) (hr : meth.sig.returnType = (some .boolean)) (hk : meth.locks = false) {b : Bool} {S' : mT} {r : Int32} {S : mT} (hf : fX4_isWord 900014 S = some (r, S')) (ok : Bool) : mW p l e (mR 6) s m args below meth c G 4 233 54500 (mQ below G args s b S' (some (.int r))) (ok, 0, [.ref (1), .ref (900014), .retAddr 0, .retAddr 0], [], mk b S) := by
  unfold fX4_isWord at hf
  refine msegT C kX4_isWord 0 1 (g := (true, 1, [.ref (1), .ref (900014), .retAddr 0, .retAddr 0], [.ref (900014)], mk b S)) rfl rfl ?_
  obtain ⟨x1, ex1, hf⟩ := bnd_ex hf
  refine so_slen (j := 14) (ok' := true) C (kX4_isWord _ (List.mem_of_getElem? (i := 1) rfl)).1 (Nat.le_of_ble_eq_true rfl) (Nat.le_of_ble_eq_true rfl) (Nat.le_refl _) (Nat.le_refl _) (Nat.le_of_ble_eq_true rfl) (Nat.le_of_ble_eq_true rfl) ?_
  rw [← ex1]
  obtain ⟨hok, hf⟩ := grd_ex hf
  refine msegT C kX4_isWord 2 5 (g := ((kO 1 4 && true), (if (S.1 1 4) = (1 : Int32) then 13 else 26), [.ref (1), .ref (900014), .int x1, .retAddr 0], [], mk b S)) rfl hok ?_
  by_cases hc : (S.1 1 4) = (1 : Int32)
  · rw [if_pos hc] at hf ⊢
    obtain ⟨hok, hf⟩ := grd_ex hf
    refine msegT C kX4_isWord 7 7 (g := ((kO 1 4 && (kO 1 4 && true)), (if ((S.1 1 6) - (S.1 1 5)) = x1 then 28 else 26), [.ref (1), .ref (900014), .int x1, .retAddr 0], [], mk b S)) rfl hok ?_
    by_cases hc : ((S.1 1 6) - (S.1 1 5)) = x1
    · rw [if_pos hc] at hf ⊢
      refine msegT C kX4_isWord 16 2 (g := (true, 30, [.ref (1), .ref (900014), .int x1, .int (0 : Int32)], [], mk b S)) rfl rfl ?_
      exact mfor (L' := [.ref (1), .ref (900014), .int x1, .int (0 : Int32)]) ⟨Or.inr rfl, Or.inr rfl, Or.inr rfl, Or.inr rfl, trivial⟩ (bX4_isWord_30_900014 C hr hk _ _ _ _ hf true)
    · rw [if_neg hc] at hf ⊢
      exact mfor (L' := [.retAddr 0, .retAddr 0, .retAddr 0, .retAddr 0]) ⟨Or.inl rfl, Or.inl rfl, Or.inl rfl, Or.inl rfl, trivial⟩ (bX4_isWord_26_900014 C hr hk hf true)
  · rw [if_neg hc] at hf ⊢
    exact mfor (L' := [.retAddr 0, .retAddr 0, .retAddr 0, .retAddr 0]) ⟨Or.inl rfl, Or.inl rfl, Or.inl rfl, Or.inl rfl, trivial⟩ (bX4_isWord_26_900014 C hr hk hf true)
theorem qX4_isWord_900014 {b : Bool} {S S' : mT} {r : Int32} (hf : fX4_isWord 900014 S = some (r, S')) : mOk l mX4_isWord 6 [.ref (1), .ref (900014)] b S (some (.int r)) S' :=
  gMet (by decide) (Nat.le_of_ble_eq_true rfl) rfl (Nat.le_of_ble_eq_true rfl) (fun p e s m args below meth c G C hr hk => bX4_isWord_0_900014 C hr hk hf true)
theorem bX4_lawNamed_0_3 (C : mCx p (mR 7) s m args meth c G cX4_lawNamed RX4 2 false 233 54500 233 54500) (hr : meth.sig.returnType = (some (.object "StoneCensus$Formula"))) (hk : meth.locks = false) {b : Bool} {S' : mT} {r : Nat} {S : mT} (hf : fX4_lawNamed 3 S = some (r, S')) (ok : Bool) : mW p l e (mR 7) s m args below meth c G 2 233 54500 (mQ below G args s b S' (some (.ref r))) (ok, 0, [.ref (1), .ref (3)], [], mk b S) := by
  unfold fX4_lawNamed at hf
  refine msegT C kX4_lawNamed 0 2 (g := (true, 3, [.ref (1), .ref (3)], [.ref 900005, .ref (1)], mk b S)) rfl rfl ?_
  obtain ⟨x2, S1, hq, hf⟩ := bndC_ex hf
  refine mcall (kd := 0) (vs := [.ref (1), .ref 900005]) (rest := []) (r := (some (.int x2))) (h' := mk b S1) (ok' := true) C lkRX4_38 (qX4_isWord_900005 hq) (kX4_lawNamed _ (List.mem_of_getElem? (i := 2) rfl)).1 ⟨_, _, rfl, rfl, Nat.le_of_ble_eq_true rfl, _, _, rfl, rfl, rfl⟩ (Nat.le_of_ble_eq_true rfl) (Nat.le_of_ble_eq_true rfl) (Nat.le_refl _) (Nat.le_refl _) (Nat.le_of_ble_eq_true rfl) ?_
  refine msegT C kX4_lawNamed 3 1 (g := (true, (if x2 = 0 then 14 else 9), [.ref (1), .ref (3)], [], mk b S1)) rfl rfl ?_
  by_cases hc : x2 = 0
  · rw [if_pos hc] at hf ⊢
    refine msegT C kX4_lawNamed 7 2 (g := (true, 17, [.ref (1), .ref (3)], [.ref 900006, .ref (1)], mk b S1)) rfl rfl ?_
    obtain ⟨x4, S3, hq, hf⟩ := bndC_ex hf
    refine mcall (kd := 0) (vs := [.ref (1), .ref 900006]) (rest := []) (r := (some (.int x4))) (h' := mk b S3) (ok' := true) C lkRX4_38 (qX4_isWord_900006 hq) (kX4_lawNamed _ (List.mem_of_getElem? (i := 9) rfl)).1 ⟨_, _, rfl, rfl, Nat.le_of_ble_eq_true rfl, _, _, rfl, rfl, rfl⟩ (Nat.le_of_ble_eq_true rfl) (Nat.le_of_ble_eq_true rfl) (Nat.le_refl _) (Nat.le_refl _) (Nat.le_of_ble_eq_true rfl) ?_
    refine msegT C kX4_lawNamed 10 1 (g := (true, (if x4 = 0 then 28 else 23), [.ref (1), .ref (3)], [], mk b S3)) rfl rfl ?_
    by_cases hc : x4 = 0
    · rw [if_pos hc] at hf ⊢
      refine msegT C kX4_lawNamed 14 2 (g := (true, 31, [.ref (1), .ref (3)], [.ref 900007, .ref (1)], mk b S3)) rfl rfl ?_
      obtain ⟨x6, S5, hq, hf⟩ := bndC_ex hf
      refine mcall (kd := 0) (vs := [.ref (1), .ref 900007]) (rest := []) (r := (some (.int x6))) (h' := mk b S5) (ok' := true) C lkRX4_38 (qX4_isWord_900007 hq) (kX4_lawNamed _ (List.mem_of_getElem? (i := 16) rfl)).1 ⟨_, _, rfl, rfl, Nat.le_of_ble_eq_true rfl, _, _, rfl, rfl, rfl⟩ (Nat.le_of_ble_eq_true rfl) (Nat.le_of_ble_eq_true rfl) (Nat.le_refl _) (Nat.le_refl _) (Nat.le_of_ble_eq_true rfl) ?_
      refine msegT C kX4_lawNamed 17 1 (g := (true, (if x6 = 0 then 44 else 37), [.ref (1), .ref (3)], [], mk b S5)) rfl rfl ?_
      by_cases hc : x6 = 0
      · rw [if_pos hc] at hf ⊢
        refine msegT C kX4_lawNamed 21 1 (g := (true, 45, [.ref (1), .ref (3)], [.ref NUL], mk b S5)) rfl rfl ?_
        cases hf
        exact gret_r C hr hk (kX4_lawNamed _ (List.mem_of_getElem? (i := 22) rfl)).1
      · rw [if_neg hc] at hf ⊢
        obtain ⟨hok, hf⟩ := grd_ex hf
        refine msegT C kX4_lawNamed 18 3 (g := ((kO 3 8 && true), 45, [.ref (1), .ref (3)], [.ref (3 + 12)], mk b S5)) rfl hok ?_
        cases hf
        exact gret_r C hr hk (kX4_lawNamed _ (List.mem_of_getElem? (i := 22) rfl)).1
    · rw [if_neg hc] at hf ⊢
      obtain ⟨hok, hf⟩ := grd_ex hf
      refine msegT C kX4_lawNamed 11 2 (g := ((kO 3 8 && true), 27, [.ref (1), .ref (3)], [.ref (3 + 9)], mk b S3)) rfl hok ?_
      cases hf
      exact gret_r C hr hk (kX4_lawNamed _ (List.mem_of_getElem? (i := 13) rfl)).1
  · rw [if_neg hc] at hf ⊢
    obtain ⟨hok, hf⟩ := grd_ex hf
    refine msegT C kX4_lawNamed 4 2 (g := ((kO 3 8 && true), 13, [.ref (1), .ref (3)], [.ref (3 + 6)], mk b S1)) rfl hok ?_
    cases hf
    exact gret_r C hr hk (kX4_lawNamed _ (List.mem_of_getElem? (i := 6) rfl)).1
theorem qX4_lawNamed_3 {b : Bool} {S S' : mT} {r : Nat} (hf : fX4_lawNamed 3 S = some (r, S')) : mOk l mX4_lawNamed 7 [.ref (1), .ref (3)] b S (some (.ref r)) S' :=
  gMet (by decide) (Nat.le_of_ble_eq_true rfl) rfl (Nat.le_of_ble_eq_true rfl) (fun p e s m args below meth c G C hr hk => bX4_lawNamed_0_3 C hr hk hf true)
theorem bX4_lawNamed_0_19 (C : mCx p (mR 7) s m args meth c G cX4_lawNamed RX4 2 false 233 54500 233 54500) (hr : meth.sig.returnType = (some (.object "StoneCensus$Formula"))) (hk : meth.locks = false) {b : Bool} {S' : mT} {r : Nat} {S : mT} (hf : fX4_lawNamed 19 S = some (r, S')) (ok : Bool) : mW p l e (mR 7) s m args below meth c G 2 233 54500 (mQ below G args s b S' (some (.ref r))) (ok, 0, [.ref (1), .ref (19)], [], mk b S) := by
  unfold fX4_lawNamed at hf
  refine msegT C kX4_lawNamed 0 2 (g := (true, 3, [.ref (1), .ref (19)], [.ref 900005, .ref (1)], mk b S)) rfl rfl ?_
  obtain ⟨x2, S1, hq, hf⟩ := bndC_ex hf
  refine mcall (kd := 0) (vs := [.ref (1), .ref 900005]) (rest := []) (r := (some (.int x2))) (h' := mk b S1) (ok' := true) C lkRX4_38 (qX4_isWord_900005 hq) (kX4_lawNamed _ (List.mem_of_getElem? (i := 2) rfl)).1 ⟨_, _, rfl, rfl, Nat.le_of_ble_eq_true rfl, _, _, rfl, rfl, rfl⟩ (Nat.le_of_ble_eq_true rfl) (Nat.le_of_ble_eq_true rfl) (Nat.le_refl _) (Nat.le_refl _) (Nat.le_of_ble_eq_true rfl) ?_
  refine msegT C kX4_lawNamed 3 1 (g := (true, (if x2 = 0 then 14 else 9), [.ref (1), .ref (19)], [], mk b S1)) rfl rfl ?_
  by_cases hc : x2 = 0
  · rw [if_pos hc] at hf ⊢
    refine msegT C kX4_lawNamed 7 2 (g := (true, 17, [.ref (1), .ref (19)], [.ref 900006, .ref (1)], mk b S1)) rfl rfl ?_
    obtain ⟨x4, S3, hq, hf⟩ := bndC_ex hf
    refine mcall (kd := 0) (vs := [.ref (1), .ref 900006]) (rest := []) (r := (some (.int x4))) (h' := mk b S3) (ok' := true) C lkRX4_38 (qX4_isWord_900006 hq) (kX4_lawNamed _ (List.mem_of_getElem? (i := 9) rfl)).1 ⟨_, _, rfl, rfl, Nat.le_of_ble_eq_true rfl, _, _, rfl, rfl, rfl⟩ (Nat.le_of_ble_eq_true rfl) (Nat.le_of_ble_eq_true rfl) (Nat.le_refl _) (Nat.le_refl _) (Nat.le_of_ble_eq_true rfl) ?_
    refine msegT C kX4_lawNamed 10 1 (g := (true, (if x4 = 0 then 28 else 23), [.ref (1), .ref (19)], [], mk b S3)) rfl rfl ?_
    by_cases hc : x4 = 0
    · rw [if_pos hc] at hf ⊢
      refine msegT C kX4_lawNamed 14 2 (g := (true, 31, [.ref (1), .ref (19)], [.ref 900007, .ref (1)], mk b S3)) rfl rfl ?_
      obtain ⟨x6, S5, hq, hf⟩ := bndC_ex hf
      refine mcall (kd := 0) (vs := [.ref (1), .ref 900007]) (rest := []) (r := (some (.int x6))) (h' := mk b S5) (ok' := true) C lkRX4_38 (qX4_isWord_900007 hq) (kX4_lawNamed _ (List.mem_of_getElem? (i := 16) rfl)).1 ⟨_, _, rfl, rfl, Nat.le_of_ble_eq_true rfl, _, _, rfl, rfl, rfl⟩ (Nat.le_of_ble_eq_true rfl) (Nat.le_of_ble_eq_true rfl) (Nat.le_refl _) (Nat.le_refl _) (Nat.le_of_ble_eq_true rfl) ?_
      refine msegT C kX4_lawNamed 17 1 (g := (true, (if x6 = 0 then 44 else 37), [.ref (1), .ref (19)], [], mk b S5)) rfl rfl ?_
      by_cases hc : x6 = 0
      · rw [if_pos hc] at hf ⊢
        refine msegT C kX4_lawNamed 21 1 (g := (true, 45, [.ref (1), .ref (19)], [.ref NUL], mk b S5)) rfl rfl ?_
        cases hf
        exact gret_r C hr hk (kX4_lawNamed _ (List.mem_of_getElem? (i := 22) rfl)).1
      · rw [if_neg hc] at hf ⊢
        obtain ⟨hok, hf⟩ := grd_ex hf
        refine msegT C kX4_lawNamed 18 3 (g := ((kO 19 8 && true), 45, [.ref (1), .ref (19)], [.ref (19 + 12)], mk b S5)) rfl hok ?_
        cases hf
        exact gret_r C hr hk (kX4_lawNamed _ (List.mem_of_getElem? (i := 22) rfl)).1
    · rw [if_neg hc] at hf ⊢
      obtain ⟨hok, hf⟩ := grd_ex hf
      refine msegT C kX4_lawNamed 11 2 (g := ((kO 19 8 && true), 27, [.ref (1), .ref (19)], [.ref (19 + 9)], mk b S3)) rfl hok ?_
      cases hf
      exact gret_r C hr hk (kX4_lawNamed _ (List.mem_of_getElem? (i := 13) rfl)).1
  · rw [if_neg hc] at hf ⊢
    obtain ⟨hok, hf⟩ := grd_ex hf
    refine msegT C kX4_lawNamed 4 2 (g := ((kO 19 8 && true), 13, [.ref (1), .ref (19)], [.ref (19 + 6)], mk b S1)) rfl hok ?_
    cases hf
    exact gret_r C hr hk (kX4_lawNamed _ (List.mem_of_getElem? (i := 6) rfl)).1
theorem qX4_lawNamed_19 {b : Bool} {S S' : mT} {r : Nat} (hf : fX4_lawNamed 19 S = some (r, S')) : mOk l mX4_lawNamed 7 [.ref (1), .ref (19)] b S (some (.ref r)) S' :=
  gMet (by decide) (Nat.le_of_ble_eq_true rfl) rfl (Nat.le_of_ble_eq_true rfl) (fun p e s m args below meth c G C hr hk => bX4_lawNamed_0_19 C hr hk hf true)
theorem nX4_lawNamed {a1 r : Nat} {S S' : mT} (hf : fX4_lawNamed a1 S = some (r, S')) : r = a1 + 6 ∨ r = a1 + 9 ∨ r = a1 + 12 ∨ r = NUL := by
  unfold fX4_lawNamed at hf
  obtain ⟨x1, S1, -, hf⟩ := bndC_ex hf
  by_cases hc : x1 = 0
  · rw [if_pos hc] at hf
    obtain ⟨x2, S2, -, hf⟩ := bndC_ex hf
    by_cases hc : x2 = 0
    · rw [if_pos hc] at hf
      obtain ⟨x3, S3, -, hf⟩ := bndC_ex hf
      by_cases hc : x3 = 0
      · rw [if_pos hc] at hf
        cases hf
        exact Or.inr (Or.inr (Or.inr rfl))
      · rw [if_neg hc] at hf
        obtain ⟨-, hf⟩ := grd_ex hf
        cases hf
        exact Or.inr (Or.inr (Or.inl rfl))
    · rw [if_neg hc] at hf
      obtain ⟨-, hf⟩ := grd_ex hf
      cases hf
      exact Or.inr (Or.inl rfl)
  · rw [if_neg hc] at hf
    obtain ⟨-, hf⟩ := grd_ex hf
    cases hf
    exact Or.inl rfl
theorem bX4_takeTold_48_900008 (C : mCx p (mR 7) s m args meth c G cX4_takeTold RX4 4 false 233 54500 233 54500) (hr : meth.sig.returnType = (some .int)) (hk : meth.locks = false) {b : Bool} {S' : mT} {r : Int32} {v3 : Int32} {S : mT} (hf : fX4_takeTold_48 900008 v3 S = some (r, S')) (ok : Bool) : mW p l e (mR 7) s m args below meth c G 4 233 54500 (mQ below G args s b S' (some (.int r))) (ok, 48, [.ref (1), .retAddr 0, .retAddr 0, .int v3], [], mk b S) := by
  unfold fX4_takeTold_48 at hf
  refine msegT C kX4_takeTold 26 1 (g := (true, 49, [.ref (1), .retAddr 0, .retAddr 0, .int v3], [.ref (1)], mk b S)) rfl rfl ?_
  obtain ⟨S8, hq, hf⟩ := bndV_ex hf
  refine mcall (kd := 0) (vs := [.ref (1)]) (rest := []) (r := none) (h' := mk b S8) (ok' := true) C lkRX4_30 (qX4_advance hq) (kX4_takeTold _ (List.mem_of_getElem? (i := 27) rfl)).1 ⟨_, _, rfl, rfl, Nat.le_of_ble_eq_true rfl, _, _, rfl, rfl, rfl⟩ (Nat.le_of_ble_eq_true rfl) (Nat.le_of_ble_eq_true rfl) (Nat.le_refl _) (Nat.le_refl _) (Nat.le_of_ble_eq_true rfl) ?_
  refine msegT C kX4_takeTold 28 1 (g := (true, 53, [.ref (1), .retAddr 0, .retAddr 0, .int v3], [.int v3], mk b S8)) rfl rfl ?_
  cases hf
  exact gret_i C hr hk (kX4_takeTold _ (List.mem_of_getElem? (i := 29) rfl)).1
theorem bX4_takeTold_13_900008 (C : mCx p (mR 7) s m args meth c G cX4_takeTold RX4 4 false 233 54500 233 54500) (hr : meth.sig.returnType = (some .int)) (hk : meth.locks = false) {b : Bool} {S' : mT} {r : Int32} {v2 : Int32} {S : mT} (hf : fX4_takeTold_13 900008 v2 S = some (r, S')) (ok : Bool) : mW p l e (mR 7) s m args below meth c G 4 233 54500 (mQ below G args s b S' (some (.int r))) (ok, 13, [.ref (1), .retAddr 0, .int v2, .retAddr 0], [], mk b S) := by
  unfold fX4_takeTold_13 at hf
  refine msegT C kX4_takeTold 7 1 (g := (true, 14, [.ref (1), .retAddr 0, .int v2, .retAddr 0], [.ref (1)], mk b S)) rfl rfl ?_
  obtain ⟨S4, hq, hf⟩ := bndV_ex hf
  refine mcall (kd := 0) (vs := [.ref (1)]) (rest := []) (r := none) (h' := mk b S4) (ok' := true) C lkRX4_30 (qX4_advance hq) (kX4_takeTold _ (List.mem_of_getElem? (i := 8) rfl)).1 ⟨_, _, rfl, rfl, Nat.le_of_ble_eq_true rfl, _, _, rfl, rfl, rfl⟩ (Nat.le_of_ble_eq_true rfl) (Nat.le_of_ble_eq_true rfl) (Nat.le_refl _) (Nat.le_refl _) (Nat.le_of_ble_eq_true rfl) ?_
  obtain ⟨hok, hf⟩ := grd_ex hf
  refine msegT C kX4_takeTold 9 3 (g := ((kO 1 4 && true), 22, [.ref (1), .retAddr 0, .int v2, .int (S4.1 1 7)], [], mk b S4)) rfl hok ?_
  obtain ⟨x5, ex5, hf⟩ := bnd_ex hf
  rw [← ex5]
  obtain ⟨hok, hf⟩ := grd_ex hf
  refine msegT C kX4_takeTold 12 4 (g := ((kO 1 4 && true), (if (S4.1 1 4) = (2 : Int32) then 38 else 30), [.ref (1), .retAddr 0, .int v2, .int x5], [], mk b S4)) rfl hok ?_
  by_cases hc : (S4.1 1 4) = (2 : Int32)
  · rw [if_pos hc] at hf ⊢
    refine msegT C kX4_takeTold 20 3 (g := (true, (if x5 ≤ v2 then 48 else 43), [.ref (1), .retAddr 0, .int v2, .int x5], [], mk b S4)) rfl rfl ?_
    by_cases hc : x5 ≤ v2
    · rw [if_pos hc] at hf ⊢
      exact mfor (L' := [.ref (1), .retAddr 0, .retAddr 0, .int x5]) ⟨Or.inr rfl, Or.inl rfl, Or.inl rfl, Or.inr rfl, trivial⟩ (bX4_takeTold_48_900008 C hr hk hf true)
    · rw [if_neg hc] at hf ⊢
      refine msegT C kX4_takeTold 23 2 (g := (true, 45, [.ref (1), .retAddr 0, .int v2, .int x5], [.int (4 : Int32), .ref (1)], mk b S4)) rfl rfl ?_
      obtain ⟨S6, hq, hf⟩ := bndV_ex hf
      refine mcall (kd := 0) (vs := [.ref (1), .int (4 : Int32)]) (rest := []) (r := none) (h' := mk b S6) (ok' := true) C lkRX4_79 (qX4_refuse hq) (kX4_takeTold _ (List.mem_of_getElem? (i := 25) rfl)).1 ⟨_, _, rfl, rfl, Nat.le_of_ble_eq_true rfl, _, _, rfl, rfl, rfl⟩ (Nat.le_of_ble_eq_true rfl) (Nat.le_of_ble_eq_true rfl) (Nat.le_refl _) (Nat.le_refl _) (Nat.le_of_ble_eq_true rfl) ?_
      exact mfor (L' := [.ref (1), .retAddr 0, .retAddr 0, .int x5]) ⟨Or.inr rfl, Or.inl rfl, Or.inl rfl, Or.inr rfl, trivial⟩ (bX4_takeTold_48_900008 C hr hk hf true)
  · rw [if_neg hc] at hf ⊢
    refine msegT C kX4_takeTold 16 2 (g := (true, 32, [.ref (1), .retAddr 0, .int v2, .int x5], [.int (2 : Int32), .ref (1)], mk b S4)) rfl rfl ?_
    obtain ⟨S7, hq, hf⟩ := bndV_ex hf
    refine mcall (kd := 0) (vs := [.ref (1), .int (2 : Int32)]) (rest := []) (r := none) (h' := mk b S7) (ok' := true) C lkRX4_79 (qX4_refuse hq) (kX4_takeTold _ (List.mem_of_getElem? (i := 18) rfl)).1 ⟨_, _, rfl, rfl, Nat.le_of_ble_eq_true rfl, _, _, rfl, rfl, rfl⟩ (Nat.le_of_ble_eq_true rfl) (Nat.le_of_ble_eq_true rfl) (Nat.le_refl _) (Nat.le_refl _) (Nat.le_of_ble_eq_true rfl) ?_
    refine msegT C kX4_takeTold 19 1 (g := (true, 48, [.ref (1), .retAddr 0, .int v2, .int x5], [], mk b S7)) rfl rfl ?_
    exact mfor (L' := [.ref (1), .retAddr 0, .retAddr 0, .int x5]) ⟨Or.inr rfl, Or.inl rfl, Or.inl rfl, Or.inr rfl, trivial⟩ (bX4_takeTold_48_900008 C hr hk hf true)
theorem bX4_takeTold_0_900008 (C : mCx p (mR 7) s m args meth c G cX4_takeTold RX4 4 false 233 54500 233 54500) (hr : meth.sig.returnType = (some .int)) (hk : meth.locks = false) {b : Bool} {S' : mT} {r : Int32} {v2 : Int32} {S : mT} (hf : fX4_takeTold 900008 v2 S = some (r, S')) (ok : Bool) : mW p l e (mR 7) s m args below meth c G 4 233 54500 (mQ below G args s b S' (some (.int r))) (ok, 0, [.ref (1), .ref (900008), .int v2, .retAddr 0], [], mk b S) := by
  unfold fX4_takeTold at hf
  refine msegT C kX4_takeTold 0 2 (g := (true, 2, [.ref (1), .ref (900008), .int v2, .retAddr 0], [.ref (900008), .ref (1)], mk b S)) rfl rfl ?_
  obtain ⟨x2, S1, hq, hf⟩ := bndC_ex hf
  refine mcall (kd := 0) (vs := [.ref (1), .ref (900008)]) (rest := []) (r := (some (.int x2))) (h' := mk b S1) (ok' := true) C lkRX4_38 (qX4_isWord_900008 hq) (kX4_takeTold _ (List.mem_of_getElem? (i := 2) rfl)).1 ⟨_, _, rfl, rfl, Nat.le_of_ble_eq_true rfl, _, _, rfl, rfl, rfl⟩ (Nat.le_of_ble_eq_true rfl) (Nat.le_of_ble_eq_true rfl) (Nat.le_refl _) (Nat.le_refl _) (Nat.le_of_ble_eq_true rfl) ?_
  refine msegT C kX4_takeTold 3 1 (g := (true, (if x2 = 0 then 8 else 13), [.ref (1), .ref (900008), .int v2, .retAddr 0], [], mk b S1)) rfl rfl ?_
  by_cases hc : x2 = 0
  · rw [if_pos hc] at hf ⊢
    refine msegT C kX4_takeTold 4 2 (g := (true, 10, [.ref (1), .ref (900008), .int v2, .retAddr 0], [.int (2 : Int32), .ref (1)], mk b S1)) rfl rfl ?_
    obtain ⟨S3, hq, hf⟩ := bndV_ex hf
    refine mcall (kd := 0) (vs := [.ref (1), .int (2 : Int32)]) (rest := []) (r := none) (h' := mk b S3) (ok' := true) C lkRX4_79 (qX4_refuse hq) (kX4_takeTold _ (List.mem_of_getElem? (i := 6) rfl)).1 ⟨_, _, rfl, rfl, Nat.le_of_ble_eq_true rfl, _, _, rfl, rfl, rfl⟩ (Nat.le_of_ble_eq_true rfl) (Nat.le_of_ble_eq_true rfl) (Nat.le_refl _) (Nat.le_refl _) (Nat.le_of_ble_eq_true rfl) ?_
    exact mfor (L' := [.ref (1), .retAddr 0, .int v2, .retAddr 0]) ⟨Or.inr rfl, Or.inl rfl, Or.inr rfl, Or.inl rfl, trivial⟩ (bX4_takeTold_13_900008 C hr hk hf true)
  · rw [if_neg hc] at hf ⊢
    exact mfor (L' := [.ref (1), .retAddr 0, .int v2, .retAddr 0]) ⟨Or.inr rfl, Or.inl rfl, Or.inr rfl, Or.inl rfl, trivial⟩ (bX4_takeTold_13_900008 C hr hk hf true)
theorem qX4_takeTold_900008 {b : Bool} {v2 : Int32} {S S' : mT} {r : Int32} (hf : fX4_takeTold 900008 v2 S = some (r, S')) : mOk l mX4_takeTold 7 [.ref (1), .ref (900008), .int v2] b S (some (.int r)) S' :=
  gMet (by decide) (Nat.le_of_ble_eq_true rfl) rfl (Nat.le_of_ble_eq_true rfl) (fun p e s m args below meth c G C hr hk => bX4_takeTold_0_900008 C hr hk hf true)
theorem bX4_takeTold_48_900001 (C : mCx p (mR 7) s m args meth c G cX4_takeTold RX4 4 false 233 54500 233 54500) (hr : meth.sig.returnType = (some .int)) (hk : meth.locks = false) {b : Bool} {S' : mT} {r : Int32} {v3 : Int32} {S : mT} (hf : fX4_takeTold_48 900001 v3 S = some (r, S')) (ok : Bool) : mW p l e (mR 7) s m args below meth c G 4 233 54500 (mQ below G args s b S' (some (.int r))) (ok, 48, [.ref (1), .retAddr 0, .retAddr 0, .int v3], [], mk b S) := by
  unfold fX4_takeTold_48 at hf
  refine msegT C kX4_takeTold 26 1 (g := (true, 49, [.ref (1), .retAddr 0, .retAddr 0, .int v3], [.ref (1)], mk b S)) rfl rfl ?_
  obtain ⟨S8, hq, hf⟩ := bndV_ex hf
  refine mcall (kd := 0) (vs := [.ref (1)]) (rest := []) (r := none) (h' := mk b S8) (ok' := true) C lkRX4_30 (qX4_advance hq) (kX4_takeTold _ (List.mem_of_getElem? (i := 27) rfl)).1 ⟨_, _, rfl, rfl, Nat.le_of_ble_eq_true rfl, _, _, rfl, rfl, rfl⟩ (Nat.le_of_ble_eq_true rfl) (Nat.le_of_ble_eq_true rfl) (Nat.le_refl _) (Nat.le_refl _) (Nat.le_of_ble_eq_true rfl) ?_
  refine msegT C kX4_takeTold 28 1 (g := (true, 53, [.ref (1), .retAddr 0, .retAddr 0, .int v3], [.int v3], mk b S8)) rfl rfl ?_
  cases hf
  exact gret_i C hr hk (kX4_takeTold _ (List.mem_of_getElem? (i := 29) rfl)).1
theorem bX4_takeTold_13_900001 (C : mCx p (mR 7) s m args meth c G cX4_takeTold RX4 4 false 233 54500 233 54500) (hr : meth.sig.returnType = (some .int)) (hk : meth.locks = false) {b : Bool} {S' : mT} {r : Int32} {v2 : Int32} {S : mT} (hf : fX4_takeTold_13 900001 v2 S = some (r, S')) (ok : Bool) : mW p l e (mR 7) s m args below meth c G 4 233 54500 (mQ below G args s b S' (some (.int r))) (ok, 13, [.ref (1), .retAddr 0, .int v2, .retAddr 0], [], mk b S) := by
  unfold fX4_takeTold_13 at hf
  refine msegT C kX4_takeTold 7 1 (g := (true, 14, [.ref (1), .retAddr 0, .int v2, .retAddr 0], [.ref (1)], mk b S)) rfl rfl ?_
  obtain ⟨S4, hq, hf⟩ := bndV_ex hf
  refine mcall (kd := 0) (vs := [.ref (1)]) (rest := []) (r := none) (h' := mk b S4) (ok' := true) C lkRX4_30 (qX4_advance hq) (kX4_takeTold _ (List.mem_of_getElem? (i := 8) rfl)).1 ⟨_, _, rfl, rfl, Nat.le_of_ble_eq_true rfl, _, _, rfl, rfl, rfl⟩ (Nat.le_of_ble_eq_true rfl) (Nat.le_of_ble_eq_true rfl) (Nat.le_refl _) (Nat.le_refl _) (Nat.le_of_ble_eq_true rfl) ?_
  obtain ⟨hok, hf⟩ := grd_ex hf
  refine msegT C kX4_takeTold 9 3 (g := ((kO 1 4 && true), 22, [.ref (1), .retAddr 0, .int v2, .int (S4.1 1 7)], [], mk b S4)) rfl hok ?_
  obtain ⟨x5, ex5, hf⟩ := bnd_ex hf
  rw [← ex5]
  obtain ⟨hok, hf⟩ := grd_ex hf
  refine msegT C kX4_takeTold 12 4 (g := ((kO 1 4 && true), (if (S4.1 1 4) = (2 : Int32) then 38 else 30), [.ref (1), .retAddr 0, .int v2, .int x5], [], mk b S4)) rfl hok ?_
  by_cases hc : (S4.1 1 4) = (2 : Int32)
  · rw [if_pos hc] at hf ⊢
    refine msegT C kX4_takeTold 20 3 (g := (true, (if x5 ≤ v2 then 48 else 43), [.ref (1), .retAddr 0, .int v2, .int x5], [], mk b S4)) rfl rfl ?_
    by_cases hc : x5 ≤ v2
    · rw [if_pos hc] at hf ⊢
      exact mfor (L' := [.ref (1), .retAddr 0, .retAddr 0, .int x5]) ⟨Or.inr rfl, Or.inl rfl, Or.inl rfl, Or.inr rfl, trivial⟩ (bX4_takeTold_48_900001 C hr hk hf true)
    · rw [if_neg hc] at hf ⊢
      refine msegT C kX4_takeTold 23 2 (g := (true, 45, [.ref (1), .retAddr 0, .int v2, .int x5], [.int (4 : Int32), .ref (1)], mk b S4)) rfl rfl ?_
      obtain ⟨S6, hq, hf⟩ := bndV_ex hf
      refine mcall (kd := 0) (vs := [.ref (1), .int (4 : Int32)]) (rest := []) (r := none) (h' := mk b S6) (ok' := true) C lkRX4_79 (qX4_refuse hq) (kX4_takeTold _ (List.mem_of_getElem? (i := 25) rfl)).1 ⟨_, _, rfl, rfl, Nat.le_of_ble_eq_true rfl, _, _, rfl, rfl, rfl⟩ (Nat.le_of_ble_eq_true rfl) (Nat.le_of_ble_eq_true rfl) (Nat.le_refl _) (Nat.le_refl _) (Nat.le_of_ble_eq_true rfl) ?_
      exact mfor (L' := [.ref (1), .retAddr 0, .retAddr 0, .int x5]) ⟨Or.inr rfl, Or.inl rfl, Or.inl rfl, Or.inr rfl, trivial⟩ (bX4_takeTold_48_900001 C hr hk hf true)
  · rw [if_neg hc] at hf ⊢
    refine msegT C kX4_takeTold 16 2 (g := (true, 32, [.ref (1), .retAddr 0, .int v2, .int x5], [.int (2 : Int32), .ref (1)], mk b S4)) rfl rfl ?_
    obtain ⟨S7, hq, hf⟩ := bndV_ex hf
    refine mcall (kd := 0) (vs := [.ref (1), .int (2 : Int32)]) (rest := []) (r := none) (h' := mk b S7) (ok' := true) C lkRX4_79 (qX4_refuse hq) (kX4_takeTold _ (List.mem_of_getElem? (i := 18) rfl)).1 ⟨_, _, rfl, rfl, Nat.le_of_ble_eq_true rfl, _, _, rfl, rfl, rfl⟩ (Nat.le_of_ble_eq_true rfl) (Nat.le_of_ble_eq_true rfl) (Nat.le_refl _) (Nat.le_refl _) (Nat.le_of_ble_eq_true rfl) ?_
    refine msegT C kX4_takeTold 19 1 (g := (true, 48, [.ref (1), .retAddr 0, .int v2, .int x5], [], mk b S7)) rfl rfl ?_
    exact mfor (L' := [.ref (1), .retAddr 0, .retAddr 0, .int x5]) ⟨Or.inr rfl, Or.inl rfl, Or.inl rfl, Or.inr rfl, trivial⟩ (bX4_takeTold_48_900001 C hr hk hf true)
theorem bX4_takeTold_0_900001 (C : mCx p (mR 7) s m args meth c G cX4_takeTold RX4 4 false 233 54500 233 54500) (hr : meth.sig.returnType = (some .int)) (hk : meth.locks = false) {b : Bool} {S' : mT} {r : Int32} {v2 : Int32} {S : mT} (hf : fX4_takeTold 900001 v2 S = some (r, S')) (ok : Bool) : mW p l e (mR 7) s m args below meth c G 4 233 54500 (mQ below G args s b S' (some (.int r))) (ok, 0, [.ref (1), .ref (900001), .int v2, .retAddr 0], [], mk b S) := by
  unfold fX4_takeTold at hf
  refine msegT C kX4_takeTold 0 2 (g := (true, 2, [.ref (1), .ref (900001), .int v2, .retAddr 0], [.ref (900001), .ref (1)], mk b S)) rfl rfl ?_
  obtain ⟨x2, S1, hq, hf⟩ := bndC_ex hf
  refine mcall (kd := 0) (vs := [.ref (1), .ref (900001)]) (rest := []) (r := (some (.int x2))) (h' := mk b S1) (ok' := true) C lkRX4_38 (qX4_isWord_900001 hq) (kX4_takeTold _ (List.mem_of_getElem? (i := 2) rfl)).1 ⟨_, _, rfl, rfl, Nat.le_of_ble_eq_true rfl, _, _, rfl, rfl, rfl⟩ (Nat.le_of_ble_eq_true rfl) (Nat.le_of_ble_eq_true rfl) (Nat.le_refl _) (Nat.le_refl _) (Nat.le_of_ble_eq_true rfl) ?_
  refine msegT C kX4_takeTold 3 1 (g := (true, (if x2 = 0 then 8 else 13), [.ref (1), .ref (900001), .int v2, .retAddr 0], [], mk b S1)) rfl rfl ?_
  by_cases hc : x2 = 0
  · rw [if_pos hc] at hf ⊢
    refine msegT C kX4_takeTold 4 2 (g := (true, 10, [.ref (1), .ref (900001), .int v2, .retAddr 0], [.int (2 : Int32), .ref (1)], mk b S1)) rfl rfl ?_
    obtain ⟨S3, hq, hf⟩ := bndV_ex hf
    refine mcall (kd := 0) (vs := [.ref (1), .int (2 : Int32)]) (rest := []) (r := none) (h' := mk b S3) (ok' := true) C lkRX4_79 (qX4_refuse hq) (kX4_takeTold _ (List.mem_of_getElem? (i := 6) rfl)).1 ⟨_, _, rfl, rfl, Nat.le_of_ble_eq_true rfl, _, _, rfl, rfl, rfl⟩ (Nat.le_of_ble_eq_true rfl) (Nat.le_of_ble_eq_true rfl) (Nat.le_refl _) (Nat.le_refl _) (Nat.le_of_ble_eq_true rfl) ?_
    exact mfor (L' := [.ref (1), .retAddr 0, .int v2, .retAddr 0]) ⟨Or.inr rfl, Or.inl rfl, Or.inr rfl, Or.inl rfl, trivial⟩ (bX4_takeTold_13_900001 C hr hk hf true)
  · rw [if_neg hc] at hf ⊢
    exact mfor (L' := [.ref (1), .retAddr 0, .int v2, .retAddr 0]) ⟨Or.inr rfl, Or.inl rfl, Or.inr rfl, Or.inl rfl, trivial⟩ (bX4_takeTold_13_900001 C hr hk hf true)
theorem qX4_takeTold_900001 {b : Bool} {v2 : Int32} {S S' : mT} {r : Int32} (hf : fX4_takeTold 900001 v2 S = some (r, S')) : mOk l mX4_takeTold 7 [.ref (1), .ref (900001), .int v2] b S (some (.int r)) S' :=
  gMet (by decide) (Nat.le_of_ble_eq_true rfl) rfl (Nat.le_of_ble_eq_true rfl) (fun p e s m args below meth c G C hr hk => bX4_takeTold_0_900001 C hr hk hf true)
theorem bX4_takeTold_48_900002 (C : mCx p (mR 7) s m args meth c G cX4_takeTold RX4 4 false 233 54500 233 54500) (hr : meth.sig.returnType = (some .int)) (hk : meth.locks = false) {b : Bool} {S' : mT} {r : Int32} {v3 : Int32} {S : mT} (hf : fX4_takeTold_48 900002 v3 S = some (r, S')) (ok : Bool) : mW p l e (mR 7) s m args below meth c G 4 233 54500 (mQ below G args s b S' (some (.int r))) (ok, 48, [.ref (1), .retAddr 0, .retAddr 0, .int v3], [], mk b S) := by
  unfold fX4_takeTold_48 at hf
  refine msegT C kX4_takeTold 26 1 (g := (true, 49, [.ref (1), .retAddr 0, .retAddr 0, .int v3], [.ref (1)], mk b S)) rfl rfl ?_
  obtain ⟨S8, hq, hf⟩ := bndV_ex hf
  refine mcall (kd := 0) (vs := [.ref (1)]) (rest := []) (r := none) (h' := mk b S8) (ok' := true) C lkRX4_30 (qX4_advance hq) (kX4_takeTold _ (List.mem_of_getElem? (i := 27) rfl)).1 ⟨_, _, rfl, rfl, Nat.le_of_ble_eq_true rfl, _, _, rfl, rfl, rfl⟩ (Nat.le_of_ble_eq_true rfl) (Nat.le_of_ble_eq_true rfl) (Nat.le_refl _) (Nat.le_refl _) (Nat.le_of_ble_eq_true rfl) ?_
  refine msegT C kX4_takeTold 28 1 (g := (true, 53, [.ref (1), .retAddr 0, .retAddr 0, .int v3], [.int v3], mk b S8)) rfl rfl ?_
  cases hf
  exact gret_i C hr hk (kX4_takeTold _ (List.mem_of_getElem? (i := 29) rfl)).1
theorem bX4_takeTold_13_900002 (C : mCx p (mR 7) s m args meth c G cX4_takeTold RX4 4 false 233 54500 233 54500) (hr : meth.sig.returnType = (some .int)) (hk : meth.locks = false) {b : Bool} {S' : mT} {r : Int32} {v2 : Int32} {S : mT} (hf : fX4_takeTold_13 900002 v2 S = some (r, S')) (ok : Bool) : mW p l e (mR 7) s m args below meth c G 4 233 54500 (mQ below G args s b S' (some (.int r))) (ok, 13, [.ref (1), .retAddr 0, .int v2, .retAddr 0], [], mk b S) := by
  unfold fX4_takeTold_13 at hf
  refine msegT C kX4_takeTold 7 1 (g := (true, 14, [.ref (1), .retAddr 0, .int v2, .retAddr 0], [.ref (1)], mk b S)) rfl rfl ?_
  obtain ⟨S4, hq, hf⟩ := bndV_ex hf
  refine mcall (kd := 0) (vs := [.ref (1)]) (rest := []) (r := none) (h' := mk b S4) (ok' := true) C lkRX4_30 (qX4_advance hq) (kX4_takeTold _ (List.mem_of_getElem? (i := 8) rfl)).1 ⟨_, _, rfl, rfl, Nat.le_of_ble_eq_true rfl, _, _, rfl, rfl, rfl⟩ (Nat.le_of_ble_eq_true rfl) (Nat.le_of_ble_eq_true rfl) (Nat.le_refl _) (Nat.le_refl _) (Nat.le_of_ble_eq_true rfl) ?_
  obtain ⟨hok, hf⟩ := grd_ex hf
  refine msegT C kX4_takeTold 9 3 (g := ((kO 1 4 && true), 22, [.ref (1), .retAddr 0, .int v2, .int (S4.1 1 7)], [], mk b S4)) rfl hok ?_
  obtain ⟨x5, ex5, hf⟩ := bnd_ex hf
  rw [← ex5]
  obtain ⟨hok, hf⟩ := grd_ex hf
  refine msegT C kX4_takeTold 12 4 (g := ((kO 1 4 && true), (if (S4.1 1 4) = (2 : Int32) then 38 else 30), [.ref (1), .retAddr 0, .int v2, .int x5], [], mk b S4)) rfl hok ?_
  by_cases hc : (S4.1 1 4) = (2 : Int32)
  · rw [if_pos hc] at hf ⊢
    refine msegT C kX4_takeTold 20 3 (g := (true, (if x5 ≤ v2 then 48 else 43), [.ref (1), .retAddr 0, .int v2, .int x5], [], mk b S4)) rfl rfl ?_
    by_cases hc : x5 ≤ v2
    · rw [if_pos hc] at hf ⊢
      exact mfor (L' := [.ref (1), .retAddr 0, .retAddr 0, .int x5]) ⟨Or.inr rfl, Or.inl rfl, Or.inl rfl, Or.inr rfl, trivial⟩ (bX4_takeTold_48_900002 C hr hk hf true)
    · rw [if_neg hc] at hf ⊢
      refine msegT C kX4_takeTold 23 2 (g := (true, 45, [.ref (1), .retAddr 0, .int v2, .int x5], [.int (4 : Int32), .ref (1)], mk b S4)) rfl rfl ?_
      obtain ⟨S6, hq, hf⟩ := bndV_ex hf
      refine mcall (kd := 0) (vs := [.ref (1), .int (4 : Int32)]) (rest := []) (r := none) (h' := mk b S6) (ok' := true) C lkRX4_79 (qX4_refuse hq) (kX4_takeTold _ (List.mem_of_getElem? (i := 25) rfl)).1 ⟨_, _, rfl, rfl, Nat.le_of_ble_eq_true rfl, _, _, rfl, rfl, rfl⟩ (Nat.le_of_ble_eq_true rfl) (Nat.le_of_ble_eq_true rfl) (Nat.le_refl _) (Nat.le_refl _) (Nat.le_of_ble_eq_true rfl) ?_
      exact mfor (L' := [.ref (1), .retAddr 0, .retAddr 0, .int x5]) ⟨Or.inr rfl, Or.inl rfl, Or.inl rfl, Or.inr rfl, trivial⟩ (bX4_takeTold_48_900002 C hr hk hf true)
  · rw [if_neg hc] at hf ⊢
    refine msegT C kX4_takeTold 16 2 (g := (true, 32, [.ref (1), .retAddr 0, .int v2, .int x5], [.int (2 : Int32), .ref (1)], mk b S4)) rfl rfl ?_
    obtain ⟨S7, hq, hf⟩ := bndV_ex hf
    refine mcall (kd := 0) (vs := [.ref (1), .int (2 : Int32)]) (rest := []) (r := none) (h' := mk b S7) (ok' := true) C lkRX4_79 (qX4_refuse hq) (kX4_takeTold _ (List.mem_of_getElem? (i := 18) rfl)).1 ⟨_, _, rfl, rfl, Nat.le_of_ble_eq_true rfl, _, _, rfl, rfl, rfl⟩ (Nat.le_of_ble_eq_true rfl) (Nat.le_of_ble_eq_true rfl) (Nat.le_refl _) (Nat.le_refl _) (Nat.le_of_ble_eq_true rfl) ?_
    refine msegT C kX4_takeTold 19 1 (g := (true, 48, [.ref (1), .retAddr 0, .int v2, .int x5], [], mk b S7)) rfl rfl ?_
    exact mfor (L' := [.ref (1), .retAddr 0, .retAddr 0, .int x5]) ⟨Or.inr rfl, Or.inl rfl, Or.inl rfl, Or.inr rfl, trivial⟩ (bX4_takeTold_48_900002 C hr hk hf true)
theorem bX4_takeTold_0_900002 (C : mCx p (mR 7) s m args meth c G cX4_takeTold RX4 4 false 233 54500 233 54500) (hr : meth.sig.returnType = (some .int)) (hk : meth.locks = false) {b : Bool} {S' : mT} {r : Int32} {v2 : Int32} {S : mT} (hf : fX4_takeTold 900002 v2 S = some (r, S')) (ok : Bool) : mW p l e (mR 7) s m args below meth c G 4 233 54500 (mQ below G args s b S' (some (.int r))) (ok, 0, [.ref (1), .ref (900002), .int v2, .retAddr 0], [], mk b S) := by
  unfold fX4_takeTold at hf
  refine msegT C kX4_takeTold 0 2 (g := (true, 2, [.ref (1), .ref (900002), .int v2, .retAddr 0], [.ref (900002), .ref (1)], mk b S)) rfl rfl ?_
  obtain ⟨x2, S1, hq, hf⟩ := bndC_ex hf
  refine mcall (kd := 0) (vs := [.ref (1), .ref (900002)]) (rest := []) (r := (some (.int x2))) (h' := mk b S1) (ok' := true) C lkRX4_38 (qX4_isWord_900002 hq) (kX4_takeTold _ (List.mem_of_getElem? (i := 2) rfl)).1 ⟨_, _, rfl, rfl, Nat.le_of_ble_eq_true rfl, _, _, rfl, rfl, rfl⟩ (Nat.le_of_ble_eq_true rfl) (Nat.le_of_ble_eq_true rfl) (Nat.le_refl _) (Nat.le_refl _) (Nat.le_of_ble_eq_true rfl) ?_
  refine msegT C kX4_takeTold 3 1 (g := (true, (if x2 = 0 then 8 else 13), [.ref (1), .ref (900002), .int v2, .retAddr 0], [], mk b S1)) rfl rfl ?_
  by_cases hc : x2 = 0
  · rw [if_pos hc] at hf ⊢
    refine msegT C kX4_takeTold 4 2 (g := (true, 10, [.ref (1), .ref (900002), .int v2, .retAddr 0], [.int (2 : Int32), .ref (1)], mk b S1)) rfl rfl ?_
    obtain ⟨S3, hq, hf⟩ := bndV_ex hf
    refine mcall (kd := 0) (vs := [.ref (1), .int (2 : Int32)]) (rest := []) (r := none) (h' := mk b S3) (ok' := true) C lkRX4_79 (qX4_refuse hq) (kX4_takeTold _ (List.mem_of_getElem? (i := 6) rfl)).1 ⟨_, _, rfl, rfl, Nat.le_of_ble_eq_true rfl, _, _, rfl, rfl, rfl⟩ (Nat.le_of_ble_eq_true rfl) (Nat.le_of_ble_eq_true rfl) (Nat.le_refl _) (Nat.le_refl _) (Nat.le_of_ble_eq_true rfl) ?_
    exact mfor (L' := [.ref (1), .retAddr 0, .int v2, .retAddr 0]) ⟨Or.inr rfl, Or.inl rfl, Or.inr rfl, Or.inl rfl, trivial⟩ (bX4_takeTold_13_900002 C hr hk hf true)
  · rw [if_neg hc] at hf ⊢
    exact mfor (L' := [.ref (1), .retAddr 0, .int v2, .retAddr 0]) ⟨Or.inr rfl, Or.inl rfl, Or.inr rfl, Or.inl rfl, trivial⟩ (bX4_takeTold_13_900002 C hr hk hf true)
theorem qX4_takeTold_900002 {b : Bool} {v2 : Int32} {S S' : mT} {r : Int32} (hf : fX4_takeTold 900002 v2 S = some (r, S')) : mOk l mX4_takeTold 7 [.ref (1), .ref (900002), .int v2] b S (some (.int r)) S' :=
  gMet (by decide) (Nat.le_of_ble_eq_true rfl) rfl (Nat.le_of_ble_eq_true rfl) (fun p e s m args below meth c G C hr hk => bX4_takeTold_0_900002 C hr hk hf true)
theorem bX4_takeTold_48_900003 (C : mCx p (mR 7) s m args meth c G cX4_takeTold RX4 4 false 233 54500 233 54500) (hr : meth.sig.returnType = (some .int)) (hk : meth.locks = false) {b : Bool} {S' : mT} {r : Int32} {v3 : Int32} {S : mT} (hf : fX4_takeTold_48 900003 v3 S = some (r, S')) (ok : Bool) : mW p l e (mR 7) s m args below meth c G 4 233 54500 (mQ below G args s b S' (some (.int r))) (ok, 48, [.ref (1), .retAddr 0, .retAddr 0, .int v3], [], mk b S) := by
  unfold fX4_takeTold_48 at hf
  refine msegT C kX4_takeTold 26 1 (g := (true, 49, [.ref (1), .retAddr 0, .retAddr 0, .int v3], [.ref (1)], mk b S)) rfl rfl ?_
  obtain ⟨S8, hq, hf⟩ := bndV_ex hf
  refine mcall (kd := 0) (vs := [.ref (1)]) (rest := []) (r := none) (h' := mk b S8) (ok' := true) C lkRX4_30 (qX4_advance hq) (kX4_takeTold _ (List.mem_of_getElem? (i := 27) rfl)).1 ⟨_, _, rfl, rfl, Nat.le_of_ble_eq_true rfl, _, _, rfl, rfl, rfl⟩ (Nat.le_of_ble_eq_true rfl) (Nat.le_of_ble_eq_true rfl) (Nat.le_refl _) (Nat.le_refl _) (Nat.le_of_ble_eq_true rfl) ?_
  refine msegT C kX4_takeTold 28 1 (g := (true, 53, [.ref (1), .retAddr 0, .retAddr 0, .int v3], [.int v3], mk b S8)) rfl rfl ?_
  cases hf
  exact gret_i C hr hk (kX4_takeTold _ (List.mem_of_getElem? (i := 29) rfl)).1
theorem bX4_takeTold_13_900003 (C : mCx p (mR 7) s m args meth c G cX4_takeTold RX4 4 false 233 54500 233 54500) (hr : meth.sig.returnType = (some .int)) (hk : meth.locks = false) {b : Bool} {S' : mT} {r : Int32} {v2 : Int32} {S : mT} (hf : fX4_takeTold_13 900003 v2 S = some (r, S')) (ok : Bool) : mW p l e (mR 7) s m args below meth c G 4 233 54500 (mQ below G args s b S' (some (.int r))) (ok, 13, [.ref (1), .retAddr 0, .int v2, .retAddr 0], [], mk b S) := by
  unfold fX4_takeTold_13 at hf
  refine msegT C kX4_takeTold 7 1 (g := (true, 14, [.ref (1), .retAddr 0, .int v2, .retAddr 0], [.ref (1)], mk b S)) rfl rfl ?_
  obtain ⟨S4, hq, hf⟩ := bndV_ex hf
  refine mcall (kd := 0) (vs := [.ref (1)]) (rest := []) (r := none) (h' := mk b S4) (ok' := true) C lkRX4_30 (qX4_advance hq) (kX4_takeTold _ (List.mem_of_getElem? (i := 8) rfl)).1 ⟨_, _, rfl, rfl, Nat.le_of_ble_eq_true rfl, _, _, rfl, rfl, rfl⟩ (Nat.le_of_ble_eq_true rfl) (Nat.le_of_ble_eq_true rfl) (Nat.le_refl _) (Nat.le_refl _) (Nat.le_of_ble_eq_true rfl) ?_
  obtain ⟨hok, hf⟩ := grd_ex hf
  refine msegT C kX4_takeTold 9 3 (g := ((kO 1 4 && true), 22, [.ref (1), .retAddr 0, .int v2, .int (S4.1 1 7)], [], mk b S4)) rfl hok ?_
  obtain ⟨x5, ex5, hf⟩ := bnd_ex hf
  rw [← ex5]
  obtain ⟨hok, hf⟩ := grd_ex hf
  refine msegT C kX4_takeTold 12 4 (g := ((kO 1 4 && true), (if (S4.1 1 4) = (2 : Int32) then 38 else 30), [.ref (1), .retAddr 0, .int v2, .int x5], [], mk b S4)) rfl hok ?_
  by_cases hc : (S4.1 1 4) = (2 : Int32)
  · rw [if_pos hc] at hf ⊢
    refine msegT C kX4_takeTold 20 3 (g := (true, (if x5 ≤ v2 then 48 else 43), [.ref (1), .retAddr 0, .int v2, .int x5], [], mk b S4)) rfl rfl ?_
    by_cases hc : x5 ≤ v2
    · rw [if_pos hc] at hf ⊢
      exact mfor (L' := [.ref (1), .retAddr 0, .retAddr 0, .int x5]) ⟨Or.inr rfl, Or.inl rfl, Or.inl rfl, Or.inr rfl, trivial⟩ (bX4_takeTold_48_900003 C hr hk hf true)
    · rw [if_neg hc] at hf ⊢
      refine msegT C kX4_takeTold 23 2 (g := (true, 45, [.ref (1), .retAddr 0, .int v2, .int x5], [.int (4 : Int32), .ref (1)], mk b S4)) rfl rfl ?_
      obtain ⟨S6, hq, hf⟩ := bndV_ex hf
      refine mcall (kd := 0) (vs := [.ref (1), .int (4 : Int32)]) (rest := []) (r := none) (h' := mk b S6) (ok' := true) C lkRX4_79 (qX4_refuse hq) (kX4_takeTold _ (List.mem_of_getElem? (i := 25) rfl)).1 ⟨_, _, rfl, rfl, Nat.le_of_ble_eq_true rfl, _, _, rfl, rfl, rfl⟩ (Nat.le_of_ble_eq_true rfl) (Nat.le_of_ble_eq_true rfl) (Nat.le_refl _) (Nat.le_refl _) (Nat.le_of_ble_eq_true rfl) ?_
      exact mfor (L' := [.ref (1), .retAddr 0, .retAddr 0, .int x5]) ⟨Or.inr rfl, Or.inl rfl, Or.inl rfl, Or.inr rfl, trivial⟩ (bX4_takeTold_48_900003 C hr hk hf true)
  · rw [if_neg hc] at hf ⊢
    refine msegT C kX4_takeTold 16 2 (g := (true, 32, [.ref (1), .retAddr 0, .int v2, .int x5], [.int (2 : Int32), .ref (1)], mk b S4)) rfl rfl ?_
    obtain ⟨S7, hq, hf⟩ := bndV_ex hf
    refine mcall (kd := 0) (vs := [.ref (1), .int (2 : Int32)]) (rest := []) (r := none) (h' := mk b S7) (ok' := true) C lkRX4_79 (qX4_refuse hq) (kX4_takeTold _ (List.mem_of_getElem? (i := 18) rfl)).1 ⟨_, _, rfl, rfl, Nat.le_of_ble_eq_true rfl, _, _, rfl, rfl, rfl⟩ (Nat.le_of_ble_eq_true rfl) (Nat.le_of_ble_eq_true rfl) (Nat.le_refl _) (Nat.le_refl _) (Nat.le_of_ble_eq_true rfl) ?_
    refine msegT C kX4_takeTold 19 1 (g := (true, 48, [.ref (1), .retAddr 0, .int v2, .int x5], [], mk b S7)) rfl rfl ?_
    exact mfor (L' := [.ref (1), .retAddr 0, .retAddr 0, .int x5]) ⟨Or.inr rfl, Or.inl rfl, Or.inl rfl, Or.inr rfl, trivial⟩ (bX4_takeTold_48_900003 C hr hk hf true)
theorem bX4_takeTold_0_900003 (C : mCx p (mR 7) s m args meth c G cX4_takeTold RX4 4 false 233 54500 233 54500) (hr : meth.sig.returnType = (some .int)) (hk : meth.locks = false) {b : Bool} {S' : mT} {r : Int32} {v2 : Int32} {S : mT} (hf : fX4_takeTold 900003 v2 S = some (r, S')) (ok : Bool) : mW p l e (mR 7) s m args below meth c G 4 233 54500 (mQ below G args s b S' (some (.int r))) (ok, 0, [.ref (1), .ref (900003), .int v2, .retAddr 0], [], mk b S) := by
  unfold fX4_takeTold at hf
  refine msegT C kX4_takeTold 0 2 (g := (true, 2, [.ref (1), .ref (900003), .int v2, .retAddr 0], [.ref (900003), .ref (1)], mk b S)) rfl rfl ?_
  obtain ⟨x2, S1, hq, hf⟩ := bndC_ex hf
  refine mcall (kd := 0) (vs := [.ref (1), .ref (900003)]) (rest := []) (r := (some (.int x2))) (h' := mk b S1) (ok' := true) C lkRX4_38 (qX4_isWord_900003 hq) (kX4_takeTold _ (List.mem_of_getElem? (i := 2) rfl)).1 ⟨_, _, rfl, rfl, Nat.le_of_ble_eq_true rfl, _, _, rfl, rfl, rfl⟩ (Nat.le_of_ble_eq_true rfl) (Nat.le_of_ble_eq_true rfl) (Nat.le_refl _) (Nat.le_refl _) (Nat.le_of_ble_eq_true rfl) ?_
  refine msegT C kX4_takeTold 3 1 (g := (true, (if x2 = 0 then 8 else 13), [.ref (1), .ref (900003), .int v2, .retAddr 0], [], mk b S1)) rfl rfl ?_
  by_cases hc : x2 = 0
  · rw [if_pos hc] at hf ⊢
    refine msegT C kX4_takeTold 4 2 (g := (true, 10, [.ref (1), .ref (900003), .int v2, .retAddr 0], [.int (2 : Int32), .ref (1)], mk b S1)) rfl rfl ?_
    obtain ⟨S3, hq, hf⟩ := bndV_ex hf
    refine mcall (kd := 0) (vs := [.ref (1), .int (2 : Int32)]) (rest := []) (r := none) (h' := mk b S3) (ok' := true) C lkRX4_79 (qX4_refuse hq) (kX4_takeTold _ (List.mem_of_getElem? (i := 6) rfl)).1 ⟨_, _, rfl, rfl, Nat.le_of_ble_eq_true rfl, _, _, rfl, rfl, rfl⟩ (Nat.le_of_ble_eq_true rfl) (Nat.le_of_ble_eq_true rfl) (Nat.le_refl _) (Nat.le_refl _) (Nat.le_of_ble_eq_true rfl) ?_
    exact mfor (L' := [.ref (1), .retAddr 0, .int v2, .retAddr 0]) ⟨Or.inr rfl, Or.inl rfl, Or.inr rfl, Or.inl rfl, trivial⟩ (bX4_takeTold_13_900003 C hr hk hf true)
  · rw [if_neg hc] at hf ⊢
    exact mfor (L' := [.ref (1), .retAddr 0, .int v2, .retAddr 0]) ⟨Or.inr rfl, Or.inl rfl, Or.inr rfl, Or.inl rfl, trivial⟩ (bX4_takeTold_13_900003 C hr hk hf true)
theorem qX4_takeTold_900003 {b : Bool} {v2 : Int32} {S S' : mT} {r : Int32} (hf : fX4_takeTold 900003 v2 S = some (r, S')) : mOk l mX4_takeTold 7 [.ref (1), .ref (900003), .int v2] b S (some (.int r)) S' :=
  gMet (by decide) (Nat.le_of_ble_eq_true rfl) rfl (Nat.le_of_ble_eq_true rfl) (fun p e s m args below meth c G C hr hk => bX4_takeTold_0_900003 C hr hk hf true)
theorem bX4_takeTold_48_900004 (C : mCx p (mR 7) s m args meth c G cX4_takeTold RX4 4 false 233 54500 233 54500) (hr : meth.sig.returnType = (some .int)) (hk : meth.locks = false) {b : Bool} {S' : mT} {r : Int32} {v3 : Int32} {S : mT} (hf : fX4_takeTold_48 900004 v3 S = some (r, S')) (ok : Bool) : mW p l e (mR 7) s m args below meth c G 4 233 54500 (mQ below G args s b S' (some (.int r))) (ok, 48, [.ref (1), .retAddr 0, .retAddr 0, .int v3], [], mk b S) := by
  unfold fX4_takeTold_48 at hf
  refine msegT C kX4_takeTold 26 1 (g := (true, 49, [.ref (1), .retAddr 0, .retAddr 0, .int v3], [.ref (1)], mk b S)) rfl rfl ?_
  obtain ⟨S8, hq, hf⟩ := bndV_ex hf
  refine mcall (kd := 0) (vs := [.ref (1)]) (rest := []) (r := none) (h' := mk b S8) (ok' := true) C lkRX4_30 (qX4_advance hq) (kX4_takeTold _ (List.mem_of_getElem? (i := 27) rfl)).1 ⟨_, _, rfl, rfl, Nat.le_of_ble_eq_true rfl, _, _, rfl, rfl, rfl⟩ (Nat.le_of_ble_eq_true rfl) (Nat.le_of_ble_eq_true rfl) (Nat.le_refl _) (Nat.le_refl _) (Nat.le_of_ble_eq_true rfl) ?_
  refine msegT C kX4_takeTold 28 1 (g := (true, 53, [.ref (1), .retAddr 0, .retAddr 0, .int v3], [.int v3], mk b S8)) rfl rfl ?_
  cases hf
  exact gret_i C hr hk (kX4_takeTold _ (List.mem_of_getElem? (i := 29) rfl)).1
theorem bX4_takeTold_13_900004 (C : mCx p (mR 7) s m args meth c G cX4_takeTold RX4 4 false 233 54500 233 54500) (hr : meth.sig.returnType = (some .int)) (hk : meth.locks = false) {b : Bool} {S' : mT} {r : Int32} {v2 : Int32} {S : mT} (hf : fX4_takeTold_13 900004 v2 S = some (r, S')) (ok : Bool) : mW p l e (mR 7) s m args below meth c G 4 233 54500 (mQ below G args s b S' (some (.int r))) (ok, 13, [.ref (1), .retAddr 0, .int v2, .retAddr 0], [], mk b S) := by
  unfold fX4_takeTold_13 at hf
  refine msegT C kX4_takeTold 7 1 (g := (true, 14, [.ref (1), .retAddr 0, .int v2, .retAddr 0], [.ref (1)], mk b S)) rfl rfl ?_
  obtain ⟨S4, hq, hf⟩ := bndV_ex hf
  refine mcall (kd := 0) (vs := [.ref (1)]) (rest := []) (r := none) (h' := mk b S4) (ok' := true) C lkRX4_30 (qX4_advance hq) (kX4_takeTold _ (List.mem_of_getElem? (i := 8) rfl)).1 ⟨_, _, rfl, rfl, Nat.le_of_ble_eq_true rfl, _, _, rfl, rfl, rfl⟩ (Nat.le_of_ble_eq_true rfl) (Nat.le_of_ble_eq_true rfl) (Nat.le_refl _) (Nat.le_refl _) (Nat.le_of_ble_eq_true rfl) ?_
  obtain ⟨hok, hf⟩ := grd_ex hf
  refine msegT C kX4_takeTold 9 3 (g := ((kO 1 4 && true), 22, [.ref (1), .retAddr 0, .int v2, .int (S4.1 1 7)], [], mk b S4)) rfl hok ?_
  obtain ⟨x5, ex5, hf⟩ := bnd_ex hf
  rw [← ex5]
  obtain ⟨hok, hf⟩ := grd_ex hf
  refine msegT C kX4_takeTold 12 4 (g := ((kO 1 4 && true), (if (S4.1 1 4) = (2 : Int32) then 38 else 30), [.ref (1), .retAddr 0, .int v2, .int x5], [], mk b S4)) rfl hok ?_
  by_cases hc : (S4.1 1 4) = (2 : Int32)
  · rw [if_pos hc] at hf ⊢
    refine msegT C kX4_takeTold 20 3 (g := (true, (if x5 ≤ v2 then 48 else 43), [.ref (1), .retAddr 0, .int v2, .int x5], [], mk b S4)) rfl rfl ?_
    by_cases hc : x5 ≤ v2
    · rw [if_pos hc] at hf ⊢
      exact mfor (L' := [.ref (1), .retAddr 0, .retAddr 0, .int x5]) ⟨Or.inr rfl, Or.inl rfl, Or.inl rfl, Or.inr rfl, trivial⟩ (bX4_takeTold_48_900004 C hr hk hf true)
    · rw [if_neg hc] at hf ⊢
      refine msegT C kX4_takeTold 23 2 (g := (true, 45, [.ref (1), .retAddr 0, .int v2, .int x5], [.int (4 : Int32), .ref (1)], mk b S4)) rfl rfl ?_
      obtain ⟨S6, hq, hf⟩ := bndV_ex hf
      refine mcall (kd := 0) (vs := [.ref (1), .int (4 : Int32)]) (rest := []) (r := none) (h' := mk b S6) (ok' := true) C lkRX4_79 (qX4_refuse hq) (kX4_takeTold _ (List.mem_of_getElem? (i := 25) rfl)).1 ⟨_, _, rfl, rfl, Nat.le_of_ble_eq_true rfl, _, _, rfl, rfl, rfl⟩ (Nat.le_of_ble_eq_true rfl) (Nat.le_of_ble_eq_true rfl) (Nat.le_refl _) (Nat.le_refl _) (Nat.le_of_ble_eq_true rfl) ?_
      exact mfor (L' := [.ref (1), .retAddr 0, .retAddr 0, .int x5]) ⟨Or.inr rfl, Or.inl rfl, Or.inl rfl, Or.inr rfl, trivial⟩ (bX4_takeTold_48_900004 C hr hk hf true)
  · rw [if_neg hc] at hf ⊢
    refine msegT C kX4_takeTold 16 2 (g := (true, 32, [.ref (1), .retAddr 0, .int v2, .int x5], [.int (2 : Int32), .ref (1)], mk b S4)) rfl rfl ?_
    obtain ⟨S7, hq, hf⟩ := bndV_ex hf
    refine mcall (kd := 0) (vs := [.ref (1), .int (2 : Int32)]) (rest := []) (r := none) (h' := mk b S7) (ok' := true) C lkRX4_79 (qX4_refuse hq) (kX4_takeTold _ (List.mem_of_getElem? (i := 18) rfl)).1 ⟨_, _, rfl, rfl, Nat.le_of_ble_eq_true rfl, _, _, rfl, rfl, rfl⟩ (Nat.le_of_ble_eq_true rfl) (Nat.le_of_ble_eq_true rfl) (Nat.le_refl _) (Nat.le_refl _) (Nat.le_of_ble_eq_true rfl) ?_
    refine msegT C kX4_takeTold 19 1 (g := (true, 48, [.ref (1), .retAddr 0, .int v2, .int x5], [], mk b S7)) rfl rfl ?_
    exact mfor (L' := [.ref (1), .retAddr 0, .retAddr 0, .int x5]) ⟨Or.inr rfl, Or.inl rfl, Or.inl rfl, Or.inr rfl, trivial⟩ (bX4_takeTold_48_900004 C hr hk hf true)
theorem bX4_takeTold_0_900004 (C : mCx p (mR 7) s m args meth c G cX4_takeTold RX4 4 false 233 54500 233 54500) (hr : meth.sig.returnType = (some .int)) (hk : meth.locks = false) {b : Bool} {S' : mT} {r : Int32} {v2 : Int32} {S : mT} (hf : fX4_takeTold 900004 v2 S = some (r, S')) (ok : Bool) : mW p l e (mR 7) s m args below meth c G 4 233 54500 (mQ below G args s b S' (some (.int r))) (ok, 0, [.ref (1), .ref (900004), .int v2, .retAddr 0], [], mk b S) := by
  unfold fX4_takeTold at hf
  refine msegT C kX4_takeTold 0 2 (g := (true, 2, [.ref (1), .ref (900004), .int v2, .retAddr 0], [.ref (900004), .ref (1)], mk b S)) rfl rfl ?_
  obtain ⟨x2, S1, hq, hf⟩ := bndC_ex hf
  refine mcall (kd := 0) (vs := [.ref (1), .ref (900004)]) (rest := []) (r := (some (.int x2))) (h' := mk b S1) (ok' := true) C lkRX4_38 (qX4_isWord_900004 hq) (kX4_takeTold _ (List.mem_of_getElem? (i := 2) rfl)).1 ⟨_, _, rfl, rfl, Nat.le_of_ble_eq_true rfl, _, _, rfl, rfl, rfl⟩ (Nat.le_of_ble_eq_true rfl) (Nat.le_of_ble_eq_true rfl) (Nat.le_refl _) (Nat.le_refl _) (Nat.le_of_ble_eq_true rfl) ?_
  refine msegT C kX4_takeTold 3 1 (g := (true, (if x2 = 0 then 8 else 13), [.ref (1), .ref (900004), .int v2, .retAddr 0], [], mk b S1)) rfl rfl ?_
  by_cases hc : x2 = 0
  · rw [if_pos hc] at hf ⊢
    refine msegT C kX4_takeTold 4 2 (g := (true, 10, [.ref (1), .ref (900004), .int v2, .retAddr 0], [.int (2 : Int32), .ref (1)], mk b S1)) rfl rfl ?_
    obtain ⟨S3, hq, hf⟩ := bndV_ex hf
    refine mcall (kd := 0) (vs := [.ref (1), .int (2 : Int32)]) (rest := []) (r := none) (h' := mk b S3) (ok' := true) C lkRX4_79 (qX4_refuse hq) (kX4_takeTold _ (List.mem_of_getElem? (i := 6) rfl)).1 ⟨_, _, rfl, rfl, Nat.le_of_ble_eq_true rfl, _, _, rfl, rfl, rfl⟩ (Nat.le_of_ble_eq_true rfl) (Nat.le_of_ble_eq_true rfl) (Nat.le_refl _) (Nat.le_refl _) (Nat.le_of_ble_eq_true rfl) ?_
    exact mfor (L' := [.ref (1), .retAddr 0, .int v2, .retAddr 0]) ⟨Or.inr rfl, Or.inl rfl, Or.inr rfl, Or.inl rfl, trivial⟩ (bX4_takeTold_13_900004 C hr hk hf true)
  · rw [if_neg hc] at hf ⊢
    exact mfor (L' := [.ref (1), .retAddr 0, .int v2, .retAddr 0]) ⟨Or.inr rfl, Or.inl rfl, Or.inr rfl, Or.inl rfl, trivial⟩ (bX4_takeTold_13_900004 C hr hk hf true)
theorem qX4_takeTold_900004 {b : Bool} {v2 : Int32} {S S' : mT} {r : Int32} (hf : fX4_takeTold 900004 v2 S = some (r, S')) : mOk l mX4_takeTold 7 [.ref (1), .ref (900004), .int v2] b S (some (.int r)) S' :=
  gMet (by decide) (Nat.le_of_ble_eq_true rfl) rfl (Nat.le_of_ble_eq_true rfl) (fun p e s m args below meth c G C hr hk => bX4_takeTold_0_900004 C hr hk hf true)
theorem bX4_readDraw_12_3 (C : mCx p (mR 8) s m args meth c G cX4_readDraw RX4 2 false 233 54500 233 54500) (hr : meth.sig.returnType = none) (hk : meth.locks = false) {b : Bool} {S' : mT} {S : mT} (hf : fX4_readDraw_12 3 S = some S') (ok : Bool) : mW p l e (mR 8) s m args below meth c G 2 233 54500 (mQ below G args s b S' none) (ok, 12, [.ref (1), .ref (3)], [], mk b S) := by
  unfold fX4_readDraw_12 at hf
  obtain ⟨hok, hf⟩ := grd_ex hf
  refine msegT C kX4_readDraw 6 3 (g := ((mFit .boolean (1 : Int32) && (kO 3 8 && true)), 17, [.ref (1), .ref (3)], [], mk b (sI S 3 11 (1 : Int32)))) rfl hok ?_
  obtain ⟨S2, eS2, hf⟩ := bnd_ex hf
  rw [← eS2]
  refine msegT C kX4_readDraw 9 4 (g := (true, 24, [.ref (1), .ref (3)], [.int (999 : Int32), .ref 900008, .ref (1), .ref (3)], mk b S2)) rfl rfl ?_
  obtain ⟨x4, S3, hq, hf⟩ := bndC_ex hf
  refine mcall (kd := 0) (vs := [.ref (1), .ref 900008, .int (999 : Int32)]) (rest := [.ref (3)]) (r := (some (.int x4))) (h' := mk b S3) (ok' := true) C lkRX4_88 (qX4_takeTold_900008 hq) (kX4_readDraw _ (List.mem_of_getElem? (i := 13) rfl)).1 ⟨_, _, rfl, rfl, Nat.le_of_ble_eq_true rfl, _, _, rfl, rfl, rfl⟩ (Nat.le_of_ble_eq_true rfl) (Nat.le_of_ble_eq_true rfl) (Nat.le_refl _) (Nat.le_refl _) (Nat.le_of_ble_eq_true rfl) ?_
  obtain ⟨hok, hf⟩ := grd_ex hf
  refine msegT C kX4_readDraw 14 1 (g := ((kO 3 8 && true), 30, [.ref (1), .ref (3)], [], mk b (sI S3 3 10 x4))) rfl hok ?_
  obtain ⟨S5, eS5, hf⟩ := bnd_ex hf
  rw [← eS5]
  cases hf
  exact gret_v C hr hk (kX4_readDraw _ (List.mem_of_getElem? (i := 15) rfl)).1
theorem bX4_readDraw_0_3 (C : mCx p (mR 8) s m args meth c G cX4_readDraw RX4 2 false 233 54500 233 54500) (hr : meth.sig.returnType = none) (hk : meth.locks = false) {b : Bool} {S' : mT} {S : mT} (hf : fX4_readDraw 3 S = some S') (ok : Bool) : mW p l e (mR 8) s m args below meth c G 2 233 54500 (mQ below G args s b S' none) (ok, 0, [.ref (1), .ref (3)], [], mk b S) := by
  unfold fX4_readDraw at hf
  obtain ⟨hok, hf⟩ := grd_ex hf
  refine msegT C kX4_readDraw 0 3 (g := ((kO 3 8 && true), (if (S.1 3 11) = 0 then 12 else 7), [.ref (1), .ref (3)], [], mk b S)) rfl hok ?_
  by_cases hc : (S.1 3 11) = 0
  · rw [if_pos hc] at hf ⊢
    exact mfor (L' := [.ref (1), .ref (3)]) ⟨Or.inr rfl, Or.inr rfl, trivial⟩ (bX4_readDraw_12_3 C hr hk hf true)
  · rw [if_neg hc] at hf ⊢
    refine msegT C kX4_readDraw 3 2 (g := (true, 9, [.ref (1), .ref (3)], [.int (2 : Int32), .ref (1)], mk b S)) rfl rfl ?_
    obtain ⟨S1, hq, hf⟩ := bndV_ex hf
    refine mcall (kd := 0) (vs := [.ref (1), .int (2 : Int32)]) (rest := []) (r := none) (h' := mk b S1) (ok' := true) C lkRX4_79 (qX4_refuse hq) (kX4_readDraw _ (List.mem_of_getElem? (i := 5) rfl)).1 ⟨_, _, rfl, rfl, Nat.le_of_ble_eq_true rfl, _, _, rfl, rfl, rfl⟩ (Nat.le_of_ble_eq_true rfl) (Nat.le_of_ble_eq_true rfl) (Nat.le_refl _) (Nat.le_refl _) (Nat.le_of_ble_eq_true rfl) ?_
    exact mfor (L' := [.ref (1), .ref (3)]) ⟨Or.inr rfl, Or.inr rfl, trivial⟩ (bX4_readDraw_12_3 C hr hk hf true)
theorem qX4_readDraw_3 {b : Bool} {S S' : mT} (hf : fX4_readDraw 3 S = some S') : mOk l mX4_readDraw 8 [.ref (1), .ref (3)] b S none S' :=
  gMet (by decide) (Nat.le_of_ble_eq_true rfl) rfl (Nat.le_of_ble_eq_true rfl) (fun p e s m args below meth c G C hr hk => bX4_readDraw_0_3 C hr hk hf true)
theorem bX4_readDraw_12_19 (C : mCx p (mR 8) s m args meth c G cX4_readDraw RX4 2 false 233 54500 233 54500) (hr : meth.sig.returnType = none) (hk : meth.locks = false) {b : Bool} {S' : mT} {S : mT} (hf : fX4_readDraw_12 19 S = some S') (ok : Bool) : mW p l e (mR 8) s m args below meth c G 2 233 54500 (mQ below G args s b S' none) (ok, 12, [.ref (1), .ref (19)], [], mk b S) := by
  unfold fX4_readDraw_12 at hf
  obtain ⟨hok, hf⟩ := grd_ex hf
  refine msegT C kX4_readDraw 6 3 (g := ((mFit .boolean (1 : Int32) && (kO 19 8 && true)), 17, [.ref (1), .ref (19)], [], mk b (sI S 19 11 (1 : Int32)))) rfl hok ?_
  obtain ⟨S2, eS2, hf⟩ := bnd_ex hf
  rw [← eS2]
  refine msegT C kX4_readDraw 9 4 (g := (true, 24, [.ref (1), .ref (19)], [.int (999 : Int32), .ref 900008, .ref (1), .ref (19)], mk b S2)) rfl rfl ?_
  obtain ⟨x4, S3, hq, hf⟩ := bndC_ex hf
  refine mcall (kd := 0) (vs := [.ref (1), .ref 900008, .int (999 : Int32)]) (rest := [.ref (19)]) (r := (some (.int x4))) (h' := mk b S3) (ok' := true) C lkRX4_88 (qX4_takeTold_900008 hq) (kX4_readDraw _ (List.mem_of_getElem? (i := 13) rfl)).1 ⟨_, _, rfl, rfl, Nat.le_of_ble_eq_true rfl, _, _, rfl, rfl, rfl⟩ (Nat.le_of_ble_eq_true rfl) (Nat.le_of_ble_eq_true rfl) (Nat.le_refl _) (Nat.le_refl _) (Nat.le_of_ble_eq_true rfl) ?_
  obtain ⟨hok, hf⟩ := grd_ex hf
  refine msegT C kX4_readDraw 14 1 (g := ((kO 19 8 && true), 30, [.ref (1), .ref (19)], [], mk b (sI S3 19 10 x4))) rfl hok ?_
  obtain ⟨S5, eS5, hf⟩ := bnd_ex hf
  rw [← eS5]
  cases hf
  exact gret_v C hr hk (kX4_readDraw _ (List.mem_of_getElem? (i := 15) rfl)).1
theorem bX4_readDraw_0_19 (C : mCx p (mR 8) s m args meth c G cX4_readDraw RX4 2 false 233 54500 233 54500) (hr : meth.sig.returnType = none) (hk : meth.locks = false) {b : Bool} {S' : mT} {S : mT} (hf : fX4_readDraw 19 S = some S') (ok : Bool) : mW p l e (mR 8) s m args below meth c G 2 233 54500 (mQ below G args s b S' none) (ok, 0, [.ref (1), .ref (19)], [], mk b S) := by
  unfold fX4_readDraw at hf
  obtain ⟨hok, hf⟩ := grd_ex hf
  refine msegT C kX4_readDraw 0 3 (g := ((kO 19 8 && true), (if (S.1 19 11) = 0 then 12 else 7), [.ref (1), .ref (19)], [], mk b S)) rfl hok ?_
  by_cases hc : (S.1 19 11) = 0
  · rw [if_pos hc] at hf ⊢
    exact mfor (L' := [.ref (1), .ref (19)]) ⟨Or.inr rfl, Or.inr rfl, trivial⟩ (bX4_readDraw_12_19 C hr hk hf true)
  · rw [if_neg hc] at hf ⊢
    refine msegT C kX4_readDraw 3 2 (g := (true, 9, [.ref (1), .ref (19)], [.int (2 : Int32), .ref (1)], mk b S)) rfl rfl ?_
    obtain ⟨S1, hq, hf⟩ := bndV_ex hf
    refine mcall (kd := 0) (vs := [.ref (1), .int (2 : Int32)]) (rest := []) (r := none) (h' := mk b S1) (ok' := true) C lkRX4_79 (qX4_refuse hq) (kX4_readDraw _ (List.mem_of_getElem? (i := 5) rfl)).1 ⟨_, _, rfl, rfl, Nat.le_of_ble_eq_true rfl, _, _, rfl, rfl, rfl⟩ (Nat.le_of_ble_eq_true rfl) (Nat.le_of_ble_eq_true rfl) (Nat.le_refl _) (Nat.le_refl _) (Nat.le_of_ble_eq_true rfl) ?_
    exact mfor (L' := [.ref (1), .ref (19)]) ⟨Or.inr rfl, Or.inr rfl, trivial⟩ (bX4_readDraw_12_19 C hr hk hf true)
theorem qX4_readDraw_19 {b : Bool} {S S' : mT} (hf : fX4_readDraw 19 S = some S') : mOk l mX4_readDraw 8 [.ref (1), .ref (19)] b S none S' :=
  gMet (by decide) (Nat.le_of_ble_eq_true rfl) rfl (Nat.le_of_ble_eq_true rfl) (fun p e s m args below meth c G C hr hk => bX4_readDraw_0_19 C hr hk hf true)
theorem bX4_standsForItself_140 (C : mCx p (mR 7) s m args meth c G cX4_standsForItself RX4 1 false 233 54500 233 54500) (hr : meth.sig.returnType = (some .boolean)) (hk : meth.locks = false) {b : Bool} {S' : mT} {r : Int32} {s0 : Int32} {S : mT} (hf : fX4_standsForItself_140 s0 S = some (r, S')) (ok : Bool) : mW p l e (mR 7) s m args below meth c G 1 233 54500 (mQ below G args s b S' (some (.int r))) (ok, 140, [.retAddr 0], [.int s0], mk b S) := by
  unfold fX4_standsForItself_140 at hf
  obtain ⟨hz, hf⟩ := grd_ex hf
  cases hf
  exact gret_z C hr hk (mFit_nar hz) (kX4_standsForItself _ (List.mem_of_getElem? (i := 63) rfl)).1
theorem bX4_standsForItself_135 (C : mCx p (mR 7) s m args meth c G cX4_standsForItself RX4 1 false 233 54500 233 54500) (hr : meth.sig.returnType = (some .boolean)) (hk : meth.locks = false) {b : Bool} {S' : mT} {r : Int32} {S : mT} (hf : fX4_standsForItself_135 S = some (r, S')) (ok : Bool) : mW p l e (mR 7) s m args below meth c G 1 233 54500 (mQ below G args s b S' (some (.int r))) (ok, 135, [.retAddr 0], [], mk b S) := by
  unfold fX4_standsForItself_135 at hf
  refine msegT C kX4_standsForItself 60 2 (g := (true, 140, [.retAddr 0], [.int (1 : Int32)], mk b S)) rfl rfl ?_
  exact mfor (L' := [.retAddr 0]) ⟨Or.inl rfl, trivial⟩ (bX4_standsForItself_140 C hr hk hf true)
theorem bX4_standsForItself_0 (C : mCx p (mR 7) s m args meth c G cX4_standsForItself RX4 1 false 233 54500 233 54500) (hr : meth.sig.returnType = (some .boolean)) (hk : meth.locks = false) {b : Bool} {S' : mT} {r : Int32} {S : mT} (hf : fX4_standsForItself S = some (r, S')) (ok : Bool) : mW p l e (mR 7) s m args below meth c G 1 233 54500 (mQ below G args s b S' (some (.int r))) (ok, 0, [.ref (1)], [], mk b S) := by
  unfold fX4_standsForItself at hf
  refine msegT C kX4_standsForItself 0 2 (g := (true, 3, [.ref (1)], [.ref 900000, .ref (1)], mk b S)) rfl rfl ?_
  obtain ⟨x2, S1, hq, hf⟩ := bndC_ex hf
  refine mcall (kd := 0) (vs := [.ref (1), .ref 900000]) (rest := []) (r := (some (.int x2))) (h' := mk b S1) (ok' := true) C lkRX4_38 (qX4_isWord_900000 hq) (kX4_standsForItself _ (List.mem_of_getElem? (i := 2) rfl)).1 ⟨_, _, rfl, rfl, Nat.le_of_ble_eq_true rfl, _, _, rfl, rfl, rfl⟩ (Nat.le_of_ble_eq_true rfl) (Nat.le_of_ble_eq_true rfl) (Nat.le_refl _) (Nat.le_refl _) (Nat.le_of_ble_eq_true rfl) ?_
  refine msegT C kX4_standsForItself 3 1 (g := (true, (if x2 = 0 then 9 else 135), [.ref (1)], [], mk b S1)) rfl rfl ?_
  by_cases hc : x2 = 0
  · rw [if_pos hc] at hf ⊢
    refine msegT C kX4_standsForItself 4 2 (g := (true, 12, [.ref (1)], [.ref 900001, .ref (1)], mk b S1)) rfl rfl ?_
    obtain ⟨x4, S3, hq, hf⟩ := bndC_ex hf
    refine mcall (kd := 0) (vs := [.ref (1), .ref 900001]) (rest := []) (r := (some (.int x4))) (h' := mk b S3) (ok' := true) C lkRX4_38 (qX4_isWord_900001 hq) (kX4_standsForItself _ (List.mem_of_getElem? (i := 6) rfl)).1 ⟨_, _, rfl, rfl, Nat.le_of_ble_eq_true rfl, _, _, rfl, rfl, rfl⟩ (Nat.le_of_ble_eq_true rfl) (Nat.le_of_ble_eq_true rfl) (Nat.le_refl _) (Nat.le_refl _) (Nat.le_of_ble_eq_true rfl) ?_
    refine msegT C kX4_standsForItself 7 1 (g := (true, (if x4 = 0 then 18 else 135), [.ref (1)], [], mk b S3)) rfl rfl ?_
    by_cases hc : x4 = 0
    · rw [if_pos hc] at hf ⊢
      refine msegT C kX4_standsForItself 8 2 (g := (true, 21, [.ref (1)], [.ref 900002, .ref (1)], mk b S3)) rfl rfl ?_
      obtain ⟨x6, S5, hq, hf⟩ := bndC_ex hf
      refine mcall (kd := 0) (vs := [.ref (1), .ref 900002]) (rest := []) (r := (some (.int x6))) (h' := mk b S5) (ok' := true) C lkRX4_38 (qX4_isWord_900002 hq) (kX4_standsForItself _ (List.mem_of_getElem? (i := 10) rfl)).1 ⟨_, _, rfl, rfl, Nat.le_of_ble_eq_true rfl, _, _, rfl, rfl, rfl⟩ (Nat.le_of_ble_eq_true rfl) (Nat.le_of_ble_eq_true rfl) (Nat.le_refl _) (Nat.le_refl _) (Nat.le_of_ble_eq_true rfl) ?_
      refine msegT C kX4_standsForItself 11 1 (g := (true, (if x6 = 0 then 27 else 135), [.ref (1)], [], mk b S5)) rfl rfl ?_
      by_cases hc : x6 = 0
      · rw [if_pos hc] at hf ⊢
        refine msegT C kX4_standsForItself 12 2 (g := (true, 30, [.ref (1)], [.ref 900003, .ref (1)], mk b S5)) rfl rfl ?_
        obtain ⟨x8, S7, hq, hf⟩ := bndC_ex hf
        refine mcall (kd := 0) (vs := [.ref (1), .ref 900003]) (rest := []) (r := (some (.int x8))) (h' := mk b S7) (ok' := true) C lkRX4_38 (qX4_isWord_900003 hq) (kX4_standsForItself _ (List.mem_of_getElem? (i := 14) rfl)).1 ⟨_, _, rfl, rfl, Nat.le_of_ble_eq_true rfl, _, _, rfl, rfl, rfl⟩ (Nat.le_of_ble_eq_true rfl) (Nat.le_of_ble_eq_true rfl) (Nat.le_refl _) (Nat.le_refl _) (Nat.le_of_ble_eq_true rfl) ?_
        refine msegT C kX4_standsForItself 15 1 (g := (true, (if x8 = 0 then 36 else 135), [.ref (1)], [], mk b S7)) rfl rfl ?_
        by_cases hc : x8 = 0
        · rw [if_pos hc] at hf ⊢
          refine msegT C kX4_standsForItself 16 2 (g := (true, 39, [.ref (1)], [.ref 900004, .ref (1)], mk b S7)) rfl rfl ?_
          obtain ⟨x10, S9, hq, hf⟩ := bndC_ex hf
          refine mcall (kd := 0) (vs := [.ref (1), .ref 900004]) (rest := []) (r := (some (.int x10))) (h' := mk b S9) (ok' := true) C lkRX4_38 (qX4_isWord_900004 hq) (kX4_standsForItself _ (List.mem_of_getElem? (i := 18) rfl)).1 ⟨_, _, rfl, rfl, Nat.le_of_ble_eq_true rfl, _, _, rfl, rfl, rfl⟩ (Nat.le_of_ble_eq_true rfl) (Nat.le_of_ble_eq_true rfl) (Nat.le_refl _) (Nat.le_refl _) (Nat.le_of_ble_eq_true rfl) ?_
          refine msegT C kX4_standsForItself 19 1 (g := (true, (if x10 = 0 then 45 else 135), [.ref (1)], [], mk b S9)) rfl rfl ?_
          by_cases hc : x10 = 0
          · rw [if_pos hc] at hf ⊢
            refine msegT C kX4_standsForItself 20 2 (g := (true, 48, [.ref (1)], [.ref 900005, .ref (1)], mk b S9)) rfl rfl ?_
            obtain ⟨x12, S11, hq, hf⟩ := bndC_ex hf
            refine mcall (kd := 0) (vs := [.ref (1), .ref 900005]) (rest := []) (r := (some (.int x12))) (h' := mk b S11) (ok' := true) C lkRX4_38 (qX4_isWord_900005 hq) (kX4_standsForItself _ (List.mem_of_getElem? (i := 22) rfl)).1 ⟨_, _, rfl, rfl, Nat.le_of_ble_eq_true rfl, _, _, rfl, rfl, rfl⟩ (Nat.le_of_ble_eq_true rfl) (Nat.le_of_ble_eq_true rfl) (Nat.le_refl _) (Nat.le_refl _) (Nat.le_of_ble_eq_true rfl) ?_
            refine msegT C kX4_standsForItself 23 1 (g := (true, (if x12 = 0 then 54 else 135), [.ref (1)], [], mk b S11)) rfl rfl ?_
            by_cases hc : x12 = 0
            · rw [if_pos hc] at hf ⊢
              refine msegT C kX4_standsForItself 24 2 (g := (true, 57, [.ref (1)], [.ref 900006, .ref (1)], mk b S11)) rfl rfl ?_
              obtain ⟨x14, S13, hq, hf⟩ := bndC_ex hf
              refine mcall (kd := 0) (vs := [.ref (1), .ref 900006]) (rest := []) (r := (some (.int x14))) (h' := mk b S13) (ok' := true) C lkRX4_38 (qX4_isWord_900006 hq) (kX4_standsForItself _ (List.mem_of_getElem? (i := 26) rfl)).1 ⟨_, _, rfl, rfl, Nat.le_of_ble_eq_true rfl, _, _, rfl, rfl, rfl⟩ (Nat.le_of_ble_eq_true rfl) (Nat.le_of_ble_eq_true rfl) (Nat.le_refl _) (Nat.le_refl _) (Nat.le_of_ble_eq_true rfl) ?_
              refine msegT C kX4_standsForItself 27 1 (g := (true, (if x14 = 0 then 63 else 135), [.ref (1)], [], mk b S13)) rfl rfl ?_
              by_cases hc : x14 = 0
              · rw [if_pos hc] at hf ⊢
                refine msegT C kX4_standsForItself 28 2 (g := (true, 66, [.ref (1)], [.ref 900007, .ref (1)], mk b S13)) rfl rfl ?_
                obtain ⟨x16, S15, hq, hf⟩ := bndC_ex hf
                refine mcall (kd := 0) (vs := [.ref (1), .ref 900007]) (rest := []) (r := (some (.int x16))) (h' := mk b S15) (ok' := true) C lkRX4_38 (qX4_isWord_900007 hq) (kX4_standsForItself _ (List.mem_of_getElem? (i := 30) rfl)).1 ⟨_, _, rfl, rfl, Nat.le_of_ble_eq_true rfl, _, _, rfl, rfl, rfl⟩ (Nat.le_of_ble_eq_true rfl) (Nat.le_of_ble_eq_true rfl) (Nat.le_refl _) (Nat.le_refl _) (Nat.le_of_ble_eq_true rfl) ?_
                refine msegT C kX4_standsForItself 31 1 (g := (true, (if x16 = 0 then 72 else 135), [.ref (1)], [], mk b S15)) rfl rfl ?_
                by_cases hc : x16 = 0
                · rw [if_pos hc] at hf ⊢
                  refine msegT C kX4_standsForItself 32 2 (g := (true, 75, [.ref (1)], [.ref 900008, .ref (1)], mk b S15)) rfl rfl ?_
                  obtain ⟨x18, S17, hq, hf⟩ := bndC_ex hf
                  refine mcall (kd := 0) (vs := [.ref (1), .ref 900008]) (rest := []) (r := (some (.int x18))) (h' := mk b S17) (ok' := true) C lkRX4_38 (qX4_isWord_900008 hq) (kX4_standsForItself _ (List.mem_of_getElem? (i := 34) rfl)).1 ⟨_, _, rfl, rfl, Nat.le_of_ble_eq_true rfl, _, _, rfl, rfl, rfl⟩ (Nat.le_of_ble_eq_true rfl) (Nat.le_of_ble_eq_true rfl) (Nat.le_refl _) (Nat.le_refl _) (Nat.le_of_ble_eq_true rfl) ?_
                  refine msegT C kX4_standsForItself 35 1 (g := (true, (if x18 = 0 then 81 else 135), [.ref (1)], [], mk b S17)) rfl rfl ?_
                  by_cases hc : x18 = 0
                  · rw [if_pos hc] at hf ⊢
                    refine msegT C kX4_standsForItself 36 2 (g := (true, 84, [.ref (1)], [.ref 900009, .ref (1)], mk b S17)) rfl rfl ?_
                    obtain ⟨x20, S19, hq, hf⟩ := bndC_ex hf
                    refine mcall (kd := 0) (vs := [.ref (1), .ref 900009]) (rest := []) (r := (some (.int x20))) (h' := mk b S19) (ok' := true) C lkRX4_38 (qX4_isWord_900009 hq) (kX4_standsForItself _ (List.mem_of_getElem? (i := 38) rfl)).1 ⟨_, _, rfl, rfl, Nat.le_of_ble_eq_true rfl, _, _, rfl, rfl, rfl⟩ (Nat.le_of_ble_eq_true rfl) (Nat.le_of_ble_eq_true rfl) (Nat.le_refl _) (Nat.le_refl _) (Nat.le_of_ble_eq_true rfl) ?_
                    refine msegT C kX4_standsForItself 39 1 (g := (true, (if x20 = 0 then 90 else 135), [.ref (1)], [], mk b S19)) rfl rfl ?_
                    by_cases hc : x20 = 0
                    · rw [if_pos hc] at hf ⊢
                      refine msegT C kX4_standsForItself 40 2 (g := (true, 93, [.ref (1)], [.ref 900010, .ref (1)], mk b S19)) rfl rfl ?_
                      obtain ⟨x22, S21, hq, hf⟩ := bndC_ex hf
                      refine mcall (kd := 0) (vs := [.ref (1), .ref 900010]) (rest := []) (r := (some (.int x22))) (h' := mk b S21) (ok' := true) C lkRX4_38 (qX4_isWord_900010 hq) (kX4_standsForItself _ (List.mem_of_getElem? (i := 42) rfl)).1 ⟨_, _, rfl, rfl, Nat.le_of_ble_eq_true rfl, _, _, rfl, rfl, rfl⟩ (Nat.le_of_ble_eq_true rfl) (Nat.le_of_ble_eq_true rfl) (Nat.le_refl _) (Nat.le_refl _) (Nat.le_of_ble_eq_true rfl) ?_
                      refine msegT C kX4_standsForItself 43 1 (g := (true, (if x22 = 0 then 99 else 135), [.ref (1)], [], mk b S21)) rfl rfl ?_
                      by_cases hc : x22 = 0
                      · rw [if_pos hc] at hf ⊢
                        refine msegT C kX4_standsForItself 44 2 (g := (true, 102, [.ref (1)], [.ref 900011, .ref (1)], mk b S21)) rfl rfl ?_
                        obtain ⟨x24, S23, hq, hf⟩ := bndC_ex hf
                        refine mcall (kd := 0) (vs := [.ref (1), .ref 900011]) (rest := []) (r := (some (.int x24))) (h' := mk b S23) (ok' := true) C lkRX4_38 (qX4_isWord_900011 hq) (kX4_standsForItself _ (List.mem_of_getElem? (i := 46) rfl)).1 ⟨_, _, rfl, rfl, Nat.le_of_ble_eq_true rfl, _, _, rfl, rfl, rfl⟩ (Nat.le_of_ble_eq_true rfl) (Nat.le_of_ble_eq_true rfl) (Nat.le_refl _) (Nat.le_refl _) (Nat.le_of_ble_eq_true rfl) ?_
                        refine msegT C kX4_standsForItself 47 1 (g := (true, (if x24 = 0 then 108 else 135), [.ref (1)], [], mk b S23)) rfl rfl ?_
                        by_cases hc : x24 = 0
                        · rw [if_pos hc] at hf ⊢
                          refine msegT C kX4_standsForItself 48 2 (g := (true, 111, [.ref (1)], [.ref 900012, .ref (1)], mk b S23)) rfl rfl ?_
                          obtain ⟨x26, S25, hq, hf⟩ := bndC_ex hf
                          refine mcall (kd := 0) (vs := [.ref (1), .ref 900012]) (rest := []) (r := (some (.int x26))) (h' := mk b S25) (ok' := true) C lkRX4_38 (qX4_isWord_900012 hq) (kX4_standsForItself _ (List.mem_of_getElem? (i := 50) rfl)).1 ⟨_, _, rfl, rfl, Nat.le_of_ble_eq_true rfl, _, _, rfl, rfl, rfl⟩ (Nat.le_of_ble_eq_true rfl) (Nat.le_of_ble_eq_true rfl) (Nat.le_refl _) (Nat.le_refl _) (Nat.le_of_ble_eq_true rfl) ?_
                          refine msegT C kX4_standsForItself 51 1 (g := (true, (if x26 = 0 then 117 else 135), [.ref (1)], [], mk b S25)) rfl rfl ?_
                          by_cases hc : x26 = 0
                          · rw [if_pos hc] at hf ⊢
                            refine msegT C kX4_standsForItself 52 2 (g := (true, 120, [.ref (1)], [.ref 900013, .ref (1)], mk b S25)) rfl rfl ?_
                            obtain ⟨x28, S27, hq, hf⟩ := bndC_ex hf
                            refine mcall (kd := 0) (vs := [.ref (1), .ref 900013]) (rest := []) (r := (some (.int x28))) (h' := mk b S27) (ok' := true) C lkRX4_38 (qX4_isWord_900013 hq) (kX4_standsForItself _ (List.mem_of_getElem? (i := 54) rfl)).1 ⟨_, _, rfl, rfl, Nat.le_of_ble_eq_true rfl, _, _, rfl, rfl, rfl⟩ (Nat.le_of_ble_eq_true rfl) (Nat.le_of_ble_eq_true rfl) (Nat.le_refl _) (Nat.le_refl _) (Nat.le_of_ble_eq_true rfl) ?_
                            refine msegT C kX4_standsForItself 55 1 (g := (true, (if x28 = 0 then 126 else 135), [.ref (1)], [], mk b S27)) rfl rfl ?_
                            by_cases hc : x28 = 0
                            · rw [if_pos hc] at hf ⊢
                              refine msegT C kX4_standsForItself 56 2 (g := (true, 129, [.ref (1)], [.ref 900014, .ref (1)], mk b S27)) rfl rfl ?_
                              obtain ⟨x30, S29, hq, hf⟩ := bndC_ex hf
                              refine mcall (kd := 0) (vs := [.ref (1), .ref 900014]) (rest := []) (r := (some (.int x30))) (h' := mk b S29) (ok' := true) C lkRX4_38 (qX4_isWord_900014 hq) (kX4_standsForItself _ (List.mem_of_getElem? (i := 58) rfl)).1 ⟨_, _, rfl, rfl, Nat.le_of_ble_eq_true rfl, _, _, rfl, rfl, rfl⟩ (Nat.le_of_ble_eq_true rfl) (Nat.le_of_ble_eq_true rfl) (Nat.le_refl _) (Nat.le_refl _) (Nat.le_of_ble_eq_true rfl) ?_
                              refine msegT C kX4_standsForItself 59 1 (g := (true, (if x30 = 0 then 139 else 135), [.ref (1)], [], mk b S29)) rfl rfl ?_
                              by_cases hc : x30 = 0
                              · rw [if_pos hc] at hf ⊢
                                refine msegT C kX4_standsForItself 62 1 (g := (true, 140, [.ref (1)], [.int (0 : Int32)], mk b S29)) rfl rfl ?_
                                exact mfor (L' := [.retAddr 0]) ⟨Or.inl rfl, trivial⟩ (bX4_standsForItself_140 C hr hk hf true)
                              · rw [if_neg hc] at hf ⊢
                                exact mfor (L' := [.retAddr 0]) ⟨Or.inl rfl, trivial⟩ (bX4_standsForItself_135 C hr hk hf true)
                            · rw [if_neg hc] at hf ⊢
                              exact mfor (L' := [.retAddr 0]) ⟨Or.inl rfl, trivial⟩ (bX4_standsForItself_135 C hr hk hf true)
                          · rw [if_neg hc] at hf ⊢
                            exact mfor (L' := [.retAddr 0]) ⟨Or.inl rfl, trivial⟩ (bX4_standsForItself_135 C hr hk hf true)
                        · rw [if_neg hc] at hf ⊢
                          exact mfor (L' := [.retAddr 0]) ⟨Or.inl rfl, trivial⟩ (bX4_standsForItself_135 C hr hk hf true)
                      · rw [if_neg hc] at hf ⊢
                        exact mfor (L' := [.retAddr 0]) ⟨Or.inl rfl, trivial⟩ (bX4_standsForItself_135 C hr hk hf true)
                    · rw [if_neg hc] at hf ⊢
                      exact mfor (L' := [.retAddr 0]) ⟨Or.inl rfl, trivial⟩ (bX4_standsForItself_135 C hr hk hf true)
                  · rw [if_neg hc] at hf ⊢
                    exact mfor (L' := [.retAddr 0]) ⟨Or.inl rfl, trivial⟩ (bX4_standsForItself_135 C hr hk hf true)
                · rw [if_neg hc] at hf ⊢
                  exact mfor (L' := [.retAddr 0]) ⟨Or.inl rfl, trivial⟩ (bX4_standsForItself_135 C hr hk hf true)
              · rw [if_neg hc] at hf ⊢
                exact mfor (L' := [.retAddr 0]) ⟨Or.inl rfl, trivial⟩ (bX4_standsForItself_135 C hr hk hf true)
            · rw [if_neg hc] at hf ⊢
              exact mfor (L' := [.retAddr 0]) ⟨Or.inl rfl, trivial⟩ (bX4_standsForItself_135 C hr hk hf true)
          · rw [if_neg hc] at hf ⊢
            exact mfor (L' := [.retAddr 0]) ⟨Or.inl rfl, trivial⟩ (bX4_standsForItself_135 C hr hk hf true)
        · rw [if_neg hc] at hf ⊢
          exact mfor (L' := [.retAddr 0]) ⟨Or.inl rfl, trivial⟩ (bX4_standsForItself_135 C hr hk hf true)
      · rw [if_neg hc] at hf ⊢
        exact mfor (L' := [.retAddr 0]) ⟨Or.inl rfl, trivial⟩ (bX4_standsForItself_135 C hr hk hf true)
    · rw [if_neg hc] at hf ⊢
      exact mfor (L' := [.retAddr 0]) ⟨Or.inl rfl, trivial⟩ (bX4_standsForItself_135 C hr hk hf true)
  · rw [if_neg hc] at hf ⊢
    exact mfor (L' := [.retAddr 0]) ⟨Or.inl rfl, trivial⟩ (bX4_standsForItself_135 C hr hk hf true)
theorem qX4_standsForItself {b : Bool} {S S' : mT} {r : Int32} (hf : fX4_standsForItself S = some (r, S')) : mOk l mX4_standsForItself 7 [.ref (1)] b S (some (.int r)) S' :=
  gMet (by decide) (Nat.le_of_ble_eq_true rfl) rfl (Nat.le_of_ble_eq_true rfl) (fun p e s m args below meth c G C hr hk => bX4_standsForItself_0 C hr hk hf true)
theorem bX8_hasName_2_3 (C : mCx p (mR 1) s m args meth c G cX8_hasName RX8 4 false 233 54500 233 54500) (hr : meth.sig.returnType = (some .boolean)) (hk : meth.locks = false) {b : Bool} {S' : mT} {r : Int32} : ∀ (k : Nat) (v1 : Int64) (v3 : Int32) (S : mT), fX8_hasName_2 3 k v1 v3 S = some (r, S') → ∀ ok : Bool, mW p l e (mR 1) s m args below meth c G 4 233 54500 (mQ below G args s b S' (some (.int r))) (ok, 2, [.ref (3), .long v1, .retAddr 0, .int v3], [], mk b S) := by
  intro k
  induction k with
  | zero =>
    intro v1 v3 S hf ok
    cases hf
  | succ k ih =>
    intro v1 v3 S hf ok
    unfold fX8_hasName_2 at hf
    obtain ⟨hok, hf⟩ := grd_ex hf
    refine msegT C kX8_hasName 2 4 (g := ((kO 3 8 && true), (if (S.1 3 9) ≤ v3 then 29 else 10), [.ref (3), .long v1, .retAddr 0, .int v3], [], mk b S)) rfl hok ?_
    by_cases hc : (S.1 3 9) ≤ v3
    · rw [if_pos hc] at hf ⊢
      refine msegT C kX8_hasName 17 1 (g := (true, 30, [.ref (3), .long v1, .retAddr 0, .int v3], [.int (0 : Int32)], mk b S)) rfl rfl ?_
      cases hf
      exact gret_z C hr hk (by decide) (kX8_hasName _ (List.mem_of_getElem? (i := 18) rfl)).1
    · rw [if_neg hc] at hf ⊢
      obtain ⟨hok, hf⟩ := grd_ex hf
      refine msegT C kX8_hasName 6 7 (g := ((kJ (3 + 1) v3 && (kO 3 8 && true)), (if (lg_cmp (S.2 (3 + 1) (mIx v3)) v1) = 0 then 21 else 23), [.ref (3), .long v1, .retAddr 0, .int v3], [], mk b S)) rfl hok ?_
      by_cases hc : (lg_cmp (S.2 (3 + 1) (mIx v3)) v1) = 0
      · rw [if_pos hc] at hf ⊢
        refine msegT C kX8_hasName 13 1 (g := (true, 22, [.ref (3), .long v1, .retAddr 0, .int v3], [.int (1 : Int32)], mk b S)) rfl rfl ?_
        cases hf
        exact gret_z C hr hk (by decide) (kX8_hasName _ (List.mem_of_getElem? (i := 14) rfl)).1
      · rw [if_neg hc] at hf ⊢
        refine msegT C kX8_hasName 15 1 (g := (true, 26, [.ref (3), .long v1, .retAddr 0, .int (v3 + (1 : Int32))], [], mk b S)) rfl rfl ?_
        obtain ⟨x1, ex1, hf⟩ := bnd_ex hf
        rw [← ex1]
        refine msegT C kX8_hasName 16 1 (g := (true, 2, [.ref (3), .long v1, .retAddr 0, .int x1], [], mk b S)) rfl rfl ?_
        exact mfor (L' := [.ref (3), .long v1, .retAddr 0, .int x1]) ⟨Or.inr rfl, Or.inr rfl, Or.inl rfl, Or.inr rfl, trivial⟩ (ih _ _ _ hf true)
theorem bX8_hasName_0_3 (C : mCx p (mR 1) s m args meth c G cX8_hasName RX8 4 false 233 54500 233 54500) (hr : meth.sig.returnType = (some .boolean)) (hk : meth.locks = false) {b : Bool} {S' : mT} {r : Int32} {v1 : Int64} {S : mT} (hf : fX8_hasName 3 v1 S = some (r, S')) (ok : Bool) : mW p l e (mR 1) s m args below meth c G 4 233 54500 (mQ below G args s b S' (some (.int r))) (ok, 0, [.ref (3), .long v1, .retAddr 0, .retAddr 0], [], mk b S) := by
  unfold fX8_hasName at hf
  refine msegT C kX8_hasName 0 2 (g := (true, 2, [.ref (3), .long v1, .retAddr 0, .int (0 : Int32)], [], mk b S)) rfl rfl ?_
  exact mfor (L' := [.ref (3), .long v1, .retAddr 0, .int (0 : Int32)]) ⟨Or.inr rfl, Or.inr rfl, Or.inl rfl, Or.inr rfl, trivial⟩ (bX8_hasName_2_3 C hr hk _ _ _ _ hf true)
theorem qX8_hasName_3 {b : Bool} {v1 : Int64} {S S' : mT} {r : Int32} (hf : fX8_hasName 3 v1 S = some (r, S')) : mOk l mX8_hasName 1 [.ref (3), .long v1] b S (some (.int r)) S' :=
  gMet (by decide) (Nat.le_of_ble_eq_true rfl) rfl (Nat.le_of_ble_eq_true rfl) (fun p e s m args below meth c G C hr hk => bX8_hasName_0_3 C hr hk hf true)
theorem bX8_hasName_2_19 (C : mCx p (mR 1) s m args meth c G cX8_hasName RX8 4 false 233 54500 233 54500) (hr : meth.sig.returnType = (some .boolean)) (hk : meth.locks = false) {b : Bool} {S' : mT} {r : Int32} : ∀ (k : Nat) (v1 : Int64) (v3 : Int32) (S : mT), fX8_hasName_2 19 k v1 v3 S = some (r, S') → ∀ ok : Bool, mW p l e (mR 1) s m args below meth c G 4 233 54500 (mQ below G args s b S' (some (.int r))) (ok, 2, [.ref (19), .long v1, .retAddr 0, .int v3], [], mk b S) := by
  intro k
  induction k with
  | zero =>
    intro v1 v3 S hf ok
    cases hf
  | succ k ih =>
    intro v1 v3 S hf ok
    unfold fX8_hasName_2 at hf
    obtain ⟨hok, hf⟩ := grd_ex hf
    refine msegT C kX8_hasName 2 4 (g := ((kO 19 8 && true), (if (S.1 19 9) ≤ v3 then 29 else 10), [.ref (19), .long v1, .retAddr 0, .int v3], [], mk b S)) rfl hok ?_
    by_cases hc : (S.1 19 9) ≤ v3
    · rw [if_pos hc] at hf ⊢
      refine msegT C kX8_hasName 17 1 (g := (true, 30, [.ref (19), .long v1, .retAddr 0, .int v3], [.int (0 : Int32)], mk b S)) rfl rfl ?_
      cases hf
      exact gret_z C hr hk (by decide) (kX8_hasName _ (List.mem_of_getElem? (i := 18) rfl)).1
    · rw [if_neg hc] at hf ⊢
      obtain ⟨hok, hf⟩ := grd_ex hf
      refine msegT C kX8_hasName 6 7 (g := ((kJ (19 + 1) v3 && (kO 19 8 && true)), (if (lg_cmp (S.2 (19 + 1) (mIx v3)) v1) = 0 then 21 else 23), [.ref (19), .long v1, .retAddr 0, .int v3], [], mk b S)) rfl hok ?_
      by_cases hc : (lg_cmp (S.2 (19 + 1) (mIx v3)) v1) = 0
      · rw [if_pos hc] at hf ⊢
        refine msegT C kX8_hasName 13 1 (g := (true, 22, [.ref (19), .long v1, .retAddr 0, .int v3], [.int (1 : Int32)], mk b S)) rfl rfl ?_
        cases hf
        exact gret_z C hr hk (by decide) (kX8_hasName _ (List.mem_of_getElem? (i := 14) rfl)).1
      · rw [if_neg hc] at hf ⊢
        refine msegT C kX8_hasName 15 1 (g := (true, 26, [.ref (19), .long v1, .retAddr 0, .int (v3 + (1 : Int32))], [], mk b S)) rfl rfl ?_
        obtain ⟨x1, ex1, hf⟩ := bnd_ex hf
        rw [← ex1]
        refine msegT C kX8_hasName 16 1 (g := (true, 2, [.ref (19), .long v1, .retAddr 0, .int x1], [], mk b S)) rfl rfl ?_
        exact mfor (L' := [.ref (19), .long v1, .retAddr 0, .int x1]) ⟨Or.inr rfl, Or.inr rfl, Or.inl rfl, Or.inr rfl, trivial⟩ (ih _ _ _ hf true)
theorem bX8_hasName_0_19 (C : mCx p (mR 1) s m args meth c G cX8_hasName RX8 4 false 233 54500 233 54500) (hr : meth.sig.returnType = (some .boolean)) (hk : meth.locks = false) {b : Bool} {S' : mT} {r : Int32} {v1 : Int64} {S : mT} (hf : fX8_hasName 19 v1 S = some (r, S')) (ok : Bool) : mW p l e (mR 1) s m args below meth c G 4 233 54500 (mQ below G args s b S' (some (.int r))) (ok, 0, [.ref (19), .long v1, .retAddr 0, .retAddr 0], [], mk b S) := by
  unfold fX8_hasName at hf
  refine msegT C kX8_hasName 0 2 (g := (true, 2, [.ref (19), .long v1, .retAddr 0, .int (0 : Int32)], [], mk b S)) rfl rfl ?_
  exact mfor (L' := [.ref (19), .long v1, .retAddr 0, .int (0 : Int32)]) ⟨Or.inr rfl, Or.inr rfl, Or.inl rfl, Or.inr rfl, trivial⟩ (bX8_hasName_2_19 C hr hk _ _ _ _ hf true)
theorem qX8_hasName_19 {b : Bool} {v1 : Int64} {S S' : mT} {r : Int32} (hf : fX8_hasName 19 v1 S = some (r, S')) : mOk l mX8_hasName 1 [.ref (19), .long v1] b S (some (.int r)) S' :=
  gMet (by decide) (Nat.le_of_ble_eq_true rfl) rfl (Nat.le_of_ble_eq_true rfl) (fun p e s m args below meth c G C hr hk => bX8_hasName_0_19 C hr hk hf true)
theorem bX4_takeName_41_3 (C : mCx p (mR 8) s m args meth c G cX4_takeName RX4 4 false 233 54500 233 54500) (hr : meth.sig.returnType = (some .long)) (hk : meth.locks = false) {b : Bool} {S' : mT} {r : Int64} {v2 : Int64} {S : mT} (hf : fX4_takeName_41 3 v2 S = some (r, S')) (ok : Bool) : mW p l e (mR 8) s m args below meth c G 4 233 54500 (mQ below G args s b S' (some (.long r))) (ok, 41, [.ref (1), .retAddr 0, .long v2, .retAddr 0], [], mk b S) := by
  unfold fX4_takeName_41 at hf
  refine msegT C kX4_takeName 21 1 (g := (true, 42, [.ref (1), .retAddr 0, .long v2, .retAddr 0], [.ref (1)], mk b S)) rfl rfl ?_
  obtain ⟨S7, hq, hf⟩ := bndV_ex hf
  refine mcall (kd := 0) (vs := [.ref (1)]) (rest := []) (r := none) (h' := mk b S7) (ok' := true) C lkRX4_30 (qX4_advance hq) (kX4_takeName _ (List.mem_of_getElem? (i := 22) rfl)).1 ⟨_, _, rfl, rfl, Nat.le_of_ble_eq_true rfl, _, _, rfl, rfl, rfl⟩ (Nat.le_of_ble_eq_true rfl) (Nat.le_of_ble_eq_true rfl) (Nat.le_refl _) (Nat.le_refl _) (Nat.le_of_ble_eq_true rfl) ?_
  refine msegT C kX4_takeName 23 1 (g := (true, 46, [.ref (1), .retAddr 0, .long v2, .retAddr 0], [.long v2], mk b S7)) rfl rfl ?_
  cases hf
  exact gret_l C hr hk (kX4_takeName _ (List.mem_of_getElem? (i := 24) rfl)).1
theorem bX4_takeName_20_3 (C : mCx p (mR 8) s m args meth c G cX4_takeName RX4 4 false 233 54500 233 54500) (hr : meth.sig.returnType = (some .long)) (hk : meth.locks = false) {b : Bool} {S' : mT} {r : Int64} {v2 : Int64} {S : mT} (hf : fX4_takeName_20 3 v2 S = some (r, S')) (ok : Bool) : mW p l e (mR 8) s m args below meth c G 4 233 54500 (mQ below G args s b S' (some (.long r))) (ok, 20, [.ref (1), .retAddr 0, .long v2, .retAddr 0], [], mk b S) := by
  unfold fX4_takeName_20 at hf
  refine msegT C kX4_takeName 10 2 (g := (true, 22, [.ref (1), .retAddr 0, .long v2, .retAddr 0], [.int (2 : Int32), .ref (1)], mk b S)) rfl rfl ?_
  obtain ⟨S8, hq, hf⟩ := bndV_ex hf
  refine mcall (kd := 0) (vs := [.ref (1), .int (2 : Int32)]) (rest := []) (r := none) (h' := mk b S8) (ok' := true) C lkRX4_79 (qX4_refuse hq) (kX4_takeName _ (List.mem_of_getElem? (i := 12) rfl)).1 ⟨_, _, rfl, rfl, Nat.le_of_ble_eq_true rfl, _, _, rfl, rfl, rfl⟩ (Nat.le_of_ble_eq_true rfl) (Nat.le_of_ble_eq_true rfl) (Nat.le_refl _) (Nat.le_refl _) (Nat.le_of_ble_eq_true rfl) ?_
  refine msegT C kX4_takeName 13 1 (g := (true, 41, [.ref (1), .retAddr 0, .long v2, .retAddr 0], [], mk b S8)) rfl rfl ?_
  exact mfor (L' := [.ref (1), .retAddr 0, .long v2, .retAddr 0]) ⟨Or.inr rfl, Or.inl rfl, Or.inr rfl, Or.inl rfl, trivial⟩ (bX4_takeName_41_3 C hr hk hf true)
theorem bX4_takeName_0_3 (C : mCx p (mR 8) s m args meth c G cX4_takeName RX4 4 false 233 54500 233 54500) (hr : meth.sig.returnType = (some .long)) (hk : meth.locks = false) {b : Bool} {S' : mT} {r : Int64} {S : mT} (hf : fX4_takeName 3 S = some (r, S')) (ok : Bool) : mW p l e (mR 8) s m args below meth c G 4 233 54500 (mQ below G args s b S' (some (.long r))) (ok, 0, [.ref (1), .ref (3), .retAddr 0, .retAddr 0], [], mk b S) := by
  unfold fX4_takeName at hf
  obtain ⟨hok, hf⟩ := grd_ex hf
  refine msegT C kX4_takeName 0 3 (g := ((kO 1 4 && true), 5, [.ref (1), .ref (3), .long (S.2 1 8), .retAddr 0], [], mk b S)) rfl hok ?_
  obtain ⟨x1, ex1, hf⟩ := bnd_ex hf
  rw [← ex1]
  obtain ⟨hok, hf⟩ := grd_ex hf
  refine msegT C kX4_takeName 3 4 (g := ((kO 1 4 && true), (if (S.1 1 4) = (1 : Int32) then 13 else 20), [.ref (1), .ref (3), .long x1, .retAddr 0], [], mk b S)) rfl hok ?_
  by_cases hc : (S.1 1 4) = (1 : Int32)
  · rw [if_pos hc] at hf ⊢
    refine msegT C kX4_takeName 7 1 (g := (true, 14, [.ref (1), .ref (3), .long x1, .retAddr 0], [.ref (1)], mk b S)) rfl rfl ?_
    obtain ⟨x3, S2, hq, hf⟩ := bndC_ex hf
    refine mcall (kd := 0) (vs := [.ref (1)]) (rest := []) (r := (some (.int x3))) (h' := mk b S2) (ok' := true) C lkRX4_169 (qX4_standsForItself hq) (kX4_takeName _ (List.mem_of_getElem? (i := 8) rfl)).1 ⟨_, _, rfl, rfl, Nat.le_of_ble_eq_true rfl, _, _, rfl, rfl, rfl⟩ (Nat.le_of_ble_eq_true rfl) (Nat.le_of_ble_eq_true rfl) (Nat.le_refl _) (Nat.le_refl _) (Nat.le_of_ble_eq_true rfl) ?_
    refine msegT C kX4_takeName 9 1 (g := (true, (if x3 = 0 then 28 else 20), [.ref (1), .ref (3), .long x1, .retAddr 0], [], mk b S2)) rfl rfl ?_
    by_cases hc : x3 = 0
    · rw [if_pos hc] at hf ⊢
      refine msegT C kX4_takeName 14 2 (g := (true, 30, [.ref (1), .ref (3), .long x1, .retAddr 0], [.long x1, .ref (3)], mk b S2)) rfl rfl ?_
      obtain ⟨x5, S4, hq, hf⟩ := bndC_ex hf
      refine mcall (kd := 0) (vs := [.ref (3), .long x1]) (rest := []) (r := (some (.int x5))) (h' := mk b S4) (ok' := true) C lkRX4_173 (qX8_hasName_3 hq) (kX4_takeName _ (List.mem_of_getElem? (i := 16) rfl)).1 ⟨_, _, rfl, rfl, Nat.le_of_ble_eq_true rfl, _, _, rfl, rfl, rfl⟩ (Nat.le_of_ble_eq_true rfl) (Nat.le_of_ble_eq_true rfl) (Nat.le_refl _) (Nat.le_refl _) (Nat.le_of_ble_eq_true rfl) ?_
      refine msegT C kX4_takeName 17 1 (g := (true, (if x5 = 0 then 41 else 36), [.ref (1), .ref (3), .long x1, .retAddr 0], [], mk b S4)) rfl rfl ?_
      by_cases hc : x5 = 0
      · rw [if_pos hc] at hf ⊢
        exact mfor (L' := [.ref (1), .retAddr 0, .long x1, .retAddr 0]) ⟨Or.inr rfl, Or.inl rfl, Or.inr rfl, Or.inl rfl, trivial⟩ (bX4_takeName_41_3 C hr hk hf true)
      · rw [if_neg hc] at hf ⊢
        refine msegT C kX4_takeName 18 2 (g := (true, 38, [.ref (1), .ref (3), .long x1, .retAddr 0], [.int (3 : Int32), .ref (1)], mk b S4)) rfl rfl ?_
        obtain ⟨S6, hq, hf⟩ := bndV_ex hf
        refine mcall (kd := 0) (vs := [.ref (1), .int (3 : Int32)]) (rest := []) (r := none) (h' := mk b S6) (ok' := true) C lkRX4_79 (qX4_refuse hq) (kX4_takeName _ (List.mem_of_getElem? (i := 20) rfl)).1 ⟨_, _, rfl, rfl, Nat.le_of_ble_eq_true rfl, _, _, rfl, rfl, rfl⟩ (Nat.le_of_ble_eq_true rfl) (Nat.le_of_ble_eq_true rfl) (Nat.le_refl _) (Nat.le_refl _) (Nat.le_of_ble_eq_true rfl) ?_
        exact mfor (L' := [.ref (1), .retAddr 0, .long x1, .retAddr 0]) ⟨Or.inr rfl, Or.inl rfl, Or.inr rfl, Or.inl rfl, trivial⟩ (bX4_takeName_41_3 C hr hk hf true)
    · rw [if_neg hc] at hf ⊢
      exact mfor (L' := [.ref (1), .retAddr 0, .long x1, .retAddr 0]) ⟨Or.inr rfl, Or.inl rfl, Or.inr rfl, Or.inl rfl, trivial⟩ (bX4_takeName_20_3 C hr hk hf true)
  · rw [if_neg hc] at hf ⊢
    exact mfor (L' := [.ref (1), .retAddr 0, .long x1, .retAddr 0]) ⟨Or.inr rfl, Or.inl rfl, Or.inr rfl, Or.inl rfl, trivial⟩ (bX4_takeName_20_3 C hr hk hf true)
theorem qX4_takeName_3 {b : Bool} {S S' : mT} {r : Int64} (hf : fX4_takeName 3 S = some (r, S')) : mOk l mX4_takeName 8 [.ref (1), .ref (3)] b S (some (.long r)) S' :=
  gMet (by decide) (Nat.le_of_ble_eq_true rfl) rfl (Nat.le_of_ble_eq_true rfl) (fun p e s m args below meth c G C hr hk => bX4_takeName_0_3 C hr hk hf true)
theorem bX4_takeName_41_19 (C : mCx p (mR 8) s m args meth c G cX4_takeName RX4 4 false 233 54500 233 54500) (hr : meth.sig.returnType = (some .long)) (hk : meth.locks = false) {b : Bool} {S' : mT} {r : Int64} {v2 : Int64} {S : mT} (hf : fX4_takeName_41 19 v2 S = some (r, S')) (ok : Bool) : mW p l e (mR 8) s m args below meth c G 4 233 54500 (mQ below G args s b S' (some (.long r))) (ok, 41, [.ref (1), .retAddr 0, .long v2, .retAddr 0], [], mk b S) := by
  unfold fX4_takeName_41 at hf
  refine msegT C kX4_takeName 21 1 (g := (true, 42, [.ref (1), .retAddr 0, .long v2, .retAddr 0], [.ref (1)], mk b S)) rfl rfl ?_
  obtain ⟨S7, hq, hf⟩ := bndV_ex hf
  refine mcall (kd := 0) (vs := [.ref (1)]) (rest := []) (r := none) (h' := mk b S7) (ok' := true) C lkRX4_30 (qX4_advance hq) (kX4_takeName _ (List.mem_of_getElem? (i := 22) rfl)).1 ⟨_, _, rfl, rfl, Nat.le_of_ble_eq_true rfl, _, _, rfl, rfl, rfl⟩ (Nat.le_of_ble_eq_true rfl) (Nat.le_of_ble_eq_true rfl) (Nat.le_refl _) (Nat.le_refl _) (Nat.le_of_ble_eq_true rfl) ?_
  refine msegT C kX4_takeName 23 1 (g := (true, 46, [.ref (1), .retAddr 0, .long v2, .retAddr 0], [.long v2], mk b S7)) rfl rfl ?_
  cases hf
  exact gret_l C hr hk (kX4_takeName _ (List.mem_of_getElem? (i := 24) rfl)).1
theorem bX4_takeName_20_19 (C : mCx p (mR 8) s m args meth c G cX4_takeName RX4 4 false 233 54500 233 54500) (hr : meth.sig.returnType = (some .long)) (hk : meth.locks = false) {b : Bool} {S' : mT} {r : Int64} {v2 : Int64} {S : mT} (hf : fX4_takeName_20 19 v2 S = some (r, S')) (ok : Bool) : mW p l e (mR 8) s m args below meth c G 4 233 54500 (mQ below G args s b S' (some (.long r))) (ok, 20, [.ref (1), .retAddr 0, .long v2, .retAddr 0], [], mk b S) := by
  unfold fX4_takeName_20 at hf
  refine msegT C kX4_takeName 10 2 (g := (true, 22, [.ref (1), .retAddr 0, .long v2, .retAddr 0], [.int (2 : Int32), .ref (1)], mk b S)) rfl rfl ?_
  obtain ⟨S8, hq, hf⟩ := bndV_ex hf
  refine mcall (kd := 0) (vs := [.ref (1), .int (2 : Int32)]) (rest := []) (r := none) (h' := mk b S8) (ok' := true) C lkRX4_79 (qX4_refuse hq) (kX4_takeName _ (List.mem_of_getElem? (i := 12) rfl)).1 ⟨_, _, rfl, rfl, Nat.le_of_ble_eq_true rfl, _, _, rfl, rfl, rfl⟩ (Nat.le_of_ble_eq_true rfl) (Nat.le_of_ble_eq_true rfl) (Nat.le_refl _) (Nat.le_refl _) (Nat.le_of_ble_eq_true rfl) ?_
  refine msegT C kX4_takeName 13 1 (g := (true, 41, [.ref (1), .retAddr 0, .long v2, .retAddr 0], [], mk b S8)) rfl rfl ?_
  exact mfor (L' := [.ref (1), .retAddr 0, .long v2, .retAddr 0]) ⟨Or.inr rfl, Or.inl rfl, Or.inr rfl, Or.inl rfl, trivial⟩ (bX4_takeName_41_19 C hr hk hf true)
theorem bX4_takeName_0_19 (C : mCx p (mR 8) s m args meth c G cX4_takeName RX4 4 false 233 54500 233 54500) (hr : meth.sig.returnType = (some .long)) (hk : meth.locks = false) {b : Bool} {S' : mT} {r : Int64} {S : mT} (hf : fX4_takeName 19 S = some (r, S')) (ok : Bool) : mW p l e (mR 8) s m args below meth c G 4 233 54500 (mQ below G args s b S' (some (.long r))) (ok, 0, [.ref (1), .ref (19), .retAddr 0, .retAddr 0], [], mk b S) := by
  unfold fX4_takeName at hf
  obtain ⟨hok, hf⟩ := grd_ex hf
  refine msegT C kX4_takeName 0 3 (g := ((kO 1 4 && true), 5, [.ref (1), .ref (19), .long (S.2 1 8), .retAddr 0], [], mk b S)) rfl hok ?_
  obtain ⟨x1, ex1, hf⟩ := bnd_ex hf
  rw [← ex1]
  obtain ⟨hok, hf⟩ := grd_ex hf
  refine msegT C kX4_takeName 3 4 (g := ((kO 1 4 && true), (if (S.1 1 4) = (1 : Int32) then 13 else 20), [.ref (1), .ref (19), .long x1, .retAddr 0], [], mk b S)) rfl hok ?_
  by_cases hc : (S.1 1 4) = (1 : Int32)
  · rw [if_pos hc] at hf ⊢
    refine msegT C kX4_takeName 7 1 (g := (true, 14, [.ref (1), .ref (19), .long x1, .retAddr 0], [.ref (1)], mk b S)) rfl rfl ?_
    obtain ⟨x3, S2, hq, hf⟩ := bndC_ex hf
    refine mcall (kd := 0) (vs := [.ref (1)]) (rest := []) (r := (some (.int x3))) (h' := mk b S2) (ok' := true) C lkRX4_169 (qX4_standsForItself hq) (kX4_takeName _ (List.mem_of_getElem? (i := 8) rfl)).1 ⟨_, _, rfl, rfl, Nat.le_of_ble_eq_true rfl, _, _, rfl, rfl, rfl⟩ (Nat.le_of_ble_eq_true rfl) (Nat.le_of_ble_eq_true rfl) (Nat.le_refl _) (Nat.le_refl _) (Nat.le_of_ble_eq_true rfl) ?_
    refine msegT C kX4_takeName 9 1 (g := (true, (if x3 = 0 then 28 else 20), [.ref (1), .ref (19), .long x1, .retAddr 0], [], mk b S2)) rfl rfl ?_
    by_cases hc : x3 = 0
    · rw [if_pos hc] at hf ⊢
      refine msegT C kX4_takeName 14 2 (g := (true, 30, [.ref (1), .ref (19), .long x1, .retAddr 0], [.long x1, .ref (19)], mk b S2)) rfl rfl ?_
      obtain ⟨x5, S4, hq, hf⟩ := bndC_ex hf
      refine mcall (kd := 0) (vs := [.ref (19), .long x1]) (rest := []) (r := (some (.int x5))) (h' := mk b S4) (ok' := true) C lkRX4_173 (qX8_hasName_19 hq) (kX4_takeName _ (List.mem_of_getElem? (i := 16) rfl)).1 ⟨_, _, rfl, rfl, Nat.le_of_ble_eq_true rfl, _, _, rfl, rfl, rfl⟩ (Nat.le_of_ble_eq_true rfl) (Nat.le_of_ble_eq_true rfl) (Nat.le_refl _) (Nat.le_refl _) (Nat.le_of_ble_eq_true rfl) ?_
      refine msegT C kX4_takeName 17 1 (g := (true, (if x5 = 0 then 41 else 36), [.ref (1), .ref (19), .long x1, .retAddr 0], [], mk b S4)) rfl rfl ?_
      by_cases hc : x5 = 0
      · rw [if_pos hc] at hf ⊢
        exact mfor (L' := [.ref (1), .retAddr 0, .long x1, .retAddr 0]) ⟨Or.inr rfl, Or.inl rfl, Or.inr rfl, Or.inl rfl, trivial⟩ (bX4_takeName_41_19 C hr hk hf true)
      · rw [if_neg hc] at hf ⊢
        refine msegT C kX4_takeName 18 2 (g := (true, 38, [.ref (1), .ref (19), .long x1, .retAddr 0], [.int (3 : Int32), .ref (1)], mk b S4)) rfl rfl ?_
        obtain ⟨S6, hq, hf⟩ := bndV_ex hf
        refine mcall (kd := 0) (vs := [.ref (1), .int (3 : Int32)]) (rest := []) (r := none) (h' := mk b S6) (ok' := true) C lkRX4_79 (qX4_refuse hq) (kX4_takeName _ (List.mem_of_getElem? (i := 20) rfl)).1 ⟨_, _, rfl, rfl, Nat.le_of_ble_eq_true rfl, _, _, rfl, rfl, rfl⟩ (Nat.le_of_ble_eq_true rfl) (Nat.le_of_ble_eq_true rfl) (Nat.le_refl _) (Nat.le_refl _) (Nat.le_of_ble_eq_true rfl) ?_
        exact mfor (L' := [.ref (1), .retAddr 0, .long x1, .retAddr 0]) ⟨Or.inr rfl, Or.inl rfl, Or.inr rfl, Or.inl rfl, trivial⟩ (bX4_takeName_41_19 C hr hk hf true)
    · rw [if_neg hc] at hf ⊢
      exact mfor (L' := [.ref (1), .retAddr 0, .long x1, .retAddr 0]) ⟨Or.inr rfl, Or.inl rfl, Or.inr rfl, Or.inl rfl, trivial⟩ (bX4_takeName_20_19 C hr hk hf true)
  · rw [if_neg hc] at hf ⊢
    exact mfor (L' := [.ref (1), .retAddr 0, .long x1, .retAddr 0]) ⟨Or.inr rfl, Or.inl rfl, Or.inr rfl, Or.inl rfl, trivial⟩ (bX4_takeName_20_19 C hr hk hf true)
theorem qX4_takeName_19 {b : Bool} {S S' : mT} {r : Int64} (hf : fX4_takeName 19 S = some (r, S')) : mOk l mX4_takeName 8 [.ref (1), .ref (19)] b S (some (.long r)) S' :=
  gMet (by decide) (Nat.le_of_ble_eq_true rfl) rfl (Nat.le_of_ble_eq_true rfl) (fun p e s m args below meth c G C hr hk => bX4_takeName_0_19 C hr hk hf true)
theorem bX8_addHouse_71_3 (C : mCx p (mR 1) s m args meth c G cX8_addHouse RX8 7 false 233 54500 233 54500) (hr : meth.sig.returnType = none) (hk : meth.locks = false) {b : Bool} {S' : mT} {S : mT} (hf : fX8_addHouse_71 3 S = some S') (ok : Bool) : mW p l e (mR 1) s m args below meth c G 7 233 54500 (mQ below G args s b S' none) (ok, 71, [.retAddr 0, .retAddr 0, .retAddr 0, .retAddr 0, .retAddr 0, .retAddr 0, .retAddr 0], [], mk b S) := by
  unfold fX8_addHouse_71 at hf
  cases hf
  exact gret_v C hr hk (kX8_addHouse _ (List.mem_of_getElem? (i := 40) rfl)).1
theorem bX8_addHouse_0_3 (C : mCx p (mR 1) s m args meth c G cX8_addHouse RX8 7 false 233 54500 233 54500) (hr : meth.sig.returnType = none) (hk : meth.locks = false) {b : Bool} {S' : mT} {v1 : Int64} {v3 : Int32} {v4 : Int32} {v5 : Int32} {v6 : Int32} {S : mT} (hf : fX8_addHouse 3 v1 v3 v4 v5 v6 S = some S') (ok : Bool) : mW p l e (mR 1) s m args below meth c G 7 233 54500 (mQ below G args s b S' none) (ok, 0, [.ref (3), .long v1, .retAddr 0, .int v3, .int v4, .int v5, .int v6], [], mk b S) := by
  unfold fX8_addHouse at hf
  obtain ⟨hok, hf⟩ := grd_ex hf
  refine msegT C kX8_addHouse 0 4 (g := ((kO 3 8 && true), (if (5 : Int32) ≤ (S.1 3 9) then 71 else 8), [.ref (3), .long v1, .retAddr 0, .int v3, .int v4, .int v5, .int v6], [], mk b S)) rfl hok ?_
  by_cases hc : (5 : Int32) ≤ (S.1 3 9)
  · rw [if_pos hc] at hf ⊢
    exact mfor (L' := [.retAddr 0, .retAddr 0, .retAddr 0, .retAddr 0, .retAddr 0, .retAddr 0, .retAddr 0]) ⟨Or.inl rfl, Or.inl rfl, Or.inl rfl, Or.inl rfl, Or.inl rfl, Or.inl rfl, Or.inl rfl, trivial⟩ (bX8_addHouse_71_3 C hr hk hf true)
  · rw [if_neg hc] at hf ⊢
    obtain ⟨hok, hf⟩ := grd_ex hf
    refine msegT C kX8_addHouse 4 6 (g := ((kJ (3 + 1) (S.1 3 9) && (kO 3 8 && (kO 3 8 && true))), 18, [.ref (3), .long v1, .retAddr 0, .int v3, .int v4, .int v5, .int v6], [], mk b (sJ S (3 + 1) (mIx (S.1 3 9)) v1))) rfl hok ?_
    obtain ⟨S1, eS1, hf⟩ := bnd_ex hf
    rw [← eS1]
    obtain ⟨hok, hf⟩ := grd_ex hf
    refine msegT C kX8_addHouse 10 6 (g := ((kI (3 + 2) (S1.1 3 9) && (kO 3 8 && (kO 3 8 && true))), 28, [.ref (3), .long v1, .retAddr 0, .int v3, .int v4, .int v5, .int v6], [], mk b (sI S1 (3 + 2) (mIx (S1.1 3 9)) v3))) rfl hok ?_
    obtain ⟨S2, eS2, hf⟩ := bnd_ex hf
    rw [← eS2]
    obtain ⟨hok, hf⟩ := grd_ex hf
    refine msegT C kX8_addHouse 16 6 (g := ((kI (3 + 3) (S2.1 3 9) && (kO 3 8 && (kO 3 8 && true))), 39, [.ref (3), .long v1, .retAddr 0, .int v3, .int v4, .int v5, .int v6], [], mk b (sI S2 (3 + 3) (mIx (S2.1 3 9)) v4))) rfl hok ?_
    obtain ⟨S3, eS3, hf⟩ := bnd_ex hf
    rw [← eS3]
    obtain ⟨hok, hf⟩ := grd_ex hf
    refine msegT C kX8_addHouse 22 6 (g := ((kI (3 + 4) (S3.1 3 9) && (kO 3 8 && (kO 3 8 && true))), 50, [.ref (3), .long v1, .retAddr 0, .int v3, .int v4, .int v5, .int v6], [], mk b (sI S3 (3 + 4) (mIx (S3.1 3 9)) v5))) rfl hok ?_
    obtain ⟨S4, eS4, hf⟩ := bnd_ex hf
    rw [← eS4]
    obtain ⟨hok, hf⟩ := grd_ex hf
    refine msegT C kX8_addHouse 28 6 (g := ((kI (3 + 5) (S4.1 3 9) && (kO 3 8 && (kO 3 8 && true))), 61, [.ref (3), .long v1, .retAddr 0, .int v3, .int v4, .int v5, .int v6], [], mk b (sI S4 (3 + 5) (mIx (S4.1 3 9)) v6))) rfl hok ?_
    obtain ⟨S5, eS5, hf⟩ := bnd_ex hf
    rw [← eS5]
    obtain ⟨hok, hf⟩ := grd_ex hf
    refine msegT C kX8_addHouse 34 6 (g := ((kO 3 8 && (kO 3 8 && true)), 71, [.ref (3), .long v1, .retAddr 0, .int v3, .int v4, .int v5, .int v6], [], mk b (sI S5 3 9 ((S5.1 3 9) + (1 : Int32))))) rfl hok ?_
    obtain ⟨S6, eS6, hf⟩ := bnd_ex hf
    rw [← eS6]
    exact mfor (L' := [.retAddr 0, .retAddr 0, .retAddr 0, .retAddr 0, .retAddr 0, .retAddr 0, .retAddr 0]) ⟨Or.inl rfl, Or.inl rfl, Or.inl rfl, Or.inl rfl, Or.inl rfl, Or.inl rfl, Or.inl rfl, trivial⟩ (bX8_addHouse_71_3 C hr hk hf true)
theorem qX8_addHouse_3 {b : Bool} {v1 : Int64} {v3 : Int32} {v4 : Int32} {v5 : Int32} {v6 : Int32} {S S' : mT} (hf : fX8_addHouse 3 v1 v3 v4 v5 v6 S = some S') : mOk l mX8_addHouse 1 [.ref (3), .long v1, .int v3, .int v4, .int v5, .int v6] b S none S' :=
  gMet (by decide) (Nat.le_of_ble_eq_true rfl) rfl (Nat.le_of_ble_eq_true rfl) (fun p e s m args below meth c G C hr hk => bX8_addHouse_0_3 C hr hk hf true)
theorem bX8_addHouse_71_19 (C : mCx p (mR 1) s m args meth c G cX8_addHouse RX8 7 false 233 54500 233 54500) (hr : meth.sig.returnType = none) (hk : meth.locks = false) {b : Bool} {S' : mT} {S : mT} (hf : fX8_addHouse_71 19 S = some S') (ok : Bool) : mW p l e (mR 1) s m args below meth c G 7 233 54500 (mQ below G args s b S' none) (ok, 71, [.retAddr 0, .retAddr 0, .retAddr 0, .retAddr 0, .retAddr 0, .retAddr 0, .retAddr 0], [], mk b S) := by
  unfold fX8_addHouse_71 at hf
  cases hf
  exact gret_v C hr hk (kX8_addHouse _ (List.mem_of_getElem? (i := 40) rfl)).1
theorem bX8_addHouse_0_19 (C : mCx p (mR 1) s m args meth c G cX8_addHouse RX8 7 false 233 54500 233 54500) (hr : meth.sig.returnType = none) (hk : meth.locks = false) {b : Bool} {S' : mT} {v1 : Int64} {v3 : Int32} {v4 : Int32} {v5 : Int32} {v6 : Int32} {S : mT} (hf : fX8_addHouse 19 v1 v3 v4 v5 v6 S = some S') (ok : Bool) : mW p l e (mR 1) s m args below meth c G 7 233 54500 (mQ below G args s b S' none) (ok, 0, [.ref (19), .long v1, .retAddr 0, .int v3, .int v4, .int v5, .int v6], [], mk b S) := by
  unfold fX8_addHouse at hf
  obtain ⟨hok, hf⟩ := grd_ex hf
  refine msegT C kX8_addHouse 0 4 (g := ((kO 19 8 && true), (if (5 : Int32) ≤ (S.1 19 9) then 71 else 8), [.ref (19), .long v1, .retAddr 0, .int v3, .int v4, .int v5, .int v6], [], mk b S)) rfl hok ?_
  by_cases hc : (5 : Int32) ≤ (S.1 19 9)
  · rw [if_pos hc] at hf ⊢
    exact mfor (L' := [.retAddr 0, .retAddr 0, .retAddr 0, .retAddr 0, .retAddr 0, .retAddr 0, .retAddr 0]) ⟨Or.inl rfl, Or.inl rfl, Or.inl rfl, Or.inl rfl, Or.inl rfl, Or.inl rfl, Or.inl rfl, trivial⟩ (bX8_addHouse_71_19 C hr hk hf true)
  · rw [if_neg hc] at hf ⊢
    obtain ⟨hok, hf⟩ := grd_ex hf
    refine msegT C kX8_addHouse 4 6 (g := ((kJ (19 + 1) (S.1 19 9) && (kO 19 8 && (kO 19 8 && true))), 18, [.ref (19), .long v1, .retAddr 0, .int v3, .int v4, .int v5, .int v6], [], mk b (sJ S (19 + 1) (mIx (S.1 19 9)) v1))) rfl hok ?_
    obtain ⟨S1, eS1, hf⟩ := bnd_ex hf
    rw [← eS1]
    obtain ⟨hok, hf⟩ := grd_ex hf
    refine msegT C kX8_addHouse 10 6 (g := ((kI (19 + 2) (S1.1 19 9) && (kO 19 8 && (kO 19 8 && true))), 28, [.ref (19), .long v1, .retAddr 0, .int v3, .int v4, .int v5, .int v6], [], mk b (sI S1 (19 + 2) (mIx (S1.1 19 9)) v3))) rfl hok ?_
    obtain ⟨S2, eS2, hf⟩ := bnd_ex hf
    rw [← eS2]
    obtain ⟨hok, hf⟩ := grd_ex hf
    refine msegT C kX8_addHouse 16 6 (g := ((kI (19 + 3) (S2.1 19 9) && (kO 19 8 && (kO 19 8 && true))), 39, [.ref (19), .long v1, .retAddr 0, .int v3, .int v4, .int v5, .int v6], [], mk b (sI S2 (19 + 3) (mIx (S2.1 19 9)) v4))) rfl hok ?_
    obtain ⟨S3, eS3, hf⟩ := bnd_ex hf
    rw [← eS3]
    obtain ⟨hok, hf⟩ := grd_ex hf
    refine msegT C kX8_addHouse 22 6 (g := ((kI (19 + 4) (S3.1 19 9) && (kO 19 8 && (kO 19 8 && true))), 50, [.ref (19), .long v1, .retAddr 0, .int v3, .int v4, .int v5, .int v6], [], mk b (sI S3 (19 + 4) (mIx (S3.1 19 9)) v5))) rfl hok ?_
    obtain ⟨S4, eS4, hf⟩ := bnd_ex hf
    rw [← eS4]
    obtain ⟨hok, hf⟩ := grd_ex hf
    refine msegT C kX8_addHouse 28 6 (g := ((kI (19 + 5) (S4.1 19 9) && (kO 19 8 && (kO 19 8 && true))), 61, [.ref (19), .long v1, .retAddr 0, .int v3, .int v4, .int v5, .int v6], [], mk b (sI S4 (19 + 5) (mIx (S4.1 19 9)) v6))) rfl hok ?_
    obtain ⟨S5, eS5, hf⟩ := bnd_ex hf
    rw [← eS5]
    obtain ⟨hok, hf⟩ := grd_ex hf
    refine msegT C kX8_addHouse 34 6 (g := ((kO 19 8 && (kO 19 8 && true)), 71, [.ref (19), .long v1, .retAddr 0, .int v3, .int v4, .int v5, .int v6], [], mk b (sI S5 19 9 ((S5.1 19 9) + (1 : Int32))))) rfl hok ?_
    obtain ⟨S6, eS6, hf⟩ := bnd_ex hf
    rw [← eS6]
    exact mfor (L' := [.retAddr 0, .retAddr 0, .retAddr 0, .retAddr 0, .retAddr 0, .retAddr 0, .retAddr 0]) ⟨Or.inl rfl, Or.inl rfl, Or.inl rfl, Or.inl rfl, Or.inl rfl, Or.inl rfl, Or.inl rfl, trivial⟩ (bX8_addHouse_71_19 C hr hk hf true)
theorem qX8_addHouse_19 {b : Bool} {v1 : Int64} {v3 : Int32} {v4 : Int32} {v5 : Int32} {v6 : Int32} {S S' : mT} (hf : fX8_addHouse 19 v1 v3 v4 v5 v6 S = some S') : mOk l mX8_addHouse 1 [.ref (19), .long v1, .int v3, .int v4, .int v5, .int v6] b S none S' :=
  gMet (by decide) (Nat.le_of_ble_eq_true rfl) rfl (Nat.le_of_ble_eq_true rfl) (fun p e s m args below meth c G C hr hk => bX8_addHouse_0_19 C hr hk hf true)
end GP
