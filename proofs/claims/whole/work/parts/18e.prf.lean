section GP
variable {p : Program} {l : Launch} {e : Env} {s : State} {m : MethodId} {args : Array Value} {below : List Frame} {meth : Method} {c : Code} {G : mG}
theorem bX11_steal_32_f (C : mCx p (mR 3) s m args meth c G cX11_steal RX11 3 false 233 54500 233 54500) (hr : meth.sig.returnType = (some .int)) (hk : meth.locks = false) {S' : mT} {r : Int32} {S : mT} (hf : fX11_steal_32 false S = some (r, S')) (ok : Bool) : mW p l e (mR 3) s m args below meth c G 3 233 54500 (mQ below G args s false S' (some (.int r))) (ok, 32, [.retAddr 0, .retAddr 0, .retAddr 0], [], mk false S) := by
  unfold fX11_steal_32 at hf
  refine msegT C kX11_steal 18 1 (g := (true, 33, [.retAddr 0, .retAddr 0, .retAddr 0], [.int (-1 : Int32)], mk false S)) rfl rfl ?_
  cases hf
  exact gret_i C hr hk (kX11_steal _ (List.mem_of_getElem? (i := 19) rfl)).1
theorem bX11_steal_0_f (C : mCx p (mR 3) s m args meth c G cX11_steal RX11 3 false 233 54500 233 54500) (hr : meth.sig.returnType = (some .int)) (hk : meth.locks = false) {S' : mT} {r : Int32} {v1 : Int32} {v2 : Int32} {S : mT} (hf : fX11_steal false v1 v2 S = some (r, S')) (ok : Bool) : mW p l e (mR 3) s m args below meth c G 3 233 54500 (mQ below G args s false S' (some (.int r))) (ok, 0, [.ref (0), .int v1, .int v2], [], mk false S) := by
  unfold fX11_steal at hf
  refine msegT C kX11_steal 0 2 (g := (true, 2, [.ref (0), .int v1, .int v2], [.int v1, .ref (0)], mk false S)) rfl rfl ?_
  obtain ⟨x2, S1, hq, hf⟩ := bndC_ex hf
  refine mcall (kd := 0) (vs := [.ref (0), .int v1]) (rest := []) (r := (some (.int x2))) (h' := mk false S1) (ok' := true) C lkRX11_124 (qX11_isHouse_f hq) (kX11_steal _ (List.mem_of_getElem? (i := 2) rfl)).1 ⟨_, _, rfl, rfl, Nat.le_of_ble_eq_true rfl, _, _, rfl, rfl, rfl⟩ (Nat.le_of_ble_eq_true rfl) (Nat.le_of_ble_eq_true rfl) (Nat.le_refl _) (Nat.le_refl _) (Nat.le_of_ble_eq_true rfl) ?_
  refine msegT C kX11_steal 3 1 (g := (true, (if x2 = 0 then 32 else 8), [.ref (0), .int v1, .int v2], [], mk false S1)) rfl rfl ?_
  by_cases hc : x2 = 0
  · rw [if_pos hc] at hf ⊢
    exact mfor (L' := [.retAddr 0, .retAddr 0, .retAddr 0]) ⟨Or.inl rfl, Or.inl rfl, Or.inl rfl, trivial⟩ (bX11_steal_32_f C hr hk hf true)
  · rw [if_neg hc] at hf ⊢
    refine msegT C kX11_steal 4 3 (g := (true, (if v2 < (1 : Int32) then 32 else 13), [.ref (0), .int v1, .int v2], [], mk false S1)) rfl rfl ?_
    by_cases hc : v2 < (1 : Int32)
    · rw [if_pos hc] at hf ⊢
      exact mfor (L' := [.retAddr 0, .retAddr 0, .retAddr 0]) ⟨Or.inl rfl, Or.inl rfl, Or.inl rfl, trivial⟩ (bX11_steal_32_f C hr hk hf true)
    · rw [if_neg hc] at hf ⊢
      refine msegT C kX11_steal 7 3 (g := (true, (if (99 : Int32) < v2 then 32 else 19), [.ref (0), .int v1, .int v2], [], mk false S1)) rfl rfl ?_
      by_cases hc : (99 : Int32) < v2
      · rw [if_pos hc] at hf ⊢
        exact mfor (L' := [.retAddr 0, .retAddr 0, .retAddr 0]) ⟨Or.inl rfl, Or.inl rfl, Or.inl rfl, trivial⟩ (bX11_steal_32_f C hr hk hf true)
      · rw [if_neg hc] at hf ⊢
        obtain ⟨hok, hf⟩ := grd_ex hf
        refine msegT C kX11_steal 10 8 (g := ((kI 35 ((10 : Int32) + v1) && (kO 0 11 && true)), (if v2 ≤ (S1.1 35 (mIx ((10 : Int32) + v1))) then 34 else 32), [.ref (0), .int v1, .int v2], [], mk false S1)) rfl hok ?_
        by_cases hc : v2 ≤ (S1.1 35 (mIx ((10 : Int32) + v1)))
        · rw [if_pos hc] at hf ⊢
          obtain ⟨hok, hf⟩ := grd_ex hf
          refine msegT C kX11_steal 20 10 (g := ((kI 35 ((10 : Int32) + v1) && (kI 35 ((10 : Int32) + v1) && (kO 0 11 && true))), 47, [.ref (0), .int v1, .int v2], [], mk false (sI S1 35 (mIx ((10 : Int32) + v1)) ((S1.1 35 (mIx ((10 : Int32) + v1))) - v2)))) rfl hok ?_
          obtain ⟨S3, eS3, hf⟩ := bnd_ex hf
          rw [← eS3]
          obtain ⟨hok, hf⟩ := grd_ex hf
          refine msegT C kX11_steal 30 4 (g := ((kO 0 11 && (kO 0 11 && true)), 55, [.ref (0), .int v1, .int v2], [.ref 35, .ref 37], mk false S3)) rfl hok ?_
          obtain ⟨S4, hq, hf⟩ := bndV_ex hf
          refine mcall (kd := 0) (vs := [.ref 37, .ref 35]) (rest := []) (r := none) (h' := mk false S4) (ok' := true) C lkRX11_149 (qX2_keep hq) (kX11_steal _ (List.mem_of_getElem? (i := 34) rfl)).1 ⟨_, _, rfl, rfl, Nat.le_of_ble_eq_true rfl, _, _, rfl, rfl, rfl⟩ (Nat.le_of_ble_eq_true rfl) (Nat.le_of_ble_eq_true rfl) (Nat.le_refl _) (Nat.le_refl _) (Nat.le_of_ble_eq_true rfl) ?_
          obtain ⟨hok, hf⟩ := grd_ex hf
          refine msegT C kX11_steal 35 6 (g := ((kI 35 ((10 : Int32) + v1) && (kO 0 11 && true)), 67, [.ref (0), .int v1, .int v2], [.int (S4.1 35 (mIx ((10 : Int32) + v1)))], mk false S4)) rfl hok ?_
          cases hf
          exact gret_i C hr hk (kX11_steal _ (List.mem_of_getElem? (i := 41) rfl)).1
        · rw [if_neg hc] at hf ⊢
          exact mfor (L' := [.retAddr 0, .retAddr 0, .retAddr 0]) ⟨Or.inl rfl, Or.inl rfl, Or.inl rfl, trivial⟩ (bX11_steal_32_f C hr hk hf true)
theorem qX11_steal_f {v1 : Int32} {v2 : Int32} {S S' : mT} {r : Int32} (hf : fX11_steal false v1 v2 S = some (r, S')) : mOk l mX11_steal 3 [.ref (0), .int v1, .int v2] false S (some (.int r)) S' :=
  gMet (by decide) (Nat.le_of_ble_eq_true rfl) rfl (Nat.le_of_ble_eq_true rfl) (fun p e s m args below meth c G C hr hk => bX11_steal_0_f C hr hk hf true)
theorem bX11_steal_32_t (C : mCx p (mR 3) s m args meth c G cX11_steal RX11 3 false 233 54500 233 54500) (hr : meth.sig.returnType = (some .int)) (hk : meth.locks = false) {S' : mT} {r : Int32} {S : mT} (hf : fX11_steal_32 true S = some (r, S')) (ok : Bool) : mW p l e (mR 3) s m args below meth c G 3 233 54500 (mQ below G args s true S' (some (.int r))) (ok, 32, [.retAddr 0, .retAddr 0, .retAddr 0], [], mk true S) := by
  unfold fX11_steal_32 at hf
  refine msegT C kX11_steal 18 1 (g := (true, 33, [.retAddr 0, .retAddr 0, .retAddr 0], [.int (-1 : Int32)], mk true S)) rfl rfl ?_
  cases hf
  exact gret_i C hr hk (kX11_steal _ (List.mem_of_getElem? (i := 19) rfl)).1
theorem bX11_steal_0_t (C : mCx p (mR 3) s m args meth c G cX11_steal RX11 3 false 233 54500 233 54500) (hr : meth.sig.returnType = (some .int)) (hk : meth.locks = false) {S' : mT} {r : Int32} {v1 : Int32} {v2 : Int32} {S : mT} (hf : fX11_steal true v1 v2 S = some (r, S')) (ok : Bool) : mW p l e (mR 3) s m args below meth c G 3 233 54500 (mQ below G args s true S' (some (.int r))) (ok, 0, [.ref (0), .int v1, .int v2], [], mk true S) := by
  unfold fX11_steal at hf
  refine msegT C kX11_steal 0 2 (g := (true, 2, [.ref (0), .int v1, .int v2], [.int v1, .ref (0)], mk true S)) rfl rfl ?_
  obtain ⟨x2, S1, hq, hf⟩ := bndC_ex hf
  refine mcall (kd := 0) (vs := [.ref (0), .int v1]) (rest := []) (r := (some (.int x2))) (h' := mk true S1) (ok' := true) C lkRX11_124 (qX11_isHouse_t hq) (kX11_steal _ (List.mem_of_getElem? (i := 2) rfl)).1 ⟨_, _, rfl, rfl, Nat.le_of_ble_eq_true rfl, _, _, rfl, rfl, rfl⟩ (Nat.le_of_ble_eq_true rfl) (Nat.le_of_ble_eq_true rfl) (Nat.le_refl _) (Nat.le_refl _) (Nat.le_of_ble_eq_true rfl) ?_
  refine msegT C kX11_steal 3 1 (g := (true, (if x2 = 0 then 32 else 8), [.ref (0), .int v1, .int v2], [], mk true S1)) rfl rfl ?_
  by_cases hc : x2 = 0
  · rw [if_pos hc] at hf ⊢
    exact mfor (L' := [.retAddr 0, .retAddr 0, .retAddr 0]) ⟨Or.inl rfl, Or.inl rfl, Or.inl rfl, trivial⟩ (bX11_steal_32_t C hr hk hf true)
  · rw [if_neg hc] at hf ⊢
    refine msegT C kX11_steal 4 3 (g := (true, (if v2 < (1 : Int32) then 32 else 13), [.ref (0), .int v1, .int v2], [], mk true S1)) rfl rfl ?_
    by_cases hc : v2 < (1 : Int32)
    · rw [if_pos hc] at hf ⊢
      exact mfor (L' := [.retAddr 0, .retAddr 0, .retAddr 0]) ⟨Or.inl rfl, Or.inl rfl, Or.inl rfl, trivial⟩ (bX11_steal_32_t C hr hk hf true)
    · rw [if_neg hc] at hf ⊢
      refine msegT C kX11_steal 7 3 (g := (true, (if (99 : Int32) < v2 then 32 else 19), [.ref (0), .int v1, .int v2], [], mk true S1)) rfl rfl ?_
      by_cases hc : (99 : Int32) < v2
      · rw [if_pos hc] at hf ⊢
        exact mfor (L' := [.retAddr 0, .retAddr 0, .retAddr 0]) ⟨Or.inl rfl, Or.inl rfl, Or.inl rfl, trivial⟩ (bX11_steal_32_t C hr hk hf true)
      · rw [if_neg hc] at hf ⊢
        obtain ⟨hok, hf⟩ := grd_ex hf
        refine msegT C kX11_steal 10 8 (g := ((kI 35 ((10 : Int32) + v1) && (kO 0 11 && true)), (if v2 ≤ (S1.1 35 (mIx ((10 : Int32) + v1))) then 34 else 32), [.ref (0), .int v1, .int v2], [], mk true S1)) rfl hok ?_
        by_cases hc : v2 ≤ (S1.1 35 (mIx ((10 : Int32) + v1)))
        · rw [if_pos hc] at hf ⊢
          obtain ⟨hok, hf⟩ := grd_ex hf
          refine msegT C kX11_steal 20 10 (g := ((kI 35 ((10 : Int32) + v1) && (kI 35 ((10 : Int32) + v1) && (kO 0 11 && true))), 47, [.ref (0), .int v1, .int v2], [], mk true (sI S1 35 (mIx ((10 : Int32) + v1)) ((S1.1 35 (mIx ((10 : Int32) + v1))) - v2)))) rfl hok ?_
          obtain ⟨S3, eS3, hf⟩ := bnd_ex hf
          rw [← eS3]
          obtain ⟨hok, hf⟩ := grd_ex hf
          refine msegT C kX11_steal 30 4 (g := ((kO 0 11 && (kO 0 11 && true)), 55, [.ref (0), .int v1, .int v2], [.ref 35, .ref 37], mk true S3)) rfl hok ?_
          obtain ⟨S4, hq, hf⟩ := bndV_ex hf
          refine mcall (kd := 0) (vs := [.ref 37, .ref 35]) (rest := []) (r := none) (h' := mk true S4) (ok' := true) C lkRX11_149 (qX2_keep hq) (kX11_steal _ (List.mem_of_getElem? (i := 34) rfl)).1 ⟨_, _, rfl, rfl, Nat.le_of_ble_eq_true rfl, _, _, rfl, rfl, rfl⟩ (Nat.le_of_ble_eq_true rfl) (Nat.le_of_ble_eq_true rfl) (Nat.le_refl _) (Nat.le_refl _) (Nat.le_of_ble_eq_true rfl) ?_
          obtain ⟨hok, hf⟩ := grd_ex hf
          refine msegT C kX11_steal 35 6 (g := ((kI 35 ((10 : Int32) + v1) && (kO 0 11 && true)), 67, [.ref (0), .int v1, .int v2], [.int (S4.1 35 (mIx ((10 : Int32) + v1)))], mk true S4)) rfl hok ?_
          cases hf
          exact gret_i C hr hk (kX11_steal _ (List.mem_of_getElem? (i := 41) rfl)).1
        · rw [if_neg hc] at hf ⊢
          exact mfor (L' := [.retAddr 0, .retAddr 0, .retAddr 0]) ⟨Or.inl rfl, Or.inl rfl, Or.inl rfl, trivial⟩ (bX11_steal_32_t C hr hk hf true)
theorem qX11_steal_t {v1 : Int32} {v2 : Int32} {S S' : mT} {r : Int32} (hf : fX11_steal true v1 v2 S = some (r, S')) : mOk l mX11_steal 3 [.ref (0), .int v1, .int v2] true S (some (.int r)) S' :=
  gMet (by decide) (Nat.le_of_ble_eq_true rfl) rfl (Nat.le_of_ble_eq_true rfl) (fun p e s m args below meth c G C hr hk => bX11_steal_0_t C hr hk hf true)
theorem bX7_isChanged_2 (C : mCx p (mR 1) s m args meth c G cX7_isChanged RX7 2 false 233 54500 233 54500) (hr : meth.sig.returnType = (some .boolean)) (hk : meth.locks = false) {b : Bool} {S' : mT} {r : Int32} : ∀ (k : Nat) (v1 : Int32) (S : mT), fX7_isChanged_2 k v1 S = some (r, S') → ∀ ok : Bool, mW p l e (mR 1) s m args below meth c G 2 233 54500 (mQ below G args s b S' (some (.int r))) (ok, 2, [.ref (109), .int v1], [], mk b S) := by
  intro k
  induction k with
  | zero =>
    intro v1 S hf ok
    cases hf
  | succ k ih =>
    intro v1 S hf ok
    unfold fX7_isChanged_2 at hf
    obtain ⟨hok, hf⟩ := grd_ex hf
    refine msegT C kX7_isChanged 2 4 (g := ((kO 109 7 && true), (if (S.1 109 4) ≤ v1 then 33 else 10), [.ref (109), .int v1], [], mk b S)) rfl hok ?_
    by_cases hc : (S.1 109 4) ≤ v1
    · rw [if_pos hc] at hf ⊢
      refine msegT C kX7_isChanged 19 1 (g := (true, 34, [.ref (109), .int v1], [.int (0 : Int32)], mk b S)) rfl rfl ?_
      cases hf
      exact gret_z C hr hk (by decide) (kX7_isChanged _ (List.mem_of_getElem? (i := 20) rfl)).1
    · rw [if_neg hc] at hf ⊢
      obtain ⟨hok, hf⟩ := grd_ex hf
      refine msegT C kX7_isChanged 6 9 (g := ((kI 113 v1 && (kO 109 7 && (kI 111 v1 && (kO 109 7 && true)))), (if (S.1 111 (mIx v1)) = (S.1 113 (mIx v1)) then 27 else 25), [.ref (109), .int v1], [], mk b S)) rfl hok ?_
      by_cases hc : (S.1 111 (mIx v1)) = (S.1 113 (mIx v1))
      · rw [if_pos hc] at hf ⊢
        refine msegT C kX7_isChanged 17 1 (g := (true, 30, [.ref (109), .int (v1 + (1 : Int32))], [], mk b S)) rfl rfl ?_
        obtain ⟨x1, ex1, hf⟩ := bnd_ex hf
        rw [← ex1]
        refine msegT C kX7_isChanged 18 1 (g := (true, 2, [.ref (109), .int x1], [], mk b S)) rfl rfl ?_
        exact mfor (L' := [.ref (109), .int x1]) ⟨Or.inr rfl, Or.inr rfl, trivial⟩ (ih _ _ hf true)
      · rw [if_neg hc] at hf ⊢
        refine msegT C kX7_isChanged 15 1 (g := (true, 26, [.ref (109), .int v1], [.int (1 : Int32)], mk b S)) rfl rfl ?_
        cases hf
        exact gret_z C hr hk (by decide) (kX7_isChanged _ (List.mem_of_getElem? (i := 16) rfl)).1
theorem bX7_isChanged_0 (C : mCx p (mR 1) s m args meth c G cX7_isChanged RX7 2 false 233 54500 233 54500) (hr : meth.sig.returnType = (some .boolean)) (hk : meth.locks = false) {b : Bool} {S' : mT} {r : Int32} {S : mT} (hf : fX7_isChanged S = some (r, S')) (ok : Bool) : mW p l e (mR 1) s m args below meth c G 2 233 54500 (mQ below G args s b S' (some (.int r))) (ok, 0, [.ref (109), .retAddr 0], [], mk b S) := by
  unfold fX7_isChanged at hf
  refine msegT C kX7_isChanged 0 2 (g := (true, 2, [.ref (109), .int (0 : Int32)], [], mk b S)) rfl rfl ?_
  exact mfor (L' := [.ref (109), .int (0 : Int32)]) ⟨Or.inr rfl, Or.inr rfl, trivial⟩ (bX7_isChanged_2 C hr hk _ _ _ hf true)
theorem qX7_isChanged {b : Bool} {S S' : mT} {r : Int32} (hf : fX7_isChanged S = some (r, S')) : mOk l mX7_isChanged 1 [.ref (109)] b S (some (.int r)) S' :=
  gMet (by decide) (Nat.le_of_ble_eq_true rfl) rfl (Nat.le_of_ble_eq_true rfl) (fun p e s m args below meth c G C hr hk => bX7_isChanged_0 C hr hk hf true)
theorem bX7_changedByOne_79 (C : mCx p (mR 4) s m args meth c G cX7_changedByOne RX7 5 false 233 54500 233 54500) (hr : meth.sig.returnType = (some .int)) (hk : meth.locks = false) {b : Bool} {S' : mT} {r : Int32} {rc28 : Int32 → Int32 → Int32 → Int32 → mT → Option (Int32 × mT)} (Hrc28 : ∀ (v1 : Int32) (v2 : Int32) (v3 : Int32) (v4 : Int32) (S : mT), rc28 v1 v2 v3 v4 S = some (r, S') → ∀ ok : Bool, mW p l e (mR 4) s m args below meth c G 5 233 54500 (mQ below G args s b S' (some (.int r))) (ok, 28, [.ref (109), .int v1, .int v2, .int v3, .int v4], [], mk b S)) {v1 : Int32} {v2 : Int32} {v3 : Int32} {v4 : Int32} {S : mT} (hf : fX7_changedByOne_79 rc28 v1 v2 v3 v4 S = some (r, S')) (ok : Bool) : mW p l e (mR 4) s m args below meth c G 5 233 54500 (mQ below G args s b S' (some (.int r))) (ok, 79, [.ref (109), .int v1, .int v2, .int v3, .int v4], [], mk b S) := by
  unfold fX7_changedByOne_79 at hf
  refine msegT C kX7_changedByOne 50 1 (g := (true, 82, [.ref (109), .int v1, .int v2, .int v3, .int (v4 + (1 : Int32))], [], mk b S)) rfl rfl ?_
  obtain ⟨x9, ex9, hf⟩ := bnd_ex hf
  rw [← ex9]
  refine msegT C kX7_changedByOne 51 1 (g := (true, 28, [.ref (109), .int v1, .int v2, .int v3, .int x9], [], mk b S)) rfl rfl ?_
  exact mfor (L' := [.ref (109), .int v1, .int v2, .int v3, .int x9]) ⟨Or.inr rfl, Or.inr rfl, Or.inr rfl, Or.inr rfl, Or.inr rfl, trivial⟩ (Hrc28 _ _ _ _ _ hf true)
theorem bX7_changedByOne_28 (C : mCx p (mR 4) s m args meth c G cX7_changedByOne RX7 5 false 233 54500 233 54500) (hr : meth.sig.returnType = (some .int)) (hk : meth.locks = false) {b : Bool} {S' : mT} {r : Int32} : ∀ (k : Nat) (v1 : Int32) (v2 : Int32) (v3 : Int32) (v4 : Int32) (S : mT), fX7_changedByOne_28 k v1 v2 v3 v4 S = some (r, S') → ∀ ok : Bool, mW p l e (mR 4) s m args below meth c G 5 233 54500 (mQ below G args s b S' (some (.int r))) (ok, 28, [.ref (109), .int v1, .int v2, .int v3, .int v4], [], mk b S) := by
  intro k
  induction k with
  | zero =>
    intro v1 v2 v3 v4 S hf ok
    cases hf
  | succ k ih =>
    intro v1 v2 v3 v4 S hf ok
    unfold fX7_changedByOne_28 at hf
    obtain ⟨hok, hf⟩ := grd_ex hf
    refine msegT C kX7_changedByOne 17 4 (g := ((kO 109 7 && true), (if (S.1 109 4) ≤ v4 then 85 else 37), [.ref (109), .int v1, .int v2, .int v3, .int v4], [], mk b S)) rfl hok ?_
    by_cases hc : (S.1 109 4) ≤ v4
    · rw [if_pos hc] at hf ⊢
      refine msegT C kX7_changedByOne 52 1 (g := (true, 86, [.ref (109), .int v1, .int v2, .int v3, .int v4], [.int v3], mk b S)) rfl rfl ?_
      cases hf
      exact gret_i C hr hk (kX7_changedByOne _ (List.mem_of_getElem? (i := 53) rfl)).1
    · rw [if_neg hc] at hf ⊢
      obtain ⟨hok, hf⟩ := grd_ex hf
      refine msegT C kX7_changedByOne 21 8 (g := ((kI 110 v4 && (kI 110 v4 && (kO 109 7 && true))), 48, [.ref (109), .int v1, .int v2, .int v3, .int v4], [], mk b (sI S 110 (mIx v4) ((S.1 110 (mIx v4)) + (1 : Int32))))) rfl hok ?_
      obtain ⟨S3, eS3, hf⟩ := bnd_ex hf
      rw [← eS3]
      refine msegT C kX7_changedByOne 29 3 (g := (true, 51, [.ref (109), .int v1, .int v2, .int v3, .int v4], [.int v2, .int v1, .ref (109)], mk b S3)) rfl rfl ?_
      obtain ⟨S4, hq, hf⟩ := bndV_ex hf
      refine mcall (kd := 0) (vs := [.ref (109), .int v1, .int v2]) (rest := []) (r := none) (h' := mk b S4) (ok' := true) C lkRX7_42 (qX7_share hq) (kX7_changedByOne _ (List.mem_of_getElem? (i := 32) rfl)).1 ⟨_, _, rfl, rfl, Nat.le_of_ble_eq_true rfl, _, _, rfl, rfl, rfl⟩ (Nat.le_of_ble_eq_true rfl) (Nat.le_of_ble_eq_true rfl) (Nat.le_refl _) (Nat.le_refl _) (Nat.le_of_ble_eq_true rfl) ?_
      obtain ⟨hok, hf⟩ := grd_ex hf
      refine msegT C kX7_changedByOne 33 8 (g := ((kI 110 v4 && (kI 110 v4 && (kO 109 7 && true))), 65, [.ref (109), .int v1, .int v2, .int v3, .int v4], [], mk b (sI S4 110 (mIx v4) ((S4.1 110 (mIx v4)) - (1 : Int32))))) rfl hok ?_
      obtain ⟨S5, eS5, hf⟩ := bnd_ex hf
      rw [← eS5]
      refine msegT C kX7_changedByOne 41 1 (g := (true, 66, [.ref (109), .int v1, .int v2, .int v3, .int v4], [.ref (109)], mk b S5)) rfl rfl ?_
      obtain ⟨x7, S6, hq, hf⟩ := bndC_ex hf
      refine mcall (kd := 0) (vs := [.ref (109)]) (rest := []) (r := (some (.int x7))) (h' := mk b S6) (ok' := true) C lkRX7_45 (qX7_isChanged hq) (kX7_changedByOne _ (List.mem_of_getElem? (i := 42) rfl)).1 ⟨_, _, rfl, rfl, Nat.le_of_ble_eq_true rfl, _, _, rfl, rfl, rfl⟩ (Nat.le_of_ble_eq_true rfl) (Nat.le_of_ble_eq_true rfl) (Nat.le_refl _) (Nat.le_refl _) (Nat.le_of_ble_eq_true rfl) ?_
      refine msegT C kX7_changedByOne 43 1 (g := (true, (if x7 = 0 then 79 else 72), [.ref (109), .int v1, .int v2, .int v3, .int v4], [], mk b S6)) rfl rfl ?_
      by_cases hc : x7 = 0
      · rw [if_pos hc] at hf ⊢
        exact mfor (L' := [.ref (109), .int v1, .int v2, .int v3, .int v4]) ⟨Or.inr rfl, Or.inr rfl, Or.inr rfl, Or.inr rfl, Or.inr rfl, trivial⟩ (bX7_changedByOne_79 C hr hk ih hf true)
      · rw [if_neg hc] at hf ⊢
        refine msegT C kX7_changedByOne 44 6 (g := (true, 79, [.ref (109), .int v1, .int v2, .int (v3 ||| ((1 : Int32) <<< (v4 &&& 31))), .int v4], [], mk b S6)) rfl rfl ?_
        obtain ⟨x8, ex8, hf⟩ := bnd_ex hf
        rw [← ex8]
        exact mfor (L' := [.ref (109), .int v1, .int v2, .int x8, .int v4]) ⟨Or.inr rfl, Or.inr rfl, Or.inr rfl, Or.inr rfl, Or.inr rfl, trivial⟩ (bX7_changedByOne_79 C hr hk ih hf true)
theorem bX7_changedByOne_0 (C : mCx p (mR 4) s m args meth c G cX7_changedByOne RX7 5 false 233 54500 233 54500) (hr : meth.sig.returnType = (some .int)) (hk : meth.locks = false) {b : Bool} {S' : mT} {r : Int32} {v1 : Int32} {v2 : Int32} {S : mT} (hf : fX7_changedByOne v1 v2 S = some (r, S')) (ok : Bool) : mW p l e (mR 4) s m args below meth c G 5 233 54500 (mQ below G args s b S' (some (.int r))) (ok, 0, [.ref (109), .int v1, .int v2, .retAddr 0, .retAddr 0], [], mk b S) := by
  unfold fX7_changedByOne at hf
  refine msegT C kX7_changedByOne 0 3 (g := (true, 3, [.ref (109), .int v1, .int v2, .retAddr 0, .retAddr 0], [.int v2, .int v1, .ref (109)], mk b S)) rfl rfl ?_
  obtain ⟨S1, hq, hf⟩ := bndV_ex hf
  refine mcall (kd := 0) (vs := [.ref (109), .int v1, .int v2]) (rest := []) (r := none) (h' := mk b S1) (ok' := true) C lkRX7_42 (qX7_share hq) (kX7_changedByOne _ (List.mem_of_getElem? (i := 3) rfl)).1 ⟨_, _, rfl, rfl, Nat.le_of_ble_eq_true rfl, _, _, rfl, rfl, rfl⟩ (Nat.le_of_ble_eq_true rfl) (Nat.le_of_ble_eq_true rfl) (Nat.le_refl _) (Nat.le_refl _) (Nat.le_of_ble_eq_true rfl) ?_
  obtain ⟨hok, hf⟩ := grd_ex hf
  refine msegT C kX7_changedByOne 4 9 (g := ((kC 111 113 (0 : Int32) (0 : Int32) (S1.1 109 4) && (kO 109 7 && (kO 109 7 && (kO 109 7 && true)))), 23, [.ref (109), .int v1, .int v2, .retAddr 0, .retAddr 0], [], mk b (sC S1 111 113 (0 : Int32) (0 : Int32) (S1.1 109 4)))) rfl hok ?_
  obtain ⟨S2, eS2, hf⟩ := bnd_ex hf
  rw [← eS2]
  refine msegT C kX7_changedByOne 13 4 (g := (true, 28, [.ref (109), .int v1, .int v2, .int (0 : Int32), .int (0 : Int32)], [], mk b S2)) rfl rfl ?_
  exact mfor (L' := [.ref (109), .int v1, .int v2, .int (0 : Int32), .int (0 : Int32)]) ⟨Or.inr rfl, Or.inr rfl, Or.inr rfl, Or.inr rfl, Or.inr rfl, trivial⟩ (bX7_changedByOne_28 C hr hk _ _ _ _ _ _ hf true)
theorem qX7_changedByOne {b : Bool} {v1 : Int32} {v2 : Int32} {S S' : mT} {r : Int32} (hf : fX7_changedByOne v1 v2 S = some (r, S')) : mOk l mX7_changedByOne 4 [.ref (109), .int v1, .int v2] b S (some (.int r)) S' :=
  gMet (by decide) (Nat.le_of_ble_eq_true rfl) rfl (Nat.le_of_ble_eq_true rfl) (fun p e s m args below meth c G C hr hk => bX7_changedByOne_0 C hr hk hf true)
theorem bX11_stone_19_f (C : mCx p (mR 5) s m args meth c G cX11_stone RX11 3 false 233 54500 233 54500) (hr : meth.sig.returnType = (some .int)) (hk : meth.locks = false) {S' : mT} {r : Int32} {S : mT} (hf : fX11_stone_19 false S = some (r, S')) (ok : Bool) : mW p l e (mR 5) s m args below meth c G 3 233 54500 (mQ below G args s false S' (some (.int r))) (ok, 19, [.retAddr 0, .retAddr 0, .retAddr 0], [], mk false S) := by
  unfold fX11_stone_19 at hf
  refine msegT C kX11_stone 10 1 (g := (true, 20, [.retAddr 0, .retAddr 0, .retAddr 0], [.int (-1 : Int32)], mk false S)) rfl rfl ?_
  cases hf
  exact gret_i C hr hk (kX11_stone _ (List.mem_of_getElem? (i := 11) rfl)).1
theorem bX11_stone_0_f (C : mCx p (mR 5) s m args meth c G cX11_stone RX11 3 false 233 54500 233 54500) (hr : meth.sig.returnType = (some .int)) (hk : meth.locks = false) {S' : mT} {r : Int32} {v1 : Int32} {v2 : Int32} {S : mT} (hf : fX11_stone false v1 v2 S = some (r, S')) (ok : Bool) : mW p l e (mR 5) s m args below meth c G 3 233 54500 (mQ below G args s false S' (some (.int r))) (ok, 0, [.ref (0), .int v1, .int v2], [], mk false S) := by
  unfold fX11_stone at hf
  refine msegT C kX11_stone 0 3 (g := (true, 4, [.ref (0), .int v1, .int v2], [.int (20 : Int32), .int (1 : Int32), .int v1], mk false S)) rfl rfl ?_
  obtain ⟨x2, S1, hq, hf⟩ := bndC_ex hf
  refine mcall (kd := 1) (vs := [.int v1, .int (1 : Int32), .int (20 : Int32)]) (rest := []) (r := (some (.int x2))) (h' := mk false S1) (ok' := true) C lkRX11_169 (qX11_isWithin hq) (kX11_stone _ (List.mem_of_getElem? (i := 3) rfl)).1 rfl (Nat.le_of_ble_eq_true rfl) (Nat.le_of_ble_eq_true rfl) (Nat.le_refl _) (Nat.le_refl _) (Nat.le_of_ble_eq_true rfl) ?_
  refine msegT C kX11_stone 4 1 (g := (true, (if x2 = 0 then 19 else 10), [.ref (0), .int v1, .int v2], [], mk false S1)) rfl rfl ?_
  by_cases hc : x2 = 0
  · rw [if_pos hc] at hf ⊢
    exact mfor (L' := [.retAddr 0, .retAddr 0, .retAddr 0]) ⟨Or.inl rfl, Or.inl rfl, Or.inl rfl, trivial⟩ (bX11_stone_19_f C hr hk hf true)
  · rw [if_neg hc] at hf ⊢
    refine msegT C kX11_stone 5 3 (g := (true, 13, [.ref (0), .int v1, .int v2], [.int (1 : Int32), .int (0 : Int32), .int v2], mk false S1)) rfl rfl ?_
    obtain ⟨x4, S3, hq, hf⟩ := bndC_ex hf
    refine mcall (kd := 1) (vs := [.int v2, .int (0 : Int32), .int (1 : Int32)]) (rest := []) (r := (some (.int x4))) (h' := mk false S3) (ok' := true) C lkRX11_169 (qX11_isWithin hq) (kX11_stone _ (List.mem_of_getElem? (i := 8) rfl)).1 rfl (Nat.le_of_ble_eq_true rfl) (Nat.le_of_ble_eq_true rfl) (Nat.le_refl _) (Nat.le_refl _) (Nat.le_of_ble_eq_true rfl) ?_
    refine msegT C kX11_stone 9 1 (g := (true, (if x4 = 0 then 19 else 21), [.ref (0), .int v1, .int v2], [], mk false S3)) rfl rfl ?_
    by_cases hc : x4 = 0
    · rw [if_pos hc] at hf ⊢
      exact mfor (L' := [.retAddr 0, .retAddr 0, .retAddr 0]) ⟨Or.inl rfl, Or.inl rfl, Or.inl rfl, trivial⟩ (bX11_stone_19_f C hr hk hf true)
    · rw [if_neg hc] at hf ⊢
      obtain ⟨hok, hf⟩ := grd_ex hf
      refine msegT C kX11_stone 12 7 (g := ((kO (shU false) 8 && (kO 0 11 && (kO 0 11 && (kO 0 11 && true)))), 36, [.ref (0), .int v1, .int v2], [.int (S3.1 (shU false) 9), .ref 35, .ref 109], mk false S3)) rfl hok ?_
      obtain ⟨S5, hq, hf⟩ := bndV_ex hf
      refine mcall (kd := 0) (vs := [.ref 109, .ref 35, .int (S3.1 (shU false) 9)]) (rest := []) (r := none) (h' := mk false S5) (ok' := true) C lkRX11_204 (qX7_look hq) (kX11_stone _ (List.mem_of_getElem? (i := 19) rfl)).1 ⟨_, _, rfl, rfl, Nat.le_of_ble_eq_true rfl, _, _, rfl, rfl, rfl⟩ (Nat.le_of_ble_eq_true rfl) (Nat.le_of_ble_eq_true rfl) (Nat.le_refl _) (Nat.le_refl _) (Nat.le_of_ble_eq_true rfl) ?_
      obtain ⟨hok, hf⟩ := grd_ex hf
      refine msegT C kX11_stone 20 4 (g := ((kO 0 11 && true), 45, [.ref (0), .int v1, .int v2], [.int v2, .int v1, .ref 109], mk false S5)) rfl hok ?_
      obtain ⟨x7, S6, hq, hf⟩ := bndC_ex hf
      refine mcall (kd := 0) (vs := [.ref 109, .int v1, .int v2]) (rest := []) (r := (some (.int x7))) (h' := mk false S6) (ok' := true) C lkRX11_213 (qX7_changedByOne hq) (kX11_stone _ (List.mem_of_getElem? (i := 24) rfl)).1 ⟨_, _, rfl, rfl, Nat.le_of_ble_eq_true rfl, _, _, rfl, rfl, rfl⟩ (Nat.le_of_ble_eq_true rfl) (Nat.le_of_ble_eq_true rfl) (Nat.le_refl _) (Nat.le_refl _) (Nat.le_of_ble_eq_true rfl) ?_
      cases hf
      exact gret_i C hr hk (kX11_stone _ (List.mem_of_getElem? (i := 25) rfl)).1
theorem qX11_stone_f {v1 : Int32} {v2 : Int32} {S S' : mT} {r : Int32} (hf : fX11_stone false v1 v2 S = some (r, S')) : mOk l mX11_stone 5 [.ref (0), .int v1, .int v2] false S (some (.int r)) S' :=
  gMet (by decide) (Nat.le_of_ble_eq_true rfl) rfl (Nat.le_of_ble_eq_true rfl) (fun p e s m args below meth c G C hr hk => bX11_stone_0_f C hr hk hf true)
theorem bX11_stone_19_t (C : mCx p (mR 5) s m args meth c G cX11_stone RX11 3 false 233 54500 233 54500) (hr : meth.sig.returnType = (some .int)) (hk : meth.locks = false) {S' : mT} {r : Int32} {S : mT} (hf : fX11_stone_19 true S = some (r, S')) (ok : Bool) : mW p l e (mR 5) s m args below meth c G 3 233 54500 (mQ below G args s true S' (some (.int r))) (ok, 19, [.retAddr 0, .retAddr 0, .retAddr 0], [], mk true S) := by
  unfold fX11_stone_19 at hf
  refine msegT C kX11_stone 10 1 (g := (true, 20, [.retAddr 0, .retAddr 0, .retAddr 0], [.int (-1 : Int32)], mk true S)) rfl rfl ?_
  cases hf
  exact gret_i C hr hk (kX11_stone _ (List.mem_of_getElem? (i := 11) rfl)).1
theorem bX11_stone_0_t (C : mCx p (mR 5) s m args meth c G cX11_stone RX11 3 false 233 54500 233 54500) (hr : meth.sig.returnType = (some .int)) (hk : meth.locks = false) {S' : mT} {r : Int32} {v1 : Int32} {v2 : Int32} {S : mT} (hf : fX11_stone true v1 v2 S = some (r, S')) (ok : Bool) : mW p l e (mR 5) s m args below meth c G 3 233 54500 (mQ below G args s true S' (some (.int r))) (ok, 0, [.ref (0), .int v1, .int v2], [], mk true S) := by
  unfold fX11_stone at hf
  refine msegT C kX11_stone 0 3 (g := (true, 4, [.ref (0), .int v1, .int v2], [.int (20 : Int32), .int (1 : Int32), .int v1], mk true S)) rfl rfl ?_
  obtain ⟨x2, S1, hq, hf⟩ := bndC_ex hf
  refine mcall (kd := 1) (vs := [.int v1, .int (1 : Int32), .int (20 : Int32)]) (rest := []) (r := (some (.int x2))) (h' := mk true S1) (ok' := true) C lkRX11_169 (qX11_isWithin hq) (kX11_stone _ (List.mem_of_getElem? (i := 3) rfl)).1 rfl (Nat.le_of_ble_eq_true rfl) (Nat.le_of_ble_eq_true rfl) (Nat.le_refl _) (Nat.le_refl _) (Nat.le_of_ble_eq_true rfl) ?_
  refine msegT C kX11_stone 4 1 (g := (true, (if x2 = 0 then 19 else 10), [.ref (0), .int v1, .int v2], [], mk true S1)) rfl rfl ?_
  by_cases hc : x2 = 0
  · rw [if_pos hc] at hf ⊢
    exact mfor (L' := [.retAddr 0, .retAddr 0, .retAddr 0]) ⟨Or.inl rfl, Or.inl rfl, Or.inl rfl, trivial⟩ (bX11_stone_19_t C hr hk hf true)
  · rw [if_neg hc] at hf ⊢
    refine msegT C kX11_stone 5 3 (g := (true, 13, [.ref (0), .int v1, .int v2], [.int (1 : Int32), .int (0 : Int32), .int v2], mk true S1)) rfl rfl ?_
    obtain ⟨x4, S3, hq, hf⟩ := bndC_ex hf
    refine mcall (kd := 1) (vs := [.int v2, .int (0 : Int32), .int (1 : Int32)]) (rest := []) (r := (some (.int x4))) (h' := mk true S3) (ok' := true) C lkRX11_169 (qX11_isWithin hq) (kX11_stone _ (List.mem_of_getElem? (i := 8) rfl)).1 rfl (Nat.le_of_ble_eq_true rfl) (Nat.le_of_ble_eq_true rfl) (Nat.le_refl _) (Nat.le_refl _) (Nat.le_of_ble_eq_true rfl) ?_
    refine msegT C kX11_stone 9 1 (g := (true, (if x4 = 0 then 19 else 21), [.ref (0), .int v1, .int v2], [], mk true S3)) rfl rfl ?_
    by_cases hc : x4 = 0
    · rw [if_pos hc] at hf ⊢
      exact mfor (L' := [.retAddr 0, .retAddr 0, .retAddr 0]) ⟨Or.inl rfl, Or.inl rfl, Or.inl rfl, trivial⟩ (bX11_stone_19_t C hr hk hf true)
    · rw [if_neg hc] at hf ⊢
      obtain ⟨hok, hf⟩ := grd_ex hf
      refine msegT C kX11_stone 12 7 (g := ((kO (shU true) 8 && (kO 0 11 && (kO 0 11 && (kO 0 11 && true)))), 36, [.ref (0), .int v1, .int v2], [.int (S3.1 (shU true) 9), .ref 35, .ref 109], mk true S3)) rfl hok ?_
      obtain ⟨S5, hq, hf⟩ := bndV_ex hf
      refine mcall (kd := 0) (vs := [.ref 109, .ref 35, .int (S3.1 (shU true) 9)]) (rest := []) (r := none) (h' := mk true S5) (ok' := true) C lkRX11_204 (qX7_look hq) (kX11_stone _ (List.mem_of_getElem? (i := 19) rfl)).1 ⟨_, _, rfl, rfl, Nat.le_of_ble_eq_true rfl, _, _, rfl, rfl, rfl⟩ (Nat.le_of_ble_eq_true rfl) (Nat.le_of_ble_eq_true rfl) (Nat.le_refl _) (Nat.le_refl _) (Nat.le_of_ble_eq_true rfl) ?_
      obtain ⟨hok, hf⟩ := grd_ex hf
      refine msegT C kX11_stone 20 4 (g := ((kO 0 11 && true), 45, [.ref (0), .int v1, .int v2], [.int v2, .int v1, .ref 109], mk true S5)) rfl hok ?_
      obtain ⟨x7, S6, hq, hf⟩ := bndC_ex hf
      refine mcall (kd := 0) (vs := [.ref 109, .int v1, .int v2]) (rest := []) (r := (some (.int x7))) (h' := mk true S6) (ok' := true) C lkRX11_213 (qX7_changedByOne hq) (kX11_stone _ (List.mem_of_getElem? (i := 24) rfl)).1 ⟨_, _, rfl, rfl, Nat.le_of_ble_eq_true rfl, _, _, rfl, rfl, rfl⟩ (Nat.le_of_ble_eq_true rfl) (Nat.le_of_ble_eq_true rfl) (Nat.le_refl _) (Nat.le_refl _) (Nat.le_of_ble_eq_true rfl) ?_
      cases hf
      exact gret_i C hr hk (kX11_stone _ (List.mem_of_getElem? (i := 25) rfl)).1
theorem qX11_stone_t {v1 : Int32} {v2 : Int32} {S S' : mT} {r : Int32} (hf : fX11_stone true v1 v2 S = some (r, S')) : mOk l mX11_stone 5 [.ref (0), .int v1, .int v2] true S (some (.int r)) S' :=
  gMet (by decide) (Nat.le_of_ble_eq_true rfl) rfl (Nat.le_of_ble_eq_true rfl) (fun p e s m args below meth c G C hr hk => bX11_stone_0_t C hr hk hf true)
theorem bX11_summer_0_f (C : mCx p (mR 6) s m args meth c G cX11_summer RX11 1 false 233 54500 233 54500) (hr : meth.sig.returnType = (some .int)) (hk : meth.locks = false) {S' : mT} {r : Int32} {S : mT} (hf : fX11_summer false S = some (r, S')) (ok : Bool) : mW p l e (mR 6) s m args below meth c G 1 233 54500 (mQ below G args s false S' (some (.int r))) (ok, 0, [.ref (0)], [], mk false S) := by
  unfold fX11_summer at hf
  obtain ⟨hok, hf⟩ := grd_ex hf
  refine msegT C kX11_summer 0 6 (g := ((kI 35 (15 : Int32) && (kO 0 11 && true)), (if (S.1 35 (mIx (15 : Int32))) < (999 : Int32) then 15 else 13), [.ref (0)], [], mk false S)) rfl hok ?_
  by_cases hc : (S.1 35 (mIx (15 : Int32))) < (999 : Int32)
  · rw [if_pos hc] at hf ⊢
    obtain ⟨hok, hf⟩ := grd_ex hf
    refine msegT C kX11_summer 8 4 (g := ((kO 0 11 && (kO 0 11 && true)), 23, [.ref (0)], [.ref 35, .ref (shU false)], mk false S)) rfl hok ?_
    obtain ⟨S1, hq, hf⟩ := bndV_ex hf
    refine mcall (kd := 0) (vs := [.ref (shU false), .ref 35]) (rest := []) (r := none) (h' := mk false S1) (ok' := true) C lkRX11_155 (qX8_passSummer_3 hq) (kX11_summer _ (List.mem_of_getElem? (i := 12) rfl)).1 ⟨_, _, rfl, rfl, Nat.le_of_ble_eq_true rfl, _, _, rfl, rfl, rfl⟩ (Nat.le_of_ble_eq_true rfl) (Nat.le_of_ble_eq_true rfl) (Nat.le_refl _) (Nat.le_refl _) (Nat.le_of_ble_eq_true rfl) ?_
    obtain ⟨hok, hf⟩ := grd_ex hf
    refine msegT C kX11_summer 13 4 (g := ((kO 0 11 && (kO 0 11 && true)), 34, [.ref (0)], [.ref 35, .ref 37], mk false S1)) rfl hok ?_
    obtain ⟨S2, hq, hf⟩ := bndV_ex hf
    refine mcall (kd := 0) (vs := [.ref 37, .ref 35]) (rest := []) (r := none) (h' := mk false S2) (ok' := true) C lkRX11_149 (qX2_keep hq) (kX11_summer _ (List.mem_of_getElem? (i := 17) rfl)).1 ⟨_, _, rfl, rfl, Nat.le_of_ble_eq_true rfl, _, _, rfl, rfl, rfl⟩ (Nat.le_of_ble_eq_true rfl) (Nat.le_of_ble_eq_true rfl) (Nat.le_refl _) (Nat.le_refl _) (Nat.le_of_ble_eq_true rfl) ?_
    obtain ⟨hok, hf⟩ := grd_ex hf
    refine msegT C kX11_summer 18 3 (g := ((kO 0 11 && true), 42, [.ref (0)], [.ref 35, .ref (0)], mk false S2)) rfl hok ?_
    obtain ⟨x4, S3, hq, hf⟩ := bndC_ex hf
    refine mcall (kd := 0) (vs := [.ref (0), .ref 35]) (rest := []) (r := (some (.int x4))) (h' := mk false S3) (ok' := true) C lkRX11_158 (qX11_allBowls_f hq) (kX11_summer _ (List.mem_of_getElem? (i := 21) rfl)).1 ⟨_, _, rfl, rfl, Nat.le_of_ble_eq_true rfl, _, _, rfl, rfl, rfl⟩ (Nat.le_of_ble_eq_true rfl) (Nat.le_of_ble_eq_true rfl) (Nat.le_refl _) (Nat.le_refl _) (Nat.le_of_ble_eq_true rfl) ?_
    cases hf
    exact gret_i C hr hk (kX11_summer _ (List.mem_of_getElem? (i := 22) rfl)).1
  · rw [if_neg hc] at hf ⊢
    refine msegT C kX11_summer 6 1 (g := (true, 14, [.ref (0)], [.int (-1 : Int32)], mk false S)) rfl rfl ?_
    cases hf
    exact gret_i C hr hk (kX11_summer _ (List.mem_of_getElem? (i := 7) rfl)).1
theorem qX11_summer_f {S S' : mT} {r : Int32} (hf : fX11_summer false S = some (r, S')) : mOk l mX11_summer 6 [.ref (0)] false S (some (.int r)) S' :=
  gMet (by decide) (Nat.le_of_ble_eq_true rfl) rfl (Nat.le_of_ble_eq_true rfl) (fun p e s m args below meth c G C hr hk => bX11_summer_0_f C hr hk hf true)
theorem bX11_summer_0_t (C : mCx p (mR 6) s m args meth c G cX11_summer RX11 1 false 233 54500 233 54500) (hr : meth.sig.returnType = (some .int)) (hk : meth.locks = false) {S' : mT} {r : Int32} {S : mT} (hf : fX11_summer true S = some (r, S')) (ok : Bool) : mW p l e (mR 6) s m args below meth c G 1 233 54500 (mQ below G args s true S' (some (.int r))) (ok, 0, [.ref (0)], [], mk true S) := by
  unfold fX11_summer at hf
  obtain ⟨hok, hf⟩ := grd_ex hf
  refine msegT C kX11_summer 0 6 (g := ((kI 35 (15 : Int32) && (kO 0 11 && true)), (if (S.1 35 (mIx (15 : Int32))) < (999 : Int32) then 15 else 13), [.ref (0)], [], mk true S)) rfl hok ?_
  by_cases hc : (S.1 35 (mIx (15 : Int32))) < (999 : Int32)
  · rw [if_pos hc] at hf ⊢
    obtain ⟨hok, hf⟩ := grd_ex hf
    refine msegT C kX11_summer 8 4 (g := ((kO 0 11 && (kO 0 11 && true)), 23, [.ref (0)], [.ref 35, .ref (shU true)], mk true S)) rfl hok ?_
    obtain ⟨S1, hq, hf⟩ := bndV_ex hf
    refine mcall (kd := 0) (vs := [.ref (shU true), .ref 35]) (rest := []) (r := none) (h' := mk true S1) (ok' := true) C lkRX11_155 (qX8_passSummer_19 hq) (kX11_summer _ (List.mem_of_getElem? (i := 12) rfl)).1 ⟨_, _, rfl, rfl, Nat.le_of_ble_eq_true rfl, _, _, rfl, rfl, rfl⟩ (Nat.le_of_ble_eq_true rfl) (Nat.le_of_ble_eq_true rfl) (Nat.le_refl _) (Nat.le_refl _) (Nat.le_of_ble_eq_true rfl) ?_
    obtain ⟨hok, hf⟩ := grd_ex hf
    refine msegT C kX11_summer 13 4 (g := ((kO 0 11 && (kO 0 11 && true)), 34, [.ref (0)], [.ref 35, .ref 37], mk true S1)) rfl hok ?_
    obtain ⟨S2, hq, hf⟩ := bndV_ex hf
    refine mcall (kd := 0) (vs := [.ref 37, .ref 35]) (rest := []) (r := none) (h' := mk true S2) (ok' := true) C lkRX11_149 (qX2_keep hq) (kX11_summer _ (List.mem_of_getElem? (i := 17) rfl)).1 ⟨_, _, rfl, rfl, Nat.le_of_ble_eq_true rfl, _, _, rfl, rfl, rfl⟩ (Nat.le_of_ble_eq_true rfl) (Nat.le_of_ble_eq_true rfl) (Nat.le_refl _) (Nat.le_refl _) (Nat.le_of_ble_eq_true rfl) ?_
    obtain ⟨hok, hf⟩ := grd_ex hf
    refine msegT C kX11_summer 18 3 (g := ((kO 0 11 && true), 42, [.ref (0)], [.ref 35, .ref (0)], mk true S2)) rfl hok ?_
    obtain ⟨x4, S3, hq, hf⟩ := bndC_ex hf
    refine mcall (kd := 0) (vs := [.ref (0), .ref 35]) (rest := []) (r := (some (.int x4))) (h' := mk true S3) (ok' := true) C lkRX11_158 (qX11_allBowls_t hq) (kX11_summer _ (List.mem_of_getElem? (i := 21) rfl)).1 ⟨_, _, rfl, rfl, Nat.le_of_ble_eq_true rfl, _, _, rfl, rfl, rfl⟩ (Nat.le_of_ble_eq_true rfl) (Nat.le_of_ble_eq_true rfl) (Nat.le_refl _) (Nat.le_refl _) (Nat.le_of_ble_eq_true rfl) ?_
    cases hf
    exact gret_i C hr hk (kX11_summer _ (List.mem_of_getElem? (i := 22) rfl)).1
  · rw [if_neg hc] at hf ⊢
    refine msegT C kX11_summer 6 1 (g := (true, 14, [.ref (0)], [.int (-1 : Int32)], mk true S)) rfl rfl ?_
    cases hf
    exact gret_i C hr hk (kX11_summer _ (List.mem_of_getElem? (i := 7) rfl)).1
theorem qX11_summer_t {S S' : mT} {r : Int32} (hf : fX11_summer true S = some (r, S')) : mOk l mX11_summer 6 [.ref (0)] true S (some (.int r)) S' :=
  gMet (by decide) (Nat.le_of_ble_eq_true rfl) rfl (Nat.le_of_ble_eq_true rfl) (fun p e s m args below meth c G C hr hk => bX11_summer_0_t C hr hk hf true)
theorem bX11_tells_48_f (C : mCx p (mR 21) s m args meth c G cX11_tells RX11 4 false 233 54500 233 54500) (hr : meth.sig.returnType = (some .int)) (hk : meth.locks = false) {S' : mT} {r : Int32} {s0 : Int32} {S : mT} (hf : fX11_tells_48 false s0 S = some (r, S')) (ok : Bool) : mW p l e (mR 21) s m args below meth c G 4 233 54500 (mQ below G args s false S' (some (.int r))) (ok, 48, [.retAddr 0, .retAddr 0, .retAddr 0, .retAddr 0], [.int s0], mk false S) := by
  unfold fX11_tells_48 at hf
  cases hf
  exact gret_i C hr hk (kX11_tells _ (List.mem_of_getElem? (i := 26) rfl)).1
theorem bX11_tells_0_f (C : mCx p (mR 21) s m args meth c G cX11_tells RX11 4 false 233 54500 233 54500) (hr : meth.sig.returnType = (some .int)) (hk : meth.locks = false) {S' : mT} {r : Int32} {v1 : Int32} {v2 : Int32} {S : mT} (hf : fX11_tells false v1 v2 S = some (r, S')) (ok : Bool) : mW p l e (mR 21) s m args below meth c G 4 233 54500 (mQ below G args s false S' (some (.int r))) (ok, 0, [.ref (0), .int v1, .int v2, .retAddr 0], [], mk false S) := by
  unfold fX11_tells at hf
  refine msegT C kX11_tells 0 3 (g := (true, 3, [.ref (0), .int v1, .int v2, .retAddr 0], [.int (1 : Int32), .int (0 : Int32), .int v1], mk false S)) rfl rfl ?_
  obtain ⟨x2, S1, hq, hf⟩ := bndC_ex hf
  refine mcall (kd := 1) (vs := [.int v1, .int (0 : Int32), .int (1 : Int32)]) (rest := []) (r := (some (.int x2))) (h' := mk false S1) (ok' := true) C lkRX11_169 (qX11_isWithin hq) (kX11_tells _ (List.mem_of_getElem? (i := 3) rfl)).1 rfl (Nat.le_of_ble_eq_true rfl) (Nat.le_of_ble_eq_true rfl) (Nat.le_refl _) (Nat.le_refl _) (Nat.le_of_ble_eq_true rfl) ?_
  refine msegT C kX11_tells 4 1 (g := (true, (if x2 = 0 then 9 else 11), [.ref (0), .int v1, .int v2, .retAddr 0], [], mk false S1)) rfl rfl ?_
  by_cases hc : x2 = 0
  · rw [if_pos hc] at hf ⊢
    refine msegT C kX11_tells 5 1 (g := (true, 10, [.ref (0), .int v1, .int v2, .retAddr 0], [.int (-1 : Int32)], mk false S1)) rfl rfl ?_
    cases hf
    exact gret_i C hr hk (kX11_tells _ (List.mem_of_getElem? (i := 6) rfl)).1
  · rw [if_neg hc] at hf ⊢
    refine msegT C kX11_tells 7 2 (g := (true, 13, [.ref (0), .int v1, .int v2, .retAddr 0], [.int v2, .ref (0)], mk false S1)) rfl rfl ?_
    obtain ⟨S3, hq, hf⟩ := bndV_ex hf
    refine mcall (kd := 0) (vs := [.ref (0), .int v2]) (rest := []) (r := none) (h' := mk false S3) (ok' := true) C lkRX11_250 (qX11_learn_f hq) (kX11_tells _ (List.mem_of_getElem? (i := 9) rfl)).1 ⟨_, _, rfl, rfl, Nat.le_of_ble_eq_true rfl, _, _, rfl, rfl, rfl⟩ (Nat.le_of_ble_eq_true rfl) (Nat.le_of_ble_eq_true rfl) (Nat.le_refl _) (Nat.le_refl _) (Nat.le_of_ble_eq_true rfl) ?_
    obtain ⟨hok, hf⟩ := grd_ex hf
    refine msegT C kX11_tells 10 4 (g := ((kO 120 10 && (kO 0 11 && true)), (if (S3.1 120 8) = 0 then 26 else 28), [.ref (0), .int v1, .int v2, .retAddr 0], [], mk false S3)) rfl hok ?_
    by_cases hc : (S3.1 120 8) = 0
    · rw [if_pos hc] at hf ⊢
      refine msegT C kX11_tells 14 1 (g := (true, 27, [.ref (0), .int v1, .int v2, .retAddr 0], [.int (-1 : Int32)], mk false S3)) rfl rfl ?_
      cases hf
      exact gret_i C hr hk (kX11_tells _ (List.mem_of_getElem? (i := 15) rfl)).1
    · rw [if_neg hc] at hf ⊢
      obtain ⟨hok, hf⟩ := grd_ex hf
      refine msegT C kX11_tells 16 2 (g := ((kO 0 11 && true), 32, [.ref (0), .int v1, .int v2, .retAddr 0], [.ref 120], mk false S3)) rfl hok ?_
      obtain ⟨x5, S4, hq, hf⟩ := bndC_ex hf
      refine mcall (kd := 0) (vs := [.ref 120]) (rest := []) (r := (some (.int x5))) (h' := mk false S4) (ok' := true) C lkRX11_280 (qX10_tellingSet hq) (kX11_tells _ (List.mem_of_getElem? (i := 18) rfl)).1 ⟨_, _, rfl, rfl, Nat.le_of_ble_eq_true rfl, _, _, rfl, rfl, rfl⟩ (Nat.le_of_ble_eq_true rfl) (Nat.le_of_ble_eq_true rfl) (Nat.le_refl _) (Nat.le_refl _) (Nat.le_of_ble_eq_true rfl) ?_
      refine msegT C kX11_tells 19 3 (g := (true, (if v1 = 0 then 40 else 47), [.ref (0), .int v1, .int v2, .int x5], [], mk false S4)) rfl rfl ?_
      by_cases hc : v1 = 0
      · rw [if_pos hc] at hf ⊢
        refine msegT C kX11_tells 22 1 (g := (true, 41, [.ref (0), .int v1, .int v2, .int x5], [.int x5], mk false S4)) rfl rfl ?_
        obtain ⟨x7, S6, hq, hf⟩ := bndC_ex hf
        refine mcall (kd := 1) (vs := [.int x5]) (rest := []) (r := (some (.int x7))) (h' := mk false S6) (ok' := true) C lkRX11_283 (qJ6_bitCount_0f7a4 hq) (kX11_tells _ (List.mem_of_getElem? (i := 23) rfl)).1 rfl (Nat.le_of_ble_eq_true rfl) (Nat.le_of_ble_eq_true rfl) (Nat.le_refl _) (Nat.le_refl _) (Nat.le_of_ble_eq_true rfl) ?_
        refine msegT C kX11_tells 24 1 (g := (true, 48, [.ref (0), .int v1, .int v2, .int x5], [.int x7], mk false S6)) rfl rfl ?_
        exact mfor (L' := [.retAddr 0, .retAddr 0, .retAddr 0, .retAddr 0]) ⟨Or.inl rfl, Or.inl rfl, Or.inl rfl, Or.inl rfl, trivial⟩ (bX11_tells_48_f C hr hk hf true)
      · rw [if_neg hc] at hf ⊢
        refine msegT C kX11_tells 25 1 (g := (true, 48, [.ref (0), .int v1, .int v2, .int x5], [.int x5], mk false S4)) rfl rfl ?_
        exact mfor (L' := [.retAddr 0, .retAddr 0, .retAddr 0, .retAddr 0]) ⟨Or.inl rfl, Or.inl rfl, Or.inl rfl, Or.inl rfl, trivial⟩ (bX11_tells_48_f C hr hk hf true)
theorem qX11_tells_f {v1 : Int32} {v2 : Int32} {S S' : mT} {r : Int32} (hf : fX11_tells false v1 v2 S = some (r, S')) : mOk l mX11_tells 21 [.ref (0), .int v1, .int v2] false S (some (.int r)) S' :=
  gMet (by decide) (Nat.le_of_ble_eq_true rfl) rfl (Nat.le_of_ble_eq_true rfl) (fun p e s m args below meth c G C hr hk => bX11_tells_0_f C hr hk hf true)
theorem bX11_tells_48_t (C : mCx p (mR 21) s m args meth c G cX11_tells RX11 4 false 233 54500 233 54500) (hr : meth.sig.returnType = (some .int)) (hk : meth.locks = false) {S' : mT} {r : Int32} {s0 : Int32} {S : mT} (hf : fX11_tells_48 true s0 S = some (r, S')) (ok : Bool) : mW p l e (mR 21) s m args below meth c G 4 233 54500 (mQ below G args s true S' (some (.int r))) (ok, 48, [.retAddr 0, .retAddr 0, .retAddr 0, .retAddr 0], [.int s0], mk true S) := by
  unfold fX11_tells_48 at hf
  cases hf
  exact gret_i C hr hk (kX11_tells _ (List.mem_of_getElem? (i := 26) rfl)).1
theorem bX11_tells_0_t (C : mCx p (mR 21) s m args meth c G cX11_tells RX11 4 false 233 54500 233 54500) (hr : meth.sig.returnType = (some .int)) (hk : meth.locks = false) {S' : mT} {r : Int32} {v1 : Int32} {v2 : Int32} {S : mT} (hf : fX11_tells true v1 v2 S = some (r, S')) (ok : Bool) : mW p l e (mR 21) s m args below meth c G 4 233 54500 (mQ below G args s true S' (some (.int r))) (ok, 0, [.ref (0), .int v1, .int v2, .retAddr 0], [], mk true S) := by
  unfold fX11_tells at hf
  refine msegT C kX11_tells 0 3 (g := (true, 3, [.ref (0), .int v1, .int v2, .retAddr 0], [.int (1 : Int32), .int (0 : Int32), .int v1], mk true S)) rfl rfl ?_
  obtain ⟨x2, S1, hq, hf⟩ := bndC_ex hf
  refine mcall (kd := 1) (vs := [.int v1, .int (0 : Int32), .int (1 : Int32)]) (rest := []) (r := (some (.int x2))) (h' := mk true S1) (ok' := true) C lkRX11_169 (qX11_isWithin hq) (kX11_tells _ (List.mem_of_getElem? (i := 3) rfl)).1 rfl (Nat.le_of_ble_eq_true rfl) (Nat.le_of_ble_eq_true rfl) (Nat.le_refl _) (Nat.le_refl _) (Nat.le_of_ble_eq_true rfl) ?_
  refine msegT C kX11_tells 4 1 (g := (true, (if x2 = 0 then 9 else 11), [.ref (0), .int v1, .int v2, .retAddr 0], [], mk true S1)) rfl rfl ?_
  by_cases hc : x2 = 0
  · rw [if_pos hc] at hf ⊢
    refine msegT C kX11_tells 5 1 (g := (true, 10, [.ref (0), .int v1, .int v2, .retAddr 0], [.int (-1 : Int32)], mk true S1)) rfl rfl ?_
    cases hf
    exact gret_i C hr hk (kX11_tells _ (List.mem_of_getElem? (i := 6) rfl)).1
  · rw [if_neg hc] at hf ⊢
    refine msegT C kX11_tells 7 2 (g := (true, 13, [.ref (0), .int v1, .int v2, .retAddr 0], [.int v2, .ref (0)], mk true S1)) rfl rfl ?_
    obtain ⟨S3, hq, hf⟩ := bndV_ex hf
    refine mcall (kd := 0) (vs := [.ref (0), .int v2]) (rest := []) (r := none) (h' := mk true S3) (ok' := true) C lkRX11_250 (qX11_learn_t hq) (kX11_tells _ (List.mem_of_getElem? (i := 9) rfl)).1 ⟨_, _, rfl, rfl, Nat.le_of_ble_eq_true rfl, _, _, rfl, rfl, rfl⟩ (Nat.le_of_ble_eq_true rfl) (Nat.le_of_ble_eq_true rfl) (Nat.le_refl _) (Nat.le_refl _) (Nat.le_of_ble_eq_true rfl) ?_
    obtain ⟨hok, hf⟩ := grd_ex hf
    refine msegT C kX11_tells 10 4 (g := ((kO 120 10 && (kO 0 11 && true)), (if (S3.1 120 8) = 0 then 26 else 28), [.ref (0), .int v1, .int v2, .retAddr 0], [], mk true S3)) rfl hok ?_
    by_cases hc : (S3.1 120 8) = 0
    · rw [if_pos hc] at hf ⊢
      refine msegT C kX11_tells 14 1 (g := (true, 27, [.ref (0), .int v1, .int v2, .retAddr 0], [.int (-1 : Int32)], mk true S3)) rfl rfl ?_
      cases hf
      exact gret_i C hr hk (kX11_tells _ (List.mem_of_getElem? (i := 15) rfl)).1
    · rw [if_neg hc] at hf ⊢
      obtain ⟨hok, hf⟩ := grd_ex hf
      refine msegT C kX11_tells 16 2 (g := ((kO 0 11 && true), 32, [.ref (0), .int v1, .int v2, .retAddr 0], [.ref 120], mk true S3)) rfl hok ?_
      obtain ⟨x5, S4, hq, hf⟩ := bndC_ex hf
      refine mcall (kd := 0) (vs := [.ref 120]) (rest := []) (r := (some (.int x5))) (h' := mk true S4) (ok' := true) C lkRX11_280 (qX10_tellingSet hq) (kX11_tells _ (List.mem_of_getElem? (i := 18) rfl)).1 ⟨_, _, rfl, rfl, Nat.le_of_ble_eq_true rfl, _, _, rfl, rfl, rfl⟩ (Nat.le_of_ble_eq_true rfl) (Nat.le_of_ble_eq_true rfl) (Nat.le_refl _) (Nat.le_refl _) (Nat.le_of_ble_eq_true rfl) ?_
      refine msegT C kX11_tells 19 3 (g := (true, (if v1 = 0 then 40 else 47), [.ref (0), .int v1, .int v2, .int x5], [], mk true S4)) rfl rfl ?_
      by_cases hc : v1 = 0
      · rw [if_pos hc] at hf ⊢
        refine msegT C kX11_tells 22 1 (g := (true, 41, [.ref (0), .int v1, .int v2, .int x5], [.int x5], mk true S4)) rfl rfl ?_
        obtain ⟨x7, S6, hq, hf⟩ := bndC_ex hf
        refine mcall (kd := 1) (vs := [.int x5]) (rest := []) (r := (some (.int x7))) (h' := mk true S6) (ok' := true) C lkRX11_283 (qJ6_bitCount_0f7a4 hq) (kX11_tells _ (List.mem_of_getElem? (i := 23) rfl)).1 rfl (Nat.le_of_ble_eq_true rfl) (Nat.le_of_ble_eq_true rfl) (Nat.le_refl _) (Nat.le_refl _) (Nat.le_of_ble_eq_true rfl) ?_
        refine msegT C kX11_tells 24 1 (g := (true, 48, [.ref (0), .int v1, .int v2, .int x5], [.int x7], mk true S6)) rfl rfl ?_
        exact mfor (L' := [.retAddr 0, .retAddr 0, .retAddr 0, .retAddr 0]) ⟨Or.inl rfl, Or.inl rfl, Or.inl rfl, Or.inl rfl, trivial⟩ (bX11_tells_48_t C hr hk hf true)
      · rw [if_neg hc] at hf ⊢
        refine msegT C kX11_tells 25 1 (g := (true, 48, [.ref (0), .int v1, .int v2, .int x5], [.int x5], mk true S4)) rfl rfl ?_
        exact mfor (L' := [.retAddr 0, .retAddr 0, .retAddr 0, .retAddr 0]) ⟨Or.inl rfl, Or.inl rfl, Or.inl rfl, Or.inl rfl, trivial⟩ (bX11_tells_48_t C hr hk hf true)
theorem qX11_tells_t {v1 : Int32} {v2 : Int32} {S S' : mT} {r : Int32} (hf : fX11_tells true v1 v2 S = some (r, S')) : mOk l mX11_tells 21 [.ref (0), .int v1, .int v2] true S (some (.int r)) S' :=
  gMet (by decide) (Nat.le_of_ble_eq_true rfl) rfl (Nat.le_of_ble_eq_true rfl) (fun p e s m args below meth c G C hr hk => bX11_tells_0_t C hr hk hf true)
theorem bX11_truths_0_f (C : mCx p (mR 21) s m args meth c G cX11_truths RX11 2 false 233 54500 233 54500) (hr : meth.sig.returnType = (some .int)) (hk : meth.locks = false) {S' : mT} {r : Int32} {v1 : Int32} {S : mT} (hf : fX11_truths false v1 S = some (r, S')) (ok : Bool) : mW p l e (mR 21) s m args below meth c G 2 233 54500 (mQ below G args s false S' (some (.int r))) (ok, 0, [.ref (0), .int v1], [], mk false S) := by
  unfold fX11_truths at hf
  refine msegT C kX11_truths 0 2 (g := (true, 2, [.ref (0), .int v1], [.int v1, .ref (0)], mk false S)) rfl rfl ?_
  obtain ⟨S1, hq, hf⟩ := bndV_ex hf
  refine mcall (kd := 0) (vs := [.ref (0), .int v1]) (rest := []) (r := none) (h' := mk false S1) (ok' := true) C lkRX11_250 (qX11_learn_f hq) (kX11_truths _ (List.mem_of_getElem? (i := 2) rfl)).1 ⟨_, _, rfl, rfl, Nat.le_of_ble_eq_true rfl, _, _, rfl, rfl, rfl⟩ (Nat.le_of_ble_eq_true rfl) (Nat.le_of_ble_eq_true rfl) (Nat.le_refl _) (Nat.le_refl _) (Nat.le_of_ble_eq_true rfl) ?_
  obtain ⟨hok, hf⟩ := grd_ex hf
  refine msegT C kX11_truths 3 3 (g := ((kO 120 10 && (kO 0 11 && true)), 12, [.ref (0), .int v1], [.int (S1.1 120 8)], mk false S1)) rfl hok ?_
  cases hf
  exact gret_i C hr hk (kX11_truths _ (List.mem_of_getElem? (i := 6) rfl)).1
theorem qX11_truths_f {v1 : Int32} {S S' : mT} {r : Int32} (hf : fX11_truths false v1 S = some (r, S')) : mOk l mX11_truths 21 [.ref (0), .int v1] false S (some (.int r)) S' :=
  gMet (by decide) (Nat.le_of_ble_eq_true rfl) rfl (Nat.le_of_ble_eq_true rfl) (fun p e s m args below meth c G C hr hk => bX11_truths_0_f C hr hk hf true)
theorem bX11_truths_0_t (C : mCx p (mR 21) s m args meth c G cX11_truths RX11 2 false 233 54500 233 54500) (hr : meth.sig.returnType = (some .int)) (hk : meth.locks = false) {S' : mT} {r : Int32} {v1 : Int32} {S : mT} (hf : fX11_truths true v1 S = some (r, S')) (ok : Bool) : mW p l e (mR 21) s m args below meth c G 2 233 54500 (mQ below G args s true S' (some (.int r))) (ok, 0, [.ref (0), .int v1], [], mk true S) := by
  unfold fX11_truths at hf
  refine msegT C kX11_truths 0 2 (g := (true, 2, [.ref (0), .int v1], [.int v1, .ref (0)], mk true S)) rfl rfl ?_
  obtain ⟨S1, hq, hf⟩ := bndV_ex hf
  refine mcall (kd := 0) (vs := [.ref (0), .int v1]) (rest := []) (r := none) (h' := mk true S1) (ok' := true) C lkRX11_250 (qX11_learn_t hq) (kX11_truths _ (List.mem_of_getElem? (i := 2) rfl)).1 ⟨_, _, rfl, rfl, Nat.le_of_ble_eq_true rfl, _, _, rfl, rfl, rfl⟩ (Nat.le_of_ble_eq_true rfl) (Nat.le_of_ble_eq_true rfl) (Nat.le_refl _) (Nat.le_refl _) (Nat.le_of_ble_eq_true rfl) ?_
  obtain ⟨hok, hf⟩ := grd_ex hf
  refine msegT C kX11_truths 3 3 (g := ((kO 120 10 && (kO 0 11 && true)), 12, [.ref (0), .int v1], [.int (S1.1 120 8)], mk true S1)) rfl hok ?_
  cases hf
  exact gret_i C hr hk (kX11_truths _ (List.mem_of_getElem? (i := 6) rfl)).1
theorem qX11_truths_t {v1 : Int32} {S S' : mT} {r : Int32} (hf : fX11_truths true v1 S = some (r, S')) : mOk l mX11_truths 21 [.ref (0), .int v1] true S (some (.int r)) S' :=
  gMet (by decide) (Nat.le_of_ble_eq_true rfl) rfl (Nat.le_of_ble_eq_true rfl) (fun p e s m args below meth c G C hr hk => bX11_truths_0_t C hr hk hf true)
theorem bX2_stepBack_0 (C : mCx p (mR 2) s m args meth c G cX2_stepBack RX2 2 false 233 54500 233 54500) (hr : meth.sig.returnType = (some .boolean)) (hk : meth.locks = false) {b : Bool} {a1 : Nat} {S' : mT} {r : Int32} {S : mT} (hf : fX2_stepBack a1 S = some (r, S')) (ok : Bool) : mW p l e (mR 2) s m args below meth c G 2 233 54500 (mQ below G args s b S' (some (.int r))) (ok, 0, [.ref (37), .ref a1], [], mk b S) := by
  unfold fX2_stepBack at hf
  obtain ⟨hok, hf⟩ := grd_ex hf
  refine msegT C kX2_stepBack 0 3 (g := ((kO 37 2 && true), (if 0 < (S.1 37 4) then 9 else 7), [.ref (37), .ref a1], [], mk b S)) rfl hok ?_
  by_cases hc : 0 < (S.1 37 4)
  · rw [if_pos hc] at hf ⊢
    obtain ⟨hok, hf⟩ := grd_ex hf
    refine msegT C kX2_stepBack 5 6 (g := ((kO 37 2 && (kO 37 2 && true)), 19, [.ref (37), .ref a1], [], mk b (sI S 37 4 ((S.1 37 4) - (1 : Int32))))) rfl hok ?_
    obtain ⟨S1, eS1, hf⟩ := bnd_ex hf
    rw [← eS1]
    obtain ⟨hok, hf⟩ := grd_ex hf
    refine msegT C kX2_stepBack 11 6 (g := ((kO 37 2 && (kO 37 2 && true)), 29, [.ref (37), .ref a1], [], mk b (sI S1 37 5 ((S1.1 37 5) + (1 : Int32))))) rfl hok ?_
    obtain ⟨S2, eS2, hf⟩ := bnd_ex hf
    rw [← eS2]
    refine msegT C kX2_stepBack 17 2 (g := (true, 31, [.ref (37), .ref a1], [.ref a1, .ref (37)], mk b S2)) rfl rfl ?_
    obtain ⟨S3, hq, hf⟩ := bndV_ex hf
    refine mcall (kd := 0) (vs := [.ref (37), .ref a1]) (rest := []) (r := none) (h' := mk b S3) (ok' := true) C lkRX2_37 (qX2_copyTo hq) (kX2_stepBack _ (List.mem_of_getElem? (i := 19) rfl)).1 ⟨_, _, rfl, rfl, Nat.le_of_ble_eq_true rfl, _, _, rfl, rfl, rfl⟩ (Nat.le_of_ble_eq_true rfl) (Nat.le_of_ble_eq_true rfl) (Nat.le_refl _) (Nat.le_refl _) (Nat.le_of_ble_eq_true rfl) ?_
    refine msegT C kX2_stepBack 20 1 (g := (true, 35, [.ref (37), .ref a1], [.int (1 : Int32)], mk b S3)) rfl rfl ?_
    cases hf
    exact gret_z C hr hk (by decide) (kX2_stepBack _ (List.mem_of_getElem? (i := 21) rfl)).1
  · rw [if_neg hc] at hf ⊢
    refine msegT C kX2_stepBack 3 1 (g := (true, 8, [.ref (37), .ref a1], [.int (0 : Int32)], mk b S)) rfl rfl ?_
    cases hf
    exact gret_z C hr hk (by decide) (kX2_stepBack _ (List.mem_of_getElem? (i := 4) rfl)).1
theorem qX2_stepBack {b : Bool} {a1 : Nat} {S S' : mT} {r : Int32} (hf : fX2_stepBack a1 S = some (r, S')) : mOk l mX2_stepBack 2 [.ref (37), .ref a1] b S (some (.int r)) S' :=
  gMet (by decide) (Nat.le_of_ble_eq_true rfl) rfl (Nat.le_of_ble_eq_true rfl) (fun p e s m args below meth c G C hr hk => bX2_stepBack_0 C hr hk hf true)
theorem bX11_undo_0 (C : mCx p (mR 3) s m args meth c G cX11_undo RX11 1 false 233 54500 233 54500) (hr : meth.sig.returnType = (some .boolean)) (hk : meth.locks = false) {b : Bool} {S' : mT} {r : Int32} {S : mT} (hf : fX11_undo S = some (r, S')) (ok : Bool) : mW p l e (mR 3) s m args below meth c G 1 233 54500 (mQ below G args s b S' (some (.int r))) (ok, 0, [.ref (0)], [], mk b S) := by
  unfold fX11_undo at hf
  obtain ⟨hok, hf⟩ := grd_ex hf
  refine msegT C kX11_undo 0 4 (g := ((kO 0 11 && (kO 0 11 && true)), 8, [.ref (0)], [.ref 35, .ref 37], mk b S)) rfl hok ?_
  obtain ⟨x2, S1, hq, hf⟩ := bndC_ex hf
  refine mcall (kd := 0) (vs := [.ref 37, .ref 35]) (rest := []) (r := (some (.int x2))) (h' := mk b S1) (ok' := true) C lkRX11_162 (qX2_stepBack hq) (kX11_undo _ (List.mem_of_getElem? (i := 4) rfl)).1 ⟨_, _, rfl, rfl, Nat.le_of_ble_eq_true rfl, _, _, rfl, rfl, rfl⟩ (Nat.le_of_ble_eq_true rfl) (Nat.le_of_ble_eq_true rfl) (Nat.le_refl _) (Nat.le_refl _) (Nat.le_of_ble_eq_true rfl) ?_
  obtain ⟨hz, hf⟩ := grd_ex hf
  cases hf
  exact gret_z C hr hk (mFit_nar hz) (kX11_undo _ (List.mem_of_getElem? (i := 5) rfl)).1
theorem qX11_undo {b : Bool} {S S' : mT} {r : Int32} (hf : fX11_undo S = some (r, S')) : mOk l mX11_undo 3 [.ref (0)] b S (some (.int r)) S' :=
  gMet (by decide) (Nat.le_of_ble_eq_true rfl) rfl (Nat.le_of_ble_eq_true rfl) (fun p e s m args below meth c G C hr hk => bX11_undo_0 C hr hk hf true)
theorem bX5_takeBack_22 (C : mCx p (mR 1) s m args meth c G cX5_takeBack RX5 3 false 233 54500 233 54500) (hr : meth.sig.returnType = (some .boolean)) (hk : meth.locks = false) {b : Bool} {S' : mT} {r : Int32} {S : mT} (hf : fX5_takeBack_22 S = some (r, S')) (ok : Bool) : mW p l e (mR 1) s m args below meth c G 3 233 54500 (mQ below G args s b S' (some (.int r))) (ok, 22, [.retAddr 0, .retAddr 0, .retAddr 0], [], mk b S) := by
  unfold fX5_takeBack_22 at hf
  refine msegT C kX5_takeBack 12 1 (g := (true, 23, [.retAddr 0, .retAddr 0, .retAddr 0], [.int (0 : Int32)], mk b S)) rfl rfl ?_
  cases hf
  exact gret_z C hr hk (by decide) (kX5_takeBack _ (List.mem_of_getElem? (i := 13) rfl)).1
theorem bX5_takeBack_0 (C : mCx p (mR 1) s m args meth c G cX5_takeBack RX5 3 false 233 54500 233 54500) (hr : meth.sig.returnType = (some .boolean)) (hk : meth.locks = false) {b : Bool} {S' : mT} {r : Int32} {v1 : Int32} {v2 : Int32} {S : mT} (hf : fX5_takeBack v1 v2 S = some (r, S')) (ok : Bool) : mW p l e (mR 1) s m args below meth c G 3 233 54500 (mQ below G args s b S' (some (.int r))) (ok, 0, [.ref (114), .int v1, .int v2], [], mk b S) := by
  unfold fX5_takeBack at hf
  refine msegT C kX5_takeBack 0 2 (g := (true, (if v1 < 0 then 22 else 4), [.ref (114), .int v1, .int v2], [], mk b S)) rfl rfl ?_
  by_cases hc : v1 < 0
  · rw [if_pos hc] at hf ⊢
    exact mfor (L' := [.retAddr 0, .retAddr 0, .retAddr 0]) ⟨Or.inl rfl, Or.inl rfl, Or.inl rfl, trivial⟩ (bX5_takeBack_22 C hr hk hf true)
  · rw [if_neg hc] at hf ⊢
    obtain ⟨hok, hf⟩ := grd_ex hf
    refine msegT C kX5_takeBack 2 4 (g := ((kO 114 5 && true), (if (S.1 114 5) ≤ v1 then 22 else 12), [.ref (114), .int v1, .int v2], [], mk b S)) rfl hok ?_
    by_cases hc : (S.1 114 5) ≤ v1
    · rw [if_pos hc] at hf ⊢
      exact mfor (L' := [.retAddr 0, .retAddr 0, .retAddr 0]) ⟨Or.inl rfl, Or.inl rfl, Or.inl rfl, trivial⟩ (bX5_takeBack_22 C hr hk hf true)
    · rw [if_neg hc] at hf ⊢
      obtain ⟨hok, hf⟩ := grd_ex hf
      refine msegT C kX5_takeBack 6 6 (g := ((kI 119 v1 && (kO 114 5 && true)), (if (S.1 119 (mIx v1)) = (-1 : Int32) then 24 else 22), [.ref (114), .int v1, .int v2], [], mk b S)) rfl hok ?_
      by_cases hc : (S.1 119 (mIx v1)) = (-1 : Int32)
      · rw [if_pos hc] at hf ⊢
        obtain ⟨hok, hf⟩ := grd_ex hf
        refine msegT C kX5_takeBack 14 5 (g := ((kI 119 v1 && (kO 114 5 && true)), 31, [.ref (114), .int v1, .int v2], [], mk b (sI S 119 (mIx v1) v2))) rfl hok ?_
        obtain ⟨S1, eS1, hf⟩ := bnd_ex hf
        rw [← eS1]
        refine msegT C kX5_takeBack 19 1 (g := (true, 32, [.ref (114), .int v1, .int v2], [.int (1 : Int32)], mk b S1)) rfl rfl ?_
        cases hf
        exact gret_z C hr hk (by decide) (kX5_takeBack _ (List.mem_of_getElem? (i := 20) rfl)).1
      · rw [if_neg hc] at hf ⊢
        exact mfor (L' := [.retAddr 0, .retAddr 0, .retAddr 0]) ⟨Or.inl rfl, Or.inl rfl, Or.inl rfl, trivial⟩ (bX5_takeBack_22 C hr hk hf true)
theorem qX5_takeBack {b : Bool} {v1 : Int32} {v2 : Int32} {S S' : mT} {r : Int32} (hf : fX5_takeBack v1 v2 S = some (r, S')) : mOk l mX5_takeBack 1 [.ref (114), .int v1, .int v2] b S (some (.int r)) S' :=
  gMet (by decide) (Nat.le_of_ble_eq_true rfl) rfl (Nat.le_of_ble_eq_true rfl) (fun p e s m args below meth c G C hr hk => bX5_takeBack_0 C hr hk hf true)
theorem bX11_untell_0 (C : mCx p (mR 2) s m args meth c G cX11_untell RX11 2 false 233 54500 233 54500) (hr : meth.sig.returnType = (some .boolean)) (hk : meth.locks = false) {b : Bool} {S' : mT} {r : Int32} {v1 : Int32} {S : mT} (hf : fX11_untell v1 S = some (r, S')) (ok : Bool) : mW p l e (mR 2) s m args below meth c G 2 233 54500 (mQ below G args s b S' (some (.int r))) (ok, 0, [.ref (0), .int v1], [], mk b S) := by
  unfold fX11_untell at hf
  obtain ⟨hok, hf⟩ := grd_ex hf
  refine msegT C kX11_untell 0 5 (g := ((kO 0 11 && (kO 0 11 && true)), 9, [.ref (0), .int v1], [.int (S.1 0 14), .int v1, .ref 114], mk b S)) rfl hok ?_
  obtain ⟨x2, S1, hq, hf⟩ := bndC_ex hf
  refine mcall (kd := 0) (vs := [.ref 114, .int v1, .int (S.1 0 14)]) (rest := []) (r := (some (.int x2))) (h' := mk b S1) (ok' := true) C lkRX11_245 (qX5_takeBack hq) (kX11_untell _ (List.mem_of_getElem? (i := 5) rfl)).1 ⟨_, _, rfl, rfl, Nat.le_of_ble_eq_true rfl, _, _, rfl, rfl, rfl⟩ (Nat.le_of_ble_eq_true rfl) (Nat.le_of_ble_eq_true rfl) (Nat.le_refl _) (Nat.le_refl _) (Nat.le_of_ble_eq_true rfl) ?_
  obtain ⟨hz, hf⟩ := grd_ex hf
  cases hf
  exact gret_z C hr hk (mFit_nar hz) (kX11_untell _ (List.mem_of_getElem? (i := 6) rfl)).1
theorem qX11_untell {b : Bool} {v1 : Int32} {S S' : mT} {r : Int32} (hf : fX11_untell v1 S = some (r, S')) : mOk l mX11_untell 2 [.ref (0), .int v1] b S (some (.int r)) S' :=
  gMet (by decide) (Nat.le_of_ble_eq_true rfl) rfl (Nat.le_of_ble_eq_true rfl) (fun p e s m args below meth c G C hr hk => bX11_untell_0 C hr hk hf true)
theorem bX11_will_18_f (C : mCx p (mR 7) s m args meth c G cX11_will RX11 3 false 233 54500 233 54500) (hr : meth.sig.returnType = (some .int)) (hk : meth.locks = false) {S' : mT} {r : Int32} {S : mT} (hf : fX11_will_18 false S = some (r, S')) (ok : Bool) : mW p l e (mR 7) s m args below meth c G 3 233 54500 (mQ below G args s false S' (some (.int r))) (ok, 18, [.retAddr 0, .retAddr 0, .retAddr 0], [], mk false S) := by
  unfold fX11_will_18 at hf
  refine msegT C kX11_will 9 1 (g := (true, 19, [.retAddr 0, .retAddr 0, .retAddr 0], [.int (-1 : Int32)], mk false S)) rfl rfl ?_
  cases hf
  exact gret_i C hr hk (kX11_will _ (List.mem_of_getElem? (i := 10) rfl)).1
theorem bX11_will_0_f (C : mCx p (mR 7) s m args meth c G cX11_will RX11 3 false 233 54500 233 54500) (hr : meth.sig.returnType = (some .int)) (hk : meth.locks = false) {S' : mT} {r : Int32} {v1 : Int32} {v2 : Int32} {S : mT} (hf : fX11_will false v1 v2 S = some (r, S')) (ok : Bool) : mW p l e (mR 7) s m args below meth c G 3 233 54500 (mQ below G args s false S' (some (.int r))) (ok, 0, [.ref (0), .int v1, .int v2], [], mk false S) := by
  unfold fX11_will at hf
  refine msegT C kX11_will 0 2 (g := (true, 2, [.ref (0), .int v1, .int v2], [.int v1, .ref (0)], mk false S)) rfl rfl ?_
  obtain ⟨x2, S1, hq, hf⟩ := bndC_ex hf
  refine mcall (kd := 0) (vs := [.ref (0), .int v1]) (rest := []) (r := (some (.int x2))) (h' := mk false S1) (ok' := true) C lkRX11_124 (qX11_isHouse_f hq) (kX11_will _ (List.mem_of_getElem? (i := 2) rfl)).1 ⟨_, _, rfl, rfl, Nat.le_of_ble_eq_true rfl, _, _, rfl, rfl, rfl⟩ (Nat.le_of_ble_eq_true rfl) (Nat.le_of_ble_eq_true rfl) (Nat.le_refl _) (Nat.le_refl _) (Nat.le_of_ble_eq_true rfl) ?_
  refine msegT C kX11_will 3 1 (g := (true, (if x2 = 0 then 18 else 8), [.ref (0), .int v1, .int v2], [], mk false S1)) rfl rfl ?_
  by_cases hc : x2 = 0
  · rw [if_pos hc] at hf ⊢
    exact mfor (L' := [.retAddr 0, .retAddr 0, .retAddr 0]) ⟨Or.inl rfl, Or.inl rfl, Or.inl rfl, trivial⟩ (bX11_will_18_f C hr hk hf true)
  · rw [if_neg hc] at hf ⊢
    refine msegT C kX11_will 4 3 (g := (true, 12, [.ref (0), .int v1, .int v2], [.int (60 : Int32), .int (0 : Int32), .int v2], mk false S1)) rfl rfl ?_
    obtain ⟨x4, S3, hq, hf⟩ := bndC_ex hf
    refine mcall (kd := 1) (vs := [.int v2, .int (0 : Int32), .int (60 : Int32)]) (rest := []) (r := (some (.int x4))) (h' := mk false S3) (ok' := true) C lkRX11_169 (qX11_isWithin hq) (kX11_will _ (List.mem_of_getElem? (i := 7) rfl)).1 rfl (Nat.le_of_ble_eq_true rfl) (Nat.le_of_ble_eq_true rfl) (Nat.le_refl _) (Nat.le_refl _) (Nat.le_of_ble_eq_true rfl) ?_
    refine msegT C kX11_will 8 1 (g := (true, (if x4 = 0 then 18 else 20), [.ref (0), .int v1, .int v2], [], mk false S3)) rfl rfl ?_
    by_cases hc : x4 = 0
    · rw [if_pos hc] at hf ⊢
      exact mfor (L' := [.retAddr 0, .retAddr 0, .retAddr 0]) ⟨Or.inl rfl, Or.inl rfl, Or.inl rfl, trivial⟩ (bX11_will_18_f C hr hk hf true)
    · rw [if_neg hc] at hf ⊢
      refine msegT C kX11_will 11 2 (g := (true, 22, [.ref (0), .int v1, .int v2], [.int v2, .ref (0)], mk false S3)) rfl rfl ?_
      obtain ⟨S5, hq, hf⟩ := bndV_ex hf
      refine mcall (kd := 0) (vs := [.ref (0), .int v2]) (rest := []) (r := none) (h' := mk false S5) (ok' := true) C lkRX11_173 (qX11_foresee_f hq) (kX11_will _ (List.mem_of_getElem? (i := 13) rfl)).1 ⟨_, _, rfl, rfl, Nat.le_of_ble_eq_true rfl, _, _, rfl, rfl, rfl⟩ (Nat.le_of_ble_eq_true rfl) (Nat.le_of_ble_eq_true rfl) (Nat.le_refl _) (Nat.le_refl _) (Nat.le_of_ble_eq_true rfl) ?_
      obtain ⟨hok, hf⟩ := grd_ex hf
      refine msegT C kX11_will 14 6 (g := ((kI 36 ((0 : Int32) + v1) && (kO 0 11 && true)), 33, [.ref (0), .int v1, .int v2], [.int (S5.1 36 (mIx ((0 : Int32) + v1)))], mk false S5)) rfl hok ?_
      cases hf
      exact gret_i C hr hk (kX11_will _ (List.mem_of_getElem? (i := 20) rfl)).1
theorem qX11_will_f {v1 : Int32} {v2 : Int32} {S S' : mT} {r : Int32} (hf : fX11_will false v1 v2 S = some (r, S')) : mOk l mX11_will 7 [.ref (0), .int v1, .int v2] false S (some (.int r)) S' :=
  gMet (by decide) (Nat.le_of_ble_eq_true rfl) rfl (Nat.le_of_ble_eq_true rfl) (fun p e s m args below meth c G C hr hk => bX11_will_0_f C hr hk hf true)
theorem bX11_will_18_t (C : mCx p (mR 7) s m args meth c G cX11_will RX11 3 false 233 54500 233 54500) (hr : meth.sig.returnType = (some .int)) (hk : meth.locks = false) {S' : mT} {r : Int32} {S : mT} (hf : fX11_will_18 true S = some (r, S')) (ok : Bool) : mW p l e (mR 7) s m args below meth c G 3 233 54500 (mQ below G args s true S' (some (.int r))) (ok, 18, [.retAddr 0, .retAddr 0, .retAddr 0], [], mk true S) := by
  unfold fX11_will_18 at hf
  refine msegT C kX11_will 9 1 (g := (true, 19, [.retAddr 0, .retAddr 0, .retAddr 0], [.int (-1 : Int32)], mk true S)) rfl rfl ?_
  cases hf
  exact gret_i C hr hk (kX11_will _ (List.mem_of_getElem? (i := 10) rfl)).1
theorem bX11_will_0_t (C : mCx p (mR 7) s m args meth c G cX11_will RX11 3 false 233 54500 233 54500) (hr : meth.sig.returnType = (some .int)) (hk : meth.locks = false) {S' : mT} {r : Int32} {v1 : Int32} {v2 : Int32} {S : mT} (hf : fX11_will true v1 v2 S = some (r, S')) (ok : Bool) : mW p l e (mR 7) s m args below meth c G 3 233 54500 (mQ below G args s true S' (some (.int r))) (ok, 0, [.ref (0), .int v1, .int v2], [], mk true S) := by
  unfold fX11_will at hf
  refine msegT C kX11_will 0 2 (g := (true, 2, [.ref (0), .int v1, .int v2], [.int v1, .ref (0)], mk true S)) rfl rfl ?_
  obtain ⟨x2, S1, hq, hf⟩ := bndC_ex hf
  refine mcall (kd := 0) (vs := [.ref (0), .int v1]) (rest := []) (r := (some (.int x2))) (h' := mk true S1) (ok' := true) C lkRX11_124 (qX11_isHouse_t hq) (kX11_will _ (List.mem_of_getElem? (i := 2) rfl)).1 ⟨_, _, rfl, rfl, Nat.le_of_ble_eq_true rfl, _, _, rfl, rfl, rfl⟩ (Nat.le_of_ble_eq_true rfl) (Nat.le_of_ble_eq_true rfl) (Nat.le_refl _) (Nat.le_refl _) (Nat.le_of_ble_eq_true rfl) ?_
  refine msegT C kX11_will 3 1 (g := (true, (if x2 = 0 then 18 else 8), [.ref (0), .int v1, .int v2], [], mk true S1)) rfl rfl ?_
  by_cases hc : x2 = 0
  · rw [if_pos hc] at hf ⊢
    exact mfor (L' := [.retAddr 0, .retAddr 0, .retAddr 0]) ⟨Or.inl rfl, Or.inl rfl, Or.inl rfl, trivial⟩ (bX11_will_18_t C hr hk hf true)
  · rw [if_neg hc] at hf ⊢
    refine msegT C kX11_will 4 3 (g := (true, 12, [.ref (0), .int v1, .int v2], [.int (60 : Int32), .int (0 : Int32), .int v2], mk true S1)) rfl rfl ?_
    obtain ⟨x4, S3, hq, hf⟩ := bndC_ex hf
    refine mcall (kd := 1) (vs := [.int v2, .int (0 : Int32), .int (60 : Int32)]) (rest := []) (r := (some (.int x4))) (h' := mk true S3) (ok' := true) C lkRX11_169 (qX11_isWithin hq) (kX11_will _ (List.mem_of_getElem? (i := 7) rfl)).1 rfl (Nat.le_of_ble_eq_true rfl) (Nat.le_of_ble_eq_true rfl) (Nat.le_refl _) (Nat.le_refl _) (Nat.le_of_ble_eq_true rfl) ?_
    refine msegT C kX11_will 8 1 (g := (true, (if x4 = 0 then 18 else 20), [.ref (0), .int v1, .int v2], [], mk true S3)) rfl rfl ?_
    by_cases hc : x4 = 0
    · rw [if_pos hc] at hf ⊢
      exact mfor (L' := [.retAddr 0, .retAddr 0, .retAddr 0]) ⟨Or.inl rfl, Or.inl rfl, Or.inl rfl, trivial⟩ (bX11_will_18_t C hr hk hf true)
    · rw [if_neg hc] at hf ⊢
      refine msegT C kX11_will 11 2 (g := (true, 22, [.ref (0), .int v1, .int v2], [.int v2, .ref (0)], mk true S3)) rfl rfl ?_
      obtain ⟨S5, hq, hf⟩ := bndV_ex hf
      refine mcall (kd := 0) (vs := [.ref (0), .int v2]) (rest := []) (r := none) (h' := mk true S5) (ok' := true) C lkRX11_173 (qX11_foresee_t hq) (kX11_will _ (List.mem_of_getElem? (i := 13) rfl)).1 ⟨_, _, rfl, rfl, Nat.le_of_ble_eq_true rfl, _, _, rfl, rfl, rfl⟩ (Nat.le_of_ble_eq_true rfl) (Nat.le_of_ble_eq_true rfl) (Nat.le_refl _) (Nat.le_refl _) (Nat.le_of_ble_eq_true rfl) ?_
      obtain ⟨hok, hf⟩ := grd_ex hf
      refine msegT C kX11_will 14 6 (g := ((kI 36 ((0 : Int32) + v1) && (kO 0 11 && true)), 33, [.ref (0), .int v1, .int v2], [.int (S5.1 36 (mIx ((0 : Int32) + v1)))], mk true S5)) rfl hok ?_
      cases hf
      exact gret_i C hr hk (kX11_will _ (List.mem_of_getElem? (i := 20) rfl)).1
theorem qX11_will_t {v1 : Int32} {v2 : Int32} {S S' : mT} {r : Int32} (hf : fX11_will true v1 v2 S = some (r, S')) : mOk l mX11_will 7 [.ref (0), .int v1, .int v2] true S (some (.int r)) S' :=
  gMet (by decide) (Nat.le_of_ble_eq_true rfl) rfl (Nat.le_of_ble_eq_true rfl) (fun p e s m args below meth c G C hr hk => bX11_will_0_t C hr hk hf true)
theorem bX12_about_0 (C : mCx p (mR 1) s m args meth c G cX12_about RX12 2 false 233 54500 233 54500) (hr : meth.sig.returnType = (some .int)) (hk : meth.locks = false) {b : Bool} {S' : mT} {r : Int32} {v1 : Int32} {S : mT} (hf : fX12_about v1 S = some (r, S')) (ok : Bool) : mW p l e (mR 1) s m args below meth c G 2 233 54500 (mQ below G args s b S' (some (.int r))) (ok, 0, [.ref (187), .int v1], [], mk b S) := by
  unfold fX12_about at hf
  refine msegT C kX12_about 0 2 (g := (true, (if v1 = (0 : Int32) then 56 else (if v1 = (1 : Int32) then 61 else (if v1 = (2 : Int32) then 69 else (if v1 = (3 : Int32) then 77 else (if v1 = (4 : Int32) then 82 else (if v1 = (5 : Int32) then 87 else (if v1 = (6 : Int32) then 92 else (if v1 = (7 : Int32) then 97 else (if v1 = (8 : Int32) then 102 else (if v1 = (9 : Int32) then 107 else 112)))))))))), [.ref (187), .int v1], [], mk b S)) rfl rfl ?_
  by_cases hc : v1 = (0 : Int32)
  · rw [if_pos hc] at hf ⊢
    obtain ⟨hok, hf⟩ := grd_ex hf
    refine msegT C kX12_about 2 2 (g := ((kO 187 12 && true), 60, [.ref (187), .int v1], [.int (S.1 187 37)], mk b S)) rfl hok ?_
    cases hf
    exact gret_i C hr hk (kX12_about _ (List.mem_of_getElem? (i := 4) rfl)).1
  · rw [if_neg hc] at hf ⊢
    by_cases hc : v1 = (1 : Int32)
    · rw [if_pos hc] at hf ⊢
      obtain ⟨hok, hf⟩ := grd_ex hf
      refine msegT C kX12_about 5 4 (g := ((kI 208 (15 : Int32) && (kO 187 12 && true)), 68, [.ref (187), .int v1], [.int (S.1 208 (mIx (15 : Int32)))], mk b S)) rfl hok ?_
      cases hf
      exact gret_i C hr hk (kX12_about _ (List.mem_of_getElem? (i := 9) rfl)).1
    · rw [if_neg hc] at hf ⊢
      by_cases hc : v1 = (2 : Int32)
      · rw [if_pos hc] at hf ⊢
        obtain ⟨hok, hf⟩ := grd_ex hf
        refine msegT C kX12_about 10 4 (g := ((kI 208 (16 : Int32) && (kO 187 12 && true)), 76, [.ref (187), .int v1], [.int (S.1 208 (mIx (16 : Int32)))], mk b S)) rfl hok ?_
        cases hf
        exact gret_i C hr hk (kX12_about _ (List.mem_of_getElem? (i := 14) rfl)).1
      · rw [if_neg hc] at hf ⊢
        by_cases hc : v1 = (3 : Int32)
        · rw [if_pos hc] at hf ⊢
          obtain ⟨hok, hf⟩ := grd_ex hf
          refine msegT C kX12_about 15 2 (g := ((kO 187 12 && true), 81, [.ref (187), .int v1], [.int (S.1 187 46)], mk b S)) rfl hok ?_
          cases hf
          exact gret_i C hr hk (kX12_about _ (List.mem_of_getElem? (i := 17) rfl)).1
        · rw [if_neg hc] at hf ⊢
          by_cases hc : v1 = (4 : Int32)
          · rw [if_pos hc] at hf ⊢
            obtain ⟨hok, hf⟩ := grd_ex hf
            refine msegT C kX12_about 18 2 (g := ((kO 187 12 && true), 86, [.ref (187), .int v1], [.int (S.1 187 47)], mk b S)) rfl hok ?_
            cases hf
            exact gret_i C hr hk (kX12_about _ (List.mem_of_getElem? (i := 20) rfl)).1
          · rw [if_neg hc] at hf ⊢
            by_cases hc : v1 = (5 : Int32)
            · rw [if_pos hc] at hf ⊢
              obtain ⟨hok, hf⟩ := grd_ex hf
              refine msegT C kX12_about 21 2 (g := ((kO 187 12 && true), 91, [.ref (187), .int v1], [.int (S.1 187 66)], mk b S)) rfl hok ?_
              cases hf
              exact gret_i C hr hk (kX12_about _ (List.mem_of_getElem? (i := 23) rfl)).1
            · rw [if_neg hc] at hf ⊢
              by_cases hc : v1 = (6 : Int32)
              · rw [if_pos hc] at hf ⊢
                obtain ⟨hok, hf⟩ := grd_ex hf
                refine msegT C kX12_about 24 2 (g := ((kO 187 12 && true), 96, [.ref (187), .int v1], [.int (S.1 187 67)], mk b S)) rfl hok ?_
                cases hf
                exact gret_i C hr hk (kX12_about _ (List.mem_of_getElem? (i := 26) rfl)).1
              · rw [if_neg hc] at hf ⊢
                by_cases hc : v1 = (7 : Int32)
                · rw [if_pos hc] at hf ⊢
                  obtain ⟨hok, hf⟩ := grd_ex hf
                  refine msegT C kX12_about 27 2 (g := ((kO 187 12 && true), 101, [.ref (187), .int v1], [.int (S.1 187 1)], mk b S)) rfl hok ?_
                  cases hf
                  exact gret_i C hr hk (kX12_about _ (List.mem_of_getElem? (i := 29) rfl)).1
                · rw [if_neg hc] at hf ⊢
                  by_cases hc : v1 = (8 : Int32)
                  · rw [if_pos hc] at hf ⊢
                    obtain ⟨hok, hf⟩ := grd_ex hf
                    refine msegT C kX12_about 30 2 (g := ((kO 187 12 && true), 106, [.ref (187), .int v1], [.int (S.1 187 24)], mk b S)) rfl hok ?_
                    cases hf
                    exact gret_i C hr hk (kX12_about _ (List.mem_of_getElem? (i := 32) rfl)).1
                  · rw [if_neg hc] at hf ⊢
                    by_cases hc : v1 = (9 : Int32)
                    · rw [if_pos hc] at hf ⊢
                      obtain ⟨hok, hf⟩ := grd_ex hf
                      refine msegT C kX12_about 33 2 (g := ((kO 187 12 && true), 111, [.ref (187), .int v1], [.int (S.1 187 51)], mk b S)) rfl hok ?_
                      cases hf
                      exact gret_i C hr hk (kX12_about _ (List.mem_of_getElem? (i := 35) rfl)).1
                    · rw [if_neg hc] at hf ⊢
                      refine msegT C kX12_about 36 1 (g := (true, 113, [.ref (187), .int v1], [.int (-1 : Int32)], mk b S)) rfl rfl ?_
                      cases hf
                      exact gret_i C hr hk (kX12_about _ (List.mem_of_getElem? (i := 37) rfl)).1
theorem qX12_about {b : Bool} {v1 : Int32} {S S' : mT} {r : Int32} (hf : fX12_about v1 S = some (r, S')) : mOk l mX12_about 1 [.ref (187), .int v1] b S (some (.int r)) S' :=
  gMet (by decide) (Nat.le_of_ble_eq_true rfl) rfl (Nat.le_of_ble_eq_true rfl) (fun p e s m args below meth c G C hr hk => bX12_about_0 C hr hk hf true)
theorem bX12_act_51 (C : mCx p (mR 1) s m args meth c G cX12_act RX12 2 false 233 54500 233 54500) (hr : meth.sig.returnType = none) (hk : meth.locks = false) {b : Bool} {S' : mT} : ∀ (k : Nat) (v1 : Int32) (S : mT), fX12_act_51 k v1 S = some S' → ∀ ok : Bool, mW p l e (mR 1) s m args below meth c G 2 233 54500 (mQ below G args s b S' none) (ok, 51, [.ref (187), .int v1], [], mk b S) := by
  intro k
  induction k with
  | zero =>
    intro v1 S hf ok
    cases hf
  | succ k ih =>
    intro v1 S hf ok
    unfold fX12_act_51 at hf
    refine msegT C kX12_act 29 3 (g := (true, (if (17 : Int32) ≤ v1 then 83 else 57), [.ref (187), .int v1], [], mk b S)) rfl rfl ?_
    by_cases hc : (17 : Int32) ≤ v1
    · rw [if_pos hc] at hf ⊢
      obtain ⟨hok, hf⟩ := grd_ex hf
      refine msegT C kX12_act 47 6 (g := ((kO 187 12 && (kO 187 12 && true)), 93, [.ref (187), .int v1], [], mk b (sI S 187 46 ((S.1 187 46) + (1 : Int32))))) rfl hok ?_
      obtain ⟨S4, eS4, hf⟩ := bnd_ex hf
      rw [← eS4]
      obtain ⟨hok, hf⟩ := grd_ex hf
      refine msegT C kX12_act 53 3 (g := ((kO 187 12 && true), 98, [.ref (187), .int v1], [], mk b (sI S4 187 47 (0 : Int32)))) rfl hok ?_
      obtain ⟨S5, eS5, hf⟩ := bnd_ex hf
      rw [← eS5]
      cases hf
      exact gret_v C hr hk (kX12_act _ (List.mem_of_getElem? (i := 56) rfl)).1
    · rw [if_neg hc] at hf ⊢
      obtain ⟨hok, hf⟩ := grd_ex hf
      refine msegT C kX12_act 32 10 (g := ((kO 187 12 && (kO 187 12 && (kO 187 12 && true))), 74, [.ref (187), .int v1], [.ref 208, .int (((18 : Int32) * (S.1 187 46)) + v1), .ref 212], mk b S)) rfl hok ?_
      obtain ⟨hok, hf⟩ := grd_ex hf
      refine msegT C kX12_act 42 3 (g := ((kI 212 (((18 : Int32) * (S.1 187 46)) + v1) && (kI 208 v1 && true)), 77, [.ref (187), .int v1], [], mk b (sI S 212 (mIx (((18 : Int32) * (S.1 187 46)) + v1)) (S.1 208 (mIx v1))))) rfl hok ?_
      obtain ⟨S6, eS6, hf⟩ := bnd_ex hf
      rw [← eS6]
      refine msegT C kX12_act 45 1 (g := (true, 80, [.ref (187), .int (v1 + (1 : Int32))], [], mk b S6)) rfl rfl ?_
      obtain ⟨x7, ex7, hf⟩ := bnd_ex hf
      rw [← ex7]
      refine msegT C kX12_act 46 1 (g := (true, 51, [.ref (187), .int x7], [], mk b S6)) rfl rfl ?_
      exact mfor (L' := [.ref (187), .int x7]) ⟨Or.inr rfl, Or.inr rfl, trivial⟩ (ih _ _ hf true)
theorem bX12_act_49 (C : mCx p (mR 1) s m args meth c G cX12_act RX12 2 false 233 54500 233 54500) (hr : meth.sig.returnType = none) (hk : meth.locks = false) {b : Bool} {S' : mT} {S : mT} (hf : fX12_act_49 S = some S') (ok : Bool) : mW p l e (mR 1) s m args below meth c G 2 233 54500 (mQ below G args s b S' none) (ok, 49, [.ref (187), .retAddr 0], [], mk b S) := by
  unfold fX12_act_49 at hf
  refine msegT C kX12_act 27 2 (g := (true, 51, [.ref (187), .int (0 : Int32)], [], mk b S)) rfl rfl ?_
  exact mfor (L' := [.ref (187), .int (0 : Int32)]) ⟨Or.inr rfl, Or.inr rfl, trivial⟩ (bX12_act_51 C hr hk _ _ _ hf true)
theorem bX12_act_11 (C : mCx p (mR 1) s m args meth c G cX12_act RX12 2 false 233 54500 233 54500) (hr : meth.sig.returnType = none) (hk : meth.locks = false) {b : Bool} {S' : mT} : ∀ (k : Nat) (v1 : Int32) (S : mT), fX12_act_11 k v1 S = some S' → ∀ ok : Bool, mW p l e (mR 1) s m args below meth c G 2 233 54500 (mQ below G args s b S' none) (ok, 11, [.ref (187), .int v1], [], mk b S) := by
  intro k
  induction k with
  | zero =>
    intro v1 S hf ok
    cases hf
  | succ k ih =>
    intro v1 S hf ok
    unfold fX12_act_11 at hf
    refine msegT C kX12_act 6 3 (g := (true, (if (702 : Int32) ≤ v1 then 39 else 18), [.ref (187), .int v1], [], mk b S)) rfl rfl ?_
    by_cases hc : (702 : Int32) ≤ v1
    · rw [if_pos hc] at hf ⊢
      obtain ⟨hok, hf⟩ := grd_ex hf
      refine msegT C kX12_act 21 6 (g := ((kO 187 12 && (kO 187 12 && true)), 49, [.ref (187), .int v1], [], mk b (sI S 187 46 ((S.1 187 46) - (1 : Int32))))) rfl hok ?_
      obtain ⟨S1, eS1, hf⟩ := bnd_ex hf
      rw [← eS1]
      exact mfor (L' := [.ref (187), .retAddr 0]) ⟨Or.inr rfl, Or.inl rfl, trivial⟩ (bX12_act_49 C hr hk hf true)
    · rw [if_neg hc] at hf ⊢
      obtain ⟨hok, hf⟩ := grd_ex hf
      refine msegT C kX12_act 9 10 (g := ((kI 212 v1 && (kI 212 ((18 : Int32) + v1) && (kO 187 12 && (kO 187 12 && true)))), 33, [.ref (187), .int v1], [], mk b (sI S 212 (mIx v1) (S.1 212 (mIx ((18 : Int32) + v1)))))) rfl hok ?_
      obtain ⟨S2, eS2, hf⟩ := bnd_ex hf
      rw [← eS2]
      refine msegT C kX12_act 19 1 (g := (true, 36, [.ref (187), .int (v1 + (1 : Int32))], [], mk b S2)) rfl rfl ?_
      obtain ⟨x3, ex3, hf⟩ := bnd_ex hf
      rw [← ex3]
      refine msegT C kX12_act 20 1 (g := (true, 11, [.ref (187), .int x3], [], mk b S2)) rfl rfl ?_
      exact mfor (L' := [.ref (187), .int x3]) ⟨Or.inr rfl, Or.inr rfl, trivial⟩ (ih _ _ hf true)
theorem bX12_act_0 (C : mCx p (mR 1) s m args meth c G cX12_act RX12 2 false 233 54500 233 54500) (hr : meth.sig.returnType = none) (hk : meth.locks = false) {b : Bool} {S' : mT} {S : mT} (hf : fX12_act S = some S') (ok : Bool) : mW p l e (mR 1) s m args below meth c G 2 233 54500 (mQ below G args s b S' none) (ok, 0, [.ref (187), .retAddr 0], [], mk b S) := by
  unfold fX12_act at hf
  obtain ⟨hok, hf⟩ := grd_ex hf
  refine msegT C kX12_act 0 4 (g := ((kO 187 12 && true), (if (S.1 187 46) = (40 : Int32) then 9 else 49), [.ref (187), .retAddr 0], [], mk b S)) rfl hok ?_
  by_cases hc : (S.1 187 46) = (40 : Int32)
  · rw [if_pos hc] at hf ⊢
    refine msegT C kX12_act 4 2 (g := (true, 11, [.ref (187), .int (0 : Int32)], [], mk b S)) rfl rfl ?_
    exact mfor (L' := [.ref (187), .int (0 : Int32)]) ⟨Or.inr rfl, Or.inr rfl, trivial⟩ (bX12_act_11 C hr hk _ _ _ hf true)
  · rw [if_neg hc] at hf ⊢
    exact mfor (L' := [.ref (187), .retAddr 0]) ⟨Or.inr rfl, Or.inl rfl, trivial⟩ (bX12_act_49 C hr hk hf true)
theorem qX12_act {b : Bool} {S S' : mT} (hf : fX12_act S = some S') : mOk l mX12_act 1 [.ref (187)] b S none S' :=
  gMet (by decide) (Nat.le_of_ble_eq_true rfl) rfl (Nat.le_of_ble_eq_true rfl) (fun p e s m args below meth c G C hr hk => bX12_act_0 C hr hk hf true)
theorem bX12_add_0 (C : mCx p (mR 1) s m args meth c G cX12_add RX12 3 false 233 54500 233 54500) (hr : meth.sig.returnType = none) (hk : meth.locks = false) {b : Bool} {S' : mT} {v1 : Int32} {v2 : Int32} {S : mT} (hf : fX12_add v1 v2 S = some S') (ok : Bool) : mW p l e (mR 1) s m args below meth c G 3 233 54500 (mQ below G args s b S' none) (ok, 0, [.ref (187), .int v1, .int v2], [], mk b S) := by
  unfold fX12_add at hf
  obtain ⟨hok, hf⟩ := grd_ex hf
  refine msegT C kX12_add 0 10 (g := ((kO 187 12 && (kO 187 12 && (kO 187 12 && (kO 187 12 && true)))), 20, [.ref (187), .int v1, .int v2], [.int (S.1 187 21), .ref 192, .int ((320 : Int32) * (S.1 187 21)), .ref 190], mk b S)) rfl hok ?_
  obtain ⟨hok, hf⟩ := grd_ex hf
  refine msegT C kX12_add 10 4 (g := ((kI 190 (((320 : Int32) * (S.1 187 21)) + (S.1 192 (mIx (S.1 187 21)))) && (kI 192 (S.1 187 21) && true)), 24, [.ref (187), .int v1, .int v2], [], mk b (sI S 190 (mIx (((320 : Int32) * (S.1 187 21)) + (S.1 192 (mIx (S.1 187 21))))) v1))) rfl hok ?_
  obtain ⟨S1, eS1, hf⟩ := bnd_ex hf
  rw [← eS1]
  obtain ⟨hok, hf⟩ := grd_ex hf
  refine msegT C kX12_add 14 10 (g := ((kO 187 12 && (kO 187 12 && (kO 187 12 && (kO 187 12 && true)))), 44, [.ref (187), .int v1, .int v2], [.int (S1.1 187 21), .ref 192, .int ((320 : Int32) * (S1.1 187 21)), .ref 191], mk b S1)) rfl hok ?_
  obtain ⟨hok, hf⟩ := grd_ex hf
  refine msegT C kX12_add 24 4 (g := ((kI 191 (((320 : Int32) * (S1.1 187 21)) + (S1.1 192 (mIx (S1.1 187 21)))) && (kI 192 (S1.1 187 21) && true)), 48, [.ref (187), .int v1, .int v2], [], mk b (sI S1 191 (mIx (((320 : Int32) * (S1.1 187 21)) + (S1.1 192 (mIx (S1.1 187 21))))) v2))) rfl hok ?_
  obtain ⟨S2, eS2, hf⟩ := bnd_ex hf
  rw [← eS2]
  obtain ⟨hok, hf⟩ := grd_ex hf
  refine msegT C kX12_add 28 9 (g := ((kI 192 (S2.1 187 21) && (kI 192 (S2.1 187 21) && (kO 187 12 && (kO 187 12 && true)))), 61, [.ref (187), .int v1, .int v2], [], mk b (sI S2 192 (mIx (S2.1 187 21)) ((S2.1 192 (mIx (S2.1 187 21))) + (1 : Int32))))) rfl hok ?_
  obtain ⟨S3, eS3, hf⟩ := bnd_ex hf
  rw [← eS3]
  cases hf
  exact gret_v C hr hk (kX12_add _ (List.mem_of_getElem? (i := 37) rfl)).1
theorem qX12_add {b : Bool} {v1 : Int32} {v2 : Int32} {S S' : mT} (hf : fX12_add v1 v2 S = some S') : mOk l mX12_add 1 [.ref (187), .int v1, .int v2] b S none S' :=
  gMet (by decide) (Nat.le_of_ble_eq_true rfl) rfl (Nat.le_of_ble_eq_true rfl) (fun p e s m args below meth c G C hr hk => bX12_add_0 C hr hk hf true)
theorem bX12_allBowls_4 (C : mCx p (mR 1) s m args meth c G cX12_allBowls RX12 3 false 233 54500 233 54500) (hr : meth.sig.returnType = (some .int)) (hk : meth.locks = false) {b : Bool} {S' : mT} {r : Int32} : ∀ (k : Nat) (v1 : Int32) (v2 : Int32) (S : mT), fX12_allBowls_4 k v1 v2 S = some (r, S') → ∀ ok : Bool, mW p l e (mR 1) s m args below meth c G 3 233 54500 (mQ below G args s b S' (some (.int r))) (ok, 4, [.ref (187), .int v1, .int v2], [], mk b S) := by
  intro k
  induction k with
  | zero =>
    intro v1 v2 S hf ok
    cases hf
  | succ k ih =>
    intro v1 v2 S hf ok
    unfold fX12_allBowls_4 at hf
    obtain ⟨hok, hf⟩ := grd_ex hf
    refine msegT C kX12_allBowls 4 4 (g := ((kO 187 12 && true), (if (S.1 187 37) ≤ v2 then 27 else 12), [.ref (187), .int v1, .int v2], [], mk b S)) rfl hok ?_
    by_cases hc : (S.1 187 37) ≤ v2
    · rw [if_pos hc] at hf ⊢
      refine msegT C kX12_allBowls 17 1 (g := (true, 28, [.ref (187), .int v1, .int v2], [.int v1], mk b S)) rfl rfl ?_
      cases hf
      exact gret_i C hr hk (kX12_allBowls _ (List.mem_of_getElem? (i := 18) rfl)).1
    · rw [if_neg hc] at hf ⊢
      obtain ⟨hok, hf⟩ := grd_ex hf
      refine msegT C kX12_allBowls 8 7 (g := ((kI 211 v2 && (kO 187 12 && true)), 21, [.ref (187), .int (v1 + (S.1 211 (mIx v2))), .int v2], [], mk b S)) rfl hok ?_
      obtain ⟨x1, ex1, hf⟩ := bnd_ex hf
      rw [← ex1]
      refine msegT C kX12_allBowls 15 1 (g := (true, 24, [.ref (187), .int x1, .int (v2 + (1 : Int32))], [], mk b S)) rfl rfl ?_
      obtain ⟨x2, ex2, hf⟩ := bnd_ex hf
      rw [← ex2]
      refine msegT C kX12_allBowls 16 1 (g := (true, 4, [.ref (187), .int x1, .int x2], [], mk b S)) rfl rfl ?_
      exact mfor (L' := [.ref (187), .int x1, .int x2]) ⟨Or.inr rfl, Or.inr rfl, Or.inr rfl, trivial⟩ (ih _ _ _ hf true)
theorem bX12_allBowls_0 (C : mCx p (mR 1) s m args meth c G cX12_allBowls RX12 3 false 233 54500 233 54500) (hr : meth.sig.returnType = (some .int)) (hk : meth.locks = false) {b : Bool} {S' : mT} {r : Int32} {S : mT} (hf : fX12_allBowls S = some (r, S')) (ok : Bool) : mW p l e (mR 1) s m args below meth c G 3 233 54500 (mQ below G args s b S' (some (.int r))) (ok, 0, [.ref (187), .retAddr 0, .retAddr 0], [], mk b S) := by
  unfold fX12_allBowls at hf
  refine msegT C kX12_allBowls 0 4 (g := (true, 4, [.ref (187), .int (0 : Int32), .int (0 : Int32)], [], mk b S)) rfl rfl ?_
  exact mfor (L' := [.ref (187), .int (0 : Int32), .int (0 : Int32)]) ⟨Or.inr rfl, Or.inr rfl, Or.inr rfl, trivial⟩ (bX12_allBowls_4 C hr hk _ _ _ _ hf true)
theorem qX12_allBowls {b : Bool} {S S' : mT} {r : Int32} (hf : fX12_allBowls S = some (r, S')) : mOk l mX12_allBowls 1 [.ref (187)] b S (some (.int r)) S' :=
  gMet (by decide) (Nat.le_of_ble_eq_true rfl) rfl (Nat.le_of_ble_eq_true rfl) (fun p e s m args below meth c G C hr hk => bX12_allBowls_0 C hr hk hf true)
theorem bX12_askOf_0 (C : mCx p (mR 1) s m args meth c G cX12_askOf RX12 7 false 233 54500 233 54500) (hr : meth.sig.returnType = none) (hk : meth.locks = false) {b : Bool} {S' : mT} {v1 : Int32} {v2 : Int32} {v3 : Int32} {v4 : Int32} {v5 : Int32} {v6 : Int32} {S : mT} (hf : fX12_askOf v1 v2 v3 v4 v5 v6 S = some S') (ok : Bool) : mW p l e (mR 1) s m args below meth c G 7 233 54500 (mQ below G args s b S' none) (ok, 0, [.ref (187), .int v1, .int v2, .int v3, .int v4, .int v5, .int v6], [], mk b S) := by
  unfold fX12_askOf at hf
  obtain ⟨hok, hf⟩ := grd_ex hf
  refine msegT C kX12_askOf 0 5 (g := ((kI 200 (0 : Int32) && (kO 187 12 && true)), 7, [.ref (187), .int v1, .int v2, .int v3, .int v4, .int v5, .int v6], [], mk b (sI S 200 (mIx (0 : Int32)) v1))) rfl hok ?_
  obtain ⟨S1, eS1, hf⟩ := bnd_ex hf
  rw [← eS1]
  obtain ⟨hok, hf⟩ := grd_ex hf
  refine msegT C kX12_askOf 5 5 (g := ((kI 200 (1 : Int32) && (kO 187 12 && true)), 14, [.ref (187), .int v1, .int v2, .int v3, .int v4, .int v5, .int v6], [], mk b (sI S1 200 (mIx (1 : Int32)) v2))) rfl hok ?_
  obtain ⟨S2, eS2, hf⟩ := bnd_ex hf
  rw [← eS2]
  obtain ⟨hok, hf⟩ := grd_ex hf
  refine msegT C kX12_askOf 10 5 (g := ((kI 200 (2 : Int32) && (kO 187 12 && true)), 21, [.ref (187), .int v1, .int v2, .int v3, .int v4, .int v5, .int v6], [], mk b (sI S2 200 (mIx (2 : Int32)) v3))) rfl hok ?_
  obtain ⟨S3, eS3, hf⟩ := bnd_ex hf
  rw [← eS3]
  obtain ⟨hok, hf⟩ := grd_ex hf
  refine msegT C kX12_askOf 15 5 (g := ((kI 200 (3 : Int32) && (kO 187 12 && true)), 29, [.ref (187), .int v1, .int v2, .int v3, .int v4, .int v5, .int v6], [], mk b (sI S3 200 (mIx (3 : Int32)) v4))) rfl hok ?_
  obtain ⟨S4, eS4, hf⟩ := bnd_ex hf
  rw [← eS4]
  obtain ⟨hok, hf⟩ := grd_ex hf
  refine msegT C kX12_askOf 20 5 (g := ((kI 200 (4 : Int32) && (kO 187 12 && true)), 37, [.ref (187), .int v1, .int v2, .int v3, .int v4, .int v5, .int v6], [], mk b (sI S4 200 (mIx (4 : Int32)) v5))) rfl hok ?_
  obtain ⟨S5, eS5, hf⟩ := bnd_ex hf
  rw [← eS5]
  obtain ⟨hok, hf⟩ := grd_ex hf
  refine msegT C kX12_askOf 25 5 (g := ((kI 200 (5 : Int32) && (kO 187 12 && true)), 45, [.ref (187), .int v1, .int v2, .int v3, .int v4, .int v5, .int v6], [], mk b (sI S5 200 (mIx (5 : Int32)) v6))) rfl hok ?_
  obtain ⟨S6, eS6, hf⟩ := bnd_ex hf
  rw [← eS6]
  cases hf
  exact gret_v C hr hk (kX12_askOf _ (List.mem_of_getElem? (i := 30) rfl)).1
theorem qX12_askOf {b : Bool} {v1 : Int32} {v2 : Int32} {v3 : Int32} {v4 : Int32} {v5 : Int32} {v6 : Int32} {S S' : mT} (hf : fX12_askOf v1 v2 v3 v4 v5 v6 S = some S') : mOk l mX12_askOf 1 [.ref (187), .int v1, .int v2, .int v3, .int v4, .int v5, .int v6] b S none S' :=
  gMet (by decide) (Nat.le_of_ble_eq_true rfl) rfl (Nat.le_of_ble_eq_true rfl) (fun p e s m args below meth c G C hr hk => bX12_askOf_0 C hr hk hf true)
theorem bX12_asked_91 (C : mCx p (mR 1) s m args meth c G cX12_asked RX12 1 false 233 54500 233 54500) (hr : meth.sig.returnType = (some .int)) (hk : meth.locks = false) {b : Bool} {S' : mT} {r : Int32} {s0 : Int32} {S : mT} (hf : fX12_asked_91 s0 S = some (r, S')) (ok : Bool) : mW p l e (mR 1) s m args below meth c G 1 233 54500 (mQ below G args s b S' (some (.int r))) (ok, 91, [.retAddr 0], [.int s0], mk b S) := by
  unfold fX12_asked_91 at hf
  cases hf
  exact gret_i C hr hk (kX12_asked _ (List.mem_of_getElem? (i := 49) rfl)).1
theorem bX12_asked_0 (C : mCx p (mR 1) s m args meth c G cX12_asked RX12 1 false 233 54500 233 54500) (hr : meth.sig.returnType = (some .int)) (hk : meth.locks = false) {b : Bool} {S' : mT} {r : Int32} {S : mT} (hf : fX12_asked S = some (r, S')) (ok : Bool) : mW p l e (mR 1) s m args below meth c G 1 233 54500 (mQ below G args s b S' (some (.int r))) (ok, 0, [.ref (187)], [], mk b S) := by
  unfold fX12_asked at hf
  obtain ⟨hok, hf⟩ := grd_ex hf
  refine msegT C kX12_asked 0 4 (g := ((kO 187 12 && true), (if (S.1 187 6) = (1 : Int32) then 10 else 8), [.ref (187)], [], mk b S)) rfl hok ?_
  by_cases hc : (S.1 187 6) = (1 : Int32)
  · rw [if_pos hc] at hf ⊢
    obtain ⟨hok, hf⟩ := grd_ex hf
    refine msegT C kX12_asked 6 5 (g := ((kO 187 12 && true), (if (lg_cmp (S.2 187 9) (448377480307 : Int64)) = 0 then 21 else 23), [.ref (187)], [], mk b S)) rfl hok ?_
    by_cases hc : (lg_cmp (S.2 187 9) (448377480307 : Int64)) = 0
    · rw [if_pos hc] at hf ⊢
      refine msegT C kX12_asked 11 1 (g := (true, 22, [.ref (187)], [.int (0 : Int32)], mk b S)) rfl rfl ?_
      cases hf
      exact gret_i C hr hk (kX12_asked _ (List.mem_of_getElem? (i := 12) rfl)).1
    · rw [if_neg hc] at hf ⊢
      obtain ⟨hok, hf⟩ := grd_ex hf
      refine msegT C kX12_asked 13 5 (g := ((kO 187 12 && true), (if (lg_cmp (S.2 187 9) (114801865155950 : Int64)) = 0 then 34 else 36), [.ref (187)], [], mk b S)) rfl hok ?_
      by_cases hc : (lg_cmp (S.2 187 9) (114801865155950 : Int64)) = 0
      · rw [if_pos hc] at hf ⊢
        refine msegT C kX12_asked 18 1 (g := (true, 35, [.ref (187)], [.int (1 : Int32)], mk b S)) rfl rfl ?_
        cases hf
        exact gret_i C hr hk (kX12_asked _ (List.mem_of_getElem? (i := 19) rfl)).1
      · rw [if_neg hc] at hf ⊢
        obtain ⟨hok, hf⟩ := grd_ex hf
        refine msegT C kX12_asked 20 5 (g := ((kO 187 12 && true), (if (lg_cmp (S.2 187 9) (6971757 : Int64)) = 0 then 47 else 49), [.ref (187)], [], mk b S)) rfl hok ?_
        by_cases hc : (lg_cmp (S.2 187 9) (6971757 : Int64)) = 0
        · rw [if_pos hc] at hf ⊢
          refine msegT C kX12_asked 25 1 (g := (true, 48, [.ref (187)], [.int (2 : Int32)], mk b S)) rfl rfl ?_
          cases hf
          exact gret_i C hr hk (kX12_asked _ (List.mem_of_getElem? (i := 26) rfl)).1
        · rw [if_neg hc] at hf ⊢
          obtain ⟨hok, hf⟩ := grd_ex hf
          refine msegT C kX12_asked 27 5 (g := ((kO 187 12 && true), (if (lg_cmp (S.2 187 9) (448310438260 : Int64)) = 0 then 60 else 62), [.ref (187)], [], mk b S)) rfl hok ?_
          by_cases hc : (lg_cmp (S.2 187 9) (448310438260 : Int64)) = 0
          · rw [if_pos hc] at hf ⊢
            refine msegT C kX12_asked 32 1 (g := (true, 61, [.ref (187)], [.int (3 : Int32)], mk b S)) rfl rfl ?_
            cases hf
            exact gret_i C hr hk (kX12_asked _ (List.mem_of_getElem? (i := 33) rfl)).1
          · rw [if_neg hc] at hf ⊢
            obtain ⟨hok, hf⟩ := grd_ex hf
            refine msegT C kX12_asked 34 5 (g := ((kO 187 12 && true), (if (lg_cmp (S.2 187 9) (126943922906483 : Int64)) = 0 then 73 else 75), [.ref (187)], [], mk b S)) rfl hok ?_
            by_cases hc : (lg_cmp (S.2 187 9) (126943922906483 : Int64)) = 0
            · rw [if_pos hc] at hf ⊢
              refine msegT C kX12_asked 39 1 (g := (true, 74, [.ref (187)], [.int (4 : Int32)], mk b S)) rfl rfl ?_
              cases hf
              exact gret_i C hr hk (kX12_asked _ (List.mem_of_getElem? (i := 40) rfl)).1
            · rw [if_neg hc] at hf ⊢
              obtain ⟨hok, hf⟩ := grd_ex hf
              refine msegT C kX12_asked 41 5 (g := ((kO 187 12 && true), (if (lg_cmp (S.2 187 9) (2036687218 : Int64)) = 0 then 86 else 90), [.ref (187)], [], mk b S)) rfl hok ?_
              by_cases hc : (lg_cmp (S.2 187 9) (2036687218 : Int64)) = 0
              · rw [if_pos hc] at hf ⊢
                refine msegT C kX12_asked 46 2 (g := (true, 91, [.ref (187)], [.int (5 : Int32)], mk b S)) rfl rfl ?_
                exact mfor (L' := [.retAddr 0]) ⟨Or.inl rfl, trivial⟩ (bX12_asked_91 C hr hk hf true)
              · rw [if_neg hc] at hf ⊢
                refine msegT C kX12_asked 48 1 (g := (true, 91, [.ref (187)], [.int (-1 : Int32)], mk b S)) rfl rfl ?_
                exact mfor (L' := [.retAddr 0]) ⟨Or.inl rfl, trivial⟩ (bX12_asked_91 C hr hk hf true)
  · rw [if_neg hc] at hf ⊢
    refine msegT C kX12_asked 4 1 (g := (true, 9, [.ref (187)], [.int (-1 : Int32)], mk b S)) rfl rfl ?_
    cases hf
    exact gret_i C hr hk (kX12_asked _ (List.mem_of_getElem? (i := 5) rfl)).1
theorem qX12_asked {b : Bool} {S S' : mT} {r : Int32} (hf : fX12_asked S = some (r, S')) : mOk l mX12_asked 1 [.ref (187)] b S (some (.int r)) S' :=
  gMet (by decide) (Nat.le_of_ble_eq_true rfl) rfl (Nat.le_of_ble_eq_true rfl) (fun p e s m args below meth c G C hr hk => bX12_asked_0 C hr hk hf true)
theorem bX12_isBox_14 (C : mCx p (mR 1) s m args meth c G cX12_isBox RX12 1 false 233 54500 233 54500) (hr : meth.sig.returnType = (some .boolean)) (hk : meth.locks = false) {b : Bool} {S' : mT} {r : Int32} {s0 : Int32} {S : mT} (hf : fX12_isBox_14 s0 S = some (r, S')) (ok : Bool) : mW p l e (mR 1) s m args below meth c G 1 233 54500 (mQ below G args s b S' (some (.int r))) (ok, 14, [.retAddr 0], [.int s0], mk b S) := by
  unfold fX12_isBox_14 at hf
  obtain ⟨hz, hf⟩ := grd_ex hf
  cases hf
  exact gret_z C hr hk (mFit_nar hz) (kX12_isBox _ (List.mem_of_getElem? (i := 8) rfl)).1
theorem bX12_isBox_13 (C : mCx p (mR 1) s m args meth c G cX12_isBox RX12 1 false 233 54500 233 54500) (hr : meth.sig.returnType = (some .boolean)) (hk : meth.locks = false) {b : Bool} {S' : mT} {r : Int32} {S : mT} (hf : fX12_isBox_13 S = some (r, S')) (ok : Bool) : mW p l e (mR 1) s m args below meth c G 1 233 54500 (mQ below G args s b S' (some (.int r))) (ok, 13, [.retAddr 0], [], mk b S) := by
  unfold fX12_isBox_13 at hf
  refine msegT C kX12_isBox 7 1 (g := (true, 14, [.retAddr 0], [.int (0 : Int32)], mk b S)) rfl rfl ?_
  exact mfor (L' := [.retAddr 0]) ⟨Or.inl rfl, trivial⟩ (bX12_isBox_14 C hr hk hf true)
theorem bX12_isBox_0 (C : mCx p (mR 1) s m args meth c G cX12_isBox RX12 1 false 233 54500 233 54500) (hr : meth.sig.returnType = (some .boolean)) (hk : meth.locks = false) {b : Bool} {S' : mT} {r : Int32} {v0 : Int32} {S : mT} (hf : fX12_isBox v0 S = some (r, S')) (ok : Bool) : mW p l e (mR 1) s m args below meth c G 1 233 54500 (mQ below G args s b S' (some (.int r))) (ok, 0, [.int v0], [], mk b S) := by
  unfold fX12_isBox at hf
  refine msegT C kX12_isBox 0 2 (g := (true, (if v0 < 0 then 13 else 4), [.int v0], [], mk b S)) rfl rfl ?_
  by_cases hc : v0 < 0
  · rw [if_pos hc] at hf ⊢
    exact mfor (L' := [.retAddr 0]) ⟨Or.inl rfl, trivial⟩ (bX12_isBox_13 C hr hk hf true)
  · rw [if_neg hc] at hf ⊢
    refine msegT C kX12_isBox 2 3 (g := (true, (if (3 : Int32) ≤ v0 then 13 else 9), [.int v0], [], mk b S)) rfl rfl ?_
    by_cases hc : (3 : Int32) ≤ v0
    · rw [if_pos hc] at hf ⊢
      exact mfor (L' := [.retAddr 0]) ⟨Or.inl rfl, trivial⟩ (bX12_isBox_13 C hr hk hf true)
    · rw [if_neg hc] at hf ⊢
      refine msegT C kX12_isBox 5 2 (g := (true, 14, [.int v0], [.int (1 : Int32)], mk b S)) rfl rfl ?_
      exact mfor (L' := [.retAddr 0]) ⟨Or.inl rfl, trivial⟩ (bX12_isBox_14 C hr hk hf true)
theorem qX12_isBox {b : Bool} {v0 : Int32} {S S' : mT} {r : Int32} (hf : fX12_isBox v0 S = some (r, S')) : mOk l mX12_isBox 1 [.int v0] b S (some (.int r)) S' :=
  gMet (by decide) (Nat.le_of_ble_eq_true rfl) rfl (Nat.le_of_ble_eq_true rfl) (fun p e s m args below meth c G C hr hk => bX12_isBox_0 C hr hk hf true)
theorem bX12_back_16 (C : mCx p (mR 2) s m args meth c G cX12_back RX12 3 false 233 54500 233 54500) (hr : meth.sig.returnType = (some .int)) (hk : meth.locks = false) {b : Bool} {S' : mT} {r : Int32} {S : mT} (hf : fX12_back_16 S = some (r, S')) (ok : Bool) : mW p l e (mR 2) s m args below meth c G 3 233 54500 (mQ below G args s b S' (some (.int r))) (ok, 16, [.retAddr 0, .retAddr 0, .retAddr 0], [], mk b S) := by
  unfold fX12_back_16 at hf
  refine msegT C kX12_back 8 1 (g := (true, 17, [.retAddr 0, .retAddr 0, .retAddr 0], [.int (-1 : Int32)], mk b S)) rfl rfl ?_
  cases hf
  exact gret_i C hr hk (kX12_back _ (List.mem_of_getElem? (i := 9) rfl)).1
theorem bX12_back_20 (C : mCx p (mR 2) s m args meth c G cX12_back RX12 3 false 233 54500 233 54500) (hr : meth.sig.returnType = (some .int)) (hk : meth.locks = false) {b : Bool} {S' : mT} {r : Int32} : ∀ (k : Nat) (v1 : Int32) (v2 : Int32) (S : mT), fX12_back_20 k v1 v2 S = some (r, S') → ∀ ok : Bool, mW p l e (mR 2) s m args below meth c G 3 233 54500 (mQ below G args s b S' (some (.int r))) (ok, 20, [.ref (187), .int v1, .int v2], [], mk b S) := by
  intro k
  induction k with
  | zero =>
    intro v1 v2 S hf ok
    cases hf
  | succ k ih =>
    intro v1 v2 S hf ok
    unfold fX12_back_20 at hf
    refine msegT C kX12_back 12 3 (g := (true, (if (17 : Int32) ≤ v2 then 49 else 26), [.ref (187), .int v1, .int v2], [], mk b S)) rfl rfl ?_
    by_cases hc : (17 : Int32) ≤ v2
    · rw [if_pos hc] at hf ⊢
      obtain ⟨hok, hf⟩ := grd_ex hf
      refine msegT C kX12_back 29 3 (g := ((kO 187 12 && true), 54, [.ref (187), .int v1, .int v2], [], mk b (sI S 187 46 (0 : Int32)))) rfl hok ?_
      obtain ⟨S3, eS3, hf⟩ := bnd_ex hf
      rw [← eS3]
      obtain ⟨hok, hf⟩ := grd_ex hf
      refine msegT C kX12_back 32 3 (g := ((kO 187 12 && true), 59, [.ref (187), .int v1, .int v2], [], mk b (sI S3 187 47 (0 : Int32)))) rfl hok ?_
      obtain ⟨S4, eS4, hf⟩ := bnd_ex hf
      rw [← eS4]
      obtain ⟨hok, hf⟩ := grd_ex hf
      refine msegT C kX12_back 35 4 (g := ((kI 208 (15 : Int32) && (kO 187 12 && true)), 66, [.ref (187), .int v1, .int v2], [.int (S4.1 208 (mIx (15 : Int32)))], mk b S4)) rfl hok ?_
      cases hf
      exact gret_i C hr hk (kX12_back _ (List.mem_of_getElem? (i := 39) rfl)).1
    · rw [if_neg hc] at hf ⊢
      obtain ⟨hok, hf⟩ := grd_ex hf
      refine msegT C kX12_back 15 10 (g := ((kO 187 12 && (kO 187 12 && true)), 41, [.ref (187), .int v1, .int v2], [.int (((18 : Int32) * v1) + v2), .ref 232, .int v2, .ref 208], mk b S)) rfl hok ?_
      obtain ⟨hok, hf⟩ := grd_ex hf
      refine msegT C kX12_back 25 2 (g := ((kI 208 v2 && (kI 232 (((18 : Int32) * v1) + v2) && true)), 43, [.ref (187), .int v1, .int v2], [], mk b (sI S 208 (mIx v2) (S.1 232 (mIx (((18 : Int32) * v1) + v2)))))) rfl hok ?_
      obtain ⟨S5, eS5, hf⟩ := bnd_ex hf
      rw [← eS5]
      refine msegT C kX12_back 27 1 (g := (true, 46, [.ref (187), .int v1, .int (v2 + (1 : Int32))], [], mk b S5)) rfl rfl ?_
      obtain ⟨x6, ex6, hf⟩ := bnd_ex hf
      rw [← ex6]
      refine msegT C kX12_back 28 1 (g := (true, 20, [.ref (187), .int v1, .int x6], [], mk b S5)) rfl rfl ?_
      exact mfor (L' := [.ref (187), .int v1, .int x6]) ⟨Or.inr rfl, Or.inr rfl, Or.inr rfl, trivial⟩ (ih _ _ _ hf true)
theorem bX12_back_0 (C : mCx p (mR 2) s m args meth c G cX12_back RX12 3 false 233 54500 233 54500) (hr : meth.sig.returnType = (some .int)) (hk : meth.locks = false) {b : Bool} {S' : mT} {r : Int32} {v1 : Int32} {S : mT} (hf : fX12_back v1 S = some (r, S')) (ok : Bool) : mW p l e (mR 2) s m args below meth c G 3 233 54500 (mQ below G args s b S' (some (.int r))) (ok, 0, [.ref (187), .int v1, .retAddr 0], [], mk b S) := by
  unfold fX12_back at hf
  refine msegT C kX12_back 0 1 (g := (true, 1, [.ref (187), .int v1, .retAddr 0], [.int v1], mk b S)) rfl rfl ?_
  obtain ⟨x2, S1, hq, hf⟩ := bndC_ex hf
  refine mcall (kd := 1) (vs := [.int v1]) (rest := []) (r := (some (.int x2))) (h' := mk b S1) (ok' := true) C lkRX12_495 (qX12_isBox hq) (kX12_back _ (List.mem_of_getElem? (i := 1) rfl)).1 rfl (Nat.le_of_ble_eq_true rfl) (Nat.le_of_ble_eq_true rfl) (Nat.le_refl _) (Nat.le_refl _) (Nat.le_of_ble_eq_true rfl) ?_
  refine msegT C kX12_back 2 1 (g := (true, (if x2 = 0 then 16 else 7), [.ref (187), .int v1, .retAddr 0], [], mk b S1)) rfl rfl ?_
  by_cases hc : x2 = 0
  · rw [if_pos hc] at hf ⊢
    exact mfor (L' := [.retAddr 0, .retAddr 0, .retAddr 0]) ⟨Or.inl rfl, Or.inl rfl, Or.inl rfl, trivial⟩ (bX12_back_16 C hr hk hf true)
  · rw [if_neg hc] at hf ⊢
    obtain ⟨hok, hf⟩ := grd_ex hf
    refine msegT C kX12_back 3 5 (g := ((kB 231 v1 && (kO 187 12 && true)), (if (S1.1 231 (mIx v1)) = 0 then 16 else 18), [.ref (187), .int v1, .retAddr 0], [], mk b S1)) rfl hok ?_
    by_cases hc : (S1.1 231 (mIx v1)) = 0
    · rw [if_pos hc] at hf ⊢
      exact mfor (L' := [.retAddr 0, .retAddr 0, .retAddr 0]) ⟨Or.inl rfl, Or.inl rfl, Or.inl rfl, trivial⟩ (bX12_back_16 C hr hk hf true)
    · rw [if_neg hc] at hf ⊢
      refine msegT C kX12_back 10 2 (g := (true, 20, [.ref (187), .int v1, .int (0 : Int32)], [], mk b S1)) rfl rfl ?_
      exact mfor (L' := [.ref (187), .int v1, .int (0 : Int32)]) ⟨Or.inr rfl, Or.inr rfl, Or.inr rfl, trivial⟩ (bX12_back_20 C hr hk _ _ _ _ hf true)
theorem qX12_back {b : Bool} {v1 : Int32} {S S' : mT} {r : Int32} (hf : fX12_back v1 S = some (r, S')) : mOk l mX12_back 2 [.ref (187), .int v1] b S (some (.int r)) S' :=
  gMet (by decide) (Nat.le_of_ble_eq_true rfl) rfl (Nat.le_of_ble_eq_true rfl) (fun p e s m args below meth c G C hr hk => bX12_back_0 C hr hk hf true)
theorem bX12_bound_19 (C : mCx p (mR 1) s m args meth c G cX12_bound RX12 3 false 233 54500 233 54500) (hr : meth.sig.returnType = (some .int)) (hk : meth.locks = false) {b : Bool} {S' : mT} {r : Int32} {s0 : Int32} {S : mT} (hf : fX12_bound_19 s0 S = some (r, S')) (ok : Bool) : mW p l e (mR 1) s m args below meth c G 3 233 54500 (mQ below G args s b S' (some (.int r))) (ok, 19, [.retAddr 0, .retAddr 0, .retAddr 0], [.int s0], mk b S) := by
  unfold fX12_bound_19 at hf
  cases hf
  exact gret_i C hr hk (kX12_bound _ (List.mem_of_getElem? (i := 11) rfl)).1
theorem bX12_bound_0 (C : mCx p (mR 1) s m args meth c G cX12_bound RX12 3 false 233 54500 233 54500) (hr : meth.sig.returnType = (some .int)) (hk : meth.locks = false) {b : Bool} {S' : mT} {r : Int32} {v0 : Int32} {v1 : Int32} {v2 : Int32} {S : mT} (hf : fX12_bound v0 v1 v2 S = some (r, S')) (ok : Bool) : mW p l e (mR 1) s m args below meth c G 3 233 54500 (mQ below G args s b S' (some (.int r))) (ok, 0, [.int v0, .int v1, .int v2], [], mk b S) := by
  unfold fX12_bound at hf
  refine msegT C kX12_bound 0 3 (g := (true, (if v1 ≤ v0 then 9 else 5), [.int v0, .int v1, .int v2], [], mk b S)) rfl rfl ?_
  by_cases hc : v1 ≤ v0
  · rw [if_pos hc] at hf ⊢
    refine msegT C kX12_bound 5 3 (g := (true, (if v0 ≤ v2 then 18 else 14), [.int v0, .int v1, .int v2], [], mk b S)) rfl rfl ?_
    by_cases hc : v0 ≤ v2
    · rw [if_pos hc] at hf ⊢
      refine msegT C kX12_bound 10 1 (g := (true, 19, [.int v0, .int v1, .int v2], [.int v0], mk b S)) rfl rfl ?_
      exact mfor (L' := [.retAddr 0, .retAddr 0, .retAddr 0]) ⟨Or.inl rfl, Or.inl rfl, Or.inl rfl, trivial⟩ (bX12_bound_19 C hr hk hf true)
    · rw [if_neg hc] at hf ⊢
      refine msegT C kX12_bound 8 2 (g := (true, 19, [.int v0, .int v1, .int v2], [.int v2], mk b S)) rfl rfl ?_
      exact mfor (L' := [.retAddr 0, .retAddr 0, .retAddr 0]) ⟨Or.inl rfl, Or.inl rfl, Or.inl rfl, trivial⟩ (bX12_bound_19 C hr hk hf true)
  · rw [if_neg hc] at hf ⊢
    refine msegT C kX12_bound 3 2 (g := (true, 19, [.int v0, .int v1, .int v2], [.int v1], mk b S)) rfl rfl ?_
    exact mfor (L' := [.retAddr 0, .retAddr 0, .retAddr 0]) ⟨Or.inl rfl, Or.inl rfl, Or.inl rfl, trivial⟩ (bX12_bound_19 C hr hk hf true)
theorem qX12_bound {b : Bool} {v0 : Int32} {v1 : Int32} {v2 : Int32} {S S' : mT} {r : Int32} (hf : fX12_bound v0 v1 v2 S = some (r, S')) : mOk l mX12_bound 1 [.int v0, .int v1, .int v2] b S (some (.int r)) S' :=
  gMet (by decide) (Nat.le_of_ble_eq_true rfl) rfl (Nat.le_of_ble_eq_true rfl) (fun p e s m args below meth c G C hr hk => bX12_bound_0 C hr hk hf true)
theorem bX12_notMoreHidden_35 (C : mCx p (mR 1) s m args meth c G cX12_notMoreHidden RX12 2 false 233 54500 233 54500) (hr : meth.sig.returnType = none) (hk : meth.locks = false) {b : Bool} {S' : mT} {s0 : Int32} {s1 : Int32} {S : mT} (hf : fX12_notMoreHidden_35 s0 s1 S = some S') (ok : Bool) : mW p l e (mR 1) s m args below meth c G 2 233 54500 (mQ below G args s b S' none) (ok, 35, [.retAddr 0, .retAddr 0], [.int s0, .int s1, .ref 210], mk b S) := by
  unfold fX12_notMoreHidden_35 at hf
  obtain ⟨hok, hf⟩ := grd_ex hf
  refine msegT C kX12_notMoreHidden 21 1 (g := ((kI 210 s1 && true), 36, [.retAddr 0, .retAddr 0], [], mk b (sI S 210 (mIx s1) s0))) rfl hok ?_
  obtain ⟨S1, eS1, hf⟩ := bnd_ex hf
  rw [← eS1]
  cases hf
  exact gret_v C hr hk (kX12_notMoreHidden _ (List.mem_of_getElem? (i := 22) rfl)).1
theorem bX12_notMoreHidden_0 (C : mCx p (mR 1) s m args meth c G cX12_notMoreHidden RX12 2 false 233 54500 233 54500) (hr : meth.sig.returnType = none) (hk : meth.locks = false) {b : Bool} {S' : mT} {v1 : Int32} {S : mT} (hf : fX12_notMoreHidden v1 S = some S') (ok : Bool) : mW p l e (mR 1) s m args below meth c G 2 233 54500 (mQ below G args s b S' none) (ok, 0, [.ref (187), .int v1], [], mk b S) := by
  unfold fX12_notMoreHidden at hf
  obtain ⟨hok, hf⟩ := grd_ex hf
  refine msegT C kX12_notMoreHidden 0 10 (g := ((kO 187 12 && (kI 210 v1 && (kO 187 12 && (kO 187 12 && true)))), 16, [.ref (187), .int v1], [.int v1, .ref 209, .int (S.1 210 (mIx v1)), .int v1, .ref 210], mk b S)) rfl hok ?_
  obtain ⟨hok, hf⟩ := grd_ex hf
  refine msegT C kX12_notMoreHidden 10 2 (g := ((kI 209 v1 && true), (if (S.1 210 (mIx v1)) ≤ (S.1 209 (mIx v1)) then 29 else 20), [.ref (187), .int v1], [.int v1, .ref 210], mk b S)) rfl hok ?_
  by_cases hc : (S.1 210 (mIx v1)) ≤ (S.1 209 (mIx v1))
  · rw [if_pos hc] at hf ⊢
    obtain ⟨hok, hf⟩ := grd_ex hf
    refine msegT C kX12_notMoreHidden 17 4 (g := ((kI 210 v1 && (kO 187 12 && true)), 35, [.ref (187), .int v1], [.int (S.1 210 (mIx v1)), .int v1, .ref 210], mk b S)) rfl hok ?_
    exact mfor (L' := [.retAddr 0, .retAddr 0]) ⟨Or.inl rfl, Or.inl rfl, trivial⟩ (bX12_notMoreHidden_35 C hr hk hf true)
  · rw [if_neg hc] at hf ⊢
    obtain ⟨hok, hf⟩ := grd_ex hf
    refine msegT C kX12_notMoreHidden 12 5 (g := ((kI 209 v1 && (kO 187 12 && true)), 35, [.ref (187), .int v1], [.int (S.1 209 (mIx v1)), .int v1, .ref 210], mk b S)) rfl hok ?_
    exact mfor (L' := [.retAddr 0, .retAddr 0]) ⟨Or.inl rfl, Or.inl rfl, trivial⟩ (bX12_notMoreHidden_35 C hr hk hf true)
theorem qX12_notMoreHidden {b : Bool} {v1 : Int32} {S S' : mT} (hf : fX12_notMoreHidden v1 S = some S') : mOk l mX12_notMoreHidden 1 [.ref (187), .int v1] b S none S' :=
  gMet (by decide) (Nat.le_of_ble_eq_true rfl) rfl (Nat.le_of_ble_eq_true rfl) (fun p e s m args below meth c G C hr hk => bX12_notMoreHidden_0 C hr hk hf true)
theorem bX12_truth_9 (C : mCx p (mR 1) s m args meth c G cX12_truth RX12 1 false 233 54500 233 54500) (hr : meth.sig.returnType = (some .int)) (hk : meth.locks = false) {b : Bool} {S' : mT} {r : Int32} {s0 : Int32} {S : mT} (hf : fX12_truth_9 s0 S = some (r, S')) (ok : Bool) : mW p l e (mR 1) s m args below meth c G 1 233 54500 (mQ below G args s b S' (some (.int r))) (ok, 9, [.retAddr 0], [.int s0], mk b S) := by
  unfold fX12_truth_9 at hf
  cases hf
  exact gret_i C hr hk (kX12_truth _ (List.mem_of_getElem? (i := 5) rfl)).1
theorem bX12_truth_0 (C : mCx p (mR 1) s m args meth c G cX12_truth RX12 1 false 233 54500 233 54500) (hr : meth.sig.returnType = (some .int)) (hk : meth.locks = false) {b : Bool} {S' : mT} {r : Int32} {v0 : Int32} {S : mT} (hf : fX12_truth v0 S = some (r, S')) (ok : Bool) : mW p l e (mR 1) s m args below meth c G 1 233 54500 (mQ below G args s b S' (some (.int r))) (ok, 0, [.int v0], [], mk b S) := by
  unfold fX12_truth at hf
  refine msegT C kX12_truth 0 2 (g := (true, (if v0 = 0 then 8 else 4), [.int v0], [], mk b S)) rfl rfl ?_
  by_cases hc : v0 = 0
  · rw [if_pos hc] at hf ⊢
    refine msegT C kX12_truth 4 1 (g := (true, 9, [.int v0], [.int (0 : Int32)], mk b S)) rfl rfl ?_
    exact mfor (L' := [.retAddr 0]) ⟨Or.inl rfl, trivial⟩ (bX12_truth_9 C hr hk hf true)
  · rw [if_neg hc] at hf ⊢
    refine msegT C kX12_truth 2 2 (g := (true, 9, [.int v0], [.int (1 : Int32)], mk b S)) rfl rfl ?_
    exact mfor (L' := [.retAddr 0]) ⟨Or.inl rfl, trivial⟩ (bX12_truth_9 C hr hk hf true)
theorem qX12_truth {b : Bool} {v0 : Int32} {S S' : mT} {r : Int32} (hf : fX12_truth v0 S = some (r, S')) : mOk l mX12_truth 1 [.int v0] b S (some (.int r)) S' :=
  gMet (by decide) (Nat.le_of_ble_eq_true rfl) rfl (Nat.le_of_ble_eq_true rfl) (fun p e s m args below meth c G C hr hk => bX12_truth_0 C hr hk hf true)
theorem bX12_done_143 (C : mCx p (mR 2) s m args meth c G cX12_done RX12 3 false 233 54500 233 54500) (hr : meth.sig.returnType = (some .int)) (hk : meth.locks = false) {b : Bool} {S' : mT} {r : Int32} {s0 : Int32} {S : mT} (hf : fX12_done_143 s0 S = some (r, S')) (ok : Bool) : mW p l e (mR 2) s m args below meth c G 3 233 54500 (mQ below G args s b S' (some (.int r))) (ok, 143, [.retAddr 0, .retAddr 0, .retAddr 0], [.int s0], mk b S) := by
  unfold fX12_done_143 at hf
  cases hf
  exact gret_i C hr hk (kX12_done _ (List.mem_of_getElem? (i := 21) rfl)).1
theorem bX12_done_155 (C : mCx p (mR 2) s m args meth c G cX12_done RX12 3 false 233 54500 233 54500) (hr : meth.sig.returnType = (some .int)) (hk : meth.locks = false) {b : Bool} {S' : mT} {r : Int32} {s0 : Int32} {S : mT} (hf : fX12_done_155 s0 S = some (r, S')) (ok : Bool) : mW p l e (mR 2) s m args below meth c G 3 233 54500 (mQ below G args s b S' (some (.int r))) (ok, 155, [.retAddr 0, .retAddr 0, .retAddr 0], [.int s0], mk b S) := by
  unfold fX12_done_155 at hf
  cases hf
  exact gret_i C hr hk (kX12_done _ (List.mem_of_getElem? (i := 29) rfl)).1
theorem bX12_done_166 (C : mCx p (mR 2) s m args meth c G cX12_done RX12 3 false 233 54500 233 54500) (hr : meth.sig.returnType = (some .int)) (hk : meth.locks = false) {b : Bool} {S' : mT} {r : Int32} {s0 : Int32} {S : mT} (hf : fX12_done_166 s0 S = some (r, S')) (ok : Bool) : mW p l e (mR 2) s m args below meth c G 3 233 54500 (mQ below G args s b S' (some (.int r))) (ok, 166, [.retAddr 0, .retAddr 0, .retAddr 0], [.int s0], mk b S) := by
  unfold fX12_done_166 at hf
  obtain ⟨x8, S7, hq, hf⟩ := bndC_ex hf
  refine mcall (kd := 1) (vs := [.int s0]) (rest := []) (r := (some (.int x8))) (h' := mk b S7) (ok' := true) C lkRX12_307 (qX12_truth hq) (kX12_done _ (List.mem_of_getElem? (i := 36) rfl)).1 rfl (Nat.le_of_ble_eq_true rfl) (Nat.le_of_ble_eq_true rfl) (Nat.le_refl _) (Nat.le_refl _) (Nat.le_of_ble_eq_true rfl) ?_
  cases hf
  exact gret_i C hr hk (kX12_done _ (List.mem_of_getElem? (i := 37) rfl)).1
theorem bX12_done_180 (C : mCx p (mR 2) s m args meth c G cX12_done RX12 3 false 233 54500 233 54500) (hr : meth.sig.returnType = (some .int)) (hk : meth.locks = false) {b : Bool} {S' : mT} {r : Int32} {s0 : Int32} {S : mT} (hf : fX12_done_180 s0 S = some (r, S')) (ok : Bool) : mW p l e (mR 2) s m args below meth c G 3 233 54500 (mQ below G args s b S' (some (.int r))) (ok, 180, [.retAddr 0, .retAddr 0, .retAddr 0], [.int s0], mk b S) := by
  unfold fX12_done_180 at hf
  obtain ⟨x4, S3, hq, hf⟩ := bndC_ex hf
  refine mcall (kd := 1) (vs := [.int s0]) (rest := []) (r := (some (.int x4))) (h' := mk b S3) (ok' := true) C lkRX12_307 (qX12_truth hq) (kX12_done _ (List.mem_of_getElem? (i := 44) rfl)).1 rfl (Nat.le_of_ble_eq_true rfl) (Nat.le_of_ble_eq_true rfl) (Nat.le_refl _) (Nat.le_refl _) (Nat.le_of_ble_eq_true rfl) ?_
  cases hf
  exact gret_i C hr hk (kX12_done _ (List.mem_of_getElem? (i := 45) rfl)).1
theorem bX12_done_194 (C : mCx p (mR 2) s m args meth c G cX12_done RX12 3 false 233 54500 233 54500) (hr : meth.sig.returnType = (some .int)) (hk : meth.locks = false) {b : Bool} {S' : mT} {r : Int32} {s0 : Int32} {S : mT} (hf : fX12_done_194 s0 S = some (r, S')) (ok : Bool) : mW p l e (mR 2) s m args below meth c G 3 233 54500 (mQ below G args s b S' (some (.int r))) (ok, 194, [.retAddr 0, .retAddr 0, .retAddr 0], [.int s0], mk b S) := by
  unfold fX12_done_194 at hf
  obtain ⟨x6, S5, hq, hf⟩ := bndC_ex hf
  refine mcall (kd := 1) (vs := [.int s0]) (rest := []) (r := (some (.int x6))) (h' := mk b S5) (ok' := true) C lkRX12_307 (qX12_truth hq) (kX12_done _ (List.mem_of_getElem? (i := 52) rfl)).1 rfl (Nat.le_of_ble_eq_true rfl) (Nat.le_of_ble_eq_true rfl) (Nat.le_refl _) (Nat.le_refl _) (Nat.le_of_ble_eq_true rfl) ?_
  cases hf
  exact gret_i C hr hk (kX12_done _ (List.mem_of_getElem? (i := 53) rfl)).1
theorem bX12_done_211 (C : mCx p (mR 2) s m args meth c G cX12_done RX12 3 false 233 54500 233 54500) (hr : meth.sig.returnType = (some .int)) (hk : meth.locks = false) {b : Bool} {S' : mT} {r : Int32} {s0 : Int32} {S : mT} (hf : fX12_done_211 s0 S = some (r, S')) (ok : Bool) : mW p l e (mR 2) s m args below meth c G 3 233 54500 (mQ below G args s b S' (some (.int r))) (ok, 211, [.retAddr 0, .retAddr 0, .retAddr 0], [.int s0], mk b S) := by
  unfold fX12_done_211 at hf
  obtain ⟨x10, S9, hq, hf⟩ := bndC_ex hf
  refine mcall (kd := 1) (vs := [.int s0]) (rest := []) (r := (some (.int x10))) (h' := mk b S9) (ok' := true) C lkRX12_307 (qX12_truth hq) (kX12_done _ (List.mem_of_getElem? (i := 61) rfl)).1 rfl (Nat.le_of_ble_eq_true rfl) (Nat.le_of_ble_eq_true rfl) (Nat.le_refl _) (Nat.le_refl _) (Nat.le_of_ble_eq_true rfl) ?_
  cases hf
  exact gret_i C hr hk (kX12_done _ (List.mem_of_getElem? (i := 62) rfl)).1
theorem bX12_done_210 (C : mCx p (mR 2) s m args meth c G cX12_done RX12 3 false 233 54500 233 54500) (hr : meth.sig.returnType = (some .int)) (hk : meth.locks = false) {b : Bool} {S' : mT} {r : Int32} {S : mT} (hf : fX12_done_210 S = some (r, S')) (ok : Bool) : mW p l e (mR 2) s m args below meth c G 3 233 54500 (mQ below G args s b S' (some (.int r))) (ok, 210, [.retAddr 0, .retAddr 0, .retAddr 0], [], mk b S) := by
  unfold fX12_done_210 at hf
  refine msegT C kX12_done 60 1 (g := (true, 211, [.retAddr 0, .retAddr 0, .retAddr 0], [.int (0 : Int32)], mk b S)) rfl rfl ?_
  exact mfor (L' := [.retAddr 0, .retAddr 0, .retAddr 0]) ⟨Or.inl rfl, Or.inl rfl, Or.inl rfl, trivial⟩ (bX12_done_211 C hr hk hf true)
theorem bX12_done_228 (C : mCx p (mR 2) s m args meth c G cX12_done RX12 3 false 233 54500 233 54500) (hr : meth.sig.returnType = (some .int)) (hk : meth.locks = false) {b : Bool} {S' : mT} {r : Int32} {s0 : Int32} {S : mT} (hf : fX12_done_228 s0 S = some (r, S')) (ok : Bool) : mW p l e (mR 2) s m args below meth c G 3 233 54500 (mQ below G args s b S' (some (.int r))) (ok, 228, [.retAddr 0, .retAddr 0, .retAddr 0], [.int s0], mk b S) := by
  unfold fX12_done_228 at hf
  obtain ⟨x2, S1, hq, hf⟩ := bndC_ex hf
  refine mcall (kd := 1) (vs := [.int s0]) (rest := []) (r := (some (.int x2))) (h' := mk b S1) (ok' := true) C lkRX12_307 (qX12_truth hq) (kX12_done _ (List.mem_of_getElem? (i := 70) rfl)).1 rfl (Nat.le_of_ble_eq_true rfl) (Nat.le_of_ble_eq_true rfl) (Nat.le_refl _) (Nat.le_refl _) (Nat.le_of_ble_eq_true rfl) ?_
  cases hf
  exact gret_i C hr hk (kX12_done _ (List.mem_of_getElem? (i := 71) rfl)).1
theorem bX12_done_223 (C : mCx p (mR 2) s m args meth c G cX12_done RX12 3 false 233 54500 233 54500) (hr : meth.sig.returnType = (some .int)) (hk : meth.locks = false) {b : Bool} {S' : mT} {r : Int32} {S : mT} (hf : fX12_done_223 S = some (r, S')) (ok : Bool) : mW p l e (mR 2) s m args below meth c G 3 233 54500 (mQ below G args s b S' (some (.int r))) (ok, 223, [.retAddr 0, .retAddr 0, .retAddr 0], [], mk b S) := by
  unfold fX12_done_223 at hf
  refine msegT C kX12_done 67 2 (g := (true, 228, [.retAddr 0, .retAddr 0, .retAddr 0], [.int (1 : Int32)], mk b S)) rfl rfl ?_
  exact mfor (L' := [.retAddr 0, .retAddr 0, .retAddr 0]) ⟨Or.inl rfl, Or.inl rfl, Or.inl rfl, trivial⟩ (bX12_done_228 C hr hk hf true)
theorem bX12_done_0 (C : mCx p (mR 2) s m args meth c G cX12_done RX12 3 false 233 54500 233 54500) (hr : meth.sig.returnType = (some .int)) (hk : meth.locks = false) {b : Bool} {S' : mT} {r : Int32} {v0 : Int32} {v1 : Int32} {v2 : Int32} {S : mT} (hf : fX12_done v0 v1 v2 S = some (r, S')) (ok : Bool) : mW p l e (mR 2) s m args below meth c G 3 233 54500 (mQ below G args s b S' (some (.int r))) (ok, 0, [.int v0, .int v1, .int v2], [], mk b S) := by
  unfold fX12_done at hf
  refine msegT C kX12_done 0 2 (g := (true, (if v0 = (37 : Int32) then 144 else (if v0 = (38 : Int32) then 198 else (if v0 = (39 : Int32) then 215 else (if v0 = (40 : Int32) then 215 else (if v0 = (41 : Int32) then 215 else (if v0 = (42 : Int32) then 128 else (if v0 = (43 : Int32) then 120 else (if v0 = (44 : Int32) then 215 else (if v0 = (45 : Int32) then 124 else (if v0 = (46 : Int32) then 215 else (if v0 = (47 : Int32) then 132 else (if v0 = (48 : Int32) then 215 else (if v0 = (49 : Int32) then 215 else (if v0 = (50 : Int32) then 215 else (if v0 = (51 : Int32) then 215 else (if v0 = (52 : Int32) then 215 else (if v0 = (53 : Int32) then 215 else (if v0 = (54 : Int32) then 215 else (if v0 = (55 : Int32) then 215 else (if v0 = (56 : Int32) then 215 else (if v0 = (57 : Int32) then 215 else (if v0 = (58 : Int32) then 215 else (if v0 = (59 : Int32) then 215 else (if v0 = (60 : Int32) then 156 else (if v0 = (61 : Int32) then 184 else (if v0 = (62 : Int32) then 170 else 215)))))))))))))))))))))))))), [.int v0, .int v1, .int v2], [], mk b S)) rfl rfl ?_
  by_cases hc : v0 = (37 : Int32)
  · rw [if_pos hc] at hf ⊢
    refine msegT C kX12_done 22 2 (g := (true, (if v2 = 0 then 148 else 152), [.int v0, .int v1, .int v2], [], mk b S)) rfl rfl ?_
    by_cases hc : v2 = 0
    · rw [if_pos hc] at hf ⊢
      refine msegT C kX12_done 24 2 (g := (true, 155, [.int v0, .int v1, .int v2], [.int (0 : Int32)], mk b S)) rfl rfl ?_
      exact mfor (L' := [.retAddr 0, .retAddr 0, .retAddr 0]) ⟨Or.inl rfl, Or.inl rfl, Or.inl rfl, trivial⟩ (bX12_done_155 C hr hk hf true)
    · rw [if_neg hc] at hf ⊢
      obtain ⟨hok, hf⟩ := grd_ex hf
      refine msegT C kX12_done 26 3 (g := ((decide (¬ v2 = 0) && true), 155, [.int v0, .int v1, .int v2], [.int (v1 - v1 / v2 * v2)], mk b S)) rfl hok ?_
      exact mfor (L' := [.retAddr 0, .retAddr 0, .retAddr 0]) ⟨Or.inl rfl, Or.inl rfl, Or.inl rfl, trivial⟩ (bX12_done_155 C hr hk hf true)
  · rw [if_neg hc] at hf ⊢
    by_cases hc : v0 = (38 : Int32)
    · rw [if_pos hc] at hf ⊢
      refine msegT C kX12_done 54 2 (g := (true, (if v1 = 0 then 210 else 202), [.int v0, .int v1, .int v2], [], mk b S)) rfl rfl ?_
      by_cases hc : v1 = 0
      · rw [if_pos hc] at hf ⊢
        exact mfor (L' := [.retAddr 0, .retAddr 0, .retAddr 0]) ⟨Or.inl rfl, Or.inl rfl, Or.inl rfl, trivial⟩ (bX12_done_210 C hr hk hf true)
      · rw [if_neg hc] at hf ⊢
        refine msegT C kX12_done 56 2 (g := (true, (if v2 = 0 then 210 else 206), [.int v0, .int v1, .int v2], [], mk b S)) rfl rfl ?_
        by_cases hc : v2 = 0
        · rw [if_pos hc] at hf ⊢
          exact mfor (L' := [.retAddr 0, .retAddr 0, .retAddr 0]) ⟨Or.inl rfl, Or.inl rfl, Or.inl rfl, trivial⟩ (bX12_done_210 C hr hk hf true)
        · rw [if_neg hc] at hf ⊢
          refine msegT C kX12_done 58 2 (g := (true, 211, [.int v0, .int v1, .int v2], [.int (1 : Int32)], mk b S)) rfl rfl ?_
          exact mfor (L' := [.retAddr 0, .retAddr 0, .retAddr 0]) ⟨Or.inl rfl, Or.inl rfl, Or.inl rfl, trivial⟩ (bX12_done_211 C hr hk hf true)
    · rw [if_neg hc] at hf ⊢
      by_cases hc : v0 = (39 : Int32)
      · rw [if_pos hc] at hf ⊢
        refine msegT C kX12_done 63 2 (g := (true, (if v1 = 0 then 219 else 223), [.int v0, .int v1, .int v2], [], mk b S)) rfl rfl ?_
        by_cases hc : v1 = 0
        · rw [if_pos hc] at hf ⊢
          refine msegT C kX12_done 65 2 (g := (true, (if v2 = 0 then 227 else 223), [.int v0, .int v1, .int v2], [], mk b S)) rfl rfl ?_
          by_cases hc : v2 = 0
          · rw [if_pos hc] at hf ⊢
            refine msegT C kX12_done 69 1 (g := (true, 228, [.int v0, .int v1, .int v2], [.int (0 : Int32)], mk b S)) rfl rfl ?_
            exact mfor (L' := [.retAddr 0, .retAddr 0, .retAddr 0]) ⟨Or.inl rfl, Or.inl rfl, Or.inl rfl, trivial⟩ (bX12_done_228 C hr hk hf true)
          · rw [if_neg hc] at hf ⊢
            exact mfor (L' := [.retAddr 0, .retAddr 0, .retAddr 0]) ⟨Or.inl rfl, Or.inl rfl, Or.inl rfl, trivial⟩ (bX12_done_223 C hr hk hf true)
        · rw [if_neg hc] at hf ⊢
          exact mfor (L' := [.retAddr 0, .retAddr 0, .retAddr 0]) ⟨Or.inl rfl, Or.inl rfl, Or.inl rfl, trivial⟩ (bX12_done_223 C hr hk hf true)
      · rw [if_neg hc] at hf ⊢
        by_cases hc : v0 = (40 : Int32)
        · rw [if_pos hc] at hf ⊢
          refine msegT C kX12_done 63 2 (g := (true, (if v1 = 0 then 219 else 223), [.int v0, .int v1, .int v2], [], mk b S)) rfl rfl ?_
          by_cases hc : v1 = 0
          · rw [if_pos hc] at hf ⊢
            refine msegT C kX12_done 65 2 (g := (true, (if v2 = 0 then 227 else 223), [.int v0, .int v1, .int v2], [], mk b S)) rfl rfl ?_
            by_cases hc : v2 = 0
            · rw [if_pos hc] at hf ⊢
              refine msegT C kX12_done 69 1 (g := (true, 228, [.int v0, .int v1, .int v2], [.int (0 : Int32)], mk b S)) rfl rfl ?_
              exact mfor (L' := [.retAddr 0, .retAddr 0, .retAddr 0]) ⟨Or.inl rfl, Or.inl rfl, Or.inl rfl, trivial⟩ (bX12_done_228 C hr hk hf true)
            · rw [if_neg hc] at hf ⊢
              exact mfor (L' := [.retAddr 0, .retAddr 0, .retAddr 0]) ⟨Or.inl rfl, Or.inl rfl, Or.inl rfl, trivial⟩ (bX12_done_223 C hr hk hf true)
          · rw [if_neg hc] at hf ⊢
            exact mfor (L' := [.retAddr 0, .retAddr 0, .retAddr 0]) ⟨Or.inl rfl, Or.inl rfl, Or.inl rfl, trivial⟩ (bX12_done_223 C hr hk hf true)
        · rw [if_neg hc] at hf ⊢
          by_cases hc : v0 = (41 : Int32)
          · rw [if_pos hc] at hf ⊢
            refine msegT C kX12_done 63 2 (g := (true, (if v1 = 0 then 219 else 223), [.int v0, .int v1, .int v2], [], mk b S)) rfl rfl ?_
            by_cases hc : v1 = 0
            · rw [if_pos hc] at hf ⊢
              refine msegT C kX12_done 65 2 (g := (true, (if v2 = 0 then 227 else 223), [.int v0, .int v1, .int v2], [], mk b S)) rfl rfl ?_
              by_cases hc : v2 = 0
              · rw [if_pos hc] at hf ⊢
                refine msegT C kX12_done 69 1 (g := (true, 228, [.int v0, .int v1, .int v2], [.int (0 : Int32)], mk b S)) rfl rfl ?_
                exact mfor (L' := [.retAddr 0, .retAddr 0, .retAddr 0]) ⟨Or.inl rfl, Or.inl rfl, Or.inl rfl, trivial⟩ (bX12_done_228 C hr hk hf true)
              · rw [if_neg hc] at hf ⊢
                exact mfor (L' := [.retAddr 0, .retAddr 0, .retAddr 0]) ⟨Or.inl rfl, Or.inl rfl, Or.inl rfl, trivial⟩ (bX12_done_223 C hr hk hf true)
            · rw [if_neg hc] at hf ⊢
              exact mfor (L' := [.retAddr 0, .retAddr 0, .retAddr 0]) ⟨Or.inl rfl, Or.inl rfl, Or.inl rfl, trivial⟩ (bX12_done_223 C hr hk hf true)
          · rw [if_neg hc] at hf ⊢
            by_cases hc : v0 = (42 : Int32)
            · rw [if_pos hc] at hf ⊢
              refine msegT C kX12_done 10 3 (g := (true, 131, [.int v0, .int v1, .int v2], [.int (v1 * v2)], mk b S)) rfl rfl ?_
              cases hf
              exact gret_i C hr hk (kX12_done _ (List.mem_of_getElem? (i := 13) rfl)).1
            · rw [if_neg hc] at hf ⊢
              by_cases hc : v0 = (43 : Int32)
              · rw [if_pos hc] at hf ⊢
                refine msegT C kX12_done 2 3 (g := (true, 123, [.int v0, .int v1, .int v2], [.int (v1 + v2)], mk b S)) rfl rfl ?_
                cases hf
                exact gret_i C hr hk (kX12_done _ (List.mem_of_getElem? (i := 5) rfl)).1
              · rw [if_neg hc] at hf ⊢
                by_cases hc : v0 = (44 : Int32)
                · rw [if_pos hc] at hf ⊢
                  refine msegT C kX12_done 63 2 (g := (true, (if v1 = 0 then 219 else 223), [.int v0, .int v1, .int v2], [], mk b S)) rfl rfl ?_
                  by_cases hc : v1 = 0
                  · rw [if_pos hc] at hf ⊢
                    refine msegT C kX12_done 65 2 (g := (true, (if v2 = 0 then 227 else 223), [.int v0, .int v1, .int v2], [], mk b S)) rfl rfl ?_
                    by_cases hc : v2 = 0
                    · rw [if_pos hc] at hf ⊢
                      refine msegT C kX12_done 69 1 (g := (true, 228, [.int v0, .int v1, .int v2], [.int (0 : Int32)], mk b S)) rfl rfl ?_
                      exact mfor (L' := [.retAddr 0, .retAddr 0, .retAddr 0]) ⟨Or.inl rfl, Or.inl rfl, Or.inl rfl, trivial⟩ (bX12_done_228 C hr hk hf true)
                    · rw [if_neg hc] at hf ⊢
                      exact mfor (L' := [.retAddr 0, .retAddr 0, .retAddr 0]) ⟨Or.inl rfl, Or.inl rfl, Or.inl rfl, trivial⟩ (bX12_done_223 C hr hk hf true)
                  · rw [if_neg hc] at hf ⊢
                    exact mfor (L' := [.retAddr 0, .retAddr 0, .retAddr 0]) ⟨Or.inl rfl, Or.inl rfl, Or.inl rfl, trivial⟩ (bX12_done_223 C hr hk hf true)
                · rw [if_neg hc] at hf ⊢
                  by_cases hc : v0 = (45 : Int32)
                  · rw [if_pos hc] at hf ⊢
                    refine msegT C kX12_done 6 3 (g := (true, 127, [.int v0, .int v1, .int v2], [.int (v1 - v2)], mk b S)) rfl rfl ?_
                    cases hf
                    exact gret_i C hr hk (kX12_done _ (List.mem_of_getElem? (i := 9) rfl)).1
                  · rw [if_neg hc] at hf ⊢
                    by_cases hc : v0 = (46 : Int32)
                    · rw [if_pos hc] at hf ⊢
                      refine msegT C kX12_done 63 2 (g := (true, (if v1 = 0 then 219 else 223), [.int v0, .int v1, .int v2], [], mk b S)) rfl rfl ?_
                      by_cases hc : v1 = 0
                      · rw [if_pos hc] at hf ⊢
                        refine msegT C kX12_done 65 2 (g := (true, (if v2 = 0 then 227 else 223), [.int v0, .int v1, .int v2], [], mk b S)) rfl rfl ?_
                        by_cases hc : v2 = 0
                        · rw [if_pos hc] at hf ⊢
                          refine msegT C kX12_done 69 1 (g := (true, 228, [.int v0, .int v1, .int v2], [.int (0 : Int32)], mk b S)) rfl rfl ?_
                          exact mfor (L' := [.retAddr 0, .retAddr 0, .retAddr 0]) ⟨Or.inl rfl, Or.inl rfl, Or.inl rfl, trivial⟩ (bX12_done_228 C hr hk hf true)
                        · rw [if_neg hc] at hf ⊢
                          exact mfor (L' := [.retAddr 0, .retAddr 0, .retAddr 0]) ⟨Or.inl rfl, Or.inl rfl, Or.inl rfl, trivial⟩ (bX12_done_223 C hr hk hf true)
                      · rw [if_neg hc] at hf ⊢
                        exact mfor (L' := [.retAddr 0, .retAddr 0, .retAddr 0]) ⟨Or.inl rfl, Or.inl rfl, Or.inl rfl, trivial⟩ (bX12_done_223 C hr hk hf true)
                    · rw [if_neg hc] at hf ⊢
                      by_cases hc : v0 = (47 : Int32)
                      · rw [if_pos hc] at hf ⊢
                        refine msegT C kX12_done 14 2 (g := (true, (if v2 = 0 then 136 else 140), [.int v0, .int v1, .int v2], [], mk b S)) rfl rfl ?_
                        by_cases hc : v2 = 0
                        · rw [if_pos hc] at hf ⊢
                          refine msegT C kX12_done 16 2 (g := (true, 143, [.int v0, .int v1, .int v2], [.int (0 : Int32)], mk b S)) rfl rfl ?_
                          exact mfor (L' := [.retAddr 0, .retAddr 0, .retAddr 0]) ⟨Or.inl rfl, Or.inl rfl, Or.inl rfl, trivial⟩ (bX12_done_143 C hr hk hf true)
                        · rw [if_neg hc] at hf ⊢
                          obtain ⟨hok, hf⟩ := grd_ex hf
                          refine msegT C kX12_done 18 3 (g := ((decide (¬ v2 = 0) && true), 143, [.int v0, .int v1, .int v2], [.int (v1 / v2)], mk b S)) rfl hok ?_
                          exact mfor (L' := [.retAddr 0, .retAddr 0, .retAddr 0]) ⟨Or.inl rfl, Or.inl rfl, Or.inl rfl, trivial⟩ (bX12_done_143 C hr hk hf true)
                      · rw [if_neg hc] at hf ⊢
                        by_cases hc : v0 = (48 : Int32)
                        · rw [if_pos hc] at hf ⊢
                          refine msegT C kX12_done 63 2 (g := (true, (if v1 = 0 then 219 else 223), [.int v0, .int v1, .int v2], [], mk b S)) rfl rfl ?_
                          by_cases hc : v1 = 0
                          · rw [if_pos hc] at hf ⊢
                            refine msegT C kX12_done 65 2 (g := (true, (if v2 = 0 then 227 else 223), [.int v0, .int v1, .int v2], [], mk b S)) rfl rfl ?_
                            by_cases hc : v2 = 0
                            · rw [if_pos hc] at hf ⊢
                              refine msegT C kX12_done 69 1 (g := (true, 228, [.int v0, .int v1, .int v2], [.int (0 : Int32)], mk b S)) rfl rfl ?_
                              exact mfor (L' := [.retAddr 0, .retAddr 0, .retAddr 0]) ⟨Or.inl rfl, Or.inl rfl, Or.inl rfl, trivial⟩ (bX12_done_228 C hr hk hf true)
                            · rw [if_neg hc] at hf ⊢
                              exact mfor (L' := [.retAddr 0, .retAddr 0, .retAddr 0]) ⟨Or.inl rfl, Or.inl rfl, Or.inl rfl, trivial⟩ (bX12_done_223 C hr hk hf true)
                          · rw [if_neg hc] at hf ⊢
                            exact mfor (L' := [.retAddr 0, .retAddr 0, .retAddr 0]) ⟨Or.inl rfl, Or.inl rfl, Or.inl rfl, trivial⟩ (bX12_done_223 C hr hk hf true)
                        · rw [if_neg hc] at hf ⊢
                          by_cases hc : v0 = (49 : Int32)
                          · rw [if_pos hc] at hf ⊢
                            refine msegT C kX12_done 63 2 (g := (true, (if v1 = 0 then 219 else 223), [.int v0, .int v1, .int v2], [], mk b S)) rfl rfl ?_
                            by_cases hc : v1 = 0
                            · rw [if_pos hc] at hf ⊢
                              refine msegT C kX12_done 65 2 (g := (true, (if v2 = 0 then 227 else 223), [.int v0, .int v1, .int v2], [], mk b S)) rfl rfl ?_
                              by_cases hc : v2 = 0
                              · rw [if_pos hc] at hf ⊢
                                refine msegT C kX12_done 69 1 (g := (true, 228, [.int v0, .int v1, .int v2], [.int (0 : Int32)], mk b S)) rfl rfl ?_
                                exact mfor (L' := [.retAddr 0, .retAddr 0, .retAddr 0]) ⟨Or.inl rfl, Or.inl rfl, Or.inl rfl, trivial⟩ (bX12_done_228 C hr hk hf true)
                              · rw [if_neg hc] at hf ⊢
                                exact mfor (L' := [.retAddr 0, .retAddr 0, .retAddr 0]) ⟨Or.inl rfl, Or.inl rfl, Or.inl rfl, trivial⟩ (bX12_done_223 C hr hk hf true)
                            · rw [if_neg hc] at hf ⊢
                              exact mfor (L' := [.retAddr 0, .retAddr 0, .retAddr 0]) ⟨Or.inl rfl, Or.inl rfl, Or.inl rfl, trivial⟩ (bX12_done_223 C hr hk hf true)
                          · rw [if_neg hc] at hf ⊢
                            by_cases hc : v0 = (50 : Int32)
                            · rw [if_pos hc] at hf ⊢
                              refine msegT C kX12_done 63 2 (g := (true, (if v1 = 0 then 219 else 223), [.int v0, .int v1, .int v2], [], mk b S)) rfl rfl ?_
                              by_cases hc : v1 = 0
                              · rw [if_pos hc] at hf ⊢
                                refine msegT C kX12_done 65 2 (g := (true, (if v2 = 0 then 227 else 223), [.int v0, .int v1, .int v2], [], mk b S)) rfl rfl ?_
                                by_cases hc : v2 = 0
                                · rw [if_pos hc] at hf ⊢
                                  refine msegT C kX12_done 69 1 (g := (true, 228, [.int v0, .int v1, .int v2], [.int (0 : Int32)], mk b S)) rfl rfl ?_
                                  exact mfor (L' := [.retAddr 0, .retAddr 0, .retAddr 0]) ⟨Or.inl rfl, Or.inl rfl, Or.inl rfl, trivial⟩ (bX12_done_228 C hr hk hf true)
                                · rw [if_neg hc] at hf ⊢
                                  exact mfor (L' := [.retAddr 0, .retAddr 0, .retAddr 0]) ⟨Or.inl rfl, Or.inl rfl, Or.inl rfl, trivial⟩ (bX12_done_223 C hr hk hf true)
                              · rw [if_neg hc] at hf ⊢
                                exact mfor (L' := [.retAddr 0, .retAddr 0, .retAddr 0]) ⟨Or.inl rfl, Or.inl rfl, Or.inl rfl, trivial⟩ (bX12_done_223 C hr hk hf true)
                            · rw [if_neg hc] at hf ⊢
                              by_cases hc : v0 = (51 : Int32)
                              · rw [if_pos hc] at hf ⊢
                                refine msegT C kX12_done 63 2 (g := (true, (if v1 = 0 then 219 else 223), [.int v0, .int v1, .int v2], [], mk b S)) rfl rfl ?_
                                by_cases hc : v1 = 0
                                · rw [if_pos hc] at hf ⊢
                                  refine msegT C kX12_done 65 2 (g := (true, (if v2 = 0 then 227 else 223), [.int v0, .int v1, .int v2], [], mk b S)) rfl rfl ?_
                                  by_cases hc : v2 = 0
                                  · rw [if_pos hc] at hf ⊢
                                    refine msegT C kX12_done 69 1 (g := (true, 228, [.int v0, .int v1, .int v2], [.int (0 : Int32)], mk b S)) rfl rfl ?_
                                    exact mfor (L' := [.retAddr 0, .retAddr 0, .retAddr 0]) ⟨Or.inl rfl, Or.inl rfl, Or.inl rfl, trivial⟩ (bX12_done_228 C hr hk hf true)
                                  · rw [if_neg hc] at hf ⊢
                                    exact mfor (L' := [.retAddr 0, .retAddr 0, .retAddr 0]) ⟨Or.inl rfl, Or.inl rfl, Or.inl rfl, trivial⟩ (bX12_done_223 C hr hk hf true)
                                · rw [if_neg hc] at hf ⊢
                                  exact mfor (L' := [.retAddr 0, .retAddr 0, .retAddr 0]) ⟨Or.inl rfl, Or.inl rfl, Or.inl rfl, trivial⟩ (bX12_done_223 C hr hk hf true)
                              · rw [if_neg hc] at hf ⊢
                                by_cases hc : v0 = (52 : Int32)
                                · rw [if_pos hc] at hf ⊢
                                  refine msegT C kX12_done 63 2 (g := (true, (if v1 = 0 then 219 else 223), [.int v0, .int v1, .int v2], [], mk b S)) rfl rfl ?_
                                  by_cases hc : v1 = 0
                                  · rw [if_pos hc] at hf ⊢
                                    refine msegT C kX12_done 65 2 (g := (true, (if v2 = 0 then 227 else 223), [.int v0, .int v1, .int v2], [], mk b S)) rfl rfl ?_
                                    by_cases hc : v2 = 0
                                    · rw [if_pos hc] at hf ⊢
                                      refine msegT C kX12_done 69 1 (g := (true, 228, [.int v0, .int v1, .int v2], [.int (0 : Int32)], mk b S)) rfl rfl ?_
                                      exact mfor (L' := [.retAddr 0, .retAddr 0, .retAddr 0]) ⟨Or.inl rfl, Or.inl rfl, Or.inl rfl, trivial⟩ (bX12_done_228 C hr hk hf true)
                                    · rw [if_neg hc] at hf ⊢
                                      exact mfor (L' := [.retAddr 0, .retAddr 0, .retAddr 0]) ⟨Or.inl rfl, Or.inl rfl, Or.inl rfl, trivial⟩ (bX12_done_223 C hr hk hf true)
                                  · rw [if_neg hc] at hf ⊢
                                    exact mfor (L' := [.retAddr 0, .retAddr 0, .retAddr 0]) ⟨Or.inl rfl, Or.inl rfl, Or.inl rfl, trivial⟩ (bX12_done_223 C hr hk hf true)
                                · rw [if_neg hc] at hf ⊢
                                  by_cases hc : v0 = (53 : Int32)
                                  · rw [if_pos hc] at hf ⊢
                                    refine msegT C kX12_done 63 2 (g := (true, (if v1 = 0 then 219 else 223), [.int v0, .int v1, .int v2], [], mk b S)) rfl rfl ?_
                                    by_cases hc : v1 = 0
                                    · rw [if_pos hc] at hf ⊢
                                      refine msegT C kX12_done 65 2 (g := (true, (if v2 = 0 then 227 else 223), [.int v0, .int v1, .int v2], [], mk b S)) rfl rfl ?_
                                      by_cases hc : v2 = 0
                                      · rw [if_pos hc] at hf ⊢
                                        refine msegT C kX12_done 69 1 (g := (true, 228, [.int v0, .int v1, .int v2], [.int (0 : Int32)], mk b S)) rfl rfl ?_
                                        exact mfor (L' := [.retAddr 0, .retAddr 0, .retAddr 0]) ⟨Or.inl rfl, Or.inl rfl, Or.inl rfl, trivial⟩ (bX12_done_228 C hr hk hf true)
                                      · rw [if_neg hc] at hf ⊢
                                        exact mfor (L' := [.retAddr 0, .retAddr 0, .retAddr 0]) ⟨Or.inl rfl, Or.inl rfl, Or.inl rfl, trivial⟩ (bX12_done_223 C hr hk hf true)
                                    · rw [if_neg hc] at hf ⊢
                                      exact mfor (L' := [.retAddr 0, .retAddr 0, .retAddr 0]) ⟨Or.inl rfl, Or.inl rfl, Or.inl rfl, trivial⟩ (bX12_done_223 C hr hk hf true)
                                  · rw [if_neg hc] at hf ⊢
                                    by_cases hc : v0 = (54 : Int32)
                                    · rw [if_pos hc] at hf ⊢
                                      refine msegT C kX12_done 63 2 (g := (true, (if v1 = 0 then 219 else 223), [.int v0, .int v1, .int v2], [], mk b S)) rfl rfl ?_
                                      by_cases hc : v1 = 0
                                      · rw [if_pos hc] at hf ⊢
                                        refine msegT C kX12_done 65 2 (g := (true, (if v2 = 0 then 227 else 223), [.int v0, .int v1, .int v2], [], mk b S)) rfl rfl ?_
                                        by_cases hc : v2 = 0
                                        · rw [if_pos hc] at hf ⊢
                                          refine msegT C kX12_done 69 1 (g := (true, 228, [.int v0, .int v1, .int v2], [.int (0 : Int32)], mk b S)) rfl rfl ?_
                                          exact mfor (L' := [.retAddr 0, .retAddr 0, .retAddr 0]) ⟨Or.inl rfl, Or.inl rfl, Or.inl rfl, trivial⟩ (bX12_done_228 C hr hk hf true)
                                        · rw [if_neg hc] at hf ⊢
                                          exact mfor (L' := [.retAddr 0, .retAddr 0, .retAddr 0]) ⟨Or.inl rfl, Or.inl rfl, Or.inl rfl, trivial⟩ (bX12_done_223 C hr hk hf true)
                                      · rw [if_neg hc] at hf ⊢
                                        exact mfor (L' := [.retAddr 0, .retAddr 0, .retAddr 0]) ⟨Or.inl rfl, Or.inl rfl, Or.inl rfl, trivial⟩ (bX12_done_223 C hr hk hf true)
                                    · rw [if_neg hc] at hf ⊢
                                      by_cases hc : v0 = (55 : Int32)
                                      · rw [if_pos hc] at hf ⊢
                                        refine msegT C kX12_done 63 2 (g := (true, (if v1 = 0 then 219 else 223), [.int v0, .int v1, .int v2], [], mk b S)) rfl rfl ?_
                                        by_cases hc : v1 = 0
                                        · rw [if_pos hc] at hf ⊢
                                          refine msegT C kX12_done 65 2 (g := (true, (if v2 = 0 then 227 else 223), [.int v0, .int v1, .int v2], [], mk b S)) rfl rfl ?_
                                          by_cases hc : v2 = 0
                                          · rw [if_pos hc] at hf ⊢
                                            refine msegT C kX12_done 69 1 (g := (true, 228, [.int v0, .int v1, .int v2], [.int (0 : Int32)], mk b S)) rfl rfl ?_
                                            exact mfor (L' := [.retAddr 0, .retAddr 0, .retAddr 0]) ⟨Or.inl rfl, Or.inl rfl, Or.inl rfl, trivial⟩ (bX12_done_228 C hr hk hf true)
                                          · rw [if_neg hc] at hf ⊢
                                            exact mfor (L' := [.retAddr 0, .retAddr 0, .retAddr 0]) ⟨Or.inl rfl, Or.inl rfl, Or.inl rfl, trivial⟩ (bX12_done_223 C hr hk hf true)
                                        · rw [if_neg hc] at hf ⊢
                                          exact mfor (L' := [.retAddr 0, .retAddr 0, .retAddr 0]) ⟨Or.inl rfl, Or.inl rfl, Or.inl rfl, trivial⟩ (bX12_done_223 C hr hk hf true)
                                      · rw [if_neg hc] at hf ⊢
                                        by_cases hc : v0 = (56 : Int32)
                                        · rw [if_pos hc] at hf ⊢
                                          refine msegT C kX12_done 63 2 (g := (true, (if v1 = 0 then 219 else 223), [.int v0, .int v1, .int v2], [], mk b S)) rfl rfl ?_
                                          by_cases hc : v1 = 0
                                          · rw [if_pos hc] at hf ⊢
                                            refine msegT C kX12_done 65 2 (g := (true, (if v2 = 0 then 227 else 223), [.int v0, .int v1, .int v2], [], mk b S)) rfl rfl ?_
                                            by_cases hc : v2 = 0
                                            · rw [if_pos hc] at hf ⊢
                                              refine msegT C kX12_done 69 1 (g := (true, 228, [.int v0, .int v1, .int v2], [.int (0 : Int32)], mk b S)) rfl rfl ?_
                                              exact mfor (L' := [.retAddr 0, .retAddr 0, .retAddr 0]) ⟨Or.inl rfl, Or.inl rfl, Or.inl rfl, trivial⟩ (bX12_done_228 C hr hk hf true)
                                            · rw [if_neg hc] at hf ⊢
                                              exact mfor (L' := [.retAddr 0, .retAddr 0, .retAddr 0]) ⟨Or.inl rfl, Or.inl rfl, Or.inl rfl, trivial⟩ (bX12_done_223 C hr hk hf true)
                                          · rw [if_neg hc] at hf ⊢
                                            exact mfor (L' := [.retAddr 0, .retAddr 0, .retAddr 0]) ⟨Or.inl rfl, Or.inl rfl, Or.inl rfl, trivial⟩ (bX12_done_223 C hr hk hf true)
                                        · rw [if_neg hc] at hf ⊢
                                          by_cases hc : v0 = (57 : Int32)
                                          · rw [if_pos hc] at hf ⊢
                                            refine msegT C kX12_done 63 2 (g := (true, (if v1 = 0 then 219 else 223), [.int v0, .int v1, .int v2], [], mk b S)) rfl rfl ?_
                                            by_cases hc : v1 = 0
                                            · rw [if_pos hc] at hf ⊢
                                              refine msegT C kX12_done 65 2 (g := (true, (if v2 = 0 then 227 else 223), [.int v0, .int v1, .int v2], [], mk b S)) rfl rfl ?_
                                              by_cases hc : v2 = 0
                                              · rw [if_pos hc] at hf ⊢
                                                refine msegT C kX12_done 69 1 (g := (true, 228, [.int v0, .int v1, .int v2], [.int (0 : Int32)], mk b S)) rfl rfl ?_
                                                exact mfor (L' := [.retAddr 0, .retAddr 0, .retAddr 0]) ⟨Or.inl rfl, Or.inl rfl, Or.inl rfl, trivial⟩ (bX12_done_228 C hr hk hf true)
                                              · rw [if_neg hc] at hf ⊢
                                                exact mfor (L' := [.retAddr 0, .retAddr 0, .retAddr 0]) ⟨Or.inl rfl, Or.inl rfl, Or.inl rfl, trivial⟩ (bX12_done_223 C hr hk hf true)
                                            · rw [if_neg hc] at hf ⊢
                                              exact mfor (L' := [.retAddr 0, .retAddr 0, .retAddr 0]) ⟨Or.inl rfl, Or.inl rfl, Or.inl rfl, trivial⟩ (bX12_done_223 C hr hk hf true)
                                          · rw [if_neg hc] at hf ⊢
                                            by_cases hc : v0 = (58 : Int32)
                                            · rw [if_pos hc] at hf ⊢
                                              refine msegT C kX12_done 63 2 (g := (true, (if v1 = 0 then 219 else 223), [.int v0, .int v1, .int v2], [], mk b S)) rfl rfl ?_
                                              by_cases hc : v1 = 0
                                              · rw [if_pos hc] at hf ⊢
                                                refine msegT C kX12_done 65 2 (g := (true, (if v2 = 0 then 227 else 223), [.int v0, .int v1, .int v2], [], mk b S)) rfl rfl ?_
                                                by_cases hc : v2 = 0
                                                · rw [if_pos hc] at hf ⊢
                                                  refine msegT C kX12_done 69 1 (g := (true, 228, [.int v0, .int v1, .int v2], [.int (0 : Int32)], mk b S)) rfl rfl ?_
                                                  exact mfor (L' := [.retAddr 0, .retAddr 0, .retAddr 0]) ⟨Or.inl rfl, Or.inl rfl, Or.inl rfl, trivial⟩ (bX12_done_228 C hr hk hf true)
                                                · rw [if_neg hc] at hf ⊢
                                                  exact mfor (L' := [.retAddr 0, .retAddr 0, .retAddr 0]) ⟨Or.inl rfl, Or.inl rfl, Or.inl rfl, trivial⟩ (bX12_done_223 C hr hk hf true)
                                              · rw [if_neg hc] at hf ⊢
                                                exact mfor (L' := [.retAddr 0, .retAddr 0, .retAddr 0]) ⟨Or.inl rfl, Or.inl rfl, Or.inl rfl, trivial⟩ (bX12_done_223 C hr hk hf true)
                                            · rw [if_neg hc] at hf ⊢
                                              by_cases hc : v0 = (59 : Int32)
                                              · rw [if_pos hc] at hf ⊢
                                                refine msegT C kX12_done 63 2 (g := (true, (if v1 = 0 then 219 else 223), [.int v0, .int v1, .int v2], [], mk b S)) rfl rfl ?_
                                                by_cases hc : v1 = 0
                                                · rw [if_pos hc] at hf ⊢
                                                  refine msegT C kX12_done 65 2 (g := (true, (if v2 = 0 then 227 else 223), [.int v0, .int v1, .int v2], [], mk b S)) rfl rfl ?_
                                                  by_cases hc : v2 = 0
                                                  · rw [if_pos hc] at hf ⊢
                                                    refine msegT C kX12_done 69 1 (g := (true, 228, [.int v0, .int v1, .int v2], [.int (0 : Int32)], mk b S)) rfl rfl ?_
                                                    exact mfor (L' := [.retAddr 0, .retAddr 0, .retAddr 0]) ⟨Or.inl rfl, Or.inl rfl, Or.inl rfl, trivial⟩ (bX12_done_228 C hr hk hf true)
                                                  · rw [if_neg hc] at hf ⊢
                                                    exact mfor (L' := [.retAddr 0, .retAddr 0, .retAddr 0]) ⟨Or.inl rfl, Or.inl rfl, Or.inl rfl, trivial⟩ (bX12_done_223 C hr hk hf true)
                                                · rw [if_neg hc] at hf ⊢
                                                  exact mfor (L' := [.retAddr 0, .retAddr 0, .retAddr 0]) ⟨Or.inl rfl, Or.inl rfl, Or.inl rfl, trivial⟩ (bX12_done_223 C hr hk hf true)
                                              · rw [if_neg hc] at hf ⊢
                                                by_cases hc : v0 = (60 : Int32)
                                                · rw [if_pos hc] at hf ⊢
                                                  refine msegT C kX12_done 30 3 (g := (true, (if v2 ≤ v1 then 165 else 161), [.int v0, .int v1, .int v2], [], mk b S)) rfl rfl ?_
                                                  by_cases hc : v2 ≤ v1
                                                  · rw [if_pos hc] at hf ⊢
                                                    refine msegT C kX12_done 35 1 (g := (true, 166, [.int v0, .int v1, .int v2], [.int (0 : Int32)], mk b S)) rfl rfl ?_
                                                    exact mfor (L' := [.retAddr 0, .retAddr 0, .retAddr 0]) ⟨Or.inl rfl, Or.inl rfl, Or.inl rfl, trivial⟩ (bX12_done_166 C hr hk hf true)
                                                  · rw [if_neg hc] at hf ⊢
                                                    refine msegT C kX12_done 33 2 (g := (true, 166, [.int v0, .int v1, .int v2], [.int (1 : Int32)], mk b S)) rfl rfl ?_
                                                    exact mfor (L' := [.retAddr 0, .retAddr 0, .retAddr 0]) ⟨Or.inl rfl, Or.inl rfl, Or.inl rfl, trivial⟩ (bX12_done_166 C hr hk hf true)
                                                · rw [if_neg hc] at hf ⊢
                                                  by_cases hc : v0 = (61 : Int32)
                                                  · rw [if_pos hc] at hf ⊢
                                                    refine msegT C kX12_done 46 3 (g := (true, (if v1 = v2 then 189 else 193), [.int v0, .int v1, .int v2], [], mk b S)) rfl rfl ?_
                                                    by_cases hc : v1 = v2
                                                    · rw [if_pos hc] at hf ⊢
                                                      refine msegT C kX12_done 49 2 (g := (true, 194, [.int v0, .int v1, .int v2], [.int (1 : Int32)], mk b S)) rfl rfl ?_
                                                      exact mfor (L' := [.retAddr 0, .retAddr 0, .retAddr 0]) ⟨Or.inl rfl, Or.inl rfl, Or.inl rfl, trivial⟩ (bX12_done_194 C hr hk hf true)
                                                    · rw [if_neg hc] at hf ⊢
                                                      refine msegT C kX12_done 51 1 (g := (true, 194, [.int v0, .int v1, .int v2], [.int (0 : Int32)], mk b S)) rfl rfl ?_
                                                      exact mfor (L' := [.retAddr 0, .retAddr 0, .retAddr 0]) ⟨Or.inl rfl, Or.inl rfl, Or.inl rfl, trivial⟩ (bX12_done_194 C hr hk hf true)
                                                  · rw [if_neg hc] at hf ⊢
                                                    by_cases hc : v0 = (62 : Int32)
                                                    · rw [if_pos hc] at hf ⊢
                                                      refine msegT C kX12_done 38 3 (g := (true, (if v1 ≤ v2 then 179 else 175), [.int v0, .int v1, .int v2], [], mk b S)) rfl rfl ?_
                                                      by_cases hc : v1 ≤ v2
                                                      · rw [if_pos hc] at hf ⊢
                                                        refine msegT C kX12_done 43 1 (g := (true, 180, [.int v0, .int v1, .int v2], [.int (0 : Int32)], mk b S)) rfl rfl ?_
                                                        exact mfor (L' := [.retAddr 0, .retAddr 0, .retAddr 0]) ⟨Or.inl rfl, Or.inl rfl, Or.inl rfl, trivial⟩ (bX12_done_180 C hr hk hf true)
                                                      · rw [if_neg hc] at hf ⊢
                                                        refine msegT C kX12_done 41 2 (g := (true, 180, [.int v0, .int v1, .int v2], [.int (1 : Int32)], mk b S)) rfl rfl ?_
                                                        exact mfor (L' := [.retAddr 0, .retAddr 0, .retAddr 0]) ⟨Or.inl rfl, Or.inl rfl, Or.inl rfl, trivial⟩ (bX12_done_180 C hr hk hf true)
                                                    · rw [if_neg hc] at hf ⊢
                                                      refine msegT C kX12_done 63 2 (g := (true, (if v1 = 0 then 219 else 223), [.int v0, .int v1, .int v2], [], mk b S)) rfl rfl ?_
                                                      by_cases hc : v1 = 0
                                                      · rw [if_pos hc] at hf ⊢
                                                        refine msegT C kX12_done 65 2 (g := (true, (if v2 = 0 then 227 else 223), [.int v0, .int v1, .int v2], [], mk b S)) rfl rfl ?_
                                                        by_cases hc : v2 = 0
                                                        · rw [if_pos hc] at hf ⊢
                                                          refine msegT C kX12_done 69 1 (g := (true, 228, [.int v0, .int v1, .int v2], [.int (0 : Int32)], mk b S)) rfl rfl ?_
                                                          exact mfor (L' := [.retAddr 0, .retAddr 0, .retAddr 0]) ⟨Or.inl rfl, Or.inl rfl, Or.inl rfl, trivial⟩ (bX12_done_228 C hr hk hf true)
                                                        · rw [if_neg hc] at hf ⊢
                                                          exact mfor (L' := [.retAddr 0, .retAddr 0, .retAddr 0]) ⟨Or.inl rfl, Or.inl rfl, Or.inl rfl, trivial⟩ (bX12_done_223 C hr hk hf true)
                                                      · rw [if_neg hc] at hf ⊢
                                                        exact mfor (L' := [.retAddr 0, .retAddr 0, .retAddr 0]) ⟨Or.inl rfl, Or.inl rfl, Or.inl rfl, trivial⟩ (bX12_done_223 C hr hk hf true)
theorem qX12_done {b : Bool} {v0 : Int32} {v1 : Int32} {v2 : Int32} {S S' : mT} {r : Int32} (hf : fX12_done v0 v1 v2 S = some (r, S')) : mOk l mX12_done 2 [.int v0, .int v1, .int v2] b S (some (.int r)) S' :=
  gMet (by decide) (Nat.le_of_ble_eq_true rfl) rfl (Nat.le_of_ble_eq_true rfl) (fun p e s m args below meth c G C hr hk => bX12_done_0 C hr hk hf true)
theorem bX12_worked_158 (C : mCx p (mR 3) s m args meth c G cX12_worked RX12 4 false 233 54500 233 54500) (hr : meth.sig.returnType = (some .int)) (hk : meth.locks = false) {b : Bool} {S' : mT} {r : Int32} {rc8 : Int32 → Int32 → Int32 → mT → Option (Int32 × mT)} (Hrc8 : ∀ (v1 : Int32) (v2 : Int32) (v3 : Int32) (S : mT), rc8 v1 v2 v3 S = some (r, S') → ∀ ok : Bool, mW p l e (mR 3) s m args below meth c G 4 233 54500 (mQ below G args s b S' (some (.int r))) (ok, 8, [.ref (187), .int v1, .int v2, .int v3], [], mk b S)) {v1 : Int32} {v2 : Int32} {v3 : Int32} {S : mT} (hf : fX12_worked_158 rc8 v1 v2 v3 S = some (r, S')) (ok : Bool) : mW p l e (mR 3) s m args below meth c G 4 233 54500 (mQ below G args s b S' (some (.int r))) (ok, 158, [.ref (187), .int v1, .int v2, .int v3], [], mk b S) := by
  unfold fX12_worked_158 at hf
  refine msegT C kX12_worked 96 1 (g := (true, 161, [.ref (187), .int v1, .int v2, .int (v3 + (1 : Int32))], [], mk b S)) rfl rfl ?_
  obtain ⟨x9, ex9, hf⟩ := bnd_ex hf
  rw [← ex9]
  refine msegT C kX12_worked 97 1 (g := (true, 8, [.ref (187), .int v1, .int v2, .int x9], [], mk b S)) rfl rfl ?_
  exact mfor (L' := [.ref (187), .int v1, .int v2, .int x9]) ⟨Or.inr rfl, Or.inr rfl, Or.inr rfl, Or.inr rfl, trivial⟩ (Hrc8 _ _ _ _ hf true)
theorem bX12_worked_77 (C : mCx p (mR 3) s m args meth c G cX12_worked RX12 4 false 233 54500 233 54500) (hr : meth.sig.returnType = (some .int)) (hk : meth.locks = false) {b : Bool} {S' : mT} {r : Int32} {rc8 : Int32 → Int32 → Int32 → mT → Option (Int32 × mT)} (Hrc8 : ∀ (v1 : Int32) (v2 : Int32) (v3 : Int32) (S : mT), rc8 v1 v2 v3 S = some (r, S') → ∀ ok : Bool, mW p l e (mR 3) s m args below meth c G 4 233 54500 (mQ below G args s b S' (some (.int r))) (ok, 8, [.ref (187), .int v1, .int v2, .int v3], [], mk b S)) {v1 : Int32} {v2 : Int32} {v3 : Int32} {s0 : Int32} {s1 : Int32} {S : mT} (hf : fX12_worked_77 rc8 v1 v2 v3 s0 s1 S = some (r, S')) (ok : Bool) : mW p l e (mR 3) s m args below meth c G 4 233 54500 (mQ below G args s b S' (some (.int r))) (ok, 77, [.ref (187), .int v1, .int v2, .int v3], [.int s0, .int s1, .ref 197], mk b S) := by
  unfold fX12_worked_77 at hf
  obtain ⟨hok, hf⟩ := grd_ex hf
  refine msegT C kX12_worked 47 1 (g := ((kI 197 s1 && true), 78, [.ref (187), .int v1, .int v2, .int v3], [], mk b (sI S 197 (mIx s1) s0))) rfl hok ?_
  obtain ⟨S10, eS10, hf⟩ := bnd_ex hf
  rw [← eS10]
  refine msegT C kX12_worked 48 1 (g := (true, 81, [.ref (187), .int v1, .int (v2 + (1 : Int32)), .int v3], [], mk b S10)) rfl rfl ?_
  obtain ⟨x11, ex11, hf⟩ := bnd_ex hf
  rw [← ex11]
  refine msegT C kX12_worked 49 1 (g := (true, 158, [.ref (187), .int v1, .int x11, .int v3], [], mk b S10)) rfl rfl ?_
  exact mfor (L' := [.ref (187), .int v1, .int x11, .int v3]) ⟨Or.inr rfl, Or.inr rfl, Or.inr rfl, Or.inr rfl, trivial⟩ (bX12_worked_158 C hr hk Hrc8 hf true)
theorem bX12_worked_43 (C : mCx p (mR 3) s m args meth c G cX12_worked RX12 4 false 233 54500 233 54500) (hr : meth.sig.returnType = (some .int)) (hk : meth.locks = false) {b : Bool} {S' : mT} {r : Int32} {rc8 : Int32 → Int32 → Int32 → mT → Option (Int32 × mT)} (Hrc8 : ∀ (v1 : Int32) (v2 : Int32) (v3 : Int32) (S : mT), rc8 v1 v2 v3 S = some (r, S') → ∀ ok : Bool, mW p l e (mR 3) s m args below meth c G 4 233 54500 (mQ below G args s b S' (some (.int r))) (ok, 8, [.ref (187), .int v1, .int v2, .int v3], [], mk b S)) {v1 : Int32} {v2 : Int32} {v3 : Int32} {S : mT} (hf : fX12_worked_43 rc8 v1 v2 v3 S = some (r, S')) (ok : Bool) : mW p l e (mR 3) s m args below meth c G 4 233 54500 (mQ below G args s b S' (some (.int r))) (ok, 43, [.ref (187), .int v1, .int v2, .int v3], [], mk b S) := by
  unfold fX12_worked_43 at hf
  obtain ⟨hok, hf⟩ := grd_ex hf
  refine msegT C kX12_worked 27 8 (g := ((kI 193 v3 && (kO 187 12 && (kO 187 12 && true))), (if (S.1 193 (mIx v3)) = 0 then 57 else 66), [.ref (187), .int v1, .int v2, .int v3], [.int v2, .ref 197], mk b S)) rfl hok ?_
  by_cases hc : (S.1 193 (mIx v3)) = 0
  · rw [if_pos hc] at hf ⊢
    obtain ⟨hok, hf⟩ := grd_ex hf
    refine msegT C kX12_worked 35 5 (g := ((kI 194 v3 && (kO 187 12 && true)), 77, [.ref (187), .int v1, .int v2, .int v3], [.int (S.1 194 (mIx v3)), .int v2, .ref 197], mk b S)) rfl hok ?_
    exact mfor (L' := [.ref (187), .int v1, .int v2, .int v3]) ⟨Or.inr rfl, Or.inr rfl, Or.inr rfl, Or.inr rfl, trivial⟩ (bX12_worked_77 C hr hk Hrc8 hf true)
  · rw [if_neg hc] at hf ⊢
    obtain ⟨hok, hf⟩ := grd_ex hf
    refine msegT C kX12_worked 40 7 (g := ((kI 200 (S.1 194 (mIx v3)) && (kI 194 v3 && (kO 187 12 && (kO 187 12 && true)))), 77, [.ref (187), .int v1, .int v2, .int v3], [.int (S.1 200 (mIx (S.1 194 (mIx v3)))), .int v2, .ref 197], mk b S)) rfl hok ?_
    exact mfor (L' := [.ref (187), .int v1, .int v2, .int v3]) ⟨Or.inr rfl, Or.inr rfl, Or.inr rfl, Or.inr rfl, trivial⟩ (bX12_worked_77 C hr hk Hrc8 hf true)
theorem bX12_worked_117 (C : mCx p (mR 3) s m args meth c G cX12_worked RX12 4 false 233 54500 233 54500) (hr : meth.sig.returnType = (some .int)) (hk : meth.locks = false) {b : Bool} {S' : mT} {r : Int32} {rc8 : Int32 → Int32 → Int32 → mT → Option (Int32 × mT)} (Hrc8 : ∀ (v1 : Int32) (v2 : Int32) (v3 : Int32) (S : mT), rc8 v1 v2 v3 S = some (r, S') → ∀ ok : Bool, mW p l e (mR 3) s m args below meth c G 4 233 54500 (mQ below G args s b S' (some (.int r))) (ok, 8, [.ref (187), .int v1, .int v2, .int v3], [], mk b S)) {v1 : Int32} {v2 : Int32} {v3 : Int32} {s0 : Int32} {s1 : Int32} {S : mT} (hf : fX12_worked_117 rc8 v1 v2 v3 s0 s1 S = some (r, S')) (ok : Bool) : mW p l e (mR 3) s m args below meth c G 4 233 54500 (mQ below G args s b S' (some (.int r))) (ok, 117, [.ref (187), .int v1, .int v2, .int v3], [.int s0, .int s1, .ref 197], mk b S) := by
  unfold fX12_worked_117 at hf
  obtain ⟨x7, S6, hq, hf⟩ := bndC_ex hf
  refine mcall (kd := 1) (vs := [.int s0]) (rest := [.int s1, .ref 197]) (r := (some (.int x7))) (h' := mk b S6) (ok' := true) C lkRX12_307 (qX12_truth hq) (kX12_worked _ (List.mem_of_getElem? (i := 71) rfl)).1 rfl (Nat.le_of_ble_eq_true rfl) (Nat.le_of_ble_eq_true rfl) (Nat.le_refl _) (Nat.le_refl _) (Nat.le_of_ble_eq_true rfl) ?_
  obtain ⟨hok, hf⟩ := grd_ex hf
  refine msegT C kX12_worked 72 1 (g := ((kI 197 s1 && true), 121, [.ref (187), .int v1, .int v2, .int v3], [], mk b (sI S6 197 (mIx s1) x7))) rfl hok ?_
  obtain ⟨S8, eS8, hf⟩ := bnd_ex hf
  rw [← eS8]
  refine msegT C kX12_worked 73 1 (g := (true, 158, [.ref (187), .int v1, .int v2, .int v3], [], mk b S8)) rfl rfl ?_
  exact mfor (L' := [.ref (187), .int v1, .int v2, .int v3]) ⟨Or.inr rfl, Or.inr rfl, Or.inr rfl, Or.inr rfl, trivial⟩ (bX12_worked_158 C hr hk Hrc8 hf true)
theorem bX12_worked_8 (C : mCx p (mR 3) s m args meth c G cX12_worked RX12 4 false 233 54500 233 54500) (hr : meth.sig.returnType = (some .int)) (hk : meth.locks = false) {b : Bool} {S' : mT} {r : Int32} : ∀ (k : Nat) (v1 : Int32) (v2 : Int32) (v3 : Int32) (S : mT), fX12_worked_8 k v1 v2 v3 S = some (r, S') → ∀ ok : Bool, mW p l e (mR 3) s m args below meth c G 4 233 54500 (mQ below G args s b S' (some (.int r))) (ok, 8, [.ref (187), .int v1, .int v2, .int v3], [], mk b S) := by
  intro k
  induction k with
  | zero =>
    intro v1 v2 v3 S hf ok
    cases hf
  | succ k ih =>
    intro v1 v2 v3 S hf ok
    unfold fX12_worked_8 at hf
    obtain ⟨hok, hf⟩ := grd_ex hf
    refine msegT C kX12_worked 6 10 (g := ((kI 195 v1 && (kO 187 12 && true)), (if (((320 : Int32) * v1) + (S.1 195 (mIx v1))) ≤ v3 then 164 else 24), [.ref (187), .int v1, .int v2, .int v3], [], mk b S)) rfl hok ?_
    by_cases hc : (((320 : Int32) * v1) + (S.1 195 (mIx v1))) ≤ v3
    · rw [if_pos hc] at hf ⊢
      obtain ⟨hok, hf⟩ := grd_ex hf
      refine msegT C kX12_worked 98 4 (g := ((kI 197 (0 : Int32) && (kO 187 12 && true)), 170, [.ref (187), .int v1, .int v2, .int v3], [.int (S.1 197 (mIx (0 : Int32)))], mk b S)) rfl hok ?_
      cases hf
      exact gret_i C hr hk (kX12_worked _ (List.mem_of_getElem? (i := 102) rfl)).1
    · rw [if_neg hc] at hf ⊢
      obtain ⟨hok, hf⟩ := grd_ex hf
      refine msegT C kX12_worked 16 5 (g := ((kI 193 v3 && (kO 187 12 && true)), (if (S.1 193 (mIx v3)) = 0 then 43 else 33), [.ref (187), .int v1, .int v2, .int v3], [], mk b S)) rfl hok ?_
      by_cases hc : (S.1 193 (mIx v3)) = 0
      · rw [if_pos hc] at hf ⊢
        exact mfor (L' := [.ref (187), .int v1, .int v2, .int v3]) ⟨Or.inr rfl, Or.inr rfl, Or.inr rfl, Or.inr rfl, trivial⟩ (bX12_worked_43 C hr hk ih hf true)
      · rw [if_neg hc] at hf ⊢
        obtain ⟨hok, hf⟩ := grd_ex hf
        refine msegT C kX12_worked 21 6 (g := ((kI 193 v3 && (kO 187 12 && true)), (if (S.1 193 (mIx v3)) = (1 : Int32) then 43 else 84), [.ref (187), .int v1, .int v2, .int v3], [], mk b S)) rfl hok ?_
        by_cases hc : (S.1 193 (mIx v3)) = (1 : Int32)
        · rw [if_pos hc] at hf ⊢
          exact mfor (L' := [.ref (187), .int v1, .int v2, .int v3]) ⟨Or.inr rfl, Or.inr rfl, Or.inr rfl, Or.inr rfl, trivial⟩ (bX12_worked_43 C hr hk ih hf true)
        · rw [if_neg hc] at hf ⊢
          obtain ⟨hok, hf⟩ := grd_ex hf
          refine msegT C kX12_worked 50 6 (g := ((kI 193 v3 && (kO 187 12 && true)), (if (S.1 193 (mIx v3)) = (2 : Int32) then 94 else 124), [.ref (187), .int v1, .int v2, .int v3], [], mk b S)) rfl hok ?_
          by_cases hc : (S.1 193 (mIx v3)) = (2 : Int32)
          · rw [if_pos hc] at hf ⊢
            obtain ⟨hok, hf⟩ := grd_ex hf
            refine msegT C kX12_worked 56 10 (g := ((kO 187 12 && (kO 187 12 && true)), 108, [.ref (187), .int v1, .int v2, .int v3], [.int (v2 - (1 : Int32)), .ref 197, .int (v2 - (1 : Int32)), .ref 197], mk b S)) rfl hok ?_
            obtain ⟨hok, hf⟩ := grd_ex hf
            refine msegT C kX12_worked 66 2 (g := ((kI 197 (v2 - (1 : Int32)) && true), (if (S.1 197 (mIx (v2 - (1 : Int32)))) = 0 then 112 else 116), [.ref (187), .int v1, .int v2, .int v3], [.int (v2 - (1 : Int32)), .ref 197], mk b S)) rfl hok ?_
            by_cases hc : (S.1 197 (mIx (v2 - (1 : Int32)))) = 0
            · rw [if_pos hc] at hf ⊢
              refine msegT C kX12_worked 68 2 (g := (true, 117, [.ref (187), .int v1, .int v2, .int v3], [.int (1 : Int32), .int (v2 - (1 : Int32)), .ref 197], mk b S)) rfl rfl ?_
              exact mfor (L' := [.ref (187), .int v1, .int v2, .int v3]) ⟨Or.inr rfl, Or.inr rfl, Or.inr rfl, Or.inr rfl, trivial⟩ (bX12_worked_117 C hr hk ih hf true)
            · rw [if_neg hc] at hf ⊢
              refine msegT C kX12_worked 70 1 (g := (true, 117, [.ref (187), .int v1, .int v2, .int v3], [.int (0 : Int32), .int (v2 - (1 : Int32)), .ref 197], mk b S)) rfl rfl ?_
              exact mfor (L' := [.ref (187), .int v1, .int v2, .int v3]) ⟨Or.inr rfl, Or.inr rfl, Or.inr rfl, Or.inr rfl, trivial⟩ (bX12_worked_117 C hr hk ih hf true)
          · rw [if_neg hc] at hf ⊢
            refine msegT C kX12_worked 74 1 (g := (true, 127, [.ref (187), .int v1, .int (v2 + (-1 : Int32)), .int v3], [], mk b S)) rfl rfl ?_
            obtain ⟨x2, ex2, hf⟩ := bnd_ex hf
            rw [← ex2]
            obtain ⟨hok, hf⟩ := grd_ex hf
            refine msegT C kX12_worked 75 10 (g := ((kI 194 v3 && (kO 187 12 && (kO 187 12 && true))), 141, [.ref (187), .int v1, .int x2, .int v3], [.ref (187), .int (S.1 194 (mIx v3)), .int (x2 - (1 : Int32)), .ref 197], mk b S)) rfl hok ?_
            obtain ⟨hok, hf⟩ := grd_ex hf
            refine msegT C kX12_worked 85 9 (g := ((kI 197 x2 && (kO 187 12 && (kI 197 (x2 - (1 : Int32)) && (kO 187 12 && true)))), 154, [.ref (187), .int v1, .int x2, .int v3], [.int (S.1 197 (mIx x2)), .int (S.1 197 (mIx (x2 - (1 : Int32)))), .int (S.1 194 (mIx v3)), .int (x2 - (1 : Int32)), .ref 197], mk b S)) rfl hok ?_
            obtain ⟨x4, S3, hq, hf⟩ := bndC_ex hf
            refine mcall (kd := 1) (vs := [.int (S.1 194 (mIx v3)), .int (S.1 197 (mIx (x2 - (1 : Int32)))), .int (S.1 197 (mIx x2))]) (rest := [.int (x2 - (1 : Int32)), .ref 197]) (r := (some (.int x4))) (h' := mk b S3) (ok' := true) C lkRX12_311 (qX12_done hq) (kX12_worked _ (List.mem_of_getElem? (i := 94) rfl)).1 rfl (Nat.le_of_ble_eq_true rfl) (Nat.le_of_ble_eq_true rfl) (Nat.le_refl _) (Nat.le_refl _) (Nat.le_of_ble_eq_true rfl) ?_
            obtain ⟨hok, hf⟩ := grd_ex hf
            refine msegT C kX12_worked 95 1 (g := ((kI 197 (x2 - (1 : Int32)) && true), 158, [.ref (187), .int v1, .int x2, .int v3], [], mk b (sI S3 197 (mIx (x2 - (1 : Int32))) x4))) rfl hok ?_
            obtain ⟨S5, eS5, hf⟩ := bnd_ex hf
            rw [← eS5]
            exact mfor (L' := [.ref (187), .int v1, .int x2, .int v3]) ⟨Or.inr rfl, Or.inr rfl, Or.inr rfl, Or.inr rfl, trivial⟩ (bX12_worked_158 C hr hk ih hf true)
theorem bX12_worked_0 (C : mCx p (mR 3) s m args meth c G cX12_worked RX12 4 false 233 54500 233 54500) (hr : meth.sig.returnType = (some .int)) (hk : meth.locks = false) {b : Bool} {S' : mT} {r : Int32} {v1 : Int32} {S : mT} (hf : fX12_worked v1 S = some (r, S')) (ok : Bool) : mW p l e (mR 3) s m args below meth c G 4 233 54500 (mQ below G args s b S' (some (.int r))) (ok, 0, [.ref (187), .int v1, .retAddr 0, .retAddr 0], [], mk b S) := by
  unfold fX12_worked at hf
  refine msegT C kX12_worked 0 6 (g := (true, 8, [.ref (187), .int v1, .int (0 : Int32), .int ((320 : Int32) * v1)], [], mk b S)) rfl rfl ?_
  obtain ⟨x1, ex1, hf⟩ := bnd_ex hf
  rw [← ex1]
  exact mfor (L' := [.ref (187), .int v1, .int (0 : Int32), .int x1]) ⟨Or.inr rfl, Or.inr rfl, Or.inr rfl, Or.inr rfl, trivial⟩ (bX12_worked_8 C hr hk _ _ _ _ _ hf true)
theorem qX12_worked {b : Bool} {v1 : Int32} {S S' : mT} {r : Int32} (hf : fX12_worked v1 S = some (r, S')) : mOk l mX12_worked 3 [.ref (187), .int v1] b S (some (.int r)) S' :=
  gMet (by decide) (Nat.le_of_ble_eq_true rfl) rfl (Nat.le_of_ble_eq_true rfl) (fun p e s m args below meth c G C hr hk => bX12_worked_0 C hr hk hf true)
theorem bX12_stonesOf_70 (C : mCx p (mR 4) s m args meth c G cX12_stonesOf RX12 2 false 233 54500 233 54500) (hr : meth.sig.returnType = (some .int)) (hk : meth.locks = false) {b : Bool} {S' : mT} {r : Int32} {s0 : Int32} {S : mT} (hf : fX12_stonesOf_70 s0 S = some (r, S')) (ok : Bool) : mW p l e (mR 4) s m args below meth c G 2 233 54500 (mQ below G args s b S' (some (.int r))) (ok, 70, [.retAddr 0, .retAddr 0], [.int s0], mk b S) := by
  unfold fX12_stonesOf_70 at hf
  refine msegT C kX12_stonesOf 44 2 (g := (true, 73, [.retAddr 0, .retAddr 0], [.int (99 : Int32), .int (0 : Int32), .int s0], mk b S)) rfl rfl ?_
  obtain ⟨x5, S4, hq, hf⟩ := bndC_ex hf
  refine mcall (kd := 1) (vs := [.int s0, .int (0 : Int32), .int (99 : Int32)]) (rest := []) (r := (some (.int x5))) (h' := mk b S4) (ok' := true) C lkRX12_379 (qX12_bound hq) (kX12_stonesOf _ (List.mem_of_getElem? (i := 46) rfl)).1 rfl (Nat.le_of_ble_eq_true rfl) (Nat.le_of_ble_eq_true rfl) (Nat.le_refl _) (Nat.le_refl _) (Nat.le_of_ble_eq_true rfl) ?_
  cases hf
  exact gret_i C hr hk (kX12_stonesOf _ (List.mem_of_getElem? (i := 47) rfl)).1
theorem bX12_stonesOf_0 (C : mCx p (mR 4) s m args meth c G cX12_stonesOf RX12 2 false 233 54500 233 54500) (hr : meth.sig.returnType = (some .int)) (hk : meth.locks = false) {b : Bool} {S' : mT} {r : Int32} {v1 : Int32} {S : mT} (hf : fX12_stonesOf v1 S = some (r, S')) (ok : Bool) : mW p l e (mR 4) s m args below meth c G 2 233 54500 (mQ below G args s b S' (some (.int r))) (ok, 0, [.ref (187), .int v1], [], mk b S) := by
  unfold fX12_stonesOf at hf
  obtain ⟨hok, hf⟩ := grd_ex hf
  refine msegT C kX12_stonesOf 0 10 (g := ((kI 210 v1 && (kO 187 12 && (kI 209 v1 && (kO 187 12 && true)))), 14, [.ref (187), .int v1], [.ref (187), .int (S.1 210 (mIx v1)), .int (S.1 209 (mIx v1)), .ref (187)], mk b S)) rfl hok ?_
  obtain ⟨hok, hf⟩ := grd_ex hf
  refine msegT C kX12_stonesOf 10 10 (g := ((kO 187 12 && (kI 207 v1 && (kO 187 12 && (kI 206 v1 && (kO 187 12 && true))))), 30, [.ref (187), .int v1], [.int (S.1 187 43), .int (0 : Int32), .int (S.1 207 (mIx v1)), .int (S.1 206 (mIx v1)), .int (S.1 210 (mIx v1)), .int (S.1 209 (mIx v1)), .ref (187)], mk b S)) rfl hok ?_
  obtain ⟨S1, hq, hf⟩ := bndV_ex hf
  refine mcall (kd := 0) (vs := [.ref (187), .int (S.1 209 (mIx v1)), .int (S.1 210 (mIx v1)), .int (S.1 206 (mIx v1)), .int (S.1 207 (mIx v1)), .int (0 : Int32), .int (S.1 187 43)]) (rest := []) (r := none) (h' := mk b S1) (ok' := true) C lkRX12_372 (qX12_askOf hq) (kX12_stonesOf _ (List.mem_of_getElem? (i := 20) rfl)).1 ⟨_, _, rfl, rfl, Nat.le_of_ble_eq_true rfl, _, _, rfl, rfl, rfl⟩ (Nat.le_of_ble_eq_true rfl) (Nat.le_of_ble_eq_true rfl) (Nat.le_refl _) (Nat.le_refl _) (Nat.le_of_ble_eq_true rfl) ?_
  obtain ⟨hok, hf⟩ := grd_ex hf
  refine msegT C kX12_stonesOf 21 5 (g := ((kB 199 (0 : Int32) && (kO 187 12 && true)), (if (S1.1 199 (mIx (0 : Int32))) = 0 then 50 else 42), [.ref (187), .int v1], [], mk b S1)) rfl hok ?_
  by_cases hc : (S1.1 199 (mIx (0 : Int32))) = 0
  · rw [if_pos hc] at hf ⊢
    obtain ⟨hok, hf⟩ := grd_ex hf
    refine msegT C kX12_stonesOf 30 10 (g := ((kI 210 v1 && (kO 187 12 && (kI 209 v1 && (kO 187 12 && true)))), 64, [.ref (187), .int v1], [.ref (187), .int ((S1.1 209 (mIx v1)) - (S1.1 210 (mIx v1)))], mk b S1)) rfl hok ?_
    obtain ⟨hok, hf⟩ := grd_ex hf
    refine msegT C kX12_stonesOf 40 4 (g := ((kI 207 v1 && (kO 187 12 && true)), 70, [.ref (187), .int v1], [.int (((S1.1 209 (mIx v1)) - (S1.1 210 (mIx v1))) + (S1.1 207 (mIx v1)))], mk b S1)) rfl hok ?_
    exact mfor (L' := [.retAddr 0, .retAddr 0]) ⟨Or.inl rfl, Or.inl rfl, trivial⟩ (bX12_stonesOf_70 C hr hk hf true)
  · rw [if_neg hc] at hf ⊢
    refine msegT C kX12_stonesOf 26 2 (g := (true, 44, [.ref (187), .int v1], [.int (0 : Int32), .ref (187)], mk b S1)) rfl rfl ?_
    obtain ⟨x3, S2, hq, hf⟩ := bndC_ex hf
    refine mcall (kd := 0) (vs := [.ref (187), .int (0 : Int32)]) (rest := []) (r := (some (.int x3))) (h' := mk b S2) (ok' := true) C lkRX12_376 (qX12_worked hq) (kX12_stonesOf _ (List.mem_of_getElem? (i := 28) rfl)).1 ⟨_, _, rfl, rfl, Nat.le_of_ble_eq_true rfl, _, _, rfl, rfl, rfl⟩ (Nat.le_of_ble_eq_true rfl) (Nat.le_of_ble_eq_true rfl) (Nat.le_refl _) (Nat.le_refl _) (Nat.le_of_ble_eq_true rfl) ?_
    refine msegT C kX12_stonesOf 29 1 (g := (true, 70, [.ref (187), .int v1], [.int x3], mk b S2)) rfl rfl ?_
    exact mfor (L' := [.retAddr 0, .retAddr 0]) ⟨Or.inl rfl, Or.inl rfl, trivial⟩ (bX12_stonesOf_70 C hr hk hf true)
theorem qX12_stonesOf {b : Bool} {v1 : Int32} {S S' : mT} {r : Int32} (hf : fX12_stonesOf v1 S = some (r, S')) : mOk l mX12_stonesOf 4 [.ref (187), .int v1] b S (some (.int r)) S' :=
  gMet (by decide) (Nat.le_of_ble_eq_true rfl) rfl (Nat.le_of_ble_eq_true rfl) (fun p e s m args below meth c G C hr hk => bX12_stonesOf_0 C hr hk hf true)
theorem bX12_goSummer_200 (C : mCx p (mR 5) s m args meth c G cX12_goSummer RX12 3 false 233 54500 233 54500) (hr : meth.sig.returnType = none) (hk : meth.locks = false) {b : Bool} {S' : mT} {S : mT} (hf : fX12_goSummer_200 S = some S') (ok : Bool) : mW p l e (mR 5) s m args below meth c G 3 233 54500 (mQ below G args s b S' none) (ok, 200, [.ref (187), .retAddr 0, .retAddr 0], [], mk b S) := by
  unfold fX12_goSummer_200 at hf
  obtain ⟨hok, hf⟩ := grd_ex hf
  refine msegT C kX12_goSummer 118 6 (g := ((kO 187 12 && (kO 187 12 && true)), 210, [.ref (187), .retAddr 0, .retAddr 0], [], mk b (sI S 187 43 ((S.1 187 43) + (1 : Int32))))) rfl hok ?_
  obtain ⟨S19, eS19, hf⟩ := bnd_ex hf
  rw [← eS19]
  cases hf
  exact gret_v C hr hk (kX12_goSummer _ (List.mem_of_getElem? (i := 124) rfl)).1
theorem bX12_goSummer_104 (C : mCx p (mR 5) s m args meth c G cX12_goSummer RX12 3 false 233 54500 233 54500) (hr : meth.sig.returnType = none) (hk : meth.locks = false) {b : Bool} {S' : mT} : ∀ (k : Nat) (v1 : Int32) (S : mT), fX12_goSummer_104 k v1 S = some S' → ∀ ok : Bool, mW p l e (mR 5) s m args below meth c G 3 233 54500 (mQ below G args s b S' none) (ok, 104, [.ref (187), .int v1, .retAddr 0], [], mk b S) := by
  intro k
  induction k with
  | zero =>
    intro v1 S hf ok
    cases hf
  | succ k ih =>
    intro v1 S hf ok
    unfold fX12_goSummer_104 at hf
    obtain ⟨hok, hf⟩ := grd_ex hf
    refine msegT C kX12_goSummer 62 4 (g := ((kO 187 12 && true), (if (S.1 187 37) ≤ v1 then 200 else 112), [.ref (187), .int v1, .retAddr 0], [], mk b S)) rfl hok ?_
    by_cases hc : (S.1 187 37) ≤ v1
    · rw [if_pos hc] at hf ⊢
      exact mfor (L' := [.ref (187), .retAddr 0, .retAddr 0]) ⟨Or.inr rfl, Or.inl rfl, Or.inl rfl, trivial⟩ (bX12_goSummer_200 C hr hk hf true)
    · rw [if_neg hc] at hf ⊢
      obtain ⟨hok, hf⟩ := grd_ex hf
      refine msegT C kX12_goSummer 66 5 (g := ((kB 199 (2 : Int32) && (kO 187 12 && true)), (if (S.1 199 (mIx (2 : Int32))) = 0 then 200 else 121), [.ref (187), .int v1, .retAddr 0], [], mk b S)) rfl hok ?_
      by_cases hc : (S.1 199 (mIx (2 : Int32))) = 0
      · rw [if_pos hc] at hf ⊢
        exact mfor (L' := [.ref (187), .retAddr 0, .retAddr 0]) ⟨Or.inr rfl, Or.inl rfl, Or.inl rfl, trivial⟩ (bX12_goSummer_200 C hr hk hf true)
      · rw [if_neg hc] at hf ⊢
        obtain ⟨hok, hf⟩ := grd_ex hf
        refine msegT C kX12_goSummer 71 10 (g := ((kI 210 v1 && (kO 187 12 && (kI 209 v1 && (kO 187 12 && true)))), 135, [.ref (187), .int v1, .retAddr 0], [.ref (187), .int (S.1 210 (mIx v1)), .int (S.1 209 (mIx v1)), .ref (187)], mk b S)) rfl hok ?_
        obtain ⟨hok, hf⟩ := grd_ex hf
        refine msegT C kX12_goSummer 81 10 (g := ((kO 187 12 && (kI 207 v1 && (kO 187 12 && (kI 206 v1 && (kO 187 12 && true))))), 151, [.ref (187), .int v1, .retAddr 0], [.int v1, .ref 211, .int (S.1 207 (mIx v1)), .int (S.1 206 (mIx v1)), .int (S.1 210 (mIx v1)), .int (S.1 209 (mIx v1)), .ref (187)], mk b S)) rfl hok ?_
        obtain ⟨hok, hf⟩ := grd_ex hf
        refine msegT C kX12_goSummer 91 3 (g := ((kO 187 12 && (kI 211 v1 && true)), 156, [.ref (187), .int v1, .retAddr 0], [.int (S.1 187 43), .int (S.1 211 (mIx v1)), .int (S.1 207 (mIx v1)), .int (S.1 206 (mIx v1)), .int (S.1 210 (mIx v1)), .int (S.1 209 (mIx v1)), .ref (187)], mk b S)) rfl hok ?_
        obtain ⟨S9, hq, hf⟩ := bndV_ex hf
        refine mcall (kd := 0) (vs := [.ref (187), .int (S.1 209 (mIx v1)), .int (S.1 210 (mIx v1)), .int (S.1 206 (mIx v1)), .int (S.1 207 (mIx v1)), .int (S.1 211 (mIx v1)), .int (S.1 187 43)]) (rest := []) (r := none) (h' := mk b S9) (ok' := true) C lkRX12_372 (qX12_askOf hq) (kX12_goSummer _ (List.mem_of_getElem? (i := 94) rfl)).1 ⟨_, _, rfl, rfl, Nat.le_of_ble_eq_true rfl, _, _, rfl, rfl, rfl⟩ (Nat.le_of_ble_eq_true rfl) (Nat.le_of_ble_eq_true rfl) (Nat.le_refl _) (Nat.le_refl _) (Nat.le_of_ble_eq_true rfl) ?_
        obtain ⟨hok, hf⟩ := grd_ex hf
        refine msegT C kX12_goSummer 95 9 (g := ((kI 209 v1 && (kO 187 12 && (kO 187 12 && true))), 172, [.ref (187), .int v1, .retAddr 0], [.int (2 : Int32), .ref (187), .int (S9.1 209 (mIx v1)), .int v1, .ref 209], mk b S9)) rfl hok ?_
        obtain ⟨x11, S10, hq, hf⟩ := bndC_ex hf
        refine mcall (kd := 0) (vs := [.ref (187), .int (2 : Int32)]) (rest := [.int (S9.1 209 (mIx v1)), .int v1, .ref 209]) (r := (some (.int x11))) (h' := mk b S10) (ok' := true) C lkRX12_376 (qX12_worked hq) (kX12_goSummer _ (List.mem_of_getElem? (i := 104) rfl)).1 ⟨_, _, rfl, rfl, Nat.le_of_ble_eq_true rfl, _, _, rfl, rfl, rfl⟩ (Nat.le_of_ble_eq_true rfl) (Nat.le_of_ble_eq_true rfl) (Nat.le_refl _) (Nat.le_refl _) (Nat.le_of_ble_eq_true rfl) ?_
        refine msegT C kX12_goSummer 105 2 (g := (true, 178, [.ref (187), .int v1, .retAddr 0], [.int (3 : Int32), .int (-3 : Int32), .int x11, .int (S9.1 209 (mIx v1)), .int v1, .ref 209], mk b S10)) rfl rfl ?_
        obtain ⟨x13, S12, hq, hf⟩ := bndC_ex hf
        refine mcall (kd := 1) (vs := [.int x11, .int (-3 : Int32), .int (3 : Int32)]) (rest := [.int (S9.1 209 (mIx v1)), .int v1, .ref 209]) (r := (some (.int x13))) (h' := mk b S12) (ok' := true) C lkRX12_379 (qX12_bound hq) (kX12_goSummer _ (List.mem_of_getElem? (i := 107) rfl)).1 rfl (Nat.le_of_ble_eq_true rfl) (Nat.le_of_ble_eq_true rfl) (Nat.le_refl _) (Nat.le_refl _) (Nat.le_of_ble_eq_true rfl) ?_
        refine msegT C kX12_goSummer 108 3 (g := (true, 185, [.ref (187), .int v1, .retAddr 0], [.int (7 : Int32), .int (0 : Int32), .int ((S9.1 209 (mIx v1)) + x13), .int v1, .ref 209], mk b S12)) rfl rfl ?_
        obtain ⟨x15, S14, hq, hf⟩ := bndC_ex hf
        refine mcall (kd := 1) (vs := [.int ((S9.1 209 (mIx v1)) + x13), .int (0 : Int32), .int (7 : Int32)]) (rest := [.int v1, .ref 209]) (r := (some (.int x15))) (h' := mk b S14) (ok' := true) C lkRX12_379 (qX12_bound hq) (kX12_goSummer _ (List.mem_of_getElem? (i := 111) rfl)).1 rfl (Nat.le_of_ble_eq_true rfl) (Nat.le_of_ble_eq_true rfl) (Nat.le_refl _) (Nat.le_refl _) (Nat.le_of_ble_eq_true rfl) ?_
        obtain ⟨hok, hf⟩ := grd_ex hf
        refine msegT C kX12_goSummer 112 1 (g := ((kI 209 v1 && true), 189, [.ref (187), .int v1, .retAddr 0], [], mk b (sI S14 209 (mIx v1) x15))) rfl hok ?_
        obtain ⟨S16, eS16, hf⟩ := bnd_ex hf
        rw [← eS16]
        refine msegT C kX12_goSummer 113 2 (g := (true, 191, [.ref (187), .int v1, .retAddr 0], [.int v1, .ref (187)], mk b S16)) rfl rfl ?_
        obtain ⟨S17, hq, hf⟩ := bndV_ex hf
        refine mcall (kd := 0) (vs := [.ref (187), .int v1]) (rest := []) (r := none) (h' := mk b S17) (ok' := true) C lkRX12_385 (qX12_notMoreHidden hq) (kX12_goSummer _ (List.mem_of_getElem? (i := 115) rfl)).1 ⟨_, _, rfl, rfl, Nat.le_of_ble_eq_true rfl, _, _, rfl, rfl, rfl⟩ (Nat.le_of_ble_eq_true rfl) (Nat.le_of_ble_eq_true rfl) (Nat.le_refl _) (Nat.le_refl _) (Nat.le_of_ble_eq_true rfl) ?_
        refine msegT C kX12_goSummer 116 1 (g := (true, 197, [.ref (187), .int (v1 + (1 : Int32)), .retAddr 0], [], mk b S17)) rfl rfl ?_
        obtain ⟨x18, ex18, hf⟩ := bnd_ex hf
        rw [← ex18]
        refine msegT C kX12_goSummer 117 1 (g := (true, 104, [.ref (187), .int x18, .retAddr 0], [], mk b S17)) rfl rfl ?_
        exact mfor (L' := [.ref (187), .int x18, .retAddr 0]) ⟨Or.inr rfl, Or.inr rfl, Or.inl rfl, trivial⟩ (ih _ _ hf true)
theorem bX12_goSummer_102 (C : mCx p (mR 5) s m args meth c G cX12_goSummer RX12 3 false 233 54500 233 54500) (hr : meth.sig.returnType = none) (hk : meth.locks = false) {b : Bool} {S' : mT} {S : mT} (hf : fX12_goSummer_102 S = some S') (ok : Bool) : mW p l e (mR 5) s m args below meth c G 3 233 54500 (mQ below G args s b S' none) (ok, 102, [.ref (187), .retAddr 0, .retAddr 0], [], mk b S) := by
  unfold fX12_goSummer_102 at hf
  refine msegT C kX12_goSummer 60 2 (g := (true, 104, [.ref (187), .int (0 : Int32), .retAddr 0], [], mk b S)) rfl rfl ?_
  exact mfor (L' := [.ref (187), .int (0 : Int32), .retAddr 0]) ⟨Or.inr rfl, Or.inr rfl, Or.inl rfl, trivial⟩ (bX12_goSummer_104 C hr hk _ _ _ hf true)
theorem bX12_goSummer_100 (C : mCx p (mR 5) s m args meth c G cX12_goSummer RX12 3 false 233 54500 233 54500) (hr : meth.sig.returnType = none) (hk : meth.locks = false) {b : Bool} {S' : mT} {s0 : Int32} {s1 : Int32} {s2 : Int32} {S : mT} (hf : fX12_goSummer_100 s0 s1 s2 S = some S') (ok : Bool) : mW p l e (mR 5) s m args below meth c G 3 233 54500 (mQ below G args s b S' none) (ok, 100, [.ref (187), .retAddr 0, .retAddr 0], [.int s0, .int s1, .int s2, .ref 211], mk b S) := by
  unfold fX12_goSummer_100 at hf
  obtain ⟨hok, hf⟩ := grd_ex hf
  refine msegT C kX12_goSummer 58 2 (g := ((kI 211 s2 && true), 102, [.ref (187), .retAddr 0, .retAddr 0], [], mk b (sI S 211 (mIx s2) (s1 - s0)))) rfl hok ?_
  obtain ⟨S8, eS8, hf⟩ := bnd_ex hf
  rw [← eS8]
  exact mfor (L' := [.ref (187), .retAddr 0, .retAddr 0]) ⟨Or.inr rfl, Or.inl rfl, Or.inl rfl, trivial⟩ (bX12_goSummer_102 C hr hk hf true)
theorem bX12_goSummer_2 (C : mCx p (mR 5) s m args meth c G cX12_goSummer RX12 3 false 233 54500 233 54500) (hr : meth.sig.returnType = none) (hk : meth.locks = false) {b : Bool} {S' : mT} : ∀ (k : Nat) (v1 : Int32) (S : mT), fX12_goSummer_2 k v1 S = some S' → ∀ ok : Bool, mW p l e (mR 5) s m args below meth c G 3 233 54500 (mQ below G args s b S' none) (ok, 2, [.ref (187), .int v1, .retAddr 0], [], mk b S) := by
  intro k
  induction k with
  | zero =>
    intro v1 S hf ok
    cases hf
  | succ k ih =>
    intro v1 S hf ok
    unfold fX12_goSummer_2 at hf
    obtain ⟨hok, hf⟩ := grd_ex hf
    refine msegT C kX12_goSummer 2 4 (g := ((kO 187 12 && true), (if (S.1 187 37) ≤ v1 then 27 else 10), [.ref (187), .int v1, .retAddr 0], [], mk b S)) rfl hok ?_
    by_cases hc : (S.1 187 37) ≤ v1
    · rw [if_pos hc] at hf ⊢
      obtain ⟨hok, hf⟩ := grd_ex hf
      refine msegT C kX12_goSummer 15 10 (g := ((kO 187 12 && (decide (¬ (1000 : Int32) = 0) && (kO 187 12 && true))), 46, [.ref (187), .int v1, .retAddr 0], [], mk b (sI S 187 44 ((((S.1 187 44) * (137 : Int32)) + (71 : Int32)) - (((S.1 187 44) * (137 : Int32)) + (71 : Int32)) / (1000 : Int32) * (1000 : Int32))))) rfl hok ?_
      obtain ⟨S1, eS1, hf⟩ := bnd_ex hf
      rw [← eS1]
      obtain ⟨hok, hf⟩ := grd_ex hf
      refine msegT C kX12_goSummer 25 3 (g := ((kO 187 12 && true), (if (S1.1 187 37) ≤ 0 then 102 else 53), [.ref (187), .int v1, .retAddr 0], [], mk b S1)) rfl hok ?_
      by_cases hc : (S1.1 187 37) ≤ 0
      · rw [if_pos hc] at hf ⊢
        exact mfor (L' := [.ref (187), .retAddr 0, .retAddr 0]) ⟨Or.inr rfl, Or.inl rfl, Or.inl rfl, trivial⟩ (bX12_goSummer_102 C hr hk hf true)
      · rw [if_neg hc] at hf ⊢
        obtain ⟨hok, hf⟩ := grd_ex hf
        refine msegT C kX12_goSummer 28 6 (g := ((decide (¬ (S1.1 187 37) = 0) && (kO 187 12 && (kO 187 12 && true))), 63, [.ref (187), .int ((S1.1 187 44) - (S1.1 187 44) / (S1.1 187 37) * (S1.1 187 37)), .retAddr 0], [], mk b S1)) rfl hok ?_
        obtain ⟨x2, ex2, hf⟩ := bnd_ex hf
        rw [← ex2]
        obtain ⟨hok, hf⟩ := grd_ex hf
        refine msegT C kX12_goSummer 34 7 (g := ((decide (¬ (3 : Int32) = 0) && (decide (¬ (100 : Int32) = 0) && (kO 187 12 && true))), 73, [.ref (187), .int x2, .int (((S1.1 187 44) / (100 : Int32)) - ((S1.1 187 44) / (100 : Int32)) / (3 : Int32) * (3 : Int32))], [], mk b S1)) rfl hok ?_
        obtain ⟨x3, ex3, hf⟩ := bnd_ex hf
        rw [← ex3]
        obtain ⟨hok, hf⟩ := grd_ex hf
        refine msegT C kX12_goSummer 41 10 (g := ((kI 211 x2 && (kO 187 12 && (kI 211 x2 && (kO 187 12 && true)))), 87, [.ref (187), .int x2, .int x3], [.int (S1.1 211 (mIx x2)), .int x3, .int (S1.1 211 (mIx x2)), .int x2, .ref 211], mk b S1)) rfl hok ?_
        refine msegT C kX12_goSummer 51 1 (g := (true, (if x3 ≤ (S1.1 211 (mIx x2)) then 99 else 90), [.ref (187), .int x2, .int x3], [.int (S1.1 211 (mIx x2)), .int x2, .ref 211], mk b S1)) rfl rfl ?_
        by_cases hc : x3 ≤ (S1.1 211 (mIx x2))
        · rw [if_pos hc] at hf ⊢
          refine msegT C kX12_goSummer 57 1 (g := (true, 100, [.ref (187), .int x2, .int x3], [.int x3, .int (S1.1 211 (mIx x2)), .int x2, .ref 211], mk b S1)) rfl rfl ?_
          exact mfor (L' := [.ref (187), .retAddr 0, .retAddr 0]) ⟨Or.inr rfl, Or.inl rfl, Or.inl rfl, trivial⟩ (bX12_goSummer_100 C hr hk hf true)
        · rw [if_neg hc] at hf ⊢
          obtain ⟨hok, hf⟩ := grd_ex hf
          refine msegT C kX12_goSummer 52 5 (g := ((kI 211 x2 && (kO 187 12 && true)), 100, [.ref (187), .int x2, .int x3], [.int (S1.1 211 (mIx x2)), .int (S1.1 211 (mIx x2)), .int x2, .ref 211], mk b S1)) rfl hok ?_
          exact mfor (L' := [.ref (187), .retAddr 0, .retAddr 0]) ⟨Or.inr rfl, Or.inl rfl, Or.inl rfl, trivial⟩ (bX12_goSummer_100 C hr hk hf true)
    · rw [if_neg hc] at hf ⊢
      obtain ⟨hok, hf⟩ := grd_ex hf
      refine msegT C kX12_goSummer 6 5 (g := ((kO 187 12 && true), 17, [.ref (187), .int v1, .retAddr 0], [.int v1, .ref (187), .int v1, .ref 211], mk b S)) rfl hok ?_
      obtain ⟨x5, S4, hq, hf⟩ := bndC_ex hf
      refine mcall (kd := 0) (vs := [.ref (187), .int v1]) (rest := [.int v1, .ref 211]) (r := (some (.int x5))) (h' := mk b S4) (ok' := true) C lkRX12_382 (qX12_stonesOf hq) (kX12_goSummer _ (List.mem_of_getElem? (i := 11) rfl)).1 ⟨_, _, rfl, rfl, Nat.le_of_ble_eq_true rfl, _, _, rfl, rfl, rfl⟩ (Nat.le_of_ble_eq_true rfl) (Nat.le_of_ble_eq_true rfl) (Nat.le_refl _) (Nat.le_refl _) (Nat.le_of_ble_eq_true rfl) ?_
      obtain ⟨hok, hf⟩ := grd_ex hf
      refine msegT C kX12_goSummer 12 1 (g := ((kI 211 v1 && true), 21, [.ref (187), .int v1, .retAddr 0], [], mk b (sI S4 211 (mIx v1) x5))) rfl hok ?_
      obtain ⟨S6, eS6, hf⟩ := bnd_ex hf
      rw [← eS6]
      refine msegT C kX12_goSummer 13 1 (g := (true, 24, [.ref (187), .int (v1 + (1 : Int32)), .retAddr 0], [], mk b S6)) rfl rfl ?_
      obtain ⟨x7, ex7, hf⟩ := bnd_ex hf
      rw [← ex7]
      refine msegT C kX12_goSummer 14 1 (g := (true, 2, [.ref (187), .int x7, .retAddr 0], [], mk b S6)) rfl rfl ?_
      exact mfor (L' := [.ref (187), .int x7, .retAddr 0]) ⟨Or.inr rfl, Or.inr rfl, Or.inl rfl, trivial⟩ (ih _ _ hf true)
theorem bX12_goSummer_0 (C : mCx p (mR 5) s m args meth c G cX12_goSummer RX12 3 false 233 54500 233 54500) (hr : meth.sig.returnType = none) (hk : meth.locks = false) {b : Bool} {S' : mT} {S : mT} (hf : fX12_goSummer S = some S') (ok : Bool) : mW p l e (mR 5) s m args below meth c G 3 233 54500 (mQ below G args s b S' none) (ok, 0, [.ref (187), .retAddr 0, .retAddr 0], [], mk b S) := by
  unfold fX12_goSummer at hf
  refine msegT C kX12_goSummer 0 2 (g := (true, 2, [.ref (187), .int (0 : Int32), .retAddr 0], [], mk b S)) rfl rfl ?_
  exact mfor (L' := [.ref (187), .int (0 : Int32), .retAddr 0]) ⟨Or.inr rfl, Or.inr rfl, Or.inl rfl, trivial⟩ (bX12_goSummer_2 C hr hk _ _ _ hf true)
theorem qX12_goSummer {b : Bool} {S S' : mT} (hf : fX12_goSummer S = some S') : mOk l mX12_goSummer 5 [.ref (187)] b S none S' :=
  gMet (by decide) (Nat.le_of_ble_eq_true rfl) rfl (Nat.le_of_ble_eq_true rfl) (fun p e s m args below meth c G C hr hk => bX12_goSummer_0 C hr hk hf true)
theorem bX12_load_2 (C : mCx p (mR 1) s m args meth c G cX12_load RX12 2 false 233 54500 233 54500) (hr : meth.sig.returnType = none) (hk : meth.locks = false) {b : Bool} {S' : mT} : ∀ (k : Nat) (v1 : Int32) (S : mT), fX12_load_2 k v1 S = some S' → ∀ ok : Bool, mW p l e (mR 1) s m args below meth c G 2 233 54500 (mQ below G args s b S' none) (ok, 2, [.ref (187), .int v1], [], mk b S) := by
  intro k
  induction k with
  | zero =>
    intro v1 S hf ok
    cases hf
  | succ k ih =>
    intro v1 S hf ok
    unfold fX12_load_2 at hf
    refine msegT C kX12_load 2 3 (g := (true, (if (5 : Int32) ≤ v1 then 54 else 7), [.ref (187), .int v1], [], mk b S)) rfl rfl ?_
    by_cases hc : (5 : Int32) ≤ v1
    · rw [if_pos hc] at hf ⊢
      obtain ⟨hok, hf⟩ := grd_ex hf
      refine msegT C kX12_load 35 6 (g := ((kO 187 12 && (kI 208 (15 : Int32) && (kO 187 12 && true))), 65, [.ref (187), .int v1], [], mk b (sI S 187 43 (S.1 208 (mIx (15 : Int32)))))) rfl hok ?_
      obtain ⟨S1, eS1, hf⟩ := bnd_ex hf
      rw [← eS1]
      obtain ⟨hok, hf⟩ := grd_ex hf
      refine msegT C kX12_load 41 6 (g := ((kO 187 12 && (kI 208 (16 : Int32) && (kO 187 12 && true))), 76, [.ref (187), .int v1], [], mk b (sI S1 187 44 (S1.1 208 (mIx (16 : Int32)))))) rfl hok ?_
      obtain ⟨S2, eS2, hf⟩ := bnd_ex hf
      rw [← eS2]
      cases hf
      exact gret_v C hr hk (kX12_load _ (List.mem_of_getElem? (i := 47) rfl)).1
    · rw [if_neg hc] at hf ⊢
      obtain ⟨hok, hf⟩ := grd_ex hf
      refine msegT C kX12_load 5 8 (g := ((kI 209 v1 && (kI 208 v1 && (kO 187 12 && (kO 187 12 && true)))), 19, [.ref (187), .int v1], [], mk b (sI S 209 (mIx v1) (S.1 208 (mIx v1))))) rfl hok ?_
      obtain ⟨S3, eS3, hf⟩ := bnd_ex hf
      rw [← eS3]
      obtain ⟨hok, hf⟩ := grd_ex hf
      refine msegT C kX12_load 13 10 (g := ((kI 210 v1 && (kI 208 ((5 : Int32) + v1) && (kO 187 12 && (kO 187 12 && true)))), 33, [.ref (187), .int v1], [], mk b (sI S3 210 (mIx v1) (S3.1 208 (mIx ((5 : Int32) + v1)))))) rfl hok ?_
      obtain ⟨S4, eS4, hf⟩ := bnd_ex hf
      rw [← eS4]
      obtain ⟨hok, hf⟩ := grd_ex hf
      refine msegT C kX12_load 23 10 (g := ((kI 211 v1 && (kI 208 ((10 : Int32) + v1) && (kO 187 12 && (kO 187 12 && true)))), 48, [.ref (187), .int v1], [], mk b (sI S4 211 (mIx v1) (S4.1 208 (mIx ((10 : Int32) + v1)))))) rfl hok ?_
      obtain ⟨S5, eS5, hf⟩ := bnd_ex hf
      rw [← eS5]
      refine msegT C kX12_load 33 1 (g := (true, 51, [.ref (187), .int (v1 + (1 : Int32))], [], mk b S5)) rfl rfl ?_
      obtain ⟨x6, ex6, hf⟩ := bnd_ex hf
      rw [← ex6]
      refine msegT C kX12_load 34 1 (g := (true, 2, [.ref (187), .int x6], [], mk b S5)) rfl rfl ?_
      exact mfor (L' := [.ref (187), .int x6]) ⟨Or.inr rfl, Or.inr rfl, trivial⟩ (ih _ _ hf true)
theorem bX12_load_0 (C : mCx p (mR 1) s m args meth c G cX12_load RX12 2 false 233 54500 233 54500) (hr : meth.sig.returnType = none) (hk : meth.locks = false) {b : Bool} {S' : mT} {S : mT} (hf : fX12_load S = some S') (ok : Bool) : mW p l e (mR 1) s m args below meth c G 2 233 54500 (mQ below G args s b S' none) (ok, 0, [.ref (187), .retAddr 0], [], mk b S) := by
  unfold fX12_load at hf
  refine msegT C kX12_load 0 2 (g := (true, 2, [.ref (187), .int (0 : Int32)], [], mk b S)) rfl rfl ?_
  exact mfor (L' := [.ref (187), .int (0 : Int32)]) ⟨Or.inr rfl, Or.inr rfl, trivial⟩ (bX12_load_2 C hr hk _ _ _ hf true)
theorem qX12_load {b : Bool} {S S' : mT} (hf : fX12_load S = some S') : mOk l mX12_load 1 [.ref (187)] b S none S' :=
  gMet (by decide) (Nat.le_of_ble_eq_true rfl) rfl (Nat.le_of_ble_eq_true rfl) (fun p e s m args below meth c G C hr hk => bX12_load_0 C hr hk hf true)
theorem bX12_goFar_6 (C : mCx p (mR 6) s m args meth c G cX12_goFar RX12 3 false 233 54500 233 54500) (hr : meth.sig.returnType = none) (hk : meth.locks = false) {b : Bool} {S' : mT} : ∀ (k : Nat) (v1 : Int32) (v2 : Int32) (S : mT), fX12_goFar_6 k v1 v2 S = some S' → ∀ ok : Bool, mW p l e (mR 6) s m args below meth c G 3 233 54500 (mQ below G args s b S' none) (ok, 6, [.ref (187), .int v1, .int v2], [], mk b S) := by
  intro k
  induction k with
  | zero =>
    intro v1 v2 S hf ok
    cases hf
  | succ k ih =>
    intro v1 v2 S hf ok
    unfold fX12_goFar_6 at hf
    refine msegT C kX12_goFar 4 3 (g := (true, (if v1 ≤ v2 then 21 else 11), [.ref (187), .int v1, .int v2], [], mk b S)) rfl rfl ?_
    by_cases hc : v1 ≤ v2
    · rw [if_pos hc] at hf ⊢
      cases hf
      exact gret_v C hr hk (kX12_goFar _ (List.mem_of_getElem? (i := 11) rfl)).1
    · rw [if_neg hc] at hf ⊢
      refine msegT C kX12_goFar 7 1 (g := (true, 12, [.ref (187), .int v1, .int v2], [.ref (187)], mk b S)) rfl rfl ?_
      obtain ⟨S2, hq, hf⟩ := bndV_ex hf
      refine mcall (kd := 0) (vs := [.ref (187)]) (rest := []) (r := none) (h' := mk b S2) (ok' := true) C lkRX12_412 (qX12_goSummer hq) (kX12_goFar _ (List.mem_of_getElem? (i := 8) rfl)).1 ⟨_, _, rfl, rfl, Nat.le_of_ble_eq_true rfl, _, _, rfl, rfl, rfl⟩ (Nat.le_of_ble_eq_true rfl) (Nat.le_of_ble_eq_true rfl) (Nat.le_refl _) (Nat.le_refl _) (Nat.le_of_ble_eq_true rfl) ?_
      refine msegT C kX12_goFar 9 1 (g := (true, 18, [.ref (187), .int v1, .int (v2 + (1 : Int32))], [], mk b S2)) rfl rfl ?_
      obtain ⟨x3, ex3, hf⟩ := bnd_ex hf
      rw [← ex3]
      refine msegT C kX12_goFar 10 1 (g := (true, 6, [.ref (187), .int v1, .int x3], [], mk b S2)) rfl rfl ?_
      exact mfor (L' := [.ref (187), .int v1, .int x3]) ⟨Or.inr rfl, Or.inr rfl, Or.inr rfl, trivial⟩ (ih _ _ _ hf true)
theorem bX12_goFar_0 (C : mCx p (mR 6) s m args meth c G cX12_goFar RX12 3 false 233 54500 233 54500) (hr : meth.sig.returnType = none) (hk : meth.locks = false) {b : Bool} {S' : mT} {v1 : Int32} {S : mT} (hf : fX12_goFar v1 S = some S') (ok : Bool) : mW p l e (mR 6) s m args below meth c G 3 233 54500 (mQ below G args s b S' none) (ok, 0, [.ref (187), .int v1, .retAddr 0], [], mk b S) := by
  unfold fX12_goFar at hf
  refine msegT C kX12_goFar 0 1 (g := (true, 1, [.ref (187), .int v1, .retAddr 0], [.ref (187)], mk b S)) rfl rfl ?_
  obtain ⟨S1, hq, hf⟩ := bndV_ex hf
  refine mcall (kd := 0) (vs := [.ref (187)]) (rest := []) (r := none) (h' := mk b S1) (ok' := true) C lkRX12_391 (qX12_load hq) (kX12_goFar _ (List.mem_of_getElem? (i := 1) rfl)).1 ⟨_, _, rfl, rfl, Nat.le_of_ble_eq_true rfl, _, _, rfl, rfl, rfl⟩ (Nat.le_of_ble_eq_true rfl) (Nat.le_of_ble_eq_true rfl) (Nat.le_refl _) (Nat.le_refl _) (Nat.le_of_ble_eq_true rfl) ?_
  refine msegT C kX12_goFar 2 2 (g := (true, 6, [.ref (187), .int v1, .int (0 : Int32)], [], mk b S1)) rfl rfl ?_
  exact mfor (L' := [.ref (187), .int v1, .int (0 : Int32)]) ⟨Or.inr rfl, Or.inr rfl, Or.inr rfl, trivial⟩ (bX12_goFar_6 C hr hk _ _ _ _ hf true)
theorem qX12_goFar {b : Bool} {v1 : Int32} {S S' : mT} (hf : fX12_goFar v1 S = some S') : mOk l mX12_goFar 6 [.ref (187), .int v1] b S none S' :=
  gMet (by decide) (Nat.le_of_ble_eq_true rfl) rfl (Nat.le_of_ble_eq_true rfl) (fun p e s m args below meth c G C hr hk => bX12_goFar_0 C hr hk hf true)
theorem bX12_isIn_15 (C : mCx p (mR 1) s m args meth c G cX12_isIn RX12 3 false 233 54500 233 54500) (hr : meth.sig.returnType = (some .boolean)) (hk : meth.locks = false) {b : Bool} {S' : mT} {r : Int32} {s0 : Int32} {S : mT} (hf : fX12_isIn_15 s0 S = some (r, S')) (ok : Bool) : mW p l e (mR 1) s m args below meth c G 3 233 54500 (mQ below G args s b S' (some (.int r))) (ok, 15, [.retAddr 0, .retAddr 0, .retAddr 0], [.int s0], mk b S) := by
  unfold fX12_isIn_15 at hf
  obtain ⟨hz, hf⟩ := grd_ex hf
  cases hf
  exact gret_z C hr hk (mFit_nar hz) (kX12_isIn _ (List.mem_of_getElem? (i := 9) rfl)).1
theorem bX12_isIn_14 (C : mCx p (mR 1) s m args meth c G cX12_isIn RX12 3 false 233 54500 233 54500) (hr : meth.sig.returnType = (some .boolean)) (hk : meth.locks = false) {b : Bool} {S' : mT} {r : Int32} {S : mT} (hf : fX12_isIn_14 S = some (r, S')) (ok : Bool) : mW p l e (mR 1) s m args below meth c G 3 233 54500 (mQ below G args s b S' (some (.int r))) (ok, 14, [.retAddr 0, .retAddr 0, .retAddr 0], [], mk b S) := by
  unfold fX12_isIn_14 at hf
  refine msegT C kX12_isIn 8 1 (g := (true, 15, [.retAddr 0, .retAddr 0, .retAddr 0], [.int (0 : Int32)], mk b S)) rfl rfl ?_
  exact mfor (L' := [.retAddr 0, .retAddr 0, .retAddr 0]) ⟨Or.inl rfl, Or.inl rfl, Or.inl rfl, trivial⟩ (bX12_isIn_15 C hr hk hf true)
theorem bX12_isIn_0 (C : mCx p (mR 1) s m args meth c G cX12_isIn RX12 3 false 233 54500 233 54500) (hr : meth.sig.returnType = (some .boolean)) (hk : meth.locks = false) {b : Bool} {S' : mT} {r : Int32} {v0 : Int32} {v1 : Int32} {v2 : Int32} {S : mT} (hf : fX12_isIn v0 v1 v2 S = some (r, S')) (ok : Bool) : mW p l e (mR 1) s m args below meth c G 3 233 54500 (mQ below G args s b S' (some (.int r))) (ok, 0, [.int v0, .int v1, .int v2], [], mk b S) := by
  unfold fX12_isIn at hf
  refine msegT C kX12_isIn 0 3 (g := (true, (if v0 < v1 then 14 else 5), [.int v0, .int v1, .int v2], [], mk b S)) rfl rfl ?_
  by_cases hc : v0 < v1
  · rw [if_pos hc] at hf ⊢
    exact mfor (L' := [.retAddr 0, .retAddr 0, .retAddr 0]) ⟨Or.inl rfl, Or.inl rfl, Or.inl rfl, trivial⟩ (bX12_isIn_14 C hr hk hf true)
  · rw [if_neg hc] at hf ⊢
    refine msegT C kX12_isIn 3 3 (g := (true, (if v2 < v0 then 14 else 10), [.int v0, .int v1, .int v2], [], mk b S)) rfl rfl ?_
    by_cases hc : v2 < v0
    · rw [if_pos hc] at hf ⊢
      exact mfor (L' := [.retAddr 0, .retAddr 0, .retAddr 0]) ⟨Or.inl rfl, Or.inl rfl, Or.inl rfl, trivial⟩ (bX12_isIn_14 C hr hk hf true)
    · rw [if_neg hc] at hf ⊢
      refine msegT C kX12_isIn 6 2 (g := (true, 15, [.int v0, .int v1, .int v2], [.int (1 : Int32)], mk b S)) rfl rfl ?_
      exact mfor (L' := [.retAddr 0, .retAddr 0, .retAddr 0]) ⟨Or.inl rfl, Or.inl rfl, Or.inl rfl, trivial⟩ (bX12_isIn_15 C hr hk hf true)
theorem qX12_isIn {b : Bool} {v0 : Int32} {v1 : Int32} {v2 : Int32} {S S' : mT} {r : Int32} (hf : fX12_isIn v0 v1 v2 S = some (r, S')) : mOk l mX12_isIn 1 [.int v0, .int v1, .int v2] b S (some (.int r)) S' :=
  gMet (by decide) (Nat.le_of_ble_eq_true rfl) rfl (Nat.le_of_ble_eq_true rfl) (fun p e s m args below meth c G C hr hk => bX12_isIn_0 C hr hk hf true)
theorem bX12_bowls_0 (C : mCx p (mR 7) s m args meth c G cX12_bowls RX12 2 false 233 54500 233 54500) (hr : meth.sig.returnType = (some .int)) (hk : meth.locks = false) {b : Bool} {S' : mT} {r : Int32} {v1 : Int32} {S : mT} (hf : fX12_bowls v1 S = some (r, S')) (ok : Bool) : mW p l e (mR 7) s m args below meth c G 2 233 54500 (mQ below G args s b S' (some (.int r))) (ok, 0, [.ref (187), .int v1], [], mk b S) := by
  unfold fX12_bowls at hf
  refine msegT C kX12_bowls 0 3 (g := (true, 4, [.ref (187), .int v1], [.int (60 : Int32), .int (0 : Int32), .int v1], mk b S)) rfl rfl ?_
  obtain ⟨x2, S1, hq, hf⟩ := bndC_ex hf
  refine mcall (kd := 1) (vs := [.int v1, .int (0 : Int32), .int (60 : Int32)]) (rest := []) (r := (some (.int x2))) (h' := mk b S1) (ok' := true) C lkRX12_362 (qX12_isIn hq) (kX12_bowls _ (List.mem_of_getElem? (i := 3) rfl)).1 rfl (Nat.le_of_ble_eq_true rfl) (Nat.le_of_ble_eq_true rfl) (Nat.le_refl _) (Nat.le_refl _) (Nat.le_of_ble_eq_true rfl) ?_
  refine msegT C kX12_bowls 4 1 (g := (true, (if x2 = 0 then 10 else 12), [.ref (187), .int v1], [], mk b S1)) rfl rfl ?_
  by_cases hc : x2 = 0
  · rw [if_pos hc] at hf ⊢
    refine msegT C kX12_bowls 5 1 (g := (true, 11, [.ref (187), .int v1], [.int (-1 : Int32)], mk b S1)) rfl rfl ?_
    cases hf
    exact gret_i C hr hk (kX12_bowls _ (List.mem_of_getElem? (i := 6) rfl)).1
  · rw [if_neg hc] at hf ⊢
    refine msegT C kX12_bowls 7 2 (g := (true, 14, [.ref (187), .int v1], [.int v1, .ref (187)], mk b S1)) rfl rfl ?_
    obtain ⟨S3, hq, hf⟩ := bndV_ex hf
    refine mcall (kd := 0) (vs := [.ref (187), .int v1]) (rest := []) (r := none) (h' := mk b S3) (ok' := true) C lkRX12_421 (qX12_goFar hq) (kX12_bowls _ (List.mem_of_getElem? (i := 9) rfl)).1 ⟨_, _, rfl, rfl, Nat.le_of_ble_eq_true rfl, _, _, rfl, rfl, rfl⟩ (Nat.le_of_ble_eq_true rfl) (Nat.le_of_ble_eq_true rfl) (Nat.le_refl _) (Nat.le_refl _) (Nat.le_of_ble_eq_true rfl) ?_
    refine msegT C kX12_bowls 10 1 (g := (true, 18, [.ref (187), .int v1], [.ref (187)], mk b S3)) rfl rfl ?_
    obtain ⟨x5, S4, hq, hf⟩ := bndC_ex hf
    refine mcall (kd := 0) (vs := [.ref (187)]) (rest := []) (r := (some (.int x5))) (h' := mk b S4) (ok' := true) C lkRX12_415 (qX12_allBowls hq) (kX12_bowls _ (List.mem_of_getElem? (i := 11) rfl)).1 ⟨_, _, rfl, rfl, Nat.le_of_ble_eq_true rfl, _, _, rfl, rfl, rfl⟩ (Nat.le_of_ble_eq_true rfl) (Nat.le_of_ble_eq_true rfl) (Nat.le_refl _) (Nat.le_refl _) (Nat.le_of_ble_eq_true rfl) ?_
    cases hf
    exact gret_i C hr hk (kX12_bowls _ (List.mem_of_getElem? (i := 12) rfl)).1
theorem qX12_bowls {b : Bool} {v1 : Int32} {S S' : mT} {r : Int32} (hf : fX12_bowls v1 S = some (r, S')) : mOk l mX12_bowls 7 [.ref (187), .int v1] b S (some (.int r)) S' :=
  gMet (by decide) (Nat.le_of_ble_eq_true rfl) rfl (Nat.le_of_ble_eq_true rfl) (fun p e s m args below meth c G C hr hk => bX12_bowls_0 C hr hk hf true)
theorem bX12_layRoad_63 (C : mCx p (mR 2) s m args meth c G cX12_layRoad RX12 4 false 233 54500 233 54500) (hr : meth.sig.returnType = none) (hk : meth.locks = false) {b : Bool} {S' : mT} {rc2 : Int32 → mT → Option (mT)} (Hrc2 : ∀ (v1 : Int32) (S : mT), rc2 v1 S = some S' → ∀ ok : Bool, mW p l e (mR 2) s m args below meth c G 4 233 54500 (mQ below G args s b S' none) (ok, 2, [.ref (187), .int v1, .retAddr 0, .retAddr 0], [], mk b S)) {rc14 : Int32 → Int32 → Int32 → mT → Option (mT)} (Hrc14 : ∀ (v1 : Int32) (v2 : Int32) (v3 : Int32) (S : mT), rc14 v1 v2 v3 S = some S' → ∀ ok : Bool, mW p l e (mR 2) s m args below meth c G 4 233 54500 (mQ below G args s b S' none) (ok, 14, [.ref (187), .int v1, .int v2, .int v3], [], mk b S)) {v1 : Int32} {v3 : Int32} {s0 : Int32} {s1 : Int32} {S : mT} (hf : fX12_layRoad_63 rc2 rc14 v1 v3 s0 s1 S = some S') (ok : Bool) : mW p l e (mR 2) s m args below meth c G 4 233 54500 (mQ below G args s b S' none) (ok, 63, [.ref (187), .int v1, .retAddr 0, .int v3], [.int s0, .int s1], mk b S) := by
  unfold fX12_layRoad_63 at hf
  obtain ⟨x4, S3, hq, hf⟩ := bndC_ex hf
  refine mcall (kd := 1) (vs := [.int s0]) (rest := [.int s1]) (r := (some (.int x4))) (h' := mk b S3) (ok' := true) C lkRX12_307 (qX12_truth hq) (kX12_layRoad _ (List.mem_of_getElem? (i := 39) rfl)).1 rfl (Nat.le_of_ble_eq_true rfl) (Nat.le_of_ble_eq_true rfl) (Nat.le_refl _) (Nat.le_refl _) (Nat.le_of_ble_eq_true rfl) ?_
  refine msegT C kX12_layRoad 40 2 (g := (true, 68, [.ref (187), .int v1, .int (s1 + x4), .int v3], [], mk b S3)) rfl rfl ?_
  obtain ⟨x5, ex5, hf⟩ := bnd_ex hf
  rw [← ex5]
  refine msegT C kX12_layRoad 42 1 (g := (true, 71, [.ref (187), .int v1, .int x5, .int (v3 + (1 : Int32))], [], mk b S3)) rfl rfl ?_
  obtain ⟨x6, ex6, hf⟩ := bnd_ex hf
  rw [← ex6]
  refine msegT C kX12_layRoad 43 1 (g := (true, 14, [.ref (187), .int v1, .int x5, .int x6], [], mk b S3)) rfl rfl ?_
  exact mfor (L' := [.ref (187), .int v1, .int x5, .int x6]) ⟨Or.inr rfl, Or.inr rfl, Or.inr rfl, Or.inr rfl, trivial⟩ (Hrc14 _ _ _ _ hf true)
theorem bX12_layRoad_58 (C : mCx p (mR 2) s m args meth c G cX12_layRoad RX12 4 false 233 54500 233 54500) (hr : meth.sig.returnType = none) (hk : meth.locks = false) {b : Bool} {S' : mT} {rc2 : Int32 → mT → Option (mT)} (Hrc2 : ∀ (v1 : Int32) (S : mT), rc2 v1 S = some S' → ∀ ok : Bool, mW p l e (mR 2) s m args below meth c G 4 233 54500 (mQ below G args s b S' none) (ok, 2, [.ref (187), .int v1, .retAddr 0, .retAddr 0], [], mk b S)) {rc14 : Int32 → Int32 → Int32 → mT → Option (mT)} (Hrc14 : ∀ (v1 : Int32) (v2 : Int32) (v3 : Int32) (S : mT), rc14 v1 v2 v3 S = some S' → ∀ ok : Bool, mW p l e (mR 2) s m args below meth c G 4 233 54500 (mQ below G args s b S' none) (ok, 14, [.ref (187), .int v1, .int v2, .int v3], [], mk b S)) {v1 : Int32} {v3 : Int32} {s0 : Int32} {S : mT} (hf : fX12_layRoad_58 rc2 rc14 v1 v3 s0 S = some S') (ok : Bool) : mW p l e (mR 2) s m args below meth c G 4 233 54500 (mQ below G args s b S' none) (ok, 58, [.ref (187), .int v1, .retAddr 0, .int v3], [.int s0], mk b S) := by
  unfold fX12_layRoad_58 at hf
  refine msegT C kX12_layRoad 36 2 (g := (true, 63, [.ref (187), .int v1, .retAddr 0, .int v3], [.int (1 : Int32), .int s0], mk b S)) rfl rfl ?_
  exact mfor (L' := [.ref (187), .int v1, .retAddr 0, .int v3]) ⟨Or.inr rfl, Or.inr rfl, Or.inl rfl, Or.inr rfl, trivial⟩ (bX12_layRoad_63 C hr hk Hrc2 Hrc14 hf true)
theorem bX12_layRoad_62 (C : mCx p (mR 2) s m args meth c G cX12_layRoad RX12 4 false 233 54500 233 54500) (hr : meth.sig.returnType = none) (hk : meth.locks = false) {b : Bool} {S' : mT} {rc2 : Int32 → mT → Option (mT)} (Hrc2 : ∀ (v1 : Int32) (S : mT), rc2 v1 S = some S' → ∀ ok : Bool, mW p l e (mR 2) s m args below meth c G 4 233 54500 (mQ below G args s b S' none) (ok, 2, [.ref (187), .int v1, .retAddr 0, .retAddr 0], [], mk b S)) {rc14 : Int32 → Int32 → Int32 → mT → Option (mT)} (Hrc14 : ∀ (v1 : Int32) (v2 : Int32) (v3 : Int32) (S : mT), rc14 v1 v2 v3 S = some S' → ∀ ok : Bool, mW p l e (mR 2) s m args below meth c G 4 233 54500 (mQ below G args s b S' none) (ok, 14, [.ref (187), .int v1, .int v2, .int v3], [], mk b S)) {v1 : Int32} {v3 : Int32} {s0 : Int32} {S : mT} (hf : fX12_layRoad_62 rc2 rc14 v1 v3 s0 S = some S') (ok : Bool) : mW p l e (mR 2) s m args below meth c G 4 233 54500 (mQ below G args s b S' none) (ok, 62, [.ref (187), .int v1, .retAddr 0, .int v3], [.int s0], mk b S) := by
  unfold fX12_layRoad_62 at hf
  refine msegT C kX12_layRoad 38 1 (g := (true, 63, [.ref (187), .int v1, .retAddr 0, .int v3], [.int (0 : Int32), .int s0], mk b S)) rfl rfl ?_
  exact mfor (L' := [.ref (187), .int v1, .retAddr 0, .int v3]) ⟨Or.inr rfl, Or.inr rfl, Or.inl rfl, Or.inr rfl, trivial⟩ (bX12_layRoad_63 C hr hk Hrc2 Hrc14 hf true)
theorem bX12_layRoad_14 (C : mCx p (mR 2) s m args meth c G cX12_layRoad RX12 4 false 233 54500 233 54500) (hr : meth.sig.returnType = none) (hk : meth.locks = false) {b : Bool} {S' : mT} {rc2 : Int32 → mT → Option (mT)} (Hrc2 : ∀ (v1 : Int32) (S : mT), rc2 v1 S = some S' → ∀ ok : Bool, mW p l e (mR 2) s m args below meth c G 4 233 54500 (mQ below G args s b S' none) (ok, 2, [.ref (187), .int v1, .retAddr 0, .retAddr 0], [], mk b S)) : ∀ (k : Nat) (v1 : Int32) (v2 : Int32) (v3 : Int32) (S : mT), fX12_layRoad_14 rc2 k v1 v2 v3 S = some S' → ∀ ok : Bool, mW p l e (mR 2) s m args below meth c G 4 233 54500 (mQ below G args s b S' none) (ok, 14, [.ref (187), .int v1, .int v2, .int v3], [], mk b S) := by
  intro k
  induction k with
  | zero =>
    intro v1 v2 v3 S hf ok
    cases hf
  | succ k ih =>
    intro v1 v2 v3 S hf ok
    unfold fX12_layRoad_14 at hf
    obtain ⟨hok, hf⟩ := grd_ex hf
    refine msegT C kX12_layRoad 10 4 (g := ((kO 187 12 && true), (if (S.1 187 37) ≤ v3 then 74 else 22), [.ref (187), .int v1, .int v2, .int v3], [], mk b S)) rfl hok ?_
    by_cases hc : (S.1 187 37) ≤ v3
    · rw [if_pos hc] at hf ⊢
      obtain ⟨hok, hf⟩ := grd_ex hf
      refine msegT C kX12_layRoad 44 5 (g := ((kI 220 v2 && (kO 187 12 && true)), 81, [.ref (187), .int v1, .int v2, .int v3], [], mk b (sI S 220 (mIx v2) v1))) rfl hok ?_
      obtain ⟨S1, eS1, hf⟩ := bnd_ex hf
      rw [← eS1]
      refine msegT C kX12_layRoad 49 1 (g := (true, 84, [.ref (187), .int (v1 + (1 : Int32)), .int v2, .int v3], [], mk b S1)) rfl rfl ?_
      obtain ⟨x2, ex2, hf⟩ := bnd_ex hf
      rw [← ex2]
      refine msegT C kX12_layRoad 50 1 (g := (true, 2, [.ref (187), .int x2, .int v2, .int v3], [], mk b S1)) rfl rfl ?_
      exact mfor (L' := [.ref (187), .int x2, .retAddr 0, .retAddr 0]) ⟨Or.inr rfl, Or.inr rfl, Or.inl rfl, Or.inl rfl, trivial⟩ (Hrc2 _ _ hf true)
    · rw [if_neg hc] at hf ⊢
      obtain ⟨hok, hf⟩ := grd_ex hf
      refine msegT C kX12_layRoad 14 10 (g := ((kI 205 v1 && (kO 187 12 && (kI 205 v3 && (kO 187 12 && true)))), (if (S.1 205 (mIx v3)) < (S.1 205 (mIx v1)) then 58 else 38), [.ref (187), .int v1, .int v2, .int v3], [.int v2], mk b S)) rfl hok ?_
      by_cases hc : (S.1 205 (mIx v3)) < (S.1 205 (mIx v1))
      · rw [if_pos hc] at hf ⊢
        exact mfor (L' := [.ref (187), .int v1, .retAddr 0, .int v3]) ⟨Or.inr rfl, Or.inr rfl, Or.inl rfl, Or.inr rfl, trivial⟩ (bX12_layRoad_58 C hr hk Hrc2 ih hf true)
      · rw [if_neg hc] at hf ⊢
        obtain ⟨hok, hf⟩ := grd_ex hf
        refine msegT C kX12_layRoad 24 9 (g := ((kI 205 v1 && (kO 187 12 && (kI 205 v3 && (kO 187 12 && true)))), (if (S.1 205 (mIx v3)) = (S.1 205 (mIx v1)) then 53 else 62), [.ref (187), .int v1, .int v2, .int v3], [.int v2], mk b S)) rfl hok ?_
        by_cases hc : (S.1 205 (mIx v3)) = (S.1 205 (mIx v1))
        · rw [if_pos hc] at hf ⊢
          refine msegT C kX12_layRoad 33 3 (g := (true, (if v1 ≤ v3 then 62 else 58), [.ref (187), .int v1, .int v2, .int v3], [.int v2], mk b S)) rfl rfl ?_
          by_cases hc : v1 ≤ v3
          · rw [if_pos hc] at hf ⊢
            exact mfor (L' := [.ref (187), .int v1, .retAddr 0, .int v3]) ⟨Or.inr rfl, Or.inr rfl, Or.inl rfl, Or.inr rfl, trivial⟩ (bX12_layRoad_62 C hr hk Hrc2 ih hf true)
          · rw [if_neg hc] at hf ⊢
            exact mfor (L' := [.ref (187), .int v1, .retAddr 0, .int v3]) ⟨Or.inr rfl, Or.inr rfl, Or.inl rfl, Or.inr rfl, trivial⟩ (bX12_layRoad_58 C hr hk Hrc2 ih hf true)
        · rw [if_neg hc] at hf ⊢
          exact mfor (L' := [.ref (187), .int v1, .retAddr 0, .int v3]) ⟨Or.inr rfl, Or.inr rfl, Or.inl rfl, Or.inr rfl, trivial⟩ (bX12_layRoad_62 C hr hk Hrc2 ih hf true)
theorem bX12_layRoad_2 (C : mCx p (mR 2) s m args meth c G cX12_layRoad RX12 4 false 233 54500 233 54500) (hr : meth.sig.returnType = none) (hk : meth.locks = false) {b : Bool} {S' : mT} : ∀ (k : Nat) (v1 : Int32) (S : mT), fX12_layRoad_2 k v1 S = some S' → ∀ ok : Bool, mW p l e (mR 2) s m args below meth c G 4 233 54500 (mQ below G args s b S' none) (ok, 2, [.ref (187), .int v1, .retAddr 0, .retAddr 0], [], mk b S) := by
  intro k
  induction k with
  | zero =>
    intro v1 S hf ok
    cases hf
  | succ k ih =>
    intro v1 S hf ok
    unfold fX12_layRoad_2 at hf
    obtain ⟨hok, hf⟩ := grd_ex hf
    refine msegT C kX12_layRoad 2 4 (g := ((kO 187 12 && true), (if (S.1 187 37) ≤ v1 then 87 else 10), [.ref (187), .int v1, .retAddr 0, .retAddr 0], [], mk b S)) rfl hok ?_
    by_cases hc : (S.1 187 37) ≤ v1
    · rw [if_pos hc] at hf ⊢
      cases hf
      exact gret_v C hr hk (kX12_layRoad _ (List.mem_of_getElem? (i := 51) rfl)).1
    · rw [if_neg hc] at hf ⊢
      refine msegT C kX12_layRoad 6 4 (g := (true, 14, [.ref (187), .int v1, .int (0 : Int32), .int (0 : Int32)], [], mk b S)) rfl rfl ?_
      exact mfor (L' := [.ref (187), .int v1, .int (0 : Int32), .int (0 : Int32)]) ⟨Or.inr rfl, Or.inr rfl, Or.inr rfl, Or.inr rfl, trivial⟩ (bX12_layRoad_14 C hr hk ih _ _ _ _ _ hf true)
theorem bX12_layRoad_0 (C : mCx p (mR 2) s m args meth c G cX12_layRoad RX12 4 false 233 54500 233 54500) (hr : meth.sig.returnType = none) (hk : meth.locks = false) {b : Bool} {S' : mT} {S : mT} (hf : fX12_layRoad S = some S') (ok : Bool) : mW p l e (mR 2) s m args below meth c G 4 233 54500 (mQ below G args s b S' none) (ok, 0, [.ref (187), .retAddr 0, .retAddr 0, .retAddr 0], [], mk b S) := by
  unfold fX12_layRoad at hf
  refine msegT C kX12_layRoad 0 2 (g := (true, 2, [.ref (187), .int (0 : Int32), .retAddr 0, .retAddr 0], [], mk b S)) rfl rfl ?_
  exact mfor (L' := [.ref (187), .int (0 : Int32), .retAddr 0, .retAddr 0]) ⟨Or.inr rfl, Or.inr rfl, Or.inl rfl, Or.inl rfl, trivial⟩ (bX12_layRoad_2 C hr hk _ _ _ hf true)
theorem qX12_layRoad {b : Bool} {S S' : mT} (hf : fX12_layRoad S = some S') : mOk l mX12_layRoad 2 [.ref (187)] b S none S' :=
  gMet (by decide) (Nat.le_of_ble_eq_true rfl) rfl (Nat.le_of_ble_eq_true rfl) (fun p e s m args below meth c G C hr hk => bX12_layRoad_0 C hr hk hf true)
theorem bX12_moved_78 (C : mCx p (mR 1) s m args meth c G cX12_moved RX12 4 false 233 54500 233 54500) (hr : meth.sig.returnType = (some .int)) (hk : meth.locks = false) {b : Bool} {S' : mT} {r : Int32} {rc14 : Int32 → Int32 → Int32 → mT → Option (Int32 × mT)} (Hrc14 : ∀ (v1 : Int32) (v2 : Int32) (v3 : Int32) (S : mT), rc14 v1 v2 v3 S = some (r, S') → ∀ ok : Bool, mW p l e (mR 1) s m args below meth c G 4 233 54500 (mQ below G args s b S' (some (.int r))) (ok, 14, [.ref (187), .int v1, .int v2, .int v3], [], mk b S)) {v1 : Int32} {v2 : Int32} {v3 : Int32} {S : mT} (hf : fX12_moved_78 rc14 v1 v2 v3 S = some (r, S')) (ok : Bool) : mW p l e (mR 1) s m args below meth c G 4 233 54500 (mQ below G args s b S' (some (.int r))) (ok, 78, [.ref (187), .int v1, .int v2, .int v3], [], mk b S) := by
  unfold fX12_moved_78 at hf
  refine msegT C kX12_moved 54 1 (g := (true, 81, [.ref (187), .int v1, .int v2, .int (v3 + (1 : Int32))], [], mk b S)) rfl rfl ?_
  obtain ⟨x2, ex2, hf⟩ := bnd_ex hf
  rw [← ex2]
  refine msegT C kX12_moved 55 1 (g := (true, 14, [.ref (187), .int v1, .int v2, .int x2], [], mk b S)) rfl rfl ?_
  exact mfor (L' := [.ref (187), .int v1, .int v2, .int x2]) ⟨Or.inr rfl, Or.inr rfl, Or.inr rfl, Or.inr rfl, trivial⟩ (Hrc14 _ _ _ _ hf true)
theorem bX12_moved_55 (C : mCx p (mR 1) s m args meth c G cX12_moved RX12 4 false 233 54500 233 54500) (hr : meth.sig.returnType = (some .int)) (hk : meth.locks = false) {b : Bool} {S' : mT} {r : Int32} {rc14 : Int32 → Int32 → Int32 → mT → Option (Int32 × mT)} (Hrc14 : ∀ (v1 : Int32) (v2 : Int32) (v3 : Int32) (S : mT), rc14 v1 v2 v3 S = some (r, S') → ∀ ok : Bool, mW p l e (mR 1) s m args below meth c G 4 233 54500 (mQ below G args s b S' (some (.int r))) (ok, 14, [.ref (187), .int v1, .int v2, .int v3], [], mk b S)) {v1 : Int32} {v2 : Int32} {v3 : Int32} {S : mT} (hf : fX12_moved_55 rc14 v1 v2 v3 S = some (r, S')) (ok : Bool) : mW p l e (mR 1) s m args below meth c G 4 233 54500 (mQ below G args s b S' (some (.int r))) (ok, 55, [.ref (187), .int v1, .int v2, .int v3], [], mk b S) := by
  unfold fX12_moved_55 at hf
  obtain ⟨hok, hf⟩ := grd_ex hf
  refine msegT C kX12_moved 37 6 (g := ((kO 187 12 && true), (if (S.1 187 37) ≤ (v3 + (1 : Int32)) then 78 else 65), [.ref (187), .int v1, .int v2, .int v3], [], mk b S)) rfl hok ?_
  by_cases hc : (S.1 187 37) ≤ (v3 + (1 : Int32))
  · rw [if_pos hc] at hf ⊢
    exact mfor (L' := [.ref (187), .int v1, .int v2, .int v3]) ⟨Or.inr rfl, Or.inr rfl, Or.inr rfl, Or.inr rfl, trivial⟩ (bX12_moved_78 C hr hk Hrc14 hf true)
  · rw [if_neg hc] at hf ⊢
    obtain ⟨hok, hf⟩ := grd_ex hf
    refine msegT C kX12_moved 43 10 (g := ((kI 220 (v3 + (1 : Int32)) && (kO 187 12 && true)), 77, [.ref (187), .int v1, .int v2, .int v3], [.int (v2 ||| ((1 : Int32) <<< ((S.1 220 (mIx (v3 + (1 : Int32)))) &&& 31)))], mk b S)) rfl hok ?_
    refine msegT C kX12_moved 53 1 (g := (true, 78, [.ref (187), .int v1, .int (v2 ||| ((1 : Int32) <<< ((S.1 220 (mIx (v3 + (1 : Int32)))) &&& 31))), .int v3], [], mk b S)) rfl rfl ?_
    obtain ⟨x3, ex3, hf⟩ := bnd_ex hf
    rw [← ex3]
    exact mfor (L' := [.ref (187), .int v1, .int x3, .int v3]) ⟨Or.inr rfl, Or.inr rfl, Or.inr rfl, Or.inr rfl, trivial⟩ (bX12_moved_78 C hr hk Hrc14 hf true)
theorem bX12_moved_14 (C : mCx p (mR 1) s m args meth c G cX12_moved RX12 4 false 233 54500 233 54500) (hr : meth.sig.returnType = (some .int)) (hk : meth.locks = false) {b : Bool} {S' : mT} {r : Int32} : ∀ (k : Nat) (v1 : Int32) (v2 : Int32) (v3 : Int32) (S : mT), fX12_moved_14 k v1 v2 v3 S = some (r, S') → ∀ ok : Bool, mW p l e (mR 1) s m args below meth c G 4 233 54500 (mQ below G args s b S' (some (.int r))) (ok, 14, [.ref (187), .int v1, .int v2, .int v3], [], mk b S) := by
  intro k
  induction k with
  | zero =>
    intro v1 v2 v3 S hf ok
    cases hf
  | succ k ih =>
    intro v1 v2 v3 S hf ok
    unfold fX12_moved_14 at hf
    obtain ⟨hok, hf⟩ := grd_ex hf
    refine msegT C kX12_moved 10 4 (g := ((kO 187 12 && true), (if (S.1 187 37) ≤ v3 then 84 else 22), [.ref (187), .int v1, .int v2, .int v3], [], mk b S)) rfl hok ?_
    by_cases hc : (S.1 187 37) ≤ v3
    · rw [if_pos hc] at hf ⊢
      refine msegT C kX12_moved 56 1 (g := (true, 85, [.ref (187), .int v1, .int v2, .int v3], [.int v2], mk b S)) rfl rfl ?_
      cases hf
      exact gret_i C hr hk (kX12_moved _ (List.mem_of_getElem? (i := 57) rfl)).1
    · rw [if_neg hc] at hf ⊢
      obtain ⟨hok, hf⟩ := grd_ex hf
      refine msegT C kX12_moved 14 9 (g := ((kI 220 v3 && (kO 187 12 && true)), (if ((v1 >>> ((S.1 220 (mIx v3)) &&& 31)) &&& (1 : Int32)) = 0 then 35 else 38), [.ref (187), .int v1, .int v2, .int v3], [], mk b S)) rfl hok ?_
      by_cases hc : ((v1 >>> ((S.1 220 (mIx v3)) &&& 31)) &&& (1 : Int32)) = 0
      · rw [if_pos hc] at hf ⊢
        refine msegT C kX12_moved 23 1 (g := (true, 78, [.ref (187), .int v1, .int v2, .int v3], [], mk b S)) rfl rfl ?_
        exact mfor (L' := [.ref (187), .int v1, .int v2, .int v3]) ⟨Or.inr rfl, Or.inr rfl, Or.inr rfl, Or.inr rfl, trivial⟩ (bX12_moved_78 C hr hk ih hf true)
      · rw [if_neg hc] at hf ⊢
        refine msegT C kX12_moved 24 2 (g := (true, (if v3 ≤ 0 then 55 else 42), [.ref (187), .int v1, .int v2, .int v3], [], mk b S)) rfl rfl ?_
        by_cases hc : v3 ≤ 0
        · rw [if_pos hc] at hf ⊢
          exact mfor (L' := [.ref (187), .int v1, .int v2, .int v3]) ⟨Or.inr rfl, Or.inr rfl, Or.inr rfl, Or.inr rfl, trivial⟩ (bX12_moved_55 C hr hk ih hf true)
        · rw [if_neg hc] at hf ⊢
          obtain ⟨hok, hf⟩ := grd_ex hf
          refine msegT C kX12_moved 26 10 (g := ((kI 220 (v3 - (1 : Int32)) && (kO 187 12 && true)), 54, [.ref (187), .int v1, .int v2, .int v3], [.int (v2 ||| ((1 : Int32) <<< ((S.1 220 (mIx (v3 - (1 : Int32)))) &&& 31)))], mk b S)) rfl hok ?_
          refine msegT C kX12_moved 36 1 (g := (true, 55, [.ref (187), .int v1, .int (v2 ||| ((1 : Int32) <<< ((S.1 220 (mIx (v3 - (1 : Int32)))) &&& 31))), .int v3], [], mk b S)) rfl rfl ?_
          obtain ⟨x1, ex1, hf⟩ := bnd_ex hf
          rw [← ex1]
          exact mfor (L' := [.ref (187), .int v1, .int x1, .int v3]) ⟨Or.inr rfl, Or.inr rfl, Or.inr rfl, Or.inr rfl, trivial⟩ (bX12_moved_55 C hr hk ih hf true)
theorem bX12_moved_0 (C : mCx p (mR 1) s m args meth c G cX12_moved RX12 4 false 233 54500 233 54500) (hr : meth.sig.returnType = (some .int)) (hk : meth.locks = false) {b : Bool} {S' : mT} {r : Int32} {v1 : Int32} {S : mT} (hf : fX12_moved v1 S = some (r, S')) (ok : Bool) : mW p l e (mR 1) s m args below meth c G 4 233 54500 (mQ below G args s b S' (some (.int r))) (ok, 0, [.ref (187), .int v1, .retAddr 0, .retAddr 0], [], mk b S) := by
  unfold fX12_moved at hf
  obtain ⟨hok, hf⟩ := grd_ex hf
  refine msegT C kX12_moved 0 4 (g := ((kO 187 12 && true), (if (S.1 187 37) = (1 : Int32) then 8 else 10), [.ref (187), .int v1, .retAddr 0, .retAddr 0], [], mk b S)) rfl hok ?_
  by_cases hc : (S.1 187 37) = (1 : Int32)
  · rw [if_pos hc] at hf ⊢
    refine msegT C kX12_moved 4 1 (g := (true, 9, [.ref (187), .int v1, .retAddr 0, .retAddr 0], [.int v1], mk b S)) rfl rfl ?_
    cases hf
    exact gret_i C hr hk (kX12_moved _ (List.mem_of_getElem? (i := 5) rfl)).1
  · rw [if_neg hc] at hf ⊢
    refine msegT C kX12_moved 6 4 (g := (true, 14, [.ref (187), .int v1, .int (0 : Int32), .int (0 : Int32)], [], mk b S)) rfl rfl ?_
    exact mfor (L' := [.ref (187), .int v1, .int (0 : Int32), .int (0 : Int32)]) ⟨Or.inr rfl, Or.inr rfl, Or.inr rfl, Or.inr rfl, trivial⟩ (bX12_moved_14 C hr hk _ _ _ _ _ hf true)
theorem qX12_moved {b : Bool} {v1 : Int32} {S S' : mT} {r : Int32} (hf : fX12_moved v1 S = some (r, S')) : mOk l mX12_moved 1 [.ref (187), .int v1] b S (some (.int r)) S' :=
  gMet (by decide) (Nat.le_of_ble_eq_true rfl) rfl (Nat.le_of_ble_eq_true rfl) (fun p e s m args below meth c G C hr hk => bX12_moved_0 C hr hk hf true)
theorem bX12_chase_170 (C : mCx p (mR 3) s m args meth c G cX12_chase RX12 7 false 233 54500 233 54500) (hr : meth.sig.returnType = (some .int)) (hk : meth.locks = false) {b : Bool} {S' : mT} {r : Int32} {rc66 : Int32 → Int32 → Int32 → mT → Option (Int32 × mT)} (Hrc66 : ∀ (v1 : Int32) (v2 : Int32) (v3 : Int32) (S : mT), rc66 v1 v2 v3 S = some (r, S') → ∀ ok : Bool, mW p l e (mR 3) s m args below meth c G 7 233 54500 (mQ below G args s b S' (some (.int r))) (ok, 66, [.ref (187), .int v1, .int v2, .int v3, .retAddr 0, .retAddr 0, .retAddr 0], [], mk b S)) {rc83 : Int32 → Int32 → Int32 → Int32 → mT → Option (Int32 × mT)} (Hrc83 : ∀ (v1 : Int32) (v2 : Int32) (v3 : Int32) (v4 : Int32) (S : mT), rc83 v1 v2 v3 v4 S = some (r, S') → ∀ ok : Bool, mW p l e (mR 3) s m args below meth c G 7 233 54500 (mQ below G args s b S' (some (.int r))) (ok, 83, [.ref (187), .int v1, .int v2, .int v3, .int v4, .retAddr 0, .retAddr 0], [], mk b S)) {v1 : Int32} {v2 : Int32} {v3 : Int32} {v4 : Int32} {S : mT} (hf : fX12_chase_170 rc66 rc83 v1 v2 v3 v4 S = some (r, S')) (ok : Bool) : mW p l e (mR 3) s m args below meth c G 7 233 54500 (mQ below G args s b S' (some (.int r))) (ok, 170, [.ref (187), .int v1, .int v2, .int v3, .int v4, .retAddr 0, .retAddr 0], [], mk b S) := by
  unfold fX12_chase_170 at hf
  refine msegT C kX12_chase 102 1 (g := (true, 173, [.ref (187), .int v1, .int v2, .int v3, .int (v4 + (1 : Int32)), .retAddr 0, .retAddr 0], [], mk b S)) rfl rfl ?_
  obtain ⟨x19, ex19, hf⟩ := bnd_ex hf
  rw [← ex19]
  refine msegT C kX12_chase 103 1 (g := (true, 83, [.ref (187), .int v1, .int v2, .int v3, .int x19, .retAddr 0, .retAddr 0], [], mk b S)) rfl rfl ?_
  exact mfor (L' := [.ref (187), .int v1, .int v2, .int v3, .int x19, .retAddr 0, .retAddr 0]) ⟨Or.inr rfl, Or.inr rfl, Or.inr rfl, Or.inr rfl, Or.inr rfl, Or.inl rfl, Or.inl rfl, trivial⟩ (Hrc83 _ _ _ _ _ hf true)
theorem bX12_chase_176 (C : mCx p (mR 3) s m args meth c G cX12_chase RX12 7 false 233 54500 233 54500) (hr : meth.sig.returnType = (some .int)) (hk : meth.locks = false) {b : Bool} {S' : mT} {r : Int32} {rc66 : Int32 → Int32 → Int32 → mT → Option (Int32 × mT)} (Hrc66 : ∀ (v1 : Int32) (v2 : Int32) (v3 : Int32) (S : mT), rc66 v1 v2 v3 S = some (r, S') → ∀ ok : Bool, mW p l e (mR 3) s m args below meth c G 7 233 54500 (mQ below G args s b S' (some (.int r))) (ok, 66, [.ref (187), .int v1, .int v2, .int v3, .retAddr 0, .retAddr 0, .retAddr 0], [], mk b S)) {v1 : Int32} {v2 : Int32} {v3 : Int32} {S : mT} (hf : fX12_chase_176 rc66 v1 v2 v3 S = some (r, S')) (ok : Bool) : mW p l e (mR 3) s m args below meth c G 7 233 54500 (mQ below G args s b S' (some (.int r))) (ok, 176, [.ref (187), .int v1, .int v2, .int v3, .retAddr 0, .retAddr 0, .retAddr 0], [], mk b S) := by
  unfold fX12_chase_176 at hf
  refine msegT C kX12_chase 104 1 (g := (true, 179, [.ref (187), .int v1, .int v2, .int (v3 + (1 : Int32)), .retAddr 0, .retAddr 0, .retAddr 0], [], mk b S)) rfl rfl ?_
  obtain ⟨x18, ex18, hf⟩ := bnd_ex hf
  rw [← ex18]
  refine msegT C kX12_chase 105 1 (g := (true, 66, [.ref (187), .int v1, .int v2, .int x18, .retAddr 0, .retAddr 0, .retAddr 0], [], mk b S)) rfl rfl ?_
  exact mfor (L' := [.ref (187), .int v1, .int v2, .int x18, .retAddr 0, .retAddr 0, .retAddr 0]) ⟨Or.inr rfl, Or.inr rfl, Or.inr rfl, Or.inr rfl, Or.inl rfl, Or.inl rfl, Or.inl rfl, trivial⟩ (Hrc66 _ _ _ _ hf true)
theorem bX12_chase_83 (C : mCx p (mR 3) s m args meth c G cX12_chase RX12 7 false 233 54500 233 54500) (hr : meth.sig.returnType = (some .int)) (hk : meth.locks = false) {b : Bool} {S' : mT} {r : Int32} {rc66 : Int32 → Int32 → Int32 → mT → Option (Int32 × mT)} (Hrc66 : ∀ (v1 : Int32) (v2 : Int32) (v3 : Int32) (S : mT), rc66 v1 v2 v3 S = some (r, S') → ∀ ok : Bool, mW p l e (mR 3) s m args below meth c G 7 233 54500 (mQ below G args s b S' (some (.int r))) (ok, 66, [.ref (187), .int v1, .int v2, .int v3, .retAddr 0, .retAddr 0, .retAddr 0], [], mk b S)) : ∀ (k : Nat) (v1 : Int32) (v2 : Int32) (v3 : Int32) (v4 : Int32) (S : mT), fX12_chase_83 rc66 k v1 v2 v3 v4 S = some (r, S') → ∀ ok : Bool, mW p l e (mR 3) s m args below meth c G 7 233 54500 (mQ below G args s b S' (some (.int r))) (ok, 83, [.ref (187), .int v1, .int v2, .int v3, .int v4, .retAddr 0, .retAddr 0], [], mk b S) := by
  intro k
  induction k with
  | zero =>
    intro v1 v2 v3 v4 S hf ok
    cases hf
  | succ k ih =>
    intro v1 v2 v3 v4 S hf ok
    unfold fX12_chase_83 at hf
    obtain ⟨hok, hf⟩ := grd_ex hf
    refine msegT C kX12_chase 53 4 (g := ((kO 187 12 && true), (if (S.1 187 37) ≤ v4 then 176 else 92), [.ref (187), .int v1, .int v2, .int v3, .int v4, .retAddr 0, .retAddr 0], [], mk b S)) rfl hok ?_
    by_cases hc : (S.1 187 37) ≤ v4
    · rw [if_pos hc] at hf ⊢
      exact mfor (L' := [.ref (187), .int v1, .int v2, .int v3, .retAddr 0, .retAddr 0, .retAddr 0]) ⟨Or.inr rfl, Or.inr rfl, Or.inr rfl, Or.inr rfl, Or.inl rfl, Or.inl rfl, Or.inl rfl, trivial⟩ (bX12_chase_176 C hr hk Hrc66 hf true)
    · rw [if_neg hc] at hf ⊢
      obtain ⟨hok, hf⟩ := grd_ex hf
      refine msegT C kX12_chase 57 5 (g := ((kI 222 (0 : Int32) && (kO 187 12 && true)), (if 0 ≤ (S.1 222 (mIx (0 : Int32))) then 176 else 101), [.ref (187), .int v1, .int v2, .int v3, .int v4, .retAddr 0, .retAddr 0], [], mk b S)) rfl hok ?_
      by_cases hc : 0 ≤ (S.1 222 (mIx (0 : Int32)))
      · rw [if_pos hc] at hf ⊢
        exact mfor (L' := [.ref (187), .int v1, .int v2, .int v3, .retAddr 0, .retAddr 0, .retAddr 0]) ⟨Or.inr rfl, Or.inr rfl, Or.inr rfl, Or.inr rfl, Or.inl rfl, Or.inl rfl, Or.inl rfl, trivial⟩ (bX12_chase_176 C hr hk Hrc66 hf true)
      · rw [if_neg hc] at hf ⊢
        obtain ⟨hok, hf⟩ := grd_ex hf
        refine msegT C kX12_chase 62 10 (g := ((kI 223 v3 && (kO 187 12 && true)), 114, [.ref (187), .int v1, .int v2, .int v3, .int v4, .retAddr 0, .retAddr 0], [.int ((S.1 223 (mIx v3)) &&& (((1 : Int32) <<< (v4 &&& 31)) ^^^ (-1 : Int32)))], mk b S)) rfl hok ?_
        refine msegT C kX12_chase 72 1 (g := (true, 116, [.ref (187), .int v1, .int v2, .int v3, .int v4, .int ((S.1 223 (mIx v3)) &&& (((1 : Int32) <<< (v4 &&& 31)) ^^^ (-1 : Int32))), .retAddr 0], [], mk b S)) rfl rfl ?_
        obtain ⟨x8, ex8, hf⟩ := bnd_ex hf
        rw [← ex8]
        refine msegT C kX12_chase 73 2 (g := (true, 119, [.ref (187), .int v1, .int v2, .int v3, .int v4, .int x8, .retAddr 0], [.int x8, .ref (187)], mk b S)) rfl rfl ?_
        obtain ⟨x10, S9, hq, hf⟩ := bndC_ex hf
        refine mcall (kd := 0) (vs := [.ref (187), .int x8]) (rest := []) (r := (some (.int x10))) (h' := mk b S9) (ok' := true) C lkRX12_463 (qX12_moved hq) (kX12_chase _ (List.mem_of_getElem? (i := 75) rfl)).1 ⟨_, _, rfl, rfl, Nat.le_of_ble_eq_true rfl, _, _, rfl, rfl, rfl⟩ (Nat.le_of_ble_eq_true rfl) (Nat.le_of_ble_eq_true rfl) (Nat.le_refl _) (Nat.le_refl _) (Nat.le_of_ble_eq_true rfl) ?_
        obtain ⟨hok, hf⟩ := grd_ex hf
        refine msegT C kX12_chase 76 6 (g := ((kI 222 x10 && (kO 187 12 && true)), (if (S9.1 222 (mIx x10)) < 0 then 137 else 134), [.ref (187), .int v1, .int v2, .int v3, .int v4, .int x8, .int x10], [], mk b S9)) rfl hok ?_
        by_cases hc : (S9.1 222 (mIx x10)) < 0
        · rw [if_pos hc] at hf ⊢
          obtain ⟨hok, hf⟩ := grd_ex hf
          refine msegT C kX12_chase 83 8 (g := ((kI 221 x10 && (kI 223 v3 && (kO 187 12 && (kO 187 12 && true)))), 150, [.ref (187), .int v1, .int v2, .int v3, .int v4, .int x8, .int x10], [], mk b (sI S9 221 (mIx x10) (S9.1 223 (mIx v3))))) rfl hok ?_
          obtain ⟨S11, eS11, hf⟩ := bnd_ex hf
          rw [← eS11]
          obtain ⟨hok, hf⟩ := grd_ex hf
          refine msegT C kX12_chase 91 5 (g := ((kI 222 x10 && (kO 187 12 && true)), 159, [.ref (187), .int v1, .int v2, .int v3, .int v4, .int x8, .int x10], [], mk b (sI S11 222 (mIx x10) v4))) rfl hok ?_
          obtain ⟨S12, eS12, hf⟩ := bnd_ex hf
          rw [← eS12]
          obtain ⟨hok, hf⟩ := grd_ex hf
          refine msegT C kX12_chase 96 5 (g := ((kI 223 v2 && (kO 187 12 && true)), 167, [.ref (187), .int v1, .int v2, .int v3, .int v4, .int x8, .int x10], [], mk b (sI S12 223 (mIx v2) x10))) rfl hok ?_
          obtain ⟨S13, eS13, hf⟩ := bnd_ex hf
          rw [← eS13]
          refine msegT C kX12_chase 101 1 (g := (true, 170, [.ref (187), .int v1, .int (v2 + (1 : Int32)), .int v3, .int v4, .int x8, .int x10], [], mk b S13)) rfl rfl ?_
          obtain ⟨x14, ex14, hf⟩ := bnd_ex hf
          rw [← ex14]
          exact mfor (L' := [.ref (187), .int v1, .int x14, .int v3, .int v4, .retAddr 0, .retAddr 0]) ⟨Or.inr rfl, Or.inr rfl, Or.inr rfl, Or.inr rfl, Or.inr rfl, Or.inl rfl, Or.inl rfl, trivial⟩ (bX12_chase_170 C hr hk Hrc66 ih hf true)
        · rw [if_neg hc] at hf ⊢
          refine msegT C kX12_chase 82 1 (g := (true, 170, [.ref (187), .int v1, .int v2, .int v3, .int v4, .int x8, .int x10], [], mk b S9)) rfl rfl ?_
          exact mfor (L' := [.ref (187), .int v1, .int v2, .int v3, .int v4, .retAddr 0, .retAddr 0]) ⟨Or.inr rfl, Or.inr rfl, Or.inr rfl, Or.inr rfl, Or.inr rfl, Or.inl rfl, Or.inl rfl, trivial⟩ (bX12_chase_170 C hr hk Hrc66 ih hf true)
theorem bX12_chase_227 (C : mCx p (mR 3) s m args meth c G cX12_chase RX12 7 false 233 54500 233 54500) (hr : meth.sig.returnType = (some .int)) (hk : meth.locks = false) {b : Bool} {S' : mT} {r : Int32} : ∀ (k : Nat) (v3 : Int32) (v4 : Int32) (v5 : Int32) (S : mT), fX12_chase_227 k v3 v4 v5 S = some (r, S') → ∀ ok : Bool, mW p l e (mR 3) s m args below meth c G 7 233 54500 (mQ below G args s b S' (some (.int r))) (ok, 227, [.ref (187), .retAddr 0, .retAddr 0, .int v3, .int v4, .int v5, .retAddr 0], [], mk b S) := by
  intro k
  induction k with
  | zero =>
    intro v3 v4 v5 S hf ok
    cases hf
  | succ k ih =>
    intro v3 v4 v5 S hf ok
    unfold fX12_chase_227 at hf
    refine msegT C kX12_chase 133 2 (g := (true, (if v5 < 0 then 261 else 232), [.ref (187), .retAddr 0, .retAddr 0, .int v3, .int v4, .int v5, .retAddr 0], [], mk b S)) rfl rfl ?_
    by_cases hc : v5 < 0
    · rw [if_pos hc] at hf ⊢
      obtain ⟨hok, hf⟩ := grd_ex hf
      refine msegT C kX12_chase 150 3 (g := ((kO 187 12 && true), 266, [.ref (187), .retAddr 0, .retAddr 0, .int v3, .int v4, .int v5, .retAddr 0], [], mk b (sI S 187 51 v3))) rfl hok ?_
      obtain ⟨S20, eS20, hf⟩ := bnd_ex hf
      rw [← eS20]
      refine msegT C kX12_chase 153 1 (g := (true, 267, [.ref (187), .retAddr 0, .retAddr 0, .int v3, .int v4, .int v5, .retAddr 0], [.int v3], mk b S20)) rfl rfl ?_
      cases hf
      exact gret_i C hr hk (kX12_chase _ (List.mem_of_getElem? (i := 154) rfl)).1
    · rw [if_neg hc] at hf ⊢
      obtain ⟨hok, hf⟩ := grd_ex hf
      refine msegT C kX12_chase 135 8 (g := ((kI 215 v5 && (kI 222 v4 && (kO 187 12 && (kO 187 12 && true)))), 246, [.ref (187), .retAddr 0, .retAddr 0, .int v3, .int v4, .int v5, .retAddr 0], [], mk b (sI S 215 (mIx v5) (S.1 222 (mIx v4))))) rfl hok ?_
      obtain ⟨S21, eS21, hf⟩ := bnd_ex hf
      rw [← eS21]
      obtain ⟨hok, hf⟩ := grd_ex hf
      refine msegT C kX12_chase 143 5 (g := ((kI 221 v4 && (kO 187 12 && true)), 255, [.ref (187), .retAddr 0, .retAddr 0, .int v3, .int (S21.1 221 (mIx v4)), .int v5, .retAddr 0], [], mk b S21)) rfl hok ?_
      obtain ⟨x22, ex22, hf⟩ := bnd_ex hf
      rw [← ex22]
      refine msegT C kX12_chase 148 1 (g := (true, 258, [.ref (187), .retAddr 0, .retAddr 0, .int v3, .int x22, .int (v5 + (-1 : Int32)), .retAddr 0], [], mk b S21)) rfl rfl ?_
      obtain ⟨x23, ex23, hf⟩ := bnd_ex hf
      rw [← ex23]
      refine msegT C kX12_chase 149 1 (g := (true, 227, [.ref (187), .retAddr 0, .retAddr 0, .int v3, .int x22, .int x23, .retAddr 0], [], mk b S21)) rfl rfl ?_
      exact mfor (L' := [.ref (187), .retAddr 0, .retAddr 0, .int v3, .int x22, .int x23, .retAddr 0]) ⟨Or.inr rfl, Or.inl rfl, Or.inl rfl, Or.inr rfl, Or.inr rfl, Or.inr rfl, Or.inl rfl, trivial⟩ (ih _ _ _ _ hf true)
theorem bX12_chase_198 (C : mCx p (mR 3) s m args meth c G cX12_chase RX12 7 false 233 54500 233 54500) (hr : meth.sig.returnType = (some .int)) (hk : meth.locks = false) {b : Bool} {S' : mT} {r : Int32} : ∀ (k : Nat) (v1 : Int32) (v3 : Int32) (v4 : Int32) (S : mT), fX12_chase_198 k v1 v3 v4 S = some (r, S') → ∀ ok : Bool, mW p l e (mR 3) s m args below meth c G 7 233 54500 (mQ below G args s b S' (some (.int r))) (ok, 198, [.ref (187), .int v1, .retAddr 0, .int v3, .int v4, .retAddr 0, .retAddr 0], [], mk b S) := by
  intro k
  induction k with
  | zero =>
    intro v1 v3 v4 S hf ok
    cases hf
  | succ k ih =>
    intro v1 v3 v4 S hf ok
    unfold fX12_chase_198 at hf
    refine msegT C kX12_chase 117 3 (g := (true, (if v4 = v1 then 219 else 204), [.ref (187), .int v1, .retAddr 0, .int v3, .int v4, .retAddr 0, .retAddr 0], [], mk b S)) rfl rfl ?_
    by_cases hc : v4 = v1
    · rw [if_pos hc] at hf ⊢
      refine msegT C kX12_chase 127 6 (g := (true, 227, [.ref (187), .int v1, .retAddr 0, .int v3, .int (0 : Int32), .int (v3 - (1 : Int32)), .retAddr 0], [], mk b S)) rfl rfl ?_
      obtain ⟨x15, ex15, hf⟩ := bnd_ex hf
      rw [← ex15]
      exact mfor (L' := [.ref (187), .retAddr 0, .retAddr 0, .int v3, .int (0 : Int32), .int x15, .retAddr 0]) ⟨Or.inr rfl, Or.inl rfl, Or.inl rfl, Or.inr rfl, Or.inr rfl, Or.inr rfl, Or.inl rfl, trivial⟩ (bX12_chase_227 C hr hk _ _ _ _ _ hf true)
    · rw [if_neg hc] at hf ⊢
      refine msegT C kX12_chase 120 1 (g := (true, 207, [.ref (187), .int v1, .retAddr 0, .int (v3 + (1 : Int32)), .int v4, .retAddr 0, .retAddr 0], [], mk b S)) rfl rfl ?_
      obtain ⟨x16, ex16, hf⟩ := bnd_ex hf
      rw [← ex16]
      obtain ⟨hok, hf⟩ := grd_ex hf
      refine msegT C kX12_chase 121 5 (g := ((kI 221 v4 && (kO 187 12 && true)), 216, [.ref (187), .int v1, .retAddr 0, .int x16, .int (S.1 221 (mIx v4)), .retAddr 0, .retAddr 0], [], mk b S)) rfl hok ?_
      obtain ⟨x17, ex17, hf⟩ := bnd_ex hf
      rw [← ex17]
      refine msegT C kX12_chase 126 1 (g := (true, 198, [.ref (187), .int v1, .retAddr 0, .int x16, .int x17, .retAddr 0, .retAddr 0], [], mk b S)) rfl rfl ?_
      exact mfor (L' := [.ref (187), .int v1, .retAddr 0, .int x16, .int x17, .retAddr 0, .retAddr 0]) ⟨Or.inr rfl, Or.inr rfl, Or.inl rfl, Or.inr rfl, Or.inr rfl, Or.inl rfl, Or.inl rfl, trivial⟩ (ih _ _ _ _ hf true)
theorem bX12_chase_182 (C : mCx p (mR 3) s m args meth c G cX12_chase RX12 7 false 233 54500 233 54500) (hr : meth.sig.returnType = (some .int)) (hk : meth.locks = false) {b : Bool} {S' : mT} {r : Int32} {v1 : Int32} {S : mT} (hf : fX12_chase_182 v1 S = some (r, S')) (ok : Bool) : mW p l e (mR 3) s m args below meth c G 7 233 54500 (mQ below G args s b S' (some (.int r))) (ok, 182, [.ref (187), .int v1, .retAddr 0, .retAddr 0, .retAddr 0, .retAddr 0, .retAddr 0], [], mk b S) := by
  unfold fX12_chase_182 at hf
  obtain ⟨hok, hf⟩ := grd_ex hf
  refine msegT C kX12_chase 106 5 (g := ((kI 222 (0 : Int32) && (kO 187 12 && true)), (if 0 ≤ (S.1 222 (mIx (0 : Int32))) then 193 else 191), [.ref (187), .int v1, .retAddr 0, .retAddr 0, .retAddr 0, .retAddr 0, .retAddr 0], [], mk b S)) rfl hok ?_
  by_cases hc : 0 ≤ (S.1 222 (mIx (0 : Int32)))
  · rw [if_pos hc] at hf ⊢
    refine msegT C kX12_chase 113 4 (g := (true, 198, [.ref (187), .int v1, .retAddr 0, .int (0 : Int32), .int (0 : Int32), .retAddr 0, .retAddr 0], [], mk b S)) rfl rfl ?_
    exact mfor (L' := [.ref (187), .int v1, .retAddr 0, .int (0 : Int32), .int (0 : Int32), .retAddr 0, .retAddr 0]) ⟨Or.inr rfl, Or.inr rfl, Or.inl rfl, Or.inr rfl, Or.inr rfl, Or.inl rfl, Or.inl rfl, trivial⟩ (bX12_chase_198 C hr hk _ _ _ _ _ hf true)
  · rw [if_neg hc] at hf ⊢
    refine msegT C kX12_chase 111 1 (g := (true, 192, [.ref (187), .int v1, .retAddr 0, .retAddr 0, .retAddr 0, .retAddr 0, .retAddr 0], [.int (-1 : Int32)], mk b S)) rfl rfl ?_
    cases hf
    exact gret_i C hr hk (kX12_chase _ (List.mem_of_getElem? (i := 112) rfl)).1
theorem bX12_chase_66 (C : mCx p (mR 3) s m args meth c G cX12_chase RX12 7 false 233 54500 233 54500) (hr : meth.sig.returnType = (some .int)) (hk : meth.locks = false) {b : Bool} {S' : mT} {r : Int32} : ∀ (k : Nat) (v1 : Int32) (v2 : Int32) (v3 : Int32) (S : mT), fX12_chase_66 k v1 v2 v3 S = some (r, S') → ∀ ok : Bool, mW p l e (mR 3) s m args below meth c G 7 233 54500 (mQ below G args s b S' (some (.int r))) (ok, 66, [.ref (187), .int v1, .int v2, .int v3, .retAddr 0, .retAddr 0, .retAddr 0], [], mk b S) := by
  intro k
  induction k with
  | zero =>
    intro v1 v2 v3 S hf ok
    cases hf
  | succ k ih =>
    intro v1 v2 v3 S hf ok
    unfold fX12_chase_66 at hf
    refine msegT C kX12_chase 43 3 (g := (true, (if v2 ≤ v3 then 182 else 71), [.ref (187), .int v1, .int v2, .int v3, .retAddr 0, .retAddr 0, .retAddr 0], [], mk b S)) rfl rfl ?_
    by_cases hc : v2 ≤ v3
    · rw [if_pos hc] at hf ⊢
      exact mfor (L' := [.ref (187), .int v1, .retAddr 0, .retAddr 0, .retAddr 0, .retAddr 0, .retAddr 0]) ⟨Or.inr rfl, Or.inr rfl, Or.inl rfl, Or.inl rfl, Or.inl rfl, Or.inl rfl, Or.inl rfl, trivial⟩ (bX12_chase_182 C hr hk hf true)
    · rw [if_neg hc] at hf ⊢
      obtain ⟨hok, hf⟩ := grd_ex hf
      refine msegT C kX12_chase 46 5 (g := ((kI 222 (0 : Int32) && (kO 187 12 && true)), (if 0 ≤ (S.1 222 (mIx (0 : Int32))) then 182 else 80), [.ref (187), .int v1, .int v2, .int v3, .retAddr 0, .retAddr 0, .retAddr 0], [], mk b S)) rfl hok ?_
      by_cases hc : 0 ≤ (S.1 222 (mIx (0 : Int32)))
      · rw [if_pos hc] at hf ⊢
        exact mfor (L' := [.ref (187), .int v1, .retAddr 0, .retAddr 0, .retAddr 0, .retAddr 0, .retAddr 0]) ⟨Or.inr rfl, Or.inr rfl, Or.inl rfl, Or.inl rfl, Or.inl rfl, Or.inl rfl, Or.inl rfl, trivial⟩ (bX12_chase_182 C hr hk hf true)
      · rw [if_neg hc] at hf ⊢
        refine msegT C kX12_chase 51 2 (g := (true, 83, [.ref (187), .int v1, .int v2, .int v3, .int (0 : Int32), .retAddr 0, .retAddr 0], [], mk b S)) rfl rfl ?_
        exact mfor (L' := [.ref (187), .int v1, .int v2, .int v3, .int (0 : Int32), .retAddr 0, .retAddr 0]) ⟨Or.inr rfl, Or.inr rfl, Or.inr rfl, Or.inr rfl, Or.inr rfl, Or.inl rfl, Or.inl rfl, trivial⟩ (bX12_chase_83 C hr hk ih _ _ _ _ _ _ hf true)
theorem bX12_chase_29 (C : mCx p (mR 3) s m args meth c G cX12_chase RX12 7 false 233 54500 233 54500) (hr : meth.sig.returnType = (some .int)) (hk : meth.locks = false) {b : Bool} {S' : mT} {r : Int32} : ∀ (k : Nat) (v1 : Int32) (v2 : Int32) (S : mT), fX12_chase_29 k v1 v2 S = some (r, S') → ∀ ok : Bool, mW p l e (mR 3) s m args below meth c G 7 233 54500 (mQ below G args s b S' (some (.int r))) (ok, 29, [.ref (187), .int v1, .int v2, .retAddr 0, .retAddr 0, .retAddr 0, .retAddr 0], [], mk b S) := by
  intro k
  induction k with
  | zero =>
    intro v1 v2 S hf ok
    cases hf
  | succ k ih =>
    intro v1 v2 S hf ok
    unfold fX12_chase_29 at hf
    refine msegT C kX12_chase 19 3 (g := (true, (if (32 : Int32) ≤ v2 then 48 else 35), [.ref (187), .int v1, .int v2, .retAddr 0, .retAddr 0, .retAddr 0, .retAddr 0], [], mk b S)) rfl rfl ?_
    by_cases hc : (32 : Int32) ≤ v2
    · rw [if_pos hc] at hf ⊢
      obtain ⟨hok, hf⟩ := grd_ex hf
      refine msegT C kX12_chase 29 5 (g := ((kI 222 v1 && (kO 187 12 && true)), 55, [.ref (187), .int v1, .int v2, .retAddr 0, .retAddr 0, .retAddr 0, .retAddr 0], [], mk b (sI S 222 (mIx v1) (5 : Int32)))) rfl hok ?_
      obtain ⟨S4, eS4, hf⟩ := bnd_ex hf
      rw [← eS4]
      obtain ⟨hok, hf⟩ := grd_ex hf
      refine msegT C kX12_chase 34 5 (g := ((kI 223 (0 : Int32) && (kO 187 12 && true)), 62, [.ref (187), .int v1, .int v2, .retAddr 0, .retAddr 0, .retAddr 0, .retAddr 0], [], mk b (sI S4 223 (mIx (0 : Int32)) v1))) rfl hok ?_
      obtain ⟨S5, eS5, hf⟩ := bnd_ex hf
      rw [← eS5]
      refine msegT C kX12_chase 39 4 (g := (true, 66, [.ref (187), .int v1, .int (1 : Int32), .int (0 : Int32), .retAddr 0, .retAddr 0, .retAddr 0], [], mk b S5)) rfl rfl ?_
      exact mfor (L' := [.ref (187), .int v1, .int (1 : Int32), .int (0 : Int32), .retAddr 0, .retAddr 0, .retAddr 0]) ⟨Or.inr rfl, Or.inr rfl, Or.inr rfl, Or.inr rfl, Or.inl rfl, Or.inl rfl, Or.inl rfl, trivial⟩ (bX12_chase_66 C hr hk _ _ _ _ _ hf true)
    · rw [if_neg hc] at hf ⊢
      obtain ⟨hok, hf⟩ := grd_ex hf
      refine msegT C kX12_chase 22 5 (g := ((kI 222 v2 && (kO 187 12 && true)), 42, [.ref (187), .int v1, .int v2, .retAddr 0, .retAddr 0, .retAddr 0, .retAddr 0], [], mk b (sI S 222 (mIx v2) (-1 : Int32)))) rfl hok ?_
      obtain ⟨S6, eS6, hf⟩ := bnd_ex hf
      rw [← eS6]
      refine msegT C kX12_chase 27 1 (g := (true, 45, [.ref (187), .int v1, .int (v2 + (1 : Int32)), .retAddr 0, .retAddr 0, .retAddr 0, .retAddr 0], [], mk b S6)) rfl rfl ?_
      obtain ⟨x7, ex7, hf⟩ := bnd_ex hf
      rw [← ex7]
      refine msegT C kX12_chase 28 1 (g := (true, 29, [.ref (187), .int v1, .int x7, .retAddr 0, .retAddr 0, .retAddr 0, .retAddr 0], [], mk b S6)) rfl rfl ?_
      exact mfor (L' := [.ref (187), .int v1, .int x7, .retAddr 0, .retAddr 0, .retAddr 0, .retAddr 0]) ⟨Or.inr rfl, Or.inr rfl, Or.inr rfl, Or.inl rfl, Or.inl rfl, Or.inl rfl, Or.inl rfl, trivial⟩ (ih _ _ _ hf true)
theorem bX12_chase_0 (C : mCx p (mR 3) s m args meth c G cX12_chase RX12 7 false 233 54500 233 54500) (hr : meth.sig.returnType = (some .int)) (hk : meth.locks = false) {b : Bool} {S' : mT} {r : Int32} {S : mT} (hf : fX12_chase S = some (r, S')) (ok : Bool) : mW p l e (mR 3) s m args below meth c G 7 233 54500 (mQ below G args s b S' (some (.int r))) (ok, 0, [.ref (187), .retAddr 0, .retAddr 0, .retAddr 0, .retAddr 0, .retAddr 0, .retAddr 0], [], mk b S) := by
  unfold fX12_chase at hf
  obtain ⟨hok, hf⟩ := grd_ex hf
  refine msegT C kX12_chase 0 3 (g := ((kO 187 12 && true), 5, [.ref (187), .retAddr 0, .retAddr 0, .retAddr 0, .retAddr 0, .retAddr 0, .retAddr 0], [], mk b (sI S 187 51 (0 : Int32)))) rfl hok ?_
  obtain ⟨S1, eS1, hf⟩ := bnd_ex hf
  rw [← eS1]
  obtain ⟨hok, hf⟩ := grd_ex hf
  refine msegT C kX12_chase 3 3 (g := ((kO 187 12 && true), (if (S1.1 187 37) = 0 then 12 else 14), [.ref (187), .retAddr 0, .retAddr 0, .retAddr 0, .retAddr 0, .retAddr 0, .retAddr 0], [], mk b S1)) rfl hok ?_
  by_cases hc : (S1.1 187 37) = 0
  · rw [if_pos hc] at hf ⊢
    refine msegT C kX12_chase 6 1 (g := (true, 13, [.ref (187), .retAddr 0, .retAddr 0, .retAddr 0, .retAddr 0, .retAddr 0, .retAddr 0], [.int (-1 : Int32)], mk b S1)) rfl rfl ?_
    cases hf
    exact gret_i C hr hk (kX12_chase _ (List.mem_of_getElem? (i := 7) rfl)).1
  · rw [if_neg hc] at hf ⊢
    refine msegT C kX12_chase 8 1 (g := (true, 15, [.ref (187), .retAddr 0, .retAddr 0, .retAddr 0, .retAddr 0, .retAddr 0, .retAddr 0], [.ref (187)], mk b S1)) rfl rfl ?_
    obtain ⟨S2, hq, hf⟩ := bndV_ex hf
    refine mcall (kd := 0) (vs := [.ref (187)]) (rest := []) (r := none) (h' := mk b S2) (ok' := true) C lkRX12_460 (qX12_layRoad hq) (kX12_chase _ (List.mem_of_getElem? (i := 9) rfl)).1 ⟨_, _, rfl, rfl, Nat.le_of_ble_eq_true rfl, _, _, rfl, rfl, rfl⟩ (Nat.le_of_ble_eq_true rfl) (Nat.le_of_ble_eq_true rfl) (Nat.le_refl _) (Nat.le_refl _) (Nat.le_of_ble_eq_true rfl) ?_
    obtain ⟨hok, hf⟩ := grd_ex hf
    refine msegT C kX12_chase 10 7 (g := ((kO 187 12 && true), 27, [.ref (187), .int (((1 : Int32) <<< ((S2.1 187 37) &&& 31)) - (1 : Int32)), .retAddr 0, .retAddr 0, .retAddr 0, .retAddr 0, .retAddr 0], [], mk b S2)) rfl hok ?_
    obtain ⟨x3, ex3, hf⟩ := bnd_ex hf
    rw [← ex3]
    refine msegT C kX12_chase 17 2 (g := (true, 29, [.ref (187), .int x3, .int (0 : Int32), .retAddr 0, .retAddr 0, .retAddr 0, .retAddr 0], [], mk b S2)) rfl rfl ?_
    exact mfor (L' := [.ref (187), .int x3, .int (0 : Int32), .retAddr 0, .retAddr 0, .retAddr 0, .retAddr 0]) ⟨Or.inr rfl, Or.inr rfl, Or.inr rfl, Or.inl rfl, Or.inl rfl, Or.inl rfl, Or.inl rfl, trivial⟩ (bX12_chase_29 C hr hk _ _ _ _ hf true)
theorem qX12_chase {b : Bool} {S S' : mT} {r : Int32} (hf : fX12_chase S = some (r, S')) : mOk l mX12_chase 3 [.ref (187)] b S (some (.int r)) S' :=
  gMet (by decide) (Nat.le_of_ble_eq_true rfl) rfl (Nat.le_of_ble_eq_true rfl) (fun p e s m args below meth c G C hr hk => bX12_chase_0 C hr hk hf true)
theorem bX12_tight_0 (C : mCx p (mR 1) s m args meth c G cX12_tight RX12 1 false 233 54500 233 54500) (hr : meth.sig.returnType = (some .int)) (hk : meth.locks = false) {b : Bool} {S' : mT} {r : Int32} {v0 : Int32} {S : mT} (hf : fX12_tight v0 S = some (r, S')) (ok : Bool) : mW p l e (mR 1) s m args below meth c G 1 233 54500 (mQ below G args s b S' (some (.int r))) (ok, 0, [.int v0], [], mk b S) := by
  unfold fX12_tight at hf
  refine msegT C kX12_tight 0 2 (g := (true, (if (21 : Int) = v0.toInt then 80 else (if (38 : Int) = v0.toInt then 78 else (if (43 : Int) = v0.toInt then 84 else (if (45 : Int) = v0.toInt then 84 else (if (60 : Int) = v0.toInt then 82 else (if (61 : Int) = v0.toInt then 82 else (if (62 : Int) = v0.toInt then 82 else (if (124 : Int) = v0.toInt then 76 else 86)))))))), [.int v0], [], mk b S)) rfl rfl ?_
  by_cases hc : (21 : Int) = v0.toInt
  · rw [if_pos hc] at hf ⊢
    refine msegT C kX12_tight 6 1 (g := (true, 81, [.int v0], [.int (3 : Int32)], mk b S)) rfl rfl ?_
    cases hf
    exact gret_i C hr hk (kX12_tight _ (List.mem_of_getElem? (i := 7) rfl)).1
  · rw [if_neg hc] at hf ⊢
    by_cases hc : (38 : Int) = v0.toInt
    · rw [if_pos hc] at hf ⊢
      refine msegT C kX12_tight 4 1 (g := (true, 79, [.int v0], [.int (2 : Int32)], mk b S)) rfl rfl ?_
      cases hf
      exact gret_i C hr hk (kX12_tight _ (List.mem_of_getElem? (i := 5) rfl)).1
    · rw [if_neg hc] at hf ⊢
      by_cases hc : (43 : Int) = v0.toInt
      · rw [if_pos hc] at hf ⊢
        refine msegT C kX12_tight 10 1 (g := (true, 85, [.int v0], [.int (5 : Int32)], mk b S)) rfl rfl ?_
        cases hf
        exact gret_i C hr hk (kX12_tight _ (List.mem_of_getElem? (i := 11) rfl)).1
      · rw [if_neg hc] at hf ⊢
        by_cases hc : (45 : Int) = v0.toInt
        · rw [if_pos hc] at hf ⊢
          refine msegT C kX12_tight 10 1 (g := (true, 85, [.int v0], [.int (5 : Int32)], mk b S)) rfl rfl ?_
          cases hf
          exact gret_i C hr hk (kX12_tight _ (List.mem_of_getElem? (i := 11) rfl)).1
        · rw [if_neg hc] at hf ⊢
          by_cases hc : (60 : Int) = v0.toInt
          · rw [if_pos hc] at hf ⊢
            refine msegT C kX12_tight 8 1 (g := (true, 83, [.int v0], [.int (4 : Int32)], mk b S)) rfl rfl ?_
            cases hf
            exact gret_i C hr hk (kX12_tight _ (List.mem_of_getElem? (i := 9) rfl)).1
          · rw [if_neg hc] at hf ⊢
            by_cases hc : (61 : Int) = v0.toInt
            · rw [if_pos hc] at hf ⊢
              refine msegT C kX12_tight 8 1 (g := (true, 83, [.int v0], [.int (4 : Int32)], mk b S)) rfl rfl ?_
              cases hf
              exact gret_i C hr hk (kX12_tight _ (List.mem_of_getElem? (i := 9) rfl)).1
            · rw [if_neg hc] at hf ⊢
              by_cases hc : (62 : Int) = v0.toInt
              · rw [if_pos hc] at hf ⊢
                refine msegT C kX12_tight 8 1 (g := (true, 83, [.int v0], [.int (4 : Int32)], mk b S)) rfl rfl ?_
                cases hf
                exact gret_i C hr hk (kX12_tight _ (List.mem_of_getElem? (i := 9) rfl)).1
              · rw [if_neg hc] at hf ⊢
                by_cases hc : (124 : Int) = v0.toInt
                · rw [if_pos hc] at hf ⊢
                  refine msegT C kX12_tight 2 1 (g := (true, 77, [.int v0], [.int (1 : Int32)], mk b S)) rfl rfl ?_
                  cases hf
                  exact gret_i C hr hk (kX12_tight _ (List.mem_of_getElem? (i := 3) rfl)).1
                · rw [if_neg hc] at hf ⊢
                  refine msegT C kX12_tight 12 1 (g := (true, 88, [.int v0], [.int (6 : Int32)], mk b S)) rfl rfl ?_
                  cases hf
                  exact gret_i C hr hk (kX12_tight _ (List.mem_of_getElem? (i := 13) rfl)).1
theorem qX12_tight {b : Bool} {v0 : Int32} {S S' : mT} {r : Int32} (hf : fX12_tight v0 S = some (r, S')) : mOk l mX12_tight 1 [.int v0] b S (some (.int r)) S' :=
  gMet (by decide) (Nat.le_of_ble_eq_true rfl) rfl (Nat.le_of_ble_eq_true rfl) (fun p e s m args below meth c G C hr hk => bX12_tight_0 C hr hk hf true)
end GP
