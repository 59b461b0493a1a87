section GP
variable {p : Program} {l : Launch} {e : Env} {s : State} {m : MethodId} {args : Array Value} {below : List Frame} {meth : Method} {c : Code} {G : mG}
theorem bX12_isName_20 (C : mCx p (mR 2) s m args meth c G cX12_isName RX12 1 false 233 54500 233 54500) (hr : meth.sig.returnType = (some .boolean)) (hk : meth.locks = false) {b : Bool} {S' : mT} {r : Int32} {s0 : Int32} {S : mT} (hf : fX12_isName_20 s0 S = some (r, S')) (ok : Bool) : mW p l e (mR 2) s m args below meth c G 1 233 54500 (mQ below G args s b S' (some (.int r))) (ok, 20, [.retAddr 0], [.int s0], mk b S) := by
  unfold fX12_isName_20 at hf
  obtain ⟨hz, hf⟩ := grd_ex hf
  cases hf
  exact gret_z C hr hk (mFit_nar hz) (kX12_isName _ (List.mem_of_getElem? (i := 10) rfl)).1
theorem bX12_isName_19 (C : mCx p (mR 2) s m args meth c G cX12_isName RX12 1 false 233 54500 233 54500) (hr : meth.sig.returnType = (some .boolean)) (hk : meth.locks = false) {b : Bool} {S' : mT} {r : Int32} {S : mT} (hf : fX12_isName_19 S = some (r, S')) (ok : Bool) : mW p l e (mR 2) s m args below meth c G 1 233 54500 (mQ below G args s b S' (some (.int r))) (ok, 19, [.retAddr 0], [], mk b S) := by
  unfold fX12_isName_19 at hf
  refine msegT C kX12_isName 9 1 (g := (true, 20, [.retAddr 0], [.int (0 : Int32)], mk b S)) rfl rfl ?_
  exact mfor (L' := [.retAddr 0]) ⟨Or.inl rfl, trivial⟩ (bX12_isName_20 C hr hk hf true)
theorem bX12_isName_0 (C : mCx p (mR 2) s m args meth c G cX12_isName RX12 1 false 233 54500 233 54500) (hr : meth.sig.returnType = (some .boolean)) (hk : meth.locks = false) {b : Bool} {S' : mT} {r : Int32} {S : mT} (hf : fX12_isName S = some (r, S')) (ok : Bool) : mW p l e (mR 2) s m args below meth c G 1 233 54500 (mQ below G args s b S' (some (.int r))) (ok, 0, [.ref (187)], [], mk b S) := by
  unfold fX12_isName at hf
  obtain ⟨hok, hf⟩ := grd_ex hf
  refine msegT C kX12_isName 0 4 (g := ((kO 187 12 && true), (if (S.1 187 6) = (1 : Int32) then 8 else 19), [.ref (187)], [], mk b S)) rfl hok ?_
  by_cases hc : (S.1 187 6) = (1 : Int32)
  · rw [if_pos hc] at hf ⊢
    refine msegT C kX12_isName 4 1 (g := (true, 9, [.ref (187)], [.ref (187)], mk b S)) rfl rfl ?_
    obtain ⟨x2, S1, hq, hf⟩ := bndC_ex hf
    refine mcall (kd := 0) (vs := [.ref (187)]) (rest := []) (r := (some (.int x2))) (h' := mk b S1) (ok' := true) C lkRX12_225 (qX12_isOwn hq) (kX12_isName _ (List.mem_of_getElem? (i := 5) rfl)).1 ⟨_, _, rfl, rfl, Nat.le_of_ble_eq_true rfl, _, _, rfl, rfl, rfl⟩ (Nat.le_of_ble_eq_true rfl) (Nat.le_of_ble_eq_true rfl) (Nat.le_refl _) (Nat.le_refl _) (Nat.le_of_ble_eq_true rfl) ?_
    refine msegT C kX12_isName 6 1 (g := (true, (if x2 = 0 then 15 else 19), [.ref (187)], [], mk b S1)) rfl rfl ?_
    by_cases hc : x2 = 0
    · rw [if_pos hc] at hf ⊢
      refine msegT C kX12_isName 7 2 (g := (true, 20, [.ref (187)], [.int (1 : Int32)], mk b S1)) rfl rfl ?_
      exact mfor (L' := [.retAddr 0]) ⟨Or.inl rfl, trivial⟩ (bX12_isName_20 C hr hk hf true)
    · rw [if_neg hc] at hf ⊢
      exact mfor (L' := [.retAddr 0]) ⟨Or.inl rfl, trivial⟩ (bX12_isName_19 C hr hk hf true)
  · rw [if_neg hc] at hf ⊢
    exact mfor (L' := [.retAddr 0]) ⟨Or.inl rfl, trivial⟩ (bX12_isName_19 C hr hk hf true)
theorem qX12_isName {b : Bool} {S S' : mT} {r : Int32} (hf : fX12_isName S = some (r, S')) : mOk l mX12_isName 2 [.ref (187)] b S (some (.int r)) S' :=
  gMet (by decide) (Nat.le_of_ble_eq_true rfl) rfl (Nat.le_of_ble_eq_true rfl) (fun p e s m args below meth c G C hr hk => bX12_isName_0 C hr hk hf true)
theorem bX12_isOtherSeats_36 (C : mCx p (mR 1) s m args meth c G cX12_isOtherSeats RX12 3 false 233 54500 233 54500) (hr : meth.sig.returnType = (some .boolean)) (hk : meth.locks = false) {b : Bool} {S' : mT} {r : Int32} {rc4 : Int32 → Int32 → mT → Option (Int32 × mT)} (Hrc4 : ∀ (v1 : Int32) (v2 : Int32) (S : mT), rc4 v1 v2 S = some (r, S') → ∀ ok : Bool, mW p l e (mR 1) s m args below meth c G 3 233 54500 (mQ below G args s b S' (some (.int r))) (ok, 4, [.ref (187), .int v1, .int v2], [], mk b S)) {v2 : Int32} {s0 : Int32} {S : mT} (hf : fX12_isOtherSeats_36 rc4 v2 s0 S = some (r, S')) (ok : Bool) : mW p l e (mR 1) s m args below meth c G 3 233 54500 (mQ below G args s b S' (some (.int r))) (ok, 36, [.ref (187), .retAddr 0, .int v2], [.int s0], mk b S) := by
  unfold fX12_isOtherSeats_36 at hf
  refine msegT C kX12_isOtherSeats 22 2 (g := (true, 40, [.ref (187), .int s0, .int (v2 + (1 : Int32))], [], mk b S)) rfl rfl ?_
  obtain ⟨x1, ex1, hf⟩ := bnd_ex hf
  rw [← ex1]
  refine msegT C kX12_isOtherSeats 24 1 (g := (true, 4, [.ref (187), .int s0, .int x1], [], mk b S)) rfl rfl ?_
  exact mfor (L' := [.ref (187), .int s0, .int x1]) ⟨Or.inr rfl, Or.inr rfl, Or.inr rfl, trivial⟩ (Hrc4 _ _ _ hf true)
theorem bX12_isOtherSeats_31 (C : mCx p (mR 1) s m args meth c G cX12_isOtherSeats RX12 3 false 233 54500 233 54500) (hr : meth.sig.returnType = (some .boolean)) (hk : meth.locks = false) {b : Bool} {S' : mT} {r : Int32} {rc4 : Int32 → Int32 → mT → Option (Int32 × mT)} (Hrc4 : ∀ (v1 : Int32) (v2 : Int32) (S : mT), rc4 v1 v2 S = some (r, S') → ∀ ok : Bool, mW p l e (mR 1) s m args below meth c G 3 233 54500 (mQ below G args s b S' (some (.int r))) (ok, 4, [.ref (187), .int v1, .int v2], [], mk b S)) {v2 : Int32} {S : mT} (hf : fX12_isOtherSeats_31 rc4 v2 S = some (r, S')) (ok : Bool) : mW p l e (mR 1) s m args below meth c G 3 233 54500 (mQ below G args s b S' (some (.int r))) (ok, 31, [.ref (187), .retAddr 0, .int v2], [], mk b S) := by
  unfold fX12_isOtherSeats_31 at hf
  refine msegT C kX12_isOtherSeats 19 2 (g := (true, 36, [.ref (187), .retAddr 0, .int v2], [.int (1 : Int32)], mk b S)) rfl rfl ?_
  exact mfor (L' := [.ref (187), .retAddr 0, .int v2]) ⟨Or.inr rfl, Or.inl rfl, Or.inr rfl, trivial⟩ (bX12_isOtherSeats_36 C hr hk Hrc4 hf true)
theorem bX12_isOtherSeats_4 (C : mCx p (mR 1) s m args meth c G cX12_isOtherSeats RX12 3 false 233 54500 233 54500) (hr : meth.sig.returnType = (some .boolean)) (hk : meth.locks = false) {b : Bool} {S' : mT} {r : Int32} : ∀ (k : Nat) (v1 : Int32) (v2 : Int32) (S : mT), fX12_isOtherSeats_4 k v1 v2 S = some (r, S') → ∀ ok : Bool, mW p l e (mR 1) s m args below meth c G 3 233 54500 (mQ below G args s b S' (some (.int r))) (ok, 4, [.ref (187), .int v1, .int v2], [], mk b S) := by
  intro k
  induction k with
  | zero =>
    intro v1 v2 S hf ok
    cases hf
  | succ k ih =>
    intro v1 v2 S hf ok
    unfold fX12_isOtherSeats_4 at hf
    obtain ⟨hok, hf⟩ := grd_ex hf
    refine msegT C kX12_isOtherSeats 4 4 (g := ((kO 187 12 && true), (if (S.1 187 37) ≤ v2 then 43 else 12), [.ref (187), .int v1, .int v2], [], mk b S)) rfl hok ?_
    by_cases hc : (S.1 187 37) ≤ v2
    · rw [if_pos hc] at hf ⊢
      refine msegT C kX12_isOtherSeats 25 1 (g := (true, 44, [.ref (187), .int v1, .int v2], [.int v1], mk b S)) rfl rfl ?_
      obtain ⟨hz, hf⟩ := grd_ex hf
      cases hf
      exact gret_z C hr hk (mFit_nar hz) (kX12_isOtherSeats _ (List.mem_of_getElem? (i := 26) rfl)).1
    · rw [if_neg hc] at hf ⊢
      refine msegT C kX12_isOtherSeats 8 2 (g := (true, (if v1 = 0 then 16 else 31), [.ref (187), .int v1, .int v2], [], mk b S)) rfl rfl ?_
      by_cases hc : v1 = 0
      · rw [if_pos hc] at hf ⊢
        obtain ⟨hok, hf⟩ := grd_ex hf
        refine msegT C kX12_isOtherSeats 10 9 (g := ((kI 219 v2 && (kO 187 12 && (kI 217 v2 && (kO 187 12 && true)))), (if (S.1 217 (mIx v2)) = (S.1 219 (mIx v2)) then 35 else 31), [.ref (187), .int v1, .int v2], [], mk b S)) rfl hok ?_
        by_cases hc : (S.1 217 (mIx v2)) = (S.1 219 (mIx v2))
        · rw [if_pos hc] at hf ⊢
          refine msegT C kX12_isOtherSeats 21 1 (g := (true, 36, [.ref (187), .int v1, .int v2], [.int (0 : Int32)], mk b S)) rfl rfl ?_
          exact mfor (L' := [.ref (187), .retAddr 0, .int v2]) ⟨Or.inr rfl, Or.inl rfl, Or.inr rfl, trivial⟩ (bX12_isOtherSeats_36 C hr hk ih hf true)
        · rw [if_neg hc] at hf ⊢
          exact mfor (L' := [.ref (187), .retAddr 0, .int v2]) ⟨Or.inr rfl, Or.inl rfl, Or.inr rfl, trivial⟩ (bX12_isOtherSeats_31 C hr hk ih hf true)
      · rw [if_neg hc] at hf ⊢
        exact mfor (L' := [.ref (187), .retAddr 0, .int v2]) ⟨Or.inr rfl, Or.inl rfl, Or.inr rfl, trivial⟩ (bX12_isOtherSeats_31 C hr hk ih hf true)
theorem bX12_isOtherSeats_0 (C : mCx p (mR 1) s m args meth c G cX12_isOtherSeats RX12 3 false 233 54500 233 54500) (hr : meth.sig.returnType = (some .boolean)) (hk : meth.locks = false) {b : Bool} {S' : mT} {r : Int32} {S : mT} (hf : fX12_isOtherSeats S = some (r, S')) (ok : Bool) : mW p l e (mR 1) s m args below meth c G 3 233 54500 (mQ below G args s b S' (some (.int r))) (ok, 0, [.ref (187), .retAddr 0, .retAddr 0], [], mk b S) := by
  unfold fX12_isOtherSeats at hf
  refine msegT C kX12_isOtherSeats 0 4 (g := (true, 4, [.ref (187), .int (0 : Int32), .int (0 : Int32)], [], mk b S)) rfl rfl ?_
  exact mfor (L' := [.ref (187), .int (0 : Int32), .int (0 : Int32)]) ⟨Or.inr rfl, Or.inr rfl, Or.inr rfl, trivial⟩ (bX12_isOtherSeats_4 C hr hk _ _ _ _ hf true)
theorem qX12_isOtherSeats {b : Bool} {S S' : mT} {r : Int32} (hf : fX12_isOtherSeats S = some (r, S')) : mOk l mX12_isOtherSeats 1 [.ref (187)] b S (some (.int r)) S' :=
  gMet (by decide) (Nat.le_of_ble_eq_true rfl) rfl (Nat.le_of_ble_eq_true rfl) (fun p e s m args below meth c G C hr hk => bX12_isOtherSeats_0 C hr hk hf true)
theorem bX12_keepSeats_2 (C : mCx p (mR 1) s m args meth c G cX12_keepSeats RX12 2 false 233 54500 233 54500) (hr : meth.sig.returnType = none) (hk : meth.locks = false) {b : Bool} {S' : mT} : ∀ (k : Nat) (v1 : Int32) (S : mT), fX12_keepSeats_2 k v1 S = some S' → ∀ ok : Bool, mW p l e (mR 1) s m args below meth c G 2 233 54500 (mQ below G args s b S' none) (ok, 2, [.ref (187), .int v1], [], mk b S) := by
  intro k
  induction k with
  | zero =>
    intro v1 S hf ok
    cases hf
  | succ k ih =>
    intro v1 S hf ok
    unfold fX12_keepSeats_2 at hf
    refine msegT C kX12_keepSeats 2 3 (g := (true, (if (5 : Int32) ≤ v1 then 25 else 7), [.ref (187), .int v1], [], mk b S)) rfl rfl ?_
    by_cases hc : (5 : Int32) ≤ v1
    · rw [if_pos hc] at hf ⊢
      cases hf
      exact gret_v C hr hk (kX12_keepSeats _ (List.mem_of_getElem? (i := 15) rfl)).1
    · rw [if_neg hc] at hf ⊢
      obtain ⟨hok, hf⟩ := grd_ex hf
      refine msegT C kX12_keepSeats 5 8 (g := ((kI 219 v1 && (kI 217 v1 && (kO 187 12 && (kO 187 12 && true)))), 19, [.ref (187), .int v1], [], mk b (sI S 219 (mIx v1) (S.1 217 (mIx v1))))) rfl hok ?_
      obtain ⟨S1, eS1, hf⟩ := bnd_ex hf
      rw [← eS1]
      refine msegT C kX12_keepSeats 13 1 (g := (true, 22, [.ref (187), .int (v1 + (1 : Int32))], [], mk b S1)) rfl rfl ?_
      obtain ⟨x2, ex2, hf⟩ := bnd_ex hf
      rw [← ex2]
      refine msegT C kX12_keepSeats 14 1 (g := (true, 2, [.ref (187), .int x2], [], mk b S1)) rfl rfl ?_
      exact mfor (L' := [.ref (187), .int x2]) ⟨Or.inr rfl, Or.inr rfl, trivial⟩ (ih _ _ hf true)
theorem bX12_keepSeats_0 (C : mCx p (mR 1) s m args meth c G cX12_keepSeats RX12 2 false 233 54500 233 54500) (hr : meth.sig.returnType = none) (hk : meth.locks = false) {b : Bool} {S' : mT} {S : mT} (hf : fX12_keepSeats S = some S') (ok : Bool) : mW p l e (mR 1) s m args below meth c G 2 233 54500 (mQ below G args s b S' none) (ok, 0, [.ref (187), .retAddr 0], [], mk b S) := by
  unfold fX12_keepSeats at hf
  refine msegT C kX12_keepSeats 0 2 (g := (true, 2, [.ref (187), .int (0 : Int32)], [], mk b S)) rfl rfl ?_
  exact mfor (L' := [.ref (187), .int (0 : Int32)]) ⟨Or.inr rfl, Or.inr rfl, trivial⟩ (bX12_keepSeats_2 C hr hk _ _ _ hf true)
theorem qX12_keepSeats {b : Bool} {S S' : mT} (hf : fX12_keepSeats S = some S') : mOk l mX12_keepSeats 1 [.ref (187)] b S none S' :=
  gMet (by decide) (Nat.le_of_ble_eq_true rfl) rfl (Nat.le_of_ble_eq_true rfl) (fun p e s m args below meth c G C hr hk => bX12_keepSeats_0 C hr hk hf true)
theorem bX12_liarsOf_99 (C : mCx p (mR 2) s m args meth c G cX12_liarsOf RX12 8 false 233 54500 233 54500) (hr : meth.sig.returnType = (some .int)) (hk : meth.locks = false) {b : Bool} {S' : mT} {r : Int32} {rc6 : Int32 → Int32 → Int32 → Int32 → Int32 → mT → Option (Int32 × mT)} (Hrc6 : ∀ (v1 : Int32) (v2 : Int32) (v3 : Int32) (v4 : Int32) (v5 : Int32) (S : mT), rc6 v1 v2 v3 v4 v5 S = some (r, S') → ∀ ok : Bool, mW p l e (mR 2) s m args below meth c G 8 233 54500 (mQ below G args s b S' (some (.int r))) (ok, 6, [.ref (187), .int v1, .int v2, .int v3, .int v4, .int v5, .retAddr 0, .retAddr 0], [], mk b S)) {rc62 : Int32 → Int32 → Int32 → Int32 → Int32 → Int32 → Int32 → mT → Option (Int32 × mT)} (Hrc62 : ∀ (v1 : Int32) (v2 : Int32) (v3 : Int32) (v4 : Int32) (v5 : Int32) (v6 : Int32) (v7 : Int32) (S : mT), rc62 v1 v2 v3 v4 v5 v6 v7 S = some (r, S') → ∀ ok : Bool, mW p l e (mR 2) s m args below meth c G 8 233 54500 (mQ below G args s b S' (some (.int r))) (ok, 62, [.ref (187), .int v1, .int v2, .int v3, .int v4, .int v5, .int v6, .int v7], [], mk b S)) {v1 : Int32} {v2 : Int32} {v3 : Int32} {v4 : Int32} {v5 : Int32} {v6 : Int32} {v7 : Int32} {S : mT} (hf : fX12_liarsOf_99 rc6 rc62 v1 v2 v3 v4 v5 v6 v7 S = some (r, S')) (ok : Bool) : mW p l e (mR 2) s m args below meth c G 8 233 54500 (mQ below G args s b S' (some (.int r))) (ok, 99, [.ref (187), .int v1, .int v2, .int v3, .int v4, .int v5, .int v6, .int v7], [], mk b S) := by
  unfold fX12_liarsOf_99 at hf
  refine msegT C kX12_liarsOf 54 1 (g := (true, 102, [.ref (187), .int v1, .int v2, .int v3, .int v4, .int v5, .int v6, .int (v7 + (1 : Int32))], [], mk b S)) rfl rfl ?_
  obtain ⟨x8, ex8, hf⟩ := bnd_ex hf
  rw [← ex8]
  refine msegT C kX12_liarsOf 55 1 (g := (true, 62, [.ref (187), .int v1, .int v2, .int v3, .int v4, .int v5, .int v6, .int x8], [], mk b S)) rfl rfl ?_
  exact mfor (L' := [.ref (187), .int v1, .int v2, .int v3, .int v4, .int v5, .int v6, .int x8]) ⟨Or.inr rfl, Or.inr rfl, Or.inr rfl, Or.inr rfl, Or.inr rfl, Or.inr rfl, Or.inr rfl, Or.inr rfl, trivial⟩ (Hrc62 _ _ _ _ _ _ _ _ hf true)
theorem bX12_liarsOf_142 (C : mCx p (mR 2) s m args meth c G cX12_liarsOf RX12 8 false 233 54500 233 54500) (hr : meth.sig.returnType = (some .int)) (hk : meth.locks = false) {b : Bool} {S' : mT} {r : Int32} {rc6 : Int32 → Int32 → Int32 → Int32 → Int32 → mT → Option (Int32 × mT)} (Hrc6 : ∀ (v1 : Int32) (v2 : Int32) (v3 : Int32) (v4 : Int32) (v5 : Int32) (S : mT), rc6 v1 v2 v3 v4 v5 S = some (r, S') → ∀ ok : Bool, mW p l e (mR 2) s m args below meth c G 8 233 54500 (mQ below G args s b S' (some (.int r))) (ok, 6, [.ref (187), .int v1, .int v2, .int v3, .int v4, .int v5, .retAddr 0, .retAddr 0], [], mk b S)) {v1 : Int32} {v2 : Int32} {v3 : Int32} {v4 : Int32} {v5 : Int32} {S : mT} (hf : fX12_liarsOf_142 rc6 v1 v2 v3 v4 v5 S = some (r, S')) (ok : Bool) : mW p l e (mR 2) s m args below meth c G 8 233 54500 (mQ below G args s b S' (some (.int r))) (ok, 142, [.ref (187), .int v1, .int v2, .int v3, .int v4, .int v5, .retAddr 0, .retAddr 0], [], mk b S) := by
  unfold fX12_liarsOf_142 at hf
  refine msegT C kX12_liarsOf 75 1 (g := (true, 145, [.ref (187), .int v1, .int v2, .int v3, .int v4, .int (v5 + (1 : Int32)), .retAddr 0, .retAddr 0], [], mk b S)) rfl rfl ?_
  obtain ⟨x1, ex1, hf⟩ := bnd_ex hf
  rw [← ex1]
  refine msegT C kX12_liarsOf 76 1 (g := (true, 6, [.ref (187), .int v1, .int v2, .int v3, .int v4, .int x1, .retAddr 0, .retAddr 0], [], mk b S)) rfl rfl ?_
  exact mfor (L' := [.ref (187), .int v1, .int v2, .int v3, .int v4, .int x1, .retAddr 0, .retAddr 0]) ⟨Or.inr rfl, Or.inr rfl, Or.inr rfl, Or.inr rfl, Or.inr rfl, Or.inr rfl, Or.inl rfl, Or.inl rfl, trivial⟩ (Hrc6 _ _ _ _ _ _ hf true)
theorem bX12_liarsOf_136 (C : mCx p (mR 2) s m args meth c G cX12_liarsOf RX12 8 false 233 54500 233 54500) (hr : meth.sig.returnType = (some .int)) (hk : meth.locks = false) {b : Bool} {S' : mT} {r : Int32} {rc6 : Int32 → Int32 → Int32 → Int32 → Int32 → mT → Option (Int32 × mT)} (Hrc6 : ∀ (v1 : Int32) (v2 : Int32) (v3 : Int32) (v4 : Int32) (v5 : Int32) (S : mT), rc6 v1 v2 v3 v4 v5 S = some (r, S') → ∀ ok : Bool, mW p l e (mR 2) s m args below meth c G 8 233 54500 (mQ below G args s b S' (some (.int r))) (ok, 6, [.ref (187), .int v1, .int v2, .int v3, .int v4, .int v5, .retAddr 0, .retAddr 0], [], mk b S)) {v1 : Int32} {v2 : Int32} {v3 : Int32} {v5 : Int32} {s0 : Int32} {s1 : Int32} {S : mT} (hf : fX12_liarsOf_136 rc6 v1 v2 v3 v5 s0 s1 S = some (r, S')) (ok : Bool) : mW p l e (mR 2) s m args below meth c G 8 233 54500 (mQ below G args s b S' (some (.int r))) (ok, 136, [.ref (187), .int v1, .int v2, .int v3, .retAddr 0, .int v5, .retAddr 0, .retAddr 0], [.int s0, .int s1], mk b S) := by
  unfold fX12_liarsOf_136 at hf
  obtain ⟨x6, S5, hq, hf⟩ := bndC_ex hf
  refine mcall (kd := 1) (vs := [.int s0]) (rest := [.int s1]) (r := (some (.int x6))) (h' := mk b S5) (ok' := true) C lkRX12_307 (qX12_truth hq) (kX12_liarsOf _ (List.mem_of_getElem? (i := 72) rfl)).1 rfl (Nat.le_of_ble_eq_true rfl) (Nat.le_of_ble_eq_true rfl) (Nat.le_refl _) (Nat.le_refl _) (Nat.le_of_ble_eq_true rfl) ?_
  refine msegT C kX12_liarsOf 73 2 (g := (true, 142, [.ref (187), .int v1, .int v2, .int v3, .int (s1 + x6), .int v5, .retAddr 0, .retAddr 0], [], mk b S5)) rfl rfl ?_
  obtain ⟨x7, ex7, hf⟩ := bnd_ex hf
  rw [← ex7]
  exact mfor (L' := [.ref (187), .int v1, .int v2, .int v3, .int x7, .int v5, .retAddr 0, .retAddr 0]) ⟨Or.inr rfl, Or.inr rfl, Or.inr rfl, Or.inr rfl, Or.inr rfl, Or.inr rfl, Or.inl rfl, Or.inl rfl, trivial⟩ (bX12_liarsOf_142 C hr hk Hrc6 hf true)
theorem bX12_liarsOf_131 (C : mCx p (mR 2) s m args meth c G cX12_liarsOf RX12 8 false 233 54500 233 54500) (hr : meth.sig.returnType = (some .int)) (hk : meth.locks = false) {b : Bool} {S' : mT} {r : Int32} {rc6 : Int32 → Int32 → Int32 → Int32 → Int32 → mT → Option (Int32 × mT)} (Hrc6 : ∀ (v1 : Int32) (v2 : Int32) (v3 : Int32) (v4 : Int32) (v5 : Int32) (S : mT), rc6 v1 v2 v3 v4 v5 S = some (r, S') → ∀ ok : Bool, mW p l e (mR 2) s m args below meth c G 8 233 54500 (mQ below G args s b S' (some (.int r))) (ok, 6, [.ref (187), .int v1, .int v2, .int v3, .int v4, .int v5, .retAddr 0, .retAddr 0], [], mk b S)) {v1 : Int32} {v2 : Int32} {v3 : Int32} {v5 : Int32} {s0 : Int32} {S : mT} (hf : fX12_liarsOf_131 rc6 v1 v2 v3 v5 s0 S = some (r, S')) (ok : Bool) : mW p l e (mR 2) s m args below meth c G 8 233 54500 (mQ below G args s b S' (some (.int r))) (ok, 131, [.ref (187), .int v1, .int v2, .int v3, .retAddr 0, .int v5, .retAddr 0, .retAddr 0], [.int s0], mk b S) := by
  unfold fX12_liarsOf_131 at hf
  refine msegT C kX12_liarsOf 69 2 (g := (true, 136, [.ref (187), .int v1, .int v2, .int v3, .retAddr 0, .int v5, .retAddr 0, .retAddr 0], [.int (1 : Int32), .int s0], mk b S)) rfl rfl ?_
  exact mfor (L' := [.ref (187), .int v1, .int v2, .int v3, .retAddr 0, .int v5, .retAddr 0, .retAddr 0]) ⟨Or.inr rfl, Or.inr rfl, Or.inr rfl, Or.inr rfl, Or.inl rfl, Or.inr rfl, Or.inl rfl, Or.inl rfl, trivial⟩ (bX12_liarsOf_136 C hr hk Hrc6 hf true)
theorem bX12_liarsOf_62 (C : mCx p (mR 2) s m args meth c G cX12_liarsOf RX12 8 false 233 54500 233 54500) (hr : meth.sig.returnType = (some .int)) (hk : meth.locks = false) {b : Bool} {S' : mT} {r : Int32} {rc6 : Int32 → Int32 → Int32 → Int32 → Int32 → mT → Option (Int32 × mT)} (Hrc6 : ∀ (v1 : Int32) (v2 : Int32) (v3 : Int32) (v4 : Int32) (v5 : Int32) (S : mT), rc6 v1 v2 v3 v4 v5 S = some (r, S') → ∀ ok : Bool, mW p l e (mR 2) s m args below meth c G 8 233 54500 (mQ below G args s b S' (some (.int r))) (ok, 6, [.ref (187), .int v1, .int v2, .int v3, .int v4, .int v5, .retAddr 0, .retAddr 0], [], mk b S)) : ∀ (k : Nat) (v1 : Int32) (v2 : Int32) (v3 : Int32) (v4 : Int32) (v5 : Int32) (v6 : Int32) (v7 : Int32) (S : mT), fX12_liarsOf_62 rc6 k v1 v2 v3 v4 v5 v6 v7 S = some (r, S') → ∀ ok : Bool, mW p l e (mR 2) s m args below meth c G 8 233 54500 (mQ below G args s b S' (some (.int r))) (ok, 62, [.ref (187), .int v1, .int v2, .int v3, .int v4, .int v5, .int v6, .int v7], [], mk b S) := by
  intro k
  induction k with
  | zero =>
    intro v1 v2 v3 v4 v5 v6 v7 S hf ok
    cases hf
  | succ k ih =>
    intro v1 v2 v3 v4 v5 v6 v7 S hf ok
    unfold fX12_liarsOf_62 at hf
    obtain ⟨hok, hf⟩ := grd_ex hf
    refine msegT C kX12_liarsOf 33 4 (g := ((kO 187 12 && true), (if (S.1 187 37) ≤ v7 then 105 else 71), [.ref (187), .int v1, .int v2, .int v3, .int v4, .int v5, .int v6, .int v7], [], mk b S)) rfl hok ?_
    by_cases hc : (S.1 187 37) ≤ v7
    · rw [if_pos hc] at hf ⊢
      obtain ⟨hok, hf⟩ := grd_ex hf
      refine msegT C kX12_liarsOf 56 7 (g := ((kI 225 v5 && (kO 187 12 && true)), (if v6 < (S.1 225 (mIx v5)) then 131 else 119), [.ref (187), .int v1, .int v2, .int v3, .int v4, .int v5, .int v6, .int v7], [.int v4], mk b S)) rfl hok ?_
      by_cases hc : v6 < (S.1 225 (mIx v5))
      · rw [if_pos hc] at hf ⊢
        exact mfor (L' := [.ref (187), .int v1, .int v2, .int v3, .retAddr 0, .int v5, .retAddr 0, .retAddr 0]) ⟨Or.inr rfl, Or.inr rfl, Or.inr rfl, Or.inr rfl, Or.inl rfl, Or.inr rfl, Or.inl rfl, Or.inl rfl, trivial⟩ (bX12_liarsOf_131 C hr hk Hrc6 hf true)
      · rw [if_neg hc] at hf ⊢
        obtain ⟨hok, hf⟩ := grd_ex hf
        refine msegT C kX12_liarsOf 63 6 (g := ((kI 226 v5 && (kO 187 12 && true)), (if v6 ≤ (S.1 226 (mIx v5)) then 135 else 131), [.ref (187), .int v1, .int v2, .int v3, .int v4, .int v5, .int v6, .int v7], [.int v4], mk b S)) rfl hok ?_
        by_cases hc : v6 ≤ (S.1 226 (mIx v5))
        · rw [if_pos hc] at hf ⊢
          refine msegT C kX12_liarsOf 71 1 (g := (true, 136, [.ref (187), .int v1, .int v2, .int v3, .int v4, .int v5, .int v6, .int v7], [.int (0 : Int32), .int v4], mk b S)) rfl rfl ?_
          exact mfor (L' := [.ref (187), .int v1, .int v2, .int v3, .retAddr 0, .int v5, .retAddr 0, .retAddr 0]) ⟨Or.inr rfl, Or.inr rfl, Or.inr rfl, Or.inr rfl, Or.inl rfl, Or.inr rfl, Or.inl rfl, Or.inl rfl, trivial⟩ (bX12_liarsOf_136 C hr hk Hrc6 hf true)
        · rw [if_neg hc] at hf ⊢
          exact mfor (L' := [.ref (187), .int v1, .int v2, .int v3, .retAddr 0, .int v5, .retAddr 0, .retAddr 0]) ⟨Or.inr rfl, Or.inr rfl, Or.inr rfl, Or.inr rfl, Or.inl rfl, Or.inr rfl, Or.inl rfl, Or.inl rfl, trivial⟩ (bX12_liarsOf_131 C hr hk Hrc6 hf true)
    · rw [if_neg hc] at hf ⊢
      obtain ⟨hok, hf⟩ := grd_ex hf
      refine msegT C kX12_liarsOf 37 10 (g := ((kI 224 v5 && (kO 187 12 && true)), (if (((S.1 224 (mIx v5)) >>> (v7 &&& 31)) &&& (1 : Int32)) = (1 : Int32) then 87 else 99), [.ref (187), .int v1, .int v2, .int v3, .int v4, .int v5, .int v6, .int v7], [], mk b S)) rfl hok ?_
      by_cases hc : (((S.1 224 (mIx v5)) >>> (v7 &&& 31)) &&& (1 : Int32)) = (1 : Int32)
      · rw [if_pos hc] at hf ⊢
        refine msegT C kX12_liarsOf 47 4 (g := (true, 93, [.ref (187), .int v1, .int v2, .int v3, .int v4, .int v5, .int v6, .int v7], [.int v7, .int v1, .ref (187), .int v6], mk b S)) rfl rfl ?_
        obtain ⟨x3, S2, hq, hf⟩ := bndC_ex hf
        refine mcall (kd := 0) (vs := [.ref (187), .int v1, .int v7]) (rest := [.int v6]) (r := (some (.int x3))) (h' := mk b S2) (ok' := true) C lkRX12_470 (qX12_headOf hq) (kX12_liarsOf _ (List.mem_of_getElem? (i := 51) rfl)).1 ⟨_, _, rfl, rfl, Nat.le_of_ble_eq_true rfl, _, _, rfl, rfl, rfl⟩ (Nat.le_of_ble_eq_true rfl) (Nat.le_of_ble_eq_true rfl) (Nat.le_refl _) (Nat.le_refl _) (Nat.le_of_ble_eq_true rfl) ?_
        refine msegT C kX12_liarsOf 52 2 (g := (true, 99, [.ref (187), .int v1, .int v2, .int v3, .int v4, .int v5, .int (v6 + x3), .int v7], [], mk b S2)) rfl rfl ?_
        obtain ⟨x4, ex4, hf⟩ := bnd_ex hf
        rw [← ex4]
        exact mfor (L' := [.ref (187), .int v1, .int v2, .int v3, .int v4, .int v5, .int x4, .int v7]) ⟨Or.inr rfl, Or.inr rfl, Or.inr rfl, Or.inr rfl, Or.inr rfl, Or.inr rfl, Or.inr rfl, Or.inr rfl, trivial⟩ (bX12_liarsOf_99 C hr hk Hrc6 ih hf true)
      · rw [if_neg hc] at hf ⊢
        exact mfor (L' := [.ref (187), .int v1, .int v2, .int v3, .int v4, .int v5, .int v6, .int v7]) ⟨Or.inr rfl, Or.inr rfl, Or.inr rfl, Or.inr rfl, Or.inr rfl, Or.inr rfl, Or.inr rfl, Or.inr rfl, trivial⟩ (bX12_liarsOf_99 C hr hk Hrc6 ih hf true)
theorem bX12_liarsOf_56 (C : mCx p (mR 2) s m args meth c G cX12_liarsOf RX12 8 false 233 54500 233 54500) (hr : meth.sig.returnType = (some .int)) (hk : meth.locks = false) {b : Bool} {S' : mT} {r : Int32} {rc6 : Int32 → Int32 → Int32 → Int32 → Int32 → mT → Option (Int32 × mT)} (Hrc6 : ∀ (v1 : Int32) (v2 : Int32) (v3 : Int32) (v4 : Int32) (v5 : Int32) (S : mT), rc6 v1 v2 v3 v4 v5 S = some (r, S') → ∀ ok : Bool, mW p l e (mR 2) s m args below meth c G 8 233 54500 (mQ below G args s b S' (some (.int r))) (ok, 6, [.ref (187), .int v1, .int v2, .int v3, .int v4, .int v5, .retAddr 0, .retAddr 0], [], mk b S)) {v1 : Int32} {v2 : Int32} {v3 : Int32} {v4 : Int32} {v5 : Int32} {S : mT} (hf : fX12_liarsOf_56 rc6 v1 v2 v3 v4 v5 S = some (r, S')) (ok : Bool) : mW p l e (mR 2) s m args below meth c G 8 233 54500 (mQ below G args s b S' (some (.int r))) (ok, 56, [.ref (187), .int v1, .int v2, .int v3, .int v4, .int v5, .retAddr 0, .retAddr 0], [], mk b S) := by
  unfold fX12_liarsOf_56 at hf
  refine msegT C kX12_liarsOf 29 4 (g := (true, 62, [.ref (187), .int v1, .int v2, .int v3, .int v4, .int v5, .int (0 : Int32), .int (0 : Int32)], [], mk b S)) rfl rfl ?_
  exact mfor (L' := [.ref (187), .int v1, .int v2, .int v3, .int v4, .int v5, .int (0 : Int32), .int (0 : Int32)]) ⟨Or.inr rfl, Or.inr rfl, Or.inr rfl, Or.inr rfl, Or.inr rfl, Or.inr rfl, Or.inr rfl, Or.inr rfl, trivial⟩ (bX12_liarsOf_62 C hr hk Hrc6 _ _ _ _ _ _ _ _ _ hf true)
theorem bX12_liarsOf_148 (C : mCx p (mR 2) s m args meth c G cX12_liarsOf RX12 8 false 233 54500 233 54500) (hr : meth.sig.returnType = (some .int)) (hk : meth.locks = false) {b : Bool} {S' : mT} {r : Int32} {v4 : Int32} {S : mT} (hf : fX12_liarsOf_148 v4 S = some (r, S')) (ok : Bool) : mW p l e (mR 2) s m args below meth c G 8 233 54500 (mQ below G args s b S' (some (.int r))) (ok, 148, [.retAddr 0, .retAddr 0, .retAddr 0, .retAddr 0, .int v4, .retAddr 0, .retAddr 0, .retAddr 0], [], mk b S) := by
  unfold fX12_liarsOf_148 at hf
  refine msegT C kX12_liarsOf 77 1 (g := (true, 150, [.retAddr 0, .retAddr 0, .retAddr 0, .retAddr 0, .int v4, .retAddr 0, .retAddr 0, .retAddr 0], [.int v4], mk b S)) rfl rfl ?_
  cases hf
  exact gret_i C hr hk (kX12_liarsOf _ (List.mem_of_getElem? (i := 78) rfl)).1
theorem bX12_liarsOf_6 (C : mCx p (mR 2) s m args meth c G cX12_liarsOf RX12 8 false 233 54500 233 54500) (hr : meth.sig.returnType = (some .int)) (hk : meth.locks = false) {b : Bool} {S' : mT} {r : Int32} : ∀ (k : Nat) (v1 : Int32) (v2 : Int32) (v3 : Int32) (v4 : Int32) (v5 : Int32) (S : mT), fX12_liarsOf_6 k v1 v2 v3 v4 v5 S = some (r, S') → ∀ ok : Bool, mW p l e (mR 2) s m args below meth c G 8 233 54500 (mQ below G args s b S' (some (.int r))) (ok, 6, [.ref (187), .int v1, .int v2, .int v3, .int v4, .int v5, .retAddr 0, .retAddr 0], [], mk b S) := by
  intro k
  induction k with
  | zero =>
    intro v1 v2 v3 v4 v5 S hf ok
    cases hf
  | succ k ih =>
    intro v1 v2 v3 v4 v5 S hf ok
    unfold fX12_liarsOf_6 at hf
    obtain ⟨hok, hf⟩ := grd_ex hf
    refine msegT C kX12_liarsOf 4 4 (g := ((kO 187 12 && true), (if (S.1 187 66) ≤ v5 then 148 else 15), [.ref (187), .int v1, .int v2, .int v3, .int v4, .int v5, .retAddr 0, .retAddr 0], [], mk b S)) rfl hok ?_
    by_cases hc : (S.1 187 66) ≤ v5
    · rw [if_pos hc] at hf ⊢
      exact mfor (L' := [.retAddr 0, .retAddr 0, .retAddr 0, .retAddr 0, .int v4, .retAddr 0, .retAddr 0, .retAddr 0]) ⟨Or.inl rfl, Or.inl rfl, Or.inl rfl, Or.inl rfl, Or.inr rfl, Or.inl rfl, Or.inl rfl, Or.inl rfl, trivial⟩ (bX12_liarsOf_148 C hr hk hf true)
    · rw [if_neg hc] at hf ⊢
      refine msegT C kX12_liarsOf 8 3 (g := (true, (if v3 < v4 then 148 else 21), [.ref (187), .int v1, .int v2, .int v3, .int v4, .int v5, .retAddr 0, .retAddr 0], [], mk b S)) rfl rfl ?_
      by_cases hc : v3 < v4
      · rw [if_pos hc] at hf ⊢
        exact mfor (L' := [.retAddr 0, .retAddr 0, .retAddr 0, .retAddr 0, .int v4, .retAddr 0, .retAddr 0, .retAddr 0]) ⟨Or.inl rfl, Or.inl rfl, Or.inl rfl, Or.inl rfl, Or.inr rfl, Or.inl rfl, Or.inl rfl, Or.inl rfl, trivial⟩ (bX12_liarsOf_148 C hr hk hf true)
      · rw [if_neg hc] at hf ⊢
        obtain ⟨hok, hf⟩ := grd_ex hf
        refine msegT C kX12_liarsOf 11 6 (g := ((kI 227 v5 && (kO 187 12 && true)), (if v2 < (S.1 227 (mIx v5)) then 142 else 32), [.ref (187), .int v1, .int v2, .int v3, .int v4, .int v5, .retAddr 0, .retAddr 0], [], mk b S)) rfl hok ?_
        by_cases hc : v2 < (S.1 227 (mIx v5))
        · rw [if_pos hc] at hf ⊢
          exact mfor (L' := [.ref (187), .int v1, .int v2, .int v3, .int v4, .int v5, .retAddr 0, .retAddr 0]) ⟨Or.inr rfl, Or.inr rfl, Or.inr rfl, Or.inr rfl, Or.inr rfl, Or.inr rfl, Or.inl rfl, Or.inl rfl, trivial⟩ (bX12_liarsOf_142 C hr hk ih hf true)
        · rw [if_neg hc] at hf ⊢
          obtain ⟨hok, hf⟩ := grd_ex hf
          refine msegT C kX12_liarsOf 17 5 (g := ((kI 228 v5 && (kO 187 12 && true)), (if (S.1 228 (mIx v5)) < 0 then 56 else 42), [.ref (187), .int v1, .int v2, .int v3, .int v4, .int v5, .retAddr 0, .retAddr 0], [], mk b S)) rfl hok ?_
          by_cases hc : (S.1 228 (mIx v5)) < 0
          · rw [if_pos hc] at hf ⊢
            exact mfor (L' := [.ref (187), .int v1, .int v2, .int v3, .int v4, .int v5, .retAddr 0, .retAddr 0]) ⟨Or.inr rfl, Or.inr rfl, Or.inr rfl, Or.inr rfl, Or.inr rfl, Or.inr rfl, Or.inl rfl, Or.inl rfl, trivial⟩ (bX12_liarsOf_56 C hr hk ih hf true)
          · rw [if_neg hc] at hf ⊢
            obtain ⟨hok, hf⟩ := grd_ex hf
            refine msegT C kX12_liarsOf 22 6 (g := ((kI 228 v5 && (kO 187 12 && true)), (if v2 < (S.1 228 (mIx v5)) then 56 else 53), [.ref (187), .int v1, .int v2, .int v3, .int v4, .int v5, .retAddr 0, .retAddr 0], [], mk b S)) rfl hok ?_
            by_cases hc : v2 < (S.1 228 (mIx v5))
            · rw [if_pos hc] at hf ⊢
              exact mfor (L' := [.ref (187), .int v1, .int v2, .int v3, .int v4, .int v5, .retAddr 0, .retAddr 0]) ⟨Or.inr rfl, Or.inr rfl, Or.inr rfl, Or.inr rfl, Or.inr rfl, Or.inr rfl, Or.inl rfl, Or.inl rfl, trivial⟩ (bX12_liarsOf_56 C hr hk ih hf true)
            · rw [if_neg hc] at hf ⊢
              refine msegT C kX12_liarsOf 28 1 (g := (true, 142, [.ref (187), .int v1, .int v2, .int v3, .int v4, .int v5, .retAddr 0, .retAddr 0], [], mk b S)) rfl rfl ?_
              exact mfor (L' := [.ref (187), .int v1, .int v2, .int v3, .int v4, .int v5, .retAddr 0, .retAddr 0]) ⟨Or.inr rfl, Or.inr rfl, Or.inr rfl, Or.inr rfl, Or.inr rfl, Or.inr rfl, Or.inl rfl, Or.inl rfl, trivial⟩ (bX12_liarsOf_142 C hr hk ih hf true)
theorem bX12_liarsOf_0 (C : mCx p (mR 2) s m args meth c G cX12_liarsOf RX12 8 false 233 54500 233 54500) (hr : meth.sig.returnType = (some .int)) (hk : meth.locks = false) {b : Bool} {S' : mT} {r : Int32} {v1 : Int32} {v2 : Int32} {v3 : Int32} {S : mT} (hf : fX12_liarsOf v1 v2 v3 S = some (r, S')) (ok : Bool) : mW p l e (mR 2) s m args below meth c G 8 233 54500 (mQ below G args s b S' (some (.int r))) (ok, 0, [.ref (187), .int v1, .int v2, .int v3, .retAddr 0, .retAddr 0, .retAddr 0, .retAddr 0], [], mk b S) := by
  unfold fX12_liarsOf at hf
  refine msegT C kX12_liarsOf 0 4 (g := (true, 6, [.ref (187), .int v1, .int v2, .int v3, .int (0 : Int32), .int (0 : Int32), .retAddr 0, .retAddr 0], [], mk b S)) rfl rfl ?_
  exact mfor (L' := [.ref (187), .int v1, .int v2, .int v3, .int (0 : Int32), .int (0 : Int32), .retAddr 0, .retAddr 0]) ⟨Or.inr rfl, Or.inr rfl, Or.inr rfl, Or.inr rfl, Or.inr rfl, Or.inr rfl, Or.inl rfl, Or.inl rfl, trivial⟩ (bX12_liarsOf_6 C hr hk _ _ _ _ _ _ _ hf true)
theorem qX12_liarsOf {b : Bool} {v1 : Int32} {v2 : Int32} {v3 : Int32} {S S' : mT} {r : Int32} (hf : fX12_liarsOf v1 v2 v3 S = some (r, S')) : mOk l mX12_liarsOf 2 [.ref (187), .int v1, .int v2, .int v3] b S (some (.int r)) S' :=
  gMet (by decide) (Nat.le_of_ble_eq_true rfl) rfl (Nat.le_of_ble_eq_true rfl) (fun p e s m args below meth c G C hr hk => bX12_liarsOf_0 C hr hk hf true)
theorem bX12_rowsOf_4 (C : mCx p (mR 1) s m args meth c G cX12_rowsOf RX12 3 false 233 54500 233 54500) (hr : meth.sig.returnType = (some .int)) (hk : meth.locks = false) {b : Bool} {S' : mT} {r : Int32} : ∀ (k : Nat) (v1 : Int32) (v2 : Int32) (S : mT), fX12_rowsOf_4 k v1 v2 S = some (r, S') → ∀ ok : Bool, mW p l e (mR 1) s m args below meth c G 3 233 54500 (mQ below G args s b S' (some (.int r))) (ok, 4, [.ref (187), .int v1, .int v2], [], mk b S) := by
  intro k
  induction k with
  | zero =>
    intro v1 v2 S hf ok
    cases hf
  | succ k ih =>
    intro v1 v2 S hf ok
    unfold fX12_rowsOf_4 at hf
    obtain ⟨hok, hf⟩ := grd_ex hf
    refine msegT C kX12_rowsOf 4 4 (g := ((kO 187 12 && true), (if (S.1 187 37) ≤ v2 then 23 else 12), [.ref (187), .int v1, .int v2], [], mk b S)) rfl hok ?_
    by_cases hc : (S.1 187 37) ≤ v2
    · rw [if_pos hc] at hf ⊢
      refine msegT C kX12_rowsOf 14 1 (g := (true, 24, [.ref (187), .int v1, .int v2], [.int v1], mk b S)) rfl rfl ?_
      cases hf
      exact gret_i C hr hk (kX12_rowsOf _ (List.mem_of_getElem? (i := 15) rfl)).1
    · rw [if_neg hc] at hf ⊢
      refine msegT C kX12_rowsOf 8 4 (g := (true, 17, [.ref (187), .int (v1 * (8 : Int32)), .int v2], [], mk b S)) rfl rfl ?_
      obtain ⟨x1, ex1, hf⟩ := bnd_ex hf
      rw [← ex1]
      refine msegT C kX12_rowsOf 12 1 (g := (true, 20, [.ref (187), .int x1, .int (v2 + (1 : Int32))], [], mk b S)) rfl rfl ?_
      obtain ⟨x2, ex2, hf⟩ := bnd_ex hf
      rw [← ex2]
      refine msegT C kX12_rowsOf 13 1 (g := (true, 4, [.ref (187), .int x1, .int x2], [], mk b S)) rfl rfl ?_
      exact mfor (L' := [.ref (187), .int x1, .int x2]) ⟨Or.inr rfl, Or.inr rfl, Or.inr rfl, trivial⟩ (ih _ _ _ hf true)
theorem bX12_rowsOf_0 (C : mCx p (mR 1) s m args meth c G cX12_rowsOf RX12 3 false 233 54500 233 54500) (hr : meth.sig.returnType = (some .int)) (hk : meth.locks = false) {b : Bool} {S' : mT} {r : Int32} {S : mT} (hf : fX12_rowsOf S = some (r, S')) (ok : Bool) : mW p l e (mR 1) s m args below meth c G 3 233 54500 (mQ below G args s b S' (some (.int r))) (ok, 0, [.ref (187), .retAddr 0, .retAddr 0], [], mk b S) := by
  unfold fX12_rowsOf at hf
  refine msegT C kX12_rowsOf 0 4 (g := (true, 4, [.ref (187), .int (1 : Int32), .int (0 : Int32)], [], mk b S)) rfl rfl ?_
  exact mfor (L' := [.ref (187), .int (1 : Int32), .int (0 : Int32)]) ⟨Or.inr rfl, Or.inr rfl, Or.inr rfl, trivial⟩ (bX12_rowsOf_4 C hr hk _ _ _ _ hf true)
theorem qX12_rowsOf {b : Bool} {S S' : mT} {r : Int32} (hf : fX12_rowsOf S = some (r, S')) : mOk l mX12_rowsOf 1 [.ref (187)] b S (some (.int r)) S' :=
  gMet (by decide) (Nat.le_of_ble_eq_true rfl) rfl (Nat.le_of_ble_eq_true rfl) (fun p e s m args below meth c G C hr hk => bX12_rowsOf_0 C hr hk hf true)
theorem bX12_layTruths_101 (C : mCx p (mR 3) s m args meth c G cX12_layTruths RX12 5 false 233 54500 233 54500) (hr : meth.sig.returnType = none) (hk : meth.locks = false) {b : Bool} {S' : mT} {rc33 : Int32 → Int32 → Int32 → mT → Option (mT)} (Hrc33 : ∀ (v1 : Int32) (v2 : Int32) (v3 : Int32) (S : mT), rc33 v1 v2 v3 S = some S' → ∀ ok : Bool, mW p l e (mR 3) s m args below meth c G 5 233 54500 (mQ below G args s b S' none) (ok, 33, [.ref (187), .int v1, .int v2, .int v3, .retAddr 0], [], mk b S)) {v1 : Int32} {v2 : Int32} {v3 : Int32} {S : mT} (hf : fX12_layTruths_101 rc33 v1 v2 v3 S = some S') (ok : Bool) : mW p l e (mR 3) s m args below meth c G 5 233 54500 (mQ below G args s b S' none) (ok, 101, [.ref (187), .int v1, .int v2, .int v3, .retAddr 0], [], mk b S) := by
  unfold fX12_layTruths_101 at hf
  refine msegT C kX12_layTruths 59 1 (g := (true, 104, [.ref (187), .int v1, .int v2, .int (v3 + (1 : Int32)), .retAddr 0], [], mk b S)) rfl rfl ?_
  obtain ⟨x13, ex13, hf⟩ := bnd_ex hf
  rw [← ex13]
  refine msegT C kX12_layTruths 60 1 (g := (true, 33, [.ref (187), .int v1, .int v2, .int x13, .retAddr 0], [], mk b S)) rfl rfl ?_
  exact mfor (L' := [.ref (187), .int v1, .int v2, .int x13, .retAddr 0]) ⟨Or.inr rfl, Or.inr rfl, Or.inr rfl, Or.inr rfl, Or.inl rfl, trivial⟩ (Hrc33 _ _ _ _ hf true)
theorem bX12_layTruths_64 (C : mCx p (mR 3) s m args meth c G cX12_layTruths RX12 5 false 233 54500 233 54500) (hr : meth.sig.returnType = none) (hk : meth.locks = false) {b : Bool} {S' : mT} {rc33 : Int32 → Int32 → Int32 → mT → Option (mT)} (Hrc33 : ∀ (v1 : Int32) (v2 : Int32) (v3 : Int32) (S : mT), rc33 v1 v2 v3 S = some S' → ∀ ok : Bool, mW p l e (mR 3) s m args below meth c G 5 233 54500 (mQ below G args s b S' none) (ok, 33, [.ref (187), .int v1, .int v2, .int v3, .retAddr 0], [], mk b S)) : ∀ (k : Nat) (v1 : Int32) (v2 : Int32) (v3 : Int32) (v4 : Int32) (S : mT), fX12_layTruths_64 rc33 k v1 v2 v3 v4 S = some S' → ∀ ok : Bool, mW p l e (mR 3) s m args below meth c G 5 233 54500 (mQ below G args s b S' none) (ok, 64, [.ref (187), .int v1, .int v2, .int v3, .int v4], [], mk b S) := by
  intro k
  induction k with
  | zero =>
    intro v1 v2 v3 v4 S hf ok
    cases hf
  | succ k ih =>
    intro v1 v2 v3 v4 S hf ok
    unfold fX12_layTruths_64 at hf
    obtain ⟨hok, hf⟩ := grd_ex hf
    refine msegT C kX12_layTruths 38 4 (g := ((kO 187 12 && true), (if (S.1 187 37) ≤ v4 then 101 else 73), [.ref (187), .int v1, .int v2, .int v3, .int v4], [], mk b S)) rfl hok ?_
    by_cases hc : (S.1 187 37) ≤ v4
    · rw [if_pos hc] at hf ⊢
      exact mfor (L' := [.ref (187), .int v1, .int v2, .int v3, .retAddr 0]) ⟨Or.inr rfl, Or.inr rfl, Or.inr rfl, Or.inr rfl, Or.inl rfl, trivial⟩ (bX12_layTruths_101 C hr hk Hrc33 hf true)
    · rw [if_neg hc] at hf ⊢
      obtain ⟨hok, hf⟩ := grd_ex hf
      refine msegT C kX12_layTruths 42 8 (g := ((kO 187 12 && true), 86, [.ref (187), .int v1, .int v2, .int v3, .int v4], [.int v4, .int v3, .ref (187), .int ((8 : Int32) * v4), .ref 229], mk b S)) rfl hok ?_
      obtain ⟨x10, S9, hq, hf⟩ := bndC_ex hf
      refine mcall (kd := 0) (vs := [.ref (187), .int v3, .int v4]) (rest := [.int ((8 : Int32) * v4), .ref 229]) (r := (some (.int x10))) (h' := mk b S9) (ok' := true) C lkRX12_470 (qX12_headOf hq) (kX12_layTruths _ (List.mem_of_getElem? (i := 50) rfl)).1 ⟨_, _, rfl, rfl, Nat.le_of_ble_eq_true rfl, _, _, rfl, rfl, rfl⟩ (Nat.le_of_ble_eq_true rfl) (Nat.le_of_ble_eq_true rfl) (Nat.le_refl _) (Nat.le_refl _) (Nat.le_of_ble_eq_true rfl) ?_
      obtain ⟨hok, hf⟩ := grd_ex hf
      refine msegT C kX12_layTruths 51 6 (g := ((kI 229 (((8 : Int32) * v4) + x10) && (kI 229 (((8 : Int32) * v4) + x10) && true)), 95, [.ref (187), .int v1, .int v2, .int v3, .int v4], [], mk b (sI S9 229 (mIx (((8 : Int32) * v4) + x10)) ((S9.1 229 (mIx (((8 : Int32) * v4) + x10))) + (1 : Int32))))) rfl hok ?_
      obtain ⟨S11, eS11, hf⟩ := bnd_ex hf
      rw [← eS11]
      refine msegT C kX12_layTruths 57 1 (g := (true, 98, [.ref (187), .int v1, .int v2, .int v3, .int (v4 + (1 : Int32))], [], mk b S11)) rfl rfl ?_
      obtain ⟨x12, ex12, hf⟩ := bnd_ex hf
      rw [← ex12]
      refine msegT C kX12_layTruths 58 1 (g := (true, 64, [.ref (187), .int v1, .int v2, .int v3, .int x12], [], mk b S11)) rfl rfl ?_
      exact mfor (L' := [.ref (187), .int v1, .int v2, .int v3, .int x12]) ⟨Or.inr rfl, Or.inr rfl, Or.inr rfl, Or.inr rfl, Or.inr rfl, trivial⟩ (ih _ _ _ _ _ hf true)
theorem bX12_layTruths_33 (C : mCx p (mR 3) s m args meth c G cX12_layTruths RX12 5 false 233 54500 233 54500) (hr : meth.sig.returnType = none) (hk : meth.locks = false) {b : Bool} {S' : mT} : ∀ (k : Nat) (v1 : Int32) (v2 : Int32) (v3 : Int32) (S : mT), fX12_layTruths_33 k v1 v2 v3 S = some S' → ∀ ok : Bool, mW p l e (mR 3) s m args below meth c G 5 233 54500 (mQ below G args s b S' none) (ok, 33, [.ref (187), .int v1, .int v2, .int v3, .retAddr 0], [], mk b S) := by
  intro k
  induction k with
  | zero =>
    intro v1 v2 v3 S hf ok
    cases hf
  | succ k ih =>
    intro v1 v2 v3 S hf ok
    unfold fX12_layTruths_33 at hf
    refine msegT C kX12_layTruths 20 3 (g := (true, (if v2 ≤ v3 then 107 else 38), [.ref (187), .int v1, .int v2, .int v3, .retAddr 0], [], mk b S)) rfl rfl ?_
    by_cases hc : v2 ≤ v3
    · rw [if_pos hc] at hf ⊢
      cases hf
      exact gret_v C hr hk (kX12_layTruths _ (List.mem_of_getElem? (i := 61) rfl)).1
    · rw [if_neg hc] at hf ⊢
      refine msegT C kX12_layTruths 23 4 (g := (true, 42, [.ref (187), .int v1, .int v2, .int v3, .retAddr 0], [.int (0 : Int32), .int v1, .int v3, .ref (187)], mk b S)) rfl rfl ?_
      obtain ⟨x7, S6, hq, hf⟩ := bndC_ex hf
      refine mcall (kd := 0) (vs := [.ref (187), .int v3, .int v1, .int (0 : Int32)]) (rest := []) (r := (some (.int x7))) (h' := mk b S6) (ok' := true) C lkRX12_476 (qX12_liarsOf hq) (kX12_layTruths _ (List.mem_of_getElem? (i := 27) rfl)).1 ⟨_, _, rfl, rfl, Nat.le_of_ble_eq_true rfl, _, _, rfl, rfl, rfl⟩ (Nat.le_of_ble_eq_true rfl) (Nat.le_of_ble_eq_true rfl) (Nat.le_refl _) (Nat.le_refl _) (Nat.le_of_ble_eq_true rfl) ?_
      refine msegT C kX12_layTruths 28 1 (g := (true, (if x7 ≤ 0 then 51 else 48), [.ref (187), .int v1, .int v2, .int v3, .retAddr 0], [], mk b S6)) rfl rfl ?_
      by_cases hc : x7 ≤ 0
      · rw [if_pos hc] at hf ⊢
        obtain ⟨hok, hf⟩ := grd_ex hf
        refine msegT C kX12_layTruths 30 6 (g := ((kO 187 12 && (kO 187 12 && true)), 61, [.ref (187), .int v1, .int v2, .int v3, .retAddr 0], [], mk b (sI S6 187 69 ((S6.1 187 69) + (1 : Int32))))) rfl hok ?_
        obtain ⟨S8, eS8, hf⟩ := bnd_ex hf
        rw [← eS8]
        refine msegT C kX12_layTruths 36 2 (g := (true, 64, [.ref (187), .int v1, .int v2, .int v3, .int (0 : Int32)], [], mk b S8)) rfl rfl ?_
        exact mfor (L' := [.ref (187), .int v1, .int v2, .int v3, .int (0 : Int32)]) ⟨Or.inr rfl, Or.inr rfl, Or.inr rfl, Or.inr rfl, Or.inr rfl, trivial⟩ (bX12_layTruths_64 C hr hk ih _ _ _ _ _ _ hf true)
      · rw [if_neg hc] at hf ⊢
        refine msegT C kX12_layTruths 29 1 (g := (true, 101, [.ref (187), .int v1, .int v2, .int v3, .retAddr 0], [], mk b S6)) rfl rfl ?_
        exact mfor (L' := [.ref (187), .int v1, .int v2, .int v3, .retAddr 0]) ⟨Or.inr rfl, Or.inr rfl, Or.inr rfl, Or.inr rfl, Or.inl rfl, trivial⟩ (bX12_layTruths_101 C hr hk ih hf true)
theorem bX12_layTruths_2 (C : mCx p (mR 3) s m args meth c G cX12_layTruths RX12 5 false 233 54500 233 54500) (hr : meth.sig.returnType = none) (hk : meth.locks = false) {b : Bool} {S' : mT} : ∀ (k : Nat) (v1 : Int32) (v2 : Int32) (S : mT), fX12_layTruths_2 k v1 v2 S = some S' → ∀ ok : Bool, mW p l e (mR 3) s m args below meth c G 5 233 54500 (mQ below G args s b S' none) (ok, 2, [.ref (187), .int v1, .int v2, .retAddr 0, .retAddr 0], [], mk b S) := by
  intro k
  induction k with
  | zero =>
    intro v1 v2 S hf ok
    cases hf
  | succ k ih =>
    intro v1 v2 S hf ok
    unfold fX12_layTruths_2 at hf
    refine msegT C kX12_layTruths 2 3 (g := (true, (if (40 : Int32) ≤ v2 then 21 else 8), [.ref (187), .int v1, .int v2, .retAddr 0, .retAddr 0], [], mk b S)) rfl rfl ?_
    by_cases hc : (40 : Int32) ≤ v2
    · rw [if_pos hc] at hf ⊢
      obtain ⟨hok, hf⟩ := grd_ex hf
      refine msegT C kX12_layTruths 12 3 (g := ((kO 187 12 && true), 26, [.ref (187), .int v1, .int v2, .retAddr 0, .retAddr 0], [], mk b (sI S 187 69 (0 : Int32)))) rfl hok ?_
      obtain ⟨S1, eS1, hf⟩ := bnd_ex hf
      rw [← eS1]
      refine msegT C kX12_layTruths 15 1 (g := (true, 27, [.ref (187), .int v1, .int v2, .retAddr 0, .retAddr 0], [.ref (187)], mk b S1)) rfl rfl ?_
      obtain ⟨x3, S2, hq, hf⟩ := bndC_ex hf
      refine mcall (kd := 0) (vs := [.ref (187)]) (rest := []) (r := (some (.int x3))) (h' := mk b S2) (ok' := true) C lkRX12_430 (qX12_rowsOf hq) (kX12_layTruths _ (List.mem_of_getElem? (i := 16) rfl)).1 ⟨_, _, rfl, rfl, Nat.le_of_ble_eq_true rfl, _, _, rfl, rfl, rfl⟩ (Nat.le_of_ble_eq_true rfl) (Nat.le_of_ble_eq_true rfl) (Nat.le_refl _) (Nat.le_refl _) (Nat.le_of_ble_eq_true rfl) ?_
      refine msegT C kX12_layTruths 17 3 (g := (true, 33, [.ref (187), .int v1, .int x3, .int (0 : Int32), .retAddr 0], [], mk b S2)) rfl rfl ?_
      exact mfor (L' := [.ref (187), .int v1, .int x3, .int (0 : Int32), .retAddr 0]) ⟨Or.inr rfl, Or.inr rfl, Or.inr rfl, Or.inr rfl, Or.inl rfl, trivial⟩ (bX12_layTruths_33 C hr hk _ _ _ _ _ hf true)
    · rw [if_neg hc] at hf ⊢
      obtain ⟨hok, hf⟩ := grd_ex hf
      refine msegT C kX12_layTruths 5 5 (g := ((kI 229 v2 && (kO 187 12 && true)), 15, [.ref (187), .int v1, .int v2, .retAddr 0, .retAddr 0], [], mk b (sI S 229 (mIx v2) (0 : Int32)))) rfl hok ?_
      obtain ⟨S4, eS4, hf⟩ := bnd_ex hf
      rw [← eS4]
      refine msegT C kX12_layTruths 10 1 (g := (true, 18, [.ref (187), .int v1, .int (v2 + (1 : Int32)), .retAddr 0, .retAddr 0], [], mk b S4)) rfl rfl ?_
      obtain ⟨x5, ex5, hf⟩ := bnd_ex hf
      rw [← ex5]
      refine msegT C kX12_layTruths 11 1 (g := (true, 2, [.ref (187), .int v1, .int x5, .retAddr 0, .retAddr 0], [], mk b S4)) rfl rfl ?_
      exact mfor (L' := [.ref (187), .int v1, .int x5, .retAddr 0, .retAddr 0]) ⟨Or.inr rfl, Or.inr rfl, Or.inr rfl, Or.inl rfl, Or.inl rfl, trivial⟩ (ih _ _ _ hf true)
theorem bX12_layTruths_0 (C : mCx p (mR 3) s m args meth c G cX12_layTruths RX12 5 false 233 54500 233 54500) (hr : meth.sig.returnType = none) (hk : meth.locks = false) {b : Bool} {S' : mT} {v1 : Int32} {S : mT} (hf : fX12_layTruths v1 S = some S') (ok : Bool) : mW p l e (mR 3) s m args below meth c G 5 233 54500 (mQ below G args s b S' none) (ok, 0, [.ref (187), .int v1, .retAddr 0, .retAddr 0, .retAddr 0], [], mk b S) := by
  unfold fX12_layTruths at hf
  refine msegT C kX12_layTruths 0 2 (g := (true, 2, [.ref (187), .int v1, .int (0 : Int32), .retAddr 0, .retAddr 0], [], mk b S)) rfl rfl ?_
  exact mfor (L' := [.ref (187), .int v1, .int (0 : Int32), .retAddr 0, .retAddr 0]) ⟨Or.inr rfl, Or.inr rfl, Or.inr rfl, Or.inl rfl, Or.inl rfl, trivial⟩ (bX12_layTruths_2 C hr hk _ _ _ _ hf true)
theorem qX12_layTruths {b : Bool} {v1 : Int32} {S S' : mT} (hf : fX12_layTruths v1 S = some S') : mOk l mX12_layTruths 3 [.ref (187), .int v1] b S none S' :=
  gMet (by decide) (Nat.le_of_ble_eq_true rfl) rfl (Nat.le_of_ble_eq_true rfl) (fun p e s m args below meth c G C hr hk => bX12_layTruths_0 C hr hk hf true)
theorem bX12_mostOf_40 (C : mCx p (mR 1) s m args meth c G cX12_mostOf RX12 4 false 233 54500 233 54500) (hr : meth.sig.returnType = (some .int)) (hk : meth.locks = false) {b : Bool} {S' : mT} {r : Int32} {rc4 : Int32 → Int32 → Int32 → mT → Option (Int32 × mT)} (Hrc4 : ∀ (v1 : Int32) (v2 : Int32) (v3 : Int32) (S : mT), rc4 v1 v2 v3 S = some (r, S') → ∀ ok : Bool, mW p l e (mR 1) s m args below meth c G 4 233 54500 (mQ below G args s b S' (some (.int r))) (ok, 4, [.ref (187), .int v1, .int v2, .int v3], [], mk b S)) {v1 : Int32} {v3 : Int32} {s0 : Int32} {S : mT} (hf : fX12_mostOf_40 rc4 v1 v3 s0 S = some (r, S')) (ok : Bool) : mW p l e (mR 1) s m args below meth c G 4 233 54500 (mQ below G args s b S' (some (.int r))) (ok, 40, [.ref (187), .int v1, .retAddr 0, .int v3], [.int s0], mk b S) := by
  unfold fX12_mostOf_40 at hf
  refine msegT C kX12_mostOf 27 2 (g := (true, 44, [.ref (187), .int v1, .int s0, .int (v3 + (1 : Int32))], [], mk b S)) rfl rfl ?_
  obtain ⟨x1, ex1, hf⟩ := bnd_ex hf
  rw [← ex1]
  refine msegT C kX12_mostOf 29 1 (g := (true, 4, [.ref (187), .int v1, .int s0, .int x1], [], mk b S)) rfl rfl ?_
  exact mfor (L' := [.ref (187), .int v1, .int s0, .int x1]) ⟨Or.inr rfl, Or.inr rfl, Or.inr rfl, Or.inr rfl, trivial⟩ (Hrc4 _ _ _ _ hf true)
theorem bX12_mostOf_4 (C : mCx p (mR 1) s m args meth c G cX12_mostOf RX12 4 false 233 54500 233 54500) (hr : meth.sig.returnType = (some .int)) (hk : meth.locks = false) {b : Bool} {S' : mT} {r : Int32} : ∀ (k : Nat) (v1 : Int32) (v2 : Int32) (v3 : Int32) (S : mT), fX12_mostOf_4 k v1 v2 v3 S = some (r, S') → ∀ ok : Bool, mW p l e (mR 1) s m args below meth c G 4 233 54500 (mQ below G args s b S' (some (.int r))) (ok, 4, [.ref (187), .int v1, .int v2, .int v3], [], mk b S) := by
  intro k
  induction k with
  | zero =>
    intro v1 v2 v3 S hf ok
    cases hf
  | succ k ih =>
    intro v1 v2 v3 S hf ok
    unfold fX12_mostOf_4 at hf
    refine msegT C kX12_mostOf 4 3 (g := (true, (if (7 : Int32) < v3 then 47 else 10), [.ref (187), .int v1, .int v2, .int v3], [], mk b S)) rfl rfl ?_
    by_cases hc : (7 : Int32) < v3
    · rw [if_pos hc] at hf ⊢
      refine msegT C kX12_mostOf 30 1 (g := (true, 48, [.ref (187), .int v1, .int v2, .int v3], [.int v2], mk b S)) rfl rfl ?_
      cases hf
      exact gret_i C hr hk (kX12_mostOf _ (List.mem_of_getElem? (i := 31) rfl)).1
    · rw [if_neg hc] at hf ⊢
      obtain ⟨hok, hf⟩ := grd_ex hf
      refine msegT C kX12_mostOf 7 10 (g := ((kI 229 (((8 : Int32) * v1) + v3) && (kO 187 12 && true)), (if (S.1 229 (mIx (((8 : Int32) * v1) + v3))) ≤ v2 then 39 else 25), [.ref (187), .int v1, .int v2, .int v3], [], mk b S)) rfl hok ?_
      by_cases hc : (S.1 229 (mIx (((8 : Int32) * v1) + v3))) ≤ v2
      · rw [if_pos hc] at hf ⊢
        refine msegT C kX12_mostOf 26 1 (g := (true, 40, [.ref (187), .int v1, .int v2, .int v3], [.int v2], mk b S)) rfl rfl ?_
        exact mfor (L' := [.ref (187), .int v1, .retAddr 0, .int v3]) ⟨Or.inr rfl, Or.inr rfl, Or.inl rfl, Or.inr rfl, trivial⟩ (bX12_mostOf_40 C hr hk ih hf true)
      · rw [if_neg hc] at hf ⊢
        obtain ⟨hok, hf⟩ := grd_ex hf
        refine msegT C kX12_mostOf 17 9 (g := ((kI 229 (((8 : Int32) * v1) + v3) && (kO 187 12 && true)), 40, [.ref (187), .int v1, .int v2, .int v3], [.int (S.1 229 (mIx (((8 : Int32) * v1) + v3)))], mk b S)) rfl hok ?_
        exact mfor (L' := [.ref (187), .int v1, .retAddr 0, .int v3]) ⟨Or.inr rfl, Or.inr rfl, Or.inl rfl, Or.inr rfl, trivial⟩ (bX12_mostOf_40 C hr hk ih hf true)
theorem bX12_mostOf_0 (C : mCx p (mR 1) s m args meth c G cX12_mostOf RX12 4 false 233 54500 233 54500) (hr : meth.sig.returnType = (some .int)) (hk : meth.locks = false) {b : Bool} {S' : mT} {r : Int32} {v1 : Int32} {S : mT} (hf : fX12_mostOf v1 S = some (r, S')) (ok : Bool) : mW p l e (mR 1) s m args below meth c G 4 233 54500 (mQ below G args s b S' (some (.int r))) (ok, 0, [.ref (187), .int v1, .retAddr 0, .retAddr 0], [], mk b S) := by
  unfold fX12_mostOf at hf
  refine msegT C kX12_mostOf 0 4 (g := (true, 4, [.ref (187), .int v1, .int (0 : Int32), .int (0 : Int32)], [], mk b S)) rfl rfl ?_
  exact mfor (L' := [.ref (187), .int v1, .int (0 : Int32), .int (0 : Int32)]) ⟨Or.inr rfl, Or.inr rfl, Or.inr rfl, Or.inr rfl, trivial⟩ (bX12_mostOf_4 C hr hk _ _ _ _ _ hf true)
theorem qX12_mostOf {b : Bool} {v1 : Int32} {S S' : mT} {r : Int32} (hf : fX12_mostOf v1 S = some (r, S')) : mOk l mX12_mostOf 1 [.ref (187), .int v1] b S (some (.int r)) S' :=
  gMet (by decide) (Nat.le_of_ble_eq_true rfl) rfl (Nat.le_of_ble_eq_true rfl) (fun p e s m args below meth c G C hr hk => bX12_mostOf_0 C hr hk hf true)
theorem bX12_knock_16 (C : mCx p (mR 4) s m args meth c G cX12_knock RX12 5 false 233 54500 233 54500) (hr : meth.sig.returnType = (some .int)) (hk : meth.locks = false) {b : Bool} {S' : mT} {r : Int32} {S : mT} (hf : fX12_knock_16 S = some (r, S')) (ok : Bool) : mW p l e (mR 4) s m args below meth c G 5 233 54500 (mQ below G args s b S' (some (.int r))) (ok, 16, [.retAddr 0, .retAddr 0, .retAddr 0, .retAddr 0, .retAddr 0], [], mk b S) := by
  unfold fX12_knock_16 at hf
  refine msegT C kX12_knock 8 1 (g := (true, 17, [.retAddr 0, .retAddr 0, .retAddr 0, .retAddr 0, .retAddr 0], [.int (-1 : Int32)], mk b S)) rfl rfl ?_
  cases hf
  exact gret_i C hr hk (kX12_knock _ (List.mem_of_getElem? (i := 9) rfl)).1
theorem bX12_knock_66 (C : mCx p (mR 4) s m args meth c G cX12_knock RX12 5 false 233 54500 233 54500) (hr : meth.sig.returnType = (some .int)) (hk : meth.locks = false) {b : Bool} {S' : mT} {r : Int32} {rc37 : Int32 → Int32 → Int32 → mT → Option (Int32 × mT)} (Hrc37 : ∀ (v1 : Int32) (v3 : Int32) (v4 : Int32) (S : mT), rc37 v1 v3 v4 S = some (r, S') → ∀ ok : Bool, mW p l e (mR 4) s m args below meth c G 5 233 54500 (mQ below G args s b S' (some (.int r))) (ok, 37, [.ref (187), .int v1, .retAddr 0, .int v3, .int v4], [], mk b S)) {v1 : Int32} {v4 : Int32} {s0 : Int32} {S : mT} (hf : fX12_knock_66 rc37 v1 v4 s0 S = some (r, S')) (ok : Bool) : mW p l e (mR 4) s m args below meth c G 5 233 54500 (mQ below G args s b S' (some (.int r))) (ok, 66, [.ref (187), .int v1, .retAddr 0, .retAddr 0, .int v4], [.int s0], mk b S) := by
  unfold fX12_knock_66 at hf
  refine msegT C kX12_knock 36 2 (g := (true, 70, [.ref (187), .int v1, .retAddr 0, .int s0, .int (v4 + (1 : Int32))], [], mk b S)) rfl rfl ?_
  obtain ⟨x10, ex10, hf⟩ := bnd_ex hf
  rw [← ex10]
  refine msegT C kX12_knock 38 1 (g := (true, 37, [.ref (187), .int v1, .retAddr 0, .int s0, .int x10], [], mk b S)) rfl rfl ?_
  exact mfor (L' := [.ref (187), .int v1, .retAddr 0, .int s0, .int x10]) ⟨Or.inr rfl, Or.inr rfl, Or.inl rfl, Or.inr rfl, Or.inr rfl, trivial⟩ (Hrc37 _ _ _ _ hf true)
theorem bX12_knock_86 (C : mCx p (mR 4) s m args meth c G cX12_knock RX12 5 false 233 54500 233 54500) (hr : meth.sig.returnType = (some .int)) (hk : meth.locks = false) {b : Bool} {S' : mT} {r : Int32} {s0 : Int32} {S : mT} (hf : fX12_knock_86 s0 S = some (r, S')) (ok : Bool) : mW p l e (mR 4) s m args below meth c G 5 233 54500 (mQ below G args s b S' (some (.int r))) (ok, 86, [.retAddr 0, .retAddr 0, .retAddr 0, .retAddr 0, .retAddr 0], [.int s0], mk b S) := by
  unfold fX12_knock_86 at hf
  cases hf
  exact gret_i C hr hk (kX12_knock _ (List.mem_of_getElem? (i := 46) rfl)).1
theorem bX12_knock_37 (C : mCx p (mR 4) s m args meth c G cX12_knock RX12 5 false 233 54500 233 54500) (hr : meth.sig.returnType = (some .int)) (hk : meth.locks = false) {b : Bool} {S' : mT} {r : Int32} : ∀ (k : Nat) (v1 : Int32) (v3 : Int32) (v4 : Int32) (S : mT), fX12_knock_37 k v1 v3 v4 S = some (r, S') → ∀ ok : Bool, mW p l e (mR 4) s m args below meth c G 5 233 54500 (mQ below G args s b S' (some (.int r))) (ok, 37, [.ref (187), .int v1, .retAddr 0, .int v3, .int v4], [], mk b S) := by
  intro k
  induction k with
  | zero =>
    intro v1 v3 v4 S hf ok
    cases hf
  | succ k ih =>
    intro v1 v3 v4 S hf ok
    unfold fX12_knock_37 at hf
    obtain ⟨hok, hf⟩ := grd_ex hf
    refine msegT C kX12_knock 22 4 (g := ((kO 187 12 && true), (if (S.1 187 37) ≤ v4 then 73 else 46), [.ref (187), .int v1, .retAddr 0, .int v3, .int v4], [], mk b S)) rfl hok ?_
    by_cases hc : (S.1 187 37) ≤ v4
    · rw [if_pos hc] at hf ⊢
      refine msegT C kX12_knock 39 2 (g := (true, (if v1 = 0 then 77 else 81), [.ref (187), .int v1, .retAddr 0, .int v3, .int v4], [], mk b S)) rfl rfl ?_
      by_cases hc : v1 = 0
      · rw [if_pos hc] at hf ⊢
        refine msegT C kX12_knock 41 2 (g := (true, 86, [.ref (187), .int v1, .retAddr 0, .int v3, .int v4], [.int v3], mk b S)) rfl rfl ?_
        exact mfor (L' := [.retAddr 0, .retAddr 0, .retAddr 0, .retAddr 0, .retAddr 0]) ⟨Or.inl rfl, Or.inl rfl, Or.inl rfl, Or.inl rfl, Or.inl rfl, trivial⟩ (bX12_knock_86 C hr hk hf true)
      · rw [if_neg hc] at hf ⊢
        refine msegT C kX12_knock 43 2 (g := (true, 83, [.ref (187), .int v1, .retAddr 0, .int v3, .int v4], [.int v3, .ref (187)], mk b S)) rfl rfl ?_
        obtain ⟨x5, S4, hq, hf⟩ := bndC_ex hf
        refine mcall (kd := 0) (vs := [.ref (187), .int v3]) (rest := []) (r := (some (.int x5))) (h' := mk b S4) (ok' := true) C lkRX12_482 (qX12_mostOf hq) (kX12_knock _ (List.mem_of_getElem? (i := 45) rfl)).1 ⟨_, _, rfl, rfl, Nat.le_of_ble_eq_true rfl, _, _, rfl, rfl, rfl⟩ (Nat.le_of_ble_eq_true rfl) (Nat.le_of_ble_eq_true rfl) (Nat.le_refl _) (Nat.le_refl _) (Nat.le_of_ble_eq_true rfl) ?_
        exact mfor (L' := [.retAddr 0, .retAddr 0, .retAddr 0, .retAddr 0, .retAddr 0]) ⟨Or.inl rfl, Or.inl rfl, Or.inl rfl, Or.inl rfl, Or.inl rfl, trivial⟩ (bX12_knock_86 C hr hk hf true)
    · rw [if_neg hc] at hf ⊢
      refine msegT C kX12_knock 26 2 (g := (true, 49, [.ref (187), .int v1, .retAddr 0, .int v3, .int v4], [.int v4, .ref (187)], mk b S)) rfl rfl ?_
      obtain ⟨x7, S6, hq, hf⟩ := bndC_ex hf
      refine mcall (kd := 0) (vs := [.ref (187), .int v4]) (rest := []) (r := (some (.int x7))) (h' := mk b S6) (ok' := true) C lkRX12_482 (qX12_mostOf hq) (kX12_knock _ (List.mem_of_getElem? (i := 28) rfl)).1 ⟨_, _, rfl, rfl, Nat.le_of_ble_eq_true rfl, _, _, rfl, rfl, rfl⟩ (Nat.le_of_ble_eq_true rfl) (Nat.le_of_ble_eq_true rfl) (Nat.le_refl _) (Nat.le_refl _) (Nat.le_of_ble_eq_true rfl) ?_
      refine msegT C kX12_knock 29 2 (g := (true, 54, [.ref (187), .int v1, .retAddr 0, .int v3, .int v4], [.int v3, .ref (187), .int x7], mk b S6)) rfl rfl ?_
      obtain ⟨x9, S8, hq, hf⟩ := bndC_ex hf
      refine mcall (kd := 0) (vs := [.ref (187), .int v3]) (rest := [.int x7]) (r := (some (.int x9))) (h' := mk b S8) (ok' := true) C lkRX12_482 (qX12_mostOf hq) (kX12_knock _ (List.mem_of_getElem? (i := 31) rfl)).1 ⟨_, _, rfl, rfl, Nat.le_of_ble_eq_true rfl, _, _, rfl, rfl, rfl⟩ (Nat.le_of_ble_eq_true rfl) (Nat.le_of_ble_eq_true rfl) (Nat.le_refl _) (Nat.le_refl _) (Nat.le_of_ble_eq_true rfl) ?_
      refine msegT C kX12_knock 32 1 (g := (true, (if x9 ≤ x7 then 65 else 60), [.ref (187), .int v1, .retAddr 0, .int v3, .int v4], [], mk b S8)) rfl rfl ?_
      by_cases hc : x9 ≤ x7
      · rw [if_pos hc] at hf ⊢
        refine msegT C kX12_knock 35 1 (g := (true, 66, [.ref (187), .int v1, .retAddr 0, .int v3, .int v4], [.int v3], mk b S8)) rfl rfl ?_
        exact mfor (L' := [.ref (187), .int v1, .retAddr 0, .retAddr 0, .int v4]) ⟨Or.inr rfl, Or.inr rfl, Or.inl rfl, Or.inl rfl, Or.inr rfl, trivial⟩ (bX12_knock_66 C hr hk ih hf true)
      · rw [if_neg hc] at hf ⊢
        refine msegT C kX12_knock 33 2 (g := (true, 66, [.ref (187), .int v1, .retAddr 0, .int v3, .int v4], [.int v4], mk b S8)) rfl rfl ?_
        exact mfor (L' := [.ref (187), .int v1, .retAddr 0, .retAddr 0, .int v4]) ⟨Or.inr rfl, Or.inr rfl, Or.inl rfl, Or.inl rfl, Or.inr rfl, trivial⟩ (bX12_knock_66 C hr hk ih hf true)
theorem bX12_knock_0 (C : mCx p (mR 4) s m args meth c G cX12_knock RX12 5 false 233 54500 233 54500) (hr : meth.sig.returnType = (some .int)) (hk : meth.locks = false) {b : Bool} {S' : mT} {r : Int32} {v1 : Int32} {v2 : Int32} {S : mT} (hf : fX12_knock v1 v2 S = some (r, S')) (ok : Bool) : mW p l e (mR 4) s m args below meth c G 5 233 54500 (mQ below G args s b S' (some (.int r))) (ok, 0, [.ref (187), .int v1, .int v2, .retAddr 0, .retAddr 0], [], mk b S) := by
  unfold fX12_knock at hf
  refine msegT C kX12_knock 0 3 (g := (true, 3, [.ref (187), .int v1, .int v2, .retAddr 0, .retAddr 0], [.int (1 : Int32), .int (0 : Int32), .int v1], mk b S)) rfl rfl ?_
  obtain ⟨x2, S1, hq, hf⟩ := bndC_ex hf
  refine mcall (kd := 1) (vs := [.int v1, .int (0 : Int32), .int (1 : Int32)]) (rest := []) (r := (some (.int x2))) (h' := mk b S1) (ok' := true) C lkRX12_362 (qX12_isIn hq) (kX12_knock _ (List.mem_of_getElem? (i := 3) rfl)).1 rfl (Nat.le_of_ble_eq_true rfl) (Nat.le_of_ble_eq_true rfl) (Nat.le_refl _) (Nat.le_refl _) (Nat.le_of_ble_eq_true rfl) ?_
  refine msegT C kX12_knock 4 1 (g := (true, (if x2 = 0 then 16 else 9), [.ref (187), .int v1, .int v2, .retAddr 0, .retAddr 0], [], mk b S1)) rfl rfl ?_
  by_cases hc : x2 = 0
  · rw [if_pos hc] at hf ⊢
    exact mfor (L' := [.retAddr 0, .retAddr 0, .retAddr 0, .retAddr 0, .retAddr 0]) ⟨Or.inl rfl, Or.inl rfl, Or.inl rfl, Or.inl rfl, Or.inl rfl, trivial⟩ (bX12_knock_16 C hr hk hf true)
  · rw [if_neg hc] at hf ⊢
    obtain ⟨hok, hf⟩ := grd_ex hf
    refine msegT C kX12_knock 5 3 (g := ((kO 187 12 && true), (if (S1.1 187 37) = 0 then 16 else 18), [.ref (187), .int v1, .int v2, .retAddr 0, .retAddr 0], [], mk b S1)) rfl hok ?_
    by_cases hc : (S1.1 187 37) = 0
    · rw [if_pos hc] at hf ⊢
      exact mfor (L' := [.retAddr 0, .retAddr 0, .retAddr 0, .retAddr 0, .retAddr 0]) ⟨Or.inl rfl, Or.inl rfl, Or.inl rfl, Or.inl rfl, Or.inl rfl, trivial⟩ (bX12_knock_16 C hr hk hf true)
    · rw [if_neg hc] at hf ⊢
      refine msegT C kX12_knock 10 2 (g := (true, 20, [.ref (187), .int v1, .int v2, .retAddr 0, .retAddr 0], [.int v2, .ref (187)], mk b S1)) rfl rfl ?_
      obtain ⟨S3, hq, hf⟩ := bndV_ex hf
      refine mcall (kd := 0) (vs := [.ref (187), .int v2]) (rest := []) (r := none) (h' := mk b S3) (ok' := true) C lkRX12_479 (qX12_layTruths hq) (kX12_knock _ (List.mem_of_getElem? (i := 12) rfl)).1 ⟨_, _, rfl, rfl, Nat.le_of_ble_eq_true rfl, _, _, rfl, rfl, rfl⟩ (Nat.le_of_ble_eq_true rfl) (Nat.le_of_ble_eq_true rfl) (Nat.le_refl _) (Nat.le_refl _) (Nat.le_of_ble_eq_true rfl) ?_
      obtain ⟨hok, hf⟩ := grd_ex hf
      refine msegT C kX12_knock 13 3 (g := ((kO 187 12 && true), (if (S3.1 187 69) = 0 then 30 else 32), [.ref (187), .int v1, .int v2, .retAddr 0, .retAddr 0], [], mk b S3)) rfl hok ?_
      by_cases hc : (S3.1 187 69) = 0
      · rw [if_pos hc] at hf ⊢
        refine msegT C kX12_knock 16 1 (g := (true, 31, [.ref (187), .int v1, .int v2, .retAddr 0, .retAddr 0], [.int (-1 : Int32)], mk b S3)) rfl rfl ?_
        cases hf
        exact gret_i C hr hk (kX12_knock _ (List.mem_of_getElem? (i := 17) rfl)).1
      · rw [if_neg hc] at hf ⊢
        refine msegT C kX12_knock 18 4 (g := (true, 37, [.ref (187), .int v1, .int v2, .int (0 : Int32), .int (1 : Int32)], [], mk b S3)) rfl rfl ?_
        exact mfor (L' := [.ref (187), .int v1, .retAddr 0, .int (0 : Int32), .int (1 : Int32)]) ⟨Or.inr rfl, Or.inr rfl, Or.inl rfl, Or.inr rfl, Or.inr rfl, trivial⟩ (bX12_knock_37 C hr hk _ _ _ _ _ hf true)
theorem qX12_knock {b : Bool} {v1 : Int32} {v2 : Int32} {S S' : mT} {r : Int32} (hf : fX12_knock v1 v2 S = some (r, S')) : mOk l mX12_knock 4 [.ref (187), .int v1, .int v2] b S (some (.int r)) S' :=
  gMet (by decide) (Nat.le_of_ble_eq_true rfl) rfl (Nat.le_of_ble_eq_true rfl) (fun p e s m args below meth c G C hr hk => bX12_knock_0 C hr hk hf true)
theorem bX12_later_23 (C : mCx p (mR 1) s m args meth c G cX12_later RX12 2 false 233 54500 233 54500) (hr : meth.sig.returnType = (some .int)) (hk : meth.locks = false) {b : Bool} {S' : mT} {r : Int32} {S : mT} (hf : fX12_later_23 S = some (r, S')) (ok : Bool) : mW p l e (mR 1) s m args below meth c G 2 233 54500 (mQ below G args s b S' (some (.int r))) (ok, 23, [.retAddr 0, .retAddr 0], [], mk b S) := by
  unfold fX12_later_23 at hf
  refine msegT C kX12_later 11 1 (g := (true, 24, [.retAddr 0, .retAddr 0], [.int (-1 : Int32)], mk b S)) rfl rfl ?_
  cases hf
  exact gret_i C hr hk (kX12_later _ (List.mem_of_getElem? (i := 12) rfl)).1
theorem bX12_later_0 (C : mCx p (mR 1) s m args meth c G cX12_later RX12 2 false 233 54500 233 54500) (hr : meth.sig.returnType = (some .int)) (hk : meth.locks = false) {b : Bool} {S' : mT} {r : Int32} {v1 : Int32} {S : mT} (hf : fX12_later v1 S = some (r, S')) (ok : Bool) : mW p l e (mR 1) s m args below meth c G 2 233 54500 (mQ below G args s b S' (some (.int r))) (ok, 0, [.ref (187), .int v1], [], mk b S) := by
  unfold fX12_later at hf
  refine msegT C kX12_later 0 2 (g := (true, (if v1 < 0 then 23 else 4), [.ref (187), .int v1], [], mk b S)) rfl rfl ?_
  by_cases hc : v1 < 0
  · rw [if_pos hc] at hf ⊢
    exact mfor (L' := [.retAddr 0, .retAddr 0]) ⟨Or.inl rfl, Or.inl rfl, trivial⟩ (bX12_later_23 C hr hk hf true)
  · rw [if_neg hc] at hf ⊢
    refine msegT C kX12_later 2 3 (g := (true, (if (1000 : Int32) < v1 then 23 else 11), [.ref (187), .int v1], [], mk b S)) rfl rfl ?_
    by_cases hc : (1000 : Int32) < v1
    · rw [if_pos hc] at hf ⊢
      exact mfor (L' := [.retAddr 0, .retAddr 0]) ⟨Or.inl rfl, Or.inl rfl, trivial⟩ (bX12_later_23 C hr hk hf true)
    · rw [if_neg hc] at hf ⊢
      obtain ⟨hok, hf⟩ := grd_ex hf
      refine msegT C kX12_later 5 6 (g := ((kO 187 12 && true), (if ((S.1 187 67) + v1) ≤ (100000 : Int32) then 25 else 23), [.ref (187), .int v1], [], mk b S)) rfl hok ?_
      by_cases hc : ((S.1 187 67) + v1) ≤ (100000 : Int32)
      · rw [if_pos hc] at hf ⊢
        obtain ⟨hok, hf⟩ := grd_ex hf
        refine msegT C kX12_later 13 6 (g := ((kO 187 12 && (kO 187 12 && true)), 35, [.ref (187), .int v1], [], mk b (sI S 187 67 ((S.1 187 67) + v1)))) rfl hok ?_
        obtain ⟨S1, eS1, hf⟩ := bnd_ex hf
        rw [← eS1]
        obtain ⟨hok, hf⟩ := grd_ex hf
        refine msegT C kX12_later 19 2 (g := ((kO 187 12 && true), 39, [.ref (187), .int v1], [.int (S1.1 187 67)], mk b S1)) rfl hok ?_
        cases hf
        exact gret_i C hr hk (kX12_later _ (List.mem_of_getElem? (i := 21) rfl)).1
      · rw [if_neg hc] at hf ⊢
        exact mfor (L' := [.retAddr 0, .retAddr 0]) ⟨Or.inl rfl, Or.inl rfl, trivial⟩ (bX12_later_23 C hr hk hf true)
theorem qX12_later {b : Bool} {v1 : Int32} {S S' : mT} {r : Int32} (hf : fX12_later v1 S = some (r, S')) : mOk l mX12_later 1 [.ref (187), .int v1] b S (some (.int r)) S' :=
  gMet (by decide) (Nat.le_of_ble_eq_true rfl) rfl (Nat.le_of_ble_eq_true rfl) (fun p e s m args below meth c G C hr hk => bX12_later_0 C hr hk hf true)
theorem bX12_layCounters_76 (C : mCx p (mR 2) s m args meth c G cX12_layCounters RX12 5 false 233 54500 233 54500) (hr : meth.sig.returnType = (some .int)) (hk : meth.locks = false) {b : Bool} {S' : mT} {r : Int32} {rc37 : Int32 → Int32 → mT → Option (Int32 × mT)} (Hrc37 : ∀ (v3 : Int32) (v4 : Int32) (S : mT), rc37 v3 v4 S = some (r, S') → ∀ ok : Bool, mW p l e (mR 2) s m args below meth c G 5 233 54500 (mQ below G args s b S' (some (.int r))) (ok, 37, [.ref (187), .retAddr 0, .retAddr 0, .int v3, .int v4], [], mk b S)) {v4 : Int32} {s0 : Int32} {s1 : Int32} {S : mT} (hf : fX12_layCounters_76 rc37 v4 s0 s1 S = some (r, S')) (ok : Bool) : mW p l e (mR 2) s m args below meth c G 5 233 54500 (mQ below G args s b S' (some (.int r))) (ok, 76, [.ref (187), .retAddr 0, .retAddr 0, .retAddr 0, .int v4], [.int s0, .int s1], mk b S) := by
  unfold fX12_layCounters_76 at hf
  obtain ⟨x6, S5, hq, hf⟩ := bndC_ex hf
  refine mcall (kd := 1) (vs := [.int s0]) (rest := [.int s1]) (r := (some (.int x6))) (h' := mk b S5) (ok' := true) C lkRX12_307 (qX12_truth hq) (kX12_layCounters _ (List.mem_of_getElem? (i := 48) rfl)).1 rfl (Nat.le_of_ble_eq_true rfl) (Nat.le_of_ble_eq_true rfl) (Nat.le_refl _) (Nat.le_refl _) (Nat.le_of_ble_eq_true rfl) ?_
  refine msegT C kX12_layCounters 49 2 (g := (true, 81, [.ref (187), .retAddr 0, .retAddr 0, .int (s1 + x6), .int v4], [], mk b S5)) rfl rfl ?_
  obtain ⟨x7, ex7, hf⟩ := bnd_ex hf
  rw [← ex7]
  refine msegT C kX12_layCounters 51 1 (g := (true, 84, [.ref (187), .retAddr 0, .retAddr 0, .int x7, .int (v4 + (1 : Int32))], [], mk b S5)) rfl rfl ?_
  obtain ⟨x8, ex8, hf⟩ := bnd_ex hf
  rw [← ex8]
  refine msegT C kX12_layCounters 52 1 (g := (true, 37, [.ref (187), .retAddr 0, .retAddr 0, .int x7, .int x8], [], mk b S5)) rfl rfl ?_
  exact mfor (L' := [.ref (187), .retAddr 0, .retAddr 0, .int x7, .int x8]) ⟨Or.inr rfl, Or.inl rfl, Or.inl rfl, Or.inr rfl, Or.inr rfl, trivial⟩ (Hrc37 _ _ _ hf true)
theorem bX12_layCounters_37 (C : mCx p (mR 2) s m args meth c G cX12_layCounters RX12 5 false 233 54500 233 54500) (hr : meth.sig.returnType = (some .int)) (hk : meth.locks = false) {b : Bool} {S' : mT} {r : Int32} : ∀ (k : Nat) (v3 : Int32) (v4 : Int32) (S : mT), fX12_layCounters_37 k v3 v4 S = some (r, S') → ∀ ok : Bool, mW p l e (mR 2) s m args below meth c G 5 233 54500 (mQ below G args s b S' (some (.int r))) (ok, 37, [.ref (187), .retAddr 0, .retAddr 0, .int v3, .int v4], [], mk b S) := by
  intro k
  induction k with
  | zero =>
    intro v3 v4 S hf ok
    cases hf
  | succ k ih =>
    intro v3 v4 S hf ok
    unfold fX12_layCounters_37 at hf
    obtain ⟨hok, hf⟩ := grd_ex hf
    refine msegT C kX12_layCounters 26 4 (g := ((kO 187 12 && true), (if (S.1 187 37) ≤ v4 then 87 else 46), [.ref (187), .retAddr 0, .retAddr 0, .int v3, .int v4], [], mk b S)) rfl hok ?_
    by_cases hc : (S.1 187 37) ≤ v4
    · rw [if_pos hc] at hf ⊢
      refine msegT C kX12_layCounters 53 1 (g := (true, 88, [.ref (187), .retAddr 0, .retAddr 0, .int v3, .int v4], [.int v3], mk b S)) rfl rfl ?_
      cases hf
      exact gret_i C hr hk (kX12_layCounters _ (List.mem_of_getElem? (i := 54) rfl)).1
    · rw [if_neg hc] at hf ⊢
      obtain ⟨hok, hf⟩ := grd_ex hf
      refine msegT C kX12_layCounters 30 6 (g := ((kI 216 v4 && (kO 187 12 && true)), (if (S.1 216 (mIx v4)) ≤ v3 then 59 else 57), [.ref (187), .retAddr 0, .retAddr 0, .int v3, .int v4], [], mk b S)) rfl hok ?_
      by_cases hc : (S.1 216 (mIx v4)) ≤ v3
      · rw [if_pos hc] at hf ⊢
        obtain ⟨hok, hf⟩ := grd_ex hf
        refine msegT C kX12_layCounters 38 7 (g := ((kI 216 v4 && (kO 187 12 && true)), (if (S.1 216 (mIx v4)) = v3 then 71 else 75), [.ref (187), .retAddr 0, .retAddr 0, .int v3, .int v4], [.int v3], mk b S)) rfl hok ?_
        by_cases hc : (S.1 216 (mIx v4)) = v3
        · rw [if_pos hc] at hf ⊢
          refine msegT C kX12_layCounters 45 2 (g := (true, 76, [.ref (187), .retAddr 0, .retAddr 0, .int v3, .int v4], [.int (1 : Int32), .int v3], mk b S)) rfl rfl ?_
          exact mfor (L' := [.ref (187), .retAddr 0, .retAddr 0, .retAddr 0, .int v4]) ⟨Or.inr rfl, Or.inl rfl, Or.inl rfl, Or.inl rfl, Or.inr rfl, trivial⟩ (bX12_layCounters_76 C hr hk ih hf true)
        · rw [if_neg hc] at hf ⊢
          refine msegT C kX12_layCounters 47 1 (g := (true, 76, [.ref (187), .retAddr 0, .retAddr 0, .int v3, .int v4], [.int (0 : Int32), .int v3], mk b S)) rfl rfl ?_
          exact mfor (L' := [.ref (187), .retAddr 0, .retAddr 0, .retAddr 0, .int v4]) ⟨Or.inr rfl, Or.inl rfl, Or.inl rfl, Or.inl rfl, Or.inr rfl, trivial⟩ (bX12_layCounters_76 C hr hk ih hf true)
      · rw [if_neg hc] at hf ⊢
        refine msegT C kX12_layCounters 36 1 (g := (true, 58, [.ref (187), .retAddr 0, .retAddr 0, .int v3, .int v4], [.int (-1 : Int32)], mk b S)) rfl rfl ?_
        cases hf
        exact gret_i C hr hk (kX12_layCounters _ (List.mem_of_getElem? (i := 37) rfl)).1
theorem bX12_layCounters_9 (C : mCx p (mR 2) s m args meth c G cX12_layCounters RX12 5 false 233 54500 233 54500) (hr : meth.sig.returnType = (some .int)) (hk : meth.locks = false) {b : Bool} {S' : mT} {r : Int32} : ∀ (k : Nat) (v2 : Int32) (v3 : Int32) (S : mT), fX12_layCounters_9 k v2 v3 S = some (r, S') → ∀ ok : Bool, mW p l e (mR 2) s m args below meth c G 5 233 54500 (mQ below G args s b S' (some (.int r))) (ok, 9, [.ref (187), .retAddr 0, .int v2, .int v3, .retAddr 0], [], mk b S) := by
  intro k
  induction k with
  | zero =>
    intro v2 v3 S hf ok
    cases hf
  | succ k ih =>
    intro v2 v3 S hf ok
    unfold fX12_layCounters_9 at hf
    refine msegT C kX12_layCounters 7 2 (g := (true, (if v3 < 0 then 32 else 13), [.ref (187), .retAddr 0, .int v2, .int v3, .retAddr 0], [], mk b S)) rfl rfl ?_
    by_cases hc : v3 < 0
    · rw [if_pos hc] at hf ⊢
      refine msegT C kX12_layCounters 22 4 (g := (true, 37, [.ref (187), .retAddr 0, .int v2, .int (0 : Int32), .int (0 : Int32)], [], mk b S)) rfl rfl ?_
      exact mfor (L' := [.ref (187), .retAddr 0, .retAddr 0, .int (0 : Int32), .int (0 : Int32)]) ⟨Or.inr rfl, Or.inl rfl, Or.inl rfl, Or.inr rfl, Or.inr rfl, trivial⟩ (bX12_layCounters_37 C hr hk _ _ _ _ hf true)
    · rw [if_neg hc] at hf ⊢
      obtain ⟨hok, hf⟩ := grd_ex hf
      refine msegT C kX12_layCounters 9 7 (g := ((kI 216 v3 && (decide (¬ (5 : Int32) = 0) && (kO 187 12 && true))), 22, [.ref (187), .retAddr 0, .int v2, .int v3, .retAddr 0], [], mk b (sI S 216 (mIx v3) (v2 - v2 / (5 : Int32) * (5 : Int32))))) rfl hok ?_
      obtain ⟨S2, eS2, hf⟩ := bnd_ex hf
      rw [← eS2]
      obtain ⟨hok, hf⟩ := grd_ex hf
      refine msegT C kX12_layCounters 16 4 (g := ((decide (¬ (5 : Int32) = 0) && true), 26, [.ref (187), .retAddr 0, .int (v2 / (5 : Int32)), .int v3, .retAddr 0], [], mk b S2)) rfl hok ?_
      obtain ⟨x3, ex3, hf⟩ := bnd_ex hf
      rw [← ex3]
      refine msegT C kX12_layCounters 20 1 (g := (true, 29, [.ref (187), .retAddr 0, .int x3, .int (v3 + (-1 : Int32)), .retAddr 0], [], mk b S2)) rfl rfl ?_
      obtain ⟨x4, ex4, hf⟩ := bnd_ex hf
      rw [← ex4]
      refine msegT C kX12_layCounters 21 1 (g := (true, 9, [.ref (187), .retAddr 0, .int x3, .int x4, .retAddr 0], [], mk b S2)) rfl rfl ?_
      exact mfor (L' := [.ref (187), .retAddr 0, .int x3, .int x4, .retAddr 0]) ⟨Or.inr rfl, Or.inl rfl, Or.inr rfl, Or.inr rfl, Or.inl rfl, trivial⟩ (ih _ _ _ hf true)
theorem bX12_layCounters_0 (C : mCx p (mR 2) s m args meth c G cX12_layCounters RX12 5 false 233 54500 233 54500) (hr : meth.sig.returnType = (some .int)) (hk : meth.locks = false) {b : Bool} {S' : mT} {r : Int32} {v1 : Int32} {S : mT} (hf : fX12_layCounters v1 S = some (r, S')) (ok : Bool) : mW p l e (mR 2) s m args below meth c G 5 233 54500 (mQ below G args s b S' (some (.int r))) (ok, 0, [.ref (187), .int v1, .retAddr 0, .retAddr 0, .retAddr 0], [], mk b S) := by
  unfold fX12_layCounters at hf
  obtain ⟨hok, hf⟩ := grd_ex hf
  refine msegT C kX12_layCounters 0 7 (g := ((kO 187 12 && true), 9, [.ref (187), .int v1, .int v1, .int ((S.1 187 37) - (1 : Int32)), .retAddr 0], [], mk b S)) rfl hok ?_
  obtain ⟨x1, ex1, hf⟩ := bnd_ex hf
  rw [← ex1]
  exact mfor (L' := [.ref (187), .retAddr 0, .int v1, .int x1, .retAddr 0]) ⟨Or.inr rfl, Or.inl rfl, Or.inr rfl, Or.inr rfl, Or.inl rfl, trivial⟩ (bX12_layCounters_9 C hr hk _ _ _ _ hf true)
theorem qX12_layCounters {b : Bool} {v1 : Int32} {S S' : mT} {r : Int32} (hf : fX12_layCounters v1 S = some (r, S')) : mOk l mX12_layCounters 2 [.ref (187), .int v1] b S (some (.int r)) S' :=
  gMet (by decide) (Nat.le_of_ble_eq_true rfl) rfl (Nat.le_of_ble_eq_true rfl) (fun p e s m args below meth c G C hr hk => bX12_layCounters_0 C hr hk hf true)
theorem bX12_laySeats_90 (C : mCx p (mR 2) s m args meth c G cX12_laySeats RX12 7 false 233 54500 233 54500) (hr : meth.sig.returnType = none) (hk : meth.locks = false) {b : Bool} {S' : mT} {rc11 : Int32 → Int32 → Int32 → Int32 → Int32 → mT → Option (mT)} (Hrc11 : ∀ (v1 : Int32) (v2 : Int32) (v3 : Int32) (v4 : Int32) (v5 : Int32) (S : mT), rc11 v1 v2 v3 v4 v5 S = some S' → ∀ ok : Bool, mW p l e (mR 2) s m args below meth c G 7 233 54500 (mQ below G args s b S' none) (ok, 11, [.ref (187), .int v1, .int v2, .int v3, .int v4, .int v5, .retAddr 0], [], mk b S)) {v1 : Int32} {v2 : Int32} {v3 : Int32} {v4 : Int32} {v5 : Int32} {s0 : Int32} {s1 : Int32} {S : mT} (hf : fX12_laySeats_90 rc11 v1 v2 v3 v4 v5 s0 s1 S = some S') (ok : Bool) : mW p l e (mR 2) s m args below meth c G 7 233 54500 (mQ below G args s b S' none) (ok, 90, [.ref (187), .int v1, .int v2, .int v3, .int v4, .int v5, .retAddr 0], [.int s0, .int s1, .ref 218], mk b S) := by
  unfold fX12_laySeats_90 at hf
  obtain ⟨hok, hf⟩ := grd_ex hf
  refine msegT C kX12_laySeats 51 1 (g := ((kI 218 s1 && true), 91, [.ref (187), .int v1, .int v2, .int v3, .int v4, .int v5, .retAddr 0], [], mk b (sI S 218 (mIx s1) s0))) rfl hok ?_
  obtain ⟨S7, eS7, hf⟩ := bnd_ex hf
  rw [← eS7]
  obtain ⟨hok, hf⟩ := grd_ex hf
  refine msegT C kX12_laySeats 52 7 (g := ((kI 217 v5 && (kO 187 12 && true)), 103, [.ref (187), .int v1, .int v2, .int v3, .int (v4 - (S7.1 217 (mIx v5))), .int v5, .retAddr 0], [], mk b S7)) rfl hok ?_
  obtain ⟨x8, ex8, hf⟩ := bnd_ex hf
  rw [← ex8]
  refine msegT C kX12_laySeats 59 1 (g := (true, 106, [.ref (187), .int v1, .int v2, .int v3, .int x8, .int (v5 + (1 : Int32)), .retAddr 0], [], mk b S7)) rfl rfl ?_
  obtain ⟨x9, ex9, hf⟩ := bnd_ex hf
  rw [← ex9]
  refine msegT C kX12_laySeats 60 1 (g := (true, 11, [.ref (187), .int v1, .int v2, .int v3, .int x8, .int x9, .retAddr 0], [], mk b S7)) rfl rfl ?_
  exact mfor (L' := [.ref (187), .int v1, .int v2, .int v3, .int x8, .int x9, .retAddr 0]) ⟨Or.inr rfl, Or.inr rfl, Or.inr rfl, Or.inr rfl, Or.inr rfl, Or.inr rfl, Or.inl rfl, trivial⟩ (Hrc11 _ _ _ _ _ _ hf true)
theorem bX12_laySeats_89 (C : mCx p (mR 2) s m args meth c G cX12_laySeats RX12 7 false 233 54500 233 54500) (hr : meth.sig.returnType = none) (hk : meth.locks = false) {b : Bool} {S' : mT} {rc11 : Int32 → Int32 → Int32 → Int32 → Int32 → mT → Option (mT)} (Hrc11 : ∀ (v1 : Int32) (v2 : Int32) (v3 : Int32) (v4 : Int32) (v5 : Int32) (S : mT), rc11 v1 v2 v3 v4 v5 S = some S' → ∀ ok : Bool, mW p l e (mR 2) s m args below meth c G 7 233 54500 (mQ below G args s b S' none) (ok, 11, [.ref (187), .int v1, .int v2, .int v3, .int v4, .int v5, .retAddr 0], [], mk b S)) {v1 : Int32} {v2 : Int32} {v3 : Int32} {v4 : Int32} {v5 : Int32} {s0 : Int32} {S : mT} (hf : fX12_laySeats_89 rc11 v1 v2 v3 v4 v5 s0 S = some S') (ok : Bool) : mW p l e (mR 2) s m args below meth c G 7 233 54500 (mQ below G args s b S' none) (ok, 89, [.ref (187), .int v1, .int v2, .int v3, .int v4, .int v5, .retAddr 0], [.int s0, .ref 218], mk b S) := by
  unfold fX12_laySeats_89 at hf
  refine msegT C kX12_laySeats 50 1 (g := (true, 90, [.ref (187), .int v1, .int v2, .int v3, .int v4, .int v5, .retAddr 0], [.int (-1 : Int32), .int s0, .ref 218], mk b S)) rfl rfl ?_
  exact mfor (L' := [.ref (187), .int v1, .int v2, .int v3, .int v4, .int v5, .retAddr 0]) ⟨Or.inr rfl, Or.inr rfl, Or.inr rfl, Or.inr rfl, Or.inr rfl, Or.inr rfl, Or.inl rfl, trivial⟩ (bX12_laySeats_90 C hr hk Hrc11 hf true)
theorem bX12_laySeats_55 (C : mCx p (mR 2) s m args meth c G cX12_laySeats RX12 7 false 233 54500 233 54500) (hr : meth.sig.returnType = none) (hk : meth.locks = false) {b : Bool} {S' : mT} {rc11 : Int32 → Int32 → Int32 → Int32 → Int32 → mT → Option (mT)} (Hrc11 : ∀ (v1 : Int32) (v2 : Int32) (v3 : Int32) (v4 : Int32) (v5 : Int32) (S : mT), rc11 v1 v2 v3 v4 v5 S = some S' → ∀ ok : Bool, mW p l e (mR 2) s m args below meth c G 7 233 54500 (mQ below G args s b S' none) (ok, 11, [.ref (187), .int v1, .int v2, .int v3, .int v4, .int v5, .retAddr 0], [], mk b S)) {v1 : Int32} {v2 : Int32} {v3 : Int32} {v4 : Int32} {v5 : Int32} {s0 : Int32} {s1 : Int32} {S : mT} (hf : fX12_laySeats_55 rc11 v1 v2 v3 v4 v5 s0 s1 S = some S') (ok : Bool) : mW p l e (mR 2) s m args below meth c G 7 233 54500 (mQ below G args s b S' none) (ok, 55, [.ref (187), .int v1, .int v2, .int v3, .int v4, .int v5, .retAddr 0], [.int s0, .int s1, .ref 217], mk b S) := by
  unfold fX12_laySeats_55 at hf
  obtain ⟨hok, hf⟩ := grd_ex hf
  refine msegT C kX12_laySeats 31 1 (g := ((kI 217 s1 && true), 56, [.ref (187), .int v1, .int v2, .int v3, .int v4, .int v5, .retAddr 0], [], mk b (sI S 217 (mIx s1) s0))) rfl hok ?_
  obtain ⟨S3, eS3, hf⟩ := bnd_ex hf
  rw [← eS3]
  obtain ⟨hok, hf⟩ := grd_ex hf
  refine msegT C kX12_laySeats 32 5 (g := ((kO 187 12 && true), (if v3 ≤ 0 then 89 else 66), [.ref (187), .int v1, .int v2, .int v3, .int v4, .int v5, .retAddr 0], [.int v5, .ref 218], mk b S3)) rfl hok ?_
  by_cases hc : v3 ≤ 0
  · rw [if_pos hc] at hf ⊢
    exact mfor (L' := [.ref (187), .int v1, .int v2, .int v3, .int v4, .int v5, .retAddr 0]) ⟨Or.inr rfl, Or.inr rfl, Or.inr rfl, Or.inr rfl, Or.inr rfl, Or.inr rfl, Or.inl rfl, trivial⟩ (bX12_laySeats_89 C hr hk Hrc11 hf true)
  · rw [if_neg hc] at hf ⊢
    obtain ⟨hok, hf⟩ := grd_ex hf
    refine msegT C kX12_laySeats 37 4 (g := ((kO 187 12 && true), (if (S3.1 187 37) ≤ v5 then 89 else 75), [.ref (187), .int v1, .int v2, .int v3, .int v4, .int v5, .retAddr 0], [.int v5, .ref 218], mk b S3)) rfl hok ?_
    by_cases hc : (S3.1 187 37) ≤ v5
    · rw [if_pos hc] at hf ⊢
      exact mfor (L' := [.ref (187), .int v1, .int v2, .int v3, .int v4, .int v5, .retAddr 0]) ⟨Or.inr rfl, Or.inr rfl, Or.inr rfl, Or.inr rfl, Or.inr rfl, Or.inr rfl, Or.inl rfl, trivial⟩ (bX12_laySeats_89 C hr hk Hrc11 hf true)
    · rw [if_neg hc] at hf ⊢
      obtain ⟨hok, hf⟩ := grd_ex hf
      refine msegT C kX12_laySeats 41 9 (g := ((decide (¬ v3 = 0) && (kI 211 v5 && (kO 187 12 && true))), 90, [.ref (187), .int v1, .int v2, .int v3, .int v4, .int v5, .retAddr 0], [.int (((S3.1 211 (mIx v5)) * v1) - ((S3.1 211 (mIx v5)) * v1) / v3 * v3), .int v5, .ref 218], mk b S3)) rfl hok ?_
      exact mfor (L' := [.ref (187), .int v1, .int v2, .int v3, .int v4, .int v5, .retAddr 0]) ⟨Or.inr rfl, Or.inr rfl, Or.inr rfl, Or.inr rfl, Or.inr rfl, Or.inr rfl, Or.inl rfl, trivial⟩ (bX12_laySeats_90 C hr hk Hrc11 hf true)
theorem bX12_laySeats_54 (C : mCx p (mR 2) s m args meth c G cX12_laySeats RX12 7 false 233 54500 233 54500) (hr : meth.sig.returnType = none) (hk : meth.locks = false) {b : Bool} {S' : mT} {rc11 : Int32 → Int32 → Int32 → Int32 → Int32 → mT → Option (mT)} (Hrc11 : ∀ (v1 : Int32) (v2 : Int32) (v3 : Int32) (v4 : Int32) (v5 : Int32) (S : mT), rc11 v1 v2 v3 v4 v5 S = some S' → ∀ ok : Bool, mW p l e (mR 2) s m args below meth c G 7 233 54500 (mQ below G args s b S' none) (ok, 11, [.ref (187), .int v1, .int v2, .int v3, .int v4, .int v5, .retAddr 0], [], mk b S)) {v1 : Int32} {v2 : Int32} {v3 : Int32} {v4 : Int32} {v5 : Int32} {s0 : Int32} {S : mT} (hf : fX12_laySeats_54 rc11 v1 v2 v3 v4 v5 s0 S = some S') (ok : Bool) : mW p l e (mR 2) s m args below meth c G 7 233 54500 (mQ below G args s b S' none) (ok, 54, [.ref (187), .int v1, .int v2, .int v3, .int v4, .int v5, .retAddr 0], [.int s0, .ref 217], mk b S) := by
  unfold fX12_laySeats_54 at hf
  refine msegT C kX12_laySeats 30 1 (g := (true, 55, [.ref (187), .int v1, .int v2, .int v3, .int v4, .int v5, .retAddr 0], [.int (0 : Int32), .int s0, .ref 217], mk b S)) rfl rfl ?_
  exact mfor (L' := [.ref (187), .int v1, .int v2, .int v3, .int v4, .int v5, .retAddr 0]) ⟨Or.inr rfl, Or.inr rfl, Or.inr rfl, Or.inr rfl, Or.inr rfl, Or.inr rfl, Or.inl rfl, trivial⟩ (bX12_laySeats_55 C hr hk Hrc11 hf true)
theorem bX12_laySeats_198 (C : mCx p (mR 2) s m args meth c G cX12_laySeats RX12 7 false 233 54500 233 54500) (hr : meth.sig.returnType = none) (hk : meth.locks = false) {b : Bool} {S' : mT} {rc109 : Int32 → Int32 → Int32 → mT → Option (mT)} (Hrc109 : ∀ (v2 : Int32) (v3 : Int32) (v4 : Int32) (S : mT), rc109 v2 v3 v4 S = some S' → ∀ ok : Bool, mW p l e (mR 2) s m args below meth c G 7 233 54500 (mQ below G args s b S' none) (ok, 109, [.ref (187), .retAddr 0, .int v2, .int v3, .int v4, .retAddr 0, .retAddr 0], [], mk b S)) {rc124 : Int32 → Int32 → Int32 → Int32 → Int32 → mT → Option (mT)} (Hrc124 : ∀ (v2 : Int32) (v3 : Int32) (v4 : Int32) (v5 : Int32) (v6 : Int32) (S : mT), rc124 v2 v3 v4 v5 v6 S = some S' → ∀ ok : Bool, mW p l e (mR 2) s m args below meth c G 7 233 54500 (mQ below G args s b S' none) (ok, 124, [.ref (187), .retAddr 0, .int v2, .int v3, .int v4, .int v5, .int v6], [], mk b S)) {v2 : Int32} {v3 : Int32} {v4 : Int32} {v5 : Int32} {v6 : Int32} {S : mT} (hf : fX12_laySeats_198 rc109 rc124 v2 v3 v4 v5 v6 S = some S') (ok : Bool) : mW p l e (mR 2) s m args below meth c G 7 233 54500 (mQ below G args s b S' none) (ok, 198, [.ref (187), .retAddr 0, .int v2, .int v3, .int v4, .int v5, .int v6], [], mk b S) := by
  unfold fX12_laySeats_198 at hf
  refine msegT C kX12_laySeats 110 1 (g := (true, 201, [.ref (187), .retAddr 0, .int v2, .int v3, .int v4, .int v5, .int (v6 + (1 : Int32))], [], mk b S)) rfl rfl ?_
  obtain ⟨x10, ex10, hf⟩ := bnd_ex hf
  rw [← ex10]
  refine msegT C kX12_laySeats 111 1 (g := (true, 124, [.ref (187), .retAddr 0, .int v2, .int v3, .int v4, .int v5, .int x10], [], mk b S)) rfl rfl ?_
  exact mfor (L' := [.ref (187), .retAddr 0, .int v2, .int v3, .int v4, .int v5, .int x10]) ⟨Or.inr rfl, Or.inl rfl, Or.inr rfl, Or.inr rfl, Or.inr rfl, Or.inr rfl, Or.inr rfl, trivial⟩ (Hrc124 _ _ _ _ _ _ hf true)
theorem bX12_laySeats_194 (C : mCx p (mR 2) s m args meth c G cX12_laySeats RX12 7 false 233 54500 233 54500) (hr : meth.sig.returnType = none) (hk : meth.locks = false) {b : Bool} {S' : mT} {rc109 : Int32 → Int32 → Int32 → mT → Option (mT)} (Hrc109 : ∀ (v2 : Int32) (v3 : Int32) (v4 : Int32) (S : mT), rc109 v2 v3 v4 S = some S' → ∀ ok : Bool, mW p l e (mR 2) s m args below meth c G 7 233 54500 (mQ below G args s b S' none) (ok, 109, [.ref (187), .retAddr 0, .int v2, .int v3, .int v4, .retAddr 0, .retAddr 0], [], mk b S)) {rc124 : Int32 → Int32 → Int32 → Int32 → Int32 → mT → Option (mT)} (Hrc124 : ∀ (v2 : Int32) (v3 : Int32) (v4 : Int32) (v5 : Int32) (v6 : Int32) (S : mT), rc124 v2 v3 v4 v5 v6 S = some S' → ∀ ok : Bool, mW p l e (mR 2) s m args below meth c G 7 233 54500 (mQ below G args s b S' none) (ok, 124, [.ref (187), .retAddr 0, .int v2, .int v3, .int v4, .int v5, .int v6], [], mk b S)) {v2 : Int32} {v3 : Int32} {v4 : Int32} {v6 : Int32} {S : mT} (hf : fX12_laySeats_194 rc109 rc124 v2 v3 v4 v6 S = some S') (ok : Bool) : mW p l e (mR 2) s m args below meth c G 7 233 54500 (mQ below G args s b S' none) (ok, 194, [.ref (187), .retAddr 0, .int v2, .int v3, .int v4, .retAddr 0, .int v6], [], mk b S) := by
  unfold fX12_laySeats_194 at hf
  refine msegT C kX12_laySeats 108 2 (g := (true, 198, [.ref (187), .retAddr 0, .int v2, .int v3, .int v4, .int v6, .int v6], [], mk b S)) rfl rfl ?_
  exact mfor (L' := [.ref (187), .retAddr 0, .int v2, .int v3, .int v4, .int v6, .int v6]) ⟨Or.inr rfl, Or.inl rfl, Or.inr rfl, Or.inr rfl, Or.inr rfl, Or.inr rfl, Or.inr rfl, trivial⟩ (bX12_laySeats_198 C hr hk Hrc109 Hrc124 hf true)
theorem bX12_laySeats_124 (C : mCx p (mR 2) s m args meth c G cX12_laySeats RX12 7 false 233 54500 233 54500) (hr : meth.sig.returnType = none) (hk : meth.locks = false) {b : Bool} {S' : mT} {rc109 : Int32 → Int32 → Int32 → mT → Option (mT)} (Hrc109 : ∀ (v2 : Int32) (v3 : Int32) (v4 : Int32) (S : mT), rc109 v2 v3 v4 S = some S' → ∀ ok : Bool, mW p l e (mR 2) s m args below meth c G 7 233 54500 (mQ below G args s b S' none) (ok, 109, [.ref (187), .retAddr 0, .int v2, .int v3, .int v4, .retAddr 0, .retAddr 0], [], mk b S)) : ∀ (k : Nat) (v2 : Int32) (v3 : Int32) (v4 : Int32) (v5 : Int32) (v6 : Int32) (S : mT), fX12_laySeats_124 rc109 k v2 v3 v4 v5 v6 S = some S' → ∀ ok : Bool, mW p l e (mR 2) s m args below meth c G 7 233 54500 (mQ below G args s b S' none) (ok, 124, [.ref (187), .retAddr 0, .int v2, .int v3, .int v4, .int v5, .int v6], [], mk b S) := by
  intro k
  induction k with
  | zero =>
    intro v2 v3 v4 v5 v6 S hf ok
    cases hf
  | succ k ih =>
    intro v2 v3 v4 v5 v6 S hf ok
    unfold fX12_laySeats_124 at hf
    obtain ⟨hok, hf⟩ := grd_ex hf
    refine msegT C kX12_laySeats 69 4 (g := ((kO 187 12 && true), (if (S.1 187 37) ≤ v6 then 204 else 133), [.ref (187), .retAddr 0, .int v2, .int v3, .int v4, .int v5, .int v6], [], mk b S)) rfl hok ?_
    by_cases hc : (S.1 187 37) ≤ v6
    · rw [if_pos hc] at hf ⊢
      obtain ⟨hok, hf⟩ := grd_ex hf
      refine msegT C kX12_laySeats 112 8 (g := ((kI 217 v5 && (kI 217 v5 && (kO 187 12 && true))), 215, [.ref (187), .retAddr 0, .int v2, .int v3, .int v4, .int v5, .int v6], [], mk b (sI S 217 (mIx v5) ((S.1 217 (mIx v5)) + (1 : Int32))))) rfl hok ?_
      obtain ⟨S4, eS4, hf⟩ := bnd_ex hf
      rw [← eS4]
      obtain ⟨hok, hf⟩ := grd_ex hf
      refine msegT C kX12_laySeats 120 5 (g := ((kI 218 v5 && (kO 187 12 && true)), 223, [.ref (187), .retAddr 0, .int v2, .int v3, .int v4, .int v5, .int v6], [], mk b (sI S4 218 (mIx v5) (-1 : Int32)))) rfl hok ?_
      obtain ⟨S5, eS5, hf⟩ := bnd_ex hf
      rw [← eS5]
      refine msegT C kX12_laySeats 125 1 (g := (true, 226, [.ref (187), .retAddr 0, .int v2, .int v3, .int (v4 + (-1 : Int32)), .int v5, .int v6], [], mk b S5)) rfl rfl ?_
      obtain ⟨x6, ex6, hf⟩ := bnd_ex hf
      rw [← ex6]
      refine msegT C kX12_laySeats 126 1 (g := (true, 109, [.ref (187), .retAddr 0, .int v2, .int v3, .int x6, .int v5, .int v6], [], mk b S5)) rfl rfl ?_
      exact mfor (L' := [.ref (187), .retAddr 0, .int v2, .int v3, .int x6, .retAddr 0, .retAddr 0]) ⟨Or.inr rfl, Or.inl rfl, Or.inr rfl, Or.inr rfl, Or.inr rfl, Or.inl rfl, Or.inl rfl, trivial⟩ (Hrc109 _ _ _ _ hf true)
    · rw [if_neg hc] at hf ⊢
      refine msegT C kX12_laySeats 73 2 (g := (true, (if v2 = 0 then 137 else 157), [.ref (187), .retAddr 0, .int v2, .int v3, .int v4, .int v5, .int v6], [], mk b S)) rfl rfl ?_
      by_cases hc : v2 = 0
      · rw [if_pos hc] at hf ⊢
        obtain ⟨hok, hf⟩ := grd_ex hf
        refine msegT C kX12_laySeats 75 9 (g := ((kI 218 v5 && (kO 187 12 && (kI 218 v6 && (kO 187 12 && true)))), (if (S.1 218 (mIx v6)) ≤ (S.1 218 (mIx v5)) then 198 else 154), [.ref (187), .retAddr 0, .int v2, .int v3, .int v4, .int v5, .int v6], [], mk b S)) rfl hok ?_
        by_cases hc : (S.1 218 (mIx v6)) ≤ (S.1 218 (mIx v5))
        · rw [if_pos hc] at hf ⊢
          exact mfor (L' := [.ref (187), .retAddr 0, .int v2, .int v3, .int v4, .int v5, .int v6]) ⟨Or.inr rfl, Or.inl rfl, Or.inr rfl, Or.inr rfl, Or.inr rfl, Or.inr rfl, Or.inr rfl, trivial⟩ (bX12_laySeats_198 C hr hk Hrc109 ih hf true)
        · rw [if_neg hc] at hf ⊢
          refine msegT C kX12_laySeats 84 1 (g := (true, 194, [.ref (187), .retAddr 0, .int v2, .int v3, .int v4, .int v5, .int v6], [], mk b S)) rfl rfl ?_
          exact mfor (L' := [.ref (187), .retAddr 0, .int v2, .int v3, .int v4, .retAddr 0, .int v6]) ⟨Or.inr rfl, Or.inl rfl, Or.inr rfl, Or.inr rfl, Or.inr rfl, Or.inl rfl, Or.inr rfl, trivial⟩ (bX12_laySeats_194 C hr hk Hrc109 ih hf true)
      · rw [if_neg hc] at hf ⊢
        obtain ⟨hok, hf⟩ := grd_ex hf
        refine msegT C kX12_laySeats 85 10 (g := ((kI 217 v5 && (kO 187 12 && (kI 211 v6 && (kO 187 12 && true)))), 173, [.ref (187), .retAddr 0, .int v2, .int v3, .int v4, .int v5, .int v6], [.int ((S.1 217 (mIx v5)) + (1 : Int32)), .int (S.1 211 (mIx v6))], mk b S)) rfl hok ?_
        obtain ⟨hok, hf⟩ := grd_ex hf
        refine msegT C kX12_laySeats 95 10 (g := ((kI 217 v6 && (kO 187 12 && (kI 211 v5 && (kO 187 12 && true)))), 189, [.ref (187), .retAddr 0, .int v2, .int v3, .int v4, .int v5, .int v6], [.int (1 : Int32), .int (S.1 217 (mIx v6)), .int (S.1 211 (mIx v5)), .int ((S.1 211 (mIx v6)) * ((S.1 217 (mIx v5)) + (1 : Int32)))], mk b S)) rfl hok ?_
        refine msegT C kX12_laySeats 105 3 (g := (true, (if ((S.1 211 (mIx v6)) * ((S.1 217 (mIx v5)) + (1 : Int32))) ≤ ((S.1 211 (mIx v5)) * ((S.1 217 (mIx v6)) + (1 : Int32))) then 198 else 194), [.ref (187), .retAddr 0, .int v2, .int v3, .int v4, .int v5, .int v6], [], mk b S)) rfl rfl ?_
        by_cases hc : ((S.1 211 (mIx v6)) * ((S.1 217 (mIx v5)) + (1 : Int32))) ≤ ((S.1 211 (mIx v5)) * ((S.1 217 (mIx v6)) + (1 : Int32)))
        · rw [if_pos hc] at hf ⊢
          exact mfor (L' := [.ref (187), .retAddr 0, .int v2, .int v3, .int v4, .int v5, .int v6]) ⟨Or.inr rfl, Or.inl rfl, Or.inr rfl, Or.inr rfl, Or.inr rfl, Or.inr rfl, Or.inr rfl, trivial⟩ (bX12_laySeats_198 C hr hk Hrc109 ih hf true)
        · rw [if_neg hc] at hf ⊢
          exact mfor (L' := [.ref (187), .retAddr 0, .int v2, .int v3, .int v4, .retAddr 0, .int v6]) ⟨Or.inr rfl, Or.inl rfl, Or.inr rfl, Or.inr rfl, Or.inr rfl, Or.inl rfl, Or.inr rfl, trivial⟩ (bX12_laySeats_194 C hr hk Hrc109 ih hf true)
theorem bX12_laySeats_229 (C : mCx p (mR 2) s m args meth c G cX12_laySeats RX12 7 false 233 54500 233 54500) (hr : meth.sig.returnType = none) (hk : meth.locks = false) {b : Bool} {S' : mT} {S : mT} (hf : fX12_laySeats_229 S = some S') (ok : Bool) : mW p l e (mR 2) s m args below meth c G 7 233 54500 (mQ below G args s b S' none) (ok, 229, [.retAddr 0, .retAddr 0, .retAddr 0, .retAddr 0, .retAddr 0, .retAddr 0, .retAddr 0], [], mk b S) := by
  unfold fX12_laySeats_229 at hf
  cases hf
  exact gret_v C hr hk (kX12_laySeats _ (List.mem_of_getElem? (i := 127) rfl)).1
theorem bX12_laySeats_109 (C : mCx p (mR 2) s m args meth c G cX12_laySeats RX12 7 false 233 54500 233 54500) (hr : meth.sig.returnType = none) (hk : meth.locks = false) {b : Bool} {S' : mT} : ∀ (k : Nat) (v2 : Int32) (v3 : Int32) (v4 : Int32) (S : mT), fX12_laySeats_109 k v2 v3 v4 S = some S' → ∀ ok : Bool, mW p l e (mR 2) s m args below meth c G 7 233 54500 (mQ below G args s b S' none) (ok, 109, [.ref (187), .retAddr 0, .int v2, .int v3, .int v4, .retAddr 0, .retAddr 0], [], mk b S) := by
  intro k
  induction k with
  | zero =>
    intro v2 v3 v4 S hf ok
    cases hf
  | succ k ih =>
    intro v2 v3 v4 S hf ok
    unfold fX12_laySeats_109 at hf
    refine msegT C kX12_laySeats 61 2 (g := (true, (if v4 ≤ 0 then 229 else 114), [.ref (187), .retAddr 0, .int v2, .int v3, .int v4, .retAddr 0, .retAddr 0], [], mk b S)) rfl rfl ?_
    by_cases hc : v4 ≤ 0
    · rw [if_pos hc] at hf ⊢
      exact mfor (L' := [.retAddr 0, .retAddr 0, .retAddr 0, .retAddr 0, .retAddr 0, .retAddr 0, .retAddr 0]) ⟨Or.inl rfl, Or.inl rfl, Or.inl rfl, Or.inl rfl, Or.inl rfl, Or.inl rfl, Or.inl rfl, trivial⟩ (bX12_laySeats_229 C hr hk hf true)
    · rw [if_neg hc] at hf ⊢
      refine msegT C kX12_laySeats 63 2 (g := (true, (if v3 ≤ 0 then 229 else 118), [.ref (187), .retAddr 0, .int v2, .int v3, .int v4, .retAddr 0, .retAddr 0], [], mk b S)) rfl rfl ?_
      by_cases hc : v3 ≤ 0
      · rw [if_pos hc] at hf ⊢
        exact mfor (L' := [.retAddr 0, .retAddr 0, .retAddr 0, .retAddr 0, .retAddr 0, .retAddr 0, .retAddr 0]) ⟨Or.inl rfl, Or.inl rfl, Or.inl rfl, Or.inl rfl, Or.inl rfl, Or.inl rfl, Or.inl rfl, trivial⟩ (bX12_laySeats_229 C hr hk hf true)
      · rw [if_neg hc] at hf ⊢
        refine msegT C kX12_laySeats 65 4 (g := (true, 124, [.ref (187), .retAddr 0, .int v2, .int v3, .int v4, .int (0 : Int32), .int (1 : Int32)], [], mk b S)) rfl rfl ?_
        exact mfor (L' := [.ref (187), .retAddr 0, .int v2, .int v3, .int v4, .int (0 : Int32), .int (1 : Int32)]) ⟨Or.inr rfl, Or.inl rfl, Or.inr rfl, Or.inr rfl, Or.inr rfl, Or.inr rfl, Or.inr rfl, trivial⟩ (bX12_laySeats_124 C hr hk ih _ _ _ _ _ _ _ hf true)
theorem bX12_laySeats_11 (C : mCx p (mR 2) s m args meth c G cX12_laySeats RX12 7 false 233 54500 233 54500) (hr : meth.sig.returnType = none) (hk : meth.locks = false) {b : Bool} {S' : mT} : ∀ (k : Nat) (v1 : Int32) (v2 : Int32) (v3 : Int32) (v4 : Int32) (v5 : Int32) (S : mT), fX12_laySeats_11 k v1 v2 v3 v4 v5 S = some S' → ∀ ok : Bool, mW p l e (mR 2) s m args below meth c G 7 233 54500 (mQ below G args s b S' none) (ok, 11, [.ref (187), .int v1, .int v2, .int v3, .int v4, .int v5, .retAddr 0], [], mk b S) := by
  intro k
  induction k with
  | zero =>
    intro v1 v2 v3 v4 v5 S hf ok
    cases hf
  | succ k ih =>
    intro v1 v2 v3 v4 v5 S hf ok
    unfold fX12_laySeats_11 at hf
    refine msegT C kX12_laySeats 7 3 (g := (true, (if (5 : Int32) ≤ v5 then 109 else 17), [.ref (187), .int v1, .int v2, .int v3, .int v4, .int v5, .retAddr 0], [], mk b S)) rfl rfl ?_
    by_cases hc : (5 : Int32) ≤ v5
    · rw [if_pos hc] at hf ⊢
      exact mfor (L' := [.ref (187), .retAddr 0, .int v2, .int v3, .int v4, .retAddr 0, .retAddr 0]) ⟨Or.inr rfl, Or.inl rfl, Or.inr rfl, Or.inr rfl, Or.inr rfl, Or.inl rfl, Or.inl rfl, trivial⟩ (bX12_laySeats_109 C hr hk _ _ _ _ _ hf true)
    · rw [if_neg hc] at hf ⊢
      obtain ⟨hok, hf⟩ := grd_ex hf
      refine msegT C kX12_laySeats 10 5 (g := ((kO 187 12 && true), (if v2 = 0 then 27 else 54), [.ref (187), .int v1, .int v2, .int v3, .int v4, .int v5, .retAddr 0], [.int v5, .ref 217], mk b S)) rfl hok ?_
      by_cases hc : v2 = 0
      · rw [if_pos hc] at hf ⊢
        refine msegT C kX12_laySeats 15 2 (g := (true, (if v3 ≤ 0 then 54 else 31), [.ref (187), .int v1, .int v2, .int v3, .int v4, .int v5, .retAddr 0], [.int v5, .ref 217], mk b S)) rfl rfl ?_
        by_cases hc : v3 ≤ 0
        · rw [if_pos hc] at hf ⊢
          exact mfor (L' := [.ref (187), .int v1, .int v2, .int v3, .int v4, .int v5, .retAddr 0]) ⟨Or.inr rfl, Or.inr rfl, Or.inr rfl, Or.inr rfl, Or.inr rfl, Or.inr rfl, Or.inl rfl, trivial⟩ (bX12_laySeats_54 C hr hk ih hf true)
        · rw [if_neg hc] at hf ⊢
          obtain ⟨hok, hf⟩ := grd_ex hf
          refine msegT C kX12_laySeats 17 4 (g := ((kO 187 12 && true), (if (S.1 187 37) ≤ v5 then 54 else 40), [.ref (187), .int v1, .int v2, .int v3, .int v4, .int v5, .retAddr 0], [.int v5, .ref 217], mk b S)) rfl hok ?_
          by_cases hc : (S.1 187 37) ≤ v5
          · rw [if_pos hc] at hf ⊢
            exact mfor (L' := [.ref (187), .int v1, .int v2, .int v3, .int v4, .int v5, .retAddr 0]) ⟨Or.inr rfl, Or.inr rfl, Or.inr rfl, Or.inr rfl, Or.inr rfl, Or.inr rfl, Or.inl rfl, trivial⟩ (bX12_laySeats_54 C hr hk ih hf true)
          · rw [if_neg hc] at hf ⊢
            obtain ⟨hok, hf⟩ := grd_ex hf
            refine msegT C kX12_laySeats 21 9 (g := ((decide (¬ v3 = 0) && (kI 211 v5 && (kO 187 12 && true))), 55, [.ref (187), .int v1, .int v2, .int v3, .int v4, .int v5, .retAddr 0], [.int (((S.1 211 (mIx v5)) * v1) / v3), .int v5, .ref 217], mk b S)) rfl hok ?_
            exact mfor (L' := [.ref (187), .int v1, .int v2, .int v3, .int v4, .int v5, .retAddr 0]) ⟨Or.inr rfl, Or.inr rfl, Or.inr rfl, Or.inr rfl, Or.inr rfl, Or.inr rfl, Or.inl rfl, trivial⟩ (bX12_laySeats_55 C hr hk ih hf true)
      · rw [if_neg hc] at hf ⊢
        exact mfor (L' := [.ref (187), .int v1, .int v2, .int v3, .int v4, .int v5, .retAddr 0]) ⟨Or.inr rfl, Or.inr rfl, Or.inr rfl, Or.inr rfl, Or.inr rfl, Or.inr rfl, Or.inl rfl, trivial⟩ (bX12_laySeats_54 C hr hk ih hf true)
theorem bX12_laySeats_0 (C : mCx p (mR 2) s m args meth c G cX12_laySeats RX12 7 false 233 54500 233 54500) (hr : meth.sig.returnType = none) (hk : meth.locks = false) {b : Bool} {S' : mT} {v1 : Int32} {v2 : Int32} {S : mT} (hf : fX12_laySeats v1 v2 S = some S') (ok : Bool) : mW p l e (mR 2) s m args below meth c G 7 233 54500 (mQ below G args s b S' none) (ok, 0, [.ref (187), .int v1, .int v2, .retAddr 0, .retAddr 0, .retAddr 0, .retAddr 0], [], mk b S) := by
  unfold fX12_laySeats at hf
  refine msegT C kX12_laySeats 0 1 (g := (true, 1, [.ref (187), .int v1, .int v2, .retAddr 0, .retAddr 0, .retAddr 0, .retAddr 0], [.ref (187)], mk b S)) rfl rfl ?_
  obtain ⟨x2, S1, hq, hf⟩ := bndC_ex hf
  refine mcall (kd := 0) (vs := [.ref (187)]) (rest := []) (r := (some (.int x2))) (h' := mk b S1) (ok' := true) C lkRX12_415 (qX12_allBowls hq) (kX12_laySeats _ (List.mem_of_getElem? (i := 1) rfl)).1 ⟨_, _, rfl, rfl, Nat.le_of_ble_eq_true rfl, _, _, rfl, rfl, rfl⟩ (Nat.le_of_ble_eq_true rfl) (Nat.le_of_ble_eq_true rfl) (Nat.le_refl _) (Nat.le_refl _) (Nat.le_of_ble_eq_true rfl) ?_
  refine msegT C kX12_laySeats 2 5 (g := (true, 11, [.ref (187), .int v1, .int v2, .int x2, .int v1, .int (0 : Int32), .retAddr 0], [], mk b S1)) rfl rfl ?_
  exact mfor (L' := [.ref (187), .int v1, .int v2, .int x2, .int v1, .int (0 : Int32), .retAddr 0]) ⟨Or.inr rfl, Or.inr rfl, Or.inr rfl, Or.inr rfl, Or.inr rfl, Or.inr rfl, Or.inl rfl, trivial⟩ (bX12_laySeats_11 C hr hk _ _ _ _ _ _ _ hf true)
theorem qX12_laySeats {b : Bool} {v1 : Int32} {v2 : Int32} {S S' : mT} (hf : fX12_laySeats v1 v2 S = some S') : mOk l mX12_laySeats 2 [.ref (187), .int v1, .int v2] b S none S' :=
  gMet (by decide) (Nat.le_of_ble_eq_true rfl) rfl (Nat.le_of_ble_eq_true rfl) (fun p e s m args below meth c G C hr hk => bX12_laySeats_0 C hr hk hf true)
theorem bX12_layTaxes_71 (C : mCx p (mR 6) s m args meth c G cX12_layTaxes RX12 3 false 233 54500 233 54500) (hr : meth.sig.returnType = none) (hk : meth.locks = false) {b : Bool} {S' : mT} {rc6 : Int32 → mT → Option (mT)} (Hrc6 : ∀ (v1 : Int32) (S : mT), rc6 v1 S = some S' → ∀ ok : Bool, mW p l e (mR 6) s m args below meth c G 3 233 54500 (mQ below G args s b S' none) (ok, 6, [.ref (187), .int v1, .retAddr 0], [], mk b S)) {rc16 : Int32 → Int32 → mT → Option (mT)} (Hrc16 : ∀ (v1 : Int32) (v2 : Int32) (S : mT), rc16 v1 v2 S = some S' → ∀ ok : Bool, mW p l e (mR 6) s m args below meth c G 3 233 54500 (mQ below G args s b S' none) (ok, 16, [.ref (187), .int v1, .int v2], [], mk b S)) {v1 : Int32} {v2 : Int32} {s0 : Int32} {s1 : Int32} {S : mT} (hf : fX12_layTaxes_71 rc6 rc16 v1 v2 s0 s1 S = some S') (ok : Bool) : mW p l e (mR 6) s m args below meth c G 3 233 54500 (mQ below G args s b S' none) (ok, 71, [.ref (187), .int v1, .int v2], [.int s0, .int s1, .ref 213], mk b S) := by
  unfold fX12_layTaxes_71 at hf
  obtain ⟨hok, hf⟩ := grd_ex hf
  refine msegT C kX12_layTaxes 43 1 (g := ((kI 213 s1 && true), 72, [.ref (187), .int v1, .int v2], [], mk b (sI S 213 (mIx s1) s0))) rfl hok ?_
  obtain ⟨S10, eS10, hf⟩ := bnd_ex hf
  rw [← eS10]
  refine msegT C kX12_layTaxes 44 1 (g := (true, 75, [.ref (187), .int v1, .int (v2 + (1 : Int32))], [], mk b S10)) rfl rfl ?_
  obtain ⟨x11, ex11, hf⟩ := bnd_ex hf
  rw [← ex11]
  refine msegT C kX12_layTaxes 45 1 (g := (true, 16, [.ref (187), .int v1, .int x11], [], mk b S10)) rfl rfl ?_
  exact mfor (L' := [.ref (187), .int v1, .int x11]) ⟨Or.inr rfl, Or.inr rfl, Or.inr rfl, trivial⟩ (Hrc16 _ _ _ hf true)
theorem bX12_layTaxes_57 (C : mCx p (mR 6) s m args meth c G cX12_layTaxes RX12 3 false 233 54500 233 54500) (hr : meth.sig.returnType = none) (hk : meth.locks = false) {b : Bool} {S' : mT} {rc6 : Int32 → mT → Option (mT)} (Hrc6 : ∀ (v1 : Int32) (S : mT), rc6 v1 S = some S' → ∀ ok : Bool, mW p l e (mR 6) s m args below meth c G 3 233 54500 (mQ below G args s b S' none) (ok, 6, [.ref (187), .int v1, .retAddr 0], [], mk b S)) {rc16 : Int32 → Int32 → mT → Option (mT)} (Hrc16 : ∀ (v1 : Int32) (v2 : Int32) (S : mT), rc16 v1 v2 S = some S' → ∀ ok : Bool, mW p l e (mR 6) s m args below meth c G 3 233 54500 (mQ below G args s b S' none) (ok, 16, [.ref (187), .int v1, .int v2], [], mk b S)) {v1 : Int32} {v2 : Int32} {s0 : Int32} {S : mT} (hf : fX12_layTaxes_57 rc6 rc16 v1 v2 s0 S = some S') (ok : Bool) : mW p l e (mR 6) s m args below meth c G 3 233 54500 (mQ below G args s b S' none) (ok, 57, [.ref (187), .int v1, .int v2], [.int s0, .ref 213], mk b S) := by
  unfold fX12_layTaxes_57 at hf
  refine msegT C kX12_layTaxes 35 2 (g := (true, 71, [.ref (187), .int v1, .int v2], [.int (-1 : Int32), .int s0, .ref 213], mk b S)) rfl rfl ?_
  exact mfor (L' := [.ref (187), .int v1, .int v2]) ⟨Or.inr rfl, Or.inr rfl, Or.inr rfl, trivial⟩ (bX12_layTaxes_71 C hr hk Hrc6 Hrc16 hf true)
theorem bX12_layTaxes_16 (C : mCx p (mR 6) s m args meth c G cX12_layTaxes RX12 3 false 233 54500 233 54500) (hr : meth.sig.returnType = none) (hk : meth.locks = false) {b : Bool} {S' : mT} {rc6 : Int32 → mT → Option (mT)} (Hrc6 : ∀ (v1 : Int32) (S : mT), rc6 v1 S = some S' → ∀ ok : Bool, mW p l e (mR 6) s m args below meth c G 3 233 54500 (mQ below G args s b S' none) (ok, 6, [.ref (187), .int v1, .retAddr 0], [], mk b S)) : ∀ (k : Nat) (v1 : Int32) (v2 : Int32) (S : mT), fX12_layTaxes_16 rc6 k v1 v2 S = some S' → ∀ ok : Bool, mW p l e (mR 6) s m args below meth c G 3 233 54500 (mQ below G args s b S' none) (ok, 16, [.ref (187), .int v1, .int v2], [], mk b S) := by
  intro k
  induction k with
  | zero =>
    intro v1 v2 S hf ok
    cases hf
  | succ k ih =>
    intro v1 v2 S hf ok
    unfold fX12_layTaxes_16 at hf
    refine msegT C kX12_layTaxes 10 3 (g := (true, (if (7 : Int32) < v2 then 78 else 22), [.ref (187), .int v1, .int v2], [], mk b S)) rfl rfl ?_
    by_cases hc : (7 : Int32) < v2
    · rw [if_pos hc] at hf ⊢
      refine msegT C kX12_layTaxes 46 1 (g := (true, 81, [.ref (187), .int (v1 + (1 : Int32)), .int v2], [], mk b S)) rfl rfl ?_
      obtain ⟨x2, ex2, hf⟩ := bnd_ex hf
      rw [← ex2]
      refine msegT C kX12_layTaxes 47 1 (g := (true, 6, [.ref (187), .int x2, .int v2], [], mk b S)) rfl rfl ?_
      exact mfor (L' := [.ref (187), .int x2, .retAddr 0]) ⟨Or.inr rfl, Or.inr rfl, Or.inl rfl, trivial⟩ (Hrc6 _ _ hf true)
    · rw [if_neg hc] at hf ⊢
      obtain ⟨hok, hf⟩ := grd_ex hf
      refine msegT C kX12_layTaxes 13 5 (g := ((kI 210 v1 && (kO 187 12 && true)), 29, [.ref (187), .int v1, .int v2], [], mk b (sI S 210 (mIx v1) v2))) rfl hok ?_
      obtain ⟨S3, eS3, hf⟩ := bnd_ex hf
      rw [← eS3]
      obtain ⟨hok, hf⟩ := grd_ex hf
      refine msegT C kX12_layTaxes 18 10 (g := ((kO 187 12 && (kO 187 12 && true)), 44, [.ref (187), .int v1, .int v2], [.ref 209, .int v2, .int (((8 : Int32) * v1) + v2), .ref 213], mk b S3)) rfl hok ?_
      obtain ⟨hok, hf⟩ := grd_ex hf
      refine msegT C kX12_layTaxes 28 3 (g := ((kI 209 v1 && true), (if (S3.1 209 (mIx v1)) < v2 then 57 else 49), [.ref (187), .int v1, .int v2], [.int (((8 : Int32) * v1) + v2), .ref 213], mk b S3)) rfl hok ?_
      by_cases hc : (S3.1 209 (mIx v1)) < v2
      · rw [if_pos hc] at hf ⊢
        exact mfor (L' := [.ref (187), .int v1, .int v2]) ⟨Or.inr rfl, Or.inr rfl, Or.inr rfl, trivial⟩ (bX12_layTaxes_57 C hr hk Hrc6 ih hf true)
      · rw [if_neg hc] at hf ⊢
        refine msegT C kX12_layTaxes 31 2 (g := (true, 51, [.ref (187), .int v1, .int v2], [.int v1, .ref (187), .int (((8 : Int32) * v1) + v2), .ref 213], mk b S3)) rfl rfl ?_
        obtain ⟨x5, S4, hq, hf⟩ := bndC_ex hf
        refine mcall (kd := 0) (vs := [.ref (187), .int v1]) (rest := [.int (((8 : Int32) * v1) + v2), .ref 213]) (r := (some (.int x5))) (h' := mk b S4) (ok' := true) C lkRX12_394 (qX12_shows hq) (kX12_layTaxes _ (List.mem_of_getElem? (i := 33) rfl)).1 ⟨_, _, rfl, rfl, Nat.le_of_ble_eq_true rfl, _, _, rfl, rfl, rfl⟩ (Nat.le_of_ble_eq_true rfl) (Nat.le_of_ble_eq_true rfl) (Nat.le_refl _) (Nat.le_refl _) (Nat.le_of_ble_eq_true rfl) ?_
        refine msegT C kX12_layTaxes 34 1 (g := (true, (if x5 = 0 then 61 else 57), [.ref (187), .int v1, .int v2], [.int (((8 : Int32) * v1) + v2), .ref 213], mk b S4)) rfl rfl ?_
        by_cases hc : x5 = 0
        · rw [if_pos hc] at hf ⊢
          refine msegT C kX12_layTaxes 37 4 (g := (true, 65, [.ref (187), .int v1, .int v2], [.int v1, .ref (187), .int v1, .ref (187), .int (((8 : Int32) * v1) + v2), .ref 213], mk b S4)) rfl rfl ?_
          obtain ⟨x7, S6, hq, hf⟩ := bndC_ex hf
          refine mcall (kd := 0) (vs := [.ref (187), .int v1]) (rest := [.int v1, .ref (187), .int (((8 : Int32) * v1) + v2), .ref 213]) (r := (some (.int x7))) (h' := mk b S6) (ok' := true) C lkRX12_382 (qX12_stonesOf hq) (kX12_layTaxes _ (List.mem_of_getElem? (i := 41) rfl)).1 ⟨_, _, rfl, rfl, Nat.le_of_ble_eq_true rfl, _, _, rfl, rfl, rfl⟩ (Nat.le_of_ble_eq_true rfl) (Nat.le_of_ble_eq_true rfl) (Nat.le_refl _) (Nat.le_refl _) (Nat.le_of_ble_eq_true rfl) ?_
          obtain ⟨x9, S8, hq, hf⟩ := bndC_ex hf
          refine mcall (kd := 0) (vs := [.ref (187), .int v1, .int x7]) (rest := [.int (((8 : Int32) * v1) + v2), .ref 213]) (r := (some (.int x9))) (h' := mk b S8) (ok' := true) C lkRX12_397 (qX12_taxOf hq) (kX12_layTaxes _ (List.mem_of_getElem? (i := 42) rfl)).1 ⟨_, _, rfl, rfl, Nat.le_of_ble_eq_true rfl, _, _, rfl, rfl, rfl⟩ (Nat.le_of_ble_eq_true rfl) (Nat.le_of_ble_eq_true rfl) (Nat.le_refl _) (Nat.le_refl _) (Nat.le_of_ble_eq_true rfl) ?_
          exact mfor (L' := [.ref (187), .int v1, .int v2]) ⟨Or.inr rfl, Or.inr rfl, Or.inr rfl, trivial⟩ (bX12_layTaxes_71 C hr hk Hrc6 ih hf true)
        · rw [if_neg hc] at hf ⊢
          exact mfor (L' := [.ref (187), .int v1, .int v2]) ⟨Or.inr rfl, Or.inr rfl, Or.inr rfl, trivial⟩ (bX12_layTaxes_57 C hr hk Hrc6 ih hf true)
theorem bX12_layTaxes_6 (C : mCx p (mR 6) s m args meth c G cX12_layTaxes RX12 3 false 233 54500 233 54500) (hr : meth.sig.returnType = none) (hk : meth.locks = false) {b : Bool} {S' : mT} : ∀ (k : Nat) (v1 : Int32) (S : mT), fX12_layTaxes_6 k v1 S = some S' → ∀ ok : Bool, mW p l e (mR 6) s m args below meth c G 3 233 54500 (mQ below G args s b S' none) (ok, 6, [.ref (187), .int v1, .retAddr 0], [], mk b S) := by
  intro k
  induction k with
  | zero =>
    intro v1 S hf ok
    cases hf
  | succ k ih =>
    intro v1 S hf ok
    unfold fX12_layTaxes_6 at hf
    obtain ⟨hok, hf⟩ := grd_ex hf
    refine msegT C kX12_layTaxes 4 4 (g := ((kO 187 12 && true), (if (S.1 187 37) ≤ v1 then 84 else 14), [.ref (187), .int v1, .retAddr 0], [], mk b S)) rfl hok ?_
    by_cases hc : (S.1 187 37) ≤ v1
    · rw [if_pos hc] at hf ⊢
      cases hf
      exact gret_v C hr hk (kX12_layTaxes _ (List.mem_of_getElem? (i := 48) rfl)).1
    · rw [if_neg hc] at hf ⊢
      refine msegT C kX12_layTaxes 8 2 (g := (true, 16, [.ref (187), .int v1, .int (0 : Int32)], [], mk b S)) rfl rfl ?_
      exact mfor (L' := [.ref (187), .int v1, .int (0 : Int32)]) ⟨Or.inr rfl, Or.inr rfl, Or.inr rfl, trivial⟩ (bX12_layTaxes_16 C hr hk ih _ _ _ _ hf true)
theorem bX12_layTaxes_0 (C : mCx p (mR 6) s m args meth c G cX12_layTaxes RX12 3 false 233 54500 233 54500) (hr : meth.sig.returnType = none) (hk : meth.locks = false) {b : Bool} {S' : mT} {S : mT} (hf : fX12_layTaxes S = some S') (ok : Bool) : mW p l e (mR 6) s m args below meth c G 3 233 54500 (mQ below G args s b S' none) (ok, 0, [.ref (187), .retAddr 0, .retAddr 0], [], mk b S) := by
  unfold fX12_layTaxes at hf
  refine msegT C kX12_layTaxes 0 1 (g := (true, 1, [.ref (187), .retAddr 0, .retAddr 0], [.ref (187)], mk b S)) rfl rfl ?_
  obtain ⟨S1, hq, hf⟩ := bndV_ex hf
  refine mcall (kd := 0) (vs := [.ref (187)]) (rest := []) (r := none) (h' := mk b S1) (ok' := true) C lkRX12_391 (qX12_load hq) (kX12_layTaxes _ (List.mem_of_getElem? (i := 1) rfl)).1 ⟨_, _, rfl, rfl, Nat.le_of_ble_eq_true rfl, _, _, rfl, rfl, rfl⟩ (Nat.le_of_ble_eq_true rfl) (Nat.le_of_ble_eq_true rfl) (Nat.le_refl _) (Nat.le_refl _) (Nat.le_of_ble_eq_true rfl) ?_
  refine msegT C kX12_layTaxes 2 2 (g := (true, 6, [.ref (187), .int (0 : Int32), .retAddr 0], [], mk b S1)) rfl rfl ?_
  exact mfor (L' := [.ref (187), .int (0 : Int32), .retAddr 0]) ⟨Or.inr rfl, Or.inr rfl, Or.inl rfl, trivial⟩ (bX12_layTaxes_6 C hr hk _ _ _ hf true)
theorem qX12_layTaxes {b : Bool} {S S' : mT} (hf : fX12_layTaxes S = some S') : mOk l mX12_layTaxes 6 [.ref (187)] b S none S' :=
  gMet (by decide) (Nat.le_of_ble_eq_true rfl) rfl (Nat.le_of_ble_eq_true rfl) (fun p e s m args below meth c G C hr hk => bX12_layTaxes_0 C hr hk hf true)
theorem bX12_least_76 (C : mCx p (mR 7) s m args meth c G cX12_least RX12 5 false 233 54500 233 54500) (hr : meth.sig.returnType = (some .int)) (hk : meth.locks = false) {b : Bool} {S' : mT} {r : Int32} {rc8 : Int32 → Int32 → mT → Option (Int32 × mT)} (Hrc8 : ∀ (v1 : Int32) (v2 : Int32) (S : mT), rc8 v1 v2 S = some (r, S') → ∀ ok : Bool, mW p l e (mR 7) s m args below meth c G 5 233 54500 (mQ below G args s b S' (some (.int r))) (ok, 8, [.ref (187), .int v1, .int v2, .retAddr 0, .retAddr 0], [], mk b S)) {rc21 : Int32 → Int32 → Int32 → Int32 → mT → Option (Int32 × mT)} (Hrc21 : ∀ (v1 : Int32) (v2 : Int32) (v3 : Int32) (v4 : Int32) (S : mT), rc21 v1 v2 v3 v4 S = some (r, S') → ∀ ok : Bool, mW p l e (mR 7) s m args below meth c G 5 233 54500 (mQ below G args s b S' (some (.int r))) (ok, 21, [.ref (187), .int v1, .int v2, .int v3, .int v4], [], mk b S)) {v1 : Int32} {v2 : Int32} {v3 : Int32} {v4 : Int32} {S : mT} (hf : fX12_least_76 rc8 rc21 v1 v2 v3 v4 S = some (r, S')) (ok : Bool) : mW p l e (mR 7) s m args below meth c G 5 233 54500 (mQ below G args s b S' (some (.int r))) (ok, 76, [.ref (187), .int v1, .int v2, .int v3, .int v4], [], mk b S) := by
  unfold fX12_least_76 at hf
  refine msegT C kX12_least 47 1 (g := (true, 79, [.ref (187), .int v1, .int v2, .int v3, .int (v4 + (1 : Int32))], [], mk b S)) rfl rfl ?_
  obtain ⟨x4, ex4, hf⟩ := bnd_ex hf
  rw [← ex4]
  refine msegT C kX12_least 48 1 (g := (true, 21, [.ref (187), .int v1, .int v2, .int v3, .int x4], [], mk b S)) rfl rfl ?_
  exact mfor (L' := [.ref (187), .int v1, .int v2, .int v3, .int x4]) ⟨Or.inr rfl, Or.inr rfl, Or.inr rfl, Or.inr rfl, Or.inr rfl, trivial⟩ (Hrc21 _ _ _ _ _ hf true)
theorem bX12_least_63 (C : mCx p (mR 7) s m args meth c G cX12_least RX12 5 false 233 54500 233 54500) (hr : meth.sig.returnType = (some .int)) (hk : meth.locks = false) {b : Bool} {S' : mT} {r : Int32} {rc8 : Int32 → Int32 → mT → Option (Int32 × mT)} (Hrc8 : ∀ (v1 : Int32) (v2 : Int32) (S : mT), rc8 v1 v2 S = some (r, S') → ∀ ok : Bool, mW p l e (mR 7) s m args below meth c G 5 233 54500 (mQ below G args s b S' (some (.int r))) (ok, 8, [.ref (187), .int v1, .int v2, .retAddr 0, .retAddr 0], [], mk b S)) {rc21 : Int32 → Int32 → Int32 → Int32 → mT → Option (Int32 × mT)} (Hrc21 : ∀ (v1 : Int32) (v2 : Int32) (v3 : Int32) (v4 : Int32) (S : mT), rc21 v1 v2 v3 v4 S = some (r, S') → ∀ ok : Bool, mW p l e (mR 7) s m args below meth c G 5 233 54500 (mQ below G args s b S' (some (.int r))) (ok, 21, [.ref (187), .int v1, .int v2, .int v3, .int v4], [], mk b S)) {v1 : Int32} {v2 : Int32} {v4 : Int32} {S : mT} (hf : fX12_least_63 rc8 rc21 v1 v2 v4 S = some (r, S')) (ok : Bool) : mW p l e (mR 7) s m args below meth c G 5 233 54500 (mQ below G args s b S' (some (.int r))) (ok, 63, [.ref (187), .int v1, .int v2, .retAddr 0, .int v4], [], mk b S) := by
  unfold fX12_least_63 at hf
  obtain ⟨hok, hf⟩ := grd_ex hf
  refine msegT C kX12_least 38 9 (g := ((kI 213 (((8 : Int32) * v2) + v4) && (kO 187 12 && true)), 76, [.ref (187), .int v1, .int v2, .int (S.1 213 (mIx (((8 : Int32) * v2) + v4))), .int v4], [], mk b S)) rfl hok ?_
  obtain ⟨x5, ex5, hf⟩ := bnd_ex hf
  rw [← ex5]
  exact mfor (L' := [.ref (187), .int v1, .int v2, .int x5, .int v4]) ⟨Or.inr rfl, Or.inr rfl, Or.inr rfl, Or.inr rfl, Or.inr rfl, trivial⟩ (bX12_least_76 C hr hk Hrc8 Hrc21 hf true)
theorem bX12_least_21 (C : mCx p (mR 7) s m args meth c G cX12_least RX12 5 false 233 54500 233 54500) (hr : meth.sig.returnType = (some .int)) (hk : meth.locks = false) {b : Bool} {S' : mT} {r : Int32} {rc8 : Int32 → Int32 → mT → Option (Int32 × mT)} (Hrc8 : ∀ (v1 : Int32) (v2 : Int32) (S : mT), rc8 v1 v2 S = some (r, S') → ∀ ok : Bool, mW p l e (mR 7) s m args below meth c G 5 233 54500 (mQ below G args s b S' (some (.int r))) (ok, 8, [.ref (187), .int v1, .int v2, .retAddr 0, .retAddr 0], [], mk b S)) : ∀ (k : Nat) (v1 : Int32) (v2 : Int32) (v3 : Int32) (v4 : Int32) (S : mT), fX12_least_21 rc8 k v1 v2 v3 v4 S = some (r, S') → ∀ ok : Bool, mW p l e (mR 7) s m args below meth c G 5 233 54500 (mQ below G args s b S' (some (.int r))) (ok, 21, [.ref (187), .int v1, .int v2, .int v3, .int v4], [], mk b S) := by
  intro k
  induction k with
  | zero =>
    intro v1 v2 v3 v4 S hf ok
    cases hf
  | succ k ih =>
    intro v1 v2 v3 v4 S hf ok
    unfold fX12_least_21 at hf
    refine msegT C kX12_least 14 3 (g := (true, (if (7 : Int32) < v4 then 82 else 28), [.ref (187), .int v1, .int v2, .int v3, .int v4], [], mk b S)) rfl rfl ?_
    by_cases hc : (7 : Int32) < v4
    · rw [if_pos hc] at hf ⊢
      refine msegT C kX12_least 49 2 (g := (true, (if 0 ≤ v3 then 88 else 86), [.ref (187), .int v1, .int v2, .int v3, .int v4], [], mk b S)) rfl rfl ?_
      by_cases hc : 0 ≤ v3
      · rw [if_pos hc] at hf ⊢
        refine msegT C kX12_least 53 4 (g := (true, 92, [.ref (187), .int (v1 + v3), .int v2, .int v3, .int v4], [], mk b S)) rfl rfl ?_
        obtain ⟨x2, ex2, hf⟩ := bnd_ex hf
        rw [← ex2]
        refine msegT C kX12_least 57 1 (g := (true, 95, [.ref (187), .int x2, .int (v2 + (1 : Int32)), .int v3, .int v4], [], mk b S)) rfl rfl ?_
        obtain ⟨x3, ex3, hf⟩ := bnd_ex hf
        rw [← ex3]
        refine msegT C kX12_least 58 1 (g := (true, 8, [.ref (187), .int x2, .int x3, .int v3, .int v4], [], mk b S)) rfl rfl ?_
        exact mfor (L' := [.ref (187), .int x2, .int x3, .retAddr 0, .retAddr 0]) ⟨Or.inr rfl, Or.inr rfl, Or.inr rfl, Or.inl rfl, Or.inl rfl, trivial⟩ (Hrc8 _ _ _ hf true)
      · rw [if_neg hc] at hf ⊢
        refine msegT C kX12_least 51 1 (g := (true, 87, [.ref (187), .int v1, .int v2, .int v3, .int v4], [.int (-1 : Int32)], mk b S)) rfl rfl ?_
        cases hf
        exact gret_i C hr hk (kX12_least _ (List.mem_of_getElem? (i := 52) rfl)).1
    · rw [if_neg hc] at hf ⊢
      obtain ⟨hok, hf⟩ := grd_ex hf
      refine msegT C kX12_least 17 9 (g := ((kI 213 (((8 : Int32) * v2) + v4) && (kO 187 12 && true)), (if (S.1 213 (mIx (((8 : Int32) * v2) + v4))) < 0 then 76 else 43), [.ref (187), .int v1, .int v2, .int v3, .int v4], [], mk b S)) rfl hok ?_
      by_cases hc : (S.1 213 (mIx (((8 : Int32) * v2) + v4))) < 0
      · rw [if_pos hc] at hf ⊢
        exact mfor (L' := [.ref (187), .int v1, .int v2, .int v3, .int v4]) ⟨Or.inr rfl, Or.inr rfl, Or.inr rfl, Or.inr rfl, Or.inr rfl, trivial⟩ (bX12_least_76 C hr hk Hrc8 ih hf true)
      · rw [if_neg hc] at hf ⊢
        refine msegT C kX12_least 26 2 (g := (true, (if v3 < 0 then 63 else 47), [.ref (187), .int v1, .int v2, .int v3, .int v4], [], mk b S)) rfl rfl ?_
        by_cases hc : v3 < 0
        · rw [if_pos hc] at hf ⊢
          exact mfor (L' := [.ref (187), .int v1, .int v2, .retAddr 0, .int v4]) ⟨Or.inr rfl, Or.inr rfl, Or.inr rfl, Or.inl rfl, Or.inr rfl, trivial⟩ (bX12_least_63 C hr hk Hrc8 ih hf true)
        · rw [if_neg hc] at hf ⊢
          obtain ⟨hok, hf⟩ := grd_ex hf
          refine msegT C kX12_least 28 10 (g := ((kI 213 (((8 : Int32) * v2) + v4) && (kO 187 12 && true)), (if v3 ≤ (S.1 213 (mIx (((8 : Int32) * v2) + v4))) then 76 else 63), [.ref (187), .int v1, .int v2, .int v3, .int v4], [], mk b S)) rfl hok ?_
          by_cases hc : v3 ≤ (S.1 213 (mIx (((8 : Int32) * v2) + v4)))
          · rw [if_pos hc] at hf ⊢
            exact mfor (L' := [.ref (187), .int v1, .int v2, .int v3, .int v4]) ⟨Or.inr rfl, Or.inr rfl, Or.inr rfl, Or.inr rfl, Or.inr rfl, trivial⟩ (bX12_least_76 C hr hk Hrc8 ih hf true)
          · rw [if_neg hc] at hf ⊢
            exact mfor (L' := [.ref (187), .int v1, .int v2, .retAddr 0, .int v4]) ⟨Or.inr rfl, Or.inr rfl, Or.inr rfl, Or.inl rfl, Or.inr rfl, trivial⟩ (bX12_least_63 C hr hk Hrc8 ih hf true)
theorem bX12_least_8 (C : mCx p (mR 7) s m args meth c G cX12_least RX12 5 false 233 54500 233 54500) (hr : meth.sig.returnType = (some .int)) (hk : meth.locks = false) {b : Bool} {S' : mT} {r : Int32} : ∀ (k : Nat) (v1 : Int32) (v2 : Int32) (S : mT), fX12_least_8 k v1 v2 S = some (r, S') → ∀ ok : Bool, mW p l e (mR 7) s m args below meth c G 5 233 54500 (mQ below G args s b S' (some (.int r))) (ok, 8, [.ref (187), .int v1, .int v2, .retAddr 0, .retAddr 0], [], mk b S) := by
  intro k
  induction k with
  | zero =>
    intro v1 v2 S hf ok
    cases hf
  | succ k ih =>
    intro v1 v2 S hf ok
    unfold fX12_least_8 at hf
    obtain ⟨hok, hf⟩ := grd_ex hf
    refine msegT C kX12_least 6 4 (g := ((kO 187 12 && true), (if (S.1 187 37) ≤ v2 then 98 else 16), [.ref (187), .int v1, .int v2, .retAddr 0, .retAddr 0], [], mk b S)) rfl hok ?_
    by_cases hc : (S.1 187 37) ≤ v2
    · rw [if_pos hc] at hf ⊢
      refine msegT C kX12_least 59 1 (g := (true, 99, [.ref (187), .int v1, .int v2, .retAddr 0, .retAddr 0], [.int v1], mk b S)) rfl rfl ?_
      cases hf
      exact gret_i C hr hk (kX12_least _ (List.mem_of_getElem? (i := 60) rfl)).1
    · rw [if_neg hc] at hf ⊢
      refine msegT C kX12_least 10 4 (g := (true, 21, [.ref (187), .int v1, .int v2, .int (-1 : Int32), .int (0 : Int32)], [], mk b S)) rfl rfl ?_
      exact mfor (L' := [.ref (187), .int v1, .int v2, .int (-1 : Int32), .int (0 : Int32)]) ⟨Or.inr rfl, Or.inr rfl, Or.inr rfl, Or.inr rfl, Or.inr rfl, trivial⟩ (bX12_least_21 C hr hk ih _ _ _ _ _ _ hf true)
theorem bX12_least_0 (C : mCx p (mR 7) s m args meth c G cX12_least RX12 5 false 233 54500 233 54500) (hr : meth.sig.returnType = (some .int)) (hk : meth.locks = false) {b : Bool} {S' : mT} {r : Int32} {S : mT} (hf : fX12_least S = some (r, S')) (ok : Bool) : mW p l e (mR 7) s m args below meth c G 5 233 54500 (mQ below G args s b S' (some (.int r))) (ok, 0, [.ref (187), .retAddr 0, .retAddr 0, .retAddr 0, .retAddr 0], [], mk b S) := by
  unfold fX12_least at hf
  refine msegT C kX12_least 0 1 (g := (true, 1, [.ref (187), .retAddr 0, .retAddr 0, .retAddr 0, .retAddr 0], [.ref (187)], mk b S)) rfl rfl ?_
  obtain ⟨S1, hq, hf⟩ := bndV_ex hf
  refine mcall (kd := 0) (vs := [.ref (187)]) (rest := []) (r := none) (h' := mk b S1) (ok' := true) C lkRX12_427 (qX12_layTaxes hq) (kX12_least _ (List.mem_of_getElem? (i := 1) rfl)).1 ⟨_, _, rfl, rfl, Nat.le_of_ble_eq_true rfl, _, _, rfl, rfl, rfl⟩ (Nat.le_of_ble_eq_true rfl) (Nat.le_of_ble_eq_true rfl) (Nat.le_refl _) (Nat.le_refl _) (Nat.le_of_ble_eq_true rfl) ?_
  refine msegT C kX12_least 2 4 (g := (true, 8, [.ref (187), .int (0 : Int32), .int (0 : Int32), .retAddr 0, .retAddr 0], [], mk b S1)) rfl rfl ?_
  exact mfor (L' := [.ref (187), .int (0 : Int32), .int (0 : Int32), .retAddr 0, .retAddr 0]) ⟨Or.inr rfl, Or.inr rfl, Or.inr rfl, Or.inl rfl, Or.inl rfl, trivial⟩ (bX12_least_8 C hr hk _ _ _ _ hf true)
theorem qX12_least {b : Bool} {S S' : mT} {r : Int32} (hf : fX12_least S = some (r, S')) : mOk l mX12_least 7 [.ref (187)] b S (some (.int r)) S' :=
  gMet (by decide) (Nat.le_of_ble_eq_true rfl) rfl (Nat.le_of_ble_eq_true rfl) (fun p e s m args below meth c G C hr hk => bX12_least_0 C hr hk hf true)
theorem bX12_taxOfRow_17 (C : mCx p (mR 1) s m args meth c G cX12_taxOfRow RX12 6 false 233 54500 233 54500) (hr : meth.sig.returnType = (some .int)) (hk : meth.locks = false) {b : Bool} {S' : mT} {r : Int32} : ∀ (k : Nat) (v2 : Int32) (v3 : Int32) (v4 : Int32) (S : mT), fX12_taxOfRow_17 k v2 v3 v4 S = some (r, S') → ∀ ok : Bool, mW p l e (mR 1) s m args below meth c G 6 233 54500 (mQ below G args s b S' (some (.int r))) (ok, 17, [.ref (187), .retAddr 0, .int v2, .int v3, .int v4, .retAddr 0], [], mk b S) := by
  intro k
  induction k with
  | zero =>
    intro v2 v3 v4 S hf ok
    cases hf
  | succ k ih =>
    intro v2 v3 v4 S hf ok
    unfold fX12_taxOfRow_17 at hf
    refine msegT C kX12_taxOfRow 12 2 (g := (true, (if v4 < 0 then 92 else 22), [.ref (187), .retAddr 0, .int v2, .int v3, .int v4, .retAddr 0], [], mk b S)) rfl rfl ?_
    by_cases hc : v4 < 0
    · rw [if_pos hc] at hf ⊢
      refine msegT C kX12_taxOfRow 56 1 (g := (true, 93, [.ref (187), .retAddr 0, .int v2, .int v3, .int v4, .retAddr 0], [.int v3], mk b S)) rfl rfl ?_
      cases hf
      exact gret_i C hr hk (kX12_taxOfRow _ (List.mem_of_getElem? (i := 57) rfl)).1
    · rw [if_neg hc] at hf ⊢
      obtain ⟨hok, hf⟩ := grd_ex hf
      refine msegT C kX12_taxOfRow 14 7 (g := ((kI 214 v4 && (decide (¬ (8 : Int32) = 0) && (kO 187 12 && true))), 33, [.ref (187), .retAddr 0, .int v2, .int v3, .int v4, .retAddr 0], [], mk b (sI S 214 (mIx v4) (v2 - v2 / (8 : Int32) * (8 : Int32))))) rfl hok ?_
      obtain ⟨S3, eS3, hf⟩ := bnd_ex hf
      rw [← eS3]
      obtain ⟨hok, hf⟩ := grd_ex hf
      refine msegT C kX12_taxOfRow 21 4 (g := ((decide (¬ (8 : Int32) = 0) && true), 38, [.ref (187), .retAddr 0, .int (v2 / (8 : Int32)), .int v3, .int v4, .retAddr 0], [], mk b S3)) rfl hok ?_
      obtain ⟨x4, ex4, hf⟩ := bnd_ex hf
      rw [← ex4]
      obtain ⟨hok, hf⟩ := grd_ex hf
      refine msegT C kX12_taxOfRow 25 10 (g := ((kI 214 v4 && (kO 187 12 && (kO 187 12 && true))), 55, [.ref (187), .retAddr 0, .int x4, .int v3, .int v4, .retAddr 0], [.int (((8 : Int32) * v4) + (S3.1 214 (mIx v4))), .ref 213], mk b S3)) rfl hok ?_
      obtain ⟨hok, hf⟩ := grd_ex hf
      refine msegT C kX12_taxOfRow 35 2 (g := ((kI 213 (((8 : Int32) * v4) + (S3.1 214 (mIx v4))) && true), 58, [.ref (187), .retAddr 0, .int x4, .int v3, .int v4, .int (S3.1 213 (mIx (((8 : Int32) * v4) + (S3.1 214 (mIx v4)))))], [], mk b S3)) rfl hok ?_
      obtain ⟨x5, ex5, hf⟩ := bnd_ex hf
      rw [← ex5]
      refine msegT C kX12_taxOfRow 37 2 (g := (true, (if 0 ≤ x5 then 65 else 63), [.ref (187), .retAddr 0, .int x4, .int v3, .int v4, .int x5], [], mk b S3)) rfl rfl ?_
      by_cases hc : 0 ≤ x5
      · rw [if_pos hc] at hf ⊢
        refine msegT C kX12_taxOfRow 41 4 (g := (true, 70, [.ref (187), .retAddr 0, .int x4, .int (v3 + x5), .int v4, .int x5], [], mk b S3)) rfl rfl ?_
        obtain ⟨x6, ex6, hf⟩ := bnd_ex hf
        rw [← ex6]
        obtain ⟨hok, hf⟩ := grd_ex hf
        refine msegT C kX12_taxOfRow 45 9 (g := ((kO 187 12 && (kI 214 v4 && (kO 187 12 && (kO 187 12 && true)))), 86, [.ref (187), .retAddr 0, .int x4, .int x6, .int v4, .int x5], [], mk b (sI S3 187 52 ((S3.1 187 52) + (S3.1 214 (mIx v4)))))) rfl hok ?_
        obtain ⟨S7, eS7, hf⟩ := bnd_ex hf
        rw [← eS7]
        refine msegT C kX12_taxOfRow 54 1 (g := (true, 89, [.ref (187), .retAddr 0, .int x4, .int x6, .int (v4 + (-1 : Int32)), .int x5], [], mk b S7)) rfl rfl ?_
        obtain ⟨x8, ex8, hf⟩ := bnd_ex hf
        rw [← ex8]
        refine msegT C kX12_taxOfRow 55 1 (g := (true, 17, [.ref (187), .retAddr 0, .int x4, .int x6, .int x8, .int x5], [], mk b S7)) rfl rfl ?_
        exact mfor (L' := [.ref (187), .retAddr 0, .int x4, .int x6, .int x8, .retAddr 0]) ⟨Or.inr rfl, Or.inl rfl, Or.inr rfl, Or.inr rfl, Or.inr rfl, Or.inl rfl, trivial⟩ (ih _ _ _ _ hf true)
      · rw [if_neg hc] at hf ⊢
        refine msegT C kX12_taxOfRow 39 1 (g := (true, 64, [.ref (187), .retAddr 0, .int x4, .int v3, .int v4, .int x5], [.int (-1 : Int32)], mk b S3)) rfl rfl ?_
        cases hf
        exact gret_i C hr hk (kX12_taxOfRow _ (List.mem_of_getElem? (i := 40) rfl)).1
theorem bX12_taxOfRow_0 (C : mCx p (mR 1) s m args meth c G cX12_taxOfRow RX12 6 false 233 54500 233 54500) (hr : meth.sig.returnType = (some .int)) (hk : meth.locks = false) {b : Bool} {S' : mT} {r : Int32} {v1 : Int32} {S : mT} (hf : fX12_taxOfRow v1 S = some (r, S')) (ok : Bool) : mW p l e (mR 1) s m args below meth c G 6 233 54500 (mQ below G args s b S' (some (.int r))) (ok, 0, [.ref (187), .int v1, .retAddr 0, .retAddr 0, .retAddr 0, .retAddr 0], [], mk b S) := by
  unfold fX12_taxOfRow at hf
  obtain ⟨hok, hf⟩ := grd_ex hf
  refine msegT C kX12_taxOfRow 0 7 (g := ((kO 187 12 && true), 9, [.ref (187), .int v1, .int v1, .int (0 : Int32), .retAddr 0, .retAddr 0], [], mk b (sI S 187 52 (0 : Int32)))) rfl hok ?_
  obtain ⟨S1, eS1, hf⟩ := bnd_ex hf
  rw [← eS1]
  obtain ⟨hok, hf⟩ := grd_ex hf
  refine msegT C kX12_taxOfRow 7 5 (g := ((kO 187 12 && true), 17, [.ref (187), .int v1, .int v1, .int (0 : Int32), .int ((S1.1 187 37) - (1 : Int32)), .retAddr 0], [], mk b S1)) rfl hok ?_
  obtain ⟨x2, ex2, hf⟩ := bnd_ex hf
  rw [← ex2]
  exact mfor (L' := [.ref (187), .retAddr 0, .int v1, .int (0 : Int32), .int x2, .retAddr 0]) ⟨Or.inr rfl, Or.inl rfl, Or.inr rfl, Or.inr rfl, Or.inr rfl, Or.inl rfl, trivial⟩ (bX12_taxOfRow_17 C hr hk _ _ _ _ _ hf true)
theorem qX12_taxOfRow {b : Bool} {v1 : Int32} {S S' : mT} {r : Int32} (hf : fX12_taxOfRow v1 S = some (r, S')) : mOk l mX12_taxOfRow 1 [.ref (187), .int v1] b S (some (.int r)) S' :=
  gMet (by decide) (Nat.le_of_ble_eq_true rfl) rfl (Nat.le_of_ble_eq_true rfl) (fun p e s m args below meth c G C hr hk => bX12_taxOfRow_0 C hr hk hf true)
theorem bX12_leave_117 (C : mCx p (mR 7) s m args meth c G cX12_leave RX12 7 false 233 54500 233 54500) (hr : meth.sig.returnType = (some .int)) (hk : meth.locks = false) {b : Bool} {S' : mT} {r : Int32} {rc32 : Int32 → Int32 → Int32 → Int32 → mT → Option (Int32 × mT)} (Hrc32 : ∀ (v1 : Int32) (v2 : Int32) (v3 : Int32) (v4 : Int32) (S : mT), rc32 v1 v2 v3 v4 S = some (r, S') → ∀ ok : Bool, mW p l e (mR 7) s m args below meth c G 7 233 54500 (mQ below G args s b S' (some (.int r))) (ok, 32, [.ref (187), .int v1, .int v2, .int v3, .int v4, .retAddr 0, .retAddr 0], [], mk b S)) {v1 : Int32} {v2 : Int32} {v3 : Int32} {v4 : Int32} {S : mT} (hf : fX12_leave_117 rc32 v1 v2 v3 v4 S = some (r, S')) (ok : Bool) : mW p l e (mR 7) s m args below meth c G 7 233 54500 (mQ below G args s b S' (some (.int r))) (ok, 117, [.ref (187), .int v1, .int v2, .int v3, .int v4, .retAddr 0, .retAddr 0], [], mk b S) := by
  unfold fX12_leave_117 at hf
  refine msegT C kX12_leave 61 1 (g := (true, 120, [.ref (187), .int v1, .int v2, .int v3, .int (v4 + (1 : Int32)), .retAddr 0, .retAddr 0], [], mk b S)) rfl rfl ?_
  obtain ⟨x9, ex9, hf⟩ := bnd_ex hf
  rw [← ex9]
  refine msegT C kX12_leave 62 1 (g := (true, 32, [.ref (187), .int v1, .int v2, .int v3, .int x9, .retAddr 0, .retAddr 0], [], mk b S)) rfl rfl ?_
  exact mfor (L' := [.ref (187), .int v1, .int v2, .int v3, .int x9, .retAddr 0, .retAddr 0]) ⟨Or.inr rfl, Or.inr rfl, Or.inr rfl, Or.inr rfl, Or.inr rfl, Or.inl rfl, Or.inl rfl, trivial⟩ (Hrc32 _ _ _ _ _ hf true)
theorem bX12_leave_80 (C : mCx p (mR 7) s m args meth c G cX12_leave RX12 7 false 233 54500 233 54500) (hr : meth.sig.returnType = (some .int)) (hk : meth.locks = false) {b : Bool} {S' : mT} {r : Int32} {rc32 : Int32 → Int32 → Int32 → Int32 → mT → Option (Int32 × mT)} (Hrc32 : ∀ (v1 : Int32) (v2 : Int32) (v3 : Int32) (v4 : Int32) (S : mT), rc32 v1 v2 v3 v4 S = some (r, S') → ∀ ok : Bool, mW p l e (mR 7) s m args below meth c G 7 233 54500 (mQ below G args s b S' (some (.int r))) (ok, 32, [.ref (187), .int v1, .int v2, .int v3, .int v4, .retAddr 0, .retAddr 0], [], mk b S)) : ∀ (k : Nat) (v1 : Int32) (v2 : Int32) (v3 : Int32) (v4 : Int32) (v6 : Int32) (S : mT), fX12_leave_80 rc32 k v1 v2 v3 v4 v6 S = some (r, S') → ∀ ok : Bool, mW p l e (mR 7) s m args below meth c G 7 233 54500 (mQ below G args s b S' (some (.int r))) (ok, 80, [.ref (187), .int v1, .int v2, .int v3, .int v4, .retAddr 0, .int v6], [], mk b S) := by
  intro k
  induction k with
  | zero =>
    intro v1 v2 v3 v4 v6 S hf ok
    cases hf
  | succ k ih =>
    intro v1 v2 v3 v4 v6 S hf ok
    unfold fX12_leave_80 at hf
    obtain ⟨hok, hf⟩ := grd_ex hf
    refine msegT C kX12_leave 43 4 (g := ((kO 187 12 && true), (if (S.1 187 37) ≤ v6 then 109 else 89), [.ref (187), .int v1, .int v2, .int v3, .int v4, .retAddr 0, .int v6], [], mk b S)) rfl hok ?_
    by_cases hc : (S.1 187 37) ≤ v6
    · rw [if_pos hc] at hf ⊢
      obtain ⟨hok, hf⟩ := grd_ex hf
      refine msegT C kX12_leave 57 4 (g := ((kO 187 12 && (kO 187 12 && true)), 117, [.ref (187), .int v1, .int v2, .int v3, .int v4, .retAddr 0, .int v6], [], mk b (sI S 187 51 (S.1 187 37)))) rfl hok ?_
      obtain ⟨S11, eS11, hf⟩ := bnd_ex hf
      rw [← eS11]
      exact mfor (L' := [.ref (187), .int v1, .int v2, .int v3, .int v4, .retAddr 0, .retAddr 0]) ⟨Or.inr rfl, Or.inr rfl, Or.inr rfl, Or.inr rfl, Or.inr rfl, Or.inl rfl, Or.inl rfl, trivial⟩ (bX12_leave_117 C hr hk Hrc32 hf true)
    · rw [if_neg hc] at hf ⊢
      obtain ⟨hok, hf⟩ := grd_ex hf
      refine msegT C kX12_leave 47 8 (g := ((kI 215 v6 && (kI 214 v6 && (kO 187 12 && (kO 187 12 && true)))), 103, [.ref (187), .int v1, .int v2, .int v3, .int v4, .retAddr 0, .int v6], [], mk b (sI S 215 (mIx v6) (S.1 214 (mIx v6))))) rfl hok ?_
      obtain ⟨S12, eS12, hf⟩ := bnd_ex hf
      rw [← eS12]
      refine msegT C kX12_leave 55 1 (g := (true, 106, [.ref (187), .int v1, .int v2, .int v3, .int v4, .retAddr 0, .int (v6 + (1 : Int32))], [], mk b S12)) rfl rfl ?_
      obtain ⟨x13, ex13, hf⟩ := bnd_ex hf
      rw [← ex13]
      refine msegT C kX12_leave 56 1 (g := (true, 80, [.ref (187), .int v1, .int v2, .int v3, .int v4, .retAddr 0, .int x13], [], mk b S12)) rfl rfl ?_
      exact mfor (L' := [.ref (187), .int v1, .int v2, .int v3, .int v4, .retAddr 0, .int x13]) ⟨Or.inr rfl, Or.inr rfl, Or.inr rfl, Or.inr rfl, Or.inr rfl, Or.inl rfl, Or.inr rfl, trivial⟩ (ih _ _ _ _ _ _ hf true)
theorem bX12_leave_72 (C : mCx p (mR 7) s m args meth c G cX12_leave RX12 7 false 233 54500 233 54500) (hr : meth.sig.returnType = (some .int)) (hk : meth.locks = false) {b : Bool} {S' : mT} {r : Int32} {rc32 : Int32 → Int32 → Int32 → Int32 → mT → Option (Int32 × mT)} (Hrc32 : ∀ (v1 : Int32) (v2 : Int32) (v3 : Int32) (v4 : Int32) (S : mT), rc32 v1 v2 v3 v4 S = some (r, S') → ∀ ok : Bool, mW p l e (mR 7) s m args below meth c G 7 233 54500 (mQ below G args s b S' (some (.int r))) (ok, 32, [.ref (187), .int v1, .int v2, .int v3, .int v4, .retAddr 0, .retAddr 0], [], mk b S)) {v1 : Int32} {v3 : Int32} {v4 : Int32} {S : mT} (hf : fX12_leave_72 rc32 v1 v3 v4 S = some (r, S')) (ok : Bool) : mW p l e (mR 7) s m args below meth c G 7 233 54500 (mQ below G args s b S' (some (.int r))) (ok, 72, [.ref (187), .int v1, .retAddr 0, .int v3, .int v4, .retAddr 0, .retAddr 0], [], mk b S) := by
  unfold fX12_leave_72 at hf
  obtain ⟨hok, hf⟩ := grd_ex hf
  refine msegT C kX12_leave 38 3 (g := ((kO 187 12 && true), 77, [.ref (187), .int v1, .int (S.1 187 52), .int v3, .int v4, .retAddr 0, .retAddr 0], [], mk b S)) rfl hok ?_
  obtain ⟨x10, ex10, hf⟩ := bnd_ex hf
  rw [← ex10]
  refine msegT C kX12_leave 41 2 (g := (true, 80, [.ref (187), .int v1, .int x10, .int v3, .int v4, .retAddr 0, .int (0 : Int32)], [], mk b S)) rfl rfl ?_
  exact mfor (L' := [.ref (187), .int v1, .int x10, .int v3, .int v4, .retAddr 0, .int (0 : Int32)]) ⟨Or.inr rfl, Or.inr rfl, Or.inr rfl, Or.inr rfl, Or.inr rfl, Or.inl rfl, Or.inr rfl, trivial⟩ (bX12_leave_80 C hr hk Hrc32 _ _ _ _ _ _ _ hf true)
theorem bX12_leave_32 (C : mCx p (mR 7) s m args meth c G cX12_leave RX12 7 false 233 54500 233 54500) (hr : meth.sig.returnType = (some .int)) (hk : meth.locks = false) {b : Bool} {S' : mT} {r : Int32} : ∀ (k : Nat) (v1 : Int32) (v2 : Int32) (v3 : Int32) (v4 : Int32) (S : mT), fX12_leave_32 k v1 v2 v3 v4 S = some (r, S') → ∀ ok : Bool, mW p l e (mR 7) s m args below meth c G 7 233 54500 (mQ below G args s b S' (some (.int r))) (ok, 32, [.ref (187), .int v1, .int v2, .int v3, .int v4, .retAddr 0, .retAddr 0], [], mk b S) := by
  intro k
  induction k with
  | zero =>
    intro v1 v2 v3 v4 S hf ok
    cases hf
  | succ k ih =>
    intro v1 v2 v3 v4 S hf ok
    unfold fX12_leave_32 at hf
    refine msegT C kX12_leave 19 3 (g := (true, (if v3 ≤ v4 then 123 else 38), [.ref (187), .int v1, .int v2, .int v3, .int v4, .retAddr 0, .retAddr 0], [], mk b S)) rfl rfl ?_
    by_cases hc : v3 ≤ v4
    · rw [if_pos hc] at hf ⊢
      refine msegT C kX12_leave 63 1 (g := (true, 124, [.ref (187), .int v1, .int v2, .int v3, .int v4, .retAddr 0, .retAddr 0], [.int v2], mk b S)) rfl rfl ?_
      cases hf
      exact gret_i C hr hk (kX12_leave _ (List.mem_of_getElem? (i := 64) rfl)).1
    · rw [if_neg hc] at hf ⊢
      refine msegT C kX12_leave 22 2 (g := (true, 41, [.ref (187), .int v1, .int v2, .int v3, .int v4, .retAddr 0, .retAddr 0], [.int v4, .ref (187)], mk b S)) rfl rfl ?_
      obtain ⟨x8, S7, hq, hf⟩ := bndC_ex hf
      refine mcall (kd := 0) (vs := [.ref (187), .int v4]) (rest := []) (r := (some (.int x8))) (h' := mk b S7) (ok' := true) C lkRX12_433 (qX12_taxOfRow hq) (kX12_leave _ (List.mem_of_getElem? (i := 24) rfl)).1 ⟨_, _, rfl, rfl, Nat.le_of_ble_eq_true rfl, _, _, rfl, rfl, rfl⟩ (Nat.le_of_ble_eq_true rfl) (Nat.le_of_ble_eq_true rfl) (Nat.le_refl _) (Nat.le_refl _) (Nat.le_of_ble_eq_true rfl) ?_
      refine msegT C kX12_leave 25 3 (g := (true, (if x8 < 0 then 117 else 51), [.ref (187), .int v1, .int v2, .int v3, .int v4, .int x8, .retAddr 0], [], mk b S7)) rfl rfl ?_
      by_cases hc : x8 < 0
      · rw [if_pos hc] at hf ⊢
        exact mfor (L' := [.ref (187), .int v1, .int v2, .int v3, .int v4, .retAddr 0, .retAddr 0]) ⟨Or.inr rfl, Or.inr rfl, Or.inr rfl, Or.inr rfl, Or.inr rfl, Or.inl rfl, Or.inl rfl, trivial⟩ (bX12_leave_117 C hr hk ih hf true)
      · rw [if_neg hc] at hf ⊢
        refine msegT C kX12_leave 28 3 (g := (true, (if v1 < x8 then 117 else 57), [.ref (187), .int v1, .int v2, .int v3, .int v4, .int x8, .retAddr 0], [], mk b S7)) rfl rfl ?_
        by_cases hc : v1 < x8
        · rw [if_pos hc] at hf ⊢
          exact mfor (L' := [.ref (187), .int v1, .int v2, .int v3, .int v4, .retAddr 0, .retAddr 0]) ⟨Or.inr rfl, Or.inr rfl, Or.inr rfl, Or.inr rfl, Or.inr rfl, Or.inl rfl, Or.inl rfl, trivial⟩ (bX12_leave_117 C hr hk ih hf true)
        · rw [if_neg hc] at hf ⊢
          refine msegT C kX12_leave 31 2 (g := (true, (if v2 < 0 then 72 else 61), [.ref (187), .int v1, .int v2, .int v3, .int v4, .int x8, .retAddr 0], [], mk b S7)) rfl rfl ?_
          by_cases hc : v2 < 0
          · rw [if_pos hc] at hf ⊢
            exact mfor (L' := [.ref (187), .int v1, .retAddr 0, .int v3, .int v4, .retAddr 0, .retAddr 0]) ⟨Or.inr rfl, Or.inr rfl, Or.inl rfl, Or.inr rfl, Or.inr rfl, Or.inl rfl, Or.inl rfl, trivial⟩ (bX12_leave_72 C hr hk ih hf true)
          · rw [if_neg hc] at hf ⊢
            obtain ⟨hok, hf⟩ := grd_ex hf
            refine msegT C kX12_leave 33 4 (g := ((kO 187 12 && true), (if (S7.1 187 52) < v2 then 72 else 69), [.ref (187), .int v1, .int v2, .int v3, .int v4, .int x8, .retAddr 0], [], mk b S7)) rfl hok ?_
            by_cases hc : (S7.1 187 52) < v2
            · rw [if_pos hc] at hf ⊢
              exact mfor (L' := [.ref (187), .int v1, .retAddr 0, .int v3, .int v4, .retAddr 0, .retAddr 0]) ⟨Or.inr rfl, Or.inr rfl, Or.inl rfl, Or.inr rfl, Or.inr rfl, Or.inl rfl, Or.inl rfl, trivial⟩ (bX12_leave_72 C hr hk ih hf true)
            · rw [if_neg hc] at hf ⊢
              refine msegT C kX12_leave 37 1 (g := (true, 117, [.ref (187), .int v1, .int v2, .int v3, .int v4, .int x8, .retAddr 0], [], mk b S7)) rfl rfl ?_
              exact mfor (L' := [.ref (187), .int v1, .int v2, .int v3, .int v4, .retAddr 0, .retAddr 0]) ⟨Or.inr rfl, Or.inr rfl, Or.inr rfl, Or.inr rfl, Or.inr rfl, Or.inl rfl, Or.inl rfl, trivial⟩ (bX12_leave_117 C hr hk ih hf true)
theorem bX12_leave_0 (C : mCx p (mR 7) s m args meth c G cX12_leave RX12 7 false 233 54500 233 54500) (hr : meth.sig.returnType = (some .int)) (hk : meth.locks = false) {b : Bool} {S' : mT} {r : Int32} {v1 : Int32} {S : mT} (hf : fX12_leave v1 S = some (r, S')) (ok : Bool) : mW p l e (mR 7) s m args below meth c G 7 233 54500 (mQ below G args s b S' (some (.int r))) (ok, 0, [.ref (187), .int v1, .retAddr 0, .retAddr 0, .retAddr 0, .retAddr 0, .retAddr 0], [], mk b S) := by
  unfold fX12_leave at hf
  obtain ⟨hok, hf⟩ := grd_ex hf
  refine msegT C kX12_leave 0 3 (g := ((kO 187 12 && true), 5, [.ref (187), .int v1, .retAddr 0, .retAddr 0, .retAddr 0, .retAddr 0, .retAddr 0], [], mk b (sI S 187 51 (0 : Int32)))) rfl hok ?_
  obtain ⟨S1, eS1, hf⟩ := bnd_ex hf
  rw [← eS1]
  refine msegT C kX12_leave 3 3 (g := (true, 10, [.ref (187), .int v1, .retAddr 0, .retAddr 0, .retAddr 0, .retAddr 0, .retAddr 0], [.int (9999 : Int32), .int (0 : Int32), .int v1], mk b S1)) rfl rfl ?_
  obtain ⟨x3, S2, hq, hf⟩ := bndC_ex hf
  refine mcall (kd := 1) (vs := [.int v1, .int (0 : Int32), .int (9999 : Int32)]) (rest := []) (r := (some (.int x3))) (h' := mk b S2) (ok' := true) C lkRX12_362 (qX12_isIn hq) (kX12_leave _ (List.mem_of_getElem? (i := 6) rfl)).1 rfl (Nat.le_of_ble_eq_true rfl) (Nat.le_of_ble_eq_true rfl) (Nat.le_refl _) (Nat.le_refl _) (Nat.le_of_ble_eq_true rfl) ?_
  refine msegT C kX12_leave 7 1 (g := (true, (if x3 = 0 then 16 else 18), [.ref (187), .int v1, .retAddr 0, .retAddr 0, .retAddr 0, .retAddr 0, .retAddr 0], [], mk b S2)) rfl rfl ?_
  by_cases hc : x3 = 0
  · rw [if_pos hc] at hf ⊢
    refine msegT C kX12_leave 8 1 (g := (true, 17, [.ref (187), .int v1, .retAddr 0, .retAddr 0, .retAddr 0, .retAddr 0, .retAddr 0], [.int (-1 : Int32)], mk b S2)) rfl rfl ?_
    cases hf
    exact gret_i C hr hk (kX12_leave _ (List.mem_of_getElem? (i := 9) rfl)).1
  · rw [if_neg hc] at hf ⊢
    refine msegT C kX12_leave 10 1 (g := (true, 19, [.ref (187), .int v1, .retAddr 0, .retAddr 0, .retAddr 0, .retAddr 0, .retAddr 0], [.ref (187)], mk b S2)) rfl rfl ?_
    obtain ⟨S4, hq, hf⟩ := bndV_ex hf
    refine mcall (kd := 0) (vs := [.ref (187)]) (rest := []) (r := none) (h' := mk b S4) (ok' := true) C lkRX12_427 (qX12_layTaxes hq) (kX12_leave _ (List.mem_of_getElem? (i := 11) rfl)).1 ⟨_, _, rfl, rfl, Nat.le_of_ble_eq_true rfl, _, _, rfl, rfl, rfl⟩ (Nat.le_of_ble_eq_true rfl) (Nat.le_of_ble_eq_true rfl) (Nat.le_refl _) (Nat.le_refl _) (Nat.le_of_ble_eq_true rfl) ?_
    refine msegT C kX12_leave 12 3 (g := (true, 25, [.ref (187), .int v1, .int (-1 : Int32), .retAddr 0, .retAddr 0, .retAddr 0, .retAddr 0], [.ref (187)], mk b S4)) rfl rfl ?_
    obtain ⟨x6, S5, hq, hf⟩ := bndC_ex hf
    refine mcall (kd := 0) (vs := [.ref (187)]) (rest := []) (r := (some (.int x6))) (h' := mk b S5) (ok' := true) C lkRX12_430 (qX12_rowsOf hq) (kX12_leave _ (List.mem_of_getElem? (i := 15) rfl)).1 ⟨_, _, rfl, rfl, Nat.le_of_ble_eq_true rfl, _, _, rfl, rfl, rfl⟩ (Nat.le_of_ble_eq_true rfl) (Nat.le_of_ble_eq_true rfl) (Nat.le_refl _) (Nat.le_refl _) (Nat.le_of_ble_eq_true rfl) ?_
    refine msegT C kX12_leave 16 3 (g := (true, 32, [.ref (187), .int v1, .int (-1 : Int32), .int x6, .int (0 : Int32), .retAddr 0, .retAddr 0], [], mk b S5)) rfl rfl ?_
    exact mfor (L' := [.ref (187), .int v1, .int (-1 : Int32), .int x6, .int (0 : Int32), .retAddr 0, .retAddr 0]) ⟨Or.inr rfl, Or.inr rfl, Or.inr rfl, Or.inr rfl, Or.inr rfl, Or.inl rfl, Or.inl rfl, trivial⟩ (bX12_leave_32 C hr hk _ _ _ _ _ _ hf true)
theorem qX12_leave {b : Bool} {v1 : Int32} {S S' : mT} {r : Int32} (hf : fX12_leave v1 S = some (r, S')) : mOk l mX12_leave 7 [.ref (187), .int v1] b S (some (.int r)) S' :=
  gMet (by decide) (Nat.le_of_ble_eq_true rfl) rfl (Nat.le_of_ble_eq_true rfl) (fun p e s m args below meth c G C hr hk => bX12_leave_0 C hr hk hf true)
theorem bX12_liars_46 (C : mCx p (mR 3) s m args meth c G cX12_liars RX12 7 false 233 54500 233 54500) (hr : meth.sig.returnType = (some .int)) (hk : meth.locks = false) {b : Bool} {S' : mT} {r : Int32} {rc14 : Int32 → Int32 → Int32 → Int32 → Int32 → mT → Option (Int32 × mT)} (Hrc14 : ∀ (v1 : Int32) (v2 : Int32) (v3 : Int32) (v4 : Int32) (v5 : Int32) (S : mT), rc14 v1 v2 v3 v4 v5 S = some (r, S') → ∀ ok : Bool, mW p l e (mR 3) s m args below meth c G 7 233 54500 (mQ below G args s b S' (some (.int r))) (ok, 14, [.ref (187), .int v1, .int v2, .int v3, .int v4, .int v5, .retAddr 0], [], mk b S)) {v1 : Int32} {v2 : Int32} {v3 : Int32} {v4 : Int32} {v5 : Int32} {S : mT} (hf : fX12_liars_46 rc14 v1 v2 v3 v4 v5 S = some (r, S')) (ok : Bool) : mW p l e (mR 3) s m args below meth c G 7 233 54500 (mQ below G args s b S' (some (.int r))) (ok, 46, [.ref (187), .int v1, .int v2, .int v3, .int v4, .int v5, .retAddr 0], [], mk b S) := by
  unfold fX12_liars_46 at hf
  refine msegT C kX12_liars 26 1 (g := (true, 49, [.ref (187), .int v1, .int v2, .int v3, .int v4, .int (v5 + (1 : Int32)), .retAddr 0], [], mk b S)) rfl rfl ?_
  obtain ⟨x10, ex10, hf⟩ := bnd_ex hf
  rw [← ex10]
  refine msegT C kX12_liars 27 1 (g := (true, 14, [.ref (187), .int v1, .int v2, .int v3, .int v4, .int x10, .retAddr 0], [], mk b S)) rfl rfl ?_
  exact mfor (L' := [.ref (187), .int v1, .int v2, .int v3, .int v4, .int x10, .retAddr 0]) ⟨Or.inr rfl, Or.inr rfl, Or.inr rfl, Or.inr rfl, Or.inr rfl, Or.inr rfl, Or.inl rfl, trivial⟩ (Hrc14 _ _ _ _ _ _ hf true)
theorem bX12_liars_55 (C : mCx p (mR 3) s m args meth c G cX12_liars RX12 7 false 233 54500 233 54500) (hr : meth.sig.returnType = (some .int)) (hk : meth.locks = false) {b : Bool} {S' : mT} {r : Int32} : ∀ (k : Nat) (v2 : Int32) (v3 : Int32) (v5 : Int32) (S : mT), fX12_liars_55 k v2 v3 v5 S = some (r, S') → ∀ ok : Bool, mW p l e (mR 3) s m args below meth c G 7 233 54500 (mQ below G args s b S' (some (.int r))) (ok, 55, [.ref (187), .retAddr 0, .int v2, .int v3, .retAddr 0, .int v5, .retAddr 0], [], mk b S) := by
  intro k
  induction k with
  | zero =>
    intro v2 v3 v5 S hf ok
    cases hf
  | succ k ih =>
    intro v2 v3 v5 S hf ok
    unfold fX12_liars_55 at hf
    obtain ⟨hok, hf⟩ := grd_ex hf
    refine msegT C kX12_liars 30 4 (g := ((kO 187 12 && true), (if (S.1 187 37) ≤ v5 then 84 else 64), [.ref (187), .retAddr 0, .int v2, .int v3, .retAddr 0, .int v5, .retAddr 0], [], mk b S)) rfl hok ?_
    by_cases hc : (S.1 187 37) ≤ v5
    · rw [if_pos hc] at hf ⊢
      obtain ⟨hok, hf⟩ := grd_ex hf
      refine msegT C kX12_liars 44 4 (g := ((kO 187 12 && (kO 187 12 && true)), 92, [.ref (187), .retAddr 0, .int v2, .int v3, .retAddr 0, .int v5, .retAddr 0], [], mk b (sI S 187 51 (S.1 187 37)))) rfl hok ?_
      obtain ⟨S5, eS5, hf⟩ := bnd_ex hf
      rw [← eS5]
      refine msegT C kX12_liars 48 1 (g := (true, 93, [.ref (187), .retAddr 0, .int v2, .int v3, .retAddr 0, .int v5, .retAddr 0], [.int v2], mk b S5)) rfl rfl ?_
      cases hf
      exact gret_i C hr hk (kX12_liars _ (List.mem_of_getElem? (i := 49) rfl)).1
    · rw [if_neg hc] at hf ⊢
      obtain ⟨hok, hf⟩ := grd_ex hf
      refine msegT C kX12_liars 34 6 (g := ((kO 187 12 && true), 74, [.ref (187), .retAddr 0, .int v2, .int v3, .retAddr 0, .int v5, .retAddr 0], [.int v5, .int v3, .ref (187), .int v5, .ref 215], mk b S)) rfl hok ?_
      obtain ⟨x7, S6, hq, hf⟩ := bndC_ex hf
      refine mcall (kd := 0) (vs := [.ref (187), .int v3, .int v5]) (rest := [.int v5, .ref 215]) (r := (some (.int x7))) (h' := mk b S6) (ok' := true) C lkRX12_470 (qX12_headOf hq) (kX12_liars _ (List.mem_of_getElem? (i := 40) rfl)).1 ⟨_, _, rfl, rfl, Nat.le_of_ble_eq_true rfl, _, _, rfl, rfl, rfl⟩ (Nat.le_of_ble_eq_true rfl) (Nat.le_of_ble_eq_true rfl) (Nat.le_refl _) (Nat.le_refl _) (Nat.le_of_ble_eq_true rfl) ?_
      obtain ⟨hok, hf⟩ := grd_ex hf
      refine msegT C kX12_liars 41 1 (g := ((kI 215 v5 && true), 78, [.ref (187), .retAddr 0, .int v2, .int v3, .retAddr 0, .int v5, .retAddr 0], [], mk b (sI S6 215 (mIx v5) x7))) rfl hok ?_
      obtain ⟨S8, eS8, hf⟩ := bnd_ex hf
      rw [← eS8]
      refine msegT C kX12_liars 42 1 (g := (true, 81, [.ref (187), .retAddr 0, .int v2, .int v3, .retAddr 0, .int (v5 + (1 : Int32)), .retAddr 0], [], mk b S8)) rfl rfl ?_
      obtain ⟨x9, ex9, hf⟩ := bnd_ex hf
      rw [← ex9]
      refine msegT C kX12_liars 43 1 (g := (true, 55, [.ref (187), .retAddr 0, .int v2, .int v3, .retAddr 0, .int x9, .retAddr 0], [], mk b S8)) rfl rfl ?_
      exact mfor (L' := [.ref (187), .retAddr 0, .int v2, .int v3, .retAddr 0, .int x9, .retAddr 0]) ⟨Or.inr rfl, Or.inl rfl, Or.inr rfl, Or.inr rfl, Or.inl rfl, Or.inr rfl, Or.inl rfl, trivial⟩ (ih _ _ _ _ hf true)
theorem bX12_liars_14 (C : mCx p (mR 3) s m args meth c G cX12_liars RX12 7 false 233 54500 233 54500) (hr : meth.sig.returnType = (some .int)) (hk : meth.locks = false) {b : Bool} {S' : mT} {r : Int32} : ∀ (k : Nat) (v1 : Int32) (v2 : Int32) (v3 : Int32) (v4 : Int32) (v5 : Int32) (S : mT), fX12_liars_14 k v1 v2 v3 v4 v5 S = some (r, S') → ∀ ok : Bool, mW p l e (mR 3) s m args below meth c G 7 233 54500 (mQ below G args s b S' (some (.int r))) (ok, 14, [.ref (187), .int v1, .int v2, .int v3, .int v4, .int v5, .retAddr 0], [], mk b S) := by
  intro k
  induction k with
  | zero =>
    intro v1 v2 v3 v4 v5 S hf ok
    cases hf
  | succ k ih =>
    intro v1 v2 v3 v4 v5 S hf ok
    unfold fX12_liars_14 at hf
    refine msegT C kX12_liars 9 3 (g := (true, (if v4 ≤ v5 then 52 else 21), [.ref (187), .int v1, .int v2, .int v3, .int v4, .int v5, .retAddr 0], [], mk b S)) rfl rfl ?_
    by_cases hc : v4 ≤ v5
    · rw [if_pos hc] at hf ⊢
      refine msegT C kX12_liars 28 2 (g := (true, 55, [.ref (187), .int v1, .int v2, .int v3, .int v4, .int (0 : Int32), .retAddr 0], [], mk b S)) rfl rfl ?_
      exact mfor (L' := [.ref (187), .retAddr 0, .int v2, .int v3, .retAddr 0, .int (0 : Int32), .retAddr 0]) ⟨Or.inr rfl, Or.inl rfl, Or.inr rfl, Or.inr rfl, Or.inl rfl, Or.inr rfl, Or.inl rfl, trivial⟩ (bX12_liars_55 C hr hk _ _ _ _ _ hf true)
    · rw [if_neg hc] at hf ⊢
      refine msegT C kX12_liars 12 4 (g := (true, 26, [.ref (187), .int v1, .int v2, .int v3, .int v4, .int v5, .retAddr 0], [.int v2, .int v1, .int v5, .ref (187)], mk b S)) rfl rfl ?_
      obtain ⟨x4, S3, hq, hf⟩ := bndC_ex hf
      refine mcall (kd := 0) (vs := [.ref (187), .int v5, .int v1, .int v2]) (rest := []) (r := (some (.int x4))) (h' := mk b S3) (ok' := true) C lkRX12_476 (qX12_liarsOf hq) (kX12_liars _ (List.mem_of_getElem? (i := 16) rfl)).1 ⟨_, _, rfl, rfl, Nat.le_of_ble_eq_true rfl, _, _, rfl, rfl, rfl⟩ (Nat.le_of_ble_eq_true rfl) (Nat.le_of_ble_eq_true rfl) (Nat.le_refl _) (Nat.le_refl _) (Nat.le_of_ble_eq_true rfl) ?_
      refine msegT C kX12_liars 17 4 (g := (true, (if x4 < v2 then 40 else 37), [.ref (187), .int v1, .int v2, .int v3, .int v4, .int v5, .int x4], [], mk b S3)) rfl rfl ?_
      by_cases hc : x4 < v2
      · rw [if_pos hc] at hf ⊢
        refine msegT C kX12_liars 22 4 (g := (true, 46, [.ref (187), .int v1, .int x4, .int v5, .int v4, .int v5, .int x4], [], mk b S3)) rfl rfl ?_
        exact mfor (L' := [.ref (187), .int v1, .int x4, .int v5, .int v4, .int v5, .retAddr 0]) ⟨Or.inr rfl, Or.inr rfl, Or.inr rfl, Or.inr rfl, Or.inr rfl, Or.inr rfl, Or.inl rfl, trivial⟩ (bX12_liars_46 C hr hk ih hf true)
      · rw [if_neg hc] at hf ⊢
        refine msegT C kX12_liars 21 1 (g := (true, 46, [.ref (187), .int v1, .int v2, .int v3, .int v4, .int v5, .int x4], [], mk b S3)) rfl rfl ?_
        exact mfor (L' := [.ref (187), .int v1, .int v2, .int v3, .int v4, .int v5, .retAddr 0]) ⟨Or.inr rfl, Or.inr rfl, Or.inr rfl, Or.inr rfl, Or.inr rfl, Or.inr rfl, Or.inl rfl, trivial⟩ (bX12_liars_46 C hr hk ih hf true)
theorem bX12_liars_0 (C : mCx p (mR 3) s m args meth c G cX12_liars RX12 7 false 233 54500 233 54500) (hr : meth.sig.returnType = (some .int)) (hk : meth.locks = false) {b : Bool} {S' : mT} {r : Int32} {v1 : Int32} {S : mT} (hf : fX12_liars v1 S = some (r, S')) (ok : Bool) : mW p l e (mR 3) s m args below meth c G 7 233 54500 (mQ below G args s b S' (some (.int r))) (ok, 0, [.ref (187), .int v1, .retAddr 0, .retAddr 0, .retAddr 0, .retAddr 0, .retAddr 0], [], mk b S) := by
  unfold fX12_liars at hf
  refine msegT C kX12_liars 0 5 (g := (true, 6, [.ref (187), .int v1, .int (31 : Int32), .int (0 : Int32), .retAddr 0, .retAddr 0, .retAddr 0], [.ref (187)], mk b S)) rfl rfl ?_
  obtain ⟨x2, S1, hq, hf⟩ := bndC_ex hf
  refine mcall (kd := 0) (vs := [.ref (187)]) (rest := []) (r := (some (.int x2))) (h' := mk b S1) (ok' := true) C lkRX12_430 (qX12_rowsOf hq) (kX12_liars _ (List.mem_of_getElem? (i := 5) rfl)).1 ⟨_, _, rfl, rfl, Nat.le_of_ble_eq_true rfl, _, _, rfl, rfl, rfl⟩ (Nat.le_of_ble_eq_true rfl) (Nat.le_of_ble_eq_true rfl) (Nat.le_refl _) (Nat.le_refl _) (Nat.le_of_ble_eq_true rfl) ?_
  refine msegT C kX12_liars 6 3 (g := (true, 14, [.ref (187), .int v1, .int (31 : Int32), .int (0 : Int32), .int x2, .int (0 : Int32), .retAddr 0], [], mk b S1)) rfl rfl ?_
  exact mfor (L' := [.ref (187), .int v1, .int (31 : Int32), .int (0 : Int32), .int x2, .int (0 : Int32), .retAddr 0]) ⟨Or.inr rfl, Or.inr rfl, Or.inr rfl, Or.inr rfl, Or.inr rfl, Or.inr rfl, Or.inl rfl, trivial⟩ (bX12_liars_14 C hr hk _ _ _ _ _ _ _ hf true)
theorem qX12_liars {b : Bool} {v1 : Int32} {S S' : mT} {r : Int32} (hf : fX12_liars v1 S = some (r, S')) : mOk l mX12_liars 3 [.ref (187), .int v1] b S (some (.int r)) S' :=
  gMet (by decide) (Nat.le_of_ble_eq_true rfl) rfl (Nat.le_of_ble_eq_true rfl) (fun p e s m args below meth c G C hr hk => bX12_liars_0 C hr hk hf true)
theorem bX12_lies_24 (C : mCx p (mR 2) s m args meth c G cX12_lies RX12 2 false 233 54500 233 54500) (hr : meth.sig.returnType = (some .int)) (hk : meth.locks = false) {b : Bool} {S' : mT} {r : Int32} {s0 : Int32} {S : mT} (hf : fX12_lies_24 s0 S = some (r, S')) (ok : Bool) : mW p l e (mR 2) s m args below meth c G 2 233 54500 (mQ below G args s b S' (some (.int r))) (ok, 24, [.retAddr 0, .retAddr 0], [.int s0], mk b S) := by
  unfold fX12_lies_24 at hf
  cases hf
  exact gret_i C hr hk (kX12_lies _ (List.mem_of_getElem? (i := 14) rfl)).1
theorem bX12_lies_0 (C : mCx p (mR 2) s m args meth c G cX12_lies RX12 2 false 233 54500 233 54500) (hr : meth.sig.returnType = (some .int)) (hk : meth.locks = false) {b : Bool} {S' : mT} {r : Int32} {v1 : Int32} {S : mT} (hf : fX12_lies v1 S = some (r, S')) (ok : Bool) : mW p l e (mR 2) s m args below meth c G 2 233 54500 (mQ below G args s b S' (some (.int r))) (ok, 0, [.ref (187), .int v1], [], mk b S) := by
  unfold fX12_lies at hf
  obtain ⟨hok, hf⟩ := grd_ex hf
  refine msegT C kX12_lies 0 6 (g := ((kO 187 12 && true), 8, [.ref (187), .int v1], [.int ((S.1 187 51) - (1 : Int32)), .int (0 : Int32), .int v1], mk b S)) rfl hok ?_
  obtain ⟨x2, S1, hq, hf⟩ := bndC_ex hf
  refine mcall (kd := 1) (vs := [.int v1, .int (0 : Int32), .int ((S.1 187 51) - (1 : Int32))]) (rest := []) (r := (some (.int x2))) (h' := mk b S1) (ok' := true) C lkRX12_362 (qX12_isIn hq) (kX12_lies _ (List.mem_of_getElem? (i := 6) rfl)).1 rfl (Nat.le_of_ble_eq_true rfl) (Nat.le_of_ble_eq_true rfl) (Nat.le_refl _) (Nat.le_refl _) (Nat.le_of_ble_eq_true rfl) ?_
  refine msegT C kX12_lies 7 1 (g := (true, (if x2 = 0 then 23 else 14), [.ref (187), .int v1], [], mk b S1)) rfl rfl ?_
  by_cases hc : x2 = 0
  · rw [if_pos hc] at hf ⊢
    refine msegT C kX12_lies 13 1 (g := (true, 24, [.ref (187), .int v1], [.int (-1 : Int32)], mk b S1)) rfl rfl ?_
    exact mfor (L' := [.retAddr 0, .retAddr 0]) ⟨Or.inl rfl, Or.inl rfl, trivial⟩ (bX12_lies_24 C hr hk hf true)
  · rw [if_neg hc] at hf ⊢
    obtain ⟨hok, hf⟩ := grd_ex hf
    refine msegT C kX12_lies 8 5 (g := ((kI 215 v1 && (kO 187 12 && true)), 24, [.ref (187), .int v1], [.int (S1.1 215 (mIx v1))], mk b S1)) rfl hok ?_
    exact mfor (L' := [.retAddr 0, .retAddr 0]) ⟨Or.inl rfl, Or.inl rfl, trivial⟩ (bX12_lies_24 C hr hk hf true)
theorem qX12_lies {b : Bool} {v1 : Int32} {S S' : mT} {r : Int32} (hf : fX12_lies v1 S = some (r, S')) : mOk l mX12_lies 2 [.ref (187), .int v1] b S (some (.int r)) S' :=
  gMet (by decide) (Nat.le_of_ble_eq_true rfl) rfl (Nat.le_of_ble_eq_true rfl) (fun p e s m args below meth c G C hr hk => bX12_lies_0 C hr hk hf true)
theorem bX12_loss_73 (C : mCx p (mR 3) s m args meth c G cX12_loss RX12 4 false 233 54500 233 54500) (hr : meth.sig.returnType = (some .int)) (hk : meth.locks = false) {b : Bool} {S' : mT} {r : Int32} {s0 : Int32} {S : mT} (hf : fX12_loss_73 s0 S = some (r, S')) (ok : Bool) : mW p l e (mR 3) s m args below meth c G 4 233 54500 (mQ below G args s b S' (some (.int r))) (ok, 73, [.retAddr 0, .retAddr 0, .retAddr 0, .retAddr 0], [.int s0], mk b S) := by
  unfold fX12_loss_73 at hf
  cases hf
  exact gret_i C hr hk (kX12_loss _ (List.mem_of_getElem? (i := 44) rfl)).1
theorem bX12_loss_41 (C : mCx p (mR 3) s m args meth c G cX12_loss RX12 4 false 233 54500 233 54500) (hr : meth.sig.returnType = (some .int)) (hk : meth.locks = false) {b : Bool} {S' : mT} {r : Int32} {rc23 : Int32 → Int32 → mT → Option (Int32 × mT)} (Hrc23 : ∀ (v1 : Int32) (v2 : Int32) (S : mT), rc23 v1 v2 S = some (r, S') → ∀ ok : Bool, mW p l e (mR 3) s m args below meth c G 4 233 54500 (mQ below G args s b S' (some (.int r))) (ok, 23, [.ref (187), .int v1, .int v2, .retAddr 0], [], mk b S)) : ∀ (k : Nat) (v1 : Int32) (v2 : Int32) (v3 : Int32) (S : mT), fX12_loss_41 rc23 k v1 v2 v3 S = some (r, S') → ∀ ok : Bool, mW p l e (mR 3) s m args below meth c G 4 233 54500 (mQ below G args s b S' (some (.int r))) (ok, 41, [.ref (187), .int v1, .int v2, .int v3], [], mk b S) := by
  intro k
  induction k with
  | zero =>
    intro v1 v2 v3 S hf ok
    cases hf
  | succ k ih =>
    intro v1 v2 v3 S hf ok
    unfold fX12_loss_41 at hf
    obtain ⟨hok, hf⟩ := grd_ex hf
    refine msegT C kX12_loss 26 4 (g := ((kO 187 12 && true), (if (S.1 187 37) ≤ v3 then 80 else 49), [.ref (187), .int v1, .int v2, .int v3], [], mk b S)) rfl hok ?_
    by_cases hc : (S.1 187 37) ≤ v3
    · rw [if_pos hc] at hf ⊢
      refine msegT C kX12_loss 47 1 (g := (true, 83, [.ref (187), .int v1, .int (v2 + (1 : Int32)), .int v3], [], mk b S)) rfl rfl ?_
      obtain ⟨x7, ex7, hf⟩ := bnd_ex hf
      rw [← ex7]
      refine msegT C kX12_loss 48 1 (g := (true, 23, [.ref (187), .int v1, .int x7, .int v3], [], mk b S)) rfl rfl ?_
      exact mfor (L' := [.ref (187), .int v1, .int x7, .retAddr 0]) ⟨Or.inr rfl, Or.inr rfl, Or.inr rfl, Or.inl rfl, trivial⟩ (Hrc23 _ _ _ hf true)
    · rw [if_neg hc] at hf ⊢
      obtain ⟨hok, hf⟩ := grd_ex hf
      refine msegT C kX12_loss 30 9 (g := ((kI 219 v3 && (kO 187 12 && (kI 217 v3 && (kO 187 12 && true)))), (if (S.1 219 (mIx v3)) ≤ (S.1 217 (mIx v3)) then 74 else 64), [.ref (187), .int v1, .int v2, .int v3], [], mk b S)) rfl hok ?_
      by_cases hc : (S.1 219 (mIx v3)) ≤ (S.1 217 (mIx v3))
      · rw [if_pos hc] at hf ⊢
        refine msegT C kX12_loss 45 1 (g := (true, 77, [.ref (187), .int v1, .int v2, .int (v3 + (1 : Int32))], [], mk b S)) rfl rfl ?_
        obtain ⟨x8, ex8, hf⟩ := bnd_ex hf
        rw [← ex8]
        refine msegT C kX12_loss 46 1 (g := (true, 41, [.ref (187), .int v1, .int v2, .int x8], [], mk b S)) rfl rfl ?_
        exact mfor (L' := [.ref (187), .int v1, .int v2, .int x8]) ⟨Or.inr rfl, Or.inr rfl, Or.inr rfl, Or.inr rfl, trivial⟩ (ih _ _ _ _ hf true)
      · rw [if_neg hc] at hf ⊢
        refine msegT C kX12_loss 39 2 (g := (true, (if v1 = 0 then 68 else 72), [.ref (187), .int v1, .int v2, .int v3], [], mk b S)) rfl rfl ?_
        by_cases hc : v1 = 0
        · rw [if_pos hc] at hf ⊢
          refine msegT C kX12_loss 41 2 (g := (true, 73, [.ref (187), .int v1, .int v2, .int v3], [.int v2], mk b S)) rfl rfl ?_
          exact mfor (L' := [.retAddr 0, .retAddr 0, .retAddr 0, .retAddr 0]) ⟨Or.inl rfl, Or.inl rfl, Or.inl rfl, Or.inl rfl, trivial⟩ (bX12_loss_73 C hr hk hf true)
        · rw [if_neg hc] at hf ⊢
          refine msegT C kX12_loss 43 1 (g := (true, 73, [.ref (187), .int v1, .int v2, .int v3], [.int v3], mk b S)) rfl rfl ?_
          exact mfor (L' := [.retAddr 0, .retAddr 0, .retAddr 0, .retAddr 0]) ⟨Or.inl rfl, Or.inl rfl, Or.inl rfl, Or.inl rfl, trivial⟩ (bX12_loss_73 C hr hk hf true)
theorem bX12_loss_23 (C : mCx p (mR 3) s m args meth c G cX12_loss RX12 4 false 233 54500 233 54500) (hr : meth.sig.returnType = (some .int)) (hk : meth.locks = false) {b : Bool} {S' : mT} {r : Int32} : ∀ (k : Nat) (v1 : Int32) (v2 : Int32) (S : mT), fX12_loss_23 k v1 v2 S = some (r, S') → ∀ ok : Bool, mW p l e (mR 3) s m args below meth c G 4 233 54500 (mQ below G args s b S' (some (.int r))) (ok, 23, [.ref (187), .int v1, .int v2, .retAddr 0], [], mk b S) := by
  intro k
  induction k with
  | zero =>
    intro v1 v2 S hf ok
    cases hf
  | succ k ih =>
    intro v1 v2 S hf ok
    unfold fX12_loss_23 at hf
    refine msegT C kX12_loss 15 3 (g := (true, (if (20 : Int32) < v2 then 86 else 29), [.ref (187), .int v1, .int v2, .retAddr 0], [], mk b S)) rfl rfl ?_
    by_cases hc : (20 : Int32) < v2
    · rw [if_pos hc] at hf ⊢
      refine msegT C kX12_loss 49 1 (g := (true, 87, [.ref (187), .int v1, .int v2, .retAddr 0], [.int (-1 : Int32)], mk b S)) rfl rfl ?_
      cases hf
      exact gret_i C hr hk (kX12_loss _ (List.mem_of_getElem? (i := 50) rfl)).1
    · rw [if_neg hc] at hf ⊢
      refine msegT C kX12_loss 18 1 (g := (true, 30, [.ref (187), .int v1, .int v2, .retAddr 0], [.ref (187)], mk b S)) rfl rfl ?_
      obtain ⟨S5, hq, hf⟩ := bndV_ex hf
      refine mcall (kd := 0) (vs := [.ref (187)]) (rest := []) (r := none) (h' := mk b S5) (ok' := true) C lkRX12_451 (qX12_keepSeats hq) (kX12_loss _ (List.mem_of_getElem? (i := 19) rfl)).1 ⟨_, _, rfl, rfl, Nat.le_of_ble_eq_true rfl, _, _, rfl, rfl, rfl⟩ (Nat.le_of_ble_eq_true rfl) (Nat.le_of_ble_eq_true rfl) (Nat.le_refl _) (Nat.le_refl _) (Nat.le_of_ble_eq_true rfl) ?_
      refine msegT C kX12_loss 20 3 (g := (true, 36, [.ref (187), .int v1, .int v2, .retAddr 0], [.int (0 : Int32), .int v2, .ref (187)], mk b S5)) rfl rfl ?_
      obtain ⟨S6, hq, hf⟩ := bndV_ex hf
      refine mcall (kd := 0) (vs := [.ref (187), .int v2, .int (0 : Int32)]) (rest := []) (r := none) (h' := mk b S6) (ok' := true) C lkRX12_448 (qX12_laySeats hq) (kX12_loss _ (List.mem_of_getElem? (i := 23) rfl)).1 ⟨_, _, rfl, rfl, Nat.le_of_ble_eq_true rfl, _, _, rfl, rfl, rfl⟩ (Nat.le_of_ble_eq_true rfl) (Nat.le_of_ble_eq_true rfl) (Nat.le_refl _) (Nat.le_refl _) (Nat.le_of_ble_eq_true rfl) ?_
      refine msegT C kX12_loss 24 2 (g := (true, 41, [.ref (187), .int v1, .int v2, .int (0 : Int32)], [], mk b S6)) rfl rfl ?_
      exact mfor (L' := [.ref (187), .int v1, .int v2, .int (0 : Int32)]) ⟨Or.inr rfl, Or.inr rfl, Or.inr rfl, Or.inr rfl, trivial⟩ (bX12_loss_41 C hr hk ih _ _ _ _ _ hf true)
theorem bX12_loss_0 (C : mCx p (mR 3) s m args meth c G cX12_loss RX12 4 false 233 54500 233 54500) (hr : meth.sig.returnType = (some .int)) (hk : meth.locks = false) {b : Bool} {S' : mT} {r : Int32} {v1 : Int32} {S : mT} (hf : fX12_loss v1 S = some (r, S')) (ok : Bool) : mW p l e (mR 3) s m args below meth c G 4 233 54500 (mQ below G args s b S' (some (.int r))) (ok, 0, [.ref (187), .int v1, .retAddr 0, .retAddr 0], [], mk b S) := by
  unfold fX12_loss at hf
  refine msegT C kX12_loss 0 3 (g := (true, 3, [.ref (187), .int v1, .retAddr 0, .retAddr 0], [.int (1 : Int32), .int (0 : Int32), .int v1], mk b S)) rfl rfl ?_
  obtain ⟨x2, S1, hq, hf⟩ := bndC_ex hf
  refine mcall (kd := 1) (vs := [.int v1, .int (0 : Int32), .int (1 : Int32)]) (rest := []) (r := (some (.int x2))) (h' := mk b S1) (ok' := true) C lkRX12_362 (qX12_isIn hq) (kX12_loss _ (List.mem_of_getElem? (i := 3) rfl)).1 rfl (Nat.le_of_ble_eq_true rfl) (Nat.le_of_ble_eq_true rfl) (Nat.le_refl _) (Nat.le_refl _) (Nat.le_of_ble_eq_true rfl) ?_
  refine msegT C kX12_loss 4 1 (g := (true, (if x2 = 0 then 9 else 11), [.ref (187), .int v1, .retAddr 0, .retAddr 0], [], mk b S1)) rfl rfl ?_
  by_cases hc : x2 = 0
  · rw [if_pos hc] at hf ⊢
    refine msegT C kX12_loss 5 1 (g := (true, 10, [.ref (187), .int v1, .retAddr 0, .retAddr 0], [.int (-1 : Int32)], mk b S1)) rfl rfl ?_
    cases hf
    exact gret_i C hr hk (kX12_loss _ (List.mem_of_getElem? (i := 6) rfl)).1
  · rw [if_neg hc] at hf ⊢
    refine msegT C kX12_loss 7 1 (g := (true, 12, [.ref (187), .int v1, .retAddr 0, .retAddr 0], [.ref (187)], mk b S1)) rfl rfl ?_
    obtain ⟨S3, hq, hf⟩ := bndV_ex hf
    refine mcall (kd := 0) (vs := [.ref (187)]) (rest := []) (r := none) (h' := mk b S3) (ok' := true) C lkRX12_391 (qX12_load hq) (kX12_loss _ (List.mem_of_getElem? (i := 8) rfl)).1 ⟨_, _, rfl, rfl, Nat.le_of_ble_eq_true rfl, _, _, rfl, rfl, rfl⟩ (Nat.le_of_ble_eq_true rfl) (Nat.le_of_ble_eq_true rfl) (Nat.le_refl _) (Nat.le_refl _) (Nat.le_of_ble_eq_true rfl) ?_
    refine msegT C kX12_loss 9 3 (g := (true, 18, [.ref (187), .int v1, .retAddr 0, .retAddr 0], [.int (0 : Int32), .int (1 : Int32), .ref (187)], mk b S3)) rfl rfl ?_
    obtain ⟨S4, hq, hf⟩ := bndV_ex hf
    refine mcall (kd := 0) (vs := [.ref (187), .int (1 : Int32), .int (0 : Int32)]) (rest := []) (r := none) (h' := mk b S4) (ok' := true) C lkRX12_448 (qX12_laySeats hq) (kX12_loss _ (List.mem_of_getElem? (i := 12) rfl)).1 ⟨_, _, rfl, rfl, Nat.le_of_ble_eq_true rfl, _, _, rfl, rfl, rfl⟩ (Nat.le_of_ble_eq_true rfl) (Nat.le_of_ble_eq_true rfl) (Nat.le_refl _) (Nat.le_refl _) (Nat.le_of_ble_eq_true rfl) ?_
    refine msegT C kX12_loss 13 2 (g := (true, 23, [.ref (187), .int v1, .int (2 : Int32), .retAddr 0], [], mk b S4)) rfl rfl ?_
    exact mfor (L' := [.ref (187), .int v1, .int (2 : Int32), .retAddr 0]) ⟨Or.inr rfl, Or.inr rfl, Or.inr rfl, Or.inl rfl, trivial⟩ (bX12_loss_23 C hr hk _ _ _ _ hf true)
theorem qX12_loss {b : Bool} {v1 : Int32} {S S' : mT} {r : Int32} (hf : fX12_loss v1 S = some (r, S')) : mOk l mX12_loss 3 [.ref (187), .int v1] b S (some (.int r)) S' :=
  gMet (by decide) (Nat.le_of_ble_eq_true rfl) rfl (Nat.le_of_ble_eq_true rfl) (fun p e s m args below meth c G C hr hk => bX12_loss_0 C hr hk hf true)
theorem bX12_marks_34 (C : mCx p (mR 2) s m args meth c G cX12_marks RX12 5 false 233 54500 233 54500) (hr : meth.sig.returnType = (some .int)) (hk : meth.locks = false) {b : Bool} {S' : mT} {r : Int32} {S : mT} (hf : fX12_marks_34 S = some (r, S')) (ok : Bool) : mW p l e (mR 2) s m args below meth c G 5 233 54500 (mQ below G args s b S' (some (.int r))) (ok, 34, [.retAddr 0, .retAddr 0, .retAddr 0, .retAddr 0, .retAddr 0], [], mk b S) := by
  unfold fX12_marks_34 at hf
  refine msegT C kX12_marks 18 1 (g := (true, 35, [.retAddr 0, .retAddr 0, .retAddr 0, .retAddr 0, .retAddr 0], [.int (-1 : Int32)], mk b S)) rfl rfl ?_
  cases hf
  exact gret_i C hr hk (kX12_marks _ (List.mem_of_getElem? (i := 19) rfl)).1
theorem bX12_marks_69 (C : mCx p (mR 2) s m args meth c G cX12_marks RX12 5 false 233 54500 233 54500) (hr : meth.sig.returnType = (some .int)) (hk : meth.locks = false) {b : Bool} {S' : mT} {r : Int32} {v4 : Int32} {S : mT} (hf : fX12_marks_69 v4 S = some (r, S')) (ok : Bool) : mW p l e (mR 2) s m args below meth c G 5 233 54500 (mQ below G args s b S' (some (.int r))) (ok, 69, [.retAddr 0, .retAddr 0, .retAddr 0, .retAddr 0, .int v4], [], mk b S) := by
  unfold fX12_marks_69 at hf
  refine msegT C kX12_marks 40 1 (g := (true, 71, [.retAddr 0, .retAddr 0, .retAddr 0, .retAddr 0, .int v4], [.int v4], mk b S)) rfl rfl ?_
  cases hf
  exact gret_i C hr hk (kX12_marks _ (List.mem_of_getElem? (i := 41) rfl)).1
theorem bX12_marks_43 (C : mCx p (mR 2) s m args meth c G cX12_marks RX12 5 false 233 54500 233 54500) (hr : meth.sig.returnType = (some .int)) (hk : meth.locks = false) {b : Bool} {S' : mT} {r : Int32} : ∀ (k : Nat) (v1 : Int32) (v2 : Int32) (v3 : Int32) (v4 : Int32) (S : mT), fX12_marks_43 k v1 v2 v3 v4 S = some (r, S') → ∀ ok : Bool, mW p l e (mR 2) s m args below meth c G 5 233 54500 (mQ below G args s b S' (some (.int r))) (ok, 43, [.retAddr 0, .int v1, .int v2, .int v3, .int v4], [], mk b S) := by
  intro k
  induction k with
  | zero =>
    intro v1 v2 v3 v4 S hf ok
    cases hf
  | succ k ih =>
    intro v1 v2 v3 v4 S hf ok
    unfold fX12_marks_43 at hf
    refine msegT C kX12_marks 26 3 (g := (true, (if (200 : Int32) ≤ v4 then 69 else 51), [.retAddr 0, .int v1, .int v2, .int v3, .int v4], [], mk b S)) rfl rfl ?_
    by_cases hc : (200 : Int32) ≤ v4
    · rw [if_pos hc] at hf ⊢
      exact mfor (L' := [.retAddr 0, .retAddr 0, .retAddr 0, .retAddr 0, .int v4]) ⟨Or.inl rfl, Or.inl rfl, Or.inl rfl, Or.inl rfl, Or.inr rfl, trivial⟩ (bX12_marks_69 C hr hk hf true)
    · rw [if_neg hc] at hf ⊢
      refine msegT C kX12_marks 29 9 (g := (true, (if (v1 * v2) ≤ ((v4 + (1 : Int32)) * v3) then 69 else 63), [.retAddr 0, .int v1, .int v2, .int v3, .int v4], [], mk b S)) rfl rfl ?_
      by_cases hc : (v1 * v2) ≤ ((v4 + (1 : Int32)) * v3)
      · rw [if_pos hc] at hf ⊢
        exact mfor (L' := [.retAddr 0, .retAddr 0, .retAddr 0, .retAddr 0, .int v4]) ⟨Or.inl rfl, Or.inl rfl, Or.inl rfl, Or.inl rfl, Or.inr rfl, trivial⟩ (bX12_marks_69 C hr hk hf true)
      · rw [if_neg hc] at hf ⊢
        refine msegT C kX12_marks 38 1 (g := (true, 66, [.retAddr 0, .int v1, .int v2, .int v3, .int (v4 + (1 : Int32))], [], mk b S)) rfl rfl ?_
        obtain ⟨x8, ex8, hf⟩ := bnd_ex hf
        rw [← ex8]
        refine msegT C kX12_marks 39 1 (g := (true, 43, [.retAddr 0, .int v1, .int v2, .int v3, .int x8], [], mk b S)) rfl rfl ?_
        exact mfor (L' := [.retAddr 0, .int v1, .int v2, .int v3, .int x8]) ⟨Or.inl rfl, Or.inr rfl, Or.inr rfl, Or.inr rfl, Or.inr rfl, trivial⟩ (ih _ _ _ _ _ hf true)
theorem bX12_marks_0 (C : mCx p (mR 2) s m args meth c G cX12_marks RX12 5 false 233 54500 233 54500) (hr : meth.sig.returnType = (some .int)) (hk : meth.locks = false) {b : Bool} {S' : mT} {r : Int32} {v1 : Int32} {v2 : Int32} {v3 : Int32} {S : mT} (hf : fX12_marks v1 v2 v3 S = some (r, S')) (ok : Bool) : mW p l e (mR 2) s m args below meth c G 5 233 54500 (mQ below G args s b S' (some (.int r))) (ok, 0, [.ref (187), .int v1, .int v2, .int v3, .retAddr 0], [], mk b S) := by
  unfold fX12_marks at hf
  refine msegT C kX12_marks 0 3 (g := (true, 4, [.ref (187), .int v1, .int v2, .int v3, .retAddr 0], [.int (60 : Int32), .int (0 : Int32), .int v1], mk b S)) rfl rfl ?_
  obtain ⟨x2, S1, hq, hf⟩ := bndC_ex hf
  refine mcall (kd := 1) (vs := [.int v1, .int (0 : Int32), .int (60 : Int32)]) (rest := []) (r := (some (.int x2))) (h' := mk b S1) (ok' := true) C lkRX12_362 (qX12_isIn hq) (kX12_marks _ (List.mem_of_getElem? (i := 3) rfl)).1 rfl (Nat.le_of_ble_eq_true rfl) (Nat.le_of_ble_eq_true rfl) (Nat.le_refl _) (Nat.le_refl _) (Nat.le_of_ble_eq_true rfl) ?_
  refine msegT C kX12_marks 4 1 (g := (true, (if x2 = 0 then 34 else 10), [.ref (187), .int v1, .int v2, .int v3, .retAddr 0], [], mk b S1)) rfl rfl ?_
  by_cases hc : x2 = 0
  · rw [if_pos hc] at hf ⊢
    exact mfor (L' := [.retAddr 0, .retAddr 0, .retAddr 0, .retAddr 0, .retAddr 0]) ⟨Or.inl rfl, Or.inl rfl, Or.inl rfl, Or.inl rfl, Or.inl rfl, trivial⟩ (bX12_marks_34 C hr hk hf true)
  · rw [if_neg hc] at hf ⊢
    refine msegT C kX12_marks 5 3 (g := (true, 14, [.ref (187), .int v1, .int v2, .int v3, .retAddr 0], [.int (60 : Int32), .int (0 : Int32), .int v2], mk b S1)) rfl rfl ?_
    obtain ⟨x4, S3, hq, hf⟩ := bndC_ex hf
    refine mcall (kd := 1) (vs := [.int v2, .int (0 : Int32), .int (60 : Int32)]) (rest := []) (r := (some (.int x4))) (h' := mk b S3) (ok' := true) C lkRX12_362 (qX12_isIn hq) (kX12_marks _ (List.mem_of_getElem? (i := 8) rfl)).1 rfl (Nat.le_of_ble_eq_true rfl) (Nat.le_of_ble_eq_true rfl) (Nat.le_refl _) (Nat.le_refl _) (Nat.le_of_ble_eq_true rfl) ?_
    refine msegT C kX12_marks 9 1 (g := (true, (if x4 = 0 then 34 else 20), [.ref (187), .int v1, .int v2, .int v3, .retAddr 0], [], mk b S3)) rfl rfl ?_
    by_cases hc : x4 = 0
    · rw [if_pos hc] at hf ⊢
      exact mfor (L' := [.retAddr 0, .retAddr 0, .retAddr 0, .retAddr 0, .retAddr 0]) ⟨Or.inl rfl, Or.inl rfl, Or.inl rfl, Or.inl rfl, Or.inl rfl, trivial⟩ (bX12_marks_34 C hr hk hf true)
    · rw [if_neg hc] at hf ⊢
      refine msegT C kX12_marks 10 3 (g := (true, 23, [.ref (187), .int v1, .int v2, .int v3, .retAddr 0], [.int v1, .int (0 : Int32), .int v3], mk b S3)) rfl rfl ?_
      obtain ⟨x6, S5, hq, hf⟩ := bndC_ex hf
      refine mcall (kd := 1) (vs := [.int v3, .int (0 : Int32), .int v1]) (rest := []) (r := (some (.int x6))) (h' := mk b S5) (ok' := true) C lkRX12_362 (qX12_isIn hq) (kX12_marks _ (List.mem_of_getElem? (i := 13) rfl)).1 rfl (Nat.le_of_ble_eq_true rfl) (Nat.le_of_ble_eq_true rfl) (Nat.le_refl _) (Nat.le_refl _) (Nat.le_of_ble_eq_true rfl) ?_
      refine msegT C kX12_marks 14 1 (g := (true, (if x6 = 0 then 34 else 29), [.ref (187), .int v1, .int v2, .int v3, .retAddr 0], [], mk b S5)) rfl rfl ?_
      by_cases hc : x6 = 0
      · rw [if_pos hc] at hf ⊢
        exact mfor (L' := [.retAddr 0, .retAddr 0, .retAddr 0, .retAddr 0, .retAddr 0]) ⟨Or.inl rfl, Or.inl rfl, Or.inl rfl, Or.inl rfl, Or.inl rfl, trivial⟩ (bX12_marks_34 C hr hk hf true)
      · rw [if_neg hc] at hf ⊢
        refine msegT C kX12_marks 15 3 (g := (true, (if v3 ≤ v2 then 36 else 34), [.ref (187), .int v1, .int v2, .int v3, .retAddr 0], [], mk b S5)) rfl rfl ?_
        by_cases hc : v3 ≤ v2
        · rw [if_pos hc] at hf ⊢
          refine msegT C kX12_marks 20 6 (g := (true, 43, [.ref (187), .int v1, .int v2, .int v3, .int ((v1 + v2) - v3)], [], mk b S5)) rfl rfl ?_
          obtain ⟨x7, ex7, hf⟩ := bnd_ex hf
          rw [← ex7]
          exact mfor (L' := [.retAddr 0, .int v1, .int v2, .int v3, .int x7]) ⟨Or.inl rfl, Or.inr rfl, Or.inr rfl, Or.inr rfl, Or.inr rfl, trivial⟩ (bX12_marks_43 C hr hk _ _ _ _ _ _ hf true)
        · rw [if_neg hc] at hf ⊢
          exact mfor (L' := [.retAddr 0, .retAddr 0, .retAddr 0, .retAddr 0, .retAddr 0]) ⟨Or.inl rfl, Or.inl rfl, Or.inl rfl, Or.inl rfl, Or.inl rfl, trivial⟩ (bX12_marks_34 C hr hk hf true)
theorem qX12_marks {b : Bool} {v1 : Int32} {v2 : Int32} {v3 : Int32} {S S' : mT} {r : Int32} (hf : fX12_marks v1 v2 v3 S = some (r, S')) : mOk l mX12_marks 2 [.ref (187), .int v1, .int v2, .int v3] b S (some (.int r)) S' :=
  gMet (by decide) (Nat.le_of_ble_eq_true rfl) rfl (Nat.le_of_ble_eq_true rfl) (fun p e s m args below meth c G C hr hk => bX12_marks_0 C hr hk hf true)
theorem bX12_membersOf_4 (C : mCx p (mR 1) s m args meth c G cX12_membersOf RX12 3 false 233 54500 233 54500) (hr : meth.sig.returnType = (some .int)) (hk : meth.locks = false) {b : Bool} {S' : mT} {r : Int32} : ∀ (k : Nat) (v0 : Int32) (v1 : Int32) (v2 : Int32) (S : mT), fX12_membersOf_4 k v0 v1 v2 S = some (r, S') → ∀ ok : Bool, mW p l e (mR 1) s m args below meth c G 3 233 54500 (mQ below G args s b S' (some (.int r))) (ok, 4, [.int v0, .int v1, .int v2], [], mk b S) := by
  intro k
  induction k with
  | zero =>
    intro v0 v1 v2 S hf ok
    cases hf
  | succ k ih =>
    intro v0 v1 v2 S hf ok
    unfold fX12_membersOf_4 at hf
    refine msegT C kX12_membersOf 4 3 (g := (true, (if (5 : Int32) ≤ v2 then 23 else 9), [.int v0, .int v1, .int v2], [], mk b S)) rfl rfl ?_
    by_cases hc : (5 : Int32) ≤ v2
    · rw [if_pos hc] at hf ⊢
      refine msegT C kX12_membersOf 17 1 (g := (true, 24, [.int v0, .int v1, .int v2], [.int v1], mk b S)) rfl rfl ?_
      cases hf
      exact gret_i C hr hk (kX12_membersOf _ (List.mem_of_getElem? (i := 18) rfl)).1
    · rw [if_neg hc] at hf ⊢
      refine msegT C kX12_membersOf 7 8 (g := (true, 17, [.int v0, .int (v1 + ((v0 >>> (v2 &&& 31)) &&& (1 : Int32))), .int v2], [], mk b S)) rfl rfl ?_
      obtain ⟨x1, ex1, hf⟩ := bnd_ex hf
      rw [← ex1]
      refine msegT C kX12_membersOf 15 1 (g := (true, 20, [.int v0, .int x1, .int (v2 + (1 : Int32))], [], mk b S)) rfl rfl ?_
      obtain ⟨x2, ex2, hf⟩ := bnd_ex hf
      rw [← ex2]
      refine msegT C kX12_membersOf 16 1 (g := (true, 4, [.int v0, .int x1, .int x2], [], mk b S)) rfl rfl ?_
      exact mfor (L' := [.int v0, .int x1, .int x2]) ⟨Or.inr rfl, Or.inr rfl, Or.inr rfl, trivial⟩ (ih _ _ _ _ hf true)
theorem bX12_membersOf_0 (C : mCx p (mR 1) s m args meth c G cX12_membersOf RX12 3 false 233 54500 233 54500) (hr : meth.sig.returnType = (some .int)) (hk : meth.locks = false) {b : Bool} {S' : mT} {r : Int32} {v0 : Int32} {S : mT} (hf : fX12_membersOf v0 S = some (r, S')) (ok : Bool) : mW p l e (mR 1) s m args below meth c G 3 233 54500 (mQ below G args s b S' (some (.int r))) (ok, 0, [.int v0, .retAddr 0, .retAddr 0], [], mk b S) := by
  unfold fX12_membersOf at hf
  refine msegT C kX12_membersOf 0 4 (g := (true, 4, [.int v0, .int (0 : Int32), .int (0 : Int32)], [], mk b S)) rfl rfl ?_
  exact mfor (L' := [.int v0, .int (0 : Int32), .int (0 : Int32)]) ⟨Or.inr rfl, Or.inr rfl, Or.inr rfl, trivial⟩ (bX12_membersOf_4 C hr hk _ _ _ _ _ hf true)
theorem qX12_membersOf {b : Bool} {v0 : Int32} {S S' : mT} {r : Int32} (hf : fX12_membersOf v0 S = some (r, S')) : mOk l mX12_membersOf 1 [.int v0] b S (some (.int r)) S' :=
  gMet (by decide) (Nat.le_of_ble_eq_true rfl) rfl (Nat.le_of_ble_eq_true rfl) (fun p e s m args below meth c G C hr hk => bX12_membersOf_0 C hr hk hf true)
theorem bX12_missed_0 (C : mCx p (mR 3) s m args meth c G cX12_missed RX12 2 false 233 54500 233 54500) (hr : meth.sig.returnType = (some .int)) (hk : meth.locks = false) {b : Bool} {S' : mT} {r : Int32} {v1 : Int32} {S : mT} (hf : fX12_missed v1 S = some (r, S')) (ok : Bool) : mW p l e (mR 3) s m args below meth c G 2 233 54500 (mQ below G args s b S' (some (.int r))) (ok, 0, [.ref (187), .int v1], [], mk b S) := by
  unfold fX12_missed at hf
  refine msegT C kX12_missed 0 3 (g := (true, 3, [.ref (187), .int v1], [.int (-1 : Int32), .int v1, .ref (187)], mk b S)) rfl rfl ?_
  obtain ⟨x2, S1, hq, hf⟩ := bndC_ex hf
  refine mcall (kd := 0) (vs := [.ref (187), .int v1, .int (-1 : Int32)]) (rest := []) (r := (some (.int x2))) (h' := mk b S1) (ok' := true) C lkRX12_445 (qX12_without hq) (kX12_missed _ (List.mem_of_getElem? (i := 3) rfl)).1 ⟨_, _, rfl, rfl, Nat.le_of_ble_eq_true rfl, _, _, rfl, rfl, rfl⟩ (Nat.le_of_ble_eq_true rfl) (Nat.le_of_ble_eq_true rfl) (Nat.le_refl _) (Nat.le_refl _) (Nat.le_of_ble_eq_true rfl) ?_
  cases hf
  exact gret_i C hr hk (kX12_missed _ (List.mem_of_getElem? (i := 4) rfl)).1
theorem qX12_missed {b : Bool} {v1 : Int32} {S S' : mT} {r : Int32} (hf : fX12_missed v1 S = some (r, S')) : mOk l mX12_missed 3 [.ref (187), .int v1] b S (some (.int r)) S' :=
  gMet (by decide) (Nat.le_of_ble_eq_true rfl) rfl (Nat.le_of_ble_eq_true rfl) (fun p e s m args below meth c G C hr hk => bX12_missed_0 C hr hk hf true)
theorem bX12_moves_41 (C : mCx p (mR 3) s m args meth c G cX12_moves RX12 3 false 233 54500 233 54500) (hr : meth.sig.returnType = (some .int)) (hk : meth.locks = false) {b : Bool} {S' : mT} {r : Int32} {S : mT} (hf : fX12_moves_41 S = some (r, S')) (ok : Bool) : mW p l e (mR 3) s m args below meth c G 3 233 54500 (mQ below G args s b S' (some (.int r))) (ok, 41, [.retAddr 0, .retAddr 0, .retAddr 0], [], mk b S) := by
  unfold fX12_moves_41 at hf
  refine msegT C kX12_moves 22 1 (g := (true, 42, [.retAddr 0, .retAddr 0, .retAddr 0], [.int (-1 : Int32)], mk b S)) rfl rfl ?_
  cases hf
  exact gret_i C hr hk (kX12_moves _ (List.mem_of_getElem? (i := 23) rfl)).1
theorem bX12_moves_0 (C : mCx p (mR 3) s m args meth c G cX12_moves RX12 3 false 233 54500 233 54500) (hr : meth.sig.returnType = (some .int)) (hk : meth.locks = false) {b : Bool} {S' : mT} {r : Int32} {v1 : Int32} {v2 : Int32} {S : mT} (hf : fX12_moves v1 v2 S = some (r, S')) (ok : Bool) : mW p l e (mR 3) s m args below meth c G 3 233 54500 (mQ below G args s b S' (some (.int r))) (ok, 0, [.ref (187), .int v1, .int v2], [], mk b S) := by
  unfold fX12_moves at hf
  refine msegT C kX12_moves 0 2 (g := (true, 2, [.ref (187), .int v1, .int v2], [.int v1, .ref (187)], mk b S)) rfl rfl ?_
  obtain ⟨x2, S1, hq, hf⟩ := bndC_ex hf
  refine mcall (kd := 0) (vs := [.ref (187), .int v1]) (rest := []) (r := (some (.int x2))) (h' := mk b S1) (ok' := true) C lkRX12_388 (qX12_isHouse hq) (kX12_moves _ (List.mem_of_getElem? (i := 2) rfl)).1 ⟨_, _, rfl, rfl, Nat.le_of_ble_eq_true rfl, _, _, rfl, rfl, rfl⟩ (Nat.le_of_ble_eq_true rfl) (Nat.le_of_ble_eq_true rfl) (Nat.le_refl _) (Nat.le_refl _) (Nat.le_of_ble_eq_true rfl) ?_
  refine msegT C kX12_moves 3 1 (g := (true, (if x2 = 0 then 41 else 8), [.ref (187), .int v1, .int v2], [], mk b S1)) rfl rfl ?_
  by_cases hc : x2 = 0
  · rw [if_pos hc] at hf ⊢
    exact mfor (L' := [.retAddr 0, .retAddr 0, .retAddr 0]) ⟨Or.inl rfl, Or.inl rfl, Or.inl rfl, trivial⟩ (bX12_moves_41 C hr hk hf true)
  · rw [if_neg hc] at hf ⊢
    refine msegT C kX12_moves 4 2 (g := (true, 10, [.ref (187), .int v1, .int v2], [.int v2, .ref (187)], mk b S1)) rfl rfl ?_
    obtain ⟨x4, S3, hq, hf⟩ := bndC_ex hf
    refine mcall (kd := 0) (vs := [.ref (187), .int v2]) (rest := []) (r := (some (.int x4))) (h' := mk b S3) (ok' := true) C lkRX12_388 (qX12_isHouse hq) (kX12_moves _ (List.mem_of_getElem? (i := 6) rfl)).1 ⟨_, _, rfl, rfl, Nat.le_of_ble_eq_true rfl, _, _, rfl, rfl, rfl⟩ (Nat.le_of_ble_eq_true rfl) (Nat.le_of_ble_eq_true rfl) (Nat.le_refl _) (Nat.le_refl _) (Nat.le_of_ble_eq_true rfl) ?_
    refine msegT C kX12_moves 7 1 (g := (true, (if x4 = 0 then 41 else 16), [.ref (187), .int v1, .int v2], [], mk b S3)) rfl rfl ?_
    by_cases hc : x4 = 0
    · rw [if_pos hc] at hf ⊢
      exact mfor (L' := [.retAddr 0, .retAddr 0, .retAddr 0]) ⟨Or.inl rfl, Or.inl rfl, Or.inl rfl, trivial⟩ (bX12_moves_41 C hr hk hf true)
    · rw [if_neg hc] at hf ⊢
      refine msegT C kX12_moves 8 3 (g := (true, (if v1 = v2 then 41 else 21), [.ref (187), .int v1, .int v2], [], mk b S3)) rfl rfl ?_
      by_cases hc : v1 = v2
      · rw [if_pos hc] at hf ⊢
        exact mfor (L' := [.retAddr 0, .retAddr 0, .retAddr 0]) ⟨Or.inl rfl, Or.inl rfl, Or.inl rfl, trivial⟩ (bX12_moves_41 C hr hk hf true)
      · rw [if_neg hc] at hf ⊢
        obtain ⟨hok, hf⟩ := grd_ex hf
        refine msegT C kX12_moves 11 5 (g := ((kI 208 v1 && (kO 187 12 && true)), (if (S3.1 208 (mIx v1)) = 0 then 41 else 30), [.ref (187), .int v1, .int v2], [], mk b S3)) rfl hok ?_
        by_cases hc : (S3.1 208 (mIx v1)) = 0
        · rw [if_pos hc] at hf ⊢
          exact mfor (L' := [.retAddr 0, .retAddr 0, .retAddr 0]) ⟨Or.inl rfl, Or.inl rfl, Or.inl rfl, trivial⟩ (bX12_moves_41 C hr hk hf true)
        · rw [if_neg hc] at hf ⊢
          obtain ⟨hok, hf⟩ := grd_ex hf
          refine msegT C kX12_moves 16 6 (g := ((kI 208 v2 && (kO 187 12 && true)), (if (S3.1 208 (mIx v2)) = (7 : Int32) then 41 else 43), [.ref (187), .int v1, .int v2], [], mk b S3)) rfl hok ?_
          by_cases hc : (S3.1 208 (mIx v2)) = (7 : Int32)
          · rw [if_pos hc] at hf ⊢
            exact mfor (L' := [.retAddr 0, .retAddr 0, .retAddr 0]) ⟨Or.inl rfl, Or.inl rfl, Or.inl rfl, trivial⟩ (bX12_moves_41 C hr hk hf true)
          · rw [if_neg hc] at hf ⊢
            refine msegT C kX12_moves 24 1 (g := (true, 44, [.ref (187), .int v1, .int v2], [.ref (187)], mk b S3)) rfl rfl ?_
            obtain ⟨S5, hq, hf⟩ := bndV_ex hf
            refine mcall (kd := 0) (vs := [.ref (187)]) (rest := []) (r := none) (h' := mk b S5) (ok' := true) C lkRX12_403 (qX12_act hq) (kX12_moves _ (List.mem_of_getElem? (i := 25) rfl)).1 ⟨_, _, rfl, rfl, Nat.le_of_ble_eq_true rfl, _, _, rfl, rfl, rfl⟩ (Nat.le_of_ble_eq_true rfl) (Nat.le_of_ble_eq_true rfl) (Nat.le_refl _) (Nat.le_refl _) (Nat.le_of_ble_eq_true rfl) ?_
            refine msegT C kX12_moves 26 2 (g := (true, 49, [.ref (187), .int v1, .int v2], [.int v1, .ref (187)], mk b S5)) rfl rfl ?_
            obtain ⟨S6, hq, hf⟩ := bndV_ex hf
            refine mcall (kd := 0) (vs := [.ref (187), .int v1]) (rest := []) (r := none) (h' := mk b S6) (ok' := true) C lkRX12_409 (qX12_leaves hq) (kX12_moves _ (List.mem_of_getElem? (i := 28) rfl)).1 ⟨_, _, rfl, rfl, Nat.le_of_ble_eq_true rfl, _, _, rfl, rfl, rfl⟩ (Nat.le_of_ble_eq_true rfl) (Nat.le_of_ble_eq_true rfl) (Nat.le_refl _) (Nat.le_refl _) (Nat.le_of_ble_eq_true rfl) ?_
            obtain ⟨hok, hf⟩ := grd_ex hf
            refine msegT C kX12_moves 29 8 (g := ((kI 208 v2 && (kI 208 v2 && (kO 187 12 && true))), 62, [.ref (187), .int v1, .int v2], [], mk b (sI S6 208 (mIx v2) ((S6.1 208 (mIx v2)) + (1 : Int32))))) rfl hok ?_
            obtain ⟨S7, eS7, hf⟩ := bnd_ex hf
            rw [← eS7]
            obtain ⟨hok, hf⟩ := grd_ex hf
            refine msegT C kX12_moves 37 4 (g := ((kI 208 v2 && (kO 187 12 && true)), 68, [.ref (187), .int v1, .int v2], [.int (S7.1 208 (mIx v2))], mk b S7)) rfl hok ?_
            cases hf
            exact gret_i C hr hk (kX12_moves _ (List.mem_of_getElem? (i := 41) rfl)).1
theorem qX12_moves {b : Bool} {v1 : Int32} {v2 : Int32} {S S' : mT} {r : Int32} (hf : fX12_moves v1 v2 S = some (r, S')) : mOk l mX12_moves 3 [.ref (187), .int v1, .int v2] b S (some (.int r)) S' :=
  gMet (by decide) (Nat.le_of_ble_eq_true rfl) rfl (Nat.le_of_ble_eq_true rfl) (fun p e s m args below meth c G C hr hk => bX12_moves_0 C hr hk hf true)
theorem bX12_noon_16 (C : mCx p (mR 3) s m args meth c G cX12_noon RX12 7 false 233 54500 233 54500) (hr : meth.sig.returnType = (some .int)) (hk : meth.locks = false) {b : Bool} {S' : mT} {r : Int32} {S : mT} (hf : fX12_noon_16 S = some (r, S')) (ok : Bool) : mW p l e (mR 3) s m args below meth c G 7 233 54500 (mQ below G args s b S' (some (.int r))) (ok, 16, [.retAddr 0, .retAddr 0, .retAddr 0, .retAddr 0, .retAddr 0, .retAddr 0, .retAddr 0], [], mk b S) := by
  unfold fX12_noon_16 at hf
  refine msegT C kX12_noon 8 1 (g := (true, 17, [.retAddr 0, .retAddr 0, .retAddr 0, .retAddr 0, .retAddr 0, .retAddr 0, .retAddr 0], [.int (-1 : Int32)], mk b S)) rfl rfl ?_
  cases hf
  exact gret_i C hr hk (kX12_noon _ (List.mem_of_getElem? (i := 9) rfl)).1
theorem bX12_noon_79 (C : mCx p (mR 3) s m args meth c G cX12_noon RX12 7 false 233 54500 233 54500) (hr : meth.sig.returnType = (some .int)) (hk : meth.locks = false) {b : Bool} {S' : mT} {r : Int32} {rc28 : Int32 → Int32 → Int32 → Int32 → mT → Option (Int32 × mT)} (Hrc28 : ∀ (v1 : Int32) (v2 : Int32) (v3 : Int32) (v4 : Int32) (S : mT), rc28 v1 v2 v3 v4 S = some (r, S') → ∀ ok : Bool, mW p l e (mR 3) s m args below meth c G 7 233 54500 (mQ below G args s b S' (some (.int r))) (ok, 28, [.ref (187), .int v1, .int v2, .int v3, .int v4, .retAddr 0, .retAddr 0], [], mk b S)) {v1 : Int32} {v2 : Int32} {v3 : Int32} {v4 : Int32} {S : mT} (hf : fX12_noon_79 rc28 v1 v2 v3 v4 S = some (r, S')) (ok : Bool) : mW p l e (mR 3) s m args below meth c G 7 233 54500 (mQ below G args s b S' (some (.int r))) (ok, 79, [.ref (187), .int v1, .int v2, .int v3, .int v4, .retAddr 0, .retAddr 0], [], mk b S) := by
  unfold fX12_noon_79 at hf
  refine msegT C kX12_noon 42 1 (g := (true, 82, [.ref (187), .int v1, .int v2, .int v3, .int (v4 + (1 : Int32)), .retAddr 0, .retAddr 0], [], mk b S)) rfl rfl ?_
  obtain ⟨x9, ex9, hf⟩ := bnd_ex hf
  rw [← ex9]
  refine msegT C kX12_noon 43 1 (g := (true, 28, [.ref (187), .int v1, .int v2, .int v3, .int x9, .retAddr 0, .retAddr 0], [], mk b S)) rfl rfl ?_
  exact mfor (L' := [.ref (187), .int v1, .int v2, .int v3, .int x9, .retAddr 0, .retAddr 0]) ⟨Or.inr rfl, Or.inr rfl, Or.inr rfl, Or.inr rfl, Or.inr rfl, Or.inl rfl, Or.inl rfl, trivial⟩ (Hrc28 _ _ _ _ _ hf true)
theorem bX12_noon_78 (C : mCx p (mR 3) s m args meth c G cX12_noon RX12 7 false 233 54500 233 54500) (hr : meth.sig.returnType = (some .int)) (hk : meth.locks = false) {b : Bool} {S' : mT} {r : Int32} {rc28 : Int32 → Int32 → Int32 → Int32 → mT → Option (Int32 × mT)} (Hrc28 : ∀ (v1 : Int32) (v2 : Int32) (v3 : Int32) (v4 : Int32) (S : mT), rc28 v1 v2 v3 v4 S = some (r, S') → ∀ ok : Bool, mW p l e (mR 3) s m args below meth c G 7 233 54500 (mQ below G args s b S' (some (.int r))) (ok, 28, [.ref (187), .int v1, .int v2, .int v3, .int v4, .retAddr 0, .retAddr 0], [], mk b S)) {v1 : Int32} {v3 : Int32} {v4 : Int32} {s0 : Int32} {S : mT} (hf : fX12_noon_78 rc28 v1 v3 v4 s0 S = some (r, S')) (ok : Bool) : mW p l e (mR 3) s m args below meth c G 7 233 54500 (mQ below G args s b S' (some (.int r))) (ok, 78, [.ref (187), .int v1, .retAddr 0, .int v3, .int v4, .retAddr 0, .retAddr 0], [.int s0], mk b S) := by
  unfold fX12_noon_78 at hf
  refine msegT C kX12_noon 41 1 (g := (true, 79, [.ref (187), .int v1, .int s0, .int v3, .int v4, .retAddr 0, .retAddr 0], [], mk b S)) rfl rfl ?_
  exact mfor (L' := [.ref (187), .int v1, .int s0, .int v3, .int v4, .retAddr 0, .retAddr 0]) ⟨Or.inr rfl, Or.inr rfl, Or.inr rfl, Or.inr rfl, Or.inr rfl, Or.inl rfl, Or.inl rfl, trivial⟩ (bX12_noon_79 C hr hk Hrc28 hf true)
theorem bX12_noon_72 (C : mCx p (mR 3) s m args meth c G cX12_noon RX12 7 false 233 54500 233 54500) (hr : meth.sig.returnType = (some .int)) (hk : meth.locks = false) {b : Bool} {S' : mT} {r : Int32} {rc28 : Int32 → Int32 → Int32 → Int32 → mT → Option (Int32 × mT)} (Hrc28 : ∀ (v1 : Int32) (v2 : Int32) (v3 : Int32) (v4 : Int32) (S : mT), rc28 v1 v2 v3 v4 S = some (r, S') → ∀ ok : Bool, mW p l e (mR 3) s m args below meth c G 7 233 54500 (mQ below G args s b S' (some (.int r))) (ok, 28, [.ref (187), .int v1, .int v2, .int v3, .int v4, .retAddr 0, .retAddr 0], [], mk b S)) {v1 : Int32} {v3 : Int32} {v4 : Int32} {v6 : Int32} {S : mT} (hf : fX12_noon_72 rc28 v1 v3 v4 v6 S = some (r, S')) (ok : Bool) : mW p l e (mR 3) s m args below meth c G 7 233 54500 (mQ below G args s b S' (some (.int r))) (ok, 72, [.ref (187), .int v1, .retAddr 0, .int v3, .int v4, .retAddr 0, .int v6], [], mk b S) := by
  unfold fX12_noon_72 at hf
  refine msegT C kX12_noon 38 2 (g := (true, 78, [.ref (187), .int v1, .retAddr 0, .int v3, .int v4, .retAddr 0, .int v6], [.int v6], mk b S)) rfl rfl ?_
  exact mfor (L' := [.ref (187), .int v1, .retAddr 0, .int v3, .int v4, .retAddr 0, .retAddr 0]) ⟨Or.inr rfl, Or.inr rfl, Or.inl rfl, Or.inr rfl, Or.inr rfl, Or.inl rfl, Or.inl rfl, trivial⟩ (bX12_noon_78 C hr hk Hrc28 hf true)
theorem bX12_noon_28 (C : mCx p (mR 3) s m args meth c G cX12_noon RX12 7 false 233 54500 233 54500) (hr : meth.sig.returnType = (some .int)) (hk : meth.locks = false) {b : Bool} {S' : mT} {r : Int32} : ∀ (k : Nat) (v1 : Int32) (v2 : Int32) (v3 : Int32) (v4 : Int32) (S : mT), fX12_noon_28 k v1 v2 v3 v4 S = some (r, S') → ∀ ok : Bool, mW p l e (mR 3) s m args below meth c G 7 233 54500 (mQ below G args s b S' (some (.int r))) (ok, 28, [.ref (187), .int v1, .int v2, .int v3, .int v4, .retAddr 0, .retAddr 0], [], mk b S) := by
  intro k
  induction k with
  | zero =>
    intro v1 v2 v3 v4 S hf ok
    cases hf
  | succ k ih =>
    intro v1 v2 v3 v4 S hf ok
    unfold fX12_noon_28 at hf
    refine msegT C kX12_noon 17 3 (g := (true, (if v3 ≤ v4 then 85 else 34), [.ref (187), .int v1, .int v2, .int v3, .int v4, .retAddr 0, .retAddr 0], [], mk b S)) rfl rfl ?_
    by_cases hc : v3 ≤ v4
    · rw [if_pos hc] at hf ⊢
      refine msegT C kX12_noon 44 1 (g := (true, 86, [.ref (187), .int v1, .int v2, .int v3, .int v4, .retAddr 0, .retAddr 0], [.int v2], mk b S)) rfl rfl ?_
      cases hf
      exact gret_i C hr hk (kX12_noon _ (List.mem_of_getElem? (i := 45) rfl)).1
    · rw [if_neg hc] at hf ⊢
      refine msegT C kX12_noon 20 2 (g := (true, 37, [.ref (187), .int v1, .int v2, .int v3, .int v4, .retAddr 0, .retAddr 0], [.int v4, .ref (187)], mk b S)) rfl rfl ?_
      obtain ⟨x6, S5, hq, hf⟩ := bndC_ex hf
      refine mcall (kd := 0) (vs := [.ref (187), .int v4]) (rest := []) (r := (some (.int x6))) (h' := mk b S5) (ok' := true) C lkRX12_439 (qX12_layCounters hq) (kX12_noon _ (List.mem_of_getElem? (i := 22) rfl)).1 ⟨_, _, rfl, rfl, Nat.le_of_ble_eq_true rfl, _, _, rfl, rfl, rfl⟩ (Nat.le_of_ble_eq_true rfl) (Nat.le_of_ble_eq_true rfl) (Nat.le_refl _) (Nat.le_refl _) (Nat.le_of_ble_eq_true rfl) ?_
      refine msegT C kX12_noon 23 3 (g := (true, (if x6 < 0 then 79 else 47), [.ref (187), .int v1, .int v2, .int v3, .int v4, .int x6, .retAddr 0], [], mk b S5)) rfl rfl ?_
      by_cases hc : x6 < 0
      · rw [if_pos hc] at hf ⊢
        exact mfor (L' := [.ref (187), .int v1, .int v2, .int v3, .int v4, .retAddr 0, .retAddr 0]) ⟨Or.inr rfl, Or.inr rfl, Or.inr rfl, Or.inr rfl, Or.inr rfl, Or.inl rfl, Or.inl rfl, trivial⟩ (bX12_noon_79 C hr hk ih hf true)
      · rw [if_neg hc] at hf ⊢
        refine msegT C kX12_noon 26 3 (g := (true, (if x6 ≤ v1 then 56 else 53), [.ref (187), .int v1, .int v2, .int v3, .int v4, .int x6, .retAddr 0], [], mk b S5)) rfl rfl ?_
        by_cases hc : x6 ≤ v1
        · rw [if_pos hc] at hf ⊢
          refine msegT C kX12_noon 30 1 (g := (true, 57, [.ref (187), .int v1, .int v2, .int v3, .int v4, .int x6, .retAddr 0], [.ref (187)], mk b S5)) rfl rfl ?_
          obtain ⟨x8, S7, hq, hf⟩ := bndC_ex hf
          refine mcall (kd := 0) (vs := [.ref (187)]) (rest := []) (r := (some (.int x8))) (h' := mk b S7) (ok' := true) C lkRX12_442 (qX12_doneAt hq) (kX12_noon _ (List.mem_of_getElem? (i := 31) rfl)).1 ⟨_, _, rfl, rfl, Nat.le_of_ble_eq_true rfl, _, _, rfl, rfl, rfl⟩ (Nat.le_of_ble_eq_true rfl) (Nat.le_of_ble_eq_true rfl) (Nat.le_refl _) (Nat.le_refl _) (Nat.le_of_ble_eq_true rfl) ?_
          refine msegT C kX12_noon 32 3 (g := (true, (if v2 < 0 then 72 else 66), [.ref (187), .int v1, .int v2, .int v3, .int v4, .int x6, .int x8], [], mk b S7)) rfl rfl ?_
          by_cases hc : v2 < 0
          · rw [if_pos hc] at hf ⊢
            exact mfor (L' := [.ref (187), .int v1, .retAddr 0, .int v3, .int v4, .retAddr 0, .int x8]) ⟨Or.inr rfl, Or.inr rfl, Or.inl rfl, Or.inr rfl, Or.inr rfl, Or.inl rfl, Or.inr rfl, trivial⟩ (bX12_noon_72 C hr hk ih hf true)
          · rw [if_neg hc] at hf ⊢
            refine msegT C kX12_noon 35 3 (g := (true, (if v2 ≤ x8 then 77 else 72), [.ref (187), .int v1, .int v2, .int v3, .int v4, .int x6, .int x8], [], mk b S7)) rfl rfl ?_
            by_cases hc : v2 ≤ x8
            · rw [if_pos hc] at hf ⊢
              refine msegT C kX12_noon 40 1 (g := (true, 78, [.ref (187), .int v1, .int v2, .int v3, .int v4, .int x6, .int x8], [.int v2], mk b S7)) rfl rfl ?_
              exact mfor (L' := [.ref (187), .int v1, .retAddr 0, .int v3, .int v4, .retAddr 0, .retAddr 0]) ⟨Or.inr rfl, Or.inr rfl, Or.inl rfl, Or.inr rfl, Or.inr rfl, Or.inl rfl, Or.inl rfl, trivial⟩ (bX12_noon_78 C hr hk ih hf true)
            · rw [if_neg hc] at hf ⊢
              exact mfor (L' := [.ref (187), .int v1, .retAddr 0, .int v3, .int v4, .retAddr 0, .int x8]) ⟨Or.inr rfl, Or.inr rfl, Or.inl rfl, Or.inr rfl, Or.inr rfl, Or.inl rfl, Or.inr rfl, trivial⟩ (bX12_noon_72 C hr hk ih hf true)
        · rw [if_neg hc] at hf ⊢
          refine msegT C kX12_noon 29 1 (g := (true, 79, [.ref (187), .int v1, .int v2, .int v3, .int v4, .int x6, .retAddr 0], [], mk b S5)) rfl rfl ?_
          exact mfor (L' := [.ref (187), .int v1, .int v2, .int v3, .int v4, .retAddr 0, .retAddr 0]) ⟨Or.inr rfl, Or.inr rfl, Or.inr rfl, Or.inr rfl, Or.inr rfl, Or.inl rfl, Or.inl rfl, trivial⟩ (bX12_noon_79 C hr hk ih hf true)
theorem bX12_noon_0 (C : mCx p (mR 3) s m args meth c G cX12_noon RX12 7 false 233 54500 233 54500) (hr : meth.sig.returnType = (some .int)) (hk : meth.locks = false) {b : Bool} {S' : mT} {r : Int32} {v1 : Int32} {S : mT} (hf : fX12_noon v1 S = some (r, S')) (ok : Bool) : mW p l e (mR 3) s m args below meth c G 7 233 54500 (mQ below G args s b S' (some (.int r))) (ok, 0, [.ref (187), .int v1, .retAddr 0, .retAddr 0, .retAddr 0, .retAddr 0, .retAddr 0], [], mk b S) := by
  unfold fX12_noon at hf
  obtain ⟨hok, hf⟩ := grd_ex hf
  refine msegT C kX12_noon 0 3 (g := ((kO 187 12 && true), (if (S.1 187 37) = 0 then 16 else 7), [.ref (187), .int v1, .retAddr 0, .retAddr 0, .retAddr 0, .retAddr 0, .retAddr 0], [], mk b S)) rfl hok ?_
  by_cases hc : (S.1 187 37) = 0
  · rw [if_pos hc] at hf ⊢
    exact mfor (L' := [.retAddr 0, .retAddr 0, .retAddr 0, .retAddr 0, .retAddr 0, .retAddr 0, .retAddr 0]) ⟨Or.inl rfl, Or.inl rfl, Or.inl rfl, Or.inl rfl, Or.inl rfl, Or.inl rfl, Or.inl rfl, trivial⟩ (bX12_noon_16 C hr hk hf true)
  · rw [if_neg hc] at hf ⊢
    refine msegT C kX12_noon 3 3 (g := (true, 10, [.ref (187), .int v1, .retAddr 0, .retAddr 0, .retAddr 0, .retAddr 0, .retAddr 0], [.int (5 : Int32), .int (1 : Int32), .int v1], mk b S)) rfl rfl ?_
    obtain ⟨x2, S1, hq, hf⟩ := bndC_ex hf
    refine mcall (kd := 1) (vs := [.int v1, .int (1 : Int32), .int (5 : Int32)]) (rest := []) (r := (some (.int x2))) (h' := mk b S1) (ok' := true) C lkRX12_362 (qX12_isIn hq) (kX12_noon _ (List.mem_of_getElem? (i := 6) rfl)).1 rfl (Nat.le_of_ble_eq_true rfl) (Nat.le_of_ble_eq_true rfl) (Nat.le_refl _) (Nat.le_refl _) (Nat.le_of_ble_eq_true rfl) ?_
    refine msegT C kX12_noon 7 1 (g := (true, (if x2 = 0 then 16 else 18), [.ref (187), .int v1, .retAddr 0, .retAddr 0, .retAddr 0, .retAddr 0, .retAddr 0], [], mk b S1)) rfl rfl ?_
    by_cases hc : x2 = 0
    · rw [if_pos hc] at hf ⊢
      exact mfor (L' := [.retAddr 0, .retAddr 0, .retAddr 0, .retAddr 0, .retAddr 0, .retAddr 0, .retAddr 0]) ⟨Or.inl rfl, Or.inl rfl, Or.inl rfl, Or.inl rfl, Or.inl rfl, Or.inl rfl, Or.inl rfl, trivial⟩ (bX12_noon_16 C hr hk hf true)
    · rw [if_neg hc] at hf ⊢
      refine msegT C kX12_noon 10 3 (g := (true, 21, [.ref (187), .int v1, .int (-1 : Int32), .retAddr 0, .retAddr 0, .retAddr 0, .retAddr 0], [.ref (187)], mk b S1)) rfl rfl ?_
      obtain ⟨x4, S3, hq, hf⟩ := bndC_ex hf
      refine mcall (kd := 0) (vs := [.ref (187)]) (rest := []) (r := (some (.int x4))) (h' := mk b S3) (ok' := true) C lkRX12_436 (qX12_countersRows hq) (kX12_noon _ (List.mem_of_getElem? (i := 13) rfl)).1 ⟨_, _, rfl, rfl, Nat.le_of_ble_eq_true rfl, _, _, rfl, rfl, rfl⟩ (Nat.le_of_ble_eq_true rfl) (Nat.le_of_ble_eq_true rfl) (Nat.le_refl _) (Nat.le_refl _) (Nat.le_of_ble_eq_true rfl) ?_
      refine msegT C kX12_noon 14 3 (g := (true, 28, [.ref (187), .int v1, .int (-1 : Int32), .int x4, .int (0 : Int32), .retAddr 0, .retAddr 0], [], mk b S3)) rfl rfl ?_
      exact mfor (L' := [.ref (187), .int v1, .int (-1 : Int32), .int x4, .int (0 : Int32), .retAddr 0, .retAddr 0]) ⟨Or.inr rfl, Or.inr rfl, Or.inr rfl, Or.inr rfl, Or.inr rfl, Or.inl rfl, Or.inl rfl, trivial⟩ (bX12_noon_28 C hr hk _ _ _ _ _ _ hf true)
theorem qX12_noon {b : Bool} {v1 : Int32} {S S' : mT} {r : Int32} (hf : fX12_noon v1 S = some (r, S')) : mOk l mX12_noon 3 [.ref (187), .int v1] b S (some (.int r)) S' :=
  gMet (by decide) (Nat.le_of_ble_eq_true rfl) rfl (Nat.le_of_ble_eq_true rfl) (fun p e s m args below meth c G C hr hk => bX12_noon_0 C hr hk hf true)
theorem bX12_odds_27 (C : mCx p (mR 4) s m args meth c G cX12_odds RX12 7 false 233 54500 233 54500) (hr : meth.sig.returnType = (some .int)) (hk : meth.locks = false) {b : Bool} {S' : mT} {r : Int32} {S : mT} (hf : fX12_odds_27 S = some (r, S')) (ok : Bool) : mW p l e (mR 4) s m args below meth c G 7 233 54500 (mQ below G args s b S' (some (.int r))) (ok, 27, [.retAddr 0, .retAddr 0, .retAddr 0, .retAddr 0, .retAddr 0, .retAddr 0, .retAddr 0], [], mk b S) := by
  unfold fX12_odds_27 at hf
  refine msegT C kX12_odds 14 1 (g := (true, 28, [.retAddr 0, .retAddr 0, .retAddr 0, .retAddr 0, .retAddr 0, .retAddr 0, .retAddr 0], [.int (-1 : Int32)], mk b S)) rfl rfl ?_
  cases hf
  exact gret_i C hr hk (kX12_odds _ (List.mem_of_getElem? (i := 15) rfl)).1
theorem bX12_odds_87 (C : mCx p (mR 4) s m args meth c G cX12_odds RX12 7 false 233 54500 233 54500) (hr : meth.sig.returnType = (some .int)) (hk : meth.locks = false) {b : Bool} {S' : mT} {r : Int32} {s0 : Int32} {S : mT} (hf : fX12_odds_87 s0 S = some (r, S')) (ok : Bool) : mW p l e (mR 4) s m args below meth c G 7 233 54500 (mQ below G args s b S' (some (.int r))) (ok, 87, [.retAddr 0, .retAddr 0, .retAddr 0, .retAddr 0, .retAddr 0, .retAddr 0, .retAddr 0], [.int s0], mk b S) := by
  unfold fX12_odds_87 at hf
  cases hf
  exact gret_i C hr hk (kX12_odds _ (List.mem_of_getElem? (i := 48) rfl)).1
theorem bX12_odds_0 (C : mCx p (mR 4) s m args meth c G cX12_odds RX12 7 false 233 54500 233 54500) (hr : meth.sig.returnType = (some .int)) (hk : meth.locks = false) {b : Bool} {S' : mT} {r : Int32} {v1 : Int32} {v2 : Int32} {v3 : Int32} {v4 : Int32} {S : mT} (hf : fX12_odds v1 v2 v3 v4 S = some (r, S')) (ok : Bool) : mW p l e (mR 4) s m args below meth c G 7 233 54500 (mQ below G args s b S' (some (.int r))) (ok, 0, [.ref (187), .int v1, .int v2, .int v3, .int v4, .retAddr 0, .retAddr 0], [], mk b S) := by
  unfold fX12_odds at hf
  refine msegT C kX12_odds 0 2 (g := (true, 2, [.ref (187), .int v1, .int v2, .int v3, .int v4, .retAddr 0, .retAddr 0], [.int v1, .ref (187)], mk b S)) rfl rfl ?_
  obtain ⟨x2, S1, hq, hf⟩ := bndC_ex hf
  refine mcall (kd := 0) (vs := [.ref (187), .int v1]) (rest := []) (r := (some (.int x2))) (h' := mk b S1) (ok' := true) C lkRX12_388 (qX12_isHouse hq) (kX12_odds _ (List.mem_of_getElem? (i := 2) rfl)).1 ⟨_, _, rfl, rfl, Nat.le_of_ble_eq_true rfl, _, _, rfl, rfl, rfl⟩ (Nat.le_of_ble_eq_true rfl) (Nat.le_of_ble_eq_true rfl) (Nat.le_refl _) (Nat.le_refl _) (Nat.le_of_ble_eq_true rfl) ?_
  refine msegT C kX12_odds 3 1 (g := (true, (if x2 = 0 then 27 else 8), [.ref (187), .int v1, .int v2, .int v3, .int v4, .retAddr 0, .retAddr 0], [], mk b S1)) rfl rfl ?_
  by_cases hc : x2 = 0
  · rw [if_pos hc] at hf ⊢
    exact mfor (L' := [.retAddr 0, .retAddr 0, .retAddr 0, .retAddr 0, .retAddr 0, .retAddr 0, .retAddr 0]) ⟨Or.inl rfl, Or.inl rfl, Or.inl rfl, Or.inl rfl, Or.inl rfl, Or.inl rfl, Or.inl rfl, trivial⟩ (bX12_odds_27 C hr hk hf true)
  · rw [if_neg hc] at hf ⊢
    refine msegT C kX12_odds 4 3 (g := (true, 12, [.ref (187), .int v1, .int v2, .int v3, .int v4, .retAddr 0, .retAddr 0], [.int (7 : Int32), .int (0 : Int32), .int v2], mk b S1)) rfl rfl ?_
    obtain ⟨x4, S3, hq, hf⟩ := bndC_ex hf
    refine mcall (kd := 1) (vs := [.int v2, .int (0 : Int32), .int (7 : Int32)]) (rest := []) (r := (some (.int x4))) (h' := mk b S3) (ok' := true) C lkRX12_362 (qX12_isIn hq) (kX12_odds _ (List.mem_of_getElem? (i := 7) rfl)).1 rfl (Nat.le_of_ble_eq_true rfl) (Nat.le_of_ble_eq_true rfl) (Nat.le_refl _) (Nat.le_refl _) (Nat.le_of_ble_eq_true rfl) ?_
    refine msegT C kX12_odds 8 1 (g := (true, (if x4 = 0 then 27 else 18), [.ref (187), .int v1, .int v2, .int v3, .int v4, .retAddr 0, .retAddr 0], [], mk b S3)) rfl rfl ?_
    by_cases hc : x4 = 0
    · rw [if_pos hc] at hf ⊢
      exact mfor (L' := [.retAddr 0, .retAddr 0, .retAddr 0, .retAddr 0, .retAddr 0, .retAddr 0, .retAddr 0]) ⟨Or.inl rfl, Or.inl rfl, Or.inl rfl, Or.inl rfl, Or.inl rfl, Or.inl rfl, Or.inl rfl, trivial⟩ (bX12_odds_27 C hr hk hf true)
    · rw [if_neg hc] at hf ⊢
      refine msegT C kX12_odds 9 3 (g := (true, 21, [.ref (187), .int v1, .int v2, .int v3, .int v4, .retAddr 0, .retAddr 0], [.int (1 : Int32), .int (0 : Int32), .int v3], mk b S3)) rfl rfl ?_
      obtain ⟨x6, S5, hq, hf⟩ := bndC_ex hf
      refine mcall (kd := 1) (vs := [.int v3, .int (0 : Int32), .int (1 : Int32)]) (rest := []) (r := (some (.int x6))) (h' := mk b S5) (ok' := true) C lkRX12_362 (qX12_isIn hq) (kX12_odds _ (List.mem_of_getElem? (i := 12) rfl)).1 rfl (Nat.le_of_ble_eq_true rfl) (Nat.le_of_ble_eq_true rfl) (Nat.le_refl _) (Nat.le_refl _) (Nat.le_of_ble_eq_true rfl) ?_
      refine msegT C kX12_odds 13 1 (g := (true, (if x6 = 0 then 27 else 29), [.ref (187), .int v1, .int v2, .int v3, .int v4, .retAddr 0, .retAddr 0], [], mk b S5)) rfl rfl ?_
      by_cases hc : x6 = 0
      · rw [if_pos hc] at hf ⊢
        exact mfor (L' := [.retAddr 0, .retAddr 0, .retAddr 0, .retAddr 0, .retAddr 0, .retAddr 0, .retAddr 0]) ⟨Or.inl rfl, Or.inl rfl, Or.inl rfl, Or.inl rfl, Or.inl rfl, Or.inl rfl, Or.inl rfl, trivial⟩ (bX12_odds_27 C hr hk hf true)
      · rw [if_neg hc] at hf ⊢
        refine msegT C kX12_odds 16 2 (g := (true, 32, [.ref (187), .int v1, .int v2, .int v3, .int v4, .retAddr 0, .retAddr 0], [.int v4, .ref (187)], mk b S5)) rfl rfl ?_
        obtain ⟨S7, hq, hf⟩ := bndV_ex hf
        refine mcall (kd := 0) (vs := [.ref (187), .int v4]) (rest := []) (r := none) (h' := mk b S7) (ok' := true) C lkRX12_479 (qX12_layTruths hq) (kX12_odds _ (List.mem_of_getElem? (i := 18) rfl)).1 ⟨_, _, rfl, rfl, Nat.le_of_ble_eq_true rfl, _, _, rfl, rfl, rfl⟩ (Nat.le_of_ble_eq_true rfl) (Nat.le_of_ble_eq_true rfl) (Nat.le_refl _) (Nat.le_refl _) (Nat.le_of_ble_eq_true rfl) ?_
        obtain ⟨hok, hf⟩ := grd_ex hf
        refine msegT C kX12_odds 19 3 (g := ((kO 187 12 && true), (if (S7.1 187 69) = 0 then 42 else 44), [.ref (187), .int v1, .int v2, .int v3, .int v4, .retAddr 0, .retAddr 0], [], mk b S7)) rfl hok ?_
        by_cases hc : (S7.1 187 69) = 0
        · rw [if_pos hc] at hf ⊢
          refine msegT C kX12_odds 22 1 (g := (true, 43, [.ref (187), .int v1, .int v2, .int v3, .int v4, .retAddr 0, .retAddr 0], [.int (-1 : Int32)], mk b S7)) rfl rfl ?_
          cases hf
          exact gret_i C hr hk (kX12_odds _ (List.mem_of_getElem? (i := 23) rfl)).1
        · rw [if_neg hc] at hf ⊢
          obtain ⟨hok, hf⟩ := grd_ex hf
          refine msegT C kX12_odds 24 9 (g := ((kI 229 (((8 : Int32) * v1) + v2) && (kO 187 12 && true)), 57, [.ref (187), .int v1, .int v2, .int v3, .int v4, .int (S7.1 229 (mIx (((8 : Int32) * v1) + v2))), .retAddr 0], [], mk b S7)) rfl hok ?_
          obtain ⟨x8, ex8, hf⟩ := bnd_ex hf
          rw [← ex8]
          obtain ⟨hok, hf⟩ := grd_ex hf
          refine msegT C kX12_odds 33 3 (g := ((kO 187 12 && true), 63, [.ref (187), .int v1, .int v2, .int v3, .int v4, .int x8, .retAddr 0], [.int x8, .int (S7.1 187 69)], mk b S7)) rfl hok ?_
          obtain ⟨x10, S9, hq, hf⟩ := bndC_ex hf
          refine mcall (kd := 1) (vs := [.int (S7.1 187 69), .int x8]) (rest := []) (r := (some (.int x10))) (h' := mk b S9) (ok' := true) C lkRX12_492 (qX12_common hq) (kX12_odds _ (List.mem_of_getElem? (i := 36) rfl)).1 rfl (Nat.le_of_ble_eq_true rfl) (Nat.le_of_ble_eq_true rfl) (Nat.le_refl _) (Nat.le_refl _) (Nat.le_of_ble_eq_true rfl) ?_
          refine msegT C kX12_odds 37 3 (g := (true, (if v3 = 0 then 72 else 80), [.ref (187), .int v1, .int v2, .int v3, .int v4, .int x8, .int x10], [], mk b S9)) rfl rfl ?_
          by_cases hc : v3 = 0
          · rw [if_pos hc] at hf ⊢
            obtain ⟨hok, hf⟩ := grd_ex hf
            refine msegT C kX12_odds 40 4 (g := ((decide (¬ x10 = 0) && true), 87, [.ref (187), .int v1, .int v2, .int v3, .int v4, .int x8, .int x10], [.int (x8 / x10)], mk b S9)) rfl hok ?_
            exact mfor (L' := [.retAddr 0, .retAddr 0, .retAddr 0, .retAddr 0, .retAddr 0, .retAddr 0, .retAddr 0]) ⟨Or.inl rfl, Or.inl rfl, Or.inl rfl, Or.inl rfl, Or.inl rfl, Or.inl rfl, Or.inl rfl, trivial⟩ (bX12_odds_87 C hr hk hf true)
          · rw [if_neg hc] at hf ⊢
            obtain ⟨hok, hf⟩ := grd_ex hf
            refine msegT C kX12_odds 44 4 (g := ((decide (¬ x10 = 0) && (kO 187 12 && true)), 87, [.ref (187), .int v1, .int v2, .int v3, .int v4, .int x8, .int x10], [.int ((S9.1 187 69) / x10)], mk b S9)) rfl hok ?_
            exact mfor (L' := [.retAddr 0, .retAddr 0, .retAddr 0, .retAddr 0, .retAddr 0, .retAddr 0, .retAddr 0]) ⟨Or.inl rfl, Or.inl rfl, Or.inl rfl, Or.inl rfl, Or.inl rfl, Or.inl rfl, Or.inl rfl, trivial⟩ (bX12_odds_87 C hr hk hf true)
theorem qX12_odds {b : Bool} {v1 : Int32} {v2 : Int32} {v3 : Int32} {v4 : Int32} {S S' : mT} {r : Int32} (hf : fX12_odds v1 v2 v3 v4 S = some (r, S')) : mOk l mX12_odds 4 [.ref (187), .int v1, .int v2, .int v3, .int v4] b S (some (.int r)) S' :=
  gMet (by decide) (Nat.le_of_ble_eq_true rfl) rfl (Nat.le_of_ble_eq_true rfl) (fun p e s m args below meth c G C hr hk => bX12_odds_0 C hr hk hf true)
theorem bX12_toldNumber_62 (C : mCx p (mR 3) s m args meth c G cX12_toldNumber RX12 4 false 233 54500 233 54500) (hr : meth.sig.returnType = (some .int)) (hk : meth.locks = false) {b : Bool} {S' : mT} {r : Int32} {v3 : Int32} {S : mT} (hf : fX12_toldNumber_62 v3 S = some (r, S')) (ok : Bool) : mW p l e (mR 3) s m args below meth c G 4 233 54500 (mQ below G args s b S' (some (.int r))) (ok, 62, [.retAddr 0, .retAddr 0, .retAddr 0, .int v3], [], mk b S) := by
  unfold fX12_toldNumber_62 at hf
  refine msegT C kX12_toldNumber 32 1 (g := (true, 63, [.retAddr 0, .retAddr 0, .retAddr 0, .int v3], [.int v3], mk b S)) rfl rfl ?_
  cases hf
  exact gret_i C hr hk (kX12_toldNumber _ (List.mem_of_getElem? (i := 33) rfl)).1
theorem bX12_toldNumber_46 (C : mCx p (mR 3) s m args meth c G cX12_toldNumber RX12 4 false 233 54500 233 54500) (hr : meth.sig.returnType = (some .int)) (hk : meth.locks = false) {b : Bool} {S' : mT} {r : Int32} {S : mT} (hf : fX12_toldNumber_46 S = some (r, S')) (ok : Bool) : mW p l e (mR 3) s m args below meth c G 4 233 54500 (mQ below G args s b S' (some (.int r))) (ok, 46, [.ref (187), .retAddr 0, .retAddr 0, .retAddr 0], [], mk b S) := by
  unfold fX12_toldNumber_46 at hf
  obtain ⟨hok, hf⟩ := grd_ex hf
  refine msegT C kX12_toldNumber 24 3 (g := ((kO 187 12 && true), 51, [.ref (187), .retAddr 0, .retAddr 0, .int (S.1 187 8)], [], mk b S)) rfl hok ?_
  obtain ⟨x3, ex3, hf⟩ := bnd_ex hf
  rw [← ex3]
  obtain ⟨hok, hf⟩ := grd_ex hf
  refine msegT C kX12_toldNumber 27 3 (g := ((kO 187 12 && true), (if (S.1 187 2) = 0 then 58 else 62), [.ref (187), .retAddr 0, .retAddr 0, .int x3], [], mk b S)) rfl hok ?_
  by_cases hc : (S.1 187 2) = 0
  · rw [if_pos hc] at hf ⊢
    refine msegT C kX12_toldNumber 30 1 (g := (true, 59, [.ref (187), .retAddr 0, .retAddr 0, .int x3], [.ref (187)], mk b S)) rfl rfl ?_
    obtain ⟨S4, hq, hf⟩ := bndV_ex hf
    refine mcall (kd := 0) (vs := [.ref (187)]) (rest := []) (r := none) (h' := mk b S4) (ok' := true) C lkRX12_236 (qX12_token hq) (kX12_toldNumber _ (List.mem_of_getElem? (i := 31) rfl)).1 ⟨_, _, rfl, rfl, Nat.le_of_ble_eq_true rfl, _, _, rfl, rfl, rfl⟩ (Nat.le_of_ble_eq_true rfl) (Nat.le_of_ble_eq_true rfl) (Nat.le_refl _) (Nat.le_refl _) (Nat.le_of_ble_eq_true rfl) ?_
    exact mfor (L' := [.retAddr 0, .retAddr 0, .retAddr 0, .int x3]) ⟨Or.inl rfl, Or.inl rfl, Or.inl rfl, Or.inr rfl, trivial⟩ (bX12_toldNumber_62 C hr hk hf true)
  · rw [if_neg hc] at hf ⊢
    exact mfor (L' := [.retAddr 0, .retAddr 0, .retAddr 0, .int x3]) ⟨Or.inl rfl, Or.inl rfl, Or.inl rfl, Or.inr rfl, trivial⟩ (bX12_toldNumber_62 C hr hk hf true)
theorem bX12_toldNumber_41 (C : mCx p (mR 3) s m args meth c G cX12_toldNumber RX12 4 false 233 54500 233 54500) (hr : meth.sig.returnType = (some .int)) (hk : meth.locks = false) {b : Bool} {S' : mT} {r : Int32} {S : mT} (hf : fX12_toldNumber_41 S = some (r, S')) (ok : Bool) : mW p l e (mR 3) s m args below meth c G 4 233 54500 (mQ below G args s b S' (some (.int r))) (ok, 41, [.ref (187), .retAddr 0, .retAddr 0, .retAddr 0], [], mk b S) := by
  unfold fX12_toldNumber_41 at hf
  refine msegT C kX12_toldNumber 21 2 (g := (true, 43, [.ref (187), .retAddr 0, .retAddr 0, .retAddr 0], [.int (4 : Int32), .ref (187)], mk b S)) rfl rfl ?_
  obtain ⟨S2, hq, hf⟩ := bndV_ex hf
  refine mcall (kd := 0) (vs := [.ref (187), .int (4 : Int32)]) (rest := []) (r := none) (h' := mk b S2) (ok' := true) C lkRX12_233 (qX12_wrong hq) (kX12_toldNumber _ (List.mem_of_getElem? (i := 23) rfl)).1 ⟨_, _, rfl, rfl, Nat.le_of_ble_eq_true rfl, _, _, rfl, rfl, rfl⟩ (Nat.le_of_ble_eq_true rfl) (Nat.le_of_ble_eq_true rfl) (Nat.le_refl _) (Nat.le_refl _) (Nat.le_of_ble_eq_true rfl) ?_
  exact mfor (L' := [.ref (187), .retAddr 0, .retAddr 0, .retAddr 0]) ⟨Or.inr rfl, Or.inl rfl, Or.inl rfl, Or.inl rfl, trivial⟩ (bX12_toldNumber_46 C hr hk hf true)
theorem bX12_toldNumber_0 (C : mCx p (mR 3) s m args meth c G cX12_toldNumber RX12 4 false 233 54500 233 54500) (hr : meth.sig.returnType = (some .int)) (hk : meth.locks = false) {b : Bool} {S' : mT} {r : Int32} {v1 : Int32} {v2 : Int32} {S : mT} (hf : fX12_toldNumber v1 v2 S = some (r, S')) (ok : Bool) : mW p l e (mR 3) s m args below meth c G 4 233 54500 (mQ below G args s b S' (some (.int r))) (ok, 0, [.ref (187), .int v1, .int v2, .retAddr 0], [], mk b S) := by
  unfold fX12_toldNumber at hf
  obtain ⟨hok, hf⟩ := grd_ex hf
  refine msegT C kX12_toldNumber 0 3 (g := ((kO 187 12 && true), (if (S.1 187 2) ≤ 0 then 9 else 7), [.ref (187), .int v1, .int v2, .retAddr 0], [], mk b S)) rfl hok ?_
  by_cases hc : (S.1 187 2) ≤ 0
  · rw [if_pos hc] at hf ⊢
    obtain ⟨hok, hf⟩ := grd_ex hf
    refine msegT C kX12_toldNumber 5 4 (g := ((kO 187 12 && true), (if (S.1 187 6) = (2 : Int32) then 25 else 17), [.ref (187), .int v1, .int v2, .retAddr 0], [], mk b S)) rfl hok ?_
    by_cases hc : (S.1 187 6) = (2 : Int32)
    · rw [if_pos hc] at hf ⊢
      obtain ⟨hok, hf⟩ := grd_ex hf
      refine msegT C kX12_toldNumber 13 4 (g := ((kO 187 12 && true), (if (S.1 187 8) < v1 then 41 else 33), [.ref (187), .int v1, .int v2, .retAddr 0], [], mk b S)) rfl hok ?_
      by_cases hc : (S.1 187 8) < v1
      · rw [if_pos hc] at hf ⊢
        exact mfor (L' := [.ref (187), .retAddr 0, .retAddr 0, .retAddr 0]) ⟨Or.inr rfl, Or.inl rfl, Or.inl rfl, Or.inl rfl, trivial⟩ (bX12_toldNumber_41 C hr hk hf true)
      · rw [if_neg hc] at hf ⊢
        obtain ⟨hok, hf⟩ := grd_ex hf
        refine msegT C kX12_toldNumber 17 4 (g := ((kO 187 12 && true), (if (S.1 187 8) ≤ v2 then 46 else 41), [.ref (187), .int v1, .int v2, .retAddr 0], [], mk b S)) rfl hok ?_
        by_cases hc : (S.1 187 8) ≤ v2
        · rw [if_pos hc] at hf ⊢
          exact mfor (L' := [.ref (187), .retAddr 0, .retAddr 0, .retAddr 0]) ⟨Or.inr rfl, Or.inl rfl, Or.inl rfl, Or.inl rfl, trivial⟩ (bX12_toldNumber_46 C hr hk hf true)
        · rw [if_neg hc] at hf ⊢
          exact mfor (L' := [.ref (187), .retAddr 0, .retAddr 0, .retAddr 0]) ⟨Or.inr rfl, Or.inl rfl, Or.inl rfl, Or.inl rfl, trivial⟩ (bX12_toldNumber_41 C hr hk hf true)
    · rw [if_neg hc] at hf ⊢
      refine msegT C kX12_toldNumber 9 2 (g := (true, 19, [.ref (187), .int v1, .int v2, .retAddr 0], [.int (2 : Int32), .ref (187)], mk b S)) rfl rfl ?_
      obtain ⟨S1, hq, hf⟩ := bndV_ex hf
      refine mcall (kd := 0) (vs := [.ref (187), .int (2 : Int32)]) (rest := []) (r := none) (h' := mk b S1) (ok' := true) C lkRX12_233 (qX12_wrong hq) (kX12_toldNumber _ (List.mem_of_getElem? (i := 11) rfl)).1 ⟨_, _, rfl, rfl, Nat.le_of_ble_eq_true rfl, _, _, rfl, rfl, rfl⟩ (Nat.le_of_ble_eq_true rfl) (Nat.le_of_ble_eq_true rfl) (Nat.le_refl _) (Nat.le_refl _) (Nat.le_of_ble_eq_true rfl) ?_
      refine msegT C kX12_toldNumber 12 1 (g := (true, 46, [.ref (187), .int v1, .int v2, .retAddr 0], [], mk b S1)) rfl rfl ?_
      exact mfor (L' := [.ref (187), .retAddr 0, .retAddr 0, .retAddr 0]) ⟨Or.inr rfl, Or.inl rfl, Or.inl rfl, Or.inl rfl, trivial⟩ (bX12_toldNumber_46 C hr hk hf true)
  · rw [if_neg hc] at hf ⊢
    refine msegT C kX12_toldNumber 3 1 (g := (true, 8, [.ref (187), .int v1, .int v2, .retAddr 0], [.int (0 : Int32)], mk b S)) rfl rfl ?_
    cases hf
    exact gret_i C hr hk (kX12_toldNumber _ (List.mem_of_getElem? (i := 4) rfl)).1
theorem qX12_toldNumber {b : Bool} {v1 : Int32} {v2 : Int32} {S S' : mT} {r : Int32} (hf : fX12_toldNumber v1 v2 S = some (r, S')) : mOk l mX12_toldNumber 3 [.ref (187), .int v1, .int v2] b S (some (.int r)) S' :=
  gMet (by decide) (Nat.le_of_ble_eq_true rfl) rfl (Nat.le_of_ble_eq_true rfl) (fun p e s m args below meth c G C hr hk => bX12_toldNumber_0 C hr hk hf true)
theorem bX12_want_28 (C : mCx p (mR 3) s m args meth c G cX12_want RX12 3 false 233 54500 233 54500) (hr : meth.sig.returnType = none) (hk : meth.locks = false) {b : Bool} {S' : mT} {S : mT} (hf : fX12_want_28 S = some S') (ok : Bool) : mW p l e (mR 3) s m args below meth c G 3 233 54500 (mQ below G args s b S' none) (ok, 28, [.retAddr 0, .retAddr 0, .retAddr 0], [], mk b S) := by
  unfold fX12_want_28 at hf
  cases hf
  exact gret_v C hr hk (kX12_want _ (List.mem_of_getElem? (i := 14) rfl)).1
theorem bX12_want_0 (C : mCx p (mR 3) s m args meth c G cX12_want RX12 3 false 233 54500 233 54500) (hr : meth.sig.returnType = none) (hk : meth.locks = false) {b : Bool} {S' : mT} {v1 : Int64} {S : mT} (hf : fX12_want v1 S = some S') (ok : Bool) : mW p l e (mR 3) s m args below meth c G 3 233 54500 (mQ below G args s b S' none) (ok, 0, [.ref (187), .long v1, .retAddr 0], [], mk b S) := by
  unfold fX12_want at hf
  obtain ⟨hok, hf⟩ := grd_ex hf
  refine msegT C kX12_want 0 3 (g := ((kO 187 12 && true), (if (S.1 187 2) ≤ 0 then 8 else 7), [.ref (187), .long v1, .retAddr 0], [], mk b S)) rfl hok ?_
  by_cases hc : (S.1 187 2) ≤ 0
  · rw [if_pos hc] at hf ⊢
    refine msegT C kX12_want 4 2 (g := (true, 10, [.ref (187), .long v1, .retAddr 0], [.long v1, .ref (187)], mk b S)) rfl rfl ?_
    obtain ⟨x2, S1, hq, hf⟩ := bndC_ex hf
    refine mcall (kd := 0) (vs := [.ref (187), .long v1]) (rest := []) (r := (some (.int x2))) (h' := mk b S1) (ok' := true) C lkRX12_229 (qX12_isWord hq) (kX12_want _ (List.mem_of_getElem? (i := 6) rfl)).1 ⟨_, _, rfl, rfl, Nat.le_of_ble_eq_true rfl, _, _, rfl, rfl, rfl⟩ (Nat.le_of_ble_eq_true rfl) (Nat.le_of_ble_eq_true rfl) (Nat.le_refl _) (Nat.le_refl _) (Nat.le_of_ble_eq_true rfl) ?_
    refine msegT C kX12_want 7 1 (g := (true, (if x2 = 0 then 16 else 24), [.ref (187), .long v1, .retAddr 0], [], mk b S1)) rfl rfl ?_
    by_cases hc : x2 = 0
    · rw [if_pos hc] at hf ⊢
      refine msegT C kX12_want 8 2 (g := (true, 18, [.ref (187), .long v1, .retAddr 0], [.int (2 : Int32), .ref (187)], mk b S1)) rfl rfl ?_
      obtain ⟨S3, hq, hf⟩ := bndV_ex hf
      refine mcall (kd := 0) (vs := [.ref (187), .int (2 : Int32)]) (rest := []) (r := none) (h' := mk b S3) (ok' := true) C lkRX12_233 (qX12_wrong hq) (kX12_want _ (List.mem_of_getElem? (i := 10) rfl)).1 ⟨_, _, rfl, rfl, Nat.le_of_ble_eq_true rfl, _, _, rfl, rfl, rfl⟩ (Nat.le_of_ble_eq_true rfl) (Nat.le_of_ble_eq_true rfl) (Nat.le_refl _) (Nat.le_refl _) (Nat.le_of_ble_eq_true rfl) ?_
      refine msegT C kX12_want 11 1 (g := (true, 28, [.ref (187), .long v1, .retAddr 0], [], mk b S3)) rfl rfl ?_
      exact mfor (L' := [.retAddr 0, .retAddr 0, .retAddr 0]) ⟨Or.inl rfl, Or.inl rfl, Or.inl rfl, trivial⟩ (bX12_want_28 C hr hk hf true)
    · rw [if_neg hc] at hf ⊢
      refine msegT C kX12_want 12 1 (g := (true, 25, [.ref (187), .long v1, .retAddr 0], [.ref (187)], mk b S1)) rfl rfl ?_
      obtain ⟨S4, hq, hf⟩ := bndV_ex hf
      refine mcall (kd := 0) (vs := [.ref (187)]) (rest := []) (r := none) (h' := mk b S4) (ok' := true) C lkRX12_236 (qX12_token hq) (kX12_want _ (List.mem_of_getElem? (i := 13) rfl)).1 ⟨_, _, rfl, rfl, Nat.le_of_ble_eq_true rfl, _, _, rfl, rfl, rfl⟩ (Nat.le_of_ble_eq_true rfl) (Nat.le_of_ble_eq_true rfl) (Nat.le_refl _) (Nat.le_refl _) (Nat.le_of_ble_eq_true rfl) ?_
      exact mfor (L' := [.retAddr 0, .retAddr 0, .retAddr 0]) ⟨Or.inl rfl, Or.inl rfl, Or.inl rfl, trivial⟩ (bX12_want_28 C hr hk hf true)
  · rw [if_neg hc] at hf ⊢
    cases hf
    exact gret_v C hr hk (kX12_want _ (List.mem_of_getElem? (i := 3) rfl)).1
theorem qX12_want {b : Bool} {v1 : Int64} {S S' : mT} (hf : fX12_want v1 S = some S') : mOk l mX12_want 3 [.ref (187), .long v1] b S none S' :=
  gMet (by decide) (Nat.le_of_ble_eq_true rfl) rfl (Nat.le_of_ble_eq_true rfl) (fun p e s m args below meth c G C hr hk => bX12_want_0 C hr hk hf true)
theorem bX12_told_0 (C : mCx p (mR 4) s m args meth c G cX12_told RX12 5 false 233 54500 233 54500) (hr : meth.sig.returnType = (some .int)) (hk : meth.locks = false) {b : Bool} {S' : mT} {r : Int32} {v1 : Int64} {v3 : Int32} {v4 : Int32} {S : mT} (hf : fX12_told v1 v3 v4 S = some (r, S')) (ok : Bool) : mW p l e (mR 4) s m args below meth c G 5 233 54500 (mQ below G args s b S' (some (.int r))) (ok, 0, [.ref (187), .long v1, .retAddr 0, .int v3, .int v4], [], mk b S) := by
  unfold fX12_told at hf
  refine msegT C kX12_told 0 2 (g := (true, 2, [.ref (187), .long v1, .retAddr 0, .int v3, .int v4], [.long v1, .ref (187)], mk b S)) rfl rfl ?_
  obtain ⟨S1, hq, hf⟩ := bndV_ex hf
  refine mcall (kd := 0) (vs := [.ref (187), .long v1]) (rest := []) (r := none) (h' := mk b S1) (ok' := true) C lkRX12_239 (qX12_want hq) (kX12_told _ (List.mem_of_getElem? (i := 2) rfl)).1 ⟨_, _, rfl, rfl, Nat.le_of_ble_eq_true rfl, _, _, rfl, rfl, rfl⟩ (Nat.le_of_ble_eq_true rfl) (Nat.le_of_ble_eq_true rfl) (Nat.le_refl _) (Nat.le_refl _) (Nat.le_of_ble_eq_true rfl) ?_
  refine msegT C kX12_told 3 3 (g := (true, 9, [.ref (187), .long v1, .retAddr 0, .int v3, .int v4], [.int v4, .int v3, .ref (187)], mk b S1)) rfl rfl ?_
  obtain ⟨x3, S2, hq, hf⟩ := bndC_ex hf
  refine mcall (kd := 0) (vs := [.ref (187), .int v3, .int v4]) (rest := []) (r := (some (.int x3))) (h' := mk b S2) (ok' := true) C lkRX12_243 (qX12_toldNumber hq) (kX12_told _ (List.mem_of_getElem? (i := 6) rfl)).1 ⟨_, _, rfl, rfl, Nat.le_of_ble_eq_true rfl, _, _, rfl, rfl, rfl⟩ (Nat.le_of_ble_eq_true rfl) (Nat.le_of_ble_eq_true rfl) (Nat.le_refl _) (Nat.le_refl _) (Nat.le_of_ble_eq_true rfl) ?_
  cases hf
  exact gret_i C hr hk (kX12_told _ (List.mem_of_getElem? (i := 7) rfl)).1
theorem qX12_told {b : Bool} {v1 : Int64} {v3 : Int32} {v4 : Int32} {S S' : mT} {r : Int32} (hf : fX12_told v1 v3 v4 S = some (r, S')) : mOk l mX12_told 4 [.ref (187), .long v1, .int v3, .int v4] b S (some (.int r)) S' :=
  gMet (by decide) (Nat.le_of_ble_eq_true rfl) rfl (Nat.le_of_ble_eq_true rfl) (fun p e s m args below meth c G C hr hk => bX12_told_0 C hr hk hf true)
theorem bX12_option_27 (C : mCx p (mR 5) s m args meth c G cX12_option RX12 3 false 233 54500 233 54500) (hr : meth.sig.returnType = (some .int)) (hk : meth.locks = false) {b : Bool} {S' : mT} {r : Int32} {s0 : Int32} {S : mT} (hf : fX12_option_27 s0 S = some (r, S')) (ok : Bool) : mW p l e (mR 5) s m args below meth c G 3 233 54500 (mQ below G args s b S' (some (.int r))) (ok, 27, [.retAddr 0, .retAddr 0, .retAddr 0], [.int s0], mk b S) := by
  unfold fX12_option_27 at hf
  cases hf
  exact gret_i C hr hk (kX12_option _ (List.mem_of_getElem? (i := 14) rfl)).1
theorem bX12_option_26 (C : mCx p (mR 5) s m args meth c G cX12_option RX12 3 false 233 54500 233 54500) (hr : meth.sig.returnType = (some .int)) (hk : meth.locks = false) {b : Bool} {S' : mT} {r : Int32} {S : mT} (hf : fX12_option_26 S = some (r, S')) (ok : Bool) : mW p l e (mR 5) s m args below meth c G 3 233 54500 (mQ below G args s b S' (some (.int r))) (ok, 26, [.retAddr 0, .retAddr 0, .retAddr 0], [], mk b S) := by
  unfold fX12_option_26 at hf
  refine msegT C kX12_option 13 1 (g := (true, 27, [.retAddr 0, .retAddr 0, .retAddr 0], [.int (0 : Int32)], mk b S)) rfl rfl ?_
  exact mfor (L' := [.retAddr 0, .retAddr 0, .retAddr 0]) ⟨Or.inl rfl, Or.inl rfl, Or.inl rfl, trivial⟩ (bX12_option_27 C hr hk hf true)
theorem bX12_option_0 (C : mCx p (mR 5) s m args meth c G cX12_option RX12 3 false 233 54500 233 54500) (hr : meth.sig.returnType = (some .int)) (hk : meth.locks = false) {b : Bool} {S' : mT} {r : Int32} {v1 : Int64} {S : mT} (hf : fX12_option v1 S = some (r, S')) (ok : Bool) : mW p l e (mR 5) s m args below meth c G 3 233 54500 (mQ below G args s b S' (some (.int r))) (ok, 0, [.ref (187), .long v1, .retAddr 0], [], mk b S) := by
  unfold fX12_option at hf
  obtain ⟨hok, hf⟩ := grd_ex hf
  refine msegT C kX12_option 0 3 (g := ((kO 187 12 && true), (if (S.1 187 2) = 0 then 7 else 26), [.ref (187), .long v1, .retAddr 0], [], mk b S)) rfl hok ?_
  by_cases hc : (S.1 187 2) = 0
  · rw [if_pos hc] at hf ⊢
    refine msegT C kX12_option 3 2 (g := (true, 9, [.ref (187), .long v1, .retAddr 0], [.long v1, .ref (187)], mk b S)) rfl rfl ?_
    obtain ⟨x2, S1, hq, hf⟩ := bndC_ex hf
    refine mcall (kd := 0) (vs := [.ref (187), .long v1]) (rest := []) (r := (some (.int x2))) (h' := mk b S1) (ok' := true) C lkRX12_229 (qX12_isWord hq) (kX12_option _ (List.mem_of_getElem? (i := 5) rfl)).1 ⟨_, _, rfl, rfl, Nat.le_of_ble_eq_true rfl, _, _, rfl, rfl, rfl⟩ (Nat.le_of_ble_eq_true rfl) (Nat.le_of_ble_eq_true rfl) (Nat.le_refl _) (Nat.le_refl _) (Nat.le_of_ble_eq_true rfl) ?_
    refine msegT C kX12_option 6 1 (g := (true, (if x2 = 0 then 26 else 15), [.ref (187), .long v1, .retAddr 0], [], mk b S1)) rfl rfl ?_
    by_cases hc : x2 = 0
    · rw [if_pos hc] at hf ⊢
      exact mfor (L' := [.retAddr 0, .retAddr 0, .retAddr 0]) ⟨Or.inl rfl, Or.inl rfl, Or.inl rfl, trivial⟩ (bX12_option_26 C hr hk hf true)
    · rw [if_neg hc] at hf ⊢
      refine msegT C kX12_option 7 4 (g := (true, 20, [.ref (187), .long v1, .retAddr 0], [.int (9 : Int32), .int (0 : Int32), .long v1, .ref (187)], mk b S1)) rfl rfl ?_
      obtain ⟨x4, S3, hq, hf⟩ := bndC_ex hf
      refine mcall (kd := 0) (vs := [.ref (187), .long v1, .int (0 : Int32), .int (9 : Int32)]) (rest := []) (r := (some (.int x4))) (h' := mk b S3) (ok' := true) C lkRX12_247 (qX12_told hq) (kX12_option _ (List.mem_of_getElem? (i := 11) rfl)).1 ⟨_, _, rfl, rfl, Nat.le_of_ble_eq_true rfl, _, _, rfl, rfl, rfl⟩ (Nat.le_of_ble_eq_true rfl) (Nat.le_of_ble_eq_true rfl) (Nat.le_refl _) (Nat.le_refl _) (Nat.le_of_ble_eq_true rfl) ?_
      refine msegT C kX12_option 12 1 (g := (true, 27, [.ref (187), .long v1, .retAddr 0], [.int x4], mk b S3)) rfl rfl ?_
      exact mfor (L' := [.retAddr 0, .retAddr 0, .retAddr 0]) ⟨Or.inl rfl, Or.inl rfl, Or.inl rfl, trivial⟩ (bX12_option_27 C hr hk hf true)
  · rw [if_neg hc] at hf ⊢
    exact mfor (L' := [.retAddr 0, .retAddr 0, .retAddr 0]) ⟨Or.inl rfl, Or.inl rfl, Or.inl rfl, trivial⟩ (bX12_option_26 C hr hk hf true)
theorem qX12_option {b : Bool} {v1 : Int64} {S S' : mT} {r : Int32} (hf : fX12_option v1 S = some (r, S')) : mOk l mX12_option 5 [.ref (187), .long v1] b S (some (.int r)) S' :=
  gMet (by decide) (Nat.le_of_ble_eq_true rfl) rfl (Nat.le_of_ble_eq_true rfl) (fun p e s m args below meth c G C hr hk => bX12_option_0 C hr hk hf true)
theorem bX12_readHouse_133 (C : mCx p (mR 6) s m args meth c G cX12_readHouse RX12 2 false 233 54500 233 54500) (hr : meth.sig.returnType = none) (hk : meth.locks = false) {b : Bool} {S' : mT} {S : mT} (hf : fX12_readHouse_133 S = some S') (ok : Bool) : mW p l e (mR 6) s m args below meth c G 2 233 54500 (mQ below G args s b S' none) (ok, 133, [.retAddr 0, .retAddr 0], [], mk b S) := by
  unfold fX12_readHouse_133 at hf
  cases hf
  exact gret_v C hr hk (kX12_readHouse _ (List.mem_of_getElem? (i := 71) rfl)).1
theorem bX12_readHouse_31 (C : mCx p (mR 6) s m args meth c G cX12_readHouse RX12 2 false 233 54500 233 54500) (hr : meth.sig.returnType = none) (hk : meth.locks = false) {b : Bool} {S' : mT} {S : mT} (hf : fX12_readHouse_31 S = some S') (ok : Bool) : mW p l e (mR 6) s m args below meth c G 2 233 54500 (mQ below G args s b S' none) (ok, 31, [.ref (187), .retAddr 0], [], mk b S) := by
  unfold fX12_readHouse_31 at hf
  obtain ⟨hok, hf⟩ := grd_ex hf
  refine msegT C kX12_readHouse 15 3 (g := ((kO 187 12 && true), (if (S.1 187 2) ≤ 0 then 39 else 38), [.ref (187), .retAddr 0], [], mk b S)) rfl hok ?_
  by_cases hc : (S.1 187 2) ≤ 0
  · rw [if_pos hc] at hf ⊢
    obtain ⟨hok, hf⟩ := grd_ex hf
    refine msegT C kX12_readHouse 19 3 (g := ((kO 187 12 && true), 44, [.ref (187), .int (S.1 187 35)], [], mk b S)) rfl hok ?_
    obtain ⟨x8, ex8, hf⟩ := bnd_ex hf
    rw [← ex8]
    obtain ⟨hok, hf⟩ := grd_ex hf
    refine msegT C kX12_readHouse 22 6 (g := ((kJ 189 x8 && (kO 187 12 && (kO 187 12 && true))), 54, [.ref (187), .int x8], [], mk b (sJ S 189 (mIx x8) (S.2 187 9)))) rfl hok ?_
    obtain ⟨S9, eS9, hf⟩ := bnd_ex hf
    rw [← eS9]
    refine msegT C kX12_readHouse 28 1 (g := (true, 55, [.ref (187), .int x8], [.ref (187)], mk b S9)) rfl rfl ?_
    obtain ⟨S10, hq, hf⟩ := bndV_ex hf
    refine mcall (kd := 0) (vs := [.ref (187)]) (rest := []) (r := none) (h' := mk b S10) (ok' := true) C lkRX12_236 (qX12_token hq) (kX12_readHouse _ (List.mem_of_getElem? (i := 29) rfl)).1 ⟨_, _, rfl, rfl, Nat.le_of_ble_eq_true rfl, _, _, rfl, rfl, rfl⟩ (Nat.le_of_ble_eq_true rfl) (Nat.le_of_ble_eq_true rfl) (Nat.le_refl _) (Nat.le_refl _) (Nat.le_of_ble_eq_true rfl) ?_
    obtain ⟨hok, hf⟩ := grd_ex hf
    refine msegT C kX12_readHouse 30 7 (g := ((kO 187 12 && true), 70, [.ref (187), .int x8], [.int (60 : Int32), .int (0 : Int32), .long (24948 : Int64), .ref (187), .int x8, .ref 201], mk b S10)) rfl hok ?_
    obtain ⟨x12, S11, hq, hf⟩ := bndC_ex hf
    refine mcall (kd := 0) (vs := [.ref (187), .long (24948 : Int64), .int (0 : Int32), .int (60 : Int32)]) (rest := [.int x8, .ref 201]) (r := (some (.int x12))) (h' := mk b S11) (ok' := true) C lkRX12_247 (qX12_told hq) (kX12_readHouse _ (List.mem_of_getElem? (i := 37) rfl)).1 ⟨_, _, rfl, rfl, Nat.le_of_ble_eq_true rfl, _, _, rfl, rfl, rfl⟩ (Nat.le_of_ble_eq_true rfl) (Nat.le_of_ble_eq_true rfl) (Nat.le_refl _) (Nat.le_refl _) (Nat.le_of_ble_eq_true rfl) ?_
    obtain ⟨hok, hf⟩ := grd_ex hf
    refine msegT C kX12_readHouse 38 1 (g := ((kI 201 x8 && true), 74, [.ref (187), .int x8], [], mk b (sI S11 201 (mIx x8) x12))) rfl hok ?_
    obtain ⟨S13, eS13, hf⟩ := bnd_ex hf
    rw [← eS13]
    obtain ⟨hok, hf⟩ := grd_ex hf
    refine msegT C kX12_readHouse 39 7 (g := ((kO 187 12 && true), 86, [.ref (187), .int x8], [.int (7 : Int32), .int (0 : Int32), .long (448377480307 : Int64), .ref (187), .int x8, .ref 202], mk b S13)) rfl hok ?_
    obtain ⟨x15, S14, hq, hf⟩ := bndC_ex hf
    refine mcall (kd := 0) (vs := [.ref (187), .long (448377480307 : Int64), .int (0 : Int32), .int (7 : Int32)]) (rest := [.int x8, .ref 202]) (r := (some (.int x15))) (h' := mk b S14) (ok' := true) C lkRX12_247 (qX12_told hq) (kX12_readHouse _ (List.mem_of_getElem? (i := 46) rfl)).1 ⟨_, _, rfl, rfl, Nat.le_of_ble_eq_true rfl, _, _, rfl, rfl, rfl⟩ (Nat.le_of_ble_eq_true rfl) (Nat.le_of_ble_eq_true rfl) (Nat.le_refl _) (Nat.le_refl _) (Nat.le_of_ble_eq_true rfl) ?_
    obtain ⟨hok, hf⟩ := grd_ex hf
    refine msegT C kX12_readHouse 47 1 (g := ((kI 202 x8 && true), 90, [.ref (187), .int x8], [], mk b (sI S14 202 (mIx x8) x15))) rfl hok ?_
    obtain ⟨S16, eS16, hf⟩ := bnd_ex hf
    rw [← eS16]
    obtain ⟨hok, hf⟩ := grd_ex hf
    refine msegT C kX12_readHouse 48 5 (g := ((kO 187 12 && true), 99, [.ref (187), .int x8], [.long (6971757 : Int64), .ref (187), .int x8, .ref 203], mk b S16)) rfl hok ?_
    obtain ⟨x18, S17, hq, hf⟩ := bndC_ex hf
    refine mcall (kd := 0) (vs := [.ref (187), .long (6971757 : Int64)]) (rest := [.int x8, .ref 203]) (r := (some (.int x18))) (h' := mk b S17) (ok' := true) C lkRX12_321 (qX12_option hq) (kX12_readHouse _ (List.mem_of_getElem? (i := 53) rfl)).1 ⟨_, _, rfl, rfl, Nat.le_of_ble_eq_true rfl, _, _, rfl, rfl, rfl⟩ (Nat.le_of_ble_eq_true rfl) (Nat.le_of_ble_eq_true rfl) (Nat.le_refl _) (Nat.le_refl _) (Nat.le_of_ble_eq_true rfl) ?_
    obtain ⟨hok, hf⟩ := grd_ex hf
    refine msegT C kX12_readHouse 54 1 (g := ((kI 203 x8 && true), 103, [.ref (187), .int x8], [], mk b (sI S17 203 (mIx x8) x18))) rfl hok ?_
    obtain ⟨S19, eS19, hf⟩ := bnd_ex hf
    rw [← eS19]
    obtain ⟨hok, hf⟩ := grd_ex hf
    refine msegT C kX12_readHouse 55 5 (g := ((kO 187 12 && true), 112, [.ref (187), .int x8], [.long (448310438260 : Int64), .ref (187), .int x8, .ref 204], mk b S19)) rfl hok ?_
    obtain ⟨x21, S20, hq, hf⟩ := bndC_ex hf
    refine mcall (kd := 0) (vs := [.ref (187), .long (448310438260 : Int64)]) (rest := [.int x8, .ref 204]) (r := (some (.int x21))) (h' := mk b S20) (ok' := true) C lkRX12_321 (qX12_option hq) (kX12_readHouse _ (List.mem_of_getElem? (i := 60) rfl)).1 ⟨_, _, rfl, rfl, Nat.le_of_ble_eq_true rfl, _, _, rfl, rfl, rfl⟩ (Nat.le_of_ble_eq_true rfl) (Nat.le_of_ble_eq_true rfl) (Nat.le_refl _) (Nat.le_refl _) (Nat.le_of_ble_eq_true rfl) ?_
    obtain ⟨hok, hf⟩ := grd_ex hf
    refine msegT C kX12_readHouse 61 1 (g := ((kI 204 x8 && true), 116, [.ref (187), .int x8], [], mk b (sI S20 204 (mIx x8) x21))) rfl hok ?_
    obtain ⟨S22, eS22, hf⟩ := bnd_ex hf
    rw [← eS22]
    obtain ⟨hok, hf⟩ := grd_ex hf
    refine msegT C kX12_readHouse 62 3 (g := ((kO 187 12 && true), (if (S22.1 187 2) = 0 then 123 else 133), [.ref (187), .int x8], [], mk b S22)) rfl hok ?_
    by_cases hc : (S22.1 187 2) = 0
    · rw [if_pos hc] at hf ⊢
      obtain ⟨hok, hf⟩ := grd_ex hf
      refine msegT C kX12_readHouse 65 6 (g := ((kO 187 12 && (kO 187 12 && true)), 133, [.ref (187), .int x8], [], mk b (sI S22 187 35 ((S22.1 187 35) + (1 : Int32))))) rfl hok ?_
      obtain ⟨S23, eS23, hf⟩ := bnd_ex hf
      rw [← eS23]
      exact mfor (L' := [.retAddr 0, .retAddr 0]) ⟨Or.inl rfl, Or.inl rfl, trivial⟩ (bX12_readHouse_133 C hr hk hf true)
    · rw [if_neg hc] at hf ⊢
      exact mfor (L' := [.retAddr 0, .retAddr 0]) ⟨Or.inl rfl, Or.inl rfl, trivial⟩ (bX12_readHouse_133 C hr hk hf true)
  · rw [if_neg hc] at hf ⊢
    cases hf
    exact gret_v C hr hk (kX12_readHouse _ (List.mem_of_getElem? (i := 18) rfl)).1
theorem bX12_readHouse_0 (C : mCx p (mR 6) s m args meth c G cX12_readHouse RX12 2 false 233 54500 233 54500) (hr : meth.sig.returnType = none) (hk : meth.locks = false) {b : Bool} {S' : mT} {S : mT} (hf : fX12_readHouse S = some S') (ok : Bool) : mW p l e (mR 6) s m args below meth c G 2 233 54500 (mQ below G args s b S' none) (ok, 0, [.ref (187), .retAddr 0], [], mk b S) := by
  unfold fX12_readHouse at hf
  refine msegT C kX12_readHouse 0 1 (g := (true, 1, [.ref (187), .retAddr 0], [.ref (187)], mk b S)) rfl rfl ?_
  obtain ⟨S1, hq, hf⟩ := bndV_ex hf
  refine mcall (kd := 0) (vs := [.ref (187)]) (rest := []) (r := none) (h' := mk b S1) (ok' := true) C lkRX12_236 (qX12_token hq) (kX12_readHouse _ (List.mem_of_getElem? (i := 1) rfl)).1 ⟨_, _, rfl, rfl, Nat.le_of_ble_eq_true rfl, _, _, rfl, rfl, rfl⟩ (Nat.le_of_ble_eq_true rfl) (Nat.le_of_ble_eq_true rfl) (Nat.le_refl _) (Nat.le_refl _) (Nat.le_of_ble_eq_true rfl) ?_
  refine msegT C kX12_readHouse 2 1 (g := (true, 5, [.ref (187), .retAddr 0], [.ref (187)], mk b S1)) rfl rfl ?_
  obtain ⟨x3, S2, hq, hf⟩ := bndC_ex hf
  refine mcall (kd := 0) (vs := [.ref (187)]) (rest := []) (r := (some (.int x3))) (h' := mk b S2) (ok' := true) C lkRX12_315 (qX12_isName hq) (kX12_readHouse _ (List.mem_of_getElem? (i := 3) rfl)).1 ⟨_, _, rfl, rfl, Nat.le_of_ble_eq_true rfl, _, _, rfl, rfl, rfl⟩ (Nat.le_of_ble_eq_true rfl) (Nat.le_of_ble_eq_true rfl) (Nat.le_refl _) (Nat.le_refl _) (Nat.le_of_ble_eq_true rfl) ?_
  refine msegT C kX12_readHouse 4 1 (g := (true, (if x3 = 0 then 11 else 19), [.ref (187), .retAddr 0], [], mk b S2)) rfl rfl ?_
  by_cases hc : x3 = 0
  · rw [if_pos hc] at hf ⊢
    refine msegT C kX12_readHouse 5 2 (g := (true, 13, [.ref (187), .retAddr 0], [.int (2 : Int32), .ref (187)], mk b S2)) rfl rfl ?_
    obtain ⟨S4, hq, hf⟩ := bndV_ex hf
    refine mcall (kd := 0) (vs := [.ref (187), .int (2 : Int32)]) (rest := []) (r := none) (h' := mk b S4) (ok' := true) C lkRX12_233 (qX12_wrong hq) (kX12_readHouse _ (List.mem_of_getElem? (i := 7) rfl)).1 ⟨_, _, rfl, rfl, Nat.le_of_ble_eq_true rfl, _, _, rfl, rfl, rfl⟩ (Nat.le_of_ble_eq_true rfl) (Nat.le_of_ble_eq_true rfl) (Nat.le_refl _) (Nat.le_refl _) (Nat.le_of_ble_eq_true rfl) ?_
    refine msegT C kX12_readHouse 8 1 (g := (true, 31, [.ref (187), .retAddr 0], [], mk b S4)) rfl rfl ?_
    exact mfor (L' := [.ref (187), .retAddr 0]) ⟨Or.inr rfl, Or.inl rfl, trivial⟩ (bX12_readHouse_31 C hr hk hf true)
  · rw [if_neg hc] at hf ⊢
    refine msegT C kX12_readHouse 9 1 (g := (true, 20, [.ref (187), .retAddr 0], [.ref (187)], mk b S2)) rfl rfl ?_
    obtain ⟨x6, S5, hq, hf⟩ := bndC_ex hf
    refine mcall (kd := 0) (vs := [.ref (187)]) (rest := []) (r := (some (.int x6))) (h' := mk b S5) (ok' := true) C lkRX12_318 (qX12_find hq) (kX12_readHouse _ (List.mem_of_getElem? (i := 10) rfl)).1 ⟨_, _, rfl, rfl, Nat.le_of_ble_eq_true rfl, _, _, rfl, rfl, rfl⟩ (Nat.le_of_ble_eq_true rfl) (Nat.le_of_ble_eq_true rfl) (Nat.le_refl _) (Nat.le_refl _) (Nat.le_of_ble_eq_true rfl) ?_
    refine msegT C kX12_readHouse 11 1 (g := (true, (if x6 < 0 then 31 else 26), [.ref (187), .retAddr 0], [], mk b S5)) rfl rfl ?_
    by_cases hc : x6 < 0
    · rw [if_pos hc] at hf ⊢
      exact mfor (L' := [.ref (187), .retAddr 0]) ⟨Or.inr rfl, Or.inl rfl, trivial⟩ (bX12_readHouse_31 C hr hk hf true)
    · rw [if_neg hc] at hf ⊢
      refine msegT C kX12_readHouse 12 2 (g := (true, 28, [.ref (187), .retAddr 0], [.int (3 : Int32), .ref (187)], mk b S5)) rfl rfl ?_
      obtain ⟨S7, hq, hf⟩ := bndV_ex hf
      refine mcall (kd := 0) (vs := [.ref (187), .int (3 : Int32)]) (rest := []) (r := none) (h' := mk b S7) (ok' := true) C lkRX12_233 (qX12_wrong hq) (kX12_readHouse _ (List.mem_of_getElem? (i := 14) rfl)).1 ⟨_, _, rfl, rfl, Nat.le_of_ble_eq_true rfl, _, _, rfl, rfl, rfl⟩ (Nat.le_of_ble_eq_true rfl) (Nat.le_of_ble_eq_true rfl) (Nat.le_refl _) (Nat.le_refl _) (Nat.le_of_ble_eq_true rfl) ?_
      exact mfor (L' := [.ref (187), .retAddr 0]) ⟨Or.inr rfl, Or.inl rfl, trivial⟩ (bX12_readHouse_31 C hr hk hf true)
theorem qX12_readHouse {b : Bool} {S S' : mT} (hf : fX12_readHouse S = some S') : mOk l mX12_readHouse 6 [.ref (187)] b S none S' :=
  gMet (by decide) (Nat.le_of_ble_eq_true rfl) rfl (Nat.le_of_ble_eq_true rfl) (fun p e s m args below meth c G C hr hk => bX12_readHouse_0 C hr hk hf true)
theorem bX12_readLine_183 (C : mCx p (mR 7) s m args meth c G cX12_readLine RX12 1 false 233 54500 233 54500) (hr : meth.sig.returnType = none) (hk : meth.locks = false) {b : Bool} {S' : mT} {S : mT} (hf : fX12_readLine_183 S = some S') (ok : Bool) : mW p l e (mR 7) s m args below meth c G 1 233 54500 (mQ below G args s b S' none) (ok, 183, [.retAddr 0], [], mk b S) := by
  unfold fX12_readLine_183 at hf
  cases hf
  exact gret_v C hr hk (kX12_readLine _ (List.mem_of_getElem? (i := 86) rfl)).1
theorem bX12_readLine_172 (C : mCx p (mR 7) s m args meth c G cX12_readLine RX12 1 false 233 54500 233 54500) (hr : meth.sig.returnType = none) (hk : meth.locks = false) {b : Bool} {S' : mT} {S : mT} (hf : fX12_readLine_172 S = some S') (ok : Bool) : mW p l e (mR 7) s m args below meth c G 1 233 54500 (mQ below G args s b S' none) (ok, 172, [.ref (187)], [], mk b S) := by
  unfold fX12_readLine_172 at hf
  obtain ⟨hok, hf⟩ := grd_ex hf
  refine msegT C kX12_readLine 81 3 (g := ((kO 187 12 && true), (if (S.1 187 2) = 0 then 179 else 183), [.ref (187)], [], mk b S)) rfl hok ?_
  by_cases hc : (S.1 187 2) = 0
  · rw [if_pos hc] at hf ⊢
    refine msegT C kX12_readLine 84 1 (g := (true, 180, [.ref (187)], [.ref (187)], mk b S)) rfl rfl ?_
    obtain ⟨S11, hq, hf⟩ := bndV_ex hf
    refine mcall (kd := 0) (vs := [.ref (187)]) (rest := []) (r := none) (h' := mk b S11) (ok' := true) C lkRX12_236 (qX12_token hq) (kX12_readLine _ (List.mem_of_getElem? (i := 85) rfl)).1 ⟨_, _, rfl, rfl, Nat.le_of_ble_eq_true rfl, _, _, rfl, rfl, rfl⟩ (Nat.le_of_ble_eq_true rfl) (Nat.le_of_ble_eq_true rfl) (Nat.le_refl _) (Nat.le_refl _) (Nat.le_of_ble_eq_true rfl) ?_
    exact mfor (L' := [.retAddr 0]) ⟨Or.inl rfl, trivial⟩ (bX12_readLine_183 C hr hk hf true)
  · rw [if_neg hc] at hf ⊢
    exact mfor (L' := [.retAddr 0]) ⟨Or.inl rfl, trivial⟩ (bX12_readLine_183 C hr hk hf true)
theorem bX12_readLine_151 (C : mCx p (mR 7) s m args meth c G cX12_readLine RX12 1 false 233 54500 233 54500) (hr : meth.sig.returnType = none) (hk : meth.locks = false) {b : Bool} {S' : mT} {S : mT} (hf : fX12_readLine_151 S = some S') (ok : Bool) : mW p l e (mR 7) s m args below meth c G 1 233 54500 (mQ below G args s b S' none) (ok, 151, [.ref (187)], [], mk b S) := by
  unfold fX12_readLine_151 at hf
  obtain ⟨hok, hf⟩ := grd_ex hf
  refine msegT C kX12_readLine 71 3 (g := ((kO 187 12 && true), (if (S.1 187 2) = 0 then 158 else 172), [.ref (187)], [], mk b S)) rfl hok ?_
  by_cases hc : (S.1 187 2) = 0
  · rw [if_pos hc] at hf ⊢
    obtain ⟨hok, hf⟩ := grd_ex hf
    refine msegT C kX12_readLine 74 4 (g := ((kO 187 12 && true), (if (S.1 187 6) = (59 : Int32) then 172 else 167), [.ref (187)], [], mk b S)) rfl hok ?_
    by_cases hc : (S.1 187 6) = (59 : Int32)
    · rw [if_pos hc] at hf ⊢
      exact mfor (L' := [.ref (187)]) ⟨Or.inr rfl, trivial⟩ (bX12_readLine_172 C hr hk hf true)
    · rw [if_neg hc] at hf ⊢
      refine msegT C kX12_readLine 78 2 (g := (true, 169, [.ref (187)], [.int (2 : Int32), .ref (187)], mk b S)) rfl rfl ?_
      obtain ⟨S7, hq, hf⟩ := bndV_ex hf
      refine mcall (kd := 0) (vs := [.ref (187), .int (2 : Int32)]) (rest := []) (r := none) (h' := mk b S7) (ok' := true) C lkRX12_233 (qX12_wrong hq) (kX12_readLine _ (List.mem_of_getElem? (i := 80) rfl)).1 ⟨_, _, rfl, rfl, Nat.le_of_ble_eq_true rfl, _, _, rfl, rfl, rfl⟩ (Nat.le_of_ble_eq_true rfl) (Nat.le_of_ble_eq_true rfl) (Nat.le_refl _) (Nat.le_refl _) (Nat.le_of_ble_eq_true rfl) ?_
      exact mfor (L' := [.ref (187)]) ⟨Or.inr rfl, trivial⟩ (bX12_readLine_172 C hr hk hf true)
  · rw [if_neg hc] at hf ⊢
    exact mfor (L' := [.ref (187)]) ⟨Or.inr rfl, trivial⟩ (bX12_readLine_172 C hr hk hf true)
theorem bX12_readLine_146 (C : mCx p (mR 7) s m args meth c G cX12_readLine RX12 1 false 233 54500 233 54500) (hr : meth.sig.returnType = none) (hk : meth.locks = false) {b : Bool} {S' : mT} {S : mT} (hf : fX12_readLine_146 S = some S') (ok : Bool) : mW p l e (mR 7) s m args below meth c G 1 233 54500 (mQ below G args s b S' none) (ok, 146, [.ref (187)], [], mk b S) := by
  unfold fX12_readLine_146 at hf
  refine msegT C kX12_readLine 68 2 (g := (true, 148, [.ref (187)], [.int (2 : Int32), .ref (187)], mk b S)) rfl rfl ?_
  obtain ⟨S21, hq, hf⟩ := bndV_ex hf
  refine mcall (kd := 0) (vs := [.ref (187), .int (2 : Int32)]) (rest := []) (r := none) (h' := mk b S21) (ok' := true) C lkRX12_233 (qX12_wrong hq) (kX12_readLine _ (List.mem_of_getElem? (i := 70) rfl)).1 ⟨_, _, rfl, rfl, Nat.le_of_ble_eq_true rfl, _, _, rfl, rfl, rfl⟩ (Nat.le_of_ble_eq_true rfl) (Nat.le_of_ble_eq_true rfl) (Nat.le_refl _) (Nat.le_refl _) (Nat.le_of_ble_eq_true rfl) ?_
  exact mfor (L' := [.ref (187)]) ⟨Or.inr rfl, trivial⟩ (bX12_readLine_151 C hr hk hf true)
theorem bX12_readLine_106 (C : mCx p (mR 7) s m args meth c G cX12_readLine RX12 1 false 233 54500 233 54500) (hr : meth.sig.returnType = none) (hk : meth.locks = false) {b : Bool} {S' : mT} {S : mT} (hf : fX12_readLine_106 S = some S') (ok : Bool) : mW p l e (mR 7) s m args below meth c G 1 233 54500 (mQ below G args s b S' none) (ok, 106, [.ref (187)], [], mk b S) := by
  unfold fX12_readLine_106 at hf
  refine msegT C kX12_readLine 50 2 (g := (true, 110, [.ref (187)], [.long (1685217655 : Int64), .ref (187)], mk b S)) rfl rfl ?_
  obtain ⟨x16, S15, hq, hf⟩ := bndC_ex hf
  refine mcall (kd := 0) (vs := [.ref (187), .long (1685217655 : Int64)]) (rest := []) (r := (some (.int x16))) (h' := mk b S15) (ok' := true) C lkRX12_229 (qX12_isWord hq) (kX12_readLine _ (List.mem_of_getElem? (i := 52) rfl)).1 ⟨_, _, rfl, rfl, Nat.le_of_ble_eq_true rfl, _, _, rfl, rfl, rfl⟩ (Nat.le_of_ble_eq_true rfl) (Nat.le_of_ble_eq_true rfl) (Nat.le_refl _) (Nat.le_refl _) (Nat.le_of_ble_eq_true rfl) ?_
  refine msegT C kX12_readLine 53 1 (g := (true, (if x16 = 0 then 146 else 116), [.ref (187)], [], mk b S15)) rfl rfl ?_
  by_cases hc : x16 = 0
  · rw [if_pos hc] at hf ⊢
    exact mfor (L' := [.ref (187)]) ⟨Or.inr rfl, trivial⟩ (bX12_readLine_146 C hr hk hf true)
  · rw [if_neg hc] at hf ⊢
    obtain ⟨hok, hf⟩ := grd_ex hf
    refine msegT C kX12_readLine 54 3 (g := ((kO 187 12 && true), (if (S15.1 187 38) = 0 then 123 else 146), [.ref (187)], [], mk b S15)) rfl hok ?_
    by_cases hc : (S15.1 187 38) = 0
    · rw [if_pos hc] at hf ⊢
      obtain ⟨hok, hf⟩ := grd_ex hf
      refine msegT C kX12_readLine 57 3 (g := ((mFit .boolean (1 : Int32) && (kO 187 12 && true)), 128, [.ref (187)], [], mk b (sI S15 187 38 (1 : Int32)))) rfl hok ?_
      obtain ⟨S17, eS17, hf⟩ := bnd_ex hf
      rw [← eS17]
      refine msegT C kX12_readLine 60 5 (g := (true, 137, [.ref (187)], [.int (999 : Int32), .int (0 : Int32), .long (1685217655 : Int64), .ref (187), .ref (187)], mk b S17)) rfl rfl ?_
      obtain ⟨x19, S18, hq, hf⟩ := bndC_ex hf
      refine mcall (kd := 0) (vs := [.ref (187), .long (1685217655 : Int64), .int (0 : Int32), .int (999 : Int32)]) (rest := [.ref (187)]) (r := (some (.int x19))) (h' := mk b S18) (ok' := true) C lkRX12_247 (qX12_told hq) (kX12_readLine _ (List.mem_of_getElem? (i := 65) rfl)).1 ⟨_, _, rfl, rfl, Nat.le_of_ble_eq_true rfl, _, _, rfl, rfl, rfl⟩ (Nat.le_of_ble_eq_true rfl) (Nat.le_of_ble_eq_true rfl) (Nat.le_refl _) (Nat.le_refl _) (Nat.le_of_ble_eq_true rfl) ?_
      obtain ⟨hok, hf⟩ := grd_ex hf
      refine msegT C kX12_readLine 66 1 (g := ((kO 187 12 && true), 143, [.ref (187)], [], mk b (sI S18 187 36 x19))) rfl hok ?_
      obtain ⟨S20, eS20, hf⟩ := bnd_ex hf
      rw [← eS20]
      refine msegT C kX12_readLine 67 1 (g := (true, 151, [.ref (187)], [], mk b S20)) rfl rfl ?_
      exact mfor (L' := [.ref (187)]) ⟨Or.inr rfl, trivial⟩ (bX12_readLine_151 C hr hk hf true)
    · rw [if_neg hc] at hf ⊢
      exact mfor (L' := [.ref (187)]) ⟨Or.inr rfl, trivial⟩ (bX12_readLine_146 C hr hk hf true)
theorem bX12_readLine_79 (C : mCx p (mR 7) s m args meth c G cX12_readLine RX12 1 false 233 54500 233 54500) (hr : meth.sig.returnType = none) (hk : meth.locks = false) {b : Bool} {S' : mT} {S : mT} (hf : fX12_readLine_79 S = some S') (ok : Bool) : mW p l e (mR 7) s m args below meth c G 1 233 54500 (mQ below G args s b S' none) (ok, 79, [.ref (187)], [], mk b S) := by
  unfold fX12_readLine_79 at hf
  refine msegT C kX12_readLine 37 2 (g := (true, 83, [.ref (187)], [.long (1735552887 : Int64), .ref (187)], mk b S)) rfl rfl ?_
  obtain ⟨x13, S12, hq, hf⟩ := bndC_ex hf
  refine mcall (kd := 0) (vs := [.ref (187), .long (1735552887 : Int64)]) (rest := []) (r := (some (.int x13))) (h' := mk b S12) (ok' := true) C lkRX12_229 (qX12_isWord hq) (kX12_readLine _ (List.mem_of_getElem? (i := 39) rfl)).1 ⟨_, _, rfl, rfl, Nat.le_of_ble_eq_true rfl, _, _, rfl, rfl, rfl⟩ (Nat.le_of_ble_eq_true rfl) (Nat.le_of_ble_eq_true rfl) (Nat.le_refl _) (Nat.le_refl _) (Nat.le_of_ble_eq_true rfl) ?_
  refine msegT C kX12_readLine 40 1 (g := (true, (if x13 = 0 then 106 else 89), [.ref (187)], [], mk b S12)) rfl rfl ?_
  by_cases hc : x13 = 0
  · rw [if_pos hc] at hf ⊢
    exact mfor (L' := [.ref (187)]) ⟨Or.inr rfl, trivial⟩ (bX12_readLine_106 C hr hk hf true)
  · rw [if_neg hc] at hf ⊢
    obtain ⟨hok, hf⟩ := grd_ex hf
    refine msegT C kX12_readLine 41 5 (g := ((kB 198 (2 : Int32) && (kO 187 12 && true)), (if (S12.1 198 (mIx (2 : Int32))) = 0 then 98 else 106), [.ref (187)], [], mk b S12)) rfl hok ?_
    by_cases hc : (S12.1 198 (mIx (2 : Int32))) = 0
    · rw [if_pos hc] at hf ⊢
      refine msegT C kX12_readLine 46 2 (g := (true, 100, [.ref (187)], [.int (2 : Int32), .ref (187)], mk b S12)) rfl rfl ?_
      obtain ⟨S14, hq, hf⟩ := bndV_ex hf
      refine mcall (kd := 0) (vs := [.ref (187), .int (2 : Int32)]) (rest := []) (r := none) (h' := mk b S14) (ok' := true) C lkRX12_328 (qX12_formula hq) (kX12_readLine _ (List.mem_of_getElem? (i := 48) rfl)).1 ⟨_, _, rfl, rfl, Nat.le_of_ble_eq_true rfl, _, _, rfl, rfl, rfl⟩ (Nat.le_of_ble_eq_true rfl) (Nat.le_of_ble_eq_true rfl) (Nat.le_refl _) (Nat.le_refl _) (Nat.le_of_ble_eq_true rfl) ?_
      refine msegT C kX12_readLine 49 1 (g := (true, 151, [.ref (187)], [], mk b S14)) rfl rfl ?_
      exact mfor (L' := [.ref (187)]) ⟨Or.inr rfl, trivial⟩ (bX12_readLine_151 C hr hk hf true)
    · rw [if_neg hc] at hf ⊢
      exact mfor (L' := [.ref (187)]) ⟨Or.inr rfl, trivial⟩ (bX12_readLine_106 C hr hk hf true)
theorem bX12_readLine_52 (C : mCx p (mR 7) s m args meth c G cX12_readLine RX12 1 false 233 54500 233 54500) (hr : meth.sig.returnType = none) (hk : meth.locks = false) {b : Bool} {S' : mT} {S : mT} (hf : fX12_readLine_52 S = some S') (ok : Bool) : mW p l e (mR 7) s m args below meth c G 1 233 54500 (mQ below G args s b S' none) (ok, 52, [.ref (187)], [], mk b S) := by
  unfold fX12_readLine_52 at hf
  refine msegT C kX12_readLine 24 2 (g := (true, 56, [.ref (187)], [.long (7627128 : Int64), .ref (187)], mk b S)) rfl rfl ?_
  obtain ⟨x9, S8, hq, hf⟩ := bndC_ex hf
  refine mcall (kd := 0) (vs := [.ref (187), .long (7627128 : Int64)]) (rest := []) (r := (some (.int x9))) (h' := mk b S8) (ok' := true) C lkRX12_229 (qX12_isWord hq) (kX12_readLine _ (List.mem_of_getElem? (i := 26) rfl)).1 ⟨_, _, rfl, rfl, Nat.le_of_ble_eq_true rfl, _, _, rfl, rfl, rfl⟩ (Nat.le_of_ble_eq_true rfl) (Nat.le_of_ble_eq_true rfl) (Nat.le_refl _) (Nat.le_refl _) (Nat.le_of_ble_eq_true rfl) ?_
  refine msegT C kX12_readLine 27 1 (g := (true, (if x9 = 0 then 79 else 62), [.ref (187)], [], mk b S8)) rfl rfl ?_
  by_cases hc : x9 = 0
  · rw [if_pos hc] at hf ⊢
    exact mfor (L' := [.ref (187)]) ⟨Or.inr rfl, trivial⟩ (bX12_readLine_79 C hr hk hf true)
  · rw [if_neg hc] at hf ⊢
    obtain ⟨hok, hf⟩ := grd_ex hf
    refine msegT C kX12_readLine 28 5 (g := ((kB 198 (1 : Int32) && (kO 187 12 && true)), (if (S8.1 198 (mIx (1 : Int32))) = 0 then 71 else 79), [.ref (187)], [], mk b S8)) rfl hok ?_
    by_cases hc : (S8.1 198 (mIx (1 : Int32))) = 0
    · rw [if_pos hc] at hf ⊢
      refine msegT C kX12_readLine 33 2 (g := (true, 73, [.ref (187)], [.int (1 : Int32), .ref (187)], mk b S8)) rfl rfl ?_
      obtain ⟨S10, hq, hf⟩ := bndV_ex hf
      refine mcall (kd := 0) (vs := [.ref (187), .int (1 : Int32)]) (rest := []) (r := none) (h' := mk b S10) (ok' := true) C lkRX12_328 (qX12_formula hq) (kX12_readLine _ (List.mem_of_getElem? (i := 35) rfl)).1 ⟨_, _, rfl, rfl, Nat.le_of_ble_eq_true rfl, _, _, rfl, rfl, rfl⟩ (Nat.le_of_ble_eq_true rfl) (Nat.le_of_ble_eq_true rfl) (Nat.le_refl _) (Nat.le_refl _) (Nat.le_of_ble_eq_true rfl) ?_
      refine msegT C kX12_readLine 36 1 (g := (true, 151, [.ref (187)], [], mk b S10)) rfl rfl ?_
      exact mfor (L' := [.ref (187)]) ⟨Or.inr rfl, trivial⟩ (bX12_readLine_151 C hr hk hf true)
    · rw [if_neg hc] at hf ⊢
      exact mfor (L' := [.ref (187)]) ⟨Or.inr rfl, trivial⟩ (bX12_readLine_79 C hr hk hf true)
theorem bX12_readLine_25 (C : mCx p (mR 7) s m args meth c G cX12_readLine RX12 1 false 233 54500 233 54500) (hr : meth.sig.returnType = none) (hk : meth.locks = false) {b : Bool} {S' : mT} {S : mT} (hf : fX12_readLine_25 S = some S') (ok : Bool) : mW p l e (mR 7) s m args below meth c G 1 233 54500 (mQ below G args s b S' none) (ok, 25, [.ref (187)], [], mk b S) := by
  unfold fX12_readLine_25 at hf
  refine msegT C kX12_readLine 11 2 (g := (true, 29, [.ref (187)], [.long (1936746868 : Int64), .ref (187)], mk b S)) rfl rfl ?_
  obtain ⟨x5, S4, hq, hf⟩ := bndC_ex hf
  refine mcall (kd := 0) (vs := [.ref (187), .long (1936746868 : Int64)]) (rest := []) (r := (some (.int x5))) (h' := mk b S4) (ok' := true) C lkRX12_229 (qX12_isWord hq) (kX12_readLine _ (List.mem_of_getElem? (i := 13) rfl)).1 ⟨_, _, rfl, rfl, Nat.le_of_ble_eq_true rfl, _, _, rfl, rfl, rfl⟩ (Nat.le_of_ble_eq_true rfl) (Nat.le_of_ble_eq_true rfl) (Nat.le_refl _) (Nat.le_refl _) (Nat.le_of_ble_eq_true rfl) ?_
  refine msegT C kX12_readLine 14 1 (g := (true, (if x5 = 0 then 52 else 35), [.ref (187)], [], mk b S4)) rfl rfl ?_
  by_cases hc : x5 = 0
  · rw [if_pos hc] at hf ⊢
    exact mfor (L' := [.ref (187)]) ⟨Or.inr rfl, trivial⟩ (bX12_readLine_52 C hr hk hf true)
  · rw [if_neg hc] at hf ⊢
    obtain ⟨hok, hf⟩ := grd_ex hf
    refine msegT C kX12_readLine 15 5 (g := ((kB 198 (0 : Int32) && (kO 187 12 && true)), (if (S4.1 198 (mIx (0 : Int32))) = 0 then 44 else 52), [.ref (187)], [], mk b S4)) rfl hok ?_
    by_cases hc : (S4.1 198 (mIx (0 : Int32))) = 0
    · rw [if_pos hc] at hf ⊢
      refine msegT C kX12_readLine 20 2 (g := (true, 46, [.ref (187)], [.int (0 : Int32), .ref (187)], mk b S4)) rfl rfl ?_
      obtain ⟨S6, hq, hf⟩ := bndV_ex hf
      refine mcall (kd := 0) (vs := [.ref (187), .int (0 : Int32)]) (rest := []) (r := none) (h' := mk b S6) (ok' := true) C lkRX12_328 (qX12_formula hq) (kX12_readLine _ (List.mem_of_getElem? (i := 22) rfl)).1 ⟨_, _, rfl, rfl, Nat.le_of_ble_eq_true rfl, _, _, rfl, rfl, rfl⟩ (Nat.le_of_ble_eq_true rfl) (Nat.le_of_ble_eq_true rfl) (Nat.le_refl _) (Nat.le_refl _) (Nat.le_of_ble_eq_true rfl) ?_
      refine msegT C kX12_readLine 23 1 (g := (true, 151, [.ref (187)], [], mk b S6)) rfl rfl ?_
      exact mfor (L' := [.ref (187)]) ⟨Or.inr rfl, trivial⟩ (bX12_readLine_151 C hr hk hf true)
    · rw [if_neg hc] at hf ⊢
      exact mfor (L' := [.ref (187)]) ⟨Or.inr rfl, trivial⟩ (bX12_readLine_52 C hr hk hf true)
theorem bX12_readLine_0 (C : mCx p (mR 7) s m args meth c G cX12_readLine RX12 1 false 233 54500 233 54500) (hr : meth.sig.returnType = none) (hk : meth.locks = false) {b : Bool} {S' : mT} {S : mT} (hf : fX12_readLine S = some S') (ok : Bool) : mW p l e (mR 7) s m args below meth c G 1 233 54500 (mQ below G args s b S' none) (ok, 0, [.ref (187)], [], mk b S) := by
  unfold fX12_readLine at hf
  refine msegT C kX12_readLine 0 2 (g := (true, 4, [.ref (187)], [.long (448546567013 : Int64), .ref (187)], mk b S)) rfl rfl ?_
  obtain ⟨x2, S1, hq, hf⟩ := bndC_ex hf
  refine mcall (kd := 0) (vs := [.ref (187), .long (448546567013 : Int64)]) (rest := []) (r := (some (.int x2))) (h' := mk b S1) (ok' := true) C lkRX12_229 (qX12_isWord hq) (kX12_readLine _ (List.mem_of_getElem? (i := 2) rfl)).1 ⟨_, _, rfl, rfl, Nat.le_of_ble_eq_true rfl, _, _, rfl, rfl, rfl⟩ (Nat.le_of_ble_eq_true rfl) (Nat.le_of_ble_eq_true rfl) (Nat.le_refl _) (Nat.le_refl _) (Nat.le_of_ble_eq_true rfl) ?_
  refine msegT C kX12_readLine 3 1 (g := (true, (if x2 = 0 then 25 else 10), [.ref (187)], [], mk b S1)) rfl rfl ?_
  by_cases hc : x2 = 0
  · rw [if_pos hc] at hf ⊢
    exact mfor (L' := [.ref (187)]) ⟨Or.inr rfl, trivial⟩ (bX12_readLine_25 C hr hk hf true)
  · rw [if_neg hc] at hf ⊢
    obtain ⟨hok, hf⟩ := grd_ex hf
    refine msegT C kX12_readLine 4 4 (g := ((kO 187 12 && true), (if (5 : Int32) ≤ (S1.1 187 35) then 25 else 18), [.ref (187)], [], mk b S1)) rfl hok ?_
    by_cases hc : (5 : Int32) ≤ (S1.1 187 35)
    · rw [if_pos hc] at hf ⊢
      exact mfor (L' := [.ref (187)]) ⟨Or.inr rfl, trivial⟩ (bX12_readLine_25 C hr hk hf true)
    · rw [if_neg hc] at hf ⊢
      refine msegT C kX12_readLine 8 1 (g := (true, 19, [.ref (187)], [.ref (187)], mk b S1)) rfl rfl ?_
      obtain ⟨S3, hq, hf⟩ := bndV_ex hf
      refine mcall (kd := 0) (vs := [.ref (187)]) (rest := []) (r := none) (h' := mk b S3) (ok' := true) C lkRX12_325 (qX12_readHouse hq) (kX12_readLine _ (List.mem_of_getElem? (i := 9) rfl)).1 ⟨_, _, rfl, rfl, Nat.le_of_ble_eq_true rfl, _, _, rfl, rfl, rfl⟩ (Nat.le_of_ble_eq_true rfl) (Nat.le_of_ble_eq_true rfl) (Nat.le_refl _) (Nat.le_refl _) (Nat.le_of_ble_eq_true rfl) ?_
      refine msegT C kX12_readLine 10 1 (g := (true, 151, [.ref (187)], [], mk b S3)) rfl rfl ?_
      exact mfor (L' := [.ref (187)]) ⟨Or.inr rfl, trivial⟩ (bX12_readLine_151 C hr hk hf true)
theorem qX12_readLine {b : Bool} {S S' : mT} (hf : fX12_readLine S = some S') : mOk l mX12_readLine 7 [.ref (187)] b S none S' :=
  gMet (by decide) (Nat.le_of_ble_eq_true rfl) rfl (Nat.le_of_ble_eq_true rfl) (fun p e s m args below meth c G C hr hk => bX12_readLine_0 C hr hk hf true)
theorem bX12_readAll_93 (C : mCx p (mR 8) s m args meth c G cX12_readAll RX12 2 false 233 54500 233 54500) (hr : meth.sig.returnType = none) (hk : meth.locks = false) {b : Bool} {S' : mT} {S : mT} (hf : fX12_readAll_93 S = some S') (ok : Bool) : mW p l e (mR 8) s m args below meth c G 2 233 54500 (mQ below G args s b S' none) (ok, 93, [.retAddr 0, .retAddr 0], [], mk b S) := by
  unfold fX12_readAll_93 at hf
  cases hf
  exact gret_v C hr hk (kX12_readAll _ (List.mem_of_getElem? (i := 51) rfl)).1
theorem bX12_readAll_72 (C : mCx p (mR 8) s m args meth c G cX12_readAll RX12 2 false 233 54500 233 54500) (hr : meth.sig.returnType = none) (hk : meth.locks = false) {b : Bool} {S' : mT} : ∀ (k : Nat) (S : mT), fX12_readAll_72 k S = some S' → ∀ ok : Bool, mW p l e (mR 8) s m args below meth c G 2 233 54500 (mQ below G args s b S' none) (ok, 72, [.ref (187), .retAddr 0], [], mk b S) := by
  intro k
  induction k with
  | zero =>
    intro S hf ok
    cases hf
  | succ k ih =>
    intro S hf ok
    unfold fX12_readAll_72 at hf
    obtain ⟨hok, hf⟩ := grd_ex hf
    refine msegT C kX12_readAll 42 3 (g := ((kO 187 12 && true), (if (S.1 187 2) = 0 then 79 else 93), [.ref (187), .retAddr 0], [], mk b S)) rfl hok ?_
    by_cases hc : (S.1 187 2) = 0
    · rw [if_pos hc] at hf ⊢
      obtain ⟨hok, hf⟩ := grd_ex hf
      refine msegT C kX12_readAll 45 3 (g := ((kO 187 12 && true), (if (S.1 187 6) = 0 then 93 else 86), [.ref (187), .retAddr 0], [], mk b S)) rfl hok ?_
      by_cases hc : (S.1 187 6) = 0
      · rw [if_pos hc] at hf ⊢
        exact mfor (L' := [.retAddr 0, .retAddr 0]) ⟨Or.inl rfl, Or.inl rfl, trivial⟩ (bX12_readAll_93 C hr hk hf true)
      · rw [if_neg hc] at hf ⊢
        refine msegT C kX12_readAll 48 1 (g := (true, 87, [.ref (187), .retAddr 0], [.ref (187)], mk b S)) rfl rfl ?_
        obtain ⟨S13, hq, hf⟩ := bndV_ex hf
        refine mcall (kd := 0) (vs := [.ref (187)]) (rest := []) (r := none) (h' := mk b S13) (ok' := true) C lkRX12_338 (qX12_readLine hq) (kX12_readAll _ (List.mem_of_getElem? (i := 49) rfl)).1 ⟨_, _, rfl, rfl, Nat.le_of_ble_eq_true rfl, _, _, rfl, rfl, rfl⟩ (Nat.le_of_ble_eq_true rfl) (Nat.le_of_ble_eq_true rfl) (Nat.le_refl _) (Nat.le_refl _) (Nat.le_of_ble_eq_true rfl) ?_
        refine msegT C kX12_readAll 50 1 (g := (true, 72, [.ref (187), .retAddr 0], [], mk b S13)) rfl rfl ?_
        exact mfor (L' := [.ref (187), .retAddr 0]) ⟨Or.inr rfl, Or.inl rfl, trivial⟩ (ih _ hf true)
    · rw [if_neg hc] at hf ⊢
      exact mfor (L' := [.retAddr 0, .retAddr 0]) ⟨Or.inl rfl, Or.inl rfl, trivial⟩ (bX12_readAll_93 C hr hk hf true)
theorem bX12_readAll_50 (C : mCx p (mR 8) s m args meth c G cX12_readAll RX12 2 false 233 54500 233 54500) (hr : meth.sig.returnType = none) (hk : meth.locks = false) {b : Bool} {S' : mT} : ∀ (k : Nat) (v1 : Int32) (S : mT), fX12_readAll_50 k v1 S = some S' → ∀ ok : Bool, mW p l e (mR 8) s m args below meth c G 2 233 54500 (mQ below G args s b S' none) (ok, 50, [.ref (187), .int v1], [], mk b S) := by
  intro k
  induction k with
  | zero =>
    intro v1 S hf ok
    cases hf
  | succ k ih =>
    intro v1 S hf ok
    unfold fX12_readAll_50 at hf
    refine msegT C kX12_readAll 30 3 (g := (true, (if (3 : Int32) ≤ v1 then 68 else 55), [.ref (187), .int v1], [], mk b S)) rfl rfl ?_
    by_cases hc : (3 : Int32) ≤ v1
    · rw [if_pos hc] at hf ⊢
      refine msegT C kX12_readAll 40 1 (g := (true, 69, [.ref (187), .int v1], [.ref (187)], mk b S)) rfl rfl ?_
      obtain ⟨S10, hq, hf⟩ := bndV_ex hf
      refine mcall (kd := 0) (vs := [.ref (187)]) (rest := []) (r := none) (h' := mk b S10) (ok' := true) C lkRX12_236 (qX12_token hq) (kX12_readAll _ (List.mem_of_getElem? (i := 41) rfl)).1 ⟨_, _, rfl, rfl, Nat.le_of_ble_eq_true rfl, _, _, rfl, rfl, rfl⟩ (Nat.le_of_ble_eq_true rfl) (Nat.le_of_ble_eq_true rfl) (Nat.le_refl _) (Nat.le_refl _) (Nat.le_of_ble_eq_true rfl) ?_
      exact mfor (L' := [.ref (187), .retAddr 0]) ⟨Or.inr rfl, Or.inl rfl, trivial⟩ (bX12_readAll_72 C hr hk _ _ hf true)
    · rw [if_neg hc] at hf ⊢
      obtain ⟨hok, hf⟩ := grd_ex hf
      refine msegT C kX12_readAll 33 5 (g := ((kB 198 v1 && (kO 187 12 && true)), 62, [.ref (187), .int v1], [], mk b (sI S 198 (mIx v1) (kN 198 (0 : Int32))))) rfl hok ?_
      obtain ⟨S11, eS11, hf⟩ := bnd_ex hf
      rw [← eS11]
      refine msegT C kX12_readAll 38 1 (g := (true, 65, [.ref (187), .int (v1 + (1 : Int32))], [], mk b S11)) rfl rfl ?_
      obtain ⟨x12, ex12, hf⟩ := bnd_ex hf
      rw [← ex12]
      refine msegT C kX12_readAll 39 1 (g := (true, 50, [.ref (187), .int x12], [], mk b S11)) rfl rfl ?_
      exact mfor (L' := [.ref (187), .int x12]) ⟨Or.inr rfl, Or.inr rfl, trivial⟩ (ih _ _ hf true)
theorem bX12_readAll_0 (C : mCx p (mR 8) s m args meth c G cX12_readAll RX12 2 false 233 54500 233 54500) (hr : meth.sig.returnType = none) (hk : meth.locks = false) {b : Bool} {S' : mT} {S : mT} (hf : fX12_readAll S = some S') (ok : Bool) : mW p l e (mR 8) s m args below meth c G 2 233 54500 (mQ below G args s b S' none) (ok, 0, [.ref (187), .retAddr 0], [], mk b S) := by
  unfold fX12_readAll at hf
  obtain ⟨hok, hf⟩ := grd_ex hf
  refine msegT C kX12_readAll 0 4 (g := ((kO 187 12 && (kO 187 12 && true)), 8, [.ref (187), .retAddr 0], [], mk b (sI S 187 5 (S.1 187 1)))) rfl hok ?_
  obtain ⟨S1, eS1, hf⟩ := bnd_ex hf
  rw [← eS1]
  obtain ⟨hok, hf⟩ := grd_ex hf
  refine msegT C kX12_readAll 4 3 (g := ((kO 187 12 && true), 13, [.ref (187), .retAddr 0], [], mk b (sI S1 187 1 (0 : Int32)))) rfl hok ?_
  obtain ⟨S2, eS2, hf⟩ := bnd_ex hf
  rw [← eS2]
  obtain ⟨hok, hf⟩ := grd_ex hf
  refine msegT C kX12_readAll 7 3 (g := ((kO 187 12 && true), 18, [.ref (187), .retAddr 0], [], mk b (sI S2 187 4 (0 : Int32)))) rfl hok ?_
  obtain ⟨S3, eS3, hf⟩ := bnd_ex hf
  rw [← eS3]
  obtain ⟨hok, hf⟩ := grd_ex hf
  refine msegT C kX12_readAll 10 3 (g := ((kO 187 12 && true), 23, [.ref (187), .retAddr 0], [], mk b (sI S3 187 2 (0 : Int32)))) rfl hok ?_
  obtain ⟨S4, eS4, hf⟩ := bnd_ex hf
  rw [← eS4]
  obtain ⟨hok, hf⟩ := grd_ex hf
  refine msegT C kX12_readAll 13 3 (g := ((kO 187 12 && true), 28, [.ref (187), .retAddr 0], [], mk b (sI S4 187 3 (-1 : Int32)))) rfl hok ?_
  obtain ⟨S5, eS5, hf⟩ := bnd_ex hf
  rw [← eS5]
  obtain ⟨hok, hf⟩ := grd_ex hf
  refine msegT C kX12_readAll 16 3 (g := ((kO 187 12 && true), 33, [.ref (187), .retAddr 0], [], mk b (sI S5 187 35 (0 : Int32)))) rfl hok ?_
  obtain ⟨S6, eS6, hf⟩ := bnd_ex hf
  rw [← eS6]
  obtain ⟨hok, hf⟩ := grd_ex hf
  refine msegT C kX12_readAll 19 3 (g := ((kO 187 12 && true), 38, [.ref (187), .retAddr 0], [], mk b (sI S6 187 36 (0 : Int32)))) rfl hok ?_
  obtain ⟨S7, eS7, hf⟩ := bnd_ex hf
  rw [← eS7]
  obtain ⟨hok, hf⟩ := grd_ex hf
  refine msegT C kX12_readAll 22 3 (g := ((mFit .boolean (0 : Int32) && (kO 187 12 && true)), 43, [.ref (187), .retAddr 0], [], mk b (sI S7 187 38 (0 : Int32)))) rfl hok ?_
  obtain ⟨S8, eS8, hf⟩ := bnd_ex hf
  rw [← eS8]
  obtain ⟨hok, hf⟩ := grd_ex hf
  refine msegT C kX12_readAll 25 3 (g := ((kO 187 12 && true), 48, [.ref (187), .retAddr 0], [], mk b (sI S8 187 23 (0 : Int32)))) rfl hok ?_
  obtain ⟨S9, eS9, hf⟩ := bnd_ex hf
  rw [← eS9]
  refine msegT C kX12_readAll 28 2 (g := (true, 50, [.ref (187), .int (0 : Int32)], [], mk b S9)) rfl rfl ?_
  exact mfor (L' := [.ref (187), .int (0 : Int32)]) ⟨Or.inr rfl, Or.inr rfl, trivial⟩ (bX12_readAll_50 C hr hk _ _ _ hf true)
theorem qX12_readAll {b : Bool} {S S' : mT} (hf : fX12_readAll S = some S') : mOk l mX12_readAll 8 [.ref (187)] b S none S' :=
  gMet (by decide) (Nat.le_of_ble_eq_true rfl) rfl (Nat.le_of_ble_eq_true rfl) (fun p e s m args below meth c G C hr hk => bX12_readAll_0 C hr hk hf true)
theorem bX12_province_79 (C : mCx p (mR 9) s m args meth c G cX12_province RX12 3 false 233 54500 233 54500) (hr : meth.sig.returnType = (some .int)) (hk : meth.locks = false) {b : Bool} {S' : mT} {r : Int32} {rc31 : Int32 → mT → Option (Int32 × mT)} (Hrc31 : ∀ (v1 : Int32) (S : mT), rc31 v1 S = some (r, S') → ∀ ok : Bool, mW p l e (mR 9) s m args below meth c G 3 233 54500 (mQ below G args s b S' (some (.int r))) (ok, 31, [.ref (187), .int v1, .retAddr 0], [], mk b S)) : ∀ (k : Nat) (v1 : Int32) (v2 : Int32) (S : mT), fX12_province_79 rc31 k v1 v2 S = some (r, S') → ∀ ok : Bool, mW p l e (mR 9) s m args below meth c G 3 233 54500 (mQ below G args s b S' (some (.int r))) (ok, 79, [.ref (187), .int v1, .int v2], [], mk b S) := by
  intro k
  induction k with
  | zero =>
    intro v1 v2 S hf ok
    cases hf
  | succ k ih =>
    intro v1 v2 S hf ok
    unfold fX12_province_79 at hf
    obtain ⟨hok, hf⟩ := grd_ex hf
    refine msegT C kX12_province 47 10 (g := ((kI 195 v1 && (kO 187 12 && true)), (if (((320 : Int32) * v1) + (S.1 195 (mIx v1))) ≤ v2 then 125 else 95), [.ref (187), .int v1, .int v2], [], mk b S)) rfl hok ?_
    by_cases hc : (((320 : Int32) * v1) + (S.1 195 (mIx v1))) ≤ v2
    · rw [if_pos hc] at hf ⊢
      refine msegT C kX12_province 75 1 (g := (true, 128, [.ref (187), .int (v1 + (1 : Int32)), .int v2], [], mk b S)) rfl rfl ?_
      obtain ⟨x17, ex17, hf⟩ := bnd_ex hf
      rw [← ex17]
      refine msegT C kX12_province 76 1 (g := (true, 31, [.ref (187), .int x17, .int v2], [], mk b S)) rfl rfl ?_
      exact mfor (L' := [.ref (187), .int x17, .retAddr 0]) ⟨Or.inr rfl, Or.inr rfl, Or.inl rfl, trivial⟩ (Hrc31 _ _ hf true)
    · rw [if_neg hc] at hf ⊢
      obtain ⟨hok, hf⟩ := grd_ex hf
      refine msegT C kX12_province 57 8 (g := ((kI 193 v2 && (kI 190 v2 && (kO 187 12 && (kO 187 12 && true)))), 107, [.ref (187), .int v1, .int v2], [], mk b (sI S 193 (mIx v2) (S.1 190 (mIx v2))))) rfl hok ?_
      obtain ⟨S18, eS18, hf⟩ := bnd_ex hf
      rw [← eS18]
      obtain ⟨hok, hf⟩ := grd_ex hf
      refine msegT C kX12_province 65 8 (g := ((kI 194 v2 && (kI 191 v2 && (kO 187 12 && (kO 187 12 && true)))), 119, [.ref (187), .int v1, .int v2], [], mk b (sI S18 194 (mIx v2) (S18.1 191 (mIx v2))))) rfl hok ?_
      obtain ⟨S19, eS19, hf⟩ := bnd_ex hf
      rw [← eS19]
      refine msegT C kX12_province 73 1 (g := (true, 122, [.ref (187), .int v1, .int (v2 + (1 : Int32))], [], mk b S19)) rfl rfl ?_
      obtain ⟨x20, ex20, hf⟩ := bnd_ex hf
      rw [← ex20]
      refine msegT C kX12_province 74 1 (g := (true, 79, [.ref (187), .int v1, .int x20], [], mk b S19)) rfl rfl ?_
      exact mfor (L' := [.ref (187), .int v1, .int x20]) ⟨Or.inr rfl, Or.inr rfl, Or.inr rfl, trivial⟩ (ih _ _ _ hf true)
theorem bX12_province_72 (C : mCx p (mR 9) s m args meth c G cX12_province RX12 3 false 233 54500 233 54500) (hr : meth.sig.returnType = (some .int)) (hk : meth.locks = false) {b : Bool} {S' : mT} {r : Int32} {rc31 : Int32 → mT → Option (Int32 × mT)} (Hrc31 : ∀ (v1 : Int32) (S : mT), rc31 v1 S = some (r, S') → ∀ ok : Bool, mW p l e (mR 9) s m args below meth c G 3 233 54500 (mQ below G args s b S' (some (.int r))) (ok, 31, [.ref (187), .int v1, .retAddr 0], [], mk b S)) {v1 : Int32} {s0 : Int32} {s1 : Int32} {S : mT} (hf : fX12_province_72 rc31 v1 s0 s1 S = some (r, S')) (ok : Bool) : mW p l e (mR 9) s m args below meth c G 3 233 54500 (mQ below G args s b S' (some (.int r))) (ok, 72, [.ref (187), .int v1, .retAddr 0], [.int s0, .int s1, .ref 195], mk b S) := by
  unfold fX12_province_72 at hf
  obtain ⟨hok, hf⟩ := grd_ex hf
  refine msegT C kX12_province 42 1 (g := ((kI 195 s1 && true), 73, [.ref (187), .int v1, .retAddr 0], [], mk b (sI S 195 (mIx s1) s0))) rfl hok ?_
  obtain ⟨S7, eS7, hf⟩ := bnd_ex hf
  rw [← eS7]
  refine msegT C kX12_province 43 4 (g := (true, 79, [.ref (187), .int v1, .int ((320 : Int32) * v1)], [], mk b S7)) rfl rfl ?_
  obtain ⟨x8, ex8, hf⟩ := bnd_ex hf
  rw [← ex8]
  exact mfor (L' := [.ref (187), .int v1, .int x8]) ⟨Or.inr rfl, Or.inr rfl, Or.inr rfl, trivial⟩ (bX12_province_79 C hr hk Hrc31 _ _ _ _ hf true)
theorem bX12_province_218 (C : mCx p (mR 9) s m args meth c G cX12_province RX12 3 false 233 54500 233 54500) (hr : meth.sig.returnType = (some .int)) (hk : meth.locks = false) {b : Bool} {S' : mT} {r : Int32} {rc154 : Int32 → mT → Option (Int32 × mT)} (Hrc154 : ∀ (v1 : Int32) (S : mT), rc154 v1 S = some (r, S') → ∀ ok : Bool, mW p l e (mR 9) s m args below meth c G 3 233 54500 (mQ below G args s b S' (some (.int r))) (ok, 154, [.ref (187), .int v1, .retAddr 0], [], mk b S)) {v1 : Int32} {s0 : Int32} {s1 : Int32} {S : mT} (hf : fX12_province_218 rc154 v1 s0 s1 S = some (r, S')) (ok : Bool) : mW p l e (mR 9) s m args below meth c G 3 233 54500 (mQ below G args s b S' (some (.int r))) (ok, 218, [.ref (187), .int v1, .retAddr 0], [.int s0, .int s1, .ref 208], mk b S) := by
  unfold fX12_province_218 at hf
  obtain ⟨hok, hf⟩ := grd_ex hf
  refine msegT C kX12_province 131 1 (g := ((kI 208 s1 && true), 219, [.ref (187), .int v1, .retAddr 0], [], mk b (sI S 208 (mIx s1) s0))) rfl hok ?_
  obtain ⟨S23, eS23, hf⟩ := bnd_ex hf
  rw [← eS23]
  refine msegT C kX12_province 132 1 (g := (true, 222, [.ref (187), .int (v1 + (1 : Int32)), .retAddr 0], [], mk b S23)) rfl rfl ?_
  obtain ⟨x24, ex24, hf⟩ := bnd_ex hf
  rw [← ex24]
  refine msegT C kX12_province 133 1 (g := (true, 154, [.ref (187), .int x24, .retAddr 0], [], mk b S23)) rfl rfl ?_
  exact mfor (L' := [.ref (187), .int x24, .retAddr 0]) ⟨Or.inr rfl, Or.inr rfl, Or.inl rfl, trivial⟩ (Hrc154 _ _ hf true)
theorem bX12_province_258 (C : mCx p (mR 9) s m args meth c G cX12_province RX12 3 false 233 54500 233 54500) (hr : meth.sig.returnType = (some .int)) (hk : meth.locks = false) {b : Bool} {S' : mT} {r : Int32} : ∀ (k : Nat) (v1 : Int32) (S : mT), fX12_province_258 k v1 S = some (r, S') → ∀ ok : Bool, mW p l e (mR 9) s m args below meth c G 3 233 54500 (mQ below G args s b S' (some (.int r))) (ok, 258, [.ref (187), .int v1, .retAddr 0], [], mk b S) := by
  intro k
  induction k with
  | zero =>
    intro v1 S hf ok
    cases hf
  | succ k ih =>
    intro v1 S hf ok
    unfold fX12_province_258 at hf
    refine msegT C kX12_province 154 3 (g := (true, (if (3 : Int32) ≤ v1 then 276 else 263), [.ref (187), .int v1, .retAddr 0], [], mk b S)) rfl rfl ?_
    by_cases hc : (3 : Int32) ≤ v1
    · rw [if_pos hc] at hf ⊢
      obtain ⟨hok, hf⟩ := grd_ex hf
      refine msegT C kX12_province 164 2 (g := ((kO 187 12 && true), 280, [.ref (187), .int v1, .retAddr 0], [.int (S.1 187 37)], mk b S)) rfl hok ?_
      cases hf
      exact gret_i C hr hk (kX12_province _ (List.mem_of_getElem? (i := 166) rfl)).1
    · rw [if_neg hc] at hf ⊢
      obtain ⟨hok, hf⟩ := grd_ex hf
      refine msegT C kX12_province 157 5 (g := ((kB 231 v1 && (kO 187 12 && true)), 270, [.ref (187), .int v1, .retAddr 0], [], mk b (sI S 231 (mIx v1) (kN 231 (0 : Int32))))) rfl hok ?_
      obtain ⟨S21, eS21, hf⟩ := bnd_ex hf
      rw [← eS21]
      refine msegT C kX12_province 162 1 (g := (true, 273, [.ref (187), .int (v1 + (1 : Int32)), .retAddr 0], [], mk b S21)) rfl rfl ?_
      obtain ⟨x22, ex22, hf⟩ := bnd_ex hf
      rw [← ex22]
      refine msegT C kX12_province 163 1 (g := (true, 258, [.ref (187), .int x22, .retAddr 0], [], mk b S21)) rfl rfl ?_
      exact mfor (L' := [.ref (187), .int x22, .retAddr 0]) ⟨Or.inr rfl, Or.inr rfl, Or.inl rfl, trivial⟩ (ih _ _ hf true)
theorem bX12_province_154 (C : mCx p (mR 9) s m args meth c G cX12_province RX12 3 false 233 54500 233 54500) (hr : meth.sig.returnType = (some .int)) (hk : meth.locks = false) {b : Bool} {S' : mT} {r : Int32} : ∀ (k : Nat) (v1 : Int32) (S : mT), fX12_province_154 k v1 S = some (r, S') → ∀ ok : Bool, mW p l e (mR 9) s m args below meth c G 3 233 54500 (mQ below G args s b S' (some (.int r))) (ok, 154, [.ref (187), .int v1, .retAddr 0], [], mk b S) := by
  intro k
  induction k with
  | zero =>
    intro v1 S hf ok
    cases hf
  | succ k ih =>
    intro v1 S hf ok
    unfold fX12_province_154 at hf
    refine msegT C kX12_province 91 3 (g := (true, (if (5 : Int32) ≤ v1 then 225 else 159), [.ref (187), .int v1, .retAddr 0], [], mk b S)) rfl rfl ?_
    by_cases hc : (5 : Int32) ≤ v1
    · rw [if_pos hc] at hf ⊢
      obtain ⟨hok, hf⟩ := grd_ex hf
      refine msegT C kX12_province 134 6 (g := ((kI 208 (16 : Int32) && (kO 187 12 && (kO 187 12 && true))), 236, [.ref (187), .int v1, .retAddr 0], [], mk b (sI S 208 (mIx (16 : Int32)) (S.1 187 36)))) rfl hok ?_
      obtain ⟨S9, eS9, hf⟩ := bnd_ex hf
      rw [← eS9]
      obtain ⟨hok, hf⟩ := grd_ex hf
      refine msegT C kX12_province 140 3 (g := ((kO 187 12 && true), 241, [.ref (187), .int v1, .retAddr 0], [], mk b (sI S9 187 46 (0 : Int32)))) rfl hok ?_
      obtain ⟨S10, eS10, hf⟩ := bnd_ex hf
      rw [← eS10]
      obtain ⟨hok, hf⟩ := grd_ex hf
      refine msegT C kX12_province 143 3 (g := ((kO 187 12 && true), 246, [.ref (187), .int v1, .retAddr 0], [], mk b (sI S10 187 47 (0 : Int32)))) rfl hok ?_
      obtain ⟨S11, eS11, hf⟩ := bnd_ex hf
      rw [← eS11]
      obtain ⟨hok, hf⟩ := grd_ex hf
      refine msegT C kX12_province 146 3 (g := ((kO 187 12 && true), 251, [.ref (187), .int v1, .retAddr 0], [], mk b (sI S11 187 66 (0 : Int32)))) rfl hok ?_
      obtain ⟨S12, eS12, hf⟩ := bnd_ex hf
      rw [← eS12]
      obtain ⟨hok, hf⟩ := grd_ex hf
      refine msegT C kX12_province 149 3 (g := ((kO 187 12 && true), 256, [.ref (187), .int v1, .retAddr 0], [], mk b (sI S12 187 51 (0 : Int32)))) rfl hok ?_
      obtain ⟨S13, eS13, hf⟩ := bnd_ex hf
      rw [← eS13]
      refine msegT C kX12_province 152 2 (g := (true, 258, [.ref (187), .int (0 : Int32), .retAddr 0], [], mk b S13)) rfl rfl ?_
      exact mfor (L' := [.ref (187), .int (0 : Int32), .retAddr 0]) ⟨Or.inr rfl, Or.inr rfl, Or.inl rfl, trivial⟩ (bX12_province_258 C hr hk _ _ _ hf true)
    · rw [if_neg hc] at hf ⊢
      obtain ⟨hok, hf⟩ := grd_ex hf
      refine msegT C kX12_province 94 8 (g := ((kI 205 v1 && (kI 201 v1 && (kO 187 12 && (kO 187 12 && true)))), 171, [.ref (187), .int v1, .retAddr 0], [], mk b (sI S 205 (mIx v1) (S.1 201 (mIx v1))))) rfl hok ?_
      obtain ⟨S14, eS14, hf⟩ := bnd_ex hf
      rw [← eS14]
      obtain ⟨hok, hf⟩ := grd_ex hf
      refine msegT C kX12_province 102 8 (g := ((kI 206 v1 && (kI 203 v1 && (kO 187 12 && (kO 187 12 && true)))), 183, [.ref (187), .int v1, .retAddr 0], [], mk b (sI S14 206 (mIx v1) (S14.1 203 (mIx v1))))) rfl hok ?_
      obtain ⟨S15, eS15, hf⟩ := bnd_ex hf
      rw [← eS15]
      obtain ⟨hok, hf⟩ := grd_ex hf
      refine msegT C kX12_province 110 8 (g := ((kI 207 v1 && (kI 204 v1 && (kO 187 12 && (kO 187 12 && true)))), 195, [.ref (187), .int v1, .retAddr 0], [], mk b (sI S15 207 (mIx v1) (S15.1 204 (mIx v1))))) rfl hok ?_
      obtain ⟨S16, eS16, hf⟩ := bnd_ex hf
      rw [← eS16]
      obtain ⟨hok, hf⟩ := grd_ex hf
      refine msegT C kX12_province 118 7 (g := ((kO 187 12 && (kO 187 12 && true)), (if (S16.1 187 37) ≤ v1 then 217 else 208), [.ref (187), .int v1, .retAddr 0], [.int v1, .ref 208], mk b S16)) rfl hok ?_
      by_cases hc : (S16.1 187 37) ≤ v1
      · rw [if_pos hc] at hf ⊢
        refine msegT C kX12_province 130 1 (g := (true, 218, [.ref (187), .int v1, .retAddr 0], [.int (0 : Int32), .int v1, .ref 208], mk b S16)) rfl rfl ?_
        exact mfor (L' := [.ref (187), .int v1, .retAddr 0]) ⟨Or.inr rfl, Or.inr rfl, Or.inl rfl, trivial⟩ (bX12_province_218 C hr hk ih hf true)
      · rw [if_neg hc] at hf ⊢
        obtain ⟨hok, hf⟩ := grd_ex hf
        refine msegT C kX12_province 125 5 (g := ((kI 202 v1 && (kO 187 12 && true)), 218, [.ref (187), .int v1, .retAddr 0], [.int (S16.1 202 (mIx v1)), .int v1, .ref 208], mk b S16)) rfl hok ?_
        exact mfor (L' := [.ref (187), .int v1, .retAddr 0]) ⟨Or.inr rfl, Or.inr rfl, Or.inl rfl, trivial⟩ (bX12_province_218 C hr hk ih hf true)
theorem bX12_province_133 (C : mCx p (mR 9) s m args meth c G cX12_province RX12 3 false 233 54500 233 54500) (hr : meth.sig.returnType = (some .int)) (hk : meth.locks = false) {b : Bool} {S' : mT} {r : Int32} : ∀ (k : Nat) (v1 : Int32) (S : mT), fX12_province_133 k v1 S = some (r, S') → ∀ ok : Bool, mW p l e (mR 9) s m args below meth c G 3 233 54500 (mQ below G args s b S' (some (.int r))) (ok, 133, [.ref (187), .int v1, .retAddr 0], [], mk b S) := by
  intro k
  induction k with
  | zero =>
    intro v1 S hf ok
    cases hf
  | succ k ih =>
    intro v1 S hf ok
    unfold fX12_province_133 at hf
    refine msegT C kX12_province 79 3 (g := (true, (if (17 : Int32) ≤ v1 then 152 else 139), [.ref (187), .int v1, .retAddr 0], [], mk b S)) rfl rfl ?_
    by_cases hc : (17 : Int32) ≤ v1
    · rw [if_pos hc] at hf ⊢
      refine msegT C kX12_province 89 2 (g := (true, 154, [.ref (187), .int (0 : Int32), .retAddr 0], [], mk b S)) rfl rfl ?_
      exact mfor (L' := [.ref (187), .int (0 : Int32), .retAddr 0]) ⟨Or.inr rfl, Or.inr rfl, Or.inl rfl, trivial⟩ (bX12_province_154 C hr hk _ _ _ hf true)
    · rw [if_neg hc] at hf ⊢
      obtain ⟨hok, hf⟩ := grd_ex hf
      refine msegT C kX12_province 82 5 (g := ((kI 208 v1 && (kO 187 12 && true)), 146, [.ref (187), .int v1, .retAddr 0], [], mk b (sI S 208 (mIx v1) (0 : Int32)))) rfl hok ?_
      obtain ⟨S5, eS5, hf⟩ := bnd_ex hf
      rw [← eS5]
      refine msegT C kX12_province 87 1 (g := (true, 149, [.ref (187), .int (v1 + (1 : Int32)), .retAddr 0], [], mk b S5)) rfl rfl ?_
      obtain ⟨x6, ex6, hf⟩ := bnd_ex hf
      rw [← ex6]
      refine msegT C kX12_province 88 1 (g := (true, 133, [.ref (187), .int x6, .retAddr 0], [], mk b S5)) rfl rfl ?_
      exact mfor (L' := [.ref (187), .int x6, .retAddr 0]) ⟨Or.inr rfl, Or.inr rfl, Or.inl rfl, trivial⟩ (ih _ _ hf true)
theorem bX12_province_31 (C : mCx p (mR 9) s m args meth c G cX12_province RX12 3 false 233 54500 233 54500) (hr : meth.sig.returnType = (some .int)) (hk : meth.locks = false) {b : Bool} {S' : mT} {r : Int32} : ∀ (k : Nat) (v1 : Int32) (S : mT), fX12_province_31 k v1 S = some (r, S') → ∀ ok : Bool, mW p l e (mR 9) s m args below meth c G 3 233 54500 (mQ below G args s b S' (some (.int r))) (ok, 31, [.ref (187), .int v1, .retAddr 0], [], mk b S) := by
  intro k
  induction k with
  | zero =>
    intro v1 S hf ok
    cases hf
  | succ k ih =>
    intro v1 S hf ok
    unfold fX12_province_31 at hf
    refine msegT C kX12_province 17 3 (g := (true, (if (3 : Int32) ≤ v1 then 131 else 36), [.ref (187), .int v1, .retAddr 0], [], mk b S)) rfl rfl ?_
    by_cases hc : (3 : Int32) ≤ v1
    · rw [if_pos hc] at hf ⊢
      refine msegT C kX12_province 77 2 (g := (true, 133, [.ref (187), .int (0 : Int32), .retAddr 0], [], mk b S)) rfl rfl ?_
      exact mfor (L' := [.ref (187), .int (0 : Int32), .retAddr 0]) ⟨Or.inr rfl, Or.inr rfl, Or.inl rfl, trivial⟩ (bX12_province_133 C hr hk _ _ _ hf true)
    · rw [if_neg hc] at hf ⊢
      obtain ⟨hok, hf⟩ := grd_ex hf
      refine msegT C kX12_province 20 8 (g := ((kB 199 v1 && (kB 198 v1 && (kO 187 12 && (kO 187 12 && true)))), 48, [.ref (187), .int v1, .retAddr 0], [], mk b (sI S 199 (mIx v1) (kN 199 (S.1 198 (mIx v1)))))) rfl hok ?_
      obtain ⟨S4, eS4, hf⟩ := bnd_ex hf
      rw [← eS4]
      obtain ⟨hok, hf⟩ := grd_ex hf
      refine msegT C kX12_province 28 8 (g := ((kB 199 v1 && (kO 187 12 && (kO 187 12 && true))), (if (S4.1 199 (mIx v1)) = 0 then 71 else 62), [.ref (187), .int v1, .retAddr 0], [.int v1, .ref 195], mk b S4)) rfl hok ?_
      by_cases hc : (S4.1 199 (mIx v1)) = 0
      · rw [if_pos hc] at hf ⊢
        refine msegT C kX12_province 41 1 (g := (true, 72, [.ref (187), .int v1, .retAddr 0], [.int (0 : Int32), .int v1, .ref 195], mk b S4)) rfl rfl ?_
        exact mfor (L' := [.ref (187), .int v1, .retAddr 0]) ⟨Or.inr rfl, Or.inr rfl, Or.inl rfl, trivial⟩ (bX12_province_72 C hr hk ih hf true)
      · rw [if_neg hc] at hf ⊢
        obtain ⟨hok, hf⟩ := grd_ex hf
        refine msegT C kX12_province 36 5 (g := ((kI 192 v1 && (kO 187 12 && true)), 72, [.ref (187), .int v1, .retAddr 0], [.int (S4.1 192 (mIx v1)), .int v1, .ref 195], mk b S4)) rfl hok ?_
        exact mfor (L' := [.ref (187), .int v1, .retAddr 0]) ⟨Or.inr rfl, Or.inr rfl, Or.inl rfl, trivial⟩ (bX12_province_72 C hr hk ih hf true)
theorem bX12_province_0 (C : mCx p (mR 9) s m args meth c G cX12_province RX12 3 false 233 54500 233 54500) (hr : meth.sig.returnType = (some .int)) (hk : meth.locks = false) {b : Bool} {S' : mT} {r : Int32} {S : mT} (hf : fX12_province S = some (r, S')) (ok : Bool) : mW p l e (mR 9) s m args below meth c G 3 233 54500 (mQ below G args s b S' (some (.int r))) (ok, 0, [.ref (187), .retAddr 0, .retAddr 0], [], mk b S) := by
  unfold fX12_province at hf
  refine msegT C kX12_province 0 1 (g := (true, 1, [.ref (187), .retAddr 0, .retAddr 0], [.ref (187)], mk b S)) rfl rfl ?_
  obtain ⟨S1, hq, hf⟩ := bndV_ex hf
  refine mcall (kd := 0) (vs := [.ref (187)]) (rest := []) (r := none) (h' := mk b S1) (ok' := true) C lkRX12_341 (qX12_readAll hq) (kX12_province _ (List.mem_of_getElem? (i := 1) rfl)).1 ⟨_, _, rfl, rfl, Nat.le_of_ble_eq_true rfl, _, _, rfl, rfl, rfl⟩ (Nat.le_of_ble_eq_true rfl) (Nat.le_of_ble_eq_true rfl) (Nat.le_refl _) (Nat.le_refl _) (Nat.le_of_ble_eq_true rfl) ?_
  obtain ⟨hok, hf⟩ := grd_ex hf
  refine msegT C kX12_province 2 3 (g := ((kO 187 12 && true), (if (S1.1 187 2) ≤ 0 then 13 else 11), [.ref (187), .retAddr 0, .retAddr 0], [], mk b S1)) rfl hok ?_
  by_cases hc : (S1.1 187 2) ≤ 0
  · rw [if_pos hc] at hf ⊢
    obtain ⟨hok, hf⟩ := grd_ex hf
    refine msegT C kX12_province 7 4 (g := ((kO 187 12 && (kO 187 12 && true)), 21, [.ref (187), .retAddr 0, .retAddr 0], [], mk b (sI S1 187 37 (S1.1 187 35)))) rfl hok ?_
    obtain ⟨S2, eS2, hf⟩ := bnd_ex hf
    rw [← eS2]
    obtain ⟨hok, hf⟩ := grd_ex hf
    refine msegT C kX12_province 11 4 (g := ((kO 187 12 && (kO 187 12 && true)), 29, [.ref (187), .retAddr 0, .retAddr 0], [], mk b (sI S2 187 24 (S2.1 187 23)))) rfl hok ?_
    obtain ⟨S3, eS3, hf⟩ := bnd_ex hf
    rw [← eS3]
    refine msegT C kX12_province 15 2 (g := (true, 31, [.ref (187), .int (0 : Int32), .retAddr 0], [], mk b S3)) rfl rfl ?_
    exact mfor (L' := [.ref (187), .int (0 : Int32), .retAddr 0]) ⟨Or.inr rfl, Or.inr rfl, Or.inl rfl, trivial⟩ (bX12_province_31 C hr hk _ _ _ hf true)
  · rw [if_neg hc] at hf ⊢
    refine msegT C kX12_province 5 1 (g := (true, 12, [.ref (187), .retAddr 0, .retAddr 0], [.int (-1 : Int32)], mk b S1)) rfl rfl ?_
    cases hf
    exact gret_i C hr hk (kX12_province _ (List.mem_of_getElem? (i := 6) rfl)).1
theorem qX12_province {b : Bool} {S S' : mT} {r : Int32} (hf : fX12_province S = some (r, S')) : mOk l mX12_province 9 [.ref (187)] b S (some (.int r)) S' :=
  gMet (by decide) (Nat.le_of_ble_eq_true rfl) rfl (Nat.le_of_ble_eq_true rfl) (fun p e s m args below meth c G C hr hk => bX12_province_0 C hr hk hf true)
end GP
