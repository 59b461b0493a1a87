section GP
variable {p : Program} {l : Launch} {e : Env} {s : State} {m : MethodId} {args : Array Value} {below : List Frame} {meth : Method} {c : Code} {G : mG}
theorem bX12_close_101 (C : mCx p (mR 2) s m args meth c G cX12_close RX12 2 false 233 54500 233 54500) (hr : meth.sig.returnType = none) (hk : meth.locks = false) {b : Bool} {S' : mT} {S : mT} (hf : fX12_close_101 S = some S') (ok : Bool) : mW p l e (mR 2) s m args below meth c G 2 233 54500 (mQ below G args s b S' none) (ok, 101, [.retAddr 0, .retAddr 0], [], mk b S) := by
  unfold fX12_close_101 at hf
  cases hf
  exact gret_v C hr hk (kX12_close _ (List.mem_of_getElem? (i := 55) rfl)).1
theorem bX12_close_0 (C : mCx p (mR 2) s m args meth c G cX12_close RX12 2 false 233 54500 233 54500) (hr : meth.sig.returnType = none) (hk : meth.locks = false) {b : Bool} {S' : mT} : ∀ (k : Nat) (v1 : Int32) (S : mT), fX12_close_0 k v1 S = some S' → ∀ ok : Bool, mW p l e (mR 2) s m args below meth c G 2 233 54500 (mQ below G args s b S' none) (ok, 0, [.ref (187), .int v1], [], mk b S) := by
  intro k
  induction k with
  | zero =>
    intro v1 S hf ok
    cases hf
  | succ k ih =>
    intro v1 S hf ok
    unfold fX12_close_0 at hf
    obtain ⟨hok, hf⟩ := grd_ex hf
    refine msegT C kX12_close 0 3 (g := ((kO 187 12 && true), (if (S.1 187 22) ≤ 0 then 101 else 7), [.ref (187), .int v1], [], mk b S)) rfl hok ?_
    by_cases hc : (S.1 187 22) ≤ 0
    · rw [if_pos hc] at hf ⊢
      exact mfor (L' := [.retAddr 0, .retAddr 0]) ⟨Or.inl rfl, Or.inl rfl, trivial⟩ (bX12_close_101 C hr hk hf true)
    · rw [if_neg hc] at hf ⊢
      obtain ⟨hok, hf⟩ := grd_ex hf
      refine msegT C kX12_close 3 9 (g := ((kI 196 ((S.1 187 22) - (1 : Int32)) && (kO 187 12 && (kO 187 12 && true))), (if (S.1 196 (mIx ((S.1 187 22) - (1 : Int32)))) = (20 : Int32) then 101 else 23), [.ref (187), .int v1], [], mk b S)) rfl hok ?_
      by_cases hc : (S.1 196 (mIx ((S.1 187 22) - (1 : Int32)))) = (20 : Int32)
      · rw [if_pos hc] at hf ⊢
        exact mfor (L' := [.retAddr 0, .retAddr 0]) ⟨Or.inl rfl, Or.inl rfl, trivial⟩ (bX12_close_101 C hr hk hf true)
      · rw [if_neg hc] at hf ⊢
        obtain ⟨hok, hf⟩ := grd_ex hf
        refine msegT C kX12_close 12 7 (g := ((kI 196 ((S.1 187 22) - (1 : Int32)) && (kO 187 12 && (kO 187 12 && true))), 34, [.ref (187), .int v1], [.int (S.1 196 (mIx ((S.1 187 22) - (1 : Int32))))], mk b S)) rfl hok ?_
        obtain ⟨x2, S1, hq, hf⟩ := bndC_ex hf
        refine mcall (kd := 1) (vs := [.int (S.1 196 (mIx ((S.1 187 22) - (1 : Int32))))]) (rest := []) (r := (some (.int x2))) (h' := mk b S1) (ok' := true) C lkRX12_260 (qX12_tight hq) (kX12_close _ (List.mem_of_getElem? (i := 19) rfl)).1 rfl (Nat.le_of_ble_eq_true rfl) (Nat.le_of_ble_eq_true rfl) (Nat.le_refl _) (Nat.le_refl _) (Nat.le_of_ble_eq_true rfl) ?_
        refine msegT C kX12_close 20 2 (g := (true, (if x2 < v1 then 101 else 41), [.ref (187), .int v1], [], mk b S1)) rfl rfl ?_
        by_cases hc : x2 < v1
        · rw [if_pos hc] at hf ⊢
          exact mfor (L' := [.retAddr 0, .retAddr 0]) ⟨Or.inl rfl, Or.inl rfl, trivial⟩ (bX12_close_101 C hr hk hf true)
        · rw [if_neg hc] at hf ⊢
          obtain ⟨hok, hf⟩ := grd_ex hf
          refine msegT C kX12_close 22 6 (g := ((kO 187 12 && (kO 187 12 && true)), 51, [.ref (187), .int v1], [], mk b (sI S1 187 22 ((S1.1 187 22) - (1 : Int32))))) rfl hok ?_
          obtain ⟨S3, eS3, hf⟩ := bnd_ex hf
          rw [← eS3]
          obtain ⟨hok, hf⟩ := grd_ex hf
          refine msegT C kX12_close 28 7 (g := ((kI 196 (S3.1 187 22) && (kO 187 12 && (kO 187 12 && true))), (if (S3.1 196 (mIx (S3.1 187 22))) = (21 : Int32) then 65 else 84), [.ref (187), .int v1], [], mk b S3)) rfl hok ?_
          by_cases hc : (S3.1 196 (mIx (S3.1 187 22))) = (21 : Int32)
          · rw [if_pos hc] at hf ⊢
            refine msegT C kX12_close 35 3 (g := (true, 68, [.ref (187), .int v1], [.int (0 : Int32), .int (2 : Int32), .ref (187)], mk b S3)) rfl rfl ?_
            obtain ⟨S4, hq, hf⟩ := bndV_ex hf
            refine mcall (kd := 0) (vs := [.ref (187), .int (2 : Int32), .int (0 : Int32)]) (rest := []) (r := none) (h' := mk b S4) (ok' := true) C lkRX12_263 (qX12_add hq) (kX12_close _ (List.mem_of_getElem? (i := 38) rfl)).1 ⟨_, _, rfl, rfl, Nat.le_of_ble_eq_true rfl, _, _, rfl, rfl, rfl⟩ (Nat.le_of_ble_eq_true rfl) (Nat.le_of_ble_eq_true rfl) (Nat.le_refl _) (Nat.le_refl _) (Nat.le_of_ble_eq_true rfl) ?_
            obtain ⟨hok, hf⟩ := grd_ex hf
            refine msegT C kX12_close 39 6 (g := ((kO 187 12 && (kO 187 12 && true)), 81, [.ref (187), .int v1], [], mk b (sI S4 187 26 ((S4.1 187 26) - (1 : Int32))))) rfl hok ?_
            obtain ⟨S5, eS5, hf⟩ := bnd_ex hf
            rw [← eS5]
            refine msegT C kX12_close 45 1 (g := (true, 0, [.ref (187), .int v1], [], mk b S5)) rfl rfl ?_
            exact mfor (L' := [.ref (187), .int v1]) ⟨Or.inr rfl, Or.inr rfl, trivial⟩ (ih _ _ hf true)
          · rw [if_neg hc] at hf ⊢
            obtain ⟨hok, hf⟩ := grd_ex hf
            refine msegT C kX12_close 46 7 (g := ((kI 196 (S3.1 187 22) && (kO 187 12 && (kO 187 12 && true))), 95, [.ref (187), .int v1], [.int (S3.1 196 (mIx (S3.1 187 22))), .int (3 : Int32), .ref (187)], mk b S3)) rfl hok ?_
            obtain ⟨S6, hq, hf⟩ := bndV_ex hf
            refine mcall (kd := 0) (vs := [.ref (187), .int (3 : Int32), .int (S3.1 196 (mIx (S3.1 187 22)))]) (rest := []) (r := none) (h' := mk b S6) (ok' := true) C lkRX12_263 (qX12_add hq) (kX12_close _ (List.mem_of_getElem? (i := 53) rfl)).1 ⟨_, _, rfl, rfl, Nat.le_of_ble_eq_true rfl, _, _, rfl, rfl, rfl⟩ (Nat.le_of_ble_eq_true rfl) (Nat.le_of_ble_eq_true rfl) (Nat.le_refl _) (Nat.le_refl _) (Nat.le_of_ble_eq_true rfl) ?_
            refine msegT C kX12_close 54 1 (g := (true, 0, [.ref (187), .int v1], [], mk b S6)) rfl rfl ?_
            exact mfor (L' := [.ref (187), .int v1]) ⟨Or.inr rfl, Or.inr rfl, trivial⟩ (ih _ _ hf true)
theorem qX12_close {b : Bool} {v1 : Int32} {S S' : mT} (hf : fX12_close v1 S = some S') : mOk l mX12_close 2 [.ref (187), .int v1] b S none S' :=
  gMet (by decide) (Nat.le_of_ble_eq_true rfl) rfl (Nat.le_of_ble_eq_true rfl) (fun p e s m args below meth c G C hr hk => bX12_close_0 C hr hk _ _ _ hf true)
theorem bX12_isHouse_0 (C : mCx p (mR 2) s m args meth c G cX12_isHouse RX12 2 false 233 54500 233 54500) (hr : meth.sig.returnType = (some .boolean)) (hk : meth.locks = false) {b : Bool} {S' : mT} {r : Int32} {v1 : Int32} {S : mT} (hf : fX12_isHouse v1 S = some (r, S')) (ok : Bool) : mW p l e (mR 2) s m args below meth c G 2 233 54500 (mQ below G args s b S' (some (.int r))) (ok, 0, [.ref (187), .int v1], [], mk b S) := by
  unfold fX12_isHouse at hf
  obtain ⟨hok, hf⟩ := grd_ex hf
  refine msegT C kX12_isHouse 0 6 (g := ((kO 187 12 && true), 8, [.ref (187), .int v1], [.int ((S.1 187 37) - (1 : Int32)), .int (0 : Int32), .int v1], mk b S)) rfl hok ?_
  obtain ⟨x2, S1, hq, hf⟩ := bndC_ex hf
  refine mcall (kd := 1) (vs := [.int v1, .int (0 : Int32), .int ((S.1 187 37) - (1 : Int32))]) (rest := []) (r := (some (.int x2))) (h' := mk b S1) (ok' := true) C lkRX12_362 (qX12_isIn hq) (kX12_isHouse _ (List.mem_of_getElem? (i := 6) rfl)).1 rfl (Nat.le_of_ble_eq_true rfl) (Nat.le_of_ble_eq_true rfl) (Nat.le_refl _) (Nat.le_refl _) (Nat.le_of_ble_eq_true rfl) ?_
  obtain ⟨hz, hf⟩ := grd_ex hf
  cases hf
  exact gret_z C hr hk (mFit_nar hz) (kX12_isHouse _ (List.mem_of_getElem? (i := 7) rfl)).1
theorem qX12_isHouse {b : Bool} {v1 : Int32} {S S' : mT} {r : Int32} (hf : fX12_isHouse v1 S = some (r, S')) : mOk l mX12_isHouse 2 [.ref (187), .int v1] b S (some (.int r)) S' :=
  gMet (by decide) (Nat.le_of_ble_eq_true rfl) rfl (Nat.le_of_ble_eq_true rfl) (fun p e s m args below meth c G C hr hk => bX12_isHouse_0 C hr hk hf true)
theorem bX12_comes_19 (C : mCx p (mR 3) s m args meth c G cX12_comes RX12 2 false 233 54500 233 54500) (hr : meth.sig.returnType = (some .int)) (hk : meth.locks = false) {b : Bool} {S' : mT} {r : Int32} {S : mT} (hf : fX12_comes_19 S = some (r, S')) (ok : Bool) : mW p l e (mR 3) s m args below meth c G 2 233 54500 (mQ below G args s b S' (some (.int r))) (ok, 19, [.retAddr 0, .retAddr 0], [], mk b S) := by
  unfold fX12_comes_19 at hf
  refine msegT C kX12_comes 10 1 (g := (true, 20, [.retAddr 0, .retAddr 0], [.int (-1 : Int32)], mk b S)) rfl rfl ?_
  cases hf
  exact gret_i C hr hk (kX12_comes _ (List.mem_of_getElem? (i := 11) rfl)).1
theorem bX12_comes_0 (C : mCx p (mR 3) s m args meth c G cX12_comes RX12 2 false 233 54500 233 54500) (hr : meth.sig.returnType = (some .int)) (hk : meth.locks = false) {b : Bool} {S' : mT} {r : Int32} {v1 : Int32} {S : mT} (hf : fX12_comes v1 S = some (r, S')) (ok : Bool) : mW p l e (mR 3) s m args below meth c G 2 233 54500 (mQ below G args s b S' (some (.int r))) (ok, 0, [.ref (187), .int v1], [], mk b S) := by
  unfold fX12_comes at hf
  refine msegT C kX12_comes 0 2 (g := (true, 2, [.ref (187), .int v1], [.int v1, .ref (187)], mk b S)) rfl rfl ?_
  obtain ⟨x2, S1, hq, hf⟩ := bndC_ex hf
  refine mcall (kd := 0) (vs := [.ref (187), .int v1]) (rest := []) (r := (some (.int x2))) (h' := mk b S1) (ok' := true) C lkRX12_388 (qX12_isHouse hq) (kX12_comes _ (List.mem_of_getElem? (i := 2) rfl)).1 ⟨_, _, rfl, rfl, Nat.le_of_ble_eq_true rfl, _, _, rfl, rfl, rfl⟩ (Nat.le_of_ble_eq_true rfl) (Nat.le_of_ble_eq_true rfl) (Nat.le_refl _) (Nat.le_refl _) (Nat.le_of_ble_eq_true rfl) ?_
  refine msegT C kX12_comes 3 1 (g := (true, (if x2 = 0 then 19 else 8), [.ref (187), .int v1], [], mk b S1)) rfl rfl ?_
  by_cases hc : x2 = 0
  · rw [if_pos hc] at hf ⊢
    exact mfor (L' := [.retAddr 0, .retAddr 0]) ⟨Or.inl rfl, Or.inl rfl, trivial⟩ (bX12_comes_19 C hr hk hf true)
  · rw [if_neg hc] at hf ⊢
    obtain ⟨hok, hf⟩ := grd_ex hf
    refine msegT C kX12_comes 4 6 (g := ((kI 208 v1 && (kO 187 12 && true)), (if (S1.1 208 (mIx v1)) = (7 : Int32) then 19 else 21), [.ref (187), .int v1], [], mk b S1)) rfl hok ?_
    by_cases hc : (S1.1 208 (mIx v1)) = (7 : Int32)
    · rw [if_pos hc] at hf ⊢
      exact mfor (L' := [.retAddr 0, .retAddr 0]) ⟨Or.inl rfl, Or.inl rfl, trivial⟩ (bX12_comes_19 C hr hk hf true)
    · rw [if_neg hc] at hf ⊢
      refine msegT C kX12_comes 12 1 (g := (true, 22, [.ref (187), .int v1], [.ref (187)], mk b S1)) rfl rfl ?_
      obtain ⟨S3, hq, hf⟩ := bndV_ex hf
      refine mcall (kd := 0) (vs := [.ref (187)]) (rest := []) (r := none) (h' := mk b S3) (ok' := true) C lkRX12_403 (qX12_act hq) (kX12_comes _ (List.mem_of_getElem? (i := 13) rfl)).1 ⟨_, _, rfl, rfl, Nat.le_of_ble_eq_true rfl, _, _, rfl, rfl, rfl⟩ (Nat.le_of_ble_eq_true rfl) (Nat.le_of_ble_eq_true rfl) (Nat.le_refl _) (Nat.le_refl _) (Nat.le_of_ble_eq_true rfl) ?_
      obtain ⟨hok, hf⟩ := grd_ex hf
      refine msegT C kX12_comes 14 8 (g := ((kI 208 v1 && (kI 208 v1 && (kO 187 12 && true))), 35, [.ref (187), .int v1], [], mk b (sI S3 208 (mIx v1) ((S3.1 208 (mIx v1)) + (1 : Int32))))) rfl hok ?_
      obtain ⟨S4, eS4, hf⟩ := bnd_ex hf
      rw [← eS4]
      obtain ⟨hok, hf⟩ := grd_ex hf
      refine msegT C kX12_comes 22 4 (g := ((kI 208 v1 && (kO 187 12 && true)), 41, [.ref (187), .int v1], [.int (S4.1 208 (mIx v1))], mk b S4)) rfl hok ?_
      cases hf
      exact gret_i C hr hk (kX12_comes _ (List.mem_of_getElem? (i := 26) rfl)).1
theorem qX12_comes {b : Bool} {v1 : Int32} {S S' : mT} {r : Int32} (hf : fX12_comes v1 S = some (r, S')) : mOk l mX12_comes 3 [.ref (187), .int v1] b S (some (.int r)) S' :=
  gMet (by decide) (Nat.le_of_ble_eq_true rfl) rfl (Nat.le_of_ble_eq_true rfl) (fun p e s m args below meth c G C hr hk => bX12_comes_0 C hr hk hf true)
theorem bX12_common_4 (C : mCx p (mR 1) s m args meth c G cX12_common RX12 5 false 233 54500 233 54500) (hr : meth.sig.returnType = (some .int)) (hk : meth.locks = false) {b : Bool} {S' : mT} {r : Int32} : ∀ (k : Nat) (v2 : Int32) (v3 : Int32) (S : mT), fX12_common_4 k v2 v3 S = some (r, S') → ∀ ok : Bool, mW p l e (mR 1) s m args below meth c G 5 233 54500 (mQ below G args s b S' (some (.int r))) (ok, 4, [.retAddr 0, .retAddr 0, .int v2, .int v3, .retAddr 0], [], mk b S) := by
  intro k
  induction k with
  | zero =>
    intro v2 v3 S hf ok
    cases hf
  | succ k ih =>
    intro v2 v3 S hf ok
    unfold fX12_common_4 at hf
    refine msegT C kX12_common 4 2 (g := (true, (if v3 ≤ 0 then 21 else 8), [.retAddr 0, .retAddr 0, .int v2, .int v3, .retAddr 0], [], mk b S)) rfl rfl ?_
    by_cases hc : v3 ≤ 0
    · rw [if_pos hc] at hf ⊢
      refine msegT C kX12_common 15 1 (g := (true, 22, [.retAddr 0, .retAddr 0, .int v2, .int v3, .retAddr 0], [.int v2], mk b S)) rfl rfl ?_
      cases hf
      exact gret_i C hr hk (kX12_common _ (List.mem_of_getElem? (i := 16) rfl)).1
    · rw [if_neg hc] at hf ⊢
      obtain ⟨hok, hf⟩ := grd_ex hf
      refine msegT C kX12_common 6 4 (g := ((decide (¬ v3 = 0) && true), 13, [.retAddr 0, .retAddr 0, .int v2, .int v3, .int (v2 - v2 / v3 * v3)], [], mk b S)) rfl hok ?_
      obtain ⟨x1, ex1, hf⟩ := bnd_ex hf
      rw [← ex1]
      refine msegT C kX12_common 10 5 (g := (true, 4, [.retAddr 0, .retAddr 0, .int v3, .int x1, .int x1], [], mk b S)) rfl rfl ?_
      exact mfor (L' := [.retAddr 0, .retAddr 0, .int v3, .int x1, .retAddr 0]) ⟨Or.inl rfl, Or.inl rfl, Or.inr rfl, Or.inr rfl, Or.inl rfl, trivial⟩ (ih _ _ _ hf true)
theorem bX12_common_0 (C : mCx p (mR 1) s m args meth c G cX12_common RX12 5 false 233 54500 233 54500) (hr : meth.sig.returnType = (some .int)) (hk : meth.locks = false) {b : Bool} {S' : mT} {r : Int32} {v0 : Int32} {v1 : Int32} {S : mT} (hf : fX12_common v0 v1 S = some (r, S')) (ok : Bool) : mW p l e (mR 1) s m args below meth c G 5 233 54500 (mQ below G args s b S' (some (.int r))) (ok, 0, [.int v0, .int v1, .retAddr 0, .retAddr 0, .retAddr 0], [], mk b S) := by
  unfold fX12_common at hf
  refine msegT C kX12_common 0 4 (g := (true, 4, [.int v0, .int v1, .int v0, .int v1, .retAddr 0], [], mk b S)) rfl rfl ?_
  exact mfor (L' := [.retAddr 0, .retAddr 0, .int v0, .int v1, .retAddr 0]) ⟨Or.inl rfl, Or.inl rfl, Or.inr rfl, Or.inr rfl, Or.inl rfl, trivial⟩ (bX12_common_4 C hr hk _ _ _ _ hf true)
theorem qX12_common {b : Bool} {v0 : Int32} {v1 : Int32} {S S' : mT} {r : Int32} (hf : fX12_common v0 v1 S = some (r, S')) : mOk l mX12_common 1 [.int v0, .int v1] b S (some (.int r)) S' :=
  gMet (by decide) (Nat.le_of_ble_eq_true rfl) rfl (Nat.le_of_ble_eq_true rfl) (fun p e s m args below meth c G C hr hk => bX12_common_0 C hr hk hf true)
theorem bX12_countUnit_0 (C : mCx p (mR 1) s m args meth c G cX12_countUnit RX12 1 false 233 54500 233 54500) (hr : meth.sig.returnType = none) (hk : meth.locks = false) {b : Bool} {S' : mT} {S : mT} (hf : fX12_countUnit S = some S') (ok : Bool) : mW p l e (mR 1) s m args below meth c G 1 233 54500 (mQ below G args s b S' none) (ok, 0, [.ref (187)], [], mk b S) := by
  unfold fX12_countUnit at hf
  obtain ⟨hok, hf⟩ := grd_ex hf
  refine msegT C kX12_countUnit 0 6 (g := ((kO 187 12 && (kO 187 12 && true)), 10, [.ref (187)], [], mk b (sI S 187 23 ((S.1 187 23) + (1 : Int32))))) rfl hok ?_
  obtain ⟨S1, eS1, hf⟩ := bnd_ex hf
  rw [← eS1]
  obtain ⟨hok, hf⟩ := grd_ex hf
  refine msegT C kX12_countUnit 6 6 (g := ((kO 187 12 && (kO 187 12 && true)), 20, [.ref (187)], [], mk b (sI S1 187 25 ((S1.1 187 25) + (1 : Int32))))) rfl hok ?_
  obtain ⟨S2, eS2, hf⟩ := bnd_ex hf
  rw [← eS2]
  cases hf
  exact gret_v C hr hk (kX12_countUnit _ (List.mem_of_getElem? (i := 12) rfl)).1
theorem qX12_countUnit {b : Bool} {S S' : mT} (hf : fX12_countUnit S = some S') : mOk l mX12_countUnit 1 [.ref (187)] b S none S' :=
  gMet (by decide) (Nat.le_of_ble_eq_true rfl) rfl (Nat.le_of_ble_eq_true rfl) (fun p e s m args below meth c G C hr hk => bX12_countUnit_0 C hr hk hf true)
theorem bX12_countersRows_4 (C : mCx p (mR 1) s m args meth c G cX12_countersRows RX12 3 false 233 54500 233 54500) (hr : meth.sig.returnType = (some .int)) (hk : meth.locks = false) {b : Bool} {S' : mT} {r : Int32} : ∀ (k : Nat) (v1 : Int32) (v2 : Int32) (S : mT), fX12_countersRows_4 k v1 v2 S = some (r, S') → ∀ ok : Bool, mW p l e (mR 1) s m args below meth c G 3 233 54500 (mQ below G args s b S' (some (.int r))) (ok, 4, [.ref (187), .int v1, .int v2], [], mk b S) := by
  intro k
  induction k with
  | zero =>
    intro v1 v2 S hf ok
    cases hf
  | succ k ih =>
    intro v1 v2 S hf ok
    unfold fX12_countersRows_4 at hf
    obtain ⟨hok, hf⟩ := grd_ex hf
    refine msegT C kX12_countersRows 4 4 (g := ((kO 187 12 && true), (if (S.1 187 37) ≤ v2 then 22 else 12), [.ref (187), .int v1, .int v2], [], mk b S)) rfl hok ?_
    by_cases hc : (S.1 187 37) ≤ v2
    · rw [if_pos hc] at hf ⊢
      refine msegT C kX12_countersRows 14 1 (g := (true, 23, [.ref (187), .int v1, .int v2], [.int v1], mk b S)) rfl rfl ?_
      cases hf
      exact gret_i C hr hk (kX12_countersRows _ (List.mem_of_getElem? (i := 15) rfl)).1
    · rw [if_neg hc] at hf ⊢
      refine msegT C kX12_countersRows 8 4 (g := (true, 16, [.ref (187), .int (v1 * (5 : Int32)), .int v2], [], mk b S)) rfl rfl ?_
      obtain ⟨x1, ex1, hf⟩ := bnd_ex hf
      rw [← ex1]
      refine msegT C kX12_countersRows 12 1 (g := (true, 19, [.ref (187), .int x1, .int (v2 + (1 : Int32))], [], mk b S)) rfl rfl ?_
      obtain ⟨x2, ex2, hf⟩ := bnd_ex hf
      rw [← ex2]
      refine msegT C kX12_countersRows 13 1 (g := (true, 4, [.ref (187), .int x1, .int x2], [], mk b S)) rfl rfl ?_
      exact mfor (L' := [.ref (187), .int x1, .int x2]) ⟨Or.inr rfl, Or.inr rfl, Or.inr rfl, trivial⟩ (ih _ _ _ hf true)
theorem bX12_countersRows_0 (C : mCx p (mR 1) s m args meth c G cX12_countersRows RX12 3 false 233 54500 233 54500) (hr : meth.sig.returnType = (some .int)) (hk : meth.locks = false) {b : Bool} {S' : mT} {r : Int32} {S : mT} (hf : fX12_countersRows S = some (r, S')) (ok : Bool) : mW p l e (mR 1) s m args below meth c G 3 233 54500 (mQ below G args s b S' (some (.int r))) (ok, 0, [.ref (187), .retAddr 0, .retAddr 0], [], mk b S) := by
  unfold fX12_countersRows at hf
  refine msegT C kX12_countersRows 0 4 (g := (true, 4, [.ref (187), .int (1 : Int32), .int (0 : Int32)], [], mk b S)) rfl rfl ?_
  exact mfor (L' := [.ref (187), .int (1 : Int32), .int (0 : Int32)]) ⟨Or.inr rfl, Or.inr rfl, Or.inr rfl, trivial⟩ (bX12_countersRows_4 C hr hk _ _ _ _ hf true)
theorem qX12_countersRows {b : Bool} {S S' : mT} {r : Int32} (hf : fX12_countersRows S = some (r, S')) : mOk l mX12_countersRows 1 [.ref (187)] b S (some (.int r)) S' :=
  gMet (by decide) (Nat.le_of_ble_eq_true rfl) rfl (Nat.le_of_ble_eq_true rfl) (fun p e s m args below meth c G C hr hk => bX12_countersRows_0 C hr hk hf true)
theorem bX12_doneAt_78 (C : mCx p (mR 1) s m args meth c G cX12_doneAt RX12 6 false 233 54500 233 54500) (hr : meth.sig.returnType = (some .int)) (hk : meth.locks = false) {b : Bool} {S' : mT} {r : Int32} {rc4 : Int32 → Int32 → mT → Option (Int32 × mT)} (Hrc4 : ∀ (v1 : Int32) (v2 : Int32) (S : mT), rc4 v1 v2 S = some (r, S') → ∀ ok : Bool, mW p l e (mR 1) s m args below meth c G 6 233 54500 (mQ below G args s b S' (some (.int r))) (ok, 4, [.ref (187), .int v1, .int v2, .retAddr 0, .retAddr 0, .retAddr 0], [], mk b S)) {rc17 : Int32 → Int32 → Int32 → Int32 → Int32 → mT → Option (Int32 × mT)} (Hrc17 : ∀ (v1 : Int32) (v2 : Int32) (v3 : Int32) (v4 : Int32) (v5 : Int32) (S : mT), rc17 v1 v2 v3 v4 v5 S = some (r, S') → ∀ ok : Bool, mW p l e (mR 1) s m args below meth c G 6 233 54500 (mQ below G args s b S' (some (.int r))) (ok, 17, [.ref (187), .int v1, .int v2, .int v3, .int v4, .int v5], [], mk b S)) {v1 : Int32} {v2 : Int32} {v3 : Int32} {v4 : Int32} {v5 : Int32} {S : mT} (hf : fX12_doneAt_78 rc4 rc17 v1 v2 v3 v4 v5 S = some (r, S')) (ok : Bool) : mW p l e (mR 1) s m args below meth c G 6 233 54500 (mQ below G args s b S' (some (.int r))) (ok, 78, [.ref (187), .int v1, .int v2, .int v3, .int v4, .int v5], [], mk b S) := by
  unfold fX12_doneAt_78 at hf
  refine msegT C kX12_doneAt 46 1 (g := (true, 81, [.ref (187), .int v1, .int v2, .int v3, .int v4, .int (v5 + (1 : Int32))], [], mk b S)) rfl rfl ?_
  obtain ⟨x3, ex3, hf⟩ := bnd_ex hf
  rw [← ex3]
  refine msegT C kX12_doneAt 47 1 (g := (true, 17, [.ref (187), .int v1, .int v2, .int v3, .int v4, .int x3], [], mk b S)) rfl rfl ?_
  exact mfor (L' := [.ref (187), .int v1, .int v2, .int v3, .int v4, .int x3]) ⟨Or.inr rfl, Or.inr rfl, Or.inr rfl, Or.inr rfl, Or.inr rfl, Or.inr rfl, trivial⟩ (Hrc17 _ _ _ _ _ _ hf true)
theorem bX12_doneAt_62 (C : mCx p (mR 1) s m args meth c G cX12_doneAt RX12 6 false 233 54500 233 54500) (hr : meth.sig.returnType = (some .int)) (hk : meth.locks = false) {b : Bool} {S' : mT} {r : Int32} {rc4 : Int32 → Int32 → mT → Option (Int32 × mT)} (Hrc4 : ∀ (v1 : Int32) (v2 : Int32) (S : mT), rc4 v1 v2 S = some (r, S') → ∀ ok : Bool, mW p l e (mR 1) s m args below meth c G 6 233 54500 (mQ below G args s b S' (some (.int r))) (ok, 4, [.ref (187), .int v1, .int v2, .retAddr 0, .retAddr 0, .retAddr 0], [], mk b S)) {rc17 : Int32 → Int32 → Int32 → Int32 → Int32 → mT → Option (Int32 × mT)} (Hrc17 : ∀ (v1 : Int32) (v2 : Int32) (v3 : Int32) (v4 : Int32) (v5 : Int32) (S : mT), rc17 v1 v2 v3 v4 v5 S = some (r, S') → ∀ ok : Bool, mW p l e (mR 1) s m args below meth c G 6 233 54500 (mQ below G args s b S' (some (.int r))) (ok, 17, [.ref (187), .int v1, .int v2, .int v3, .int v4, .int v5], [], mk b S)) {v1 : Int32} {v2 : Int32} {v4 : Int32} {v5 : Int32} {s0 : Int32} {S : mT} (hf : fX12_doneAt_62 rc4 rc17 v1 v2 v4 v5 s0 S = some (r, S')) (ok : Bool) : mW p l e (mR 1) s m args below meth c G 6 233 54500 (mQ below G args s b S' (some (.int r))) (ok, 62, [.ref (187), .int v1, .int v2, .retAddr 0, .int v4, .int v5], [.int s0], mk b S) := by
  unfold fX12_doneAt_62 at hf
  obtain ⟨hok, hf⟩ := grd_ex hf
  refine msegT C kX12_doneAt 36 10 (g := ((kI 208 ((10 : Int32) + v5) && (kO 187 12 && true)), 78, [.ref (187), .int v1, .int v2, .int s0, .int (v4 + (S.1 208 (mIx ((10 : Int32) + v5)))), .int v5], [], mk b S)) rfl hok ?_
  obtain ⟨x2, ex2, hf⟩ := bnd_ex hf
  rw [← ex2]
  exact mfor (L' := [.ref (187), .int v1, .int v2, .int s0, .int x2, .int v5]) ⟨Or.inr rfl, Or.inr rfl, Or.inr rfl, Or.inr rfl, Or.inr rfl, Or.inr rfl, trivial⟩ (bX12_doneAt_78 C hr hk Hrc4 Hrc17 hf true)
theorem bX12_doneAt_100 (C : mCx p (mR 1) s m args meth c G cX12_doneAt RX12 6 false 233 54500 233 54500) (hr : meth.sig.returnType = (some .int)) (hk : meth.locks = false) {b : Bool} {S' : mT} {r : Int32} {rc4 : Int32 → Int32 → mT → Option (Int32 × mT)} (Hrc4 : ∀ (v1 : Int32) (v2 : Int32) (S : mT), rc4 v1 v2 S = some (r, S') → ∀ ok : Bool, mW p l e (mR 1) s m args below meth c G 6 233 54500 (mQ below G args s b S' (some (.int r))) (ok, 4, [.ref (187), .int v1, .int v2, .retAddr 0, .retAddr 0, .retAddr 0], [], mk b S)) {v2 : Int32} {s0 : Int32} {S : mT} (hf : fX12_doneAt_100 rc4 v2 s0 S = some (r, S')) (ok : Bool) : mW p l e (mR 1) s m args below meth c G 6 233 54500 (mQ below G args s b S' (some (.int r))) (ok, 100, [.ref (187), .retAddr 0, .int v2, .retAddr 0, .retAddr 0, .retAddr 0], [.int s0], mk b S) := by
  unfold fX12_doneAt_100 at hf
  refine msegT C kX12_doneAt 58 2 (g := (true, 104, [.ref (187), .int s0, .int (v2 + (1 : Int32)), .retAddr 0, .retAddr 0, .retAddr 0], [], mk b S)) rfl rfl ?_
  obtain ⟨x1, ex1, hf⟩ := bnd_ex hf
  rw [← ex1]
  refine msegT C kX12_doneAt 60 1 (g := (true, 4, [.ref (187), .int s0, .int x1, .retAddr 0, .retAddr 0, .retAddr 0], [], mk b S)) rfl rfl ?_
  exact mfor (L' := [.ref (187), .int s0, .int x1, .retAddr 0, .retAddr 0, .retAddr 0]) ⟨Or.inr rfl, Or.inr rfl, Or.inr rfl, Or.inl rfl, Or.inl rfl, Or.inl rfl, trivial⟩ (Hrc4 _ _ _ hf true)
theorem bX12_doneAt_17 (C : mCx p (mR 1) s m args meth c G cX12_doneAt RX12 6 false 233 54500 233 54500) (hr : meth.sig.returnType = (some .int)) (hk : meth.locks = false) {b : Bool} {S' : mT} {r : Int32} {rc4 : Int32 → Int32 → mT → Option (Int32 × mT)} (Hrc4 : ∀ (v1 : Int32) (v2 : Int32) (S : mT), rc4 v1 v2 S = some (r, S') → ∀ ok : Bool, mW p l e (mR 1) s m args below meth c G 6 233 54500 (mQ below G args s b S' (some (.int r))) (ok, 4, [.ref (187), .int v1, .int v2, .retAddr 0, .retAddr 0, .retAddr 0], [], mk b S)) : ∀ (k : Nat) (v1 : Int32) (v2 : Int32) (v3 : Int32) (v4 : Int32) (v5 : Int32) (S : mT), fX12_doneAt_17 rc4 k v1 v2 v3 v4 v5 S = some (r, S') → ∀ ok : Bool, mW p l e (mR 1) s m args below meth c G 6 233 54500 (mQ below G args s b S' (some (.int r))) (ok, 17, [.ref (187), .int v1, .int v2, .int v3, .int v4, .int v5], [], mk b S) := by
  intro k
  induction k with
  | zero =>
    intro v1 v2 v3 v4 v5 S hf ok
    cases hf
  | succ k ih =>
    intro v1 v2 v3 v4 v5 S hf ok
    unfold fX12_doneAt_17 at hf
    obtain ⟨hok, hf⟩ := grd_ex hf
    refine msegT C kX12_doneAt 13 4 (g := ((kO 187 12 && true), (if (S.1 187 37) ≤ v5 then 84 else 26), [.ref (187), .int v1, .int v2, .int v3, .int v4, .int v5], [], mk b S)) rfl hok ?_
    by_cases hc : (S.1 187 37) ≤ v5
    · rw [if_pos hc] at hf ⊢
      refine msegT C kX12_doneAt 48 5 (g := (true, (if (v3 + v4) ≤ v1 then 99 else 92), [.ref (187), .int v1, .int v2, .int v3, .int v4, .int v5], [], mk b S)) rfl rfl ?_
      by_cases hc : (v3 + v4) ≤ v1
      · rw [if_pos hc] at hf ⊢
        refine msegT C kX12_doneAt 57 1 (g := (true, 100, [.ref (187), .int v1, .int v2, .int v3, .int v4, .int v5], [.int v1], mk b S)) rfl rfl ?_
        exact mfor (L' := [.ref (187), .retAddr 0, .int v2, .retAddr 0, .retAddr 0, .retAddr 0]) ⟨Or.inr rfl, Or.inl rfl, Or.inr rfl, Or.inl rfl, Or.inl rfl, Or.inl rfl, trivial⟩ (bX12_doneAt_100 C hr hk Hrc4 hf true)
      · rw [if_neg hc] at hf ⊢
        refine msegT C kX12_doneAt 53 4 (g := (true, 100, [.ref (187), .int v1, .int v2, .int v3, .int v4, .int v5], [.int (v3 + v4)], mk b S)) rfl rfl ?_
        exact mfor (L' := [.ref (187), .retAddr 0, .int v2, .retAddr 0, .retAddr 0, .retAddr 0]) ⟨Or.inr rfl, Or.inl rfl, Or.inr rfl, Or.inl rfl, Or.inl rfl, Or.inl rfl, trivial⟩ (bX12_doneAt_100 C hr hk Hrc4 hf true)
    · rw [if_neg hc] at hf ⊢
      obtain ⟨hok, hf⟩ := grd_ex hf
      refine msegT C kX12_doneAt 17 6 (g := ((kI 216 v5 && (kO 187 12 && true)), (if (S.1 216 (mIx v5)) = v2 then 40 else 37), [.ref (187), .int v1, .int v2, .int v3, .int v4, .int v5], [], mk b S)) rfl hok ?_
      by_cases hc : (S.1 216 (mIx v5)) = v2
      · rw [if_pos hc] at hf ⊢
        obtain ⟨hok, hf⟩ := grd_ex hf
        refine msegT C kX12_doneAt 24 6 (g := ((kI 205 v5 && (kO 187 12 && true)), (if (S.1 205 (mIx v5)) ≤ v3 then 61 else 51), [.ref (187), .int v1, .int v2, .int v3, .int v4, .int v5], [], mk b S)) rfl hok ?_
        by_cases hc : (S.1 205 (mIx v5)) ≤ v3
        · rw [if_pos hc] at hf ⊢
          refine msegT C kX12_doneAt 35 1 (g := (true, 62, [.ref (187), .int v1, .int v2, .int v3, .int v4, .int v5], [.int v3], mk b S)) rfl rfl ?_
          exact mfor (L' := [.ref (187), .int v1, .int v2, .retAddr 0, .int v4, .int v5]) ⟨Or.inr rfl, Or.inr rfl, Or.inr rfl, Or.inl rfl, Or.inr rfl, Or.inr rfl, trivial⟩ (bX12_doneAt_62 C hr hk Hrc4 ih hf true)
        · rw [if_neg hc] at hf ⊢
          obtain ⟨hok, hf⟩ := grd_ex hf
          refine msegT C kX12_doneAt 30 5 (g := ((kI 205 v5 && (kO 187 12 && true)), 62, [.ref (187), .int v1, .int v2, .int v3, .int v4, .int v5], [.int (S.1 205 (mIx v5))], mk b S)) rfl hok ?_
          exact mfor (L' := [.ref (187), .int v1, .int v2, .retAddr 0, .int v4, .int v5]) ⟨Or.inr rfl, Or.inr rfl, Or.inr rfl, Or.inl rfl, Or.inr rfl, Or.inr rfl, trivial⟩ (bX12_doneAt_62 C hr hk Hrc4 ih hf true)
      · rw [if_neg hc] at hf ⊢
        refine msegT C kX12_doneAt 23 1 (g := (true, 78, [.ref (187), .int v1, .int v2, .int v3, .int v4, .int v5], [], mk b S)) rfl rfl ?_
        exact mfor (L' := [.ref (187), .int v1, .int v2, .int v3, .int v4, .int v5]) ⟨Or.inr rfl, Or.inr rfl, Or.inr rfl, Or.inr rfl, Or.inr rfl, Or.inr rfl, trivial⟩ (bX12_doneAt_78 C hr hk Hrc4 ih hf true)
theorem bX12_doneAt_4 (C : mCx p (mR 1) s m args meth c G cX12_doneAt RX12 6 false 233 54500 233 54500) (hr : meth.sig.returnType = (some .int)) (hk : meth.locks = false) {b : Bool} {S' : mT} {r : Int32} : ∀ (k : Nat) (v1 : Int32) (v2 : Int32) (S : mT), fX12_doneAt_4 k v1 v2 S = some (r, S') → ∀ ok : Bool, mW p l e (mR 1) s m args below meth c G 6 233 54500 (mQ below G args s b S' (some (.int r))) (ok, 4, [.ref (187), .int v1, .int v2, .retAddr 0, .retAddr 0, .retAddr 0], [], mk b S) := by
  intro k
  induction k with
  | zero =>
    intro v1 v2 S hf ok
    cases hf
  | succ k ih =>
    intro v1 v2 S hf ok
    unfold fX12_doneAt_4 at hf
    refine msegT C kX12_doneAt 4 3 (g := (true, (if (5 : Int32) ≤ v2 then 107 else 9), [.ref (187), .int v1, .int v2, .retAddr 0, .retAddr 0, .retAddr 0], [], mk b S)) rfl rfl ?_
    by_cases hc : (5 : Int32) ≤ v2
    · rw [if_pos hc] at hf ⊢
      refine msegT C kX12_doneAt 61 1 (g := (true, 108, [.ref (187), .int v1, .int v2, .retAddr 0, .retAddr 0, .retAddr 0], [.int v1], mk b S)) rfl rfl ?_
      cases hf
      exact gret_i C hr hk (kX12_doneAt _ (List.mem_of_getElem? (i := 62) rfl)).1
    · rw [if_neg hc] at hf ⊢
      refine msegT C kX12_doneAt 7 6 (g := (true, 17, [.ref (187), .int v1, .int v2, .int (0 : Int32), .int (0 : Int32), .int (0 : Int32)], [], mk b S)) rfl rfl ?_
      exact mfor (L' := [.ref (187), .int v1, .int v2, .int (0 : Int32), .int (0 : Int32), .int (0 : Int32)]) ⟨Or.inr rfl, Or.inr rfl, Or.inr rfl, Or.inr rfl, Or.inr rfl, Or.inr rfl, trivial⟩ (bX12_doneAt_17 C hr hk ih _ _ _ _ _ _ _ hf true)
theorem bX12_doneAt_0 (C : mCx p (mR 1) s m args meth c G cX12_doneAt RX12 6 false 233 54500 233 54500) (hr : meth.sig.returnType = (some .int)) (hk : meth.locks = false) {b : Bool} {S' : mT} {r : Int32} {S : mT} (hf : fX12_doneAt S = some (r, S')) (ok : Bool) : mW p l e (mR 1) s m args below meth c G 6 233 54500 (mQ below G args s b S' (some (.int r))) (ok, 0, [.ref (187), .retAddr 0, .retAddr 0, .retAddr 0, .retAddr 0, .retAddr 0], [], mk b S) := by
  unfold fX12_doneAt at hf
  refine msegT C kX12_doneAt 0 4 (g := (true, 4, [.ref (187), .int (0 : Int32), .int (0 : Int32), .retAddr 0, .retAddr 0, .retAddr 0], [], mk b S)) rfl rfl ?_
  exact mfor (L' := [.ref (187), .int (0 : Int32), .int (0 : Int32), .retAddr 0, .retAddr 0, .retAddr 0]) ⟨Or.inr rfl, Or.inr rfl, Or.inr rfl, Or.inl rfl, Or.inl rfl, Or.inl rfl, trivial⟩ (bX12_doneAt_4 C hr hk _ _ _ _ hf true)
theorem qX12_doneAt {b : Bool} {S S' : mT} {r : Int32} (hf : fX12_doneAt S = some (r, S')) : mOk l mX12_doneAt 1 [.ref (187)] b S (some (.int r)) S' :=
  gMet (by decide) (Nat.le_of_ble_eq_true rfl) rfl (Nat.le_of_ble_eq_true rfl) (fun p e s m args below meth c G C hr hk => bX12_doneAt_0 C hr hk hf true)
theorem bX12_without_42 (C : mCx p (mR 2) s m args meth c G cX12_without RX12 5 false 233 54500 233 54500) (hr : meth.sig.returnType = (some .int)) (hk : meth.locks = false) {b : Bool} {S' : mT} {r : Int32} {rc9 : Int32 → Int32 → Int32 → Int32 → mT → Option (Int32 × mT)} (Hrc9 : ∀ (v1 : Int32) (v2 : Int32) (v3 : Int32) (v4 : Int32) (S : mT), rc9 v1 v2 v3 v4 S = some (r, S') → ∀ ok : Bool, mW p l e (mR 2) s m args below meth c G 5 233 54500 (mQ below G args s b S' (some (.int r))) (ok, 9, [.ref (187), .int v1, .int v2, .int v3, .int v4], [], mk b S)) {v1 : Int32} {v2 : Int32} {v4 : Int32} {s0 : Int32} {s1 : Int32} {S : mT} (hf : fX12_without_42 rc9 v1 v2 v4 s0 s1 S = some (r, S')) (ok : Bool) : mW p l e (mR 2) s m args below meth c G 5 233 54500 (mQ below G args s b S' (some (.int r))) (ok, 42, [.ref (187), .int v1, .int v2, .retAddr 0, .int v4], [.int s0, .int s1], mk b S) := by
  unfold fX12_without_42 at hf
  obtain ⟨x5, S4, hq, hf⟩ := bndC_ex hf
  refine mcall (kd := 1) (vs := [.int s0]) (rest := [.int s1]) (r := (some (.int x5))) (h' := mk b S4) (ok' := true) C lkRX12_307 (qX12_truth hq) (kX12_without _ (List.mem_of_getElem? (i := 25) rfl)).1 rfl (Nat.le_of_ble_eq_true rfl) (Nat.le_of_ble_eq_true rfl) (Nat.le_refl _) (Nat.le_refl _) (Nat.le_of_ble_eq_true rfl) ?_
  refine msegT C kX12_without 26 4 (g := (true, 50, [.ref (187), .int v1, .int v2, .int (s1 ||| (x5 <<< (v4 &&& 31))), .int v4], [], mk b S4)) rfl rfl ?_
  obtain ⟨x6, ex6, hf⟩ := bnd_ex hf
  rw [← ex6]
  refine msegT C kX12_without 30 1 (g := (true, 53, [.ref (187), .int v1, .int v2, .int x6, .int (v4 + (1 : Int32))], [], mk b S4)) rfl rfl ?_
  obtain ⟨x7, ex7, hf⟩ := bnd_ex hf
  rw [← ex7]
  refine msegT C kX12_without 31 1 (g := (true, 9, [.ref (187), .int v1, .int v2, .int x6, .int x7], [], mk b S4)) rfl rfl ?_
  exact mfor (L' := [.ref (187), .int v1, .int v2, .int x6, .int x7]) ⟨Or.inr rfl, Or.inr rfl, Or.inr rfl, Or.inr rfl, Or.inr rfl, trivial⟩ (Hrc9 _ _ _ _ _ hf true)
theorem bX12_without_9 (C : mCx p (mR 2) s m args meth c G cX12_without RX12 5 false 233 54500 233 54500) (hr : meth.sig.returnType = (some .int)) (hk : meth.locks = false) {b : Bool} {S' : mT} {r : Int32} : ∀ (k : Nat) (v1 : Int32) (v2 : Int32) (v3 : Int32) (v4 : Int32) (S : mT), fX12_without_9 k v1 v2 v3 v4 S = some (r, S') → ∀ ok : Bool, mW p l e (mR 2) s m args below meth c G 5 233 54500 (mQ below G args s b S' (some (.int r))) (ok, 9, [.ref (187), .int v1, .int v2, .int v3, .int v4], [], mk b S) := by
  intro k
  induction k with
  | zero =>
    intro v1 v2 v3 v4 S hf ok
    cases hf
  | succ k ih =>
    intro v1 v2 v3 v4 S hf ok
    unfold fX12_without_9 at hf
    obtain ⟨hok, hf⟩ := grd_ex hf
    refine msegT C kX12_without 6 4 (g := ((kO 187 12 && true), (if (S.1 187 37) ≤ v4 then 56 else 18), [.ref (187), .int v1, .int v2, .int v3, .int v4], [], mk b S)) rfl hok ?_
    by_cases hc : (S.1 187 37) ≤ v4
    · rw [if_pos hc] at hf ⊢
      refine msegT C kX12_without 32 1 (g := (true, 57, [.ref (187), .int v1, .int v2, .int v3, .int v4], [.int v3], mk b S)) rfl rfl ?_
      cases hf
      exact gret_i C hr hk (kX12_without _ (List.mem_of_getElem? (i := 33) rfl)).1
    · rw [if_neg hc] at hf ⊢
      refine msegT C kX12_without 10 2 (g := (true, 20, [.ref (187), .int v1, .int v2, .int v3, .int v4], [.ref (187), .int v3], mk b S)) rfl rfl ?_
      obtain ⟨x3, S2, hq, hf⟩ := bndC_ex hf
      refine mcall (kd := 0) (vs := [.ref (187)]) (rest := [.int v3]) (r := (some (.int x3))) (h' := mk b S2) (ok' := true) C lkRX12_415 (qX12_allBowls hq) (kX12_without _ (List.mem_of_getElem? (i := 12) rfl)).1 ⟨_, _, rfl, rfl, Nat.le_of_ble_eq_true rfl, _, _, rfl, rfl, rfl⟩ (Nat.le_of_ble_eq_true rfl) (Nat.le_of_ble_eq_true rfl) (Nat.le_refl _) (Nat.le_refl _) (Nat.le_of_ble_eq_true rfl) ?_
      obtain ⟨hok, hf⟩ := grd_ex hf
      refine msegT C kX12_without 13 9 (g := ((kI 211 v4 && (kO 187 12 && true)), (if (x3 + (v2 * (S2.1 211 (mIx v4)))) = v1 then 37 else 41), [.ref (187), .int v1, .int v2, .int v3, .int v4], [.int v3], mk b S2)) rfl hok ?_
      by_cases hc : (x3 + (v2 * (S2.1 211 (mIx v4)))) = v1
      · rw [if_pos hc] at hf ⊢
        refine msegT C kX12_without 22 2 (g := (true, 42, [.ref (187), .int v1, .int v2, .int v3, .int v4], [.int (1 : Int32), .int v3], mk b S2)) rfl rfl ?_
        exact mfor (L' := [.ref (187), .int v1, .int v2, .retAddr 0, .int v4]) ⟨Or.inr rfl, Or.inr rfl, Or.inr rfl, Or.inl rfl, Or.inr rfl, trivial⟩ (bX12_without_42 C hr hk ih hf true)
      · rw [if_neg hc] at hf ⊢
        refine msegT C kX12_without 24 1 (g := (true, 42, [.ref (187), .int v1, .int v2, .int v3, .int v4], [.int (0 : Int32), .int v3], mk b S2)) rfl rfl ?_
        exact mfor (L' := [.ref (187), .int v1, .int v2, .retAddr 0, .int v4]) ⟨Or.inr rfl, Or.inr rfl, Or.inr rfl, Or.inl rfl, Or.inr rfl, trivial⟩ (bX12_without_42 C hr hk ih hf true)
theorem bX12_without_0 (C : mCx p (mR 2) s m args meth c G cX12_without RX12 5 false 233 54500 233 54500) (hr : meth.sig.returnType = (some .int)) (hk : meth.locks = false) {b : Bool} {S' : mT} {r : Int32} {v1 : Int32} {v2 : Int32} {S : mT} (hf : fX12_without v1 v2 S = some (r, S')) (ok : Bool) : mW p l e (mR 2) s m args below meth c G 5 233 54500 (mQ below G args s b S' (some (.int r))) (ok, 0, [.ref (187), .int v1, .int v2, .retAddr 0, .retAddr 0], [], mk b S) := by
  unfold fX12_without at hf
  refine msegT C kX12_without 0 1 (g := (true, 1, [.ref (187), .int v1, .int v2, .retAddr 0, .retAddr 0], [.ref (187)], mk b S)) rfl rfl ?_
  obtain ⟨S1, hq, hf⟩ := bndV_ex hf
  refine mcall (kd := 0) (vs := [.ref (187)]) (rest := []) (r := none) (h' := mk b S1) (ok' := true) C lkRX12_391 (qX12_load hq) (kX12_without _ (List.mem_of_getElem? (i := 1) rfl)).1 ⟨_, _, rfl, rfl, Nat.le_of_ble_eq_true rfl, _, _, rfl, rfl, rfl⟩ (Nat.le_of_ble_eq_true rfl) (Nat.le_of_ble_eq_true rfl) (Nat.le_refl _) (Nat.le_refl _) (Nat.le_of_ble_eq_true rfl) ?_
  refine msegT C kX12_without 2 4 (g := (true, 9, [.ref (187), .int v1, .int v2, .int (0 : Int32), .int (0 : Int32)], [], mk b S1)) rfl rfl ?_
  exact mfor (L' := [.ref (187), .int v1, .int v2, .int (0 : Int32), .int (0 : Int32)]) ⟨Or.inr rfl, Or.inr rfl, Or.inr rfl, Or.inr rfl, Or.inr rfl, trivial⟩ (bX12_without_9 C hr hk _ _ _ _ _ _ hf true)
theorem qX12_without {b : Bool} {v1 : Int32} {v2 : Int32} {S S' : mT} {r : Int32} (hf : fX12_without v1 v2 S = some (r, S')) : mOk l mX12_without 2 [.ref (187), .int v1, .int v2] b S (some (.int r)) S' :=
  gMet (by decide) (Nat.le_of_ble_eq_true rfl) rfl (Nat.le_of_ble_eq_true rfl) (fun p e s m args below meth c G C hr hk => bX12_without_0 C hr hk hf true)
theorem bX12_doubled_0 (C : mCx p (mR 3) s m args meth c G cX12_doubled RX12 2 false 233 54500 233 54500) (hr : meth.sig.returnType = (some .int)) (hk : meth.locks = false) {b : Bool} {S' : mT} {r : Int32} {v1 : Int32} {S : mT} (hf : fX12_doubled v1 S = some (r, S')) (ok : Bool) : mW p l e (mR 3) s m args below meth c G 2 233 54500 (mQ below G args s b S' (some (.int r))) (ok, 0, [.ref (187), .int v1], [], mk b S) := by
  unfold fX12_doubled at hf
  refine msegT C kX12_doubled 0 3 (g := (true, 3, [.ref (187), .int v1], [.int (1 : Int32), .int v1, .ref (187)], mk b S)) rfl rfl ?_
  obtain ⟨x2, S1, hq, hf⟩ := bndC_ex hf
  refine mcall (kd := 0) (vs := [.ref (187), .int v1, .int (1 : Int32)]) (rest := []) (r := (some (.int x2))) (h' := mk b S1) (ok' := true) C lkRX12_445 (qX12_without hq) (kX12_doubled _ (List.mem_of_getElem? (i := 3) rfl)).1 ⟨_, _, rfl, rfl, Nat.le_of_ble_eq_true rfl, _, _, rfl, rfl, rfl⟩ (Nat.le_of_ble_eq_true rfl) (Nat.le_of_ble_eq_true rfl) (Nat.le_refl _) (Nat.le_refl _) (Nat.le_of_ble_eq_true rfl) ?_
  cases hf
  exact gret_i C hr hk (kX12_doubled _ (List.mem_of_getElem? (i := 4) rfl)).1
theorem qX12_doubled {b : Bool} {v1 : Int32} {S S' : mT} {r : Int32} (hf : fX12_doubled v1 S = some (r, S')) : mOk l mX12_doubled 3 [.ref (187), .int v1] b S (some (.int r)) S' :=
  gMet (by decide) (Nat.le_of_ble_eq_true rfl) rfl (Nat.le_of_ble_eq_true rfl) (fun p e s m args below meth c G C hr hk => bX12_doubled_0 C hr hk hf true)
theorem bX12_taxOf_36 (C : mCx p (mR 4) s m args meth c G cX12_taxOf RX12 3 false 233 54500 233 54500) (hr : meth.sig.returnType = (some .int)) (hk : meth.locks = false) {b : Bool} {S' : mT} {r : Int32} {s0 : Int32} {S : mT} (hf : fX12_taxOf_36 s0 S = some (r, S')) (ok : Bool) : mW p l e (mR 4) s m args below meth c G 3 233 54500 (mQ below G args s b S' (some (.int r))) (ok, 36, [.retAddr 0, .retAddr 0, .retAddr 0], [.int s0], mk b S) := by
  unfold fX12_taxOf_36 at hf
  refine msegT C kX12_taxOf 22 2 (g := (true, 40, [.retAddr 0, .retAddr 0, .retAddr 0], [.int (999 : Int32), .int (0 : Int32), .int s0], mk b S)) rfl rfl ?_
  obtain ⟨x5, S4, hq, hf⟩ := bndC_ex hf
  refine mcall (kd := 1) (vs := [.int s0, .int (0 : Int32), .int (999 : Int32)]) (rest := []) (r := (some (.int x5))) (h' := mk b S4) (ok' := true) C lkRX12_379 (qX12_bound hq) (kX12_taxOf _ (List.mem_of_getElem? (i := 24) rfl)).1 rfl (Nat.le_of_ble_eq_true rfl) (Nat.le_of_ble_eq_true rfl) (Nat.le_refl _) (Nat.le_refl _) (Nat.le_of_ble_eq_true rfl) ?_
  cases hf
  exact gret_i C hr hk (kX12_taxOf _ (List.mem_of_getElem? (i := 25) rfl)).1
theorem bX12_taxOf_0 (C : mCx p (mR 4) s m args meth c G cX12_taxOf RX12 3 false 233 54500 233 54500) (hr : meth.sig.returnType = (some .int)) (hk : meth.locks = false) {b : Bool} {S' : mT} {r : Int32} {v1 : Int32} {v2 : Int32} {S : mT} (hf : fX12_taxOf v1 v2 S = some (r, S')) (ok : Bool) : mW p l e (mR 4) s m args below meth c G 3 233 54500 (mQ below G args s b S' (some (.int r))) (ok, 0, [.ref (187), .int v1, .int v2], [], mk b S) := by
  unfold fX12_taxOf at hf
  obtain ⟨hok, hf⟩ := grd_ex hf
  refine msegT C kX12_taxOf 0 10 (g := ((kI 206 v1 && (kO 187 12 && true)), 12, [.ref (187), .int v1, .int v2], [.ref (187), .int v2, .int (0 : Int32), .int (S.1 206 (mIx v1)), .int (0 : Int32), .int (0 : Int32), .ref (187)], mk b S)) rfl hok ?_
  obtain ⟨hok, hf⟩ := grd_ex hf
  refine msegT C kX12_taxOf 10 1 (g := ((kO 187 12 && true), 15, [.ref (187), .int v1, .int v2], [.int (S.1 187 43), .int v2, .int (0 : Int32), .int (S.1 206 (mIx v1)), .int (0 : Int32), .int (0 : Int32), .ref (187)], mk b S)) rfl hok ?_
  obtain ⟨S1, hq, hf⟩ := bndV_ex hf
  refine mcall (kd := 0) (vs := [.ref (187), .int (0 : Int32), .int (0 : Int32), .int (S.1 206 (mIx v1)), .int (0 : Int32), .int v2, .int (S.1 187 43)]) (rest := []) (r := none) (h' := mk b S1) (ok' := true) C lkRX12_372 (qX12_askOf hq) (kX12_taxOf _ (List.mem_of_getElem? (i := 11) rfl)).1 ⟨_, _, rfl, rfl, Nat.le_of_ble_eq_true rfl, _, _, rfl, rfl, rfl⟩ (Nat.le_of_ble_eq_true rfl) (Nat.le_of_ble_eq_true rfl) (Nat.le_refl _) (Nat.le_refl _) (Nat.le_of_ble_eq_true rfl) ?_
  obtain ⟨hok, hf⟩ := grd_ex hf
  refine msegT C kX12_taxOf 12 5 (g := ((kB 199 (1 : Int32) && (kO 187 12 && true)), (if (S1.1 199 (mIx (1 : Int32))) = 0 then 35 else 27), [.ref (187), .int v1, .int v2], [], mk b S1)) rfl hok ?_
  by_cases hc : (S1.1 199 (mIx (1 : Int32))) = 0
  · rw [if_pos hc] at hf ⊢
    refine msegT C kX12_taxOf 21 1 (g := (true, 36, [.ref (187), .int v1, .int v2], [.int v2], mk b S1)) rfl rfl ?_
    exact mfor (L' := [.retAddr 0, .retAddr 0, .retAddr 0]) ⟨Or.inl rfl, Or.inl rfl, Or.inl rfl, trivial⟩ (bX12_taxOf_36 C hr hk hf true)
  · rw [if_neg hc] at hf ⊢
    refine msegT C kX12_taxOf 17 2 (g := (true, 29, [.ref (187), .int v1, .int v2], [.int (1 : Int32), .ref (187)], mk b S1)) rfl rfl ?_
    obtain ⟨x3, S2, hq, hf⟩ := bndC_ex hf
    refine mcall (kd := 0) (vs := [.ref (187), .int (1 : Int32)]) (rest := []) (r := (some (.int x3))) (h' := mk b S2) (ok' := true) C lkRX12_376 (qX12_worked hq) (kX12_taxOf _ (List.mem_of_getElem? (i := 19) rfl)).1 ⟨_, _, rfl, rfl, Nat.le_of_ble_eq_true rfl, _, _, rfl, rfl, rfl⟩ (Nat.le_of_ble_eq_true rfl) (Nat.le_of_ble_eq_true rfl) (Nat.le_refl _) (Nat.le_refl _) (Nat.le_of_ble_eq_true rfl) ?_
    refine msegT C kX12_taxOf 20 1 (g := (true, 36, [.ref (187), .int v1, .int v2], [.int x3], mk b S2)) rfl rfl ?_
    exact mfor (L' := [.retAddr 0, .retAddr 0, .retAddr 0]) ⟨Or.inl rfl, Or.inl rfl, Or.inl rfl, trivial⟩ (bX12_taxOf_36 C hr hk hf true)
theorem qX12_taxOf {b : Bool} {v1 : Int32} {v2 : Int32} {S S' : mT} {r : Int32} (hf : fX12_taxOf v1 v2 S = some (r, S')) : mOk l mX12_taxOf 4 [.ref (187), .int v1, .int v2] b S (some (.int r)) S' :=
  gMet (by decide) (Nat.le_of_ble_eq_true rfl) rfl (Nat.le_of_ble_eq_true rfl) (fun p e s m args below meth c G C hr hk => bX12_taxOf_0 C hr hk hf true)
theorem bX12_partOf_0 (C : mCx p (mR 5) s m args meth c G cX12_partOf RX12 3 false 233 54500 233 54500) (hr : meth.sig.returnType = (some .int)) (hk : meth.locks = false) {b : Bool} {S' : mT} {r : Int32} {v1 : Int32} {v2 : Int32} {S : mT} (hf : fX12_partOf v1 v2 S = some (r, S')) (ok : Bool) : mW p l e (mR 5) s m args below meth c G 3 233 54500 (mQ below G args s b S' (some (.int r))) (ok, 0, [.ref (187), .int v1, .int v2], [], mk b S) := by
  unfold fX12_partOf at hf
  refine msegT C kX12_partOf 0 2 (g := (true, (if v2 = (0 : Int32) then 36 else (if v2 = (1 : Int32) then 43 else (if v2 = (2 : Int32) then 50 else (if v2 = (3 : Int32) then 57 else (if v2 = (4 : Int32) then 63 else 75))))), [.ref (187), .int v1, .int v2], [], mk b S)) rfl rfl ?_
  by_cases hc : v2 = (0 : Int32)
  · rw [if_pos hc] at hf ⊢
    obtain ⟨hok, hf⟩ := grd_ex hf
    refine msegT C kX12_partOf 2 4 (g := ((kI 209 v1 && (kO 187 12 && true)), 42, [.ref (187), .int v1, .int v2], [.int (S.1 209 (mIx v1))], mk b S)) rfl hok ?_
    cases hf
    exact gret_i C hr hk (kX12_partOf _ (List.mem_of_getElem? (i := 6) rfl)).1
  · rw [if_neg hc] at hf ⊢
    by_cases hc : v2 = (1 : Int32)
    · rw [if_pos hc] at hf ⊢
      obtain ⟨hok, hf⟩ := grd_ex hf
      refine msegT C kX12_partOf 7 4 (g := ((kI 210 v1 && (kO 187 12 && true)), 49, [.ref (187), .int v1, .int v2], [.int (S.1 210 (mIx v1))], mk b S)) rfl hok ?_
      cases hf
      exact gret_i C hr hk (kX12_partOf _ (List.mem_of_getElem? (i := 11) rfl)).1
    · rw [if_neg hc] at hf ⊢
      by_cases hc : v2 = (2 : Int32)
      · rw [if_pos hc] at hf ⊢
        obtain ⟨hok, hf⟩ := grd_ex hf
        refine msegT C kX12_partOf 12 4 (g := ((kI 211 v1 && (kO 187 12 && true)), 56, [.ref (187), .int v1, .int v2], [.int (S.1 211 (mIx v1))], mk b S)) rfl hok ?_
        cases hf
        exact gret_i C hr hk (kX12_partOf _ (List.mem_of_getElem? (i := 16) rfl)).1
      · rw [if_neg hc] at hf ⊢
        by_cases hc : v2 = (3 : Int32)
        · rw [if_pos hc] at hf ⊢
          refine msegT C kX12_partOf 17 2 (g := (true, 59, [.ref (187), .int v1, .int v2], [.int v1, .ref (187)], mk b S)) rfl rfl ?_
          obtain ⟨x8, S7, hq, hf⟩ := bndC_ex hf
          refine mcall (kd := 0) (vs := [.ref (187), .int v1]) (rest := []) (r := (some (.int x8))) (h' := mk b S7) (ok' := true) C lkRX12_382 (qX12_stonesOf hq) (kX12_partOf _ (List.mem_of_getElem? (i := 19) rfl)).1 ⟨_, _, rfl, rfl, Nat.le_of_ble_eq_true rfl, _, _, rfl, rfl, rfl⟩ (Nat.le_of_ble_eq_true rfl) (Nat.le_of_ble_eq_true rfl) (Nat.le_refl _) (Nat.le_refl _) (Nat.le_of_ble_eq_true rfl) ?_
          cases hf
          exact gret_i C hr hk (kX12_partOf _ (List.mem_of_getElem? (i := 20) rfl)).1
        · rw [if_neg hc] at hf ⊢
          by_cases hc : v2 = (4 : Int32)
          · rw [if_pos hc] at hf ⊢
            obtain ⟨hok, hf⟩ := grd_ex hf
            refine msegT C kX12_partOf 21 6 (g := ((kI 211 v1 && (kO 187 12 && true)), 71, [.ref (187), .int v1, .int v2], [.int (S.1 211 (mIx v1)), .int v1, .ref (187)], mk b S)) rfl hok ?_
            obtain ⟨x6, S5, hq, hf⟩ := bndC_ex hf
            refine mcall (kd := 0) (vs := [.ref (187), .int v1, .int (S.1 211 (mIx v1))]) (rest := []) (r := (some (.int x6))) (h' := mk b S5) (ok' := true) C lkRX12_397 (qX12_taxOf hq) (kX12_partOf _ (List.mem_of_getElem? (i := 27) rfl)).1 ⟨_, _, rfl, rfl, Nat.le_of_ble_eq_true rfl, _, _, rfl, rfl, rfl⟩ (Nat.le_of_ble_eq_true rfl) (Nat.le_of_ble_eq_true rfl) (Nat.le_refl _) (Nat.le_refl _) (Nat.le_of_ble_eq_true rfl) ?_
            cases hf
            exact gret_i C hr hk (kX12_partOf _ (List.mem_of_getElem? (i := 28) rfl)).1
          · rw [if_neg hc] at hf ⊢
            refine msegT C kX12_partOf 29 4 (g := (true, 79, [.ref (187), .int v1, .int v2], [.int v1, .ref (187), .int v1, .ref (187)], mk b S)) rfl rfl ?_
            obtain ⟨x2, S1, hq, hf⟩ := bndC_ex hf
            refine mcall (kd := 0) (vs := [.ref (187), .int v1]) (rest := [.int v1, .ref (187)]) (r := (some (.int x2))) (h' := mk b S1) (ok' := true) C lkRX12_382 (qX12_stonesOf hq) (kX12_partOf _ (List.mem_of_getElem? (i := 33) rfl)).1 ⟨_, _, rfl, rfl, Nat.le_of_ble_eq_true rfl, _, _, rfl, rfl, rfl⟩ (Nat.le_of_ble_eq_true rfl) (Nat.le_of_ble_eq_true rfl) (Nat.le_refl _) (Nat.le_refl _) (Nat.le_of_ble_eq_true rfl) ?_
            obtain ⟨x4, S3, hq, hf⟩ := bndC_ex hf
            refine mcall (kd := 0) (vs := [.ref (187), .int v1, .int x2]) (rest := []) (r := (some (.int x4))) (h' := mk b S3) (ok' := true) C lkRX12_397 (qX12_taxOf hq) (kX12_partOf _ (List.mem_of_getElem? (i := 34) rfl)).1 ⟨_, _, rfl, rfl, Nat.le_of_ble_eq_true rfl, _, _, rfl, rfl, rfl⟩ (Nat.le_of_ble_eq_true rfl) (Nat.le_of_ble_eq_true rfl) (Nat.le_refl _) (Nat.le_refl _) (Nat.le_of_ble_eq_true rfl) ?_
            cases hf
            exact gret_i C hr hk (kX12_partOf _ (List.mem_of_getElem? (i := 35) rfl)).1
theorem qX12_partOf {b : Bool} {v1 : Int32} {v2 : Int32} {S S' : mT} {r : Int32} (hf : fX12_partOf v1 v2 S = some (r, S')) : mOk l mX12_partOf 5 [.ref (187), .int v1, .int v2] b S (some (.int r)) S' :=
  gMet (by decide) (Nat.le_of_ble_eq_true rfl) rfl (Nat.le_of_ble_eq_true rfl) (fun p e s m args below meth c G C hr hk => bX12_partOf_0 C hr hk hf true)
theorem bX12_sum_19 (C : mCx p (mR 6) s m args meth c G cX12_sum RX12 4 false 233 54500 233 54500) (hr : meth.sig.returnType = (some .int)) (hk : meth.locks = false) {b : Bool} {S' : mT} {r : Int32} : ∀ (k : Nat) (v1 : Int32) (v2 : Int32) (v3 : Int32) (S : mT), fX12_sum_19 k v1 v2 v3 S = some (r, S') → ∀ ok : Bool, mW p l e (mR 6) s m args below meth c G 4 233 54500 (mQ below G args s b S' (some (.int r))) (ok, 19, [.ref (187), .int v1, .int v2, .int v3], [], mk b S) := by
  intro k
  induction k with
  | zero =>
    intro v1 v2 v3 S hf ok
    cases hf
  | succ k ih =>
    intro v1 v2 v3 S hf ok
    unfold fX12_sum_19 at hf
    obtain ⟨hok, hf⟩ := grd_ex hf
    refine msegT C kX12_sum 13 4 (g := ((kO 187 12 && true), (if (S.1 187 37) ≤ v3 then 42 else 27), [.ref (187), .int v1, .int v2, .int v3], [], mk b S)) rfl hok ?_
    by_cases hc : (S.1 187 37) ≤ v3
    · rw [if_pos hc] at hf ⊢
      refine msegT C kX12_sum 26 1 (g := (true, 43, [.ref (187), .int v1, .int v2, .int v3], [.int v2], mk b S)) rfl rfl ?_
      cases hf
      exact gret_i C hr hk (kX12_sum _ (List.mem_of_getElem? (i := 27) rfl)).1
    · rw [if_neg hc] at hf ⊢
      refine msegT C kX12_sum 17 4 (g := (true, 31, [.ref (187), .int v1, .int v2, .int v3], [.int v1, .int v3, .ref (187), .int v2], mk b S)) rfl rfl ?_
      obtain ⟨x5, S4, hq, hf⟩ := bndC_ex hf
      refine mcall (kd := 0) (vs := [.ref (187), .int v3, .int v1]) (rest := [.int v2]) (r := (some (.int x5))) (h' := mk b S4) (ok' := true) C lkRX12_400 (qX12_partOf hq) (kX12_sum _ (List.mem_of_getElem? (i := 21) rfl)).1 ⟨_, _, rfl, rfl, Nat.le_of_ble_eq_true rfl, _, _, rfl, rfl, rfl⟩ (Nat.le_of_ble_eq_true rfl) (Nat.le_of_ble_eq_true rfl) (Nat.le_refl _) (Nat.le_refl _) (Nat.le_of_ble_eq_true rfl) ?_
      refine msegT C kX12_sum 22 2 (g := (true, 36, [.ref (187), .int v1, .int (v2 + x5), .int v3], [], mk b S4)) rfl rfl ?_
      obtain ⟨x6, ex6, hf⟩ := bnd_ex hf
      rw [← ex6]
      refine msegT C kX12_sum 24 1 (g := (true, 39, [.ref (187), .int v1, .int x6, .int (v3 + (1 : Int32))], [], mk b S4)) rfl rfl ?_
      obtain ⟨x7, ex7, hf⟩ := bnd_ex hf
      rw [← ex7]
      refine msegT C kX12_sum 25 1 (g := (true, 19, [.ref (187), .int v1, .int x6, .int x7], [], mk b S4)) rfl rfl ?_
      exact mfor (L' := [.ref (187), .int v1, .int x6, .int x7]) ⟨Or.inr rfl, Or.inr rfl, Or.inr rfl, Or.inr rfl, trivial⟩ (ih _ _ _ _ hf true)
theorem bX12_sum_0 (C : mCx p (mR 6) s m args meth c G cX12_sum RX12 4 false 233 54500 233 54500) (hr : meth.sig.returnType = (some .int)) (hk : meth.locks = false) {b : Bool} {S' : mT} {r : Int32} {v1 : Int32} {S : mT} (hf : fX12_sum v1 S = some (r, S')) (ok : Bool) : mW p l e (mR 6) s m args below meth c G 4 233 54500 (mQ below G args s b S' (some (.int r))) (ok, 0, [.ref (187), .int v1, .retAddr 0, .retAddr 0], [], mk b S) := by
  unfold fX12_sum at hf
  refine msegT C kX12_sum 0 3 (g := (true, 3, [.ref (187), .int v1, .retAddr 0, .retAddr 0], [.int (5 : Int32), .int (0 : Int32), .int v1], mk b S)) rfl rfl ?_
  obtain ⟨x2, S1, hq, hf⟩ := bndC_ex hf
  refine mcall (kd := 1) (vs := [.int v1, .int (0 : Int32), .int (5 : Int32)]) (rest := []) (r := (some (.int x2))) (h' := mk b S1) (ok' := true) C lkRX12_362 (qX12_isIn hq) (kX12_sum _ (List.mem_of_getElem? (i := 3) rfl)).1 rfl (Nat.le_of_ble_eq_true rfl) (Nat.le_of_ble_eq_true rfl) (Nat.le_refl _) (Nat.le_refl _) (Nat.le_of_ble_eq_true rfl) ?_
  refine msegT C kX12_sum 4 1 (g := (true, (if x2 = 0 then 9 else 11), [.ref (187), .int v1, .retAddr 0, .retAddr 0], [], mk b S1)) rfl rfl ?_
  by_cases hc : x2 = 0
  · rw [if_pos hc] at hf ⊢
    refine msegT C kX12_sum 5 1 (g := (true, 10, [.ref (187), .int v1, .retAddr 0, .retAddr 0], [.int (-1 : Int32)], mk b S1)) rfl rfl ?_
    cases hf
    exact gret_i C hr hk (kX12_sum _ (List.mem_of_getElem? (i := 6) rfl)).1
  · rw [if_neg hc] at hf ⊢
    refine msegT C kX12_sum 7 1 (g := (true, 12, [.ref (187), .int v1, .retAddr 0, .retAddr 0], [.ref (187)], mk b S1)) rfl rfl ?_
    obtain ⟨S3, hq, hf⟩ := bndV_ex hf
    refine mcall (kd := 0) (vs := [.ref (187)]) (rest := []) (r := none) (h' := mk b S3) (ok' := true) C lkRX12_391 (qX12_load hq) (kX12_sum _ (List.mem_of_getElem? (i := 8) rfl)).1 ⟨_, _, rfl, rfl, Nat.le_of_ble_eq_true rfl, _, _, rfl, rfl, rfl⟩ (Nat.le_of_ble_eq_true rfl) (Nat.le_of_ble_eq_true rfl) (Nat.le_refl _) (Nat.le_refl _) (Nat.le_of_ble_eq_true rfl) ?_
    refine msegT C kX12_sum 9 4 (g := (true, 19, [.ref (187), .int v1, .int (0 : Int32), .int (0 : Int32)], [], mk b S3)) rfl rfl ?_
    exact mfor (L' := [.ref (187), .int v1, .int (0 : Int32), .int (0 : Int32)]) ⟨Or.inr rfl, Or.inr rfl, Or.inr rfl, Or.inr rfl, trivial⟩ (bX12_sum_19 C hr hk _ _ _ _ _ hf true)
theorem qX12_sum {b : Bool} {v1 : Int32} {S S' : mT} {r : Int32} (hf : fX12_sum v1 S = some (r, S')) : mOk l mX12_sum 6 [.ref (187), .int v1] b S (some (.int r)) S' :=
  gMet (by decide) (Nat.le_of_ble_eq_true rfl) rfl (Nat.le_of_ble_eq_true rfl) (fun p e s m args below meth c G C hr hk => bX12_sum_0 C hr hk hf true)
theorem bX12_draft_27 (C : mCx p (mR 7) s m args meth c G cX12_draft RX12 6 false 233 54500 233 54500) (hr : meth.sig.returnType = (some .int)) (hk : meth.locks = false) {b : Bool} {S' : mT} {r : Int32} {S : mT} (hf : fX12_draft_27 S = some (r, S')) (ok : Bool) : mW p l e (mR 7) s m args below meth c G 6 233 54500 (mQ below G args s b S' (some (.int r))) (ok, 27, [.retAddr 0, .retAddr 0, .retAddr 0, .retAddr 0, .retAddr 0, .retAddr 0], [], mk b S) := by
  unfold fX12_draft_27 at hf
  refine msegT C kX12_draft 14 1 (g := (true, 28, [.retAddr 0, .retAddr 0, .retAddr 0, .retAddr 0, .retAddr 0, .retAddr 0], [.int (-1 : Int32)], mk b S)) rfl rfl ?_
  cases hf
  exact gret_i C hr hk (kX12_draft _ (List.mem_of_getElem? (i := 15) rfl)).1
theorem bX12_draft_79 (C : mCx p (mR 7) s m args meth c G cX12_draft RX12 6 false 233 54500 233 54500) (hr : meth.sig.returnType = (some .int)) (hk : meth.locks = false) {b : Bool} {S' : mT} {r : Int32} {rc35 : Int32 → Int32 → Int32 → mT → Option (Int32 × mT)} (Hrc35 : ∀ (v1 : Int32) (v2 : Int32) (v3 : Int32) (S : mT), rc35 v1 v2 v3 S = some (r, S') → ∀ ok : Bool, mW p l e (mR 7) s m args below meth c G 6 233 54500 (mQ below G args s b S' (some (.int r))) (ok, 35, [.ref (187), .int v1, .int v2, .int v3, .retAddr 0, .retAddr 0], [], mk b S)) {rc46 : Int32 → Int32 → Int32 → Int32 → Int32 → mT → Option (Int32 × mT)} (Hrc46 : ∀ (v1 : Int32) (v2 : Int32) (v3 : Int32) (v4 : Int32) (v5 : Int32) (S : mT), rc46 v1 v2 v3 v4 v5 S = some (r, S') → ∀ ok : Bool, mW p l e (mR 7) s m args below meth c G 6 233 54500 (mQ below G args s b S' (some (.int r))) (ok, 46, [.ref (187), .int v1, .int v2, .int v3, .int v4, .int v5], [], mk b S)) {v1 : Int32} {v2 : Int32} {v3 : Int32} {v5 : Int32} {s0 : Int32} {S : mT} (hf : fX12_draft_79 rc35 rc46 v1 v2 v3 v5 s0 S = some (r, S')) (ok : Bool) : mW p l e (mR 7) s m args below meth c G 6 233 54500 (mQ below G args s b S' (some (.int r))) (ok, 79, [.ref (187), .int v1, .int v2, .int v3, .retAddr 0, .int v5], [.int s0], mk b S) := by
  unfold fX12_draft_79 at hf
  refine msegT C kX12_draft 43 2 (g := (true, 84, [.ref (187), .int v1, .int v2, .int v3, .int s0, .int (v5 + (1 : Int32))], [], mk b S)) rfl rfl ?_
  obtain ⟨x10, ex10, hf⟩ := bnd_ex hf
  rw [← ex10]
  refine msegT C kX12_draft 45 1 (g := (true, 46, [.ref (187), .int v1, .int v2, .int v3, .int s0, .int x10], [], mk b S)) rfl rfl ?_
  exact mfor (L' := [.ref (187), .int v1, .int v2, .int v3, .int s0, .int x10]) ⟨Or.inr rfl, Or.inr rfl, Or.inr rfl, Or.inr rfl, Or.inr rfl, Or.inr rfl, trivial⟩ (Hrc46 _ _ _ _ _ _ hf true)
theorem bX12_draft_46 (C : mCx p (mR 7) s m args meth c G cX12_draft RX12 6 false 233 54500 233 54500) (hr : meth.sig.returnType = (some .int)) (hk : meth.locks = false) {b : Bool} {S' : mT} {r : Int32} {rc35 : Int32 → Int32 → Int32 → mT → Option (Int32 × mT)} (Hrc35 : ∀ (v1 : Int32) (v2 : Int32) (v3 : Int32) (S : mT), rc35 v1 v2 v3 S = some (r, S') → ∀ ok : Bool, mW p l e (mR 7) s m args below meth c G 6 233 54500 (mQ below G args s b S' (some (.int r))) (ok, 35, [.ref (187), .int v1, .int v2, .int v3, .retAddr 0, .retAddr 0], [], mk b S)) : ∀ (k : Nat) (v1 : Int32) (v2 : Int32) (v3 : Int32) (v4 : Int32) (v5 : Int32) (S : mT), fX12_draft_46 rc35 k v1 v2 v3 v4 v5 S = some (r, S') → ∀ ok : Bool, mW p l e (mR 7) s m args below meth c G 6 233 54500 (mQ below G args s b S' (some (.int r))) (ok, 46, [.ref (187), .int v1, .int v2, .int v3, .int v4, .int v5], [], mk b S) := by
  intro k
  induction k with
  | zero =>
    intro v1 v2 v3 v4 v5 S hf ok
    cases hf
  | succ k ih =>
    intro v1 v2 v3 v4 v5 S hf ok
    unfold fX12_draft_46 at hf
    obtain ⟨hok, hf⟩ := grd_ex hf
    refine msegT C kX12_draft 27 4 (g := ((kO 187 12 && true), (if (S.1 187 37) ≤ v5 then 87 else 55), [.ref (187), .int v1, .int v2, .int v3, .int v4, .int v5], [], mk b S)) rfl hok ?_
    by_cases hc : (S.1 187 37) ≤ v5
    · rw [if_pos hc] at hf ⊢
      obtain ⟨hok, hf⟩ := grd_ex hf
      refine msegT C kX12_draft 46 8 (g := ((kI 209 v4 && (kI 209 v4 && (kO 187 12 && true))), 98, [.ref (187), .int v1, .int v2, .int v3, .int v4, .int v5], [], mk b (sI S 209 (mIx v4) ((S.1 209 (mIx v4)) - (1 : Int32))))) rfl hok ?_
      obtain ⟨S8, eS8, hf⟩ := bnd_ex hf
      rw [← eS8]
      refine msegT C kX12_draft 54 1 (g := (true, 101, [.ref (187), .int v1, .int v2, .int (v3 + (1 : Int32)), .int v4, .int v5], [], mk b S8)) rfl rfl ?_
      obtain ⟨x9, ex9, hf⟩ := bnd_ex hf
      rw [← ex9]
      refine msegT C kX12_draft 55 1 (g := (true, 35, [.ref (187), .int v1, .int v2, .int x9, .int v4, .int v5], [], mk b S8)) rfl rfl ?_
      exact mfor (L' := [.ref (187), .int v1, .int v2, .int x9, .retAddr 0, .retAddr 0]) ⟨Or.inr rfl, Or.inr rfl, Or.inr rfl, Or.inr rfl, Or.inl rfl, Or.inl rfl, trivial⟩ (Hrc35 _ _ _ _ hf true)
    · rw [if_neg hc] at hf ⊢
      obtain ⟨hok, hf⟩ := grd_ex hf
      refine msegT C kX12_draft 31 9 (g := ((kI 209 v4 && (kO 187 12 && (kI 209 v5 && (kO 187 12 && true)))), (if (S.1 209 (mIx v5)) ≤ (S.1 209 (mIx v4)) then 77 else 72), [.ref (187), .int v1, .int v2, .int v3, .int v4, .int v5], [], mk b S)) rfl hok ?_
      by_cases hc : (S.1 209 (mIx v5)) ≤ (S.1 209 (mIx v4))
      · rw [if_pos hc] at hf ⊢
        refine msegT C kX12_draft 42 1 (g := (true, 79, [.ref (187), .int v1, .int v2, .int v3, .int v4, .int v5], [.int v4], mk b S)) rfl rfl ?_
        exact mfor (L' := [.ref (187), .int v1, .int v2, .int v3, .retAddr 0, .int v5]) ⟨Or.inr rfl, Or.inr rfl, Or.inr rfl, Or.inr rfl, Or.inl rfl, Or.inr rfl, trivial⟩ (bX12_draft_79 C hr hk Hrc35 ih hf true)
      · rw [if_neg hc] at hf ⊢
        refine msegT C kX12_draft 40 2 (g := (true, 79, [.ref (187), .int v1, .int v2, .int v3, .int v4, .int v5], [.int v5], mk b S)) rfl rfl ?_
        exact mfor (L' := [.ref (187), .int v1, .int v2, .int v3, .retAddr 0, .int v5]) ⟨Or.inr rfl, Or.inr rfl, Or.inr rfl, Or.inr rfl, Or.inl rfl, Or.inr rfl, trivial⟩ (bX12_draft_79 C hr hk Hrc35 ih hf true)
theorem bX12_draft_35 (C : mCx p (mR 7) s m args meth c G cX12_draft RX12 6 false 233 54500 233 54500) (hr : meth.sig.returnType = (some .int)) (hk : meth.locks = false) {b : Bool} {S' : mT} {r : Int32} : ∀ (k : Nat) (v1 : Int32) (v2 : Int32) (v3 : Int32) (S : mT), fX12_draft_35 k v1 v2 v3 S = some (r, S') → ∀ ok : Bool, mW p l e (mR 7) s m args below meth c G 6 233 54500 (mQ below G args s b S' (some (.int r))) (ok, 35, [.ref (187), .int v1, .int v2, .int v3, .retAddr 0, .retAddr 0], [], mk b S) := by
  intro k
  induction k with
  | zero =>
    intro v1 v2 v3 S hf ok
    cases hf
  | succ k ih =>
    intro v1 v2 v3 S hf ok
    unfold fX12_draft_35 at hf
    refine msegT C kX12_draft 20 3 (g := (true, (if v2 ≤ v3 then 104 else 40), [.ref (187), .int v1, .int v2, .int v3, .retAddr 0, .retAddr 0], [], mk b S)) rfl rfl ?_
    by_cases hc : v2 ≤ v3
    · rw [if_pos hc] at hf ⊢
      obtain ⟨hok, hf⟩ := grd_ex hf
      refine msegT C kX12_draft 56 9 (g := ((kI 209 v1 && (kO 187 12 && (kI 208 v1 && (kO 187 12 && true)))), 117, [.ref (187), .int v1, .int v2, .int v3, .retAddr 0, .retAddr 0], [.int ((S.1 208 (mIx v1)) - (S.1 209 (mIx v1)))], mk b S)) rfl hok ?_
      cases hf
      exact gret_i C hr hk (kX12_draft _ (List.mem_of_getElem? (i := 65) rfl)).1
    · rw [if_neg hc] at hf ⊢
      refine msegT C kX12_draft 23 4 (g := (true, 46, [.ref (187), .int v1, .int v2, .int v3, .int (0 : Int32), .int (1 : Int32)], [], mk b S)) rfl rfl ?_
      exact mfor (L' := [.ref (187), .int v1, .int v2, .int v3, .int (0 : Int32), .int (1 : Int32)]) ⟨Or.inr rfl, Or.inr rfl, Or.inr rfl, Or.inr rfl, Or.inr rfl, Or.inr rfl, trivial⟩ (bX12_draft_46 C hr hk ih _ _ _ _ _ _ _ hf true)
theorem bX12_draft_0 (C : mCx p (mR 7) s m args meth c G cX12_draft RX12 6 false 233 54500 233 54500) (hr : meth.sig.returnType = (some .int)) (hk : meth.locks = false) {b : Bool} {S' : mT} {r : Int32} {v1 : Int32} {v2 : Int32} {S : mT} (hf : fX12_draft v1 v2 S = some (r, S')) (ok : Bool) : mW p l e (mR 7) s m args below meth c G 6 233 54500 (mQ below G args s b S' (some (.int r))) (ok, 0, [.ref (187), .int v1, .int v2, .retAddr 0, .retAddr 0, .retAddr 0], [], mk b S) := by
  unfold fX12_draft at hf
  refine msegT C kX12_draft 0 2 (g := (true, 2, [.ref (187), .int v1, .int v2, .retAddr 0, .retAddr 0, .retAddr 0], [.int v1, .ref (187)], mk b S)) rfl rfl ?_
  obtain ⟨x2, S1, hq, hf⟩ := bndC_ex hf
  refine mcall (kd := 0) (vs := [.ref (187), .int v1]) (rest := []) (r := (some (.int x2))) (h' := mk b S1) (ok' := true) C lkRX12_388 (qX12_isHouse hq) (kX12_draft _ (List.mem_of_getElem? (i := 2) rfl)).1 ⟨_, _, rfl, rfl, Nat.le_of_ble_eq_true rfl, _, _, rfl, rfl, rfl⟩ (Nat.le_of_ble_eq_true rfl) (Nat.le_of_ble_eq_true rfl) (Nat.le_refl _) (Nat.le_refl _) (Nat.le_of_ble_eq_true rfl) ?_
  refine msegT C kX12_draft 3 1 (g := (true, (if x2 = 0 then 27 else 8), [.ref (187), .int v1, .int v2, .retAddr 0, .retAddr 0, .retAddr 0], [], mk b S1)) rfl rfl ?_
  by_cases hc : x2 = 0
  · rw [if_pos hc] at hf ⊢
    exact mfor (L' := [.retAddr 0, .retAddr 0, .retAddr 0, .retAddr 0, .retAddr 0, .retAddr 0]) ⟨Or.inl rfl, Or.inl rfl, Or.inl rfl, Or.inl rfl, Or.inl rfl, Or.inl rfl, trivial⟩ (bX12_draft_27 C hr hk hf true)
  · rw [if_neg hc] at hf ⊢
    refine msegT C kX12_draft 4 3 (g := (true, 12, [.ref (187), .int v1, .int v2, .retAddr 0, .retAddr 0, .retAddr 0], [.int (35 : Int32), .int (0 : Int32), .int v2], mk b S1)) rfl rfl ?_
    obtain ⟨x4, S3, hq, hf⟩ := bndC_ex hf
    refine mcall (kd := 1) (vs := [.int v2, .int (0 : Int32), .int (35 : Int32)]) (rest := []) (r := (some (.int x4))) (h' := mk b S3) (ok' := true) C lkRX12_362 (qX12_isIn hq) (kX12_draft _ (List.mem_of_getElem? (i := 7) rfl)).1 rfl (Nat.le_of_ble_eq_true rfl) (Nat.le_of_ble_eq_true rfl) (Nat.le_refl _) (Nat.le_refl _) (Nat.le_of_ble_eq_true rfl) ?_
    refine msegT C kX12_draft 8 1 (g := (true, (if x4 = 0 then 27 else 18), [.ref (187), .int v1, .int v2, .retAddr 0, .retAddr 0, .retAddr 0], [], mk b S3)) rfl rfl ?_
    by_cases hc : x4 = 0
    · rw [if_pos hc] at hf ⊢
      exact mfor (L' := [.retAddr 0, .retAddr 0, .retAddr 0, .retAddr 0, .retAddr 0, .retAddr 0]) ⟨Or.inl rfl, Or.inl rfl, Or.inl rfl, Or.inl rfl, Or.inl rfl, Or.inl rfl, trivial⟩ (bX12_draft_27 C hr hk hf true)
    · rw [if_neg hc] at hf ⊢
      refine msegT C kX12_draft 9 3 (g := (true, 21, [.ref (187), .int v1, .int v2, .retAddr 0, .retAddr 0, .retAddr 0], [.int (0 : Int32), .ref (187), .int v2], mk b S3)) rfl rfl ?_
      obtain ⟨x6, S5, hq, hf⟩ := bndC_ex hf
      refine mcall (kd := 0) (vs := [.ref (187), .int (0 : Int32)]) (rest := [.int v2]) (r := (some (.int x6))) (h' := mk b S5) (ok' := true) C lkRX12_457 (qX12_sum hq) (kX12_draft _ (List.mem_of_getElem? (i := 12) rfl)).1 ⟨_, _, rfl, rfl, Nat.le_of_ble_eq_true rfl, _, _, rfl, rfl, rfl⟩ (Nat.le_of_ble_eq_true rfl) (Nat.le_of_ble_eq_true rfl) (Nat.le_refl _) (Nat.le_refl _) (Nat.le_of_ble_eq_true rfl) ?_
      refine msegT C kX12_draft 13 1 (g := (true, (if v2 ≤ x6 then 29 else 27), [.ref (187), .int v1, .int v2, .retAddr 0, .retAddr 0, .retAddr 0], [], mk b S5)) rfl rfl ?_
      by_cases hc : v2 ≤ x6
      · rw [if_pos hc] at hf ⊢
        refine msegT C kX12_draft 16 1 (g := (true, 30, [.ref (187), .int v1, .int v2, .retAddr 0, .retAddr 0, .retAddr 0], [.ref (187)], mk b S5)) rfl rfl ?_
        obtain ⟨S7, hq, hf⟩ := bndV_ex hf
        refine mcall (kd := 0) (vs := [.ref (187)]) (rest := []) (r := none) (h' := mk b S7) (ok' := true) C lkRX12_391 (qX12_load hq) (kX12_draft _ (List.mem_of_getElem? (i := 17) rfl)).1 ⟨_, _, rfl, rfl, Nat.le_of_ble_eq_true rfl, _, _, rfl, rfl, rfl⟩ (Nat.le_of_ble_eq_true rfl) (Nat.le_of_ble_eq_true rfl) (Nat.le_refl _) (Nat.le_refl _) (Nat.le_of_ble_eq_true rfl) ?_
        refine msegT C kX12_draft 18 2 (g := (true, 35, [.ref (187), .int v1, .int v2, .int (0 : Int32), .retAddr 0, .retAddr 0], [], mk b S7)) rfl rfl ?_
        exact mfor (L' := [.ref (187), .int v1, .int v2, .int (0 : Int32), .retAddr 0, .retAddr 0]) ⟨Or.inr rfl, Or.inr rfl, Or.inr rfl, Or.inr rfl, Or.inl rfl, Or.inl rfl, trivial⟩ (bX12_draft_35 C hr hk _ _ _ _ _ hf true)
      · rw [if_neg hc] at hf ⊢
        exact mfor (L' := [.retAddr 0, .retAddr 0, .retAddr 0, .retAddr 0, .retAddr 0, .retAddr 0]) ⟨Or.inl rfl, Or.inl rfl, Or.inl rfl, Or.inl rfl, Or.inl rfl, Or.inl rfl, trivial⟩ (bX12_draft_27 C hr hk hf true)
theorem qX12_draft {b : Bool} {v1 : Int32} {v2 : Int32} {S S' : mT} {r : Int32} (hf : fX12_draft v1 v2 S = some (r, S')) : mOk l mX12_draft 7 [.ref (187), .int v1, .int v2] b S (some (.int r)) S' :=
  gMet (by decide) (Nat.le_of_ble_eq_true rfl) rfl (Nat.le_of_ble_eq_true rfl) (fun p e s m args below meth c G C hr hk => bX12_draft_0 C hr hk hf true)
theorem bX12_end_12 (C : mCx p (mR 1) s m args meth c G cX12_end RX12 2 false 233 54500 233 54500) (hr : meth.sig.returnType = (some .int)) (hk : meth.locks = false) {b : Bool} {S' : mT} {r : Int32} {S : mT} (hf : fX12_end_12 S = some (r, S')) (ok : Bool) : mW p l e (mR 1) s m args below meth c G 2 233 54500 (mQ below G args s b S' (some (.int r))) (ok, 12, [.retAddr 0, .retAddr 0], [], mk b S) := by
  unfold fX12_end_12 at hf
  refine msegT C kX12_end 6 1 (g := (true, 13, [.retAddr 0, .retAddr 0], [.int (-1 : Int32)], mk b S)) rfl rfl ?_
  cases hf
  exact gret_i C hr hk (kX12_end _ (List.mem_of_getElem? (i := 7) rfl)).1
theorem bX12_end_0 (C : mCx p (mR 1) s m args meth c G cX12_end RX12 2 false 233 54500 233 54500) (hr : meth.sig.returnType = (some .int)) (hk : meth.locks = false) {b : Bool} {S' : mT} {r : Int32} {v1 : Int32} {S : mT} (hf : fX12_end v1 S = some (r, S')) (ok : Bool) : mW p l e (mR 1) s m args below meth c G 2 233 54500 (mQ below G args s b S' (some (.int r))) (ok, 0, [.ref (187), .int v1], [], mk b S) := by
  unfold fX12_end at hf
  refine msegT C kX12_end 0 2 (g := (true, (if v1 < 0 then 12 else 4), [.ref (187), .int v1], [], mk b S)) rfl rfl ?_
  by_cases hc : v1 < 0
  · rw [if_pos hc] at hf ⊢
    exact mfor (L' := [.retAddr 0, .retAddr 0]) ⟨Or.inl rfl, Or.inl rfl, trivial⟩ (bX12_end_12 C hr hk hf true)
  · rw [if_neg hc] at hf ⊢
    obtain ⟨hok, hf⟩ := grd_ex hf
    refine msegT C kX12_end 2 4 (g := ((kO 187 12 && true), (if v1 ≤ (S.1 187 1) then 14 else 12), [.ref (187), .int v1], [], mk b S)) rfl hok ?_
    by_cases hc : v1 ≤ (S.1 187 1)
    · rw [if_pos hc] at hf ⊢
      obtain ⟨hok, hf⟩ := grd_ex hf
      refine msegT C kX12_end 8 3 (g := ((kO 187 12 && true), 19, [.ref (187), .int v1], [], mk b (sI S 187 1 v1))) rfl hok ?_
      obtain ⟨S1, eS1, hf⟩ := bnd_ex hf
      rw [← eS1]
      refine msegT C kX12_end 11 1 (g := (true, 20, [.ref (187), .int v1], [.int v1], mk b S1)) rfl rfl ?_
      cases hf
      exact gret_i C hr hk (kX12_end _ (List.mem_of_getElem? (i := 12) rfl)).1
    · rw [if_neg hc] at hf ⊢
      exact mfor (L' := [.retAddr 0, .retAddr 0]) ⟨Or.inl rfl, Or.inl rfl, trivial⟩ (bX12_end_12 C hr hk hf true)
theorem qX12_end {b : Bool} {v1 : Int32} {S S' : mT} {r : Int32} (hf : fX12_end v1 S = some (r, S')) : mOk l mX12_end 1 [.ref (187), .int v1] b S (some (.int r)) S' :=
  gMet (by decide) (Nat.le_of_ble_eq_true rfl) rfl (Nat.le_of_ble_eq_true rfl) (fun p e s m args below meth c G C hr hk => bX12_end_0 C hr hk hf true)
theorem bX12_exchange_2 (C : mCx p (mR 1) s m args meth c G cX12_exchange RX12 4 false 233 54500 233 54500) (hr : meth.sig.returnType = none) (hk : meth.locks = false) {b : Bool} {S' : mT} : ∀ (k : Nat) (v1 : Int32) (v2 : Int32) (S : mT), fX12_exchange_2 k v1 v2 S = some S' → ∀ ok : Bool, mW p l e (mR 1) s m args below meth c G 4 233 54500 (mQ below G args s b S' none) (ok, 2, [.ref (187), .int v1, .int v2, .retAddr 0], [], mk b S) := by
  intro k
  induction k with
  | zero =>
    intro v1 v2 S hf ok
    cases hf
  | succ k ih =>
    intro v1 v2 S hf ok
    unfold fX12_exchange_2 at hf
    refine msegT C kX12_exchange 2 3 (g := (true, (if (17 : Int32) ≤ v2 then 44 else 8), [.ref (187), .int v1, .int v2, .retAddr 0], [], mk b S)) rfl rfl ?_
    by_cases hc : (17 : Int32) ≤ v2
    · rw [if_pos hc] at hf ⊢
      cases hf
      exact gret_v C hr hk (kX12_exchange _ (List.mem_of_getElem? (i := 29) rfl)).1
    · rw [if_neg hc] at hf ⊢
      obtain ⟨hok, hf⟩ := grd_ex hf
      refine msegT C kX12_exchange 5 7 (g := ((kI 212 (v1 + v2) && (kO 187 12 && true)), 17, [.ref (187), .int v1, .int v2, .int (S.1 212 (mIx (v1 + v2)))], [], mk b S)) rfl hok ?_
      obtain ⟨x1, ex1, hf⟩ := bnd_ex hf
      rw [← ex1]
      obtain ⟨hok, hf⟩ := grd_ex hf
      refine msegT C kX12_exchange 12 10 (g := ((kI 212 (v1 + v2) && (kI 208 v2 && (kO 187 12 && (kO 187 12 && true)))), 31, [.ref (187), .int v1, .int v2, .int x1], [], mk b (sI S 212 (mIx (v1 + v2)) (S.1 208 (mIx v2))))) rfl hok ?_
      obtain ⟨S2, eS2, hf⟩ := bnd_ex hf
      rw [← eS2]
      obtain ⟨hok, hf⟩ := grd_ex hf
      refine msegT C kX12_exchange 22 5 (g := ((kI 208 v2 && (kO 187 12 && true)), 38, [.ref (187), .int v1, .int v2, .int x1], [], mk b (sI S2 208 (mIx v2) x1))) rfl hok ?_
      obtain ⟨S3, eS3, hf⟩ := bnd_ex hf
      rw [← eS3]
      refine msegT C kX12_exchange 27 1 (g := (true, 41, [.ref (187), .int v1, .int (v2 + (1 : Int32)), .int x1], [], mk b S3)) rfl rfl ?_
      obtain ⟨x4, ex4, hf⟩ := bnd_ex hf
      rw [← ex4]
      refine msegT C kX12_exchange 28 1 (g := (true, 2, [.ref (187), .int v1, .int x4, .int x1], [], mk b S3)) rfl rfl ?_
      exact mfor (L' := [.ref (187), .int v1, .int x4, .retAddr 0]) ⟨Or.inr rfl, Or.inr rfl, Or.inr rfl, Or.inl rfl, trivial⟩ (ih _ _ _ hf true)
theorem bX12_exchange_0 (C : mCx p (mR 1) s m args meth c G cX12_exchange RX12 4 false 233 54500 233 54500) (hr : meth.sig.returnType = none) (hk : meth.locks = false) {b : Bool} {S' : mT} {v1 : Int32} {S : mT} (hf : fX12_exchange v1 S = some S') (ok : Bool) : mW p l e (mR 1) s m args below meth c G 4 233 54500 (mQ below G args s b S' none) (ok, 0, [.ref (187), .int v1, .retAddr 0, .retAddr 0], [], mk b S) := by
  unfold fX12_exchange at hf
  refine msegT C kX12_exchange 0 2 (g := (true, 2, [.ref (187), .int v1, .int (0 : Int32), .retAddr 0], [], mk b S)) rfl rfl ?_
  exact mfor (L' := [.ref (187), .int v1, .int (0 : Int32), .retAddr 0]) ⟨Or.inr rfl, Or.inr rfl, Or.inr rfl, Or.inl rfl, trivial⟩ (bX12_exchange_2 C hr hk _ _ _ _ hf true)
theorem qX12_exchange {b : Bool} {v1 : Int32} {S S' : mT} (hf : fX12_exchange v1 S = some S') : mOk l mX12_exchange 1 [.ref (187), .int v1] b S none S' :=
  gMet (by decide) (Nat.le_of_ble_eq_true rfl) rfl (Nat.le_of_ble_eq_true rfl) (fun p e s m args below meth c G C hr hk => bX12_exchange_0 C hr hk hf true)
theorem bX12_falses_36 (C : mCx p (mR 2) s m args meth c G cX12_falses RX12 3 false 233 54500 233 54500) (hr : meth.sig.returnType = (some .int)) (hk : meth.locks = false) {b : Bool} {S' : mT} {r : Int32} {rc4 : Int32 → Int32 → mT → Option (Int32 × mT)} (Hrc4 : ∀ (v1 : Int32) (v2 : Int32) (S : mT), rc4 v1 v2 S = some (r, S') → ∀ ok : Bool, mW p l e (mR 2) s m args below meth c G 3 233 54500 (mQ below G args s b S' (some (.int r))) (ok, 4, [.ref (187), .int v1, .int v2], [], mk b S)) {v2 : Int32} {s0 : Int32} {s1 : Int32} {S : mT} (hf : fX12_falses_36 rc4 v2 s0 s1 S = some (r, S')) (ok : Bool) : mW p l e (mR 2) s m args below meth c G 3 233 54500 (mQ below G args s b S' (some (.int r))) (ok, 36, [.ref (187), .retAddr 0, .int v2], [.int s0, .int s1], mk b S) := by
  unfold fX12_falses_36 at hf
  obtain ⟨x2, S1, hq, hf⟩ := bndC_ex hf
  refine mcall (kd := 1) (vs := [.int s0]) (rest := [.int s1]) (r := (some (.int x2))) (h' := mk b S1) (ok' := true) C lkRX12_307 (qX12_truth hq) (kX12_falses _ (List.mem_of_getElem? (i := 23) rfl)).1 rfl (Nat.le_of_ble_eq_true rfl) (Nat.le_of_ble_eq_true rfl) (Nat.le_refl _) (Nat.le_refl _) (Nat.le_of_ble_eq_true rfl) ?_
  refine msegT C kX12_falses 24 4 (g := (true, 43, [.ref (187), .int (s1 ||| (x2 <<< (v2 &&& 31))), .int v2], [], mk b S1)) rfl rfl ?_
  obtain ⟨x3, ex3, hf⟩ := bnd_ex hf
  rw [← ex3]
  refine msegT C kX12_falses 28 1 (g := (true, 46, [.ref (187), .int x3, .int (v2 + (1 : Int32))], [], mk b S1)) rfl rfl ?_
  obtain ⟨x4, ex4, hf⟩ := bnd_ex hf
  rw [← ex4]
  refine msegT C kX12_falses 29 1 (g := (true, 4, [.ref (187), .int x3, .int x4], [], mk b S1)) rfl rfl ?_
  exact mfor (L' := [.ref (187), .int x3, .int x4]) ⟨Or.inr rfl, Or.inr rfl, Or.inr rfl, trivial⟩ (Hrc4 _ _ _ hf true)
theorem bX12_falses_4 (C : mCx p (mR 2) s m args meth c G cX12_falses RX12 3 false 233 54500 233 54500) (hr : meth.sig.returnType = (some .int)) (hk : meth.locks = false) {b : Bool} {S' : mT} {r : Int32} : ∀ (k : Nat) (v1 : Int32) (v2 : Int32) (S : mT), fX12_falses_4 k v1 v2 S = some (r, S') → ∀ ok : Bool, mW p l e (mR 2) s m args below meth c G 3 233 54500 (mQ below G args s b S' (some (.int r))) (ok, 4, [.ref (187), .int v1, .int v2], [], mk b S) := by
  intro k
  induction k with
  | zero =>
    intro v1 v2 S hf ok
    cases hf
  | succ k ih =>
    intro v1 v2 S hf ok
    unfold fX12_falses_4 at hf
    obtain ⟨hok, hf⟩ := grd_ex hf
    refine msegT C kX12_falses 4 4 (g := ((kO 187 12 && true), (if (S.1 187 37) ≤ v2 then 49 else 12), [.ref (187), .int v1, .int v2], [], mk b S)) rfl hok ?_
    by_cases hc : (S.1 187 37) ≤ v2
    · rw [if_pos hc] at hf ⊢
      refine msegT C kX12_falses 30 1 (g := (true, 50, [.ref (187), .int v1, .int v2], [.int v1], mk b S)) rfl rfl ?_
      cases hf
      exact gret_i C hr hk (kX12_falses _ (List.mem_of_getElem? (i := 31) rfl)).1
    · rw [if_neg hc] at hf ⊢
      obtain ⟨hok, hf⟩ := grd_ex hf
      refine msegT C kX12_falses 8 10 (g := ((kO 187 12 && (kI 208 ((10 : Int32) + v2) && (kO 187 12 && true))), 27, [.ref (187), .int v1, .int v2], [.int v2, .ref 208, .int (S.1 208 (mIx ((10 : Int32) + v2))), .int v1], mk b S)) rfl hok ?_
      obtain ⟨hok, hf⟩ := grd_ex hf
      refine msegT C kX12_falses 18 2 (g := ((kI 208 v2 && true), (if (S.1 208 (mIx ((10 : Int32) + v2))) = (S.1 208 (mIx v2)) then 35 else 31), [.ref (187), .int v1, .int v2], [.int v1], mk b S)) rfl hok ?_
      by_cases hc : (S.1 208 (mIx ((10 : Int32) + v2))) = (S.1 208 (mIx v2))
      · rw [if_pos hc] at hf ⊢
        refine msegT C kX12_falses 22 1 (g := (true, 36, [.ref (187), .int v1, .int v2], [.int (0 : Int32), .int v1], mk b S)) rfl rfl ?_
        exact mfor (L' := [.ref (187), .retAddr 0, .int v2]) ⟨Or.inr rfl, Or.inl rfl, Or.inr rfl, trivial⟩ (bX12_falses_36 C hr hk ih hf true)
      · rw [if_neg hc] at hf ⊢
        refine msegT C kX12_falses 20 2 (g := (true, 36, [.ref (187), .int v1, .int v2], [.int (1 : Int32), .int v1], mk b S)) rfl rfl ?_
        exact mfor (L' := [.ref (187), .retAddr 0, .int v2]) ⟨Or.inr rfl, Or.inl rfl, Or.inr rfl, trivial⟩ (bX12_falses_36 C hr hk ih hf true)
theorem bX12_falses_0 (C : mCx p (mR 2) s m args meth c G cX12_falses RX12 3 false 233 54500 233 54500) (hr : meth.sig.returnType = (some .int)) (hk : meth.locks = false) {b : Bool} {S' : mT} {r : Int32} {S : mT} (hf : fX12_falses S = some (r, S')) (ok : Bool) : mW p l e (mR 2) s m args below meth c G 3 233 54500 (mQ below G args s b S' (some (.int r))) (ok, 0, [.ref (187), .retAddr 0, .retAddr 0], [], mk b S) := by
  unfold fX12_falses at hf
  refine msegT C kX12_falses 0 4 (g := (true, 4, [.ref (187), .int (0 : Int32), .int (0 : Int32)], [], mk b S)) rfl rfl ?_
  exact mfor (L' := [.ref (187), .int (0 : Int32), .int (0 : Int32)]) ⟨Or.inr rfl, Or.inr rfl, Or.inr rfl, trivial⟩ (bX12_falses_4 C hr hk _ _ _ _ hf true)
theorem qX12_falses {b : Bool} {S S' : mT} {r : Int32} (hf : fX12_falses S = some (r, S')) : mOk l mX12_falses 2 [.ref (187)] b S (some (.int r)) S' :=
  gMet (by decide) (Nat.le_of_ble_eq_true rfl) rfl (Nat.le_of_ble_eq_true rfl) (fun p e s m args below meth c G C hr hk => bX12_falses_0 C hr hk hf true)
theorem bX12_fault_24 (C : mCx p (mR 1) s m args meth c G cX12_fault RX12 2 false 233 54500 233 54500) (hr : meth.sig.returnType = (some .int)) (hk : meth.locks = false) {b : Bool} {S' : mT} {r : Int32} {s0 : Int32} {S : mT} (hf : fX12_fault_24 s0 S = some (r, S')) (ok : Bool) : mW p l e (mR 1) s m args below meth c G 2 233 54500 (mQ below G args s b S' (some (.int r))) (ok, 24, [.retAddr 0, .retAddr 0], [.int s0], mk b S) := by
  unfold fX12_fault_24 at hf
  cases hf
  exact gret_i C hr hk (kX12_fault _ (List.mem_of_getElem? (i := 12) rfl)).1
theorem bX12_fault_0 (C : mCx p (mR 1) s m args meth c G cX12_fault RX12 2 false 233 54500 233 54500) (hr : meth.sig.returnType = (some .int)) (hk : meth.locks = false) {b : Bool} {S' : mT} {r : Int32} {v1 : Int32} {S : mT} (hf : fX12_fault v1 S = some (r, S')) (ok : Bool) : mW p l e (mR 1) s m args below meth c G 2 233 54500 (mQ below G args s b S' (some (.int r))) (ok, 0, [.ref (187), .int v1], [], mk b S) := by
  unfold fX12_fault at hf
  refine msegT C kX12_fault 0 2 (g := (true, (if v1 = 0 then 4 else 11), [.ref (187), .int v1], [], mk b S)) rfl rfl ?_
  by_cases hc : v1 = 0
  · rw [if_pos hc] at hf ⊢
    obtain ⟨hok, hf⟩ := grd_ex hf
    refine msegT C kX12_fault 2 3 (g := ((kO 187 12 && true), 24, [.ref (187), .int v1], [.int (S.1 187 2)], mk b S)) rfl hok ?_
    exact mfor (L' := [.retAddr 0, .retAddr 0]) ⟨Or.inl rfl, Or.inl rfl, trivial⟩ (bX12_fault_24 C hr hk hf true)
  · rw [if_neg hc] at hf ⊢
    refine msegT C kX12_fault 5 3 (g := (true, (if v1 = (1 : Int32) then 16 else 23), [.ref (187), .int v1], [], mk b S)) rfl rfl ?_
    by_cases hc : v1 = (1 : Int32)
    · rw [if_pos hc] at hf ⊢
      obtain ⟨hok, hf⟩ := grd_ex hf
      refine msegT C kX12_fault 8 3 (g := ((kO 187 12 && true), 24, [.ref (187), .int v1], [.int (S.1 187 3)], mk b S)) rfl hok ?_
      exact mfor (L' := [.retAddr 0, .retAddr 0]) ⟨Or.inl rfl, Or.inl rfl, trivial⟩ (bX12_fault_24 C hr hk hf true)
    · rw [if_neg hc] at hf ⊢
      refine msegT C kX12_fault 11 1 (g := (true, 24, [.ref (187), .int v1], [.int (-1 : Int32)], mk b S)) rfl rfl ?_
      exact mfor (L' := [.retAddr 0, .retAddr 0]) ⟨Or.inl rfl, Or.inl rfl, trivial⟩ (bX12_fault_24 C hr hk hf true)
theorem qX12_fault {b : Bool} {v1 : Int32} {S S' : mT} {r : Int32} (hf : fX12_fault v1 S = some (r, S')) : mOk l mX12_fault 1 [.ref (187), .int v1] b S (some (.int r)) S' :=
  gMet (by decide) (Nat.le_of_ble_eq_true rfl) rfl (Nat.le_of_ble_eq_true rfl) (fun p e s m args below meth c G C hr hk => bX12_fault_0 C hr hk hf true)
theorem bX12_four_3 (C : mCx p (mR 1) s m args meth c G cX12_four RX12 3 false 233 54500 233 54500) (hr : meth.sig.returnType = none) (hk : meth.locks = false) {b : Bool} {S' : mT} : ∀ (k : Nat) (v1 : Int32) (v2 : Int32) (S : mT), fX12_four_3 k v1 v2 S = some S' → ∀ ok : Bool, mW p l e (mR 1) s m args below meth c G 3 233 54500 (mQ below G args s b S' none) (ok, 3, [.ref (187), .int v1, .int v2], [], mk b S) := by
  intro k
  induction k with
  | zero =>
    intro v1 v2 S hf ok
    cases hf
  | succ k ih =>
    intro v1 v2 S hf ok
    unfold fX12_four_3 at hf
    refine msegT C kX12_four 2 2 (g := (true, (if v2 < 0 then 39 else 7), [.ref (187), .int v1, .int v2], [], mk b S)) rfl rfl ?_
    by_cases hc : v2 < 0
    · rw [if_pos hc] at hf ⊢
      cases hf
      exact gret_v C hr hk (kX12_four _ (List.mem_of_getElem? (i := 22) rfl)).1
    · rw [if_neg hc] at hf ⊢
      obtain ⟨hok, hf⟩ := grd_ex hf
      refine msegT C kX12_four 4 10 (g := ((kI 188 (S.1 187 1) && (kO 187 12 && (kO 187 12 && true))), 23, [.ref (187), .int v1, .int v2], [], mk b (sI S 188 (mIx (S.1 187 1)) ((v1 >>> (v2 &&& 31)) &&& (255 : Int32))))) rfl hok ?_
      obtain ⟨S1, eS1, hf⟩ := bnd_ex hf
      rw [← eS1]
      obtain ⟨hok, hf⟩ := grd_ex hf
      refine msegT C kX12_four 14 6 (g := ((kO 187 12 && (kO 187 12 && true)), 33, [.ref (187), .int v1, .int v2], [], mk b (sI S1 187 1 ((S1.1 187 1) + (1 : Int32))))) rfl hok ?_
      obtain ⟨S2, eS2, hf⟩ := bnd_ex hf
      rw [← eS2]
      refine msegT C kX12_four 20 1 (g := (true, 36, [.ref (187), .int v1, .int (v2 + (-8 : Int32))], [], mk b S2)) rfl rfl ?_
      obtain ⟨x3, ex3, hf⟩ := bnd_ex hf
      rw [← ex3]
      refine msegT C kX12_four 21 1 (g := (true, 3, [.ref (187), .int v1, .int x3], [], mk b S2)) rfl rfl ?_
      exact mfor (L' := [.ref (187), .int v1, .int x3]) ⟨Or.inr rfl, Or.inr rfl, Or.inr rfl, trivial⟩ (ih _ _ _ hf true)
theorem bX12_four_0 (C : mCx p (mR 1) s m args meth c G cX12_four RX12 3 false 233 54500 233 54500) (hr : meth.sig.returnType = none) (hk : meth.locks = false) {b : Bool} {S' : mT} {v1 : Int32} {S : mT} (hf : fX12_four v1 S = some S') (ok : Bool) : mW p l e (mR 1) s m args below meth c G 3 233 54500 (mQ below G args s b S' none) (ok, 0, [.ref (187), .int v1, .retAddr 0], [], mk b S) := by
  unfold fX12_four at hf
  refine msegT C kX12_four 0 2 (g := (true, 3, [.ref (187), .int v1, .int (24 : Int32)], [], mk b S)) rfl rfl ?_
  exact mfor (L' := [.ref (187), .int v1, .int (24 : Int32)]) ⟨Or.inr rfl, Or.inr rfl, Or.inr rfl, trivial⟩ (bX12_four_3 C hr hk _ _ _ _ hf true)
theorem qX12_four {b : Bool} {v1 : Int32} {S S' : mT} (hf : fX12_four v1 S = some S') : mOk l mX12_four 1 [.ref (187), .int v1] b S none S' :=
  gMet (by decide) (Nat.le_of_ble_eq_true rfl) rfl (Nat.le_of_ble_eq_true rfl) (fun p e s m args below meth c G C hr hk => bX12_four_0 C hr hk hf true)
theorem bX12_feed_0 (C : mCx p (mR 2) s m args meth c G cX12_feed RX12 6 false 233 54500 233 54500) (hr : meth.sig.returnType = (some .int)) (hk : meth.locks = false) {b : Bool} {S' : mT} {r : Int32} {v1 : Int32} {v2 : Int32} {v3 : Int32} {v4 : Int32} {v5 : Int32} {S : mT} (hf : fX12_feed v1 v2 v3 v4 v5 S = some (r, S')) (ok : Bool) : mW p l e (mR 2) s m args below meth c G 6 233 54500 (mQ below G args s b S' (some (.int r))) (ok, 0, [.ref (187), .int v1, .int v2, .int v3, .int v4, .int v5], [], mk b S) := by
  unfold fX12_feed at hf
  obtain ⟨hok, hf⟩ := grd_ex hf
  refine msegT C kX12_feed 0 6 (g := ((kO 187 12 && true), (if ((S.1 187 1) + (20 : Int32)) ≤ (1600 : Int32) then 15 else 13), [.ref (187), .int v1, .int v2, .int v3, .int v4, .int v5], [], mk b S)) rfl hok ?_
  by_cases hc : ((S.1 187 1) + (20 : Int32)) ≤ (1600 : Int32)
  · rw [if_pos hc] at hf ⊢
    refine msegT C kX12_feed 8 2 (g := (true, 17, [.ref (187), .int v1, .int v2, .int v3, .int v4, .int v5], [.int v1, .ref (187)], mk b S)) rfl rfl ?_
    obtain ⟨S1, hq, hf⟩ := bndV_ex hf
    refine mcall (kd := 0) (vs := [.ref (187), .int v1]) (rest := []) (r := none) (h' := mk b S1) (ok' := true) C lkRX12_155 (qX12_four hq) (kX12_feed _ (List.mem_of_getElem? (i := 10) rfl)).1 ⟨_, _, rfl, rfl, Nat.le_of_ble_eq_true rfl, _, _, rfl, rfl, rfl⟩ (Nat.le_of_ble_eq_true rfl) (Nat.le_of_ble_eq_true rfl) (Nat.le_refl _) (Nat.le_refl _) (Nat.le_of_ble_eq_true rfl) ?_
    refine msegT C kX12_feed 11 2 (g := (true, 22, [.ref (187), .int v1, .int v2, .int v3, .int v4, .int v5], [.int v2, .ref (187)], mk b S1)) rfl rfl ?_
    obtain ⟨S2, hq, hf⟩ := bndV_ex hf
    refine mcall (kd := 0) (vs := [.ref (187), .int v2]) (rest := []) (r := none) (h' := mk b S2) (ok' := true) C lkRX12_155 (qX12_four hq) (kX12_feed _ (List.mem_of_getElem? (i := 13) rfl)).1 ⟨_, _, rfl, rfl, Nat.le_of_ble_eq_true rfl, _, _, rfl, rfl, rfl⟩ (Nat.le_of_ble_eq_true rfl) (Nat.le_of_ble_eq_true rfl) (Nat.le_refl _) (Nat.le_refl _) (Nat.le_of_ble_eq_true rfl) ?_
    refine msegT C kX12_feed 14 2 (g := (true, 27, [.ref (187), .int v1, .int v2, .int v3, .int v4, .int v5], [.int v3, .ref (187)], mk b S2)) rfl rfl ?_
    obtain ⟨S3, hq, hf⟩ := bndV_ex hf
    refine mcall (kd := 0) (vs := [.ref (187), .int v3]) (rest := []) (r := none) (h' := mk b S3) (ok' := true) C lkRX12_155 (qX12_four hq) (kX12_feed _ (List.mem_of_getElem? (i := 16) rfl)).1 ⟨_, _, rfl, rfl, Nat.le_of_ble_eq_true rfl, _, _, rfl, rfl, rfl⟩ (Nat.le_of_ble_eq_true rfl) (Nat.le_of_ble_eq_true rfl) (Nat.le_refl _) (Nat.le_refl _) (Nat.le_of_ble_eq_true rfl) ?_
    refine msegT C kX12_feed 17 2 (g := (true, 33, [.ref (187), .int v1, .int v2, .int v3, .int v4, .int v5], [.int v4, .ref (187)], mk b S3)) rfl rfl ?_
    obtain ⟨S4, hq, hf⟩ := bndV_ex hf
    refine mcall (kd := 0) (vs := [.ref (187), .int v4]) (rest := []) (r := none) (h' := mk b S4) (ok' := true) C lkRX12_155 (qX12_four hq) (kX12_feed _ (List.mem_of_getElem? (i := 19) rfl)).1 ⟨_, _, rfl, rfl, Nat.le_of_ble_eq_true rfl, _, _, rfl, rfl, rfl⟩ (Nat.le_of_ble_eq_true rfl) (Nat.le_of_ble_eq_true rfl) (Nat.le_refl _) (Nat.le_refl _) (Nat.le_of_ble_eq_true rfl) ?_
    refine msegT C kX12_feed 20 2 (g := (true, 39, [.ref (187), .int v1, .int v2, .int v3, .int v4, .int v5], [.int v5, .ref (187)], mk b S4)) rfl rfl ?_
    obtain ⟨S5, hq, hf⟩ := bndV_ex hf
    refine mcall (kd := 0) (vs := [.ref (187), .int v5]) (rest := []) (r := none) (h' := mk b S5) (ok' := true) C lkRX12_155 (qX12_four hq) (kX12_feed _ (List.mem_of_getElem? (i := 22) rfl)).1 ⟨_, _, rfl, rfl, Nat.le_of_ble_eq_true rfl, _, _, rfl, rfl, rfl⟩ (Nat.le_of_ble_eq_true rfl) (Nat.le_of_ble_eq_true rfl) (Nat.le_refl _) (Nat.le_refl _) (Nat.le_of_ble_eq_true rfl) ?_
    obtain ⟨hok, hf⟩ := grd_ex hf
    refine msegT C kX12_feed 23 2 (g := ((kO 187 12 && true), 46, [.ref (187), .int v1, .int v2, .int v3, .int v4, .int v5], [.int (S5.1 187 1)], mk b S5)) rfl hok ?_
    cases hf
    exact gret_i C hr hk (kX12_feed _ (List.mem_of_getElem? (i := 25) rfl)).1
  · rw [if_neg hc] at hf ⊢
    refine msegT C kX12_feed 6 1 (g := (true, 14, [.ref (187), .int v1, .int v2, .int v3, .int v4, .int v5], [.int (-1 : Int32)], mk b S)) rfl rfl ?_
    cases hf
    exact gret_i C hr hk (kX12_feed _ (List.mem_of_getElem? (i := 7) rfl)).1
theorem qX12_feed {b : Bool} {v1 : Int32} {v2 : Int32} {v3 : Int32} {v4 : Int32} {v5 : Int32} {S S' : mT} {r : Int32} (hf : fX12_feed v1 v2 v3 v4 v5 S = some (r, S')) : mOk l mX12_feed 2 [.ref (187), .int v1, .int v2, .int v3, .int v4, .int v5] b S (some (.int r)) S' :=
  gMet (by decide) (Nat.le_of_ble_eq_true rfl) rfl (Nat.le_of_ble_eq_true rfl) (fun p e s m args below meth c G C hr hk => bX12_feed_0 C hr hk hf true)
theorem bX12_find_31 (C : mCx p (mR 1) s m args meth c G cX12_find RX12 3 false 233 54500 233 54500) (hr : meth.sig.returnType = (some .int)) (hk : meth.locks = false) {b : Bool} {S' : mT} {r : Int32} {rc4 : Int32 → Int32 → mT → Option (Int32 × mT)} (Hrc4 : ∀ (v1 : Int32) (v2 : Int32) (S : mT), rc4 v1 v2 S = some (r, S') → ∀ ok : Bool, mW p l e (mR 1) s m args below meth c G 3 233 54500 (mQ below G args s b S' (some (.int r))) (ok, 4, [.ref (187), .int v1, .int v2], [], mk b S)) {v2 : Int32} {s0 : Int32} {S : mT} (hf : fX12_find_31 rc4 v2 s0 S = some (r, S')) (ok : Bool) : mW p l e (mR 1) s m args below meth c G 3 233 54500 (mQ below G args s b S' (some (.int r))) (ok, 31, [.ref (187), .retAddr 0, .int v2], [.int s0], mk b S) := by
  unfold fX12_find_31 at hf
  refine msegT C kX12_find 19 2 (g := (true, 35, [.ref (187), .int s0, .int (v2 + (1 : Int32))], [], mk b S)) rfl rfl ?_
  obtain ⟨x1, ex1, hf⟩ := bnd_ex hf
  rw [← ex1]
  refine msegT C kX12_find 21 1 (g := (true, 4, [.ref (187), .int s0, .int x1], [], mk b S)) rfl rfl ?_
  exact mfor (L' := [.ref (187), .int s0, .int x1]) ⟨Or.inr rfl, Or.inr rfl, Or.inr rfl, trivial⟩ (Hrc4 _ _ _ hf true)
theorem bX12_find_4 (C : mCx p (mR 1) s m args meth c G cX12_find RX12 3 false 233 54500 233 54500) (hr : meth.sig.returnType = (some .int)) (hk : meth.locks = false) {b : Bool} {S' : mT} {r : Int32} : ∀ (k : Nat) (v1 : Int32) (v2 : Int32) (S : mT), fX12_find_4 k v1 v2 S = some (r, S') → ∀ ok : Bool, mW p l e (mR 1) s m args below meth c G 3 233 54500 (mQ below G args s b S' (some (.int r))) (ok, 4, [.ref (187), .int v1, .int v2], [], mk b S) := by
  intro k
  induction k with
  | zero =>
    intro v1 v2 S hf ok
    cases hf
  | succ k ih =>
    intro v1 v2 S hf ok
    unfold fX12_find_4 at hf
    obtain ⟨hok, hf⟩ := grd_ex hf
    refine msegT C kX12_find 4 4 (g := ((kO 187 12 && true), (if (S.1 187 35) ≤ v2 then 38 else 12), [.ref (187), .int v1, .int v2], [], mk b S)) rfl hok ?_
    by_cases hc : (S.1 187 35) ≤ v2
    · rw [if_pos hc] at hf ⊢
      refine msegT C kX12_find 22 1 (g := (true, 39, [.ref (187), .int v1, .int v2], [.int v1], mk b S)) rfl rfl ?_
      cases hf
      exact gret_i C hr hk (kX12_find _ (List.mem_of_getElem? (i := 23) rfl)).1
    · rw [if_neg hc] at hf ⊢
      obtain ⟨hok, hf⟩ := grd_ex hf
      refine msegT C kX12_find 8 8 (g := ((kO 187 12 && (kJ 189 v2 && (kO 187 12 && true))), (if (lg_cmp (S.2 189 (mIx v2)) (S.2 187 9)) = 0 then 26 else 30), [.ref (187), .int v1, .int v2], [], mk b S)) rfl hok ?_
      by_cases hc : (lg_cmp (S.2 189 (mIx v2)) (S.2 187 9)) = 0
      · rw [if_pos hc] at hf ⊢
        refine msegT C kX12_find 16 2 (g := (true, 31, [.ref (187), .int v1, .int v2], [.int v2], mk b S)) rfl rfl ?_
        exact mfor (L' := [.ref (187), .retAddr 0, .int v2]) ⟨Or.inr rfl, Or.inl rfl, Or.inr rfl, trivial⟩ (bX12_find_31 C hr hk ih hf true)
      · rw [if_neg hc] at hf ⊢
        refine msegT C kX12_find 18 1 (g := (true, 31, [.ref (187), .int v1, .int v2], [.int v1], mk b S)) rfl rfl ?_
        exact mfor (L' := [.ref (187), .retAddr 0, .int v2]) ⟨Or.inr rfl, Or.inl rfl, Or.inr rfl, trivial⟩ (bX12_find_31 C hr hk ih hf true)
theorem bX12_find_0 (C : mCx p (mR 1) s m args meth c G cX12_find RX12 3 false 233 54500 233 54500) (hr : meth.sig.returnType = (some .int)) (hk : meth.locks = false) {b : Bool} {S' : mT} {r : Int32} {S : mT} (hf : fX12_find S = some (r, S')) (ok : Bool) : mW p l e (mR 1) s m args below meth c G 3 233 54500 (mQ below G args s b S' (some (.int r))) (ok, 0, [.ref (187), .retAddr 0, .retAddr 0], [], mk b S) := by
  unfold fX12_find at hf
  refine msegT C kX12_find 0 4 (g := (true, 4, [.ref (187), .int (-1 : Int32), .int (0 : Int32)], [], mk b S)) rfl rfl ?_
  exact mfor (L' := [.ref (187), .int (-1 : Int32), .int (0 : Int32)]) ⟨Or.inr rfl, Or.inr rfl, Or.inr rfl, trivial⟩ (bX12_find_4 C hr hk _ _ _ _ hf true)
theorem qX12_find {b : Bool} {S S' : mT} {r : Int32} (hf : fX12_find S = some (r, S')) : mOk l mX12_find 1 [.ref (187)] b S (some (.int r)) S' :=
  gMet (by decide) (Nat.le_of_ble_eq_true rfl) rfl (Nat.le_of_ble_eq_true rfl) (fun p e s m args below meth c G C hr hk => bX12_find_0 C hr hk hf true)
theorem bX12_hasBracket_32 (C : mCx p (mR 1) s m args meth c G cX12_hasBracket RX12 3 false 233 54500 233 54500) (hr : meth.sig.returnType = (some .boolean)) (hk : meth.locks = false) {b : Bool} {S' : mT} {r : Int32} {rc4 : Int32 → Int32 → mT → Option (Int32 × mT)} (Hrc4 : ∀ (v1 : Int32) (v2 : Int32) (S : mT), rc4 v1 v2 S = some (r, S') → ∀ ok : Bool, mW p l e (mR 1) s m args below meth c G 3 233 54500 (mQ below G args s b S' (some (.int r))) (ok, 4, [.ref (187), .int v1, .int v2], [], mk b S)) {v2 : Int32} {s0 : Int32} {S : mT} (hf : fX12_hasBracket_32 rc4 v2 s0 S = some (r, S')) (ok : Bool) : mW p l e (mR 1) s m args below meth c G 3 233 54500 (mQ below G args s b S' (some (.int r))) (ok, 32, [.ref (187), .retAddr 0, .int v2], [.int s0], mk b S) := by
  unfold fX12_hasBracket_32 at hf
  refine msegT C kX12_hasBracket 19 2 (g := (true, 36, [.ref (187), .int s0, .int (v2 + (1 : Int32))], [], mk b S)) rfl rfl ?_
  obtain ⟨x1, ex1, hf⟩ := bnd_ex hf
  rw [← ex1]
  refine msegT C kX12_hasBracket 21 1 (g := (true, 4, [.ref (187), .int s0, .int x1], [], mk b S)) rfl rfl ?_
  exact mfor (L' := [.ref (187), .int s0, .int x1]) ⟨Or.inr rfl, Or.inr rfl, Or.inr rfl, trivial⟩ (Hrc4 _ _ _ hf true)
theorem bX12_hasBracket_27 (C : mCx p (mR 1) s m args meth c G cX12_hasBracket RX12 3 false 233 54500 233 54500) (hr : meth.sig.returnType = (some .boolean)) (hk : meth.locks = false) {b : Bool} {S' : mT} {r : Int32} {rc4 : Int32 → Int32 → mT → Option (Int32 × mT)} (Hrc4 : ∀ (v1 : Int32) (v2 : Int32) (S : mT), rc4 v1 v2 S = some (r, S') → ∀ ok : Bool, mW p l e (mR 1) s m args below meth c G 3 233 54500 (mQ below G args s b S' (some (.int r))) (ok, 4, [.ref (187), .int v1, .int v2], [], mk b S)) {v2 : Int32} {S : mT} (hf : fX12_hasBracket_27 rc4 v2 S = some (r, S')) (ok : Bool) : mW p l e (mR 1) s m args below meth c G 3 233 54500 (mQ below G args s b S' (some (.int r))) (ok, 27, [.ref (187), .retAddr 0, .int v2], [], mk b S) := by
  unfold fX12_hasBracket_27 at hf
  refine msegT C kX12_hasBracket 16 2 (g := (true, 32, [.ref (187), .retAddr 0, .int v2], [.int (1 : Int32)], mk b S)) rfl rfl ?_
  exact mfor (L' := [.ref (187), .retAddr 0, .int v2]) ⟨Or.inr rfl, Or.inl rfl, Or.inr rfl, trivial⟩ (bX12_hasBracket_32 C hr hk Hrc4 hf true)
theorem bX12_hasBracket_4 (C : mCx p (mR 1) s m args meth c G cX12_hasBracket RX12 3 false 233 54500 233 54500) (hr : meth.sig.returnType = (some .boolean)) (hk : meth.locks = false) {b : Bool} {S' : mT} {r : Int32} : ∀ (k : Nat) (v1 : Int32) (v2 : Int32) (S : mT), fX12_hasBracket_4 k v1 v2 S = some (r, S') → ∀ ok : Bool, mW p l e (mR 1) s m args below meth c G 3 233 54500 (mQ below G args s b S' (some (.int r))) (ok, 4, [.ref (187), .int v1, .int v2], [], mk b S) := by
  intro k
  induction k with
  | zero =>
    intro v1 v2 S hf ok
    cases hf
  | succ k ih =>
    intro v1 v2 S hf ok
    unfold fX12_hasBracket_4 at hf
    obtain ⟨hok, hf⟩ := grd_ex hf
    refine msegT C kX12_hasBracket 4 4 (g := ((kO 187 12 && true), (if (S.1 187 22) ≤ v2 then 39 else 12), [.ref (187), .int v1, .int v2], [], mk b S)) rfl hok ?_
    by_cases hc : (S.1 187 22) ≤ v2
    · rw [if_pos hc] at hf ⊢
      refine msegT C kX12_hasBracket 22 1 (g := (true, 40, [.ref (187), .int v1, .int v2], [.int v1], mk b S)) rfl rfl ?_
      obtain ⟨hz, hf⟩ := grd_ex hf
      cases hf
      exact gret_z C hr hk (mFit_nar hz) (kX12_hasBracket _ (List.mem_of_getElem? (i := 23) rfl)).1
    · rw [if_neg hc] at hf ⊢
      refine msegT C kX12_hasBracket 8 2 (g := (true, (if v1 = 0 then 16 else 27), [.ref (187), .int v1, .int v2], [], mk b S)) rfl rfl ?_
      by_cases hc : v1 = 0
      · rw [if_pos hc] at hf ⊢
        obtain ⟨hok, hf⟩ := grd_ex hf
        refine msegT C kX12_hasBracket 10 6 (g := ((kI 196 v2 && (kO 187 12 && true)), (if (S.1 196 (mIx v2)) = (20 : Int32) then 27 else 31), [.ref (187), .int v1, .int v2], [], mk b S)) rfl hok ?_
        by_cases hc : (S.1 196 (mIx v2)) = (20 : Int32)
        · rw [if_pos hc] at hf ⊢
          exact mfor (L' := [.ref (187), .retAddr 0, .int v2]) ⟨Or.inr rfl, Or.inl rfl, Or.inr rfl, trivial⟩ (bX12_hasBracket_27 C hr hk ih hf true)
        · rw [if_neg hc] at hf ⊢
          refine msegT C kX12_hasBracket 18 1 (g := (true, 32, [.ref (187), .int v1, .int v2], [.int (0 : Int32)], mk b S)) rfl rfl ?_
          exact mfor (L' := [.ref (187), .retAddr 0, .int v2]) ⟨Or.inr rfl, Or.inl rfl, Or.inr rfl, trivial⟩ (bX12_hasBracket_32 C hr hk ih hf true)
      · rw [if_neg hc] at hf ⊢
        exact mfor (L' := [.ref (187), .retAddr 0, .int v2]) ⟨Or.inr rfl, Or.inl rfl, Or.inr rfl, trivial⟩ (bX12_hasBracket_27 C hr hk ih hf true)
theorem bX12_hasBracket_0 (C : mCx p (mR 1) s m args meth c G cX12_hasBracket RX12 3 false 233 54500 233 54500) (hr : meth.sig.returnType = (some .boolean)) (hk : meth.locks = false) {b : Bool} {S' : mT} {r : Int32} {S : mT} (hf : fX12_hasBracket S = some (r, S')) (ok : Bool) : mW p l e (mR 1) s m args below meth c G 3 233 54500 (mQ below G args s b S' (some (.int r))) (ok, 0, [.ref (187), .retAddr 0, .retAddr 0], [], mk b S) := by
  unfold fX12_hasBracket at hf
  refine msegT C kX12_hasBracket 0 4 (g := (true, 4, [.ref (187), .int (0 : Int32), .int (0 : Int32)], [], mk b S)) rfl rfl ?_
  exact mfor (L' := [.ref (187), .int (0 : Int32), .int (0 : Int32)]) ⟨Or.inr rfl, Or.inr rfl, Or.inr rfl, trivial⟩ (bX12_hasBracket_4 C hr hk _ _ _ _ hf true)
theorem qX12_hasBracket {b : Bool} {S S' : mT} {r : Int32} (hf : fX12_hasBracket S = some (r, S')) : mOk l mX12_hasBracket 1 [.ref (187)] b S (some (.int r)) S' :=
  gMet (by decide) (Nat.le_of_ble_eq_true rfl) rfl (Nat.le_of_ble_eq_true rfl) (fun p e s m args below meth c G C hr hk => bX12_hasBracket_0 C hr hk hf true)
theorem bX12_hasRelation_74 (C : mCx p (mR 2) s m args meth c G cX12_hasRelation RX12 2 false 233 54500 233 54500) (hr : meth.sig.returnType = (some .boolean)) (hk : meth.locks = false) {b : Bool} {S' : mT} {r : Int32} {s0 : Int32} {S : mT} (hf : fX12_hasRelation_74 s0 S = some (r, S')) (ok : Bool) : mW p l e (mR 2) s m args below meth c G 2 233 54500 (mQ below G args s b S' (some (.int r))) (ok, 74, [.retAddr 0, .retAddr 0], [.int s0], mk b S) := by
  unfold fX12_hasRelation_74 at hf
  obtain ⟨hz, hf⟩ := grd_ex hf
  cases hf
  exact gret_z C hr hk (mFit_nar hz) (kX12_hasRelation _ (List.mem_of_getElem? (i := 40) rfl)).1
theorem bX12_hasRelation_73 (C : mCx p (mR 2) s m args meth c G cX12_hasRelation RX12 2 false 233 54500 233 54500) (hr : meth.sig.returnType = (some .boolean)) (hk : meth.locks = false) {b : Bool} {S' : mT} {r : Int32} {S : mT} (hf : fX12_hasRelation_73 S = some (r, S')) (ok : Bool) : mW p l e (mR 2) s m args below meth c G 2 233 54500 (mQ below G args s b S' (some (.int r))) (ok, 73, [.retAddr 0, .retAddr 0], [], mk b S) := by
  unfold fX12_hasRelation_73 at hf
  refine msegT C kX12_hasRelation 39 1 (g := (true, 74, [.retAddr 0, .retAddr 0], [.int (0 : Int32)], mk b S)) rfl rfl ?_
  exact mfor (L' := [.retAddr 0, .retAddr 0]) ⟨Or.inl rfl, Or.inl rfl, trivial⟩ (bX12_hasRelation_74 C hr hk hf true)
theorem bX12_hasRelation_41 (C : mCx p (mR 2) s m args meth c G cX12_hasRelation RX12 2 false 233 54500 233 54500) (hr : meth.sig.returnType = (some .boolean)) (hk : meth.locks = false) {b : Bool} {S' : mT} {r : Int32} {v1 : Int32} {S : mT} (hf : fX12_hasRelation_41 v1 S = some (r, S')) (ok : Bool) : mW p l e (mR 2) s m args below meth c G 2 233 54500 (mQ below G args s b S' (some (.int r))) (ok, 41, [.ref (187), .int v1], [], mk b S) := by
  unfold fX12_hasRelation_41 at hf
  refine msegT C kX12_hasRelation 22 2 (g := (true, (if v1 < 0 then 73 else 45), [.ref (187), .int v1], [], mk b S)) rfl rfl ?_
  by_cases hc : v1 < 0
  · rw [if_pos hc] at hf ⊢
    exact mfor (L' := [.retAddr 0, .retAddr 0]) ⟨Or.inl rfl, Or.inl rfl, trivial⟩ (bX12_hasRelation_73 C hr hk hf true)
  · rw [if_neg hc] at hf ⊢
    obtain ⟨hok, hf⟩ := grd_ex hf
    refine msegT C kX12_hasRelation 24 6 (g := ((kI 196 v1 && (kO 187 12 && true)), (if (S.1 196 (mIx v1)) = (20 : Int32) then 73 else 56), [.ref (187), .int v1], [], mk b S)) rfl hok ?_
    by_cases hc : (S.1 196 (mIx v1)) = (20 : Int32)
    · rw [if_pos hc] at hf ⊢
      exact mfor (L' := [.retAddr 0, .retAddr 0]) ⟨Or.inl rfl, Or.inl rfl, trivial⟩ (bX12_hasRelation_73 C hr hk hf true)
    · rw [if_neg hc] at hf ⊢
      obtain ⟨hok, hf⟩ := grd_ex hf
      refine msegT C kX12_hasRelation 30 4 (g := ((kI 196 v1 && (kO 187 12 && true)), 62, [.ref (187), .int v1], [.int (S.1 196 (mIx v1))], mk b S)) rfl hok ?_
      obtain ⟨x6, S5, hq, hf⟩ := bndC_ex hf
      refine mcall (kd := 1) (vs := [.int (S.1 196 (mIx v1))]) (rest := []) (r := (some (.int x6))) (h' := mk b S5) (ok' := true) C lkRX12_260 (qX12_tight hq) (kX12_hasRelation _ (List.mem_of_getElem? (i := 34) rfl)).1 rfl (Nat.le_of_ble_eq_true rfl) (Nat.le_of_ble_eq_true rfl) (Nat.le_refl _) (Nat.le_refl _) (Nat.le_of_ble_eq_true rfl) ?_
      refine msegT C kX12_hasRelation 35 2 (g := (true, (if x6 = (4 : Int32) then 69 else 73), [.ref (187), .int v1], [], mk b S5)) rfl rfl ?_
      by_cases hc : x6 = (4 : Int32)
      · rw [if_pos hc] at hf ⊢
        refine msegT C kX12_hasRelation 37 2 (g := (true, 74, [.ref (187), .int v1], [.int (1 : Int32)], mk b S5)) rfl rfl ?_
        exact mfor (L' := [.retAddr 0, .retAddr 0]) ⟨Or.inl rfl, Or.inl rfl, trivial⟩ (bX12_hasRelation_74 C hr hk hf true)
      · rw [if_neg hc] at hf ⊢
        exact mfor (L' := [.retAddr 0, .retAddr 0]) ⟨Or.inl rfl, Or.inl rfl, trivial⟩ (bX12_hasRelation_73 C hr hk hf true)
theorem bX12_hasRelation_7 (C : mCx p (mR 2) s m args meth c G cX12_hasRelation RX12 2 false 233 54500 233 54500) (hr : meth.sig.returnType = (some .boolean)) (hk : meth.locks = false) {b : Bool} {S' : mT} {r : Int32} : ∀ (k : Nat) (v1 : Int32) (S : mT), fX12_hasRelation_7 k v1 S = some (r, S') → ∀ ok : Bool, mW p l e (mR 2) s m args below meth c G 2 233 54500 (mQ below G args s b S' (some (.int r))) (ok, 7, [.ref (187), .int v1], [], mk b S) := by
  intro k
  induction k with
  | zero =>
    intro v1 S hf ok
    cases hf
  | succ k ih =>
    intro v1 S hf ok
    unfold fX12_hasRelation_7 at hf
    refine msegT C kX12_hasRelation 5 2 (g := (true, (if v1 < 0 then 41 else 11), [.ref (187), .int v1], [], mk b S)) rfl rfl ?_
    by_cases hc : v1 < 0
    · rw [if_pos hc] at hf ⊢
      exact mfor (L' := [.ref (187), .int v1]) ⟨Or.inr rfl, Or.inr rfl, trivial⟩ (bX12_hasRelation_41 C hr hk hf true)
    · rw [if_neg hc] at hf ⊢
      obtain ⟨hok, hf⟩ := grd_ex hf
      refine msegT C kX12_hasRelation 7 6 (g := ((kI 196 v1 && (kO 187 12 && true)), (if (S.1 196 (mIx v1)) = (20 : Int32) then 41 else 22), [.ref (187), .int v1], [], mk b S)) rfl hok ?_
      by_cases hc : (S.1 196 (mIx v1)) = (20 : Int32)
      · rw [if_pos hc] at hf ⊢
        exact mfor (L' := [.ref (187), .int v1]) ⟨Or.inr rfl, Or.inr rfl, trivial⟩ (bX12_hasRelation_41 C hr hk hf true)
      · rw [if_neg hc] at hf ⊢
        obtain ⟨hok, hf⟩ := grd_ex hf
        refine msegT C kX12_hasRelation 13 4 (g := ((kI 196 v1 && (kO 187 12 && true)), 28, [.ref (187), .int v1], [.int (S.1 196 (mIx v1))], mk b S)) rfl hok ?_
        obtain ⟨x3, S2, hq, hf⟩ := bndC_ex hf
        refine mcall (kd := 1) (vs := [.int (S.1 196 (mIx v1))]) (rest := []) (r := (some (.int x3))) (h' := mk b S2) (ok' := true) C lkRX12_260 (qX12_tight hq) (kX12_hasRelation _ (List.mem_of_getElem? (i := 17) rfl)).1 rfl (Nat.le_of_ble_eq_true rfl) (Nat.le_of_ble_eq_true rfl) (Nat.le_refl _) (Nat.le_refl _) (Nat.le_of_ble_eq_true rfl) ?_
        refine msegT C kX12_hasRelation 18 2 (g := (true, (if x3 ≤ (4 : Int32) then 41 else 35), [.ref (187), .int v1], [], mk b S2)) rfl rfl ?_
        by_cases hc : x3 ≤ (4 : Int32)
        · rw [if_pos hc] at hf ⊢
          exact mfor (L' := [.ref (187), .int v1]) ⟨Or.inr rfl, Or.inr rfl, trivial⟩ (bX12_hasRelation_41 C hr hk hf true)
        · rw [if_neg hc] at hf ⊢
          refine msegT C kX12_hasRelation 20 1 (g := (true, 38, [.ref (187), .int (v1 + (-1 : Int32))], [], mk b S2)) rfl rfl ?_
          obtain ⟨x4, ex4, hf⟩ := bnd_ex hf
          rw [← ex4]
          refine msegT C kX12_hasRelation 21 1 (g := (true, 7, [.ref (187), .int x4], [], mk b S2)) rfl rfl ?_
          exact mfor (L' := [.ref (187), .int x4]) ⟨Or.inr rfl, Or.inr rfl, trivial⟩ (ih _ _ hf true)
theorem bX12_hasRelation_0 (C : mCx p (mR 2) s m args meth c G cX12_hasRelation RX12 2 false 233 54500 233 54500) (hr : meth.sig.returnType = (some .boolean)) (hk : meth.locks = false) {b : Bool} {S' : mT} {r : Int32} {S : mT} (hf : fX12_hasRelation S = some (r, S')) (ok : Bool) : mW p l e (mR 2) s m args below meth c G 2 233 54500 (mQ below G args s b S' (some (.int r))) (ok, 0, [.ref (187), .retAddr 0], [], mk b S) := by
  unfold fX12_hasRelation at hf
  obtain ⟨hok, hf⟩ := grd_ex hf
  refine msegT C kX12_hasRelation 0 5 (g := ((kO 187 12 && true), 7, [.ref (187), .int ((S.1 187 22) - (1 : Int32))], [], mk b S)) rfl hok ?_
  obtain ⟨x1, ex1, hf⟩ := bnd_ex hf
  rw [← ex1]
  exact mfor (L' := [.ref (187), .int x1]) ⟨Or.inr rfl, Or.inr rfl, trivial⟩ (bX12_hasRelation_7 C hr hk _ _ _ hf true)
theorem qX12_hasRelation {b : Bool} {S S' : mT} {r : Int32} (hf : fX12_hasRelation S = some (r, S')) : mOk l mX12_hasRelation 2 [.ref (187)] b S (some (.int r)) S' :=
  gMet (by decide) (Nat.le_of_ble_eq_true rfl) rfl (Nat.le_of_ble_eq_true rfl) (fun p e s m args below meth c G C hr hk => bX12_hasRelation_0 C hr hk hf true)
theorem bX12_isWord_22 (C : mCx p (mR 1) s m args meth c G cX12_isWord RX12 3 false 233 54500 233 54500) (hr : meth.sig.returnType = (some .boolean)) (hk : meth.locks = false) {b : Bool} {S' : mT} {r : Int32} {s0 : Int32} {S : mT} (hf : fX12_isWord_22 s0 S = some (r, S')) (ok : Bool) : mW p l e (mR 1) s m args below meth c G 3 233 54500 (mQ below G args s b S' (some (.int r))) (ok, 22, [.retAddr 0, .retAddr 0, .retAddr 0], [.int s0], mk b S) := by
  unfold fX12_isWord_22 at hf
  obtain ⟨hz, hf⟩ := grd_ex hf
  cases hf
  exact gret_z C hr hk (mFit_nar hz) (kX12_isWord _ (List.mem_of_getElem? (i := 12) rfl)).1
theorem bX12_isWord_21 (C : mCx p (mR 1) s m args meth c G cX12_isWord RX12 3 false 233 54500 233 54500) (hr : meth.sig.returnType = (some .boolean)) (hk : meth.locks = false) {b : Bool} {S' : mT} {r : Int32} {S : mT} (hf : fX12_isWord_21 S = some (r, S')) (ok : Bool) : mW p l e (mR 1) s m args below meth c G 3 233 54500 (mQ below G args s b S' (some (.int r))) (ok, 21, [.retAddr 0, .retAddr 0, .retAddr 0], [], mk b S) := by
  unfold fX12_isWord_21 at hf
  refine msegT C kX12_isWord 11 1 (g := (true, 22, [.retAddr 0, .retAddr 0, .retAddr 0], [.int (0 : Int32)], mk b S)) rfl rfl ?_
  exact mfor (L' := [.retAddr 0, .retAddr 0, .retAddr 0]) ⟨Or.inl rfl, Or.inl rfl, Or.inl rfl, trivial⟩ (bX12_isWord_22 C hr hk hf true)
theorem bX12_isWord_0 (C : mCx p (mR 1) s m args meth c G cX12_isWord RX12 3 false 233 54500 233 54500) (hr : meth.sig.returnType = (some .boolean)) (hk : meth.locks = false) {b : Bool} {S' : mT} {r : Int32} {v1 : Int64} {S : mT} (hf : fX12_isWord v1 S = some (r, S')) (ok : Bool) : mW p l e (mR 1) s m args below meth c G 3 233 54500 (mQ below G args s b S' (some (.int r))) (ok, 0, [.ref (187), .long v1, .retAddr 0], [], mk b S) := by
  unfold fX12_isWord at hf
  obtain ⟨hok, hf⟩ := grd_ex hf
  refine msegT C kX12_isWord 0 4 (g := ((kO 187 12 && true), (if (S.1 187 6) = (1 : Int32) then 8 else 21), [.ref (187), .long v1, .retAddr 0], [], mk b S)) rfl hok ?_
  by_cases hc : (S.1 187 6) = (1 : Int32)
  · rw [if_pos hc] at hf ⊢
    obtain ⟨hok, hf⟩ := grd_ex hf
    refine msegT C kX12_isWord 4 5 (g := ((kO 187 12 && true), (if (lg_cmp (S.2 187 9) v1) = 0 then 17 else 21), [.ref (187), .long v1, .retAddr 0], [], mk b S)) rfl hok ?_
    by_cases hc : (lg_cmp (S.2 187 9) v1) = 0
    · rw [if_pos hc] at hf ⊢
      refine msegT C kX12_isWord 9 2 (g := (true, 22, [.ref (187), .long v1, .retAddr 0], [.int (1 : Int32)], mk b S)) rfl rfl ?_
      exact mfor (L' := [.retAddr 0, .retAddr 0, .retAddr 0]) ⟨Or.inl rfl, Or.inl rfl, Or.inl rfl, trivial⟩ (bX12_isWord_22 C hr hk hf true)
    · rw [if_neg hc] at hf ⊢
      exact mfor (L' := [.retAddr 0, .retAddr 0, .retAddr 0]) ⟨Or.inl rfl, Or.inl rfl, Or.inl rfl, trivial⟩ (bX12_isWord_21 C hr hk hf true)
  · rw [if_neg hc] at hf ⊢
    exact mfor (L' := [.retAddr 0, .retAddr 0, .retAddr 0]) ⟨Or.inl rfl, Or.inl rfl, Or.inl rfl, trivial⟩ (bX12_isWord_21 C hr hk hf true)
theorem qX12_isWord {b : Bool} {v1 : Int64} {S S' : mT} {r : Int32} (hf : fX12_isWord v1 S = some (r, S')) : mOk l mX12_isWord 1 [.ref (187), .long v1] b S (some (.int r)) S' :=
  gMet (by decide) (Nat.le_of_ble_eq_true rfl) rfl (Nat.le_of_ble_eq_true rfl) (fun p e s m args below meth c G C hr hk => bX12_isWord_0 C hr hk hf true)
theorem bX12_sign_106 (C : mCx p (mR 2) s m args meth c G cX12_sign RX12 1 false 233 54500 233 54500) (hr : meth.sig.returnType = (some .int)) (hk : meth.locks = false) {b : Bool} {S' : mT} {r : Int32} {s0 : Int32} {S : mT} (hf : fX12_sign_106 s0 S = some (r, S')) (ok : Bool) : mW p l e (mR 2) s m args below meth c G 1 233 54500 (mQ below G args s b S' (some (.int r))) (ok, 106, [.retAddr 0], [.int s0], mk b S) := by
  unfold fX12_sign_106 at hf
  cases hf
  exact gret_i C hr hk (kX12_sign _ (List.mem_of_getElem? (i := 48) rfl)).1
theorem bX12_sign_98 (C : mCx p (mR 2) s m args meth c G cX12_sign RX12 1 false 233 54500 233 54500) (hr : meth.sig.returnType = (some .int)) (hk : meth.locks = false) {b : Bool} {S' : mT} {r : Int32} {S : mT} (hf : fX12_sign_98 S = some (r, S')) (ok : Bool) : mW p l e (mR 2) s m args below meth c G 1 233 54500 (mQ below G args s b S' (some (.int r))) (ok, 98, [.ref (187)], [], mk b S) := by
  unfold fX12_sign_98 at hf
  obtain ⟨hok, hf⟩ := grd_ex hf
  refine msegT C kX12_sign 44 3 (g := ((kO 187 12 && true), 106, [.ref (187)], [.int (S.1 187 6)], mk b S)) rfl hok ?_
  exact mfor (L' := [.retAddr 0]) ⟨Or.inl rfl, trivial⟩ (bX12_sign_106 C hr hk hf true)
theorem bX12_sign_0 (C : mCx p (mR 2) s m args meth c G cX12_sign RX12 1 false 233 54500 233 54500) (hr : meth.sig.returnType = (some .int)) (hk : meth.locks = false) {b : Bool} {S' : mT} {r : Int32} {S : mT} (hf : fX12_sign S = some (r, S')) (ok : Bool) : mW p l e (mR 2) s m args below meth c G 1 233 54500 (mQ below G args s b S' (some (.int r))) (ok, 0, [.ref (187)], [], mk b S) := by
  unfold fX12_sign at hf
  refine msegT C kX12_sign 0 2 (g := (true, 4, [.ref (187)], [.long (6385252 : Int64), .ref (187)], mk b S)) rfl rfl ?_
  obtain ⟨x2, S1, hq, hf⟩ := bndC_ex hf
  refine mcall (kd := 0) (vs := [.ref (187), .long (6385252 : Int64)]) (rest := []) (r := (some (.int x2))) (h' := mk b S1) (ok' := true) C lkRX12_229 (qX12_isWord hq) (kX12_sign _ (List.mem_of_getElem? (i := 2) rfl)).1 ⟨_, _, rfl, rfl, Nat.le_of_ble_eq_true rfl, _, _, rfl, rfl, rfl⟩ (Nat.le_of_ble_eq_true rfl) (Nat.le_of_ble_eq_true rfl) (Nat.le_refl _) (Nat.le_refl _) (Nat.le_of_ble_eq_true rfl) ?_
  refine msegT C kX12_sign 3 1 (g := (true, (if x2 = 0 then 13 else 10), [.ref (187)], [], mk b S1)) rfl rfl ?_
  by_cases hc : x2 = 0
  · rw [if_pos hc] at hf ⊢
    refine msegT C kX12_sign 6 2 (g := (true, 17, [.ref (187)], [.long (28530 : Int64), .ref (187)], mk b S1)) rfl rfl ?_
    obtain ⟨x4, S3, hq, hf⟩ := bndC_ex hf
    refine mcall (kd := 0) (vs := [.ref (187), .long (28530 : Int64)]) (rest := []) (r := (some (.int x4))) (h' := mk b S3) (ok' := true) C lkRX12_229 (qX12_isWord hq) (kX12_sign _ (List.mem_of_getElem? (i := 8) rfl)).1 ⟨_, _, rfl, rfl, Nat.le_of_ble_eq_true rfl, _, _, rfl, rfl, rfl⟩ (Nat.le_of_ble_eq_true rfl) (Nat.le_of_ble_eq_true rfl) (Nat.le_refl _) (Nat.le_refl _) (Nat.le_of_ble_eq_true rfl) ?_
    refine msegT C kX12_sign 9 1 (g := (true, (if x4 = 0 then 26 else 23), [.ref (187)], [], mk b S3)) rfl rfl ?_
    by_cases hc : x4 = 0
    · rw [if_pos hc] at hf ⊢
      obtain ⟨hok, hf⟩ := grd_ex hf
      refine msegT C kX12_sign 12 4 (g := ((kO 187 12 && true), (if (S3.1 187 6) = (60 : Int32) then 98 else 35), [.ref (187)], [], mk b S3)) rfl hok ?_
      by_cases hc : (S3.1 187 6) = (60 : Int32)
      · rw [if_pos hc] at hf ⊢
        exact mfor (L' := [.ref (187)]) ⟨Or.inr rfl, trivial⟩ (bX12_sign_98 C hr hk hf true)
      · rw [if_neg hc] at hf ⊢
        obtain ⟨hok, hf⟩ := grd_ex hf
        refine msegT C kX12_sign 16 4 (g := ((kO 187 12 && true), (if (S3.1 187 6) = (62 : Int32) then 98 else 44), [.ref (187)], [], mk b S3)) rfl hok ?_
        by_cases hc : (S3.1 187 6) = (62 : Int32)
        · rw [if_pos hc] at hf ⊢
          exact mfor (L' := [.ref (187)]) ⟨Or.inr rfl, trivial⟩ (bX12_sign_98 C hr hk hf true)
        · rw [if_neg hc] at hf ⊢
          obtain ⟨hok, hf⟩ := grd_ex hf
          refine msegT C kX12_sign 20 4 (g := ((kO 187 12 && true), (if (S3.1 187 6) = (61 : Int32) then 98 else 53), [.ref (187)], [], mk b S3)) rfl hok ?_
          by_cases hc : (S3.1 187 6) = (61 : Int32)
          · rw [if_pos hc] at hf ⊢
            exact mfor (L' := [.ref (187)]) ⟨Or.inr rfl, trivial⟩ (bX12_sign_98 C hr hk hf true)
          · rw [if_neg hc] at hf ⊢
            obtain ⟨hok, hf⟩ := grd_ex hf
            refine msegT C kX12_sign 24 4 (g := ((kO 187 12 && true), (if (S3.1 187 6) = (43 : Int32) then 98 else 62), [.ref (187)], [], mk b S3)) rfl hok ?_
            by_cases hc : (S3.1 187 6) = (43 : Int32)
            · rw [if_pos hc] at hf ⊢
              exact mfor (L' := [.ref (187)]) ⟨Or.inr rfl, trivial⟩ (bX12_sign_98 C hr hk hf true)
            · rw [if_neg hc] at hf ⊢
              obtain ⟨hok, hf⟩ := grd_ex hf
              refine msegT C kX12_sign 28 4 (g := ((kO 187 12 && true), (if (S3.1 187 6) = (45 : Int32) then 98 else 71), [.ref (187)], [], mk b S3)) rfl hok ?_
              by_cases hc : (S3.1 187 6) = (45 : Int32)
              · rw [if_pos hc] at hf ⊢
                exact mfor (L' := [.ref (187)]) ⟨Or.inr rfl, trivial⟩ (bX12_sign_98 C hr hk hf true)
              · rw [if_neg hc] at hf ⊢
                obtain ⟨hok, hf⟩ := grd_ex hf
                refine msegT C kX12_sign 32 4 (g := ((kO 187 12 && true), (if (S3.1 187 6) = (42 : Int32) then 98 else 80), [.ref (187)], [], mk b S3)) rfl hok ?_
                by_cases hc : (S3.1 187 6) = (42 : Int32)
                · rw [if_pos hc] at hf ⊢
                  exact mfor (L' := [.ref (187)]) ⟨Or.inr rfl, trivial⟩ (bX12_sign_98 C hr hk hf true)
                · rw [if_neg hc] at hf ⊢
                  obtain ⟨hok, hf⟩ := grd_ex hf
                  refine msegT C kX12_sign 36 4 (g := ((kO 187 12 && true), (if (S3.1 187 6) = (47 : Int32) then 98 else 89), [.ref (187)], [], mk b S3)) rfl hok ?_
                  by_cases hc : (S3.1 187 6) = (47 : Int32)
                  · rw [if_pos hc] at hf ⊢
                    exact mfor (L' := [.ref (187)]) ⟨Or.inr rfl, trivial⟩ (bX12_sign_98 C hr hk hf true)
                  · rw [if_neg hc] at hf ⊢
                    obtain ⟨hok, hf⟩ := grd_ex hf
                    refine msegT C kX12_sign 40 4 (g := ((kO 187 12 && true), (if (S3.1 187 6) = (37 : Int32) then 98 else 105), [.ref (187)], [], mk b S3)) rfl hok ?_
                    by_cases hc : (S3.1 187 6) = (37 : Int32)
                    · rw [if_pos hc] at hf ⊢
                      exact mfor (L' := [.ref (187)]) ⟨Or.inr rfl, trivial⟩ (bX12_sign_98 C hr hk hf true)
                    · rw [if_neg hc] at hf ⊢
                      refine msegT C kX12_sign 47 1 (g := (true, 106, [.ref (187)], [.int (0 : Int32)], mk b S3)) rfl rfl ?_
                      exact mfor (L' := [.retAddr 0]) ⟨Or.inl rfl, trivial⟩ (bX12_sign_106 C hr hk hf true)
    · rw [if_neg hc] at hf ⊢
      refine msegT C kX12_sign 10 1 (g := (true, 25, [.ref (187)], [.int (124 : Int32)], mk b S3)) rfl rfl ?_
      cases hf
      exact gret_i C hr hk (kX12_sign _ (List.mem_of_getElem? (i := 11) rfl)).1
  · rw [if_neg hc] at hf ⊢
    refine msegT C kX12_sign 4 1 (g := (true, 12, [.ref (187)], [.int (38 : Int32)], mk b S1)) rfl rfl ?_
    cases hf
    exact gret_i C hr hk (kX12_sign _ (List.mem_of_getElem? (i := 5) rfl)).1
theorem qX12_sign {b : Bool} {S S' : mT} {r : Int32} (hf : fX12_sign S = some (r, S')) : mOk l mX12_sign 2 [.ref (187)] b S (some (.int r)) S' :=
  gMet (by decide) (Nat.le_of_ble_eq_true rfl) rfl (Nat.le_of_ble_eq_true rfl) (fun p e s m args below meth c G C hr hk => bX12_sign_0 C hr hk hf true)
theorem bX12_here_28 (C : mCx p (mR 1) s m args meth c G cX12_here RX12 2 false 233 54500 233 54500) (hr : meth.sig.returnType = (some .int)) (hk : meth.locks = false) {b : Bool} {S' : mT} {r : Int32} {s0 : Int32} {S : mT} (hf : fX12_here_28 s0 S = some (r, S')) (ok : Bool) : mW p l e (mR 1) s m args below meth c G 2 233 54500 (mQ below G args s b S' (some (.int r))) (ok, 28, [.retAddr 0, .retAddr 0], [.int s0], mk b S) := by
  unfold fX12_here_28 at hf
  cases hf
  exact gret_i C hr hk (kX12_here _ (List.mem_of_getElem? (i := 16) rfl)).1
theorem bX12_here_0 (C : mCx p (mR 1) s m args meth c G cX12_here RX12 2 false 233 54500 233 54500) (hr : meth.sig.returnType = (some .int)) (hk : meth.locks = false) {b : Bool} {S' : mT} {r : Int32} {v1 : Int32} {S : mT} (hf : fX12_here v1 S = some (r, S')) (ok : Bool) : mW p l e (mR 1) s m args below meth c G 2 233 54500 (mQ below G args s b S' (some (.int r))) (ok, 0, [.ref (187), .int v1], [], mk b S) := by
  unfold fX12_here at hf
  obtain ⟨hok, hf⟩ := grd_ex hf
  refine msegT C kX12_here 0 7 (g := ((kO 187 12 && (kO 187 12 && true)), (if (S.1 187 5) ≤ ((S.1 187 4) + v1) then 27 else 13), [.ref (187), .int v1], [], mk b S)) rfl hok ?_
  by_cases hc : (S.1 187 5) ≤ ((S.1 187 4) + v1)
  · rw [if_pos hc] at hf ⊢
    refine msegT C kX12_here 15 1 (g := (true, 28, [.ref (187), .int v1], [.int (-1 : Int32)], mk b S)) rfl rfl ?_
    exact mfor (L' := [.retAddr 0, .retAddr 0]) ⟨Or.inl rfl, Or.inl rfl, trivial⟩ (bX12_here_28 C hr hk hf true)
  · rw [if_neg hc] at hf ⊢
    obtain ⟨hok, hf⟩ := grd_ex hf
    refine msegT C kX12_here 7 8 (g := ((kI 188 ((S.1 187 4) + v1) && (kO 187 12 && (kO 187 12 && true))), 28, [.ref (187), .int v1], [.int (S.1 188 (mIx ((S.1 187 4) + v1)))], mk b S)) rfl hok ?_
    exact mfor (L' := [.retAddr 0, .retAddr 0]) ⟨Or.inl rfl, Or.inl rfl, trivial⟩ (bX12_here_28 C hr hk hf true)
theorem qX12_here {b : Bool} {v1 : Int32} {S S' : mT} {r : Int32} (hf : fX12_here v1 S = some (r, S')) : mOk l mX12_here 1 [.ref (187), .int v1] b S (some (.int r)) S' :=
  gMet (by decide) (Nat.le_of_ble_eq_true rfl) rfl (Nat.le_of_ble_eq_true rfl) (fun p e s m args below meth c G C hr hk => bX12_here_0 C hr hk hf true)
theorem bX12_isDigit_17 (C : mCx p (mR 1) s m args meth c G cX12_isDigit RX12 1 false 233 54500 233 54500) (hr : meth.sig.returnType = (some .boolean)) (hk : meth.locks = false) {b : Bool} {S' : mT} {r : Int32} {s0 : Int32} {S : mT} (hf : fX12_isDigit_17 s0 S = some (r, S')) (ok : Bool) : mW p l e (mR 1) s m args below meth c G 1 233 54500 (mQ below G args s b S' (some (.int r))) (ok, 17, [.retAddr 0], [.int s0], mk b S) := by
  unfold fX12_isDigit_17 at hf
  obtain ⟨hz, hf⟩ := grd_ex hf
  cases hf
  exact gret_z C hr hk (mFit_nar hz) (kX12_isDigit _ (List.mem_of_getElem? (i := 9) rfl)).1
theorem bX12_isDigit_16 (C : mCx p (mR 1) s m args meth c G cX12_isDigit RX12 1 false 233 54500 233 54500) (hr : meth.sig.returnType = (some .boolean)) (hk : meth.locks = false) {b : Bool} {S' : mT} {r : Int32} {S : mT} (hf : fX12_isDigit_16 S = some (r, S')) (ok : Bool) : mW p l e (mR 1) s m args below meth c G 1 233 54500 (mQ below G args s b S' (some (.int r))) (ok, 16, [.retAddr 0], [], mk b S) := by
  unfold fX12_isDigit_16 at hf
  refine msegT C kX12_isDigit 8 1 (g := (true, 17, [.retAddr 0], [.int (0 : Int32)], mk b S)) rfl rfl ?_
  exact mfor (L' := [.retAddr 0]) ⟨Or.inl rfl, trivial⟩ (bX12_isDigit_17 C hr hk hf true)
theorem bX12_isDigit_0 (C : mCx p (mR 1) s m args meth c G cX12_isDigit RX12 1 false 233 54500 233 54500) (hr : meth.sig.returnType = (some .boolean)) (hk : meth.locks = false) {b : Bool} {S' : mT} {r : Int32} {v0 : Int32} {S : mT} (hf : fX12_isDigit v0 S = some (r, S')) (ok : Bool) : mW p l e (mR 1) s m args below meth c G 1 233 54500 (mQ below G args s b S' (some (.int r))) (ok, 0, [.int v0], [], mk b S) := by
  unfold fX12_isDigit at hf
  refine msegT C kX12_isDigit 0 3 (g := (true, (if v0 < (48 : Int32) then 16 else 6), [.int v0], [], mk b S)) rfl rfl ?_
  by_cases hc : v0 < (48 : Int32)
  · rw [if_pos hc] at hf ⊢
    exact mfor (L' := [.retAddr 0]) ⟨Or.inl rfl, trivial⟩ (bX12_isDigit_16 C hr hk hf true)
  · rw [if_neg hc] at hf ⊢
    refine msegT C kX12_isDigit 3 3 (g := (true, (if (57 : Int32) < v0 then 16 else 12), [.int v0], [], mk b S)) rfl rfl ?_
    by_cases hc : (57 : Int32) < v0
    · rw [if_pos hc] at hf ⊢
      exact mfor (L' := [.retAddr 0]) ⟨Or.inl rfl, trivial⟩ (bX12_isDigit_16 C hr hk hf true)
    · rw [if_neg hc] at hf ⊢
      refine msegT C kX12_isDigit 6 2 (g := (true, 17, [.int v0], [.int (1 : Int32)], mk b S)) rfl rfl ?_
      exact mfor (L' := [.retAddr 0]) ⟨Or.inl rfl, trivial⟩ (bX12_isDigit_17 C hr hk hf true)
theorem qX12_isDigit {b : Bool} {v0 : Int32} {S S' : mT} {r : Int32} (hf : fX12_isDigit v0 S = some (r, S')) : mOk l mX12_isDigit 1 [.int v0] b S (some (.int r)) S' :=
  gMet (by decide) (Nat.le_of_ble_eq_true rfl) rfl (Nat.le_of_ble_eq_true rfl) (fun p e s m args below meth c G C hr hk => bX12_isDigit_0 C hr hk hf true)
theorem bX12_isLetter_17 (C : mCx p (mR 1) s m args meth c G cX12_isLetter RX12 1 false 233 54500 233 54500) (hr : meth.sig.returnType = (some .boolean)) (hk : meth.locks = false) {b : Bool} {S' : mT} {r : Int32} {s0 : Int32} {S : mT} (hf : fX12_isLetter_17 s0 S = some (r, S')) (ok : Bool) : mW p l e (mR 1) s m args below meth c G 1 233 54500 (mQ below G args s b S' (some (.int r))) (ok, 17, [.retAddr 0], [.int s0], mk b S) := by
  unfold fX12_isLetter_17 at hf
  obtain ⟨hz, hf⟩ := grd_ex hf
  cases hf
  exact gret_z C hr hk (mFit_nar hz) (kX12_isLetter _ (List.mem_of_getElem? (i := 9) rfl)).1
theorem bX12_isLetter_16 (C : mCx p (mR 1) s m args meth c G cX12_isLetter RX12 1 false 233 54500 233 54500) (hr : meth.sig.returnType = (some .boolean)) (hk : meth.locks = false) {b : Bool} {S' : mT} {r : Int32} {S : mT} (hf : fX12_isLetter_16 S = some (r, S')) (ok : Bool) : mW p l e (mR 1) s m args below meth c G 1 233 54500 (mQ below G args s b S' (some (.int r))) (ok, 16, [.retAddr 0], [], mk b S) := by
  unfold fX12_isLetter_16 at hf
  refine msegT C kX12_isLetter 8 1 (g := (true, 17, [.retAddr 0], [.int (0 : Int32)], mk b S)) rfl rfl ?_
  exact mfor (L' := [.retAddr 0]) ⟨Or.inl rfl, trivial⟩ (bX12_isLetter_17 C hr hk hf true)
theorem bX12_isLetter_0 (C : mCx p (mR 1) s m args meth c G cX12_isLetter RX12 1 false 233 54500 233 54500) (hr : meth.sig.returnType = (some .boolean)) (hk : meth.locks = false) {b : Bool} {S' : mT} {r : Int32} {v0 : Int32} {S : mT} (hf : fX12_isLetter v0 S = some (r, S')) (ok : Bool) : mW p l e (mR 1) s m args below meth c G 1 233 54500 (mQ below G args s b S' (some (.int r))) (ok, 0, [.int v0], [], mk b S) := by
  unfold fX12_isLetter at hf
  refine msegT C kX12_isLetter 0 3 (g := (true, (if v0 < (97 : Int32) then 16 else 6), [.int v0], [], mk b S)) rfl rfl ?_
  by_cases hc : v0 < (97 : Int32)
  · rw [if_pos hc] at hf ⊢
    exact mfor (L' := [.retAddr 0]) ⟨Or.inl rfl, trivial⟩ (bX12_isLetter_16 C hr hk hf true)
  · rw [if_neg hc] at hf ⊢
    refine msegT C kX12_isLetter 3 3 (g := (true, (if (122 : Int32) < v0 then 16 else 12), [.int v0], [], mk b S)) rfl rfl ?_
    by_cases hc : (122 : Int32) < v0
    · rw [if_pos hc] at hf ⊢
      exact mfor (L' := [.retAddr 0]) ⟨Or.inl rfl, trivial⟩ (bX12_isLetter_16 C hr hk hf true)
    · rw [if_neg hc] at hf ⊢
      refine msegT C kX12_isLetter 6 2 (g := (true, 17, [.int v0], [.int (1 : Int32)], mk b S)) rfl rfl ?_
      exact mfor (L' := [.retAddr 0]) ⟨Or.inl rfl, trivial⟩ (bX12_isLetter_17 C hr hk hf true)
theorem qX12_isLetter {b : Bool} {v0 : Int32} {S S' : mT} {r : Int32} (hf : fX12_isLetter v0 S = some (r, S')) : mOk l mX12_isLetter 1 [.int v0] b S (some (.int r)) S' :=
  gMet (by decide) (Nat.le_of_ble_eq_true rfl) rfl (Nat.le_of_ble_eq_true rfl) (fun p e s m args below meth c G C hr hk => bX12_isLetter_0 C hr hk hf true)
theorem bX12_isSign_71 (C : mCx p (mR 1) s m args meth c G cX12_isSign RX12 1 false 233 54500 233 54500) (hr : meth.sig.returnType = (some .boolean)) (hk : meth.locks = false) {b : Bool} {S' : mT} {r : Int32} {s0 : Int32} {S : mT} (hf : fX12_isSign_71 s0 S = some (r, S')) (ok : Bool) : mW p l e (mR 1) s m args below meth c G 1 233 54500 (mQ below G args s b S' (some (.int r))) (ok, 71, [.retAddr 0], [.int s0], mk b S) := by
  unfold fX12_isSign_71 at hf
  obtain ⟨hz, hf⟩ := grd_ex hf
  cases hf
  exact gret_z C hr hk (mFit_nar hz) (kX12_isSign _ (List.mem_of_getElem? (i := 36) rfl)).1
theorem bX12_isSign_66 (C : mCx p (mR 1) s m args meth c G cX12_isSign RX12 1 false 233 54500 233 54500) (hr : meth.sig.returnType = (some .boolean)) (hk : meth.locks = false) {b : Bool} {S' : mT} {r : Int32} {S : mT} (hf : fX12_isSign_66 S = some (r, S')) (ok : Bool) : mW p l e (mR 1) s m args below meth c G 1 233 54500 (mQ below G args s b S' (some (.int r))) (ok, 66, [.retAddr 0], [], mk b S) := by
  unfold fX12_isSign_66 at hf
  refine msegT C kX12_isSign 33 2 (g := (true, 71, [.retAddr 0], [.int (1 : Int32)], mk b S)) rfl rfl ?_
  exact mfor (L' := [.retAddr 0]) ⟨Or.inl rfl, trivial⟩ (bX12_isSign_71 C hr hk hf true)
theorem bX12_isSign_0 (C : mCx p (mR 1) s m args meth c G cX12_isSign RX12 1 false 233 54500 233 54500) (hr : meth.sig.returnType = (some .boolean)) (hk : meth.locks = false) {b : Bool} {S' : mT} {r : Int32} {v0 : Int32} {S : mT} (hf : fX12_isSign v0 S = some (r, S')) (ok : Bool) : mW p l e (mR 1) s m args below meth c G 1 233 54500 (mQ below G args s b S' (some (.int r))) (ok, 0, [.int v0], [], mk b S) := by
  unfold fX12_isSign at hf
  refine msegT C kX12_isSign 0 3 (g := (true, (if v0 = (59 : Int32) then 66 else 6), [.int v0], [], mk b S)) rfl rfl ?_
  by_cases hc : v0 = (59 : Int32)
  · rw [if_pos hc] at hf ⊢
    exact mfor (L' := [.retAddr 0]) ⟨Or.inl rfl, trivial⟩ (bX12_isSign_66 C hr hk hf true)
  · rw [if_neg hc] at hf ⊢
    refine msegT C kX12_isSign 3 3 (g := (true, (if v0 = (40 : Int32) then 66 else 12), [.int v0], [], mk b S)) rfl rfl ?_
    by_cases hc : v0 = (40 : Int32)
    · rw [if_pos hc] at hf ⊢
      exact mfor (L' := [.retAddr 0]) ⟨Or.inl rfl, trivial⟩ (bX12_isSign_66 C hr hk hf true)
    · rw [if_neg hc] at hf ⊢
      refine msegT C kX12_isSign 6 3 (g := (true, (if v0 = (41 : Int32) then 66 else 18), [.int v0], [], mk b S)) rfl rfl ?_
      by_cases hc : v0 = (41 : Int32)
      · rw [if_pos hc] at hf ⊢
        exact mfor (L' := [.retAddr 0]) ⟨Or.inl rfl, trivial⟩ (bX12_isSign_66 C hr hk hf true)
      · rw [if_neg hc] at hf ⊢
        refine msegT C kX12_isSign 9 3 (g := (true, (if v0 = (60 : Int32) then 66 else 24), [.int v0], [], mk b S)) rfl rfl ?_
        by_cases hc : v0 = (60 : Int32)
        · rw [if_pos hc] at hf ⊢
          exact mfor (L' := [.retAddr 0]) ⟨Or.inl rfl, trivial⟩ (bX12_isSign_66 C hr hk hf true)
        · rw [if_neg hc] at hf ⊢
          refine msegT C kX12_isSign 12 3 (g := (true, (if v0 = (62 : Int32) then 66 else 30), [.int v0], [], mk b S)) rfl rfl ?_
          by_cases hc : v0 = (62 : Int32)
          · rw [if_pos hc] at hf ⊢
            exact mfor (L' := [.retAddr 0]) ⟨Or.inl rfl, trivial⟩ (bX12_isSign_66 C hr hk hf true)
          · rw [if_neg hc] at hf ⊢
            refine msegT C kX12_isSign 15 3 (g := (true, (if v0 = (61 : Int32) then 66 else 36), [.int v0], [], mk b S)) rfl rfl ?_
            by_cases hc : v0 = (61 : Int32)
            · rw [if_pos hc] at hf ⊢
              exact mfor (L' := [.retAddr 0]) ⟨Or.inl rfl, trivial⟩ (bX12_isSign_66 C hr hk hf true)
            · rw [if_neg hc] at hf ⊢
              refine msegT C kX12_isSign 18 3 (g := (true, (if v0 = (43 : Int32) then 66 else 42), [.int v0], [], mk b S)) rfl rfl ?_
              by_cases hc : v0 = (43 : Int32)
              · rw [if_pos hc] at hf ⊢
                exact mfor (L' := [.retAddr 0]) ⟨Or.inl rfl, trivial⟩ (bX12_isSign_66 C hr hk hf true)
              · rw [if_neg hc] at hf ⊢
                refine msegT C kX12_isSign 21 3 (g := (true, (if v0 = (45 : Int32) then 66 else 48), [.int v0], [], mk b S)) rfl rfl ?_
                by_cases hc : v0 = (45 : Int32)
                · rw [if_pos hc] at hf ⊢
                  exact mfor (L' := [.retAddr 0]) ⟨Or.inl rfl, trivial⟩ (bX12_isSign_66 C hr hk hf true)
                · rw [if_neg hc] at hf ⊢
                  refine msegT C kX12_isSign 24 3 (g := (true, (if v0 = (42 : Int32) then 66 else 54), [.int v0], [], mk b S)) rfl rfl ?_
                  by_cases hc : v0 = (42 : Int32)
                  · rw [if_pos hc] at hf ⊢
                    exact mfor (L' := [.retAddr 0]) ⟨Or.inl rfl, trivial⟩ (bX12_isSign_66 C hr hk hf true)
                  · rw [if_neg hc] at hf ⊢
                    refine msegT C kX12_isSign 27 3 (g := (true, (if v0 = (47 : Int32) then 66 else 60), [.int v0], [], mk b S)) rfl rfl ?_
                    by_cases hc : v0 = (47 : Int32)
                    · rw [if_pos hc] at hf ⊢
                      exact mfor (L' := [.retAddr 0]) ⟨Or.inl rfl, trivial⟩ (bX12_isSign_66 C hr hk hf true)
                    · rw [if_neg hc] at hf ⊢
                      refine msegT C kX12_isSign 30 3 (g := (true, (if v0 = (37 : Int32) then 66 else 70), [.int v0], [], mk b S)) rfl rfl ?_
                      by_cases hc : v0 = (37 : Int32)
                      · rw [if_pos hc] at hf ⊢
                        exact mfor (L' := [.retAddr 0]) ⟨Or.inl rfl, trivial⟩ (bX12_isSign_66 C hr hk hf true)
                      · rw [if_neg hc] at hf ⊢
                        refine msegT C kX12_isSign 35 1 (g := (true, 71, [.int v0], [.int (0 : Int32)], mk b S)) rfl rfl ?_
                        exact mfor (L' := [.retAddr 0]) ⟨Or.inl rfl, trivial⟩ (bX12_isSign_71 C hr hk hf true)
theorem qX12_isSign {b : Bool} {v0 : Int32} {S S' : mT} {r : Int32} (hf : fX12_isSign v0 S = some (r, S')) : mOk l mX12_isSign 1 [.int v0] b S (some (.int r)) S' :=
  gMet (by decide) (Nat.le_of_ble_eq_true rfl) rfl (Nat.le_of_ble_eq_true rfl) (fun p e s m args below meth c G C hr hk => bX12_isSign_0 C hr hk hf true)
theorem bX12_token_20 (C : mCx p (mR 2) s m args meth c G cX12_token RX12 3 false 233 54500 233 54500) (hr : meth.sig.returnType = none) (hk : meth.locks = false) {b : Bool} {S' : mT} {rc0 : mT → Option (mT)} (Hrc0 : ∀ (S : mT), rc0 S = some S' → ∀ ok : Bool, mW p l e (mR 2) s m args below meth c G 3 233 54500 (mQ below G args s b S' none) (ok, 0, [.ref (187), .retAddr 0, .retAddr 0], [], mk b S)) {S : mT} (hf : fX12_token_20 rc0 S = some S') (ok : Bool) : mW p l e (mR 2) s m args below meth c G 3 233 54500 (mQ below G args s b S' none) (ok, 20, [.ref (187), .retAddr 0, .retAddr 0], [], mk b S) := by
  unfold fX12_token_20 at hf
  obtain ⟨hok, hf⟩ := grd_ex hf
  refine msegT C kX12_token 10 6 (g := ((kO 187 12 && (kO 187 12 && true)), 30, [.ref (187), .retAddr 0, .retAddr 0], [], mk b (sI S 187 4 ((S.1 187 4) + (1 : Int32))))) rfl hok ?_
  obtain ⟨S17, eS17, hf⟩ := bnd_ex hf
  rw [← eS17]
  refine msegT C kX12_token 16 1 (g := (true, 0, [.ref (187), .retAddr 0, .retAddr 0], [], mk b S17)) rfl rfl ?_
  exact mfor (L' := [.ref (187), .retAddr 0, .retAddr 0]) ⟨Or.inr rfl, Or.inl rfl, Or.inl rfl, trivial⟩ (Hrc0 _ hf true)
theorem bX12_token_113 (C : mCx p (mR 2) s m args meth c G cX12_token RX12 3 false 233 54500 233 54500) (hr : meth.sig.returnType = none) (hk : meth.locks = false) {b : Bool} {S' : mT} {rc78 : Int32 → mT → Option (mT)} (Hrc78 : ∀ (v2 : Int32) (S : mT), rc78 v2 S = some S' → ∀ ok : Bool, mW p l e (mR 2) s m args below meth c G 3 233 54500 (mQ below G args s b S' none) (ok, 78, [.ref (187), .retAddr 0, .int v2], [], mk b S)) {v2 : Int32} {S : mT} (hf : fX12_token_113 rc78 v2 S = some S') (ok : Bool) : mW p l e (mR 2) s m args below meth c G 3 233 54500 (mQ below G args s b S' none) (ok, 113, [.ref (187), .retAddr 0, .int v2], [], mk b S) := by
  unfold fX12_token_113 at hf
  refine msegT C kX12_token 61 1 (g := (true, 116, [.ref (187), .retAddr 0, .int (v2 + (1 : Int32))], [], mk b S)) rfl rfl ?_
  obtain ⟨x41, ex41, hf⟩ := bnd_ex hf
  rw [← ex41]
  refine msegT C kX12_token 62 1 (g := (true, 78, [.ref (187), .retAddr 0, .int x41], [], mk b S)) rfl rfl ?_
  exact mfor (L' := [.ref (187), .retAddr 0, .int x41]) ⟨Or.inr rfl, Or.inl rfl, Or.inr rfl, trivial⟩ (Hrc78 _ _ hf true)
theorem bX12_token_250 (C : mCx p (mR 2) s m args meth c G cX12_token RX12 3 false 233 54500 233 54500) (hr : meth.sig.returnType = none) (hk : meth.locks = false) {b : Bool} {S' : mT} {S : mT} (hf : fX12_token_250 S = some S') (ok : Bool) : mW p l e (mR 2) s m args below meth c G 3 233 54500 (mQ below G args s b S' none) (ok, 250, [.retAddr 0, .retAddr 0, .retAddr 0], [], mk b S) := by
  unfold fX12_token_250 at hf
  cases hf
  exact gret_v C hr hk (kX12_token _ (List.mem_of_getElem? (i := 131) rfl)).1
theorem bX12_token_232 (C : mCx p (mR 2) s m args meth c G cX12_token RX12 3 false 233 54500 233 54500) (hr : meth.sig.returnType = none) (hk : meth.locks = false) {b : Bool} {S' : mT} {v2 : Int32} {S : mT} (hf : fX12_token_232 v2 S = some S') (ok : Bool) : mW p l e (mR 2) s m args below meth c G 3 233 54500 (mQ below G args s b S' none) (ok, 232, [.ref (187), .retAddr 0, .int v2], [], mk b S) := by
  unfold fX12_token_232 at hf
  obtain ⟨hok, hf⟩ := grd_ex hf
  refine msegT C kX12_token 121 4 (g := ((kO 187 12 && true), (if (S.1 187 6) = (3 : Int32) then 250 else 240), [.ref (187), .retAddr 0, .int v2], [], mk b S)) rfl hok ?_
  by_cases hc : (S.1 187 6) = (3 : Int32)
  · rw [if_pos hc] at hf ⊢
    exact mfor (L' := [.retAddr 0, .retAddr 0, .retAddr 0]) ⟨Or.inl rfl, Or.inl rfl, Or.inl rfl, trivial⟩ (bX12_token_250 C hr hk hf true)
  · rw [if_neg hc] at hf ⊢
    obtain ⟨hok, hf⟩ := grd_ex hf
    refine msegT C kX12_token 125 6 (g := ((kO 187 12 && (kO 187 12 && true)), 250, [.ref (187), .retAddr 0, .int v2], [], mk b (sI S 187 4 ((S.1 187 4) + v2)))) rfl hok ?_
    obtain ⟨S37, eS37, hf⟩ := bnd_ex hf
    rw [← eS37]
    exact mfor (L' := [.retAddr 0, .retAddr 0, .retAddr 0]) ⟨Or.inl rfl, Or.inl rfl, Or.inl rfl, trivial⟩ (bX12_token_250 C hr hk hf true)
theorem bX12_token_131 (C : mCx p (mR 2) s m args meth c G cX12_token RX12 3 false 233 54500 233 54500) (hr : meth.sig.returnType = none) (hk : meth.locks = false) {b : Bool} {S' : mT} {v2 : Int32} {s0 : Int32} {S : mT} (hf : fX12_token_131 v2 s0 S = some S') (ok : Bool) : mW p l e (mR 2) s m args below meth c G 3 233 54500 (mQ below G args s b S' none) (ok, 131, [.ref (187), .retAddr 0, .int v2], [.int s0, .ref (187)], mk b S) := by
  unfold fX12_token_131 at hf
  obtain ⟨hok, hf⟩ := grd_ex hf
  refine msegT C kX12_token 70 1 (g := ((kO 187 12 && true), 134, [.ref (187), .retAddr 0, .int v2], [], mk b (sI S 187 6 s0))) rfl hok ?_
  obtain ⟨S40, eS40, hf⟩ := bnd_ex hf
  rw [← eS40]
  refine msegT C kX12_token 71 1 (g := (true, 232, [.ref (187), .retAddr 0, .int v2], [], mk b S40)) rfl rfl ?_
  exact mfor (L' := [.ref (187), .retAddr 0, .int v2]) ⟨Or.inr rfl, Or.inl rfl, Or.inr rfl, trivial⟩ (bX12_token_232 C hr hk hf true)
theorem bX12_token_78 (C : mCx p (mR 2) s m args meth c G cX12_token RX12 3 false 233 54500 233 54500) (hr : meth.sig.returnType = none) (hk : meth.locks = false) {b : Bool} {S' : mT} : ∀ (k : Nat) (v2 : Int32) (S : mT), fX12_token_78 k v2 S = some S' → ∀ ok : Bool, mW p l e (mR 2) s m args below meth c G 3 233 54500 (mQ below G args s b S' none) (ok, 78, [.ref (187), .retAddr 0, .int v2], [], mk b S) := by
  intro k
  induction k with
  | zero =>
    intro v2 S hf ok
    cases hf
  | succ k ih =>
    intro v2 S hf ok
    unfold fX12_token_78 at hf
    refine msegT C kX12_token 42 2 (g := (true, 80, [.ref (187), .retAddr 0, .int v2], [.int v2, .ref (187)], mk b S)) rfl rfl ?_
    obtain ⟨x31, S30, hq, hf⟩ := bndC_ex hf
    refine mcall (kd := 0) (vs := [.ref (187), .int v2]) (rest := []) (r := (some (.int x31))) (h' := mk b S30) (ok' := true) C lkRX12_165 (qX12_here hq) (kX12_token _ (List.mem_of_getElem? (i := 44) rfl)).1 ⟨_, _, rfl, rfl, Nat.le_of_ble_eq_true rfl, _, _, rfl, rfl, rfl⟩ (Nat.le_of_ble_eq_true rfl) (Nat.le_of_ble_eq_true rfl) (Nat.le_refl _) (Nat.le_refl _) (Nat.le_of_ble_eq_true rfl) ?_
    obtain ⟨x33, S32, hq, hf⟩ := bndC_ex hf
    refine mcall (kd := 1) (vs := [.int x31]) (rest := []) (r := (some (.int x33))) (h' := mk b S32) (ok' := true) C lkRX12_182 (qX12_isLetter hq) (kX12_token _ (List.mem_of_getElem? (i := 45) rfl)).1 rfl (Nat.le_of_ble_eq_true rfl) (Nat.le_of_ble_eq_true rfl) (Nat.le_refl _) (Nat.le_refl _) (Nat.le_of_ble_eq_true rfl) ?_
    refine msegT C kX12_token 46 1 (g := (true, (if x33 = 0 then 119 else 89), [.ref (187), .retAddr 0, .int v2], [], mk b S32)) rfl rfl ?_
    by_cases hc : x33 = 0
    · rw [if_pos hc] at hf ⊢
      refine msegT C kX12_token 63 4 (g := (true, (if v2 ≤ (8 : Int32) then 130 else 126), [.ref (187), .retAddr 0, .int v2], [.ref (187)], mk b S32)) rfl rfl ?_
      by_cases hc : v2 ≤ (8 : Int32)
      · rw [if_pos hc] at hf ⊢
        refine msegT C kX12_token 69 1 (g := (true, 131, [.ref (187), .retAddr 0, .int v2], [.int (1 : Int32), .ref (187)], mk b S32)) rfl rfl ?_
        exact mfor (L' := [.ref (187), .retAddr 0, .int v2]) ⟨Or.inr rfl, Or.inl rfl, Or.inr rfl, trivial⟩ (bX12_token_131 C hr hk hf true)
      · rw [if_neg hc] at hf ⊢
        refine msegT C kX12_token 67 2 (g := (true, 131, [.ref (187), .retAddr 0, .int v2], [.int (3 : Int32), .ref (187)], mk b S32)) rfl rfl ?_
        exact mfor (L' := [.ref (187), .retAddr 0, .int v2]) ⟨Or.inr rfl, Or.inl rfl, Or.inr rfl, trivial⟩ (bX12_token_131 C hr hk hf true)
    · rw [if_neg hc] at hf ⊢
      refine msegT C kX12_token 47 3 (g := (true, (if (8 : Int32) ≤ v2 then 113 else 95), [.ref (187), .retAddr 0, .int v2], [], mk b S32)) rfl rfl ?_
      by_cases hc : (8 : Int32) ≤ v2
      · rw [if_pos hc] at hf ⊢
        exact mfor (L' := [.ref (187), .retAddr 0, .int v2]) ⟨Or.inr rfl, Or.inl rfl, Or.inr rfl, trivial⟩ (bX12_token_113 C hr hk ih hf true)
      · rw [if_neg hc] at hf ⊢
        obtain ⟨hok, hf⟩ := grd_ex hf
        refine msegT C kX12_token 50 7 (g := ((kO 187 12 && true), 105, [.ref (187), .retAddr 0, .int v2], [.int v2, .ref (187), .long ((S32.2 187 9) <<< ((8 : Int32).toInt64 &&& 63)), .ref (187)], mk b S32)) rfl hok ?_
        obtain ⟨x35, S34, hq, hf⟩ := bndC_ex hf
        refine mcall (kd := 0) (vs := [.ref (187), .int v2]) (rest := [.long ((S32.2 187 9) <<< ((8 : Int32).toInt64 &&& 63)), .ref (187)]) (r := (some (.int x35))) (h' := mk b S34) (ok' := true) C lkRX12_165 (qX12_here hq) (kX12_token _ (List.mem_of_getElem? (i := 57) rfl)).1 ⟨_, _, rfl, rfl, Nat.le_of_ble_eq_true rfl, _, _, rfl, rfl, rfl⟩ (Nat.le_of_ble_eq_true rfl) (Nat.le_of_ble_eq_true rfl) (Nat.le_refl _) (Nat.le_refl _) (Nat.le_of_ble_eq_true rfl) ?_
        obtain ⟨hok, hf⟩ := grd_ex hf
        refine msegT C kX12_token 58 3 (g := ((kO 187 12 && true), 113, [.ref (187), .retAddr 0, .int v2], [], mk b (sJ S34 187 9 (((S32.2 187 9) <<< ((8 : Int32).toInt64 &&& 63)) ||| (x35.toInt64))))) rfl hok ?_
        obtain ⟨S36, eS36, hf⟩ := bnd_ex hf
        rw [← eS36]
        exact mfor (L' := [.ref (187), .retAddr 0, .int v2]) ⟨Or.inr rfl, Or.inl rfl, Or.inr rfl, trivial⟩ (bX12_token_113 C hr hk ih hf true)
theorem bX12_token_180 (C : mCx p (mR 2) s m args meth c G cX12_token RX12 3 false 233 54500 233 54500) (hr : meth.sig.returnType = none) (hk : meth.locks = false) {b : Bool} {S' : mT} {rc144 : Int32 → mT → Option (mT)} (Hrc144 : ∀ (v2 : Int32) (S : mT), rc144 v2 S = some S' → ∀ ok : Bool, mW p l e (mR 2) s m args below meth c G 3 233 54500 (mQ below G args s b S' none) (ok, 144, [.ref (187), .retAddr 0, .int v2], [], mk b S)) {v2 : Int32} {S : mT} (hf : fX12_token_180 rc144 v2 S = some S') (ok : Bool) : mW p l e (mR 2) s m args below meth c G 3 233 54500 (mQ below G args s b S' none) (ok, 180, [.ref (187), .retAddr 0, .int v2], [], mk b S) := by
  unfold fX12_token_180 at hf
  refine msegT C kX12_token 95 1 (g := (true, 183, [.ref (187), .retAddr 0, .int (v2 + (1 : Int32))], [], mk b S)) rfl rfl ?_
  obtain ⟨x39, ex39, hf⟩ := bnd_ex hf
  rw [← ex39]
  refine msegT C kX12_token 96 1 (g := (true, 144, [.ref (187), .retAddr 0, .int x39], [], mk b S)) rfl rfl ?_
  exact mfor (L' := [.ref (187), .retAddr 0, .int x39]) ⟨Or.inr rfl, Or.inl rfl, Or.inr rfl, trivial⟩ (Hrc144 _ _ hf true)
theorem bX12_token_208 (C : mCx p (mR 2) s m args meth c G cX12_token RX12 3 false 233 54500 233 54500) (hr : meth.sig.returnType = none) (hk : meth.locks = false) {b : Bool} {S' : mT} {v2 : Int32} {s0 : Int32} {S : mT} (hf : fX12_token_208 v2 s0 S = some S') (ok : Bool) : mW p l e (mR 2) s m args below meth c G 3 233 54500 (mQ below G args s b S' none) (ok, 208, [.ref (187), .retAddr 0, .int v2], [.int s0, .ref (187)], mk b S) := by
  unfold fX12_token_208 at hf
  obtain ⟨hok, hf⟩ := grd_ex hf
  refine msegT C kX12_token 109 1 (g := ((kO 187 12 && true), 211, [.ref (187), .retAddr 0, .int v2], [], mk b (sI S 187 6 s0))) rfl hok ?_
  obtain ⟨S38, eS38, hf⟩ := bnd_ex hf
  rw [← eS38]
  refine msegT C kX12_token 110 1 (g := (true, 232, [.ref (187), .retAddr 0, .int v2], [], mk b S38)) rfl rfl ?_
  exact mfor (L' := [.ref (187), .retAddr 0, .int v2]) ⟨Or.inr rfl, Or.inl rfl, Or.inr rfl, trivial⟩ (bX12_token_232 C hr hk hf true)
theorem bX12_token_203 (C : mCx p (mR 2) s m args meth c G cX12_token RX12 3 false 233 54500 233 54500) (hr : meth.sig.returnType = none) (hk : meth.locks = false) {b : Bool} {S' : mT} {v2 : Int32} {S : mT} (hf : fX12_token_203 v2 S = some S') (ok : Bool) : mW p l e (mR 2) s m args below meth c G 3 233 54500 (mQ below G args s b S' none) (ok, 203, [.ref (187), .retAddr 0, .int v2], [.ref (187)], mk b S) := by
  unfold fX12_token_203 at hf
  refine msegT C kX12_token 106 2 (g := (true, 208, [.ref (187), .retAddr 0, .int v2], [.int (3 : Int32), .ref (187)], mk b S)) rfl rfl ?_
  exact mfor (L' := [.ref (187), .retAddr 0, .int v2]) ⟨Or.inr rfl, Or.inl rfl, Or.inr rfl, trivial⟩ (bX12_token_208 C hr hk hf true)
theorem bX12_token_144 (C : mCx p (mR 2) s m args meth c G cX12_token RX12 3 false 233 54500 233 54500) (hr : meth.sig.returnType = none) (hk : meth.locks = false) {b : Bool} {S' : mT} : ∀ (k : Nat) (v2 : Int32) (S : mT), fX12_token_144 k v2 S = some S' → ∀ ok : Bool, mW p l e (mR 2) s m args below meth c G 3 233 54500 (mQ below G args s b S' none) (ok, 144, [.ref (187), .retAddr 0, .int v2], [], mk b S) := by
  intro k
  induction k with
  | zero =>
    intro v2 S hf ok
    cases hf
  | succ k ih =>
    intro v2 S hf ok
    unfold fX12_token_144 at hf
    refine msegT C kX12_token 75 2 (g := (true, 146, [.ref (187), .retAddr 0, .int v2], [.int v2, .ref (187)], mk b S)) rfl rfl ?_
    obtain ⟨x20, S19, hq, hf⟩ := bndC_ex hf
    refine mcall (kd := 0) (vs := [.ref (187), .int v2]) (rest := []) (r := (some (.int x20))) (h' := mk b S19) (ok' := true) C lkRX12_165 (qX12_here hq) (kX12_token _ (List.mem_of_getElem? (i := 77) rfl)).1 ⟨_, _, rfl, rfl, Nat.le_of_ble_eq_true rfl, _, _, rfl, rfl, rfl⟩ (Nat.le_of_ble_eq_true rfl) (Nat.le_of_ble_eq_true rfl) (Nat.le_refl _) (Nat.le_refl _) (Nat.le_of_ble_eq_true rfl) ?_
    obtain ⟨x22, S21, hq, hf⟩ := bndC_ex hf
    refine mcall (kd := 1) (vs := [.int x20]) (rest := []) (r := (some (.int x22))) (h' := mk b S21) (ok' := true) C lkRX12_186 (qX12_isDigit hq) (kX12_token _ (List.mem_of_getElem? (i := 78) rfl)).1 rfl (Nat.le_of_ble_eq_true rfl) (Nat.le_of_ble_eq_true rfl) (Nat.le_refl _) (Nat.le_refl _) (Nat.le_of_ble_eq_true rfl) ?_
    refine msegT C kX12_token 79 1 (g := (true, (if x22 = 0 then 186 else 155), [.ref (187), .retAddr 0, .int v2], [], mk b S21)) rfl rfl ?_
    by_cases hc : x22 = 0
    · rw [if_pos hc] at hf ⊢
      refine msegT C kX12_token 97 4 (g := (true, (if (4 : Int32) < v2 then 203 else 192), [.ref (187), .retAddr 0, .int v2], [.ref (187)], mk b S21)) rfl rfl ?_
      by_cases hc : (4 : Int32) < v2
      · rw [if_pos hc] at hf ⊢
        exact mfor (L' := [.ref (187), .retAddr 0, .int v2]) ⟨Or.inr rfl, Or.inl rfl, Or.inr rfl, trivial⟩ (bX12_token_203 C hr hk hf true)
      · rw [if_neg hc] at hf ⊢
        refine msegT C kX12_token 101 2 (g := (true, 194, [.ref (187), .retAddr 0, .int v2], [.int v2, .ref (187), .ref (187)], mk b S21)) rfl rfl ?_
        obtain ⟨x24, S23, hq, hf⟩ := bndC_ex hf
        refine mcall (kd := 0) (vs := [.ref (187), .int v2]) (rest := [.ref (187)]) (r := (some (.int x24))) (h' := mk b S23) (ok' := true) C lkRX12_165 (qX12_here hq) (kX12_token _ (List.mem_of_getElem? (i := 103) rfl)).1 ⟨_, _, rfl, rfl, Nat.le_of_ble_eq_true rfl, _, _, rfl, rfl, rfl⟩ (Nat.le_of_ble_eq_true rfl) (Nat.le_of_ble_eq_true rfl) (Nat.le_refl _) (Nat.le_refl _) (Nat.le_of_ble_eq_true rfl) ?_
        obtain ⟨x26, S25, hq, hf⟩ := bndC_ex hf
        refine mcall (kd := 1) (vs := [.int x24]) (rest := [.ref (187)]) (r := (some (.int x26))) (h' := mk b S25) (ok' := true) C lkRX12_182 (qX12_isLetter hq) (kX12_token _ (List.mem_of_getElem? (i := 104) rfl)).1 rfl (Nat.le_of_ble_eq_true rfl) (Nat.le_of_ble_eq_true rfl) (Nat.le_refl _) (Nat.le_refl _) (Nat.le_of_ble_eq_true rfl) ?_
        refine msegT C kX12_token 105 1 (g := (true, (if x26 = 0 then 207 else 203), [.ref (187), .retAddr 0, .int v2], [.ref (187)], mk b S25)) rfl rfl ?_
        by_cases hc : x26 = 0
        · rw [if_pos hc] at hf ⊢
          refine msegT C kX12_token 108 1 (g := (true, 208, [.ref (187), .retAddr 0, .int v2], [.int (2 : Int32), .ref (187)], mk b S25)) rfl rfl ?_
          exact mfor (L' := [.ref (187), .retAddr 0, .int v2]) ⟨Or.inr rfl, Or.inl rfl, Or.inr rfl, trivial⟩ (bX12_token_208 C hr hk hf true)
        · rw [if_neg hc] at hf ⊢
          exact mfor (L' := [.ref (187), .retAddr 0, .int v2]) ⟨Or.inr rfl, Or.inl rfl, Or.inr rfl, trivial⟩ (bX12_token_203 C hr hk hf true)
    · rw [if_neg hc] at hf ⊢
      refine msegT C kX12_token 80 3 (g := (true, (if (4 : Int32) ≤ v2 then 180 else 160), [.ref (187), .retAddr 0, .int v2], [], mk b S21)) rfl rfl ?_
      by_cases hc : (4 : Int32) ≤ v2
      · rw [if_pos hc] at hf ⊢
        exact mfor (L' := [.ref (187), .retAddr 0, .int v2]) ⟨Or.inr rfl, Or.inl rfl, Or.inr rfl, trivial⟩ (bX12_token_180 C hr hk ih hf true)
      · rw [if_neg hc] at hf ⊢
        obtain ⟨hok, hf⟩ := grd_ex hf
        refine msegT C kX12_token 83 7 (g := ((kO 187 12 && true), 170, [.ref (187), .retAddr 0, .int v2], [.int v2, .ref (187), .int ((10 : Int32) * (S21.1 187 8)), .ref (187)], mk b S21)) rfl hok ?_
        obtain ⟨x28, S27, hq, hf⟩ := bndC_ex hf
        refine mcall (kd := 0) (vs := [.ref (187), .int v2]) (rest := [.int ((10 : Int32) * (S21.1 187 8)), .ref (187)]) (r := (some (.int x28))) (h' := mk b S27) (ok' := true) C lkRX12_165 (qX12_here hq) (kX12_token _ (List.mem_of_getElem? (i := 90) rfl)).1 ⟨_, _, rfl, rfl, Nat.le_of_ble_eq_true rfl, _, _, rfl, rfl, rfl⟩ (Nat.le_of_ble_eq_true rfl) (Nat.le_of_ble_eq_true rfl) (Nat.le_refl _) (Nat.le_refl _) (Nat.le_of_ble_eq_true rfl) ?_
        obtain ⟨hok, hf⟩ := grd_ex hf
        refine msegT C kX12_token 91 4 (g := ((kO 187 12 && true), 180, [.ref (187), .retAddr 0, .int v2], [], mk b (sI S27 187 8 ((((10 : Int32) * (S21.1 187 8)) + x28) - (48 : Int32))))) rfl hok ?_
        obtain ⟨S29, eS29, hf⟩ := bnd_ex hf
        rw [← eS29]
        exact mfor (L' := [.ref (187), .retAddr 0, .int v2]) ⟨Or.inr rfl, Or.inl rfl, Or.inr rfl, trivial⟩ (bX12_token_180 C hr hk ih hf true)
theorem bX12_token_229 (C : mCx p (mR 2) s m args meth c G cX12_token RX12 3 false 233 54500 233 54500) (hr : meth.sig.returnType = none) (hk : meth.locks = false) {b : Bool} {S' : mT} {v2 : Int32} {s0 : Int32} {S : mT} (hf : fX12_token_229 v2 s0 S = some S') (ok : Bool) : mW p l e (mR 2) s m args below meth c G 3 233 54500 (mQ below G args s b S' none) (ok, 229, [.ref (187), .retAddr 0, .int v2], [.int s0, .ref (187)], mk b S) := by
  unfold fX12_token_229 at hf
  obtain ⟨hok, hf⟩ := grd_ex hf
  refine msegT C kX12_token 120 1 (g := ((kO 187 12 && true), 232, [.ref (187), .retAddr 0, .int v2], [], mk b (sI S 187 6 s0))) rfl hok ?_
  obtain ⟨S18, eS18, hf⟩ := bnd_ex hf
  rw [← eS18]
  exact mfor (L' := [.ref (187), .retAddr 0, .int v2]) ⟨Or.inr rfl, Or.inl rfl, Or.inr rfl, trivial⟩ (bX12_token_232 C hr hk hf true)
theorem bX12_token_0 (C : mCx p (mR 2) s m args meth c G cX12_token RX12 3 false 233 54500 233 54500) (hr : meth.sig.returnType = none) (hk : meth.locks = false) {b : Bool} {S' : mT} : ∀ (k : Nat) (S : mT), fX12_token_0 k S = some S' → ∀ ok : Bool, mW p l e (mR 2) s m args below meth c G 3 233 54500 (mQ below G args s b S' none) (ok, 0, [.ref (187), .retAddr 0, .retAddr 0], [], mk b S) := by
  intro k
  induction k with
  | zero =>
    intro S hf ok
    cases hf
  | succ k ih =>
    intro S hf ok
    unfold fX12_token_0 at hf
    refine msegT C kX12_token 0 2 (g := (true, 2, [.ref (187), .retAddr 0, .retAddr 0], [.int (0 : Int32), .ref (187)], mk b S)) rfl rfl ?_
    obtain ⟨x2, S1, hq, hf⟩ := bndC_ex hf
    refine mcall (kd := 0) (vs := [.ref (187), .int (0 : Int32)]) (rest := []) (r := (some (.int x2))) (h' := mk b S1) (ok' := true) C lkRX12_165 (qX12_here hq) (kX12_token _ (List.mem_of_getElem? (i := 2) rfl)).1 ⟨_, _, rfl, rfl, Nat.le_of_ble_eq_true rfl, _, _, rfl, rfl, rfl⟩ (Nat.le_of_ble_eq_true rfl) (Nat.le_of_ble_eq_true rfl) (Nat.le_refl _) (Nat.le_refl _) (Nat.le_of_ble_eq_true rfl) ?_
    refine msegT C kX12_token 3 2 (g := (true, (if x2 = (32 : Int32) then 20 else 10), [.ref (187), .retAddr 0, .retAddr 0], [], mk b S1)) rfl rfl ?_
    by_cases hc : x2 = (32 : Int32)
    · rw [if_pos hc] at hf ⊢
      exact mfor (L' := [.ref (187), .retAddr 0, .retAddr 0]) ⟨Or.inr rfl, Or.inl rfl, Or.inl rfl, trivial⟩ (bX12_token_20 C hr hk ih hf true)
    · rw [if_neg hc] at hf ⊢
      refine msegT C kX12_token 5 2 (g := (true, 12, [.ref (187), .retAddr 0, .retAddr 0], [.int (0 : Int32), .ref (187)], mk b S1)) rfl rfl ?_
      obtain ⟨x4, S3, hq, hf⟩ := bndC_ex hf
      refine mcall (kd := 0) (vs := [.ref (187), .int (0 : Int32)]) (rest := []) (r := (some (.int x4))) (h' := mk b S3) (ok' := true) C lkRX12_165 (qX12_here hq) (kX12_token _ (List.mem_of_getElem? (i := 7) rfl)).1 ⟨_, _, rfl, rfl, Nat.le_of_ble_eq_true rfl, _, _, rfl, rfl, rfl⟩ (Nat.le_of_ble_eq_true rfl) (Nat.le_of_ble_eq_true rfl) (Nat.le_refl _) (Nat.le_refl _) (Nat.le_of_ble_eq_true rfl) ?_
      refine msegT C kX12_token 8 2 (g := (true, (if x4 = (10 : Int32) then 20 else 33), [.ref (187), .retAddr 0, .retAddr 0], [], mk b S3)) rfl rfl ?_
      by_cases hc : x4 = (10 : Int32)
      · rw [if_pos hc] at hf ⊢
        exact mfor (L' := [.ref (187), .retAddr 0, .retAddr 0]) ⟨Or.inr rfl, Or.inl rfl, Or.inl rfl, trivial⟩ (bX12_token_20 C hr hk ih hf true)
      · rw [if_neg hc] at hf ⊢
        obtain ⟨hok, hf⟩ := grd_ex hf
        refine msegT C kX12_token 17 4 (g := ((kO 187 12 && (kO 187 12 && true)), 41, [.ref (187), .retAddr 0, .retAddr 0], [], mk b (sI S3 187 7 (S3.1 187 4)))) rfl hok ?_
        obtain ⟨S5, eS5, hf⟩ := bnd_ex hf
        rw [← eS5]
        refine msegT C kX12_token 21 2 (g := (true, 43, [.ref (187), .retAddr 0, .retAddr 0], [.int (0 : Int32), .ref (187)], mk b S5)) rfl rfl ?_
        obtain ⟨x7, S6, hq, hf⟩ := bndC_ex hf
        refine mcall (kd := 0) (vs := [.ref (187), .int (0 : Int32)]) (rest := []) (r := (some (.int x7))) (h' := mk b S6) (ok' := true) C lkRX12_165 (qX12_here hq) (kX12_token _ (List.mem_of_getElem? (i := 23) rfl)).1 ⟨_, _, rfl, rfl, Nat.le_of_ble_eq_true rfl, _, _, rfl, rfl, rfl⟩ (Nat.le_of_ble_eq_true rfl) (Nat.le_of_ble_eq_true rfl) (Nat.le_refl _) (Nat.le_refl _) (Nat.le_of_ble_eq_true rfl) ?_
        obtain ⟨hok, hf⟩ := grd_ex hf
        refine msegT C kX12_token 24 6 (g := ((kO 187 12 && true), 54, [.ref (187), .int x7, .int (0 : Int32)], [], mk b (sJ S6 187 9 (0 : Int64)))) rfl hok ?_
        obtain ⟨S8, eS8, hf⟩ := bnd_ex hf
        rw [← eS8]
        obtain ⟨hok, hf⟩ := grd_ex hf
        refine msegT C kX12_token 30 3 (g := ((kO 187 12 && true), 59, [.ref (187), .int x7, .int (0 : Int32)], [], mk b (sI S8 187 8 (0 : Int32)))) rfl hok ?_
        obtain ⟨S9, eS9, hf⟩ := bnd_ex hf
        rw [← eS9]
        refine msegT C kX12_token 33 2 (g := (true, (if 0 ≤ x7 then 71 else 63), [.ref (187), .int x7, .int (0 : Int32)], [], mk b S9)) rfl rfl ?_
        by_cases hc : 0 ≤ x7
        · rw [if_pos hc] at hf ⊢
          refine msegT C kX12_token 39 1 (g := (true, 72, [.ref (187), .int x7, .int (0 : Int32)], [.int x7], mk b S9)) rfl rfl ?_
          obtain ⟨x11, S10, hq, hf⟩ := bndC_ex hf
          refine mcall (kd := 1) (vs := [.int x7]) (rest := []) (r := (some (.int x11))) (h' := mk b S10) (ok' := true) C lkRX12_182 (qX12_isLetter hq) (kX12_token _ (List.mem_of_getElem? (i := 40) rfl)).1 rfl (Nat.le_of_ble_eq_true rfl) (Nat.le_of_ble_eq_true rfl) (Nat.le_refl _) (Nat.le_refl _) (Nat.le_of_ble_eq_true rfl) ?_
          refine msegT C kX12_token 41 1 (g := (true, (if x11 = 0 then 137 else 78), [.ref (187), .int x7, .int (0 : Int32)], [], mk b S10)) rfl rfl ?_
          by_cases hc : x11 = 0
          · rw [if_pos hc] at hf ⊢
            refine msegT C kX12_token 72 1 (g := (true, 138, [.ref (187), .int x7, .int (0 : Int32)], [.int x7], mk b S10)) rfl rfl ?_
            obtain ⟨x13, S12, hq, hf⟩ := bndC_ex hf
            refine mcall (kd := 1) (vs := [.int x7]) (rest := []) (r := (some (.int x13))) (h' := mk b S12) (ok' := true) C lkRX12_186 (qX12_isDigit hq) (kX12_token _ (List.mem_of_getElem? (i := 73) rfl)).1 rfl (Nat.le_of_ble_eq_true rfl) (Nat.le_of_ble_eq_true rfl) (Nat.le_refl _) (Nat.le_refl _) (Nat.le_of_ble_eq_true rfl) ?_
            refine msegT C kX12_token 74 1 (g := (true, (if x13 = 0 then 214 else 144), [.ref (187), .int x7, .int (0 : Int32)], [], mk b S12)) rfl rfl ?_
            by_cases hc : x13 = 0
            · rw [if_pos hc] at hf ⊢
              refine msegT C kX12_token 111 4 (g := (true, 218, [.ref (187), .int x7, .int (1 : Int32)], [.int x7, .ref (187)], mk b S12)) rfl rfl ?_
              obtain ⟨x15, S14, hq, hf⟩ := bndC_ex hf
              refine mcall (kd := 1) (vs := [.int x7]) (rest := [.ref (187)]) (r := (some (.int x15))) (h' := mk b S14) (ok' := true) C lkRX12_189 (qX12_isSign hq) (kX12_token _ (List.mem_of_getElem? (i := 115) rfl)).1 rfl (Nat.le_of_ble_eq_true rfl) (Nat.le_of_ble_eq_true rfl) (Nat.le_refl _) (Nat.le_refl _) (Nat.le_of_ble_eq_true rfl) ?_
              refine msegT C kX12_token 116 1 (g := (true, (if x15 = 0 then 228 else 224), [.ref (187), .int x7, .int (1 : Int32)], [.ref (187)], mk b S14)) rfl rfl ?_
              by_cases hc : x15 = 0
              · rw [if_pos hc] at hf ⊢
                refine msegT C kX12_token 119 1 (g := (true, 229, [.ref (187), .int x7, .int (1 : Int32)], [.int (3 : Int32), .ref (187)], mk b S14)) rfl rfl ?_
                exact mfor (L' := [.ref (187), .retAddr 0, .int (1 : Int32)]) ⟨Or.inr rfl, Or.inl rfl, Or.inr rfl, trivial⟩ (bX12_token_229 C hr hk hf true)
              · rw [if_neg hc] at hf ⊢
                refine msegT C kX12_token 117 2 (g := (true, 229, [.ref (187), .int x7, .int (1 : Int32)], [.int x7, .ref (187)], mk b S14)) rfl rfl ?_
                exact mfor (L' := [.ref (187), .retAddr 0, .int (1 : Int32)]) ⟨Or.inr rfl, Or.inl rfl, Or.inr rfl, trivial⟩ (bX12_token_229 C hr hk hf true)
            · rw [if_neg hc] at hf ⊢
              exact mfor (L' := [.ref (187), .retAddr 0, .int (0 : Int32)]) ⟨Or.inr rfl, Or.inl rfl, Or.inr rfl, trivial⟩ (bX12_token_144 C hr hk _ _ _ hf true)
          · rw [if_neg hc] at hf ⊢
            exact mfor (L' := [.ref (187), .retAddr 0, .int (0 : Int32)]) ⟨Or.inr rfl, Or.inl rfl, Or.inr rfl, trivial⟩ (bX12_token_78 C hr hk _ _ _ hf true)
        · rw [if_neg hc] at hf ⊢
          obtain ⟨hok, hf⟩ := grd_ex hf
          refine msegT C kX12_token 35 3 (g := ((kO 187 12 && true), 68, [.ref (187), .int x7, .int (0 : Int32)], [], mk b (sI S9 187 6 (0 : Int32)))) rfl hok ?_
          obtain ⟨S16, eS16, hf⟩ := bnd_ex hf
          rw [← eS16]
          refine msegT C kX12_token 38 1 (g := (true, 232, [.ref (187), .int x7, .int (0 : Int32)], [], mk b S16)) rfl rfl ?_
          exact mfor (L' := [.ref (187), .retAddr 0, .int (0 : Int32)]) ⟨Or.inr rfl, Or.inl rfl, Or.inr rfl, trivial⟩ (bX12_token_232 C hr hk hf true)
theorem qX12_token {b : Bool} {S S' : mT} (hf : fX12_token S = some S') : mOk l mX12_token 2 [.ref (187)] b S none S' :=
  gMet (by decide) (Nat.le_of_ble_eq_true rfl) rfl (Nat.le_of_ble_eq_true rfl) (fun p e s m args below meth c G C hr hk => bX12_token_0 C hr hk _ _ hf true)
theorem bX12_isFull_23 (C : mCx p (mR 1) s m args meth c G cX12_isFull RX12 1 false 233 54500 233 54500) (hr : meth.sig.returnType = (some .boolean)) (hk : meth.locks = false) {b : Bool} {S' : mT} {r : Int32} {s0 : Int32} {S : mT} (hf : fX12_isFull_23 s0 S = some (r, S')) (ok : Bool) : mW p l e (mR 1) s m args below meth c G 1 233 54500 (mQ below G args s b S' (some (.int r))) (ok, 23, [.retAddr 0], [.int s0], mk b S) := by
  unfold fX12_isFull_23 at hf
  obtain ⟨hz, hf⟩ := grd_ex hf
  cases hf
  exact gret_z C hr hk (mFit_nar hz) (kX12_isFull _ (List.mem_of_getElem? (i := 11) rfl)).1
theorem bX12_isFull_18 (C : mCx p (mR 1) s m args meth c G cX12_isFull RX12 1 false 233 54500 233 54500) (hr : meth.sig.returnType = (some .boolean)) (hk : meth.locks = false) {b : Bool} {S' : mT} {r : Int32} {S : mT} (hf : fX12_isFull_18 S = some (r, S')) (ok : Bool) : mW p l e (mR 1) s m args below meth c G 1 233 54500 (mQ below G args s b S' (some (.int r))) (ok, 18, [.retAddr 0], [], mk b S) := by
  unfold fX12_isFull_18 at hf
  refine msegT C kX12_isFull 8 2 (g := (true, 23, [.retAddr 0], [.int (1 : Int32)], mk b S)) rfl rfl ?_
  exact mfor (L' := [.retAddr 0]) ⟨Or.inl rfl, trivial⟩ (bX12_isFull_23 C hr hk hf true)
theorem bX12_isFull_0 (C : mCx p (mR 1) s m args meth c G cX12_isFull RX12 1 false 233 54500 233 54500) (hr : meth.sig.returnType = (some .boolean)) (hk : meth.locks = false) {b : Bool} {S' : mT} {r : Int32} {S : mT} (hf : fX12_isFull S = some (r, S')) (ok : Bool) : mW p l e (mR 1) s m args below meth c G 1 233 54500 (mQ below G args s b S' (some (.int r))) (ok, 0, [.ref (187)], [], mk b S) := by
  unfold fX12_isFull at hf
  obtain ⟨hok, hf⟩ := grd_ex hf
  refine msegT C kX12_isFull 0 4 (g := ((kO 187 12 && true), (if (S.1 187 23) = (90 : Int32) then 18 else 9), [.ref (187)], [], mk b S)) rfl hok ?_
  by_cases hc : (S.1 187 23) = (90 : Int32)
  · rw [if_pos hc] at hf ⊢
    exact mfor (L' := [.retAddr 0]) ⟨Or.inl rfl, trivial⟩ (bX12_isFull_18 C hr hk hf true)
  · rw [if_neg hc] at hf ⊢
    obtain ⟨hok, hf⟩ := grd_ex hf
    refine msegT C kX12_isFull 4 4 (g := ((kO 187 12 && true), (if (S.1 187 25) = (30 : Int32) then 18 else 22), [.ref (187)], [], mk b S)) rfl hok ?_
    by_cases hc : (S.1 187 25) = (30 : Int32)
    · rw [if_pos hc] at hf ⊢
      exact mfor (L' := [.retAddr 0]) ⟨Or.inl rfl, trivial⟩ (bX12_isFull_18 C hr hk hf true)
    · rw [if_neg hc] at hf ⊢
      refine msegT C kX12_isFull 10 1 (g := (true, 23, [.ref (187)], [.int (0 : Int32)], mk b S)) rfl rfl ?_
      exact mfor (L' := [.retAddr 0]) ⟨Or.inl rfl, trivial⟩ (bX12_isFull_23 C hr hk hf true)
theorem qX12_isFull {b : Bool} {S S' : mT} {r : Int32} (hf : fX12_isFull S = some (r, S')) : mOk l mX12_isFull 1 [.ref (187)] b S (some (.int r)) S' :=
  gMet (by decide) (Nat.le_of_ble_eq_true rfl) rfl (Nat.le_of_ble_eq_true rfl) (fun p e s m args below meth c G C hr hk => bX12_isFull_0 C hr hk hf true)
theorem bX12_mayNot_46 (C : mCx p (mR 2) s m args meth c G cX12_mayNot RX12 1 false 233 54500 233 54500) (hr : meth.sig.returnType = (some .boolean)) (hk : meth.locks = false) {b : Bool} {S' : mT} {r : Int32} {s0 : Int32} {S : mT} (hf : fX12_mayNot_46 s0 S = some (r, S')) (ok : Bool) : mW p l e (mR 2) s m args below meth c G 1 233 54500 (mQ below G args s b S' (some (.int r))) (ok, 46, [.retAddr 0], [.int s0], mk b S) := by
  unfold fX12_mayNot_46 at hf
  obtain ⟨hz, hf⟩ := grd_ex hf
  cases hf
  exact gret_z C hr hk (mFit_nar hz) (kX12_mayNot _ (List.mem_of_getElem? (i := 25) rfl)).1
theorem bX12_mayNot_41 (C : mCx p (mR 2) s m args meth c G cX12_mayNot RX12 1 false 233 54500 233 54500) (hr : meth.sig.returnType = (some .boolean)) (hk : meth.locks = false) {b : Bool} {S' : mT} {r : Int32} {S : mT} (hf : fX12_mayNot_41 S = some (r, S')) (ok : Bool) : mW p l e (mR 2) s m args below meth c G 1 233 54500 (mQ below G args s b S' (some (.int r))) (ok, 41, [.retAddr 0], [], mk b S) := by
  unfold fX12_mayNot_41 at hf
  refine msegT C kX12_mayNot 22 2 (g := (true, 46, [.retAddr 0], [.int (1 : Int32)], mk b S)) rfl rfl ?_
  exact mfor (L' := [.retAddr 0]) ⟨Or.inl rfl, trivial⟩ (bX12_mayNot_46 C hr hk hf true)
theorem bX12_mayNot_0 (C : mCx p (mR 2) s m args meth c G cX12_mayNot RX12 1 false 233 54500 233 54500) (hr : meth.sig.returnType = (some .boolean)) (hk : meth.locks = false) {b : Bool} {S' : mT} {r : Int32} {S : mT} (hf : fX12_mayNot S = some (r, S')) (ok : Bool) : mW p l e (mR 2) s m args below meth c G 1 233 54500 (mQ below G args s b S' (some (.int r))) (ok, 0, [.ref (187)], [], mk b S) := by
  unfold fX12_mayNot at hf
  obtain ⟨hok, hf⟩ := grd_ex hf
  refine msegT C kX12_mayNot 0 3 (g := ((kO 187 12 && true), (if (S.1 187 22) = 0 then 41 else 7), [.ref (187)], [], mk b S)) rfl hok ?_
  by_cases hc : (S.1 187 22) = 0
  · rw [if_pos hc] at hf ⊢
    exact mfor (L' := [.retAddr 0]) ⟨Or.inl rfl, trivial⟩ (bX12_mayNot_41 C hr hk hf true)
  · rw [if_neg hc] at hf ⊢
    obtain ⟨hok, hf⟩ := grd_ex hf
    refine msegT C kX12_mayNot 3 9 (g := ((kI 196 ((S.1 187 22) - (1 : Int32)) && (kO 187 12 && (kO 187 12 && true))), (if (S.1 196 (mIx ((S.1 187 22) - (1 : Int32)))) = (20 : Int32) then 41 else 23), [.ref (187)], [], mk b S)) rfl hok ?_
    by_cases hc : (S.1 196 (mIx ((S.1 187 22) - (1 : Int32)))) = (20 : Int32)
    · rw [if_pos hc] at hf ⊢
      exact mfor (L' := [.retAddr 0]) ⟨Or.inl rfl, trivial⟩ (bX12_mayNot_41 C hr hk hf true)
    · rw [if_neg hc] at hf ⊢
      obtain ⟨hok, hf⟩ := grd_ex hf
      refine msegT C kX12_mayNot 12 7 (g := ((kI 196 ((S.1 187 22) - (1 : Int32)) && (kO 187 12 && (kO 187 12 && true))), 34, [.ref (187)], [.int (S.1 196 (mIx ((S.1 187 22) - (1 : Int32))))], mk b S)) rfl hok ?_
      obtain ⟨x2, S1, hq, hf⟩ := bndC_ex hf
      refine mcall (kd := 1) (vs := [.int (S.1 196 (mIx ((S.1 187 22) - (1 : Int32))))]) (rest := []) (r := (some (.int x2))) (h' := mk b S1) (ok' := true) C lkRX12_260 (qX12_tight hq) (kX12_mayNot _ (List.mem_of_getElem? (i := 19) rfl)).1 rfl (Nat.le_of_ble_eq_true rfl) (Nat.le_of_ble_eq_true rfl) (Nat.le_refl _) (Nat.le_refl _) (Nat.le_of_ble_eq_true rfl) ?_
      refine msegT C kX12_mayNot 20 2 (g := (true, (if (4 : Int32) ≤ x2 then 45 else 41), [.ref (187)], [], mk b S1)) rfl rfl ?_
      by_cases hc : (4 : Int32) ≤ x2
      · rw [if_pos hc] at hf ⊢
        refine msegT C kX12_mayNot 24 1 (g := (true, 46, [.ref (187)], [.int (0 : Int32)], mk b S1)) rfl rfl ?_
        exact mfor (L' := [.retAddr 0]) ⟨Or.inl rfl, trivial⟩ (bX12_mayNot_46 C hr hk hf true)
      · rw [if_neg hc] at hf ⊢
        exact mfor (L' := [.retAddr 0]) ⟨Or.inl rfl, trivial⟩ (bX12_mayNot_41 C hr hk hf true)
theorem qX12_mayNot {b : Bool} {S S' : mT} {r : Int32} (hf : fX12_mayNot S = some (r, S')) : mOk l mX12_mayNot 2 [.ref (187)] b S (some (.int r)) S' :=
  gMet (by decide) (Nat.le_of_ble_eq_true rfl) rfl (Nat.le_of_ble_eq_true rfl) (fun p e s m args below meth c G C hr hk => bX12_mayNot_0 C hr hk hf true)
theorem bX12_openUp_41 (C : mCx p (mR 3) s m args meth c G cX12_openUp RX12 2 false 233 54500 233 54500) (hr : meth.sig.returnType = none) (hk : meth.locks = false) {b : Bool} {S' : mT} {S : mT} (hf : fX12_openUp_41 S = some S') (ok : Bool) : mW p l e (mR 3) s m args below meth c G 2 233 54500 (mQ below G args s b S' none) (ok, 41, [.retAddr 0, .retAddr 0], [], mk b S) := by
  unfold fX12_openUp_41 at hf
  cases hf
  exact gret_v C hr hk (kX12_openUp _ (List.mem_of_getElem? (i := 23) rfl)).1
theorem bX12_openUp_0 (C : mCx p (mR 3) s m args meth c G cX12_openUp RX12 2 false 233 54500 233 54500) (hr : meth.sig.returnType = none) (hk : meth.locks = false) {b : Bool} {S' : mT} {v1 : Int32} {S : mT} (hf : fX12_openUp v1 S = some S') (ok : Bool) : mW p l e (mR 3) s m args below meth c G 2 233 54500 (mQ below G args s b S' none) (ok, 0, [.ref (187), .int v1], [], mk b S) := by
  unfold fX12_openUp at hf
  obtain ⟨hok, hf⟩ := grd_ex hf
  refine msegT C kX12_openUp 0 6 (g := ((kI 196 (S.1 187 22) && (kO 187 12 && (kO 187 12 && true))), 10, [.ref (187), .int v1], [], mk b (sI S 196 (mIx (S.1 187 22)) v1))) rfl hok ?_
  obtain ⟨S1, eS1, hf⟩ := bnd_ex hf
  rw [← eS1]
  obtain ⟨hok, hf⟩ := grd_ex hf
  refine msegT C kX12_openUp 6 6 (g := ((kO 187 12 && (kO 187 12 && true)), 20, [.ref (187), .int v1], [], mk b (sI S1 187 22 ((S1.1 187 22) + (1 : Int32))))) rfl hok ?_
  obtain ⟨S2, eS2, hf⟩ := bnd_ex hf
  rw [← eS2]
  obtain ⟨hok, hf⟩ := grd_ex hf
  refine msegT C kX12_openUp 12 6 (g := ((kO 187 12 && (kO 187 12 && true)), 30, [.ref (187), .int v1], [], mk b (sI S2 187 26 ((S2.1 187 26) + (1 : Int32))))) rfl hok ?_
  obtain ⟨S3, eS3, hf⟩ := bnd_ex hf
  rw [← eS3]
  obtain ⟨hok, hf⟩ := grd_ex hf
  refine msegT C kX12_openUp 18 3 (g := ((kO 187 12 && true), (if (S3.1 187 2) = 0 then 37 else 41), [.ref (187), .int v1], [], mk b S3)) rfl hok ?_
  by_cases hc : (S3.1 187 2) = 0
  · rw [if_pos hc] at hf ⊢
    refine msegT C kX12_openUp 21 1 (g := (true, 38, [.ref (187), .int v1], [.ref (187)], mk b S3)) rfl rfl ?_
    obtain ⟨S4, hq, hf⟩ := bndV_ex hf
    refine mcall (kd := 0) (vs := [.ref (187)]) (rest := []) (r := none) (h' := mk b S4) (ok' := true) C lkRX12_236 (qX12_token hq) (kX12_openUp _ (List.mem_of_getElem? (i := 22) rfl)).1 ⟨_, _, rfl, rfl, Nat.le_of_ble_eq_true rfl, _, _, rfl, rfl, rfl⟩ (Nat.le_of_ble_eq_true rfl) (Nat.le_of_ble_eq_true rfl) (Nat.le_refl _) (Nat.le_refl _) (Nat.le_of_ble_eq_true rfl) ?_
    exact mfor (L' := [.retAddr 0, .retAddr 0]) ⟨Or.inl rfl, Or.inl rfl, trivial⟩ (bX12_openUp_41 C hr hk hf true)
  · rw [if_neg hc] at hf ⊢
    exact mfor (L' := [.retAddr 0, .retAddr 0]) ⟨Or.inl rfl, Or.inl rfl, trivial⟩ (bX12_openUp_41 C hr hk hf true)
theorem qX12_openUp {b : Bool} {v1 : Int32} {S S' : mT} (hf : fX12_openUp v1 S = some S') : mOk l mX12_openUp 3 [.ref (187), .int v1] b S none S' :=
  gMet (by decide) (Nat.le_of_ble_eq_true rfl) rfl (Nat.le_of_ble_eq_true rfl) (fun p e s m args below meth c G C hr hk => bX12_openUp_0 C hr hk hf true)
theorem bX12_wrong_22 (C : mCx p (mR 1) s m args meth c G cX12_wrong RX12 2 false 233 54500 233 54500) (hr : meth.sig.returnType = none) (hk : meth.locks = false) {b : Bool} {S' : mT} {s0 : Int32} {S : mT} (hf : fX12_wrong_22 s0 S = some S') (ok : Bool) : mW p l e (mR 1) s m args below meth c G 2 233 54500 (mQ below G args s b S' none) (ok, 22, [.ref (187), .retAddr 0], [.int s0, .ref (187)], mk b S) := by
  unfold fX12_wrong_22 at hf
  obtain ⟨hok, hf⟩ := grd_ex hf
  refine msegT C kX12_wrong 12 1 (g := ((kO 187 12 && true), 25, [.ref (187), .retAddr 0], [], mk b (sI S 187 2 s0))) rfl hok ?_
  obtain ⟨S1, eS1, hf⟩ := bnd_ex hf
  rw [← eS1]
  obtain ⟨hok, hf⟩ := grd_ex hf
  refine msegT C kX12_wrong 13 4 (g := ((kO 187 12 && (kO 187 12 && true)), 33, [.ref (187), .retAddr 0], [], mk b (sI S1 187 3 (S1.1 187 7)))) rfl hok ?_
  obtain ⟨S2, eS2, hf⟩ := bnd_ex hf
  rw [← eS2]
  cases hf
  exact gret_v C hr hk (kX12_wrong _ (List.mem_of_getElem? (i := 17) rfl)).1
theorem bX12_wrong_0 (C : mCx p (mR 1) s m args meth c G cX12_wrong RX12 2 false 233 54500 233 54500) (hr : meth.sig.returnType = none) (hk : meth.locks = false) {b : Bool} {S' : mT} {v1 : Int32} {S : mT} (hf : fX12_wrong v1 S = some S') (ok : Bool) : mW p l e (mR 1) s m args below meth c G 2 233 54500 (mQ below G args s b S' none) (ok, 0, [.ref (187), .int v1], [], mk b S) := by
  unfold fX12_wrong at hf
  obtain ⟨hok, hf⟩ := grd_ex hf
  refine msegT C kX12_wrong 0 3 (g := ((kO 187 12 && true), (if (S.1 187 2) ≤ 0 then 8 else 7), [.ref (187), .int v1], [], mk b S)) rfl hok ?_
  by_cases hc : (S.1 187 2) ≤ 0
  · rw [if_pos hc] at hf ⊢
    obtain ⟨hok, hf⟩ := grd_ex hf
    refine msegT C kX12_wrong 4 5 (g := ((kO 187 12 && true), (if (S.1 187 6) = (3 : Int32) then 17 else 21), [.ref (187), .int v1], [.ref (187)], mk b S)) rfl hok ?_
    by_cases hc : (S.1 187 6) = (3 : Int32)
    · rw [if_pos hc] at hf ⊢
      refine msegT C kX12_wrong 9 2 (g := (true, 22, [.ref (187), .int v1], [.int (1 : Int32), .ref (187)], mk b S)) rfl rfl ?_
      exact mfor (L' := [.ref (187), .retAddr 0]) ⟨Or.inr rfl, Or.inl rfl, trivial⟩ (bX12_wrong_22 C hr hk hf true)
    · rw [if_neg hc] at hf ⊢
      refine msegT C kX12_wrong 11 1 (g := (true, 22, [.ref (187), .int v1], [.int v1, .ref (187)], mk b S)) rfl rfl ?_
      exact mfor (L' := [.ref (187), .retAddr 0]) ⟨Or.inr rfl, Or.inl rfl, trivial⟩ (bX12_wrong_22 C hr hk hf true)
  · rw [if_neg hc] at hf ⊢
    cases hf
    exact gret_v C hr hk (kX12_wrong _ (List.mem_of_getElem? (i := 3) rfl)).1
theorem qX12_wrong {b : Bool} {v1 : Int32} {S S' : mT} (hf : fX12_wrong v1 S = some S') : mOk l mX12_wrong 1 [.ref (187), .int v1] b S none S' :=
  gMet (by decide) (Nat.le_of_ble_eq_true rfl) rfl (Nat.le_of_ble_eq_true rfl) (fun p e s m args below meth c G C hr hk => bX12_wrong_0 C hr hk hf true)
theorem bX12_unit_44 (C : mCx p (mR 4) s m args meth c G cX12_unit RX12 3 false 233 54500 233 54500) (hr : meth.sig.returnType = none) (hk : meth.locks = false) {b : Bool} {S' : mT} {rc2 : Int32 → mT → Option (mT)} (Hrc2 : ∀ (v1 : Int32) (S : mT), rc2 v1 S = some S' → ∀ ok : Bool, mW p l e (mR 4) s m args below meth c G 3 233 54500 (mQ below G args s b S' none) (ok, 2, [.ref (187), .int v1, .retAddr 0], [], mk b S)) {v1 : Int32} {S : mT} (hf : fX12_unit_44 rc2 v1 S = some S') (ok : Bool) : mW p l e (mR 4) s m args below meth c G 3 233 54500 (mQ below G args s b S' none) (ok, 44, [.ref (187), .int v1, .retAddr 0], [], mk b S) := by
  unfold fX12_unit_44 at hf
  refine msegT C kX12_unit 21 2 (g := (true, 47, [.ref (187), .int v1, .retAddr 0], [.int (21 : Int32), .ref (187)], mk b S)) rfl rfl ?_
  obtain ⟨S10, hq, hf⟩ := bndV_ex hf
  refine mcall (kd := 0) (vs := [.ref (187), .int (21 : Int32)]) (rest := []) (r := none) (h' := mk b S10) (ok' := true) C lkRX12_279 (qX12_openUp hq) (kX12_unit _ (List.mem_of_getElem? (i := 23) rfl)).1 ⟨_, _, rfl, rfl, Nat.le_of_ble_eq_true rfl, _, _, rfl, rfl, rfl⟩ (Nat.le_of_ble_eq_true rfl) (Nat.le_of_ble_eq_true rfl) (Nat.le_refl _) (Nat.le_refl _) (Nat.le_of_ble_eq_true rfl) ?_
  refine msegT C kX12_unit 24 1 (g := (true, 2, [.ref (187), .int v1, .retAddr 0], [], mk b S10)) rfl rfl ?_
  exact mfor (L' := [.ref (187), .int v1, .retAddr 0]) ⟨Or.inr rfl, Or.inr rfl, Or.inl rfl, trivial⟩ (Hrc2 _ _ hf true)
theorem bX12_unit_83 (C : mCx p (mR 4) s m args meth c G cX12_unit RX12 3 false 233 54500 233 54500) (hr : meth.sig.returnType = none) (hk : meth.locks = false) {b : Bool} {S' : mT} {rc2 : Int32 → mT → Option (mT)} (Hrc2 : ∀ (v1 : Int32) (S : mT), rc2 v1 S = some S' → ∀ ok : Bool, mW p l e (mR 4) s m args below meth c G 3 233 54500 (mQ below G args s b S' none) (ok, 2, [.ref (187), .int v1, .retAddr 0], [], mk b S)) {v1 : Int32} {S : mT} (hf : fX12_unit_83 rc2 v1 S = some S') (ok : Bool) : mW p l e (mR 4) s m args below meth c G 3 233 54500 (mQ below G args s b S' none) (ok, 83, [.ref (187), .int v1, .retAddr 0], [], mk b S) := by
  unfold fX12_unit_83 at hf
  refine msegT C kX12_unit 39 1 (g := (true, 84, [.ref (187), .int v1, .retAddr 0], [.ref (187)], mk b S)) rfl rfl ?_
  obtain ⟨S14, hq, hf⟩ := bndV_ex hf
  refine mcall (kd := 0) (vs := [.ref (187)]) (rest := []) (r := none) (h' := mk b S14) (ok' := true) C lkRX12_285 (qX12_countUnit hq) (kX12_unit _ (List.mem_of_getElem? (i := 40) rfl)).1 ⟨_, _, rfl, rfl, Nat.le_of_ble_eq_true rfl, _, _, rfl, rfl, rfl⟩ (Nat.le_of_ble_eq_true rfl) (Nat.le_of_ble_eq_true rfl) (Nat.le_refl _) (Nat.le_refl _) (Nat.le_of_ble_eq_true rfl) ?_
  refine msegT C kX12_unit 41 2 (g := (true, 90, [.ref (187), .int v1, .retAddr 0], [.int (20 : Int32), .ref (187)], mk b S14)) rfl rfl ?_
  obtain ⟨S15, hq, hf⟩ := bndV_ex hf
  refine mcall (kd := 0) (vs := [.ref (187), .int (20 : Int32)]) (rest := []) (r := none) (h' := mk b S15) (ok' := true) C lkRX12_279 (qX12_openUp hq) (kX12_unit _ (List.mem_of_getElem? (i := 43) rfl)).1 ⟨_, _, rfl, rfl, Nat.le_of_ble_eq_true rfl, _, _, rfl, rfl, rfl⟩ (Nat.le_of_ble_eq_true rfl) (Nat.le_of_ble_eq_true rfl) (Nat.le_refl _) (Nat.le_refl _) (Nat.le_of_ble_eq_true rfl) ?_
  refine msegT C kX12_unit 44 1 (g := (true, 2, [.ref (187), .int v1, .retAddr 0], [], mk b S15)) rfl rfl ?_
  exact mfor (L' := [.ref (187), .int v1, .retAddr 0]) ⟨Or.inr rfl, Or.inr rfl, Or.inl rfl, trivial⟩ (Hrc2 _ _ hf true)
theorem bX12_unit_78 (C : mCx p (mR 4) s m args meth c G cX12_unit RX12 3 false 233 54500 233 54500) (hr : meth.sig.returnType = none) (hk : meth.locks = false) {b : Bool} {S' : mT} {rc2 : Int32 → mT → Option (mT)} (Hrc2 : ∀ (v1 : Int32) (S : mT), rc2 v1 S = some S' → ∀ ok : Bool, mW p l e (mR 4) s m args below meth c G 3 233 54500 (mQ below G args s b S' none) (ok, 2, [.ref (187), .int v1, .retAddr 0], [], mk b S)) {v1 : Int32} {S : mT} (hf : fX12_unit_78 rc2 v1 S = some S') (ok : Bool) : mW p l e (mR 4) s m args below meth c G 3 233 54500 (mQ below G args s b S' none) (ok, 78, [.ref (187), .int v1, .retAddr 0], [], mk b S) := by
  unfold fX12_unit_78 at hf
  refine msegT C kX12_unit 36 2 (g := (true, 80, [.ref (187), .int v1, .retAddr 0], [.int (2 : Int32), .ref (187)], mk b S)) rfl rfl ?_
  obtain ⟨S16, hq, hf⟩ := bndV_ex hf
  refine mcall (kd := 0) (vs := [.ref (187), .int (2 : Int32)]) (rest := []) (r := none) (h' := mk b S16) (ok' := true) C lkRX12_233 (qX12_wrong hq) (kX12_unit _ (List.mem_of_getElem? (i := 38) rfl)).1 ⟨_, _, rfl, rfl, Nat.le_of_ble_eq_true rfl, _, _, rfl, rfl, rfl⟩ (Nat.le_of_ble_eq_true rfl) (Nat.le_of_ble_eq_true rfl) (Nat.le_refl _) (Nat.le_refl _) (Nat.le_of_ble_eq_true rfl) ?_
  exact mfor (L' := [.ref (187), .int v1, .retAddr 0]) ⟨Or.inr rfl, Or.inr rfl, Or.inl rfl, trivial⟩ (bX12_unit_83 C hr hk Hrc2 hf true)
theorem bX12_unit_53 (C : mCx p (mR 4) s m args meth c G cX12_unit RX12 3 false 233 54500 233 54500) (hr : meth.sig.returnType = none) (hk : meth.locks = false) {b : Bool} {S' : mT} {rc2 : Int32 → mT → Option (mT)} (Hrc2 : ∀ (v1 : Int32) (S : mT), rc2 v1 S = some S' → ∀ ok : Bool, mW p l e (mR 4) s m args below meth c G 3 233 54500 (mQ below G args s b S' none) (ok, 2, [.ref (187), .int v1, .retAddr 0], [], mk b S)) {v1 : Int32} {S : mT} (hf : fX12_unit_53 rc2 v1 S = some S') (ok : Bool) : mW p l e (mR 4) s m args below meth c G 3 233 54500 (mQ below G args s b S' none) (ok, 53, [.ref (187), .int v1, .retAddr 0], [], mk b S) := by
  unfold fX12_unit_53 at hf
  obtain ⟨hok, hf⟩ := grd_ex hf
  refine msegT C kX12_unit 25 4 (g := ((kO 187 12 && true), (if (S.1 187 6) = (40 : Int32) then 62 else 96), [.ref (187), .int v1, .retAddr 0], [], mk b S)) rfl hok ?_
  by_cases hc : (S.1 187 6) = (40 : Int32)
  · rw [if_pos hc] at hf ⊢
    refine msegT C kX12_unit 29 1 (g := (true, 63, [.ref (187), .int v1, .retAddr 0], [.ref (187)], mk b S)) rfl rfl ?_
    obtain ⟨x9, S8, hq, hf⟩ := bndC_ex hf
    refine mcall (kd := 0) (vs := [.ref (187)]) (rest := []) (r := (some (.int x9))) (h' := mk b S8) (ok' := true) C lkRX12_282 (qX12_isFull hq) (kX12_unit _ (List.mem_of_getElem? (i := 30) rfl)).1 ⟨_, _, rfl, rfl, Nat.le_of_ble_eq_true rfl, _, _, rfl, rfl, rfl⟩ (Nat.le_of_ble_eq_true rfl) (Nat.le_of_ble_eq_true rfl) (Nat.le_refl _) (Nat.le_refl _) (Nat.le_of_ble_eq_true rfl) ?_
    refine msegT C kX12_unit 31 1 (g := (true, (if x9 = 0 then 69 else 78), [.ref (187), .int v1, .retAddr 0], [], mk b S8)) rfl rfl ?_
    by_cases hc : x9 = 0
    · rw [if_pos hc] at hf ⊢
      obtain ⟨hok, hf⟩ := grd_ex hf
      refine msegT C kX12_unit 32 4 (g := ((kO 187 12 && true), (if (S8.1 187 26) ≤ (6 : Int32) then 83 else 78), [.ref (187), .int v1, .retAddr 0], [], mk b S8)) rfl hok ?_
      by_cases hc : (S8.1 187 26) ≤ (6 : Int32)
      · rw [if_pos hc] at hf ⊢
        exact mfor (L' := [.ref (187), .int v1, .retAddr 0]) ⟨Or.inr rfl, Or.inr rfl, Or.inl rfl, trivial⟩ (bX12_unit_83 C hr hk Hrc2 hf true)
      · rw [if_neg hc] at hf ⊢
        exact mfor (L' := [.ref (187), .int v1, .retAddr 0]) ⟨Or.inr rfl, Or.inr rfl, Or.inl rfl, trivial⟩ (bX12_unit_78 C hr hk Hrc2 hf true)
    · rw [if_neg hc] at hf ⊢
      exact mfor (L' := [.ref (187), .int v1, .retAddr 0]) ⟨Or.inr rfl, Or.inr rfl, Or.inl rfl, trivial⟩ (bX12_unit_78 C hr hk Hrc2 hf true)
  · rw [if_neg hc] at hf ⊢
    refine msegT C kX12_unit 45 3 (g := (true, 2, [.ref (187), .int (0 : Int32), .retAddr 0], [], mk b S)) rfl rfl ?_
    exact mfor (L' := [.ref (187), .int (0 : Int32), .retAddr 0]) ⟨Or.inr rfl, Or.inr rfl, Or.inl rfl, trivial⟩ (Hrc2 _ _ hf true)
theorem bX12_unit_172 (C : mCx p (mR 4) s m args meth c G cX12_unit RX12 3 false 233 54500 233 54500) (hr : meth.sig.returnType = none) (hk : meth.locks = false) {b : Bool} {S' : mT} {s0 : Int32} {s1 : Int32} {S : mT} (hf : fX12_unit_172 s0 s1 S = some S') (ok : Bool) : mW p l e (mR 4) s m args below meth c G 3 233 54500 (mQ below G args s b S' none) (ok, 172, [.ref (187), .retAddr 0, .retAddr 0], [.int s0, .int s1, .ref (187)], mk b S) := by
  unfold fX12_unit_172 at hf
  obtain ⟨S18, hq, hf⟩ := bndV_ex hf
  refine mcall (kd := 0) (vs := [.ref (187), .int s1, .int s0]) (rest := []) (r := none) (h' := mk b S18) (ok' := true) C lkRX12_263 (qX12_add hq) (kX12_unit _ (List.mem_of_getElem? (i := 85) rfl)).1 ⟨_, _, rfl, rfl, Nat.le_of_ble_eq_true rfl, _, _, rfl, rfl, rfl⟩ (Nat.le_of_ble_eq_true rfl) (Nat.le_of_ble_eq_true rfl) (Nat.le_refl _) (Nat.le_refl _) (Nat.le_of_ble_eq_true rfl) ?_
  refine msegT C kX12_unit 86 1 (g := (true, 176, [.ref (187), .retAddr 0, .retAddr 0], [.ref (187)], mk b S18)) rfl rfl ?_
  obtain ⟨S19, hq, hf⟩ := bndV_ex hf
  refine mcall (kd := 0) (vs := [.ref (187)]) (rest := []) (r := none) (h' := mk b S19) (ok' := true) C lkRX12_236 (qX12_token hq) (kX12_unit _ (List.mem_of_getElem? (i := 87) rfl)).1 ⟨_, _, rfl, rfl, Nat.le_of_ble_eq_true rfl, _, _, rfl, rfl, rfl⟩ (Nat.le_of_ble_eq_true rfl) (Nat.le_of_ble_eq_true rfl) (Nat.le_refl _) (Nat.le_refl _) (Nat.le_of_ble_eq_true rfl) ?_
  cases hf
  exact gret_v C hr hk (kX12_unit _ (List.mem_of_getElem? (i := 88) rfl)).1
theorem bX12_unit_160 (C : mCx p (mR 4) s m args meth c G cX12_unit RX12 3 false 233 54500 233 54500) (hr : meth.sig.returnType = none) (hk : meth.locks = false) {b : Bool} {S' : mT} {v2 : Int32} {s0 : Int32} {S : mT} (hf : fX12_unit_160 v2 s0 S = some S') (ok : Bool) : mW p l e (mR 4) s m args below meth c G 3 233 54500 (mQ below G args s b S' none) (ok, 160, [.ref (187), .retAddr 0, .int v2], [.int s0, .ref (187)], mk b S) := by
  unfold fX12_unit_160 at hf
  refine msegT C kX12_unit 79 2 (g := (true, (if 0 ≤ v2 then 171 else 164), [.ref (187), .retAddr 0, .int v2], [.int s0, .ref (187)], mk b S)) rfl rfl ?_
  by_cases hc : 0 ≤ v2
  · rw [if_pos hc] at hf ⊢
    refine msegT C kX12_unit 84 1 (g := (true, 172, [.ref (187), .retAddr 0, .int v2], [.int v2, .int s0, .ref (187)], mk b S)) rfl rfl ?_
    exact mfor (L' := [.ref (187), .retAddr 0, .retAddr 0]) ⟨Or.inr rfl, Or.inl rfl, Or.inl rfl, trivial⟩ (bX12_unit_172 C hr hk hf true)
  · rw [if_neg hc] at hf ⊢
    obtain ⟨hok, hf⟩ := grd_ex hf
    refine msegT C kX12_unit 81 3 (g := ((kO 187 12 && true), 172, [.ref (187), .retAddr 0, .int v2], [.int (S.1 187 8), .int s0, .ref (187)], mk b S)) rfl hok ?_
    exact mfor (L' := [.ref (187), .retAddr 0, .retAddr 0]) ⟨Or.inr rfl, Or.inl rfl, Or.inl rfl, trivial⟩ (bX12_unit_172 C hr hk hf true)
theorem bX12_unit_138 (C : mCx p (mR 4) s m args meth c G cX12_unit RX12 3 false 233 54500 233 54500) (hr : meth.sig.returnType = none) (hk : meth.locks = false) {b : Bool} {S' : mT} {v2 : Int32} {S : mT} (hf : fX12_unit_138 v2 S = some S') (ok : Bool) : mW p l e (mR 4) s m args below meth c G 3 233 54500 (mQ below G args s b S' none) (ok, 138, [.ref (187), .retAddr 0, .int v2], [], mk b S) := by
  unfold fX12_unit_138 at hf
  obtain ⟨hok, hf⟩ := grd_ex hf
  refine msegT C kX12_unit 67 3 (g := ((kO 187 12 && true), (if (S.1 187 2) ≤ 0 then 146 else 145), [.ref (187), .retAddr 0, .int v2], [], mk b S)) rfl hok ?_
  by_cases hc : (S.1 187 2) ≤ 0
  · rw [if_pos hc] at hf ⊢
    refine msegT C kX12_unit 71 1 (g := (true, 147, [.ref (187), .retAddr 0, .int v2], [.ref (187)], mk b S)) rfl rfl ?_
    obtain ⟨S17, hq, hf⟩ := bndV_ex hf
    refine mcall (kd := 0) (vs := [.ref (187)]) (rest := []) (r := none) (h' := mk b S17) (ok' := true) C lkRX12_285 (qX12_countUnit hq) (kX12_unit _ (List.mem_of_getElem? (i := 72) rfl)).1 ⟨_, _, rfl, rfl, Nat.le_of_ble_eq_true rfl, _, _, rfl, rfl, rfl⟩ (Nat.le_of_ble_eq_true rfl) (Nat.le_of_ble_eq_true rfl) (Nat.le_refl _) (Nat.le_refl _) (Nat.le_of_ble_eq_true rfl) ?_
    refine msegT C kX12_unit 73 3 (g := (true, (if 0 ≤ v2 then 159 else 155), [.ref (187), .retAddr 0, .int v2], [.ref (187)], mk b S17)) rfl rfl ?_
    by_cases hc : 0 ≤ v2
    · rw [if_pos hc] at hf ⊢
      refine msegT C kX12_unit 78 1 (g := (true, 160, [.ref (187), .retAddr 0, .int v2], [.int (1 : Int32), .ref (187)], mk b S17)) rfl rfl ?_
      exact mfor (L' := [.ref (187), .retAddr 0, .int v2]) ⟨Or.inr rfl, Or.inl rfl, Or.inr rfl, trivial⟩ (bX12_unit_160 C hr hk hf true)
    · rw [if_neg hc] at hf ⊢
      refine msegT C kX12_unit 76 2 (g := (true, 160, [.ref (187), .retAddr 0, .int v2], [.int (0 : Int32), .ref (187)], mk b S17)) rfl rfl ?_
      exact mfor (L' := [.ref (187), .retAddr 0, .int v2]) ⟨Or.inr rfl, Or.inl rfl, Or.inr rfl, trivial⟩ (bX12_unit_160 C hr hk hf true)
  · rw [if_neg hc] at hf ⊢
    cases hf
    exact gret_v C hr hk (kX12_unit _ (List.mem_of_getElem? (i := 70) rfl)).1
theorem bX12_unit_133 (C : mCx p (mR 4) s m args meth c G cX12_unit RX12 3 false 233 54500 233 54500) (hr : meth.sig.returnType = none) (hk : meth.locks = false) {b : Bool} {S' : mT} {v2 : Int32} {S : mT} (hf : fX12_unit_133 v2 S = some S') (ok : Bool) : mW p l e (mR 4) s m args below meth c G 3 233 54500 (mQ below G args s b S' none) (ok, 133, [.ref (187), .retAddr 0, .int v2], [], mk b S) := by
  unfold fX12_unit_133 at hf
  refine msegT C kX12_unit 64 2 (g := (true, 135, [.ref (187), .retAddr 0, .int v2], [.int (2 : Int32), .ref (187)], mk b S)) rfl rfl ?_
  obtain ⟨S13, hq, hf⟩ := bndV_ex hf
  refine mcall (kd := 0) (vs := [.ref (187), .int (2 : Int32)]) (rest := []) (r := none) (h' := mk b S13) (ok' := true) C lkRX12_233 (qX12_wrong hq) (kX12_unit _ (List.mem_of_getElem? (i := 66) rfl)).1 ⟨_, _, rfl, rfl, Nat.le_of_ble_eq_true rfl, _, _, rfl, rfl, rfl⟩ (Nat.le_of_ble_eq_true rfl) (Nat.le_of_ble_eq_true rfl) (Nat.le_refl _) (Nat.le_refl _) (Nat.le_of_ble_eq_true rfl) ?_
  exact mfor (L' := [.ref (187), .retAddr 0, .int v2]) ⟨Or.inr rfl, Or.inl rfl, Or.inr rfl, trivial⟩ (bX12_unit_138 C hr hk hf true)
theorem bX12_unit_126 (C : mCx p (mR 4) s m args meth c G cX12_unit RX12 3 false 233 54500 233 54500) (hr : meth.sig.returnType = none) (hk : meth.locks = false) {b : Bool} {S' : mT} {v2 : Int32} {S : mT} (hf : fX12_unit_126 v2 S = some S') (ok : Bool) : mW p l e (mR 4) s m args below meth c G 3 233 54500 (mQ below G args s b S' none) (ok, 126, [.ref (187), .retAddr 0, .int v2], [], mk b S) := by
  unfold fX12_unit_126 at hf
  refine msegT C kX12_unit 61 1 (g := (true, 127, [.ref (187), .retAddr 0, .int v2], [.ref (187)], mk b S)) rfl rfl ?_
  obtain ⟨x12, S11, hq, hf⟩ := bndC_ex hf
  refine mcall (kd := 0) (vs := [.ref (187)]) (rest := []) (r := (some (.int x12))) (h' := mk b S11) (ok' := true) C lkRX12_282 (qX12_isFull hq) (kX12_unit _ (List.mem_of_getElem? (i := 62) rfl)).1 ⟨_, _, rfl, rfl, Nat.le_of_ble_eq_true rfl, _, _, rfl, rfl, rfl⟩ (Nat.le_of_ble_eq_true rfl) (Nat.le_of_ble_eq_true rfl) (Nat.le_refl _) (Nat.le_refl _) (Nat.le_of_ble_eq_true rfl) ?_
  refine msegT C kX12_unit 63 1 (g := (true, (if x12 = 0 then 138 else 133), [.ref (187), .retAddr 0, .int v2], [], mk b S11)) rfl rfl ?_
  by_cases hc : x12 = 0
  · rw [if_pos hc] at hf ⊢
    exact mfor (L' := [.ref (187), .retAddr 0, .int v2]) ⟨Or.inr rfl, Or.inl rfl, Or.inr rfl, trivial⟩ (bX12_unit_138 C hr hk hf true)
  · rw [if_neg hc] at hf ⊢
    exact mfor (L' := [.ref (187), .retAddr 0, .int v2]) ⟨Or.inr rfl, Or.inl rfl, Or.inr rfl, trivial⟩ (bX12_unit_133 C hr hk hf true)
theorem bX12_unit_101 (C : mCx p (mR 4) s m args meth c G cX12_unit RX12 3 false 233 54500 233 54500) (hr : meth.sig.returnType = none) (hk : meth.locks = false) {b : Bool} {S' : mT} {S : mT} (hf : fX12_unit_101 S = some S') (ok : Bool) : mW p l e (mR 4) s m args below meth c G 3 233 54500 (mQ below G args s b S' none) (ok, 101, [.ref (187), .retAddr 0, .retAddr 0], [], mk b S) := by
  unfold fX12_unit_101 at hf
  obtain ⟨hok, hf⟩ := grd_ex hf
  refine msegT C kX12_unit 48 3 (g := ((kO 187 12 && true), (if (S.1 187 2) ≤ 0 then 109 else 108), [.ref (187), .retAddr 0, .retAddr 0], [], mk b S)) rfl hok ?_
  by_cases hc : (S.1 187 2) ≤ 0
  · rw [if_pos hc] at hf ⊢
    refine msegT C kX12_unit 52 1 (g := (true, 110, [.ref (187), .retAddr 0, .retAddr 0], [.ref (187)], mk b S)) rfl rfl ?_
    obtain ⟨x7, S6, hq, hf⟩ := bndC_ex hf
    refine mcall (kd := 0) (vs := [.ref (187)]) (rest := []) (r := (some (.int x7))) (h' := mk b S6) (ok' := true) C lkRX12_288 (qX12_asked hq) (kX12_unit _ (List.mem_of_getElem? (i := 53) rfl)).1 ⟨_, _, rfl, rfl, Nat.le_of_ble_eq_true rfl, _, _, rfl, rfl, rfl⟩ (Nat.le_of_ble_eq_true rfl) (Nat.le_of_ble_eq_true rfl) (Nat.le_refl _) (Nat.le_refl _) (Nat.le_of_ble_eq_true rfl) ?_
    obtain ⟨hok, hf⟩ := grd_ex hf
    refine msegT C kX12_unit 54 5 (g := ((kO 187 12 && true), (if (S6.1 187 6) = (2 : Int32) then 126 else 122), [.ref (187), .retAddr 0, .int x7], [], mk b S6)) rfl hok ?_
    by_cases hc : (S6.1 187 6) = (2 : Int32)
    · rw [if_pos hc] at hf ⊢
      exact mfor (L' := [.ref (187), .retAddr 0, .int x7]) ⟨Or.inr rfl, Or.inl rfl, Or.inr rfl, trivial⟩ (bX12_unit_126 C hr hk hf true)
    · rw [if_neg hc] at hf ⊢
      refine msegT C kX12_unit 59 2 (g := (true, (if x7 < 0 then 133 else 126), [.ref (187), .retAddr 0, .int x7], [], mk b S6)) rfl rfl ?_
      by_cases hc : x7 < 0
      · rw [if_pos hc] at hf ⊢
        exact mfor (L' := [.ref (187), .retAddr 0, .int x7]) ⟨Or.inr rfl, Or.inl rfl, Or.inr rfl, trivial⟩ (bX12_unit_133 C hr hk hf true)
      · rw [if_neg hc] at hf ⊢
        exact mfor (L' := [.ref (187), .retAddr 0, .int x7]) ⟨Or.inr rfl, Or.inl rfl, Or.inr rfl, trivial⟩ (bX12_unit_126 C hr hk hf true)
  · rw [if_neg hc] at hf ⊢
    cases hf
    exact gret_v C hr hk (kX12_unit _ (List.mem_of_getElem? (i := 51) rfl)).1
theorem bX12_unit_2 (C : mCx p (mR 4) s m args meth c G cX12_unit RX12 3 false 233 54500 233 54500) (hr : meth.sig.returnType = none) (hk : meth.locks = false) {b : Bool} {S' : mT} : ∀ (k : Nat) (v1 : Int32) (S : mT), fX12_unit_2 k v1 S = some S' → ∀ ok : Bool, mW p l e (mR 4) s m args below meth c G 3 233 54500 (mQ below G args s b S' none) (ok, 2, [.ref (187), .int v1, .retAddr 0], [], mk b S) := by
  intro k
  induction k with
  | zero =>
    intro v1 S hf ok
    cases hf
  | succ k ih =>
    intro v1 S hf ok
    unfold fX12_unit_2 at hf
    refine msegT C kX12_unit 2 2 (g := (true, (if v1 = 0 then 101 else 6), [.ref (187), .int v1, .retAddr 0], [], mk b S)) rfl rfl ?_
    by_cases hc : v1 = 0
    · rw [if_pos hc] at hf ⊢
      exact mfor (L' := [.ref (187), .retAddr 0, .retAddr 0]) ⟨Or.inr rfl, Or.inl rfl, Or.inl rfl, trivial⟩ (bX12_unit_101 C hr hk hf true)
    · rw [if_neg hc] at hf ⊢
      obtain ⟨hok, hf⟩ := grd_ex hf
      refine msegT C kX12_unit 4 3 (g := ((kO 187 12 && true), (if (S.1 187 2) = 0 then 13 else 101), [.ref (187), .int v1, .retAddr 0], [], mk b S)) rfl hok ?_
      by_cases hc : (S.1 187 2) = 0
      · rw [if_pos hc] at hf ⊢
        refine msegT C kX12_unit 7 2 (g := (true, 17, [.ref (187), .int v1, .retAddr 0], [.long (7237492 : Int64), .ref (187)], mk b S)) rfl rfl ?_
        obtain ⟨x2, S1, hq, hf⟩ := bndC_ex hf
        refine mcall (kd := 0) (vs := [.ref (187), .long (7237492 : Int64)]) (rest := []) (r := (some (.int x2))) (h' := mk b S1) (ok' := true) C lkRX12_229 (qX12_isWord hq) (kX12_unit _ (List.mem_of_getElem? (i := 9) rfl)).1 ⟨_, _, rfl, rfl, Nat.le_of_ble_eq_true rfl, _, _, rfl, rfl, rfl⟩ (Nat.le_of_ble_eq_true rfl) (Nat.le_of_ble_eq_true rfl) (Nat.le_refl _) (Nat.le_refl _) (Nat.le_of_ble_eq_true rfl) ?_
        refine msegT C kX12_unit 10 1 (g := (true, (if x2 = 0 then 53 else 23), [.ref (187), .int v1, .retAddr 0], [], mk b S1)) rfl rfl ?_
        by_cases hc : x2 = 0
        · rw [if_pos hc] at hf ⊢
          exact mfor (L' := [.ref (187), .int v1, .retAddr 0]) ⟨Or.inr rfl, Or.inr rfl, Or.inl rfl, trivial⟩ (bX12_unit_53 C hr hk ih hf true)
        · rw [if_neg hc] at hf ⊢
          refine msegT C kX12_unit 11 1 (g := (true, 24, [.ref (187), .int v1, .retAddr 0], [.ref (187)], mk b S1)) rfl rfl ?_
          obtain ⟨x4, S3, hq, hf⟩ := bndC_ex hf
          refine mcall (kd := 0) (vs := [.ref (187)]) (rest := []) (r := (some (.int x4))) (h' := mk b S3) (ok' := true) C lkRX12_276 (qX12_mayNot hq) (kX12_unit _ (List.mem_of_getElem? (i := 12) rfl)).1 ⟨_, _, rfl, rfl, Nat.le_of_ble_eq_true rfl, _, _, rfl, rfl, rfl⟩ (Nat.le_of_ble_eq_true rfl) (Nat.le_of_ble_eq_true rfl) (Nat.le_refl _) (Nat.le_refl _) (Nat.le_of_ble_eq_true rfl) ?_
          refine msegT C kX12_unit 13 1 (g := (true, (if x4 = 0 then 53 else 30), [.ref (187), .int v1, .retAddr 0], [], mk b S3)) rfl rfl ?_
          by_cases hc : x4 = 0
          · rw [if_pos hc] at hf ⊢
            exact mfor (L' := [.ref (187), .int v1, .retAddr 0]) ⟨Or.inr rfl, Or.inr rfl, Or.inl rfl, trivial⟩ (bX12_unit_53 C hr hk ih hf true)
          · rw [if_neg hc] at hf ⊢
            obtain ⟨hok, hf⟩ := grd_ex hf
            refine msegT C kX12_unit 14 4 (g := ((kO 187 12 && true), (if (S3.1 187 26) ≤ (6 : Int32) then 44 else 39), [.ref (187), .int v1, .retAddr 0], [], mk b S3)) rfl hok ?_
            by_cases hc : (S3.1 187 26) ≤ (6 : Int32)
            · rw [if_pos hc] at hf ⊢
              exact mfor (L' := [.ref (187), .int v1, .retAddr 0]) ⟨Or.inr rfl, Or.inr rfl, Or.inl rfl, trivial⟩ (bX12_unit_44 C hr hk ih hf true)
            · rw [if_neg hc] at hf ⊢
              refine msegT C kX12_unit 18 2 (g := (true, 41, [.ref (187), .int v1, .retAddr 0], [.int (2 : Int32), .ref (187)], mk b S3)) rfl rfl ?_
              obtain ⟨S5, hq, hf⟩ := bndV_ex hf
              refine mcall (kd := 0) (vs := [.ref (187), .int (2 : Int32)]) (rest := []) (r := none) (h' := mk b S5) (ok' := true) C lkRX12_233 (qX12_wrong hq) (kX12_unit _ (List.mem_of_getElem? (i := 20) rfl)).1 ⟨_, _, rfl, rfl, Nat.le_of_ble_eq_true rfl, _, _, rfl, rfl, rfl⟩ (Nat.le_of_ble_eq_true rfl) (Nat.le_of_ble_eq_true rfl) (Nat.le_refl _) (Nat.le_refl _) (Nat.le_of_ble_eq_true rfl) ?_
              exact mfor (L' := [.ref (187), .int v1, .retAddr 0]) ⟨Or.inr rfl, Or.inr rfl, Or.inl rfl, trivial⟩ (bX12_unit_44 C hr hk ih hf true)
      · rw [if_neg hc] at hf ⊢
        exact mfor (L' := [.ref (187), .retAddr 0, .retAddr 0]) ⟨Or.inr rfl, Or.inl rfl, Or.inl rfl, trivial⟩ (bX12_unit_101 C hr hk hf true)
theorem bX12_unit_0 (C : mCx p (mR 4) s m args meth c G cX12_unit RX12 3 false 233 54500 233 54500) (hr : meth.sig.returnType = none) (hk : meth.locks = false) {b : Bool} {S' : mT} {S : mT} (hf : fX12_unit S = some S') (ok : Bool) : mW p l e (mR 4) s m args below meth c G 3 233 54500 (mQ below G args s b S' none) (ok, 0, [.ref (187), .retAddr 0, .retAddr 0], [], mk b S) := by
  unfold fX12_unit at hf
  refine msegT C kX12_unit 0 2 (g := (true, 2, [.ref (187), .int (1 : Int32), .retAddr 0], [], mk b S)) rfl rfl ?_
  exact mfor (L' := [.ref (187), .int (1 : Int32), .retAddr 0]) ⟨Or.inr rfl, Or.inr rfl, Or.inl rfl, trivial⟩ (bX12_unit_2 C hr hk _ _ _ hf true)
theorem qX12_unit {b : Bool} {S S' : mT} (hf : fX12_unit S = some S') : mOk l mX12_unit 4 [.ref (187)] b S none S' :=
  gMet (by decide) (Nat.le_of_ble_eq_true rfl) rfl (Nat.le_of_ble_eq_true rfl) (fun p e s m args below meth c G C hr hk => bX12_unit_0 C hr hk hf true)
theorem bX12_formula_174 (C : mCx p (mR 5) s m args meth c G cX12_formula RX12 4 false 233 54500 233 54500) (hr : meth.sig.returnType = none) (hk : meth.locks = false) {b : Bool} {S' : mT} {rc50 : Int32 → mT → Option (mT)} (Hrc50 : ∀ (v2 : Int32) (S : mT), rc50 v2 S = some S' → ∀ ok : Bool, mW p l e (mR 5) s m args below meth c G 4 233 54500 (mQ below G args s b S' none) (ok, 50, [.ref (187), .retAddr 0, .int v2, .retAddr 0], [], mk b S)) {v2 : Int32} {S : mT} (hf : fX12_formula_174 rc50 v2 S = some S') (ok : Bool) : mW p l e (mR 5) s m args below meth c G 4 233 54500 (mQ below G args s b S' none) (ok, 174, [.ref (187), .retAddr 0, .int v2, .retAddr 0], [], mk b S) := by
  unfold fX12_formula_174 at hf
  refine msegT C kX12_formula 95 1 (g := (true, 50, [.ref (187), .retAddr 0, .int v2, .retAddr 0], [], mk b S)) rfl rfl ?_
  exact mfor (L' := [.ref (187), .retAddr 0, .int v2, .retAddr 0]) ⟨Or.inr rfl, Or.inl rfl, Or.inr rfl, Or.inl rfl, trivial⟩ (Hrc50 _ _ hf true)
theorem bX12_formula_133 (C : mCx p (mR 5) s m args meth c G cX12_formula RX12 4 false 233 54500 233 54500) (hr : meth.sig.returnType = none) (hk : meth.locks = false) {b : Bool} {S' : mT} {rc50 : Int32 → mT → Option (mT)} (Hrc50 : ∀ (v2 : Int32) (S : mT), rc50 v2 S = some S' → ∀ ok : Bool, mW p l e (mR 5) s m args below meth c G 4 233 54500 (mQ below G args s b S' none) (ok, 50, [.ref (187), .retAddr 0, .int v2, .retAddr 0], [], mk b S)) {v2 : Int32} {v3 : Int32} {S : mT} (hf : fX12_formula_133 rc50 v2 v3 S = some S') (ok : Bool) : mW p l e (mR 5) s m args below meth c G 4 233 54500 (mQ below G args s b S' none) (ok, 133, [.ref (187), .retAddr 0, .int v2, .int v3], [], mk b S) := by
  unfold fX12_formula_133 at hf
  refine msegT C kX12_formula 72 2 (g := (true, 135, [.ref (187), .retAddr 0, .int v2, .int v3], [.int v3, .ref (187)], mk b S)) rfl rfl ?_
  obtain ⟨x26, S25, hq, hf⟩ := bndC_ex hf
  refine mcall (kd := 1) (vs := [.int v3]) (rest := [.ref (187)]) (r := (some (.int x26))) (h' := mk b S25) (ok' := true) C lkRX12_260 (qX12_tight hq) (kX12_formula _ (List.mem_of_getElem? (i := 74) rfl)).1 rfl (Nat.le_of_ble_eq_true rfl) (Nat.le_of_ble_eq_true rfl) (Nat.le_refl _) (Nat.le_refl _) (Nat.le_of_ble_eq_true rfl) ?_
  obtain ⟨S27, hq, hf⟩ := bndV_ex hf
  refine mcall (kd := 0) (vs := [.ref (187), .int x26]) (rest := []) (r := none) (h' := mk b S27) (ok' := true) C lkRX12_301 (qX12_close hq) (kX12_formula _ (List.mem_of_getElem? (i := 75) rfl)).1 ⟨_, _, rfl, rfl, Nat.le_of_ble_eq_true rfl, _, _, rfl, rfl, rfl⟩ (Nat.le_of_ble_eq_true rfl) (Nat.le_of_ble_eq_true rfl) (Nat.le_refl _) (Nat.le_refl _) (Nat.le_of_ble_eq_true rfl) ?_
  obtain ⟨hok, hf⟩ := grd_ex hf
  refine msegT C kX12_formula 76 6 (g := ((kI 196 (S27.1 187 22) && (kO 187 12 && (kO 187 12 && true))), 151, [.ref (187), .retAddr 0, .int v2, .int v3], [], mk b (sI S27 196 (mIx (S27.1 187 22)) v3))) rfl hok ?_
  obtain ⟨S28, eS28, hf⟩ := bnd_ex hf
  rw [← eS28]
  obtain ⟨hok, hf⟩ := grd_ex hf
  refine msegT C kX12_formula 82 6 (g := ((kO 187 12 && (kO 187 12 && true)), 161, [.ref (187), .retAddr 0, .int v2, .int v3], [], mk b (sI S28 187 22 ((S28.1 187 22) + (1 : Int32))))) rfl hok ?_
  obtain ⟨S29, eS29, hf⟩ := bnd_ex hf
  rw [← eS29]
  refine msegT C kX12_formula 88 1 (g := (true, 162, [.ref (187), .retAddr 0, .int v2, .int v3], [.ref (187)], mk b S29)) rfl rfl ?_
  obtain ⟨S30, hq, hf⟩ := bndV_ex hf
  refine mcall (kd := 0) (vs := [.ref (187)]) (rest := []) (r := none) (h' := mk b S30) (ok' := true) C lkRX12_236 (qX12_token hq) (kX12_formula _ (List.mem_of_getElem? (i := 89) rfl)).1 ⟨_, _, rfl, rfl, Nat.le_of_ble_eq_true rfl, _, _, rfl, rfl, rfl⟩ (Nat.le_of_ble_eq_true rfl) (Nat.le_of_ble_eq_true rfl) (Nat.le_refl _) (Nat.le_refl _) (Nat.le_of_ble_eq_true rfl) ?_
  refine msegT C kX12_formula 90 1 (g := (true, 166, [.ref (187), .retAddr 0, .int v2, .int v3], [.ref (187)], mk b S30)) rfl rfl ?_
  obtain ⟨S31, hq, hf⟩ := bndV_ex hf
  refine mcall (kd := 0) (vs := [.ref (187)]) (rest := []) (r := none) (h' := mk b S31) (ok' := true) C lkRX12_292 (qX12_unit hq) (kX12_formula _ (List.mem_of_getElem? (i := 91) rfl)).1 ⟨_, _, rfl, rfl, Nat.le_of_ble_eq_true rfl, _, _, rfl, rfl, rfl⟩ (Nat.le_of_ble_eq_true rfl) (Nat.le_of_ble_eq_true rfl) (Nat.le_refl _) (Nat.le_refl _) (Nat.le_of_ble_eq_true rfl) ?_
  refine msegT C kX12_formula 92 1 (g := (true, 174, [.ref (187), .retAddr 0, .int v2, .int v3], [], mk b S31)) rfl rfl ?_
  exact mfor (L' := [.ref (187), .retAddr 0, .int v2, .retAddr 0]) ⟨Or.inr rfl, Or.inl rfl, Or.inr rfl, Or.inl rfl, trivial⟩ (bX12_formula_174 C hr hk Hrc50 hf true)
theorem bX12_formula_172 (C : mCx p (mR 5) s m args meth c G cX12_formula RX12 4 false 233 54500 233 54500) (hr : meth.sig.returnType = none) (hk : meth.locks = false) {b : Bool} {S' : mT} {rc50 : Int32 → mT → Option (mT)} (Hrc50 : ∀ (v2 : Int32) (S : mT), rc50 v2 S = some S' → ∀ ok : Bool, mW p l e (mR 5) s m args below meth c G 4 233 54500 (mQ below G args s b S' none) (ok, 50, [.ref (187), .retAddr 0, .int v2, .retAddr 0], [], mk b S)) {S : mT} (hf : fX12_formula_172 rc50 S = some S') (ok : Bool) : mW p l e (mR 5) s m args below meth c G 4 233 54500 (mQ below G args s b S' none) (ok, 172, [.ref (187), .retAddr 0, .retAddr 0, .retAddr 0], [], mk b S) := by
  unfold fX12_formula_172 at hf
  refine msegT C kX12_formula 93 2 (g := (true, 174, [.ref (187), .retAddr 0, .int (0 : Int32), .retAddr 0], [], mk b S)) rfl rfl ?_
  exact mfor (L' := [.ref (187), .retAddr 0, .int (0 : Int32), .retAddr 0]) ⟨Or.inr rfl, Or.inl rfl, Or.inr rfl, Or.inl rfl, trivial⟩ (bX12_formula_174 C hr hk Hrc50 hf true)
theorem bX12_formula_114 (C : mCx p (mR 5) s m args meth c G cX12_formula RX12 4 false 233 54500 233 54500) (hr : meth.sig.returnType = none) (hk : meth.locks = false) {b : Bool} {S' : mT} {rc50 : Int32 → mT → Option (mT)} (Hrc50 : ∀ (v2 : Int32) (S : mT), rc50 v2 S = some S' → ∀ ok : Bool, mW p l e (mR 5) s m args below meth c G 4 233 54500 (mQ below G args s b S' none) (ok, 50, [.ref (187), .retAddr 0, .int v2, .retAddr 0], [], mk b S)) {v2 : Int32} {v3 : Int32} {S : mT} (hf : fX12_formula_114 rc50 v2 v3 S = some S') (ok : Bool) : mW p l e (mR 5) s m args below meth c G 4 233 54500 (mQ below G args s b S' none) (ok, 114, [.ref (187), .retAddr 0, .int v2, .int v3], [], mk b S) := by
  unfold fX12_formula_114 at hf
  refine msegT C kX12_formula 63 2 (g := (true, (if v3 = 0 then 172 else 118), [.ref (187), .retAddr 0, .int v2, .int v3], [], mk b S)) rfl rfl ?_
  by_cases hc : v3 = 0
  · rw [if_pos hc] at hf ⊢
    exact mfor (L' := [.ref (187), .retAddr 0, .retAddr 0, .retAddr 0]) ⟨Or.inr rfl, Or.inl rfl, Or.inl rfl, Or.inl rfl, trivial⟩ (bX12_formula_172 C hr hk Hrc50 hf true)
  · rw [if_neg hc] at hf ⊢
    refine msegT C kX12_formula 65 1 (g := (true, 119, [.ref (187), .retAddr 0, .int v2, .int v3], [.int v3], mk b S)) rfl rfl ?_
    obtain ⟨x21, S20, hq, hf⟩ := bndC_ex hf
    refine mcall (kd := 1) (vs := [.int v3]) (rest := []) (r := (some (.int x21))) (h' := mk b S20) (ok' := true) C lkRX12_260 (qX12_tight hq) (kX12_formula _ (List.mem_of_getElem? (i := 66) rfl)).1 rfl (Nat.le_of_ble_eq_true rfl) (Nat.le_of_ble_eq_true rfl) (Nat.le_refl _) (Nat.le_refl _) (Nat.le_of_ble_eq_true rfl) ?_
    refine msegT C kX12_formula 67 2 (g := (true, (if x21 = (4 : Int32) then 126 else 133), [.ref (187), .retAddr 0, .int v2, .int v3], [], mk b S20)) rfl rfl ?_
    by_cases hc : x21 = (4 : Int32)
    · rw [if_pos hc] at hf ⊢
      refine msegT C kX12_formula 69 1 (g := (true, 127, [.ref (187), .retAddr 0, .int v2, .int v3], [.ref (187)], mk b S20)) rfl rfl ?_
      obtain ⟨x23, S22, hq, hf⟩ := bndC_ex hf
      refine mcall (kd := 0) (vs := [.ref (187)]) (rest := []) (r := (some (.int x23))) (h' := mk b S22) (ok' := true) C lkRX12_304 (qX12_hasRelation hq) (kX12_formula _ (List.mem_of_getElem? (i := 70) rfl)).1 ⟨_, _, rfl, rfl, Nat.le_of_ble_eq_true rfl, _, _, rfl, rfl, rfl⟩ (Nat.le_of_ble_eq_true rfl) (Nat.le_of_ble_eq_true rfl) (Nat.le_refl _) (Nat.le_refl _) (Nat.le_of_ble_eq_true rfl) ?_
      refine msegT C kX12_formula 71 1 (g := (true, (if x23 = 0 then 133 else 172), [.ref (187), .retAddr 0, .int v2, .int v3], [], mk b S22)) rfl rfl ?_
      by_cases hc : x23 = 0
      · rw [if_pos hc] at hf ⊢
        exact mfor (L' := [.ref (187), .retAddr 0, .int v2, .int v3]) ⟨Or.inr rfl, Or.inl rfl, Or.inr rfl, Or.inr rfl, trivial⟩ (bX12_formula_133 C hr hk Hrc50 hf true)
      · rw [if_neg hc] at hf ⊢
        exact mfor (L' := [.ref (187), .retAddr 0, .retAddr 0, .retAddr 0]) ⟨Or.inr rfl, Or.inl rfl, Or.inl rfl, Or.inl rfl, trivial⟩ (bX12_formula_172 C hr hk Hrc50 hf true)
    · rw [if_neg hc] at hf ⊢
      exact mfor (L' := [.ref (187), .retAddr 0, .int v2, .int v3]) ⟨Or.inr rfl, Or.inl rfl, Or.inr rfl, Or.inr rfl, trivial⟩ (bX12_formula_133 C hr hk Hrc50 hf true)
theorem bX12_formula_208 (C : mCx p (mR 5) s m args meth c G cX12_formula RX12 4 false 233 54500 233 54500) (hr : meth.sig.returnType = none) (hk : meth.locks = false) {b : Bool} {S' : mT} {S : mT} (hf : fX12_formula_208 S = some S') (ok : Bool) : mW p l e (mR 5) s m args below meth c G 4 233 54500 (mQ below G args s b S' none) (ok, 208, [.retAddr 0, .retAddr 0, .retAddr 0, .retAddr 0], [], mk b S) := by
  unfold fX12_formula_208 at hf
  cases hf
  exact gret_v C hr hk (kX12_formula _ (List.mem_of_getElem? (i := 111) rfl)).1
theorem bX12_formula_196 (C : mCx p (mR 5) s m args meth c G cX12_formula RX12 4 false 233 54500 233 54500) (hr : meth.sig.returnType = none) (hk : meth.locks = false) {b : Bool} {S' : mT} {S : mT} (hf : fX12_formula_196 S = some S') (ok : Bool) : mW p l e (mR 5) s m args below meth c G 4 233 54500 (mQ below G args s b S' none) (ok, 196, [.ref (187), .retAddr 0, .retAddr 0, .retAddr 0], [], mk b S) := by
  unfold fX12_formula_196 at hf
  obtain ⟨hok, hf⟩ := grd_ex hf
  refine msegT C kX12_formula 105 3 (g := ((kO 187 12 && true), (if (S.1 187 2) = 0 then 203 else 208), [.ref (187), .retAddr 0, .retAddr 0, .retAddr 0], [], mk b S)) rfl hok ?_
  by_cases hc : (S.1 187 2) = 0
  · rw [if_pos hc] at hf ⊢
    refine msegT C kX12_formula 108 2 (g := (true, 205, [.ref (187), .retAddr 0, .retAddr 0, .retAddr 0], [.int (0 : Int32), .ref (187)], mk b S)) rfl rfl ?_
    obtain ⟨S24, hq, hf⟩ := bndV_ex hf
    refine mcall (kd := 0) (vs := [.ref (187), .int (0 : Int32)]) (rest := []) (r := none) (h' := mk b S24) (ok' := true) C lkRX12_301 (qX12_close hq) (kX12_formula _ (List.mem_of_getElem? (i := 110) rfl)).1 ⟨_, _, rfl, rfl, Nat.le_of_ble_eq_true rfl, _, _, rfl, rfl, rfl⟩ (Nat.le_of_ble_eq_true rfl) (Nat.le_of_ble_eq_true rfl) (Nat.le_refl _) (Nat.le_refl _) (Nat.le_of_ble_eq_true rfl) ?_
    exact mfor (L' := [.retAddr 0, .retAddr 0, .retAddr 0, .retAddr 0]) ⟨Or.inl rfl, Or.inl rfl, Or.inl rfl, Or.inl rfl, trivial⟩ (bX12_formula_208 C hr hk hf true)
  · rw [if_neg hc] at hf ⊢
    exact mfor (L' := [.retAddr 0, .retAddr 0, .retAddr 0, .retAddr 0]) ⟨Or.inl rfl, Or.inl rfl, Or.inl rfl, Or.inl rfl, trivial⟩ (bX12_formula_208 C hr hk hf true)
theorem bX12_formula_177 (C : mCx p (mR 5) s m args meth c G cX12_formula RX12 4 false 233 54500 233 54500) (hr : meth.sig.returnType = none) (hk : meth.locks = false) {b : Bool} {S' : mT} {S : mT} (hf : fX12_formula_177 S = some S') (ok : Bool) : mW p l e (mR 5) s m args below meth c G 4 233 54500 (mQ below G args s b S' none) (ok, 177, [.ref (187), .retAddr 0, .retAddr 0, .retAddr 0], [], mk b S) := by
  unfold fX12_formula_177 at hf
  obtain ⟨hok, hf⟩ := grd_ex hf
  refine msegT C kX12_formula 96 3 (g := ((kO 187 12 && true), (if (S.1 187 2) = 0 then 184 else 196), [.ref (187), .retAddr 0, .retAddr 0, .retAddr 0], [], mk b S)) rfl hok ?_
  by_cases hc : (S.1 187 2) = 0
  · rw [if_pos hc] at hf ⊢
    refine msegT C kX12_formula 99 1 (g := (true, 185, [.ref (187), .retAddr 0, .retAddr 0, .retAddr 0], [.ref (187)], mk b S)) rfl rfl ?_
    obtain ⟨x18, S17, hq, hf⟩ := bndC_ex hf
    refine mcall (kd := 0) (vs := [.ref (187)]) (rest := []) (r := (some (.int x18))) (h' := mk b S17) (ok' := true) C lkRX12_298 (qX12_hasBracket hq) (kX12_formula _ (List.mem_of_getElem? (i := 100) rfl)).1 ⟨_, _, rfl, rfl, Nat.le_of_ble_eq_true rfl, _, _, rfl, rfl, rfl⟩ (Nat.le_of_ble_eq_true rfl) (Nat.le_of_ble_eq_true rfl) (Nat.le_refl _) (Nat.le_refl _) (Nat.le_of_ble_eq_true rfl) ?_
    refine msegT C kX12_formula 101 1 (g := (true, (if x18 = 0 then 196 else 191), [.ref (187), .retAddr 0, .retAddr 0, .retAddr 0], [], mk b S17)) rfl rfl ?_
    by_cases hc : x18 = 0
    · rw [if_pos hc] at hf ⊢
      exact mfor (L' := [.ref (187), .retAddr 0, .retAddr 0, .retAddr 0]) ⟨Or.inr rfl, Or.inl rfl, Or.inl rfl, Or.inl rfl, trivial⟩ (bX12_formula_196 C hr hk hf true)
    · rw [if_neg hc] at hf ⊢
      refine msegT C kX12_formula 102 2 (g := (true, 193, [.ref (187), .retAddr 0, .retAddr 0, .retAddr 0], [.int (2 : Int32), .ref (187)], mk b S17)) rfl rfl ?_
      obtain ⟨S19, hq, hf⟩ := bndV_ex hf
      refine mcall (kd := 0) (vs := [.ref (187), .int (2 : Int32)]) (rest := []) (r := none) (h' := mk b S19) (ok' := true) C lkRX12_233 (qX12_wrong hq) (kX12_formula _ (List.mem_of_getElem? (i := 104) rfl)).1 ⟨_, _, rfl, rfl, Nat.le_of_ble_eq_true rfl, _, _, rfl, rfl, rfl⟩ (Nat.le_of_ble_eq_true rfl) (Nat.le_of_ble_eq_true rfl) (Nat.le_refl _) (Nat.le_refl _) (Nat.le_of_ble_eq_true rfl) ?_
      exact mfor (L' := [.ref (187), .retAddr 0, .retAddr 0, .retAddr 0]) ⟨Or.inr rfl, Or.inl rfl, Or.inl rfl, Or.inl rfl, trivial⟩ (bX12_formula_196 C hr hk hf true)
  · rw [if_neg hc] at hf ⊢
    exact mfor (L' := [.ref (187), .retAddr 0, .retAddr 0, .retAddr 0]) ⟨Or.inr rfl, Or.inl rfl, Or.inl rfl, Or.inl rfl, trivial⟩ (bX12_formula_196 C hr hk hf true)
theorem bX12_formula_50 (C : mCx p (mR 5) s m args meth c G cX12_formula RX12 4 false 233 54500 233 54500) (hr : meth.sig.returnType = none) (hk : meth.locks = false) {b : Bool} {S' : mT} : ∀ (k : Nat) (v2 : Int32) (S : mT), fX12_formula_50 k v2 S = some S' → ∀ ok : Bool, mW p l e (mR 5) s m args below meth c G 4 233 54500 (mQ below G args s b S' none) (ok, 50, [.ref (187), .retAddr 0, .int v2, .retAddr 0], [], mk b S) := by
  intro k
  induction k with
  | zero =>
    intro v2 S hf ok
    cases hf
  | succ k ih =>
    intro v2 S hf ok
    unfold fX12_formula_50 at hf
    refine msegT C kX12_formula 30 2 (g := (true, (if v2 = 0 then 177 else 54), [.ref (187), .retAddr 0, .int v2, .retAddr 0], [], mk b S)) rfl rfl ?_
    by_cases hc : v2 = 0
    · rw [if_pos hc] at hf ⊢
      exact mfor (L' := [.ref (187), .retAddr 0, .retAddr 0, .retAddr 0]) ⟨Or.inr rfl, Or.inl rfl, Or.inl rfl, Or.inl rfl, trivial⟩ (bX12_formula_177 C hr hk hf true)
    · rw [if_neg hc] at hf ⊢
      obtain ⟨hok, hf⟩ := grd_ex hf
      refine msegT C kX12_formula 32 3 (g := ((kO 187 12 && true), (if (S.1 187 2) = 0 then 61 else 177), [.ref (187), .retAddr 0, .int v2, .retAddr 0], [], mk b S)) rfl hok ?_
      by_cases hc : (S.1 187 2) = 0
      · rw [if_pos hc] at hf ⊢
        refine msegT C kX12_formula 35 1 (g := (true, 62, [.ref (187), .retAddr 0, .int v2, .retAddr 0], [.ref (187)], mk b S)) rfl rfl ?_
        obtain ⟨x10, S9, hq, hf⟩ := bndC_ex hf
        refine mcall (kd := 0) (vs := [.ref (187)]) (rest := []) (r := (some (.int x10))) (h' := mk b S9) (ok' := true) C lkRX12_295 (qX12_sign hq) (kX12_formula _ (List.mem_of_getElem? (i := 36) rfl)).1 ⟨_, _, rfl, rfl, Nat.le_of_ble_eq_true rfl, _, _, rfl, rfl, rfl⟩ (Nat.le_of_ble_eq_true rfl) (Nat.le_of_ble_eq_true rfl) (Nat.le_refl _) (Nat.le_refl _) (Nat.le_of_ble_eq_true rfl) ?_
        obtain ⟨hok, hf⟩ := grd_ex hf
        refine msegT C kX12_formula 37 5 (g := ((kO 187 12 && true), (if (S9.1 187 6) = (41 : Int32) then 75 else 114), [.ref (187), .retAddr 0, .int v2, .int x10], [], mk b S9)) rfl hok ?_
        by_cases hc : (S9.1 187 6) = (41 : Int32)
        · rw [if_pos hc] at hf ⊢
          refine msegT C kX12_formula 42 1 (g := (true, 76, [.ref (187), .retAddr 0, .int v2, .int x10], [.ref (187)], mk b S9)) rfl rfl ?_
          obtain ⟨x12, S11, hq, hf⟩ := bndC_ex hf
          refine mcall (kd := 0) (vs := [.ref (187)]) (rest := []) (r := (some (.int x12))) (h' := mk b S11) (ok' := true) C lkRX12_298 (qX12_hasBracket hq) (kX12_formula _ (List.mem_of_getElem? (i := 43) rfl)).1 ⟨_, _, rfl, rfl, Nat.le_of_ble_eq_true rfl, _, _, rfl, rfl, rfl⟩ (Nat.le_of_ble_eq_true rfl) (Nat.le_of_ble_eq_true rfl) (Nat.le_refl _) (Nat.le_refl _) (Nat.le_of_ble_eq_true rfl) ?_
          refine msegT C kX12_formula 44 1 (g := (true, (if x12 = 0 then 114 else 82), [.ref (187), .retAddr 0, .int v2, .int x10], [], mk b S11)) rfl rfl ?_
          by_cases hc : x12 = 0
          · rw [if_pos hc] at hf ⊢
            exact mfor (L' := [.ref (187), .retAddr 0, .int v2, .int x10]) ⟨Or.inr rfl, Or.inl rfl, Or.inr rfl, Or.inr rfl, trivial⟩ (bX12_formula_114 C hr hk ih hf true)
          · rw [if_neg hc] at hf ⊢
            refine msegT C kX12_formula 45 2 (g := (true, 84, [.ref (187), .retAddr 0, .int v2, .int x10], [.int (0 : Int32), .ref (187)], mk b S11)) rfl rfl ?_
            obtain ⟨S13, hq, hf⟩ := bndV_ex hf
            refine mcall (kd := 0) (vs := [.ref (187), .int (0 : Int32)]) (rest := []) (r := none) (h' := mk b S13) (ok' := true) C lkRX12_301 (qX12_close hq) (kX12_formula _ (List.mem_of_getElem? (i := 47) rfl)).1 ⟨_, _, rfl, rfl, Nat.le_of_ble_eq_true rfl, _, _, rfl, rfl, rfl⟩ (Nat.le_of_ble_eq_true rfl) (Nat.le_of_ble_eq_true rfl) (Nat.le_refl _) (Nat.le_refl _) (Nat.le_of_ble_eq_true rfl) ?_
            obtain ⟨hok, hf⟩ := grd_ex hf
            refine msegT C kX12_formula 48 6 (g := ((kO 187 12 && (kO 187 12 && true)), 97, [.ref (187), .retAddr 0, .int v2, .int x10], [], mk b (sI S13 187 22 ((S13.1 187 22) - (1 : Int32))))) rfl hok ?_
            obtain ⟨S14, eS14, hf⟩ := bnd_ex hf
            rw [← eS14]
            obtain ⟨hok, hf⟩ := grd_ex hf
            refine msegT C kX12_formula 54 6 (g := ((kO 187 12 && (kO 187 12 && true)), 107, [.ref (187), .retAddr 0, .int v2, .int x10], [], mk b (sI S14 187 26 ((S14.1 187 26) - (1 : Int32))))) rfl hok ?_
            obtain ⟨S15, eS15, hf⟩ := bnd_ex hf
            rw [← eS15]
            refine msegT C kX12_formula 60 1 (g := (true, 108, [.ref (187), .retAddr 0, .int v2, .int x10], [.ref (187)], mk b S15)) rfl rfl ?_
            obtain ⟨S16, hq, hf⟩ := bndV_ex hf
            refine mcall (kd := 0) (vs := [.ref (187)]) (rest := []) (r := none) (h' := mk b S16) (ok' := true) C lkRX12_236 (qX12_token hq) (kX12_formula _ (List.mem_of_getElem? (i := 61) rfl)).1 ⟨_, _, rfl, rfl, Nat.le_of_ble_eq_true rfl, _, _, rfl, rfl, rfl⟩ (Nat.le_of_ble_eq_true rfl) (Nat.le_of_ble_eq_true rfl) (Nat.le_refl _) (Nat.le_refl _) (Nat.le_of_ble_eq_true rfl) ?_
            refine msegT C kX12_formula 62 1 (g := (true, 174, [.ref (187), .retAddr 0, .int v2, .int x10], [], mk b S16)) rfl rfl ?_
            exact mfor (L' := [.ref (187), .retAddr 0, .int v2, .retAddr 0]) ⟨Or.inr rfl, Or.inl rfl, Or.inr rfl, Or.inl rfl, trivial⟩ (bX12_formula_174 C hr hk ih hf true)
        · rw [if_neg hc] at hf ⊢
          exact mfor (L' := [.ref (187), .retAddr 0, .int v2, .int x10]) ⟨Or.inr rfl, Or.inl rfl, Or.inr rfl, Or.inr rfl, trivial⟩ (bX12_formula_114 C hr hk ih hf true)
      · rw [if_neg hc] at hf ⊢
        exact mfor (L' := [.ref (187), .retAddr 0, .retAddr 0, .retAddr 0]) ⟨Or.inr rfl, Or.inl rfl, Or.inl rfl, Or.inl rfl, trivial⟩ (bX12_formula_177 C hr hk hf true)
theorem bX12_formula_0 (C : mCx p (mR 5) s m args meth c G cX12_formula RX12 4 false 233 54500 233 54500) (hr : meth.sig.returnType = none) (hk : meth.locks = false) {b : Bool} {S' : mT} {v1 : Int32} {S : mT} (hf : fX12_formula v1 S = some S') (ok : Bool) : mW p l e (mR 5) s m args below meth c G 4 233 54500 (mQ below G args s b S' none) (ok, 0, [.ref (187), .int v1, .retAddr 0, .retAddr 0], [], mk b S) := by
  unfold fX12_formula at hf
  refine msegT C kX12_formula 0 1 (g := (true, 1, [.ref (187), .int v1, .retAddr 0, .retAddr 0], [.ref (187)], mk b S)) rfl rfl ?_
  obtain ⟨S1, hq, hf⟩ := bndV_ex hf
  refine mcall (kd := 0) (vs := [.ref (187)]) (rest := []) (r := none) (h' := mk b S1) (ok' := true) C lkRX12_236 (qX12_token hq) (kX12_formula _ (List.mem_of_getElem? (i := 1) rfl)).1 ⟨_, _, rfl, rfl, Nat.le_of_ble_eq_true rfl, _, _, rfl, rfl, rfl⟩ (Nat.le_of_ble_eq_true rfl) (Nat.le_of_ble_eq_true rfl) (Nat.le_refl _) (Nat.le_refl _) (Nat.le_of_ble_eq_true rfl) ?_
  obtain ⟨hok, hf⟩ := grd_ex hf
  refine msegT C kX12_formula 2 3 (g := ((kO 187 12 && true), 9, [.ref (187), .int v1, .retAddr 0, .retAddr 0], [], mk b (sI S1 187 21 v1))) rfl hok ?_
  obtain ⟨S2, eS2, hf⟩ := bnd_ex hf
  rw [← eS2]
  obtain ⟨hok, hf⟩ := grd_ex hf
  refine msegT C kX12_formula 5 6 (g := ((kB 198 (S2.1 187 21) && (kO 187 12 && (kO 187 12 && true))), 19, [.ref (187), .int v1, .retAddr 0, .retAddr 0], [], mk b (sI S2 198 (mIx (S2.1 187 21)) (kN 198 (1 : Int32))))) rfl hok ?_
  obtain ⟨S3, eS3, hf⟩ := bnd_ex hf
  rw [← eS3]
  obtain ⟨hok, hf⟩ := grd_ex hf
  refine msegT C kX12_formula 11 6 (g := ((kI 192 (S3.1 187 21) && (kO 187 12 && (kO 187 12 && true))), 29, [.ref (187), .int v1, .retAddr 0, .retAddr 0], [], mk b (sI S3 192 (mIx (S3.1 187 21)) (0 : Int32)))) rfl hok ?_
  obtain ⟨S4, eS4, hf⟩ := bnd_ex hf
  rw [← eS4]
  obtain ⟨hok, hf⟩ := grd_ex hf
  refine msegT C kX12_formula 17 3 (g := ((kO 187 12 && true), 34, [.ref (187), .int v1, .retAddr 0, .retAddr 0], [], mk b (sI S4 187 22 (0 : Int32)))) rfl hok ?_
  obtain ⟨S5, eS5, hf⟩ := bnd_ex hf
  rw [← eS5]
  obtain ⟨hok, hf⟩ := grd_ex hf
  refine msegT C kX12_formula 20 3 (g := ((kO 187 12 && true), 39, [.ref (187), .int v1, .retAddr 0, .retAddr 0], [], mk b (sI S5 187 26 (0 : Int32)))) rfl hok ?_
  obtain ⟨S6, eS6, hf⟩ := bnd_ex hf
  rw [← eS6]
  obtain ⟨hok, hf⟩ := grd_ex hf
  refine msegT C kX12_formula 23 3 (g := ((kO 187 12 && true), 44, [.ref (187), .int v1, .retAddr 0, .retAddr 0], [], mk b (sI S6 187 25 (0 : Int32)))) rfl hok ?_
  obtain ⟨S7, eS7, hf⟩ := bnd_ex hf
  rw [← eS7]
  refine msegT C kX12_formula 26 1 (g := (true, 45, [.ref (187), .int v1, .retAddr 0, .retAddr 0], [.ref (187)], mk b S7)) rfl rfl ?_
  obtain ⟨S8, hq, hf⟩ := bndV_ex hf
  refine mcall (kd := 0) (vs := [.ref (187)]) (rest := []) (r := none) (h' := mk b S8) (ok' := true) C lkRX12_292 (qX12_unit hq) (kX12_formula _ (List.mem_of_getElem? (i := 27) rfl)).1 ⟨_, _, rfl, rfl, Nat.le_of_ble_eq_true rfl, _, _, rfl, rfl, rfl⟩ (Nat.le_of_ble_eq_true rfl) (Nat.le_of_ble_eq_true rfl) (Nat.le_refl _) (Nat.le_refl _) (Nat.le_of_ble_eq_true rfl) ?_
  refine msegT C kX12_formula 28 2 (g := (true, 50, [.ref (187), .int v1, .int (1 : Int32), .retAddr 0], [], mk b S8)) rfl rfl ?_
  exact mfor (L' := [.ref (187), .retAddr 0, .int (1 : Int32), .retAddr 0]) ⟨Or.inr rfl, Or.inl rfl, Or.inr rfl, Or.inl rfl, trivial⟩ (bX12_formula_50 C hr hk _ _ _ hf true)
theorem qX12_formula {b : Bool} {v1 : Int32} {S S' : mT} (hf : fX12_formula v1 S = some S') : mOk l mX12_formula 5 [.ref (187), .int v1] b S none S' :=
  gMet (by decide) (Nat.le_of_ble_eq_true rfl) rfl (Nat.le_of_ble_eq_true rfl) (fun p e s m args below meth c G C hr hk => bX12_formula_0 C hr hk hf true)
theorem bX12_keep_2 (C : mCx p (mR 1) s m args meth c G cX12_keep RX12 2 false 233 54500 233 54500) (hr : meth.sig.returnType = none) (hk : meth.locks = false) {b : Bool} {S' : mT} : ∀ (k : Nat) (v1 : Int32) (S : mT), fX12_keep_2 k v1 S = some S' → ∀ ok : Bool, mW p l e (mR 1) s m args below meth c G 2 233 54500 (mQ below G args s b S' none) (ok, 2, [.ref (187), .int v1], [], mk b S) := by
  intro k
  induction k with
  | zero =>
    intro v1 S hf ok
    cases hf
  | succ k ih =>
    intro v1 S hf ok
    unfold fX12_keep_2 at hf
    refine msegT C kX12_keep 2 3 (g := (true, (if (5 : Int32) ≤ v1 then 54 else 7), [.ref (187), .int v1], [], mk b S)) rfl rfl ?_
    by_cases hc : (5 : Int32) ≤ v1
    · rw [if_pos hc] at hf ⊢
      obtain ⟨hok, hf⟩ := grd_ex hf
      refine msegT C kX12_keep 35 6 (g := ((kI 208 (15 : Int32) && (kO 187 12 && (kO 187 12 && true))), 65, [.ref (187), .int v1], [], mk b (sI S 208 (mIx (15 : Int32)) (S.1 187 43)))) rfl hok ?_
      obtain ⟨S1, eS1, hf⟩ := bnd_ex hf
      rw [← eS1]
      obtain ⟨hok, hf⟩ := grd_ex hf
      refine msegT C kX12_keep 41 6 (g := ((kI 208 (16 : Int32) && (kO 187 12 && (kO 187 12 && true))), 76, [.ref (187), .int v1], [], mk b (sI S1 208 (mIx (16 : Int32)) (S1.1 187 44)))) rfl hok ?_
      obtain ⟨S2, eS2, hf⟩ := bnd_ex hf
      rw [← eS2]
      cases hf
      exact gret_v C hr hk (kX12_keep _ (List.mem_of_getElem? (i := 47) rfl)).1
    · rw [if_neg hc] at hf ⊢
      obtain ⟨hok, hf⟩ := grd_ex hf
      refine msegT C kX12_keep 5 8 (g := ((kI 208 v1 && (kI 209 v1 && (kO 187 12 && (kO 187 12 && true)))), 19, [.ref (187), .int v1], [], mk b (sI S 208 (mIx v1) (S.1 209 (mIx v1))))) rfl hok ?_
      obtain ⟨S3, eS3, hf⟩ := bnd_ex hf
      rw [← eS3]
      obtain ⟨hok, hf⟩ := grd_ex hf
      refine msegT C kX12_keep 13 10 (g := ((kI 208 ((5 : Int32) + v1) && (kI 210 v1 && (kO 187 12 && (kO 187 12 && true)))), 33, [.ref (187), .int v1], [], mk b (sI S3 208 (mIx ((5 : Int32) + v1)) (S3.1 210 (mIx v1))))) rfl hok ?_
      obtain ⟨S4, eS4, hf⟩ := bnd_ex hf
      rw [← eS4]
      obtain ⟨hok, hf⟩ := grd_ex hf
      refine msegT C kX12_keep 23 10 (g := ((kI 208 ((10 : Int32) + v1) && (kI 211 v1 && (kO 187 12 && (kO 187 12 && true)))), 48, [.ref (187), .int v1], [], mk b (sI S4 208 (mIx ((10 : Int32) + v1)) (S4.1 211 (mIx v1))))) rfl hok ?_
      obtain ⟨S5, eS5, hf⟩ := bnd_ex hf
      rw [← eS5]
      refine msegT C kX12_keep 33 1 (g := (true, 51, [.ref (187), .int (v1 + (1 : Int32))], [], mk b S5)) rfl rfl ?_
      obtain ⟨x6, ex6, hf⟩ := bnd_ex hf
      rw [← ex6]
      refine msegT C kX12_keep 34 1 (g := (true, 2, [.ref (187), .int x6], [], mk b S5)) rfl rfl ?_
      exact mfor (L' := [.ref (187), .int x6]) ⟨Or.inr rfl, Or.inr rfl, trivial⟩ (ih _ _ hf true)
theorem bX12_keep_0 (C : mCx p (mR 1) s m args meth c G cX12_keep RX12 2 false 233 54500 233 54500) (hr : meth.sig.returnType = none) (hk : meth.locks = false) {b : Bool} {S' : mT} {S : mT} (hf : fX12_keep S = some S') (ok : Bool) : mW p l e (mR 1) s m args below meth c G 2 233 54500 (mQ below G args s b S' none) (ok, 0, [.ref (187), .retAddr 0], [], mk b S) := by
  unfold fX12_keep at hf
  refine msegT C kX12_keep 0 2 (g := (true, 2, [.ref (187), .int (0 : Int32)], [], mk b S)) rfl rfl ?_
  exact mfor (L' := [.ref (187), .int (0 : Int32)]) ⟨Or.inr rfl, Or.inr rfl, trivial⟩ (bX12_keep_2 C hr hk _ _ _ hf true)
theorem qX12_keep {b : Bool} {S S' : mT} (hf : fX12_keep S = some S') : mOk l mX12_keep 1 [.ref (187)] b S none S' :=
  gMet (by decide) (Nat.le_of_ble_eq_true rfl) rfl (Nat.le_of_ble_eq_true rfl) (fun p e s m args below meth c G C hr hk => bX12_keep_0 C hr hk hf true)
theorem bX12_leaves_0 (C : mCx p (mR 2) s m args meth c G cX12_leaves RX12 2 false 233 54500 233 54500) (hr : meth.sig.returnType = none) (hk : meth.locks = false) {b : Bool} {S' : mT} {v1 : Int32} {S : mT} (hf : fX12_leaves v1 S = some S') (ok : Bool) : mW p l e (mR 2) s m args below meth c G 2 233 54500 (mQ below G args s b S' none) (ok, 0, [.ref (187), .int v1], [], mk b S) := by
  unfold fX12_leaves at hf
  refine msegT C kX12_leaves 0 1 (g := (true, 1, [.ref (187), .int v1], [.ref (187)], mk b S)) rfl rfl ?_
  obtain ⟨S1, hq, hf⟩ := bndV_ex hf
  refine mcall (kd := 0) (vs := [.ref (187)]) (rest := []) (r := none) (h' := mk b S1) (ok' := true) C lkRX12_391 (qX12_load hq) (kX12_leaves _ (List.mem_of_getElem? (i := 1) rfl)).1 ⟨_, _, rfl, rfl, Nat.le_of_ble_eq_true rfl, _, _, rfl, rfl, rfl⟩ (Nat.le_of_ble_eq_true rfl) (Nat.le_of_ble_eq_true rfl) (Nat.le_refl _) (Nat.le_refl _) (Nat.le_of_ble_eq_true rfl) ?_
  obtain ⟨hok, hf⟩ := grd_ex hf
  refine msegT C kX12_leaves 2 8 (g := ((kI 209 v1 && (kI 209 v1 && (kO 187 12 && true))), 14, [.ref (187), .int v1], [], mk b (sI S1 209 (mIx v1) ((S1.1 209 (mIx v1)) - (1 : Int32))))) rfl hok ?_
  obtain ⟨S2, eS2, hf⟩ := bnd_ex hf
  rw [← eS2]
  refine msegT C kX12_leaves 10 2 (g := (true, 16, [.ref (187), .int v1], [.int v1, .ref (187)], mk b S2)) rfl rfl ?_
  obtain ⟨S3, hq, hf⟩ := bndV_ex hf
  refine mcall (kd := 0) (vs := [.ref (187), .int v1]) (rest := []) (r := none) (h' := mk b S3) (ok' := true) C lkRX12_385 (qX12_notMoreHidden hq) (kX12_leaves _ (List.mem_of_getElem? (i := 12) rfl)).1 ⟨_, _, rfl, rfl, Nat.le_of_ble_eq_true rfl, _, _, rfl, rfl, rfl⟩ (Nat.le_of_ble_eq_true rfl) (Nat.le_of_ble_eq_true rfl) (Nat.le_refl _) (Nat.le_refl _) (Nat.le_of_ble_eq_true rfl) ?_
  refine msegT C kX12_leaves 13 1 (g := (true, 20, [.ref (187), .int v1], [.ref (187)], mk b S3)) rfl rfl ?_
  obtain ⟨S4, hq, hf⟩ := bndV_ex hf
  refine mcall (kd := 0) (vs := [.ref (187)]) (rest := []) (r := none) (h' := mk b S4) (ok' := true) C lkRX12_406 (qX12_keep hq) (kX12_leaves _ (List.mem_of_getElem? (i := 14) rfl)).1 ⟨_, _, rfl, rfl, Nat.le_of_ble_eq_true rfl, _, _, rfl, rfl, rfl⟩ (Nat.le_of_ble_eq_true rfl) (Nat.le_of_ble_eq_true rfl) (Nat.le_refl _) (Nat.le_refl _) (Nat.le_of_ble_eq_true rfl) ?_
  cases hf
  exact gret_v C hr hk (kX12_leaves _ (List.mem_of_getElem? (i := 15) rfl)).1
theorem qX12_leaves {b : Bool} {v1 : Int32} {S S' : mT} (hf : fX12_leaves v1 S = some S') : mOk l mX12_leaves 2 [.ref (187), .int v1] b S none S' :=
  gMet (by decide) (Nat.le_of_ble_eq_true rfl) rfl (Nat.le_of_ble_eq_true rfl) (fun p e s m args below meth c G C hr hk => bX12_leaves_0 C hr hk hf true)
theorem bX12_goes_17 (C : mCx p (mR 3) s m args meth c G cX12_goes RX12 2 false 233 54500 233 54500) (hr : meth.sig.returnType = (some .int)) (hk : meth.locks = false) {b : Bool} {S' : mT} {r : Int32} {S : mT} (hf : fX12_goes_17 S = some (r, S')) (ok : Bool) : mW p l e (mR 3) s m args below meth c G 2 233 54500 (mQ below G args s b S' (some (.int r))) (ok, 17, [.retAddr 0, .retAddr 0], [], mk b S) := by
  unfold fX12_goes_17 at hf
  refine msegT C kX12_goes 9 1 (g := (true, 18, [.retAddr 0, .retAddr 0], [.int (-1 : Int32)], mk b S)) rfl rfl ?_
  cases hf
  exact gret_i C hr hk (kX12_goes _ (List.mem_of_getElem? (i := 10) rfl)).1
theorem bX12_goes_0 (C : mCx p (mR 3) s m args meth c G cX12_goes RX12 2 false 233 54500 233 54500) (hr : meth.sig.returnType = (some .int)) (hk : meth.locks = false) {b : Bool} {S' : mT} {r : Int32} {v1 : Int32} {S : mT} (hf : fX12_goes v1 S = some (r, S')) (ok : Bool) : mW p l e (mR 3) s m args below meth c G 2 233 54500 (mQ below G args s b S' (some (.int r))) (ok, 0, [.ref (187), .int v1], [], mk b S) := by
  unfold fX12_goes at hf
  refine msegT C kX12_goes 0 2 (g := (true, 2, [.ref (187), .int v1], [.int v1, .ref (187)], mk b S)) rfl rfl ?_
  obtain ⟨x2, S1, hq, hf⟩ := bndC_ex hf
  refine mcall (kd := 0) (vs := [.ref (187), .int v1]) (rest := []) (r := (some (.int x2))) (h' := mk b S1) (ok' := true) C lkRX12_388 (qX12_isHouse hq) (kX12_goes _ (List.mem_of_getElem? (i := 2) rfl)).1 ⟨_, _, rfl, rfl, Nat.le_of_ble_eq_true rfl, _, _, rfl, rfl, rfl⟩ (Nat.le_of_ble_eq_true rfl) (Nat.le_of_ble_eq_true rfl) (Nat.le_refl _) (Nat.le_refl _) (Nat.le_of_ble_eq_true rfl) ?_
  refine msegT C kX12_goes 3 1 (g := (true, (if x2 = 0 then 17 else 8), [.ref (187), .int v1], [], mk b S1)) rfl rfl ?_
  by_cases hc : x2 = 0
  · rw [if_pos hc] at hf ⊢
    exact mfor (L' := [.retAddr 0, .retAddr 0]) ⟨Or.inl rfl, Or.inl rfl, trivial⟩ (bX12_goes_17 C hr hk hf true)
  · rw [if_neg hc] at hf ⊢
    obtain ⟨hok, hf⟩ := grd_ex hf
    refine msegT C kX12_goes 4 5 (g := ((kI 208 v1 && (kO 187 12 && true)), (if (S1.1 208 (mIx v1)) = 0 then 17 else 19), [.ref (187), .int v1], [], mk b S1)) rfl hok ?_
    by_cases hc : (S1.1 208 (mIx v1)) = 0
    · rw [if_pos hc] at hf ⊢
      exact mfor (L' := [.retAddr 0, .retAddr 0]) ⟨Or.inl rfl, Or.inl rfl, trivial⟩ (bX12_goes_17 C hr hk hf true)
    · rw [if_neg hc] at hf ⊢
      refine msegT C kX12_goes 11 1 (g := (true, 20, [.ref (187), .int v1], [.ref (187)], mk b S1)) rfl rfl ?_
      obtain ⟨S3, hq, hf⟩ := bndV_ex hf
      refine mcall (kd := 0) (vs := [.ref (187)]) (rest := []) (r := none) (h' := mk b S3) (ok' := true) C lkRX12_403 (qX12_act hq) (kX12_goes _ (List.mem_of_getElem? (i := 12) rfl)).1 ⟨_, _, rfl, rfl, Nat.le_of_ble_eq_true rfl, _, _, rfl, rfl, rfl⟩ (Nat.le_of_ble_eq_true rfl) (Nat.le_of_ble_eq_true rfl) (Nat.le_refl _) (Nat.le_refl _) (Nat.le_of_ble_eq_true rfl) ?_
      refine msegT C kX12_goes 13 2 (g := (true, 25, [.ref (187), .int v1], [.int v1, .ref (187)], mk b S3)) rfl rfl ?_
      obtain ⟨S4, hq, hf⟩ := bndV_ex hf
      refine mcall (kd := 0) (vs := [.ref (187), .int v1]) (rest := []) (r := none) (h' := mk b S4) (ok' := true) C lkRX12_409 (qX12_leaves hq) (kX12_goes _ (List.mem_of_getElem? (i := 15) rfl)).1 ⟨_, _, rfl, rfl, Nat.le_of_ble_eq_true rfl, _, _, rfl, rfl, rfl⟩ (Nat.le_of_ble_eq_true rfl) (Nat.le_of_ble_eq_true rfl) (Nat.le_refl _) (Nat.le_refl _) (Nat.le_of_ble_eq_true rfl) ?_
      obtain ⟨hok, hf⟩ := grd_ex hf
      refine msegT C kX12_goes 16 4 (g := ((kI 208 v1 && (kO 187 12 && true)), 34, [.ref (187), .int v1], [.int (S4.1 208 (mIx v1))], mk b S4)) rfl hok ?_
      cases hf
      exact gret_i C hr hk (kX12_goes _ (List.mem_of_getElem? (i := 20) rfl)).1
theorem qX12_goes {b : Bool} {v1 : Int32} {S S' : mT} {r : Int32} (hf : fX12_goes v1 S = some (r, S')) : mOk l mX12_goes 3 [.ref (187), .int v1] b S (some (.int r)) S' :=
  gMet (by decide) (Nat.le_of_ble_eq_true rfl) rfl (Nat.le_of_ble_eq_true rfl) (fun p e s m args below meth c G C hr hk => bX12_goes_0 C hr hk hf true)
theorem bX12_headOf_0 (C : mCx p (mR 1) s m args meth c G cX12_headOf RX12 3 false 233 54500 233 54500) (hr : meth.sig.returnType = (some .int)) (hk : meth.locks = false) {b : Bool} {S' : mT} {r : Int32} {v1 : Int32} {v2 : Int32} {S : mT} (hf : fX12_headOf v1 v2 S = some (r, S')) (ok : Bool) : mW p l e (mR 1) s m args below meth c G 3 233 54500 (mQ below G args s b S' (some (.int r))) (ok, 0, [.ref (187), .int v1, .int v2], [], mk b S) := by
  unfold fX12_headOf at hf
  obtain ⟨hok, hf⟩ := grd_ex hf
  refine msegT C kX12_headOf 0 10 (g := ((kO 187 12 && true), 12, [.ref (187), .int v1, .int v2], [.int (v1 >>> (((3 : Int32) * (((S.1 187 37) - (1 : Int32)) - v2)) &&& 31))], mk b S)) rfl hok ?_
  refine msegT C kX12_headOf 10 2 (g := (true, 15, [.ref (187), .int v1, .int v2], [.int ((v1 >>> (((3 : Int32) * (((S.1 187 37) - (1 : Int32)) - v2)) &&& 31)) &&& (7 : Int32))], mk b S)) rfl rfl ?_
  cases hf
  exact gret_i C hr hk (kX12_headOf _ (List.mem_of_getElem? (i := 12) rfl)).1
theorem qX12_headOf {b : Bool} {v1 : Int32} {v2 : Int32} {S S' : mT} {r : Int32} (hf : fX12_headOf v1 v2 S = some (r, S')) : mOk l mX12_headOf 1 [.ref (187), .int v1, .int v2] b S (some (.int r)) S' :=
  gMet (by decide) (Nat.le_of_ble_eq_true rfl) rfl (Nat.le_of_ble_eq_true rfl) (fun p e s m args below meth c G C hr hk => bX12_headOf_0 C hr hk hf true)
theorem bX12_hide_22 (C : mCx p (mR 3) s m args meth c G cX12_hide RX12 4 false 233 54500 233 54500) (hr : meth.sig.returnType = (some .int)) (hk : meth.locks = false) {b : Bool} {S' : mT} {r : Int32} {S : mT} (hf : fX12_hide_22 S = some (r, S')) (ok : Bool) : mW p l e (mR 3) s m args below meth c G 4 233 54500 (mQ below G args s b S' (some (.int r))) (ok, 22, [.retAddr 0, .retAddr 0, .retAddr 0, .retAddr 0], [], mk b S) := by
  unfold fX12_hide_22 at hf
  refine msegT C kX12_hide 12 1 (g := (true, 23, [.retAddr 0, .retAddr 0, .retAddr 0, .retAddr 0], [.int (-1 : Int32)], mk b S)) rfl rfl ?_
  cases hf
  exact gret_i C hr hk (kX12_hide _ (List.mem_of_getElem? (i := 13) rfl)).1
theorem bX12_hide_0 (C : mCx p (mR 3) s m args meth c G cX12_hide RX12 4 false 233 54500 233 54500) (hr : meth.sig.returnType = (some .int)) (hk : meth.locks = false) {b : Bool} {S' : mT} {r : Int32} {v1 : Int32} {v2 : Int32} {S : mT} (hf : fX12_hide v1 v2 S = some (r, S')) (ok : Bool) : mW p l e (mR 3) s m args below meth c G 4 233 54500 (mQ below G args s b S' (some (.int r))) (ok, 0, [.ref (187), .int v1, .int v2, .retAddr 0], [], mk b S) := by
  unfold fX12_hide at hf
  refine msegT C kX12_hide 0 2 (g := (true, 2, [.ref (187), .int v1, .int v2, .retAddr 0], [.int v1, .ref (187)], mk b S)) rfl rfl ?_
  obtain ⟨x2, S1, hq, hf⟩ := bndC_ex hf
  refine mcall (kd := 0) (vs := [.ref (187), .int v1]) (rest := []) (r := (some (.int x2))) (h' := mk b S1) (ok' := true) C lkRX12_388 (qX12_isHouse hq) (kX12_hide _ (List.mem_of_getElem? (i := 2) rfl)).1 ⟨_, _, rfl, rfl, Nat.le_of_ble_eq_true rfl, _, _, rfl, rfl, rfl⟩ (Nat.le_of_ble_eq_true rfl) (Nat.le_of_ble_eq_true rfl) (Nat.le_refl _) (Nat.le_refl _) (Nat.le_of_ble_eq_true rfl) ?_
  refine msegT C kX12_hide 3 1 (g := (true, (if x2 = 0 then 22 else 8), [.ref (187), .int v1, .int v2, .retAddr 0], [], mk b S1)) rfl rfl ?_
  by_cases hc : x2 = 0
  · rw [if_pos hc] at hf ⊢
    exact mfor (L' := [.retAddr 0, .retAddr 0, .retAddr 0, .retAddr 0]) ⟨Or.inl rfl, Or.inl rfl, Or.inl rfl, Or.inl rfl, trivial⟩ (bX12_hide_22 C hr hk hf true)
  · rw [if_neg hc] at hf ⊢
    obtain ⟨hok, hf⟩ := grd_ex hf
    refine msegT C kX12_hide 4 6 (g := ((kI 208 v1 && (kO 187 12 && true)), 16, [.ref (187), .int v1, .int v2, .retAddr 0], [.int (S1.1 208 (mIx v1)), .int (0 : Int32), .int v2], mk b S1)) rfl hok ?_
    obtain ⟨x4, S3, hq, hf⟩ := bndC_ex hf
    refine mcall (kd := 1) (vs := [.int v2, .int (0 : Int32), .int (S1.1 208 (mIx v1))]) (rest := []) (r := (some (.int x4))) (h' := mk b S3) (ok' := true) C lkRX12_362 (qX12_isIn hq) (kX12_hide _ (List.mem_of_getElem? (i := 10) rfl)).1 rfl (Nat.le_of_ble_eq_true rfl) (Nat.le_of_ble_eq_true rfl) (Nat.le_refl _) (Nat.le_refl _) (Nat.le_of_ble_eq_true rfl) ?_
    refine msegT C kX12_hide 11 1 (g := (true, (if x4 = 0 then 22 else 24), [.ref (187), .int v1, .int v2, .retAddr 0], [], mk b S3)) rfl rfl ?_
    by_cases hc : x4 = 0
    · rw [if_pos hc] at hf ⊢
      exact mfor (L' := [.retAddr 0, .retAddr 0, .retAddr 0, .retAddr 0]) ⟨Or.inl rfl, Or.inl rfl, Or.inl rfl, Or.inl rfl, trivial⟩ (bX12_hide_22 C hr hk hf true)
    · rw [if_neg hc] at hf ⊢
      refine msegT C kX12_hide 14 1 (g := (true, 25, [.ref (187), .int v1, .int v2, .retAddr 0], [.ref (187)], mk b S3)) rfl rfl ?_
      obtain ⟨S5, hq, hf⟩ := bndV_ex hf
      refine mcall (kd := 0) (vs := [.ref (187)]) (rest := []) (r := none) (h' := mk b S5) (ok' := true) C lkRX12_403 (qX12_act hq) (kX12_hide _ (List.mem_of_getElem? (i := 15) rfl)).1 ⟨_, _, rfl, rfl, Nat.le_of_ble_eq_true rfl, _, _, rfl, rfl, rfl⟩ (Nat.le_of_ble_eq_true rfl) (Nat.le_of_ble_eq_true rfl) (Nat.le_refl _) (Nat.le_refl _) (Nat.le_of_ble_eq_true rfl) ?_
      obtain ⟨hok, hf⟩ := grd_ex hf
      refine msegT C kX12_hide 16 7 (g := ((kI 208 ((5 : Int32) + v1) && (kO 187 12 && true)), 37, [.ref (187), .int v1, .int v2, .int (S5.1 208 (mIx ((5 : Int32) + v1)))], [], mk b S5)) rfl hok ?_
      obtain ⟨x6, ex6, hf⟩ := bnd_ex hf
      rw [← ex6]
      obtain ⟨hok, hf⟩ := grd_ex hf
      refine msegT C kX12_hide 23 7 (g := ((kI 208 ((5 : Int32) + v1) && (kO 187 12 && true)), 46, [.ref (187), .int v1, .int v2, .int x6], [], mk b (sI S5 208 (mIx ((5 : Int32) + v1)) v2))) rfl hok ?_
      obtain ⟨S7, eS7, hf⟩ := bnd_ex hf
      rw [← eS7]
      refine msegT C kX12_hide 30 1 (g := (true, 47, [.ref (187), .int v1, .int v2, .int x6], [.int x6], mk b S7)) rfl rfl ?_
      cases hf
      exact gret_i C hr hk (kX12_hide _ (List.mem_of_getElem? (i := 31) rfl)).1
theorem qX12_hide {b : Bool} {v1 : Int32} {v2 : Int32} {S S' : mT} {r : Int32} (hf : fX12_hide v1 v2 S = some (r, S')) : mOk l mX12_hide 3 [.ref (187), .int v1, .int v2] b S (some (.int r)) S' :=
  gMet (by decide) (Nat.le_of_ble_eq_true rfl) rfl (Nat.le_of_ble_eq_true rfl) (fun p e s m args below meth c G C hr hk => bX12_hide_0 C hr hk hf true)
theorem bX12_shows_19 (C : mCx p (mR 5) s m args meth c G cX12_shows RX12 2 false 233 54500 233 54500) (hr : meth.sig.returnType = (some .boolean)) (hk : meth.locks = false) {b : Bool} {S' : mT} {r : Int32} {s0 : Int32} {S : mT} (hf : fX12_shows_19 s0 S = some (r, S')) (ok : Bool) : mW p l e (mR 5) s m args below meth c G 2 233 54500 (mQ below G args s b S' (some (.int r))) (ok, 19, [.retAddr 0, .retAddr 0], [.int s0], mk b S) := by
  unfold fX12_shows_19 at hf
  obtain ⟨hz, hf⟩ := grd_ex hf
  cases hf
  exact gret_z C hr hk (mFit_nar hz) (kX12_shows _ (List.mem_of_getElem? (i := 11) rfl)).1
theorem bX12_shows_0 (C : mCx p (mR 5) s m args meth c G cX12_shows RX12 2 false 233 54500 233 54500) (hr : meth.sig.returnType = (some .boolean)) (hk : meth.locks = false) {b : Bool} {S' : mT} {r : Int32} {v1 : Int32} {S : mT} (hf : fX12_shows v1 S = some (r, S')) (ok : Bool) : mW p l e (mR 5) s m args below meth c G 2 233 54500 (mQ below G args s b S' (some (.int r))) (ok, 0, [.ref (187), .int v1], [], mk b S) := by
  unfold fX12_shows at hf
  refine msegT C kX12_shows 0 2 (g := (true, 2, [.ref (187), .int v1], [.int v1, .ref (187)], mk b S)) rfl rfl ?_
  obtain ⟨x2, S1, hq, hf⟩ := bndC_ex hf
  refine mcall (kd := 0) (vs := [.ref (187), .int v1]) (rest := []) (r := (some (.int x2))) (h' := mk b S1) (ok' := true) C lkRX12_382 (qX12_stonesOf hq) (kX12_shows _ (List.mem_of_getElem? (i := 2) rfl)).1 ⟨_, _, rfl, rfl, Nat.le_of_ble_eq_true rfl, _, _, rfl, rfl, rfl⟩ (Nat.le_of_ble_eq_true rfl) (Nat.le_of_ble_eq_true rfl) (Nat.le_refl _) (Nat.le_refl _) (Nat.le_of_ble_eq_true rfl) ?_
  obtain ⟨hok, hf⟩ := grd_ex hf
  refine msegT C kX12_shows 3 5 (g := ((kI 206 v1 && (kO 187 12 && true)), (if (S1.1 206 (mIx v1)) ≤ x2 then 18 else 14), [.ref (187), .int v1], [], mk b S1)) rfl hok ?_
  by_cases hc : (S1.1 206 (mIx v1)) ≤ x2
  · rw [if_pos hc] at hf ⊢
    refine msegT C kX12_shows 10 1 (g := (true, 19, [.ref (187), .int v1], [.int (0 : Int32)], mk b S1)) rfl rfl ?_
    exact mfor (L' := [.retAddr 0, .retAddr 0]) ⟨Or.inl rfl, Or.inl rfl, trivial⟩ (bX12_shows_19 C hr hk hf true)
  · rw [if_neg hc] at hf ⊢
    refine msegT C kX12_shows 8 2 (g := (true, 19, [.ref (187), .int v1], [.int (1 : Int32)], mk b S1)) rfl rfl ?_
    exact mfor (L' := [.retAddr 0, .retAddr 0]) ⟨Or.inl rfl, Or.inl rfl, trivial⟩ (bX12_shows_19 C hr hk hf true)
theorem qX12_shows {b : Bool} {v1 : Int32} {S S' : mT} {r : Int32} (hf : fX12_shows v1 S = some (r, S')) : mOk l mX12_shows 5 [.ref (187), .int v1] b S (some (.int r)) S' :=
  gMet (by decide) (Nat.le_of_ble_eq_true rfl) rfl (Nat.le_of_ble_eq_true rfl) (fun p e s m args below meth c G C hr hk => bX12_shows_0 C hr hk hf true)
theorem bX12_house_0 (C : mCx p (mR 6) s m args meth c G cX12_house RX12 3 false 233 54500 233 54500) (hr : meth.sig.returnType = (some .int)) (hk : meth.locks = false) {b : Bool} {S' : mT} {r : Int32} {v1 : Int32} {v2 : Int32} {S : mT} (hf : fX12_house v1 v2 S = some (r, S')) (ok : Bool) : mW p l e (mR 6) s m args below meth c G 3 233 54500 (mQ below G args s b S' (some (.int r))) (ok, 0, [.ref (187), .int v1, .int v2], [], mk b S) := by
  unfold fX12_house at hf
  refine msegT C kX12_house 0 2 (g := (true, 2, [.ref (187), .int v1, .int v2], [.int v1, .ref (187)], mk b S)) rfl rfl ?_
  obtain ⟨x2, S1, hq, hf⟩ := bndC_ex hf
  refine mcall (kd := 0) (vs := [.ref (187), .int v1]) (rest := []) (r := (some (.int x2))) (h' := mk b S1) (ok' := true) C lkRX12_388 (qX12_isHouse hq) (kX12_house _ (List.mem_of_getElem? (i := 2) rfl)).1 ⟨_, _, rfl, rfl, Nat.le_of_ble_eq_true rfl, _, _, rfl, rfl, rfl⟩ (Nat.le_of_ble_eq_true rfl) (Nat.le_of_ble_eq_true rfl) (Nat.le_refl _) (Nat.le_refl _) (Nat.le_of_ble_eq_true rfl) ?_
  refine msegT C kX12_house 3 1 (g := (true, (if x2 = 0 then 8 else 10), [.ref (187), .int v1, .int v2], [], mk b S1)) rfl rfl ?_
  by_cases hc : x2 = 0
  · rw [if_pos hc] at hf ⊢
    refine msegT C kX12_house 4 1 (g := (true, 9, [.ref (187), .int v1, .int v2], [.int (-1 : Int32)], mk b S1)) rfl rfl ?_
    cases hf
    exact gret_i C hr hk (kX12_house _ (List.mem_of_getElem? (i := 5) rfl)).1
  · rw [if_neg hc] at hf ⊢
    refine msegT C kX12_house 6 1 (g := (true, 11, [.ref (187), .int v1, .int v2], [.ref (187)], mk b S1)) rfl rfl ?_
    obtain ⟨S3, hq, hf⟩ := bndV_ex hf
    refine mcall (kd := 0) (vs := [.ref (187)]) (rest := []) (r := none) (h' := mk b S3) (ok' := true) C lkRX12_391 (qX12_load hq) (kX12_house _ (List.mem_of_getElem? (i := 7) rfl)).1 ⟨_, _, rfl, rfl, Nat.le_of_ble_eq_true rfl, _, _, rfl, rfl, rfl⟩ (Nat.le_of_ble_eq_true rfl) (Nat.le_of_ble_eq_true rfl) (Nat.le_refl _) (Nat.le_refl _) (Nat.le_of_ble_eq_true rfl) ?_
    refine msegT C kX12_house 8 2 (g := (true, (if v2 = (0 : Int32) then 68 else (if v2 = (1 : Int32) then 75 else (if v2 = (2 : Int32) then 82 else (if v2 = (3 : Int32) then 89 else (if v2 = (4 : Int32) then 96 else (if v2 = (5 : Int32) then 103 else (if v2 = (6 : Int32) then 110 else (if v2 = (7 : Int32) then 116 else (if v2 = (8 : Int32) then 125 else (if v2 = (9 : Int32) then 137 else 148)))))))))), [.ref (187), .int v1, .int v2], [], mk b S3)) rfl rfl ?_
    by_cases hc : v2 = (0 : Int32)
    · rw [if_pos hc] at hf ⊢
      obtain ⟨hok, hf⟩ := grd_ex hf
      refine msegT C kX12_house 10 4 (g := ((kI 205 v1 && (kO 187 12 && true)), 74, [.ref (187), .int v1, .int v2], [.int (S3.1 205 (mIx v1))], mk b S3)) rfl hok ?_
      cases hf
      exact gret_i C hr hk (kX12_house _ (List.mem_of_getElem? (i := 14) rfl)).1
    · rw [if_neg hc] at hf ⊢
      by_cases hc : v2 = (1 : Int32)
      · rw [if_pos hc] at hf ⊢
        obtain ⟨hok, hf⟩ := grd_ex hf
        refine msegT C kX12_house 15 4 (g := ((kI 209 v1 && (kO 187 12 && true)), 81, [.ref (187), .int v1, .int v2], [.int (S3.1 209 (mIx v1))], mk b S3)) rfl hok ?_
        cases hf
        exact gret_i C hr hk (kX12_house _ (List.mem_of_getElem? (i := 19) rfl)).1
      · rw [if_neg hc] at hf ⊢
        by_cases hc : v2 = (2 : Int32)
        · rw [if_pos hc] at hf ⊢
          obtain ⟨hok, hf⟩ := grd_ex hf
          refine msegT C kX12_house 20 4 (g := ((kI 210 v1 && (kO 187 12 && true)), 88, [.ref (187), .int v1, .int v2], [.int (S3.1 210 (mIx v1))], mk b S3)) rfl hok ?_
          cases hf
          exact gret_i C hr hk (kX12_house _ (List.mem_of_getElem? (i := 24) rfl)).1
        · rw [if_neg hc] at hf ⊢
          by_cases hc : v2 = (3 : Int32)
          · rw [if_pos hc] at hf ⊢
            obtain ⟨hok, hf⟩ := grd_ex hf
            refine msegT C kX12_house 25 4 (g := ((kI 211 v1 && (kO 187 12 && true)), 95, [.ref (187), .int v1, .int v2], [.int (S3.1 211 (mIx v1))], mk b S3)) rfl hok ?_
            cases hf
            exact gret_i C hr hk (kX12_house _ (List.mem_of_getElem? (i := 29) rfl)).1
          · rw [if_neg hc] at hf ⊢
            by_cases hc : v2 = (4 : Int32)
            · rw [if_pos hc] at hf ⊢
              obtain ⟨hok, hf⟩ := grd_ex hf
              refine msegT C kX12_house 30 4 (g := ((kI 206 v1 && (kO 187 12 && true)), 102, [.ref (187), .int v1, .int v2], [.int (S3.1 206 (mIx v1))], mk b S3)) rfl hok ?_
              cases hf
              exact gret_i C hr hk (kX12_house _ (List.mem_of_getElem? (i := 34) rfl)).1
            · rw [if_neg hc] at hf ⊢
              by_cases hc : v2 = (5 : Int32)
              · rw [if_pos hc] at hf ⊢
                obtain ⟨hok, hf⟩ := grd_ex hf
                refine msegT C kX12_house 35 4 (g := ((kI 207 v1 && (kO 187 12 && true)), 109, [.ref (187), .int v1, .int v2], [.int (S3.1 207 (mIx v1))], mk b S3)) rfl hok ?_
                cases hf
                exact gret_i C hr hk (kX12_house _ (List.mem_of_getElem? (i := 39) rfl)).1
              · rw [if_neg hc] at hf ⊢
                by_cases hc : v2 = (6 : Int32)
                · rw [if_pos hc] at hf ⊢
                  refine msegT C kX12_house 40 2 (g := (true, 112, [.ref (187), .int v1, .int v2], [.int v1, .ref (187)], mk b S3)) rfl rfl ?_
                  obtain ⟨x15, S14, hq, hf⟩ := bndC_ex hf
                  refine mcall (kd := 0) (vs := [.ref (187), .int v1]) (rest := []) (r := (some (.int x15))) (h' := mk b S14) (ok' := true) C lkRX12_382 (qX12_stonesOf hq) (kX12_house _ (List.mem_of_getElem? (i := 42) rfl)).1 ⟨_, _, rfl, rfl, Nat.le_of_ble_eq_true rfl, _, _, rfl, rfl, rfl⟩ (Nat.le_of_ble_eq_true rfl) (Nat.le_of_ble_eq_true rfl) (Nat.le_refl _) (Nat.le_refl _) (Nat.le_of_ble_eq_true rfl) ?_
                  cases hf
                  exact gret_i C hr hk (kX12_house _ (List.mem_of_getElem? (i := 43) rfl)).1
                · rw [if_neg hc] at hf ⊢
                  by_cases hc : v2 = (7 : Int32)
                  · rw [if_pos hc] at hf ⊢
                    refine msegT C kX12_house 44 2 (g := (true, 118, [.ref (187), .int v1, .int v2], [.int v1, .ref (187)], mk b S3)) rfl rfl ?_
                    obtain ⟨x11, S10, hq, hf⟩ := bndC_ex hf
                    refine mcall (kd := 0) (vs := [.ref (187), .int v1]) (rest := []) (r := (some (.int x11))) (h' := mk b S10) (ok' := true) C lkRX12_394 (qX12_shows hq) (kX12_house _ (List.mem_of_getElem? (i := 46) rfl)).1 ⟨_, _, rfl, rfl, Nat.le_of_ble_eq_true rfl, _, _, rfl, rfl, rfl⟩ (Nat.le_of_ble_eq_true rfl) (Nat.le_of_ble_eq_true rfl) (Nat.le_refl _) (Nat.le_refl _) (Nat.le_of_ble_eq_true rfl) ?_
                    obtain ⟨x13, S12, hq, hf⟩ := bndC_ex hf
                    refine mcall (kd := 1) (vs := [.int x11]) (rest := []) (r := (some (.int x13))) (h' := mk b S12) (ok' := true) C lkRX12_307 (qX12_truth hq) (kX12_house _ (List.mem_of_getElem? (i := 47) rfl)).1 rfl (Nat.le_of_ble_eq_true rfl) (Nat.le_of_ble_eq_true rfl) (Nat.le_refl _) (Nat.le_refl _) (Nat.le_of_ble_eq_true rfl) ?_
                    cases hf
                    exact gret_i C hr hk (kX12_house _ (List.mem_of_getElem? (i := 48) rfl)).1
                  · rw [if_neg hc] at hf ⊢
                    by_cases hc : v2 = (8 : Int32)
                    · rw [if_pos hc] at hf ⊢
                      obtain ⟨hok, hf⟩ := grd_ex hf
                      refine msegT C kX12_house 49 6 (g := ((kI 211 v1 && (kO 187 12 && true)), 133, [.ref (187), .int v1, .int v2], [.int (S3.1 211 (mIx v1)), .int v1, .ref (187)], mk b S3)) rfl hok ?_
                      obtain ⟨x9, S8, hq, hf⟩ := bndC_ex hf
                      refine mcall (kd := 0) (vs := [.ref (187), .int v1, .int (S3.1 211 (mIx v1))]) (rest := []) (r := (some (.int x9))) (h' := mk b S8) (ok' := true) C lkRX12_397 (qX12_taxOf hq) (kX12_house _ (List.mem_of_getElem? (i := 55) rfl)).1 ⟨_, _, rfl, rfl, Nat.le_of_ble_eq_true rfl, _, _, rfl, rfl, rfl⟩ (Nat.le_of_ble_eq_true rfl) (Nat.le_of_ble_eq_true rfl) (Nat.le_refl _) (Nat.le_refl _) (Nat.le_of_ble_eq_true rfl) ?_
                      cases hf
                      exact gret_i C hr hk (kX12_house _ (List.mem_of_getElem? (i := 56) rfl)).1
                    · rw [if_neg hc] at hf ⊢
                      by_cases hc : v2 = (9 : Int32)
                      · rw [if_pos hc] at hf ⊢
                        refine msegT C kX12_house 57 4 (g := (true, 141, [.ref (187), .int v1, .int v2], [.int v1, .ref (187), .int v1, .ref (187)], mk b S3)) rfl rfl ?_
                        obtain ⟨x5, S4, hq, hf⟩ := bndC_ex hf
                        refine mcall (kd := 0) (vs := [.ref (187), .int v1]) (rest := [.int v1, .ref (187)]) (r := (some (.int x5))) (h' := mk b S4) (ok' := true) C lkRX12_382 (qX12_stonesOf hq) (kX12_house _ (List.mem_of_getElem? (i := 61) rfl)).1 ⟨_, _, rfl, rfl, Nat.le_of_ble_eq_true rfl, _, _, rfl, rfl, rfl⟩ (Nat.le_of_ble_eq_true rfl) (Nat.le_of_ble_eq_true rfl) (Nat.le_refl _) (Nat.le_refl _) (Nat.le_of_ble_eq_true rfl) ?_
                        obtain ⟨x7, S6, hq, hf⟩ := bndC_ex hf
                        refine mcall (kd := 0) (vs := [.ref (187), .int v1, .int x5]) (rest := []) (r := (some (.int x7))) (h' := mk b S6) (ok' := true) C lkRX12_397 (qX12_taxOf hq) (kX12_house _ (List.mem_of_getElem? (i := 62) rfl)).1 ⟨_, _, rfl, rfl, Nat.le_of_ble_eq_true rfl, _, _, rfl, rfl, rfl⟩ (Nat.le_of_ble_eq_true rfl) (Nat.le_of_ble_eq_true rfl) (Nat.le_refl _) (Nat.le_refl _) (Nat.le_of_ble_eq_true rfl) ?_
                        cases hf
                        exact gret_i C hr hk (kX12_house _ (List.mem_of_getElem? (i := 63) rfl)).1
                      · rw [if_neg hc] at hf ⊢
                        refine msegT C kX12_house 64 1 (g := (true, 149, [.ref (187), .int v1, .int v2], [.int (-1 : Int32)], mk b S3)) rfl rfl ?_
                        cases hf
                        exact gret_i C hr hk (kX12_house _ (List.mem_of_getElem? (i := 65) rfl)).1
theorem qX12_house {b : Bool} {v1 : Int32} {v2 : Int32} {S S' : mT} {r : Int32} (hf : fX12_house v1 v2 S = some (r, S')) : mOk l mX12_house 6 [.ref (187), .int v1, .int v2] b S (some (.int r)) S' :=
  gMet (by decide) (Nat.le_of_ble_eq_true rfl) rfl (Nat.le_of_ble_eq_true rfl) (fun p e s m args below meth c G C hr hk => bX12_house_0 C hr hk hf true)
theorem bX12_image_18 (C : mCx p (mR 2) s m args meth c G cX12_image RX12 3 false 233 54500 233 54500) (hr : meth.sig.returnType = (some .int)) (hk : meth.locks = false) {b : Bool} {S' : mT} {r : Int32} : ∀ (k : Nat) (v1 : Int32) (v2 : Int32) (S : mT), fX12_image_18 k v1 v2 S = some (r, S') → ∀ ok : Bool, mW p l e (mR 2) s m args below meth c G 3 233 54500 (mQ below G args s b S' (some (.int r))) (ok, 18, [.ref (187), .int v1, .int v2], [], mk b S) := by
  intro k
  induction k with
  | zero =>
    intro v1 v2 S hf ok
    cases hf
  | succ k ih =>
    intro v1 v2 S hf ok
    unfold fX12_image_18 at hf
    refine msegT C kX12_image 12 3 (g := (true, (if (17 : Int32) ≤ v2 then 47 else 24), [.ref (187), .int v1, .int v2], [], mk b S)) rfl rfl ?_
    by_cases hc : (17 : Int32) ≤ v2
    · rw [if_pos hc] at hf ⊢
      obtain ⟨hok, hf⟩ := grd_ex hf
      refine msegT C kX12_image 29 4 (g := ((kI 208 (15 : Int32) && (kO 187 12 && true)), 54, [.ref (187), .int v1, .int v2], [.int (S.1 208 (mIx (15 : Int32)))], mk b S)) rfl hok ?_
      cases hf
      exact gret_i C hr hk (kX12_image _ (List.mem_of_getElem? (i := 33) rfl)).1
    · rw [if_neg hc] at hf ⊢
      obtain ⟨hok, hf⟩ := grd_ex hf
      refine msegT C kX12_image 15 10 (g := ((kO 187 12 && (kO 187 12 && true)), 39, [.ref (187), .int v1, .int v2], [.int v2, .ref 208, .int (((18 : Int32) * v1) + v2), .ref 232], mk b S)) rfl hok ?_
      obtain ⟨hok, hf⟩ := grd_ex hf
      refine msegT C kX12_image 25 2 (g := ((kI 232 (((18 : Int32) * v1) + v2) && (kI 208 v2 && true)), 41, [.ref (187), .int v1, .int v2], [], mk b (sI S 232 (mIx (((18 : Int32) * v1) + v2)) (S.1 208 (mIx v2))))) rfl hok ?_
      obtain ⟨S4, eS4, hf⟩ := bnd_ex hf
      rw [← eS4]
      refine msegT C kX12_image 27 1 (g := (true, 44, [.ref (187), .int v1, .int (v2 + (1 : Int32))], [], mk b S4)) rfl rfl ?_
      obtain ⟨x5, ex5, hf⟩ := bnd_ex hf
      rw [← ex5]
      refine msegT C kX12_image 28 1 (g := (true, 18, [.ref (187), .int v1, .int x5], [], mk b S4)) rfl rfl ?_
      exact mfor (L' := [.ref (187), .int v1, .int x5]) ⟨Or.inr rfl, Or.inr rfl, Or.inr rfl, trivial⟩ (ih _ _ _ hf true)
theorem bX12_image_0 (C : mCx p (mR 2) s m args meth c G cX12_image RX12 3 false 233 54500 233 54500) (hr : meth.sig.returnType = (some .int)) (hk : meth.locks = false) {b : Bool} {S' : mT} {r : Int32} {v1 : Int32} {S : mT} (hf : fX12_image v1 S = some (r, S')) (ok : Bool) : mW p l e (mR 2) s m args below meth c G 3 233 54500 (mQ below G args s b S' (some (.int r))) (ok, 0, [.ref (187), .int v1, .retAddr 0], [], mk b S) := by
  unfold fX12_image at hf
  refine msegT C kX12_image 0 1 (g := (true, 1, [.ref (187), .int v1, .retAddr 0], [.int v1], mk b S)) rfl rfl ?_
  obtain ⟨x2, S1, hq, hf⟩ := bndC_ex hf
  refine mcall (kd := 1) (vs := [.int v1]) (rest := []) (r := (some (.int x2))) (h' := mk b S1) (ok' := true) C lkRX12_495 (qX12_isBox hq) (kX12_image _ (List.mem_of_getElem? (i := 1) rfl)).1 rfl (Nat.le_of_ble_eq_true rfl) (Nat.le_of_ble_eq_true rfl) (Nat.le_refl _) (Nat.le_refl _) (Nat.le_of_ble_eq_true rfl) ?_
  refine msegT C kX12_image 2 1 (g := (true, (if x2 = 0 then 7 else 9), [.ref (187), .int v1, .retAddr 0], [], mk b S1)) rfl rfl ?_
  by_cases hc : x2 = 0
  · rw [if_pos hc] at hf ⊢
    refine msegT C kX12_image 3 1 (g := (true, 8, [.ref (187), .int v1, .retAddr 0], [.int (-1 : Int32)], mk b S1)) rfl rfl ?_
    cases hf
    exact gret_i C hr hk (kX12_image _ (List.mem_of_getElem? (i := 4) rfl)).1
  · rw [if_neg hc] at hf ⊢
    obtain ⟨hok, hf⟩ := grd_ex hf
    refine msegT C kX12_image 5 5 (g := ((kB 231 v1 && (kO 187 12 && true)), 16, [.ref (187), .int v1, .retAddr 0], [], mk b (sI S1 231 (mIx v1) (kN 231 (1 : Int32))))) rfl hok ?_
    obtain ⟨S3, eS3, hf⟩ := bnd_ex hf
    rw [← eS3]
    refine msegT C kX12_image 10 2 (g := (true, 18, [.ref (187), .int v1, .int (0 : Int32)], [], mk b S3)) rfl rfl ?_
    exact mfor (L' := [.ref (187), .int v1, .int (0 : Int32)]) ⟨Or.inr rfl, Or.inr rfl, Or.inr rfl, trivial⟩ (bX12_image_18 C hr hk _ _ _ _ hf true)
theorem qX12_image {b : Bool} {v1 : Int32} {S S' : mT} {r : Int32} (hf : fX12_image v1 S = some (r, S')) : mOk l mX12_image 2 [.ref (187), .int v1] b S (some (.int r)) S' :=
  gMet (by decide) (Nat.le_of_ble_eq_true rfl) rfl (Nat.le_of_ble_eq_true rfl) (fun p e s m args below meth c G C hr hk => bX12_image_0 C hr hk hf true)
theorem bX12_isOwn_170 (C : mCx p (mR 1) s m args meth c G cX12_isOwn RX12 1 false 233 54500 233 54500) (hr : meth.sig.returnType = (some .boolean)) (hk : meth.locks = false) {b : Bool} {S' : mT} {r : Int32} {s0 : Int32} {S : mT} (hf : fX12_isOwn_170 s0 S = some (r, S')) (ok : Bool) : mW p l e (mR 1) s m args below meth c G 1 233 54500 (mQ below G args s b S' (some (.int r))) (ok, 170, [.retAddr 0], [.int s0], mk b S) := by
  unfold fX12_isOwn_170 at hf
  obtain ⟨hz, hf⟩ := grd_ex hf
  cases hf
  exact gret_z C hr hk (mFit_nar hz) (kX12_isOwn _ (List.mem_of_getElem? (i := 78) rfl)).1
theorem bX12_isOwn_165 (C : mCx p (mR 1) s m args meth c G cX12_isOwn RX12 1 false 233 54500 233 54500) (hr : meth.sig.returnType = (some .boolean)) (hk : meth.locks = false) {b : Bool} {S' : mT} {r : Int32} {S : mT} (hf : fX12_isOwn_165 S = some (r, S')) (ok : Bool) : mW p l e (mR 1) s m args below meth c G 1 233 54500 (mQ below G args s b S' (some (.int r))) (ok, 165, [.retAddr 0], [], mk b S) := by
  unfold fX12_isOwn_165 at hf
  refine msegT C kX12_isOwn 75 2 (g := (true, 170, [.retAddr 0], [.int (1 : Int32)], mk b S)) rfl rfl ?_
  exact mfor (L' := [.retAddr 0]) ⟨Or.inl rfl, trivial⟩ (bX12_isOwn_170 C hr hk hf true)
theorem bX12_isOwn_0 (C : mCx p (mR 1) s m args meth c G cX12_isOwn RX12 1 false 233 54500 233 54500) (hr : meth.sig.returnType = (some .boolean)) (hk : meth.locks = false) {b : Bool} {S' : mT} {r : Int32} {S : mT} (hf : fX12_isOwn S = some (r, S')) (ok : Bool) : mW p l e (mR 1) s m args below meth c G 1 233 54500 (mQ below G args s b S' (some (.int r))) (ok, 0, [.ref (187)], [], mk b S) := by
  unfold fX12_isOwn at hf
  obtain ⟨hok, hf⟩ := grd_ex hf
  refine msegT C kX12_isOwn 0 5 (g := ((kO 187 12 && true), (if (lg_cmp (S.2 187 9) (448546567013 : Int64)) = 0 then 165 else 11), [.ref (187)], [], mk b S)) rfl hok ?_
  by_cases hc : (lg_cmp (S.2 187 9) (448546567013 : Int64)) = 0
  · rw [if_pos hc] at hf ⊢
    exact mfor (L' := [.retAddr 0]) ⟨Or.inl rfl, trivial⟩ (bX12_isOwn_165 C hr hk hf true)
  · rw [if_neg hc] at hf ⊢
    obtain ⟨hok, hf⟩ := grd_ex hf
    refine msegT C kX12_isOwn 5 5 (g := ((kO 187 12 && true), (if (lg_cmp (S.2 187 9) (24948 : Int64)) = 0 then 165 else 22), [.ref (187)], [], mk b S)) rfl hok ?_
    by_cases hc : (lg_cmp (S.2 187 9) (24948 : Int64)) = 0
    · rw [if_pos hc] at hf ⊢
      exact mfor (L' := [.retAddr 0]) ⟨Or.inl rfl, trivial⟩ (bX12_isOwn_165 C hr hk hf true)
    · rw [if_neg hc] at hf ⊢
      obtain ⟨hok, hf⟩ := grd_ex hf
      refine msegT C kX12_isOwn 10 5 (g := ((kO 187 12 && true), (if (lg_cmp (S.2 187 9) (448377480307 : Int64)) = 0 then 165 else 33), [.ref (187)], [], mk b S)) rfl hok ?_
      by_cases hc : (lg_cmp (S.2 187 9) (448377480307 : Int64)) = 0
      · rw [if_pos hc] at hf ⊢
        exact mfor (L' := [.retAddr 0]) ⟨Or.inl rfl, trivial⟩ (bX12_isOwn_165 C hr hk hf true)
      · rw [if_neg hc] at hf ⊢
        obtain ⟨hok, hf⟩ := grd_ex hf
        refine msegT C kX12_isOwn 15 5 (g := ((kO 187 12 && true), (if (lg_cmp (S.2 187 9) (6971757 : Int64)) = 0 then 165 else 44), [.ref (187)], [], mk b S)) rfl hok ?_
        by_cases hc : (lg_cmp (S.2 187 9) (6971757 : Int64)) = 0
        · rw [if_pos hc] at hf ⊢
          exact mfor (L' := [.retAddr 0]) ⟨Or.inl rfl, trivial⟩ (bX12_isOwn_165 C hr hk hf true)
        · rw [if_neg hc] at hf ⊢
          obtain ⟨hok, hf⟩ := grd_ex hf
          refine msegT C kX12_isOwn 20 5 (g := ((kO 187 12 && true), (if (lg_cmp (S.2 187 9) (448310438260 : Int64)) = 0 then 165 else 55), [.ref (187)], [], mk b S)) rfl hok ?_
          by_cases hc : (lg_cmp (S.2 187 9) (448310438260 : Int64)) = 0
          · rw [if_pos hc] at hf ⊢
            exact mfor (L' := [.retAddr 0]) ⟨Or.inl rfl, trivial⟩ (bX12_isOwn_165 C hr hk hf true)
          · rw [if_neg hc] at hf ⊢
            obtain ⟨hok, hf⟩ := grd_ex hf
            refine msegT C kX12_isOwn 25 5 (g := ((kO 187 12 && true), (if (lg_cmp (S.2 187 9) (1936746868 : Int64)) = 0 then 165 else 66), [.ref (187)], [], mk b S)) rfl hok ?_
            by_cases hc : (lg_cmp (S.2 187 9) (1936746868 : Int64)) = 0
            · rw [if_pos hc] at hf ⊢
              exact mfor (L' := [.retAddr 0]) ⟨Or.inl rfl, trivial⟩ (bX12_isOwn_165 C hr hk hf true)
            · rw [if_neg hc] at hf ⊢
              obtain ⟨hok, hf⟩ := grd_ex hf
              refine msegT C kX12_isOwn 30 5 (g := ((kO 187 12 && true), (if (lg_cmp (S.2 187 9) (7627128 : Int64)) = 0 then 165 else 77), [.ref (187)], [], mk b S)) rfl hok ?_
              by_cases hc : (lg_cmp (S.2 187 9) (7627128 : Int64)) = 0
              · rw [if_pos hc] at hf ⊢
                exact mfor (L' := [.retAddr 0]) ⟨Or.inl rfl, trivial⟩ (bX12_isOwn_165 C hr hk hf true)
              · rw [if_neg hc] at hf ⊢
                obtain ⟨hok, hf⟩ := grd_ex hf
                refine msegT C kX12_isOwn 35 5 (g := ((kO 187 12 && true), (if (lg_cmp (S.2 187 9) (1735552887 : Int64)) = 0 then 165 else 88), [.ref (187)], [], mk b S)) rfl hok ?_
                by_cases hc : (lg_cmp (S.2 187 9) (1735552887 : Int64)) = 0
                · rw [if_pos hc] at hf ⊢
                  exact mfor (L' := [.retAddr 0]) ⟨Or.inl rfl, trivial⟩ (bX12_isOwn_165 C hr hk hf true)
                · rw [if_neg hc] at hf ⊢
                  obtain ⟨hok, hf⟩ := grd_ex hf
                  refine msegT C kX12_isOwn 40 5 (g := ((kO 187 12 && true), (if (lg_cmp (S.2 187 9) (1685217655 : Int64)) = 0 then 165 else 99), [.ref (187)], [], mk b S)) rfl hok ?_
                  by_cases hc : (lg_cmp (S.2 187 9) (1685217655 : Int64)) = 0
                  · rw [if_pos hc] at hf ⊢
                    exact mfor (L' := [.retAddr 0]) ⟨Or.inl rfl, trivial⟩ (bX12_isOwn_165 C hr hk hf true)
                  · rw [if_neg hc] at hf ⊢
                    obtain ⟨hok, hf⟩ := grd_ex hf
                    refine msegT C kX12_isOwn 45 5 (g := ((kO 187 12 && true), (if (lg_cmp (S.2 187 9) (114801865155950 : Int64)) = 0 then 165 else 110), [.ref (187)], [], mk b S)) rfl hok ?_
                    by_cases hc : (lg_cmp (S.2 187 9) (114801865155950 : Int64)) = 0
                    · rw [if_pos hc] at hf ⊢
                      exact mfor (L' := [.retAddr 0]) ⟨Or.inl rfl, trivial⟩ (bX12_isOwn_165 C hr hk hf true)
                    · rw [if_neg hc] at hf ⊢
                      obtain ⟨hok, hf⟩ := grd_ex hf
                      refine msegT C kX12_isOwn 50 5 (g := ((kO 187 12 && true), (if (lg_cmp (S.2 187 9) (126943922906483 : Int64)) = 0 then 165 else 121), [.ref (187)], [], mk b S)) rfl hok ?_
                      by_cases hc : (lg_cmp (S.2 187 9) (126943922906483 : Int64)) = 0
                      · rw [if_pos hc] at hf ⊢
                        exact mfor (L' := [.retAddr 0]) ⟨Or.inl rfl, trivial⟩ (bX12_isOwn_165 C hr hk hf true)
                      · rw [if_neg hc] at hf ⊢
                        obtain ⟨hok, hf⟩ := grd_ex hf
                        refine msegT C kX12_isOwn 55 5 (g := ((kO 187 12 && true), (if (lg_cmp (S.2 187 9) (2036687218 : Int64)) = 0 then 165 else 132), [.ref (187)], [], mk b S)) rfl hok ?_
                        by_cases hc : (lg_cmp (S.2 187 9) (2036687218 : Int64)) = 0
                        · rw [if_pos hc] at hf ⊢
                          exact mfor (L' := [.retAddr 0]) ⟨Or.inl rfl, trivial⟩ (bX12_isOwn_165 C hr hk hf true)
                        · rw [if_neg hc] at hf ⊢
                          obtain ⟨hok, hf⟩ := grd_ex hf
                          refine msegT C kX12_isOwn 60 5 (g := ((kO 187 12 && true), (if (lg_cmp (S.2 187 9) (6385252 : Int64)) = 0 then 165 else 143), [.ref (187)], [], mk b S)) rfl hok ?_
                          by_cases hc : (lg_cmp (S.2 187 9) (6385252 : Int64)) = 0
                          · rw [if_pos hc] at hf ⊢
                            exact mfor (L' := [.retAddr 0]) ⟨Or.inl rfl, trivial⟩ (bX12_isOwn_165 C hr hk hf true)
                          · rw [if_neg hc] at hf ⊢
                            obtain ⟨hok, hf⟩ := grd_ex hf
                            refine msegT C kX12_isOwn 65 5 (g := ((kO 187 12 && true), (if (lg_cmp (S.2 187 9) (28530 : Int64)) = 0 then 165 else 154), [.ref (187)], [], mk b S)) rfl hok ?_
                            by_cases hc : (lg_cmp (S.2 187 9) (28530 : Int64)) = 0
                            · rw [if_pos hc] at hf ⊢
                              exact mfor (L' := [.retAddr 0]) ⟨Or.inl rfl, trivial⟩ (bX12_isOwn_165 C hr hk hf true)
                            · rw [if_neg hc] at hf ⊢
                              obtain ⟨hok, hf⟩ := grd_ex hf
                              refine msegT C kX12_isOwn 70 5 (g := ((kO 187 12 && true), (if (lg_cmp (S.2 187 9) (7237492 : Int64)) = 0 then 165 else 169), [.ref (187)], [], mk b S)) rfl hok ?_
                              by_cases hc : (lg_cmp (S.2 187 9) (7237492 : Int64)) = 0
                              · rw [if_pos hc] at hf ⊢
                                exact mfor (L' := [.retAddr 0]) ⟨Or.inl rfl, trivial⟩ (bX12_isOwn_165 C hr hk hf true)
                              · rw [if_neg hc] at hf ⊢
                                refine msegT C kX12_isOwn 77 1 (g := (true, 170, [.ref (187)], [.int (0 : Int32)], mk b S)) rfl rfl ?_
                                exact mfor (L' := [.retAddr 0]) ⟨Or.inl rfl, trivial⟩ (bX12_isOwn_170 C hr hk hf true)
theorem qX12_isOwn {b : Bool} {S S' : mT} {r : Int32} (hf : fX12_isOwn S = some (r, S')) : mOk l mX12_isOwn 1 [.ref (187)] b S (some (.int r)) S' :=
  gMet (by decide) (Nat.le_of_ble_eq_true rfl) rfl (Nat.le_of_ble_eq_true rfl) (fun p e s m args below meth c G C hr hk => bX12_isOwn_0 C hr hk hf true)
end GP
