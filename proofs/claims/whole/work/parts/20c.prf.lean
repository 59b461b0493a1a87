section GP
variable {p : Program} {l : Launch} {e : Env} {s : State} {m : MethodId} {args : Array Value} {below : List Frame} {meth : Method} {c : Code} {G : mG}
theorem bX4_readUnit_115_9 {d : Nat} (C : mCx p (mR (8 + (d + 1))) s m args meth c G cX4_readUnit RX4 4 false 233 54500 233 54500) (hr : meth.sig.returnType = none) (hk : meth.locks = false) {b : Bool} {self : Nat → Nat → Int32 → mT → Option (mT)} (Hs0 : ∀ {v2 : Int32} {S S' : mT}, self 0 9 v2 S = some S' → mOk l mX4_readEither (8 + d) [.ref 1, .ref 9, .int v2] b S none S') (Hs1 : ∀ {v2 : Int32} {S S' : mT}, self 1 9 v2 S = some S' → mOk l mX4_readBoth (8 + d) [.ref 1, .ref 9, .int v2] b S none S') (Hs2 : ∀ {v2 : Int32} {S S' : mT}, self 2 9 v2 S = some S' → mOk l mX4_readOne (8 + d) [.ref 1, .ref 9, .int v2] b S none S') (Hs3 : ∀ {v2 : Int32} {S S' : mT}, self 3 9 v2 S = some S' → mOk l mX4_readSum (8 + d) [.ref 1, .ref 9, .int v2] b S none S') (Hs4 : ∀ {v2 : Int32} {S S' : mT}, self 4 9 v2 S = some S' → mOk l mX4_readTerm (8 + d) [.ref 1, .ref 9, .int v2] b S none S') (Hs5 : ∀ {v2 : Int32} {S S' : mT}, self 5 9 v2 S = some S' → mOk l mX4_readUnit (8 + d) [.ref 1, .ref 9, .int v2] b S none S') {S' : mT} {S : mT} (hf : fX4_readUnit_115 9 self S = some S') (ok : Bool) : mW p l e (mR (8 + (d + 1))) s m args below meth c G 4 233 54500 (mQ below G args s b S' none) (ok, 115, [.retAddr 0, .retAddr 0, .retAddr 0, .retAddr 0], [], mk b S) := by
  unfold fX4_readUnit_115 at hf
  cases hf
  exact gret_v C hr hk (kX4_readUnit _ (List.mem_of_getElem? (i := 61) rfl)).1
theorem bX4_readUnit_110_9 {d : Nat} (C : mCx p (mR (8 + (d + 1))) s m args meth c G cX4_readUnit RX4 4 false 233 54500 233 54500) (hr : meth.sig.returnType = none) (hk : meth.locks = false) {b : Bool} {self : Nat → Nat → Int32 → mT → Option (mT)} (Hs0 : ∀ {v2 : Int32} {S S' : mT}, self 0 9 v2 S = some S' → mOk l mX4_readEither (8 + d) [.ref 1, .ref 9, .int v2] b S none S') (Hs1 : ∀ {v2 : Int32} {S S' : mT}, self 1 9 v2 S = some S' → mOk l mX4_readBoth (8 + d) [.ref 1, .ref 9, .int v2] b S none S') (Hs2 : ∀ {v2 : Int32} {S S' : mT}, self 2 9 v2 S = some S' → mOk l mX4_readOne (8 + d) [.ref 1, .ref 9, .int v2] b S none S') (Hs3 : ∀ {v2 : Int32} {S S' : mT}, self 3 9 v2 S = some S' → mOk l mX4_readSum (8 + d) [.ref 1, .ref 9, .int v2] b S none S') (Hs4 : ∀ {v2 : Int32} {S S' : mT}, self 4 9 v2 S = some S' → mOk l mX4_readTerm (8 + d) [.ref 1, .ref 9, .int v2] b S none S') (Hs5 : ∀ {v2 : Int32} {S S' : mT}, self 5 9 v2 S = some S' → mOk l mX4_readUnit (8 + d) [.ref 1, .ref 9, .int v2] b S none S') {S' : mT} {S : mT} (hf : fX4_readUnit_110 9 self S = some S') (ok : Bool) : mW p l e (mR (8 + (d + 1))) s m args below meth c G 4 233 54500 (mQ below G args s b S' none) (ok, 110, [.ref (1), .retAddr 0, .retAddr 0, .retAddr 0], [], mk b S) := by
  unfold fX4_readUnit_110 at hf
  refine msegT C kX4_readUnit 58 2 (g := (true, 112, [.ref (1), .retAddr 0, .retAddr 0, .retAddr 0], [.int (2 : Int32), .ref (1)], mk b S)) rfl rfl ?_
  obtain ⟨S14, hq, hf⟩ := bndV_ex hf
  refine mcall (kd := 0) (vs := [.ref (1), .int (2 : Int32)]) (rest := []) (r := none) (h' := mk b S14) (ok' := true) C lkRX4_79 (qX4_refuse hq) (kX4_readUnit _ (List.mem_of_getElem? (i := 60) rfl)).1 ⟨_, _, rfl, rfl, Nat.le_of_ble_eq_true rfl, _, _, rfl, rfl, rfl⟩ (by show 1 + 1 ≤ 8 + (d + 1); omega) (by show 19 + 2 + 100 * (1) ≤ 100 * (8 + (d + 1)); omega) (Nat.le_refl _) (Nat.le_refl _) (Nat.le_of_ble_eq_true rfl) ?_
  exact mfor (L' := [.retAddr 0, .retAddr 0, .retAddr 0, .retAddr 0]) ⟨Or.inl rfl, Or.inl rfl, Or.inl rfl, Or.inl rfl, trivial⟩ (bX4_readUnit_115_9 C hr hk Hs0 Hs1 Hs2 Hs3 Hs4 Hs5 hf true)
theorem bX4_readUnit_0_9 {d : Nat} (C : mCx p (mR (8 + (d + 1))) s m args meth c G cX4_readUnit RX4 4 false 233 54500 233 54500) (hr : meth.sig.returnType = none) (hk : meth.locks = false) {b : Bool} {self : Nat → Nat → Int32 → mT → Option (mT)} (Hs0 : ∀ {v2 : Int32} {S S' : mT}, self 0 9 v2 S = some S' → mOk l mX4_readEither (8 + d) [.ref 1, .ref 9, .int v2] b S none S') (Hs1 : ∀ {v2 : Int32} {S S' : mT}, self 1 9 v2 S = some S' → mOk l mX4_readBoth (8 + d) [.ref 1, .ref 9, .int v2] b S none S') (Hs2 : ∀ {v2 : Int32} {S S' : mT}, self 2 9 v2 S = some S' → mOk l mX4_readOne (8 + d) [.ref 1, .ref 9, .int v2] b S none S') (Hs3 : ∀ {v2 : Int32} {S S' : mT}, self 3 9 v2 S = some S' → mOk l mX4_readSum (8 + d) [.ref 1, .ref 9, .int v2] b S none S') (Hs4 : ∀ {v2 : Int32} {S S' : mT}, self 4 9 v2 S = some S' → mOk l mX4_readTerm (8 + d) [.ref 1, .ref 9, .int v2] b S none S') (Hs5 : ∀ {v2 : Int32} {S S' : mT}, self 5 9 v2 S = some S' → mOk l mX4_readUnit (8 + d) [.ref 1, .ref 9, .int v2] b S none S') {S' : mT} {v2 : Int32} {S : mT} (hf : fX4_readUnit_0 9 self v2 S = some S') (ok : Bool) : mW p l e (mR (8 + (d + 1))) s m args below meth c G 4 233 54500 (mQ below G args s b S' none) (ok, 0, [.ref (1), .ref (9), .int v2, .retAddr 0], [], mk b S) := by
  unfold fX4_readUnit_0 at hf
  obtain ⟨hok, hf⟩ := grd_ex hf
  refine msegT C kX4_readUnit 0 4 (g := ((kO 9 0 && true), (if (S.1 9 3) < (30 : Int32) then 15 else 9), [.ref (1), .ref (9), .int v2, .retAddr 0], [], mk b S)) rfl hok ?_
  by_cases hc : (S.1 9 3) < (30 : Int32)
  · rw [if_pos hc] at hf ⊢
    obtain ⟨hok, hf⟩ := grd_ex hf
    refine msegT C kX4_readUnit 8 6 (g := ((kO 9 0 && (kO 9 0 && true)), 25, [.ref (1), .ref (9), .int v2, .retAddr 0], [], mk b (sI S 9 3 ((S.1 9 3) + (1 : Int32))))) rfl hok ?_
    obtain ⟨S1, eS1, hf⟩ := bnd_ex hf
    rw [← eS1]
    refine msegT C kX4_readUnit 14 1 (g := (true, 26, [.ref (1), .ref (9), .int v2, .retAddr 0], [.ref (1)], mk b S1)) rfl rfl ?_
    obtain ⟨x3, S2, hq, hf⟩ := bndC_ex hf
    refine mcall (kd := 0) (vs := [.ref (1)]) (rest := []) (r := (some (.int x3))) (h' := mk b S2) (ok' := true) C lkRX4_152 (qX4_valueNamed hq) (kX4_readUnit _ (List.mem_of_getElem? (i := 15) rfl)).1 ⟨_, _, rfl, rfl, Nat.le_of_ble_eq_true rfl, _, _, rfl, rfl, rfl⟩ (by show 7 + 1 ≤ 8 + (d + 1); omega) (by show 19 + 1 + 100 * (7) ≤ 100 * (8 + (d + 1)); omega) (Nat.le_refl _) (Nat.le_refl _) (Nat.le_of_ble_eq_true rfl) ?_
    obtain ⟨hok, hf⟩ := grd_ex hf
    refine msegT C kX4_readUnit 16 5 (g := ((kO 1 4 && true), (if (S2.1 1 4) = (2 : Int32) then 38 else 53), [.ref (1), .ref (9), .int v2, .int x3], [], mk b S2)) rfl hok ?_
    by_cases hc : (S2.1 1 4) = (2 : Int32)
    · rw [if_pos hc] at hf ⊢
      obtain ⟨hok, hf⟩ := grd_ex hf
      refine msegT C kX4_readUnit 21 3 (g := ((kO 1 4 && true), 43, [.ref (1), .ref (9), .int v2, .int x3], [.int (S2.1 1 7), .ref (9)], mk b S2)) rfl hok ?_
      obtain ⟨S4, hq, hf⟩ := bndV_ex hf
      refine mcall (kd := 0) (vs := [.ref (9), .int (S2.1 1 7)]) (rest := []) (r := none) (h' := mk b S4) (ok' := true) C lkRX4_122 (qX0_add_9 hq) (kX4_readUnit _ (List.mem_of_getElem? (i := 24) rfl)).1 ⟨_, _, rfl, rfl, Nat.le_of_ble_eq_true rfl, _, _, rfl, rfl, rfl⟩ (by show 1 + 1 ≤ 8 + (d + 1); omega) (by show 19 + 2 + 100 * (1) ≤ 100 * (8 + (d + 1)); omega) (Nat.le_refl _) (Nat.le_refl _) (Nat.le_of_ble_eq_true rfl) ?_
      refine msegT C kX4_readUnit 25 1 (g := (true, 47, [.ref (1), .ref (9), .int v2, .int x3], [.ref (1)], mk b S4)) rfl rfl ?_
      obtain ⟨S5, hq, hf⟩ := bndV_ex hf
      refine mcall (kd := 0) (vs := [.ref (1)]) (rest := []) (r := none) (h' := mk b S5) (ok' := true) C lkRX4_30 (qX4_advance hq) (kX4_readUnit _ (List.mem_of_getElem? (i := 26) rfl)).1 ⟨_, _, rfl, rfl, Nat.le_of_ble_eq_true rfl, _, _, rfl, rfl, rfl⟩ (by show 3 + 1 ≤ 8 + (d + 1); omega) (by show 19 + 1 + 100 * (3) ≤ 100 * (8 + (d + 1)); omega) (Nat.le_refl _) (Nat.le_refl _) (Nat.le_of_ble_eq_true rfl) ?_
      refine msegT C kX4_readUnit 27 1 (g := (true, 115, [.ref (1), .ref (9), .int v2, .int x3], [], mk b S5)) rfl rfl ?_
      exact mfor (L' := [.retAddr 0, .retAddr 0, .retAddr 0, .retAddr 0]) ⟨Or.inl rfl, Or.inl rfl, Or.inl rfl, Or.inl rfl, trivial⟩ (bX4_readUnit_115_9 C hr hk Hs0 Hs1 Hs2 Hs3 Hs4 Hs5 hf true)
    · rw [if_neg hc] at hf ⊢
      refine msegT C kX4_readUnit 28 3 (g := (true, (if x3 = (-1 : Int32) then 74 else 58), [.ref (1), .ref (9), .int v2, .int x3], [], mk b S2)) rfl rfl ?_
      by_cases hc : x3 = (-1 : Int32)
      · rw [if_pos hc] at hf ⊢
        refine msegT C kX4_readUnit 39 2 (g := (true, 77, [.ref (1), .ref (9), .int v2, .int x3], [.int (40 : Int32), .ref (1)], mk b S2)) rfl rfl ?_
        obtain ⟨x7, S6, hq, hf⟩ := bndC_ex hf
        refine mcall (kd := 0) (vs := [.ref (1), .int (40 : Int32)]) (rest := []) (r := (some (.int x7))) (h' := mk b S6) (ok' := true) C lkRX4_135 (qX4_isSign hq) (kX4_readUnit _ (List.mem_of_getElem? (i := 41) rfl)).1 ⟨_, _, rfl, rfl, Nat.le_of_ble_eq_true rfl, _, _, rfl, rfl, rfl⟩ (by show 1 + 1 ≤ 8 + (d + 1); omega) (by show 19 + 2 + 100 * (1) ≤ 100 * (8 + (d + 1)); omega) (Nat.le_refl _) (Nat.le_refl _) (Nat.le_of_ble_eq_true rfl) ?_
        refine msegT C kX4_readUnit 42 1 (g := (true, (if x7 = 0 then 110 else 83), [.ref (1), .ref (9), .int v2, .int x3], [], mk b S6)) rfl rfl ?_
        by_cases hc : x7 = 0
        · rw [if_pos hc] at hf ⊢
          exact mfor (L' := [.ref (1), .retAddr 0, .retAddr 0, .retAddr 0]) ⟨Or.inr rfl, Or.inl rfl, Or.inl rfl, Or.inl rfl, trivial⟩ (bX4_readUnit_110_9 C hr hk Hs0 Hs1 Hs2 Hs3 Hs4 Hs5 hf true)
        · rw [if_neg hc] at hf ⊢
          refine msegT C kX4_readUnit 43 3 (g := (true, (if (6 : Int32) < v2 then 110 else 89), [.ref (1), .ref (9), .int v2, .int x3], [], mk b S6)) rfl rfl ?_
          by_cases hc : (6 : Int32) < v2
          · rw [if_pos hc] at hf ⊢
            exact mfor (L' := [.ref (1), .retAddr 0, .retAddr 0, .retAddr 0]) ⟨Or.inr rfl, Or.inl rfl, Or.inl rfl, Or.inl rfl, trivial⟩ (bX4_readUnit_110_9 C hr hk Hs0 Hs1 Hs2 Hs3 Hs4 Hs5 hf true)
          · rw [if_neg hc] at hf ⊢
            refine msegT C kX4_readUnit 46 1 (g := (true, 90, [.ref (1), .ref (9), .int v2, .int x3], [.ref (1)], mk b S6)) rfl rfl ?_
            obtain ⟨S8, hq, hf⟩ := bndV_ex hf
            refine mcall (kd := 0) (vs := [.ref (1)]) (rest := []) (r := none) (h' := mk b S8) (ok' := true) C lkRX4_30 (qX4_advance hq) (kX4_readUnit _ (List.mem_of_getElem? (i := 47) rfl)).1 ⟨_, _, rfl, rfl, Nat.le_of_ble_eq_true rfl, _, _, rfl, rfl, rfl⟩ (by show 3 + 1 ≤ 8 + (d + 1); omega) (by show 19 + 1 + 100 * (3) ≤ 100 * (8 + (d + 1)); omega) (Nat.le_refl _) (Nat.le_refl _) (Nat.le_of_ble_eq_true rfl) ?_
            refine msegT C kX4_readUnit 48 5 (g := (true, 98, [.ref (1), .ref (9), .int v2, .int x3], [.int (v2 + (1 : Int32)), .ref (9), .ref (1)], mk b S8)) rfl rfl ?_
            obtain ⟨S9, hq, hf⟩ := bndV_ex hf
            refine mcall (kd := 0) (vs := [.ref (1), .ref (9), .int (v2 + (1 : Int32))]) (rest := []) (r := none) (h' := mk b S9) (ok' := true) C lkRX4_113 (Hs0 hq) (kX4_readUnit _ (List.mem_of_getElem? (i := 53) rfl)).1 ⟨_, _, rfl, rfl, Nat.le_of_ble_eq_true rfl, _, _, rfl, rfl, rfl⟩ (by show 8 + d + 1 ≤ 8 + (d + 1); omega) (by show 19 + 4 + 100 * (8 + d) ≤ 100 * (8 + (d + 1)); omega) (Nat.le_refl _) (Nat.le_refl _) (Nat.le_of_ble_eq_true rfl) ?_
            refine msegT C kX4_readUnit 54 2 (g := (true, 104, [.ref (1), .ref (9), .int v2, .int x3], [.int (41 : Int32), .ref (1)], mk b S9)) rfl rfl ?_
            obtain ⟨S10, hq, hf⟩ := bndV_ex hf
            refine mcall (kd := 0) (vs := [.ref (1), .int (41 : Int32)]) (rest := []) (r := none) (h' := mk b S10) (ok' := true) C lkRX4_59 (qX4_takeSign hq) (kX4_readUnit _ (List.mem_of_getElem? (i := 56) rfl)).1 ⟨_, _, rfl, rfl, Nat.le_of_ble_eq_true rfl, _, _, rfl, rfl, rfl⟩ (by show 4 + 1 ≤ 8 + (d + 1); omega) (by show 19 + 2 + 100 * (4) ≤ 100 * (8 + (d + 1)); omega) (Nat.le_refl _) (Nat.le_refl _) (Nat.le_of_ble_eq_true rfl) ?_
            refine msegT C kX4_readUnit 57 1 (g := (true, 115, [.ref (1), .ref (9), .int v2, .int x3], [], mk b S10)) rfl rfl ?_
            exact mfor (L' := [.retAddr 0, .retAddr 0, .retAddr 0, .retAddr 0]) ⟨Or.inl rfl, Or.inl rfl, Or.inl rfl, Or.inl rfl, trivial⟩ (bX4_readUnit_115_9 C hr hk Hs0 Hs1 Hs2 Hs3 Hs4 Hs5 hf true)
      · rw [if_neg hc] at hf ⊢
        refine msegT C kX4_readUnit 31 4 (g := (true, 64, [.ref (1), .ref (9), .int v2, .int x3], [.int ((10000 : Int32) + x3), .ref (9)], mk b S2)) rfl rfl ?_
        obtain ⟨S11, hq, hf⟩ := bndV_ex hf
        refine mcall (kd := 0) (vs := [.ref (9), .int ((10000 : Int32) + x3)]) (rest := []) (r := none) (h' := mk b S11) (ok' := true) C lkRX4_122 (qX0_add_9 hq) (kX4_readUnit _ (List.mem_of_getElem? (i := 35) rfl)).1 ⟨_, _, rfl, rfl, Nat.le_of_ble_eq_true rfl, _, _, rfl, rfl, rfl⟩ (by show 1 + 1 ≤ 8 + (d + 1); omega) (by show 19 + 2 + 100 * (1) ≤ 100 * (8 + (d + 1)); omega) (Nat.le_refl _) (Nat.le_refl _) (Nat.le_of_ble_eq_true rfl) ?_
        refine msegT C kX4_readUnit 36 1 (g := (true, 68, [.ref (1), .ref (9), .int v2, .int x3], [.ref (1)], mk b S11)) rfl rfl ?_
        obtain ⟨S12, hq, hf⟩ := bndV_ex hf
        refine mcall (kd := 0) (vs := [.ref (1)]) (rest := []) (r := none) (h' := mk b S12) (ok' := true) C lkRX4_30 (qX4_advance hq) (kX4_readUnit _ (List.mem_of_getElem? (i := 37) rfl)).1 ⟨_, _, rfl, rfl, Nat.le_of_ble_eq_true rfl, _, _, rfl, rfl, rfl⟩ (by show 3 + 1 ≤ 8 + (d + 1); omega) (by show 19 + 1 + 100 * (3) ≤ 100 * (8 + (d + 1)); omega) (Nat.le_refl _) (Nat.le_refl _) (Nat.le_of_ble_eq_true rfl) ?_
        refine msegT C kX4_readUnit 38 1 (g := (true, 115, [.ref (1), .ref (9), .int v2, .int x3], [], mk b S12)) rfl rfl ?_
        exact mfor (L' := [.retAddr 0, .retAddr 0, .retAddr 0, .retAddr 0]) ⟨Or.inl rfl, Or.inl rfl, Or.inl rfl, Or.inl rfl, trivial⟩ (bX4_readUnit_115_9 C hr hk Hs0 Hs1 Hs2 Hs3 Hs4 Hs5 hf true)
  · rw [if_neg hc] at hf ⊢
    refine msegT C kX4_readUnit 4 2 (g := (true, 11, [.ref (1), .ref (9), .int v2, .retAddr 0], [.int (2 : Int32), .ref (1)], mk b S)) rfl rfl ?_
    obtain ⟨S13, hq, hf⟩ := bndV_ex hf
    refine mcall (kd := 0) (vs := [.ref (1), .int (2 : Int32)]) (rest := []) (r := none) (h' := mk b S13) (ok' := true) C lkRX4_79 (qX4_refuse hq) (kX4_readUnit _ (List.mem_of_getElem? (i := 6) rfl)).1 ⟨_, _, rfl, rfl, Nat.le_of_ble_eq_true rfl, _, _, rfl, rfl, rfl⟩ (by show 1 + 1 ≤ 8 + (d + 1); omega) (by show 19 + 2 + 100 * (1) ≤ 100 * (8 + (d + 1)); omega) (Nat.le_refl _) (Nat.le_refl _) (Nat.le_of_ble_eq_true rfl) ?_
    cases hf
    exact gret_v C hr hk (kX4_readUnit _ (List.mem_of_getElem? (i := 7) rfl)).1
theorem bX4_readUnit_115_12 {d : Nat} (C : mCx p (mR (8 + (d + 1))) s m args meth c G cX4_readUnit RX4 4 false 233 54500 233 54500) (hr : meth.sig.returnType = none) (hk : meth.locks = false) {b : Bool} {self : Nat → Nat → Int32 → mT → Option (mT)} (Hs0 : ∀ {v2 : Int32} {S S' : mT}, self 0 12 v2 S = some S' → mOk l mX4_readEither (8 + d) [.ref 1, .ref 12, .int v2] b S none S') (Hs1 : ∀ {v2 : Int32} {S S' : mT}, self 1 12 v2 S = some S' → mOk l mX4_readBoth (8 + d) [.ref 1, .ref 12, .int v2] b S none S') (Hs2 : ∀ {v2 : Int32} {S S' : mT}, self 2 12 v2 S = some S' → mOk l mX4_readOne (8 + d) [.ref 1, .ref 12, .int v2] b S none S') (Hs3 : ∀ {v2 : Int32} {S S' : mT}, self 3 12 v2 S = some S' → mOk l mX4_readSum (8 + d) [.ref 1, .ref 12, .int v2] b S none S') (Hs4 : ∀ {v2 : Int32} {S S' : mT}, self 4 12 v2 S = some S' → mOk l mX4_readTerm (8 + d) [.ref 1, .ref 12, .int v2] b S none S') (Hs5 : ∀ {v2 : Int32} {S S' : mT}, self 5 12 v2 S = some S' → mOk l mX4_readUnit (8 + d) [.ref 1, .ref 12, .int v2] b S none S') {S' : mT} {S : mT} (hf : fX4_readUnit_115 12 self S = some S') (ok : Bool) : mW p l e (mR (8 + (d + 1))) s m args below meth c G 4 233 54500 (mQ below G args s b S' none) (ok, 115, [.retAddr 0, .retAddr 0, .retAddr 0, .retAddr 0], [], mk b S) := by
  unfold fX4_readUnit_115 at hf
  cases hf
  exact gret_v C hr hk (kX4_readUnit _ (List.mem_of_getElem? (i := 61) rfl)).1
theorem bX4_readUnit_110_12 {d : Nat} (C : mCx p (mR (8 + (d + 1))) s m args meth c G cX4_readUnit RX4 4 false 233 54500 233 54500) (hr : meth.sig.returnType = none) (hk : meth.locks = false) {b : Bool} {self : Nat → Nat → Int32 → mT → Option (mT)} (Hs0 : ∀ {v2 : Int32} {S S' : mT}, self 0 12 v2 S = some S' → mOk l mX4_readEither (8 + d) [.ref 1, .ref 12, .int v2] b S none S') (Hs1 : ∀ {v2 : Int32} {S S' : mT}, self 1 12 v2 S = some S' → mOk l mX4_readBoth (8 + d) [.ref 1, .ref 12, .int v2] b S none S') (Hs2 : ∀ {v2 : Int32} {S S' : mT}, self 2 12 v2 S = some S' → mOk l mX4_readOne (8 + d) [.ref 1, .ref 12, .int v2] b S none S') (Hs3 : ∀ {v2 : Int32} {S S' : mT}, self 3 12 v2 S = some S' → mOk l mX4_readSum (8 + d) [.ref 1, .ref 12, .int v2] b S none S') (Hs4 : ∀ {v2 : Int32} {S S' : mT}, self 4 12 v2 S = some S' → mOk l mX4_readTerm (8 + d) [.ref 1, .ref 12, .int v2] b S none S') (Hs5 : ∀ {v2 : Int32} {S S' : mT}, self 5 12 v2 S = some S' → mOk l mX4_readUnit (8 + d) [.ref 1, .ref 12, .int v2] b S none S') {S' : mT} {S : mT} (hf : fX4_readUnit_110 12 self S = some S') (ok : Bool) : mW p l e (mR (8 + (d + 1))) s m args below meth c G 4 233 54500 (mQ below G args s b S' none) (ok, 110, [.ref (1), .retAddr 0, .retAddr 0, .retAddr 0], [], mk b S) := by
  unfold fX4_readUnit_110 at hf
  refine msegT C kX4_readUnit 58 2 (g := (true, 112, [.ref (1), .retAddr 0, .retAddr 0, .retAddr 0], [.int (2 : Int32), .ref (1)], mk b S)) rfl rfl ?_
  obtain ⟨S14, hq, hf⟩ := bndV_ex hf
  refine mcall (kd := 0) (vs := [.ref (1), .int (2 : Int32)]) (rest := []) (r := none) (h' := mk b S14) (ok' := true) C lkRX4_79 (qX4_refuse hq) (kX4_readUnit _ (List.mem_of_getElem? (i := 60) rfl)).1 ⟨_, _, rfl, rfl, Nat.le_of_ble_eq_true rfl, _, _, rfl, rfl, rfl⟩ (by show 1 + 1 ≤ 8 + (d + 1); omega) (by show 19 + 2 + 100 * (1) ≤ 100 * (8 + (d + 1)); omega) (Nat.le_refl _) (Nat.le_refl _) (Nat.le_of_ble_eq_true rfl) ?_
  exact mfor (L' := [.retAddr 0, .retAddr 0, .retAddr 0, .retAddr 0]) ⟨Or.inl rfl, Or.inl rfl, Or.inl rfl, Or.inl rfl, trivial⟩ (bX4_readUnit_115_12 C hr hk Hs0 Hs1 Hs2 Hs3 Hs4 Hs5 hf true)
theorem bX4_readUnit_0_12 {d : Nat} (C : mCx p (mR (8 + (d + 1))) s m args meth c G cX4_readUnit RX4 4 false 233 54500 233 54500) (hr : meth.sig.returnType = none) (hk : meth.locks = false) {b : Bool} {self : Nat → Nat → Int32 → mT → Option (mT)} (Hs0 : ∀ {v2 : Int32} {S S' : mT}, self 0 12 v2 S = some S' → mOk l mX4_readEither (8 + d) [.ref 1, .ref 12, .int v2] b S none S') (Hs1 : ∀ {v2 : Int32} {S S' : mT}, self 1 12 v2 S = some S' → mOk l mX4_readBoth (8 + d) [.ref 1, .ref 12, .int v2] b S none S') (Hs2 : ∀ {v2 : Int32} {S S' : mT}, self 2 12 v2 S = some S' → mOk l mX4_readOne (8 + d) [.ref 1, .ref 12, .int v2] b S none S') (Hs3 : ∀ {v2 : Int32} {S S' : mT}, self 3 12 v2 S = some S' → mOk l mX4_readSum (8 + d) [.ref 1, .ref 12, .int v2] b S none S') (Hs4 : ∀ {v2 : Int32} {S S' : mT}, self 4 12 v2 S = some S' → mOk l mX4_readTerm (8 + d) [.ref 1, .ref 12, .int v2] b S none S') (Hs5 : ∀ {v2 : Int32} {S S' : mT}, self 5 12 v2 S = some S' → mOk l mX4_readUnit (8 + d) [.ref 1, .ref 12, .int v2] b S none S') {S' : mT} {v2 : Int32} {S : mT} (hf : fX4_readUnit_0 12 self v2 S = some S') (ok : Bool) : mW p l e (mR (8 + (d + 1))) s m args below meth c G 4 233 54500 (mQ below G args s b S' none) (ok, 0, [.ref (1), .ref (12), .int v2, .retAddr 0], [], mk b S) := by
  unfold fX4_readUnit_0 at hf
  obtain ⟨hok, hf⟩ := grd_ex hf
  refine msegT C kX4_readUnit 0 4 (g := ((kO 12 0 && true), (if (S.1 12 3) < (30 : Int32) then 15 else 9), [.ref (1), .ref (12), .int v2, .retAddr 0], [], mk b S)) rfl hok ?_
  by_cases hc : (S.1 12 3) < (30 : Int32)
  · rw [if_pos hc] at hf ⊢
    obtain ⟨hok, hf⟩ := grd_ex hf
    refine msegT C kX4_readUnit 8 6 (g := ((kO 12 0 && (kO 12 0 && true)), 25, [.ref (1), .ref (12), .int v2, .retAddr 0], [], mk b (sI S 12 3 ((S.1 12 3) + (1 : Int32))))) rfl hok ?_
    obtain ⟨S1, eS1, hf⟩ := bnd_ex hf
    rw [← eS1]
    refine msegT C kX4_readUnit 14 1 (g := (true, 26, [.ref (1), .ref (12), .int v2, .retAddr 0], [.ref (1)], mk b S1)) rfl rfl ?_
    obtain ⟨x3, S2, hq, hf⟩ := bndC_ex hf
    refine mcall (kd := 0) (vs := [.ref (1)]) (rest := []) (r := (some (.int x3))) (h' := mk b S2) (ok' := true) C lkRX4_152 (qX4_valueNamed hq) (kX4_readUnit _ (List.mem_of_getElem? (i := 15) rfl)).1 ⟨_, _, rfl, rfl, Nat.le_of_ble_eq_true rfl, _, _, rfl, rfl, rfl⟩ (by show 7 + 1 ≤ 8 + (d + 1); omega) (by show 19 + 1 + 100 * (7) ≤ 100 * (8 + (d + 1)); omega) (Nat.le_refl _) (Nat.le_refl _) (Nat.le_of_ble_eq_true rfl) ?_
    obtain ⟨hok, hf⟩ := grd_ex hf
    refine msegT C kX4_readUnit 16 5 (g := ((kO 1 4 && true), (if (S2.1 1 4) = (2 : Int32) then 38 else 53), [.ref (1), .ref (12), .int v2, .int x3], [], mk b S2)) rfl hok ?_
    by_cases hc : (S2.1 1 4) = (2 : Int32)
    · rw [if_pos hc] at hf ⊢
      obtain ⟨hok, hf⟩ := grd_ex hf
      refine msegT C kX4_readUnit 21 3 (g := ((kO 1 4 && true), 43, [.ref (1), .ref (12), .int v2, .int x3], [.int (S2.1 1 7), .ref (12)], mk b S2)) rfl hok ?_
      obtain ⟨S4, hq, hf⟩ := bndV_ex hf
      refine mcall (kd := 0) (vs := [.ref (12), .int (S2.1 1 7)]) (rest := []) (r := none) (h' := mk b S4) (ok' := true) C lkRX4_122 (qX0_add_12 hq) (kX4_readUnit _ (List.mem_of_getElem? (i := 24) rfl)).1 ⟨_, _, rfl, rfl, Nat.le_of_ble_eq_true rfl, _, _, rfl, rfl, rfl⟩ (by show 1 + 1 ≤ 8 + (d + 1); omega) (by show 19 + 2 + 100 * (1) ≤ 100 * (8 + (d + 1)); omega) (Nat.le_refl _) (Nat.le_refl _) (Nat.le_of_ble_eq_true rfl) ?_
      refine msegT C kX4_readUnit 25 1 (g := (true, 47, [.ref (1), .ref (12), .int v2, .int x3], [.ref (1)], mk b S4)) rfl rfl ?_
      obtain ⟨S5, hq, hf⟩ := bndV_ex hf
      refine mcall (kd := 0) (vs := [.ref (1)]) (rest := []) (r := none) (h' := mk b S5) (ok' := true) C lkRX4_30 (qX4_advance hq) (kX4_readUnit _ (List.mem_of_getElem? (i := 26) rfl)).1 ⟨_, _, rfl, rfl, Nat.le_of_ble_eq_true rfl, _, _, rfl, rfl, rfl⟩ (by show 3 + 1 ≤ 8 + (d + 1); omega) (by show 19 + 1 + 100 * (3) ≤ 100 * (8 + (d + 1)); omega) (Nat.le_refl _) (Nat.le_refl _) (Nat.le_of_ble_eq_true rfl) ?_
      refine msegT C kX4_readUnit 27 1 (g := (true, 115, [.ref (1), .ref (12), .int v2, .int x3], [], mk b S5)) rfl rfl ?_
      exact mfor (L' := [.retAddr 0, .retAddr 0, .retAddr 0, .retAddr 0]) ⟨Or.inl rfl, Or.inl rfl, Or.inl rfl, Or.inl rfl, trivial⟩ (bX4_readUnit_115_12 C hr hk Hs0 Hs1 Hs2 Hs3 Hs4 Hs5 hf true)
    · rw [if_neg hc] at hf ⊢
      refine msegT C kX4_readUnit 28 3 (g := (true, (if x3 = (-1 : Int32) then 74 else 58), [.ref (1), .ref (12), .int v2, .int x3], [], mk b S2)) rfl rfl ?_
      by_cases hc : x3 = (-1 : Int32)
      · rw [if_pos hc] at hf ⊢
        refine msegT C kX4_readUnit 39 2 (g := (true, 77, [.ref (1), .ref (12), .int v2, .int x3], [.int (40 : Int32), .ref (1)], mk b S2)) rfl rfl ?_
        obtain ⟨x7, S6, hq, hf⟩ := bndC_ex hf
        refine mcall (kd := 0) (vs := [.ref (1), .int (40 : Int32)]) (rest := []) (r := (some (.int x7))) (h' := mk b S6) (ok' := true) C lkRX4_135 (qX4_isSign hq) (kX4_readUnit _ (List.mem_of_getElem? (i := 41) rfl)).1 ⟨_, _, rfl, rfl, Nat.le_of_ble_eq_true rfl, _, _, rfl, rfl, rfl⟩ (by show 1 + 1 ≤ 8 + (d + 1); omega) (by show 19 + 2 + 100 * (1) ≤ 100 * (8 + (d + 1)); omega) (Nat.le_refl _) (Nat.le_refl _) (Nat.le_of_ble_eq_true rfl) ?_
        refine msegT C kX4_readUnit 42 1 (g := (true, (if x7 = 0 then 110 else 83), [.ref (1), .ref (12), .int v2, .int x3], [], mk b S6)) rfl rfl ?_
        by_cases hc : x7 = 0
        · rw [if_pos hc] at hf ⊢
          exact mfor (L' := [.ref (1), .retAddr 0, .retAddr 0, .retAddr 0]) ⟨Or.inr rfl, Or.inl rfl, Or.inl rfl, Or.inl rfl, trivial⟩ (bX4_readUnit_110_12 C hr hk Hs0 Hs1 Hs2 Hs3 Hs4 Hs5 hf true)
        · rw [if_neg hc] at hf ⊢
          refine msegT C kX4_readUnit 43 3 (g := (true, (if (6 : Int32) < v2 then 110 else 89), [.ref (1), .ref (12), .int v2, .int x3], [], mk b S6)) rfl rfl ?_
          by_cases hc : (6 : Int32) < v2
          · rw [if_pos hc] at hf ⊢
            exact mfor (L' := [.ref (1), .retAddr 0, .retAddr 0, .retAddr 0]) ⟨Or.inr rfl, Or.inl rfl, Or.inl rfl, Or.inl rfl, trivial⟩ (bX4_readUnit_110_12 C hr hk Hs0 Hs1 Hs2 Hs3 Hs4 Hs5 hf true)
          · rw [if_neg hc] at hf ⊢
            refine msegT C kX4_readUnit 46 1 (g := (true, 90, [.ref (1), .ref (12), .int v2, .int x3], [.ref (1)], mk b S6)) rfl rfl ?_
            obtain ⟨S8, hq, hf⟩ := bndV_ex hf
            refine mcall (kd := 0) (vs := [.ref (1)]) (rest := []) (r := none) (h' := mk b S8) (ok' := true) C lkRX4_30 (qX4_advance hq) (kX4_readUnit _ (List.mem_of_getElem? (i := 47) rfl)).1 ⟨_, _, rfl, rfl, Nat.le_of_ble_eq_true rfl, _, _, rfl, rfl, rfl⟩ (by show 3 + 1 ≤ 8 + (d + 1); omega) (by show 19 + 1 + 100 * (3) ≤ 100 * (8 + (d + 1)); omega) (Nat.le_refl _) (Nat.le_refl _) (Nat.le_of_ble_eq_true rfl) ?_
            refine msegT C kX4_readUnit 48 5 (g := (true, 98, [.ref (1), .ref (12), .int v2, .int x3], [.int (v2 + (1 : Int32)), .ref (12), .ref (1)], mk b S8)) rfl rfl ?_
            obtain ⟨S9, hq, hf⟩ := bndV_ex hf
            refine mcall (kd := 0) (vs := [.ref (1), .ref (12), .int (v2 + (1 : Int32))]) (rest := []) (r := none) (h' := mk b S9) (ok' := true) C lkRX4_113 (Hs0 hq) (kX4_readUnit _ (List.mem_of_getElem? (i := 53) rfl)).1 ⟨_, _, rfl, rfl, Nat.le_of_ble_eq_true rfl, _, _, rfl, rfl, rfl⟩ (by show 8 + d + 1 ≤ 8 + (d + 1); omega) (by show 19 + 4 + 100 * (8 + d) ≤ 100 * (8 + (d + 1)); omega) (Nat.le_refl _) (Nat.le_refl _) (Nat.le_of_ble_eq_true rfl) ?_
            refine msegT C kX4_readUnit 54 2 (g := (true, 104, [.ref (1), .ref (12), .int v2, .int x3], [.int (41 : Int32), .ref (1)], mk b S9)) rfl rfl ?_
            obtain ⟨S10, hq, hf⟩ := bndV_ex hf
            refine mcall (kd := 0) (vs := [.ref (1), .int (41 : Int32)]) (rest := []) (r := none) (h' := mk b S10) (ok' := true) C lkRX4_59 (qX4_takeSign hq) (kX4_readUnit _ (List.mem_of_getElem? (i := 56) rfl)).1 ⟨_, _, rfl, rfl, Nat.le_of_ble_eq_true rfl, _, _, rfl, rfl, rfl⟩ (by show 4 + 1 ≤ 8 + (d + 1); omega) (by show 19 + 2 + 100 * (4) ≤ 100 * (8 + (d + 1)); omega) (Nat.le_refl _) (Nat.le_refl _) (Nat.le_of_ble_eq_true rfl) ?_
            refine msegT C kX4_readUnit 57 1 (g := (true, 115, [.ref (1), .ref (12), .int v2, .int x3], [], mk b S10)) rfl rfl ?_
            exact mfor (L' := [.retAddr 0, .retAddr 0, .retAddr 0, .retAddr 0]) ⟨Or.inl rfl, Or.inl rfl, Or.inl rfl, Or.inl rfl, trivial⟩ (bX4_readUnit_115_12 C hr hk Hs0 Hs1 Hs2 Hs3 Hs4 Hs5 hf true)
      · rw [if_neg hc] at hf ⊢
        refine msegT C kX4_readUnit 31 4 (g := (true, 64, [.ref (1), .ref (12), .int v2, .int x3], [.int ((10000 : Int32) + x3), .ref (12)], mk b S2)) rfl rfl ?_
        obtain ⟨S11, hq, hf⟩ := bndV_ex hf
        refine mcall (kd := 0) (vs := [.ref (12), .int ((10000 : Int32) + x3)]) (rest := []) (r := none) (h' := mk b S11) (ok' := true) C lkRX4_122 (qX0_add_12 hq) (kX4_readUnit _ (List.mem_of_getElem? (i := 35) rfl)).1 ⟨_, _, rfl, rfl, Nat.le_of_ble_eq_true rfl, _, _, rfl, rfl, rfl⟩ (by show 1 + 1 ≤ 8 + (d + 1); omega) (by show 19 + 2 + 100 * (1) ≤ 100 * (8 + (d + 1)); omega) (Nat.le_refl _) (Nat.le_refl _) (Nat.le_of_ble_eq_true rfl) ?_
        refine msegT C kX4_readUnit 36 1 (g := (true, 68, [.ref (1), .ref (12), .int v2, .int x3], [.ref (1)], mk b S11)) rfl rfl ?_
        obtain ⟨S12, hq, hf⟩ := bndV_ex hf
        refine mcall (kd := 0) (vs := [.ref (1)]) (rest := []) (r := none) (h' := mk b S12) (ok' := true) C lkRX4_30 (qX4_advance hq) (kX4_readUnit _ (List.mem_of_getElem? (i := 37) rfl)).1 ⟨_, _, rfl, rfl, Nat.le_of_ble_eq_true rfl, _, _, rfl, rfl, rfl⟩ (by show 3 + 1 ≤ 8 + (d + 1); omega) (by show 19 + 1 + 100 * (3) ≤ 100 * (8 + (d + 1)); omega) (Nat.le_refl _) (Nat.le_refl _) (Nat.le_of_ble_eq_true rfl) ?_
        refine msegT C kX4_readUnit 38 1 (g := (true, 115, [.ref (1), .ref (12), .int v2, .int x3], [], mk b S12)) rfl rfl ?_
        exact mfor (L' := [.retAddr 0, .retAddr 0, .retAddr 0, .retAddr 0]) ⟨Or.inl rfl, Or.inl rfl, Or.inl rfl, Or.inl rfl, trivial⟩ (bX4_readUnit_115_12 C hr hk Hs0 Hs1 Hs2 Hs3 Hs4 Hs5 hf true)
  · rw [if_neg hc] at hf ⊢
    refine msegT C kX4_readUnit 4 2 (g := (true, 11, [.ref (1), .ref (12), .int v2, .retAddr 0], [.int (2 : Int32), .ref (1)], mk b S)) rfl rfl ?_
    obtain ⟨S13, hq, hf⟩ := bndV_ex hf
    refine mcall (kd := 0) (vs := [.ref (1), .int (2 : Int32)]) (rest := []) (r := none) (h' := mk b S13) (ok' := true) C lkRX4_79 (qX4_refuse hq) (kX4_readUnit _ (List.mem_of_getElem? (i := 6) rfl)).1 ⟨_, _, rfl, rfl, Nat.le_of_ble_eq_true rfl, _, _, rfl, rfl, rfl⟩ (by show 1 + 1 ≤ 8 + (d + 1); omega) (by show 19 + 2 + 100 * (1) ≤ 100 * (8 + (d + 1)); omega) (Nat.le_refl _) (Nat.le_refl _) (Nat.le_of_ble_eq_true rfl) ?_
    cases hf
    exact gret_v C hr hk (kX4_readUnit _ (List.mem_of_getElem? (i := 7) rfl)).1
theorem bX4_readUnit_115_15 {d : Nat} (C : mCx p (mR (8 + (d + 1))) s m args meth c G cX4_readUnit RX4 4 false 233 54500 233 54500) (hr : meth.sig.returnType = none) (hk : meth.locks = false) {b : Bool} {self : Nat → Nat → Int32 → mT → Option (mT)} (Hs0 : ∀ {v2 : Int32} {S S' : mT}, self 0 15 v2 S = some S' → mOk l mX4_readEither (8 + d) [.ref 1, .ref 15, .int v2] b S none S') (Hs1 : ∀ {v2 : Int32} {S S' : mT}, self 1 15 v2 S = some S' → mOk l mX4_readBoth (8 + d) [.ref 1, .ref 15, .int v2] b S none S') (Hs2 : ∀ {v2 : Int32} {S S' : mT}, self 2 15 v2 S = some S' → mOk l mX4_readOne (8 + d) [.ref 1, .ref 15, .int v2] b S none S') (Hs3 : ∀ {v2 : Int32} {S S' : mT}, self 3 15 v2 S = some S' → mOk l mX4_readSum (8 + d) [.ref 1, .ref 15, .int v2] b S none S') (Hs4 : ∀ {v2 : Int32} {S S' : mT}, self 4 15 v2 S = some S' → mOk l mX4_readTerm (8 + d) [.ref 1, .ref 15, .int v2] b S none S') (Hs5 : ∀ {v2 : Int32} {S S' : mT}, self 5 15 v2 S = some S' → mOk l mX4_readUnit (8 + d) [.ref 1, .ref 15, .int v2] b S none S') {S' : mT} {S : mT} (hf : fX4_readUnit_115 15 self S = some S') (ok : Bool) : mW p l e (mR (8 + (d + 1))) s m args below meth c G 4 233 54500 (mQ below G args s b S' none) (ok, 115, [.retAddr 0, .retAddr 0, .retAddr 0, .retAddr 0], [], mk b S) := by
  unfold fX4_readUnit_115 at hf
  cases hf
  exact gret_v C hr hk (kX4_readUnit _ (List.mem_of_getElem? (i := 61) rfl)).1
theorem bX4_readUnit_110_15 {d : Nat} (C : mCx p (mR (8 + (d + 1))) s m args meth c G cX4_readUnit RX4 4 false 233 54500 233 54500) (hr : meth.sig.returnType = none) (hk : meth.locks = false) {b : Bool} {self : Nat → Nat → Int32 → mT → Option (mT)} (Hs0 : ∀ {v2 : Int32} {S S' : mT}, self 0 15 v2 S = some S' → mOk l mX4_readEither (8 + d) [.ref 1, .ref 15, .int v2] b S none S') (Hs1 : ∀ {v2 : Int32} {S S' : mT}, self 1 15 v2 S = some S' → mOk l mX4_readBoth (8 + d) [.ref 1, .ref 15, .int v2] b S none S') (Hs2 : ∀ {v2 : Int32} {S S' : mT}, self 2 15 v2 S = some S' → mOk l mX4_readOne (8 + d) [.ref 1, .ref 15, .int v2] b S none S') (Hs3 : ∀ {v2 : Int32} {S S' : mT}, self 3 15 v2 S = some S' → mOk l mX4_readSum (8 + d) [.ref 1, .ref 15, .int v2] b S none S') (Hs4 : ∀ {v2 : Int32} {S S' : mT}, self 4 15 v2 S = some S' → mOk l mX4_readTerm (8 + d) [.ref 1, .ref 15, .int v2] b S none S') (Hs5 : ∀ {v2 : Int32} {S S' : mT}, self 5 15 v2 S = some S' → mOk l mX4_readUnit (8 + d) [.ref 1, .ref 15, .int v2] b S none S') {S' : mT} {S : mT} (hf : fX4_readUnit_110 15 self S = some S') (ok : Bool) : mW p l e (mR (8 + (d + 1))) s m args below meth c G 4 233 54500 (mQ below G args s b S' none) (ok, 110, [.ref (1), .retAddr 0, .retAddr 0, .retAddr 0], [], mk b S) := by
  unfold fX4_readUnit_110 at hf
  refine msegT C kX4_readUnit 58 2 (g := (true, 112, [.ref (1), .retAddr 0, .retAddr 0, .retAddr 0], [.int (2 : Int32), .ref (1)], mk b S)) rfl rfl ?_
  obtain ⟨S14, hq, hf⟩ := bndV_ex hf
  refine mcall (kd := 0) (vs := [.ref (1), .int (2 : Int32)]) (rest := []) (r := none) (h' := mk b S14) (ok' := true) C lkRX4_79 (qX4_refuse hq) (kX4_readUnit _ (List.mem_of_getElem? (i := 60) rfl)).1 ⟨_, _, rfl, rfl, Nat.le_of_ble_eq_true rfl, _, _, rfl, rfl, rfl⟩ (by show 1 + 1 ≤ 8 + (d + 1); omega) (by show 19 + 2 + 100 * (1) ≤ 100 * (8 + (d + 1)); omega) (Nat.le_refl _) (Nat.le_refl _) (Nat.le_of_ble_eq_true rfl) ?_
  exact mfor (L' := [.retAddr 0, .retAddr 0, .retAddr 0, .retAddr 0]) ⟨Or.inl rfl, Or.inl rfl, Or.inl rfl, Or.inl rfl, trivial⟩ (bX4_readUnit_115_15 C hr hk Hs0 Hs1 Hs2 Hs3 Hs4 Hs5 hf true)
theorem bX4_readUnit_0_15 {d : Nat} (C : mCx p (mR (8 + (d + 1))) s m args meth c G cX4_readUnit RX4 4 false 233 54500 233 54500) (hr : meth.sig.returnType = none) (hk : meth.locks = false) {b : Bool} {self : Nat → Nat → Int32 → mT → Option (mT)} (Hs0 : ∀ {v2 : Int32} {S S' : mT}, self 0 15 v2 S = some S' → mOk l mX4_readEither (8 + d) [.ref 1, .ref 15, .int v2] b S none S') (Hs1 : ∀ {v2 : Int32} {S S' : mT}, self 1 15 v2 S = some S' → mOk l mX4_readBoth (8 + d) [.ref 1, .ref 15, .int v2] b S none S') (Hs2 : ∀ {v2 : Int32} {S S' : mT}, self 2 15 v2 S = some S' → mOk l mX4_readOne (8 + d) [.ref 1, .ref 15, .int v2] b S none S') (Hs3 : ∀ {v2 : Int32} {S S' : mT}, self 3 15 v2 S = some S' → mOk l mX4_readSum (8 + d) [.ref 1, .ref 15, .int v2] b S none S') (Hs4 : ∀ {v2 : Int32} {S S' : mT}, self 4 15 v2 S = some S' → mOk l mX4_readTerm (8 + d) [.ref 1, .ref 15, .int v2] b S none S') (Hs5 : ∀ {v2 : Int32} {S S' : mT}, self 5 15 v2 S = some S' → mOk l mX4_readUnit (8 + d) [.ref 1, .ref 15, .int v2] b S none S') {S' : mT} {v2 : Int32} {S : mT} (hf : fX4_readUnit_0 15 self v2 S = some S') (ok : Bool) : mW p l e (mR (8 + (d + 1))) s m args below meth c G 4 233 54500 (mQ below G args s b S' none) (ok, 0, [.ref (1), .ref (15), .int v2, .retAddr 0], [], mk b S) := by
  unfold fX4_readUnit_0 at hf
  obtain ⟨hok, hf⟩ := grd_ex hf
  refine msegT C kX4_readUnit 0 4 (g := ((kO 15 0 && true), (if (S.1 15 3) < (30 : Int32) then 15 else 9), [.ref (1), .ref (15), .int v2, .retAddr 0], [], mk b S)) rfl hok ?_
  by_cases hc : (S.1 15 3) < (30 : Int32)
  · rw [if_pos hc] at hf ⊢
    obtain ⟨hok, hf⟩ := grd_ex hf
    refine msegT C kX4_readUnit 8 6 (g := ((kO 15 0 && (kO 15 0 && true)), 25, [.ref (1), .ref (15), .int v2, .retAddr 0], [], mk b (sI S 15 3 ((S.1 15 3) + (1 : Int32))))) rfl hok ?_
    obtain ⟨S1, eS1, hf⟩ := bnd_ex hf
    rw [← eS1]
    refine msegT C kX4_readUnit 14 1 (g := (true, 26, [.ref (1), .ref (15), .int v2, .retAddr 0], [.ref (1)], mk b S1)) rfl rfl ?_
    obtain ⟨x3, S2, hq, hf⟩ := bndC_ex hf
    refine mcall (kd := 0) (vs := [.ref (1)]) (rest := []) (r := (some (.int x3))) (h' := mk b S2) (ok' := true) C lkRX4_152 (qX4_valueNamed hq) (kX4_readUnit _ (List.mem_of_getElem? (i := 15) rfl)).1 ⟨_, _, rfl, rfl, Nat.le_of_ble_eq_true rfl, _, _, rfl, rfl, rfl⟩ (by show 7 + 1 ≤ 8 + (d + 1); omega) (by show 19 + 1 + 100 * (7) ≤ 100 * (8 + (d + 1)); omega) (Nat.le_refl _) (Nat.le_refl _) (Nat.le_of_ble_eq_true rfl) ?_
    obtain ⟨hok, hf⟩ := grd_ex hf
    refine msegT C kX4_readUnit 16 5 (g := ((kO 1 4 && true), (if (S2.1 1 4) = (2 : Int32) then 38 else 53), [.ref (1), .ref (15), .int v2, .int x3], [], mk b S2)) rfl hok ?_
    by_cases hc : (S2.1 1 4) = (2 : Int32)
    · rw [if_pos hc] at hf ⊢
      obtain ⟨hok, hf⟩ := grd_ex hf
      refine msegT C kX4_readUnit 21 3 (g := ((kO 1 4 && true), 43, [.ref (1), .ref (15), .int v2, .int x3], [.int (S2.1 1 7), .ref (15)], mk b S2)) rfl hok ?_
      obtain ⟨S4, hq, hf⟩ := bndV_ex hf
      refine mcall (kd := 0) (vs := [.ref (15), .int (S2.1 1 7)]) (rest := []) (r := none) (h' := mk b S4) (ok' := true) C lkRX4_122 (qX0_add_15 hq) (kX4_readUnit _ (List.mem_of_getElem? (i := 24) rfl)).1 ⟨_, _, rfl, rfl, Nat.le_of_ble_eq_true rfl, _, _, rfl, rfl, rfl⟩ (by show 1 + 1 ≤ 8 + (d + 1); omega) (by show 19 + 2 + 100 * (1) ≤ 100 * (8 + (d + 1)); omega) (Nat.le_refl _) (Nat.le_refl _) (Nat.le_of_ble_eq_true rfl) ?_
      refine msegT C kX4_readUnit 25 1 (g := (true, 47, [.ref (1), .ref (15), .int v2, .int x3], [.ref (1)], mk b S4)) rfl rfl ?_
      obtain ⟨S5, hq, hf⟩ := bndV_ex hf
      refine mcall (kd := 0) (vs := [.ref (1)]) (rest := []) (r := none) (h' := mk b S5) (ok' := true) C lkRX4_30 (qX4_advance hq) (kX4_readUnit _ (List.mem_of_getElem? (i := 26) rfl)).1 ⟨_, _, rfl, rfl, Nat.le_of_ble_eq_true rfl, _, _, rfl, rfl, rfl⟩ (by show 3 + 1 ≤ 8 + (d + 1); omega) (by show 19 + 1 + 100 * (3) ≤ 100 * (8 + (d + 1)); omega) (Nat.le_refl _) (Nat.le_refl _) (Nat.le_of_ble_eq_true rfl) ?_
      refine msegT C kX4_readUnit 27 1 (g := (true, 115, [.ref (1), .ref (15), .int v2, .int x3], [], mk b S5)) rfl rfl ?_
      exact mfor (L' := [.retAddr 0, .retAddr 0, .retAddr 0, .retAddr 0]) ⟨Or.inl rfl, Or.inl rfl, Or.inl rfl, Or.inl rfl, trivial⟩ (bX4_readUnit_115_15 C hr hk Hs0 Hs1 Hs2 Hs3 Hs4 Hs5 hf true)
    · rw [if_neg hc] at hf ⊢
      refine msegT C kX4_readUnit 28 3 (g := (true, (if x3 = (-1 : Int32) then 74 else 58), [.ref (1), .ref (15), .int v2, .int x3], [], mk b S2)) rfl rfl ?_
      by_cases hc : x3 = (-1 : Int32)
      · rw [if_pos hc] at hf ⊢
        refine msegT C kX4_readUnit 39 2 (g := (true, 77, [.ref (1), .ref (15), .int v2, .int x3], [.int (40 : Int32), .ref (1)], mk b S2)) rfl rfl ?_
        obtain ⟨x7, S6, hq, hf⟩ := bndC_ex hf
        refine mcall (kd := 0) (vs := [.ref (1), .int (40 : Int32)]) (rest := []) (r := (some (.int x7))) (h' := mk b S6) (ok' := true) C lkRX4_135 (qX4_isSign hq) (kX4_readUnit _ (List.mem_of_getElem? (i := 41) rfl)).1 ⟨_, _, rfl, rfl, Nat.le_of_ble_eq_true rfl, _, _, rfl, rfl, rfl⟩ (by show 1 + 1 ≤ 8 + (d + 1); omega) (by show 19 + 2 + 100 * (1) ≤ 100 * (8 + (d + 1)); omega) (Nat.le_refl _) (Nat.le_refl _) (Nat.le_of_ble_eq_true rfl) ?_
        refine msegT C kX4_readUnit 42 1 (g := (true, (if x7 = 0 then 110 else 83), [.ref (1), .ref (15), .int v2, .int x3], [], mk b S6)) rfl rfl ?_
        by_cases hc : x7 = 0
        · rw [if_pos hc] at hf ⊢
          exact mfor (L' := [.ref (1), .retAddr 0, .retAddr 0, .retAddr 0]) ⟨Or.inr rfl, Or.inl rfl, Or.inl rfl, Or.inl rfl, trivial⟩ (bX4_readUnit_110_15 C hr hk Hs0 Hs1 Hs2 Hs3 Hs4 Hs5 hf true)
        · rw [if_neg hc] at hf ⊢
          refine msegT C kX4_readUnit 43 3 (g := (true, (if (6 : Int32) < v2 then 110 else 89), [.ref (1), .ref (15), .int v2, .int x3], [], mk b S6)) rfl rfl ?_
          by_cases hc : (6 : Int32) < v2
          · rw [if_pos hc] at hf ⊢
            exact mfor (L' := [.ref (1), .retAddr 0, .retAddr 0, .retAddr 0]) ⟨Or.inr rfl, Or.inl rfl, Or.inl rfl, Or.inl rfl, trivial⟩ (bX4_readUnit_110_15 C hr hk Hs0 Hs1 Hs2 Hs3 Hs4 Hs5 hf true)
          · rw [if_neg hc] at hf ⊢
            refine msegT C kX4_readUnit 46 1 (g := (true, 90, [.ref (1), .ref (15), .int v2, .int x3], [.ref (1)], mk b S6)) rfl rfl ?_
            obtain ⟨S8, hq, hf⟩ := bndV_ex hf
            refine mcall (kd := 0) (vs := [.ref (1)]) (rest := []) (r := none) (h' := mk b S8) (ok' := true) C lkRX4_30 (qX4_advance hq) (kX4_readUnit _ (List.mem_of_getElem? (i := 47) rfl)).1 ⟨_, _, rfl, rfl, Nat.le_of_ble_eq_true rfl, _, _, rfl, rfl, rfl⟩ (by show 3 + 1 ≤ 8 + (d + 1); omega) (by show 19 + 1 + 100 * (3) ≤ 100 * (8 + (d + 1)); omega) (Nat.le_refl _) (Nat.le_refl _) (Nat.le_of_ble_eq_true rfl) ?_
            refine msegT C kX4_readUnit 48 5 (g := (true, 98, [.ref (1), .ref (15), .int v2, .int x3], [.int (v2 + (1 : Int32)), .ref (15), .ref (1)], mk b S8)) rfl rfl ?_
            obtain ⟨S9, hq, hf⟩ := bndV_ex hf
            refine mcall (kd := 0) (vs := [.ref (1), .ref (15), .int (v2 + (1 : Int32))]) (rest := []) (r := none) (h' := mk b S9) (ok' := true) C lkRX4_113 (Hs0 hq) (kX4_readUnit _ (List.mem_of_getElem? (i := 53) rfl)).1 ⟨_, _, rfl, rfl, Nat.le_of_ble_eq_true rfl, _, _, rfl, rfl, rfl⟩ (by show 8 + d + 1 ≤ 8 + (d + 1); omega) (by show 19 + 4 + 100 * (8 + d) ≤ 100 * (8 + (d + 1)); omega) (Nat.le_refl _) (Nat.le_refl _) (Nat.le_of_ble_eq_true rfl) ?_
            refine msegT C kX4_readUnit 54 2 (g := (true, 104, [.ref (1), .ref (15), .int v2, .int x3], [.int (41 : Int32), .ref (1)], mk b S9)) rfl rfl ?_
            obtain ⟨S10, hq, hf⟩ := bndV_ex hf
            refine mcall (kd := 0) (vs := [.ref (1), .int (41 : Int32)]) (rest := []) (r := none) (h' := mk b S10) (ok' := true) C lkRX4_59 (qX4_takeSign hq) (kX4_readUnit _ (List.mem_of_getElem? (i := 56) rfl)).1 ⟨_, _, rfl, rfl, Nat.le_of_ble_eq_true rfl, _, _, rfl, rfl, rfl⟩ (by show 4 + 1 ≤ 8 + (d + 1); omega) (by show 19 + 2 + 100 * (4) ≤ 100 * (8 + (d + 1)); omega) (Nat.le_refl _) (Nat.le_refl _) (Nat.le_of_ble_eq_true rfl) ?_
            refine msegT C kX4_readUnit 57 1 (g := (true, 115, [.ref (1), .ref (15), .int v2, .int x3], [], mk b S10)) rfl rfl ?_
            exact mfor (L' := [.retAddr 0, .retAddr 0, .retAddr 0, .retAddr 0]) ⟨Or.inl rfl, Or.inl rfl, Or.inl rfl, Or.inl rfl, trivial⟩ (bX4_readUnit_115_15 C hr hk Hs0 Hs1 Hs2 Hs3 Hs4 Hs5 hf true)
      · rw [if_neg hc] at hf ⊢
        refine msegT C kX4_readUnit 31 4 (g := (true, 64, [.ref (1), .ref (15), .int v2, .int x3], [.int ((10000 : Int32) + x3), .ref (15)], mk b S2)) rfl rfl ?_
        obtain ⟨S11, hq, hf⟩ := bndV_ex hf
        refine mcall (kd := 0) (vs := [.ref (15), .int ((10000 : Int32) + x3)]) (rest := []) (r := none) (h' := mk b S11) (ok' := true) C lkRX4_122 (qX0_add_15 hq) (kX4_readUnit _ (List.mem_of_getElem? (i := 35) rfl)).1 ⟨_, _, rfl, rfl, Nat.le_of_ble_eq_true rfl, _, _, rfl, rfl, rfl⟩ (by show 1 + 1 ≤ 8 + (d + 1); omega) (by show 19 + 2 + 100 * (1) ≤ 100 * (8 + (d + 1)); omega) (Nat.le_refl _) (Nat.le_refl _) (Nat.le_of_ble_eq_true rfl) ?_
        refine msegT C kX4_readUnit 36 1 (g := (true, 68, [.ref (1), .ref (15), .int v2, .int x3], [.ref (1)], mk b S11)) rfl rfl ?_
        obtain ⟨S12, hq, hf⟩ := bndV_ex hf
        refine mcall (kd := 0) (vs := [.ref (1)]) (rest := []) (r := none) (h' := mk b S12) (ok' := true) C lkRX4_30 (qX4_advance hq) (kX4_readUnit _ (List.mem_of_getElem? (i := 37) rfl)).1 ⟨_, _, rfl, rfl, Nat.le_of_ble_eq_true rfl, _, _, rfl, rfl, rfl⟩ (by show 3 + 1 ≤ 8 + (d + 1); omega) (by show 19 + 1 + 100 * (3) ≤ 100 * (8 + (d + 1)); omega) (Nat.le_refl _) (Nat.le_refl _) (Nat.le_of_ble_eq_true rfl) ?_
        refine msegT C kX4_readUnit 38 1 (g := (true, 115, [.ref (1), .ref (15), .int v2, .int x3], [], mk b S12)) rfl rfl ?_
        exact mfor (L' := [.retAddr 0, .retAddr 0, .retAddr 0, .retAddr 0]) ⟨Or.inl rfl, Or.inl rfl, Or.inl rfl, Or.inl rfl, trivial⟩ (bX4_readUnit_115_15 C hr hk Hs0 Hs1 Hs2 Hs3 Hs4 Hs5 hf true)
  · rw [if_neg hc] at hf ⊢
    refine msegT C kX4_readUnit 4 2 (g := (true, 11, [.ref (1), .ref (15), .int v2, .retAddr 0], [.int (2 : Int32), .ref (1)], mk b S)) rfl rfl ?_
    obtain ⟨S13, hq, hf⟩ := bndV_ex hf
    refine mcall (kd := 0) (vs := [.ref (1), .int (2 : Int32)]) (rest := []) (r := none) (h' := mk b S13) (ok' := true) C lkRX4_79 (qX4_refuse hq) (kX4_readUnit _ (List.mem_of_getElem? (i := 6) rfl)).1 ⟨_, _, rfl, rfl, Nat.le_of_ble_eq_true rfl, _, _, rfl, rfl, rfl⟩ (by show 1 + 1 ≤ 8 + (d + 1); omega) (by show 19 + 2 + 100 * (1) ≤ 100 * (8 + (d + 1)); omega) (Nat.le_refl _) (Nat.le_refl _) (Nat.le_of_ble_eq_true rfl) ?_
    cases hf
    exact gret_v C hr hk (kX4_readUnit _ (List.mem_of_getElem? (i := 7) rfl)).1
theorem bX4_readUnit_115_25 {d : Nat} (C : mCx p (mR (8 + (d + 1))) s m args meth c G cX4_readUnit RX4 4 false 233 54500 233 54500) (hr : meth.sig.returnType = none) (hk : meth.locks = false) {b : Bool} {self : Nat → Nat → Int32 → mT → Option (mT)} (Hs0 : ∀ {v2 : Int32} {S S' : mT}, self 0 25 v2 S = some S' → mOk l mX4_readEither (8 + d) [.ref 1, .ref 25, .int v2] b S none S') (Hs1 : ∀ {v2 : Int32} {S S' : mT}, self 1 25 v2 S = some S' → mOk l mX4_readBoth (8 + d) [.ref 1, .ref 25, .int v2] b S none S') (Hs2 : ∀ {v2 : Int32} {S S' : mT}, self 2 25 v2 S = some S' → mOk l mX4_readOne (8 + d) [.ref 1, .ref 25, .int v2] b S none S') (Hs3 : ∀ {v2 : Int32} {S S' : mT}, self 3 25 v2 S = some S' → mOk l mX4_readSum (8 + d) [.ref 1, .ref 25, .int v2] b S none S') (Hs4 : ∀ {v2 : Int32} {S S' : mT}, self 4 25 v2 S = some S' → mOk l mX4_readTerm (8 + d) [.ref 1, .ref 25, .int v2] b S none S') (Hs5 : ∀ {v2 : Int32} {S S' : mT}, self 5 25 v2 S = some S' → mOk l mX4_readUnit (8 + d) [.ref 1, .ref 25, .int v2] b S none S') {S' : mT} {S : mT} (hf : fX4_readUnit_115 25 self S = some S') (ok : Bool) : mW p l e (mR (8 + (d + 1))) s m args below meth c G 4 233 54500 (mQ below G args s b S' none) (ok, 115, [.retAddr 0, .retAddr 0, .retAddr 0, .retAddr 0], [], mk b S) := by
  unfold fX4_readUnit_115 at hf
  cases hf
  exact gret_v C hr hk (kX4_readUnit _ (List.mem_of_getElem? (i := 61) rfl)).1
theorem bX4_readUnit_110_25 {d : Nat} (C : mCx p (mR (8 + (d + 1))) s m args meth c G cX4_readUnit RX4 4 false 233 54500 233 54500) (hr : meth.sig.returnType = none) (hk : meth.locks = false) {b : Bool} {self : Nat → Nat → Int32 → mT → Option (mT)} (Hs0 : ∀ {v2 : Int32} {S S' : mT}, self 0 25 v2 S = some S' → mOk l mX4_readEither (8 + d) [.ref 1, .ref 25, .int v2] b S none S') (Hs1 : ∀ {v2 : Int32} {S S' : mT}, self 1 25 v2 S = some S' → mOk l mX4_readBoth (8 + d) [.ref 1, .ref 25, .int v2] b S none S') (Hs2 : ∀ {v2 : Int32} {S S' : mT}, self 2 25 v2 S = some S' → mOk l mX4_readOne (8 + d) [.ref 1, .ref 25, .int v2] b S none S') (Hs3 : ∀ {v2 : Int32} {S S' : mT}, self 3 25 v2 S = some S' → mOk l mX4_readSum (8 + d) [.ref 1, .ref 25, .int v2] b S none S') (Hs4 : ∀ {v2 : Int32} {S S' : mT}, self 4 25 v2 S = some S' → mOk l mX4_readTerm (8 + d) [.ref 1, .ref 25, .int v2] b S none S') (Hs5 : ∀ {v2 : Int32} {S S' : mT}, self 5 25 v2 S = some S' → mOk l mX4_readUnit (8 + d) [.ref 1, .ref 25, .int v2] b S none S') {S' : mT} {S : mT} (hf : fX4_readUnit_110 25 self S = some S') (ok : Bool) : mW p l e (mR (8 + (d + 1))) s m args below meth c G 4 233 54500 (mQ below G args s b S' none) (ok, 110, [.ref (1), .retAddr 0, .retAddr 0, .retAddr 0], [], mk b S) := by
  unfold fX4_readUnit_110 at hf
  refine msegT C kX4_readUnit 58 2 (g := (true, 112, [.ref (1), .retAddr 0, .retAddr 0, .retAddr 0], [.int (2 : Int32), .ref (1)], mk b S)) rfl rfl ?_
  obtain ⟨S14, hq, hf⟩ := bndV_ex hf
  refine mcall (kd := 0) (vs := [.ref (1), .int (2 : Int32)]) (rest := []) (r := none) (h' := mk b S14) (ok' := true) C lkRX4_79 (qX4_refuse hq) (kX4_readUnit _ (List.mem_of_getElem? (i := 60) rfl)).1 ⟨_, _, rfl, rfl, Nat.le_of_ble_eq_true rfl, _, _, rfl, rfl, rfl⟩ (by show 1 + 1 ≤ 8 + (d + 1); omega) (by show 19 + 2 + 100 * (1) ≤ 100 * (8 + (d + 1)); omega) (Nat.le_refl _) (Nat.le_refl _) (Nat.le_of_ble_eq_true rfl) ?_
  exact mfor (L' := [.retAddr 0, .retAddr 0, .retAddr 0, .retAddr 0]) ⟨Or.inl rfl, Or.inl rfl, Or.inl rfl, Or.inl rfl, trivial⟩ (bX4_readUnit_115_25 C hr hk Hs0 Hs1 Hs2 Hs3 Hs4 Hs5 hf true)
theorem bX4_readUnit_0_25 {d : Nat} (C : mCx p (mR (8 + (d + 1))) s m args meth c G cX4_readUnit RX4 4 false 233 54500 233 54500) (hr : meth.sig.returnType = none) (hk : meth.locks = false) {b : Bool} {self : Nat → Nat → Int32 → mT → Option (mT)} (Hs0 : ∀ {v2 : Int32} {S S' : mT}, self 0 25 v2 S = some S' → mOk l mX4_readEither (8 + d) [.ref 1, .ref 25, .int v2] b S none S') (Hs1 : ∀ {v2 : Int32} {S S' : mT}, self 1 25 v2 S = some S' → mOk l mX4_readBoth (8 + d) [.ref 1, .ref 25, .int v2] b S none S') (Hs2 : ∀ {v2 : Int32} {S S' : mT}, self 2 25 v2 S = some S' → mOk l mX4_readOne (8 + d) [.ref 1, .ref 25, .int v2] b S none S') (Hs3 : ∀ {v2 : Int32} {S S' : mT}, self 3 25 v2 S = some S' → mOk l mX4_readSum (8 + d) [.ref 1, .ref 25, .int v2] b S none S') (Hs4 : ∀ {v2 : Int32} {S S' : mT}, self 4 25 v2 S = some S' → mOk l mX4_readTerm (8 + d) [.ref 1, .ref 25, .int v2] b S none S') (Hs5 : ∀ {v2 : Int32} {S S' : mT}, self 5 25 v2 S = some S' → mOk l mX4_readUnit (8 + d) [.ref 1, .ref 25, .int v2] b S none S') {S' : mT} {v2 : Int32} {S : mT} (hf : fX4_readUnit_0 25 self v2 S = some S') (ok : Bool) : mW p l e (mR (8 + (d + 1))) s m args below meth c G 4 233 54500 (mQ below G args s b S' none) (ok, 0, [.ref (1), .ref (25), .int v2, .retAddr 0], [], mk b S) := by
  unfold fX4_readUnit_0 at hf
  obtain ⟨hok, hf⟩ := grd_ex hf
  refine msegT C kX4_readUnit 0 4 (g := ((kO 25 0 && true), (if (S.1 25 3) < (30 : Int32) then 15 else 9), [.ref (1), .ref (25), .int v2, .retAddr 0], [], mk b S)) rfl hok ?_
  by_cases hc : (S.1 25 3) < (30 : Int32)
  · rw [if_pos hc] at hf ⊢
    obtain ⟨hok, hf⟩ := grd_ex hf
    refine msegT C kX4_readUnit 8 6 (g := ((kO 25 0 && (kO 25 0 && true)), 25, [.ref (1), .ref (25), .int v2, .retAddr 0], [], mk b (sI S 25 3 ((S.1 25 3) + (1 : Int32))))) rfl hok ?_
    obtain ⟨S1, eS1, hf⟩ := bnd_ex hf
    rw [← eS1]
    refine msegT C kX4_readUnit 14 1 (g := (true, 26, [.ref (1), .ref (25), .int v2, .retAddr 0], [.ref (1)], mk b S1)) rfl rfl ?_
    obtain ⟨x3, S2, hq, hf⟩ := bndC_ex hf
    refine mcall (kd := 0) (vs := [.ref (1)]) (rest := []) (r := (some (.int x3))) (h' := mk b S2) (ok' := true) C lkRX4_152 (qX4_valueNamed hq) (kX4_readUnit _ (List.mem_of_getElem? (i := 15) rfl)).1 ⟨_, _, rfl, rfl, Nat.le_of_ble_eq_true rfl, _, _, rfl, rfl, rfl⟩ (by show 7 + 1 ≤ 8 + (d + 1); omega) (by show 19 + 1 + 100 * (7) ≤ 100 * (8 + (d + 1)); omega) (Nat.le_refl _) (Nat.le_refl _) (Nat.le_of_ble_eq_true rfl) ?_
    obtain ⟨hok, hf⟩ := grd_ex hf
    refine msegT C kX4_readUnit 16 5 (g := ((kO 1 4 && true), (if (S2.1 1 4) = (2 : Int32) then 38 else 53), [.ref (1), .ref (25), .int v2, .int x3], [], mk b S2)) rfl hok ?_
    by_cases hc : (S2.1 1 4) = (2 : Int32)
    · rw [if_pos hc] at hf ⊢
      obtain ⟨hok, hf⟩ := grd_ex hf
      refine msegT C kX4_readUnit 21 3 (g := ((kO 1 4 && true), 43, [.ref (1), .ref (25), .int v2, .int x3], [.int (S2.1 1 7), .ref (25)], mk b S2)) rfl hok ?_
      obtain ⟨S4, hq, hf⟩ := bndV_ex hf
      refine mcall (kd := 0) (vs := [.ref (25), .int (S2.1 1 7)]) (rest := []) (r := none) (h' := mk b S4) (ok' := true) C lkRX4_122 (qX0_add_25 hq) (kX4_readUnit _ (List.mem_of_getElem? (i := 24) rfl)).1 ⟨_, _, rfl, rfl, Nat.le_of_ble_eq_true rfl, _, _, rfl, rfl, rfl⟩ (by show 1 + 1 ≤ 8 + (d + 1); omega) (by show 19 + 2 + 100 * (1) ≤ 100 * (8 + (d + 1)); omega) (Nat.le_refl _) (Nat.le_refl _) (Nat.le_of_ble_eq_true rfl) ?_
      refine msegT C kX4_readUnit 25 1 (g := (true, 47, [.ref (1), .ref (25), .int v2, .int x3], [.ref (1)], mk b S4)) rfl rfl ?_
      obtain ⟨S5, hq, hf⟩ := bndV_ex hf
      refine mcall (kd := 0) (vs := [.ref (1)]) (rest := []) (r := none) (h' := mk b S5) (ok' := true) C lkRX4_30 (qX4_advance hq) (kX4_readUnit _ (List.mem_of_getElem? (i := 26) rfl)).1 ⟨_, _, rfl, rfl, Nat.le_of_ble_eq_true rfl, _, _, rfl, rfl, rfl⟩ (by show 3 + 1 ≤ 8 + (d + 1); omega) (by show 19 + 1 + 100 * (3) ≤ 100 * (8 + (d + 1)); omega) (Nat.le_refl _) (Nat.le_refl _) (Nat.le_of_ble_eq_true rfl) ?_
      refine msegT C kX4_readUnit 27 1 (g := (true, 115, [.ref (1), .ref (25), .int v2, .int x3], [], mk b S5)) rfl rfl ?_
      exact mfor (L' := [.retAddr 0, .retAddr 0, .retAddr 0, .retAddr 0]) ⟨Or.inl rfl, Or.inl rfl, Or.inl rfl, Or.inl rfl, trivial⟩ (bX4_readUnit_115_25 C hr hk Hs0 Hs1 Hs2 Hs3 Hs4 Hs5 hf true)
    · rw [if_neg hc] at hf ⊢
      refine msegT C kX4_readUnit 28 3 (g := (true, (if x3 = (-1 : Int32) then 74 else 58), [.ref (1), .ref (25), .int v2, .int x3], [], mk b S2)) rfl rfl ?_
      by_cases hc : x3 = (-1 : Int32)
      · rw [if_pos hc] at hf ⊢
        refine msegT C kX4_readUnit 39 2 (g := (true, 77, [.ref (1), .ref (25), .int v2, .int x3], [.int (40 : Int32), .ref (1)], mk b S2)) rfl rfl ?_
        obtain ⟨x7, S6, hq, hf⟩ := bndC_ex hf
        refine mcall (kd := 0) (vs := [.ref (1), .int (40 : Int32)]) (rest := []) (r := (some (.int x7))) (h' := mk b S6) (ok' := true) C lkRX4_135 (qX4_isSign hq) (kX4_readUnit _ (List.mem_of_getElem? (i := 41) rfl)).1 ⟨_, _, rfl, rfl, Nat.le_of_ble_eq_true rfl, _, _, rfl, rfl, rfl⟩ (by show 1 + 1 ≤ 8 + (d + 1); omega) (by show 19 + 2 + 100 * (1) ≤ 100 * (8 + (d + 1)); omega) (Nat.le_refl _) (Nat.le_refl _) (Nat.le_of_ble_eq_true rfl) ?_
        refine msegT C kX4_readUnit 42 1 (g := (true, (if x7 = 0 then 110 else 83), [.ref (1), .ref (25), .int v2, .int x3], [], mk b S6)) rfl rfl ?_
        by_cases hc : x7 = 0
        · rw [if_pos hc] at hf ⊢
          exact mfor (L' := [.ref (1), .retAddr 0, .retAddr 0, .retAddr 0]) ⟨Or.inr rfl, Or.inl rfl, Or.inl rfl, Or.inl rfl, trivial⟩ (bX4_readUnit_110_25 C hr hk Hs0 Hs1 Hs2 Hs3 Hs4 Hs5 hf true)
        · rw [if_neg hc] at hf ⊢
          refine msegT C kX4_readUnit 43 3 (g := (true, (if (6 : Int32) < v2 then 110 else 89), [.ref (1), .ref (25), .int v2, .int x3], [], mk b S6)) rfl rfl ?_
          by_cases hc : (6 : Int32) < v2
          · rw [if_pos hc] at hf ⊢
            exact mfor (L' := [.ref (1), .retAddr 0, .retAddr 0, .retAddr 0]) ⟨Or.inr rfl, Or.inl rfl, Or.inl rfl, Or.inl rfl, trivial⟩ (bX4_readUnit_110_25 C hr hk Hs0 Hs1 Hs2 Hs3 Hs4 Hs5 hf true)
          · rw [if_neg hc] at hf ⊢
            refine msegT C kX4_readUnit 46 1 (g := (true, 90, [.ref (1), .ref (25), .int v2, .int x3], [.ref (1)], mk b S6)) rfl rfl ?_
            obtain ⟨S8, hq, hf⟩ := bndV_ex hf
            refine mcall (kd := 0) (vs := [.ref (1)]) (rest := []) (r := none) (h' := mk b S8) (ok' := true) C lkRX4_30 (qX4_advance hq) (kX4_readUnit _ (List.mem_of_getElem? (i := 47) rfl)).1 ⟨_, _, rfl, rfl, Nat.le_of_ble_eq_true rfl, _, _, rfl, rfl, rfl⟩ (by show 3 + 1 ≤ 8 + (d + 1); omega) (by show 19 + 1 + 100 * (3) ≤ 100 * (8 + (d + 1)); omega) (Nat.le_refl _) (Nat.le_refl _) (Nat.le_of_ble_eq_true rfl) ?_
            refine msegT C kX4_readUnit 48 5 (g := (true, 98, [.ref (1), .ref (25), .int v2, .int x3], [.int (v2 + (1 : Int32)), .ref (25), .ref (1)], mk b S8)) rfl rfl ?_
            obtain ⟨S9, hq, hf⟩ := bndV_ex hf
            refine mcall (kd := 0) (vs := [.ref (1), .ref (25), .int (v2 + (1 : Int32))]) (rest := []) (r := none) (h' := mk b S9) (ok' := true) C lkRX4_113 (Hs0 hq) (kX4_readUnit _ (List.mem_of_getElem? (i := 53) rfl)).1 ⟨_, _, rfl, rfl, Nat.le_of_ble_eq_true rfl, _, _, rfl, rfl, rfl⟩ (by show 8 + d + 1 ≤ 8 + (d + 1); omega) (by show 19 + 4 + 100 * (8 + d) ≤ 100 * (8 + (d + 1)); omega) (Nat.le_refl _) (Nat.le_refl _) (Nat.le_of_ble_eq_true rfl) ?_
            refine msegT C kX4_readUnit 54 2 (g := (true, 104, [.ref (1), .ref (25), .int v2, .int x3], [.int (41 : Int32), .ref (1)], mk b S9)) rfl rfl ?_
            obtain ⟨S10, hq, hf⟩ := bndV_ex hf
            refine mcall (kd := 0) (vs := [.ref (1), .int (41 : Int32)]) (rest := []) (r := none) (h' := mk b S10) (ok' := true) C lkRX4_59 (qX4_takeSign hq) (kX4_readUnit _ (List.mem_of_getElem? (i := 56) rfl)).1 ⟨_, _, rfl, rfl, Nat.le_of_ble_eq_true rfl, _, _, rfl, rfl, rfl⟩ (by show 4 + 1 ≤ 8 + (d + 1); omega) (by show 19 + 2 + 100 * (4) ≤ 100 * (8 + (d + 1)); omega) (Nat.le_refl _) (Nat.le_refl _) (Nat.le_of_ble_eq_true rfl) ?_
            refine msegT C kX4_readUnit 57 1 (g := (true, 115, [.ref (1), .ref (25), .int v2, .int x3], [], mk b S10)) rfl rfl ?_
            exact mfor (L' := [.retAddr 0, .retAddr 0, .retAddr 0, .retAddr 0]) ⟨Or.inl rfl, Or.inl rfl, Or.inl rfl, Or.inl rfl, trivial⟩ (bX4_readUnit_115_25 C hr hk Hs0 Hs1 Hs2 Hs3 Hs4 Hs5 hf true)
      · rw [if_neg hc] at hf ⊢
        refine msegT C kX4_readUnit 31 4 (g := (true, 64, [.ref (1), .ref (25), .int v2, .int x3], [.int ((10000 : Int32) + x3), .ref (25)], mk b S2)) rfl rfl ?_
        obtain ⟨S11, hq, hf⟩ := bndV_ex hf
        refine mcall (kd := 0) (vs := [.ref (25), .int ((10000 : Int32) + x3)]) (rest := []) (r := none) (h' := mk b S11) (ok' := true) C lkRX4_122 (qX0_add_25 hq) (kX4_readUnit _ (List.mem_of_getElem? (i := 35) rfl)).1 ⟨_, _, rfl, rfl, Nat.le_of_ble_eq_true rfl, _, _, rfl, rfl, rfl⟩ (by show 1 + 1 ≤ 8 + (d + 1); omega) (by show 19 + 2 + 100 * (1) ≤ 100 * (8 + (d + 1)); omega) (Nat.le_refl _) (Nat.le_refl _) (Nat.le_of_ble_eq_true rfl) ?_
        refine msegT C kX4_readUnit 36 1 (g := (true, 68, [.ref (1), .ref (25), .int v2, .int x3], [.ref (1)], mk b S11)) rfl rfl ?_
        obtain ⟨S12, hq, hf⟩ := bndV_ex hf
        refine mcall (kd := 0) (vs := [.ref (1)]) (rest := []) (r := none) (h' := mk b S12) (ok' := true) C lkRX4_30 (qX4_advance hq) (kX4_readUnit _ (List.mem_of_getElem? (i := 37) rfl)).1 ⟨_, _, rfl, rfl, Nat.le_of_ble_eq_true rfl, _, _, rfl, rfl, rfl⟩ (by show 3 + 1 ≤ 8 + (d + 1); omega) (by show 19 + 1 + 100 * (3) ≤ 100 * (8 + (d + 1)); omega) (Nat.le_refl _) (Nat.le_refl _) (Nat.le_of_ble_eq_true rfl) ?_
        refine msegT C kX4_readUnit 38 1 (g := (true, 115, [.ref (1), .ref (25), .int v2, .int x3], [], mk b S12)) rfl rfl ?_
        exact mfor (L' := [.retAddr 0, .retAddr 0, .retAddr 0, .retAddr 0]) ⟨Or.inl rfl, Or.inl rfl, Or.inl rfl, Or.inl rfl, trivial⟩ (bX4_readUnit_115_25 C hr hk Hs0 Hs1 Hs2 Hs3 Hs4 Hs5 hf true)
  · rw [if_neg hc] at hf ⊢
    refine msegT C kX4_readUnit 4 2 (g := (true, 11, [.ref (1), .ref (25), .int v2, .retAddr 0], [.int (2 : Int32), .ref (1)], mk b S)) rfl rfl ?_
    obtain ⟨S13, hq, hf⟩ := bndV_ex hf
    refine mcall (kd := 0) (vs := [.ref (1), .int (2 : Int32)]) (rest := []) (r := none) (h' := mk b S13) (ok' := true) C lkRX4_79 (qX4_refuse hq) (kX4_readUnit _ (List.mem_of_getElem? (i := 6) rfl)).1 ⟨_, _, rfl, rfl, Nat.le_of_ble_eq_true rfl, _, _, rfl, rfl, rfl⟩ (by show 1 + 1 ≤ 8 + (d + 1); omega) (by show 19 + 2 + 100 * (1) ≤ 100 * (8 + (d + 1)); omega) (Nat.le_refl _) (Nat.le_refl _) (Nat.le_of_ble_eq_true rfl) ?_
    cases hf
    exact gret_v C hr hk (kX4_readUnit _ (List.mem_of_getElem? (i := 7) rfl)).1
theorem bX4_readUnit_115_28 {d : Nat} (C : mCx p (mR (8 + (d + 1))) s m args meth c G cX4_readUnit RX4 4 false 233 54500 233 54500) (hr : meth.sig.returnType = none) (hk : meth.locks = false) {b : Bool} {self : Nat → Nat → Int32 → mT → Option (mT)} (Hs0 : ∀ {v2 : Int32} {S S' : mT}, self 0 28 v2 S = some S' → mOk l mX4_readEither (8 + d) [.ref 1, .ref 28, .int v2] b S none S') (Hs1 : ∀ {v2 : Int32} {S S' : mT}, self 1 28 v2 S = some S' → mOk l mX4_readBoth (8 + d) [.ref 1, .ref 28, .int v2] b S none S') (Hs2 : ∀ {v2 : Int32} {S S' : mT}, self 2 28 v2 S = some S' → mOk l mX4_readOne (8 + d) [.ref 1, .ref 28, .int v2] b S none S') (Hs3 : ∀ {v2 : Int32} {S S' : mT}, self 3 28 v2 S = some S' → mOk l mX4_readSum (8 + d) [.ref 1, .ref 28, .int v2] b S none S') (Hs4 : ∀ {v2 : Int32} {S S' : mT}, self 4 28 v2 S = some S' → mOk l mX4_readTerm (8 + d) [.ref 1, .ref 28, .int v2] b S none S') (Hs5 : ∀ {v2 : Int32} {S S' : mT}, self 5 28 v2 S = some S' → mOk l mX4_readUnit (8 + d) [.ref 1, .ref 28, .int v2] b S none S') {S' : mT} {S : mT} (hf : fX4_readUnit_115 28 self S = some S') (ok : Bool) : mW p l e (mR (8 + (d + 1))) s m args below meth c G 4 233 54500 (mQ below G args s b S' none) (ok, 115, [.retAddr 0, .retAddr 0, .retAddr 0, .retAddr 0], [], mk b S) := by
  unfold fX4_readUnit_115 at hf
  cases hf
  exact gret_v C hr hk (kX4_readUnit _ (List.mem_of_getElem? (i := 61) rfl)).1
theorem bX4_readUnit_110_28 {d : Nat} (C : mCx p (mR (8 + (d + 1))) s m args meth c G cX4_readUnit RX4 4 false 233 54500 233 54500) (hr : meth.sig.returnType = none) (hk : meth.locks = false) {b : Bool} {self : Nat → Nat → Int32 → mT → Option (mT)} (Hs0 : ∀ {v2 : Int32} {S S' : mT}, self 0 28 v2 S = some S' → mOk l mX4_readEither (8 + d) [.ref 1, .ref 28, .int v2] b S none S') (Hs1 : ∀ {v2 : Int32} {S S' : mT}, self 1 28 v2 S = some S' → mOk l mX4_readBoth (8 + d) [.ref 1, .ref 28, .int v2] b S none S') (Hs2 : ∀ {v2 : Int32} {S S' : mT}, self 2 28 v2 S = some S' → mOk l mX4_readOne (8 + d) [.ref 1, .ref 28, .int v2] b S none S') (Hs3 : ∀ {v2 : Int32} {S S' : mT}, self 3 28 v2 S = some S' → mOk l mX4_readSum (8 + d) [.ref 1, .ref 28, .int v2] b S none S') (Hs4 : ∀ {v2 : Int32} {S S' : mT}, self 4 28 v2 S = some S' → mOk l mX4_readTerm (8 + d) [.ref 1, .ref 28, .int v2] b S none S') (Hs5 : ∀ {v2 : Int32} {S S' : mT}, self 5 28 v2 S = some S' → mOk l mX4_readUnit (8 + d) [.ref 1, .ref 28, .int v2] b S none S') {S' : mT} {S : mT} (hf : fX4_readUnit_110 28 self S = some S') (ok : Bool) : mW p l e (mR (8 + (d + 1))) s m args below meth c G 4 233 54500 (mQ below G args s b S' none) (ok, 110, [.ref (1), .retAddr 0, .retAddr 0, .retAddr 0], [], mk b S) := by
  unfold fX4_readUnit_110 at hf
  refine msegT C kX4_readUnit 58 2 (g := (true, 112, [.ref (1), .retAddr 0, .retAddr 0, .retAddr 0], [.int (2 : Int32), .ref (1)], mk b S)) rfl rfl ?_
  obtain ⟨S14, hq, hf⟩ := bndV_ex hf
  refine mcall (kd := 0) (vs := [.ref (1), .int (2 : Int32)]) (rest := []) (r := none) (h' := mk b S14) (ok' := true) C lkRX4_79 (qX4_refuse hq) (kX4_readUnit _ (List.mem_of_getElem? (i := 60) rfl)).1 ⟨_, _, rfl, rfl, Nat.le_of_ble_eq_true rfl, _, _, rfl, rfl, rfl⟩ (by show 1 + 1 ≤ 8 + (d + 1); omega) (by show 19 + 2 + 100 * (1) ≤ 100 * (8 + (d + 1)); omega) (Nat.le_refl _) (Nat.le_refl _) (Nat.le_of_ble_eq_true rfl) ?_
  exact mfor (L' := [.retAddr 0, .retAddr 0, .retAddr 0, .retAddr 0]) ⟨Or.inl rfl, Or.inl rfl, Or.inl rfl, Or.inl rfl, trivial⟩ (bX4_readUnit_115_28 C hr hk Hs0 Hs1 Hs2 Hs3 Hs4 Hs5 hf true)
theorem bX4_readUnit_0_28 {d : Nat} (C : mCx p (mR (8 + (d + 1))) s m args meth c G cX4_readUnit RX4 4 false 233 54500 233 54500) (hr : meth.sig.returnType = none) (hk : meth.locks = false) {b : Bool} {self : Nat → Nat → Int32 → mT → Option (mT)} (Hs0 : ∀ {v2 : Int32} {S S' : mT}, self 0 28 v2 S = some S' → mOk l mX4_readEither (8 + d) [.ref 1, .ref 28, .int v2] b S none S') (Hs1 : ∀ {v2 : Int32} {S S' : mT}, self 1 28 v2 S = some S' → mOk l mX4_readBoth (8 + d) [.ref 1, .ref 28, .int v2] b S none S') (Hs2 : ∀ {v2 : Int32} {S S' : mT}, self 2 28 v2 S = some S' → mOk l mX4_readOne (8 + d) [.ref 1, .ref 28, .int v2] b S none S') (Hs3 : ∀ {v2 : Int32} {S S' : mT}, self 3 28 v2 S = some S' → mOk l mX4_readSum (8 + d) [.ref 1, .ref 28, .int v2] b S none S') (Hs4 : ∀ {v2 : Int32} {S S' : mT}, self 4 28 v2 S = some S' → mOk l mX4_readTerm (8 + d) [.ref 1, .ref 28, .int v2] b S none S') (Hs5 : ∀ {v2 : Int32} {S S' : mT}, self 5 28 v2 S = some S' → mOk l mX4_readUnit (8 + d) [.ref 1, .ref 28, .int v2] b S none S') {S' : mT} {v2 : Int32} {S : mT} (hf : fX4_readUnit_0 28 self v2 S = some S') (ok : Bool) : mW p l e (mR (8 + (d + 1))) s m args below meth c G 4 233 54500 (mQ below G args s b S' none) (ok, 0, [.ref (1), .ref (28), .int v2, .retAddr 0], [], mk b S) := by
  unfold fX4_readUnit_0 at hf
  obtain ⟨hok, hf⟩ := grd_ex hf
  refine msegT C kX4_readUnit 0 4 (g := ((kO 28 0 && true), (if (S.1 28 3) < (30 : Int32) then 15 else 9), [.ref (1), .ref (28), .int v2, .retAddr 0], [], mk b S)) rfl hok ?_
  by_cases hc : (S.1 28 3) < (30 : Int32)
  · rw [if_pos hc] at hf ⊢
    obtain ⟨hok, hf⟩ := grd_ex hf
    refine msegT C kX4_readUnit 8 6 (g := ((kO 28 0 && (kO 28 0 && true)), 25, [.ref (1), .ref (28), .int v2, .retAddr 0], [], mk b (sI S 28 3 ((S.1 28 3) + (1 : Int32))))) rfl hok ?_
    obtain ⟨S1, eS1, hf⟩ := bnd_ex hf
    rw [← eS1]
    refine msegT C kX4_readUnit 14 1 (g := (true, 26, [.ref (1), .ref (28), .int v2, .retAddr 0], [.ref (1)], mk b S1)) rfl rfl ?_
    obtain ⟨x3, S2, hq, hf⟩ := bndC_ex hf
    refine mcall (kd := 0) (vs := [.ref (1)]) (rest := []) (r := (some (.int x3))) (h' := mk b S2) (ok' := true) C lkRX4_152 (qX4_valueNamed hq) (kX4_readUnit _ (List.mem_of_getElem? (i := 15) rfl)).1 ⟨_, _, rfl, rfl, Nat.le_of_ble_eq_true rfl, _, _, rfl, rfl, rfl⟩ (by show 7 + 1 ≤ 8 + (d + 1); omega) (by show 19 + 1 + 100 * (7) ≤ 100 * (8 + (d + 1)); omega) (Nat.le_refl _) (Nat.le_refl _) (Nat.le_of_ble_eq_true rfl) ?_
    obtain ⟨hok, hf⟩ := grd_ex hf
    refine msegT C kX4_readUnit 16 5 (g := ((kO 1 4 && true), (if (S2.1 1 4) = (2 : Int32) then 38 else 53), [.ref (1), .ref (28), .int v2, .int x3], [], mk b S2)) rfl hok ?_
    by_cases hc : (S2.1 1 4) = (2 : Int32)
    · rw [if_pos hc] at hf ⊢
      obtain ⟨hok, hf⟩ := grd_ex hf
      refine msegT C kX4_readUnit 21 3 (g := ((kO 1 4 && true), 43, [.ref (1), .ref (28), .int v2, .int x3], [.int (S2.1 1 7), .ref (28)], mk b S2)) rfl hok ?_
      obtain ⟨S4, hq, hf⟩ := bndV_ex hf
      refine mcall (kd := 0) (vs := [.ref (28), .int (S2.1 1 7)]) (rest := []) (r := none) (h' := mk b S4) (ok' := true) C lkRX4_122 (qX0_add_28 hq) (kX4_readUnit _ (List.mem_of_getElem? (i := 24) rfl)).1 ⟨_, _, rfl, rfl, Nat.le_of_ble_eq_true rfl, _, _, rfl, rfl, rfl⟩ (by show 1 + 1 ≤ 8 + (d + 1); omega) (by show 19 + 2 + 100 * (1) ≤ 100 * (8 + (d + 1)); omega) (Nat.le_refl _) (Nat.le_refl _) (Nat.le_of_ble_eq_true rfl) ?_
      refine msegT C kX4_readUnit 25 1 (g := (true, 47, [.ref (1), .ref (28), .int v2, .int x3], [.ref (1)], mk b S4)) rfl rfl ?_
      obtain ⟨S5, hq, hf⟩ := bndV_ex hf
      refine mcall (kd := 0) (vs := [.ref (1)]) (rest := []) (r := none) (h' := mk b S5) (ok' := true) C lkRX4_30 (qX4_advance hq) (kX4_readUnit _ (List.mem_of_getElem? (i := 26) rfl)).1 ⟨_, _, rfl, rfl, Nat.le_of_ble_eq_true rfl, _, _, rfl, rfl, rfl⟩ (by show 3 + 1 ≤ 8 + (d + 1); omega) (by show 19 + 1 + 100 * (3) ≤ 100 * (8 + (d + 1)); omega) (Nat.le_refl _) (Nat.le_refl _) (Nat.le_of_ble_eq_true rfl) ?_
      refine msegT C kX4_readUnit 27 1 (g := (true, 115, [.ref (1), .ref (28), .int v2, .int x3], [], mk b S5)) rfl rfl ?_
      exact mfor (L' := [.retAddr 0, .retAddr 0, .retAddr 0, .retAddr 0]) ⟨Or.inl rfl, Or.inl rfl, Or.inl rfl, Or.inl rfl, trivial⟩ (bX4_readUnit_115_28 C hr hk Hs0 Hs1 Hs2 Hs3 Hs4 Hs5 hf true)
    · rw [if_neg hc] at hf ⊢
      refine msegT C kX4_readUnit 28 3 (g := (true, (if x3 = (-1 : Int32) then 74 else 58), [.ref (1), .ref (28), .int v2, .int x3], [], mk b S2)) rfl rfl ?_
      by_cases hc : x3 = (-1 : Int32)
      · rw [if_pos hc] at hf ⊢
        refine msegT C kX4_readUnit 39 2 (g := (true, 77, [.ref (1), .ref (28), .int v2, .int x3], [.int (40 : Int32), .ref (1)], mk b S2)) rfl rfl ?_
        obtain ⟨x7, S6, hq, hf⟩ := bndC_ex hf
        refine mcall (kd := 0) (vs := [.ref (1), .int (40 : Int32)]) (rest := []) (r := (some (.int x7))) (h' := mk b S6) (ok' := true) C lkRX4_135 (qX4_isSign hq) (kX4_readUnit _ (List.mem_of_getElem? (i := 41) rfl)).1 ⟨_, _, rfl, rfl, Nat.le_of_ble_eq_true rfl, _, _, rfl, rfl, rfl⟩ (by show 1 + 1 ≤ 8 + (d + 1); omega) (by show 19 + 2 + 100 * (1) ≤ 100 * (8 + (d + 1)); omega) (Nat.le_refl _) (Nat.le_refl _) (Nat.le_of_ble_eq_true rfl) ?_
        refine msegT C kX4_readUnit 42 1 (g := (true, (if x7 = 0 then 110 else 83), [.ref (1), .ref (28), .int v2, .int x3], [], mk b S6)) rfl rfl ?_
        by_cases hc : x7 = 0
        · rw [if_pos hc] at hf ⊢
          exact mfor (L' := [.ref (1), .retAddr 0, .retAddr 0, .retAddr 0]) ⟨Or.inr rfl, Or.inl rfl, Or.inl rfl, Or.inl rfl, trivial⟩ (bX4_readUnit_110_28 C hr hk Hs0 Hs1 Hs2 Hs3 Hs4 Hs5 hf true)
        · rw [if_neg hc] at hf ⊢
          refine msegT C kX4_readUnit 43 3 (g := (true, (if (6 : Int32) < v2 then 110 else 89), [.ref (1), .ref (28), .int v2, .int x3], [], mk b S6)) rfl rfl ?_
          by_cases hc : (6 : Int32) < v2
          · rw [if_pos hc] at hf ⊢
            exact mfor (L' := [.ref (1), .retAddr 0, .retAddr 0, .retAddr 0]) ⟨Or.inr rfl, Or.inl rfl, Or.inl rfl, Or.inl rfl, trivial⟩ (bX4_readUnit_110_28 C hr hk Hs0 Hs1 Hs2 Hs3 Hs4 Hs5 hf true)
          · rw [if_neg hc] at hf ⊢
            refine msegT C kX4_readUnit 46 1 (g := (true, 90, [.ref (1), .ref (28), .int v2, .int x3], [.ref (1)], mk b S6)) rfl rfl ?_
            obtain ⟨S8, hq, hf⟩ := bndV_ex hf
            refine mcall (kd := 0) (vs := [.ref (1)]) (rest := []) (r := none) (h' := mk b S8) (ok' := true) C lkRX4_30 (qX4_advance hq) (kX4_readUnit _ (List.mem_of_getElem? (i := 47) rfl)).1 ⟨_, _, rfl, rfl, Nat.le_of_ble_eq_true rfl, _, _, rfl, rfl, rfl⟩ (by show 3 + 1 ≤ 8 + (d + 1); omega) (by show 19 + 1 + 100 * (3) ≤ 100 * (8 + (d + 1)); omega) (Nat.le_refl _) (Nat.le_refl _) (Nat.le_of_ble_eq_true rfl) ?_
            refine msegT C kX4_readUnit 48 5 (g := (true, 98, [.ref (1), .ref (28), .int v2, .int x3], [.int (v2 + (1 : Int32)), .ref (28), .ref (1)], mk b S8)) rfl rfl ?_
            obtain ⟨S9, hq, hf⟩ := bndV_ex hf
            refine mcall (kd := 0) (vs := [.ref (1), .ref (28), .int (v2 + (1 : Int32))]) (rest := []) (r := none) (h' := mk b S9) (ok' := true) C lkRX4_113 (Hs0 hq) (kX4_readUnit _ (List.mem_of_getElem? (i := 53) rfl)).1 ⟨_, _, rfl, rfl, Nat.le_of_ble_eq_true rfl, _, _, rfl, rfl, rfl⟩ (by show 8 + d + 1 ≤ 8 + (d + 1); omega) (by show 19 + 4 + 100 * (8 + d) ≤ 100 * (8 + (d + 1)); omega) (Nat.le_refl _) (Nat.le_refl _) (Nat.le_of_ble_eq_true rfl) ?_
            refine msegT C kX4_readUnit 54 2 (g := (true, 104, [.ref (1), .ref (28), .int v2, .int x3], [.int (41 : Int32), .ref (1)], mk b S9)) rfl rfl ?_
            obtain ⟨S10, hq, hf⟩ := bndV_ex hf
            refine mcall (kd := 0) (vs := [.ref (1), .int (41 : Int32)]) (rest := []) (r := none) (h' := mk b S10) (ok' := true) C lkRX4_59 (qX4_takeSign hq) (kX4_readUnit _ (List.mem_of_getElem? (i := 56) rfl)).1 ⟨_, _, rfl, rfl, Nat.le_of_ble_eq_true rfl, _, _, rfl, rfl, rfl⟩ (by show 4 + 1 ≤ 8 + (d + 1); omega) (by show 19 + 2 + 100 * (4) ≤ 100 * (8 + (d + 1)); omega) (Nat.le_refl _) (Nat.le_refl _) (Nat.le_of_ble_eq_true rfl) ?_
            refine msegT C kX4_readUnit 57 1 (g := (true, 115, [.ref (1), .ref (28), .int v2, .int x3], [], mk b S10)) rfl rfl ?_
            exact mfor (L' := [.retAddr 0, .retAddr 0, .retAddr 0, .retAddr 0]) ⟨Or.inl rfl, Or.inl rfl, Or.inl rfl, Or.inl rfl, trivial⟩ (bX4_readUnit_115_28 C hr hk Hs0 Hs1 Hs2 Hs3 Hs4 Hs5 hf true)
      · rw [if_neg hc] at hf ⊢
        refine msegT C kX4_readUnit 31 4 (g := (true, 64, [.ref (1), .ref (28), .int v2, .int x3], [.int ((10000 : Int32) + x3), .ref (28)], mk b S2)) rfl rfl ?_
        obtain ⟨S11, hq, hf⟩ := bndV_ex hf
        refine mcall (kd := 0) (vs := [.ref (28), .int ((10000 : Int32) + x3)]) (rest := []) (r := none) (h' := mk b S11) (ok' := true) C lkRX4_122 (qX0_add_28 hq) (kX4_readUnit _ (List.mem_of_getElem? (i := 35) rfl)).1 ⟨_, _, rfl, rfl, Nat.le_of_ble_eq_true rfl, _, _, rfl, rfl, rfl⟩ (by show 1 + 1 ≤ 8 + (d + 1); omega) (by show 19 + 2 + 100 * (1) ≤ 100 * (8 + (d + 1)); omega) (Nat.le_refl _) (Nat.le_refl _) (Nat.le_of_ble_eq_true rfl) ?_
        refine msegT C kX4_readUnit 36 1 (g := (true, 68, [.ref (1), .ref (28), .int v2, .int x3], [.ref (1)], mk b S11)) rfl rfl ?_
        obtain ⟨S12, hq, hf⟩ := bndV_ex hf
        refine mcall (kd := 0) (vs := [.ref (1)]) (rest := []) (r := none) (h' := mk b S12) (ok' := true) C lkRX4_30 (qX4_advance hq) (kX4_readUnit _ (List.mem_of_getElem? (i := 37) rfl)).1 ⟨_, _, rfl, rfl, Nat.le_of_ble_eq_true rfl, _, _, rfl, rfl, rfl⟩ (by show 3 + 1 ≤ 8 + (d + 1); omega) (by show 19 + 1 + 100 * (3) ≤ 100 * (8 + (d + 1)); omega) (Nat.le_refl _) (Nat.le_refl _) (Nat.le_of_ble_eq_true rfl) ?_
        refine msegT C kX4_readUnit 38 1 (g := (true, 115, [.ref (1), .ref (28), .int v2, .int x3], [], mk b S12)) rfl rfl ?_
        exact mfor (L' := [.retAddr 0, .retAddr 0, .retAddr 0, .retAddr 0]) ⟨Or.inl rfl, Or.inl rfl, Or.inl rfl, Or.inl rfl, trivial⟩ (bX4_readUnit_115_28 C hr hk Hs0 Hs1 Hs2 Hs3 Hs4 Hs5 hf true)
  · rw [if_neg hc] at hf ⊢
    refine msegT C kX4_readUnit 4 2 (g := (true, 11, [.ref (1), .ref (28), .int v2, .retAddr 0], [.int (2 : Int32), .ref (1)], mk b S)) rfl rfl ?_
    obtain ⟨S13, hq, hf⟩ := bndV_ex hf
    refine mcall (kd := 0) (vs := [.ref (1), .int (2 : Int32)]) (rest := []) (r := none) (h' := mk b S13) (ok' := true) C lkRX4_79 (qX4_refuse hq) (kX4_readUnit _ (List.mem_of_getElem? (i := 6) rfl)).1 ⟨_, _, rfl, rfl, Nat.le_of_ble_eq_true rfl, _, _, rfl, rfl, rfl⟩ (by show 1 + 1 ≤ 8 + (d + 1); omega) (by show 19 + 2 + 100 * (1) ≤ 100 * (8 + (d + 1)); omega) (Nat.le_refl _) (Nat.le_refl _) (Nat.le_of_ble_eq_true rfl) ?_
    cases hf
    exact gret_v C hr hk (kX4_readUnit _ (List.mem_of_getElem? (i := 7) rfl)).1
theorem bX4_readUnit_115_31 {d : Nat} (C : mCx p (mR (8 + (d + 1))) s m args meth c G cX4_readUnit RX4 4 false 233 54500 233 54500) (hr : meth.sig.returnType = none) (hk : meth.locks = false) {b : Bool} {self : Nat → Nat → Int32 → mT → Option (mT)} (Hs0 : ∀ {v2 : Int32} {S S' : mT}, self 0 31 v2 S = some S' → mOk l mX4_readEither (8 + d) [.ref 1, .ref 31, .int v2] b S none S') (Hs1 : ∀ {v2 : Int32} {S S' : mT}, self 1 31 v2 S = some S' → mOk l mX4_readBoth (8 + d) [.ref 1, .ref 31, .int v2] b S none S') (Hs2 : ∀ {v2 : Int32} {S S' : mT}, self 2 31 v2 S = some S' → mOk l mX4_readOne (8 + d) [.ref 1, .ref 31, .int v2] b S none S') (Hs3 : ∀ {v2 : Int32} {S S' : mT}, self 3 31 v2 S = some S' → mOk l mX4_readSum (8 + d) [.ref 1, .ref 31, .int v2] b S none S') (Hs4 : ∀ {v2 : Int32} {S S' : mT}, self 4 31 v2 S = some S' → mOk l mX4_readTerm (8 + d) [.ref 1, .ref 31, .int v2] b S none S') (Hs5 : ∀ {v2 : Int32} {S S' : mT}, self 5 31 v2 S = some S' → mOk l mX4_readUnit (8 + d) [.ref 1, .ref 31, .int v2] b S none S') {S' : mT} {S : mT} (hf : fX4_readUnit_115 31 self S = some S') (ok : Bool) : mW p l e (mR (8 + (d + 1))) s m args below meth c G 4 233 54500 (mQ below G args s b S' none) (ok, 115, [.retAddr 0, .retAddr 0, .retAddr 0, .retAddr 0], [], mk b S) := by
  unfold fX4_readUnit_115 at hf
  cases hf
  exact gret_v C hr hk (kX4_readUnit _ (List.mem_of_getElem? (i := 61) rfl)).1
theorem bX4_readUnit_110_31 {d : Nat} (C : mCx p (mR (8 + (d + 1))) s m args meth c G cX4_readUnit RX4 4 false 233 54500 233 54500) (hr : meth.sig.returnType = none) (hk : meth.locks = false) {b : Bool} {self : Nat → Nat → Int32 → mT → Option (mT)} (Hs0 : ∀ {v2 : Int32} {S S' : mT}, self 0 31 v2 S = some S' → mOk l mX4_readEither (8 + d) [.ref 1, .ref 31, .int v2] b S none S') (Hs1 : ∀ {v2 : Int32} {S S' : mT}, self 1 31 v2 S = some S' → mOk l mX4_readBoth (8 + d) [.ref 1, .ref 31, .int v2] b S none S') (Hs2 : ∀ {v2 : Int32} {S S' : mT}, self 2 31 v2 S = some S' → mOk l mX4_readOne (8 + d) [.ref 1, .ref 31, .int v2] b S none S') (Hs3 : ∀ {v2 : Int32} {S S' : mT}, self 3 31 v2 S = some S' → mOk l mX4_readSum (8 + d) [.ref 1, .ref 31, .int v2] b S none S') (Hs4 : ∀ {v2 : Int32} {S S' : mT}, self 4 31 v2 S = some S' → mOk l mX4_readTerm (8 + d) [.ref 1, .ref 31, .int v2] b S none S') (Hs5 : ∀ {v2 : Int32} {S S' : mT}, self 5 31 v2 S = some S' → mOk l mX4_readUnit (8 + d) [.ref 1, .ref 31, .int v2] b S none S') {S' : mT} {S : mT} (hf : fX4_readUnit_110 31 self S = some S') (ok : Bool) : mW p l e (mR (8 + (d + 1))) s m args below meth c G 4 233 54500 (mQ below G args s b S' none) (ok, 110, [.ref (1), .retAddr 0, .retAddr 0, .retAddr 0], [], mk b S) := by
  unfold fX4_readUnit_110 at hf
  refine msegT C kX4_readUnit 58 2 (g := (true, 112, [.ref (1), .retAddr 0, .retAddr 0, .retAddr 0], [.int (2 : Int32), .ref (1)], mk b S)) rfl rfl ?_
  obtain ⟨S14, hq, hf⟩ := bndV_ex hf
  refine mcall (kd := 0) (vs := [.ref (1), .int (2 : Int32)]) (rest := []) (r := none) (h' := mk b S14) (ok' := true) C lkRX4_79 (qX4_refuse hq) (kX4_readUnit _ (List.mem_of_getElem? (i := 60) rfl)).1 ⟨_, _, rfl, rfl, Nat.le_of_ble_eq_true rfl, _, _, rfl, rfl, rfl⟩ (by show 1 + 1 ≤ 8 + (d + 1); omega) (by show 19 + 2 + 100 * (1) ≤ 100 * (8 + (d + 1)); omega) (Nat.le_refl _) (Nat.le_refl _) (Nat.le_of_ble_eq_true rfl) ?_
  exact mfor (L' := [.retAddr 0, .retAddr 0, .retAddr 0, .retAddr 0]) ⟨Or.inl rfl, Or.inl rfl, Or.inl rfl, Or.inl rfl, trivial⟩ (bX4_readUnit_115_31 C hr hk Hs0 Hs1 Hs2 Hs3 Hs4 Hs5 hf true)
theorem bX4_readUnit_0_31 {d : Nat} (C : mCx p (mR (8 + (d + 1))) s m args meth c G cX4_readUnit RX4 4 false 233 54500 233 54500) (hr : meth.sig.returnType = none) (hk : meth.locks = false) {b : Bool} {self : Nat → Nat → Int32 → mT → Option (mT)} (Hs0 : ∀ {v2 : Int32} {S S' : mT}, self 0 31 v2 S = some S' → mOk l mX4_readEither (8 + d) [.ref 1, .ref 31, .int v2] b S none S') (Hs1 : ∀ {v2 : Int32} {S S' : mT}, self 1 31 v2 S = some S' → mOk l mX4_readBoth (8 + d) [.ref 1, .ref 31, .int v2] b S none S') (Hs2 : ∀ {v2 : Int32} {S S' : mT}, self 2 31 v2 S = some S' → mOk l mX4_readOne (8 + d) [.ref 1, .ref 31, .int v2] b S none S') (Hs3 : ∀ {v2 : Int32} {S S' : mT}, self 3 31 v2 S = some S' → mOk l mX4_readSum (8 + d) [.ref 1, .ref 31, .int v2] b S none S') (Hs4 : ∀ {v2 : Int32} {S S' : mT}, self 4 31 v2 S = some S' → mOk l mX4_readTerm (8 + d) [.ref 1, .ref 31, .int v2] b S none S') (Hs5 : ∀ {v2 : Int32} {S S' : mT}, self 5 31 v2 S = some S' → mOk l mX4_readUnit (8 + d) [.ref 1, .ref 31, .int v2] b S none S') {S' : mT} {v2 : Int32} {S : mT} (hf : fX4_readUnit_0 31 self v2 S = some S') (ok : Bool) : mW p l e (mR (8 + (d + 1))) s m args below meth c G 4 233 54500 (mQ below G args s b S' none) (ok, 0, [.ref (1), .ref (31), .int v2, .retAddr 0], [], mk b S) := by
  unfold fX4_readUnit_0 at hf
  obtain ⟨hok, hf⟩ := grd_ex hf
  refine msegT C kX4_readUnit 0 4 (g := ((kO 31 0 && true), (if (S.1 31 3) < (30 : Int32) then 15 else 9), [.ref (1), .ref (31), .int v2, .retAddr 0], [], mk b S)) rfl hok ?_
  by_cases hc : (S.1 31 3) < (30 : Int32)
  · rw [if_pos hc] at hf ⊢
    obtain ⟨hok, hf⟩ := grd_ex hf
    refine msegT C kX4_readUnit 8 6 (g := ((kO 31 0 && (kO 31 0 && true)), 25, [.ref (1), .ref (31), .int v2, .retAddr 0], [], mk b (sI S 31 3 ((S.1 31 3) + (1 : Int32))))) rfl hok ?_
    obtain ⟨S1, eS1, hf⟩ := bnd_ex hf
    rw [← eS1]
    refine msegT C kX4_readUnit 14 1 (g := (true, 26, [.ref (1), .ref (31), .int v2, .retAddr 0], [.ref (1)], mk b S1)) rfl rfl ?_
    obtain ⟨x3, S2, hq, hf⟩ := bndC_ex hf
    refine mcall (kd := 0) (vs := [.ref (1)]) (rest := []) (r := (some (.int x3))) (h' := mk b S2) (ok' := true) C lkRX4_152 (qX4_valueNamed hq) (kX4_readUnit _ (List.mem_of_getElem? (i := 15) rfl)).1 ⟨_, _, rfl, rfl, Nat.le_of_ble_eq_true rfl, _, _, rfl, rfl, rfl⟩ (by show 7 + 1 ≤ 8 + (d + 1); omega) (by show 19 + 1 + 100 * (7) ≤ 100 * (8 + (d + 1)); omega) (Nat.le_refl _) (Nat.le_refl _) (Nat.le_of_ble_eq_true rfl) ?_
    obtain ⟨hok, hf⟩ := grd_ex hf
    refine msegT C kX4_readUnit 16 5 (g := ((kO 1 4 && true), (if (S2.1 1 4) = (2 : Int32) then 38 else 53), [.ref (1), .ref (31), .int v2, .int x3], [], mk b S2)) rfl hok ?_
    by_cases hc : (S2.1 1 4) = (2 : Int32)
    · rw [if_pos hc] at hf ⊢
      obtain ⟨hok, hf⟩ := grd_ex hf
      refine msegT C kX4_readUnit 21 3 (g := ((kO 1 4 && true), 43, [.ref (1), .ref (31), .int v2, .int x3], [.int (S2.1 1 7), .ref (31)], mk b S2)) rfl hok ?_
      obtain ⟨S4, hq, hf⟩ := bndV_ex hf
      refine mcall (kd := 0) (vs := [.ref (31), .int (S2.1 1 7)]) (rest := []) (r := none) (h' := mk b S4) (ok' := true) C lkRX4_122 (qX0_add_31 hq) (kX4_readUnit _ (List.mem_of_getElem? (i := 24) rfl)).1 ⟨_, _, rfl, rfl, Nat.le_of_ble_eq_true rfl, _, _, rfl, rfl, rfl⟩ (by show 1 + 1 ≤ 8 + (d + 1); omega) (by show 19 + 2 + 100 * (1) ≤ 100 * (8 + (d + 1)); omega) (Nat.le_refl _) (Nat.le_refl _) (Nat.le_of_ble_eq_true rfl) ?_
      refine msegT C kX4_readUnit 25 1 (g := (true, 47, [.ref (1), .ref (31), .int v2, .int x3], [.ref (1)], mk b S4)) rfl rfl ?_
      obtain ⟨S5, hq, hf⟩ := bndV_ex hf
      refine mcall (kd := 0) (vs := [.ref (1)]) (rest := []) (r := none) (h' := mk b S5) (ok' := true) C lkRX4_30 (qX4_advance hq) (kX4_readUnit _ (List.mem_of_getElem? (i := 26) rfl)).1 ⟨_, _, rfl, rfl, Nat.le_of_ble_eq_true rfl, _, _, rfl, rfl, rfl⟩ (by show 3 + 1 ≤ 8 + (d + 1); omega) (by show 19 + 1 + 100 * (3) ≤ 100 * (8 + (d + 1)); omega) (Nat.le_refl _) (Nat.le_refl _) (Nat.le_of_ble_eq_true rfl) ?_
      refine msegT C kX4_readUnit 27 1 (g := (true, 115, [.ref (1), .ref (31), .int v2, .int x3], [], mk b S5)) rfl rfl ?_
      exact mfor (L' := [.retAddr 0, .retAddr 0, .retAddr 0, .retAddr 0]) ⟨Or.inl rfl, Or.inl rfl, Or.inl rfl, Or.inl rfl, trivial⟩ (bX4_readUnit_115_31 C hr hk Hs0 Hs1 Hs2 Hs3 Hs4 Hs5 hf true)
    · rw [if_neg hc] at hf ⊢
      refine msegT C kX4_readUnit 28 3 (g := (true, (if x3 = (-1 : Int32) then 74 else 58), [.ref (1), .ref (31), .int v2, .int x3], [], mk b S2)) rfl rfl ?_
      by_cases hc : x3 = (-1 : Int32)
      · rw [if_pos hc] at hf ⊢
        refine msegT C kX4_readUnit 39 2 (g := (true, 77, [.ref (1), .ref (31), .int v2, .int x3], [.int (40 : Int32), .ref (1)], mk b S2)) rfl rfl ?_
        obtain ⟨x7, S6, hq, hf⟩ := bndC_ex hf
        refine mcall (kd := 0) (vs := [.ref (1), .int (40 : Int32)]) (rest := []) (r := (some (.int x7))) (h' := mk b S6) (ok' := true) C lkRX4_135 (qX4_isSign hq) (kX4_readUnit _ (List.mem_of_getElem? (i := 41) rfl)).1 ⟨_, _, rfl, rfl, Nat.le_of_ble_eq_true rfl, _, _, rfl, rfl, rfl⟩ (by show 1 + 1 ≤ 8 + (d + 1); omega) (by show 19 + 2 + 100 * (1) ≤ 100 * (8 + (d + 1)); omega) (Nat.le_refl _) (Nat.le_refl _) (Nat.le_of_ble_eq_true rfl) ?_
        refine msegT C kX4_readUnit 42 1 (g := (true, (if x7 = 0 then 110 else 83), [.ref (1), .ref (31), .int v2, .int x3], [], mk b S6)) rfl rfl ?_
        by_cases hc : x7 = 0
        · rw [if_pos hc] at hf ⊢
          exact mfor (L' := [.ref (1), .retAddr 0, .retAddr 0, .retAddr 0]) ⟨Or.inr rfl, Or.inl rfl, Or.inl rfl, Or.inl rfl, trivial⟩ (bX4_readUnit_110_31 C hr hk Hs0 Hs1 Hs2 Hs3 Hs4 Hs5 hf true)
        · rw [if_neg hc] at hf ⊢
          refine msegT C kX4_readUnit 43 3 (g := (true, (if (6 : Int32) < v2 then 110 else 89), [.ref (1), .ref (31), .int v2, .int x3], [], mk b S6)) rfl rfl ?_
          by_cases hc : (6 : Int32) < v2
          · rw [if_pos hc] at hf ⊢
            exact mfor (L' := [.ref (1), .retAddr 0, .retAddr 0, .retAddr 0]) ⟨Or.inr rfl, Or.inl rfl, Or.inl rfl, Or.inl rfl, trivial⟩ (bX4_readUnit_110_31 C hr hk Hs0 Hs1 Hs2 Hs3 Hs4 Hs5 hf true)
          · rw [if_neg hc] at hf ⊢
            refine msegT C kX4_readUnit 46 1 (g := (true, 90, [.ref (1), .ref (31), .int v2, .int x3], [.ref (1)], mk b S6)) rfl rfl ?_
            obtain ⟨S8, hq, hf⟩ := bndV_ex hf
            refine mcall (kd := 0) (vs := [.ref (1)]) (rest := []) (r := none) (h' := mk b S8) (ok' := true) C lkRX4_30 (qX4_advance hq) (kX4_readUnit _ (List.mem_of_getElem? (i := 47) rfl)).1 ⟨_, _, rfl, rfl, Nat.le_of_ble_eq_true rfl, _, _, rfl, rfl, rfl⟩ (by show 3 + 1 ≤ 8 + (d + 1); omega) (by show 19 + 1 + 100 * (3) ≤ 100 * (8 + (d + 1)); omega) (Nat.le_refl _) (Nat.le_refl _) (Nat.le_of_ble_eq_true rfl) ?_
            refine msegT C kX4_readUnit 48 5 (g := (true, 98, [.ref (1), .ref (31), .int v2, .int x3], [.int (v2 + (1 : Int32)), .ref (31), .ref (1)], mk b S8)) rfl rfl ?_
            obtain ⟨S9, hq, hf⟩ := bndV_ex hf
            refine mcall (kd := 0) (vs := [.ref (1), .ref (31), .int (v2 + (1 : Int32))]) (rest := []) (r := none) (h' := mk b S9) (ok' := true) C lkRX4_113 (Hs0 hq) (kX4_readUnit _ (List.mem_of_getElem? (i := 53) rfl)).1 ⟨_, _, rfl, rfl, Nat.le_of_ble_eq_true rfl, _, _, rfl, rfl, rfl⟩ (by show 8 + d + 1 ≤ 8 + (d + 1); omega) (by show 19 + 4 + 100 * (8 + d) ≤ 100 * (8 + (d + 1)); omega) (Nat.le_refl _) (Nat.le_refl _) (Nat.le_of_ble_eq_true rfl) ?_
            refine msegT C kX4_readUnit 54 2 (g := (true, 104, [.ref (1), .ref (31), .int v2, .int x3], [.int (41 : Int32), .ref (1)], mk b S9)) rfl rfl ?_
            obtain ⟨S10, hq, hf⟩ := bndV_ex hf
            refine mcall (kd := 0) (vs := [.ref (1), .int (41 : Int32)]) (rest := []) (r := none) (h' := mk b S10) (ok' := true) C lkRX4_59 (qX4_takeSign hq) (kX4_readUnit _ (List.mem_of_getElem? (i := 56) rfl)).1 ⟨_, _, rfl, rfl, Nat.le_of_ble_eq_true rfl, _, _, rfl, rfl, rfl⟩ (by show 4 + 1 ≤ 8 + (d + 1); omega) (by show 19 + 2 + 100 * (4) ≤ 100 * (8 + (d + 1)); omega) (Nat.le_refl _) (Nat.le_refl _) (Nat.le_of_ble_eq_true rfl) ?_
            refine msegT C kX4_readUnit 57 1 (g := (true, 115, [.ref (1), .ref (31), .int v2, .int x3], [], mk b S10)) rfl rfl ?_
            exact mfor (L' := [.retAddr 0, .retAddr 0, .retAddr 0, .retAddr 0]) ⟨Or.inl rfl, Or.inl rfl, Or.inl rfl, Or.inl rfl, trivial⟩ (bX4_readUnit_115_31 C hr hk Hs0 Hs1 Hs2 Hs3 Hs4 Hs5 hf true)
      · rw [if_neg hc] at hf ⊢
        refine msegT C kX4_readUnit 31 4 (g := (true, 64, [.ref (1), .ref (31), .int v2, .int x3], [.int ((10000 : Int32) + x3), .ref (31)], mk b S2)) rfl rfl ?_
        obtain ⟨S11, hq, hf⟩ := bndV_ex hf
        refine mcall (kd := 0) (vs := [.ref (31), .int ((10000 : Int32) + x3)]) (rest := []) (r := none) (h' := mk b S11) (ok' := true) C lkRX4_122 (qX0_add_31 hq) (kX4_readUnit _ (List.mem_of_getElem? (i := 35) rfl)).1 ⟨_, _, rfl, rfl, Nat.le_of_ble_eq_true rfl, _, _, rfl, rfl, rfl⟩ (by show 1 + 1 ≤ 8 + (d + 1); omega) (by show 19 + 2 + 100 * (1) ≤ 100 * (8 + (d + 1)); omega) (Nat.le_refl _) (Nat.le_refl _) (Nat.le_of_ble_eq_true rfl) ?_
        refine msegT C kX4_readUnit 36 1 (g := (true, 68, [.ref (1), .ref (31), .int v2, .int x3], [.ref (1)], mk b S11)) rfl rfl ?_
        obtain ⟨S12, hq, hf⟩ := bndV_ex hf
        refine mcall (kd := 0) (vs := [.ref (1)]) (rest := []) (r := none) (h' := mk b S12) (ok' := true) C lkRX4_30 (qX4_advance hq) (kX4_readUnit _ (List.mem_of_getElem? (i := 37) rfl)).1 ⟨_, _, rfl, rfl, Nat.le_of_ble_eq_true rfl, _, _, rfl, rfl, rfl⟩ (by show 3 + 1 ≤ 8 + (d + 1); omega) (by show 19 + 1 + 100 * (3) ≤ 100 * (8 + (d + 1)); omega) (Nat.le_refl _) (Nat.le_refl _) (Nat.le_of_ble_eq_true rfl) ?_
        refine msegT C kX4_readUnit 38 1 (g := (true, 115, [.ref (1), .ref (31), .int v2, .int x3], [], mk b S12)) rfl rfl ?_
        exact mfor (L' := [.retAddr 0, .retAddr 0, .retAddr 0, .retAddr 0]) ⟨Or.inl rfl, Or.inl rfl, Or.inl rfl, Or.inl rfl, trivial⟩ (bX4_readUnit_115_31 C hr hk Hs0 Hs1 Hs2 Hs3 Hs4 Hs5 hf true)
  · rw [if_neg hc] at hf ⊢
    refine msegT C kX4_readUnit 4 2 (g := (true, 11, [.ref (1), .ref (31), .int v2, .retAddr 0], [.int (2 : Int32), .ref (1)], mk b S)) rfl rfl ?_
    obtain ⟨S13, hq, hf⟩ := bndV_ex hf
    refine mcall (kd := 0) (vs := [.ref (1), .int (2 : Int32)]) (rest := []) (r := none) (h' := mk b S13) (ok' := true) C lkRX4_79 (qX4_refuse hq) (kX4_readUnit _ (List.mem_of_getElem? (i := 6) rfl)).1 ⟨_, _, rfl, rfl, Nat.le_of_ble_eq_true rfl, _, _, rfl, rfl, rfl⟩ (by show 1 + 1 ≤ 8 + (d + 1); omega) (by show 19 + 2 + 100 * (1) ≤ 100 * (8 + (d + 1)); omega) (Nat.le_refl _) (Nat.le_refl _) (Nat.le_of_ble_eq_true rfl) ?_
    cases hf
    exact gret_v C hr hk (kX4_readUnit _ (List.mem_of_getElem? (i := 7) rfl)).1
theorem qP_9 {b : Bool} : ∀ (d : Nat), (∀ {v2 : Int32} {S S' : mT}, fP d 0 9 v2 S = some S' → mOk l mX4_readEither (8 + d) [.ref 1, .ref 9, .int v2] b S none S') ∧ (∀ {v2 : Int32} {S S' : mT}, fP d 1 9 v2 S = some S' → mOk l mX4_readBoth (8 + d) [.ref 1, .ref 9, .int v2] b S none S') ∧ (∀ {v2 : Int32} {S S' : mT}, fP d 2 9 v2 S = some S' → mOk l mX4_readOne (8 + d) [.ref 1, .ref 9, .int v2] b S none S') ∧ (∀ {v2 : Int32} {S S' : mT}, fP d 3 9 v2 S = some S' → mOk l mX4_readSum (8 + d) [.ref 1, .ref 9, .int v2] b S none S') ∧ (∀ {v2 : Int32} {S S' : mT}, fP d 4 9 v2 S = some S' → mOk l mX4_readTerm (8 + d) [.ref 1, .ref 9, .int v2] b S none S') ∧ (∀ {v2 : Int32} {S S' : mT}, fP d 5 9 v2 S = some S' → mOk l mX4_readUnit (8 + d) [.ref 1, .ref 9, .int v2] b S none S') := by
  intro d
  induction d with
  | zero => exact ⟨(fun hf => by cases hf), (fun hf => by cases hf), (fun hf => by cases hf), (fun hf => by cases hf), (fun hf => by cases hf), (fun hf => by cases hf)⟩
  | succ d ih => exact ⟨(fun hf => gMet (by decide) (by show 1 ≤ 8 + (d + 1); omega) rfl (Nat.le_of_ble_eq_true rfl) (fun p e s m args below meth c G C hr hk => bX4_readEither_0_9 C hr hk ih.1 ih.2.1 ih.2.2.1 ih.2.2.2.1 ih.2.2.2.2.1 ih.2.2.2.2.2 hf true)), (fun hf => gMet (by decide) (by show 1 ≤ 8 + (d + 1); omega) rfl (Nat.le_of_ble_eq_true rfl) (fun p e s m args below meth c G C hr hk => bX4_readBoth_0_9 C hr hk ih.1 ih.2.1 ih.2.2.1 ih.2.2.2.1 ih.2.2.2.2.1 ih.2.2.2.2.2 hf true)), (fun hf => gMet (by decide) (by show 1 ≤ 8 + (d + 1); omega) rfl (Nat.le_of_ble_eq_true rfl) (fun p e s m args below meth c G C hr hk => bX4_readOne_0_9 C hr hk ih.1 ih.2.1 ih.2.2.1 ih.2.2.2.1 ih.2.2.2.2.1 ih.2.2.2.2.2 hf true)), (fun hf => gMet (by decide) (by show 1 ≤ 8 + (d + 1); omega) rfl (Nat.le_of_ble_eq_true rfl) (fun p e s m args below meth c G C hr hk => bX4_readSum_0_9 C hr hk ih.1 ih.2.1 ih.2.2.1 ih.2.2.2.1 ih.2.2.2.2.1 ih.2.2.2.2.2 hf true)), (fun hf => gMet (by decide) (by show 1 ≤ 8 + (d + 1); omega) rfl (Nat.le_of_ble_eq_true rfl) (fun p e s m args below meth c G C hr hk => bX4_readTerm_0_9 C hr hk ih.1 ih.2.1 ih.2.2.1 ih.2.2.2.1 ih.2.2.2.2.1 ih.2.2.2.2.2 hf true)), (fun hf => gMet (by decide) (by show 1 ≤ 8 + (d + 1); omega) rfl (Nat.le_of_ble_eq_true rfl) (fun p e s m args below meth c G C hr hk => bX4_readUnit_0_9 C hr hk ih.1 ih.2.1 ih.2.2.1 ih.2.2.2.1 ih.2.2.2.2.1 ih.2.2.2.2.2 hf true))⟩
theorem qP_12 {b : Bool} : ∀ (d : Nat), (∀ {v2 : Int32} {S S' : mT}, fP d 0 12 v2 S = some S' → mOk l mX4_readEither (8 + d) [.ref 1, .ref 12, .int v2] b S none S') ∧ (∀ {v2 : Int32} {S S' : mT}, fP d 1 12 v2 S = some S' → mOk l mX4_readBoth (8 + d) [.ref 1, .ref 12, .int v2] b S none S') ∧ (∀ {v2 : Int32} {S S' : mT}, fP d 2 12 v2 S = some S' → mOk l mX4_readOne (8 + d) [.ref 1, .ref 12, .int v2] b S none S') ∧ (∀ {v2 : Int32} {S S' : mT}, fP d 3 12 v2 S = some S' → mOk l mX4_readSum (8 + d) [.ref 1, .ref 12, .int v2] b S none S') ∧ (∀ {v2 : Int32} {S S' : mT}, fP d 4 12 v2 S = some S' → mOk l mX4_readTerm (8 + d) [.ref 1, .ref 12, .int v2] b S none S') ∧ (∀ {v2 : Int32} {S S' : mT}, fP d 5 12 v2 S = some S' → mOk l mX4_readUnit (8 + d) [.ref 1, .ref 12, .int v2] b S none S') := by
  intro d
  induction d with
  | zero => exact ⟨(fun hf => by cases hf), (fun hf => by cases hf), (fun hf => by cases hf), (fun hf => by cases hf), (fun hf => by cases hf), (fun hf => by cases hf)⟩
  | succ d ih => exact ⟨(fun hf => gMet (by decide) (by show 1 ≤ 8 + (d + 1); omega) rfl (Nat.le_of_ble_eq_true rfl) (fun p e s m args below meth c G C hr hk => bX4_readEither_0_12 C hr hk ih.1 ih.2.1 ih.2.2.1 ih.2.2.2.1 ih.2.2.2.2.1 ih.2.2.2.2.2 hf true)), (fun hf => gMet (by decide) (by show 1 ≤ 8 + (d + 1); omega) rfl (Nat.le_of_ble_eq_true rfl) (fun p e s m args below meth c G C hr hk => bX4_readBoth_0_12 C hr hk ih.1 ih.2.1 ih.2.2.1 ih.2.2.2.1 ih.2.2.2.2.1 ih.2.2.2.2.2 hf true)), (fun hf => gMet (by decide) (by show 1 ≤ 8 + (d + 1); omega) rfl (Nat.le_of_ble_eq_true rfl) (fun p e s m args below meth c G C hr hk => bX4_readOne_0_12 C hr hk ih.1 ih.2.1 ih.2.2.1 ih.2.2.2.1 ih.2.2.2.2.1 ih.2.2.2.2.2 hf true)), (fun hf => gMet (by decide) (by show 1 ≤ 8 + (d + 1); omega) rfl (Nat.le_of_ble_eq_true rfl) (fun p e s m args below meth c G C hr hk => bX4_readSum_0_12 C hr hk ih.1 ih.2.1 ih.2.2.1 ih.2.2.2.1 ih.2.2.2.2.1 ih.2.2.2.2.2 hf true)), (fun hf => gMet (by decide) (by show 1 ≤ 8 + (d + 1); omega) rfl (Nat.le_of_ble_eq_true rfl) (fun p e s m args below meth c G C hr hk => bX4_readTerm_0_12 C hr hk ih.1 ih.2.1 ih.2.2.1 ih.2.2.2.1 ih.2.2.2.2.1 ih.2.2.2.2.2 hf true)), (fun hf => gMet (by decide) (by show 1 ≤ 8 + (d + 1); omega) rfl (Nat.le_of_ble_eq_true rfl) (fun p e s m args below meth c G C hr hk => bX4_readUnit_0_12 C hr hk ih.1 ih.2.1 ih.2.2.1 ih.2.2.2.1 ih.2.2.2.2.1 ih.2.2.2.2.2 hf true))⟩
theorem qP_15 {b : Bool} : ∀ (d : Nat), (∀ {v2 : Int32} {S S' : mT}, fP d 0 15 v2 S = some S' → mOk l mX4_readEither (8 + d) [.ref 1, .ref 15, .int v2] b S none S') ∧ (∀ {v2 : Int32} {S S' : mT}, fP d 1 15 v2 S = some S' → mOk l mX4_readBoth (8 + d) [.ref 1, .ref 15, .int v2] b S none S') ∧ (∀ {v2 : Int32} {S S' : mT}, fP d 2 15 v2 S = some S' → mOk l mX4_readOne (8 + d) [.ref 1, .ref 15, .int v2] b S none S') ∧ (∀ {v2 : Int32} {S S' : mT}, fP d 3 15 v2 S = some S' → mOk l mX4_readSum (8 + d) [.ref 1, .ref 15, .int v2] b S none S') ∧ (∀ {v2 : Int32} {S S' : mT}, fP d 4 15 v2 S = some S' → mOk l mX4_readTerm (8 + d) [.ref 1, .ref 15, .int v2] b S none S') ∧ (∀ {v2 : Int32} {S S' : mT}, fP d 5 15 v2 S = some S' → mOk l mX4_readUnit (8 + d) [.ref 1, .ref 15, .int v2] b S none S') := by
  intro d
  induction d with
  | zero => exact ⟨(fun hf => by cases hf), (fun hf => by cases hf), (fun hf => by cases hf), (fun hf => by cases hf), (fun hf => by cases hf), (fun hf => by cases hf)⟩
  | succ d ih => exact ⟨(fun hf => gMet (by decide) (by show 1 ≤ 8 + (d + 1); omega) rfl (Nat.le_of_ble_eq_true rfl) (fun p e s m args below meth c G C hr hk => bX4_readEither_0_15 C hr hk ih.1 ih.2.1 ih.2.2.1 ih.2.2.2.1 ih.2.2.2.2.1 ih.2.2.2.2.2 hf true)), (fun hf => gMet (by decide) (by show 1 ≤ 8 + (d + 1); omega) rfl (Nat.le_of_ble_eq_true rfl) (fun p e s m args below meth c G C hr hk => bX4_readBoth_0_15 C hr hk ih.1 ih.2.1 ih.2.2.1 ih.2.2.2.1 ih.2.2.2.2.1 ih.2.2.2.2.2 hf true)), (fun hf => gMet (by decide) (by show 1 ≤ 8 + (d + 1); omega) rfl (Nat.le_of_ble_eq_true rfl) (fun p e s m args below meth c G C hr hk => bX4_readOne_0_15 C hr hk ih.1 ih.2.1 ih.2.2.1 ih.2.2.2.1 ih.2.2.2.2.1 ih.2.2.2.2.2 hf true)), (fun hf => gMet (by decide) (by show 1 ≤ 8 + (d + 1); omega) rfl (Nat.le_of_ble_eq_true rfl) (fun p e s m args below meth c G C hr hk => bX4_readSum_0_15 C hr hk ih.1 ih.2.1 ih.2.2.1 ih.2.2.2.1 ih.2.2.2.2.1 ih.2.2.2.2.2 hf true)), (fun hf => gMet (by decide) (by show 1 ≤ 8 + (d + 1); omega) rfl (Nat.le_of_ble_eq_true rfl) (fun p e s m args below meth c G C hr hk => bX4_readTerm_0_15 C hr hk ih.1 ih.2.1 ih.2.2.1 ih.2.2.2.1 ih.2.2.2.2.1 ih.2.2.2.2.2 hf true)), (fun hf => gMet (by decide) (by show 1 ≤ 8 + (d + 1); omega) rfl (Nat.le_of_ble_eq_true rfl) (fun p e s m args below meth c G C hr hk => bX4_readUnit_0_15 C hr hk ih.1 ih.2.1 ih.2.2.1 ih.2.2.2.1 ih.2.2.2.2.1 ih.2.2.2.2.2 hf true))⟩
theorem qP_25 {b : Bool} : ∀ (d : Nat), (∀ {v2 : Int32} {S S' : mT}, fP d 0 25 v2 S = some S' → mOk l mX4_readEither (8 + d) [.ref 1, .ref 25, .int v2] b S none S') ∧ (∀ {v2 : Int32} {S S' : mT}, fP d 1 25 v2 S = some S' → mOk l mX4_readBoth (8 + d) [.ref 1, .ref 25, .int v2] b S none S') ∧ (∀ {v2 : Int32} {S S' : mT}, fP d 2 25 v2 S = some S' → mOk l mX4_readOne (8 + d) [.ref 1, .ref 25, .int v2] b S none S') ∧ (∀ {v2 : Int32} {S S' : mT}, fP d 3 25 v2 S = some S' → mOk l mX4_readSum (8 + d) [.ref 1, .ref 25, .int v2] b S none S') ∧ (∀ {v2 : Int32} {S S' : mT}, fP d 4 25 v2 S = some S' → mOk l mX4_readTerm (8 + d) [.ref 1, .ref 25, .int v2] b S none S') ∧ (∀ {v2 : Int32} {S S' : mT}, fP d 5 25 v2 S = some S' → mOk l mX4_readUnit (8 + d) [.ref 1, .ref 25, .int v2] b S none S') := by
  intro d
  induction d with
  | zero => exact ⟨(fun hf => by cases hf), (fun hf => by cases hf), (fun hf => by cases hf), (fun hf => by cases hf), (fun hf => by cases hf), (fun hf => by cases hf)⟩
  | succ d ih => exact ⟨(fun hf => gMet (by decide) (by show 1 ≤ 8 + (d + 1); omega) rfl (Nat.le_of_ble_eq_true rfl) (fun p e s m args below meth c G C hr hk => bX4_readEither_0_25 C hr hk ih.1 ih.2.1 ih.2.2.1 ih.2.2.2.1 ih.2.2.2.2.1 ih.2.2.2.2.2 hf true)), (fun hf => gMet (by decide) (by show 1 ≤ 8 + (d + 1); omega) rfl (Nat.le_of_ble_eq_true rfl) (fun p e s m args below meth c G C hr hk => bX4_readBoth_0_25 C hr hk ih.1 ih.2.1 ih.2.2.1 ih.2.2.2.1 ih.2.2.2.2.1 ih.2.2.2.2.2 hf true)), (fun hf => gMet (by decide) (by show 1 ≤ 8 + (d + 1); omega) rfl (Nat.le_of_ble_eq_true rfl) (fun p e s m args below meth c G C hr hk => bX4_readOne_0_25 C hr hk ih.1 ih.2.1 ih.2.2.1 ih.2.2.2.1 ih.2.2.2.2.1 ih.2.2.2.2.2 hf true)), (fun hf => gMet (by decide) (by show 1 ≤ 8 + (d + 1); omega) rfl (Nat.le_of_ble_eq_true rfl) (fun p e s m args below meth c G C hr hk => bX4_readSum_0_25 C hr hk ih.1 ih.2.1 ih.2.2.1 ih.2.2.2.1 ih.2.2.2.2.1 ih.2.2.2.2.2 hf true)), (fun hf => gMet (by decide) (by show 1 ≤ 8 + (d + 1); omega) rfl (Nat.le_of_ble_eq_true rfl) (fun p e s m args below meth c G C hr hk => bX4_readTerm_0_25 C hr hk ih.1 ih.2.1 ih.2.2.1 ih.2.2.2.1 ih.2.2.2.2.1 ih.2.2.2.2.2 hf true)), (fun hf => gMet (by decide) (by show 1 ≤ 8 + (d + 1); omega) rfl (Nat.le_of_ble_eq_true rfl) (fun p e s m args below meth c G C hr hk => bX4_readUnit_0_25 C hr hk ih.1 ih.2.1 ih.2.2.1 ih.2.2.2.1 ih.2.2.2.2.1 ih.2.2.2.2.2 hf true))⟩
theorem qP_28 {b : Bool} : ∀ (d : Nat), (∀ {v2 : Int32} {S S' : mT}, fP d 0 28 v2 S = some S' → mOk l mX4_readEither (8 + d) [.ref 1, .ref 28, .int v2] b S none S') ∧ (∀ {v2 : Int32} {S S' : mT}, fP d 1 28 v2 S = some S' → mOk l mX4_readBoth (8 + d) [.ref 1, .ref 28, .int v2] b S none S') ∧ (∀ {v2 : Int32} {S S' : mT}, fP d 2 28 v2 S = some S' → mOk l mX4_readOne (8 + d) [.ref 1, .ref 28, .int v2] b S none S') ∧ (∀ {v2 : Int32} {S S' : mT}, fP d 3 28 v2 S = some S' → mOk l mX4_readSum (8 + d) [.ref 1, .ref 28, .int v2] b S none S') ∧ (∀ {v2 : Int32} {S S' : mT}, fP d 4 28 v2 S = some S' → mOk l mX4_readTerm (8 + d) [.ref 1, .ref 28, .int v2] b S none S') ∧ (∀ {v2 : Int32} {S S' : mT}, fP d 5 28 v2 S = some S' → mOk l mX4_readUnit (8 + d) [.ref 1, .ref 28, .int v2] b S none S') := by
  intro d
  induction d with
  | zero => exact ⟨(fun hf => by cases hf), (fun hf => by cases hf), (fun hf => by cases hf), (fun hf => by cases hf), (fun hf => by cases hf), (fun hf => by cases hf)⟩
  | succ d ih => exact ⟨(fun hf => gMet (by decide) (by show 1 ≤ 8 + (d + 1); omega) rfl (Nat.le_of_ble_eq_true rfl) (fun p e s m args below meth c G C hr hk => bX4_readEither_0_28 C hr hk ih.1 ih.2.1 ih.2.2.1 ih.2.2.2.1 ih.2.2.2.2.1 ih.2.2.2.2.2 hf true)), (fun hf => gMet (by decide) (by show 1 ≤ 8 + (d + 1); omega) rfl (Nat.le_of_ble_eq_true rfl) (fun p e s m args below meth c G C hr hk => bX4_readBoth_0_28 C hr hk ih.1 ih.2.1 ih.2.2.1 ih.2.2.2.1 ih.2.2.2.2.1 ih.2.2.2.2.2 hf true)), (fun hf => gMet (by decide) (by show 1 ≤ 8 + (d + 1); omega) rfl (Nat.le_of_ble_eq_true rfl) (fun p e s m args below meth c G C hr hk => bX4_readOne_0_28 C hr hk ih.1 ih.2.1 ih.2.2.1 ih.2.2.2.1 ih.2.2.2.2.1 ih.2.2.2.2.2 hf true)), (fun hf => gMet (by decide) (by show 1 ≤ 8 + (d + 1); omega) rfl (Nat.le_of_ble_eq_true rfl) (fun p e s m args below meth c G C hr hk => bX4_readSum_0_28 C hr hk ih.1 ih.2.1 ih.2.2.1 ih.2.2.2.1 ih.2.2.2.2.1 ih.2.2.2.2.2 hf true)), (fun hf => gMet (by decide) (by show 1 ≤ 8 + (d + 1); omega) rfl (Nat.le_of_ble_eq_true rfl) (fun p e s m args below meth c G C hr hk => bX4_readTerm_0_28 C hr hk ih.1 ih.2.1 ih.2.2.1 ih.2.2.2.1 ih.2.2.2.2.1 ih.2.2.2.2.2 hf true)), (fun hf => gMet (by decide) (by show 1 ≤ 8 + (d + 1); omega) rfl (Nat.le_of_ble_eq_true rfl) (fun p e s m args below meth c G C hr hk => bX4_readUnit_0_28 C hr hk ih.1 ih.2.1 ih.2.2.1 ih.2.2.2.1 ih.2.2.2.2.1 ih.2.2.2.2.2 hf true))⟩
theorem qP_31 {b : Bool} : ∀ (d : Nat), (∀ {v2 : Int32} {S S' : mT}, fP d 0 31 v2 S = some S' → mOk l mX4_readEither (8 + d) [.ref 1, .ref 31, .int v2] b S none S') ∧ (∀ {v2 : Int32} {S S' : mT}, fP d 1 31 v2 S = some S' → mOk l mX4_readBoth (8 + d) [.ref 1, .ref 31, .int v2] b S none S') ∧ (∀ {v2 : Int32} {S S' : mT}, fP d 2 31 v2 S = some S' → mOk l mX4_readOne (8 + d) [.ref 1, .ref 31, .int v2] b S none S') ∧ (∀ {v2 : Int32} {S S' : mT}, fP d 3 31 v2 S = some S' → mOk l mX4_readSum (8 + d) [.ref 1, .ref 31, .int v2] b S none S') ∧ (∀ {v2 : Int32} {S S' : mT}, fP d 4 31 v2 S = some S' → mOk l mX4_readTerm (8 + d) [.ref 1, .ref 31, .int v2] b S none S') ∧ (∀ {v2 : Int32} {S S' : mT}, fP d 5 31 v2 S = some S' → mOk l mX4_readUnit (8 + d) [.ref 1, .ref 31, .int v2] b S none S') := by
  intro d
  induction d with
  | zero => exact ⟨(fun hf => by cases hf), (fun hf => by cases hf), (fun hf => by cases hf), (fun hf => by cases hf), (fun hf => by cases hf), (fun hf => by cases hf)⟩
  | succ d ih => exact ⟨(fun hf => gMet (by decide) (by show 1 ≤ 8 + (d + 1); omega) rfl (Nat.le_of_ble_eq_true rfl) (fun p e s m args below meth c G C hr hk => bX4_readEither_0_31 C hr hk ih.1 ih.2.1 ih.2.2.1 ih.2.2.2.1 ih.2.2.2.2.1 ih.2.2.2.2.2 hf true)), (fun hf => gMet (by decide) (by show 1 ≤ 8 + (d + 1); omega) rfl (Nat.le_of_ble_eq_true rfl) (fun p e s m args below meth c G C hr hk => bX4_readBoth_0_31 C hr hk ih.1 ih.2.1 ih.2.2.1 ih.2.2.2.1 ih.2.2.2.2.1 ih.2.2.2.2.2 hf true)), (fun hf => gMet (by decide) (by show 1 ≤ 8 + (d + 1); omega) rfl (Nat.le_of_ble_eq_true rfl) (fun p e s m args below meth c G C hr hk => bX4_readOne_0_31 C hr hk ih.1 ih.2.1 ih.2.2.1 ih.2.2.2.1 ih.2.2.2.2.1 ih.2.2.2.2.2 hf true)), (fun hf => gMet (by decide) (by show 1 ≤ 8 + (d + 1); omega) rfl (Nat.le_of_ble_eq_true rfl) (fun p e s m args below meth c G C hr hk => bX4_readSum_0_31 C hr hk ih.1 ih.2.1 ih.2.2.1 ih.2.2.2.1 ih.2.2.2.2.1 ih.2.2.2.2.2 hf true)), (fun hf => gMet (by decide) (by show 1 ≤ 8 + (d + 1); omega) rfl (Nat.le_of_ble_eq_true rfl) (fun p e s m args below meth c G C hr hk => bX4_readTerm_0_31 C hr hk ih.1 ih.2.1 ih.2.2.1 ih.2.2.2.1 ih.2.2.2.2.1 ih.2.2.2.2.2 hf true)), (fun hf => gMet (by decide) (by show 1 ≤ 8 + (d + 1); omega) rfl (Nat.le_of_ble_eq_true rfl) (fun p e s m args below meth c G C hr hk => bX4_readUnit_0_31 C hr hk ih.1 ih.2.1 ih.2.2.1 ih.2.2.2.1 ih.2.2.2.2.1 ih.2.2.2.2.2 hf true))⟩
theorem bX4_readLaw_11_9 (C : mCx p (mR 69) s m args meth c G cX4_readLaw RX4 2 false 233 54500 233 54500) (hr : meth.sig.returnType = none) (hk : meth.locks = false) {b : Bool} {S' : mT} {S : mT} (hf : fX4_readLaw_11 9 S = some S') (ok : Bool) : mW p l e (mR 69) s m args below meth c G 2 233 54500 (mQ below G args s b S' none) (ok, 11, [.ref (1), .retAddr 0], [], mk b S) := by
  unfold fX4_readLaw_11 at hf
  refine msegT C kX4_readLaw 5 2 (g := (true, 13, [.ref (1), .retAddr 0], [.int (2 : Int32), .ref (1)], mk b S)) rfl rfl ?_
  obtain ⟨S4, hq, hf⟩ := bndV_ex hf
  refine mcall (kd := 0) (vs := [.ref (1), .int (2 : Int32)]) (rest := []) (r := none) (h' := mk b S4) (ok' := true) C lkRX4_79 (qX4_refuse hq) (kX4_readLaw _ (List.mem_of_getElem? (i := 7) rfl)).1 ⟨_, _, rfl, rfl, Nat.le_of_ble_eq_true rfl, _, _, rfl, rfl, rfl⟩ (Nat.le_of_ble_eq_true rfl) (Nat.le_of_ble_eq_true rfl) (Nat.le_refl _) (Nat.le_refl _) (Nat.le_of_ble_eq_true rfl) ?_
  cases hf
  exact gret_v C hr hk (kX4_readLaw _ (List.mem_of_getElem? (i := 8) rfl)).1
theorem bX4_readLaw_0_9 (C : mCx p (mR 69) s m args meth c G cX4_readLaw RX4 2 false 233 54500 233 54500) (hr : meth.sig.returnType = none) (hk : meth.locks = false) {b : Bool} {S' : mT} {S : mT} (hf : fX4_readLaw 9 S = some S') (ok : Bool) : mW p l e (mR 69) s m args below meth c G 2 233 54500 (mQ below G args s b S' none) (ok, 0, [.ref (1), .ref (9)], [], mk b S) := by
  unfold fX4_readLaw at hf
  refine msegT C kX4_readLaw 0 2 (g := (true, (if 9 = NUL then 11 else 4), [.ref (1), .ref (9)], [], mk b S)) rfl rfl ?_
  by_cases hc : 9 = NUL
  · rw [if_pos hc] at hf ⊢
    exact mfor (L' := [.ref (1), .retAddr 0]) ⟨Or.inr rfl, Or.inl rfl, trivial⟩ (bX4_readLaw_11_9 C hr hk hf true)
  · rw [if_neg hc] at hf ⊢
    obtain ⟨hok, hf⟩ := grd_ex hf
    refine msegT C kX4_readLaw 2 3 (g := ((kO 9 0 && true), (if (S.1 9 4) = 0 then 17 else 11), [.ref (1), .ref (9)], [], mk b S)) rfl hok ?_
    by_cases hc : (S.1 9 4) = 0
    · rw [if_pos hc] at hf ⊢
      obtain ⟨hok, hf⟩ := grd_ex hf
      refine msegT C kX4_readLaw 9 3 (g := ((mFit .boolean (1 : Int32) && (kO 9 0 && true)), 22, [.ref (1), .ref (9)], [], mk b (sI S 9 4 (1 : Int32)))) rfl hok ?_
      obtain ⟨S1, eS1, hf⟩ := bnd_ex hf
      rw [← eS1]
      refine msegT C kX4_readLaw 12 1 (g := (true, 23, [.ref (1), .ref (9)], [.ref (1)], mk b S1)) rfl rfl ?_
      obtain ⟨S2, hq, hf⟩ := bndV_ex hf
      refine mcall (kd := 0) (vs := [.ref (1)]) (rest := []) (r := none) (h' := mk b S2) (ok' := true) C lkRX4_30 (qX4_advance hq) (kX4_readLaw _ (List.mem_of_getElem? (i := 13) rfl)).1 ⟨_, _, rfl, rfl, Nat.le_of_ble_eq_true rfl, _, _, rfl, rfl, rfl⟩ (Nat.le_of_ble_eq_true rfl) (Nat.le_of_ble_eq_true rfl) (Nat.le_refl _) (Nat.le_refl _) (Nat.le_of_ble_eq_true rfl) ?_
      refine msegT C kX4_readLaw 14 3 (g := (true, 29, [.ref (1), .ref (9)], [.int (0 : Int32), .ref (9), .ref (1)], mk b S2)) rfl rfl ?_
      obtain ⟨S3, hq, hf⟩ := bndV_ex hf
      refine mcall (kd := 0) (vs := [.ref (1), .ref (9), .int (0 : Int32)]) (rest := []) (r := none) (h' := mk b S3) (ok' := true) C lkRX4_113 ((qP_9 60).1 hq) (kX4_readLaw _ (List.mem_of_getElem? (i := 17) rfl)).1 ⟨_, _, rfl, rfl, Nat.le_of_ble_eq_true rfl, _, _, rfl, rfl, rfl⟩ (Nat.le_of_ble_eq_true rfl) (Nat.le_of_ble_eq_true rfl) (Nat.le_refl _) (Nat.le_refl _) (Nat.le_of_ble_eq_true rfl) ?_
      cases hf
      exact gret_v C hr hk (kX4_readLaw _ (List.mem_of_getElem? (i := 18) rfl)).1
    · rw [if_neg hc] at hf ⊢
      exact mfor (L' := [.ref (1), .retAddr 0]) ⟨Or.inr rfl, Or.inl rfl, trivial⟩ (bX4_readLaw_11_9 C hr hk hf true)
theorem qX4_readLaw_9 {b : Bool} {S S' : mT} (hf : fX4_readLaw 9 S = some S') : mOk l mX4_readLaw 69 [.ref (1), .ref (9)] b S none S' :=
  gMet (by decide) (Nat.le_of_ble_eq_true rfl) rfl (Nat.le_of_ble_eq_true rfl) (fun p e s m args below meth c G C hr hk => bX4_readLaw_0_9 C hr hk hf true)
theorem bX4_readLaw_11_12 (C : mCx p (mR 69) s m args meth c G cX4_readLaw RX4 2 false 233 54500 233 54500) (hr : meth.sig.returnType = none) (hk : meth.locks = false) {b : Bool} {S' : mT} {S : mT} (hf : fX4_readLaw_11 12 S = some S') (ok : Bool) : mW p l e (mR 69) s m args below meth c G 2 233 54500 (mQ below G args s b S' none) (ok, 11, [.ref (1), .retAddr 0], [], mk b S) := by
  unfold fX4_readLaw_11 at hf
  refine msegT C kX4_readLaw 5 2 (g := (true, 13, [.ref (1), .retAddr 0], [.int (2 : Int32), .ref (1)], mk b S)) rfl rfl ?_
  obtain ⟨S4, hq, hf⟩ := bndV_ex hf
  refine mcall (kd := 0) (vs := [.ref (1), .int (2 : Int32)]) (rest := []) (r := none) (h' := mk b S4) (ok' := true) C lkRX4_79 (qX4_refuse hq) (kX4_readLaw _ (List.mem_of_getElem? (i := 7) rfl)).1 ⟨_, _, rfl, rfl, Nat.le_of_ble_eq_true rfl, _, _, rfl, rfl, rfl⟩ (Nat.le_of_ble_eq_true rfl) (Nat.le_of_ble_eq_true rfl) (Nat.le_refl _) (Nat.le_refl _) (Nat.le_of_ble_eq_true rfl) ?_
  cases hf
  exact gret_v C hr hk (kX4_readLaw _ (List.mem_of_getElem? (i := 8) rfl)).1
theorem bX4_readLaw_0_12 (C : mCx p (mR 69) s m args meth c G cX4_readLaw RX4 2 false 233 54500 233 54500) (hr : meth.sig.returnType = none) (hk : meth.locks = false) {b : Bool} {S' : mT} {S : mT} (hf : fX4_readLaw 12 S = some S') (ok : Bool) : mW p l e (mR 69) s m args below meth c G 2 233 54500 (mQ below G args s b S' none) (ok, 0, [.ref (1), .ref (12)], [], mk b S) := by
  unfold fX4_readLaw at hf
  refine msegT C kX4_readLaw 0 2 (g := (true, (if 12 = NUL then 11 else 4), [.ref (1), .ref (12)], [], mk b S)) rfl rfl ?_
  by_cases hc : 12 = NUL
  · rw [if_pos hc] at hf ⊢
    exact mfor (L' := [.ref (1), .retAddr 0]) ⟨Or.inr rfl, Or.inl rfl, trivial⟩ (bX4_readLaw_11_12 C hr hk hf true)
  · rw [if_neg hc] at hf ⊢
    obtain ⟨hok, hf⟩ := grd_ex hf
    refine msegT C kX4_readLaw 2 3 (g := ((kO 12 0 && true), (if (S.1 12 4) = 0 then 17 else 11), [.ref (1), .ref (12)], [], mk b S)) rfl hok ?_
    by_cases hc : (S.1 12 4) = 0
    · rw [if_pos hc] at hf ⊢
      obtain ⟨hok, hf⟩ := grd_ex hf
      refine msegT C kX4_readLaw 9 3 (g := ((mFit .boolean (1 : Int32) && (kO 12 0 && true)), 22, [.ref (1), .ref (12)], [], mk b (sI S 12 4 (1 : Int32)))) rfl hok ?_
      obtain ⟨S1, eS1, hf⟩ := bnd_ex hf
      rw [← eS1]
      refine msegT C kX4_readLaw 12 1 (g := (true, 23, [.ref (1), .ref (12)], [.ref (1)], mk b S1)) rfl rfl ?_
      obtain ⟨S2, hq, hf⟩ := bndV_ex hf
      refine mcall (kd := 0) (vs := [.ref (1)]) (rest := []) (r := none) (h' := mk b S2) (ok' := true) C lkRX4_30 (qX4_advance hq) (kX4_readLaw _ (List.mem_of_getElem? (i := 13) rfl)).1 ⟨_, _, rfl, rfl, Nat.le_of_ble_eq_true rfl, _, _, rfl, rfl, rfl⟩ (Nat.le_of_ble_eq_true rfl) (Nat.le_of_ble_eq_true rfl) (Nat.le_refl _) (Nat.le_refl _) (Nat.le_of_ble_eq_true rfl) ?_
      refine msegT C kX4_readLaw 14 3 (g := (true, 29, [.ref (1), .ref (12)], [.int (0 : Int32), .ref (12), .ref (1)], mk b S2)) rfl rfl ?_
      obtain ⟨S3, hq, hf⟩ := bndV_ex hf
      refine mcall (kd := 0) (vs := [.ref (1), .ref (12), .int (0 : Int32)]) (rest := []) (r := none) (h' := mk b S3) (ok' := true) C lkRX4_113 ((qP_12 60).1 hq) (kX4_readLaw _ (List.mem_of_getElem? (i := 17) rfl)).1 ⟨_, _, rfl, rfl, Nat.le_of_ble_eq_true rfl, _, _, rfl, rfl, rfl⟩ (Nat.le_of_ble_eq_true rfl) (Nat.le_of_ble_eq_true rfl) (Nat.le_refl _) (Nat.le_refl _) (Nat.le_of_ble_eq_true rfl) ?_
      cases hf
      exact gret_v C hr hk (kX4_readLaw _ (List.mem_of_getElem? (i := 18) rfl)).1
    · rw [if_neg hc] at hf ⊢
      exact mfor (L' := [.ref (1), .retAddr 0]) ⟨Or.inr rfl, Or.inl rfl, trivial⟩ (bX4_readLaw_11_12 C hr hk hf true)
theorem qX4_readLaw_12 {b : Bool} {S S' : mT} (hf : fX4_readLaw 12 S = some S') : mOk l mX4_readLaw 69 [.ref (1), .ref (12)] b S none S' :=
  gMet (by decide) (Nat.le_of_ble_eq_true rfl) rfl (Nat.le_of_ble_eq_true rfl) (fun p e s m args below meth c G C hr hk => bX4_readLaw_0_12 C hr hk hf true)
theorem bX4_readLaw_11_15 (C : mCx p (mR 69) s m args meth c G cX4_readLaw RX4 2 false 233 54500 233 54500) (hr : meth.sig.returnType = none) (hk : meth.locks = false) {b : Bool} {S' : mT} {S : mT} (hf : fX4_readLaw_11 15 S = some S') (ok : Bool) : mW p l e (mR 69) s m args below meth c G 2 233 54500 (mQ below G args s b S' none) (ok, 11, [.ref (1), .retAddr 0], [], mk b S) := by
  unfold fX4_readLaw_11 at hf
  refine msegT C kX4_readLaw 5 2 (g := (true, 13, [.ref (1), .retAddr 0], [.int (2 : Int32), .ref (1)], mk b S)) rfl rfl ?_
  obtain ⟨S4, hq, hf⟩ := bndV_ex hf
  refine mcall (kd := 0) (vs := [.ref (1), .int (2 : Int32)]) (rest := []) (r := none) (h' := mk b S4) (ok' := true) C lkRX4_79 (qX4_refuse hq) (kX4_readLaw _ (List.mem_of_getElem? (i := 7) rfl)).1 ⟨_, _, rfl, rfl, Nat.le_of_ble_eq_true rfl, _, _, rfl, rfl, rfl⟩ (Nat.le_of_ble_eq_true rfl) (Nat.le_of_ble_eq_true rfl) (Nat.le_refl _) (Nat.le_refl _) (Nat.le_of_ble_eq_true rfl) ?_
  cases hf
  exact gret_v C hr hk (kX4_readLaw _ (List.mem_of_getElem? (i := 8) rfl)).1
theorem bX4_readLaw_0_15 (C : mCx p (mR 69) s m args meth c G cX4_readLaw RX4 2 false 233 54500 233 54500) (hr : meth.sig.returnType = none) (hk : meth.locks = false) {b : Bool} {S' : mT} {S : mT} (hf : fX4_readLaw 15 S = some S') (ok : Bool) : mW p l e (mR 69) s m args below meth c G 2 233 54500 (mQ below G args s b S' none) (ok, 0, [.ref (1), .ref (15)], [], mk b S) := by
  unfold fX4_readLaw at hf
  refine msegT C kX4_readLaw 0 2 (g := (true, (if 15 = NUL then 11 else 4), [.ref (1), .ref (15)], [], mk b S)) rfl rfl ?_
  by_cases hc : 15 = NUL
  · rw [if_pos hc] at hf ⊢
    exact mfor (L' := [.ref (1), .retAddr 0]) ⟨Or.inr rfl, Or.inl rfl, trivial⟩ (bX4_readLaw_11_15 C hr hk hf true)
  · rw [if_neg hc] at hf ⊢
    obtain ⟨hok, hf⟩ := grd_ex hf
    refine msegT C kX4_readLaw 2 3 (g := ((kO 15 0 && true), (if (S.1 15 4) = 0 then 17 else 11), [.ref (1), .ref (15)], [], mk b S)) rfl hok ?_
    by_cases hc : (S.1 15 4) = 0
    · rw [if_pos hc] at hf ⊢
      obtain ⟨hok, hf⟩ := grd_ex hf
      refine msegT C kX4_readLaw 9 3 (g := ((mFit .boolean (1 : Int32) && (kO 15 0 && true)), 22, [.ref (1), .ref (15)], [], mk b (sI S 15 4 (1 : Int32)))) rfl hok ?_
      obtain ⟨S1, eS1, hf⟩ := bnd_ex hf
      rw [← eS1]
      refine msegT C kX4_readLaw 12 1 (g := (true, 23, [.ref (1), .ref (15)], [.ref (1)], mk b S1)) rfl rfl ?_
      obtain ⟨S2, hq, hf⟩ := bndV_ex hf
      refine mcall (kd := 0) (vs := [.ref (1)]) (rest := []) (r := none) (h' := mk b S2) (ok' := true) C lkRX4_30 (qX4_advance hq) (kX4_readLaw _ (List.mem_of_getElem? (i := 13) rfl)).1 ⟨_, _, rfl, rfl, Nat.le_of_ble_eq_true rfl, _, _, rfl, rfl, rfl⟩ (Nat.le_of_ble_eq_true rfl) (Nat.le_of_ble_eq_true rfl) (Nat.le_refl _) (Nat.le_refl _) (Nat.le_of_ble_eq_true rfl) ?_
      refine msegT C kX4_readLaw 14 3 (g := (true, 29, [.ref (1), .ref (15)], [.int (0 : Int32), .ref (15), .ref (1)], mk b S2)) rfl rfl ?_
      obtain ⟨S3, hq, hf⟩ := bndV_ex hf
      refine mcall (kd := 0) (vs := [.ref (1), .ref (15), .int (0 : Int32)]) (rest := []) (r := none) (h' := mk b S3) (ok' := true) C lkRX4_113 ((qP_15 60).1 hq) (kX4_readLaw _ (List.mem_of_getElem? (i := 17) rfl)).1 ⟨_, _, rfl, rfl, Nat.le_of_ble_eq_true rfl, _, _, rfl, rfl, rfl⟩ (Nat.le_of_ble_eq_true rfl) (Nat.le_of_ble_eq_true rfl) (Nat.le_refl _) (Nat.le_refl _) (Nat.le_of_ble_eq_true rfl) ?_
      cases hf
      exact gret_v C hr hk (kX4_readLaw _ (List.mem_of_getElem? (i := 18) rfl)).1
    · rw [if_neg hc] at hf ⊢
      exact mfor (L' := [.ref (1), .retAddr 0]) ⟨Or.inr rfl, Or.inl rfl, trivial⟩ (bX4_readLaw_11_15 C hr hk hf true)
theorem qX4_readLaw_15 {b : Bool} {S S' : mT} (hf : fX4_readLaw 15 S = some S') : mOk l mX4_readLaw 69 [.ref (1), .ref (15)] b S none S' :=
  gMet (by decide) (Nat.le_of_ble_eq_true rfl) rfl (Nat.le_of_ble_eq_true rfl) (fun p e s m args below meth c G C hr hk => bX4_readLaw_0_15 C hr hk hf true)
theorem bX4_readLaw_11_999999 (C : mCx p (mR 69) s m args meth c G cX4_readLaw RX4 2 false 233 54500 233 54500) (hr : meth.sig.returnType = none) (hk : meth.locks = false) {b : Bool} {S' : mT} {S : mT} (hf : fX4_readLaw_11 999999 S = some S') (ok : Bool) : mW p l e (mR 69) s m args below meth c G 2 233 54500 (mQ below G args s b S' none) (ok, 11, [.ref (1), .retAddr 0], [], mk b S) := by
  unfold fX4_readLaw_11 at hf
  refine msegT C kX4_readLaw 5 2 (g := (true, 13, [.ref (1), .retAddr 0], [.int (2 : Int32), .ref (1)], mk b S)) rfl rfl ?_
  obtain ⟨S1, hq, hf⟩ := bndV_ex hf
  refine mcall (kd := 0) (vs := [.ref (1), .int (2 : Int32)]) (rest := []) (r := none) (h' := mk b S1) (ok' := true) C lkRX4_79 (qX4_refuse hq) (kX4_readLaw _ (List.mem_of_getElem? (i := 7) rfl)).1 ⟨_, _, rfl, rfl, Nat.le_of_ble_eq_true rfl, _, _, rfl, rfl, rfl⟩ (Nat.le_of_ble_eq_true rfl) (Nat.le_of_ble_eq_true rfl) (Nat.le_refl _) (Nat.le_refl _) (Nat.le_of_ble_eq_true rfl) ?_
  cases hf
  exact gret_v C hr hk (kX4_readLaw _ (List.mem_of_getElem? (i := 8) rfl)).1
theorem bX4_readLaw_0_999999 (C : mCx p (mR 69) s m args meth c G cX4_readLaw RX4 2 false 233 54500 233 54500) (hr : meth.sig.returnType = none) (hk : meth.locks = false) {b : Bool} {S' : mT} {S : mT} (hf : fX4_readLaw 999999 S = some S') (ok : Bool) : mW p l e (mR 69) s m args below meth c G 2 233 54500 (mQ below G args s b S' none) (ok, 0, [.ref (1), .ref (999999)], [], mk b S) := by
  unfold fX4_readLaw at hf
  refine msegT C kX4_readLaw 0 2 (g := (true, (if 999999 = NUL then 11 else 4), [.ref (1), .ref (999999)], [], mk b S)) rfl rfl ?_
  by_cases hc : 999999 = NUL
  · rw [if_pos hc] at hf ⊢
    exact mfor (L' := [.ref (1), .retAddr 0]) ⟨Or.inr rfl, Or.inl rfl, trivial⟩ (bX4_readLaw_11_999999 C hr hk hf true)
  · rw [if_neg hc] at hf ⊢
    exact absurd (rfl : (999999 : Nat) = NUL) hc
theorem qX4_readLaw_999999 {b : Bool} {S S' : mT} (hf : fX4_readLaw 999999 S = some S') : mOk l mX4_readLaw 69 [.ref (1), .ref (999999)] b S none S' :=
  gMet (by decide) (Nat.le_of_ble_eq_true rfl) rfl (Nat.le_of_ble_eq_true rfl) (fun p e s m args below meth c G C hr hk => bX4_readLaw_0_999999 C hr hk hf true)
theorem bX4_readLaw_11_25 (C : mCx p (mR 69) s m args meth c G cX4_readLaw RX4 2 false 233 54500 233 54500) (hr : meth.sig.returnType = none) (hk : meth.locks = false) {b : Bool} {S' : mT} {S : mT} (hf : fX4_readLaw_11 25 S = some S') (ok : Bool) : mW p l e (mR 69) s m args below meth c G 2 233 54500 (mQ below G args s b S' none) (ok, 11, [.ref (1), .retAddr 0], [], mk b S) := by
  unfold fX4_readLaw_11 at hf
  refine msegT C kX4_readLaw 5 2 (g := (true, 13, [.ref (1), .retAddr 0], [.int (2 : Int32), .ref (1)], mk b S)) rfl rfl ?_
  obtain ⟨S4, hq, hf⟩ := bndV_ex hf
  refine mcall (kd := 0) (vs := [.ref (1), .int (2 : Int32)]) (rest := []) (r := none) (h' := mk b S4) (ok' := true) C lkRX4_79 (qX4_refuse hq) (kX4_readLaw _ (List.mem_of_getElem? (i := 7) rfl)).1 ⟨_, _, rfl, rfl, Nat.le_of_ble_eq_true rfl, _, _, rfl, rfl, rfl⟩ (Nat.le_of_ble_eq_true rfl) (Nat.le_of_ble_eq_true rfl) (Nat.le_refl _) (Nat.le_refl _) (Nat.le_of_ble_eq_true rfl) ?_
  cases hf
  exact gret_v C hr hk (kX4_readLaw _ (List.mem_of_getElem? (i := 8) rfl)).1
theorem bX4_readLaw_0_25 (C : mCx p (mR 69) s m args meth c G cX4_readLaw RX4 2 false 233 54500 233 54500) (hr : meth.sig.returnType = none) (hk : meth.locks = false) {b : Bool} {S' : mT} {S : mT} (hf : fX4_readLaw 25 S = some S') (ok : Bool) : mW p l e (mR 69) s m args below meth c G 2 233 54500 (mQ below G args s b S' none) (ok, 0, [.ref (1), .ref (25)], [], mk b S) := by
  unfold fX4_readLaw at hf
  refine msegT C kX4_readLaw 0 2 (g := (true, (if 25 = NUL then 11 else 4), [.ref (1), .ref (25)], [], mk b S)) rfl rfl ?_
  by_cases hc : 25 = NUL
  · rw [if_pos hc] at hf ⊢
    exact mfor (L' := [.ref (1), .retAddr 0]) ⟨Or.inr rfl, Or.inl rfl, trivial⟩ (bX4_readLaw_11_25 C hr hk hf true)
  · rw [if_neg hc] at hf ⊢
    obtain ⟨hok, hf⟩ := grd_ex hf
    refine msegT C kX4_readLaw 2 3 (g := ((kO 25 0 && true), (if (S.1 25 4) = 0 then 17 else 11), [.ref (1), .ref (25)], [], mk b S)) rfl hok ?_
    by_cases hc : (S.1 25 4) = 0
    · rw [if_pos hc] at hf ⊢
      obtain ⟨hok, hf⟩ := grd_ex hf
      refine msegT C kX4_readLaw 9 3 (g := ((mFit .boolean (1 : Int32) && (kO 25 0 && true)), 22, [.ref (1), .ref (25)], [], mk b (sI S 25 4 (1 : Int32)))) rfl hok ?_
      obtain ⟨S1, eS1, hf⟩ := bnd_ex hf
      rw [← eS1]
      refine msegT C kX4_readLaw 12 1 (g := (true, 23, [.ref (1), .ref (25)], [.ref (1)], mk b S1)) rfl rfl ?_
      obtain ⟨S2, hq, hf⟩ := bndV_ex hf
      refine mcall (kd := 0) (vs := [.ref (1)]) (rest := []) (r := none) (h' := mk b S2) (ok' := true) C lkRX4_30 (qX4_advance hq) (kX4_readLaw _ (List.mem_of_getElem? (i := 13) rfl)).1 ⟨_, _, rfl, rfl, Nat.le_of_ble_eq_true rfl, _, _, rfl, rfl, rfl⟩ (Nat.le_of_ble_eq_true rfl) (Nat.le_of_ble_eq_true rfl) (Nat.le_refl _) (Nat.le_refl _) (Nat.le_of_ble_eq_true rfl) ?_
      refine msegT C kX4_readLaw 14 3 (g := (true, 29, [.ref (1), .ref (25)], [.int (0 : Int32), .ref (25), .ref (1)], mk b S2)) rfl rfl ?_
      obtain ⟨S3, hq, hf⟩ := bndV_ex hf
      refine mcall (kd := 0) (vs := [.ref (1), .ref (25), .int (0 : Int32)]) (rest := []) (r := none) (h' := mk b S3) (ok' := true) C lkRX4_113 ((qP_25 60).1 hq) (kX4_readLaw _ (List.mem_of_getElem? (i := 17) rfl)).1 ⟨_, _, rfl, rfl, Nat.le_of_ble_eq_true rfl, _, _, rfl, rfl, rfl⟩ (Nat.le_of_ble_eq_true rfl) (Nat.le_of_ble_eq_true rfl) (Nat.le_refl _) (Nat.le_refl _) (Nat.le_of_ble_eq_true rfl) ?_
      cases hf
      exact gret_v C hr hk (kX4_readLaw _ (List.mem_of_getElem? (i := 18) rfl)).1
    · rw [if_neg hc] at hf ⊢
      exact mfor (L' := [.ref (1), .retAddr 0]) ⟨Or.inr rfl, Or.inl rfl, trivial⟩ (bX4_readLaw_11_25 C hr hk hf true)
theorem qX4_readLaw_25 {b : Bool} {S S' : mT} (hf : fX4_readLaw 25 S = some S') : mOk l mX4_readLaw 69 [.ref (1), .ref (25)] b S none S' :=
  gMet (by decide) (Nat.le_of_ble_eq_true rfl) rfl (Nat.le_of_ble_eq_true rfl) (fun p e s m args below meth c G C hr hk => bX4_readLaw_0_25 C hr hk hf true)
theorem bX4_readLaw_11_28 (C : mCx p (mR 69) s m args meth c G cX4_readLaw RX4 2 false 233 54500 233 54500) (hr : meth.sig.returnType = none) (hk : meth.locks = false) {b : Bool} {S' : mT} {S : mT} (hf : fX4_readLaw_11 28 S = some S') (ok : Bool) : mW p l e (mR 69) s m args below meth c G 2 233 54500 (mQ below G args s b S' none) (ok, 11, [.ref (1), .retAddr 0], [], mk b S) := by
  unfold fX4_readLaw_11 at hf
  refine msegT C kX4_readLaw 5 2 (g := (true, 13, [.ref (1), .retAddr 0], [.int (2 : Int32), .ref (1)], mk b S)) rfl rfl ?_
  obtain ⟨S4, hq, hf⟩ := bndV_ex hf
  refine mcall (kd := 0) (vs := [.ref (1), .int (2 : Int32)]) (rest := []) (r := none) (h' := mk b S4) (ok' := true) C lkRX4_79 (qX4_refuse hq) (kX4_readLaw _ (List.mem_of_getElem? (i := 7) rfl)).1 ⟨_, _, rfl, rfl, Nat.le_of_ble_eq_true rfl, _, _, rfl, rfl, rfl⟩ (Nat.le_of_ble_eq_true rfl) (Nat.le_of_ble_eq_true rfl) (Nat.le_refl _) (Nat.le_refl _) (Nat.le_of_ble_eq_true rfl) ?_
  cases hf
  exact gret_v C hr hk (kX4_readLaw _ (List.mem_of_getElem? (i := 8) rfl)).1
theorem bX4_readLaw_0_28 (C : mCx p (mR 69) s m args meth c G cX4_readLaw RX4 2 false 233 54500 233 54500) (hr : meth.sig.returnType = none) (hk : meth.locks = false) {b : Bool} {S' : mT} {S : mT} (hf : fX4_readLaw 28 S = some S') (ok : Bool) : mW p l e (mR 69) s m args below meth c G 2 233 54500 (mQ below G args s b S' none) (ok, 0, [.ref (1), .ref (28)], [], mk b S) := by
  unfold fX4_readLaw at hf
  refine msegT C kX4_readLaw 0 2 (g := (true, (if 28 = NUL then 11 else 4), [.ref (1), .ref (28)], [], mk b S)) rfl rfl ?_
  by_cases hc : 28 = NUL
  · rw [if_pos hc] at hf ⊢
    exact mfor (L' := [.ref (1), .retAddr 0]) ⟨Or.inr rfl, Or.inl rfl, trivial⟩ (bX4_readLaw_11_28 C hr hk hf true)
  · rw [if_neg hc] at hf ⊢
    obtain ⟨hok, hf⟩ := grd_ex hf
    refine msegT C kX4_readLaw 2 3 (g := ((kO 28 0 && true), (if (S.1 28 4) = 0 then 17 else 11), [.ref (1), .ref (28)], [], mk b S)) rfl hok ?_
    by_cases hc : (S.1 28 4) = 0
    · rw [if_pos hc] at hf ⊢
      obtain ⟨hok, hf⟩ := grd_ex hf
      refine msegT C kX4_readLaw 9 3 (g := ((mFit .boolean (1 : Int32) && (kO 28 0 && true)), 22, [.ref (1), .ref (28)], [], mk b (sI S 28 4 (1 : Int32)))) rfl hok ?_
      obtain ⟨S1, eS1, hf⟩ := bnd_ex hf
      rw [← eS1]
      refine msegT C kX4_readLaw 12 1 (g := (true, 23, [.ref (1), .ref (28)], [.ref (1)], mk b S1)) rfl rfl ?_
      obtain ⟨S2, hq, hf⟩ := bndV_ex hf
      refine mcall (kd := 0) (vs := [.ref (1)]) (rest := []) (r := none) (h' := mk b S2) (ok' := true) C lkRX4_30 (qX4_advance hq) (kX4_readLaw _ (List.mem_of_getElem? (i := 13) rfl)).1 ⟨_, _, rfl, rfl, Nat.le_of_ble_eq_true rfl, _, _, rfl, rfl, rfl⟩ (Nat.le_of_ble_eq_true rfl) (Nat.le_of_ble_eq_true rfl) (Nat.le_refl _) (Nat.le_refl _) (Nat.le_of_ble_eq_true rfl) ?_
      refine msegT C kX4_readLaw 14 3 (g := (true, 29, [.ref (1), .ref (28)], [.int (0 : Int32), .ref (28), .ref (1)], mk b S2)) rfl rfl ?_
      obtain ⟨S3, hq, hf⟩ := bndV_ex hf
      refine mcall (kd := 0) (vs := [.ref (1), .ref (28), .int (0 : Int32)]) (rest := []) (r := none) (h' := mk b S3) (ok' := true) C lkRX4_113 ((qP_28 60).1 hq) (kX4_readLaw _ (List.mem_of_getElem? (i := 17) rfl)).1 ⟨_, _, rfl, rfl, Nat.le_of_ble_eq_true rfl, _, _, rfl, rfl, rfl⟩ (Nat.le_of_ble_eq_true rfl) (Nat.le_of_ble_eq_true rfl) (Nat.le_refl _) (Nat.le_refl _) (Nat.le_of_ble_eq_true rfl) ?_
      cases hf
      exact gret_v C hr hk (kX4_readLaw _ (List.mem_of_getElem? (i := 18) rfl)).1
    · rw [if_neg hc] at hf ⊢
      exact mfor (L' := [.ref (1), .retAddr 0]) ⟨Or.inr rfl, Or.inl rfl, trivial⟩ (bX4_readLaw_11_28 C hr hk hf true)
theorem qX4_readLaw_28 {b : Bool} {S S' : mT} (hf : fX4_readLaw 28 S = some S') : mOk l mX4_readLaw 69 [.ref (1), .ref (28)] b S none S' :=
  gMet (by decide) (Nat.le_of_ble_eq_true rfl) rfl (Nat.le_of_ble_eq_true rfl) (fun p e s m args below meth c G C hr hk => bX4_readLaw_0_28 C hr hk hf true)
theorem bX4_readLaw_11_31 (C : mCx p (mR 69) s m args meth c G cX4_readLaw RX4 2 false 233 54500 233 54500) (hr : meth.sig.returnType = none) (hk : meth.locks = false) {b : Bool} {S' : mT} {S : mT} (hf : fX4_readLaw_11 31 S = some S') (ok : Bool) : mW p l e (mR 69) s m args below meth c G 2 233 54500 (mQ below G args s b S' none) (ok, 11, [.ref (1), .retAddr 0], [], mk b S) := by
  unfold fX4_readLaw_11 at hf
  refine msegT C kX4_readLaw 5 2 (g := (true, 13, [.ref (1), .retAddr 0], [.int (2 : Int32), .ref (1)], mk b S)) rfl rfl ?_
  obtain ⟨S4, hq, hf⟩ := bndV_ex hf
  refine mcall (kd := 0) (vs := [.ref (1), .int (2 : Int32)]) (rest := []) (r := none) (h' := mk b S4) (ok' := true) C lkRX4_79 (qX4_refuse hq) (kX4_readLaw _ (List.mem_of_getElem? (i := 7) rfl)).1 ⟨_, _, rfl, rfl, Nat.le_of_ble_eq_true rfl, _, _, rfl, rfl, rfl⟩ (Nat.le_of_ble_eq_true rfl) (Nat.le_of_ble_eq_true rfl) (Nat.le_refl _) (Nat.le_refl _) (Nat.le_of_ble_eq_true rfl) ?_
  cases hf
  exact gret_v C hr hk (kX4_readLaw _ (List.mem_of_getElem? (i := 8) rfl)).1
theorem bX4_readLaw_0_31 (C : mCx p (mR 69) s m args meth c G cX4_readLaw RX4 2 false 233 54500 233 54500) (hr : meth.sig.returnType = none) (hk : meth.locks = false) {b : Bool} {S' : mT} {S : mT} (hf : fX4_readLaw 31 S = some S') (ok : Bool) : mW p l e (mR 69) s m args below meth c G 2 233 54500 (mQ below G args s b S' none) (ok, 0, [.ref (1), .ref (31)], [], mk b S) := by
  unfold fX4_readLaw at hf
  refine msegT C kX4_readLaw 0 2 (g := (true, (if 31 = NUL then 11 else 4), [.ref (1), .ref (31)], [], mk b S)) rfl rfl ?_
  by_cases hc : 31 = NUL
  · rw [if_pos hc] at hf ⊢
    exact mfor (L' := [.ref (1), .retAddr 0]) ⟨Or.inr rfl, Or.inl rfl, trivial⟩ (bX4_readLaw_11_31 C hr hk hf true)
  · rw [if_neg hc] at hf ⊢
    obtain ⟨hok, hf⟩ := grd_ex hf
    refine msegT C kX4_readLaw 2 3 (g := ((kO 31 0 && true), (if (S.1 31 4) = 0 then 17 else 11), [.ref (1), .ref (31)], [], mk b S)) rfl hok ?_
    by_cases hc : (S.1 31 4) = 0
    · rw [if_pos hc] at hf ⊢
      obtain ⟨hok, hf⟩ := grd_ex hf
      refine msegT C kX4_readLaw 9 3 (g := ((mFit .boolean (1 : Int32) && (kO 31 0 && true)), 22, [.ref (1), .ref (31)], [], mk b (sI S 31 4 (1 : Int32)))) rfl hok ?_
      obtain ⟨S1, eS1, hf⟩ := bnd_ex hf
      rw [← eS1]
      refine msegT C kX4_readLaw 12 1 (g := (true, 23, [.ref (1), .ref (31)], [.ref (1)], mk b S1)) rfl rfl ?_
      obtain ⟨S2, hq, hf⟩ := bndV_ex hf
      refine mcall (kd := 0) (vs := [.ref (1)]) (rest := []) (r := none) (h' := mk b S2) (ok' := true) C lkRX4_30 (qX4_advance hq) (kX4_readLaw _ (List.mem_of_getElem? (i := 13) rfl)).1 ⟨_, _, rfl, rfl, Nat.le_of_ble_eq_true rfl, _, _, rfl, rfl, rfl⟩ (Nat.le_of_ble_eq_true rfl) (Nat.le_of_ble_eq_true rfl) (Nat.le_refl _) (Nat.le_refl _) (Nat.le_of_ble_eq_true rfl) ?_
      refine msegT C kX4_readLaw 14 3 (g := (true, 29, [.ref (1), .ref (31)], [.int (0 : Int32), .ref (31), .ref (1)], mk b S2)) rfl rfl ?_
      obtain ⟨S3, hq, hf⟩ := bndV_ex hf
      refine mcall (kd := 0) (vs := [.ref (1), .ref (31), .int (0 : Int32)]) (rest := []) (r := none) (h' := mk b S3) (ok' := true) C lkRX4_113 ((qP_31 60).1 hq) (kX4_readLaw _ (List.mem_of_getElem? (i := 17) rfl)).1 ⟨_, _, rfl, rfl, Nat.le_of_ble_eq_true rfl, _, _, rfl, rfl, rfl⟩ (Nat.le_of_ble_eq_true rfl) (Nat.le_of_ble_eq_true rfl) (Nat.le_refl _) (Nat.le_refl _) (Nat.le_of_ble_eq_true rfl) ?_
      cases hf
      exact gret_v C hr hk (kX4_readLaw _ (List.mem_of_getElem? (i := 18) rfl)).1
    · rw [if_neg hc] at hf ⊢
      exact mfor (L' := [.ref (1), .retAddr 0]) ⟨Or.inr rfl, Or.inl rfl, trivial⟩ (bX4_readLaw_11_31 C hr hk hf true)
theorem qX4_readLaw_31 {b : Bool} {S S' : mT} (hf : fX4_readLaw 31 S = some S') : mOk l mX4_readLaw 69 [.ref (1), .ref (31)] b S none S' :=
  gMet (by decide) (Nat.le_of_ble_eq_true rfl) rfl (Nat.le_of_ble_eq_true rfl) (fun p e s m args below meth c G C hr hk => bX4_readLaw_0_31 C hr hk hf true)
theorem qX4_readLaw_any_3 {b : Bool} {x : Nat} {S S' : mT} (h : x = 3 + 6 ∨ x = 3 + 9 ∨ x = 3 + 12 ∨ x = NUL) (hf : fX4_readLaw x S = some S') : mOk l mX4_readLaw 69 [.ref 1, .ref x] b S none S' := by
  rcases h with rfl | rfl | rfl | rfl
  · exact qX4_readLaw_9 hf
  · exact qX4_readLaw_12 hf
  · exact qX4_readLaw_15 hf
  · exact qX4_readLaw_999999 hf
theorem qX4_readLaw_any_19 {b : Bool} {x : Nat} {S S' : mT} (h : x = 19 + 6 ∨ x = 19 + 9 ∨ x = 19 + 12 ∨ x = NUL) (hf : fX4_readLaw x S = some S') : mOk l mX4_readLaw 69 [.ref 1, .ref x] b S none S' := by
  rcases h with rfl | rfl | rfl | rfl
  · exact qX4_readLaw_25 hf
  · exact qX4_readLaw_28 hf
  · exact qX4_readLaw_31 hf
  · exact qX4_readLaw_999999 hf
theorem bX8_clear_0_3 (C : mCx p (mR 2) s m args meth c G cX8_clear RX8 1 false 233 54500 233 54500) (hr : meth.sig.returnType = none) (hk : meth.locks = false) {b : Bool} {S' : mT} {S : mT} (hf : fX8_clear 3 S = some S') (ok : Bool) : mW p l e (mR 2) s m args below meth c G 1 233 54500 (mQ below G args s b S' none) (ok, 0, [.ref (3)], [], mk b S) := by
  unfold fX8_clear at hf
  obtain ⟨hok, hf⟩ := grd_ex hf
  refine msegT C kX8_clear 0 3 (g := ((kO 3 8 && true), 5, [.ref (3)], [], mk b (sI S 3 9 (0 : Int32)))) rfl hok ?_
  obtain ⟨S1, eS1, hf⟩ := bnd_ex hf
  rw [← eS1]
  obtain ⟨hok, hf⟩ := grd_ex hf
  refine msegT C kX8_clear 3 3 (g := ((kO 3 8 && true), 10, [.ref (3)], [], mk b (sI S1 3 10 (0 : Int32)))) rfl hok ?_
  obtain ⟨S2, eS2, hf⟩ := bnd_ex hf
  rw [← eS2]
  obtain ⟨hok, hf⟩ := grd_ex hf
  refine msegT C kX8_clear 6 3 (g := ((mFit .boolean (0 : Int32) && (kO 3 8 && true)), 15, [.ref (3)], [], mk b (sI S2 3 11 (0 : Int32)))) rfl hok ?_
  obtain ⟨S3, eS3, hf⟩ := bnd_ex hf
  rw [← eS3]
  obtain ⟨hok, hf⟩ := grd_ex hf
  refine msegT C kX8_clear 9 2 (g := ((kO 3 8 && true), 19, [.ref (3)], [.ref (3 + 6)], mk b S3)) rfl hok ?_
  obtain ⟨S4, hq, hf⟩ := bndV_ex hf
  refine mcall (kd := 0) (vs := [.ref (3 + 6)]) (rest := []) (r := none) (h' := mk b S4) (ok' := true) C lkRX8_55 (qX0_clear_9 hq) (kX8_clear _ (List.mem_of_getElem? (i := 11) rfl)).1 ⟨_, _, rfl, rfl, Nat.le_of_ble_eq_true rfl, _, _, rfl, rfl, rfl⟩ (Nat.le_of_ble_eq_true rfl) (Nat.le_of_ble_eq_true rfl) (Nat.le_refl _) (Nat.le_refl _) (Nat.le_of_ble_eq_true rfl) ?_
  obtain ⟨hok, hf⟩ := grd_ex hf
  refine msegT C kX8_clear 12 2 (g := ((kO 3 8 && true), 26, [.ref (3)], [.ref (3 + 9)], mk b S4)) rfl hok ?_
  obtain ⟨S5, hq, hf⟩ := bndV_ex hf
  refine mcall (kd := 0) (vs := [.ref (3 + 9)]) (rest := []) (r := none) (h' := mk b S5) (ok' := true) C lkRX8_55 (qX0_clear_12 hq) (kX8_clear _ (List.mem_of_getElem? (i := 14) rfl)).1 ⟨_, _, rfl, rfl, Nat.le_of_ble_eq_true rfl, _, _, rfl, rfl, rfl⟩ (Nat.le_of_ble_eq_true rfl) (Nat.le_of_ble_eq_true rfl) (Nat.le_refl _) (Nat.le_refl _) (Nat.le_of_ble_eq_true rfl) ?_
  obtain ⟨hok, hf⟩ := grd_ex hf
  refine msegT C kX8_clear 15 2 (g := ((kO 3 8 && true), 33, [.ref (3)], [.ref (3 + 12)], mk b S5)) rfl hok ?_
  obtain ⟨S6, hq, hf⟩ := bndV_ex hf
  refine mcall (kd := 0) (vs := [.ref (3 + 12)]) (rest := []) (r := none) (h' := mk b S6) (ok' := true) C lkRX8_55 (qX0_clear_15 hq) (kX8_clear _ (List.mem_of_getElem? (i := 17) rfl)).1 ⟨_, _, rfl, rfl, Nat.le_of_ble_eq_true rfl, _, _, rfl, rfl, rfl⟩ (Nat.le_of_ble_eq_true rfl) (Nat.le_of_ble_eq_true rfl) (Nat.le_refl _) (Nat.le_refl _) (Nat.le_of_ble_eq_true rfl) ?_
  cases hf
  exact gret_v C hr hk (kX8_clear _ (List.mem_of_getElem? (i := 18) rfl)).1
theorem qX8_clear_3 {b : Bool} {S S' : mT} (hf : fX8_clear 3 S = some S') : mOk l mX8_clear 2 [.ref (3)] b S none S' :=
  gMet (by decide) (Nat.le_of_ble_eq_true rfl) rfl (Nat.le_of_ble_eq_true rfl) (fun p e s m args below meth c G C hr hk => bX8_clear_0_3 C hr hk hf true)
theorem bX8_clear_0_19 (C : mCx p (mR 2) s m args meth c G cX8_clear RX8 1 false 233 54500 233 54500) (hr : meth.sig.returnType = none) (hk : meth.locks = false) {b : Bool} {S' : mT} {S : mT} (hf : fX8_clear 19 S = some S') (ok : Bool) : mW p l e (mR 2) s m args below meth c G 1 233 54500 (mQ below G args s b S' none) (ok, 0, [.ref (19)], [], mk b S) := by
  unfold fX8_clear at hf
  obtain ⟨hok, hf⟩ := grd_ex hf
  refine msegT C kX8_clear 0 3 (g := ((kO 19 8 && true), 5, [.ref (19)], [], mk b (sI S 19 9 (0 : Int32)))) rfl hok ?_
  obtain ⟨S1, eS1, hf⟩ := bnd_ex hf
  rw [← eS1]
  obtain ⟨hok, hf⟩ := grd_ex hf
  refine msegT C kX8_clear 3 3 (g := ((kO 19 8 && true), 10, [.ref (19)], [], mk b (sI S1 19 10 (0 : Int32)))) rfl hok ?_
  obtain ⟨S2, eS2, hf⟩ := bnd_ex hf
  rw [← eS2]
  obtain ⟨hok, hf⟩ := grd_ex hf
  refine msegT C kX8_clear 6 3 (g := ((mFit .boolean (0 : Int32) && (kO 19 8 && true)), 15, [.ref (19)], [], mk b (sI S2 19 11 (0 : Int32)))) rfl hok ?_
  obtain ⟨S3, eS3, hf⟩ := bnd_ex hf
  rw [← eS3]
  obtain ⟨hok, hf⟩ := grd_ex hf
  refine msegT C kX8_clear 9 2 (g := ((kO 19 8 && true), 19, [.ref (19)], [.ref (19 + 6)], mk b S3)) rfl hok ?_
  obtain ⟨S4, hq, hf⟩ := bndV_ex hf
  refine mcall (kd := 0) (vs := [.ref (19 + 6)]) (rest := []) (r := none) (h' := mk b S4) (ok' := true) C lkRX8_55 (qX0_clear_25 hq) (kX8_clear _ (List.mem_of_getElem? (i := 11) rfl)).1 ⟨_, _, rfl, rfl, Nat.le_of_ble_eq_true rfl, _, _, rfl, rfl, rfl⟩ (Nat.le_of_ble_eq_true rfl) (Nat.le_of_ble_eq_true rfl) (Nat.le_refl _) (Nat.le_refl _) (Nat.le_of_ble_eq_true rfl) ?_
  obtain ⟨hok, hf⟩ := grd_ex hf
  refine msegT C kX8_clear 12 2 (g := ((kO 19 8 && true), 26, [.ref (19)], [.ref (19 + 9)], mk b S4)) rfl hok ?_
  obtain ⟨S5, hq, hf⟩ := bndV_ex hf
  refine mcall (kd := 0) (vs := [.ref (19 + 9)]) (rest := []) (r := none) (h' := mk b S5) (ok' := true) C lkRX8_55 (qX0_clear_28 hq) (kX8_clear _ (List.mem_of_getElem? (i := 14) rfl)).1 ⟨_, _, rfl, rfl, Nat.le_of_ble_eq_true rfl, _, _, rfl, rfl, rfl⟩ (Nat.le_of_ble_eq_true rfl) (Nat.le_of_ble_eq_true rfl) (Nat.le_refl _) (Nat.le_refl _) (Nat.le_of_ble_eq_true rfl) ?_
  obtain ⟨hok, hf⟩ := grd_ex hf
  refine msegT C kX8_clear 15 2 (g := ((kO 19 8 && true), 33, [.ref (19)], [.ref (19 + 12)], mk b S5)) rfl hok ?_
  obtain ⟨S6, hq, hf⟩ := bndV_ex hf
  refine mcall (kd := 0) (vs := [.ref (19 + 12)]) (rest := []) (r := none) (h' := mk b S6) (ok' := true) C lkRX8_55 (qX0_clear_31 hq) (kX8_clear _ (List.mem_of_getElem? (i := 17) rfl)).1 ⟨_, _, rfl, rfl, Nat.le_of_ble_eq_true rfl, _, _, rfl, rfl, rfl⟩ (Nat.le_of_ble_eq_true rfl) (Nat.le_of_ble_eq_true rfl) (Nat.le_refl _) (Nat.le_refl _) (Nat.le_of_ble_eq_true rfl) ?_
  cases hf
  exact gret_v C hr hk (kX8_clear _ (List.mem_of_getElem? (i := 18) rfl)).1
theorem qX8_clear_19 {b : Bool} {S S' : mT} (hf : fX8_clear 19 S = some S') : mOk l mX8_clear 2 [.ref (19)] b S none S' :=
  gMet (by decide) (Nat.le_of_ble_eq_true rfl) rfl (Nat.le_of_ble_eq_true rfl) (fun p e s m args below meth c G C hr hk => bX8_clear_0_19 C hr hk hf true)
theorem bX4_readAll_77_3 (C : mCx p (mR 70) s m args meth c G cX4_readAll RX4 3 false 233 54500 233 54500) (hr : meth.sig.returnType = (some .boolean)) (hk : meth.locks = false) {b : Bool} {S' : mT} {r : Int32} {rc20 : Int32 → mT → Option (Int32 × mT)} (Hrc20 : ∀ (v2 : Int32) (S : mT), rc20 v2 S = some (r, S') → ∀ ok : Bool, mW p l e (mR 70) s m args below meth c G 3 233 54500 (mQ below G args s b S' (some (.int r))) (ok, 20, [.ref (1), .ref (3), .int v2], [], mk b S)) {v2 : Int32} {S : mT} (hf : fX4_readAll_77 3 rc20 v2 S = some (r, S')) (ok : Bool) : mW p l e (mR 70) s m args below meth c G 3 233 54500 (mQ below G args s b S' (some (.int r))) (ok, 77, [.ref (1), .ref (3), .int v2], [], mk b S) := by
  unfold fX4_readAll_77 at hf
  refine msegT C kX4_readAll 39 2 (g := (true, 80, [.ref (1), .ref (3), .int v2], [.int (59 : Int32), .ref (1)], mk b S)) rfl rfl ?_
  obtain ⟨S14, hq, hf⟩ := bndV_ex hf
  refine mcall (kd := 0) (vs := [.ref (1), .int (59 : Int32)]) (rest := []) (r := none) (h' := mk b S14) (ok' := true) C lkRX4_59 (qX4_takeSign hq) (kX4_readAll _ (List.mem_of_getElem? (i := 41) rfl)).1 ⟨_, _, rfl, rfl, Nat.le_of_ble_eq_true rfl, _, _, rfl, rfl, rfl⟩ (Nat.le_of_ble_eq_true rfl) (Nat.le_of_ble_eq_true rfl) (Nat.le_refl _) (Nat.le_refl _) (Nat.le_of_ble_eq_true rfl) ?_
  refine msegT C kX4_readAll 42 1 (g := (true, 86, [.ref (1), .ref (3), .int (v2 + (1 : Int32))], [], mk b S14)) rfl rfl ?_
  obtain ⟨x15, ex15, hf⟩ := bnd_ex hf
  rw [← ex15]
  refine msegT C kX4_readAll 43 1 (g := (true, 20, [.ref (1), .ref (3), .int x15], [], mk b S14)) rfl rfl ?_
  exact mfor (L' := [.ref (1), .ref (3), .int x15]) ⟨Or.inr rfl, Or.inr rfl, Or.inr rfl, trivial⟩ (Hrc20 _ _ hf true)
theorem bX4_readAll_101_3 (C : mCx p (mR 70) s m args meth c G cX4_readAll RX4 3 false 233 54500 233 54500) (hr : meth.sig.returnType = (some .boolean)) (hk : meth.locks = false) {b : Bool} {S' : mT} {r : Int32} {s0 : Int32} {S : mT} (hf : fX4_readAll_101 3 s0 S = some (r, S')) (ok : Bool) : mW p l e (mR 70) s m args below meth c G 3 233 54500 (mQ below G args s b S' (some (.int r))) (ok, 101, [.retAddr 0, .retAddr 0, .retAddr 0], [.int s0], mk b S) := by
  unfold fX4_readAll_101 at hf
  obtain ⟨hz, hf⟩ := grd_ex hf
  cases hf
  exact gret_z C hr hk (mFit_nar hz) (kX4_readAll _ (List.mem_of_getElem? (i := 50) rfl)).1
theorem bX4_readAll_89_3 (C : mCx p (mR 70) s m args meth c G cX4_readAll RX4 3 false 233 54500 233 54500) (hr : meth.sig.returnType = (some .boolean)) (hk : meth.locks = false) {b : Bool} {S' : mT} {r : Int32} {S : mT} (hf : fX4_readAll_89 3 S = some (r, S')) (ok : Bool) : mW p l e (mR 70) s m args below meth c G 3 233 54500 (mQ below G args s b S' (some (.int r))) (ok, 89, [.ref (1), .retAddr 0, .retAddr 0], [], mk b S) := by
  unfold fX4_readAll_89 at hf
  obtain ⟨hok, hf⟩ := grd_ex hf
  refine msegT C kX4_readAll 44 3 (g := ((kO 1 4 && true), (if (S.1 1 2) = 0 then 96 else 100), [.ref (1), .retAddr 0, .retAddr 0], [], mk b S)) rfl hok ?_
  by_cases hc : (S.1 1 2) = 0
  · rw [if_pos hc] at hf ⊢
    refine msegT C kX4_readAll 47 2 (g := (true, 101, [.ref (1), .retAddr 0, .retAddr 0], [.int (1 : Int32)], mk b S)) rfl rfl ?_
    exact mfor (L' := [.retAddr 0, .retAddr 0, .retAddr 0]) ⟨Or.inl rfl, Or.inl rfl, Or.inl rfl, trivial⟩ (bX4_readAll_101_3 C hr hk hf true)
  · rw [if_neg hc] at hf ⊢
    refine msegT C kX4_readAll 49 1 (g := (true, 101, [.ref (1), .retAddr 0, .retAddr 0], [.int (0 : Int32)], mk b S)) rfl rfl ?_
    exact mfor (L' := [.retAddr 0, .retAddr 0, .retAddr 0]) ⟨Or.inl rfl, Or.inl rfl, Or.inl rfl, trivial⟩ (bX4_readAll_101_3 C hr hk hf true)
theorem bX4_readAll_20_3 (C : mCx p (mR 70) s m args meth c G cX4_readAll RX4 3 false 233 54500 233 54500) (hr : meth.sig.returnType = (some .boolean)) (hk : meth.locks = false) {b : Bool} {S' : mT} {r : Int32} : ∀ (k : Nat) (v2 : Int32) (S : mT), fX4_readAll_20 3 k v2 S = some (r, S') → ∀ ok : Bool, mW p l e (mR 70) s m args below meth c G 3 233 54500 (mQ below G args s b S' (some (.int r))) (ok, 20, [.ref (1), .ref (3), .int v2], [], mk b S) := by
  intro k
  induction k with
  | zero =>
    intro v2 S hf ok
    cases hf
  | succ k ih =>
    intro v2 S hf ok
    unfold fX4_readAll_20 at hf
    refine msegT C kX4_readAll 12 3 (g := (true, (if (1600 : Int32) ≤ v2 then 89 else 27), [.ref (1), .ref (3), .int v2], [], mk b S)) rfl rfl ?_
    by_cases hc : (1600 : Int32) ≤ v2
    · rw [if_pos hc] at hf ⊢
      exact mfor (L' := [.ref (1), .retAddr 0, .retAddr 0]) ⟨Or.inr rfl, Or.inl rfl, Or.inl rfl, trivial⟩ (bX4_readAll_89_3 C hr hk hf true)
    · rw [if_neg hc] at hf ⊢
      obtain ⟨hok, hf⟩ := grd_ex hf
      refine msegT C kX4_readAll 15 3 (g := ((kO 1 4 && true), (if (S.1 1 4) = 0 then 89 else 34), [.ref (1), .ref (3), .int v2], [], mk b S)) rfl hok ?_
      by_cases hc : (S.1 1 4) = 0
      · rw [if_pos hc] at hf ⊢
        exact mfor (L' := [.ref (1), .retAddr 0, .retAddr 0]) ⟨Or.inr rfl, Or.inl rfl, Or.inl rfl, trivial⟩ (bX4_readAll_89_3 C hr hk hf true)
      · rw [if_neg hc] at hf ⊢
        refine msegT C kX4_readAll 18 2 (g := (true, 37, [.ref (1), .ref (3), .int v2], [.ref 900000, .ref (1)], mk b S)) rfl rfl ?_
        obtain ⟨x6, S5, hq, hf⟩ := bndC_ex hf
        refine mcall (kd := 0) (vs := [.ref (1), .ref 900000]) (rest := []) (r := (some (.int x6))) (h' := mk b S5) (ok' := true) C lkRX4_38 (qX4_isWord_900000 hq) (kX4_readAll _ (List.mem_of_getElem? (i := 20) rfl)).1 ⟨_, _, rfl, rfl, Nat.le_of_ble_eq_true rfl, _, _, rfl, rfl, rfl⟩ (Nat.le_of_ble_eq_true rfl) (Nat.le_of_ble_eq_true rfl) (Nat.le_refl _) (Nat.le_refl _) (Nat.le_of_ble_eq_true rfl) ?_
        refine msegT C kX4_readAll 21 1 (g := (true, (if x6 = 0 then 51 else 43), [.ref (1), .ref (3), .int v2], [], mk b S5)) rfl rfl ?_
        by_cases hc : x6 = 0
        · rw [if_pos hc] at hf ⊢
          refine msegT C kX4_readAll 26 2 (g := (true, 54, [.ref (1), .ref (3), .int v2], [.ref 900008, .ref (1)], mk b S5)) rfl rfl ?_
          obtain ⟨x8, S7, hq, hf⟩ := bndC_ex hf
          refine mcall (kd := 0) (vs := [.ref (1), .ref 900008]) (rest := []) (r := (some (.int x8))) (h' := mk b S7) (ok' := true) C lkRX4_38 (qX4_isWord_900008 hq) (kX4_readAll _ (List.mem_of_getElem? (i := 28) rfl)).1 ⟨_, _, rfl, rfl, Nat.le_of_ble_eq_true rfl, _, _, rfl, rfl, rfl⟩ (Nat.le_of_ble_eq_true rfl) (Nat.le_of_ble_eq_true rfl) (Nat.le_refl _) (Nat.le_refl _) (Nat.le_of_ble_eq_true rfl) ?_
          refine msegT C kX4_readAll 29 1 (g := (true, (if x8 = 0 then 68 else 60), [.ref (1), .ref (3), .int v2], [], mk b S7)) rfl rfl ?_
          by_cases hc : x8 = 0
          · rw [if_pos hc] at hf ⊢
            refine msegT C kX4_readAll 34 3 (g := (true, 71, [.ref (1), .ref (3), .int v2], [.ref (3), .ref (1), .ref (1)], mk b S7)) rfl rfl ?_
            obtain ⟨x10, S9, hn, hf⟩ := bndC_ex hf
            refine mcall (kd := 0) (vs := [.ref (1), .ref (3)]) (rest := [.ref (1)]) (r := (some (.ref x10))) (h' := mk b S9) (ok' := true) C lkRX4_51 (qX4_lawNamed_3 hn) (kX4_readAll _ (List.mem_of_getElem? (i := 37) rfl)).1 ⟨_, _, rfl, rfl, Nat.le_of_ble_eq_true rfl, _, _, rfl, rfl, rfl⟩ (Nat.le_of_ble_eq_true rfl) (Nat.le_of_ble_eq_true rfl) (Nat.le_refl _) (Nat.le_refl _) (Nat.le_of_ble_eq_true rfl) ?_
            obtain ⟨S11, hq, hf⟩ := bndV_ex hf
            refine mcall (kd := 0) (vs := [.ref (1), .ref x10]) (rest := []) (r := none) (h' := mk b S11) (ok' := true) C lkRX4_55 (qX4_readLaw_any_3 (nX4_lawNamed hn) hq) (kX4_readAll _ (List.mem_of_getElem? (i := 38) rfl)).1 ⟨_, _, rfl, rfl, Nat.le_of_ble_eq_true rfl, _, _, rfl, rfl, rfl⟩ (Nat.le_of_ble_eq_true rfl) (Nat.le_of_ble_eq_true rfl) (Nat.le_refl _) (Nat.le_refl _) (Nat.le_of_ble_eq_true rfl) ?_
            exact mfor (L' := [.ref (1), .ref (3), .int v2]) ⟨Or.inr rfl, Or.inr rfl, Or.inr rfl, trivial⟩ (bX4_readAll_77_3 C hr hk ih hf true)
          · rw [if_neg hc] at hf ⊢
            refine msegT C kX4_readAll 30 2 (g := (true, 62, [.ref (1), .ref (3), .int v2], [.ref (3), .ref (1)], mk b S7)) rfl rfl ?_
            obtain ⟨S12, hq, hf⟩ := bndV_ex hf
            refine mcall (kd := 0) (vs := [.ref (1), .ref (3)]) (rest := []) (r := none) (h' := mk b S12) (ok' := true) C lkRX4_48 (qX4_readDraw_3 hq) (kX4_readAll _ (List.mem_of_getElem? (i := 32) rfl)).1 ⟨_, _, rfl, rfl, Nat.le_of_ble_eq_true rfl, _, _, rfl, rfl, rfl⟩ (Nat.le_of_ble_eq_true rfl) (Nat.le_of_ble_eq_true rfl) (Nat.le_refl _) (Nat.le_refl _) (Nat.le_of_ble_eq_true rfl) ?_
            refine msegT C kX4_readAll 33 1 (g := (true, 77, [.ref (1), .ref (3), .int v2], [], mk b S12)) rfl rfl ?_
            exact mfor (L' := [.ref (1), .ref (3), .int v2]) ⟨Or.inr rfl, Or.inr rfl, Or.inr rfl, trivial⟩ (bX4_readAll_77_3 C hr hk ih hf true)
        · rw [if_neg hc] at hf ⊢
          refine msegT C kX4_readAll 22 2 (g := (true, 45, [.ref (1), .ref (3), .int v2], [.ref (3), .ref (1)], mk b S5)) rfl rfl ?_
          obtain ⟨S13, hq, hf⟩ := bndV_ex hf
          refine mcall (kd := 0) (vs := [.ref (1), .ref (3)]) (rest := []) (r := none) (h' := mk b S13) (ok' := true) C lkRX4_42 (qX4_readHouse_3 hq) (kX4_readAll _ (List.mem_of_getElem? (i := 24) rfl)).1 ⟨_, _, rfl, rfl, Nat.le_of_ble_eq_true rfl, _, _, rfl, rfl, rfl⟩ (Nat.le_of_ble_eq_true rfl) (Nat.le_of_ble_eq_true rfl) (Nat.le_refl _) (Nat.le_refl _) (Nat.le_of_ble_eq_true rfl) ?_
          refine msegT C kX4_readAll 25 1 (g := (true, 77, [.ref (1), .ref (3), .int v2], [], mk b S13)) rfl rfl ?_
          exact mfor (L' := [.ref (1), .ref (3), .int v2]) ⟨Or.inr rfl, Or.inr rfl, Or.inr rfl, trivial⟩ (bX4_readAll_77_3 C hr hk ih hf true)
theorem bX4_readAll_0_3 (C : mCx p (mR 70) s m args meth c G cX4_readAll RX4 3 false 233 54500 233 54500) (hr : meth.sig.returnType = (some .boolean)) (hk : meth.locks = false) {b : Bool} {S' : mT} {r : Int32} {S : mT} (hf : fX4_readAll 3 S = some (r, S')) (ok : Bool) : mW p l e (mR 70) s m args below meth c G 3 233 54500 (mQ below G args s b S' (some (.int r))) (ok, 0, [.ref (1), .ref (3), .retAddr 0], [], mk b S) := by
  unfold fX4_readAll at hf
  refine msegT C kX4_readAll 0 1 (g := (true, 1, [.ref (1), .ref (3), .retAddr 0], [.ref (3)], mk b S)) rfl rfl ?_
  obtain ⟨S1, hq, hf⟩ := bndV_ex hf
  refine mcall (kd := 0) (vs := [.ref (3)]) (rest := []) (r := none) (h' := mk b S1) (ok' := true) C lkRX4_19 (qX8_clear_3 hq) (kX4_readAll _ (List.mem_of_getElem? (i := 1) rfl)).1 ⟨_, _, rfl, rfl, Nat.le_of_ble_eq_true rfl, _, _, rfl, rfl, rfl⟩ (Nat.le_of_ble_eq_true rfl) (Nat.le_of_ble_eq_true rfl) (Nat.le_refl _) (Nat.le_refl _) (Nat.le_of_ble_eq_true rfl) ?_
  obtain ⟨hok, hf⟩ := grd_ex hf
  refine msegT C kX4_readAll 2 3 (g := ((kO 1 4 && true), 9, [.ref (1), .ref (3), .retAddr 0], [], mk b (sI S1 1 2 (0 : Int32)))) rfl hok ?_
  obtain ⟨S2, eS2, hf⟩ := bnd_ex hf
  rw [← eS2]
  obtain ⟨hok, hf⟩ := grd_ex hf
  refine msegT C kX4_readAll 5 3 (g := ((kO 1 4 && true), 14, [.ref (1), .ref (3), .retAddr 0], [], mk b (sI S2 1 6 (0 : Int32)))) rfl hok ?_
  obtain ⟨S3, eS3, hf⟩ := bnd_ex hf
  rw [← eS3]
  refine msegT C kX4_readAll 8 1 (g := (true, 15, [.ref (1), .ref (3), .retAddr 0], [.ref (1)], mk b S3)) rfl rfl ?_
  obtain ⟨S4, hq, hf⟩ := bndV_ex hf
  refine mcall (kd := 0) (vs := [.ref (1)]) (rest := []) (r := none) (h' := mk b S4) (ok' := true) C lkRX4_30 (qX4_advance hq) (kX4_readAll _ (List.mem_of_getElem? (i := 9) rfl)).1 ⟨_, _, rfl, rfl, Nat.le_of_ble_eq_true rfl, _, _, rfl, rfl, rfl⟩ (Nat.le_of_ble_eq_true rfl) (Nat.le_of_ble_eq_true rfl) (Nat.le_refl _) (Nat.le_refl _) (Nat.le_of_ble_eq_true rfl) ?_
  refine msegT C kX4_readAll 10 2 (g := (true, 20, [.ref (1), .ref (3), .int (0 : Int32)], [], mk b S4)) rfl rfl ?_
  exact mfor (L' := [.ref (1), .ref (3), .int (0 : Int32)]) ⟨Or.inr rfl, Or.inr rfl, Or.inr rfl, trivial⟩ (bX4_readAll_20_3 C hr hk _ _ _ hf true)
theorem qX4_readAll_3 {b : Bool} {S S' : mT} {r : Int32} (hf : fX4_readAll 3 S = some (r, S')) : mOk l mX4_readAll 70 [.ref (1), .ref (3)] b S (some (.int r)) S' :=
  gMet (by decide) (Nat.le_of_ble_eq_true rfl) rfl (Nat.le_of_ble_eq_true rfl) (fun p e s m args below meth c G C hr hk => bX4_readAll_0_3 C hr hk hf true)
theorem bX4_readAll_77_19 (C : mCx p (mR 70) s m args meth c G cX4_readAll RX4 3 false 233 54500 233 54500) (hr : meth.sig.returnType = (some .boolean)) (hk : meth.locks = false) {b : Bool} {S' : mT} {r : Int32} {rc20 : Int32 → mT → Option (Int32 × mT)} (Hrc20 : ∀ (v2 : Int32) (S : mT), rc20 v2 S = some (r, S') → ∀ ok : Bool, mW p l e (mR 70) s m args below meth c G 3 233 54500 (mQ below G args s b S' (some (.int r))) (ok, 20, [.ref (1), .ref (19), .int v2], [], mk b S)) {v2 : Int32} {S : mT} (hf : fX4_readAll_77 19 rc20 v2 S = some (r, S')) (ok : Bool) : mW p l e (mR 70) s m args below meth c G 3 233 54500 (mQ below G args s b S' (some (.int r))) (ok, 77, [.ref (1), .ref (19), .int v2], [], mk b S) := by
  unfold fX4_readAll_77 at hf
  refine msegT C kX4_readAll 39 2 (g := (true, 80, [.ref (1), .ref (19), .int v2], [.int (59 : Int32), .ref (1)], mk b S)) rfl rfl ?_
  obtain ⟨S14, hq, hf⟩ := bndV_ex hf
  refine mcall (kd := 0) (vs := [.ref (1), .int (59 : Int32)]) (rest := []) (r := none) (h' := mk b S14) (ok' := true) C lkRX4_59 (qX4_takeSign hq) (kX4_readAll _ (List.mem_of_getElem? (i := 41) rfl)).1 ⟨_, _, rfl, rfl, Nat.le_of_ble_eq_true rfl, _, _, rfl, rfl, rfl⟩ (Nat.le_of_ble_eq_true rfl) (Nat.le_of_ble_eq_true rfl) (Nat.le_refl _) (Nat.le_refl _) (Nat.le_of_ble_eq_true rfl) ?_
  refine msegT C kX4_readAll 42 1 (g := (true, 86, [.ref (1), .ref (19), .int (v2 + (1 : Int32))], [], mk b S14)) rfl rfl ?_
  obtain ⟨x15, ex15, hf⟩ := bnd_ex hf
  rw [← ex15]
  refine msegT C kX4_readAll 43 1 (g := (true, 20, [.ref (1), .ref (19), .int x15], [], mk b S14)) rfl rfl ?_
  exact mfor (L' := [.ref (1), .ref (19), .int x15]) ⟨Or.inr rfl, Or.inr rfl, Or.inr rfl, trivial⟩ (Hrc20 _ _ hf true)
theorem bX4_readAll_101_19 (C : mCx p (mR 70) s m args meth c G cX4_readAll RX4 3 false 233 54500 233 54500) (hr : meth.sig.returnType = (some .boolean)) (hk : meth.locks = false) {b : Bool} {S' : mT} {r : Int32} {s0 : Int32} {S : mT} (hf : fX4_readAll_101 19 s0 S = some (r, S')) (ok : Bool) : mW p l e (mR 70) s m args below meth c G 3 233 54500 (mQ below G args s b S' (some (.int r))) (ok, 101, [.retAddr 0, .retAddr 0, .retAddr 0], [.int s0], mk b S) := by
  unfold fX4_readAll_101 at hf
  obtain ⟨hz, hf⟩ := grd_ex hf
  cases hf
  exact gret_z C hr hk (mFit_nar hz) (kX4_readAll _ (List.mem_of_getElem? (i := 50) rfl)).1
theorem bX4_readAll_89_19 (C : mCx p (mR 70) s m args meth c G cX4_readAll RX4 3 false 233 54500 233 54500) (hr : meth.sig.returnType = (some .boolean)) (hk : meth.locks = false) {b : Bool} {S' : mT} {r : Int32} {S : mT} (hf : fX4_readAll_89 19 S = some (r, S')) (ok : Bool) : mW p l e (mR 70) s m args below meth c G 3 233 54500 (mQ below G args s b S' (some (.int r))) (ok, 89, [.ref (1), .retAddr 0, .retAddr 0], [], mk b S) := by
  unfold fX4_readAll_89 at hf
  obtain ⟨hok, hf⟩ := grd_ex hf
  refine msegT C kX4_readAll 44 3 (g := ((kO 1 4 && true), (if (S.1 1 2) = 0 then 96 else 100), [.ref (1), .retAddr 0, .retAddr 0], [], mk b S)) rfl hok ?_
  by_cases hc : (S.1 1 2) = 0
  · rw [if_pos hc] at hf ⊢
    refine msegT C kX4_readAll 47 2 (g := (true, 101, [.ref (1), .retAddr 0, .retAddr 0], [.int (1 : Int32)], mk b S)) rfl rfl ?_
    exact mfor (L' := [.retAddr 0, .retAddr 0, .retAddr 0]) ⟨Or.inl rfl, Or.inl rfl, Or.inl rfl, trivial⟩ (bX4_readAll_101_19 C hr hk hf true)
  · rw [if_neg hc] at hf ⊢
    refine msegT C kX4_readAll 49 1 (g := (true, 101, [.ref (1), .retAddr 0, .retAddr 0], [.int (0 : Int32)], mk b S)) rfl rfl ?_
    exact mfor (L' := [.retAddr 0, .retAddr 0, .retAddr 0]) ⟨Or.inl rfl, Or.inl rfl, Or.inl rfl, trivial⟩ (bX4_readAll_101_19 C hr hk hf true)
theorem bX4_readAll_20_19 (C : mCx p (mR 70) s m args meth c G cX4_readAll RX4 3 false 233 54500 233 54500) (hr : meth.sig.returnType = (some .boolean)) (hk : meth.locks = false) {b : Bool} {S' : mT} {r : Int32} : ∀ (k : Nat) (v2 : Int32) (S : mT), fX4_readAll_20 19 k v2 S = some (r, S') → ∀ ok : Bool, mW p l e (mR 70) s m args below meth c G 3 233 54500 (mQ below G args s b S' (some (.int r))) (ok, 20, [.ref (1), .ref (19), .int v2], [], mk b S) := by
  intro k
  induction k with
  | zero =>
    intro v2 S hf ok
    cases hf
  | succ k ih =>
    intro v2 S hf ok
    unfold fX4_readAll_20 at hf
    refine msegT C kX4_readAll 12 3 (g := (true, (if (1600 : Int32) ≤ v2 then 89 else 27), [.ref (1), .ref (19), .int v2], [], mk b S)) rfl rfl ?_
    by_cases hc : (1600 : Int32) ≤ v2
    · rw [if_pos hc] at hf ⊢
      exact mfor (L' := [.ref (1), .retAddr 0, .retAddr 0]) ⟨Or.inr rfl, Or.inl rfl, Or.inl rfl, trivial⟩ (bX4_readAll_89_19 C hr hk hf true)
    · rw [if_neg hc] at hf ⊢
      obtain ⟨hok, hf⟩ := grd_ex hf
      refine msegT C kX4_readAll 15 3 (g := ((kO 1 4 && true), (if (S.1 1 4) = 0 then 89 else 34), [.ref (1), .ref (19), .int v2], [], mk b S)) rfl hok ?_
      by_cases hc : (S.1 1 4) = 0
      · rw [if_pos hc] at hf ⊢
        exact mfor (L' := [.ref (1), .retAddr 0, .retAddr 0]) ⟨Or.inr rfl, Or.inl rfl, Or.inl rfl, trivial⟩ (bX4_readAll_89_19 C hr hk hf true)
      · rw [if_neg hc] at hf ⊢
        refine msegT C kX4_readAll 18 2 (g := (true, 37, [.ref (1), .ref (19), .int v2], [.ref 900000, .ref (1)], mk b S)) rfl rfl ?_
        obtain ⟨x6, S5, hq, hf⟩ := bndC_ex hf
        refine mcall (kd := 0) (vs := [.ref (1), .ref 900000]) (rest := []) (r := (some (.int x6))) (h' := mk b S5) (ok' := true) C lkRX4_38 (qX4_isWord_900000 hq) (kX4_readAll _ (List.mem_of_getElem? (i := 20) rfl)).1 ⟨_, _, rfl, rfl, Nat.le_of_ble_eq_true rfl, _, _, rfl, rfl, rfl⟩ (Nat.le_of_ble_eq_true rfl) (Nat.le_of_ble_eq_true rfl) (Nat.le_refl _) (Nat.le_refl _) (Nat.le_of_ble_eq_true rfl) ?_
        refine msegT C kX4_readAll 21 1 (g := (true, (if x6 = 0 then 51 else 43), [.ref (1), .ref (19), .int v2], [], mk b S5)) rfl rfl ?_
        by_cases hc : x6 = 0
        · rw [if_pos hc] at hf ⊢
          refine msegT C kX4_readAll 26 2 (g := (true, 54, [.ref (1), .ref (19), .int v2], [.ref 900008, .ref (1)], mk b S5)) rfl rfl ?_
          obtain ⟨x8, S7, hq, hf⟩ := bndC_ex hf
          refine mcall (kd := 0) (vs := [.ref (1), .ref 900008]) (rest := []) (r := (some (.int x8))) (h' := mk b S7) (ok' := true) C lkRX4_38 (qX4_isWord_900008 hq) (kX4_readAll _ (List.mem_of_getElem? (i := 28) rfl)).1 ⟨_, _, rfl, rfl, Nat.le_of_ble_eq_true rfl, _, _, rfl, rfl, rfl⟩ (Nat.le_of_ble_eq_true rfl) (Nat.le_of_ble_eq_true rfl) (Nat.le_refl _) (Nat.le_refl _) (Nat.le_of_ble_eq_true rfl) ?_
          refine msegT C kX4_readAll 29 1 (g := (true, (if x8 = 0 then 68 else 60), [.ref (1), .ref (19), .int v2], [], mk b S7)) rfl rfl ?_
          by_cases hc : x8 = 0
          · rw [if_pos hc] at hf ⊢
            refine msegT C kX4_readAll 34 3 (g := (true, 71, [.ref (1), .ref (19), .int v2], [.ref (19), .ref (1), .ref (1)], mk b S7)) rfl rfl ?_
            obtain ⟨x10, S9, hn, hf⟩ := bndC_ex hf
            refine mcall (kd := 0) (vs := [.ref (1), .ref (19)]) (rest := [.ref (1)]) (r := (some (.ref x10))) (h' := mk b S9) (ok' := true) C lkRX4_51 (qX4_lawNamed_19 hn) (kX4_readAll _ (List.mem_of_getElem? (i := 37) rfl)).1 ⟨_, _, rfl, rfl, Nat.le_of_ble_eq_true rfl, _, _, rfl, rfl, rfl⟩ (Nat.le_of_ble_eq_true rfl) (Nat.le_of_ble_eq_true rfl) (Nat.le_refl _) (Nat.le_refl _) (Nat.le_of_ble_eq_true rfl) ?_
            obtain ⟨S11, hq, hf⟩ := bndV_ex hf
            refine mcall (kd := 0) (vs := [.ref (1), .ref x10]) (rest := []) (r := none) (h' := mk b S11) (ok' := true) C lkRX4_55 (qX4_readLaw_any_19 (nX4_lawNamed hn) hq) (kX4_readAll _ (List.mem_of_getElem? (i := 38) rfl)).1 ⟨_, _, rfl, rfl, Nat.le_of_ble_eq_true rfl, _, _, rfl, rfl, rfl⟩ (Nat.le_of_ble_eq_true rfl) (Nat.le_of_ble_eq_true rfl) (Nat.le_refl _) (Nat.le_refl _) (Nat.le_of_ble_eq_true rfl) ?_
            exact mfor (L' := [.ref (1), .ref (19), .int v2]) ⟨Or.inr rfl, Or.inr rfl, Or.inr rfl, trivial⟩ (bX4_readAll_77_19 C hr hk ih hf true)
          · rw [if_neg hc] at hf ⊢
            refine msegT C kX4_readAll 30 2 (g := (true, 62, [.ref (1), .ref (19), .int v2], [.ref (19), .ref (1)], mk b S7)) rfl rfl ?_
            obtain ⟨S12, hq, hf⟩ := bndV_ex hf
            refine mcall (kd := 0) (vs := [.ref (1), .ref (19)]) (rest := []) (r := none) (h' := mk b S12) (ok' := true) C lkRX4_48 (qX4_readDraw_19 hq) (kX4_readAll _ (List.mem_of_getElem? (i := 32) rfl)).1 ⟨_, _, rfl, rfl, Nat.le_of_ble_eq_true rfl, _, _, rfl, rfl, rfl⟩ (Nat.le_of_ble_eq_true rfl) (Nat.le_of_ble_eq_true rfl) (Nat.le_refl _) (Nat.le_refl _) (Nat.le_of_ble_eq_true rfl) ?_
            refine msegT C kX4_readAll 33 1 (g := (true, 77, [.ref (1), .ref (19), .int v2], [], mk b S12)) rfl rfl ?_
            exact mfor (L' := [.ref (1), .ref (19), .int v2]) ⟨Or.inr rfl, Or.inr rfl, Or.inr rfl, trivial⟩ (bX4_readAll_77_19 C hr hk ih hf true)
        · rw [if_neg hc] at hf ⊢
          refine msegT C kX4_readAll 22 2 (g := (true, 45, [.ref (1), .ref (19), .int v2], [.ref (19), .ref (1)], mk b S5)) rfl rfl ?_
          obtain ⟨S13, hq, hf⟩ := bndV_ex hf
          refine mcall (kd := 0) (vs := [.ref (1), .ref (19)]) (rest := []) (r := none) (h' := mk b S13) (ok' := true) C lkRX4_42 (qX4_readHouse_19 hq) (kX4_readAll _ (List.mem_of_getElem? (i := 24) rfl)).1 ⟨_, _, rfl, rfl, Nat.le_of_ble_eq_true rfl, _, _, rfl, rfl, rfl⟩ (Nat.le_of_ble_eq_true rfl) (Nat.le_of_ble_eq_true rfl) (Nat.le_refl _) (Nat.le_refl _) (Nat.le_of_ble_eq_true rfl) ?_
          refine msegT C kX4_readAll 25 1 (g := (true, 77, [.ref (1), .ref (19), .int v2], [], mk b S13)) rfl rfl ?_
          exact mfor (L' := [.ref (1), .ref (19), .int v2]) ⟨Or.inr rfl, Or.inr rfl, Or.inr rfl, trivial⟩ (bX4_readAll_77_19 C hr hk ih hf true)
theorem bX4_readAll_0_19 (C : mCx p (mR 70) s m args meth c G cX4_readAll RX4 3 false 233 54500 233 54500) (hr : meth.sig.returnType = (some .boolean)) (hk : meth.locks = false) {b : Bool} {S' : mT} {r : Int32} {S : mT} (hf : fX4_readAll 19 S = some (r, S')) (ok : Bool) : mW p l e (mR 70) s m args below meth c G 3 233 54500 (mQ below G args s b S' (some (.int r))) (ok, 0, [.ref (1), .ref (19), .retAddr 0], [], mk b S) := by
  unfold fX4_readAll at hf
  refine msegT C kX4_readAll 0 1 (g := (true, 1, [.ref (1), .ref (19), .retAddr 0], [.ref (19)], mk b S)) rfl rfl ?_
  obtain ⟨S1, hq, hf⟩ := bndV_ex hf
  refine mcall (kd := 0) (vs := [.ref (19)]) (rest := []) (r := none) (h' := mk b S1) (ok' := true) C lkRX4_19 (qX8_clear_19 hq) (kX4_readAll _ (List.mem_of_getElem? (i := 1) rfl)).1 ⟨_, _, rfl, rfl, Nat.le_of_ble_eq_true rfl, _, _, rfl, rfl, rfl⟩ (Nat.le_of_ble_eq_true rfl) (Nat.le_of_ble_eq_true rfl) (Nat.le_refl _) (Nat.le_refl _) (Nat.le_of_ble_eq_true rfl) ?_
  obtain ⟨hok, hf⟩ := grd_ex hf
  refine msegT C kX4_readAll 2 3 (g := ((kO 1 4 && true), 9, [.ref (1), .ref (19), .retAddr 0], [], mk b (sI S1 1 2 (0 : Int32)))) rfl hok ?_
  obtain ⟨S2, eS2, hf⟩ := bnd_ex hf
  rw [← eS2]
  obtain ⟨hok, hf⟩ := grd_ex hf
  refine msegT C kX4_readAll 5 3 (g := ((kO 1 4 && true), 14, [.ref (1), .ref (19), .retAddr 0], [], mk b (sI S2 1 6 (0 : Int32)))) rfl hok ?_
  obtain ⟨S3, eS3, hf⟩ := bnd_ex hf
  rw [← eS3]
  refine msegT C kX4_readAll 8 1 (g := (true, 15, [.ref (1), .ref (19), .retAddr 0], [.ref (1)], mk b S3)) rfl rfl ?_
  obtain ⟨S4, hq, hf⟩ := bndV_ex hf
  refine mcall (kd := 0) (vs := [.ref (1)]) (rest := []) (r := none) (h' := mk b S4) (ok' := true) C lkRX4_30 (qX4_advance hq) (kX4_readAll _ (List.mem_of_getElem? (i := 9) rfl)).1 ⟨_, _, rfl, rfl, Nat.le_of_ble_eq_true rfl, _, _, rfl, rfl, rfl⟩ (Nat.le_of_ble_eq_true rfl) (Nat.le_of_ble_eq_true rfl) (Nat.le_refl _) (Nat.le_refl _) (Nat.le_of_ble_eq_true rfl) ?_
  refine msegT C kX4_readAll 10 2 (g := (true, 20, [.ref (1), .ref (19), .int (0 : Int32)], [], mk b S4)) rfl rfl ?_
  exact mfor (L' := [.ref (1), .ref (19), .int (0 : Int32)]) ⟨Or.inr rfl, Or.inr rfl, Or.inr rfl, trivial⟩ (bX4_readAll_20_19 C hr hk _ _ _ hf true)
theorem qX4_readAll_19 {b : Bool} {S S' : mT} {r : Int32} (hf : fX4_readAll 19 S = some (r, S')) : mOk l mX4_readAll 70 [.ref (1), .ref (19)] b S (some (.int r)) S' :=
  gMet (by decide) (Nat.le_of_ble_eq_true rfl) rfl (Nat.le_of_ble_eq_true rfl) (fun p e s m args below meth c G C hr hk => bX4_readAll_0_19 C hr hk hf true)
theorem bX8_begin_0_3 (C : mCx p (mR 2) s m args meth c G cX8_begin RX8 2 false 233 54500 233 54500) (hr : meth.sig.returnType = none) (hk : meth.locks = false) {b : Bool} {a1 : Nat} {S' : mT} {S : mT} (hf : fX8_begin 3 a1 S = some S') (ok : Bool) : mW p l e (mR 2) s m args below meth c G 2 233 54500 (mQ below G args s b S' none) (ok, 0, [.ref (3), .ref a1], [], mk b S) := by
  unfold fX8_begin at hf
  refine msegT C kX8_begin 0 2 (g := (true, 2, [.ref (3), .ref a1], [.int (0 : Int32), .ref a1], mk b S)) rfl rfl ?_
  obtain ⟨S1, hq, hf⟩ := bndV_ex hf
  refine mcall (kd := 1) (vs := [.ref a1, .int (0 : Int32)]) (rest := []) (r := none) (h' := mk b S1) (ok' := true) C lkRX8_61 (qJ7_fill_53178 hq) (kX8_begin _ (List.mem_of_getElem? (i := 2) rfl)).1 rfl (Nat.le_of_ble_eq_true rfl) (Nat.le_of_ble_eq_true rfl) (Nat.le_refl _) (Nat.le_refl _) (Nat.le_of_ble_eq_true rfl) ?_
  obtain ⟨hok, hf⟩ := grd_ex hf
  refine msegT C kX8_begin 3 8 (g := ((kC (3 + 3) a1 (0 : Int32) (0 : Int32) (S1.1 3 9) && (kO 3 8 && (kO 3 8 && true))), 19, [.ref (3), .ref a1], [], mk b (sC S1 (3 + 3) a1 (0 : Int32) (0 : Int32) (S1.1 3 9)))) rfl hok ?_
  obtain ⟨S2, eS2, hf⟩ := bnd_ex hf
  rw [← eS2]
  obtain ⟨hok, hf⟩ := grd_ex hf
  refine msegT C kX8_begin 11 5 (g := ((kI a1 (16 : Int32) && (kO 3 8 && true)), 27, [.ref (3), .ref a1], [], mk b (sI S2 a1 (mIx (16 : Int32)) (S2.1 3 10)))) rfl hok ?_
  obtain ⟨S3, eS3, hf⟩ := bnd_ex hf
  rw [← eS3]
  cases hf
  exact gret_v C hr hk (kX8_begin _ (List.mem_of_getElem? (i := 16) rfl)).1
theorem qX8_begin_3 {b : Bool} {a1 : Nat} {S S' : mT} (hf : fX8_begin 3 a1 S = some S') : mOk l mX8_begin 2 [.ref (3), .ref a1] b S none S' :=
  gMet (by decide) (Nat.le_of_ble_eq_true rfl) rfl (Nat.le_of_ble_eq_true rfl) (fun p e s m args below meth c G C hr hk => bX8_begin_0_3 C hr hk hf true)
theorem bX8_begin_0_19 (C : mCx p (mR 2) s m args meth c G cX8_begin RX8 2 false 233 54500 233 54500) (hr : meth.sig.returnType = none) (hk : meth.locks = false) {b : Bool} {a1 : Nat} {S' : mT} {S : mT} (hf : fX8_begin 19 a1 S = some S') (ok : Bool) : mW p l e (mR 2) s m args below meth c G 2 233 54500 (mQ below G args s b S' none) (ok, 0, [.ref (19), .ref a1], [], mk b S) := by
  unfold fX8_begin at hf
  refine msegT C kX8_begin 0 2 (g := (true, 2, [.ref (19), .ref a1], [.int (0 : Int32), .ref a1], mk b S)) rfl rfl ?_
  obtain ⟨S1, hq, hf⟩ := bndV_ex hf
  refine mcall (kd := 1) (vs := [.ref a1, .int (0 : Int32)]) (rest := []) (r := none) (h' := mk b S1) (ok' := true) C lkRX8_61 (qJ7_fill_53178 hq) (kX8_begin _ (List.mem_of_getElem? (i := 2) rfl)).1 rfl (Nat.le_of_ble_eq_true rfl) (Nat.le_of_ble_eq_true rfl) (Nat.le_refl _) (Nat.le_refl _) (Nat.le_of_ble_eq_true rfl) ?_
  obtain ⟨hok, hf⟩ := grd_ex hf
  refine msegT C kX8_begin 3 8 (g := ((kC (19 + 3) a1 (0 : Int32) (0 : Int32) (S1.1 19 9) && (kO 19 8 && (kO 19 8 && true))), 19, [.ref (19), .ref a1], [], mk b (sC S1 (19 + 3) a1 (0 : Int32) (0 : Int32) (S1.1 19 9)))) rfl hok ?_
  obtain ⟨S2, eS2, hf⟩ := bnd_ex hf
  rw [← eS2]
  obtain ⟨hok, hf⟩ := grd_ex hf
  refine msegT C kX8_begin 11 5 (g := ((kI a1 (16 : Int32) && (kO 19 8 && true)), 27, [.ref (19), .ref a1], [], mk b (sI S2 a1 (mIx (16 : Int32)) (S2.1 19 10)))) rfl hok ?_
  obtain ⟨S3, eS3, hf⟩ := bnd_ex hf
  rw [← eS3]
  cases hf
  exact gret_v C hr hk (kX8_begin _ (List.mem_of_getElem? (i := 16) rfl)).1
theorem qX8_begin_19 {b : Bool} {a1 : Nat} {S S' : mT} (hf : fX8_begin 19 a1 S = some S') : mOk l mX8_begin 2 [.ref (19), .ref a1] b S none S' :=
  gMet (by decide) (Nat.le_of_ble_eq_true rfl) rfl (Nat.le_of_ble_eq_true rfl) (fun p e s m args below meth c G C hr hk => bX8_begin_0_19 C hr hk hf true)
theorem bX11_province_0_f (C : mCx p (mR 71) s m args meth c G cX11_province RX11 3 false 233 54500 233 54500) (hr : meth.sig.returnType = (some .int)) (hk : meth.locks = false) {S' : mT} {r : Int32} {b' : Bool} {S : mT} (hf : fX11_province false S = some (r, S', b')) (ok : Bool) : mW p l e (mR 71) s m args below meth c G 3 233 54500 (mQ below G args s b' S' (some (.int r))) (ok, 0, [.ref (0), .retAddr 0, .retAddr 0], [], mk false S) := by
  unfold fX11_province at hf
  obtain ⟨hok, hf⟩ := grd_ex hf
  refine msegT C kX11_province 0 4 (g := ((kO 0 11 && (kO 0 11 && true)), 8, [.ref (0), .retAddr 0, .retAddr 0], [.ref (shV false), .ref 1], mk false S)) rfl hok ?_
  obtain ⟨x2, S1, hq, hf⟩ := bndC_ex hf
  refine mcall (kd := 0) (vs := [.ref 1, .ref (shV false)]) (rest := []) (r := (some (.int x2))) (h' := mk false S1) (ok' := true) C lkRX11_93 (qX4_readAll_19 hq) (kX11_province _ (List.mem_of_getElem? (i := 4) rfl)).1 ⟨_, _, rfl, rfl, Nat.le_of_ble_eq_true rfl, _, _, rfl, rfl, rfl⟩ (Nat.le_of_ble_eq_true rfl) (Nat.le_of_ble_eq_true rfl) (Nat.le_refl _) (Nat.le_refl _) (Nat.le_of_ble_eq_true rfl) ?_
  obtain ⟨hok, hf⟩ := grd_ex hf
  refine msegT C kX11_province 5 5 (g := ((kO 1 4 && (kO 0 11 && true)), 20, [.ref (0), .int x2, .retAddr 0], [], mk false (sI S1 1 1 (0 : Int32)))) rfl hok ?_
  obtain ⟨S3, eS3, hf⟩ := bnd_ex hf
  rw [← eS3]
  refine msegT C kX11_province 10 2 (g := (true, (if x2 = 0 then 24 else 26), [.ref (0), .int x2, .retAddr 0], [], mk false S3)) rfl rfl ?_
  by_cases hc : x2 = 0
  · rw [if_pos hc] at hf ⊢
    refine msegT C kX11_province 12 1 (g := (true, 25, [.ref (0), .int x2, .retAddr 0], [.int (-1 : Int32)], mk false S3)) rfl rfl ?_
    cases hf
    exact gret_i C hr hk (kX11_province _ (List.mem_of_getElem? (i := 13) rfl)).1
  · rw [if_neg hc] at hf ⊢
    obtain ⟨hok, hf⟩ := grd_ex hf
    refine msegT C kX11_province 14 10 (g := ((kO 0 11 && (kO 0 11 && (kO 0 11 && (kO 0 11 && true)))), 44, [.ref (0), .int x2, .ref (shU false)], [], (putR (putR (mk false S3) 0 1 (shV false)) 0 2 (shU false)))) rfl hok ?_
    rw [mk_sw_f]
    obtain ⟨hok, hf⟩ := grd_ex hf
    refine msegT C kX11_province 24 4 (g := ((kO 0 11 && (kO 0 11 && true)), 52, [.ref (0), .int x2, .ref (shU false)], [.ref 35, .ref (shU true)], mk true S3)) rfl hok ?_
    obtain ⟨S4, hq, hf⟩ := bndV_ex hf
    refine mcall (kd := 0) (vs := [.ref (shU true), .ref 35]) (rest := []) (r := none) (h' := mk true S4) (ok' := true) C lkRX11_97 (qX8_begin_19 hq) (kX11_province _ (List.mem_of_getElem? (i := 28) rfl)).1 ⟨_, _, rfl, rfl, Nat.le_of_ble_eq_true rfl, _, _, rfl, rfl, rfl⟩ (Nat.le_of_ble_eq_true rfl) (Nat.le_of_ble_eq_true rfl) (Nat.le_refl _) (Nat.le_refl _) (Nat.le_of_ble_eq_true rfl) ?_
    obtain ⟨hok, hf⟩ := grd_ex hf
    refine msegT C kX11_province 29 4 (g := ((kO 0 11 && (kO 0 11 && true)), 63, [.ref (0), .int x2, .ref (shU false)], [.ref 35, .ref 37], mk true S4)) rfl hok ?_
    obtain ⟨S5, hq, hf⟩ := bndV_ex hf
    refine mcall (kd := 0) (vs := [.ref 37, .ref 35]) (rest := []) (r := none) (h' := mk true S5) (ok' := true) C lkRX11_101 (qX2_startFrom hq) (kX11_province _ (List.mem_of_getElem? (i := 33) rfl)).1 ⟨_, _, rfl, rfl, Nat.le_of_ble_eq_true rfl, _, _, rfl, rfl, rfl⟩ (Nat.le_of_ble_eq_true rfl) (Nat.le_of_ble_eq_true rfl) (Nat.le_refl _) (Nat.le_refl _) (Nat.le_of_ble_eq_true rfl) ?_
    obtain ⟨hok, hf⟩ := grd_ex hf
    refine msegT C kX11_province 34 2 (g := ((kO 0 11 && true), 70, [.ref (0), .int x2, .ref (shU false)], [.ref 37], mk true S5)) rfl hok ?_
    obtain ⟨S6, hq, hf⟩ := bndV_ex hf
    refine mcall (kd := 0) (vs := [.ref 37]) (rest := []) (r := none) (h' := mk true S6) (ok' := true) C lkRX11_104 (qX2_emptyBoxes hq) (kX11_province _ (List.mem_of_getElem? (i := 36) rfl)).1 ⟨_, _, rfl, rfl, Nat.le_of_ble_eq_true rfl, _, _, rfl, rfl, rfl⟩ (Nat.le_of_ble_eq_true rfl) (Nat.le_of_ble_eq_true rfl) (Nat.le_refl _) (Nat.le_refl _) (Nat.le_of_ble_eq_true rfl) ?_
    obtain ⟨hok, hf⟩ := grd_ex hf
    refine msegT C kX11_province 37 4 (g := ((kO 114 5 && (kO 0 11 && true)), 81, [.ref (0), .int x2, .ref (shU false)], [], mk true (sI S6 114 5 (0 : Int32)))) rfl hok ?_
    obtain ⟨S7, eS7, hf⟩ := bnd_ex hf
    rw [← eS7]
    obtain ⟨hok, hf⟩ := grd_ex hf
    refine msegT C kX11_province 41 2 (g := ((kO 0 11 && true), 85, [.ref (0), .int x2, .ref (shU false)], [.ref 120], mk true S7)) rfl hok ?_
    obtain ⟨S8, hq, hf⟩ := bndV_ex hf
    refine mcall (kd := 0) (vs := [.ref 120]) (rest := []) (r := none) (h' := mk true S8) (ok' := true) C lkRX11_110 (qX10_forget hq) (kX11_province _ (List.mem_of_getElem? (i := 43) rfl)).1 ⟨_, _, rfl, rfl, Nat.le_of_ble_eq_true rfl, _, _, rfl, rfl, rfl⟩ (Nat.le_of_ble_eq_true rfl) (Nat.le_of_ble_eq_true rfl) (Nat.le_refl _) (Nat.le_refl _) (Nat.le_of_ble_eq_true rfl) ?_
    obtain ⟨hok, hf⟩ := grd_ex hf
    refine msegT C kX11_province 44 2 (g := ((kO 0 11 && true), 92, [.ref (0), .int x2, .ref (shU false)], [.ref 140], mk true S8)) rfl hok ?_
    obtain ⟨S9, hq, hf⟩ := bndV_ex hf
    refine mcall (kd := 0) (vs := [.ref 140]) (rest := []) (r := none) (h' := mk true S9) (ok' := true) C lkRX11_113 (qX3_forget hq) (kX11_province _ (List.mem_of_getElem? (i := 46) rfl)).1 ⟨_, _, rfl, rfl, Nat.le_of_ble_eq_true rfl, _, _, rfl, rfl, rfl⟩ (Nat.le_of_ble_eq_true rfl) (Nat.le_of_ble_eq_true rfl) (Nat.le_refl _) (Nat.le_refl _) (Nat.le_of_ble_eq_true rfl) ?_
    obtain ⟨hok, hf⟩ := grd_ex hf
    refine msegT C kX11_province 47 3 (g := ((kO 0 11 && true), 100, [.ref (0), .int x2, .ref (shU false)], [], mk true (sI S9 0 13 (0 : Int32)))) rfl hok ?_
    obtain ⟨S10, eS10, hf⟩ := bnd_ex hf
    rw [← eS10]
    obtain ⟨hok, hf⟩ := grd_ex hf
    refine msegT C kX11_province 50 3 (g := ((kO (shU true) 8 && (kO 0 11 && true)), 107, [.ref (0), .int x2, .ref (shU false)], [.int (S10.1 (shU true) 9)], mk true S10)) rfl hok ?_
    cases hf
    exact gret_i C hr hk (kX11_province _ (List.mem_of_getElem? (i := 53) rfl)).1
theorem qX11_province_f {S S' : mT} {r : Int32} {b' : Bool} (hf : fX11_province false S = some (r, S', b')) : mMet l mX11_province 71 [.ref (0)] (mk false S) (some (.int r)) (mk b' S') :=
  gMet2 (by decide) (Nat.le_of_ble_eq_true rfl) rfl (Nat.le_of_ble_eq_true rfl) (fun p e s m args below meth c G C hr hk => bX11_province_0_f C hr hk hf true)
theorem bX11_province_0_t (C : mCx p (mR 71) s m args meth c G cX11_province RX11 3 false 233 54500 233 54500) (hr : meth.sig.returnType = (some .int)) (hk : meth.locks = false) {S' : mT} {r : Int32} {b' : Bool} {S : mT} (hf : fX11_province true S = some (r, S', b')) (ok : Bool) : mW p l e (mR 71) s m args below meth c G 3 233 54500 (mQ below G args s b' S' (some (.int r))) (ok, 0, [.ref (0), .retAddr 0, .retAddr 0], [], mk true S) := by
  unfold fX11_province at hf
  obtain ⟨hok, hf⟩ := grd_ex hf
  refine msegT C kX11_province 0 4 (g := ((kO 0 11 && (kO 0 11 && true)), 8, [.ref (0), .retAddr 0, .retAddr 0], [.ref (shV true), .ref 1], mk true S)) rfl hok ?_
  obtain ⟨x2, S1, hq, hf⟩ := bndC_ex hf
  refine mcall (kd := 0) (vs := [.ref 1, .ref (shV true)]) (rest := []) (r := (some (.int x2))) (h' := mk true S1) (ok' := true) C lkRX11_93 (qX4_readAll_3 hq) (kX11_province _ (List.mem_of_getElem? (i := 4) rfl)).1 ⟨_, _, rfl, rfl, Nat.le_of_ble_eq_true rfl, _, _, rfl, rfl, rfl⟩ (Nat.le_of_ble_eq_true rfl) (Nat.le_of_ble_eq_true rfl) (Nat.le_refl _) (Nat.le_refl _) (Nat.le_of_ble_eq_true rfl) ?_
  obtain ⟨hok, hf⟩ := grd_ex hf
  refine msegT C kX11_province 5 5 (g := ((kO 1 4 && (kO 0 11 && true)), 20, [.ref (0), .int x2, .retAddr 0], [], mk true (sI S1 1 1 (0 : Int32)))) rfl hok ?_
  obtain ⟨S3, eS3, hf⟩ := bnd_ex hf
  rw [← eS3]
  refine msegT C kX11_province 10 2 (g := (true, (if x2 = 0 then 24 else 26), [.ref (0), .int x2, .retAddr 0], [], mk true S3)) rfl rfl ?_
  by_cases hc : x2 = 0
  · rw [if_pos hc] at hf ⊢
    refine msegT C kX11_province 12 1 (g := (true, 25, [.ref (0), .int x2, .retAddr 0], [.int (-1 : Int32)], mk true S3)) rfl rfl ?_
    cases hf
    exact gret_i C hr hk (kX11_province _ (List.mem_of_getElem? (i := 13) rfl)).1
  · rw [if_neg hc] at hf ⊢
    obtain ⟨hok, hf⟩ := grd_ex hf
    refine msegT C kX11_province 14 10 (g := ((kO 0 11 && (kO 0 11 && (kO 0 11 && (kO 0 11 && true)))), 44, [.ref (0), .int x2, .ref (shU true)], [], (putR (putR (mk true S3) 0 1 (shV true)) 0 2 (shU true)))) rfl hok ?_
    rw [mk_sw_t]
    obtain ⟨hok, hf⟩ := grd_ex hf
    refine msegT C kX11_province 24 4 (g := ((kO 0 11 && (kO 0 11 && true)), 52, [.ref (0), .int x2, .ref (shU true)], [.ref 35, .ref (shU false)], mk false S3)) rfl hok ?_
    obtain ⟨S4, hq, hf⟩ := bndV_ex hf
    refine mcall (kd := 0) (vs := [.ref (shU false), .ref 35]) (rest := []) (r := none) (h' := mk false S4) (ok' := true) C lkRX11_97 (qX8_begin_3 hq) (kX11_province _ (List.mem_of_getElem? (i := 28) rfl)).1 ⟨_, _, rfl, rfl, Nat.le_of_ble_eq_true rfl, _, _, rfl, rfl, rfl⟩ (Nat.le_of_ble_eq_true rfl) (Nat.le_of_ble_eq_true rfl) (Nat.le_refl _) (Nat.le_refl _) (Nat.le_of_ble_eq_true rfl) ?_
    obtain ⟨hok, hf⟩ := grd_ex hf
    refine msegT C kX11_province 29 4 (g := ((kO 0 11 && (kO 0 11 && true)), 63, [.ref (0), .int x2, .ref (shU true)], [.ref 35, .ref 37], mk false S4)) rfl hok ?_
    obtain ⟨S5, hq, hf⟩ := bndV_ex hf
    refine mcall (kd := 0) (vs := [.ref 37, .ref 35]) (rest := []) (r := none) (h' := mk false S5) (ok' := true) C lkRX11_101 (qX2_startFrom hq) (kX11_province _ (List.mem_of_getElem? (i := 33) rfl)).1 ⟨_, _, rfl, rfl, Nat.le_of_ble_eq_true rfl, _, _, rfl, rfl, rfl⟩ (Nat.le_of_ble_eq_true rfl) (Nat.le_of_ble_eq_true rfl) (Nat.le_refl _) (Nat.le_refl _) (Nat.le_of_ble_eq_true rfl) ?_
    obtain ⟨hok, hf⟩ := grd_ex hf
    refine msegT C kX11_province 34 2 (g := ((kO 0 11 && true), 70, [.ref (0), .int x2, .ref (shU true)], [.ref 37], mk false S5)) rfl hok ?_
    obtain ⟨S6, hq, hf⟩ := bndV_ex hf
    refine mcall (kd := 0) (vs := [.ref 37]) (rest := []) (r := none) (h' := mk false S6) (ok' := true) C lkRX11_104 (qX2_emptyBoxes hq) (kX11_province _ (List.mem_of_getElem? (i := 36) rfl)).1 ⟨_, _, rfl, rfl, Nat.le_of_ble_eq_true rfl, _, _, rfl, rfl, rfl⟩ (Nat.le_of_ble_eq_true rfl) (Nat.le_of_ble_eq_true rfl) (Nat.le_refl _) (Nat.le_refl _) (Nat.le_of_ble_eq_true rfl) ?_
    obtain ⟨hok, hf⟩ := grd_ex hf
    refine msegT C kX11_province 37 4 (g := ((kO 114 5 && (kO 0 11 && true)), 81, [.ref (0), .int x2, .ref (shU true)], [], mk false (sI S6 114 5 (0 : Int32)))) rfl hok ?_
    obtain ⟨S7, eS7, hf⟩ := bnd_ex hf
    rw [← eS7]
    obtain ⟨hok, hf⟩ := grd_ex hf
    refine msegT C kX11_province 41 2 (g := ((kO 0 11 && true), 85, [.ref (0), .int x2, .ref (shU true)], [.ref 120], mk false S7)) rfl hok ?_
    obtain ⟨S8, hq, hf⟩ := bndV_ex hf
    refine mcall (kd := 0) (vs := [.ref 120]) (rest := []) (r := none) (h' := mk false S8) (ok' := true) C lkRX11_110 (qX10_forget hq) (kX11_province _ (List.mem_of_getElem? (i := 43) rfl)).1 ⟨_, _, rfl, rfl, Nat.le_of_ble_eq_true rfl, _, _, rfl, rfl, rfl⟩ (Nat.le_of_ble_eq_true rfl) (Nat.le_of_ble_eq_true rfl) (Nat.le_refl _) (Nat.le_refl _) (Nat.le_of_ble_eq_true rfl) ?_
    obtain ⟨hok, hf⟩ := grd_ex hf
    refine msegT C kX11_province 44 2 (g := ((kO 0 11 && true), 92, [.ref (0), .int x2, .ref (shU true)], [.ref 140], mk false S8)) rfl hok ?_
    obtain ⟨S9, hq, hf⟩ := bndV_ex hf
    refine mcall (kd := 0) (vs := [.ref 140]) (rest := []) (r := none) (h' := mk false S9) (ok' := true) C lkRX11_113 (qX3_forget hq) (kX11_province _ (List.mem_of_getElem? (i := 46) rfl)).1 ⟨_, _, rfl, rfl, Nat.le_of_ble_eq_true rfl, _, _, rfl, rfl, rfl⟩ (Nat.le_of_ble_eq_true rfl) (Nat.le_of_ble_eq_true rfl) (Nat.le_refl _) (Nat.le_refl _) (Nat.le_of_ble_eq_true rfl) ?_
    obtain ⟨hok, hf⟩ := grd_ex hf
    refine msegT C kX11_province 47 3 (g := ((kO 0 11 && true), 100, [.ref (0), .int x2, .ref (shU true)], [], mk false (sI S9 0 13 (0 : Int32)))) rfl hok ?_
    obtain ⟨S10, eS10, hf⟩ := bnd_ex hf
    rw [← eS10]
    obtain ⟨hok, hf⟩ := grd_ex hf
    refine msegT C kX11_province 50 3 (g := ((kO (shU false) 8 && (kO 0 11 && true)), 107, [.ref (0), .int x2, .ref (shU true)], [.int (S10.1 (shU false) 9)], mk false S10)) rfl hok ?_
    cases hf
    exact gret_i C hr hk (kX11_province _ (List.mem_of_getElem? (i := 53) rfl)).1
theorem qX11_province_t {S S' : mT} {r : Int32} {b' : Bool} (hf : fX11_province true S = some (r, S', b')) : mMet l mX11_province 71 [.ref (0)] (mk true S) (some (.int r)) (mk b' S') :=
  gMet2 (by decide) (Nat.le_of_ble_eq_true rfl) rfl (Nat.le_of_ble_eq_true rfl) (fun p e s m args below meth c G C hr hk => bX11_province_0_t C hr hk hf true)
end GP
