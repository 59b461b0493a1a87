section GP
variable {p : Program} {l : Launch} {e : Env} {s : State} {m : MethodId} {args : Array Value} {below : List Frame} {meth : Method} {c : Code} {G : mG}
theorem bX4_readHouse_87_3 (C : mCx p (mR 9) s m args meth c G cX4_readHouse RX4 8 false 233 54500 233 54500) (hr : meth.sig.returnType = none) (hk : meth.locks = false) {b : Bool} {S' : mT} {v2 : Int64} {v4 : Int32} {v5 : Int32} {v6 : Int32} {s0 : Int32} {S : mT} (hf : fX4_readHouse_87 3 v2 v4 v5 v6 s0 S = some S') (ok : Bool) : mW p l e (mR 9) s m args below meth c G 8 233 54500 (mQ below G args s b S' none) (ok, 87, [.retAddr 0, .ref (3), .long v2, .retAddr 0, .int v4, .int v5, .int v6, .retAddr 0], [.int s0], mk b S) := by
  unfold fX4_readHouse_87 at hf
  refine msegT C kX4_readHouse 44 7 (g := (true, 99, [.retAddr 0, .ref (3), .long v2, .retAddr 0, .int v4, .int v5, .int v6, .int s0], [.int s0, .int v6, .int v5, .int v4, .long v2, .ref (3)], mk b S)) rfl rfl ?_
  obtain ⟨S17, hq, hf⟩ := bndV_ex hf
  refine mcall (kd := 0) (vs := [.ref (3), .long v2, .int v4, .int v5, .int v6, .int s0]) (rest := []) (r := none) (h' := mk b S17) (ok' := true) C lkRX4_98 (qX8_addHouse_3 hq) (kX4_readHouse _ (List.mem_of_getElem? (i := 51) rfl)).1 ⟨_, _, rfl, rfl, Nat.le_of_ble_eq_true rfl, _, _, rfl, rfl, rfl⟩ (Nat.le_of_ble_eq_true rfl) (Nat.le_of_ble_eq_true rfl) (Nat.le_refl _) (Nat.le_refl _) (Nat.le_of_ble_eq_true rfl) ?_
  cases hf
  exact gret_v C hr hk (kX4_readHouse _ (List.mem_of_getElem? (i := 52) rfl)).1
theorem bX4_readHouse_64_3 (C : mCx p (mR 9) s m args meth c G cX4_readHouse RX4 8 false 233 54500 233 54500) (hr : meth.sig.returnType = none) (hk : meth.locks = false) {b : Bool} {S' : mT} {v2 : Int64} {v4 : Int32} {v5 : Int32} {s0 : Int32} {S : mT} (hf : fX4_readHouse_64 3 v2 v4 v5 s0 S = some S') (ok : Bool) : mW p l e (mR 9) s m args below meth c G 8 233 54500 (mQ below G args s b S' none) (ok, 64, [.ref (1), .ref (3), .long v2, .retAddr 0, .int v4, .int v5, .retAddr 0, .retAddr 0], [.int s0], mk b S) := by
  unfold fX4_readHouse_64 at hf
  refine msegT C kX4_readHouse 33 3 (g := (true, 69, [.ref (1), .ref (3), .long v2, .retAddr 0, .int v4, .int v5, .int s0, .retAddr 0], [.ref 900004, .ref (1)], mk b S)) rfl rfl ?_
  obtain ⟨x14, S13, hq, hf⟩ := bndC_ex hf
  refine mcall (kd := 0) (vs := [.ref (1), .ref 900004]) (rest := []) (r := (some (.int x14))) (h' := mk b S13) (ok' := true) C lkRX4_38 (qX4_isWord_900004 hq) (kX4_readHouse _ (List.mem_of_getElem? (i := 36) rfl)).1 ⟨_, _, rfl, rfl, Nat.le_of_ble_eq_true rfl, _, _, rfl, rfl, rfl⟩ (Nat.le_of_ble_eq_true rfl) (Nat.le_of_ble_eq_true rfl) (Nat.le_refl _) (Nat.le_refl _) (Nat.le_of_ble_eq_true rfl) ?_
  refine msegT C kX4_readHouse 37 1 (g := (true, (if x14 = 0 then 86 else 75), [.ref (1), .ref (3), .long v2, .retAddr 0, .int v4, .int v5, .int s0, .retAddr 0], [], mk b S13)) rfl rfl ?_
  by_cases hc : x14 = 0
  · rw [if_pos hc] at hf ⊢
    refine msegT C kX4_readHouse 43 1 (g := (true, 87, [.ref (1), .ref (3), .long v2, .retAddr 0, .int v4, .int v5, .int s0, .retAddr 0], [.int (0 : Int32)], mk b S13)) rfl rfl ?_
    exact mfor (L' := [.retAddr 0, .ref (3), .long v2, .retAddr 0, .int v4, .int v5, .int s0, .retAddr 0]) ⟨Or.inl rfl, Or.inr rfl, Or.inr rfl, Or.inl rfl, Or.inr rfl, Or.inr rfl, Or.inr rfl, Or.inl rfl, trivial⟩ (bX4_readHouse_87_3 C hr hk hf true)
  · rw [if_neg hc] at hf ⊢
    refine msegT C kX4_readHouse 38 3 (g := (true, 80, [.ref (1), .ref (3), .long v2, .retAddr 0, .int v4, .int v5, .int s0, .retAddr 0], [.int (9 : Int32), .ref 900004, .ref (1)], mk b S13)) rfl rfl ?_
    obtain ⟨x16, S15, hq, hf⟩ := bndC_ex hf
    refine mcall (kd := 0) (vs := [.ref (1), .ref 900004, .int (9 : Int32)]) (rest := []) (r := (some (.int x16))) (h' := mk b S15) (ok' := true) C lkRX4_88 (qX4_takeTold_900004 hq) (kX4_readHouse _ (List.mem_of_getElem? (i := 41) rfl)).1 ⟨_, _, rfl, rfl, Nat.le_of_ble_eq_true rfl, _, _, rfl, rfl, rfl⟩ (Nat.le_of_ble_eq_true rfl) (Nat.le_of_ble_eq_true rfl) (Nat.le_refl _) (Nat.le_refl _) (Nat.le_of_ble_eq_true rfl) ?_
    refine msegT C kX4_readHouse 42 1 (g := (true, 87, [.ref (1), .ref (3), .long v2, .retAddr 0, .int v4, .int v5, .int s0, .retAddr 0], [.int x16], mk b S15)) rfl rfl ?_
    exact mfor (L' := [.retAddr 0, .ref (3), .long v2, .retAddr 0, .int v4, .int v5, .int s0, .retAddr 0]) ⟨Or.inl rfl, Or.inr rfl, Or.inr rfl, Or.inl rfl, Or.inr rfl, Or.inr rfl, Or.inr rfl, Or.inl rfl, trivial⟩ (bX4_readHouse_87_3 C hr hk hf true)
theorem bX4_readHouse_13_3 (C : mCx p (mR 9) s m args meth c G cX4_readHouse RX4 8 false 233 54500 233 54500) (hr : meth.sig.returnType = none) (hk : meth.locks = false) {b : Bool} {S' : mT} {S : mT} (hf : fX4_readHouse_13 3 S = some S') (ok : Bool) : mW p l e (mR 9) s m args below meth c G 8 233 54500 (mQ below G args s b S' none) (ok, 13, [.ref (1), .ref (3), .retAddr 0, .retAddr 0, .retAddr 0, .retAddr 0, .retAddr 0, .retAddr 0], [], mk b S) := by
  unfold fX4_readHouse_13 at hf
  refine msegT C kX4_readHouse 7 1 (g := (true, 14, [.ref (1), .ref (3), .retAddr 0, .retAddr 0, .retAddr 0, .retAddr 0, .retAddr 0, .retAddr 0], [.ref (1)], mk b S)) rfl rfl ?_
  obtain ⟨S2, hq, hf⟩ := bndV_ex hf
  refine mcall (kd := 0) (vs := [.ref (1)]) (rest := []) (r := none) (h' := mk b S2) (ok' := true) C lkRX4_30 (qX4_advance hq) (kX4_readHouse _ (List.mem_of_getElem? (i := 8) rfl)).1 ⟨_, _, rfl, rfl, Nat.le_of_ble_eq_true rfl, _, _, rfl, rfl, rfl⟩ (Nat.le_of_ble_eq_true rfl) (Nat.le_of_ble_eq_true rfl) (Nat.le_refl _) (Nat.le_refl _) (Nat.le_of_ble_eq_true rfl) ?_
  refine msegT C kX4_readHouse 9 2 (g := (true, 19, [.ref (1), .ref (3), .retAddr 0, .retAddr 0, .retAddr 0, .retAddr 0, .retAddr 0, .retAddr 0], [.ref (3), .ref (1)], mk b S2)) rfl rfl ?_
  obtain ⟨x4, S3, hq, hf⟩ := bndC_ex hf
  refine mcall (kd := 0) (vs := [.ref (1), .ref (3)]) (rest := []) (r := (some (.long x4))) (h' := mk b S3) (ok' := true) C lkRX4_83 (qX4_takeName_3 hq) (kX4_readHouse _ (List.mem_of_getElem? (i := 11) rfl)).1 ⟨_, _, rfl, rfl, Nat.le_of_ble_eq_true rfl, _, _, rfl, rfl, rfl⟩ (Nat.le_of_ble_eq_true rfl) (Nat.le_of_ble_eq_true rfl) (Nat.le_refl _) (Nat.le_refl _) (Nat.le_of_ble_eq_true rfl) ?_
  refine msegT C kX4_readHouse 12 4 (g := (true, 28, [.ref (1), .ref (3), .long x4, .retAddr 0, .retAddr 0, .retAddr 0, .retAddr 0, .retAddr 0], [.int (60 : Int32), .ref 900001, .ref (1)], mk b S3)) rfl rfl ?_
  obtain ⟨x6, S5, hq, hf⟩ := bndC_ex hf
  refine mcall (kd := 0) (vs := [.ref (1), .ref 900001, .int (60 : Int32)]) (rest := []) (r := (some (.int x6))) (h' := mk b S5) (ok' := true) C lkRX4_88 (qX4_takeTold_900001 hq) (kX4_readHouse _ (List.mem_of_getElem? (i := 16) rfl)).1 ⟨_, _, rfl, rfl, Nat.le_of_ble_eq_true rfl, _, _, rfl, rfl, rfl⟩ (Nat.le_of_ble_eq_true rfl) (Nat.le_of_ble_eq_true rfl) (Nat.le_refl _) (Nat.le_refl _) (Nat.le_of_ble_eq_true rfl) ?_
  refine msegT C kX4_readHouse 17 4 (g := (true, 38, [.ref (1), .ref (3), .long x4, .retAddr 0, .int x6, .retAddr 0, .retAddr 0, .retAddr 0], [.int (7 : Int32), .ref 900002, .ref (1)], mk b S5)) rfl rfl ?_
  obtain ⟨x8, S7, hq, hf⟩ := bndC_ex hf
  refine mcall (kd := 0) (vs := [.ref (1), .ref 900002, .int (7 : Int32)]) (rest := []) (r := (some (.int x8))) (h' := mk b S7) (ok' := true) C lkRX4_88 (qX4_takeTold_900002 hq) (kX4_readHouse _ (List.mem_of_getElem? (i := 21) rfl)).1 ⟨_, _, rfl, rfl, Nat.le_of_ble_eq_true rfl, _, _, rfl, rfl, rfl⟩ (Nat.le_of_ble_eq_true rfl) (Nat.le_of_ble_eq_true rfl) (Nat.le_refl _) (Nat.le_refl _) (Nat.le_of_ble_eq_true rfl) ?_
  refine msegT C kX4_readHouse 22 3 (g := (true, 46, [.ref (1), .ref (3), .long x4, .retAddr 0, .int x6, .int x8, .retAddr 0, .retAddr 0], [.ref 900003, .ref (1)], mk b S7)) rfl rfl ?_
  obtain ⟨x10, S9, hq, hf⟩ := bndC_ex hf
  refine mcall (kd := 0) (vs := [.ref (1), .ref 900003]) (rest := []) (r := (some (.int x10))) (h' := mk b S9) (ok' := true) C lkRX4_38 (qX4_isWord_900003 hq) (kX4_readHouse _ (List.mem_of_getElem? (i := 25) rfl)).1 ⟨_, _, rfl, rfl, Nat.le_of_ble_eq_true rfl, _, _, rfl, rfl, rfl⟩ (Nat.le_of_ble_eq_true rfl) (Nat.le_of_ble_eq_true rfl) (Nat.le_refl _) (Nat.le_refl _) (Nat.le_of_ble_eq_true rfl) ?_
  refine msegT C kX4_readHouse 26 1 (g := (true, (if x10 = 0 then 63 else 52), [.ref (1), .ref (3), .long x4, .retAddr 0, .int x6, .int x8, .retAddr 0, .retAddr 0], [], mk b S9)) rfl rfl ?_
  by_cases hc : x10 = 0
  · rw [if_pos hc] at hf ⊢
    refine msegT C kX4_readHouse 32 1 (g := (true, 64, [.ref (1), .ref (3), .long x4, .retAddr 0, .int x6, .int x8, .retAddr 0, .retAddr 0], [.int (0 : Int32)], mk b S9)) rfl rfl ?_
    exact mfor (L' := [.ref (1), .ref (3), .long x4, .retAddr 0, .int x6, .int x8, .retAddr 0, .retAddr 0]) ⟨Or.inr rfl, Or.inr rfl, Or.inr rfl, Or.inl rfl, Or.inr rfl, Or.inr rfl, Or.inl rfl, Or.inl rfl, trivial⟩ (bX4_readHouse_64_3 C hr hk hf true)
  · rw [if_neg hc] at hf ⊢
    refine msegT C kX4_readHouse 27 3 (g := (true, 57, [.ref (1), .ref (3), .long x4, .retAddr 0, .int x6, .int x8, .retAddr 0, .retAddr 0], [.int (9 : Int32), .ref 900003, .ref (1)], mk b S9)) rfl rfl ?_
    obtain ⟨x12, S11, hq, hf⟩ := bndC_ex hf
    refine mcall (kd := 0) (vs := [.ref (1), .ref 900003, .int (9 : Int32)]) (rest := []) (r := (some (.int x12))) (h' := mk b S11) (ok' := true) C lkRX4_88 (qX4_takeTold_900003 hq) (kX4_readHouse _ (List.mem_of_getElem? (i := 30) rfl)).1 ⟨_, _, rfl, rfl, Nat.le_of_ble_eq_true rfl, _, _, rfl, rfl, rfl⟩ (Nat.le_of_ble_eq_true rfl) (Nat.le_of_ble_eq_true rfl) (Nat.le_refl _) (Nat.le_refl _) (Nat.le_of_ble_eq_true rfl) ?_
    refine msegT C kX4_readHouse 31 1 (g := (true, 64, [.ref (1), .ref (3), .long x4, .retAddr 0, .int x6, .int x8, .retAddr 0, .retAddr 0], [.int x12], mk b S11)) rfl rfl ?_
    exact mfor (L' := [.ref (1), .ref (3), .long x4, .retAddr 0, .int x6, .int x8, .retAddr 0, .retAddr 0]) ⟨Or.inr rfl, Or.inr rfl, Or.inr rfl, Or.inl rfl, Or.inr rfl, Or.inr rfl, Or.inl rfl, Or.inl rfl, trivial⟩ (bX4_readHouse_64_3 C hr hk hf true)
theorem bX4_readHouse_0_3 (C : mCx p (mR 9) s m args meth c G cX4_readHouse RX4 8 false 233 54500 233 54500) (hr : meth.sig.returnType = none) (hk : meth.locks = false) {b : Bool} {S' : mT} {S : mT} (hf : fX4_readHouse 3 S = some S') (ok : Bool) : mW p l e (mR 9) s m args below meth c G 8 233 54500 (mQ below G args s b S' none) (ok, 0, [.ref (1), .ref (3), .retAddr 0, .retAddr 0, .retAddr 0, .retAddr 0, .retAddr 0, .retAddr 0], [], mk b S) := by
  unfold fX4_readHouse at hf
  obtain ⟨hok, hf⟩ := grd_ex hf
  refine msegT C kX4_readHouse 0 4 (g := ((kO 3 8 && true), (if (S.1 3 9) < (5 : Int32) then 13 else 8), [.ref (1), .ref (3), .retAddr 0, .retAddr 0, .retAddr 0, .retAddr 0, .retAddr 0, .retAddr 0], [], mk b S)) rfl hok ?_
  by_cases hc : (S.1 3 9) < (5 : Int32)
  · rw [if_pos hc] at hf ⊢
    exact mfor (L' := [.ref (1), .ref (3), .retAddr 0, .retAddr 0, .retAddr 0, .retAddr 0, .retAddr 0, .retAddr 0]) ⟨Or.inr rfl, Or.inr rfl, Or.inl rfl, Or.inl rfl, Or.inl rfl, Or.inl rfl, Or.inl rfl, Or.inl rfl, trivial⟩ (bX4_readHouse_13_3 C hr hk hf true)
  · rw [if_neg hc] at hf ⊢
    refine msegT C kX4_readHouse 4 2 (g := (true, 10, [.ref (1), .ref (3), .retAddr 0, .retAddr 0, .retAddr 0, .retAddr 0, .retAddr 0, .retAddr 0], [.int (2 : Int32), .ref (1)], mk b S)) rfl rfl ?_
    obtain ⟨S1, hq, hf⟩ := bndV_ex hf
    refine mcall (kd := 0) (vs := [.ref (1), .int (2 : Int32)]) (rest := []) (r := none) (h' := mk b S1) (ok' := true) C lkRX4_79 (qX4_refuse hq) (kX4_readHouse _ (List.mem_of_getElem? (i := 6) rfl)).1 ⟨_, _, rfl, rfl, Nat.le_of_ble_eq_true rfl, _, _, rfl, rfl, rfl⟩ (Nat.le_of_ble_eq_true rfl) (Nat.le_of_ble_eq_true rfl) (Nat.le_refl _) (Nat.le_refl _) (Nat.le_of_ble_eq_true rfl) ?_
    exact mfor (L' := [.ref (1), .ref (3), .retAddr 0, .retAddr 0, .retAddr 0, .retAddr 0, .retAddr 0, .retAddr 0]) ⟨Or.inr rfl, Or.inr rfl, Or.inl rfl, Or.inl rfl, Or.inl rfl, Or.inl rfl, Or.inl rfl, Or.inl rfl, trivial⟩ (bX4_readHouse_13_3 C hr hk hf true)
theorem qX4_readHouse_3 {b : Bool} {S S' : mT} (hf : fX4_readHouse 3 S = some S') : mOk l mX4_readHouse 9 [.ref (1), .ref (3)] b S none S' :=
  gMet (by decide) (Nat.le_of_ble_eq_true rfl) rfl (Nat.le_of_ble_eq_true rfl) (fun p e s m args below meth c G C hr hk => bX4_readHouse_0_3 C hr hk hf true)
theorem bX4_readHouse_87_19 (C : mCx p (mR 9) s m args meth c G cX4_readHouse RX4 8 false 233 54500 233 54500) (hr : meth.sig.returnType = none) (hk : meth.locks = false) {b : Bool} {S' : mT} {v2 : Int64} {v4 : Int32} {v5 : Int32} {v6 : Int32} {s0 : Int32} {S : mT} (hf : fX4_readHouse_87 19 v2 v4 v5 v6 s0 S = some S') (ok : Bool) : mW p l e (mR 9) s m args below meth c G 8 233 54500 (mQ below G args s b S' none) (ok, 87, [.retAddr 0, .ref (19), .long v2, .retAddr 0, .int v4, .int v5, .int v6, .retAddr 0], [.int s0], mk b S) := by
  unfold fX4_readHouse_87 at hf
  refine msegT C kX4_readHouse 44 7 (g := (true, 99, [.retAddr 0, .ref (19), .long v2, .retAddr 0, .int v4, .int v5, .int v6, .int s0], [.int s0, .int v6, .int v5, .int v4, .long v2, .ref (19)], mk b S)) rfl rfl ?_
  obtain ⟨S17, hq, hf⟩ := bndV_ex hf
  refine mcall (kd := 0) (vs := [.ref (19), .long v2, .int v4, .int v5, .int v6, .int s0]) (rest := []) (r := none) (h' := mk b S17) (ok' := true) C lkRX4_98 (qX8_addHouse_19 hq) (kX4_readHouse _ (List.mem_of_getElem? (i := 51) rfl)).1 ⟨_, _, rfl, rfl, Nat.le_of_ble_eq_true rfl, _, _, rfl, rfl, rfl⟩ (Nat.le_of_ble_eq_true rfl) (Nat.le_of_ble_eq_true rfl) (Nat.le_refl _) (Nat.le_refl _) (Nat.le_of_ble_eq_true rfl) ?_
  cases hf
  exact gret_v C hr hk (kX4_readHouse _ (List.mem_of_getElem? (i := 52) rfl)).1
theorem bX4_readHouse_64_19 (C : mCx p (mR 9) s m args meth c G cX4_readHouse RX4 8 false 233 54500 233 54500) (hr : meth.sig.returnType = none) (hk : meth.locks = false) {b : Bool} {S' : mT} {v2 : Int64} {v4 : Int32} {v5 : Int32} {s0 : Int32} {S : mT} (hf : fX4_readHouse_64 19 v2 v4 v5 s0 S = some S') (ok : Bool) : mW p l e (mR 9) s m args below meth c G 8 233 54500 (mQ below G args s b S' none) (ok, 64, [.ref (1), .ref (19), .long v2, .retAddr 0, .int v4, .int v5, .retAddr 0, .retAddr 0], [.int s0], mk b S) := by
  unfold fX4_readHouse_64 at hf
  refine msegT C kX4_readHouse 33 3 (g := (true, 69, [.ref (1), .ref (19), .long v2, .retAddr 0, .int v4, .int v5, .int s0, .retAddr 0], [.ref 900004, .ref (1)], mk b S)) rfl rfl ?_
  obtain ⟨x14, S13, hq, hf⟩ := bndC_ex hf
  refine mcall (kd := 0) (vs := [.ref (1), .ref 900004]) (rest := []) (r := (some (.int x14))) (h' := mk b S13) (ok' := true) C lkRX4_38 (qX4_isWord_900004 hq) (kX4_readHouse _ (List.mem_of_getElem? (i := 36) rfl)).1 ⟨_, _, rfl, rfl, Nat.le_of_ble_eq_true rfl, _, _, rfl, rfl, rfl⟩ (Nat.le_of_ble_eq_true rfl) (Nat.le_of_ble_eq_true rfl) (Nat.le_refl _) (Nat.le_refl _) (Nat.le_of_ble_eq_true rfl) ?_
  refine msegT C kX4_readHouse 37 1 (g := (true, (if x14 = 0 then 86 else 75), [.ref (1), .ref (19), .long v2, .retAddr 0, .int v4, .int v5, .int s0, .retAddr 0], [], mk b S13)) rfl rfl ?_
  by_cases hc : x14 = 0
  · rw [if_pos hc] at hf ⊢
    refine msegT C kX4_readHouse 43 1 (g := (true, 87, [.ref (1), .ref (19), .long v2, .retAddr 0, .int v4, .int v5, .int s0, .retAddr 0], [.int (0 : Int32)], mk b S13)) rfl rfl ?_
    exact mfor (L' := [.retAddr 0, .ref (19), .long v2, .retAddr 0, .int v4, .int v5, .int s0, .retAddr 0]) ⟨Or.inl rfl, Or.inr rfl, Or.inr rfl, Or.inl rfl, Or.inr rfl, Or.inr rfl, Or.inr rfl, Or.inl rfl, trivial⟩ (bX4_readHouse_87_19 C hr hk hf true)
  · rw [if_neg hc] at hf ⊢
    refine msegT C kX4_readHouse 38 3 (g := (true, 80, [.ref (1), .ref (19), .long v2, .retAddr 0, .int v4, .int v5, .int s0, .retAddr 0], [.int (9 : Int32), .ref 900004, .ref (1)], mk b S13)) rfl rfl ?_
    obtain ⟨x16, S15, hq, hf⟩ := bndC_ex hf
    refine mcall (kd := 0) (vs := [.ref (1), .ref 900004, .int (9 : Int32)]) (rest := []) (r := (some (.int x16))) (h' := mk b S15) (ok' := true) C lkRX4_88 (qX4_takeTold_900004 hq) (kX4_readHouse _ (List.mem_of_getElem? (i := 41) rfl)).1 ⟨_, _, rfl, rfl, Nat.le_of_ble_eq_true rfl, _, _, rfl, rfl, rfl⟩ (Nat.le_of_ble_eq_true rfl) (Nat.le_of_ble_eq_true rfl) (Nat.le_refl _) (Nat.le_refl _) (Nat.le_of_ble_eq_true rfl) ?_
    refine msegT C kX4_readHouse 42 1 (g := (true, 87, [.ref (1), .ref (19), .long v2, .retAddr 0, .int v4, .int v5, .int s0, .retAddr 0], [.int x16], mk b S15)) rfl rfl ?_
    exact mfor (L' := [.retAddr 0, .ref (19), .long v2, .retAddr 0, .int v4, .int v5, .int s0, .retAddr 0]) ⟨Or.inl rfl, Or.inr rfl, Or.inr rfl, Or.inl rfl, Or.inr rfl, Or.inr rfl, Or.inr rfl, Or.inl rfl, trivial⟩ (bX4_readHouse_87_19 C hr hk hf true)
theorem bX4_readHouse_13_19 (C : mCx p (mR 9) s m args meth c G cX4_readHouse RX4 8 false 233 54500 233 54500) (hr : meth.sig.returnType = none) (hk : meth.locks = false) {b : Bool} {S' : mT} {S : mT} (hf : fX4_readHouse_13 19 S = some S') (ok : Bool) : mW p l e (mR 9) s m args below meth c G 8 233 54500 (mQ below G args s b S' none) (ok, 13, [.ref (1), .ref (19), .retAddr 0, .retAddr 0, .retAddr 0, .retAddr 0, .retAddr 0, .retAddr 0], [], mk b S) := by
  unfold fX4_readHouse_13 at hf
  refine msegT C kX4_readHouse 7 1 (g := (true, 14, [.ref (1), .ref (19), .retAddr 0, .retAddr 0, .retAddr 0, .retAddr 0, .retAddr 0, .retAddr 0], [.ref (1)], mk b S)) rfl rfl ?_
  obtain ⟨S2, hq, hf⟩ := bndV_ex hf
  refine mcall (kd := 0) (vs := [.ref (1)]) (rest := []) (r := none) (h' := mk b S2) (ok' := true) C lkRX4_30 (qX4_advance hq) (kX4_readHouse _ (List.mem_of_getElem? (i := 8) rfl)).1 ⟨_, _, rfl, rfl, Nat.le_of_ble_eq_true rfl, _, _, rfl, rfl, rfl⟩ (Nat.le_of_ble_eq_true rfl) (Nat.le_of_ble_eq_true rfl) (Nat.le_refl _) (Nat.le_refl _) (Nat.le_of_ble_eq_true rfl) ?_
  refine msegT C kX4_readHouse 9 2 (g := (true, 19, [.ref (1), .ref (19), .retAddr 0, .retAddr 0, .retAddr 0, .retAddr 0, .retAddr 0, .retAddr 0], [.ref (19), .ref (1)], mk b S2)) rfl rfl ?_
  obtain ⟨x4, S3, hq, hf⟩ := bndC_ex hf
  refine mcall (kd := 0) (vs := [.ref (1), .ref (19)]) (rest := []) (r := (some (.long x4))) (h' := mk b S3) (ok' := true) C lkRX4_83 (qX4_takeName_19 hq) (kX4_readHouse _ (List.mem_of_getElem? (i := 11) rfl)).1 ⟨_, _, rfl, rfl, Nat.le_of_ble_eq_true rfl, _, _, rfl, rfl, rfl⟩ (Nat.le_of_ble_eq_true rfl) (Nat.le_of_ble_eq_true rfl) (Nat.le_refl _) (Nat.le_refl _) (Nat.le_of_ble_eq_true rfl) ?_
  refine msegT C kX4_readHouse 12 4 (g := (true, 28, [.ref (1), .ref (19), .long x4, .retAddr 0, .retAddr 0, .retAddr 0, .retAddr 0, .retAddr 0], [.int (60 : Int32), .ref 900001, .ref (1)], mk b S3)) rfl rfl ?_
  obtain ⟨x6, S5, hq, hf⟩ := bndC_ex hf
  refine mcall (kd := 0) (vs := [.ref (1), .ref 900001, .int (60 : Int32)]) (rest := []) (r := (some (.int x6))) (h' := mk b S5) (ok' := true) C lkRX4_88 (qX4_takeTold_900001 hq) (kX4_readHouse _ (List.mem_of_getElem? (i := 16) rfl)).1 ⟨_, _, rfl, rfl, Nat.le_of_ble_eq_true rfl, _, _, rfl, rfl, rfl⟩ (Nat.le_of_ble_eq_true rfl) (Nat.le_of_ble_eq_true rfl) (Nat.le_refl _) (Nat.le_refl _) (Nat.le_of_ble_eq_true rfl) ?_
  refine msegT C kX4_readHouse 17 4 (g := (true, 38, [.ref (1), .ref (19), .long x4, .retAddr 0, .int x6, .retAddr 0, .retAddr 0, .retAddr 0], [.int (7 : Int32), .ref 900002, .ref (1)], mk b S5)) rfl rfl ?_
  obtain ⟨x8, S7, hq, hf⟩ := bndC_ex hf
  refine mcall (kd := 0) (vs := [.ref (1), .ref 900002, .int (7 : Int32)]) (rest := []) (r := (some (.int x8))) (h' := mk b S7) (ok' := true) C lkRX4_88 (qX4_takeTold_900002 hq) (kX4_readHouse _ (List.mem_of_getElem? (i := 21) rfl)).1 ⟨_, _, rfl, rfl, Nat.le_of_ble_eq_true rfl, _, _, rfl, rfl, rfl⟩ (Nat.le_of_ble_eq_true rfl) (Nat.le_of_ble_eq_true rfl) (Nat.le_refl _) (Nat.le_refl _) (Nat.le_of_ble_eq_true rfl) ?_
  refine msegT C kX4_readHouse 22 3 (g := (true, 46, [.ref (1), .ref (19), .long x4, .retAddr 0, .int x6, .int x8, .retAddr 0, .retAddr 0], [.ref 900003, .ref (1)], mk b S7)) rfl rfl ?_
  obtain ⟨x10, S9, hq, hf⟩ := bndC_ex hf
  refine mcall (kd := 0) (vs := [.ref (1), .ref 900003]) (rest := []) (r := (some (.int x10))) (h' := mk b S9) (ok' := true) C lkRX4_38 (qX4_isWord_900003 hq) (kX4_readHouse _ (List.mem_of_getElem? (i := 25) rfl)).1 ⟨_, _, rfl, rfl, Nat.le_of_ble_eq_true rfl, _, _, rfl, rfl, rfl⟩ (Nat.le_of_ble_eq_true rfl) (Nat.le_of_ble_eq_true rfl) (Nat.le_refl _) (Nat.le_refl _) (Nat.le_of_ble_eq_true rfl) ?_
  refine msegT C kX4_readHouse 26 1 (g := (true, (if x10 = 0 then 63 else 52), [.ref (1), .ref (19), .long x4, .retAddr 0, .int x6, .int x8, .retAddr 0, .retAddr 0], [], mk b S9)) rfl rfl ?_
  by_cases hc : x10 = 0
  · rw [if_pos hc] at hf ⊢
    refine msegT C kX4_readHouse 32 1 (g := (true, 64, [.ref (1), .ref (19), .long x4, .retAddr 0, .int x6, .int x8, .retAddr 0, .retAddr 0], [.int (0 : Int32)], mk b S9)) rfl rfl ?_
    exact mfor (L' := [.ref (1), .ref (19), .long x4, .retAddr 0, .int x6, .int x8, .retAddr 0, .retAddr 0]) ⟨Or.inr rfl, Or.inr rfl, Or.inr rfl, Or.inl rfl, Or.inr rfl, Or.inr rfl, Or.inl rfl, Or.inl rfl, trivial⟩ (bX4_readHouse_64_19 C hr hk hf true)
  · rw [if_neg hc] at hf ⊢
    refine msegT C kX4_readHouse 27 3 (g := (true, 57, [.ref (1), .ref (19), .long x4, .retAddr 0, .int x6, .int x8, .retAddr 0, .retAddr 0], [.int (9 : Int32), .ref 900003, .ref (1)], mk b S9)) rfl rfl ?_
    obtain ⟨x12, S11, hq, hf⟩ := bndC_ex hf
    refine mcall (kd := 0) (vs := [.ref (1), .ref 900003, .int (9 : Int32)]) (rest := []) (r := (some (.int x12))) (h' := mk b S11) (ok' := true) C lkRX4_88 (qX4_takeTold_900003 hq) (kX4_readHouse _ (List.mem_of_getElem? (i := 30) rfl)).1 ⟨_, _, rfl, rfl, Nat.le_of_ble_eq_true rfl, _, _, rfl, rfl, rfl⟩ (Nat.le_of_ble_eq_true rfl) (Nat.le_of_ble_eq_true rfl) (Nat.le_refl _) (Nat.le_refl _) (Nat.le_of_ble_eq_true rfl) ?_
    refine msegT C kX4_readHouse 31 1 (g := (true, 64, [.ref (1), .ref (19), .long x4, .retAddr 0, .int x6, .int x8, .retAddr 0, .retAddr 0], [.int x12], mk b S11)) rfl rfl ?_
    exact mfor (L' := [.ref (1), .ref (19), .long x4, .retAddr 0, .int x6, .int x8, .retAddr 0, .retAddr 0]) ⟨Or.inr rfl, Or.inr rfl, Or.inr rfl, Or.inl rfl, Or.inr rfl, Or.inr rfl, Or.inl rfl, Or.inl rfl, trivial⟩ (bX4_readHouse_64_19 C hr hk hf true)
theorem bX4_readHouse_0_19 (C : mCx p (mR 9) s m args meth c G cX4_readHouse RX4 8 false 233 54500 233 54500) (hr : meth.sig.returnType = none) (hk : meth.locks = false) {b : Bool} {S' : mT} {S : mT} (hf : fX4_readHouse 19 S = some S') (ok : Bool) : mW p l e (mR 9) s m args below meth c G 8 233 54500 (mQ below G args s b S' none) (ok, 0, [.ref (1), .ref (19), .retAddr 0, .retAddr 0, .retAddr 0, .retAddr 0, .retAddr 0, .retAddr 0], [], mk b S) := by
  unfold fX4_readHouse at hf
  obtain ⟨hok, hf⟩ := grd_ex hf
  refine msegT C kX4_readHouse 0 4 (g := ((kO 19 8 && true), (if (S.1 19 9) < (5 : Int32) then 13 else 8), [.ref (1), .ref (19), .retAddr 0, .retAddr 0, .retAddr 0, .retAddr 0, .retAddr 0, .retAddr 0], [], mk b S)) rfl hok ?_
  by_cases hc : (S.1 19 9) < (5 : Int32)
  · rw [if_pos hc] at hf ⊢
    exact mfor (L' := [.ref (1), .ref (19), .retAddr 0, .retAddr 0, .retAddr 0, .retAddr 0, .retAddr 0, .retAddr 0]) ⟨Or.inr rfl, Or.inr rfl, Or.inl rfl, Or.inl rfl, Or.inl rfl, Or.inl rfl, Or.inl rfl, Or.inl rfl, trivial⟩ (bX4_readHouse_13_19 C hr hk hf true)
  · rw [if_neg hc] at hf ⊢
    refine msegT C kX4_readHouse 4 2 (g := (true, 10, [.ref (1), .ref (19), .retAddr 0, .retAddr 0, .retAddr 0, .retAddr 0, .retAddr 0, .retAddr 0], [.int (2 : Int32), .ref (1)], mk b S)) rfl rfl ?_
    obtain ⟨S1, hq, hf⟩ := bndV_ex hf
    refine mcall (kd := 0) (vs := [.ref (1), .int (2 : Int32)]) (rest := []) (r := none) (h' := mk b S1) (ok' := true) C lkRX4_79 (qX4_refuse hq) (kX4_readHouse _ (List.mem_of_getElem? (i := 6) rfl)).1 ⟨_, _, rfl, rfl, Nat.le_of_ble_eq_true rfl, _, _, rfl, rfl, rfl⟩ (Nat.le_of_ble_eq_true rfl) (Nat.le_of_ble_eq_true rfl) (Nat.le_refl _) (Nat.le_refl _) (Nat.le_of_ble_eq_true rfl) ?_
    exact mfor (L' := [.ref (1), .ref (19), .retAddr 0, .retAddr 0, .retAddr 0, .retAddr 0, .retAddr 0, .retAddr 0]) ⟨Or.inr rfl, Or.inr rfl, Or.inl rfl, Or.inl rfl, Or.inl rfl, Or.inl rfl, Or.inl rfl, Or.inl rfl, trivial⟩ (bX4_readHouse_13_19 C hr hk hf true)
theorem qX4_readHouse_19 {b : Bool} {S S' : mT} (hf : fX4_readHouse 19 S = some S') : mOk l mX4_readHouse 9 [.ref (1), .ref (19)] b S none S' :=
  gMet (by decide) (Nat.le_of_ble_eq_true rfl) rfl (Nat.le_of_ble_eq_true rfl) (fun p e s m args below meth c G C hr hk => bX4_readHouse_0_19 C hr hk hf true)
theorem bX4_isSign_21 (C : mCx p (mR 1) s m args meth c G cX4_isSign RX4 2 false 233 54500 233 54500) (hr : meth.sig.returnType = (some .boolean)) (hk : meth.locks = false) {b : Bool} {S' : mT} {r : Int32} {s0 : Int32} {S : mT} (hf : fX4_isSign_21 s0 S = some (r, S')) (ok : Bool) : mW p l e (mR 1) s m args below meth c G 2 233 54500 (mQ below G args s b S' (some (.int r))) (ok, 21, [.retAddr 0, .retAddr 0], [.int s0], mk b S) := by
  unfold fX4_isSign_21 at hf
  obtain ⟨hz, hf⟩ := grd_ex hf
  cases hf
  exact gret_z C hr hk (mFit_nar hz) (kX4_isSign _ (List.mem_of_getElem? (i := 11) rfl)).1
theorem bX4_isSign_20 (C : mCx p (mR 1) s m args meth c G cX4_isSign RX4 2 false 233 54500 233 54500) (hr : meth.sig.returnType = (some .boolean)) (hk : meth.locks = false) {b : Bool} {S' : mT} {r : Int32} {S : mT} (hf : fX4_isSign_20 S = some (r, S')) (ok : Bool) : mW p l e (mR 1) s m args below meth c G 2 233 54500 (mQ below G args s b S' (some (.int r))) (ok, 20, [.retAddr 0, .retAddr 0], [], mk b S) := by
  unfold fX4_isSign_20 at hf
  refine msegT C kX4_isSign 10 1 (g := (true, 21, [.retAddr 0, .retAddr 0], [.int (0 : Int32)], mk b S)) rfl rfl ?_
  exact mfor (L' := [.retAddr 0, .retAddr 0]) ⟨Or.inl rfl, Or.inl rfl, trivial⟩ (bX4_isSign_21 C hr hk hf true)
theorem bX4_isSign_0 (C : mCx p (mR 1) s m args meth c G cX4_isSign RX4 2 false 233 54500 233 54500) (hr : meth.sig.returnType = (some .boolean)) (hk : meth.locks = false) {b : Bool} {S' : mT} {r : Int32} {v1 : Int32} {S : mT} (hf : fX4_isSign v1 S = some (r, S')) (ok : Bool) : mW p l e (mR 1) s m args below meth c G 2 233 54500 (mQ below G args s b S' (some (.int r))) (ok, 0, [.ref (1), .int v1], [], mk b S) := by
  unfold fX4_isSign at hf
  obtain ⟨hok, hf⟩ := grd_ex hf
  refine msegT C kX4_isSign 0 4 (g := ((kO 1 4 && true), (if (S.1 1 4) = (3 : Int32) then 8 else 20), [.ref (1), .int v1], [], mk b S)) rfl hok ?_
  by_cases hc : (S.1 1 4) = (3 : Int32)
  · rw [if_pos hc] at hf ⊢
    obtain ⟨hok, hf⟩ := grd_ex hf
    refine msegT C kX4_isSign 4 4 (g := ((kO 1 4 && true), (if (S.1 1 9) = v1 then 16 else 20), [.ref (1), .int v1], [], mk b S)) rfl hok ?_
    by_cases hc : (S.1 1 9) = v1
    · rw [if_pos hc] at hf ⊢
      refine msegT C kX4_isSign 8 2 (g := (true, 21, [.ref (1), .int v1], [.int (1 : Int32)], mk b S)) rfl rfl ?_
      exact mfor (L' := [.retAddr 0, .retAddr 0]) ⟨Or.inl rfl, Or.inl rfl, trivial⟩ (bX4_isSign_21 C hr hk hf true)
    · rw [if_neg hc] at hf ⊢
      exact mfor (L' := [.retAddr 0, .retAddr 0]) ⟨Or.inl rfl, Or.inl rfl, trivial⟩ (bX4_isSign_20 C hr hk hf true)
  · rw [if_neg hc] at hf ⊢
    exact mfor (L' := [.retAddr 0, .retAddr 0]) ⟨Or.inl rfl, Or.inl rfl, trivial⟩ (bX4_isSign_20 C hr hk hf true)
theorem qX4_isSign {b : Bool} {v1 : Int32} {S S' : mT} {r : Int32} (hf : fX4_isSign v1 S = some (r, S')) : mOk l mX4_isSign 1 [.ref (1), .int v1] b S (some (.int r)) S' :=
  gMet (by decide) (Nat.le_of_ble_eq_true rfl) rfl (Nat.le_of_ble_eq_true rfl) (fun p e s m args below meth c G C hr hk => bX4_isSign_0 C hr hk hf true)
theorem bX4_takeSign_13 (C : mCx p (mR 4) s m args meth c G cX4_takeSign RX4 2 false 233 54500 233 54500) (hr : meth.sig.returnType = none) (hk : meth.locks = false) {b : Bool} {S' : mT} {S : mT} (hf : fX4_takeSign_13 S = some S') (ok : Bool) : mW p l e (mR 4) s m args below meth c G 2 233 54500 (mQ below G args s b S' none) (ok, 13, [.ref (1), .retAddr 0], [], mk b S) := by
  unfold fX4_takeSign_13 at hf
  refine msegT C kX4_takeSign 7 1 (g := (true, 14, [.ref (1), .retAddr 0], [.ref (1)], mk b S)) rfl rfl ?_
  obtain ⟨S4, hq, hf⟩ := bndV_ex hf
  refine mcall (kd := 0) (vs := [.ref (1)]) (rest := []) (r := none) (h' := mk b S4) (ok' := true) C lkRX4_30 (qX4_advance hq) (kX4_takeSign _ (List.mem_of_getElem? (i := 8) rfl)).1 ⟨_, _, rfl, rfl, Nat.le_of_ble_eq_true rfl, _, _, rfl, rfl, rfl⟩ (Nat.le_of_ble_eq_true rfl) (Nat.le_of_ble_eq_true rfl) (Nat.le_refl _) (Nat.le_refl _) (Nat.le_of_ble_eq_true rfl) ?_
  cases hf
  exact gret_v C hr hk (kX4_takeSign _ (List.mem_of_getElem? (i := 9) rfl)).1
theorem bX4_takeSign_0 (C : mCx p (mR 4) s m args meth c G cX4_takeSign RX4 2 false 233 54500 233 54500) (hr : meth.sig.returnType = none) (hk : meth.locks = false) {b : Bool} {S' : mT} {v1 : Int32} {S : mT} (hf : fX4_takeSign v1 S = some S') (ok : Bool) : mW p l e (mR 4) s m args below meth c G 2 233 54500 (mQ below G args s b S' none) (ok, 0, [.ref (1), .int v1], [], mk b S) := by
  unfold fX4_takeSign at hf
  refine msegT C kX4_takeSign 0 2 (g := (true, 2, [.ref (1), .int v1], [.int v1, .ref (1)], mk b S)) rfl rfl ?_
  obtain ⟨x2, S1, hq, hf⟩ := bndC_ex hf
  refine mcall (kd := 0) (vs := [.ref (1), .int v1]) (rest := []) (r := (some (.int x2))) (h' := mk b S1) (ok' := true) C lkRX4_135 (qX4_isSign hq) (kX4_takeSign _ (List.mem_of_getElem? (i := 2) rfl)).1 ⟨_, _, rfl, rfl, Nat.le_of_ble_eq_true rfl, _, _, rfl, rfl, rfl⟩ (Nat.le_of_ble_eq_true rfl) (Nat.le_of_ble_eq_true rfl) (Nat.le_refl _) (Nat.le_refl _) (Nat.le_of_ble_eq_true rfl) ?_
  refine msegT C kX4_takeSign 3 1 (g := (true, (if x2 = 0 then 8 else 13), [.ref (1), .int v1], [], mk b S1)) rfl rfl ?_
  by_cases hc : x2 = 0
  · rw [if_pos hc] at hf ⊢
    refine msegT C kX4_takeSign 4 2 (g := (true, 10, [.ref (1), .int v1], [.int (2 : Int32), .ref (1)], mk b S1)) rfl rfl ?_
    obtain ⟨S3, hq, hf⟩ := bndV_ex hf
    refine mcall (kd := 0) (vs := [.ref (1), .int (2 : Int32)]) (rest := []) (r := none) (h' := mk b S3) (ok' := true) C lkRX4_79 (qX4_refuse hq) (kX4_takeSign _ (List.mem_of_getElem? (i := 6) rfl)).1 ⟨_, _, rfl, rfl, Nat.le_of_ble_eq_true rfl, _, _, rfl, rfl, rfl⟩ (Nat.le_of_ble_eq_true rfl) (Nat.le_of_ble_eq_true rfl) (Nat.le_refl _) (Nat.le_refl _) (Nat.le_of_ble_eq_true rfl) ?_
    exact mfor (L' := [.ref (1), .retAddr 0]) ⟨Or.inr rfl, Or.inl rfl, trivial⟩ (bX4_takeSign_13 C hr hk hf true)
  · rw [if_neg hc] at hf ⊢
    exact mfor (L' := [.ref (1), .retAddr 0]) ⟨Or.inr rfl, Or.inl rfl, trivial⟩ (bX4_takeSign_13 C hr hk hf true)
theorem qX4_takeSign {b : Bool} {v1 : Int32} {S S' : mT} (hf : fX4_takeSign v1 S = some S') : mOk l mX4_takeSign 4 [.ref (1), .int v1] b S none S' :=
  gMet (by decide) (Nat.le_of_ble_eq_true rfl) rfl (Nat.le_of_ble_eq_true rfl) (fun p e s m args below meth c G C hr hk => bX4_takeSign_0 C hr hk hf true)
theorem bX4_valueNamed_69 (C : mCx p (mR 7) s m args meth c G cX4_valueNamed RX4 1 false 233 54500 233 54500) (hr : meth.sig.returnType = (some .int)) (hk : meth.locks = false) {b : Bool} {S' : mT} {r : Int32} {s0 : Int32} {S : mT} (hf : fX4_valueNamed_69 s0 S = some (r, S')) (ok : Bool) : mW p l e (mR 7) s m args below meth c G 1 233 54500 (mQ below G args s b S' (some (.int r))) (ok, 69, [.retAddr 0], [.int s0], mk b S) := by
  unfold fX4_valueNamed_69 at hf
  cases hf
  exact gret_i C hr hk (kX4_valueNamed _ (List.mem_of_getElem? (i := 37) rfl)).1
theorem bX4_valueNamed_0 (C : mCx p (mR 7) s m args meth c G cX4_valueNamed RX4 1 false 233 54500 233 54500) (hr : meth.sig.returnType = (some .int)) (hk : meth.locks = false) {b : Bool} {S' : mT} {r : Int32} {S : mT} (hf : fX4_valueNamed S = some (r, S')) (ok : Bool) : mW p l e (mR 7) s m args below meth c G 1 233 54500 (mQ below G args s b S' (some (.int r))) (ok, 0, [.ref (1)], [], mk b S) := by
  unfold fX4_valueNamed at hf
  refine msegT C kX4_valueNamed 0 2 (g := (true, 3, [.ref (1)], [.ref 900002, .ref (1)], mk b S)) rfl rfl ?_
  obtain ⟨x2, S1, hq, hf⟩ := bndC_ex hf
  refine mcall (kd := 0) (vs := [.ref (1), .ref 900002]) (rest := []) (r := (some (.int x2))) (h' := mk b S1) (ok' := true) C lkRX4_38 (qX4_isWord_900002 hq) (kX4_valueNamed _ (List.mem_of_getElem? (i := 2) rfl)).1 ⟨_, _, rfl, rfl, Nat.le_of_ble_eq_true rfl, _, _, rfl, rfl, rfl⟩ (Nat.le_of_ble_eq_true rfl) (Nat.le_of_ble_eq_true rfl) (Nat.le_refl _) (Nat.le_refl _) (Nat.le_of_ble_eq_true rfl) ?_
  refine msegT C kX4_valueNamed 3 1 (g := (true, (if x2 = 0 then 11 else 9), [.ref (1)], [], mk b S1)) rfl rfl ?_
  by_cases hc : x2 = 0
  · rw [if_pos hc] at hf ⊢
    refine msegT C kX4_valueNamed 6 2 (g := (true, 14, [.ref (1)], [.ref 900012, .ref (1)], mk b S1)) rfl rfl ?_
    obtain ⟨x4, S3, hq, hf⟩ := bndC_ex hf
    refine mcall (kd := 0) (vs := [.ref (1), .ref 900012]) (rest := []) (r := (some (.int x4))) (h' := mk b S3) (ok' := true) C lkRX4_38 (qX4_isWord_900012 hq) (kX4_valueNamed _ (List.mem_of_getElem? (i := 8) rfl)).1 ⟨_, _, rfl, rfl, Nat.le_of_ble_eq_true rfl, _, _, rfl, rfl, rfl⟩ (Nat.le_of_ble_eq_true rfl) (Nat.le_of_ble_eq_true rfl) (Nat.le_refl _) (Nat.le_refl _) (Nat.le_of_ble_eq_true rfl) ?_
    refine msegT C kX4_valueNamed 9 1 (g := (true, (if x4 = 0 then 22 else 20), [.ref (1)], [], mk b S3)) rfl rfl ?_
    by_cases hc : x4 = 0
    · rw [if_pos hc] at hf ⊢
      refine msegT C kX4_valueNamed 12 2 (g := (true, 25, [.ref (1)], [.ref 900003, .ref (1)], mk b S3)) rfl rfl ?_
      obtain ⟨x6, S5, hq, hf⟩ := bndC_ex hf
      refine mcall (kd := 0) (vs := [.ref (1), .ref 900003]) (rest := []) (r := (some (.int x6))) (h' := mk b S5) (ok' := true) C lkRX4_38 (qX4_isWord_900003 hq) (kX4_valueNamed _ (List.mem_of_getElem? (i := 14) rfl)).1 ⟨_, _, rfl, rfl, Nat.le_of_ble_eq_true rfl, _, _, rfl, rfl, rfl⟩ (Nat.le_of_ble_eq_true rfl) (Nat.le_of_ble_eq_true rfl) (Nat.le_refl _) (Nat.le_refl _) (Nat.le_of_ble_eq_true rfl) ?_
      refine msegT C kX4_valueNamed 15 1 (g := (true, (if x6 = 0 then 33 else 31), [.ref (1)], [], mk b S5)) rfl rfl ?_
      by_cases hc : x6 = 0
      · rw [if_pos hc] at hf ⊢
        refine msegT C kX4_valueNamed 18 2 (g := (true, 36, [.ref (1)], [.ref 900004, .ref (1)], mk b S5)) rfl rfl ?_
        obtain ⟨x8, S7, hq, hf⟩ := bndC_ex hf
        refine mcall (kd := 0) (vs := [.ref (1), .ref 900004]) (rest := []) (r := (some (.int x8))) (h' := mk b S7) (ok' := true) C lkRX4_38 (qX4_isWord_900004 hq) (kX4_valueNamed _ (List.mem_of_getElem? (i := 20) rfl)).1 ⟨_, _, rfl, rfl, Nat.le_of_ble_eq_true rfl, _, _, rfl, rfl, rfl⟩ (Nat.le_of_ble_eq_true rfl) (Nat.le_of_ble_eq_true rfl) (Nat.le_refl _) (Nat.le_refl _) (Nat.le_of_ble_eq_true rfl) ?_
        refine msegT C kX4_valueNamed 21 1 (g := (true, (if x8 = 0 then 44 else 42), [.ref (1)], [], mk b S7)) rfl rfl ?_
        by_cases hc : x8 = 0
        · rw [if_pos hc] at hf ⊢
          refine msegT C kX4_valueNamed 24 2 (g := (true, 47, [.ref (1)], [.ref 900013, .ref (1)], mk b S7)) rfl rfl ?_
          obtain ⟨x10, S9, hq, hf⟩ := bndC_ex hf
          refine mcall (kd := 0) (vs := [.ref (1), .ref 900013]) (rest := []) (r := (some (.int x10))) (h' := mk b S9) (ok' := true) C lkRX4_38 (qX4_isWord_900013 hq) (kX4_valueNamed _ (List.mem_of_getElem? (i := 26) rfl)).1 ⟨_, _, rfl, rfl, Nat.le_of_ble_eq_true rfl, _, _, rfl, rfl, rfl⟩ (Nat.le_of_ble_eq_true rfl) (Nat.le_of_ble_eq_true rfl) (Nat.le_refl _) (Nat.le_refl _) (Nat.le_of_ble_eq_true rfl) ?_
          refine msegT C kX4_valueNamed 27 1 (g := (true, (if x10 = 0 then 55 else 53), [.ref (1)], [], mk b S9)) rfl rfl ?_
          by_cases hc : x10 = 0
          · rw [if_pos hc] at hf ⊢
            refine msegT C kX4_valueNamed 30 2 (g := (true, 58, [.ref (1)], [.ref 900014, .ref (1)], mk b S9)) rfl rfl ?_
            obtain ⟨x12, S11, hq, hf⟩ := bndC_ex hf
            refine mcall (kd := 0) (vs := [.ref (1), .ref 900014]) (rest := []) (r := (some (.int x12))) (h' := mk b S11) (ok' := true) C lkRX4_38 (qX4_isWord_900014 hq) (kX4_valueNamed _ (List.mem_of_getElem? (i := 32) rfl)).1 ⟨_, _, rfl, rfl, Nat.le_of_ble_eq_true rfl, _, _, rfl, rfl, rfl⟩ (Nat.le_of_ble_eq_true rfl) (Nat.le_of_ble_eq_true rfl) (Nat.le_refl _) (Nat.le_refl _) (Nat.le_of_ble_eq_true rfl) ?_
            refine msegT C kX4_valueNamed 33 1 (g := (true, (if x12 = 0 then 68 else 64), [.ref (1)], [], mk b S11)) rfl rfl ?_
            by_cases hc : x12 = 0
            · rw [if_pos hc] at hf ⊢
              refine msegT C kX4_valueNamed 36 1 (g := (true, 69, [.ref (1)], [.int (-1 : Int32)], mk b S11)) rfl rfl ?_
              exact mfor (L' := [.retAddr 0]) ⟨Or.inl rfl, trivial⟩ (bX4_valueNamed_69 C hr hk hf true)
            · rw [if_neg hc] at hf ⊢
              refine msegT C kX4_valueNamed 34 2 (g := (true, 69, [.ref (1)], [.int (5 : Int32)], mk b S11)) rfl rfl ?_
              exact mfor (L' := [.retAddr 0]) ⟨Or.inl rfl, trivial⟩ (bX4_valueNamed_69 C hr hk hf true)
          · rw [if_neg hc] at hf ⊢
            refine msegT C kX4_valueNamed 28 1 (g := (true, 54, [.ref (1)], [.int (4 : Int32)], mk b S9)) rfl rfl ?_
            cases hf
            exact gret_i C hr hk (kX4_valueNamed _ (List.mem_of_getElem? (i := 29) rfl)).1
        · rw [if_neg hc] at hf ⊢
          refine msegT C kX4_valueNamed 22 1 (g := (true, 43, [.ref (1)], [.int (3 : Int32)], mk b S7)) rfl rfl ?_
          cases hf
          exact gret_i C hr hk (kX4_valueNamed _ (List.mem_of_getElem? (i := 23) rfl)).1
      · rw [if_neg hc] at hf ⊢
        refine msegT C kX4_valueNamed 16 1 (g := (true, 32, [.ref (1)], [.int (2 : Int32)], mk b S5)) rfl rfl ?_
        cases hf
        exact gret_i C hr hk (kX4_valueNamed _ (List.mem_of_getElem? (i := 17) rfl)).1
    · rw [if_neg hc] at hf ⊢
      refine msegT C kX4_valueNamed 10 1 (g := (true, 21, [.ref (1)], [.int (1 : Int32)], mk b S3)) rfl rfl ?_
      cases hf
      exact gret_i C hr hk (kX4_valueNamed _ (List.mem_of_getElem? (i := 11) rfl)).1
  · rw [if_neg hc] at hf ⊢
    refine msegT C kX4_valueNamed 4 1 (g := (true, 10, [.ref (1)], [.int (0 : Int32)], mk b S1)) rfl rfl ?_
    cases hf
    exact gret_i C hr hk (kX4_valueNamed _ (List.mem_of_getElem? (i := 5) rfl)).1
theorem qX4_valueNamed {b : Bool} {S S' : mT} {r : Int32} (hf : fX4_valueNamed S = some (r, S')) : mOk l mX4_valueNamed 7 [.ref (1)] b S (some (.int r)) S' :=
  gMet (by decide) (Nat.le_of_ble_eq_true rfl) rfl (Nat.le_of_ble_eq_true rfl) (fun p e s m args below meth c G C hr hk => bX4_valueNamed_0 C hr hk hf true)
theorem bX4_readEither_47_9 {d : Nat} (C : mCx p (mR (8 + (d + 1))) s m args meth c G cX4_readEither RX4 4 false 233 54500 233 54500) (hr : meth.sig.returnType = none) (hk : meth.locks = false) {b : Bool} {self : Nat → Nat → Int32 → mT → Option (mT)} (Hs0 : ∀ {v2 : Int32} {S S' : mT}, self 0 9 v2 S = some S' → mOk l mX4_readEither (8 + d) [.ref 1, .ref 9, .int v2] b S none S') (Hs1 : ∀ {v2 : Int32} {S S' : mT}, self 1 9 v2 S = some S' → mOk l mX4_readBoth (8 + d) [.ref 1, .ref 9, .int v2] b S none S') (Hs2 : ∀ {v2 : Int32} {S S' : mT}, self 2 9 v2 S = some S' → mOk l mX4_readOne (8 + d) [.ref 1, .ref 9, .int v2] b S none S') (Hs3 : ∀ {v2 : Int32} {S S' : mT}, self 3 9 v2 S = some S' → mOk l mX4_readSum (8 + d) [.ref 1, .ref 9, .int v2] b S none S') (Hs4 : ∀ {v2 : Int32} {S S' : mT}, self 4 9 v2 S = some S' → mOk l mX4_readTerm (8 + d) [.ref 1, .ref 9, .int v2] b S none S') (Hs5 : ∀ {v2 : Int32} {S S' : mT}, self 5 9 v2 S = some S' → mOk l mX4_readUnit (8 + d) [.ref 1, .ref 9, .int v2] b S none S') {S' : mT} {S : mT} (hf : fX4_readEither_47 9 self S = some S') (ok : Bool) : mW p l e (mR (8 + (d + 1))) s m args below meth c G 4 233 54500 (mQ below G args s b S' none) (ok, 47, [.retAddr 0, .retAddr 0, .retAddr 0, .retAddr 0], [], mk b S) := by
  unfold fX4_readEither_47 at hf
  cases hf
  exact gret_v C hr hk (kX4_readEither _ (List.mem_of_getElem? (i := 24) rfl)).1
theorem bX4_readEither_8_9 {d : Nat} (C : mCx p (mR (8 + (d + 1))) s m args meth c G cX4_readEither RX4 4 false 233 54500 233 54500) (hr : meth.sig.returnType = none) (hk : meth.locks = false) {b : Bool} {self : Nat → Nat → Int32 → mT → Option (mT)} (Hs0 : ∀ {v2 : Int32} {S S' : mT}, self 0 9 v2 S = some S' → mOk l mX4_readEither (8 + d) [.ref 1, .ref 9, .int v2] b S none S') (Hs1 : ∀ {v2 : Int32} {S S' : mT}, self 1 9 v2 S = some S' → mOk l mX4_readBoth (8 + d) [.ref 1, .ref 9, .int v2] b S none S') (Hs2 : ∀ {v2 : Int32} {S S' : mT}, self 2 9 v2 S = some S' → mOk l mX4_readOne (8 + d) [.ref 1, .ref 9, .int v2] b S none S') (Hs3 : ∀ {v2 : Int32} {S S' : mT}, self 3 9 v2 S = some S' → mOk l mX4_readSum (8 + d) [.ref 1, .ref 9, .int v2] b S none S') (Hs4 : ∀ {v2 : Int32} {S S' : mT}, self 4 9 v2 S = some S' → mOk l mX4_readTerm (8 + d) [.ref 1, .ref 9, .int v2] b S none S') (Hs5 : ∀ {v2 : Int32} {S S' : mT}, self 5 9 v2 S = some S' → mOk l mX4_readUnit (8 + d) [.ref 1, .ref 9, .int v2] b S none S') {S' : mT} : ∀ (k : Nat) (v2 : Int32) (v3 : Int32) (S : mT), fX4_readEither_8 9 self k v2 v3 S = some S' → ∀ ok : Bool, mW p l e (mR (8 + (d + 1))) s m args below meth c G 4 233 54500 (mQ below G args s b S' none) (ok, 8, [.ref (1), .ref (9), .int v2, .int v3], [], mk b S) := by
  intro k
  induction k with
  | zero =>
    intro v2 v3 S hf ok
    cases hf
  | succ k ih =>
    intro v2 v3 S hf ok
    unfold fX4_readEither_8 at hf
    refine msegT C kX4_readEither 6 3 (g := (true, (if (1600 : Int32) ≤ v3 then 47 else 15), [.ref (1), .ref (9), .int v2, .int v3], [], mk b S)) rfl rfl ?_
    by_cases hc : (1600 : Int32) ≤ v3
    · rw [if_pos hc] at hf ⊢
      exact mfor (L' := [.retAddr 0, .retAddr 0, .retAddr 0, .retAddr 0]) ⟨Or.inl rfl, Or.inl rfl, Or.inl rfl, Or.inl rfl, trivial⟩ (bX4_readEither_47_9 C hr hk Hs0 Hs1 Hs2 Hs3 Hs4 Hs5 hf true)
    · rw [if_neg hc] at hf ⊢
      refine msegT C kX4_readEither 9 2 (g := (true, 18, [.ref (1), .ref (9), .int v2, .int v3], [.ref 900009, .ref (1)], mk b S)) rfl rfl ?_
      obtain ⟨x3, S2, hq, hf⟩ := bndC_ex hf
      refine mcall (kd := 0) (vs := [.ref (1), .ref 900009]) (rest := []) (r := (some (.int x3))) (h' := mk b S2) (ok' := true) C lkRX4_38 (qX4_isWord_900009 hq) (kX4_readEither _ (List.mem_of_getElem? (i := 11) rfl)).1 ⟨_, _, rfl, rfl, Nat.le_of_ble_eq_true rfl, _, _, rfl, rfl, rfl⟩ (by show 6 + 1 ≤ 8 + (d + 1); omega) (by show 19 + 4 + 100 * (6) ≤ 100 * (8 + (d + 1)); omega) (Nat.le_refl _) (Nat.le_refl _) (Nat.le_of_ble_eq_true rfl) ?_
      refine msegT C kX4_readEither 12 1 (g := (true, (if x3 = 0 then 47 else 24), [.ref (1), .ref (9), .int v2, .int v3], [], mk b S2)) rfl rfl ?_
      by_cases hc : x3 = 0
      · rw [if_pos hc] at hf ⊢
        exact mfor (L' := [.retAddr 0, .retAddr 0, .retAddr 0, .retAddr 0]) ⟨Or.inl rfl, Or.inl rfl, Or.inl rfl, Or.inl rfl, trivial⟩ (bX4_readEither_47_9 C hr hk Hs0 Hs1 Hs2 Hs3 Hs4 Hs5 hf true)
      · rw [if_neg hc] at hf ⊢
        refine msegT C kX4_readEither 13 1 (g := (true, 25, [.ref (1), .ref (9), .int v2, .int v3], [.ref (1)], mk b S2)) rfl rfl ?_
        obtain ⟨S4, hq, hf⟩ := bndV_ex hf
        refine mcall (kd := 0) (vs := [.ref (1)]) (rest := []) (r := none) (h' := mk b S4) (ok' := true) C lkRX4_30 (qX4_advance hq) (kX4_readEither _ (List.mem_of_getElem? (i := 14) rfl)).1 ⟨_, _, rfl, rfl, Nat.le_of_ble_eq_true rfl, _, _, rfl, rfl, rfl⟩ (by show 3 + 1 ≤ 8 + (d + 1); omega) (by show 19 + 1 + 100 * (3) ≤ 100 * (8 + (d + 1)); omega) (Nat.le_refl _) (Nat.le_refl _) (Nat.le_of_ble_eq_true rfl) ?_
        refine msegT C kX4_readEither 15 3 (g := (true, 31, [.ref (1), .ref (9), .int v2, .int v3], [.int v2, .ref (9), .ref (1)], mk b S4)) rfl rfl ?_
        obtain ⟨S5, hq, hf⟩ := bndV_ex hf
        refine mcall (kd := 0) (vs := [.ref (1), .ref (9), .int v2]) (rest := []) (r := none) (h' := mk b S5) (ok' := true) C lkRX4_117 (Hs1 hq) (kX4_readEither _ (List.mem_of_getElem? (i := 18) rfl)).1 ⟨_, _, rfl, rfl, Nat.le_of_ble_eq_true rfl, _, _, rfl, rfl, rfl⟩ (by show 8 + d + 1 ≤ 8 + (d + 1); omega) (by show 19 + 4 + 100 * (8 + d) ≤ 100 * (8 + (d + 1)); omega) (Nat.le_refl _) (Nat.le_refl _) (Nat.le_of_ble_eq_true rfl) ?_
        refine msegT C kX4_readEither 19 2 (g := (true, 38, [.ref (1), .ref (9), .int v2, .int v3], [.int (20124 : Int32), .ref (9)], mk b S5)) rfl rfl ?_
        obtain ⟨S6, hq, hf⟩ := bndV_ex hf
        refine mcall (kd := 0) (vs := [.ref (9), .int (20124 : Int32)]) (rest := []) (r := none) (h' := mk b S6) (ok' := true) C lkRX4_122 (qX0_add_9 hq) (kX4_readEither _ (List.mem_of_getElem? (i := 21) rfl)).1 ⟨_, _, rfl, rfl, Nat.le_of_ble_eq_true rfl, _, _, rfl, rfl, rfl⟩ (by show 1 + 1 ≤ 8 + (d + 1); omega) (by show 19 + 2 + 100 * (1) ≤ 100 * (8 + (d + 1)); omega) (Nat.le_refl _) (Nat.le_refl _) (Nat.le_of_ble_eq_true rfl) ?_
        refine msegT C kX4_readEither 22 1 (g := (true, 44, [.ref (1), .ref (9), .int v2, .int (v3 + (1 : Int32))], [], mk b S6)) rfl rfl ?_
        obtain ⟨x7, ex7, hf⟩ := bnd_ex hf
        rw [← ex7]
        refine msegT C kX4_readEither 23 1 (g := (true, 8, [.ref (1), .ref (9), .int v2, .int x7], [], mk b S6)) rfl rfl ?_
        exact mfor (L' := [.ref (1), .ref (9), .int v2, .int x7]) ⟨Or.inr rfl, Or.inr rfl, Or.inr rfl, Or.inr rfl, trivial⟩ (ih _ _ _ hf true)
theorem bX4_readEither_0_9 {d : Nat} (C : mCx p (mR (8 + (d + 1))) s m args meth c G cX4_readEither RX4 4 false 233 54500 233 54500) (hr : meth.sig.returnType = none) (hk : meth.locks = false) {b : Bool} {self : Nat → Nat → Int32 → mT → Option (mT)} (Hs0 : ∀ {v2 : Int32} {S S' : mT}, self 0 9 v2 S = some S' → mOk l mX4_readEither (8 + d) [.ref 1, .ref 9, .int v2] b S none S') (Hs1 : ∀ {v2 : Int32} {S S' : mT}, self 1 9 v2 S = some S' → mOk l mX4_readBoth (8 + d) [.ref 1, .ref 9, .int v2] b S none S') (Hs2 : ∀ {v2 : Int32} {S S' : mT}, self 2 9 v2 S = some S' → mOk l mX4_readOne (8 + d) [.ref 1, .ref 9, .int v2] b S none S') (Hs3 : ∀ {v2 : Int32} {S S' : mT}, self 3 9 v2 S = some S' → mOk l mX4_readSum (8 + d) [.ref 1, .ref 9, .int v2] b S none S') (Hs4 : ∀ {v2 : Int32} {S S' : mT}, self 4 9 v2 S = some S' → mOk l mX4_readTerm (8 + d) [.ref 1, .ref 9, .int v2] b S none S') (Hs5 : ∀ {v2 : Int32} {S S' : mT}, self 5 9 v2 S = some S' → mOk l mX4_readUnit (8 + d) [.ref 1, .ref 9, .int v2] b S none S') {S' : mT} {v2 : Int32} {S : mT} (hf : fX4_readEither_0 9 self v2 S = some S') (ok : Bool) : mW p l e (mR (8 + (d + 1))) s m args below meth c G 4 233 54500 (mQ below G args s b S' none) (ok, 0, [.ref (1), .ref (9), .int v2, .retAddr 0], [], mk b S) := by
  unfold fX4_readEither_0 at hf
  refine msegT C kX4_readEither 0 3 (g := (true, 3, [.ref (1), .ref (9), .int v2, .retAddr 0], [.int v2, .ref (9), .ref (1)], mk b S)) rfl rfl ?_
  obtain ⟨S1, hq, hf⟩ := bndV_ex hf
  refine mcall (kd := 0) (vs := [.ref (1), .ref (9), .int v2]) (rest := []) (r := none) (h' := mk b S1) (ok' := true) C lkRX4_117 (Hs1 hq) (kX4_readEither _ (List.mem_of_getElem? (i := 3) rfl)).1 ⟨_, _, rfl, rfl, Nat.le_of_ble_eq_true rfl, _, _, rfl, rfl, rfl⟩ (by show 8 + d + 1 ≤ 8 + (d + 1); omega) (by show 19 + 4 + 100 * (8 + d) ≤ 100 * (8 + (d + 1)); omega) (Nat.le_refl _) (Nat.le_refl _) (Nat.le_of_ble_eq_true rfl) ?_
  refine msegT C kX4_readEither 4 2 (g := (true, 8, [.ref (1), .ref (9), .int v2, .int (0 : Int32)], [], mk b S1)) rfl rfl ?_
  exact mfor (L' := [.ref (1), .ref (9), .int v2, .int (0 : Int32)]) ⟨Or.inr rfl, Or.inr rfl, Or.inr rfl, Or.inr rfl, trivial⟩ (bX4_readEither_8_9 C hr hk Hs0 Hs1 Hs2 Hs3 Hs4 Hs5 _ _ _ _ hf true)
theorem bX4_readEither_47_12 {d : Nat} (C : mCx p (mR (8 + (d + 1))) s m args meth c G cX4_readEither RX4 4 false 233 54500 233 54500) (hr : meth.sig.returnType = none) (hk : meth.locks = false) {b : Bool} {self : Nat → Nat → Int32 → mT → Option (mT)} (Hs0 : ∀ {v2 : Int32} {S S' : mT}, self 0 12 v2 S = some S' → mOk l mX4_readEither (8 + d) [.ref 1, .ref 12, .int v2] b S none S') (Hs1 : ∀ {v2 : Int32} {S S' : mT}, self 1 12 v2 S = some S' → mOk l mX4_readBoth (8 + d) [.ref 1, .ref 12, .int v2] b S none S') (Hs2 : ∀ {v2 : Int32} {S S' : mT}, self 2 12 v2 S = some S' → mOk l mX4_readOne (8 + d) [.ref 1, .ref 12, .int v2] b S none S') (Hs3 : ∀ {v2 : Int32} {S S' : mT}, self 3 12 v2 S = some S' → mOk l mX4_readSum (8 + d) [.ref 1, .ref 12, .int v2] b S none S') (Hs4 : ∀ {v2 : Int32} {S S' : mT}, self 4 12 v2 S = some S' → mOk l mX4_readTerm (8 + d) [.ref 1, .ref 12, .int v2] b S none S') (Hs5 : ∀ {v2 : Int32} {S S' : mT}, self 5 12 v2 S = some S' → mOk l mX4_readUnit (8 + d) [.ref 1, .ref 12, .int v2] b S none S') {S' : mT} {S : mT} (hf : fX4_readEither_47 12 self S = some S') (ok : Bool) : mW p l e (mR (8 + (d + 1))) s m args below meth c G 4 233 54500 (mQ below G args s b S' none) (ok, 47, [.retAddr 0, .retAddr 0, .retAddr 0, .retAddr 0], [], mk b S) := by
  unfold fX4_readEither_47 at hf
  cases hf
  exact gret_v C hr hk (kX4_readEither _ (List.mem_of_getElem? (i := 24) rfl)).1
theorem bX4_readEither_8_12 {d : Nat} (C : mCx p (mR (8 + (d + 1))) s m args meth c G cX4_readEither RX4 4 false 233 54500 233 54500) (hr : meth.sig.returnType = none) (hk : meth.locks = false) {b : Bool} {self : Nat → Nat → Int32 → mT → Option (mT)} (Hs0 : ∀ {v2 : Int32} {S S' : mT}, self 0 12 v2 S = some S' → mOk l mX4_readEither (8 + d) [.ref 1, .ref 12, .int v2] b S none S') (Hs1 : ∀ {v2 : Int32} {S S' : mT}, self 1 12 v2 S = some S' → mOk l mX4_readBoth (8 + d) [.ref 1, .ref 12, .int v2] b S none S') (Hs2 : ∀ {v2 : Int32} {S S' : mT}, self 2 12 v2 S = some S' → mOk l mX4_readOne (8 + d) [.ref 1, .ref 12, .int v2] b S none S') (Hs3 : ∀ {v2 : Int32} {S S' : mT}, self 3 12 v2 S = some S' → mOk l mX4_readSum (8 + d) [.ref 1, .ref 12, .int v2] b S none S') (Hs4 : ∀ {v2 : Int32} {S S' : mT}, self 4 12 v2 S = some S' → mOk l mX4_readTerm (8 + d) [.ref 1, .ref 12, .int v2] b S none S') (Hs5 : ∀ {v2 : Int32} {S S' : mT}, self 5 12 v2 S = some S' → mOk l mX4_readUnit (8 + d) [.ref 1, .ref 12, .int v2] b S none S') {S' : mT} : ∀ (k : Nat) (v2 : Int32) (v3 : Int32) (S : mT), fX4_readEither_8 12 self k v2 v3 S = some S' → ∀ ok : Bool, mW p l e (mR (8 + (d + 1))) s m args below meth c G 4 233 54500 (mQ below G args s b S' none) (ok, 8, [.ref (1), .ref (12), .int v2, .int v3], [], mk b S) := by
  intro k
  induction k with
  | zero =>
    intro v2 v3 S hf ok
    cases hf
  | succ k ih =>
    intro v2 v3 S hf ok
    unfold fX4_readEither_8 at hf
    refine msegT C kX4_readEither 6 3 (g := (true, (if (1600 : Int32) ≤ v3 then 47 else 15), [.ref (1), .ref (12), .int v2, .int v3], [], mk b S)) rfl rfl ?_
    by_cases hc : (1600 : Int32) ≤ v3
    · rw [if_pos hc] at hf ⊢
      exact mfor (L' := [.retAddr 0, .retAddr 0, .retAddr 0, .retAddr 0]) ⟨Or.inl rfl, Or.inl rfl, Or.inl rfl, Or.inl rfl, trivial⟩ (bX4_readEither_47_12 C hr hk Hs0 Hs1 Hs2 Hs3 Hs4 Hs5 hf true)
    · rw [if_neg hc] at hf ⊢
      refine msegT C kX4_readEither 9 2 (g := (true, 18, [.ref (1), .ref (12), .int v2, .int v3], [.ref 900009, .ref (1)], mk b S)) rfl rfl ?_
      obtain ⟨x3, S2, hq, hf⟩ := bndC_ex hf
      refine mcall (kd := 0) (vs := [.ref (1), .ref 900009]) (rest := []) (r := (some (.int x3))) (h' := mk b S2) (ok' := true) C lkRX4_38 (qX4_isWord_900009 hq) (kX4_readEither _ (List.mem_of_getElem? (i := 11) rfl)).1 ⟨_, _, rfl, rfl, Nat.le_of_ble_eq_true rfl, _, _, rfl, rfl, rfl⟩ (by show 6 + 1 ≤ 8 + (d + 1); omega) (by show 19 + 4 + 100 * (6) ≤ 100 * (8 + (d + 1)); omega) (Nat.le_refl _) (Nat.le_refl _) (Nat.le_of_ble_eq_true rfl) ?_
      refine msegT C kX4_readEither 12 1 (g := (true, (if x3 = 0 then 47 else 24), [.ref (1), .ref (12), .int v2, .int v3], [], mk b S2)) rfl rfl ?_
      by_cases hc : x3 = 0
      · rw [if_pos hc] at hf ⊢
        exact mfor (L' := [.retAddr 0, .retAddr 0, .retAddr 0, .retAddr 0]) ⟨Or.inl rfl, Or.inl rfl, Or.inl rfl, Or.inl rfl, trivial⟩ (bX4_readEither_47_12 C hr hk Hs0 Hs1 Hs2 Hs3 Hs4 Hs5 hf true)
      · rw [if_neg hc] at hf ⊢
        refine msegT C kX4_readEither 13 1 (g := (true, 25, [.ref (1), .ref (12), .int v2, .int v3], [.ref (1)], mk b S2)) rfl rfl ?_
        obtain ⟨S4, hq, hf⟩ := bndV_ex hf
        refine mcall (kd := 0) (vs := [.ref (1)]) (rest := []) (r := none) (h' := mk b S4) (ok' := true) C lkRX4_30 (qX4_advance hq) (kX4_readEither _ (List.mem_of_getElem? (i := 14) rfl)).1 ⟨_, _, rfl, rfl, Nat.le_of_ble_eq_true rfl, _, _, rfl, rfl, rfl⟩ (by show 3 + 1 ≤ 8 + (d + 1); omega) (by show 19 + 1 + 100 * (3) ≤ 100 * (8 + (d + 1)); omega) (Nat.le_refl _) (Nat.le_refl _) (Nat.le_of_ble_eq_true rfl) ?_
        refine msegT C kX4_readEither 15 3 (g := (true, 31, [.ref (1), .ref (12), .int v2, .int v3], [.int v2, .ref (12), .ref (1)], mk b S4)) rfl rfl ?_
        obtain ⟨S5, hq, hf⟩ := bndV_ex hf
        refine mcall (kd := 0) (vs := [.ref (1), .ref (12), .int v2]) (rest := []) (r := none) (h' := mk b S5) (ok' := true) C lkRX4_117 (Hs1 hq) (kX4_readEither _ (List.mem_of_getElem? (i := 18) rfl)).1 ⟨_, _, rfl, rfl, Nat.le_of_ble_eq_true rfl, _, _, rfl, rfl, rfl⟩ (by show 8 + d + 1 ≤ 8 + (d + 1); omega) (by show 19 + 4 + 100 * (8 + d) ≤ 100 * (8 + (d + 1)); omega) (Nat.le_refl _) (Nat.le_refl _) (Nat.le_of_ble_eq_true rfl) ?_
        refine msegT C kX4_readEither 19 2 (g := (true, 38, [.ref (1), .ref (12), .int v2, .int v3], [.int (20124 : Int32), .ref (12)], mk b S5)) rfl rfl ?_
        obtain ⟨S6, hq, hf⟩ := bndV_ex hf
        refine mcall (kd := 0) (vs := [.ref (12), .int (20124 : Int32)]) (rest := []) (r := none) (h' := mk b S6) (ok' := true) C lkRX4_122 (qX0_add_12 hq) (kX4_readEither _ (List.mem_of_getElem? (i := 21) rfl)).1 ⟨_, _, rfl, rfl, Nat.le_of_ble_eq_true rfl, _, _, rfl, rfl, rfl⟩ (by show 1 + 1 ≤ 8 + (d + 1); omega) (by show 19 + 2 + 100 * (1) ≤ 100 * (8 + (d + 1)); omega) (Nat.le_refl _) (Nat.le_refl _) (Nat.le_of_ble_eq_true rfl) ?_
        refine msegT C kX4_readEither 22 1 (g := (true, 44, [.ref (1), .ref (12), .int v2, .int (v3 + (1 : Int32))], [], mk b S6)) rfl rfl ?_
        obtain ⟨x7, ex7, hf⟩ := bnd_ex hf
        rw [← ex7]
        refine msegT C kX4_readEither 23 1 (g := (true, 8, [.ref (1), .ref (12), .int v2, .int x7], [], mk b S6)) rfl rfl ?_
        exact mfor (L' := [.ref (1), .ref (12), .int v2, .int x7]) ⟨Or.inr rfl, Or.inr rfl, Or.inr rfl, Or.inr rfl, trivial⟩ (ih _ _ _ hf true)
theorem bX4_readEither_0_12 {d : Nat} (C : mCx p (mR (8 + (d + 1))) s m args meth c G cX4_readEither RX4 4 false 233 54500 233 54500) (hr : meth.sig.returnType = none) (hk : meth.locks = false) {b : Bool} {self : Nat → Nat → Int32 → mT → Option (mT)} (Hs0 : ∀ {v2 : Int32} {S S' : mT}, self 0 12 v2 S = some S' → mOk l mX4_readEither (8 + d) [.ref 1, .ref 12, .int v2] b S none S') (Hs1 : ∀ {v2 : Int32} {S S' : mT}, self 1 12 v2 S = some S' → mOk l mX4_readBoth (8 + d) [.ref 1, .ref 12, .int v2] b S none S') (Hs2 : ∀ {v2 : Int32} {S S' : mT}, self 2 12 v2 S = some S' → mOk l mX4_readOne (8 + d) [.ref 1, .ref 12, .int v2] b S none S') (Hs3 : ∀ {v2 : Int32} {S S' : mT}, self 3 12 v2 S = some S' → mOk l mX4_readSum (8 + d) [.ref 1, .ref 12, .int v2] b S none S') (Hs4 : ∀ {v2 : Int32} {S S' : mT}, self 4 12 v2 S = some S' → mOk l mX4_readTerm (8 + d) [.ref 1, .ref 12, .int v2] b S none S') (Hs5 : ∀ {v2 : Int32} {S S' : mT}, self 5 12 v2 S = some S' → mOk l mX4_readUnit (8 + d) [.ref 1, .ref 12, .int v2] b S none S') {S' : mT} {v2 : Int32} {S : mT} (hf : fX4_readEither_0 12 self v2 S = some S') (ok : Bool) : mW p l e (mR (8 + (d + 1))) s m args below meth c G 4 233 54500 (mQ below G args s b S' none) (ok, 0, [.ref (1), .ref (12), .int v2, .retAddr 0], [], mk b S) := by
  unfold fX4_readEither_0 at hf
  refine msegT C kX4_readEither 0 3 (g := (true, 3, [.ref (1), .ref (12), .int v2, .retAddr 0], [.int v2, .ref (12), .ref (1)], mk b S)) rfl rfl ?_
  obtain ⟨S1, hq, hf⟩ := bndV_ex hf
  refine mcall (kd := 0) (vs := [.ref (1), .ref (12), .int v2]) (rest := []) (r := none) (h' := mk b S1) (ok' := true) C lkRX4_117 (Hs1 hq) (kX4_readEither _ (List.mem_of_getElem? (i := 3) rfl)).1 ⟨_, _, rfl, rfl, Nat.le_of_ble_eq_true rfl, _, _, rfl, rfl, rfl⟩ (by show 8 + d + 1 ≤ 8 + (d + 1); omega) (by show 19 + 4 + 100 * (8 + d) ≤ 100 * (8 + (d + 1)); omega) (Nat.le_refl _) (Nat.le_refl _) (Nat.le_of_ble_eq_true rfl) ?_
  refine msegT C kX4_readEither 4 2 (g := (true, 8, [.ref (1), .ref (12), .int v2, .int (0 : Int32)], [], mk b S1)) rfl rfl ?_
  exact mfor (L' := [.ref (1), .ref (12), .int v2, .int (0 : Int32)]) ⟨Or.inr rfl, Or.inr rfl, Or.inr rfl, Or.inr rfl, trivial⟩ (bX4_readEither_8_12 C hr hk Hs0 Hs1 Hs2 Hs3 Hs4 Hs5 _ _ _ _ hf true)
theorem bX4_readEither_47_15 {d : Nat} (C : mCx p (mR (8 + (d + 1))) s m args meth c G cX4_readEither RX4 4 false 233 54500 233 54500) (hr : meth.sig.returnType = none) (hk : meth.locks = false) {b : Bool} {self : Nat → Nat → Int32 → mT → Option (mT)} (Hs0 : ∀ {v2 : Int32} {S S' : mT}, self 0 15 v2 S = some S' → mOk l mX4_readEither (8 + d) [.ref 1, .ref 15, .int v2] b S none S') (Hs1 : ∀ {v2 : Int32} {S S' : mT}, self 1 15 v2 S = some S' → mOk l mX4_readBoth (8 + d) [.ref 1, .ref 15, .int v2] b S none S') (Hs2 : ∀ {v2 : Int32} {S S' : mT}, self 2 15 v2 S = some S' → mOk l mX4_readOne (8 + d) [.ref 1, .ref 15, .int v2] b S none S') (Hs3 : ∀ {v2 : Int32} {S S' : mT}, self 3 15 v2 S = some S' → mOk l mX4_readSum (8 + d) [.ref 1, .ref 15, .int v2] b S none S') (Hs4 : ∀ {v2 : Int32} {S S' : mT}, self 4 15 v2 S = some S' → mOk l mX4_readTerm (8 + d) [.ref 1, .ref 15, .int v2] b S none S') (Hs5 : ∀ {v2 : Int32} {S S' : mT}, self 5 15 v2 S = some S' → mOk l mX4_readUnit (8 + d) [.ref 1, .ref 15, .int v2] b S none S') {S' : mT} {S : mT} (hf : fX4_readEither_47 15 self S = some S') (ok : Bool) : mW p l e (mR (8 + (d + 1))) s m args below meth c G 4 233 54500 (mQ below G args s b S' none) (ok, 47, [.retAddr 0, .retAddr 0, .retAddr 0, .retAddr 0], [], mk b S) := by
  unfold fX4_readEither_47 at hf
  cases hf
  exact gret_v C hr hk (kX4_readEither _ (List.mem_of_getElem? (i := 24) rfl)).1
theorem bX4_readEither_8_15 {d : Nat} (C : mCx p (mR (8 + (d + 1))) s m args meth c G cX4_readEither RX4 4 false 233 54500 233 54500) (hr : meth.sig.returnType = none) (hk : meth.locks = false) {b : Bool} {self : Nat → Nat → Int32 → mT → Option (mT)} (Hs0 : ∀ {v2 : Int32} {S S' : mT}, self 0 15 v2 S = some S' → mOk l mX4_readEither (8 + d) [.ref 1, .ref 15, .int v2] b S none S') (Hs1 : ∀ {v2 : Int32} {S S' : mT}, self 1 15 v2 S = some S' → mOk l mX4_readBoth (8 + d) [.ref 1, .ref 15, .int v2] b S none S') (Hs2 : ∀ {v2 : Int32} {S S' : mT}, self 2 15 v2 S = some S' → mOk l mX4_readOne (8 + d) [.ref 1, .ref 15, .int v2] b S none S') (Hs3 : ∀ {v2 : Int32} {S S' : mT}, self 3 15 v2 S = some S' → mOk l mX4_readSum (8 + d) [.ref 1, .ref 15, .int v2] b S none S') (Hs4 : ∀ {v2 : Int32} {S S' : mT}, self 4 15 v2 S = some S' → mOk l mX4_readTerm (8 + d) [.ref 1, .ref 15, .int v2] b S none S') (Hs5 : ∀ {v2 : Int32} {S S' : mT}, self 5 15 v2 S = some S' → mOk l mX4_readUnit (8 + d) [.ref 1, .ref 15, .int v2] b S none S') {S' : mT} : ∀ (k : Nat) (v2 : Int32) (v3 : Int32) (S : mT), fX4_readEither_8 15 self k v2 v3 S = some S' → ∀ ok : Bool, mW p l e (mR (8 + (d + 1))) s m args below meth c G 4 233 54500 (mQ below G args s b S' none) (ok, 8, [.ref (1), .ref (15), .int v2, .int v3], [], mk b S) := by
  intro k
  induction k with
  | zero =>
    intro v2 v3 S hf ok
    cases hf
  | succ k ih =>
    intro v2 v3 S hf ok
    unfold fX4_readEither_8 at hf
    refine msegT C kX4_readEither 6 3 (g := (true, (if (1600 : Int32) ≤ v3 then 47 else 15), [.ref (1), .ref (15), .int v2, .int v3], [], mk b S)) rfl rfl ?_
    by_cases hc : (1600 : Int32) ≤ v3
    · rw [if_pos hc] at hf ⊢
      exact mfor (L' := [.retAddr 0, .retAddr 0, .retAddr 0, .retAddr 0]) ⟨Or.inl rfl, Or.inl rfl, Or.inl rfl, Or.inl rfl, trivial⟩ (bX4_readEither_47_15 C hr hk Hs0 Hs1 Hs2 Hs3 Hs4 Hs5 hf true)
    · rw [if_neg hc] at hf ⊢
      refine msegT C kX4_readEither 9 2 (g := (true, 18, [.ref (1), .ref (15), .int v2, .int v3], [.ref 900009, .ref (1)], mk b S)) rfl rfl ?_
      obtain ⟨x3, S2, hq, hf⟩ := bndC_ex hf
      refine mcall (kd := 0) (vs := [.ref (1), .ref 900009]) (rest := []) (r := (some (.int x3))) (h' := mk b S2) (ok' := true) C lkRX4_38 (qX4_isWord_900009 hq) (kX4_readEither _ (List.mem_of_getElem? (i := 11) rfl)).1 ⟨_, _, rfl, rfl, Nat.le_of_ble_eq_true rfl, _, _, rfl, rfl, rfl⟩ (by show 6 + 1 ≤ 8 + (d + 1); omega) (by show 19 + 4 + 100 * (6) ≤ 100 * (8 + (d + 1)); omega) (Nat.le_refl _) (Nat.le_refl _) (Nat.le_of_ble_eq_true rfl) ?_
      refine msegT C kX4_readEither 12 1 (g := (true, (if x3 = 0 then 47 else 24), [.ref (1), .ref (15), .int v2, .int v3], [], mk b S2)) rfl rfl ?_
      by_cases hc : x3 = 0
      · rw [if_pos hc] at hf ⊢
        exact mfor (L' := [.retAddr 0, .retAddr 0, .retAddr 0, .retAddr 0]) ⟨Or.inl rfl, Or.inl rfl, Or.inl rfl, Or.inl rfl, trivial⟩ (bX4_readEither_47_15 C hr hk Hs0 Hs1 Hs2 Hs3 Hs4 Hs5 hf true)
      · rw [if_neg hc] at hf ⊢
        refine msegT C kX4_readEither 13 1 (g := (true, 25, [.ref (1), .ref (15), .int v2, .int v3], [.ref (1)], mk b S2)) rfl rfl ?_
        obtain ⟨S4, hq, hf⟩ := bndV_ex hf
        refine mcall (kd := 0) (vs := [.ref (1)]) (rest := []) (r := none) (h' := mk b S4) (ok' := true) C lkRX4_30 (qX4_advance hq) (kX4_readEither _ (List.mem_of_getElem? (i := 14) rfl)).1 ⟨_, _, rfl, rfl, Nat.le_of_ble_eq_true rfl, _, _, rfl, rfl, rfl⟩ (by show 3 + 1 ≤ 8 + (d + 1); omega) (by show 19 + 1 + 100 * (3) ≤ 100 * (8 + (d + 1)); omega) (Nat.le_refl _) (Nat.le_refl _) (Nat.le_of_ble_eq_true rfl) ?_
        refine msegT C kX4_readEither 15 3 (g := (true, 31, [.ref (1), .ref (15), .int v2, .int v3], [.int v2, .ref (15), .ref (1)], mk b S4)) rfl rfl ?_
        obtain ⟨S5, hq, hf⟩ := bndV_ex hf
        refine mcall (kd := 0) (vs := [.ref (1), .ref (15), .int v2]) (rest := []) (r := none) (h' := mk b S5) (ok' := true) C lkRX4_117 (Hs1 hq) (kX4_readEither _ (List.mem_of_getElem? (i := 18) rfl)).1 ⟨_, _, rfl, rfl, Nat.le_of_ble_eq_true rfl, _, _, rfl, rfl, rfl⟩ (by show 8 + d + 1 ≤ 8 + (d + 1); omega) (by show 19 + 4 + 100 * (8 + d) ≤ 100 * (8 + (d + 1)); omega) (Nat.le_refl _) (Nat.le_refl _) (Nat.le_of_ble_eq_true rfl) ?_
        refine msegT C kX4_readEither 19 2 (g := (true, 38, [.ref (1), .ref (15), .int v2, .int v3], [.int (20124 : Int32), .ref (15)], mk b S5)) rfl rfl ?_
        obtain ⟨S6, hq, hf⟩ := bndV_ex hf
        refine mcall (kd := 0) (vs := [.ref (15), .int (20124 : Int32)]) (rest := []) (r := none) (h' := mk b S6) (ok' := true) C lkRX4_122 (qX0_add_15 hq) (kX4_readEither _ (List.mem_of_getElem? (i := 21) rfl)).1 ⟨_, _, rfl, rfl, Nat.le_of_ble_eq_true rfl, _, _, rfl, rfl, rfl⟩ (by show 1 + 1 ≤ 8 + (d + 1); omega) (by show 19 + 2 + 100 * (1) ≤ 100 * (8 + (d + 1)); omega) (Nat.le_refl _) (Nat.le_refl _) (Nat.le_of_ble_eq_true rfl) ?_
        refine msegT C kX4_readEither 22 1 (g := (true, 44, [.ref (1), .ref (15), .int v2, .int (v3 + (1 : Int32))], [], mk b S6)) rfl rfl ?_
        obtain ⟨x7, ex7, hf⟩ := bnd_ex hf
        rw [← ex7]
        refine msegT C kX4_readEither 23 1 (g := (true, 8, [.ref (1), .ref (15), .int v2, .int x7], [], mk b S6)) rfl rfl ?_
        exact mfor (L' := [.ref (1), .ref (15), .int v2, .int x7]) ⟨Or.inr rfl, Or.inr rfl, Or.inr rfl, Or.inr rfl, trivial⟩ (ih _ _ _ hf true)
theorem bX4_readEither_0_15 {d : Nat} (C : mCx p (mR (8 + (d + 1))) s m args meth c G cX4_readEither RX4 4 false 233 54500 233 54500) (hr : meth.sig.returnType = none) (hk : meth.locks = false) {b : Bool} {self : Nat → Nat → Int32 → mT → Option (mT)} (Hs0 : ∀ {v2 : Int32} {S S' : mT}, self 0 15 v2 S = some S' → mOk l mX4_readEither (8 + d) [.ref 1, .ref 15, .int v2] b S none S') (Hs1 : ∀ {v2 : Int32} {S S' : mT}, self 1 15 v2 S = some S' → mOk l mX4_readBoth (8 + d) [.ref 1, .ref 15, .int v2] b S none S') (Hs2 : ∀ {v2 : Int32} {S S' : mT}, self 2 15 v2 S = some S' → mOk l mX4_readOne (8 + d) [.ref 1, .ref 15, .int v2] b S none S') (Hs3 : ∀ {v2 : Int32} {S S' : mT}, self 3 15 v2 S = some S' → mOk l mX4_readSum (8 + d) [.ref 1, .ref 15, .int v2] b S none S') (Hs4 : ∀ {v2 : Int32} {S S' : mT}, self 4 15 v2 S = some S' → mOk l mX4_readTerm (8 + d) [.ref 1, .ref 15, .int v2] b S none S') (Hs5 : ∀ {v2 : Int32} {S S' : mT}, self 5 15 v2 S = some S' → mOk l mX4_readUnit (8 + d) [.ref 1, .ref 15, .int v2] b S none S') {S' : mT} {v2 : Int32} {S : mT} (hf : fX4_readEither_0 15 self v2 S = some S') (ok : Bool) : mW p l e (mR (8 + (d + 1))) s m args below meth c G 4 233 54500 (mQ below G args s b S' none) (ok, 0, [.ref (1), .ref (15), .int v2, .retAddr 0], [], mk b S) := by
  unfold fX4_readEither_0 at hf
  refine msegT C kX4_readEither 0 3 (g := (true, 3, [.ref (1), .ref (15), .int v2, .retAddr 0], [.int v2, .ref (15), .ref (1)], mk b S)) rfl rfl ?_
  obtain ⟨S1, hq, hf⟩ := bndV_ex hf
  refine mcall (kd := 0) (vs := [.ref (1), .ref (15), .int v2]) (rest := []) (r := none) (h' := mk b S1) (ok' := true) C lkRX4_117 (Hs1 hq) (kX4_readEither _ (List.mem_of_getElem? (i := 3) rfl)).1 ⟨_, _, rfl, rfl, Nat.le_of_ble_eq_true rfl, _, _, rfl, rfl, rfl⟩ (by show 8 + d + 1 ≤ 8 + (d + 1); omega) (by show 19 + 4 + 100 * (8 + d) ≤ 100 * (8 + (d + 1)); omega) (Nat.le_refl _) (Nat.le_refl _) (Nat.le_of_ble_eq_true rfl) ?_
  refine msegT C kX4_readEither 4 2 (g := (true, 8, [.ref (1), .ref (15), .int v2, .int (0 : Int32)], [], mk b S1)) rfl rfl ?_
  exact mfor (L' := [.ref (1), .ref (15), .int v2, .int (0 : Int32)]) ⟨Or.inr rfl, Or.inr rfl, Or.inr rfl, Or.inr rfl, trivial⟩ (bX4_readEither_8_15 C hr hk Hs0 Hs1 Hs2 Hs3 Hs4 Hs5 _ _ _ _ hf true)
theorem bX4_readEither_47_25 {d : Nat} (C : mCx p (mR (8 + (d + 1))) s m args meth c G cX4_readEither RX4 4 false 233 54500 233 54500) (hr : meth.sig.returnType = none) (hk : meth.locks = false) {b : Bool} {self : Nat → Nat → Int32 → mT → Option (mT)} (Hs0 : ∀ {v2 : Int32} {S S' : mT}, self 0 25 v2 S = some S' → mOk l mX4_readEither (8 + d) [.ref 1, .ref 25, .int v2] b S none S') (Hs1 : ∀ {v2 : Int32} {S S' : mT}, self 1 25 v2 S = some S' → mOk l mX4_readBoth (8 + d) [.ref 1, .ref 25, .int v2] b S none S') (Hs2 : ∀ {v2 : Int32} {S S' : mT}, self 2 25 v2 S = some S' → mOk l mX4_readOne (8 + d) [.ref 1, .ref 25, .int v2] b S none S') (Hs3 : ∀ {v2 : Int32} {S S' : mT}, self 3 25 v2 S = some S' → mOk l mX4_readSum (8 + d) [.ref 1, .ref 25, .int v2] b S none S') (Hs4 : ∀ {v2 : Int32} {S S' : mT}, self 4 25 v2 S = some S' → mOk l mX4_readTerm (8 + d) [.ref 1, .ref 25, .int v2] b S none S') (Hs5 : ∀ {v2 : Int32} {S S' : mT}, self 5 25 v2 S = some S' → mOk l mX4_readUnit (8 + d) [.ref 1, .ref 25, .int v2] b S none S') {S' : mT} {S : mT} (hf : fX4_readEither_47 25 self S = some S') (ok : Bool) : mW p l e (mR (8 + (d + 1))) s m args below meth c G 4 233 54500 (mQ below G args s b S' none) (ok, 47, [.retAddr 0, .retAddr 0, .retAddr 0, .retAddr 0], [], mk b S) := by
  unfold fX4_readEither_47 at hf
  cases hf
  exact gret_v C hr hk (kX4_readEither _ (List.mem_of_getElem? (i := 24) rfl)).1
theorem bX4_readEither_8_25 {d : Nat} (C : mCx p (mR (8 + (d + 1))) s m args meth c G cX4_readEither RX4 4 false 233 54500 233 54500) (hr : meth.sig.returnType = none) (hk : meth.locks = false) {b : Bool} {self : Nat → Nat → Int32 → mT → Option (mT)} (Hs0 : ∀ {v2 : Int32} {S S' : mT}, self 0 25 v2 S = some S' → mOk l mX4_readEither (8 + d) [.ref 1, .ref 25, .int v2] b S none S') (Hs1 : ∀ {v2 : Int32} {S S' : mT}, self 1 25 v2 S = some S' → mOk l mX4_readBoth (8 + d) [.ref 1, .ref 25, .int v2] b S none S') (Hs2 : ∀ {v2 : Int32} {S S' : mT}, self 2 25 v2 S = some S' → mOk l mX4_readOne (8 + d) [.ref 1, .ref 25, .int v2] b S none S') (Hs3 : ∀ {v2 : Int32} {S S' : mT}, self 3 25 v2 S = some S' → mOk l mX4_readSum (8 + d) [.ref 1, .ref 25, .int v2] b S none S') (Hs4 : ∀ {v2 : Int32} {S S' : mT}, self 4 25 v2 S = some S' → mOk l mX4_readTerm (8 + d) [.ref 1, .ref 25, .int v2] b S none S') (Hs5 : ∀ {v2 : Int32} {S S' : mT}, self 5 25 v2 S = some S' → mOk l mX4_readUnit (8 + d) [.ref 1, .ref 25, .int v2] b S none S') {S' : mT} : ∀ (k : Nat) (v2 : Int32) (v3 : Int32) (S : mT), fX4_readEither_8 25 self k v2 v3 S = some S' → ∀ ok : Bool, mW p l e (mR (8 + (d + 1))) s m args below meth c G 4 233 54500 (mQ below G args s b S' none) (ok, 8, [.ref (1), .ref (25), .int v2, .int v3], [], mk b S) := by
  intro k
  induction k with
  | zero =>
    intro v2 v3 S hf ok
    cases hf
  | succ k ih =>
    intro v2 v3 S hf ok
    unfold fX4_readEither_8 at hf
    refine msegT C kX4_readEither 6 3 (g := (true, (if (1600 : Int32) ≤ v3 then 47 else 15), [.ref (1), .ref (25), .int v2, .int v3], [], mk b S)) rfl rfl ?_
    by_cases hc : (1600 : Int32) ≤ v3
    · rw [if_pos hc] at hf ⊢
      exact mfor (L' := [.retAddr 0, .retAddr 0, .retAddr 0, .retAddr 0]) ⟨Or.inl rfl, Or.inl rfl, Or.inl rfl, Or.inl rfl, trivial⟩ (bX4_readEither_47_25 C hr hk Hs0 Hs1 Hs2 Hs3 Hs4 Hs5 hf true)
    · rw [if_neg hc] at hf ⊢
      refine msegT C kX4_readEither 9 2 (g := (true, 18, [.ref (1), .ref (25), .int v2, .int v3], [.ref 900009, .ref (1)], mk b S)) rfl rfl ?_
      obtain ⟨x3, S2, hq, hf⟩ := bndC_ex hf
      refine mcall (kd := 0) (vs := [.ref (1), .ref 900009]) (rest := []) (r := (some (.int x3))) (h' := mk b S2) (ok' := true) C lkRX4_38 (qX4_isWord_900009 hq) (kX4_readEither _ (List.mem_of_getElem? (i := 11) rfl)).1 ⟨_, _, rfl, rfl, Nat.le_of_ble_eq_true rfl, _, _, rfl, rfl, rfl⟩ (by show 6 + 1 ≤ 8 + (d + 1); omega) (by show 19 + 4 + 100 * (6) ≤ 100 * (8 + (d + 1)); omega) (Nat.le_refl _) (Nat.le_refl _) (Nat.le_of_ble_eq_true rfl) ?_
      refine msegT C kX4_readEither 12 1 (g := (true, (if x3 = 0 then 47 else 24), [.ref (1), .ref (25), .int v2, .int v3], [], mk b S2)) rfl rfl ?_
      by_cases hc : x3 = 0
      · rw [if_pos hc] at hf ⊢
        exact mfor (L' := [.retAddr 0, .retAddr 0, .retAddr 0, .retAddr 0]) ⟨Or.inl rfl, Or.inl rfl, Or.inl rfl, Or.inl rfl, trivial⟩ (bX4_readEither_47_25 C hr hk Hs0 Hs1 Hs2 Hs3 Hs4 Hs5 hf true)
      · rw [if_neg hc] at hf ⊢
        refine msegT C kX4_readEither 13 1 (g := (true, 25, [.ref (1), .ref (25), .int v2, .int v3], [.ref (1)], mk b S2)) rfl rfl ?_
        obtain ⟨S4, hq, hf⟩ := bndV_ex hf
        refine mcall (kd := 0) (vs := [.ref (1)]) (rest := []) (r := none) (h' := mk b S4) (ok' := true) C lkRX4_30 (qX4_advance hq) (kX4_readEither _ (List.mem_of_getElem? (i := 14) rfl)).1 ⟨_, _, rfl, rfl, Nat.le_of_ble_eq_true rfl, _, _, rfl, rfl, rfl⟩ (by show 3 + 1 ≤ 8 + (d + 1); omega) (by show 19 + 1 + 100 * (3) ≤ 100 * (8 + (d + 1)); omega) (Nat.le_refl _) (Nat.le_refl _) (Nat.le_of_ble_eq_true rfl) ?_
        refine msegT C kX4_readEither 15 3 (g := (true, 31, [.ref (1), .ref (25), .int v2, .int v3], [.int v2, .ref (25), .ref (1)], mk b S4)) rfl rfl ?_
        obtain ⟨S5, hq, hf⟩ := bndV_ex hf
        refine mcall (kd := 0) (vs := [.ref (1), .ref (25), .int v2]) (rest := []) (r := none) (h' := mk b S5) (ok' := true) C lkRX4_117 (Hs1 hq) (kX4_readEither _ (List.mem_of_getElem? (i := 18) rfl)).1 ⟨_, _, rfl, rfl, Nat.le_of_ble_eq_true rfl, _, _, rfl, rfl, rfl⟩ (by show 8 + d + 1 ≤ 8 + (d + 1); omega) (by show 19 + 4 + 100 * (8 + d) ≤ 100 * (8 + (d + 1)); omega) (Nat.le_refl _) (Nat.le_refl _) (Nat.le_of_ble_eq_true rfl) ?_
        refine msegT C kX4_readEither 19 2 (g := (true, 38, [.ref (1), .ref (25), .int v2, .int v3], [.int (20124 : Int32), .ref (25)], mk b S5)) rfl rfl ?_
        obtain ⟨S6, hq, hf⟩ := bndV_ex hf
        refine mcall (kd := 0) (vs := [.ref (25), .int (20124 : Int32)]) (rest := []) (r := none) (h' := mk b S6) (ok' := true) C lkRX4_122 (qX0_add_25 hq) (kX4_readEither _ (List.mem_of_getElem? (i := 21) rfl)).1 ⟨_, _, rfl, rfl, Nat.le_of_ble_eq_true rfl, _, _, rfl, rfl, rfl⟩ (by show 1 + 1 ≤ 8 + (d + 1); omega) (by show 19 + 2 + 100 * (1) ≤ 100 * (8 + (d + 1)); omega) (Nat.le_refl _) (Nat.le_refl _) (Nat.le_of_ble_eq_true rfl) ?_
        refine msegT C kX4_readEither 22 1 (g := (true, 44, [.ref (1), .ref (25), .int v2, .int (v3 + (1 : Int32))], [], mk b S6)) rfl rfl ?_
        obtain ⟨x7, ex7, hf⟩ := bnd_ex hf
        rw [← ex7]
        refine msegT C kX4_readEither 23 1 (g := (true, 8, [.ref (1), .ref (25), .int v2, .int x7], [], mk b S6)) rfl rfl ?_
        exact mfor (L' := [.ref (1), .ref (25), .int v2, .int x7]) ⟨Or.inr rfl, Or.inr rfl, Or.inr rfl, Or.inr rfl, trivial⟩ (ih _ _ _ hf true)
theorem bX4_readEither_0_25 {d : Nat} (C : mCx p (mR (8 + (d + 1))) s m args meth c G cX4_readEither RX4 4 false 233 54500 233 54500) (hr : meth.sig.returnType = none) (hk : meth.locks = false) {b : Bool} {self : Nat → Nat → Int32 → mT → Option (mT)} (Hs0 : ∀ {v2 : Int32} {S S' : mT}, self 0 25 v2 S = some S' → mOk l mX4_readEither (8 + d) [.ref 1, .ref 25, .int v2] b S none S') (Hs1 : ∀ {v2 : Int32} {S S' : mT}, self 1 25 v2 S = some S' → mOk l mX4_readBoth (8 + d) [.ref 1, .ref 25, .int v2] b S none S') (Hs2 : ∀ {v2 : Int32} {S S' : mT}, self 2 25 v2 S = some S' → mOk l mX4_readOne (8 + d) [.ref 1, .ref 25, .int v2] b S none S') (Hs3 : ∀ {v2 : Int32} {S S' : mT}, self 3 25 v2 S = some S' → mOk l mX4_readSum (8 + d) [.ref 1, .ref 25, .int v2] b S none S') (Hs4 : ∀ {v2 : Int32} {S S' : mT}, self 4 25 v2 S = some S' → mOk l mX4_readTerm (8 + d) [.ref 1, .ref 25, .int v2] b S none S') (Hs5 : ∀ {v2 : Int32} {S S' : mT}, self 5 25 v2 S = some S' → mOk l mX4_readUnit (8 + d) [.ref 1, .ref 25, .int v2] b S none S') {S' : mT} {v2 : Int32} {S : mT} (hf : fX4_readEither_0 25 self v2 S = some S') (ok : Bool) : mW p l e (mR (8 + (d + 1))) s m args below meth c G 4 233 54500 (mQ below G args s b S' none) (ok, 0, [.ref (1), .ref (25), .int v2, .retAddr 0], [], mk b S) := by
  unfold fX4_readEither_0 at hf
  refine msegT C kX4_readEither 0 3 (g := (true, 3, [.ref (1), .ref (25), .int v2, .retAddr 0], [.int v2, .ref (25), .ref (1)], mk b S)) rfl rfl ?_
  obtain ⟨S1, hq, hf⟩ := bndV_ex hf
  refine mcall (kd := 0) (vs := [.ref (1), .ref (25), .int v2]) (rest := []) (r := none) (h' := mk b S1) (ok' := true) C lkRX4_117 (Hs1 hq) (kX4_readEither _ (List.mem_of_getElem? (i := 3) rfl)).1 ⟨_, _, rfl, rfl, Nat.le_of_ble_eq_true rfl, _, _, rfl, rfl, rfl⟩ (by show 8 + d + 1 ≤ 8 + (d + 1); omega) (by show 19 + 4 + 100 * (8 + d) ≤ 100 * (8 + (d + 1)); omega) (Nat.le_refl _) (Nat.le_refl _) (Nat.le_of_ble_eq_true rfl) ?_
  refine msegT C kX4_readEither 4 2 (g := (true, 8, [.ref (1), .ref (25), .int v2, .int (0 : Int32)], [], mk b S1)) rfl rfl ?_
  exact mfor (L' := [.ref (1), .ref (25), .int v2, .int (0 : Int32)]) ⟨Or.inr rfl, Or.inr rfl, Or.inr rfl, Or.inr rfl, trivial⟩ (bX4_readEither_8_25 C hr hk Hs0 Hs1 Hs2 Hs3 Hs4 Hs5 _ _ _ _ hf true)
theorem bX4_readEither_47_28 {d : Nat} (C : mCx p (mR (8 + (d + 1))) s m args meth c G cX4_readEither RX4 4 false 233 54500 233 54500) (hr : meth.sig.returnType = none) (hk : meth.locks = false) {b : Bool} {self : Nat → Nat → Int32 → mT → Option (mT)} (Hs0 : ∀ {v2 : Int32} {S S' : mT}, self 0 28 v2 S = some S' → mOk l mX4_readEither (8 + d) [.ref 1, .ref 28, .int v2] b S none S') (Hs1 : ∀ {v2 : Int32} {S S' : mT}, self 1 28 v2 S = some S' → mOk l mX4_readBoth (8 + d) [.ref 1, .ref 28, .int v2] b S none S') (Hs2 : ∀ {v2 : Int32} {S S' : mT}, self 2 28 v2 S = some S' → mOk l mX4_readOne (8 + d) [.ref 1, .ref 28, .int v2] b S none S') (Hs3 : ∀ {v2 : Int32} {S S' : mT}, self 3 28 v2 S = some S' → mOk l mX4_readSum (8 + d) [.ref 1, .ref 28, .int v2] b S none S') (Hs4 : ∀ {v2 : Int32} {S S' : mT}, self 4 28 v2 S = some S' → mOk l mX4_readTerm (8 + d) [.ref 1, .ref 28, .int v2] b S none S') (Hs5 : ∀ {v2 : Int32} {S S' : mT}, self 5 28 v2 S = some S' → mOk l mX4_readUnit (8 + d) [.ref 1, .ref 28, .int v2] b S none S') {S' : mT} {S : mT} (hf : fX4_readEither_47 28 self S = some S') (ok : Bool) : mW p l e (mR (8 + (d + 1))) s m args below meth c G 4 233 54500 (mQ below G args s b S' none) (ok, 47, [.retAddr 0, .retAddr 0, .retAddr 0, .retAddr 0], [], mk b S) := by
  unfold fX4_readEither_47 at hf
  cases hf
  exact gret_v C hr hk (kX4_readEither _ (List.mem_of_getElem? (i := 24) rfl)).1
theorem bX4_readEither_8_28 {d : Nat} (C : mCx p (mR (8 + (d + 1))) s m args meth c G cX4_readEither RX4 4 false 233 54500 233 54500) (hr : meth.sig.returnType = none) (hk : meth.locks = false) {b : Bool} {self : Nat → Nat → Int32 → mT → Option (mT)} (Hs0 : ∀ {v2 : Int32} {S S' : mT}, self 0 28 v2 S = some S' → mOk l mX4_readEither (8 + d) [.ref 1, .ref 28, .int v2] b S none S') (Hs1 : ∀ {v2 : Int32} {S S' : mT}, self 1 28 v2 S = some S' → mOk l mX4_readBoth (8 + d) [.ref 1, .ref 28, .int v2] b S none S') (Hs2 : ∀ {v2 : Int32} {S S' : mT}, self 2 28 v2 S = some S' → mOk l mX4_readOne (8 + d) [.ref 1, .ref 28, .int v2] b S none S') (Hs3 : ∀ {v2 : Int32} {S S' : mT}, self 3 28 v2 S = some S' → mOk l mX4_readSum (8 + d) [.ref 1, .ref 28, .int v2] b S none S') (Hs4 : ∀ {v2 : Int32} {S S' : mT}, self 4 28 v2 S = some S' → mOk l mX4_readTerm (8 + d) [.ref 1, .ref 28, .int v2] b S none S') (Hs5 : ∀ {v2 : Int32} {S S' : mT}, self 5 28 v2 S = some S' → mOk l mX4_readUnit (8 + d) [.ref 1, .ref 28, .int v2] b S none S') {S' : mT} : ∀ (k : Nat) (v2 : Int32) (v3 : Int32) (S : mT), fX4_readEither_8 28 self k v2 v3 S = some S' → ∀ ok : Bool, mW p l e (mR (8 + (d + 1))) s m args below meth c G 4 233 54500 (mQ below G args s b S' none) (ok, 8, [.ref (1), .ref (28), .int v2, .int v3], [], mk b S) := by
  intro k
  induction k with
  | zero =>
    intro v2 v3 S hf ok
    cases hf
  | succ k ih =>
    intro v2 v3 S hf ok
    unfold fX4_readEither_8 at hf
    refine msegT C kX4_readEither 6 3 (g := (true, (if (1600 : Int32) ≤ v3 then 47 else 15), [.ref (1), .ref (28), .int v2, .int v3], [], mk b S)) rfl rfl ?_
    by_cases hc : (1600 : Int32) ≤ v3
    · rw [if_pos hc] at hf ⊢
      exact mfor (L' := [.retAddr 0, .retAddr 0, .retAddr 0, .retAddr 0]) ⟨Or.inl rfl, Or.inl rfl, Or.inl rfl, Or.inl rfl, trivial⟩ (bX4_readEither_47_28 C hr hk Hs0 Hs1 Hs2 Hs3 Hs4 Hs5 hf true)
    · rw [if_neg hc] at hf ⊢
      refine msegT C kX4_readEither 9 2 (g := (true, 18, [.ref (1), .ref (28), .int v2, .int v3], [.ref 900009, .ref (1)], mk b S)) rfl rfl ?_
      obtain ⟨x3, S2, hq, hf⟩ := bndC_ex hf
      refine mcall (kd := 0) (vs := [.ref (1), .ref 900009]) (rest := []) (r := (some (.int x3))) (h' := mk b S2) (ok' := true) C lkRX4_38 (qX4_isWord_900009 hq) (kX4_readEither _ (List.mem_of_getElem? (i := 11) rfl)).1 ⟨_, _, rfl, rfl, Nat.le_of_ble_eq_true rfl, _, _, rfl, rfl, rfl⟩ (by show 6 + 1 ≤ 8 + (d + 1); omega) (by show 19 + 4 + 100 * (6) ≤ 100 * (8 + (d + 1)); omega) (Nat.le_refl _) (Nat.le_refl _) (Nat.le_of_ble_eq_true rfl) ?_
      refine msegT C kX4_readEither 12 1 (g := (true, (if x3 = 0 then 47 else 24), [.ref (1), .ref (28), .int v2, .int v3], [], mk b S2)) rfl rfl ?_
      by_cases hc : x3 = 0
      · rw [if_pos hc] at hf ⊢
        exact mfor (L' := [.retAddr 0, .retAddr 0, .retAddr 0, .retAddr 0]) ⟨Or.inl rfl, Or.inl rfl, Or.inl rfl, Or.inl rfl, trivial⟩ (bX4_readEither_47_28 C hr hk Hs0 Hs1 Hs2 Hs3 Hs4 Hs5 hf true)
      · rw [if_neg hc] at hf ⊢
        refine msegT C kX4_readEither 13 1 (g := (true, 25, [.ref (1), .ref (28), .int v2, .int v3], [.ref (1)], mk b S2)) rfl rfl ?_
        obtain ⟨S4, hq, hf⟩ := bndV_ex hf
        refine mcall (kd := 0) (vs := [.ref (1)]) (rest := []) (r := none) (h' := mk b S4) (ok' := true) C lkRX4_30 (qX4_advance hq) (kX4_readEither _ (List.mem_of_getElem? (i := 14) rfl)).1 ⟨_, _, rfl, rfl, Nat.le_of_ble_eq_true rfl, _, _, rfl, rfl, rfl⟩ (by show 3 + 1 ≤ 8 + (d + 1); omega) (by show 19 + 1 + 100 * (3) ≤ 100 * (8 + (d + 1)); omega) (Nat.le_refl _) (Nat.le_refl _) (Nat.le_of_ble_eq_true rfl) ?_
        refine msegT C kX4_readEither 15 3 (g := (true, 31, [.ref (1), .ref (28), .int v2, .int v3], [.int v2, .ref (28), .ref (1)], mk b S4)) rfl rfl ?_
        obtain ⟨S5, hq, hf⟩ := bndV_ex hf
        refine mcall (kd := 0) (vs := [.ref (1), .ref (28), .int v2]) (rest := []) (r := none) (h' := mk b S5) (ok' := true) C lkRX4_117 (Hs1 hq) (kX4_readEither _ (List.mem_of_getElem? (i := 18) rfl)).1 ⟨_, _, rfl, rfl, Nat.le_of_ble_eq_true rfl, _, _, rfl, rfl, rfl⟩ (by show 8 + d + 1 ≤ 8 + (d + 1); omega) (by show 19 + 4 + 100 * (8 + d) ≤ 100 * (8 + (d + 1)); omega) (Nat.le_refl _) (Nat.le_refl _) (Nat.le_of_ble_eq_true rfl) ?_
        refine msegT C kX4_readEither 19 2 (g := (true, 38, [.ref (1), .ref (28), .int v2, .int v3], [.int (20124 : Int32), .ref (28)], mk b S5)) rfl rfl ?_
        obtain ⟨S6, hq, hf⟩ := bndV_ex hf
        refine mcall (kd := 0) (vs := [.ref (28), .int (20124 : Int32)]) (rest := []) (r := none) (h' := mk b S6) (ok' := true) C lkRX4_122 (qX0_add_28 hq) (kX4_readEither _ (List.mem_of_getElem? (i := 21) rfl)).1 ⟨_, _, rfl, rfl, Nat.le_of_ble_eq_true rfl, _, _, rfl, rfl, rfl⟩ (by show 1 + 1 ≤ 8 + (d + 1); omega) (by show 19 + 2 + 100 * (1) ≤ 100 * (8 + (d + 1)); omega) (Nat.le_refl _) (Nat.le_refl _) (Nat.le_of_ble_eq_true rfl) ?_
        refine msegT C kX4_readEither 22 1 (g := (true, 44, [.ref (1), .ref (28), .int v2, .int (v3 + (1 : Int32))], [], mk b S6)) rfl rfl ?_
        obtain ⟨x7, ex7, hf⟩ := bnd_ex hf
        rw [← ex7]
        refine msegT C kX4_readEither 23 1 (g := (true, 8, [.ref (1), .ref (28), .int v2, .int x7], [], mk b S6)) rfl rfl ?_
        exact mfor (L' := [.ref (1), .ref (28), .int v2, .int x7]) ⟨Or.inr rfl, Or.inr rfl, Or.inr rfl, Or.inr rfl, trivial⟩ (ih _ _ _ hf true)
theorem bX4_readEither_0_28 {d : Nat} (C : mCx p (mR (8 + (d + 1))) s m args meth c G cX4_readEither RX4 4 false 233 54500 233 54500) (hr : meth.sig.returnType = none) (hk : meth.locks = false) {b : Bool} {self : Nat → Nat → Int32 → mT → Option (mT)} (Hs0 : ∀ {v2 : Int32} {S S' : mT}, self 0 28 v2 S = some S' → mOk l mX4_readEither (8 + d) [.ref 1, .ref 28, .int v2] b S none S') (Hs1 : ∀ {v2 : Int32} {S S' : mT}, self 1 28 v2 S = some S' → mOk l mX4_readBoth (8 + d) [.ref 1, .ref 28, .int v2] b S none S') (Hs2 : ∀ {v2 : Int32} {S S' : mT}, self 2 28 v2 S = some S' → mOk l mX4_readOne (8 + d) [.ref 1, .ref 28, .int v2] b S none S') (Hs3 : ∀ {v2 : Int32} {S S' : mT}, self 3 28 v2 S = some S' → mOk l mX4_readSum (8 + d) [.ref 1, .ref 28, .int v2] b S none S') (Hs4 : ∀ {v2 : Int32} {S S' : mT}, self 4 28 v2 S = some S' → mOk l mX4_readTerm (8 + d) [.ref 1, .ref 28, .int v2] b S none S') (Hs5 : ∀ {v2 : Int32} {S S' : mT}, self 5 28 v2 S = some S' → mOk l mX4_readUnit (8 + d) [.ref 1, .ref 28, .int v2] b S none S') {S' : mT} {v2 : Int32} {S : mT} (hf : fX4_readEither_0 28 self v2 S = some S') (ok : Bool) : mW p l e (mR (8 + (d + 1))) s m args below meth c G 4 233 54500 (mQ below G args s b S' none) (ok, 0, [.ref (1), .ref (28), .int v2, .retAddr 0], [], mk b S) := by
  unfold fX4_readEither_0 at hf
  refine msegT C kX4_readEither 0 3 (g := (true, 3, [.ref (1), .ref (28), .int v2, .retAddr 0], [.int v2, .ref (28), .ref (1)], mk b S)) rfl rfl ?_
  obtain ⟨S1, hq, hf⟩ := bndV_ex hf
  refine mcall (kd := 0) (vs := [.ref (1), .ref (28), .int v2]) (rest := []) (r := none) (h' := mk b S1) (ok' := true) C lkRX4_117 (Hs1 hq) (kX4_readEither _ (List.mem_of_getElem? (i := 3) rfl)).1 ⟨_, _, rfl, rfl, Nat.le_of_ble_eq_true rfl, _, _, rfl, rfl, rfl⟩ (by show 8 + d + 1 ≤ 8 + (d + 1); omega) (by show 19 + 4 + 100 * (8 + d) ≤ 100 * (8 + (d + 1)); omega) (Nat.le_refl _) (Nat.le_refl _) (Nat.le_of_ble_eq_true rfl) ?_
  refine msegT C kX4_readEither 4 2 (g := (true, 8, [.ref (1), .ref (28), .int v2, .int (0 : Int32)], [], mk b S1)) rfl rfl ?_
  exact mfor (L' := [.ref (1), .ref (28), .int v2, .int (0 : Int32)]) ⟨Or.inr rfl, Or.inr rfl, Or.inr rfl, Or.inr rfl, trivial⟩ (bX4_readEither_8_28 C hr hk Hs0 Hs1 Hs2 Hs3 Hs4 Hs5 _ _ _ _ hf true)
theorem bX4_readEither_47_31 {d : Nat} (C : mCx p (mR (8 + (d + 1))) s m args meth c G cX4_readEither RX4 4 false 233 54500 233 54500) (hr : meth.sig.returnType = none) (hk : meth.locks = false) {b : Bool} {self : Nat → Nat → Int32 → mT → Option (mT)} (Hs0 : ∀ {v2 : Int32} {S S' : mT}, self 0 31 v2 S = some S' → mOk l mX4_readEither (8 + d) [.ref 1, .ref 31, .int v2] b S none S') (Hs1 : ∀ {v2 : Int32} {S S' : mT}, self 1 31 v2 S = some S' → mOk l mX4_readBoth (8 + d) [.ref 1, .ref 31, .int v2] b S none S') (Hs2 : ∀ {v2 : Int32} {S S' : mT}, self 2 31 v2 S = some S' → mOk l mX4_readOne (8 + d) [.ref 1, .ref 31, .int v2] b S none S') (Hs3 : ∀ {v2 : Int32} {S S' : mT}, self 3 31 v2 S = some S' → mOk l mX4_readSum (8 + d) [.ref 1, .ref 31, .int v2] b S none S') (Hs4 : ∀ {v2 : Int32} {S S' : mT}, self 4 31 v2 S = some S' → mOk l mX4_readTerm (8 + d) [.ref 1, .ref 31, .int v2] b S none S') (Hs5 : ∀ {v2 : Int32} {S S' : mT}, self 5 31 v2 S = some S' → mOk l mX4_readUnit (8 + d) [.ref 1, .ref 31, .int v2] b S none S') {S' : mT} {S : mT} (hf : fX4_readEither_47 31 self S = some S') (ok : Bool) : mW p l e (mR (8 + (d + 1))) s m args below meth c G 4 233 54500 (mQ below G args s b S' none) (ok, 47, [.retAddr 0, .retAddr 0, .retAddr 0, .retAddr 0], [], mk b S) := by
  unfold fX4_readEither_47 at hf
  cases hf
  exact gret_v C hr hk (kX4_readEither _ (List.mem_of_getElem? (i := 24) rfl)).1
theorem bX4_readEither_8_31 {d : Nat} (C : mCx p (mR (8 + (d + 1))) s m args meth c G cX4_readEither RX4 4 false 233 54500 233 54500) (hr : meth.sig.returnType = none) (hk : meth.locks = false) {b : Bool} {self : Nat → Nat → Int32 → mT → Option (mT)} (Hs0 : ∀ {v2 : Int32} {S S' : mT}, self 0 31 v2 S = some S' → mOk l mX4_readEither (8 + d) [.ref 1, .ref 31, .int v2] b S none S') (Hs1 : ∀ {v2 : Int32} {S S' : mT}, self 1 31 v2 S = some S' → mOk l mX4_readBoth (8 + d) [.ref 1, .ref 31, .int v2] b S none S') (Hs2 : ∀ {v2 : Int32} {S S' : mT}, self 2 31 v2 S = some S' → mOk l mX4_readOne (8 + d) [.ref 1, .ref 31, .int v2] b S none S') (Hs3 : ∀ {v2 : Int32} {S S' : mT}, self 3 31 v2 S = some S' → mOk l mX4_readSum (8 + d) [.ref 1, .ref 31, .int v2] b S none S') (Hs4 : ∀ {v2 : Int32} {S S' : mT}, self 4 31 v2 S = some S' → mOk l mX4_readTerm (8 + d) [.ref 1, .ref 31, .int v2] b S none S') (Hs5 : ∀ {v2 : Int32} {S S' : mT}, self 5 31 v2 S = some S' → mOk l mX4_readUnit (8 + d) [.ref 1, .ref 31, .int v2] b S none S') {S' : mT} : ∀ (k : Nat) (v2 : Int32) (v3 : Int32) (S : mT), fX4_readEither_8 31 self k v2 v3 S = some S' → ∀ ok : Bool, mW p l e (mR (8 + (d + 1))) s m args below meth c G 4 233 54500 (mQ below G args s b S' none) (ok, 8, [.ref (1), .ref (31), .int v2, .int v3], [], mk b S) := by
  intro k
  induction k with
  | zero =>
    intro v2 v3 S hf ok
    cases hf
  | succ k ih =>
    intro v2 v3 S hf ok
    unfold fX4_readEither_8 at hf
    refine msegT C kX4_readEither 6 3 (g := (true, (if (1600 : Int32) ≤ v3 then 47 else 15), [.ref (1), .ref (31), .int v2, .int v3], [], mk b S)) rfl rfl ?_
    by_cases hc : (1600 : Int32) ≤ v3
    · rw [if_pos hc] at hf ⊢
      exact mfor (L' := [.retAddr 0, .retAddr 0, .retAddr 0, .retAddr 0]) ⟨Or.inl rfl, Or.inl rfl, Or.inl rfl, Or.inl rfl, trivial⟩ (bX4_readEither_47_31 C hr hk Hs0 Hs1 Hs2 Hs3 Hs4 Hs5 hf true)
    · rw [if_neg hc] at hf ⊢
      refine msegT C kX4_readEither 9 2 (g := (true, 18, [.ref (1), .ref (31), .int v2, .int v3], [.ref 900009, .ref (1)], mk b S)) rfl rfl ?_
      obtain ⟨x3, S2, hq, hf⟩ := bndC_ex hf
      refine mcall (kd := 0) (vs := [.ref (1), .ref 900009]) (rest := []) (r := (some (.int x3))) (h' := mk b S2) (ok' := true) C lkRX4_38 (qX4_isWord_900009 hq) (kX4_readEither _ (List.mem_of_getElem? (i := 11) rfl)).1 ⟨_, _, rfl, rfl, Nat.le_of_ble_eq_true rfl, _, _, rfl, rfl, rfl⟩ (by show 6 + 1 ≤ 8 + (d + 1); omega) (by show 19 + 4 + 100 * (6) ≤ 100 * (8 + (d + 1)); omega) (Nat.le_refl _) (Nat.le_refl _) (Nat.le_of_ble_eq_true rfl) ?_
      refine msegT C kX4_readEither 12 1 (g := (true, (if x3 = 0 then 47 else 24), [.ref (1), .ref (31), .int v2, .int v3], [], mk b S2)) rfl rfl ?_
      by_cases hc : x3 = 0
      · rw [if_pos hc] at hf ⊢
        exact mfor (L' := [.retAddr 0, .retAddr 0, .retAddr 0, .retAddr 0]) ⟨Or.inl rfl, Or.inl rfl, Or.inl rfl, Or.inl rfl, trivial⟩ (bX4_readEither_47_31 C hr hk Hs0 Hs1 Hs2 Hs3 Hs4 Hs5 hf true)
      · rw [if_neg hc] at hf ⊢
        refine msegT C kX4_readEither 13 1 (g := (true, 25, [.ref (1), .ref (31), .int v2, .int v3], [.ref (1)], mk b S2)) rfl rfl ?_
        obtain ⟨S4, hq, hf⟩ := bndV_ex hf
        refine mcall (kd := 0) (vs := [.ref (1)]) (rest := []) (r := none) (h' := mk b S4) (ok' := true) C lkRX4_30 (qX4_advance hq) (kX4_readEither _ (List.mem_of_getElem? (i := 14) rfl)).1 ⟨_, _, rfl, rfl, Nat.le_of_ble_eq_true rfl, _, _, rfl, rfl, rfl⟩ (by show 3 + 1 ≤ 8 + (d + 1); omega) (by show 19 + 1 + 100 * (3) ≤ 100 * (8 + (d + 1)); omega) (Nat.le_refl _) (Nat.le_refl _) (Nat.le_of_ble_eq_true rfl) ?_
        refine msegT C kX4_readEither 15 3 (g := (true, 31, [.ref (1), .ref (31), .int v2, .int v3], [.int v2, .ref (31), .ref (1)], mk b S4)) rfl rfl ?_
        obtain ⟨S5, hq, hf⟩ := bndV_ex hf
        refine mcall (kd := 0) (vs := [.ref (1), .ref (31), .int v2]) (rest := []) (r := none) (h' := mk b S5) (ok' := true) C lkRX4_117 (Hs1 hq) (kX4_readEither _ (List.mem_of_getElem? (i := 18) rfl)).1 ⟨_, _, rfl, rfl, Nat.le_of_ble_eq_true rfl, _, _, rfl, rfl, rfl⟩ (by show 8 + d + 1 ≤ 8 + (d + 1); omega) (by show 19 + 4 + 100 * (8 + d) ≤ 100 * (8 + (d + 1)); omega) (Nat.le_refl _) (Nat.le_refl _) (Nat.le_of_ble_eq_true rfl) ?_
        refine msegT C kX4_readEither 19 2 (g := (true, 38, [.ref (1), .ref (31), .int v2, .int v3], [.int (20124 : Int32), .ref (31)], mk b S5)) rfl rfl ?_
        obtain ⟨S6, hq, hf⟩ := bndV_ex hf
        refine mcall (kd := 0) (vs := [.ref (31), .int (20124 : Int32)]) (rest := []) (r := none) (h' := mk b S6) (ok' := true) C lkRX4_122 (qX0_add_31 hq) (kX4_readEither _ (List.mem_of_getElem? (i := 21) rfl)).1 ⟨_, _, rfl, rfl, Nat.le_of_ble_eq_true rfl, _, _, rfl, rfl, rfl⟩ (by show 1 + 1 ≤ 8 + (d + 1); omega) (by show 19 + 2 + 100 * (1) ≤ 100 * (8 + (d + 1)); omega) (Nat.le_refl _) (Nat.le_refl _) (Nat.le_of_ble_eq_true rfl) ?_
        refine msegT C kX4_readEither 22 1 (g := (true, 44, [.ref (1), .ref (31), .int v2, .int (v3 + (1 : Int32))], [], mk b S6)) rfl rfl ?_
        obtain ⟨x7, ex7, hf⟩ := bnd_ex hf
        rw [← ex7]
        refine msegT C kX4_readEither 23 1 (g := (true, 8, [.ref (1), .ref (31), .int v2, .int x7], [], mk b S6)) rfl rfl ?_
        exact mfor (L' := [.ref (1), .ref (31), .int v2, .int x7]) ⟨Or.inr rfl, Or.inr rfl, Or.inr rfl, Or.inr rfl, trivial⟩ (ih _ _ _ hf true)
theorem bX4_readEither_0_31 {d : Nat} (C : mCx p (mR (8 + (d + 1))) s m args meth c G cX4_readEither RX4 4 false 233 54500 233 54500) (hr : meth.sig.returnType = none) (hk : meth.locks = false) {b : Bool} {self : Nat → Nat → Int32 → mT → Option (mT)} (Hs0 : ∀ {v2 : Int32} {S S' : mT}, self 0 31 v2 S = some S' → mOk l mX4_readEither (8 + d) [.ref 1, .ref 31, .int v2] b S none S') (Hs1 : ∀ {v2 : Int32} {S S' : mT}, self 1 31 v2 S = some S' → mOk l mX4_readBoth (8 + d) [.ref 1, .ref 31, .int v2] b S none S') (Hs2 : ∀ {v2 : Int32} {S S' : mT}, self 2 31 v2 S = some S' → mOk l mX4_readOne (8 + d) [.ref 1, .ref 31, .int v2] b S none S') (Hs3 : ∀ {v2 : Int32} {S S' : mT}, self 3 31 v2 S = some S' → mOk l mX4_readSum (8 + d) [.ref 1, .ref 31, .int v2] b S none S') (Hs4 : ∀ {v2 : Int32} {S S' : mT}, self 4 31 v2 S = some S' → mOk l mX4_readTerm (8 + d) [.ref 1, .ref 31, .int v2] b S none S') (Hs5 : ∀ {v2 : Int32} {S S' : mT}, self 5 31 v2 S = some S' → mOk l mX4_readUnit (8 + d) [.ref 1, .ref 31, .int v2] b S none S') {S' : mT} {v2 : Int32} {S : mT} (hf : fX4_readEither_0 31 self v2 S = some S') (ok : Bool) : mW p l e (mR (8 + (d + 1))) s m args below meth c G 4 233 54500 (mQ below G args s b S' none) (ok, 0, [.ref (1), .ref (31), .int v2, .retAddr 0], [], mk b S) := by
  unfold fX4_readEither_0 at hf
  refine msegT C kX4_readEither 0 3 (g := (true, 3, [.ref (1), .ref (31), .int v2, .retAddr 0], [.int v2, .ref (31), .ref (1)], mk b S)) rfl rfl ?_
  obtain ⟨S1, hq, hf⟩ := bndV_ex hf
  refine mcall (kd := 0) (vs := [.ref (1), .ref (31), .int v2]) (rest := []) (r := none) (h' := mk b S1) (ok' := true) C lkRX4_117 (Hs1 hq) (kX4_readEither _ (List.mem_of_getElem? (i := 3) rfl)).1 ⟨_, _, rfl, rfl, Nat.le_of_ble_eq_true rfl, _, _, rfl, rfl, rfl⟩ (by show 8 + d + 1 ≤ 8 + (d + 1); omega) (by show 19 + 4 + 100 * (8 + d) ≤ 100 * (8 + (d + 1)); omega) (Nat.le_refl _) (Nat.le_refl _) (Nat.le_of_ble_eq_true rfl) ?_
  refine msegT C kX4_readEither 4 2 (g := (true, 8, [.ref (1), .ref (31), .int v2, .int (0 : Int32)], [], mk b S1)) rfl rfl ?_
  exact mfor (L' := [.ref (1), .ref (31), .int v2, .int (0 : Int32)]) ⟨Or.inr rfl, Or.inr rfl, Or.inr rfl, Or.inr rfl, trivial⟩ (bX4_readEither_8_31 C hr hk Hs0 Hs1 Hs2 Hs3 Hs4 Hs5 _ _ _ _ hf true)
theorem bX4_readBoth_47_9 {d : Nat} (C : mCx p (mR (8 + (d + 1))) s m args meth c G cX4_readBoth RX4 4 false 233 54500 233 54500) (hr : meth.sig.returnType = none) (hk : meth.locks = false) {b : Bool} {self : Nat → Nat → Int32 → mT → Option (mT)} (Hs0 : ∀ {v2 : Int32} {S S' : mT}, self 0 9 v2 S = some S' → mOk l mX4_readEither (8 + d) [.ref 1, .ref 9, .int v2] b S none S') (Hs1 : ∀ {v2 : Int32} {S S' : mT}, self 1 9 v2 S = some S' → mOk l mX4_readBoth (8 + d) [.ref 1, .ref 9, .int v2] b S none S') (Hs2 : ∀ {v2 : Int32} {S S' : mT}, self 2 9 v2 S = some S' → mOk l mX4_readOne (8 + d) [.ref 1, .ref 9, .int v2] b S none S') (Hs3 : ∀ {v2 : Int32} {S S' : mT}, self 3 9 v2 S = some S' → mOk l mX4_readSum (8 + d) [.ref 1, .ref 9, .int v2] b S none S') (Hs4 : ∀ {v2 : Int32} {S S' : mT}, self 4 9 v2 S = some S' → mOk l mX4_readTerm (8 + d) [.ref 1, .ref 9, .int v2] b S none S') (Hs5 : ∀ {v2 : Int32} {S S' : mT}, self 5 9 v2 S = some S' → mOk l mX4_readUnit (8 + d) [.ref 1, .ref 9, .int v2] b S none S') {S' : mT} {S : mT} (hf : fX4_readBoth_47 9 self S = some S') (ok : Bool) : mW p l e (mR (8 + (d + 1))) s m args below meth c G 4 233 54500 (mQ below G args s b S' none) (ok, 47, [.retAddr 0, .retAddr 0, .retAddr 0, .retAddr 0], [], mk b S) := by
  unfold fX4_readBoth_47 at hf
  cases hf
  exact gret_v C hr hk (kX4_readBoth _ (List.mem_of_getElem? (i := 24) rfl)).1
theorem bX4_readBoth_8_9 {d : Nat} (C : mCx p (mR (8 + (d + 1))) s m args meth c G cX4_readBoth RX4 4 false 233 54500 233 54500) (hr : meth.sig.returnType = none) (hk : meth.locks = false) {b : Bool} {self : Nat → Nat → Int32 → mT → Option (mT)} (Hs0 : ∀ {v2 : Int32} {S S' : mT}, self 0 9 v2 S = some S' → mOk l mX4_readEither (8 + d) [.ref 1, .ref 9, .int v2] b S none S') (Hs1 : ∀ {v2 : Int32} {S S' : mT}, self 1 9 v2 S = some S' → mOk l mX4_readBoth (8 + d) [.ref 1, .ref 9, .int v2] b S none S') (Hs2 : ∀ {v2 : Int32} {S S' : mT}, self 2 9 v2 S = some S' → mOk l mX4_readOne (8 + d) [.ref 1, .ref 9, .int v2] b S none S') (Hs3 : ∀ {v2 : Int32} {S S' : mT}, self 3 9 v2 S = some S' → mOk l mX4_readSum (8 + d) [.ref 1, .ref 9, .int v2] b S none S') (Hs4 : ∀ {v2 : Int32} {S S' : mT}, self 4 9 v2 S = some S' → mOk l mX4_readTerm (8 + d) [.ref 1, .ref 9, .int v2] b S none S') (Hs5 : ∀ {v2 : Int32} {S S' : mT}, self 5 9 v2 S = some S' → mOk l mX4_readUnit (8 + d) [.ref 1, .ref 9, .int v2] b S none S') {S' : mT} : ∀ (k : Nat) (v2 : Int32) (v3 : Int32) (S : mT), fX4_readBoth_8 9 self k v2 v3 S = some S' → ∀ ok : Bool, mW p l e (mR (8 + (d + 1))) s m args below meth c G 4 233 54500 (mQ below G args s b S' none) (ok, 8, [.ref (1), .ref (9), .int v2, .int v3], [], mk b S) := by
  intro k
  induction k with
  | zero =>
    intro v2 v3 S hf ok
    cases hf
  | succ k ih =>
    intro v2 v3 S hf ok
    unfold fX4_readBoth_8 at hf
    refine msegT C kX4_readBoth 6 3 (g := (true, (if (1600 : Int32) ≤ v3 then 47 else 15), [.ref (1), .ref (9), .int v2, .int v3], [], mk b S)) rfl rfl ?_
    by_cases hc : (1600 : Int32) ≤ v3
    · rw [if_pos hc] at hf ⊢
      exact mfor (L' := [.retAddr 0, .retAddr 0, .retAddr 0, .retAddr 0]) ⟨Or.inl rfl, Or.inl rfl, Or.inl rfl, Or.inl rfl, trivial⟩ (bX4_readBoth_47_9 C hr hk Hs0 Hs1 Hs2 Hs3 Hs4 Hs5 hf true)
    · rw [if_neg hc] at hf ⊢
      refine msegT C kX4_readBoth 9 2 (g := (true, 18, [.ref (1), .ref (9), .int v2, .int v3], [.ref 900010, .ref (1)], mk b S)) rfl rfl ?_
      obtain ⟨x3, S2, hq, hf⟩ := bndC_ex hf
      refine mcall (kd := 0) (vs := [.ref (1), .ref 900010]) (rest := []) (r := (some (.int x3))) (h' := mk b S2) (ok' := true) C lkRX4_38 (qX4_isWord_900010 hq) (kX4_readBoth _ (List.mem_of_getElem? (i := 11) rfl)).1 ⟨_, _, rfl, rfl, Nat.le_of_ble_eq_true rfl, _, _, rfl, rfl, rfl⟩ (by show 6 + 1 ≤ 8 + (d + 1); omega) (by show 19 + 4 + 100 * (6) ≤ 100 * (8 + (d + 1)); omega) (Nat.le_refl _) (Nat.le_refl _) (Nat.le_of_ble_eq_true rfl) ?_
      refine msegT C kX4_readBoth 12 1 (g := (true, (if x3 = 0 then 47 else 24), [.ref (1), .ref (9), .int v2, .int v3], [], mk b S2)) rfl rfl ?_
      by_cases hc : x3 = 0
      · rw [if_pos hc] at hf ⊢
        exact mfor (L' := [.retAddr 0, .retAddr 0, .retAddr 0, .retAddr 0]) ⟨Or.inl rfl, Or.inl rfl, Or.inl rfl, Or.inl rfl, trivial⟩ (bX4_readBoth_47_9 C hr hk Hs0 Hs1 Hs2 Hs3 Hs4 Hs5 hf true)
      · rw [if_neg hc] at hf ⊢
        refine msegT C kX4_readBoth 13 1 (g := (true, 25, [.ref (1), .ref (9), .int v2, .int v3], [.ref (1)], mk b S2)) rfl rfl ?_
        obtain ⟨S4, hq, hf⟩ := bndV_ex hf
        refine mcall (kd := 0) (vs := [.ref (1)]) (rest := []) (r := none) (h' := mk b S4) (ok' := true) C lkRX4_30 (qX4_advance hq) (kX4_readBoth _ (List.mem_of_getElem? (i := 14) rfl)).1 ⟨_, _, rfl, rfl, Nat.le_of_ble_eq_true rfl, _, _, rfl, rfl, rfl⟩ (by show 3 + 1 ≤ 8 + (d + 1); omega) (by show 19 + 1 + 100 * (3) ≤ 100 * (8 + (d + 1)); omega) (Nat.le_refl _) (Nat.le_refl _) (Nat.le_of_ble_eq_true rfl) ?_
        refine msegT C kX4_readBoth 15 3 (g := (true, 31, [.ref (1), .ref (9), .int v2, .int v3], [.int v2, .ref (9), .ref (1)], mk b S4)) rfl rfl ?_
        obtain ⟨S5, hq, hf⟩ := bndV_ex hf
        refine mcall (kd := 0) (vs := [.ref (1), .ref (9), .int v2]) (rest := []) (r := none) (h' := mk b S5) (ok' := true) C lkRX4_125 (Hs2 hq) (kX4_readBoth _ (List.mem_of_getElem? (i := 18) rfl)).1 ⟨_, _, rfl, rfl, Nat.le_of_ble_eq_true rfl, _, _, rfl, rfl, rfl⟩ (by show 8 + d + 1 ≤ 8 + (d + 1); omega) (by show 19 + 4 + 100 * (8 + d) ≤ 100 * (8 + (d + 1)); omega) (Nat.le_refl _) (Nat.le_refl _) (Nat.le_of_ble_eq_true rfl) ?_
        refine msegT C kX4_readBoth 19 2 (g := (true, 38, [.ref (1), .ref (9), .int v2, .int v3], [.int (20038 : Int32), .ref (9)], mk b S5)) rfl rfl ?_
        obtain ⟨S6, hq, hf⟩ := bndV_ex hf
        refine mcall (kd := 0) (vs := [.ref (9), .int (20038 : Int32)]) (rest := []) (r := none) (h' := mk b S6) (ok' := true) C lkRX4_122 (qX0_add_9 hq) (kX4_readBoth _ (List.mem_of_getElem? (i := 21) rfl)).1 ⟨_, _, rfl, rfl, Nat.le_of_ble_eq_true rfl, _, _, rfl, rfl, rfl⟩ (by show 1 + 1 ≤ 8 + (d + 1); omega) (by show 19 + 2 + 100 * (1) ≤ 100 * (8 + (d + 1)); omega) (Nat.le_refl _) (Nat.le_refl _) (Nat.le_of_ble_eq_true rfl) ?_
        refine msegT C kX4_readBoth 22 1 (g := (true, 44, [.ref (1), .ref (9), .int v2, .int (v3 + (1 : Int32))], [], mk b S6)) rfl rfl ?_
        obtain ⟨x7, ex7, hf⟩ := bnd_ex hf
        rw [← ex7]
        refine msegT C kX4_readBoth 23 1 (g := (true, 8, [.ref (1), .ref (9), .int v2, .int x7], [], mk b S6)) rfl rfl ?_
        exact mfor (L' := [.ref (1), .ref (9), .int v2, .int x7]) ⟨Or.inr rfl, Or.inr rfl, Or.inr rfl, Or.inr rfl, trivial⟩ (ih _ _ _ hf true)
theorem bX4_readBoth_0_9 {d : Nat} (C : mCx p (mR (8 + (d + 1))) s m args meth c G cX4_readBoth RX4 4 false 233 54500 233 54500) (hr : meth.sig.returnType = none) (hk : meth.locks = false) {b : Bool} {self : Nat → Nat → Int32 → mT → Option (mT)} (Hs0 : ∀ {v2 : Int32} {S S' : mT}, self 0 9 v2 S = some S' → mOk l mX4_readEither (8 + d) [.ref 1, .ref 9, .int v2] b S none S') (Hs1 : ∀ {v2 : Int32} {S S' : mT}, self 1 9 v2 S = some S' → mOk l mX4_readBoth (8 + d) [.ref 1, .ref 9, .int v2] b S none S') (Hs2 : ∀ {v2 : Int32} {S S' : mT}, self 2 9 v2 S = some S' → mOk l mX4_readOne (8 + d) [.ref 1, .ref 9, .int v2] b S none S') (Hs3 : ∀ {v2 : Int32} {S S' : mT}, self 3 9 v2 S = some S' → mOk l mX4_readSum (8 + d) [.ref 1, .ref 9, .int v2] b S none S') (Hs4 : ∀ {v2 : Int32} {S S' : mT}, self 4 9 v2 S = some S' → mOk l mX4_readTerm (8 + d) [.ref 1, .ref 9, .int v2] b S none S') (Hs5 : ∀ {v2 : Int32} {S S' : mT}, self 5 9 v2 S = some S' → mOk l mX4_readUnit (8 + d) [.ref 1, .ref 9, .int v2] b S none S') {S' : mT} {v2 : Int32} {S : mT} (hf : fX4_readBoth_0 9 self v2 S = some S') (ok : Bool) : mW p l e (mR (8 + (d + 1))) s m args below meth c G 4 233 54500 (mQ below G args s b S' none) (ok, 0, [.ref (1), .ref (9), .int v2, .retAddr 0], [], mk b S) := by
  unfold fX4_readBoth_0 at hf
  refine msegT C kX4_readBoth 0 3 (g := (true, 3, [.ref (1), .ref (9), .int v2, .retAddr 0], [.int v2, .ref (9), .ref (1)], mk b S)) rfl rfl ?_
  obtain ⟨S1, hq, hf⟩ := bndV_ex hf
  refine mcall (kd := 0) (vs := [.ref (1), .ref (9), .int v2]) (rest := []) (r := none) (h' := mk b S1) (ok' := true) C lkRX4_125 (Hs2 hq) (kX4_readBoth _ (List.mem_of_getElem? (i := 3) rfl)).1 ⟨_, _, rfl, rfl, Nat.le_of_ble_eq_true rfl, _, _, rfl, rfl, rfl⟩ (by show 8 + d + 1 ≤ 8 + (d + 1); omega) (by show 19 + 4 + 100 * (8 + d) ≤ 100 * (8 + (d + 1)); omega) (Nat.le_refl _) (Nat.le_refl _) (Nat.le_of_ble_eq_true rfl) ?_
  refine msegT C kX4_readBoth 4 2 (g := (true, 8, [.ref (1), .ref (9), .int v2, .int (0 : Int32)], [], mk b S1)) rfl rfl ?_
  exact mfor (L' := [.ref (1), .ref (9), .int v2, .int (0 : Int32)]) ⟨Or.inr rfl, Or.inr rfl, Or.inr rfl, Or.inr rfl, trivial⟩ (bX4_readBoth_8_9 C hr hk Hs0 Hs1 Hs2 Hs3 Hs4 Hs5 _ _ _ _ hf true)
theorem bX4_readBoth_47_12 {d : Nat} (C : mCx p (mR (8 + (d + 1))) s m args meth c G cX4_readBoth RX4 4 false 233 54500 233 54500) (hr : meth.sig.returnType = none) (hk : meth.locks = false) {b : Bool} {self : Nat → Nat → Int32 → mT → Option (mT)} (Hs0 : ∀ {v2 : Int32} {S S' : mT}, self 0 12 v2 S = some S' → mOk l mX4_readEither (8 + d) [.ref 1, .ref 12, .int v2] b S none S') (Hs1 : ∀ {v2 : Int32} {S S' : mT}, self 1 12 v2 S = some S' → mOk l mX4_readBoth (8 + d) [.ref 1, .ref 12, .int v2] b S none S') (Hs2 : ∀ {v2 : Int32} {S S' : mT}, self 2 12 v2 S = some S' → mOk l mX4_readOne (8 + d) [.ref 1, .ref 12, .int v2] b S none S') (Hs3 : ∀ {v2 : Int32} {S S' : mT}, self 3 12 v2 S = some S' → mOk l mX4_readSum (8 + d) [.ref 1, .ref 12, .int v2] b S none S') (Hs4 : ∀ {v2 : Int32} {S S' : mT}, self 4 12 v2 S = some S' → mOk l mX4_readTerm (8 + d) [.ref 1, .ref 12, .int v2] b S none S') (Hs5 : ∀ {v2 : Int32} {S S' : mT}, self 5 12 v2 S = some S' → mOk l mX4_readUnit (8 + d) [.ref 1, .ref 12, .int v2] b S none S') {S' : mT} {S : mT} (hf : fX4_readBoth_47 12 self S = some S') (ok : Bool) : mW p l e (mR (8 + (d + 1))) s m args below meth c G 4 233 54500 (mQ below G args s b S' none) (ok, 47, [.retAddr 0, .retAddr 0, .retAddr 0, .retAddr 0], [], mk b S) := by
  unfold fX4_readBoth_47 at hf
  cases hf
  exact gret_v C hr hk (kX4_readBoth _ (List.mem_of_getElem? (i := 24) rfl)).1
theorem bX4_readBoth_8_12 {d : Nat} (C : mCx p (mR (8 + (d + 1))) s m args meth c G cX4_readBoth RX4 4 false 233 54500 233 54500) (hr : meth.sig.returnType = none) (hk : meth.locks = false) {b : Bool} {self : Nat → Nat → Int32 → mT → Option (mT)} (Hs0 : ∀ {v2 : Int32} {S S' : mT}, self 0 12 v2 S = some S' → mOk l mX4_readEither (8 + d) [.ref 1, .ref 12, .int v2] b S none S') (Hs1 : ∀ {v2 : Int32} {S S' : mT}, self 1 12 v2 S = some S' → mOk l mX4_readBoth (8 + d) [.ref 1, .ref 12, .int v2] b S none S') (Hs2 : ∀ {v2 : Int32} {S S' : mT}, self 2 12 v2 S = some S' → mOk l mX4_readOne (8 + d) [.ref 1, .ref 12, .int v2] b S none S') (Hs3 : ∀ {v2 : Int32} {S S' : mT}, self 3 12 v2 S = some S' → mOk l mX4_readSum (8 + d) [.ref 1, .ref 12, .int v2] b S none S') (Hs4 : ∀ {v2 : Int32} {S S' : mT}, self 4 12 v2 S = some S' → mOk l mX4_readTerm (8 + d) [.ref 1, .ref 12, .int v2] b S none S') (Hs5 : ∀ {v2 : Int32} {S S' : mT}, self 5 12 v2 S = some S' → mOk l mX4_readUnit (8 + d) [.ref 1, .ref 12, .int v2] b S none S') {S' : mT} : ∀ (k : Nat) (v2 : Int32) (v3 : Int32) (S : mT), fX4_readBoth_8 12 self k v2 v3 S = some S' → ∀ ok : Bool, mW p l e (mR (8 + (d + 1))) s m args below meth c G 4 233 54500 (mQ below G args s b S' none) (ok, 8, [.ref (1), .ref (12), .int v2, .int v3], [], mk b S) := by
  intro k
  induction k with
  | zero =>
    intro v2 v3 S hf ok
    cases hf
  | succ k ih =>
    intro v2 v3 S hf ok
    unfold fX4_readBoth_8 at hf
    refine msegT C kX4_readBoth 6 3 (g := (true, (if (1600 : Int32) ≤ v3 then 47 else 15), [.ref (1), .ref (12), .int v2, .int v3], [], mk b S)) rfl rfl ?_
    by_cases hc : (1600 : Int32) ≤ v3
    · rw [if_pos hc] at hf ⊢
      exact mfor (L' := [.retAddr 0, .retAddr 0, .retAddr 0, .retAddr 0]) ⟨Or.inl rfl, Or.inl rfl, Or.inl rfl, Or.inl rfl, trivial⟩ (bX4_readBoth_47_12 C hr hk Hs0 Hs1 Hs2 Hs3 Hs4 Hs5 hf true)
    · rw [if_neg hc] at hf ⊢
      refine msegT C kX4_readBoth 9 2 (g := (true, 18, [.ref (1), .ref (12), .int v2, .int v3], [.ref 900010, .ref (1)], mk b S)) rfl rfl ?_
      obtain ⟨x3, S2, hq, hf⟩ := bndC_ex hf
      refine mcall (kd := 0) (vs := [.ref (1), .ref 900010]) (rest := []) (r := (some (.int x3))) (h' := mk b S2) (ok' := true) C lkRX4_38 (qX4_isWord_900010 hq) (kX4_readBoth _ (List.mem_of_getElem? (i := 11) rfl)).1 ⟨_, _, rfl, rfl, Nat.le_of_ble_eq_true rfl, _, _, rfl, rfl, rfl⟩ (by show 6 + 1 ≤ 8 + (d + 1); omega) (by show 19 + 4 + 100 * (6) ≤ 100 * (8 + (d + 1)); omega) (Nat.le_refl _) (Nat.le_refl _) (Nat.le_of_ble_eq_true rfl) ?_
      refine msegT C kX4_readBoth 12 1 (g := (true, (if x3 = 0 then 47 else 24), [.ref (1), .ref (12), .int v2, .int v3], [], mk b S2)) rfl rfl ?_
      by_cases hc : x3 = 0
      · rw [if_pos hc] at hf ⊢
        exact mfor (L' := [.retAddr 0, .retAddr 0, .retAddr 0, .retAddr 0]) ⟨Or.inl rfl, Or.inl rfl, Or.inl rfl, Or.inl rfl, trivial⟩ (bX4_readBoth_47_12 C hr hk Hs0 Hs1 Hs2 Hs3 Hs4 Hs5 hf true)
      · rw [if_neg hc] at hf ⊢
        refine msegT C kX4_readBoth 13 1 (g := (true, 25, [.ref (1), .ref (12), .int v2, .int v3], [.ref (1)], mk b S2)) rfl rfl ?_
        obtain ⟨S4, hq, hf⟩ := bndV_ex hf
        refine mcall (kd := 0) (vs := [.ref (1)]) (rest := []) (r := none) (h' := mk b S4) (ok' := true) C lkRX4_30 (qX4_advance hq) (kX4_readBoth _ (List.mem_of_getElem? (i := 14) rfl)).1 ⟨_, _, rfl, rfl, Nat.le_of_ble_eq_true rfl, _, _, rfl, rfl, rfl⟩ (by show 3 + 1 ≤ 8 + (d + 1); omega) (by show 19 + 1 + 100 * (3) ≤ 100 * (8 + (d + 1)); omega) (Nat.le_refl _) (Nat.le_refl _) (Nat.le_of_ble_eq_true rfl) ?_
        refine msegT C kX4_readBoth 15 3 (g := (true, 31, [.ref (1), .ref (12), .int v2, .int v3], [.int v2, .ref (12), .ref (1)], mk b S4)) rfl rfl ?_
        obtain ⟨S5, hq, hf⟩ := bndV_ex hf
        refine mcall (kd := 0) (vs := [.ref (1), .ref (12), .int v2]) (rest := []) (r := none) (h' := mk b S5) (ok' := true) C lkRX4_125 (Hs2 hq) (kX4_readBoth _ (List.mem_of_getElem? (i := 18) rfl)).1 ⟨_, _, rfl, rfl, Nat.le_of_ble_eq_true rfl, _, _, rfl, rfl, rfl⟩ (by show 8 + d + 1 ≤ 8 + (d + 1); omega) (by show 19 + 4 + 100 * (8 + d) ≤ 100 * (8 + (d + 1)); omega) (Nat.le_refl _) (Nat.le_refl _) (Nat.le_of_ble_eq_true rfl) ?_
        refine msegT C kX4_readBoth 19 2 (g := (true, 38, [.ref (1), .ref (12), .int v2, .int v3], [.int (20038 : Int32), .ref (12)], mk b S5)) rfl rfl ?_
        obtain ⟨S6, hq, hf⟩ := bndV_ex hf
        refine mcall (kd := 0) (vs := [.ref (12), .int (20038 : Int32)]) (rest := []) (r := none) (h' := mk b S6) (ok' := true) C lkRX4_122 (qX0_add_12 hq) (kX4_readBoth _ (List.mem_of_getElem? (i := 21) rfl)).1 ⟨_, _, rfl, rfl, Nat.le_of_ble_eq_true rfl, _, _, rfl, rfl, rfl⟩ (by show 1 + 1 ≤ 8 + (d + 1); omega) (by show 19 + 2 + 100 * (1) ≤ 100 * (8 + (d + 1)); omega) (Nat.le_refl _) (Nat.le_refl _) (Nat.le_of_ble_eq_true rfl) ?_
        refine msegT C kX4_readBoth 22 1 (g := (true, 44, [.ref (1), .ref (12), .int v2, .int (v3 + (1 : Int32))], [], mk b S6)) rfl rfl ?_
        obtain ⟨x7, ex7, hf⟩ := bnd_ex hf
        rw [← ex7]
        refine msegT C kX4_readBoth 23 1 (g := (true, 8, [.ref (1), .ref (12), .int v2, .int x7], [], mk b S6)) rfl rfl ?_
        exact mfor (L' := [.ref (1), .ref (12), .int v2, .int x7]) ⟨Or.inr rfl, Or.inr rfl, Or.inr rfl, Or.inr rfl, trivial⟩ (ih _ _ _ hf true)
theorem bX4_readBoth_0_12 {d : Nat} (C : mCx p (mR (8 + (d + 1))) s m args meth c G cX4_readBoth RX4 4 false 233 54500 233 54500) (hr : meth.sig.returnType = none) (hk : meth.locks = false) {b : Bool} {self : Nat → Nat → Int32 → mT → Option (mT)} (Hs0 : ∀ {v2 : Int32} {S S' : mT}, self 0 12 v2 S = some S' → mOk l mX4_readEither (8 + d) [.ref 1, .ref 12, .int v2] b S none S') (Hs1 : ∀ {v2 : Int32} {S S' : mT}, self 1 12 v2 S = some S' → mOk l mX4_readBoth (8 + d) [.ref 1, .ref 12, .int v2] b S none S') (Hs2 : ∀ {v2 : Int32} {S S' : mT}, self 2 12 v2 S = some S' → mOk l mX4_readOne (8 + d) [.ref 1, .ref 12, .int v2] b S none S') (Hs3 : ∀ {v2 : Int32} {S S' : mT}, self 3 12 v2 S = some S' → mOk l mX4_readSum (8 + d) [.ref 1, .ref 12, .int v2] b S none S') (Hs4 : ∀ {v2 : Int32} {S S' : mT}, self 4 12 v2 S = some S' → mOk l mX4_readTerm (8 + d) [.ref 1, .ref 12, .int v2] b S none S') (Hs5 : ∀ {v2 : Int32} {S S' : mT}, self 5 12 v2 S = some S' → mOk l mX4_readUnit (8 + d) [.ref 1, .ref 12, .int v2] b S none S') {S' : mT} {v2 : Int32} {S : mT} (hf : fX4_readBoth_0 12 self v2 S = some S') (ok : Bool) : mW p l e (mR (8 + (d + 1))) s m args below meth c G 4 233 54500 (mQ below G args s b S' none) (ok, 0, [.ref (1), .ref (12), .int v2, .retAddr 0], [], mk b S) := by
  unfold fX4_readBoth_0 at hf
  refine msegT C kX4_readBoth 0 3 (g := (true, 3, [.ref (1), .ref (12), .int v2, .retAddr 0], [.int v2, .ref (12), .ref (1)], mk b S)) rfl rfl ?_
  obtain ⟨S1, hq, hf⟩ := bndV_ex hf
  refine mcall (kd := 0) (vs := [.ref (1), .ref (12), .int v2]) (rest := []) (r := none) (h' := mk b S1) (ok' := true) C lkRX4_125 (Hs2 hq) (kX4_readBoth _ (List.mem_of_getElem? (i := 3) rfl)).1 ⟨_, _, rfl, rfl, Nat.le_of_ble_eq_true rfl, _, _, rfl, rfl, rfl⟩ (by show 8 + d + 1 ≤ 8 + (d + 1); omega) (by show 19 + 4 + 100 * (8 + d) ≤ 100 * (8 + (d + 1)); omega) (Nat.le_refl _) (Nat.le_refl _) (Nat.le_of_ble_eq_true rfl) ?_
  refine msegT C kX4_readBoth 4 2 (g := (true, 8, [.ref (1), .ref (12), .int v2, .int (0 : Int32)], [], mk b S1)) rfl rfl ?_
  exact mfor (L' := [.ref (1), .ref (12), .int v2, .int (0 : Int32)]) ⟨Or.inr rfl, Or.inr rfl, Or.inr rfl, Or.inr rfl, trivial⟩ (bX4_readBoth_8_12 C hr hk Hs0 Hs1 Hs2 Hs3 Hs4 Hs5 _ _ _ _ hf true)
theorem bX4_readBoth_47_15 {d : Nat} (C : mCx p (mR (8 + (d + 1))) s m args meth c G cX4_readBoth RX4 4 false 233 54500 233 54500) (hr : meth.sig.returnType = none) (hk : meth.locks = false) {b : Bool} {self : Nat → Nat → Int32 → mT → Option (mT)} (Hs0 : ∀ {v2 : Int32} {S S' : mT}, self 0 15 v2 S = some S' → mOk l mX4_readEither (8 + d) [.ref 1, .ref 15, .int v2] b S none S') (Hs1 : ∀ {v2 : Int32} {S S' : mT}, self 1 15 v2 S = some S' → mOk l mX4_readBoth (8 + d) [.ref 1, .ref 15, .int v2] b S none S') (Hs2 : ∀ {v2 : Int32} {S S' : mT}, self 2 15 v2 S = some S' → mOk l mX4_readOne (8 + d) [.ref 1, .ref 15, .int v2] b S none S') (Hs3 : ∀ {v2 : Int32} {S S' : mT}, self 3 15 v2 S = some S' → mOk l mX4_readSum (8 + d) [.ref 1, .ref 15, .int v2] b S none S') (Hs4 : ∀ {v2 : Int32} {S S' : mT}, self 4 15 v2 S = some S' → mOk l mX4_readTerm (8 + d) [.ref 1, .ref 15, .int v2] b S none S') (Hs5 : ∀ {v2 : Int32} {S S' : mT}, self 5 15 v2 S = some S' → mOk l mX4_readUnit (8 + d) [.ref 1, .ref 15, .int v2] b S none S') {S' : mT} {S : mT} (hf : fX4_readBoth_47 15 self S = some S') (ok : Bool) : mW p l e (mR (8 + (d + 1))) s m args below meth c G 4 233 54500 (mQ below G args s b S' none) (ok, 47, [.retAddr 0, .retAddr 0, .retAddr 0, .retAddr 0], [], mk b S) := by
  unfold fX4_readBoth_47 at hf
  cases hf
  exact gret_v C hr hk (kX4_readBoth _ (List.mem_of_getElem? (i := 24) rfl)).1
theorem bX4_readBoth_8_15 {d : Nat} (C : mCx p (mR (8 + (d + 1))) s m args meth c G cX4_readBoth RX4 4 false 233 54500 233 54500) (hr : meth.sig.returnType = none) (hk : meth.locks = false) {b : Bool} {self : Nat → Nat → Int32 → mT → Option (mT)} (Hs0 : ∀ {v2 : Int32} {S S' : mT}, self 0 15 v2 S = some S' → mOk l mX4_readEither (8 + d) [.ref 1, .ref 15, .int v2] b S none S') (Hs1 : ∀ {v2 : Int32} {S S' : mT}, self 1 15 v2 S = some S' → mOk l mX4_readBoth (8 + d) [.ref 1, .ref 15, .int v2] b S none S') (Hs2 : ∀ {v2 : Int32} {S S' : mT}, self 2 15 v2 S = some S' → mOk l mX4_readOne (8 + d) [.ref 1, .ref 15, .int v2] b S none S') (Hs3 : ∀ {v2 : Int32} {S S' : mT}, self 3 15 v2 S = some S' → mOk l mX4_readSum (8 + d) [.ref 1, .ref 15, .int v2] b S none S') (Hs4 : ∀ {v2 : Int32} {S S' : mT}, self 4 15 v2 S = some S' → mOk l mX4_readTerm (8 + d) [.ref 1, .ref 15, .int v2] b S none S') (Hs5 : ∀ {v2 : Int32} {S S' : mT}, self 5 15 v2 S = some S' → mOk l mX4_readUnit (8 + d) [.ref 1, .ref 15, .int v2] b S none S') {S' : mT} : ∀ (k : Nat) (v2 : Int32) (v3 : Int32) (S : mT), fX4_readBoth_8 15 self k v2 v3 S = some S' → ∀ ok : Bool, mW p l e (mR (8 + (d + 1))) s m args below meth c G 4 233 54500 (mQ below G args s b S' none) (ok, 8, [.ref (1), .ref (15), .int v2, .int v3], [], mk b S) := by
  intro k
  induction k with
  | zero =>
    intro v2 v3 S hf ok
    cases hf
  | succ k ih =>
    intro v2 v3 S hf ok
    unfold fX4_readBoth_8 at hf
    refine msegT C kX4_readBoth 6 3 (g := (true, (if (1600 : Int32) ≤ v3 then 47 else 15), [.ref (1), .ref (15), .int v2, .int v3], [], mk b S)) rfl rfl ?_
    by_cases hc : (1600 : Int32) ≤ v3
    · rw [if_pos hc] at hf ⊢
      exact mfor (L' := [.retAddr 0, .retAddr 0, .retAddr 0, .retAddr 0]) ⟨Or.inl rfl, Or.inl rfl, Or.inl rfl, Or.inl rfl, trivial⟩ (bX4_readBoth_47_15 C hr hk Hs0 Hs1 Hs2 Hs3 Hs4 Hs5 hf true)
    · rw [if_neg hc] at hf ⊢
      refine msegT C kX4_readBoth 9 2 (g := (true, 18, [.ref (1), .ref (15), .int v2, .int v3], [.ref 900010, .ref (1)], mk b S)) rfl rfl ?_
      obtain ⟨x3, S2, hq, hf⟩ := bndC_ex hf
      refine mcall (kd := 0) (vs := [.ref (1), .ref 900010]) (rest := []) (r := (some (.int x3))) (h' := mk b S2) (ok' := true) C lkRX4_38 (qX4_isWord_900010 hq) (kX4_readBoth _ (List.mem_of_getElem? (i := 11) rfl)).1 ⟨_, _, rfl, rfl, Nat.le_of_ble_eq_true rfl, _, _, rfl, rfl, rfl⟩ (by show 6 + 1 ≤ 8 + (d + 1); omega) (by show 19 + 4 + 100 * (6) ≤ 100 * (8 + (d + 1)); omega) (Nat.le_refl _) (Nat.le_refl _) (Nat.le_of_ble_eq_true rfl) ?_
      refine msegT C kX4_readBoth 12 1 (g := (true, (if x3 = 0 then 47 else 24), [.ref (1), .ref (15), .int v2, .int v3], [], mk b S2)) rfl rfl ?_
      by_cases hc : x3 = 0
      · rw [if_pos hc] at hf ⊢
        exact mfor (L' := [.retAddr 0, .retAddr 0, .retAddr 0, .retAddr 0]) ⟨Or.inl rfl, Or.inl rfl, Or.inl rfl, Or.inl rfl, trivial⟩ (bX4_readBoth_47_15 C hr hk Hs0 Hs1 Hs2 Hs3 Hs4 Hs5 hf true)
      · rw [if_neg hc] at hf ⊢
        refine msegT C kX4_readBoth 13 1 (g := (true, 25, [.ref (1), .ref (15), .int v2, .int v3], [.ref (1)], mk b S2)) rfl rfl ?_
        obtain ⟨S4, hq, hf⟩ := bndV_ex hf
        refine mcall (kd := 0) (vs := [.ref (1)]) (rest := []) (r := none) (h' := mk b S4) (ok' := true) C lkRX4_30 (qX4_advance hq) (kX4_readBoth _ (List.mem_of_getElem? (i := 14) rfl)).1 ⟨_, _, rfl, rfl, Nat.le_of_ble_eq_true rfl, _, _, rfl, rfl, rfl⟩ (by show 3 + 1 ≤ 8 + (d + 1); omega) (by show 19 + 1 + 100 * (3) ≤ 100 * (8 + (d + 1)); omega) (Nat.le_refl _) (Nat.le_refl _) (Nat.le_of_ble_eq_true rfl) ?_
        refine msegT C kX4_readBoth 15 3 (g := (true, 31, [.ref (1), .ref (15), .int v2, .int v3], [.int v2, .ref (15), .ref (1)], mk b S4)) rfl rfl ?_
        obtain ⟨S5, hq, hf⟩ := bndV_ex hf
        refine mcall (kd := 0) (vs := [.ref (1), .ref (15), .int v2]) (rest := []) (r := none) (h' := mk b S5) (ok' := true) C lkRX4_125 (Hs2 hq) (kX4_readBoth _ (List.mem_of_getElem? (i := 18) rfl)).1 ⟨_, _, rfl, rfl, Nat.le_of_ble_eq_true rfl, _, _, rfl, rfl, rfl⟩ (by show 8 + d + 1 ≤ 8 + (d + 1); omega) (by show 19 + 4 + 100 * (8 + d) ≤ 100 * (8 + (d + 1)); omega) (Nat.le_refl _) (Nat.le_refl _) (Nat.le_of_ble_eq_true rfl) ?_
        refine msegT C kX4_readBoth 19 2 (g := (true, 38, [.ref (1), .ref (15), .int v2, .int v3], [.int (20038 : Int32), .ref (15)], mk b S5)) rfl rfl ?_
        obtain ⟨S6, hq, hf⟩ := bndV_ex hf
        refine mcall (kd := 0) (vs := [.ref (15), .int (20038 : Int32)]) (rest := []) (r := none) (h' := mk b S6) (ok' := true) C lkRX4_122 (qX0_add_15 hq) (kX4_readBoth _ (List.mem_of_getElem? (i := 21) rfl)).1 ⟨_, _, rfl, rfl, Nat.le_of_ble_eq_true rfl, _, _, rfl, rfl, rfl⟩ (by show 1 + 1 ≤ 8 + (d + 1); omega) (by show 19 + 2 + 100 * (1) ≤ 100 * (8 + (d + 1)); omega) (Nat.le_refl _) (Nat.le_refl _) (Nat.le_of_ble_eq_true rfl) ?_
        refine msegT C kX4_readBoth 22 1 (g := (true, 44, [.ref (1), .ref (15), .int v2, .int (v3 + (1 : Int32))], [], mk b S6)) rfl rfl ?_
        obtain ⟨x7, ex7, hf⟩ := bnd_ex hf
        rw [← ex7]
        refine msegT C kX4_readBoth 23 1 (g := (true, 8, [.ref (1), .ref (15), .int v2, .int x7], [], mk b S6)) rfl rfl ?_
        exact mfor (L' := [.ref (1), .ref (15), .int v2, .int x7]) ⟨Or.inr rfl, Or.inr rfl, Or.inr rfl, Or.inr rfl, trivial⟩ (ih _ _ _ hf true)
theorem bX4_readBoth_0_15 {d : Nat} (C : mCx p (mR (8 + (d + 1))) s m args meth c G cX4_readBoth RX4 4 false 233 54500 233 54500) (hr : meth.sig.returnType = none) (hk : meth.locks = false) {b : Bool} {self : Nat → Nat → Int32 → mT → Option (mT)} (Hs0 : ∀ {v2 : Int32} {S S' : mT}, self 0 15 v2 S = some S' → mOk l mX4_readEither (8 + d) [.ref 1, .ref 15, .int v2] b S none S') (Hs1 : ∀ {v2 : Int32} {S S' : mT}, self 1 15 v2 S = some S' → mOk l mX4_readBoth (8 + d) [.ref 1, .ref 15, .int v2] b S none S') (Hs2 : ∀ {v2 : Int32} {S S' : mT}, self 2 15 v2 S = some S' → mOk l mX4_readOne (8 + d) [.ref 1, .ref 15, .int v2] b S none S') (Hs3 : ∀ {v2 : Int32} {S S' : mT}, self 3 15 v2 S = some S' → mOk l mX4_readSum (8 + d) [.ref 1, .ref 15, .int v2] b S none S') (Hs4 : ∀ {v2 : Int32} {S S' : mT}, self 4 15 v2 S = some S' → mOk l mX4_readTerm (8 + d) [.ref 1, .ref 15, .int v2] b S none S') (Hs5 : ∀ {v2 : Int32} {S S' : mT}, self 5 15 v2 S = some S' → mOk l mX4_readUnit (8 + d) [.ref 1, .ref 15, .int v2] b S none S') {S' : mT} {v2 : Int32} {S : mT} (hf : fX4_readBoth_0 15 self v2 S = some S') (ok : Bool) : mW p l e (mR (8 + (d + 1))) s m args below meth c G 4 233 54500 (mQ below G args s b S' none) (ok, 0, [.ref (1), .ref (15), .int v2, .retAddr 0], [], mk b S) := by
  unfold fX4_readBoth_0 at hf
  refine msegT C kX4_readBoth 0 3 (g := (true, 3, [.ref (1), .ref (15), .int v2, .retAddr 0], [.int v2, .ref (15), .ref (1)], mk b S)) rfl rfl ?_
  obtain ⟨S1, hq, hf⟩ := bndV_ex hf
  refine mcall (kd := 0) (vs := [.ref (1), .ref (15), .int v2]) (rest := []) (r := none) (h' := mk b S1) (ok' := true) C lkRX4_125 (Hs2 hq) (kX4_readBoth _ (List.mem_of_getElem? (i := 3) rfl)).1 ⟨_, _, rfl, rfl, Nat.le_of_ble_eq_true rfl, _, _, rfl, rfl, rfl⟩ (by show 8 + d + 1 ≤ 8 + (d + 1); omega) (by show 19 + 4 + 100 * (8 + d) ≤ 100 * (8 + (d + 1)); omega) (Nat.le_refl _) (Nat.le_refl _) (Nat.le_of_ble_eq_true rfl) ?_
  refine msegT C kX4_readBoth 4 2 (g := (true, 8, [.ref (1), .ref (15), .int v2, .int (0 : Int32)], [], mk b S1)) rfl rfl ?_
  exact mfor (L' := [.ref (1), .ref (15), .int v2, .int (0 : Int32)]) ⟨Or.inr rfl, Or.inr rfl, Or.inr rfl, Or.inr rfl, trivial⟩ (bX4_readBoth_8_15 C hr hk Hs0 Hs1 Hs2 Hs3 Hs4 Hs5 _ _ _ _ hf true)
theorem bX4_readBoth_47_25 {d : Nat} (C : mCx p (mR (8 + (d + 1))) s m args meth c G cX4_readBoth RX4 4 false 233 54500 233 54500) (hr : meth.sig.returnType = none) (hk : meth.locks = false) {b : Bool} {self : Nat → Nat → Int32 → mT → Option (mT)} (Hs0 : ∀ {v2 : Int32} {S S' : mT}, self 0 25 v2 S = some S' → mOk l mX4_readEither (8 + d) [.ref 1, .ref 25, .int v2] b S none S') (Hs1 : ∀ {v2 : Int32} {S S' : mT}, self 1 25 v2 S = some S' → mOk l mX4_readBoth (8 + d) [.ref 1, .ref 25, .int v2] b S none S') (Hs2 : ∀ {v2 : Int32} {S S' : mT}, self 2 25 v2 S = some S' → mOk l mX4_readOne (8 + d) [.ref 1, .ref 25, .int v2] b S none S') (Hs3 : ∀ {v2 : Int32} {S S' : mT}, self 3 25 v2 S = some S' → mOk l mX4_readSum (8 + d) [.ref 1, .ref 25, .int v2] b S none S') (Hs4 : ∀ {v2 : Int32} {S S' : mT}, self 4 25 v2 S = some S' → mOk l mX4_readTerm (8 + d) [.ref 1, .ref 25, .int v2] b S none S') (Hs5 : ∀ {v2 : Int32} {S S' : mT}, self 5 25 v2 S = some S' → mOk l mX4_readUnit (8 + d) [.ref 1, .ref 25, .int v2] b S none S') {S' : mT} {S : mT} (hf : fX4_readBoth_47 25 self S = some S') (ok : Bool) : mW p l e (mR (8 + (d + 1))) s m args below meth c G 4 233 54500 (mQ below G args s b S' none) (ok, 47, [.retAddr 0, .retAddr 0, .retAddr 0, .retAddr 0], [], mk b S) := by
  unfold fX4_readBoth_47 at hf
  cases hf
  exact gret_v C hr hk (kX4_readBoth _ (List.mem_of_getElem? (i := 24) rfl)).1
theorem bX4_readBoth_8_25 {d : Nat} (C : mCx p (mR (8 + (d + 1))) s m args meth c G cX4_readBoth RX4 4 false 233 54500 233 54500) (hr : meth.sig.returnType = none) (hk : meth.locks = false) {b : Bool} {self : Nat → Nat → Int32 → mT → Option (mT)} (Hs0 : ∀ {v2 : Int32} {S S' : mT}, self 0 25 v2 S = some S' → mOk l mX4_readEither (8 + d) [.ref 1, .ref 25, .int v2] b S none S') (Hs1 : ∀ {v2 : Int32} {S S' : mT}, self 1 25 v2 S = some S' → mOk l mX4_readBoth (8 + d) [.ref 1, .ref 25, .int v2] b S none S') (Hs2 : ∀ {v2 : Int32} {S S' : mT}, self 2 25 v2 S = some S' → mOk l mX4_readOne (8 + d) [.ref 1, .ref 25, .int v2] b S none S') (Hs3 : ∀ {v2 : Int32} {S S' : mT}, self 3 25 v2 S = some S' → mOk l mX4_readSum (8 + d) [.ref 1, .ref 25, .int v2] b S none S') (Hs4 : ∀ {v2 : Int32} {S S' : mT}, self 4 25 v2 S = some S' → mOk l mX4_readTerm (8 + d) [.ref 1, .ref 25, .int v2] b S none S') (Hs5 : ∀ {v2 : Int32} {S S' : mT}, self 5 25 v2 S = some S' → mOk l mX4_readUnit (8 + d) [.ref 1, .ref 25, .int v2] b S none S') {S' : mT} : ∀ (k : Nat) (v2 : Int32) (v3 : Int32) (S : mT), fX4_readBoth_8 25 self k v2 v3 S = some S' → ∀ ok : Bool, mW p l e (mR (8 + (d + 1))) s m args below meth c G 4 233 54500 (mQ below G args s b S' none) (ok, 8, [.ref (1), .ref (25), .int v2, .int v3], [], mk b S) := by
  intro k
  induction k with
  | zero =>
    intro v2 v3 S hf ok
    cases hf
  | succ k ih =>
    intro v2 v3 S hf ok
    unfold fX4_readBoth_8 at hf
    refine msegT C kX4_readBoth 6 3 (g := (true, (if (1600 : Int32) ≤ v3 then 47 else 15), [.ref (1), .ref (25), .int v2, .int v3], [], mk b S)) rfl rfl ?_
    by_cases hc : (1600 : Int32) ≤ v3
    · rw [if_pos hc] at hf ⊢
      exact mfor (L' := [.retAddr 0, .retAddr 0, .retAddr 0, .retAddr 0]) ⟨Or.inl rfl, Or.inl rfl, Or.inl rfl, Or.inl rfl, trivial⟩ (bX4_readBoth_47_25 C hr hk Hs0 Hs1 Hs2 Hs3 Hs4 Hs5 hf true)
    · rw [if_neg hc] at hf ⊢
      refine msegT C kX4_readBoth 9 2 (g := (true, 18, [.ref (1), .ref (25), .int v2, .int v3], [.ref 900010, .ref (1)], mk b S)) rfl rfl ?_
      obtain ⟨x3, S2, hq, hf⟩ := bndC_ex hf
      refine mcall (kd := 0) (vs := [.ref (1), .ref 900010]) (rest := []) (r := (some (.int x3))) (h' := mk b S2) (ok' := true) C lkRX4_38 (qX4_isWord_900010 hq) (kX4_readBoth _ (List.mem_of_getElem? (i := 11) rfl)).1 ⟨_, _, rfl, rfl, Nat.le_of_ble_eq_true rfl, _, _, rfl, rfl, rfl⟩ (by show 6 + 1 ≤ 8 + (d + 1); omega) (by show 19 + 4 + 100 * (6) ≤ 100 * (8 + (d + 1)); omega) (Nat.le_refl _) (Nat.le_refl _) (Nat.le_of_ble_eq_true rfl) ?_
      refine msegT C kX4_readBoth 12 1 (g := (true, (if x3 = 0 then 47 else 24), [.ref (1), .ref (25), .int v2, .int v3], [], mk b S2)) rfl rfl ?_
      by_cases hc : x3 = 0
      · rw [if_pos hc] at hf ⊢
        exact mfor (L' := [.retAddr 0, .retAddr 0, .retAddr 0, .retAddr 0]) ⟨Or.inl rfl, Or.inl rfl, Or.inl rfl, Or.inl rfl, trivial⟩ (bX4_readBoth_47_25 C hr hk Hs0 Hs1 Hs2 Hs3 Hs4 Hs5 hf true)
      · rw [if_neg hc] at hf ⊢
        refine msegT C kX4_readBoth 13 1 (g := (true, 25, [.ref (1), .ref (25), .int v2, .int v3], [.ref (1)], mk b S2)) rfl rfl ?_
        obtain ⟨S4, hq, hf⟩ := bndV_ex hf
        refine mcall (kd := 0) (vs := [.ref (1)]) (rest := []) (r := none) (h' := mk b S4) (ok' := true) C lkRX4_30 (qX4_advance hq) (kX4_readBoth _ (List.mem_of_getElem? (i := 14) rfl)).1 ⟨_, _, rfl, rfl, Nat.le_of_ble_eq_true rfl, _, _, rfl, rfl, rfl⟩ (by show 3 + 1 ≤ 8 + (d + 1); omega) (by show 19 + 1 + 100 * (3) ≤ 100 * (8 + (d + 1)); omega) (Nat.le_refl _) (Nat.le_refl _) (Nat.le_of_ble_eq_true rfl) ?_
        refine msegT C kX4_readBoth 15 3 (g := (true, 31, [.ref (1), .ref (25), .int v2, .int v3], [.int v2, .ref (25), .ref (1)], mk b S4)) rfl rfl ?_
        obtain ⟨S5, hq, hf⟩ := bndV_ex hf
        refine mcall (kd := 0) (vs := [.ref (1), .ref (25), .int v2]) (rest := []) (r := none) (h' := mk b S5) (ok' := true) C lkRX4_125 (Hs2 hq) (kX4_readBoth _ (List.mem_of_getElem? (i := 18) rfl)).1 ⟨_, _, rfl, rfl, Nat.le_of_ble_eq_true rfl, _, _, rfl, rfl, rfl⟩ (by show 8 + d + 1 ≤ 8 + (d + 1); omega) (by show 19 + 4 + 100 * (8 + d) ≤ 100 * (8 + (d + 1)); omega) (Nat.le_refl _) (Nat.le_refl _) (Nat.le_of_ble_eq_true rfl) ?_
        refine msegT C kX4_readBoth 19 2 (g := (true, 38, [.ref (1), .ref (25), .int v2, .int v3], [.int (20038 : Int32), .ref (25)], mk b S5)) rfl rfl ?_
        obtain ⟨S6, hq, hf⟩ := bndV_ex hf
        refine mcall (kd := 0) (vs := [.ref (25), .int (20038 : Int32)]) (rest := []) (r := none) (h' := mk b S6) (ok' := true) C lkRX4_122 (qX0_add_25 hq) (kX4_readBoth _ (List.mem_of_getElem? (i := 21) rfl)).1 ⟨_, _, rfl, rfl, Nat.le_of_ble_eq_true rfl, _, _, rfl, rfl, rfl⟩ (by show 1 + 1 ≤ 8 + (d + 1); omega) (by show 19 + 2 + 100 * (1) ≤ 100 * (8 + (d + 1)); omega) (Nat.le_refl _) (Nat.le_refl _) (Nat.le_of_ble_eq_true rfl) ?_
        refine msegT C kX4_readBoth 22 1 (g := (true, 44, [.ref (1), .ref (25), .int v2, .int (v3 + (1 : Int32))], [], mk b S6)) rfl rfl ?_
        obtain ⟨x7, ex7, hf⟩ := bnd_ex hf
        rw [← ex7]
        refine msegT C kX4_readBoth 23 1 (g := (true, 8, [.ref (1), .ref (25), .int v2, .int x7], [], mk b S6)) rfl rfl ?_
        exact mfor (L' := [.ref (1), .ref (25), .int v2, .int x7]) ⟨Or.inr rfl, Or.inr rfl, Or.inr rfl, Or.inr rfl, trivial⟩ (ih _ _ _ hf true)
theorem bX4_readBoth_0_25 {d : Nat} (C : mCx p (mR (8 + (d + 1))) s m args meth c G cX4_readBoth RX4 4 false 233 54500 233 54500) (hr : meth.sig.returnType = none) (hk : meth.locks = false) {b : Bool} {self : Nat → Nat → Int32 → mT → Option (mT)} (Hs0 : ∀ {v2 : Int32} {S S' : mT}, self 0 25 v2 S = some S' → mOk l mX4_readEither (8 + d) [.ref 1, .ref 25, .int v2] b S none S') (Hs1 : ∀ {v2 : Int32} {S S' : mT}, self 1 25 v2 S = some S' → mOk l mX4_readBoth (8 + d) [.ref 1, .ref 25, .int v2] b S none S') (Hs2 : ∀ {v2 : Int32} {S S' : mT}, self 2 25 v2 S = some S' → mOk l mX4_readOne (8 + d) [.ref 1, .ref 25, .int v2] b S none S') (Hs3 : ∀ {v2 : Int32} {S S' : mT}, self 3 25 v2 S = some S' → mOk l mX4_readSum (8 + d) [.ref 1, .ref 25, .int v2] b S none S') (Hs4 : ∀ {v2 : Int32} {S S' : mT}, self 4 25 v2 S = some S' → mOk l mX4_readTerm (8 + d) [.ref 1, .ref 25, .int v2] b S none S') (Hs5 : ∀ {v2 : Int32} {S S' : mT}, self 5 25 v2 S = some S' → mOk l mX4_readUnit (8 + d) [.ref 1, .ref 25, .int v2] b S none S') {S' : mT} {v2 : Int32} {S : mT} (hf : fX4_readBoth_0 25 self v2 S = some S') (ok : Bool) : mW p l e (mR (8 + (d + 1))) s m args below meth c G 4 233 54500 (mQ below G args s b S' none) (ok, 0, [.ref (1), .ref (25), .int v2, .retAddr 0], [], mk b S) := by
  unfold fX4_readBoth_0 at hf
  refine msegT C kX4_readBoth 0 3 (g := (true, 3, [.ref (1), .ref (25), .int v2, .retAddr 0], [.int v2, .ref (25), .ref (1)], mk b S)) rfl rfl ?_
  obtain ⟨S1, hq, hf⟩ := bndV_ex hf
  refine mcall (kd := 0) (vs := [.ref (1), .ref (25), .int v2]) (rest := []) (r := none) (h' := mk b S1) (ok' := true) C lkRX4_125 (Hs2 hq) (kX4_readBoth _ (List.mem_of_getElem? (i := 3) rfl)).1 ⟨_, _, rfl, rfl, Nat.le_of_ble_eq_true rfl, _, _, rfl, rfl, rfl⟩ (by show 8 + d + 1 ≤ 8 + (d + 1); omega) (by show 19 + 4 + 100 * (8 + d) ≤ 100 * (8 + (d + 1)); omega) (Nat.le_refl _) (Nat.le_refl _) (Nat.le_of_ble_eq_true rfl) ?_
  refine msegT C kX4_readBoth 4 2 (g := (true, 8, [.ref (1), .ref (25), .int v2, .int (0 : Int32)], [], mk b S1)) rfl rfl ?_
  exact mfor (L' := [.ref (1), .ref (25), .int v2, .int (0 : Int32)]) ⟨Or.inr rfl, Or.inr rfl, Or.inr rfl, Or.inr rfl, trivial⟩ (bX4_readBoth_8_25 C hr hk Hs0 Hs1 Hs2 Hs3 Hs4 Hs5 _ _ _ _ hf true)
theorem bX4_readBoth_47_28 {d : Nat} (C : mCx p (mR (8 + (d + 1))) s m args meth c G cX4_readBoth RX4 4 false 233 54500 233 54500) (hr : meth.sig.returnType = none) (hk : meth.locks = false) {b : Bool} {self : Nat → Nat → Int32 → mT → Option (mT)} (Hs0 : ∀ {v2 : Int32} {S S' : mT}, self 0 28 v2 S = some S' → mOk l mX4_readEither (8 + d) [.ref 1, .ref 28, .int v2] b S none S') (Hs1 : ∀ {v2 : Int32} {S S' : mT}, self 1 28 v2 S = some S' → mOk l mX4_readBoth (8 + d) [.ref 1, .ref 28, .int v2] b S none S') (Hs2 : ∀ {v2 : Int32} {S S' : mT}, self 2 28 v2 S = some S' → mOk l mX4_readOne (8 + d) [.ref 1, .ref 28, .int v2] b S none S') (Hs3 : ∀ {v2 : Int32} {S S' : mT}, self 3 28 v2 S = some S' → mOk l mX4_readSum (8 + d) [.ref 1, .ref 28, .int v2] b S none S') (Hs4 : ∀ {v2 : Int32} {S S' : mT}, self 4 28 v2 S = some S' → mOk l mX4_readTerm (8 + d) [.ref 1, .ref 28, .int v2] b S none S') (Hs5 : ∀ {v2 : Int32} {S S' : mT}, self 5 28 v2 S = some S' → mOk l mX4_readUnit (8 + d) [.ref 1, .ref 28, .int v2] b S none S') {S' : mT} {S : mT} (hf : fX4_readBoth_47 28 self S = some S') (ok : Bool) : mW p l e (mR (8 + (d + 1))) s m args below meth c G 4 233 54500 (mQ below G args s b S' none) (ok, 47, [.retAddr 0, .retAddr 0, .retAddr 0, .retAddr 0], [], mk b S) := by
  unfold fX4_readBoth_47 at hf
  cases hf
  exact gret_v C hr hk (kX4_readBoth _ (List.mem_of_getElem? (i := 24) rfl)).1
theorem bX4_readBoth_8_28 {d : Nat} (C : mCx p (mR (8 + (d + 1))) s m args meth c G cX4_readBoth RX4 4 false 233 54500 233 54500) (hr : meth.sig.returnType = none) (hk : meth.locks = false) {b : Bool} {self : Nat → Nat → Int32 → mT → Option (mT)} (Hs0 : ∀ {v2 : Int32} {S S' : mT}, self 0 28 v2 S = some S' → mOk l mX4_readEither (8 + d) [.ref 1, .ref 28, .int v2] b S none S') (Hs1 : ∀ {v2 : Int32} {S S' : mT}, self 1 28 v2 S = some S' → mOk l mX4_readBoth (8 + d) [.ref 1, .ref 28, .int v2] b S none S') (Hs2 : ∀ {v2 : Int32} {S S' : mT}, self 2 28 v2 S = some S' → mOk l mX4_readOne (8 + d) [.ref 1, .ref 28, .int v2] b S none S') (Hs3 : ∀ {v2 : Int32} {S S' : mT}, self 3 28 v2 S = some S' → mOk l mX4_readSum (8 + d) [.ref 1, .ref 28, .int v2] b S none S') (Hs4 : ∀ {v2 : Int32} {S S' : mT}, self 4 28 v2 S = some S' → mOk l mX4_readTerm (8 + d) [.ref 1, .ref 28, .int v2] b S none S') (Hs5 : ∀ {v2 : Int32} {S S' : mT}, self 5 28 v2 S = some S' → mOk l mX4_readUnit (8 + d) [.ref 1, .ref 28, .int v2] b S none S') {S' : mT} : ∀ (k : Nat) (v2 : Int32) (v3 : Int32) (S : mT), fX4_readBoth_8 28 self k v2 v3 S = some S' → ∀ ok : Bool, mW p l e (mR (8 + (d + 1))) s m args below meth c G 4 233 54500 (mQ below G args s b S' none) (ok, 8, [.ref (1), .ref (28), .int v2, .int v3], [], mk b S) := by
  intro k
  induction k with
  | zero =>
    intro v2 v3 S hf ok
    cases hf
  | succ k ih =>
    intro v2 v3 S hf ok
    unfold fX4_readBoth_8 at hf
    refine msegT C kX4_readBoth 6 3 (g := (true, (if (1600 : Int32) ≤ v3 then 47 else 15), [.ref (1), .ref (28), .int v2, .int v3], [], mk b S)) rfl rfl ?_
    by_cases hc : (1600 : Int32) ≤ v3
    · rw [if_pos hc] at hf ⊢
      exact mfor (L' := [.retAddr 0, .retAddr 0, .retAddr 0, .retAddr 0]) ⟨Or.inl rfl, Or.inl rfl, Or.inl rfl, Or.inl rfl, trivial⟩ (bX4_readBoth_47_28 C hr hk Hs0 Hs1 Hs2 Hs3 Hs4 Hs5 hf true)
    · rw [if_neg hc] at hf ⊢
      refine msegT C kX4_readBoth 9 2 (g := (true, 18, [.ref (1), .ref (28), .int v2, .int v3], [.ref 900010, .ref (1)], mk b S)) rfl rfl ?_
      obtain ⟨x3, S2, hq, hf⟩ := bndC_ex hf
      refine mcall (kd := 0) (vs := [.ref (1), .ref 900010]) (rest := []) (r := (some (.int x3))) (h' := mk b S2) (ok' := true) C lkRX4_38 (qX4_isWord_900010 hq) (kX4_readBoth _ (List.mem_of_getElem? (i := 11) rfl)).1 ⟨_, _, rfl, rfl, Nat.le_of_ble_eq_true rfl, _, _, rfl, rfl, rfl⟩ (by show 6 + 1 ≤ 8 + (d + 1); omega) (by show 19 + 4 + 100 * (6) ≤ 100 * (8 + (d + 1)); omega) (Nat.le_refl _) (Nat.le_refl _) (Nat.le_of_ble_eq_true rfl) ?_
      refine msegT C kX4_readBoth 12 1 (g := (true, (if x3 = 0 then 47 else 24), [.ref (1), .ref (28), .int v2, .int v3], [], mk b S2)) rfl rfl ?_
      by_cases hc : x3 = 0
      · rw [if_pos hc] at hf ⊢
        exact mfor (L' := [.retAddr 0, .retAddr 0, .retAddr 0, .retAddr 0]) ⟨Or.inl rfl, Or.inl rfl, Or.inl rfl, Or.inl rfl, trivial⟩ (bX4_readBoth_47_28 C hr hk Hs0 Hs1 Hs2 Hs3 Hs4 Hs5 hf true)
      · rw [if_neg hc] at hf ⊢
        refine msegT C kX4_readBoth 13 1 (g := (true, 25, [.ref (1), .ref (28), .int v2, .int v3], [.ref (1)], mk b S2)) rfl rfl ?_
        obtain ⟨S4, hq, hf⟩ := bndV_ex hf
        refine mcall (kd := 0) (vs := [.ref (1)]) (rest := []) (r := none) (h' := mk b S4) (ok' := true) C lkRX4_30 (qX4_advance hq) (kX4_readBoth _ (List.mem_of_getElem? (i := 14) rfl)).1 ⟨_, _, rfl, rfl, Nat.le_of_ble_eq_true rfl, _, _, rfl, rfl, rfl⟩ (by show 3 + 1 ≤ 8 + (d + 1); omega) (by show 19 + 1 + 100 * (3) ≤ 100 * (8 + (d + 1)); omega) (Nat.le_refl _) (Nat.le_refl _) (Nat.le_of_ble_eq_true rfl) ?_
        refine msegT C kX4_readBoth 15 3 (g := (true, 31, [.ref (1), .ref (28), .int v2, .int v3], [.int v2, .ref (28), .ref (1)], mk b S4)) rfl rfl ?_
        obtain ⟨S5, hq, hf⟩ := bndV_ex hf
        refine mcall (kd := 0) (vs := [.ref (1), .ref (28), .int v2]) (rest := []) (r := none) (h' := mk b S5) (ok' := true) C lkRX4_125 (Hs2 hq) (kX4_readBoth _ (List.mem_of_getElem? (i := 18) rfl)).1 ⟨_, _, rfl, rfl, Nat.le_of_ble_eq_true rfl, _, _, rfl, rfl, rfl⟩ (by show 8 + d + 1 ≤ 8 + (d + 1); omega) (by show 19 + 4 + 100 * (8 + d) ≤ 100 * (8 + (d + 1)); omega) (Nat.le_refl _) (Nat.le_refl _) (Nat.le_of_ble_eq_true rfl) ?_
        refine msegT C kX4_readBoth 19 2 (g := (true, 38, [.ref (1), .ref (28), .int v2, .int v3], [.int (20038 : Int32), .ref (28)], mk b S5)) rfl rfl ?_
        obtain ⟨S6, hq, hf⟩ := bndV_ex hf
        refine mcall (kd := 0) (vs := [.ref (28), .int (20038 : Int32)]) (rest := []) (r := none) (h' := mk b S6) (ok' := true) C lkRX4_122 (qX0_add_28 hq) (kX4_readBoth _ (List.mem_of_getElem? (i := 21) rfl)).1 ⟨_, _, rfl, rfl, Nat.le_of_ble_eq_true rfl, _, _, rfl, rfl, rfl⟩ (by show 1 + 1 ≤ 8 + (d + 1); omega) (by show 19 + 2 + 100 * (1) ≤ 100 * (8 + (d + 1)); omega) (Nat.le_refl _) (Nat.le_refl _) (Nat.le_of_ble_eq_true rfl) ?_
        refine msegT C kX4_readBoth 22 1 (g := (true, 44, [.ref (1), .ref (28), .int v2, .int (v3 + (1 : Int32))], [], mk b S6)) rfl rfl ?_
        obtain ⟨x7, ex7, hf⟩ := bnd_ex hf
        rw [← ex7]
        refine msegT C kX4_readBoth 23 1 (g := (true, 8, [.ref (1), .ref (28), .int v2, .int x7], [], mk b S6)) rfl rfl ?_
        exact mfor (L' := [.ref (1), .ref (28), .int v2, .int x7]) ⟨Or.inr rfl, Or.inr rfl, Or.inr rfl, Or.inr rfl, trivial⟩ (ih _ _ _ hf true)
theorem bX4_readBoth_0_28 {d : Nat} (C : mCx p (mR (8 + (d + 1))) s m args meth c G cX4_readBoth RX4 4 false 233 54500 233 54500) (hr : meth.sig.returnType = none) (hk : meth.locks = false) {b : Bool} {self : Nat → Nat → Int32 → mT → Option (mT)} (Hs0 : ∀ {v2 : Int32} {S S' : mT}, self 0 28 v2 S = some S' → mOk l mX4_readEither (8 + d) [.ref 1, .ref 28, .int v2] b S none S') (Hs1 : ∀ {v2 : Int32} {S S' : mT}, self 1 28 v2 S = some S' → mOk l mX4_readBoth (8 + d) [.ref 1, .ref 28, .int v2] b S none S') (Hs2 : ∀ {v2 : Int32} {S S' : mT}, self 2 28 v2 S = some S' → mOk l mX4_readOne (8 + d) [.ref 1, .ref 28, .int v2] b S none S') (Hs3 : ∀ {v2 : Int32} {S S' : mT}, self 3 28 v2 S = some S' → mOk l mX4_readSum (8 + d) [.ref 1, .ref 28, .int v2] b S none S') (Hs4 : ∀ {v2 : Int32} {S S' : mT}, self 4 28 v2 S = some S' → mOk l mX4_readTerm (8 + d) [.ref 1, .ref 28, .int v2] b S none S') (Hs5 : ∀ {v2 : Int32} {S S' : mT}, self 5 28 v2 S = some S' → mOk l mX4_readUnit (8 + d) [.ref 1, .ref 28, .int v2] b S none S') {S' : mT} {v2 : Int32} {S : mT} (hf : fX4_readBoth_0 28 self v2 S = some S') (ok : Bool) : mW p l e (mR (8 + (d + 1))) s m args below meth c G 4 233 54500 (mQ below G args s b S' none) (ok, 0, [.ref (1), .ref (28), .int v2, .retAddr 0], [], mk b S) := by
  unfold fX4_readBoth_0 at hf
  refine msegT C kX4_readBoth 0 3 (g := (true, 3, [.ref (1), .ref (28), .int v2, .retAddr 0], [.int v2, .ref (28), .ref (1)], mk b S)) rfl rfl ?_
  obtain ⟨S1, hq, hf⟩ := bndV_ex hf
  refine mcall (kd := 0) (vs := [.ref (1), .ref (28), .int v2]) (rest := []) (r := none) (h' := mk b S1) (ok' := true) C lkRX4_125 (Hs2 hq) (kX4_readBoth _ (List.mem_of_getElem? (i := 3) rfl)).1 ⟨_, _, rfl, rfl, Nat.le_of_ble_eq_true rfl, _, _, rfl, rfl, rfl⟩ (by show 8 + d + 1 ≤ 8 + (d + 1); omega) (by show 19 + 4 + 100 * (8 + d) ≤ 100 * (8 + (d + 1)); omega) (Nat.le_refl _) (Nat.le_refl _) (Nat.le_of_ble_eq_true rfl) ?_
  refine msegT C kX4_readBoth 4 2 (g := (true, 8, [.ref (1), .ref (28), .int v2, .int (0 : Int32)], [], mk b S1)) rfl rfl ?_
  exact mfor (L' := [.ref (1), .ref (28), .int v2, .int (0 : Int32)]) ⟨Or.inr rfl, Or.inr rfl, Or.inr rfl, Or.inr rfl, trivial⟩ (bX4_readBoth_8_28 C hr hk Hs0 Hs1 Hs2 Hs3 Hs4 Hs5 _ _ _ _ hf true)
theorem bX4_readBoth_47_31 {d : Nat} (C : mCx p (mR (8 + (d + 1))) s m args meth c G cX4_readBoth RX4 4 false 233 54500 233 54500) (hr : meth.sig.returnType = none) (hk : meth.locks = false) {b : Bool} {self : Nat → Nat → Int32 → mT → Option (mT)} (Hs0 : ∀ {v2 : Int32} {S S' : mT}, self 0 31 v2 S = some S' → mOk l mX4_readEither (8 + d) [.ref 1, .ref 31, .int v2] b S none S') (Hs1 : ∀ {v2 : Int32} {S S' : mT}, self 1 31 v2 S = some S' → mOk l mX4_readBoth (8 + d) [.ref 1, .ref 31, .int v2] b S none S') (Hs2 : ∀ {v2 : Int32} {S S' : mT}, self 2 31 v2 S = some S' → mOk l mX4_readOne (8 + d) [.ref 1, .ref 31, .int v2] b S none S') (Hs3 : ∀ {v2 : Int32} {S S' : mT}, self 3 31 v2 S = some S' → mOk l mX4_readSum (8 + d) [.ref 1, .ref 31, .int v2] b S none S') (Hs4 : ∀ {v2 : Int32} {S S' : mT}, self 4 31 v2 S = some S' → mOk l mX4_readTerm (8 + d) [.ref 1, .ref 31, .int v2] b S none S') (Hs5 : ∀ {v2 : Int32} {S S' : mT}, self 5 31 v2 S = some S' → mOk l mX4_readUnit (8 + d) [.ref 1, .ref 31, .int v2] b S none S') {S' : mT} {S : mT} (hf : fX4_readBoth_47 31 self S = some S') (ok : Bool) : mW p l e (mR (8 + (d + 1))) s m args below meth c G 4 233 54500 (mQ below G args s b S' none) (ok, 47, [.retAddr 0, .retAddr 0, .retAddr 0, .retAddr 0], [], mk b S) := by
  unfold fX4_readBoth_47 at hf
  cases hf
  exact gret_v C hr hk (kX4_readBoth _ (List.mem_of_getElem? (i := 24) rfl)).1
theorem bX4_readBoth_8_31 {d : Nat} (C : mCx p (mR (8 + (d + 1))) s m args meth c G cX4_readBoth RX4 4 false 233 54500 233 54500) (hr : meth.sig.returnType = none) (hk : meth.locks = false) {b : Bool} {self : Nat → Nat → Int32 → mT → Option (mT)} (Hs0 : ∀ {v2 : Int32} {S S' : mT}, self 0 31 v2 S = some S' → mOk l mX4_readEither (8 + d) [.ref 1, .ref 31, .int v2] b S none S') (Hs1 : ∀ {v2 : Int32} {S S' : mT}, self 1 31 v2 S = some S' → mOk l mX4_readBoth (8 + d) [.ref 1, .ref 31, .int v2] b S none S') (Hs2 : ∀ {v2 : Int32} {S S' : mT}, self 2 31 v2 S = some S' → mOk l mX4_readOne (8 + d) [.ref 1, .ref 31, .int v2] b S none S') (Hs3 : ∀ {v2 : Int32} {S S' : mT}, self 3 31 v2 S = some S' → mOk l mX4_readSum (8 + d) [.ref 1, .ref 31, .int v2] b S none S') (Hs4 : ∀ {v2 : Int32} {S S' : mT}, self 4 31 v2 S = some S' → mOk l mX4_readTerm (8 + d) [.ref 1, .ref 31, .int v2] b S none S') (Hs5 : ∀ {v2 : Int32} {S S' : mT}, self 5 31 v2 S = some S' → mOk l mX4_readUnit (8 + d) [.ref 1, .ref 31, .int v2] b S none S') {S' : mT} : ∀ (k : Nat) (v2 : Int32) (v3 : Int32) (S : mT), fX4_readBoth_8 31 self k v2 v3 S = some S' → ∀ ok : Bool, mW p l e (mR (8 + (d + 1))) s m args below meth c G 4 233 54500 (mQ below G args s b S' none) (ok, 8, [.ref (1), .ref (31), .int v2, .int v3], [], mk b S) := by
  intro k
  induction k with
  | zero =>
    intro v2 v3 S hf ok
    cases hf
  | succ k ih =>
    intro v2 v3 S hf ok
    unfold fX4_readBoth_8 at hf
    refine msegT C kX4_readBoth 6 3 (g := (true, (if (1600 : Int32) ≤ v3 then 47 else 15), [.ref (1), .ref (31), .int v2, .int v3], [], mk b S)) rfl rfl ?_
    by_cases hc : (1600 : Int32) ≤ v3
    · rw [if_pos hc] at hf ⊢
      exact mfor (L' := [.retAddr 0, .retAddr 0, .retAddr 0, .retAddr 0]) ⟨Or.inl rfl, Or.inl rfl, Or.inl rfl, Or.inl rfl, trivial⟩ (bX4_readBoth_47_31 C hr hk Hs0 Hs1 Hs2 Hs3 Hs4 Hs5 hf true)
    · rw [if_neg hc] at hf ⊢
      refine msegT C kX4_readBoth 9 2 (g := (true, 18, [.ref (1), .ref (31), .int v2, .int v3], [.ref 900010, .ref (1)], mk b S)) rfl rfl ?_
      obtain ⟨x3, S2, hq, hf⟩ := bndC_ex hf
      refine mcall (kd := 0) (vs := [.ref (1), .ref 900010]) (rest := []) (r := (some (.int x3))) (h' := mk b S2) (ok' := true) C lkRX4_38 (qX4_isWord_900010 hq) (kX4_readBoth _ (List.mem_of_getElem? (i := 11) rfl)).1 ⟨_, _, rfl, rfl, Nat.le_of_ble_eq_true rfl, _, _, rfl, rfl, rfl⟩ (by show 6 + 1 ≤ 8 + (d + 1); omega) (by show 19 + 4 + 100 * (6) ≤ 100 * (8 + (d + 1)); omega) (Nat.le_refl _) (Nat.le_refl _) (Nat.le_of_ble_eq_true rfl) ?_
      refine msegT C kX4_readBoth 12 1 (g := (true, (if x3 = 0 then 47 else 24), [.ref (1), .ref (31), .int v2, .int v3], [], mk b S2)) rfl rfl ?_
      by_cases hc : x3 = 0
      · rw [if_pos hc] at hf ⊢
        exact mfor (L' := [.retAddr 0, .retAddr 0, .retAddr 0, .retAddr 0]) ⟨Or.inl rfl, Or.inl rfl, Or.inl rfl, Or.inl rfl, trivial⟩ (bX4_readBoth_47_31 C hr hk Hs0 Hs1 Hs2 Hs3 Hs4 Hs5 hf true)
      · rw [if_neg hc] at hf ⊢
        refine msegT C kX4_readBoth 13 1 (g := (true, 25, [.ref (1), .ref (31), .int v2, .int v3], [.ref (1)], mk b S2)) rfl rfl ?_
        obtain ⟨S4, hq, hf⟩ := bndV_ex hf
        refine mcall (kd := 0) (vs := [.ref (1)]) (rest := []) (r := none) (h' := mk b S4) (ok' := true) C lkRX4_30 (qX4_advance hq) (kX4_readBoth _ (List.mem_of_getElem? (i := 14) rfl)).1 ⟨_, _, rfl, rfl, Nat.le_of_ble_eq_true rfl, _, _, rfl, rfl, rfl⟩ (by show 3 + 1 ≤ 8 + (d + 1); omega) (by show 19 + 1 + 100 * (3) ≤ 100 * (8 + (d + 1)); omega) (Nat.le_refl _) (Nat.le_refl _) (Nat.le_of_ble_eq_true rfl) ?_
        refine msegT C kX4_readBoth 15 3 (g := (true, 31, [.ref (1), .ref (31), .int v2, .int v3], [.int v2, .ref (31), .ref (1)], mk b S4)) rfl rfl ?_
        obtain ⟨S5, hq, hf⟩ := bndV_ex hf
        refine mcall (kd := 0) (vs := [.ref (1), .ref (31), .int v2]) (rest := []) (r := none) (h' := mk b S5) (ok' := true) C lkRX4_125 (Hs2 hq) (kX4_readBoth _ (List.mem_of_getElem? (i := 18) rfl)).1 ⟨_, _, rfl, rfl, Nat.le_of_ble_eq_true rfl, _, _, rfl, rfl, rfl⟩ (by show 8 + d + 1 ≤ 8 + (d + 1); omega) (by show 19 + 4 + 100 * (8 + d) ≤ 100 * (8 + (d + 1)); omega) (Nat.le_refl _) (Nat.le_refl _) (Nat.le_of_ble_eq_true rfl) ?_
        refine msegT C kX4_readBoth 19 2 (g := (true, 38, [.ref (1), .ref (31), .int v2, .int v3], [.int (20038 : Int32), .ref (31)], mk b S5)) rfl rfl ?_
        obtain ⟨S6, hq, hf⟩ := bndV_ex hf
        refine mcall (kd := 0) (vs := [.ref (31), .int (20038 : Int32)]) (rest := []) (r := none) (h' := mk b S6) (ok' := true) C lkRX4_122 (qX0_add_31 hq) (kX4_readBoth _ (List.mem_of_getElem? (i := 21) rfl)).1 ⟨_, _, rfl, rfl, Nat.le_of_ble_eq_true rfl, _, _, rfl, rfl, rfl⟩ (by show 1 + 1 ≤ 8 + (d + 1); omega) (by show 19 + 2 + 100 * (1) ≤ 100 * (8 + (d + 1)); omega) (Nat.le_refl _) (Nat.le_refl _) (Nat.le_of_ble_eq_true rfl) ?_
        refine msegT C kX4_readBoth 22 1 (g := (true, 44, [.ref (1), .ref (31), .int v2, .int (v3 + (1 : Int32))], [], mk b S6)) rfl rfl ?_
        obtain ⟨x7, ex7, hf⟩ := bnd_ex hf
        rw [← ex7]
        refine msegT C kX4_readBoth 23 1 (g := (true, 8, [.ref (1), .ref (31), .int v2, .int x7], [], mk b S6)) rfl rfl ?_
        exact mfor (L' := [.ref (1), .ref (31), .int v2, .int x7]) ⟨Or.inr rfl, Or.inr rfl, Or.inr rfl, Or.inr rfl, trivial⟩ (ih _ _ _ hf true)
theorem bX4_readBoth_0_31 {d : Nat} (C : mCx p (mR (8 + (d + 1))) s m args meth c G cX4_readBoth RX4 4 false 233 54500 233 54500) (hr : meth.sig.returnType = none) (hk : meth.locks = false) {b : Bool} {self : Nat → Nat → Int32 → mT → Option (mT)} (Hs0 : ∀ {v2 : Int32} {S S' : mT}, self 0 31 v2 S = some S' → mOk l mX4_readEither (8 + d) [.ref 1, .ref 31, .int v2] b S none S') (Hs1 : ∀ {v2 : Int32} {S S' : mT}, self 1 31 v2 S = some S' → mOk l mX4_readBoth (8 + d) [.ref 1, .ref 31, .int v2] b S none S') (Hs2 : ∀ {v2 : Int32} {S S' : mT}, self 2 31 v2 S = some S' → mOk l mX4_readOne (8 + d) [.ref 1, .ref 31, .int v2] b S none S') (Hs3 : ∀ {v2 : Int32} {S S' : mT}, self 3 31 v2 S = some S' → mOk l mX4_readSum (8 + d) [.ref 1, .ref 31, .int v2] b S none S') (Hs4 : ∀ {v2 : Int32} {S S' : mT}, self 4 31 v2 S = some S' → mOk l mX4_readTerm (8 + d) [.ref 1, .ref 31, .int v2] b S none S') (Hs5 : ∀ {v2 : Int32} {S S' : mT}, self 5 31 v2 S = some S' → mOk l mX4_readUnit (8 + d) [.ref 1, .ref 31, .int v2] b S none S') {S' : mT} {v2 : Int32} {S : mT} (hf : fX4_readBoth_0 31 self v2 S = some S') (ok : Bool) : mW p l e (mR (8 + (d + 1))) s m args below meth c G 4 233 54500 (mQ below G args s b S' none) (ok, 0, [.ref (1), .ref (31), .int v2, .retAddr 0], [], mk b S) := by
  unfold fX4_readBoth_0 at hf
  refine msegT C kX4_readBoth 0 3 (g := (true, 3, [.ref (1), .ref (31), .int v2, .retAddr 0], [.int v2, .ref (31), .ref (1)], mk b S)) rfl rfl ?_
  obtain ⟨S1, hq, hf⟩ := bndV_ex hf
  refine mcall (kd := 0) (vs := [.ref (1), .ref (31), .int v2]) (rest := []) (r := none) (h' := mk b S1) (ok' := true) C lkRX4_125 (Hs2 hq) (kX4_readBoth _ (List.mem_of_getElem? (i := 3) rfl)).1 ⟨_, _, rfl, rfl, Nat.le_of_ble_eq_true rfl, _, _, rfl, rfl, rfl⟩ (by show 8 + d + 1 ≤ 8 + (d + 1); omega) (by show 19 + 4 + 100 * (8 + d) ≤ 100 * (8 + (d + 1)); omega) (Nat.le_refl _) (Nat.le_refl _) (Nat.le_of_ble_eq_true rfl) ?_
  refine msegT C kX4_readBoth 4 2 (g := (true, 8, [.ref (1), .ref (31), .int v2, .int (0 : Int32)], [], mk b S1)) rfl rfl ?_
  exact mfor (L' := [.ref (1), .ref (31), .int v2, .int (0 : Int32)]) ⟨Or.inr rfl, Or.inr rfl, Or.inr rfl, Or.inr rfl, trivial⟩ (bX4_readBoth_8_31 C hr hk Hs0 Hs1 Hs2 Hs3 Hs4 Hs5 _ _ _ _ hf true)
theorem bX4_readOne_98_9 {d : Nat} (C : mCx p (mR (8 + (d + 1))) s m args meth c G cX4_readOne RX4 4 false 233 54500 233 54500) (hr : meth.sig.returnType = none) (hk : meth.locks = false) {b : Bool} {self : Nat → Nat → Int32 → mT → Option (mT)} (Hs0 : ∀ {v2 : Int32} {S S' : mT}, self 0 9 v2 S = some S' → mOk l mX4_readEither (8 + d) [.ref 1, .ref 9, .int v2] b S none S') (Hs1 : ∀ {v2 : Int32} {S S' : mT}, self 1 9 v2 S = some S' → mOk l mX4_readBoth (8 + d) [.ref 1, .ref 9, .int v2] b S none S') (Hs2 : ∀ {v2 : Int32} {S S' : mT}, self 2 9 v2 S = some S' → mOk l mX4_readOne (8 + d) [.ref 1, .ref 9, .int v2] b S none S') (Hs3 : ∀ {v2 : Int32} {S S' : mT}, self 3 9 v2 S = some S' → mOk l mX4_readSum (8 + d) [.ref 1, .ref 9, .int v2] b S none S') (Hs4 : ∀ {v2 : Int32} {S S' : mT}, self 4 9 v2 S = some S' → mOk l mX4_readTerm (8 + d) [.ref 1, .ref 9, .int v2] b S none S') (Hs5 : ∀ {v2 : Int32} {S S' : mT}, self 5 9 v2 S = some S' → mOk l mX4_readUnit (8 + d) [.ref 1, .ref 9, .int v2] b S none S') {S' : mT} {S : mT} (hf : fX4_readOne_98 9 self S = some S') (ok : Bool) : mW p l e (mR (8 + (d + 1))) s m args below meth c G 4 233 54500 (mQ below G args s b S' none) (ok, 98, [.retAddr 0, .retAddr 0, .retAddr 0, .retAddr 0], [], mk b S) := by
  unfold fX4_readOne_98 at hf
  cases hf
  exact gret_v C hr hk (kX4_readOne _ (List.mem_of_getElem? (i := 53) rfl)).1
theorem bX4_readOne_74_9 {d : Nat} (C : mCx p (mR (8 + (d + 1))) s m args meth c G cX4_readOne RX4 4 false 233 54500 233 54500) (hr : meth.sig.returnType = none) (hk : meth.locks = false) {b : Bool} {self : Nat → Nat → Int32 → mT → Option (mT)} (Hs0 : ∀ {v2 : Int32} {S S' : mT}, self 0 9 v2 S = some S' → mOk l mX4_readEither (8 + d) [.ref 1, .ref 9, .int v2] b S none S') (Hs1 : ∀ {v2 : Int32} {S S' : mT}, self 1 9 v2 S = some S' → mOk l mX4_readBoth (8 + d) [.ref 1, .ref 9, .int v2] b S none S') (Hs2 : ∀ {v2 : Int32} {S S' : mT}, self 2 9 v2 S = some S' → mOk l mX4_readOne (8 + d) [.ref 1, .ref 9, .int v2] b S none S') (Hs3 : ∀ {v2 : Int32} {S S' : mT}, self 3 9 v2 S = some S' → mOk l mX4_readSum (8 + d) [.ref 1, .ref 9, .int v2] b S none S') (Hs4 : ∀ {v2 : Int32} {S S' : mT}, self 4 9 v2 S = some S' → mOk l mX4_readTerm (8 + d) [.ref 1, .ref 9, .int v2] b S none S') (Hs5 : ∀ {v2 : Int32} {S S' : mT}, self 5 9 v2 S = some S' → mOk l mX4_readUnit (8 + d) [.ref 1, .ref 9, .int v2] b S none S') {S' : mT} {v2 : Int32} {S : mT} (hf : fX4_readOne_74 9 self v2 S = some S') (ok : Bool) : mW p l e (mR (8 + (d + 1))) s m args below meth c G 4 233 54500 (mQ below G args s b S' none) (ok, 74, [.ref (1), .ref (9), .int v2, .retAddr 0], [], mk b S) := by
  unfold fX4_readOne_74 at hf
  obtain ⟨hok, hf⟩ := grd_ex hf
  refine msegT C kX4_readOne 39 3 (g := ((kO 1 4 && true), 79, [.ref (1), .ref (9), .int v2, .int (S.1 1 9)], [], mk b S)) rfl hok ?_
  obtain ⟨x14, ex14, hf⟩ := bnd_ex hf
  rw [← ex14]
  refine msegT C kX4_readOne 42 1 (g := (true, 80, [.ref (1), .ref (9), .int v2, .int x14], [.ref (1)], mk b S)) rfl rfl ?_
  obtain ⟨S15, hq, hf⟩ := bndV_ex hf
  refine mcall (kd := 0) (vs := [.ref (1)]) (rest := []) (r := none) (h' := mk b S15) (ok' := true) C lkRX4_30 (qX4_advance hq) (kX4_readOne _ (List.mem_of_getElem? (i := 43) rfl)).1 ⟨_, _, rfl, rfl, Nat.le_of_ble_eq_true rfl, _, _, rfl, rfl, rfl⟩ (by show 3 + 1 ≤ 8 + (d + 1); omega) (by show 19 + 1 + 100 * (3) ≤ 100 * (8 + (d + 1)); omega) (Nat.le_refl _) (Nat.le_refl _) (Nat.le_of_ble_eq_true rfl) ?_
  refine msegT C kX4_readOne 44 3 (g := (true, 86, [.ref (1), .ref (9), .int v2, .int x14], [.int v2, .ref (9), .ref (1)], mk b S15)) rfl rfl ?_
  obtain ⟨S16, hq, hf⟩ := bndV_ex hf
  refine mcall (kd := 0) (vs := [.ref (1), .ref (9), .int v2]) (rest := []) (r := none) (h' := mk b S16) (ok' := true) C lkRX4_132 (Hs3 hq) (kX4_readOne _ (List.mem_of_getElem? (i := 47) rfl)).1 ⟨_, _, rfl, rfl, Nat.le_of_ble_eq_true rfl, _, _, rfl, rfl, rfl⟩ (by show 8 + d + 1 ≤ 8 + (d + 1); omega) (by show 19 + 5 + 100 * (8 + d) ≤ 100 * (8 + (d + 1)); omega) (Nat.le_refl _) (Nat.le_refl _) (Nat.le_of_ble_eq_true rfl) ?_
  refine msegT C kX4_readOne 48 4 (g := (true, 95, [.ref (1), .ref (9), .int v2, .int x14], [.int ((20000 : Int32) + x14), .ref (9)], mk b S16)) rfl rfl ?_
  obtain ⟨S17, hq, hf⟩ := bndV_ex hf
  refine mcall (kd := 0) (vs := [.ref (9), .int ((20000 : Int32) + x14)]) (rest := []) (r := none) (h' := mk b S17) (ok' := true) C lkRX4_122 (qX0_add_9 hq) (kX4_readOne _ (List.mem_of_getElem? (i := 52) rfl)).1 ⟨_, _, rfl, rfl, Nat.le_of_ble_eq_true rfl, _, _, rfl, rfl, rfl⟩ (by show 1 + 1 ≤ 8 + (d + 1); omega) (by show 19 + 2 + 100 * (1) ≤ 100 * (8 + (d + 1)); omega) (Nat.le_refl _) (Nat.le_refl _) (Nat.le_of_ble_eq_true rfl) ?_
  exact mfor (L' := [.retAddr 0, .retAddr 0, .retAddr 0, .retAddr 0]) ⟨Or.inl rfl, Or.inl rfl, Or.inl rfl, Or.inl rfl, trivial⟩ (bX4_readOne_98_9 C hr hk Hs0 Hs1 Hs2 Hs3 Hs4 Hs5 hf true)
theorem bX4_readOne_0_9 {d : Nat} (C : mCx p (mR (8 + (d + 1))) s m args meth c G cX4_readOne RX4 4 false 233 54500 233 54500) (hr : meth.sig.returnType = none) (hk : meth.locks = false) {b : Bool} {self : Nat → Nat → Int32 → mT → Option (mT)} (Hs0 : ∀ {v2 : Int32} {S S' : mT}, self 0 9 v2 S = some S' → mOk l mX4_readEither (8 + d) [.ref 1, .ref 9, .int v2] b S none S') (Hs1 : ∀ {v2 : Int32} {S S' : mT}, self 1 9 v2 S = some S' → mOk l mX4_readBoth (8 + d) [.ref 1, .ref 9, .int v2] b S none S') (Hs2 : ∀ {v2 : Int32} {S S' : mT}, self 2 9 v2 S = some S' → mOk l mX4_readOne (8 + d) [.ref 1, .ref 9, .int v2] b S none S') (Hs3 : ∀ {v2 : Int32} {S S' : mT}, self 3 9 v2 S = some S' → mOk l mX4_readSum (8 + d) [.ref 1, .ref 9, .int v2] b S none S') (Hs4 : ∀ {v2 : Int32} {S S' : mT}, self 4 9 v2 S = some S' → mOk l mX4_readTerm (8 + d) [.ref 1, .ref 9, .int v2] b S none S') (Hs5 : ∀ {v2 : Int32} {S S' : mT}, self 5 9 v2 S = some S' → mOk l mX4_readUnit (8 + d) [.ref 1, .ref 9, .int v2] b S none S') {S' : mT} {v2 : Int32} {S : mT} (hf : fX4_readOne_0 9 self v2 S = some S') (ok : Bool) : mW p l e (mR (8 + (d + 1))) s m args below meth c G 4 233 54500 (mQ below G args s b S' none) (ok, 0, [.ref (1), .ref (9), .int v2, .retAddr 0], [], mk b S) := by
  unfold fX4_readOne_0 at hf
  refine msegT C kX4_readOne 0 2 (g := (true, 3, [.ref (1), .ref (9), .int v2, .retAddr 0], [.ref 900011, .ref (1)], mk b S)) rfl rfl ?_
  obtain ⟨x2, S1, hq, hf⟩ := bndC_ex hf
  refine mcall (kd := 0) (vs := [.ref (1), .ref 900011]) (rest := []) (r := (some (.int x2))) (h' := mk b S1) (ok' := true) C lkRX4_38 (qX4_isWord_900011 hq) (kX4_readOne _ (List.mem_of_getElem? (i := 2) rfl)).1 ⟨_, _, rfl, rfl, Nat.le_of_ble_eq_true rfl, _, _, rfl, rfl, rfl⟩ (by show 6 + 1 ≤ 8 + (d + 1); omega) (by show 19 + 4 + 100 * (6) ≤ 100 * (8 + (d + 1)); omega) (Nat.le_refl _) (Nat.le_refl _) (Nat.le_of_ble_eq_true rfl) ?_
  refine msegT C kX4_readOne 3 1 (g := (true, (if x2 = 0 then 41 else 9), [.ref (1), .ref (9), .int v2, .retAddr 0], [], mk b S1)) rfl rfl ?_
  by_cases hc : x2 = 0
  · rw [if_pos hc] at hf ⊢
    refine msegT C kX4_readOne 23 3 (g := (true, 44, [.ref (1), .ref (9), .int v2, .retAddr 0], [.int v2, .ref (9), .ref (1)], mk b S1)) rfl rfl ?_
    obtain ⟨S3, hq, hf⟩ := bndV_ex hf
    refine mcall (kd := 0) (vs := [.ref (1), .ref (9), .int v2]) (rest := []) (r := none) (h' := mk b S3) (ok' := true) C lkRX4_132 (Hs3 hq) (kX4_readOne _ (List.mem_of_getElem? (i := 26) rfl)).1 ⟨_, _, rfl, rfl, Nat.le_of_ble_eq_true rfl, _, _, rfl, rfl, rfl⟩ (by show 8 + d + 1 ≤ 8 + (d + 1); omega) (by show 19 + 5 + 100 * (8 + d) ≤ 100 * (8 + (d + 1)); omega) (Nat.le_refl _) (Nat.le_refl _) (Nat.le_of_ble_eq_true rfl) ?_
    refine msegT C kX4_readOne 27 2 (g := (true, 50, [.ref (1), .ref (9), .int v2, .retAddr 0], [.int (60 : Int32), .ref (1)], mk b S3)) rfl rfl ?_
    obtain ⟨x5, S4, hq, hf⟩ := bndC_ex hf
    refine mcall (kd := 0) (vs := [.ref (1), .int (60 : Int32)]) (rest := []) (r := (some (.int x5))) (h' := mk b S4) (ok' := true) C lkRX4_135 (qX4_isSign hq) (kX4_readOne _ (List.mem_of_getElem? (i := 29) rfl)).1 ⟨_, _, rfl, rfl, Nat.le_of_ble_eq_true rfl, _, _, rfl, rfl, rfl⟩ (by show 1 + 1 ≤ 8 + (d + 1); omega) (by show 19 + 2 + 100 * (1) ≤ 100 * (8 + (d + 1)); omega) (Nat.le_refl _) (Nat.le_refl _) (Nat.le_of_ble_eq_true rfl) ?_
    refine msegT C kX4_readOne 30 1 (g := (true, (if x5 = 0 then 56 else 74), [.ref (1), .ref (9), .int v2, .retAddr 0], [], mk b S4)) rfl rfl ?_
    by_cases hc : x5 = 0
    · rw [if_pos hc] at hf ⊢
      refine msegT C kX4_readOne 31 2 (g := (true, 59, [.ref (1), .ref (9), .int v2, .retAddr 0], [.int (62 : Int32), .ref (1)], mk b S4)) rfl rfl ?_
      obtain ⟨x7, S6, hq, hf⟩ := bndC_ex hf
      refine mcall (kd := 0) (vs := [.ref (1), .int (62 : Int32)]) (rest := []) (r := (some (.int x7))) (h' := mk b S6) (ok' := true) C lkRX4_135 (qX4_isSign hq) (kX4_readOne _ (List.mem_of_getElem? (i := 33) rfl)).1 ⟨_, _, rfl, rfl, Nat.le_of_ble_eq_true rfl, _, _, rfl, rfl, rfl⟩ (by show 1 + 1 ≤ 8 + (d + 1); omega) (by show 19 + 2 + 100 * (1) ≤ 100 * (8 + (d + 1)); omega) (Nat.le_refl _) (Nat.le_refl _) (Nat.le_of_ble_eq_true rfl) ?_
      refine msegT C kX4_readOne 34 1 (g := (true, (if x7 = 0 then 65 else 74), [.ref (1), .ref (9), .int v2, .retAddr 0], [], mk b S6)) rfl rfl ?_
      by_cases hc : x7 = 0
      · rw [if_pos hc] at hf ⊢
        refine msegT C kX4_readOne 35 2 (g := (true, 68, [.ref (1), .ref (9), .int v2, .retAddr 0], [.int (61 : Int32), .ref (1)], mk b S6)) rfl rfl ?_
        obtain ⟨x9, S8, hq, hf⟩ := bndC_ex hf
        refine mcall (kd := 0) (vs := [.ref (1), .int (61 : Int32)]) (rest := []) (r := (some (.int x9))) (h' := mk b S8) (ok' := true) C lkRX4_135 (qX4_isSign hq) (kX4_readOne _ (List.mem_of_getElem? (i := 37) rfl)).1 ⟨_, _, rfl, rfl, Nat.le_of_ble_eq_true rfl, _, _, rfl, rfl, rfl⟩ (by show 1 + 1 ≤ 8 + (d + 1); omega) (by show 19 + 2 + 100 * (1) ≤ 100 * (8 + (d + 1)); omega) (Nat.le_refl _) (Nat.le_refl _) (Nat.le_of_ble_eq_true rfl) ?_
        refine msegT C kX4_readOne 38 1 (g := (true, (if x9 = 0 then 98 else 74), [.ref (1), .ref (9), .int v2, .retAddr 0], [], mk b S8)) rfl rfl ?_
        by_cases hc : x9 = 0
        · rw [if_pos hc] at hf ⊢
          exact mfor (L' := [.retAddr 0, .retAddr 0, .retAddr 0, .retAddr 0]) ⟨Or.inl rfl, Or.inl rfl, Or.inl rfl, Or.inl rfl, trivial⟩ (bX4_readOne_98_9 C hr hk Hs0 Hs1 Hs2 Hs3 Hs4 Hs5 hf true)
        · rw [if_neg hc] at hf ⊢
          exact mfor (L' := [.ref (1), .ref (9), .int v2, .retAddr 0]) ⟨Or.inr rfl, Or.inr rfl, Or.inr rfl, Or.inl rfl, trivial⟩ (bX4_readOne_74_9 C hr hk Hs0 Hs1 Hs2 Hs3 Hs4 Hs5 hf true)
      · rw [if_neg hc] at hf ⊢
        exact mfor (L' := [.ref (1), .ref (9), .int v2, .retAddr 0]) ⟨Or.inr rfl, Or.inr rfl, Or.inr rfl, Or.inl rfl, trivial⟩ (bX4_readOne_74_9 C hr hk Hs0 Hs1 Hs2 Hs3 Hs4 Hs5 hf true)
    · rw [if_neg hc] at hf ⊢
      exact mfor (L' := [.ref (1), .ref (9), .int v2, .retAddr 0]) ⟨Or.inr rfl, Or.inr rfl, Or.inr rfl, Or.inl rfl, trivial⟩ (bX4_readOne_74_9 C hr hk Hs0 Hs1 Hs2 Hs3 Hs4 Hs5 hf true)
  · rw [if_neg hc] at hf ⊢
    refine msegT C kX4_readOne 4 3 (g := (true, (if v2 ≤ (6 : Int32) then 21 else 15), [.ref (1), .ref (9), .int v2, .retAddr 0], [], mk b S1)) rfl rfl ?_
    by_cases hc : v2 ≤ (6 : Int32)
    · rw [if_pos hc] at hf ⊢
      refine msegT C kX4_readOne 11 1 (g := (true, 22, [.ref (1), .ref (9), .int v2, .retAddr 0], [.ref (1)], mk b S1)) rfl rfl ?_
      obtain ⟨S10, hq, hf⟩ := bndV_ex hf
      refine mcall (kd := 0) (vs := [.ref (1)]) (rest := []) (r := none) (h' := mk b S10) (ok' := true) C lkRX4_30 (qX4_advance hq) (kX4_readOne _ (List.mem_of_getElem? (i := 12) rfl)).1 ⟨_, _, rfl, rfl, Nat.le_of_ble_eq_true rfl, _, _, rfl, rfl, rfl⟩ (by show 3 + 1 ≤ 8 + (d + 1); omega) (by show 19 + 1 + 100 * (3) ≤ 100 * (8 + (d + 1)); omega) (Nat.le_refl _) (Nat.le_refl _) (Nat.le_of_ble_eq_true rfl) ?_
      refine msegT C kX4_readOne 13 5 (g := (true, 30, [.ref (1), .ref (9), .int v2, .retAddr 0], [.int (v2 + (1 : Int32)), .ref (9), .ref (1)], mk b S10)) rfl rfl ?_
      obtain ⟨S11, hq, hf⟩ := bndV_ex hf
      refine mcall (kd := 0) (vs := [.ref (1), .ref (9), .int (v2 + (1 : Int32))]) (rest := []) (r := none) (h' := mk b S11) (ok' := true) C lkRX4_125 (Hs2 hq) (kX4_readOne _ (List.mem_of_getElem? (i := 18) rfl)).1 ⟨_, _, rfl, rfl, Nat.le_of_ble_eq_true rfl, _, _, rfl, rfl, rfl⟩ (by show 8 + d + 1 ≤ 8 + (d + 1); omega) (by show 19 + 4 + 100 * (8 + d) ≤ 100 * (8 + (d + 1)); omega) (Nat.le_refl _) (Nat.le_refl _) (Nat.le_of_ble_eq_true rfl) ?_
      refine msegT C kX4_readOne 19 2 (g := (true, 37, [.ref (1), .ref (9), .int v2, .retAddr 0], [.int (20033 : Int32), .ref (9)], mk b S11)) rfl rfl ?_
      obtain ⟨S12, hq, hf⟩ := bndV_ex hf
      refine mcall (kd := 0) (vs := [.ref (9), .int (20033 : Int32)]) (rest := []) (r := none) (h' := mk b S12) (ok' := true) C lkRX4_122 (qX0_add_9 hq) (kX4_readOne _ (List.mem_of_getElem? (i := 21) rfl)).1 ⟨_, _, rfl, rfl, Nat.le_of_ble_eq_true rfl, _, _, rfl, rfl, rfl⟩ (by show 1 + 1 ≤ 8 + (d + 1); omega) (by show 19 + 2 + 100 * (1) ≤ 100 * (8 + (d + 1)); omega) (Nat.le_refl _) (Nat.le_refl _) (Nat.le_of_ble_eq_true rfl) ?_
      cases hf
      exact gret_v C hr hk (kX4_readOne _ (List.mem_of_getElem? (i := 22) rfl)).1
    · rw [if_neg hc] at hf ⊢
      refine msegT C kX4_readOne 7 2 (g := (true, 17, [.ref (1), .ref (9), .int v2, .retAddr 0], [.int (2 : Int32), .ref (1)], mk b S1)) rfl rfl ?_
      obtain ⟨S13, hq, hf⟩ := bndV_ex hf
      refine mcall (kd := 0) (vs := [.ref (1), .int (2 : Int32)]) (rest := []) (r := none) (h' := mk b S13) (ok' := true) C lkRX4_79 (qX4_refuse hq) (kX4_readOne _ (List.mem_of_getElem? (i := 9) rfl)).1 ⟨_, _, rfl, rfl, Nat.le_of_ble_eq_true rfl, _, _, rfl, rfl, rfl⟩ (by show 1 + 1 ≤ 8 + (d + 1); omega) (by show 19 + 2 + 100 * (1) ≤ 100 * (8 + (d + 1)); omega) (Nat.le_refl _) (Nat.le_refl _) (Nat.le_of_ble_eq_true rfl) ?_
      cases hf
      exact gret_v C hr hk (kX4_readOne _ (List.mem_of_getElem? (i := 10) rfl)).1
theorem bX4_readOne_98_12 {d : Nat} (C : mCx p (mR (8 + (d + 1))) s m args meth c G cX4_readOne RX4 4 false 233 54500 233 54500) (hr : meth.sig.returnType = none) (hk : meth.locks = false) {b : Bool} {self : Nat → Nat → Int32 → mT → Option (mT)} (Hs0 : ∀ {v2 : Int32} {S S' : mT}, self 0 12 v2 S = some S' → mOk l mX4_readEither (8 + d) [.ref 1, .ref 12, .int v2] b S none S') (Hs1 : ∀ {v2 : Int32} {S S' : mT}, self 1 12 v2 S = some S' → mOk l mX4_readBoth (8 + d) [.ref 1, .ref 12, .int v2] b S none S') (Hs2 : ∀ {v2 : Int32} {S S' : mT}, self 2 12 v2 S = some S' → mOk l mX4_readOne (8 + d) [.ref 1, .ref 12, .int v2] b S none S') (Hs3 : ∀ {v2 : Int32} {S S' : mT}, self 3 12 v2 S = some S' → mOk l mX4_readSum (8 + d) [.ref 1, .ref 12, .int v2] b S none S') (Hs4 : ∀ {v2 : Int32} {S S' : mT}, self 4 12 v2 S = some S' → mOk l mX4_readTerm (8 + d) [.ref 1, .ref 12, .int v2] b S none S') (Hs5 : ∀ {v2 : Int32} {S S' : mT}, self 5 12 v2 S = some S' → mOk l mX4_readUnit (8 + d) [.ref 1, .ref 12, .int v2] b S none S') {S' : mT} {S : mT} (hf : fX4_readOne_98 12 self S = some S') (ok : Bool) : mW p l e (mR (8 + (d + 1))) s m args below meth c G 4 233 54500 (mQ below G args s b S' none) (ok, 98, [.retAddr 0, .retAddr 0, .retAddr 0, .retAddr 0], [], mk b S) := by
  unfold fX4_readOne_98 at hf
  cases hf
  exact gret_v C hr hk (kX4_readOne _ (List.mem_of_getElem? (i := 53) rfl)).1
theorem bX4_readOne_74_12 {d : Nat} (C : mCx p (mR (8 + (d + 1))) s m args meth c G cX4_readOne RX4 4 false 233 54500 233 54500) (hr : meth.sig.returnType = none) (hk : meth.locks = false) {b : Bool} {self : Nat → Nat → Int32 → mT → Option (mT)} (Hs0 : ∀ {v2 : Int32} {S S' : mT}, self 0 12 v2 S = some S' → mOk l mX4_readEither (8 + d) [.ref 1, .ref 12, .int v2] b S none S') (Hs1 : ∀ {v2 : Int32} {S S' : mT}, self 1 12 v2 S = some S' → mOk l mX4_readBoth (8 + d) [.ref 1, .ref 12, .int v2] b S none S') (Hs2 : ∀ {v2 : Int32} {S S' : mT}, self 2 12 v2 S = some S' → mOk l mX4_readOne (8 + d) [.ref 1, .ref 12, .int v2] b S none S') (Hs3 : ∀ {v2 : Int32} {S S' : mT}, self 3 12 v2 S = some S' → mOk l mX4_readSum (8 + d) [.ref 1, .ref 12, .int v2] b S none S') (Hs4 : ∀ {v2 : Int32} {S S' : mT}, self 4 12 v2 S = some S' → mOk l mX4_readTerm (8 + d) [.ref 1, .ref 12, .int v2] b S none S') (Hs5 : ∀ {v2 : Int32} {S S' : mT}, self 5 12 v2 S = some S' → mOk l mX4_readUnit (8 + d) [.ref 1, .ref 12, .int v2] b S none S') {S' : mT} {v2 : Int32} {S : mT} (hf : fX4_readOne_74 12 self v2 S = some S') (ok : Bool) : mW p l e (mR (8 + (d + 1))) s m args below meth c G 4 233 54500 (mQ below G args s b S' none) (ok, 74, [.ref (1), .ref (12), .int v2, .retAddr 0], [], mk b S) := by
  unfold fX4_readOne_74 at hf
  obtain ⟨hok, hf⟩ := grd_ex hf
  refine msegT C kX4_readOne 39 3 (g := ((kO 1 4 && true), 79, [.ref (1), .ref (12), .int v2, .int (S.1 1 9)], [], mk b S)) rfl hok ?_
  obtain ⟨x14, ex14, hf⟩ := bnd_ex hf
  rw [← ex14]
  refine msegT C kX4_readOne 42 1 (g := (true, 80, [.ref (1), .ref (12), .int v2, .int x14], [.ref (1)], mk b S)) rfl rfl ?_
  obtain ⟨S15, hq, hf⟩ := bndV_ex hf
  refine mcall (kd := 0) (vs := [.ref (1)]) (rest := []) (r := none) (h' := mk b S15) (ok' := true) C lkRX4_30 (qX4_advance hq) (kX4_readOne _ (List.mem_of_getElem? (i := 43) rfl)).1 ⟨_, _, rfl, rfl, Nat.le_of_ble_eq_true rfl, _, _, rfl, rfl, rfl⟩ (by show 3 + 1 ≤ 8 + (d + 1); omega) (by show 19 + 1 + 100 * (3) ≤ 100 * (8 + (d + 1)); omega) (Nat.le_refl _) (Nat.le_refl _) (Nat.le_of_ble_eq_true rfl) ?_
  refine msegT C kX4_readOne 44 3 (g := (true, 86, [.ref (1), .ref (12), .int v2, .int x14], [.int v2, .ref (12), .ref (1)], mk b S15)) rfl rfl ?_
  obtain ⟨S16, hq, hf⟩ := bndV_ex hf
  refine mcall (kd := 0) (vs := [.ref (1), .ref (12), .int v2]) (rest := []) (r := none) (h' := mk b S16) (ok' := true) C lkRX4_132 (Hs3 hq) (kX4_readOne _ (List.mem_of_getElem? (i := 47) rfl)).1 ⟨_, _, rfl, rfl, Nat.le_of_ble_eq_true rfl, _, _, rfl, rfl, rfl⟩ (by show 8 + d + 1 ≤ 8 + (d + 1); omega) (by show 19 + 5 + 100 * (8 + d) ≤ 100 * (8 + (d + 1)); omega) (Nat.le_refl _) (Nat.le_refl _) (Nat.le_of_ble_eq_true rfl) ?_
  refine msegT C kX4_readOne 48 4 (g := (true, 95, [.ref (1), .ref (12), .int v2, .int x14], [.int ((20000 : Int32) + x14), .ref (12)], mk b S16)) rfl rfl ?_
  obtain ⟨S17, hq, hf⟩ := bndV_ex hf
  refine mcall (kd := 0) (vs := [.ref (12), .int ((20000 : Int32) + x14)]) (rest := []) (r := none) (h' := mk b S17) (ok' := true) C lkRX4_122 (qX0_add_12 hq) (kX4_readOne _ (List.mem_of_getElem? (i := 52) rfl)).1 ⟨_, _, rfl, rfl, Nat.le_of_ble_eq_true rfl, _, _, rfl, rfl, rfl⟩ (by show 1 + 1 ≤ 8 + (d + 1); omega) (by show 19 + 2 + 100 * (1) ≤ 100 * (8 + (d + 1)); omega) (Nat.le_refl _) (Nat.le_refl _) (Nat.le_of_ble_eq_true rfl) ?_
  exact mfor (L' := [.retAddr 0, .retAddr 0, .retAddr 0, .retAddr 0]) ⟨Or.inl rfl, Or.inl rfl, Or.inl rfl, Or.inl rfl, trivial⟩ (bX4_readOne_98_12 C hr hk Hs0 Hs1 Hs2 Hs3 Hs4 Hs5 hf true)
theorem bX4_readOne_0_12 {d : Nat} (C : mCx p (mR (8 + (d + 1))) s m args meth c G cX4_readOne RX4 4 false 233 54500 233 54500) (hr : meth.sig.returnType = none) (hk : meth.locks = false) {b : Bool} {self : Nat → Nat → Int32 → mT → Option (mT)} (Hs0 : ∀ {v2 : Int32} {S S' : mT}, self 0 12 v2 S = some S' → mOk l mX4_readEither (8 + d) [.ref 1, .ref 12, .int v2] b S none S') (Hs1 : ∀ {v2 : Int32} {S S' : mT}, self 1 12 v2 S = some S' → mOk l mX4_readBoth (8 + d) [.ref 1, .ref 12, .int v2] b S none S') (Hs2 : ∀ {v2 : Int32} {S S' : mT}, self 2 12 v2 S = some S' → mOk l mX4_readOne (8 + d) [.ref 1, .ref 12, .int v2] b S none S') (Hs3 : ∀ {v2 : Int32} {S S' : mT}, self 3 12 v2 S = some S' → mOk l mX4_readSum (8 + d) [.ref 1, .ref 12, .int v2] b S none S') (Hs4 : ∀ {v2 : Int32} {S S' : mT}, self 4 12 v2 S = some S' → mOk l mX4_readTerm (8 + d) [.ref 1, .ref 12, .int v2] b S none S') (Hs5 : ∀ {v2 : Int32} {S S' : mT}, self 5 12 v2 S = some S' → mOk l mX4_readUnit (8 + d) [.ref 1, .ref 12, .int v2] b S none S') {S' : mT} {v2 : Int32} {S : mT} (hf : fX4_readOne_0 12 self v2 S = some S') (ok : Bool) : mW p l e (mR (8 + (d + 1))) s m args below meth c G 4 233 54500 (mQ below G args s b S' none) (ok, 0, [.ref (1), .ref (12), .int v2, .retAddr 0], [], mk b S) := by
  unfold fX4_readOne_0 at hf
  refine msegT C kX4_readOne 0 2 (g := (true, 3, [.ref (1), .ref (12), .int v2, .retAddr 0], [.ref 900011, .ref (1)], mk b S)) rfl rfl ?_
  obtain ⟨x2, S1, hq, hf⟩ := bndC_ex hf
  refine mcall (kd := 0) (vs := [.ref (1), .ref 900011]) (rest := []) (r := (some (.int x2))) (h' := mk b S1) (ok' := true) C lkRX4_38 (qX4_isWord_900011 hq) (kX4_readOne _ (List.mem_of_getElem? (i := 2) rfl)).1 ⟨_, _, rfl, rfl, Nat.le_of_ble_eq_true rfl, _, _, rfl, rfl, rfl⟩ (by show 6 + 1 ≤ 8 + (d + 1); omega) (by show 19 + 4 + 100 * (6) ≤ 100 * (8 + (d + 1)); omega) (Nat.le_refl _) (Nat.le_refl _) (Nat.le_of_ble_eq_true rfl) ?_
  refine msegT C kX4_readOne 3 1 (g := (true, (if x2 = 0 then 41 else 9), [.ref (1), .ref (12), .int v2, .retAddr 0], [], mk b S1)) rfl rfl ?_
  by_cases hc : x2 = 0
  · rw [if_pos hc] at hf ⊢
    refine msegT C kX4_readOne 23 3 (g := (true, 44, [.ref (1), .ref (12), .int v2, .retAddr 0], [.int v2, .ref (12), .ref (1)], mk b S1)) rfl rfl ?_
    obtain ⟨S3, hq, hf⟩ := bndV_ex hf
    refine mcall (kd := 0) (vs := [.ref (1), .ref (12), .int v2]) (rest := []) (r := none) (h' := mk b S3) (ok' := true) C lkRX4_132 (Hs3 hq) (kX4_readOne _ (List.mem_of_getElem? (i := 26) rfl)).1 ⟨_, _, rfl, rfl, Nat.le_of_ble_eq_true rfl, _, _, rfl, rfl, rfl⟩ (by show 8 + d + 1 ≤ 8 + (d + 1); omega) (by show 19 + 5 + 100 * (8 + d) ≤ 100 * (8 + (d + 1)); omega) (Nat.le_refl _) (Nat.le_refl _) (Nat.le_of_ble_eq_true rfl) ?_
    refine msegT C kX4_readOne 27 2 (g := (true, 50, [.ref (1), .ref (12), .int v2, .retAddr 0], [.int (60 : Int32), .ref (1)], mk b S3)) rfl rfl ?_
    obtain ⟨x5, S4, hq, hf⟩ := bndC_ex hf
    refine mcall (kd := 0) (vs := [.ref (1), .int (60 : Int32)]) (rest := []) (r := (some (.int x5))) (h' := mk b S4) (ok' := true) C lkRX4_135 (qX4_isSign hq) (kX4_readOne _ (List.mem_of_getElem? (i := 29) rfl)).1 ⟨_, _, rfl, rfl, Nat.le_of_ble_eq_true rfl, _, _, rfl, rfl, rfl⟩ (by show 1 + 1 ≤ 8 + (d + 1); omega) (by show 19 + 2 + 100 * (1) ≤ 100 * (8 + (d + 1)); omega) (Nat.le_refl _) (Nat.le_refl _) (Nat.le_of_ble_eq_true rfl) ?_
    refine msegT C kX4_readOne 30 1 (g := (true, (if x5 = 0 then 56 else 74), [.ref (1), .ref (12), .int v2, .retAddr 0], [], mk b S4)) rfl rfl ?_
    by_cases hc : x5 = 0
    · rw [if_pos hc] at hf ⊢
      refine msegT C kX4_readOne 31 2 (g := (true, 59, [.ref (1), .ref (12), .int v2, .retAddr 0], [.int (62 : Int32), .ref (1)], mk b S4)) rfl rfl ?_
      obtain ⟨x7, S6, hq, hf⟩ := bndC_ex hf
      refine mcall (kd := 0) (vs := [.ref (1), .int (62 : Int32)]) (rest := []) (r := (some (.int x7))) (h' := mk b S6) (ok' := true) C lkRX4_135 (qX4_isSign hq) (kX4_readOne _ (List.mem_of_getElem? (i := 33) rfl)).1 ⟨_, _, rfl, rfl, Nat.le_of_ble_eq_true rfl, _, _, rfl, rfl, rfl⟩ (by show 1 + 1 ≤ 8 + (d + 1); omega) (by show 19 + 2 + 100 * (1) ≤ 100 * (8 + (d + 1)); omega) (Nat.le_refl _) (Nat.le_refl _) (Nat.le_of_ble_eq_true rfl) ?_
      refine msegT C kX4_readOne 34 1 (g := (true, (if x7 = 0 then 65 else 74), [.ref (1), .ref (12), .int v2, .retAddr 0], [], mk b S6)) rfl rfl ?_
      by_cases hc : x7 = 0
      · rw [if_pos hc] at hf ⊢
        refine msegT C kX4_readOne 35 2 (g := (true, 68, [.ref (1), .ref (12), .int v2, .retAddr 0], [.int (61 : Int32), .ref (1)], mk b S6)) rfl rfl ?_
        obtain ⟨x9, S8, hq, hf⟩ := bndC_ex hf
        refine mcall (kd := 0) (vs := [.ref (1), .int (61 : Int32)]) (rest := []) (r := (some (.int x9))) (h' := mk b S8) (ok' := true) C lkRX4_135 (qX4_isSign hq) (kX4_readOne _ (List.mem_of_getElem? (i := 37) rfl)).1 ⟨_, _, rfl, rfl, Nat.le_of_ble_eq_true rfl, _, _, rfl, rfl, rfl⟩ (by show 1 + 1 ≤ 8 + (d + 1); omega) (by show 19 + 2 + 100 * (1) ≤ 100 * (8 + (d + 1)); omega) (Nat.le_refl _) (Nat.le_refl _) (Nat.le_of_ble_eq_true rfl) ?_
        refine msegT C kX4_readOne 38 1 (g := (true, (if x9 = 0 then 98 else 74), [.ref (1), .ref (12), .int v2, .retAddr 0], [], mk b S8)) rfl rfl ?_
        by_cases hc : x9 = 0
        · rw [if_pos hc] at hf ⊢
          exact mfor (L' := [.retAddr 0, .retAddr 0, .retAddr 0, .retAddr 0]) ⟨Or.inl rfl, Or.inl rfl, Or.inl rfl, Or.inl rfl, trivial⟩ (bX4_readOne_98_12 C hr hk Hs0 Hs1 Hs2 Hs3 Hs4 Hs5 hf true)
        · rw [if_neg hc] at hf ⊢
          exact mfor (L' := [.ref (1), .ref (12), .int v2, .retAddr 0]) ⟨Or.inr rfl, Or.inr rfl, Or.inr rfl, Or.inl rfl, trivial⟩ (bX4_readOne_74_12 C hr hk Hs0 Hs1 Hs2 Hs3 Hs4 Hs5 hf true)
      · rw [if_neg hc] at hf ⊢
        exact mfor (L' := [.ref (1), .ref (12), .int v2, .retAddr 0]) ⟨Or.inr rfl, Or.inr rfl, Or.inr rfl, Or.inl rfl, trivial⟩ (bX4_readOne_74_12 C hr hk Hs0 Hs1 Hs2 Hs3 Hs4 Hs5 hf true)
    · rw [if_neg hc] at hf ⊢
      exact mfor (L' := [.ref (1), .ref (12), .int v2, .retAddr 0]) ⟨Or.inr rfl, Or.inr rfl, Or.inr rfl, Or.inl rfl, trivial⟩ (bX4_readOne_74_12 C hr hk Hs0 Hs1 Hs2 Hs3 Hs4 Hs5 hf true)
  · rw [if_neg hc] at hf ⊢
    refine msegT C kX4_readOne 4 3 (g := (true, (if v2 ≤ (6 : Int32) then 21 else 15), [.ref (1), .ref (12), .int v2, .retAddr 0], [], mk b S1)) rfl rfl ?_
    by_cases hc : v2 ≤ (6 : Int32)
    · rw [if_pos hc] at hf ⊢
      refine msegT C kX4_readOne 11 1 (g := (true, 22, [.ref (1), .ref (12), .int v2, .retAddr 0], [.ref (1)], mk b S1)) rfl rfl ?_
      obtain ⟨S10, hq, hf⟩ := bndV_ex hf
      refine mcall (kd := 0) (vs := [.ref (1)]) (rest := []) (r := none) (h' := mk b S10) (ok' := true) C lkRX4_30 (qX4_advance hq) (kX4_readOne _ (List.mem_of_getElem? (i := 12) rfl)).1 ⟨_, _, rfl, rfl, Nat.le_of_ble_eq_true rfl, _, _, rfl, rfl, rfl⟩ (by show 3 + 1 ≤ 8 + (d + 1); omega) (by show 19 + 1 + 100 * (3) ≤ 100 * (8 + (d + 1)); omega) (Nat.le_refl _) (Nat.le_refl _) (Nat.le_of_ble_eq_true rfl) ?_
      refine msegT C kX4_readOne 13 5 (g := (true, 30, [.ref (1), .ref (12), .int v2, .retAddr 0], [.int (v2 + (1 : Int32)), .ref (12), .ref (1)], mk b S10)) rfl rfl ?_
      obtain ⟨S11, hq, hf⟩ := bndV_ex hf
      refine mcall (kd := 0) (vs := [.ref (1), .ref (12), .int (v2 + (1 : Int32))]) (rest := []) (r := none) (h' := mk b S11) (ok' := true) C lkRX4_125 (Hs2 hq) (kX4_readOne _ (List.mem_of_getElem? (i := 18) rfl)).1 ⟨_, _, rfl, rfl, Nat.le_of_ble_eq_true rfl, _, _, rfl, rfl, rfl⟩ (by show 8 + d + 1 ≤ 8 + (d + 1); omega) (by show 19 + 4 + 100 * (8 + d) ≤ 100 * (8 + (d + 1)); omega) (Nat.le_refl _) (Nat.le_refl _) (Nat.le_of_ble_eq_true rfl) ?_
      refine msegT C kX4_readOne 19 2 (g := (true, 37, [.ref (1), .ref (12), .int v2, .retAddr 0], [.int (20033 : Int32), .ref (12)], mk b S11)) rfl rfl ?_
      obtain ⟨S12, hq, hf⟩ := bndV_ex hf
      refine mcall (kd := 0) (vs := [.ref (12), .int (20033 : Int32)]) (rest := []) (r := none) (h' := mk b S12) (ok' := true) C lkRX4_122 (qX0_add_12 hq) (kX4_readOne _ (List.mem_of_getElem? (i := 21) rfl)).1 ⟨_, _, rfl, rfl, Nat.le_of_ble_eq_true rfl, _, _, rfl, rfl, rfl⟩ (by show 1 + 1 ≤ 8 + (d + 1); omega) (by show 19 + 2 + 100 * (1) ≤ 100 * (8 + (d + 1)); omega) (Nat.le_refl _) (Nat.le_refl _) (Nat.le_of_ble_eq_true rfl) ?_
      cases hf
      exact gret_v C hr hk (kX4_readOne _ (List.mem_of_getElem? (i := 22) rfl)).1
    · rw [if_neg hc] at hf ⊢
      refine msegT C kX4_readOne 7 2 (g := (true, 17, [.ref (1), .ref (12), .int v2, .retAddr 0], [.int (2 : Int32), .ref (1)], mk b S1)) rfl rfl ?_
      obtain ⟨S13, hq, hf⟩ := bndV_ex hf
      refine mcall (kd := 0) (vs := [.ref (1), .int (2 : Int32)]) (rest := []) (r := none) (h' := mk b S13) (ok' := true) C lkRX4_79 (qX4_refuse hq) (kX4_readOne _ (List.mem_of_getElem? (i := 9) rfl)).1 ⟨_, _, rfl, rfl, Nat.le_of_ble_eq_true rfl, _, _, rfl, rfl, rfl⟩ (by show 1 + 1 ≤ 8 + (d + 1); omega) (by show 19 + 2 + 100 * (1) ≤ 100 * (8 + (d + 1)); omega) (Nat.le_refl _) (Nat.le_refl _) (Nat.le_of_ble_eq_true rfl) ?_
      cases hf
      exact gret_v C hr hk (kX4_readOne _ (List.mem_of_getElem? (i := 10) rfl)).1
theorem bX4_readOne_98_15 {d : Nat} (C : mCx p (mR (8 + (d + 1))) s m args meth c G cX4_readOne RX4 4 false 233 54500 233 54500) (hr : meth.sig.returnType = none) (hk : meth.locks = false) {b : Bool} {self : Nat → Nat → Int32 → mT → Option (mT)} (Hs0 : ∀ {v2 : Int32} {S S' : mT}, self 0 15 v2 S = some S' → mOk l mX4_readEither (8 + d) [.ref 1, .ref 15, .int v2] b S none S') (Hs1 : ∀ {v2 : Int32} {S S' : mT}, self 1 15 v2 S = some S' → mOk l mX4_readBoth (8 + d) [.ref 1, .ref 15, .int v2] b S none S') (Hs2 : ∀ {v2 : Int32} {S S' : mT}, self 2 15 v2 S = some S' → mOk l mX4_readOne (8 + d) [.ref 1, .ref 15, .int v2] b S none S') (Hs3 : ∀ {v2 : Int32} {S S' : mT}, self 3 15 v2 S = some S' → mOk l mX4_readSum (8 + d) [.ref 1, .ref 15, .int v2] b S none S') (Hs4 : ∀ {v2 : Int32} {S S' : mT}, self 4 15 v2 S = some S' → mOk l mX4_readTerm (8 + d) [.ref 1, .ref 15, .int v2] b S none S') (Hs5 : ∀ {v2 : Int32} {S S' : mT}, self 5 15 v2 S = some S' → mOk l mX4_readUnit (8 + d) [.ref 1, .ref 15, .int v2] b S none S') {S' : mT} {S : mT} (hf : fX4_readOne_98 15 self S = some S') (ok : Bool) : mW p l e (mR (8 + (d + 1))) s m args below meth c G 4 233 54500 (mQ below G args s b S' none) (ok, 98, [.retAddr 0, .retAddr 0, .retAddr 0, .retAddr 0], [], mk b S) := by
  unfold fX4_readOne_98 at hf
  cases hf
  exact gret_v C hr hk (kX4_readOne _ (List.mem_of_getElem? (i := 53) rfl)).1
theorem bX4_readOne_74_15 {d : Nat} (C : mCx p (mR (8 + (d + 1))) s m args meth c G cX4_readOne RX4 4 false 233 54500 233 54500) (hr : meth.sig.returnType = none) (hk : meth.locks = false) {b : Bool} {self : Nat → Nat → Int32 → mT → Option (mT)} (Hs0 : ∀ {v2 : Int32} {S S' : mT}, self 0 15 v2 S = some S' → mOk l mX4_readEither (8 + d) [.ref 1, .ref 15, .int v2] b S none S') (Hs1 : ∀ {v2 : Int32} {S S' : mT}, self 1 15 v2 S = some S' → mOk l mX4_readBoth (8 + d) [.ref 1, .ref 15, .int v2] b S none S') (Hs2 : ∀ {v2 : Int32} {S S' : mT}, self 2 15 v2 S = some S' → mOk l mX4_readOne (8 + d) [.ref 1, .ref 15, .int v2] b S none S') (Hs3 : ∀ {v2 : Int32} {S S' : mT}, self 3 15 v2 S = some S' → mOk l mX4_readSum (8 + d) [.ref 1, .ref 15, .int v2] b S none S') (Hs4 : ∀ {v2 : Int32} {S S' : mT}, self 4 15 v2 S = some S' → mOk l mX4_readTerm (8 + d) [.ref 1, .ref 15, .int v2] b S none S') (Hs5 : ∀ {v2 : Int32} {S S' : mT}, self 5 15 v2 S = some S' → mOk l mX4_readUnit (8 + d) [.ref 1, .ref 15, .int v2] b S none S') {S' : mT} {v2 : Int32} {S : mT} (hf : fX4_readOne_74 15 self v2 S = some S') (ok : Bool) : mW p l e (mR (8 + (d + 1))) s m args below meth c G 4 233 54500 (mQ below G args s b S' none) (ok, 74, [.ref (1), .ref (15), .int v2, .retAddr 0], [], mk b S) := by
  unfold fX4_readOne_74 at hf
  obtain ⟨hok, hf⟩ := grd_ex hf
  refine msegT C kX4_readOne 39 3 (g := ((kO 1 4 && true), 79, [.ref (1), .ref (15), .int v2, .int (S.1 1 9)], [], mk b S)) rfl hok ?_
  obtain ⟨x14, ex14, hf⟩ := bnd_ex hf
  rw [← ex14]
  refine msegT C kX4_readOne 42 1 (g := (true, 80, [.ref (1), .ref (15), .int v2, .int x14], [.ref (1)], mk b S)) rfl rfl ?_
  obtain ⟨S15, hq, hf⟩ := bndV_ex hf
  refine mcall (kd := 0) (vs := [.ref (1)]) (rest := []) (r := none) (h' := mk b S15) (ok' := true) C lkRX4_30 (qX4_advance hq) (kX4_readOne _ (List.mem_of_getElem? (i := 43) rfl)).1 ⟨_, _, rfl, rfl, Nat.le_of_ble_eq_true rfl, _, _, rfl, rfl, rfl⟩ (by show 3 + 1 ≤ 8 + (d + 1); omega) (by show 19 + 1 + 100 * (3) ≤ 100 * (8 + (d + 1)); omega) (Nat.le_refl _) (Nat.le_refl _) (Nat.le_of_ble_eq_true rfl) ?_
  refine msegT C kX4_readOne 44 3 (g := (true, 86, [.ref (1), .ref (15), .int v2, .int x14], [.int v2, .ref (15), .ref (1)], mk b S15)) rfl rfl ?_
  obtain ⟨S16, hq, hf⟩ := bndV_ex hf
  refine mcall (kd := 0) (vs := [.ref (1), .ref (15), .int v2]) (rest := []) (r := none) (h' := mk b S16) (ok' := true) C lkRX4_132 (Hs3 hq) (kX4_readOne _ (List.mem_of_getElem? (i := 47) rfl)).1 ⟨_, _, rfl, rfl, Nat.le_of_ble_eq_true rfl, _, _, rfl, rfl, rfl⟩ (by show 8 + d + 1 ≤ 8 + (d + 1); omega) (by show 19 + 5 + 100 * (8 + d) ≤ 100 * (8 + (d + 1)); omega) (Nat.le_refl _) (Nat.le_refl _) (Nat.le_of_ble_eq_true rfl) ?_
  refine msegT C kX4_readOne 48 4 (g := (true, 95, [.ref (1), .ref (15), .int v2, .int x14], [.int ((20000 : Int32) + x14), .ref (15)], mk b S16)) rfl rfl ?_
  obtain ⟨S17, hq, hf⟩ := bndV_ex hf
  refine mcall (kd := 0) (vs := [.ref (15), .int ((20000 : Int32) + x14)]) (rest := []) (r := none) (h' := mk b S17) (ok' := true) C lkRX4_122 (qX0_add_15 hq) (kX4_readOne _ (List.mem_of_getElem? (i := 52) rfl)).1 ⟨_, _, rfl, rfl, Nat.le_of_ble_eq_true rfl, _, _, rfl, rfl, rfl⟩ (by show 1 + 1 ≤ 8 + (d + 1); omega) (by show 19 + 2 + 100 * (1) ≤ 100 * (8 + (d + 1)); omega) (Nat.le_refl _) (Nat.le_refl _) (Nat.le_of_ble_eq_true rfl) ?_
  exact mfor (L' := [.retAddr 0, .retAddr 0, .retAddr 0, .retAddr 0]) ⟨Or.inl rfl, Or.inl rfl, Or.inl rfl, Or.inl rfl, trivial⟩ (bX4_readOne_98_15 C hr hk Hs0 Hs1 Hs2 Hs3 Hs4 Hs5 hf true)
theorem bX4_readOne_0_15 {d : Nat} (C : mCx p (mR (8 + (d + 1))) s m args meth c G cX4_readOne RX4 4 false 233 54500 233 54500) (hr : meth.sig.returnType = none) (hk : meth.locks = false) {b : Bool} {self : Nat → Nat → Int32 → mT → Option (mT)} (Hs0 : ∀ {v2 : Int32} {S S' : mT}, self 0 15 v2 S = some S' → mOk l mX4_readEither (8 + d) [.ref 1, .ref 15, .int v2] b S none S') (Hs1 : ∀ {v2 : Int32} {S S' : mT}, self 1 15 v2 S = some S' → mOk l mX4_readBoth (8 + d) [.ref 1, .ref 15, .int v2] b S none S') (Hs2 : ∀ {v2 : Int32} {S S' : mT}, self 2 15 v2 S = some S' → mOk l mX4_readOne (8 + d) [.ref 1, .ref 15, .int v2] b S none S') (Hs3 : ∀ {v2 : Int32} {S S' : mT}, self 3 15 v2 S = some S' → mOk l mX4_readSum (8 + d) [.ref 1, .ref 15, .int v2] b S none S') (Hs4 : ∀ {v2 : Int32} {S S' : mT}, self 4 15 v2 S = some S' → mOk l mX4_readTerm (8 + d) [.ref 1, .ref 15, .int v2] b S none S') (Hs5 : ∀ {v2 : Int32} {S S' : mT}, self 5 15 v2 S = some S' → mOk l mX4_readUnit (8 + d) [.ref 1, .ref 15, .int v2] b S none S') {S' : mT} {v2 : Int32} {S : mT} (hf : fX4_readOne_0 15 self v2 S = some S') (ok : Bool) : mW p l e (mR (8 + (d + 1))) s m args below meth c G 4 233 54500 (mQ below G args s b S' none) (ok, 0, [.ref (1), .ref (15), .int v2, .retAddr 0], [], mk b S) := by
  unfold fX4_readOne_0 at hf
  refine msegT C kX4_readOne 0 2 (g := (true, 3, [.ref (1), .ref (15), .int v2, .retAddr 0], [.ref 900011, .ref (1)], mk b S)) rfl rfl ?_
  obtain ⟨x2, S1, hq, hf⟩ := bndC_ex hf
  refine mcall (kd := 0) (vs := [.ref (1), .ref 900011]) (rest := []) (r := (some (.int x2))) (h' := mk b S1) (ok' := true) C lkRX4_38 (qX4_isWord_900011 hq) (kX4_readOne _ (List.mem_of_getElem? (i := 2) rfl)).1 ⟨_, _, rfl, rfl, Nat.le_of_ble_eq_true rfl, _, _, rfl, rfl, rfl⟩ (by show 6 + 1 ≤ 8 + (d + 1); omega) (by show 19 + 4 + 100 * (6) ≤ 100 * (8 + (d + 1)); omega) (Nat.le_refl _) (Nat.le_refl _) (Nat.le_of_ble_eq_true rfl) ?_
  refine msegT C kX4_readOne 3 1 (g := (true, (if x2 = 0 then 41 else 9), [.ref (1), .ref (15), .int v2, .retAddr 0], [], mk b S1)) rfl rfl ?_
  by_cases hc : x2 = 0
  · rw [if_pos hc] at hf ⊢
    refine msegT C kX4_readOne 23 3 (g := (true, 44, [.ref (1), .ref (15), .int v2, .retAddr 0], [.int v2, .ref (15), .ref (1)], mk b S1)) rfl rfl ?_
    obtain ⟨S3, hq, hf⟩ := bndV_ex hf
    refine mcall (kd := 0) (vs := [.ref (1), .ref (15), .int v2]) (rest := []) (r := none) (h' := mk b S3) (ok' := true) C lkRX4_132 (Hs3 hq) (kX4_readOne _ (List.mem_of_getElem? (i := 26) rfl)).1 ⟨_, _, rfl, rfl, Nat.le_of_ble_eq_true rfl, _, _, rfl, rfl, rfl⟩ (by show 8 + d + 1 ≤ 8 + (d + 1); omega) (by show 19 + 5 + 100 * (8 + d) ≤ 100 * (8 + (d + 1)); omega) (Nat.le_refl _) (Nat.le_refl _) (Nat.le_of_ble_eq_true rfl) ?_
    refine msegT C kX4_readOne 27 2 (g := (true, 50, [.ref (1), .ref (15), .int v2, .retAddr 0], [.int (60 : Int32), .ref (1)], mk b S3)) rfl rfl ?_
    obtain ⟨x5, S4, hq, hf⟩ := bndC_ex hf
    refine mcall (kd := 0) (vs := [.ref (1), .int (60 : Int32)]) (rest := []) (r := (some (.int x5))) (h' := mk b S4) (ok' := true) C lkRX4_135 (qX4_isSign hq) (kX4_readOne _ (List.mem_of_getElem? (i := 29) rfl)).1 ⟨_, _, rfl, rfl, Nat.le_of_ble_eq_true rfl, _, _, rfl, rfl, rfl⟩ (by show 1 + 1 ≤ 8 + (d + 1); omega) (by show 19 + 2 + 100 * (1) ≤ 100 * (8 + (d + 1)); omega) (Nat.le_refl _) (Nat.le_refl _) (Nat.le_of_ble_eq_true rfl) ?_
    refine msegT C kX4_readOne 30 1 (g := (true, (if x5 = 0 then 56 else 74), [.ref (1), .ref (15), .int v2, .retAddr 0], [], mk b S4)) rfl rfl ?_
    by_cases hc : x5 = 0
    · rw [if_pos hc] at hf ⊢
      refine msegT C kX4_readOne 31 2 (g := (true, 59, [.ref (1), .ref (15), .int v2, .retAddr 0], [.int (62 : Int32), .ref (1)], mk b S4)) rfl rfl ?_
      obtain ⟨x7, S6, hq, hf⟩ := bndC_ex hf
      refine mcall (kd := 0) (vs := [.ref (1), .int (62 : Int32)]) (rest := []) (r := (some (.int x7))) (h' := mk b S6) (ok' := true) C lkRX4_135 (qX4_isSign hq) (kX4_readOne _ (List.mem_of_getElem? (i := 33) rfl)).1 ⟨_, _, rfl, rfl, Nat.le_of_ble_eq_true rfl, _, _, rfl, rfl, rfl⟩ (by show 1 + 1 ≤ 8 + (d + 1); omega) (by show 19 + 2 + 100 * (1) ≤ 100 * (8 + (d + 1)); omega) (Nat.le_refl _) (Nat.le_refl _) (Nat.le_of_ble_eq_true rfl) ?_
      refine msegT C kX4_readOne 34 1 (g := (true, (if x7 = 0 then 65 else 74), [.ref (1), .ref (15), .int v2, .retAddr 0], [], mk b S6)) rfl rfl ?_
      by_cases hc : x7 = 0
      · rw [if_pos hc] at hf ⊢
        refine msegT C kX4_readOne 35 2 (g := (true, 68, [.ref (1), .ref (15), .int v2, .retAddr 0], [.int (61 : Int32), .ref (1)], mk b S6)) rfl rfl ?_
        obtain ⟨x9, S8, hq, hf⟩ := bndC_ex hf
        refine mcall (kd := 0) (vs := [.ref (1), .int (61 : Int32)]) (rest := []) (r := (some (.int x9))) (h' := mk b S8) (ok' := true) C lkRX4_135 (qX4_isSign hq) (kX4_readOne _ (List.mem_of_getElem? (i := 37) rfl)).1 ⟨_, _, rfl, rfl, Nat.le_of_ble_eq_true rfl, _, _, rfl, rfl, rfl⟩ (by show 1 + 1 ≤ 8 + (d + 1); omega) (by show 19 + 2 + 100 * (1) ≤ 100 * (8 + (d + 1)); omega) (Nat.le_refl _) (Nat.le_refl _) (Nat.le_of_ble_eq_true rfl) ?_
        refine msegT C kX4_readOne 38 1 (g := (true, (if x9 = 0 then 98 else 74), [.ref (1), .ref (15), .int v2, .retAddr 0], [], mk b S8)) rfl rfl ?_
        by_cases hc : x9 = 0
        · rw [if_pos hc] at hf ⊢
          exact mfor (L' := [.retAddr 0, .retAddr 0, .retAddr 0, .retAddr 0]) ⟨Or.inl rfl, Or.inl rfl, Or.inl rfl, Or.inl rfl, trivial⟩ (bX4_readOne_98_15 C hr hk Hs0 Hs1 Hs2 Hs3 Hs4 Hs5 hf true)
        · rw [if_neg hc] at hf ⊢
          exact mfor (L' := [.ref (1), .ref (15), .int v2, .retAddr 0]) ⟨Or.inr rfl, Or.inr rfl, Or.inr rfl, Or.inl rfl, trivial⟩ (bX4_readOne_74_15 C hr hk Hs0 Hs1 Hs2 Hs3 Hs4 Hs5 hf true)
      · rw [if_neg hc] at hf ⊢
        exact mfor (L' := [.ref (1), .ref (15), .int v2, .retAddr 0]) ⟨Or.inr rfl, Or.inr rfl, Or.inr rfl, Or.inl rfl, trivial⟩ (bX4_readOne_74_15 C hr hk Hs0 Hs1 Hs2 Hs3 Hs4 Hs5 hf true)
    · rw [if_neg hc] at hf ⊢
      exact mfor (L' := [.ref (1), .ref (15), .int v2, .retAddr 0]) ⟨Or.inr rfl, Or.inr rfl, Or.inr rfl, Or.inl rfl, trivial⟩ (bX4_readOne_74_15 C hr hk Hs0 Hs1 Hs2 Hs3 Hs4 Hs5 hf true)
  · rw [if_neg hc] at hf ⊢
    refine msegT C kX4_readOne 4 3 (g := (true, (if v2 ≤ (6 : Int32) then 21 else 15), [.ref (1), .ref (15), .int v2, .retAddr 0], [], mk b S1)) rfl rfl ?_
    by_cases hc : v2 ≤ (6 : Int32)
    · rw [if_pos hc] at hf ⊢
      refine msegT C kX4_readOne 11 1 (g := (true, 22, [.ref (1), .ref (15), .int v2, .retAddr 0], [.ref (1)], mk b S1)) rfl rfl ?_
      obtain ⟨S10, hq, hf⟩ := bndV_ex hf
      refine mcall (kd := 0) (vs := [.ref (1)]) (rest := []) (r := none) (h' := mk b S10) (ok' := true) C lkRX4_30 (qX4_advance hq) (kX4_readOne _ (List.mem_of_getElem? (i := 12) rfl)).1 ⟨_, _, rfl, rfl, Nat.le_of_ble_eq_true rfl, _, _, rfl, rfl, rfl⟩ (by show 3 + 1 ≤ 8 + (d + 1); omega) (by show 19 + 1 + 100 * (3) ≤ 100 * (8 + (d + 1)); omega) (Nat.le_refl _) (Nat.le_refl _) (Nat.le_of_ble_eq_true rfl) ?_
      refine msegT C kX4_readOne 13 5 (g := (true, 30, [.ref (1), .ref (15), .int v2, .retAddr 0], [.int (v2 + (1 : Int32)), .ref (15), .ref (1)], mk b S10)) rfl rfl ?_
      obtain ⟨S11, hq, hf⟩ := bndV_ex hf
      refine mcall (kd := 0) (vs := [.ref (1), .ref (15), .int (v2 + (1 : Int32))]) (rest := []) (r := none) (h' := mk b S11) (ok' := true) C lkRX4_125 (Hs2 hq) (kX4_readOne _ (List.mem_of_getElem? (i := 18) rfl)).1 ⟨_, _, rfl, rfl, Nat.le_of_ble_eq_true rfl, _, _, rfl, rfl, rfl⟩ (by show 8 + d + 1 ≤ 8 + (d + 1); omega) (by show 19 + 4 + 100 * (8 + d) ≤ 100 * (8 + (d + 1)); omega) (Nat.le_refl _) (Nat.le_refl _) (Nat.le_of_ble_eq_true rfl) ?_
      refine msegT C kX4_readOne 19 2 (g := (true, 37, [.ref (1), .ref (15), .int v2, .retAddr 0], [.int (20033 : Int32), .ref (15)], mk b S11)) rfl rfl ?_
      obtain ⟨S12, hq, hf⟩ := bndV_ex hf
      refine mcall (kd := 0) (vs := [.ref (15), .int (20033 : Int32)]) (rest := []) (r := none) (h' := mk b S12) (ok' := true) C lkRX4_122 (qX0_add_15 hq) (kX4_readOne _ (List.mem_of_getElem? (i := 21) rfl)).1 ⟨_, _, rfl, rfl, Nat.le_of_ble_eq_true rfl, _, _, rfl, rfl, rfl⟩ (by show 1 + 1 ≤ 8 + (d + 1); omega) (by show 19 + 2 + 100 * (1) ≤ 100 * (8 + (d + 1)); omega) (Nat.le_refl _) (Nat.le_refl _) (Nat.le_of_ble_eq_true rfl) ?_
      cases hf
      exact gret_v C hr hk (kX4_readOne _ (List.mem_of_getElem? (i := 22) rfl)).1
    · rw [if_neg hc] at hf ⊢
      refine msegT C kX4_readOne 7 2 (g := (true, 17, [.ref (1), .ref (15), .int v2, .retAddr 0], [.int (2 : Int32), .ref (1)], mk b S1)) rfl rfl ?_
      obtain ⟨S13, hq, hf⟩ := bndV_ex hf
      refine mcall (kd := 0) (vs := [.ref (1), .int (2 : Int32)]) (rest := []) (r := none) (h' := mk b S13) (ok' := true) C lkRX4_79 (qX4_refuse hq) (kX4_readOne _ (List.mem_of_getElem? (i := 9) rfl)).1 ⟨_, _, rfl, rfl, Nat.le_of_ble_eq_true rfl, _, _, rfl, rfl, rfl⟩ (by show 1 + 1 ≤ 8 + (d + 1); omega) (by show 19 + 2 + 100 * (1) ≤ 100 * (8 + (d + 1)); omega) (Nat.le_refl _) (Nat.le_refl _) (Nat.le_of_ble_eq_true rfl) ?_
      cases hf
      exact gret_v C hr hk (kX4_readOne _ (List.mem_of_getElem? (i := 10) rfl)).1
theorem bX4_readOne_98_25 {d : Nat} (C : mCx p (mR (8 + (d + 1))) s m args meth c G cX4_readOne RX4 4 false 233 54500 233 54500) (hr : meth.sig.returnType = none) (hk : meth.locks = false) {b : Bool} {self : Nat → Nat → Int32 → mT → Option (mT)} (Hs0 : ∀ {v2 : Int32} {S S' : mT}, self 0 25 v2 S = some S' → mOk l mX4_readEither (8 + d) [.ref 1, .ref 25, .int v2] b S none S') (Hs1 : ∀ {v2 : Int32} {S S' : mT}, self 1 25 v2 S = some S' → mOk l mX4_readBoth (8 + d) [.ref 1, .ref 25, .int v2] b S none S') (Hs2 : ∀ {v2 : Int32} {S S' : mT}, self 2 25 v2 S = some S' → mOk l mX4_readOne (8 + d) [.ref 1, .ref 25, .int v2] b S none S') (Hs3 : ∀ {v2 : Int32} {S S' : mT}, self 3 25 v2 S = some S' → mOk l mX4_readSum (8 + d) [.ref 1, .ref 25, .int v2] b S none S') (Hs4 : ∀ {v2 : Int32} {S S' : mT}, self 4 25 v2 S = some S' → mOk l mX4_readTerm (8 + d) [.ref 1, .ref 25, .int v2] b S none S') (Hs5 : ∀ {v2 : Int32} {S S' : mT}, self 5 25 v2 S = some S' → mOk l mX4_readUnit (8 + d) [.ref 1, .ref 25, .int v2] b S none S') {S' : mT} {S : mT} (hf : fX4_readOne_98 25 self S = some S') (ok : Bool) : mW p l e (mR (8 + (d + 1))) s m args below meth c G 4 233 54500 (mQ below G args s b S' none) (ok, 98, [.retAddr 0, .retAddr 0, .retAddr 0, .retAddr 0], [], mk b S) := by
  unfold fX4_readOne_98 at hf
  cases hf
  exact gret_v C hr hk (kX4_readOne _ (List.mem_of_getElem? (i := 53) rfl)).1
theorem bX4_readOne_74_25 {d : Nat} (C : mCx p (mR (8 + (d + 1))) s m args meth c G cX4_readOne RX4 4 false 233 54500 233 54500) (hr : meth.sig.returnType = none) (hk : meth.locks = false) {b : Bool} {self : Nat → Nat → Int32 → mT → Option (mT)} (Hs0 : ∀ {v2 : Int32} {S S' : mT}, self 0 25 v2 S = some S' → mOk l mX4_readEither (8 + d) [.ref 1, .ref 25, .int v2] b S none S') (Hs1 : ∀ {v2 : Int32} {S S' : mT}, self 1 25 v2 S = some S' → mOk l mX4_readBoth (8 + d) [.ref 1, .ref 25, .int v2] b S none S') (Hs2 : ∀ {v2 : Int32} {S S' : mT}, self 2 25 v2 S = some S' → mOk l mX4_readOne (8 + d) [.ref 1, .ref 25, .int v2] b S none S') (Hs3 : ∀ {v2 : Int32} {S S' : mT}, self 3 25 v2 S = some S' → mOk l mX4_readSum (8 + d) [.ref 1, .ref 25, .int v2] b S none S') (Hs4 : ∀ {v2 : Int32} {S S' : mT}, self 4 25 v2 S = some S' → mOk l mX4_readTerm (8 + d) [.ref 1, .ref 25, .int v2] b S none S') (Hs5 : ∀ {v2 : Int32} {S S' : mT}, self 5 25 v2 S = some S' → mOk l mX4_readUnit (8 + d) [.ref 1, .ref 25, .int v2] b S none S') {S' : mT} {v2 : Int32} {S : mT} (hf : fX4_readOne_74 25 self v2 S = some S') (ok : Bool) : mW p l e (mR (8 + (d + 1))) s m args below meth c G 4 233 54500 (mQ below G args s b S' none) (ok, 74, [.ref (1), .ref (25), .int v2, .retAddr 0], [], mk b S) := by
  unfold fX4_readOne_74 at hf
  obtain ⟨hok, hf⟩ := grd_ex hf
  refine msegT C kX4_readOne 39 3 (g := ((kO 1 4 && true), 79, [.ref (1), .ref (25), .int v2, .int (S.1 1 9)], [], mk b S)) rfl hok ?_
  obtain ⟨x14, ex14, hf⟩ := bnd_ex hf
  rw [← ex14]
  refine msegT C kX4_readOne 42 1 (g := (true, 80, [.ref (1), .ref (25), .int v2, .int x14], [.ref (1)], mk b S)) rfl rfl ?_
  obtain ⟨S15, hq, hf⟩ := bndV_ex hf
  refine mcall (kd := 0) (vs := [.ref (1)]) (rest := []) (r := none) (h' := mk b S15) (ok' := true) C lkRX4_30 (qX4_advance hq) (kX4_readOne _ (List.mem_of_getElem? (i := 43) rfl)).1 ⟨_, _, rfl, rfl, Nat.le_of_ble_eq_true rfl, _, _, rfl, rfl, rfl⟩ (by show 3 + 1 ≤ 8 + (d + 1); omega) (by show 19 + 1 + 100 * (3) ≤ 100 * (8 + (d + 1)); omega) (Nat.le_refl _) (Nat.le_refl _) (Nat.le_of_ble_eq_true rfl) ?_
  refine msegT C kX4_readOne 44 3 (g := (true, 86, [.ref (1), .ref (25), .int v2, .int x14], [.int v2, .ref (25), .ref (1)], mk b S15)) rfl rfl ?_
  obtain ⟨S16, hq, hf⟩ := bndV_ex hf
  refine mcall (kd := 0) (vs := [.ref (1), .ref (25), .int v2]) (rest := []) (r := none) (h' := mk b S16) (ok' := true) C lkRX4_132 (Hs3 hq) (kX4_readOne _ (List.mem_of_getElem? (i := 47) rfl)).1 ⟨_, _, rfl, rfl, Nat.le_of_ble_eq_true rfl, _, _, rfl, rfl, rfl⟩ (by show 8 + d + 1 ≤ 8 + (d + 1); omega) (by show 19 + 5 + 100 * (8 + d) ≤ 100 * (8 + (d + 1)); omega) (Nat.le_refl _) (Nat.le_refl _) (Nat.le_of_ble_eq_true rfl) ?_
  refine msegT C kX4_readOne 48 4 (g := (true, 95, [.ref (1), .ref (25), .int v2, .int x14], [.int ((20000 : Int32) + x14), .ref (25)], mk b S16)) rfl rfl ?_
  obtain ⟨S17, hq, hf⟩ := bndV_ex hf
  refine mcall (kd := 0) (vs := [.ref (25), .int ((20000 : Int32) + x14)]) (rest := []) (r := none) (h' := mk b S17) (ok' := true) C lkRX4_122 (qX0_add_25 hq) (kX4_readOne _ (List.mem_of_getElem? (i := 52) rfl)).1 ⟨_, _, rfl, rfl, Nat.le_of_ble_eq_true rfl, _, _, rfl, rfl, rfl⟩ (by show 1 + 1 ≤ 8 + (d + 1); omega) (by show 19 + 2 + 100 * (1) ≤ 100 * (8 + (d + 1)); omega) (Nat.le_refl _) (Nat.le_refl _) (Nat.le_of_ble_eq_true rfl) ?_
  exact mfor (L' := [.retAddr 0, .retAddr 0, .retAddr 0, .retAddr 0]) ⟨Or.inl rfl, Or.inl rfl, Or.inl rfl, Or.inl rfl, trivial⟩ (bX4_readOne_98_25 C hr hk Hs0 Hs1 Hs2 Hs3 Hs4 Hs5 hf true)
theorem bX4_readOne_0_25 {d : Nat} (C : mCx p (mR (8 + (d + 1))) s m args meth c G cX4_readOne RX4 4 false 233 54500 233 54500) (hr : meth.sig.returnType = none) (hk : meth.locks = false) {b : Bool} {self : Nat → Nat → Int32 → mT → Option (mT)} (Hs0 : ∀ {v2 : Int32} {S S' : mT}, self 0 25 v2 S = some S' → mOk l mX4_readEither (8 + d) [.ref 1, .ref 25, .int v2] b S none S') (Hs1 : ∀ {v2 : Int32} {S S' : mT}, self 1 25 v2 S = some S' → mOk l mX4_readBoth (8 + d) [.ref 1, .ref 25, .int v2] b S none S') (Hs2 : ∀ {v2 : Int32} {S S' : mT}, self 2 25 v2 S = some S' → mOk l mX4_readOne (8 + d) [.ref 1, .ref 25, .int v2] b S none S') (Hs3 : ∀ {v2 : Int32} {S S' : mT}, self 3 25 v2 S = some S' → mOk l mX4_readSum (8 + d) [.ref 1, .ref 25, .int v2] b S none S') (Hs4 : ∀ {v2 : Int32} {S S' : mT}, self 4 25 v2 S = some S' → mOk l mX4_readTerm (8 + d) [.ref 1, .ref 25, .int v2] b S none S') (Hs5 : ∀ {v2 : Int32} {S S' : mT}, self 5 25 v2 S = some S' → mOk l mX4_readUnit (8 + d) [.ref 1, .ref 25, .int v2] b S none S') {S' : mT} {v2 : Int32} {S : mT} (hf : fX4_readOne_0 25 self v2 S = some S') (ok : Bool) : mW p l e (mR (8 + (d + 1))) s m args below meth c G 4 233 54500 (mQ below G args s b S' none) (ok, 0, [.ref (1), .ref (25), .int v2, .retAddr 0], [], mk b S) := by
  unfold fX4_readOne_0 at hf
  refine msegT C kX4_readOne 0 2 (g := (true, 3, [.ref (1), .ref (25), .int v2, .retAddr 0], [.ref 900011, .ref (1)], mk b S)) rfl rfl ?_
  obtain ⟨x2, S1, hq, hf⟩ := bndC_ex hf
  refine mcall (kd := 0) (vs := [.ref (1), .ref 900011]) (rest := []) (r := (some (.int x2))) (h' := mk b S1) (ok' := true) C lkRX4_38 (qX4_isWord_900011 hq) (kX4_readOne _ (List.mem_of_getElem? (i := 2) rfl)).1 ⟨_, _, rfl, rfl, Nat.le_of_ble_eq_true rfl, _, _, rfl, rfl, rfl⟩ (by show 6 + 1 ≤ 8 + (d + 1); omega) (by show 19 + 4 + 100 * (6) ≤ 100 * (8 + (d + 1)); omega) (Nat.le_refl _) (Nat.le_refl _) (Nat.le_of_ble_eq_true rfl) ?_
  refine msegT C kX4_readOne 3 1 (g := (true, (if x2 = 0 then 41 else 9), [.ref (1), .ref (25), .int v2, .retAddr 0], [], mk b S1)) rfl rfl ?_
  by_cases hc : x2 = 0
  · rw [if_pos hc] at hf ⊢
    refine msegT C kX4_readOne 23 3 (g := (true, 44, [.ref (1), .ref (25), .int v2, .retAddr 0], [.int v2, .ref (25), .ref (1)], mk b S1)) rfl rfl ?_
    obtain ⟨S3, hq, hf⟩ := bndV_ex hf
    refine mcall (kd := 0) (vs := [.ref (1), .ref (25), .int v2]) (rest := []) (r := none) (h' := mk b S3) (ok' := true) C lkRX4_132 (Hs3 hq) (kX4_readOne _ (List.mem_of_getElem? (i := 26) rfl)).1 ⟨_, _, rfl, rfl, Nat.le_of_ble_eq_true rfl, _, _, rfl, rfl, rfl⟩ (by show 8 + d + 1 ≤ 8 + (d + 1); omega) (by show 19 + 5 + 100 * (8 + d) ≤ 100 * (8 + (d + 1)); omega) (Nat.le_refl _) (Nat.le_refl _) (Nat.le_of_ble_eq_true rfl) ?_
    refine msegT C kX4_readOne 27 2 (g := (true, 50, [.ref (1), .ref (25), .int v2, .retAddr 0], [.int (60 : Int32), .ref (1)], mk b S3)) rfl rfl ?_
    obtain ⟨x5, S4, hq, hf⟩ := bndC_ex hf
    refine mcall (kd := 0) (vs := [.ref (1), .int (60 : Int32)]) (rest := []) (r := (some (.int x5))) (h' := mk b S4) (ok' := true) C lkRX4_135 (qX4_isSign hq) (kX4_readOne _ (List.mem_of_getElem? (i := 29) rfl)).1 ⟨_, _, rfl, rfl, Nat.le_of_ble_eq_true rfl, _, _, rfl, rfl, rfl⟩ (by show 1 + 1 ≤ 8 + (d + 1); omega) (by show 19 + 2 + 100 * (1) ≤ 100 * (8 + (d + 1)); omega) (Nat.le_refl _) (Nat.le_refl _) (Nat.le_of_ble_eq_true rfl) ?_
    refine msegT C kX4_readOne 30 1 (g := (true, (if x5 = 0 then 56 else 74), [.ref (1), .ref (25), .int v2, .retAddr 0], [], mk b S4)) rfl rfl ?_
    by_cases hc : x5 = 0
    · rw [if_pos hc] at hf ⊢
      refine msegT C kX4_readOne 31 2 (g := (true, 59, [.ref (1), .ref (25), .int v2, .retAddr 0], [.int (62 : Int32), .ref (1)], mk b S4)) rfl rfl ?_
      obtain ⟨x7, S6, hq, hf⟩ := bndC_ex hf
      refine mcall (kd := 0) (vs := [.ref (1), .int (62 : Int32)]) (rest := []) (r := (some (.int x7))) (h' := mk b S6) (ok' := true) C lkRX4_135 (qX4_isSign hq) (kX4_readOne _ (List.mem_of_getElem? (i := 33) rfl)).1 ⟨_, _, rfl, rfl, Nat.le_of_ble_eq_true rfl, _, _, rfl, rfl, rfl⟩ (by show 1 + 1 ≤ 8 + (d + 1); omega) (by show 19 + 2 + 100 * (1) ≤ 100 * (8 + (d + 1)); omega) (Nat.le_refl _) (Nat.le_refl _) (Nat.le_of_ble_eq_true rfl) ?_
      refine msegT C kX4_readOne 34 1 (g := (true, (if x7 = 0 then 65 else 74), [.ref (1), .ref (25), .int v2, .retAddr 0], [], mk b S6)) rfl rfl ?_
      by_cases hc : x7 = 0
      · rw [if_pos hc] at hf ⊢
        refine msegT C kX4_readOne 35 2 (g := (true, 68, [.ref (1), .ref (25), .int v2, .retAddr 0], [.int (61 : Int32), .ref (1)], mk b S6)) rfl rfl ?_
        obtain ⟨x9, S8, hq, hf⟩ := bndC_ex hf
        refine mcall (kd := 0) (vs := [.ref (1), .int (61 : Int32)]) (rest := []) (r := (some (.int x9))) (h' := mk b S8) (ok' := true) C lkRX4_135 (qX4_isSign hq) (kX4_readOne _ (List.mem_of_getElem? (i := 37) rfl)).1 ⟨_, _, rfl, rfl, Nat.le_of_ble_eq_true rfl, _, _, rfl, rfl, rfl⟩ (by show 1 + 1 ≤ 8 + (d + 1); omega) (by show 19 + 2 + 100 * (1) ≤ 100 * (8 + (d + 1)); omega) (Nat.le_refl _) (Nat.le_refl _) (Nat.le_of_ble_eq_true rfl) ?_
        refine msegT C kX4_readOne 38 1 (g := (true, (if x9 = 0 then 98 else 74), [.ref (1), .ref (25), .int v2, .retAddr 0], [], mk b S8)) rfl rfl ?_
        by_cases hc : x9 = 0
        · rw [if_pos hc] at hf ⊢
          exact mfor (L' := [.retAddr 0, .retAddr 0, .retAddr 0, .retAddr 0]) ⟨Or.inl rfl, Or.inl rfl, Or.inl rfl, Or.inl rfl, trivial⟩ (bX4_readOne_98_25 C hr hk Hs0 Hs1 Hs2 Hs3 Hs4 Hs5 hf true)
        · rw [if_neg hc] at hf ⊢
          exact mfor (L' := [.ref (1), .ref (25), .int v2, .retAddr 0]) ⟨Or.inr rfl, Or.inr rfl, Or.inr rfl, Or.inl rfl, trivial⟩ (bX4_readOne_74_25 C hr hk Hs0 Hs1 Hs2 Hs3 Hs4 Hs5 hf true)
      · rw [if_neg hc] at hf ⊢
        exact mfor (L' := [.ref (1), .ref (25), .int v2, .retAddr 0]) ⟨Or.inr rfl, Or.inr rfl, Or.inr rfl, Or.inl rfl, trivial⟩ (bX4_readOne_74_25 C hr hk Hs0 Hs1 Hs2 Hs3 Hs4 Hs5 hf true)
    · rw [if_neg hc] at hf ⊢
      exact mfor (L' := [.ref (1), .ref (25), .int v2, .retAddr 0]) ⟨Or.inr rfl, Or.inr rfl, Or.inr rfl, Or.inl rfl, trivial⟩ (bX4_readOne_74_25 C hr hk Hs0 Hs1 Hs2 Hs3 Hs4 Hs5 hf true)
  · rw [if_neg hc] at hf ⊢
    refine msegT C kX4_readOne 4 3 (g := (true, (if v2 ≤ (6 : Int32) then 21 else 15), [.ref (1), .ref (25), .int v2, .retAddr 0], [], mk b S1)) rfl rfl ?_
    by_cases hc : v2 ≤ (6 : Int32)
    · rw [if_pos hc] at hf ⊢
      refine msegT C kX4_readOne 11 1 (g := (true, 22, [.ref (1), .ref (25), .int v2, .retAddr 0], [.ref (1)], mk b S1)) rfl rfl ?_
      obtain ⟨S10, hq, hf⟩ := bndV_ex hf
      refine mcall (kd := 0) (vs := [.ref (1)]) (rest := []) (r := none) (h' := mk b S10) (ok' := true) C lkRX4_30 (qX4_advance hq) (kX4_readOne _ (List.mem_of_getElem? (i := 12) rfl)).1 ⟨_, _, rfl, rfl, Nat.le_of_ble_eq_true rfl, _, _, rfl, rfl, rfl⟩ (by show 3 + 1 ≤ 8 + (d + 1); omega) (by show 19 + 1 + 100 * (3) ≤ 100 * (8 + (d + 1)); omega) (Nat.le_refl _) (Nat.le_refl _) (Nat.le_of_ble_eq_true rfl) ?_
      refine msegT C kX4_readOne 13 5 (g := (true, 30, [.ref (1), .ref (25), .int v2, .retAddr 0], [.int (v2 + (1 : Int32)), .ref (25), .ref (1)], mk b S10)) rfl rfl ?_
      obtain ⟨S11, hq, hf⟩ := bndV_ex hf
      refine mcall (kd := 0) (vs := [.ref (1), .ref (25), .int (v2 + (1 : Int32))]) (rest := []) (r := none) (h' := mk b S11) (ok' := true) C lkRX4_125 (Hs2 hq) (kX4_readOne _ (List.mem_of_getElem? (i := 18) rfl)).1 ⟨_, _, rfl, rfl, Nat.le_of_ble_eq_true rfl, _, _, rfl, rfl, rfl⟩ (by show 8 + d + 1 ≤ 8 + (d + 1); omega) (by show 19 + 4 + 100 * (8 + d) ≤ 100 * (8 + (d + 1)); omega) (Nat.le_refl _) (Nat.le_refl _) (Nat.le_of_ble_eq_true rfl) ?_
      refine msegT C kX4_readOne 19 2 (g := (true, 37, [.ref (1), .ref (25), .int v2, .retAddr 0], [.int (20033 : Int32), .ref (25)], mk b S11)) rfl rfl ?_
      obtain ⟨S12, hq, hf⟩ := bndV_ex hf
      refine mcall (kd := 0) (vs := [.ref (25), .int (20033 : Int32)]) (rest := []) (r := none) (h' := mk b S12) (ok' := true) C lkRX4_122 (qX0_add_25 hq) (kX4_readOne _ (List.mem_of_getElem? (i := 21) rfl)).1 ⟨_, _, rfl, rfl, Nat.le_of_ble_eq_true rfl, _, _, rfl, rfl, rfl⟩ (by show 1 + 1 ≤ 8 + (d + 1); omega) (by show 19 + 2 + 100 * (1) ≤ 100 * (8 + (d + 1)); omega) (Nat.le_refl _) (Nat.le_refl _) (Nat.le_of_ble_eq_true rfl) ?_
      cases hf
      exact gret_v C hr hk (kX4_readOne _ (List.mem_of_getElem? (i := 22) rfl)).1
    · rw [if_neg hc] at hf ⊢
      refine msegT C kX4_readOne 7 2 (g := (true, 17, [.ref (1), .ref (25), .int v2, .retAddr 0], [.int (2 : Int32), .ref (1)], mk b S1)) rfl rfl ?_
      obtain ⟨S13, hq, hf⟩ := bndV_ex hf
      refine mcall (kd := 0) (vs := [.ref (1), .int (2 : Int32)]) (rest := []) (r := none) (h' := mk b S13) (ok' := true) C lkRX4_79 (qX4_refuse hq) (kX4_readOne _ (List.mem_of_getElem? (i := 9) rfl)).1 ⟨_, _, rfl, rfl, Nat.le_of_ble_eq_true rfl, _, _, rfl, rfl, rfl⟩ (by show 1 + 1 ≤ 8 + (d + 1); omega) (by show 19 + 2 + 100 * (1) ≤ 100 * (8 + (d + 1)); omega) (Nat.le_refl _) (Nat.le_refl _) (Nat.le_of_ble_eq_true rfl) ?_
      cases hf
      exact gret_v C hr hk (kX4_readOne _ (List.mem_of_getElem? (i := 10) rfl)).1
theorem bX4_readOne_98_28 {d : Nat} (C : mCx p (mR (8 + (d + 1))) s m args meth c G cX4_readOne RX4 4 false 233 54500 233 54500) (hr : meth.sig.returnType = none) (hk : meth.locks = false) {b : Bool} {self : Nat → Nat → Int32 → mT → Option (mT)} (Hs0 : ∀ {v2 : Int32} {S S' : mT}, self 0 28 v2 S = some S' → mOk l mX4_readEither (8 + d) [.ref 1, .ref 28, .int v2] b S none S') (Hs1 : ∀ {v2 : Int32} {S S' : mT}, self 1 28 v2 S = some S' → mOk l mX4_readBoth (8 + d) [.ref 1, .ref 28, .int v2] b S none S') (Hs2 : ∀ {v2 : Int32} {S S' : mT}, self 2 28 v2 S = some S' → mOk l mX4_readOne (8 + d) [.ref 1, .ref 28, .int v2] b S none S') (Hs3 : ∀ {v2 : Int32} {S S' : mT}, self 3 28 v2 S = some S' → mOk l mX4_readSum (8 + d) [.ref 1, .ref 28, .int v2] b S none S') (Hs4 : ∀ {v2 : Int32} {S S' : mT}, self 4 28 v2 S = some S' → mOk l mX4_readTerm (8 + d) [.ref 1, .ref 28, .int v2] b S none S') (Hs5 : ∀ {v2 : Int32} {S S' : mT}, self 5 28 v2 S = some S' → mOk l mX4_readUnit (8 + d) [.ref 1, .ref 28, .int v2] b S none S') {S' : mT} {S : mT} (hf : fX4_readOne_98 28 self S = some S') (ok : Bool) : mW p l e (mR (8 + (d + 1))) s m args below meth c G 4 233 54500 (mQ below G args s b S' none) (ok, 98, [.retAddr 0, .retAddr 0, .retAddr 0, .retAddr 0], [], mk b S) := by
  unfold fX4_readOne_98 at hf
  cases hf
  exact gret_v C hr hk (kX4_readOne _ (List.mem_of_getElem? (i := 53) rfl)).1
theorem bX4_readOne_74_28 {d : Nat} (C : mCx p (mR (8 + (d + 1))) s m args meth c G cX4_readOne RX4 4 false 233 54500 233 54500) (hr : meth.sig.returnType = none) (hk : meth.locks = false) {b : Bool} {self : Nat → Nat → Int32 → mT → Option (mT)} (Hs0 : ∀ {v2 : Int32} {S S' : mT}, self 0 28 v2 S = some S' → mOk l mX4_readEither (8 + d) [.ref 1, .ref 28, .int v2] b S none S') (Hs1 : ∀ {v2 : Int32} {S S' : mT}, self 1 28 v2 S = some S' → mOk l mX4_readBoth (8 + d) [.ref 1, .ref 28, .int v2] b S none S') (Hs2 : ∀ {v2 : Int32} {S S' : mT}, self 2 28 v2 S = some S' → mOk l mX4_readOne (8 + d) [.ref 1, .ref 28, .int v2] b S none S') (Hs3 : ∀ {v2 : Int32} {S S' : mT}, self 3 28 v2 S = some S' → mOk l mX4_readSum (8 + d) [.ref 1, .ref 28, .int v2] b S none S') (Hs4 : ∀ {v2 : Int32} {S S' : mT}, self 4 28 v2 S = some S' → mOk l mX4_readTerm (8 + d) [.ref 1, .ref 28, .int v2] b S none S') (Hs5 : ∀ {v2 : Int32} {S S' : mT}, self 5 28 v2 S = some S' → mOk l mX4_readUnit (8 + d) [.ref 1, .ref 28, .int v2] b S none S') {S' : mT} {v2 : Int32} {S : mT} (hf : fX4_readOne_74 28 self v2 S = some S') (ok : Bool) : mW p l e (mR (8 + (d + 1))) s m args below meth c G 4 233 54500 (mQ below G args s b S' none) (ok, 74, [.ref (1), .ref (28), .int v2, .retAddr 0], [], mk b S) := by
  unfold fX4_readOne_74 at hf
  obtain ⟨hok, hf⟩ := grd_ex hf
  refine msegT C kX4_readOne 39 3 (g := ((kO 1 4 && true), 79, [.ref (1), .ref (28), .int v2, .int (S.1 1 9)], [], mk b S)) rfl hok ?_
  obtain ⟨x14, ex14, hf⟩ := bnd_ex hf
  rw [← ex14]
  refine msegT C kX4_readOne 42 1 (g := (true, 80, [.ref (1), .ref (28), .int v2, .int x14], [.ref (1)], mk b S)) rfl rfl ?_
  obtain ⟨S15, hq, hf⟩ := bndV_ex hf
  refine mcall (kd := 0) (vs := [.ref (1)]) (rest := []) (r := none) (h' := mk b S15) (ok' := true) C lkRX4_30 (qX4_advance hq) (kX4_readOne _ (List.mem_of_getElem? (i := 43) rfl)).1 ⟨_, _, rfl, rfl, Nat.le_of_ble_eq_true rfl, _, _, rfl, rfl, rfl⟩ (by show 3 + 1 ≤ 8 + (d + 1); omega) (by show 19 + 1 + 100 * (3) ≤ 100 * (8 + (d + 1)); omega) (Nat.le_refl _) (Nat.le_refl _) (Nat.le_of_ble_eq_true rfl) ?_
  refine msegT C kX4_readOne 44 3 (g := (true, 86, [.ref (1), .ref (28), .int v2, .int x14], [.int v2, .ref (28), .ref (1)], mk b S15)) rfl rfl ?_
  obtain ⟨S16, hq, hf⟩ := bndV_ex hf
  refine mcall (kd := 0) (vs := [.ref (1), .ref (28), .int v2]) (rest := []) (r := none) (h' := mk b S16) (ok' := true) C lkRX4_132 (Hs3 hq) (kX4_readOne _ (List.mem_of_getElem? (i := 47) rfl)).1 ⟨_, _, rfl, rfl, Nat.le_of_ble_eq_true rfl, _, _, rfl, rfl, rfl⟩ (by show 8 + d + 1 ≤ 8 + (d + 1); omega) (by show 19 + 5 + 100 * (8 + d) ≤ 100 * (8 + (d + 1)); omega) (Nat.le_refl _) (Nat.le_refl _) (Nat.le_of_ble_eq_true rfl) ?_
  refine msegT C kX4_readOne 48 4 (g := (true, 95, [.ref (1), .ref (28), .int v2, .int x14], [.int ((20000 : Int32) + x14), .ref (28)], mk b S16)) rfl rfl ?_
  obtain ⟨S17, hq, hf⟩ := bndV_ex hf
  refine mcall (kd := 0) (vs := [.ref (28), .int ((20000 : Int32) + x14)]) (rest := []) (r := none) (h' := mk b S17) (ok' := true) C lkRX4_122 (qX0_add_28 hq) (kX4_readOne _ (List.mem_of_getElem? (i := 52) rfl)).1 ⟨_, _, rfl, rfl, Nat.le_of_ble_eq_true rfl, _, _, rfl, rfl, rfl⟩ (by show 1 + 1 ≤ 8 + (d + 1); omega) (by show 19 + 2 + 100 * (1) ≤ 100 * (8 + (d + 1)); omega) (Nat.le_refl _) (Nat.le_refl _) (Nat.le_of_ble_eq_true rfl) ?_
  exact mfor (L' := [.retAddr 0, .retAddr 0, .retAddr 0, .retAddr 0]) ⟨Or.inl rfl, Or.inl rfl, Or.inl rfl, Or.inl rfl, trivial⟩ (bX4_readOne_98_28 C hr hk Hs0 Hs1 Hs2 Hs3 Hs4 Hs5 hf true)
theorem bX4_readOne_0_28 {d : Nat} (C : mCx p (mR (8 + (d + 1))) s m args meth c G cX4_readOne RX4 4 false 233 54500 233 54500) (hr : meth.sig.returnType = none) (hk : meth.locks = false) {b : Bool} {self : Nat → Nat → Int32 → mT → Option (mT)} (Hs0 : ∀ {v2 : Int32} {S S' : mT}, self 0 28 v2 S = some S' → mOk l mX4_readEither (8 + d) [.ref 1, .ref 28, .int v2] b S none S') (Hs1 : ∀ {v2 : Int32} {S S' : mT}, self 1 28 v2 S = some S' → mOk l mX4_readBoth (8 + d) [.ref 1, .ref 28, .int v2] b S none S') (Hs2 : ∀ {v2 : Int32} {S S' : mT}, self 2 28 v2 S = some S' → mOk l mX4_readOne (8 + d) [.ref 1, .ref 28, .int v2] b S none S') (Hs3 : ∀ {v2 : Int32} {S S' : mT}, self 3 28 v2 S = some S' → mOk l mX4_readSum (8 + d) [.ref 1, .ref 28, .int v2] b S none S') (Hs4 : ∀ {v2 : Int32} {S S' : mT}, self 4 28 v2 S = some S' → mOk l mX4_readTerm (8 + d) [.ref 1, .ref 28, .int v2] b S none S') (Hs5 : ∀ {v2 : Int32} {S S' : mT}, self 5 28 v2 S = some S' → mOk l mX4_readUnit (8 + d) [.ref 1, .ref 28, .int v2] b S none S') {S' : mT} {v2 : Int32} {S : mT} (hf : fX4_readOne_0 28 self v2 S = some S') (ok : Bool) : mW p l e (mR (8 + (d + 1))) s m args below meth c G 4 233 54500 (mQ below G args s b S' none) (ok, 0, [.ref (1), .ref (28), .int v2, .retAddr 0], [], mk b S) := by
  unfold fX4_readOne_0 at hf
  refine msegT C kX4_readOne 0 2 (g := (true, 3, [.ref (1), .ref (28), .int v2, .retAddr 0], [.ref 900011, .ref (1)], mk b S)) rfl rfl ?_
  obtain ⟨x2, S1, hq, hf⟩ := bndC_ex hf
  refine mcall (kd := 0) (vs := [.ref (1), .ref 900011]) (rest := []) (r := (some (.int x2))) (h' := mk b S1) (ok' := true) C lkRX4_38 (qX4_isWord_900011 hq) (kX4_readOne _ (List.mem_of_getElem? (i := 2) rfl)).1 ⟨_, _, rfl, rfl, Nat.le_of_ble_eq_true rfl, _, _, rfl, rfl, rfl⟩ (by show 6 + 1 ≤ 8 + (d + 1); omega) (by show 19 + 4 + 100 * (6) ≤ 100 * (8 + (d + 1)); omega) (Nat.le_refl _) (Nat.le_refl _) (Nat.le_of_ble_eq_true rfl) ?_
  refine msegT C kX4_readOne 3 1 (g := (true, (if x2 = 0 then 41 else 9), [.ref (1), .ref (28), .int v2, .retAddr 0], [], mk b S1)) rfl rfl ?_
  by_cases hc : x2 = 0
  · rw [if_pos hc] at hf ⊢
    refine msegT C kX4_readOne 23 3 (g := (true, 44, [.ref (1), .ref (28), .int v2, .retAddr 0], [.int v2, .ref (28), .ref (1)], mk b S1)) rfl rfl ?_
    obtain ⟨S3, hq, hf⟩ := bndV_ex hf
    refine mcall (kd := 0) (vs := [.ref (1), .ref (28), .int v2]) (rest := []) (r := none) (h' := mk b S3) (ok' := true) C lkRX4_132 (Hs3 hq) (kX4_readOne _ (List.mem_of_getElem? (i := 26) rfl)).1 ⟨_, _, rfl, rfl, Nat.le_of_ble_eq_true rfl, _, _, rfl, rfl, rfl⟩ (by show 8 + d + 1 ≤ 8 + (d + 1); omega) (by show 19 + 5 + 100 * (8 + d) ≤ 100 * (8 + (d + 1)); omega) (Nat.le_refl _) (Nat.le_refl _) (Nat.le_of_ble_eq_true rfl) ?_
    refine msegT C kX4_readOne 27 2 (g := (true, 50, [.ref (1), .ref (28), .int v2, .retAddr 0], [.int (60 : Int32), .ref (1)], mk b S3)) rfl rfl ?_
    obtain ⟨x5, S4, hq, hf⟩ := bndC_ex hf
    refine mcall (kd := 0) (vs := [.ref (1), .int (60 : Int32)]) (rest := []) (r := (some (.int x5))) (h' := mk b S4) (ok' := true) C lkRX4_135 (qX4_isSign hq) (kX4_readOne _ (List.mem_of_getElem? (i := 29) rfl)).1 ⟨_, _, rfl, rfl, Nat.le_of_ble_eq_true rfl, _, _, rfl, rfl, rfl⟩ (by show 1 + 1 ≤ 8 + (d + 1); omega) (by show 19 + 2 + 100 * (1) ≤ 100 * (8 + (d + 1)); omega) (Nat.le_refl _) (Nat.le_refl _) (Nat.le_of_ble_eq_true rfl) ?_
    refine msegT C kX4_readOne 30 1 (g := (true, (if x5 = 0 then 56 else 74), [.ref (1), .ref (28), .int v2, .retAddr 0], [], mk b S4)) rfl rfl ?_
    by_cases hc : x5 = 0
    · rw [if_pos hc] at hf ⊢
      refine msegT C kX4_readOne 31 2 (g := (true, 59, [.ref (1), .ref (28), .int v2, .retAddr 0], [.int (62 : Int32), .ref (1)], mk b S4)) rfl rfl ?_
      obtain ⟨x7, S6, hq, hf⟩ := bndC_ex hf
      refine mcall (kd := 0) (vs := [.ref (1), .int (62 : Int32)]) (rest := []) (r := (some (.int x7))) (h' := mk b S6) (ok' := true) C lkRX4_135 (qX4_isSign hq) (kX4_readOne _ (List.mem_of_getElem? (i := 33) rfl)).1 ⟨_, _, rfl, rfl, Nat.le_of_ble_eq_true rfl, _, _, rfl, rfl, rfl⟩ (by show 1 + 1 ≤ 8 + (d + 1); omega) (by show 19 + 2 + 100 * (1) ≤ 100 * (8 + (d + 1)); omega) (Nat.le_refl _) (Nat.le_refl _) (Nat.le_of_ble_eq_true rfl) ?_
      refine msegT C kX4_readOne 34 1 (g := (true, (if x7 = 0 then 65 else 74), [.ref (1), .ref (28), .int v2, .retAddr 0], [], mk b S6)) rfl rfl ?_
      by_cases hc : x7 = 0
      · rw [if_pos hc] at hf ⊢
        refine msegT C kX4_readOne 35 2 (g := (true, 68, [.ref (1), .ref (28), .int v2, .retAddr 0], [.int (61 : Int32), .ref (1)], mk b S6)) rfl rfl ?_
        obtain ⟨x9, S8, hq, hf⟩ := bndC_ex hf
        refine mcall (kd := 0) (vs := [.ref (1), .int (61 : Int32)]) (rest := []) (r := (some (.int x9))) (h' := mk b S8) (ok' := true) C lkRX4_135 (qX4_isSign hq) (kX4_readOne _ (List.mem_of_getElem? (i := 37) rfl)).1 ⟨_, _, rfl, rfl, Nat.le_of_ble_eq_true rfl, _, _, rfl, rfl, rfl⟩ (by show 1 + 1 ≤ 8 + (d + 1); omega) (by show 19 + 2 + 100 * (1) ≤ 100 * (8 + (d + 1)); omega) (Nat.le_refl _) (Nat.le_refl _) (Nat.le_of_ble_eq_true rfl) ?_
        refine msegT C kX4_readOne 38 1 (g := (true, (if x9 = 0 then 98 else 74), [.ref (1), .ref (28), .int v2, .retAddr 0], [], mk b S8)) rfl rfl ?_
        by_cases hc : x9 = 0
        · rw [if_pos hc] at hf ⊢
          exact mfor (L' := [.retAddr 0, .retAddr 0, .retAddr 0, .retAddr 0]) ⟨Or.inl rfl, Or.inl rfl, Or.inl rfl, Or.inl rfl, trivial⟩ (bX4_readOne_98_28 C hr hk Hs0 Hs1 Hs2 Hs3 Hs4 Hs5 hf true)
        · rw [if_neg hc] at hf ⊢
          exact mfor (L' := [.ref (1), .ref (28), .int v2, .retAddr 0]) ⟨Or.inr rfl, Or.inr rfl, Or.inr rfl, Or.inl rfl, trivial⟩ (bX4_readOne_74_28 C hr hk Hs0 Hs1 Hs2 Hs3 Hs4 Hs5 hf true)
      · rw [if_neg hc] at hf ⊢
        exact mfor (L' := [.ref (1), .ref (28), .int v2, .retAddr 0]) ⟨Or.inr rfl, Or.inr rfl, Or.inr rfl, Or.inl rfl, trivial⟩ (bX4_readOne_74_28 C hr hk Hs0 Hs1 Hs2 Hs3 Hs4 Hs5 hf true)
    · rw [if_neg hc] at hf ⊢
      exact mfor (L' := [.ref (1), .ref (28), .int v2, .retAddr 0]) ⟨Or.inr rfl, Or.inr rfl, Or.inr rfl, Or.inl rfl, trivial⟩ (bX4_readOne_74_28 C hr hk Hs0 Hs1 Hs2 Hs3 Hs4 Hs5 hf true)
  · rw [if_neg hc] at hf ⊢
    refine msegT C kX4_readOne 4 3 (g := (true, (if v2 ≤ (6 : Int32) then 21 else 15), [.ref (1), .ref (28), .int v2, .retAddr 0], [], mk b S1)) rfl rfl ?_
    by_cases hc : v2 ≤ (6 : Int32)
    · rw [if_pos hc] at hf ⊢
      refine msegT C kX4_readOne 11 1 (g := (true, 22, [.ref (1), .ref (28), .int v2, .retAddr 0], [.ref (1)], mk b S1)) rfl rfl ?_
      obtain ⟨S10, hq, hf⟩ := bndV_ex hf
      refine mcall (kd := 0) (vs := [.ref (1)]) (rest := []) (r := none) (h' := mk b S10) (ok' := true) C lkRX4_30 (qX4_advance hq) (kX4_readOne _ (List.mem_of_getElem? (i := 12) rfl)).1 ⟨_, _, rfl, rfl, Nat.le_of_ble_eq_true rfl, _, _, rfl, rfl, rfl⟩ (by show 3 + 1 ≤ 8 + (d + 1); omega) (by show 19 + 1 + 100 * (3) ≤ 100 * (8 + (d + 1)); omega) (Nat.le_refl _) (Nat.le_refl _) (Nat.le_of_ble_eq_true rfl) ?_
      refine msegT C kX4_readOne 13 5 (g := (true, 30, [.ref (1), .ref (28), .int v2, .retAddr 0], [.int (v2 + (1 : Int32)), .ref (28), .ref (1)], mk b S10)) rfl rfl ?_
      obtain ⟨S11, hq, hf⟩ := bndV_ex hf
      refine mcall (kd := 0) (vs := [.ref (1), .ref (28), .int (v2 + (1 : Int32))]) (rest := []) (r := none) (h' := mk b S11) (ok' := true) C lkRX4_125 (Hs2 hq) (kX4_readOne _ (List.mem_of_getElem? (i := 18) rfl)).1 ⟨_, _, rfl, rfl, Nat.le_of_ble_eq_true rfl, _, _, rfl, rfl, rfl⟩ (by show 8 + d + 1 ≤ 8 + (d + 1); omega) (by show 19 + 4 + 100 * (8 + d) ≤ 100 * (8 + (d + 1)); omega) (Nat.le_refl _) (Nat.le_refl _) (Nat.le_of_ble_eq_true rfl) ?_
      refine msegT C kX4_readOne 19 2 (g := (true, 37, [.ref (1), .ref (28), .int v2, .retAddr 0], [.int (20033 : Int32), .ref (28)], mk b S11)) rfl rfl ?_
      obtain ⟨S12, hq, hf⟩ := bndV_ex hf
      refine mcall (kd := 0) (vs := [.ref (28), .int (20033 : Int32)]) (rest := []) (r := none) (h' := mk b S12) (ok' := true) C lkRX4_122 (qX0_add_28 hq) (kX4_readOne _ (List.mem_of_getElem? (i := 21) rfl)).1 ⟨_, _, rfl, rfl, Nat.le_of_ble_eq_true rfl, _, _, rfl, rfl, rfl⟩ (by show 1 + 1 ≤ 8 + (d + 1); omega) (by show 19 + 2 + 100 * (1) ≤ 100 * (8 + (d + 1)); omega) (Nat.le_refl _) (Nat.le_refl _) (Nat.le_of_ble_eq_true rfl) ?_
      cases hf
      exact gret_v C hr hk (kX4_readOne _ (List.mem_of_getElem? (i := 22) rfl)).1
    · rw [if_neg hc] at hf ⊢
      refine msegT C kX4_readOne 7 2 (g := (true, 17, [.ref (1), .ref (28), .int v2, .retAddr 0], [.int (2 : Int32), .ref (1)], mk b S1)) rfl rfl ?_
      obtain ⟨S13, hq, hf⟩ := bndV_ex hf
      refine mcall (kd := 0) (vs := [.ref (1), .int (2 : Int32)]) (rest := []) (r := none) (h' := mk b S13) (ok' := true) C lkRX4_79 (qX4_refuse hq) (kX4_readOne _ (List.mem_of_getElem? (i := 9) rfl)).1 ⟨_, _, rfl, rfl, Nat.le_of_ble_eq_true rfl, _, _, rfl, rfl, rfl⟩ (by show 1 + 1 ≤ 8 + (d + 1); omega) (by show 19 + 2 + 100 * (1) ≤ 100 * (8 + (d + 1)); omega) (Nat.le_refl _) (Nat.le_refl _) (Nat.le_of_ble_eq_true rfl) ?_
      cases hf
      exact gret_v C hr hk (kX4_readOne _ (List.mem_of_getElem? (i := 10) rfl)).1
theorem bX4_readOne_98_31 {d : Nat} (C : mCx p (mR (8 + (d + 1))) s m args meth c G cX4_readOne RX4 4 false 233 54500 233 54500) (hr : meth.sig.returnType = none) (hk : meth.locks = false) {b : Bool} {self : Nat → Nat → Int32 → mT → Option (mT)} (Hs0 : ∀ {v2 : Int32} {S S' : mT}, self 0 31 v2 S = some S' → mOk l mX4_readEither (8 + d) [.ref 1, .ref 31, .int v2] b S none S') (Hs1 : ∀ {v2 : Int32} {S S' : mT}, self 1 31 v2 S = some S' → mOk l mX4_readBoth (8 + d) [.ref 1, .ref 31, .int v2] b S none S') (Hs2 : ∀ {v2 : Int32} {S S' : mT}, self 2 31 v2 S = some S' → mOk l mX4_readOne (8 + d) [.ref 1, .ref 31, .int v2] b S none S') (Hs3 : ∀ {v2 : Int32} {S S' : mT}, self 3 31 v2 S = some S' → mOk l mX4_readSum (8 + d) [.ref 1, .ref 31, .int v2] b S none S') (Hs4 : ∀ {v2 : Int32} {S S' : mT}, self 4 31 v2 S = some S' → mOk l mX4_readTerm (8 + d) [.ref 1, .ref 31, .int v2] b S none S') (Hs5 : ∀ {v2 : Int32} {S S' : mT}, self 5 31 v2 S = some S' → mOk l mX4_readUnit (8 + d) [.ref 1, .ref 31, .int v2] b S none S') {S' : mT} {S : mT} (hf : fX4_readOne_98 31 self S = some S') (ok : Bool) : mW p l e (mR (8 + (d + 1))) s m args below meth c G 4 233 54500 (mQ below G args s b S' none) (ok, 98, [.retAddr 0, .retAddr 0, .retAddr 0, .retAddr 0], [], mk b S) := by
  unfold fX4_readOne_98 at hf
  cases hf
  exact gret_v C hr hk (kX4_readOne _ (List.mem_of_getElem? (i := 53) rfl)).1
theorem bX4_readOne_74_31 {d : Nat} (C : mCx p (mR (8 + (d + 1))) s m args meth c G cX4_readOne RX4 4 false 233 54500 233 54500) (hr : meth.sig.returnType = none) (hk : meth.locks = false) {b : Bool} {self : Nat → Nat → Int32 → mT → Option (mT)} (Hs0 : ∀ {v2 : Int32} {S S' : mT}, self 0 31 v2 S = some S' → mOk l mX4_readEither (8 + d) [.ref 1, .ref 31, .int v2] b S none S') (Hs1 : ∀ {v2 : Int32} {S S' : mT}, self 1 31 v2 S = some S' → mOk l mX4_readBoth (8 + d) [.ref 1, .ref 31, .int v2] b S none S') (Hs2 : ∀ {v2 : Int32} {S S' : mT}, self 2 31 v2 S = some S' → mOk l mX4_readOne (8 + d) [.ref 1, .ref 31, .int v2] b S none S') (Hs3 : ∀ {v2 : Int32} {S S' : mT}, self 3 31 v2 S = some S' → mOk l mX4_readSum (8 + d) [.ref 1, .ref 31, .int v2] b S none S') (Hs4 : ∀ {v2 : Int32} {S S' : mT}, self 4 31 v2 S = some S' → mOk l mX4_readTerm (8 + d) [.ref 1, .ref 31, .int v2] b S none S') (Hs5 : ∀ {v2 : Int32} {S S' : mT}, self 5 31 v2 S = some S' → mOk l mX4_readUnit (8 + d) [.ref 1, .ref 31, .int v2] b S none S') {S' : mT} {v2 : Int32} {S : mT} (hf : fX4_readOne_74 31 self v2 S = some S') (ok : Bool) : mW p l e (mR (8 + (d + 1))) s m args below meth c G 4 233 54500 (mQ below G args s b S' none) (ok, 74, [.ref (1), .ref (31), .int v2, .retAddr 0], [], mk b S) := by
  unfold fX4_readOne_74 at hf
  obtain ⟨hok, hf⟩ := grd_ex hf
  refine msegT C kX4_readOne 39 3 (g := ((kO 1 4 && true), 79, [.ref (1), .ref (31), .int v2, .int (S.1 1 9)], [], mk b S)) rfl hok ?_
  obtain ⟨x14, ex14, hf⟩ := bnd_ex hf
  rw [← ex14]
  refine msegT C kX4_readOne 42 1 (g := (true, 80, [.ref (1), .ref (31), .int v2, .int x14], [.ref (1)], mk b S)) rfl rfl ?_
  obtain ⟨S15, hq, hf⟩ := bndV_ex hf
  refine mcall (kd := 0) (vs := [.ref (1)]) (rest := []) (r := none) (h' := mk b S15) (ok' := true) C lkRX4_30 (qX4_advance hq) (kX4_readOne _ (List.mem_of_getElem? (i := 43) rfl)).1 ⟨_, _, rfl, rfl, Nat.le_of_ble_eq_true rfl, _, _, rfl, rfl, rfl⟩ (by show 3 + 1 ≤ 8 + (d + 1); omega) (by show 19 + 1 + 100 * (3) ≤ 100 * (8 + (d + 1)); omega) (Nat.le_refl _) (Nat.le_refl _) (Nat.le_of_ble_eq_true rfl) ?_
  refine msegT C kX4_readOne 44 3 (g := (true, 86, [.ref (1), .ref (31), .int v2, .int x14], [.int v2, .ref (31), .ref (1)], mk b S15)) rfl rfl ?_
  obtain ⟨S16, hq, hf⟩ := bndV_ex hf
  refine mcall (kd := 0) (vs := [.ref (1), .ref (31), .int v2]) (rest := []) (r := none) (h' := mk b S16) (ok' := true) C lkRX4_132 (Hs3 hq) (kX4_readOne _ (List.mem_of_getElem? (i := 47) rfl)).1 ⟨_, _, rfl, rfl, Nat.le_of_ble_eq_true rfl, _, _, rfl, rfl, rfl⟩ (by show 8 + d + 1 ≤ 8 + (d + 1); omega) (by show 19 + 5 + 100 * (8 + d) ≤ 100 * (8 + (d + 1)); omega) (Nat.le_refl _) (Nat.le_refl _) (Nat.le_of_ble_eq_true rfl) ?_
  refine msegT C kX4_readOne 48 4 (g := (true, 95, [.ref (1), .ref (31), .int v2, .int x14], [.int ((20000 : Int32) + x14), .ref (31)], mk b S16)) rfl rfl ?_
  obtain ⟨S17, hq, hf⟩ := bndV_ex hf
  refine mcall (kd := 0) (vs := [.ref (31), .int ((20000 : Int32) + x14)]) (rest := []) (r := none) (h' := mk b S17) (ok' := true) C lkRX4_122 (qX0_add_31 hq) (kX4_readOne _ (List.mem_of_getElem? (i := 52) rfl)).1 ⟨_, _, rfl, rfl, Nat.le_of_ble_eq_true rfl, _, _, rfl, rfl, rfl⟩ (by show 1 + 1 ≤ 8 + (d + 1); omega) (by show 19 + 2 + 100 * (1) ≤ 100 * (8 + (d + 1)); omega) (Nat.le_refl _) (Nat.le_refl _) (Nat.le_of_ble_eq_true rfl) ?_
  exact mfor (L' := [.retAddr 0, .retAddr 0, .retAddr 0, .retAddr 0]) ⟨Or.inl rfl, Or.inl rfl, Or.inl rfl, Or.inl rfl, trivial⟩ (bX4_readOne_98_31 C hr hk Hs0 Hs1 Hs2 Hs3 Hs4 Hs5 hf true)
theorem bX4_readOne_0_31 {d : Nat} (C : mCx p (mR (8 + (d + 1))) s m args meth c G cX4_readOne RX4 4 false 233 54500 233 54500) (hr : meth.sig.returnType = none) (hk : meth.locks = false) {b : Bool} {self : Nat → Nat → Int32 → mT → Option (mT)} (Hs0 : ∀ {v2 : Int32} {S S' : mT}, self 0 31 v2 S = some S' → mOk l mX4_readEither (8 + d) [.ref 1, .ref 31, .int v2] b S none S') (Hs1 : ∀ {v2 : Int32} {S S' : mT}, self 1 31 v2 S = some S' → mOk l mX4_readBoth (8 + d) [.ref 1, .ref 31, .int v2] b S none S') (Hs2 : ∀ {v2 : Int32} {S S' : mT}, self 2 31 v2 S = some S' → mOk l mX4_readOne (8 + d) [.ref 1, .ref 31, .int v2] b S none S') (Hs3 : ∀ {v2 : Int32} {S S' : mT}, self 3 31 v2 S = some S' → mOk l mX4_readSum (8 + d) [.ref 1, .ref 31, .int v2] b S none S') (Hs4 : ∀ {v2 : Int32} {S S' : mT}, self 4 31 v2 S = some S' → mOk l mX4_readTerm (8 + d) [.ref 1, .ref 31, .int v2] b S none S') (Hs5 : ∀ {v2 : Int32} {S S' : mT}, self 5 31 v2 S = some S' → mOk l mX4_readUnit (8 + d) [.ref 1, .ref 31, .int v2] b S none S') {S' : mT} {v2 : Int32} {S : mT} (hf : fX4_readOne_0 31 self v2 S = some S') (ok : Bool) : mW p l e (mR (8 + (d + 1))) s m args below meth c G 4 233 54500 (mQ below G args s b S' none) (ok, 0, [.ref (1), .ref (31), .int v2, .retAddr 0], [], mk b S) := by
  unfold fX4_readOne_0 at hf
  refine msegT C kX4_readOne 0 2 (g := (true, 3, [.ref (1), .ref (31), .int v2, .retAddr 0], [.ref 900011, .ref (1)], mk b S)) rfl rfl ?_
  obtain ⟨x2, S1, hq, hf⟩ := bndC_ex hf
  refine mcall (kd := 0) (vs := [.ref (1), .ref 900011]) (rest := []) (r := (some (.int x2))) (h' := mk b S1) (ok' := true) C lkRX4_38 (qX4_isWord_900011 hq) (kX4_readOne _ (List.mem_of_getElem? (i := 2) rfl)).1 ⟨_, _, rfl, rfl, Nat.le_of_ble_eq_true rfl, _, _, rfl, rfl, rfl⟩ (by show 6 + 1 ≤ 8 + (d + 1); omega) (by show 19 + 4 + 100 * (6) ≤ 100 * (8 + (d + 1)); omega) (Nat.le_refl _) (Nat.le_refl _) (Nat.le_of_ble_eq_true rfl) ?_
  refine msegT C kX4_readOne 3 1 (g := (true, (if x2 = 0 then 41 else 9), [.ref (1), .ref (31), .int v2, .retAddr 0], [], mk b S1)) rfl rfl ?_
  by_cases hc : x2 = 0
  · rw [if_pos hc] at hf ⊢
    refine msegT C kX4_readOne 23 3 (g := (true, 44, [.ref (1), .ref (31), .int v2, .retAddr 0], [.int v2, .ref (31), .ref (1)], mk b S1)) rfl rfl ?_
    obtain ⟨S3, hq, hf⟩ := bndV_ex hf
    refine mcall (kd := 0) (vs := [.ref (1), .ref (31), .int v2]) (rest := []) (r := none) (h' := mk b S3) (ok' := true) C lkRX4_132 (Hs3 hq) (kX4_readOne _ (List.mem_of_getElem? (i := 26) rfl)).1 ⟨_, _, rfl, rfl, Nat.le_of_ble_eq_true rfl, _, _, rfl, rfl, rfl⟩ (by show 8 + d + 1 ≤ 8 + (d + 1); omega) (by show 19 + 5 + 100 * (8 + d) ≤ 100 * (8 + (d + 1)); omega) (Nat.le_refl _) (Nat.le_refl _) (Nat.le_of_ble_eq_true rfl) ?_
    refine msegT C kX4_readOne 27 2 (g := (true, 50, [.ref (1), .ref (31), .int v2, .retAddr 0], [.int (60 : Int32), .ref (1)], mk b S3)) rfl rfl ?_
    obtain ⟨x5, S4, hq, hf⟩ := bndC_ex hf
    refine mcall (kd := 0) (vs := [.ref (1), .int (60 : Int32)]) (rest := []) (r := (some (.int x5))) (h' := mk b S4) (ok' := true) C lkRX4_135 (qX4_isSign hq) (kX4_readOne _ (List.mem_of_getElem? (i := 29) rfl)).1 ⟨_, _, rfl, rfl, Nat.le_of_ble_eq_true rfl, _, _, rfl, rfl, rfl⟩ (by show 1 + 1 ≤ 8 + (d + 1); omega) (by show 19 + 2 + 100 * (1) ≤ 100 * (8 + (d + 1)); omega) (Nat.le_refl _) (Nat.le_refl _) (Nat.le_of_ble_eq_true rfl) ?_
    refine msegT C kX4_readOne 30 1 (g := (true, (if x5 = 0 then 56 else 74), [.ref (1), .ref (31), .int v2, .retAddr 0], [], mk b S4)) rfl rfl ?_
    by_cases hc : x5 = 0
    · rw [if_pos hc] at hf ⊢
      refine msegT C kX4_readOne 31 2 (g := (true, 59, [.ref (1), .ref (31), .int v2, .retAddr 0], [.int (62 : Int32), .ref (1)], mk b S4)) rfl rfl ?_
      obtain ⟨x7, S6, hq, hf⟩ := bndC_ex hf
      refine mcall (kd := 0) (vs := [.ref (1), .int (62 : Int32)]) (rest := []) (r := (some (.int x7))) (h' := mk b S6) (ok' := true) C lkRX4_135 (qX4_isSign hq) (kX4_readOne _ (List.mem_of_getElem? (i := 33) rfl)).1 ⟨_, _, rfl, rfl, Nat.le_of_ble_eq_true rfl, _, _, rfl, rfl, rfl⟩ (by show 1 + 1 ≤ 8 + (d + 1); omega) (by show 19 + 2 + 100 * (1) ≤ 100 * (8 + (d + 1)); omega) (Nat.le_refl _) (Nat.le_refl _) (Nat.le_of_ble_eq_true rfl) ?_
      refine msegT C kX4_readOne 34 1 (g := (true, (if x7 = 0 then 65 else 74), [.ref (1), .ref (31), .int v2, .retAddr 0], [], mk b S6)) rfl rfl ?_
      by_cases hc : x7 = 0
      · rw [if_pos hc] at hf ⊢
        refine msegT C kX4_readOne 35 2 (g := (true, 68, [.ref (1), .ref (31), .int v2, .retAddr 0], [.int (61 : Int32), .ref (1)], mk b S6)) rfl rfl ?_
        obtain ⟨x9, S8, hq, hf⟩ := bndC_ex hf
        refine mcall (kd := 0) (vs := [.ref (1), .int (61 : Int32)]) (rest := []) (r := (some (.int x9))) (h' := mk b S8) (ok' := true) C lkRX4_135 (qX4_isSign hq) (kX4_readOne _ (List.mem_of_getElem? (i := 37) rfl)).1 ⟨_, _, rfl, rfl, Nat.le_of_ble_eq_true rfl, _, _, rfl, rfl, rfl⟩ (by show 1 + 1 ≤ 8 + (d + 1); omega) (by show 19 + 2 + 100 * (1) ≤ 100 * (8 + (d + 1)); omega) (Nat.le_refl _) (Nat.le_refl _) (Nat.le_of_ble_eq_true rfl) ?_
        refine msegT C kX4_readOne 38 1 (g := (true, (if x9 = 0 then 98 else 74), [.ref (1), .ref (31), .int v2, .retAddr 0], [], mk b S8)) rfl rfl ?_
        by_cases hc : x9 = 0
        · rw [if_pos hc] at hf ⊢
          exact mfor (L' := [.retAddr 0, .retAddr 0, .retAddr 0, .retAddr 0]) ⟨Or.inl rfl, Or.inl rfl, Or.inl rfl, Or.inl rfl, trivial⟩ (bX4_readOne_98_31 C hr hk Hs0 Hs1 Hs2 Hs3 Hs4 Hs5 hf true)
        · rw [if_neg hc] at hf ⊢
          exact mfor (L' := [.ref (1), .ref (31), .int v2, .retAddr 0]) ⟨Or.inr rfl, Or.inr rfl, Or.inr rfl, Or.inl rfl, trivial⟩ (bX4_readOne_74_31 C hr hk Hs0 Hs1 Hs2 Hs3 Hs4 Hs5 hf true)
      · rw [if_neg hc] at hf ⊢
        exact mfor (L' := [.ref (1), .ref (31), .int v2, .retAddr 0]) ⟨Or.inr rfl, Or.inr rfl, Or.inr rfl, Or.inl rfl, trivial⟩ (bX4_readOne_74_31 C hr hk Hs0 Hs1 Hs2 Hs3 Hs4 Hs5 hf true)
    · rw [if_neg hc] at hf ⊢
      exact mfor (L' := [.ref (1), .ref (31), .int v2, .retAddr 0]) ⟨Or.inr rfl, Or.inr rfl, Or.inr rfl, Or.inl rfl, trivial⟩ (bX4_readOne_74_31 C hr hk Hs0 Hs1 Hs2 Hs3 Hs4 Hs5 hf true)
  · rw [if_neg hc] at hf ⊢
    refine msegT C kX4_readOne 4 3 (g := (true, (if v2 ≤ (6 : Int32) then 21 else 15), [.ref (1), .ref (31), .int v2, .retAddr 0], [], mk b S1)) rfl rfl ?_
    by_cases hc : v2 ≤ (6 : Int32)
    · rw [if_pos hc] at hf ⊢
      refine msegT C kX4_readOne 11 1 (g := (true, 22, [.ref (1), .ref (31), .int v2, .retAddr 0], [.ref (1)], mk b S1)) rfl rfl ?_
      obtain ⟨S10, hq, hf⟩ := bndV_ex hf
      refine mcall (kd := 0) (vs := [.ref (1)]) (rest := []) (r := none) (h' := mk b S10) (ok' := true) C lkRX4_30 (qX4_advance hq) (kX4_readOne _ (List.mem_of_getElem? (i := 12) rfl)).1 ⟨_, _, rfl, rfl, Nat.le_of_ble_eq_true rfl, _, _, rfl, rfl, rfl⟩ (by show 3 + 1 ≤ 8 + (d + 1); omega) (by show 19 + 1 + 100 * (3) ≤ 100 * (8 + (d + 1)); omega) (Nat.le_refl _) (Nat.le_refl _) (Nat.le_of_ble_eq_true rfl) ?_
      refine msegT C kX4_readOne 13 5 (g := (true, 30, [.ref (1), .ref (31), .int v2, .retAddr 0], [.int (v2 + (1 : Int32)), .ref (31), .ref (1)], mk b S10)) rfl rfl ?_
      obtain ⟨S11, hq, hf⟩ := bndV_ex hf
      refine mcall (kd := 0) (vs := [.ref (1), .ref (31), .int (v2 + (1 : Int32))]) (rest := []) (r := none) (h' := mk b S11) (ok' := true) C lkRX4_125 (Hs2 hq) (kX4_readOne _ (List.mem_of_getElem? (i := 18) rfl)).1 ⟨_, _, rfl, rfl, Nat.le_of_ble_eq_true rfl, _, _, rfl, rfl, rfl⟩ (by show 8 + d + 1 ≤ 8 + (d + 1); omega) (by show 19 + 4 + 100 * (8 + d) ≤ 100 * (8 + (d + 1)); omega) (Nat.le_refl _) (Nat.le_refl _) (Nat.le_of_ble_eq_true rfl) ?_
      refine msegT C kX4_readOne 19 2 (g := (true, 37, [.ref (1), .ref (31), .int v2, .retAddr 0], [.int (20033 : Int32), .ref (31)], mk b S11)) rfl rfl ?_
      obtain ⟨S12, hq, hf⟩ := bndV_ex hf
      refine mcall (kd := 0) (vs := [.ref (31), .int (20033 : Int32)]) (rest := []) (r := none) (h' := mk b S12) (ok' := true) C lkRX4_122 (qX0_add_31 hq) (kX4_readOne _ (List.mem_of_getElem? (i := 21) rfl)).1 ⟨_, _, rfl, rfl, Nat.le_of_ble_eq_true rfl, _, _, rfl, rfl, rfl⟩ (by show 1 + 1 ≤ 8 + (d + 1); omega) (by show 19 + 2 + 100 * (1) ≤ 100 * (8 + (d + 1)); omega) (Nat.le_refl _) (Nat.le_refl _) (Nat.le_of_ble_eq_true rfl) ?_
      cases hf
      exact gret_v C hr hk (kX4_readOne _ (List.mem_of_getElem? (i := 22) rfl)).1
    · rw [if_neg hc] at hf ⊢
      refine msegT C kX4_readOne 7 2 (g := (true, 17, [.ref (1), .ref (31), .int v2, .retAddr 0], [.int (2 : Int32), .ref (1)], mk b S1)) rfl rfl ?_
      obtain ⟨S13, hq, hf⟩ := bndV_ex hf
      refine mcall (kd := 0) (vs := [.ref (1), .int (2 : Int32)]) (rest := []) (r := none) (h' := mk b S13) (ok' := true) C lkRX4_79 (qX4_refuse hq) (kX4_readOne _ (List.mem_of_getElem? (i := 9) rfl)).1 ⟨_, _, rfl, rfl, Nat.le_of_ble_eq_true rfl, _, _, rfl, rfl, rfl⟩ (by show 1 + 1 ≤ 8 + (d + 1); omega) (by show 19 + 2 + 100 * (1) ≤ 100 * (8 + (d + 1)); omega) (Nat.le_refl _) (Nat.le_refl _) (Nat.le_of_ble_eq_true rfl) ?_
      cases hf
      exact gret_v C hr hk (kX4_readOne _ (List.mem_of_getElem? (i := 10) rfl)).1
theorem bX4_readSum_33_9 {d : Nat} (C : mCx p (mR (8 + (d + 1))) s m args meth c G cX4_readSum RX4 5 false 233 54500 233 54500) (hr : meth.sig.returnType = none) (hk : meth.locks = false) {b : Bool} {self : Nat → Nat → Int32 → mT → Option (mT)} (Hs0 : ∀ {v2 : Int32} {S S' : mT}, self 0 9 v2 S = some S' → mOk l mX4_readEither (8 + d) [.ref 1, .ref 9, .int v2] b S none S') (Hs1 : ∀ {v2 : Int32} {S S' : mT}, self 1 9 v2 S = some S' → mOk l mX4_readBoth (8 + d) [.ref 1, .ref 9, .int v2] b S none S') (Hs2 : ∀ {v2 : Int32} {S S' : mT}, self 2 9 v2 S = some S' → mOk l mX4_readOne (8 + d) [.ref 1, .ref 9, .int v2] b S none S') (Hs3 : ∀ {v2 : Int32} {S S' : mT}, self 3 9 v2 S = some S' → mOk l mX4_readSum (8 + d) [.ref 1, .ref 9, .int v2] b S none S') (Hs4 : ∀ {v2 : Int32} {S S' : mT}, self 4 9 v2 S = some S' → mOk l mX4_readTerm (8 + d) [.ref 1, .ref 9, .int v2] b S none S') (Hs5 : ∀ {v2 : Int32} {S S' : mT}, self 5 9 v2 S = some S' → mOk l mX4_readUnit (8 + d) [.ref 1, .ref 9, .int v2] b S none S') {S' : mT} {rc8 : Int32 → Int32 → mT → Option (mT)} (Hrc8 : ∀ (v2 : Int32) (v3 : Int32) (S : mT), rc8 v2 v3 S = some S' → ∀ ok : Bool, mW p l e (mR (8 + (d + 1))) s m args below meth c G 5 233 54500 (mQ below G args s b S' none) (ok, 8, [.ref (1), .ref (9), .int v2, .int v3, .retAddr 0], [], mk b S)) {v2 : Int32} {v3 : Int32} {S : mT} (hf : fX4_readSum_33 9 self rc8 v2 v3 S = some S') (ok : Bool) : mW p l e (mR (8 + (d + 1))) s m args below meth c G 5 233 54500 (mQ below G args s b S' none) (ok, 33, [.ref (1), .ref (9), .int v2, .int v3, .retAddr 0], [], mk b S) := by
  unfold fX4_readSum_33 at hf
  obtain ⟨hok, hf⟩ := grd_ex hf
  refine msegT C kX4_readSum 17 3 (g := ((kO 1 4 && true), 39, [.ref (1), .ref (9), .int v2, .int v3, .int (S.1 1 9)], [], mk b S)) rfl hok ?_
  obtain ⟨x6, ex6, hf⟩ := bnd_ex hf
  rw [← ex6]
  refine msegT C kX4_readSum 20 1 (g := (true, 40, [.ref (1), .ref (9), .int v2, .int v3, .int x6], [.ref (1)], mk b S)) rfl rfl ?_
  obtain ⟨S7, hq, hf⟩ := bndV_ex hf
  refine mcall (kd := 0) (vs := [.ref (1)]) (rest := []) (r := none) (h' := mk b S7) (ok' := true) C lkRX4_30 (qX4_advance hq) (kX4_readSum _ (List.mem_of_getElem? (i := 21) rfl)).1 ⟨_, _, rfl, rfl, Nat.le_of_ble_eq_true rfl, _, _, rfl, rfl, rfl⟩ (by show 3 + 1 ≤ 8 + (d + 1); omega) (by show 19 + 1 + 100 * (3) ≤ 100 * (8 + (d + 1)); omega) (Nat.le_refl _) (Nat.le_refl _) (Nat.le_of_ble_eq_true rfl) ?_
  refine msegT C kX4_readSum 22 3 (g := (true, 46, [.ref (1), .ref (9), .int v2, .int v3, .int x6], [.int v2, .ref (9), .ref (1)], mk b S7)) rfl rfl ?_
  obtain ⟨S8, hq, hf⟩ := bndV_ex hf
  refine mcall (kd := 0) (vs := [.ref (1), .ref (9), .int v2]) (rest := []) (r := none) (h' := mk b S8) (ok' := true) C lkRX4_143 (Hs4 hq) (kX4_readSum _ (List.mem_of_getElem? (i := 25) rfl)).1 ⟨_, _, rfl, rfl, Nat.le_of_ble_eq_true rfl, _, _, rfl, rfl, rfl⟩ (by show 8 + d + 1 ≤ 8 + (d + 1); omega) (by show 19 + 5 + 100 * (8 + d) ≤ 100 * (8 + (d + 1)); omega) (Nat.le_refl _) (Nat.le_refl _) (Nat.le_of_ble_eq_true rfl) ?_
  refine msegT C kX4_readSum 26 4 (g := (true, 56, [.ref (1), .ref (9), .int v2, .int v3, .int x6], [.int ((20000 : Int32) + x6), .ref (9)], mk b S8)) rfl rfl ?_
  obtain ⟨S9, hq, hf⟩ := bndV_ex hf
  refine mcall (kd := 0) (vs := [.ref (9), .int ((20000 : Int32) + x6)]) (rest := []) (r := none) (h' := mk b S9) (ok' := true) C lkRX4_122 (qX0_add_9 hq) (kX4_readSum _ (List.mem_of_getElem? (i := 30) rfl)).1 ⟨_, _, rfl, rfl, Nat.le_of_ble_eq_true rfl, _, _, rfl, rfl, rfl⟩ (by show 1 + 1 ≤ 8 + (d + 1); omega) (by show 19 + 2 + 100 * (1) ≤ 100 * (8 + (d + 1)); omega) (Nat.le_refl _) (Nat.le_refl _) (Nat.le_of_ble_eq_true rfl) ?_
  refine msegT C kX4_readSum 31 1 (g := (true, 62, [.ref (1), .ref (9), .int v2, .int (v3 + (1 : Int32)), .int x6], [], mk b S9)) rfl rfl ?_
  obtain ⟨x10, ex10, hf⟩ := bnd_ex hf
  rw [← ex10]
  refine msegT C kX4_readSum 32 1 (g := (true, 8, [.ref (1), .ref (9), .int v2, .int x10, .int x6], [], mk b S9)) rfl rfl ?_
  exact mfor (L' := [.ref (1), .ref (9), .int v2, .int x10, .retAddr 0]) ⟨Or.inr rfl, Or.inr rfl, Or.inr rfl, Or.inr rfl, Or.inl rfl, trivial⟩ (Hrc8 _ _ _ hf true)
theorem bX4_readSum_65_9 {d : Nat} (C : mCx p (mR (8 + (d + 1))) s m args meth c G cX4_readSum RX4 5 false 233 54500 233 54500) (hr : meth.sig.returnType = none) (hk : meth.locks = false) {b : Bool} {self : Nat → Nat → Int32 → mT → Option (mT)} (Hs0 : ∀ {v2 : Int32} {S S' : mT}, self 0 9 v2 S = some S' → mOk l mX4_readEither (8 + d) [.ref 1, .ref 9, .int v2] b S none S') (Hs1 : ∀ {v2 : Int32} {S S' : mT}, self 1 9 v2 S = some S' → mOk l mX4_readBoth (8 + d) [.ref 1, .ref 9, .int v2] b S none S') (Hs2 : ∀ {v2 : Int32} {S S' : mT}, self 2 9 v2 S = some S' → mOk l mX4_readOne (8 + d) [.ref 1, .ref 9, .int v2] b S none S') (Hs3 : ∀ {v2 : Int32} {S S' : mT}, self 3 9 v2 S = some S' → mOk l mX4_readSum (8 + d) [.ref 1, .ref 9, .int v2] b S none S') (Hs4 : ∀ {v2 : Int32} {S S' : mT}, self 4 9 v2 S = some S' → mOk l mX4_readTerm (8 + d) [.ref 1, .ref 9, .int v2] b S none S') (Hs5 : ∀ {v2 : Int32} {S S' : mT}, self 5 9 v2 S = some S' → mOk l mX4_readUnit (8 + d) [.ref 1, .ref 9, .int v2] b S none S') {S' : mT} {S : mT} (hf : fX4_readSum_65 9 self S = some S') (ok : Bool) : mW p l e (mR (8 + (d + 1))) s m args below meth c G 5 233 54500 (mQ below G args s b S' none) (ok, 65, [.retAddr 0, .retAddr 0, .retAddr 0, .retAddr 0, .retAddr 0], [], mk b S) := by
  unfold fX4_readSum_65 at hf
  cases hf
  exact gret_v C hr hk (kX4_readSum _ (List.mem_of_getElem? (i := 33) rfl)).1
theorem bX4_readSum_8_9 {d : Nat} (C : mCx p (mR (8 + (d + 1))) s m args meth c G cX4_readSum RX4 5 false 233 54500 233 54500) (hr : meth.sig.returnType = none) (hk : meth.locks = false) {b : Bool} {self : Nat → Nat → Int32 → mT → Option (mT)} (Hs0 : ∀ {v2 : Int32} {S S' : mT}, self 0 9 v2 S = some S' → mOk l mX4_readEither (8 + d) [.ref 1, .ref 9, .int v2] b S none S') (Hs1 : ∀ {v2 : Int32} {S S' : mT}, self 1 9 v2 S = some S' → mOk l mX4_readBoth (8 + d) [.ref 1, .ref 9, .int v2] b S none S') (Hs2 : ∀ {v2 : Int32} {S S' : mT}, self 2 9 v2 S = some S' → mOk l mX4_readOne (8 + d) [.ref 1, .ref 9, .int v2] b S none S') (Hs3 : ∀ {v2 : Int32} {S S' : mT}, self 3 9 v2 S = some S' → mOk l mX4_readSum (8 + d) [.ref 1, .ref 9, .int v2] b S none S') (Hs4 : ∀ {v2 : Int32} {S S' : mT}, self 4 9 v2 S = some S' → mOk l mX4_readTerm (8 + d) [.ref 1, .ref 9, .int v2] b S none S') (Hs5 : ∀ {v2 : Int32} {S S' : mT}, self 5 9 v2 S = some S' → mOk l mX4_readUnit (8 + d) [.ref 1, .ref 9, .int v2] b S none S') {S' : mT} : ∀ (k : Nat) (v2 : Int32) (v3 : Int32) (S : mT), fX4_readSum_8 9 self k v2 v3 S = some S' → ∀ ok : Bool, mW p l e (mR (8 + (d + 1))) s m args below meth c G 5 233 54500 (mQ below G args s b S' none) (ok, 8, [.ref (1), .ref (9), .int v2, .int v3, .retAddr 0], [], mk b S) := by
  intro k
  induction k with
  | zero =>
    intro v2 v3 S hf ok
    cases hf
  | succ k ih =>
    intro v2 v3 S hf ok
    unfold fX4_readSum_8 at hf
    refine msegT C kX4_readSum 6 3 (g := (true, (if (1600 : Int32) ≤ v3 then 65 else 15), [.ref (1), .ref (9), .int v2, .int v3, .retAddr 0], [], mk b S)) rfl rfl ?_
    by_cases hc : (1600 : Int32) ≤ v3
    · rw [if_pos hc] at hf ⊢
      exact mfor (L' := [.retAddr 0, .retAddr 0, .retAddr 0, .retAddr 0, .retAddr 0]) ⟨Or.inl rfl, Or.inl rfl, Or.inl rfl, Or.inl rfl, Or.inl rfl, trivial⟩ (bX4_readSum_65_9 C hr hk Hs0 Hs1 Hs2 Hs3 Hs4 Hs5 hf true)
    · rw [if_neg hc] at hf ⊢
      refine msegT C kX4_readSum 9 2 (g := (true, 18, [.ref (1), .ref (9), .int v2, .int v3, .retAddr 0], [.int (43 : Int32), .ref (1)], mk b S)) rfl rfl ?_
      obtain ⟨x3, S2, hq, hf⟩ := bndC_ex hf
      refine mcall (kd := 0) (vs := [.ref (1), .int (43 : Int32)]) (rest := []) (r := (some (.int x3))) (h' := mk b S2) (ok' := true) C lkRX4_135 (qX4_isSign hq) (kX4_readSum _ (List.mem_of_getElem? (i := 11) rfl)).1 ⟨_, _, rfl, rfl, Nat.le_of_ble_eq_true rfl, _, _, rfl, rfl, rfl⟩ (by show 1 + 1 ≤ 8 + (d + 1); omega) (by show 19 + 2 + 100 * (1) ≤ 100 * (8 + (d + 1)); omega) (Nat.le_refl _) (Nat.le_refl _) (Nat.le_of_ble_eq_true rfl) ?_
      refine msegT C kX4_readSum 12 1 (g := (true, (if x3 = 0 then 24 else 33), [.ref (1), .ref (9), .int v2, .int v3, .retAddr 0], [], mk b S2)) rfl rfl ?_
      by_cases hc : x3 = 0
      · rw [if_pos hc] at hf ⊢
        refine msegT C kX4_readSum 13 2 (g := (true, 27, [.ref (1), .ref (9), .int v2, .int v3, .retAddr 0], [.int (45 : Int32), .ref (1)], mk b S2)) rfl rfl ?_
        obtain ⟨x5, S4, hq, hf⟩ := bndC_ex hf
        refine mcall (kd := 0) (vs := [.ref (1), .int (45 : Int32)]) (rest := []) (r := (some (.int x5))) (h' := mk b S4) (ok' := true) C lkRX4_135 (qX4_isSign hq) (kX4_readSum _ (List.mem_of_getElem? (i := 15) rfl)).1 ⟨_, _, rfl, rfl, Nat.le_of_ble_eq_true rfl, _, _, rfl, rfl, rfl⟩ (by show 1 + 1 ≤ 8 + (d + 1); omega) (by show 19 + 2 + 100 * (1) ≤ 100 * (8 + (d + 1)); omega) (Nat.le_refl _) (Nat.le_refl _) (Nat.le_of_ble_eq_true rfl) ?_
        refine msegT C kX4_readSum 16 1 (g := (true, (if x5 = 0 then 65 else 33), [.ref (1), .ref (9), .int v2, .int v3, .retAddr 0], [], mk b S4)) rfl rfl ?_
        by_cases hc : x5 = 0
        · rw [if_pos hc] at hf ⊢
          exact mfor (L' := [.retAddr 0, .retAddr 0, .retAddr 0, .retAddr 0, .retAddr 0]) ⟨Or.inl rfl, Or.inl rfl, Or.inl rfl, Or.inl rfl, Or.inl rfl, trivial⟩ (bX4_readSum_65_9 C hr hk Hs0 Hs1 Hs2 Hs3 Hs4 Hs5 hf true)
        · rw [if_neg hc] at hf ⊢
          exact mfor (L' := [.ref (1), .ref (9), .int v2, .int v3, .retAddr 0]) ⟨Or.inr rfl, Or.inr rfl, Or.inr rfl, Or.inr rfl, Or.inl rfl, trivial⟩ (bX4_readSum_33_9 C hr hk Hs0 Hs1 Hs2 Hs3 Hs4 Hs5 ih hf true)
      · rw [if_neg hc] at hf ⊢
        exact mfor (L' := [.ref (1), .ref (9), .int v2, .int v3, .retAddr 0]) ⟨Or.inr rfl, Or.inr rfl, Or.inr rfl, Or.inr rfl, Or.inl rfl, trivial⟩ (bX4_readSum_33_9 C hr hk Hs0 Hs1 Hs2 Hs3 Hs4 Hs5 ih hf true)
theorem bX4_readSum_0_9 {d : Nat} (C : mCx p (mR (8 + (d + 1))) s m args meth c G cX4_readSum RX4 5 false 233 54500 233 54500) (hr : meth.sig.returnType = none) (hk : meth.locks = false) {b : Bool} {self : Nat → Nat → Int32 → mT → Option (mT)} (Hs0 : ∀ {v2 : Int32} {S S' : mT}, self 0 9 v2 S = some S' → mOk l mX4_readEither (8 + d) [.ref 1, .ref 9, .int v2] b S none S') (Hs1 : ∀ {v2 : Int32} {S S' : mT}, self 1 9 v2 S = some S' → mOk l mX4_readBoth (8 + d) [.ref 1, .ref 9, .int v2] b S none S') (Hs2 : ∀ {v2 : Int32} {S S' : mT}, self 2 9 v2 S = some S' → mOk l mX4_readOne (8 + d) [.ref 1, .ref 9, .int v2] b S none S') (Hs3 : ∀ {v2 : Int32} {S S' : mT}, self 3 9 v2 S = some S' → mOk l mX4_readSum (8 + d) [.ref 1, .ref 9, .int v2] b S none S') (Hs4 : ∀ {v2 : Int32} {S S' : mT}, self 4 9 v2 S = some S' → mOk l mX4_readTerm (8 + d) [.ref 1, .ref 9, .int v2] b S none S') (Hs5 : ∀ {v2 : Int32} {S S' : mT}, self 5 9 v2 S = some S' → mOk l mX4_readUnit (8 + d) [.ref 1, .ref 9, .int v2] b S none S') {S' : mT} {v2 : Int32} {S : mT} (hf : fX4_readSum_0 9 self v2 S = some S') (ok : Bool) : mW p l e (mR (8 + (d + 1))) s m args below meth c G 5 233 54500 (mQ below G args s b S' none) (ok, 0, [.ref (1), .ref (9), .int v2, .retAddr 0, .retAddr 0], [], mk b S) := by
  unfold fX4_readSum_0 at hf
  refine msegT C kX4_readSum 0 3 (g := (true, 3, [.ref (1), .ref (9), .int v2, .retAddr 0, .retAddr 0], [.int v2, .ref (9), .ref (1)], mk b S)) rfl rfl ?_
  obtain ⟨S1, hq, hf⟩ := bndV_ex hf
  refine mcall (kd := 0) (vs := [.ref (1), .ref (9), .int v2]) (rest := []) (r := none) (h' := mk b S1) (ok' := true) C lkRX4_143 (Hs4 hq) (kX4_readSum _ (List.mem_of_getElem? (i := 3) rfl)).1 ⟨_, _, rfl, rfl, Nat.le_of_ble_eq_true rfl, _, _, rfl, rfl, rfl⟩ (by show 8 + d + 1 ≤ 8 + (d + 1); omega) (by show 19 + 5 + 100 * (8 + d) ≤ 100 * (8 + (d + 1)); omega) (Nat.le_refl _) (Nat.le_refl _) (Nat.le_of_ble_eq_true rfl) ?_
  refine msegT C kX4_readSum 4 2 (g := (true, 8, [.ref (1), .ref (9), .int v2, .int (0 : Int32), .retAddr 0], [], mk b S1)) rfl rfl ?_
  exact mfor (L' := [.ref (1), .ref (9), .int v2, .int (0 : Int32), .retAddr 0]) ⟨Or.inr rfl, Or.inr rfl, Or.inr rfl, Or.inr rfl, Or.inl rfl, trivial⟩ (bX4_readSum_8_9 C hr hk Hs0 Hs1 Hs2 Hs3 Hs4 Hs5 _ _ _ _ hf true)
theorem bX4_readSum_33_12 {d : Nat} (C : mCx p (mR (8 + (d + 1))) s m args meth c G cX4_readSum RX4 5 false 233 54500 233 54500) (hr : meth.sig.returnType = none) (hk : meth.locks = false) {b : Bool} {self : Nat → Nat → Int32 → mT → Option (mT)} (Hs0 : ∀ {v2 : Int32} {S S' : mT}, self 0 12 v2 S = some S' → mOk l mX4_readEither (8 + d) [.ref 1, .ref 12, .int v2] b S none S') (Hs1 : ∀ {v2 : Int32} {S S' : mT}, self 1 12 v2 S = some S' → mOk l mX4_readBoth (8 + d) [.ref 1, .ref 12, .int v2] b S none S') (Hs2 : ∀ {v2 : Int32} {S S' : mT}, self 2 12 v2 S = some S' → mOk l mX4_readOne (8 + d) [.ref 1, .ref 12, .int v2] b S none S') (Hs3 : ∀ {v2 : Int32} {S S' : mT}, self 3 12 v2 S = some S' → mOk l mX4_readSum (8 + d) [.ref 1, .ref 12, .int v2] b S none S') (Hs4 : ∀ {v2 : Int32} {S S' : mT}, self 4 12 v2 S = some S' → mOk l mX4_readTerm (8 + d) [.ref 1, .ref 12, .int v2] b S none S') (Hs5 : ∀ {v2 : Int32} {S S' : mT}, self 5 12 v2 S = some S' → mOk l mX4_readUnit (8 + d) [.ref 1, .ref 12, .int v2] b S none S') {S' : mT} {rc8 : Int32 → Int32 → mT → Option (mT)} (Hrc8 : ∀ (v2 : Int32) (v3 : Int32) (S : mT), rc8 v2 v3 S = some S' → ∀ ok : Bool, mW p l e (mR (8 + (d + 1))) s m args below meth c G 5 233 54500 (mQ below G args s b S' none) (ok, 8, [.ref (1), .ref (12), .int v2, .int v3, .retAddr 0], [], mk b S)) {v2 : Int32} {v3 : Int32} {S : mT} (hf : fX4_readSum_33 12 self rc8 v2 v3 S = some S') (ok : Bool) : mW p l e (mR (8 + (d + 1))) s m args below meth c G 5 233 54500 (mQ below G args s b S' none) (ok, 33, [.ref (1), .ref (12), .int v2, .int v3, .retAddr 0], [], mk b S) := by
  unfold fX4_readSum_33 at hf
  obtain ⟨hok, hf⟩ := grd_ex hf
  refine msegT C kX4_readSum 17 3 (g := ((kO 1 4 && true), 39, [.ref (1), .ref (12), .int v2, .int v3, .int (S.1 1 9)], [], mk b S)) rfl hok ?_
  obtain ⟨x6, ex6, hf⟩ := bnd_ex hf
  rw [← ex6]
  refine msegT C kX4_readSum 20 1 (g := (true, 40, [.ref (1), .ref (12), .int v2, .int v3, .int x6], [.ref (1)], mk b S)) rfl rfl ?_
  obtain ⟨S7, hq, hf⟩ := bndV_ex hf
  refine mcall (kd := 0) (vs := [.ref (1)]) (rest := []) (r := none) (h' := mk b S7) (ok' := true) C lkRX4_30 (qX4_advance hq) (kX4_readSum _ (List.mem_of_getElem? (i := 21) rfl)).1 ⟨_, _, rfl, rfl, Nat.le_of_ble_eq_true rfl, _, _, rfl, rfl, rfl⟩ (by show 3 + 1 ≤ 8 + (d + 1); omega) (by show 19 + 1 + 100 * (3) ≤ 100 * (8 + (d + 1)); omega) (Nat.le_refl _) (Nat.le_refl _) (Nat.le_of_ble_eq_true rfl) ?_
  refine msegT C kX4_readSum 22 3 (g := (true, 46, [.ref (1), .ref (12), .int v2, .int v3, .int x6], [.int v2, .ref (12), .ref (1)], mk b S7)) rfl rfl ?_
  obtain ⟨S8, hq, hf⟩ := bndV_ex hf
  refine mcall (kd := 0) (vs := [.ref (1), .ref (12), .int v2]) (rest := []) (r := none) (h' := mk b S8) (ok' := true) C lkRX4_143 (Hs4 hq) (kX4_readSum _ (List.mem_of_getElem? (i := 25) rfl)).1 ⟨_, _, rfl, rfl, Nat.le_of_ble_eq_true rfl, _, _, rfl, rfl, rfl⟩ (by show 8 + d + 1 ≤ 8 + (d + 1); omega) (by show 19 + 5 + 100 * (8 + d) ≤ 100 * (8 + (d + 1)); omega) (Nat.le_refl _) (Nat.le_refl _) (Nat.le_of_ble_eq_true rfl) ?_
  refine msegT C kX4_readSum 26 4 (g := (true, 56, [.ref (1), .ref (12), .int v2, .int v3, .int x6], [.int ((20000 : Int32) + x6), .ref (12)], mk b S8)) rfl rfl ?_
  obtain ⟨S9, hq, hf⟩ := bndV_ex hf
  refine mcall (kd := 0) (vs := [.ref (12), .int ((20000 : Int32) + x6)]) (rest := []) (r := none) (h' := mk b S9) (ok' := true) C lkRX4_122 (qX0_add_12 hq) (kX4_readSum _ (List.mem_of_getElem? (i := 30) rfl)).1 ⟨_, _, rfl, rfl, Nat.le_of_ble_eq_true rfl, _, _, rfl, rfl, rfl⟩ (by show 1 + 1 ≤ 8 + (d + 1); omega) (by show 19 + 2 + 100 * (1) ≤ 100 * (8 + (d + 1)); omega) (Nat.le_refl _) (Nat.le_refl _) (Nat.le_of_ble_eq_true rfl) ?_
  refine msegT C kX4_readSum 31 1 (g := (true, 62, [.ref (1), .ref (12), .int v2, .int (v3 + (1 : Int32)), .int x6], [], mk b S9)) rfl rfl ?_
  obtain ⟨x10, ex10, hf⟩ := bnd_ex hf
  rw [← ex10]
  refine msegT C kX4_readSum 32 1 (g := (true, 8, [.ref (1), .ref (12), .int v2, .int x10, .int x6], [], mk b S9)) rfl rfl ?_
  exact mfor (L' := [.ref (1), .ref (12), .int v2, .int x10, .retAddr 0]) ⟨Or.inr rfl, Or.inr rfl, Or.inr rfl, Or.inr rfl, Or.inl rfl, trivial⟩ (Hrc8 _ _ _ hf true)
theorem bX4_readSum_65_12 {d : Nat} (C : mCx p (mR (8 + (d + 1))) s m args meth c G cX4_readSum RX4 5 false 233 54500 233 54500) (hr : meth.sig.returnType = none) (hk : meth.locks = false) {b : Bool} {self : Nat → Nat → Int32 → mT → Option (mT)} (Hs0 : ∀ {v2 : Int32} {S S' : mT}, self 0 12 v2 S = some S' → mOk l mX4_readEither (8 + d) [.ref 1, .ref 12, .int v2] b S none S') (Hs1 : ∀ {v2 : Int32} {S S' : mT}, self 1 12 v2 S = some S' → mOk l mX4_readBoth (8 + d) [.ref 1, .ref 12, .int v2] b S none S') (Hs2 : ∀ {v2 : Int32} {S S' : mT}, self 2 12 v2 S = some S' → mOk l mX4_readOne (8 + d) [.ref 1, .ref 12, .int v2] b S none S') (Hs3 : ∀ {v2 : Int32} {S S' : mT}, self 3 12 v2 S = some S' → mOk l mX4_readSum (8 + d) [.ref 1, .ref 12, .int v2] b S none S') (Hs4 : ∀ {v2 : Int32} {S S' : mT}, self 4 12 v2 S = some S' → mOk l mX4_readTerm (8 + d) [.ref 1, .ref 12, .int v2] b S none S') (Hs5 : ∀ {v2 : Int32} {S S' : mT}, self 5 12 v2 S = some S' → mOk l mX4_readUnit (8 + d) [.ref 1, .ref 12, .int v2] b S none S') {S' : mT} {S : mT} (hf : fX4_readSum_65 12 self S = some S') (ok : Bool) : mW p l e (mR (8 + (d + 1))) s m args below meth c G 5 233 54500 (mQ below G args s b S' none) (ok, 65, [.retAddr 0, .retAddr 0, .retAddr 0, .retAddr 0, .retAddr 0], [], mk b S) := by
  unfold fX4_readSum_65 at hf
  cases hf
  exact gret_v C hr hk (kX4_readSum _ (List.mem_of_getElem? (i := 33) rfl)).1
theorem bX4_readSum_8_12 {d : Nat} (C : mCx p (mR (8 + (d + 1))) s m args meth c G cX4_readSum RX4 5 false 233 54500 233 54500) (hr : meth.sig.returnType = none) (hk : meth.locks = false) {b : Bool} {self : Nat → Nat → Int32 → mT → Option (mT)} (Hs0 : ∀ {v2 : Int32} {S S' : mT}, self 0 12 v2 S = some S' → mOk l mX4_readEither (8 + d) [.ref 1, .ref 12, .int v2] b S none S') (Hs1 : ∀ {v2 : Int32} {S S' : mT}, self 1 12 v2 S = some S' → mOk l mX4_readBoth (8 + d) [.ref 1, .ref 12, .int v2] b S none S') (Hs2 : ∀ {v2 : Int32} {S S' : mT}, self 2 12 v2 S = some S' → mOk l mX4_readOne (8 + d) [.ref 1, .ref 12, .int v2] b S none S') (Hs3 : ∀ {v2 : Int32} {S S' : mT}, self 3 12 v2 S = some S' → mOk l mX4_readSum (8 + d) [.ref 1, .ref 12, .int v2] b S none S') (Hs4 : ∀ {v2 : Int32} {S S' : mT}, self 4 12 v2 S = some S' → mOk l mX4_readTerm (8 + d) [.ref 1, .ref 12, .int v2] b S none S') (Hs5 : ∀ {v2 : Int32} {S S' : mT}, self 5 12 v2 S = some S' → mOk l mX4_readUnit (8 + d) [.ref 1, .ref 12, .int v2] b S none S') {S' : mT} : ∀ (k : Nat) (v2 : Int32) (v3 : Int32) (S : mT), fX4_readSum_8 12 self k v2 v3 S = some S' → ∀ ok : Bool, mW p l e (mR (8 + (d + 1))) s m args below meth c G 5 233 54500 (mQ below G args s b S' none) (ok, 8, [.ref (1), .ref (12), .int v2, .int v3, .retAddr 0], [], mk b S) := by
  intro k
  induction k with
  | zero =>
    intro v2 v3 S hf ok
    cases hf
  | succ k ih =>
    intro v2 v3 S hf ok
    unfold fX4_readSum_8 at hf
    refine msegT C kX4_readSum 6 3 (g := (true, (if (1600 : Int32) ≤ v3 then 65 else 15), [.ref (1), .ref (12), .int v2, .int v3, .retAddr 0], [], mk b S)) rfl rfl ?_
    by_cases hc : (1600 : Int32) ≤ v3
    · rw [if_pos hc] at hf ⊢
      exact mfor (L' := [.retAddr 0, .retAddr 0, .retAddr 0, .retAddr 0, .retAddr 0]) ⟨Or.inl rfl, Or.inl rfl, Or.inl rfl, Or.inl rfl, Or.inl rfl, trivial⟩ (bX4_readSum_65_12 C hr hk Hs0 Hs1 Hs2 Hs3 Hs4 Hs5 hf true)
    · rw [if_neg hc] at hf ⊢
      refine msegT C kX4_readSum 9 2 (g := (true, 18, [.ref (1), .ref (12), .int v2, .int v3, .retAddr 0], [.int (43 : Int32), .ref (1)], mk b S)) rfl rfl ?_
      obtain ⟨x3, S2, hq, hf⟩ := bndC_ex hf
      refine mcall (kd := 0) (vs := [.ref (1), .int (43 : Int32)]) (rest := []) (r := (some (.int x3))) (h' := mk b S2) (ok' := true) C lkRX4_135 (qX4_isSign hq) (kX4_readSum _ (List.mem_of_getElem? (i := 11) rfl)).1 ⟨_, _, rfl, rfl, Nat.le_of_ble_eq_true rfl, _, _, rfl, rfl, rfl⟩ (by show 1 + 1 ≤ 8 + (d + 1); omega) (by show 19 + 2 + 100 * (1) ≤ 100 * (8 + (d + 1)); omega) (Nat.le_refl _) (Nat.le_refl _) (Nat.le_of_ble_eq_true rfl) ?_
      refine msegT C kX4_readSum 12 1 (g := (true, (if x3 = 0 then 24 else 33), [.ref (1), .ref (12), .int v2, .int v3, .retAddr 0], [], mk b S2)) rfl rfl ?_
      by_cases hc : x3 = 0
      · rw [if_pos hc] at hf ⊢
        refine msegT C kX4_readSum 13 2 (g := (true, 27, [.ref (1), .ref (12), .int v2, .int v3, .retAddr 0], [.int (45 : Int32), .ref (1)], mk b S2)) rfl rfl ?_
        obtain ⟨x5, S4, hq, hf⟩ := bndC_ex hf
        refine mcall (kd := 0) (vs := [.ref (1), .int (45 : Int32)]) (rest := []) (r := (some (.int x5))) (h' := mk b S4) (ok' := true) C lkRX4_135 (qX4_isSign hq) (kX4_readSum _ (List.mem_of_getElem? (i := 15) rfl)).1 ⟨_, _, rfl, rfl, Nat.le_of_ble_eq_true rfl, _, _, rfl, rfl, rfl⟩ (by show 1 + 1 ≤ 8 + (d + 1); omega) (by show 19 + 2 + 100 * (1) ≤ 100 * (8 + (d + 1)); omega) (Nat.le_refl _) (Nat.le_refl _) (Nat.le_of_ble_eq_true rfl) ?_
        refine msegT C kX4_readSum 16 1 (g := (true, (if x5 = 0 then 65 else 33), [.ref (1), .ref (12), .int v2, .int v3, .retAddr 0], [], mk b S4)) rfl rfl ?_
        by_cases hc : x5 = 0
        · rw [if_pos hc] at hf ⊢
          exact mfor (L' := [.retAddr 0, .retAddr 0, .retAddr 0, .retAddr 0, .retAddr 0]) ⟨Or.inl rfl, Or.inl rfl, Or.inl rfl, Or.inl rfl, Or.inl rfl, trivial⟩ (bX4_readSum_65_12 C hr hk Hs0 Hs1 Hs2 Hs3 Hs4 Hs5 hf true)
        · rw [if_neg hc] at hf ⊢
          exact mfor (L' := [.ref (1), .ref (12), .int v2, .int v3, .retAddr 0]) ⟨Or.inr rfl, Or.inr rfl, Or.inr rfl, Or.inr rfl, Or.inl rfl, trivial⟩ (bX4_readSum_33_12 C hr hk Hs0 Hs1 Hs2 Hs3 Hs4 Hs5 ih hf true)
      · rw [if_neg hc] at hf ⊢
        exact mfor (L' := [.ref (1), .ref (12), .int v2, .int v3, .retAddr 0]) ⟨Or.inr rfl, Or.inr rfl, Or.inr rfl, Or.inr rfl, Or.inl rfl, trivial⟩ (bX4_readSum_33_12 C hr hk Hs0 Hs1 Hs2 Hs3 Hs4 Hs5 ih hf true)
theorem bX4_readSum_0_12 {d : Nat} (C : mCx p (mR (8 + (d + 1))) s m args meth c G cX4_readSum RX4 5 false 233 54500 233 54500) (hr : meth.sig.returnType = none) (hk : meth.locks = false) {b : Bool} {self : Nat → Nat → Int32 → mT → Option (mT)} (Hs0 : ∀ {v2 : Int32} {S S' : mT}, self 0 12 v2 S = some S' → mOk l mX4_readEither (8 + d) [.ref 1, .ref 12, .int v2] b S none S') (Hs1 : ∀ {v2 : Int32} {S S' : mT}, self 1 12 v2 S = some S' → mOk l mX4_readBoth (8 + d) [.ref 1, .ref 12, .int v2] b S none S') (Hs2 : ∀ {v2 : Int32} {S S' : mT}, self 2 12 v2 S = some S' → mOk l mX4_readOne (8 + d) [.ref 1, .ref 12, .int v2] b S none S') (Hs3 : ∀ {v2 : Int32} {S S' : mT}, self 3 12 v2 S = some S' → mOk l mX4_readSum (8 + d) [.ref 1, .ref 12, .int v2] b S none S') (Hs4 : ∀ {v2 : Int32} {S S' : mT}, self 4 12 v2 S = some S' → mOk l mX4_readTerm (8 + d) [.ref 1, .ref 12, .int v2] b S none S') (Hs5 : ∀ {v2 : Int32} {S S' : mT}, self 5 12 v2 S = some S' → mOk l mX4_readUnit (8 + d) [.ref 1, .ref 12, .int v2] b S none S') {S' : mT} {v2 : Int32} {S : mT} (hf : fX4_readSum_0 12 self v2 S = some S') (ok : Bool) : mW p l e (mR (8 + (d + 1))) s m args below meth c G 5 233 54500 (mQ below G args s b S' none) (ok, 0, [.ref (1), .ref (12), .int v2, .retAddr 0, .retAddr 0], [], mk b S) := by
  unfold fX4_readSum_0 at hf
  refine msegT C kX4_readSum 0 3 (g := (true, 3, [.ref (1), .ref (12), .int v2, .retAddr 0, .retAddr 0], [.int v2, .ref (12), .ref (1)], mk b S)) rfl rfl ?_
  obtain ⟨S1, hq, hf⟩ := bndV_ex hf
  refine mcall (kd := 0) (vs := [.ref (1), .ref (12), .int v2]) (rest := []) (r := none) (h' := mk b S1) (ok' := true) C lkRX4_143 (Hs4 hq) (kX4_readSum _ (List.mem_of_getElem? (i := 3) rfl)).1 ⟨_, _, rfl, rfl, Nat.le_of_ble_eq_true rfl, _, _, rfl, rfl, rfl⟩ (by show 8 + d + 1 ≤ 8 + (d + 1); omega) (by show 19 + 5 + 100 * (8 + d) ≤ 100 * (8 + (d + 1)); omega) (Nat.le_refl _) (Nat.le_refl _) (Nat.le_of_ble_eq_true rfl) ?_
  refine msegT C kX4_readSum 4 2 (g := (true, 8, [.ref (1), .ref (12), .int v2, .int (0 : Int32), .retAddr 0], [], mk b S1)) rfl rfl ?_
  exact mfor (L' := [.ref (1), .ref (12), .int v2, .int (0 : Int32), .retAddr 0]) ⟨Or.inr rfl, Or.inr rfl, Or.inr rfl, Or.inr rfl, Or.inl rfl, trivial⟩ (bX4_readSum_8_12 C hr hk Hs0 Hs1 Hs2 Hs3 Hs4 Hs5 _ _ _ _ hf true)
theorem bX4_readSum_33_15 {d : Nat} (C : mCx p (mR (8 + (d + 1))) s m args meth c G cX4_readSum RX4 5 false 233 54500 233 54500) (hr : meth.sig.returnType = none) (hk : meth.locks = false) {b : Bool} {self : Nat → Nat → Int32 → mT → Option (mT)} (Hs0 : ∀ {v2 : Int32} {S S' : mT}, self 0 15 v2 S = some S' → mOk l mX4_readEither (8 + d) [.ref 1, .ref 15, .int v2] b S none S') (Hs1 : ∀ {v2 : Int32} {S S' : mT}, self 1 15 v2 S = some S' → mOk l mX4_readBoth (8 + d) [.ref 1, .ref 15, .int v2] b S none S') (Hs2 : ∀ {v2 : Int32} {S S' : mT}, self 2 15 v2 S = some S' → mOk l mX4_readOne (8 + d) [.ref 1, .ref 15, .int v2] b S none S') (Hs3 : ∀ {v2 : Int32} {S S' : mT}, self 3 15 v2 S = some S' → mOk l mX4_readSum (8 + d) [.ref 1, .ref 15, .int v2] b S none S') (Hs4 : ∀ {v2 : Int32} {S S' : mT}, self 4 15 v2 S = some S' → mOk l mX4_readTerm (8 + d) [.ref 1, .ref 15, .int v2] b S none S') (Hs5 : ∀ {v2 : Int32} {S S' : mT}, self 5 15 v2 S = some S' → mOk l mX4_readUnit (8 + d) [.ref 1, .ref 15, .int v2] b S none S') {S' : mT} {rc8 : Int32 → Int32 → mT → Option (mT)} (Hrc8 : ∀ (v2 : Int32) (v3 : Int32) (S : mT), rc8 v2 v3 S = some S' → ∀ ok : Bool, mW p l e (mR (8 + (d + 1))) s m args below meth c G 5 233 54500 (mQ below G args s b S' none) (ok, 8, [.ref (1), .ref (15), .int v2, .int v3, .retAddr 0], [], mk b S)) {v2 : Int32} {v3 : Int32} {S : mT} (hf : fX4_readSum_33 15 self rc8 v2 v3 S = some S') (ok : Bool) : mW p l e (mR (8 + (d + 1))) s m args below meth c G 5 233 54500 (mQ below G args s b S' none) (ok, 33, [.ref (1), .ref (15), .int v2, .int v3, .retAddr 0], [], mk b S) := by
  unfold fX4_readSum_33 at hf
  obtain ⟨hok, hf⟩ := grd_ex hf
  refine msegT C kX4_readSum 17 3 (g := ((kO 1 4 && true), 39, [.ref (1), .ref (15), .int v2, .int v3, .int (S.1 1 9)], [], mk b S)) rfl hok ?_
  obtain ⟨x6, ex6, hf⟩ := bnd_ex hf
  rw [← ex6]
  refine msegT C kX4_readSum 20 1 (g := (true, 40, [.ref (1), .ref (15), .int v2, .int v3, .int x6], [.ref (1)], mk b S)) rfl rfl ?_
  obtain ⟨S7, hq, hf⟩ := bndV_ex hf
  refine mcall (kd := 0) (vs := [.ref (1)]) (rest := []) (r := none) (h' := mk b S7) (ok' := true) C lkRX4_30 (qX4_advance hq) (kX4_readSum _ (List.mem_of_getElem? (i := 21) rfl)).1 ⟨_, _, rfl, rfl, Nat.le_of_ble_eq_true rfl, _, _, rfl, rfl, rfl⟩ (by show 3 + 1 ≤ 8 + (d + 1); omega) (by show 19 + 1 + 100 * (3) ≤ 100 * (8 + (d + 1)); omega) (Nat.le_refl _) (Nat.le_refl _) (Nat.le_of_ble_eq_true rfl) ?_
  refine msegT C kX4_readSum 22 3 (g := (true, 46, [.ref (1), .ref (15), .int v2, .int v3, .int x6], [.int v2, .ref (15), .ref (1)], mk b S7)) rfl rfl ?_
  obtain ⟨S8, hq, hf⟩ := bndV_ex hf
  refine mcall (kd := 0) (vs := [.ref (1), .ref (15), .int v2]) (rest := []) (r := none) (h' := mk b S8) (ok' := true) C lkRX4_143 (Hs4 hq) (kX4_readSum _ (List.mem_of_getElem? (i := 25) rfl)).1 ⟨_, _, rfl, rfl, Nat.le_of_ble_eq_true rfl, _, _, rfl, rfl, rfl⟩ (by show 8 + d + 1 ≤ 8 + (d + 1); omega) (by show 19 + 5 + 100 * (8 + d) ≤ 100 * (8 + (d + 1)); omega) (Nat.le_refl _) (Nat.le_refl _) (Nat.le_of_ble_eq_true rfl) ?_
  refine msegT C kX4_readSum 26 4 (g := (true, 56, [.ref (1), .ref (15), .int v2, .int v3, .int x6], [.int ((20000 : Int32) + x6), .ref (15)], mk b S8)) rfl rfl ?_
  obtain ⟨S9, hq, hf⟩ := bndV_ex hf
  refine mcall (kd := 0) (vs := [.ref (15), .int ((20000 : Int32) + x6)]) (rest := []) (r := none) (h' := mk b S9) (ok' := true) C lkRX4_122 (qX0_add_15 hq) (kX4_readSum _ (List.mem_of_getElem? (i := 30) rfl)).1 ⟨_, _, rfl, rfl, Nat.le_of_ble_eq_true rfl, _, _, rfl, rfl, rfl⟩ (by show 1 + 1 ≤ 8 + (d + 1); omega) (by show 19 + 2 + 100 * (1) ≤ 100 * (8 + (d + 1)); omega) (Nat.le_refl _) (Nat.le_refl _) (Nat.le_of_ble_eq_true rfl) ?_
  refine msegT C kX4_readSum 31 1 (g := (true, 62, [.ref (1), .ref (15), .int v2, .int (v3 + (1 : Int32)), .int x6], [], mk b S9)) rfl rfl ?_
  obtain ⟨x10, ex10, hf⟩ := bnd_ex hf
  rw [← ex10]
  refine msegT C kX4_readSum 32 1 (g := (true, 8, [.ref (1), .ref (15), .int v2, .int x10, .int x6], [], mk b S9)) rfl rfl ?_
  exact mfor (L' := [.ref (1), .ref (15), .int v2, .int x10, .retAddr 0]) ⟨Or.inr rfl, Or.inr rfl, Or.inr rfl, Or.inr rfl, Or.inl rfl, trivial⟩ (Hrc8 _ _ _ hf true)
theorem bX4_readSum_65_15 {d : Nat} (C : mCx p (mR (8 + (d + 1))) s m args meth c G cX4_readSum RX4 5 false 233 54500 233 54500) (hr : meth.sig.returnType = none) (hk : meth.locks = false) {b : Bool} {self : Nat → Nat → Int32 → mT → Option (mT)} (Hs0 : ∀ {v2 : Int32} {S S' : mT}, self 0 15 v2 S = some S' → mOk l mX4_readEither (8 + d) [.ref 1, .ref 15, .int v2] b S none S') (Hs1 : ∀ {v2 : Int32} {S S' : mT}, self 1 15 v2 S = some S' → mOk l mX4_readBoth (8 + d) [.ref 1, .ref 15, .int v2] b S none S') (Hs2 : ∀ {v2 : Int32} {S S' : mT}, self 2 15 v2 S = some S' → mOk l mX4_readOne (8 + d) [.ref 1, .ref 15, .int v2] b S none S') (Hs3 : ∀ {v2 : Int32} {S S' : mT}, self 3 15 v2 S = some S' → mOk l mX4_readSum (8 + d) [.ref 1, .ref 15, .int v2] b S none S') (Hs4 : ∀ {v2 : Int32} {S S' : mT}, self 4 15 v2 S = some S' → mOk l mX4_readTerm (8 + d) [.ref 1, .ref 15, .int v2] b S none S') (Hs5 : ∀ {v2 : Int32} {S S' : mT}, self 5 15 v2 S = some S' → mOk l mX4_readUnit (8 + d) [.ref 1, .ref 15, .int v2] b S none S') {S' : mT} {S : mT} (hf : fX4_readSum_65 15 self S = some S') (ok : Bool) : mW p l e (mR (8 + (d + 1))) s m args below meth c G 5 233 54500 (mQ below G args s b S' none) (ok, 65, [.retAddr 0, .retAddr 0, .retAddr 0, .retAddr 0, .retAddr 0], [], mk b S) := by
  unfold fX4_readSum_65 at hf
  cases hf
  exact gret_v C hr hk (kX4_readSum _ (List.mem_of_getElem? (i := 33) rfl)).1
theorem bX4_readSum_8_15 {d : Nat} (C : mCx p (mR (8 + (d + 1))) s m args meth c G cX4_readSum RX4 5 false 233 54500 233 54500) (hr : meth.sig.returnType = none) (hk : meth.locks = false) {b : Bool} {self : Nat → Nat → Int32 → mT → Option (mT)} (Hs0 : ∀ {v2 : Int32} {S S' : mT}, self 0 15 v2 S = some S' → mOk l mX4_readEither (8 + d) [.ref 1, .ref 15, .int v2] b S none S') (Hs1 : ∀ {v2 : Int32} {S S' : mT}, self 1 15 v2 S = some S' → mOk l mX4_readBoth (8 + d) [.ref 1, .ref 15, .int v2] b S none S') (Hs2 : ∀ {v2 : Int32} {S S' : mT}, self 2 15 v2 S = some S' → mOk l mX4_readOne (8 + d) [.ref 1, .ref 15, .int v2] b S none S') (Hs3 : ∀ {v2 : Int32} {S S' : mT}, self 3 15 v2 S = some S' → mOk l mX4_readSum (8 + d) [.ref 1, .ref 15, .int v2] b S none S') (Hs4 : ∀ {v2 : Int32} {S S' : mT}, self 4 15 v2 S = some S' → mOk l mX4_readTerm (8 + d) [.ref 1, .ref 15, .int v2] b S none S') (Hs5 : ∀ {v2 : Int32} {S S' : mT}, self 5 15 v2 S = some S' → mOk l mX4_readUnit (8 + d) [.ref 1, .ref 15, .int v2] b S none S') {S' : mT} : ∀ (k : Nat) (v2 : Int32) (v3 : Int32) (S : mT), fX4_readSum_8 15 self k v2 v3 S = some S' → ∀ ok : Bool, mW p l e (mR (8 + (d + 1))) s m args below meth c G 5 233 54500 (mQ below G args s b S' none) (ok, 8, [.ref (1), .ref (15), .int v2, .int v3, .retAddr 0], [], mk b S) := by
  intro k
  induction k with
  | zero =>
    intro v2 v3 S hf ok
    cases hf
  | succ k ih =>
    intro v2 v3 S hf ok
    unfold fX4_readSum_8 at hf
    refine msegT C kX4_readSum 6 3 (g := (true, (if (1600 : Int32) ≤ v3 then 65 else 15), [.ref (1), .ref (15), .int v2, .int v3, .retAddr 0], [], mk b S)) rfl rfl ?_
    by_cases hc : (1600 : Int32) ≤ v3
    · rw [if_pos hc] at hf ⊢
      exact mfor (L' := [.retAddr 0, .retAddr 0, .retAddr 0, .retAddr 0, .retAddr 0]) ⟨Or.inl rfl, Or.inl rfl, Or.inl rfl, Or.inl rfl, Or.inl rfl, trivial⟩ (bX4_readSum_65_15 C hr hk Hs0 Hs1 Hs2 Hs3 Hs4 Hs5 hf true)
    · rw [if_neg hc] at hf ⊢
      refine msegT C kX4_readSum 9 2 (g := (true, 18, [.ref (1), .ref (15), .int v2, .int v3, .retAddr 0], [.int (43 : Int32), .ref (1)], mk b S)) rfl rfl ?_
      obtain ⟨x3, S2, hq, hf⟩ := bndC_ex hf
      refine mcall (kd := 0) (vs := [.ref (1), .int (43 : Int32)]) (rest := []) (r := (some (.int x3))) (h' := mk b S2) (ok' := true) C lkRX4_135 (qX4_isSign hq) (kX4_readSum _ (List.mem_of_getElem? (i := 11) rfl)).1 ⟨_, _, rfl, rfl, Nat.le_of_ble_eq_true rfl, _, _, rfl, rfl, rfl⟩ (by show 1 + 1 ≤ 8 + (d + 1); omega) (by show 19 + 2 + 100 * (1) ≤ 100 * (8 + (d + 1)); omega) (Nat.le_refl _) (Nat.le_refl _) (Nat.le_of_ble_eq_true rfl) ?_
      refine msegT C kX4_readSum 12 1 (g := (true, (if x3 = 0 then 24 else 33), [.ref (1), .ref (15), .int v2, .int v3, .retAddr 0], [], mk b S2)) rfl rfl ?_
      by_cases hc : x3 = 0
      · rw [if_pos hc] at hf ⊢
        refine msegT C kX4_readSum 13 2 (g := (true, 27, [.ref (1), .ref (15), .int v2, .int v3, .retAddr 0], [.int (45 : Int32), .ref (1)], mk b S2)) rfl rfl ?_
        obtain ⟨x5, S4, hq, hf⟩ := bndC_ex hf
        refine mcall (kd := 0) (vs := [.ref (1), .int (45 : Int32)]) (rest := []) (r := (some (.int x5))) (h' := mk b S4) (ok' := true) C lkRX4_135 (qX4_isSign hq) (kX4_readSum _ (List.mem_of_getElem? (i := 15) rfl)).1 ⟨_, _, rfl, rfl, Nat.le_of_ble_eq_true rfl, _, _, rfl, rfl, rfl⟩ (by show 1 + 1 ≤ 8 + (d + 1); omega) (by show 19 + 2 + 100 * (1) ≤ 100 * (8 + (d + 1)); omega) (Nat.le_refl _) (Nat.le_refl _) (Nat.le_of_ble_eq_true rfl) ?_
        refine msegT C kX4_readSum 16 1 (g := (true, (if x5 = 0 then 65 else 33), [.ref (1), .ref (15), .int v2, .int v3, .retAddr 0], [], mk b S4)) rfl rfl ?_
        by_cases hc : x5 = 0
        · rw [if_pos hc] at hf ⊢
          exact mfor (L' := [.retAddr 0, .retAddr 0, .retAddr 0, .retAddr 0, .retAddr 0]) ⟨Or.inl rfl, Or.inl rfl, Or.inl rfl, Or.inl rfl, Or.inl rfl, trivial⟩ (bX4_readSum_65_15 C hr hk Hs0 Hs1 Hs2 Hs3 Hs4 Hs5 hf true)
        · rw [if_neg hc] at hf ⊢
          exact mfor (L' := [.ref (1), .ref (15), .int v2, .int v3, .retAddr 0]) ⟨Or.inr rfl, Or.inr rfl, Or.inr rfl, Or.inr rfl, Or.inl rfl, trivial⟩ (bX4_readSum_33_15 C hr hk Hs0 Hs1 Hs2 Hs3 Hs4 Hs5 ih hf true)
      · rw [if_neg hc] at hf ⊢
        exact mfor (L' := [.ref (1), .ref (15), .int v2, .int v3, .retAddr 0]) ⟨Or.inr rfl, Or.inr rfl, Or.inr rfl, Or.inr rfl, Or.inl rfl, trivial⟩ (bX4_readSum_33_15 C hr hk Hs0 Hs1 Hs2 Hs3 Hs4 Hs5 ih hf true)
theorem bX4_readSum_0_15 {d : Nat} (C : mCx p (mR (8 + (d + 1))) s m args meth c G cX4_readSum RX4 5 false 233 54500 233 54500) (hr : meth.sig.returnType = none) (hk : meth.locks = false) {b : Bool} {self : Nat → Nat → Int32 → mT → Option (mT)} (Hs0 : ∀ {v2 : Int32} {S S' : mT}, self 0 15 v2 S = some S' → mOk l mX4_readEither (8 + d) [.ref 1, .ref 15, .int v2] b S none S') (Hs1 : ∀ {v2 : Int32} {S S' : mT}, self 1 15 v2 S = some S' → mOk l mX4_readBoth (8 + d) [.ref 1, .ref 15, .int v2] b S none S') (Hs2 : ∀ {v2 : Int32} {S S' : mT}, self 2 15 v2 S = some S' → mOk l mX4_readOne (8 + d) [.ref 1, .ref 15, .int v2] b S none S') (Hs3 : ∀ {v2 : Int32} {S S' : mT}, self 3 15 v2 S = some S' → mOk l mX4_readSum (8 + d) [.ref 1, .ref 15, .int v2] b S none S') (Hs4 : ∀ {v2 : Int32} {S S' : mT}, self 4 15 v2 S = some S' → mOk l mX4_readTerm (8 + d) [.ref 1, .ref 15, .int v2] b S none S') (Hs5 : ∀ {v2 : Int32} {S S' : mT}, self 5 15 v2 S = some S' → mOk l mX4_readUnit (8 + d) [.ref 1, .ref 15, .int v2] b S none S') {S' : mT} {v2 : Int32} {S : mT} (hf : fX4_readSum_0 15 self v2 S = some S') (ok : Bool) : mW p l e (mR (8 + (d + 1))) s m args below meth c G 5 233 54500 (mQ below G args s b S' none) (ok, 0, [.ref (1), .ref (15), .int v2, .retAddr 0, .retAddr 0], [], mk b S) := by
  unfold fX4_readSum_0 at hf
  refine msegT C kX4_readSum 0 3 (g := (true, 3, [.ref (1), .ref (15), .int v2, .retAddr 0, .retAddr 0], [.int v2, .ref (15), .ref (1)], mk b S)) rfl rfl ?_
  obtain ⟨S1, hq, hf⟩ := bndV_ex hf
  refine mcall (kd := 0) (vs := [.ref (1), .ref (15), .int v2]) (rest := []) (r := none) (h' := mk b S1) (ok' := true) C lkRX4_143 (Hs4 hq) (kX4_readSum _ (List.mem_of_getElem? (i := 3) rfl)).1 ⟨_, _, rfl, rfl, Nat.le_of_ble_eq_true rfl, _, _, rfl, rfl, rfl⟩ (by show 8 + d + 1 ≤ 8 + (d + 1); omega) (by show 19 + 5 + 100 * (8 + d) ≤ 100 * (8 + (d + 1)); omega) (Nat.le_refl _) (Nat.le_refl _) (Nat.le_of_ble_eq_true rfl) ?_
  refine msegT C kX4_readSum 4 2 (g := (true, 8, [.ref (1), .ref (15), .int v2, .int (0 : Int32), .retAddr 0], [], mk b S1)) rfl rfl ?_
  exact mfor (L' := [.ref (1), .ref (15), .int v2, .int (0 : Int32), .retAddr 0]) ⟨Or.inr rfl, Or.inr rfl, Or.inr rfl, Or.inr rfl, Or.inl rfl, trivial⟩ (bX4_readSum_8_15 C hr hk Hs0 Hs1 Hs2 Hs3 Hs4 Hs5 _ _ _ _ hf true)
theorem bX4_readSum_33_25 {d : Nat} (C : mCx p (mR (8 + (d + 1))) s m args meth c G cX4_readSum RX4 5 false 233 54500 233 54500) (hr : meth.sig.returnType = none) (hk : meth.locks = false) {b : Bool} {self : Nat → Nat → Int32 → mT → Option (mT)} (Hs0 : ∀ {v2 : Int32} {S S' : mT}, self 0 25 v2 S = some S' → mOk l mX4_readEither (8 + d) [.ref 1, .ref 25, .int v2] b S none S') (Hs1 : ∀ {v2 : Int32} {S S' : mT}, self 1 25 v2 S = some S' → mOk l mX4_readBoth (8 + d) [.ref 1, .ref 25, .int v2] b S none S') (Hs2 : ∀ {v2 : Int32} {S S' : mT}, self 2 25 v2 S = some S' → mOk l mX4_readOne (8 + d) [.ref 1, .ref 25, .int v2] b S none S') (Hs3 : ∀ {v2 : Int32} {S S' : mT}, self 3 25 v2 S = some S' → mOk l mX4_readSum (8 + d) [.ref 1, .ref 25, .int v2] b S none S') (Hs4 : ∀ {v2 : Int32} {S S' : mT}, self 4 25 v2 S = some S' → mOk l mX4_readTerm (8 + d) [.ref 1, .ref 25, .int v2] b S none S') (Hs5 : ∀ {v2 : Int32} {S S' : mT}, self 5 25 v2 S = some S' → mOk l mX4_readUnit (8 + d) [.ref 1, .ref 25, .int v2] b S none S') {S' : mT} {rc8 : Int32 → Int32 → mT → Option (mT)} (Hrc8 : ∀ (v2 : Int32) (v3 : Int32) (S : mT), rc8 v2 v3 S = some S' → ∀ ok : Bool, mW p l e (mR (8 + (d + 1))) s m args below meth c G 5 233 54500 (mQ below G args s b S' none) (ok, 8, [.ref (1), .ref (25), .int v2, .int v3, .retAddr 0], [], mk b S)) {v2 : Int32} {v3 : Int32} {S : mT} (hf : fX4_readSum_33 25 self rc8 v2 v3 S = some S') (ok : Bool) : mW p l e (mR (8 + (d + 1))) s m args below meth c G 5 233 54500 (mQ below G args s b S' none) (ok, 33, [.ref (1), .ref (25), .int v2, .int v3, .retAddr 0], [], mk b S) := by
  unfold fX4_readSum_33 at hf
  obtain ⟨hok, hf⟩ := grd_ex hf
  refine msegT C kX4_readSum 17 3 (g := ((kO 1 4 && true), 39, [.ref (1), .ref (25), .int v2, .int v3, .int (S.1 1 9)], [], mk b S)) rfl hok ?_
  obtain ⟨x6, ex6, hf⟩ := bnd_ex hf
  rw [← ex6]
  refine msegT C kX4_readSum 20 1 (g := (true, 40, [.ref (1), .ref (25), .int v2, .int v3, .int x6], [.ref (1)], mk b S)) rfl rfl ?_
  obtain ⟨S7, hq, hf⟩ := bndV_ex hf
  refine mcall (kd := 0) (vs := [.ref (1)]) (rest := []) (r := none) (h' := mk b S7) (ok' := true) C lkRX4_30 (qX4_advance hq) (kX4_readSum _ (List.mem_of_getElem? (i := 21) rfl)).1 ⟨_, _, rfl, rfl, Nat.le_of_ble_eq_true rfl, _, _, rfl, rfl, rfl⟩ (by show 3 + 1 ≤ 8 + (d + 1); omega) (by show 19 + 1 + 100 * (3) ≤ 100 * (8 + (d + 1)); omega) (Nat.le_refl _) (Nat.le_refl _) (Nat.le_of_ble_eq_true rfl) ?_
  refine msegT C kX4_readSum 22 3 (g := (true, 46, [.ref (1), .ref (25), .int v2, .int v3, .int x6], [.int v2, .ref (25), .ref (1)], mk b S7)) rfl rfl ?_
  obtain ⟨S8, hq, hf⟩ := bndV_ex hf
  refine mcall (kd := 0) (vs := [.ref (1), .ref (25), .int v2]) (rest := []) (r := none) (h' := mk b S8) (ok' := true) C lkRX4_143 (Hs4 hq) (kX4_readSum _ (List.mem_of_getElem? (i := 25) rfl)).1 ⟨_, _, rfl, rfl, Nat.le_of_ble_eq_true rfl, _, _, rfl, rfl, rfl⟩ (by show 8 + d + 1 ≤ 8 + (d + 1); omega) (by show 19 + 5 + 100 * (8 + d) ≤ 100 * (8 + (d + 1)); omega) (Nat.le_refl _) (Nat.le_refl _) (Nat.le_of_ble_eq_true rfl) ?_
  refine msegT C kX4_readSum 26 4 (g := (true, 56, [.ref (1), .ref (25), .int v2, .int v3, .int x6], [.int ((20000 : Int32) + x6), .ref (25)], mk b S8)) rfl rfl ?_
  obtain ⟨S9, hq, hf⟩ := bndV_ex hf
  refine mcall (kd := 0) (vs := [.ref (25), .int ((20000 : Int32) + x6)]) (rest := []) (r := none) (h' := mk b S9) (ok' := true) C lkRX4_122 (qX0_add_25 hq) (kX4_readSum _ (List.mem_of_getElem? (i := 30) rfl)).1 ⟨_, _, rfl, rfl, Nat.le_of_ble_eq_true rfl, _, _, rfl, rfl, rfl⟩ (by show 1 + 1 ≤ 8 + (d + 1); omega) (by show 19 + 2 + 100 * (1) ≤ 100 * (8 + (d + 1)); omega) (Nat.le_refl _) (Nat.le_refl _) (Nat.le_of_ble_eq_true rfl) ?_
  refine msegT C kX4_readSum 31 1 (g := (true, 62, [.ref (1), .ref (25), .int v2, .int (v3 + (1 : Int32)), .int x6], [], mk b S9)) rfl rfl ?_
  obtain ⟨x10, ex10, hf⟩ := bnd_ex hf
  rw [← ex10]
  refine msegT C kX4_readSum 32 1 (g := (true, 8, [.ref (1), .ref (25), .int v2, .int x10, .int x6], [], mk b S9)) rfl rfl ?_
  exact mfor (L' := [.ref (1), .ref (25), .int v2, .int x10, .retAddr 0]) ⟨Or.inr rfl, Or.inr rfl, Or.inr rfl, Or.inr rfl, Or.inl rfl, trivial⟩ (Hrc8 _ _ _ hf true)
theorem bX4_readSum_65_25 {d : Nat} (C : mCx p (mR (8 + (d + 1))) s m args meth c G cX4_readSum RX4 5 false 233 54500 233 54500) (hr : meth.sig.returnType = none) (hk : meth.locks = false) {b : Bool} {self : Nat → Nat → Int32 → mT → Option (mT)} (Hs0 : ∀ {v2 : Int32} {S S' : mT}, self 0 25 v2 S = some S' → mOk l mX4_readEither (8 + d) [.ref 1, .ref 25, .int v2] b S none S') (Hs1 : ∀ {v2 : Int32} {S S' : mT}, self 1 25 v2 S = some S' → mOk l mX4_readBoth (8 + d) [.ref 1, .ref 25, .int v2] b S none S') (Hs2 : ∀ {v2 : Int32} {S S' : mT}, self 2 25 v2 S = some S' → mOk l mX4_readOne (8 + d) [.ref 1, .ref 25, .int v2] b S none S') (Hs3 : ∀ {v2 : Int32} {S S' : mT}, self 3 25 v2 S = some S' → mOk l mX4_readSum (8 + d) [.ref 1, .ref 25, .int v2] b S none S') (Hs4 : ∀ {v2 : Int32} {S S' : mT}, self 4 25 v2 S = some S' → mOk l mX4_readTerm (8 + d) [.ref 1, .ref 25, .int v2] b S none S') (Hs5 : ∀ {v2 : Int32} {S S' : mT}, self 5 25 v2 S = some S' → mOk l mX4_readUnit (8 + d) [.ref 1, .ref 25, .int v2] b S none S') {S' : mT} {S : mT} (hf : fX4_readSum_65 25 self S = some S') (ok : Bool) : mW p l e (mR (8 + (d + 1))) s m args below meth c G 5 233 54500 (mQ below G args s b S' none) (ok, 65, [.retAddr 0, .retAddr 0, .retAddr 0, .retAddr 0, .retAddr 0], [], mk b S) := by
  unfold fX4_readSum_65 at hf
  cases hf
  exact gret_v C hr hk (kX4_readSum _ (List.mem_of_getElem? (i := 33) rfl)).1
theorem bX4_readSum_8_25 {d : Nat} (C : mCx p (mR (8 + (d + 1))) s m args meth c G cX4_readSum RX4 5 false 233 54500 233 54500) (hr : meth.sig.returnType = none) (hk : meth.locks = false) {b : Bool} {self : Nat → Nat → Int32 → mT → Option (mT)} (Hs0 : ∀ {v2 : Int32} {S S' : mT}, self 0 25 v2 S = some S' → mOk l mX4_readEither (8 + d) [.ref 1, .ref 25, .int v2] b S none S') (Hs1 : ∀ {v2 : Int32} {S S' : mT}, self 1 25 v2 S = some S' → mOk l mX4_readBoth (8 + d) [.ref 1, .ref 25, .int v2] b S none S') (Hs2 : ∀ {v2 : Int32} {S S' : mT}, self 2 25 v2 S = some S' → mOk l mX4_readOne (8 + d) [.ref 1, .ref 25, .int v2] b S none S') (Hs3 : ∀ {v2 : Int32} {S S' : mT}, self 3 25 v2 S = some S' → mOk l mX4_readSum (8 + d) [.ref 1, .ref 25, .int v2] b S none S') (Hs4 : ∀ {v2 : Int32} {S S' : mT}, self 4 25 v2 S = some S' → mOk l mX4_readTerm (8 + d) [.ref 1, .ref 25, .int v2] b S none S') (Hs5 : ∀ {v2 : Int32} {S S' : mT}, self 5 25 v2 S = some S' → mOk l mX4_readUnit (8 + d) [.ref 1, .ref 25, .int v2] b S none S') {S' : mT} : ∀ (k : Nat) (v2 : Int32) (v3 : Int32) (S : mT), fX4_readSum_8 25 self k v2 v3 S = some S' → ∀ ok : Bool, mW p l e (mR (8 + (d + 1))) s m args below meth c G 5 233 54500 (mQ below G args s b S' none) (ok, 8, [.ref (1), .ref (25), .int v2, .int v3, .retAddr 0], [], mk b S) := by
  intro k
  induction k with
  | zero =>
    intro v2 v3 S hf ok
    cases hf
  | succ k ih =>
    intro v2 v3 S hf ok
    unfold fX4_readSum_8 at hf
    refine msegT C kX4_readSum 6 3 (g := (true, (if (1600 : Int32) ≤ v3 then 65 else 15), [.ref (1), .ref (25), .int v2, .int v3, .retAddr 0], [], mk b S)) rfl rfl ?_
    by_cases hc : (1600 : Int32) ≤ v3
    · rw [if_pos hc] at hf ⊢
      exact mfor (L' := [.retAddr 0, .retAddr 0, .retAddr 0, .retAddr 0, .retAddr 0]) ⟨Or.inl rfl, Or.inl rfl, Or.inl rfl, Or.inl rfl, Or.inl rfl, trivial⟩ (bX4_readSum_65_25 C hr hk Hs0 Hs1 Hs2 Hs3 Hs4 Hs5 hf true)
    · rw [if_neg hc] at hf ⊢
      refine msegT C kX4_readSum 9 2 (g := (true, 18, [.ref (1), .ref (25), .int v2, .int v3, .retAddr 0], [.int (43 : Int32), .ref (1)], mk b S)) rfl rfl ?_
      obtain ⟨x3, S2, hq, hf⟩ := bndC_ex hf
      refine mcall (kd := 0) (vs := [.ref (1), .int (43 : Int32)]) (rest := []) (r := (some (.int x3))) (h' := mk b S2) (ok' := true) C lkRX4_135 (qX4_isSign hq) (kX4_readSum _ (List.mem_of_getElem? (i := 11) rfl)).1 ⟨_, _, rfl, rfl, Nat.le_of_ble_eq_true rfl, _, _, rfl, rfl, rfl⟩ (by show 1 + 1 ≤ 8 + (d + 1); omega) (by show 19 + 2 + 100 * (1) ≤ 100 * (8 + (d + 1)); omega) (Nat.le_refl _) (Nat.le_refl _) (Nat.le_of_ble_eq_true rfl) ?_
      refine msegT C kX4_readSum 12 1 (g := (true, (if x3 = 0 then 24 else 33), [.ref (1), .ref (25), .int v2, .int v3, .retAddr 0], [], mk b S2)) rfl rfl ?_
      by_cases hc : x3 = 0
      · rw [if_pos hc] at hf ⊢
        refine msegT C kX4_readSum 13 2 (g := (true, 27, [.ref (1), .ref (25), .int v2, .int v3, .retAddr 0], [.int (45 : Int32), .ref (1)], mk b S2)) rfl rfl ?_
        obtain ⟨x5, S4, hq, hf⟩ := bndC_ex hf
        refine mcall (kd := 0) (vs := [.ref (1), .int (45 : Int32)]) (rest := []) (r := (some (.int x5))) (h' := mk b S4) (ok' := true) C lkRX4_135 (qX4_isSign hq) (kX4_readSum _ (List.mem_of_getElem? (i := 15) rfl)).1 ⟨_, _, rfl, rfl, Nat.le_of_ble_eq_true rfl, _, _, rfl, rfl, rfl⟩ (by show 1 + 1 ≤ 8 + (d + 1); omega) (by show 19 + 2 + 100 * (1) ≤ 100 * (8 + (d + 1)); omega) (Nat.le_refl _) (Nat.le_refl _) (Nat.le_of_ble_eq_true rfl) ?_
        refine msegT C kX4_readSum 16 1 (g := (true, (if x5 = 0 then 65 else 33), [.ref (1), .ref (25), .int v2, .int v3, .retAddr 0], [], mk b S4)) rfl rfl ?_
        by_cases hc : x5 = 0
        · rw [if_pos hc] at hf ⊢
          exact mfor (L' := [.retAddr 0, .retAddr 0, .retAddr 0, .retAddr 0, .retAddr 0]) ⟨Or.inl rfl, Or.inl rfl, Or.inl rfl, Or.inl rfl, Or.inl rfl, trivial⟩ (bX4_readSum_65_25 C hr hk Hs0 Hs1 Hs2 Hs3 Hs4 Hs5 hf true)
        · rw [if_neg hc] at hf ⊢
          exact mfor (L' := [.ref (1), .ref (25), .int v2, .int v3, .retAddr 0]) ⟨Or.inr rfl, Or.inr rfl, Or.inr rfl, Or.inr rfl, Or.inl rfl, trivial⟩ (bX4_readSum_33_25 C hr hk Hs0 Hs1 Hs2 Hs3 Hs4 Hs5 ih hf true)
      · rw [if_neg hc] at hf ⊢
        exact mfor (L' := [.ref (1), .ref (25), .int v2, .int v3, .retAddr 0]) ⟨Or.inr rfl, Or.inr rfl, Or.inr rfl, Or.inr rfl, Or.inl rfl, trivial⟩ (bX4_readSum_33_25 C hr hk Hs0 Hs1 Hs2 Hs3 Hs4 Hs5 ih hf true)
theorem bX4_readSum_0_25 {d : Nat} (C : mCx p (mR (8 + (d + 1))) s m args meth c G cX4_readSum RX4 5 false 233 54500 233 54500) (hr : meth.sig.returnType = none) (hk : meth.locks = false) {b : Bool} {self : Nat → Nat → Int32 → mT → Option (mT)} (Hs0 : ∀ {v2 : Int32} {S S' : mT}, self 0 25 v2 S = some S' → mOk l mX4_readEither (8 + d) [.ref 1, .ref 25, .int v2] b S none S') (Hs1 : ∀ {v2 : Int32} {S S' : mT}, self 1 25 v2 S = some S' → mOk l mX4_readBoth (8 + d) [.ref 1, .ref 25, .int v2] b S none S') (Hs2 : ∀ {v2 : Int32} {S S' : mT}, self 2 25 v2 S = some S' → mOk l mX4_readOne (8 + d) [.ref 1, .ref 25, .int v2] b S none S') (Hs3 : ∀ {v2 : Int32} {S S' : mT}, self 3 25 v2 S = some S' → mOk l mX4_readSum (8 + d) [.ref 1, .ref 25, .int v2] b S none S') (Hs4 : ∀ {v2 : Int32} {S S' : mT}, self 4 25 v2 S = some S' → mOk l mX4_readTerm (8 + d) [.ref 1, .ref 25, .int v2] b S none S') (Hs5 : ∀ {v2 : Int32} {S S' : mT}, self 5 25 v2 S = some S' → mOk l mX4_readUnit (8 + d) [.ref 1, .ref 25, .int v2] b S none S') {S' : mT} {v2 : Int32} {S : mT} (hf : fX4_readSum_0 25 self v2 S = some S') (ok : Bool) : mW p l e (mR (8 + (d + 1))) s m args below meth c G 5 233 54500 (mQ below G args s b S' none) (ok, 0, [.ref (1), .ref (25), .int v2, .retAddr 0, .retAddr 0], [], mk b S) := by
  unfold fX4_readSum_0 at hf
  refine msegT C kX4_readSum 0 3 (g := (true, 3, [.ref (1), .ref (25), .int v2, .retAddr 0, .retAddr 0], [.int v2, .ref (25), .ref (1)], mk b S)) rfl rfl ?_
  obtain ⟨S1, hq, hf⟩ := bndV_ex hf
  refine mcall (kd := 0) (vs := [.ref (1), .ref (25), .int v2]) (rest := []) (r := none) (h' := mk b S1) (ok' := true) C lkRX4_143 (Hs4 hq) (kX4_readSum _ (List.mem_of_getElem? (i := 3) rfl)).1 ⟨_, _, rfl, rfl, Nat.le_of_ble_eq_true rfl, _, _, rfl, rfl, rfl⟩ (by show 8 + d + 1 ≤ 8 + (d + 1); omega) (by show 19 + 5 + 100 * (8 + d) ≤ 100 * (8 + (d + 1)); omega) (Nat.le_refl _) (Nat.le_refl _) (Nat.le_of_ble_eq_true rfl) ?_
  refine msegT C kX4_readSum 4 2 (g := (true, 8, [.ref (1), .ref (25), .int v2, .int (0 : Int32), .retAddr 0], [], mk b S1)) rfl rfl ?_
  exact mfor (L' := [.ref (1), .ref (25), .int v2, .int (0 : Int32), .retAddr 0]) ⟨Or.inr rfl, Or.inr rfl, Or.inr rfl, Or.inr rfl, Or.inl rfl, trivial⟩ (bX4_readSum_8_25 C hr hk Hs0 Hs1 Hs2 Hs3 Hs4 Hs5 _ _ _ _ hf true)
theorem bX4_readSum_33_28 {d : Nat} (C : mCx p (mR (8 + (d + 1))) s m args meth c G cX4_readSum RX4 5 false 233 54500 233 54500) (hr : meth.sig.returnType = none) (hk : meth.locks = false) {b : Bool} {self : Nat → Nat → Int32 → mT → Option (mT)} (Hs0 : ∀ {v2 : Int32} {S S' : mT}, self 0 28 v2 S = some S' → mOk l mX4_readEither (8 + d) [.ref 1, .ref 28, .int v2] b S none S') (Hs1 : ∀ {v2 : Int32} {S S' : mT}, self 1 28 v2 S = some S' → mOk l mX4_readBoth (8 + d) [.ref 1, .ref 28, .int v2] b S none S') (Hs2 : ∀ {v2 : Int32} {S S' : mT}, self 2 28 v2 S = some S' → mOk l mX4_readOne (8 + d) [.ref 1, .ref 28, .int v2] b S none S') (Hs3 : ∀ {v2 : Int32} {S S' : mT}, self 3 28 v2 S = some S' → mOk l mX4_readSum (8 + d) [.ref 1, .ref 28, .int v2] b S none S') (Hs4 : ∀ {v2 : Int32} {S S' : mT}, self 4 28 v2 S = some S' → mOk l mX4_readTerm (8 + d) [.ref 1, .ref 28, .int v2] b S none S') (Hs5 : ∀ {v2 : Int32} {S S' : mT}, self 5 28 v2 S = some S' → mOk l mX4_readUnit (8 + d) [.ref 1, .ref 28, .int v2] b S none S') {S' : mT} {rc8 : Int32 → Int32 → mT → Option (mT)} (Hrc8 : ∀ (v2 : Int32) (v3 : Int32) (S : mT), rc8 v2 v3 S = some S' → ∀ ok : Bool, mW p l e (mR (8 + (d + 1))) s m args below meth c G 5 233 54500 (mQ below G args s b S' none) (ok, 8, [.ref (1), .ref (28), .int v2, .int v3, .retAddr 0], [], mk b S)) {v2 : Int32} {v3 : Int32} {S : mT} (hf : fX4_readSum_33 28 self rc8 v2 v3 S = some S') (ok : Bool) : mW p l e (mR (8 + (d + 1))) s m args below meth c G 5 233 54500 (mQ below G args s b S' none) (ok, 33, [.ref (1), .ref (28), .int v2, .int v3, .retAddr 0], [], mk b S) := by
  unfold fX4_readSum_33 at hf
  obtain ⟨hok, hf⟩ := grd_ex hf
  refine msegT C kX4_readSum 17 3 (g := ((kO 1 4 && true), 39, [.ref (1), .ref (28), .int v2, .int v3, .int (S.1 1 9)], [], mk b S)) rfl hok ?_
  obtain ⟨x6, ex6, hf⟩ := bnd_ex hf
  rw [← ex6]
  refine msegT C kX4_readSum 20 1 (g := (true, 40, [.ref (1), .ref (28), .int v2, .int v3, .int x6], [.ref (1)], mk b S)) rfl rfl ?_
  obtain ⟨S7, hq, hf⟩ := bndV_ex hf
  refine mcall (kd := 0) (vs := [.ref (1)]) (rest := []) (r := none) (h' := mk b S7) (ok' := true) C lkRX4_30 (qX4_advance hq) (kX4_readSum _ (List.mem_of_getElem? (i := 21) rfl)).1 ⟨_, _, rfl, rfl, Nat.le_of_ble_eq_true rfl, _, _, rfl, rfl, rfl⟩ (by show 3 + 1 ≤ 8 + (d + 1); omega) (by show 19 + 1 + 100 * (3) ≤ 100 * (8 + (d + 1)); omega) (Nat.le_refl _) (Nat.le_refl _) (Nat.le_of_ble_eq_true rfl) ?_
  refine msegT C kX4_readSum 22 3 (g := (true, 46, [.ref (1), .ref (28), .int v2, .int v3, .int x6], [.int v2, .ref (28), .ref (1)], mk b S7)) rfl rfl ?_
  obtain ⟨S8, hq, hf⟩ := bndV_ex hf
  refine mcall (kd := 0) (vs := [.ref (1), .ref (28), .int v2]) (rest := []) (r := none) (h' := mk b S8) (ok' := true) C lkRX4_143 (Hs4 hq) (kX4_readSum _ (List.mem_of_getElem? (i := 25) rfl)).1 ⟨_, _, rfl, rfl, Nat.le_of_ble_eq_true rfl, _, _, rfl, rfl, rfl⟩ (by show 8 + d + 1 ≤ 8 + (d + 1); omega) (by show 19 + 5 + 100 * (8 + d) ≤ 100 * (8 + (d + 1)); omega) (Nat.le_refl _) (Nat.le_refl _) (Nat.le_of_ble_eq_true rfl) ?_
  refine msegT C kX4_readSum 26 4 (g := (true, 56, [.ref (1), .ref (28), .int v2, .int v3, .int x6], [.int ((20000 : Int32) + x6), .ref (28)], mk b S8)) rfl rfl ?_
  obtain ⟨S9, hq, hf⟩ := bndV_ex hf
  refine mcall (kd := 0) (vs := [.ref (28), .int ((20000 : Int32) + x6)]) (rest := []) (r := none) (h' := mk b S9) (ok' := true) C lkRX4_122 (qX0_add_28 hq) (kX4_readSum _ (List.mem_of_getElem? (i := 30) rfl)).1 ⟨_, _, rfl, rfl, Nat.le_of_ble_eq_true rfl, _, _, rfl, rfl, rfl⟩ (by show 1 + 1 ≤ 8 + (d + 1); omega) (by show 19 + 2 + 100 * (1) ≤ 100 * (8 + (d + 1)); omega) (Nat.le_refl _) (Nat.le_refl _) (Nat.le_of_ble_eq_true rfl) ?_
  refine msegT C kX4_readSum 31 1 (g := (true, 62, [.ref (1), .ref (28), .int v2, .int (v3 + (1 : Int32)), .int x6], [], mk b S9)) rfl rfl ?_
  obtain ⟨x10, ex10, hf⟩ := bnd_ex hf
  rw [← ex10]
  refine msegT C kX4_readSum 32 1 (g := (true, 8, [.ref (1), .ref (28), .int v2, .int x10, .int x6], [], mk b S9)) rfl rfl ?_
  exact mfor (L' := [.ref (1), .ref (28), .int v2, .int x10, .retAddr 0]) ⟨Or.inr rfl, Or.inr rfl, Or.inr rfl, Or.inr rfl, Or.inl rfl, trivial⟩ (Hrc8 _ _ _ hf true)
theorem bX4_readSum_65_28 {d : Nat} (C : mCx p (mR (8 + (d + 1))) s m args meth c G cX4_readSum RX4 5 false 233 54500 233 54500) (hr : meth.sig.returnType = none) (hk : meth.locks = false) {b : Bool} {self : Nat → Nat → Int32 → mT → Option (mT)} (Hs0 : ∀ {v2 : Int32} {S S' : mT}, self 0 28 v2 S = some S' → mOk l mX4_readEither (8 + d) [.ref 1, .ref 28, .int v2] b S none S') (Hs1 : ∀ {v2 : Int32} {S S' : mT}, self 1 28 v2 S = some S' → mOk l mX4_readBoth (8 + d) [.ref 1, .ref 28, .int v2] b S none S') (Hs2 : ∀ {v2 : Int32} {S S' : mT}, self 2 28 v2 S = some S' → mOk l mX4_readOne (8 + d) [.ref 1, .ref 28, .int v2] b S none S') (Hs3 : ∀ {v2 : Int32} {S S' : mT}, self 3 28 v2 S = some S' → mOk l mX4_readSum (8 + d) [.ref 1, .ref 28, .int v2] b S none S') (Hs4 : ∀ {v2 : Int32} {S S' : mT}, self 4 28 v2 S = some S' → mOk l mX4_readTerm (8 + d) [.ref 1, .ref 28, .int v2] b S none S') (Hs5 : ∀ {v2 : Int32} {S S' : mT}, self 5 28 v2 S = some S' → mOk l mX4_readUnit (8 + d) [.ref 1, .ref 28, .int v2] b S none S') {S' : mT} {S : mT} (hf : fX4_readSum_65 28 self S = some S') (ok : Bool) : mW p l e (mR (8 + (d + 1))) s m args below meth c G 5 233 54500 (mQ below G args s b S' none) (ok, 65, [.retAddr 0, .retAddr 0, .retAddr 0, .retAddr 0, .retAddr 0], [], mk b S) := by
  unfold fX4_readSum_65 at hf
  cases hf
  exact gret_v C hr hk (kX4_readSum _ (List.mem_of_getElem? (i := 33) rfl)).1
theorem bX4_readSum_8_28 {d : Nat} (C : mCx p (mR (8 + (d + 1))) s m args meth c G cX4_readSum RX4 5 false 233 54500 233 54500) (hr : meth.sig.returnType = none) (hk : meth.locks = false) {b : Bool} {self : Nat → Nat → Int32 → mT → Option (mT)} (Hs0 : ∀ {v2 : Int32} {S S' : mT}, self 0 28 v2 S = some S' → mOk l mX4_readEither (8 + d) [.ref 1, .ref 28, .int v2] b S none S') (Hs1 : ∀ {v2 : Int32} {S S' : mT}, self 1 28 v2 S = some S' → mOk l mX4_readBoth (8 + d) [.ref 1, .ref 28, .int v2] b S none S') (Hs2 : ∀ {v2 : Int32} {S S' : mT}, self 2 28 v2 S = some S' → mOk l mX4_readOne (8 + d) [.ref 1, .ref 28, .int v2] b S none S') (Hs3 : ∀ {v2 : Int32} {S S' : mT}, self 3 28 v2 S = some S' → mOk l mX4_readSum (8 + d) [.ref 1, .ref 28, .int v2] b S none S') (Hs4 : ∀ {v2 : Int32} {S S' : mT}, self 4 28 v2 S = some S' → mOk l mX4_readTerm (8 + d) [.ref 1, .ref 28, .int v2] b S none S') (Hs5 : ∀ {v2 : Int32} {S S' : mT}, self 5 28 v2 S = some S' → mOk l mX4_readUnit (8 + d) [.ref 1, .ref 28, .int v2] b S none S') {S' : mT} : ∀ (k : Nat) (v2 : Int32) (v3 : Int32) (S : mT), fX4_readSum_8 28 self k v2 v3 S = some S' → ∀ ok : Bool, mW p l e (mR (8 + (d + 1))) s m args below meth c G 5 233 54500 (mQ below G args s b S' none) (ok, 8, [.ref (1), .ref (28), .int v2, .int v3, .retAddr 0], [], mk b S) := by
  intro k
  induction k with
  | zero =>
    intro v2 v3 S hf ok
    cases hf
  | succ k ih =>
    intro v2 v3 S hf ok
    unfold fX4_readSum_8 at hf
    refine msegT C kX4_readSum 6 3 (g := (true, (if (1600 : Int32) ≤ v3 then 65 else 15), [.ref (1), .ref (28), .int v2, .int v3, .retAddr 0], [], mk b S)) rfl rfl ?_
    by_cases hc : (1600 : Int32) ≤ v3
    · rw [if_pos hc] at hf ⊢
      exact mfor (L' := [.retAddr 0, .retAddr 0, .retAddr 0, .retAddr 0, .retAddr 0]) ⟨Or.inl rfl, Or.inl rfl, Or.inl rfl, Or.inl rfl, Or.inl rfl, trivial⟩ (bX4_readSum_65_28 C hr hk Hs0 Hs1 Hs2 Hs3 Hs4 Hs5 hf true)
    · rw [if_neg hc] at hf ⊢
      refine msegT C kX4_readSum 9 2 (g := (true, 18, [.ref (1), .ref (28), .int v2, .int v3, .retAddr 0], [.int (43 : Int32), .ref (1)], mk b S)) rfl rfl ?_
      obtain ⟨x3, S2, hq, hf⟩ := bndC_ex hf
      refine mcall (kd := 0) (vs := [.ref (1), .int (43 : Int32)]) (rest := []) (r := (some (.int x3))) (h' := mk b S2) (ok' := true) C lkRX4_135 (qX4_isSign hq) (kX4_readSum _ (List.mem_of_getElem? (i := 11) rfl)).1 ⟨_, _, rfl, rfl, Nat.le_of_ble_eq_true rfl, _, _, rfl, rfl, rfl⟩ (by show 1 + 1 ≤ 8 + (d + 1); omega) (by show 19 + 2 + 100 * (1) ≤ 100 * (8 + (d + 1)); omega) (Nat.le_refl _) (Nat.le_refl _) (Nat.le_of_ble_eq_true rfl) ?_
      refine msegT C kX4_readSum 12 1 (g := (true, (if x3 = 0 then 24 else 33), [.ref (1), .ref (28), .int v2, .int v3, .retAddr 0], [], mk b S2)) rfl rfl ?_
      by_cases hc : x3 = 0
      · rw [if_pos hc] at hf ⊢
        refine msegT C kX4_readSum 13 2 (g := (true, 27, [.ref (1), .ref (28), .int v2, .int v3, .retAddr 0], [.int (45 : Int32), .ref (1)], mk b S2)) rfl rfl ?_
        obtain ⟨x5, S4, hq, hf⟩ := bndC_ex hf
        refine mcall (kd := 0) (vs := [.ref (1), .int (45 : Int32)]) (rest := []) (r := (some (.int x5))) (h' := mk b S4) (ok' := true) C lkRX4_135 (qX4_isSign hq) (kX4_readSum _ (List.mem_of_getElem? (i := 15) rfl)).1 ⟨_, _, rfl, rfl, Nat.le_of_ble_eq_true rfl, _, _, rfl, rfl, rfl⟩ (by show 1 + 1 ≤ 8 + (d + 1); omega) (by show 19 + 2 + 100 * (1) ≤ 100 * (8 + (d + 1)); omega) (Nat.le_refl _) (Nat.le_refl _) (Nat.le_of_ble_eq_true rfl) ?_
        refine msegT C kX4_readSum 16 1 (g := (true, (if x5 = 0 then 65 else 33), [.ref (1), .ref (28), .int v2, .int v3, .retAddr 0], [], mk b S4)) rfl rfl ?_
        by_cases hc : x5 = 0
        · rw [if_pos hc] at hf ⊢
          exact mfor (L' := [.retAddr 0, .retAddr 0, .retAddr 0, .retAddr 0, .retAddr 0]) ⟨Or.inl rfl, Or.inl rfl, Or.inl rfl, Or.inl rfl, Or.inl rfl, trivial⟩ (bX4_readSum_65_28 C hr hk Hs0 Hs1 Hs2 Hs3 Hs4 Hs5 hf true)
        · rw [if_neg hc] at hf ⊢
          exact mfor (L' := [.ref (1), .ref (28), .int v2, .int v3, .retAddr 0]) ⟨Or.inr rfl, Or.inr rfl, Or.inr rfl, Or.inr rfl, Or.inl rfl, trivial⟩ (bX4_readSum_33_28 C hr hk Hs0 Hs1 Hs2 Hs3 Hs4 Hs5 ih hf true)
      · rw [if_neg hc] at hf ⊢
        exact mfor (L' := [.ref (1), .ref (28), .int v2, .int v3, .retAddr 0]) ⟨Or.inr rfl, Or.inr rfl, Or.inr rfl, Or.inr rfl, Or.inl rfl, trivial⟩ (bX4_readSum_33_28 C hr hk Hs0 Hs1 Hs2 Hs3 Hs4 Hs5 ih hf true)
theorem bX4_readSum_0_28 {d : Nat} (C : mCx p (mR (8 + (d + 1))) s m args meth c G cX4_readSum RX4 5 false 233 54500 233 54500) (hr : meth.sig.returnType = none) (hk : meth.locks = false) {b : Bool} {self : Nat → Nat → Int32 → mT → Option (mT)} (Hs0 : ∀ {v2 : Int32} {S S' : mT}, self 0 28 v2 S = some S' → mOk l mX4_readEither (8 + d) [.ref 1, .ref 28, .int v2] b S none S') (Hs1 : ∀ {v2 : Int32} {S S' : mT}, self 1 28 v2 S = some S' → mOk l mX4_readBoth (8 + d) [.ref 1, .ref 28, .int v2] b S none S') (Hs2 : ∀ {v2 : Int32} {S S' : mT}, self 2 28 v2 S = some S' → mOk l mX4_readOne (8 + d) [.ref 1, .ref 28, .int v2] b S none S') (Hs3 : ∀ {v2 : Int32} {S S' : mT}, self 3 28 v2 S = some S' → mOk l mX4_readSum (8 + d) [.ref 1, .ref 28, .int v2] b S none S') (Hs4 : ∀ {v2 : Int32} {S S' : mT}, self 4 28 v2 S = some S' → mOk l mX4_readTerm (8 + d) [.ref 1, .ref 28, .int v2] b S none S') (Hs5 : ∀ {v2 : Int32} {S S' : mT}, self 5 28 v2 S = some S' → mOk l mX4_readUnit (8 + d) [.ref 1, .ref 28, .int v2] b S none S') {S' : mT} {v2 : Int32} {S : mT} (hf : fX4_readSum_0 28 self v2 S = some S') (ok : Bool) : mW p l e (mR (8 + (d + 1))) s m args below meth c G 5 233 54500 (mQ below G args s b S' none) (ok, 0, [.ref (1), .ref (28), .int v2, .retAddr 0, .retAddr 0], [], mk b S) := by
  unfold fX4_readSum_0 at hf
  refine msegT C kX4_readSum 0 3 (g := (true, 3, [.ref (1), .ref (28), .int v2, .retAddr 0, .retAddr 0], [.int v2, .ref (28), .ref (1)], mk b S)) rfl rfl ?_
  obtain ⟨S1, hq, hf⟩ := bndV_ex hf
  refine mcall (kd := 0) (vs := [.ref (1), .ref (28), .int v2]) (rest := []) (r := none) (h' := mk b S1) (ok' := true) C lkRX4_143 (Hs4 hq) (kX4_readSum _ (List.mem_of_getElem? (i := 3) rfl)).1 ⟨_, _, rfl, rfl, Nat.le_of_ble_eq_true rfl, _, _, rfl, rfl, rfl⟩ (by show 8 + d + 1 ≤ 8 + (d + 1); omega) (by show 19 + 5 + 100 * (8 + d) ≤ 100 * (8 + (d + 1)); omega) (Nat.le_refl _) (Nat.le_refl _) (Nat.le_of_ble_eq_true rfl) ?_
  refine msegT C kX4_readSum 4 2 (g := (true, 8, [.ref (1), .ref (28), .int v2, .int (0 : Int32), .retAddr 0], [], mk b S1)) rfl rfl ?_
  exact mfor (L' := [.ref (1), .ref (28), .int v2, .int (0 : Int32), .retAddr 0]) ⟨Or.inr rfl, Or.inr rfl, Or.inr rfl, Or.inr rfl, Or.inl rfl, trivial⟩ (bX4_readSum_8_28 C hr hk Hs0 Hs1 Hs2 Hs3 Hs4 Hs5 _ _ _ _ hf true)
theorem bX4_readSum_33_31 {d : Nat} (C : mCx p (mR (8 + (d + 1))) s m args meth c G cX4_readSum RX4 5 false 233 54500 233 54500) (hr : meth.sig.returnType = none) (hk : meth.locks = false) {b : Bool} {self : Nat → Nat → Int32 → mT → Option (mT)} (Hs0 : ∀ {v2 : Int32} {S S' : mT}, self 0 31 v2 S = some S' → mOk l mX4_readEither (8 + d) [.ref 1, .ref 31, .int v2] b S none S') (Hs1 : ∀ {v2 : Int32} {S S' : mT}, self 1 31 v2 S = some S' → mOk l mX4_readBoth (8 + d) [.ref 1, .ref 31, .int v2] b S none S') (Hs2 : ∀ {v2 : Int32} {S S' : mT}, self 2 31 v2 S = some S' → mOk l mX4_readOne (8 + d) [.ref 1, .ref 31, .int v2] b S none S') (Hs3 : ∀ {v2 : Int32} {S S' : mT}, self 3 31 v2 S = some S' → mOk l mX4_readSum (8 + d) [.ref 1, .ref 31, .int v2] b S none S') (Hs4 : ∀ {v2 : Int32} {S S' : mT}, self 4 31 v2 S = some S' → mOk l mX4_readTerm (8 + d) [.ref 1, .ref 31, .int v2] b S none S') (Hs5 : ∀ {v2 : Int32} {S S' : mT}, self 5 31 v2 S = some S' → mOk l mX4_readUnit (8 + d) [.ref 1, .ref 31, .int v2] b S none S') {S' : mT} {rc8 : Int32 → Int32 → mT → Option (mT)} (Hrc8 : ∀ (v2 : Int32) (v3 : Int32) (S : mT), rc8 v2 v3 S = some S' → ∀ ok : Bool, mW p l e (mR (8 + (d + 1))) s m args below meth c G 5 233 54500 (mQ below G args s b S' none) (ok, 8, [.ref (1), .ref (31), .int v2, .int v3, .retAddr 0], [], mk b S)) {v2 : Int32} {v3 : Int32} {S : mT} (hf : fX4_readSum_33 31 self rc8 v2 v3 S = some S') (ok : Bool) : mW p l e (mR (8 + (d + 1))) s m args below meth c G 5 233 54500 (mQ below G args s b S' none) (ok, 33, [.ref (1), .ref (31), .int v2, .int v3, .retAddr 0], [], mk b S) := by
  unfold fX4_readSum_33 at hf
  obtain ⟨hok, hf⟩ := grd_ex hf
  refine msegT C kX4_readSum 17 3 (g := ((kO 1 4 && true), 39, [.ref (1), .ref (31), .int v2, .int v3, .int (S.1 1 9)], [], mk b S)) rfl hok ?_
  obtain ⟨x6, ex6, hf⟩ := bnd_ex hf
  rw [← ex6]
  refine msegT C kX4_readSum 20 1 (g := (true, 40, [.ref (1), .ref (31), .int v2, .int v3, .int x6], [.ref (1)], mk b S)) rfl rfl ?_
  obtain ⟨S7, hq, hf⟩ := bndV_ex hf
  refine mcall (kd := 0) (vs := [.ref (1)]) (rest := []) (r := none) (h' := mk b S7) (ok' := true) C lkRX4_30 (qX4_advance hq) (kX4_readSum _ (List.mem_of_getElem? (i := 21) rfl)).1 ⟨_, _, rfl, rfl, Nat.le_of_ble_eq_true rfl, _, _, rfl, rfl, rfl⟩ (by show 3 + 1 ≤ 8 + (d + 1); omega) (by show 19 + 1 + 100 * (3) ≤ 100 * (8 + (d + 1)); omega) (Nat.le_refl _) (Nat.le_refl _) (Nat.le_of_ble_eq_true rfl) ?_
  refine msegT C kX4_readSum 22 3 (g := (true, 46, [.ref (1), .ref (31), .int v2, .int v3, .int x6], [.int v2, .ref (31), .ref (1)], mk b S7)) rfl rfl ?_
  obtain ⟨S8, hq, hf⟩ := bndV_ex hf
  refine mcall (kd := 0) (vs := [.ref (1), .ref (31), .int v2]) (rest := []) (r := none) (h' := mk b S8) (ok' := true) C lkRX4_143 (Hs4 hq) (kX4_readSum _ (List.mem_of_getElem? (i := 25) rfl)).1 ⟨_, _, rfl, rfl, Nat.le_of_ble_eq_true rfl, _, _, rfl, rfl, rfl⟩ (by show 8 + d + 1 ≤ 8 + (d + 1); omega) (by show 19 + 5 + 100 * (8 + d) ≤ 100 * (8 + (d + 1)); omega) (Nat.le_refl _) (Nat.le_refl _) (Nat.le_of_ble_eq_true rfl) ?_
  refine msegT C kX4_readSum 26 4 (g := (true, 56, [.ref (1), .ref (31), .int v2, .int v3, .int x6], [.int ((20000 : Int32) + x6), .ref (31)], mk b S8)) rfl rfl ?_
  obtain ⟨S9, hq, hf⟩ := bndV_ex hf
  refine mcall (kd := 0) (vs := [.ref (31), .int ((20000 : Int32) + x6)]) (rest := []) (r := none) (h' := mk b S9) (ok' := true) C lkRX4_122 (qX0_add_31 hq) (kX4_readSum _ (List.mem_of_getElem? (i := 30) rfl)).1 ⟨_, _, rfl, rfl, Nat.le_of_ble_eq_true rfl, _, _, rfl, rfl, rfl⟩ (by show 1 + 1 ≤ 8 + (d + 1); omega) (by show 19 + 2 + 100 * (1) ≤ 100 * (8 + (d + 1)); omega) (Nat.le_refl _) (Nat.le_refl _) (Nat.le_of_ble_eq_true rfl) ?_
  refine msegT C kX4_readSum 31 1 (g := (true, 62, [.ref (1), .ref (31), .int v2, .int (v3 + (1 : Int32)), .int x6], [], mk b S9)) rfl rfl ?_
  obtain ⟨x10, ex10, hf⟩ := bnd_ex hf
  rw [← ex10]
  refine msegT C kX4_readSum 32 1 (g := (true, 8, [.ref (1), .ref (31), .int v2, .int x10, .int x6], [], mk b S9)) rfl rfl ?_
  exact mfor (L' := [.ref (1), .ref (31), .int v2, .int x10, .retAddr 0]) ⟨Or.inr rfl, Or.inr rfl, Or.inr rfl, Or.inr rfl, Or.inl rfl, trivial⟩ (Hrc8 _ _ _ hf true)
theorem bX4_readSum_65_31 {d : Nat} (C : mCx p (mR (8 + (d + 1))) s m args meth c G cX4_readSum RX4 5 false 233 54500 233 54500) (hr : meth.sig.returnType = none) (hk : meth.locks = false) {b : Bool} {self : Nat → Nat → Int32 → mT → Option (mT)} (Hs0 : ∀ {v2 : Int32} {S S' : mT}, self 0 31 v2 S = some S' → mOk l mX4_readEither (8 + d) [.ref 1, .ref 31, .int v2] b S none S') (Hs1 : ∀ {v2 : Int32} {S S' : mT}, self 1 31 v2 S = some S' → mOk l mX4_readBoth (8 + d) [.ref 1, .ref 31, .int v2] b S none S') (Hs2 : ∀ {v2 : Int32} {S S' : mT}, self 2 31 v2 S = some S' → mOk l mX4_readOne (8 + d) [.ref 1, .ref 31, .int v2] b S none S') (Hs3 : ∀ {v2 : Int32} {S S' : mT}, self 3 31 v2 S = some S' → mOk l mX4_readSum (8 + d) [.ref 1, .ref 31, .int v2] b S none S') (Hs4 : ∀ {v2 : Int32} {S S' : mT}, self 4 31 v2 S = some S' → mOk l mX4_readTerm (8 + d) [.ref 1, .ref 31, .int v2] b S none S') (Hs5 : ∀ {v2 : Int32} {S S' : mT}, self 5 31 v2 S = some S' → mOk l mX4_readUnit (8 + d) [.ref 1, .ref 31, .int v2] b S none S') {S' : mT} {S : mT} (hf : fX4_readSum_65 31 self S = some S') (ok : Bool) : mW p l e (mR (8 + (d + 1))) s m args below meth c G 5 233 54500 (mQ below G args s b S' none) (ok, 65, [.retAddr 0, .retAddr 0, .retAddr 0, .retAddr 0, .retAddr 0], [], mk b S) := by
  unfold fX4_readSum_65 at hf
  cases hf
  exact gret_v C hr hk (kX4_readSum _ (List.mem_of_getElem? (i := 33) rfl)).1
theorem bX4_readSum_8_31 {d : Nat} (C : mCx p (mR (8 + (d + 1))) s m args meth c G cX4_readSum RX4 5 false 233 54500 233 54500) (hr : meth.sig.returnType = none) (hk : meth.locks = false) {b : Bool} {self : Nat → Nat → Int32 → mT → Option (mT)} (Hs0 : ∀ {v2 : Int32} {S S' : mT}, self 0 31 v2 S = some S' → mOk l mX4_readEither (8 + d) [.ref 1, .ref 31, .int v2] b S none S') (Hs1 : ∀ {v2 : Int32} {S S' : mT}, self 1 31 v2 S = some S' → mOk l mX4_readBoth (8 + d) [.ref 1, .ref 31, .int v2] b S none S') (Hs2 : ∀ {v2 : Int32} {S S' : mT}, self 2 31 v2 S = some S' → mOk l mX4_readOne (8 + d) [.ref 1, .ref 31, .int v2] b S none S') (Hs3 : ∀ {v2 : Int32} {S S' : mT}, self 3 31 v2 S = some S' → mOk l mX4_readSum (8 + d) [.ref 1, .ref 31, .int v2] b S none S') (Hs4 : ∀ {v2 : Int32} {S S' : mT}, self 4 31 v2 S = some S' → mOk l mX4_readTerm (8 + d) [.ref 1, .ref 31, .int v2] b S none S') (Hs5 : ∀ {v2 : Int32} {S S' : mT}, self 5 31 v2 S = some S' → mOk l mX4_readUnit (8 + d) [.ref 1, .ref 31, .int v2] b S none S') {S' : mT} : ∀ (k : Nat) (v2 : Int32) (v3 : Int32) (S : mT), fX4_readSum_8 31 self k v2 v3 S = some S' → ∀ ok : Bool, mW p l e (mR (8 + (d + 1))) s m args below meth c G 5 233 54500 (mQ below G args s b S' none) (ok, 8, [.ref (1), .ref (31), .int v2, .int v3, .retAddr 0], [], mk b S) := by
  intro k
  induction k with
  | zero =>
    intro v2 v3 S hf ok
    cases hf
  | succ k ih =>
    intro v2 v3 S hf ok
    unfold fX4_readSum_8 at hf
    refine msegT C kX4_readSum 6 3 (g := (true, (if (1600 : Int32) ≤ v3 then 65 else 15), [.ref (1), .ref (31), .int v2, .int v3, .retAddr 0], [], mk b S)) rfl rfl ?_
    by_cases hc : (1600 : Int32) ≤ v3
    · rw [if_pos hc] at hf ⊢
      exact mfor (L' := [.retAddr 0, .retAddr 0, .retAddr 0, .retAddr 0, .retAddr 0]) ⟨Or.inl rfl, Or.inl rfl, Or.inl rfl, Or.inl rfl, Or.inl rfl, trivial⟩ (bX4_readSum_65_31 C hr hk Hs0 Hs1 Hs2 Hs3 Hs4 Hs5 hf true)
    · rw [if_neg hc] at hf ⊢
      refine msegT C kX4_readSum 9 2 (g := (true, 18, [.ref (1), .ref (31), .int v2, .int v3, .retAddr 0], [.int (43 : Int32), .ref (1)], mk b S)) rfl rfl ?_
      obtain ⟨x3, S2, hq, hf⟩ := bndC_ex hf
      refine mcall (kd := 0) (vs := [.ref (1), .int (43 : Int32)]) (rest := []) (r := (some (.int x3))) (h' := mk b S2) (ok' := true) C lkRX4_135 (qX4_isSign hq) (kX4_readSum _ (List.mem_of_getElem? (i := 11) rfl)).1 ⟨_, _, rfl, rfl, Nat.le_of_ble_eq_true rfl, _, _, rfl, rfl, rfl⟩ (by show 1 + 1 ≤ 8 + (d + 1); omega) (by show 19 + 2 + 100 * (1) ≤ 100 * (8 + (d + 1)); omega) (Nat.le_refl _) (Nat.le_refl _) (Nat.le_of_ble_eq_true rfl) ?_
      refine msegT C kX4_readSum 12 1 (g := (true, (if x3 = 0 then 24 else 33), [.ref (1), .ref (31), .int v2, .int v3, .retAddr 0], [], mk b S2)) rfl rfl ?_
      by_cases hc : x3 = 0
      · rw [if_pos hc] at hf ⊢
        refine msegT C kX4_readSum 13 2 (g := (true, 27, [.ref (1), .ref (31), .int v2, .int v3, .retAddr 0], [.int (45 : Int32), .ref (1)], mk b S2)) rfl rfl ?_
        obtain ⟨x5, S4, hq, hf⟩ := bndC_ex hf
        refine mcall (kd := 0) (vs := [.ref (1), .int (45 : Int32)]) (rest := []) (r := (some (.int x5))) (h' := mk b S4) (ok' := true) C lkRX4_135 (qX4_isSign hq) (kX4_readSum _ (List.mem_of_getElem? (i := 15) rfl)).1 ⟨_, _, rfl, rfl, Nat.le_of_ble_eq_true rfl, _, _, rfl, rfl, rfl⟩ (by show 1 + 1 ≤ 8 + (d + 1); omega) (by show 19 + 2 + 100 * (1) ≤ 100 * (8 + (d + 1)); omega) (Nat.le_refl _) (Nat.le_refl _) (Nat.le_of_ble_eq_true rfl) ?_
        refine msegT C kX4_readSum 16 1 (g := (true, (if x5 = 0 then 65 else 33), [.ref (1), .ref (31), .int v2, .int v3, .retAddr 0], [], mk b S4)) rfl rfl ?_
        by_cases hc : x5 = 0
        · rw [if_pos hc] at hf ⊢
          exact mfor (L' := [.retAddr 0, .retAddr 0, .retAddr 0, .retAddr 0, .retAddr 0]) ⟨Or.inl rfl, Or.inl rfl, Or.inl rfl, Or.inl rfl, Or.inl rfl, trivial⟩ (bX4_readSum_65_31 C hr hk Hs0 Hs1 Hs2 Hs3 Hs4 Hs5 hf true)
        · rw [if_neg hc] at hf ⊢
          exact mfor (L' := [.ref (1), .ref (31), .int v2, .int v3, .retAddr 0]) ⟨Or.inr rfl, Or.inr rfl, Or.inr rfl, Or.inr rfl, Or.inl rfl, trivial⟩ (bX4_readSum_33_31 C hr hk Hs0 Hs1 Hs2 Hs3 Hs4 Hs5 ih hf true)
      · rw [if_neg hc] at hf ⊢
        exact mfor (L' := [.ref (1), .ref (31), .int v2, .int v3, .retAddr 0]) ⟨Or.inr rfl, Or.inr rfl, Or.inr rfl, Or.inr rfl, Or.inl rfl, trivial⟩ (bX4_readSum_33_31 C hr hk Hs0 Hs1 Hs2 Hs3 Hs4 Hs5 ih hf true)
theorem bX4_readSum_0_31 {d : Nat} (C : mCx p (mR (8 + (d + 1))) s m args meth c G cX4_readSum RX4 5 false 233 54500 233 54500) (hr : meth.sig.returnType = none) (hk : meth.locks = false) {b : Bool} {self : Nat → Nat → Int32 → mT → Option (mT)} (Hs0 : ∀ {v2 : Int32} {S S' : mT}, self 0 31 v2 S = some S' → mOk l mX4_readEither (8 + d) [.ref 1, .ref 31, .int v2] b S none S') (Hs1 : ∀ {v2 : Int32} {S S' : mT}, self 1 31 v2 S = some S' → mOk l mX4_readBoth (8 + d) [.ref 1, .ref 31, .int v2] b S none S') (Hs2 : ∀ {v2 : Int32} {S S' : mT}, self 2 31 v2 S = some S' → mOk l mX4_readOne (8 + d) [.ref 1, .ref 31, .int v2] b S none S') (Hs3 : ∀ {v2 : Int32} {S S' : mT}, self 3 31 v2 S = some S' → mOk l mX4_readSum (8 + d) [.ref 1, .ref 31, .int v2] b S none S') (Hs4 : ∀ {v2 : Int32} {S S' : mT}, self 4 31 v2 S = some S' → mOk l mX4_readTerm (8 + d) [.ref 1, .ref 31, .int v2] b S none S') (Hs5 : ∀ {v2 : Int32} {S S' : mT}, self 5 31 v2 S = some S' → mOk l mX4_readUnit (8 + d) [.ref 1, .ref 31, .int v2] b S none S') {S' : mT} {v2 : Int32} {S : mT} (hf : fX4_readSum_0 31 self v2 S = some S') (ok : Bool) : mW p l e (mR (8 + (d + 1))) s m args below meth c G 5 233 54500 (mQ below G args s b S' none) (ok, 0, [.ref (1), .ref (31), .int v2, .retAddr 0, .retAddr 0], [], mk b S) := by
  unfold fX4_readSum_0 at hf
  refine msegT C kX4_readSum 0 3 (g := (true, 3, [.ref (1), .ref (31), .int v2, .retAddr 0, .retAddr 0], [.int v2, .ref (31), .ref (1)], mk b S)) rfl rfl ?_
  obtain ⟨S1, hq, hf⟩ := bndV_ex hf
  refine mcall (kd := 0) (vs := [.ref (1), .ref (31), .int v2]) (rest := []) (r := none) (h' := mk b S1) (ok' := true) C lkRX4_143 (Hs4 hq) (kX4_readSum _ (List.mem_of_getElem? (i := 3) rfl)).1 ⟨_, _, rfl, rfl, Nat.le_of_ble_eq_true rfl, _, _, rfl, rfl, rfl⟩ (by show 8 + d + 1 ≤ 8 + (d + 1); omega) (by show 19 + 5 + 100 * (8 + d) ≤ 100 * (8 + (d + 1)); omega) (Nat.le_refl _) (Nat.le_refl _) (Nat.le_of_ble_eq_true rfl) ?_
  refine msegT C kX4_readSum 4 2 (g := (true, 8, [.ref (1), .ref (31), .int v2, .int (0 : Int32), .retAddr 0], [], mk b S1)) rfl rfl ?_
  exact mfor (L' := [.ref (1), .ref (31), .int v2, .int (0 : Int32), .retAddr 0]) ⟨Or.inr rfl, Or.inr rfl, Or.inr rfl, Or.inr rfl, Or.inl rfl, trivial⟩ (bX4_readSum_8_31 C hr hk Hs0 Hs1 Hs2 Hs3 Hs4 Hs5 _ _ _ _ hf true)
theorem bX4_readTerm_42_9 {d : Nat} (C : mCx p (mR (8 + (d + 1))) s m args meth c G cX4_readTerm RX4 5 false 233 54500 233 54500) (hr : meth.sig.returnType = none) (hk : meth.locks = false) {b : Bool} {self : Nat → Nat → Int32 → mT → Option (mT)} (Hs0 : ∀ {v2 : Int32} {S S' : mT}, self 0 9 v2 S = some S' → mOk l mX4_readEither (8 + d) [.ref 1, .ref 9, .int v2] b S none S') (Hs1 : ∀ {v2 : Int32} {S S' : mT}, self 1 9 v2 S = some S' → mOk l mX4_readBoth (8 + d) [.ref 1, .ref 9, .int v2] b S none S') (Hs2 : ∀ {v2 : Int32} {S S' : mT}, self 2 9 v2 S = some S' → mOk l mX4_readOne (8 + d) [.ref 1, .ref 9, .int v2] b S none S') (Hs3 : ∀ {v2 : Int32} {S S' : mT}, self 3 9 v2 S = some S' → mOk l mX4_readSum (8 + d) [.ref 1, .ref 9, .int v2] b S none S') (Hs4 : ∀ {v2 : Int32} {S S' : mT}, self 4 9 v2 S = some S' → mOk l mX4_readTerm (8 + d) [.ref 1, .ref 9, .int v2] b S none S') (Hs5 : ∀ {v2 : Int32} {S S' : mT}, self 5 9 v2 S = some S' → mOk l mX4_readUnit (8 + d) [.ref 1, .ref 9, .int v2] b S none S') {S' : mT} {rc8 : Int32 → Int32 → mT → Option (mT)} (Hrc8 : ∀ (v2 : Int32) (v3 : Int32) (S : mT), rc8 v2 v3 S = some S' → ∀ ok : Bool, mW p l e (mR (8 + (d + 1))) s m args below meth c G 5 233 54500 (mQ below G args s b S' none) (ok, 8, [.ref (1), .ref (9), .int v2, .int v3, .retAddr 0], [], mk b S)) {v2 : Int32} {v3 : Int32} {S : mT} (hf : fX4_readTerm_42 9 self rc8 v2 v3 S = some S') (ok : Bool) : mW p l e (mR (8 + (d + 1))) s m args below meth c G 5 233 54500 (mQ below G args s b S' none) (ok, 42, [.ref (1), .ref (9), .int v2, .int v3, .retAddr 0], [], mk b S) := by
  unfold fX4_readTerm_42 at hf
  obtain ⟨hok, hf⟩ := grd_ex hf
  refine msegT C kX4_readTerm 21 3 (g := ((kO 1 4 && true), 48, [.ref (1), .ref (9), .int v2, .int v3, .int (S.1 1 9)], [], mk b S)) rfl hok ?_
  obtain ⟨x8, ex8, hf⟩ := bnd_ex hf
  rw [← ex8]
  refine msegT C kX4_readTerm 24 1 (g := (true, 49, [.ref (1), .ref (9), .int v2, .int v3, .int x8], [.ref (1)], mk b S)) rfl rfl ?_
  obtain ⟨S9, hq, hf⟩ := bndV_ex hf
  refine mcall (kd := 0) (vs := [.ref (1)]) (rest := []) (r := none) (h' := mk b S9) (ok' := true) C lkRX4_30 (qX4_advance hq) (kX4_readTerm _ (List.mem_of_getElem? (i := 25) rfl)).1 ⟨_, _, rfl, rfl, Nat.le_of_ble_eq_true rfl, _, _, rfl, rfl, rfl⟩ (by show 3 + 1 ≤ 8 + (d + 1); omega) (by show 19 + 1 + 100 * (3) ≤ 100 * (8 + (d + 1)); omega) (Nat.le_refl _) (Nat.le_refl _) (Nat.le_of_ble_eq_true rfl) ?_
  refine msegT C kX4_readTerm 26 3 (g := (true, 55, [.ref (1), .ref (9), .int v2, .int v3, .int x8], [.int v2, .ref (9), .ref (1)], mk b S9)) rfl rfl ?_
  obtain ⟨S10, hq, hf⟩ := bndV_ex hf
  refine mcall (kd := 0) (vs := [.ref (1), .ref (9), .int v2]) (rest := []) (r := none) (h' := mk b S10) (ok' := true) C lkRX4_146 (Hs5 hq) (kX4_readTerm _ (List.mem_of_getElem? (i := 29) rfl)).1 ⟨_, _, rfl, rfl, Nat.le_of_ble_eq_true rfl, _, _, rfl, rfl, rfl⟩ (by show 8 + d + 1 ≤ 8 + (d + 1); omega) (by show 19 + 4 + 100 * (8 + d) ≤ 100 * (8 + (d + 1)); omega) (Nat.le_refl _) (Nat.le_refl _) (Nat.le_of_ble_eq_true rfl) ?_
  refine msegT C kX4_readTerm 30 4 (g := (true, 65, [.ref (1), .ref (9), .int v2, .int v3, .int x8], [.int ((20000 : Int32) + x8), .ref (9)], mk b S10)) rfl rfl ?_
  obtain ⟨S11, hq, hf⟩ := bndV_ex hf
  refine mcall (kd := 0) (vs := [.ref (9), .int ((20000 : Int32) + x8)]) (rest := []) (r := none) (h' := mk b S11) (ok' := true) C lkRX4_122 (qX0_add_9 hq) (kX4_readTerm _ (List.mem_of_getElem? (i := 34) rfl)).1 ⟨_, _, rfl, rfl, Nat.le_of_ble_eq_true rfl, _, _, rfl, rfl, rfl⟩ (by show 1 + 1 ≤ 8 + (d + 1); omega) (by show 19 + 2 + 100 * (1) ≤ 100 * (8 + (d + 1)); omega) (Nat.le_refl _) (Nat.le_refl _) (Nat.le_of_ble_eq_true rfl) ?_
  refine msegT C kX4_readTerm 35 1 (g := (true, 71, [.ref (1), .ref (9), .int v2, .int (v3 + (1 : Int32)), .int x8], [], mk b S11)) rfl rfl ?_
  obtain ⟨x12, ex12, hf⟩ := bnd_ex hf
  rw [← ex12]
  refine msegT C kX4_readTerm 36 1 (g := (true, 8, [.ref (1), .ref (9), .int v2, .int x12, .int x8], [], mk b S11)) rfl rfl ?_
  exact mfor (L' := [.ref (1), .ref (9), .int v2, .int x12, .retAddr 0]) ⟨Or.inr rfl, Or.inr rfl, Or.inr rfl, Or.inr rfl, Or.inl rfl, trivial⟩ (Hrc8 _ _ _ hf true)
theorem bX4_readTerm_74_9 {d : Nat} (C : mCx p (mR (8 + (d + 1))) s m args meth c G cX4_readTerm RX4 5 false 233 54500 233 54500) (hr : meth.sig.returnType = none) (hk : meth.locks = false) {b : Bool} {self : Nat → Nat → Int32 → mT → Option (mT)} (Hs0 : ∀ {v2 : Int32} {S S' : mT}, self 0 9 v2 S = some S' → mOk l mX4_readEither (8 + d) [.ref 1, .ref 9, .int v2] b S none S') (Hs1 : ∀ {v2 : Int32} {S S' : mT}, self 1 9 v2 S = some S' → mOk l mX4_readBoth (8 + d) [.ref 1, .ref 9, .int v2] b S none S') (Hs2 : ∀ {v2 : Int32} {S S' : mT}, self 2 9 v2 S = some S' → mOk l mX4_readOne (8 + d) [.ref 1, .ref 9, .int v2] b S none S') (Hs3 : ∀ {v2 : Int32} {S S' : mT}, self 3 9 v2 S = some S' → mOk l mX4_readSum (8 + d) [.ref 1, .ref 9, .int v2] b S none S') (Hs4 : ∀ {v2 : Int32} {S S' : mT}, self 4 9 v2 S = some S' → mOk l mX4_readTerm (8 + d) [.ref 1, .ref 9, .int v2] b S none S') (Hs5 : ∀ {v2 : Int32} {S S' : mT}, self 5 9 v2 S = some S' → mOk l mX4_readUnit (8 + d) [.ref 1, .ref 9, .int v2] b S none S') {S' : mT} {S : mT} (hf : fX4_readTerm_74 9 self S = some S') (ok : Bool) : mW p l e (mR (8 + (d + 1))) s m args below meth c G 5 233 54500 (mQ below G args s b S' none) (ok, 74, [.retAddr 0, .retAddr 0, .retAddr 0, .retAddr 0, .retAddr 0], [], mk b S) := by
  unfold fX4_readTerm_74 at hf
  cases hf
  exact gret_v C hr hk (kX4_readTerm _ (List.mem_of_getElem? (i := 37) rfl)).1
theorem bX4_readTerm_8_9 {d : Nat} (C : mCx p (mR (8 + (d + 1))) s m args meth c G cX4_readTerm RX4 5 false 233 54500 233 54500) (hr : meth.sig.returnType = none) (hk : meth.locks = false) {b : Bool} {self : Nat → Nat → Int32 → mT → Option (mT)} (Hs0 : ∀ {v2 : Int32} {S S' : mT}, self 0 9 v2 S = some S' → mOk l mX4_readEither (8 + d) [.ref 1, .ref 9, .int v2] b S none S') (Hs1 : ∀ {v2 : Int32} {S S' : mT}, self 1 9 v2 S = some S' → mOk l mX4_readBoth (8 + d) [.ref 1, .ref 9, .int v2] b S none S') (Hs2 : ∀ {v2 : Int32} {S S' : mT}, self 2 9 v2 S = some S' → mOk l mX4_readOne (8 + d) [.ref 1, .ref 9, .int v2] b S none S') (Hs3 : ∀ {v2 : Int32} {S S' : mT}, self 3 9 v2 S = some S' → mOk l mX4_readSum (8 + d) [.ref 1, .ref 9, .int v2] b S none S') (Hs4 : ∀ {v2 : Int32} {S S' : mT}, self 4 9 v2 S = some S' → mOk l mX4_readTerm (8 + d) [.ref 1, .ref 9, .int v2] b S none S') (Hs5 : ∀ {v2 : Int32} {S S' : mT}, self 5 9 v2 S = some S' → mOk l mX4_readUnit (8 + d) [.ref 1, .ref 9, .int v2] b S none S') {S' : mT} : ∀ (k : Nat) (v2 : Int32) (v3 : Int32) (S : mT), fX4_readTerm_8 9 self k v2 v3 S = some S' → ∀ ok : Bool, mW p l e (mR (8 + (d + 1))) s m args below meth c G 5 233 54500 (mQ below G args s b S' none) (ok, 8, [.ref (1), .ref (9), .int v2, .int v3, .retAddr 0], [], mk b S) := by
  intro k
  induction k with
  | zero =>
    intro v2 v3 S hf ok
    cases hf
  | succ k ih =>
    intro v2 v3 S hf ok
    unfold fX4_readTerm_8 at hf
    refine msegT C kX4_readTerm 6 3 (g := (true, (if (1600 : Int32) ≤ v3 then 74 else 15), [.ref (1), .ref (9), .int v2, .int v3, .retAddr 0], [], mk b S)) rfl rfl ?_
    by_cases hc : (1600 : Int32) ≤ v3
    · rw [if_pos hc] at hf ⊢
      exact mfor (L' := [.retAddr 0, .retAddr 0, .retAddr 0, .retAddr 0, .retAddr 0]) ⟨Or.inl rfl, Or.inl rfl, Or.inl rfl, Or.inl rfl, Or.inl rfl, trivial⟩ (bX4_readTerm_74_9 C hr hk Hs0 Hs1 Hs2 Hs3 Hs4 Hs5 hf true)
    · rw [if_neg hc] at hf ⊢
      refine msegT C kX4_readTerm 9 2 (g := (true, 18, [.ref (1), .ref (9), .int v2, .int v3, .retAddr 0], [.int (42 : Int32), .ref (1)], mk b S)) rfl rfl ?_
      obtain ⟨x3, S2, hq, hf⟩ := bndC_ex hf
      refine mcall (kd := 0) (vs := [.ref (1), .int (42 : Int32)]) (rest := []) (r := (some (.int x3))) (h' := mk b S2) (ok' := true) C lkRX4_135 (qX4_isSign hq) (kX4_readTerm _ (List.mem_of_getElem? (i := 11) rfl)).1 ⟨_, _, rfl, rfl, Nat.le_of_ble_eq_true rfl, _, _, rfl, rfl, rfl⟩ (by show 1 + 1 ≤ 8 + (d + 1); omega) (by show 19 + 2 + 100 * (1) ≤ 100 * (8 + (d + 1)); omega) (Nat.le_refl _) (Nat.le_refl _) (Nat.le_of_ble_eq_true rfl) ?_
      refine msegT C kX4_readTerm 12 1 (g := (true, (if x3 = 0 then 24 else 42), [.ref (1), .ref (9), .int v2, .int v3, .retAddr 0], [], mk b S2)) rfl rfl ?_
      by_cases hc : x3 = 0
      · rw [if_pos hc] at hf ⊢
        refine msegT C kX4_readTerm 13 2 (g := (true, 27, [.ref (1), .ref (9), .int v2, .int v3, .retAddr 0], [.int (47 : Int32), .ref (1)], mk b S2)) rfl rfl ?_
        obtain ⟨x5, S4, hq, hf⟩ := bndC_ex hf
        refine mcall (kd := 0) (vs := [.ref (1), .int (47 : Int32)]) (rest := []) (r := (some (.int x5))) (h' := mk b S4) (ok' := true) C lkRX4_135 (qX4_isSign hq) (kX4_readTerm _ (List.mem_of_getElem? (i := 15) rfl)).1 ⟨_, _, rfl, rfl, Nat.le_of_ble_eq_true rfl, _, _, rfl, rfl, rfl⟩ (by show 1 + 1 ≤ 8 + (d + 1); omega) (by show 19 + 2 + 100 * (1) ≤ 100 * (8 + (d + 1)); omega) (Nat.le_refl _) (Nat.le_refl _) (Nat.le_of_ble_eq_true rfl) ?_
        refine msegT C kX4_readTerm 16 1 (g := (true, (if x5 = 0 then 33 else 42), [.ref (1), .ref (9), .int v2, .int v3, .retAddr 0], [], mk b S4)) rfl rfl ?_
        by_cases hc : x5 = 0
        · rw [if_pos hc] at hf ⊢
          refine msegT C kX4_readTerm 17 2 (g := (true, 36, [.ref (1), .ref (9), .int v2, .int v3, .retAddr 0], [.int (37 : Int32), .ref (1)], mk b S4)) rfl rfl ?_
          obtain ⟨x7, S6, hq, hf⟩ := bndC_ex hf
          refine mcall (kd := 0) (vs := [.ref (1), .int (37 : Int32)]) (rest := []) (r := (some (.int x7))) (h' := mk b S6) (ok' := true) C lkRX4_135 (qX4_isSign hq) (kX4_readTerm _ (List.mem_of_getElem? (i := 19) rfl)).1 ⟨_, _, rfl, rfl, Nat.le_of_ble_eq_true rfl, _, _, rfl, rfl, rfl⟩ (by show 1 + 1 ≤ 8 + (d + 1); omega) (by show 19 + 2 + 100 * (1) ≤ 100 * (8 + (d + 1)); omega) (Nat.le_refl _) (Nat.le_refl _) (Nat.le_of_ble_eq_true rfl) ?_
          refine msegT C kX4_readTerm 20 1 (g := (true, (if x7 = 0 then 74 else 42), [.ref (1), .ref (9), .int v2, .int v3, .retAddr 0], [], mk b S6)) rfl rfl ?_
          by_cases hc : x7 = 0
          · rw [if_pos hc] at hf ⊢
            exact mfor (L' := [.retAddr 0, .retAddr 0, .retAddr 0, .retAddr 0, .retAddr 0]) ⟨Or.inl rfl, Or.inl rfl, Or.inl rfl, Or.inl rfl, Or.inl rfl, trivial⟩ (bX4_readTerm_74_9 C hr hk Hs0 Hs1 Hs2 Hs3 Hs4 Hs5 hf true)
          · rw [if_neg hc] at hf ⊢
            exact mfor (L' := [.ref (1), .ref (9), .int v2, .int v3, .retAddr 0]) ⟨Or.inr rfl, Or.inr rfl, Or.inr rfl, Or.inr rfl, Or.inl rfl, trivial⟩ (bX4_readTerm_42_9 C hr hk Hs0 Hs1 Hs2 Hs3 Hs4 Hs5 ih hf true)
        · rw [if_neg hc] at hf ⊢
          exact mfor (L' := [.ref (1), .ref (9), .int v2, .int v3, .retAddr 0]) ⟨Or.inr rfl, Or.inr rfl, Or.inr rfl, Or.inr rfl, Or.inl rfl, trivial⟩ (bX4_readTerm_42_9 C hr hk Hs0 Hs1 Hs2 Hs3 Hs4 Hs5 ih hf true)
      · rw [if_neg hc] at hf ⊢
        exact mfor (L' := [.ref (1), .ref (9), .int v2, .int v3, .retAddr 0]) ⟨Or.inr rfl, Or.inr rfl, Or.inr rfl, Or.inr rfl, Or.inl rfl, trivial⟩ (bX4_readTerm_42_9 C hr hk Hs0 Hs1 Hs2 Hs3 Hs4 Hs5 ih hf true)
theorem bX4_readTerm_0_9 {d : Nat} (C : mCx p (mR (8 + (d + 1))) s m args meth c G cX4_readTerm RX4 5 false 233 54500 233 54500) (hr : meth.sig.returnType = none) (hk : meth.locks = false) {b : Bool} {self : Nat → Nat → Int32 → mT → Option (mT)} (Hs0 : ∀ {v2 : Int32} {S S' : mT}, self 0 9 v2 S = some S' → mOk l mX4_readEither (8 + d) [.ref 1, .ref 9, .int v2] b S none S') (Hs1 : ∀ {v2 : Int32} {S S' : mT}, self 1 9 v2 S = some S' → mOk l mX4_readBoth (8 + d) [.ref 1, .ref 9, .int v2] b S none S') (Hs2 : ∀ {v2 : Int32} {S S' : mT}, self 2 9 v2 S = some S' → mOk l mX4_readOne (8 + d) [.ref 1, .ref 9, .int v2] b S none S') (Hs3 : ∀ {v2 : Int32} {S S' : mT}, self 3 9 v2 S = some S' → mOk l mX4_readSum (8 + d) [.ref 1, .ref 9, .int v2] b S none S') (Hs4 : ∀ {v2 : Int32} {S S' : mT}, self 4 9 v2 S = some S' → mOk l mX4_readTerm (8 + d) [.ref 1, .ref 9, .int v2] b S none S') (Hs5 : ∀ {v2 : Int32} {S S' : mT}, self 5 9 v2 S = some S' → mOk l mX4_readUnit (8 + d) [.ref 1, .ref 9, .int v2] b S none S') {S' : mT} {v2 : Int32} {S : mT} (hf : fX4_readTerm_0 9 self v2 S = some S') (ok : Bool) : mW p l e (mR (8 + (d + 1))) s m args below meth c G 5 233 54500 (mQ below G args s b S' none) (ok, 0, [.ref (1), .ref (9), .int v2, .retAddr 0, .retAddr 0], [], mk b S) := by
  unfold fX4_readTerm_0 at hf
  refine msegT C kX4_readTerm 0 3 (g := (true, 3, [.ref (1), .ref (9), .int v2, .retAddr 0, .retAddr 0], [.int v2, .ref (9), .ref (1)], mk b S)) rfl rfl ?_
  obtain ⟨S1, hq, hf⟩ := bndV_ex hf
  refine mcall (kd := 0) (vs := [.ref (1), .ref (9), .int v2]) (rest := []) (r := none) (h' := mk b S1) (ok' := true) C lkRX4_146 (Hs5 hq) (kX4_readTerm _ (List.mem_of_getElem? (i := 3) rfl)).1 ⟨_, _, rfl, rfl, Nat.le_of_ble_eq_true rfl, _, _, rfl, rfl, rfl⟩ (by show 8 + d + 1 ≤ 8 + (d + 1); omega) (by show 19 + 4 + 100 * (8 + d) ≤ 100 * (8 + (d + 1)); omega) (Nat.le_refl _) (Nat.le_refl _) (Nat.le_of_ble_eq_true rfl) ?_
  refine msegT C kX4_readTerm 4 2 (g := (true, 8, [.ref (1), .ref (9), .int v2, .int (0 : Int32), .retAddr 0], [], mk b S1)) rfl rfl ?_
  exact mfor (L' := [.ref (1), .ref (9), .int v2, .int (0 : Int32), .retAddr 0]) ⟨Or.inr rfl, Or.inr rfl, Or.inr rfl, Or.inr rfl, Or.inl rfl, trivial⟩ (bX4_readTerm_8_9 C hr hk Hs0 Hs1 Hs2 Hs3 Hs4 Hs5 _ _ _ _ hf true)
theorem bX4_readTerm_42_12 {d : Nat} (C : mCx p (mR (8 + (d + 1))) s m args meth c G cX4_readTerm RX4 5 false 233 54500 233 54500) (hr : meth.sig.returnType = none) (hk : meth.locks = false) {b : Bool} {self : Nat → Nat → Int32 → mT → Option (mT)} (Hs0 : ∀ {v2 : Int32} {S S' : mT}, self 0 12 v2 S = some S' → mOk l mX4_readEither (8 + d) [.ref 1, .ref 12, .int v2] b S none S') (Hs1 : ∀ {v2 : Int32} {S S' : mT}, self 1 12 v2 S = some S' → mOk l mX4_readBoth (8 + d) [.ref 1, .ref 12, .int v2] b S none S') (Hs2 : ∀ {v2 : Int32} {S S' : mT}, self 2 12 v2 S = some S' → mOk l mX4_readOne (8 + d) [.ref 1, .ref 12, .int v2] b S none S') (Hs3 : ∀ {v2 : Int32} {S S' : mT}, self 3 12 v2 S = some S' → mOk l mX4_readSum (8 + d) [.ref 1, .ref 12, .int v2] b S none S') (Hs4 : ∀ {v2 : Int32} {S S' : mT}, self 4 12 v2 S = some S' → mOk l mX4_readTerm (8 + d) [.ref 1, .ref 12, .int v2] b S none S') (Hs5 : ∀ {v2 : Int32} {S S' : mT}, self 5 12 v2 S = some S' → mOk l mX4_readUnit (8 + d) [.ref 1, .ref 12, .int v2] b S none S') {S' : mT} {rc8 : Int32 → Int32 → mT → Option (mT)} (Hrc8 : ∀ (v2 : Int32) (v3 : Int32) (S : mT), rc8 v2 v3 S = some S' → ∀ ok : Bool, mW p l e (mR (8 + (d + 1))) s m args below meth c G 5 233 54500 (mQ below G args s b S' none) (ok, 8, [.ref (1), .ref (12), .int v2, .int v3, .retAddr 0], [], mk b S)) {v2 : Int32} {v3 : Int32} {S : mT} (hf : fX4_readTerm_42 12 self rc8 v2 v3 S = some S') (ok : Bool) : mW p l e (mR (8 + (d + 1))) s m args below meth c G 5 233 54500 (mQ below G args s b S' none) (ok, 42, [.ref (1), .ref (12), .int v2, .int v3, .retAddr 0], [], mk b S) := by
  unfold fX4_readTerm_42 at hf
  obtain ⟨hok, hf⟩ := grd_ex hf
  refine msegT C kX4_readTerm 21 3 (g := ((kO 1 4 && true), 48, [.ref (1), .ref (12), .int v2, .int v3, .int (S.1 1 9)], [], mk b S)) rfl hok ?_
  obtain ⟨x8, ex8, hf⟩ := bnd_ex hf
  rw [← ex8]
  refine msegT C kX4_readTerm 24 1 (g := (true, 49, [.ref (1), .ref (12), .int v2, .int v3, .int x8], [.ref (1)], mk b S)) rfl rfl ?_
  obtain ⟨S9, hq, hf⟩ := bndV_ex hf
  refine mcall (kd := 0) (vs := [.ref (1)]) (rest := []) (r := none) (h' := mk b S9) (ok' := true) C lkRX4_30 (qX4_advance hq) (kX4_readTerm _ (List.mem_of_getElem? (i := 25) rfl)).1 ⟨_, _, rfl, rfl, Nat.le_of_ble_eq_true rfl, _, _, rfl, rfl, rfl⟩ (by show 3 + 1 ≤ 8 + (d + 1); omega) (by show 19 + 1 + 100 * (3) ≤ 100 * (8 + (d + 1)); omega) (Nat.le_refl _) (Nat.le_refl _) (Nat.le_of_ble_eq_true rfl) ?_
  refine msegT C kX4_readTerm 26 3 (g := (true, 55, [.ref (1), .ref (12), .int v2, .int v3, .int x8], [.int v2, .ref (12), .ref (1)], mk b S9)) rfl rfl ?_
  obtain ⟨S10, hq, hf⟩ := bndV_ex hf
  refine mcall (kd := 0) (vs := [.ref (1), .ref (12), .int v2]) (rest := []) (r := none) (h' := mk b S10) (ok' := true) C lkRX4_146 (Hs5 hq) (kX4_readTerm _ (List.mem_of_getElem? (i := 29) rfl)).1 ⟨_, _, rfl, rfl, Nat.le_of_ble_eq_true rfl, _, _, rfl, rfl, rfl⟩ (by show 8 + d + 1 ≤ 8 + (d + 1); omega) (by show 19 + 4 + 100 * (8 + d) ≤ 100 * (8 + (d + 1)); omega) (Nat.le_refl _) (Nat.le_refl _) (Nat.le_of_ble_eq_true rfl) ?_
  refine msegT C kX4_readTerm 30 4 (g := (true, 65, [.ref (1), .ref (12), .int v2, .int v3, .int x8], [.int ((20000 : Int32) + x8), .ref (12)], mk b S10)) rfl rfl ?_
  obtain ⟨S11, hq, hf⟩ := bndV_ex hf
  refine mcall (kd := 0) (vs := [.ref (12), .int ((20000 : Int32) + x8)]) (rest := []) (r := none) (h' := mk b S11) (ok' := true) C lkRX4_122 (qX0_add_12 hq) (kX4_readTerm _ (List.mem_of_getElem? (i := 34) rfl)).1 ⟨_, _, rfl, rfl, Nat.le_of_ble_eq_true rfl, _, _, rfl, rfl, rfl⟩ (by show 1 + 1 ≤ 8 + (d + 1); omega) (by show 19 + 2 + 100 * (1) ≤ 100 * (8 + (d + 1)); omega) (Nat.le_refl _) (Nat.le_refl _) (Nat.le_of_ble_eq_true rfl) ?_
  refine msegT C kX4_readTerm 35 1 (g := (true, 71, [.ref (1), .ref (12), .int v2, .int (v3 + (1 : Int32)), .int x8], [], mk b S11)) rfl rfl ?_
  obtain ⟨x12, ex12, hf⟩ := bnd_ex hf
  rw [← ex12]
  refine msegT C kX4_readTerm 36 1 (g := (true, 8, [.ref (1), .ref (12), .int v2, .int x12, .int x8], [], mk b S11)) rfl rfl ?_
  exact mfor (L' := [.ref (1), .ref (12), .int v2, .int x12, .retAddr 0]) ⟨Or.inr rfl, Or.inr rfl, Or.inr rfl, Or.inr rfl, Or.inl rfl, trivial⟩ (Hrc8 _ _ _ hf true)
theorem bX4_readTerm_74_12 {d : Nat} (C : mCx p (mR (8 + (d + 1))) s m args meth c G cX4_readTerm RX4 5 false 233 54500 233 54500) (hr : meth.sig.returnType = none) (hk : meth.locks = false) {b : Bool} {self : Nat → Nat → Int32 → mT → Option (mT)} (Hs0 : ∀ {v2 : Int32} {S S' : mT}, self 0 12 v2 S = some S' → mOk l mX4_readEither (8 + d) [.ref 1, .ref 12, .int v2] b S none S') (Hs1 : ∀ {v2 : Int32} {S S' : mT}, self 1 12 v2 S = some S' → mOk l mX4_readBoth (8 + d) [.ref 1, .ref 12, .int v2] b S none S') (Hs2 : ∀ {v2 : Int32} {S S' : mT}, self 2 12 v2 S = some S' → mOk l mX4_readOne (8 + d) [.ref 1, .ref 12, .int v2] b S none S') (Hs3 : ∀ {v2 : Int32} {S S' : mT}, self 3 12 v2 S = some S' → mOk l mX4_readSum (8 + d) [.ref 1, .ref 12, .int v2] b S none S') (Hs4 : ∀ {v2 : Int32} {S S' : mT}, self 4 12 v2 S = some S' → mOk l mX4_readTerm (8 + d) [.ref 1, .ref 12, .int v2] b S none S') (Hs5 : ∀ {v2 : Int32} {S S' : mT}, self 5 12 v2 S = some S' → mOk l mX4_readUnit (8 + d) [.ref 1, .ref 12, .int v2] b S none S') {S' : mT} {S : mT} (hf : fX4_readTerm_74 12 self S = some S') (ok : Bool) : mW p l e (mR (8 + (d + 1))) s m args below meth c G 5 233 54500 (mQ below G args s b S' none) (ok, 74, [.retAddr 0, .retAddr 0, .retAddr 0, .retAddr 0, .retAddr 0], [], mk b S) := by
  unfold fX4_readTerm_74 at hf
  cases hf
  exact gret_v C hr hk (kX4_readTerm _ (List.mem_of_getElem? (i := 37) rfl)).1
theorem bX4_readTerm_8_12 {d : Nat} (C : mCx p (mR (8 + (d + 1))) s m args meth c G cX4_readTerm RX4 5 false 233 54500 233 54500) (hr : meth.sig.returnType = none) (hk : meth.locks = false) {b : Bool} {self : Nat → Nat → Int32 → mT → Option (mT)} (Hs0 : ∀ {v2 : Int32} {S S' : mT}, self 0 12 v2 S = some S' → mOk l mX4_readEither (8 + d) [.ref 1, .ref 12, .int v2] b S none S') (Hs1 : ∀ {v2 : Int32} {S S' : mT}, self 1 12 v2 S = some S' → mOk l mX4_readBoth (8 + d) [.ref 1, .ref 12, .int v2] b S none S') (Hs2 : ∀ {v2 : Int32} {S S' : mT}, self 2 12 v2 S = some S' → mOk l mX4_readOne (8 + d) [.ref 1, .ref 12, .int v2] b S none S') (Hs3 : ∀ {v2 : Int32} {S S' : mT}, self 3 12 v2 S = some S' → mOk l mX4_readSum (8 + d) [.ref 1, .ref 12, .int v2] b S none S') (Hs4 : ∀ {v2 : Int32} {S S' : mT}, self 4 12 v2 S = some S' → mOk l mX4_readTerm (8 + d) [.ref 1, .ref 12, .int v2] b S none S') (Hs5 : ∀ {v2 : Int32} {S S' : mT}, self 5 12 v2 S = some S' → mOk l mX4_readUnit (8 + d) [.ref 1, .ref 12, .int v2] b S none S') {S' : mT} : ∀ (k : Nat) (v2 : Int32) (v3 : Int32) (S : mT), fX4_readTerm_8 12 self k v2 v3 S = some S' → ∀ ok : Bool, mW p l e (mR (8 + (d + 1))) s m args below meth c G 5 233 54500 (mQ below G args s b S' none) (ok, 8, [.ref (1), .ref (12), .int v2, .int v3, .retAddr 0], [], mk b S) := by
  intro k
  induction k with
  | zero =>
    intro v2 v3 S hf ok
    cases hf
  | succ k ih =>
    intro v2 v3 S hf ok
    unfold fX4_readTerm_8 at hf
    refine msegT C kX4_readTerm 6 3 (g := (true, (if (1600 : Int32) ≤ v3 then 74 else 15), [.ref (1), .ref (12), .int v2, .int v3, .retAddr 0], [], mk b S)) rfl rfl ?_
    by_cases hc : (1600 : Int32) ≤ v3
    · rw [if_pos hc] at hf ⊢
      exact mfor (L' := [.retAddr 0, .retAddr 0, .retAddr 0, .retAddr 0, .retAddr 0]) ⟨Or.inl rfl, Or.inl rfl, Or.inl rfl, Or.inl rfl, Or.inl rfl, trivial⟩ (bX4_readTerm_74_12 C hr hk Hs0 Hs1 Hs2 Hs3 Hs4 Hs5 hf true)
    · rw [if_neg hc] at hf ⊢
      refine msegT C kX4_readTerm 9 2 (g := (true, 18, [.ref (1), .ref (12), .int v2, .int v3, .retAddr 0], [.int (42 : Int32), .ref (1)], mk b S)) rfl rfl ?_
      obtain ⟨x3, S2, hq, hf⟩ := bndC_ex hf
      refine mcall (kd := 0) (vs := [.ref (1), .int (42 : Int32)]) (rest := []) (r := (some (.int x3))) (h' := mk b S2) (ok' := true) C lkRX4_135 (qX4_isSign hq) (kX4_readTerm _ (List.mem_of_getElem? (i := 11) rfl)).1 ⟨_, _, rfl, rfl, Nat.le_of_ble_eq_true rfl, _, _, rfl, rfl, rfl⟩ (by show 1 + 1 ≤ 8 + (d + 1); omega) (by show 19 + 2 + 100 * (1) ≤ 100 * (8 + (d + 1)); omega) (Nat.le_refl _) (Nat.le_refl _) (Nat.le_of_ble_eq_true rfl) ?_
      refine msegT C kX4_readTerm 12 1 (g := (true, (if x3 = 0 then 24 else 42), [.ref (1), .ref (12), .int v2, .int v3, .retAddr 0], [], mk b S2)) rfl rfl ?_
      by_cases hc : x3 = 0
      · rw [if_pos hc] at hf ⊢
        refine msegT C kX4_readTerm 13 2 (g := (true, 27, [.ref (1), .ref (12), .int v2, .int v3, .retAddr 0], [.int (47 : Int32), .ref (1)], mk b S2)) rfl rfl ?_
        obtain ⟨x5, S4, hq, hf⟩ := bndC_ex hf
        refine mcall (kd := 0) (vs := [.ref (1), .int (47 : Int32)]) (rest := []) (r := (some (.int x5))) (h' := mk b S4) (ok' := true) C lkRX4_135 (qX4_isSign hq) (kX4_readTerm _ (List.mem_of_getElem? (i := 15) rfl)).1 ⟨_, _, rfl, rfl, Nat.le_of_ble_eq_true rfl, _, _, rfl, rfl, rfl⟩ (by show 1 + 1 ≤ 8 + (d + 1); omega) (by show 19 + 2 + 100 * (1) ≤ 100 * (8 + (d + 1)); omega) (Nat.le_refl _) (Nat.le_refl _) (Nat.le_of_ble_eq_true rfl) ?_
        refine msegT C kX4_readTerm 16 1 (g := (true, (if x5 = 0 then 33 else 42), [.ref (1), .ref (12), .int v2, .int v3, .retAddr 0], [], mk b S4)) rfl rfl ?_
        by_cases hc : x5 = 0
        · rw [if_pos hc] at hf ⊢
          refine msegT C kX4_readTerm 17 2 (g := (true, 36, [.ref (1), .ref (12), .int v2, .int v3, .retAddr 0], [.int (37 : Int32), .ref (1)], mk b S4)) rfl rfl ?_
          obtain ⟨x7, S6, hq, hf⟩ := bndC_ex hf
          refine mcall (kd := 0) (vs := [.ref (1), .int (37 : Int32)]) (rest := []) (r := (some (.int x7))) (h' := mk b S6) (ok' := true) C lkRX4_135 (qX4_isSign hq) (kX4_readTerm _ (List.mem_of_getElem? (i := 19) rfl)).1 ⟨_, _, rfl, rfl, Nat.le_of_ble_eq_true rfl, _, _, rfl, rfl, rfl⟩ (by show 1 + 1 ≤ 8 + (d + 1); omega) (by show 19 + 2 + 100 * (1) ≤ 100 * (8 + (d + 1)); omega) (Nat.le_refl _) (Nat.le_refl _) (Nat.le_of_ble_eq_true rfl) ?_
          refine msegT C kX4_readTerm 20 1 (g := (true, (if x7 = 0 then 74 else 42), [.ref (1), .ref (12), .int v2, .int v3, .retAddr 0], [], mk b S6)) rfl rfl ?_
          by_cases hc : x7 = 0
          · rw [if_pos hc] at hf ⊢
            exact mfor (L' := [.retAddr 0, .retAddr 0, .retAddr 0, .retAddr 0, .retAddr 0]) ⟨Or.inl rfl, Or.inl rfl, Or.inl rfl, Or.inl rfl, Or.inl rfl, trivial⟩ (bX4_readTerm_74_12 C hr hk Hs0 Hs1 Hs2 Hs3 Hs4 Hs5 hf true)
          · rw [if_neg hc] at hf ⊢
            exact mfor (L' := [.ref (1), .ref (12), .int v2, .int v3, .retAddr 0]) ⟨Or.inr rfl, Or.inr rfl, Or.inr rfl, Or.inr rfl, Or.inl rfl, trivial⟩ (bX4_readTerm_42_12 C hr hk Hs0 Hs1 Hs2 Hs3 Hs4 Hs5 ih hf true)
        · rw [if_neg hc] at hf ⊢
          exact mfor (L' := [.ref (1), .ref (12), .int v2, .int v3, .retAddr 0]) ⟨Or.inr rfl, Or.inr rfl, Or.inr rfl, Or.inr rfl, Or.inl rfl, trivial⟩ (bX4_readTerm_42_12 C hr hk Hs0 Hs1 Hs2 Hs3 Hs4 Hs5 ih hf true)
      · rw [if_neg hc] at hf ⊢
        exact mfor (L' := [.ref (1), .ref (12), .int v2, .int v3, .retAddr 0]) ⟨Or.inr rfl, Or.inr rfl, Or.inr rfl, Or.inr rfl, Or.inl rfl, trivial⟩ (bX4_readTerm_42_12 C hr hk Hs0 Hs1 Hs2 Hs3 Hs4 Hs5 ih hf true)
theorem bX4_readTerm_0_12 {d : Nat} (C : mCx p (mR (8 + (d + 1))) s m args meth c G cX4_readTerm RX4 5 false 233 54500 233 54500) (hr : meth.sig.returnType = none) (hk : meth.locks = false) {b : Bool} {self : Nat → Nat → Int32 → mT → Option (mT)} (Hs0 : ∀ {v2 : Int32} {S S' : mT}, self 0 12 v2 S = some S' → mOk l mX4_readEither (8 + d) [.ref 1, .ref 12, .int v2] b S none S') (Hs1 : ∀ {v2 : Int32} {S S' : mT}, self 1 12 v2 S = some S' → mOk l mX4_readBoth (8 + d) [.ref 1, .ref 12, .int v2] b S none S') (Hs2 : ∀ {v2 : Int32} {S S' : mT}, self 2 12 v2 S = some S' → mOk l mX4_readOne (8 + d) [.ref 1, .ref 12, .int v2] b S none S') (Hs3 : ∀ {v2 : Int32} {S S' : mT}, self 3 12 v2 S = some S' → mOk l mX4_readSum (8 + d) [.ref 1, .ref 12, .int v2] b S none S') (Hs4 : ∀ {v2 : Int32} {S S' : mT}, self 4 12 v2 S = some S' → mOk l mX4_readTerm (8 + d) [.ref 1, .ref 12, .int v2] b S none S') (Hs5 : ∀ {v2 : Int32} {S S' : mT}, self 5 12 v2 S = some S' → mOk l mX4_readUnit (8 + d) [.ref 1, .ref 12, .int v2] b S none S') {S' : mT} {v2 : Int32} {S : mT} (hf : fX4_readTerm_0 12 self v2 S = some S') (ok : Bool) : mW p l e (mR (8 + (d + 1))) s m args below meth c G 5 233 54500 (mQ below G args s b S' none) (ok, 0, [.ref (1), .ref (12), .int v2, .retAddr 0, .retAddr 0], [], mk b S) := by
  unfold fX4_readTerm_0 at hf
  refine msegT C kX4_readTerm 0 3 (g := (true, 3, [.ref (1), .ref (12), .int v2, .retAddr 0, .retAddr 0], [.int v2, .ref (12), .ref (1)], mk b S)) rfl rfl ?_
  obtain ⟨S1, hq, hf⟩ := bndV_ex hf
  refine mcall (kd := 0) (vs := [.ref (1), .ref (12), .int v2]) (rest := []) (r := none) (h' := mk b S1) (ok' := true) C lkRX4_146 (Hs5 hq) (kX4_readTerm _ (List.mem_of_getElem? (i := 3) rfl)).1 ⟨_, _, rfl, rfl, Nat.le_of_ble_eq_true rfl, _, _, rfl, rfl, rfl⟩ (by show 8 + d + 1 ≤ 8 + (d + 1); omega) (by show 19 + 4 + 100 * (8 + d) ≤ 100 * (8 + (d + 1)); omega) (Nat.le_refl _) (Nat.le_refl _) (Nat.le_of_ble_eq_true rfl) ?_
  refine msegT C kX4_readTerm 4 2 (g := (true, 8, [.ref (1), .ref (12), .int v2, .int (0 : Int32), .retAddr 0], [], mk b S1)) rfl rfl ?_
  exact mfor (L' := [.ref (1), .ref (12), .int v2, .int (0 : Int32), .retAddr 0]) ⟨Or.inr rfl, Or.inr rfl, Or.inr rfl, Or.inr rfl, Or.inl rfl, trivial⟩ (bX4_readTerm_8_12 C hr hk Hs0 Hs1 Hs2 Hs3 Hs4 Hs5 _ _ _ _ hf true)
theorem bX4_readTerm_42_15 {d : Nat} (C : mCx p (mR (8 + (d + 1))) s m args meth c G cX4_readTerm RX4 5 false 233 54500 233 54500) (hr : meth.sig.returnType = none) (hk : meth.locks = false) {b : Bool} {self : Nat → Nat → Int32 → mT → Option (mT)} (Hs0 : ∀ {v2 : Int32} {S S' : mT}, self 0 15 v2 S = some S' → mOk l mX4_readEither (8 + d) [.ref 1, .ref 15, .int v2] b S none S') (Hs1 : ∀ {v2 : Int32} {S S' : mT}, self 1 15 v2 S = some S' → mOk l mX4_readBoth (8 + d) [.ref 1, .ref 15, .int v2] b S none S') (Hs2 : ∀ {v2 : Int32} {S S' : mT}, self 2 15 v2 S = some S' → mOk l mX4_readOne (8 + d) [.ref 1, .ref 15, .int v2] b S none S') (Hs3 : ∀ {v2 : Int32} {S S' : mT}, self 3 15 v2 S = some S' → mOk l mX4_readSum (8 + d) [.ref 1, .ref 15, .int v2] b S none S') (Hs4 : ∀ {v2 : Int32} {S S' : mT}, self 4 15 v2 S = some S' → mOk l mX4_readTerm (8 + d) [.ref 1, .ref 15, .int v2] b S none S') (Hs5 : ∀ {v2 : Int32} {S S' : mT}, self 5 15 v2 S = some S' → mOk l mX4_readUnit (8 + d) [.ref 1, .ref 15, .int v2] b S none S') {S' : mT} {rc8 : Int32 → Int32 → mT → Option (mT)} (Hrc8 : ∀ (v2 : Int32) (v3 : Int32) (S : mT), rc8 v2 v3 S = some S' → ∀ ok : Bool, mW p l e (mR (8 + (d + 1))) s m args below meth c G 5 233 54500 (mQ below G args s b S' none) (ok, 8, [.ref (1), .ref (15), .int v2, .int v3, .retAddr 0], [], mk b S)) {v2 : Int32} {v3 : Int32} {S : mT} (hf : fX4_readTerm_42 15 self rc8 v2 v3 S = some S') (ok : Bool) : mW p l e (mR (8 + (d + 1))) s m args below meth c G 5 233 54500 (mQ below G args s b S' none) (ok, 42, [.ref (1), .ref (15), .int v2, .int v3, .retAddr 0], [], mk b S) := by
  unfold fX4_readTerm_42 at hf
  obtain ⟨hok, hf⟩ := grd_ex hf
  refine msegT C kX4_readTerm 21 3 (g := ((kO 1 4 && true), 48, [.ref (1), .ref (15), .int v2, .int v3, .int (S.1 1 9)], [], mk b S)) rfl hok ?_
  obtain ⟨x8, ex8, hf⟩ := bnd_ex hf
  rw [← ex8]
  refine msegT C kX4_readTerm 24 1 (g := (true, 49, [.ref (1), .ref (15), .int v2, .int v3, .int x8], [.ref (1)], mk b S)) rfl rfl ?_
  obtain ⟨S9, hq, hf⟩ := bndV_ex hf
  refine mcall (kd := 0) (vs := [.ref (1)]) (rest := []) (r := none) (h' := mk b S9) (ok' := true) C lkRX4_30 (qX4_advance hq) (kX4_readTerm _ (List.mem_of_getElem? (i := 25) rfl)).1 ⟨_, _, rfl, rfl, Nat.le_of_ble_eq_true rfl, _, _, rfl, rfl, rfl⟩ (by show 3 + 1 ≤ 8 + (d + 1); omega) (by show 19 + 1 + 100 * (3) ≤ 100 * (8 + (d + 1)); omega) (Nat.le_refl _) (Nat.le_refl _) (Nat.le_of_ble_eq_true rfl) ?_
  refine msegT C kX4_readTerm 26 3 (g := (true, 55, [.ref (1), .ref (15), .int v2, .int v3, .int x8], [.int v2, .ref (15), .ref (1)], mk b S9)) rfl rfl ?_
  obtain ⟨S10, hq, hf⟩ := bndV_ex hf
  refine mcall (kd := 0) (vs := [.ref (1), .ref (15), .int v2]) (rest := []) (r := none) (h' := mk b S10) (ok' := true) C lkRX4_146 (Hs5 hq) (kX4_readTerm _ (List.mem_of_getElem? (i := 29) rfl)).1 ⟨_, _, rfl, rfl, Nat.le_of_ble_eq_true rfl, _, _, rfl, rfl, rfl⟩ (by show 8 + d + 1 ≤ 8 + (d + 1); omega) (by show 19 + 4 + 100 * (8 + d) ≤ 100 * (8 + (d + 1)); omega) (Nat.le_refl _) (Nat.le_refl _) (Nat.le_of_ble_eq_true rfl) ?_
  refine msegT C kX4_readTerm 30 4 (g := (true, 65, [.ref (1), .ref (15), .int v2, .int v3, .int x8], [.int ((20000 : Int32) + x8), .ref (15)], mk b S10)) rfl rfl ?_
  obtain ⟨S11, hq, hf⟩ := bndV_ex hf
  refine mcall (kd := 0) (vs := [.ref (15), .int ((20000 : Int32) + x8)]) (rest := []) (r := none) (h' := mk b S11) (ok' := true) C lkRX4_122 (qX0_add_15 hq) (kX4_readTerm _ (List.mem_of_getElem? (i := 34) rfl)).1 ⟨_, _, rfl, rfl, Nat.le_of_ble_eq_true rfl, _, _, rfl, rfl, rfl⟩ (by show 1 + 1 ≤ 8 + (d + 1); omega) (by show 19 + 2 + 100 * (1) ≤ 100 * (8 + (d + 1)); omega) (Nat.le_refl _) (Nat.le_refl _) (Nat.le_of_ble_eq_true rfl) ?_
  refine msegT C kX4_readTerm 35 1 (g := (true, 71, [.ref (1), .ref (15), .int v2, .int (v3 + (1 : Int32)), .int x8], [], mk b S11)) rfl rfl ?_
  obtain ⟨x12, ex12, hf⟩ := bnd_ex hf
  rw [← ex12]
  refine msegT C kX4_readTerm 36 1 (g := (true, 8, [.ref (1), .ref (15), .int v2, .int x12, .int x8], [], mk b S11)) rfl rfl ?_
  exact mfor (L' := [.ref (1), .ref (15), .int v2, .int x12, .retAddr 0]) ⟨Or.inr rfl, Or.inr rfl, Or.inr rfl, Or.inr rfl, Or.inl rfl, trivial⟩ (Hrc8 _ _ _ hf true)
theorem bX4_readTerm_74_15 {d : Nat} (C : mCx p (mR (8 + (d + 1))) s m args meth c G cX4_readTerm RX4 5 false 233 54500 233 54500) (hr : meth.sig.returnType = none) (hk : meth.locks = false) {b : Bool} {self : Nat → Nat → Int32 → mT → Option (mT)} (Hs0 : ∀ {v2 : Int32} {S S' : mT}, self 0 15 v2 S = some S' → mOk l mX4_readEither (8 + d) [.ref 1, .ref 15, .int v2] b S none S') (Hs1 : ∀ {v2 : Int32} {S S' : mT}, self 1 15 v2 S = some S' → mOk l mX4_readBoth (8 + d) [.ref 1, .ref 15, .int v2] b S none S') (Hs2 : ∀ {v2 : Int32} {S S' : mT}, self 2 15 v2 S = some S' → mOk l mX4_readOne (8 + d) [.ref 1, .ref 15, .int v2] b S none S') (Hs3 : ∀ {v2 : Int32} {S S' : mT}, self 3 15 v2 S = some S' → mOk l mX4_readSum (8 + d) [.ref 1, .ref 15, .int v2] b S none S') (Hs4 : ∀ {v2 : Int32} {S S' : mT}, self 4 15 v2 S = some S' → mOk l mX4_readTerm (8 + d) [.ref 1, .ref 15, .int v2] b S none S') (Hs5 : ∀ {v2 : Int32} {S S' : mT}, self 5 15 v2 S = some S' → mOk l mX4_readUnit (8 + d) [.ref 1, .ref 15, .int v2] b S none S') {S' : mT} {S : mT} (hf : fX4_readTerm_74 15 self S = some S') (ok : Bool) : mW p l e (mR (8 + (d + 1))) s m args below meth c G 5 233 54500 (mQ below G args s b S' none) (ok, 74, [.retAddr 0, .retAddr 0, .retAddr 0, .retAddr 0, .retAddr 0], [], mk b S) := by
  unfold fX4_readTerm_74 at hf
  cases hf
  exact gret_v C hr hk (kX4_readTerm _ (List.mem_of_getElem? (i := 37) rfl)).1
theorem bX4_readTerm_8_15 {d : Nat} (C : mCx p (mR (8 + (d + 1))) s m args meth c G cX4_readTerm RX4 5 false 233 54500 233 54500) (hr : meth.sig.returnType = none) (hk : meth.locks = false) {b : Bool} {self : Nat → Nat → Int32 → mT → Option (mT)} (Hs0 : ∀ {v2 : Int32} {S S' : mT}, self 0 15 v2 S = some S' → mOk l mX4_readEither (8 + d) [.ref 1, .ref 15, .int v2] b S none S') (Hs1 : ∀ {v2 : Int32} {S S' : mT}, self 1 15 v2 S = some S' → mOk l mX4_readBoth (8 + d) [.ref 1, .ref 15, .int v2] b S none S') (Hs2 : ∀ {v2 : Int32} {S S' : mT}, self 2 15 v2 S = some S' → mOk l mX4_readOne (8 + d) [.ref 1, .ref 15, .int v2] b S none S') (Hs3 : ∀ {v2 : Int32} {S S' : mT}, self 3 15 v2 S = some S' → mOk l mX4_readSum (8 + d) [.ref 1, .ref 15, .int v2] b S none S') (Hs4 : ∀ {v2 : Int32} {S S' : mT}, self 4 15 v2 S = some S' → mOk l mX4_readTerm (8 + d) [.ref 1, .ref 15, .int v2] b S none S') (Hs5 : ∀ {v2 : Int32} {S S' : mT}, self 5 15 v2 S = some S' → mOk l mX4_readUnit (8 + d) [.ref 1, .ref 15, .int v2] b S none S') {S' : mT} : ∀ (k : Nat) (v2 : Int32) (v3 : Int32) (S : mT), fX4_readTerm_8 15 self k v2 v3 S = some S' → ∀ ok : Bool, mW p l e (mR (8 + (d + 1))) s m args below meth c G 5 233 54500 (mQ below G args s b S' none) (ok, 8, [.ref (1), .ref (15), .int v2, .int v3, .retAddr 0], [], mk b S) := by
  intro k
  induction k with
  | zero =>
    intro v2 v3 S hf ok
    cases hf
  | succ k ih =>
    intro v2 v3 S hf ok
    unfold fX4_readTerm_8 at hf
    refine msegT C kX4_readTerm 6 3 (g := (true, (if (1600 : Int32) ≤ v3 then 74 else 15), [.ref (1), .ref (15), .int v2, .int v3, .retAddr 0], [], mk b S)) rfl rfl ?_
    by_cases hc : (1600 : Int32) ≤ v3
    · rw [if_pos hc] at hf ⊢
      exact mfor (L' := [.retAddr 0, .retAddr 0, .retAddr 0, .retAddr 0, .retAddr 0]) ⟨Or.inl rfl, Or.inl rfl, Or.inl rfl, Or.inl rfl, Or.inl rfl, trivial⟩ (bX4_readTerm_74_15 C hr hk Hs0 Hs1 Hs2 Hs3 Hs4 Hs5 hf true)
    · rw [if_neg hc] at hf ⊢
      refine msegT C kX4_readTerm 9 2 (g := (true, 18, [.ref (1), .ref (15), .int v2, .int v3, .retAddr 0], [.int (42 : Int32), .ref (1)], mk b S)) rfl rfl ?_
      obtain ⟨x3, S2, hq, hf⟩ := bndC_ex hf
      refine mcall (kd := 0) (vs := [.ref (1), .int (42 : Int32)]) (rest := []) (r := (some (.int x3))) (h' := mk b S2) (ok' := true) C lkRX4_135 (qX4_isSign hq) (kX4_readTerm _ (List.mem_of_getElem? (i := 11) rfl)).1 ⟨_, _, rfl, rfl, Nat.le_of_ble_eq_true rfl, _, _, rfl, rfl, rfl⟩ (by show 1 + 1 ≤ 8 + (d + 1); omega) (by show 19 + 2 + 100 * (1) ≤ 100 * (8 + (d + 1)); omega) (Nat.le_refl _) (Nat.le_refl _) (Nat.le_of_ble_eq_true rfl) ?_
      refine msegT C kX4_readTerm 12 1 (g := (true, (if x3 = 0 then 24 else 42), [.ref (1), .ref (15), .int v2, .int v3, .retAddr 0], [], mk b S2)) rfl rfl ?_
      by_cases hc : x3 = 0
      · rw [if_pos hc] at hf ⊢
        refine msegT C kX4_readTerm 13 2 (g := (true, 27, [.ref (1), .ref (15), .int v2, .int v3, .retAddr 0], [.int (47 : Int32), .ref (1)], mk b S2)) rfl rfl ?_
        obtain ⟨x5, S4, hq, hf⟩ := bndC_ex hf
        refine mcall (kd := 0) (vs := [.ref (1), .int (47 : Int32)]) (rest := []) (r := (some (.int x5))) (h' := mk b S4) (ok' := true) C lkRX4_135 (qX4_isSign hq) (kX4_readTerm _ (List.mem_of_getElem? (i := 15) rfl)).1 ⟨_, _, rfl, rfl, Nat.le_of_ble_eq_true rfl, _, _, rfl, rfl, rfl⟩ (by show 1 + 1 ≤ 8 + (d + 1); omega) (by show 19 + 2 + 100 * (1) ≤ 100 * (8 + (d + 1)); omega) (Nat.le_refl _) (Nat.le_refl _) (Nat.le_of_ble_eq_true rfl) ?_
        refine msegT C kX4_readTerm 16 1 (g := (true, (if x5 = 0 then 33 else 42), [.ref (1), .ref (15), .int v2, .int v3, .retAddr 0], [], mk b S4)) rfl rfl ?_
        by_cases hc : x5 = 0
        · rw [if_pos hc] at hf ⊢
          refine msegT C kX4_readTerm 17 2 (g := (true, 36, [.ref (1), .ref (15), .int v2, .int v3, .retAddr 0], [.int (37 : Int32), .ref (1)], mk b S4)) rfl rfl ?_
          obtain ⟨x7, S6, hq, hf⟩ := bndC_ex hf
          refine mcall (kd := 0) (vs := [.ref (1), .int (37 : Int32)]) (rest := []) (r := (some (.int x7))) (h' := mk b S6) (ok' := true) C lkRX4_135 (qX4_isSign hq) (kX4_readTerm _ (List.mem_of_getElem? (i := 19) rfl)).1 ⟨_, _, rfl, rfl, Nat.le_of_ble_eq_true rfl, _, _, rfl, rfl, rfl⟩ (by show 1 + 1 ≤ 8 + (d + 1); omega) (by show 19 + 2 + 100 * (1) ≤ 100 * (8 + (d + 1)); omega) (Nat.le_refl _) (Nat.le_refl _) (Nat.le_of_ble_eq_true rfl) ?_
          refine msegT C kX4_readTerm 20 1 (g := (true, (if x7 = 0 then 74 else 42), [.ref (1), .ref (15), .int v2, .int v3, .retAddr 0], [], mk b S6)) rfl rfl ?_
          by_cases hc : x7 = 0
          · rw [if_pos hc] at hf ⊢
            exact mfor (L' := [.retAddr 0, .retAddr 0, .retAddr 0, .retAddr 0, .retAddr 0]) ⟨Or.inl rfl, Or.inl rfl, Or.inl rfl, Or.inl rfl, Or.inl rfl, trivial⟩ (bX4_readTerm_74_15 C hr hk Hs0 Hs1 Hs2 Hs3 Hs4 Hs5 hf true)
          · rw [if_neg hc] at hf ⊢
            exact mfor (L' := [.ref (1), .ref (15), .int v2, .int v3, .retAddr 0]) ⟨Or.inr rfl, Or.inr rfl, Or.inr rfl, Or.inr rfl, Or.inl rfl, trivial⟩ (bX4_readTerm_42_15 C hr hk Hs0 Hs1 Hs2 Hs3 Hs4 Hs5 ih hf true)
        · rw [if_neg hc] at hf ⊢
          exact mfor (L' := [.ref (1), .ref (15), .int v2, .int v3, .retAddr 0]) ⟨Or.inr rfl, Or.inr rfl, Or.inr rfl, Or.inr rfl, Or.inl rfl, trivial⟩ (bX4_readTerm_42_15 C hr hk Hs0 Hs1 Hs2 Hs3 Hs4 Hs5 ih hf true)
      · rw [if_neg hc] at hf ⊢
        exact mfor (L' := [.ref (1), .ref (15), .int v2, .int v3, .retAddr 0]) ⟨Or.inr rfl, Or.inr rfl, Or.inr rfl, Or.inr rfl, Or.inl rfl, trivial⟩ (bX4_readTerm_42_15 C hr hk Hs0 Hs1 Hs2 Hs3 Hs4 Hs5 ih hf true)
theorem bX4_readTerm_0_15 {d : Nat} (C : mCx p (mR (8 + (d + 1))) s m args meth c G cX4_readTerm RX4 5 false 233 54500 233 54500) (hr : meth.sig.returnType = none) (hk : meth.locks = false) {b : Bool} {self : Nat → Nat → Int32 → mT → Option (mT)} (Hs0 : ∀ {v2 : Int32} {S S' : mT}, self 0 15 v2 S = some S' → mOk l mX4_readEither (8 + d) [.ref 1, .ref 15, .int v2] b S none S') (Hs1 : ∀ {v2 : Int32} {S S' : mT}, self 1 15 v2 S = some S' → mOk l mX4_readBoth (8 + d) [.ref 1, .ref 15, .int v2] b S none S') (Hs2 : ∀ {v2 : Int32} {S S' : mT}, self 2 15 v2 S = some S' → mOk l mX4_readOne (8 + d) [.ref 1, .ref 15, .int v2] b S none S') (Hs3 : ∀ {v2 : Int32} {S S' : mT}, self 3 15 v2 S = some S' → mOk l mX4_readSum (8 + d) [.ref 1, .ref 15, .int v2] b S none S') (Hs4 : ∀ {v2 : Int32} {S S' : mT}, self 4 15 v2 S = some S' → mOk l mX4_readTerm (8 + d) [.ref 1, .ref 15, .int v2] b S none S') (Hs5 : ∀ {v2 : Int32} {S S' : mT}, self 5 15 v2 S = some S' → mOk l mX4_readUnit (8 + d) [.ref 1, .ref 15, .int v2] b S none S') {S' : mT} {v2 : Int32} {S : mT} (hf : fX4_readTerm_0 15 self v2 S = some S') (ok : Bool) : mW p l e (mR (8 + (d + 1))) s m args below meth c G 5 233 54500 (mQ below G args s b S' none) (ok, 0, [.ref (1), .ref (15), .int v2, .retAddr 0, .retAddr 0], [], mk b S) := by
  unfold fX4_readTerm_0 at hf
  refine msegT C kX4_readTerm 0 3 (g := (true, 3, [.ref (1), .ref (15), .int v2, .retAddr 0, .retAddr 0], [.int v2, .ref (15), .ref (1)], mk b S)) rfl rfl ?_
  obtain ⟨S1, hq, hf⟩ := bndV_ex hf
  refine mcall (kd := 0) (vs := [.ref (1), .ref (15), .int v2]) (rest := []) (r := none) (h' := mk b S1) (ok' := true) C lkRX4_146 (Hs5 hq) (kX4_readTerm _ (List.mem_of_getElem? (i := 3) rfl)).1 ⟨_, _, rfl, rfl, Nat.le_of_ble_eq_true rfl, _, _, rfl, rfl, rfl⟩ (by show 8 + d + 1 ≤ 8 + (d + 1); omega) (by show 19 + 4 + 100 * (8 + d) ≤ 100 * (8 + (d + 1)); omega) (Nat.le_refl _) (Nat.le_refl _) (Nat.le_of_ble_eq_true rfl) ?_
  refine msegT C kX4_readTerm 4 2 (g := (true, 8, [.ref (1), .ref (15), .int v2, .int (0 : Int32), .retAddr 0], [], mk b S1)) rfl rfl ?_
  exact mfor (L' := [.ref (1), .ref (15), .int v2, .int (0 : Int32), .retAddr 0]) ⟨Or.inr rfl, Or.inr rfl, Or.inr rfl, Or.inr rfl, Or.inl rfl, trivial⟩ (bX4_readTerm_8_15 C hr hk Hs0 Hs1 Hs2 Hs3 Hs4 Hs5 _ _ _ _ hf true)
theorem bX4_readTerm_42_25 {d : Nat} (C : mCx p (mR (8 + (d + 1))) s m args meth c G cX4_readTerm RX4 5 false 233 54500 233 54500) (hr : meth.sig.returnType = none) (hk : meth.locks = false) {b : Bool} {self : Nat → Nat → Int32 → mT → Option (mT)} (Hs0 : ∀ {v2 : Int32} {S S' : mT}, self 0 25 v2 S = some S' → mOk l mX4_readEither (8 + d) [.ref 1, .ref 25, .int v2] b S none S') (Hs1 : ∀ {v2 : Int32} {S S' : mT}, self 1 25 v2 S = some S' → mOk l mX4_readBoth (8 + d) [.ref 1, .ref 25, .int v2] b S none S') (Hs2 : ∀ {v2 : Int32} {S S' : mT}, self 2 25 v2 S = some S' → mOk l mX4_readOne (8 + d) [.ref 1, .ref 25, .int v2] b S none S') (Hs3 : ∀ {v2 : Int32} {S S' : mT}, self 3 25 v2 S = some S' → mOk l mX4_readSum (8 + d) [.ref 1, .ref 25, .int v2] b S none S') (Hs4 : ∀ {v2 : Int32} {S S' : mT}, self 4 25 v2 S = some S' → mOk l mX4_readTerm (8 + d) [.ref 1, .ref 25, .int v2] b S none S') (Hs5 : ∀ {v2 : Int32} {S S' : mT}, self 5 25 v2 S = some S' → mOk l mX4_readUnit (8 + d) [.ref 1, .ref 25, .int v2] b S none S') {S' : mT} {rc8 : Int32 → Int32 → mT → Option (mT)} (Hrc8 : ∀ (v2 : Int32) (v3 : Int32) (S : mT), rc8 v2 v3 S = some S' → ∀ ok : Bool, mW p l e (mR (8 + (d + 1))) s m args below meth c G 5 233 54500 (mQ below G args s b S' none) (ok, 8, [.ref (1), .ref (25), .int v2, .int v3, .retAddr 0], [], mk b S)) {v2 : Int32} {v3 : Int32} {S : mT} (hf : fX4_readTerm_42 25 self rc8 v2 v3 S = some S') (ok : Bool) : mW p l e (mR (8 + (d + 1))) s m args below meth c G 5 233 54500 (mQ below G args s b S' none) (ok, 42, [.ref (1), .ref (25), .int v2, .int v3, .retAddr 0], [], mk b S) := by
  unfold fX4_readTerm_42 at hf
  obtain ⟨hok, hf⟩ := grd_ex hf
  refine msegT C kX4_readTerm 21 3 (g := ((kO 1 4 && true), 48, [.ref (1), .ref (25), .int v2, .int v3, .int (S.1 1 9)], [], mk b S)) rfl hok ?_
  obtain ⟨x8, ex8, hf⟩ := bnd_ex hf
  rw [← ex8]
  refine msegT C kX4_readTerm 24 1 (g := (true, 49, [.ref (1), .ref (25), .int v2, .int v3, .int x8], [.ref (1)], mk b S)) rfl rfl ?_
  obtain ⟨S9, hq, hf⟩ := bndV_ex hf
  refine mcall (kd := 0) (vs := [.ref (1)]) (rest := []) (r := none) (h' := mk b S9) (ok' := true) C lkRX4_30 (qX4_advance hq) (kX4_readTerm _ (List.mem_of_getElem? (i := 25) rfl)).1 ⟨_, _, rfl, rfl, Nat.le_of_ble_eq_true rfl, _, _, rfl, rfl, rfl⟩ (by show 3 + 1 ≤ 8 + (d + 1); omega) (by show 19 + 1 + 100 * (3) ≤ 100 * (8 + (d + 1)); omega) (Nat.le_refl _) (Nat.le_refl _) (Nat.le_of_ble_eq_true rfl) ?_
  refine msegT C kX4_readTerm 26 3 (g := (true, 55, [.ref (1), .ref (25), .int v2, .int v3, .int x8], [.int v2, .ref (25), .ref (1)], mk b S9)) rfl rfl ?_
  obtain ⟨S10, hq, hf⟩ := bndV_ex hf
  refine mcall (kd := 0) (vs := [.ref (1), .ref (25), .int v2]) (rest := []) (r := none) (h' := mk b S10) (ok' := true) C lkRX4_146 (Hs5 hq) (kX4_readTerm _ (List.mem_of_getElem? (i := 29) rfl)).1 ⟨_, _, rfl, rfl, Nat.le_of_ble_eq_true rfl, _, _, rfl, rfl, rfl⟩ (by show 8 + d + 1 ≤ 8 + (d + 1); omega) (by show 19 + 4 + 100 * (8 + d) ≤ 100 * (8 + (d + 1)); omega) (Nat.le_refl _) (Nat.le_refl _) (Nat.le_of_ble_eq_true rfl) ?_
  refine msegT C kX4_readTerm 30 4 (g := (true, 65, [.ref (1), .ref (25), .int v2, .int v3, .int x8], [.int ((20000 : Int32) + x8), .ref (25)], mk b S10)) rfl rfl ?_
  obtain ⟨S11, hq, hf⟩ := bndV_ex hf
  refine mcall (kd := 0) (vs := [.ref (25), .int ((20000 : Int32) + x8)]) (rest := []) (r := none) (h' := mk b S11) (ok' := true) C lkRX4_122 (qX0_add_25 hq) (kX4_readTerm _ (List.mem_of_getElem? (i := 34) rfl)).1 ⟨_, _, rfl, rfl, Nat.le_of_ble_eq_true rfl, _, _, rfl, rfl, rfl⟩ (by show 1 + 1 ≤ 8 + (d + 1); omega) (by show 19 + 2 + 100 * (1) ≤ 100 * (8 + (d + 1)); omega) (Nat.le_refl _) (Nat.le_refl _) (Nat.le_of_ble_eq_true rfl) ?_
  refine msegT C kX4_readTerm 35 1 (g := (true, 71, [.ref (1), .ref (25), .int v2, .int (v3 + (1 : Int32)), .int x8], [], mk b S11)) rfl rfl ?_
  obtain ⟨x12, ex12, hf⟩ := bnd_ex hf
  rw [← ex12]
  refine msegT C kX4_readTerm 36 1 (g := (true, 8, [.ref (1), .ref (25), .int v2, .int x12, .int x8], [], mk b S11)) rfl rfl ?_
  exact mfor (L' := [.ref (1), .ref (25), .int v2, .int x12, .retAddr 0]) ⟨Or.inr rfl, Or.inr rfl, Or.inr rfl, Or.inr rfl, Or.inl rfl, trivial⟩ (Hrc8 _ _ _ hf true)
theorem bX4_readTerm_74_25 {d : Nat} (C : mCx p (mR (8 + (d + 1))) s m args meth c G cX4_readTerm RX4 5 false 233 54500 233 54500) (hr : meth.sig.returnType = none) (hk : meth.locks = false) {b : Bool} {self : Nat → Nat → Int32 → mT → Option (mT)} (Hs0 : ∀ {v2 : Int32} {S S' : mT}, self 0 25 v2 S = some S' → mOk l mX4_readEither (8 + d) [.ref 1, .ref 25, .int v2] b S none S') (Hs1 : ∀ {v2 : Int32} {S S' : mT}, self 1 25 v2 S = some S' → mOk l mX4_readBoth (8 + d) [.ref 1, .ref 25, .int v2] b S none S') (Hs2 : ∀ {v2 : Int32} {S S' : mT}, self 2 25 v2 S = some S' → mOk l mX4_readOne (8 + d) [.ref 1, .ref 25, .int v2] b S none S') (Hs3 : ∀ {v2 : Int32} {S S' : mT}, self 3 25 v2 S = some S' → mOk l mX4_readSum (8 + d) [.ref 1, .ref 25, .int v2] b S none S') (Hs4 : ∀ {v2 : Int32} {S S' : mT}, self 4 25 v2 S = some S' → mOk l mX4_readTerm (8 + d) [.ref 1, .ref 25, .int v2] b S none S') (Hs5 : ∀ {v2 : Int32} {S S' : mT}, self 5 25 v2 S = some S' → mOk l mX4_readUnit (8 + d) [.ref 1, .ref 25, .int v2] b S none S') {S' : mT} {S : mT} (hf : fX4_readTerm_74 25 self S = some S') (ok : Bool) : mW p l e (mR (8 + (d + 1))) s m args below meth c G 5 233 54500 (mQ below G args s b S' none) (ok, 74, [.retAddr 0, .retAddr 0, .retAddr 0, .retAddr 0, .retAddr 0], [], mk b S) := by
  unfold fX4_readTerm_74 at hf
  cases hf
  exact gret_v C hr hk (kX4_readTerm _ (List.mem_of_getElem? (i := 37) rfl)).1
theorem bX4_readTerm_8_25 {d : Nat} (C : mCx p (mR (8 + (d + 1))) s m args meth c G cX4_readTerm RX4 5 false 233 54500 233 54500) (hr : meth.sig.returnType = none) (hk : meth.locks = false) {b : Bool} {self : Nat → Nat → Int32 → mT → Option (mT)} (Hs0 : ∀ {v2 : Int32} {S S' : mT}, self 0 25 v2 S = some S' → mOk l mX4_readEither (8 + d) [.ref 1, .ref 25, .int v2] b S none S') (Hs1 : ∀ {v2 : Int32} {S S' : mT}, self 1 25 v2 S = some S' → mOk l mX4_readBoth (8 + d) [.ref 1, .ref 25, .int v2] b S none S') (Hs2 : ∀ {v2 : Int32} {S S' : mT}, self 2 25 v2 S = some S' → mOk l mX4_readOne (8 + d) [.ref 1, .ref 25, .int v2] b S none S') (Hs3 : ∀ {v2 : Int32} {S S' : mT}, self 3 25 v2 S = some S' → mOk l mX4_readSum (8 + d) [.ref 1, .ref 25, .int v2] b S none S') (Hs4 : ∀ {v2 : Int32} {S S' : mT}, self 4 25 v2 S = some S' → mOk l mX4_readTerm (8 + d) [.ref 1, .ref 25, .int v2] b S none S') (Hs5 : ∀ {v2 : Int32} {S S' : mT}, self 5 25 v2 S = some S' → mOk l mX4_readUnit (8 + d) [.ref 1, .ref 25, .int v2] b S none S') {S' : mT} : ∀ (k : Nat) (v2 : Int32) (v3 : Int32) (S : mT), fX4_readTerm_8 25 self k v2 v3 S = some S' → ∀ ok : Bool, mW p l e (mR (8 + (d + 1))) s m args below meth c G 5 233 54500 (mQ below G args s b S' none) (ok, 8, [.ref (1), .ref (25), .int v2, .int v3, .retAddr 0], [], mk b S) := by
  intro k
  induction k with
  | zero =>
    intro v2 v3 S hf ok
    cases hf
  | succ k ih =>
    intro v2 v3 S hf ok
    unfold fX4_readTerm_8 at hf
    refine msegT C kX4_readTerm 6 3 (g := (true, (if (1600 : Int32) ≤ v3 then 74 else 15), [.ref (1), .ref (25), .int v2, .int v3, .retAddr 0], [], mk b S)) rfl rfl ?_
    by_cases hc : (1600 : Int32) ≤ v3
    · rw [if_pos hc] at hf ⊢
      exact mfor (L' := [.retAddr 0, .retAddr 0, .retAddr 0, .retAddr 0, .retAddr 0]) ⟨Or.inl rfl, Or.inl rfl, Or.inl rfl, Or.inl rfl, Or.inl rfl, trivial⟩ (bX4_readTerm_74_25 C hr hk Hs0 Hs1 Hs2 Hs3 Hs4 Hs5 hf true)
    · rw [if_neg hc] at hf ⊢
      refine msegT C kX4_readTerm 9 2 (g := (true, 18, [.ref (1), .ref (25), .int v2, .int v3, .retAddr 0], [.int (42 : Int32), .ref (1)], mk b S)) rfl rfl ?_
      obtain ⟨x3, S2, hq, hf⟩ := bndC_ex hf
      refine mcall (kd := 0) (vs := [.ref (1), .int (42 : Int32)]) (rest := []) (r := (some (.int x3))) (h' := mk b S2) (ok' := true) C lkRX4_135 (qX4_isSign hq) (kX4_readTerm _ (List.mem_of_getElem? (i := 11) rfl)).1 ⟨_, _, rfl, rfl, Nat.le_of_ble_eq_true rfl, _, _, rfl, rfl, rfl⟩ (by show 1 + 1 ≤ 8 + (d + 1); omega) (by show 19 + 2 + 100 * (1) ≤ 100 * (8 + (d + 1)); omega) (Nat.le_refl _) (Nat.le_refl _) (Nat.le_of_ble_eq_true rfl) ?_
      refine msegT C kX4_readTerm 12 1 (g := (true, (if x3 = 0 then 24 else 42), [.ref (1), .ref (25), .int v2, .int v3, .retAddr 0], [], mk b S2)) rfl rfl ?_
      by_cases hc : x3 = 0
      · rw [if_pos hc] at hf ⊢
        refine msegT C kX4_readTerm 13 2 (g := (true, 27, [.ref (1), .ref (25), .int v2, .int v3, .retAddr 0], [.int (47 : Int32), .ref (1)], mk b S2)) rfl rfl ?_
        obtain ⟨x5, S4, hq, hf⟩ := bndC_ex hf
        refine mcall (kd := 0) (vs := [.ref (1), .int (47 : Int32)]) (rest := []) (r := (some (.int x5))) (h' := mk b S4) (ok' := true) C lkRX4_135 (qX4_isSign hq) (kX4_readTerm _ (List.mem_of_getElem? (i := 15) rfl)).1 ⟨_, _, rfl, rfl, Nat.le_of_ble_eq_true rfl, _, _, rfl, rfl, rfl⟩ (by show 1 + 1 ≤ 8 + (d + 1); omega) (by show 19 + 2 + 100 * (1) ≤ 100 * (8 + (d + 1)); omega) (Nat.le_refl _) (Nat.le_refl _) (Nat.le_of_ble_eq_true rfl) ?_
        refine msegT C kX4_readTerm 16 1 (g := (true, (if x5 = 0 then 33 else 42), [.ref (1), .ref (25), .int v2, .int v3, .retAddr 0], [], mk b S4)) rfl rfl ?_
        by_cases hc : x5 = 0
        · rw [if_pos hc] at hf ⊢
          refine msegT C kX4_readTerm 17 2 (g := (true, 36, [.ref (1), .ref (25), .int v2, .int v3, .retAddr 0], [.int (37 : Int32), .ref (1)], mk b S4)) rfl rfl ?_
          obtain ⟨x7, S6, hq, hf⟩ := bndC_ex hf
          refine mcall (kd := 0) (vs := [.ref (1), .int (37 : Int32)]) (rest := []) (r := (some (.int x7))) (h' := mk b S6) (ok' := true) C lkRX4_135 (qX4_isSign hq) (kX4_readTerm _ (List.mem_of_getElem? (i := 19) rfl)).1 ⟨_, _, rfl, rfl, Nat.le_of_ble_eq_true rfl, _, _, rfl, rfl, rfl⟩ (by show 1 + 1 ≤ 8 + (d + 1); omega) (by show 19 + 2 + 100 * (1) ≤ 100 * (8 + (d + 1)); omega) (Nat.le_refl _) (Nat.le_refl _) (Nat.le_of_ble_eq_true rfl) ?_
          refine msegT C kX4_readTerm 20 1 (g := (true, (if x7 = 0 then 74 else 42), [.ref (1), .ref (25), .int v2, .int v3, .retAddr 0], [], mk b S6)) rfl rfl ?_
          by_cases hc : x7 = 0
          · rw [if_pos hc] at hf ⊢
            exact mfor (L' := [.retAddr 0, .retAddr 0, .retAddr 0, .retAddr 0, .retAddr 0]) ⟨Or.inl rfl, Or.inl rfl, Or.inl rfl, Or.inl rfl, Or.inl rfl, trivial⟩ (bX4_readTerm_74_25 C hr hk Hs0 Hs1 Hs2 Hs3 Hs4 Hs5 hf true)
          · rw [if_neg hc] at hf ⊢
            exact mfor (L' := [.ref (1), .ref (25), .int v2, .int v3, .retAddr 0]) ⟨Or.inr rfl, Or.inr rfl, Or.inr rfl, Or.inr rfl, Or.inl rfl, trivial⟩ (bX4_readTerm_42_25 C hr hk Hs0 Hs1 Hs2 Hs3 Hs4 Hs5 ih hf true)
        · rw [if_neg hc] at hf ⊢
          exact mfor (L' := [.ref (1), .ref (25), .int v2, .int v3, .retAddr 0]) ⟨Or.inr rfl, Or.inr rfl, Or.inr rfl, Or.inr rfl, Or.inl rfl, trivial⟩ (bX4_readTerm_42_25 C hr hk Hs0 Hs1 Hs2 Hs3 Hs4 Hs5 ih hf true)
      · rw [if_neg hc] at hf ⊢
        exact mfor (L' := [.ref (1), .ref (25), .int v2, .int v3, .retAddr 0]) ⟨Or.inr rfl, Or.inr rfl, Or.inr rfl, Or.inr rfl, Or.inl rfl, trivial⟩ (bX4_readTerm_42_25 C hr hk Hs0 Hs1 Hs2 Hs3 Hs4 Hs5 ih hf true)
theorem bX4_readTerm_0_25 {d : Nat} (C : mCx p (mR (8 + (d + 1))) s m args meth c G cX4_readTerm RX4 5 false 233 54500 233 54500) (hr : meth.sig.returnType = none) (hk : meth.locks = false) {b : Bool} {self : Nat → Nat → Int32 → mT → Option (mT)} (Hs0 : ∀ {v2 : Int32} {S S' : mT}, self 0 25 v2 S = some S' → mOk l mX4_readEither (8 + d) [.ref 1, .ref 25, .int v2] b S none S') (Hs1 : ∀ {v2 : Int32} {S S' : mT}, self 1 25 v2 S = some S' → mOk l mX4_readBoth (8 + d) [.ref 1, .ref 25, .int v2] b S none S') (Hs2 : ∀ {v2 : Int32} {S S' : mT}, self 2 25 v2 S = some S' → mOk l mX4_readOne (8 + d) [.ref 1, .ref 25, .int v2] b S none S') (Hs3 : ∀ {v2 : Int32} {S S' : mT}, self 3 25 v2 S = some S' → mOk l mX4_readSum (8 + d) [.ref 1, .ref 25, .int v2] b S none S') (Hs4 : ∀ {v2 : Int32} {S S' : mT}, self 4 25 v2 S = some S' → mOk l mX4_readTerm (8 + d) [.ref 1, .ref 25, .int v2] b S none S') (Hs5 : ∀ {v2 : Int32} {S S' : mT}, self 5 25 v2 S = some S' → mOk l mX4_readUnit (8 + d) [.ref 1, .ref 25, .int v2] b S none S') {S' : mT} {v2 : Int32} {S : mT} (hf : fX4_readTerm_0 25 self v2 S = some S') (ok : Bool) : mW p l e (mR (8 + (d + 1))) s m args below meth c G 5 233 54500 (mQ below G args s b S' none) (ok, 0, [.ref (1), .ref (25), .int v2, .retAddr 0, .retAddr 0], [], mk b S) := by
  unfold fX4_readTerm_0 at hf
  refine msegT C kX4_readTerm 0 3 (g := (true, 3, [.ref (1), .ref (25), .int v2, .retAddr 0, .retAddr 0], [.int v2, .ref (25), .ref (1)], mk b S)) rfl rfl ?_
  obtain ⟨S1, hq, hf⟩ := bndV_ex hf
  refine mcall (kd := 0) (vs := [.ref (1), .ref (25), .int v2]) (rest := []) (r := none) (h' := mk b S1) (ok' := true) C lkRX4_146 (Hs5 hq) (kX4_readTerm _ (List.mem_of_getElem? (i := 3) rfl)).1 ⟨_, _, rfl, rfl, Nat.le_of_ble_eq_true rfl, _, _, rfl, rfl, rfl⟩ (by show 8 + d + 1 ≤ 8 + (d + 1); omega) (by show 19 + 4 + 100 * (8 + d) ≤ 100 * (8 + (d + 1)); omega) (Nat.le_refl _) (Nat.le_refl _) (Nat.le_of_ble_eq_true rfl) ?_
  refine msegT C kX4_readTerm 4 2 (g := (true, 8, [.ref (1), .ref (25), .int v2, .int (0 : Int32), .retAddr 0], [], mk b S1)) rfl rfl ?_
  exact mfor (L' := [.ref (1), .ref (25), .int v2, .int (0 : Int32), .retAddr 0]) ⟨Or.inr rfl, Or.inr rfl, Or.inr rfl, Or.inr rfl, Or.inl rfl, trivial⟩ (bX4_readTerm_8_25 C hr hk Hs0 Hs1 Hs2 Hs3 Hs4 Hs5 _ _ _ _ hf true)
theorem bX4_readTerm_42_28 {d : Nat} (C : mCx p (mR (8 + (d + 1))) s m args meth c G cX4_readTerm RX4 5 false 233 54500 233 54500) (hr : meth.sig.returnType = none) (hk : meth.locks = false) {b : Bool} {self : Nat → Nat → Int32 → mT → Option (mT)} (Hs0 : ∀ {v2 : Int32} {S S' : mT}, self 0 28 v2 S = some S' → mOk l mX4_readEither (8 + d) [.ref 1, .ref 28, .int v2] b S none S') (Hs1 : ∀ {v2 : Int32} {S S' : mT}, self 1 28 v2 S = some S' → mOk l mX4_readBoth (8 + d) [.ref 1, .ref 28, .int v2] b S none S') (Hs2 : ∀ {v2 : Int32} {S S' : mT}, self 2 28 v2 S = some S' → mOk l mX4_readOne (8 + d) [.ref 1, .ref 28, .int v2] b S none S') (Hs3 : ∀ {v2 : Int32} {S S' : mT}, self 3 28 v2 S = some S' → mOk l mX4_readSum (8 + d) [.ref 1, .ref 28, .int v2] b S none S') (Hs4 : ∀ {v2 : Int32} {S S' : mT}, self 4 28 v2 S = some S' → mOk l mX4_readTerm (8 + d) [.ref 1, .ref 28, .int v2] b S none S') (Hs5 : ∀ {v2 : Int32} {S S' : mT}, self 5 28 v2 S = some S' → mOk l mX4_readUnit (8 + d) [.ref 1, .ref 28, .int v2] b S none S') {S' : mT} {rc8 : Int32 → Int32 → mT → Option (mT)} (Hrc8 : ∀ (v2 : Int32) (v3 : Int32) (S : mT), rc8 v2 v3 S = some S' → ∀ ok : Bool, mW p l e (mR (8 + (d + 1))) s m args below meth c G 5 233 54500 (mQ below G args s b S' none) (ok, 8, [.ref (1), .ref (28), .int v2, .int v3, .retAddr 0], [], mk b S)) {v2 : Int32} {v3 : Int32} {S : mT} (hf : fX4_readTerm_42 28 self rc8 v2 v3 S = some S') (ok : Bool) : mW p l e (mR (8 + (d + 1))) s m args below meth c G 5 233 54500 (mQ below G args s b S' none) (ok, 42, [.ref (1), .ref (28), .int v2, .int v3, .retAddr 0], [], mk b S) := by
  unfold fX4_readTerm_42 at hf
  obtain ⟨hok, hf⟩ := grd_ex hf
  refine msegT C kX4_readTerm 21 3 (g := ((kO 1 4 && true), 48, [.ref (1), .ref (28), .int v2, .int v3, .int (S.1 1 9)], [], mk b S)) rfl hok ?_
  obtain ⟨x8, ex8, hf⟩ := bnd_ex hf
  rw [← ex8]
  refine msegT C kX4_readTerm 24 1 (g := (true, 49, [.ref (1), .ref (28), .int v2, .int v3, .int x8], [.ref (1)], mk b S)) rfl rfl ?_
  obtain ⟨S9, hq, hf⟩ := bndV_ex hf
  refine mcall (kd := 0) (vs := [.ref (1)]) (rest := []) (r := none) (h' := mk b S9) (ok' := true) C lkRX4_30 (qX4_advance hq) (kX4_readTerm _ (List.mem_of_getElem? (i := 25) rfl)).1 ⟨_, _, rfl, rfl, Nat.le_of_ble_eq_true rfl, _, _, rfl, rfl, rfl⟩ (by show 3 + 1 ≤ 8 + (d + 1); omega) (by show 19 + 1 + 100 * (3) ≤ 100 * (8 + (d + 1)); omega) (Nat.le_refl _) (Nat.le_refl _) (Nat.le_of_ble_eq_true rfl) ?_
  refine msegT C kX4_readTerm 26 3 (g := (true, 55, [.ref (1), .ref (28), .int v2, .int v3, .int x8], [.int v2, .ref (28), .ref (1)], mk b S9)) rfl rfl ?_
  obtain ⟨S10, hq, hf⟩ := bndV_ex hf
  refine mcall (kd := 0) (vs := [.ref (1), .ref (28), .int v2]) (rest := []) (r := none) (h' := mk b S10) (ok' := true) C lkRX4_146 (Hs5 hq) (kX4_readTerm _ (List.mem_of_getElem? (i := 29) rfl)).1 ⟨_, _, rfl, rfl, Nat.le_of_ble_eq_true rfl, _, _, rfl, rfl, rfl⟩ (by show 8 + d + 1 ≤ 8 + (d + 1); omega) (by show 19 + 4 + 100 * (8 + d) ≤ 100 * (8 + (d + 1)); omega) (Nat.le_refl _) (Nat.le_refl _) (Nat.le_of_ble_eq_true rfl) ?_
  refine msegT C kX4_readTerm 30 4 (g := (true, 65, [.ref (1), .ref (28), .int v2, .int v3, .int x8], [.int ((20000 : Int32) + x8), .ref (28)], mk b S10)) rfl rfl ?_
  obtain ⟨S11, hq, hf⟩ := bndV_ex hf
  refine mcall (kd := 0) (vs := [.ref (28), .int ((20000 : Int32) + x8)]) (rest := []) (r := none) (h' := mk b S11) (ok' := true) C lkRX4_122 (qX0_add_28 hq) (kX4_readTerm _ (List.mem_of_getElem? (i := 34) rfl)).1 ⟨_, _, rfl, rfl, Nat.le_of_ble_eq_true rfl, _, _, rfl, rfl, rfl⟩ (by show 1 + 1 ≤ 8 + (d + 1); omega) (by show 19 + 2 + 100 * (1) ≤ 100 * (8 + (d + 1)); omega) (Nat.le_refl _) (Nat.le_refl _) (Nat.le_of_ble_eq_true rfl) ?_
  refine msegT C kX4_readTerm 35 1 (g := (true, 71, [.ref (1), .ref (28), .int v2, .int (v3 + (1 : Int32)), .int x8], [], mk b S11)) rfl rfl ?_
  obtain ⟨x12, ex12, hf⟩ := bnd_ex hf
  rw [← ex12]
  refine msegT C kX4_readTerm 36 1 (g := (true, 8, [.ref (1), .ref (28), .int v2, .int x12, .int x8], [], mk b S11)) rfl rfl ?_
  exact mfor (L' := [.ref (1), .ref (28), .int v2, .int x12, .retAddr 0]) ⟨Or.inr rfl, Or.inr rfl, Or.inr rfl, Or.inr rfl, Or.inl rfl, trivial⟩ (Hrc8 _ _ _ hf true)
theorem bX4_readTerm_74_28 {d : Nat} (C : mCx p (mR (8 + (d + 1))) s m args meth c G cX4_readTerm RX4 5 false 233 54500 233 54500) (hr : meth.sig.returnType = none) (hk : meth.locks = false) {b : Bool} {self : Nat → Nat → Int32 → mT → Option (mT)} (Hs0 : ∀ {v2 : Int32} {S S' : mT}, self 0 28 v2 S = some S' → mOk l mX4_readEither (8 + d) [.ref 1, .ref 28, .int v2] b S none S') (Hs1 : ∀ {v2 : Int32} {S S' : mT}, self 1 28 v2 S = some S' → mOk l mX4_readBoth (8 + d) [.ref 1, .ref 28, .int v2] b S none S') (Hs2 : ∀ {v2 : Int32} {S S' : mT}, self 2 28 v2 S = some S' → mOk l mX4_readOne (8 + d) [.ref 1, .ref 28, .int v2] b S none S') (Hs3 : ∀ {v2 : Int32} {S S' : mT}, self 3 28 v2 S = some S' → mOk l mX4_readSum (8 + d) [.ref 1, .ref 28, .int v2] b S none S') (Hs4 : ∀ {v2 : Int32} {S S' : mT}, self 4 28 v2 S = some S' → mOk l mX4_readTerm (8 + d) [.ref 1, .ref 28, .int v2] b S none S') (Hs5 : ∀ {v2 : Int32} {S S' : mT}, self 5 28 v2 S = some S' → mOk l mX4_readUnit (8 + d) [.ref 1, .ref 28, .int v2] b S none S') {S' : mT} {S : mT} (hf : fX4_readTerm_74 28 self S = some S') (ok : Bool) : mW p l e (mR (8 + (d + 1))) s m args below meth c G 5 233 54500 (mQ below G args s b S' none) (ok, 74, [.retAddr 0, .retAddr 0, .retAddr 0, .retAddr 0, .retAddr 0], [], mk b S) := by
  unfold fX4_readTerm_74 at hf
  cases hf
  exact gret_v C hr hk (kX4_readTerm _ (List.mem_of_getElem? (i := 37) rfl)).1
theorem bX4_readTerm_8_28 {d : Nat} (C : mCx p (mR (8 + (d + 1))) s m args meth c G cX4_readTerm RX4 5 false 233 54500 233 54500) (hr : meth.sig.returnType = none) (hk : meth.locks = false) {b : Bool} {self : Nat → Nat → Int32 → mT → Option (mT)} (Hs0 : ∀ {v2 : Int32} {S S' : mT}, self 0 28 v2 S = some S' → mOk l mX4_readEither (8 + d) [.ref 1, .ref 28, .int v2] b S none S') (Hs1 : ∀ {v2 : Int32} {S S' : mT}, self 1 28 v2 S = some S' → mOk l mX4_readBoth (8 + d) [.ref 1, .ref 28, .int v2] b S none S') (Hs2 : ∀ {v2 : Int32} {S S' : mT}, self 2 28 v2 S = some S' → mOk l mX4_readOne (8 + d) [.ref 1, .ref 28, .int v2] b S none S') (Hs3 : ∀ {v2 : Int32} {S S' : mT}, self 3 28 v2 S = some S' → mOk l mX4_readSum (8 + d) [.ref 1, .ref 28, .int v2] b S none S') (Hs4 : ∀ {v2 : Int32} {S S' : mT}, self 4 28 v2 S = some S' → mOk l mX4_readTerm (8 + d) [.ref 1, .ref 28, .int v2] b S none S') (Hs5 : ∀ {v2 : Int32} {S S' : mT}, self 5 28 v2 S = some S' → mOk l mX4_readUnit (8 + d) [.ref 1, .ref 28, .int v2] b S none S') {S' : mT} : ∀ (k : Nat) (v2 : Int32) (v3 : Int32) (S : mT), fX4_readTerm_8 28 self k v2 v3 S = some S' → ∀ ok : Bool, mW p l e (mR (8 + (d + 1))) s m args below meth c G 5 233 54500 (mQ below G args s b S' none) (ok, 8, [.ref (1), .ref (28), .int v2, .int v3, .retAddr 0], [], mk b S) := by
  intro k
  induction k with
  | zero =>
    intro v2 v3 S hf ok
    cases hf
  | succ k ih =>
    intro v2 v3 S hf ok
    unfold fX4_readTerm_8 at hf
    refine msegT C kX4_readTerm 6 3 (g := (true, (if (1600 : Int32) ≤ v3 then 74 else 15), [.ref (1), .ref (28), .int v2, .int v3, .retAddr 0], [], mk b S)) rfl rfl ?_
    by_cases hc : (1600 : Int32) ≤ v3
    · rw [if_pos hc] at hf ⊢
      exact mfor (L' := [.retAddr 0, .retAddr 0, .retAddr 0, .retAddr 0, .retAddr 0]) ⟨Or.inl rfl, Or.inl rfl, Or.inl rfl, Or.inl rfl, Or.inl rfl, trivial⟩ (bX4_readTerm_74_28 C hr hk Hs0 Hs1 Hs2 Hs3 Hs4 Hs5 hf true)
    · rw [if_neg hc] at hf ⊢
      refine msegT C kX4_readTerm 9 2 (g := (true, 18, [.ref (1), .ref (28), .int v2, .int v3, .retAddr 0], [.int (42 : Int32), .ref (1)], mk b S)) rfl rfl ?_
      obtain ⟨x3, S2, hq, hf⟩ := bndC_ex hf
      refine mcall (kd := 0) (vs := [.ref (1), .int (42 : Int32)]) (rest := []) (r := (some (.int x3))) (h' := mk b S2) (ok' := true) C lkRX4_135 (qX4_isSign hq) (kX4_readTerm _ (List.mem_of_getElem? (i := 11) rfl)).1 ⟨_, _, rfl, rfl, Nat.le_of_ble_eq_true rfl, _, _, rfl, rfl, rfl⟩ (by show 1 + 1 ≤ 8 + (d + 1); omega) (by show 19 + 2 + 100 * (1) ≤ 100 * (8 + (d + 1)); omega) (Nat.le_refl _) (Nat.le_refl _) (Nat.le_of_ble_eq_true rfl) ?_
      refine msegT C kX4_readTerm 12 1 (g := (true, (if x3 = 0 then 24 else 42), [.ref (1), .ref (28), .int v2, .int v3, .retAddr 0], [], mk b S2)) rfl rfl ?_
      by_cases hc : x3 = 0
      · rw [if_pos hc] at hf ⊢
        refine msegT C kX4_readTerm 13 2 (g := (true, 27, [.ref (1), .ref (28), .int v2, .int v3, .retAddr 0], [.int (47 : Int32), .ref (1)], mk b S2)) rfl rfl ?_
        obtain ⟨x5, S4, hq, hf⟩ := bndC_ex hf
        refine mcall (kd := 0) (vs := [.ref (1), .int (47 : Int32)]) (rest := []) (r := (some (.int x5))) (h' := mk b S4) (ok' := true) C lkRX4_135 (qX4_isSign hq) (kX4_readTerm _ (List.mem_of_getElem? (i := 15) rfl)).1 ⟨_, _, rfl, rfl, Nat.le_of_ble_eq_true rfl, _, _, rfl, rfl, rfl⟩ (by show 1 + 1 ≤ 8 + (d + 1); omega) (by show 19 + 2 + 100 * (1) ≤ 100 * (8 + (d + 1)); omega) (Nat.le_refl _) (Nat.le_refl _) (Nat.le_of_ble_eq_true rfl) ?_
        refine msegT C kX4_readTerm 16 1 (g := (true, (if x5 = 0 then 33 else 42), [.ref (1), .ref (28), .int v2, .int v3, .retAddr 0], [], mk b S4)) rfl rfl ?_
        by_cases hc : x5 = 0
        · rw [if_pos hc] at hf ⊢
          refine msegT C kX4_readTerm 17 2 (g := (true, 36, [.ref (1), .ref (28), .int v2, .int v3, .retAddr 0], [.int (37 : Int32), .ref (1)], mk b S4)) rfl rfl ?_
          obtain ⟨x7, S6, hq, hf⟩ := bndC_ex hf
          refine mcall (kd := 0) (vs := [.ref (1), .int (37 : Int32)]) (rest := []) (r := (some (.int x7))) (h' := mk b S6) (ok' := true) C lkRX4_135 (qX4_isSign hq) (kX4_readTerm _ (List.mem_of_getElem? (i := 19) rfl)).1 ⟨_, _, rfl, rfl, Nat.le_of_ble_eq_true rfl, _, _, rfl, rfl, rfl⟩ (by show 1 + 1 ≤ 8 + (d + 1); omega) (by show 19 + 2 + 100 * (1) ≤ 100 * (8 + (d + 1)); omega) (Nat.le_refl _) (Nat.le_refl _) (Nat.le_of_ble_eq_true rfl) ?_
          refine msegT C kX4_readTerm 20 1 (g := (true, (if x7 = 0 then 74 else 42), [.ref (1), .ref (28), .int v2, .int v3, .retAddr 0], [], mk b S6)) rfl rfl ?_
          by_cases hc : x7 = 0
          · rw [if_pos hc] at hf ⊢
            exact mfor (L' := [.retAddr 0, .retAddr 0, .retAddr 0, .retAddr 0, .retAddr 0]) ⟨Or.inl rfl, Or.inl rfl, Or.inl rfl, Or.inl rfl, Or.inl rfl, trivial⟩ (bX4_readTerm_74_28 C hr hk Hs0 Hs1 Hs2 Hs3 Hs4 Hs5 hf true)
          · rw [if_neg hc] at hf ⊢
            exact mfor (L' := [.ref (1), .ref (28), .int v2, .int v3, .retAddr 0]) ⟨Or.inr rfl, Or.inr rfl, Or.inr rfl, Or.inr rfl, Or.inl rfl, trivial⟩ (bX4_readTerm_42_28 C hr hk Hs0 Hs1 Hs2 Hs3 Hs4 Hs5 ih hf true)
        · rw [if_neg hc] at hf ⊢
          exact mfor (L' := [.ref (1), .ref (28), .int v2, .int v3, .retAddr 0]) ⟨Or.inr rfl, Or.inr rfl, Or.inr rfl, Or.inr rfl, Or.inl rfl, trivial⟩ (bX4_readTerm_42_28 C hr hk Hs0 Hs1 Hs2 Hs3 Hs4 Hs5 ih hf true)
      · rw [if_neg hc] at hf ⊢
        exact mfor (L' := [.ref (1), .ref (28), .int v2, .int v3, .retAddr 0]) ⟨Or.inr rfl, Or.inr rfl, Or.inr rfl, Or.inr rfl, Or.inl rfl, trivial⟩ (bX4_readTerm_42_28 C hr hk Hs0 Hs1 Hs2 Hs3 Hs4 Hs5 ih hf true)
theorem bX4_readTerm_0_28 {d : Nat} (C : mCx p (mR (8 + (d + 1))) s m args meth c G cX4_readTerm RX4 5 false 233 54500 233 54500) (hr : meth.sig.returnType = none) (hk : meth.locks = false) {b : Bool} {self : Nat → Nat → Int32 → mT → Option (mT)} (Hs0 : ∀ {v2 : Int32} {S S' : mT}, self 0 28 v2 S = some S' → mOk l mX4_readEither (8 + d) [.ref 1, .ref 28, .int v2] b S none S') (Hs1 : ∀ {v2 : Int32} {S S' : mT}, self 1 28 v2 S = some S' → mOk l mX4_readBoth (8 + d) [.ref 1, .ref 28, .int v2] b S none S') (Hs2 : ∀ {v2 : Int32} {S S' : mT}, self 2 28 v2 S = some S' → mOk l mX4_readOne (8 + d) [.ref 1, .ref 28, .int v2] b S none S') (Hs3 : ∀ {v2 : Int32} {S S' : mT}, self 3 28 v2 S = some S' → mOk l mX4_readSum (8 + d) [.ref 1, .ref 28, .int v2] b S none S') (Hs4 : ∀ {v2 : Int32} {S S' : mT}, self 4 28 v2 S = some S' → mOk l mX4_readTerm (8 + d) [.ref 1, .ref 28, .int v2] b S none S') (Hs5 : ∀ {v2 : Int32} {S S' : mT}, self 5 28 v2 S = some S' → mOk l mX4_readUnit (8 + d) [.ref 1, .ref 28, .int v2] b S none S') {S' : mT} {v2 : Int32} {S : mT} (hf : fX4_readTerm_0 28 self v2 S = some S') (ok : Bool) : mW p l e (mR (8 + (d + 1))) s m args below meth c G 5 233 54500 (mQ below G args s b S' none) (ok, 0, [.ref (1), .ref (28), .int v2, .retAddr 0, .retAddr 0], [], mk b S) := by
  unfold fX4_readTerm_0 at hf
  refine msegT C kX4_readTerm 0 3 (g := (true, 3, [.ref (1), .ref (28), .int v2, .retAddr 0, .retAddr 0], [.int v2, .ref (28), .ref (1)], mk b S)) rfl rfl ?_
  obtain ⟨S1, hq, hf⟩ := bndV_ex hf
  refine mcall (kd := 0) (vs := [.ref (1), .ref (28), .int v2]) (rest := []) (r := none) (h' := mk b S1) (ok' := true) C lkRX4_146 (Hs5 hq) (kX4_readTerm _ (List.mem_of_getElem? (i := 3) rfl)).1 ⟨_, _, rfl, rfl, Nat.le_of_ble_eq_true rfl, _, _, rfl, rfl, rfl⟩ (by show 8 + d + 1 ≤ 8 + (d + 1); omega) (by show 19 + 4 + 100 * (8 + d) ≤ 100 * (8 + (d + 1)); omega) (Nat.le_refl _) (Nat.le_refl _) (Nat.le_of_ble_eq_true rfl) ?_
  refine msegT C kX4_readTerm 4 2 (g := (true, 8, [.ref (1), .ref (28), .int v2, .int (0 : Int32), .retAddr 0], [], mk b S1)) rfl rfl ?_
  exact mfor (L' := [.ref (1), .ref (28), .int v2, .int (0 : Int32), .retAddr 0]) ⟨Or.inr rfl, Or.inr rfl, Or.inr rfl, Or.inr rfl, Or.inl rfl, trivial⟩ (bX4_readTerm_8_28 C hr hk Hs0 Hs1 Hs2 Hs3 Hs4 Hs5 _ _ _ _ hf true)
theorem bX4_readTerm_42_31 {d : Nat} (C : mCx p (mR (8 + (d + 1))) s m args meth c G cX4_readTerm RX4 5 false 233 54500 233 54500) (hr : meth.sig.returnType = none) (hk : meth.locks = false) {b : Bool} {self : Nat → Nat → Int32 → mT → Option (mT)} (Hs0 : ∀ {v2 : Int32} {S S' : mT}, self 0 31 v2 S = some S' → mOk l mX4_readEither (8 + d) [.ref 1, .ref 31, .int v2] b S none S') (Hs1 : ∀ {v2 : Int32} {S S' : mT}, self 1 31 v2 S = some S' → mOk l mX4_readBoth (8 + d) [.ref 1, .ref 31, .int v2] b S none S') (Hs2 : ∀ {v2 : Int32} {S S' : mT}, self 2 31 v2 S = some S' → mOk l mX4_readOne (8 + d) [.ref 1, .ref 31, .int v2] b S none S') (Hs3 : ∀ {v2 : Int32} {S S' : mT}, self 3 31 v2 S = some S' → mOk l mX4_readSum (8 + d) [.ref 1, .ref 31, .int v2] b S none S') (Hs4 : ∀ {v2 : Int32} {S S' : mT}, self 4 31 v2 S = some S' → mOk l mX4_readTerm (8 + d) [.ref 1, .ref 31, .int v2] b S none S') (Hs5 : ∀ {v2 : Int32} {S S' : mT}, self 5 31 v2 S = some S' → mOk l mX4_readUnit (8 + d) [.ref 1, .ref 31, .int v2] b S none S') {S' : mT} {rc8 : Int32 → Int32 → mT → Option (mT)} (Hrc8 : ∀ (v2 : Int32) (v3 : Int32) (S : mT), rc8 v2 v3 S = some S' → ∀ ok : Bool, mW p l e (mR (8 + (d + 1))) s m args below meth c G 5 233 54500 (mQ below G args s b S' none) (ok, 8, [.ref (1), .ref (31), .int v2, .int v3, .retAddr 0], [], mk b S)) {v2 : Int32} {v3 : Int32} {S : mT} (hf : fX4_readTerm_42 31 self rc8 v2 v3 S = some S') (ok : Bool) : mW p l e (mR (8 + (d + 1))) s m args below meth c G 5 233 54500 (mQ below G args s b S' none) (ok, 42, [.ref (1), .ref (31), .int v2, .int v3, .retAddr 0], [], mk b S) := by
  unfold fX4_readTerm_42 at hf
  obtain ⟨hok, hf⟩ := grd_ex hf
  refine msegT C kX4_readTerm 21 3 (g := ((kO 1 4 && true), 48, [.ref (1), .ref (31), .int v2, .int v3, .int (S.1 1 9)], [], mk b S)) rfl hok ?_
  obtain ⟨x8, ex8, hf⟩ := bnd_ex hf
  rw [← ex8]
  refine msegT C kX4_readTerm 24 1 (g := (true, 49, [.ref (1), .ref (31), .int v2, .int v3, .int x8], [.ref (1)], mk b S)) rfl rfl ?_
  obtain ⟨S9, hq, hf⟩ := bndV_ex hf
  refine mcall (kd := 0) (vs := [.ref (1)]) (rest := []) (r := none) (h' := mk b S9) (ok' := true) C lkRX4_30 (qX4_advance hq) (kX4_readTerm _ (List.mem_of_getElem? (i := 25) rfl)).1 ⟨_, _, rfl, rfl, Nat.le_of_ble_eq_true rfl, _, _, rfl, rfl, rfl⟩ (by show 3 + 1 ≤ 8 + (d + 1); omega) (by show 19 + 1 + 100 * (3) ≤ 100 * (8 + (d + 1)); omega) (Nat.le_refl _) (Nat.le_refl _) (Nat.le_of_ble_eq_true rfl) ?_
  refine msegT C kX4_readTerm 26 3 (g := (true, 55, [.ref (1), .ref (31), .int v2, .int v3, .int x8], [.int v2, .ref (31), .ref (1)], mk b S9)) rfl rfl ?_
  obtain ⟨S10, hq, hf⟩ := bndV_ex hf
  refine mcall (kd := 0) (vs := [.ref (1), .ref (31), .int v2]) (rest := []) (r := none) (h' := mk b S10) (ok' := true) C lkRX4_146 (Hs5 hq) (kX4_readTerm _ (List.mem_of_getElem? (i := 29) rfl)).1 ⟨_, _, rfl, rfl, Nat.le_of_ble_eq_true rfl, _, _, rfl, rfl, rfl⟩ (by show 8 + d + 1 ≤ 8 + (d + 1); omega) (by show 19 + 4 + 100 * (8 + d) ≤ 100 * (8 + (d + 1)); omega) (Nat.le_refl _) (Nat.le_refl _) (Nat.le_of_ble_eq_true rfl) ?_
  refine msegT C kX4_readTerm 30 4 (g := (true, 65, [.ref (1), .ref (31), .int v2, .int v3, .int x8], [.int ((20000 : Int32) + x8), .ref (31)], mk b S10)) rfl rfl ?_
  obtain ⟨S11, hq, hf⟩ := bndV_ex hf
  refine mcall (kd := 0) (vs := [.ref (31), .int ((20000 : Int32) + x8)]) (rest := []) (r := none) (h' := mk b S11) (ok' := true) C lkRX4_122 (qX0_add_31 hq) (kX4_readTerm _ (List.mem_of_getElem? (i := 34) rfl)).1 ⟨_, _, rfl, rfl, Nat.le_of_ble_eq_true rfl, _, _, rfl, rfl, rfl⟩ (by show 1 + 1 ≤ 8 + (d + 1); omega) (by show 19 + 2 + 100 * (1) ≤ 100 * (8 + (d + 1)); omega) (Nat.le_refl _) (Nat.le_refl _) (Nat.le_of_ble_eq_true rfl) ?_
  refine msegT C kX4_readTerm 35 1 (g := (true, 71, [.ref (1), .ref (31), .int v2, .int (v3 + (1 : Int32)), .int x8], [], mk b S11)) rfl rfl ?_
  obtain ⟨x12, ex12, hf⟩ := bnd_ex hf
  rw [← ex12]
  refine msegT C kX4_readTerm 36 1 (g := (true, 8, [.ref (1), .ref (31), .int v2, .int x12, .int x8], [], mk b S11)) rfl rfl ?_
  exact mfor (L' := [.ref (1), .ref (31), .int v2, .int x12, .retAddr 0]) ⟨Or.inr rfl, Or.inr rfl, Or.inr rfl, Or.inr rfl, Or.inl rfl, trivial⟩ (Hrc8 _ _ _ hf true)
theorem bX4_readTerm_74_31 {d : Nat} (C : mCx p (mR (8 + (d + 1))) s m args meth c G cX4_readTerm RX4 5 false 233 54500 233 54500) (hr : meth.sig.returnType = none) (hk : meth.locks = false) {b : Bool} {self : Nat → Nat → Int32 → mT → Option (mT)} (Hs0 : ∀ {v2 : Int32} {S S' : mT}, self 0 31 v2 S = some S' → mOk l mX4_readEither (8 + d) [.ref 1, .ref 31, .int v2] b S none S') (Hs1 : ∀ {v2 : Int32} {S S' : mT}, self 1 31 v2 S = some S' → mOk l mX4_readBoth (8 + d) [.ref 1, .ref 31, .int v2] b S none S') (Hs2 : ∀ {v2 : Int32} {S S' : mT}, self 2 31 v2 S = some S' → mOk l mX4_readOne (8 + d) [.ref 1, .ref 31, .int v2] b S none S') (Hs3 : ∀ {v2 : Int32} {S S' : mT}, self 3 31 v2 S = some S' → mOk l mX4_readSum (8 + d) [.ref 1, .ref 31, .int v2] b S none S') (Hs4 : ∀ {v2 : Int32} {S S' : mT}, self 4 31 v2 S = some S' → mOk l mX4_readTerm (8 + d) [.ref 1, .ref 31, .int v2] b S none S') (Hs5 : ∀ {v2 : Int32} {S S' : mT}, self 5 31 v2 S = some S' → mOk l mX4_readUnit (8 + d) [.ref 1, .ref 31, .int v2] b S none S') {S' : mT} {S : mT} (hf : fX4_readTerm_74 31 self S = some S') (ok : Bool) : mW p l e (mR (8 + (d + 1))) s m args below meth c G 5 233 54500 (mQ below G args s b S' none) (ok, 74, [.retAddr 0, .retAddr 0, .retAddr 0, .retAddr 0, .retAddr 0], [], mk b S) := by
  unfold fX4_readTerm_74 at hf
  cases hf
  exact gret_v C hr hk (kX4_readTerm _ (List.mem_of_getElem? (i := 37) rfl)).1
theorem bX4_readTerm_8_31 {d : Nat} (C : mCx p (mR (8 + (d + 1))) s m args meth c G cX4_readTerm RX4 5 false 233 54500 233 54500) (hr : meth.sig.returnType = none) (hk : meth.locks = false) {b : Bool} {self : Nat → Nat → Int32 → mT → Option (mT)} (Hs0 : ∀ {v2 : Int32} {S S' : mT}, self 0 31 v2 S = some S' → mOk l mX4_readEither (8 + d) [.ref 1, .ref 31, .int v2] b S none S') (Hs1 : ∀ {v2 : Int32} {S S' : mT}, self 1 31 v2 S = some S' → mOk l mX4_readBoth (8 + d) [.ref 1, .ref 31, .int v2] b S none S') (Hs2 : ∀ {v2 : Int32} {S S' : mT}, self 2 31 v2 S = some S' → mOk l mX4_readOne (8 + d) [.ref 1, .ref 31, .int v2] b S none S') (Hs3 : ∀ {v2 : Int32} {S S' : mT}, self 3 31 v2 S = some S' → mOk l mX4_readSum (8 + d) [.ref 1, .ref 31, .int v2] b S none S') (Hs4 : ∀ {v2 : Int32} {S S' : mT}, self 4 31 v2 S = some S' → mOk l mX4_readTerm (8 + d) [.ref 1, .ref 31, .int v2] b S none S') (Hs5 : ∀ {v2 : Int32} {S S' : mT}, self 5 31 v2 S = some S' → mOk l mX4_readUnit (8 + d) [.ref 1, .ref 31, .int v2] b S none S') {S' : mT} : ∀ (k : Nat) (v2 : Int32) (v3 : Int32) (S : mT), fX4_readTerm_8 31 self k v2 v3 S = some S' → ∀ ok : Bool, mW p l e (mR (8 + (d + 1))) s m args below meth c G 5 233 54500 (mQ below G args s b S' none) (ok, 8, [.ref (1), .ref (31), .int v2, .int v3, .retAddr 0], [], mk b S) := by
  intro k
  induction k with
  | zero =>
    intro v2 v3 S hf ok
    cases hf
  | succ k ih =>
    intro v2 v3 S hf ok
    unfold fX4_readTerm_8 at hf
    refine msegT C kX4_readTerm 6 3 (g := (true, (if (1600 : Int32) ≤ v3 then 74 else 15), [.ref (1), .ref (31), .int v2, .int v3, .retAddr 0], [], mk b S)) rfl rfl ?_
    by_cases hc : (1600 : Int32) ≤ v3
    · rw [if_pos hc] at hf ⊢
      exact mfor (L' := [.retAddr 0, .retAddr 0, .retAddr 0, .retAddr 0, .retAddr 0]) ⟨Or.inl rfl, Or.inl rfl, Or.inl rfl, Or.inl rfl, Or.inl rfl, trivial⟩ (bX4_readTerm_74_31 C hr hk Hs0 Hs1 Hs2 Hs3 Hs4 Hs5 hf true)
    · rw [if_neg hc] at hf ⊢
      refine msegT C kX4_readTerm 9 2 (g := (true, 18, [.ref (1), .ref (31), .int v2, .int v3, .retAddr 0], [.int (42 : Int32), .ref (1)], mk b S)) rfl rfl ?_
      obtain ⟨x3, S2, hq, hf⟩ := bndC_ex hf
      refine mcall (kd := 0) (vs := [.ref (1), .int (42 : Int32)]) (rest := []) (r := (some (.int x3))) (h' := mk b S2) (ok' := true) C lkRX4_135 (qX4_isSign hq) (kX4_readTerm _ (List.mem_of_getElem? (i := 11) rfl)).1 ⟨_, _, rfl, rfl, Nat.le_of_ble_eq_true rfl, _, _, rfl, rfl, rfl⟩ (by show 1 + 1 ≤ 8 + (d + 1); omega) (by show 19 + 2 + 100 * (1) ≤ 100 * (8 + (d + 1)); omega) (Nat.le_refl _) (Nat.le_refl _) (Nat.le_of_ble_eq_true rfl) ?_
      refine msegT C kX4_readTerm 12 1 (g := (true, (if x3 = 0 then 24 else 42), [.ref (1), .ref (31), .int v2, .int v3, .retAddr 0], [], mk b S2)) rfl rfl ?_
      by_cases hc : x3 = 0
      · rw [if_pos hc] at hf ⊢
        refine msegT C kX4_readTerm 13 2 (g := (true, 27, [.ref (1), .ref (31), .int v2, .int v3, .retAddr 0], [.int (47 : Int32), .ref (1)], mk b S2)) rfl rfl ?_
        obtain ⟨x5, S4, hq, hf⟩ := bndC_ex hf
        refine mcall (kd := 0) (vs := [.ref (1), .int (47 : Int32)]) (rest := []) (r := (some (.int x5))) (h' := mk b S4) (ok' := true) C lkRX4_135 (qX4_isSign hq) (kX4_readTerm _ (List.mem_of_getElem? (i := 15) rfl)).1 ⟨_, _, rfl, rfl, Nat.le_of_ble_eq_true rfl, _, _, rfl, rfl, rfl⟩ (by show 1 + 1 ≤ 8 + (d + 1); omega) (by show 19 + 2 + 100 * (1) ≤ 100 * (8 + (d + 1)); omega) (Nat.le_refl _) (Nat.le_refl _) (Nat.le_of_ble_eq_true rfl) ?_
        refine msegT C kX4_readTerm 16 1 (g := (true, (if x5 = 0 then 33 else 42), [.ref (1), .ref (31), .int v2, .int v3, .retAddr 0], [], mk b S4)) rfl rfl ?_
        by_cases hc : x5 = 0
        · rw [if_pos hc] at hf ⊢
          refine msegT C kX4_readTerm 17 2 (g := (true, 36, [.ref (1), .ref (31), .int v2, .int v3, .retAddr 0], [.int (37 : Int32), .ref (1)], mk b S4)) rfl rfl ?_
          obtain ⟨x7, S6, hq, hf⟩ := bndC_ex hf
          refine mcall (kd := 0) (vs := [.ref (1), .int (37 : Int32)]) (rest := []) (r := (some (.int x7))) (h' := mk b S6) (ok' := true) C lkRX4_135 (qX4_isSign hq) (kX4_readTerm _ (List.mem_of_getElem? (i := 19) rfl)).1 ⟨_, _, rfl, rfl, Nat.le_of_ble_eq_true rfl, _, _, rfl, rfl, rfl⟩ (by show 1 + 1 ≤ 8 + (d + 1); omega) (by show 19 + 2 + 100 * (1) ≤ 100 * (8 + (d + 1)); omega) (Nat.le_refl _) (Nat.le_refl _) (Nat.le_of_ble_eq_true rfl) ?_
          refine msegT C kX4_readTerm 20 1 (g := (true, (if x7 = 0 then 74 else 42), [.ref (1), .ref (31), .int v2, .int v3, .retAddr 0], [], mk b S6)) rfl rfl ?_
          by_cases hc : x7 = 0
          · rw [if_pos hc] at hf ⊢
            exact mfor (L' := [.retAddr 0, .retAddr 0, .retAddr 0, .retAddr 0, .retAddr 0]) ⟨Or.inl rfl, Or.inl rfl, Or.inl rfl, Or.inl rfl, Or.inl rfl, trivial⟩ (bX4_readTerm_74_31 C hr hk Hs0 Hs1 Hs2 Hs3 Hs4 Hs5 hf true)
          · rw [if_neg hc] at hf ⊢
            exact mfor (L' := [.ref (1), .ref (31), .int v2, .int v3, .retAddr 0]) ⟨Or.inr rfl, Or.inr rfl, Or.inr rfl, Or.inr rfl, Or.inl rfl, trivial⟩ (bX4_readTerm_42_31 C hr hk Hs0 Hs1 Hs2 Hs3 Hs4 Hs5 ih hf true)
        · rw [if_neg hc] at hf ⊢
          exact mfor (L' := [.ref (1), .ref (31), .int v2, .int v3, .retAddr 0]) ⟨Or.inr rfl, Or.inr rfl, Or.inr rfl, Or.inr rfl, Or.inl rfl, trivial⟩ (bX4_readTerm_42_31 C hr hk Hs0 Hs1 Hs2 Hs3 Hs4 Hs5 ih hf true)
      · rw [if_neg hc] at hf ⊢
        exact mfor (L' := [.ref (1), .ref (31), .int v2, .int v3, .retAddr 0]) ⟨Or.inr rfl, Or.inr rfl, Or.inr rfl, Or.inr rfl, Or.inl rfl, trivial⟩ (bX4_readTerm_42_31 C hr hk Hs0 Hs1 Hs2 Hs3 Hs4 Hs5 ih hf true)
theorem bX4_readTerm_0_31 {d : Nat} (C : mCx p (mR (8 + (d + 1))) s m args meth c G cX4_readTerm RX4 5 false 233 54500 233 54500) (hr : meth.sig.returnType = none) (hk : meth.locks = false) {b : Bool} {self : Nat → Nat → Int32 → mT → Option (mT)} (Hs0 : ∀ {v2 : Int32} {S S' : mT}, self 0 31 v2 S = some S' → mOk l mX4_readEither (8 + d) [.ref 1, .ref 31, .int v2] b S none S') (Hs1 : ∀ {v2 : Int32} {S S' : mT}, self 1 31 v2 S = some S' → mOk l mX4_readBoth (8 + d) [.ref 1, .ref 31, .int v2] b S none S') (Hs2 : ∀ {v2 : Int32} {S S' : mT}, self 2 31 v2 S = some S' → mOk l mX4_readOne (8 + d) [.ref 1, .ref 31, .int v2] b S none S') (Hs3 : ∀ {v2 : Int32} {S S' : mT}, self 3 31 v2 S = some S' → mOk l mX4_readSum (8 + d) [.ref 1, .ref 31, .int v2] b S none S') (Hs4 : ∀ {v2 : Int32} {S S' : mT}, self 4 31 v2 S = some S' → mOk l mX4_readTerm (8 + d) [.ref 1, .ref 31, .int v2] b S none S') (Hs5 : ∀ {v2 : Int32} {S S' : mT}, self 5 31 v2 S = some S' → mOk l mX4_readUnit (8 + d) [.ref 1, .ref 31, .int v2] b S none S') {S' : mT} {v2 : Int32} {S : mT} (hf : fX4_readTerm_0 31 self v2 S = some S') (ok : Bool) : mW p l e (mR (8 + (d + 1))) s m args below meth c G 5 233 54500 (mQ below G args s b S' none) (ok, 0, [.ref (1), .ref (31), .int v2, .retAddr 0, .retAddr 0], [], mk b S) := by
  unfold fX4_readTerm_0 at hf
  refine msegT C kX4_readTerm 0 3 (g := (true, 3, [.ref (1), .ref (31), .int v2, .retAddr 0, .retAddr 0], [.int v2, .ref (31), .ref (1)], mk b S)) rfl rfl ?_
  obtain ⟨S1, hq, hf⟩ := bndV_ex hf
  refine mcall (kd := 0) (vs := [.ref (1), .ref (31), .int v2]) (rest := []) (r := none) (h' := mk b S1) (ok' := true) C lkRX4_146 (Hs5 hq) (kX4_readTerm _ (List.mem_of_getElem? (i := 3) rfl)).1 ⟨_, _, rfl, rfl, Nat.le_of_ble_eq_true rfl, _, _, rfl, rfl, rfl⟩ (by show 8 + d + 1 ≤ 8 + (d + 1); omega) (by show 19 + 4 + 100 * (8 + d) ≤ 100 * (8 + (d + 1)); omega) (Nat.le_refl _) (Nat.le_refl _) (Nat.le_of_ble_eq_true rfl) ?_
  refine msegT C kX4_readTerm 4 2 (g := (true, 8, [.ref (1), .ref (31), .int v2, .int (0 : Int32), .retAddr 0], [], mk b S1)) rfl rfl ?_
  exact mfor (L' := [.ref (1), .ref (31), .int v2, .int (0 : Int32), .retAddr 0]) ⟨Or.inr rfl, Or.inr rfl, Or.inr rfl, Or.inr rfl, Or.inl rfl, trivial⟩ (bX4_readTerm_8_31 C hr hk Hs0 Hs1 Hs2 Hs3 Hs4 Hs5 _ _ _ _ hf true)
end GP
