section GP
variable {p : Program} {l : Launch} {e : Env} {s : State} {m : MethodId} {args : Array Value} {below : List Frame} {meth : Method} {c : Code} {G : mG}
theorem bX11_house_164_f (C : mCx p (mR 5) s m args meth c G cX11_house RX11 3 false 233 54500 233 54500) (hr : meth.sig.returnType = (some .int)) (hk : meth.locks = false) {S' : mT} {r : Int32} {s0 : Int32} {S : mT} (hf : fX11_house_164 false s0 S = some (r, S')) (ok : Bool) : mW p l e (mR 5) s m args below meth c G 3 233 54500 (mQ below G args s false S' (some (.int r))) (ok, 164, [.retAddr 0, .retAddr 0, .retAddr 0], [.int s0], mk false S) := by
  unfold fX11_house_164 at hf
  cases hf
  exact gret_i C hr hk (kX11_house _ (List.mem_of_getElem? (i := 69) rfl)).1
theorem bX11_house_0_f (C : mCx p (mR 5) s m args meth c G cX11_house RX11 3 false 233 54500 233 54500) (hr : meth.sig.returnType = (some .int)) (hk : meth.locks = false) {S' : mT} {r : Int32} {v1 : Int32} {v2 : Int32} {S : mT} (hf : fX11_house false v1 v2 S = some (r, S')) (ok : Bool) : mW p l e (mR 5) s m args below meth c G 3 233 54500 (mQ below G args s false S' (some (.int r))) (ok, 0, [.ref (0), .int v1, .int v2], [], mk false S) := by
  unfold fX11_house at hf
  refine msegT C kX11_house 0 2 (g := (true, 2, [.ref (0), .int v1, .int v2], [.int v1, .ref (0)], mk false S)) rfl rfl ?_
  obtain ⟨x2, S1, hq, hf⟩ := bndC_ex hf
  refine mcall (kd := 0) (vs := [.ref (0), .int v1]) (rest := []) (r := (some (.int x2))) (h' := mk false S1) (ok' := true) C lkRX11_124 (qX11_isHouse_f hq) (kX11_house _ (List.mem_of_getElem? (i := 2) rfl)).1 ⟨_, _, rfl, rfl, Nat.le_of_ble_eq_true rfl, _, _, rfl, rfl, rfl⟩ (Nat.le_of_ble_eq_true rfl) (Nat.le_of_ble_eq_true rfl) (Nat.le_refl _) (Nat.le_refl _) (Nat.le_of_ble_eq_true rfl) ?_
  refine msegT C kX11_house 3 1 (g := (true, (if x2 = 0 then 8 else 10), [.ref (0), .int v1, .int v2], [], mk false S1)) rfl rfl ?_
  by_cases hc : x2 = 0
  · rw [if_pos hc] at hf ⊢
    refine msegT C kX11_house 4 1 (g := (true, 9, [.ref (0), .int v1, .int v2], [.int (-1 : Int32)], mk false S1)) rfl rfl ?_
    cases hf
    exact gret_i C hr hk (kX11_house _ (List.mem_of_getElem? (i := 5) rfl)).1
  · rw [if_neg hc] at hf ⊢
    refine msegT C kX11_house 6 2 (g := (true, (if v2 = (0 : Int32) then 64 else (if v2 = (1 : Int32) then 74 else (if v2 = (2 : Int32) then 83 else (if v2 = (3 : Int32) then 92 else (if v2 = (4 : Int32) then 102 else (if v2 = (5 : Int32) then 112 else (if v2 = (6 : Int32) then 122 else (if v2 = (7 : Int32) then 135 else (if v2 = (8 : Int32) then 165 else (if v2 = (9 : Int32) then 190 else 218)))))))))), [.ref (0), .int v1, .int v2], [], mk false S1)) rfl rfl ?_
    by_cases hc : v2 = (0 : Int32)
    · rw [if_pos hc] at hf ⊢
      obtain ⟨hok, hf⟩ := grd_ex hf
      refine msegT C kX11_house 8 5 (g := ((kI ((shU false) + 2) v1 && (kO (shU false) 8 && (kO 0 11 && true))), 73, [.ref (0), .int v1, .int v2], [.int (S1.1 ((shU false) + 2) (mIx v1))], mk false S1)) rfl hok ?_
      cases hf
      exact gret_i C hr hk (kX11_house _ (List.mem_of_getElem? (i := 13) rfl)).1
    · rw [if_neg hc] at hf ⊢
      by_cases hc : v2 = (1 : Int32)
      · rw [if_pos hc] at hf ⊢
        obtain ⟨hok, hf⟩ := grd_ex hf
        refine msegT C kX11_house 14 6 (g := ((kI 35 ((0 : Int32) + v1) && (kO 0 11 && true)), 82, [.ref (0), .int v1, .int v2], [.int (S1.1 35 (mIx ((0 : Int32) + v1)))], mk false S1)) rfl hok ?_
        cases hf
        exact gret_i C hr hk (kX11_house _ (List.mem_of_getElem? (i := 20) rfl)).1
      · rw [if_neg hc] at hf ⊢
        by_cases hc : v2 = (2 : Int32)
        · rw [if_pos hc] at hf ⊢
          obtain ⟨hok, hf⟩ := grd_ex hf
          refine msegT C kX11_house 21 6 (g := ((kI 35 ((5 : Int32) + v1) && (kO 0 11 && true)), 91, [.ref (0), .int v1, .int v2], [.int (S1.1 35 (mIx ((5 : Int32) + v1)))], mk false S1)) rfl hok ?_
          cases hf
          exact gret_i C hr hk (kX11_house _ (List.mem_of_getElem? (i := 27) rfl)).1
        · rw [if_neg hc] at hf ⊢
          by_cases hc : v2 = (3 : Int32)
          · rw [if_pos hc] at hf ⊢
            obtain ⟨hok, hf⟩ := grd_ex hf
            refine msegT C kX11_house 28 6 (g := ((kI 35 ((10 : Int32) + v1) && (kO 0 11 && true)), 101, [.ref (0), .int v1, .int v2], [.int (S1.1 35 (mIx ((10 : Int32) + v1)))], mk false S1)) rfl hok ?_
            cases hf
            exact gret_i C hr hk (kX11_house _ (List.mem_of_getElem? (i := 34) rfl)).1
          · rw [if_neg hc] at hf ⊢
            by_cases hc : v2 = (4 : Int32)
            · rw [if_pos hc] at hf ⊢
              obtain ⟨hok, hf⟩ := grd_ex hf
              refine msegT C kX11_house 35 5 (g := ((kI ((shU false) + 4) v1 && (kO (shU false) 8 && (kO 0 11 && true))), 111, [.ref (0), .int v1, .int v2], [.int (S1.1 ((shU false) + 4) (mIx v1))], mk false S1)) rfl hok ?_
              cases hf
              exact gret_i C hr hk (kX11_house _ (List.mem_of_getElem? (i := 40) rfl)).1
            · rw [if_neg hc] at hf ⊢
              by_cases hc : v2 = (5 : Int32)
              · rw [if_pos hc] at hf ⊢
                obtain ⟨hok, hf⟩ := grd_ex hf
                refine msegT C kX11_house 41 5 (g := ((kI ((shU false) + 5) v1 && (kO (shU false) 8 && (kO 0 11 && true))), 121, [.ref (0), .int v1, .int v2], [.int (S1.1 ((shU false) + 5) (mIx v1))], mk false S1)) rfl hok ?_
                cases hf
                exact gret_i C hr hk (kX11_house _ (List.mem_of_getElem? (i := 46) rfl)).1
              · rw [if_neg hc] at hf ⊢
                by_cases hc : v2 = (6 : Int32)
                · rw [if_pos hc] at hf ⊢
                  obtain ⟨hok, hf⟩ := grd_ex hf
                  refine msegT C kX11_house 47 5 (g := ((kO 0 11 && (kO 0 11 && true)), 131, [.ref (0), .int v1, .int v2], [.int v1, .ref 35, .ref (shU false)], mk false S1)) rfl hok ?_
                  obtain ⟨x12, S11, hq, hf⟩ := bndC_ex hf
                  refine mcall (kd := 0) (vs := [.ref (shU false), .ref 35, .int v1]) (rest := []) (r := (some (.int x12))) (h' := mk false S11) (ok' := true) C lkRX11_137 (qX8_stonesOf_3 hq) (kX11_house _ (List.mem_of_getElem? (i := 52) rfl)).1 ⟨_, _, rfl, rfl, Nat.le_of_ble_eq_true rfl, _, _, rfl, rfl, rfl⟩ (Nat.le_of_ble_eq_true rfl) (Nat.le_of_ble_eq_true rfl) (Nat.le_refl _) (Nat.le_refl _) (Nat.le_of_ble_eq_true rfl) ?_
                  cases hf
                  exact gret_i C hr hk (kX11_house _ (List.mem_of_getElem? (i := 53) rfl)).1
                · rw [if_neg hc] at hf ⊢
                  by_cases hc : v2 = (7 : Int32)
                  · rw [if_pos hc] at hf ⊢
                    obtain ⟨hok, hf⟩ := grd_ex hf
                    refine msegT C kX11_house 54 5 (g := ((kO 0 11 && (kO 0 11 && true)), 144, [.ref (0), .int v1, .int v2], [.int v1, .ref 35, .ref (shU false)], mk false S1)) rfl hok ?_
                    obtain ⟨x10, S9, hq, hf⟩ := bndC_ex hf
                    refine mcall (kd := 0) (vs := [.ref (shU false), .ref 35, .int v1]) (rest := []) (r := (some (.int x10))) (h' := mk false S9) (ok' := true) C lkRX11_137 (qX8_stonesOf_3 hq) (kX11_house _ (List.mem_of_getElem? (i := 59) rfl)).1 ⟨_, _, rfl, rfl, Nat.le_of_ble_eq_true rfl, _, _, rfl, rfl, rfl⟩ (Nat.le_of_ble_eq_true rfl) (Nat.le_of_ble_eq_true rfl) (Nat.le_refl _) (Nat.le_refl _) (Nat.le_of_ble_eq_true rfl) ?_
                    obtain ⟨hok, hf⟩ := grd_ex hf
                    refine msegT C kX11_house 60 6 (g := ((kI ((shU false) + 4) v1 && (kO (shU false) 8 && (kO 0 11 && true))), (if (S9.1 ((shU false) + 4) (mIx v1)) ≤ x10 then 163 else 159), [.ref (0), .int v1, .int v2], [], mk false S9)) rfl hok ?_
                    by_cases hc : (S9.1 ((shU false) + 4) (mIx v1)) ≤ x10
                    · rw [if_pos hc] at hf ⊢
                      refine msegT C kX11_house 68 1 (g := (true, 164, [.ref (0), .int v1, .int v2], [.int (0 : Int32)], mk false S9)) rfl rfl ?_
                      exact mfor (L' := [.retAddr 0, .retAddr 0, .retAddr 0]) ⟨Or.inl rfl, Or.inl rfl, Or.inl rfl, trivial⟩ (bX11_house_164_f C hr hk hf true)
                    · rw [if_neg hc] at hf ⊢
                      refine msegT C kX11_house 66 2 (g := (true, 164, [.ref (0), .int v1, .int v2], [.int (1 : Int32)], mk false S9)) rfl rfl ?_
                      exact mfor (L' := [.retAddr 0, .retAddr 0, .retAddr 0]) ⟨Or.inl rfl, Or.inl rfl, Or.inl rfl, trivial⟩ (bX11_house_164_f C hr hk hf true)
                  · rw [if_neg hc] at hf ⊢
                    by_cases hc : v2 = (8 : Int32)
                    · rw [if_pos hc] at hf ⊢
                      obtain ⟨hok, hf⟩ := grd_ex hf
                      refine msegT C kX11_house 70 10 (g := ((kI 35 ((10 : Int32) + v1) && (kO 0 11 && (kO 0 11 && true))), 180, [.ref (0), .int v1, .int v2], [.ref (0), .int v1, .int (S1.1 35 (mIx ((10 : Int32) + v1))), .ref (shU false)], mk false S1)) rfl hok ?_
                      obtain ⟨hok, hf⟩ := grd_ex hf
                      refine msegT C kX11_house 80 3 (g := ((kI 35 (15 : Int32) && (kO 0 11 && true)), 186, [.ref (0), .int v1, .int v2], [.int (S1.1 35 (mIx (15 : Int32))), .int v1, .int (S1.1 35 (mIx ((10 : Int32) + v1))), .ref (shU false)], mk false S1)) rfl hok ?_
                      obtain ⟨x8, S7, hq, hf⟩ := bndC_ex hf
                      refine mcall (kd := 0) (vs := [.ref (shU false), .int (S1.1 35 (mIx ((10 : Int32) + v1))), .int v1, .int (S1.1 35 (mIx (15 : Int32)))]) (rest := []) (r := (some (.int x8))) (h' := mk false S7) (ok' := true) C lkRX11_141 (qX8_taxOf_3 hq) (kX11_house _ (List.mem_of_getElem? (i := 83) rfl)).1 ⟨_, _, rfl, rfl, Nat.le_of_ble_eq_true rfl, _, _, rfl, rfl, rfl⟩ (Nat.le_of_ble_eq_true rfl) (Nat.le_of_ble_eq_true rfl) (Nat.le_refl _) (Nat.le_refl _) (Nat.le_of_ble_eq_true rfl) ?_
                      cases hf
                      exact gret_i C hr hk (kX11_house _ (List.mem_of_getElem? (i := 84) rfl)).1
                    · rw [if_neg hc] at hf ⊢
                      by_cases hc : v2 = (9 : Int32)
                      · rw [if_pos hc] at hf ⊢
                        obtain ⟨hok, hf⟩ := grd_ex hf
                        refine msegT C kX11_house 85 7 (g := ((kO 0 11 && (kO 0 11 && (kO 0 11 && true))), 203, [.ref (0), .int v1, .int v2], [.int v1, .ref 35, .ref (shU false), .ref (shU false)], mk false S1)) rfl hok ?_
                        obtain ⟨x4, S3, hq, hf⟩ := bndC_ex hf
                        refine mcall (kd := 0) (vs := [.ref (shU false), .ref 35, .int v1]) (rest := [.ref (shU false)]) (r := (some (.int x4))) (h' := mk false S3) (ok' := true) C lkRX11_137 (qX8_stonesOf_3 hq) (kX11_house _ (List.mem_of_getElem? (i := 92) rfl)).1 ⟨_, _, rfl, rfl, Nat.le_of_ble_eq_true rfl, _, _, rfl, rfl, rfl⟩ (Nat.le_of_ble_eq_true rfl) (Nat.le_of_ble_eq_true rfl) (Nat.le_refl _) (Nat.le_refl _) (Nat.le_of_ble_eq_true rfl) ?_
                        obtain ⟨hok, hf⟩ := grd_ex hf
                        refine msegT C kX11_house 93 5 (g := ((kI 35 (15 : Int32) && (kO 0 11 && true)), 214, [.ref (0), .int v1, .int v2], [.int (S3.1 35 (mIx (15 : Int32))), .int v1, .int x4, .ref (shU false)], mk false S3)) rfl hok ?_
                        obtain ⟨x6, S5, hq, hf⟩ := bndC_ex hf
                        refine mcall (kd := 0) (vs := [.ref (shU false), .int x4, .int v1, .int (S3.1 35 (mIx (15 : Int32)))]) (rest := []) (r := (some (.int x6))) (h' := mk false S5) (ok' := true) C lkRX11_141 (qX8_taxOf_3 hq) (kX11_house _ (List.mem_of_getElem? (i := 98) rfl)).1 ⟨_, _, rfl, rfl, Nat.le_of_ble_eq_true rfl, _, _, rfl, rfl, rfl⟩ (Nat.le_of_ble_eq_true rfl) (Nat.le_of_ble_eq_true rfl) (Nat.le_refl _) (Nat.le_refl _) (Nat.le_of_ble_eq_true rfl) ?_
                        cases hf
                        exact gret_i C hr hk (kX11_house _ (List.mem_of_getElem? (i := 99) rfl)).1
                      · rw [if_neg hc] at hf ⊢
                        refine msegT C kX11_house 100 1 (g := (true, 219, [.ref (0), .int v1, .int v2], [.int (-1 : Int32)], mk false S1)) rfl rfl ?_
                        cases hf
                        exact gret_i C hr hk (kX11_house _ (List.mem_of_getElem? (i := 101) rfl)).1
theorem qX11_house_f {v1 : Int32} {v2 : Int32} {S S' : mT} {r : Int32} (hf : fX11_house false v1 v2 S = some (r, S')) : mOk l mX11_house 5 [.ref (0), .int v1, .int v2] false S (some (.int r)) S' :=
  gMet (by decide) (Nat.le_of_ble_eq_true rfl) rfl (Nat.le_of_ble_eq_true rfl) (fun p e s m args below meth c G C hr hk => bX11_house_0_f C hr hk hf true)
theorem bX11_house_164_t (C : mCx p (mR 5) s m args meth c G cX11_house RX11 3 false 233 54500 233 54500) (hr : meth.sig.returnType = (some .int)) (hk : meth.locks = false) {S' : mT} {r : Int32} {s0 : Int32} {S : mT} (hf : fX11_house_164 true s0 S = some (r, S')) (ok : Bool) : mW p l e (mR 5) s m args below meth c G 3 233 54500 (mQ below G args s true S' (some (.int r))) (ok, 164, [.retAddr 0, .retAddr 0, .retAddr 0], [.int s0], mk true S) := by
  unfold fX11_house_164 at hf
  cases hf
  exact gret_i C hr hk (kX11_house _ (List.mem_of_getElem? (i := 69) rfl)).1
theorem bX11_house_0_t (C : mCx p (mR 5) s m args meth c G cX11_house RX11 3 false 233 54500 233 54500) (hr : meth.sig.returnType = (some .int)) (hk : meth.locks = false) {S' : mT} {r : Int32} {v1 : Int32} {v2 : Int32} {S : mT} (hf : fX11_house true v1 v2 S = some (r, S')) (ok : Bool) : mW p l e (mR 5) s m args below meth c G 3 233 54500 (mQ below G args s true S' (some (.int r))) (ok, 0, [.ref (0), .int v1, .int v2], [], mk true S) := by
  unfold fX11_house at hf
  refine msegT C kX11_house 0 2 (g := (true, 2, [.ref (0), .int v1, .int v2], [.int v1, .ref (0)], mk true S)) rfl rfl ?_
  obtain ⟨x2, S1, hq, hf⟩ := bndC_ex hf
  refine mcall (kd := 0) (vs := [.ref (0), .int v1]) (rest := []) (r := (some (.int x2))) (h' := mk true S1) (ok' := true) C lkRX11_124 (qX11_isHouse_t hq) (kX11_house _ (List.mem_of_getElem? (i := 2) rfl)).1 ⟨_, _, rfl, rfl, Nat.le_of_ble_eq_true rfl, _, _, rfl, rfl, rfl⟩ (Nat.le_of_ble_eq_true rfl) (Nat.le_of_ble_eq_true rfl) (Nat.le_refl _) (Nat.le_refl _) (Nat.le_of_ble_eq_true rfl) ?_
  refine msegT C kX11_house 3 1 (g := (true, (if x2 = 0 then 8 else 10), [.ref (0), .int v1, .int v2], [], mk true S1)) rfl rfl ?_
  by_cases hc : x2 = 0
  · rw [if_pos hc] at hf ⊢
    refine msegT C kX11_house 4 1 (g := (true, 9, [.ref (0), .int v1, .int v2], [.int (-1 : Int32)], mk true S1)) rfl rfl ?_
    cases hf
    exact gret_i C hr hk (kX11_house _ (List.mem_of_getElem? (i := 5) rfl)).1
  · rw [if_neg hc] at hf ⊢
    refine msegT C kX11_house 6 2 (g := (true, (if v2 = (0 : Int32) then 64 else (if v2 = (1 : Int32) then 74 else (if v2 = (2 : Int32) then 83 else (if v2 = (3 : Int32) then 92 else (if v2 = (4 : Int32) then 102 else (if v2 = (5 : Int32) then 112 else (if v2 = (6 : Int32) then 122 else (if v2 = (7 : Int32) then 135 else (if v2 = (8 : Int32) then 165 else (if v2 = (9 : Int32) then 190 else 218)))))))))), [.ref (0), .int v1, .int v2], [], mk true S1)) rfl rfl ?_
    by_cases hc : v2 = (0 : Int32)
    · rw [if_pos hc] at hf ⊢
      obtain ⟨hok, hf⟩ := grd_ex hf
      refine msegT C kX11_house 8 5 (g := ((kI ((shU true) + 2) v1 && (kO (shU true) 8 && (kO 0 11 && true))), 73, [.ref (0), .int v1, .int v2], [.int (S1.1 ((shU true) + 2) (mIx v1))], mk true S1)) rfl hok ?_
      cases hf
      exact gret_i C hr hk (kX11_house _ (List.mem_of_getElem? (i := 13) rfl)).1
    · rw [if_neg hc] at hf ⊢
      by_cases hc : v2 = (1 : Int32)
      · rw [if_pos hc] at hf ⊢
        obtain ⟨hok, hf⟩ := grd_ex hf
        refine msegT C kX11_house 14 6 (g := ((kI 35 ((0 : Int32) + v1) && (kO 0 11 && true)), 82, [.ref (0), .int v1, .int v2], [.int (S1.1 35 (mIx ((0 : Int32) + v1)))], mk true S1)) rfl hok ?_
        cases hf
        exact gret_i C hr hk (kX11_house _ (List.mem_of_getElem? (i := 20) rfl)).1
      · rw [if_neg hc] at hf ⊢
        by_cases hc : v2 = (2 : Int32)
        · rw [if_pos hc] at hf ⊢
          obtain ⟨hok, hf⟩ := grd_ex hf
          refine msegT C kX11_house 21 6 (g := ((kI 35 ((5 : Int32) + v1) && (kO 0 11 && true)), 91, [.ref (0), .int v1, .int v2], [.int (S1.1 35 (mIx ((5 : Int32) + v1)))], mk true S1)) rfl hok ?_
          cases hf
          exact gret_i C hr hk (kX11_house _ (List.mem_of_getElem? (i := 27) rfl)).1
        · rw [if_neg hc] at hf ⊢
          by_cases hc : v2 = (3 : Int32)
          · rw [if_pos hc] at hf ⊢
            obtain ⟨hok, hf⟩ := grd_ex hf
            refine msegT C kX11_house 28 6 (g := ((kI 35 ((10 : Int32) + v1) && (kO 0 11 && true)), 101, [.ref (0), .int v1, .int v2], [.int (S1.1 35 (mIx ((10 : Int32) + v1)))], mk true S1)) rfl hok ?_
            cases hf
            exact gret_i C hr hk (kX11_house _ (List.mem_of_getElem? (i := 34) rfl)).1
          · rw [if_neg hc] at hf ⊢
            by_cases hc : v2 = (4 : Int32)
            · rw [if_pos hc] at hf ⊢
              obtain ⟨hok, hf⟩ := grd_ex hf
              refine msegT C kX11_house 35 5 (g := ((kI ((shU true) + 4) v1 && (kO (shU true) 8 && (kO 0 11 && true))), 111, [.ref (0), .int v1, .int v2], [.int (S1.1 ((shU true) + 4) (mIx v1))], mk true S1)) rfl hok ?_
              cases hf
              exact gret_i C hr hk (kX11_house _ (List.mem_of_getElem? (i := 40) rfl)).1
            · rw [if_neg hc] at hf ⊢
              by_cases hc : v2 = (5 : Int32)
              · rw [if_pos hc] at hf ⊢
                obtain ⟨hok, hf⟩ := grd_ex hf
                refine msegT C kX11_house 41 5 (g := ((kI ((shU true) + 5) v1 && (kO (shU true) 8 && (kO 0 11 && true))), 121, [.ref (0), .int v1, .int v2], [.int (S1.1 ((shU true) + 5) (mIx v1))], mk true S1)) rfl hok ?_
                cases hf
                exact gret_i C hr hk (kX11_house _ (List.mem_of_getElem? (i := 46) rfl)).1
              · rw [if_neg hc] at hf ⊢
                by_cases hc : v2 = (6 : Int32)
                · rw [if_pos hc] at hf ⊢
                  obtain ⟨hok, hf⟩ := grd_ex hf
                  refine msegT C kX11_house 47 5 (g := ((kO 0 11 && (kO 0 11 && true)), 131, [.ref (0), .int v1, .int v2], [.int v1, .ref 35, .ref (shU true)], mk true S1)) rfl hok ?_
                  obtain ⟨x12, S11, hq, hf⟩ := bndC_ex hf
                  refine mcall (kd := 0) (vs := [.ref (shU true), .ref 35, .int v1]) (rest := []) (r := (some (.int x12))) (h' := mk true S11) (ok' := true) C lkRX11_137 (qX8_stonesOf_19 hq) (kX11_house _ (List.mem_of_getElem? (i := 52) rfl)).1 ⟨_, _, rfl, rfl, Nat.le_of_ble_eq_true rfl, _, _, rfl, rfl, rfl⟩ (Nat.le_of_ble_eq_true rfl) (Nat.le_of_ble_eq_true rfl) (Nat.le_refl _) (Nat.le_refl _) (Nat.le_of_ble_eq_true rfl) ?_
                  cases hf
                  exact gret_i C hr hk (kX11_house _ (List.mem_of_getElem? (i := 53) rfl)).1
                · rw [if_neg hc] at hf ⊢
                  by_cases hc : v2 = (7 : Int32)
                  · rw [if_pos hc] at hf ⊢
                    obtain ⟨hok, hf⟩ := grd_ex hf
                    refine msegT C kX11_house 54 5 (g := ((kO 0 11 && (kO 0 11 && true)), 144, [.ref (0), .int v1, .int v2], [.int v1, .ref 35, .ref (shU true)], mk true S1)) rfl hok ?_
                    obtain ⟨x10, S9, hq, hf⟩ := bndC_ex hf
                    refine mcall (kd := 0) (vs := [.ref (shU true), .ref 35, .int v1]) (rest := []) (r := (some (.int x10))) (h' := mk true S9) (ok' := true) C lkRX11_137 (qX8_stonesOf_19 hq) (kX11_house _ (List.mem_of_getElem? (i := 59) rfl)).1 ⟨_, _, rfl, rfl, Nat.le_of_ble_eq_true rfl, _, _, rfl, rfl, rfl⟩ (Nat.le_of_ble_eq_true rfl) (Nat.le_of_ble_eq_true rfl) (Nat.le_refl _) (Nat.le_refl _) (Nat.le_of_ble_eq_true rfl) ?_
                    obtain ⟨hok, hf⟩ := grd_ex hf
                    refine msegT C kX11_house 60 6 (g := ((kI ((shU true) + 4) v1 && (kO (shU true) 8 && (kO 0 11 && true))), (if (S9.1 ((shU true) + 4) (mIx v1)) ≤ x10 then 163 else 159), [.ref (0), .int v1, .int v2], [], mk true S9)) rfl hok ?_
                    by_cases hc : (S9.1 ((shU true) + 4) (mIx v1)) ≤ x10
                    · rw [if_pos hc] at hf ⊢
                      refine msegT C kX11_house 68 1 (g := (true, 164, [.ref (0), .int v1, .int v2], [.int (0 : Int32)], mk true S9)) rfl rfl ?_
                      exact mfor (L' := [.retAddr 0, .retAddr 0, .retAddr 0]) ⟨Or.inl rfl, Or.inl rfl, Or.inl rfl, trivial⟩ (bX11_house_164_t C hr hk hf true)
                    · rw [if_neg hc] at hf ⊢
                      refine msegT C kX11_house 66 2 (g := (true, 164, [.ref (0), .int v1, .int v2], [.int (1 : Int32)], mk true S9)) rfl rfl ?_
                      exact mfor (L' := [.retAddr 0, .retAddr 0, .retAddr 0]) ⟨Or.inl rfl, Or.inl rfl, Or.inl rfl, trivial⟩ (bX11_house_164_t C hr hk hf true)
                  · rw [if_neg hc] at hf ⊢
                    by_cases hc : v2 = (8 : Int32)
                    · rw [if_pos hc] at hf ⊢
                      obtain ⟨hok, hf⟩ := grd_ex hf
                      refine msegT C kX11_house 70 10 (g := ((kI 35 ((10 : Int32) + v1) && (kO 0 11 && (kO 0 11 && true))), 180, [.ref (0), .int v1, .int v2], [.ref (0), .int v1, .int (S1.1 35 (mIx ((10 : Int32) + v1))), .ref (shU true)], mk true S1)) rfl hok ?_
                      obtain ⟨hok, hf⟩ := grd_ex hf
                      refine msegT C kX11_house 80 3 (g := ((kI 35 (15 : Int32) && (kO 0 11 && true)), 186, [.ref (0), .int v1, .int v2], [.int (S1.1 35 (mIx (15 : Int32))), .int v1, .int (S1.1 35 (mIx ((10 : Int32) + v1))), .ref (shU true)], mk true S1)) rfl hok ?_
                      obtain ⟨x8, S7, hq, hf⟩ := bndC_ex hf
                      refine mcall (kd := 0) (vs := [.ref (shU true), .int (S1.1 35 (mIx ((10 : Int32) + v1))), .int v1, .int (S1.1 35 (mIx (15 : Int32)))]) (rest := []) (r := (some (.int x8))) (h' := mk true S7) (ok' := true) C lkRX11_141 (qX8_taxOf_19 hq) (kX11_house _ (List.mem_of_getElem? (i := 83) rfl)).1 ⟨_, _, rfl, rfl, Nat.le_of_ble_eq_true rfl, _, _, rfl, rfl, rfl⟩ (Nat.le_of_ble_eq_true rfl) (Nat.le_of_ble_eq_true rfl) (Nat.le_refl _) (Nat.le_refl _) (Nat.le_of_ble_eq_true rfl) ?_
                      cases hf
                      exact gret_i C hr hk (kX11_house _ (List.mem_of_getElem? (i := 84) rfl)).1
                    · rw [if_neg hc] at hf ⊢
                      by_cases hc : v2 = (9 : Int32)
                      · rw [if_pos hc] at hf ⊢
                        obtain ⟨hok, hf⟩ := grd_ex hf
                        refine msegT C kX11_house 85 7 (g := ((kO 0 11 && (kO 0 11 && (kO 0 11 && true))), 203, [.ref (0), .int v1, .int v2], [.int v1, .ref 35, .ref (shU true), .ref (shU true)], mk true S1)) rfl hok ?_
                        obtain ⟨x4, S3, hq, hf⟩ := bndC_ex hf
                        refine mcall (kd := 0) (vs := [.ref (shU true), .ref 35, .int v1]) (rest := [.ref (shU true)]) (r := (some (.int x4))) (h' := mk true S3) (ok' := true) C lkRX11_137 (qX8_stonesOf_19 hq) (kX11_house _ (List.mem_of_getElem? (i := 92) rfl)).1 ⟨_, _, rfl, rfl, Nat.le_of_ble_eq_true rfl, _, _, rfl, rfl, rfl⟩ (Nat.le_of_ble_eq_true rfl) (Nat.le_of_ble_eq_true rfl) (Nat.le_refl _) (Nat.le_refl _) (Nat.le_of_ble_eq_true rfl) ?_
                        obtain ⟨hok, hf⟩ := grd_ex hf
                        refine msegT C kX11_house 93 5 (g := ((kI 35 (15 : Int32) && (kO 0 11 && true)), 214, [.ref (0), .int v1, .int v2], [.int (S3.1 35 (mIx (15 : Int32))), .int v1, .int x4, .ref (shU true)], mk true S3)) rfl hok ?_
                        obtain ⟨x6, S5, hq, hf⟩ := bndC_ex hf
                        refine mcall (kd := 0) (vs := [.ref (shU true), .int x4, .int v1, .int (S3.1 35 (mIx (15 : Int32)))]) (rest := []) (r := (some (.int x6))) (h' := mk true S5) (ok' := true) C lkRX11_141 (qX8_taxOf_19 hq) (kX11_house _ (List.mem_of_getElem? (i := 98) rfl)).1 ⟨_, _, rfl, rfl, Nat.le_of_ble_eq_true rfl, _, _, rfl, rfl, rfl⟩ (Nat.le_of_ble_eq_true rfl) (Nat.le_of_ble_eq_true rfl) (Nat.le_refl _) (Nat.le_refl _) (Nat.le_of_ble_eq_true rfl) ?_
                        cases hf
                        exact gret_i C hr hk (kX11_house _ (List.mem_of_getElem? (i := 99) rfl)).1
                      · rw [if_neg hc] at hf ⊢
                        refine msegT C kX11_house 100 1 (g := (true, 219, [.ref (0), .int v1, .int v2], [.int (-1 : Int32)], mk true S1)) rfl rfl ?_
                        cases hf
                        exact gret_i C hr hk (kX11_house _ (List.mem_of_getElem? (i := 101) rfl)).1
theorem qX11_house_t {v1 : Int32} {v2 : Int32} {S S' : mT} {r : Int32} (hf : fX11_house true v1 v2 S = some (r, S')) : mOk l mX11_house 5 [.ref (0), .int v1, .int v2] true S (some (.int r)) S' :=
  gMet (by decide) (Nat.le_of_ble_eq_true rfl) rfl (Nat.le_of_ble_eq_true rfl) (fun p e s m args below meth c G C hr hk => bX11_house_0_t C hr hk hf true)
theorem bX11_sumOf_4_f (C : mCx p (mR 6) s m args meth c G cX11_sumOf RX11 4 false 233 54500 233 54500) (hr : meth.sig.returnType = (some .int)) (hk : meth.locks = false) {S' : mT} {r : Int32} : ∀ (k : Nat) (v1 : Int32) (v2 : Int32) (v3 : Int32) (S : mT), fX11_sumOf_4 false k v1 v2 v3 S = some (r, S') → ∀ ok : Bool, mW p l e (mR 6) s m args below meth c G 4 233 54500 (mQ below G args s false S' (some (.int r))) (ok, 4, [.ref (0), .int v1, .int v2, .int v3], [], mk false S) := by
  intro k
  induction k with
  | zero =>
    intro v1 v2 v3 S hf ok
    cases hf
  | succ k ih =>
    intro v1 v2 v3 S hf ok
    unfold fX11_sumOf_4 at hf
    obtain ⟨hok, hf⟩ := grd_ex hf
    refine msegT C kX11_sumOf 4 5 (g := ((kO (shU false) 8 && (kO 0 11 && true)), (if (S.1 (shU false) 9) ≤ v3 then 30 else 15), [.ref (0), .int v1, .int v2, .int v3], [], mk false S)) rfl hok ?_
    by_cases hc : (S.1 (shU false) 9) ≤ v3
    · rw [if_pos hc] at hf ⊢
      refine msegT C kX11_sumOf 18 1 (g := (true, 31, [.ref (0), .int v1, .int v2, .int v3], [.int v2], mk false S)) rfl rfl ?_
      cases hf
      exact gret_i C hr hk (kX11_sumOf _ (List.mem_of_getElem? (i := 19) rfl)).1
    · rw [if_neg hc] at hf ⊢
      refine msegT C kX11_sumOf 9 4 (g := (true, 19, [.ref (0), .int v1, .int v2, .int v3], [.int v1, .int v3, .ref (0), .int v2], mk false S)) rfl rfl ?_
      obtain ⟨x2, S1, hq, hf⟩ := bndC_ex hf
      refine mcall (kd := 0) (vs := [.ref (0), .int v3, .int v1]) (rest := [.int v2]) (r := (some (.int x2))) (h' := mk false S1) (ok' := true) C lkRX11_323 (qX11_house_f hq) (kX11_sumOf _ (List.mem_of_getElem? (i := 13) rfl)).1 ⟨_, _, rfl, rfl, Nat.le_of_ble_eq_true rfl, _, _, rfl, rfl, rfl⟩ (Nat.le_of_ble_eq_true rfl) (Nat.le_of_ble_eq_true rfl) (Nat.le_refl _) (Nat.le_refl _) (Nat.le_of_ble_eq_true rfl) ?_
      refine msegT C kX11_sumOf 14 2 (g := (true, 24, [.ref (0), .int v1, .int (v2 + x2), .int v3], [], mk false S1)) rfl rfl ?_
      obtain ⟨x3, ex3, hf⟩ := bnd_ex hf
      rw [← ex3]
      refine msegT C kX11_sumOf 16 1 (g := (true, 27, [.ref (0), .int v1, .int x3, .int (v3 + (1 : Int32))], [], mk false S1)) rfl rfl ?_
      obtain ⟨x4, ex4, hf⟩ := bnd_ex hf
      rw [← ex4]
      refine msegT C kX11_sumOf 17 1 (g := (true, 4, [.ref (0), .int v1, .int x3, .int x4], [], mk false S1)) rfl rfl ?_
      exact mfor (L' := [.ref (0), .int v1, .int x3, .int x4]) ⟨Or.inr rfl, Or.inr rfl, Or.inr rfl, Or.inr rfl, trivial⟩ (ih _ _ _ _ hf true)
theorem bX11_sumOf_0_f (C : mCx p (mR 6) s m args meth c G cX11_sumOf RX11 4 false 233 54500 233 54500) (hr : meth.sig.returnType = (some .int)) (hk : meth.locks = false) {S' : mT} {r : Int32} {v1 : Int32} {S : mT} (hf : fX11_sumOf false v1 S = some (r, S')) (ok : Bool) : mW p l e (mR 6) s m args below meth c G 4 233 54500 (mQ below G args s false S' (some (.int r))) (ok, 0, [.ref (0), .int v1, .retAddr 0, .retAddr 0], [], mk false S) := by
  unfold fX11_sumOf at hf
  refine msegT C kX11_sumOf 0 4 (g := (true, 4, [.ref (0), .int v1, .int (0 : Int32), .int (0 : Int32)], [], mk false S)) rfl rfl ?_
  exact mfor (L' := [.ref (0), .int v1, .int (0 : Int32), .int (0 : Int32)]) ⟨Or.inr rfl, Or.inr rfl, Or.inr rfl, Or.inr rfl, trivial⟩ (bX11_sumOf_4_f C hr hk _ _ _ _ _ hf true)
theorem qX11_sumOf_f {v1 : Int32} {S S' : mT} {r : Int32} (hf : fX11_sumOf false v1 S = some (r, S')) : mOk l mX11_sumOf 6 [.ref (0), .int v1] false S (some (.int r)) S' :=
  gMet (by decide) (Nat.le_of_ble_eq_true rfl) rfl (Nat.le_of_ble_eq_true rfl) (fun p e s m args below meth c G C hr hk => bX11_sumOf_0_f C hr hk hf true)
theorem bX11_sumOf_4_t (C : mCx p (mR 6) s m args meth c G cX11_sumOf RX11 4 false 233 54500 233 54500) (hr : meth.sig.returnType = (some .int)) (hk : meth.locks = false) {S' : mT} {r : Int32} : ∀ (k : Nat) (v1 : Int32) (v2 : Int32) (v3 : Int32) (S : mT), fX11_sumOf_4 true k v1 v2 v3 S = some (r, S') → ∀ ok : Bool, mW p l e (mR 6) s m args below meth c G 4 233 54500 (mQ below G args s true S' (some (.int r))) (ok, 4, [.ref (0), .int v1, .int v2, .int v3], [], mk true S) := by
  intro k
  induction k with
  | zero =>
    intro v1 v2 v3 S hf ok
    cases hf
  | succ k ih =>
    intro v1 v2 v3 S hf ok
    unfold fX11_sumOf_4 at hf
    obtain ⟨hok, hf⟩ := grd_ex hf
    refine msegT C kX11_sumOf 4 5 (g := ((kO (shU true) 8 && (kO 0 11 && true)), (if (S.1 (shU true) 9) ≤ v3 then 30 else 15), [.ref (0), .int v1, .int v2, .int v3], [], mk true S)) rfl hok ?_
    by_cases hc : (S.1 (shU true) 9) ≤ v3
    · rw [if_pos hc] at hf ⊢
      refine msegT C kX11_sumOf 18 1 (g := (true, 31, [.ref (0), .int v1, .int v2, .int v3], [.int v2], mk true S)) rfl rfl ?_
      cases hf
      exact gret_i C hr hk (kX11_sumOf _ (List.mem_of_getElem? (i := 19) rfl)).1
    · rw [if_neg hc] at hf ⊢
      refine msegT C kX11_sumOf 9 4 (g := (true, 19, [.ref (0), .int v1, .int v2, .int v3], [.int v1, .int v3, .ref (0), .int v2], mk true S)) rfl rfl ?_
      obtain ⟨x2, S1, hq, hf⟩ := bndC_ex hf
      refine mcall (kd := 0) (vs := [.ref (0), .int v3, .int v1]) (rest := [.int v2]) (r := (some (.int x2))) (h' := mk true S1) (ok' := true) C lkRX11_323 (qX11_house_t hq) (kX11_sumOf _ (List.mem_of_getElem? (i := 13) rfl)).1 ⟨_, _, rfl, rfl, Nat.le_of_ble_eq_true rfl, _, _, rfl, rfl, rfl⟩ (Nat.le_of_ble_eq_true rfl) (Nat.le_of_ble_eq_true rfl) (Nat.le_refl _) (Nat.le_refl _) (Nat.le_of_ble_eq_true rfl) ?_
      refine msegT C kX11_sumOf 14 2 (g := (true, 24, [.ref (0), .int v1, .int (v2 + x2), .int v3], [], mk true S1)) rfl rfl ?_
      obtain ⟨x3, ex3, hf⟩ := bnd_ex hf
      rw [← ex3]
      refine msegT C kX11_sumOf 16 1 (g := (true, 27, [.ref (0), .int v1, .int x3, .int (v3 + (1 : Int32))], [], mk true S1)) rfl rfl ?_
      obtain ⟨x4, ex4, hf⟩ := bnd_ex hf
      rw [← ex4]
      refine msegT C kX11_sumOf 17 1 (g := (true, 4, [.ref (0), .int v1, .int x3, .int x4], [], mk true S1)) rfl rfl ?_
      exact mfor (L' := [.ref (0), .int v1, .int x3, .int x4]) ⟨Or.inr rfl, Or.inr rfl, Or.inr rfl, Or.inr rfl, trivial⟩ (ih _ _ _ _ hf true)
theorem bX11_sumOf_0_t (C : mCx p (mR 6) s m args meth c G cX11_sumOf RX11 4 false 233 54500 233 54500) (hr : meth.sig.returnType = (some .int)) (hk : meth.locks = false) {S' : mT} {r : Int32} {v1 : Int32} {S : mT} (hf : fX11_sumOf true v1 S = some (r, S')) (ok : Bool) : mW p l e (mR 6) s m args below meth c G 4 233 54500 (mQ below G args s true S' (some (.int r))) (ok, 0, [.ref (0), .int v1, .retAddr 0, .retAddr 0], [], mk true S) := by
  unfold fX11_sumOf at hf
  refine msegT C kX11_sumOf 0 4 (g := (true, 4, [.ref (0), .int v1, .int (0 : Int32), .int (0 : Int32)], [], mk true S)) rfl rfl ?_
  exact mfor (L' := [.ref (0), .int v1, .int (0 : Int32), .int (0 : Int32)]) ⟨Or.inr rfl, Or.inr rfl, Or.inr rfl, Or.inr rfl, trivial⟩ (bX11_sumOf_4_t C hr hk _ _ _ _ _ hf true)
theorem qX11_sumOf_t {v1 : Int32} {S S' : mT} {r : Int32} (hf : fX11_sumOf true v1 S = some (r, S')) : mOk l mX11_sumOf 6 [.ref (0), .int v1] true S (some (.int r)) S' :=
  gMet (by decide) (Nat.le_of_ble_eq_true rfl) rfl (Nat.le_of_ble_eq_true rfl) (fun p e s m args below meth c G C hr hk => bX11_sumOf_0_t C hr hk hf true)
theorem bX11_sum_0_f (C : mCx p (mR 7) s m args meth c G cX11_sum RX11 2 false 233 54500 233 54500) (hr : meth.sig.returnType = (some .int)) (hk : meth.locks = false) {S' : mT} {r : Int32} {v1 : Int32} {S : mT} (hf : fX11_sum false v1 S = some (r, S')) (ok : Bool) : mW p l e (mR 7) s m args below meth c G 2 233 54500 (mQ below G args s false S' (some (.int r))) (ok, 0, [.ref (0), .int v1], [], mk false S) := by
  unfold fX11_sum at hf
  refine msegT C kX11_sum 0 2 (g := (true, (if v1 = (0 : Int32) then 40 else (if v1 = (1 : Int32) then 46 else (if v1 = (2 : Int32) then 52 else (if v1 = (3 : Int32) then 58 else (if v1 = (4 : Int32) then 65 else (if v1 = (5 : Int32) then 72 else 79)))))), [.ref (0), .int v1], [], mk false S)) rfl rfl ?_
  by_cases hc : v1 = (0 : Int32)
  · rw [if_pos hc] at hf ⊢
    refine msegT C kX11_sum 2 2 (g := (true, 42, [.ref (0), .int v1], [.int (1 : Int32), .ref (0)], mk false S)) rfl rfl ?_
    obtain ⟨x12, S11, hq, hf⟩ := bndC_ex hf
    refine mcall (kd := 0) (vs := [.ref (0), .int (1 : Int32)]) (rest := []) (r := (some (.int x12))) (h' := mk false S11) (ok' := true) C lkRX11_145 (qX11_sumOf_f hq) (kX11_sum _ (List.mem_of_getElem? (i := 4) rfl)).1 ⟨_, _, rfl, rfl, Nat.le_of_ble_eq_true rfl, _, _, rfl, rfl, rfl⟩ (Nat.le_of_ble_eq_true rfl) (Nat.le_of_ble_eq_true rfl) (Nat.le_refl _) (Nat.le_refl _) (Nat.le_of_ble_eq_true rfl) ?_
    cases hf
    exact gret_i C hr hk (kX11_sum _ (List.mem_of_getElem? (i := 5) rfl)).1
  · rw [if_neg hc] at hf ⊢
    by_cases hc : v1 = (1 : Int32)
    · rw [if_pos hc] at hf ⊢
      refine msegT C kX11_sum 6 2 (g := (true, 48, [.ref (0), .int v1], [.int (2 : Int32), .ref (0)], mk false S)) rfl rfl ?_
      obtain ⟨x10, S9, hq, hf⟩ := bndC_ex hf
      refine mcall (kd := 0) (vs := [.ref (0), .int (2 : Int32)]) (rest := []) (r := (some (.int x10))) (h' := mk false S9) (ok' := true) C lkRX11_145 (qX11_sumOf_f hq) (kX11_sum _ (List.mem_of_getElem? (i := 8) rfl)).1 ⟨_, _, rfl, rfl, Nat.le_of_ble_eq_true rfl, _, _, rfl, rfl, rfl⟩ (Nat.le_of_ble_eq_true rfl) (Nat.le_of_ble_eq_true rfl) (Nat.le_refl _) (Nat.le_refl _) (Nat.le_of_ble_eq_true rfl) ?_
      cases hf
      exact gret_i C hr hk (kX11_sum _ (List.mem_of_getElem? (i := 9) rfl)).1
    · rw [if_neg hc] at hf ⊢
      by_cases hc : v1 = (2 : Int32)
      · rw [if_pos hc] at hf ⊢
        refine msegT C kX11_sum 10 2 (g := (true, 54, [.ref (0), .int v1], [.int (3 : Int32), .ref (0)], mk false S)) rfl rfl ?_
        obtain ⟨x8, S7, hq, hf⟩ := bndC_ex hf
        refine mcall (kd := 0) (vs := [.ref (0), .int (3 : Int32)]) (rest := []) (r := (some (.int x8))) (h' := mk false S7) (ok' := true) C lkRX11_145 (qX11_sumOf_f hq) (kX11_sum _ (List.mem_of_getElem? (i := 12) rfl)).1 ⟨_, _, rfl, rfl, Nat.le_of_ble_eq_true rfl, _, _, rfl, rfl, rfl⟩ (Nat.le_of_ble_eq_true rfl) (Nat.le_of_ble_eq_true rfl) (Nat.le_refl _) (Nat.le_refl _) (Nat.le_of_ble_eq_true rfl) ?_
        cases hf
        exact gret_i C hr hk (kX11_sum _ (List.mem_of_getElem? (i := 13) rfl)).1
      · rw [if_neg hc] at hf ⊢
        by_cases hc : v1 = (3 : Int32)
        · rw [if_pos hc] at hf ⊢
          refine msegT C kX11_sum 14 2 (g := (true, 61, [.ref (0), .int v1], [.int (6 : Int32), .ref (0)], mk false S)) rfl rfl ?_
          obtain ⟨x6, S5, hq, hf⟩ := bndC_ex hf
          refine mcall (kd := 0) (vs := [.ref (0), .int (6 : Int32)]) (rest := []) (r := (some (.int x6))) (h' := mk false S5) (ok' := true) C lkRX11_145 (qX11_sumOf_f hq) (kX11_sum _ (List.mem_of_getElem? (i := 16) rfl)).1 ⟨_, _, rfl, rfl, Nat.le_of_ble_eq_true rfl, _, _, rfl, rfl, rfl⟩ (Nat.le_of_ble_eq_true rfl) (Nat.le_of_ble_eq_true rfl) (Nat.le_refl _) (Nat.le_refl _) (Nat.le_of_ble_eq_true rfl) ?_
          cases hf
          exact gret_i C hr hk (kX11_sum _ (List.mem_of_getElem? (i := 17) rfl)).1
        · rw [if_neg hc] at hf ⊢
          by_cases hc : v1 = (4 : Int32)
          · rw [if_pos hc] at hf ⊢
            refine msegT C kX11_sum 18 2 (g := (true, 68, [.ref (0), .int v1], [.int (8 : Int32), .ref (0)], mk false S)) rfl rfl ?_
            obtain ⟨x4, S3, hq, hf⟩ := bndC_ex hf
            refine mcall (kd := 0) (vs := [.ref (0), .int (8 : Int32)]) (rest := []) (r := (some (.int x4))) (h' := mk false S3) (ok' := true) C lkRX11_145 (qX11_sumOf_f hq) (kX11_sum _ (List.mem_of_getElem? (i := 20) rfl)).1 ⟨_, _, rfl, rfl, Nat.le_of_ble_eq_true rfl, _, _, rfl, rfl, rfl⟩ (Nat.le_of_ble_eq_true rfl) (Nat.le_of_ble_eq_true rfl) (Nat.le_refl _) (Nat.le_refl _) (Nat.le_of_ble_eq_true rfl) ?_
            cases hf
            exact gret_i C hr hk (kX11_sum _ (List.mem_of_getElem? (i := 21) rfl)).1
          · rw [if_neg hc] at hf ⊢
            by_cases hc : v1 = (5 : Int32)
            · rw [if_pos hc] at hf ⊢
              refine msegT C kX11_sum 22 2 (g := (true, 75, [.ref (0), .int v1], [.int (9 : Int32), .ref (0)], mk false S)) rfl rfl ?_
              obtain ⟨x2, S1, hq, hf⟩ := bndC_ex hf
              refine mcall (kd := 0) (vs := [.ref (0), .int (9 : Int32)]) (rest := []) (r := (some (.int x2))) (h' := mk false S1) (ok' := true) C lkRX11_145 (qX11_sumOf_f hq) (kX11_sum _ (List.mem_of_getElem? (i := 24) rfl)).1 ⟨_, _, rfl, rfl, Nat.le_of_ble_eq_true rfl, _, _, rfl, rfl, rfl⟩ (Nat.le_of_ble_eq_true rfl) (Nat.le_of_ble_eq_true rfl) (Nat.le_refl _) (Nat.le_refl _) (Nat.le_of_ble_eq_true rfl) ?_
              cases hf
              exact gret_i C hr hk (kX11_sum _ (List.mem_of_getElem? (i := 25) rfl)).1
            · rw [if_neg hc] at hf ⊢
              refine msegT C kX11_sum 26 1 (g := (true, 80, [.ref (0), .int v1], [.int (-1 : Int32)], mk false S)) rfl rfl ?_
              cases hf
              exact gret_i C hr hk (kX11_sum _ (List.mem_of_getElem? (i := 27) rfl)).1
theorem qX11_sum_f {v1 : Int32} {S S' : mT} {r : Int32} (hf : fX11_sum false v1 S = some (r, S')) : mOk l mX11_sum 7 [.ref (0), .int v1] false S (some (.int r)) S' :=
  gMet (by decide) (Nat.le_of_ble_eq_true rfl) rfl (Nat.le_of_ble_eq_true rfl) (fun p e s m args below meth c G C hr hk => bX11_sum_0_f C hr hk hf true)
theorem bX11_sum_0_t (C : mCx p (mR 7) s m args meth c G cX11_sum RX11 2 false 233 54500 233 54500) (hr : meth.sig.returnType = (some .int)) (hk : meth.locks = false) {S' : mT} {r : Int32} {v1 : Int32} {S : mT} (hf : fX11_sum true v1 S = some (r, S')) (ok : Bool) : mW p l e (mR 7) s m args below meth c G 2 233 54500 (mQ below G args s true S' (some (.int r))) (ok, 0, [.ref (0), .int v1], [], mk true S) := by
  unfold fX11_sum at hf
  refine msegT C kX11_sum 0 2 (g := (true, (if v1 = (0 : Int32) then 40 else (if v1 = (1 : Int32) then 46 else (if v1 = (2 : Int32) then 52 else (if v1 = (3 : Int32) then 58 else (if v1 = (4 : Int32) then 65 else (if v1 = (5 : Int32) then 72 else 79)))))), [.ref (0), .int v1], [], mk true S)) rfl rfl ?_
  by_cases hc : v1 = (0 : Int32)
  · rw [if_pos hc] at hf ⊢
    refine msegT C kX11_sum 2 2 (g := (true, 42, [.ref (0), .int v1], [.int (1 : Int32), .ref (0)], mk true S)) rfl rfl ?_
    obtain ⟨x12, S11, hq, hf⟩ := bndC_ex hf
    refine mcall (kd := 0) (vs := [.ref (0), .int (1 : Int32)]) (rest := []) (r := (some (.int x12))) (h' := mk true S11) (ok' := true) C lkRX11_145 (qX11_sumOf_t hq) (kX11_sum _ (List.mem_of_getElem? (i := 4) rfl)).1 ⟨_, _, rfl, rfl, Nat.le_of_ble_eq_true rfl, _, _, rfl, rfl, rfl⟩ (Nat.le_of_ble_eq_true rfl) (Nat.le_of_ble_eq_true rfl) (Nat.le_refl _) (Nat.le_refl _) (Nat.le_of_ble_eq_true rfl) ?_
    cases hf
    exact gret_i C hr hk (kX11_sum _ (List.mem_of_getElem? (i := 5) rfl)).1
  · rw [if_neg hc] at hf ⊢
    by_cases hc : v1 = (1 : Int32)
    · rw [if_pos hc] at hf ⊢
      refine msegT C kX11_sum 6 2 (g := (true, 48, [.ref (0), .int v1], [.int (2 : Int32), .ref (0)], mk true S)) rfl rfl ?_
      obtain ⟨x10, S9, hq, hf⟩ := bndC_ex hf
      refine mcall (kd := 0) (vs := [.ref (0), .int (2 : Int32)]) (rest := []) (r := (some (.int x10))) (h' := mk true S9) (ok' := true) C lkRX11_145 (qX11_sumOf_t hq) (kX11_sum _ (List.mem_of_getElem? (i := 8) rfl)).1 ⟨_, _, rfl, rfl, Nat.le_of_ble_eq_true rfl, _, _, rfl, rfl, rfl⟩ (Nat.le_of_ble_eq_true rfl) (Nat.le_of_ble_eq_true rfl) (Nat.le_refl _) (Nat.le_refl _) (Nat.le_of_ble_eq_true rfl) ?_
      cases hf
      exact gret_i C hr hk (kX11_sum _ (List.mem_of_getElem? (i := 9) rfl)).1
    · rw [if_neg hc] at hf ⊢
      by_cases hc : v1 = (2 : Int32)
      · rw [if_pos hc] at hf ⊢
        refine msegT C kX11_sum 10 2 (g := (true, 54, [.ref (0), .int v1], [.int (3 : Int32), .ref (0)], mk true S)) rfl rfl ?_
        obtain ⟨x8, S7, hq, hf⟩ := bndC_ex hf
        refine mcall (kd := 0) (vs := [.ref (0), .int (3 : Int32)]) (rest := []) (r := (some (.int x8))) (h' := mk true S7) (ok' := true) C lkRX11_145 (qX11_sumOf_t hq) (kX11_sum _ (List.mem_of_getElem? (i := 12) rfl)).1 ⟨_, _, rfl, rfl, Nat.le_of_ble_eq_true rfl, _, _, rfl, rfl, rfl⟩ (Nat.le_of_ble_eq_true rfl) (Nat.le_of_ble_eq_true rfl) (Nat.le_refl _) (Nat.le_refl _) (Nat.le_of_ble_eq_true rfl) ?_
        cases hf
        exact gret_i C hr hk (kX11_sum _ (List.mem_of_getElem? (i := 13) rfl)).1
      · rw [if_neg hc] at hf ⊢
        by_cases hc : v1 = (3 : Int32)
        · rw [if_pos hc] at hf ⊢
          refine msegT C kX11_sum 14 2 (g := (true, 61, [.ref (0), .int v1], [.int (6 : Int32), .ref (0)], mk true S)) rfl rfl ?_
          obtain ⟨x6, S5, hq, hf⟩ := bndC_ex hf
          refine mcall (kd := 0) (vs := [.ref (0), .int (6 : Int32)]) (rest := []) (r := (some (.int x6))) (h' := mk true S5) (ok' := true) C lkRX11_145 (qX11_sumOf_t hq) (kX11_sum _ (List.mem_of_getElem? (i := 16) rfl)).1 ⟨_, _, rfl, rfl, Nat.le_of_ble_eq_true rfl, _, _, rfl, rfl, rfl⟩ (Nat.le_of_ble_eq_true rfl) (Nat.le_of_ble_eq_true rfl) (Nat.le_refl _) (Nat.le_refl _) (Nat.le_of_ble_eq_true rfl) ?_
          cases hf
          exact gret_i C hr hk (kX11_sum _ (List.mem_of_getElem? (i := 17) rfl)).1
        · rw [if_neg hc] at hf ⊢
          by_cases hc : v1 = (4 : Int32)
          · rw [if_pos hc] at hf ⊢
            refine msegT C kX11_sum 18 2 (g := (true, 68, [.ref (0), .int v1], [.int (8 : Int32), .ref (0)], mk true S)) rfl rfl ?_
            obtain ⟨x4, S3, hq, hf⟩ := bndC_ex hf
            refine mcall (kd := 0) (vs := [.ref (0), .int (8 : Int32)]) (rest := []) (r := (some (.int x4))) (h' := mk true S3) (ok' := true) C lkRX11_145 (qX11_sumOf_t hq) (kX11_sum _ (List.mem_of_getElem? (i := 20) rfl)).1 ⟨_, _, rfl, rfl, Nat.le_of_ble_eq_true rfl, _, _, rfl, rfl, rfl⟩ (Nat.le_of_ble_eq_true rfl) (Nat.le_of_ble_eq_true rfl) (Nat.le_refl _) (Nat.le_refl _) (Nat.le_of_ble_eq_true rfl) ?_
            cases hf
            exact gret_i C hr hk (kX11_sum _ (List.mem_of_getElem? (i := 21) rfl)).1
          · rw [if_neg hc] at hf ⊢
            by_cases hc : v1 = (5 : Int32)
            · rw [if_pos hc] at hf ⊢
              refine msegT C kX11_sum 22 2 (g := (true, 75, [.ref (0), .int v1], [.int (9 : Int32), .ref (0)], mk true S)) rfl rfl ?_
              obtain ⟨x2, S1, hq, hf⟩ := bndC_ex hf
              refine mcall (kd := 0) (vs := [.ref (0), .int (9 : Int32)]) (rest := []) (r := (some (.int x2))) (h' := mk true S1) (ok' := true) C lkRX11_145 (qX11_sumOf_t hq) (kX11_sum _ (List.mem_of_getElem? (i := 24) rfl)).1 ⟨_, _, rfl, rfl, Nat.le_of_ble_eq_true rfl, _, _, rfl, rfl, rfl⟩ (Nat.le_of_ble_eq_true rfl) (Nat.le_of_ble_eq_true rfl) (Nat.le_refl _) (Nat.le_refl _) (Nat.le_of_ble_eq_true rfl) ?_
              cases hf
              exact gret_i C hr hk (kX11_sum _ (List.mem_of_getElem? (i := 25) rfl)).1
            · rw [if_neg hc] at hf ⊢
              refine msegT C kX11_sum 26 1 (g := (true, 80, [.ref (0), .int v1], [.int (-1 : Int32)], mk true S)) rfl rfl ?_
              cases hf
              exact gret_i C hr hk (kX11_sum _ (List.mem_of_getElem? (i := 27) rfl)).1
theorem qX11_sum_t {v1 : Int32} {S S' : mT} {r : Int32} (hf : fX11_sum true v1 S = some (r, S')) : mOk l mX11_sum 7 [.ref (0), .int v1] true S (some (.int r)) S' :=
  gMet (by decide) (Nat.le_of_ble_eq_true rfl) rfl (Nat.le_of_ble_eq_true rfl) (fun p e s m args below meth c G C hr hk => bX11_sum_0_t C hr hk hf true)
theorem bX11_draft_27_f (C : mCx p (mR 8) s m args meth c G cX11_draft RX11 4 false 233 54500 233 54500) (hr : meth.sig.returnType = (some .int)) (hk : meth.locks = false) {S' : mT} {r : Int32} {S : mT} (hf : fX11_draft_27 false S = some (r, S')) (ok : Bool) : mW p l e (mR 8) s m args below meth c G 4 233 54500 (mQ below G args s false S' (some (.int r))) (ok, 27, [.retAddr 0, .retAddr 0, .retAddr 0, .retAddr 0], [], mk false S) := by
  unfold fX11_draft_27 at hf
  refine msegT C kX11_draft 14 1 (g := (true, 28, [.retAddr 0, .retAddr 0, .retAddr 0, .retAddr 0], [.int (-1 : Int32)], mk false S)) rfl rfl ?_
  cases hf
  exact gret_i C hr hk (kX11_draft _ (List.mem_of_getElem? (i := 15) rfl)).1
theorem bX11_draft_46_f (C : mCx p (mR 8) s m args meth c G cX11_draft RX11 4 false 233 54500 233 54500) (hr : meth.sig.returnType = (some .int)) (hk : meth.locks = false) {S' : mT} {r : Int32} : ∀ (k : Nat) (v1 : Int32) (v2 : Int32) (v3 : Int32) (S : mT), fX11_draft_46 false k v1 v2 v3 S = some (r, S') → ∀ ok : Bool, mW p l e (mR 8) s m args below meth c G 4 233 54500 (mQ below G args s false S' (some (.int r))) (ok, 46, [.ref (0), .int v1, .int v2, .int v3], [], mk false S) := by
  intro k
  induction k with
  | zero =>
    intro v1 v2 v3 S hf ok
    cases hf
  | succ k ih =>
    intro v1 v2 v3 S hf ok
    unfold fX11_draft_46 at hf
    refine msegT C kX11_draft 26 3 (g := (true, (if v2 ≤ v3 then 76 else 51), [.ref (0), .int v1, .int v2, .int v3], [], mk false S)) rfl rfl ?_
    by_cases hc : v2 ≤ v3
    · rw [if_pos hc] at hf ⊢
      obtain ⟨hok, hf⟩ := grd_ex hf
      refine msegT C kX11_draft 44 10 (g := ((kO 0 11 && (kI 35 ((0 : Int32) + v1) && (kO 0 11 && true))), 90, [.ref (0), .int v1, .int v2, .int v3], [.int v1, .int (0 : Int32), .ref 36, .int (S.1 35 (mIx ((0 : Int32) + v1)))], mk false S)) rfl hok ?_
      obtain ⟨hok, hf⟩ := grd_ex hf
      refine msegT C kX11_draft 54 3 (g := ((kI 36 ((0 : Int32) + v1) && true), 93, [.ref (0), .int v1, .int v2, .int v3], [.int ((S.1 35 (mIx ((0 : Int32) + v1))) - (S.1 36 (mIx ((0 : Int32) + v1))))], mk false S)) rfl hok ?_
      cases hf
      exact gret_i C hr hk (kX11_draft _ (List.mem_of_getElem? (i := 57) rfl)).1
    · rw [if_neg hc] at hf ⊢
      obtain ⟨hok, hf⟩ := grd_ex hf
      refine msegT C kX11_draft 29 6 (g := ((kO 0 11 && (kO 0 11 && true)), 61, [.ref (0), .int v1, .int v2, .int v3], [.ref 36, .ref (0), .int (0 : Int32), .ref 36], mk false S)) rfl hok ?_
      obtain ⟨x9, S8, hq, hf⟩ := bndC_ex hf
      refine mcall (kd := 0) (vs := [.ref (0), .ref 36]) (rest := [.int (0 : Int32), .ref 36]) (r := (some (.int x9))) (h' := mk false S8) (ok' := true) C lkRX11_229 (qX11_fullest_f hq) (kX11_draft _ (List.mem_of_getElem? (i := 35) rfl)).1 ⟨_, _, rfl, rfl, Nat.le_of_ble_eq_true rfl, _, _, rfl, rfl, rfl⟩ (Nat.le_of_ble_eq_true rfl) (Nat.le_of_ble_eq_true rfl) (Nat.le_refl _) (Nat.le_refl _) (Nat.le_of_ble_eq_true rfl) ?_
      obtain ⟨hok, hf⟩ := grd_ex hf
      refine msegT C kX11_draft 36 6 (g := ((kI 36 ((0 : Int32) + x9) && (kI 36 ((0 : Int32) + x9) && true)), 70, [.ref (0), .int v1, .int v2, .int v3], [], mk false (sI S8 36 (mIx ((0 : Int32) + x9)) ((S8.1 36 (mIx ((0 : Int32) + x9))) - (1 : Int32))))) rfl hok ?_
      obtain ⟨S10, eS10, hf⟩ := bnd_ex hf
      rw [← eS10]
      refine msegT C kX11_draft 42 1 (g := (true, 73, [.ref (0), .int v1, .int v2, .int (v3 + (1 : Int32))], [], mk false S10)) rfl rfl ?_
      obtain ⟨x11, ex11, hf⟩ := bnd_ex hf
      rw [← ex11]
      refine msegT C kX11_draft 43 1 (g := (true, 46, [.ref (0), .int v1, .int v2, .int x11], [], mk false S10)) rfl rfl ?_
      exact mfor (L' := [.ref (0), .int v1, .int v2, .int x11]) ⟨Or.inr rfl, Or.inr rfl, Or.inr rfl, Or.inr rfl, trivial⟩ (ih _ _ _ _ hf true)
theorem bX11_draft_0_f (C : mCx p (mR 8) s m args meth c G cX11_draft RX11 4 false 233 54500 233 54500) (hr : meth.sig.returnType = (some .int)) (hk : meth.locks = false) {S' : mT} {r : Int32} {v1 : Int32} {v2 : Int32} {S : mT} (hf : fX11_draft false v1 v2 S = some (r, S')) (ok : Bool) : mW p l e (mR 8) s m args below meth c G 4 233 54500 (mQ below G args s false S' (some (.int r))) (ok, 0, [.ref (0), .int v1, .int v2, .retAddr 0], [], mk false S) := by
  unfold fX11_draft at hf
  refine msegT C kX11_draft 0 2 (g := (true, 2, [.ref (0), .int v1, .int v2, .retAddr 0], [.int v1, .ref (0)], mk false S)) rfl rfl ?_
  obtain ⟨x2, S1, hq, hf⟩ := bndC_ex hf
  refine mcall (kd := 0) (vs := [.ref (0), .int v1]) (rest := []) (r := (some (.int x2))) (h' := mk false S1) (ok' := true) C lkRX11_124 (qX11_isHouse_f hq) (kX11_draft _ (List.mem_of_getElem? (i := 2) rfl)).1 ⟨_, _, rfl, rfl, Nat.le_of_ble_eq_true rfl, _, _, rfl, rfl, rfl⟩ (Nat.le_of_ble_eq_true rfl) (Nat.le_of_ble_eq_true rfl) (Nat.le_refl _) (Nat.le_refl _) (Nat.le_of_ble_eq_true rfl) ?_
  refine msegT C kX11_draft 3 1 (g := (true, (if x2 = 0 then 27 else 8), [.ref (0), .int v1, .int v2, .retAddr 0], [], mk false S1)) rfl rfl ?_
  by_cases hc : x2 = 0
  · rw [if_pos hc] at hf ⊢
    exact mfor (L' := [.retAddr 0, .retAddr 0, .retAddr 0, .retAddr 0]) ⟨Or.inl rfl, Or.inl rfl, Or.inl rfl, Or.inl rfl, trivial⟩ (bX11_draft_27_f C hr hk hf true)
  · rw [if_neg hc] at hf ⊢
    refine msegT C kX11_draft 4 3 (g := (true, 12, [.ref (0), .int v1, .int v2, .retAddr 0], [.int (35 : Int32), .int (0 : Int32), .int v2], mk false S1)) rfl rfl ?_
    obtain ⟨x4, S3, hq, hf⟩ := bndC_ex hf
    refine mcall (kd := 1) (vs := [.int v2, .int (0 : Int32), .int (35 : Int32)]) (rest := []) (r := (some (.int x4))) (h' := mk false S3) (ok' := true) C lkRX11_169 (qX11_isWithin hq) (kX11_draft _ (List.mem_of_getElem? (i := 7) rfl)).1 rfl (Nat.le_of_ble_eq_true rfl) (Nat.le_of_ble_eq_true rfl) (Nat.le_refl _) (Nat.le_refl _) (Nat.le_of_ble_eq_true rfl) ?_
    refine msegT C kX11_draft 8 1 (g := (true, (if x4 = 0 then 27 else 18), [.ref (0), .int v1, .int v2, .retAddr 0], [], mk false S3)) rfl rfl ?_
    by_cases hc : x4 = 0
    · rw [if_pos hc] at hf ⊢
      exact mfor (L' := [.retAddr 0, .retAddr 0, .retAddr 0, .retAddr 0]) ⟨Or.inl rfl, Or.inl rfl, Or.inl rfl, Or.inl rfl, trivial⟩ (bX11_draft_27_f C hr hk hf true)
    · rw [if_neg hc] at hf ⊢
      refine msegT C kX11_draft 9 3 (g := (true, 21, [.ref (0), .int v1, .int v2, .retAddr 0], [.int (0 : Int32), .ref (0), .int v2], mk false S3)) rfl rfl ?_
      obtain ⟨x6, S5, hq, hf⟩ := bndC_ex hf
      refine mcall (kd := 0) (vs := [.ref (0), .int (0 : Int32)]) (rest := [.int v2]) (r := (some (.int x6))) (h' := mk false S5) (ok' := true) C lkRX11_220 (qX11_sum_f hq) (kX11_draft _ (List.mem_of_getElem? (i := 12) rfl)).1 ⟨_, _, rfl, rfl, Nat.le_of_ble_eq_true rfl, _, _, rfl, rfl, rfl⟩ (Nat.le_of_ble_eq_true rfl) (Nat.le_of_ble_eq_true rfl) (Nat.le_refl _) (Nat.le_refl _) (Nat.le_of_ble_eq_true rfl) ?_
      refine msegT C kX11_draft 13 1 (g := (true, (if v2 ≤ x6 then 29 else 27), [.ref (0), .int v1, .int v2, .retAddr 0], [], mk false S5)) rfl rfl ?_
      by_cases hc : v2 ≤ x6
      · rw [if_pos hc] at hf ⊢
        obtain ⟨hok, hf⟩ := grd_ex hf
        refine msegT C kX11_draft 16 8 (g := ((kC 35 36 (0 : Int32) (0 : Int32) (17 : Int32) && (kO 0 11 && (kO 0 11 && true))), 44, [.ref (0), .int v1, .int v2, .retAddr 0], [], mk false (sC S5 35 36 (0 : Int32) (0 : Int32) (17 : Int32)))) rfl hok ?_
        obtain ⟨S7, eS7, hf⟩ := bnd_ex hf
        rw [← eS7]
        refine msegT C kX11_draft 24 2 (g := (true, 46, [.ref (0), .int v1, .int v2, .int (0 : Int32)], [], mk false S7)) rfl rfl ?_
        exact mfor (L' := [.ref (0), .int v1, .int v2, .int (0 : Int32)]) ⟨Or.inr rfl, Or.inr rfl, Or.inr rfl, Or.inr rfl, trivial⟩ (bX11_draft_46_f C hr hk _ _ _ _ _ hf true)
      · rw [if_neg hc] at hf ⊢
        exact mfor (L' := [.retAddr 0, .retAddr 0, .retAddr 0, .retAddr 0]) ⟨Or.inl rfl, Or.inl rfl, Or.inl rfl, Or.inl rfl, trivial⟩ (bX11_draft_27_f C hr hk hf true)
theorem qX11_draft_f {v1 : Int32} {v2 : Int32} {S S' : mT} {r : Int32} (hf : fX11_draft false v1 v2 S = some (r, S')) : mOk l mX11_draft 8 [.ref (0), .int v1, .int v2] false S (some (.int r)) S' :=
  gMet (by decide) (Nat.le_of_ble_eq_true rfl) rfl (Nat.le_of_ble_eq_true rfl) (fun p e s m args below meth c G C hr hk => bX11_draft_0_f C hr hk hf true)
theorem bX11_draft_27_t (C : mCx p (mR 8) s m args meth c G cX11_draft RX11 4 false 233 54500 233 54500) (hr : meth.sig.returnType = (some .int)) (hk : meth.locks = false) {S' : mT} {r : Int32} {S : mT} (hf : fX11_draft_27 true S = some (r, S')) (ok : Bool) : mW p l e (mR 8) s m args below meth c G 4 233 54500 (mQ below G args s true S' (some (.int r))) (ok, 27, [.retAddr 0, .retAddr 0, .retAddr 0, .retAddr 0], [], mk true S) := by
  unfold fX11_draft_27 at hf
  refine msegT C kX11_draft 14 1 (g := (true, 28, [.retAddr 0, .retAddr 0, .retAddr 0, .retAddr 0], [.int (-1 : Int32)], mk true S)) rfl rfl ?_
  cases hf
  exact gret_i C hr hk (kX11_draft _ (List.mem_of_getElem? (i := 15) rfl)).1
theorem bX11_draft_46_t (C : mCx p (mR 8) s m args meth c G cX11_draft RX11 4 false 233 54500 233 54500) (hr : meth.sig.returnType = (some .int)) (hk : meth.locks = false) {S' : mT} {r : Int32} : ∀ (k : Nat) (v1 : Int32) (v2 : Int32) (v3 : Int32) (S : mT), fX11_draft_46 true k v1 v2 v3 S = some (r, S') → ∀ ok : Bool, mW p l e (mR 8) s m args below meth c G 4 233 54500 (mQ below G args s true S' (some (.int r))) (ok, 46, [.ref (0), .int v1, .int v2, .int v3], [], mk true S) := by
  intro k
  induction k with
  | zero =>
    intro v1 v2 v3 S hf ok
    cases hf
  | succ k ih =>
    intro v1 v2 v3 S hf ok
    unfold fX11_draft_46 at hf
    refine msegT C kX11_draft 26 3 (g := (true, (if v2 ≤ v3 then 76 else 51), [.ref (0), .int v1, .int v2, .int v3], [], mk true S)) rfl rfl ?_
    by_cases hc : v2 ≤ v3
    · rw [if_pos hc] at hf ⊢
      obtain ⟨hok, hf⟩ := grd_ex hf
      refine msegT C kX11_draft 44 10 (g := ((kO 0 11 && (kI 35 ((0 : Int32) + v1) && (kO 0 11 && true))), 90, [.ref (0), .int v1, .int v2, .int v3], [.int v1, .int (0 : Int32), .ref 36, .int (S.1 35 (mIx ((0 : Int32) + v1)))], mk true S)) rfl hok ?_
      obtain ⟨hok, hf⟩ := grd_ex hf
      refine msegT C kX11_draft 54 3 (g := ((kI 36 ((0 : Int32) + v1) && true), 93, [.ref (0), .int v1, .int v2, .int v3], [.int ((S.1 35 (mIx ((0 : Int32) + v1))) - (S.1 36 (mIx ((0 : Int32) + v1))))], mk true S)) rfl hok ?_
      cases hf
      exact gret_i C hr hk (kX11_draft _ (List.mem_of_getElem? (i := 57) rfl)).1
    · rw [if_neg hc] at hf ⊢
      obtain ⟨hok, hf⟩ := grd_ex hf
      refine msegT C kX11_draft 29 6 (g := ((kO 0 11 && (kO 0 11 && true)), 61, [.ref (0), .int v1, .int v2, .int v3], [.ref 36, .ref (0), .int (0 : Int32), .ref 36], mk true S)) rfl hok ?_
      obtain ⟨x9, S8, hq, hf⟩ := bndC_ex hf
      refine mcall (kd := 0) (vs := [.ref (0), .ref 36]) (rest := [.int (0 : Int32), .ref 36]) (r := (some (.int x9))) (h' := mk true S8) (ok' := true) C lkRX11_229 (qX11_fullest_t hq) (kX11_draft _ (List.mem_of_getElem? (i := 35) rfl)).1 ⟨_, _, rfl, rfl, Nat.le_of_ble_eq_true rfl, _, _, rfl, rfl, rfl⟩ (Nat.le_of_ble_eq_true rfl) (Nat.le_of_ble_eq_true rfl) (Nat.le_refl _) (Nat.le_refl _) (Nat.le_of_ble_eq_true rfl) ?_
      obtain ⟨hok, hf⟩ := grd_ex hf
      refine msegT C kX11_draft 36 6 (g := ((kI 36 ((0 : Int32) + x9) && (kI 36 ((0 : Int32) + x9) && true)), 70, [.ref (0), .int v1, .int v2, .int v3], [], mk true (sI S8 36 (mIx ((0 : Int32) + x9)) ((S8.1 36 (mIx ((0 : Int32) + x9))) - (1 : Int32))))) rfl hok ?_
      obtain ⟨S10, eS10, hf⟩ := bnd_ex hf
      rw [← eS10]
      refine msegT C kX11_draft 42 1 (g := (true, 73, [.ref (0), .int v1, .int v2, .int (v3 + (1 : Int32))], [], mk true S10)) rfl rfl ?_
      obtain ⟨x11, ex11, hf⟩ := bnd_ex hf
      rw [← ex11]
      refine msegT C kX11_draft 43 1 (g := (true, 46, [.ref (0), .int v1, .int v2, .int x11], [], mk true S10)) rfl rfl ?_
      exact mfor (L' := [.ref (0), .int v1, .int v2, .int x11]) ⟨Or.inr rfl, Or.inr rfl, Or.inr rfl, Or.inr rfl, trivial⟩ (ih _ _ _ _ hf true)
theorem bX11_draft_0_t (C : mCx p (mR 8) s m args meth c G cX11_draft RX11 4 false 233 54500 233 54500) (hr : meth.sig.returnType = (some .int)) (hk : meth.locks = false) {S' : mT} {r : Int32} {v1 : Int32} {v2 : Int32} {S : mT} (hf : fX11_draft true v1 v2 S = some (r, S')) (ok : Bool) : mW p l e (mR 8) s m args below meth c G 4 233 54500 (mQ below G args s true S' (some (.int r))) (ok, 0, [.ref (0), .int v1, .int v2, .retAddr 0], [], mk true S) := by
  unfold fX11_draft at hf
  refine msegT C kX11_draft 0 2 (g := (true, 2, [.ref (0), .int v1, .int v2, .retAddr 0], [.int v1, .ref (0)], mk true S)) rfl rfl ?_
  obtain ⟨x2, S1, hq, hf⟩ := bndC_ex hf
  refine mcall (kd := 0) (vs := [.ref (0), .int v1]) (rest := []) (r := (some (.int x2))) (h' := mk true S1) (ok' := true) C lkRX11_124 (qX11_isHouse_t hq) (kX11_draft _ (List.mem_of_getElem? (i := 2) rfl)).1 ⟨_, _, rfl, rfl, Nat.le_of_ble_eq_true rfl, _, _, rfl, rfl, rfl⟩ (Nat.le_of_ble_eq_true rfl) (Nat.le_of_ble_eq_true rfl) (Nat.le_refl _) (Nat.le_refl _) (Nat.le_of_ble_eq_true rfl) ?_
  refine msegT C kX11_draft 3 1 (g := (true, (if x2 = 0 then 27 else 8), [.ref (0), .int v1, .int v2, .retAddr 0], [], mk true S1)) rfl rfl ?_
  by_cases hc : x2 = 0
  · rw [if_pos hc] at hf ⊢
    exact mfor (L' := [.retAddr 0, .retAddr 0, .retAddr 0, .retAddr 0]) ⟨Or.inl rfl, Or.inl rfl, Or.inl rfl, Or.inl rfl, trivial⟩ (bX11_draft_27_t C hr hk hf true)
  · rw [if_neg hc] at hf ⊢
    refine msegT C kX11_draft 4 3 (g := (true, 12, [.ref (0), .int v1, .int v2, .retAddr 0], [.int (35 : Int32), .int (0 : Int32), .int v2], mk true S1)) rfl rfl ?_
    obtain ⟨x4, S3, hq, hf⟩ := bndC_ex hf
    refine mcall (kd := 1) (vs := [.int v2, .int (0 : Int32), .int (35 : Int32)]) (rest := []) (r := (some (.int x4))) (h' := mk true S3) (ok' := true) C lkRX11_169 (qX11_isWithin hq) (kX11_draft _ (List.mem_of_getElem? (i := 7) rfl)).1 rfl (Nat.le_of_ble_eq_true rfl) (Nat.le_of_ble_eq_true rfl) (Nat.le_refl _) (Nat.le_refl _) (Nat.le_of_ble_eq_true rfl) ?_
    refine msegT C kX11_draft 8 1 (g := (true, (if x4 = 0 then 27 else 18), [.ref (0), .int v1, .int v2, .retAddr 0], [], mk true S3)) rfl rfl ?_
    by_cases hc : x4 = 0
    · rw [if_pos hc] at hf ⊢
      exact mfor (L' := [.retAddr 0, .retAddr 0, .retAddr 0, .retAddr 0]) ⟨Or.inl rfl, Or.inl rfl, Or.inl rfl, Or.inl rfl, trivial⟩ (bX11_draft_27_t C hr hk hf true)
    · rw [if_neg hc] at hf ⊢
      refine msegT C kX11_draft 9 3 (g := (true, 21, [.ref (0), .int v1, .int v2, .retAddr 0], [.int (0 : Int32), .ref (0), .int v2], mk true S3)) rfl rfl ?_
      obtain ⟨x6, S5, hq, hf⟩ := bndC_ex hf
      refine mcall (kd := 0) (vs := [.ref (0), .int (0 : Int32)]) (rest := [.int v2]) (r := (some (.int x6))) (h' := mk true S5) (ok' := true) C lkRX11_220 (qX11_sum_t hq) (kX11_draft _ (List.mem_of_getElem? (i := 12) rfl)).1 ⟨_, _, rfl, rfl, Nat.le_of_ble_eq_true rfl, _, _, rfl, rfl, rfl⟩ (Nat.le_of_ble_eq_true rfl) (Nat.le_of_ble_eq_true rfl) (Nat.le_refl _) (Nat.le_refl _) (Nat.le_of_ble_eq_true rfl) ?_
      refine msegT C kX11_draft 13 1 (g := (true, (if v2 ≤ x6 then 29 else 27), [.ref (0), .int v1, .int v2, .retAddr 0], [], mk true S5)) rfl rfl ?_
      by_cases hc : v2 ≤ x6
      · rw [if_pos hc] at hf ⊢
        obtain ⟨hok, hf⟩ := grd_ex hf
        refine msegT C kX11_draft 16 8 (g := ((kC 35 36 (0 : Int32) (0 : Int32) (17 : Int32) && (kO 0 11 && (kO 0 11 && true))), 44, [.ref (0), .int v1, .int v2, .retAddr 0], [], mk true (sC S5 35 36 (0 : Int32) (0 : Int32) (17 : Int32)))) rfl hok ?_
        obtain ⟨S7, eS7, hf⟩ := bnd_ex hf
        rw [← eS7]
        refine msegT C kX11_draft 24 2 (g := (true, 46, [.ref (0), .int v1, .int v2, .int (0 : Int32)], [], mk true S7)) rfl rfl ?_
        exact mfor (L' := [.ref (0), .int v1, .int v2, .int (0 : Int32)]) ⟨Or.inr rfl, Or.inr rfl, Or.inr rfl, Or.inr rfl, trivial⟩ (bX11_draft_46_t C hr hk _ _ _ _ _ hf true)
      · rw [if_neg hc] at hf ⊢
        exact mfor (L' := [.retAddr 0, .retAddr 0, .retAddr 0, .retAddr 0]) ⟨Or.inl rfl, Or.inl rfl, Or.inl rfl, Or.inl rfl, trivial⟩ (bX11_draft_27_t C hr hk hf true)
theorem qX11_draft_t {v1 : Int32} {v2 : Int32} {S S' : mT} {r : Int32} (hf : fX11_draft true v1 v2 S = some (r, S')) : mOk l mX11_draft 8 [.ref (0), .int v1, .int v2] true S (some (.int r)) S' :=
  gMet (by decide) (Nat.le_of_ble_eq_true rfl) rfl (Nat.le_of_ble_eq_true rfl) (fun p e s m args below meth c G C hr hk => bX11_draft_0_t C hr hk hf true)
theorem bX11_end_15 (C : mCx p (mR 1) s m args meth c G cX11_end RX11 2 false 233 54500 233 54500) (hr : meth.sig.returnType = (some .int)) (hk : meth.locks = false) {b : Bool} {S' : mT} {r : Int32} {S : mT} (hf : fX11_end_15 S = some (r, S')) (ok : Bool) : mW p l e (mR 1) s m args below meth c G 2 233 54500 (mQ below G args s b S' (some (.int r))) (ok, 15, [.retAddr 0, .retAddr 0], [], mk b S) := by
  unfold fX11_end_15 at hf
  refine msegT C kX11_end 7 1 (g := (true, 16, [.retAddr 0, .retAddr 0], [.int (-1 : Int32)], mk b S)) rfl rfl ?_
  cases hf
  exact gret_i C hr hk (kX11_end _ (List.mem_of_getElem? (i := 8) rfl)).1
theorem bX11_end_0 (C : mCx p (mR 1) s m args meth c G cX11_end RX11 2 false 233 54500 233 54500) (hr : meth.sig.returnType = (some .int)) (hk : meth.locks = false) {b : Bool} {S' : mT} {r : Int32} {v1 : Int32} {S : mT} (hf : fX11_end v1 S = some (r, S')) (ok : Bool) : mW p l e (mR 1) s m args below meth c G 2 233 54500 (mQ below G args s b S' (some (.int r))) (ok, 0, [.ref (0), .int v1], [], mk b S) := by
  unfold fX11_end at hf
  refine msegT C kX11_end 0 2 (g := (true, (if v1 < 0 then 15 else 4), [.ref (0), .int v1], [], mk b S)) rfl rfl ?_
  by_cases hc : v1 < 0
  · rw [if_pos hc] at hf ⊢
    exact mfor (L' := [.retAddr 0, .retAddr 0]) ⟨Or.inl rfl, Or.inl rfl, trivial⟩ (bX11_end_15 C hr hk hf true)
  · rw [if_neg hc] at hf ⊢
    obtain ⟨hok, hf⟩ := grd_ex hf
    refine msegT C kX11_end 2 5 (g := ((kO 1 4 && (kO 0 11 && true)), (if v1 ≤ (S.1 1 1) then 17 else 15), [.ref (0), .int v1], [], mk b S)) rfl hok ?_
    by_cases hc : v1 ≤ (S.1 1 1)
    · rw [if_pos hc] at hf ⊢
      obtain ⟨hok, hf⟩ := grd_ex hf
      refine msegT C kX11_end 9 4 (g := ((kO 1 4 && (kO 0 11 && true)), 25, [.ref (0), .int v1], [], mk b (sI S 1 1 v1))) rfl hok ?_
      obtain ⟨S1, eS1, hf⟩ := bnd_ex hf
      rw [← eS1]
      refine msegT C kX11_end 13 1 (g := (true, 26, [.ref (0), .int v1], [.int v1], mk b S1)) rfl rfl ?_
      cases hf
      exact gret_i C hr hk (kX11_end _ (List.mem_of_getElem? (i := 14) rfl)).1
    · rw [if_neg hc] at hf ⊢
      exact mfor (L' := [.retAddr 0, .retAddr 0]) ⟨Or.inl rfl, Or.inl rfl, trivial⟩ (bX11_end_15 C hr hk hf true)
theorem qX11_end {b : Bool} {v1 : Int32} {S S' : mT} {r : Int32} (hf : fX11_end v1 S = some (r, S')) : mOk l mX11_end 1 [.ref (0), .int v1] b S (some (.int r)) S' :=
  gMet (by decide) (Nat.le_of_ble_eq_true rfl) rfl (Nat.le_of_ble_eq_true rfl) (fun p e s m args below meth c G C hr hk => bX11_end_0 C hr hk hf true)
theorem bX11_falses_41_f (C : mCx p (mR 1) s m args meth c G cX11_falses RX11 3 false 233 54500 233 54500) (hr : meth.sig.returnType = (some .int)) (hk : meth.locks = false) {S' : mT} {r : Int32} {rc4 : Int32 → Int32 → mT → Option (Int32 × mT)} (Hrc4 : ∀ (v1 : Int32) (v2 : Int32) (S : mT), rc4 v1 v2 S = some (r, S') → ∀ ok : Bool, mW p l e (mR 1) s m args below meth c G 3 233 54500 (mQ below G args s false S' (some (.int r))) (ok, 4, [.ref (0), .int v1, .int v2], [], mk false S)) {v1 : Int32} {v2 : Int32} {S : mT} (hf : fX11_falses_41 false rc4 v1 v2 S = some (r, S')) (ok : Bool) : mW p l e (mR 1) s m args below meth c G 3 233 54500 (mQ below G args s false S' (some (.int r))) (ok, 41, [.ref (0), .int v1, .int v2], [], mk false S) := by
  unfold fX11_falses_41 at hf
  refine msegT C kX11_falses 28 1 (g := (true, 44, [.ref (0), .int v1, .int (v2 + (1 : Int32))], [], mk false S)) rfl rfl ?_
  obtain ⟨x2, ex2, hf⟩ := bnd_ex hf
  rw [← ex2]
  refine msegT C kX11_falses 29 1 (g := (true, 4, [.ref (0), .int v1, .int x2], [], mk false S)) rfl rfl ?_
  exact mfor (L' := [.ref (0), .int v1, .int x2]) ⟨Or.inr rfl, Or.inr rfl, Or.inr rfl, trivial⟩ (Hrc4 _ _ _ hf true)
theorem bX11_falses_4_f (C : mCx p (mR 1) s m args meth c G cX11_falses RX11 3 false 233 54500 233 54500) (hr : meth.sig.returnType = (some .int)) (hk : meth.locks = false) {S' : mT} {r : Int32} : ∀ (k : Nat) (v1 : Int32) (v2 : Int32) (S : mT), fX11_falses_4 false k v1 v2 S = some (r, S') → ∀ ok : Bool, mW p l e (mR 1) s m args below meth c G 3 233 54500 (mQ below G args s false S' (some (.int r))) (ok, 4, [.ref (0), .int v1, .int v2], [], mk false S) := by
  intro k
  induction k with
  | zero =>
    intro v1 v2 S hf ok
    cases hf
  | succ k ih =>
    intro v1 v2 S hf ok
    unfold fX11_falses_4 at hf
    obtain ⟨hok, hf⟩ := grd_ex hf
    refine msegT C kX11_falses 4 5 (g := ((kO (shU false) 8 && (kO 0 11 && true)), (if (S.1 (shU false) 9) ≤ v2 then 47 else 15), [.ref (0), .int v1, .int v2], [], mk false S)) rfl hok ?_
    by_cases hc : (S.1 (shU false) 9) ≤ v2
    · rw [if_pos hc] at hf ⊢
      refine msegT C kX11_falses 30 1 (g := (true, 48, [.ref (0), .int v1, .int v2], [.int v1], mk false S)) rfl rfl ?_
      cases hf
      exact gret_i C hr hk (kX11_falses _ (List.mem_of_getElem? (i := 31) rfl)).1
    · rw [if_neg hc] at hf ⊢
      obtain ⟨hok, hf⟩ := grd_ex hf
      refine msegT C kX11_falses 9 10 (g := ((kO 0 11 && (kI 35 ((10 : Int32) + v2) && (kO 0 11 && true))), 30, [.ref (0), .int v1, .int v2], [.int v2, .int (0 : Int32), .ref 35, .int (S.1 35 (mIx ((10 : Int32) + v2)))], mk false S)) rfl hok ?_
      obtain ⟨hok, hf⟩ := grd_ex hf
      refine msegT C kX11_falses 19 3 (g := ((kI 35 ((0 : Int32) + v2) && true), (if (S.1 35 (mIx ((10 : Int32) + v2))) = (S.1 35 (mIx ((0 : Int32) + v2))) then 41 else 35), [.ref (0), .int v1, .int v2], [], mk false S)) rfl hok ?_
      by_cases hc : (S.1 35 (mIx ((10 : Int32) + v2))) = (S.1 35 (mIx ((0 : Int32) + v2)))
      · rw [if_pos hc] at hf ⊢
        exact mfor (L' := [.ref (0), .int v1, .int v2]) ⟨Or.inr rfl, Or.inr rfl, Or.inr rfl, trivial⟩ (bX11_falses_41_f C hr hk ih hf true)
      · rw [if_neg hc] at hf ⊢
        refine msegT C kX11_falses 22 6 (g := (true, 41, [.ref (0), .int (v1 ||| ((1 : Int32) <<< (v2 &&& 31))), .int v2], [], mk false S)) rfl rfl ?_
        obtain ⟨x1, ex1, hf⟩ := bnd_ex hf
        rw [← ex1]
        exact mfor (L' := [.ref (0), .int x1, .int v2]) ⟨Or.inr rfl, Or.inr rfl, Or.inr rfl, trivial⟩ (bX11_falses_41_f C hr hk ih hf true)
theorem bX11_falses_0_f (C : mCx p (mR 1) s m args meth c G cX11_falses RX11 3 false 233 54500 233 54500) (hr : meth.sig.returnType = (some .int)) (hk : meth.locks = false) {S' : mT} {r : Int32} {S : mT} (hf : fX11_falses false S = some (r, S')) (ok : Bool) : mW p l e (mR 1) s m args below meth c G 3 233 54500 (mQ below G args s false S' (some (.int r))) (ok, 0, [.ref (0), .retAddr 0, .retAddr 0], [], mk false S) := by
  unfold fX11_falses at hf
  refine msegT C kX11_falses 0 4 (g := (true, 4, [.ref (0), .int (0 : Int32), .int (0 : Int32)], [], mk false S)) rfl rfl ?_
  exact mfor (L' := [.ref (0), .int (0 : Int32), .int (0 : Int32)]) ⟨Or.inr rfl, Or.inr rfl, Or.inr rfl, trivial⟩ (bX11_falses_4_f C hr hk _ _ _ _ hf true)
theorem qX11_falses_f {S S' : mT} {r : Int32} (hf : fX11_falses false S = some (r, S')) : mOk l mX11_falses 1 [.ref (0)] false S (some (.int r)) S' :=
  gMet (by decide) (Nat.le_of_ble_eq_true rfl) rfl (Nat.le_of_ble_eq_true rfl) (fun p e s m args below meth c G C hr hk => bX11_falses_0_f C hr hk hf true)
theorem bX11_falses_41_t (C : mCx p (mR 1) s m args meth c G cX11_falses RX11 3 false 233 54500 233 54500) (hr : meth.sig.returnType = (some .int)) (hk : meth.locks = false) {S' : mT} {r : Int32} {rc4 : Int32 → Int32 → mT → Option (Int32 × mT)} (Hrc4 : ∀ (v1 : Int32) (v2 : Int32) (S : mT), rc4 v1 v2 S = some (r, S') → ∀ ok : Bool, mW p l e (mR 1) s m args below meth c G 3 233 54500 (mQ below G args s true S' (some (.int r))) (ok, 4, [.ref (0), .int v1, .int v2], [], mk true S)) {v1 : Int32} {v2 : Int32} {S : mT} (hf : fX11_falses_41 true rc4 v1 v2 S = some (r, S')) (ok : Bool) : mW p l e (mR 1) s m args below meth c G 3 233 54500 (mQ below G args s true S' (some (.int r))) (ok, 41, [.ref (0), .int v1, .int v2], [], mk true S) := by
  unfold fX11_falses_41 at hf
  refine msegT C kX11_falses 28 1 (g := (true, 44, [.ref (0), .int v1, .int (v2 + (1 : Int32))], [], mk true S)) rfl rfl ?_
  obtain ⟨x2, ex2, hf⟩ := bnd_ex hf
  rw [← ex2]
  refine msegT C kX11_falses 29 1 (g := (true, 4, [.ref (0), .int v1, .int x2], [], mk true S)) rfl rfl ?_
  exact mfor (L' := [.ref (0), .int v1, .int x2]) ⟨Or.inr rfl, Or.inr rfl, Or.inr rfl, trivial⟩ (Hrc4 _ _ _ hf true)
theorem bX11_falses_4_t (C : mCx p (mR 1) s m args meth c G cX11_falses RX11 3 false 233 54500 233 54500) (hr : meth.sig.returnType = (some .int)) (hk : meth.locks = false) {S' : mT} {r : Int32} : ∀ (k : Nat) (v1 : Int32) (v2 : Int32) (S : mT), fX11_falses_4 true k v1 v2 S = some (r, S') → ∀ ok : Bool, mW p l e (mR 1) s m args below meth c G 3 233 54500 (mQ below G args s true S' (some (.int r))) (ok, 4, [.ref (0), .int v1, .int v2], [], mk true S) := by
  intro k
  induction k with
  | zero =>
    intro v1 v2 S hf ok
    cases hf
  | succ k ih =>
    intro v1 v2 S hf ok
    unfold fX11_falses_4 at hf
    obtain ⟨hok, hf⟩ := grd_ex hf
    refine msegT C kX11_falses 4 5 (g := ((kO (shU true) 8 && (kO 0 11 && true)), (if (S.1 (shU true) 9) ≤ v2 then 47 else 15), [.ref (0), .int v1, .int v2], [], mk true S)) rfl hok ?_
    by_cases hc : (S.1 (shU true) 9) ≤ v2
    · rw [if_pos hc] at hf ⊢
      refine msegT C kX11_falses 30 1 (g := (true, 48, [.ref (0), .int v1, .int v2], [.int v1], mk true S)) rfl rfl ?_
      cases hf
      exact gret_i C hr hk (kX11_falses _ (List.mem_of_getElem? (i := 31) rfl)).1
    · rw [if_neg hc] at hf ⊢
      obtain ⟨hok, hf⟩ := grd_ex hf
      refine msegT C kX11_falses 9 10 (g := ((kO 0 11 && (kI 35 ((10 : Int32) + v2) && (kO 0 11 && true))), 30, [.ref (0), .int v1, .int v2], [.int v2, .int (0 : Int32), .ref 35, .int (S.1 35 (mIx ((10 : Int32) + v2)))], mk true S)) rfl hok ?_
      obtain ⟨hok, hf⟩ := grd_ex hf
      refine msegT C kX11_falses 19 3 (g := ((kI 35 ((0 : Int32) + v2) && true), (if (S.1 35 (mIx ((10 : Int32) + v2))) = (S.1 35 (mIx ((0 : Int32) + v2))) then 41 else 35), [.ref (0), .int v1, .int v2], [], mk true S)) rfl hok ?_
      by_cases hc : (S.1 35 (mIx ((10 : Int32) + v2))) = (S.1 35 (mIx ((0 : Int32) + v2)))
      · rw [if_pos hc] at hf ⊢
        exact mfor (L' := [.ref (0), .int v1, .int v2]) ⟨Or.inr rfl, Or.inr rfl, Or.inr rfl, trivial⟩ (bX11_falses_41_t C hr hk ih hf true)
      · rw [if_neg hc] at hf ⊢
        refine msegT C kX11_falses 22 6 (g := (true, 41, [.ref (0), .int (v1 ||| ((1 : Int32) <<< (v2 &&& 31))), .int v2], [], mk true S)) rfl rfl ?_
        obtain ⟨x1, ex1, hf⟩ := bnd_ex hf
        rw [← ex1]
        exact mfor (L' := [.ref (0), .int x1, .int v2]) ⟨Or.inr rfl, Or.inr rfl, Or.inr rfl, trivial⟩ (bX11_falses_41_t C hr hk ih hf true)
theorem bX11_falses_0_t (C : mCx p (mR 1) s m args meth c G cX11_falses RX11 3 false 233 54500 233 54500) (hr : meth.sig.returnType = (some .int)) (hk : meth.locks = false) {S' : mT} {r : Int32} {S : mT} (hf : fX11_falses true S = some (r, S')) (ok : Bool) : mW p l e (mR 1) s m args below meth c G 3 233 54500 (mQ below G args s true S' (some (.int r))) (ok, 0, [.ref (0), .retAddr 0, .retAddr 0], [], mk true S) := by
  unfold fX11_falses at hf
  refine msegT C kX11_falses 0 4 (g := (true, 4, [.ref (0), .int (0 : Int32), .int (0 : Int32)], [], mk true S)) rfl rfl ?_
  exact mfor (L' := [.ref (0), .int (0 : Int32), .int (0 : Int32)]) ⟨Or.inr rfl, Or.inr rfl, Or.inr rfl, trivial⟩ (bX11_falses_4_t C hr hk _ _ _ _ hf true)
theorem qX11_falses_t {S S' : mT} {r : Int32} (hf : fX11_falses true S = some (r, S')) : mOk l mX11_falses 1 [.ref (0)] true S (some (.int r)) S' :=
  gMet (by decide) (Nat.le_of_ble_eq_true rfl) rfl (Nat.le_of_ble_eq_true rfl) (fun p e s m args below meth c G C hr hk => bX11_falses_0_t C hr hk hf true)
theorem bX11_fault_57 (C : mCx p (mR 1) s m args meth c G cX11_fault RX11 2 false 233 54500 233 54500) (hr : meth.sig.returnType = (some .int)) (hk : meth.locks = false) {b : Bool} {S' : mT} {r : Int32} {s0 : Int32} {S : mT} (hf : fX11_fault_57 s0 S = some (r, S')) (ok : Bool) : mW p l e (mR 1) s m args below meth c G 2 233 54500 (mQ below G args s b S' (some (.int r))) (ok, 57, [.retAddr 0, .retAddr 0], [.int s0], mk b S) := by
  unfold fX11_fault_57 at hf
  cases hf
  exact gret_i C hr hk (kX11_fault _ (List.mem_of_getElem? (i := 15) rfl)).1
theorem bX11_fault_0 (C : mCx p (mR 1) s m args meth c G cX11_fault RX11 2 false 233 54500 233 54500) (hr : meth.sig.returnType = (some .int)) (hk : meth.locks = false) {b : Bool} {S' : mT} {r : Int32} {v1 : Int32} {S : mT} (hf : fX11_fault v1 S = some (r, S')) (ok : Bool) : mW p l e (mR 1) s m args below meth c G 2 233 54500 (mQ below G args s b S' (some (.int r))) (ok, 0, [.ref (0), .int v1], [], mk b S) := by
  unfold fX11_fault at hf
  refine msegT C kX11_fault 0 2 (g := (true, (if (0 : Int) = v1.toInt then 28 else (if (1 : Int) = v1.toInt then 36 else 58)), [.ref (0), .int v1], [], mk b S)) rfl rfl ?_
  by_cases hc : (0 : Int) = v1.toInt
  · rw [if_pos hc] at hf ⊢
    obtain ⟨hok, hf⟩ := grd_ex hf
    refine msegT C kX11_fault 2 3 (g := ((kO 1 4 && (kO 0 11 && true)), 35, [.ref (0), .int v1], [.int (S.1 1 2)], mk b S)) rfl hok ?_
    cases hf
    exact gret_i C hr hk (kX11_fault _ (List.mem_of_getElem? (i := 5) rfl)).1
  · rw [if_neg hc] at hf ⊢
    by_cases hc : (1 : Int) = v1.toInt
    · rw [if_pos hc] at hf ⊢
      obtain ⟨hok, hf⟩ := grd_ex hf
      refine msegT C kX11_fault 6 4 (g := ((kO 1 4 && (kO 0 11 && true)), (if (S.1 1 2) = 0 then 46 else 50), [.ref (0), .int v1], [], mk b S)) rfl hok ?_
      by_cases hc : (S.1 1 2) = 0
      · rw [if_pos hc] at hf ⊢
        refine msegT C kX11_fault 10 2 (g := (true, 57, [.ref (0), .int v1], [.int (-1 : Int32)], mk b S)) rfl rfl ?_
        exact mfor (L' := [.retAddr 0, .retAddr 0]) ⟨Or.inl rfl, Or.inl rfl, trivial⟩ (bX11_fault_57 C hr hk hf true)
      · rw [if_neg hc] at hf ⊢
        obtain ⟨hok, hf⟩ := grd_ex hf
        refine msegT C kX11_fault 12 3 (g := ((kO 1 4 && (kO 0 11 && true)), 57, [.ref (0), .int v1], [.int (S.1 1 3)], mk b S)) rfl hok ?_
        exact mfor (L' := [.retAddr 0, .retAddr 0]) ⟨Or.inl rfl, Or.inl rfl, trivial⟩ (bX11_fault_57 C hr hk hf true)
    · rw [if_neg hc] at hf ⊢
      refine msegT C kX11_fault 16 1 (g := (true, 59, [.ref (0), .int v1], [.int (-1 : Int32)], mk b S)) rfl rfl ?_
      cases hf
      exact gret_i C hr hk (kX11_fault _ (List.mem_of_getElem? (i := 17) rfl)).1
theorem qX11_fault {b : Bool} {v1 : Int32} {S S' : mT} {r : Int32} (hf : fX11_fault v1 S = some (r, S')) : mOk l mX11_fault 1 [.ref (0), .int v1] b S (some (.int r)) S' :=
  gMet (by decide) (Nat.le_of_ble_eq_true rfl) rfl (Nat.le_of_ble_eq_true rfl) (fun p e s m args below meth c G C hr hk => bX11_fault_0 C hr hk hf true)
theorem bX4_append_46 (C : mCx p (mR 1) s m args meth c G cX4_append RX4 3 false 233 54500 233 54500) (hr : meth.sig.returnType = none) (hk : meth.locks = false) {b : Bool} {S' : mT} {S : mT} (hf : fX4_append_46 S = some S') (ok : Bool) : mW p l e (mR 1) s m args below meth c G 3 233 54500 (mQ below G args s b S' none) (ok, 46, [.retAddr 0, .retAddr 0, .retAddr 0], [], mk b S) := by
  unfold fX4_append_46 at hf
  cases hf
  exact gret_v C hr hk (kX4_append _ (List.mem_of_getElem? (i := 25) rfl)).1
theorem bX4_append_3 (C : mCx p (mR 1) s m args meth c G cX4_append RX4 3 false 233 54500 233 54500) (hr : meth.sig.returnType = none) (hk : meth.locks = false) {b : Bool} {S' : mT} : ∀ (k : Nat) (v1 : Int32) (v2 : Int32) (S : mT), fX4_append_3 k v1 v2 S = some S' → ∀ ok : Bool, mW p l e (mR 1) s m args below meth c G 3 233 54500 (mQ below G args s b S' none) (ok, 3, [.ref (1), .int v1, .int v2], [], mk b S) := by
  intro k
  induction k with
  | zero =>
    intro v1 v2 S hf ok
    cases hf
  | succ k ih =>
    intro v1 v2 S hf ok
    unfold fX4_append_3 at hf
    refine msegT C kX4_append 2 2 (g := (true, (if v2 < 0 then 46 else 7), [.ref (1), .int v1, .int v2], [], mk b S)) rfl rfl ?_
    by_cases hc : v2 < 0
    · rw [if_pos hc] at hf ⊢
      exact mfor (L' := [.retAddr 0, .retAddr 0, .retAddr 0]) ⟨Or.inl rfl, Or.inl rfl, Or.inl rfl, trivial⟩ (bX4_append_46 C hr hk hf true)
    · rw [if_neg hc] at hf ⊢
      obtain ⟨hok, hf⟩ := grd_ex hf
      refine msegT C kX4_append 4 4 (g := ((kO 1 4 && true), (if (1600 : Int32) ≤ (S.1 1 1) then 46 else 17), [.ref (1), .int v1, .int v2], [], mk b S)) rfl hok ?_
      by_cases hc : (1600 : Int32) ≤ (S.1 1 1)
      · rw [if_pos hc] at hf ⊢
        exact mfor (L' := [.retAddr 0, .retAddr 0, .retAddr 0]) ⟨Or.inl rfl, Or.inl rfl, Or.inl rfl, trivial⟩ (bX4_append_46 C hr hk hf true)
      · rw [if_neg hc] at hf ⊢
        obtain ⟨hok, hf⟩ := grd_ex hf
        refine msegT C kX4_append 8 9 (g := ((kB 2 (S.1 1 1) && (kO 1 4 && (kO 1 4 && true))), 30, [.ref (1), .int v1, .int v2], [], mk b (sI S 2 (mIx (S.1 1 1)) (kN 2 ((v1 >>> (v2 &&& 31)).toInt8.toInt32))))) rfl hok ?_
        obtain ⟨S1, eS1, hf⟩ := bnd_ex hf
        rw [← eS1]
        obtain ⟨hok, hf⟩ := grd_ex hf
        refine msegT C kX4_append 17 6 (g := ((kO 1 4 && (kO 1 4 && true)), 40, [.ref (1), .int v1, .int v2], [], mk b (sI S1 1 1 ((S1.1 1 1) + (1 : Int32))))) rfl hok ?_
        obtain ⟨S2, eS2, hf⟩ := bnd_ex hf
        rw [← eS2]
        refine msegT C kX4_append 23 1 (g := (true, 43, [.ref (1), .int v1, .int (v2 + (-8 : Int32))], [], mk b S2)) rfl rfl ?_
        obtain ⟨x3, ex3, hf⟩ := bnd_ex hf
        rw [← ex3]
        refine msegT C kX4_append 24 1 (g := (true, 3, [.ref (1), .int v1, .int x3], [], mk b S2)) rfl rfl ?_
        exact mfor (L' := [.ref (1), .int v1, .int x3]) ⟨Or.inr rfl, Or.inr rfl, Or.inr rfl, trivial⟩ (ih _ _ _ hf true)
theorem bX4_append_0 (C : mCx p (mR 1) s m args meth c G cX4_append RX4 3 false 233 54500 233 54500) (hr : meth.sig.returnType = none) (hk : meth.locks = false) {b : Bool} {S' : mT} {v1 : Int32} {S : mT} (hf : fX4_append v1 S = some S') (ok : Bool) : mW p l e (mR 1) s m args below meth c G 3 233 54500 (mQ below G args s b S' none) (ok, 0, [.ref (1), .int v1, .retAddr 0], [], mk b S) := by
  unfold fX4_append at hf
  refine msegT C kX4_append 0 2 (g := (true, 3, [.ref (1), .int v1, .int (24 : Int32)], [], mk b S)) rfl rfl ?_
  exact mfor (L' := [.ref (1), .int v1, .int (24 : Int32)]) ⟨Or.inr rfl, Or.inr rfl, Or.inr rfl, trivial⟩ (bX4_append_3 C hr hk _ _ _ _ hf true)
theorem qX4_append {b : Bool} {v1 : Int32} {S S' : mT} (hf : fX4_append v1 S = some S') : mOk l mX4_append 1 [.ref (1), .int v1] b S none S' :=
  gMet (by decide) (Nat.le_of_ble_eq_true rfl) rfl (Nat.le_of_ble_eq_true rfl) (fun p e s m args below meth c G C hr hk => bX4_append_0 C hr hk hf true)
theorem bX11_feed_0 (C : mCx p (mR 2) s m args meth c G cX11_feed RX11 6 false 233 54500 233 54500) (hr : meth.sig.returnType = (some .int)) (hk : meth.locks = false) {b : Bool} {S' : mT} {r : Int32} {v1 : Int32} {v2 : Int32} {v3 : Int32} {v4 : Int32} {v5 : Int32} {S : mT} (hf : fX11_feed v1 v2 v3 v4 v5 S = some (r, S')) (ok : Bool) : mW p l e (mR 2) s m args below meth c G 6 233 54500 (mQ below G args s b S' (some (.int r))) (ok, 0, [.ref (0), .int v1, .int v2, .int v3, .int v4, .int v5], [], mk b S) := by
  unfold fX11_feed at hf
  obtain ⟨hok, hf⟩ := grd_ex hf
  refine msegT C kX11_feed 0 5 (g := ((kO 1 4 && (kO 0 11 && true)), (if (S.1 1 1) ≤ (1580 : Int32) then 15 else 13), [.ref (0), .int v1, .int v2, .int v3, .int v4, .int v5], [], mk b S)) rfl hok ?_
  by_cases hc : (S.1 1 1) ≤ (1580 : Int32)
  · rw [if_pos hc] at hf ⊢
    obtain ⟨hok, hf⟩ := grd_ex hf
    refine msegT C kX11_feed 7 3 (g := ((kO 0 11 && true), 20, [.ref (0), .int v1, .int v2, .int v3, .int v4, .int v5], [.int v1, .ref 1], mk b S)) rfl hok ?_
    obtain ⟨S1, hq, hf⟩ := bndV_ex hf
    refine mcall (kd := 0) (vs := [.ref 1, .int v1]) (rest := []) (r := none) (h' := mk b S1) (ok' := true) C lkRX11_89 (qX4_append hq) (kX11_feed _ (List.mem_of_getElem? (i := 10) rfl)).1 ⟨_, _, rfl, rfl, Nat.le_of_ble_eq_true rfl, _, _, rfl, rfl, rfl⟩ (Nat.le_of_ble_eq_true rfl) (Nat.le_of_ble_eq_true rfl) (Nat.le_refl _) (Nat.le_refl _) (Nat.le_of_ble_eq_true rfl) ?_
    obtain ⟨hok, hf⟩ := grd_ex hf
    refine msegT C kX11_feed 11 3 (g := ((kO 0 11 && true), 28, [.ref (0), .int v1, .int v2, .int v3, .int v4, .int v5], [.int v2, .ref 1], mk b S1)) rfl hok ?_
    obtain ⟨S2, hq, hf⟩ := bndV_ex hf
    refine mcall (kd := 0) (vs := [.ref 1, .int v2]) (rest := []) (r := none) (h' := mk b S2) (ok' := true) C lkRX11_89 (qX4_append hq) (kX11_feed _ (List.mem_of_getElem? (i := 14) rfl)).1 ⟨_, _, rfl, rfl, Nat.le_of_ble_eq_true rfl, _, _, rfl, rfl, rfl⟩ (Nat.le_of_ble_eq_true rfl) (Nat.le_of_ble_eq_true rfl) (Nat.le_refl _) (Nat.le_refl _) (Nat.le_of_ble_eq_true rfl) ?_
    obtain ⟨hok, hf⟩ := grd_ex hf
    refine msegT C kX11_feed 15 3 (g := ((kO 0 11 && true), 36, [.ref (0), .int v1, .int v2, .int v3, .int v4, .int v5], [.int v3, .ref 1], mk b S2)) rfl hok ?_
    obtain ⟨S3, hq, hf⟩ := bndV_ex hf
    refine mcall (kd := 0) (vs := [.ref 1, .int v3]) (rest := []) (r := none) (h' := mk b S3) (ok' := true) C lkRX11_89 (qX4_append hq) (kX11_feed _ (List.mem_of_getElem? (i := 18) rfl)).1 ⟨_, _, rfl, rfl, Nat.le_of_ble_eq_true rfl, _, _, rfl, rfl, rfl⟩ (Nat.le_of_ble_eq_true rfl) (Nat.le_of_ble_eq_true rfl) (Nat.le_refl _) (Nat.le_refl _) (Nat.le_of_ble_eq_true rfl) ?_
    obtain ⟨hok, hf⟩ := grd_ex hf
    refine msegT C kX11_feed 19 3 (g := ((kO 0 11 && true), 45, [.ref (0), .int v1, .int v2, .int v3, .int v4, .int v5], [.int v4, .ref 1], mk b S3)) rfl hok ?_
    obtain ⟨S4, hq, hf⟩ := bndV_ex hf
    refine mcall (kd := 0) (vs := [.ref 1, .int v4]) (rest := []) (r := none) (h' := mk b S4) (ok' := true) C lkRX11_89 (qX4_append hq) (kX11_feed _ (List.mem_of_getElem? (i := 22) rfl)).1 ⟨_, _, rfl, rfl, Nat.le_of_ble_eq_true rfl, _, _, rfl, rfl, rfl⟩ (Nat.le_of_ble_eq_true rfl) (Nat.le_of_ble_eq_true rfl) (Nat.le_refl _) (Nat.le_refl _) (Nat.le_of_ble_eq_true rfl) ?_
    obtain ⟨hok, hf⟩ := grd_ex hf
    refine msegT C kX11_feed 23 3 (g := ((kO 0 11 && true), 54, [.ref (0), .int v1, .int v2, .int v3, .int v4, .int v5], [.int v5, .ref 1], mk b S4)) rfl hok ?_
    obtain ⟨S5, hq, hf⟩ := bndV_ex hf
    refine mcall (kd := 0) (vs := [.ref 1, .int v5]) (rest := []) (r := none) (h' := mk b S5) (ok' := true) C lkRX11_89 (qX4_append hq) (kX11_feed _ (List.mem_of_getElem? (i := 26) rfl)).1 ⟨_, _, rfl, rfl, Nat.le_of_ble_eq_true rfl, _, _, rfl, rfl, rfl⟩ (Nat.le_of_ble_eq_true rfl) (Nat.le_of_ble_eq_true rfl) (Nat.le_refl _) (Nat.le_refl _) (Nat.le_of_ble_eq_true rfl) ?_
    obtain ⟨hok, hf⟩ := grd_ex hf
    refine msegT C kX11_feed 27 3 (g := ((kO 1 4 && (kO 0 11 && true)), 64, [.ref (0), .int v1, .int v2, .int v3, .int v4, .int v5], [.int (S5.1 1 1)], mk b S5)) rfl hok ?_
    cases hf
    exact gret_i C hr hk (kX11_feed _ (List.mem_of_getElem? (i := 30) rfl)).1
  · rw [if_neg hc] at hf ⊢
    refine msegT C kX11_feed 5 1 (g := (true, 14, [.ref (0), .int v1, .int v2, .int v3, .int v4, .int v5], [.int (-1 : Int32)], mk b S)) rfl rfl ?_
    cases hf
    exact gret_i C hr hk (kX11_feed _ (List.mem_of_getElem? (i := 6) rfl)).1
theorem qX11_feed {b : Bool} {v1 : Int32} {v2 : Int32} {v3 : Int32} {v4 : Int32} {v5 : Int32} {S S' : mT} {r : Int32} (hf : fX11_feed v1 v2 v3 v4 v5 S = some (r, S')) : mOk l mX11_feed 2 [.ref (0), .int v1, .int v2, .int v3, .int v4, .int v5] b S (some (.int r)) S' :=
  gMet (by decide) (Nat.le_of_ble_eq_true rfl) rfl (Nat.le_of_ble_eq_true rfl) (fun p e s m args below meth c G C hr hk => bX11_feed_0 C hr hk hf true)
theorem bX11_leaveOne_0 (C : mCx p (mR 1) s m args meth c G cX11_leaveOne RX11 2 false 233 54500 233 54500) (hr : meth.sig.returnType = none) (hk : meth.locks = false) {b : Bool} {S' : mT} {v1 : Int32} {S : mT} (hf : fX11_leaveOne v1 S = some S') (ok : Bool) : mW p l e (mR 1) s m args below meth c G 2 233 54500 (mQ below G args s b S' none) (ok, 0, [.ref (0), .int v1], [], mk b S) := by
  unfold fX11_leaveOne at hf
  obtain ⟨hok, hf⟩ := grd_ex hf
  refine msegT C kX11_leaveOne 0 10 (g := ((kI 35 ((0 : Int32) + v1) && (kI 35 ((0 : Int32) + v1) && (kO 0 11 && true))), 12, [.ref (0), .int v1], [], mk b (sI S 35 (mIx ((0 : Int32) + v1)) ((S.1 35 (mIx ((0 : Int32) + v1))) - (1 : Int32))))) rfl hok ?_
  obtain ⟨S1, eS1, hf⟩ := bnd_ex hf
  rw [← eS1]
  obtain ⟨hok, hf⟩ := grd_ex hf
  refine msegT C kX11_leaveOne 10 10 (g := ((kO 0 11 && (kO 0 11 && true)), 26, [.ref (0), .int v1], [.int ((5 : Int32) + v1), .ref 35, .int ((5 : Int32) + v1), .ref 35], mk b S1)) rfl hok ?_
  obtain ⟨hok, hf⟩ := grd_ex hf
  refine msegT C kX11_leaveOne 20 7 (g := ((kI 35 ((0 : Int32) + v1) && (kO 0 11 && (kI 35 ((5 : Int32) + v1) && true))), 35, [.ref (0), .int v1], [.int (S1.1 35 (mIx ((0 : Int32) + v1))), .int (S1.1 35 (mIx ((5 : Int32) + v1))), .int ((5 : Int32) + v1), .ref 35], mk b S1)) rfl hok ?_
  obtain ⟨x2, ex2, hf⟩ := bnd_ex hf
  refine so_min (ok' := true) C (kX11_leaveOne _ (List.mem_of_getElem? (i := 27) rfl)).1 lmRX11_315 (Nat.le_of_ble_eq_true rfl) (Nat.le_refl _) (Nat.le_refl _) ?_
  rw [← ex2]
  obtain ⟨hok, hf⟩ := grd_ex hf
  refine msegT C kX11_leaveOne 28 1 (g := ((kI 35 ((5 : Int32) + v1) && true), 39, [.ref (0), .int v1], [], mk b (sI S1 35 (mIx ((5 : Int32) + v1)) x2))) rfl hok ?_
  obtain ⟨S3, eS3, hf⟩ := bnd_ex hf
  rw [← eS3]
  cases hf
  exact gret_v C hr hk (kX11_leaveOne _ (List.mem_of_getElem? (i := 29) rfl)).1
theorem qX11_leaveOne {b : Bool} {v1 : Int32} {S S' : mT} (hf : fX11_leaveOne v1 S = some S') : mOk l mX11_leaveOne 1 [.ref (0), .int v1] b S none S' :=
  gMet (by decide) (Nat.le_of_ble_eq_true rfl) rfl (Nat.le_of_ble_eq_true rfl) (fun p e s m args below meth c G C hr hk => bX11_leaveOne_0 C hr hk hf true)
theorem bX11_goes_19_f (C : mCx p (mR 3) s m args meth c G cX11_goes RX11 2 false 233 54500 233 54500) (hr : meth.sig.returnType = (some .int)) (hk : meth.locks = false) {S' : mT} {r : Int32} {S : mT} (hf : fX11_goes_19 false S = some (r, S')) (ok : Bool) : mW p l e (mR 3) s m args below meth c G 2 233 54500 (mQ below G args s false S' (some (.int r))) (ok, 19, [.retAddr 0, .retAddr 0], [], mk false S) := by
  unfold fX11_goes_19 at hf
  refine msegT C kX11_goes 11 1 (g := (true, 20, [.retAddr 0, .retAddr 0], [.int (-1 : Int32)], mk false S)) rfl rfl ?_
  cases hf
  exact gret_i C hr hk (kX11_goes _ (List.mem_of_getElem? (i := 12) rfl)).1
theorem bX11_goes_0_f (C : mCx p (mR 3) s m args meth c G cX11_goes RX11 2 false 233 54500 233 54500) (hr : meth.sig.returnType = (some .int)) (hk : meth.locks = false) {S' : mT} {r : Int32} {v1 : Int32} {S : mT} (hf : fX11_goes false v1 S = some (r, S')) (ok : Bool) : mW p l e (mR 3) s m args below meth c G 2 233 54500 (mQ below G args s false S' (some (.int r))) (ok, 0, [.ref (0), .int v1], [], mk false S) := by
  unfold fX11_goes at hf
  refine msegT C kX11_goes 0 2 (g := (true, 2, [.ref (0), .int v1], [.int v1, .ref (0)], mk false S)) rfl rfl ?_
  obtain ⟨x2, S1, hq, hf⟩ := bndC_ex hf
  refine mcall (kd := 0) (vs := [.ref (0), .int v1]) (rest := []) (r := (some (.int x2))) (h' := mk false S1) (ok' := true) C lkRX11_124 (qX11_isHouse_f hq) (kX11_goes _ (List.mem_of_getElem? (i := 2) rfl)).1 ⟨_, _, rfl, rfl, Nat.le_of_ble_eq_true rfl, _, _, rfl, rfl, rfl⟩ (Nat.le_of_ble_eq_true rfl) (Nat.le_of_ble_eq_true rfl) (Nat.le_refl _) (Nat.le_refl _) (Nat.le_of_ble_eq_true rfl) ?_
  refine msegT C kX11_goes 3 1 (g := (true, (if x2 = 0 then 19 else 8), [.ref (0), .int v1], [], mk false S1)) rfl rfl ?_
  by_cases hc : x2 = 0
  · rw [if_pos hc] at hf ⊢
    exact mfor (L' := [.retAddr 0, .retAddr 0]) ⟨Or.inl rfl, Or.inl rfl, trivial⟩ (bX11_goes_19_f C hr hk hf true)
  · rw [if_neg hc] at hf ⊢
    obtain ⟨hok, hf⟩ := grd_ex hf
    refine msegT C kX11_goes 4 7 (g := ((kI 35 ((0 : Int32) + v1) && (kO 0 11 && true)), (if 0 < (S1.1 35 (mIx ((0 : Int32) + v1))) then 21 else 19), [.ref (0), .int v1], [], mk false S1)) rfl hok ?_
    by_cases hc : 0 < (S1.1 35 (mIx ((0 : Int32) + v1)))
    · rw [if_pos hc] at hf ⊢
      refine msegT C kX11_goes 13 2 (g := (true, 23, [.ref (0), .int v1], [.int v1, .ref (0)], mk false S1)) rfl rfl ?_
      obtain ⟨S3, hq, hf⟩ := bndV_ex hf
      refine mcall (kd := 0) (vs := [.ref (0), .int v1]) (rest := []) (r := none) (h' := mk false S3) (ok' := true) C lkRX11_152 (qX11_leaveOne hq) (kX11_goes _ (List.mem_of_getElem? (i := 15) rfl)).1 ⟨_, _, rfl, rfl, Nat.le_of_ble_eq_true rfl, _, _, rfl, rfl, rfl⟩ (Nat.le_of_ble_eq_true rfl) (Nat.le_of_ble_eq_true rfl) (Nat.le_refl _) (Nat.le_refl _) (Nat.le_of_ble_eq_true rfl) ?_
      obtain ⟨hok, hf⟩ := grd_ex hf
      refine msegT C kX11_goes 16 4 (g := ((kO 0 11 && (kO 0 11 && true)), 34, [.ref (0), .int v1], [.ref 35, .ref 37], mk false S3)) rfl hok ?_
      obtain ⟨S4, hq, hf⟩ := bndV_ex hf
      refine mcall (kd := 0) (vs := [.ref 37, .ref 35]) (rest := []) (r := none) (h' := mk false S4) (ok' := true) C lkRX11_149 (qX2_keep hq) (kX11_goes _ (List.mem_of_getElem? (i := 20) rfl)).1 ⟨_, _, rfl, rfl, Nat.le_of_ble_eq_true rfl, _, _, rfl, rfl, rfl⟩ (Nat.le_of_ble_eq_true rfl) (Nat.le_of_ble_eq_true rfl) (Nat.le_refl _) (Nat.le_refl _) (Nat.le_of_ble_eq_true rfl) ?_
      obtain ⟨hok, hf⟩ := grd_ex hf
      refine msegT C kX11_goes 21 6 (g := ((kI 35 ((0 : Int32) + v1) && (kO 0 11 && true)), 45, [.ref (0), .int v1], [.int (S4.1 35 (mIx ((0 : Int32) + v1)))], mk false S4)) rfl hok ?_
      cases hf
      exact gret_i C hr hk (kX11_goes _ (List.mem_of_getElem? (i := 27) rfl)).1
    · rw [if_neg hc] at hf ⊢
      exact mfor (L' := [.retAddr 0, .retAddr 0]) ⟨Or.inl rfl, Or.inl rfl, trivial⟩ (bX11_goes_19_f C hr hk hf true)
theorem qX11_goes_f {v1 : Int32} {S S' : mT} {r : Int32} (hf : fX11_goes false v1 S = some (r, S')) : mOk l mX11_goes 3 [.ref (0), .int v1] false S (some (.int r)) S' :=
  gMet (by decide) (Nat.le_of_ble_eq_true rfl) rfl (Nat.le_of_ble_eq_true rfl) (fun p e s m args below meth c G C hr hk => bX11_goes_0_f C hr hk hf true)
theorem bX11_goes_19_t (C : mCx p (mR 3) s m args meth c G cX11_goes RX11 2 false 233 54500 233 54500) (hr : meth.sig.returnType = (some .int)) (hk : meth.locks = false) {S' : mT} {r : Int32} {S : mT} (hf : fX11_goes_19 true S = some (r, S')) (ok : Bool) : mW p l e (mR 3) s m args below meth c G 2 233 54500 (mQ below G args s true S' (some (.int r))) (ok, 19, [.retAddr 0, .retAddr 0], [], mk true S) := by
  unfold fX11_goes_19 at hf
  refine msegT C kX11_goes 11 1 (g := (true, 20, [.retAddr 0, .retAddr 0], [.int (-1 : Int32)], mk true S)) rfl rfl ?_
  cases hf
  exact gret_i C hr hk (kX11_goes _ (List.mem_of_getElem? (i := 12) rfl)).1
theorem bX11_goes_0_t (C : mCx p (mR 3) s m args meth c G cX11_goes RX11 2 false 233 54500 233 54500) (hr : meth.sig.returnType = (some .int)) (hk : meth.locks = false) {S' : mT} {r : Int32} {v1 : Int32} {S : mT} (hf : fX11_goes true v1 S = some (r, S')) (ok : Bool) : mW p l e (mR 3) s m args below meth c G 2 233 54500 (mQ below G args s true S' (some (.int r))) (ok, 0, [.ref (0), .int v1], [], mk true S) := by
  unfold fX11_goes at hf
  refine msegT C kX11_goes 0 2 (g := (true, 2, [.ref (0), .int v1], [.int v1, .ref (0)], mk true S)) rfl rfl ?_
  obtain ⟨x2, S1, hq, hf⟩ := bndC_ex hf
  refine mcall (kd := 0) (vs := [.ref (0), .int v1]) (rest := []) (r := (some (.int x2))) (h' := mk true S1) (ok' := true) C lkRX11_124 (qX11_isHouse_t hq) (kX11_goes _ (List.mem_of_getElem? (i := 2) rfl)).1 ⟨_, _, rfl, rfl, Nat.le_of_ble_eq_true rfl, _, _, rfl, rfl, rfl⟩ (Nat.le_of_ble_eq_true rfl) (Nat.le_of_ble_eq_true rfl) (Nat.le_refl _) (Nat.le_refl _) (Nat.le_of_ble_eq_true rfl) ?_
  refine msegT C kX11_goes 3 1 (g := (true, (if x2 = 0 then 19 else 8), [.ref (0), .int v1], [], mk true S1)) rfl rfl ?_
  by_cases hc : x2 = 0
  · rw [if_pos hc] at hf ⊢
    exact mfor (L' := [.retAddr 0, .retAddr 0]) ⟨Or.inl rfl, Or.inl rfl, trivial⟩ (bX11_goes_19_t C hr hk hf true)
  · rw [if_neg hc] at hf ⊢
    obtain ⟨hok, hf⟩ := grd_ex hf
    refine msegT C kX11_goes 4 7 (g := ((kI 35 ((0 : Int32) + v1) && (kO 0 11 && true)), (if 0 < (S1.1 35 (mIx ((0 : Int32) + v1))) then 21 else 19), [.ref (0), .int v1], [], mk true S1)) rfl hok ?_
    by_cases hc : 0 < (S1.1 35 (mIx ((0 : Int32) + v1)))
    · rw [if_pos hc] at hf ⊢
      refine msegT C kX11_goes 13 2 (g := (true, 23, [.ref (0), .int v1], [.int v1, .ref (0)], mk true S1)) rfl rfl ?_
      obtain ⟨S3, hq, hf⟩ := bndV_ex hf
      refine mcall (kd := 0) (vs := [.ref (0), .int v1]) (rest := []) (r := none) (h' := mk true S3) (ok' := true) C lkRX11_152 (qX11_leaveOne hq) (kX11_goes _ (List.mem_of_getElem? (i := 15) rfl)).1 ⟨_, _, rfl, rfl, Nat.le_of_ble_eq_true rfl, _, _, rfl, rfl, rfl⟩ (Nat.le_of_ble_eq_true rfl) (Nat.le_of_ble_eq_true rfl) (Nat.le_refl _) (Nat.le_refl _) (Nat.le_of_ble_eq_true rfl) ?_
      obtain ⟨hok, hf⟩ := grd_ex hf
      refine msegT C kX11_goes 16 4 (g := ((kO 0 11 && (kO 0 11 && true)), 34, [.ref (0), .int v1], [.ref 35, .ref 37], mk true S3)) rfl hok ?_
      obtain ⟨S4, hq, hf⟩ := bndV_ex hf
      refine mcall (kd := 0) (vs := [.ref 37, .ref 35]) (rest := []) (r := none) (h' := mk true S4) (ok' := true) C lkRX11_149 (qX2_keep hq) (kX11_goes _ (List.mem_of_getElem? (i := 20) rfl)).1 ⟨_, _, rfl, rfl, Nat.le_of_ble_eq_true rfl, _, _, rfl, rfl, rfl⟩ (Nat.le_of_ble_eq_true rfl) (Nat.le_of_ble_eq_true rfl) (Nat.le_refl _) (Nat.le_refl _) (Nat.le_of_ble_eq_true rfl) ?_
      obtain ⟨hok, hf⟩ := grd_ex hf
      refine msegT C kX11_goes 21 6 (g := ((kI 35 ((0 : Int32) + v1) && (kO 0 11 && true)), 45, [.ref (0), .int v1], [.int (S4.1 35 (mIx ((0 : Int32) + v1)))], mk true S4)) rfl hok ?_
      cases hf
      exact gret_i C hr hk (kX11_goes _ (List.mem_of_getElem? (i := 27) rfl)).1
    · rw [if_neg hc] at hf ⊢
      exact mfor (L' := [.retAddr 0, .retAddr 0]) ⟨Or.inl rfl, Or.inl rfl, trivial⟩ (bX11_goes_19_t C hr hk hf true)
theorem qX11_goes_t {v1 : Int32} {S S' : mT} {r : Int32} (hf : fX11_goes true v1 S = some (r, S')) : mOk l mX11_goes 3 [.ref (0), .int v1] true S (some (.int r)) S' :=
  gMet (by decide) (Nat.le_of_ble_eq_true rfl) rfl (Nat.le_of_ble_eq_true rfl) (fun p e s m args below meth c G C hr hk => bX11_goes_0_t C hr hk hf true)
theorem bX11_hide_24_f (C : mCx p (mR 3) s m args meth c G cX11_hide RX11 4 false 233 54500 233 54500) (hr : meth.sig.returnType = (some .int)) (hk : meth.locks = false) {S' : mT} {r : Int32} {S : mT} (hf : fX11_hide_24 false S = some (r, S')) (ok : Bool) : mW p l e (mR 3) s m args below meth c G 4 233 54500 (mQ below G args s false S' (some (.int r))) (ok, 24, [.retAddr 0, .retAddr 0, .retAddr 0, .retAddr 0], [], mk false S) := by
  unfold fX11_hide_24 at hf
  refine msegT C kX11_hide 14 1 (g := (true, 25, [.retAddr 0, .retAddr 0, .retAddr 0, .retAddr 0], [.int (-1 : Int32)], mk false S)) rfl rfl ?_
  cases hf
  exact gret_i C hr hk (kX11_hide _ (List.mem_of_getElem? (i := 15) rfl)).1
theorem bX11_hide_0_f (C : mCx p (mR 3) s m args meth c G cX11_hide RX11 4 false 233 54500 233 54500) (hr : meth.sig.returnType = (some .int)) (hk : meth.locks = false) {S' : mT} {r : Int32} {v1 : Int32} {v2 : Int32} {S : mT} (hf : fX11_hide false v1 v2 S = some (r, S')) (ok : Bool) : mW p l e (mR 3) s m args below meth c G 4 233 54500 (mQ below G args s false S' (some (.int r))) (ok, 0, [.ref (0), .int v1, .int v2, .retAddr 0], [], mk false S) := by
  unfold fX11_hide at hf
  refine msegT C kX11_hide 0 2 (g := (true, 2, [.ref (0), .int v1, .int v2, .retAddr 0], [.int v1, .ref (0)], mk false S)) rfl rfl ?_
  obtain ⟨x2, S1, hq, hf⟩ := bndC_ex hf
  refine mcall (kd := 0) (vs := [.ref (0), .int v1]) (rest := []) (r := (some (.int x2))) (h' := mk false S1) (ok' := true) C lkRX11_124 (qX11_isHouse_f hq) (kX11_hide _ (List.mem_of_getElem? (i := 2) rfl)).1 ⟨_, _, rfl, rfl, Nat.le_of_ble_eq_true rfl, _, _, rfl, rfl, rfl⟩ (Nat.le_of_ble_eq_true rfl) (Nat.le_of_ble_eq_true rfl) (Nat.le_refl _) (Nat.le_refl _) (Nat.le_of_ble_eq_true rfl) ?_
  refine msegT C kX11_hide 3 1 (g := (true, (if x2 = 0 then 24 else 8), [.ref (0), .int v1, .int v2, .retAddr 0], [], mk false S1)) rfl rfl ?_
  by_cases hc : x2 = 0
  · rw [if_pos hc] at hf ⊢
    exact mfor (L' := [.retAddr 0, .retAddr 0, .retAddr 0, .retAddr 0]) ⟨Or.inl rfl, Or.inl rfl, Or.inl rfl, Or.inl rfl, trivial⟩ (bX11_hide_24_f C hr hk hf true)
  · rw [if_neg hc] at hf ⊢
    refine msegT C kX11_hide 4 2 (g := (true, (if v2 < 0 then 24 else 12), [.ref (0), .int v1, .int v2, .retAddr 0], [], mk false S1)) rfl rfl ?_
    by_cases hc : v2 < 0
    · rw [if_pos hc] at hf ⊢
      exact mfor (L' := [.retAddr 0, .retAddr 0, .retAddr 0, .retAddr 0]) ⟨Or.inl rfl, Or.inl rfl, Or.inl rfl, Or.inl rfl, trivial⟩ (bX11_hide_24_f C hr hk hf true)
    · rw [if_neg hc] at hf ⊢
      obtain ⟨hok, hf⟩ := grd_ex hf
      refine msegT C kX11_hide 6 8 (g := ((kI 35 ((0 : Int32) + v1) && (kO 0 11 && true)), (if v2 ≤ (S1.1 35 (mIx ((0 : Int32) + v1))) then 26 else 24), [.ref (0), .int v1, .int v2, .retAddr 0], [], mk false S1)) rfl hok ?_
      by_cases hc : v2 ≤ (S1.1 35 (mIx ((0 : Int32) + v1)))
      · rw [if_pos hc] at hf ⊢
        obtain ⟨hok, hf⟩ := grd_ex hf
        refine msegT C kX11_hide 16 7 (g := ((kI 35 ((5 : Int32) + v1) && (kO 0 11 && true)), 35, [.ref (0), .int v1, .int v2, .int (S1.1 35 (mIx ((5 : Int32) + v1)))], [], mk false S1)) rfl hok ?_
        obtain ⟨x3, ex3, hf⟩ := bnd_ex hf
        rw [← ex3]
        obtain ⟨hok, hf⟩ := grd_ex hf
        refine msegT C kX11_hide 23 7 (g := ((kI 35 ((5 : Int32) + v1) && (kO 0 11 && true)), 44, [.ref (0), .int v1, .int v2, .int x3], [], mk false (sI S1 35 (mIx ((5 : Int32) + v1)) v2))) rfl hok ?_
        obtain ⟨S4, eS4, hf⟩ := bnd_ex hf
        rw [← eS4]
        obtain ⟨hok, hf⟩ := grd_ex hf
        refine msegT C kX11_hide 30 4 (g := ((kO 0 11 && (kO 0 11 && true)), 52, [.ref (0), .int v1, .int v2, .int x3], [.ref 35, .ref 37], mk false S4)) rfl hok ?_
        obtain ⟨S5, hq, hf⟩ := bndV_ex hf
        refine mcall (kd := 0) (vs := [.ref 37, .ref 35]) (rest := []) (r := none) (h' := mk false S5) (ok' := true) C lkRX11_149 (qX2_keep hq) (kX11_hide _ (List.mem_of_getElem? (i := 34) rfl)).1 ⟨_, _, rfl, rfl, Nat.le_of_ble_eq_true rfl, _, _, rfl, rfl, rfl⟩ (Nat.le_of_ble_eq_true rfl) (Nat.le_of_ble_eq_true rfl) (Nat.le_refl _) (Nat.le_refl _) (Nat.le_of_ble_eq_true rfl) ?_
        refine msegT C kX11_hide 35 1 (g := (true, 56, [.ref (0), .int v1, .int v2, .int x3], [.int x3], mk false S5)) rfl rfl ?_
        cases hf
        exact gret_i C hr hk (kX11_hide _ (List.mem_of_getElem? (i := 36) rfl)).1
      · rw [if_neg hc] at hf ⊢
        exact mfor (L' := [.retAddr 0, .retAddr 0, .retAddr 0, .retAddr 0]) ⟨Or.inl rfl, Or.inl rfl, Or.inl rfl, Or.inl rfl, trivial⟩ (bX11_hide_24_f C hr hk hf true)
theorem qX11_hide_f {v1 : Int32} {v2 : Int32} {S S' : mT} {r : Int32} (hf : fX11_hide false v1 v2 S = some (r, S')) : mOk l mX11_hide 3 [.ref (0), .int v1, .int v2] false S (some (.int r)) S' :=
  gMet (by decide) (Nat.le_of_ble_eq_true rfl) rfl (Nat.le_of_ble_eq_true rfl) (fun p e s m args below meth c G C hr hk => bX11_hide_0_f C hr hk hf true)
theorem bX11_hide_24_t (C : mCx p (mR 3) s m args meth c G cX11_hide RX11 4 false 233 54500 233 54500) (hr : meth.sig.returnType = (some .int)) (hk : meth.locks = false) {S' : mT} {r : Int32} {S : mT} (hf : fX11_hide_24 true S = some (r, S')) (ok : Bool) : mW p l e (mR 3) s m args below meth c G 4 233 54500 (mQ below G args s true S' (some (.int r))) (ok, 24, [.retAddr 0, .retAddr 0, .retAddr 0, .retAddr 0], [], mk true S) := by
  unfold fX11_hide_24 at hf
  refine msegT C kX11_hide 14 1 (g := (true, 25, [.retAddr 0, .retAddr 0, .retAddr 0, .retAddr 0], [.int (-1 : Int32)], mk true S)) rfl rfl ?_
  cases hf
  exact gret_i C hr hk (kX11_hide _ (List.mem_of_getElem? (i := 15) rfl)).1
theorem bX11_hide_0_t (C : mCx p (mR 3) s m args meth c G cX11_hide RX11 4 false 233 54500 233 54500) (hr : meth.sig.returnType = (some .int)) (hk : meth.locks = false) {S' : mT} {r : Int32} {v1 : Int32} {v2 : Int32} {S : mT} (hf : fX11_hide true v1 v2 S = some (r, S')) (ok : Bool) : mW p l e (mR 3) s m args below meth c G 4 233 54500 (mQ below G args s true S' (some (.int r))) (ok, 0, [.ref (0), .int v1, .int v2, .retAddr 0], [], mk true S) := by
  unfold fX11_hide at hf
  refine msegT C kX11_hide 0 2 (g := (true, 2, [.ref (0), .int v1, .int v2, .retAddr 0], [.int v1, .ref (0)], mk true S)) rfl rfl ?_
  obtain ⟨x2, S1, hq, hf⟩ := bndC_ex hf
  refine mcall (kd := 0) (vs := [.ref (0), .int v1]) (rest := []) (r := (some (.int x2))) (h' := mk true S1) (ok' := true) C lkRX11_124 (qX11_isHouse_t hq) (kX11_hide _ (List.mem_of_getElem? (i := 2) rfl)).1 ⟨_, _, rfl, rfl, Nat.le_of_ble_eq_true rfl, _, _, rfl, rfl, rfl⟩ (Nat.le_of_ble_eq_true rfl) (Nat.le_of_ble_eq_true rfl) (Nat.le_refl _) (Nat.le_refl _) (Nat.le_of_ble_eq_true rfl) ?_
  refine msegT C kX11_hide 3 1 (g := (true, (if x2 = 0 then 24 else 8), [.ref (0), .int v1, .int v2, .retAddr 0], [], mk true S1)) rfl rfl ?_
  by_cases hc : x2 = 0
  · rw [if_pos hc] at hf ⊢
    exact mfor (L' := [.retAddr 0, .retAddr 0, .retAddr 0, .retAddr 0]) ⟨Or.inl rfl, Or.inl rfl, Or.inl rfl, Or.inl rfl, trivial⟩ (bX11_hide_24_t C hr hk hf true)
  · rw [if_neg hc] at hf ⊢
    refine msegT C kX11_hide 4 2 (g := (true, (if v2 < 0 then 24 else 12), [.ref (0), .int v1, .int v2, .retAddr 0], [], mk true S1)) rfl rfl ?_
    by_cases hc : v2 < 0
    · rw [if_pos hc] at hf ⊢
      exact mfor (L' := [.retAddr 0, .retAddr 0, .retAddr 0, .retAddr 0]) ⟨Or.inl rfl, Or.inl rfl, Or.inl rfl, Or.inl rfl, trivial⟩ (bX11_hide_24_t C hr hk hf true)
    · rw [if_neg hc] at hf ⊢
      obtain ⟨hok, hf⟩ := grd_ex hf
      refine msegT C kX11_hide 6 8 (g := ((kI 35 ((0 : Int32) + v1) && (kO 0 11 && true)), (if v2 ≤ (S1.1 35 (mIx ((0 : Int32) + v1))) then 26 else 24), [.ref (0), .int v1, .int v2, .retAddr 0], [], mk true S1)) rfl hok ?_
      by_cases hc : v2 ≤ (S1.1 35 (mIx ((0 : Int32) + v1)))
      · rw [if_pos hc] at hf ⊢
        obtain ⟨hok, hf⟩ := grd_ex hf
        refine msegT C kX11_hide 16 7 (g := ((kI 35 ((5 : Int32) + v1) && (kO 0 11 && true)), 35, [.ref (0), .int v1, .int v2, .int (S1.1 35 (mIx ((5 : Int32) + v1)))], [], mk true S1)) rfl hok ?_
        obtain ⟨x3, ex3, hf⟩ := bnd_ex hf
        rw [← ex3]
        obtain ⟨hok, hf⟩ := grd_ex hf
        refine msegT C kX11_hide 23 7 (g := ((kI 35 ((5 : Int32) + v1) && (kO 0 11 && true)), 44, [.ref (0), .int v1, .int v2, .int x3], [], mk true (sI S1 35 (mIx ((5 : Int32) + v1)) v2))) rfl hok ?_
        obtain ⟨S4, eS4, hf⟩ := bnd_ex hf
        rw [← eS4]
        obtain ⟨hok, hf⟩ := grd_ex hf
        refine msegT C kX11_hide 30 4 (g := ((kO 0 11 && (kO 0 11 && true)), 52, [.ref (0), .int v1, .int v2, .int x3], [.ref 35, .ref 37], mk true S4)) rfl hok ?_
        obtain ⟨S5, hq, hf⟩ := bndV_ex hf
        refine mcall (kd := 0) (vs := [.ref 37, .ref 35]) (rest := []) (r := none) (h' := mk true S5) (ok' := true) C lkRX11_149 (qX2_keep hq) (kX11_hide _ (List.mem_of_getElem? (i := 34) rfl)).1 ⟨_, _, rfl, rfl, Nat.le_of_ble_eq_true rfl, _, _, rfl, rfl, rfl⟩ (Nat.le_of_ble_eq_true rfl) (Nat.le_of_ble_eq_true rfl) (Nat.le_refl _) (Nat.le_refl _) (Nat.le_of_ble_eq_true rfl) ?_
        refine msegT C kX11_hide 35 1 (g := (true, 56, [.ref (0), .int v1, .int v2, .int x3], [.int x3], mk true S5)) rfl rfl ?_
        cases hf
        exact gret_i C hr hk (kX11_hide _ (List.mem_of_getElem? (i := 36) rfl)).1
      · rw [if_neg hc] at hf ⊢
        exact mfor (L' := [.retAddr 0, .retAddr 0, .retAddr 0, .retAddr 0]) ⟨Or.inl rfl, Or.inl rfl, Or.inl rfl, Or.inl rfl, trivial⟩ (bX11_hide_24_t C hr hk hf true)
theorem qX11_hide_t {v1 : Int32} {v2 : Int32} {S S' : mT} {r : Int32} (hf : fX11_hide true v1 v2 S = some (r, S')) : mOk l mX11_hide 3 [.ref (0), .int v1, .int v2] true S (some (.int r)) S' :=
  gMet (by decide) (Nat.le_of_ble_eq_true rfl) rfl (Nat.le_of_ble_eq_true rfl) (fun p e s m args below meth c G C hr hk => bX11_hide_0_t C hr hk hf true)
theorem bX2_fillBox_0 (C : mCx p (mR 1) s m args meth c G cX2_fillBox RX2 3 false 233 54500 233 54500) (hr : meth.sig.returnType = none) (hk : meth.locks = false) {b : Bool} {a2 : Nat} {S' : mT} {v1 : Int32} {S : mT} (hf : fX2_fillBox a2 v1 S = some S') (ok : Bool) : mW p l e (mR 1) s m args below meth c G 3 233 54500 (mQ below G args s b S' none) (ok, 0, [.ref (37), .int v1, .ref a2], [], mk b S) := by
  unfold fX2_fillBox at hf
  obtain ⟨hok, hf⟩ := grd_ex hf
  refine msegT C kX2_fillBox 0 9 (g := ((kC a2 (rowR 80 (mIx v1)) (0 : Int32) (0 : Int32) (17 : Int32) && (kR 80 v1 && (kO 37 2 && true))), 14, [.ref (37), .int v1, .ref a2], [], mk b (sC S a2 (rowR 80 (mIx v1)) (0 : Int32) (0 : Int32) (17 : Int32)))) rfl hok ?_
  obtain ⟨S1, eS1, hf⟩ := bnd_ex hf
  rw [← eS1]
  obtain ⟨hok, hf⟩ := grd_ex hf
  refine msegT C kX2_fillBox 9 5 (g := ((kB 84 v1 && (kO 37 2 && true)), 21, [.ref (37), .int v1, .ref a2], [], mk b (sI S1 84 (mIx v1) (kN 84 (1 : Int32))))) rfl hok ?_
  obtain ⟨S2, eS2, hf⟩ := bnd_ex hf
  rw [← eS2]
  cases hf
  exact gret_v C hr hk (kX2_fillBox _ (List.mem_of_getElem? (i := 14) rfl)).1
theorem qX2_fillBox {b : Bool} {a2 : Nat} {v1 : Int32} {S S' : mT} (hf : fX2_fillBox a2 v1 S = some S') : mOk l mX2_fillBox 1 [.ref (37), .int v1, .ref a2] b S none S' :=
  gMet (by decide) (Nat.le_of_ble_eq_true rfl) rfl (Nat.le_of_ble_eq_true rfl) (fun p e s m args below meth c G C hr hk => bX2_fillBox_0 C hr hk hf true)
theorem bX11_image_0 (C : mCx p (mR 2) s m args meth c G cX11_image RX11 2 false 233 54500 233 54500) (hr : meth.sig.returnType = (some .int)) (hk : meth.locks = false) {b : Bool} {S' : mT} {r : Int32} {v1 : Int32} {S : mT} (hf : fX11_image v1 S = some (r, S')) (ok : Bool) : mW p l e (mR 2) s m args below meth c G 2 233 54500 (mQ below G args s b S' (some (.int r))) (ok, 0, [.ref (0), .int v1], [], mk b S) := by
  unfold fX11_image at hf
  refine msegT C kX11_image 0 3 (g := (true, 3, [.ref (0), .int v1], [.int (2 : Int32), .int (0 : Int32), .int v1], mk b S)) rfl rfl ?_
  obtain ⟨x2, S1, hq, hf⟩ := bndC_ex hf
  refine mcall (kd := 1) (vs := [.int v1, .int (0 : Int32), .int (2 : Int32)]) (rest := []) (r := (some (.int x2))) (h' := mk b S1) (ok' := true) C lkRX11_169 (qX11_isWithin hq) (kX11_image _ (List.mem_of_getElem? (i := 3) rfl)).1 rfl (Nat.le_of_ble_eq_true rfl) (Nat.le_of_ble_eq_true rfl) (Nat.le_refl _) (Nat.le_refl _) (Nat.le_of_ble_eq_true rfl) ?_
  refine msegT C kX11_image 4 1 (g := (true, (if x2 = 0 then 9 else 11), [.ref (0), .int v1], [], mk b S1)) rfl rfl ?_
  by_cases hc : x2 = 0
  · rw [if_pos hc] at hf ⊢
    refine msegT C kX11_image 5 1 (g := (true, 10, [.ref (0), .int v1], [.int (-1 : Int32)], mk b S1)) rfl rfl ?_
    cases hf
    exact gret_i C hr hk (kX11_image _ (List.mem_of_getElem? (i := 6) rfl)).1
  · rw [if_neg hc] at hf ⊢
    obtain ⟨hok, hf⟩ := grd_ex hf
    refine msegT C kX11_image 7 5 (g := ((kO 0 11 && (kO 0 11 && true)), 20, [.ref (0), .int v1], [.ref 35, .int v1, .ref 37], mk b S1)) rfl hok ?_
    obtain ⟨S3, hq, hf⟩ := bndV_ex hf
    refine mcall (kd := 0) (vs := [.ref 37, .int v1, .ref 35]) (rest := []) (r := none) (h' := mk b S3) (ok' := true) C lkRX11_295 (qX2_fillBox hq) (kX11_image _ (List.mem_of_getElem? (i := 12) rfl)).1 ⟨_, _, rfl, rfl, Nat.le_of_ble_eq_true rfl, _, _, rfl, rfl, rfl⟩ (Nat.le_of_ble_eq_true rfl) (Nat.le_of_ble_eq_true rfl) (Nat.le_refl _) (Nat.le_refl _) (Nat.le_of_ble_eq_true rfl) ?_
    obtain ⟨hok, hf⟩ := grd_ex hf
    refine msegT C kX11_image 13 4 (g := ((kI 35 (15 : Int32) && (kO 0 11 && true)), 30, [.ref (0), .int v1], [.int (S3.1 35 (mIx (15 : Int32)))], mk b S3)) rfl hok ?_
    cases hf
    exact gret_i C hr hk (kX11_image _ (List.mem_of_getElem? (i := 17) rfl)).1
theorem qX11_image {b : Bool} {v1 : Int32} {S S' : mT} {r : Int32} (hf : fX11_image v1 S = some (r, S')) : mOk l mX11_image 2 [.ref (0), .int v1] b S (some (.int r)) S' :=
  gMet (by decide) (Nat.le_of_ble_eq_true rfl) rfl (Nat.le_of_ble_eq_true rfl) (fun p e s m args below meth c G C hr hk => bX11_image_0 C hr hk hf true)
theorem bX5_countingAt_60 (C : mCx p (mR 1) s m args meth c G cX5_countingAt RX5 5 false 233 54500 233 54500) (hr : meth.sig.returnType = (some .int)) (hk : meth.locks = false) {b : Bool} {S' : mT} {r : Int32} {rc4 : Int32 → Int32 → Int32 → mT → Option (Int32 × mT)} (Hrc4 : ∀ (v1 : Int32) (v2 : Int32) (v3 : Int32) (S : mT), rc4 v1 v2 v3 S = some (r, S') → ∀ ok : Bool, mW p l e (mR 1) s m args below meth c G 5 233 54500 (mQ below G args s b S' (some (.int r))) (ok, 4, [.ref (114), .int v1, .int v2, .int v3, .retAddr 0], [], mk b S)) {v1 : Int32} {v2 : Int32} {v3 : Int32} {S : mT} (hf : fX5_countingAt_60 rc4 v1 v2 v3 S = some (r, S')) (ok : Bool) : mW p l e (mR 1) s m args below meth c G 5 233 54500 (mQ below G args s b S' (some (.int r))) (ok, 60, [.ref (114), .int v1, .int v2, .int v3, .retAddr 0], [], mk b S) := by
  unfold fX5_countingAt_60 at hf
  refine msegT C kX5_countingAt 38 1 (g := (true, 63, [.ref (114), .int v1, .int v2, .int (v3 + (1 : Int32)), .retAddr 0], [], mk b S)) rfl rfl ?_
  obtain ⟨x2, ex2, hf⟩ := bnd_ex hf
  rw [← ex2]
  refine msegT C kX5_countingAt 39 1 (g := (true, 4, [.ref (114), .int v1, .int v2, .int x2, .retAddr 0], [], mk b S)) rfl rfl ?_
  exact mfor (L' := [.ref (114), .int v1, .int v2, .int x2, .retAddr 0]) ⟨Or.inr rfl, Or.inr rfl, Or.inr rfl, Or.inr rfl, Or.inl rfl, trivial⟩ (Hrc4 _ _ _ _ hf true)
theorem bX5_countingAt_37 (C : mCx p (mR 1) s m args meth c G cX5_countingAt RX5 5 false 233 54500 233 54500) (hr : meth.sig.returnType = (some .int)) (hk : meth.locks = false) {b : Bool} {S' : mT} {r : Int32} {rc4 : Int32 → Int32 → Int32 → mT → Option (Int32 × mT)} (Hrc4 : ∀ (v1 : Int32) (v2 : Int32) (v3 : Int32) (S : mT), rc4 v1 v2 v3 S = some (r, S') → ∀ ok : Bool, mW p l e (mR 1) s m args below meth c G 5 233 54500 (mQ below G args s b S' (some (.int r))) (ok, 4, [.ref (114), .int v1, .int v2, .int v3, .retAddr 0], [], mk b S)) {v1 : Int32} {v2 : Int32} {v3 : Int32} {s0 : Int32} {S : mT} (hf : fX5_countingAt_37 rc4 v1 v2 v3 s0 S = some (r, S')) (ok : Bool) : mW p l e (mR 1) s m args below meth c G 5 233 54500 (mQ below G args s b S' (some (.int r))) (ok, 37, [.ref (114), .int v1, .int v2, .int v3, .retAddr 0], [.int s0], mk b S) := by
  unfold fX5_countingAt_37 at hf
  obtain ⟨hok, hf⟩ := grd_ex hf
  refine msegT C kX5_countingAt 23 7 (g := ((kI 118 v3 && (kO 114 5 && true)), (if v1 < (S.1 118 (mIx v3)) then 60 else 49), [.ref (114), .int v1, .int v2, .int v3, .int s0], [], mk b S)) rfl hok ?_
  by_cases hc : v1 < (S.1 118 (mIx v3))
  · rw [if_pos hc] at hf ⊢
    exact mfor (L' := [.ref (114), .int v1, .int v2, .int v3, .retAddr 0]) ⟨Or.inr rfl, Or.inr rfl, Or.inr rfl, Or.inr rfl, Or.inl rfl, trivial⟩ (bX5_countingAt_60 C hr hk Hrc4 hf true)
  · rw [if_neg hc] at hf ⊢
    refine msegT C kX5_countingAt 30 2 (g := (true, (if s0 = 0 then 54 else 60), [.ref (114), .int v1, .int v2, .int v3, .int s0], [], mk b S)) rfl rfl ?_
    by_cases hc : s0 = 0
    · rw [if_pos hc] at hf ⊢
      refine msegT C kX5_countingAt 32 6 (g := (true, 60, [.ref (114), .int v1, .int (v2 ||| ((1 : Int32) <<< (v3 &&& 31))), .int v3, .int s0], [], mk b S)) rfl rfl ?_
      obtain ⟨x1, ex1, hf⟩ := bnd_ex hf
      rw [← ex1]
      exact mfor (L' := [.ref (114), .int v1, .int x1, .int v3, .retAddr 0]) ⟨Or.inr rfl, Or.inr rfl, Or.inr rfl, Or.inr rfl, Or.inl rfl, trivial⟩ (bX5_countingAt_60 C hr hk Hrc4 hf true)
    · rw [if_neg hc] at hf ⊢
      exact mfor (L' := [.ref (114), .int v1, .int v2, .int v3, .retAddr 0]) ⟨Or.inr rfl, Or.inr rfl, Or.inr rfl, Or.inr rfl, Or.inl rfl, trivial⟩ (bX5_countingAt_60 C hr hk Hrc4 hf true)
theorem bX5_countingAt_36 (C : mCx p (mR 1) s m args meth c G cX5_countingAt RX5 5 false 233 54500 233 54500) (hr : meth.sig.returnType = (some .int)) (hk : meth.locks = false) {b : Bool} {S' : mT} {r : Int32} {rc4 : Int32 → Int32 → Int32 → mT → Option (Int32 × mT)} (Hrc4 : ∀ (v1 : Int32) (v2 : Int32) (v3 : Int32) (S : mT), rc4 v1 v2 v3 S = some (r, S') → ∀ ok : Bool, mW p l e (mR 1) s m args below meth c G 5 233 54500 (mQ below G args s b S' (some (.int r))) (ok, 4, [.ref (114), .int v1, .int v2, .int v3, .retAddr 0], [], mk b S)) {v1 : Int32} {v2 : Int32} {v3 : Int32} {S : mT} (hf : fX5_countingAt_36 rc4 v1 v2 v3 S = some (r, S')) (ok : Bool) : mW p l e (mR 1) s m args below meth c G 5 233 54500 (mQ below G args s b S' (some (.int r))) (ok, 36, [.ref (114), .int v1, .int v2, .int v3, .retAddr 0], [], mk b S) := by
  unfold fX5_countingAt_36 at hf
  refine msegT C kX5_countingAt 22 1 (g := (true, 37, [.ref (114), .int v1, .int v2, .int v3, .retAddr 0], [.int (0 : Int32)], mk b S)) rfl rfl ?_
  exact mfor (L' := [.ref (114), .int v1, .int v2, .int v3, .retAddr 0]) ⟨Or.inr rfl, Or.inr rfl, Or.inr rfl, Or.inr rfl, Or.inl rfl, trivial⟩ (bX5_countingAt_37 C hr hk Hrc4 hf true)
theorem bX5_countingAt_4 (C : mCx p (mR 1) s m args meth c G cX5_countingAt RX5 5 false 233 54500 233 54500) (hr : meth.sig.returnType = (some .int)) (hk : meth.locks = false) {b : Bool} {S' : mT} {r : Int32} : ∀ (k : Nat) (v1 : Int32) (v2 : Int32) (v3 : Int32) (S : mT), fX5_countingAt_4 k v1 v2 v3 S = some (r, S') → ∀ ok : Bool, mW p l e (mR 1) s m args below meth c G 5 233 54500 (mQ below G args s b S' (some (.int r))) (ok, 4, [.ref (114), .int v1, .int v2, .int v3, .retAddr 0], [], mk b S) := by
  intro k
  induction k with
  | zero =>
    intro v1 v2 v3 S hf ok
    cases hf
  | succ k ih =>
    intro v1 v2 v3 S hf ok
    unfold fX5_countingAt_4 at hf
    obtain ⟨hok, hf⟩ := grd_ex hf
    refine msegT C kX5_countingAt 4 4 (g := ((kO 114 5 && true), (if (S.1 114 5) ≤ v3 then 66 else 12), [.ref (114), .int v1, .int v2, .int v3, .retAddr 0], [], mk b S)) rfl hok ?_
    by_cases hc : (S.1 114 5) ≤ v3
    · rw [if_pos hc] at hf ⊢
      refine msegT C kX5_countingAt 40 1 (g := (true, 67, [.ref (114), .int v1, .int v2, .int v3, .retAddr 0], [.int v2], mk b S)) rfl rfl ?_
      cases hf
      exact gret_i C hr hk (kX5_countingAt _ (List.mem_of_getElem? (i := 41) rfl)).1
    · rw [if_neg hc] at hf ⊢
      obtain ⟨hok, hf⟩ := grd_ex hf
      refine msegT C kX5_countingAt 8 6 (g := ((kI 119 v3 && (kO 114 5 && true)), (if (S.1 119 (mIx v3)) = (-1 : Int32) then 36 else 22), [.ref (114), .int v1, .int v2, .int v3, .retAddr 0], [], mk b S)) rfl hok ?_
      by_cases hc : (S.1 119 (mIx v3)) = (-1 : Int32)
      · rw [if_pos hc] at hf ⊢
        exact mfor (L' := [.ref (114), .int v1, .int v2, .int v3, .retAddr 0]) ⟨Or.inr rfl, Or.inr rfl, Or.inr rfl, Or.inr rfl, Or.inl rfl, trivial⟩ (bX5_countingAt_36 C hr hk ih hf true)
      · rw [if_neg hc] at hf ⊢
        obtain ⟨hok, hf⟩ := grd_ex hf
        refine msegT C kX5_countingAt 14 6 (g := ((kI 119 v3 && (kO 114 5 && true)), (if v1 < (S.1 119 (mIx v3)) then 36 else 32), [.ref (114), .int v1, .int v2, .int v3, .retAddr 0], [], mk b S)) rfl hok ?_
        by_cases hc : v1 < (S.1 119 (mIx v3))
        · rw [if_pos hc] at hf ⊢
          exact mfor (L' := [.ref (114), .int v1, .int v2, .int v3, .retAddr 0]) ⟨Or.inr rfl, Or.inr rfl, Or.inr rfl, Or.inr rfl, Or.inl rfl, trivial⟩ (bX5_countingAt_36 C hr hk ih hf true)
        · rw [if_neg hc] at hf ⊢
          refine msegT C kX5_countingAt 20 2 (g := (true, 37, [.ref (114), .int v1, .int v2, .int v3, .retAddr 0], [.int (1 : Int32)], mk b S)) rfl rfl ?_
          exact mfor (L' := [.ref (114), .int v1, .int v2, .int v3, .retAddr 0]) ⟨Or.inr rfl, Or.inr rfl, Or.inr rfl, Or.inr rfl, Or.inl rfl, trivial⟩ (bX5_countingAt_37 C hr hk ih hf true)
theorem bX5_countingAt_0 (C : mCx p (mR 1) s m args meth c G cX5_countingAt RX5 5 false 233 54500 233 54500) (hr : meth.sig.returnType = (some .int)) (hk : meth.locks = false) {b : Bool} {S' : mT} {r : Int32} {v1 : Int32} {S : mT} (hf : fX5_countingAt v1 S = some (r, S')) (ok : Bool) : mW p l e (mR 1) s m args below meth c G 5 233 54500 (mQ below G args s b S' (some (.int r))) (ok, 0, [.ref (114), .int v1, .retAddr 0, .retAddr 0, .retAddr 0], [], mk b S) := by
  unfold fX5_countingAt at hf
  refine msegT C kX5_countingAt 0 4 (g := (true, 4, [.ref (114), .int v1, .int (0 : Int32), .int (0 : Int32), .retAddr 0], [], mk b S)) rfl rfl ?_
  exact mfor (L' := [.ref (114), .int v1, .int (0 : Int32), .int (0 : Int32), .retAddr 0]) ⟨Or.inr rfl, Or.inr rfl, Or.inr rfl, Or.inr rfl, Or.inl rfl, trivial⟩ (bX5_countingAt_4 C hr hk _ _ _ _ _ hf true)
theorem qX5_countingAt {b : Bool} {v1 : Int32} {S S' : mT} {r : Int32} (hf : fX5_countingAt v1 S = some (r, S')) : mOk l mX5_countingAt 1 [.ref (114), .int v1] b S (some (.int r)) S' :=
  gMet (by decide) (Nat.le_of_ble_eq_true rfl) rfl (Nat.le_of_ble_eq_true rfl) (fun p e s m args below meth c G C hr hk => bX5_countingAt_0 C hr hk hf true)
theorem bX11_learn_0_f (C : mCx p (mR 20) s m args meth c G cX11_learn RX11 2 false 233 54500 233 54500) (hr : meth.sig.returnType = none) (hk : meth.locks = false) {S' : mT} {v1 : Int32} {S : mT} (hf : fX11_learn false v1 S = some S') (ok : Bool) : mW p l e (mR 20) s m args below meth c G 2 233 54500 (mQ below G args s false S' none) (ok, 0, [.ref (0), .int v1], [], mk false S) := by
  unfold fX11_learn at hf
  obtain ⟨hok, hf⟩ := grd_ex hf
  refine msegT C kX11_learn 0 7 (g := ((kO 0 11 && (kO 0 11 && (kO 0 11 && true))), 13, [.ref (0), .int v1], [.int v1, .ref 114, .ref 114, .ref 120], mk false S)) rfl hok ?_
  obtain ⟨x2, S1, hq, hf⟩ := bndC_ex hf
  refine mcall (kd := 0) (vs := [.ref 114, .int v1]) (rest := [.ref 114, .ref 120]) (r := (some (.int x2))) (h' := mk false S1) (ok' := true) C lkRX11_262 (qX5_countingAt hq) (kX11_learn _ (List.mem_of_getElem? (i := 7) rfl)).1 ⟨_, _, rfl, rfl, Nat.le_of_ble_eq_true rfl, _, _, rfl, rfl, rfl⟩ (Nat.le_of_ble_eq_true rfl) (Nat.le_of_ble_eq_true rfl) (Nat.le_refl _) (Nat.le_refl _) (Nat.le_of_ble_eq_true rfl) ?_
  obtain ⟨hok, hf⟩ := grd_ex hf
  refine msegT C kX11_learn 8 3 (g := ((kO (shU false) 8 && (kO 0 11 && true)), 23, [.ref (0), .int v1], [.int (S1.1 (shU false) 9), .int x2, .ref 114, .ref 120], mk false S1)) rfl hok ?_
  obtain ⟨S3, hq, hf⟩ := bndV_ex hf
  refine mcall (kd := 0) (vs := [.ref 120, .ref 114, .int x2, .int (S1.1 (shU false) 9)]) (rest := []) (r := none) (h' := mk false S3) (ok' := true) C lkRX11_326 (qX10_learn hq) (kX11_learn _ (List.mem_of_getElem? (i := 11) rfl)).1 ⟨_, _, rfl, rfl, Nat.le_of_ble_eq_true rfl, _, _, rfl, rfl, rfl⟩ (Nat.le_of_ble_eq_true rfl) (Nat.le_of_ble_eq_true rfl) (Nat.le_refl _) (Nat.le_refl _) (Nat.le_of_ble_eq_true rfl) ?_
  cases hf
  exact gret_v C hr hk (kX11_learn _ (List.mem_of_getElem? (i := 12) rfl)).1
theorem qX11_learn_f {v1 : Int32} {S S' : mT} (hf : fX11_learn false v1 S = some S') : mOk l mX11_learn 20 [.ref (0), .int v1] false S none S' :=
  gMet (by decide) (Nat.le_of_ble_eq_true rfl) rfl (Nat.le_of_ble_eq_true rfl) (fun p e s m args below meth c G C hr hk => bX11_learn_0_f C hr hk hf true)
theorem bX11_learn_0_t (C : mCx p (mR 20) s m args meth c G cX11_learn RX11 2 false 233 54500 233 54500) (hr : meth.sig.returnType = none) (hk : meth.locks = false) {S' : mT} {v1 : Int32} {S : mT} (hf : fX11_learn true v1 S = some S') (ok : Bool) : mW p l e (mR 20) s m args below meth c G 2 233 54500 (mQ below G args s true S' none) (ok, 0, [.ref (0), .int v1], [], mk true S) := by
  unfold fX11_learn at hf
  obtain ⟨hok, hf⟩ := grd_ex hf
  refine msegT C kX11_learn 0 7 (g := ((kO 0 11 && (kO 0 11 && (kO 0 11 && true))), 13, [.ref (0), .int v1], [.int v1, .ref 114, .ref 114, .ref 120], mk true S)) rfl hok ?_
  obtain ⟨x2, S1, hq, hf⟩ := bndC_ex hf
  refine mcall (kd := 0) (vs := [.ref 114, .int v1]) (rest := [.ref 114, .ref 120]) (r := (some (.int x2))) (h' := mk true S1) (ok' := true) C lkRX11_262 (qX5_countingAt hq) (kX11_learn _ (List.mem_of_getElem? (i := 7) rfl)).1 ⟨_, _, rfl, rfl, Nat.le_of_ble_eq_true rfl, _, _, rfl, rfl, rfl⟩ (Nat.le_of_ble_eq_true rfl) (Nat.le_of_ble_eq_true rfl) (Nat.le_refl _) (Nat.le_refl _) (Nat.le_of_ble_eq_true rfl) ?_
  obtain ⟨hok, hf⟩ := grd_ex hf
  refine msegT C kX11_learn 8 3 (g := ((kO (shU true) 8 && (kO 0 11 && true)), 23, [.ref (0), .int v1], [.int (S1.1 (shU true) 9), .int x2, .ref 114, .ref 120], mk true S1)) rfl hok ?_
  obtain ⟨S3, hq, hf⟩ := bndV_ex hf
  refine mcall (kd := 0) (vs := [.ref 120, .ref 114, .int x2, .int (S1.1 (shU true) 9)]) (rest := []) (r := none) (h' := mk true S3) (ok' := true) C lkRX11_326 (qX10_learn hq) (kX11_learn _ (List.mem_of_getElem? (i := 11) rfl)).1 ⟨_, _, rfl, rfl, Nat.le_of_ble_eq_true rfl, _, _, rfl, rfl, rfl⟩ (Nat.le_of_ble_eq_true rfl) (Nat.le_of_ble_eq_true rfl) (Nat.le_refl _) (Nat.le_refl _) (Nat.le_of_ble_eq_true rfl) ?_
  cases hf
  exact gret_v C hr hk (kX11_learn _ (List.mem_of_getElem? (i := 12) rfl)).1
theorem qX11_learn_t {v1 : Int32} {S S' : mT} (hf : fX11_learn true v1 S = some S') : mOk l mX11_learn 20 [.ref (0), .int v1] true S none S' :=
  gMet (by decide) (Nat.le_of_ble_eq_true rfl) rfl (Nat.le_of_ble_eq_true rfl) (fun p e s m args below meth c G C hr hk => bX11_learn_0_t C hr hk hf true)
theorem bX11_knock_19_f (C : mCx p (mR 21) s m args meth c G cX11_knock RX11 4 false 233 54500 233 54500) (hr : meth.sig.returnType = (some .int)) (hk : meth.locks = false) {S' : mT} {r : Int32} {S : mT} (hf : fX11_knock_19 false S = some (r, S')) (ok : Bool) : mW p l e (mR 21) s m args below meth c G 4 233 54500 (mQ below G args s false S' (some (.int r))) (ok, 19, [.retAddr 0, .retAddr 0, .retAddr 0, .retAddr 0], [], mk false S) := by
  unfold fX11_knock_19 at hf
  refine msegT C kX11_knock 9 1 (g := (true, 20, [.retAddr 0, .retAddr 0, .retAddr 0, .retAddr 0], [.int (-1 : Int32)], mk false S)) rfl rfl ?_
  cases hf
  exact gret_i C hr hk (kX11_knock _ (List.mem_of_getElem? (i := 10) rfl)).1
theorem bX11_knock_62_f (C : mCx p (mR 21) s m args meth c G cX11_knock RX11 4 false 233 54500 233 54500) (hr : meth.sig.returnType = (some .int)) (hk : meth.locks = false) {S' : mT} {r : Int32} {s0 : Int32} {S : mT} (hf : fX11_knock_62 false s0 S = some (r, S')) (ok : Bool) : mW p l e (mR 21) s m args below meth c G 4 233 54500 (mQ below G args s false S' (some (.int r))) (ok, 62, [.retAddr 0, .retAddr 0, .retAddr 0, .retAddr 0], [.int s0], mk false S) := by
  unfold fX11_knock_62 at hf
  cases hf
  exact gret_i C hr hk (kX11_knock _ (List.mem_of_getElem? (i := 32) rfl)).1
theorem bX11_knock_0_f (C : mCx p (mR 21) s m args meth c G cX11_knock RX11 4 false 233 54500 233 54500) (hr : meth.sig.returnType = (some .int)) (hk : meth.locks = false) {S' : mT} {r : Int32} {v1 : Int32} {v2 : Int32} {S : mT} (hf : fX11_knock false v1 v2 S = some (r, S')) (ok : Bool) : mW p l e (mR 21) s m args below meth c G 4 233 54500 (mQ below G args s false S' (some (.int r))) (ok, 0, [.ref (0), .int v1, .int v2, .retAddr 0], [], mk false S) := by
  unfold fX11_knock at hf
  refine msegT C kX11_knock 0 3 (g := (true, 3, [.ref (0), .int v1, .int v2, .retAddr 0], [.int (1 : Int32), .int (0 : Int32), .int v1], mk false S)) rfl rfl ?_
  obtain ⟨x2, S1, hq, hf⟩ := bndC_ex hf
  refine mcall (kd := 1) (vs := [.int v1, .int (0 : Int32), .int (1 : Int32)]) (rest := []) (r := (some (.int x2))) (h' := mk false S1) (ok' := true) C lkRX11_169 (qX11_isWithin hq) (kX11_knock _ (List.mem_of_getElem? (i := 3) rfl)).1 rfl (Nat.le_of_ble_eq_true rfl) (Nat.le_of_ble_eq_true rfl) (Nat.le_refl _) (Nat.le_refl _) (Nat.le_of_ble_eq_true rfl) ?_
  refine msegT C kX11_knock 4 1 (g := (true, (if x2 = 0 then 19 else 9), [.ref (0), .int v1, .int v2, .retAddr 0], [], mk false S1)) rfl rfl ?_
  by_cases hc : x2 = 0
  · rw [if_pos hc] at hf ⊢
    exact mfor (L' := [.retAddr 0, .retAddr 0, .retAddr 0, .retAddr 0]) ⟨Or.inl rfl, Or.inl rfl, Or.inl rfl, Or.inl rfl, trivial⟩ (bX11_knock_19_f C hr hk hf true)
  · rw [if_neg hc] at hf ⊢
    obtain ⟨hok, hf⟩ := grd_ex hf
    refine msegT C kX11_knock 5 4 (g := ((kO (shU false) 8 && (kO 0 11 && true)), (if (S1.1 (shU false) 9) = 0 then 19 else 21), [.ref (0), .int v1, .int v2, .retAddr 0], [], mk false S1)) rfl hok ?_
    by_cases hc : (S1.1 (shU false) 9) = 0
    · rw [if_pos hc] at hf ⊢
      exact mfor (L' := [.retAddr 0, .retAddr 0, .retAddr 0, .retAddr 0]) ⟨Or.inl rfl, Or.inl rfl, Or.inl rfl, Or.inl rfl, trivial⟩ (bX11_knock_19_f C hr hk hf true)
    · rw [if_neg hc] at hf ⊢
      refine msegT C kX11_knock 11 2 (g := (true, 23, [.ref (0), .int v1, .int v2, .retAddr 0], [.int v2, .ref (0)], mk false S1)) rfl rfl ?_
      obtain ⟨S3, hq, hf⟩ := bndV_ex hf
      refine mcall (kd := 0) (vs := [.ref (0), .int v2]) (rest := []) (r := none) (h' := mk false S3) (ok' := true) C lkRX11_250 (qX11_learn_f hq) (kX11_knock _ (List.mem_of_getElem? (i := 13) rfl)).1 ⟨_, _, rfl, rfl, Nat.le_of_ble_eq_true rfl, _, _, rfl, rfl, rfl⟩ (Nat.le_of_ble_eq_true rfl) (Nat.le_of_ble_eq_true rfl) (Nat.le_refl _) (Nat.le_refl _) (Nat.le_of_ble_eq_true rfl) ?_
      obtain ⟨hok, hf⟩ := grd_ex hf
      refine msegT C kX11_knock 14 4 (g := ((kO 120 10 && (kO 0 11 && true)), (if (S3.1 120 8) = 0 then 36 else 38), [.ref (0), .int v1, .int v2, .retAddr 0], [], mk false S3)) rfl hok ?_
      by_cases hc : (S3.1 120 8) = 0
      · rw [if_pos hc] at hf ⊢
        refine msegT C kX11_knock 18 1 (g := (true, 37, [.ref (0), .int v1, .int v2, .retAddr 0], [.int (-1 : Int32)], mk false S3)) rfl rfl ?_
        cases hf
        exact gret_i C hr hk (kX11_knock _ (List.mem_of_getElem? (i := 19) rfl)).1
      · rw [if_neg hc] at hf ⊢
        obtain ⟨hok, hf⟩ := grd_ex hf
        refine msegT C kX11_knock 20 2 (g := ((kO 0 11 && true), 42, [.ref (0), .int v1, .int v2, .retAddr 0], [.ref 120], mk false S3)) rfl hok ?_
        obtain ⟨x5, S4, hq, hf⟩ := bndC_ex hf
        refine mcall (kd := 0) (vs := [.ref 120]) (rest := []) (r := (some (.int x5))) (h' := mk false S4) (ok' := true) C lkRX11_274 (qX10_bestToSee hq) (kX11_knock _ (List.mem_of_getElem? (i := 22) rfl)).1 ⟨_, _, rfl, rfl, Nat.le_of_ble_eq_true rfl, _, _, rfl, rfl, rfl⟩ (Nat.le_of_ble_eq_true rfl) (Nat.le_of_ble_eq_true rfl) (Nat.le_refl _) (Nat.le_refl _) (Nat.le_of_ble_eq_true rfl) ?_
        refine msegT C kX11_knock 23 3 (g := (true, (if v1 = 0 then 50 else 54), [.ref (0), .int v1, .int v2, .int x5], [], mk false S4)) rfl rfl ?_
        by_cases hc : v1 = 0
        · rw [if_pos hc] at hf ⊢
          refine msegT C kX11_knock 26 2 (g := (true, 62, [.ref (0), .int v1, .int v2, .int x5], [.int x5], mk false S4)) rfl rfl ?_
          exact mfor (L' := [.retAddr 0, .retAddr 0, .retAddr 0, .retAddr 0]) ⟨Or.inl rfl, Or.inl rfl, Or.inl rfl, Or.inl rfl, trivial⟩ (bX11_knock_62_f C hr hk hf true)
        · rw [if_neg hc] at hf ⊢
          obtain ⟨hok, hf⟩ := grd_ex hf
          refine msegT C kX11_knock 28 3 (g := ((kO 0 11 && true), 59, [.ref (0), .int v1, .int v2, .int x5], [.int x5, .ref 120], mk false S4)) rfl hok ?_
          obtain ⟨x7, S6, hq, hf⟩ := bndC_ex hf
          refine mcall (kd := 0) (vs := [.ref 120, .int x5]) (rest := []) (r := (some (.int x7))) (h' := mk false S6) (ok' := true) C lkRX11_277 (qX10_leftBySeeing hq) (kX11_knock _ (List.mem_of_getElem? (i := 31) rfl)).1 ⟨_, _, rfl, rfl, Nat.le_of_ble_eq_true rfl, _, _, rfl, rfl, rfl⟩ (Nat.le_of_ble_eq_true rfl) (Nat.le_of_ble_eq_true rfl) (Nat.le_refl _) (Nat.le_refl _) (Nat.le_of_ble_eq_true rfl) ?_
          exact mfor (L' := [.retAddr 0, .retAddr 0, .retAddr 0, .retAddr 0]) ⟨Or.inl rfl, Or.inl rfl, Or.inl rfl, Or.inl rfl, trivial⟩ (bX11_knock_62_f C hr hk hf true)
theorem qX11_knock_f {v1 : Int32} {v2 : Int32} {S S' : mT} {r : Int32} (hf : fX11_knock false v1 v2 S = some (r, S')) : mOk l mX11_knock 21 [.ref (0), .int v1, .int v2] false S (some (.int r)) S' :=
  gMet (by decide) (Nat.le_of_ble_eq_true rfl) rfl (Nat.le_of_ble_eq_true rfl) (fun p e s m args below meth c G C hr hk => bX11_knock_0_f C hr hk hf true)
theorem bX11_knock_19_t (C : mCx p (mR 21) s m args meth c G cX11_knock RX11 4 false 233 54500 233 54500) (hr : meth.sig.returnType = (some .int)) (hk : meth.locks = false) {S' : mT} {r : Int32} {S : mT} (hf : fX11_knock_19 true S = some (r, S')) (ok : Bool) : mW p l e (mR 21) s m args below meth c G 4 233 54500 (mQ below G args s true S' (some (.int r))) (ok, 19, [.retAddr 0, .retAddr 0, .retAddr 0, .retAddr 0], [], mk true S) := by
  unfold fX11_knock_19 at hf
  refine msegT C kX11_knock 9 1 (g := (true, 20, [.retAddr 0, .retAddr 0, .retAddr 0, .retAddr 0], [.int (-1 : Int32)], mk true S)) rfl rfl ?_
  cases hf
  exact gret_i C hr hk (kX11_knock _ (List.mem_of_getElem? (i := 10) rfl)).1
theorem bX11_knock_62_t (C : mCx p (mR 21) s m args meth c G cX11_knock RX11 4 false 233 54500 233 54500) (hr : meth.sig.returnType = (some .int)) (hk : meth.locks = false) {S' : mT} {r : Int32} {s0 : Int32} {S : mT} (hf : fX11_knock_62 true s0 S = some (r, S')) (ok : Bool) : mW p l e (mR 21) s m args below meth c G 4 233 54500 (mQ below G args s true S' (some (.int r))) (ok, 62, [.retAddr 0, .retAddr 0, .retAddr 0, .retAddr 0], [.int s0], mk true S) := by
  unfold fX11_knock_62 at hf
  cases hf
  exact gret_i C hr hk (kX11_knock _ (List.mem_of_getElem? (i := 32) rfl)).1
theorem bX11_knock_0_t (C : mCx p (mR 21) s m args meth c G cX11_knock RX11 4 false 233 54500 233 54500) (hr : meth.sig.returnType = (some .int)) (hk : meth.locks = false) {S' : mT} {r : Int32} {v1 : Int32} {v2 : Int32} {S : mT} (hf : fX11_knock true v1 v2 S = some (r, S')) (ok : Bool) : mW p l e (mR 21) s m args below meth c G 4 233 54500 (mQ below G args s true S' (some (.int r))) (ok, 0, [.ref (0), .int v1, .int v2, .retAddr 0], [], mk true S) := by
  unfold fX11_knock at hf
  refine msegT C kX11_knock 0 3 (g := (true, 3, [.ref (0), .int v1, .int v2, .retAddr 0], [.int (1 : Int32), .int (0 : Int32), .int v1], mk true S)) rfl rfl ?_
  obtain ⟨x2, S1, hq, hf⟩ := bndC_ex hf
  refine mcall (kd := 1) (vs := [.int v1, .int (0 : Int32), .int (1 : Int32)]) (rest := []) (r := (some (.int x2))) (h' := mk true S1) (ok' := true) C lkRX11_169 (qX11_isWithin hq) (kX11_knock _ (List.mem_of_getElem? (i := 3) rfl)).1 rfl (Nat.le_of_ble_eq_true rfl) (Nat.le_of_ble_eq_true rfl) (Nat.le_refl _) (Nat.le_refl _) (Nat.le_of_ble_eq_true rfl) ?_
  refine msegT C kX11_knock 4 1 (g := (true, (if x2 = 0 then 19 else 9), [.ref (0), .int v1, .int v2, .retAddr 0], [], mk true S1)) rfl rfl ?_
  by_cases hc : x2 = 0
  · rw [if_pos hc] at hf ⊢
    exact mfor (L' := [.retAddr 0, .retAddr 0, .retAddr 0, .retAddr 0]) ⟨Or.inl rfl, Or.inl rfl, Or.inl rfl, Or.inl rfl, trivial⟩ (bX11_knock_19_t C hr hk hf true)
  · rw [if_neg hc] at hf ⊢
    obtain ⟨hok, hf⟩ := grd_ex hf
    refine msegT C kX11_knock 5 4 (g := ((kO (shU true) 8 && (kO 0 11 && true)), (if (S1.1 (shU true) 9) = 0 then 19 else 21), [.ref (0), .int v1, .int v2, .retAddr 0], [], mk true S1)) rfl hok ?_
    by_cases hc : (S1.1 (shU true) 9) = 0
    · rw [if_pos hc] at hf ⊢
      exact mfor (L' := [.retAddr 0, .retAddr 0, .retAddr 0, .retAddr 0]) ⟨Or.inl rfl, Or.inl rfl, Or.inl rfl, Or.inl rfl, trivial⟩ (bX11_knock_19_t C hr hk hf true)
    · rw [if_neg hc] at hf ⊢
      refine msegT C kX11_knock 11 2 (g := (true, 23, [.ref (0), .int v1, .int v2, .retAddr 0], [.int v2, .ref (0)], mk true S1)) rfl rfl ?_
      obtain ⟨S3, hq, hf⟩ := bndV_ex hf
      refine mcall (kd := 0) (vs := [.ref (0), .int v2]) (rest := []) (r := none) (h' := mk true S3) (ok' := true) C lkRX11_250 (qX11_learn_t hq) (kX11_knock _ (List.mem_of_getElem? (i := 13) rfl)).1 ⟨_, _, rfl, rfl, Nat.le_of_ble_eq_true rfl, _, _, rfl, rfl, rfl⟩ (Nat.le_of_ble_eq_true rfl) (Nat.le_of_ble_eq_true rfl) (Nat.le_refl _) (Nat.le_refl _) (Nat.le_of_ble_eq_true rfl) ?_
      obtain ⟨hok, hf⟩ := grd_ex hf
      refine msegT C kX11_knock 14 4 (g := ((kO 120 10 && (kO 0 11 && true)), (if (S3.1 120 8) = 0 then 36 else 38), [.ref (0), .int v1, .int v2, .retAddr 0], [], mk true S3)) rfl hok ?_
      by_cases hc : (S3.1 120 8) = 0
      · rw [if_pos hc] at hf ⊢
        refine msegT C kX11_knock 18 1 (g := (true, 37, [.ref (0), .int v1, .int v2, .retAddr 0], [.int (-1 : Int32)], mk true S3)) rfl rfl ?_
        cases hf
        exact gret_i C hr hk (kX11_knock _ (List.mem_of_getElem? (i := 19) rfl)).1
      · rw [if_neg hc] at hf ⊢
        obtain ⟨hok, hf⟩ := grd_ex hf
        refine msegT C kX11_knock 20 2 (g := ((kO 0 11 && true), 42, [.ref (0), .int v1, .int v2, .retAddr 0], [.ref 120], mk true S3)) rfl hok ?_
        obtain ⟨x5, S4, hq, hf⟩ := bndC_ex hf
        refine mcall (kd := 0) (vs := [.ref 120]) (rest := []) (r := (some (.int x5))) (h' := mk true S4) (ok' := true) C lkRX11_274 (qX10_bestToSee hq) (kX11_knock _ (List.mem_of_getElem? (i := 22) rfl)).1 ⟨_, _, rfl, rfl, Nat.le_of_ble_eq_true rfl, _, _, rfl, rfl, rfl⟩ (Nat.le_of_ble_eq_true rfl) (Nat.le_of_ble_eq_true rfl) (Nat.le_refl _) (Nat.le_refl _) (Nat.le_of_ble_eq_true rfl) ?_
        refine msegT C kX11_knock 23 3 (g := (true, (if v1 = 0 then 50 else 54), [.ref (0), .int v1, .int v2, .int x5], [], mk true S4)) rfl rfl ?_
        by_cases hc : v1 = 0
        · rw [if_pos hc] at hf ⊢
          refine msegT C kX11_knock 26 2 (g := (true, 62, [.ref (0), .int v1, .int v2, .int x5], [.int x5], mk true S4)) rfl rfl ?_
          exact mfor (L' := [.retAddr 0, .retAddr 0, .retAddr 0, .retAddr 0]) ⟨Or.inl rfl, Or.inl rfl, Or.inl rfl, Or.inl rfl, trivial⟩ (bX11_knock_62_t C hr hk hf true)
        · rw [if_neg hc] at hf ⊢
          obtain ⟨hok, hf⟩ := grd_ex hf
          refine msegT C kX11_knock 28 3 (g := ((kO 0 11 && true), 59, [.ref (0), .int v1, .int v2, .int x5], [.int x5, .ref 120], mk true S4)) rfl hok ?_
          obtain ⟨x7, S6, hq, hf⟩ := bndC_ex hf
          refine mcall (kd := 0) (vs := [.ref 120, .int x5]) (rest := []) (r := (some (.int x7))) (h' := mk true S6) (ok' := true) C lkRX11_277 (qX10_leftBySeeing hq) (kX11_knock _ (List.mem_of_getElem? (i := 31) rfl)).1 ⟨_, _, rfl, rfl, Nat.le_of_ble_eq_true rfl, _, _, rfl, rfl, rfl⟩ (Nat.le_of_ble_eq_true rfl) (Nat.le_of_ble_eq_true rfl) (Nat.le_refl _) (Nat.le_refl _) (Nat.le_of_ble_eq_true rfl) ?_
          exact mfor (L' := [.retAddr 0, .retAddr 0, .retAddr 0, .retAddr 0]) ⟨Or.inl rfl, Or.inl rfl, Or.inl rfl, Or.inl rfl, trivial⟩ (bX11_knock_62_t C hr hk hf true)
theorem qX11_knock_t {v1 : Int32} {v2 : Int32} {S S' : mT} {r : Int32} (hf : fX11_knock true v1 v2 S = some (r, S')) : mOk l mX11_knock 21 [.ref (0), .int v1, .int v2] true S (some (.int r)) S' :=
  gMet (by decide) (Nat.le_of_ble_eq_true rfl) rfl (Nat.le_of_ble_eq_true rfl) (fun p e s m args below meth c G C hr hk => bX11_knock_0_t C hr hk hf true)
theorem bX11_later_22 (C : mCx p (mR 2) s m args meth c G cX11_later RX11 2 false 233 54500 233 54500) (hr : meth.sig.returnType = (some .int)) (hk : meth.locks = false) {b : Bool} {S' : mT} {r : Int32} {S : mT} (hf : fX11_later_22 S = some (r, S')) (ok : Bool) : mW p l e (mR 2) s m args below meth c G 2 233 54500 (mQ below G args s b S' (some (.int r))) (ok, 22, [.retAddr 0, .retAddr 0], [], mk b S) := by
  unfold fX11_later_22 at hf
  refine msegT C kX11_later 11 1 (g := (true, 23, [.retAddr 0, .retAddr 0], [.int (-1 : Int32)], mk b S)) rfl rfl ?_
  cases hf
  exact gret_i C hr hk (kX11_later _ (List.mem_of_getElem? (i := 12) rfl)).1
theorem bX11_later_0 (C : mCx p (mR 2) s m args meth c G cX11_later RX11 2 false 233 54500 233 54500) (hr : meth.sig.returnType = (some .int)) (hk : meth.locks = false) {b : Bool} {S' : mT} {r : Int32} {v1 : Int32} {S : mT} (hf : fX11_later v1 S = some (r, S')) (ok : Bool) : mW p l e (mR 2) s m args below meth c G 2 233 54500 (mQ below G args s b S' (some (.int r))) (ok, 0, [.ref (0), .int v1], [], mk b S) := by
  unfold fX11_later at hf
  refine msegT C kX11_later 0 3 (g := (true, 5, [.ref (0), .int v1], [.int (1000 : Int32), .int (0 : Int32), .int v1], mk b S)) rfl rfl ?_
  obtain ⟨x2, S1, hq, hf⟩ := bndC_ex hf
  refine mcall (kd := 1) (vs := [.int v1, .int (0 : Int32), .int (1000 : Int32)]) (rest := []) (r := (some (.int x2))) (h' := mk b S1) (ok' := true) C lkRX11_169 (qX11_isWithin hq) (kX11_later _ (List.mem_of_getElem? (i := 3) rfl)).1 rfl (Nat.le_of_ble_eq_true rfl) (Nat.le_of_ble_eq_true rfl) (Nat.le_refl _) (Nat.le_refl _) (Nat.le_of_ble_eq_true rfl) ?_
  refine msegT C kX11_later 4 1 (g := (true, (if x2 = 0 then 22 else 11), [.ref (0), .int v1], [], mk b S1)) rfl rfl ?_
  by_cases hc : x2 = 0
  · rw [if_pos hc] at hf ⊢
    exact mfor (L' := [.retAddr 0, .retAddr 0]) ⟨Or.inl rfl, Or.inl rfl, trivial⟩ (bX11_later_22 C hr hk hf true)
  · rw [if_neg hc] at hf ⊢
    obtain ⟨hok, hf⟩ := grd_ex hf
    refine msegT C kX11_later 5 6 (g := ((kO 0 11 && true), (if ((S1.1 0 14) + v1) ≤ (100000 : Int32) then 24 else 22), [.ref (0), .int v1], [], mk b S1)) rfl hok ?_
    by_cases hc : ((S1.1 0 14) + v1) ≤ (100000 : Int32)
    · rw [if_pos hc] at hf ⊢
      obtain ⟨hok, hf⟩ := grd_ex hf
      refine msegT C kX11_later 13 6 (g := ((kO 0 11 && (kO 0 11 && true)), 34, [.ref (0), .int v1], [], mk b (sI S1 0 14 ((S1.1 0 14) + v1)))) rfl hok ?_
      obtain ⟨S3, eS3, hf⟩ := bnd_ex hf
      rw [← eS3]
      obtain ⟨hok, hf⟩ := grd_ex hf
      refine msegT C kX11_later 19 2 (g := ((kO 0 11 && true), 38, [.ref (0), .int v1], [.int (S3.1 0 14)], mk b S3)) rfl hok ?_
      cases hf
      exact gret_i C hr hk (kX11_later _ (List.mem_of_getElem? (i := 21) rfl)).1
    · rw [if_neg hc] at hf ⊢
      exact mfor (L' := [.retAddr 0, .retAddr 0]) ⟨Or.inl rfl, Or.inl rfl, trivial⟩ (bX11_later_22 C hr hk hf true)
theorem qX11_later {b : Bool} {v1 : Int32} {S S' : mT} {r : Int32} (hf : fX11_later v1 S = some (r, S')) : mOk l mX11_later 2 [.ref (0), .int v1] b S (some (.int r)) S' :=
  gMet (by decide) (Nat.le_of_ble_eq_true rfl) rfl (Nat.le_of_ble_eq_true rfl) (fun p e s m args below meth c G C hr hk => bX11_later_0 C hr hk hf true)
theorem bX1_leastTax_18 (C : mCx p (mR 1) s m args meth c G cX1_leastTax RX1 5 false 233 54500 233 54500) (hr : meth.sig.returnType = (some .int)) (hk : meth.locks = false) {b : Bool} {S' : mT} {r : Int32} {rc4 : Int32 → Int32 → mT → Option (Int32 × mT)} (Hrc4 : ∀ (v1 : Int32) (v2 : Int32) (S : mT), rc4 v1 v2 S = some (r, S') → ∀ ok : Bool, mW p l e (mR 1) s m args below meth c G 5 233 54500 (mQ below G args s b S' (some (.int r))) (ok, 4, [.ref (85), .int v1, .int v2, .retAddr 0, .retAddr 0], [], mk b S)) : ∀ (k : Nat) (v1 : Int32) (v2 : Int32) (v3 : Int32) (v4 : Int32) (S : mT), fX1_leastTax_18 rc4 k v1 v2 v3 v4 S = some (r, S') → ∀ ok : Bool, mW p l e (mR 1) s m args below meth c G 5 233 54500 (mQ below G args s b S' (some (.int r))) (ok, 18, [.ref (85), .int v1, .int v2, .int v3, .int v4], [], mk b S) := by
  intro k
  induction k with
  | zero =>
    intro v1 v2 v3 v4 S hf ok
    cases hf
  | succ k ih =>
    intro v1 v2 v3 v4 S hf ok
    unfold fX1_leastTax_18 at hf
    refine msegT C kX1_leastTax 12 3 (g := (true, (if (7 : Int32) < v4 then 45 else 25), [.ref (85), .int v1, .int v2, .int v3, .int v4], [], mk b S)) rfl rfl ?_
    by_cases hc : (7 : Int32) < v4
    · rw [if_pos hc] at hf ⊢
      refine msegT C kX1_leastTax 26 3 (g := (true, (if v3 < (1000000 : Int32) then 53 else 51), [.ref (85), .int v1, .int v2, .int v3, .int v4], [], mk b S)) rfl rfl ?_
      by_cases hc : v3 < (1000000 : Int32)
      · rw [if_pos hc] at hf ⊢
        refine msegT C kX1_leastTax 31 4 (g := (true, 57, [.ref (85), .int (v1 + v3), .int v2, .int v3, .int v4], [], mk b S)) rfl rfl ?_
        obtain ⟨x1, ex1, hf⟩ := bnd_ex hf
        rw [← ex1]
        refine msegT C kX1_leastTax 35 1 (g := (true, 60, [.ref (85), .int x1, .int (v2 + (1 : Int32)), .int v3, .int v4], [], mk b S)) rfl rfl ?_
        obtain ⟨x2, ex2, hf⟩ := bnd_ex hf
        rw [← ex2]
        refine msegT C kX1_leastTax 36 1 (g := (true, 4, [.ref (85), .int x1, .int x2, .int v3, .int v4], [], mk b S)) rfl rfl ?_
        exact mfor (L' := [.ref (85), .int x1, .int x2, .retAddr 0, .retAddr 0]) ⟨Or.inr rfl, Or.inr rfl, Or.inr rfl, Or.inl rfl, Or.inl rfl, trivial⟩ (Hrc4 _ _ _ hf true)
      · rw [if_neg hc] at hf ⊢
        refine msegT C kX1_leastTax 29 1 (g := (true, 52, [.ref (85), .int v1, .int v2, .int v3, .int v4], [.int (-1 : Int32)], mk b S)) rfl rfl ?_
        cases hf
        exact gret_i C hr hk (kX1_leastTax _ (List.mem_of_getElem? (i := 30) rfl)).1
    · rw [if_neg hc] at hf ⊢
      obtain ⟨hok, hf⟩ := grd_ex hf
      refine msegT C kX1_leastTax 15 7 (g := ((kI (rowR 86 (mIx v2)) v4 && (kR 86 v2 && (kO 85 1 && true))), 35, [.ref (85), .int v1, .int v2, .int v3, .int v4], [.int (S.1 (rowR 86 (mIx v2)) (mIx v4)), .int v3], mk b S)) rfl hok ?_
      obtain ⟨x3, ex3, hf⟩ := bnd_ex hf
      refine so_min (ok' := true) C (kX1_leastTax _ (List.mem_of_getElem? (i := 22) rfl)).1 lmRX1_46 (Nat.le_of_ble_eq_true rfl) (Nat.le_refl _) (Nat.le_refl _) ?_
      rw [← ex3]
      refine msegT C kX1_leastTax 23 2 (g := (true, 42, [.ref (85), .int v1, .int v2, .int x3, .int (v4 + (1 : Int32))], [], mk b S)) rfl rfl ?_
      obtain ⟨x4, ex4, hf⟩ := bnd_ex hf
      rw [← ex4]
      refine msegT C kX1_leastTax 25 1 (g := (true, 18, [.ref (85), .int v1, .int v2, .int x3, .int x4], [], mk b S)) rfl rfl ?_
      exact mfor (L' := [.ref (85), .int v1, .int v2, .int x3, .int x4]) ⟨Or.inr rfl, Or.inr rfl, Or.inr rfl, Or.inr rfl, Or.inr rfl, trivial⟩ (ih _ _ _ _ _ hf true)
theorem bX1_leastTax_4 (C : mCx p (mR 1) s m args meth c G cX1_leastTax RX1 5 false 233 54500 233 54500) (hr : meth.sig.returnType = (some .int)) (hk : meth.locks = false) {b : Bool} {S' : mT} {r : Int32} : ∀ (k : Nat) (v1 : Int32) (v2 : Int32) (S : mT), fX1_leastTax_4 k v1 v2 S = some (r, S') → ∀ ok : Bool, mW p l e (mR 1) s m args below meth c G 5 233 54500 (mQ below G args s b S' (some (.int r))) (ok, 4, [.ref (85), .int v1, .int v2, .retAddr 0, .retAddr 0], [], mk b S) := by
  intro k
  induction k with
  | zero =>
    intro v1 v2 S hf ok
    cases hf
  | succ k ih =>
    intro v1 v2 S hf ok
    unfold fX1_leastTax_4 at hf
    obtain ⟨hok, hf⟩ := grd_ex hf
    refine msegT C kX1_leastTax 4 4 (g := ((kO 85 1 && true), (if (S.1 85 3) ≤ v2 then 63 else 12), [.ref (85), .int v1, .int v2, .retAddr 0, .retAddr 0], [], mk b S)) rfl hok ?_
    by_cases hc : (S.1 85 3) ≤ v2
    · rw [if_pos hc] at hf ⊢
      refine msegT C kX1_leastTax 37 1 (g := (true, 64, [.ref (85), .int v1, .int v2, .retAddr 0, .retAddr 0], [.int v1], mk b S)) rfl rfl ?_
      cases hf
      exact gret_i C hr hk (kX1_leastTax _ (List.mem_of_getElem? (i := 38) rfl)).1
    · rw [if_neg hc] at hf ⊢
      refine msegT C kX1_leastTax 8 4 (g := (true, 18, [.ref (85), .int v1, .int v2, .int (1000000 : Int32), .int (0 : Int32)], [], mk b S)) rfl rfl ?_
      exact mfor (L' := [.ref (85), .int v1, .int v2, .int (1000000 : Int32), .int (0 : Int32)]) ⟨Or.inr rfl, Or.inr rfl, Or.inr rfl, Or.inr rfl, Or.inr rfl, trivial⟩ (bX1_leastTax_18 C hr hk ih _ _ _ _ _ _ hf true)
theorem bX1_leastTax_0 (C : mCx p (mR 1) s m args meth c G cX1_leastTax RX1 5 false 233 54500 233 54500) (hr : meth.sig.returnType = (some .int)) (hk : meth.locks = false) {b : Bool} {S' : mT} {r : Int32} {S : mT} (hf : fX1_leastTax S = some (r, S')) (ok : Bool) : mW p l e (mR 1) s m args below meth c G 5 233 54500 (mQ below G args s b S' (some (.int r))) (ok, 0, [.ref (85), .retAddr 0, .retAddr 0, .retAddr 0, .retAddr 0], [], mk b S) := by
  unfold fX1_leastTax at hf
  refine msegT C kX1_leastTax 0 4 (g := (true, 4, [.ref (85), .int (0 : Int32), .int (0 : Int32), .retAddr 0, .retAddr 0], [], mk b S)) rfl rfl ?_
  exact mfor (L' := [.ref (85), .int (0 : Int32), .int (0 : Int32), .retAddr 0, .retAddr 0]) ⟨Or.inr rfl, Or.inr rfl, Or.inr rfl, Or.inl rfl, Or.inl rfl, trivial⟩ (bX1_leastTax_4 C hr hk _ _ _ _ hf true)
theorem qX1_leastTax {b : Bool} {S S' : mT} {r : Int32} (hf : fX1_leastTax S = some (r, S')) : mOk l mX1_leastTax 1 [.ref (85)] b S (some (.int r)) S' :=
  gMet (by decide) (Nat.le_of_ble_eq_true rfl) rfl (Nat.le_of_ble_eq_true rfl) (fun p e s m args below meth c G C hr hk => bX1_leastTax_0 C hr hk hf true)
theorem bX1_taxHiding_36_3 (C : mCx p (mR 4) s m args meth c G cX1_taxHiding RX1 5 false 233 54500 233 54500) (hr : meth.sig.returnType = (some .int)) (hk : meth.locks = false) {b : Bool} {a1 : Nat} {S' : mT} {r : Int32} {s0 : Int32} {S : mT} (hf : fX1_taxHiding_36 3 a1 s0 S = some (r, S')) (ok : Bool) : mW p l e (mR 4) s m args below meth c G 5 233 54500 (mQ below G args s b S' (some (.int r))) (ok, 36, [.retAddr 0, .retAddr 0, .retAddr 0, .retAddr 0, .retAddr 0], [.int s0], mk b S) := by
  unfold fX1_taxHiding_36 at hf
  cases hf
  exact gret_i C hr hk (kX1_taxHiding _ (List.mem_of_getElem? (i := 21) rfl)).1
theorem bX1_taxHiding_0_3 (C : mCx p (mR 4) s m args meth c G cX1_taxHiding RX1 5 false 233 54500 233 54500) (hr : meth.sig.returnType = (some .int)) (hk : meth.locks = false) {b : Bool} {a1 : Nat} {S' : mT} {r : Int32} {v2 : Int32} {v3 : Int32} {S : mT} (hf : fX1_taxHiding 3 a1 v2 v3 S = some (r, S')) (ok : Bool) : mW p l e (mR 4) s m args below meth c G 5 233 54500 (mQ below G args s b S' (some (.int r))) (ok, 0, [.ref (3), .ref a1, .int v2, .int v3, .retAddr 0], [], mk b S) := by
  unfold fX1_taxHiding at hf
  refine msegT C kX1_taxHiding 0 4 (g := (true, 4, [.ref (3), .ref a1, .int v2, .int v3, .retAddr 0], [.int v3, .int v2, .ref a1, .ref (3)], mk b S)) rfl rfl ?_
  obtain ⟨x2, S1, hq, hf⟩ := bndC_ex hf
  refine mcall (kd := 0) (vs := [.ref (3), .ref a1, .int v2, .int v3]) (rest := []) (r := (some (.int x2))) (h' := mk b S1) (ok' := true) C lkRX1_35 (qX8_stonesHiding_3 hq) (kX1_taxHiding _ (List.mem_of_getElem? (i := 4) rfl)).1 ⟨_, _, rfl, rfl, Nat.le_of_ble_eq_true rfl, _, _, rfl, rfl, rfl⟩ (Nat.le_of_ble_eq_true rfl) (Nat.le_of_ble_eq_true rfl) (Nat.le_refl _) (Nat.le_refl _) (Nat.le_of_ble_eq_true rfl) ?_
  obtain ⟨hok, hf⟩ := grd_ex hf
  refine msegT C kX1_taxHiding 5 7 (g := ((kI (3 + 4) v2 && (kO 3 8 && true)), (if (S1.1 (3 + 4) (mIx v2)) ≤ x2 then 25 else 20), [.ref (3), .ref a1, .int v2, .int v3, .int x2], [], mk b S1)) rfl hok ?_
  by_cases hc : (S1.1 (3 + 4) (mIx v2)) ≤ x2
  · rw [if_pos hc] at hf ⊢
    obtain ⟨hok, hf⟩ := grd_ex hf
    refine msegT C kX1_taxHiding 14 6 (g := ((kI a1 (15 : Int32) && true), 33, [.ref (3), .ref a1, .int v2, .int v3, .int x2], [.int (S1.1 a1 (mIx (15 : Int32))), .int v2, .int x2, .ref (3)], mk b S1)) rfl hok ?_
    obtain ⟨x4, S3, hq, hf⟩ := bndC_ex hf
    refine mcall (kd := 0) (vs := [.ref (3), .int x2, .int v2, .int (S1.1 a1 (mIx (15 : Int32)))]) (rest := []) (r := (some (.int x4))) (h' := mk b S3) (ok' := true) C lkRX1_42 (qX8_taxOf_3 hq) (kX1_taxHiding _ (List.mem_of_getElem? (i := 20) rfl)).1 ⟨_, _, rfl, rfl, Nat.le_of_ble_eq_true rfl, _, _, rfl, rfl, rfl⟩ (Nat.le_of_ble_eq_true rfl) (Nat.le_of_ble_eq_true rfl) (Nat.le_refl _) (Nat.le_refl _) (Nat.le_of_ble_eq_true rfl) ?_
    exact mfor (L' := [.retAddr 0, .retAddr 0, .retAddr 0, .retAddr 0, .retAddr 0]) ⟨Or.inl rfl, Or.inl rfl, Or.inl rfl, Or.inl rfl, Or.inl rfl, trivial⟩ (bX1_taxHiding_36_3 C hr hk hf true)
  · rw [if_neg hc] at hf ⊢
    refine msegT C kX1_taxHiding 12 2 (g := (true, 36, [.ref (3), .ref a1, .int v2, .int v3, .int x2], [.int (1000000 : Int32)], mk b S1)) rfl rfl ?_
    exact mfor (L' := [.retAddr 0, .retAddr 0, .retAddr 0, .retAddr 0, .retAddr 0]) ⟨Or.inl rfl, Or.inl rfl, Or.inl rfl, Or.inl rfl, Or.inl rfl, trivial⟩ (bX1_taxHiding_36_3 C hr hk hf true)
theorem qX1_taxHiding_3 {b : Bool} {a1 : Nat} {v2 : Int32} {v3 : Int32} {S S' : mT} {r : Int32} (hf : fX1_taxHiding 3 a1 v2 v3 S = some (r, S')) : mOk l mX1_taxHiding 4 [.ref (3), .ref a1, .int v2, .int v3] b S (some (.int r)) S' :=
  gMet (by decide) (Nat.le_of_ble_eq_true rfl) rfl (Nat.le_of_ble_eq_true rfl) (fun p e s m args below meth c G C hr hk => bX1_taxHiding_0_3 C hr hk hf true)
theorem bX1_taxHiding_36_19 (C : mCx p (mR 4) s m args meth c G cX1_taxHiding RX1 5 false 233 54500 233 54500) (hr : meth.sig.returnType = (some .int)) (hk : meth.locks = false) {b : Bool} {a1 : Nat} {S' : mT} {r : Int32} {s0 : Int32} {S : mT} (hf : fX1_taxHiding_36 19 a1 s0 S = some (r, S')) (ok : Bool) : mW p l e (mR 4) s m args below meth c G 5 233 54500 (mQ below G args s b S' (some (.int r))) (ok, 36, [.retAddr 0, .retAddr 0, .retAddr 0, .retAddr 0, .retAddr 0], [.int s0], mk b S) := by
  unfold fX1_taxHiding_36 at hf
  cases hf
  exact gret_i C hr hk (kX1_taxHiding _ (List.mem_of_getElem? (i := 21) rfl)).1
theorem bX1_taxHiding_0_19 (C : mCx p (mR 4) s m args meth c G cX1_taxHiding RX1 5 false 233 54500 233 54500) (hr : meth.sig.returnType = (some .int)) (hk : meth.locks = false) {b : Bool} {a1 : Nat} {S' : mT} {r : Int32} {v2 : Int32} {v3 : Int32} {S : mT} (hf : fX1_taxHiding 19 a1 v2 v3 S = some (r, S')) (ok : Bool) : mW p l e (mR 4) s m args below meth c G 5 233 54500 (mQ below G args s b S' (some (.int r))) (ok, 0, [.ref (19), .ref a1, .int v2, .int v3, .retAddr 0], [], mk b S) := by
  unfold fX1_taxHiding at hf
  refine msegT C kX1_taxHiding 0 4 (g := (true, 4, [.ref (19), .ref a1, .int v2, .int v3, .retAddr 0], [.int v3, .int v2, .ref a1, .ref (19)], mk b S)) rfl rfl ?_
  obtain ⟨x2, S1, hq, hf⟩ := bndC_ex hf
  refine mcall (kd := 0) (vs := [.ref (19), .ref a1, .int v2, .int v3]) (rest := []) (r := (some (.int x2))) (h' := mk b S1) (ok' := true) C lkRX1_35 (qX8_stonesHiding_19 hq) (kX1_taxHiding _ (List.mem_of_getElem? (i := 4) rfl)).1 ⟨_, _, rfl, rfl, Nat.le_of_ble_eq_true rfl, _, _, rfl, rfl, rfl⟩ (Nat.le_of_ble_eq_true rfl) (Nat.le_of_ble_eq_true rfl) (Nat.le_refl _) (Nat.le_refl _) (Nat.le_of_ble_eq_true rfl) ?_
  obtain ⟨hok, hf⟩ := grd_ex hf
  refine msegT C kX1_taxHiding 5 7 (g := ((kI (19 + 4) v2 && (kO 19 8 && true)), (if (S1.1 (19 + 4) (mIx v2)) ≤ x2 then 25 else 20), [.ref (19), .ref a1, .int v2, .int v3, .int x2], [], mk b S1)) rfl hok ?_
  by_cases hc : (S1.1 (19 + 4) (mIx v2)) ≤ x2
  · rw [if_pos hc] at hf ⊢
    obtain ⟨hok, hf⟩ := grd_ex hf
    refine msegT C kX1_taxHiding 14 6 (g := ((kI a1 (15 : Int32) && true), 33, [.ref (19), .ref a1, .int v2, .int v3, .int x2], [.int (S1.1 a1 (mIx (15 : Int32))), .int v2, .int x2, .ref (19)], mk b S1)) rfl hok ?_
    obtain ⟨x4, S3, hq, hf⟩ := bndC_ex hf
    refine mcall (kd := 0) (vs := [.ref (19), .int x2, .int v2, .int (S1.1 a1 (mIx (15 : Int32)))]) (rest := []) (r := (some (.int x4))) (h' := mk b S3) (ok' := true) C lkRX1_42 (qX8_taxOf_19 hq) (kX1_taxHiding _ (List.mem_of_getElem? (i := 20) rfl)).1 ⟨_, _, rfl, rfl, Nat.le_of_ble_eq_true rfl, _, _, rfl, rfl, rfl⟩ (Nat.le_of_ble_eq_true rfl) (Nat.le_of_ble_eq_true rfl) (Nat.le_refl _) (Nat.le_refl _) (Nat.le_of_ble_eq_true rfl) ?_
    exact mfor (L' := [.retAddr 0, .retAddr 0, .retAddr 0, .retAddr 0, .retAddr 0]) ⟨Or.inl rfl, Or.inl rfl, Or.inl rfl, Or.inl rfl, Or.inl rfl, trivial⟩ (bX1_taxHiding_36_19 C hr hk hf true)
  · rw [if_neg hc] at hf ⊢
    refine msegT C kX1_taxHiding 12 2 (g := (true, 36, [.ref (19), .ref a1, .int v2, .int v3, .int x2], [.int (1000000 : Int32)], mk b S1)) rfl rfl ?_
    exact mfor (L' := [.retAddr 0, .retAddr 0, .retAddr 0, .retAddr 0, .retAddr 0]) ⟨Or.inl rfl, Or.inl rfl, Or.inl rfl, Or.inl rfl, Or.inl rfl, trivial⟩ (bX1_taxHiding_36_19 C hr hk hf true)
theorem qX1_taxHiding_19 {b : Bool} {a1 : Nat} {v2 : Int32} {v3 : Int32} {S S' : mT} {r : Int32} (hf : fX1_taxHiding 19 a1 v2 v3 S = some (r, S')) : mOk l mX1_taxHiding 4 [.ref (19), .ref a1, .int v2, .int v3] b S (some (.int r)) S' :=
  gMet (by decide) (Nat.le_of_ble_eq_true rfl) rfl (Nat.le_of_ble_eq_true rfl) (fun p e s m args below meth c G C hr hk => bX1_taxHiding_0_19 C hr hk hf true)
theorem bX1_look_59_3 (C : mCx p (mR 5) s m args meth c G cX1_look RX1 5 false 233 54500 233 54500) (hr : meth.sig.returnType = none) (hk : meth.locks = false) {b : Bool} {a2 : Nat} {S' : mT} {rc10 : Int32 → mT → Option (mT)} (Hrc10 : ∀ (v3 : Int32) (S : mT), rc10 v3 S = some S' → ∀ ok : Bool, mW p l e (mR 5) s m args below meth c G 5 233 54500 (mQ below G args s b S' none) (ok, 10, [.ref (85), .ref (3), .ref a2, .int v3, .retAddr 0], [], mk b S)) {rc21 : Int32 → Int32 → mT → Option (mT)} (Hrc21 : ∀ (v3 : Int32) (v4 : Int32) (S : mT), rc21 v3 v4 S = some S' → ∀ ok : Bool, mW p l e (mR 5) s m args below meth c G 5 233 54500 (mQ below G args s b S' none) (ok, 21, [.ref (85), .ref (3), .ref a2, .int v3, .int v4], [], mk b S)) {v3 : Int32} {v4 : Int32} {s0 : Int32} {s1 : Int32} {S : mT} (hf : fX1_look_59 3 a2 rc10 rc21 v3 v4 s0 s1 S = some S') (ok : Bool) : mW p l e (mR 5) s m args below meth c G 5 233 54500 (mQ below G args s b S' none) (ok, 59, [.ref (85), .ref (3), .ref a2, .int v3, .int v4], [.int s0, .int s1, .ref (rowR 86 (mIx v3))], mk b S) := by
  unfold fX1_look_59 at hf
  obtain ⟨hok, hf⟩ := grd_ex hf
  refine msegT C kX1_look 34 1 (g := ((kI (rowR 86 (mIx v3)) s1 && true), 60, [.ref (85), .ref (3), .ref a2, .int v3, .int v4], [], mk b (sI S (rowR 86 (mIx v3)) (mIx s1) s0))) rfl hok ?_
  obtain ⟨S5, eS5, hf⟩ := bnd_ex hf
  rw [← eS5]
  refine msegT C kX1_look 35 1 (g := (true, 63, [.ref (85), .ref (3), .ref a2, .int v3, .int (v4 + (1 : Int32))], [], mk b S5)) rfl rfl ?_
  obtain ⟨x6, ex6, hf⟩ := bnd_ex hf
  rw [← ex6]
  refine msegT C kX1_look 36 1 (g := (true, 21, [.ref (85), .ref (3), .ref a2, .int v3, .int x6], [], mk b S5)) rfl rfl ?_
  exact mfor (L' := [.ref (85), .ref (3), .ref a2, .int v3, .int x6]) ⟨Or.inr rfl, Or.inr rfl, Or.inr rfl, Or.inr rfl, Or.inr rfl, trivial⟩ (Hrc21 _ _ _ hf true)
theorem bX1_look_21_3 (C : mCx p (mR 5) s m args meth c G cX1_look RX1 5 false 233 54500 233 54500) (hr : meth.sig.returnType = none) (hk : meth.locks = false) {b : Bool} {a2 : Nat} {S' : mT} {rc10 : Int32 → mT → Option (mT)} (Hrc10 : ∀ (v3 : Int32) (S : mT), rc10 v3 S = some S' → ∀ ok : Bool, mW p l e (mR 5) s m args below meth c G 5 233 54500 (mQ below G args s b S' none) (ok, 10, [.ref (85), .ref (3), .ref a2, .int v3, .retAddr 0], [], mk b S)) : ∀ (k : Nat) (v3 : Int32) (v4 : Int32) (S : mT), fX1_look_21 3 a2 rc10 k v3 v4 S = some S' → ∀ ok : Bool, mW p l e (mR 5) s m args below meth c G 5 233 54500 (mQ below G args s b S' none) (ok, 21, [.ref (85), .ref (3), .ref a2, .int v3, .int v4], [], mk b S) := by
  intro k
  induction k with
  | zero =>
    intro v3 v4 S hf ok
    cases hf
  | succ k ih =>
    intro v3 v4 S hf ok
    unfold fX1_look_21 at hf
    refine msegT C kX1_look 12 3 (g := (true, (if (7 : Int32) < v4 then 66 else 28), [.ref (85), .ref (3), .ref a2, .int v3, .int v4], [], mk b S)) rfl rfl ?_
    by_cases hc : (7 : Int32) < v4
    · rw [if_pos hc] at hf ⊢
      refine msegT C kX1_look 37 1 (g := (true, 69, [.ref (85), .ref (3), .ref a2, .int (v3 + (1 : Int32)), .int v4], [], mk b S)) rfl rfl ?_
      obtain ⟨x2, ex2, hf⟩ := bnd_ex hf
      rw [← ex2]
      refine msegT C kX1_look 38 1 (g := (true, 10, [.ref (85), .ref (3), .ref a2, .int x2, .int v4], [], mk b S)) rfl rfl ?_
      exact mfor (L' := [.ref (85), .ref (3), .ref a2, .int x2, .retAddr 0]) ⟨Or.inr rfl, Or.inr rfl, Or.inr rfl, Or.inr rfl, Or.inl rfl, trivial⟩ (Hrc10 _ _ hf true)
    · rw [if_neg hc] at hf ⊢
      obtain ⟨hok, hf⟩ := grd_ex hf
      refine msegT C kX1_look 15 10 (g := ((kR 86 v3 && (kO 85 1 && true)), 42, [.ref (85), .ref (3), .ref a2, .int v3, .int v4], [.int ((0 : Int32) + v3), .ref a2, .int v4, .int v4, .ref (rowR 86 (mIx v3))], mk b S)) rfl hok ?_
      obtain ⟨hok, hf⟩ := grd_ex hf
      refine msegT C kX1_look 25 2 (g := ((kI a2 ((0 : Int32) + v3) && true), (if (S.1 a2 (mIx ((0 : Int32) + v3))) < v4 then 57 else 46), [.ref (85), .ref (3), .ref a2, .int v3, .int v4], [.int v4, .ref (rowR 86 (mIx v3))], mk b S)) rfl hok ?_
      by_cases hc : (S.1 a2 (mIx ((0 : Int32) + v3))) < v4
      · rw [if_pos hc] at hf ⊢
        refine msegT C kX1_look 33 1 (g := (true, 59, [.ref (85), .ref (3), .ref a2, .int v3, .int v4], [.int (1000000 : Int32), .int v4, .ref (rowR 86 (mIx v3))], mk b S)) rfl rfl ?_
        exact mfor (L' := [.ref (85), .ref (3), .ref a2, .int v3, .int v4]) ⟨Or.inr rfl, Or.inr rfl, Or.inr rfl, Or.inr rfl, Or.inr rfl, trivial⟩ (bX1_look_59_3 C hr hk Hrc10 ih hf true)
      · rw [if_neg hc] at hf ⊢
        refine msegT C kX1_look 27 4 (g := (true, 51, [.ref (85), .ref (3), .ref a2, .int v3, .int v4], [.int v4, .int v3, .ref a2, .ref (3), .int v4, .ref (rowR 86 (mIx v3))], mk b S)) rfl rfl ?_
        obtain ⟨x4, S3, hq, hf⟩ := bndC_ex hf
        refine mcall (kd := 1) (vs := [.ref (3), .ref a2, .int v3, .int v4]) (rest := [.int v4, .ref (rowR 86 (mIx v3))]) (r := (some (.int x4))) (h' := mk b S3) (ok' := true) C lkRX1_30 (qX1_taxHiding_3 hq) (kX1_look _ (List.mem_of_getElem? (i := 31) rfl)).1 rfl (Nat.le_of_ble_eq_true rfl) (Nat.le_of_ble_eq_true rfl) (Nat.le_refl _) (Nat.le_refl _) (Nat.le_of_ble_eq_true rfl) ?_
        refine msegT C kX1_look 32 1 (g := (true, 59, [.ref (85), .ref (3), .ref a2, .int v3, .int v4], [.int x4, .int v4, .ref (rowR 86 (mIx v3))], mk b S3)) rfl rfl ?_
        exact mfor (L' := [.ref (85), .ref (3), .ref a2, .int v3, .int v4]) ⟨Or.inr rfl, Or.inr rfl, Or.inr rfl, Or.inr rfl, Or.inr rfl, trivial⟩ (bX1_look_59_3 C hr hk Hrc10 ih hf true)
theorem bX1_look_10_3 (C : mCx p (mR 5) s m args meth c G cX1_look RX1 5 false 233 54500 233 54500) (hr : meth.sig.returnType = none) (hk : meth.locks = false) {b : Bool} {a2 : Nat} {S' : mT} : ∀ (k : Nat) (v3 : Int32) (S : mT), fX1_look_10 3 a2 k v3 S = some S' → ∀ ok : Bool, mW p l e (mR 5) s m args below meth c G 5 233 54500 (mQ below G args s b S' none) (ok, 10, [.ref (85), .ref (3), .ref a2, .int v3, .retAddr 0], [], mk b S) := by
  intro k
  induction k with
  | zero =>
    intro v3 S hf ok
    cases hf
  | succ k ih =>
    intro v3 S hf ok
    unfold fX1_look_10 at hf
    obtain ⟨hok, hf⟩ := grd_ex hf
    refine msegT C kX1_look 6 4 (g := ((kO 85 1 && true), (if (S.1 85 3) ≤ v3 then 72 else 18), [.ref (85), .ref (3), .ref a2, .int v3, .retAddr 0], [], mk b S)) rfl hok ?_
    by_cases hc : (S.1 85 3) ≤ v3
    · rw [if_pos hc] at hf ⊢
      cases hf
      exact gret_v C hr hk (kX1_look _ (List.mem_of_getElem? (i := 39) rfl)).1
    · rw [if_neg hc] at hf ⊢
      refine msegT C kX1_look 10 2 (g := (true, 21, [.ref (85), .ref (3), .ref a2, .int v3, .int (0 : Int32)], [], mk b S)) rfl rfl ?_
      exact mfor (L' := [.ref (85), .ref (3), .ref a2, .int v3, .int (0 : Int32)]) ⟨Or.inr rfl, Or.inr rfl, Or.inr rfl, Or.inr rfl, Or.inr rfl, trivial⟩ (bX1_look_21_3 C hr hk ih _ _ _ _ hf true)
theorem bX1_look_0_3 (C : mCx p (mR 5) s m args meth c G cX1_look RX1 5 false 233 54500 233 54500) (hr : meth.sig.returnType = none) (hk : meth.locks = false) {b : Bool} {a2 : Nat} {S' : mT} {S : mT} (hf : fX1_look 3 a2 S = some S') (ok : Bool) : mW p l e (mR 5) s m args below meth c G 5 233 54500 (mQ below G args s b S' none) (ok, 0, [.ref (85), .ref (3), .ref a2, .retAddr 0, .retAddr 0], [], mk b S) := by
  unfold fX1_look at hf
  obtain ⟨hok, hf⟩ := grd_ex hf
  refine msegT C kX1_look 0 4 (g := ((kO 85 1 && (kO 3 8 && true)), 8, [.ref (85), .ref (3), .ref a2, .retAddr 0, .retAddr 0], [], mk b (sI S 85 3 (S.1 3 9)))) rfl hok ?_
  obtain ⟨S1, eS1, hf⟩ := bnd_ex hf
  rw [← eS1]
  refine msegT C kX1_look 4 2 (g := (true, 10, [.ref (85), .ref (3), .ref a2, .int (0 : Int32), .retAddr 0], [], mk b S1)) rfl rfl ?_
  exact mfor (L' := [.ref (85), .ref (3), .ref a2, .int (0 : Int32), .retAddr 0]) ⟨Or.inr rfl, Or.inr rfl, Or.inr rfl, Or.inr rfl, Or.inl rfl, trivial⟩ (bX1_look_10_3 C hr hk _ _ _ hf true)
theorem qX1_look_3 {b : Bool} {a2 : Nat} {S S' : mT} (hf : fX1_look 3 a2 S = some S') : mOk l mX1_look 5 [.ref (85), .ref (3), .ref a2] b S none S' :=
  gMet (by decide) (Nat.le_of_ble_eq_true rfl) rfl (Nat.le_of_ble_eq_true rfl) (fun p e s m args below meth c G C hr hk => bX1_look_0_3 C hr hk hf true)
theorem bX1_look_59_19 (C : mCx p (mR 5) s m args meth c G cX1_look RX1 5 false 233 54500 233 54500) (hr : meth.sig.returnType = none) (hk : meth.locks = false) {b : Bool} {a2 : Nat} {S' : mT} {rc10 : Int32 → mT → Option (mT)} (Hrc10 : ∀ (v3 : Int32) (S : mT), rc10 v3 S = some S' → ∀ ok : Bool, mW p l e (mR 5) s m args below meth c G 5 233 54500 (mQ below G args s b S' none) (ok, 10, [.ref (85), .ref (19), .ref a2, .int v3, .retAddr 0], [], mk b S)) {rc21 : Int32 → Int32 → mT → Option (mT)} (Hrc21 : ∀ (v3 : Int32) (v4 : Int32) (S : mT), rc21 v3 v4 S = some S' → ∀ ok : Bool, mW p l e (mR 5) s m args below meth c G 5 233 54500 (mQ below G args s b S' none) (ok, 21, [.ref (85), .ref (19), .ref a2, .int v3, .int v4], [], mk b S)) {v3 : Int32} {v4 : Int32} {s0 : Int32} {s1 : Int32} {S : mT} (hf : fX1_look_59 19 a2 rc10 rc21 v3 v4 s0 s1 S = some S') (ok : Bool) : mW p l e (mR 5) s m args below meth c G 5 233 54500 (mQ below G args s b S' none) (ok, 59, [.ref (85), .ref (19), .ref a2, .int v3, .int v4], [.int s0, .int s1, .ref (rowR 86 (mIx v3))], mk b S) := by
  unfold fX1_look_59 at hf
  obtain ⟨hok, hf⟩ := grd_ex hf
  refine msegT C kX1_look 34 1 (g := ((kI (rowR 86 (mIx v3)) s1 && true), 60, [.ref (85), .ref (19), .ref a2, .int v3, .int v4], [], mk b (sI S (rowR 86 (mIx v3)) (mIx s1) s0))) rfl hok ?_
  obtain ⟨S5, eS5, hf⟩ := bnd_ex hf
  rw [← eS5]
  refine msegT C kX1_look 35 1 (g := (true, 63, [.ref (85), .ref (19), .ref a2, .int v3, .int (v4 + (1 : Int32))], [], mk b S5)) rfl rfl ?_
  obtain ⟨x6, ex6, hf⟩ := bnd_ex hf
  rw [← ex6]
  refine msegT C kX1_look 36 1 (g := (true, 21, [.ref (85), .ref (19), .ref a2, .int v3, .int x6], [], mk b S5)) rfl rfl ?_
  exact mfor (L' := [.ref (85), .ref (19), .ref a2, .int v3, .int x6]) ⟨Or.inr rfl, Or.inr rfl, Or.inr rfl, Or.inr rfl, Or.inr rfl, trivial⟩ (Hrc21 _ _ _ hf true)
theorem bX1_look_21_19 (C : mCx p (mR 5) s m args meth c G cX1_look RX1 5 false 233 54500 233 54500) (hr : meth.sig.returnType = none) (hk : meth.locks = false) {b : Bool} {a2 : Nat} {S' : mT} {rc10 : Int32 → mT → Option (mT)} (Hrc10 : ∀ (v3 : Int32) (S : mT), rc10 v3 S = some S' → ∀ ok : Bool, mW p l e (mR 5) s m args below meth c G 5 233 54500 (mQ below G args s b S' none) (ok, 10, [.ref (85), .ref (19), .ref a2, .int v3, .retAddr 0], [], mk b S)) : ∀ (k : Nat) (v3 : Int32) (v4 : Int32) (S : mT), fX1_look_21 19 a2 rc10 k v3 v4 S = some S' → ∀ ok : Bool, mW p l e (mR 5) s m args below meth c G 5 233 54500 (mQ below G args s b S' none) (ok, 21, [.ref (85), .ref (19), .ref a2, .int v3, .int v4], [], mk b S) := by
  intro k
  induction k with
  | zero =>
    intro v3 v4 S hf ok
    cases hf
  | succ k ih =>
    intro v3 v4 S hf ok
    unfold fX1_look_21 at hf
    refine msegT C kX1_look 12 3 (g := (true, (if (7 : Int32) < v4 then 66 else 28), [.ref (85), .ref (19), .ref a2, .int v3, .int v4], [], mk b S)) rfl rfl ?_
    by_cases hc : (7 : Int32) < v4
    · rw [if_pos hc] at hf ⊢
      refine msegT C kX1_look 37 1 (g := (true, 69, [.ref (85), .ref (19), .ref a2, .int (v3 + (1 : Int32)), .int v4], [], mk b S)) rfl rfl ?_
      obtain ⟨x2, ex2, hf⟩ := bnd_ex hf
      rw [← ex2]
      refine msegT C kX1_look 38 1 (g := (true, 10, [.ref (85), .ref (19), .ref a2, .int x2, .int v4], [], mk b S)) rfl rfl ?_
      exact mfor (L' := [.ref (85), .ref (19), .ref a2, .int x2, .retAddr 0]) ⟨Or.inr rfl, Or.inr rfl, Or.inr rfl, Or.inr rfl, Or.inl rfl, trivial⟩ (Hrc10 _ _ hf true)
    · rw [if_neg hc] at hf ⊢
      obtain ⟨hok, hf⟩ := grd_ex hf
      refine msegT C kX1_look 15 10 (g := ((kR 86 v3 && (kO 85 1 && true)), 42, [.ref (85), .ref (19), .ref a2, .int v3, .int v4], [.int ((0 : Int32) + v3), .ref a2, .int v4, .int v4, .ref (rowR 86 (mIx v3))], mk b S)) rfl hok ?_
      obtain ⟨hok, hf⟩ := grd_ex hf
      refine msegT C kX1_look 25 2 (g := ((kI a2 ((0 : Int32) + v3) && true), (if (S.1 a2 (mIx ((0 : Int32) + v3))) < v4 then 57 else 46), [.ref (85), .ref (19), .ref a2, .int v3, .int v4], [.int v4, .ref (rowR 86 (mIx v3))], mk b S)) rfl hok ?_
      by_cases hc : (S.1 a2 (mIx ((0 : Int32) + v3))) < v4
      · rw [if_pos hc] at hf ⊢
        refine msegT C kX1_look 33 1 (g := (true, 59, [.ref (85), .ref (19), .ref a2, .int v3, .int v4], [.int (1000000 : Int32), .int v4, .ref (rowR 86 (mIx v3))], mk b S)) rfl rfl ?_
        exact mfor (L' := [.ref (85), .ref (19), .ref a2, .int v3, .int v4]) ⟨Or.inr rfl, Or.inr rfl, Or.inr rfl, Or.inr rfl, Or.inr rfl, trivial⟩ (bX1_look_59_19 C hr hk Hrc10 ih hf true)
      · rw [if_neg hc] at hf ⊢
        refine msegT C kX1_look 27 4 (g := (true, 51, [.ref (85), .ref (19), .ref a2, .int v3, .int v4], [.int v4, .int v3, .ref a2, .ref (19), .int v4, .ref (rowR 86 (mIx v3))], mk b S)) rfl rfl ?_
        obtain ⟨x4, S3, hq, hf⟩ := bndC_ex hf
        refine mcall (kd := 1) (vs := [.ref (19), .ref a2, .int v3, .int v4]) (rest := [.int v4, .ref (rowR 86 (mIx v3))]) (r := (some (.int x4))) (h' := mk b S3) (ok' := true) C lkRX1_30 (qX1_taxHiding_19 hq) (kX1_look _ (List.mem_of_getElem? (i := 31) rfl)).1 rfl (Nat.le_of_ble_eq_true rfl) (Nat.le_of_ble_eq_true rfl) (Nat.le_refl _) (Nat.le_refl _) (Nat.le_of_ble_eq_true rfl) ?_
        refine msegT C kX1_look 32 1 (g := (true, 59, [.ref (85), .ref (19), .ref a2, .int v3, .int v4], [.int x4, .int v4, .ref (rowR 86 (mIx v3))], mk b S3)) rfl rfl ?_
        exact mfor (L' := [.ref (85), .ref (19), .ref a2, .int v3, .int v4]) ⟨Or.inr rfl, Or.inr rfl, Or.inr rfl, Or.inr rfl, Or.inr rfl, trivial⟩ (bX1_look_59_19 C hr hk Hrc10 ih hf true)
theorem bX1_look_10_19 (C : mCx p (mR 5) s m args meth c G cX1_look RX1 5 false 233 54500 233 54500) (hr : meth.sig.returnType = none) (hk : meth.locks = false) {b : Bool} {a2 : Nat} {S' : mT} : ∀ (k : Nat) (v3 : Int32) (S : mT), fX1_look_10 19 a2 k v3 S = some S' → ∀ ok : Bool, mW p l e (mR 5) s m args below meth c G 5 233 54500 (mQ below G args s b S' none) (ok, 10, [.ref (85), .ref (19), .ref a2, .int v3, .retAddr 0], [], mk b S) := by
  intro k
  induction k with
  | zero =>
    intro v3 S hf ok
    cases hf
  | succ k ih =>
    intro v3 S hf ok
    unfold fX1_look_10 at hf
    obtain ⟨hok, hf⟩ := grd_ex hf
    refine msegT C kX1_look 6 4 (g := ((kO 85 1 && true), (if (S.1 85 3) ≤ v3 then 72 else 18), [.ref (85), .ref (19), .ref a2, .int v3, .retAddr 0], [], mk b S)) rfl hok ?_
    by_cases hc : (S.1 85 3) ≤ v3
    · rw [if_pos hc] at hf ⊢
      cases hf
      exact gret_v C hr hk (kX1_look _ (List.mem_of_getElem? (i := 39) rfl)).1
    · rw [if_neg hc] at hf ⊢
      refine msegT C kX1_look 10 2 (g := (true, 21, [.ref (85), .ref (19), .ref a2, .int v3, .int (0 : Int32)], [], mk b S)) rfl rfl ?_
      exact mfor (L' := [.ref (85), .ref (19), .ref a2, .int v3, .int (0 : Int32)]) ⟨Or.inr rfl, Or.inr rfl, Or.inr rfl, Or.inr rfl, Or.inr rfl, trivial⟩ (bX1_look_21_19 C hr hk ih _ _ _ _ hf true)
theorem bX1_look_0_19 (C : mCx p (mR 5) s m args meth c G cX1_look RX1 5 false 233 54500 233 54500) (hr : meth.sig.returnType = none) (hk : meth.locks = false) {b : Bool} {a2 : Nat} {S' : mT} {S : mT} (hf : fX1_look 19 a2 S = some S') (ok : Bool) : mW p l e (mR 5) s m args below meth c G 5 233 54500 (mQ below G args s b S' none) (ok, 0, [.ref (85), .ref (19), .ref a2, .retAddr 0, .retAddr 0], [], mk b S) := by
  unfold fX1_look at hf
  obtain ⟨hok, hf⟩ := grd_ex hf
  refine msegT C kX1_look 0 4 (g := ((kO 85 1 && (kO 19 8 && true)), 8, [.ref (85), .ref (19), .ref a2, .retAddr 0, .retAddr 0], [], mk b (sI S 85 3 (S.1 19 9)))) rfl hok ?_
  obtain ⟨S1, eS1, hf⟩ := bnd_ex hf
  rw [← eS1]
  refine msegT C kX1_look 4 2 (g := (true, 10, [.ref (85), .ref (19), .ref a2, .int (0 : Int32), .retAddr 0], [], mk b S1)) rfl rfl ?_
  exact mfor (L' := [.ref (85), .ref (19), .ref a2, .int (0 : Int32), .retAddr 0]) ⟨Or.inr rfl, Or.inr rfl, Or.inr rfl, Or.inr rfl, Or.inl rfl, trivial⟩ (bX1_look_10_19 C hr hk _ _ _ hf true)
theorem qX1_look_19 {b : Bool} {a2 : Nat} {S S' : mT} (hf : fX1_look 19 a2 S = some S') : mOk l mX1_look 5 [.ref (85), .ref (19), .ref a2] b S none S' :=
  gMet (by decide) (Nat.le_of_ble_eq_true rfl) rfl (Nat.le_of_ble_eq_true rfl) (fun p e s m args below meth c G C hr hk => bX1_look_0_19 C hr hk hf true)
theorem bX11_least_0_f (C : mCx p (mR 6) s m args meth c G cX11_least RX11 1 false 233 54500 233 54500) (hr : meth.sig.returnType = (some .int)) (hk : meth.locks = false) {S' : mT} {r : Int32} {S : mT} (hf : fX11_least false S = some (r, S')) (ok : Bool) : mW p l e (mR 6) s m args below meth c G 1 233 54500 (mQ below G args s false S' (some (.int r))) (ok, 0, [.ref (0)], [], mk false S) := by
  unfold fX11_least at hf
  obtain ⟨hok, hf⟩ := grd_ex hf
  refine msegT C kX11_least 0 6 (g := ((kO 0 11 && (kO 0 11 && (kO 0 11 && true))), 12, [.ref (0)], [.ref 35, .ref (shU false), .ref 85], mk false S)) rfl hok ?_
  obtain ⟨S1, hq, hf⟩ := bndV_ex hf
  refine mcall (kd := 0) (vs := [.ref 85, .ref (shU false), .ref 35]) (rest := []) (r := none) (h' := mk false S1) (ok' := true) C lkRX11_176 (qX1_look_3 hq) (kX11_least _ (List.mem_of_getElem? (i := 6) rfl)).1 ⟨_, _, rfl, rfl, Nat.le_of_ble_eq_true rfl, _, _, rfl, rfl, rfl⟩ (Nat.le_of_ble_eq_true rfl) (Nat.le_of_ble_eq_true rfl) (Nat.le_refl _) (Nat.le_refl _) (Nat.le_of_ble_eq_true rfl) ?_
  obtain ⟨hok, hf⟩ := grd_ex hf
  refine msegT C kX11_least 7 2 (g := ((kO 0 11 && true), 19, [.ref (0)], [.ref 85], mk false S1)) rfl hok ?_
  obtain ⟨x3, S2, hq, hf⟩ := bndC_ex hf
  refine mcall (kd := 0) (vs := [.ref 85]) (rest := []) (r := (some (.int x3))) (h' := mk false S2) (ok' := true) C lkRX11_190 (qX1_leastTax hq) (kX11_least _ (List.mem_of_getElem? (i := 9) rfl)).1 ⟨_, _, rfl, rfl, Nat.le_of_ble_eq_true rfl, _, _, rfl, rfl, rfl⟩ (Nat.le_of_ble_eq_true rfl) (Nat.le_of_ble_eq_true rfl) (Nat.le_refl _) (Nat.le_refl _) (Nat.le_of_ble_eq_true rfl) ?_
  cases hf
  exact gret_i C hr hk (kX11_least _ (List.mem_of_getElem? (i := 10) rfl)).1
theorem qX11_least_f {S S' : mT} {r : Int32} (hf : fX11_least false S = some (r, S')) : mOk l mX11_least 6 [.ref (0)] false S (some (.int r)) S' :=
  gMet (by decide) (Nat.le_of_ble_eq_true rfl) rfl (Nat.le_of_ble_eq_true rfl) (fun p e s m args below meth c G C hr hk => bX11_least_0_f C hr hk hf true)
theorem bX11_least_0_t (C : mCx p (mR 6) s m args meth c G cX11_least RX11 1 false 233 54500 233 54500) (hr : meth.sig.returnType = (some .int)) (hk : meth.locks = false) {S' : mT} {r : Int32} {S : mT} (hf : fX11_least true S = some (r, S')) (ok : Bool) : mW p l e (mR 6) s m args below meth c G 1 233 54500 (mQ below G args s true S' (some (.int r))) (ok, 0, [.ref (0)], [], mk true S) := by
  unfold fX11_least at hf
  obtain ⟨hok, hf⟩ := grd_ex hf
  refine msegT C kX11_least 0 6 (g := ((kO 0 11 && (kO 0 11 && (kO 0 11 && true))), 12, [.ref (0)], [.ref 35, .ref (shU true), .ref 85], mk true S)) rfl hok ?_
  obtain ⟨S1, hq, hf⟩ := bndV_ex hf
  refine mcall (kd := 0) (vs := [.ref 85, .ref (shU true), .ref 35]) (rest := []) (r := none) (h' := mk true S1) (ok' := true) C lkRX11_176 (qX1_look_19 hq) (kX11_least _ (List.mem_of_getElem? (i := 6) rfl)).1 ⟨_, _, rfl, rfl, Nat.le_of_ble_eq_true rfl, _, _, rfl, rfl, rfl⟩ (Nat.le_of_ble_eq_true rfl) (Nat.le_of_ble_eq_true rfl) (Nat.le_refl _) (Nat.le_refl _) (Nat.le_of_ble_eq_true rfl) ?_
  obtain ⟨hok, hf⟩ := grd_ex hf
  refine msegT C kX11_least 7 2 (g := ((kO 0 11 && true), 19, [.ref (0)], [.ref 85], mk true S1)) rfl hok ?_
  obtain ⟨x3, S2, hq, hf⟩ := bndC_ex hf
  refine mcall (kd := 0) (vs := [.ref 85]) (rest := []) (r := (some (.int x3))) (h' := mk true S2) (ok' := true) C lkRX11_190 (qX1_leastTax hq) (kX11_least _ (List.mem_of_getElem? (i := 9) rfl)).1 ⟨_, _, rfl, rfl, Nat.le_of_ble_eq_true rfl, _, _, rfl, rfl, rfl⟩ (Nat.le_of_ble_eq_true rfl) (Nat.le_of_ble_eq_true rfl) (Nat.le_refl _) (Nat.le_refl _) (Nat.le_of_ble_eq_true rfl) ?_
  cases hf
  exact gret_i C hr hk (kX11_least _ (List.mem_of_getElem? (i := 10) rfl)).1
theorem qX11_least_t {S S' : mT} {r : Int32} (hf : fX11_least true S = some (r, S')) : mOk l mX11_least 6 [.ref (0)] true S (some (.int r)) S' :=
  gMet (by decide) (Nat.le_of_ble_eq_true rfl) rfl (Nat.le_of_ble_eq_true rfl) (fun p e s m args below meth c G C hr hk => bX11_least_0_t C hr hk hf true)
theorem bX1_firstThatFits_52 (C : mCx p (mR 1) s m args meth c G cX1_firstThatFits RX1 5 false 233 54500 233 54500) (hr : meth.sig.returnType = (some .int)) (hk : meth.locks = false) {b : Bool} {S' : mT} {r : Int32} {v3 : Int32} {S : mT} (hf : fX1_firstThatFits_52 v3 S = some (r, S')) (ok : Bool) : mW p l e (mR 1) s m args below meth c G 5 233 54500 (mQ below G args s b S' (some (.int r))) (ok, 52, [.retAddr 0, .retAddr 0, .retAddr 0, .int v3, .retAddr 0], [], mk b S) := by
  unfold fX1_firstThatFits_52 at hf
  refine msegT C kX1_firstThatFits 31 2 (g := (true, 55, [.retAddr 0, .retAddr 0, .retAddr 0, .int v3, .retAddr 0], [.int v3, .int (7 : Int32)], mk b S)) rfl rfl ?_
  obtain ⟨x2, ex2, hf⟩ := bnd_ex hf
  refine so_min (ok' := true) C (kX1_firstThatFits _ (List.mem_of_getElem? (i := 33) rfl)).1 lmRX1_46 (Nat.le_of_ble_eq_true rfl) (Nat.le_refl _) (Nat.le_refl _) ?_
  rw [← ex2]
  cases hf
  exact gret_i C hr hk (kX1_firstThatFits _ (List.mem_of_getElem? (i := 34) rfl)).1
theorem bX1_firstThatFits_3 (C : mCx p (mR 1) s m args meth c G cX1_firstThatFits RX1 5 false 233 54500 233 54500) (hr : meth.sig.returnType = (some .int)) (hk : meth.locks = false) {b : Bool} {S' : mT} {r : Int32} : ∀ (k : Nat) (v1 : Int32) (v2 : Int32) (v3 : Int32) (v4 : Int32) (S : mT), fX1_firstThatFits_3 k v1 v2 v3 v4 S = some (r, S') → ∀ ok : Bool, mW p l e (mR 1) s m args below meth c G 5 233 54500 (mQ below G args s b S' (some (.int r))) (ok, 3, [.ref (85), .int v1, .int v2, .int v3, .int v4], [], mk b S) := by
  intro k
  induction k with
  | zero =>
    intro v1 v2 v3 v4 S hf ok
    cases hf
  | succ k ih =>
    intro v1 v2 v3 v4 S hf ok
    unfold fX1_firstThatFits_3 at hf
    refine msegT C kX1_firstThatFits 2 3 (g := (true, (if (7 : Int32) ≤ v4 then 52 else 10), [.ref (85), .int v1, .int v2, .int v3, .int v4], [], mk b S)) rfl rfl ?_
    by_cases hc : (7 : Int32) ≤ v4
    · rw [if_pos hc] at hf ⊢
      exact mfor (L' := [.retAddr 0, .retAddr 0, .retAddr 0, .int v3, .retAddr 0]) ⟨Or.inl rfl, Or.inl rfl, Or.inl rfl, Or.inr rfl, Or.inl rfl, trivial⟩ (bX1_firstThatFits_52 C hr hk hf true)
    · rw [if_neg hc] at hf ⊢
      refine msegT C kX1_firstThatFits 5 3 (g := (true, (if v3 ≤ v4 then 52 else 16), [.ref (85), .int v1, .int v2, .int v3, .int v4], [], mk b S)) rfl rfl ?_
      by_cases hc : v3 ≤ v4
      · rw [if_pos hc] at hf ⊢
        exact mfor (L' := [.retAddr 0, .retAddr 0, .retAddr 0, .int v3, .retAddr 0]) ⟨Or.inl rfl, Or.inl rfl, Or.inl rfl, Or.inr rfl, Or.inl rfl, trivial⟩ (bX1_firstThatFits_52 C hr hk hf true)
      · rw [if_neg hc] at hf ⊢
        obtain ⟨hok, hf⟩ := grd_ex hf
        refine msegT C kX1_firstThatFits 8 10 (g := ((kO 85 1 && (kI (rowR 86 (mIx v1)) v4 && (kR 86 v1 && (kO 85 1 && true)))), 31, [.ref (85), .int v1, .int v2, .int v3, .int v4], [.int (1 : Int32), .int v1, .ref 92, .int (S.1 (rowR 86 (mIx v1)) (mIx v4))], mk b S)) rfl hok ?_
        obtain ⟨hok, hf⟩ := grd_ex hf
        refine msegT C kX1_firstThatFits 18 9 (g := ((kI (rowR 92 (mIx (v1 + (1 : Int32)))) (v3 - v4) && (kR 92 (v1 + (1 : Int32)) && true)), (if v2 < ((S.1 (rowR 86 (mIx v1)) (mIx v4)) + (S.1 (rowR 92 (mIx (v1 + (1 : Int32)))) (mIx (v3 - v4)))) then 46 else 43), [.ref (85), .int v1, .int v2, .int v3, .int v4], [], mk b S)) rfl hok ?_
        by_cases hc : v2 < ((S.1 (rowR 86 (mIx v1)) (mIx v4)) + (S.1 (rowR 92 (mIx (v1 + (1 : Int32)))) (mIx (v3 - v4))))
        · rw [if_pos hc] at hf ⊢
          refine msegT C kX1_firstThatFits 29 1 (g := (true, 49, [.ref (85), .int v1, .int v2, .int v3, .int (v4 + (1 : Int32))], [], mk b S)) rfl rfl ?_
          obtain ⟨x1, ex1, hf⟩ := bnd_ex hf
          rw [← ex1]
          refine msegT C kX1_firstThatFits 30 1 (g := (true, 3, [.ref (85), .int v1, .int v2, .int v3, .int x1], [], mk b S)) rfl rfl ?_
          exact mfor (L' := [.ref (85), .int v1, .int v2, .int v3, .int x1]) ⟨Or.inr rfl, Or.inr rfl, Or.inr rfl, Or.inr rfl, Or.inr rfl, trivial⟩ (ih _ _ _ _ _ hf true)
        · rw [if_neg hc] at hf ⊢
          refine msegT C kX1_firstThatFits 27 1 (g := (true, 45, [.ref (85), .int v1, .int v2, .int v3, .int v4], [.int v4], mk b S)) rfl rfl ?_
          cases hf
          exact gret_i C hr hk (kX1_firstThatFits _ (List.mem_of_getElem? (i := 28) rfl)).1
theorem bX1_firstThatFits_0 (C : mCx p (mR 1) s m args meth c G cX1_firstThatFits RX1 5 false 233 54500 233 54500) (hr : meth.sig.returnType = (some .int)) (hk : meth.locks = false) {b : Bool} {S' : mT} {r : Int32} {v1 : Int32} {v2 : Int32} {v3 : Int32} {S : mT} (hf : fX1_firstThatFits v1 v2 v3 S = some (r, S')) (ok : Bool) : mW p l e (mR 1) s m args below meth c G 5 233 54500 (mQ below G args s b S' (some (.int r))) (ok, 0, [.ref (85), .int v1, .int v2, .int v3, .retAddr 0], [], mk b S) := by
  unfold fX1_firstThatFits at hf
  refine msegT C kX1_firstThatFits 0 2 (g := (true, 3, [.ref (85), .int v1, .int v2, .int v3, .int (0 : Int32)], [], mk b S)) rfl rfl ?_
  exact mfor (L' := [.ref (85), .int v1, .int v2, .int v3, .int (0 : Int32)]) ⟨Or.inr rfl, Or.inr rfl, Or.inr rfl, Or.inr rfl, Or.inr rfl, trivial⟩ (bX1_firstThatFits_3 C hr hk _ _ _ _ _ _ hf true)
theorem qX1_firstThatFits {b : Bool} {v1 : Int32} {v2 : Int32} {v3 : Int32} {S S' : mT} {r : Int32} (hf : fX1_firstThatFits v1 v2 v3 S = some (r, S')) : mOk l mX1_firstThatFits 1 [.ref (85), .int v1, .int v2, .int v3] b S (some (.int r)) S' :=
  gMet (by decide) (Nat.le_of_ble_eq_true rfl) rfl (Nat.le_of_ble_eq_true rfl) (fun p e s m args below meth c G C hr hk => bX1_firstThatFits_0 C hr hk hf true)
theorem bX1_pickFirst_8 (C : mCx p (mR 2) s m args meth c G cX1_pickFirst RX1 7 false 233 54500 233 54500) (hr : meth.sig.returnType = none) (hk : meth.locks = false) {b : Bool} {S' : mT} : ∀ (k : Nat) (v3 : Int32) (v4 : Int32) (v5 : Int32) (S : mT), fX1_pickFirst_8 k v3 v4 v5 S = some S' → ∀ ok : Bool, mW p l e (mR 2) s m args below meth c G 7 233 54500 (mQ below G args s b S' none) (ok, 8, [.ref (85), .retAddr 0, .retAddr 0, .int v3, .int v4, .int v5, .retAddr 0], [], mk b S) := by
  intro k
  induction k with
  | zero =>
    intro v3 v4 v5 S hf ok
    cases hf
  | succ k ih =>
    intro v3 v4 v5 S hf ok
    unfold fX1_pickFirst_8 at hf
    obtain ⟨hok, hf⟩ := grd_ex hf
    refine msegT C kX1_pickFirst 6 4 (g := ((kO 85 1 && true), (if (S.1 85 3) ≤ v5 then 63 else 17), [.ref (85), .retAddr 0, .retAddr 0, .int v3, .int v4, .int v5, .retAddr 0], [], mk b S)) rfl hok ?_
    by_cases hc : (S.1 85 3) ≤ v5
    · rw [if_pos hc] at hf ⊢
      cases hf
      exact gret_v C hr hk (kX1_pickFirst _ (List.mem_of_getElem? (i := 36) rfl)).1
    · rw [if_neg hc] at hf ⊢
      refine msegT C kX1_pickFirst 10 4 (g := (true, 23, [.ref (85), .retAddr 0, .retAddr 0, .int v3, .int v4, .int v5, .retAddr 0], [.int v4, .int v3, .int v5, .ref (85)], mk b S)) rfl rfl ?_
      obtain ⟨x2, S1, hq, hf⟩ := bndC_ex hf
      refine mcall (kd := 0) (vs := [.ref (85), .int v5, .int v3, .int v4]) (rest := []) (r := (some (.int x2))) (h' := mk b S1) (ok' := true) C lkRX1_68 (qX1_firstThatFits hq) (kX1_pickFirst _ (List.mem_of_getElem? (i := 14) rfl)).1 ⟨_, _, rfl, rfl, Nat.le_of_ble_eq_true rfl, _, _, rfl, rfl, rfl⟩ (Nat.le_of_ble_eq_true rfl) (Nat.le_of_ble_eq_true rfl) (Nat.le_refl _) (Nat.le_refl _) (Nat.le_of_ble_eq_true rfl) ?_
      obtain ⟨hok, hf⟩ := grd_ex hf
      refine msegT C kX1_pickFirst 15 6 (g := ((kI 99 v5 && (kO 85 1 && true)), 37, [.ref (85), .retAddr 0, .retAddr 0, .int v3, .int v4, .int v5, .int x2], [], mk b (sI S1 99 (mIx v5) x2))) rfl hok ?_
      obtain ⟨S3, eS3, hf⟩ := bnd_ex hf
      rw [← eS3]
      obtain ⟨hok, hf⟩ := grd_ex hf
      refine msegT C kX1_pickFirst 21 9 (g := ((kI (rowR 86 (mIx v5)) x2 && (kR 86 v5 && (kO 85 1 && true))), 50, [.ref (85), .retAddr 0, .retAddr 0, .int (v3 - (S3.1 (rowR 86 (mIx v5)) (mIx x2))), .int v4, .int v5, .int x2], [], mk b S3)) rfl hok ?_
      obtain ⟨x4, ex4, hf⟩ := bnd_ex hf
      rw [← ex4]
      refine msegT C kX1_pickFirst 30 4 (g := (true, 57, [.ref (85), .retAddr 0, .retAddr 0, .int x4, .int (v4 - x2), .int v5, .int x2], [], mk b S3)) rfl rfl ?_
      obtain ⟨x5, ex5, hf⟩ := bnd_ex hf
      rw [← ex5]
      refine msegT C kX1_pickFirst 34 1 (g := (true, 60, [.ref (85), .retAddr 0, .retAddr 0, .int x4, .int x5, .int (v5 + (1 : Int32)), .int x2], [], mk b S3)) rfl rfl ?_
      obtain ⟨x6, ex6, hf⟩ := bnd_ex hf
      rw [← ex6]
      refine msegT C kX1_pickFirst 35 1 (g := (true, 8, [.ref (85), .retAddr 0, .retAddr 0, .int x4, .int x5, .int x6, .int x2], [], mk b S3)) rfl rfl ?_
      exact mfor (L' := [.ref (85), .retAddr 0, .retAddr 0, .int x4, .int x5, .int x6, .retAddr 0]) ⟨Or.inr rfl, Or.inl rfl, Or.inl rfl, Or.inr rfl, Or.inr rfl, Or.inr rfl, Or.inl rfl, trivial⟩ (ih _ _ _ _ hf true)
theorem bX1_pickFirst_0 (C : mCx p (mR 2) s m args meth c G cX1_pickFirst RX1 7 false 233 54500 233 54500) (hr : meth.sig.returnType = none) (hk : meth.locks = false) {b : Bool} {S' : mT} {v1 : Int32} {v2 : Int32} {S : mT} (hf : fX1_pickFirst v1 v2 S = some S') (ok : Bool) : mW p l e (mR 2) s m args below meth c G 7 233 54500 (mQ below G args s b S' none) (ok, 0, [.ref (85), .int v1, .int v2, .retAddr 0, .retAddr 0, .retAddr 0, .retAddr 0], [], mk b S) := by
  unfold fX1_pickFirst at hf
  refine msegT C kX1_pickFirst 0 6 (g := (true, 8, [.ref (85), .int v1, .int v2, .int v1, .int v2, .int (0 : Int32), .retAddr 0], [], mk b S)) rfl rfl ?_
  exact mfor (L' := [.ref (85), .retAddr 0, .retAddr 0, .int v1, .int v2, .int (0 : Int32), .retAddr 0]) ⟨Or.inr rfl, Or.inl rfl, Or.inl rfl, Or.inr rfl, Or.inr rfl, Or.inr rfl, Or.inl rfl, trivial⟩ (bX1_pickFirst_8 C hr hk _ _ _ _ _ hf true)
theorem qX1_pickFirst {b : Bool} {v1 : Int32} {v2 : Int32} {S S' : mT} (hf : fX1_pickFirst v1 v2 S = some S') : mOk l mX1_pickFirst 2 [.ref (85), .int v1, .int v2] b S none S' :=
  gMet (by decide) (Nat.le_of_ble_eq_true rfl) rfl (Nat.le_of_ble_eq_true rfl) (fun p e s m args below meth c G C hr hk => bX1_pickFirst_0 C hr hk hf true)
theorem bX1_cheapestFrom_53 (C : mCx p (mR 1) s m args meth c G cX1_cheapestFrom RX1 5 false 233 54500 233 54500) (hr : meth.sig.returnType = (some .int)) (hk : meth.locks = false) {b : Bool} {S' : mT} {r : Int32} {v3 : Int32} {S : mT} (hf : fX1_cheapestFrom_53 v3 S = some (r, S')) (ok : Bool) : mW p l e (mR 1) s m args below meth c G 5 233 54500 (mQ below G args s b S' (some (.int r))) (ok, 53, [.retAddr 0, .retAddr 0, .retAddr 0, .int v3, .retAddr 0], [], mk b S) := by
  unfold fX1_cheapestFrom_53 at hf
  refine msegT C kX1_cheapestFrom 32 1 (g := (true, 54, [.retAddr 0, .retAddr 0, .retAddr 0, .int v3, .retAddr 0], [.int v3], mk b S)) rfl rfl ?_
  cases hf
  exact gret_i C hr hk (kX1_cheapestFrom _ (List.mem_of_getElem? (i := 33) rfl)).1
theorem bX1_cheapestFrom_6 (C : mCx p (mR 1) s m args meth c G cX1_cheapestFrom RX1 5 false 233 54500 233 54500) (hr : meth.sig.returnType = (some .int)) (hk : meth.locks = false) {b : Bool} {S' : mT} {r : Int32} : ∀ (k : Nat) (v1 : Int32) (v2 : Int32) (v3 : Int32) (v4 : Int32) (S : mT), fX1_cheapestFrom_6 k v1 v2 v3 v4 S = some (r, S') → ∀ ok : Bool, mW p l e (mR 1) s m args below meth c G 5 233 54500 (mQ below G args s b S' (some (.int r))) (ok, 6, [.ref (85), .int v1, .int v2, .int v3, .int v4], [], mk b S) := by
  intro k
  induction k with
  | zero =>
    intro v1 v2 v3 v4 S hf ok
    cases hf
  | succ k ih =>
    intro v1 v2 v3 v4 S hf ok
    unfold fX1_cheapestFrom_6 at hf
    refine msegT C kX1_cheapestFrom 4 3 (g := (true, (if (7 : Int32) < v4 then 53 else 13), [.ref (85), .int v1, .int v2, .int v3, .int v4], [], mk b S)) rfl rfl ?_
    by_cases hc : (7 : Int32) < v4
    · rw [if_pos hc] at hf ⊢
      exact mfor (L' := [.retAddr 0, .retAddr 0, .retAddr 0, .int v3, .retAddr 0]) ⟨Or.inl rfl, Or.inl rfl, Or.inl rfl, Or.inr rfl, Or.inl rfl, trivial⟩ (bX1_cheapestFrom_53 C hr hk hf true)
    · rw [if_neg hc] at hf ⊢
      refine msegT C kX1_cheapestFrom 7 3 (g := (true, (if v2 < v4 then 53 else 19), [.ref (85), .int v1, .int v2, .int v3, .int v4], [], mk b S)) rfl rfl ?_
      by_cases hc : v2 < v4
      · rw [if_pos hc] at hf ⊢
        exact mfor (L' := [.retAddr 0, .retAddr 0, .retAddr 0, .int v3, .retAddr 0]) ⟨Or.inl rfl, Or.inl rfl, Or.inl rfl, Or.inr rfl, Or.inl rfl, trivial⟩ (bX1_cheapestFrom_53 C hr hk hf true)
      · rw [if_neg hc] at hf ⊢
        obtain ⟨hok, hf⟩ := grd_ex hf
        refine msegT C kX1_cheapestFrom 10 10 (g := ((kO 85 1 && (kI (rowR 86 (mIx v1)) v4 && (kR 86 v1 && (kO 85 1 && true)))), 34, [.ref (85), .int v1, .int v2, .int v3, .int v4], [.int v1, .ref 92, .int (S.1 (rowR 86 (mIx v1)) (mIx v4)), .int v3], mk b S)) rfl hok ?_
        obtain ⟨hok, hf⟩ := grd_ex hf
        refine msegT C kX1_cheapestFrom 20 8 (g := ((kI (rowR 92 (mIx (v1 + (1 : Int32)))) (v2 - v4) && (kR 92 (v1 + (1 : Int32)) && true)), 43, [.ref (85), .int v1, .int v2, .int v3, .int v4], [.int ((S.1 (rowR 86 (mIx v1)) (mIx v4)) + (S.1 (rowR 92 (mIx (v1 + (1 : Int32)))) (mIx (v2 - v4)))), .int v3], mk b S)) rfl hok ?_
        obtain ⟨x1, ex1, hf⟩ := bnd_ex hf
        refine so_min (ok' := true) C (kX1_cheapestFrom _ (List.mem_of_getElem? (i := 28) rfl)).1 lmRX1_46 (Nat.le_of_ble_eq_true rfl) (Nat.le_refl _) (Nat.le_refl _) ?_
        rw [← ex1]
        refine msegT C kX1_cheapestFrom 29 2 (g := (true, 50, [.ref (85), .int v1, .int v2, .int x1, .int (v4 + (1 : Int32))], [], mk b S)) rfl rfl ?_
        obtain ⟨x2, ex2, hf⟩ := bnd_ex hf
        rw [← ex2]
        refine msegT C kX1_cheapestFrom 31 1 (g := (true, 6, [.ref (85), .int v1, .int v2, .int x1, .int x2], [], mk b S)) rfl rfl ?_
        exact mfor (L' := [.ref (85), .int v1, .int v2, .int x1, .int x2]) ⟨Or.inr rfl, Or.inr rfl, Or.inr rfl, Or.inr rfl, Or.inr rfl, trivial⟩ (ih _ _ _ _ _ hf true)
theorem bX1_cheapestFrom_0 (C : mCx p (mR 1) s m args meth c G cX1_cheapestFrom RX1 5 false 233 54500 233 54500) (hr : meth.sig.returnType = (some .int)) (hk : meth.locks = false) {b : Bool} {S' : mT} {r : Int32} {v1 : Int32} {v2 : Int32} {S : mT} (hf : fX1_cheapestFrom v1 v2 S = some (r, S')) (ok : Bool) : mW p l e (mR 1) s m args below meth c G 5 233 54500 (mQ below G args s b S' (some (.int r))) (ok, 0, [.ref (85), .int v1, .int v2, .retAddr 0, .retAddr 0], [], mk b S) := by
  unfold fX1_cheapestFrom at hf
  refine msegT C kX1_cheapestFrom 0 4 (g := (true, 6, [.ref (85), .int v1, .int v2, .int (1000000 : Int32), .int (0 : Int32)], [], mk b S)) rfl rfl ?_
  exact mfor (L' := [.ref (85), .int v1, .int v2, .int (1000000 : Int32), .int (0 : Int32)]) ⟨Or.inr rfl, Or.inr rfl, Or.inr rfl, Or.inr rfl, Or.inr rfl, trivial⟩ (bX1_cheapestFrom_6 C hr hk _ _ _ _ _ _ hf true)
theorem qX1_cheapestFrom {b : Bool} {v1 : Int32} {v2 : Int32} {S S' : mT} {r : Int32} (hf : fX1_cheapestFrom v1 v2 S = some (r, S')) : mOk l mX1_cheapestFrom 1 [.ref (85), .int v1, .int v2] b S (some (.int r)) S' :=
  gMet (by decide) (Nat.le_of_ble_eq_true rfl) rfl (Nat.le_of_ble_eq_true rfl) (fun p e s m args below meth c G C hr hk => bX1_cheapestFrom_0 C hr hk hf true)
theorem bX1_weighFromTheEnd_39 (C : mCx p (mR 2) s m args meth c G cX1_weighFromTheEnd RX1 3 false 233 54500 233 54500) (hr : meth.sig.returnType = none) (hk : meth.locks = false) {b : Bool} {S' : mT} {rc33 : Int32 → mT → Option (mT)} (Hrc33 : ∀ (v1 : Int32) (S : mT), rc33 v1 S = some S' → ∀ ok : Bool, mW p l e (mR 2) s m args below meth c G 3 233 54500 (mQ below G args s b S' none) (ok, 33, [.ref (85), .int v1, .retAddr 0], [], mk b S)) : ∀ (k : Nat) (v1 : Int32) (v2 : Int32) (S : mT), fX1_weighFromTheEnd_39 rc33 k v1 v2 S = some S' → ∀ ok : Bool, mW p l e (mR 2) s m args below meth c G 3 233 54500 (mQ below G args s b S' none) (ok, 39, [.ref (85), .int v1, .int v2], [], mk b S) := by
  intro k
  induction k with
  | zero =>
    intro v1 v2 S hf ok
    cases hf
  | succ k ih =>
    intro v1 v2 S hf ok
    unfold fX1_weighFromTheEnd_39 at hf
    refine msegT C kX1_weighFromTheEnd 24 3 (g := (true, (if (35 : Int32) < v2 then 65 else 45), [.ref (85), .int v1, .int v2], [], mk b S)) rfl rfl ?_
    by_cases hc : (35 : Int32) < v2
    · rw [if_pos hc] at hf ⊢
      refine msegT C kX1_weighFromTheEnd 39 1 (g := (true, 68, [.ref (85), .int (v1 + (-1 : Int32)), .int v2], [], mk b S)) rfl rfl ?_
      obtain ⟨x4, ex4, hf⟩ := bnd_ex hf
      rw [← ex4]
      refine msegT C kX1_weighFromTheEnd 40 1 (g := (true, 33, [.ref (85), .int x4, .int v2], [], mk b S)) rfl rfl ?_
      exact mfor (L' := [.ref (85), .int x4, .retAddr 0]) ⟨Or.inr rfl, Or.inr rfl, Or.inl rfl, trivial⟩ (Hrc33 _ _ hf true)
    · rw [if_neg hc] at hf ⊢
      obtain ⟨hok, hf⟩ := grd_ex hf
      refine msegT C kX1_weighFromTheEnd 27 8 (g := ((kR 92 v1 && (kO 85 1 && true)), 55, [.ref (85), .int v1, .int v2], [.int v2, .int v1, .ref (85), .int v2, .ref (rowR 92 (mIx v1))], mk b S)) rfl hok ?_
      obtain ⟨x6, S5, hq, hf⟩ := bndC_ex hf
      refine mcall (kd := 0) (vs := [.ref (85), .int v1, .int v2]) (rest := [.int v2, .ref (rowR 92 (mIx v1))]) (r := (some (.int x6))) (h' := mk b S5) (ok' := true) C lkRX1_65 (qX1_cheapestFrom hq) (kX1_weighFromTheEnd _ (List.mem_of_getElem? (i := 35) rfl)).1 ⟨_, _, rfl, rfl, Nat.le_of_ble_eq_true rfl, _, _, rfl, rfl, rfl⟩ (Nat.le_of_ble_eq_true rfl) (Nat.le_of_ble_eq_true rfl) (Nat.le_refl _) (Nat.le_refl _) (Nat.le_of_ble_eq_true rfl) ?_
      obtain ⟨hok, hf⟩ := grd_ex hf
      refine msegT C kX1_weighFromTheEnd 36 1 (g := ((kI (rowR 92 (mIx v1)) v2 && true), 59, [.ref (85), .int v1, .int v2], [], mk b (sI S5 (rowR 92 (mIx v1)) (mIx v2) x6))) rfl hok ?_
      obtain ⟨S7, eS7, hf⟩ := bnd_ex hf
      rw [← eS7]
      refine msegT C kX1_weighFromTheEnd 37 1 (g := (true, 62, [.ref (85), .int v1, .int (v2 + (1 : Int32))], [], mk b S7)) rfl rfl ?_
      obtain ⟨x8, ex8, hf⟩ := bnd_ex hf
      rw [← ex8]
      refine msegT C kX1_weighFromTheEnd 38 1 (g := (true, 39, [.ref (85), .int v1, .int x8], [], mk b S7)) rfl rfl ?_
      exact mfor (L' := [.ref (85), .int v1, .int x8]) ⟨Or.inr rfl, Or.inr rfl, Or.inr rfl, trivial⟩ (ih _ _ _ hf true)
theorem bX1_weighFromTheEnd_33 (C : mCx p (mR 2) s m args meth c G cX1_weighFromTheEnd RX1 3 false 233 54500 233 54500) (hr : meth.sig.returnType = none) (hk : meth.locks = false) {b : Bool} {S' : mT} : ∀ (k : Nat) (v1 : Int32) (S : mT), fX1_weighFromTheEnd_33 k v1 S = some S' → ∀ ok : Bool, mW p l e (mR 2) s m args below meth c G 3 233 54500 (mQ below G args s b S' none) (ok, 33, [.ref (85), .int v1, .retAddr 0], [], mk b S) := by
  intro k
  induction k with
  | zero =>
    intro v1 S hf ok
    cases hf
  | succ k ih =>
    intro v1 S hf ok
    unfold fX1_weighFromTheEnd_33 at hf
    refine msegT C kX1_weighFromTheEnd 20 2 (g := (true, (if v1 < 0 then 71 else 37), [.ref (85), .int v1, .retAddr 0], [], mk b S)) rfl rfl ?_
    by_cases hc : v1 < 0
    · rw [if_pos hc] at hf ⊢
      cases hf
      exact gret_v C hr hk (kX1_weighFromTheEnd _ (List.mem_of_getElem? (i := 41) rfl)).1
    · rw [if_neg hc] at hf ⊢
      refine msegT C kX1_weighFromTheEnd 22 2 (g := (true, 39, [.ref (85), .int v1, .int (0 : Int32)], [], mk b S)) rfl rfl ?_
      exact mfor (L' := [.ref (85), .int v1, .int (0 : Int32)]) ⟨Or.inr rfl, Or.inr rfl, Or.inr rfl, trivial⟩ (bX1_weighFromTheEnd_39 C hr hk ih _ _ _ _ hf true)
theorem bX1_weighFromTheEnd_0 (C : mCx p (mR 2) s m args meth c G cX1_weighFromTheEnd RX1 3 false 233 54500 233 54500) (hr : meth.sig.returnType = none) (hk : meth.locks = false) {b : Bool} {S' : mT} {S : mT} (hf : fX1_weighFromTheEnd S = some S') (ok : Bool) : mW p l e (mR 2) s m args below meth c G 3 233 54500 (mQ below G args s b S' none) (ok, 0, [.ref (85), .retAddr 0, .retAddr 0], [], mk b S) := by
  unfold fX1_weighFromTheEnd at hf
  obtain ⟨hok, hf⟩ := grd_ex hf
  refine msegT C kX1_weighFromTheEnd 0 6 (g := ((kR 92 (S.1 85 3) && (kO 85 1 && (kO 85 1 && true))), 11, [.ref (85), .retAddr 0, .retAddr 0], [.int (1000000 : Int32), .ref (rowR 92 (mIx (S.1 85 3)))], mk b S)) rfl hok ?_
  obtain ⟨S1, hq, hf⟩ := bndV_ex hf
  refine mcall (kd := 1) (vs := [.ref (rowR 92 (mIx (S.1 85 3))), .int (1000000 : Int32)]) (rest := []) (r := none) (h' := mk b S1) (ok' := true) C lkRX1_59 (qJ7_fill_53178 hq) (kX1_weighFromTheEnd _ (List.mem_of_getElem? (i := 6) rfl)).1 rfl (Nat.le_of_ble_eq_true rfl) (Nat.le_of_ble_eq_true rfl) (Nat.le_refl _) (Nat.le_refl _) (Nat.le_of_ble_eq_true rfl) ?_
  obtain ⟨hok, hf⟩ := grd_ex hf
  refine msegT C kX1_weighFromTheEnd 7 8 (g := ((kI (rowR 92 (mIx (S1.1 85 3))) (0 : Int32) && (kR 92 (S1.1 85 3) && (kO 85 1 && (kO 85 1 && true)))), 26, [.ref (85), .retAddr 0, .retAddr 0], [], mk b (sI S1 (rowR 92 (mIx (S1.1 85 3))) (mIx (0 : Int32)) (0 : Int32)))) rfl hok ?_
  obtain ⟨S2, eS2, hf⟩ := bnd_ex hf
  rw [← eS2]
  obtain ⟨hok, hf⟩ := grd_ex hf
  refine msegT C kX1_weighFromTheEnd 15 5 (g := ((kO 85 1 && true), 33, [.ref (85), .int ((S2.1 85 3) - (1 : Int32)), .retAddr 0], [], mk b S2)) rfl hok ?_
  obtain ⟨x3, ex3, hf⟩ := bnd_ex hf
  rw [← ex3]
  exact mfor (L' := [.ref (85), .int x3, .retAddr 0]) ⟨Or.inr rfl, Or.inr rfl, Or.inl rfl, trivial⟩ (bX1_weighFromTheEnd_33 C hr hk _ _ _ hf true)
theorem qX1_weighFromTheEnd {b : Bool} {S S' : mT} (hf : fX1_weighFromTheEnd S = some S') : mOk l mX1_weighFromTheEnd 2 [.ref (85)] b S none S' :=
  gMet (by decide) (Nat.le_of_ble_eq_true rfl) rfl (Nat.le_of_ble_eq_true rfl) (fun p e s m args below meth c G C hr hk => bX1_weighFromTheEnd_0 C hr hk hf true)
theorem bX1_choose_6 (C : mCx p (mR 3) s m args meth c G cX1_choose RX1 3 false 233 54500 233 54500) (hr : meth.sig.returnType = (some .int)) (hk : meth.locks = false) {b : Bool} {S' : mT} {r : Int32} : ∀ (k : Nat) (v1 : Int32) (v2 : Int32) (S : mT), fX1_choose_6 k v1 v2 S = some (r, S') → ∀ ok : Bool, mW p l e (mR 3) s m args below meth c G 3 233 54500 (mQ below G args s b S' (some (.int r))) (ok, 6, [.ref (85), .int v1, .int v2], [], mk b S) := by
  intro k
  induction k with
  | zero =>
    intro v1 v2 S hf ok
    cases hf
  | succ k ih =>
    intro v1 v2 S hf ok
    unfold fX1_choose_6 at hf
    refine msegT C kX1_choose 4 3 (g := (true, (if (35 : Int32) < v2 then 38 else 12), [.ref (85), .int v1, .int v2], [], mk b S)) rfl rfl ?_
    by_cases hc : (35 : Int32) < v2
    · rw [if_pos hc] at hf ⊢
      refine msegT C kX1_choose 23 1 (g := (true, 39, [.ref (85), .int v1, .int v2], [.int (-1 : Int32)], mk b S)) rfl rfl ?_
      cases hf
      exact gret_i C hr hk (kX1_choose _ (List.mem_of_getElem? (i := 24) rfl)).1
    · rw [if_neg hc] at hf ⊢
      obtain ⟨hok, hf⟩ := grd_ex hf
      refine msegT C kX1_choose 7 8 (g := ((kI (rowR 92 (mIx (0 : Int32))) v2 && (kR 92 (0 : Int32) && (kO 85 1 && true))), (if v1 < (S.1 (rowR 92 (mIx (0 : Int32))) (mIx v2)) then 32 else 24), [.ref (85), .int v1, .int v2], [], mk b S)) rfl hok ?_
      by_cases hc : v1 < (S.1 (rowR 92 (mIx (0 : Int32))) (mIx v2))
      · rw [if_pos hc] at hf ⊢
        refine msegT C kX1_choose 21 1 (g := (true, 35, [.ref (85), .int v1, .int (v2 + (1 : Int32))], [], mk b S)) rfl rfl ?_
        obtain ⟨x2, ex2, hf⟩ := bnd_ex hf
        rw [← ex2]
        refine msegT C kX1_choose 22 1 (g := (true, 6, [.ref (85), .int v1, .int x2], [], mk b S)) rfl rfl ?_
        exact mfor (L' := [.ref (85), .int v1, .int x2]) ⟨Or.inr rfl, Or.inr rfl, Or.inr rfl, trivial⟩ (ih _ _ _ hf true)
      · rw [if_neg hc] at hf ⊢
        refine msegT C kX1_choose 15 3 (g := (true, 27, [.ref (85), .int v1, .int v2], [.int v2, .int v1, .ref (85)], mk b S)) rfl rfl ?_
        obtain ⟨S3, hq, hf⟩ := bndV_ex hf
        refine mcall (kd := 0) (vs := [.ref (85), .int v1, .int v2]) (rest := []) (r := none) (h' := mk b S3) (ok' := true) C lkRX1_55 (qX1_pickFirst hq) (kX1_choose _ (List.mem_of_getElem? (i := 18) rfl)).1 ⟨_, _, rfl, rfl, Nat.le_of_ble_eq_true rfl, _, _, rfl, rfl, rfl⟩ (Nat.le_of_ble_eq_true rfl) (Nat.le_of_ble_eq_true rfl) (Nat.le_refl _) (Nat.le_refl _) (Nat.le_of_ble_eq_true rfl) ?_
        refine msegT C kX1_choose 19 1 (g := (true, 31, [.ref (85), .int v1, .int v2], [.int v2], mk b S3)) rfl rfl ?_
        cases hf
        exact gret_i C hr hk (kX1_choose _ (List.mem_of_getElem? (i := 20) rfl)).1
theorem bX1_choose_0 (C : mCx p (mR 3) s m args meth c G cX1_choose RX1 3 false 233 54500 233 54500) (hr : meth.sig.returnType = (some .int)) (hk : meth.locks = false) {b : Bool} {S' : mT} {r : Int32} {v1 : Int32} {S : mT} (hf : fX1_choose v1 S = some (r, S')) (ok : Bool) : mW p l e (mR 3) s m args below meth c G 3 233 54500 (mQ below G args s b S' (some (.int r))) (ok, 0, [.ref (85), .int v1, .retAddr 0], [], mk b S) := by
  unfold fX1_choose at hf
  refine msegT C kX1_choose 0 1 (g := (true, 1, [.ref (85), .int v1, .retAddr 0], [.ref (85)], mk b S)) rfl rfl ?_
  obtain ⟨S1, hq, hf⟩ := bndV_ex hf
  refine mcall (kd := 0) (vs := [.ref (85)]) (rest := []) (r := none) (h' := mk b S1) (ok' := true) C lkRX1_52 (qX1_weighFromTheEnd hq) (kX1_choose _ (List.mem_of_getElem? (i := 1) rfl)).1 ⟨_, _, rfl, rfl, Nat.le_of_ble_eq_true rfl, _, _, rfl, rfl, rfl⟩ (Nat.le_of_ble_eq_true rfl) (Nat.le_of_ble_eq_true rfl) (Nat.le_refl _) (Nat.le_refl _) (Nat.le_of_ble_eq_true rfl) ?_
  refine msegT C kX1_choose 2 2 (g := (true, 6, [.ref (85), .int v1, .int (0 : Int32)], [], mk b S1)) rfl rfl ?_
  exact mfor (L' := [.ref (85), .int v1, .int (0 : Int32)]) ⟨Or.inr rfl, Or.inr rfl, Or.inr rfl, trivial⟩ (bX1_choose_6 C hr hk _ _ _ _ hf true)
theorem qX1_choose {b : Bool} {v1 : Int32} {S S' : mT} {r : Int32} (hf : fX1_choose v1 S = some (r, S')) : mOk l mX1_choose 3 [.ref (85), .int v1] b S (some (.int r)) S' :=
  gMet (by decide) (Nat.le_of_ble_eq_true rfl) rfl (Nat.le_of_ble_eq_true rfl) (fun p e s m args below meth c G C hr hk => bX1_choose_0 C hr hk hf true)
theorem bX11_leave_65_f (C : mCx p (mR 6) s m args meth c G cX11_leave RX11 3 false 233 54500 233 54500) (hr : meth.sig.returnType = (some .int)) (hk : meth.locks = false) {S' : mT} {r : Int32} {v2 : Int32} {S : mT} (hf : fX11_leave_65 false v2 S = some (r, S')) (ok : Bool) : mW p l e (mR 6) s m args below meth c G 3 233 54500 (mQ below G args s false S' (some (.int r))) (ok, 65, [.retAddr 0, .retAddr 0, .int v2], [], mk false S) := by
  unfold fX11_leave_65 at hf
  refine msegT C kX11_leave 33 1 (g := (true, 66, [.retAddr 0, .retAddr 0, .int v2], [.int v2], mk false S)) rfl rfl ?_
  cases hf
  exact gret_i C hr hk (kX11_leave _ (List.mem_of_getElem? (i := 34) rfl)).1
theorem bX11_leave_0_f (C : mCx p (mR 6) s m args meth c G cX11_leave RX11 3 false 233 54500 233 54500) (hr : meth.sig.returnType = (some .int)) (hk : meth.locks = false) {S' : mT} {r : Int32} {v1 : Int32} {S : mT} (hf : fX11_leave false v1 S = some (r, S')) (ok : Bool) : mW p l e (mR 6) s m args below meth c G 3 233 54500 (mQ below G args s false S' (some (.int r))) (ok, 0, [.ref (0), .int v1, .retAddr 0], [], mk false S) := by
  unfold fX11_leave at hf
  obtain ⟨hok, hf⟩ := grd_ex hf
  refine msegT C kX11_leave 0 3 (g := ((kO 0 11 && true), 5, [.ref (0), .int v1, .retAddr 0], [], mk false (sI S 0 13 (0 : Int32)))) rfl hok ?_
  obtain ⟨S1, eS1, hf⟩ := bnd_ex hf
  rw [← eS1]
  refine msegT C kX11_leave 3 3 (g := (true, 10, [.ref (0), .int v1, .retAddr 0], [.int (9999 : Int32), .int (0 : Int32), .int v1], mk false S1)) rfl rfl ?_
  obtain ⟨x3, S2, hq, hf⟩ := bndC_ex hf
  refine mcall (kd := 1) (vs := [.int v1, .int (0 : Int32), .int (9999 : Int32)]) (rest := []) (r := (some (.int x3))) (h' := mk false S2) (ok' := true) C lkRX11_169 (qX11_isWithin hq) (kX11_leave _ (List.mem_of_getElem? (i := 6) rfl)).1 rfl (Nat.le_of_ble_eq_true rfl) (Nat.le_of_ble_eq_true rfl) (Nat.le_refl _) (Nat.le_refl _) (Nat.le_of_ble_eq_true rfl) ?_
  refine msegT C kX11_leave 7 1 (g := (true, (if x3 = 0 then 16 else 18), [.ref (0), .int v1, .retAddr 0], [], mk false S2)) rfl rfl ?_
  by_cases hc : x3 = 0
  · rw [if_pos hc] at hf ⊢
    refine msegT C kX11_leave 8 1 (g := (true, 17, [.ref (0), .int v1, .retAddr 0], [.int (-1 : Int32)], mk false S2)) rfl rfl ?_
    cases hf
    exact gret_i C hr hk (kX11_leave _ (List.mem_of_getElem? (i := 9) rfl)).1
  · rw [if_neg hc] at hf ⊢
    obtain ⟨hok, hf⟩ := grd_ex hf
    refine msegT C kX11_leave 10 6 (g := ((kO 0 11 && (kO 0 11 && (kO 0 11 && true))), 30, [.ref (0), .int v1, .retAddr 0], [.ref 35, .ref (shU false), .ref 85], mk false S2)) rfl hok ?_
    obtain ⟨S4, hq, hf⟩ := bndV_ex hf
    refine mcall (kd := 0) (vs := [.ref 85, .ref (shU false), .ref 35]) (rest := []) (r := none) (h' := mk false S4) (ok' := true) C lkRX11_176 (qX1_look_3 hq) (kX11_leave _ (List.mem_of_getElem? (i := 16) rfl)).1 ⟨_, _, rfl, rfl, Nat.le_of_ble_eq_true rfl, _, _, rfl, rfl, rfl⟩ (Nat.le_of_ble_eq_true rfl) (Nat.le_of_ble_eq_true rfl) (Nat.le_refl _) (Nat.le_refl _) (Nat.le_of_ble_eq_true rfl) ?_
    obtain ⟨hok, hf⟩ := grd_ex hf
    refine msegT C kX11_leave 17 3 (g := ((kO 0 11 && true), 38, [.ref (0), .int v1, .retAddr 0], [.int v1, .ref 85], mk false S4)) rfl hok ?_
    obtain ⟨x6, S5, hq, hf⟩ := bndC_ex hf
    refine mcall (kd := 0) (vs := [.ref 85, .int v1]) (rest := []) (r := (some (.int x6))) (h' := mk false S5) (ok' := true) C lkRX11_180 (qX1_choose hq) (kX11_leave _ (List.mem_of_getElem? (i := 20) rfl)).1 ⟨_, _, rfl, rfl, Nat.le_of_ble_eq_true rfl, _, _, rfl, rfl, rfl⟩ (Nat.le_of_ble_eq_true rfl) (Nat.le_of_ble_eq_true rfl) (Nat.le_refl _) (Nat.le_refl _) (Nat.le_of_ble_eq_true rfl) ?_
    refine msegT C kX11_leave 21 4 (g := (true, (if x6 = (-1 : Int32) then 65 else 47), [.ref (0), .int v1, .int x6], [], mk false S5)) rfl rfl ?_
    by_cases hc : x6 = (-1 : Int32)
    · rw [if_pos hc] at hf ⊢
      exact mfor (L' := [.retAddr 0, .retAddr 0, .int x6]) ⟨Or.inl rfl, Or.inl rfl, Or.inr rfl, trivial⟩ (bX11_leave_65_f C hr hk hf true)
    · rw [if_neg hc] at hf ⊢
      obtain ⟨hok, hf⟩ := grd_ex hf
      refine msegT C kX11_leave 25 7 (g := ((kO (shU false) 8 && (kO 0 11 && (kO 85 1 && (kO 0 11 && true)))), 62, [.ref (0), .int v1, .int x6], [.int (S5.1 (shU false) 9), .ref 99, .ref (0)], mk false S5)) rfl hok ?_
      obtain ⟨S7, hq, hf⟩ := bndV_ex hf
      refine mcall (kd := 0) (vs := [.ref (0), .ref 99, .int (S5.1 (shU false) 9)]) (rest := []) (r := none) (h' := mk false S7) (ok' := true) C lkRX11_186 (qX11_lay hq) (kX11_leave _ (List.mem_of_getElem? (i := 32) rfl)).1 ⟨_, _, rfl, rfl, Nat.le_of_ble_eq_true rfl, _, _, rfl, rfl, rfl⟩ (Nat.le_of_ble_eq_true rfl) (Nat.le_of_ble_eq_true rfl) (Nat.le_refl _) (Nat.le_refl _) (Nat.le_of_ble_eq_true rfl) ?_
      exact mfor (L' := [.retAddr 0, .retAddr 0, .int x6]) ⟨Or.inl rfl, Or.inl rfl, Or.inr rfl, trivial⟩ (bX11_leave_65_f C hr hk hf true)
theorem qX11_leave_f {v1 : Int32} {S S' : mT} {r : Int32} (hf : fX11_leave false v1 S = some (r, S')) : mOk l mX11_leave 6 [.ref (0), .int v1] false S (some (.int r)) S' :=
  gMet (by decide) (Nat.le_of_ble_eq_true rfl) rfl (Nat.le_of_ble_eq_true rfl) (fun p e s m args below meth c G C hr hk => bX11_leave_0_f C hr hk hf true)
theorem bX11_leave_65_t (C : mCx p (mR 6) s m args meth c G cX11_leave RX11 3 false 233 54500 233 54500) (hr : meth.sig.returnType = (some .int)) (hk : meth.locks = false) {S' : mT} {r : Int32} {v2 : Int32} {S : mT} (hf : fX11_leave_65 true v2 S = some (r, S')) (ok : Bool) : mW p l e (mR 6) s m args below meth c G 3 233 54500 (mQ below G args s true S' (some (.int r))) (ok, 65, [.retAddr 0, .retAddr 0, .int v2], [], mk true S) := by
  unfold fX11_leave_65 at hf
  refine msegT C kX11_leave 33 1 (g := (true, 66, [.retAddr 0, .retAddr 0, .int v2], [.int v2], mk true S)) rfl rfl ?_
  cases hf
  exact gret_i C hr hk (kX11_leave _ (List.mem_of_getElem? (i := 34) rfl)).1
theorem bX11_leave_0_t (C : mCx p (mR 6) s m args meth c G cX11_leave RX11 3 false 233 54500 233 54500) (hr : meth.sig.returnType = (some .int)) (hk : meth.locks = false) {S' : mT} {r : Int32} {v1 : Int32} {S : mT} (hf : fX11_leave true v1 S = some (r, S')) (ok : Bool) : mW p l e (mR 6) s m args below meth c G 3 233 54500 (mQ below G args s true S' (some (.int r))) (ok, 0, [.ref (0), .int v1, .retAddr 0], [], mk true S) := by
  unfold fX11_leave at hf
  obtain ⟨hok, hf⟩ := grd_ex hf
  refine msegT C kX11_leave 0 3 (g := ((kO 0 11 && true), 5, [.ref (0), .int v1, .retAddr 0], [], mk true (sI S 0 13 (0 : Int32)))) rfl hok ?_
  obtain ⟨S1, eS1, hf⟩ := bnd_ex hf
  rw [← eS1]
  refine msegT C kX11_leave 3 3 (g := (true, 10, [.ref (0), .int v1, .retAddr 0], [.int (9999 : Int32), .int (0 : Int32), .int v1], mk true S1)) rfl rfl ?_
  obtain ⟨x3, S2, hq, hf⟩ := bndC_ex hf
  refine mcall (kd := 1) (vs := [.int v1, .int (0 : Int32), .int (9999 : Int32)]) (rest := []) (r := (some (.int x3))) (h' := mk true S2) (ok' := true) C lkRX11_169 (qX11_isWithin hq) (kX11_leave _ (List.mem_of_getElem? (i := 6) rfl)).1 rfl (Nat.le_of_ble_eq_true rfl) (Nat.le_of_ble_eq_true rfl) (Nat.le_refl _) (Nat.le_refl _) (Nat.le_of_ble_eq_true rfl) ?_
  refine msegT C kX11_leave 7 1 (g := (true, (if x3 = 0 then 16 else 18), [.ref (0), .int v1, .retAddr 0], [], mk true S2)) rfl rfl ?_
  by_cases hc : x3 = 0
  · rw [if_pos hc] at hf ⊢
    refine msegT C kX11_leave 8 1 (g := (true, 17, [.ref (0), .int v1, .retAddr 0], [.int (-1 : Int32)], mk true S2)) rfl rfl ?_
    cases hf
    exact gret_i C hr hk (kX11_leave _ (List.mem_of_getElem? (i := 9) rfl)).1
  · rw [if_neg hc] at hf ⊢
    obtain ⟨hok, hf⟩ := grd_ex hf
    refine msegT C kX11_leave 10 6 (g := ((kO 0 11 && (kO 0 11 && (kO 0 11 && true))), 30, [.ref (0), .int v1, .retAddr 0], [.ref 35, .ref (shU true), .ref 85], mk true S2)) rfl hok ?_
    obtain ⟨S4, hq, hf⟩ := bndV_ex hf
    refine mcall (kd := 0) (vs := [.ref 85, .ref (shU true), .ref 35]) (rest := []) (r := none) (h' := mk true S4) (ok' := true) C lkRX11_176 (qX1_look_19 hq) (kX11_leave _ (List.mem_of_getElem? (i := 16) rfl)).1 ⟨_, _, rfl, rfl, Nat.le_of_ble_eq_true rfl, _, _, rfl, rfl, rfl⟩ (Nat.le_of_ble_eq_true rfl) (Nat.le_of_ble_eq_true rfl) (Nat.le_refl _) (Nat.le_refl _) (Nat.le_of_ble_eq_true rfl) ?_
    obtain ⟨hok, hf⟩ := grd_ex hf
    refine msegT C kX11_leave 17 3 (g := ((kO 0 11 && true), 38, [.ref (0), .int v1, .retAddr 0], [.int v1, .ref 85], mk true S4)) rfl hok ?_
    obtain ⟨x6, S5, hq, hf⟩ := bndC_ex hf
    refine mcall (kd := 0) (vs := [.ref 85, .int v1]) (rest := []) (r := (some (.int x6))) (h' := mk true S5) (ok' := true) C lkRX11_180 (qX1_choose hq) (kX11_leave _ (List.mem_of_getElem? (i := 20) rfl)).1 ⟨_, _, rfl, rfl, Nat.le_of_ble_eq_true rfl, _, _, rfl, rfl, rfl⟩ (Nat.le_of_ble_eq_true rfl) (Nat.le_of_ble_eq_true rfl) (Nat.le_refl _) (Nat.le_refl _) (Nat.le_of_ble_eq_true rfl) ?_
    refine msegT C kX11_leave 21 4 (g := (true, (if x6 = (-1 : Int32) then 65 else 47), [.ref (0), .int v1, .int x6], [], mk true S5)) rfl rfl ?_
    by_cases hc : x6 = (-1 : Int32)
    · rw [if_pos hc] at hf ⊢
      exact mfor (L' := [.retAddr 0, .retAddr 0, .int x6]) ⟨Or.inl rfl, Or.inl rfl, Or.inr rfl, trivial⟩ (bX11_leave_65_t C hr hk hf true)
    · rw [if_neg hc] at hf ⊢
      obtain ⟨hok, hf⟩ := grd_ex hf
      refine msegT C kX11_leave 25 7 (g := ((kO (shU true) 8 && (kO 0 11 && (kO 85 1 && (kO 0 11 && true)))), 62, [.ref (0), .int v1, .int x6], [.int (S5.1 (shU true) 9), .ref 99, .ref (0)], mk true S5)) rfl hok ?_
      obtain ⟨S7, hq, hf⟩ := bndV_ex hf
      refine mcall (kd := 0) (vs := [.ref (0), .ref 99, .int (S5.1 (shU true) 9)]) (rest := []) (r := none) (h' := mk true S7) (ok' := true) C lkRX11_186 (qX11_lay hq) (kX11_leave _ (List.mem_of_getElem? (i := 32) rfl)).1 ⟨_, _, rfl, rfl, Nat.le_of_ble_eq_true rfl, _, _, rfl, rfl, rfl⟩ (Nat.le_of_ble_eq_true rfl) (Nat.le_of_ble_eq_true rfl) (Nat.le_refl _) (Nat.le_refl _) (Nat.le_of_ble_eq_true rfl) ?_
      exact mfor (L' := [.retAddr 0, .retAddr 0, .int x6]) ⟨Or.inl rfl, Or.inl rfl, Or.inr rfl, trivial⟩ (bX11_leave_65_t C hr hk hf true)
theorem qX11_leave_t {v1 : Int32} {S S' : mT} {r : Int32} (hf : fX11_leave true v1 S = some (r, S')) : mOk l mX11_leave 6 [.ref (0), .int v1] true S (some (.int r)) S' :=
  gMet (by decide) (Nat.le_of_ble_eq_true rfl) rfl (Nat.le_of_ble_eq_true rfl) (fun p e s m args below meth c G C hr hk => bX11_leave_0_t C hr hk hf true)
theorem bX3_leastAgainst_47 (C : mCx p (mR 2) s m args meth c G cX3_leastAgainst RX3 5 false 233 54500 233 54500) (hr : meth.sig.returnType = (some .int)) (hk : meth.locks = false) {b : Bool} {S' : mT} {r : Int32} {v3 : Int32} {S : mT} (hf : fX3_leastAgainst_47 v3 S = some (r, S')) (ok : Bool) : mW p l e (mR 2) s m args below meth c G 5 233 54500 (mQ below G args s b S' (some (.int r))) (ok, 47, [.retAddr 0, .retAddr 0, .retAddr 0, .int v3, .retAddr 0], [], mk b S) := by
  unfold fX3_leastAgainst_47 at hf
  refine msegT C kX3_leastAgainst 26 1 (g := (true, 48, [.retAddr 0, .retAddr 0, .retAddr 0, .int v3, .retAddr 0], [.int v3], mk b S)) rfl rfl ?_
  cases hf
  exact gret_i C hr hk (kX3_leastAgainst _ (List.mem_of_getElem? (i := 27) rfl)).1
theorem bX3_leastAgainst_14 (C : mCx p (mR 2) s m args meth c G cX3_leastAgainst RX3 5 false 233 54500 233 54500) (hr : meth.sig.returnType = (some .int)) (hk : meth.locks = false) {b : Bool} {S' : mT} {r : Int32} : ∀ (k : Nat) (v1 : Int32) (v2 : Int32) (v3 : Int32) (v4 : Int32) (S : mT), fX3_leastAgainst_14 k v1 v2 v3 v4 S = some (r, S') → ∀ ok : Bool, mW p l e (mR 2) s m args below meth c G 5 233 54500 (mQ below G args s b S' (some (.int r))) (ok, 14, [.ref (140), .int v1, .int v2, .int v3, .int v4], [], mk b S) := by
  intro k
  induction k with
  | zero =>
    intro v1 v2 v3 v4 S hf ok
    cases hf
  | succ k ih =>
    intro v1 v2 v3 v4 S hf ok
    unfold fX3_leastAgainst_14 at hf
    refine msegT C kX3_leastAgainst 9 3 (g := (true, (if v2 < v4 then 47 else 20), [.ref (140), .int v1, .int v2, .int v3, .int v4], [], mk b S)) rfl rfl ?_
    by_cases hc : v2 < v4
    · rw [if_pos hc] at hf ⊢
      exact mfor (L' := [.retAddr 0, .retAddr 0, .retAddr 0, .int v3, .retAddr 0]) ⟨Or.inl rfl, Or.inl rfl, Or.inl rfl, Or.inr rfl, Or.inl rfl, trivial⟩ (bX3_leastAgainst_47 C hr hk hf true)
    · rw [if_neg hc] at hf ⊢
      refine msegT C kX3_leastAgainst 12 3 (g := (true, (if (35 : Int32) < v4 then 47 else 27), [.ref (140), .int v1, .int v2, .int v3, .int v4], [], mk b S)) rfl rfl ?_
      by_cases hc : (35 : Int32) < v4
      · rw [if_pos hc] at hf ⊢
        exact mfor (L' := [.retAddr 0, .retAddr 0, .retAddr 0, .int v3, .retAddr 0]) ⟨Or.inl rfl, Or.inl rfl, Or.inl rfl, Or.inr rfl, Or.inl rfl, trivial⟩ (bX3_leastAgainst_47 C hr hk hf true)
      · rw [if_neg hc] at hf ⊢
        obtain ⟨hok, hf⟩ := grd_ex hf
        refine msegT C kX3_leastAgainst 15 7 (g := ((kI (rowR 141 (mIx v1)) v4 && (kR 141 v1 && (kO 140 3 && true))), 37, [.ref (140), .int v1, .int v2, .int v3, .int v4], [.int (S.1 (rowR 141 (mIx v1)) (mIx v4)), .int v3], mk b S)) rfl hok ?_
        obtain ⟨x4, ex4, hf⟩ := bnd_ex hf
        refine so_min (ok' := true) C (kX3_leastAgainst _ (List.mem_of_getElem? (i := 22) rfl)).1 lmRX3_97 (Nat.le_of_ble_eq_true rfl) (Nat.le_refl _) (Nat.le_refl _) ?_
        rw [← ex4]
        refine msegT C kX3_leastAgainst 23 2 (g := (true, 44, [.ref (140), .int v1, .int v2, .int x4, .int (v4 + (1 : Int32))], [], mk b S)) rfl rfl ?_
        obtain ⟨x5, ex5, hf⟩ := bnd_ex hf
        rw [← ex5]
        refine msegT C kX3_leastAgainst 25 1 (g := (true, 14, [.ref (140), .int v1, .int v2, .int x4, .int x5], [], mk b S)) rfl rfl ?_
        exact mfor (L' := [.ref (140), .int v1, .int v2, .int x4, .int x5]) ⟨Or.inr rfl, Or.inr rfl, Or.inr rfl, Or.inr rfl, Or.inr rfl, trivial⟩ (ih _ _ _ _ _ hf true)
theorem bX3_leastAgainst_0 (C : mCx p (mR 2) s m args meth c G cX3_leastAgainst RX3 5 false 233 54500 233 54500) (hr : meth.sig.returnType = (some .int)) (hk : meth.locks = false) {b : Bool} {S' : mT} {r : Int32} {v1 : Int32} {S : mT} (hf : fX3_leastAgainst v1 S = some (r, S')) (ok : Bool) : mW p l e (mR 2) s m args below meth c G 5 233 54500 (mQ below G args s b S' (some (.int r))) (ok, 0, [.ref (140), .int v1, .retAddr 0, .retAddr 0, .retAddr 0], [], mk b S) := by
  unfold fX3_leastAgainst at hf
  refine msegT C kX3_leastAgainst 0 2 (g := (true, 3, [.ref (140), .int v1, .retAddr 0, .retAddr 0, .retAddr 0], [.int v1, .int (7 : Int32)], mk b S)) rfl rfl ?_
  obtain ⟨x2, S1, hq, hf⟩ := bndC_ex hf
  refine mcall (kd := 1) (vs := [.int v1]) (rest := [.int (7 : Int32)]) (r := (some (.int x2))) (h' := mk b S1) (ok' := true) C lkRX3_61 (qJ6_bitCount_0f7a4 hq) (kX3_leastAgainst _ (List.mem_of_getElem? (i := 2) rfl)).1 rfl (Nat.le_of_ble_eq_true rfl) (Nat.le_of_ble_eq_true rfl) (Nat.le_refl _) (Nat.le_refl _) (Nat.le_of_ble_eq_true rfl) ?_
  refine msegT C kX3_leastAgainst 3 2 (g := (true, 8, [.ref (140), .int v1, .int ((7 : Int32) * x2), .retAddr 0, .retAddr 0], [], mk b S1)) rfl rfl ?_
  obtain ⟨x3, ex3, hf⟩ := bnd_ex hf
  rw [← ex3]
  refine msegT C kX3_leastAgainst 5 4 (g := (true, 14, [.ref (140), .int v1, .int x3, .int (30 : Int32), .int (0 : Int32)], [], mk b S1)) rfl rfl ?_
  exact mfor (L' := [.ref (140), .int v1, .int x3, .int (30 : Int32), .int (0 : Int32)]) ⟨Or.inr rfl, Or.inr rfl, Or.inr rfl, Or.inr rfl, Or.inr rfl, trivial⟩ (bX3_leastAgainst_14 C hr hk _ _ _ _ _ _ hf true)
theorem qX3_leastAgainst {b : Bool} {v1 : Int32} {S S' : mT} {r : Int32} (hf : fX3_leastAgainst v1 S = some (r, S')) : mOk l mX3_leastAgainst 2 [.ref (140), .int v1] b S (some (.int r)) S' :=
  gMet (by decide) (Nat.le_of_ble_eq_true rfl) rfl (Nat.le_of_ble_eq_true rfl) (fun p e s m args below meth c G C hr hk => bX3_leastAgainst_0 C hr hk hf true)
theorem bX3_countOwed_37 (C : mCx p (mR 3) s m args meth c G cX3_countOwed RX3 3 false 233 54500 233 54500) (hr : meth.sig.returnType = none) (hk : meth.locks = false) {b : Bool} {S' : mT} {rc17 : Int32 → mT → Option (mT)} (Hrc17 : ∀ (v1 : Int32) (S : mT), rc17 v1 S = some S' → ∀ ok : Bool, mW p l e (mR 3) s m args below meth c G 3 233 54500 (mQ below G args s b S' none) (ok, 17, [.ref (140), .int v1, .retAddr 0], [], mk b S)) : ∀ (k : Nat) (v1 : Int32) (v2 : Int32) (S : mT), fX3_countOwed_37 rc17 k v1 v2 S = some S' → ∀ ok : Bool, mW p l e (mR 3) s m args below meth c G 3 233 54500 (mQ below G args s b S' none) (ok, 37, [.ref (140), .int v1, .int v2], [], mk b S) := by
  intro k
  induction k with
  | zero =>
    intro v1 v2 S hf ok
    cases hf
  | succ k ih =>
    intro v1 v2 S hf ok
    unfold fX3_countOwed_37 at hf
    obtain ⟨hok, hf⟩ := grd_ex hf
    refine msegT C kX3_countOwed 25 7 (g := ((kI 182 v1 && (kO 174 9 && (kO 140 3 && true))), (if (S.1 182 (mIx v1)) ≤ v2 then 84 else 50), [.ref (140), .int v1, .int v2], [], mk b S)) rfl hok ?_
    by_cases hc : (S.1 182 (mIx v1)) ≤ v2
    · rw [if_pos hc] at hf ⊢
      refine msegT C kX3_countOwed 54 1 (g := (true, 87, [.ref (140), .int (v1 + (-1 : Int32)), .int v2], [], mk b S)) rfl rfl ?_
      obtain ⟨x4, ex4, hf⟩ := bnd_ex hf
      rw [← ex4]
      refine msegT C kX3_countOwed 55 1 (g := (true, 17, [.ref (140), .int x4, .int v2], [], mk b S)) rfl rfl ?_
      exact mfor (L' := [.ref (140), .int x4, .retAddr 0]) ⟨Or.inr rfl, Or.inr rfl, Or.inl rfl, trivial⟩ (Hrc17 _ _ hf true)
    · rw [if_neg hc] at hf ⊢
      obtain ⟨hok, hf⟩ := grd_ex hf
      refine msegT C kX3_countOwed 32 10 (g := ((kO 174 9 && (kO 140 3 && (kI 183 v1 && (kO 140 3 && true)))), 66, [.ref (140), .int v1, .int v2], [.int v1, .ref 176, .ref (140), .int (S.1 183 (mIx v1)), .int v1, .ref 183], mk b S)) rfl hok ?_
      obtain ⟨hok, hf⟩ := grd_ex hf
      refine msegT C kX3_countOwed 42 7 (g := ((kI (rowR 176 (mIx v1)) v2 && (kR 176 v1 && true)), 73, [.ref (140), .int v1, .int v2], [.int ((S.1 (rowR 176 (mIx v1)) (mIx v2)) ||| ((1 : Int32) <<< (v1 &&& 31))), .ref (140), .int (S.1 183 (mIx v1)), .int v1, .ref 183], mk b S)) rfl hok ?_
      obtain ⟨x6, S5, hq, hf⟩ := bndC_ex hf
      refine mcall (kd := 0) (vs := [.ref (140), .int ((S.1 (rowR 176 (mIx v1)) (mIx v2)) ||| ((1 : Int32) <<< (v1 &&& 31)))]) (rest := [.int (S.1 183 (mIx v1)), .int v1, .ref 183]) (r := (some (.int x6))) (h' := mk b S5) (ok' := true) C lkRX3_94 (qX3_leastAgainst hq) (kX3_countOwed _ (List.mem_of_getElem? (i := 49) rfl)).1 ⟨_, _, rfl, rfl, Nat.le_of_ble_eq_true rfl, _, _, rfl, rfl, rfl⟩ (Nat.le_of_ble_eq_true rfl) (Nat.le_of_ble_eq_true rfl) (Nat.le_refl _) (Nat.le_refl _) (Nat.le_of_ble_eq_true rfl) ?_
      obtain ⟨hok, hf⟩ := grd_ex hf
      refine msegT C kX3_countOwed 50 2 (g := ((kI 183 v1 && true), 78, [.ref (140), .int v1, .int v2], [], mk b (sI S5 183 (mIx v1) ((S.1 183 (mIx v1)) + x6)))) rfl hok ?_
      obtain ⟨S7, eS7, hf⟩ := bnd_ex hf
      rw [← eS7]
      refine msegT C kX3_countOwed 52 1 (g := (true, 81, [.ref (140), .int v1, .int (v2 + (1 : Int32))], [], mk b S7)) rfl rfl ?_
      obtain ⟨x8, ex8, hf⟩ := bnd_ex hf
      rw [← ex8]
      refine msegT C kX3_countOwed 53 1 (g := (true, 37, [.ref (140), .int v1, .int x8], [], mk b S7)) rfl rfl ?_
      exact mfor (L' := [.ref (140), .int v1, .int x8]) ⟨Or.inr rfl, Or.inr rfl, Or.inr rfl, trivial⟩ (ih _ _ _ hf true)
theorem bX3_countOwed_17 (C : mCx p (mR 3) s m args meth c G cX3_countOwed RX3 3 false 233 54500 233 54500) (hr : meth.sig.returnType = none) (hk : meth.locks = false) {b : Bool} {S' : mT} : ∀ (k : Nat) (v1 : Int32) (S : mT), fX3_countOwed_17 k v1 S = some S' → ∀ ok : Bool, mW p l e (mR 3) s m args below meth c G 3 233 54500 (mQ below G args s b S' none) (ok, 17, [.ref (140), .int v1, .retAddr 0], [], mk b S) := by
  intro k
  induction k with
  | zero =>
    intro v1 S hf ok
    cases hf
  | succ k ih =>
    intro v1 S hf ok
    unfold fX3_countOwed_17 at hf
    refine msegT C kX3_countOwed 11 2 (g := (true, (if v1 < 0 then 90 else 21), [.ref (140), .int v1, .retAddr 0], [], mk b S)) rfl rfl ?_
    by_cases hc : v1 < 0
    · rw [if_pos hc] at hf ⊢
      cases hf
      exact gret_v C hr hk (kX3_countOwed _ (List.mem_of_getElem? (i := 56) rfl)).1
    · rw [if_neg hc] at hf ⊢
      obtain ⟨hok, hf⟩ := grd_ex hf
      refine msegT C kX3_countOwed 13 10 (g := ((kI 183 v1 && (kI 183 (v1 + (1 : Int32)) && (kO 140 3 && (kO 140 3 && true)))), 35, [.ref (140), .int v1, .retAddr 0], [], mk b (sI S 183 (mIx v1) (S.1 183 (mIx (v1 + (1 : Int32))))))) rfl hok ?_
      obtain ⟨S3, eS3, hf⟩ := bnd_ex hf
      rw [← eS3]
      refine msegT C kX3_countOwed 23 2 (g := (true, 37, [.ref (140), .int v1, .int (0 : Int32)], [], mk b S3)) rfl rfl ?_
      exact mfor (L' := [.ref (140), .int v1, .int (0 : Int32)]) ⟨Or.inr rfl, Or.inr rfl, Or.inr rfl, trivial⟩ (bX3_countOwed_37 C hr hk ih _ _ _ _ hf true)
theorem bX3_countOwed_0 (C : mCx p (mR 3) s m args meth c G cX3_countOwed RX3 3 false 233 54500 233 54500) (hr : meth.sig.returnType = none) (hk : meth.locks = false) {b : Bool} {S' : mT} {S : mT} (hf : fX3_countOwed S = some S') (ok : Bool) : mW p l e (mR 3) s m args below meth c G 3 233 54500 (mQ below G args s b S' none) (ok, 0, [.ref (140), .retAddr 0, .retAddr 0], [], mk b S) := by
  unfold fX3_countOwed at hf
  obtain ⟨hok, hf⟩ := grd_ex hf
  refine msegT C kX3_countOwed 0 6 (g := ((kI 183 (S.1 140 6) && (kO 140 3 && (kO 140 3 && true))), 10, [.ref (140), .retAddr 0, .retAddr 0], [], mk b (sI S 183 (mIx (S.1 140 6)) (0 : Int32)))) rfl hok ?_
  obtain ⟨S1, eS1, hf⟩ := bnd_ex hf
  rw [← eS1]
  obtain ⟨hok, hf⟩ := grd_ex hf
  refine msegT C kX3_countOwed 6 5 (g := ((kO 140 3 && true), 17, [.ref (140), .int ((S1.1 140 6) - (1 : Int32)), .retAddr 0], [], mk b S1)) rfl hok ?_
  obtain ⟨x2, ex2, hf⟩ := bnd_ex hf
  rw [← ex2]
  exact mfor (L' := [.ref (140), .int x2, .retAddr 0]) ⟨Or.inr rfl, Or.inr rfl, Or.inl rfl, trivial⟩ (bX3_countOwed_17 C hr hk _ _ _ hf true)
theorem qX3_countOwed {b : Bool} {S S' : mT} (hf : fX3_countOwed S = some S') : mOk l mX3_countOwed 3 [.ref (140)] b S none S' :=
  gMet (by decide) (Nat.le_of_ble_eq_true rfl) rfl (Nat.le_of_ble_eq_true rfl) (fun p e s m args below meth c G C hr hk => bX3_countOwed_0 C hr hk hf true)
theorem bX3_againstWith_5 (C : mCx p (mR 1) s m args meth c G cX3_againstWith RX3 6 false 233 54500 233 54500) (hr : meth.sig.returnType = (some .int)) (hk : meth.locks = false) {b : Bool} {S' : mT} {r : Int32} : ∀ (k : Nat) (v1 : Int32) (v2 : Int32) (v3 : Int32) (v4 : Int32) (S : mT), fX3_againstWith_5 k v1 v2 v3 v4 S = some (r, S') → ∀ ok : Bool, mW p l e (mR 1) s m args below meth c G 6 233 54500 (mQ below G args s b S' (some (.int r))) (ok, 5, [.ref (140), .int v1, .int v2, .int v3, .int v4, .retAddr 0], [], mk b S) := by
  intro k
  induction k with
  | zero =>
    intro v1 v2 v3 v4 S hf ok
    cases hf
  | succ k ih =>
    intro v1 v2 v3 v4 S hf ok
    unfold fX3_againstWith_5 at hf
    obtain ⟨hok, hf⟩ := grd_ex hf
    refine msegT C kX3_againstWith 4 7 (g := ((kI 182 v1 && (kO 174 9 && (kO 140 3 && true))), (if (S.1 182 (mIx v1)) ≤ v4 then 66 else 19), [.ref (140), .int v1, .int v2, .int v3, .int v4, .retAddr 0], [], mk b S)) rfl hok ?_
    by_cases hc : (S.1 182 (mIx v1)) ≤ v4
    · rw [if_pos hc] at hf ⊢
      refine msegT C kX3_againstWith 40 1 (g := (true, 67, [.ref (140), .int v1, .int v2, .int v3, .int v4, .retAddr 0], [.int v3], mk b S)) rfl rfl ?_
      cases hf
      exact gret_i C hr hk (kX3_againstWith _ (List.mem_of_getElem? (i := 41) rfl)).1
    · rw [if_neg hc] at hf ⊢
      obtain ⟨hok, hf⟩ := grd_ex hf
      refine msegT C kX3_againstWith 11 8 (g := ((kI (rowR 176 (mIx v1)) v4 && (kR 176 v1 && (kO 174 9 && (kO 140 3 && true)))), 33, [.ref (140), .int v1, .int v2, .int v3, .int v4, .int (S.1 (rowR 176 (mIx v1)) (mIx v4))], [], mk b S)) rfl hok ?_
      obtain ⟨x1, ex1, hf⟩ := bnd_ex hf
      rw [← ex1]
      obtain ⟨hok, hf⟩ := grd_ex hf
      refine msegT C kX3_againstWith 19 10 (g := ((kR 141 (x1 ||| ((1 : Int32) <<< (v1 &&& 31))) && (kO 140 3 && true)), 46, [.ref (140), .int v1, .int v2, .int v3, .int v4, .int x1], [.ref (140), .ref (rowR 141 (mIx (x1 ||| ((1 : Int32) <<< (v1 &&& 31))))), .int v3], mk b S)) rfl hok ?_
      obtain ⟨hok, hf⟩ := grd_ex hf
      refine msegT C kX3_againstWith 29 9 (g := ((kI (rowR 141 (mIx (x1 ||| ((1 : Int32) <<< (v1 &&& 31))))) ((S.1 175 (mIx x1)) + v2) && (kI 175 x1 && (kO 174 9 && (kO 140 3 && true)))), 60, [.ref (140), .int v1, .int v2, .int (v3 + (S.1 (rowR 141 (mIx (x1 ||| ((1 : Int32) <<< (v1 &&& 31))))) (mIx ((S.1 175 (mIx x1)) + v2)))), .int v4, .int x1], [], mk b S)) rfl hok ?_
      obtain ⟨x2, ex2, hf⟩ := bnd_ex hf
      rw [← ex2]
      refine msegT C kX3_againstWith 38 1 (g := (true, 63, [.ref (140), .int v1, .int v2, .int x2, .int (v4 + (1 : Int32)), .int x1], [], mk b S)) rfl rfl ?_
      obtain ⟨x3, ex3, hf⟩ := bnd_ex hf
      rw [← ex3]
      refine msegT C kX3_againstWith 39 1 (g := (true, 5, [.ref (140), .int v1, .int v2, .int x2, .int x3, .int x1], [], mk b S)) rfl rfl ?_
      exact mfor (L' := [.ref (140), .int v1, .int v2, .int x2, .int x3, .retAddr 0]) ⟨Or.inr rfl, Or.inr rfl, Or.inr rfl, Or.inr rfl, Or.inr rfl, Or.inl rfl, trivial⟩ (ih _ _ _ _ _ hf true)
theorem bX3_againstWith_0 (C : mCx p (mR 1) s m args meth c G cX3_againstWith RX3 6 false 233 54500 233 54500) (hr : meth.sig.returnType = (some .int)) (hk : meth.locks = false) {b : Bool} {S' : mT} {r : Int32} {v1 : Int32} {v2 : Int32} {S : mT} (hf : fX3_againstWith v1 v2 S = some (r, S')) (ok : Bool) : mW p l e (mR 1) s m args below meth c G 6 233 54500 (mQ below G args s b S' (some (.int r))) (ok, 0, [.ref (140), .int v1, .int v2, .retAddr 0, .retAddr 0, .retAddr 0], [], mk b S) := by
  unfold fX3_againstWith at hf
  refine msegT C kX3_againstWith 0 4 (g := (true, 5, [.ref (140), .int v1, .int v2, .int (0 : Int32), .int (0 : Int32), .retAddr 0], [], mk b S)) rfl rfl ?_
  exact mfor (L' := [.ref (140), .int v1, .int v2, .int (0 : Int32), .int (0 : Int32), .retAddr 0]) ⟨Or.inr rfl, Or.inr rfl, Or.inr rfl, Or.inr rfl, Or.inr rfl, Or.inl rfl, trivial⟩ (bX3_againstWith_5 C hr hk _ _ _ _ _ _ hf true)
theorem qX3_againstWith {b : Bool} {v1 : Int32} {v2 : Int32} {S S' : mT} {r : Int32} (hf : fX3_againstWith v1 v2 S = some (r, S')) : mOk l mX3_againstWith 1 [.ref (140), .int v1, .int v2] b S (some (.int r)) S' :=
  gMet (by decide) (Nat.le_of_ble_eq_true rfl) rfl (Nat.le_of_ble_eq_true rfl) (fun p e s m args below meth c G C hr hk => bX3_againstWith_0 C hr hk hf true)
end GP
