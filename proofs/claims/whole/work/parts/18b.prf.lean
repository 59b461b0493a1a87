section GP
variable {p : Program} {l : Launch} {e : Env} {s : State} {m : MethodId} {args : Array Value} {below : List Frame} {meth : Method} {c : Code} {G : mG}
theorem bX11_about_0_f (C : mCx p (mR 2) s m args meth c G cX11_about RX11 2 false 233 54500 233 54500) (hr : meth.sig.returnType = (some .int)) (hk : meth.locks = false) {S' : mT} {r : Int32} {v1 : Int32} {S : mT} (hf : fX11_about false v1 S = some (r, S')) (ok : Bool) : mW p l e (mR 2) s m args below meth c G 2 233 54500 (mQ below G args s false S' (some (.int r))) (ok, 0, [.ref (0), .int v1], [], mk false S) := by
  unfold fX11_about at hf
  refine msegT C kX11_about 0 2 (g := (true, (if v1 = (0 : Int32) then 56 else (if v1 = (1 : Int32) then 64 else (if v1 = (2 : Int32) then 72 else (if v1 = (3 : Int32) then 80 else (if v1 = (4 : Int32) then 88 else (if v1 = (5 : Int32) then 96 else (if v1 = (6 : Int32) then 104 else (if v1 = (7 : Int32) then 109 else (if v1 = (8 : Int32) then 117 else (if v1 = (9 : Int32) then 125 else 130)))))))))), [.ref (0), .int v1], [], mk false S)) rfl rfl ?_
  by_cases hc : v1 = (0 : Int32)
  · rw [if_pos hc] at hf ⊢
    obtain ⟨hok, hf⟩ := grd_ex hf
    refine msegT C kX11_about 2 3 (g := ((kO (shU false) 8 && (kO 0 11 && true)), 63, [.ref (0), .int v1], [.int (S.1 (shU false) 9)], mk false S)) rfl hok ?_
    cases hf
    exact gret_i C hr hk (kX11_about _ (List.mem_of_getElem? (i := 5) rfl)).1
  · rw [if_neg hc] at hf ⊢
    by_cases hc : v1 = (1 : Int32)
    · rw [if_pos hc] at hf ⊢
      obtain ⟨hok, hf⟩ := grd_ex hf
      refine msegT C kX11_about 6 4 (g := ((kI 35 (15 : Int32) && (kO 0 11 && true)), 71, [.ref (0), .int v1], [.int (S.1 35 (mIx (15 : Int32)))], mk false S)) rfl hok ?_
      cases hf
      exact gret_i C hr hk (kX11_about _ (List.mem_of_getElem? (i := 10) rfl)).1
    · rw [if_neg hc] at hf ⊢
      by_cases hc : v1 = (2 : Int32)
      · rw [if_pos hc] at hf ⊢
        obtain ⟨hok, hf⟩ := grd_ex hf
        refine msegT C kX11_about 11 4 (g := ((kI 35 (16 : Int32) && (kO 0 11 && true)), 79, [.ref (0), .int v1], [.int (S.1 35 (mIx (16 : Int32)))], mk false S)) rfl hok ?_
        cases hf
        exact gret_i C hr hk (kX11_about _ (List.mem_of_getElem? (i := 15) rfl)).1
      · rw [if_neg hc] at hf ⊢
        by_cases hc : v1 = (3 : Int32)
        · rw [if_pos hc] at hf ⊢
          obtain ⟨hok, hf⟩ := grd_ex hf
          refine msegT C kX11_about 16 3 (g := ((kO 37 2 && (kO 0 11 && true)), 87, [.ref (0), .int v1], [.int (S.1 37 4)], mk false S)) rfl hok ?_
          cases hf
          exact gret_i C hr hk (kX11_about _ (List.mem_of_getElem? (i := 19) rfl)).1
        · rw [if_neg hc] at hf ⊢
          by_cases hc : v1 = (4 : Int32)
          · rw [if_pos hc] at hf ⊢
            obtain ⟨hok, hf⟩ := grd_ex hf
            refine msegT C kX11_about 20 3 (g := ((kO 37 2 && (kO 0 11 && true)), 95, [.ref (0), .int v1], [.int (S.1 37 5)], mk false S)) rfl hok ?_
            cases hf
            exact gret_i C hr hk (kX11_about _ (List.mem_of_getElem? (i := 23) rfl)).1
          · rw [if_neg hc] at hf ⊢
            by_cases hc : v1 = (5 : Int32)
            · rw [if_pos hc] at hf ⊢
              obtain ⟨hok, hf⟩ := grd_ex hf
              refine msegT C kX11_about 24 3 (g := ((kO 114 5 && (kO 0 11 && true)), 103, [.ref (0), .int v1], [.int (S.1 114 5)], mk false S)) rfl hok ?_
              cases hf
              exact gret_i C hr hk (kX11_about _ (List.mem_of_getElem? (i := 27) rfl)).1
            · rw [if_neg hc] at hf ⊢
              by_cases hc : v1 = (6 : Int32)
              · rw [if_pos hc] at hf ⊢
                obtain ⟨hok, hf⟩ := grd_ex hf
                refine msegT C kX11_about 28 2 (g := ((kO 0 11 && true), 108, [.ref (0), .int v1], [.int (S.1 0 14)], mk false S)) rfl hok ?_
                cases hf
                exact gret_i C hr hk (kX11_about _ (List.mem_of_getElem? (i := 30) rfl)).1
              · rw [if_neg hc] at hf ⊢
                by_cases hc : v1 = (7 : Int32)
                · rw [if_pos hc] at hf ⊢
                  obtain ⟨hok, hf⟩ := grd_ex hf
                  refine msegT C kX11_about 31 3 (g := ((kO 1 4 && (kO 0 11 && true)), 116, [.ref (0), .int v1], [.int (S.1 1 1)], mk false S)) rfl hok ?_
                  cases hf
                  exact gret_i C hr hk (kX11_about _ (List.mem_of_getElem? (i := 34) rfl)).1
                · rw [if_neg hc] at hf ⊢
                  by_cases hc : v1 = (8 : Int32)
                  · rw [if_pos hc] at hf ⊢
                    obtain ⟨hok, hf⟩ := grd_ex hf
                    refine msegT C kX11_about 35 2 (g := ((kO 0 11 && true), 121, [.ref (0), .int v1], [.ref (shU false)], mk false S)) rfl hok ?_
                    obtain ⟨x2, S1, hq, hf⟩ := bndC_ex hf
                    refine mcall (kd := 0) (vs := [.ref (shU false)]) (rest := []) (r := (some (.int x2))) (h' := mk false S1) (ok' := true) C lkRX11_312 (qX8_unitsOfLaws_3 hq) (kX11_about _ (List.mem_of_getElem? (i := 37) rfl)).1 ⟨_, _, rfl, rfl, Nat.le_of_ble_eq_true rfl, _, _, rfl, rfl, rfl⟩ (Nat.le_of_ble_eq_true rfl) (Nat.le_of_ble_eq_true rfl) (Nat.le_refl _) (Nat.le_refl _) (Nat.le_of_ble_eq_true rfl) ?_
                    cases hf
                    exact gret_i C hr hk (kX11_about _ (List.mem_of_getElem? (i := 38) rfl)).1
                  · rw [if_neg hc] at hf ⊢
                    by_cases hc : v1 = (9 : Int32)
                    · rw [if_pos hc] at hf ⊢
                      obtain ⟨hok, hf⟩ := grd_ex hf
                      refine msegT C kX11_about 39 2 (g := ((kO 0 11 && true), 129, [.ref (0), .int v1], [.int (S.1 0 13)], mk false S)) rfl hok ?_
                      cases hf
                      exact gret_i C hr hk (kX11_about _ (List.mem_of_getElem? (i := 41) rfl)).1
                    · rw [if_neg hc] at hf ⊢
                      refine msegT C kX11_about 42 1 (g := (true, 131, [.ref (0), .int v1], [.int (-1 : Int32)], mk false S)) rfl rfl ?_
                      cases hf
                      exact gret_i C hr hk (kX11_about _ (List.mem_of_getElem? (i := 43) rfl)).1
theorem qX11_about_f {v1 : Int32} {S S' : mT} {r : Int32} (hf : fX11_about false v1 S = some (r, S')) : mOk l mX11_about 2 [.ref (0), .int v1] false S (some (.int r)) S' :=
  gMet (by decide) (Nat.le_of_ble_eq_true rfl) rfl (Nat.le_of_ble_eq_true rfl) (fun p e s m args below meth c G C hr hk => bX11_about_0_f C hr hk hf true)
theorem bX11_about_0_t (C : mCx p (mR 2) s m args meth c G cX11_about RX11 2 false 233 54500 233 54500) (hr : meth.sig.returnType = (some .int)) (hk : meth.locks = false) {S' : mT} {r : Int32} {v1 : Int32} {S : mT} (hf : fX11_about true v1 S = some (r, S')) (ok : Bool) : mW p l e (mR 2) s m args below meth c G 2 233 54500 (mQ below G args s true S' (some (.int r))) (ok, 0, [.ref (0), .int v1], [], mk true S) := by
  unfold fX11_about at hf
  refine msegT C kX11_about 0 2 (g := (true, (if v1 = (0 : Int32) then 56 else (if v1 = (1 : Int32) then 64 else (if v1 = (2 : Int32) then 72 else (if v1 = (3 : Int32) then 80 else (if v1 = (4 : Int32) then 88 else (if v1 = (5 : Int32) then 96 else (if v1 = (6 : Int32) then 104 else (if v1 = (7 : Int32) then 109 else (if v1 = (8 : Int32) then 117 else (if v1 = (9 : Int32) then 125 else 130)))))))))), [.ref (0), .int v1], [], mk true S)) rfl rfl ?_
  by_cases hc : v1 = (0 : Int32)
  · rw [if_pos hc] at hf ⊢
    obtain ⟨hok, hf⟩ := grd_ex hf
    refine msegT C kX11_about 2 3 (g := ((kO (shU true) 8 && (kO 0 11 && true)), 63, [.ref (0), .int v1], [.int (S.1 (shU true) 9)], mk true S)) rfl hok ?_
    cases hf
    exact gret_i C hr hk (kX11_about _ (List.mem_of_getElem? (i := 5) rfl)).1
  · rw [if_neg hc] at hf ⊢
    by_cases hc : v1 = (1 : Int32)
    · rw [if_pos hc] at hf ⊢
      obtain ⟨hok, hf⟩ := grd_ex hf
      refine msegT C kX11_about 6 4 (g := ((kI 35 (15 : Int32) && (kO 0 11 && true)), 71, [.ref (0), .int v1], [.int (S.1 35 (mIx (15 : Int32)))], mk true S)) rfl hok ?_
      cases hf
      exact gret_i C hr hk (kX11_about _ (List.mem_of_getElem? (i := 10) rfl)).1
    · rw [if_neg hc] at hf ⊢
      by_cases hc : v1 = (2 : Int32)
      · rw [if_pos hc] at hf ⊢
        obtain ⟨hok, hf⟩ := grd_ex hf
        refine msegT C kX11_about 11 4 (g := ((kI 35 (16 : Int32) && (kO 0 11 && true)), 79, [.ref (0), .int v1], [.int (S.1 35 (mIx (16 : Int32)))], mk true S)) rfl hok ?_
        cases hf
        exact gret_i C hr hk (kX11_about _ (List.mem_of_getElem? (i := 15) rfl)).1
      · rw [if_neg hc] at hf ⊢
        by_cases hc : v1 = (3 : Int32)
        · rw [if_pos hc] at hf ⊢
          obtain ⟨hok, hf⟩ := grd_ex hf
          refine msegT C kX11_about 16 3 (g := ((kO 37 2 && (kO 0 11 && true)), 87, [.ref (0), .int v1], [.int (S.1 37 4)], mk true S)) rfl hok ?_
          cases hf
          exact gret_i C hr hk (kX11_about _ (List.mem_of_getElem? (i := 19) rfl)).1
        · rw [if_neg hc] at hf ⊢
          by_cases hc : v1 = (4 : Int32)
          · rw [if_pos hc] at hf ⊢
            obtain ⟨hok, hf⟩ := grd_ex hf
            refine msegT C kX11_about 20 3 (g := ((kO 37 2 && (kO 0 11 && true)), 95, [.ref (0), .int v1], [.int (S.1 37 5)], mk true S)) rfl hok ?_
            cases hf
            exact gret_i C hr hk (kX11_about _ (List.mem_of_getElem? (i := 23) rfl)).1
          · rw [if_neg hc] at hf ⊢
            by_cases hc : v1 = (5 : Int32)
            · rw [if_pos hc] at hf ⊢
              obtain ⟨hok, hf⟩ := grd_ex hf
              refine msegT C kX11_about 24 3 (g := ((kO 114 5 && (kO 0 11 && true)), 103, [.ref (0), .int v1], [.int (S.1 114 5)], mk true S)) rfl hok ?_
              cases hf
              exact gret_i C hr hk (kX11_about _ (List.mem_of_getElem? (i := 27) rfl)).1
            · rw [if_neg hc] at hf ⊢
              by_cases hc : v1 = (6 : Int32)
              · rw [if_pos hc] at hf ⊢
                obtain ⟨hok, hf⟩ := grd_ex hf
                refine msegT C kX11_about 28 2 (g := ((kO 0 11 && true), 108, [.ref (0), .int v1], [.int (S.1 0 14)], mk true S)) rfl hok ?_
                cases hf
                exact gret_i C hr hk (kX11_about _ (List.mem_of_getElem? (i := 30) rfl)).1
              · rw [if_neg hc] at hf ⊢
                by_cases hc : v1 = (7 : Int32)
                · rw [if_pos hc] at hf ⊢
                  obtain ⟨hok, hf⟩ := grd_ex hf
                  refine msegT C kX11_about 31 3 (g := ((kO 1 4 && (kO 0 11 && true)), 116, [.ref (0), .int v1], [.int (S.1 1 1)], mk true S)) rfl hok ?_
                  cases hf
                  exact gret_i C hr hk (kX11_about _ (List.mem_of_getElem? (i := 34) rfl)).1
                · rw [if_neg hc] at hf ⊢
                  by_cases hc : v1 = (8 : Int32)
                  · rw [if_pos hc] at hf ⊢
                    obtain ⟨hok, hf⟩ := grd_ex hf
                    refine msegT C kX11_about 35 2 (g := ((kO 0 11 && true), 121, [.ref (0), .int v1], [.ref (shU true)], mk true S)) rfl hok ?_
                    obtain ⟨x2, S1, hq, hf⟩ := bndC_ex hf
                    refine mcall (kd := 0) (vs := [.ref (shU true)]) (rest := []) (r := (some (.int x2))) (h' := mk true S1) (ok' := true) C lkRX11_312 (qX8_unitsOfLaws_19 hq) (kX11_about _ (List.mem_of_getElem? (i := 37) rfl)).1 ⟨_, _, rfl, rfl, Nat.le_of_ble_eq_true rfl, _, _, rfl, rfl, rfl⟩ (Nat.le_of_ble_eq_true rfl) (Nat.le_of_ble_eq_true rfl) (Nat.le_refl _) (Nat.le_refl _) (Nat.le_of_ble_eq_true rfl) ?_
                    cases hf
                    exact gret_i C hr hk (kX11_about _ (List.mem_of_getElem? (i := 38) rfl)).1
                  · rw [if_neg hc] at hf ⊢
                    by_cases hc : v1 = (9 : Int32)
                    · rw [if_pos hc] at hf ⊢
                      obtain ⟨hok, hf⟩ := grd_ex hf
                      refine msegT C kX11_about 39 2 (g := ((kO 0 11 && true), 129, [.ref (0), .int v1], [.int (S.1 0 13)], mk true S)) rfl hok ?_
                      cases hf
                      exact gret_i C hr hk (kX11_about _ (List.mem_of_getElem? (i := 41) rfl)).1
                    · rw [if_neg hc] at hf ⊢
                      refine msegT C kX11_about 42 1 (g := (true, 131, [.ref (0), .int v1], [.int (-1 : Int32)], mk true S)) rfl rfl ?_
                      cases hf
                      exact gret_i C hr hk (kX11_about _ (List.mem_of_getElem? (i := 43) rfl)).1
theorem qX11_about_t {v1 : Int32} {S S' : mT} {r : Int32} (hf : fX11_about true v1 S = some (r, S')) : mOk l mX11_about 2 [.ref (0), .int v1] true S (some (.int r)) S' :=
  gMet (by decide) (Nat.le_of_ble_eq_true rfl) rfl (Nat.le_of_ble_eq_true rfl) (fun p e s m args below meth c G C hr hk => bX11_about_0_t C hr hk hf true)
theorem bX11_allBowls_4_f (C : mCx p (mR 1) s m args meth c G cX11_allBowls RX11 4 false 233 54500 233 54500) (hr : meth.sig.returnType = (some .int)) (hk : meth.locks = false) {a1 : Nat} {S' : mT} {r : Int32} : ∀ (k : Nat) (v2 : Int32) (v3 : Int32) (S : mT), fX11_allBowls_4 false a1 k v2 v3 S = some (r, S') → ∀ ok : Bool, mW p l e (mR 1) s m args below meth c G 4 233 54500 (mQ below G args s false S' (some (.int r))) (ok, 4, [.ref (0), .ref a1, .int v2, .int v3], [], mk false S) := by
  intro k
  induction k with
  | zero =>
    intro v2 v3 S hf ok
    cases hf
  | succ k ih =>
    intro v2 v3 S hf ok
    unfold fX11_allBowls_4 at hf
    obtain ⟨hok, hf⟩ := grd_ex hf
    refine msegT C kX11_allBowls 4 5 (g := ((kO (shU false) 8 && (kO 0 11 && true)), (if (S.1 (shU false) 9) ≤ v3 then 30 else 15), [.ref (0), .ref a1, .int v2, .int v3], [], mk false S)) rfl hok ?_
    by_cases hc : (S.1 (shU false) 9) ≤ v3
    · rw [if_pos hc] at hf ⊢
      refine msegT C kX11_allBowls 19 1 (g := (true, 31, [.ref (0), .ref a1, .int v2, .int v3], [.int v2], mk false S)) rfl rfl ?_
      cases hf
      exact gret_i C hr hk (kX11_allBowls _ (List.mem_of_getElem? (i := 20) rfl)).1
    · rw [if_neg hc] at hf ⊢
      obtain ⟨hok, hf⟩ := grd_ex hf
      refine msegT C kX11_allBowls 9 8 (g := ((kI a1 ((10 : Int32) + v3) && true), 24, [.ref (0), .ref a1, .int (v2 + (S.1 a1 (mIx ((10 : Int32) + v3)))), .int v3], [], mk false S)) rfl hok ?_
      obtain ⟨x1, ex1, hf⟩ := bnd_ex hf
      rw [← ex1]
      refine msegT C kX11_allBowls 17 1 (g := (true, 27, [.ref (0), .ref a1, .int x1, .int (v3 + (1 : Int32))], [], mk false S)) rfl rfl ?_
      obtain ⟨x2, ex2, hf⟩ := bnd_ex hf
      rw [← ex2]
      refine msegT C kX11_allBowls 18 1 (g := (true, 4, [.ref (0), .ref a1, .int x1, .int x2], [], mk false S)) rfl rfl ?_
      exact mfor (L' := [.ref (0), .ref a1, .int x1, .int x2]) ⟨Or.inr rfl, Or.inr rfl, Or.inr rfl, Or.inr rfl, trivial⟩ (ih _ _ _ hf true)
theorem bX11_allBowls_0_f (C : mCx p (mR 1) s m args meth c G cX11_allBowls RX11 4 false 233 54500 233 54500) (hr : meth.sig.returnType = (some .int)) (hk : meth.locks = false) {a1 : Nat} {S' : mT} {r : Int32} {S : mT} (hf : fX11_allBowls false a1 S = some (r, S')) (ok : Bool) : mW p l e (mR 1) s m args below meth c G 4 233 54500 (mQ below G args s false S' (some (.int r))) (ok, 0, [.ref (0), .ref a1, .retAddr 0, .retAddr 0], [], mk false S) := by
  unfold fX11_allBowls at hf
  refine msegT C kX11_allBowls 0 4 (g := (true, 4, [.ref (0), .ref a1, .int (0 : Int32), .int (0 : Int32)], [], mk false S)) rfl rfl ?_
  exact mfor (L' := [.ref (0), .ref a1, .int (0 : Int32), .int (0 : Int32)]) ⟨Or.inr rfl, Or.inr rfl, Or.inr rfl, Or.inr rfl, trivial⟩ (bX11_allBowls_4_f C hr hk _ _ _ _ hf true)
theorem qX11_allBowls_f {a1 : Nat} {S S' : mT} {r : Int32} (hf : fX11_allBowls false a1 S = some (r, S')) : mOk l mX11_allBowls 1 [.ref (0), .ref a1] false S (some (.int r)) S' :=
  gMet (by decide) (Nat.le_of_ble_eq_true rfl) rfl (Nat.le_of_ble_eq_true rfl) (fun p e s m args below meth c G C hr hk => bX11_allBowls_0_f C hr hk hf true)
theorem bX11_allBowls_4_t (C : mCx p (mR 1) s m args meth c G cX11_allBowls RX11 4 false 233 54500 233 54500) (hr : meth.sig.returnType = (some .int)) (hk : meth.locks = false) {a1 : Nat} {S' : mT} {r : Int32} : ∀ (k : Nat) (v2 : Int32) (v3 : Int32) (S : mT), fX11_allBowls_4 true a1 k v2 v3 S = some (r, S') → ∀ ok : Bool, mW p l e (mR 1) s m args below meth c G 4 233 54500 (mQ below G args s true S' (some (.int r))) (ok, 4, [.ref (0), .ref a1, .int v2, .int v3], [], mk true S) := by
  intro k
  induction k with
  | zero =>
    intro v2 v3 S hf ok
    cases hf
  | succ k ih =>
    intro v2 v3 S hf ok
    unfold fX11_allBowls_4 at hf
    obtain ⟨hok, hf⟩ := grd_ex hf
    refine msegT C kX11_allBowls 4 5 (g := ((kO (shU true) 8 && (kO 0 11 && true)), (if (S.1 (shU true) 9) ≤ v3 then 30 else 15), [.ref (0), .ref a1, .int v2, .int v3], [], mk true S)) rfl hok ?_
    by_cases hc : (S.1 (shU true) 9) ≤ v3
    · rw [if_pos hc] at hf ⊢
      refine msegT C kX11_allBowls 19 1 (g := (true, 31, [.ref (0), .ref a1, .int v2, .int v3], [.int v2], mk true S)) rfl rfl ?_
      cases hf
      exact gret_i C hr hk (kX11_allBowls _ (List.mem_of_getElem? (i := 20) rfl)).1
    · rw [if_neg hc] at hf ⊢
      obtain ⟨hok, hf⟩ := grd_ex hf
      refine msegT C kX11_allBowls 9 8 (g := ((kI a1 ((10 : Int32) + v3) && true), 24, [.ref (0), .ref a1, .int (v2 + (S.1 a1 (mIx ((10 : Int32) + v3)))), .int v3], [], mk true S)) rfl hok ?_
      obtain ⟨x1, ex1, hf⟩ := bnd_ex hf
      rw [← ex1]
      refine msegT C kX11_allBowls 17 1 (g := (true, 27, [.ref (0), .ref a1, .int x1, .int (v3 + (1 : Int32))], [], mk true S)) rfl rfl ?_
      obtain ⟨x2, ex2, hf⟩ := bnd_ex hf
      rw [← ex2]
      refine msegT C kX11_allBowls 18 1 (g := (true, 4, [.ref (0), .ref a1, .int x1, .int x2], [], mk true S)) rfl rfl ?_
      exact mfor (L' := [.ref (0), .ref a1, .int x1, .int x2]) ⟨Or.inr rfl, Or.inr rfl, Or.inr rfl, Or.inr rfl, trivial⟩ (ih _ _ _ hf true)
theorem bX11_allBowls_0_t (C : mCx p (mR 1) s m args meth c G cX11_allBowls RX11 4 false 233 54500 233 54500) (hr : meth.sig.returnType = (some .int)) (hk : meth.locks = false) {a1 : Nat} {S' : mT} {r : Int32} {S : mT} (hf : fX11_allBowls true a1 S = some (r, S')) (ok : Bool) : mW p l e (mR 1) s m args below meth c G 4 233 54500 (mQ below G args s true S' (some (.int r))) (ok, 0, [.ref (0), .ref a1, .retAddr 0, .retAddr 0], [], mk true S) := by
  unfold fX11_allBowls at hf
  refine msegT C kX11_allBowls 0 4 (g := (true, 4, [.ref (0), .ref a1, .int (0 : Int32), .int (0 : Int32)], [], mk true S)) rfl rfl ?_
  exact mfor (L' := [.ref (0), .ref a1, .int (0 : Int32), .int (0 : Int32)]) ⟨Or.inr rfl, Or.inr rfl, Or.inr rfl, Or.inr rfl, trivial⟩ (bX11_allBowls_4_t C hr hk _ _ _ _ hf true)
theorem qX11_allBowls_t {a1 : Nat} {S S' : mT} {r : Int32} (hf : fX11_allBowls true a1 S = some (r, S')) : mOk l mX11_allBowls 1 [.ref (0), .ref a1] true S (some (.int r)) S' :=
  gMet (by decide) (Nat.le_of_ble_eq_true rfl) rfl (Nat.le_of_ble_eq_true rfl) (fun p e s m args below meth c G C hr hk => bX11_allBowls_0_t C hr hk hf true)
theorem bX11_isWithin_15 (C : mCx p (mR 1) s m args meth c G cX11_isWithin RX11 3 false 233 54500 233 54500) (hr : meth.sig.returnType = (some .boolean)) (hk : meth.locks = false) {b : Bool} {S' : mT} {r : Int32} {s0 : Int32} {S : mT} (hf : fX11_isWithin_15 s0 S = some (r, S')) (ok : Bool) : mW p l e (mR 1) s m args below meth c G 3 233 54500 (mQ below G args s b S' (some (.int r))) (ok, 15, [.retAddr 0, .retAddr 0, .retAddr 0], [.int s0], mk b S) := by
  unfold fX11_isWithin_15 at hf
  obtain ⟨hz, hf⟩ := grd_ex hf
  cases hf
  exact gret_z C hr hk (mFit_nar hz) (kX11_isWithin _ (List.mem_of_getElem? (i := 9) rfl)).1
theorem bX11_isWithin_14 (C : mCx p (mR 1) s m args meth c G cX11_isWithin RX11 3 false 233 54500 233 54500) (hr : meth.sig.returnType = (some .boolean)) (hk : meth.locks = false) {b : Bool} {S' : mT} {r : Int32} {S : mT} (hf : fX11_isWithin_14 S = some (r, S')) (ok : Bool) : mW p l e (mR 1) s m args below meth c G 3 233 54500 (mQ below G args s b S' (some (.int r))) (ok, 14, [.retAddr 0, .retAddr 0, .retAddr 0], [], mk b S) := by
  unfold fX11_isWithin_14 at hf
  refine msegT C kX11_isWithin 8 1 (g := (true, 15, [.retAddr 0, .retAddr 0, .retAddr 0], [.int (0 : Int32)], mk b S)) rfl rfl ?_
  exact mfor (L' := [.retAddr 0, .retAddr 0, .retAddr 0]) ⟨Or.inl rfl, Or.inl rfl, Or.inl rfl, trivial⟩ (bX11_isWithin_15 C hr hk hf true)
theorem bX11_isWithin_0 (C : mCx p (mR 1) s m args meth c G cX11_isWithin RX11 3 false 233 54500 233 54500) (hr : meth.sig.returnType = (some .boolean)) (hk : meth.locks = false) {b : Bool} {S' : mT} {r : Int32} {v0 : Int32} {v1 : Int32} {v2 : Int32} {S : mT} (hf : fX11_isWithin v0 v1 v2 S = some (r, S')) (ok : Bool) : mW p l e (mR 1) s m args below meth c G 3 233 54500 (mQ below G args s b S' (some (.int r))) (ok, 0, [.int v0, .int v1, .int v2], [], mk b S) := by
  unfold fX11_isWithin at hf
  refine msegT C kX11_isWithin 0 3 (g := (true, (if v0 < v1 then 14 else 5), [.int v0, .int v1, .int v2], [], mk b S)) rfl rfl ?_
  by_cases hc : v0 < v1
  · rw [if_pos hc] at hf ⊢
    exact mfor (L' := [.retAddr 0, .retAddr 0, .retAddr 0]) ⟨Or.inl rfl, Or.inl rfl, Or.inl rfl, trivial⟩ (bX11_isWithin_14 C hr hk hf true)
  · rw [if_neg hc] at hf ⊢
    refine msegT C kX11_isWithin 3 3 (g := (true, (if v2 < v0 then 14 else 10), [.int v0, .int v1, .int v2], [], mk b S)) rfl rfl ?_
    by_cases hc : v2 < v0
    · rw [if_pos hc] at hf ⊢
      exact mfor (L' := [.retAddr 0, .retAddr 0, .retAddr 0]) ⟨Or.inl rfl, Or.inl rfl, Or.inl rfl, trivial⟩ (bX11_isWithin_14 C hr hk hf true)
    · rw [if_neg hc] at hf ⊢
      refine msegT C kX11_isWithin 6 2 (g := (true, 15, [.int v0, .int v1, .int v2], [.int (1 : Int32)], mk b S)) rfl rfl ?_
      exact mfor (L' := [.retAddr 0, .retAddr 0, .retAddr 0]) ⟨Or.inl rfl, Or.inl rfl, Or.inl rfl, trivial⟩ (bX11_isWithin_15 C hr hk hf true)
theorem qX11_isWithin {b : Bool} {v0 : Int32} {v1 : Int32} {v2 : Int32} {S S' : mT} {r : Int32} (hf : fX11_isWithin v0 v1 v2 S = some (r, S')) : mOk l mX11_isWithin 1 [.int v0, .int v1, .int v2] b S (some (.int r)) S' :=
  gMet (by decide) (Nat.le_of_ble_eq_true rfl) rfl (Nat.le_of_ble_eq_true rfl) (fun p e s m args below meth c G C hr hk => bX11_isWithin_0 C hr hk hf true)
theorem bX2_openBox_0 (C : mCx p (mR 1) s m args meth c G cX2_openBox RX2 3 false 233 54500 233 54500) (hr : meth.sig.returnType = none) (hk : meth.locks = false) {b : Bool} {a2 : Nat} {S' : mT} {v1 : Int32} {S : mT} (hf : fX2_openBox a2 v1 S = some S') (ok : Bool) : mW p l e (mR 1) s m args below meth c G 3 233 54500 (mQ below G args s b S' none) (ok, 0, [.ref (37), .int v1, .ref a2], [], mk b S) := by
  unfold fX2_openBox at hf
  obtain ⟨hok, hf⟩ := grd_ex hf
  refine msegT C kX2_openBox 0 9 (g := ((kC (rowR 80 (mIx v1)) a2 (0 : Int32) (0 : Int32) (17 : Int32) && (kR 80 v1 && (kO 37 2 && true))), 14, [.ref (37), .int v1, .ref a2], [], mk b (sC S (rowR 80 (mIx v1)) a2 (0 : Int32) (0 : Int32) (17 : Int32)))) rfl hok ?_
  obtain ⟨S1, eS1, hf⟩ := bnd_ex hf
  rw [← eS1]
  cases hf
  exact gret_v C hr hk (kX2_openBox _ (List.mem_of_getElem? (i := 9) rfl)).1
theorem qX2_openBox {b : Bool} {a2 : Nat} {v1 : Int32} {S S' : mT} (hf : fX2_openBox a2 v1 S = some S') : mOk l mX2_openBox 1 [.ref (37), .int v1, .ref a2] b S none S' :=
  gMet (by decide) (Nat.le_of_ble_eq_true rfl) rfl (Nat.le_of_ble_eq_true rfl) (fun p e s m args below meth c G C hr hk => bX2_openBox_0 C hr hk hf true)
theorem bX2_copyFrom_0 (C : mCx p (mR 1) s m args meth c G cX2_copyFrom RX2 2 false 233 54500 233 54500) (hr : meth.sig.returnType = none) (hk : meth.locks = false) {b : Bool} {a1 : Nat} {S' : mT} {S : mT} (hf : fX2_copyFrom a1 S = some S') (ok : Bool) : mW p l e (mR 1) s m args below meth c G 2 233 54500 (mQ below G args s b S' none) (ok, 0, [.ref (37), .ref a1], [], mk b S) := by
  unfold fX2_copyFrom at hf
  obtain ⟨hok, hf⟩ := grd_ex hf
  refine msegT C kX2_copyFrom 0 10 (g := ((kO 37 2 && (kO 37 2 && (kO 37 2 && true))), 17, [.ref (37), .ref a1], [.int (41 : Int32), .int ((S.1 37 3) + (S.1 37 4)), .ref 38, .int (0 : Int32), .ref a1], mk b S)) rfl hok ?_
  obtain ⟨hok, hf⟩ := grd_ex hf
  refine msegT C kX2_copyFrom 10 5 (g := ((kC a1 (rowR 38 (mIx (((S.1 37 3) + (S.1 37 4)) - ((S.1 37 3) + (S.1 37 4)) / (41 : Int32) * (41 : Int32)))) (0 : Int32) (0 : Int32) (17 : Int32) && (kR 38 (((S.1 37 3) + (S.1 37 4)) - ((S.1 37 3) + (S.1 37 4)) / (41 : Int32) * (41 : Int32)) && (decide (¬ (41 : Int32) = 0) && true))), 25, [.ref (37), .ref a1], [], mk b (sC S a1 (rowR 38 (mIx (((S.1 37 3) + (S.1 37 4)) - ((S.1 37 3) + (S.1 37 4)) / (41 : Int32) * (41 : Int32)))) (0 : Int32) (0 : Int32) (17 : Int32)))) rfl hok ?_
  obtain ⟨S1, eS1, hf⟩ := bnd_ex hf
  rw [← eS1]
  cases hf
  exact gret_v C hr hk (kX2_copyFrom _ (List.mem_of_getElem? (i := 15) rfl)).1
theorem qX2_copyFrom {b : Bool} {a1 : Nat} {S S' : mT} (hf : fX2_copyFrom a1 S = some S') : mOk l mX2_copyFrom 1 [.ref (37), .ref a1] b S none S' :=
  gMet (by decide) (Nat.le_of_ble_eq_true rfl) rfl (Nat.le_of_ble_eq_true rfl) (fun p e s m args below meth c G C hr hk => bX2_copyFrom_0 C hr hk hf true)
theorem bX2_startFrom_0 (C : mCx p (mR 2) s m args meth c G cX2_startFrom RX2 2 false 233 54500 233 54500) (hr : meth.sig.returnType = none) (hk : meth.locks = false) {b : Bool} {a1 : Nat} {S' : mT} {S : mT} (hf : fX2_startFrom a1 S = some S') (ok : Bool) : mW p l e (mR 2) s m args below meth c G 2 233 54500 (mQ below G args s b S' none) (ok, 0, [.ref (37), .ref a1], [], mk b S) := by
  unfold fX2_startFrom at hf
  obtain ⟨hok, hf⟩ := grd_ex hf
  refine msegT C kX2_startFrom 0 3 (g := ((kO 37 2 && true), 5, [.ref (37), .ref a1], [], mk b (sI S 37 3 (0 : Int32)))) rfl hok ?_
  obtain ⟨S1, eS1, hf⟩ := bnd_ex hf
  rw [← eS1]
  obtain ⟨hok, hf⟩ := grd_ex hf
  refine msegT C kX2_startFrom 3 3 (g := ((kO 37 2 && true), 10, [.ref (37), .ref a1], [], mk b (sI S1 37 4 (0 : Int32)))) rfl hok ?_
  obtain ⟨S2, eS2, hf⟩ := bnd_ex hf
  rw [← eS2]
  obtain ⟨hok, hf⟩ := grd_ex hf
  refine msegT C kX2_startFrom 6 3 (g := ((kO 37 2 && true), 15, [.ref (37), .ref a1], [], mk b (sI S2 37 5 (0 : Int32)))) rfl hok ?_
  obtain ⟨S3, eS3, hf⟩ := bnd_ex hf
  rw [← eS3]
  refine msegT C kX2_startFrom 9 2 (g := (true, 17, [.ref (37), .ref a1], [.ref a1, .ref (37)], mk b S3)) rfl rfl ?_
  obtain ⟨S4, hq, hf⟩ := bndV_ex hf
  refine mcall (kd := 0) (vs := [.ref (37), .ref a1]) (rest := []) (r := none) (h' := mk b S4) (ok' := true) C lkRX2_33 (qX2_copyFrom hq) (kX2_startFrom _ (List.mem_of_getElem? (i := 11) rfl)).1 ⟨_, _, rfl, rfl, Nat.le_of_ble_eq_true rfl, _, _, rfl, rfl, rfl⟩ (Nat.le_of_ble_eq_true rfl) (Nat.le_of_ble_eq_true rfl) (Nat.le_refl _) (Nat.le_refl _) (Nat.le_of_ble_eq_true rfl) ?_
  cases hf
  exact gret_v C hr hk (kX2_startFrom _ (List.mem_of_getElem? (i := 12) rfl)).1
theorem qX2_startFrom {b : Bool} {a1 : Nat} {S S' : mT} (hf : fX2_startFrom a1 S = some S') : mOk l mX2_startFrom 2 [.ref (37), .ref a1] b S none S' :=
  gMet (by decide) (Nat.le_of_ble_eq_true rfl) rfl (Nat.le_of_ble_eq_true rfl) (fun p e s m args below meth c G C hr hk => bX2_startFrom_0 C hr hk hf true)
theorem bX11_back_21 (C : mCx p (mR 3) s m args meth c G cX11_back RX11 2 false 233 54500 233 54500) (hr : meth.sig.returnType = (some .int)) (hk : meth.locks = false) {b : Bool} {S' : mT} {r : Int32} {S : mT} (hf : fX11_back_21 S = some (r, S')) (ok : Bool) : mW p l e (mR 3) s m args below meth c G 2 233 54500 (mQ below G args s b S' (some (.int r))) (ok, 21, [.retAddr 0, .retAddr 0], [], mk b S) := by
  unfold fX11_back_21 at hf
  refine msegT C kX11_back 11 1 (g := (true, 22, [.retAddr 0, .retAddr 0], [.int (-1 : Int32)], mk b S)) rfl rfl ?_
  cases hf
  exact gret_i C hr hk (kX11_back _ (List.mem_of_getElem? (i := 12) rfl)).1
theorem bX11_back_0 (C : mCx p (mR 3) s m args meth c G cX11_back RX11 2 false 233 54500 233 54500) (hr : meth.sig.returnType = (some .int)) (hk : meth.locks = false) {b : Bool} {S' : mT} {r : Int32} {v1 : Int32} {S : mT} (hf : fX11_back v1 S = some (r, S')) (ok : Bool) : mW p l e (mR 3) s m args below meth c G 2 233 54500 (mQ below G args s b S' (some (.int r))) (ok, 0, [.ref (0), .int v1], [], mk b S) := by
  unfold fX11_back at hf
  refine msegT C kX11_back 0 3 (g := (true, 3, [.ref (0), .int v1], [.int (2 : Int32), .int (0 : Int32), .int v1], mk b S)) rfl rfl ?_
  obtain ⟨x2, S1, hq, hf⟩ := bndC_ex hf
  refine mcall (kd := 1) (vs := [.int v1, .int (0 : Int32), .int (2 : Int32)]) (rest := []) (r := (some (.int x2))) (h' := mk b S1) (ok' := true) C lkRX11_169 (qX11_isWithin hq) (kX11_back _ (List.mem_of_getElem? (i := 3) rfl)).1 rfl (Nat.le_of_ble_eq_true rfl) (Nat.le_of_ble_eq_true rfl) (Nat.le_refl _) (Nat.le_refl _) (Nat.le_of_ble_eq_true rfl) ?_
  refine msegT C kX11_back 4 1 (g := (true, (if x2 = 0 then 21 else 9), [.ref (0), .int v1], [], mk b S1)) rfl rfl ?_
  by_cases hc : x2 = 0
  · rw [if_pos hc] at hf ⊢
    exact mfor (L' := [.retAddr 0, .retAddr 0]) ⟨Or.inl rfl, Or.inl rfl, trivial⟩ (bX11_back_21 C hr hk hf true)
  · rw [if_neg hc] at hf ⊢
    obtain ⟨hok, hf⟩ := grd_ex hf
    refine msegT C kX11_back 5 6 (g := ((kB 84 v1 && (kO 37 2 && (kO 0 11 && true))), (if (S1.1 84 (mIx v1)) = 0 then 21 else 23), [.ref (0), .int v1], [], mk b S1)) rfl hok ?_
    by_cases hc : (S1.1 84 (mIx v1)) = 0
    · rw [if_pos hc] at hf ⊢
      exact mfor (L' := [.retAddr 0, .retAddr 0]) ⟨Or.inl rfl, Or.inl rfl, trivial⟩ (bX11_back_21 C hr hk hf true)
    · rw [if_neg hc] at hf ⊢
      obtain ⟨hok, hf⟩ := grd_ex hf
      refine msegT C kX11_back 13 5 (g := ((kO 0 11 && (kO 0 11 && true)), 32, [.ref (0), .int v1], [.ref 35, .int v1, .ref 37], mk b S1)) rfl hok ?_
      obtain ⟨S3, hq, hf⟩ := bndV_ex hf
      refine mcall (kd := 0) (vs := [.ref 37, .int v1, .ref 35]) (rest := []) (r := none) (h' := mk b S3) (ok' := true) C lkRX11_303 (qX2_openBox hq) (kX11_back _ (List.mem_of_getElem? (i := 18) rfl)).1 ⟨_, _, rfl, rfl, Nat.le_of_ble_eq_true rfl, _, _, rfl, rfl, rfl⟩ (Nat.le_of_ble_eq_true rfl) (Nat.le_of_ble_eq_true rfl) (Nat.le_refl _) (Nat.le_refl _) (Nat.le_of_ble_eq_true rfl) ?_
      obtain ⟨hok, hf⟩ := grd_ex hf
      refine msegT C kX11_back 19 4 (g := ((kO 0 11 && (kO 0 11 && true)), 43, [.ref (0), .int v1], [.ref 35, .ref 37], mk b S3)) rfl hok ?_
      obtain ⟨S4, hq, hf⟩ := bndV_ex hf
      refine mcall (kd := 0) (vs := [.ref 37, .ref 35]) (rest := []) (r := none) (h' := mk b S4) (ok' := true) C lkRX11_101 (qX2_startFrom hq) (kX11_back _ (List.mem_of_getElem? (i := 23) rfl)).1 ⟨_, _, rfl, rfl, Nat.le_of_ble_eq_true rfl, _, _, rfl, rfl, rfl⟩ (Nat.le_of_ble_eq_true rfl) (Nat.le_of_ble_eq_true rfl) (Nat.le_refl _) (Nat.le_refl _) (Nat.le_of_ble_eq_true rfl) ?_
      obtain ⟨hok, hf⟩ := grd_ex hf
      refine msegT C kX11_back 24 4 (g := ((kI 35 (15 : Int32) && (kO 0 11 && true)), 53, [.ref (0), .int v1], [.int (S4.1 35 (mIx (15 : Int32)))], mk b S4)) rfl hok ?_
      cases hf
      exact gret_i C hr hk (kX11_back _ (List.mem_of_getElem? (i := 28) rfl)).1
theorem qX11_back {b : Bool} {v1 : Int32} {S S' : mT} {r : Int32} (hf : fX11_back v1 S = some (r, S')) : mOk l mX11_back 3 [.ref (0), .int v1] b S (some (.int r)) S' :=
  gMet (by decide) (Nat.le_of_ble_eq_true rfl) rfl (Nat.le_of_ble_eq_true rfl) (fun p e s m args below meth c G C hr hk => bX11_back_0 C hr hk hf true)
theorem bX11_limited_0 (C : mCx p (mR 1) s m args meth c G cX11_limited RX11 3 false 233 54500 233 54500) (hr : meth.sig.returnType = (some .int)) (hk : meth.locks = false) {b : Bool} {S' : mT} {r : Int32} {v0 : Int32} {v1 : Int32} {v2 : Int32} {S : mT} (hf : fX11_limited v0 v1 v2 S = some (r, S')) (ok : Bool) : mW p l e (mR 1) s m args below meth c G 3 233 54500 (mQ below G args s b S' (some (.int r))) (ok, 0, [.int v0, .int v1, .int v2], [], mk b S) := by
  unfold fX11_limited at hf
  refine msegT C kX11_limited 0 3 (g := (true, 3, [.int v0, .int v1, .int v2], [.int v0, .int v2, .int v1], mk b S)) rfl rfl ?_
  obtain ⟨x1, ex1, hf⟩ := bnd_ex hf
  refine so_min (ok' := true) C (kX11_limited _ (List.mem_of_getElem? (i := 3) rfl)).1 lmRX11_315 (Nat.le_of_ble_eq_true rfl) (Nat.le_refl _) (Nat.le_refl _) ?_
  rw [← ex1]
  obtain ⟨x2, ex2, hf⟩ := bnd_ex hf
  refine so_max (ok' := true) C (kX11_limited _ (List.mem_of_getElem? (i := 4) rfl)).1 lmRX11_320 (Nat.le_of_ble_eq_true rfl) (Nat.le_refl _) (Nat.le_refl _) ?_
  rw [← ex2]
  cases hf
  exact gret_i C hr hk (kX11_limited _ (List.mem_of_getElem? (i := 5) rfl)).1
theorem qX11_limited {b : Bool} {v0 : Int32} {v1 : Int32} {v2 : Int32} {S S' : mT} {r : Int32} (hf : fX11_limited v0 v1 v2 S = some (r, S')) : mOk l mX11_limited 1 [.int v0, .int v1, .int v2] b S (some (.int r)) S' :=
  gMet (by decide) (Nat.le_of_ble_eq_true rfl) rfl (Nat.le_of_ble_eq_true rfl) (fun p e s m args below meth c G C hr hk => bX11_limited_0 C hr hk hf true)
theorem bX8_setValues_0_3 (C : mCx p (mR 1) s m args meth c G cX8_setValues RX8 7 false 233 54500 233 54500) (hr : meth.sig.returnType = none) (hk : meth.locks = false) {b : Bool} {S' : mT} {v1 : Int32} {v2 : Int32} {v3 : Int32} {v4 : Int32} {v5 : Int32} {v6 : Int32} {S : mT} (hf : fX8_setValues 3 v1 v2 v3 v4 v5 v6 S = some S') (ok : Bool) : mW p l e (mR 1) s m args below meth c G 7 233 54500 (mQ below G args s b S' none) (ok, 0, [.ref (3), .int v1, .int v2, .int v3, .int v4, .int v5, .int v6], [], mk b S) := by
  unfold fX8_setValues at hf
  obtain ⟨hok, hf⟩ := grd_ex hf
  refine msegT C kX8_setValues 0 5 (g := ((kI (3 + 15) (0 : Int32) && (kO 3 8 && true)), 7, [.ref (3), .int v1, .int v2, .int v3, .int v4, .int v5, .int v6], [], mk b (sI S (3 + 15) (mIx (0 : Int32)) v1))) rfl hok ?_
  obtain ⟨S1, eS1, hf⟩ := bnd_ex hf
  rw [← eS1]
  obtain ⟨hok, hf⟩ := grd_ex hf
  refine msegT C kX8_setValues 5 5 (g := ((kI (3 + 15) (1 : Int32) && (kO 3 8 && true)), 14, [.ref (3), .int v1, .int v2, .int v3, .int v4, .int v5, .int v6], [], mk b (sI S1 (3 + 15) (mIx (1 : Int32)) v2))) rfl hok ?_
  obtain ⟨S2, eS2, hf⟩ := bnd_ex hf
  rw [← eS2]
  obtain ⟨hok, hf⟩ := grd_ex hf
  refine msegT C kX8_setValues 10 5 (g := ((kI (3 + 15) (2 : Int32) && (kO 3 8 && true)), 21, [.ref (3), .int v1, .int v2, .int v3, .int v4, .int v5, .int v6], [], mk b (sI S2 (3 + 15) (mIx (2 : Int32)) v3))) rfl hok ?_
  obtain ⟨S3, eS3, hf⟩ := bnd_ex hf
  rw [← eS3]
  obtain ⟨hok, hf⟩ := grd_ex hf
  refine msegT C kX8_setValues 15 5 (g := ((kI (3 + 15) (3 : Int32) && (kO 3 8 && true)), 29, [.ref (3), .int v1, .int v2, .int v3, .int v4, .int v5, .int v6], [], mk b (sI S3 (3 + 15) (mIx (3 : Int32)) v4))) rfl hok ?_
  obtain ⟨S4, eS4, hf⟩ := bnd_ex hf
  rw [← eS4]
  obtain ⟨hok, hf⟩ := grd_ex hf
  refine msegT C kX8_setValues 20 5 (g := ((kI (3 + 15) (4 : Int32) && (kO 3 8 && true)), 37, [.ref (3), .int v1, .int v2, .int v3, .int v4, .int v5, .int v6], [], mk b (sI S4 (3 + 15) (mIx (4 : Int32)) v5))) rfl hok ?_
  obtain ⟨S5, eS5, hf⟩ := bnd_ex hf
  rw [← eS5]
  obtain ⟨hok, hf⟩ := grd_ex hf
  refine msegT C kX8_setValues 25 5 (g := ((kI (3 + 15) (5 : Int32) && (kO 3 8 && true)), 45, [.ref (3), .int v1, .int v2, .int v3, .int v4, .int v5, .int v6], [], mk b (sI S5 (3 + 15) (mIx (5 : Int32)) v6))) rfl hok ?_
  obtain ⟨S6, eS6, hf⟩ := bnd_ex hf
  rw [← eS6]
  cases hf
  exact gret_v C hr hk (kX8_setValues _ (List.mem_of_getElem? (i := 30) rfl)).1
theorem qX8_setValues_3 {b : Bool} {v1 : Int32} {v2 : Int32} {v3 : Int32} {v4 : Int32} {v5 : Int32} {v6 : Int32} {S S' : mT} (hf : fX8_setValues 3 v1 v2 v3 v4 v5 v6 S = some S') : mOk l mX8_setValues 1 [.ref (3), .int v1, .int v2, .int v3, .int v4, .int v5, .int v6] b S none S' :=
  gMet (by decide) (Nat.le_of_ble_eq_true rfl) rfl (Nat.le_of_ble_eq_true rfl) (fun p e s m args below meth c G C hr hk => bX8_setValues_0_3 C hr hk hf true)
theorem bX8_setValues_0_19 (C : mCx p (mR 1) s m args meth c G cX8_setValues RX8 7 false 233 54500 233 54500) (hr : meth.sig.returnType = none) (hk : meth.locks = false) {b : Bool} {S' : mT} {v1 : Int32} {v2 : Int32} {v3 : Int32} {v4 : Int32} {v5 : Int32} {v6 : Int32} {S : mT} (hf : fX8_setValues 19 v1 v2 v3 v4 v5 v6 S = some S') (ok : Bool) : mW p l e (mR 1) s m args below meth c G 7 233 54500 (mQ below G args s b S' none) (ok, 0, [.ref (19), .int v1, .int v2, .int v3, .int v4, .int v5, .int v6], [], mk b S) := by
  unfold fX8_setValues at hf
  obtain ⟨hok, hf⟩ := grd_ex hf
  refine msegT C kX8_setValues 0 5 (g := ((kI (19 + 15) (0 : Int32) && (kO 19 8 && true)), 7, [.ref (19), .int v1, .int v2, .int v3, .int v4, .int v5, .int v6], [], mk b (sI S (19 + 15) (mIx (0 : Int32)) v1))) rfl hok ?_
  obtain ⟨S1, eS1, hf⟩ := bnd_ex hf
  rw [← eS1]
  obtain ⟨hok, hf⟩ := grd_ex hf
  refine msegT C kX8_setValues 5 5 (g := ((kI (19 + 15) (1 : Int32) && (kO 19 8 && true)), 14, [.ref (19), .int v1, .int v2, .int v3, .int v4, .int v5, .int v6], [], mk b (sI S1 (19 + 15) (mIx (1 : Int32)) v2))) rfl hok ?_
  obtain ⟨S2, eS2, hf⟩ := bnd_ex hf
  rw [← eS2]
  obtain ⟨hok, hf⟩ := grd_ex hf
  refine msegT C kX8_setValues 10 5 (g := ((kI (19 + 15) (2 : Int32) && (kO 19 8 && true)), 21, [.ref (19), .int v1, .int v2, .int v3, .int v4, .int v5, .int v6], [], mk b (sI S2 (19 + 15) (mIx (2 : Int32)) v3))) rfl hok ?_
  obtain ⟨S3, eS3, hf⟩ := bnd_ex hf
  rw [← eS3]
  obtain ⟨hok, hf⟩ := grd_ex hf
  refine msegT C kX8_setValues 15 5 (g := ((kI (19 + 15) (3 : Int32) && (kO 19 8 && true)), 29, [.ref (19), .int v1, .int v2, .int v3, .int v4, .int v5, .int v6], [], mk b (sI S3 (19 + 15) (mIx (3 : Int32)) v4))) rfl hok ?_
  obtain ⟨S4, eS4, hf⟩ := bnd_ex hf
  rw [← eS4]
  obtain ⟨hok, hf⟩ := grd_ex hf
  refine msegT C kX8_setValues 20 5 (g := ((kI (19 + 15) (4 : Int32) && (kO 19 8 && true)), 37, [.ref (19), .int v1, .int v2, .int v3, .int v4, .int v5, .int v6], [], mk b (sI S4 (19 + 15) (mIx (4 : Int32)) v5))) rfl hok ?_
  obtain ⟨S5, eS5, hf⟩ := bnd_ex hf
  rw [← eS5]
  obtain ⟨hok, hf⟩ := grd_ex hf
  refine msegT C kX8_setValues 25 5 (g := ((kI (19 + 15) (5 : Int32) && (kO 19 8 && true)), 45, [.ref (19), .int v1, .int v2, .int v3, .int v4, .int v5, .int v6], [], mk b (sI S5 (19 + 15) (mIx (5 : Int32)) v6))) rfl hok ?_
  obtain ⟨S6, eS6, hf⟩ := bnd_ex hf
  rw [← eS6]
  cases hf
  exact gret_v C hr hk (kX8_setValues _ (List.mem_of_getElem? (i := 30) rfl)).1
theorem qX8_setValues_19 {b : Bool} {v1 : Int32} {v2 : Int32} {v3 : Int32} {v4 : Int32} {v5 : Int32} {v6 : Int32} {S S' : mT} (hf : fX8_setValues 19 v1 v2 v3 v4 v5 v6 S = some S') : mOk l mX8_setValues 1 [.ref (19), .int v1, .int v2, .int v3, .int v4, .int v5, .int v6] b S none S' :=
  gMet (by decide) (Nat.le_of_ble_eq_true rfl) rfl (Nat.le_of_ble_eq_true rfl) (fun p e s m args below meth c G C hr hk => bX8_setValues_0_19 C hr hk hf true)
theorem bX8_growHouse_0_3 (C : mCx p (mR 3) s m args meth c G cX8_growHouse RX8 5 false 233 54500 233 54500) (hr : meth.sig.returnType = none) (hk : meth.locks = false) {b : Bool} {a1 : Nat} {S' : mT} {v2 : Int32} {S : mT} (hf : fX8_growHouse 3 a1 v2 S = some S') (ok : Bool) : mW p l e (mR 3) s m args below meth c G 5 233 54500 (mQ below G args s b S' none) (ok, 0, [.ref (3), .ref a1, .int v2, .retAddr 0, .retAddr 0], [], mk b S) := by
  unfold fX8_growHouse at hf
  obtain ⟨hok, hf⟩ := grd_ex hf
  refine msegT C kX8_growHouse 0 6 (g := ((kI a1 ((0 : Int32) + v2) && true), 6, [.ref (3), .ref a1, .int v2, .int (S.1 a1 (mIx ((0 : Int32) + v2))), .retAddr 0], [], mk b S)) rfl hok ?_
  obtain ⟨x1, ex1, hf⟩ := bnd_ex hf
  rw [← ex1]
  obtain ⟨hok, hf⟩ := grd_ex hf
  refine msegT C kX8_growHouse 6 10 (g := ((kO 3 8 && (kI a1 ((5 : Int32) + v2) && true)), 18, [.ref (3), .ref a1, .int v2, .int x1, .retAddr 0], [.int v2, .ref (3 + 4), .int (S.1 a1 (mIx ((5 : Int32) + v2))), .int x1, .ref (3)], mk b S)) rfl hok ?_
  obtain ⟨hok, hf⟩ := grd_ex hf
  refine msegT C kX8_growHouse 16 10 (g := ((kI a1 ((10 : Int32) + v2) && (kI (3 + 5) v2 && (kO 3 8 && (kI (3 + 4) v2 && true)))), 31, [.ref (3), .ref a1, .int v2, .int x1, .retAddr 0], [.int (S.1 a1 (mIx ((10 : Int32) + v2))), .int (S.1 (3 + 5) (mIx v2)), .int (S.1 (3 + 4) (mIx v2)), .int (S.1 a1 (mIx ((5 : Int32) + v2))), .int x1, .ref (3)], mk b S)) rfl hok ?_
  obtain ⟨hok, hf⟩ := grd_ex hf
  refine msegT C kX8_growHouse 26 3 (g := ((kI a1 (15 : Int32) && true), 35, [.ref (3), .ref a1, .int v2, .int x1, .retAddr 0], [.int (S.1 a1 (mIx (15 : Int32))), .int (S.1 a1 (mIx ((10 : Int32) + v2))), .int (S.1 (3 + 5) (mIx v2)), .int (S.1 (3 + 4) (mIx v2)), .int (S.1 a1 (mIx ((5 : Int32) + v2))), .int x1, .ref (3)], mk b S)) rfl hok ?_
  obtain ⟨S2, hq, hf⟩ := bndV_ex hf
  refine mcall (kd := 0) (vs := [.ref (3), .int x1, .int (S.1 a1 (mIx ((5 : Int32) + v2))), .int (S.1 (3 + 4) (mIx v2)), .int (S.1 (3 + 5) (mIx v2)), .int (S.1 a1 (mIx ((10 : Int32) + v2))), .int (S.1 a1 (mIx (15 : Int32)))]) (rest := []) (r := none) (h' := mk b S2) (ok' := true) C lkRX8_84 (qX8_setValues_3 hq) (kX8_growHouse _ (List.mem_of_getElem? (i := 29) rfl)).1 ⟨_, _, rfl, rfl, Nat.le_of_ble_eq_true rfl, _, _, rfl, rfl, rfl⟩ (Nat.le_of_ble_eq_true rfl) (Nat.le_of_ble_eq_true rfl) (Nat.le_refl _) (Nat.le_refl _) (Nat.le_of_ble_eq_true rfl) ?_
  obtain ⟨hok, hf⟩ := grd_ex hf
  refine msegT C kX8_growHouse 30 4 (g := ((kO 3 8 && (kO 3 8 && true)), 46, [.ref (3), .ref a1, .int v2, .int x1, .retAddr 0], [.ref (3 + 15), .ref (3 + 12)], mk b S2)) rfl hok ?_
  obtain ⟨x4, S3, hq, hf⟩ := bndC_ex hf
  refine mcall (kd := 0) (vs := [.ref (3 + 12), .ref (3 + 15)]) (rest := []) (r := (some (.int x4))) (h' := mk b S3) (ok' := true) C lkRX8_88 (qX0_work_15 hq) (kX8_growHouse _ (List.mem_of_getElem? (i := 34) rfl)).1 ⟨_, _, rfl, rfl, Nat.le_of_ble_eq_true rfl, _, _, rfl, rfl, rfl⟩ (Nat.le_of_ble_eq_true rfl) (Nat.le_of_ble_eq_true rfl) (Nat.le_refl _) (Nat.le_refl _) (Nat.le_of_ble_eq_true rfl) ?_
  refine msegT C kX8_growHouse 35 2 (g := (true, 52, [.ref (3), .ref a1, .int v2, .int x1, .retAddr 0], [.int (3 : Int32), .int (-3 : Int32), .int x4], mk b S3)) rfl rfl ?_
  obtain ⟨x6, S5, hq, hf⟩ := bndC_ex hf
  refine mcall (kd := 2) (vs := [.int x4, .int (-3 : Int32), .int (3 : Int32)]) (rest := []) (r := (some (.int x6))) (h' := mk b S5) (ok' := true) C lkRX8_80 (qX11_limited hq) (kX8_growHouse _ (List.mem_of_getElem? (i := 37) rfl)).1 rfl (Nat.le_of_ble_eq_true rfl) (Nat.le_of_ble_eq_true rfl) (Nat.le_refl _) (Nat.le_refl _) (Nat.le_of_ble_eq_true rfl) ?_
  refine msegT C kX8_growHouse 38 10 (g := (true, 68, [.ref (3), .ref a1, .int v2, .int x1, .int x6], [.int (7 : Int32), .int (0 : Int32), .int (x1 + x6), .int ((0 : Int32) + v2), .ref a1], mk b S5)) rfl rfl ?_
  obtain ⟨x8, S7, hq, hf⟩ := bndC_ex hf
  refine mcall (kd := 2) (vs := [.int (x1 + x6), .int (0 : Int32), .int (7 : Int32)]) (rest := [.int ((0 : Int32) + v2), .ref a1]) (r := (some (.int x8))) (h' := mk b S7) (ok' := true) C lkRX8_80 (qX11_limited hq) (kX8_growHouse _ (List.mem_of_getElem? (i := 48) rfl)).1 rfl (Nat.le_of_ble_eq_true rfl) (Nat.le_of_ble_eq_true rfl) (Nat.le_refl _) (Nat.le_refl _) (Nat.le_of_ble_eq_true rfl) ?_
  obtain ⟨hok, hf⟩ := grd_ex hf
  refine msegT C kX8_growHouse 49 1 (g := ((kI a1 ((0 : Int32) + v2) && true), 72, [.ref (3), .ref a1, .int v2, .int x1, .int x6], [], mk b (sI S7 a1 (mIx ((0 : Int32) + v2)) x8))) rfl hok ?_
  obtain ⟨S9, eS9, hf⟩ := bnd_ex hf
  rw [← eS9]
  obtain ⟨hok, hf⟩ := grd_ex hf
  refine msegT C kX8_growHouse 50 10 (g := ((kI a1 ((5 : Int32) + v2) && true), 82, [.ref (3), .ref a1, .int v2, .int x1, .int x6], [.ref a1, .int (S9.1 a1 (mIx ((5 : Int32) + v2))), .int ((5 : Int32) + v2), .ref a1], mk b S9)) rfl hok ?_
  obtain ⟨hok, hf⟩ := grd_ex hf
  refine msegT C kX8_growHouse 60 4 (g := ((kI a1 ((0 : Int32) + v2) && true), 86, [.ref (3), .ref a1, .int v2, .int x1, .int x6], [.int (S9.1 a1 (mIx ((0 : Int32) + v2))), .int (S9.1 a1 (mIx ((5 : Int32) + v2))), .int ((5 : Int32) + v2), .ref a1], mk b S9)) rfl hok ?_
  obtain ⟨x10, ex10, hf⟩ := bnd_ex hf
  refine so_min (ok' := true) C (kX8_growHouse _ (List.mem_of_getElem? (i := 64) rfl)).1 lmRX8_103 (Nat.le_of_ble_eq_true rfl) (Nat.le_refl _) (Nat.le_refl _) ?_
  rw [← ex10]
  obtain ⟨hok, hf⟩ := grd_ex hf
  refine msegT C kX8_growHouse 65 1 (g := ((kI a1 ((5 : Int32) + v2) && true), 90, [.ref (3), .ref a1, .int v2, .int x1, .int x6], [], mk b (sI S9 a1 (mIx ((5 : Int32) + v2)) x10))) rfl hok ?_
  obtain ⟨S11, eS11, hf⟩ := bnd_ex hf
  rw [← eS11]
  cases hf
  exact gret_v C hr hk (kX8_growHouse _ (List.mem_of_getElem? (i := 66) rfl)).1
theorem qX8_growHouse_3 {b : Bool} {a1 : Nat} {v2 : Int32} {S S' : mT} (hf : fX8_growHouse 3 a1 v2 S = some S') : mOk l mX8_growHouse 3 [.ref (3), .ref a1, .int v2] b S none S' :=
  gMet (by decide) (Nat.le_of_ble_eq_true rfl) rfl (Nat.le_of_ble_eq_true rfl) (fun p e s m args below meth c G C hr hk => bX8_growHouse_0_3 C hr hk hf true)
theorem bX8_growHouse_0_19 (C : mCx p (mR 3) s m args meth c G cX8_growHouse RX8 5 false 233 54500 233 54500) (hr : meth.sig.returnType = none) (hk : meth.locks = false) {b : Bool} {a1 : Nat} {S' : mT} {v2 : Int32} {S : mT} (hf : fX8_growHouse 19 a1 v2 S = some S') (ok : Bool) : mW p l e (mR 3) s m args below meth c G 5 233 54500 (mQ below G args s b S' none) (ok, 0, [.ref (19), .ref a1, .int v2, .retAddr 0, .retAddr 0], [], mk b S) := by
  unfold fX8_growHouse at hf
  obtain ⟨hok, hf⟩ := grd_ex hf
  refine msegT C kX8_growHouse 0 6 (g := ((kI a1 ((0 : Int32) + v2) && true), 6, [.ref (19), .ref a1, .int v2, .int (S.1 a1 (mIx ((0 : Int32) + v2))), .retAddr 0], [], mk b S)) rfl hok ?_
  obtain ⟨x1, ex1, hf⟩ := bnd_ex hf
  rw [← ex1]
  obtain ⟨hok, hf⟩ := grd_ex hf
  refine msegT C kX8_growHouse 6 10 (g := ((kO 19 8 && (kI a1 ((5 : Int32) + v2) && true)), 18, [.ref (19), .ref a1, .int v2, .int x1, .retAddr 0], [.int v2, .ref (19 + 4), .int (S.1 a1 (mIx ((5 : Int32) + v2))), .int x1, .ref (19)], mk b S)) rfl hok ?_
  obtain ⟨hok, hf⟩ := grd_ex hf
  refine msegT C kX8_growHouse 16 10 (g := ((kI a1 ((10 : Int32) + v2) && (kI (19 + 5) v2 && (kO 19 8 && (kI (19 + 4) v2 && true)))), 31, [.ref (19), .ref a1, .int v2, .int x1, .retAddr 0], [.int (S.1 a1 (mIx ((10 : Int32) + v2))), .int (S.1 (19 + 5) (mIx v2)), .int (S.1 (19 + 4) (mIx v2)), .int (S.1 a1 (mIx ((5 : Int32) + v2))), .int x1, .ref (19)], mk b S)) rfl hok ?_
  obtain ⟨hok, hf⟩ := grd_ex hf
  refine msegT C kX8_growHouse 26 3 (g := ((kI a1 (15 : Int32) && true), 35, [.ref (19), .ref a1, .int v2, .int x1, .retAddr 0], [.int (S.1 a1 (mIx (15 : Int32))), .int (S.1 a1 (mIx ((10 : Int32) + v2))), .int (S.1 (19 + 5) (mIx v2)), .int (S.1 (19 + 4) (mIx v2)), .int (S.1 a1 (mIx ((5 : Int32) + v2))), .int x1, .ref (19)], mk b S)) rfl hok ?_
  obtain ⟨S2, hq, hf⟩ := bndV_ex hf
  refine mcall (kd := 0) (vs := [.ref (19), .int x1, .int (S.1 a1 (mIx ((5 : Int32) + v2))), .int (S.1 (19 + 4) (mIx v2)), .int (S.1 (19 + 5) (mIx v2)), .int (S.1 a1 (mIx ((10 : Int32) + v2))), .int (S.1 a1 (mIx (15 : Int32)))]) (rest := []) (r := none) (h' := mk b S2) (ok' := true) C lkRX8_84 (qX8_setValues_19 hq) (kX8_growHouse _ (List.mem_of_getElem? (i := 29) rfl)).1 ⟨_, _, rfl, rfl, Nat.le_of_ble_eq_true rfl, _, _, rfl, rfl, rfl⟩ (Nat.le_of_ble_eq_true rfl) (Nat.le_of_ble_eq_true rfl) (Nat.le_refl _) (Nat.le_refl _) (Nat.le_of_ble_eq_true rfl) ?_
  obtain ⟨hok, hf⟩ := grd_ex hf
  refine msegT C kX8_growHouse 30 4 (g := ((kO 19 8 && (kO 19 8 && true)), 46, [.ref (19), .ref a1, .int v2, .int x1, .retAddr 0], [.ref (19 + 15), .ref (19 + 12)], mk b S2)) rfl hok ?_
  obtain ⟨x4, S3, hq, hf⟩ := bndC_ex hf
  refine mcall (kd := 0) (vs := [.ref (19 + 12), .ref (19 + 15)]) (rest := []) (r := (some (.int x4))) (h' := mk b S3) (ok' := true) C lkRX8_88 (qX0_work_31 hq) (kX8_growHouse _ (List.mem_of_getElem? (i := 34) rfl)).1 ⟨_, _, rfl, rfl, Nat.le_of_ble_eq_true rfl, _, _, rfl, rfl, rfl⟩ (Nat.le_of_ble_eq_true rfl) (Nat.le_of_ble_eq_true rfl) (Nat.le_refl _) (Nat.le_refl _) (Nat.le_of_ble_eq_true rfl) ?_
  refine msegT C kX8_growHouse 35 2 (g := (true, 52, [.ref (19), .ref a1, .int v2, .int x1, .retAddr 0], [.int (3 : Int32), .int (-3 : Int32), .int x4], mk b S3)) rfl rfl ?_
  obtain ⟨x6, S5, hq, hf⟩ := bndC_ex hf
  refine mcall (kd := 2) (vs := [.int x4, .int (-3 : Int32), .int (3 : Int32)]) (rest := []) (r := (some (.int x6))) (h' := mk b S5) (ok' := true) C lkRX8_80 (qX11_limited hq) (kX8_growHouse _ (List.mem_of_getElem? (i := 37) rfl)).1 rfl (Nat.le_of_ble_eq_true rfl) (Nat.le_of_ble_eq_true rfl) (Nat.le_refl _) (Nat.le_refl _) (Nat.le_of_ble_eq_true rfl) ?_
  refine msegT C kX8_growHouse 38 10 (g := (true, 68, [.ref (19), .ref a1, .int v2, .int x1, .int x6], [.int (7 : Int32), .int (0 : Int32), .int (x1 + x6), .int ((0 : Int32) + v2), .ref a1], mk b S5)) rfl rfl ?_
  obtain ⟨x8, S7, hq, hf⟩ := bndC_ex hf
  refine mcall (kd := 2) (vs := [.int (x1 + x6), .int (0 : Int32), .int (7 : Int32)]) (rest := [.int ((0 : Int32) + v2), .ref a1]) (r := (some (.int x8))) (h' := mk b S7) (ok' := true) C lkRX8_80 (qX11_limited hq) (kX8_growHouse _ (List.mem_of_getElem? (i := 48) rfl)).1 rfl (Nat.le_of_ble_eq_true rfl) (Nat.le_of_ble_eq_true rfl) (Nat.le_refl _) (Nat.le_refl _) (Nat.le_of_ble_eq_true rfl) ?_
  obtain ⟨hok, hf⟩ := grd_ex hf
  refine msegT C kX8_growHouse 49 1 (g := ((kI a1 ((0 : Int32) + v2) && true), 72, [.ref (19), .ref a1, .int v2, .int x1, .int x6], [], mk b (sI S7 a1 (mIx ((0 : Int32) + v2)) x8))) rfl hok ?_
  obtain ⟨S9, eS9, hf⟩ := bnd_ex hf
  rw [← eS9]
  obtain ⟨hok, hf⟩ := grd_ex hf
  refine msegT C kX8_growHouse 50 10 (g := ((kI a1 ((5 : Int32) + v2) && true), 82, [.ref (19), .ref a1, .int v2, .int x1, .int x6], [.ref a1, .int (S9.1 a1 (mIx ((5 : Int32) + v2))), .int ((5 : Int32) + v2), .ref a1], mk b S9)) rfl hok ?_
  obtain ⟨hok, hf⟩ := grd_ex hf
  refine msegT C kX8_growHouse 60 4 (g := ((kI a1 ((0 : Int32) + v2) && true), 86, [.ref (19), .ref a1, .int v2, .int x1, .int x6], [.int (S9.1 a1 (mIx ((0 : Int32) + v2))), .int (S9.1 a1 (mIx ((5 : Int32) + v2))), .int ((5 : Int32) + v2), .ref a1], mk b S9)) rfl hok ?_
  obtain ⟨x10, ex10, hf⟩ := bnd_ex hf
  refine so_min (ok' := true) C (kX8_growHouse _ (List.mem_of_getElem? (i := 64) rfl)).1 lmRX8_103 (Nat.le_of_ble_eq_true rfl) (Nat.le_refl _) (Nat.le_refl _) ?_
  rw [← ex10]
  obtain ⟨hok, hf⟩ := grd_ex hf
  refine msegT C kX8_growHouse 65 1 (g := ((kI a1 ((5 : Int32) + v2) && true), 90, [.ref (19), .ref a1, .int v2, .int x1, .int x6], [], mk b (sI S9 a1 (mIx ((5 : Int32) + v2)) x10))) rfl hok ?_
  obtain ⟨S11, eS11, hf⟩ := bnd_ex hf
  rw [← eS11]
  cases hf
  exact gret_v C hr hk (kX8_growHouse _ (List.mem_of_getElem? (i := 66) rfl)).1
theorem qX8_growHouse_19 {b : Bool} {a1 : Nat} {v2 : Int32} {S S' : mT} (hf : fX8_growHouse 19 a1 v2 S = some S') : mOk l mX8_growHouse 3 [.ref (19), .ref a1, .int v2] b S none S' :=
  gMet (by decide) (Nat.le_of_ble_eq_true rfl) rfl (Nat.le_of_ble_eq_true rfl) (fun p e s m args below meth c G C hr hk => bX8_growHouse_0_19 C hr hk hf true)
theorem bX8_sendMagpie_41_3 (C : mCx p (mR 1) s m args meth c G cX8_sendMagpie RX8 3 false 233 54500 233 54500) (hr : meth.sig.returnType = none) (hk : meth.locks = false) {b : Bool} {a1 : Nat} {S' : mT} {S : mT} (hf : fX8_sendMagpie_41 3 a1 S = some S') (ok : Bool) : mW p l e (mR 1) s m args below meth c G 3 233 54500 (mQ below G args s b S' none) (ok, 41, [.retAddr 0, .retAddr 0, .retAddr 0], [], mk b S) := by
  unfold fX8_sendMagpie_41 at hf
  cases hf
  exact gret_v C hr hk (kX8_sendMagpie _ (List.mem_of_getElem? (i := 29) rfl)).1
theorem bX8_sendMagpie_0_3 (C : mCx p (mR 1) s m args meth c G cX8_sendMagpie RX8 3 false 233 54500 233 54500) (hr : meth.sig.returnType = none) (hk : meth.locks = false) {b : Bool} {a1 : Nat} {S' : mT} {S : mT} (hf : fX8_sendMagpie 3 a1 S = some S') (ok : Bool) : mW p l e (mR 1) s m args below meth c G 3 233 54500 (mQ below G args s b S' none) (ok, 0, [.ref (3), .ref a1, .retAddr 0], [], mk b S) := by
  unfold fX8_sendMagpie at hf
  obtain ⟨hok, hf⟩ := grd_ex hf
  refine msegT C kX8_sendMagpie 0 3 (g := ((kO 3 8 && true), (if (S.1 3 9) ≤ 0 then 41 else 7), [.ref (3), .ref a1, .retAddr 0], [], mk b S)) rfl hok ?_
  by_cases hc : (S.1 3 9) ≤ 0
  · rw [if_pos hc] at hf ⊢
    exact mfor (L' := [.retAddr 0, .retAddr 0, .retAddr 0]) ⟨Or.inl rfl, Or.inl rfl, Or.inl rfl, trivial⟩ (bX8_sendMagpie_41_3 C hr hk hf true)
  · rw [if_neg hc] at hf ⊢
    obtain ⟨hok, hf⟩ := grd_ex hf
    refine msegT C kX8_sendMagpie 3 9 (g := ((decide (¬ (S.1 3 9) = 0) && (kO 3 8 && (kI a1 (16 : Int32) && true))), 20, [.ref (3), .ref a1, .int ((10 : Int32) + ((S.1 a1 (mIx (16 : Int32))) - (S.1 a1 (mIx (16 : Int32))) / (S.1 3 9) * (S.1 3 9)))], [], mk b S)) rfl hok ?_
    obtain ⟨x1, ex1, hf⟩ := bnd_ex hf
    rw [← ex1]
    obtain ⟨hok, hf⟩ := grd_ex hf
    refine msegT C kX8_sendMagpie 12 10 (g := ((kI a1 (16 : Int32) && (kI a1 x1 && (kI a1 x1 && true))), 31, [.ref (3), .ref a1, .int x1], [.int (S.1 a1 (mIx (16 : Int32))), .int (S.1 a1 (mIx x1)), .int (S.1 a1 (mIx x1)), .int x1, .ref a1], mk b S)) rfl hok ?_
    obtain ⟨hok, hf⟩ := grd_ex hf
    refine msegT C kX8_sendMagpie 22 4 (g := ((decide (¬ (3 : Int32) = 0) && (decide (¬ (100 : Int32) = 0) && true)), 36, [.ref (3), .ref a1, .int x1], [.int (((S.1 a1 (mIx (16 : Int32))) / (100 : Int32)) - ((S.1 a1 (mIx (16 : Int32))) / (100 : Int32)) / (3 : Int32) * (3 : Int32)), .int (S.1 a1 (mIx x1)), .int (S.1 a1 (mIx x1)), .int x1, .ref a1], mk b S)) rfl hok ?_
    obtain ⟨x2, ex2, hf⟩ := bnd_ex hf
    refine so_min (ok' := true) C (kX8_sendMagpie _ (List.mem_of_getElem? (i := 26) rfl)).1 lmRX8_103 (Nat.le_of_ble_eq_true rfl) (Nat.le_refl _) (Nat.le_refl _) ?_
    rw [← ex2]
    obtain ⟨hok, hf⟩ := grd_ex hf
    refine msegT C kX8_sendMagpie 27 2 (g := ((kI a1 x1 && true), 41, [.ref (3), .ref a1, .int x1], [], mk b (sI S a1 (mIx x1) ((S.1 a1 (mIx x1)) - x2)))) rfl hok ?_
    obtain ⟨S3, eS3, hf⟩ := bnd_ex hf
    rw [← eS3]
    exact mfor (L' := [.retAddr 0, .retAddr 0, .retAddr 0]) ⟨Or.inl rfl, Or.inl rfl, Or.inl rfl, trivial⟩ (bX8_sendMagpie_41_3 C hr hk hf true)
theorem qX8_sendMagpie_3 {b : Bool} {a1 : Nat} {S S' : mT} (hf : fX8_sendMagpie 3 a1 S = some S') : mOk l mX8_sendMagpie 1 [.ref (3), .ref a1] b S none S' :=
  gMet (by decide) (Nat.le_of_ble_eq_true rfl) rfl (Nat.le_of_ble_eq_true rfl) (fun p e s m args below meth c G C hr hk => bX8_sendMagpie_0_3 C hr hk hf true)
theorem bX8_sendMagpie_41_19 (C : mCx p (mR 1) s m args meth c G cX8_sendMagpie RX8 3 false 233 54500 233 54500) (hr : meth.sig.returnType = none) (hk : meth.locks = false) {b : Bool} {a1 : Nat} {S' : mT} {S : mT} (hf : fX8_sendMagpie_41 19 a1 S = some S') (ok : Bool) : mW p l e (mR 1) s m args below meth c G 3 233 54500 (mQ below G args s b S' none) (ok, 41, [.retAddr 0, .retAddr 0, .retAddr 0], [], mk b S) := by
  unfold fX8_sendMagpie_41 at hf
  cases hf
  exact gret_v C hr hk (kX8_sendMagpie _ (List.mem_of_getElem? (i := 29) rfl)).1
theorem bX8_sendMagpie_0_19 (C : mCx p (mR 1) s m args meth c G cX8_sendMagpie RX8 3 false 233 54500 233 54500) (hr : meth.sig.returnType = none) (hk : meth.locks = false) {b : Bool} {a1 : Nat} {S' : mT} {S : mT} (hf : fX8_sendMagpie 19 a1 S = some S') (ok : Bool) : mW p l e (mR 1) s m args below meth c G 3 233 54500 (mQ below G args s b S' none) (ok, 0, [.ref (19), .ref a1, .retAddr 0], [], mk b S) := by
  unfold fX8_sendMagpie at hf
  obtain ⟨hok, hf⟩ := grd_ex hf
  refine msegT C kX8_sendMagpie 0 3 (g := ((kO 19 8 && true), (if (S.1 19 9) ≤ 0 then 41 else 7), [.ref (19), .ref a1, .retAddr 0], [], mk b S)) rfl hok ?_
  by_cases hc : (S.1 19 9) ≤ 0
  · rw [if_pos hc] at hf ⊢
    exact mfor (L' := [.retAddr 0, .retAddr 0, .retAddr 0]) ⟨Or.inl rfl, Or.inl rfl, Or.inl rfl, trivial⟩ (bX8_sendMagpie_41_19 C hr hk hf true)
  · rw [if_neg hc] at hf ⊢
    obtain ⟨hok, hf⟩ := grd_ex hf
    refine msegT C kX8_sendMagpie 3 9 (g := ((decide (¬ (S.1 19 9) = 0) && (kO 19 8 && (kI a1 (16 : Int32) && true))), 20, [.ref (19), .ref a1, .int ((10 : Int32) + ((S.1 a1 (mIx (16 : Int32))) - (S.1 a1 (mIx (16 : Int32))) / (S.1 19 9) * (S.1 19 9)))], [], mk b S)) rfl hok ?_
    obtain ⟨x1, ex1, hf⟩ := bnd_ex hf
    rw [← ex1]
    obtain ⟨hok, hf⟩ := grd_ex hf
    refine msegT C kX8_sendMagpie 12 10 (g := ((kI a1 (16 : Int32) && (kI a1 x1 && (kI a1 x1 && true))), 31, [.ref (19), .ref a1, .int x1], [.int (S.1 a1 (mIx (16 : Int32))), .int (S.1 a1 (mIx x1)), .int (S.1 a1 (mIx x1)), .int x1, .ref a1], mk b S)) rfl hok ?_
    obtain ⟨hok, hf⟩ := grd_ex hf
    refine msegT C kX8_sendMagpie 22 4 (g := ((decide (¬ (3 : Int32) = 0) && (decide (¬ (100 : Int32) = 0) && true)), 36, [.ref (19), .ref a1, .int x1], [.int (((S.1 a1 (mIx (16 : Int32))) / (100 : Int32)) - ((S.1 a1 (mIx (16 : Int32))) / (100 : Int32)) / (3 : Int32) * (3 : Int32)), .int (S.1 a1 (mIx x1)), .int (S.1 a1 (mIx x1)), .int x1, .ref a1], mk b S)) rfl hok ?_
    obtain ⟨x2, ex2, hf⟩ := bnd_ex hf
    refine so_min (ok' := true) C (kX8_sendMagpie _ (List.mem_of_getElem? (i := 26) rfl)).1 lmRX8_103 (Nat.le_of_ble_eq_true rfl) (Nat.le_refl _) (Nat.le_refl _) ?_
    rw [← ex2]
    obtain ⟨hok, hf⟩ := grd_ex hf
    refine msegT C kX8_sendMagpie 27 2 (g := ((kI a1 x1 && true), 41, [.ref (19), .ref a1, .int x1], [], mk b (sI S a1 (mIx x1) ((S.1 a1 (mIx x1)) - x2)))) rfl hok ?_
    obtain ⟨S3, eS3, hf⟩ := bnd_ex hf
    rw [← eS3]
    exact mfor (L' := [.retAddr 0, .retAddr 0, .retAddr 0]) ⟨Or.inl rfl, Or.inl rfl, Or.inl rfl, trivial⟩ (bX8_sendMagpie_41_19 C hr hk hf true)
theorem qX8_sendMagpie_19 {b : Bool} {a1 : Nat} {S S' : mT} (hf : fX8_sendMagpie 19 a1 S = some S') : mOk l mX8_sendMagpie 1 [.ref (19), .ref a1] b S none S' :=
  gMet (by decide) (Nat.le_of_ble_eq_true rfl) rfl (Nat.le_of_ble_eq_true rfl) (fun p e s m args below meth c G C hr hk => bX8_sendMagpie_0_19 C hr hk hf true)
theorem bX8_stonesHiding_0_3 (C : mCx p (mR 3) s m args meth c G cX8_stonesHiding RX8 5 false 233 54500 233 54500) (hr : meth.sig.returnType = (some .int)) (hk : meth.locks = false) {b : Bool} {a1 : Nat} {S' : mT} {r : Int32} {v2 : Int32} {v3 : Int32} {S : mT} (hf : fX8_stonesHiding 3 a1 v2 v3 S = some (r, S')) (ok : Bool) : mW p l e (mR 3) s m args below meth c G 5 233 54500 (mQ below G args s b S' (some (.int r))) (ok, 0, [.ref (3), .ref a1, .int v2, .int v3, .retAddr 0], [], mk b S) := by
  unfold fX8_stonesHiding at hf
  obtain ⟨hok, hf⟩ := grd_ex hf
  refine msegT C kX8_stonesHiding 0 6 (g := ((kI a1 ((0 : Int32) + v2) && true), 7, [.ref (3), .ref a1, .int v2, .int v3, .int (S.1 a1 (mIx ((0 : Int32) + v2)))], [], mk b S)) rfl hok ?_
  obtain ⟨x1, ex1, hf⟩ := bnd_ex hf
  rw [← ex1]
  obtain ⟨hok, hf⟩ := grd_ex hf
  refine msegT C kX8_stonesHiding 6 4 (g := ((kO (3 + 6) 0 && (kO 3 8 && true)), (if (S.1 (3 + 6) 4) = 0 then 17 else 35), [.ref (3), .ref a1, .int v2, .int v3, .int x1], [], mk b S)) rfl hok ?_
  by_cases hc : (S.1 (3 + 6) 4) = 0
  · rw [if_pos hc] at hf ⊢
    obtain ⟨hok, hf⟩ := grd_ex hf
    refine msegT C kX8_stonesHiding 10 10 (g := ((kI (3 + 5) v2 && (kO 3 8 && true)), 31, [.ref (3), .ref a1, .int v2, .int v3, .int x1], [.int (99 : Int32), .int (0 : Int32), .int ((x1 - v3) + (S.1 (3 + 5) (mIx v2)))], mk b S)) rfl hok ?_
    obtain ⟨x3, S2, hq, hf⟩ := bndC_ex hf
    refine mcall (kd := 2) (vs := [.int ((x1 - v3) + (S.1 (3 + 5) (mIx v2))), .int (0 : Int32), .int (99 : Int32)]) (rest := []) (r := (some (.int x3))) (h' := mk b S2) (ok' := true) C lkRX8_80 (qX11_limited hq) (kX8_stonesHiding _ (List.mem_of_getElem? (i := 20) rfl)).1 rfl (Nat.le_of_ble_eq_true rfl) (Nat.le_of_ble_eq_true rfl) (Nat.le_refl _) (Nat.le_refl _) (Nat.le_of_ble_eq_true rfl) ?_
    cases hf
    exact gret_i C hr hk (kX8_stonesHiding _ (List.mem_of_getElem? (i := 21) rfl)).1
  · rw [if_neg hc] at hf ⊢
    obtain ⟨hok, hf⟩ := grd_ex hf
    refine msegT C kX8_stonesHiding 22 10 (g := ((kO 3 8 && (kI (3 + 4) v2 && (kO 3 8 && true))), 50, [.ref (3), .ref a1, .int v2, .int v3, .int x1], [.int v2, .ref (3 + 5), .int (S.1 (3 + 4) (mIx v2)), .int v3, .int x1, .ref (3)], mk b S)) rfl hok ?_
    obtain ⟨hok, hf⟩ := grd_ex hf
    refine msegT C kX8_stonesHiding 32 5 (g := ((kI a1 (15 : Int32) && (kI (3 + 5) v2 && true)), 56, [.ref (3), .ref a1, .int v2, .int v3, .int x1], [.int (S.1 a1 (mIx (15 : Int32))), .int (0 : Int32), .int (S.1 (3 + 5) (mIx v2)), .int (S.1 (3 + 4) (mIx v2)), .int v3, .int x1, .ref (3)], mk b S)) rfl hok ?_
    obtain ⟨S4, hq, hf⟩ := bndV_ex hf
    refine mcall (kd := 0) (vs := [.ref (3), .int x1, .int v3, .int (S.1 (3 + 4) (mIx v2)), .int (S.1 (3 + 5) (mIx v2)), .int (0 : Int32), .int (S.1 a1 (mIx (15 : Int32)))]) (rest := []) (r := none) (h' := mk b S4) (ok' := true) C lkRX8_84 (qX8_setValues_3 hq) (kX8_stonesHiding _ (List.mem_of_getElem? (i := 37) rfl)).1 ⟨_, _, rfl, rfl, Nat.le_of_ble_eq_true rfl, _, _, rfl, rfl, rfl⟩ (Nat.le_of_ble_eq_true rfl) (Nat.le_of_ble_eq_true rfl) (Nat.le_refl _) (Nat.le_refl _) (Nat.le_of_ble_eq_true rfl) ?_
    obtain ⟨hok, hf⟩ := grd_ex hf
    refine msegT C kX8_stonesHiding 38 4 (g := ((kO 3 8 && (kO 3 8 && true)), 67, [.ref (3), .ref a1, .int v2, .int v3, .int x1], [.ref (3 + 15), .ref (3 + 6)], mk b S4)) rfl hok ?_
    obtain ⟨x6, S5, hq, hf⟩ := bndC_ex hf
    refine mcall (kd := 0) (vs := [.ref (3 + 6), .ref (3 + 15)]) (rest := []) (r := (some (.int x6))) (h' := mk b S5) (ok' := true) C lkRX8_88 (qX0_work_9 hq) (kX8_stonesHiding _ (List.mem_of_getElem? (i := 42) rfl)).1 ⟨_, _, rfl, rfl, Nat.le_of_ble_eq_true rfl, _, _, rfl, rfl, rfl⟩ (Nat.le_of_ble_eq_true rfl) (Nat.le_of_ble_eq_true rfl) (Nat.le_refl _) (Nat.le_refl _) (Nat.le_of_ble_eq_true rfl) ?_
    refine msegT C kX8_stonesHiding 43 2 (g := (true, 73, [.ref (3), .ref a1, .int v2, .int v3, .int x1], [.int (99 : Int32), .int (0 : Int32), .int x6], mk b S5)) rfl rfl ?_
    obtain ⟨x8, S7, hq, hf⟩ := bndC_ex hf
    refine mcall (kd := 2) (vs := [.int x6, .int (0 : Int32), .int (99 : Int32)]) (rest := []) (r := (some (.int x8))) (h' := mk b S7) (ok' := true) C lkRX8_80 (qX11_limited hq) (kX8_stonesHiding _ (List.mem_of_getElem? (i := 45) rfl)).1 rfl (Nat.le_of_ble_eq_true rfl) (Nat.le_of_ble_eq_true rfl) (Nat.le_refl _) (Nat.le_refl _) (Nat.le_of_ble_eq_true rfl) ?_
    cases hf
    exact gret_i C hr hk (kX8_stonesHiding _ (List.mem_of_getElem? (i := 46) rfl)).1
theorem qX8_stonesHiding_3 {b : Bool} {a1 : Nat} {v2 : Int32} {v3 : Int32} {S S' : mT} {r : Int32} (hf : fX8_stonesHiding 3 a1 v2 v3 S = some (r, S')) : mOk l mX8_stonesHiding 3 [.ref (3), .ref a1, .int v2, .int v3] b S (some (.int r)) S' :=
  gMet (by decide) (Nat.le_of_ble_eq_true rfl) rfl (Nat.le_of_ble_eq_true rfl) (fun p e s m args below meth c G C hr hk => bX8_stonesHiding_0_3 C hr hk hf true)
theorem bX8_stonesHiding_0_19 (C : mCx p (mR 3) s m args meth c G cX8_stonesHiding RX8 5 false 233 54500 233 54500) (hr : meth.sig.returnType = (some .int)) (hk : meth.locks = false) {b : Bool} {a1 : Nat} {S' : mT} {r : Int32} {v2 : Int32} {v3 : Int32} {S : mT} (hf : fX8_stonesHiding 19 a1 v2 v3 S = some (r, S')) (ok : Bool) : mW p l e (mR 3) s m args below meth c G 5 233 54500 (mQ below G args s b S' (some (.int r))) (ok, 0, [.ref (19), .ref a1, .int v2, .int v3, .retAddr 0], [], mk b S) := by
  unfold fX8_stonesHiding at hf
  obtain ⟨hok, hf⟩ := grd_ex hf
  refine msegT C kX8_stonesHiding 0 6 (g := ((kI a1 ((0 : Int32) + v2) && true), 7, [.ref (19), .ref a1, .int v2, .int v3, .int (S.1 a1 (mIx ((0 : Int32) + v2)))], [], mk b S)) rfl hok ?_
  obtain ⟨x1, ex1, hf⟩ := bnd_ex hf
  rw [← ex1]
  obtain ⟨hok, hf⟩ := grd_ex hf
  refine msegT C kX8_stonesHiding 6 4 (g := ((kO (19 + 6) 0 && (kO 19 8 && true)), (if (S.1 (19 + 6) 4) = 0 then 17 else 35), [.ref (19), .ref a1, .int v2, .int v3, .int x1], [], mk b S)) rfl hok ?_
  by_cases hc : (S.1 (19 + 6) 4) = 0
  · rw [if_pos hc] at hf ⊢
    obtain ⟨hok, hf⟩ := grd_ex hf
    refine msegT C kX8_stonesHiding 10 10 (g := ((kI (19 + 5) v2 && (kO 19 8 && true)), 31, [.ref (19), .ref a1, .int v2, .int v3, .int x1], [.int (99 : Int32), .int (0 : Int32), .int ((x1 - v3) + (S.1 (19 + 5) (mIx v2)))], mk b S)) rfl hok ?_
    obtain ⟨x3, S2, hq, hf⟩ := bndC_ex hf
    refine mcall (kd := 2) (vs := [.int ((x1 - v3) + (S.1 (19 + 5) (mIx v2))), .int (0 : Int32), .int (99 : Int32)]) (rest := []) (r := (some (.int x3))) (h' := mk b S2) (ok' := true) C lkRX8_80 (qX11_limited hq) (kX8_stonesHiding _ (List.mem_of_getElem? (i := 20) rfl)).1 rfl (Nat.le_of_ble_eq_true rfl) (Nat.le_of_ble_eq_true rfl) (Nat.le_refl _) (Nat.le_refl _) (Nat.le_of_ble_eq_true rfl) ?_
    cases hf
    exact gret_i C hr hk (kX8_stonesHiding _ (List.mem_of_getElem? (i := 21) rfl)).1
  · rw [if_neg hc] at hf ⊢
    obtain ⟨hok, hf⟩ := grd_ex hf
    refine msegT C kX8_stonesHiding 22 10 (g := ((kO 19 8 && (kI (19 + 4) v2 && (kO 19 8 && true))), 50, [.ref (19), .ref a1, .int v2, .int v3, .int x1], [.int v2, .ref (19 + 5), .int (S.1 (19 + 4) (mIx v2)), .int v3, .int x1, .ref (19)], mk b S)) rfl hok ?_
    obtain ⟨hok, hf⟩ := grd_ex hf
    refine msegT C kX8_stonesHiding 32 5 (g := ((kI a1 (15 : Int32) && (kI (19 + 5) v2 && true)), 56, [.ref (19), .ref a1, .int v2, .int v3, .int x1], [.int (S.1 a1 (mIx (15 : Int32))), .int (0 : Int32), .int (S.1 (19 + 5) (mIx v2)), .int (S.1 (19 + 4) (mIx v2)), .int v3, .int x1, .ref (19)], mk b S)) rfl hok ?_
    obtain ⟨S4, hq, hf⟩ := bndV_ex hf
    refine mcall (kd := 0) (vs := [.ref (19), .int x1, .int v3, .int (S.1 (19 + 4) (mIx v2)), .int (S.1 (19 + 5) (mIx v2)), .int (0 : Int32), .int (S.1 a1 (mIx (15 : Int32)))]) (rest := []) (r := none) (h' := mk b S4) (ok' := true) C lkRX8_84 (qX8_setValues_19 hq) (kX8_stonesHiding _ (List.mem_of_getElem? (i := 37) rfl)).1 ⟨_, _, rfl, rfl, Nat.le_of_ble_eq_true rfl, _, _, rfl, rfl, rfl⟩ (Nat.le_of_ble_eq_true rfl) (Nat.le_of_ble_eq_true rfl) (Nat.le_refl _) (Nat.le_refl _) (Nat.le_of_ble_eq_true rfl) ?_
    obtain ⟨hok, hf⟩ := grd_ex hf
    refine msegT C kX8_stonesHiding 38 4 (g := ((kO 19 8 && (kO 19 8 && true)), 67, [.ref (19), .ref a1, .int v2, .int v3, .int x1], [.ref (19 + 15), .ref (19 + 6)], mk b S4)) rfl hok ?_
    obtain ⟨x6, S5, hq, hf⟩ := bndC_ex hf
    refine mcall (kd := 0) (vs := [.ref (19 + 6), .ref (19 + 15)]) (rest := []) (r := (some (.int x6))) (h' := mk b S5) (ok' := true) C lkRX8_88 (qX0_work_25 hq) (kX8_stonesHiding _ (List.mem_of_getElem? (i := 42) rfl)).1 ⟨_, _, rfl, rfl, Nat.le_of_ble_eq_true rfl, _, _, rfl, rfl, rfl⟩ (Nat.le_of_ble_eq_true rfl) (Nat.le_of_ble_eq_true rfl) (Nat.le_refl _) (Nat.le_refl _) (Nat.le_of_ble_eq_true rfl) ?_
    refine msegT C kX8_stonesHiding 43 2 (g := (true, 73, [.ref (19), .ref a1, .int v2, .int v3, .int x1], [.int (99 : Int32), .int (0 : Int32), .int x6], mk b S5)) rfl rfl ?_
    obtain ⟨x8, S7, hq, hf⟩ := bndC_ex hf
    refine mcall (kd := 2) (vs := [.int x6, .int (0 : Int32), .int (99 : Int32)]) (rest := []) (r := (some (.int x8))) (h' := mk b S7) (ok' := true) C lkRX8_80 (qX11_limited hq) (kX8_stonesHiding _ (List.mem_of_getElem? (i := 45) rfl)).1 rfl (Nat.le_of_ble_eq_true rfl) (Nat.le_of_ble_eq_true rfl) (Nat.le_refl _) (Nat.le_refl _) (Nat.le_of_ble_eq_true rfl) ?_
    cases hf
    exact gret_i C hr hk (kX8_stonesHiding _ (List.mem_of_getElem? (i := 46) rfl)).1
theorem qX8_stonesHiding_19 {b : Bool} {a1 : Nat} {v2 : Int32} {v3 : Int32} {S S' : mT} {r : Int32} (hf : fX8_stonesHiding 19 a1 v2 v3 S = some (r, S')) : mOk l mX8_stonesHiding 3 [.ref (19), .ref a1, .int v2, .int v3] b S (some (.int r)) S' :=
  gMet (by decide) (Nat.le_of_ble_eq_true rfl) rfl (Nat.le_of_ble_eq_true rfl) (fun p e s m args below meth c G C hr hk => bX8_stonesHiding_0_19 C hr hk hf true)
theorem bX8_stonesOf_0_3 (C : mCx p (mR 4) s m args meth c G cX8_stonesOf RX8 3 false 233 54500 233 54500) (hr : meth.sig.returnType = (some .int)) (hk : meth.locks = false) {b : Bool} {a1 : Nat} {S' : mT} {r : Int32} {v2 : Int32} {S : mT} (hf : fX8_stonesOf 3 a1 v2 S = some (r, S')) (ok : Bool) : mW p l e (mR 4) s m args below meth c G 3 233 54500 (mQ below G args s b S' (some (.int r))) (ok, 0, [.ref (3), .ref a1, .int v2], [], mk b S) := by
  unfold fX8_stonesOf at hf
  obtain ⟨hok, hf⟩ := grd_ex hf
  refine msegT C kX8_stonesOf 0 8 (g := ((kI a1 ((5 : Int32) + v2) && true), 8, [.ref (3), .ref a1, .int v2], [.int (S.1 a1 (mIx ((5 : Int32) + v2))), .int v2, .ref a1, .ref (3)], mk b S)) rfl hok ?_
  obtain ⟨x2, S1, hq, hf⟩ := bndC_ex hf
  refine mcall (kd := 0) (vs := [.ref (3), .ref a1, .int v2, .int (S.1 a1 (mIx ((5 : Int32) + v2)))]) (rest := []) (r := (some (.int x2))) (h' := mk b S1) (ok' := true) C lkRX8_73 (qX8_stonesHiding_3 hq) (kX8_stonesOf _ (List.mem_of_getElem? (i := 8) rfl)).1 ⟨_, _, rfl, rfl, Nat.le_of_ble_eq_true rfl, _, _, rfl, rfl, rfl⟩ (Nat.le_of_ble_eq_true rfl) (Nat.le_of_ble_eq_true rfl) (Nat.le_refl _) (Nat.le_refl _) (Nat.le_of_ble_eq_true rfl) ?_
  cases hf
  exact gret_i C hr hk (kX8_stonesOf _ (List.mem_of_getElem? (i := 9) rfl)).1
theorem qX8_stonesOf_3 {b : Bool} {a1 : Nat} {v2 : Int32} {S S' : mT} {r : Int32} (hf : fX8_stonesOf 3 a1 v2 S = some (r, S')) : mOk l mX8_stonesOf 4 [.ref (3), .ref a1, .int v2] b S (some (.int r)) S' :=
  gMet (by decide) (Nat.le_of_ble_eq_true rfl) rfl (Nat.le_of_ble_eq_true rfl) (fun p e s m args below meth c G C hr hk => bX8_stonesOf_0_3 C hr hk hf true)
theorem bX8_stonesOf_0_19 (C : mCx p (mR 4) s m args meth c G cX8_stonesOf RX8 3 false 233 54500 233 54500) (hr : meth.sig.returnType = (some .int)) (hk : meth.locks = false) {b : Bool} {a1 : Nat} {S' : mT} {r : Int32} {v2 : Int32} {S : mT} (hf : fX8_stonesOf 19 a1 v2 S = some (r, S')) (ok : Bool) : mW p l e (mR 4) s m args below meth c G 3 233 54500 (mQ below G args s b S' (some (.int r))) (ok, 0, [.ref (19), .ref a1, .int v2], [], mk b S) := by
  unfold fX8_stonesOf at hf
  obtain ⟨hok, hf⟩ := grd_ex hf
  refine msegT C kX8_stonesOf 0 8 (g := ((kI a1 ((5 : Int32) + v2) && true), 8, [.ref (19), .ref a1, .int v2], [.int (S.1 a1 (mIx ((5 : Int32) + v2))), .int v2, .ref a1, .ref (19)], mk b S)) rfl hok ?_
  obtain ⟨x2, S1, hq, hf⟩ := bndC_ex hf
  refine mcall (kd := 0) (vs := [.ref (19), .ref a1, .int v2, .int (S.1 a1 (mIx ((5 : Int32) + v2)))]) (rest := []) (r := (some (.int x2))) (h' := mk b S1) (ok' := true) C lkRX8_73 (qX8_stonesHiding_19 hq) (kX8_stonesOf _ (List.mem_of_getElem? (i := 8) rfl)).1 ⟨_, _, rfl, rfl, Nat.le_of_ble_eq_true rfl, _, _, rfl, rfl, rfl⟩ (Nat.le_of_ble_eq_true rfl) (Nat.le_of_ble_eq_true rfl) (Nat.le_refl _) (Nat.le_refl _) (Nat.le_of_ble_eq_true rfl) ?_
  cases hf
  exact gret_i C hr hk (kX8_stonesOf _ (List.mem_of_getElem? (i := 9) rfl)).1
theorem qX8_stonesOf_19 {b : Bool} {a1 : Nat} {v2 : Int32} {S S' : mT} {r : Int32} (hf : fX8_stonesOf 19 a1 v2 S = some (r, S')) : mOk l mX8_stonesOf 4 [.ref (19), .ref a1, .int v2] b S (some (.int r)) S' :=
  gMet (by decide) (Nat.le_of_ble_eq_true rfl) rfl (Nat.le_of_ble_eq_true rfl) (fun p e s m args below meth c G C hr hk => bX8_stonesOf_0_19 C hr hk hf true)
theorem bX8_passSummer_84_3 (C : mCx p (mR 5) s m args meth c G cX8_passSummer RX8 3 false 233 54500 233 54500) (hr : meth.sig.returnType = none) (hk : meth.locks = false) {b : Bool} {a1 : Nat} {S' : mT} {S : mT} (hf : fX8_passSummer_84 3 a1 S = some S') (ok : Bool) : mW p l e (mR 5) s m args below meth c G 3 233 54500 (mQ below G args s b S' none) (ok, 84, [.retAddr 0, .ref a1, .retAddr 0], [], mk b S) := by
  unfold fX8_passSummer_84 at hf
  obtain ⟨hok, hf⟩ := grd_ex hf
  refine msegT C kX8_passSummer 48 7 (g := ((kI a1 (15 : Int32) && (kI a1 (15 : Int32) && true)), 92, [.retAddr 0, .ref a1, .retAddr 0], [], mk b (sI S a1 (mIx (15 : Int32)) ((S.1 a1 (mIx (15 : Int32))) + (1 : Int32))))) rfl hok ?_
  obtain ⟨S7, eS7, hf⟩ := bnd_ex hf
  rw [← eS7]
  cases hf
  exact gret_v C hr hk (kX8_passSummer _ (List.mem_of_getElem? (i := 55) rfl)).1
theorem bX8_passSummer_64_3 (C : mCx p (mR 5) s m args meth c G cX8_passSummer RX8 3 false 233 54500 233 54500) (hr : meth.sig.returnType = none) (hk : meth.locks = false) {b : Bool} {a1 : Nat} {S' : mT} : ∀ (k : Nat) (v2 : Int32) (S : mT), fX8_passSummer_64 3 a1 k v2 S = some S' → ∀ ok : Bool, mW p l e (mR 5) s m args below meth c G 3 233 54500 (mQ below G args s b S' none) (ok, 64, [.ref (3), .ref a1, .int v2], [], mk b S) := by
  intro k
  induction k with
  | zero =>
    intro v2 S hf ok
    cases hf
  | succ k ih =>
    intro v2 S hf ok
    unfold fX8_passSummer_64 at hf
    obtain ⟨hok, hf⟩ := grd_ex hf
    refine msegT C kX8_passSummer 38 4 (g := ((kO 3 8 && true), (if (S.1 3 9) ≤ v2 then 84 else 72), [.ref (3), .ref a1, .int v2], [], mk b S)) rfl hok ?_
    by_cases hc : (S.1 3 9) ≤ v2
    · rw [if_pos hc] at hf ⊢
      exact mfor (L' := [.retAddr 0, .ref a1, .retAddr 0]) ⟨Or.inl rfl, Or.inr rfl, Or.inl rfl, trivial⟩ (bX8_passSummer_84_3 C hr hk hf true)
    · rw [if_neg hc] at hf ⊢
      refine msegT C kX8_passSummer 42 3 (g := (true, 75, [.ref (3), .ref a1, .int v2], [.int v2, .ref a1, .ref (3)], mk b S)) rfl rfl ?_
      obtain ⟨S8, hq, hf⟩ := bndV_ex hf
      refine mcall (kd := 0) (vs := [.ref (3), .ref a1, .int v2]) (rest := []) (r := none) (h' := mk b S8) (ok' := true) C lkRX8_100 (qX8_growHouse_3 hq) (kX8_passSummer _ (List.mem_of_getElem? (i := 45) rfl)).1 ⟨_, _, rfl, rfl, Nat.le_of_ble_eq_true rfl, _, _, rfl, rfl, rfl⟩ (Nat.le_of_ble_eq_true rfl) (Nat.le_of_ble_eq_true rfl) (Nat.le_refl _) (Nat.le_refl _) (Nat.le_of_ble_eq_true rfl) ?_
      refine msegT C kX8_passSummer 46 1 (g := (true, 81, [.ref (3), .ref a1, .int (v2 + (1 : Int32))], [], mk b S8)) rfl rfl ?_
      obtain ⟨x9, ex9, hf⟩ := bnd_ex hf
      rw [← ex9]
      refine msegT C kX8_passSummer 47 1 (g := (true, 64, [.ref (3), .ref a1, .int x9], [], mk b S8)) rfl rfl ?_
      exact mfor (L' := [.ref (3), .ref a1, .int x9]) ⟨Or.inr rfl, Or.inr rfl, Or.inr rfl, trivial⟩ (ih _ _ hf true)
theorem bX8_passSummer_2_3 (C : mCx p (mR 5) s m args meth c G cX8_passSummer RX8 3 false 233 54500 233 54500) (hr : meth.sig.returnType = none) (hk : meth.locks = false) {b : Bool} {a1 : Nat} {S' : mT} : ∀ (k : Nat) (v2 : Int32) (S : mT), fX8_passSummer_2 3 a1 k v2 S = some S' → ∀ ok : Bool, mW p l e (mR 5) s m args below meth c G 3 233 54500 (mQ below G args s b S' none) (ok, 2, [.ref (3), .ref a1, .int v2], [], mk b S) := by
  intro k
  induction k with
  | zero =>
    intro v2 S hf ok
    cases hf
  | succ k ih =>
    intro v2 S hf ok
    unfold fX8_passSummer_2 at hf
    obtain ⟨hok, hf⟩ := grd_ex hf
    refine msegT C kX8_passSummer 2 4 (g := ((kO 3 8 && true), (if (S.1 3 9) ≤ v2 then 28 else 10), [.ref (3), .ref a1, .int v2], [], mk b S)) rfl hok ?_
    by_cases hc : (S.1 3 9) ≤ v2
    · rw [if_pos hc] at hf ⊢
      obtain ⟨hok, hf⟩ := grd_ex hf
      refine msegT C kX8_passSummer 17 10 (g := ((kI a1 (16 : Int32) && true), 45, [.ref (3), .ref a1, .int v2], [.int (1000 : Int32), .int (((S.1 a1 (mIx (16 : Int32))) * (137 : Int32)) + (71 : Int32)), .int (16 : Int32), .ref a1], mk b S)) rfl hok ?_
      obtain ⟨hok, hf⟩ := grd_ex hf
      refine msegT C kX8_passSummer 27 2 (g := ((kI a1 (16 : Int32) && (decide (¬ (1000 : Int32) = 0) && true)), 47, [.ref (3), .ref a1, .int v2], [], mk b (sI S a1 (mIx (16 : Int32)) ((((S.1 a1 (mIx (16 : Int32))) * (137 : Int32)) + (71 : Int32)) - (((S.1 a1 (mIx (16 : Int32))) * (137 : Int32)) + (71 : Int32)) / (1000 : Int32) * (1000 : Int32))))) rfl hok ?_
      obtain ⟨S1, eS1, hf⟩ := bnd_ex hf
      rw [← eS1]
      refine msegT C kX8_passSummer 29 2 (g := (true, 49, [.ref (3), .ref a1, .int v2], [.ref a1, .ref (3)], mk b S1)) rfl rfl ?_
      obtain ⟨S2, hq, hf⟩ := bndV_ex hf
      refine mcall (kd := 0) (vs := [.ref (3), .ref a1]) (rest := []) (r := none) (h' := mk b S2) (ok' := true) C lkRX8_96 (qX8_sendMagpie_3 hq) (kX8_passSummer _ (List.mem_of_getElem? (i := 31) rfl)).1 ⟨_, _, rfl, rfl, Nat.le_of_ble_eq_true rfl, _, _, rfl, rfl, rfl⟩ (Nat.le_of_ble_eq_true rfl) (Nat.le_of_ble_eq_true rfl) (Nat.le_refl _) (Nat.le_refl _) (Nat.le_of_ble_eq_true rfl) ?_
      obtain ⟨hok, hf⟩ := grd_ex hf
      refine msegT C kX8_passSummer 32 4 (g := ((kO (3 + 12) 0 && (kO 3 8 && true)), (if (S2.1 (3 + 12) 4) = 0 then 84 else 62), [.ref (3), .ref a1, .int v2], [], mk b S2)) rfl hok ?_
      by_cases hc : (S2.1 (3 + 12) 4) = 0
      · rw [if_pos hc] at hf ⊢
        exact mfor (L' := [.retAddr 0, .ref a1, .retAddr 0]) ⟨Or.inl rfl, Or.inr rfl, Or.inl rfl, trivial⟩ (bX8_passSummer_84_3 C hr hk hf true)
      · rw [if_neg hc] at hf ⊢
        refine msegT C kX8_passSummer 36 2 (g := (true, 64, [.ref (3), .ref a1, .int (0 : Int32)], [], mk b S2)) rfl rfl ?_
        exact mfor (L' := [.ref (3), .ref a1, .int (0 : Int32)]) ⟨Or.inr rfl, Or.inr rfl, Or.inr rfl, trivial⟩ (bX8_passSummer_64_3 C hr hk _ _ _ hf true)
    · rw [if_neg hc] at hf ⊢
      refine msegT C kX8_passSummer 6 7 (g := (true, 18, [.ref (3), .ref a1, .int v2], [.int v2, .ref a1, .ref (3), .int ((10 : Int32) + v2), .ref a1], mk b S)) rfl rfl ?_
      obtain ⟨x4, S3, hq, hf⟩ := bndC_ex hf
      refine mcall (kd := 0) (vs := [.ref (3), .ref a1, .int v2]) (rest := [.int ((10 : Int32) + v2), .ref a1]) (r := (some (.int x4))) (h' := mk b S3) (ok' := true) C lkRX8_92 (qX8_stonesOf_3 hq) (kX8_passSummer _ (List.mem_of_getElem? (i := 13) rfl)).1 ⟨_, _, rfl, rfl, Nat.le_of_ble_eq_true rfl, _, _, rfl, rfl, rfl⟩ (Nat.le_of_ble_eq_true rfl) (Nat.le_of_ble_eq_true rfl) (Nat.le_refl _) (Nat.le_refl _) (Nat.le_of_ble_eq_true rfl) ?_
      obtain ⟨hok, hf⟩ := grd_ex hf
      refine msegT C kX8_passSummer 14 1 (g := ((kI a1 ((10 : Int32) + v2) && true), 22, [.ref (3), .ref a1, .int v2], [], mk b (sI S3 a1 (mIx ((10 : Int32) + v2)) x4))) rfl hok ?_
      obtain ⟨S5, eS5, hf⟩ := bnd_ex hf
      rw [← eS5]
      refine msegT C kX8_passSummer 15 1 (g := (true, 25, [.ref (3), .ref a1, .int (v2 + (1 : Int32))], [], mk b S5)) rfl rfl ?_
      obtain ⟨x6, ex6, hf⟩ := bnd_ex hf
      rw [← ex6]
      refine msegT C kX8_passSummer 16 1 (g := (true, 2, [.ref (3), .ref a1, .int x6], [], mk b S5)) rfl rfl ?_
      exact mfor (L' := [.ref (3), .ref a1, .int x6]) ⟨Or.inr rfl, Or.inr rfl, Or.inr rfl, trivial⟩ (ih _ _ hf true)
theorem bX8_passSummer_0_3 (C : mCx p (mR 5) s m args meth c G cX8_passSummer RX8 3 false 233 54500 233 54500) (hr : meth.sig.returnType = none) (hk : meth.locks = false) {b : Bool} {a1 : Nat} {S' : mT} {S : mT} (hf : fX8_passSummer 3 a1 S = some S') (ok : Bool) : mW p l e (mR 5) s m args below meth c G 3 233 54500 (mQ below G args s b S' none) (ok, 0, [.ref (3), .ref a1, .retAddr 0], [], mk b S) := by
  unfold fX8_passSummer at hf
  refine msegT C kX8_passSummer 0 2 (g := (true, 2, [.ref (3), .ref a1, .int (0 : Int32)], [], mk b S)) rfl rfl ?_
  exact mfor (L' := [.ref (3), .ref a1, .int (0 : Int32)]) ⟨Or.inr rfl, Or.inr rfl, Or.inr rfl, trivial⟩ (bX8_passSummer_2_3 C hr hk _ _ _ hf true)
theorem qX8_passSummer_3 {b : Bool} {a1 : Nat} {S S' : mT} (hf : fX8_passSummer 3 a1 S = some S') : mOk l mX8_passSummer 5 [.ref (3), .ref a1] b S none S' :=
  gMet (by decide) (Nat.le_of_ble_eq_true rfl) rfl (Nat.le_of_ble_eq_true rfl) (fun p e s m args below meth c G C hr hk => bX8_passSummer_0_3 C hr hk hf true)
theorem bX8_passSummer_84_19 (C : mCx p (mR 5) s m args meth c G cX8_passSummer RX8 3 false 233 54500 233 54500) (hr : meth.sig.returnType = none) (hk : meth.locks = false) {b : Bool} {a1 : Nat} {S' : mT} {S : mT} (hf : fX8_passSummer_84 19 a1 S = some S') (ok : Bool) : mW p l e (mR 5) s m args below meth c G 3 233 54500 (mQ below G args s b S' none) (ok, 84, [.retAddr 0, .ref a1, .retAddr 0], [], mk b S) := by
  unfold fX8_passSummer_84 at hf
  obtain ⟨hok, hf⟩ := grd_ex hf
  refine msegT C kX8_passSummer 48 7 (g := ((kI a1 (15 : Int32) && (kI a1 (15 : Int32) && true)), 92, [.retAddr 0, .ref a1, .retAddr 0], [], mk b (sI S a1 (mIx (15 : Int32)) ((S.1 a1 (mIx (15 : Int32))) + (1 : Int32))))) rfl hok ?_
  obtain ⟨S7, eS7, hf⟩ := bnd_ex hf
  rw [← eS7]
  cases hf
  exact gret_v C hr hk (kX8_passSummer _ (List.mem_of_getElem? (i := 55) rfl)).1
theorem bX8_passSummer_64_19 (C : mCx p (mR 5) s m args meth c G cX8_passSummer RX8 3 false 233 54500 233 54500) (hr : meth.sig.returnType = none) (hk : meth.locks = false) {b : Bool} {a1 : Nat} {S' : mT} : ∀ (k : Nat) (v2 : Int32) (S : mT), fX8_passSummer_64 19 a1 k v2 S = some S' → ∀ ok : Bool, mW p l e (mR 5) s m args below meth c G 3 233 54500 (mQ below G args s b S' none) (ok, 64, [.ref (19), .ref a1, .int v2], [], mk b S) := by
  intro k
  induction k with
  | zero =>
    intro v2 S hf ok
    cases hf
  | succ k ih =>
    intro v2 S hf ok
    unfold fX8_passSummer_64 at hf
    obtain ⟨hok, hf⟩ := grd_ex hf
    refine msegT C kX8_passSummer 38 4 (g := ((kO 19 8 && true), (if (S.1 19 9) ≤ v2 then 84 else 72), [.ref (19), .ref a1, .int v2], [], mk b S)) rfl hok ?_
    by_cases hc : (S.1 19 9) ≤ v2
    · rw [if_pos hc] at hf ⊢
      exact mfor (L' := [.retAddr 0, .ref a1, .retAddr 0]) ⟨Or.inl rfl, Or.inr rfl, Or.inl rfl, trivial⟩ (bX8_passSummer_84_19 C hr hk hf true)
    · rw [if_neg hc] at hf ⊢
      refine msegT C kX8_passSummer 42 3 (g := (true, 75, [.ref (19), .ref a1, .int v2], [.int v2, .ref a1, .ref (19)], mk b S)) rfl rfl ?_
      obtain ⟨S8, hq, hf⟩ := bndV_ex hf
      refine mcall (kd := 0) (vs := [.ref (19), .ref a1, .int v2]) (rest := []) (r := none) (h' := mk b S8) (ok' := true) C lkRX8_100 (qX8_growHouse_19 hq) (kX8_passSummer _ (List.mem_of_getElem? (i := 45) rfl)).1 ⟨_, _, rfl, rfl, Nat.le_of_ble_eq_true rfl, _, _, rfl, rfl, rfl⟩ (Nat.le_of_ble_eq_true rfl) (Nat.le_of_ble_eq_true rfl) (Nat.le_refl _) (Nat.le_refl _) (Nat.le_of_ble_eq_true rfl) ?_
      refine msegT C kX8_passSummer 46 1 (g := (true, 81, [.ref (19), .ref a1, .int (v2 + (1 : Int32))], [], mk b S8)) rfl rfl ?_
      obtain ⟨x9, ex9, hf⟩ := bnd_ex hf
      rw [← ex9]
      refine msegT C kX8_passSummer 47 1 (g := (true, 64, [.ref (19), .ref a1, .int x9], [], mk b S8)) rfl rfl ?_
      exact mfor (L' := [.ref (19), .ref a1, .int x9]) ⟨Or.inr rfl, Or.inr rfl, Or.inr rfl, trivial⟩ (ih _ _ hf true)
theorem bX8_passSummer_2_19 (C : mCx p (mR 5) s m args meth c G cX8_passSummer RX8 3 false 233 54500 233 54500) (hr : meth.sig.returnType = none) (hk : meth.locks = false) {b : Bool} {a1 : Nat} {S' : mT} : ∀ (k : Nat) (v2 : Int32) (S : mT), fX8_passSummer_2 19 a1 k v2 S = some S' → ∀ ok : Bool, mW p l e (mR 5) s m args below meth c G 3 233 54500 (mQ below G args s b S' none) (ok, 2, [.ref (19), .ref a1, .int v2], [], mk b S) := by
  intro k
  induction k with
  | zero =>
    intro v2 S hf ok
    cases hf
  | succ k ih =>
    intro v2 S hf ok
    unfold fX8_passSummer_2 at hf
    obtain ⟨hok, hf⟩ := grd_ex hf
    refine msegT C kX8_passSummer 2 4 (g := ((kO 19 8 && true), (if (S.1 19 9) ≤ v2 then 28 else 10), [.ref (19), .ref a1, .int v2], [], mk b S)) rfl hok ?_
    by_cases hc : (S.1 19 9) ≤ v2
    · rw [if_pos hc] at hf ⊢
      obtain ⟨hok, hf⟩ := grd_ex hf
      refine msegT C kX8_passSummer 17 10 (g := ((kI a1 (16 : Int32) && true), 45, [.ref (19), .ref a1, .int v2], [.int (1000 : Int32), .int (((S.1 a1 (mIx (16 : Int32))) * (137 : Int32)) + (71 : Int32)), .int (16 : Int32), .ref a1], mk b S)) rfl hok ?_
      obtain ⟨hok, hf⟩ := grd_ex hf
      refine msegT C kX8_passSummer 27 2 (g := ((kI a1 (16 : Int32) && (decide (¬ (1000 : Int32) = 0) && true)), 47, [.ref (19), .ref a1, .int v2], [], mk b (sI S a1 (mIx (16 : Int32)) ((((S.1 a1 (mIx (16 : Int32))) * (137 : Int32)) + (71 : Int32)) - (((S.1 a1 (mIx (16 : Int32))) * (137 : Int32)) + (71 : Int32)) / (1000 : Int32) * (1000 : Int32))))) rfl hok ?_
      obtain ⟨S1, eS1, hf⟩ := bnd_ex hf
      rw [← eS1]
      refine msegT C kX8_passSummer 29 2 (g := (true, 49, [.ref (19), .ref a1, .int v2], [.ref a1, .ref (19)], mk b S1)) rfl rfl ?_
      obtain ⟨S2, hq, hf⟩ := bndV_ex hf
      refine mcall (kd := 0) (vs := [.ref (19), .ref a1]) (rest := []) (r := none) (h' := mk b S2) (ok' := true) C lkRX8_96 (qX8_sendMagpie_19 hq) (kX8_passSummer _ (List.mem_of_getElem? (i := 31) rfl)).1 ⟨_, _, rfl, rfl, Nat.le_of_ble_eq_true rfl, _, _, rfl, rfl, rfl⟩ (Nat.le_of_ble_eq_true rfl) (Nat.le_of_ble_eq_true rfl) (Nat.le_refl _) (Nat.le_refl _) (Nat.le_of_ble_eq_true rfl) ?_
      obtain ⟨hok, hf⟩ := grd_ex hf
      refine msegT C kX8_passSummer 32 4 (g := ((kO (19 + 12) 0 && (kO 19 8 && true)), (if (S2.1 (19 + 12) 4) = 0 then 84 else 62), [.ref (19), .ref a1, .int v2], [], mk b S2)) rfl hok ?_
      by_cases hc : (S2.1 (19 + 12) 4) = 0
      · rw [if_pos hc] at hf ⊢
        exact mfor (L' := [.retAddr 0, .ref a1, .retAddr 0]) ⟨Or.inl rfl, Or.inr rfl, Or.inl rfl, trivial⟩ (bX8_passSummer_84_19 C hr hk hf true)
      · rw [if_neg hc] at hf ⊢
        refine msegT C kX8_passSummer 36 2 (g := (true, 64, [.ref (19), .ref a1, .int (0 : Int32)], [], mk b S2)) rfl rfl ?_
        exact mfor (L' := [.ref (19), .ref a1, .int (0 : Int32)]) ⟨Or.inr rfl, Or.inr rfl, Or.inr rfl, trivial⟩ (bX8_passSummer_64_19 C hr hk _ _ _ hf true)
    · rw [if_neg hc] at hf ⊢
      refine msegT C kX8_passSummer 6 7 (g := (true, 18, [.ref (19), .ref a1, .int v2], [.int v2, .ref a1, .ref (19), .int ((10 : Int32) + v2), .ref a1], mk b S)) rfl rfl ?_
      obtain ⟨x4, S3, hq, hf⟩ := bndC_ex hf
      refine mcall (kd := 0) (vs := [.ref (19), .ref a1, .int v2]) (rest := [.int ((10 : Int32) + v2), .ref a1]) (r := (some (.int x4))) (h' := mk b S3) (ok' := true) C lkRX8_92 (qX8_stonesOf_19 hq) (kX8_passSummer _ (List.mem_of_getElem? (i := 13) rfl)).1 ⟨_, _, rfl, rfl, Nat.le_of_ble_eq_true rfl, _, _, rfl, rfl, rfl⟩ (Nat.le_of_ble_eq_true rfl) (Nat.le_of_ble_eq_true rfl) (Nat.le_refl _) (Nat.le_refl _) (Nat.le_of_ble_eq_true rfl) ?_
      obtain ⟨hok, hf⟩ := grd_ex hf
      refine msegT C kX8_passSummer 14 1 (g := ((kI a1 ((10 : Int32) + v2) && true), 22, [.ref (19), .ref a1, .int v2], [], mk b (sI S3 a1 (mIx ((10 : Int32) + v2)) x4))) rfl hok ?_
      obtain ⟨S5, eS5, hf⟩ := bnd_ex hf
      rw [← eS5]
      refine msegT C kX8_passSummer 15 1 (g := (true, 25, [.ref (19), .ref a1, .int (v2 + (1 : Int32))], [], mk b S5)) rfl rfl ?_
      obtain ⟨x6, ex6, hf⟩ := bnd_ex hf
      rw [← ex6]
      refine msegT C kX8_passSummer 16 1 (g := (true, 2, [.ref (19), .ref a1, .int x6], [], mk b S5)) rfl rfl ?_
      exact mfor (L' := [.ref (19), .ref a1, .int x6]) ⟨Or.inr rfl, Or.inr rfl, Or.inr rfl, trivial⟩ (ih _ _ hf true)
theorem bX8_passSummer_0_19 (C : mCx p (mR 5) s m args meth c G cX8_passSummer RX8 3 false 233 54500 233 54500) (hr : meth.sig.returnType = none) (hk : meth.locks = false) {b : Bool} {a1 : Nat} {S' : mT} {S : mT} (hf : fX8_passSummer 19 a1 S = some S') (ok : Bool) : mW p l e (mR 5) s m args below meth c G 3 233 54500 (mQ below G args s b S' none) (ok, 0, [.ref (19), .ref a1, .retAddr 0], [], mk b S) := by
  unfold fX8_passSummer at hf
  refine msegT C kX8_passSummer 0 2 (g := (true, 2, [.ref (19), .ref a1, .int (0 : Int32)], [], mk b S)) rfl rfl ?_
  exact mfor (L' := [.ref (19), .ref a1, .int (0 : Int32)]) ⟨Or.inr rfl, Or.inr rfl, Or.inr rfl, trivial⟩ (bX8_passSummer_2_19 C hr hk _ _ _ hf true)
theorem qX8_passSummer_19 {b : Bool} {a1 : Nat} {S S' : mT} (hf : fX8_passSummer 19 a1 S = some S') : mOk l mX8_passSummer 5 [.ref (19), .ref a1] b S none S' :=
  gMet (by decide) (Nat.le_of_ble_eq_true rfl) rfl (Nat.le_of_ble_eq_true rfl) (fun p e s m args below meth c G C hr hk => bX8_passSummer_0_19 C hr hk hf true)
theorem bX11_foresee_17_f (C : mCx p (mR 6) s m args meth c G cX11_foresee RX11 3 false 233 54500 233 54500) (hr : meth.sig.returnType = none) (hk : meth.locks = false) {S' : mT} : ∀ (k : Nat) (v1 : Int32) (v2 : Int32) (S : mT), fX11_foresee_17 false k v1 v2 S = some S' → ∀ ok : Bool, mW p l e (mR 6) s m args below meth c G 3 233 54500 (mQ below G args s false S' none) (ok, 17, [.ref (0), .int v1, .int v2], [], mk false S) := by
  intro k
  induction k with
  | zero =>
    intro v1 v2 S hf ok
    cases hf
  | succ k ih =>
    intro v1 v2 S hf ok
    unfold fX11_foresee_17 at hf
    refine msegT C kX11_foresee 10 3 (g := (true, (if v1 ≤ v2 then 39 else 22), [.ref (0), .int v1, .int v2], [], mk false S)) rfl rfl ?_
    by_cases hc : v1 ≤ v2
    · rw [if_pos hc] at hf ⊢
      cases hf
      exact gret_v C hr hk (kX11_foresee _ (List.mem_of_getElem? (i := 20) rfl)).1
    · rw [if_neg hc] at hf ⊢
      obtain ⟨hok, hf⟩ := grd_ex hf
      refine msegT C kX11_foresee 13 4 (g := ((kO 0 11 && (kO 0 11 && true)), 30, [.ref (0), .int v1, .int v2], [.ref 36, .ref (shU false)], mk false S)) rfl hok ?_
      obtain ⟨S2, hq, hf⟩ := bndV_ex hf
      refine mcall (kd := 0) (vs := [.ref (shU false), .ref 36]) (rest := []) (r := none) (h' := mk false S2) (ok' := true) C lkRX11_155 (qX8_passSummer_3 hq) (kX11_foresee _ (List.mem_of_getElem? (i := 17) rfl)).1 ⟨_, _, rfl, rfl, Nat.le_of_ble_eq_true rfl, _, _, rfl, rfl, rfl⟩ (Nat.le_of_ble_eq_true rfl) (Nat.le_of_ble_eq_true rfl) (Nat.le_refl _) (Nat.le_refl _) (Nat.le_of_ble_eq_true rfl) ?_
      refine msegT C kX11_foresee 18 1 (g := (true, 36, [.ref (0), .int v1, .int (v2 + (1 : Int32))], [], mk false S2)) rfl rfl ?_
      obtain ⟨x3, ex3, hf⟩ := bnd_ex hf
      rw [← ex3]
      refine msegT C kX11_foresee 19 1 (g := (true, 17, [.ref (0), .int v1, .int x3], [], mk false S2)) rfl rfl ?_
      exact mfor (L' := [.ref (0), .int v1, .int x3]) ⟨Or.inr rfl, Or.inr rfl, Or.inr rfl, trivial⟩ (ih _ _ _ hf true)
theorem bX11_foresee_0_f (C : mCx p (mR 6) s m args meth c G cX11_foresee RX11 3 false 233 54500 233 54500) (hr : meth.sig.returnType = none) (hk : meth.locks = false) {S' : mT} {v1 : Int32} {S : mT} (hf : fX11_foresee false v1 S = some S') (ok : Bool) : mW p l e (mR 6) s m args below meth c G 3 233 54500 (mQ below G args s false S' none) (ok, 0, [.ref (0), .int v1, .retAddr 0], [], mk false S) := by
  unfold fX11_foresee at hf
  obtain ⟨hok, hf⟩ := grd_ex hf
  refine msegT C kX11_foresee 0 8 (g := ((kC 35 36 (0 : Int32) (0 : Int32) (17 : Int32) && (kO 0 11 && (kO 0 11 && true))), 15, [.ref (0), .int v1, .retAddr 0], [], mk false (sC S 35 36 (0 : Int32) (0 : Int32) (17 : Int32)))) rfl hok ?_
  obtain ⟨S1, eS1, hf⟩ := bnd_ex hf
  rw [← eS1]
  refine msegT C kX11_foresee 8 2 (g := (true, 17, [.ref (0), .int v1, .int (0 : Int32)], [], mk false S1)) rfl rfl ?_
  exact mfor (L' := [.ref (0), .int v1, .int (0 : Int32)]) ⟨Or.inr rfl, Or.inr rfl, Or.inr rfl, trivial⟩ (bX11_foresee_17_f C hr hk _ _ _ _ hf true)
theorem qX11_foresee_f {v1 : Int32} {S S' : mT} (hf : fX11_foresee false v1 S = some S') : mOk l mX11_foresee 6 [.ref (0), .int v1] false S none S' :=
  gMet (by decide) (Nat.le_of_ble_eq_true rfl) rfl (Nat.le_of_ble_eq_true rfl) (fun p e s m args below meth c G C hr hk => bX11_foresee_0_f C hr hk hf true)
theorem bX11_foresee_17_t (C : mCx p (mR 6) s m args meth c G cX11_foresee RX11 3 false 233 54500 233 54500) (hr : meth.sig.returnType = none) (hk : meth.locks = false) {S' : mT} : ∀ (k : Nat) (v1 : Int32) (v2 : Int32) (S : mT), fX11_foresee_17 true k v1 v2 S = some S' → ∀ ok : Bool, mW p l e (mR 6) s m args below meth c G 3 233 54500 (mQ below G args s true S' none) (ok, 17, [.ref (0), .int v1, .int v2], [], mk true S) := by
  intro k
  induction k with
  | zero =>
    intro v1 v2 S hf ok
    cases hf
  | succ k ih =>
    intro v1 v2 S hf ok
    unfold fX11_foresee_17 at hf
    refine msegT C kX11_foresee 10 3 (g := (true, (if v1 ≤ v2 then 39 else 22), [.ref (0), .int v1, .int v2], [], mk true S)) rfl rfl ?_
    by_cases hc : v1 ≤ v2
    · rw [if_pos hc] at hf ⊢
      cases hf
      exact gret_v C hr hk (kX11_foresee _ (List.mem_of_getElem? (i := 20) rfl)).1
    · rw [if_neg hc] at hf ⊢
      obtain ⟨hok, hf⟩ := grd_ex hf
      refine msegT C kX11_foresee 13 4 (g := ((kO 0 11 && (kO 0 11 && true)), 30, [.ref (0), .int v1, .int v2], [.ref 36, .ref (shU true)], mk true S)) rfl hok ?_
      obtain ⟨S2, hq, hf⟩ := bndV_ex hf
      refine mcall (kd := 0) (vs := [.ref (shU true), .ref 36]) (rest := []) (r := none) (h' := mk true S2) (ok' := true) C lkRX11_155 (qX8_passSummer_19 hq) (kX11_foresee _ (List.mem_of_getElem? (i := 17) rfl)).1 ⟨_, _, rfl, rfl, Nat.le_of_ble_eq_true rfl, _, _, rfl, rfl, rfl⟩ (Nat.le_of_ble_eq_true rfl) (Nat.le_of_ble_eq_true rfl) (Nat.le_refl _) (Nat.le_refl _) (Nat.le_of_ble_eq_true rfl) ?_
      refine msegT C kX11_foresee 18 1 (g := (true, 36, [.ref (0), .int v1, .int (v2 + (1 : Int32))], [], mk true S2)) rfl rfl ?_
      obtain ⟨x3, ex3, hf⟩ := bnd_ex hf
      rw [← ex3]
      refine msegT C kX11_foresee 19 1 (g := (true, 17, [.ref (0), .int v1, .int x3], [], mk true S2)) rfl rfl ?_
      exact mfor (L' := [.ref (0), .int v1, .int x3]) ⟨Or.inr rfl, Or.inr rfl, Or.inr rfl, trivial⟩ (ih _ _ _ hf true)
theorem bX11_foresee_0_t (C : mCx p (mR 6) s m args meth c G cX11_foresee RX11 3 false 233 54500 233 54500) (hr : meth.sig.returnType = none) (hk : meth.locks = false) {S' : mT} {v1 : Int32} {S : mT} (hf : fX11_foresee true v1 S = some S') (ok : Bool) : mW p l e (mR 6) s m args below meth c G 3 233 54500 (mQ below G args s true S' none) (ok, 0, [.ref (0), .int v1, .retAddr 0], [], mk true S) := by
  unfold fX11_foresee at hf
  obtain ⟨hok, hf⟩ := grd_ex hf
  refine msegT C kX11_foresee 0 8 (g := ((kC 35 36 (0 : Int32) (0 : Int32) (17 : Int32) && (kO 0 11 && (kO 0 11 && true))), 15, [.ref (0), .int v1, .retAddr 0], [], mk true (sC S 35 36 (0 : Int32) (0 : Int32) (17 : Int32)))) rfl hok ?_
  obtain ⟨S1, eS1, hf⟩ := bnd_ex hf
  rw [← eS1]
  refine msegT C kX11_foresee 8 2 (g := (true, 17, [.ref (0), .int v1, .int (0 : Int32)], [], mk true S1)) rfl rfl ?_
  exact mfor (L' := [.ref (0), .int v1, .int (0 : Int32)]) ⟨Or.inr rfl, Or.inr rfl, Or.inr rfl, trivial⟩ (bX11_foresee_17_t C hr hk _ _ _ _ hf true)
theorem qX11_foresee_t {v1 : Int32} {S S' : mT} (hf : fX11_foresee true v1 S = some S') : mOk l mX11_foresee 6 [.ref (0), .int v1] true S none S' :=
  gMet (by decide) (Nat.le_of_ble_eq_true rfl) rfl (Nat.le_of_ble_eq_true rfl) (fun p e s m args below meth c G C hr hk => bX11_foresee_0_t C hr hk hf true)
theorem bX11_bowls_0_f (C : mCx p (mR 7) s m args meth c G cX11_bowls RX11 2 false 233 54500 233 54500) (hr : meth.sig.returnType = (some .int)) (hk : meth.locks = false) {S' : mT} {r : Int32} {v1 : Int32} {S : mT} (hf : fX11_bowls false v1 S = some (r, S')) (ok : Bool) : mW p l e (mR 7) s m args below meth c G 2 233 54500 (mQ below G args s false S' (some (.int r))) (ok, 0, [.ref (0), .int v1], [], mk false S) := by
  unfold fX11_bowls at hf
  refine msegT C kX11_bowls 0 3 (g := (true, 4, [.ref (0), .int v1], [.int (60 : Int32), .int (0 : Int32), .int v1], mk false S)) rfl rfl ?_
  obtain ⟨x2, S1, hq, hf⟩ := bndC_ex hf
  refine mcall (kd := 1) (vs := [.int v1, .int (0 : Int32), .int (60 : Int32)]) (rest := []) (r := (some (.int x2))) (h' := mk false S1) (ok' := true) C lkRX11_169 (qX11_isWithin hq) (kX11_bowls _ (List.mem_of_getElem? (i := 3) rfl)).1 rfl (Nat.le_of_ble_eq_true rfl) (Nat.le_of_ble_eq_true rfl) (Nat.le_refl _) (Nat.le_refl _) (Nat.le_of_ble_eq_true rfl) ?_
  refine msegT C kX11_bowls 4 1 (g := (true, (if x2 = 0 then 10 else 12), [.ref (0), .int v1], [], mk false S1)) rfl rfl ?_
  by_cases hc : x2 = 0
  · rw [if_pos hc] at hf ⊢
    refine msegT C kX11_bowls 5 1 (g := (true, 11, [.ref (0), .int v1], [.int (-1 : Int32)], mk false S1)) rfl rfl ?_
    cases hf
    exact gret_i C hr hk (kX11_bowls _ (List.mem_of_getElem? (i := 6) rfl)).1
  · rw [if_neg hc] at hf ⊢
    refine msegT C kX11_bowls 7 2 (g := (true, 14, [.ref (0), .int v1], [.int v1, .ref (0)], mk false S1)) rfl rfl ?_
    obtain ⟨S3, hq, hf⟩ := bndV_ex hf
    refine mcall (kd := 0) (vs := [.ref (0), .int v1]) (rest := []) (r := none) (h' := mk false S3) (ok' := true) C lkRX11_173 (qX11_foresee_f hq) (kX11_bowls _ (List.mem_of_getElem? (i := 9) rfl)).1 ⟨_, _, rfl, rfl, Nat.le_of_ble_eq_true rfl, _, _, rfl, rfl, rfl⟩ (Nat.le_of_ble_eq_true rfl) (Nat.le_of_ble_eq_true rfl) (Nat.le_refl _) (Nat.le_refl _) (Nat.le_of_ble_eq_true rfl) ?_
    obtain ⟨hok, hf⟩ := grd_ex hf
    refine msegT C kX11_bowls 10 3 (g := ((kO 0 11 && true), 22, [.ref (0), .int v1], [.ref 36, .ref (0)], mk false S3)) rfl hok ?_
    obtain ⟨x5, S4, hq, hf⟩ := bndC_ex hf
    refine mcall (kd := 0) (vs := [.ref (0), .ref 36]) (rest := []) (r := (some (.int x5))) (h' := mk false S4) (ok' := true) C lkRX11_158 (qX11_allBowls_f hq) (kX11_bowls _ (List.mem_of_getElem? (i := 13) rfl)).1 ⟨_, _, rfl, rfl, Nat.le_of_ble_eq_true rfl, _, _, rfl, rfl, rfl⟩ (Nat.le_of_ble_eq_true rfl) (Nat.le_of_ble_eq_true rfl) (Nat.le_refl _) (Nat.le_refl _) (Nat.le_of_ble_eq_true rfl) ?_
    cases hf
    exact gret_i C hr hk (kX11_bowls _ (List.mem_of_getElem? (i := 14) rfl)).1
theorem qX11_bowls_f {v1 : Int32} {S S' : mT} {r : Int32} (hf : fX11_bowls false v1 S = some (r, S')) : mOk l mX11_bowls 7 [.ref (0), .int v1] false S (some (.int r)) S' :=
  gMet (by decide) (Nat.le_of_ble_eq_true rfl) rfl (Nat.le_of_ble_eq_true rfl) (fun p e s m args below meth c G C hr hk => bX11_bowls_0_f C hr hk hf true)
theorem bX11_bowls_0_t (C : mCx p (mR 7) s m args meth c G cX11_bowls RX11 2 false 233 54500 233 54500) (hr : meth.sig.returnType = (some .int)) (hk : meth.locks = false) {S' : mT} {r : Int32} {v1 : Int32} {S : mT} (hf : fX11_bowls true v1 S = some (r, S')) (ok : Bool) : mW p l e (mR 7) s m args below meth c G 2 233 54500 (mQ below G args s true S' (some (.int r))) (ok, 0, [.ref (0), .int v1], [], mk true S) := by
  unfold fX11_bowls at hf
  refine msegT C kX11_bowls 0 3 (g := (true, 4, [.ref (0), .int v1], [.int (60 : Int32), .int (0 : Int32), .int v1], mk true S)) rfl rfl ?_
  obtain ⟨x2, S1, hq, hf⟩ := bndC_ex hf
  refine mcall (kd := 1) (vs := [.int v1, .int (0 : Int32), .int (60 : Int32)]) (rest := []) (r := (some (.int x2))) (h' := mk true S1) (ok' := true) C lkRX11_169 (qX11_isWithin hq) (kX11_bowls _ (List.mem_of_getElem? (i := 3) rfl)).1 rfl (Nat.le_of_ble_eq_true rfl) (Nat.le_of_ble_eq_true rfl) (Nat.le_refl _) (Nat.le_refl _) (Nat.le_of_ble_eq_true rfl) ?_
  refine msegT C kX11_bowls 4 1 (g := (true, (if x2 = 0 then 10 else 12), [.ref (0), .int v1], [], mk true S1)) rfl rfl ?_
  by_cases hc : x2 = 0
  · rw [if_pos hc] at hf ⊢
    refine msegT C kX11_bowls 5 1 (g := (true, 11, [.ref (0), .int v1], [.int (-1 : Int32)], mk true S1)) rfl rfl ?_
    cases hf
    exact gret_i C hr hk (kX11_bowls _ (List.mem_of_getElem? (i := 6) rfl)).1
  · rw [if_neg hc] at hf ⊢
    refine msegT C kX11_bowls 7 2 (g := (true, 14, [.ref (0), .int v1], [.int v1, .ref (0)], mk true S1)) rfl rfl ?_
    obtain ⟨S3, hq, hf⟩ := bndV_ex hf
    refine mcall (kd := 0) (vs := [.ref (0), .int v1]) (rest := []) (r := none) (h' := mk true S3) (ok' := true) C lkRX11_173 (qX11_foresee_t hq) (kX11_bowls _ (List.mem_of_getElem? (i := 9) rfl)).1 ⟨_, _, rfl, rfl, Nat.le_of_ble_eq_true rfl, _, _, rfl, rfl, rfl⟩ (Nat.le_of_ble_eq_true rfl) (Nat.le_of_ble_eq_true rfl) (Nat.le_refl _) (Nat.le_refl _) (Nat.le_of_ble_eq_true rfl) ?_
    obtain ⟨hok, hf⟩ := grd_ex hf
    refine msegT C kX11_bowls 10 3 (g := ((kO 0 11 && true), 22, [.ref (0), .int v1], [.ref 36, .ref (0)], mk true S3)) rfl hok ?_
    obtain ⟨x5, S4, hq, hf⟩ := bndC_ex hf
    refine mcall (kd := 0) (vs := [.ref (0), .ref 36]) (rest := []) (r := (some (.int x5))) (h' := mk true S4) (ok' := true) C lkRX11_158 (qX11_allBowls_t hq) (kX11_bowls _ (List.mem_of_getElem? (i := 13) rfl)).1 ⟨_, _, rfl, rfl, Nat.le_of_ble_eq_true rfl, _, _, rfl, rfl, rfl⟩ (Nat.le_of_ble_eq_true rfl) (Nat.le_of_ble_eq_true rfl) (Nat.le_refl _) (Nat.le_refl _) (Nat.le_of_ble_eq_true rfl) ?_
    cases hf
    exact gret_i C hr hk (kX11_bowls _ (List.mem_of_getElem? (i := 14) rfl)).1
theorem qX11_bowls_t {v1 : Int32} {S S' : mT} {r : Int32} (hf : fX11_bowls true v1 S = some (r, S')) : mOk l mX11_bowls 7 [.ref (0), .int v1] true S (some (.int r)) S' :=
  gMet (by decide) (Nat.le_of_ble_eq_true rfl) rfl (Nat.le_of_ble_eq_true rfl) (fun p e s m args below meth c G C hr hk => bX11_bowls_0_t C hr hk hf true)
theorem bX11_lay_0 (C : mCx p (mR 1) s m args meth c G cX11_lay RX11 3 false 233 54500 233 54500) (hr : meth.sig.returnType = none) (hk : meth.locks = false) {b : Bool} {a1 : Nat} {S' : mT} {v2 : Int32} {S : mT} (hf : fX11_lay a1 v2 S = some S') (ok : Bool) : mW p l e (mR 1) s m args below meth c G 3 233 54500 (mQ below G args s b S' none) (ok, 0, [.ref (0), .ref a1, .int v2], [], mk b S) := by
  unfold fX11_lay at hf
  obtain ⟨hok, hf⟩ := grd_ex hf
  refine msegT C kX11_lay 0 5 (g := ((kAL 233 (sT a1) a1 && true), 6, [.ref (0), .ref a1, .int v2], [.int (8 : Int32), .int (Int32.ofNat (kLen (sT a1))), .int v2, .ref (0)], mk b S)) rfl hok ?_
  obtain ⟨x1, ex1, hf⟩ := bnd_ex hf
  refine so_min (ok' := true) C (kX11_lay _ (List.mem_of_getElem? (i := 5) rfl)).1 lmRX11_315 (Nat.le_of_ble_eq_true rfl) (Nat.le_refl _) (Nat.le_refl _) ?_
  rw [← ex1]
  obtain ⟨x2, ex2, hf⟩ := bnd_ex hf
  refine so_min (ok' := true) C (kX11_lay _ (List.mem_of_getElem? (i := 6) rfl)).1 lmRX11_315 (Nat.le_of_ble_eq_true rfl) (Nat.le_refl _) (Nat.le_refl _) ?_
  rw [← ex2]
  obtain ⟨hok, hf⟩ := grd_ex hf
  refine msegT C kX11_lay 7 1 (g := ((kO 0 11 && true), 15, [.ref (0), .ref a1, .int v2], [], mk b (sI S 0 13 x2))) rfl hok ?_
  obtain ⟨S3, eS3, hf⟩ := bnd_ex hf
  rw [← eS3]
  obtain ⟨hok, hf⟩ := grd_ex hf
  refine msegT C kX11_lay 8 8 (g := ((kC a1 186 (0 : Int32) (0 : Int32) (S3.1 0 13) && (kO 0 11 && (kO 0 11 && true))), 29, [.ref (0), .ref a1, .int v2], [], mk b (sC S3 a1 186 (0 : Int32) (0 : Int32) (S3.1 0 13)))) rfl hok ?_
  obtain ⟨S4, eS4, hf⟩ := bnd_ex hf
  rw [← eS4]
  cases hf
  exact gret_v C hr hk (kX11_lay _ (List.mem_of_getElem? (i := 16) rfl)).1
theorem qX11_lay {b : Bool} {a1 : Nat} {v2 : Int32} {S S' : mT} (hf : fX11_lay a1 v2 S = some S') : mOk l mX11_lay 1 [.ref (0), .ref a1, .int v2] b S none S' :=
  gMet (by decide) (Nat.le_of_ble_eq_true rfl) rfl (Nat.le_of_ble_eq_true rfl) (fun p e s m args below meth c G C hr hk => bX11_lay_0 C hr hk hf true)
theorem bX6_look_0_3 (C : mCx p (mR 2) s m args meth c G cX6_look RX6 3 false 233 54500 233 54500) (hr : meth.sig.returnType = none) (hk : meth.locks = false) {b : Bool} {a2 : Nat} {S' : mT} {S : mT} (hf : fX6_look 3 a2 S = some S') (ok : Bool) : mW p l e (mR 2) s m args below meth c G 3 233 54500 (mQ below G args s b S' none) (ok, 0, [.ref (100), .ref (3), .ref a2], [], mk b S) := by
  unfold fX6_look at hf
  obtain ⟨hok, hf⟩ := grd_ex hf
  refine msegT C kX6_look 0 4 (g := ((kO 100 6 && (kO 3 8 && true)), 8, [.ref (100), .ref (3), .ref a2], [], mk b (sI S 100 8 (S.1 3 9)))) rfl hok ?_
  obtain ⟨S1, eS1, hf⟩ := bnd_ex hf
  rw [← eS1]
  obtain ⟨hok, hf⟩ := grd_ex hf
  refine msegT C kX6_look 4 9 (g := ((kC (3 + 2) 101 (0 : Int32) (0 : Int32) (S1.1 100 8) && (kO 100 6 && (kO 100 6 && (kO 3 8 && true)))), 25, [.ref (100), .ref (3), .ref a2], [], mk b (sC S1 (3 + 2) 101 (0 : Int32) (0 : Int32) (S1.1 100 8)))) rfl hok ?_
  obtain ⟨S2, eS2, hf⟩ := bnd_ex hf
  rw [← eS2]
  obtain ⟨hok, hf⟩ := grd_ex hf
  refine msegT C kX6_look 13 8 (g := ((kC a2 102 (10 : Int32) (0 : Int32) (S2.1 100 8) && (kO 100 6 && (kO 100 6 && true))), 40, [.ref (100), .ref (3), .ref a2], [], mk b (sC S2 a2 102 (10 : Int32) (0 : Int32) (S2.1 100 8)))) rfl hok ?_
  obtain ⟨S3, eS3, hf⟩ := bnd_ex hf
  rw [← eS3]
  obtain ⟨hok, hf⟩ := grd_ex hf
  refine msegT C kX6_look 21 3 (g := ((kO 100 6 && true), 45, [.ref (100), .ref (3), .ref a2], [.int (0 : Int32), .ref 104], mk b S3)) rfl hok ?_
  obtain ⟨S4, hq, hf⟩ := bndV_ex hf
  refine mcall (kd := 1) (vs := [.ref 104, .int (0 : Int32)]) (rest := []) (r := none) (h' := mk b S4) (ok' := true) C lkRX6_50 (qJ7_fill_53178 hq) (kX6_look _ (List.mem_of_getElem? (i := 24) rfl)).1 rfl (Nat.le_of_ble_eq_true rfl) (Nat.le_of_ble_eq_true rfl) (Nat.le_refl _) (Nat.le_refl _) (Nat.le_of_ble_eq_true rfl) ?_
  obtain ⟨hok, hf⟩ := grd_ex hf
  refine msegT C kX6_look 25 3 (g := ((kO 100 6 && true), 53, [.ref (100), .ref (3), .ref a2], [.int (0 : Int32), .ref 105], mk b S4)) rfl hok ?_
  obtain ⟨S5, hq, hf⟩ := bndV_ex hf
  refine mcall (kd := 1) (vs := [.ref 105, .int (0 : Int32)]) (rest := []) (r := none) (h' := mk b S5) (ok' := true) C lkRX6_50 (qJ7_fill_53178 hq) (kX6_look _ (List.mem_of_getElem? (i := 28) rfl)).1 rfl (Nat.le_of_ble_eq_true rfl) (Nat.le_of_ble_eq_true rfl) (Nat.le_refl _) (Nat.le_refl _) (Nat.le_of_ble_eq_true rfl) ?_
  cases hf
  exact gret_v C hr hk (kX6_look _ (List.mem_of_getElem? (i := 29) rfl)).1
theorem qX6_look_3 {b : Bool} {a2 : Nat} {S S' : mT} (hf : fX6_look 3 a2 S = some S') : mOk l mX6_look 2 [.ref (100), .ref (3), .ref a2] b S none S' :=
  gMet (by decide) (Nat.le_of_ble_eq_true rfl) rfl (Nat.le_of_ble_eq_true rfl) (fun p e s m args below meth c G C hr hk => bX6_look_0_3 C hr hk hf true)
theorem bX6_look_0_19 (C : mCx p (mR 2) s m args meth c G cX6_look RX6 3 false 233 54500 233 54500) (hr : meth.sig.returnType = none) (hk : meth.locks = false) {b : Bool} {a2 : Nat} {S' : mT} {S : mT} (hf : fX6_look 19 a2 S = some S') (ok : Bool) : mW p l e (mR 2) s m args below meth c G 3 233 54500 (mQ below G args s b S' none) (ok, 0, [.ref (100), .ref (19), .ref a2], [], mk b S) := by
  unfold fX6_look at hf
  obtain ⟨hok, hf⟩ := grd_ex hf
  refine msegT C kX6_look 0 4 (g := ((kO 100 6 && (kO 19 8 && true)), 8, [.ref (100), .ref (19), .ref a2], [], mk b (sI S 100 8 (S.1 19 9)))) rfl hok ?_
  obtain ⟨S1, eS1, hf⟩ := bnd_ex hf
  rw [← eS1]
  obtain ⟨hok, hf⟩ := grd_ex hf
  refine msegT C kX6_look 4 9 (g := ((kC (19 + 2) 101 (0 : Int32) (0 : Int32) (S1.1 100 8) && (kO 100 6 && (kO 100 6 && (kO 19 8 && true)))), 25, [.ref (100), .ref (19), .ref a2], [], mk b (sC S1 (19 + 2) 101 (0 : Int32) (0 : Int32) (S1.1 100 8)))) rfl hok ?_
  obtain ⟨S2, eS2, hf⟩ := bnd_ex hf
  rw [← eS2]
  obtain ⟨hok, hf⟩ := grd_ex hf
  refine msegT C kX6_look 13 8 (g := ((kC a2 102 (10 : Int32) (0 : Int32) (S2.1 100 8) && (kO 100 6 && (kO 100 6 && true))), 40, [.ref (100), .ref (19), .ref a2], [], mk b (sC S2 a2 102 (10 : Int32) (0 : Int32) (S2.1 100 8)))) rfl hok ?_
  obtain ⟨S3, eS3, hf⟩ := bnd_ex hf
  rw [← eS3]
  obtain ⟨hok, hf⟩ := grd_ex hf
  refine msegT C kX6_look 21 3 (g := ((kO 100 6 && true), 45, [.ref (100), .ref (19), .ref a2], [.int (0 : Int32), .ref 104], mk b S3)) rfl hok ?_
  obtain ⟨S4, hq, hf⟩ := bndV_ex hf
  refine mcall (kd := 1) (vs := [.ref 104, .int (0 : Int32)]) (rest := []) (r := none) (h' := mk b S4) (ok' := true) C lkRX6_50 (qJ7_fill_53178 hq) (kX6_look _ (List.mem_of_getElem? (i := 24) rfl)).1 rfl (Nat.le_of_ble_eq_true rfl) (Nat.le_of_ble_eq_true rfl) (Nat.le_refl _) (Nat.le_refl _) (Nat.le_of_ble_eq_true rfl) ?_
  obtain ⟨hok, hf⟩ := grd_ex hf
  refine msegT C kX6_look 25 3 (g := ((kO 100 6 && true), 53, [.ref (100), .ref (19), .ref a2], [.int (0 : Int32), .ref 105], mk b S4)) rfl hok ?_
  obtain ⟨S5, hq, hf⟩ := bndV_ex hf
  refine mcall (kd := 1) (vs := [.ref 105, .int (0 : Int32)]) (rest := []) (r := none) (h' := mk b S5) (ok' := true) C lkRX6_50 (qJ7_fill_53178 hq) (kX6_look _ (List.mem_of_getElem? (i := 28) rfl)).1 rfl (Nat.le_of_ble_eq_true rfl) (Nat.le_of_ble_eq_true rfl) (Nat.le_refl _) (Nat.le_refl _) (Nat.le_of_ble_eq_true rfl) ?_
  cases hf
  exact gret_v C hr hk (kX6_look _ (List.mem_of_getElem? (i := 29) rfl)).1
theorem qX6_look_19 {b : Bool} {a2 : Nat} {S S' : mT} (hf : fX6_look 19 a2 S = some S') : mOk l mX6_look 2 [.ref (100), .ref (19), .ref a2] b S none S' :=
  gMet (by decide) (Nat.le_of_ble_eq_true rfl) rfl (Nat.le_of_ble_eq_true rfl) (fun p e s m args below meth c G C hr hk => bX6_look_0_19 C hr hk hf true)
theorem bX6_afterKnock_40 (C : mCx p (mR 1) s m args meth c G cX6_afterKnock RX6 5 false 233 54500 233 54500) (hr : meth.sig.returnType = (some .int)) (hk : meth.locks = false) {b : Bool} {S' : mT} {r : Int32} {rc5 : Int32 → Int32 → Int32 → Int32 → mT → Option (Int32 × mT)} (Hrc5 : ∀ (v1 : Int32) (v2 : Int32) (v3 : Int32) (v4 : Int32) (S : mT), rc5 v1 v2 v3 v4 S = some (r, S') → ∀ ok : Bool, mW p l e (mR 1) s m args below meth c G 5 233 54500 (mQ below G args s b S' (some (.int r))) (ok, 5, [.ref (100), .int v1, .int v2, .int v3, .int v4], [], mk b S)) {v1 : Int32} {v2 : Int32} {v3 : Int32} {v4 : Int32} {S : mT} (hf : fX6_afterKnock_40 rc5 v1 v2 v3 v4 S = some (r, S')) (ok : Bool) : mW p l e (mR 1) s m args below meth c G 5 233 54500 (mQ below G args s b S' (some (.int r))) (ok, 40, [.ref (100), .int v1, .int v2, .int v3, .int v4], [], mk b S) := by
  unfold fX6_afterKnock_40 at hf
  refine msegT C kX6_afterKnock 25 1 (g := (true, 43, [.ref (100), .int v1, .int v2, .int v3, .int (v4 + (1 : Int32))], [], mk b S)) rfl rfl ?_
  obtain ⟨x2, ex2, hf⟩ := bnd_ex hf
  rw [← ex2]
  refine msegT C kX6_afterKnock 26 1 (g := (true, 5, [.ref (100), .int v1, .int v2, .int v3, .int x2], [], mk b S)) rfl rfl ?_
  exact mfor (L' := [.ref (100), .int v1, .int v2, .int v3, .int x2]) ⟨Or.inr rfl, Or.inr rfl, Or.inr rfl, Or.inr rfl, Or.inr rfl, trivial⟩ (Hrc5 _ _ _ _ _ hf true)
theorem bX6_afterKnock_5 (C : mCx p (mR 1) s m args meth c G cX6_afterKnock RX6 5 false 233 54500 233 54500) (hr : meth.sig.returnType = (some .int)) (hk : meth.locks = false) {b : Bool} {S' : mT} {r : Int32} : ∀ (k : Nat) (v1 : Int32) (v2 : Int32) (v3 : Int32) (v4 : Int32) (S : mT), fX6_afterKnock_5 k v1 v2 v3 v4 S = some (r, S') → ∀ ok : Bool, mW p l e (mR 1) s m args below meth c G 5 233 54500 (mQ below G args s b S' (some (.int r))) (ok, 5, [.ref (100), .int v1, .int v2, .int v3, .int v4], [], mk b S) := by
  intro k
  induction k with
  | zero =>
    intro v1 v2 v3 v4 S hf ok
    cases hf
  | succ k ih =>
    intro v1 v2 v3 v4 S hf ok
    unfold fX6_afterKnock_5 at hf
    obtain ⟨hok, hf⟩ := grd_ex hf
    refine msegT C kX6_afterKnock 4 4 (g := ((kO 100 6 && true), (if (S.1 100 8) ≤ v4 then 46 else 14), [.ref (100), .int v1, .int v2, .int v3, .int v4], [], mk b S)) rfl hok ?_
    by_cases hc : (S.1 100 8) ≤ v4
    · rw [if_pos hc] at hf ⊢
      refine msegT C kX6_afterKnock 27 1 (g := (true, 47, [.ref (100), .int v1, .int v2, .int v3, .int v4], [.int v3], mk b S)) rfl rfl ?_
      cases hf
      exact gret_i C hr hk (kX6_afterKnock _ (List.mem_of_getElem? (i := 28) rfl)).1
    · rw [if_neg hc] at hf ⊢
      refine msegT C kX6_afterKnock 8 3 (g := (true, (if v4 = v2 then 40 else 20), [.ref (100), .int v1, .int v2, .int v3, .int v4], [], mk b S)) rfl rfl ?_
      by_cases hc : v4 = v2
      · rw [if_pos hc] at hf ⊢
        exact mfor (L' := [.ref (100), .int v1, .int v2, .int v3, .int v4]) ⟨Or.inr rfl, Or.inr rfl, Or.inr rfl, Or.inr rfl, Or.inr rfl, trivial⟩ (bX6_afterKnock_40 C hr hk ih hf true)
      · rw [if_neg hc] at hf ⊢
        refine msegT C kX6_afterKnock 11 7 (g := (true, (if ((v1 >>> (v4 &&& 31)) &&& (1 : Int32)) = (1 : Int32) then 30 else 40), [.ref (100), .int v1, .int v2, .int v3, .int v4], [], mk b S)) rfl rfl ?_
        by_cases hc : ((v1 >>> (v4 &&& 31)) &&& (1 : Int32)) = (1 : Int32)
        · rw [if_pos hc] at hf ⊢
          obtain ⟨hok, hf⟩ := grd_ex hf
          refine msegT C kX6_afterKnock 18 7 (g := ((kI 106 v4 && (kO 100 6 && true)), 40, [.ref (100), .int v1, .int v2, .int (v3 ||| (S.1 106 (mIx v4))), .int v4], [], mk b S)) rfl hok ?_
          obtain ⟨x1, ex1, hf⟩ := bnd_ex hf
          rw [← ex1]
          exact mfor (L' := [.ref (100), .int v1, .int v2, .int x1, .int v4]) ⟨Or.inr rfl, Or.inr rfl, Or.inr rfl, Or.inr rfl, Or.inr rfl, trivial⟩ (bX6_afterKnock_40 C hr hk ih hf true)
        · rw [if_neg hc] at hf ⊢
          exact mfor (L' := [.ref (100), .int v1, .int v2, .int v3, .int v4]) ⟨Or.inr rfl, Or.inr rfl, Or.inr rfl, Or.inr rfl, Or.inr rfl, trivial⟩ (bX6_afterKnock_40 C hr hk ih hf true)
theorem bX6_afterKnock_0 (C : mCx p (mR 1) s m args meth c G cX6_afterKnock RX6 5 false 233 54500 233 54500) (hr : meth.sig.returnType = (some .int)) (hk : meth.locks = false) {b : Bool} {S' : mT} {r : Int32} {v1 : Int32} {v2 : Int32} {S : mT} (hf : fX6_afterKnock v1 v2 S = some (r, S')) (ok : Bool) : mW p l e (mR 1) s m args below meth c G 5 233 54500 (mQ below G args s b S' (some (.int r))) (ok, 0, [.ref (100), .int v1, .int v2, .retAddr 0, .retAddr 0], [], mk b S) := by
  unfold fX6_afterKnock at hf
  refine msegT C kX6_afterKnock 0 4 (g := (true, 5, [.ref (100), .int v1, .int v2, .int (0 : Int32), .int (0 : Int32)], [], mk b S)) rfl rfl ?_
  exact mfor (L' := [.ref (100), .int v1, .int v2, .int (0 : Int32), .int (0 : Int32)]) ⟨Or.inr rfl, Or.inr rfl, Or.inr rfl, Or.inr rfl, Or.inr rfl, trivial⟩ (bX6_afterKnock_5 C hr hk _ _ _ _ _ _ hf true)
theorem qX6_afterKnock {b : Bool} {v1 : Int32} {v2 : Int32} {S S' : mT} {r : Int32} (hf : fX6_afterKnock v1 v2 S = some (r, S')) : mOk l mX6_afterKnock 1 [.ref (100), .int v1, .int v2] b S (some (.int r)) S' :=
  gMet (by decide) (Nat.le_of_ble_eq_true rfl) rfl (Nat.le_of_ble_eq_true rfl) (fun p e s m args below meth c G C hr hk => bX6_afterKnock_0 C hr hk hf true)
theorem bX6_fewestFrom_9 (C : mCx p (mR 2) s m args meth c G cX6_fewestFrom RX6 4 false 233 54500 233 54500) (hr : meth.sig.returnType = (some .int)) (hk : meth.locks = false) {b : Bool} {S' : mT} {r : Int32} : ∀ (k : Nat) (v1 : Int32) (v2 : Int32) (v3 : Int32) (S : mT), fX6_fewestFrom_9 k v1 v2 v3 S = some (r, S') → ∀ ok : Bool, mW p l e (mR 2) s m args below meth c G 4 233 54500 (mQ below G args s b S' (some (.int r))) (ok, 9, [.ref (100), .int v1, .int v2, .int v3], [], mk b S) := by
  intro k
  induction k with
  | zero =>
    intro v1 v2 v3 S hf ok
    cases hf
  | succ k ih =>
    intro v1 v2 v3 S hf ok
    unfold fX6_fewestFrom_9 at hf
    obtain ⟨hok, hf⟩ := grd_ex hf
    refine msegT C kX6_fewestFrom 7 4 (g := ((kO 100 6 && true), (if (S.1 100 8) ≤ v3 then 41 else 17), [.ref (100), .int v1, .int v2, .int v3], [], mk b S)) rfl hok ?_
    by_cases hc : (S.1 100 8) ≤ v3
    · rw [if_pos hc] at hf ⊢
      refine msegT C kX6_fewestFrom 25 1 (g := (true, 42, [.ref (100), .int v1, .int v2, .int v3], [.int v2], mk b S)) rfl rfl ?_
      cases hf
      exact gret_i C hr hk (kX6_fewestFrom _ (List.mem_of_getElem? (i := 26) rfl)).1
    · rw [if_neg hc] at hf ⊢
      obtain ⟨hok, hf⟩ := grd_ex hf
      refine msegT C kX6_fewestFrom 11 6 (g := ((kO 100 6 && true), 25, [.ref (100), .int v1, .int v2, .int v3], [.int v3, .int v1, .ref (100), .ref 107, .int v2], mk b S)) rfl hok ?_
      obtain ⟨x3, S2, hq, hf⟩ := bndC_ex hf
      refine mcall (kd := 0) (vs := [.ref (100), .int v1, .int v3]) (rest := [.ref 107, .int v2]) (r := (some (.int x3))) (h' := mk b S2) (ok' := true) C lkRX6_91 (qX6_afterKnock hq) (kX6_fewestFrom _ (List.mem_of_getElem? (i := 17) rfl)).1 ⟨_, _, rfl, rfl, Nat.le_of_ble_eq_true rfl, _, _, rfl, rfl, rfl⟩ (Nat.le_of_ble_eq_true rfl) (Nat.le_of_ble_eq_true rfl) (Nat.le_refl _) (Nat.le_refl _) (Nat.le_of_ble_eq_true rfl) ?_
      obtain ⟨hok, hf⟩ := grd_ex hf
      refine msegT C kX6_fewestFrom 18 3 (g := ((kI 107 x3 && true), 31, [.ref (100), .int v1, .int v2, .int v3], [.int ((S2.1 107 (mIx x3)) + (1 : Int32)), .int v2], mk b S2)) rfl hok ?_
      obtain ⟨x4, ex4, hf⟩ := bnd_ex hf
      refine so_min (ok' := true) C (kX6_fewestFrom _ (List.mem_of_getElem? (i := 21) rfl)).1 lmRX6_78 (Nat.le_of_ble_eq_true rfl) (Nat.le_refl _) (Nat.le_refl _) ?_
      rw [← ex4]
      refine msegT C kX6_fewestFrom 22 2 (g := (true, 38, [.ref (100), .int v1, .int x4, .int (v3 + (1 : Int32))], [], mk b S2)) rfl rfl ?_
      obtain ⟨x5, ex5, hf⟩ := bnd_ex hf
      rw [← ex5]
      refine msegT C kX6_fewestFrom 24 1 (g := (true, 9, [.ref (100), .int v1, .int x4, .int x5], [], mk b S2)) rfl rfl ?_
      exact mfor (L' := [.ref (100), .int v1, .int x4, .int x5]) ⟨Or.inr rfl, Or.inr rfl, Or.inr rfl, Or.inr rfl, trivial⟩ (ih _ _ _ _ hf true)
theorem bX6_fewestFrom_0 (C : mCx p (mR 2) s m args meth c G cX6_fewestFrom RX6 4 false 233 54500 233 54500) (hr : meth.sig.returnType = (some .int)) (hk : meth.locks = false) {b : Bool} {S' : mT} {r : Int32} {v1 : Int32} {S : mT} (hf : fX6_fewestFrom v1 S = some (r, S')) (ok : Bool) : mW p l e (mR 2) s m args below meth c G 4 233 54500 (mQ below G args s b S' (some (.int r))) (ok, 0, [.ref (100), .int v1, .retAddr 0, .retAddr 0], [], mk b S) := by
  unfold fX6_fewestFrom at hf
  obtain ⟨hok, hf⟩ := grd_ex hf
  refine msegT C kX6_fewestFrom 0 5 (g := ((kI 107 v1 && (kO 100 6 && true)), 7, [.ref (100), .int v1, .int (S.1 107 (mIx v1)), .retAddr 0], [], mk b S)) rfl hok ?_
  obtain ⟨x1, ex1, hf⟩ := bnd_ex hf
  rw [← ex1]
  refine msegT C kX6_fewestFrom 5 2 (g := (true, 9, [.ref (100), .int v1, .int x1, .int (0 : Int32)], [], mk b S)) rfl rfl ?_
  exact mfor (L' := [.ref (100), .int v1, .int x1, .int (0 : Int32)]) ⟨Or.inr rfl, Or.inr rfl, Or.inr rfl, Or.inr rfl, trivial⟩ (bX6_fewestFrom_9 C hr hk _ _ _ _ _ hf true)
theorem qX6_fewestFrom {b : Bool} {v1 : Int32} {S S' : mT} {r : Int32} (hf : fX6_fewestFrom v1 S = some (r, S')) : mOk l mX6_fewestFrom 2 [.ref (100), .int v1] b S (some (.int r)) S' :=
  gMet (by decide) (Nat.le_of_ble_eq_true rfl) rfl (Nat.le_of_ble_eq_true rfl) (fun p e s m args below meth c G C hr hk => bX6_fewestFrom_0 C hr hk hf true)
theorem bX6_countSteps_68 (C : mCx p (mR 3) s m args meth c G cX6_countSteps RX6 5 false 233 54500 233 54500) (hr : meth.sig.returnType = none) (hk : meth.locks = false) {b : Bool} {S' : mT} {rc20 : Int32 → Int32 → mT → Option (mT)} (Hrc20 : ∀ (v1 : Int32) (v2 : Int32) (S : mT), rc20 v1 v2 S = some S' → ∀ ok : Bool, mW p l e (mR 3) s m args below meth c G 5 233 54500 (mQ below G args s b S' none) (ok, 20, [.ref (100), .int v1, .int v2, .retAddr 0, .retAddr 0], [], mk b S)) {rc34 : Int32 → Int32 → Int32 → mT → Option (mT)} (Hrc34 : ∀ (v1 : Int32) (v2 : Int32) (v3 : Int32) (S : mT), rc34 v1 v2 v3 S = some S' → ∀ ok : Bool, mW p l e (mR 3) s m args below meth c G 5 233 54500 (mQ below G args s b S' none) (ok, 34, [.ref (100), .int v1, .int v2, .int v3, .retAddr 0], [], mk b S)) {v2 : Int32} {v3 : Int32} {v4 : Int32} {s0 : Int32} {s1 : Int32} {S : mT} (hf : fX6_countSteps_68 rc20 rc34 v2 v3 v4 s0 s1 S = some S') (ok : Bool) : mW p l e (mR 3) s m args below meth c G 5 233 54500 (mQ below G args s b S' none) (ok, 68, [.ref (100), .retAddr 0, .int v2, .int v3, .int v4], [.int s0, .int s1], mk b S) := by
  unfold fX6_countSteps_68 at hf
  refine msegT C kX6_countSteps 42 2 (g := (true, 70, [.ref (100), .int (s1 ||| s0), .int v2, .int v3, .int v4], [], mk b S)) rfl rfl ?_
  obtain ⟨x6, ex6, hf⟩ := bnd_ex hf
  rw [← ex6]
  obtain ⟨hok, hf⟩ := grd_ex hf
  refine msegT C kX6_countSteps 44 5 (g := ((kI 107 v3 && (kO 100 6 && true)), 78, [.ref (100), .int x6, .int v2, .int v3, .int v4], [], mk b (sI S 107 (mIx v3) v4))) rfl hok ?_
  obtain ⟨S7, eS7, hf⟩ := bnd_ex hf
  rw [← eS7]
  refine msegT C kX6_countSteps 49 1 (g := (true, 81, [.ref (100), .int x6, .int v2, .int (v3 + (1 : Int32)), .int v4], [], mk b S7)) rfl rfl ?_
  obtain ⟨x8, ex8, hf⟩ := bnd_ex hf
  rw [← ex8]
  refine msegT C kX6_countSteps 50 1 (g := (true, 34, [.ref (100), .int x6, .int v2, .int x8, .int v4], [], mk b S7)) rfl rfl ?_
  exact mfor (L' := [.ref (100), .int x6, .int v2, .int x8, .retAddr 0]) ⟨Or.inr rfl, Or.inr rfl, Or.inr rfl, Or.inr rfl, Or.inl rfl, trivial⟩ (Hrc34 _ _ _ _ hf true)
theorem bX6_countSteps_34 (C : mCx p (mR 3) s m args meth c G cX6_countSteps RX6 5 false 233 54500 233 54500) (hr : meth.sig.returnType = none) (hk : meth.locks = false) {b : Bool} {S' : mT} {rc20 : Int32 → Int32 → mT → Option (mT)} (Hrc20 : ∀ (v1 : Int32) (v2 : Int32) (S : mT), rc20 v1 v2 S = some S' → ∀ ok : Bool, mW p l e (mR 3) s m args below meth c G 5 233 54500 (mQ below G args s b S' none) (ok, 20, [.ref (100), .int v1, .int v2, .retAddr 0, .retAddr 0], [], mk b S)) : ∀ (k : Nat) (v1 : Int32) (v2 : Int32) (v3 : Int32) (S : mT), fX6_countSteps_34 rc20 k v1 v2 v3 S = some S' → ∀ ok : Bool, mW p l e (mR 3) s m args below meth c G 5 233 54500 (mQ below G args s b S' none) (ok, 34, [.ref (100), .int v1, .int v2, .int v3, .retAddr 0], [], mk b S) := by
  intro k
  induction k with
  | zero =>
    intro v1 v2 v3 S hf ok
    cases hf
  | succ k ih =>
    intro v1 v2 v3 S hf ok
    unfold fX6_countSteps_34 at hf
    obtain ⟨hok, hf⟩ := grd_ex hf
    refine msegT C kX6_countSteps 22 6 (g := ((kO 100 6 && true), (if ((1 : Int32) <<< ((S.1 100 8) &&& 31)) ≤ v3 then 84 else 44), [.ref (100), .int v1, .int v2, .int v3, .retAddr 0], [], mk b S)) rfl hok ?_
    by_cases hc : ((1 : Int32) <<< ((S.1 100 8) &&& 31)) ≤ v3
    · rw [if_pos hc] at hf ⊢
      refine msegT C kX6_countSteps 51 1 (g := (true, 87, [.ref (100), .int v1, .int (v2 + (1 : Int32)), .int v3, .retAddr 0], [], mk b S)) rfl rfl ?_
      obtain ⟨x3, ex3, hf⟩ := bnd_ex hf
      rw [← ex3]
      refine msegT C kX6_countSteps 52 1 (g := (true, 20, [.ref (100), .int v1, .int x3, .int v3, .retAddr 0], [], mk b S)) rfl rfl ?_
      exact mfor (L' := [.ref (100), .int v1, .int x3, .retAddr 0, .retAddr 0]) ⟨Or.inr rfl, Or.inr rfl, Or.inr rfl, Or.inl rfl, Or.inl rfl, trivial⟩ (Hrc20 _ _ _ hf true)
    · rw [if_neg hc] at hf ⊢
      refine msegT C kX6_countSteps 28 2 (g := (true, 46, [.ref (100), .int v1, .int v2, .int v3, .retAddr 0], [.int v3, .ref (100)], mk b S)) rfl rfl ?_
      obtain ⟨x5, S4, hq, hf⟩ := bndC_ex hf
      refine mcall (kd := 0) (vs := [.ref (100), .int v3]) (rest := []) (r := (some (.int x5))) (h' := mk b S4) (ok' := true) C lkRX6_101 (qX6_fewestFrom hq) (kX6_countSteps _ (List.mem_of_getElem? (i := 30) rfl)).1 ⟨_, _, rfl, rfl, Nat.le_of_ble_eq_true rfl, _, _, rfl, rfl, rfl⟩ (Nat.le_of_ble_eq_true rfl) (Nat.le_of_ble_eq_true rfl) (Nat.le_refl _) (Nat.le_refl _) (Nat.le_of_ble_eq_true rfl) ?_
      obtain ⟨hok, hf⟩ := grd_ex hf
      refine msegT C kX6_countSteps 31 8 (g := ((kI 107 v3 && (kO 100 6 && true)), (if (S4.1 107 (mIx v3)) ≤ x5 then 67 else 63), [.ref (100), .int v1, .int v2, .int v3, .int x5], [.int v1], mk b S4)) rfl hok ?_
      by_cases hc : (S4.1 107 (mIx v3)) ≤ x5
      · rw [if_pos hc] at hf ⊢
        refine msegT C kX6_countSteps 41 1 (g := (true, 68, [.ref (100), .int v1, .int v2, .int v3, .int x5], [.int (0 : Int32), .int v1], mk b S4)) rfl rfl ?_
        exact mfor (L' := [.ref (100), .retAddr 0, .int v2, .int v3, .int x5]) ⟨Or.inr rfl, Or.inl rfl, Or.inr rfl, Or.inr rfl, Or.inr rfl, trivial⟩ (bX6_countSteps_68 C hr hk Hrc20 ih hf true)
      · rw [if_neg hc] at hf ⊢
        refine msegT C kX6_countSteps 39 2 (g := (true, 68, [.ref (100), .int v1, .int v2, .int v3, .int x5], [.int (1 : Int32), .int v1], mk b S4)) rfl rfl ?_
        exact mfor (L' := [.ref (100), .retAddr 0, .int v2, .int v3, .int x5]) ⟨Or.inr rfl, Or.inl rfl, Or.inr rfl, Or.inr rfl, Or.inr rfl, trivial⟩ (bX6_countSteps_68 C hr hk Hrc20 ih hf true)
theorem bX6_countSteps_90 (C : mCx p (mR 3) s m args meth c G cX6_countSteps RX6 5 false 233 54500 233 54500) (hr : meth.sig.returnType = none) (hk : meth.locks = false) {b : Bool} {S' : mT} {S : mT} (hf : fX6_countSteps_90 S = some S') (ok : Bool) : mW p l e (mR 3) s m args below meth c G 5 233 54500 (mQ below G args s b S' none) (ok, 90, [.retAddr 0, .retAddr 0, .retAddr 0, .retAddr 0, .retAddr 0], [], mk b S) := by
  unfold fX6_countSteps_90 at hf
  cases hf
  exact gret_v C hr hk (kX6_countSteps _ (List.mem_of_getElem? (i := 53) rfl)).1
theorem bX6_countSteps_20 (C : mCx p (mR 3) s m args meth c G cX6_countSteps RX6 5 false 233 54500 233 54500) (hr : meth.sig.returnType = none) (hk : meth.locks = false) {b : Bool} {S' : mT} : ∀ (k : Nat) (v1 : Int32) (v2 : Int32) (S : mT), fX6_countSteps_20 k v1 v2 S = some S' → ∀ ok : Bool, mW p l e (mR 3) s m args below meth c G 5 233 54500 (mQ below G args s b S' none) (ok, 20, [.ref (100), .int v1, .int v2, .retAddr 0, .retAddr 0], [], mk b S) := by
  intro k
  induction k with
  | zero =>
    intro v1 v2 S hf ok
    cases hf
  | succ k ih =>
    intro v1 v2 S hf ok
    unfold fX6_countSteps_20 at hf
    refine msegT C kX6_countSteps 13 3 (g := (true, (if (32 : Int32) ≤ v2 then 90 else 26), [.ref (100), .int v1, .int v2, .retAddr 0, .retAddr 0], [], mk b S)) rfl rfl ?_
    by_cases hc : (32 : Int32) ≤ v2
    · rw [if_pos hc] at hf ⊢
      exact mfor (L' := [.retAddr 0, .retAddr 0, .retAddr 0, .retAddr 0, .retAddr 0]) ⟨Or.inl rfl, Or.inl rfl, Or.inl rfl, Or.inl rfl, Or.inl rfl, trivial⟩ (bX6_countSteps_90 C hr hk hf true)
    · rw [if_neg hc] at hf ⊢
      refine msegT C kX6_countSteps 16 2 (g := (true, (if v1 = 0 then 90 else 30), [.ref (100), .int v1, .int v2, .retAddr 0, .retAddr 0], [], mk b S)) rfl rfl ?_
      by_cases hc : v1 = 0
      · rw [if_pos hc] at hf ⊢
        exact mfor (L' := [.retAddr 0, .retAddr 0, .retAddr 0, .retAddr 0, .retAddr 0]) ⟨Or.inl rfl, Or.inl rfl, Or.inl rfl, Or.inl rfl, Or.inl rfl, trivial⟩ (bX6_countSteps_90 C hr hk hf true)
      · rw [if_neg hc] at hf ⊢
        refine msegT C kX6_countSteps 18 4 (g := (true, 34, [.ref (100), .int (0 : Int32), .int v2, .int (1 : Int32), .retAddr 0], [], mk b S)) rfl rfl ?_
        exact mfor (L' := [.ref (100), .int (0 : Int32), .int v2, .int (1 : Int32), .retAddr 0]) ⟨Or.inr rfl, Or.inr rfl, Or.inr rfl, Or.inr rfl, Or.inl rfl, trivial⟩ (bX6_countSteps_34 C hr hk ih _ _ _ _ _ hf true)
theorem bX6_countSteps_0 (C : mCx p (mR 3) s m args meth c G cX6_countSteps RX6 5 false 233 54500 233 54500) (hr : meth.sig.returnType = none) (hk : meth.locks = false) {b : Bool} {S' : mT} {S : mT} (hf : fX6_countSteps S = some S') (ok : Bool) : mW p l e (mR 3) s m args below meth c G 5 233 54500 (mQ below G args s b S' none) (ok, 0, [.ref (100), .retAddr 0, .retAddr 0, .retAddr 0, .retAddr 0], [], mk b S) := by
  unfold fX6_countSteps at hf
  obtain ⟨hok, hf⟩ := grd_ex hf
  refine msegT C kX6_countSteps 0 3 (g := ((kO 100 6 && true), 6, [.ref (100), .retAddr 0, .retAddr 0, .retAddr 0, .retAddr 0], [.int (1000000 : Int32), .ref 107], mk b S)) rfl hok ?_
  obtain ⟨S1, hq, hf⟩ := bndV_ex hf
  refine mcall (kd := 1) (vs := [.ref 107, .int (1000000 : Int32)]) (rest := []) (r := none) (h' := mk b S1) (ok' := true) C lkRX6_50 (qJ7_fill_53178 hq) (kX6_countSteps _ (List.mem_of_getElem? (i := 3) rfl)).1 rfl (Nat.le_of_ble_eq_true rfl) (Nat.le_of_ble_eq_true rfl) (Nat.le_refl _) (Nat.le_refl _) (Nat.le_of_ble_eq_true rfl) ?_
  obtain ⟨hok, hf⟩ := grd_ex hf
  refine msegT C kX6_countSteps 4 5 (g := ((kI 107 (0 : Int32) && (kO 100 6 && true)), 16, [.ref (100), .retAddr 0, .retAddr 0, .retAddr 0, .retAddr 0], [], mk b (sI S1 107 (mIx (0 : Int32)) (0 : Int32)))) rfl hok ?_
  obtain ⟨S2, eS2, hf⟩ := bnd_ex hf
  rw [← eS2]
  refine msegT C kX6_countSteps 9 4 (g := (true, 20, [.ref (100), .int (1 : Int32), .int (0 : Int32), .retAddr 0, .retAddr 0], [], mk b S2)) rfl rfl ?_
  exact mfor (L' := [.ref (100), .int (1 : Int32), .int (0 : Int32), .retAddr 0, .retAddr 0]) ⟨Or.inr rfl, Or.inr rfl, Or.inr rfl, Or.inl rfl, Or.inl rfl, trivial⟩ (bX6_countSteps_20 C hr hk _ _ _ _ hf true)
theorem qX6_countSteps {b : Bool} {S S' : mT} (hf : fX6_countSteps S = some S') : mOk l mX6_countSteps 3 [.ref (100)] b S none S' :=
  gMet (by decide) (Nat.le_of_ble_eq_true rfl) rfl (Nat.le_of_ble_eq_true rfl) (fun p e s m args below meth c G C hr hk => bX6_countSteps_0 C hr hk hf true)
theorem bX6_bitOf_12 (C : mCx p (mR 1) s m args meth c G cX6_bitOf RX6 1 false 233 54500 233 54500) (hr : meth.sig.returnType = (some .int)) (hk : meth.locks = false) {b : Bool} {S' : mT} {r : Int32} {s0 : Int32} {S : mT} (hf : fX6_bitOf_12 s0 S = some (r, S')) (ok : Bool) : mW p l e (mR 1) s m args below meth c G 1 233 54500 (mQ below G args s b S' (some (.int r))) (ok, 12, [.retAddr 0], [.int s0], mk b S) := by
  unfold fX6_bitOf_12 at hf
  cases hf
  exact gret_i C hr hk (kX6_bitOf _ (List.mem_of_getElem? (i := 8) rfl)).1
theorem bX6_bitOf_0 (C : mCx p (mR 1) s m args meth c G cX6_bitOf RX6 1 false 233 54500 233 54500) (hr : meth.sig.returnType = (some .int)) (hk : meth.locks = false) {b : Bool} {S' : mT} {r : Int32} {v0 : Int32} {S : mT} (hf : fX6_bitOf v0 S = some (r, S')) (ok : Bool) : mW p l e (mR 1) s m args below meth c G 1 233 54500 (mQ below G args s b S' (some (.int r))) (ok, 0, [.int v0], [], mk b S) := by
  unfold fX6_bitOf at hf
  refine msegT C kX6_bitOf 0 3 (g := (true, (if v0 = (-1 : Int32) then 5 else 9), [.int v0], [], mk b S)) rfl rfl ?_
  by_cases hc : v0 = (-1 : Int32)
  · rw [if_pos hc] at hf ⊢
    refine msegT C kX6_bitOf 3 2 (g := (true, 12, [.int v0], [.int (0 : Int32)], mk b S)) rfl rfl ?_
    exact mfor (L' := [.retAddr 0]) ⟨Or.inl rfl, trivial⟩ (bX6_bitOf_12 C hr hk hf true)
  · rw [if_neg hc] at hf ⊢
    refine msegT C kX6_bitOf 5 3 (g := (true, 12, [.int v0], [.int ((1 : Int32) <<< (v0 &&& 31))], mk b S)) rfl rfl ?_
    exact mfor (L' := [.retAddr 0]) ⟨Or.inl rfl, trivial⟩ (bX6_bitOf_12 C hr hk hf true)
theorem qX6_bitOf {b : Bool} {v0 : Int32} {S S' : mT} {r : Int32} (hf : fX6_bitOf v0 S = some (r, S')) : mOk l mX6_bitOf 1 [.int v0] b S (some (.int r)) S' :=
  gMet (by decide) (Nat.le_of_ble_eq_true rfl) rfl (Nat.le_of_ble_eq_true rfl) (fun p e s m args below meth c G C hr hk => bX6_bitOf_0 C hr hk hf true)
theorem bX6_isBefore_32 (C : mCx p (mR 1) s m args meth c G cX6_isBefore RX6 4 false 233 54500 233 54500) (hr : meth.sig.returnType = (some .boolean)) (hk : meth.locks = false) {b : Bool} {S' : mT} {r : Int32} {s0 : Int32} {S : mT} (hf : fX6_isBefore_32 s0 S = some (r, S')) (ok : Bool) : mW p l e (mR 1) s m args below meth c G 4 233 54500 (mQ below G args s b S' (some (.int r))) (ok, 32, [.retAddr 0, .retAddr 0, .retAddr 0, .retAddr 0], [.int s0], mk b S) := by
  unfold fX6_isBefore_32 at hf
  obtain ⟨hz, hf⟩ := grd_ex hf
  cases hf
  exact gret_z C hr hk (mFit_nar hz) (kX6_isBefore _ (List.mem_of_getElem? (i := 20) rfl)).1
theorem bX6_isBefore_27 (C : mCx p (mR 1) s m args meth c G cX6_isBefore RX6 4 false 233 54500 233 54500) (hr : meth.sig.returnType = (some .boolean)) (hk : meth.locks = false) {b : Bool} {S' : mT} {r : Int32} {S : mT} (hf : fX6_isBefore_27 S = some (r, S')) (ok : Bool) : mW p l e (mR 1) s m args below meth c G 4 233 54500 (mQ below G args s b S' (some (.int r))) (ok, 27, [.retAddr 0, .retAddr 0, .retAddr 0, .retAddr 0], [], mk b S) := by
  unfold fX6_isBefore_27 at hf
  refine msegT C kX6_isBefore 17 2 (g := (true, 32, [.retAddr 0, .retAddr 0, .retAddr 0, .retAddr 0], [.int (1 : Int32)], mk b S)) rfl rfl ?_
  exact mfor (L' := [.retAddr 0, .retAddr 0, .retAddr 0, .retAddr 0]) ⟨Or.inl rfl, Or.inl rfl, Or.inl rfl, Or.inl rfl, trivial⟩ (bX6_isBefore_32 C hr hk hf true)
theorem bX6_isBefore_31 (C : mCx p (mR 1) s m args meth c G cX6_isBefore RX6 4 false 233 54500 233 54500) (hr : meth.sig.returnType = (some .boolean)) (hk : meth.locks = false) {b : Bool} {S' : mT} {r : Int32} {S : mT} (hf : fX6_isBefore_31 S = some (r, S')) (ok : Bool) : mW p l e (mR 1) s m args below meth c G 4 233 54500 (mQ below G args s b S' (some (.int r))) (ok, 31, [.retAddr 0, .retAddr 0, .retAddr 0, .retAddr 0], [], mk b S) := by
  unfold fX6_isBefore_31 at hf
  refine msegT C kX6_isBefore 19 1 (g := (true, 32, [.retAddr 0, .retAddr 0, .retAddr 0, .retAddr 0], [.int (0 : Int32)], mk b S)) rfl rfl ?_
  exact mfor (L' := [.retAddr 0, .retAddr 0, .retAddr 0, .retAddr 0]) ⟨Or.inl rfl, Or.inl rfl, Or.inl rfl, Or.inl rfl, trivial⟩ (bX6_isBefore_32 C hr hk hf true)
theorem bX6_isBefore_0 (C : mCx p (mR 1) s m args meth c G cX6_isBefore RX6 4 false 233 54500 233 54500) (hr : meth.sig.returnType = (some .boolean)) (hk : meth.locks = false) {b : Bool} {S' : mT} {r : Int32} {v1 : Int32} {v2 : Int32} {S : mT} (hf : fX6_isBefore v1 v2 S = some (r, S')) (ok : Bool) : mW p l e (mR 1) s m args below meth c G 4 233 54500 (mQ below G args s b S' (some (.int r))) (ok, 0, [.ref (100), .int v1, .int v2, .retAddr 0], [], mk b S) := by
  unfold fX6_isBefore at hf
  obtain ⟨hok, hf⟩ := grd_ex hf
  refine msegT C kX6_isBefore 0 10 (g := ((kI 101 v2 && (kO 100 6 && (kI 101 v1 && (kO 100 6 && true)))), 14, [.ref (100), .int v1, .int v2, .int ((S.1 101 (mIx v1)) - (S.1 101 (mIx v2)))], [], mk b S)) rfl hok ?_
  obtain ⟨x1, ex1, hf⟩ := bnd_ex hf
  rw [← ex1]
  refine msegT C kX6_isBefore 10 2 (g := (true, (if x1 < 0 then 27 else 18), [.ref (100), .int v1, .int v2, .int x1], [], mk b S)) rfl rfl ?_
  by_cases hc : x1 < 0
  · rw [if_pos hc] at hf ⊢
    exact mfor (L' := [.retAddr 0, .retAddr 0, .retAddr 0, .retAddr 0]) ⟨Or.inl rfl, Or.inl rfl, Or.inl rfl, Or.inl rfl, trivial⟩ (bX6_isBefore_27 C hr hk hf true)
  · rw [if_neg hc] at hf ⊢
    refine msegT C kX6_isBefore 12 2 (g := (true, (if x1 = 0 then 22 else 31), [.ref (100), .int v1, .int v2, .int x1], [], mk b S)) rfl rfl ?_
    by_cases hc : x1 = 0
    · rw [if_pos hc] at hf ⊢
      refine msegT C kX6_isBefore 14 3 (g := (true, (if v2 ≤ v1 then 31 else 27), [.ref (100), .int v1, .int v2, .int x1], [], mk b S)) rfl rfl ?_
      by_cases hc : v2 ≤ v1
      · rw [if_pos hc] at hf ⊢
        exact mfor (L' := [.retAddr 0, .retAddr 0, .retAddr 0, .retAddr 0]) ⟨Or.inl rfl, Or.inl rfl, Or.inl rfl, Or.inl rfl, trivial⟩ (bX6_isBefore_31 C hr hk hf true)
      · rw [if_neg hc] at hf ⊢
        exact mfor (L' := [.retAddr 0, .retAddr 0, .retAddr 0, .retAddr 0]) ⟨Or.inl rfl, Or.inl rfl, Or.inl rfl, Or.inl rfl, trivial⟩ (bX6_isBefore_27 C hr hk hf true)
    · rw [if_neg hc] at hf ⊢
      exact mfor (L' := [.retAddr 0, .retAddr 0, .retAddr 0, .retAddr 0]) ⟨Or.inl rfl, Or.inl rfl, Or.inl rfl, Or.inl rfl, trivial⟩ (bX6_isBefore_31 C hr hk hf true)
theorem qX6_isBefore {b : Bool} {v1 : Int32} {v2 : Int32} {S S' : mT} {r : Int32} (hf : fX6_isBefore v1 v2 S = some (r, S')) : mOk l mX6_isBefore 1 [.ref (100), .int v1, .int v2] b S (some (.int r)) S' :=
  gMet (by decide) (Nat.le_of_ble_eq_true rfl) rfl (Nat.le_of_ble_eq_true rfl) (fun p e s m args below meth c G C hr hk => bX6_isBefore_0 C hr hk hf true)
theorem bX6_findNeighbours_82 (C : mCx p (mR 2) s m args meth c G cX6_findNeighbours RX6 5 false 233 54500 233 54500) (hr : meth.sig.returnType = none) (hk : meth.locks = false) {b : Bool} {S' : mT} {rc2 : Int32 → mT → Option (mT)} (Hrc2 : ∀ (v1 : Int32) (S : mT), rc2 v1 S = some S' → ∀ ok : Bool, mW p l e (mR 2) s m args below meth c G 5 233 54500 (mQ below G args s b S' none) (ok, 2, [.ref (100), .int v1, .retAddr 0, .retAddr 0, .retAddr 0], [], mk b S)) {rc17 : Int32 → Int32 → Int32 → Int32 → mT → Option (mT)} (Hrc17 : ∀ (v1 : Int32) (v2 : Int32) (v3 : Int32) (v4 : Int32) (S : mT), rc17 v1 v2 v3 v4 S = some S' → ∀ ok : Bool, mW p l e (mR 2) s m args below meth c G 5 233 54500 (mQ below G args s b S' none) (ok, 17, [.ref (100), .int v1, .int v2, .int v3, .int v4], [], mk b S)) {v1 : Int32} {v2 : Int32} {v3 : Int32} {v4 : Int32} {S : mT} (hf : fX6_findNeighbours_82 rc2 rc17 v1 v2 v3 v4 S = some S') (ok : Bool) : mW p l e (mR 2) s m args below meth c G 5 233 54500 (mQ below G args s b S' none) (ok, 82, [.ref (100), .int v1, .int v2, .int v3, .int v4], [], mk b S) := by
  unfold fX6_findNeighbours_82 at hf
  refine msegT C kX6_findNeighbours 46 1 (g := (true, 85, [.ref (100), .int v1, .int v2, .int v3, .int (v4 + (1 : Int32))], [], mk b S)) rfl rfl ?_
  obtain ⟨x18, ex18, hf⟩ := bnd_ex hf
  rw [← ex18]
  refine msegT C kX6_findNeighbours 47 1 (g := (true, 17, [.ref (100), .int v1, .int v2, .int v3, .int x18], [], mk b S)) rfl rfl ?_
  exact mfor (L' := [.ref (100), .int v1, .int v2, .int v3, .int x18]) ⟨Or.inr rfl, Or.inr rfl, Or.inr rfl, Or.inr rfl, Or.inr rfl, trivial⟩ (Hrc17 _ _ _ _ _ hf true)
theorem bX6_findNeighbours_79 (C : mCx p (mR 2) s m args meth c G cX6_findNeighbours RX6 5 false 233 54500 233 54500) (hr : meth.sig.returnType = none) (hk : meth.locks = false) {b : Bool} {S' : mT} {rc2 : Int32 → mT → Option (mT)} (Hrc2 : ∀ (v1 : Int32) (S : mT), rc2 v1 S = some S' → ∀ ok : Bool, mW p l e (mR 2) s m args below meth c G 5 233 54500 (mQ below G args s b S' none) (ok, 2, [.ref (100), .int v1, .retAddr 0, .retAddr 0, .retAddr 0], [], mk b S)) {rc17 : Int32 → Int32 → Int32 → Int32 → mT → Option (mT)} (Hrc17 : ∀ (v1 : Int32) (v2 : Int32) (v3 : Int32) (v4 : Int32) (S : mT), rc17 v1 v2 v3 v4 S = some S' → ∀ ok : Bool, mW p l e (mR 2) s m args below meth c G 5 233 54500 (mQ below G args s b S' none) (ok, 17, [.ref (100), .int v1, .int v2, .int v3, .int v4], [], mk b S)) {v1 : Int32} {v2 : Int32} {v4 : Int32} {S : mT} (hf : fX6_findNeighbours_79 rc2 rc17 v1 v2 v4 S = some S') (ok : Bool) : mW p l e (mR 2) s m args below meth c G 5 233 54500 (mQ below G args s b S' none) (ok, 79, [.ref (100), .int v1, .int v2, .retAddr 0, .int v4], [], mk b S) := by
  unfold fX6_findNeighbours_79 at hf
  refine msegT C kX6_findNeighbours 44 2 (g := (true, 82, [.ref (100), .int v1, .int v2, .int v4, .int v4], [], mk b S)) rfl rfl ?_
  exact mfor (L' := [.ref (100), .int v1, .int v2, .int v4, .int v4]) ⟨Or.inr rfl, Or.inr rfl, Or.inr rfl, Or.inr rfl, Or.inr rfl, trivial⟩ (bX6_findNeighbours_82 C hr hk Hrc2 Hrc17 hf true)
theorem bX6_findNeighbours_54 (C : mCx p (mR 2) s m args meth c G cX6_findNeighbours RX6 5 false 233 54500 233 54500) (hr : meth.sig.returnType = none) (hk : meth.locks = false) {b : Bool} {S' : mT} {rc2 : Int32 → mT → Option (mT)} (Hrc2 : ∀ (v1 : Int32) (S : mT), rc2 v1 S = some S' → ∀ ok : Bool, mW p l e (mR 2) s m args below meth c G 5 233 54500 (mQ below G args s b S' none) (ok, 2, [.ref (100), .int v1, .retAddr 0, .retAddr 0, .retAddr 0], [], mk b S)) {rc17 : Int32 → Int32 → Int32 → Int32 → mT → Option (mT)} (Hrc17 : ∀ (v1 : Int32) (v2 : Int32) (v3 : Int32) (v4 : Int32) (S : mT), rc17 v1 v2 v3 v4 S = some S' → ∀ ok : Bool, mW p l e (mR 2) s m args below meth c G 5 233 54500 (mQ below G args s b S' none) (ok, 17, [.ref (100), .int v1, .int v2, .int v3, .int v4], [], mk b S)) {v1 : Int32} {v2 : Int32} {v3 : Int32} {v4 : Int32} {S : mT} (hf : fX6_findNeighbours_54 rc2 rc17 v1 v2 v3 v4 S = some S') (ok : Bool) : mW p l e (mR 2) s m args below meth c G 5 233 54500 (mQ below G args s b S' none) (ok, 54, [.ref (100), .int v1, .int v2, .int v3, .int v4], [], mk b S) := by
  unfold fX6_findNeighbours_54 at hf
  refine msegT C kX6_findNeighbours 31 3 (g := (true, 58, [.ref (100), .int v1, .int v2, .int v3, .int v4], [.int v4, .int v1, .ref (100)], mk b S)) rfl rfl ?_
  obtain ⟨x15, S14, hq, hf⟩ := bndC_ex hf
  refine mcall (kd := 0) (vs := [.ref (100), .int v1, .int v4]) (rest := []) (r := (some (.int x15))) (h' := mk b S14) (ok' := true) C lkRX6_94 (qX6_isBefore hq) (kX6_findNeighbours _ (List.mem_of_getElem? (i := 34) rfl)).1 ⟨_, _, rfl, rfl, Nat.le_of_ble_eq_true rfl, _, _, rfl, rfl, rfl⟩ (Nat.le_of_ble_eq_true rfl) (Nat.le_of_ble_eq_true rfl) (Nat.le_refl _) (Nat.le_refl _) (Nat.le_of_ble_eq_true rfl) ?_
  refine msegT C kX6_findNeighbours 35 1 (g := (true, (if x15 = 0 then 82 else 64), [.ref (100), .int v1, .int v2, .int v3, .int v4], [], mk b S14)) rfl rfl ?_
  by_cases hc : x15 = 0
  · rw [if_pos hc] at hf ⊢
    exact mfor (L' := [.ref (100), .int v1, .int v2, .int v3, .int v4]) ⟨Or.inr rfl, Or.inr rfl, Or.inr rfl, Or.inr rfl, Or.inr rfl, trivial⟩ (bX6_findNeighbours_82 C hr hk Hrc2 Hrc17 hf true)
  · rw [if_neg hc] at hf ⊢
    refine msegT C kX6_findNeighbours 36 3 (g := (true, (if v3 = (-1 : Int32) then 79 else 69), [.ref (100), .int v1, .int v2, .int v3, .int v4], [], mk b S14)) rfl rfl ?_
    by_cases hc : v3 = (-1 : Int32)
    · rw [if_pos hc] at hf ⊢
      exact mfor (L' := [.ref (100), .int v1, .int v2, .retAddr 0, .int v4]) ⟨Or.inr rfl, Or.inr rfl, Or.inr rfl, Or.inl rfl, Or.inr rfl, trivial⟩ (bX6_findNeighbours_79 C hr hk Hrc2 Hrc17 hf true)
    · rw [if_neg hc] at hf ⊢
      refine msegT C kX6_findNeighbours 39 3 (g := (true, 73, [.ref (100), .int v1, .int v2, .int v3, .int v4], [.int v3, .int v4, .ref (100)], mk b S14)) rfl rfl ?_
      obtain ⟨x17, S16, hq, hf⟩ := bndC_ex hf
      refine mcall (kd := 0) (vs := [.ref (100), .int v4, .int v3]) (rest := []) (r := (some (.int x17))) (h' := mk b S16) (ok' := true) C lkRX6_94 (qX6_isBefore hq) (kX6_findNeighbours _ (List.mem_of_getElem? (i := 42) rfl)).1 ⟨_, _, rfl, rfl, Nat.le_of_ble_eq_true rfl, _, _, rfl, rfl, rfl⟩ (Nat.le_of_ble_eq_true rfl) (Nat.le_of_ble_eq_true rfl) (Nat.le_refl _) (Nat.le_refl _) (Nat.le_of_ble_eq_true rfl) ?_
      refine msegT C kX6_findNeighbours 43 1 (g := (true, (if x17 = 0 then 82 else 79), [.ref (100), .int v1, .int v2, .int v3, .int v4], [], mk b S16)) rfl rfl ?_
      by_cases hc : x17 = 0
      · rw [if_pos hc] at hf ⊢
        exact mfor (L' := [.ref (100), .int v1, .int v2, .int v3, .int v4]) ⟨Or.inr rfl, Or.inr rfl, Or.inr rfl, Or.inr rfl, Or.inr rfl, trivial⟩ (bX6_findNeighbours_82 C hr hk Hrc2 Hrc17 hf true)
      · rw [if_neg hc] at hf ⊢
        exact mfor (L' := [.ref (100), .int v1, .int v2, .retAddr 0, .int v4]) ⟨Or.inr rfl, Or.inr rfl, Or.inr rfl, Or.inl rfl, Or.inr rfl, trivial⟩ (bX6_findNeighbours_79 C hr hk Hrc2 Hrc17 hf true)
theorem bX6_findNeighbours_51 (C : mCx p (mR 2) s m args meth c G cX6_findNeighbours RX6 5 false 233 54500 233 54500) (hr : meth.sig.returnType = none) (hk : meth.locks = false) {b : Bool} {S' : mT} {rc2 : Int32 → mT → Option (mT)} (Hrc2 : ∀ (v1 : Int32) (S : mT), rc2 v1 S = some S' → ∀ ok : Bool, mW p l e (mR 2) s m args below meth c G 5 233 54500 (mQ below G args s b S' none) (ok, 2, [.ref (100), .int v1, .retAddr 0, .retAddr 0, .retAddr 0], [], mk b S)) {rc17 : Int32 → Int32 → Int32 → Int32 → mT → Option (mT)} (Hrc17 : ∀ (v1 : Int32) (v2 : Int32) (v3 : Int32) (v4 : Int32) (S : mT), rc17 v1 v2 v3 v4 S = some S' → ∀ ok : Bool, mW p l e (mR 2) s m args below meth c G 5 233 54500 (mQ below G args s b S' none) (ok, 17, [.ref (100), .int v1, .int v2, .int v3, .int v4], [], mk b S)) {v1 : Int32} {v3 : Int32} {v4 : Int32} {S : mT} (hf : fX6_findNeighbours_51 rc2 rc17 v1 v3 v4 S = some S') (ok : Bool) : mW p l e (mR 2) s m args below meth c G 5 233 54500 (mQ below G args s b S' none) (ok, 51, [.ref (100), .int v1, .retAddr 0, .int v3, .int v4], [], mk b S) := by
  unfold fX6_findNeighbours_51 at hf
  refine msegT C kX6_findNeighbours 29 2 (g := (true, 54, [.ref (100), .int v1, .int v4, .int v3, .int v4], [], mk b S)) rfl rfl ?_
  exact mfor (L' := [.ref (100), .int v1, .int v4, .int v3, .int v4]) ⟨Or.inr rfl, Or.inr rfl, Or.inr rfl, Or.inr rfl, Or.inr rfl, trivial⟩ (bX6_findNeighbours_54 C hr hk Hrc2 Hrc17 hf true)
theorem bX6_findNeighbours_121 (C : mCx p (mR 2) s m args meth c G cX6_findNeighbours RX6 5 false 233 54500 233 54500) (hr : meth.sig.returnType = none) (hk : meth.locks = false) {b : Bool} {S' : mT} {rc2 : Int32 → mT → Option (mT)} (Hrc2 : ∀ (v1 : Int32) (S : mT), rc2 v1 S = some S' → ∀ ok : Bool, mW p l e (mR 2) s m args below meth c G 5 233 54500 (mQ below G args s b S' none) (ok, 2, [.ref (100), .int v1, .retAddr 0, .retAddr 0, .retAddr 0], [], mk b S)) {v1 : Int32} {S : mT} (hf : fX6_findNeighbours_121 rc2 v1 S = some S') (ok : Bool) : mW p l e (mR 2) s m args below meth c G 5 233 54500 (mQ below G args s b S' none) (ok, 121, [.ref (100), .int v1, .retAddr 0, .retAddr 0, .retAddr 0], [], mk b S) := by
  unfold fX6_findNeighbours_121 at hf
  refine msegT C kX6_findNeighbours 67 1 (g := (true, 124, [.ref (100), .int (v1 + (1 : Int32)), .retAddr 0, .retAddr 0, .retAddr 0], [], mk b S)) rfl rfl ?_
  obtain ⟨x13, ex13, hf⟩ := bnd_ex hf
  rw [← ex13]
  refine msegT C kX6_findNeighbours 68 1 (g := (true, 2, [.ref (100), .int x13, .retAddr 0, .retAddr 0, .retAddr 0], [], mk b S)) rfl rfl ?_
  exact mfor (L' := [.ref (100), .int x13, .retAddr 0, .retAddr 0, .retAddr 0]) ⟨Or.inr rfl, Or.inr rfl, Or.inl rfl, Or.inl rfl, Or.inl rfl, trivial⟩ (Hrc2 _ _ hf true)
theorem bX6_findNeighbours_17 (C : mCx p (mR 2) s m args meth c G cX6_findNeighbours RX6 5 false 233 54500 233 54500) (hr : meth.sig.returnType = none) (hk : meth.locks = false) {b : Bool} {S' : mT} {rc2 : Int32 → mT → Option (mT)} (Hrc2 : ∀ (v1 : Int32) (S : mT), rc2 v1 S = some S' → ∀ ok : Bool, mW p l e (mR 2) s m args below meth c G 5 233 54500 (mQ below G args s b S' none) (ok, 2, [.ref (100), .int v1, .retAddr 0, .retAddr 0, .retAddr 0], [], mk b S)) : ∀ (k : Nat) (v1 : Int32) (v2 : Int32) (v3 : Int32) (v4 : Int32) (S : mT), fX6_findNeighbours_17 rc2 k v1 v2 v3 v4 S = some S' → ∀ ok : Bool, mW p l e (mR 2) s m args below meth c G 5 233 54500 (mQ below G args s b S' none) (ok, 17, [.ref (100), .int v1, .int v2, .int v3, .int v4], [], mk b S) := by
  intro k
  induction k with
  | zero =>
    intro v1 v2 v3 v4 S hf ok
    cases hf
  | succ k ih =>
    intro v1 v2 v3 v4 S hf ok
    unfold fX6_findNeighbours_17 at hf
    obtain ⟨hok, hf⟩ := grd_ex hf
    refine msegT C kX6_findNeighbours 12 4 (g := ((kO 100 6 && true), (if (S.1 100 8) ≤ v4 then 88 else 26), [.ref (100), .int v1, .int v2, .int v3, .int v4], [], mk b S)) rfl hok ?_
    by_cases hc : (S.1 100 8) ≤ v4
    · rw [if_pos hc] at hf ⊢
      obtain ⟨hok, hf⟩ := grd_ex hf
      refine msegT C kX6_findNeighbours 48 4 (g := ((kO 100 6 && true), 94, [.ref (100), .int v1, .int v2, .int v3, .int v4], [.int v2, .int v1, .ref 106], mk b S)) rfl hok ?_
      obtain ⟨x2, S1, hq, hf⟩ := bndC_ex hf
      refine mcall (kd := 1) (vs := [.int v2]) (rest := [.int v1, .ref 106]) (r := (some (.int x2))) (h' := mk b S1) (ok' := true) C lkRX6_98 (qX6_bitOf hq) (kX6_findNeighbours _ (List.mem_of_getElem? (i := 52) rfl)).1 rfl (Nat.le_of_ble_eq_true rfl) (Nat.le_of_ble_eq_true rfl) (Nat.le_refl _) (Nat.le_refl _) (Nat.le_of_ble_eq_true rfl) ?_
      refine msegT C kX6_findNeighbours 53 1 (g := (true, 98, [.ref (100), .int v1, .int v2, .int v3, .int v4], [.int v3, .int x2, .int v1, .ref 106], mk b S1)) rfl rfl ?_
      obtain ⟨x4, S3, hq, hf⟩ := bndC_ex hf
      refine mcall (kd := 1) (vs := [.int v3]) (rest := [.int x2, .int v1, .ref 106]) (r := (some (.int x4))) (h' := mk b S3) (ok' := true) C lkRX6_98 (qX6_bitOf hq) (kX6_findNeighbours _ (List.mem_of_getElem? (i := 54) rfl)).1 rfl (Nat.le_of_ble_eq_true rfl) (Nat.le_of_ble_eq_true rfl) (Nat.le_refl _) (Nat.le_refl _) (Nat.le_of_ble_eq_true rfl) ?_
      obtain ⟨hok, hf⟩ := grd_ex hf
      refine msegT C kX6_findNeighbours 55 2 (g := ((kI 106 v1 && true), 103, [.ref (100), .int v1, .int v2, .int v3, .int v4], [], mk b (sI S3 106 (mIx v1) (x2 ||| x4)))) rfl hok ?_
      obtain ⟨S5, eS5, hf⟩ := bnd_ex hf
      rw [← eS5]
      obtain ⟨hok, hf⟩ := grd_ex hf
      refine msegT C kX6_findNeighbours 57 4 (g := ((kO 100 6 && true), (if (S5.1 100 8) = (1 : Int32) then 111 else 121), [.ref (100), .int v1, .int v2, .int v3, .int v4], [], mk b S5)) rfl hok ?_
      by_cases hc : (S5.1 100 8) = (1 : Int32)
      · rw [if_pos hc] at hf ⊢
        obtain ⟨hok, hf⟩ := grd_ex hf
        refine msegT C kX6_findNeighbours 61 4 (g := ((kO 100 6 && true), 117, [.ref (100), .int v1, .int v2, .int v3, .int v4], [.int v1, .int v1, .ref 106], mk b S5)) rfl hok ?_
        obtain ⟨x7, S6, hq, hf⟩ := bndC_ex hf
        refine mcall (kd := 1) (vs := [.int v1]) (rest := [.int v1, .ref 106]) (r := (some (.int x7))) (h' := mk b S6) (ok' := true) C lkRX6_98 (qX6_bitOf hq) (kX6_findNeighbours _ (List.mem_of_getElem? (i := 65) rfl)).1 rfl (Nat.le_of_ble_eq_true rfl) (Nat.le_of_ble_eq_true rfl) (Nat.le_refl _) (Nat.le_refl _) (Nat.le_of_ble_eq_true rfl) ?_
        obtain ⟨hok, hf⟩ := grd_ex hf
        refine msegT C kX6_findNeighbours 66 1 (g := ((kI 106 v1 && true), 121, [.ref (100), .int v1, .int v2, .int v3, .int v4], [], mk b (sI S6 106 (mIx v1) x7))) rfl hok ?_
        obtain ⟨S8, eS8, hf⟩ := bnd_ex hf
        rw [← eS8]
        exact mfor (L' := [.ref (100), .int v1, .retAddr 0, .retAddr 0, .retAddr 0]) ⟨Or.inr rfl, Or.inr rfl, Or.inl rfl, Or.inl rfl, Or.inl rfl, trivial⟩ (bX6_findNeighbours_121 C hr hk Hrc2 hf true)
      · rw [if_neg hc] at hf ⊢
        exact mfor (L' := [.ref (100), .int v1, .retAddr 0, .retAddr 0, .retAddr 0]) ⟨Or.inr rfl, Or.inr rfl, Or.inl rfl, Or.inl rfl, Or.inl rfl, trivial⟩ (bX6_findNeighbours_121 C hr hk Hrc2 hf true)
    · rw [if_neg hc] at hf ⊢
      refine msegT C kX6_findNeighbours 16 3 (g := (true, 30, [.ref (100), .int v1, .int v2, .int v3, .int v4], [.int v1, .int v4, .ref (100)], mk b S)) rfl rfl ?_
      obtain ⟨x10, S9, hq, hf⟩ := bndC_ex hf
      refine mcall (kd := 0) (vs := [.ref (100), .int v4, .int v1]) (rest := []) (r := (some (.int x10))) (h' := mk b S9) (ok' := true) C lkRX6_94 (qX6_isBefore hq) (kX6_findNeighbours _ (List.mem_of_getElem? (i := 19) rfl)).1 ⟨_, _, rfl, rfl, Nat.le_of_ble_eq_true rfl, _, _, rfl, rfl, rfl⟩ (Nat.le_of_ble_eq_true rfl) (Nat.le_of_ble_eq_true rfl) (Nat.le_refl _) (Nat.le_refl _) (Nat.le_of_ble_eq_true rfl) ?_
      refine msegT C kX6_findNeighbours 20 1 (g := (true, (if x10 = 0 then 54 else 36), [.ref (100), .int v1, .int v2, .int v3, .int v4], [], mk b S9)) rfl rfl ?_
      by_cases hc : x10 = 0
      · rw [if_pos hc] at hf ⊢
        exact mfor (L' := [.ref (100), .int v1, .int v2, .int v3, .int v4]) ⟨Or.inr rfl, Or.inr rfl, Or.inr rfl, Or.inr rfl, Or.inr rfl, trivial⟩ (bX6_findNeighbours_54 C hr hk Hrc2 ih hf true)
      · rw [if_neg hc] at hf ⊢
        refine msegT C kX6_findNeighbours 21 3 (g := (true, (if v2 = (-1 : Int32) then 51 else 41), [.ref (100), .int v1, .int v2, .int v3, .int v4], [], mk b S9)) rfl rfl ?_
        by_cases hc : v2 = (-1 : Int32)
        · rw [if_pos hc] at hf ⊢
          exact mfor (L' := [.ref (100), .int v1, .retAddr 0, .int v3, .int v4]) ⟨Or.inr rfl, Or.inr rfl, Or.inl rfl, Or.inr rfl, Or.inr rfl, trivial⟩ (bX6_findNeighbours_51 C hr hk Hrc2 ih hf true)
        · rw [if_neg hc] at hf ⊢
          refine msegT C kX6_findNeighbours 24 3 (g := (true, 45, [.ref (100), .int v1, .int v2, .int v3, .int v4], [.int v4, .int v2, .ref (100)], mk b S9)) rfl rfl ?_
          obtain ⟨x12, S11, hq, hf⟩ := bndC_ex hf
          refine mcall (kd := 0) (vs := [.ref (100), .int v2, .int v4]) (rest := []) (r := (some (.int x12))) (h' := mk b S11) (ok' := true) C lkRX6_94 (qX6_isBefore hq) (kX6_findNeighbours _ (List.mem_of_getElem? (i := 27) rfl)).1 ⟨_, _, rfl, rfl, Nat.le_of_ble_eq_true rfl, _, _, rfl, rfl, rfl⟩ (Nat.le_of_ble_eq_true rfl) (Nat.le_of_ble_eq_true rfl) (Nat.le_refl _) (Nat.le_refl _) (Nat.le_of_ble_eq_true rfl) ?_
          refine msegT C kX6_findNeighbours 28 1 (g := (true, (if x12 = 0 then 54 else 51), [.ref (100), .int v1, .int v2, .int v3, .int v4], [], mk b S11)) rfl rfl ?_
          by_cases hc : x12 = 0
          · rw [if_pos hc] at hf ⊢
            exact mfor (L' := [.ref (100), .int v1, .int v2, .int v3, .int v4]) ⟨Or.inr rfl, Or.inr rfl, Or.inr rfl, Or.inr rfl, Or.inr rfl, trivial⟩ (bX6_findNeighbours_54 C hr hk Hrc2 ih hf true)
          · rw [if_neg hc] at hf ⊢
            exact mfor (L' := [.ref (100), .int v1, .retAddr 0, .int v3, .int v4]) ⟨Or.inr rfl, Or.inr rfl, Or.inl rfl, Or.inr rfl, Or.inr rfl, trivial⟩ (bX6_findNeighbours_51 C hr hk Hrc2 ih hf true)
theorem bX6_findNeighbours_2 (C : mCx p (mR 2) s m args meth c G cX6_findNeighbours RX6 5 false 233 54500 233 54500) (hr : meth.sig.returnType = none) (hk : meth.locks = false) {b : Bool} {S' : mT} : ∀ (k : Nat) (v1 : Int32) (S : mT), fX6_findNeighbours_2 k v1 S = some S' → ∀ ok : Bool, mW p l e (mR 2) s m args below meth c G 5 233 54500 (mQ below G args s b S' none) (ok, 2, [.ref (100), .int v1, .retAddr 0, .retAddr 0, .retAddr 0], [], mk b S) := by
  intro k
  induction k with
  | zero =>
    intro v1 S hf ok
    cases hf
  | succ k ih =>
    intro v1 S hf ok
    unfold fX6_findNeighbours_2 at hf
    obtain ⟨hok, hf⟩ := grd_ex hf
    refine msegT C kX6_findNeighbours 2 4 (g := ((kO 100 6 && true), (if (S.1 100 8) ≤ v1 then 127 else 10), [.ref (100), .int v1, .retAddr 0, .retAddr 0, .retAddr 0], [], mk b S)) rfl hok ?_
    by_cases hc : (S.1 100 8) ≤ v1
    · rw [if_pos hc] at hf ⊢
      cases hf
      exact gret_v C hr hk (kX6_findNeighbours _ (List.mem_of_getElem? (i := 69) rfl)).1
    · rw [if_neg hc] at hf ⊢
      refine msegT C kX6_findNeighbours 6 6 (g := (true, 17, [.ref (100), .int v1, .int (-1 : Int32), .int (-1 : Int32), .int (0 : Int32)], [], mk b S)) rfl rfl ?_
      exact mfor (L' := [.ref (100), .int v1, .int (-1 : Int32), .int (-1 : Int32), .int (0 : Int32)]) ⟨Or.inr rfl, Or.inr rfl, Or.inr rfl, Or.inr rfl, Or.inr rfl, trivial⟩ (bX6_findNeighbours_17 C hr hk ih _ _ _ _ _ _ hf true)
theorem bX6_findNeighbours_0 (C : mCx p (mR 2) s m args meth c G cX6_findNeighbours RX6 5 false 233 54500 233 54500) (hr : meth.sig.returnType = none) (hk : meth.locks = false) {b : Bool} {S' : mT} {S : mT} (hf : fX6_findNeighbours S = some S') (ok : Bool) : mW p l e (mR 2) s m args below meth c G 5 233 54500 (mQ below G args s b S' none) (ok, 0, [.ref (100), .retAddr 0, .retAddr 0, .retAddr 0, .retAddr 0], [], mk b S) := by
  unfold fX6_findNeighbours at hf
  refine msegT C kX6_findNeighbours 0 2 (g := (true, 2, [.ref (100), .int (0 : Int32), .retAddr 0, .retAddr 0, .retAddr 0], [], mk b S)) rfl rfl ?_
  exact mfor (L' := [.ref (100), .int (0 : Int32), .retAddr 0, .retAddr 0, .retAddr 0]) ⟨Or.inr rfl, Or.inr rfl, Or.inl rfl, Or.inl rfl, Or.inl rfl, trivial⟩ (bX6_findNeighbours_2 C hr hk _ _ _ hf true)
theorem qX6_findNeighbours {b : Bool} {S S' : mT} (hf : fX6_findNeighbours S = some S') : mOk l mX6_findNeighbours 2 [.ref (100)] b S none S' :=
  gMet (by decide) (Nat.le_of_ble_eq_true rfl) rfl (Nat.le_of_ble_eq_true rfl) (fun p e s m args below meth c G C hr hk => bX6_findNeighbours_0 C hr hk hf true)
theorem bX6_firstOnTheWay_2 (C : mCx p (mR 2) s m args meth c G cX6_firstOnTheWay RX6 3 false 233 54500 233 54500) (hr : meth.sig.returnType = (some .int)) (hk : meth.locks = false) {b : Bool} {S' : mT} {r : Int32} : ∀ (k : Nat) (v1 : Int32) (v2 : Int32) (S : mT), fX6_firstOnTheWay_2 k v1 v2 S = some (r, S') → ∀ ok : Bool, mW p l e (mR 2) s m args below meth c G 3 233 54500 (mQ below G args s b S' (some (.int r))) (ok, 2, [.ref (100), .int v1, .int v2], [], mk b S) := by
  intro k
  induction k with
  | zero =>
    intro v1 v2 S hf ok
    cases hf
  | succ k ih =>
    intro v1 v2 S hf ok
    unfold fX6_firstOnTheWay_2 at hf
    obtain ⟨hok, hf⟩ := grd_ex hf
    refine msegT C kX6_firstOnTheWay 2 4 (g := ((kO 100 6 && true), (if (S.1 100 8) ≤ v2 then 38 else 10), [.ref (100), .int v1, .int v2], [], mk b S)) rfl hok ?_
    by_cases hc : (S.1 100 8) ≤ v2
    · rw [if_pos hc] at hf ⊢
      refine msegT C kX6_firstOnTheWay 22 1 (g := (true, 39, [.ref (100), .int v1, .int v2], [.int (0 : Int32)], mk b S)) rfl rfl ?_
      cases hf
      exact gret_i C hr hk (kX6_firstOnTheWay _ (List.mem_of_getElem? (i := 23) rfl)).1
    · rw [if_neg hc] at hf ⊢
      obtain ⟨hok, hf⟩ := grd_ex hf
      refine msegT C kX6_firstOnTheWay 6 5 (g := ((kO 100 6 && true), 17, [.ref (100), .int v1, .int v2], [.int v2, .int v1, .ref (100), .ref 107], mk b S)) rfl hok ?_
      obtain ⟨x2, S1, hq, hf⟩ := bndC_ex hf
      refine mcall (kd := 0) (vs := [.ref (100), .int v1, .int v2]) (rest := [.ref 107]) (r := (some (.int x2))) (h' := mk b S1) (ok' := true) C lkRX6_91 (qX6_afterKnock hq) (kX6_firstOnTheWay _ (List.mem_of_getElem? (i := 11) rfl)).1 ⟨_, _, rfl, rfl, Nat.le_of_ble_eq_true rfl, _, _, rfl, rfl, rfl⟩ (Nat.le_of_ble_eq_true rfl) (Nat.le_of_ble_eq_true rfl) (Nat.le_refl _) (Nat.le_refl _) (Nat.le_of_ble_eq_true rfl) ?_
      obtain ⟨hok, hf⟩ := grd_ex hf
      refine msegT C kX6_firstOnTheWay 12 6 (g := ((kI 107 v1 && (kO 100 6 && (kI 107 x2 && true))), (if (S1.1 107 (mIx v1)) ≤ (S1.1 107 (mIx x2)) then 32 else 30), [.ref (100), .int v1, .int v2], [], mk b S1)) rfl hok ?_
      by_cases hc : (S1.1 107 (mIx v1)) ≤ (S1.1 107 (mIx x2))
      · rw [if_pos hc] at hf ⊢
        refine msegT C kX6_firstOnTheWay 20 1 (g := (true, 35, [.ref (100), .int v1, .int (v2 + (1 : Int32))], [], mk b S1)) rfl rfl ?_
        obtain ⟨x3, ex3, hf⟩ := bnd_ex hf
        rw [← ex3]
        refine msegT C kX6_firstOnTheWay 21 1 (g := (true, 2, [.ref (100), .int v1, .int x3], [], mk b S1)) rfl rfl ?_
        exact mfor (L' := [.ref (100), .int v1, .int x3]) ⟨Or.inr rfl, Or.inr rfl, Or.inr rfl, trivial⟩ (ih _ _ _ hf true)
      · rw [if_neg hc] at hf ⊢
        refine msegT C kX6_firstOnTheWay 18 1 (g := (true, 31, [.ref (100), .int v1, .int v2], [.int v2], mk b S1)) rfl rfl ?_
        cases hf
        exact gret_i C hr hk (kX6_firstOnTheWay _ (List.mem_of_getElem? (i := 19) rfl)).1
theorem bX6_firstOnTheWay_0 (C : mCx p (mR 2) s m args meth c G cX6_firstOnTheWay RX6 3 false 233 54500 233 54500) (hr : meth.sig.returnType = (some .int)) (hk : meth.locks = false) {b : Bool} {S' : mT} {r : Int32} {v1 : Int32} {S : mT} (hf : fX6_firstOnTheWay v1 S = some (r, S')) (ok : Bool) : mW p l e (mR 2) s m args below meth c G 3 233 54500 (mQ below G args s b S' (some (.int r))) (ok, 0, [.ref (100), .int v1, .retAddr 0], [], mk b S) := by
  unfold fX6_firstOnTheWay at hf
  refine msegT C kX6_firstOnTheWay 0 2 (g := (true, 2, [.ref (100), .int v1, .int (0 : Int32)], [], mk b S)) rfl rfl ?_
  exact mfor (L' := [.ref (100), .int v1, .int (0 : Int32)]) ⟨Or.inr rfl, Or.inr rfl, Or.inr rfl, trivial⟩ (bX6_firstOnTheWay_2 C hr hk _ _ _ _ hf true)
theorem qX6_firstOnTheWay {b : Bool} {v1 : Int32} {S S' : mT} {r : Int32} (hf : fX6_firstOnTheWay v1 S = some (r, S')) : mOk l mX6_firstOnTheWay 2 [.ref (100), .int v1] b S (some (.int r)) S' :=
  gMet (by decide) (Nat.le_of_ble_eq_true rfl) rfl (Nat.le_of_ble_eq_true rfl) (fun p e s m args below meth c G C hr hk => bX6_firstOnTheWay_0 C hr hk hf true)
theorem bX6_planKnocks_55 (C : mCx p (mR 4) s m args meth c G cX6_planKnocks RX6 4 false 233 54500 233 54500) (hr : meth.sig.returnType = (some .int)) (hk : meth.locks = false) {b : Bool} {S' : mT} {r : Int32} {v2 : Int32} {S : mT} (hf : fX6_planKnocks_55 v2 S = some (r, S')) (ok : Bool) : mW p l e (mR 4) s m args below meth c G 4 233 54500 (mQ below G args s b S' (some (.int r))) (ok, 55, [.retAddr 0, .retAddr 0, .int v2, .retAddr 0], [], mk b S) := by
  unfold fX6_planKnocks_55 at hf
  refine msegT C kX6_planKnocks 34 1 (g := (true, 56, [.retAddr 0, .retAddr 0, .int v2, .retAddr 0], [.int v2], mk b S)) rfl rfl ?_
  cases hf
  exact gret_i C hr hk (kX6_planKnocks _ (List.mem_of_getElem? (i := 35) rfl)).1
theorem bX6_planKnocks_19 (C : mCx p (mR 4) s m args meth c G cX6_planKnocks RX6 4 false 233 54500 233 54500) (hr : meth.sig.returnType = (some .int)) (hk : meth.locks = false) {b : Bool} {S' : mT} {r : Int32} : ∀ (k : Nat) (v1 : Int32) (v2 : Int32) (S : mT), fX6_planKnocks_19 k v1 v2 S = some (r, S') → ∀ ok : Bool, mW p l e (mR 4) s m args below meth c G 4 233 54500 (mQ below G args s b S' (some (.int r))) (ok, 19, [.ref (100), .int v1, .int v2, .retAddr 0], [], mk b S) := by
  intro k
  induction k with
  | zero =>
    intro v1 v2 S hf ok
    cases hf
  | succ k ih =>
    intro v1 v2 S hf ok
    unfold fX6_planKnocks_19 at hf
    refine msegT C kX6_planKnocks 13 2 (g := (true, (if v1 = 0 then 55 else 23), [.ref (100), .int v1, .int v2, .retAddr 0], [], mk b S)) rfl rfl ?_
    by_cases hc : v1 = 0
    · rw [if_pos hc] at hf ⊢
      exact mfor (L' := [.retAddr 0, .retAddr 0, .int v2, .retAddr 0]) ⟨Or.inl rfl, Or.inl rfl, Or.inr rfl, Or.inl rfl, trivial⟩ (bX6_planKnocks_55 C hr hk hf true)
    · rw [if_neg hc] at hf ⊢
      refine msegT C kX6_planKnocks 15 3 (g := (true, (if (8 : Int32) ≤ v2 then 55 else 29), [.ref (100), .int v1, .int v2, .retAddr 0], [], mk b S)) rfl rfl ?_
      by_cases hc : (8 : Int32) ≤ v2
      · rw [if_pos hc] at hf ⊢
        exact mfor (L' := [.retAddr 0, .retAddr 0, .int v2, .retAddr 0]) ⟨Or.inl rfl, Or.inl rfl, Or.inr rfl, Or.inl rfl, trivial⟩ (bX6_planKnocks_55 C hr hk hf true)
      · rw [if_neg hc] at hf ⊢
        refine msegT C kX6_planKnocks 18 2 (g := (true, 31, [.ref (100), .int v1, .int v2, .retAddr 0], [.int v1, .ref (100)], mk b S)) rfl rfl ?_
        obtain ⟨x5, S4, hq, hf⟩ := bndC_ex hf
        refine mcall (kd := 0) (vs := [.ref (100), .int v1]) (rest := []) (r := (some (.int x5))) (h' := mk b S4) (ok' := true) C lkRX6_87 (qX6_firstOnTheWay hq) (kX6_planKnocks _ (List.mem_of_getElem? (i := 20) rfl)).1 ⟨_, _, rfl, rfl, Nat.le_of_ble_eq_true rfl, _, _, rfl, rfl, rfl⟩ (Nat.le_of_ble_eq_true rfl) (Nat.le_of_ble_eq_true rfl) (Nat.le_refl _) (Nat.le_refl _) (Nat.le_of_ble_eq_true rfl) ?_
        obtain ⟨hok, hf⟩ := grd_ex hf
        refine msegT C kX6_planKnocks 21 6 (g := ((kI 108 v2 && (kO 100 6 && true)), 42, [.ref (100), .int v1, .int v2, .int x5], [], mk b (sI S4 108 (mIx v2) x5))) rfl hok ?_
        obtain ⟨S6, eS6, hf⟩ := bnd_ex hf
        rw [← eS6]
        refine msegT C kX6_planKnocks 27 1 (g := (true, 45, [.ref (100), .int v1, .int (v2 + (1 : Int32)), .int x5], [], mk b S6)) rfl rfl ?_
        obtain ⟨x7, ex7, hf⟩ := bnd_ex hf
        rw [← ex7]
        refine msegT C kX6_planKnocks 28 3 (g := (true, 48, [.ref (100), .int v1, .int x7, .int x5], [.int x5, .int v1, .ref (100)], mk b S6)) rfl rfl ?_
        obtain ⟨x9, S8, hq, hf⟩ := bndC_ex hf
        refine mcall (kd := 0) (vs := [.ref (100), .int v1, .int x5]) (rest := []) (r := (some (.int x9))) (h' := mk b S8) (ok' := true) C lkRX6_91 (qX6_afterKnock hq) (kX6_planKnocks _ (List.mem_of_getElem? (i := 31) rfl)).1 ⟨_, _, rfl, rfl, Nat.le_of_ble_eq_true rfl, _, _, rfl, rfl, rfl⟩ (Nat.le_of_ble_eq_true rfl) (Nat.le_of_ble_eq_true rfl) (Nat.le_refl _) (Nat.le_refl _) (Nat.le_of_ble_eq_true rfl) ?_
        refine msegT C kX6_planKnocks 32 2 (g := (true, 19, [.ref (100), .int x9, .int x7, .int x5], [], mk b S8)) rfl rfl ?_
        exact mfor (L' := [.ref (100), .int x9, .int x7, .retAddr 0]) ⟨Or.inr rfl, Or.inr rfl, Or.inr rfl, Or.inl rfl, trivial⟩ (ih _ _ _ hf true)
theorem bX6_planKnocks_0 (C : mCx p (mR 4) s m args meth c G cX6_planKnocks RX6 4 false 233 54500 233 54500) (hr : meth.sig.returnType = (some .int)) (hk : meth.locks = false) {b : Bool} {S' : mT} {r : Int32} {S : mT} (hf : fX6_planKnocks S = some (r, S')) (ok : Bool) : mW p l e (mR 4) s m args below meth c G 4 233 54500 (mQ below G args s b S' (some (.int r))) (ok, 0, [.ref (100), .retAddr 0, .retAddr 0, .retAddr 0], [], mk b S) := by
  unfold fX6_planKnocks at hf
  refine msegT C kX6_planKnocks 0 1 (g := (true, 1, [.ref (100), .retAddr 0, .retAddr 0, .retAddr 0], [.ref (100)], mk b S)) rfl rfl ?_
  obtain ⟨S1, hq, hf⟩ := bndV_ex hf
  refine mcall (kd := 0) (vs := [.ref (100)]) (rest := []) (r := none) (h' := mk b S1) (ok' := true) C lkRX6_81 (qX6_findNeighbours hq) (kX6_planKnocks _ (List.mem_of_getElem? (i := 1) rfl)).1 ⟨_, _, rfl, rfl, Nat.le_of_ble_eq_true rfl, _, _, rfl, rfl, rfl⟩ (Nat.le_of_ble_eq_true rfl) (Nat.le_of_ble_eq_true rfl) (Nat.le_refl _) (Nat.le_refl _) (Nat.le_of_ble_eq_true rfl) ?_
  refine msegT C kX6_planKnocks 2 1 (g := (true, 5, [.ref (100), .retAddr 0, .retAddr 0, .retAddr 0], [.ref (100)], mk b S1)) rfl rfl ?_
  obtain ⟨S2, hq, hf⟩ := bndV_ex hf
  refine mcall (kd := 0) (vs := [.ref (100)]) (rest := []) (r := none) (h' := mk b S2) (ok' := true) C lkRX6_84 (qX6_countSteps hq) (kX6_planKnocks _ (List.mem_of_getElem? (i := 3) rfl)).1 ⟨_, _, rfl, rfl, Nat.le_of_ble_eq_true rfl, _, _, rfl, rfl, rfl⟩ (Nat.le_of_ble_eq_true rfl) (Nat.le_of_ble_eq_true rfl) (Nat.le_refl _) (Nat.le_refl _) (Nat.le_of_ble_eq_true rfl) ?_
  obtain ⟨hok, hf⟩ := grd_ex hf
  refine msegT C kX6_planKnocks 4 7 (g := ((kO 100 6 && true), 17, [.ref (100), .int (((1 : Int32) <<< ((S2.1 100 8) &&& 31)) - (1 : Int32)), .retAddr 0, .retAddr 0], [], mk b S2)) rfl hok ?_
  obtain ⟨x3, ex3, hf⟩ := bnd_ex hf
  rw [← ex3]
  refine msegT C kX6_planKnocks 11 2 (g := (true, 19, [.ref (100), .int x3, .int (0 : Int32), .retAddr 0], [], mk b S2)) rfl rfl ?_
  exact mfor (L' := [.ref (100), .int x3, .int (0 : Int32), .retAddr 0]) ⟨Or.inr rfl, Or.inr rfl, Or.inr rfl, Or.inl rfl, trivial⟩ (bX6_planKnocks_19 C hr hk _ _ _ _ hf true)
theorem qX6_planKnocks {b : Bool} {S S' : mT} {r : Int32} (hf : fX6_planKnocks S = some (r, S')) : mOk l mX6_planKnocks 4 [.ref (100)] b S (some (.int r)) S' :=
  gMet (by decide) (Nat.le_of_ble_eq_true rfl) rfl (Nat.le_of_ble_eq_true rfl) (fun p e s m args below meth c G C hr hk => bX6_planKnocks_0 C hr hk hf true)
theorem bX11_chase_0_f (C : mCx p (mR 5) s m args meth c G cX11_chase RX11 2 false 233 54500 233 54500) (hr : meth.sig.returnType = (some .int)) (hk : meth.locks = false) {S' : mT} {r : Int32} {S : mT} (hf : fX11_chase false S = some (r, S')) (ok : Bool) : mW p l e (mR 5) s m args below meth c G 2 233 54500 (mQ below G args s false S' (some (.int r))) (ok, 0, [.ref (0), .retAddr 0], [], mk false S) := by
  unfold fX11_chase at hf
  obtain ⟨hok, hf⟩ := grd_ex hf
  refine msegT C kX11_chase 0 3 (g := ((kO 0 11 && true), 5, [.ref (0), .retAddr 0], [], mk false (sI S 0 13 (0 : Int32)))) rfl hok ?_
  obtain ⟨S1, eS1, hf⟩ := bnd_ex hf
  rw [← eS1]
  obtain ⟨hok, hf⟩ := grd_ex hf
  refine msegT C kX11_chase 3 4 (g := ((kO (shU false) 8 && (kO 0 11 && true)), (if (S1.1 (shU false) 9) = 0 then 15 else 17), [.ref (0), .retAddr 0], [], mk false S1)) rfl hok ?_
  by_cases hc : (S1.1 (shU false) 9) = 0
  · rw [if_pos hc] at hf ⊢
    refine msegT C kX11_chase 7 1 (g := (true, 16, [.ref (0), .retAddr 0], [.int (-1 : Int32)], mk false S1)) rfl rfl ?_
    cases hf
    exact gret_i C hr hk (kX11_chase _ (List.mem_of_getElem? (i := 8) rfl)).1
  · rw [if_neg hc] at hf ⊢
    obtain ⟨hok, hf⟩ := grd_ex hf
    refine msegT C kX11_chase 9 6 (g := ((kO 0 11 && (kO 0 11 && (kO 0 11 && true))), 29, [.ref (0), .retAddr 0], [.ref 35, .ref (shU false), .ref 100], mk false S1)) rfl hok ?_
    obtain ⟨S2, hq, hf⟩ := bndV_ex hf
    refine mcall (kd := 0) (vs := [.ref 100, .ref (shU false), .ref 35]) (rest := []) (r := none) (h' := mk false S2) (ok' := true) C lkRX11_194 (qX6_look_3 hq) (kX11_chase _ (List.mem_of_getElem? (i := 15) rfl)).1 ⟨_, _, rfl, rfl, Nat.le_of_ble_eq_true rfl, _, _, rfl, rfl, rfl⟩ (Nat.le_of_ble_eq_true rfl) (Nat.le_of_ble_eq_true rfl) (Nat.le_refl _) (Nat.le_refl _) (Nat.le_of_ble_eq_true rfl) ?_
    obtain ⟨hok, hf⟩ := grd_ex hf
    refine msegT C kX11_chase 16 2 (g := ((kO 0 11 && true), 36, [.ref (0), .retAddr 0], [.ref 100], mk false S2)) rfl hok ?_
    obtain ⟨x4, S3, hq, hf⟩ := bndC_ex hf
    refine mcall (kd := 0) (vs := [.ref 100]) (rest := []) (r := (some (.int x4))) (h' := mk false S3) (ok' := true) C lkRX11_232 (qX6_planKnocks hq) (kX11_chase _ (List.mem_of_getElem? (i := 18) rfl)).1 ⟨_, _, rfl, rfl, Nat.le_of_ble_eq_true rfl, _, _, rfl, rfl, rfl⟩ (Nat.le_of_ble_eq_true rfl) (Nat.le_of_ble_eq_true rfl) (Nat.le_refl _) (Nat.le_refl _) (Nat.le_of_ble_eq_true rfl) ?_
    obtain ⟨hok, hf⟩ := grd_ex hf
    refine msegT C kX11_chase 19 6 (g := ((kO 100 6 && (kO 0 11 && true)), 49, [.ref (0), .int x4], [.int x4, .ref 108, .ref (0)], mk false S3)) rfl hok ?_
    obtain ⟨S5, hq, hf⟩ := bndV_ex hf
    refine mcall (kd := 0) (vs := [.ref (0), .ref 108, .int x4]) (rest := []) (r := none) (h' := mk false S5) (ok' := true) C lkRX11_186 (qX11_lay hq) (kX11_chase _ (List.mem_of_getElem? (i := 25) rfl)).1 ⟨_, _, rfl, rfl, Nat.le_of_ble_eq_true rfl, _, _, rfl, rfl, rfl⟩ (Nat.le_of_ble_eq_true rfl) (Nat.le_of_ble_eq_true rfl) (Nat.le_refl _) (Nat.le_refl _) (Nat.le_of_ble_eq_true rfl) ?_
    refine msegT C kX11_chase 26 1 (g := (true, 53, [.ref (0), .int x4], [.int x4], mk false S5)) rfl rfl ?_
    cases hf
    exact gret_i C hr hk (kX11_chase _ (List.mem_of_getElem? (i := 27) rfl)).1
theorem qX11_chase_f {S S' : mT} {r : Int32} (hf : fX11_chase false S = some (r, S')) : mOk l mX11_chase 5 [.ref (0)] false S (some (.int r)) S' :=
  gMet (by decide) (Nat.le_of_ble_eq_true rfl) rfl (Nat.le_of_ble_eq_true rfl) (fun p e s m args below meth c G C hr hk => bX11_chase_0_f C hr hk hf true)
theorem bX11_chase_0_t (C : mCx p (mR 5) s m args meth c G cX11_chase RX11 2 false 233 54500 233 54500) (hr : meth.sig.returnType = (some .int)) (hk : meth.locks = false) {S' : mT} {r : Int32} {S : mT} (hf : fX11_chase true S = some (r, S')) (ok : Bool) : mW p l e (mR 5) s m args below meth c G 2 233 54500 (mQ below G args s true S' (some (.int r))) (ok, 0, [.ref (0), .retAddr 0], [], mk true S) := by
  unfold fX11_chase at hf
  obtain ⟨hok, hf⟩ := grd_ex hf
  refine msegT C kX11_chase 0 3 (g := ((kO 0 11 && true), 5, [.ref (0), .retAddr 0], [], mk true (sI S 0 13 (0 : Int32)))) rfl hok ?_
  obtain ⟨S1, eS1, hf⟩ := bnd_ex hf
  rw [← eS1]
  obtain ⟨hok, hf⟩ := grd_ex hf
  refine msegT C kX11_chase 3 4 (g := ((kO (shU true) 8 && (kO 0 11 && true)), (if (S1.1 (shU true) 9) = 0 then 15 else 17), [.ref (0), .retAddr 0], [], mk true S1)) rfl hok ?_
  by_cases hc : (S1.1 (shU true) 9) = 0
  · rw [if_pos hc] at hf ⊢
    refine msegT C kX11_chase 7 1 (g := (true, 16, [.ref (0), .retAddr 0], [.int (-1 : Int32)], mk true S1)) rfl rfl ?_
    cases hf
    exact gret_i C hr hk (kX11_chase _ (List.mem_of_getElem? (i := 8) rfl)).1
  · rw [if_neg hc] at hf ⊢
    obtain ⟨hok, hf⟩ := grd_ex hf
    refine msegT C kX11_chase 9 6 (g := ((kO 0 11 && (kO 0 11 && (kO 0 11 && true))), 29, [.ref (0), .retAddr 0], [.ref 35, .ref (shU true), .ref 100], mk true S1)) rfl hok ?_
    obtain ⟨S2, hq, hf⟩ := bndV_ex hf
    refine mcall (kd := 0) (vs := [.ref 100, .ref (shU true), .ref 35]) (rest := []) (r := none) (h' := mk true S2) (ok' := true) C lkRX11_194 (qX6_look_19 hq) (kX11_chase _ (List.mem_of_getElem? (i := 15) rfl)).1 ⟨_, _, rfl, rfl, Nat.le_of_ble_eq_true rfl, _, _, rfl, rfl, rfl⟩ (Nat.le_of_ble_eq_true rfl) (Nat.le_of_ble_eq_true rfl) (Nat.le_refl _) (Nat.le_refl _) (Nat.le_of_ble_eq_true rfl) ?_
    obtain ⟨hok, hf⟩ := grd_ex hf
    refine msegT C kX11_chase 16 2 (g := ((kO 0 11 && true), 36, [.ref (0), .retAddr 0], [.ref 100], mk true S2)) rfl hok ?_
    obtain ⟨x4, S3, hq, hf⟩ := bndC_ex hf
    refine mcall (kd := 0) (vs := [.ref 100]) (rest := []) (r := (some (.int x4))) (h' := mk true S3) (ok' := true) C lkRX11_232 (qX6_planKnocks hq) (kX11_chase _ (List.mem_of_getElem? (i := 18) rfl)).1 ⟨_, _, rfl, rfl, Nat.le_of_ble_eq_true rfl, _, _, rfl, rfl, rfl⟩ (Nat.le_of_ble_eq_true rfl) (Nat.le_of_ble_eq_true rfl) (Nat.le_refl _) (Nat.le_refl _) (Nat.le_of_ble_eq_true rfl) ?_
    obtain ⟨hok, hf⟩ := grd_ex hf
    refine msegT C kX11_chase 19 6 (g := ((kO 100 6 && (kO 0 11 && true)), 49, [.ref (0), .int x4], [.int x4, .ref 108, .ref (0)], mk true S3)) rfl hok ?_
    obtain ⟨S5, hq, hf⟩ := bndV_ex hf
    refine mcall (kd := 0) (vs := [.ref (0), .ref 108, .int x4]) (rest := []) (r := none) (h' := mk true S5) (ok' := true) C lkRX11_186 (qX11_lay hq) (kX11_chase _ (List.mem_of_getElem? (i := 25) rfl)).1 ⟨_, _, rfl, rfl, Nat.le_of_ble_eq_true rfl, _, _, rfl, rfl, rfl⟩ (Nat.le_of_ble_eq_true rfl) (Nat.le_of_ble_eq_true rfl) (Nat.le_refl _) (Nat.le_refl _) (Nat.le_of_ble_eq_true rfl) ?_
    refine msegT C kX11_chase 26 1 (g := (true, 53, [.ref (0), .int x4], [.int x4], mk true S5)) rfl rfl ?_
    cases hf
    exact gret_i C hr hk (kX11_chase _ (List.mem_of_getElem? (i := 27) rfl)).1
theorem qX11_chase_t {S S' : mT} {r : Int32} (hf : fX11_chase true S = some (r, S')) : mOk l mX11_chase 5 [.ref (0)] true S (some (.int r)) S' :=
  gMet (by decide) (Nat.le_of_ble_eq_true rfl) rfl (Nat.le_of_ble_eq_true rfl) (fun p e s m args below meth c G C hr hk => bX11_chase_0_t C hr hk hf true)
theorem bX11_isHouse_20_f (C : mCx p (mR 1) s m args meth c G cX11_isHouse RX11 2 false 233 54500 233 54500) (hr : meth.sig.returnType = (some .boolean)) (hk : meth.locks = false) {S' : mT} {r : Int32} {s0 : Int32} {S : mT} (hf : fX11_isHouse_20 false s0 S = some (r, S')) (ok : Bool) : mW p l e (mR 1) s m args below meth c G 2 233 54500 (mQ below G args s false S' (some (.int r))) (ok, 20, [.retAddr 0, .retAddr 0], [.int s0], mk false S) := by
  unfold fX11_isHouse_20 at hf
  obtain ⟨hz, hf⟩ := grd_ex hf
  cases hf
  exact gret_z C hr hk (mFit_nar hz) (kX11_isHouse _ (List.mem_of_getElem? (i := 10) rfl)).1
theorem bX11_isHouse_19_f (C : mCx p (mR 1) s m args meth c G cX11_isHouse RX11 2 false 233 54500 233 54500) (hr : meth.sig.returnType = (some .boolean)) (hk : meth.locks = false) {S' : mT} {r : Int32} {S : mT} (hf : fX11_isHouse_19 false S = some (r, S')) (ok : Bool) : mW p l e (mR 1) s m args below meth c G 2 233 54500 (mQ below G args s false S' (some (.int r))) (ok, 19, [.retAddr 0, .retAddr 0], [], mk false S) := by
  unfold fX11_isHouse_19 at hf
  refine msegT C kX11_isHouse 9 1 (g := (true, 20, [.retAddr 0, .retAddr 0], [.int (0 : Int32)], mk false S)) rfl rfl ?_
  exact mfor (L' := [.retAddr 0, .retAddr 0]) ⟨Or.inl rfl, Or.inl rfl, trivial⟩ (bX11_isHouse_20_f C hr hk hf true)
theorem bX11_isHouse_0_f (C : mCx p (mR 1) s m args meth c G cX11_isHouse RX11 2 false 233 54500 233 54500) (hr : meth.sig.returnType = (some .boolean)) (hk : meth.locks = false) {S' : mT} {r : Int32} {v1 : Int32} {S : mT} (hf : fX11_isHouse false v1 S = some (r, S')) (ok : Bool) : mW p l e (mR 1) s m args below meth c G 2 233 54500 (mQ below G args s false S' (some (.int r))) (ok, 0, [.ref (0), .int v1], [], mk false S) := by
  unfold fX11_isHouse at hf
  refine msegT C kX11_isHouse 0 2 (g := (true, (if v1 < 0 then 19 else 4), [.ref (0), .int v1], [], mk false S)) rfl rfl ?_
  by_cases hc : v1 < 0
  · rw [if_pos hc] at hf ⊢
    exact mfor (L' := [.retAddr 0, .retAddr 0]) ⟨Or.inl rfl, Or.inl rfl, trivial⟩ (bX11_isHouse_19_f C hr hk hf true)
  · rw [if_neg hc] at hf ⊢
    obtain ⟨hok, hf⟩ := grd_ex hf
    refine msegT C kX11_isHouse 2 5 (g := ((kO (shU false) 8 && (kO 0 11 && true)), (if (S.1 (shU false) 9) ≤ v1 then 19 else 15), [.ref (0), .int v1], [], mk false S)) rfl hok ?_
    by_cases hc : (S.1 (shU false) 9) ≤ v1
    · rw [if_pos hc] at hf ⊢
      exact mfor (L' := [.retAddr 0, .retAddr 0]) ⟨Or.inl rfl, Or.inl rfl, trivial⟩ (bX11_isHouse_19_f C hr hk hf true)
    · rw [if_neg hc] at hf ⊢
      refine msegT C kX11_isHouse 7 2 (g := (true, 20, [.ref (0), .int v1], [.int (1 : Int32)], mk false S)) rfl rfl ?_
      exact mfor (L' := [.retAddr 0, .retAddr 0]) ⟨Or.inl rfl, Or.inl rfl, trivial⟩ (bX11_isHouse_20_f C hr hk hf true)
theorem qX11_isHouse_f {v1 : Int32} {S S' : mT} {r : Int32} (hf : fX11_isHouse false v1 S = some (r, S')) : mOk l mX11_isHouse 1 [.ref (0), .int v1] false S (some (.int r)) S' :=
  gMet (by decide) (Nat.le_of_ble_eq_true rfl) rfl (Nat.le_of_ble_eq_true rfl) (fun p e s m args below meth c G C hr hk => bX11_isHouse_0_f C hr hk hf true)
theorem bX11_isHouse_20_t (C : mCx p (mR 1) s m args meth c G cX11_isHouse RX11 2 false 233 54500 233 54500) (hr : meth.sig.returnType = (some .boolean)) (hk : meth.locks = false) {S' : mT} {r : Int32} {s0 : Int32} {S : mT} (hf : fX11_isHouse_20 true s0 S = some (r, S')) (ok : Bool) : mW p l e (mR 1) s m args below meth c G 2 233 54500 (mQ below G args s true S' (some (.int r))) (ok, 20, [.retAddr 0, .retAddr 0], [.int s0], mk true S) := by
  unfold fX11_isHouse_20 at hf
  obtain ⟨hz, hf⟩ := grd_ex hf
  cases hf
  exact gret_z C hr hk (mFit_nar hz) (kX11_isHouse _ (List.mem_of_getElem? (i := 10) rfl)).1
theorem bX11_isHouse_19_t (C : mCx p (mR 1) s m args meth c G cX11_isHouse RX11 2 false 233 54500 233 54500) (hr : meth.sig.returnType = (some .boolean)) (hk : meth.locks = false) {S' : mT} {r : Int32} {S : mT} (hf : fX11_isHouse_19 true S = some (r, S')) (ok : Bool) : mW p l e (mR 1) s m args below meth c G 2 233 54500 (mQ below G args s true S' (some (.int r))) (ok, 19, [.retAddr 0, .retAddr 0], [], mk true S) := by
  unfold fX11_isHouse_19 at hf
  refine msegT C kX11_isHouse 9 1 (g := (true, 20, [.retAddr 0, .retAddr 0], [.int (0 : Int32)], mk true S)) rfl rfl ?_
  exact mfor (L' := [.retAddr 0, .retAddr 0]) ⟨Or.inl rfl, Or.inl rfl, trivial⟩ (bX11_isHouse_20_t C hr hk hf true)
theorem bX11_isHouse_0_t (C : mCx p (mR 1) s m args meth c G cX11_isHouse RX11 2 false 233 54500 233 54500) (hr : meth.sig.returnType = (some .boolean)) (hk : meth.locks = false) {S' : mT} {r : Int32} {v1 : Int32} {S : mT} (hf : fX11_isHouse true v1 S = some (r, S')) (ok : Bool) : mW p l e (mR 1) s m args below meth c G 2 233 54500 (mQ below G args s true S' (some (.int r))) (ok, 0, [.ref (0), .int v1], [], mk true S) := by
  unfold fX11_isHouse at hf
  refine msegT C kX11_isHouse 0 2 (g := (true, (if v1 < 0 then 19 else 4), [.ref (0), .int v1], [], mk true S)) rfl rfl ?_
  by_cases hc : v1 < 0
  · rw [if_pos hc] at hf ⊢
    exact mfor (L' := [.retAddr 0, .retAddr 0]) ⟨Or.inl rfl, Or.inl rfl, trivial⟩ (bX11_isHouse_19_t C hr hk hf true)
  · rw [if_neg hc] at hf ⊢
    obtain ⟨hok, hf⟩ := grd_ex hf
    refine msegT C kX11_isHouse 2 5 (g := ((kO (shU true) 8 && (kO 0 11 && true)), (if (S.1 (shU true) 9) ≤ v1 then 19 else 15), [.ref (0), .int v1], [], mk true S)) rfl hok ?_
    by_cases hc : (S.1 (shU true) 9) ≤ v1
    · rw [if_pos hc] at hf ⊢
      exact mfor (L' := [.retAddr 0, .retAddr 0]) ⟨Or.inl rfl, Or.inl rfl, trivial⟩ (bX11_isHouse_19_t C hr hk hf true)
    · rw [if_neg hc] at hf ⊢
      refine msegT C kX11_isHouse 7 2 (g := (true, 20, [.ref (0), .int v1], [.int (1 : Int32)], mk true S)) rfl rfl ?_
      exact mfor (L' := [.retAddr 0, .retAddr 0]) ⟨Or.inl rfl, Or.inl rfl, trivial⟩ (bX11_isHouse_20_t C hr hk hf true)
theorem qX11_isHouse_t {v1 : Int32} {S S' : mT} {r : Int32} (hf : fX11_isHouse true v1 S = some (r, S')) : mOk l mX11_isHouse 1 [.ref (0), .int v1] true S (some (.int r)) S' :=
  gMet (by decide) (Nat.le_of_ble_eq_true rfl) rfl (Nat.le_of_ble_eq_true rfl) (fun p e s m args below meth c G C hr hk => bX11_isHouse_0_t C hr hk hf true)
theorem bX2_keep_35 (C : mCx p (mR 2) s m args meth c G cX2_keep RX2 2 false 233 54500 233 54500) (hr : meth.sig.returnType = none) (hk : meth.locks = false) {b : Bool} {a1 : Nat} {S' : mT} {S : mT} (hf : fX2_keep_35 a1 S = some S') (ok : Bool) : mW p l e (mR 2) s m args below meth c G 2 233 54500 (mQ below G args s b S' none) (ok, 35, [.ref (37), .ref a1], [], mk b S) := by
  unfold fX2_keep_35 at hf
  obtain ⟨hok, hf⟩ := grd_ex hf
  refine msegT C kX2_keep 19 3 (g := ((kO 37 2 && true), 40, [.ref (37), .ref a1], [], mk b (sI S 37 5 (0 : Int32)))) rfl hok ?_
  obtain ⟨S3, eS3, hf⟩ := bnd_ex hf
  rw [← eS3]
  refine msegT C kX2_keep 22 2 (g := (true, 42, [.ref (37), .ref a1], [.ref a1, .ref (37)], mk b S3)) rfl rfl ?_
  obtain ⟨S4, hq, hf⟩ := bndV_ex hf
  refine mcall (kd := 0) (vs := [.ref (37), .ref a1]) (rest := []) (r := none) (h' := mk b S4) (ok' := true) C lkRX2_33 (qX2_copyFrom hq) (kX2_keep _ (List.mem_of_getElem? (i := 24) rfl)).1 ⟨_, _, rfl, rfl, Nat.le_of_ble_eq_true rfl, _, _, rfl, rfl, rfl⟩ (Nat.le_of_ble_eq_true rfl) (Nat.le_of_ble_eq_true rfl) (Nat.le_refl _) (Nat.le_refl _) (Nat.le_of_ble_eq_true rfl) ?_
  cases hf
  exact gret_v C hr hk (kX2_keep _ (List.mem_of_getElem? (i := 25) rfl)).1
theorem bX2_keep_0 (C : mCx p (mR 2) s m args meth c G cX2_keep RX2 2 false 233 54500 233 54500) (hr : meth.sig.returnType = none) (hk : meth.locks = false) {b : Bool} {a1 : Nat} {S' : mT} {S : mT} (hf : fX2_keep a1 S = some S') (ok : Bool) : mW p l e (mR 2) s m args below meth c G 2 233 54500 (mQ below G args s b S' none) (ok, 0, [.ref (37), .ref a1], [], mk b S) := by
  unfold fX2_keep at hf
  obtain ⟨hok, hf⟩ := grd_ex hf
  refine msegT C kX2_keep 0 4 (g := ((kO 37 2 && true), (if (40 : Int32) ≤ (S.1 37 4) then 22 else 9), [.ref (37), .ref a1], [], mk b S)) rfl hok ?_
  by_cases hc : (40 : Int32) ≤ (S.1 37 4)
  · rw [if_pos hc] at hf ⊢
    obtain ⟨hok, hf⟩ := grd_ex hf
    refine msegT C kX2_keep 11 8 (g := ((kO 37 2 && (decide (¬ (41 : Int32) = 0) && (kO 37 2 && true))), 35, [.ref (37), .ref a1], [], mk b (sI S 37 3 (((S.1 37 3) + (1 : Int32)) - ((S.1 37 3) + (1 : Int32)) / (41 : Int32) * (41 : Int32))))) rfl hok ?_
    obtain ⟨S1, eS1, hf⟩ := bnd_ex hf
    rw [← eS1]
    exact mfor (L' := [.ref (37), .ref a1]) ⟨Or.inr rfl, Or.inr rfl, trivial⟩ (bX2_keep_35 C hr hk hf true)
  · rw [if_neg hc] at hf ⊢
    obtain ⟨hok, hf⟩ := grd_ex hf
    refine msegT C kX2_keep 4 6 (g := ((kO 37 2 && (kO 37 2 && true)), 19, [.ref (37), .ref a1], [], mk b (sI S 37 4 ((S.1 37 4) + (1 : Int32))))) rfl hok ?_
    obtain ⟨S2, eS2, hf⟩ := bnd_ex hf
    rw [← eS2]
    refine msegT C kX2_keep 10 1 (g := (true, 35, [.ref (37), .ref a1], [], mk b S2)) rfl rfl ?_
    exact mfor (L' := [.ref (37), .ref a1]) ⟨Or.inr rfl, Or.inr rfl, trivial⟩ (bX2_keep_35 C hr hk hf true)
theorem qX2_keep {b : Bool} {a1 : Nat} {S S' : mT} (hf : fX2_keep a1 S = some S') : mOk l mX2_keep 2 [.ref (37), .ref a1] b S none S' :=
  gMet (by decide) (Nat.le_of_ble_eq_true rfl) rfl (Nat.le_of_ble_eq_true rfl) (fun p e s m args below meth c G C hr hk => bX2_keep_0 C hr hk hf true)
theorem bX11_comes_21_f (C : mCx p (mR 3) s m args meth c G cX11_comes RX11 2 false 233 54500 233 54500) (hr : meth.sig.returnType = (some .int)) (hk : meth.locks = false) {S' : mT} {r : Int32} {S : mT} (hf : fX11_comes_21 false S = some (r, S')) (ok : Bool) : mW p l e (mR 3) s m args below meth c G 2 233 54500 (mQ below G args s false S' (some (.int r))) (ok, 21, [.retAddr 0, .retAddr 0], [], mk false S) := by
  unfold fX11_comes_21 at hf
  refine msegT C kX11_comes 12 1 (g := (true, 22, [.retAddr 0, .retAddr 0], [.int (-1 : Int32)], mk false S)) rfl rfl ?_
  cases hf
  exact gret_i C hr hk (kX11_comes _ (List.mem_of_getElem? (i := 13) rfl)).1
theorem bX11_comes_0_f (C : mCx p (mR 3) s m args meth c G cX11_comes RX11 2 false 233 54500 233 54500) (hr : meth.sig.returnType = (some .int)) (hk : meth.locks = false) {S' : mT} {r : Int32} {v1 : Int32} {S : mT} (hf : fX11_comes false v1 S = some (r, S')) (ok : Bool) : mW p l e (mR 3) s m args below meth c G 2 233 54500 (mQ below G args s false S' (some (.int r))) (ok, 0, [.ref (0), .int v1], [], mk false S) := by
  unfold fX11_comes at hf
  refine msegT C kX11_comes 0 2 (g := (true, 2, [.ref (0), .int v1], [.int v1, .ref (0)], mk false S)) rfl rfl ?_
  obtain ⟨x2, S1, hq, hf⟩ := bndC_ex hf
  refine mcall (kd := 0) (vs := [.ref (0), .int v1]) (rest := []) (r := (some (.int x2))) (h' := mk false S1) (ok' := true) C lkRX11_124 (qX11_isHouse_f hq) (kX11_comes _ (List.mem_of_getElem? (i := 2) rfl)).1 ⟨_, _, rfl, rfl, Nat.le_of_ble_eq_true rfl, _, _, rfl, rfl, rfl⟩ (Nat.le_of_ble_eq_true rfl) (Nat.le_of_ble_eq_true rfl) (Nat.le_refl _) (Nat.le_refl _) (Nat.le_of_ble_eq_true rfl) ?_
  refine msegT C kX11_comes 3 1 (g := (true, (if x2 = 0 then 21 else 8), [.ref (0), .int v1], [], mk false S1)) rfl rfl ?_
  by_cases hc : x2 = 0
  · rw [if_pos hc] at hf ⊢
    exact mfor (L' := [.retAddr 0, .retAddr 0]) ⟨Or.inl rfl, Or.inl rfl, trivial⟩ (bX11_comes_21_f C hr hk hf true)
  · rw [if_neg hc] at hf ⊢
    obtain ⟨hok, hf⟩ := grd_ex hf
    refine msegT C kX11_comes 4 8 (g := ((kI 35 ((0 : Int32) + v1) && (kO 0 11 && true)), (if (S1.1 35 (mIx ((0 : Int32) + v1))) < (7 : Int32) then 23 else 21), [.ref (0), .int v1], [], mk false S1)) rfl hok ?_
    by_cases hc : (S1.1 35 (mIx ((0 : Int32) + v1))) < (7 : Int32)
    · rw [if_pos hc] at hf ⊢
      obtain ⟨hok, hf⟩ := grd_ex hf
      refine msegT C kX11_comes 14 10 (g := ((kI 35 ((0 : Int32) + v1) && (kI 35 ((0 : Int32) + v1) && (kO 0 11 && true))), 35, [.ref (0), .int v1], [], mk false (sI S1 35 (mIx ((0 : Int32) + v1)) ((S1.1 35 (mIx ((0 : Int32) + v1))) + (1 : Int32))))) rfl hok ?_
      obtain ⟨S3, eS3, hf⟩ := bnd_ex hf
      rw [← eS3]
      obtain ⟨hok, hf⟩ := grd_ex hf
      refine msegT C kX11_comes 24 4 (g := ((kO 0 11 && (kO 0 11 && true)), 43, [.ref (0), .int v1], [.ref 35, .ref 37], mk false S3)) rfl hok ?_
      obtain ⟨S4, hq, hf⟩ := bndV_ex hf
      refine mcall (kd := 0) (vs := [.ref 37, .ref 35]) (rest := []) (r := none) (h' := mk false S4) (ok' := true) C lkRX11_149 (qX2_keep hq) (kX11_comes _ (List.mem_of_getElem? (i := 28) rfl)).1 ⟨_, _, rfl, rfl, Nat.le_of_ble_eq_true rfl, _, _, rfl, rfl, rfl⟩ (Nat.le_of_ble_eq_true rfl) (Nat.le_of_ble_eq_true rfl) (Nat.le_refl _) (Nat.le_refl _) (Nat.le_of_ble_eq_true rfl) ?_
      obtain ⟨hok, hf⟩ := grd_ex hf
      refine msegT C kX11_comes 29 6 (g := ((kI 35 ((0 : Int32) + v1) && (kO 0 11 && true)), 54, [.ref (0), .int v1], [.int (S4.1 35 (mIx ((0 : Int32) + v1)))], mk false S4)) rfl hok ?_
      cases hf
      exact gret_i C hr hk (kX11_comes _ (List.mem_of_getElem? (i := 35) rfl)).1
    · rw [if_neg hc] at hf ⊢
      exact mfor (L' := [.retAddr 0, .retAddr 0]) ⟨Or.inl rfl, Or.inl rfl, trivial⟩ (bX11_comes_21_f C hr hk hf true)
theorem qX11_comes_f {v1 : Int32} {S S' : mT} {r : Int32} (hf : fX11_comes false v1 S = some (r, S')) : mOk l mX11_comes 3 [.ref (0), .int v1] false S (some (.int r)) S' :=
  gMet (by decide) (Nat.le_of_ble_eq_true rfl) rfl (Nat.le_of_ble_eq_true rfl) (fun p e s m args below meth c G C hr hk => bX11_comes_0_f C hr hk hf true)
theorem bX11_comes_21_t (C : mCx p (mR 3) s m args meth c G cX11_comes RX11 2 false 233 54500 233 54500) (hr : meth.sig.returnType = (some .int)) (hk : meth.locks = false) {S' : mT} {r : Int32} {S : mT} (hf : fX11_comes_21 true S = some (r, S')) (ok : Bool) : mW p l e (mR 3) s m args below meth c G 2 233 54500 (mQ below G args s true S' (some (.int r))) (ok, 21, [.retAddr 0, .retAddr 0], [], mk true S) := by
  unfold fX11_comes_21 at hf
  refine msegT C kX11_comes 12 1 (g := (true, 22, [.retAddr 0, .retAddr 0], [.int (-1 : Int32)], mk true S)) rfl rfl ?_
  cases hf
  exact gret_i C hr hk (kX11_comes _ (List.mem_of_getElem? (i := 13) rfl)).1
theorem bX11_comes_0_t (C : mCx p (mR 3) s m args meth c G cX11_comes RX11 2 false 233 54500 233 54500) (hr : meth.sig.returnType = (some .int)) (hk : meth.locks = false) {S' : mT} {r : Int32} {v1 : Int32} {S : mT} (hf : fX11_comes true v1 S = some (r, S')) (ok : Bool) : mW p l e (mR 3) s m args below meth c G 2 233 54500 (mQ below G args s true S' (some (.int r))) (ok, 0, [.ref (0), .int v1], [], mk true S) := by
  unfold fX11_comes at hf
  refine msegT C kX11_comes 0 2 (g := (true, 2, [.ref (0), .int v1], [.int v1, .ref (0)], mk true S)) rfl rfl ?_
  obtain ⟨x2, S1, hq, hf⟩ := bndC_ex hf
  refine mcall (kd := 0) (vs := [.ref (0), .int v1]) (rest := []) (r := (some (.int x2))) (h' := mk true S1) (ok' := true) C lkRX11_124 (qX11_isHouse_t hq) (kX11_comes _ (List.mem_of_getElem? (i := 2) rfl)).1 ⟨_, _, rfl, rfl, Nat.le_of_ble_eq_true rfl, _, _, rfl, rfl, rfl⟩ (Nat.le_of_ble_eq_true rfl) (Nat.le_of_ble_eq_true rfl) (Nat.le_refl _) (Nat.le_refl _) (Nat.le_of_ble_eq_true rfl) ?_
  refine msegT C kX11_comes 3 1 (g := (true, (if x2 = 0 then 21 else 8), [.ref (0), .int v1], [], mk true S1)) rfl rfl ?_
  by_cases hc : x2 = 0
  · rw [if_pos hc] at hf ⊢
    exact mfor (L' := [.retAddr 0, .retAddr 0]) ⟨Or.inl rfl, Or.inl rfl, trivial⟩ (bX11_comes_21_t C hr hk hf true)
  · rw [if_neg hc] at hf ⊢
    obtain ⟨hok, hf⟩ := grd_ex hf
    refine msegT C kX11_comes 4 8 (g := ((kI 35 ((0 : Int32) + v1) && (kO 0 11 && true)), (if (S1.1 35 (mIx ((0 : Int32) + v1))) < (7 : Int32) then 23 else 21), [.ref (0), .int v1], [], mk true S1)) rfl hok ?_
    by_cases hc : (S1.1 35 (mIx ((0 : Int32) + v1))) < (7 : Int32)
    · rw [if_pos hc] at hf ⊢
      obtain ⟨hok, hf⟩ := grd_ex hf
      refine msegT C kX11_comes 14 10 (g := ((kI 35 ((0 : Int32) + v1) && (kI 35 ((0 : Int32) + v1) && (kO 0 11 && true))), 35, [.ref (0), .int v1], [], mk true (sI S1 35 (mIx ((0 : Int32) + v1)) ((S1.1 35 (mIx ((0 : Int32) + v1))) + (1 : Int32))))) rfl hok ?_
      obtain ⟨S3, eS3, hf⟩ := bnd_ex hf
      rw [← eS3]
      obtain ⟨hok, hf⟩ := grd_ex hf
      refine msegT C kX11_comes 24 4 (g := ((kO 0 11 && (kO 0 11 && true)), 43, [.ref (0), .int v1], [.ref 35, .ref 37], mk true S3)) rfl hok ?_
      obtain ⟨S4, hq, hf⟩ := bndV_ex hf
      refine mcall (kd := 0) (vs := [.ref 37, .ref 35]) (rest := []) (r := none) (h' := mk true S4) (ok' := true) C lkRX11_149 (qX2_keep hq) (kX11_comes _ (List.mem_of_getElem? (i := 28) rfl)).1 ⟨_, _, rfl, rfl, Nat.le_of_ble_eq_true rfl, _, _, rfl, rfl, rfl⟩ (Nat.le_of_ble_eq_true rfl) (Nat.le_of_ble_eq_true rfl) (Nat.le_refl _) (Nat.le_refl _) (Nat.le_of_ble_eq_true rfl) ?_
      obtain ⟨hok, hf⟩ := grd_ex hf
      refine msegT C kX11_comes 29 6 (g := ((kI 35 ((0 : Int32) + v1) && (kO 0 11 && true)), 54, [.ref (0), .int v1], [.int (S4.1 35 (mIx ((0 : Int32) + v1)))], mk true S4)) rfl hok ?_
      cases hf
      exact gret_i C hr hk (kX11_comes _ (List.mem_of_getElem? (i := 35) rfl)).1
    · rw [if_neg hc] at hf ⊢
      exact mfor (L' := [.retAddr 0, .retAddr 0]) ⟨Or.inl rfl, Or.inl rfl, trivial⟩ (bX11_comes_21_t C hr hk hf true)
theorem qX11_comes_t {v1 : Int32} {S S' : mT} {r : Int32} (hf : fX11_comes true v1 S = some (r, S')) : mOk l mX11_comes 3 [.ref (0), .int v1] true S (some (.int r)) S' :=
  gMet (by decide) (Nat.le_of_ble_eq_true rfl) rfl (Nat.le_of_ble_eq_true rfl) (fun p e s m args below meth c G C hr hk => bX11_comes_0_t C hr hk hf true)
theorem bX11_commonDivisor_34 (C : mCx p (mR 1) s m args meth c G cX11_commonDivisor RX11 6 false 233 54500 233 54500) (hr : meth.sig.returnType = (some .int)) (hk : meth.locks = false) {b : Bool} {S' : mT} {r : Int32} {v2 : Int32} {S : mT} (hf : fX11_commonDivisor_34 v2 S = some (r, S')) (ok : Bool) : mW p l e (mR 1) s m args below meth c G 6 233 54500 (mQ below G args s b S' (some (.int r))) (ok, 34, [.retAddr 0, .retAddr 0, .int v2, .retAddr 0, .retAddr 0, .retAddr 0], [], mk b S) := by
  unfold fX11_commonDivisor_34 at hf
  refine msegT C kX11_commonDivisor 21 1 (g := (true, 35, [.retAddr 0, .retAddr 0, .int v2, .retAddr 0, .retAddr 0, .retAddr 0], [.int v2], mk b S)) rfl rfl ?_
  cases hf
  exact gret_i C hr hk (kX11_commonDivisor _ (List.mem_of_getElem? (i := 22) rfl)).1
theorem bX11_commonDivisor_7 (C : mCx p (mR 1) s m args meth c G cX11_commonDivisor RX11 6 false 233 54500 233 54500) (hr : meth.sig.returnType = (some .int)) (hk : meth.locks = false) {b : Bool} {S' : mT} {r : Int32} : ∀ (k : Nat) (v2 : Int32) (v3 : Int32) (v4 : Int32) (S : mT), fX11_commonDivisor_7 k v2 v3 v4 S = some (r, S') → ∀ ok : Bool, mW p l e (mR 1) s m args below meth c G 6 233 54500 (mQ below G args s b S' (some (.int r))) (ok, 7, [.retAddr 0, .retAddr 0, .int v2, .int v3, .int v4, .retAddr 0], [], mk b S) := by
  intro k
  induction k with
  | zero =>
    intro v2 v3 v4 S hf ok
    cases hf
  | succ k ih =>
    intro v2 v3 v4 S hf ok
    unfold fX11_commonDivisor_7 at hf
    refine msegT C kX11_commonDivisor 6 3 (g := (true, (if (64 : Int32) ≤ v4 then 34 else 14), [.retAddr 0, .retAddr 0, .int v2, .int v3, .int v4, .retAddr 0], [], mk b S)) rfl rfl ?_
    by_cases hc : (64 : Int32) ≤ v4
    · rw [if_pos hc] at hf ⊢
      exact mfor (L' := [.retAddr 0, .retAddr 0, .int v2, .retAddr 0, .retAddr 0, .retAddr 0]) ⟨Or.inl rfl, Or.inl rfl, Or.inr rfl, Or.inl rfl, Or.inl rfl, Or.inl rfl, trivial⟩ (bX11_commonDivisor_34 C hr hk hf true)
    · rw [if_neg hc] at hf ⊢
      refine msegT C kX11_commonDivisor 9 2 (g := (true, (if v3 = 0 then 34 else 18), [.retAddr 0, .retAddr 0, .int v2, .int v3, .int v4, .retAddr 0], [], mk b S)) rfl rfl ?_
      by_cases hc : v3 = 0
      · rw [if_pos hc] at hf ⊢
        exact mfor (L' := [.retAddr 0, .retAddr 0, .int v2, .retAddr 0, .retAddr 0, .retAddr 0]) ⟨Or.inl rfl, Or.inl rfl, Or.inr rfl, Or.inl rfl, Or.inl rfl, Or.inl rfl, trivial⟩ (bX11_commonDivisor_34 C hr hk hf true)
      · rw [if_neg hc] at hf ⊢
        obtain ⟨hok, hf⟩ := grd_ex hf
        refine msegT C kX11_commonDivisor 11 4 (g := ((decide (¬ v3 = 0) && true), 23, [.retAddr 0, .retAddr 0, .int v2, .int v3, .int v4, .int (v2 - v2 / v3 * v3)], [], mk b S)) rfl hok ?_
        obtain ⟨x1, ex1, hf⟩ := bnd_ex hf
        rw [← ex1]
        refine msegT C kX11_commonDivisor 15 5 (g := (true, 31, [.retAddr 0, .retAddr 0, .int v3, .int x1, .int (v4 + (1 : Int32)), .int x1], [], mk b S)) rfl rfl ?_
        obtain ⟨x2, ex2, hf⟩ := bnd_ex hf
        rw [← ex2]
        refine msegT C kX11_commonDivisor 20 1 (g := (true, 7, [.retAddr 0, .retAddr 0, .int v3, .int x1, .int x2, .int x1], [], mk b S)) rfl rfl ?_
        exact mfor (L' := [.retAddr 0, .retAddr 0, .int v3, .int x1, .int x2, .retAddr 0]) ⟨Or.inl rfl, Or.inl rfl, Or.inr rfl, Or.inr rfl, Or.inr rfl, Or.inl rfl, trivial⟩ (ih _ _ _ _ hf true)
theorem bX11_commonDivisor_0 (C : mCx p (mR 1) s m args meth c G cX11_commonDivisor RX11 6 false 233 54500 233 54500) (hr : meth.sig.returnType = (some .int)) (hk : meth.locks = false) {b : Bool} {S' : mT} {r : Int32} {v0 : Int32} {v1 : Int32} {S : mT} (hf : fX11_commonDivisor v0 v1 S = some (r, S')) (ok : Bool) : mW p l e (mR 1) s m args below meth c G 6 233 54500 (mQ below G args s b S' (some (.int r))) (ok, 0, [.int v0, .int v1, .retAddr 0, .retAddr 0, .retAddr 0, .retAddr 0], [], mk b S) := by
  unfold fX11_commonDivisor at hf
  refine msegT C kX11_commonDivisor 0 6 (g := (true, 7, [.int v0, .int v1, .int v0, .int v1, .int (0 : Int32), .retAddr 0], [], mk b S)) rfl rfl ?_
  exact mfor (L' := [.retAddr 0, .retAddr 0, .int v0, .int v1, .int (0 : Int32), .retAddr 0]) ⟨Or.inl rfl, Or.inl rfl, Or.inr rfl, Or.inr rfl, Or.inr rfl, Or.inl rfl, trivial⟩ (bX11_commonDivisor_7 C hr hk _ _ _ _ _ hf true)
theorem qX11_commonDivisor {b : Bool} {v0 : Int32} {v1 : Int32} {S S' : mT} {r : Int32} (hf : fX11_commonDivisor v0 v1 S = some (r, S')) : mOk l mX11_commonDivisor 1 [.int v0, .int v1] b S (some (.int r)) S' :=
  gMet (by decide) (Nat.le_of_ble_eq_true rfl) rfl (Nat.le_of_ble_eq_true rfl) (fun p e s m args below meth c G C hr hk => bX11_commonDivisor_0 C hr hk hf true)
theorem bX11_doubled_49_f (C : mCx p (mR 2) s m args meth c G cX11_doubled RX11 5 false 233 54500 233 54500) (hr : meth.sig.returnType = (some .int)) (hk : meth.locks = false) {S' : mT} {r : Int32} {rc14 : Int32 → Int32 → Int32 → Int32 → mT → Option (Int32 × mT)} (Hrc14 : ∀ (v1 : Int32) (v2 : Int32) (v3 : Int32) (v4 : Int32) (S : mT), rc14 v1 v2 v3 v4 S = some (r, S') → ∀ ok : Bool, mW p l e (mR 2) s m args below meth c G 5 233 54500 (mQ below G args s false S' (some (.int r))) (ok, 14, [.ref (0), .int v1, .int v2, .int v3, .int v4], [], mk false S)) {v1 : Int32} {v2 : Int32} {v3 : Int32} {v4 : Int32} {S : mT} (hf : fX11_doubled_49 false rc14 v1 v2 v3 v4 S = some (r, S')) (ok : Bool) : mW p l e (mR 2) s m args below meth c G 5 233 54500 (mQ below G args s false S' (some (.int r))) (ok, 49, [.ref (0), .int v1, .int v2, .int v3, .int v4], [], mk false S) := by
  unfold fX11_doubled_49 at hf
  refine msegT C kX11_doubled 30 1 (g := (true, 52, [.ref (0), .int v1, .int v2, .int v3, .int (v4 + (1 : Int32))], [], mk false S)) rfl rfl ?_
  obtain ⟨x4, ex4, hf⟩ := bnd_ex hf
  rw [← ex4]
  refine msegT C kX11_doubled 31 1 (g := (true, 14, [.ref (0), .int v1, .int v2, .int v3, .int x4], [], mk false S)) rfl rfl ?_
  exact mfor (L' := [.ref (0), .int v1, .int v2, .int v3, .int x4]) ⟨Or.inr rfl, Or.inr rfl, Or.inr rfl, Or.inr rfl, Or.inr rfl, trivial⟩ (Hrc14 _ _ _ _ _ hf true)
theorem bX11_doubled_14_f (C : mCx p (mR 2) s m args meth c G cX11_doubled RX11 5 false 233 54500 233 54500) (hr : meth.sig.returnType = (some .int)) (hk : meth.locks = false) {S' : mT} {r : Int32} : ∀ (k : Nat) (v1 : Int32) (v2 : Int32) (v3 : Int32) (v4 : Int32) (S : mT), fX11_doubled_14 false k v1 v2 v3 v4 S = some (r, S') → ∀ ok : Bool, mW p l e (mR 2) s m args below meth c G 5 233 54500 (mQ below G args s false S' (some (.int r))) (ok, 14, [.ref (0), .int v1, .int v2, .int v3, .int v4], [], mk false S) := by
  intro k
  induction k with
  | zero =>
    intro v1 v2 v3 v4 S hf ok
    cases hf
  | succ k ih =>
    intro v1 v2 v3 v4 S hf ok
    unfold fX11_doubled_14 at hf
    obtain ⟨hok, hf⟩ := grd_ex hf
    refine msegT C kX11_doubled 9 5 (g := ((kO (shU false) 8 && (kO 0 11 && true)), (if (S.1 (shU false) 9) ≤ v4 then 55 else 26), [.ref (0), .int v1, .int v2, .int v3, .int v4], [], mk false S)) rfl hok ?_
    by_cases hc : (S.1 (shU false) 9) ≤ v4
    · rw [if_pos hc] at hf ⊢
      refine msegT C kX11_doubled 32 1 (g := (true, 56, [.ref (0), .int v1, .int v2, .int v3, .int v4], [.int v3], mk false S)) rfl rfl ?_
      cases hf
      exact gret_i C hr hk (kX11_doubled _ (List.mem_of_getElem? (i := 33) rfl)).1
    · rw [if_neg hc] at hf ⊢
      obtain ⟨hok, hf⟩ := grd_ex hf
      refine msegT C kX11_doubled 14 10 (g := ((kI 35 ((10 : Int32) + v4) && (kO 0 11 && true)), (if (v2 + (S.1 35 (mIx ((10 : Int32) + v4)))) = v1 then 42 else 49), [.ref (0), .int v1, .int v2, .int v3, .int v4], [], mk false S)) rfl hok ?_
      by_cases hc : (v2 + (S.1 35 (mIx ((10 : Int32) + v4)))) = v1
      · rw [if_pos hc] at hf ⊢
        refine msegT C kX11_doubled 24 6 (g := (true, 49, [.ref (0), .int v1, .int v2, .int (v3 ||| ((1 : Int32) <<< (v4 &&& 31))), .int v4], [], mk false S)) rfl rfl ?_
        obtain ⟨x3, ex3, hf⟩ := bnd_ex hf
        rw [← ex3]
        exact mfor (L' := [.ref (0), .int v1, .int v2, .int x3, .int v4]) ⟨Or.inr rfl, Or.inr rfl, Or.inr rfl, Or.inr rfl, Or.inr rfl, trivial⟩ (bX11_doubled_49_f C hr hk ih hf true)
      · rw [if_neg hc] at hf ⊢
        exact mfor (L' := [.ref (0), .int v1, .int v2, .int v3, .int v4]) ⟨Or.inr rfl, Or.inr rfl, Or.inr rfl, Or.inr rfl, Or.inr rfl, trivial⟩ (bX11_doubled_49_f C hr hk ih hf true)
theorem bX11_doubled_0_f (C : mCx p (mR 2) s m args meth c G cX11_doubled RX11 5 false 233 54500 233 54500) (hr : meth.sig.returnType = (some .int)) (hk : meth.locks = false) {S' : mT} {r : Int32} {v1 : Int32} {S : mT} (hf : fX11_doubled false v1 S = some (r, S')) (ok : Bool) : mW p l e (mR 2) s m args below meth c G 5 233 54500 (mQ below G args s false S' (some (.int r))) (ok, 0, [.ref (0), .int v1, .retAddr 0, .retAddr 0, .retAddr 0], [], mk false S) := by
  unfold fX11_doubled at hf
  obtain ⟨hok, hf⟩ := grd_ex hf
  refine msegT C kX11_doubled 0 3 (g := ((kO 0 11 && true), 5, [.ref (0), .int v1, .retAddr 0, .retAddr 0, .retAddr 0], [.ref 35, .ref (0)], mk false S)) rfl hok ?_
  obtain ⟨x2, S1, hq, hf⟩ := bndC_ex hf
  refine mcall (kd := 0) (vs := [.ref (0), .ref 35]) (rest := []) (r := (some (.int x2))) (h' := mk false S1) (ok' := true) C lkRX11_158 (qX11_allBowls_f hq) (kX11_doubled _ (List.mem_of_getElem? (i := 3) rfl)).1 ⟨_, _, rfl, rfl, Nat.le_of_ble_eq_true rfl, _, _, rfl, rfl, rfl⟩ (Nat.le_of_ble_eq_true rfl) (Nat.le_of_ble_eq_true rfl) (Nat.le_refl _) (Nat.le_refl _) (Nat.le_of_ble_eq_true rfl) ?_
  refine msegT C kX11_doubled 4 5 (g := (true, 14, [.ref (0), .int v1, .int x2, .int (0 : Int32), .int (0 : Int32)], [], mk false S1)) rfl rfl ?_
  exact mfor (L' := [.ref (0), .int v1, .int x2, .int (0 : Int32), .int (0 : Int32)]) ⟨Or.inr rfl, Or.inr rfl, Or.inr rfl, Or.inr rfl, Or.inr rfl, trivial⟩ (bX11_doubled_14_f C hr hk _ _ _ _ _ _ hf true)
theorem qX11_doubled_f {v1 : Int32} {S S' : mT} {r : Int32} (hf : fX11_doubled false v1 S = some (r, S')) : mOk l mX11_doubled 2 [.ref (0), .int v1] false S (some (.int r)) S' :=
  gMet (by decide) (Nat.le_of_ble_eq_true rfl) rfl (Nat.le_of_ble_eq_true rfl) (fun p e s m args below meth c G C hr hk => bX11_doubled_0_f C hr hk hf true)
theorem bX11_doubled_49_t (C : mCx p (mR 2) s m args meth c G cX11_doubled RX11 5 false 233 54500 233 54500) (hr : meth.sig.returnType = (some .int)) (hk : meth.locks = false) {S' : mT} {r : Int32} {rc14 : Int32 → Int32 → Int32 → Int32 → mT → Option (Int32 × mT)} (Hrc14 : ∀ (v1 : Int32) (v2 : Int32) (v3 : Int32) (v4 : Int32) (S : mT), rc14 v1 v2 v3 v4 S = some (r, S') → ∀ ok : Bool, mW p l e (mR 2) s m args below meth c G 5 233 54500 (mQ below G args s true S' (some (.int r))) (ok, 14, [.ref (0), .int v1, .int v2, .int v3, .int v4], [], mk true S)) {v1 : Int32} {v2 : Int32} {v3 : Int32} {v4 : Int32} {S : mT} (hf : fX11_doubled_49 true rc14 v1 v2 v3 v4 S = some (r, S')) (ok : Bool) : mW p l e (mR 2) s m args below meth c G 5 233 54500 (mQ below G args s true S' (some (.int r))) (ok, 49, [.ref (0), .int v1, .int v2, .int v3, .int v4], [], mk true S) := by
  unfold fX11_doubled_49 at hf
  refine msegT C kX11_doubled 30 1 (g := (true, 52, [.ref (0), .int v1, .int v2, .int v3, .int (v4 + (1 : Int32))], [], mk true S)) rfl rfl ?_
  obtain ⟨x4, ex4, hf⟩ := bnd_ex hf
  rw [← ex4]
  refine msegT C kX11_doubled 31 1 (g := (true, 14, [.ref (0), .int v1, .int v2, .int v3, .int x4], [], mk true S)) rfl rfl ?_
  exact mfor (L' := [.ref (0), .int v1, .int v2, .int v3, .int x4]) ⟨Or.inr rfl, Or.inr rfl, Or.inr rfl, Or.inr rfl, Or.inr rfl, trivial⟩ (Hrc14 _ _ _ _ _ hf true)
theorem bX11_doubled_14_t (C : mCx p (mR 2) s m args meth c G cX11_doubled RX11 5 false 233 54500 233 54500) (hr : meth.sig.returnType = (some .int)) (hk : meth.locks = false) {S' : mT} {r : Int32} : ∀ (k : Nat) (v1 : Int32) (v2 : Int32) (v3 : Int32) (v4 : Int32) (S : mT), fX11_doubled_14 true k v1 v2 v3 v4 S = some (r, S') → ∀ ok : Bool, mW p l e (mR 2) s m args below meth c G 5 233 54500 (mQ below G args s true S' (some (.int r))) (ok, 14, [.ref (0), .int v1, .int v2, .int v3, .int v4], [], mk true S) := by
  intro k
  induction k with
  | zero =>
    intro v1 v2 v3 v4 S hf ok
    cases hf
  | succ k ih =>
    intro v1 v2 v3 v4 S hf ok
    unfold fX11_doubled_14 at hf
    obtain ⟨hok, hf⟩ := grd_ex hf
    refine msegT C kX11_doubled 9 5 (g := ((kO (shU true) 8 && (kO 0 11 && true)), (if (S.1 (shU true) 9) ≤ v4 then 55 else 26), [.ref (0), .int v1, .int v2, .int v3, .int v4], [], mk true S)) rfl hok ?_
    by_cases hc : (S.1 (shU true) 9) ≤ v4
    · rw [if_pos hc] at hf ⊢
      refine msegT C kX11_doubled 32 1 (g := (true, 56, [.ref (0), .int v1, .int v2, .int v3, .int v4], [.int v3], mk true S)) rfl rfl ?_
      cases hf
      exact gret_i C hr hk (kX11_doubled _ (List.mem_of_getElem? (i := 33) rfl)).1
    · rw [if_neg hc] at hf ⊢
      obtain ⟨hok, hf⟩ := grd_ex hf
      refine msegT C kX11_doubled 14 10 (g := ((kI 35 ((10 : Int32) + v4) && (kO 0 11 && true)), (if (v2 + (S.1 35 (mIx ((10 : Int32) + v4)))) = v1 then 42 else 49), [.ref (0), .int v1, .int v2, .int v3, .int v4], [], mk true S)) rfl hok ?_
      by_cases hc : (v2 + (S.1 35 (mIx ((10 : Int32) + v4)))) = v1
      · rw [if_pos hc] at hf ⊢
        refine msegT C kX11_doubled 24 6 (g := (true, 49, [.ref (0), .int v1, .int v2, .int (v3 ||| ((1 : Int32) <<< (v4 &&& 31))), .int v4], [], mk true S)) rfl rfl ?_
        obtain ⟨x3, ex3, hf⟩ := bnd_ex hf
        rw [← ex3]
        exact mfor (L' := [.ref (0), .int v1, .int v2, .int x3, .int v4]) ⟨Or.inr rfl, Or.inr rfl, Or.inr rfl, Or.inr rfl, Or.inr rfl, trivial⟩ (bX11_doubled_49_t C hr hk ih hf true)
      · rw [if_neg hc] at hf ⊢
        exact mfor (L' := [.ref (0), .int v1, .int v2, .int v3, .int v4]) ⟨Or.inr rfl, Or.inr rfl, Or.inr rfl, Or.inr rfl, Or.inr rfl, trivial⟩ (bX11_doubled_49_t C hr hk ih hf true)
theorem bX11_doubled_0_t (C : mCx p (mR 2) s m args meth c G cX11_doubled RX11 5 false 233 54500 233 54500) (hr : meth.sig.returnType = (some .int)) (hk : meth.locks = false) {S' : mT} {r : Int32} {v1 : Int32} {S : mT} (hf : fX11_doubled true v1 S = some (r, S')) (ok : Bool) : mW p l e (mR 2) s m args below meth c G 5 233 54500 (mQ below G args s true S' (some (.int r))) (ok, 0, [.ref (0), .int v1, .retAddr 0, .retAddr 0, .retAddr 0], [], mk true S) := by
  unfold fX11_doubled at hf
  obtain ⟨hok, hf⟩ := grd_ex hf
  refine msegT C kX11_doubled 0 3 (g := ((kO 0 11 && true), 5, [.ref (0), .int v1, .retAddr 0, .retAddr 0, .retAddr 0], [.ref 35, .ref (0)], mk true S)) rfl hok ?_
  obtain ⟨x2, S1, hq, hf⟩ := bndC_ex hf
  refine mcall (kd := 0) (vs := [.ref (0), .ref 35]) (rest := []) (r := (some (.int x2))) (h' := mk true S1) (ok' := true) C lkRX11_158 (qX11_allBowls_t hq) (kX11_doubled _ (List.mem_of_getElem? (i := 3) rfl)).1 ⟨_, _, rfl, rfl, Nat.le_of_ble_eq_true rfl, _, _, rfl, rfl, rfl⟩ (Nat.le_of_ble_eq_true rfl) (Nat.le_of_ble_eq_true rfl) (Nat.le_refl _) (Nat.le_refl _) (Nat.le_of_ble_eq_true rfl) ?_
  refine msegT C kX11_doubled 4 5 (g := (true, 14, [.ref (0), .int v1, .int x2, .int (0 : Int32), .int (0 : Int32)], [], mk true S1)) rfl rfl ?_
  exact mfor (L' := [.ref (0), .int v1, .int x2, .int (0 : Int32), .int (0 : Int32)]) ⟨Or.inr rfl, Or.inr rfl, Or.inr rfl, Or.inr rfl, Or.inr rfl, trivial⟩ (bX11_doubled_14_t C hr hk _ _ _ _ _ _ hf true)
theorem qX11_doubled_t {v1 : Int32} {S S' : mT} {r : Int32} (hf : fX11_doubled true v1 S = some (r, S')) : mOk l mX11_doubled 2 [.ref (0), .int v1] true S (some (.int r)) S' :=
  gMet (by decide) (Nat.le_of_ble_eq_true rfl) rfl (Nat.le_of_ble_eq_true rfl) (fun p e s m args below meth c G C hr hk => bX11_doubled_0_t C hr hk hf true)
theorem bX11_fullest_30_f (C : mCx p (mR 1) s m args meth c G cX11_fullest RX11 4 false 233 54500 233 54500) (hr : meth.sig.returnType = (some .int)) (hk : meth.locks = false) {a1 : Nat} {S' : mT} {r : Int32} {rc4 : Int32 → Int32 → mT → Option (Int32 × mT)} (Hrc4 : ∀ (v2 : Int32) (v3 : Int32) (S : mT), rc4 v2 v3 S = some (r, S') → ∀ ok : Bool, mW p l e (mR 1) s m args below meth c G 4 233 54500 (mQ below G args s false S' (some (.int r))) (ok, 4, [.ref (0), .ref a1, .int v2, .int v3], [], mk false S)) {v2 : Int32} {v3 : Int32} {S : mT} (hf : fX11_fullest_30 false a1 rc4 v2 v3 S = some (r, S')) (ok : Bool) : mW p l e (mR 1) s m args below meth c G 4 233 54500 (mQ below G args s false S' (some (.int r))) (ok, 30, [.ref (0), .ref a1, .int v2, .int v3], [], mk false S) := by
  unfold fX11_fullest_30 at hf
  refine msegT C kX11_fullest 22 1 (g := (true, 33, [.ref (0), .ref a1, .int v2, .int (v3 + (1 : Int32))], [], mk false S)) rfl rfl ?_
  obtain ⟨x1, ex1, hf⟩ := bnd_ex hf
  rw [← ex1]
  refine msegT C kX11_fullest 23 1 (g := (true, 4, [.ref (0), .ref a1, .int v2, .int x1], [], mk false S)) rfl rfl ?_
  exact mfor (L' := [.ref (0), .ref a1, .int v2, .int x1]) ⟨Or.inr rfl, Or.inr rfl, Or.inr rfl, Or.inr rfl, trivial⟩ (Hrc4 _ _ _ hf true)
theorem bX11_fullest_4_f (C : mCx p (mR 1) s m args meth c G cX11_fullest RX11 4 false 233 54500 233 54500) (hr : meth.sig.returnType = (some .int)) (hk : meth.locks = false) {a1 : Nat} {S' : mT} {r : Int32} : ∀ (k : Nat) (v2 : Int32) (v3 : Int32) (S : mT), fX11_fullest_4 false a1 k v2 v3 S = some (r, S') → ∀ ok : Bool, mW p l e (mR 1) s m args below meth c G 4 233 54500 (mQ below G args s false S' (some (.int r))) (ok, 4, [.ref (0), .ref a1, .int v2, .int v3], [], mk false S) := by
  intro k
  induction k with
  | zero =>
    intro v2 v3 S hf ok
    cases hf
  | succ k ih =>
    intro v2 v3 S hf ok
    unfold fX11_fullest_4 at hf
    obtain ⟨hok, hf⟩ := grd_ex hf
    refine msegT C kX11_fullest 4 5 (g := ((kO (shU false) 8 && (kO 0 11 && true)), (if (S.1 (shU false) 9) ≤ v3 then 36 else 15), [.ref (0), .ref a1, .int v2, .int v3], [], mk false S)) rfl hok ?_
    by_cases hc : (S.1 (shU false) 9) ≤ v3
    · rw [if_pos hc] at hf ⊢
      refine msegT C kX11_fullest 24 1 (g := (true, 37, [.ref (0), .ref a1, .int v2, .int v3], [.int v2], mk false S)) rfl rfl ?_
      cases hf
      exact gret_i C hr hk (kX11_fullest _ (List.mem_of_getElem? (i := 25) rfl)).1
    · rw [if_neg hc] at hf ⊢
      obtain ⟨hok, hf⟩ := grd_ex hf
      refine msegT C kX11_fullest 9 10 (g := ((kI a1 ((0 : Int32) + v2) && (kI a1 ((0 : Int32) + v3) && true)), 25, [.ref (0), .ref a1, .int v2, .int v3], [.int (S.1 a1 (mIx ((0 : Int32) + v2))), .int (S.1 a1 (mIx ((0 : Int32) + v3)))], mk false S)) rfl hok ?_
      refine msegT C kX11_fullest 19 1 (g := (true, (if (S.1 a1 (mIx ((0 : Int32) + v3))) ≤ (S.1 a1 (mIx ((0 : Int32) + v2))) then 30 else 28), [.ref (0), .ref a1, .int v2, .int v3], [], mk false S)) rfl rfl ?_
      by_cases hc : (S.1 a1 (mIx ((0 : Int32) + v3))) ≤ (S.1 a1 (mIx ((0 : Int32) + v2)))
      · rw [if_pos hc] at hf ⊢
        exact mfor (L' := [.ref (0), .ref a1, .int v2, .int v3]) ⟨Or.inr rfl, Or.inr rfl, Or.inr rfl, Or.inr rfl, trivial⟩ (bX11_fullest_30_f C hr hk ih hf true)
      · rw [if_neg hc] at hf ⊢
        refine msegT C kX11_fullest 20 2 (g := (true, 30, [.ref (0), .ref a1, .int v3, .int v3], [], mk false S)) rfl rfl ?_
        exact mfor (L' := [.ref (0), .ref a1, .int v3, .int v3]) ⟨Or.inr rfl, Or.inr rfl, Or.inr rfl, Or.inr rfl, trivial⟩ (bX11_fullest_30_f C hr hk ih hf true)
theorem bX11_fullest_0_f (C : mCx p (mR 1) s m args meth c G cX11_fullest RX11 4 false 233 54500 233 54500) (hr : meth.sig.returnType = (some .int)) (hk : meth.locks = false) {a1 : Nat} {S' : mT} {r : Int32} {S : mT} (hf : fX11_fullest false a1 S = some (r, S')) (ok : Bool) : mW p l e (mR 1) s m args below meth c G 4 233 54500 (mQ below G args s false S' (some (.int r))) (ok, 0, [.ref (0), .ref a1, .retAddr 0, .retAddr 0], [], mk false S) := by
  unfold fX11_fullest at hf
  refine msegT C kX11_fullest 0 4 (g := (true, 4, [.ref (0), .ref a1, .int (0 : Int32), .int (1 : Int32)], [], mk false S)) rfl rfl ?_
  exact mfor (L' := [.ref (0), .ref a1, .int (0 : Int32), .int (1 : Int32)]) ⟨Or.inr rfl, Or.inr rfl, Or.inr rfl, Or.inr rfl, trivial⟩ (bX11_fullest_4_f C hr hk _ _ _ _ hf true)
theorem qX11_fullest_f {a1 : Nat} {S S' : mT} {r : Int32} (hf : fX11_fullest false a1 S = some (r, S')) : mOk l mX11_fullest 1 [.ref (0), .ref a1] false S (some (.int r)) S' :=
  gMet (by decide) (Nat.le_of_ble_eq_true rfl) rfl (Nat.le_of_ble_eq_true rfl) (fun p e s m args below meth c G C hr hk => bX11_fullest_0_f C hr hk hf true)
theorem bX11_fullest_30_t (C : mCx p (mR 1) s m args meth c G cX11_fullest RX11 4 false 233 54500 233 54500) (hr : meth.sig.returnType = (some .int)) (hk : meth.locks = false) {a1 : Nat} {S' : mT} {r : Int32} {rc4 : Int32 → Int32 → mT → Option (Int32 × mT)} (Hrc4 : ∀ (v2 : Int32) (v3 : Int32) (S : mT), rc4 v2 v3 S = some (r, S') → ∀ ok : Bool, mW p l e (mR 1) s m args below meth c G 4 233 54500 (mQ below G args s true S' (some (.int r))) (ok, 4, [.ref (0), .ref a1, .int v2, .int v3], [], mk true S)) {v2 : Int32} {v3 : Int32} {S : mT} (hf : fX11_fullest_30 true a1 rc4 v2 v3 S = some (r, S')) (ok : Bool) : mW p l e (mR 1) s m args below meth c G 4 233 54500 (mQ below G args s true S' (some (.int r))) (ok, 30, [.ref (0), .ref a1, .int v2, .int v3], [], mk true S) := by
  unfold fX11_fullest_30 at hf
  refine msegT C kX11_fullest 22 1 (g := (true, 33, [.ref (0), .ref a1, .int v2, .int (v3 + (1 : Int32))], [], mk true S)) rfl rfl ?_
  obtain ⟨x1, ex1, hf⟩ := bnd_ex hf
  rw [← ex1]
  refine msegT C kX11_fullest 23 1 (g := (true, 4, [.ref (0), .ref a1, .int v2, .int x1], [], mk true S)) rfl rfl ?_
  exact mfor (L' := [.ref (0), .ref a1, .int v2, .int x1]) ⟨Or.inr rfl, Or.inr rfl, Or.inr rfl, Or.inr rfl, trivial⟩ (Hrc4 _ _ _ hf true)
theorem bX11_fullest_4_t (C : mCx p (mR 1) s m args meth c G cX11_fullest RX11 4 false 233 54500 233 54500) (hr : meth.sig.returnType = (some .int)) (hk : meth.locks = false) {a1 : Nat} {S' : mT} {r : Int32} : ∀ (k : Nat) (v2 : Int32) (v3 : Int32) (S : mT), fX11_fullest_4 true a1 k v2 v3 S = some (r, S') → ∀ ok : Bool, mW p l e (mR 1) s m args below meth c G 4 233 54500 (mQ below G args s true S' (some (.int r))) (ok, 4, [.ref (0), .ref a1, .int v2, .int v3], [], mk true S) := by
  intro k
  induction k with
  | zero =>
    intro v2 v3 S hf ok
    cases hf
  | succ k ih =>
    intro v2 v3 S hf ok
    unfold fX11_fullest_4 at hf
    obtain ⟨hok, hf⟩ := grd_ex hf
    refine msegT C kX11_fullest 4 5 (g := ((kO (shU true) 8 && (kO 0 11 && true)), (if (S.1 (shU true) 9) ≤ v3 then 36 else 15), [.ref (0), .ref a1, .int v2, .int v3], [], mk true S)) rfl hok ?_
    by_cases hc : (S.1 (shU true) 9) ≤ v3
    · rw [if_pos hc] at hf ⊢
      refine msegT C kX11_fullest 24 1 (g := (true, 37, [.ref (0), .ref a1, .int v2, .int v3], [.int v2], mk true S)) rfl rfl ?_
      cases hf
      exact gret_i C hr hk (kX11_fullest _ (List.mem_of_getElem? (i := 25) rfl)).1
    · rw [if_neg hc] at hf ⊢
      obtain ⟨hok, hf⟩ := grd_ex hf
      refine msegT C kX11_fullest 9 10 (g := ((kI a1 ((0 : Int32) + v2) && (kI a1 ((0 : Int32) + v3) && true)), 25, [.ref (0), .ref a1, .int v2, .int v3], [.int (S.1 a1 (mIx ((0 : Int32) + v2))), .int (S.1 a1 (mIx ((0 : Int32) + v3)))], mk true S)) rfl hok ?_
      refine msegT C kX11_fullest 19 1 (g := (true, (if (S.1 a1 (mIx ((0 : Int32) + v3))) ≤ (S.1 a1 (mIx ((0 : Int32) + v2))) then 30 else 28), [.ref (0), .ref a1, .int v2, .int v3], [], mk true S)) rfl rfl ?_
      by_cases hc : (S.1 a1 (mIx ((0 : Int32) + v3))) ≤ (S.1 a1 (mIx ((0 : Int32) + v2)))
      · rw [if_pos hc] at hf ⊢
        exact mfor (L' := [.ref (0), .ref a1, .int v2, .int v3]) ⟨Or.inr rfl, Or.inr rfl, Or.inr rfl, Or.inr rfl, trivial⟩ (bX11_fullest_30_t C hr hk ih hf true)
      · rw [if_neg hc] at hf ⊢
        refine msegT C kX11_fullest 20 2 (g := (true, 30, [.ref (0), .ref a1, .int v3, .int v3], [], mk true S)) rfl rfl ?_
        exact mfor (L' := [.ref (0), .ref a1, .int v3, .int v3]) ⟨Or.inr rfl, Or.inr rfl, Or.inr rfl, Or.inr rfl, trivial⟩ (bX11_fullest_30_t C hr hk ih hf true)
theorem bX11_fullest_0_t (C : mCx p (mR 1) s m args meth c G cX11_fullest RX11 4 false 233 54500 233 54500) (hr : meth.sig.returnType = (some .int)) (hk : meth.locks = false) {a1 : Nat} {S' : mT} {r : Int32} {S : mT} (hf : fX11_fullest true a1 S = some (r, S')) (ok : Bool) : mW p l e (mR 1) s m args below meth c G 4 233 54500 (mQ below G args s true S' (some (.int r))) (ok, 0, [.ref (0), .ref a1, .retAddr 0, .retAddr 0], [], mk true S) := by
  unfold fX11_fullest at hf
  refine msegT C kX11_fullest 0 4 (g := (true, 4, [.ref (0), .ref a1, .int (0 : Int32), .int (1 : Int32)], [], mk true S)) rfl rfl ?_
  exact mfor (L' := [.ref (0), .ref a1, .int (0 : Int32), .int (1 : Int32)]) ⟨Or.inr rfl, Or.inr rfl, Or.inr rfl, Or.inr rfl, trivial⟩ (bX11_fullest_4_t C hr hk _ _ _ _ hf true)
theorem qX11_fullest_t {a1 : Nat} {S S' : mT} {r : Int32} (hf : fX11_fullest true a1 S = some (r, S')) : mOk l mX11_fullest 1 [.ref (0), .ref a1] true S (some (.int r)) S' :=
  gMet (by decide) (Nat.le_of_ble_eq_true rfl) rfl (Nat.le_of_ble_eq_true rfl) (fun p e s m args below meth c G C hr hk => bX11_fullest_0_t C hr hk hf true)
theorem bX8_taxOf_0_3 (C : mCx p (mR 3) s m args meth c G cX8_taxOf RX8 4 false 233 54500 233 54500) (hr : meth.sig.returnType = (some .int)) (hk : meth.locks = false) {b : Bool} {S' : mT} {r : Int32} {v1 : Int32} {v2 : Int32} {v3 : Int32} {S : mT} (hf : fX8_taxOf 3 v1 v2 v3 S = some (r, S')) (ok : Bool) : mW p l e (mR 3) s m args below meth c G 4 233 54500 (mQ below G args s b S' (some (.int r))) (ok, 0, [.ref (3), .int v1, .int v2, .int v3], [], mk b S) := by
  unfold fX8_taxOf at hf
  obtain ⟨hok, hf⟩ := grd_ex hf
  refine msegT C kX8_taxOf 0 4 (g := ((kO (3 + 9) 0 && (kO 3 8 && true)), (if (S.1 (3 + 9) 4) = 0 then 10 else 19), [.ref (3), .int v1, .int v2, .int v3], [], mk b S)) rfl hok ?_
  by_cases hc : (S.1 (3 + 9) 4) = 0
  · rw [if_pos hc] at hf ⊢
    refine msegT C kX8_taxOf 4 3 (g := (true, 15, [.ref (3), .int v1, .int v2, .int v3], [.int (999 : Int32), .int (0 : Int32), .int v1], mk b S)) rfl rfl ?_
    obtain ⟨x2, S1, hq, hf⟩ := bndC_ex hf
    refine mcall (kd := 2) (vs := [.int v1, .int (0 : Int32), .int (999 : Int32)]) (rest := []) (r := (some (.int x2))) (h' := mk b S1) (ok' := true) C lkRX8_80 (qX11_limited hq) (kX8_taxOf _ (List.mem_of_getElem? (i := 7) rfl)).1 rfl (Nat.le_of_ble_eq_true rfl) (Nat.le_of_ble_eq_true rfl) (Nat.le_refl _) (Nat.le_refl _) (Nat.le_of_ble_eq_true rfl) ?_
    cases hf
    exact gret_i C hr hk (kX8_taxOf _ (List.mem_of_getElem? (i := 8) rfl)).1
  · rw [if_neg hc] at hf ⊢
    obtain ⟨hok, hf⟩ := grd_ex hf
    refine msegT C kX8_taxOf 9 10 (g := ((kI (3 + 4) v2 && (kO 3 8 && true)), 31, [.ref (3), .int v1, .int v2, .int v3], [.int v3, .int v1, .int (0 : Int32), .int (S.1 (3 + 4) (mIx v2)), .int (0 : Int32), .int (0 : Int32), .ref (3)], mk b S)) rfl hok ?_
    obtain ⟨S3, hq, hf⟩ := bndV_ex hf
    refine mcall (kd := 0) (vs := [.ref (3), .int (0 : Int32), .int (0 : Int32), .int (S.1 (3 + 4) (mIx v2)), .int (0 : Int32), .int v1, .int v3]) (rest := []) (r := none) (h' := mk b S3) (ok' := true) C lkRX8_84 (qX8_setValues_3 hq) (kX8_taxOf _ (List.mem_of_getElem? (i := 19) rfl)).1 ⟨_, _, rfl, rfl, Nat.le_of_ble_eq_true rfl, _, _, rfl, rfl, rfl⟩ (Nat.le_of_ble_eq_true rfl) (Nat.le_of_ble_eq_true rfl) (Nat.le_refl _) (Nat.le_refl _) (Nat.le_of_ble_eq_true rfl) ?_
    obtain ⟨hok, hf⟩ := grd_ex hf
    refine msegT C kX8_taxOf 20 4 (g := ((kO 3 8 && (kO 3 8 && true)), 42, [.ref (3), .int v1, .int v2, .int v3], [.ref (3 + 15), .ref (3 + 9)], mk b S3)) rfl hok ?_
    obtain ⟨x5, S4, hq, hf⟩ := bndC_ex hf
    refine mcall (kd := 0) (vs := [.ref (3 + 9), .ref (3 + 15)]) (rest := []) (r := (some (.int x5))) (h' := mk b S4) (ok' := true) C lkRX8_88 (qX0_work_12 hq) (kX8_taxOf _ (List.mem_of_getElem? (i := 24) rfl)).1 ⟨_, _, rfl, rfl, Nat.le_of_ble_eq_true rfl, _, _, rfl, rfl, rfl⟩ (Nat.le_of_ble_eq_true rfl) (Nat.le_of_ble_eq_true rfl) (Nat.le_refl _) (Nat.le_refl _) (Nat.le_of_ble_eq_true rfl) ?_
    refine msegT C kX8_taxOf 25 2 (g := (true, 49, [.ref (3), .int v1, .int v2, .int v3], [.int (999 : Int32), .int (0 : Int32), .int x5], mk b S4)) rfl rfl ?_
    obtain ⟨x7, S6, hq, hf⟩ := bndC_ex hf
    refine mcall (kd := 2) (vs := [.int x5, .int (0 : Int32), .int (999 : Int32)]) (rest := []) (r := (some (.int x7))) (h' := mk b S6) (ok' := true) C lkRX8_80 (qX11_limited hq) (kX8_taxOf _ (List.mem_of_getElem? (i := 27) rfl)).1 rfl (Nat.le_of_ble_eq_true rfl) (Nat.le_of_ble_eq_true rfl) (Nat.le_refl _) (Nat.le_refl _) (Nat.le_of_ble_eq_true rfl) ?_
    cases hf
    exact gret_i C hr hk (kX8_taxOf _ (List.mem_of_getElem? (i := 28) rfl)).1
theorem qX8_taxOf_3 {b : Bool} {v1 : Int32} {v2 : Int32} {v3 : Int32} {S S' : mT} {r : Int32} (hf : fX8_taxOf 3 v1 v2 v3 S = some (r, S')) : mOk l mX8_taxOf 3 [.ref (3), .int v1, .int v2, .int v3] b S (some (.int r)) S' :=
  gMet (by decide) (Nat.le_of_ble_eq_true rfl) rfl (Nat.le_of_ble_eq_true rfl) (fun p e s m args below meth c G C hr hk => bX8_taxOf_0_3 C hr hk hf true)
theorem bX8_taxOf_0_19 (C : mCx p (mR 3) s m args meth c G cX8_taxOf RX8 4 false 233 54500 233 54500) (hr : meth.sig.returnType = (some .int)) (hk : meth.locks = false) {b : Bool} {S' : mT} {r : Int32} {v1 : Int32} {v2 : Int32} {v3 : Int32} {S : mT} (hf : fX8_taxOf 19 v1 v2 v3 S = some (r, S')) (ok : Bool) : mW p l e (mR 3) s m args below meth c G 4 233 54500 (mQ below G args s b S' (some (.int r))) (ok, 0, [.ref (19), .int v1, .int v2, .int v3], [], mk b S) := by
  unfold fX8_taxOf at hf
  obtain ⟨hok, hf⟩ := grd_ex hf
  refine msegT C kX8_taxOf 0 4 (g := ((kO (19 + 9) 0 && (kO 19 8 && true)), (if (S.1 (19 + 9) 4) = 0 then 10 else 19), [.ref (19), .int v1, .int v2, .int v3], [], mk b S)) rfl hok ?_
  by_cases hc : (S.1 (19 + 9) 4) = 0
  · rw [if_pos hc] at hf ⊢
    refine msegT C kX8_taxOf 4 3 (g := (true, 15, [.ref (19), .int v1, .int v2, .int v3], [.int (999 : Int32), .int (0 : Int32), .int v1], mk b S)) rfl rfl ?_
    obtain ⟨x2, S1, hq, hf⟩ := bndC_ex hf
    refine mcall (kd := 2) (vs := [.int v1, .int (0 : Int32), .int (999 : Int32)]) (rest := []) (r := (some (.int x2))) (h' := mk b S1) (ok' := true) C lkRX8_80 (qX11_limited hq) (kX8_taxOf _ (List.mem_of_getElem? (i := 7) rfl)).1 rfl (Nat.le_of_ble_eq_true rfl) (Nat.le_of_ble_eq_true rfl) (Nat.le_refl _) (Nat.le_refl _) (Nat.le_of_ble_eq_true rfl) ?_
    cases hf
    exact gret_i C hr hk (kX8_taxOf _ (List.mem_of_getElem? (i := 8) rfl)).1
  · rw [if_neg hc] at hf ⊢
    obtain ⟨hok, hf⟩ := grd_ex hf
    refine msegT C kX8_taxOf 9 10 (g := ((kI (19 + 4) v2 && (kO 19 8 && true)), 31, [.ref (19), .int v1, .int v2, .int v3], [.int v3, .int v1, .int (0 : Int32), .int (S.1 (19 + 4) (mIx v2)), .int (0 : Int32), .int (0 : Int32), .ref (19)], mk b S)) rfl hok ?_
    obtain ⟨S3, hq, hf⟩ := bndV_ex hf
    refine mcall (kd := 0) (vs := [.ref (19), .int (0 : Int32), .int (0 : Int32), .int (S.1 (19 + 4) (mIx v2)), .int (0 : Int32), .int v1, .int v3]) (rest := []) (r := none) (h' := mk b S3) (ok' := true) C lkRX8_84 (qX8_setValues_19 hq) (kX8_taxOf _ (List.mem_of_getElem? (i := 19) rfl)).1 ⟨_, _, rfl, rfl, Nat.le_of_ble_eq_true rfl, _, _, rfl, rfl, rfl⟩ (Nat.le_of_ble_eq_true rfl) (Nat.le_of_ble_eq_true rfl) (Nat.le_refl _) (Nat.le_refl _) (Nat.le_of_ble_eq_true rfl) ?_
    obtain ⟨hok, hf⟩ := grd_ex hf
    refine msegT C kX8_taxOf 20 4 (g := ((kO 19 8 && (kO 19 8 && true)), 42, [.ref (19), .int v1, .int v2, .int v3], [.ref (19 + 15), .ref (19 + 9)], mk b S3)) rfl hok ?_
    obtain ⟨x5, S4, hq, hf⟩ := bndC_ex hf
    refine mcall (kd := 0) (vs := [.ref (19 + 9), .ref (19 + 15)]) (rest := []) (r := (some (.int x5))) (h' := mk b S4) (ok' := true) C lkRX8_88 (qX0_work_28 hq) (kX8_taxOf _ (List.mem_of_getElem? (i := 24) rfl)).1 ⟨_, _, rfl, rfl, Nat.le_of_ble_eq_true rfl, _, _, rfl, rfl, rfl⟩ (Nat.le_of_ble_eq_true rfl) (Nat.le_of_ble_eq_true rfl) (Nat.le_refl _) (Nat.le_refl _) (Nat.le_of_ble_eq_true rfl) ?_
    refine msegT C kX8_taxOf 25 2 (g := (true, 49, [.ref (19), .int v1, .int v2, .int v3], [.int (999 : Int32), .int (0 : Int32), .int x5], mk b S4)) rfl rfl ?_
    obtain ⟨x7, S6, hq, hf⟩ := bndC_ex hf
    refine mcall (kd := 2) (vs := [.int x5, .int (0 : Int32), .int (999 : Int32)]) (rest := []) (r := (some (.int x7))) (h' := mk b S6) (ok' := true) C lkRX8_80 (qX11_limited hq) (kX8_taxOf _ (List.mem_of_getElem? (i := 27) rfl)).1 rfl (Nat.le_of_ble_eq_true rfl) (Nat.le_of_ble_eq_true rfl) (Nat.le_refl _) (Nat.le_refl _) (Nat.le_of_ble_eq_true rfl) ?_
    cases hf
    exact gret_i C hr hk (kX8_taxOf _ (List.mem_of_getElem? (i := 28) rfl)).1
theorem qX8_taxOf_19 {b : Bool} {v1 : Int32} {v2 : Int32} {v3 : Int32} {S S' : mT} {r : Int32} (hf : fX8_taxOf 19 v1 v2 v3 S = some (r, S')) : mOk l mX8_taxOf 3 [.ref (19), .int v1, .int v2, .int v3] b S (some (.int r)) S' :=
  gMet (by decide) (Nat.le_of_ble_eq_true rfl) rfl (Nat.le_of_ble_eq_true rfl) (fun p e s m args below meth c G C hr hk => bX8_taxOf_0_19 C hr hk hf true)
end GP
