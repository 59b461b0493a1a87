section GP
variable {p : Program} {l : Launch} {e : Env} {s : State} {m : MethodId} {args : Array Value} {below : List Frame} {meth : Method} {c : Code} {G : mG}
theorem bX3_searchFrom_110 {d : Nat} (C : mCx p (mR (2 + (d + 1))) s m args meth c G cX3_searchFrom RX3 5 false 233 54500 233 54500) (hr : meth.sig.returnType = none) (hk : meth.locks = false) {b : Bool} {self : Int32 → Int32 → mT → Option (mT)} (Hself : ∀ {v1 : Int32} {v2 : Int32} {S S' : mT}, self v1 v2 S = some S' → mOk l mX3_searchFrom (2 + d) [.ref (140), .int v1, .int v2] b S none S') {S' : mT} {rc49 : Int32 → Int32 → Int32 → mT → Option (mT)} (Hrc49 : ∀ (v1 : Int32) (v2 : Int32) (v3 : Int32) (S : mT), rc49 v1 v2 v3 S = some S' → ∀ ok : Bool, mW p l e (mR (2 + (d + 1))) s m args below meth c G 5 233 54500 (mQ below G args s b S' none) (ok, 49, [.ref (140), .int v1, .int v2, .int v3, .retAddr 0], [], mk b S)) {v1 : Int32} {v2 : Int32} {v3 : Int32} {S : mT} (hf : fX3_searchFrom_110 self rc49 v1 v2 v3 S = some S') (ok : Bool) : mW p l e (mR (2 + (d + 1))) s m args below meth c G 5 233 54500 (mQ below G args s b S' none) (ok, 110, [.ref (140), .int v1, .int v2, .int v3, .retAddr 0], [], mk b S) := by
  unfold fX3_searchFrom_110 at hf
  refine msegT C kX3_searchFrom 68 1 (g := (true, 113, [.ref (140), .int v1, .int v2, .int (v3 + (1 : Int32)), .retAddr 0], [], mk b S)) rfl rfl ?_
  obtain ⟨x8, ex8, hf⟩ := bnd_ex hf
  rw [← ex8]
  refine msegT C kX3_searchFrom 69 1 (g := (true, 49, [.ref (140), .int v1, .int v2, .int x8, .retAddr 0], [], mk b S)) rfl rfl ?_
  exact mfor (L' := [.ref (140), .int v1, .int v2, .int x8, .retAddr 0]) ⟨Or.inr rfl, Or.inr rfl, Or.inr rfl, Or.inr rfl, Or.inl rfl, trivial⟩ (Hrc49 _ _ _ _ hf true)
theorem bX3_searchFrom_49 {d : Nat} (C : mCx p (mR (2 + (d + 1))) s m args meth c G cX3_searchFrom RX3 5 false 233 54500 233 54500) (hr : meth.sig.returnType = none) (hk : meth.locks = false) {b : Bool} {self : Int32 → Int32 → mT → Option (mT)} (Hself : ∀ {v1 : Int32} {v2 : Int32} {S S' : mT}, self v1 v2 S = some S' → mOk l mX3_searchFrom (2 + d) [.ref (140), .int v1, .int v2] b S none S') {S' : mT} : ∀ (k : Nat) (v1 : Int32) (v2 : Int32) (v3 : Int32) (S : mT), fX3_searchFrom_49 self k v1 v2 v3 S = some S' → ∀ ok : Bool, mW p l e (mR (2 + (d + 1))) s m args below meth c G 5 233 54500 (mQ below G args s b S' none) (ok, 49, [.ref (140), .int v1, .int v2, .int v3, .retAddr 0], [], mk b S) := by
  intro k
  induction k with
  | zero =>
    intro v1 v2 v3 S hf ok
    cases hf
  | succ k ih =>
    intro v1 v2 v3 S hf ok
    unfold fX3_searchFrom_49 at hf
    refine msegT C kX3_searchFrom 29 3 (g := (true, (if (7 : Int32) < v3 then 116 else 55), [.ref (140), .int v1, .int v2, .int v3, .retAddr 0], [], mk b S)) rfl rfl ?_
    by_cases hc : (7 : Int32) < v3
    · rw [if_pos hc] at hf ⊢
      cases hf
      exact gret_v C hr hk (kX3_searchFrom _ (List.mem_of_getElem? (i := 70) rfl)).1
    · rw [if_neg hc] at hf ⊢
      refine msegT C kX3_searchFrom 32 3 (g := (true, 58, [.ref (140), .int v1, .int v2, .int v3, .retAddr 0], [.int v3, .int v1, .ref (140)], mk b S)) rfl rfl ?_
      obtain ⟨x4, S3, hq, hf⟩ := bndC_ex hf
      refine mcall (kd := 0) (vs := [.ref (140), .int v1, .int v3]) (rest := []) (r := (some (.int x4))) (h' := mk b S3) (ok' := true) C lkRX3_108 (qX3_againstWith hq) (kX3_searchFrom _ (List.mem_of_getElem? (i := 35) rfl)).1 ⟨_, _, rfl, rfl, Nat.le_of_ble_eq_true rfl, _, _, rfl, rfl, rfl⟩ (by show 1 + 1 ≤ 2 + (d + 1); omega) (by show 19 + 6 + 100 * (1) ≤ 100 * (2 + (d + 1)); omega) (Nat.le_refl _) (Nat.le_refl _) (Nat.le_of_ble_eq_true rfl) ?_
      obtain ⟨hok, hf⟩ := grd_ex hf
      refine msegT C kX3_searchFrom 36 6 (g := ((kI 184 v1 && (kO 140 3 && true)), 70, [.ref (140), .int v1, .int v2, .int v3, .int x4], [], mk b (sI S3 184 (mIx v1) v3))) rfl hok ?_
      obtain ⟨S5, eS5, hf⟩ := bnd_ex hf
      rw [← eS5]
      obtain ⟨hok, hf⟩ := grd_ex hf
      refine msegT C kX3_searchFrom 42 10 (g := ((kI 183 (v1 + (1 : Int32)) && (kO 140 3 && true)), 83, [.ref (140), .int v1, .int v2, .int v3, .int x4], [.int ((v2 + x4) + (S5.1 183 (mIx (v1 + (1 : Int32)))))], mk b S5)) rfl hok ?_
      obtain ⟨hok, hf⟩ := grd_ex hf
      refine msegT C kX3_searchFrom 52 3 (g := ((kO 140 3 && true), (if (S5.1 140 5) ≤ ((v2 + x4) + (S5.1 183 (mIx (v1 + (1 : Int32))))) then 110 else 90), [.ref (140), .int v1, .int v2, .int v3, .int x4], [], mk b S5)) rfl hok ?_
      by_cases hc : (S5.1 140 5) ≤ ((v2 + x4) + (S5.1 183 (mIx (v1 + (1 : Int32)))))
      · rw [if_pos hc] at hf ⊢
        exact mfor (L' := [.ref (140), .int v1, .int v2, .int v3, .retAddr 0]) ⟨Or.inr rfl, Or.inr rfl, Or.inr rfl, Or.inr rfl, Or.inl rfl, trivial⟩ (bX3_searchFrom_110 C hr hk Hself ih hf true)
      · rw [if_neg hc] at hf ⊢
        obtain ⟨hok, hf⟩ := grd_ex hf
        refine msegT C kX3_searchFrom 55 4 (g := ((kO 140 3 && true), 96, [.ref (140), .int v1, .int v2, .int v3, .int x4], [.int v3, .int v1, .ref 174], mk b S5)) rfl hok ?_
        obtain ⟨S6, hq, hf⟩ := bndV_ex hf
        refine mcall (kd := 0) (vs := [.ref 174, .int v1, .int v3]) (rest := []) (r := none) (h' := mk b S6) (ok' := true) C lkRX3_111 (qX9_setHeads_174 hq) (kX3_searchFrom _ (List.mem_of_getElem? (i := 59) rfl)).1 ⟨_, _, rfl, rfl, Nat.le_of_ble_eq_true rfl, _, _, rfl, rfl, rfl⟩ (by show 1 + 1 ≤ 2 + (d + 1); omega) (by show 19 + 4 + 100 * (1) ≤ 100 * (2 + (d + 1)); omega) (Nat.le_refl _) (Nat.le_refl _) (Nat.le_of_ble_eq_true rfl) ?_
        refine msegT C kX3_searchFrom 60 7 (g := (true, 107, [.ref (140), .int v1, .int v2, .int v3, .int x4], [.int (v2 + x4), .int (v1 + (1 : Int32)), .ref (140)], mk b S6)) rfl rfl ?_
        obtain ⟨S7, hq, hf⟩ := bndV_ex hf
        refine mcall (kd := 0) (vs := [.ref (140), .int (v1 + (1 : Int32)), .int (v2 + x4)]) (rest := []) (r := none) (h' := mk b S7) (ok' := true) C lkRX3_70 (Hself hq) (kX3_searchFrom _ (List.mem_of_getElem? (i := 67) rfl)).1 ⟨_, _, rfl, rfl, Nat.le_of_ble_eq_true rfl, _, _, rfl, rfl, rfl⟩ (by show 2 + d + 1 ≤ 2 + (d + 1); omega) (by show 19 + 5 + 100 * (2 + d) ≤ 100 * (2 + (d + 1)); omega) (Nat.le_refl _) (Nat.le_refl _) (Nat.le_of_ble_eq_true rfl) ?_
        exact mfor (L' := [.ref (140), .int v1, .int v2, .int v3, .retAddr 0]) ⟨Or.inr rfl, Or.inr rfl, Or.inr rfl, Or.inr rfl, Or.inl rfl, trivial⟩ (bX3_searchFrom_110 C hr hk Hself ih hf true)
theorem bX3_searchFrom_0 {d : Nat} (C : mCx p (mR (2 + (d + 1))) s m args meth c G cX3_searchFrom RX3 5 false 233 54500 233 54500) (hr : meth.sig.returnType = none) (hk : meth.locks = false) {b : Bool} {self : Int32 → Int32 → mT → Option (mT)} (Hself : ∀ {v1 : Int32} {v2 : Int32} {S S' : mT}, self v1 v2 S = some S' → mOk l mX3_searchFrom (2 + d) [.ref (140), .int v1, .int v2] b S none S') {S' : mT} {v1 : Int32} {v2 : Int32} {S : mT} (hf : fX3_searchFrom_0 self v1 v2 S = some S') (ok : Bool) : mW p l e (mR (2 + (d + 1))) s m args below meth c G 5 233 54500 (mQ below G args s b S' none) (ok, 0, [.ref (140), .int v1, .int v2, .retAddr 0, .retAddr 0], [], mk b S) := by
  unfold fX3_searchFrom_0 at hf
  obtain ⟨hok, hf⟩ := grd_ex hf
  refine msegT C kX3_searchFrom 0 9 (g := ((kO 140 3 && (kI 183 v1 && (kO 140 3 && true))), (if (v2 + (S.1 183 (mIx v1))) < (S.1 140 5) then 16 else 15), [.ref (140), .int v1, .int v2, .retAddr 0, .retAddr 0], [], mk b S)) rfl hok ?_
  by_cases hc : (v2 + (S.1 183 (mIx v1))) < (S.1 140 5)
  · rw [if_pos hc] at hf ⊢
    obtain ⟨hok, hf⟩ := grd_ex hf
    refine msegT C kX3_searchFrom 10 4 (g := ((kO 140 3 && true), (if v1 < (S.1 140 6) then 47 else 24), [.ref (140), .int v1, .int v2, .retAddr 0, .retAddr 0], [], mk b S)) rfl hok ?_
    by_cases hc : v1 < (S.1 140 6)
    · rw [if_pos hc] at hf ⊢
      refine msegT C kX3_searchFrom 27 2 (g := (true, 49, [.ref (140), .int v1, .int v2, .int (0 : Int32), .retAddr 0], [], mk b S)) rfl rfl ?_
      exact mfor (L' := [.ref (140), .int v1, .int v2, .int (0 : Int32), .retAddr 0]) ⟨Or.inr rfl, Or.inr rfl, Or.inr rfl, Or.inr rfl, Or.inl rfl, trivial⟩ (bX3_searchFrom_49 C hr hk Hself _ _ _ _ _ hf true)
    · rw [if_neg hc] at hf ⊢
      obtain ⟨hok, hf⟩ := grd_ex hf
      refine msegT C kX3_searchFrom 14 3 (g := ((kO 140 3 && true), 29, [.ref (140), .int v1, .int v2, .retAddr 0, .retAddr 0], [], mk b (sI S 140 5 v2))) rfl hok ?_
      obtain ⟨S1, eS1, hf⟩ := bnd_ex hf
      rw [← eS1]
      obtain ⟨hok, hf⟩ := grd_ex hf
      refine msegT C kX3_searchFrom 17 9 (g := ((kC 184 185 (0 : Int32) (0 : Int32) (S1.1 140 6) && (kO 140 3 && (kO 140 3 && (kO 140 3 && true)))), 46, [.ref (140), .int v1, .int v2, .retAddr 0, .retAddr 0], [], mk b (sC S1 184 185 (0 : Int32) (0 : Int32) (S1.1 140 6)))) rfl hok ?_
      obtain ⟨S2, eS2, hf⟩ := bnd_ex hf
      rw [← eS2]
      cases hf
      exact gret_v C hr hk (kX3_searchFrom _ (List.mem_of_getElem? (i := 26) rfl)).1
  · rw [if_neg hc] at hf ⊢
    cases hf
    exact gret_v C hr hk (kX3_searchFrom _ (List.mem_of_getElem? (i := 9) rfl)).1
theorem qX3_searchFrom {b : Bool} : ∀ (d : Nat) {v1 : Int32} {v2 : Int32} {S S' : mT} (hf : fX3_searchFrom d v1 v2 S = some S'), mOk l mX3_searchFrom (2 + d) [.ref (140), .int v1, .int v2] b S none S' := by
  intro d
  induction d with
  | zero =>
    intro v1 v2 S S' hf
    cases hf
  | succ d ih =>
    intro v1 v2 S S' hf
    exact gMet (by decide) (by show 1 ≤ 2 + (d + 1); omega) rfl (Nat.le_of_ble_eq_true rfl) (fun p e s m args below meth c G C hr hk => bX3_searchFrom_0 C hr hk ih hf true)
theorem bX3_takeReports_85 (C : mCx p (mR 1) s m args meth c G cX3_takeReports RX3 6 false 233 54500 233 54500) (hr : meth.sig.returnType = (some .int)) (hk : meth.locks = false) {b : Bool} {S' : mT} {r : Int32} {rc4 : Int32 → Int32 → mT → Option (Int32 × mT)} (Hrc4 : ∀ (v2 : Int32) (v3 : Int32) (S : mT), rc4 v2 v3 S = some (r, S') → ∀ ok : Bool, mW p l e (mR 1) s m args below meth c G 6 233 54500 (mQ below G args s b S' (some (.int r))) (ok, 4, [.ref (140), .ref (114), .int v2, .int v3, .retAddr 0, .retAddr 0], [], mk b S)) {rc42 : Int32 → Int32 → Int32 → Int32 → mT → Option (Int32 × mT)} (Hrc42 : ∀ (v2 : Int32) (v3 : Int32) (v4 : Int32) (v5 : Int32) (S : mT), rc42 v2 v3 v4 v5 S = some (r, S') → ∀ ok : Bool, mW p l e (mR 1) s m args below meth c G 6 233 54500 (mQ below G args s b S' (some (.int r))) (ok, 42, [.ref (140), .ref (114), .int v2, .int v3, .int v4, .int v5], [], mk b S)) {v2 : Int32} {v3 : Int32} {v4 : Int32} {v5 : Int32} {S : mT} (hf : fX3_takeReports_85 rc4 rc42 v2 v3 v4 v5 S = some (r, S')) (ok : Bool) : mW p l e (mR 1) s m args below meth c G 6 233 54500 (mQ below G args s b S' (some (.int r))) (ok, 85, [.ref (140), .ref (114), .int v2, .int v3, .int v4, .int v5], [], mk b S) := by
  unfold fX3_takeReports_85 at hf
  refine msegT C kX3_takeReports 54 1 (g := (true, 88, [.ref (140), .ref (114), .int v2, .int v3, .int v4, .int (v5 + (1 : Int32))], [], mk b S)) rfl rfl ?_
  obtain ⟨x5, ex5, hf⟩ := bnd_ex hf
  rw [← ex5]
  refine msegT C kX3_takeReports 55 1 (g := (true, 42, [.ref (140), .ref (114), .int v2, .int v3, .int v4, .int x5], [], mk b S)) rfl rfl ?_
  exact mfor (L' := [.ref (140), .ref (114), .int v2, .int v3, .int v4, .int x5]) ⟨Or.inr rfl, Or.inr rfl, Or.inr rfl, Or.inr rfl, Or.inr rfl, Or.inr rfl, trivial⟩ (Hrc42 _ _ _ _ _ hf true)
theorem bX3_takeReports_71 (C : mCx p (mR 1) s m args meth c G cX3_takeReports RX3 6 false 233 54500 233 54500) (hr : meth.sig.returnType = (some .int)) (hk : meth.locks = false) {b : Bool} {S' : mT} {r : Int32} {rc4 : Int32 → Int32 → mT → Option (Int32 × mT)} (Hrc4 : ∀ (v2 : Int32) (v3 : Int32) (S : mT), rc4 v2 v3 S = some (r, S') → ∀ ok : Bool, mW p l e (mR 1) s m args below meth c G 6 233 54500 (mQ below G args s b S' (some (.int r))) (ok, 4, [.ref (140), .ref (114), .int v2, .int v3, .retAddr 0, .retAddr 0], [], mk b S)) {rc42 : Int32 → Int32 → Int32 → Int32 → mT → Option (Int32 × mT)} (Hrc42 : ∀ (v2 : Int32) (v3 : Int32) (v4 : Int32) (v5 : Int32) (S : mT), rc42 v2 v3 v4 v5 S = some (r, S') → ∀ ok : Bool, mW p l e (mR 1) s m args below meth c G 6 233 54500 (mQ below G args s b S' (some (.int r))) (ok, 42, [.ref (140), .ref (114), .int v2, .int v3, .int v4, .int v5], [], mk b S)) {v2 : Int32} {v3 : Int32} {v4 : Int32} {v5 : Int32} {S : mT} (hf : fX3_takeReports_71 rc4 rc42 v2 v3 v4 v5 S = some (r, S')) (ok : Bool) : mW p l e (mR 1) s m args below meth c G 6 233 54500 (mQ below G args s b S' (some (.int r))) (ok, 71, [.ref (140), .ref (114), .int v2, .int v3, .int v4, .int v5], [], mk b S) := by
  unfold fX3_takeReports_71 at hf
  obtain ⟨hok, hf⟩ := grd_ex hf
  refine msegT C kX3_takeReports 44 10 (g := ((kI (rowR 141 (mIx v4)) v5 && (kI (rowR 141 (mIx v4)) v5 && (kR 141 v4 && (kO 140 3 && true)))), 85, [.ref (140), .ref (114), .int v2, .int v3, .int v4, .int v5], [], mk b (sI S (rowR 141 (mIx v4)) (mIx v5) ((S.1 (rowR 141 (mIx v4)) (mIx v5)) + (1 : Int32))))) rfl hok ?_
  obtain ⟨S4, eS4, hf⟩ := bnd_ex hf
  rw [← eS4]
  exact mfor (L' := [.ref (140), .ref (114), .int v2, .int v3, .int v4, .int v5]) ⟨Or.inr rfl, Or.inr rfl, Or.inr rfl, Or.inr rfl, Or.inr rfl, Or.inr rfl, trivial⟩ (bX3_takeReports_85 C hr hk Hrc4 Hrc42 hf true)
theorem bX3_takeReports_91 (C : mCx p (mR 1) s m args meth c G cX3_takeReports RX3 6 false 233 54500 233 54500) (hr : meth.sig.returnType = (some .int)) (hk : meth.locks = false) {b : Bool} {S' : mT} {r : Int32} {rc4 : Int32 → Int32 → mT → Option (Int32 × mT)} (Hrc4 : ∀ (v2 : Int32) (v3 : Int32) (S : mT), rc4 v2 v3 S = some (r, S') → ∀ ok : Bool, mW p l e (mR 1) s m args below meth c G 6 233 54500 (mQ below G args s b S' (some (.int r))) (ok, 4, [.ref (140), .ref (114), .int v2, .int v3, .retAddr 0, .retAddr 0], [], mk b S)) {v2 : Int32} {v3 : Int32} {S : mT} (hf : fX3_takeReports_91 rc4 v2 v3 S = some (r, S')) (ok : Bool) : mW p l e (mR 1) s m args below meth c G 6 233 54500 (mQ below G args s b S' (some (.int r))) (ok, 91, [.ref (140), .ref (114), .int v2, .int v3, .retAddr 0, .retAddr 0], [], mk b S) := by
  unfold fX3_takeReports_91 at hf
  refine msegT C kX3_takeReports 56 1 (g := (true, 94, [.ref (140), .ref (114), .int v2, .int (v3 + (1 : Int32)), .retAddr 0, .retAddr 0], [], mk b S)) rfl rfl ?_
  obtain ⟨x3, ex3, hf⟩ := bnd_ex hf
  rw [← ex3]
  refine msegT C kX3_takeReports 57 1 (g := (true, 4, [.ref (140), .ref (114), .int v2, .int x3, .retAddr 0, .retAddr 0], [], mk b S)) rfl rfl ?_
  exact mfor (L' := [.ref (140), .ref (114), .int v2, .int x3, .retAddr 0, .retAddr 0]) ⟨Or.inr rfl, Or.inr rfl, Or.inr rfl, Or.inr rfl, Or.inl rfl, Or.inl rfl, trivial⟩ (Hrc4 _ _ _ hf true)
theorem bX3_takeReports_42 (C : mCx p (mR 1) s m args meth c G cX3_takeReports RX3 6 false 233 54500 233 54500) (hr : meth.sig.returnType = (some .int)) (hk : meth.locks = false) {b : Bool} {S' : mT} {r : Int32} {rc4 : Int32 → Int32 → mT → Option (Int32 × mT)} (Hrc4 : ∀ (v2 : Int32) (v3 : Int32) (S : mT), rc4 v2 v3 S = some (r, S') → ∀ ok : Bool, mW p l e (mR 1) s m args below meth c G 6 233 54500 (mQ below G args s b S' (some (.int r))) (ok, 4, [.ref (140), .ref (114), .int v2, .int v3, .retAddr 0, .retAddr 0], [], mk b S)) : ∀ (k : Nat) (v2 : Int32) (v3 : Int32) (v4 : Int32) (v5 : Int32) (S : mT), fX3_takeReports_42 rc4 k v2 v3 v4 v5 S = some (r, S') → ∀ ok : Bool, mW p l e (mR 1) s m args below meth c G 6 233 54500 (mQ below G args s b S' (some (.int r))) (ok, 42, [.ref (140), .ref (114), .int v2, .int v3, .int v4, .int v5], [], mk b S) := by
  intro k
  induction k with
  | zero =>
    intro v2 v3 v4 v5 S hf ok
    cases hf
  | succ k ih =>
    intro v2 v3 v4 v5 S hf ok
    unfold fX3_takeReports_42 at hf
    refine msegT C kX3_takeReports 29 3 (g := (true, (if (35 : Int32) < v5 then 91 else 49), [.ref (140), .ref (114), .int v2, .int v3, .int v4, .int v5], [], mk b S)) rfl rfl ?_
    by_cases hc : (35 : Int32) < v5
    · rw [if_pos hc] at hf ⊢
      exact mfor (L' := [.ref (140), .ref (114), .int v2, .int v3, .retAddr 0, .retAddr 0]) ⟨Or.inr rfl, Or.inr rfl, Or.inr rfl, Or.inr rfl, Or.inl rfl, Or.inl rfl, trivial⟩ (bX3_takeReports_91 C hr hk Hrc4 hf true)
    · rw [if_neg hc] at hf ⊢
      obtain ⟨hok, hf⟩ := grd_ex hf
      refine msegT C kX3_takeReports 32 6 (g := ((kI 116 v3 && (kO 114 5 && true)), (if v5 < (S.1 116 (mIx v3)) then 71 else 60), [.ref (140), .ref (114), .int v2, .int v3, .int v4, .int v5], [], mk b S)) rfl hok ?_
      by_cases hc : v5 < (S.1 116 (mIx v3))
      · rw [if_pos hc] at hf ⊢
        exact mfor (L' := [.ref (140), .ref (114), .int v2, .int v3, .int v4, .int v5]) ⟨Or.inr rfl, Or.inr rfl, Or.inr rfl, Or.inr rfl, Or.inr rfl, Or.inr rfl, trivial⟩ (bX3_takeReports_71 C hr hk Hrc4 ih hf true)
      · rw [if_neg hc] at hf ⊢
        obtain ⟨hok, hf⟩ := grd_ex hf
        refine msegT C kX3_takeReports 38 6 (g := ((kI 117 v3 && (kO 114 5 && true)), (if v5 ≤ (S.1 117 (mIx v3)) then 85 else 71), [.ref (140), .ref (114), .int v2, .int v3, .int v4, .int v5], [], mk b S)) rfl hok ?_
        by_cases hc : v5 ≤ (S.1 117 (mIx v3))
        · rw [if_pos hc] at hf ⊢
          exact mfor (L' := [.ref (140), .ref (114), .int v2, .int v3, .int v4, .int v5]) ⟨Or.inr rfl, Or.inr rfl, Or.inr rfl, Or.inr rfl, Or.inr rfl, Or.inr rfl, trivial⟩ (bX3_takeReports_85 C hr hk Hrc4 ih hf true)
        · rw [if_neg hc] at hf ⊢
          exact mfor (L' := [.ref (140), .ref (114), .int v2, .int v3, .int v4, .int v5]) ⟨Or.inr rfl, Or.inr rfl, Or.inr rfl, Or.inr rfl, Or.inr rfl, Or.inr rfl, trivial⟩ (bX3_takeReports_71 C hr hk Hrc4 ih hf true)
theorem bX3_takeReports_4 (C : mCx p (mR 1) s m args meth c G cX3_takeReports RX3 6 false 233 54500 233 54500) (hr : meth.sig.returnType = (some .int)) (hk : meth.locks = false) {b : Bool} {S' : mT} {r : Int32} : ∀ (k : Nat) (v2 : Int32) (v3 : Int32) (S : mT), fX3_takeReports_4 k v2 v3 S = some (r, S') → ∀ ok : Bool, mW p l e (mR 1) s m args below meth c G 6 233 54500 (mQ below G args s b S' (some (.int r))) (ok, 4, [.ref (140), .ref (114), .int v2, .int v3, .retAddr 0, .retAddr 0], [], mk b S) := by
  intro k
  induction k with
  | zero =>
    intro v2 v3 S hf ok
    cases hf
  | succ k ih =>
    intro v2 v3 S hf ok
    unfold fX3_takeReports_4 at hf
    obtain ⟨hok, hf⟩ := grd_ex hf
    refine msegT C kX3_takeReports 4 4 (g := ((kO 114 5 && true), (if (S.1 114 5) ≤ v3 then 97 else 12), [.ref (140), .ref (114), .int v2, .int v3, .retAddr 0, .retAddr 0], [], mk b S)) rfl hok ?_
    by_cases hc : (S.1 114 5) ≤ v3
    · rw [if_pos hc] at hf ⊢
      refine msegT C kX3_takeReports 58 1 (g := (true, 98, [.ref (140), .ref (114), .int v2, .int v3, .retAddr 0, .retAddr 0], [.int v2], mk b S)) rfl rfl ?_
      cases hf
      exact gret_i C hr hk (kX3_takeReports _ (List.mem_of_getElem? (i := 59) rfl)).1
    · rw [if_neg hc] at hf ⊢
      obtain ⟨hok, hf⟩ := grd_ex hf
      refine msegT C kX3_takeReports 8 8 (g := ((kO 140 3 && true), (if (((S.1 140 7) >>> (v3 &&& 31)) &&& (1 : Int32)) = (1 : Int32) then 24 else 91), [.ref (140), .ref (114), .int v2, .int v3, .retAddr 0, .retAddr 0], [], mk b S)) rfl hok ?_
      by_cases hc : (((S.1 140 7) >>> (v3 &&& 31)) &&& (1 : Int32)) = (1 : Int32)
      · rw [if_pos hc] at hf ⊢
        obtain ⟨hok, hf⟩ := grd_ex hf
        refine msegT C kX3_takeReports 16 5 (g := ((kI 115 v3 && (kO 114 5 && true)), 32, [.ref (140), .ref (114), .int v2, .int v3, .int (S.1 115 (mIx v3)), .retAddr 0], [], mk b S)) rfl hok ?_
        obtain ⟨x1, ex1, hf⟩ := bnd_ex hf
        rw [← ex1]
        refine msegT C kX3_takeReports 21 6 (g := (true, 39, [.ref (140), .ref (114), .int (v2 ||| ((1 : Int32) <<< (x1 &&& 31))), .int v3, .int x1, .retAddr 0], [], mk b S)) rfl rfl ?_
        obtain ⟨x2, ex2, hf⟩ := bnd_ex hf
        rw [← ex2]
        refine msegT C kX3_takeReports 27 2 (g := (true, 42, [.ref (140), .ref (114), .int x2, .int v3, .int x1, .int (0 : Int32)], [], mk b S)) rfl rfl ?_
        exact mfor (L' := [.ref (140), .ref (114), .int x2, .int v3, .int x1, .int (0 : Int32)]) ⟨Or.inr rfl, Or.inr rfl, Or.inr rfl, Or.inr rfl, Or.inr rfl, Or.inr rfl, trivial⟩ (bX3_takeReports_42 C hr hk ih _ _ _ _ _ _ hf true)
      · rw [if_neg hc] at hf ⊢
        exact mfor (L' := [.ref (140), .ref (114), .int v2, .int v3, .retAddr 0, .retAddr 0]) ⟨Or.inr rfl, Or.inr rfl, Or.inr rfl, Or.inr rfl, Or.inl rfl, Or.inl rfl, trivial⟩ (bX3_takeReports_91 C hr hk ih hf true)
theorem bX3_takeReports_0 (C : mCx p (mR 1) s m args meth c G cX3_takeReports RX3 6 false 233 54500 233 54500) (hr : meth.sig.returnType = (some .int)) (hk : meth.locks = false) {b : Bool} {S' : mT} {r : Int32} {S : mT} (hf : fX3_takeReports S = some (r, S')) (ok : Bool) : mW p l e (mR 1) s m args below meth c G 6 233 54500 (mQ below G args s b S' (some (.int r))) (ok, 0, [.ref (140), .ref (114), .retAddr 0, .retAddr 0, .retAddr 0, .retAddr 0], [], mk b S) := by
  unfold fX3_takeReports at hf
  refine msegT C kX3_takeReports 0 4 (g := (true, 4, [.ref (140), .ref (114), .int (0 : Int32), .int (0 : Int32), .retAddr 0, .retAddr 0], [], mk b S)) rfl rfl ?_
  exact mfor (L' := [.ref (140), .ref (114), .int (0 : Int32), .int (0 : Int32), .retAddr 0, .retAddr 0]) ⟨Or.inr rfl, Or.inr rfl, Or.inr rfl, Or.inr rfl, Or.inl rfl, Or.inl rfl, trivial⟩ (bX3_takeReports_4 C hr hk _ _ _ _ hf true)
theorem qX3_takeReports {b : Bool} {S S' : mT} {r : Int32} (hf : fX3_takeReports S = some (r, S')) : mOk l mX3_takeReports 1 [.ref (140), .ref (114)] b S (some (.int r)) S' :=
  gMet (by decide) (Nat.le_of_ble_eq_true rfl) rfl (Nat.le_of_ble_eq_true rfl) (fun p e s m args below meth c G C hr hk => bX3_takeReports_0 C hr hk hf true)
theorem bX3_learn_42 (C : mCx p (mR 19) s m args meth c G cX3_learn RX3 5 false 233 54500 233 54500) (hr : meth.sig.returnType = none) (hk : meth.locks = false) {b : Bool} {S' : mT} : ∀ (k : Nat) (v4 : Int32) (S : mT), fX3_learn_42 k v4 S = some S' → ∀ ok : Bool, mW p l e (mR 19) s m args below meth c G 5 233 54500 (mQ below G args s b S' none) (ok, 42, [.ref (140), .ref (114), .retAddr 0, .retAddr 0, .int v4], [], mk b S) := by
  intro k
  induction k with
  | zero =>
    intro v4 S hf ok
    cases hf
  | succ k ih =>
    intro v4 S hf ok
    unfold fX3_learn_42 at hf
    refine msegT C kX3_learn 23 3 (g := (true, (if (32 : Int32) ≤ v4 then 66 else 49), [.ref (140), .ref (114), .retAddr 0, .retAddr 0, .int v4], [], mk b S)) rfl rfl ?_
    by_cases hc : (32 : Int32) ≤ v4
    · rw [if_pos hc] at hf ⊢
      obtain ⟨hok, hf⟩ := grd_ex hf
      refine msegT C kX3_learn 34 4 (g := ((kO 140 3 && true), 72, [.ref (140), .ref (114), .retAddr 0, .retAddr 0, .int v4], [.ref (114), .ref (140), .ref 174], mk b S)) rfl hok ?_
      obtain ⟨x5, S4, hq, hf⟩ := bndC_ex hf
      refine mcall (kd := 0) (vs := [.ref (140), .ref (114)]) (rest := [.ref 174]) (r := (some (.int x5))) (h' := mk b S4) (ok' := true) C lkRX3_50 (qX3_takeReports hq) (kX3_learn _ (List.mem_of_getElem? (i := 38) rfl)).1 ⟨_, _, rfl, rfl, Nat.le_of_ble_eq_true rfl, _, _, rfl, rfl, rfl⟩ (Nat.le_of_ble_eq_true rfl) (Nat.le_of_ble_eq_true rfl) (Nat.le_refl _) (Nat.le_refl _) (Nat.le_of_ble_eq_true rfl) ?_
      obtain ⟨hok, hf⟩ := grd_ex hf
      refine msegT C kX3_learn 39 2 (g := ((kO 140 3 && true), 79, [.ref (140), .ref (114), .retAddr 0, .retAddr 0, .int v4], [.int (S4.1 140 6), .int x5, .ref 174], mk b S4)) rfl hok ?_
      obtain ⟨x7, S6, hq, hf⟩ := bndC_ex hf
      refine mcall (kd := 0) (vs := [.ref 174, .int x5, .int (S4.1 140 6)]) (rest := []) (r := (some (.int x7))) (h' := mk b S6) (ok' := true) C lkRX3_54 (qX9_list_174 hq) (kX3_learn _ (List.mem_of_getElem? (i := 41) rfl)).1 ⟨_, _, rfl, rfl, Nat.le_of_ble_eq_true rfl, _, _, rfl, rfl, rfl⟩ (Nat.le_of_ble_eq_true rfl) (Nat.le_of_ble_eq_true rfl) (Nat.le_refl _) (Nat.le_refl _) (Nat.le_of_ble_eq_true rfl) ?_
      refine msegT C kX3_learn 42 2 (g := (true, 84, [.ref (140), .ref (114), .retAddr 0, .retAddr 0, .int v4], [.ref (140)], mk b S6)) rfl rfl ?_
      obtain ⟨S8, hq, hf⟩ := bndV_ex hf
      refine mcall (kd := 0) (vs := [.ref (140)]) (rest := []) (r := none) (h' := mk b S8) (ok' := true) C lkRX3_58 (qX3_countOwed hq) (kX3_learn _ (List.mem_of_getElem? (i := 44) rfl)).1 ⟨_, _, rfl, rfl, Nat.le_of_ble_eq_true rfl, _, _, rfl, rfl, rfl⟩ (Nat.le_of_ble_eq_true rfl) (Nat.le_of_ble_eq_true rfl) (Nat.le_refl _) (Nat.le_refl _) (Nat.le_of_ble_eq_true rfl) ?_
      obtain ⟨hok, hf⟩ := grd_ex hf
      refine msegT C kX3_learn 45 3 (g := ((kO 140 3 && true), 92, [.ref (140), .ref (114), .retAddr 0, .retAddr 0, .int v4], [.int (S8.1 140 7), .ref (140)], mk b S8)) rfl hok ?_
      obtain ⟨x10, S9, hq, hf⟩ := bndC_ex hf
      refine mcall (kd := 1) (vs := [.int (S8.1 140 7)]) (rest := [.ref (140)]) (r := (some (.int x10))) (h' := mk b S9) (ok' := true) C lkRX3_61 (qJ6_bitCount_0f7a4 hq) (kX3_learn _ (List.mem_of_getElem? (i := 48) rfl)).1 rfl (Nat.le_of_ble_eq_true rfl) (Nat.le_of_ble_eq_true rfl) (Nat.le_refl _) (Nat.le_refl _) (Nat.le_of_ble_eq_true rfl) ?_
      obtain ⟨hok, hf⟩ := grd_ex hf
      refine msegT C kX3_learn 49 3 (g := ((kO 140 3 && true), 100, [.ref (140), .ref (114), .retAddr 0, .retAddr 0, .int v4], [], mk b (sI S9 140 5 (x10 + (1 : Int32))))) rfl hok ?_
      obtain ⟨S11, eS11, hf⟩ := bnd_ex hf
      rw [← eS11]
      refine msegT C kX3_learn 52 3 (g := (true, 103, [.ref (140), .ref (114), .retAddr 0, .retAddr 0, .int v4], [.int (0 : Int32), .int (0 : Int32), .ref (140)], mk b S11)) rfl rfl ?_
      obtain ⟨S12, hq, hf⟩ := bndV_ex hf
      refine mcall (kd := 0) (vs := [.ref (140), .int (0 : Int32), .int (0 : Int32)]) (rest := []) (r := none) (h' := mk b S12) (ok' := true) C lkRX3_70 (qX3_searchFrom 16 hq) (kX3_learn _ (List.mem_of_getElem? (i := 55) rfl)).1 ⟨_, _, rfl, rfl, Nat.le_of_ble_eq_true rfl, _, _, rfl, rfl, rfl⟩ (Nat.le_of_ble_eq_true rfl) (Nat.le_of_ble_eq_true rfl) (Nat.le_refl _) (Nat.le_refl _) (Nat.le_of_ble_eq_true rfl) ?_
      cases hf
      exact gret_v C hr hk (kX3_learn _ (List.mem_of_getElem? (i := 56) rfl)).1
    · rw [if_neg hc] at hf ⊢
      obtain ⟨hok, hf⟩ := grd_ex hf
      refine msegT C kX3_learn 26 5 (g := ((kR 141 v4 && (kO 140 3 && true)), 57, [.ref (140), .ref (114), .retAddr 0, .retAddr 0, .int v4], [.int (0 : Int32), .ref (rowR 141 (mIx v4))], mk b S)) rfl hok ?_
      obtain ⟨S13, hq, hf⟩ := bndV_ex hf
      refine mcall (kd := 1) (vs := [.ref (rowR 141 (mIx v4)), .int (0 : Int32)]) (rest := []) (r := none) (h' := mk b S13) (ok' := true) C lkRX3_44 (qJ7_fill_53178 hq) (kX3_learn _ (List.mem_of_getElem? (i := 31) rfl)).1 rfl (Nat.le_of_ble_eq_true rfl) (Nat.le_of_ble_eq_true rfl) (Nat.le_refl _) (Nat.le_refl _) (Nat.le_of_ble_eq_true rfl) ?_
      refine msegT C kX3_learn 32 1 (g := (true, 63, [.ref (140), .ref (114), .retAddr 0, .retAddr 0, .int (v4 + (1 : Int32))], [], mk b S13)) rfl rfl ?_
      obtain ⟨x14, ex14, hf⟩ := bnd_ex hf
      rw [← ex14]
      refine msegT C kX3_learn 33 1 (g := (true, 42, [.ref (140), .ref (114), .retAddr 0, .retAddr 0, .int x14], [], mk b S13)) rfl rfl ?_
      exact mfor (L' := [.ref (140), .ref (114), .retAddr 0, .retAddr 0, .int x14]) ⟨Or.inr rfl, Or.inr rfl, Or.inl rfl, Or.inl rfl, Or.inr rfl, trivial⟩ (ih _ _ hf true)
theorem bX3_learn_24 (C : mCx p (mR 19) s m args meth c G cX3_learn RX3 5 false 233 54500 233 54500) (hr : meth.sig.returnType = none) (hk : meth.locks = false) {b : Bool} {S' : mT} {v2 : Int32} {v3 : Int32} {S : mT} (hf : fX3_learn_24 v2 v3 S = some S') (ok : Bool) : mW p l e (mR 19) s m args below meth c G 5 233 54500 (mQ below G args s b S' none) (ok, 24, [.ref (140), .ref (114), .int v2, .int v3, .retAddr 0], [], mk b S) := by
  unfold fX3_learn_24 at hf
  obtain ⟨hok, hf⟩ := grd_ex hf
  refine msegT C kX3_learn 12 3 (g := ((mFit .boolean (1 : Int32) && (kO 140 3 && true)), 29, [.ref (140), .ref (114), .int v2, .int v3, .retAddr 0], [], mk b (sI S 140 8 (1 : Int32)))) rfl hok ?_
  obtain ⟨S1, eS1, hf⟩ := bnd_ex hf
  rw [← eS1]
  obtain ⟨hok, hf⟩ := grd_ex hf
  refine msegT C kX3_learn 15 3 (g := ((kO 140 3 && true), 34, [.ref (140), .ref (114), .int v2, .int v3, .retAddr 0], [], mk b (sI S1 140 7 v2))) rfl hok ?_
  obtain ⟨S2, eS2, hf⟩ := bnd_ex hf
  rw [← eS2]
  obtain ⟨hok, hf⟩ := grd_ex hf
  refine msegT C kX3_learn 18 3 (g := ((kO 140 3 && true), 39, [.ref (140), .ref (114), .int v2, .int v3, .retAddr 0], [], mk b (sI S2 140 6 v3))) rfl hok ?_
  obtain ⟨S3, eS3, hf⟩ := bnd_ex hf
  rw [← eS3]
  refine msegT C kX3_learn 21 2 (g := (true, 42, [.ref (140), .ref (114), .int v2, .int v3, .int (0 : Int32)], [], mk b S3)) rfl rfl ?_
  exact mfor (L' := [.ref (140), .ref (114), .retAddr 0, .retAddr 0, .int (0 : Int32)]) ⟨Or.inr rfl, Or.inr rfl, Or.inl rfl, Or.inl rfl, Or.inr rfl, trivial⟩ (bX3_learn_42 C hr hk _ _ _ hf true)
theorem bX3_learn_0 (C : mCx p (mR 19) s m args meth c G cX3_learn RX3 5 false 233 54500 233 54500) (hr : meth.sig.returnType = none) (hk : meth.locks = false) {b : Bool} {S' : mT} {v2 : Int32} {v3 : Int32} {S : mT} (hf : fX3_learn v2 v3 S = some S') (ok : Bool) : mW p l e (mR 19) s m args below meth c G 5 233 54500 (mQ below G args s b S' none) (ok, 0, [.ref (140), .ref (114), .int v2, .int v3, .retAddr 0], [], mk b S) := by
  unfold fX3_learn at hf
  obtain ⟨hok, hf⟩ := grd_ex hf
  refine msegT C kX3_learn 0 3 (g := ((kO 140 3 && true), (if (S.1 140 8) = 0 then 24 else 7), [.ref (140), .ref (114), .int v2, .int v3, .retAddr 0], [], mk b S)) rfl hok ?_
  by_cases hc : (S.1 140 8) = 0
  · rw [if_pos hc] at hf ⊢
    exact mfor (L' := [.ref (140), .ref (114), .int v2, .int v3, .retAddr 0]) ⟨Or.inr rfl, Or.inr rfl, Or.inr rfl, Or.inr rfl, Or.inl rfl, trivial⟩ (bX3_learn_24 C hr hk hf true)
  · rw [if_neg hc] at hf ⊢
    obtain ⟨hok, hf⟩ := grd_ex hf
    refine msegT C kX3_learn 3 4 (g := ((kO 140 3 && true), (if (S.1 140 7) = v2 then 15 else 24), [.ref (140), .ref (114), .int v2, .int v3, .retAddr 0], [], mk b S)) rfl hok ?_
    by_cases hc : (S.1 140 7) = v2
    · rw [if_pos hc] at hf ⊢
      obtain ⟨hok, hf⟩ := grd_ex hf
      refine msegT C kX3_learn 7 4 (g := ((kO 140 3 && true), (if (S.1 140 6) = v3 then 23 else 24), [.ref (140), .ref (114), .int v2, .int v3, .retAddr 0], [], mk b S)) rfl hok ?_
      by_cases hc : (S.1 140 6) = v3
      · rw [if_pos hc] at hf ⊢
        cases hf
        exact gret_v C hr hk (kX3_learn _ (List.mem_of_getElem? (i := 11) rfl)).1
      · rw [if_neg hc] at hf ⊢
        exact mfor (L' := [.ref (140), .ref (114), .int v2, .int v3, .retAddr 0]) ⟨Or.inr rfl, Or.inr rfl, Or.inr rfl, Or.inr rfl, Or.inl rfl, trivial⟩ (bX3_learn_24 C hr hk hf true)
    · rw [if_neg hc] at hf ⊢
      exact mfor (L' := [.ref (140), .ref (114), .int v2, .int v3, .retAddr 0]) ⟨Or.inr rfl, Or.inr rfl, Or.inr rfl, Or.inr rfl, Or.inl rfl, trivial⟩ (bX3_learn_24 C hr hk hf true)
theorem qX3_learn {b : Bool} {v2 : Int32} {v3 : Int32} {S S' : mT} (hf : fX3_learn v2 v3 S = some S') : mOk l mX3_learn 19 [.ref (140), .ref (114), .int v2, .int v3] b S none S' :=
  gMet (by decide) (Nat.le_of_ble_eq_true rfl) rfl (Nat.le_of_ble_eq_true rfl) (fun p e s m args below meth c G C hr hk => bX3_learn_0 C hr hk hf true)
theorem bX11_liars_0_f (C : mCx p (mR 20) s m args meth c G cX11_liars RX11 2 false 233 54500 233 54500) (hr : meth.sig.returnType = (some .int)) (hk : meth.locks = false) {S' : mT} {r : Int32} {v1 : Int32} {S : mT} (hf : fX11_liars false v1 S = some (r, S')) (ok : Bool) : mW p l e (mR 20) s m args below meth c G 2 233 54500 (mQ below G args s false S' (some (.int r))) (ok, 0, [.ref (0), .int v1], [], mk false S) := by
  unfold fX11_liars at hf
  obtain ⟨hok, hf⟩ := grd_ex hf
  refine msegT C kX11_liars 0 7 (g := ((kO 0 11 && (kO 0 11 && (kO 0 11 && true))), 13, [.ref (0), .int v1], [.int v1, .ref 114, .ref 114, .ref 140], mk false S)) rfl hok ?_
  obtain ⟨x2, S1, hq, hf⟩ := bndC_ex hf
  refine mcall (kd := 0) (vs := [.ref 114, .int v1]) (rest := [.ref 114, .ref 140]) (r := (some (.int x2))) (h' := mk false S1) (ok' := true) C lkRX11_262 (qX5_countingAt hq) (kX11_liars _ (List.mem_of_getElem? (i := 7) rfl)).1 ⟨_, _, rfl, rfl, Nat.le_of_ble_eq_true rfl, _, _, rfl, rfl, rfl⟩ (Nat.le_of_ble_eq_true rfl) (Nat.le_of_ble_eq_true rfl) (Nat.le_refl _) (Nat.le_refl _) (Nat.le_of_ble_eq_true rfl) ?_
  obtain ⟨hok, hf⟩ := grd_ex hf
  refine msegT C kX11_liars 8 3 (g := ((kO (shU false) 8 && (kO 0 11 && true)), 23, [.ref (0), .int v1], [.int (S1.1 (shU false) 9), .int x2, .ref 114, .ref 140], mk false S1)) rfl hok ?_
  obtain ⟨S3, hq, hf⟩ := bndV_ex hf
  refine mcall (kd := 0) (vs := [.ref 140, .ref 114, .int x2, .int (S1.1 (shU false) 9)]) (rest := []) (r := none) (h' := mk false S3) (ok' := true) C lkRX11_265 (qX3_learn hq) (kX11_liars _ (List.mem_of_getElem? (i := 11) rfl)).1 ⟨_, _, rfl, rfl, Nat.le_of_ble_eq_true rfl, _, _, rfl, rfl, rfl⟩ (Nat.le_of_ble_eq_true rfl) (Nat.le_of_ble_eq_true rfl) (Nat.le_refl _) (Nat.le_refl _) (Nat.le_of_ble_eq_true rfl) ?_
  obtain ⟨hok, hf⟩ := grd_ex hf
  refine msegT C kX11_liars 12 7 (g := ((kO (shU false) 8 && (kO 0 11 && (kO 140 3 && (kO 0 11 && true)))), 41, [.ref (0), .int v1], [.int (S3.1 (shU false) 9), .ref 185, .ref (0)], mk false S3)) rfl hok ?_
  obtain ⟨S4, hq, hf⟩ := bndV_ex hf
  refine mcall (kd := 0) (vs := [.ref (0), .ref 185, .int (S3.1 (shU false) 9)]) (rest := []) (r := none) (h' := mk false S4) (ok' := true) C lkRX11_186 (qX11_lay hq) (kX11_liars _ (List.mem_of_getElem? (i := 19) rfl)).1 ⟨_, _, rfl, rfl, Nat.le_of_ble_eq_true rfl, _, _, rfl, rfl, rfl⟩ (Nat.le_of_ble_eq_true rfl) (Nat.le_of_ble_eq_true rfl) (Nat.le_refl _) (Nat.le_refl _) (Nat.le_of_ble_eq_true rfl) ?_
  obtain ⟨hok, hf⟩ := grd_ex hf
  refine msegT C kX11_liars 20 3 (g := ((kO 140 3 && (kO 0 11 && true)), 51, [.ref (0), .int v1], [.int (S4.1 140 5)], mk false S4)) rfl hok ?_
  cases hf
  exact gret_i C hr hk (kX11_liars _ (List.mem_of_getElem? (i := 23) rfl)).1
theorem qX11_liars_f {v1 : Int32} {S S' : mT} {r : Int32} (hf : fX11_liars false v1 S = some (r, S')) : mOk l mX11_liars 20 [.ref (0), .int v1] false S (some (.int r)) S' :=
  gMet (by decide) (Nat.le_of_ble_eq_true rfl) rfl (Nat.le_of_ble_eq_true rfl) (fun p e s m args below meth c G C hr hk => bX11_liars_0_f C hr hk hf true)
theorem bX11_liars_0_t (C : mCx p (mR 20) s m args meth c G cX11_liars RX11 2 false 233 54500 233 54500) (hr : meth.sig.returnType = (some .int)) (hk : meth.locks = false) {S' : mT} {r : Int32} {v1 : Int32} {S : mT} (hf : fX11_liars true v1 S = some (r, S')) (ok : Bool) : mW p l e (mR 20) s m args below meth c G 2 233 54500 (mQ below G args s true S' (some (.int r))) (ok, 0, [.ref (0), .int v1], [], mk true S) := by
  unfold fX11_liars at hf
  obtain ⟨hok, hf⟩ := grd_ex hf
  refine msegT C kX11_liars 0 7 (g := ((kO 0 11 && (kO 0 11 && (kO 0 11 && true))), 13, [.ref (0), .int v1], [.int v1, .ref 114, .ref 114, .ref 140], mk true S)) rfl hok ?_
  obtain ⟨x2, S1, hq, hf⟩ := bndC_ex hf
  refine mcall (kd := 0) (vs := [.ref 114, .int v1]) (rest := [.ref 114, .ref 140]) (r := (some (.int x2))) (h' := mk true S1) (ok' := true) C lkRX11_262 (qX5_countingAt hq) (kX11_liars _ (List.mem_of_getElem? (i := 7) rfl)).1 ⟨_, _, rfl, rfl, Nat.le_of_ble_eq_true rfl, _, _, rfl, rfl, rfl⟩ (Nat.le_of_ble_eq_true rfl) (Nat.le_of_ble_eq_true rfl) (Nat.le_refl _) (Nat.le_refl _) (Nat.le_of_ble_eq_true rfl) ?_
  obtain ⟨hok, hf⟩ := grd_ex hf
  refine msegT C kX11_liars 8 3 (g := ((kO (shU true) 8 && (kO 0 11 && true)), 23, [.ref (0), .int v1], [.int (S1.1 (shU true) 9), .int x2, .ref 114, .ref 140], mk true S1)) rfl hok ?_
  obtain ⟨S3, hq, hf⟩ := bndV_ex hf
  refine mcall (kd := 0) (vs := [.ref 140, .ref 114, .int x2, .int (S1.1 (shU true) 9)]) (rest := []) (r := none) (h' := mk true S3) (ok' := true) C lkRX11_265 (qX3_learn hq) (kX11_liars _ (List.mem_of_getElem? (i := 11) rfl)).1 ⟨_, _, rfl, rfl, Nat.le_of_ble_eq_true rfl, _, _, rfl, rfl, rfl⟩ (Nat.le_of_ble_eq_true rfl) (Nat.le_of_ble_eq_true rfl) (Nat.le_refl _) (Nat.le_refl _) (Nat.le_of_ble_eq_true rfl) ?_
  obtain ⟨hok, hf⟩ := grd_ex hf
  refine msegT C kX11_liars 12 7 (g := ((kO (shU true) 8 && (kO 0 11 && (kO 140 3 && (kO 0 11 && true)))), 41, [.ref (0), .int v1], [.int (S3.1 (shU true) 9), .ref 185, .ref (0)], mk true S3)) rfl hok ?_
  obtain ⟨S4, hq, hf⟩ := bndV_ex hf
  refine mcall (kd := 0) (vs := [.ref (0), .ref 185, .int (S3.1 (shU true) 9)]) (rest := []) (r := none) (h' := mk true S4) (ok' := true) C lkRX11_186 (qX11_lay hq) (kX11_liars _ (List.mem_of_getElem? (i := 19) rfl)).1 ⟨_, _, rfl, rfl, Nat.le_of_ble_eq_true rfl, _, _, rfl, rfl, rfl⟩ (Nat.le_of_ble_eq_true rfl) (Nat.le_of_ble_eq_true rfl) (Nat.le_refl _) (Nat.le_refl _) (Nat.le_of_ble_eq_true rfl) ?_
  obtain ⟨hok, hf⟩ := grd_ex hf
  refine msegT C kX11_liars 20 3 (g := ((kO 140 3 && (kO 0 11 && true)), 51, [.ref (0), .int v1], [.int (S4.1 140 5)], mk true S4)) rfl hok ?_
  cases hf
  exact gret_i C hr hk (kX11_liars _ (List.mem_of_getElem? (i := 23) rfl)).1
theorem qX11_liars_t {v1 : Int32} {S S' : mT} {r : Int32} (hf : fX11_liars true v1 S = some (r, S')) : mOk l mX11_liars 20 [.ref (0), .int v1] true S (some (.int r)) S' :=
  gMet (by decide) (Nat.le_of_ble_eq_true rfl) rfl (Nat.le_of_ble_eq_true rfl) (fun p e s m args below meth c G C hr hk => bX11_liars_0_t C hr hk hf true)
theorem bX11_lies_22 (C : mCx p (mR 1) s m args meth c G cX11_lies RX11 2 false 233 54500 233 54500) (hr : meth.sig.returnType = (some .int)) (hk : meth.locks = false) {b : Bool} {S' : mT} {r : Int32} {s0 : Int32} {S : mT} (hf : fX11_lies_22 s0 S = some (r, S')) (ok : Bool) : mW p l e (mR 1) s m args below meth c G 2 233 54500 (mQ below G args s b S' (some (.int r))) (ok, 22, [.retAddr 0, .retAddr 0], [.int s0], mk b S) := by
  unfold fX11_lies_22 at hf
  cases hf
  exact gret_i C hr hk (kX11_lies _ (List.mem_of_getElem? (i := 12) rfl)).1
theorem bX11_lies_21 (C : mCx p (mR 1) s m args meth c G cX11_lies RX11 2 false 233 54500 233 54500) (hr : meth.sig.returnType = (some .int)) (hk : meth.locks = false) {b : Bool} {S' : mT} {r : Int32} {S : mT} (hf : fX11_lies_21 S = some (r, S')) (ok : Bool) : mW p l e (mR 1) s m args below meth c G 2 233 54500 (mQ below G args s b S' (some (.int r))) (ok, 21, [.retAddr 0, .retAddr 0], [], mk b S) := by
  unfold fX11_lies_21 at hf
  refine msegT C kX11_lies 11 1 (g := (true, 22, [.retAddr 0, .retAddr 0], [.int (-1 : Int32)], mk b S)) rfl rfl ?_
  exact mfor (L' := [.retAddr 0, .retAddr 0]) ⟨Or.inl rfl, Or.inl rfl, trivial⟩ (bX11_lies_22 C hr hk hf true)
theorem bX11_lies_0 (C : mCx p (mR 1) s m args meth c G cX11_lies RX11 2 false 233 54500 233 54500) (hr : meth.sig.returnType = (some .int)) (hk : meth.locks = false) {b : Bool} {S' : mT} {r : Int32} {v1 : Int32} {S : mT} (hf : fX11_lies v1 S = some (r, S')) (ok : Bool) : mW p l e (mR 1) s m args below meth c G 2 233 54500 (mQ below G args s b S' (some (.int r))) (ok, 0, [.ref (0), .int v1], [], mk b S) := by
  unfold fX11_lies at hf
  refine msegT C kX11_lies 0 2 (g := (true, (if v1 < 0 then 21 else 4), [.ref (0), .int v1], [], mk b S)) rfl rfl ?_
  by_cases hc : v1 < 0
  · rw [if_pos hc] at hf ⊢
    exact mfor (L' := [.retAddr 0, .retAddr 0]) ⟨Or.inl rfl, Or.inl rfl, trivial⟩ (bX11_lies_21 C hr hk hf true)
  · rw [if_neg hc] at hf ⊢
    obtain ⟨hok, hf⟩ := grd_ex hf
    refine msegT C kX11_lies 2 4 (g := ((kO 0 11 && true), (if (S.1 0 13) ≤ v1 then 21 else 12), [.ref (0), .int v1], [], mk b S)) rfl hok ?_
    by_cases hc : (S.1 0 13) ≤ v1
    · rw [if_pos hc] at hf ⊢
      exact mfor (L' := [.retAddr 0, .retAddr 0]) ⟨Or.inl rfl, Or.inl rfl, trivial⟩ (bX11_lies_21 C hr hk hf true)
    · rw [if_neg hc] at hf ⊢
      obtain ⟨hok, hf⟩ := grd_ex hf
      refine msegT C kX11_lies 6 5 (g := ((kI 186 v1 && (kO 0 11 && true)), 22, [.ref (0), .int v1], [.int (S.1 186 (mIx v1))], mk b S)) rfl hok ?_
      exact mfor (L' := [.retAddr 0, .retAddr 0]) ⟨Or.inl rfl, Or.inl rfl, trivial⟩ (bX11_lies_22 C hr hk hf true)
theorem qX11_lies {b : Bool} {v1 : Int32} {S S' : mT} {r : Int32} (hf : fX11_lies v1 S = some (r, S')) : mOk l mX11_lies 1 [.ref (0), .int v1] b S (some (.int r)) S' :=
  gMet (by decide) (Nat.le_of_ble_eq_true rfl) rfl (Nat.le_of_ble_eq_true rfl) (fun p e s m args below meth c G C hr hk => bX11_lies_0 C hr hk hf true)
theorem bX7_greatestRest_29 (C : mCx p (mR 1) s m args meth c G cX7_greatestRest RX7 3 false 233 54500 233 54500) (hr : meth.sig.returnType = (some .int)) (hk : meth.locks = false) {b : Bool} {S' : mT} {r : Int32} {rc4 : Int32 → Int32 → mT → Option (Int32 × mT)} (Hrc4 : ∀ (v1 : Int32) (v2 : Int32) (S : mT), rc4 v1 v2 S = some (r, S') → ∀ ok : Bool, mW p l e (mR 1) s m args below meth c G 3 233 54500 (mQ below G args s b S' (some (.int r))) (ok, 4, [.ref (109), .int v1, .int v2], [], mk b S)) {v1 : Int32} {v2 : Int32} {S : mT} (hf : fX7_greatestRest_29 rc4 v1 v2 S = some (r, S')) (ok : Bool) : mW p l e (mR 1) s m args below meth c G 3 233 54500 (mQ below G args s b S' (some (.int r))) (ok, 29, [.ref (109), .int v1, .int v2], [], mk b S) := by
  unfold fX7_greatestRest_29 at hf
  refine msegT C kX7_greatestRest 19 1 (g := (true, 32, [.ref (109), .int v1, .int (v2 + (1 : Int32))], [], mk b S)) rfl rfl ?_
  obtain ⟨x1, ex1, hf⟩ := bnd_ex hf
  rw [← ex1]
  refine msegT C kX7_greatestRest 20 1 (g := (true, 4, [.ref (109), .int v1, .int x1], [], mk b S)) rfl rfl ?_
  exact mfor (L' := [.ref (109), .int v1, .int x1]) ⟨Or.inr rfl, Or.inr rfl, Or.inr rfl, trivial⟩ (Hrc4 _ _ _ hf true)
theorem bX7_greatestRest_4 (C : mCx p (mR 1) s m args meth c G cX7_greatestRest RX7 3 false 233 54500 233 54500) (hr : meth.sig.returnType = (some .int)) (hk : meth.locks = false) {b : Bool} {S' : mT} {r : Int32} : ∀ (k : Nat) (v1 : Int32) (v2 : Int32) (S : mT), fX7_greatestRest_4 k v1 v2 S = some (r, S') → ∀ ok : Bool, mW p l e (mR 1) s m args below meth c G 3 233 54500 (mQ below G args s b S' (some (.int r))) (ok, 4, [.ref (109), .int v1, .int v2], [], mk b S) := by
  intro k
  induction k with
  | zero =>
    intro v1 v2 S hf ok
    cases hf
  | succ k ih =>
    intro v1 v2 S hf ok
    unfold fX7_greatestRest_4 at hf
    obtain ⟨hok, hf⟩ := grd_ex hf
    refine msegT C kX7_greatestRest 4 4 (g := ((kO 109 7 && true), (if (S.1 109 4) ≤ v2 then 35 else 12), [.ref (109), .int v1, .int v2], [], mk b S)) rfl hok ?_
    by_cases hc : (S.1 109 4) ≤ v2
    · rw [if_pos hc] at hf ⊢
      refine msegT C kX7_greatestRest 21 1 (g := (true, 36, [.ref (109), .int v1, .int v2], [.int v1], mk b S)) rfl rfl ?_
      cases hf
      exact gret_i C hr hk (kX7_greatestRest _ (List.mem_of_getElem? (i := 22) rfl)).1
    · rw [if_neg hc] at hf ⊢
      obtain ⟨hok, hf⟩ := grd_ex hf
      refine msegT C kX7_greatestRest 8 9 (g := ((kI 112 v1 && (kO 109 7 && (kI 112 v2 && (kO 109 7 && true)))), (if (S.1 112 (mIx v2)) ≤ (S.1 112 (mIx v1)) then 29 else 27), [.ref (109), .int v1, .int v2], [], mk b S)) rfl hok ?_
      by_cases hc : (S.1 112 (mIx v2)) ≤ (S.1 112 (mIx v1))
      · rw [if_pos hc] at hf ⊢
        exact mfor (L' := [.ref (109), .int v1, .int v2]) ⟨Or.inr rfl, Or.inr rfl, Or.inr rfl, trivial⟩ (bX7_greatestRest_29 C hr hk ih hf true)
      · rw [if_neg hc] at hf ⊢
        refine msegT C kX7_greatestRest 17 2 (g := (true, 29, [.ref (109), .int v2, .int v2], [], mk b S)) rfl rfl ?_
        exact mfor (L' := [.ref (109), .int v2, .int v2]) ⟨Or.inr rfl, Or.inr rfl, Or.inr rfl, trivial⟩ (bX7_greatestRest_29 C hr hk ih hf true)
theorem bX7_greatestRest_0 (C : mCx p (mR 1) s m args meth c G cX7_greatestRest RX7 3 false 233 54500 233 54500) (hr : meth.sig.returnType = (some .int)) (hk : meth.locks = false) {b : Bool} {S' : mT} {r : Int32} {S : mT} (hf : fX7_greatestRest S = some (r, S')) (ok : Bool) : mW p l e (mR 1) s m args below meth c G 3 233 54500 (mQ below G args s b S' (some (.int r))) (ok, 0, [.ref (109), .retAddr 0, .retAddr 0], [], mk b S) := by
  unfold fX7_greatestRest at hf
  refine msegT C kX7_greatestRest 0 4 (g := (true, 4, [.ref (109), .int (0 : Int32), .int (1 : Int32)], [], mk b S)) rfl rfl ?_
  exact mfor (L' := [.ref (109), .int (0 : Int32), .int (1 : Int32)]) ⟨Or.inr rfl, Or.inr rfl, Or.inr rfl, trivial⟩ (bX7_greatestRest_4 C hr hk _ _ _ _ hf true)
theorem qX7_greatestRest {b : Bool} {S S' : mT} {r : Int32} (hf : fX7_greatestRest S = some (r, S')) : mOk l mX7_greatestRest 1 [.ref (109)] b S (some (.int r)) S' :=
  gMet (by decide) (Nat.le_of_ble_eq_true rfl) rfl (Nat.le_of_ble_eq_true rfl) (fun p e s m args below meth c G C hr hk => bX7_greatestRest_0 C hr hk hf true)
theorem bX7_shareByRests_113 (C : mCx p (mR 2) s m args meth c G cX7_shareByRests RX7 6 false 233 54500 233 54500) (hr : meth.sig.returnType = none) (hk : meth.locks = false) {b : Bool} {S' : mT} {S : mT} (hf : fX7_shareByRests_113 S = some S') (ok : Bool) : mW p l e (mR 2) s m args below meth c G 6 233 54500 (mQ below G args s b S' none) (ok, 113, [.retAddr 0, .retAddr 0, .retAddr 0, .retAddr 0, .retAddr 0, .retAddr 0], [], mk b S) := by
  unfold fX7_shareByRests_113 at hf
  cases hf
  exact gret_v C hr hk (kX7_shareByRests _ (List.mem_of_getElem? (i := 66) rfl)).1
theorem bX7_shareByRests_70 (C : mCx p (mR 2) s m args meth c G cX7_shareByRests RX7 6 false 233 54500 233 54500) (hr : meth.sig.returnType = none) (hk : meth.locks = false) {b : Bool} {S' : mT} : ∀ (k : Nat) (v3 : Int32) (v4 : Int32) (S : mT), fX7_shareByRests_70 k v3 v4 S = some S' → ∀ ok : Bool, mW p l e (mR 2) s m args below meth c G 6 233 54500 (mQ below G args s b S' none) (ok, 70, [.ref (109), .retAddr 0, .retAddr 0, .int v3, .int v4, .retAddr 0], [], mk b S) := by
  intro k
  induction k with
  | zero =>
    intro v3 v4 S hf ok
    cases hf
  | succ k ih =>
    intro v3 v4 S hf ok
    unfold fX7_shareByRests_70 at hf
    refine msegT C kX7_shareByRests 42 3 (g := (true, (if v3 ≤ v4 then 113 else 76), [.ref (109), .retAddr 0, .retAddr 0, .int v3, .int v4, .retAddr 0], [], mk b S)) rfl rfl ?_
    by_cases hc : v3 ≤ v4
    · rw [if_pos hc] at hf ⊢
      exact mfor (L' := [.retAddr 0, .retAddr 0, .retAddr 0, .retAddr 0, .retAddr 0, .retAddr 0]) ⟨Or.inl rfl, Or.inl rfl, Or.inl rfl, Or.inl rfl, Or.inl rfl, Or.inl rfl, trivial⟩ (bX7_shareByRests_113 C hr hk hf true)
    · rw [if_neg hc] at hf ⊢
      refine msegT C kX7_shareByRests 45 3 (g := (true, (if (5 : Int32) ≤ v4 then 113 else 82), [.ref (109), .retAddr 0, .retAddr 0, .int v3, .int v4, .retAddr 0], [], mk b S)) rfl rfl ?_
      by_cases hc : (5 : Int32) ≤ v4
      · rw [if_pos hc] at hf ⊢
        exact mfor (L' := [.retAddr 0, .retAddr 0, .retAddr 0, .retAddr 0, .retAddr 0, .retAddr 0]) ⟨Or.inl rfl, Or.inl rfl, Or.inl rfl, Or.inl rfl, Or.inl rfl, Or.inl rfl, trivial⟩ (bX7_shareByRests_113 C hr hk hf true)
      · rw [if_neg hc] at hf ⊢
        refine msegT C kX7_shareByRests 48 1 (g := (true, 83, [.ref (109), .retAddr 0, .retAddr 0, .int v3, .int v4, .retAddr 0], [.ref (109)], mk b S)) rfl rfl ?_
        obtain ⟨x7, S6, hq, hf⟩ := bndC_ex hf
        refine mcall (kd := 0) (vs := [.ref (109)]) (rest := []) (r := (some (.int x7))) (h' := mk b S6) (ok' := true) C lkRX7_49 (qX7_greatestRest hq) (kX7_shareByRests _ (List.mem_of_getElem? (i := 49) rfl)).1 ⟨_, _, rfl, rfl, Nat.le_of_ble_eq_true rfl, _, _, rfl, rfl, rfl⟩ (Nat.le_of_ble_eq_true rfl) (Nat.le_of_ble_eq_true rfl) (Nat.le_refl _) (Nat.le_refl _) (Nat.le_of_ble_eq_true rfl) ?_
        obtain ⟨hok, hf⟩ := grd_ex hf
        refine msegT C kX7_shareByRests 50 9 (g := ((kI 111 x7 && (kI 111 x7 && (kO 109 7 && true))), 99, [.ref (109), .retAddr 0, .retAddr 0, .int v3, .int v4, .int x7], [], mk b (sI S6 111 (mIx x7) ((S6.1 111 (mIx x7)) + (1 : Int32))))) rfl hok ?_
        obtain ⟨S8, eS8, hf⟩ := bnd_ex hf
        rw [← eS8]
        obtain ⟨hok, hf⟩ := grd_ex hf
        refine msegT C kX7_shareByRests 59 5 (g := ((kI 112 x7 && (kO 109 7 && true)), 107, [.ref (109), .retAddr 0, .retAddr 0, .int v3, .int v4, .int x7], [], mk b (sI S8 112 (mIx x7) (-1 : Int32)))) rfl hok ?_
        obtain ⟨S9, eS9, hf⟩ := bnd_ex hf
        rw [← eS9]
        refine msegT C kX7_shareByRests 64 1 (g := (true, 110, [.ref (109), .retAddr 0, .retAddr 0, .int v3, .int (v4 + (1 : Int32)), .int x7], [], mk b S9)) rfl rfl ?_
        obtain ⟨x10, ex10, hf⟩ := bnd_ex hf
        rw [← ex10]
        refine msegT C kX7_shareByRests 65 1 (g := (true, 70, [.ref (109), .retAddr 0, .retAddr 0, .int v3, .int x10, .int x7], [], mk b S9)) rfl rfl ?_
        exact mfor (L' := [.ref (109), .retAddr 0, .retAddr 0, .int v3, .int x10, .retAddr 0]) ⟨Or.inr rfl, Or.inl rfl, Or.inl rfl, Or.inr rfl, Or.inr rfl, Or.inl rfl, trivial⟩ (ih _ _ _ hf true)
theorem bX7_shareByRests_67 (C : mCx p (mR 2) s m args meth c G cX7_shareByRests RX7 6 false 233 54500 233 54500) (hr : meth.sig.returnType = none) (hk : meth.locks = false) {b : Bool} {S' : mT} {v3 : Int32} {S : mT} (hf : fX7_shareByRests_67 v3 S = some S') (ok : Bool) : mW p l e (mR 2) s m args below meth c G 6 233 54500 (mQ below G args s b S' none) (ok, 67, [.ref (109), .retAddr 0, .retAddr 0, .int v3, .retAddr 0, .retAddr 0], [], mk b S) := by
  unfold fX7_shareByRests_67 at hf
  refine msegT C kX7_shareByRests 40 2 (g := (true, 70, [.ref (109), .retAddr 0, .retAddr 0, .int v3, .int (0 : Int32), .retAddr 0], [], mk b S)) rfl rfl ?_
  exact mfor (L' := [.ref (109), .retAddr 0, .retAddr 0, .int v3, .int (0 : Int32), .retAddr 0]) ⟨Or.inr rfl, Or.inl rfl, Or.inl rfl, Or.inr rfl, Or.inr rfl, Or.inl rfl, trivial⟩ (bX7_shareByRests_70 C hr hk _ _ _ _ hf true)
theorem bX7_shareByRests_5 (C : mCx p (mR 2) s m args meth c G cX7_shareByRests RX7 6 false 233 54500 233 54500) (hr : meth.sig.returnType = none) (hk : meth.locks = false) {b : Bool} {S' : mT} : ∀ (k : Nat) (v1 : Int32) (v2 : Int32) (v3 : Int32) (v4 : Int32) (S : mT), fX7_shareByRests_5 k v1 v2 v3 v4 S = some S' → ∀ ok : Bool, mW p l e (mR 2) s m args below meth c G 6 233 54500 (mQ below G args s b S' none) (ok, 5, [.ref (109), .int v1, .int v2, .int v3, .int v4, .retAddr 0], [], mk b S) := by
  intro k
  induction k with
  | zero =>
    intro v1 v2 v3 v4 S hf ok
    cases hf
  | succ k ih =>
    intro v1 v2 v3 v4 S hf ok
    unfold fX7_shareByRests_5 at hf
    obtain ⟨hok, hf⟩ := grd_ex hf
    refine msegT C kX7_shareByRests 4 4 (g := ((kO 109 7 && true), (if (S.1 109 4) ≤ v4 then 67 else 14), [.ref (109), .int v1, .int v2, .int v3, .int v4, .retAddr 0], [], mk b S)) rfl hok ?_
    by_cases hc : (S.1 109 4) ≤ v4
    · rw [if_pos hc] at hf ⊢
      exact mfor (L' := [.ref (109), .retAddr 0, .retAddr 0, .int v3, .retAddr 0, .retAddr 0]) ⟨Or.inr rfl, Or.inl rfl, Or.inl rfl, Or.inr rfl, Or.inl rfl, Or.inl rfl, trivial⟩ (bX7_shareByRests_67 C hr hk hf true)
    · rw [if_neg hc] at hf ⊢
      refine msegT C kX7_shareByRests 8 2 (g := (true, (if v2 ≤ 0 then 67 else 18), [.ref (109), .int v1, .int v2, .int v3, .int v4, .retAddr 0], [], mk b S)) rfl rfl ?_
      by_cases hc : v2 ≤ 0
      · rw [if_pos hc] at hf ⊢
        exact mfor (L' := [.ref (109), .retAddr 0, .retAddr 0, .int v3, .retAddr 0, .retAddr 0]) ⟨Or.inr rfl, Or.inl rfl, Or.inl rfl, Or.inr rfl, Or.inl rfl, Or.inl rfl, trivial⟩ (bX7_shareByRests_67 C hr hk hf true)
      · rw [if_neg hc] at hf ⊢
        obtain ⟨hok, hf⟩ := grd_ex hf
        refine msegT C kX7_shareByRests 10 7 (g := ((kI 110 v4 && (kO 109 7 && true)), 29, [.ref (109), .int v1, .int v2, .int v3, .int v4, .int ((S.1 110 (mIx v4)) * v1)], [], mk b S)) rfl hok ?_
        obtain ⟨x1, ex1, hf⟩ := bnd_ex hf
        rw [← ex1]
        obtain ⟨hok, hf⟩ := grd_ex hf
        refine msegT C kX7_shareByRests 17 7 (g := ((kI 111 v4 && (decide (¬ v2 = 0) && (kO 109 7 && true))), 40, [.ref (109), .int v1, .int v2, .int v3, .int v4, .int x1], [], mk b (sI S 111 (mIx v4) (x1 / v2)))) rfl hok ?_
        obtain ⟨S2, eS2, hf⟩ := bnd_ex hf
        rw [← eS2]
        obtain ⟨hok, hf⟩ := grd_ex hf
        refine msegT C kX7_shareByRests 24 7 (g := ((kI 112 v4 && (decide (¬ v2 = 0) && (kO 109 7 && true))), 51, [.ref (109), .int v1, .int v2, .int v3, .int v4, .int x1], [], mk b (sI S2 112 (mIx v4) (x1 - x1 / v2 * v2)))) rfl hok ?_
        obtain ⟨S3, eS3, hf⟩ := bnd_ex hf
        rw [← eS3]
        obtain ⟨hok, hf⟩ := grd_ex hf
        refine msegT C kX7_shareByRests 31 7 (g := ((kI 111 v4 && (kO 109 7 && true)), 61, [.ref (109), .int v1, .int v2, .int (v3 - (S3.1 111 (mIx v4))), .int v4, .int x1], [], mk b S3)) rfl hok ?_
        obtain ⟨x4, ex4, hf⟩ := bnd_ex hf
        rw [← ex4]
        refine msegT C kX7_shareByRests 38 1 (g := (true, 64, [.ref (109), .int v1, .int v2, .int x4, .int (v4 + (1 : Int32)), .int x1], [], mk b S3)) rfl rfl ?_
        obtain ⟨x5, ex5, hf⟩ := bnd_ex hf
        rw [← ex5]
        refine msegT C kX7_shareByRests 39 1 (g := (true, 5, [.ref (109), .int v1, .int v2, .int x4, .int x5, .int x1], [], mk b S3)) rfl rfl ?_
        exact mfor (L' := [.ref (109), .int v1, .int v2, .int x4, .int x5, .retAddr 0]) ⟨Or.inr rfl, Or.inr rfl, Or.inr rfl, Or.inr rfl, Or.inr rfl, Or.inl rfl, trivial⟩ (ih _ _ _ _ _ hf true)
theorem bX7_shareByRests_0 (C : mCx p (mR 2) s m args meth c G cX7_shareByRests RX7 6 false 233 54500 233 54500) (hr : meth.sig.returnType = none) (hk : meth.locks = false) {b : Bool} {S' : mT} {v1 : Int32} {v2 : Int32} {S : mT} (hf : fX7_shareByRests v1 v2 S = some S') (ok : Bool) : mW p l e (mR 2) s m args below meth c G 6 233 54500 (mQ below G args s b S' none) (ok, 0, [.ref (109), .int v1, .int v2, .retAddr 0, .retAddr 0, .retAddr 0], [], mk b S) := by
  unfold fX7_shareByRests at hf
  refine msegT C kX7_shareByRests 0 4 (g := (true, 5, [.ref (109), .int v1, .int v2, .int v1, .int (0 : Int32), .retAddr 0], [], mk b S)) rfl rfl ?_
  exact mfor (L' := [.ref (109), .int v1, .int v2, .int v1, .int (0 : Int32), .retAddr 0]) ⟨Or.inr rfl, Or.inr rfl, Or.inr rfl, Or.inr rfl, Or.inr rfl, Or.inl rfl, trivial⟩ (bX7_shareByRests_5 C hr hk _ _ _ _ _ _ hf true)
theorem qX7_shareByRests {b : Bool} {v1 : Int32} {v2 : Int32} {S S' : mT} (hf : fX7_shareByRests v1 v2 S = some S') : mOk l mX7_shareByRests 2 [.ref (109), .int v1, .int v2] b S none S' :=
  gMet (by decide) (Nat.le_of_ble_eq_true rfl) rfl (Nat.le_of_ble_eq_true rfl) (fun p e s m args below meth c G C hr hk => bX7_shareByRests_0 C hr hk hf true)
theorem bX7_shareOneByOne_59 (C : mCx p (mR 1) s m args meth c G cX7_shareOneByOne RX7 5 false 233 54500 233 54500) (hr : meth.sig.returnType = none) (hk : meth.locks = false) {b : Bool} {S' : mT} {rc2 : Int32 → Int32 → mT → Option (mT)} (Hrc2 : ∀ (v1 : Int32) (v2 : Int32) (S : mT), rc2 v1 v2 S = some S' → ∀ ok : Bool, mW p l e (mR 1) s m args below meth c G 5 233 54500 (mQ below G args s b S' none) (ok, 2, [.ref (109), .int v1, .int v2, .retAddr 0, .retAddr 0], [], mk b S)) {rc12 : Int32 → Int32 → Int32 → Int32 → mT → Option (mT)} (Hrc12 : ∀ (v1 : Int32) (v2 : Int32) (v3 : Int32) (v4 : Int32) (S : mT), rc12 v1 v2 v3 v4 S = some S' → ∀ ok : Bool, mW p l e (mR 1) s m args below meth c G 5 233 54500 (mQ below G args s b S' none) (ok, 12, [.ref (109), .int v1, .int v2, .int v3, .int v4], [], mk b S)) {v1 : Int32} {v2 : Int32} {v3 : Int32} {v4 : Int32} {S : mT} (hf : fX7_shareOneByOne_59 rc2 rc12 v1 v2 v3 v4 S = some S') (ok : Bool) : mW p l e (mR 1) s m args below meth c G 5 233 54500 (mQ below G args s b S' none) (ok, 59, [.ref (109), .int v1, .int v2, .int v3, .int v4], [], mk b S) := by
  unfold fX7_shareOneByOne_59 at hf
  refine msegT C kX7_shareOneByOne 38 1 (g := (true, 62, [.ref (109), .int v1, .int v2, .int v3, .int (v4 + (1 : Int32))], [], mk b S)) rfl rfl ?_
  obtain ⟨x3, ex3, hf⟩ := bnd_ex hf
  rw [← ex3]
  refine msegT C kX7_shareOneByOne 39 1 (g := (true, 12, [.ref (109), .int v1, .int v2, .int v3, .int x3], [], mk b S)) rfl rfl ?_
  exact mfor (L' := [.ref (109), .int v1, .int v2, .int v3, .int x3]) ⟨Or.inr rfl, Or.inr rfl, Or.inr rfl, Or.inr rfl, Or.inr rfl, trivial⟩ (Hrc12 _ _ _ _ _ hf true)
theorem bX7_shareOneByOne_12 (C : mCx p (mR 1) s m args meth c G cX7_shareOneByOne RX7 5 false 233 54500 233 54500) (hr : meth.sig.returnType = none) (hk : meth.locks = false) {b : Bool} {S' : mT} {rc2 : Int32 → Int32 → mT → Option (mT)} (Hrc2 : ∀ (v1 : Int32) (v2 : Int32) (S : mT), rc2 v1 v2 S = some S' → ∀ ok : Bool, mW p l e (mR 1) s m args below meth c G 5 233 54500 (mQ below G args s b S' none) (ok, 2, [.ref (109), .int v1, .int v2, .retAddr 0, .retAddr 0], [], mk b S)) : ∀ (k : Nat) (v1 : Int32) (v2 : Int32) (v3 : Int32) (v4 : Int32) (S : mT), fX7_shareOneByOne_12 rc2 k v1 v2 v3 v4 S = some S' → ∀ ok : Bool, mW p l e (mR 1) s m args below meth c G 5 233 54500 (mQ below G args s b S' none) (ok, 12, [.ref (109), .int v1, .int v2, .int v3, .int v4], [], mk b S) := by
  intro k
  induction k with
  | zero =>
    intro v1 v2 v3 v4 S hf ok
    cases hf
  | succ k ih =>
    intro v1 v2 v3 v4 S hf ok
    unfold fX7_shareOneByOne_12 at hf
    obtain ⟨hok, hf⟩ := grd_ex hf
    refine msegT C kX7_shareOneByOne 9 4 (g := ((kO 109 7 && true), (if (S.1 109 4) ≤ v4 then 65 else 21), [.ref (109), .int v1, .int v2, .int v3, .int v4], [], mk b S)) rfl hok ?_
    by_cases hc : (S.1 109 4) ≤ v4
    · rw [if_pos hc] at hf ⊢
      obtain ⟨hok, hf⟩ := grd_ex hf
      refine msegT C kX7_shareOneByOne 40 8 (g := ((kI 111 v3 && (kI 111 v3 && (kO 109 7 && true))), 75, [.ref (109), .int v1, .int v2, .int v3, .int v4], [], mk b (sI S 111 (mIx v3) ((S.1 111 (mIx v3)) + (1 : Int32))))) rfl hok ?_
      obtain ⟨S1, eS1, hf⟩ := bnd_ex hf
      rw [← eS1]
      refine msegT C kX7_shareOneByOne 48 1 (g := (true, 78, [.ref (109), .int v1, .int (v2 + (1 : Int32)), .int v3, .int v4], [], mk b S1)) rfl rfl ?_
      obtain ⟨x2, ex2, hf⟩ := bnd_ex hf
      rw [← ex2]
      refine msegT C kX7_shareOneByOne 49 1 (g := (true, 2, [.ref (109), .int v1, .int x2, .int v3, .int v4], [], mk b S1)) rfl rfl ?_
      exact mfor (L' := [.ref (109), .int v1, .int x2, .retAddr 0, .retAddr 0]) ⟨Or.inr rfl, Or.inr rfl, Or.inr rfl, Or.inl rfl, Or.inl rfl, trivial⟩ (Hrc2 _ _ _ hf true)
    · rw [if_neg hc] at hf ⊢
      obtain ⟨hok, hf⟩ := grd_ex hf
      refine msegT C kX7_shareOneByOne 13 10 (g := ((kI 111 v3 && (kO 109 7 && (kI 110 v4 && (kO 109 7 && true)))), 36, [.ref (109), .int v1, .int v2, .int v3, .int v4], [.int ((S.1 111 (mIx v3)) + (1 : Int32)), .int (S.1 110 (mIx v4))], mk b S)) rfl hok ?_
      obtain ⟨hok, hf⟩ := grd_ex hf
      refine msegT C kX7_shareOneByOne 23 10 (g := ((kI 111 v4 && (kO 109 7 && (kI 110 v3 && (kO 109 7 && true)))), 51, [.ref (109), .int v1, .int v2, .int v3, .int v4], [.int (1 : Int32), .int (S.1 111 (mIx v4)), .int (S.1 110 (mIx v3)), .int ((S.1 110 (mIx v4)) * ((S.1 111 (mIx v3)) + (1 : Int32)))], mk b S)) rfl hok ?_
      refine msegT C kX7_shareOneByOne 33 3 (g := (true, (if ((S.1 110 (mIx v4)) * ((S.1 111 (mIx v3)) + (1 : Int32))) ≤ ((S.1 110 (mIx v3)) * ((S.1 111 (mIx v4)) + (1 : Int32))) then 59 else 56), [.ref (109), .int v1, .int v2, .int v3, .int v4], [], mk b S)) rfl rfl ?_
      by_cases hc : ((S.1 110 (mIx v4)) * ((S.1 111 (mIx v3)) + (1 : Int32))) ≤ ((S.1 110 (mIx v3)) * ((S.1 111 (mIx v4)) + (1 : Int32)))
      · rw [if_pos hc] at hf ⊢
        exact mfor (L' := [.ref (109), .int v1, .int v2, .int v3, .int v4]) ⟨Or.inr rfl, Or.inr rfl, Or.inr rfl, Or.inr rfl, Or.inr rfl, trivial⟩ (bX7_shareOneByOne_59 C hr hk Hrc2 ih hf true)
      · rw [if_neg hc] at hf ⊢
        refine msegT C kX7_shareOneByOne 36 2 (g := (true, 59, [.ref (109), .int v1, .int v2, .int v4, .int v4], [], mk b S)) rfl rfl ?_
        exact mfor (L' := [.ref (109), .int v1, .int v2, .int v4, .int v4]) ⟨Or.inr rfl, Or.inr rfl, Or.inr rfl, Or.inr rfl, Or.inr rfl, trivial⟩ (bX7_shareOneByOne_59 C hr hk Hrc2 ih hf true)
theorem bX7_shareOneByOne_2 (C : mCx p (mR 1) s m args meth c G cX7_shareOneByOne RX7 5 false 233 54500 233 54500) (hr : meth.sig.returnType = none) (hk : meth.locks = false) {b : Bool} {S' : mT} : ∀ (k : Nat) (v1 : Int32) (v2 : Int32) (S : mT), fX7_shareOneByOne_2 k v1 v2 S = some S' → ∀ ok : Bool, mW p l e (mR 1) s m args below meth c G 5 233 54500 (mQ below G args s b S' none) (ok, 2, [.ref (109), .int v1, .int v2, .retAddr 0, .retAddr 0], [], mk b S) := by
  intro k
  induction k with
  | zero =>
    intro v1 v2 S hf ok
    cases hf
  | succ k ih =>
    intro v1 v2 S hf ok
    unfold fX7_shareOneByOne_2 at hf
    refine msegT C kX7_shareOneByOne 2 3 (g := (true, (if v1 ≤ v2 then 81 else 7), [.ref (109), .int v1, .int v2, .retAddr 0, .retAddr 0], [], mk b S)) rfl rfl ?_
    by_cases hc : v1 ≤ v2
    · rw [if_pos hc] at hf ⊢
      cases hf
      exact gret_v C hr hk (kX7_shareOneByOne _ (List.mem_of_getElem? (i := 50) rfl)).1
    · rw [if_neg hc] at hf ⊢
      refine msegT C kX7_shareOneByOne 5 4 (g := (true, 12, [.ref (109), .int v1, .int v2, .int (0 : Int32), .int (1 : Int32)], [], mk b S)) rfl rfl ?_
      exact mfor (L' := [.ref (109), .int v1, .int v2, .int (0 : Int32), .int (1 : Int32)]) ⟨Or.inr rfl, Or.inr rfl, Or.inr rfl, Or.inr rfl, Or.inr rfl, trivial⟩ (bX7_shareOneByOne_12 C hr hk ih _ _ _ _ _ _ hf true)
theorem bX7_shareOneByOne_0 (C : mCx p (mR 1) s m args meth c G cX7_shareOneByOne RX7 5 false 233 54500 233 54500) (hr : meth.sig.returnType = none) (hk : meth.locks = false) {b : Bool} {S' : mT} {v1 : Int32} {S : mT} (hf : fX7_shareOneByOne v1 S = some S') (ok : Bool) : mW p l e (mR 1) s m args below meth c G 5 233 54500 (mQ below G args s b S' none) (ok, 0, [.ref (109), .int v1, .retAddr 0, .retAddr 0, .retAddr 0], [], mk b S) := by
  unfold fX7_shareOneByOne at hf
  refine msegT C kX7_shareOneByOne 0 2 (g := (true, 2, [.ref (109), .int v1, .int (0 : Int32), .retAddr 0, .retAddr 0], [], mk b S)) rfl rfl ?_
  exact mfor (L' := [.ref (109), .int v1, .int (0 : Int32), .retAddr 0, .retAddr 0]) ⟨Or.inr rfl, Or.inr rfl, Or.inr rfl, Or.inl rfl, Or.inl rfl, trivial⟩ (bX7_shareOneByOne_2 C hr hk _ _ _ _ hf true)
theorem qX7_shareOneByOne {b : Bool} {v1 : Int32} {S S' : mT} (hf : fX7_shareOneByOne v1 S = some S') : mOk l mX7_shareOneByOne 1 [.ref (109), .int v1] b S none S' :=
  gMet (by decide) (Nat.le_of_ble_eq_true rfl) rfl (Nat.le_of_ble_eq_true rfl) (fun p e s m args below meth c G C hr hk => bX7_shareOneByOne_0 C hr hk hf true)
theorem bX7_share_61 (C : mCx p (mR 3) s m args meth c G cX7_share RX7 5 false 233 54500 233 54500) (hr : meth.sig.returnType = none) (hk : meth.locks = false) {b : Bool} {S' : mT} {S : mT} (hf : fX7_share_61 S = some S') (ok : Bool) : mW p l e (mR 3) s m args below meth c G 5 233 54500 (mQ below G args s b S' none) (ok, 61, [.retAddr 0, .retAddr 0, .retAddr 0, .retAddr 0, .retAddr 0], [], mk b S) := by
  unfold fX7_share_61 at hf
  cases hf
  exact gret_v C hr hk (kX7_share _ (List.mem_of_getElem? (i := 35) rfl)).1
theorem bX7_share_5 (C : mCx p (mR 3) s m args meth c G cX7_share RX7 5 false 233 54500 233 54500) (hr : meth.sig.returnType = none) (hk : meth.locks = false) {b : Bool} {S' : mT} : ∀ (k : Nat) (v1 : Int32) (v2 : Int32) (v3 : Int32) (v4 : Int32) (S : mT), fX7_share_5 k v1 v2 v3 v4 S = some S' → ∀ ok : Bool, mW p l e (mR 3) s m args below meth c G 5 233 54500 (mQ below G args s b S' none) (ok, 5, [.ref (109), .int v1, .int v2, .int v3, .int v4], [], mk b S) := by
  intro k
  induction k with
  | zero =>
    intro v1 v2 v3 v4 S hf ok
    cases hf
  | succ k ih =>
    intro v1 v2 v3 v4 S hf ok
    unfold fX7_share_5 at hf
    obtain ⟨hok, hf⟩ := grd_ex hf
    refine msegT C kX7_share 4 4 (g := ((kO 109 7 && true), (if (S.1 109 4) ≤ v4 then 38 else 14), [.ref (109), .int v1, .int v2, .int v3, .int v4], [], mk b S)) rfl hok ?_
    by_cases hc : (S.1 109 4) ≤ v4
    · rw [if_pos hc] at hf ⊢
      refine msegT C kX7_share 22 2 (g := (true, (if v3 = 0 then 42 else 43), [.ref (109), .int v1, .int v2, .int v3, .int v4], [], mk b S)) rfl rfl ?_
      by_cases hc : v3 = 0
      · rw [if_pos hc] at hf ⊢
        cases hf
        exact gret_v C hr hk (kX7_share _ (List.mem_of_getElem? (i := 24) rfl)).1
      · rw [if_neg hc] at hf ⊢
        refine msegT C kX7_share 25 2 (g := (true, (if v2 = 0 then 47 else 56), [.ref (109), .int v1, .int v2, .int v3, .int v4], [], mk b S)) rfl rfl ?_
        by_cases hc : v2 = 0
        · rw [if_pos hc] at hf ⊢
          refine msegT C kX7_share 27 3 (g := (true, 50, [.ref (109), .int v1, .int v2, .int v3, .int v4], [.int v3, .int v1, .ref (109)], mk b S)) rfl rfl ?_
          obtain ⟨S1, hq, hf⟩ := bndV_ex hf
          refine mcall (kd := 0) (vs := [.ref (109), .int v1, .int v3]) (rest := []) (r := none) (h' := mk b S1) (ok' := true) C lkRX7_34 (qX7_shareByRests hq) (kX7_share _ (List.mem_of_getElem? (i := 30) rfl)).1 ⟨_, _, rfl, rfl, Nat.le_of_ble_eq_true rfl, _, _, rfl, rfl, rfl⟩ (Nat.le_of_ble_eq_true rfl) (Nat.le_of_ble_eq_true rfl) (Nat.le_refl _) (Nat.le_refl _) (Nat.le_of_ble_eq_true rfl) ?_
          refine msegT C kX7_share 31 1 (g := (true, 61, [.ref (109), .int v1, .int v2, .int v3, .int v4], [], mk b S1)) rfl rfl ?_
          exact mfor (L' := [.retAddr 0, .retAddr 0, .retAddr 0, .retAddr 0, .retAddr 0]) ⟨Or.inl rfl, Or.inl rfl, Or.inl rfl, Or.inl rfl, Or.inl rfl, trivial⟩ (bX7_share_61 C hr hk hf true)
        · rw [if_neg hc] at hf ⊢
          refine msegT C kX7_share 32 2 (g := (true, 58, [.ref (109), .int v1, .int v2, .int v3, .int v4], [.int v1, .ref (109)], mk b S)) rfl rfl ?_
          obtain ⟨S2, hq, hf⟩ := bndV_ex hf
          refine mcall (kd := 0) (vs := [.ref (109), .int v1]) (rest := []) (r := none) (h' := mk b S2) (ok' := true) C lkRX7_38 (qX7_shareOneByOne hq) (kX7_share _ (List.mem_of_getElem? (i := 34) rfl)).1 ⟨_, _, rfl, rfl, Nat.le_of_ble_eq_true rfl, _, _, rfl, rfl, rfl⟩ (Nat.le_of_ble_eq_true rfl) (Nat.le_of_ble_eq_true rfl) (Nat.le_refl _) (Nat.le_refl _) (Nat.le_of_ble_eq_true rfl) ?_
          exact mfor (L' := [.retAddr 0, .retAddr 0, .retAddr 0, .retAddr 0, .retAddr 0]) ⟨Or.inl rfl, Or.inl rfl, Or.inl rfl, Or.inl rfl, Or.inl rfl, trivial⟩ (bX7_share_61 C hr hk hf true)
    · rw [if_neg hc] at hf ⊢
      obtain ⟨hok, hf⟩ := grd_ex hf
      refine msegT C kX7_share 8 7 (g := ((kI 110 v4 && (kO 109 7 && true)), 24, [.ref (109), .int v1, .int v2, .int (v3 + (S.1 110 (mIx v4))), .int v4], [], mk b S)) rfl hok ?_
      obtain ⟨x3, ex3, hf⟩ := bnd_ex hf
      rw [← ex3]
      obtain ⟨hok, hf⟩ := grd_ex hf
      refine msegT C kX7_share 15 5 (g := ((kI 111 v4 && (kO 109 7 && true)), 32, [.ref (109), .int v1, .int v2, .int x3, .int v4], [], mk b (sI S 111 (mIx v4) (0 : Int32)))) rfl hok ?_
      obtain ⟨S4, eS4, hf⟩ := bnd_ex hf
      rw [← eS4]
      refine msegT C kX7_share 20 1 (g := (true, 35, [.ref (109), .int v1, .int v2, .int x3, .int (v4 + (1 : Int32))], [], mk b S4)) rfl rfl ?_
      obtain ⟨x5, ex5, hf⟩ := bnd_ex hf
      rw [← ex5]
      refine msegT C kX7_share 21 1 (g := (true, 5, [.ref (109), .int v1, .int v2, .int x3, .int x5], [], mk b S4)) rfl rfl ?_
      exact mfor (L' := [.ref (109), .int v1, .int v2, .int x3, .int x5]) ⟨Or.inr rfl, Or.inr rfl, Or.inr rfl, Or.inr rfl, Or.inr rfl, trivial⟩ (ih _ _ _ _ _ hf true)
theorem bX7_share_0 (C : mCx p (mR 3) s m args meth c G cX7_share RX7 5 false 233 54500 233 54500) (hr : meth.sig.returnType = none) (hk : meth.locks = false) {b : Bool} {S' : mT} {v1 : Int32} {v2 : Int32} {S : mT} (hf : fX7_share v1 v2 S = some S') (ok : Bool) : mW p l e (mR 3) s m args below meth c G 5 233 54500 (mQ below G args s b S' none) (ok, 0, [.ref (109), .int v1, .int v2, .retAddr 0, .retAddr 0], [], mk b S) := by
  unfold fX7_share at hf
  refine msegT C kX7_share 0 4 (g := (true, 5, [.ref (109), .int v1, .int v2, .int (0 : Int32), .int (0 : Int32)], [], mk b S)) rfl rfl ?_
  exact mfor (L' := [.ref (109), .int v1, .int v2, .int (0 : Int32), .int (0 : Int32)]) ⟨Or.inr rfl, Or.inr rfl, Or.inr rfl, Or.inr rfl, Or.inr rfl, trivial⟩ (bX7_share_5 C hr hk _ _ _ _ _ _ hf true)
theorem qX7_share {b : Bool} {v1 : Int32} {v2 : Int32} {S S' : mT} (hf : fX7_share v1 v2 S = some S') : mOk l mX7_share 3 [.ref (109), .int v1, .int v2] b S none S' :=
  gMet (by decide) (Nat.le_of_ble_eq_true rfl) rfl (Nat.le_of_ble_eq_true rfl) (fun p e s m args below meth c G C hr hk => bX7_share_0 C hr hk hf true)
theorem bX7_firstLoser_33 (C : mCx p (mR 4) s m args meth c G cX7_firstLoser RX7 3 false 233 54500 233 54500) (hr : meth.sig.returnType = (some .int)) (hk : meth.locks = false) {b : Bool} {S' : mT} {r : Int32} : ∀ (k : Nat) (v2 : Int32) (S : mT), fX7_firstLoser_33 k v2 S = some (r, S') → ∀ ok : Bool, mW p l e (mR 4) s m args below meth c G 3 233 54500 (mQ below G args s b S' (some (.int r))) (ok, 33, [.ref (109), .retAddr 0, .int v2], [], mk b S) := by
  intro k
  induction k with
  | zero =>
    intro v2 S hf ok
    cases hf
  | succ k ih =>
    intro v2 S hf ok
    unfold fX7_firstLoser_33 at hf
    obtain ⟨hok, hf⟩ := grd_ex hf
    refine msegT C kX7_firstLoser 21 4 (g := ((kO 109 7 && true), (if (S.1 109 4) ≤ v2 then 64 else 41), [.ref (109), .retAddr 0, .int v2], [], mk b S)) rfl hok ?_
    by_cases hc : (S.1 109 4) ≤ v2
    · rw [if_pos hc] at hf ⊢
      refine msegT C kX7_firstLoser 38 1 (g := (true, 65, [.ref (109), .retAddr 0, .int v2], [.int (-1 : Int32)], mk b S)) rfl rfl ?_
      cases hf
      exact gret_i C hr hk (kX7_firstLoser _ (List.mem_of_getElem? (i := 39) rfl)).1
    · rw [if_neg hc] at hf ⊢
      obtain ⟨hok, hf⟩ := grd_ex hf
      refine msegT C kX7_firstLoser 25 9 (g := ((kI 113 v2 && (kO 109 7 && (kI 111 v2 && (kO 109 7 && true)))), (if (S.1 113 (mIx v2)) ≤ (S.1 111 (mIx v2)) then 58 else 56), [.ref (109), .retAddr 0, .int v2], [], mk b S)) rfl hok ?_
      by_cases hc : (S.1 113 (mIx v2)) ≤ (S.1 111 (mIx v2))
      · rw [if_pos hc] at hf ⊢
        refine msegT C kX7_firstLoser 36 1 (g := (true, 61, [.ref (109), .retAddr 0, .int (v2 + (1 : Int32))], [], mk b S)) rfl rfl ?_
        obtain ⟨x4, ex4, hf⟩ := bnd_ex hf
        rw [← ex4]
        refine msegT C kX7_firstLoser 37 1 (g := (true, 33, [.ref (109), .retAddr 0, .int x4], [], mk b S)) rfl rfl ?_
        exact mfor (L' := [.ref (109), .retAddr 0, .int x4]) ⟨Or.inr rfl, Or.inl rfl, Or.inr rfl, trivial⟩ (ih _ _ hf true)
      · rw [if_neg hc] at hf ⊢
        refine msegT C kX7_firstLoser 34 1 (g := (true, 57, [.ref (109), .retAddr 0, .int v2], [.int v2], mk b S)) rfl rfl ?_
        cases hf
        exact gret_i C hr hk (kX7_firstLoser _ (List.mem_of_getElem? (i := 35) rfl)).1
theorem bX7_firstLoser_0 (C : mCx p (mR 4) s m args meth c G cX7_firstLoser RX7 3 false 233 54500 233 54500) (hr : meth.sig.returnType = (some .int)) (hk : meth.locks = false) {b : Bool} {S' : mT} {r : Int32} {v1 : Int32} {S : mT} (hf : fX7_firstLoser v1 S = some (r, S')) (ok : Bool) : mW p l e (mR 4) s m args below meth c G 3 233 54500 (mQ below G args s b S' (some (.int r))) (ok, 0, [.ref (109), .int v1, .retAddr 0], [], mk b S) := by
  unfold fX7_firstLoser at hf
  refine msegT C kX7_firstLoser 0 5 (g := (true, 5, [.ref (109), .int v1, .retAddr 0], [.int (0 : Int32), .int (v1 - (1 : Int32)), .ref (109)], mk b S)) rfl rfl ?_
  obtain ⟨S1, hq, hf⟩ := bndV_ex hf
  refine mcall (kd := 0) (vs := [.ref (109), .int (v1 - (1 : Int32)), .int (0 : Int32)]) (rest := []) (r := none) (h' := mk b S1) (ok' := true) C lkRX7_42 (qX7_share hq) (kX7_firstLoser _ (List.mem_of_getElem? (i := 5) rfl)).1 ⟨_, _, rfl, rfl, Nat.le_of_ble_eq_true rfl, _, _, rfl, rfl, rfl⟩ (Nat.le_of_ble_eq_true rfl) (Nat.le_of_ble_eq_true rfl) (Nat.le_refl _) (Nat.le_refl _) (Nat.le_of_ble_eq_true rfl) ?_
  obtain ⟨hok, hf⟩ := grd_ex hf
  refine msegT C kX7_firstLoser 6 9 (g := ((kC 111 113 (0 : Int32) (0 : Int32) (S1.1 109 4) && (kO 109 7 && (kO 109 7 && (kO 109 7 && true)))), 25, [.ref (109), .int v1, .retAddr 0], [], mk b (sC S1 111 113 (0 : Int32) (0 : Int32) (S1.1 109 4)))) rfl hok ?_
  obtain ⟨S2, eS2, hf⟩ := bnd_ex hf
  rw [← eS2]
  refine msegT C kX7_firstLoser 15 3 (g := (true, 28, [.ref (109), .int v1, .retAddr 0], [.int (0 : Int32), .int v1, .ref (109)], mk b S2)) rfl rfl ?_
  obtain ⟨S3, hq, hf⟩ := bndV_ex hf
  refine mcall (kd := 0) (vs := [.ref (109), .int v1, .int (0 : Int32)]) (rest := []) (r := none) (h' := mk b S3) (ok' := true) C lkRX7_42 (qX7_share hq) (kX7_firstLoser _ (List.mem_of_getElem? (i := 18) rfl)).1 ⟨_, _, rfl, rfl, Nat.le_of_ble_eq_true rfl, _, _, rfl, rfl, rfl⟩ (Nat.le_of_ble_eq_true rfl) (Nat.le_of_ble_eq_true rfl) (Nat.le_refl _) (Nat.le_refl _) (Nat.le_of_ble_eq_true rfl) ?_
  refine msegT C kX7_firstLoser 19 2 (g := (true, 33, [.ref (109), .int v1, .int (0 : Int32)], [], mk b S3)) rfl rfl ?_
  exact mfor (L' := [.ref (109), .retAddr 0, .int (0 : Int32)]) ⟨Or.inr rfl, Or.inl rfl, Or.inr rfl, trivial⟩ (bX7_firstLoser_33 C hr hk _ _ _ hf true)
theorem qX7_firstLoser {b : Bool} {v1 : Int32} {S S' : mT} {r : Int32} (hf : fX7_firstLoser v1 S = some (r, S')) : mOk l mX7_firstLoser 4 [.ref (109), .int v1] b S (some (.int r)) S' :=
  gMet (by decide) (Nat.le_of_ble_eq_true rfl) rfl (Nat.le_of_ble_eq_true rfl) (fun p e s m args below meth c G C hr hk => bX7_firstLoser_0 C hr hk hf true)
theorem bX7_look_0 (C : mCx p (mR 1) s m args meth c G cX7_look RX7 3 false 233 54500 233 54500) (hr : meth.sig.returnType = none) (hk : meth.locks = false) {b : Bool} {a1 : Nat} {S' : mT} {v2 : Int32} {S : mT} (hf : fX7_look a1 v2 S = some S') (ok : Bool) : mW p l e (mR 1) s m args below meth c G 3 233 54500 (mQ below G args s b S' none) (ok, 0, [.ref (109), .ref a1, .int v2], [], mk b S) := by
  unfold fX7_look at hf
  obtain ⟨hok, hf⟩ := grd_ex hf
  refine msegT C kX7_look 0 3 (g := ((kO 109 7 && true), 5, [.ref (109), .ref a1, .int v2], [], mk b (sI S 109 4 v2))) rfl hok ?_
  obtain ⟨S1, eS1, hf⟩ := bnd_ex hf
  rw [← eS1]
  obtain ⟨hok, hf⟩ := grd_ex hf
  refine msegT C kX7_look 3 8 (g := ((kC a1 110 (10 : Int32) (0 : Int32) (S1.1 109 4) && (kO 109 7 && (kO 109 7 && true))), 20, [.ref (109), .ref a1, .int v2], [], mk b (sC S1 a1 110 (10 : Int32) (0 : Int32) (S1.1 109 4)))) rfl hok ?_
  obtain ⟨S2, eS2, hf⟩ := bnd_ex hf
  rw [← eS2]
  cases hf
  exact gret_v C hr hk (kX7_look _ (List.mem_of_getElem? (i := 11) rfl)).1
theorem qX7_look {b : Bool} {a1 : Nat} {v2 : Int32} {S S' : mT} (hf : fX7_look a1 v2 S = some S') : mOk l mX7_look 1 [.ref (109), .ref a1, .int v2] b S none S' :=
  gMet (by decide) (Nat.le_of_ble_eq_true rfl) rfl (Nat.le_of_ble_eq_true rfl) (fun p e s m args below meth c G C hr hk => bX7_look_0 C hr hk hf true)
theorem bX11_loss_60_f (C : mCx p (mR 5) s m args meth c G cX11_loss RX11 4 false 233 54500 233 54500) (hr : meth.sig.returnType = (some .int)) (hk : meth.locks = false) {S' : mT} {r : Int32} {s0 : Int32} {S : mT} (hf : fX11_loss_60 false s0 S = some (r, S')) (ok : Bool) : mW p l e (mR 5) s m args below meth c G 4 233 54500 (mQ below G args s false S' (some (.int r))) (ok, 60, [.retAddr 0, .retAddr 0, .retAddr 0, .retAddr 0], [.int s0], mk false S) := by
  unfold fX11_loss_60 at hf
  cases hf
  exact gret_i C hr hk (kX11_loss _ (List.mem_of_getElem? (i := 33) rfl)).1
theorem bX11_loss_31_f (C : mCx p (mR 5) s m args meth c G cX11_loss RX11 4 false 233 54500 233 54500) (hr : meth.sig.returnType = (some .int)) (hk : meth.locks = false) {S' : mT} {r : Int32} : ∀ (k : Nat) (v1 : Int32) (v2 : Int32) (S : mT), fX11_loss_31 false k v1 v2 S = some (r, S') → ∀ ok : Bool, mW p l e (mR 5) s m args below meth c G 4 233 54500 (mQ below G args s false S' (some (.int r))) (ok, 31, [.ref (0), .int v1, .int v2, .retAddr 0], [], mk false S) := by
  intro k
  induction k with
  | zero =>
    intro v1 v2 S hf ok
    cases hf
  | succ k ih =>
    intro v1 v2 S hf ok
    unfold fX11_loss_31 at hf
    refine msegT C kX11_loss 17 3 (g := (true, (if (20 : Int32) < v2 then 67 else 37), [.ref (0), .int v1, .int v2, .retAddr 0], [], mk false S)) rfl rfl ?_
    by_cases hc : (20 : Int32) < v2
    · rw [if_pos hc] at hf ⊢
      refine msegT C kX11_loss 36 1 (g := (true, 68, [.ref (0), .int v1, .int v2, .retAddr 0], [.int (-1 : Int32)], mk false S)) rfl rfl ?_
      cases hf
      exact gret_i C hr hk (kX11_loss _ (List.mem_of_getElem? (i := 37) rfl)).1
    · rw [if_neg hc] at hf ⊢
      obtain ⟨hok, hf⟩ := grd_ex hf
      refine msegT C kX11_loss 20 3 (g := ((kO 0 11 && true), 42, [.ref (0), .int v1, .int v2, .retAddr 0], [.int v2, .ref 109], mk false S)) rfl hok ?_
      obtain ⟨x5, S4, hq, hf⟩ := bndC_ex hf
      refine mcall (kd := 0) (vs := [.ref 109, .int v2]) (rest := []) (r := (some (.int x5))) (h' := mk false S4) (ok' := true) C lkRX11_217 (qX7_firstLoser hq) (kX11_loss _ (List.mem_of_getElem? (i := 23) rfl)).1 ⟨_, _, rfl, rfl, Nat.le_of_ble_eq_true rfl, _, _, rfl, rfl, rfl⟩ (Nat.le_of_ble_eq_true rfl) (Nat.le_of_ble_eq_true rfl) (Nat.le_refl _) (Nat.le_refl _) (Nat.le_of_ble_eq_true rfl) ?_
      refine msegT C kX11_loss 24 4 (g := (true, (if x5 = (-1 : Int32) then 61 else 51), [.ref (0), .int v1, .int v2, .int x5], [], mk false S4)) rfl rfl ?_
      by_cases hc : x5 = (-1 : Int32)
      · rw [if_pos hc] at hf ⊢
        refine msegT C kX11_loss 34 1 (g := (true, 64, [.ref (0), .int v1, .int (v2 + (1 : Int32)), .int x5], [], mk false S4)) rfl rfl ?_
        obtain ⟨x6, ex6, hf⟩ := bnd_ex hf
        rw [← ex6]
        refine msegT C kX11_loss 35 1 (g := (true, 31, [.ref (0), .int v1, .int x6, .int x5], [], mk false S4)) rfl rfl ?_
        exact mfor (L' := [.ref (0), .int v1, .int x6, .retAddr 0]) ⟨Or.inr rfl, Or.inr rfl, Or.inr rfl, Or.inl rfl, trivial⟩ (ih _ _ _ hf true)
      · rw [if_neg hc] at hf ⊢
        refine msegT C kX11_loss 28 2 (g := (true, (if v1 = 0 then 55 else 59), [.ref (0), .int v1, .int v2, .int x5], [], mk false S4)) rfl rfl ?_
        by_cases hc : v1 = 0
        · rw [if_pos hc] at hf ⊢
          refine msegT C kX11_loss 30 2 (g := (true, 60, [.ref (0), .int v1, .int v2, .int x5], [.int v2], mk false S4)) rfl rfl ?_
          exact mfor (L' := [.retAddr 0, .retAddr 0, .retAddr 0, .retAddr 0]) ⟨Or.inl rfl, Or.inl rfl, Or.inl rfl, Or.inl rfl, trivial⟩ (bX11_loss_60_f C hr hk hf true)
        · rw [if_neg hc] at hf ⊢
          refine msegT C kX11_loss 32 1 (g := (true, 60, [.ref (0), .int v1, .int v2, .int x5], [.int x5], mk false S4)) rfl rfl ?_
          exact mfor (L' := [.retAddr 0, .retAddr 0, .retAddr 0, .retAddr 0]) ⟨Or.inl rfl, Or.inl rfl, Or.inl rfl, Or.inl rfl, trivial⟩ (bX11_loss_60_f C hr hk hf true)
theorem bX11_loss_0_f (C : mCx p (mR 5) s m args meth c G cX11_loss RX11 4 false 233 54500 233 54500) (hr : meth.sig.returnType = (some .int)) (hk : meth.locks = false) {S' : mT} {r : Int32} {v1 : Int32} {S : mT} (hf : fX11_loss false v1 S = some (r, S')) (ok : Bool) : mW p l e (mR 5) s m args below meth c G 4 233 54500 (mQ below G args s false S' (some (.int r))) (ok, 0, [.ref (0), .int v1, .retAddr 0, .retAddr 0], [], mk false S) := by
  unfold fX11_loss at hf
  refine msegT C kX11_loss 0 3 (g := (true, 3, [.ref (0), .int v1, .retAddr 0, .retAddr 0], [.int (1 : Int32), .int (0 : Int32), .int v1], mk false S)) rfl rfl ?_
  obtain ⟨x2, S1, hq, hf⟩ := bndC_ex hf
  refine mcall (kd := 1) (vs := [.int v1, .int (0 : Int32), .int (1 : Int32)]) (rest := []) (r := (some (.int x2))) (h' := mk false S1) (ok' := true) C lkRX11_169 (qX11_isWithin hq) (kX11_loss _ (List.mem_of_getElem? (i := 3) rfl)).1 rfl (Nat.le_of_ble_eq_true rfl) (Nat.le_of_ble_eq_true rfl) (Nat.le_refl _) (Nat.le_refl _) (Nat.le_of_ble_eq_true rfl) ?_
  refine msegT C kX11_loss 4 1 (g := (true, (if x2 = 0 then 9 else 11), [.ref (0), .int v1, .retAddr 0, .retAddr 0], [], mk false S1)) rfl rfl ?_
  by_cases hc : x2 = 0
  · rw [if_pos hc] at hf ⊢
    refine msegT C kX11_loss 5 1 (g := (true, 10, [.ref (0), .int v1, .retAddr 0, .retAddr 0], [.int (-1 : Int32)], mk false S1)) rfl rfl ?_
    cases hf
    exact gret_i C hr hk (kX11_loss _ (List.mem_of_getElem? (i := 6) rfl)).1
  · rw [if_neg hc] at hf ⊢
    obtain ⟨hok, hf⟩ := grd_ex hf
    refine msegT C kX11_loss 7 7 (g := ((kO (shU false) 8 && (kO 0 11 && (kO 0 11 && (kO 0 11 && true)))), 26, [.ref (0), .int v1, .retAddr 0, .retAddr 0], [.int (S1.1 (shU false) 9), .ref 35, .ref 109], mk false S1)) rfl hok ?_
    obtain ⟨S3, hq, hf⟩ := bndV_ex hf
    refine mcall (kd := 0) (vs := [.ref 109, .ref 35, .int (S1.1 (shU false) 9)]) (rest := []) (r := none) (h' := mk false S3) (ok' := true) C lkRX11_204 (qX7_look hq) (kX11_loss _ (List.mem_of_getElem? (i := 14) rfl)).1 ⟨_, _, rfl, rfl, Nat.le_of_ble_eq_true rfl, _, _, rfl, rfl, rfl⟩ (Nat.le_of_ble_eq_true rfl) (Nat.le_of_ble_eq_true rfl) (Nat.le_refl _) (Nat.le_refl _) (Nat.le_of_ble_eq_true rfl) ?_
    refine msegT C kX11_loss 15 2 (g := (true, 31, [.ref (0), .int v1, .int (2 : Int32), .retAddr 0], [], mk false S3)) rfl rfl ?_
    exact mfor (L' := [.ref (0), .int v1, .int (2 : Int32), .retAddr 0]) ⟨Or.inr rfl, Or.inr rfl, Or.inr rfl, Or.inl rfl, trivial⟩ (bX11_loss_31_f C hr hk _ _ _ _ hf true)
theorem qX11_loss_f {v1 : Int32} {S S' : mT} {r : Int32} (hf : fX11_loss false v1 S = some (r, S')) : mOk l mX11_loss 5 [.ref (0), .int v1] false S (some (.int r)) S' :=
  gMet (by decide) (Nat.le_of_ble_eq_true rfl) rfl (Nat.le_of_ble_eq_true rfl) (fun p e s m args below meth c G C hr hk => bX11_loss_0_f C hr hk hf true)
theorem bX11_loss_60_t (C : mCx p (mR 5) s m args meth c G cX11_loss RX11 4 false 233 54500 233 54500) (hr : meth.sig.returnType = (some .int)) (hk : meth.locks = false) {S' : mT} {r : Int32} {s0 : Int32} {S : mT} (hf : fX11_loss_60 true s0 S = some (r, S')) (ok : Bool) : mW p l e (mR 5) s m args below meth c G 4 233 54500 (mQ below G args s true S' (some (.int r))) (ok, 60, [.retAddr 0, .retAddr 0, .retAddr 0, .retAddr 0], [.int s0], mk true S) := by
  unfold fX11_loss_60 at hf
  cases hf
  exact gret_i C hr hk (kX11_loss _ (List.mem_of_getElem? (i := 33) rfl)).1
theorem bX11_loss_31_t (C : mCx p (mR 5) s m args meth c G cX11_loss RX11 4 false 233 54500 233 54500) (hr : meth.sig.returnType = (some .int)) (hk : meth.locks = false) {S' : mT} {r : Int32} : ∀ (k : Nat) (v1 : Int32) (v2 : Int32) (S : mT), fX11_loss_31 true k v1 v2 S = some (r, S') → ∀ ok : Bool, mW p l e (mR 5) s m args below meth c G 4 233 54500 (mQ below G args s true S' (some (.int r))) (ok, 31, [.ref (0), .int v1, .int v2, .retAddr 0], [], mk true S) := by
  intro k
  induction k with
  | zero =>
    intro v1 v2 S hf ok
    cases hf
  | succ k ih =>
    intro v1 v2 S hf ok
    unfold fX11_loss_31 at hf
    refine msegT C kX11_loss 17 3 (g := (true, (if (20 : Int32) < v2 then 67 else 37), [.ref (0), .int v1, .int v2, .retAddr 0], [], mk true S)) rfl rfl ?_
    by_cases hc : (20 : Int32) < v2
    · rw [if_pos hc] at hf ⊢
      refine msegT C kX11_loss 36 1 (g := (true, 68, [.ref (0), .int v1, .int v2, .retAddr 0], [.int (-1 : Int32)], mk true S)) rfl rfl ?_
      cases hf
      exact gret_i C hr hk (kX11_loss _ (List.mem_of_getElem? (i := 37) rfl)).1
    · rw [if_neg hc] at hf ⊢
      obtain ⟨hok, hf⟩ := grd_ex hf
      refine msegT C kX11_loss 20 3 (g := ((kO 0 11 && true), 42, [.ref (0), .int v1, .int v2, .retAddr 0], [.int v2, .ref 109], mk true S)) rfl hok ?_
      obtain ⟨x5, S4, hq, hf⟩ := bndC_ex hf
      refine mcall (kd := 0) (vs := [.ref 109, .int v2]) (rest := []) (r := (some (.int x5))) (h' := mk true S4) (ok' := true) C lkRX11_217 (qX7_firstLoser hq) (kX11_loss _ (List.mem_of_getElem? (i := 23) rfl)).1 ⟨_, _, rfl, rfl, Nat.le_of_ble_eq_true rfl, _, _, rfl, rfl, rfl⟩ (Nat.le_of_ble_eq_true rfl) (Nat.le_of_ble_eq_true rfl) (Nat.le_refl _) (Nat.le_refl _) (Nat.le_of_ble_eq_true rfl) ?_
      refine msegT C kX11_loss 24 4 (g := (true, (if x5 = (-1 : Int32) then 61 else 51), [.ref (0), .int v1, .int v2, .int x5], [], mk true S4)) rfl rfl ?_
      by_cases hc : x5 = (-1 : Int32)
      · rw [if_pos hc] at hf ⊢
        refine msegT C kX11_loss 34 1 (g := (true, 64, [.ref (0), .int v1, .int (v2 + (1 : Int32)), .int x5], [], mk true S4)) rfl rfl ?_
        obtain ⟨x6, ex6, hf⟩ := bnd_ex hf
        rw [← ex6]
        refine msegT C kX11_loss 35 1 (g := (true, 31, [.ref (0), .int v1, .int x6, .int x5], [], mk true S4)) rfl rfl ?_
        exact mfor (L' := [.ref (0), .int v1, .int x6, .retAddr 0]) ⟨Or.inr rfl, Or.inr rfl, Or.inr rfl, Or.inl rfl, trivial⟩ (ih _ _ _ hf true)
      · rw [if_neg hc] at hf ⊢
        refine msegT C kX11_loss 28 2 (g := (true, (if v1 = 0 then 55 else 59), [.ref (0), .int v1, .int v2, .int x5], [], mk true S4)) rfl rfl ?_
        by_cases hc : v1 = 0
        · rw [if_pos hc] at hf ⊢
          refine msegT C kX11_loss 30 2 (g := (true, 60, [.ref (0), .int v1, .int v2, .int x5], [.int v2], mk true S4)) rfl rfl ?_
          exact mfor (L' := [.retAddr 0, .retAddr 0, .retAddr 0, .retAddr 0]) ⟨Or.inl rfl, Or.inl rfl, Or.inl rfl, Or.inl rfl, trivial⟩ (bX11_loss_60_t C hr hk hf true)
        · rw [if_neg hc] at hf ⊢
          refine msegT C kX11_loss 32 1 (g := (true, 60, [.ref (0), .int v1, .int v2, .int x5], [.int x5], mk true S4)) rfl rfl ?_
          exact mfor (L' := [.retAddr 0, .retAddr 0, .retAddr 0, .retAddr 0]) ⟨Or.inl rfl, Or.inl rfl, Or.inl rfl, Or.inl rfl, trivial⟩ (bX11_loss_60_t C hr hk hf true)
theorem bX11_loss_0_t (C : mCx p (mR 5) s m args meth c G cX11_loss RX11 4 false 233 54500 233 54500) (hr : meth.sig.returnType = (some .int)) (hk : meth.locks = false) {S' : mT} {r : Int32} {v1 : Int32} {S : mT} (hf : fX11_loss true v1 S = some (r, S')) (ok : Bool) : mW p l e (mR 5) s m args below meth c G 4 233 54500 (mQ below G args s true S' (some (.int r))) (ok, 0, [.ref (0), .int v1, .retAddr 0, .retAddr 0], [], mk true S) := by
  unfold fX11_loss at hf
  refine msegT C kX11_loss 0 3 (g := (true, 3, [.ref (0), .int v1, .retAddr 0, .retAddr 0], [.int (1 : Int32), .int (0 : Int32), .int v1], mk true S)) rfl rfl ?_
  obtain ⟨x2, S1, hq, hf⟩ := bndC_ex hf
  refine mcall (kd := 1) (vs := [.int v1, .int (0 : Int32), .int (1 : Int32)]) (rest := []) (r := (some (.int x2))) (h' := mk true S1) (ok' := true) C lkRX11_169 (qX11_isWithin hq) (kX11_loss _ (List.mem_of_getElem? (i := 3) rfl)).1 rfl (Nat.le_of_ble_eq_true rfl) (Nat.le_of_ble_eq_true rfl) (Nat.le_refl _) (Nat.le_refl _) (Nat.le_of_ble_eq_true rfl) ?_
  refine msegT C kX11_loss 4 1 (g := (true, (if x2 = 0 then 9 else 11), [.ref (0), .int v1, .retAddr 0, .retAddr 0], [], mk true S1)) rfl rfl ?_
  by_cases hc : x2 = 0
  · rw [if_pos hc] at hf ⊢
    refine msegT C kX11_loss 5 1 (g := (true, 10, [.ref (0), .int v1, .retAddr 0, .retAddr 0], [.int (-1 : Int32)], mk true S1)) rfl rfl ?_
    cases hf
    exact gret_i C hr hk (kX11_loss _ (List.mem_of_getElem? (i := 6) rfl)).1
  · rw [if_neg hc] at hf ⊢
    obtain ⟨hok, hf⟩ := grd_ex hf
    refine msegT C kX11_loss 7 7 (g := ((kO (shU true) 8 && (kO 0 11 && (kO 0 11 && (kO 0 11 && true)))), 26, [.ref (0), .int v1, .retAddr 0, .retAddr 0], [.int (S1.1 (shU true) 9), .ref 35, .ref 109], mk true S1)) rfl hok ?_
    obtain ⟨S3, hq, hf⟩ := bndV_ex hf
    refine mcall (kd := 0) (vs := [.ref 109, .ref 35, .int (S1.1 (shU true) 9)]) (rest := []) (r := none) (h' := mk true S3) (ok' := true) C lkRX11_204 (qX7_look hq) (kX11_loss _ (List.mem_of_getElem? (i := 14) rfl)).1 ⟨_, _, rfl, rfl, Nat.le_of_ble_eq_true rfl, _, _, rfl, rfl, rfl⟩ (Nat.le_of_ble_eq_true rfl) (Nat.le_of_ble_eq_true rfl) (Nat.le_refl _) (Nat.le_refl _) (Nat.le_of_ble_eq_true rfl) ?_
    refine msegT C kX11_loss 15 2 (g := (true, 31, [.ref (0), .int v1, .int (2 : Int32), .retAddr 0], [], mk true S3)) rfl rfl ?_
    exact mfor (L' := [.ref (0), .int v1, .int (2 : Int32), .retAddr 0]) ⟨Or.inr rfl, Or.inr rfl, Or.inr rfl, Or.inl rfl, trivial⟩ (bX11_loss_31_t C hr hk _ _ _ _ hf true)
theorem qX11_loss_t {v1 : Int32} {S S' : mT} {r : Int32} (hf : fX11_loss true v1 S = some (r, S')) : mOk l mX11_loss 5 [.ref (0), .int v1] true S (some (.int r)) S' :=
  gMet (by decide) (Nat.le_of_ble_eq_true rfl) rfl (Nat.le_of_ble_eq_true rfl) (fun p e s m args below meth c G C hr hk => bX11_loss_0_t C hr hk hf true)
theorem bX11_marks_20 (C : mCx p (mR 2) s m args meth c G cX11_marks RX11 7 false 233 54500 233 54500) (hr : meth.sig.returnType = (some .int)) (hk : meth.locks = false) {b : Bool} {S' : mT} {r : Int32} {S : mT} (hf : fX11_marks_20 S = some (r, S')) (ok : Bool) : mW p l e (mR 2) s m args below meth c G 7 233 54500 (mQ below G args s b S' (some (.int r))) (ok, 20, [.retAddr 0, .retAddr 0, .retAddr 0, .retAddr 0, .retAddr 0, .retAddr 0, .retAddr 0], [], mk b S) := by
  unfold fX11_marks_20 at hf
  refine msegT C kX11_marks 10 1 (g := (true, 21, [.retAddr 0, .retAddr 0, .retAddr 0, .retAddr 0, .retAddr 0, .retAddr 0, .retAddr 0], [.int (-1 : Int32)], mk b S)) rfl rfl ?_
  cases hf
  exact gret_i C hr hk (kX11_marks _ (List.mem_of_getElem? (i := 11) rfl)).1
theorem bX11_marks_36 (C : mCx p (mR 2) s m args meth c G cX11_marks RX11 7 false 233 54500 233 54500) (hr : meth.sig.returnType = (some .int)) (hk : meth.locks = false) {b : Bool} {S' : mT} {r : Int32} {S : mT} (hf : fX11_marks_36 S = some (r, S')) (ok : Bool) : mW p l e (mR 2) s m args below meth c G 7 233 54500 (mQ below G args s b S' (some (.int r))) (ok, 36, [.retAddr 0, .retAddr 0, .retAddr 0, .retAddr 0, .retAddr 0, .retAddr 0, .retAddr 0], [], mk b S) := by
  unfold fX11_marks_36 at hf
  refine msegT C kX11_marks 20 1 (g := (true, 37, [.retAddr 0, .retAddr 0, .retAddr 0, .retAddr 0, .retAddr 0, .retAddr 0, .retAddr 0], [.int (-1 : Int32)], mk b S)) rfl rfl ?_
  cases hf
  exact gret_i C hr hk (kX11_marks _ (List.mem_of_getElem? (i := 21) rfl)).1
theorem bX11_marks_83 (C : mCx p (mR 2) s m args meth c G cX11_marks RX11 7 false 233 54500 233 54500) (hr : meth.sig.returnType = (some .int)) (hk : meth.locks = false) {b : Bool} {S' : mT} {r : Int32} {v5 : Int32} {S : mT} (hf : fX11_marks_83 v5 S = some (r, S')) (ok : Bool) : mW p l e (mR 2) s m args below meth c G 7 233 54500 (mQ below G args s b S' (some (.int r))) (ok, 83, [.retAddr 0, .retAddr 0, .retAddr 0, .retAddr 0, .retAddr 0, .int v5, .retAddr 0], [], mk b S) := by
  unfold fX11_marks_83 at hf
  refine msegT C kX11_marks 48 1 (g := (true, 85, [.retAddr 0, .retAddr 0, .retAddr 0, .retAddr 0, .retAddr 0, .int v5, .retAddr 0], [.int v5], mk b S)) rfl rfl ?_
  cases hf
  exact gret_i C hr hk (kX11_marks _ (List.mem_of_getElem? (i := 49) rfl)).1
theorem bX11_marks_55 (C : mCx p (mR 2) s m args meth c G cX11_marks RX11 7 false 233 54500 233 54500) (hr : meth.sig.returnType = (some .int)) (hk : meth.locks = false) {b : Bool} {S' : mT} {r : Int32} : ∀ (k : Nat) (v1 : Int32) (v2 : Int32) (v3 : Int32) (v5 : Int32) (v6 : Int32) (S : mT), fX11_marks_55 k v1 v2 v3 v5 v6 S = some (r, S') → ∀ ok : Bool, mW p l e (mR 2) s m args below meth c G 7 233 54500 (mQ below G args s b S' (some (.int r))) (ok, 55, [.retAddr 0, .int v1, .int v2, .int v3, .retAddr 0, .int v5, .int v6], [], mk b S) := by
  intro k
  induction k with
  | zero =>
    intro v1 v2 v3 v5 v6 S hf ok
    cases hf
  | succ k ih =>
    intro v1 v2 v3 v5 v6 S hf ok
    unfold fX11_marks_55 at hf
    refine msegT C kX11_marks 34 3 (g := (true, (if (200 : Int32) < v6 then 83 else 63), [.retAddr 0, .int v1, .int v2, .int v3, .retAddr 0, .int v5, .int v6], [], mk b S)) rfl rfl ?_
    by_cases hc : (200 : Int32) < v6
    · rw [if_pos hc] at hf ⊢
      exact mfor (L' := [.retAddr 0, .retAddr 0, .retAddr 0, .retAddr 0, .retAddr 0, .int v5, .retAddr 0]) ⟨Or.inl rfl, Or.inl rfl, Or.inl rfl, Or.inl rfl, Or.inl rfl, Or.inr rfl, Or.inl rfl, trivial⟩ (bX11_marks_83 C hr hk hf true)
    · rw [if_neg hc] at hf ⊢
      refine msegT C kX11_marks 37 7 (g := (true, (if (v1 * v2) ≤ (v6 * v3) then 83 else 73), [.retAddr 0, .int v1, .int v2, .int v3, .retAddr 0, .int v5, .int v6], [], mk b S)) rfl rfl ?_
      by_cases hc : (v1 * v2) ≤ (v6 * v3)
      · rw [if_pos hc] at hf ⊢
        exact mfor (L' := [.retAddr 0, .retAddr 0, .retAddr 0, .retAddr 0, .retAddr 0, .int v5, .retAddr 0]) ⟨Or.inl rfl, Or.inl rfl, Or.inl rfl, Or.inl rfl, Or.inl rfl, Or.inr rfl, Or.inl rfl, trivial⟩ (bX11_marks_83 C hr hk hf true)
      · rw [if_neg hc] at hf ⊢
        refine msegT C kX11_marks 44 3 (g := (true, 80, [.retAddr 0, .int v1, .int v2, .int v3, .retAddr 0, .int v6, .int (v6 + (1 : Int32))], [], mk b S)) rfl rfl ?_
        obtain ⟨x7, ex7, hf⟩ := bnd_ex hf
        rw [← ex7]
        refine msegT C kX11_marks 47 1 (g := (true, 55, [.retAddr 0, .int v1, .int v2, .int v3, .retAddr 0, .int v6, .int x7], [], mk b S)) rfl rfl ?_
        exact mfor (L' := [.retAddr 0, .int v1, .int v2, .int v3, .retAddr 0, .int v6, .int x7]) ⟨Or.inl rfl, Or.inr rfl, Or.inr rfl, Or.inr rfl, Or.inl rfl, Or.inr rfl, Or.inr rfl, trivial⟩ (ih _ _ _ _ _ _ hf true)
theorem bX11_marks_0 (C : mCx p (mR 2) s m args meth c G cX11_marks RX11 7 false 233 54500 233 54500) (hr : meth.sig.returnType = (some .int)) (hk : meth.locks = false) {b : Bool} {S' : mT} {r : Int32} {v1 : Int32} {v2 : Int32} {v3 : Int32} {S : mT} (hf : fX11_marks v1 v2 v3 S = some (r, S')) (ok : Bool) : mW p l e (mR 2) s m args below meth c G 7 233 54500 (mQ below G args s b S' (some (.int r))) (ok, 0, [.ref (0), .int v1, .int v2, .int v3, .retAddr 0, .retAddr 0, .retAddr 0], [], mk b S) := by
  unfold fX11_marks at hf
  refine msegT C kX11_marks 0 3 (g := (true, 4, [.ref (0), .int v1, .int v2, .int v3, .retAddr 0, .retAddr 0, .retAddr 0], [.int (60 : Int32), .int (0 : Int32), .int v1], mk b S)) rfl rfl ?_
  obtain ⟨x2, S1, hq, hf⟩ := bndC_ex hf
  refine mcall (kd := 1) (vs := [.int v1, .int (0 : Int32), .int (60 : Int32)]) (rest := []) (r := (some (.int x2))) (h' := mk b S1) (ok' := true) C lkRX11_169 (qX11_isWithin hq) (kX11_marks _ (List.mem_of_getElem? (i := 3) rfl)).1 rfl (Nat.le_of_ble_eq_true rfl) (Nat.le_of_ble_eq_true rfl) (Nat.le_refl _) (Nat.le_refl _) (Nat.le_of_ble_eq_true rfl) ?_
  refine msegT C kX11_marks 4 1 (g := (true, (if x2 = 0 then 20 else 10), [.ref (0), .int v1, .int v2, .int v3, .retAddr 0, .retAddr 0, .retAddr 0], [], mk b S1)) rfl rfl ?_
  by_cases hc : x2 = 0
  · rw [if_pos hc] at hf ⊢
    exact mfor (L' := [.retAddr 0, .retAddr 0, .retAddr 0, .retAddr 0, .retAddr 0, .retAddr 0, .retAddr 0]) ⟨Or.inl rfl, Or.inl rfl, Or.inl rfl, Or.inl rfl, Or.inl rfl, Or.inl rfl, Or.inl rfl, trivial⟩ (bX11_marks_20 C hr hk hf true)
  · rw [if_neg hc] at hf ⊢
    refine msegT C kX11_marks 5 3 (g := (true, 14, [.ref (0), .int v1, .int v2, .int v3, .retAddr 0, .retAddr 0, .retAddr 0], [.int (60 : Int32), .int (0 : Int32), .int v2], mk b S1)) rfl rfl ?_
    obtain ⟨x4, S3, hq, hf⟩ := bndC_ex hf
    refine mcall (kd := 1) (vs := [.int v2, .int (0 : Int32), .int (60 : Int32)]) (rest := []) (r := (some (.int x4))) (h' := mk b S3) (ok' := true) C lkRX11_169 (qX11_isWithin hq) (kX11_marks _ (List.mem_of_getElem? (i := 8) rfl)).1 rfl (Nat.le_of_ble_eq_true rfl) (Nat.le_of_ble_eq_true rfl) (Nat.le_refl _) (Nat.le_refl _) (Nat.le_of_ble_eq_true rfl) ?_
    refine msegT C kX11_marks 9 1 (g := (true, (if x4 = 0 then 20 else 22), [.ref (0), .int v1, .int v2, .int v3, .retAddr 0, .retAddr 0, .retAddr 0], [], mk b S3)) rfl rfl ?_
    by_cases hc : x4 = 0
    · rw [if_pos hc] at hf ⊢
      exact mfor (L' := [.retAddr 0, .retAddr 0, .retAddr 0, .retAddr 0, .retAddr 0, .retAddr 0, .retAddr 0]) ⟨Or.inl rfl, Or.inl rfl, Or.inl rfl, Or.inl rfl, Or.inl rfl, Or.inl rfl, Or.inl rfl, trivial⟩ (bX11_marks_20 C hr hk hf true)
    · rw [if_neg hc] at hf ⊢
      refine msegT C kX11_marks 12 2 (g := (true, (if v3 < 0 then 36 else 26), [.ref (0), .int v1, .int v2, .int v3, .retAddr 0, .retAddr 0, .retAddr 0], [], mk b S3)) rfl rfl ?_
      by_cases hc : v3 < 0
      · rw [if_pos hc] at hf ⊢
        exact mfor (L' := [.retAddr 0, .retAddr 0, .retAddr 0, .retAddr 0, .retAddr 0, .retAddr 0, .retAddr 0]) ⟨Or.inl rfl, Or.inl rfl, Or.inl rfl, Or.inl rfl, Or.inl rfl, Or.inl rfl, Or.inl rfl, trivial⟩ (bX11_marks_36 C hr hk hf true)
      · rw [if_neg hc] at hf ⊢
        refine msegT C kX11_marks 14 3 (g := (true, (if v1 < v3 then 36 else 31), [.ref (0), .int v1, .int v2, .int v3, .retAddr 0, .retAddr 0, .retAddr 0], [], mk b S3)) rfl rfl ?_
        by_cases hc : v1 < v3
        · rw [if_pos hc] at hf ⊢
          exact mfor (L' := [.retAddr 0, .retAddr 0, .retAddr 0, .retAddr 0, .retAddr 0, .retAddr 0, .retAddr 0]) ⟨Or.inl rfl, Or.inl rfl, Or.inl rfl, Or.inl rfl, Or.inl rfl, Or.inl rfl, Or.inl rfl, trivial⟩ (bX11_marks_36 C hr hk hf true)
        · rw [if_neg hc] at hf ⊢
          refine msegT C kX11_marks 17 3 (g := (true, (if v3 ≤ v2 then 38 else 36), [.ref (0), .int v1, .int v2, .int v3, .retAddr 0, .retAddr 0, .retAddr 0], [], mk b S3)) rfl rfl ?_
          by_cases hc : v3 ≤ v2
          · rw [if_pos hc] at hf ⊢
            refine msegT C kX11_marks 22 6 (g := (true, 45, [.ref (0), .int v1, .int v2, .int v3, .int ((v1 + v2) - v3), .retAddr 0, .retAddr 0], [], mk b S3)) rfl rfl ?_
            obtain ⟨x5, ex5, hf⟩ := bnd_ex hf
            rw [← ex5]
            refine msegT C kX11_marks 28 6 (g := (true, 55, [.ref (0), .int v1, .int v2, .int v3, .int x5, .int x5, .int (x5 + (1 : Int32))], [], mk b S3)) rfl rfl ?_
            obtain ⟨x6, ex6, hf⟩ := bnd_ex hf
            rw [← ex6]
            exact mfor (L' := [.retAddr 0, .int v1, .int v2, .int v3, .retAddr 0, .int x5, .int x6]) ⟨Or.inl rfl, Or.inr rfl, Or.inr rfl, Or.inr rfl, Or.inl rfl, Or.inr rfl, Or.inr rfl, trivial⟩ (bX11_marks_55 C hr hk _ _ _ _ _ _ _ hf true)
          · rw [if_neg hc] at hf ⊢
            exact mfor (L' := [.retAddr 0, .retAddr 0, .retAddr 0, .retAddr 0, .retAddr 0, .retAddr 0, .retAddr 0]) ⟨Or.inl rfl, Or.inl rfl, Or.inl rfl, Or.inl rfl, Or.inl rfl, Or.inl rfl, Or.inl rfl, trivial⟩ (bX11_marks_36 C hr hk hf true)
theorem qX11_marks {b : Bool} {v1 : Int32} {v2 : Int32} {v3 : Int32} {S S' : mT} {r : Int32} (hf : fX11_marks v1 v2 v3 S = some (r, S')) : mOk l mX11_marks 2 [.ref (0), .int v1, .int v2, .int v3] b S (some (.int r)) S' :=
  gMet (by decide) (Nat.le_of_ble_eq_true rfl) rfl (Nat.le_of_ble_eq_true rfl) (fun p e s m args below meth c G C hr hk => bX11_marks_0 C hr hk hf true)
theorem bX11_missed_49_f (C : mCx p (mR 2) s m args meth c G cX11_missed RX11 5 false 233 54500 233 54500) (hr : meth.sig.returnType = (some .int)) (hk : meth.locks = false) {S' : mT} {r : Int32} {rc14 : Int32 → Int32 → Int32 → Int32 → mT → Option (Int32 × mT)} (Hrc14 : ∀ (v1 : Int32) (v2 : Int32) (v3 : Int32) (v4 : Int32) (S : mT), rc14 v1 v2 v3 v4 S = some (r, S') → ∀ ok : Bool, mW p l e (mR 2) s m args below meth c G 5 233 54500 (mQ below G args s false S' (some (.int r))) (ok, 14, [.ref (0), .int v1, .int v2, .int v3, .int v4], [], mk false S)) {v1 : Int32} {v2 : Int32} {v3 : Int32} {v4 : Int32} {S : mT} (hf : fX11_missed_49 false rc14 v1 v2 v3 v4 S = some (r, S')) (ok : Bool) : mW p l e (mR 2) s m args below meth c G 5 233 54500 (mQ below G args s false S' (some (.int r))) (ok, 49, [.ref (0), .int v1, .int v2, .int v3, .int v4], [], mk false S) := by
  unfold fX11_missed_49 at hf
  refine msegT C kX11_missed 30 1 (g := (true, 52, [.ref (0), .int v1, .int v2, .int v3, .int (v4 + (1 : Int32))], [], mk false S)) rfl rfl ?_
  obtain ⟨x4, ex4, hf⟩ := bnd_ex hf
  rw [← ex4]
  refine msegT C kX11_missed 31 1 (g := (true, 14, [.ref (0), .int v1, .int v2, .int v3, .int x4], [], mk false S)) rfl rfl ?_
  exact mfor (L' := [.ref (0), .int v1, .int v2, .int v3, .int x4]) ⟨Or.inr rfl, Or.inr rfl, Or.inr rfl, Or.inr rfl, Or.inr rfl, trivial⟩ (Hrc14 _ _ _ _ _ hf true)
theorem bX11_missed_14_f (C : mCx p (mR 2) s m args meth c G cX11_missed RX11 5 false 233 54500 233 54500) (hr : meth.sig.returnType = (some .int)) (hk : meth.locks = false) {S' : mT} {r : Int32} : ∀ (k : Nat) (v1 : Int32) (v2 : Int32) (v3 : Int32) (v4 : Int32) (S : mT), fX11_missed_14 false k v1 v2 v3 v4 S = some (r, S') → ∀ ok : Bool, mW p l e (mR 2) s m args below meth c G 5 233 54500 (mQ below G args s false S' (some (.int r))) (ok, 14, [.ref (0), .int v1, .int v2, .int v3, .int v4], [], mk false S) := by
  intro k
  induction k with
  | zero =>
    intro v1 v2 v3 v4 S hf ok
    cases hf
  | succ k ih =>
    intro v1 v2 v3 v4 S hf ok
    unfold fX11_missed_14 at hf
    obtain ⟨hok, hf⟩ := grd_ex hf
    refine msegT C kX11_missed 9 5 (g := ((kO (shU false) 8 && (kO 0 11 && true)), (if (S.1 (shU false) 9) ≤ v4 then 55 else 26), [.ref (0), .int v1, .int v2, .int v3, .int v4], [], mk false S)) rfl hok ?_
    by_cases hc : (S.1 (shU false) 9) ≤ v4
    · rw [if_pos hc] at hf ⊢
      refine msegT C kX11_missed 32 1 (g := (true, 56, [.ref (0), .int v1, .int v2, .int v3, .int v4], [.int v3], mk false S)) rfl rfl ?_
      cases hf
      exact gret_i C hr hk (kX11_missed _ (List.mem_of_getElem? (i := 33) rfl)).1
    · rw [if_neg hc] at hf ⊢
      obtain ⟨hok, hf⟩ := grd_ex hf
      refine msegT C kX11_missed 14 10 (g := ((kI 35 ((10 : Int32) + v4) && (kO 0 11 && true)), (if (v2 - (S.1 35 (mIx ((10 : Int32) + v4)))) = v1 then 42 else 49), [.ref (0), .int v1, .int v2, .int v3, .int v4], [], mk false S)) rfl hok ?_
      by_cases hc : (v2 - (S.1 35 (mIx ((10 : Int32) + v4)))) = v1
      · rw [if_pos hc] at hf ⊢
        refine msegT C kX11_missed 24 6 (g := (true, 49, [.ref (0), .int v1, .int v2, .int (v3 ||| ((1 : Int32) <<< (v4 &&& 31))), .int v4], [], mk false S)) rfl rfl ?_
        obtain ⟨x3, ex3, hf⟩ := bnd_ex hf
        rw [← ex3]
        exact mfor (L' := [.ref (0), .int v1, .int v2, .int x3, .int v4]) ⟨Or.inr rfl, Or.inr rfl, Or.inr rfl, Or.inr rfl, Or.inr rfl, trivial⟩ (bX11_missed_49_f C hr hk ih hf true)
      · rw [if_neg hc] at hf ⊢
        exact mfor (L' := [.ref (0), .int v1, .int v2, .int v3, .int v4]) ⟨Or.inr rfl, Or.inr rfl, Or.inr rfl, Or.inr rfl, Or.inr rfl, trivial⟩ (bX11_missed_49_f C hr hk ih hf true)
theorem bX11_missed_0_f (C : mCx p (mR 2) s m args meth c G cX11_missed RX11 5 false 233 54500 233 54500) (hr : meth.sig.returnType = (some .int)) (hk : meth.locks = false) {S' : mT} {r : Int32} {v1 : Int32} {S : mT} (hf : fX11_missed false v1 S = some (r, S')) (ok : Bool) : mW p l e (mR 2) s m args below meth c G 5 233 54500 (mQ below G args s false S' (some (.int r))) (ok, 0, [.ref (0), .int v1, .retAddr 0, .retAddr 0, .retAddr 0], [], mk false S) := by
  unfold fX11_missed at hf
  obtain ⟨hok, hf⟩ := grd_ex hf
  refine msegT C kX11_missed 0 3 (g := ((kO 0 11 && true), 5, [.ref (0), .int v1, .retAddr 0, .retAddr 0, .retAddr 0], [.ref 35, .ref (0)], mk false S)) rfl hok ?_
  obtain ⟨x2, S1, hq, hf⟩ := bndC_ex hf
  refine mcall (kd := 0) (vs := [.ref (0), .ref 35]) (rest := []) (r := (some (.int x2))) (h' := mk false S1) (ok' := true) C lkRX11_158 (qX11_allBowls_f hq) (kX11_missed _ (List.mem_of_getElem? (i := 3) rfl)).1 ⟨_, _, rfl, rfl, Nat.le_of_ble_eq_true rfl, _, _, rfl, rfl, rfl⟩ (Nat.le_of_ble_eq_true rfl) (Nat.le_of_ble_eq_true rfl) (Nat.le_refl _) (Nat.le_refl _) (Nat.le_of_ble_eq_true rfl) ?_
  refine msegT C kX11_missed 4 5 (g := (true, 14, [.ref (0), .int v1, .int x2, .int (0 : Int32), .int (0 : Int32)], [], mk false S1)) rfl rfl ?_
  exact mfor (L' := [.ref (0), .int v1, .int x2, .int (0 : Int32), .int (0 : Int32)]) ⟨Or.inr rfl, Or.inr rfl, Or.inr rfl, Or.inr rfl, Or.inr rfl, trivial⟩ (bX11_missed_14_f C hr hk _ _ _ _ _ _ hf true)
theorem qX11_missed_f {v1 : Int32} {S S' : mT} {r : Int32} (hf : fX11_missed false v1 S = some (r, S')) : mOk l mX11_missed 2 [.ref (0), .int v1] false S (some (.int r)) S' :=
  gMet (by decide) (Nat.le_of_ble_eq_true rfl) rfl (Nat.le_of_ble_eq_true rfl) (fun p e s m args below meth c G C hr hk => bX11_missed_0_f C hr hk hf true)
theorem bX11_missed_49_t (C : mCx p (mR 2) s m args meth c G cX11_missed RX11 5 false 233 54500 233 54500) (hr : meth.sig.returnType = (some .int)) (hk : meth.locks = false) {S' : mT} {r : Int32} {rc14 : Int32 → Int32 → Int32 → Int32 → mT → Option (Int32 × mT)} (Hrc14 : ∀ (v1 : Int32) (v2 : Int32) (v3 : Int32) (v4 : Int32) (S : mT), rc14 v1 v2 v3 v4 S = some (r, S') → ∀ ok : Bool, mW p l e (mR 2) s m args below meth c G 5 233 54500 (mQ below G args s true S' (some (.int r))) (ok, 14, [.ref (0), .int v1, .int v2, .int v3, .int v4], [], mk true S)) {v1 : Int32} {v2 : Int32} {v3 : Int32} {v4 : Int32} {S : mT} (hf : fX11_missed_49 true rc14 v1 v2 v3 v4 S = some (r, S')) (ok : Bool) : mW p l e (mR 2) s m args below meth c G 5 233 54500 (mQ below G args s true S' (some (.int r))) (ok, 49, [.ref (0), .int v1, .int v2, .int v3, .int v4], [], mk true S) := by
  unfold fX11_missed_49 at hf
  refine msegT C kX11_missed 30 1 (g := (true, 52, [.ref (0), .int v1, .int v2, .int v3, .int (v4 + (1 : Int32))], [], mk true S)) rfl rfl ?_
  obtain ⟨x4, ex4, hf⟩ := bnd_ex hf
  rw [← ex4]
  refine msegT C kX11_missed 31 1 (g := (true, 14, [.ref (0), .int v1, .int v2, .int v3, .int x4], [], mk true S)) rfl rfl ?_
  exact mfor (L' := [.ref (0), .int v1, .int v2, .int v3, .int x4]) ⟨Or.inr rfl, Or.inr rfl, Or.inr rfl, Or.inr rfl, Or.inr rfl, trivial⟩ (Hrc14 _ _ _ _ _ hf true)
theorem bX11_missed_14_t (C : mCx p (mR 2) s m args meth c G cX11_missed RX11 5 false 233 54500 233 54500) (hr : meth.sig.returnType = (some .int)) (hk : meth.locks = false) {S' : mT} {r : Int32} : ∀ (k : Nat) (v1 : Int32) (v2 : Int32) (v3 : Int32) (v4 : Int32) (S : mT), fX11_missed_14 true k v1 v2 v3 v4 S = some (r, S') → ∀ ok : Bool, mW p l e (mR 2) s m args below meth c G 5 233 54500 (mQ below G args s true S' (some (.int r))) (ok, 14, [.ref (0), .int v1, .int v2, .int v3, .int v4], [], mk true S) := by
  intro k
  induction k with
  | zero =>
    intro v1 v2 v3 v4 S hf ok
    cases hf
  | succ k ih =>
    intro v1 v2 v3 v4 S hf ok
    unfold fX11_missed_14 at hf
    obtain ⟨hok, hf⟩ := grd_ex hf
    refine msegT C kX11_missed 9 5 (g := ((kO (shU true) 8 && (kO 0 11 && true)), (if (S.1 (shU true) 9) ≤ v4 then 55 else 26), [.ref (0), .int v1, .int v2, .int v3, .int v4], [], mk true S)) rfl hok ?_
    by_cases hc : (S.1 (shU true) 9) ≤ v4
    · rw [if_pos hc] at hf ⊢
      refine msegT C kX11_missed 32 1 (g := (true, 56, [.ref (0), .int v1, .int v2, .int v3, .int v4], [.int v3], mk true S)) rfl rfl ?_
      cases hf
      exact gret_i C hr hk (kX11_missed _ (List.mem_of_getElem? (i := 33) rfl)).1
    · rw [if_neg hc] at hf ⊢
      obtain ⟨hok, hf⟩ := grd_ex hf
      refine msegT C kX11_missed 14 10 (g := ((kI 35 ((10 : Int32) + v4) && (kO 0 11 && true)), (if (v2 - (S.1 35 (mIx ((10 : Int32) + v4)))) = v1 then 42 else 49), [.ref (0), .int v1, .int v2, .int v3, .int v4], [], mk true S)) rfl hok ?_
      by_cases hc : (v2 - (S.1 35 (mIx ((10 : Int32) + v4)))) = v1
      · rw [if_pos hc] at hf ⊢
        refine msegT C kX11_missed 24 6 (g := (true, 49, [.ref (0), .int v1, .int v2, .int (v3 ||| ((1 : Int32) <<< (v4 &&& 31))), .int v4], [], mk true S)) rfl rfl ?_
        obtain ⟨x3, ex3, hf⟩ := bnd_ex hf
        rw [← ex3]
        exact mfor (L' := [.ref (0), .int v1, .int v2, .int x3, .int v4]) ⟨Or.inr rfl, Or.inr rfl, Or.inr rfl, Or.inr rfl, Or.inr rfl, trivial⟩ (bX11_missed_49_t C hr hk ih hf true)
      · rw [if_neg hc] at hf ⊢
        exact mfor (L' := [.ref (0), .int v1, .int v2, .int v3, .int v4]) ⟨Or.inr rfl, Or.inr rfl, Or.inr rfl, Or.inr rfl, Or.inr rfl, trivial⟩ (bX11_missed_49_t C hr hk ih hf true)
theorem bX11_missed_0_t (C : mCx p (mR 2) s m args meth c G cX11_missed RX11 5 false 233 54500 233 54500) (hr : meth.sig.returnType = (some .int)) (hk : meth.locks = false) {S' : mT} {r : Int32} {v1 : Int32} {S : mT} (hf : fX11_missed true v1 S = some (r, S')) (ok : Bool) : mW p l e (mR 2) s m args below meth c G 5 233 54500 (mQ below G args s true S' (some (.int r))) (ok, 0, [.ref (0), .int v1, .retAddr 0, .retAddr 0, .retAddr 0], [], mk true S) := by
  unfold fX11_missed at hf
  obtain ⟨hok, hf⟩ := grd_ex hf
  refine msegT C kX11_missed 0 3 (g := ((kO 0 11 && true), 5, [.ref (0), .int v1, .retAddr 0, .retAddr 0, .retAddr 0], [.ref 35, .ref (0)], mk true S)) rfl hok ?_
  obtain ⟨x2, S1, hq, hf⟩ := bndC_ex hf
  refine mcall (kd := 0) (vs := [.ref (0), .ref 35]) (rest := []) (r := (some (.int x2))) (h' := mk true S1) (ok' := true) C lkRX11_158 (qX11_allBowls_t hq) (kX11_missed _ (List.mem_of_getElem? (i := 3) rfl)).1 ⟨_, _, rfl, rfl, Nat.le_of_ble_eq_true rfl, _, _, rfl, rfl, rfl⟩ (Nat.le_of_ble_eq_true rfl) (Nat.le_of_ble_eq_true rfl) (Nat.le_refl _) (Nat.le_refl _) (Nat.le_of_ble_eq_true rfl) ?_
  refine msegT C kX11_missed 4 5 (g := (true, 14, [.ref (0), .int v1, .int x2, .int (0 : Int32), .int (0 : Int32)], [], mk true S1)) rfl rfl ?_
  exact mfor (L' := [.ref (0), .int v1, .int x2, .int (0 : Int32), .int (0 : Int32)]) ⟨Or.inr rfl, Or.inr rfl, Or.inr rfl, Or.inr rfl, Or.inr rfl, trivial⟩ (bX11_missed_14_t C hr hk _ _ _ _ _ _ hf true)
theorem qX11_missed_t {v1 : Int32} {S S' : mT} {r : Int32} (hf : fX11_missed true v1 S = some (r, S')) : mOk l mX11_missed 2 [.ref (0), .int v1] true S (some (.int r)) S' :=
  gMet (by decide) (Nat.le_of_ble_eq_true rfl) rfl (Nat.le_of_ble_eq_true rfl) (fun p e s m args below meth c G C hr hk => bX11_missed_0_t C hr hk hf true)
theorem bX11_moves_21_f (C : mCx p (mR 3) s m args meth c G cX11_moves RX11 3 false 233 54500 233 54500) (hr : meth.sig.returnType = (some .int)) (hk : meth.locks = false) {S' : mT} {r : Int32} {S : mT} (hf : fX11_moves_21 false S = some (r, S')) (ok : Bool) : mW p l e (mR 3) s m args below meth c G 3 233 54500 (mQ below G args s false S' (some (.int r))) (ok, 21, [.retAddr 0, .retAddr 0, .retAddr 0], [], mk false S) := by
  unfold fX11_moves_21 at hf
  refine msegT C kX11_moves 11 1 (g := (true, 22, [.retAddr 0, .retAddr 0, .retAddr 0], [.int (-1 : Int32)], mk false S)) rfl rfl ?_
  cases hf
  exact gret_i C hr hk (kX11_moves _ (List.mem_of_getElem? (i := 12) rfl)).1
theorem bX11_moves_47_f (C : mCx p (mR 3) s m args meth c G cX11_moves RX11 3 false 233 54500 233 54500) (hr : meth.sig.returnType = (some .int)) (hk : meth.locks = false) {S' : mT} {r : Int32} {S : mT} (hf : fX11_moves_47 false S = some (r, S')) (ok : Bool) : mW p l e (mR 3) s m args below meth c G 3 233 54500 (mQ below G args s false S' (some (.int r))) (ok, 47, [.retAddr 0, .retAddr 0, .retAddr 0], [], mk false S) := by
  unfold fX11_moves_47 at hf
  refine msegT C kX11_moves 28 1 (g := (true, 48, [.retAddr 0, .retAddr 0, .retAddr 0], [.int (-1 : Int32)], mk false S)) rfl rfl ?_
  cases hf
  exact gret_i C hr hk (kX11_moves _ (List.mem_of_getElem? (i := 29) rfl)).1
theorem bX11_moves_0_f (C : mCx p (mR 3) s m args meth c G cX11_moves RX11 3 false 233 54500 233 54500) (hr : meth.sig.returnType = (some .int)) (hk : meth.locks = false) {S' : mT} {r : Int32} {v1 : Int32} {v2 : Int32} {S : mT} (hf : fX11_moves false v1 v2 S = some (r, S')) (ok : Bool) : mW p l e (mR 3) s m args below meth c G 3 233 54500 (mQ below G args s false S' (some (.int r))) (ok, 0, [.ref (0), .int v1, .int v2], [], mk false S) := by
  unfold fX11_moves at hf
  refine msegT C kX11_moves 0 2 (g := (true, 2, [.ref (0), .int v1, .int v2], [.int v1, .ref (0)], mk false S)) rfl rfl ?_
  obtain ⟨x2, S1, hq, hf⟩ := bndC_ex hf
  refine mcall (kd := 0) (vs := [.ref (0), .int v1]) (rest := []) (r := (some (.int x2))) (h' := mk false S1) (ok' := true) C lkRX11_124 (qX11_isHouse_f hq) (kX11_moves _ (List.mem_of_getElem? (i := 2) rfl)).1 ⟨_, _, rfl, rfl, Nat.le_of_ble_eq_true rfl, _, _, rfl, rfl, rfl⟩ (Nat.le_of_ble_eq_true rfl) (Nat.le_of_ble_eq_true rfl) (Nat.le_refl _) (Nat.le_refl _) (Nat.le_of_ble_eq_true rfl) ?_
  refine msegT C kX11_moves 3 1 (g := (true, (if x2 = 0 then 21 else 8), [.ref (0), .int v1, .int v2], [], mk false S1)) rfl rfl ?_
  by_cases hc : x2 = 0
  · rw [if_pos hc] at hf ⊢
    exact mfor (L' := [.retAddr 0, .retAddr 0, .retAddr 0]) ⟨Or.inl rfl, Or.inl rfl, Or.inl rfl, trivial⟩ (bX11_moves_21_f C hr hk hf true)
  · rw [if_neg hc] at hf ⊢
    refine msegT C kX11_moves 4 2 (g := (true, 10, [.ref (0), .int v1, .int v2], [.int v2, .ref (0)], mk false S1)) rfl rfl ?_
    obtain ⟨x4, S3, hq, hf⟩ := bndC_ex hf
    refine mcall (kd := 0) (vs := [.ref (0), .int v2]) (rest := []) (r := (some (.int x4))) (h' := mk false S3) (ok' := true) C lkRX11_124 (qX11_isHouse_f hq) (kX11_moves _ (List.mem_of_getElem? (i := 6) rfl)).1 ⟨_, _, rfl, rfl, Nat.le_of_ble_eq_true rfl, _, _, rfl, rfl, rfl⟩ (Nat.le_of_ble_eq_true rfl) (Nat.le_of_ble_eq_true rfl) (Nat.le_refl _) (Nat.le_refl _) (Nat.le_of_ble_eq_true rfl) ?_
    refine msegT C kX11_moves 7 1 (g := (true, (if x4 = 0 then 21 else 16), [.ref (0), .int v1, .int v2], [], mk false S3)) rfl rfl ?_
    by_cases hc : x4 = 0
    · rw [if_pos hc] at hf ⊢
      exact mfor (L' := [.retAddr 0, .retAddr 0, .retAddr 0]) ⟨Or.inl rfl, Or.inl rfl, Or.inl rfl, trivial⟩ (bX11_moves_21_f C hr hk hf true)
    · rw [if_neg hc] at hf ⊢
      refine msegT C kX11_moves 8 3 (g := (true, (if v1 = v2 then 21 else 23), [.ref (0), .int v1, .int v2], [], mk false S3)) rfl rfl ?_
      by_cases hc : v1 = v2
      · rw [if_pos hc] at hf ⊢
        exact mfor (L' := [.retAddr 0, .retAddr 0, .retAddr 0]) ⟨Or.inl rfl, Or.inl rfl, Or.inl rfl, trivial⟩ (bX11_moves_21_f C hr hk hf true)
      · rw [if_neg hc] at hf ⊢
        obtain ⟨hok, hf⟩ := grd_ex hf
        refine msegT C kX11_moves 13 7 (g := ((kI 35 ((0 : Int32) + v1) && (kO 0 11 && true)), (if (S3.1 35 (mIx ((0 : Int32) + v1))) ≤ 0 then 47 else 34), [.ref (0), .int v1, .int v2], [], mk false S3)) rfl hok ?_
        by_cases hc : (S3.1 35 (mIx ((0 : Int32) + v1))) ≤ 0
        · rw [if_pos hc] at hf ⊢
          exact mfor (L' := [.retAddr 0, .retAddr 0, .retAddr 0]) ⟨Or.inl rfl, Or.inl rfl, Or.inl rfl, trivial⟩ (bX11_moves_47_f C hr hk hf true)
        · rw [if_neg hc] at hf ⊢
          obtain ⟨hok, hf⟩ := grd_ex hf
          refine msegT C kX11_moves 20 8 (g := ((kI 35 ((0 : Int32) + v2) && (kO 0 11 && true)), (if (S3.1 35 (mIx ((0 : Int32) + v2))) < (7 : Int32) then 49 else 47), [.ref (0), .int v1, .int v2], [], mk false S3)) rfl hok ?_
          by_cases hc : (S3.1 35 (mIx ((0 : Int32) + v2))) < (7 : Int32)
          · rw [if_pos hc] at hf ⊢
            refine msegT C kX11_moves 30 2 (g := (true, 51, [.ref (0), .int v1, .int v2], [.int v1, .ref (0)], mk false S3)) rfl rfl ?_
            obtain ⟨S5, hq, hf⟩ := bndV_ex hf
            refine mcall (kd := 0) (vs := [.ref (0), .int v1]) (rest := []) (r := none) (h' := mk false S5) (ok' := true) C lkRX11_152 (qX11_leaveOne hq) (kX11_moves _ (List.mem_of_getElem? (i := 32) rfl)).1 ⟨_, _, rfl, rfl, Nat.le_of_ble_eq_true rfl, _, _, rfl, rfl, rfl⟩ (Nat.le_of_ble_eq_true rfl) (Nat.le_of_ble_eq_true rfl) (Nat.le_refl _) (Nat.le_refl _) (Nat.le_of_ble_eq_true rfl) ?_
            obtain ⟨hok, hf⟩ := grd_ex hf
            refine msegT C kX11_moves 33 10 (g := ((kI 35 ((0 : Int32) + v2) && (kI 35 ((0 : Int32) + v2) && (kO 0 11 && true))), 66, [.ref (0), .int v1, .int v2], [], mk false (sI S5 35 (mIx ((0 : Int32) + v2)) ((S5.1 35 (mIx ((0 : Int32) + v2))) + (1 : Int32))))) rfl hok ?_
            obtain ⟨S6, eS6, hf⟩ := bnd_ex hf
            rw [← eS6]
            obtain ⟨hok, hf⟩ := grd_ex hf
            refine msegT C kX11_moves 43 4 (g := ((kO 0 11 && (kO 0 11 && true)), 74, [.ref (0), .int v1, .int v2], [.ref 35, .ref 37], mk false S6)) rfl hok ?_
            obtain ⟨S7, hq, hf⟩ := bndV_ex hf
            refine mcall (kd := 0) (vs := [.ref 37, .ref 35]) (rest := []) (r := none) (h' := mk false S7) (ok' := true) C lkRX11_149 (qX2_keep hq) (kX11_moves _ (List.mem_of_getElem? (i := 47) rfl)).1 ⟨_, _, rfl, rfl, Nat.le_of_ble_eq_true rfl, _, _, rfl, rfl, rfl⟩ (Nat.le_of_ble_eq_true rfl) (Nat.le_of_ble_eq_true rfl) (Nat.le_refl _) (Nat.le_refl _) (Nat.le_of_ble_eq_true rfl) ?_
            obtain ⟨hok, hf⟩ := grd_ex hf
            refine msegT C kX11_moves 48 6 (g := ((kI 35 ((0 : Int32) + v2) && (kO 0 11 && true)), 85, [.ref (0), .int v1, .int v2], [.int (S7.1 35 (mIx ((0 : Int32) + v2)))], mk false S7)) rfl hok ?_
            cases hf
            exact gret_i C hr hk (kX11_moves _ (List.mem_of_getElem? (i := 54) rfl)).1
          · rw [if_neg hc] at hf ⊢
            exact mfor (L' := [.retAddr 0, .retAddr 0, .retAddr 0]) ⟨Or.inl rfl, Or.inl rfl, Or.inl rfl, trivial⟩ (bX11_moves_47_f C hr hk hf true)
theorem qX11_moves_f {v1 : Int32} {v2 : Int32} {S S' : mT} {r : Int32} (hf : fX11_moves false v1 v2 S = some (r, S')) : mOk l mX11_moves 3 [.ref (0), .int v1, .int v2] false S (some (.int r)) S' :=
  gMet (by decide) (Nat.le_of_ble_eq_true rfl) rfl (Nat.le_of_ble_eq_true rfl) (fun p e s m args below meth c G C hr hk => bX11_moves_0_f C hr hk hf true)
theorem bX11_moves_21_t (C : mCx p (mR 3) s m args meth c G cX11_moves RX11 3 false 233 54500 233 54500) (hr : meth.sig.returnType = (some .int)) (hk : meth.locks = false) {S' : mT} {r : Int32} {S : mT} (hf : fX11_moves_21 true S = some (r, S')) (ok : Bool) : mW p l e (mR 3) s m args below meth c G 3 233 54500 (mQ below G args s true S' (some (.int r))) (ok, 21, [.retAddr 0, .retAddr 0, .retAddr 0], [], mk true S) := by
  unfold fX11_moves_21 at hf
  refine msegT C kX11_moves 11 1 (g := (true, 22, [.retAddr 0, .retAddr 0, .retAddr 0], [.int (-1 : Int32)], mk true S)) rfl rfl ?_
  cases hf
  exact gret_i C hr hk (kX11_moves _ (List.mem_of_getElem? (i := 12) rfl)).1
theorem bX11_moves_47_t (C : mCx p (mR 3) s m args meth c G cX11_moves RX11 3 false 233 54500 233 54500) (hr : meth.sig.returnType = (some .int)) (hk : meth.locks = false) {S' : mT} {r : Int32} {S : mT} (hf : fX11_moves_47 true S = some (r, S')) (ok : Bool) : mW p l e (mR 3) s m args below meth c G 3 233 54500 (mQ below G args s true S' (some (.int r))) (ok, 47, [.retAddr 0, .retAddr 0, .retAddr 0], [], mk true S) := by
  unfold fX11_moves_47 at hf
  refine msegT C kX11_moves 28 1 (g := (true, 48, [.retAddr 0, .retAddr 0, .retAddr 0], [.int (-1 : Int32)], mk true S)) rfl rfl ?_
  cases hf
  exact gret_i C hr hk (kX11_moves _ (List.mem_of_getElem? (i := 29) rfl)).1
theorem bX11_moves_0_t (C : mCx p (mR 3) s m args meth c G cX11_moves RX11 3 false 233 54500 233 54500) (hr : meth.sig.returnType = (some .int)) (hk : meth.locks = false) {S' : mT} {r : Int32} {v1 : Int32} {v2 : Int32} {S : mT} (hf : fX11_moves true v1 v2 S = some (r, S')) (ok : Bool) : mW p l e (mR 3) s m args below meth c G 3 233 54500 (mQ below G args s true S' (some (.int r))) (ok, 0, [.ref (0), .int v1, .int v2], [], mk true S) := by
  unfold fX11_moves at hf
  refine msegT C kX11_moves 0 2 (g := (true, 2, [.ref (0), .int v1, .int v2], [.int v1, .ref (0)], mk true S)) rfl rfl ?_
  obtain ⟨x2, S1, hq, hf⟩ := bndC_ex hf
  refine mcall (kd := 0) (vs := [.ref (0), .int v1]) (rest := []) (r := (some (.int x2))) (h' := mk true S1) (ok' := true) C lkRX11_124 (qX11_isHouse_t hq) (kX11_moves _ (List.mem_of_getElem? (i := 2) rfl)).1 ⟨_, _, rfl, rfl, Nat.le_of_ble_eq_true rfl, _, _, rfl, rfl, rfl⟩ (Nat.le_of_ble_eq_true rfl) (Nat.le_of_ble_eq_true rfl) (Nat.le_refl _) (Nat.le_refl _) (Nat.le_of_ble_eq_true rfl) ?_
  refine msegT C kX11_moves 3 1 (g := (true, (if x2 = 0 then 21 else 8), [.ref (0), .int v1, .int v2], [], mk true S1)) rfl rfl ?_
  by_cases hc : x2 = 0
  · rw [if_pos hc] at hf ⊢
    exact mfor (L' := [.retAddr 0, .retAddr 0, .retAddr 0]) ⟨Or.inl rfl, Or.inl rfl, Or.inl rfl, trivial⟩ (bX11_moves_21_t C hr hk hf true)
  · rw [if_neg hc] at hf ⊢
    refine msegT C kX11_moves 4 2 (g := (true, 10, [.ref (0), .int v1, .int v2], [.int v2, .ref (0)], mk true S1)) rfl rfl ?_
    obtain ⟨x4, S3, hq, hf⟩ := bndC_ex hf
    refine mcall (kd := 0) (vs := [.ref (0), .int v2]) (rest := []) (r := (some (.int x4))) (h' := mk true S3) (ok' := true) C lkRX11_124 (qX11_isHouse_t hq) (kX11_moves _ (List.mem_of_getElem? (i := 6) rfl)).1 ⟨_, _, rfl, rfl, Nat.le_of_ble_eq_true rfl, _, _, rfl, rfl, rfl⟩ (Nat.le_of_ble_eq_true rfl) (Nat.le_of_ble_eq_true rfl) (Nat.le_refl _) (Nat.le_refl _) (Nat.le_of_ble_eq_true rfl) ?_
    refine msegT C kX11_moves 7 1 (g := (true, (if x4 = 0 then 21 else 16), [.ref (0), .int v1, .int v2], [], mk true S3)) rfl rfl ?_
    by_cases hc : x4 = 0
    · rw [if_pos hc] at hf ⊢
      exact mfor (L' := [.retAddr 0, .retAddr 0, .retAddr 0]) ⟨Or.inl rfl, Or.inl rfl, Or.inl rfl, trivial⟩ (bX11_moves_21_t C hr hk hf true)
    · rw [if_neg hc] at hf ⊢
      refine msegT C kX11_moves 8 3 (g := (true, (if v1 = v2 then 21 else 23), [.ref (0), .int v1, .int v2], [], mk true S3)) rfl rfl ?_
      by_cases hc : v1 = v2
      · rw [if_pos hc] at hf ⊢
        exact mfor (L' := [.retAddr 0, .retAddr 0, .retAddr 0]) ⟨Or.inl rfl, Or.inl rfl, Or.inl rfl, trivial⟩ (bX11_moves_21_t C hr hk hf true)
      · rw [if_neg hc] at hf ⊢
        obtain ⟨hok, hf⟩ := grd_ex hf
        refine msegT C kX11_moves 13 7 (g := ((kI 35 ((0 : Int32) + v1) && (kO 0 11 && true)), (if (S3.1 35 (mIx ((0 : Int32) + v1))) ≤ 0 then 47 else 34), [.ref (0), .int v1, .int v2], [], mk true S3)) rfl hok ?_
        by_cases hc : (S3.1 35 (mIx ((0 : Int32) + v1))) ≤ 0
        · rw [if_pos hc] at hf ⊢
          exact mfor (L' := [.retAddr 0, .retAddr 0, .retAddr 0]) ⟨Or.inl rfl, Or.inl rfl, Or.inl rfl, trivial⟩ (bX11_moves_47_t C hr hk hf true)
        · rw [if_neg hc] at hf ⊢
          obtain ⟨hok, hf⟩ := grd_ex hf
          refine msegT C kX11_moves 20 8 (g := ((kI 35 ((0 : Int32) + v2) && (kO 0 11 && true)), (if (S3.1 35 (mIx ((0 : Int32) + v2))) < (7 : Int32) then 49 else 47), [.ref (0), .int v1, .int v2], [], mk true S3)) rfl hok ?_
          by_cases hc : (S3.1 35 (mIx ((0 : Int32) + v2))) < (7 : Int32)
          · rw [if_pos hc] at hf ⊢
            refine msegT C kX11_moves 30 2 (g := (true, 51, [.ref (0), .int v1, .int v2], [.int v1, .ref (0)], mk true S3)) rfl rfl ?_
            obtain ⟨S5, hq, hf⟩ := bndV_ex hf
            refine mcall (kd := 0) (vs := [.ref (0), .int v1]) (rest := []) (r := none) (h' := mk true S5) (ok' := true) C lkRX11_152 (qX11_leaveOne hq) (kX11_moves _ (List.mem_of_getElem? (i := 32) rfl)).1 ⟨_, _, rfl, rfl, Nat.le_of_ble_eq_true rfl, _, _, rfl, rfl, rfl⟩ (Nat.le_of_ble_eq_true rfl) (Nat.le_of_ble_eq_true rfl) (Nat.le_refl _) (Nat.le_refl _) (Nat.le_of_ble_eq_true rfl) ?_
            obtain ⟨hok, hf⟩ := grd_ex hf
            refine msegT C kX11_moves 33 10 (g := ((kI 35 ((0 : Int32) + v2) && (kI 35 ((0 : Int32) + v2) && (kO 0 11 && true))), 66, [.ref (0), .int v1, .int v2], [], mk true (sI S5 35 (mIx ((0 : Int32) + v2)) ((S5.1 35 (mIx ((0 : Int32) + v2))) + (1 : Int32))))) rfl hok ?_
            obtain ⟨S6, eS6, hf⟩ := bnd_ex hf
            rw [← eS6]
            obtain ⟨hok, hf⟩ := grd_ex hf
            refine msegT C kX11_moves 43 4 (g := ((kO 0 11 && (kO 0 11 && true)), 74, [.ref (0), .int v1, .int v2], [.ref 35, .ref 37], mk true S6)) rfl hok ?_
            obtain ⟨S7, hq, hf⟩ := bndV_ex hf
            refine mcall (kd := 0) (vs := [.ref 37, .ref 35]) (rest := []) (r := none) (h' := mk true S7) (ok' := true) C lkRX11_149 (qX2_keep hq) (kX11_moves _ (List.mem_of_getElem? (i := 47) rfl)).1 ⟨_, _, rfl, rfl, Nat.le_of_ble_eq_true rfl, _, _, rfl, rfl, rfl⟩ (Nat.le_of_ble_eq_true rfl) (Nat.le_of_ble_eq_true rfl) (Nat.le_refl _) (Nat.le_refl _) (Nat.le_of_ble_eq_true rfl) ?_
            obtain ⟨hok, hf⟩ := grd_ex hf
            refine msegT C kX11_moves 48 6 (g := ((kI 35 ((0 : Int32) + v2) && (kO 0 11 && true)), 85, [.ref (0), .int v1, .int v2], [.int (S7.1 35 (mIx ((0 : Int32) + v2)))], mk true S7)) rfl hok ?_
            cases hf
            exact gret_i C hr hk (kX11_moves _ (List.mem_of_getElem? (i := 54) rfl)).1
          · rw [if_neg hc] at hf ⊢
            exact mfor (L' := [.retAddr 0, .retAddr 0, .retAddr 0]) ⟨Or.inl rfl, Or.inl rfl, Or.inl rfl, trivial⟩ (bX11_moves_47_t C hr hk hf true)
theorem qX11_moves_t {v1 : Int32} {v2 : Int32} {S S' : mT} {r : Int32} (hf : fX11_moves true v1 v2 S = some (r, S')) : mOk l mX11_moves 3 [.ref (0), .int v1, .int v2] true S (some (.int r)) S' :=
  gMet (by decide) (Nat.le_of_ble_eq_true rfl) rfl (Nat.le_of_ble_eq_true rfl) (fun p e s m args below meth c G C hr hk => bX11_moves_0_t C hr hk hf true)
theorem bX6_busyWith_0 (C : mCx p (mR 1) s m args meth c G cX6_busyWith RX6 3 false 233 54500 233 54500) (hr : meth.sig.returnType = (some .int)) (hk : meth.locks = false) {b : Bool} {S' : mT} {r : Int32} {v1 : Int32} {v2 : Int32} {S : mT} (hf : fX6_busyWith v1 v2 S = some (r, S')) (ok : Bool) : mW p l e (mR 1) s m args below meth c G 3 233 54500 (mQ below G args s b S' (some (.int r))) (ok, 0, [.ref (100), .int v1, .int v2], [], mk b S) := by
  unfold fX6_busyWith at hf
  obtain ⟨hok, hf⟩ := grd_ex hf
  refine msegT C kX6_busyWith 0 10 (g := ((kO 100 6 && (kI 104 v1 && (kO 100 6 && (kO 100 6 && true)))), 16, [.ref (100), .int v1, .int v2], [.int v2, .ref 101, .int (S.1 104 (mIx v1)), .int v1, .ref 104], mk b S)) rfl hok ?_
  obtain ⟨hok, hf⟩ := grd_ex hf
  refine msegT C kX6_busyWith 10 1 (g := ((kI 101 v2 && true), 17, [.ref (100), .int v1, .int v2], [.int (S.1 101 (mIx v2)), .int (S.1 104 (mIx v1)), .int v1, .ref 104], mk b S)) rfl hok ?_
  obtain ⟨x1, ex1, hf⟩ := bnd_ex hf
  refine so_max (ok' := true) C (kX6_busyWith _ (List.mem_of_getElem? (i := 11) rfl)).1 lmRX6_68 (Nat.le_of_ble_eq_true rfl) (Nat.le_refl _) (Nat.le_refl _) ?_
  rw [← ex1]
  obtain ⟨hok, hf⟩ := grd_ex hf
  refine msegT C kX6_busyWith 12 1 (g := ((kI 104 v1 && true), 21, [.ref (100), .int v1, .int v2], [], mk b (sI S 104 (mIx v1) x1))) rfl hok ?_
  obtain ⟨S2, eS2, hf⟩ := bnd_ex hf
  rw [← eS2]
  obtain ⟨hok, hf⟩ := grd_ex hf
  refine msegT C kX6_busyWith 13 10 (g := ((kI 102 v2 && (kO 100 6 && (kI 105 v1 && (kO 100 6 && true)))), 35, [.ref (100), .int v1, .int v2], [.int ((S2.1 105 (mIx v1)) + (S2.1 102 (mIx v2))), .int v1, .ref 105], mk b S2)) rfl hok ?_
  obtain ⟨hok, hf⟩ := grd_ex hf
  refine msegT C kX6_busyWith 23 1 (g := ((kI 105 v1 && true), 36, [.ref (100), .int v1, .int v2], [], mk b (sI S2 105 (mIx v1) ((S2.1 105 (mIx v1)) + (S2.1 102 (mIx v2)))))) rfl hok ?_
  obtain ⟨S3, eS3, hf⟩ := bnd_ex hf
  rw [← eS3]
  obtain ⟨hok, hf⟩ := grd_ex hf
  refine msegT C kX6_busyWith 24 9 (g := ((kI 105 v1 && (kO 100 6 && (kI 104 v1 && (kO 100 6 && true)))), 49, [.ref (100), .int v1, .int v2], [.int ((S3.1 104 (mIx v1)) + (S3.1 105 (mIx v1)))], mk b S3)) rfl hok ?_
  cases hf
  exact gret_i C hr hk (kX6_busyWith _ (List.mem_of_getElem? (i := 33) rfl)).1
theorem qX6_busyWith {b : Bool} {v1 : Int32} {v2 : Int32} {S S' : mT} {r : Int32} (hf : fX6_busyWith v1 v2 S = some (r, S')) : mOk l mX6_busyWith 1 [.ref (100), .int v1, .int v2] b S (some (.int r)) S' :=
  gMet (by decide) (Nat.le_of_ble_eq_true rfl) rfl (Nat.le_of_ble_eq_true rfl) (fun p e s m args below meth c G C hr hk => bX6_busyWith_0 C hr hk hf true)
theorem bX6_putBack_0 (C : mCx p (mR 1) s m args meth c G cX6_putBack RX6 4 false 233 54500 233 54500) (hr : meth.sig.returnType = none) (hk : meth.locks = false) {b : Bool} {S' : mT} {v1 : Int32} {v2 : Int32} {v3 : Int32} {S : mT} (hf : fX6_putBack v1 v2 v3 S = some S') (ok : Bool) : mW p l e (mR 1) s m args below meth c G 4 233 54500 (mQ below G args s b S' none) (ok, 0, [.ref (100), .int v1, .int v2, .int v3], [], mk b S) := by
  unfold fX6_putBack at hf
  obtain ⟨hok, hf⟩ := grd_ex hf
  refine msegT C kX6_putBack 0 5 (g := ((kI 104 v1 && (kO 100 6 && true)), 7, [.ref (100), .int v1, .int v2, .int v3], [], mk b (sI S 104 (mIx v1) v3))) rfl hok ?_
  obtain ⟨S1, eS1, hf⟩ := bnd_ex hf
  rw [← eS1]
  obtain ⟨hok, hf⟩ := grd_ex hf
  refine msegT C kX6_putBack 5 10 (g := ((kI 102 v2 && (kO 100 6 && (kI 105 v1 && (kO 100 6 && true)))), 21, [.ref (100), .int v1, .int v2, .int v3], [.int ((S1.1 105 (mIx v1)) - (S1.1 102 (mIx v2))), .int v1, .ref 105], mk b S1)) rfl hok ?_
  obtain ⟨hok, hf⟩ := grd_ex hf
  refine msegT C kX6_putBack 15 1 (g := ((kI 105 v1 && true), 22, [.ref (100), .int v1, .int v2, .int v3], [], mk b (sI S1 105 (mIx v1) ((S1.1 105 (mIx v1)) - (S1.1 102 (mIx v2)))))) rfl hok ?_
  obtain ⟨S2, eS2, hf⟩ := bnd_ex hf
  rw [← eS2]
  cases hf
  exact gret_v C hr hk (kX6_putBack _ (List.mem_of_getElem? (i := 16) rfl)).1
theorem qX6_putBack {b : Bool} {v1 : Int32} {v2 : Int32} {v3 : Int32} {S S' : mT} (hf : fX6_putBack v1 v2 v3 S = some S') : mOk l mX6_putBack 1 [.ref (100), .int v1, .int v2, .int v3] b S none S' :=
  gMet (by decide) (Nat.le_of_ble_eq_true rfl) rfl (Nat.le_of_ble_eq_true rfl) (fun p e s m args below meth c G C hr hk => bX6_putBack_0 C hr hk hf true)
theorem bX6_soonestFrom_93 {d : Nat} (C : mCx p (mR (2 + (d + 1))) s m args meth c G cX6_soonestFrom RX6 9 false 233 54500 233 54500) (hr : meth.sig.returnType = (some .int)) (hk : meth.locks = false) {b : Bool} {self : Int32 → Int32 → Int32 → Int32 → mT → Option (Int32 × mT)} (Hself : ∀ {v1 : Int32} {v2 : Int32} {v3 : Int32} {v4 : Int32} {S S' : mT} {r : Int32}, self v1 v2 v3 v4 S = some (r, S') → mOk l mX6_soonestFrom (2 + d) [.ref (100), .int v1, .int v2, .int v3, .int v4] b S (some (.int r)) S') {S' : mT} {r : Int32} {v5 : Int32} {S : mT} (hf : fX6_soonestFrom_93 self v5 S = some (r, S')) (ok : Bool) : mW p l e (mR (2 + (d + 1))) s m args below meth c G 9 233 54500 (mQ below G args s b S' (some (.int r))) (ok, 93, [.retAddr 0, .retAddr 0, .retAddr 0, .retAddr 0, .retAddr 0, .int v5, .retAddr 0, .retAddr 0, .retAddr 0], [], mk b S) := by
  unfold fX6_soonestFrom_93 at hf
  refine msegT C kX6_soonestFrom 50 1 (g := (true, 95, [.retAddr 0, .retAddr 0, .retAddr 0, .retAddr 0, .retAddr 0, .int v5, .retAddr 0, .retAddr 0, .retAddr 0], [.int v5], mk b S)) rfl rfl ?_
  cases hf
  exact gret_i C hr hk (kX6_soonestFrom _ (List.mem_of_getElem? (i := 51) rfl)).1
theorem bX6_soonestFrom_18 {d : Nat} (C : mCx p (mR (2 + (d + 1))) s m args meth c G cX6_soonestFrom RX6 9 false 233 54500 233 54500) (hr : meth.sig.returnType = (some .int)) (hk : meth.locks = false) {b : Bool} {self : Int32 → Int32 → Int32 → Int32 → mT → Option (Int32 × mT)} (Hself : ∀ {v1 : Int32} {v2 : Int32} {v3 : Int32} {v4 : Int32} {S S' : mT} {r : Int32}, self v1 v2 v3 v4 S = some (r, S') → mOk l mX6_soonestFrom (2 + d) [.ref (100), .int v1, .int v2, .int v3, .int v4] b S (some (.int r)) S') {S' : mT} {r : Int32} : ∀ (k : Nat) (v1 : Int32) (v2 : Int32) (v3 : Int32) (v4 : Int32) (v5 : Int32) (v6 : Int32) (S : mT), fX6_soonestFrom_18 self k v1 v2 v3 v4 v5 v6 S = some (r, S') → ∀ ok : Bool, mW p l e (mR (2 + (d + 1))) s m args below meth c G 9 233 54500 (mQ below G args s b S' (some (.int r))) (ok, 18, [.ref (100), .int v1, .int v2, .int v3, .int v4, .int v5, .int v6, .retAddr 0, .retAddr 0], [], mk b S) := by
  intro k
  induction k with
  | zero =>
    intro v1 v2 v3 v4 v5 v6 S hf ok
    cases hf
  | succ k ih =>
    intro v1 v2 v3 v4 v5 v6 S hf ok
    unfold fX6_soonestFrom_18 at hf
    refine msegT C kX6_soonestFrom 10 3 (g := (true, (if v2 < v6 then 93 else 24), [.ref (100), .int v1, .int v2, .int v3, .int v4, .int v5, .int v6, .retAddr 0, .retAddr 0], [], mk b S)) rfl rfl ?_
    by_cases hc : v2 < v6
    · rw [if_pos hc] at hf ⊢
      exact mfor (L' := [.retAddr 0, .retAddr 0, .retAddr 0, .retAddr 0, .retAddr 0, .int v5, .retAddr 0, .retAddr 0, .retAddr 0]) ⟨Or.inl rfl, Or.inl rfl, Or.inl rfl, Or.inl rfl, Or.inl rfl, Or.inr rfl, Or.inl rfl, Or.inl rfl, Or.inl rfl, trivial⟩ (bX6_soonestFrom_93 C hr hk Hself hf true)
    · rw [if_neg hc] at hf ⊢
      refine msegT C kX6_soonestFrom 13 3 (g := (true, (if v3 ≤ v6 then 93 else 30), [.ref (100), .int v1, .int v2, .int v3, .int v4, .int v5, .int v6, .retAddr 0, .retAddr 0], [], mk b S)) rfl rfl ?_
      by_cases hc : v3 ≤ v6
      · rw [if_pos hc] at hf ⊢
        exact mfor (L' := [.retAddr 0, .retAddr 0, .retAddr 0, .retAddr 0, .retAddr 0, .int v5, .retAddr 0, .retAddr 0, .retAddr 0]) ⟨Or.inl rfl, Or.inl rfl, Or.inl rfl, Or.inl rfl, Or.inl rfl, Or.inr rfl, Or.inl rfl, Or.inl rfl, Or.inl rfl, trivial⟩ (bX6_soonestFrom_93 C hr hk Hself hf true)
      · rw [if_neg hc] at hf ⊢
        obtain ⟨hok, hf⟩ := grd_ex hf
        refine msegT C kX6_soonestFrom 16 5 (g := ((kI 104 v6 && (kO 100 6 && true)), 39, [.ref (100), .int v1, .int v2, .int v3, .int v4, .int v5, .int v6, .int (S.1 104 (mIx v6)), .retAddr 0], [], mk b S)) rfl hok ?_
        obtain ⟨x1, ex1, hf⟩ := bnd_ex hf
        rw [← ex1]
        refine msegT C kX6_soonestFrom 21 4 (g := (true, 45, [.ref (100), .int v1, .int v2, .int v3, .int v4, .int v5, .int v6, .int x1, .retAddr 0], [.int v1, .int v6, .ref (100), .int v4], mk b S)) rfl rfl ?_
        obtain ⟨x3, S2, hq, hf⟩ := bndC_ex hf
        refine mcall (kd := 0) (vs := [.ref (100), .int v6, .int v1]) (rest := [.int v4]) (r := (some (.int x3))) (h' := mk b S2) (ok' := true) C lkRX6_64 (qX6_busyWith hq) (kX6_soonestFrom _ (List.mem_of_getElem? (i := 25) rfl)).1 ⟨_, _, rfl, rfl, Nat.le_of_ble_eq_true rfl, _, _, rfl, rfl, rfl⟩ (by show 1 + 1 ≤ 2 + (d + 1); omega) (by show 19 + 3 + 100 * (1) ≤ 100 * (2 + (d + 1)); omega) (Nat.le_refl _) (Nat.le_refl _) (Nat.le_of_ble_eq_true rfl) ?_
        obtain ⟨x4, ex4, hf⟩ := bnd_ex hf
        refine so_max (ok' := true) C (kX6_soonestFrom _ (List.mem_of_getElem? (i := 26) rfl)).1 lmRX6_68 (Nat.le_of_ble_eq_true rfl) (Nat.le_refl _) (Nat.le_refl _) ?_
        rw [← ex4]
        refine msegT C kX6_soonestFrom 27 10 (g := (true, 64, [.ref (100), .int v1, .int v2, .int v3, .int v4, .int v5, .int v6, .int x1, .int x4], [.int (v6 + (1 : Int32)), .int v2, .int (v1 + (1 : Int32)), .ref (100), .int v5], mk b S2)) rfl rfl ?_
        obtain ⟨x5, ex5, hf⟩ := bnd_ex hf
        refine so_max (ok' := true) C (kX6_soonestFrom _ (List.mem_of_getElem? (i := 37) rfl)).1 lmRX6_68 (Nat.le_of_ble_eq_true rfl) (Nat.le_refl _) (Nat.le_refl _) ?_
        rw [← ex5]
        refine msegT C kX6_soonestFrom 38 2 (g := (true, 70, [.ref (100), .int v1, .int v2, .int v3, .int v4, .int v5, .int v6, .int x1, .int x4], [.int x4, .int v3, .int x5, .int (v1 + (1 : Int32)), .ref (100), .int v5], mk b S2)) rfl rfl ?_
        obtain ⟨x7, S6, hq, hf⟩ := bndC_ex hf
        refine mcall (kd := 0) (vs := [.ref (100), .int (v1 + (1 : Int32)), .int x5, .int v3, .int x4]) (rest := [.int v5]) (r := (some (.int x7))) (h' := mk b S6) (ok' := true) C lkRX6_60 (Hself hq) (kX6_soonestFrom _ (List.mem_of_getElem? (i := 40) rfl)).1 ⟨_, _, rfl, rfl, Nat.le_of_ble_eq_true rfl, _, _, rfl, rfl, rfl⟩ (by show 2 + d + 1 ≤ 2 + (d + 1); omega) (by show 19 + 9 + 100 * (2 + d) ≤ 100 * (2 + (d + 1)); omega) (Nat.le_refl _) (Nat.le_refl _) (Nat.le_of_ble_eq_true rfl) ?_
        obtain ⟨x8, ex8, hf⟩ := bnd_ex hf
        refine so_min (ok' := true) C (kX6_soonestFrom _ (List.mem_of_getElem? (i := 41) rfl)).1 lmRX6_78 (Nat.le_of_ble_eq_true rfl) (Nat.le_refl _) (Nat.le_refl _) ?_
        rw [← ex8]
        refine msegT C kX6_soonestFrom 42 5 (g := (true, 84, [.ref (100), .int v1, .int v2, .int v3, .int v4, .int x8, .int v6, .int x1, .int x4], [.int x1, .int v1, .int v6, .ref (100)], mk b S6)) rfl rfl ?_
        obtain ⟨S9, hq, hf⟩ := bndV_ex hf
        refine mcall (kd := 0) (vs := [.ref (100), .int v6, .int v1, .int x1]) (rest := []) (r := none) (h' := mk b S9) (ok' := true) C lkRX6_73 (qX6_putBack hq) (kX6_soonestFrom _ (List.mem_of_getElem? (i := 47) rfl)).1 ⟨_, _, rfl, rfl, Nat.le_of_ble_eq_true rfl, _, _, rfl, rfl, rfl⟩ (by show 1 + 1 ≤ 2 + (d + 1); omega) (by show 19 + 4 + 100 * (1) ≤ 100 * (2 + (d + 1)); omega) (Nat.le_refl _) (Nat.le_refl _) (Nat.le_of_ble_eq_true rfl) ?_
        refine msegT C kX6_soonestFrom 48 1 (g := (true, 90, [.ref (100), .int v1, .int v2, .int v3, .int v4, .int x8, .int (v6 + (1 : Int32)), .int x1, .int x4], [], mk b S9)) rfl rfl ?_
        obtain ⟨x10, ex10, hf⟩ := bnd_ex hf
        rw [← ex10]
        refine msegT C kX6_soonestFrom 49 1 (g := (true, 18, [.ref (100), .int v1, .int v2, .int v3, .int v4, .int x8, .int x10, .int x1, .int x4], [], mk b S9)) rfl rfl ?_
        exact mfor (L' := [.ref (100), .int v1, .int v2, .int v3, .int v4, .int x8, .int x10, .retAddr 0, .retAddr 0]) ⟨Or.inr rfl, Or.inr rfl, Or.inr rfl, Or.inr rfl, Or.inr rfl, Or.inr rfl, Or.inr rfl, Or.inl rfl, Or.inl rfl, trivial⟩ (ih _ _ _ _ _ _ _ hf true)
theorem bX6_soonestFrom_0 {d : Nat} (C : mCx p (mR (2 + (d + 1))) s m args meth c G cX6_soonestFrom RX6 9 false 233 54500 233 54500) (hr : meth.sig.returnType = (some .int)) (hk : meth.locks = false) {b : Bool} {self : Int32 → Int32 → Int32 → Int32 → mT → Option (Int32 × mT)} (Hself : ∀ {v1 : Int32} {v2 : Int32} {v3 : Int32} {v4 : Int32} {S S' : mT} {r : Int32}, self v1 v2 v3 v4 S = some (r, S') → mOk l mX6_soonestFrom (2 + d) [.ref (100), .int v1, .int v2, .int v3, .int v4] b S (some (.int r)) S') {S' : mT} {r : Int32} {v1 : Int32} {v2 : Int32} {v3 : Int32} {v4 : Int32} {S : mT} (hf : fX6_soonestFrom_0 self v1 v2 v3 v4 S = some (r, S')) (ok : Bool) : mW p l e (mR (2 + (d + 1))) s m args below meth c G 9 233 54500 (mQ below G args s b S' (some (.int r))) (ok, 0, [.ref (100), .int v1, .int v2, .int v3, .int v4, .retAddr 0, .retAddr 0, .retAddr 0, .retAddr 0], [], mk b S) := by
  unfold fX6_soonestFrom_0 at hf
  obtain ⟨hok, hf⟩ := grd_ex hf
  refine msegT C kX6_soonestFrom 0 4 (g := ((kO 100 6 && true), (if v1 < (S.1 100 8) then 11 else 8), [.ref (100), .int v1, .int v2, .int v3, .int v4, .retAddr 0, .retAddr 0, .retAddr 0, .retAddr 0], [], mk b S)) rfl hok ?_
  by_cases hc : v1 < (S.1 100 8)
  · rw [if_pos hc] at hf ⊢
    refine msegT C kX6_soonestFrom 6 4 (g := (true, 18, [.ref (100), .int v1, .int v2, .int v3, .int v4, .int (1000000 : Int32), .int (0 : Int32), .retAddr 0, .retAddr 0], [], mk b S)) rfl rfl ?_
    exact mfor (L' := [.ref (100), .int v1, .int v2, .int v3, .int v4, .int (1000000 : Int32), .int (0 : Int32), .retAddr 0, .retAddr 0]) ⟨Or.inr rfl, Or.inr rfl, Or.inr rfl, Or.inr rfl, Or.inr rfl, Or.inr rfl, Or.inr rfl, Or.inl rfl, Or.inl rfl, trivial⟩ (bX6_soonestFrom_18 C hr hk Hself _ _ _ _ _ _ _ _ hf true)
  · rw [if_neg hc] at hf ⊢
    refine msegT C kX6_soonestFrom 4 1 (g := (true, 10, [.ref (100), .int v1, .int v2, .int v3, .int v4, .retAddr 0, .retAddr 0, .retAddr 0, .retAddr 0], [.int v4], mk b S)) rfl rfl ?_
    cases hf
    exact gret_i C hr hk (kX6_soonestFrom _ (List.mem_of_getElem? (i := 5) rfl)).1
theorem qX6_soonestFrom {b : Bool} : ∀ (d : Nat) {v1 : Int32} {v2 : Int32} {v3 : Int32} {v4 : Int32} {S S' : mT} {r : Int32} (hf : fX6_soonestFrom d v1 v2 v3 v4 S = some (r, S')), mOk l mX6_soonestFrom (2 + d) [.ref (100), .int v1, .int v2, .int v3, .int v4] b S (some (.int r)) S' := by
  intro d
  induction d with
  | zero =>
    intro v1 v2 v3 v4 S S' r hf
    cases hf
  | succ d ih =>
    intro v1 v2 v3 v4 S S' r hf
    exact gMet (by decide) (by show 1 ≤ 2 + (d + 1); omega) rfl (Nat.le_of_ble_eq_true rfl) (fun p e s m args below meth c G C hr hk => bX6_soonestFrom_0 C hr hk ih hf true)
theorem bX6_firstNoon_0 (C : mCx p (mR 19) s m args meth c G cX6_firstNoon RX6 2 false 233 54500 233 54500) (hr : meth.sig.returnType = (some .int)) (hk : meth.locks = false) {b : Bool} {S' : mT} {r : Int32} {v1 : Int32} {S : mT} (hf : fX6_firstNoon v1 S = some (r, S')) (ok : Bool) : mW p l e (mR 19) s m args below meth c G 2 233 54500 (mQ below G args s b S' (some (.int r))) (ok, 0, [.ref (100), .int v1], [], mk b S) := by
  unfold fX6_firstNoon at hf
  refine msegT C kX6_firstNoon 0 5 (g := (true, 5, [.ref (100), .int v1], [.int (0 : Int32), .int v1, .int (0 : Int32), .int (0 : Int32), .ref (100)], mk b S)) rfl rfl ?_
  obtain ⟨x2, S1, hq, hf⟩ := bndC_ex hf
  refine mcall (kd := 0) (vs := [.ref (100), .int (0 : Int32), .int (0 : Int32), .int v1, .int (0 : Int32)]) (rest := []) (r := (some (.int x2))) (h' := mk b S1) (ok' := true) C lkRX6_60 (qX6_soonestFrom 16 hq) (kX6_firstNoon _ (List.mem_of_getElem? (i := 5) rfl)).1 ⟨_, _, rfl, rfl, Nat.le_of_ble_eq_true rfl, _, _, rfl, rfl, rfl⟩ (Nat.le_of_ble_eq_true rfl) (Nat.le_of_ble_eq_true rfl) (Nat.le_refl _) (Nat.le_refl _) (Nat.le_of_ble_eq_true rfl) ?_
  cases hf
  exact gret_i C hr hk (kX6_firstNoon _ (List.mem_of_getElem? (i := 6) rfl)).1
theorem qX6_firstNoon {b : Bool} {v1 : Int32} {S S' : mT} {r : Int32} (hf : fX6_firstNoon v1 S = some (r, S')) : mOk l mX6_firstNoon 19 [.ref (100), .int v1] b S (some (.int r)) S' :=
  gMet (by decide) (Nat.le_of_ble_eq_true rfl) rfl (Nat.le_of_ble_eq_true rfl) (fun p e s m args below meth c G C hr hk => bX6_firstNoon_0 C hr hk hf true)
theorem bX11_noon_19_f (C : mCx p (mR 20) s m args meth c G cX11_noon RX11 2 false 233 54500 233 54500) (hr : meth.sig.returnType = (some .int)) (hk : meth.locks = false) {S' : mT} {r : Int32} {S : mT} (hf : fX11_noon_19 false S = some (r, S')) (ok : Bool) : mW p l e (mR 20) s m args below meth c G 2 233 54500 (mQ below G args s false S' (some (.int r))) (ok, 19, [.retAddr 0, .retAddr 0], [], mk false S) := by
  unfold fX11_noon_19 at hf
  refine msegT C kX11_noon 9 1 (g := (true, 20, [.retAddr 0, .retAddr 0], [.int (-1 : Int32)], mk false S)) rfl rfl ?_
  cases hf
  exact gret_i C hr hk (kX11_noon _ (List.mem_of_getElem? (i := 10) rfl)).1
theorem bX11_noon_0_f (C : mCx p (mR 20) s m args meth c G cX11_noon RX11 2 false 233 54500 233 54500) (hr : meth.sig.returnType = (some .int)) (hk : meth.locks = false) {S' : mT} {r : Int32} {v1 : Int32} {S : mT} (hf : fX11_noon false v1 S = some (r, S')) (ok : Bool) : mW p l e (mR 20) s m args below meth c G 2 233 54500 (mQ below G args s false S' (some (.int r))) (ok, 0, [.ref (0), .int v1], [], mk false S) := by
  unfold fX11_noon at hf
  refine msegT C kX11_noon 0 3 (g := (true, 3, [.ref (0), .int v1], [.int (5 : Int32), .int (1 : Int32), .int v1], mk false S)) rfl rfl ?_
  obtain ⟨x2, S1, hq, hf⟩ := bndC_ex hf
  refine mcall (kd := 1) (vs := [.int v1, .int (1 : Int32), .int (5 : Int32)]) (rest := []) (r := (some (.int x2))) (h' := mk false S1) (ok' := true) C lkRX11_169 (qX11_isWithin hq) (kX11_noon _ (List.mem_of_getElem? (i := 3) rfl)).1 rfl (Nat.le_of_ble_eq_true rfl) (Nat.le_of_ble_eq_true rfl) (Nat.le_refl _) (Nat.le_refl _) (Nat.le_of_ble_eq_true rfl) ?_
  refine msegT C kX11_noon 4 1 (g := (true, (if x2 = 0 then 19 else 9), [.ref (0), .int v1], [], mk false S1)) rfl rfl ?_
  by_cases hc : x2 = 0
  · rw [if_pos hc] at hf ⊢
    exact mfor (L' := [.retAddr 0, .retAddr 0]) ⟨Or.inl rfl, Or.inl rfl, trivial⟩ (bX11_noon_19_f C hr hk hf true)
  · rw [if_neg hc] at hf ⊢
    obtain ⟨hok, hf⟩ := grd_ex hf
    refine msegT C kX11_noon 5 4 (g := ((kO (shU false) 8 && (kO 0 11 && true)), (if (S1.1 (shU false) 9) = 0 then 19 else 21), [.ref (0), .int v1], [], mk false S1)) rfl hok ?_
    by_cases hc : (S1.1 (shU false) 9) = 0
    · rw [if_pos hc] at hf ⊢
      exact mfor (L' := [.retAddr 0, .retAddr 0]) ⟨Or.inl rfl, Or.inl rfl, trivial⟩ (bX11_noon_19_f C hr hk hf true)
    · rw [if_neg hc] at hf ⊢
      obtain ⟨hok, hf⟩ := grd_ex hf
      refine msegT C kX11_noon 11 6 (g := ((kO 0 11 && (kO 0 11 && (kO 0 11 && true))), 33, [.ref (0), .int v1], [.ref 35, .ref (shU false), .ref 100], mk false S1)) rfl hok ?_
      obtain ⟨S3, hq, hf⟩ := bndV_ex hf
      refine mcall (kd := 0) (vs := [.ref 100, .ref (shU false), .ref 35]) (rest := []) (r := none) (h' := mk false S3) (ok' := true) C lkRX11_194 (qX6_look_3 hq) (kX11_noon _ (List.mem_of_getElem? (i := 17) rfl)).1 ⟨_, _, rfl, rfl, Nat.le_of_ble_eq_true rfl, _, _, rfl, rfl, rfl⟩ (Nat.le_of_ble_eq_true rfl) (Nat.le_of_ble_eq_true rfl) (Nat.le_refl _) (Nat.le_refl _) (Nat.le_of_ble_eq_true rfl) ?_
      obtain ⟨hok, hf⟩ := grd_ex hf
      refine msegT C kX11_noon 18 3 (g := ((kO 0 11 && true), 41, [.ref (0), .int v1], [.int v1, .ref 100], mk false S3)) rfl hok ?_
      obtain ⟨x5, S4, hq, hf⟩ := bndC_ex hf
      refine mcall (kd := 0) (vs := [.ref 100, .int v1]) (rest := []) (r := (some (.int x5))) (h' := mk false S4) (ok' := true) C lkRX11_201 (qX6_firstNoon hq) (kX11_noon _ (List.mem_of_getElem? (i := 21) rfl)).1 ⟨_, _, rfl, rfl, Nat.le_of_ble_eq_true rfl, _, _, rfl, rfl, rfl⟩ (Nat.le_of_ble_eq_true rfl) (Nat.le_of_ble_eq_true rfl) (Nat.le_refl _) (Nat.le_refl _) (Nat.le_of_ble_eq_true rfl) ?_
      cases hf
      exact gret_i C hr hk (kX11_noon _ (List.mem_of_getElem? (i := 22) rfl)).1
theorem qX11_noon_f {v1 : Int32} {S S' : mT} {r : Int32} (hf : fX11_noon false v1 S = some (r, S')) : mOk l mX11_noon 20 [.ref (0), .int v1] false S (some (.int r)) S' :=
  gMet (by decide) (Nat.le_of_ble_eq_true rfl) rfl (Nat.le_of_ble_eq_true rfl) (fun p e s m args below meth c G C hr hk => bX11_noon_0_f C hr hk hf true)
theorem bX11_noon_19_t (C : mCx p (mR 20) s m args meth c G cX11_noon RX11 2 false 233 54500 233 54500) (hr : meth.sig.returnType = (some .int)) (hk : meth.locks = false) {S' : mT} {r : Int32} {S : mT} (hf : fX11_noon_19 true S = some (r, S')) (ok : Bool) : mW p l e (mR 20) s m args below meth c G 2 233 54500 (mQ below G args s true S' (some (.int r))) (ok, 19, [.retAddr 0, .retAddr 0], [], mk true S) := by
  unfold fX11_noon_19 at hf
  refine msegT C kX11_noon 9 1 (g := (true, 20, [.retAddr 0, .retAddr 0], [.int (-1 : Int32)], mk true S)) rfl rfl ?_
  cases hf
  exact gret_i C hr hk (kX11_noon _ (List.mem_of_getElem? (i := 10) rfl)).1
theorem bX11_noon_0_t (C : mCx p (mR 20) s m args meth c G cX11_noon RX11 2 false 233 54500 233 54500) (hr : meth.sig.returnType = (some .int)) (hk : meth.locks = false) {S' : mT} {r : Int32} {v1 : Int32} {S : mT} (hf : fX11_noon true v1 S = some (r, S')) (ok : Bool) : mW p l e (mR 20) s m args below meth c G 2 233 54500 (mQ below G args s true S' (some (.int r))) (ok, 0, [.ref (0), .int v1], [], mk true S) := by
  unfold fX11_noon at hf
  refine msegT C kX11_noon 0 3 (g := (true, 3, [.ref (0), .int v1], [.int (5 : Int32), .int (1 : Int32), .int v1], mk true S)) rfl rfl ?_
  obtain ⟨x2, S1, hq, hf⟩ := bndC_ex hf
  refine mcall (kd := 1) (vs := [.int v1, .int (1 : Int32), .int (5 : Int32)]) (rest := []) (r := (some (.int x2))) (h' := mk true S1) (ok' := true) C lkRX11_169 (qX11_isWithin hq) (kX11_noon _ (List.mem_of_getElem? (i := 3) rfl)).1 rfl (Nat.le_of_ble_eq_true rfl) (Nat.le_of_ble_eq_true rfl) (Nat.le_refl _) (Nat.le_refl _) (Nat.le_of_ble_eq_true rfl) ?_
  refine msegT C kX11_noon 4 1 (g := (true, (if x2 = 0 then 19 else 9), [.ref (0), .int v1], [], mk true S1)) rfl rfl ?_
  by_cases hc : x2 = 0
  · rw [if_pos hc] at hf ⊢
    exact mfor (L' := [.retAddr 0, .retAddr 0]) ⟨Or.inl rfl, Or.inl rfl, trivial⟩ (bX11_noon_19_t C hr hk hf true)
  · rw [if_neg hc] at hf ⊢
    obtain ⟨hok, hf⟩ := grd_ex hf
    refine msegT C kX11_noon 5 4 (g := ((kO (shU true) 8 && (kO 0 11 && true)), (if (S1.1 (shU true) 9) = 0 then 19 else 21), [.ref (0), .int v1], [], mk true S1)) rfl hok ?_
    by_cases hc : (S1.1 (shU true) 9) = 0
    · rw [if_pos hc] at hf ⊢
      exact mfor (L' := [.retAddr 0, .retAddr 0]) ⟨Or.inl rfl, Or.inl rfl, trivial⟩ (bX11_noon_19_t C hr hk hf true)
    · rw [if_neg hc] at hf ⊢
      obtain ⟨hok, hf⟩ := grd_ex hf
      refine msegT C kX11_noon 11 6 (g := ((kO 0 11 && (kO 0 11 && (kO 0 11 && true))), 33, [.ref (0), .int v1], [.ref 35, .ref (shU true), .ref 100], mk true S1)) rfl hok ?_
      obtain ⟨S3, hq, hf⟩ := bndV_ex hf
      refine mcall (kd := 0) (vs := [.ref 100, .ref (shU true), .ref 35]) (rest := []) (r := none) (h' := mk true S3) (ok' := true) C lkRX11_194 (qX6_look_19 hq) (kX11_noon _ (List.mem_of_getElem? (i := 17) rfl)).1 ⟨_, _, rfl, rfl, Nat.le_of_ble_eq_true rfl, _, _, rfl, rfl, rfl⟩ (Nat.le_of_ble_eq_true rfl) (Nat.le_of_ble_eq_true rfl) (Nat.le_refl _) (Nat.le_refl _) (Nat.le_of_ble_eq_true rfl) ?_
      obtain ⟨hok, hf⟩ := grd_ex hf
      refine msegT C kX11_noon 18 3 (g := ((kO 0 11 && true), 41, [.ref (0), .int v1], [.int v1, .ref 100], mk true S3)) rfl hok ?_
      obtain ⟨x5, S4, hq, hf⟩ := bndC_ex hf
      refine mcall (kd := 0) (vs := [.ref 100, .int v1]) (rest := []) (r := (some (.int x5))) (h' := mk true S4) (ok' := true) C lkRX11_201 (qX6_firstNoon hq) (kX11_noon _ (List.mem_of_getElem? (i := 21) rfl)).1 ⟨_, _, rfl, rfl, Nat.le_of_ble_eq_true rfl, _, _, rfl, rfl, rfl⟩ (Nat.le_of_ble_eq_true rfl) (Nat.le_of_ble_eq_true rfl) (Nat.le_refl _) (Nat.le_refl _) (Nat.le_of_ble_eq_true rfl) ?_
      cases hf
      exact gret_i C hr hk (kX11_noon _ (List.mem_of_getElem? (i := 22) rfl)).1
theorem qX11_noon_t {v1 : Int32} {S S' : mT} {r : Int32} (hf : fX11_noon true v1 S = some (r, S')) : mOk l mX11_noon 20 [.ref (0), .int v1] true S (some (.int r)) S' :=
  gMet (by decide) (Nat.le_of_ble_eq_true rfl) rfl (Nat.le_of_ble_eq_true rfl) (fun p e s m args below meth c G C hr hk => bX11_noon_0_t C hr hk hf true)
theorem bX11_odds_27_f (C : mCx p (mR 21) s m args meth c G cX11_odds RX11 6 false 233 54500 233 54500) (hr : meth.sig.returnType = (some .int)) (hk : meth.locks = false) {S' : mT} {r : Int32} {S : mT} (hf : fX11_odds_27 false S = some (r, S')) (ok : Bool) : mW p l e (mR 21) s m args below meth c G 6 233 54500 (mQ below G args s false S' (some (.int r))) (ok, 27, [.retAddr 0, .retAddr 0, .retAddr 0, .retAddr 0, .retAddr 0, .retAddr 0], [], mk false S) := by
  unfold fX11_odds_27 at hf
  refine msegT C kX11_odds 14 1 (g := (true, 28, [.retAddr 0, .retAddr 0, .retAddr 0, .retAddr 0, .retAddr 0, .retAddr 0], [.int (-1 : Int32)], mk false S)) rfl rfl ?_
  cases hf
  exact gret_i C hr hk (kX11_odds _ (List.mem_of_getElem? (i := 15) rfl)).1
theorem bX11_odds_90_f (C : mCx p (mR 21) s m args meth c G cX11_odds RX11 6 false 233 54500 233 54500) (hr : meth.sig.returnType = (some .int)) (hk : meth.locks = false) {S' : mT} {r : Int32} {v5 : Int32} {s0 : Int32} {S : mT} (hf : fX11_odds_90 false v5 s0 S = some (r, S')) (ok : Bool) : mW p l e (mR 21) s m args below meth c G 6 233 54500 (mQ below G args s false S' (some (.int r))) (ok, 90, [.retAddr 0, .retAddr 0, .retAddr 0, .retAddr 0, .retAddr 0, .int v5], [.int s0], mk false S) := by
  unfold fX11_odds_90 at hf
  obtain ⟨hok, hf⟩ := grd_ex hf
  refine msegT C kX11_odds 48 2 (g := ((decide (¬ v5 = 0) && true), 93, [.retAddr 0, .retAddr 0, .retAddr 0, .retAddr 0, .retAddr 0, .int v5], [.int (s0 / v5)], mk false S)) rfl hok ?_
  cases hf
  exact gret_i C hr hk (kX11_odds _ (List.mem_of_getElem? (i := 50) rfl)).1
theorem bX11_odds_0_f (C : mCx p (mR 21) s m args meth c G cX11_odds RX11 6 false 233 54500 233 54500) (hr : meth.sig.returnType = (some .int)) (hk : meth.locks = false) {S' : mT} {r : Int32} {v1 : Int32} {v2 : Int32} {v3 : Int32} {v4 : Int32} {S : mT} (hf : fX11_odds false v1 v2 v3 v4 S = some (r, S')) (ok : Bool) : mW p l e (mR 21) s m args below meth c G 6 233 54500 (mQ below G args s false S' (some (.int r))) (ok, 0, [.ref (0), .int v1, .int v2, .int v3, .int v4, .retAddr 0], [], mk false S) := by
  unfold fX11_odds at hf
  refine msegT C kX11_odds 0 2 (g := (true, 2, [.ref (0), .int v1, .int v2, .int v3, .int v4, .retAddr 0], [.int v1, .ref (0)], mk false S)) rfl rfl ?_
  obtain ⟨x2, S1, hq, hf⟩ := bndC_ex hf
  refine mcall (kd := 0) (vs := [.ref (0), .int v1]) (rest := []) (r := (some (.int x2))) (h' := mk false S1) (ok' := true) C lkRX11_124 (qX11_isHouse_f hq) (kX11_odds _ (List.mem_of_getElem? (i := 2) rfl)).1 ⟨_, _, rfl, rfl, Nat.le_of_ble_eq_true rfl, _, _, rfl, rfl, rfl⟩ (Nat.le_of_ble_eq_true rfl) (Nat.le_of_ble_eq_true rfl) (Nat.le_refl _) (Nat.le_refl _) (Nat.le_of_ble_eq_true rfl) ?_
  refine msegT C kX11_odds 3 1 (g := (true, (if x2 = 0 then 27 else 8), [.ref (0), .int v1, .int v2, .int v3, .int v4, .retAddr 0], [], mk false S1)) rfl rfl ?_
  by_cases hc : x2 = 0
  · rw [if_pos hc] at hf ⊢
    exact mfor (L' := [.retAddr 0, .retAddr 0, .retAddr 0, .retAddr 0, .retAddr 0, .retAddr 0]) ⟨Or.inl rfl, Or.inl rfl, Or.inl rfl, Or.inl rfl, Or.inl rfl, Or.inl rfl, trivial⟩ (bX11_odds_27_f C hr hk hf true)
  · rw [if_neg hc] at hf ⊢
    refine msegT C kX11_odds 4 3 (g := (true, 12, [.ref (0), .int v1, .int v2, .int v3, .int v4, .retAddr 0], [.int (7 : Int32), .int (0 : Int32), .int v2], mk false S1)) rfl rfl ?_
    obtain ⟨x4, S3, hq, hf⟩ := bndC_ex hf
    refine mcall (kd := 1) (vs := [.int v2, .int (0 : Int32), .int (7 : Int32)]) (rest := []) (r := (some (.int x4))) (h' := mk false S3) (ok' := true) C lkRX11_169 (qX11_isWithin hq) (kX11_odds _ (List.mem_of_getElem? (i := 7) rfl)).1 rfl (Nat.le_of_ble_eq_true rfl) (Nat.le_of_ble_eq_true rfl) (Nat.le_refl _) (Nat.le_refl _) (Nat.le_of_ble_eq_true rfl) ?_
    refine msegT C kX11_odds 8 1 (g := (true, (if x4 = 0 then 27 else 18), [.ref (0), .int v1, .int v2, .int v3, .int v4, .retAddr 0], [], mk false S3)) rfl rfl ?_
    by_cases hc : x4 = 0
    · rw [if_pos hc] at hf ⊢
      exact mfor (L' := [.retAddr 0, .retAddr 0, .retAddr 0, .retAddr 0, .retAddr 0, .retAddr 0]) ⟨Or.inl rfl, Or.inl rfl, Or.inl rfl, Or.inl rfl, Or.inl rfl, Or.inl rfl, trivial⟩ (bX11_odds_27_f C hr hk hf true)
    · rw [if_neg hc] at hf ⊢
      refine msegT C kX11_odds 9 3 (g := (true, 21, [.ref (0), .int v1, .int v2, .int v3, .int v4, .retAddr 0], [.int (1 : Int32), .int (0 : Int32), .int v3], mk false S3)) rfl rfl ?_
      obtain ⟨x6, S5, hq, hf⟩ := bndC_ex hf
      refine mcall (kd := 1) (vs := [.int v3, .int (0 : Int32), .int (1 : Int32)]) (rest := []) (r := (some (.int x6))) (h' := mk false S5) (ok' := true) C lkRX11_169 (qX11_isWithin hq) (kX11_odds _ (List.mem_of_getElem? (i := 12) rfl)).1 rfl (Nat.le_of_ble_eq_true rfl) (Nat.le_of_ble_eq_true rfl) (Nat.le_refl _) (Nat.le_refl _) (Nat.le_of_ble_eq_true rfl) ?_
      refine msegT C kX11_odds 13 1 (g := (true, (if x6 = 0 then 27 else 29), [.ref (0), .int v1, .int v2, .int v3, .int v4, .retAddr 0], [], mk false S5)) rfl rfl ?_
      by_cases hc : x6 = 0
      · rw [if_pos hc] at hf ⊢
        exact mfor (L' := [.retAddr 0, .retAddr 0, .retAddr 0, .retAddr 0, .retAddr 0, .retAddr 0]) ⟨Or.inl rfl, Or.inl rfl, Or.inl rfl, Or.inl rfl, Or.inl rfl, Or.inl rfl, trivial⟩ (bX11_odds_27_f C hr hk hf true)
      · rw [if_neg hc] at hf ⊢
        refine msegT C kX11_odds 16 2 (g := (true, 32, [.ref (0), .int v1, .int v2, .int v3, .int v4, .retAddr 0], [.int v4, .ref (0)], mk false S5)) rfl rfl ?_
        obtain ⟨S7, hq, hf⟩ := bndV_ex hf
        refine mcall (kd := 0) (vs := [.ref (0), .int v4]) (rest := []) (r := none) (h' := mk false S7) (ok' := true) C lkRX11_250 (qX11_learn_f hq) (kX11_odds _ (List.mem_of_getElem? (i := 18) rfl)).1 ⟨_, _, rfl, rfl, Nat.le_of_ble_eq_true rfl, _, _, rfl, rfl, rfl⟩ (Nat.le_of_ble_eq_true rfl) (Nat.le_of_ble_eq_true rfl) (Nat.le_refl _) (Nat.le_refl _) (Nat.le_of_ble_eq_true rfl) ?_
        obtain ⟨hok, hf⟩ := grd_ex hf
        refine msegT C kX11_odds 19 10 (g := ((kI (rowR 121 (mIx v1)) v2 && (kR 121 v1 && (kO 120 10 && (kO 0 11 && (kO 120 10 && (kO 0 11 && true)))))), 53, [.ref (0), .int v1, .int v2, .int v3, .int v4, .retAddr 0], [.int (S7.1 (rowR 121 (mIx v1)) (mIx v2)), .int (S7.1 120 8)], mk false S7)) rfl hok ?_
        obtain ⟨x9, S8, hq, hf⟩ := bndC_ex hf
        refine mcall (kd := 1) (vs := [.int (S7.1 120 8), .int (S7.1 (rowR 121 (mIx v1)) (mIx v2))]) (rest := []) (r := (some (.int x9))) (h' := mk false S8) (ok' := true) C lkRX11_292 (qX11_commonDivisor hq) (kX11_odds _ (List.mem_of_getElem? (i := 29) rfl)).1 rfl (Nat.le_of_ble_eq_true rfl) (Nat.le_of_ble_eq_true rfl) (Nat.le_refl _) (Nat.le_refl _) (Nat.le_of_ble_eq_true rfl) ?_
        refine msegT C kX11_odds 30 3 (g := (true, (if x9 = 0 then 63 else 65), [.ref (0), .int v1, .int v2, .int v3, .int v4, .int x9], [], mk false S8)) rfl rfl ?_
        by_cases hc : x9 = 0
        · rw [if_pos hc] at hf ⊢
          refine msegT C kX11_odds 33 1 (g := (true, 64, [.ref (0), .int v1, .int v2, .int v3, .int v4, .int x9], [.int (-1 : Int32)], mk false S8)) rfl rfl ?_
          cases hf
          exact gret_i C hr hk (kX11_odds _ (List.mem_of_getElem? (i := 34) rfl)).1
        · rw [if_neg hc] at hf ⊢
          refine msegT C kX11_odds 35 2 (g := (true, (if v3 = 0 then 69 else 83), [.ref (0), .int v1, .int v2, .int v3, .int v4, .int x9], [], mk false S8)) rfl rfl ?_
          by_cases hc : v3 = 0
          · rw [if_pos hc] at hf ⊢
            obtain ⟨hok, hf⟩ := grd_ex hf
            refine msegT C kX11_odds 37 8 (g := ((kI (rowR 121 (mIx v1)) v2 && (kR 121 v1 && (kO 120 10 && (kO 0 11 && true)))), 90, [.ref (0), .int v1, .int v2, .int v3, .int v4, .int x9], [.int (S8.1 (rowR 121 (mIx v1)) (mIx v2))], mk false S8)) rfl hok ?_
            exact mfor (L' := [.retAddr 0, .retAddr 0, .retAddr 0, .retAddr 0, .retAddr 0, .int x9]) ⟨Or.inl rfl, Or.inl rfl, Or.inl rfl, Or.inl rfl, Or.inl rfl, Or.inr rfl, trivial⟩ (bX11_odds_90_f C hr hk hf true)
          · rw [if_neg hc] at hf ⊢
            obtain ⟨hok, hf⟩ := grd_ex hf
            refine msegT C kX11_odds 45 3 (g := ((kO 120 10 && (kO 0 11 && true)), 90, [.ref (0), .int v1, .int v2, .int v3, .int v4, .int x9], [.int (S8.1 120 8)], mk false S8)) rfl hok ?_
            exact mfor (L' := [.retAddr 0, .retAddr 0, .retAddr 0, .retAddr 0, .retAddr 0, .int x9]) ⟨Or.inl rfl, Or.inl rfl, Or.inl rfl, Or.inl rfl, Or.inl rfl, Or.inr rfl, trivial⟩ (bX11_odds_90_f C hr hk hf true)
theorem qX11_odds_f {v1 : Int32} {v2 : Int32} {v3 : Int32} {v4 : Int32} {S S' : mT} {r : Int32} (hf : fX11_odds false v1 v2 v3 v4 S = some (r, S')) : mOk l mX11_odds 21 [.ref (0), .int v1, .int v2, .int v3, .int v4] false S (some (.int r)) S' :=
  gMet (by decide) (Nat.le_of_ble_eq_true rfl) rfl (Nat.le_of_ble_eq_true rfl) (fun p e s m args below meth c G C hr hk => bX11_odds_0_f C hr hk hf true)
theorem bX11_odds_27_t (C : mCx p (mR 21) s m args meth c G cX11_odds RX11 6 false 233 54500 233 54500) (hr : meth.sig.returnType = (some .int)) (hk : meth.locks = false) {S' : mT} {r : Int32} {S : mT} (hf : fX11_odds_27 true S = some (r, S')) (ok : Bool) : mW p l e (mR 21) s m args below meth c G 6 233 54500 (mQ below G args s true S' (some (.int r))) (ok, 27, [.retAddr 0, .retAddr 0, .retAddr 0, .retAddr 0, .retAddr 0, .retAddr 0], [], mk true S) := by
  unfold fX11_odds_27 at hf
  refine msegT C kX11_odds 14 1 (g := (true, 28, [.retAddr 0, .retAddr 0, .retAddr 0, .retAddr 0, .retAddr 0, .retAddr 0], [.int (-1 : Int32)], mk true S)) rfl rfl ?_
  cases hf
  exact gret_i C hr hk (kX11_odds _ (List.mem_of_getElem? (i := 15) rfl)).1
theorem bX11_odds_90_t (C : mCx p (mR 21) s m args meth c G cX11_odds RX11 6 false 233 54500 233 54500) (hr : meth.sig.returnType = (some .int)) (hk : meth.locks = false) {S' : mT} {r : Int32} {v5 : Int32} {s0 : Int32} {S : mT} (hf : fX11_odds_90 true v5 s0 S = some (r, S')) (ok : Bool) : mW p l e (mR 21) s m args below meth c G 6 233 54500 (mQ below G args s true S' (some (.int r))) (ok, 90, [.retAddr 0, .retAddr 0, .retAddr 0, .retAddr 0, .retAddr 0, .int v5], [.int s0], mk true S) := by
  unfold fX11_odds_90 at hf
  obtain ⟨hok, hf⟩ := grd_ex hf
  refine msegT C kX11_odds 48 2 (g := ((decide (¬ v5 = 0) && true), 93, [.retAddr 0, .retAddr 0, .retAddr 0, .retAddr 0, .retAddr 0, .int v5], [.int (s0 / v5)], mk true S)) rfl hok ?_
  cases hf
  exact gret_i C hr hk (kX11_odds _ (List.mem_of_getElem? (i := 50) rfl)).1
theorem bX11_odds_0_t (C : mCx p (mR 21) s m args meth c G cX11_odds RX11 6 false 233 54500 233 54500) (hr : meth.sig.returnType = (some .int)) (hk : meth.locks = false) {S' : mT} {r : Int32} {v1 : Int32} {v2 : Int32} {v3 : Int32} {v4 : Int32} {S : mT} (hf : fX11_odds true v1 v2 v3 v4 S = some (r, S')) (ok : Bool) : mW p l e (mR 21) s m args below meth c G 6 233 54500 (mQ below G args s true S' (some (.int r))) (ok, 0, [.ref (0), .int v1, .int v2, .int v3, .int v4, .retAddr 0], [], mk true S) := by
  unfold fX11_odds at hf
  refine msegT C kX11_odds 0 2 (g := (true, 2, [.ref (0), .int v1, .int v2, .int v3, .int v4, .retAddr 0], [.int v1, .ref (0)], mk true S)) rfl rfl ?_
  obtain ⟨x2, S1, hq, hf⟩ := bndC_ex hf
  refine mcall (kd := 0) (vs := [.ref (0), .int v1]) (rest := []) (r := (some (.int x2))) (h' := mk true S1) (ok' := true) C lkRX11_124 (qX11_isHouse_t hq) (kX11_odds _ (List.mem_of_getElem? (i := 2) rfl)).1 ⟨_, _, rfl, rfl, Nat.le_of_ble_eq_true rfl, _, _, rfl, rfl, rfl⟩ (Nat.le_of_ble_eq_true rfl) (Nat.le_of_ble_eq_true rfl) (Nat.le_refl _) (Nat.le_refl _) (Nat.le_of_ble_eq_true rfl) ?_
  refine msegT C kX11_odds 3 1 (g := (true, (if x2 = 0 then 27 else 8), [.ref (0), .int v1, .int v2, .int v3, .int v4, .retAddr 0], [], mk true S1)) rfl rfl ?_
  by_cases hc : x2 = 0
  · rw [if_pos hc] at hf ⊢
    exact mfor (L' := [.retAddr 0, .retAddr 0, .retAddr 0, .retAddr 0, .retAddr 0, .retAddr 0]) ⟨Or.inl rfl, Or.inl rfl, Or.inl rfl, Or.inl rfl, Or.inl rfl, Or.inl rfl, trivial⟩ (bX11_odds_27_t C hr hk hf true)
  · rw [if_neg hc] at hf ⊢
    refine msegT C kX11_odds 4 3 (g := (true, 12, [.ref (0), .int v1, .int v2, .int v3, .int v4, .retAddr 0], [.int (7 : Int32), .int (0 : Int32), .int v2], mk true S1)) rfl rfl ?_
    obtain ⟨x4, S3, hq, hf⟩ := bndC_ex hf
    refine mcall (kd := 1) (vs := [.int v2, .int (0 : Int32), .int (7 : Int32)]) (rest := []) (r := (some (.int x4))) (h' := mk true S3) (ok' := true) C lkRX11_169 (qX11_isWithin hq) (kX11_odds _ (List.mem_of_getElem? (i := 7) rfl)).1 rfl (Nat.le_of_ble_eq_true rfl) (Nat.le_of_ble_eq_true rfl) (Nat.le_refl _) (Nat.le_refl _) (Nat.le_of_ble_eq_true rfl) ?_
    refine msegT C kX11_odds 8 1 (g := (true, (if x4 = 0 then 27 else 18), [.ref (0), .int v1, .int v2, .int v3, .int v4, .retAddr 0], [], mk true S3)) rfl rfl ?_
    by_cases hc : x4 = 0
    · rw [if_pos hc] at hf ⊢
      exact mfor (L' := [.retAddr 0, .retAddr 0, .retAddr 0, .retAddr 0, .retAddr 0, .retAddr 0]) ⟨Or.inl rfl, Or.inl rfl, Or.inl rfl, Or.inl rfl, Or.inl rfl, Or.inl rfl, trivial⟩ (bX11_odds_27_t C hr hk hf true)
    · rw [if_neg hc] at hf ⊢
      refine msegT C kX11_odds 9 3 (g := (true, 21, [.ref (0), .int v1, .int v2, .int v3, .int v4, .retAddr 0], [.int (1 : Int32), .int (0 : Int32), .int v3], mk true S3)) rfl rfl ?_
      obtain ⟨x6, S5, hq, hf⟩ := bndC_ex hf
      refine mcall (kd := 1) (vs := [.int v3, .int (0 : Int32), .int (1 : Int32)]) (rest := []) (r := (some (.int x6))) (h' := mk true S5) (ok' := true) C lkRX11_169 (qX11_isWithin hq) (kX11_odds _ (List.mem_of_getElem? (i := 12) rfl)).1 rfl (Nat.le_of_ble_eq_true rfl) (Nat.le_of_ble_eq_true rfl) (Nat.le_refl _) (Nat.le_refl _) (Nat.le_of_ble_eq_true rfl) ?_
      refine msegT C kX11_odds 13 1 (g := (true, (if x6 = 0 then 27 else 29), [.ref (0), .int v1, .int v2, .int v3, .int v4, .retAddr 0], [], mk true S5)) rfl rfl ?_
      by_cases hc : x6 = 0
      · rw [if_pos hc] at hf ⊢
        exact mfor (L' := [.retAddr 0, .retAddr 0, .retAddr 0, .retAddr 0, .retAddr 0, .retAddr 0]) ⟨Or.inl rfl, Or.inl rfl, Or.inl rfl, Or.inl rfl, Or.inl rfl, Or.inl rfl, trivial⟩ (bX11_odds_27_t C hr hk hf true)
      · rw [if_neg hc] at hf ⊢
        refine msegT C kX11_odds 16 2 (g := (true, 32, [.ref (0), .int v1, .int v2, .int v3, .int v4, .retAddr 0], [.int v4, .ref (0)], mk true S5)) rfl rfl ?_
        obtain ⟨S7, hq, hf⟩ := bndV_ex hf
        refine mcall (kd := 0) (vs := [.ref (0), .int v4]) (rest := []) (r := none) (h' := mk true S7) (ok' := true) C lkRX11_250 (qX11_learn_t hq) (kX11_odds _ (List.mem_of_getElem? (i := 18) rfl)).1 ⟨_, _, rfl, rfl, Nat.le_of_ble_eq_true rfl, _, _, rfl, rfl, rfl⟩ (Nat.le_of_ble_eq_true rfl) (Nat.le_of_ble_eq_true rfl) (Nat.le_refl _) (Nat.le_refl _) (Nat.le_of_ble_eq_true rfl) ?_
        obtain ⟨hok, hf⟩ := grd_ex hf
        refine msegT C kX11_odds 19 10 (g := ((kI (rowR 121 (mIx v1)) v2 && (kR 121 v1 && (kO 120 10 && (kO 0 11 && (kO 120 10 && (kO 0 11 && true)))))), 53, [.ref (0), .int v1, .int v2, .int v3, .int v4, .retAddr 0], [.int (S7.1 (rowR 121 (mIx v1)) (mIx v2)), .int (S7.1 120 8)], mk true S7)) rfl hok ?_
        obtain ⟨x9, S8, hq, hf⟩ := bndC_ex hf
        refine mcall (kd := 1) (vs := [.int (S7.1 120 8), .int (S7.1 (rowR 121 (mIx v1)) (mIx v2))]) (rest := []) (r := (some (.int x9))) (h' := mk true S8) (ok' := true) C lkRX11_292 (qX11_commonDivisor hq) (kX11_odds _ (List.mem_of_getElem? (i := 29) rfl)).1 rfl (Nat.le_of_ble_eq_true rfl) (Nat.le_of_ble_eq_true rfl) (Nat.le_refl _) (Nat.le_refl _) (Nat.le_of_ble_eq_true rfl) ?_
        refine msegT C kX11_odds 30 3 (g := (true, (if x9 = 0 then 63 else 65), [.ref (0), .int v1, .int v2, .int v3, .int v4, .int x9], [], mk true S8)) rfl rfl ?_
        by_cases hc : x9 = 0
        · rw [if_pos hc] at hf ⊢
          refine msegT C kX11_odds 33 1 (g := (true, 64, [.ref (0), .int v1, .int v2, .int v3, .int v4, .int x9], [.int (-1 : Int32)], mk true S8)) rfl rfl ?_
          cases hf
          exact gret_i C hr hk (kX11_odds _ (List.mem_of_getElem? (i := 34) rfl)).1
        · rw [if_neg hc] at hf ⊢
          refine msegT C kX11_odds 35 2 (g := (true, (if v3 = 0 then 69 else 83), [.ref (0), .int v1, .int v2, .int v3, .int v4, .int x9], [], mk true S8)) rfl rfl ?_
          by_cases hc : v3 = 0
          · rw [if_pos hc] at hf ⊢
            obtain ⟨hok, hf⟩ := grd_ex hf
            refine msegT C kX11_odds 37 8 (g := ((kI (rowR 121 (mIx v1)) v2 && (kR 121 v1 && (kO 120 10 && (kO 0 11 && true)))), 90, [.ref (0), .int v1, .int v2, .int v3, .int v4, .int x9], [.int (S8.1 (rowR 121 (mIx v1)) (mIx v2))], mk true S8)) rfl hok ?_
            exact mfor (L' := [.retAddr 0, .retAddr 0, .retAddr 0, .retAddr 0, .retAddr 0, .int x9]) ⟨Or.inl rfl, Or.inl rfl, Or.inl rfl, Or.inl rfl, Or.inl rfl, Or.inr rfl, trivial⟩ (bX11_odds_90_t C hr hk hf true)
          · rw [if_neg hc] at hf ⊢
            obtain ⟨hok, hf⟩ := grd_ex hf
            refine msegT C kX11_odds 45 3 (g := ((kO 120 10 && (kO 0 11 && true)), 90, [.ref (0), .int v1, .int v2, .int v3, .int v4, .int x9], [.int (S8.1 120 8)], mk true S8)) rfl hok ?_
            exact mfor (L' := [.retAddr 0, .retAddr 0, .retAddr 0, .retAddr 0, .retAddr 0, .int x9]) ⟨Or.inl rfl, Or.inl rfl, Or.inl rfl, Or.inl rfl, Or.inl rfl, Or.inr rfl, trivial⟩ (bX11_odds_90_t C hr hk hf true)
theorem qX11_odds_t {v1 : Int32} {v2 : Int32} {v3 : Int32} {v4 : Int32} {S S' : mT} {r : Int32} (hf : fX11_odds true v1 v2 v3 v4 S = some (r, S')) : mOk l mX11_odds 21 [.ref (0), .int v1, .int v2, .int v3, .int v4] true S (some (.int r)) S' :=
  gMet (by decide) (Nat.le_of_ble_eq_true rfl) rfl (Nat.le_of_ble_eq_true rfl) (fun p e s m args below meth c G C hr hk => bX11_odds_0_t C hr hk hf true)
theorem bX11_range_17_f (C : mCx p (mR 21) s m args meth c G cX11_range RX11 4 false 233 54500 233 54500) (hr : meth.sig.returnType = (some .int)) (hk : meth.locks = false) {S' : mT} {r : Int32} {S : mT} (hf : fX11_range_17 false S = some (r, S')) (ok : Bool) : mW p l e (mR 21) s m args below meth c G 4 233 54500 (mQ below G args s false S' (some (.int r))) (ok, 17, [.retAddr 0, .retAddr 0, .retAddr 0, .retAddr 0], [], mk false S) := by
  unfold fX11_range_17 at hf
  refine msegT C kX11_range 9 1 (g := (true, 18, [.retAddr 0, .retAddr 0, .retAddr 0, .retAddr 0], [.int (-1 : Int32)], mk false S)) rfl rfl ?_
  cases hf
  exact gret_i C hr hk (kX11_range _ (List.mem_of_getElem? (i := 10) rfl)).1
theorem bX11_range_47_f (C : mCx p (mR 21) s m args meth c G cX11_range RX11 4 false 233 54500 233 54500) (hr : meth.sig.returnType = (some .int)) (hk : meth.locks = false) {S' : mT} {r : Int32} {s0 : Int32} {S : mT} (hf : fX11_range_47 false s0 S = some (r, S')) (ok : Bool) : mW p l e (mR 21) s m args below meth c G 4 233 54500 (mQ below G args s false S' (some (.int r))) (ok, 47, [.retAddr 0, .retAddr 0, .retAddr 0, .retAddr 0], [.int s0], mk false S) := by
  unfold fX11_range_47 at hf
  cases hf
  exact gret_i C hr hk (kX11_range _ (List.mem_of_getElem? (i := 25) rfl)).1
theorem bX11_range_0_f (C : mCx p (mR 21) s m args meth c G cX11_range RX11 4 false 233 54500 233 54500) (hr : meth.sig.returnType = (some .int)) (hk : meth.locks = false) {S' : mT} {r : Int32} {v1 : Int32} {v2 : Int32} {v3 : Int32} {S : mT} (hf : fX11_range false v1 v2 v3 S = some (r, S')) (ok : Bool) : mW p l e (mR 21) s m args below meth c G 4 233 54500 (mQ below G args s false S' (some (.int r))) (ok, 0, [.ref (0), .int v1, .int v2, .int v3], [], mk false S) := by
  unfold fX11_range at hf
  refine msegT C kX11_range 0 2 (g := (true, 2, [.ref (0), .int v1, .int v2, .int v3], [.int v1, .ref (0)], mk false S)) rfl rfl ?_
  obtain ⟨x2, S1, hq, hf⟩ := bndC_ex hf
  refine mcall (kd := 0) (vs := [.ref (0), .int v1]) (rest := []) (r := (some (.int x2))) (h' := mk false S1) (ok' := true) C lkRX11_124 (qX11_isHouse_f hq) (kX11_range _ (List.mem_of_getElem? (i := 2) rfl)).1 ⟨_, _, rfl, rfl, Nat.le_of_ble_eq_true rfl, _, _, rfl, rfl, rfl⟩ (Nat.le_of_ble_eq_true rfl) (Nat.le_of_ble_eq_true rfl) (Nat.le_refl _) (Nat.le_refl _) (Nat.le_of_ble_eq_true rfl) ?_
  refine msegT C kX11_range 3 1 (g := (true, (if x2 = 0 then 17 else 8), [.ref (0), .int v1, .int v2, .int v3], [], mk false S1)) rfl rfl ?_
  by_cases hc : x2 = 0
  · rw [if_pos hc] at hf ⊢
    exact mfor (L' := [.retAddr 0, .retAddr 0, .retAddr 0, .retAddr 0]) ⟨Or.inl rfl, Or.inl rfl, Or.inl rfl, Or.inl rfl, trivial⟩ (bX11_range_17_f C hr hk hf true)
  · rw [if_neg hc] at hf ⊢
    refine msegT C kX11_range 4 3 (g := (true, 11, [.ref (0), .int v1, .int v2, .int v3], [.int (1 : Int32), .int (0 : Int32), .int v2], mk false S1)) rfl rfl ?_
    obtain ⟨x4, S3, hq, hf⟩ := bndC_ex hf
    refine mcall (kd := 1) (vs := [.int v2, .int (0 : Int32), .int (1 : Int32)]) (rest := []) (r := (some (.int x4))) (h' := mk false S3) (ok' := true) C lkRX11_169 (qX11_isWithin hq) (kX11_range _ (List.mem_of_getElem? (i := 7) rfl)).1 rfl (Nat.le_of_ble_eq_true rfl) (Nat.le_of_ble_eq_true rfl) (Nat.le_refl _) (Nat.le_refl _) (Nat.le_of_ble_eq_true rfl) ?_
    refine msegT C kX11_range 8 1 (g := (true, (if x4 = 0 then 17 else 19), [.ref (0), .int v1, .int v2, .int v3], [], mk false S3)) rfl rfl ?_
    by_cases hc : x4 = 0
    · rw [if_pos hc] at hf ⊢
      exact mfor (L' := [.retAddr 0, .retAddr 0, .retAddr 0, .retAddr 0]) ⟨Or.inl rfl, Or.inl rfl, Or.inl rfl, Or.inl rfl, trivial⟩ (bX11_range_17_f C hr hk hf true)
    · rw [if_neg hc] at hf ⊢
      refine msegT C kX11_range 11 2 (g := (true, 21, [.ref (0), .int v1, .int v2, .int v3], [.int v3, .ref (0)], mk false S3)) rfl rfl ?_
      obtain ⟨S5, hq, hf⟩ := bndV_ex hf
      refine mcall (kd := 0) (vs := [.ref (0), .int v3]) (rest := []) (r := none) (h' := mk false S5) (ok' := true) C lkRX11_250 (qX11_learn_f hq) (kX11_range _ (List.mem_of_getElem? (i := 13) rfl)).1 ⟨_, _, rfl, rfl, Nat.le_of_ble_eq_true rfl, _, _, rfl, rfl, rfl⟩ (Nat.le_of_ble_eq_true rfl) (Nat.le_of_ble_eq_true rfl) (Nat.le_refl _) (Nat.le_refl _) (Nat.le_of_ble_eq_true rfl) ?_
      refine msegT C kX11_range 14 2 (g := (true, (if v2 = 0 then 28 else 39), [.ref (0), .int v1, .int v2, .int v3], [], mk false S5)) rfl rfl ?_
      by_cases hc : v2 = 0
      · rw [if_pos hc] at hf ⊢
        obtain ⟨hok, hf⟩ := grd_ex hf
        refine msegT C kX11_range 16 3 (g := ((kO 0 11 && true), 33, [.ref (0), .int v1, .int v2, .int v3], [.int v1, .ref 120], mk false S5)) rfl hok ?_
        obtain ⟨x7, S6, hq, hf⟩ := bndC_ex hf
        refine mcall (kd := 0) (vs := [.ref 120, .int v1]) (rest := []) (r := (some (.int x7))) (h' := mk false S6) (ok' := true) C lkRX11_256 (qX10_fewestIn hq) (kX11_range _ (List.mem_of_getElem? (i := 19) rfl)).1 ⟨_, _, rfl, rfl, Nat.le_of_ble_eq_true rfl, _, _, rfl, rfl, rfl⟩ (Nat.le_of_ble_eq_true rfl) (Nat.le_of_ble_eq_true rfl) (Nat.le_refl _) (Nat.le_refl _) (Nat.le_of_ble_eq_true rfl) ?_
        refine msegT C kX11_range 20 1 (g := (true, 47, [.ref (0), .int v1, .int v2, .int v3], [.int x7], mk false S6)) rfl rfl ?_
        exact mfor (L' := [.retAddr 0, .retAddr 0, .retAddr 0, .retAddr 0]) ⟨Or.inl rfl, Or.inl rfl, Or.inl rfl, Or.inl rfl, trivial⟩ (bX11_range_47_f C hr hk hf true)
      · rw [if_neg hc] at hf ⊢
        obtain ⟨hok, hf⟩ := grd_ex hf
        refine msegT C kX11_range 21 3 (g := ((kO 0 11 && true), 44, [.ref (0), .int v1, .int v2, .int v3], [.int v1, .ref 120], mk false S5)) rfl hok ?_
        obtain ⟨x9, S8, hq, hf⟩ := bndC_ex hf
        refine mcall (kd := 0) (vs := [.ref 120, .int v1]) (rest := []) (r := (some (.int x9))) (h' := mk false S8) (ok' := true) C lkRX11_259 (qX10_mostIn hq) (kX11_range _ (List.mem_of_getElem? (i := 24) rfl)).1 ⟨_, _, rfl, rfl, Nat.le_of_ble_eq_true rfl, _, _, rfl, rfl, rfl⟩ (Nat.le_of_ble_eq_true rfl) (Nat.le_of_ble_eq_true rfl) (Nat.le_refl _) (Nat.le_refl _) (Nat.le_of_ble_eq_true rfl) ?_
        exact mfor (L' := [.retAddr 0, .retAddr 0, .retAddr 0, .retAddr 0]) ⟨Or.inl rfl, Or.inl rfl, Or.inl rfl, Or.inl rfl, trivial⟩ (bX11_range_47_f C hr hk hf true)
theorem qX11_range_f {v1 : Int32} {v2 : Int32} {v3 : Int32} {S S' : mT} {r : Int32} (hf : fX11_range false v1 v2 v3 S = some (r, S')) : mOk l mX11_range 21 [.ref (0), .int v1, .int v2, .int v3] false S (some (.int r)) S' :=
  gMet (by decide) (Nat.le_of_ble_eq_true rfl) rfl (Nat.le_of_ble_eq_true rfl) (fun p e s m args below meth c G C hr hk => bX11_range_0_f C hr hk hf true)
theorem bX11_range_17_t (C : mCx p (mR 21) s m args meth c G cX11_range RX11 4 false 233 54500 233 54500) (hr : meth.sig.returnType = (some .int)) (hk : meth.locks = false) {S' : mT} {r : Int32} {S : mT} (hf : fX11_range_17 true S = some (r, S')) (ok : Bool) : mW p l e (mR 21) s m args below meth c G 4 233 54500 (mQ below G args s true S' (some (.int r))) (ok, 17, [.retAddr 0, .retAddr 0, .retAddr 0, .retAddr 0], [], mk true S) := by
  unfold fX11_range_17 at hf
  refine msegT C kX11_range 9 1 (g := (true, 18, [.retAddr 0, .retAddr 0, .retAddr 0, .retAddr 0], [.int (-1 : Int32)], mk true S)) rfl rfl ?_
  cases hf
  exact gret_i C hr hk (kX11_range _ (List.mem_of_getElem? (i := 10) rfl)).1
theorem bX11_range_47_t (C : mCx p (mR 21) s m args meth c G cX11_range RX11 4 false 233 54500 233 54500) (hr : meth.sig.returnType = (some .int)) (hk : meth.locks = false) {S' : mT} {r : Int32} {s0 : Int32} {S : mT} (hf : fX11_range_47 true s0 S = some (r, S')) (ok : Bool) : mW p l e (mR 21) s m args below meth c G 4 233 54500 (mQ below G args s true S' (some (.int r))) (ok, 47, [.retAddr 0, .retAddr 0, .retAddr 0, .retAddr 0], [.int s0], mk true S) := by
  unfold fX11_range_47 at hf
  cases hf
  exact gret_i C hr hk (kX11_range _ (List.mem_of_getElem? (i := 25) rfl)).1
theorem bX11_range_0_t (C : mCx p (mR 21) s m args meth c G cX11_range RX11 4 false 233 54500 233 54500) (hr : meth.sig.returnType = (some .int)) (hk : meth.locks = false) {S' : mT} {r : Int32} {v1 : Int32} {v2 : Int32} {v3 : Int32} {S : mT} (hf : fX11_range true v1 v2 v3 S = some (r, S')) (ok : Bool) : mW p l e (mR 21) s m args below meth c G 4 233 54500 (mQ below G args s true S' (some (.int r))) (ok, 0, [.ref (0), .int v1, .int v2, .int v3], [], mk true S) := by
  unfold fX11_range at hf
  refine msegT C kX11_range 0 2 (g := (true, 2, [.ref (0), .int v1, .int v2, .int v3], [.int v1, .ref (0)], mk true S)) rfl rfl ?_
  obtain ⟨x2, S1, hq, hf⟩ := bndC_ex hf
  refine mcall (kd := 0) (vs := [.ref (0), .int v1]) (rest := []) (r := (some (.int x2))) (h' := mk true S1) (ok' := true) C lkRX11_124 (qX11_isHouse_t hq) (kX11_range _ (List.mem_of_getElem? (i := 2) rfl)).1 ⟨_, _, rfl, rfl, Nat.le_of_ble_eq_true rfl, _, _, rfl, rfl, rfl⟩ (Nat.le_of_ble_eq_true rfl) (Nat.le_of_ble_eq_true rfl) (Nat.le_refl _) (Nat.le_refl _) (Nat.le_of_ble_eq_true rfl) ?_
  refine msegT C kX11_range 3 1 (g := (true, (if x2 = 0 then 17 else 8), [.ref (0), .int v1, .int v2, .int v3], [], mk true S1)) rfl rfl ?_
  by_cases hc : x2 = 0
  · rw [if_pos hc] at hf ⊢
    exact mfor (L' := [.retAddr 0, .retAddr 0, .retAddr 0, .retAddr 0]) ⟨Or.inl rfl, Or.inl rfl, Or.inl rfl, Or.inl rfl, trivial⟩ (bX11_range_17_t C hr hk hf true)
  · rw [if_neg hc] at hf ⊢
    refine msegT C kX11_range 4 3 (g := (true, 11, [.ref (0), .int v1, .int v2, .int v3], [.int (1 : Int32), .int (0 : Int32), .int v2], mk true S1)) rfl rfl ?_
    obtain ⟨x4, S3, hq, hf⟩ := bndC_ex hf
    refine mcall (kd := 1) (vs := [.int v2, .int (0 : Int32), .int (1 : Int32)]) (rest := []) (r := (some (.int x4))) (h' := mk true S3) (ok' := true) C lkRX11_169 (qX11_isWithin hq) (kX11_range _ (List.mem_of_getElem? (i := 7) rfl)).1 rfl (Nat.le_of_ble_eq_true rfl) (Nat.le_of_ble_eq_true rfl) (Nat.le_refl _) (Nat.le_refl _) (Nat.le_of_ble_eq_true rfl) ?_
    refine msegT C kX11_range 8 1 (g := (true, (if x4 = 0 then 17 else 19), [.ref (0), .int v1, .int v2, .int v3], [], mk true S3)) rfl rfl ?_
    by_cases hc : x4 = 0
    · rw [if_pos hc] at hf ⊢
      exact mfor (L' := [.retAddr 0, .retAddr 0, .retAddr 0, .retAddr 0]) ⟨Or.inl rfl, Or.inl rfl, Or.inl rfl, Or.inl rfl, trivial⟩ (bX11_range_17_t C hr hk hf true)
    · rw [if_neg hc] at hf ⊢
      refine msegT C kX11_range 11 2 (g := (true, 21, [.ref (0), .int v1, .int v2, .int v3], [.int v3, .ref (0)], mk true S3)) rfl rfl ?_
      obtain ⟨S5, hq, hf⟩ := bndV_ex hf
      refine mcall (kd := 0) (vs := [.ref (0), .int v3]) (rest := []) (r := none) (h' := mk true S5) (ok' := true) C lkRX11_250 (qX11_learn_t hq) (kX11_range _ (List.mem_of_getElem? (i := 13) rfl)).1 ⟨_, _, rfl, rfl, Nat.le_of_ble_eq_true rfl, _, _, rfl, rfl, rfl⟩ (Nat.le_of_ble_eq_true rfl) (Nat.le_of_ble_eq_true rfl) (Nat.le_refl _) (Nat.le_refl _) (Nat.le_of_ble_eq_true rfl) ?_
      refine msegT C kX11_range 14 2 (g := (true, (if v2 = 0 then 28 else 39), [.ref (0), .int v1, .int v2, .int v3], [], mk true S5)) rfl rfl ?_
      by_cases hc : v2 = 0
      · rw [if_pos hc] at hf ⊢
        obtain ⟨hok, hf⟩ := grd_ex hf
        refine msegT C kX11_range 16 3 (g := ((kO 0 11 && true), 33, [.ref (0), .int v1, .int v2, .int v3], [.int v1, .ref 120], mk true S5)) rfl hok ?_
        obtain ⟨x7, S6, hq, hf⟩ := bndC_ex hf
        refine mcall (kd := 0) (vs := [.ref 120, .int v1]) (rest := []) (r := (some (.int x7))) (h' := mk true S6) (ok' := true) C lkRX11_256 (qX10_fewestIn hq) (kX11_range _ (List.mem_of_getElem? (i := 19) rfl)).1 ⟨_, _, rfl, rfl, Nat.le_of_ble_eq_true rfl, _, _, rfl, rfl, rfl⟩ (Nat.le_of_ble_eq_true rfl) (Nat.le_of_ble_eq_true rfl) (Nat.le_refl _) (Nat.le_refl _) (Nat.le_of_ble_eq_true rfl) ?_
        refine msegT C kX11_range 20 1 (g := (true, 47, [.ref (0), .int v1, .int v2, .int v3], [.int x7], mk true S6)) rfl rfl ?_
        exact mfor (L' := [.retAddr 0, .retAddr 0, .retAddr 0, .retAddr 0]) ⟨Or.inl rfl, Or.inl rfl, Or.inl rfl, Or.inl rfl, trivial⟩ (bX11_range_47_t C hr hk hf true)
      · rw [if_neg hc] at hf ⊢
        obtain ⟨hok, hf⟩ := grd_ex hf
        refine msegT C kX11_range 21 3 (g := ((kO 0 11 && true), 44, [.ref (0), .int v1, .int v2, .int v3], [.int v1, .ref 120], mk true S5)) rfl hok ?_
        obtain ⟨x9, S8, hq, hf⟩ := bndC_ex hf
        refine mcall (kd := 0) (vs := [.ref 120, .int v1]) (rest := []) (r := (some (.int x9))) (h' := mk true S8) (ok' := true) C lkRX11_259 (qX10_mostIn hq) (kX11_range _ (List.mem_of_getElem? (i := 24) rfl)).1 ⟨_, _, rfl, rfl, Nat.le_of_ble_eq_true rfl, _, _, rfl, rfl, rfl⟩ (Nat.le_of_ble_eq_true rfl) (Nat.le_of_ble_eq_true rfl) (Nat.le_refl _) (Nat.le_refl _) (Nat.le_of_ble_eq_true rfl) ?_
        exact mfor (L' := [.retAddr 0, .retAddr 0, .retAddr 0, .retAddr 0]) ⟨Or.inl rfl, Or.inl rfl, Or.inl rfl, Or.inl rfl, trivial⟩ (bX11_range_47_t C hr hk hf true)
theorem qX11_range_t {v1 : Int32} {v2 : Int32} {v3 : Int32} {S S' : mT} {r : Int32} (hf : fX11_range true v1 v2 v3 S = some (r, S')) : mOk l mX11_range 21 [.ref (0), .int v1, .int v2, .int v3] true S (some (.int r)) S' :=
  gMet (by decide) (Nat.le_of_ble_eq_true rfl) rfl (Nat.le_of_ble_eq_true rfl) (fun p e s m args below meth c G C hr hk => bX11_range_0_t C hr hk hf true)
theorem bX2_copyTo_0 (C : mCx p (mR 1) s m args meth c G cX2_copyTo RX2 2 false 233 54500 233 54500) (hr : meth.sig.returnType = none) (hk : meth.locks = false) {b : Bool} {a1 : Nat} {S' : mT} {S : mT} (hf : fX2_copyTo a1 S = some S') (ok : Bool) : mW p l e (mR 1) s m args below meth c G 2 233 54500 (mQ below G args s b S' none) (ok, 0, [.ref (37), .ref a1], [], mk b S) := by
  unfold fX2_copyTo at hf
  obtain ⟨hok, hf⟩ := grd_ex hf
  refine msegT C kX2_copyTo 0 10 (g := ((kR 38 (((S.1 37 3) + (S.1 37 4)) - ((S.1 37 3) + (S.1 37 4)) / (41 : Int32) * (41 : Int32)) && (decide (¬ (41 : Int32) = 0) && (kO 37 2 && (kO 37 2 && (kO 37 2 && true))))), 17, [.ref (37), .ref a1], [.ref (rowR 38 (mIx (((S.1 37 3) + (S.1 37 4)) - ((S.1 37 3) + (S.1 37 4)) / (41 : Int32) * (41 : Int32))))], mk b S)) rfl hok ?_
  obtain ⟨hok, hf⟩ := grd_ex hf
  refine msegT C kX2_copyTo 10 5 (g := ((kC (rowR 38 (mIx (((S.1 37 3) + (S.1 37 4)) - ((S.1 37 3) + (S.1 37 4)) / (41 : Int32) * (41 : Int32)))) a1 (0 : Int32) (0 : Int32) (17 : Int32) && true), 25, [.ref (37), .ref a1], [], mk b (sC S (rowR 38 (mIx (((S.1 37 3) + (S.1 37 4)) - ((S.1 37 3) + (S.1 37 4)) / (41 : Int32) * (41 : Int32)))) a1 (0 : Int32) (0 : Int32) (17 : Int32)))) rfl hok ?_
  obtain ⟨S1, eS1, hf⟩ := bnd_ex hf
  rw [← eS1]
  cases hf
  exact gret_v C hr hk (kX2_copyTo _ (List.mem_of_getElem? (i := 15) rfl)).1
theorem qX2_copyTo {b : Bool} {a1 : Nat} {S S' : mT} (hf : fX2_copyTo a1 S = some S') : mOk l mX2_copyTo 1 [.ref (37), .ref a1] b S none S' :=
  gMet (by decide) (Nat.le_of_ble_eq_true rfl) rfl (Nat.le_of_ble_eq_true rfl) (fun p e s m args below meth c G C hr hk => bX2_copyTo_0 C hr hk hf true)
theorem bX2_stepOn_0 (C : mCx p (mR 2) s m args meth c G cX2_stepOn RX2 2 false 233 54500 233 54500) (hr : meth.sig.returnType = (some .boolean)) (hk : meth.locks = false) {b : Bool} {a1 : Nat} {S' : mT} {r : Int32} {S : mT} (hf : fX2_stepOn a1 S = some (r, S')) (ok : Bool) : mW p l e (mR 2) s m args below meth c G 2 233 54500 (mQ below G args s b S' (some (.int r))) (ok, 0, [.ref (37), .ref a1], [], mk b S) := by
  unfold fX2_stepOn at hf
  obtain ⟨hok, hf⟩ := grd_ex hf
  refine msegT C kX2_stepOn 0 3 (g := ((kO 37 2 && true), (if 0 < (S.1 37 5) then 9 else 7), [.ref (37), .ref a1], [], mk b S)) rfl hok ?_
  by_cases hc : 0 < (S.1 37 5)
  · rw [if_pos hc] at hf ⊢
    obtain ⟨hok, hf⟩ := grd_ex hf
    refine msegT C kX2_stepOn 5 6 (g := ((kO 37 2 && (kO 37 2 && true)), 19, [.ref (37), .ref a1], [], mk b (sI S 37 4 ((S.1 37 4) + (1 : Int32))))) rfl hok ?_
    obtain ⟨S1, eS1, hf⟩ := bnd_ex hf
    rw [← eS1]
    obtain ⟨hok, hf⟩ := grd_ex hf
    refine msegT C kX2_stepOn 11 6 (g := ((kO 37 2 && (kO 37 2 && true)), 29, [.ref (37), .ref a1], [], mk b (sI S1 37 5 ((S1.1 37 5) - (1 : Int32))))) rfl hok ?_
    obtain ⟨S2, eS2, hf⟩ := bnd_ex hf
    rw [← eS2]
    refine msegT C kX2_stepOn 17 2 (g := (true, 31, [.ref (37), .ref a1], [.ref a1, .ref (37)], mk b S2)) rfl rfl ?_
    obtain ⟨S3, hq, hf⟩ := bndV_ex hf
    refine mcall (kd := 0) (vs := [.ref (37), .ref a1]) (rest := []) (r := none) (h' := mk b S3) (ok' := true) C lkRX2_37 (qX2_copyTo hq) (kX2_stepOn _ (List.mem_of_getElem? (i := 19) rfl)).1 ⟨_, _, rfl, rfl, Nat.le_of_ble_eq_true rfl, _, _, rfl, rfl, rfl⟩ (Nat.le_of_ble_eq_true rfl) (Nat.le_of_ble_eq_true rfl) (Nat.le_refl _) (Nat.le_refl _) (Nat.le_of_ble_eq_true rfl) ?_
    refine msegT C kX2_stepOn 20 1 (g := (true, 35, [.ref (37), .ref a1], [.int (1 : Int32)], mk b S3)) rfl rfl ?_
    cases hf
    exact gret_z C hr hk (by decide) (kX2_stepOn _ (List.mem_of_getElem? (i := 21) rfl)).1
  · rw [if_neg hc] at hf ⊢
    refine msegT C kX2_stepOn 3 1 (g := (true, 8, [.ref (37), .ref a1], [.int (0 : Int32)], mk b S)) rfl rfl ?_
    cases hf
    exact gret_z C hr hk (by decide) (kX2_stepOn _ (List.mem_of_getElem? (i := 4) rfl)).1
theorem qX2_stepOn {b : Bool} {a1 : Nat} {S S' : mT} {r : Int32} (hf : fX2_stepOn a1 S = some (r, S')) : mOk l mX2_stepOn 2 [.ref (37), .ref a1] b S (some (.int r)) S' :=
  gMet (by decide) (Nat.le_of_ble_eq_true rfl) rfl (Nat.le_of_ble_eq_true rfl) (fun p e s m args below meth c G C hr hk => bX2_stepOn_0 C hr hk hf true)
theorem bX11_redo_0 (C : mCx p (mR 3) s m args meth c G cX11_redo RX11 1 false 233 54500 233 54500) (hr : meth.sig.returnType = (some .boolean)) (hk : meth.locks = false) {b : Bool} {S' : mT} {r : Int32} {S : mT} (hf : fX11_redo S = some (r, S')) (ok : Bool) : mW p l e (mR 3) s m args below meth c G 1 233 54500 (mQ below G args s b S' (some (.int r))) (ok, 0, [.ref (0)], [], mk b S) := by
  unfold fX11_redo at hf
  obtain ⟨hok, hf⟩ := grd_ex hf
  refine msegT C kX11_redo 0 4 (g := ((kO 0 11 && (kO 0 11 && true)), 8, [.ref (0)], [.ref 35, .ref 37], mk b S)) rfl hok ?_
  obtain ⟨x2, S1, hq, hf⟩ := bndC_ex hf
  refine mcall (kd := 0) (vs := [.ref 37, .ref 35]) (rest := []) (r := (some (.int x2))) (h' := mk b S1) (ok' := true) C lkRX11_166 (qX2_stepOn hq) (kX11_redo _ (List.mem_of_getElem? (i := 4) rfl)).1 ⟨_, _, rfl, rfl, Nat.le_of_ble_eq_true rfl, _, _, rfl, rfl, rfl⟩ (Nat.le_of_ble_eq_true rfl) (Nat.le_of_ble_eq_true rfl) (Nat.le_refl _) (Nat.le_refl _) (Nat.le_of_ble_eq_true rfl) ?_
  obtain ⟨hz, hf⟩ := grd_ex hf
  cases hf
  exact gret_z C hr hk (mFit_nar hz) (kX11_redo _ (List.mem_of_getElem? (i := 5) rfl)).1
theorem qX11_redo {b : Bool} {S S' : mT} {r : Int32} (hf : fX11_redo S = some (r, S')) : mOk l mX11_redo 3 [.ref (0)] b S (some (.int r)) S' :=
  gMet (by decide) (Nat.le_of_ble_eq_true rfl) rfl (Nat.le_of_ble_eq_true rfl) (fun p e s m args below meth c G C hr hk => bX11_redo_0 C hr hk hf true)
theorem bX5_add_0 (C : mCx p (mR 1) s m args meth c G cX5_add RX5 5 false 233 54500 233 54500) (hr : meth.sig.returnType = (some .int)) (hk : meth.locks = false) {b : Bool} {S' : mT} {r : Int32} {v1 : Int32} {v2 : Int32} {v3 : Int32} {v4 : Int32} {S : mT} (hf : fX5_add v1 v2 v3 v4 S = some (r, S')) (ok : Bool) : mW p l e (mR 1) s m args below meth c G 5 233 54500 (mQ below G args s b S' (some (.int r))) (ok, 0, [.ref (114), .int v1, .int v2, .int v3, .int v4], [], mk b S) := by
  unfold fX5_add at hf
  obtain ⟨hok, hf⟩ := grd_ex hf
  refine msegT C kX5_add 0 4 (g := ((kO 114 5 && true), (if (S.1 114 5) < (30 : Int32) then 11 else 9), [.ref (114), .int v1, .int v2, .int v3, .int v4], [], mk b S)) rfl hok ?_
  by_cases hc : (S.1 114 5) < (30 : Int32)
  · rw [if_pos hc] at hf ⊢
    obtain ⟨hok, hf⟩ := grd_ex hf
    refine msegT C kX5_add 6 6 (g := ((kI 115 (S.1 114 5) && (kO 114 5 && (kO 114 5 && true))), 21, [.ref (114), .int v1, .int v2, .int v3, .int v4], [], mk b (sI S 115 (mIx (S.1 114 5)) v1))) rfl hok ?_
    obtain ⟨S1, eS1, hf⟩ := bnd_ex hf
    rw [← eS1]
    obtain ⟨hok, hf⟩ := grd_ex hf
    refine msegT C kX5_add 12 6 (g := ((kI 116 (S1.1 114 5) && (kO 114 5 && (kO 114 5 && true))), 31, [.ref (114), .int v1, .int v2, .int v3, .int v4], [], mk b (sI S1 116 (mIx (S1.1 114 5)) v2))) rfl hok ?_
    obtain ⟨S2, eS2, hf⟩ := bnd_ex hf
    rw [← eS2]
    obtain ⟨hok, hf⟩ := grd_ex hf
    refine msegT C kX5_add 18 6 (g := ((kI 117 (S2.1 114 5) && (kO 114 5 && (kO 114 5 && true))), 41, [.ref (114), .int v1, .int v2, .int v3, .int v4], [], mk b (sI S2 117 (mIx (S2.1 114 5)) v3))) rfl hok ?_
    obtain ⟨S3, eS3, hf⟩ := bnd_ex hf
    rw [← eS3]
    obtain ⟨hok, hf⟩ := grd_ex hf
    refine msegT C kX5_add 24 6 (g := ((kI 118 (S3.1 114 5) && (kO 114 5 && (kO 114 5 && true))), 52, [.ref (114), .int v1, .int v2, .int v3, .int v4], [], mk b (sI S3 118 (mIx (S3.1 114 5)) v4))) rfl hok ?_
    obtain ⟨S4, eS4, hf⟩ := bnd_ex hf
    rw [← eS4]
    obtain ⟨hok, hf⟩ := grd_ex hf
    refine msegT C kX5_add 30 6 (g := ((kI 119 (S4.1 114 5) && (kO 114 5 && (kO 114 5 && true))), 62, [.ref (114), .int v1, .int v2, .int v3, .int v4], [], mk b (sI S4 119 (mIx (S4.1 114 5)) (-1 : Int32)))) rfl hok ?_
    obtain ⟨S5, eS5, hf⟩ := bnd_ex hf
    rw [← eS5]
    obtain ⟨hok, hf⟩ := grd_ex hf
    refine msegT C kX5_add 36 6 (g := ((kO 114 5 && (kO 114 5 && true)), 72, [.ref (114), .int v1, .int v2, .int v3, .int v4], [], mk b (sI S5 114 5 ((S5.1 114 5) + (1 : Int32))))) rfl hok ?_
    obtain ⟨S6, eS6, hf⟩ := bnd_ex hf
    rw [← eS6]
    obtain ⟨hok, hf⟩ := grd_ex hf
    refine msegT C kX5_add 42 4 (g := ((kO 114 5 && true), 78, [.ref (114), .int v1, .int v2, .int v3, .int v4], [.int ((S6.1 114 5) - (1 : Int32))], mk b S6)) rfl hok ?_
    cases hf
    exact gret_i C hr hk (kX5_add _ (List.mem_of_getElem? (i := 46) rfl)).1
  · rw [if_neg hc] at hf ⊢
    refine msegT C kX5_add 4 1 (g := (true, 10, [.ref (114), .int v1, .int v2, .int v3, .int v4], [.int (-1 : Int32)], mk b S)) rfl rfl ?_
    cases hf
    exact gret_i C hr hk (kX5_add _ (List.mem_of_getElem? (i := 5) rfl)).1
theorem qX5_add {b : Bool} {v1 : Int32} {v2 : Int32} {v3 : Int32} {v4 : Int32} {S S' : mT} {r : Int32} (hf : fX5_add v1 v2 v3 v4 S = some (r, S')) : mOk l mX5_add 1 [.ref (114), .int v1, .int v2, .int v3, .int v4] b S (some (.int r)) S' :=
  gMet (by decide) (Nat.le_of_ble_eq_true rfl) rfl (Nat.le_of_ble_eq_true rfl) (fun p e s m args below meth c G C hr hk => bX5_add_0 C hr hk hf true)
theorem bX11_report_41_f (C : mCx p (mR 2) s m args meth c G cX11_report RX11 4 false 233 54500 233 54500) (hr : meth.sig.returnType = (some .int)) (hk : meth.locks = false) {S' : mT} {r : Int32} {S : mT} (hf : fX11_report_41 false S = some (r, S')) (ok : Bool) : mW p l e (mR 2) s m args below meth c G 4 233 54500 (mQ below G args s false S' (some (.int r))) (ok, 41, [.retAddr 0, .retAddr 0, .retAddr 0, .retAddr 0], [], mk false S) := by
  unfold fX11_report_41 at hf
  refine msegT C kX11_report 23 1 (g := (true, 42, [.retAddr 0, .retAddr 0, .retAddr 0, .retAddr 0], [.int (-1 : Int32)], mk false S)) rfl rfl ?_
  cases hf
  exact gret_i C hr hk (kX11_report _ (List.mem_of_getElem? (i := 24) rfl)).1
theorem bX11_report_0_f (C : mCx p (mR 2) s m args meth c G cX11_report RX11 4 false 233 54500 233 54500) (hr : meth.sig.returnType = (some .int)) (hk : meth.locks = false) {S' : mT} {r : Int32} {v1 : Int32} {v2 : Int32} {v3 : Int32} {S : mT} (hf : fX11_report false v1 v2 v3 S = some (r, S')) (ok : Bool) : mW p l e (mR 2) s m args below meth c G 4 233 54500 (mQ below G args s false S' (some (.int r))) (ok, 0, [.ref (0), .int v1, .int v2, .int v3], [], mk false S) := by
  unfold fX11_report at hf
  obtain ⟨hok, hf⟩ := grd_ex hf
  refine msegT C kX11_report 0 9 (g := ((kO (shU false) 8 && (kO 0 11 && true)), 13, [.ref (0), .int v1, .int v2, .int v3], [.int (((1 : Int32) <<< ((S.1 (shU false) 9) &&& 31)) - (1 : Int32)), .int (1 : Int32), .int v1], mk false S)) rfl hok ?_
  obtain ⟨x2, S1, hq, hf⟩ := bndC_ex hf
  refine mcall (kd := 1) (vs := [.int v1, .int (1 : Int32), .int (((1 : Int32) <<< ((S.1 (shU false) 9) &&& 31)) - (1 : Int32))]) (rest := []) (r := (some (.int x2))) (h' := mk false S1) (ok' := true) C lkRX11_169 (qX11_isWithin hq) (kX11_report _ (List.mem_of_getElem? (i := 9) rfl)).1 rfl (Nat.le_of_ble_eq_true rfl) (Nat.le_of_ble_eq_true rfl) (Nat.le_refl _) (Nat.le_refl _) (Nat.le_of_ble_eq_true rfl) ?_
  refine msegT C kX11_report 10 1 (g := (true, (if x2 = 0 then 19 else 21), [.ref (0), .int v1, .int v2, .int v3], [], mk false S1)) rfl rfl ?_
  by_cases hc : x2 = 0
  · rw [if_pos hc] at hf ⊢
    refine msegT C kX11_report 11 1 (g := (true, 20, [.ref (0), .int v1, .int v2, .int v3], [.int (-1 : Int32)], mk false S1)) rfl rfl ?_
    cases hf
    exact gret_i C hr hk (kX11_report _ (List.mem_of_getElem? (i := 12) rfl)).1
  · rw [if_neg hc] at hf ⊢
    refine msegT C kX11_report 13 3 (g := (true, 25, [.ref (0), .int v1, .int v2, .int v3], [.int (35 : Int32), .int (0 : Int32), .int v2], mk false S1)) rfl rfl ?_
    obtain ⟨x4, S3, hq, hf⟩ := bndC_ex hf
    refine mcall (kd := 1) (vs := [.int v2, .int (0 : Int32), .int (35 : Int32)]) (rest := []) (r := (some (.int x4))) (h' := mk false S3) (ok' := true) C lkRX11_169 (qX11_isWithin hq) (kX11_report _ (List.mem_of_getElem? (i := 16) rfl)).1 rfl (Nat.le_of_ble_eq_true rfl) (Nat.le_of_ble_eq_true rfl) (Nat.le_refl _) (Nat.le_refl _) (Nat.le_of_ble_eq_true rfl) ?_
    refine msegT C kX11_report 17 1 (g := (true, (if x4 = 0 then 41 else 31), [.ref (0), .int v1, .int v2, .int v3], [], mk false S3)) rfl rfl ?_
    by_cases hc : x4 = 0
    · rw [if_pos hc] at hf ⊢
      exact mfor (L' := [.retAddr 0, .retAddr 0, .retAddr 0, .retAddr 0]) ⟨Or.inl rfl, Or.inl rfl, Or.inl rfl, Or.inl rfl, trivial⟩ (bX11_report_41_f C hr hk hf true)
    · rw [if_neg hc] at hf ⊢
      refine msegT C kX11_report 18 3 (g := (true, 35, [.ref (0), .int v1, .int v2, .int v3], [.int (35 : Int32), .int v2, .int v3], mk false S3)) rfl rfl ?_
      obtain ⟨x6, S5, hq, hf⟩ := bndC_ex hf
      refine mcall (kd := 1) (vs := [.int v3, .int v2, .int (35 : Int32)]) (rest := []) (r := (some (.int x6))) (h' := mk false S5) (ok' := true) C lkRX11_169 (qX11_isWithin hq) (kX11_report _ (List.mem_of_getElem? (i := 21) rfl)).1 rfl (Nat.le_of_ble_eq_true rfl) (Nat.le_of_ble_eq_true rfl) (Nat.le_refl _) (Nat.le_refl _) (Nat.le_of_ble_eq_true rfl) ?_
      refine msegT C kX11_report 22 1 (g := (true, (if x6 = 0 then 41 else 43), [.ref (0), .int v1, .int v2, .int v3], [], mk false S5)) rfl rfl ?_
      by_cases hc : x6 = 0
      · rw [if_pos hc] at hf ⊢
        exact mfor (L' := [.retAddr 0, .retAddr 0, .retAddr 0, .retAddr 0]) ⟨Or.inl rfl, Or.inl rfl, Or.inl rfl, Or.inl rfl, trivial⟩ (bX11_report_41_f C hr hk hf true)
      · rw [if_neg hc] at hf ⊢
        obtain ⟨hok, hf⟩ := grd_ex hf
        refine msegT C kX11_report 25 7 (g := ((kO 0 11 && (kO 0 11 && true)), 54, [.ref (0), .int v1, .int v2, .int v3], [.int (S5.1 0 14), .int v3, .int v2, .int v1, .ref 114], mk false S5)) rfl hok ?_
        obtain ⟨x8, S7, hq, hf⟩ := bndC_ex hf
        refine mcall (kd := 0) (vs := [.ref 114, .int v1, .int v2, .int v3, .int (S5.1 0 14)]) (rest := []) (r := (some (.int x8))) (h' := mk false S7) (ok' := true) C lkRX11_241 (qX5_add hq) (kX11_report _ (List.mem_of_getElem? (i := 32) rfl)).1 ⟨_, _, rfl, rfl, Nat.le_of_ble_eq_true rfl, _, _, rfl, rfl, rfl⟩ (Nat.le_of_ble_eq_true rfl) (Nat.le_of_ble_eq_true rfl) (Nat.le_refl _) (Nat.le_refl _) (Nat.le_of_ble_eq_true rfl) ?_
        cases hf
        exact gret_i C hr hk (kX11_report _ (List.mem_of_getElem? (i := 33) rfl)).1
theorem qX11_report_f {v1 : Int32} {v2 : Int32} {v3 : Int32} {S S' : mT} {r : Int32} (hf : fX11_report false v1 v2 v3 S = some (r, S')) : mOk l mX11_report 2 [.ref (0), .int v1, .int v2, .int v3] false S (some (.int r)) S' :=
  gMet (by decide) (Nat.le_of_ble_eq_true rfl) rfl (Nat.le_of_ble_eq_true rfl) (fun p e s m args below meth c G C hr hk => bX11_report_0_f C hr hk hf true)
theorem bX11_report_41_t (C : mCx p (mR 2) s m args meth c G cX11_report RX11 4 false 233 54500 233 54500) (hr : meth.sig.returnType = (some .int)) (hk : meth.locks = false) {S' : mT} {r : Int32} {S : mT} (hf : fX11_report_41 true S = some (r, S')) (ok : Bool) : mW p l e (mR 2) s m args below meth c G 4 233 54500 (mQ below G args s true S' (some (.int r))) (ok, 41, [.retAddr 0, .retAddr 0, .retAddr 0, .retAddr 0], [], mk true S) := by
  unfold fX11_report_41 at hf
  refine msegT C kX11_report 23 1 (g := (true, 42, [.retAddr 0, .retAddr 0, .retAddr 0, .retAddr 0], [.int (-1 : Int32)], mk true S)) rfl rfl ?_
  cases hf
  exact gret_i C hr hk (kX11_report _ (List.mem_of_getElem? (i := 24) rfl)).1
theorem bX11_report_0_t (C : mCx p (mR 2) s m args meth c G cX11_report RX11 4 false 233 54500 233 54500) (hr : meth.sig.returnType = (some .int)) (hk : meth.locks = false) {S' : mT} {r : Int32} {v1 : Int32} {v2 : Int32} {v3 : Int32} {S : mT} (hf : fX11_report true v1 v2 v3 S = some (r, S')) (ok : Bool) : mW p l e (mR 2) s m args below meth c G 4 233 54500 (mQ below G args s true S' (some (.int r))) (ok, 0, [.ref (0), .int v1, .int v2, .int v3], [], mk true S) := by
  unfold fX11_report at hf
  obtain ⟨hok, hf⟩ := grd_ex hf
  refine msegT C kX11_report 0 9 (g := ((kO (shU true) 8 && (kO 0 11 && true)), 13, [.ref (0), .int v1, .int v2, .int v3], [.int (((1 : Int32) <<< ((S.1 (shU true) 9) &&& 31)) - (1 : Int32)), .int (1 : Int32), .int v1], mk true S)) rfl hok ?_
  obtain ⟨x2, S1, hq, hf⟩ := bndC_ex hf
  refine mcall (kd := 1) (vs := [.int v1, .int (1 : Int32), .int (((1 : Int32) <<< ((S.1 (shU true) 9) &&& 31)) - (1 : Int32))]) (rest := []) (r := (some (.int x2))) (h' := mk true S1) (ok' := true) C lkRX11_169 (qX11_isWithin hq) (kX11_report _ (List.mem_of_getElem? (i := 9) rfl)).1 rfl (Nat.le_of_ble_eq_true rfl) (Nat.le_of_ble_eq_true rfl) (Nat.le_refl _) (Nat.le_refl _) (Nat.le_of_ble_eq_true rfl) ?_
  refine msegT C kX11_report 10 1 (g := (true, (if x2 = 0 then 19 else 21), [.ref (0), .int v1, .int v2, .int v3], [], mk true S1)) rfl rfl ?_
  by_cases hc : x2 = 0
  · rw [if_pos hc] at hf ⊢
    refine msegT C kX11_report 11 1 (g := (true, 20, [.ref (0), .int v1, .int v2, .int v3], [.int (-1 : Int32)], mk true S1)) rfl rfl ?_
    cases hf
    exact gret_i C hr hk (kX11_report _ (List.mem_of_getElem? (i := 12) rfl)).1
  · rw [if_neg hc] at hf ⊢
    refine msegT C kX11_report 13 3 (g := (true, 25, [.ref (0), .int v1, .int v2, .int v3], [.int (35 : Int32), .int (0 : Int32), .int v2], mk true S1)) rfl rfl ?_
    obtain ⟨x4, S3, hq, hf⟩ := bndC_ex hf
    refine mcall (kd := 1) (vs := [.int v2, .int (0 : Int32), .int (35 : Int32)]) (rest := []) (r := (some (.int x4))) (h' := mk true S3) (ok' := true) C lkRX11_169 (qX11_isWithin hq) (kX11_report _ (List.mem_of_getElem? (i := 16) rfl)).1 rfl (Nat.le_of_ble_eq_true rfl) (Nat.le_of_ble_eq_true rfl) (Nat.le_refl _) (Nat.le_refl _) (Nat.le_of_ble_eq_true rfl) ?_
    refine msegT C kX11_report 17 1 (g := (true, (if x4 = 0 then 41 else 31), [.ref (0), .int v1, .int v2, .int v3], [], mk true S3)) rfl rfl ?_
    by_cases hc : x4 = 0
    · rw [if_pos hc] at hf ⊢
      exact mfor (L' := [.retAddr 0, .retAddr 0, .retAddr 0, .retAddr 0]) ⟨Or.inl rfl, Or.inl rfl, Or.inl rfl, Or.inl rfl, trivial⟩ (bX11_report_41_t C hr hk hf true)
    · rw [if_neg hc] at hf ⊢
      refine msegT C kX11_report 18 3 (g := (true, 35, [.ref (0), .int v1, .int v2, .int v3], [.int (35 : Int32), .int v2, .int v3], mk true S3)) rfl rfl ?_
      obtain ⟨x6, S5, hq, hf⟩ := bndC_ex hf
      refine mcall (kd := 1) (vs := [.int v3, .int v2, .int (35 : Int32)]) (rest := []) (r := (some (.int x6))) (h' := mk true S5) (ok' := true) C lkRX11_169 (qX11_isWithin hq) (kX11_report _ (List.mem_of_getElem? (i := 21) rfl)).1 rfl (Nat.le_of_ble_eq_true rfl) (Nat.le_of_ble_eq_true rfl) (Nat.le_refl _) (Nat.le_refl _) (Nat.le_of_ble_eq_true rfl) ?_
      refine msegT C kX11_report 22 1 (g := (true, (if x6 = 0 then 41 else 43), [.ref (0), .int v1, .int v2, .int v3], [], mk true S5)) rfl rfl ?_
      by_cases hc : x6 = 0
      · rw [if_pos hc] at hf ⊢
        exact mfor (L' := [.retAddr 0, .retAddr 0, .retAddr 0, .retAddr 0]) ⟨Or.inl rfl, Or.inl rfl, Or.inl rfl, Or.inl rfl, trivial⟩ (bX11_report_41_t C hr hk hf true)
      · rw [if_neg hc] at hf ⊢
        obtain ⟨hok, hf⟩ := grd_ex hf
        refine msegT C kX11_report 25 7 (g := ((kO 0 11 && (kO 0 11 && true)), 54, [.ref (0), .int v1, .int v2, .int v3], [.int (S5.1 0 14), .int v3, .int v2, .int v1, .ref 114], mk true S5)) rfl hok ?_
        obtain ⟨x8, S7, hq, hf⟩ := bndC_ex hf
        refine mcall (kd := 0) (vs := [.ref 114, .int v1, .int v2, .int v3, .int (S5.1 0 14)]) (rest := []) (r := (some (.int x8))) (h' := mk true S7) (ok' := true) C lkRX11_241 (qX5_add hq) (kX11_report _ (List.mem_of_getElem? (i := 32) rfl)).1 ⟨_, _, rfl, rfl, Nat.le_of_ble_eq_true rfl, _, _, rfl, rfl, rfl⟩ (Nat.le_of_ble_eq_true rfl) (Nat.le_of_ble_eq_true rfl) (Nat.le_refl _) (Nat.le_refl _) (Nat.le_of_ble_eq_true rfl) ?_
        cases hf
        exact gret_i C hr hk (kX11_report _ (List.mem_of_getElem? (i := 33) rfl)).1
theorem qX11_report_t {v1 : Int32} {v2 : Int32} {v3 : Int32} {S S' : mT} {r : Int32} (hf : fX11_report true v1 v2 v3 S = some (r, S')) : mOk l mX11_report 2 [.ref (0), .int v1, .int v2, .int v3] true S (some (.int r)) S' :=
  gMet (by decide) (Nat.le_of_ble_eq_true rfl) rfl (Nat.le_of_ble_eq_true rfl) (fun p e s m args below meth c G C hr hk => bX11_report_0_t C hr hk hf true)
theorem bX6_sendFrom_82 {d : Nat} (C : mCx p (mR (2 + (d + 1))) s m args meth c G cX6_sendFrom RX6 8 false 233 54500 233 54500) (hr : meth.sig.returnType = (some .boolean)) (hk : meth.locks = false) {b : Bool} {self : Int32 → Int32 → Int32 → Int32 → mT → Option (Int32 × mT)} (Hself : ∀ {v1 : Int32} {v2 : Int32} {v3 : Int32} {v4 : Int32} {S S' : mT} {r : Int32}, self v1 v2 v3 v4 S = some (r, S') → mOk l mX6_sendFrom (2 + d) [.ref (100), .int v1, .int v2, .int v3, .int v4] b S (some (.int r)) S') {S' : mT} {r : Int32} {rc16 : Int32 → Int32 → Int32 → Int32 → Int32 → Int32 → mT → Option (Int32 × mT)} (Hrc16 : ∀ (v1 : Int32) (v2 : Int32) (v3 : Int32) (v4 : Int32) (v5 : Int32) (v6 : Int32) (S : mT), rc16 v1 v2 v3 v4 v5 v6 S = some (r, S') → ∀ ok : Bool, mW p l e (mR (2 + (d + 1))) s m args below meth c G 8 233 54500 (mQ below G args s b S' (some (.int r))) (ok, 16, [.ref (100), .int v1, .int v2, .int v3, .int v4, .int v5, .int v6, .retAddr 0], [], mk b S)) {v1 : Int32} {v2 : Int32} {v3 : Int32} {v4 : Int32} {v5 : Int32} {v6 : Int32} {v7 : Int32} {S : mT} (hf : fX6_sendFrom_82 self rc16 v1 v2 v3 v4 v5 v6 v7 S = some (r, S')) (ok : Bool) : mW p l e (mR (2 + (d + 1))) s m args below meth c G 8 233 54500 (mQ below G args s b S' (some (.int r))) (ok, 82, [.ref (100), .int v1, .int v2, .int v3, .int v4, .int v5, .int v6, .int v7], [], mk b S) := by
  unfold fX6_sendFrom_82 at hf
  refine msegT C kX6_sendFrom 47 4 (g := (true, 88, [.ref (100), .int v1, .int v2, .int v3, .int v4, .int v5, .int v6, .int v7], [.int v7, .int v1, .int v6, .ref (100)], mk b S)) rfl rfl ?_
  obtain ⟨S8, hq, hf⟩ := bndV_ex hf
  refine mcall (kd := 0) (vs := [.ref (100), .int v6, .int v1, .int v7]) (rest := []) (r := none) (h' := mk b S8) (ok' := true) C lkRX6_73 (qX6_putBack hq) (kX6_sendFrom _ (List.mem_of_getElem? (i := 51) rfl)).1 ⟨_, _, rfl, rfl, Nat.le_of_ble_eq_true rfl, _, _, rfl, rfl, rfl⟩ (by show 1 + 1 ≤ 2 + (d + 1); omega) (by show 19 + 4 + 100 * (1) ≤ 100 * (2 + (d + 1)); omega) (Nat.le_refl _) (Nat.le_refl _) (Nat.le_of_ble_eq_true rfl) ?_
  refine msegT C kX6_sendFrom 52 1 (g := (true, 94, [.ref (100), .int v1, .int v2, .int v3, .int v4, .int v5, .int (v6 + (1 : Int32)), .int v7], [], mk b S8)) rfl rfl ?_
  obtain ⟨x9, ex9, hf⟩ := bnd_ex hf
  rw [← ex9]
  refine msegT C kX6_sendFrom 53 1 (g := (true, 16, [.ref (100), .int v1, .int v2, .int v3, .int v4, .int v5, .int x9, .int v7], [], mk b S8)) rfl rfl ?_
  exact mfor (L' := [.ref (100), .int v1, .int v2, .int v3, .int v4, .int v5, .int x9, .retAddr 0]) ⟨Or.inr rfl, Or.inr rfl, Or.inr rfl, Or.inr rfl, Or.inr rfl, Or.inr rfl, Or.inr rfl, Or.inl rfl, trivial⟩ (Hrc16 _ _ _ _ _ _ _ hf true)
theorem bX6_sendFrom_97 {d : Nat} (C : mCx p (mR (2 + (d + 1))) s m args meth c G cX6_sendFrom RX6 8 false 233 54500 233 54500) (hr : meth.sig.returnType = (some .boolean)) (hk : meth.locks = false) {b : Bool} {self : Int32 → Int32 → Int32 → Int32 → mT → Option (Int32 × mT)} (Hself : ∀ {v1 : Int32} {v2 : Int32} {v3 : Int32} {v4 : Int32} {S S' : mT} {r : Int32}, self v1 v2 v3 v4 S = some (r, S') → mOk l mX6_sendFrom (2 + d) [.ref (100), .int v1, .int v2, .int v3, .int v4] b S (some (.int r)) S') {S' : mT} {r : Int32} {v5 : Int32} {S : mT} (hf : fX6_sendFrom_97 self v5 S = some (r, S')) (ok : Bool) : mW p l e (mR (2 + (d + 1))) s m args below meth c G 8 233 54500 (mQ below G args s b S' (some (.int r))) (ok, 97, [.retAddr 0, .retAddr 0, .retAddr 0, .retAddr 0, .retAddr 0, .int v5, .retAddr 0, .retAddr 0], [], mk b S) := by
  unfold fX6_sendFrom_97 at hf
  refine msegT C kX6_sendFrom 54 1 (g := (true, 99, [.retAddr 0, .retAddr 0, .retAddr 0, .retAddr 0, .retAddr 0, .int v5, .retAddr 0, .retAddr 0], [.int v5], mk b S)) rfl rfl ?_
  obtain ⟨hz, hf⟩ := grd_ex hf
  cases hf
  exact gret_z C hr hk (mFit_nar hz) (kX6_sendFrom _ (List.mem_of_getElem? (i := 55) rfl)).1
theorem bX6_sendFrom_16 {d : Nat} (C : mCx p (mR (2 + (d + 1))) s m args meth c G cX6_sendFrom RX6 8 false 233 54500 233 54500) (hr : meth.sig.returnType = (some .boolean)) (hk : meth.locks = false) {b : Bool} {self : Int32 → Int32 → Int32 → Int32 → mT → Option (Int32 × mT)} (Hself : ∀ {v1 : Int32} {v2 : Int32} {v3 : Int32} {v4 : Int32} {S S' : mT} {r : Int32}, self v1 v2 v3 v4 S = some (r, S') → mOk l mX6_sendFrom (2 + d) [.ref (100), .int v1, .int v2, .int v3, .int v4] b S (some (.int r)) S') {S' : mT} {r : Int32} : ∀ (k : Nat) (v1 : Int32) (v2 : Int32) (v3 : Int32) (v4 : Int32) (v5 : Int32) (v6 : Int32) (S : mT), fX6_sendFrom_16 self k v1 v2 v3 v4 v5 v6 S = some (r, S') → ∀ ok : Bool, mW p l e (mR (2 + (d + 1))) s m args below meth c G 8 233 54500 (mQ below G args s b S' (some (.int r))) (ok, 16, [.ref (100), .int v1, .int v2, .int v3, .int v4, .int v5, .int v6, .retAddr 0], [], mk b S) := by
  intro k
  induction k with
  | zero =>
    intro v1 v2 v3 v4 v5 v6 S hf ok
    cases hf
  | succ k ih =>
    intro v1 v2 v3 v4 v5 v6 S hf ok
    unfold fX6_sendFrom_16 at hf
    refine msegT C kX6_sendFrom 10 3 (g := (true, (if v2 < v6 then 97 else 22), [.ref (100), .int v1, .int v2, .int v3, .int v4, .int v5, .int v6, .retAddr 0], [], mk b S)) rfl rfl ?_
    by_cases hc : v2 < v6
    · rw [if_pos hc] at hf ⊢
      exact mfor (L' := [.retAddr 0, .retAddr 0, .retAddr 0, .retAddr 0, .retAddr 0, .int v5, .retAddr 0, .retAddr 0]) ⟨Or.inl rfl, Or.inl rfl, Or.inl rfl, Or.inl rfl, Or.inl rfl, Or.inr rfl, Or.inl rfl, Or.inl rfl, trivial⟩ (bX6_sendFrom_97 C hr hk Hself hf true)
    · rw [if_neg hc] at hf ⊢
      refine msegT C kX6_sendFrom 13 3 (g := (true, (if v3 ≤ v6 then 97 else 28), [.ref (100), .int v1, .int v2, .int v3, .int v4, .int v5, .int v6, .retAddr 0], [], mk b S)) rfl rfl ?_
      by_cases hc : v3 ≤ v6
      · rw [if_pos hc] at hf ⊢
        exact mfor (L' := [.retAddr 0, .retAddr 0, .retAddr 0, .retAddr 0, .retAddr 0, .int v5, .retAddr 0, .retAddr 0]) ⟨Or.inl rfl, Or.inl rfl, Or.inl rfl, Or.inl rfl, Or.inl rfl, Or.inr rfl, Or.inl rfl, Or.inl rfl, trivial⟩ (bX6_sendFrom_97 C hr hk Hself hf true)
      · rw [if_neg hc] at hf ⊢
        refine msegT C kX6_sendFrom 16 2 (g := (true, (if v5 = 0 then 33 else 97), [.ref (100), .int v1, .int v2, .int v3, .int v4, .int v5, .int v6, .retAddr 0], [], mk b S)) rfl rfl ?_
        by_cases hc : v5 = 0
        · rw [if_pos hc] at hf ⊢
          obtain ⟨hok, hf⟩ := grd_ex hf
          refine msegT C kX6_sendFrom 18 5 (g := ((kI 104 v6 && (kO 100 6 && true)), 42, [.ref (100), .int v1, .int v2, .int v3, .int v4, .int v5, .int v6, .int (S.1 104 (mIx v6))], [], mk b S)) rfl hok ?_
          obtain ⟨x1, ex1, hf⟩ := bnd_ex hf
          rw [← ex1]
          refine msegT C kX6_sendFrom 23 3 (g := (true, 46, [.ref (100), .int v1, .int v2, .int v3, .int v4, .int v5, .int v6, .int x1], [.int v1, .int v6, .ref (100)], mk b S)) rfl rfl ?_
          obtain ⟨x3, S2, hq, hf⟩ := bndC_ex hf
          refine mcall (kd := 0) (vs := [.ref (100), .int v6, .int v1]) (rest := []) (r := (some (.int x3))) (h' := mk b S2) (ok' := true) C lkRX6_64 (qX6_busyWith hq) (kX6_sendFrom _ (List.mem_of_getElem? (i := 26) rfl)).1 ⟨_, _, rfl, rfl, Nat.le_of_ble_eq_true rfl, _, _, rfl, rfl, rfl⟩ (by show 1 + 1 ≤ 2 + (d + 1); omega) (by show 19 + 3 + 100 * (1) ≤ 100 * (2 + (d + 1)); omega) (Nat.le_refl _) (Nat.le_refl _) (Nat.le_of_ble_eq_true rfl) ?_
          refine msegT C kX6_sendFrom 27 2 (g := (true, (if v4 < x3 then 82 else 54), [.ref (100), .int v1, .int v2, .int v3, .int v4, .int v5, .int v6, .int x1], [], mk b S2)) rfl rfl ?_
          by_cases hc : v4 < x3
          · rw [if_pos hc] at hf ⊢
            exact mfor (L' := [.ref (100), .int v1, .int v2, .int v3, .int v4, .int v5, .int v6, .int x1]) ⟨Or.inr rfl, Or.inr rfl, Or.inr rfl, Or.inr rfl, Or.inr rfl, Or.inr rfl, Or.inr rfl, Or.inr rfl, trivial⟩ (bX6_sendFrom_82 C hr hk Hself ih hf true)
          · rw [if_neg hc] at hf ⊢
            obtain ⟨hok, hf⟩ := grd_ex hf
            refine msegT C kX6_sendFrom 29 5 (g := ((kI 103 v1 && (kO 100 6 && true)), 62, [.ref (100), .int v1, .int v2, .int v3, .int v4, .int v5, .int v6, .int x1], [], mk b (sI S2 103 (mIx v1) v6))) rfl hok ?_
            obtain ⟨S4, eS4, hf⟩ := bnd_ex hf
            rw [← eS4]
            refine msegT C kX6_sendFrom 34 8 (g := (true, 71, [.ref (100), .int v1, .int v2, .int v3, .int v4, .int v5, .int v6, .int x1], [.int (v6 + (1 : Int32)), .int v2, .int (v1 + (1 : Int32)), .ref (100)], mk b S4)) rfl rfl ?_
            obtain ⟨x5, ex5, hf⟩ := bnd_ex hf
            refine so_max (ok' := true) C (kX6_sendFrom _ (List.mem_of_getElem? (i := 42) rfl)).1 lmRX6_68 (Nat.le_of_ble_eq_true rfl) (Nat.le_refl _) (Nat.le_refl _) ?_
            rw [← ex5]
            refine msegT C kX6_sendFrom 43 2 (g := (true, 77, [.ref (100), .int v1, .int v2, .int v3, .int v4, .int v5, .int v6, .int x1], [.int v4, .int v3, .int x5, .int (v1 + (1 : Int32)), .ref (100)], mk b S4)) rfl rfl ?_
            obtain ⟨x7, S6, hq, hf⟩ := bndC_ex hf
            refine mcall (kd := 0) (vs := [.ref (100), .int (v1 + (1 : Int32)), .int x5, .int v3, .int v4]) (rest := []) (r := (some (.int x7))) (h' := mk b S6) (ok' := true) C lkRX6_56 (Hself hq) (kX6_sendFrom _ (List.mem_of_getElem? (i := 45) rfl)).1 ⟨_, _, rfl, rfl, Nat.le_of_ble_eq_true rfl, _, _, rfl, rfl, rfl⟩ (by show 2 + d + 1 ≤ 2 + (d + 1); omega) (by show 19 + 8 + 100 * (2 + d) ≤ 100 * (2 + (d + 1)); omega) (Nat.le_refl _) (Nat.le_refl _) (Nat.le_of_ble_eq_true rfl) ?_
            refine msegT C kX6_sendFrom 46 1 (g := (true, 82, [.ref (100), .int v1, .int v2, .int v3, .int v4, .int x7, .int v6, .int x1], [], mk b S6)) rfl rfl ?_
            exact mfor (L' := [.ref (100), .int v1, .int v2, .int v3, .int v4, .int x7, .int v6, .int x1]) ⟨Or.inr rfl, Or.inr rfl, Or.inr rfl, Or.inr rfl, Or.inr rfl, Or.inr rfl, Or.inr rfl, Or.inr rfl, trivial⟩ (bX6_sendFrom_82 C hr hk Hself ih hf true)
        · rw [if_neg hc] at hf ⊢
          exact mfor (L' := [.retAddr 0, .retAddr 0, .retAddr 0, .retAddr 0, .retAddr 0, .int v5, .retAddr 0, .retAddr 0]) ⟨Or.inl rfl, Or.inl rfl, Or.inl rfl, Or.inl rfl, Or.inl rfl, Or.inr rfl, Or.inl rfl, Or.inl rfl, trivial⟩ (bX6_sendFrom_97 C hr hk Hself hf true)
theorem bX6_sendFrom_0 {d : Nat} (C : mCx p (mR (2 + (d + 1))) s m args meth c G cX6_sendFrom RX6 8 false 233 54500 233 54500) (hr : meth.sig.returnType = (some .boolean)) (hk : meth.locks = false) {b : Bool} {self : Int32 → Int32 → Int32 → Int32 → mT → Option (Int32 × mT)} (Hself : ∀ {v1 : Int32} {v2 : Int32} {v3 : Int32} {v4 : Int32} {S S' : mT} {r : Int32}, self v1 v2 v3 v4 S = some (r, S') → mOk l mX6_sendFrom (2 + d) [.ref (100), .int v1, .int v2, .int v3, .int v4] b S (some (.int r)) S') {S' : mT} {r : Int32} {v1 : Int32} {v2 : Int32} {v3 : Int32} {v4 : Int32} {S : mT} (hf : fX6_sendFrom_0 self v1 v2 v3 v4 S = some (r, S')) (ok : Bool) : mW p l e (mR (2 + (d + 1))) s m args below meth c G 8 233 54500 (mQ below G args s b S' (some (.int r))) (ok, 0, [.ref (100), .int v1, .int v2, .int v3, .int v4, .retAddr 0, .retAddr 0, .retAddr 0], [], mk b S) := by
  unfold fX6_sendFrom_0 at hf
  obtain ⟨hok, hf⟩ := grd_ex hf
  refine msegT C kX6_sendFrom 0 4 (g := ((kO 100 6 && true), (if v1 < (S.1 100 8) then 10 else 8), [.ref (100), .int v1, .int v2, .int v3, .int v4, .retAddr 0, .retAddr 0, .retAddr 0], [], mk b S)) rfl hok ?_
  by_cases hc : v1 < (S.1 100 8)
  · rw [if_pos hc] at hf ⊢
    refine msegT C kX6_sendFrom 6 4 (g := (true, 16, [.ref (100), .int v1, .int v2, .int v3, .int v4, .int (0 : Int32), .int (0 : Int32), .retAddr 0], [], mk b S)) rfl rfl ?_
    exact mfor (L' := [.ref (100), .int v1, .int v2, .int v3, .int v4, .int (0 : Int32), .int (0 : Int32), .retAddr 0]) ⟨Or.inr rfl, Or.inr rfl, Or.inr rfl, Or.inr rfl, Or.inr rfl, Or.inr rfl, Or.inr rfl, Or.inl rfl, trivial⟩ (bX6_sendFrom_16 C hr hk Hself _ _ _ _ _ _ _ _ hf true)
  · rw [if_neg hc] at hf ⊢
    refine msegT C kX6_sendFrom 4 1 (g := (true, 9, [.ref (100), .int v1, .int v2, .int v3, .int v4, .retAddr 0, .retAddr 0, .retAddr 0], [.int (1 : Int32)], mk b S)) rfl rfl ?_
    cases hf
    exact gret_z C hr hk (by decide) (kX6_sendFrom _ (List.mem_of_getElem? (i := 5) rfl)).1
theorem qX6_sendFrom {b : Bool} : ∀ (d : Nat) {v1 : Int32} {v2 : Int32} {v3 : Int32} {v4 : Int32} {S S' : mT} {r : Int32} (hf : fX6_sendFrom d v1 v2 v3 v4 S = some (r, S')), mOk l mX6_sendFrom (2 + d) [.ref (100), .int v1, .int v2, .int v3, .int v4] b S (some (.int r)) S' := by
  intro d
  induction d with
  | zero =>
    intro v1 v2 v3 v4 S S' r hf
    cases hf
  | succ d ih =>
    intro v1 v2 v3 v4 S S' r hf
    exact gMet (by decide) (by show 1 ≤ 2 + (d + 1); omega) rfl (Nat.le_of_ble_eq_true rfl) (fun p e s m args below meth c G C hr hk => bX6_sendFrom_0 C hr hk ih hf true)
theorem bX6_fewestBy_11 (C : mCx p (mR 19) s m args meth c G cX6_fewestBy RX6 3 false 233 54500 233 54500) (hr : meth.sig.returnType = (some .int)) (hk : meth.locks = false) {b : Bool} {S' : mT} {r : Int32} : ∀ (k : Nat) (v1 : Int32) (v2 : Int32) (S : mT), fX6_fewestBy_11 k v1 v2 S = some (r, S') → ∀ ok : Bool, mW p l e (mR 19) s m args below meth c G 3 233 54500 (mQ below G args s b S' (some (.int r))) (ok, 11, [.ref (100), .int v1, .int v2], [], mk b S) := by
  intro k
  induction k with
  | zero =>
    intro v1 v2 S hf ok
    cases hf
  | succ k ih =>
    intro v1 v2 S hf ok
    unfold fX6_fewestBy_11 at hf
    obtain ⟨hok, hf⟩ := grd_ex hf
    refine msegT C kX6_fewestBy 7 4 (g := ((kO 100 6 && true), (if (S.1 100 8) < v2 then 38 else 19), [.ref (100), .int v1, .int v2], [], mk b S)) rfl hok ?_
    by_cases hc : (S.1 100 8) < v2
    · rw [if_pos hc] at hf ⊢
      refine msegT C kX6_fewestBy 22 1 (g := (true, 39, [.ref (100), .int v1, .int v2], [.int (-1 : Int32)], mk b S)) rfl rfl ?_
      cases hf
      exact gret_i C hr hk (kX6_fewestBy _ (List.mem_of_getElem? (i := 23) rfl)).1
    · rw [if_neg hc] at hf ⊢
      refine msegT C kX6_fewestBy 11 5 (g := (true, 24, [.ref (100), .int v1, .int v2], [.int v1, .int v2, .int (0 : Int32), .int (0 : Int32), .ref (100)], mk b S)) rfl rfl ?_
      obtain ⟨x2, S1, hq, hf⟩ := bndC_ex hf
      refine mcall (kd := 0) (vs := [.ref (100), .int (0 : Int32), .int (0 : Int32), .int v2, .int v1]) (rest := []) (r := (some (.int x2))) (h' := mk b S1) (ok' := true) C lkRX6_56 (qX6_sendFrom 16 hq) (kX6_fewestBy _ (List.mem_of_getElem? (i := 16) rfl)).1 ⟨_, _, rfl, rfl, Nat.le_of_ble_eq_true rfl, _, _, rfl, rfl, rfl⟩ (Nat.le_of_ble_eq_true rfl) (Nat.le_of_ble_eq_true rfl) (Nat.le_refl _) (Nat.le_refl _) (Nat.le_of_ble_eq_true rfl) ?_
      refine msegT C kX6_fewestBy 17 1 (g := (true, (if x2 = 0 then 32 else 30), [.ref (100), .int v1, .int v2], [], mk b S1)) rfl rfl ?_
      by_cases hc : x2 = 0
      · rw [if_pos hc] at hf ⊢
        refine msegT C kX6_fewestBy 20 1 (g := (true, 35, [.ref (100), .int v1, .int (v2 + (1 : Int32))], [], mk b S1)) rfl rfl ?_
        obtain ⟨x3, ex3, hf⟩ := bnd_ex hf
        rw [← ex3]
        refine msegT C kX6_fewestBy 21 1 (g := (true, 11, [.ref (100), .int v1, .int x3], [], mk b S1)) rfl rfl ?_
        exact mfor (L' := [.ref (100), .int v1, .int x3]) ⟨Or.inr rfl, Or.inr rfl, Or.inr rfl, trivial⟩ (ih _ _ _ hf true)
      · rw [if_neg hc] at hf ⊢
        refine msegT C kX6_fewestBy 18 1 (g := (true, 31, [.ref (100), .int v1, .int v2], [.int v2], mk b S1)) rfl rfl ?_
        cases hf
        exact gret_i C hr hk (kX6_fewestBy _ (List.mem_of_getElem? (i := 19) rfl)).1
theorem bX6_fewestBy_0 (C : mCx p (mR 19) s m args meth c G cX6_fewestBy RX6 3 false 233 54500 233 54500) (hr : meth.sig.returnType = (some .int)) (hk : meth.locks = false) {b : Bool} {S' : mT} {r : Int32} {v1 : Int32} {S : mT} (hf : fX6_fewestBy v1 S = some (r, S')) (ok : Bool) : mW p l e (mR 19) s m args below meth c G 3 233 54500 (mQ below G args s b S' (some (.int r))) (ok, 0, [.ref (100), .int v1, .retAddr 0], [], mk b S) := by
  unfold fX6_fewestBy at hf
  obtain ⟨hok, hf⟩ := grd_ex hf
  refine msegT C kX6_fewestBy 0 3 (g := ((kO 100 6 && true), (if (S.1 100 8) = 0 then 7 else 9), [.ref (100), .int v1, .retAddr 0], [], mk b S)) rfl hok ?_
  by_cases hc : (S.1 100 8) = 0
  · rw [if_pos hc] at hf ⊢
    refine msegT C kX6_fewestBy 3 1 (g := (true, 8, [.ref (100), .int v1, .retAddr 0], [.int (0 : Int32)], mk b S)) rfl rfl ?_
    cases hf
    exact gret_i C hr hk (kX6_fewestBy _ (List.mem_of_getElem? (i := 4) rfl)).1
  · rw [if_neg hc] at hf ⊢
    refine msegT C kX6_fewestBy 5 2 (g := (true, 11, [.ref (100), .int v1, .int (1 : Int32)], [], mk b S)) rfl rfl ?_
    exact mfor (L' := [.ref (100), .int v1, .int (1 : Int32)]) ⟨Or.inr rfl, Or.inr rfl, Or.inr rfl, trivial⟩ (bX6_fewestBy_11 C hr hk _ _ _ _ hf true)
theorem qX6_fewestBy {b : Bool} {v1 : Int32} {S S' : mT} {r : Int32} (hf : fX6_fewestBy v1 S = some (r, S')) : mOk l mX6_fewestBy 19 [.ref (100), .int v1] b S (some (.int r)) S' :=
  gMet (by decide) (Nat.le_of_ble_eq_true rfl) rfl (Nat.le_of_ble_eq_true rfl) (fun p e s m args below meth c G C hr hk => bX6_fewestBy_0 C hr hk hf true)
theorem bX11_rounds_65_f (C : mCx p (mR 20) s m args meth c G cX11_rounds RX11 3 false 233 54500 233 54500) (hr : meth.sig.returnType = (some .int)) (hk : meth.locks = false) {S' : mT} {r : Int32} {v2 : Int32} {S : mT} (hf : fX11_rounds_65 false v2 S = some (r, S')) (ok : Bool) : mW p l e (mR 20) s m args below meth c G 3 233 54500 (mQ below G args s false S' (some (.int r))) (ok, 65, [.retAddr 0, .retAddr 0, .int v2], [], mk false S) := by
  unfold fX11_rounds_65 at hf
  refine msegT C kX11_rounds 33 1 (g := (true, 66, [.retAddr 0, .retAddr 0, .int v2], [.int v2], mk false S)) rfl rfl ?_
  cases hf
  exact gret_i C hr hk (kX11_rounds _ (List.mem_of_getElem? (i := 34) rfl)).1
theorem bX11_rounds_0_f (C : mCx p (mR 20) s m args meth c G cX11_rounds RX11 3 false 233 54500 233 54500) (hr : meth.sig.returnType = (some .int)) (hk : meth.locks = false) {S' : mT} {r : Int32} {v1 : Int32} {S : mT} (hf : fX11_rounds false v1 S = some (r, S')) (ok : Bool) : mW p l e (mR 20) s m args below meth c G 3 233 54500 (mQ below G args s false S' (some (.int r))) (ok, 0, [.ref (0), .int v1, .retAddr 0], [], mk false S) := by
  unfold fX11_rounds at hf
  obtain ⟨hok, hf⟩ := grd_ex hf
  refine msegT C kX11_rounds 0 3 (g := ((kO 0 11 && true), 5, [.ref (0), .int v1, .retAddr 0], [], mk false (sI S 0 13 (0 : Int32)))) rfl hok ?_
  obtain ⟨S1, eS1, hf⟩ := bnd_ex hf
  rw [← eS1]
  refine msegT C kX11_rounds 3 3 (g := (true, 10, [.ref (0), .int v1, .retAddr 0], [.int (999 : Int32), .int (0 : Int32), .int v1], mk false S1)) rfl rfl ?_
  obtain ⟨x3, S2, hq, hf⟩ := bndC_ex hf
  refine mcall (kd := 1) (vs := [.int v1, .int (0 : Int32), .int (999 : Int32)]) (rest := []) (r := (some (.int x3))) (h' := mk false S2) (ok' := true) C lkRX11_169 (qX11_isWithin hq) (kX11_rounds _ (List.mem_of_getElem? (i := 6) rfl)).1 rfl (Nat.le_of_ble_eq_true rfl) (Nat.le_of_ble_eq_true rfl) (Nat.le_refl _) (Nat.le_refl _) (Nat.le_of_ble_eq_true rfl) ?_
  refine msegT C kX11_rounds 7 1 (g := (true, (if x3 = 0 then 16 else 18), [.ref (0), .int v1, .retAddr 0], [], mk false S2)) rfl rfl ?_
  by_cases hc : x3 = 0
  · rw [if_pos hc] at hf ⊢
    refine msegT C kX11_rounds 8 1 (g := (true, 17, [.ref (0), .int v1, .retAddr 0], [.int (-1 : Int32)], mk false S2)) rfl rfl ?_
    cases hf
    exact gret_i C hr hk (kX11_rounds _ (List.mem_of_getElem? (i := 9) rfl)).1
  · rw [if_neg hc] at hf ⊢
    obtain ⟨hok, hf⟩ := grd_ex hf
    refine msegT C kX11_rounds 10 6 (g := ((kO 0 11 && (kO 0 11 && (kO 0 11 && true))), 30, [.ref (0), .int v1, .retAddr 0], [.ref 35, .ref (shU false), .ref 100], mk false S2)) rfl hok ?_
    obtain ⟨S4, hq, hf⟩ := bndV_ex hf
    refine mcall (kd := 0) (vs := [.ref 100, .ref (shU false), .ref 35]) (rest := []) (r := none) (h' := mk false S4) (ok' := true) C lkRX11_194 (qX6_look_3 hq) (kX11_rounds _ (List.mem_of_getElem? (i := 16) rfl)).1 ⟨_, _, rfl, rfl, Nat.le_of_ble_eq_true rfl, _, _, rfl, rfl, rfl⟩ (Nat.le_of_ble_eq_true rfl) (Nat.le_of_ble_eq_true rfl) (Nat.le_refl _) (Nat.le_refl _) (Nat.le_of_ble_eq_true rfl) ?_
    obtain ⟨hok, hf⟩ := grd_ex hf
    refine msegT C kX11_rounds 17 3 (g := ((kO 0 11 && true), 38, [.ref (0), .int v1, .retAddr 0], [.int v1, .ref 100], mk false S4)) rfl hok ?_
    obtain ⟨x6, S5, hq, hf⟩ := bndC_ex hf
    refine mcall (kd := 0) (vs := [.ref 100, .int v1]) (rest := []) (r := (some (.int x6))) (h' := mk false S5) (ok' := true) C lkRX11_195 (qX6_fewestBy hq) (kX11_rounds _ (List.mem_of_getElem? (i := 20) rfl)).1 ⟨_, _, rfl, rfl, Nat.le_of_ble_eq_true rfl, _, _, rfl, rfl, rfl⟩ (Nat.le_of_ble_eq_true rfl) (Nat.le_of_ble_eq_true rfl) (Nat.le_refl _) (Nat.le_refl _) (Nat.le_of_ble_eq_true rfl) ?_
    refine msegT C kX11_rounds 21 4 (g := (true, (if x6 = (-1 : Int32) then 65 else 47), [.ref (0), .int v1, .int x6], [], mk false S5)) rfl rfl ?_
    by_cases hc : x6 = (-1 : Int32)
    · rw [if_pos hc] at hf ⊢
      exact mfor (L' := [.retAddr 0, .retAddr 0, .int x6]) ⟨Or.inl rfl, Or.inl rfl, Or.inr rfl, trivial⟩ (bX11_rounds_65_f C hr hk hf true)
    · rw [if_neg hc] at hf ⊢
      obtain ⟨hok, hf⟩ := grd_ex hf
      refine msegT C kX11_rounds 25 7 (g := ((kO (shU false) 8 && (kO 0 11 && (kO 100 6 && (kO 0 11 && true)))), 62, [.ref (0), .int v1, .int x6], [.int (S5.1 (shU false) 9), .ref 103, .ref (0)], mk false S5)) rfl hok ?_
      obtain ⟨S7, hq, hf⟩ := bndV_ex hf
      refine mcall (kd := 0) (vs := [.ref (0), .ref 103, .int (S5.1 (shU false) 9)]) (rest := []) (r := none) (h' := mk false S7) (ok' := true) C lkRX11_186 (qX11_lay hq) (kX11_rounds _ (List.mem_of_getElem? (i := 32) rfl)).1 ⟨_, _, rfl, rfl, Nat.le_of_ble_eq_true rfl, _, _, rfl, rfl, rfl⟩ (Nat.le_of_ble_eq_true rfl) (Nat.le_of_ble_eq_true rfl) (Nat.le_refl _) (Nat.le_refl _) (Nat.le_of_ble_eq_true rfl) ?_
      exact mfor (L' := [.retAddr 0, .retAddr 0, .int x6]) ⟨Or.inl rfl, Or.inl rfl, Or.inr rfl, trivial⟩ (bX11_rounds_65_f C hr hk hf true)
theorem qX11_rounds_f {v1 : Int32} {S S' : mT} {r : Int32} (hf : fX11_rounds false v1 S = some (r, S')) : mOk l mX11_rounds 20 [.ref (0), .int v1] false S (some (.int r)) S' :=
  gMet (by decide) (Nat.le_of_ble_eq_true rfl) rfl (Nat.le_of_ble_eq_true rfl) (fun p e s m args below meth c G C hr hk => bX11_rounds_0_f C hr hk hf true)
theorem bX11_rounds_65_t (C : mCx p (mR 20) s m args meth c G cX11_rounds RX11 3 false 233 54500 233 54500) (hr : meth.sig.returnType = (some .int)) (hk : meth.locks = false) {S' : mT} {r : Int32} {v2 : Int32} {S : mT} (hf : fX11_rounds_65 true v2 S = some (r, S')) (ok : Bool) : mW p l e (mR 20) s m args below meth c G 3 233 54500 (mQ below G args s true S' (some (.int r))) (ok, 65, [.retAddr 0, .retAddr 0, .int v2], [], mk true S) := by
  unfold fX11_rounds_65 at hf
  refine msegT C kX11_rounds 33 1 (g := (true, 66, [.retAddr 0, .retAddr 0, .int v2], [.int v2], mk true S)) rfl rfl ?_
  cases hf
  exact gret_i C hr hk (kX11_rounds _ (List.mem_of_getElem? (i := 34) rfl)).1
theorem bX11_rounds_0_t (C : mCx p (mR 20) s m args meth c G cX11_rounds RX11 3 false 233 54500 233 54500) (hr : meth.sig.returnType = (some .int)) (hk : meth.locks = false) {S' : mT} {r : Int32} {v1 : Int32} {S : mT} (hf : fX11_rounds true v1 S = some (r, S')) (ok : Bool) : mW p l e (mR 20) s m args below meth c G 3 233 54500 (mQ below G args s true S' (some (.int r))) (ok, 0, [.ref (0), .int v1, .retAddr 0], [], mk true S) := by
  unfold fX11_rounds at hf
  obtain ⟨hok, hf⟩ := grd_ex hf
  refine msegT C kX11_rounds 0 3 (g := ((kO 0 11 && true), 5, [.ref (0), .int v1, .retAddr 0], [], mk true (sI S 0 13 (0 : Int32)))) rfl hok ?_
  obtain ⟨S1, eS1, hf⟩ := bnd_ex hf
  rw [← eS1]
  refine msegT C kX11_rounds 3 3 (g := (true, 10, [.ref (0), .int v1, .retAddr 0], [.int (999 : Int32), .int (0 : Int32), .int v1], mk true S1)) rfl rfl ?_
  obtain ⟨x3, S2, hq, hf⟩ := bndC_ex hf
  refine mcall (kd := 1) (vs := [.int v1, .int (0 : Int32), .int (999 : Int32)]) (rest := []) (r := (some (.int x3))) (h' := mk true S2) (ok' := true) C lkRX11_169 (qX11_isWithin hq) (kX11_rounds _ (List.mem_of_getElem? (i := 6) rfl)).1 rfl (Nat.le_of_ble_eq_true rfl) (Nat.le_of_ble_eq_true rfl) (Nat.le_refl _) (Nat.le_refl _) (Nat.le_of_ble_eq_true rfl) ?_
  refine msegT C kX11_rounds 7 1 (g := (true, (if x3 = 0 then 16 else 18), [.ref (0), .int v1, .retAddr 0], [], mk true S2)) rfl rfl ?_
  by_cases hc : x3 = 0
  · rw [if_pos hc] at hf ⊢
    refine msegT C kX11_rounds 8 1 (g := (true, 17, [.ref (0), .int v1, .retAddr 0], [.int (-1 : Int32)], mk true S2)) rfl rfl ?_
    cases hf
    exact gret_i C hr hk (kX11_rounds _ (List.mem_of_getElem? (i := 9) rfl)).1
  · rw [if_neg hc] at hf ⊢
    obtain ⟨hok, hf⟩ := grd_ex hf
    refine msegT C kX11_rounds 10 6 (g := ((kO 0 11 && (kO 0 11 && (kO 0 11 && true))), 30, [.ref (0), .int v1, .retAddr 0], [.ref 35, .ref (shU true), .ref 100], mk true S2)) rfl hok ?_
    obtain ⟨S4, hq, hf⟩ := bndV_ex hf
    refine mcall (kd := 0) (vs := [.ref 100, .ref (shU true), .ref 35]) (rest := []) (r := none) (h' := mk true S4) (ok' := true) C lkRX11_194 (qX6_look_19 hq) (kX11_rounds _ (List.mem_of_getElem? (i := 16) rfl)).1 ⟨_, _, rfl, rfl, Nat.le_of_ble_eq_true rfl, _, _, rfl, rfl, rfl⟩ (Nat.le_of_ble_eq_true rfl) (Nat.le_of_ble_eq_true rfl) (Nat.le_refl _) (Nat.le_refl _) (Nat.le_of_ble_eq_true rfl) ?_
    obtain ⟨hok, hf⟩ := grd_ex hf
    refine msegT C kX11_rounds 17 3 (g := ((kO 0 11 && true), 38, [.ref (0), .int v1, .retAddr 0], [.int v1, .ref 100], mk true S4)) rfl hok ?_
    obtain ⟨x6, S5, hq, hf⟩ := bndC_ex hf
    refine mcall (kd := 0) (vs := [.ref 100, .int v1]) (rest := []) (r := (some (.int x6))) (h' := mk true S5) (ok' := true) C lkRX11_195 (qX6_fewestBy hq) (kX11_rounds _ (List.mem_of_getElem? (i := 20) rfl)).1 ⟨_, _, rfl, rfl, Nat.le_of_ble_eq_true rfl, _, _, rfl, rfl, rfl⟩ (Nat.le_of_ble_eq_true rfl) (Nat.le_of_ble_eq_true rfl) (Nat.le_refl _) (Nat.le_refl _) (Nat.le_of_ble_eq_true rfl) ?_
    refine msegT C kX11_rounds 21 4 (g := (true, (if x6 = (-1 : Int32) then 65 else 47), [.ref (0), .int v1, .int x6], [], mk true S5)) rfl rfl ?_
    by_cases hc : x6 = (-1 : Int32)
    · rw [if_pos hc] at hf ⊢
      exact mfor (L' := [.retAddr 0, .retAddr 0, .int x6]) ⟨Or.inl rfl, Or.inl rfl, Or.inr rfl, trivial⟩ (bX11_rounds_65_t C hr hk hf true)
    · rw [if_neg hc] at hf ⊢
      obtain ⟨hok, hf⟩ := grd_ex hf
      refine msegT C kX11_rounds 25 7 (g := ((kO (shU true) 8 && (kO 0 11 && (kO 100 6 && (kO 0 11 && true)))), 62, [.ref (0), .int v1, .int x6], [.int (S5.1 (shU true) 9), .ref 103, .ref (0)], mk true S5)) rfl hok ?_
      obtain ⟨S7, hq, hf⟩ := bndV_ex hf
      refine mcall (kd := 0) (vs := [.ref (0), .ref 103, .int (S5.1 (shU true) 9)]) (rest := []) (r := none) (h' := mk true S7) (ok' := true) C lkRX11_186 (qX11_lay hq) (kX11_rounds _ (List.mem_of_getElem? (i := 32) rfl)).1 ⟨_, _, rfl, rfl, Nat.le_of_ble_eq_true rfl, _, _, rfl, rfl, rfl⟩ (Nat.le_of_ble_eq_true rfl) (Nat.le_of_ble_eq_true rfl) (Nat.le_refl _) (Nat.le_refl _) (Nat.le_of_ble_eq_true rfl) ?_
      exact mfor (L' := [.retAddr 0, .retAddr 0, .int x6]) ⟨Or.inl rfl, Or.inl rfl, Or.inr rfl, trivial⟩ (bX11_rounds_65_t C hr hk hf true)
theorem qX11_rounds_t {v1 : Int32} {S S' : mT} {r : Int32} (hf : fX11_rounds true v1 S = some (r, S')) : mOk l mX11_rounds 20 [.ref (0), .int v1] true S (some (.int r)) S' :=
  gMet (by decide) (Nat.le_of_ble_eq_true rfl) rfl (Nat.le_of_ble_eq_true rfl) (fun p e s m args below meth c G C hr hk => bX11_rounds_0_t C hr hk hf true)
theorem bX11_seats_27_f (C : mCx p (mR 4) s m args meth c G cX11_seats RX11 4 false 233 54500 233 54500) (hr : meth.sig.returnType = (some .int)) (hk : meth.locks = false) {S' : mT} {r : Int32} {S : mT} (hf : fX11_seats_27 false S = some (r, S')) (ok : Bool) : mW p l e (mR 4) s m args below meth c G 4 233 54500 (mQ below G args s false S' (some (.int r))) (ok, 27, [.retAddr 0, .retAddr 0, .retAddr 0, .retAddr 0], [], mk false S) := by
  unfold fX11_seats_27 at hf
  refine msegT C kX11_seats 14 1 (g := (true, 28, [.retAddr 0, .retAddr 0, .retAddr 0, .retAddr 0], [.int (-1 : Int32)], mk false S)) rfl rfl ?_
  cases hf
  exact gret_i C hr hk (kX11_seats _ (List.mem_of_getElem? (i := 15) rfl)).1
theorem bX11_seats_0_f (C : mCx p (mR 4) s m args meth c G cX11_seats RX11 4 false 233 54500 233 54500) (hr : meth.sig.returnType = (some .int)) (hk : meth.locks = false) {S' : mT} {r : Int32} {v1 : Int32} {v2 : Int32} {v3 : Int32} {S : mT} (hf : fX11_seats false v1 v2 v3 S = some (r, S')) (ok : Bool) : mW p l e (mR 4) s m args below meth c G 4 233 54500 (mQ below G args s false S' (some (.int r))) (ok, 0, [.ref (0), .int v1, .int v2, .int v3], [], mk false S) := by
  unfold fX11_seats at hf
  refine msegT C kX11_seats 0 2 (g := (true, 2, [.ref (0), .int v1, .int v2, .int v3], [.int v1, .ref (0)], mk false S)) rfl rfl ?_
  obtain ⟨x2, S1, hq, hf⟩ := bndC_ex hf
  refine mcall (kd := 0) (vs := [.ref (0), .int v1]) (rest := []) (r := (some (.int x2))) (h' := mk false S1) (ok' := true) C lkRX11_124 (qX11_isHouse_f hq) (kX11_seats _ (List.mem_of_getElem? (i := 2) rfl)).1 ⟨_, _, rfl, rfl, Nat.le_of_ble_eq_true rfl, _, _, rfl, rfl, rfl⟩ (Nat.le_of_ble_eq_true rfl) (Nat.le_of_ble_eq_true rfl) (Nat.le_refl _) (Nat.le_refl _) (Nat.le_of_ble_eq_true rfl) ?_
  refine msegT C kX11_seats 3 1 (g := (true, (if x2 = 0 then 27 else 8), [.ref (0), .int v1, .int v2, .int v3], [], mk false S1)) rfl rfl ?_
  by_cases hc : x2 = 0
  · rw [if_pos hc] at hf ⊢
    exact mfor (L' := [.retAddr 0, .retAddr 0, .retAddr 0, .retAddr 0]) ⟨Or.inl rfl, Or.inl rfl, Or.inl rfl, Or.inl rfl, trivial⟩ (bX11_seats_27_f C hr hk hf true)
  · rw [if_neg hc] at hf ⊢
    refine msegT C kX11_seats 4 3 (g := (true, 12, [.ref (0), .int v1, .int v2, .int v3], [.int (20 : Int32), .int (1 : Int32), .int v2], mk false S1)) rfl rfl ?_
    obtain ⟨x4, S3, hq, hf⟩ := bndC_ex hf
    refine mcall (kd := 1) (vs := [.int v2, .int (1 : Int32), .int (20 : Int32)]) (rest := []) (r := (some (.int x4))) (h' := mk false S3) (ok' := true) C lkRX11_169 (qX11_isWithin hq) (kX11_seats _ (List.mem_of_getElem? (i := 7) rfl)).1 rfl (Nat.le_of_ble_eq_true rfl) (Nat.le_of_ble_eq_true rfl) (Nat.le_refl _) (Nat.le_refl _) (Nat.le_of_ble_eq_true rfl) ?_
    refine msegT C kX11_seats 8 1 (g := (true, (if x4 = 0 then 27 else 18), [.ref (0), .int v1, .int v2, .int v3], [], mk false S3)) rfl rfl ?_
    by_cases hc : x4 = 0
    · rw [if_pos hc] at hf ⊢
      exact mfor (L' := [.retAddr 0, .retAddr 0, .retAddr 0, .retAddr 0]) ⟨Or.inl rfl, Or.inl rfl, Or.inl rfl, Or.inl rfl, trivial⟩ (bX11_seats_27_f C hr hk hf true)
    · rw [if_neg hc] at hf ⊢
      refine msegT C kX11_seats 9 3 (g := (true, 21, [.ref (0), .int v1, .int v2, .int v3], [.int (1 : Int32), .int (0 : Int32), .int v3], mk false S3)) rfl rfl ?_
      obtain ⟨x6, S5, hq, hf⟩ := bndC_ex hf
      refine mcall (kd := 1) (vs := [.int v3, .int (0 : Int32), .int (1 : Int32)]) (rest := []) (r := (some (.int x6))) (h' := mk false S5) (ok' := true) C lkRX11_169 (qX11_isWithin hq) (kX11_seats _ (List.mem_of_getElem? (i := 12) rfl)).1 rfl (Nat.le_of_ble_eq_true rfl) (Nat.le_of_ble_eq_true rfl) (Nat.le_refl _) (Nat.le_refl _) (Nat.le_of_ble_eq_true rfl) ?_
      refine msegT C kX11_seats 13 1 (g := (true, (if x6 = 0 then 27 else 29), [.ref (0), .int v1, .int v2, .int v3], [], mk false S5)) rfl rfl ?_
      by_cases hc : x6 = 0
      · rw [if_pos hc] at hf ⊢
        exact mfor (L' := [.retAddr 0, .retAddr 0, .retAddr 0, .retAddr 0]) ⟨Or.inl rfl, Or.inl rfl, Or.inl rfl, Or.inl rfl, trivial⟩ (bX11_seats_27_f C hr hk hf true)
      · rw [if_neg hc] at hf ⊢
        obtain ⟨hok, hf⟩ := grd_ex hf
        refine msegT C kX11_seats 16 7 (g := ((kO (shU false) 8 && (kO 0 11 && (kO 0 11 && (kO 0 11 && true)))), 44, [.ref (0), .int v1, .int v2, .int v3], [.int (S5.1 (shU false) 9), .ref 35, .ref 109], mk false S5)) rfl hok ?_
        obtain ⟨S7, hq, hf⟩ := bndV_ex hf
        refine mcall (kd := 0) (vs := [.ref 109, .ref 35, .int (S5.1 (shU false) 9)]) (rest := []) (r := none) (h' := mk false S7) (ok' := true) C lkRX11_204 (qX7_look hq) (kX11_seats _ (List.mem_of_getElem? (i := 23) rfl)).1 ⟨_, _, rfl, rfl, Nat.le_of_ble_eq_true rfl, _, _, rfl, rfl, rfl⟩ (Nat.le_of_ble_eq_true rfl) (Nat.le_of_ble_eq_true rfl) (Nat.le_refl _) (Nat.le_refl _) (Nat.le_of_ble_eq_true rfl) ?_
        obtain ⟨hok, hf⟩ := grd_ex hf
        refine msegT C kX11_seats 24 4 (g := ((kO 0 11 && true), 53, [.ref (0), .int v1, .int v2, .int v3], [.int v3, .int v2, .ref 109], mk false S7)) rfl hok ?_
        obtain ⟨S8, hq, hf⟩ := bndV_ex hf
        refine mcall (kd := 0) (vs := [.ref 109, .int v2, .int v3]) (rest := []) (r := none) (h' := mk false S8) (ok' := true) C lkRX11_206 (qX7_share hq) (kX11_seats _ (List.mem_of_getElem? (i := 28) rfl)).1 ⟨_, _, rfl, rfl, Nat.le_of_ble_eq_true rfl, _, _, rfl, rfl, rfl⟩ (Nat.le_of_ble_eq_true rfl) (Nat.le_of_ble_eq_true rfl) (Nat.le_refl _) (Nat.le_refl _) (Nat.le_of_ble_eq_true rfl) ?_
        obtain ⟨hok, hf⟩ := grd_ex hf
        refine msegT C kX11_seats 29 5 (g := ((kI 111 v1 && (kO 109 7 && (kO 0 11 && true))), 65, [.ref (0), .int v1, .int v2, .int v3], [.int (S8.1 111 (mIx v1))], mk false S8)) rfl hok ?_
        cases hf
        exact gret_i C hr hk (kX11_seats _ (List.mem_of_getElem? (i := 34) rfl)).1
theorem qX11_seats_f {v1 : Int32} {v2 : Int32} {v3 : Int32} {S S' : mT} {r : Int32} (hf : fX11_seats false v1 v2 v3 S = some (r, S')) : mOk l mX11_seats 4 [.ref (0), .int v1, .int v2, .int v3] false S (some (.int r)) S' :=
  gMet (by decide) (Nat.le_of_ble_eq_true rfl) rfl (Nat.le_of_ble_eq_true rfl) (fun p e s m args below meth c G C hr hk => bX11_seats_0_f C hr hk hf true)
theorem bX11_seats_27_t (C : mCx p (mR 4) s m args meth c G cX11_seats RX11 4 false 233 54500 233 54500) (hr : meth.sig.returnType = (some .int)) (hk : meth.locks = false) {S' : mT} {r : Int32} {S : mT} (hf : fX11_seats_27 true S = some (r, S')) (ok : Bool) : mW p l e (mR 4) s m args below meth c G 4 233 54500 (mQ below G args s true S' (some (.int r))) (ok, 27, [.retAddr 0, .retAddr 0, .retAddr 0, .retAddr 0], [], mk true S) := by
  unfold fX11_seats_27 at hf
  refine msegT C kX11_seats 14 1 (g := (true, 28, [.retAddr 0, .retAddr 0, .retAddr 0, .retAddr 0], [.int (-1 : Int32)], mk true S)) rfl rfl ?_
  cases hf
  exact gret_i C hr hk (kX11_seats _ (List.mem_of_getElem? (i := 15) rfl)).1
theorem bX11_seats_0_t (C : mCx p (mR 4) s m args meth c G cX11_seats RX11 4 false 233 54500 233 54500) (hr : meth.sig.returnType = (some .int)) (hk : meth.locks = false) {S' : mT} {r : Int32} {v1 : Int32} {v2 : Int32} {v3 : Int32} {S : mT} (hf : fX11_seats true v1 v2 v3 S = some (r, S')) (ok : Bool) : mW p l e (mR 4) s m args below meth c G 4 233 54500 (mQ below G args s true S' (some (.int r))) (ok, 0, [.ref (0), .int v1, .int v2, .int v3], [], mk true S) := by
  unfold fX11_seats at hf
  refine msegT C kX11_seats 0 2 (g := (true, 2, [.ref (0), .int v1, .int v2, .int v3], [.int v1, .ref (0)], mk true S)) rfl rfl ?_
  obtain ⟨x2, S1, hq, hf⟩ := bndC_ex hf
  refine mcall (kd := 0) (vs := [.ref (0), .int v1]) (rest := []) (r := (some (.int x2))) (h' := mk true S1) (ok' := true) C lkRX11_124 (qX11_isHouse_t hq) (kX11_seats _ (List.mem_of_getElem? (i := 2) rfl)).1 ⟨_, _, rfl, rfl, Nat.le_of_ble_eq_true rfl, _, _, rfl, rfl, rfl⟩ (Nat.le_of_ble_eq_true rfl) (Nat.le_of_ble_eq_true rfl) (Nat.le_refl _) (Nat.le_refl _) (Nat.le_of_ble_eq_true rfl) ?_
  refine msegT C kX11_seats 3 1 (g := (true, (if x2 = 0 then 27 else 8), [.ref (0), .int v1, .int v2, .int v3], [], mk true S1)) rfl rfl ?_
  by_cases hc : x2 = 0
  · rw [if_pos hc] at hf ⊢
    exact mfor (L' := [.retAddr 0, .retAddr 0, .retAddr 0, .retAddr 0]) ⟨Or.inl rfl, Or.inl rfl, Or.inl rfl, Or.inl rfl, trivial⟩ (bX11_seats_27_t C hr hk hf true)
  · rw [if_neg hc] at hf ⊢
    refine msegT C kX11_seats 4 3 (g := (true, 12, [.ref (0), .int v1, .int v2, .int v3], [.int (20 : Int32), .int (1 : Int32), .int v2], mk true S1)) rfl rfl ?_
    obtain ⟨x4, S3, hq, hf⟩ := bndC_ex hf
    refine mcall (kd := 1) (vs := [.int v2, .int (1 : Int32), .int (20 : Int32)]) (rest := []) (r := (some (.int x4))) (h' := mk true S3) (ok' := true) C lkRX11_169 (qX11_isWithin hq) (kX11_seats _ (List.mem_of_getElem? (i := 7) rfl)).1 rfl (Nat.le_of_ble_eq_true rfl) (Nat.le_of_ble_eq_true rfl) (Nat.le_refl _) (Nat.le_refl _) (Nat.le_of_ble_eq_true rfl) ?_
    refine msegT C kX11_seats 8 1 (g := (true, (if x4 = 0 then 27 else 18), [.ref (0), .int v1, .int v2, .int v3], [], mk true S3)) rfl rfl ?_
    by_cases hc : x4 = 0
    · rw [if_pos hc] at hf ⊢
      exact mfor (L' := [.retAddr 0, .retAddr 0, .retAddr 0, .retAddr 0]) ⟨Or.inl rfl, Or.inl rfl, Or.inl rfl, Or.inl rfl, trivial⟩ (bX11_seats_27_t C hr hk hf true)
    · rw [if_neg hc] at hf ⊢
      refine msegT C kX11_seats 9 3 (g := (true, 21, [.ref (0), .int v1, .int v2, .int v3], [.int (1 : Int32), .int (0 : Int32), .int v3], mk true S3)) rfl rfl ?_
      obtain ⟨x6, S5, hq, hf⟩ := bndC_ex hf
      refine mcall (kd := 1) (vs := [.int v3, .int (0 : Int32), .int (1 : Int32)]) (rest := []) (r := (some (.int x6))) (h' := mk true S5) (ok' := true) C lkRX11_169 (qX11_isWithin hq) (kX11_seats _ (List.mem_of_getElem? (i := 12) rfl)).1 rfl (Nat.le_of_ble_eq_true rfl) (Nat.le_of_ble_eq_true rfl) (Nat.le_refl _) (Nat.le_refl _) (Nat.le_of_ble_eq_true rfl) ?_
      refine msegT C kX11_seats 13 1 (g := (true, (if x6 = 0 then 27 else 29), [.ref (0), .int v1, .int v2, .int v3], [], mk true S5)) rfl rfl ?_
      by_cases hc : x6 = 0
      · rw [if_pos hc] at hf ⊢
        exact mfor (L' := [.retAddr 0, .retAddr 0, .retAddr 0, .retAddr 0]) ⟨Or.inl rfl, Or.inl rfl, Or.inl rfl, Or.inl rfl, trivial⟩ (bX11_seats_27_t C hr hk hf true)
      · rw [if_neg hc] at hf ⊢
        obtain ⟨hok, hf⟩ := grd_ex hf
        refine msegT C kX11_seats 16 7 (g := ((kO (shU true) 8 && (kO 0 11 && (kO 0 11 && (kO 0 11 && true)))), 44, [.ref (0), .int v1, .int v2, .int v3], [.int (S5.1 (shU true) 9), .ref 35, .ref 109], mk true S5)) rfl hok ?_
        obtain ⟨S7, hq, hf⟩ := bndV_ex hf
        refine mcall (kd := 0) (vs := [.ref 109, .ref 35, .int (S5.1 (shU true) 9)]) (rest := []) (r := none) (h' := mk true S7) (ok' := true) C lkRX11_204 (qX7_look hq) (kX11_seats _ (List.mem_of_getElem? (i := 23) rfl)).1 ⟨_, _, rfl, rfl, Nat.le_of_ble_eq_true rfl, _, _, rfl, rfl, rfl⟩ (Nat.le_of_ble_eq_true rfl) (Nat.le_of_ble_eq_true rfl) (Nat.le_refl _) (Nat.le_refl _) (Nat.le_of_ble_eq_true rfl) ?_
        obtain ⟨hok, hf⟩ := grd_ex hf
        refine msegT C kX11_seats 24 4 (g := ((kO 0 11 && true), 53, [.ref (0), .int v1, .int v2, .int v3], [.int v3, .int v2, .ref 109], mk true S7)) rfl hok ?_
        obtain ⟨S8, hq, hf⟩ := bndV_ex hf
        refine mcall (kd := 0) (vs := [.ref 109, .int v2, .int v3]) (rest := []) (r := none) (h' := mk true S8) (ok' := true) C lkRX11_206 (qX7_share hq) (kX11_seats _ (List.mem_of_getElem? (i := 28) rfl)).1 ⟨_, _, rfl, rfl, Nat.le_of_ble_eq_true rfl, _, _, rfl, rfl, rfl⟩ (Nat.le_of_ble_eq_true rfl) (Nat.le_of_ble_eq_true rfl) (Nat.le_refl _) (Nat.le_refl _) (Nat.le_of_ble_eq_true rfl) ?_
        obtain ⟨hok, hf⟩ := grd_ex hf
        refine msegT C kX11_seats 29 5 (g := ((kI 111 v1 && (kO 109 7 && (kO 0 11 && true))), 65, [.ref (0), .int v1, .int v2, .int v3], [.int (S8.1 111 (mIx v1))], mk true S8)) rfl hok ?_
        cases hf
        exact gret_i C hr hk (kX11_seats _ (List.mem_of_getElem? (i := 34) rfl)).1
theorem qX11_seats_t {v1 : Int32} {v2 : Int32} {v3 : Int32} {S S' : mT} {r : Int32} (hf : fX11_seats true v1 v2 v3 S = some (r, S')) : mOk l mX11_seats 4 [.ref (0), .int v1, .int v2, .int v3] true S (some (.int r)) S' :=
  gMet (by decide) (Nat.le_of_ble_eq_true rfl) rfl (Nat.le_of_ble_eq_true rfl) (fun p e s m args below meth c G C hr hk => bX11_seats_0_t C hr hk hf true)
end GP
