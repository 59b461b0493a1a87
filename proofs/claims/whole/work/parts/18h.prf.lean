section GP
variable {p : Program} {l : Launch} {e : Env} {s : State} {m : MethodId} {args : Array Value} {below : List Frame} {meth : Method} {c : Code} {G : mG}
theorem bX12_range_17 (C : mCx p (mR 4) s m args meth c G cX12_range RX12 7 false 233 54500 233 54500) (hr : meth.sig.returnType = (some .int)) (hk : meth.locks = false) {b : Bool} {S' : mT} {r : Int32} {S : mT} (hf : fX12_range_17 S = some (r, S')) (ok : Bool) : mW p l e (mR 4) s m args below meth c G 7 233 54500 (mQ below G args s b S' (some (.int r))) (ok, 17, [.retAddr 0, .retAddr 0, .retAddr 0, .retAddr 0, .retAddr 0, .retAddr 0, .retAddr 0], [], mk b S) := by
  unfold fX12_range_17 at hf
  refine msegT C kX12_range 9 1 (g := (true, 18, [.retAddr 0, .retAddr 0, .retAddr 0, .retAddr 0, .retAddr 0, .retAddr 0, .retAddr 0], [.int (-1 : Int32)], mk b S)) rfl rfl ?_
  cases hf
  exact gret_i C hr hk (kX12_range _ (List.mem_of_getElem? (i := 10) rfl)).1
theorem bX12_range_76 (C : mCx p (mR 4) s m args meth c G cX12_range RX12 7 false 233 54500 233 54500) (hr : meth.sig.returnType = (some .int)) (hk : meth.locks = false) {b : Bool} {S' : mT} {r : Int32} {rc33 : Int32 → Int32 → Int32 → Int32 → Int32 → mT → Option (Int32 × mT)} (Hrc33 : ∀ (v1 : Int32) (v2 : Int32) (v4 : Int32) (v5 : Int32) (v6 : Int32) (S : mT), rc33 v1 v2 v4 v5 v6 S = some (r, S') → ∀ ok : Bool, mW p l e (mR 4) s m args below meth c G 7 233 54500 (mQ below G args s b S' (some (.int r))) (ok, 33, [.ref (187), .int v1, .int v2, .retAddr 0, .int v4, .int v5, .int v6], [], mk b S)) {v1 : Int32} {v2 : Int32} {v4 : Int32} {v5 : Int32} {v6 : Int32} {S : mT} (hf : fX12_range_76 rc33 v1 v2 v4 v5 v6 S = some (r, S')) (ok : Bool) : mW p l e (mR 4) s m args below meth c G 7 233 54500 (mQ below G args s b S' (some (.int r))) (ok, 76, [.ref (187), .int v1, .int v2, .retAddr 0, .int v4, .int v5, .int v6], [], mk b S) := by
  unfold fX12_range_76 at hf
  refine msegT C kX12_range 41 1 (g := (true, 79, [.ref (187), .int v1, .int v2, .retAddr 0, .int v4, .int v5, .int (v6 + (1 : Int32))], [], mk b S)) rfl rfl ?_
  obtain ⟨x6, ex6, hf⟩ := bnd_ex hf
  rw [← ex6]
  refine msegT C kX12_range 42 1 (g := (true, 33, [.ref (187), .int v1, .int v2, .retAddr 0, .int v4, .int v5, .int x6], [], mk b S)) rfl rfl ?_
  exact mfor (L' := [.ref (187), .int v1, .int v2, .retAddr 0, .int v4, .int v5, .int x6]) ⟨Or.inr rfl, Or.inr rfl, Or.inr rfl, Or.inl rfl, Or.inr rfl, Or.inr rfl, Or.inr rfl, trivial⟩ (Hrc33 _ _ _ _ _ _ hf true)
theorem bX12_range_70 (C : mCx p (mR 4) s m args meth c G cX12_range RX12 7 false 233 54500 233 54500) (hr : meth.sig.returnType = (some .int)) (hk : meth.locks = false) {b : Bool} {S' : mT} {r : Int32} {rc33 : Int32 → Int32 → Int32 → Int32 → Int32 → mT → Option (Int32 × mT)} (Hrc33 : ∀ (v1 : Int32) (v2 : Int32) (v4 : Int32) (v5 : Int32) (v6 : Int32) (S : mT), rc33 v1 v2 v4 v5 v6 S = some (r, S') → ∀ ok : Bool, mW p l e (mR 4) s m args below meth c G 7 233 54500 (mQ below G args s b S' (some (.int r))) (ok, 33, [.ref (187), .int v1, .int v2, .retAddr 0, .int v4, .int v5, .int v6], [], mk b S)) {v1 : Int32} {v2 : Int32} {v6 : Int32} {s0 : Int32} {S : mT} (hf : fX12_range_70 rc33 v1 v2 v6 s0 S = some (r, S')) (ok : Bool) : mW p l e (mR 4) s m args below meth c G 7 233 54500 (mQ below G args s b S' (some (.int r))) (ok, 70, [.ref (187), .int v1, .int v2, .retAddr 0, .retAddr 0, .retAddr 0, .int v6], [.int s0], mk b S) := by
  unfold fX12_range_70 at hf
  refine msegT C kX12_range 38 3 (g := (true, 76, [.ref (187), .int v1, .int v2, .retAddr 0, .int s0, .int v6, .int v6], [], mk b S)) rfl rfl ?_
  exact mfor (L' := [.ref (187), .int v1, .int v2, .retAddr 0, .int s0, .int v6, .int v6]) ⟨Or.inr rfl, Or.inr rfl, Or.inr rfl, Or.inl rfl, Or.inr rfl, Or.inr rfl, Or.inr rfl, trivial⟩ (bX12_range_76 C hr hk Hrc33 hf true)
theorem bX12_range_93 (C : mCx p (mR 4) s m args meth c G cX12_range RX12 7 false 233 54500 233 54500) (hr : meth.sig.returnType = (some .int)) (hk : meth.locks = false) {b : Bool} {S' : mT} {r : Int32} {s0 : Int32} {S : mT} (hf : fX12_range_93 s0 S = some (r, S')) (ok : Bool) : mW p l e (mR 4) s m args below meth c G 7 233 54500 (mQ below G args s b S' (some (.int r))) (ok, 93, [.retAddr 0, .retAddr 0, .retAddr 0, .retAddr 0, .retAddr 0, .retAddr 0, .retAddr 0], [.int s0], mk b S) := by
  unfold fX12_range_93 at hf
  cases hf
  exact gret_i C hr hk (kX12_range _ (List.mem_of_getElem? (i := 48) rfl)).1
theorem bX12_range_33 (C : mCx p (mR 4) s m args meth c G cX12_range RX12 7 false 233 54500 233 54500) (hr : meth.sig.returnType = (some .int)) (hk : meth.locks = false) {b : Bool} {S' : mT} {r : Int32} : ∀ (k : Nat) (v1 : Int32) (v2 : Int32) (v4 : Int32) (v5 : Int32) (v6 : Int32) (S : mT), fX12_range_33 k v1 v2 v4 v5 v6 S = some (r, S') → ∀ ok : Bool, mW p l e (mR 4) s m args below meth c G 7 233 54500 (mQ below G args s b S' (some (.int r))) (ok, 33, [.ref (187), .int v1, .int v2, .retAddr 0, .int v4, .int v5, .int v6], [], mk b S) := by
  intro k
  induction k with
  | zero =>
    intro v1 v2 v4 v5 v6 S hf ok
    cases hf
  | succ k ih =>
    intro v1 v2 v4 v5 v6 S hf ok
    unfold fX12_range_33 at hf
    refine msegT C kX12_range 20 3 (g := (true, (if (7 : Int32) < v6 then 82 else 40), [.ref (187), .int v1, .int v2, .retAddr 0, .int v4, .int v5, .int v6], [], mk b S)) rfl rfl ?_
    by_cases hc : (7 : Int32) < v6
    · rw [if_pos hc] at hf ⊢
      refine msegT C kX12_range 43 2 (g := (true, (if v2 = 0 then 86 else 91), [.ref (187), .int v1, .int v2, .retAddr 0, .int v4, .int v5, .int v6], [], mk b S)) rfl rfl ?_
      by_cases hc : v2 = 0
      · rw [if_pos hc] at hf ⊢
        refine msegT C kX12_range 45 2 (g := (true, 93, [.ref (187), .int v1, .int v2, .retAddr 0, .int v4, .int v5, .int v6], [.int v4], mk b S)) rfl rfl ?_
        exact mfor (L' := [.retAddr 0, .retAddr 0, .retAddr 0, .retAddr 0, .retAddr 0, .retAddr 0, .retAddr 0]) ⟨Or.inl rfl, Or.inl rfl, Or.inl rfl, Or.inl rfl, Or.inl rfl, Or.inl rfl, Or.inl rfl, trivial⟩ (bX12_range_93 C hr hk hf true)
      · rw [if_neg hc] at hf ⊢
        refine msegT C kX12_range 47 1 (g := (true, 93, [.ref (187), .int v1, .int v2, .retAddr 0, .int v4, .int v5, .int v6], [.int v5], mk b S)) rfl rfl ?_
        exact mfor (L' := [.retAddr 0, .retAddr 0, .retAddr 0, .retAddr 0, .retAddr 0, .retAddr 0, .retAddr 0]) ⟨Or.inl rfl, Or.inl rfl, Or.inl rfl, Or.inl rfl, Or.inl rfl, Or.inl rfl, Or.inl rfl, trivial⟩ (bX12_range_93 C hr hk hf true)
    · rw [if_neg hc] at hf ⊢
      obtain ⟨hok, hf⟩ := grd_ex hf
      refine msegT C kX12_range 23 9 (g := ((kI 229 (((8 : Int32) * v1) + v6) && (kO 187 12 && true)), (if (S.1 229 (mIx (((8 : Int32) * v1) + v6))) = 0 then 55 else 58), [.ref (187), .int v1, .int v2, .retAddr 0, .int v4, .int v5, .int v6], [], mk b S)) rfl hok ?_
      by_cases hc : (S.1 229 (mIx (((8 : Int32) * v1) + v6))) = 0
      · rw [if_pos hc] at hf ⊢
        refine msegT C kX12_range 32 1 (g := (true, 76, [.ref (187), .int v1, .int v2, .retAddr 0, .int v4, .int v5, .int v6], [], mk b S)) rfl rfl ?_
        exact mfor (L' := [.ref (187), .int v1, .int v2, .retAddr 0, .int v4, .int v5, .int v6]) ⟨Or.inr rfl, Or.inr rfl, Or.inr rfl, Or.inl rfl, Or.inr rfl, Or.inr rfl, Or.inr rfl, trivial⟩ (bX12_range_76 C hr hk ih hf true)
      · rw [if_neg hc] at hf ⊢
        refine msegT C kX12_range 33 2 (g := (true, (if 0 ≤ v4 then 68 else 63), [.ref (187), .int v1, .int v2, .retAddr 0, .int v4, .int v5, .int v6], [], mk b S)) rfl rfl ?_
        by_cases hc : 0 ≤ v4
        · rw [if_pos hc] at hf ⊢
          refine msegT C kX12_range 37 1 (g := (true, 70, [.ref (187), .int v1, .int v2, .retAddr 0, .int v4, .int v5, .int v6], [.int v4], mk b S)) rfl rfl ?_
          exact mfor (L' := [.ref (187), .int v1, .int v2, .retAddr 0, .retAddr 0, .retAddr 0, .int v6]) ⟨Or.inr rfl, Or.inr rfl, Or.inr rfl, Or.inl rfl, Or.inl rfl, Or.inl rfl, Or.inr rfl, trivial⟩ (bX12_range_70 C hr hk ih hf true)
        · rw [if_neg hc] at hf ⊢
          refine msegT C kX12_range 35 2 (g := (true, 70, [.ref (187), .int v1, .int v2, .retAddr 0, .int v4, .int v5, .int v6], [.int v6], mk b S)) rfl rfl ?_
          exact mfor (L' := [.ref (187), .int v1, .int v2, .retAddr 0, .retAddr 0, .retAddr 0, .int v6]) ⟨Or.inr rfl, Or.inr rfl, Or.inr rfl, Or.inl rfl, Or.inl rfl, Or.inl rfl, Or.inr rfl, trivial⟩ (bX12_range_70 C hr hk ih hf true)
theorem bX12_range_0 (C : mCx p (mR 4) s m args meth c G cX12_range RX12 7 false 233 54500 233 54500) (hr : meth.sig.returnType = (some .int)) (hk : meth.locks = false) {b : Bool} {S' : mT} {r : Int32} {v1 : Int32} {v2 : Int32} {v3 : Int32} {S : mT} (hf : fX12_range v1 v2 v3 S = some (r, S')) (ok : Bool) : mW p l e (mR 4) s m args below meth c G 7 233 54500 (mQ below G args s b S' (some (.int r))) (ok, 0, [.ref (187), .int v1, .int v2, .int v3, .retAddr 0, .retAddr 0, .retAddr 0], [], mk b S) := by
  unfold fX12_range at hf
  refine msegT C kX12_range 0 2 (g := (true, 2, [.ref (187), .int v1, .int v2, .int v3, .retAddr 0, .retAddr 0, .retAddr 0], [.int v1, .ref (187)], mk b S)) rfl rfl ?_
  obtain ⟨x2, S1, hq, hf⟩ := bndC_ex hf
  refine mcall (kd := 0) (vs := [.ref (187), .int v1]) (rest := []) (r := (some (.int x2))) (h' := mk b S1) (ok' := true) C lkRX12_388 (qX12_isHouse hq) (kX12_range _ (List.mem_of_getElem? (i := 2) rfl)).1 ⟨_, _, rfl, rfl, Nat.le_of_ble_eq_true rfl, _, _, rfl, rfl, rfl⟩ (Nat.le_of_ble_eq_true rfl) (Nat.le_of_ble_eq_true rfl) (Nat.le_refl _) (Nat.le_refl _) (Nat.le_of_ble_eq_true rfl) ?_
  refine msegT C kX12_range 3 1 (g := (true, (if x2 = 0 then 17 else 8), [.ref (187), .int v1, .int v2, .int v3, .retAddr 0, .retAddr 0, .retAddr 0], [], mk b S1)) rfl rfl ?_
  by_cases hc : x2 = 0
  · rw [if_pos hc] at hf ⊢
    exact mfor (L' := [.retAddr 0, .retAddr 0, .retAddr 0, .retAddr 0, .retAddr 0, .retAddr 0, .retAddr 0]) ⟨Or.inl rfl, Or.inl rfl, Or.inl rfl, Or.inl rfl, Or.inl rfl, Or.inl rfl, Or.inl rfl, trivial⟩ (bX12_range_17 C hr hk hf true)
  · rw [if_neg hc] at hf ⊢
    refine msegT C kX12_range 4 3 (g := (true, 11, [.ref (187), .int v1, .int v2, .int v3, .retAddr 0, .retAddr 0, .retAddr 0], [.int (1 : Int32), .int (0 : Int32), .int v2], mk b S1)) rfl rfl ?_
    obtain ⟨x4, S3, hq, hf⟩ := bndC_ex hf
    refine mcall (kd := 1) (vs := [.int v2, .int (0 : Int32), .int (1 : Int32)]) (rest := []) (r := (some (.int x4))) (h' := mk b S3) (ok' := true) C lkRX12_362 (qX12_isIn hq) (kX12_range _ (List.mem_of_getElem? (i := 7) rfl)).1 rfl (Nat.le_of_ble_eq_true rfl) (Nat.le_of_ble_eq_true rfl) (Nat.le_refl _) (Nat.le_refl _) (Nat.le_of_ble_eq_true rfl) ?_
    refine msegT C kX12_range 8 1 (g := (true, (if x4 = 0 then 17 else 19), [.ref (187), .int v1, .int v2, .int v3, .retAddr 0, .retAddr 0, .retAddr 0], [], mk b S3)) rfl rfl ?_
    by_cases hc : x4 = 0
    · rw [if_pos hc] at hf ⊢
      exact mfor (L' := [.retAddr 0, .retAddr 0, .retAddr 0, .retAddr 0, .retAddr 0, .retAddr 0, .retAddr 0]) ⟨Or.inl rfl, Or.inl rfl, Or.inl rfl, Or.inl rfl, Or.inl rfl, Or.inl rfl, Or.inl rfl, trivial⟩ (bX12_range_17 C hr hk hf true)
    · rw [if_neg hc] at hf ⊢
      refine msegT C kX12_range 11 2 (g := (true, 21, [.ref (187), .int v1, .int v2, .int v3, .retAddr 0, .retAddr 0, .retAddr 0], [.int v3, .ref (187)], mk b S3)) rfl rfl ?_
      obtain ⟨S5, hq, hf⟩ := bndV_ex hf
      refine mcall (kd := 0) (vs := [.ref (187), .int v3]) (rest := []) (r := none) (h' := mk b S5) (ok' := true) C lkRX12_479 (qX12_layTruths hq) (kX12_range _ (List.mem_of_getElem? (i := 13) rfl)).1 ⟨_, _, rfl, rfl, Nat.le_of_ble_eq_true rfl, _, _, rfl, rfl, rfl⟩ (Nat.le_of_ble_eq_true rfl) (Nat.le_of_ble_eq_true rfl) (Nat.le_refl _) (Nat.le_refl _) (Nat.le_of_ble_eq_true rfl) ?_
      refine msegT C kX12_range 14 6 (g := (true, 33, [.ref (187), .int v1, .int v2, .int v3, .int (-1 : Int32), .int (-1 : Int32), .int (0 : Int32)], [], mk b S5)) rfl rfl ?_
      exact mfor (L' := [.ref (187), .int v1, .int v2, .retAddr 0, .int (-1 : Int32), .int (-1 : Int32), .int (0 : Int32)]) ⟨Or.inr rfl, Or.inr rfl, Or.inr rfl, Or.inl rfl, Or.inr rfl, Or.inr rfl, Or.inr rfl, trivial⟩ (bX12_range_33 C hr hk _ _ _ _ _ _ _ hf true)
theorem qX12_range {b : Bool} {v1 : Int32} {v2 : Int32} {v3 : Int32} {S S' : mT} {r : Int32} (hf : fX12_range v1 v2 v3 S = some (r, S')) : mOk l mX12_range 4 [.ref (187), .int v1, .int v2, .int v3] b S (some (.int r)) S' :=
  gMet (by decide) (Nat.le_of_ble_eq_true rfl) rfl (Nat.le_of_ble_eq_true rfl) (fun p e s m args below meth c G C hr hk => bX12_range_0 C hr hk hf true)
theorem bX12_redo_0 (C : mCx p (mR 2) s m args meth c G cX12_redo RX12 1 false 233 54500 233 54500) (hr : meth.sig.returnType = (some .boolean)) (hk : meth.locks = false) {b : Bool} {S' : mT} {r : Int32} {S : mT} (hf : fX12_redo S = some (r, S')) (ok : Bool) : mW p l e (mR 2) s m args below meth c G 1 233 54500 (mQ below G args s b S' (some (.int r))) (ok, 0, [.ref (187)], [], mk b S) := by
  unfold fX12_redo at hf
  obtain ⟨hok, hf⟩ := grd_ex hf
  refine msegT C kX12_redo 0 3 (g := ((kO 187 12 && true), (if (S.1 187 47) = 0 then 7 else 9), [.ref (187)], [], mk b S)) rfl hok ?_
  by_cases hc : (S.1 187 47) = 0
  · rw [if_pos hc] at hf ⊢
    refine msegT C kX12_redo 3 1 (g := (true, 8, [.ref (187)], [.int (0 : Int32)], mk b S)) rfl rfl ?_
    cases hf
    exact gret_z C hr hk (by decide) (kX12_redo _ (List.mem_of_getElem? (i := 4) rfl)).1
  · rw [if_neg hc] at hf ⊢
    obtain ⟨hok, hf⟩ := grd_ex hf
    refine msegT C kX12_redo 5 5 (g := ((kO 187 12 && true), 17, [.ref (187)], [.int ((18 : Int32) * (S.1 187 46)), .ref (187)], mk b S)) rfl hok ?_
    obtain ⟨S1, hq, hf⟩ := bndV_ex hf
    refine mcall (kd := 0) (vs := [.ref (187), .int ((18 : Int32) * (S.1 187 46))]) (rest := []) (r := none) (h' := mk b S1) (ok' := true) C lkRX12_418 (qX12_exchange hq) (kX12_redo _ (List.mem_of_getElem? (i := 10) rfl)).1 ⟨_, _, rfl, rfl, Nat.le_of_ble_eq_true rfl, _, _, rfl, rfl, rfl⟩ (Nat.le_of_ble_eq_true rfl) (Nat.le_of_ble_eq_true rfl) (Nat.le_refl _) (Nat.le_refl _) (Nat.le_of_ble_eq_true rfl) ?_
    obtain ⟨hok, hf⟩ := grd_ex hf
    refine msegT C kX12_redo 11 6 (g := ((kO 187 12 && (kO 187 12 && true)), 30, [.ref (187)], [], mk b (sI S1 187 46 ((S1.1 187 46) + (1 : Int32))))) rfl hok ?_
    obtain ⟨S2, eS2, hf⟩ := bnd_ex hf
    rw [← eS2]
    obtain ⟨hok, hf⟩ := grd_ex hf
    refine msegT C kX12_redo 17 6 (g := ((kO 187 12 && (kO 187 12 && true)), 40, [.ref (187)], [], mk b (sI S2 187 47 ((S2.1 187 47) - (1 : Int32))))) rfl hok ?_
    obtain ⟨S3, eS3, hf⟩ := bnd_ex hf
    rw [← eS3]
    refine msegT C kX12_redo 23 1 (g := (true, 41, [.ref (187)], [.int (1 : Int32)], mk b S3)) rfl rfl ?_
    cases hf
    exact gret_z C hr hk (by decide) (kX12_redo _ (List.mem_of_getElem? (i := 24) rfl)).1
theorem qX12_redo {b : Bool} {S S' : mT} {r : Int32} (hf : fX12_redo S = some (r, S')) : mOk l mX12_redo 2 [.ref (187)] b S (some (.int r)) S' :=
  gMet (by decide) (Nat.le_of_ble_eq_true rfl) rfl (Nat.le_of_ble_eq_true rfl) (fun p e s m args below meth c G C hr hk => bX12_redo_0 C hr hk hf true)
theorem bX12_report_45 (C : mCx p (mR 2) s m args meth c G cX12_report RX12 4 false 233 54500 233 54500) (hr : meth.sig.returnType = (some .int)) (hk : meth.locks = false) {b : Bool} {S' : mT} {r : Int32} {S : mT} (hf : fX12_report_45 S = some (r, S')) (ok : Bool) : mW p l e (mR 2) s m args below meth c G 4 233 54500 (mQ below G args s b S' (some (.int r))) (ok, 45, [.retAddr 0, .retAddr 0, .retAddr 0, .retAddr 0], [], mk b S) := by
  unfold fX12_report_45 at hf
  refine msegT C kX12_report 24 1 (g := (true, 46, [.retAddr 0, .retAddr 0, .retAddr 0, .retAddr 0], [.int (-1 : Int32)], mk b S)) rfl rfl ?_
  cases hf
  exact gret_i C hr hk (kX12_report _ (List.mem_of_getElem? (i := 25) rfl)).1
theorem bX12_report_0 (C : mCx p (mR 2) s m args meth c G cX12_report RX12 4 false 233 54500 233 54500) (hr : meth.sig.returnType = (some .int)) (hk : meth.locks = false) {b : Bool} {S' : mT} {r : Int32} {v1 : Int32} {v2 : Int32} {v3 : Int32} {S : mT} (hf : fX12_report v1 v2 v3 S = some (r, S')) (ok : Bool) : mW p l e (mR 2) s m args below meth c G 4 233 54500 (mQ below G args s b S' (some (.int r))) (ok, 0, [.ref (187), .int v1, .int v2, .int v3], [], mk b S) := by
  unfold fX12_report at hf
  obtain ⟨hok, hf⟩ := grd_ex hf
  refine msegT C kX12_report 0 8 (g := ((kO 187 12 && true), 10, [.ref (187), .int v1, .int v2, .int v3], [.int (((1 : Int32) <<< ((S.1 187 37) &&& 31)) - (1 : Int32)), .int (1 : Int32), .int v1], mk b S)) rfl hok ?_
  obtain ⟨x2, S1, hq, hf⟩ := bndC_ex hf
  refine mcall (kd := 1) (vs := [.int v1, .int (1 : Int32), .int (((1 : Int32) <<< ((S.1 187 37) &&& 31)) - (1 : Int32))]) (rest := []) (r := (some (.int x2))) (h' := mk b S1) (ok' := true) C lkRX12_362 (qX12_isIn hq) (kX12_report _ (List.mem_of_getElem? (i := 8) rfl)).1 rfl (Nat.le_of_ble_eq_true rfl) (Nat.le_of_ble_eq_true rfl) (Nat.le_refl _) (Nat.le_refl _) (Nat.le_of_ble_eq_true rfl) ?_
  refine msegT C kX12_report 9 1 (g := (true, (if x2 = 0 then 45 else 16), [.ref (187), .int v1, .int v2, .int v3], [], mk b S1)) rfl rfl ?_
  by_cases hc : x2 = 0
  · rw [if_pos hc] at hf ⊢
    exact mfor (L' := [.retAddr 0, .retAddr 0, .retAddr 0, .retAddr 0]) ⟨Or.inl rfl, Or.inl rfl, Or.inl rfl, Or.inl rfl, trivial⟩ (bX12_report_45 C hr hk hf true)
  · rw [if_neg hc] at hf ⊢
    refine msegT C kX12_report 10 3 (g := (true, 20, [.ref (187), .int v1, .int v2, .int v3], [.int (35 : Int32), .int (0 : Int32), .int v2], mk b S1)) rfl rfl ?_
    obtain ⟨x4, S3, hq, hf⟩ := bndC_ex hf
    refine mcall (kd := 1) (vs := [.int v2, .int (0 : Int32), .int (35 : Int32)]) (rest := []) (r := (some (.int x4))) (h' := mk b S3) (ok' := true) C lkRX12_362 (qX12_isIn hq) (kX12_report _ (List.mem_of_getElem? (i := 13) rfl)).1 rfl (Nat.le_of_ble_eq_true rfl) (Nat.le_of_ble_eq_true rfl) (Nat.le_refl _) (Nat.le_refl _) (Nat.le_of_ble_eq_true rfl) ?_
    refine msegT C kX12_report 14 1 (g := (true, (if x4 = 0 then 45 else 26), [.ref (187), .int v1, .int v2, .int v3], [], mk b S3)) rfl rfl ?_
    by_cases hc : x4 = 0
    · rw [if_pos hc] at hf ⊢
      exact mfor (L' := [.retAddr 0, .retAddr 0, .retAddr 0, .retAddr 0]) ⟨Or.inl rfl, Or.inl rfl, Or.inl rfl, Or.inl rfl, trivial⟩ (bX12_report_45 C hr hk hf true)
    · rw [if_neg hc] at hf ⊢
      refine msegT C kX12_report 15 3 (g := (true, 30, [.ref (187), .int v1, .int v2, .int v3], [.int (35 : Int32), .int v2, .int v3], mk b S3)) rfl rfl ?_
      obtain ⟨x6, S5, hq, hf⟩ := bndC_ex hf
      refine mcall (kd := 1) (vs := [.int v3, .int v2, .int (35 : Int32)]) (rest := []) (r := (some (.int x6))) (h' := mk b S5) (ok' := true) C lkRX12_362 (qX12_isIn hq) (kX12_report _ (List.mem_of_getElem? (i := 18) rfl)).1 rfl (Nat.le_of_ble_eq_true rfl) (Nat.le_of_ble_eq_true rfl) (Nat.le_refl _) (Nat.le_refl _) (Nat.le_of_ble_eq_true rfl) ?_
      refine msegT C kX12_report 19 1 (g := (true, (if x6 = 0 then 45 else 36), [.ref (187), .int v1, .int v2, .int v3], [], mk b S5)) rfl rfl ?_
      by_cases hc : x6 = 0
      · rw [if_pos hc] at hf ⊢
        exact mfor (L' := [.retAddr 0, .retAddr 0, .retAddr 0, .retAddr 0]) ⟨Or.inl rfl, Or.inl rfl, Or.inl rfl, Or.inl rfl, trivial⟩ (bX12_report_45 C hr hk hf true)
      · rw [if_neg hc] at hf ⊢
        obtain ⟨hok, hf⟩ := grd_ex hf
        refine msegT C kX12_report 20 4 (g := ((kO 187 12 && true), (if (S5.1 187 66) = (30 : Int32) then 45 else 47), [.ref (187), .int v1, .int v2, .int v3], [], mk b S5)) rfl hok ?_
        by_cases hc : (S5.1 187 66) = (30 : Int32)
        · rw [if_pos hc] at hf ⊢
          exact mfor (L' := [.retAddr 0, .retAddr 0, .retAddr 0, .retAddr 0]) ⟨Or.inl rfl, Or.inl rfl, Or.inl rfl, Or.inl rfl, trivial⟩ (bX12_report_45 C hr hk hf true)
        · rw [if_neg hc] at hf ⊢
          obtain ⟨hok, hf⟩ := grd_ex hf
          refine msegT C kX12_report 26 6 (g := ((kI 224 (S5.1 187 66) && (kO 187 12 && (kO 187 12 && true))), 57, [.ref (187), .int v1, .int v2, .int v3], [], mk b (sI S5 224 (mIx (S5.1 187 66)) v1))) rfl hok ?_
          obtain ⟨S7, eS7, hf⟩ := bnd_ex hf
          rw [← eS7]
          obtain ⟨hok, hf⟩ := grd_ex hf
          refine msegT C kX12_report 32 6 (g := ((kI 225 (S7.1 187 66) && (kO 187 12 && (kO 187 12 && true))), 67, [.ref (187), .int v1, .int v2, .int v3], [], mk b (sI S7 225 (mIx (S7.1 187 66)) v2))) rfl hok ?_
          obtain ⟨S8, eS8, hf⟩ := bnd_ex hf
          rw [← eS8]
          obtain ⟨hok, hf⟩ := grd_ex hf
          refine msegT C kX12_report 38 6 (g := ((kI 226 (S8.1 187 66) && (kO 187 12 && (kO 187 12 && true))), 77, [.ref (187), .int v1, .int v2, .int v3], [], mk b (sI S8 226 (mIx (S8.1 187 66)) v3))) rfl hok ?_
          obtain ⟨S9, eS9, hf⟩ := bnd_ex hf
          rw [← eS9]
          obtain ⟨hok, hf⟩ := grd_ex hf
          refine msegT C kX12_report 44 7 (g := ((kI 227 (S9.1 187 66) && (kO 187 12 && (kO 187 12 && (kO 187 12 && true)))), 90, [.ref (187), .int v1, .int v2, .int v3], [], mk b (sI S9 227 (mIx (S9.1 187 66)) (S9.1 187 67)))) rfl hok ?_
          obtain ⟨S10, eS10, hf⟩ := bnd_ex hf
          rw [← eS10]
          obtain ⟨hok, hf⟩ := grd_ex hf
          refine msegT C kX12_report 51 6 (g := ((kI 228 (S10.1 187 66) && (kO 187 12 && (kO 187 12 && true))), 100, [.ref (187), .int v1, .int v2, .int v3], [], mk b (sI S10 228 (mIx (S10.1 187 66)) (-1 : Int32)))) rfl hok ?_
          obtain ⟨S11, eS11, hf⟩ := bnd_ex hf
          rw [← eS11]
          obtain ⟨hok, hf⟩ := grd_ex hf
          refine msegT C kX12_report 57 6 (g := ((kO 187 12 && (kO 187 12 && true)), 110, [.ref (187), .int v1, .int v2, .int v3], [], mk b (sI S11 187 66 ((S11.1 187 66) + (1 : Int32))))) rfl hok ?_
          obtain ⟨S12, eS12, hf⟩ := bnd_ex hf
          rw [← eS12]
          obtain ⟨hok, hf⟩ := grd_ex hf
          refine msegT C kX12_report 63 4 (g := ((kO 187 12 && true), 116, [.ref (187), .int v1, .int v2, .int v3], [.int ((S12.1 187 66) - (1 : Int32))], mk b S12)) rfl hok ?_
          cases hf
          exact gret_i C hr hk (kX12_report _ (List.mem_of_getElem? (i := 67) rfl)).1
theorem qX12_report {b : Bool} {v1 : Int32} {v2 : Int32} {v3 : Int32} {S S' : mT} {r : Int32} (hf : fX12_report v1 v2 v3 S = some (r, S')) : mOk l mX12_report 2 [.ref (187), .int v1, .int v2, .int v3] b S (some (.int r)) S' :=
  gMet (by decide) (Nat.le_of_ble_eq_true rfl) rfl (Nat.le_of_ble_eq_true rfl) (fun p e s m args below meth c G C hr hk => bX12_report_0 C hr hk hf true)
theorem bX12_rounds_111 (C : mCx p (mR 3) s m args meth c G cX12_rounds RX12 7 false 233 54500 233 54500) (hr : meth.sig.returnType = (some .int)) (hk : meth.locks = false) {b : Bool} {S' : mT} {r : Int32} {rc28 : Int32 → Int32 → Int32 → Int32 → mT → Option (Int32 × mT)} (Hrc28 : ∀ (v1 : Int32) (v2 : Int32) (v3 : Int32) (v4 : Int32) (S : mT), rc28 v1 v2 v3 v4 S = some (r, S') → ∀ ok : Bool, mW p l e (mR 3) s m args below meth c G 7 233 54500 (mQ below G args s b S' (some (.int r))) (ok, 28, [.ref (187), .int v1, .int v2, .int v3, .int v4, .retAddr 0, .retAddr 0], [], mk b S)) {v1 : Int32} {v2 : Int32} {v3 : Int32} {v4 : Int32} {S : mT} (hf : fX12_rounds_111 rc28 v1 v2 v3 v4 S = some (r, S')) (ok : Bool) : mW p l e (mR 3) s m args below meth c G 7 233 54500 (mQ below G args s b S' (some (.int r))) (ok, 111, [.ref (187), .int v1, .int v2, .int v3, .int v4, .retAddr 0, .retAddr 0], [], mk b S) := by
  unfold fX12_rounds_111 at hf
  refine msegT C kX12_rounds 58 1 (g := (true, 114, [.ref (187), .int v1, .int v2, .int v3, .int (v4 + (1 : Int32)), .retAddr 0, .retAddr 0], [], mk b S)) rfl rfl ?_
  obtain ⟨x8, ex8, hf⟩ := bnd_ex hf
  rw [← ex8]
  refine msegT C kX12_rounds 59 1 (g := (true, 28, [.ref (187), .int v1, .int v2, .int v3, .int x8, .retAddr 0, .retAddr 0], [], mk b S)) rfl rfl ?_
  exact mfor (L' := [.ref (187), .int v1, .int v2, .int v3, .int x8, .retAddr 0, .retAddr 0]) ⟨Or.inr rfl, Or.inr rfl, Or.inr rfl, Or.inr rfl, Or.inr rfl, Or.inl rfl, Or.inl rfl, trivial⟩ (Hrc28 _ _ _ _ _ hf true)
theorem bX12_rounds_74 (C : mCx p (mR 3) s m args meth c G cX12_rounds RX12 7 false 233 54500 233 54500) (hr : meth.sig.returnType = (some .int)) (hk : meth.locks = false) {b : Bool} {S' : mT} {r : Int32} {rc28 : Int32 → Int32 → Int32 → Int32 → mT → Option (Int32 × mT)} (Hrc28 : ∀ (v1 : Int32) (v2 : Int32) (v3 : Int32) (v4 : Int32) (S : mT), rc28 v1 v2 v3 v4 S = some (r, S') → ∀ ok : Bool, mW p l e (mR 3) s m args below meth c G 7 233 54500 (mQ below G args s b S' (some (.int r))) (ok, 28, [.ref (187), .int v1, .int v2, .int v3, .int v4, .retAddr 0, .retAddr 0], [], mk b S)) : ∀ (k : Nat) (v1 : Int32) (v2 : Int32) (v3 : Int32) (v4 : Int32) (v6 : Int32) (S : mT), fX12_rounds_74 rc28 k v1 v2 v3 v4 v6 S = some (r, S') → ∀ ok : Bool, mW p l e (mR 3) s m args below meth c G 7 233 54500 (mQ below G args s b S' (some (.int r))) (ok, 74, [.ref (187), .int v1, .int v2, .int v3, .int v4, .retAddr 0, .int v6], [], mk b S) := by
  intro k
  induction k with
  | zero =>
    intro v1 v2 v3 v4 v6 S hf ok
    cases hf
  | succ k ih =>
    intro v1 v2 v3 v4 v6 S hf ok
    unfold fX12_rounds_74 at hf
    obtain ⟨hok, hf⟩ := grd_ex hf
    refine msegT C kX12_rounds 40 4 (g := ((kO 187 12 && true), (if (S.1 187 37) ≤ v6 then 103 else 83), [.ref (187), .int v1, .int v2, .int v3, .int v4, .retAddr 0, .int v6], [], mk b S)) rfl hok ?_
    by_cases hc : (S.1 187 37) ≤ v6
    · rw [if_pos hc] at hf ⊢
      obtain ⟨hok, hf⟩ := grd_ex hf
      refine msegT C kX12_rounds 54 4 (g := ((kO 187 12 && (kO 187 12 && true)), 111, [.ref (187), .int v1, .int v2, .int v3, .int v4, .retAddr 0, .int v6], [], mk b (sI S 187 51 (S.1 187 37)))) rfl hok ?_
      obtain ⟨S11, eS11, hf⟩ := bnd_ex hf
      rw [← eS11]
      exact mfor (L' := [.ref (187), .int v1, .int v2, .int v3, .int v4, .retAddr 0, .retAddr 0]) ⟨Or.inr rfl, Or.inr rfl, Or.inr rfl, Or.inr rfl, Or.inr rfl, Or.inl rfl, Or.inl rfl, trivial⟩ (bX12_rounds_111 C hr hk Hrc28 hf true)
    · rw [if_neg hc] at hf ⊢
      obtain ⟨hok, hf⟩ := grd_ex hf
      refine msegT C kX12_rounds 44 8 (g := ((kI 215 v6 && (kI 216 v6 && (kO 187 12 && (kO 187 12 && true)))), 97, [.ref (187), .int v1, .int v2, .int v3, .int v4, .retAddr 0, .int v6], [], mk b (sI S 215 (mIx v6) (S.1 216 (mIx v6))))) rfl hok ?_
      obtain ⟨S12, eS12, hf⟩ := bnd_ex hf
      rw [← eS12]
      refine msegT C kX12_rounds 52 1 (g := (true, 100, [.ref (187), .int v1, .int v2, .int v3, .int v4, .retAddr 0, .int (v6 + (1 : Int32))], [], mk b S12)) rfl rfl ?_
      obtain ⟨x13, ex13, hf⟩ := bnd_ex hf
      rw [← ex13]
      refine msegT C kX12_rounds 53 1 (g := (true, 74, [.ref (187), .int v1, .int v2, .int v3, .int v4, .retAddr 0, .int x13], [], mk b S12)) rfl rfl ?_
      exact mfor (L' := [.ref (187), .int v1, .int v2, .int v3, .int v4, .retAddr 0, .int x13]) ⟨Or.inr rfl, Or.inr rfl, Or.inr rfl, Or.inr rfl, Or.inr rfl, Or.inl rfl, Or.inr rfl, trivial⟩ (ih _ _ _ _ _ _ hf true)
theorem bX12_rounds_57 (C : mCx p (mR 3) s m args meth c G cX12_rounds RX12 7 false 233 54500 233 54500) (hr : meth.sig.returnType = (some .int)) (hk : meth.locks = false) {b : Bool} {S' : mT} {r : Int32} {rc28 : Int32 → Int32 → Int32 → Int32 → mT → Option (Int32 × mT)} (Hrc28 : ∀ (v1 : Int32) (v2 : Int32) (v3 : Int32) (v4 : Int32) (S : mT), rc28 v1 v2 v3 v4 S = some (r, S') → ∀ ok : Bool, mW p l e (mR 3) s m args below meth c G 7 233 54500 (mQ below G args s b S' (some (.int r))) (ok, 28, [.ref (187), .int v1, .int v2, .int v3, .int v4, .retAddr 0, .retAddr 0], [], mk b S)) {v1 : Int32} {v2 : Int32} {v3 : Int32} {v4 : Int32} {v5 : Int32} {S : mT} (hf : fX12_rounds_57 rc28 v1 v2 v3 v4 v5 S = some (r, S')) (ok : Bool) : mW p l e (mR 3) s m args below meth c G 7 233 54500 (mQ below G args s b S' (some (.int r))) (ok, 57, [.ref (187), .int v1, .int v2, .int v3, .int v4, .int v5, .retAddr 0], [], mk b S) := by
  unfold fX12_rounds_57 at hf
  refine msegT C kX12_rounds 31 1 (g := (true, 58, [.ref (187), .int v1, .int v2, .int v3, .int v4, .int v5, .retAddr 0], [.ref (187)], mk b S)) rfl rfl ?_
  obtain ⟨x10, S9, hq, hf⟩ := bndC_ex hf
  refine mcall (kd := 0) (vs := [.ref (187)]) (rest := []) (r := (some (.int x10))) (h' := mk b S9) (ok' := true) C lkRX12_442 (qX12_doneAt hq) (kX12_rounds _ (List.mem_of_getElem? (i := 32) rfl)).1 ⟨_, _, rfl, rfl, Nat.le_of_ble_eq_true rfl, _, _, rfl, rfl, rfl⟩ (Nat.le_of_ble_eq_true rfl) (Nat.le_of_ble_eq_true rfl) (Nat.le_refl _) (Nat.le_refl _) (Nat.le_of_ble_eq_true rfl) ?_
  refine msegT C kX12_rounds 33 2 (g := (true, (if x10 ≤ v1 then 68 else 65), [.ref (187), .int v1, .int v2, .int v3, .int v4, .int v5, .retAddr 0], [], mk b S9)) rfl rfl ?_
  by_cases hc : x10 ≤ v1
  · rw [if_pos hc] at hf ⊢
    refine msegT C kX12_rounds 36 4 (g := (true, 74, [.ref (187), .int v1, .int v5, .int v3, .int v4, .int v5, .int (0 : Int32)], [], mk b S9)) rfl rfl ?_
    exact mfor (L' := [.ref (187), .int v1, .int v5, .int v3, .int v4, .retAddr 0, .int (0 : Int32)]) ⟨Or.inr rfl, Or.inr rfl, Or.inr rfl, Or.inr rfl, Or.inr rfl, Or.inl rfl, Or.inr rfl, trivial⟩ (bX12_rounds_74 C hr hk Hrc28 _ _ _ _ _ _ _ hf true)
  · rw [if_neg hc] at hf ⊢
    refine msegT C kX12_rounds 35 1 (g := (true, 111, [.ref (187), .int v1, .int v2, .int v3, .int v4, .int v5, .retAddr 0], [], mk b S9)) rfl rfl ?_
    exact mfor (L' := [.ref (187), .int v1, .int v2, .int v3, .int v4, .retAddr 0, .retAddr 0]) ⟨Or.inr rfl, Or.inr rfl, Or.inr rfl, Or.inr rfl, Or.inr rfl, Or.inl rfl, Or.inl rfl, trivial⟩ (bX12_rounds_111 C hr hk Hrc28 hf true)
theorem bX12_rounds_28 (C : mCx p (mR 3) s m args meth c G cX12_rounds RX12 7 false 233 54500 233 54500) (hr : meth.sig.returnType = (some .int)) (hk : meth.locks = false) {b : Bool} {S' : mT} {r : Int32} : ∀ (k : Nat) (v1 : Int32) (v2 : Int32) (v3 : Int32) (v4 : Int32) (S : mT), fX12_rounds_28 k v1 v2 v3 v4 S = some (r, S') → ∀ ok : Bool, mW p l e (mR 3) s m args below meth c G 7 233 54500 (mQ below G args s b S' (some (.int r))) (ok, 28, [.ref (187), .int v1, .int v2, .int v3, .int v4, .retAddr 0, .retAddr 0], [], mk b S) := by
  intro k
  induction k with
  | zero =>
    intro v1 v2 v3 v4 S hf ok
    cases hf
  | succ k ih =>
    intro v1 v2 v3 v4 S hf ok
    unfold fX12_rounds_28 at hf
    refine msegT C kX12_rounds 17 3 (g := (true, (if v3 ≤ v4 then 117 else 34), [.ref (187), .int v1, .int v2, .int v3, .int v4, .retAddr 0, .retAddr 0], [], mk b S)) rfl rfl ?_
    by_cases hc : v3 ≤ v4
    · rw [if_pos hc] at hf ⊢
      refine msegT C kX12_rounds 60 1 (g := (true, 118, [.ref (187), .int v1, .int v2, .int v3, .int v4, .retAddr 0, .retAddr 0], [.int v2], mk b S)) rfl rfl ?_
      cases hf
      exact gret_i C hr hk (kX12_rounds _ (List.mem_of_getElem? (i := 61) rfl)).1
    · rw [if_neg hc] at hf ⊢
      refine msegT C kX12_rounds 20 2 (g := (true, 37, [.ref (187), .int v1, .int v2, .int v3, .int v4, .retAddr 0, .retAddr 0], [.int v4, .ref (187)], mk b S)) rfl rfl ?_
      obtain ⟨x7, S6, hq, hf⟩ := bndC_ex hf
      refine mcall (kd := 0) (vs := [.ref (187), .int v4]) (rest := []) (r := (some (.int x7))) (h' := mk b S6) (ok' := true) C lkRX12_439 (qX12_layCounters hq) (kX12_rounds _ (List.mem_of_getElem? (i := 22) rfl)).1 ⟨_, _, rfl, rfl, Nat.le_of_ble_eq_true rfl, _, _, rfl, rfl, rfl⟩ (Nat.le_of_ble_eq_true rfl) (Nat.le_of_ble_eq_true rfl) (Nat.le_refl _) (Nat.le_refl _) (Nat.le_of_ble_eq_true rfl) ?_
      refine msegT C kX12_rounds 23 3 (g := (true, (if x7 < 0 then 111 else 47), [.ref (187), .int v1, .int v2, .int v3, .int v4, .int x7, .retAddr 0], [], mk b S6)) rfl rfl ?_
      by_cases hc : x7 < 0
      · rw [if_pos hc] at hf ⊢
        exact mfor (L' := [.ref (187), .int v1, .int v2, .int v3, .int v4, .retAddr 0, .retAddr 0]) ⟨Or.inr rfl, Or.inr rfl, Or.inr rfl, Or.inr rfl, Or.inr rfl, Or.inl rfl, Or.inl rfl, trivial⟩ (bX12_rounds_111 C hr hk ih hf true)
      · rw [if_neg hc] at hf ⊢
        refine msegT C kX12_rounds 26 2 (g := (true, (if v2 < 0 then 57 else 51), [.ref (187), .int v1, .int v2, .int v3, .int v4, .int x7, .retAddr 0], [], mk b S6)) rfl rfl ?_
        by_cases hc : v2 < 0
        · rw [if_pos hc] at hf ⊢
          exact mfor (L' := [.ref (187), .int v1, .int v2, .int v3, .int v4, .int x7, .retAddr 0]) ⟨Or.inr rfl, Or.inr rfl, Or.inr rfl, Or.inr rfl, Or.inr rfl, Or.inr rfl, Or.inl rfl, trivial⟩ (bX12_rounds_57 C hr hk ih hf true)
        · rw [if_neg hc] at hf ⊢
          refine msegT C kX12_rounds 28 3 (g := (true, (if v2 ≤ x7 then 111 else 57), [.ref (187), .int v1, .int v2, .int v3, .int v4, .int x7, .retAddr 0], [], mk b S6)) rfl rfl ?_
          by_cases hc : v2 ≤ x7
          · rw [if_pos hc] at hf ⊢
            exact mfor (L' := [.ref (187), .int v1, .int v2, .int v3, .int v4, .retAddr 0, .retAddr 0]) ⟨Or.inr rfl, Or.inr rfl, Or.inr rfl, Or.inr rfl, Or.inr rfl, Or.inl rfl, Or.inl rfl, trivial⟩ (bX12_rounds_111 C hr hk ih hf true)
          · rw [if_neg hc] at hf ⊢
            exact mfor (L' := [.ref (187), .int v1, .int v2, .int v3, .int v4, .int x7, .retAddr 0]) ⟨Or.inr rfl, Or.inr rfl, Or.inr rfl, Or.inr rfl, Or.inr rfl, Or.inr rfl, Or.inl rfl, trivial⟩ (bX12_rounds_57 C hr hk ih hf true)
theorem bX12_rounds_0 (C : mCx p (mR 3) s m args meth c G cX12_rounds RX12 7 false 233 54500 233 54500) (hr : meth.sig.returnType = (some .int)) (hk : meth.locks = false) {b : Bool} {S' : mT} {r : Int32} {v1 : Int32} {S : mT} (hf : fX12_rounds v1 S = some (r, S')) (ok : Bool) : mW p l e (mR 3) s m args below meth c G 7 233 54500 (mQ below G args s b S' (some (.int r))) (ok, 0, [.ref (187), .int v1, .retAddr 0, .retAddr 0, .retAddr 0, .retAddr 0, .retAddr 0], [], mk b S) := by
  unfold fX12_rounds at hf
  obtain ⟨hok, hf⟩ := grd_ex hf
  refine msegT C kX12_rounds 0 3 (g := ((kO 187 12 && true), 5, [.ref (187), .int v1, .retAddr 0, .retAddr 0, .retAddr 0, .retAddr 0, .retAddr 0], [], mk b (sI S 187 51 (0 : Int32)))) rfl hok ?_
  obtain ⟨S1, eS1, hf⟩ := bnd_ex hf
  rw [← eS1]
  refine msegT C kX12_rounds 3 3 (g := (true, 10, [.ref (187), .int v1, .retAddr 0, .retAddr 0, .retAddr 0, .retAddr 0, .retAddr 0], [.int (999 : Int32), .int (0 : Int32), .int v1], mk b S1)) rfl rfl ?_
  obtain ⟨x3, S2, hq, hf⟩ := bndC_ex hf
  refine mcall (kd := 1) (vs := [.int v1, .int (0 : Int32), .int (999 : Int32)]) (rest := []) (r := (some (.int x3))) (h' := mk b S2) (ok' := true) C lkRX12_362 (qX12_isIn hq) (kX12_rounds _ (List.mem_of_getElem? (i := 6) rfl)).1 rfl (Nat.le_of_ble_eq_true rfl) (Nat.le_of_ble_eq_true rfl) (Nat.le_refl _) (Nat.le_refl _) (Nat.le_of_ble_eq_true rfl) ?_
  refine msegT C kX12_rounds 7 1 (g := (true, (if x3 = 0 then 16 else 18), [.ref (187), .int v1, .retAddr 0, .retAddr 0, .retAddr 0, .retAddr 0, .retAddr 0], [], mk b S2)) rfl rfl ?_
  by_cases hc : x3 = 0
  · rw [if_pos hc] at hf ⊢
    refine msegT C kX12_rounds 8 1 (g := (true, 17, [.ref (187), .int v1, .retAddr 0, .retAddr 0, .retAddr 0, .retAddr 0, .retAddr 0], [.int (-1 : Int32)], mk b S2)) rfl rfl ?_
    cases hf
    exact gret_i C hr hk (kX12_rounds _ (List.mem_of_getElem? (i := 9) rfl)).1
  · rw [if_neg hc] at hf ⊢
    refine msegT C kX12_rounds 10 3 (g := (true, 21, [.ref (187), .int v1, .int (-1 : Int32), .retAddr 0, .retAddr 0, .retAddr 0, .retAddr 0], [.ref (187)], mk b S2)) rfl rfl ?_
    obtain ⟨x5, S4, hq, hf⟩ := bndC_ex hf
    refine mcall (kd := 0) (vs := [.ref (187)]) (rest := []) (r := (some (.int x5))) (h' := mk b S4) (ok' := true) C lkRX12_436 (qX12_countersRows hq) (kX12_rounds _ (List.mem_of_getElem? (i := 13) rfl)).1 ⟨_, _, rfl, rfl, Nat.le_of_ble_eq_true rfl, _, _, rfl, rfl, rfl⟩ (Nat.le_of_ble_eq_true rfl) (Nat.le_of_ble_eq_true rfl) (Nat.le_refl _) (Nat.le_refl _) (Nat.le_of_ble_eq_true rfl) ?_
    refine msegT C kX12_rounds 14 3 (g := (true, 28, [.ref (187), .int v1, .int (-1 : Int32), .int x5, .int (0 : Int32), .retAddr 0, .retAddr 0], [], mk b S4)) rfl rfl ?_
    exact mfor (L' := [.ref (187), .int v1, .int (-1 : Int32), .int x5, .int (0 : Int32), .retAddr 0, .retAddr 0]) ⟨Or.inr rfl, Or.inr rfl, Or.inr rfl, Or.inr rfl, Or.inr rfl, Or.inl rfl, Or.inl rfl, trivial⟩ (bX12_rounds_28 C hr hk _ _ _ _ _ _ hf true)
theorem qX12_rounds {b : Bool} {v1 : Int32} {S S' : mT} {r : Int32} (hf : fX12_rounds v1 S = some (r, S')) : mOk l mX12_rounds 3 [.ref (187), .int v1] b S (some (.int r)) S' :=
  gMet (by decide) (Nat.le_of_ble_eq_true rfl) rfl (Nat.le_of_ble_eq_true rfl) (fun p e s m args below meth c G C hr hk => bX12_rounds_0 C hr hk hf true)
theorem bX12_seats_27 (C : mCx p (mR 3) s m args meth c G cX12_seats RX12 4 false 233 54500 233 54500) (hr : meth.sig.returnType = (some .int)) (hk : meth.locks = false) {b : Bool} {S' : mT} {r : Int32} {S : mT} (hf : fX12_seats_27 S = some (r, S')) (ok : Bool) : mW p l e (mR 3) s m args below meth c G 4 233 54500 (mQ below G args s b S' (some (.int r))) (ok, 27, [.retAddr 0, .retAddr 0, .retAddr 0, .retAddr 0], [], mk b S) := by
  unfold fX12_seats_27 at hf
  refine msegT C kX12_seats 14 1 (g := (true, 28, [.retAddr 0, .retAddr 0, .retAddr 0, .retAddr 0], [.int (-1 : Int32)], mk b S)) rfl rfl ?_
  cases hf
  exact gret_i C hr hk (kX12_seats _ (List.mem_of_getElem? (i := 15) rfl)).1
theorem bX12_seats_0 (C : mCx p (mR 3) s m args meth c G cX12_seats RX12 4 false 233 54500 233 54500) (hr : meth.sig.returnType = (some .int)) (hk : meth.locks = false) {b : Bool} {S' : mT} {r : Int32} {v1 : Int32} {v2 : Int32} {v3 : Int32} {S : mT} (hf : fX12_seats v1 v2 v3 S = some (r, S')) (ok : Bool) : mW p l e (mR 3) s m args below meth c G 4 233 54500 (mQ below G args s b S' (some (.int r))) (ok, 0, [.ref (187), .int v1, .int v2, .int v3], [], mk b S) := by
  unfold fX12_seats at hf
  refine msegT C kX12_seats 0 2 (g := (true, 2, [.ref (187), .int v1, .int v2, .int v3], [.int v1, .ref (187)], mk b S)) rfl rfl ?_
  obtain ⟨x2, S1, hq, hf⟩ := bndC_ex hf
  refine mcall (kd := 0) (vs := [.ref (187), .int v1]) (rest := []) (r := (some (.int x2))) (h' := mk b S1) (ok' := true) C lkRX12_388 (qX12_isHouse hq) (kX12_seats _ (List.mem_of_getElem? (i := 2) rfl)).1 ⟨_, _, rfl, rfl, Nat.le_of_ble_eq_true rfl, _, _, rfl, rfl, rfl⟩ (Nat.le_of_ble_eq_true rfl) (Nat.le_of_ble_eq_true rfl) (Nat.le_refl _) (Nat.le_refl _) (Nat.le_of_ble_eq_true rfl) ?_
  refine msegT C kX12_seats 3 1 (g := (true, (if x2 = 0 then 27 else 8), [.ref (187), .int v1, .int v2, .int v3], [], mk b S1)) rfl rfl ?_
  by_cases hc : x2 = 0
  · rw [if_pos hc] at hf ⊢
    exact mfor (L' := [.retAddr 0, .retAddr 0, .retAddr 0, .retAddr 0]) ⟨Or.inl rfl, Or.inl rfl, Or.inl rfl, Or.inl rfl, trivial⟩ (bX12_seats_27 C hr hk hf true)
  · rw [if_neg hc] at hf ⊢
    refine msegT C kX12_seats 4 3 (g := (true, 12, [.ref (187), .int v1, .int v2, .int v3], [.int (20 : Int32), .int (1 : Int32), .int v2], mk b S1)) rfl rfl ?_
    obtain ⟨x4, S3, hq, hf⟩ := bndC_ex hf
    refine mcall (kd := 1) (vs := [.int v2, .int (1 : Int32), .int (20 : Int32)]) (rest := []) (r := (some (.int x4))) (h' := mk b S3) (ok' := true) C lkRX12_362 (qX12_isIn hq) (kX12_seats _ (List.mem_of_getElem? (i := 7) rfl)).1 rfl (Nat.le_of_ble_eq_true rfl) (Nat.le_of_ble_eq_true rfl) (Nat.le_refl _) (Nat.le_refl _) (Nat.le_of_ble_eq_true rfl) ?_
    refine msegT C kX12_seats 8 1 (g := (true, (if x4 = 0 then 27 else 18), [.ref (187), .int v1, .int v2, .int v3], [], mk b S3)) rfl rfl ?_
    by_cases hc : x4 = 0
    · rw [if_pos hc] at hf ⊢
      exact mfor (L' := [.retAddr 0, .retAddr 0, .retAddr 0, .retAddr 0]) ⟨Or.inl rfl, Or.inl rfl, Or.inl rfl, Or.inl rfl, trivial⟩ (bX12_seats_27 C hr hk hf true)
    · rw [if_neg hc] at hf ⊢
      refine msegT C kX12_seats 9 3 (g := (true, 21, [.ref (187), .int v1, .int v2, .int v3], [.int (1 : Int32), .int (0 : Int32), .int v3], mk b S3)) rfl rfl ?_
      obtain ⟨x6, S5, hq, hf⟩ := bndC_ex hf
      refine mcall (kd := 1) (vs := [.int v3, .int (0 : Int32), .int (1 : Int32)]) (rest := []) (r := (some (.int x6))) (h' := mk b S5) (ok' := true) C lkRX12_362 (qX12_isIn hq) (kX12_seats _ (List.mem_of_getElem? (i := 12) rfl)).1 rfl (Nat.le_of_ble_eq_true rfl) (Nat.le_of_ble_eq_true rfl) (Nat.le_refl _) (Nat.le_refl _) (Nat.le_of_ble_eq_true rfl) ?_
      refine msegT C kX12_seats 13 1 (g := (true, (if x6 = 0 then 27 else 29), [.ref (187), .int v1, .int v2, .int v3], [], mk b S5)) rfl rfl ?_
      by_cases hc : x6 = 0
      · rw [if_pos hc] at hf ⊢
        exact mfor (L' := [.retAddr 0, .retAddr 0, .retAddr 0, .retAddr 0]) ⟨Or.inl rfl, Or.inl rfl, Or.inl rfl, Or.inl rfl, trivial⟩ (bX12_seats_27 C hr hk hf true)
      · rw [if_neg hc] at hf ⊢
        refine msegT C kX12_seats 16 1 (g := (true, 30, [.ref (187), .int v1, .int v2, .int v3], [.ref (187)], mk b S5)) rfl rfl ?_
        obtain ⟨S7, hq, hf⟩ := bndV_ex hf
        refine mcall (kd := 0) (vs := [.ref (187)]) (rest := []) (r := none) (h' := mk b S7) (ok' := true) C lkRX12_391 (qX12_load hq) (kX12_seats _ (List.mem_of_getElem? (i := 17) rfl)).1 ⟨_, _, rfl, rfl, Nat.le_of_ble_eq_true rfl, _, _, rfl, rfl, rfl⟩ (Nat.le_of_ble_eq_true rfl) (Nat.le_of_ble_eq_true rfl) (Nat.le_refl _) (Nat.le_refl _) (Nat.le_of_ble_eq_true rfl) ?_
        refine msegT C kX12_seats 18 3 (g := (true, 36, [.ref (187), .int v1, .int v2, .int v3], [.int v3, .int v2, .ref (187)], mk b S7)) rfl rfl ?_
        obtain ⟨S8, hq, hf⟩ := bndV_ex hf
        refine mcall (kd := 0) (vs := [.ref (187), .int v2, .int v3]) (rest := []) (r := none) (h' := mk b S8) (ok' := true) C lkRX12_448 (qX12_laySeats hq) (kX12_seats _ (List.mem_of_getElem? (i := 21) rfl)).1 ⟨_, _, rfl, rfl, Nat.le_of_ble_eq_true rfl, _, _, rfl, rfl, rfl⟩ (Nat.le_of_ble_eq_true rfl) (Nat.le_of_ble_eq_true rfl) (Nat.le_refl _) (Nat.le_refl _) (Nat.le_of_ble_eq_true rfl) ?_
        obtain ⟨hok, hf⟩ := grd_ex hf
        refine msegT C kX12_seats 22 4 (g := ((kI 217 v1 && (kO 187 12 && true)), 45, [.ref (187), .int v1, .int v2, .int v3], [.int (S8.1 217 (mIx v1))], mk b S8)) rfl hok ?_
        cases hf
        exact gret_i C hr hk (kX12_seats _ (List.mem_of_getElem? (i := 26) rfl)).1
theorem qX12_seats {b : Bool} {v1 : Int32} {v2 : Int32} {v3 : Int32} {S S' : mT} {r : Int32} (hf : fX12_seats v1 v2 v3 S = some (r, S')) : mOk l mX12_seats 3 [.ref (187), .int v1, .int v2, .int v3] b S (some (.int r)) S' :=
  gMet (by decide) (Nat.le_of_ble_eq_true rfl) rfl (Nat.le_of_ble_eq_true rfl) (fun p e s m args below meth c G C hr hk => bX12_seats_0 C hr hk hf true)
theorem bX12_steal_31 (C : mCx p (mR 3) s m args meth c G cX12_steal RX12 3 false 233 54500 233 54500) (hr : meth.sig.returnType = (some .int)) (hk : meth.locks = false) {b : Bool} {S' : mT} {r : Int32} {S : mT} (hf : fX12_steal_31 S = some (r, S')) (ok : Bool) : mW p l e (mR 3) s m args below meth c G 3 233 54500 (mQ below G args s b S' (some (.int r))) (ok, 31, [.retAddr 0, .retAddr 0, .retAddr 0], [], mk b S) := by
  unfold fX12_steal_31 at hf
  refine msegT C kX12_steal 17 1 (g := (true, 32, [.retAddr 0, .retAddr 0, .retAddr 0], [.int (-1 : Int32)], mk b S)) rfl rfl ?_
  cases hf
  exact gret_i C hr hk (kX12_steal _ (List.mem_of_getElem? (i := 18) rfl)).1
theorem bX12_steal_0 (C : mCx p (mR 3) s m args meth c G cX12_steal RX12 3 false 233 54500 233 54500) (hr : meth.sig.returnType = (some .int)) (hk : meth.locks = false) {b : Bool} {S' : mT} {r : Int32} {v1 : Int32} {v2 : Int32} {S : mT} (hf : fX12_steal v1 v2 S = some (r, S')) (ok : Bool) : mW p l e (mR 3) s m args below meth c G 3 233 54500 (mQ below G args s b S' (some (.int r))) (ok, 0, [.ref (187), .int v1, .int v2], [], mk b S) := by
  unfold fX12_steal at hf
  refine msegT C kX12_steal 0 2 (g := (true, 2, [.ref (187), .int v1, .int v2], [.int v1, .ref (187)], mk b S)) rfl rfl ?_
  obtain ⟨x2, S1, hq, hf⟩ := bndC_ex hf
  refine mcall (kd := 0) (vs := [.ref (187), .int v1]) (rest := []) (r := (some (.int x2))) (h' := mk b S1) (ok' := true) C lkRX12_388 (qX12_isHouse hq) (kX12_steal _ (List.mem_of_getElem? (i := 2) rfl)).1 ⟨_, _, rfl, rfl, Nat.le_of_ble_eq_true rfl, _, _, rfl, rfl, rfl⟩ (Nat.le_of_ble_eq_true rfl) (Nat.le_of_ble_eq_true rfl) (Nat.le_refl _) (Nat.le_refl _) (Nat.le_of_ble_eq_true rfl) ?_
  refine msegT C kX12_steal 3 1 (g := (true, (if x2 = 0 then 31 else 8), [.ref (187), .int v1, .int v2], [], mk b S1)) rfl rfl ?_
  by_cases hc : x2 = 0
  · rw [if_pos hc] at hf ⊢
    exact mfor (L' := [.retAddr 0, .retAddr 0, .retAddr 0]) ⟨Or.inl rfl, Or.inl rfl, Or.inl rfl, trivial⟩ (bX12_steal_31 C hr hk hf true)
  · rw [if_neg hc] at hf ⊢
    refine msegT C kX12_steal 4 3 (g := (true, 12, [.ref (187), .int v1, .int v2], [.int (99 : Int32), .int (1 : Int32), .int v2], mk b S1)) rfl rfl ?_
    obtain ⟨x4, S3, hq, hf⟩ := bndC_ex hf
    refine mcall (kd := 1) (vs := [.int v2, .int (1 : Int32), .int (99 : Int32)]) (rest := []) (r := (some (.int x4))) (h' := mk b S3) (ok' := true) C lkRX12_362 (qX12_isIn hq) (kX12_steal _ (List.mem_of_getElem? (i := 7) rfl)).1 rfl (Nat.le_of_ble_eq_true rfl) (Nat.le_of_ble_eq_true rfl) (Nat.le_refl _) (Nat.le_refl _) (Nat.le_of_ble_eq_true rfl) ?_
    refine msegT C kX12_steal 8 1 (g := (true, (if x4 = 0 then 31 else 18), [.ref (187), .int v1, .int v2], [], mk b S3)) rfl rfl ?_
    by_cases hc : x4 = 0
    · rw [if_pos hc] at hf ⊢
      exact mfor (L' := [.retAddr 0, .retAddr 0, .retAddr 0]) ⟨Or.inl rfl, Or.inl rfl, Or.inl rfl, trivial⟩ (bX12_steal_31 C hr hk hf true)
    · rw [if_neg hc] at hf ⊢
      obtain ⟨hok, hf⟩ := grd_ex hf
      refine msegT C kX12_steal 9 8 (g := ((kI 208 ((10 : Int32) + v1) && (kO 187 12 && true)), (if v2 ≤ (S3.1 208 (mIx ((10 : Int32) + v1))) then 33 else 31), [.ref (187), .int v1, .int v2], [], mk b S3)) rfl hok ?_
      by_cases hc : v2 ≤ (S3.1 208 (mIx ((10 : Int32) + v1)))
      · rw [if_pos hc] at hf ⊢
        refine msegT C kX12_steal 19 1 (g := (true, 34, [.ref (187), .int v1, .int v2], [.ref (187)], mk b S3)) rfl rfl ?_
        obtain ⟨S5, hq, hf⟩ := bndV_ex hf
        refine mcall (kd := 0) (vs := [.ref (187)]) (rest := []) (r := none) (h' := mk b S5) (ok' := true) C lkRX12_403 (qX12_act hq) (kX12_steal _ (List.mem_of_getElem? (i := 20) rfl)).1 ⟨_, _, rfl, rfl, Nat.le_of_ble_eq_true rfl, _, _, rfl, rfl, rfl⟩ (Nat.le_of_ble_eq_true rfl) (Nat.le_of_ble_eq_true rfl) (Nat.le_refl _) (Nat.le_refl _) (Nat.le_of_ble_eq_true rfl) ?_
        obtain ⟨hok, hf⟩ := grd_ex hf
        refine msegT C kX12_steal 21 10 (g := ((kI 208 ((10 : Int32) + v1) && (kI 208 ((10 : Int32) + v1) && (kO 187 12 && true))), 50, [.ref (187), .int v1, .int v2], [], mk b (sI S5 208 (mIx ((10 : Int32) + v1)) ((S5.1 208 (mIx ((10 : Int32) + v1))) - v2)))) rfl hok ?_
        obtain ⟨S6, eS6, hf⟩ := bnd_ex hf
        rw [← eS6]
        obtain ⟨hok, hf⟩ := grd_ex hf
        refine msegT C kX12_steal 31 6 (g := ((kI 208 ((10 : Int32) + v1) && (kO 187 12 && true)), 59, [.ref (187), .int v1, .int v2], [.int (S6.1 208 (mIx ((10 : Int32) + v1)))], mk b S6)) rfl hok ?_
        cases hf
        exact gret_i C hr hk (kX12_steal _ (List.mem_of_getElem? (i := 37) rfl)).1
      · rw [if_neg hc] at hf ⊢
        exact mfor (L' := [.retAddr 0, .retAddr 0, .retAddr 0]) ⟨Or.inl rfl, Or.inl rfl, Or.inl rfl, trivial⟩ (bX12_steal_31 C hr hk hf true)
theorem qX12_steal {b : Bool} {v1 : Int32} {v2 : Int32} {S S' : mT} {r : Int32} (hf : fX12_steal v1 v2 S = some (r, S')) : mOk l mX12_steal 3 [.ref (187), .int v1, .int v2] b S (some (.int r)) S' :=
  gMet (by decide) (Nat.le_of_ble_eq_true rfl) rfl (Nat.le_of_ble_eq_true rfl) (fun p e s m args below meth c G C hr hk => bX12_steal_0 C hr hk hf true)
theorem bX12_stone_19 (C : mCx p (mR 3) s m args meth c G cX12_stone RX12 5 false 233 54500 233 54500) (hr : meth.sig.returnType = (some .int)) (hk : meth.locks = false) {b : Bool} {S' : mT} {r : Int32} {S : mT} (hf : fX12_stone_19 S = some (r, S')) (ok : Bool) : mW p l e (mR 3) s m args below meth c G 5 233 54500 (mQ below G args s b S' (some (.int r))) (ok, 19, [.retAddr 0, .retAddr 0, .retAddr 0, .retAddr 0, .retAddr 0], [], mk b S) := by
  unfold fX12_stone_19 at hf
  refine msegT C kX12_stone 10 1 (g := (true, 20, [.retAddr 0, .retAddr 0, .retAddr 0, .retAddr 0, .retAddr 0], [.int (-1 : Int32)], mk b S)) rfl rfl ?_
  cases hf
  exact gret_i C hr hk (kX12_stone _ (List.mem_of_getElem? (i := 11) rfl)).1
theorem bX12_stone_40 (C : mCx p (mR 3) s m args meth c G cX12_stone RX12 5 false 233 54500 233 54500) (hr : meth.sig.returnType = (some .int)) (hk : meth.locks = false) {b : Bool} {S' : mT} {r : Int32} : ∀ (k : Nat) (v1 : Int32) (v2 : Int32) (v3 : Int32) (v4 : Int32) (S : mT), fX12_stone_40 k v1 v2 v3 v4 S = some (r, S') → ∀ ok : Bool, mW p l e (mR 3) s m args below meth c G 5 233 54500 (mQ below G args s b S' (some (.int r))) (ok, 40, [.ref (187), .int v1, .int v2, .int v3, .int v4], [], mk b S) := by
  intro k
  induction k with
  | zero =>
    intro v1 v2 v3 v4 S hf ok
    cases hf
  | succ k ih =>
    intro v1 v2 v3 v4 S hf ok
    unfold fX12_stone_40 at hf
    obtain ⟨hok, hf⟩ := grd_ex hf
    refine msegT C kX12_stone 24 4 (g := ((kO 187 12 && true), (if (S.1 187 37) ≤ v4 then 96 else 49), [.ref (187), .int v1, .int v2, .int v3, .int v4], [], mk b S)) rfl hok ?_
    by_cases hc : (S.1 187 37) ≤ v4
    · rw [if_pos hc] at hf ⊢
      refine msegT C kX12_stone 58 1 (g := (true, 97, [.ref (187), .int v1, .int v2, .int v3, .int v4], [.int v3], mk b S)) rfl rfl ?_
      cases hf
      exact gret_i C hr hk (kX12_stone _ (List.mem_of_getElem? (i := 59) rfl)).1
    · rw [if_neg hc] at hf ⊢
      obtain ⟨hok, hf⟩ := grd_ex hf
      refine msegT C kX12_stone 28 8 (g := ((kI 211 v4 && (kI 211 v4 && (kO 187 12 && true))), 60, [.ref (187), .int v1, .int v2, .int v3, .int v4], [], mk b (sI S 211 (mIx v4) ((S.1 211 (mIx v4)) + (1 : Int32))))) rfl hok ?_
      obtain ⟨S8, eS8, hf⟩ := bnd_ex hf
      rw [← eS8]
      refine msegT C kX12_stone 36 3 (g := (true, 63, [.ref (187), .int v1, .int v2, .int v3, .int v4], [.int v2, .int v1, .ref (187)], mk b S8)) rfl rfl ?_
      obtain ⟨S9, hq, hf⟩ := bndV_ex hf
      refine mcall (kd := 0) (vs := [.ref (187), .int v1, .int v2]) (rest := []) (r := none) (h' := mk b S9) (ok' := true) C lkRX12_448 (qX12_laySeats hq) (kX12_stone _ (List.mem_of_getElem? (i := 39) rfl)).1 ⟨_, _, rfl, rfl, Nat.le_of_ble_eq_true rfl, _, _, rfl, rfl, rfl⟩ (Nat.le_of_ble_eq_true rfl) (Nat.le_of_ble_eq_true rfl) (Nat.le_refl _) (Nat.le_refl _) (Nat.le_of_ble_eq_true rfl) ?_
      obtain ⟨hok, hf⟩ := grd_ex hf
      refine msegT C kX12_stone 40 8 (g := ((kI 211 v4 && (kI 211 v4 && (kO 187 12 && true))), 77, [.ref (187), .int v1, .int v2, .int v3, .int v4], [], mk b (sI S9 211 (mIx v4) ((S9.1 211 (mIx v4)) - (1 : Int32))))) rfl hok ?_
      obtain ⟨S10, eS10, hf⟩ := bnd_ex hf
      rw [← eS10]
      refine msegT C kX12_stone 48 2 (g := (true, 79, [.ref (187), .int v1, .int v2, .int v3, .int v4], [.ref (187), .int v3], mk b S10)) rfl rfl ?_
      obtain ⟨x12, S11, hq, hf⟩ := bndC_ex hf
      refine mcall (kd := 0) (vs := [.ref (187)]) (rest := [.int v3]) (r := (some (.int x12))) (h' := mk b S11) (ok' := true) C lkRX12_454 (qX12_isOtherSeats hq) (kX12_stone _ (List.mem_of_getElem? (i := 50) rfl)).1 ⟨_, _, rfl, rfl, Nat.le_of_ble_eq_true rfl, _, _, rfl, rfl, rfl⟩ (Nat.le_of_ble_eq_true rfl) (Nat.le_of_ble_eq_true rfl) (Nat.le_refl _) (Nat.le_refl _) (Nat.le_of_ble_eq_true rfl) ?_
      obtain ⟨x14, S13, hq, hf⟩ := bndC_ex hf
      refine mcall (kd := 1) (vs := [.int x12]) (rest := [.int v3]) (r := (some (.int x14))) (h' := mk b S13) (ok' := true) C lkRX12_307 (qX12_truth hq) (kX12_stone _ (List.mem_of_getElem? (i := 51) rfl)).1 rfl (Nat.le_of_ble_eq_true rfl) (Nat.le_of_ble_eq_true rfl) (Nat.le_refl _) (Nat.le_refl _) (Nat.le_of_ble_eq_true rfl) ?_
      refine msegT C kX12_stone 52 4 (g := (true, 90, [.ref (187), .int v1, .int v2, .int (v3 ||| (x14 <<< (v4 &&& 31))), .int v4], [], mk b S13)) rfl rfl ?_
      obtain ⟨x15, ex15, hf⟩ := bnd_ex hf
      rw [← ex15]
      refine msegT C kX12_stone 56 1 (g := (true, 93, [.ref (187), .int v1, .int v2, .int x15, .int (v4 + (1 : Int32))], [], mk b S13)) rfl rfl ?_
      obtain ⟨x16, ex16, hf⟩ := bnd_ex hf
      rw [← ex16]
      refine msegT C kX12_stone 57 1 (g := (true, 40, [.ref (187), .int v1, .int v2, .int x15, .int x16], [], mk b S13)) rfl rfl ?_
      exact mfor (L' := [.ref (187), .int v1, .int v2, .int x15, .int x16]) ⟨Or.inr rfl, Or.inr rfl, Or.inr rfl, Or.inr rfl, Or.inr rfl, trivial⟩ (ih _ _ _ _ _ hf true)
theorem bX12_stone_0 (C : mCx p (mR 3) s m args meth c G cX12_stone RX12 5 false 233 54500 233 54500) (hr : meth.sig.returnType = (some .int)) (hk : meth.locks = false) {b : Bool} {S' : mT} {r : Int32} {v1 : Int32} {v2 : Int32} {S : mT} (hf : fX12_stone v1 v2 S = some (r, S')) (ok : Bool) : mW p l e (mR 3) s m args below meth c G 5 233 54500 (mQ below G args s b S' (some (.int r))) (ok, 0, [.ref (187), .int v1, .int v2, .retAddr 0, .retAddr 0], [], mk b S) := by
  unfold fX12_stone at hf
  refine msegT C kX12_stone 0 3 (g := (true, 4, [.ref (187), .int v1, .int v2, .retAddr 0, .retAddr 0], [.int (20 : Int32), .int (1 : Int32), .int v1], mk b S)) rfl rfl ?_
  obtain ⟨x2, S1, hq, hf⟩ := bndC_ex hf
  refine mcall (kd := 1) (vs := [.int v1, .int (1 : Int32), .int (20 : Int32)]) (rest := []) (r := (some (.int x2))) (h' := mk b S1) (ok' := true) C lkRX12_362 (qX12_isIn hq) (kX12_stone _ (List.mem_of_getElem? (i := 3) rfl)).1 rfl (Nat.le_of_ble_eq_true rfl) (Nat.le_of_ble_eq_true rfl) (Nat.le_refl _) (Nat.le_refl _) (Nat.le_of_ble_eq_true rfl) ?_
  refine msegT C kX12_stone 4 1 (g := (true, (if x2 = 0 then 19 else 10), [.ref (187), .int v1, .int v2, .retAddr 0, .retAddr 0], [], mk b S1)) rfl rfl ?_
  by_cases hc : x2 = 0
  · rw [if_pos hc] at hf ⊢
    exact mfor (L' := [.retAddr 0, .retAddr 0, .retAddr 0, .retAddr 0, .retAddr 0]) ⟨Or.inl rfl, Or.inl rfl, Or.inl rfl, Or.inl rfl, Or.inl rfl, trivial⟩ (bX12_stone_19 C hr hk hf true)
  · rw [if_neg hc] at hf ⊢
    refine msegT C kX12_stone 5 3 (g := (true, 13, [.ref (187), .int v1, .int v2, .retAddr 0, .retAddr 0], [.int (1 : Int32), .int (0 : Int32), .int v2], mk b S1)) rfl rfl ?_
    obtain ⟨x4, S3, hq, hf⟩ := bndC_ex hf
    refine mcall (kd := 1) (vs := [.int v2, .int (0 : Int32), .int (1 : Int32)]) (rest := []) (r := (some (.int x4))) (h' := mk b S3) (ok' := true) C lkRX12_362 (qX12_isIn hq) (kX12_stone _ (List.mem_of_getElem? (i := 8) rfl)).1 rfl (Nat.le_of_ble_eq_true rfl) (Nat.le_of_ble_eq_true rfl) (Nat.le_refl _) (Nat.le_refl _) (Nat.le_of_ble_eq_true rfl) ?_
    refine msegT C kX12_stone 9 1 (g := (true, (if x4 = 0 then 19 else 21), [.ref (187), .int v1, .int v2, .retAddr 0, .retAddr 0], [], mk b S3)) rfl rfl ?_
    by_cases hc : x4 = 0
    · rw [if_pos hc] at hf ⊢
      exact mfor (L' := [.retAddr 0, .retAddr 0, .retAddr 0, .retAddr 0, .retAddr 0]) ⟨Or.inl rfl, Or.inl rfl, Or.inl rfl, Or.inl rfl, Or.inl rfl, trivial⟩ (bX12_stone_19 C hr hk hf true)
    · rw [if_neg hc] at hf ⊢
      refine msegT C kX12_stone 12 1 (g := (true, 22, [.ref (187), .int v1, .int v2, .retAddr 0, .retAddr 0], [.ref (187)], mk b S3)) rfl rfl ?_
      obtain ⟨S5, hq, hf⟩ := bndV_ex hf
      refine mcall (kd := 0) (vs := [.ref (187)]) (rest := []) (r := none) (h' := mk b S5) (ok' := true) C lkRX12_391 (qX12_load hq) (kX12_stone _ (List.mem_of_getElem? (i := 13) rfl)).1 ⟨_, _, rfl, rfl, Nat.le_of_ble_eq_true rfl, _, _, rfl, rfl, rfl⟩ (Nat.le_of_ble_eq_true rfl) (Nat.le_of_ble_eq_true rfl) (Nat.le_refl _) (Nat.le_refl _) (Nat.le_of_ble_eq_true rfl) ?_
      refine msegT C kX12_stone 14 3 (g := (true, 28, [.ref (187), .int v1, .int v2, .retAddr 0, .retAddr 0], [.int v2, .int v1, .ref (187)], mk b S5)) rfl rfl ?_
      obtain ⟨S6, hq, hf⟩ := bndV_ex hf
      refine mcall (kd := 0) (vs := [.ref (187), .int v1, .int v2]) (rest := []) (r := none) (h' := mk b S6) (ok' := true) C lkRX12_448 (qX12_laySeats hq) (kX12_stone _ (List.mem_of_getElem? (i := 17) rfl)).1 ⟨_, _, rfl, rfl, Nat.le_of_ble_eq_true rfl, _, _, rfl, rfl, rfl⟩ (Nat.le_of_ble_eq_true rfl) (Nat.le_of_ble_eq_true rfl) (Nat.le_refl _) (Nat.le_refl _) (Nat.le_of_ble_eq_true rfl) ?_
      refine msegT C kX12_stone 18 1 (g := (true, 32, [.ref (187), .int v1, .int v2, .retAddr 0, .retAddr 0], [.ref (187)], mk b S6)) rfl rfl ?_
      obtain ⟨S7, hq, hf⟩ := bndV_ex hf
      refine mcall (kd := 0) (vs := [.ref (187)]) (rest := []) (r := none) (h' := mk b S7) (ok' := true) C lkRX12_451 (qX12_keepSeats hq) (kX12_stone _ (List.mem_of_getElem? (i := 19) rfl)).1 ⟨_, _, rfl, rfl, Nat.le_of_ble_eq_true rfl, _, _, rfl, rfl, rfl⟩ (Nat.le_of_ble_eq_true rfl) (Nat.le_of_ble_eq_true rfl) (Nat.le_refl _) (Nat.le_refl _) (Nat.le_of_ble_eq_true rfl) ?_
      refine msegT C kX12_stone 20 4 (g := (true, 40, [.ref (187), .int v1, .int v2, .int (0 : Int32), .int (0 : Int32)], [], mk b S7)) rfl rfl ?_
      exact mfor (L' := [.ref (187), .int v1, .int v2, .int (0 : Int32), .int (0 : Int32)]) ⟨Or.inr rfl, Or.inr rfl, Or.inr rfl, Or.inr rfl, Or.inr rfl, trivial⟩ (bX12_stone_40 C hr hk _ _ _ _ _ _ hf true)
theorem qX12_stone {b : Bool} {v1 : Int32} {v2 : Int32} {S S' : mT} {r : Int32} (hf : fX12_stone v1 v2 S = some (r, S')) : mOk l mX12_stone 3 [.ref (187), .int v1, .int v2] b S (some (.int r)) S' :=
  gMet (by decide) (Nat.le_of_ble_eq_true rfl) rfl (Nat.le_of_ble_eq_true rfl) (fun p e s m args below meth c G C hr hk => bX12_stone_0 C hr hk hf true)
theorem bX12_summer_0 (C : mCx p (mR 6) s m args meth c G cX12_summer RX12 1 false 233 54500 233 54500) (hr : meth.sig.returnType = (some .int)) (hk : meth.locks = false) {b : Bool} {S' : mT} {r : Int32} {S : mT} (hf : fX12_summer S = some (r, S')) (ok : Bool) : mW p l e (mR 6) s m args below meth c G 1 233 54500 (mQ below G args s b S' (some (.int r))) (ok, 0, [.ref (187)], [], mk b S) := by
  unfold fX12_summer at hf
  obtain ⟨hok, hf⟩ := grd_ex hf
  refine msegT C kX12_summer 0 6 (g := ((kI 208 (15 : Int32) && (kO 187 12 && true)), (if (S.1 208 (mIx (15 : Int32))) = (999 : Int32) then 13 else 15), [.ref (187)], [], mk b S)) rfl hok ?_
  by_cases hc : (S.1 208 (mIx (15 : Int32))) = (999 : Int32)
  · rw [if_pos hc] at hf ⊢
    refine msegT C kX12_summer 6 1 (g := (true, 14, [.ref (187)], [.int (-1 : Int32)], mk b S)) rfl rfl ?_
    cases hf
    exact gret_i C hr hk (kX12_summer _ (List.mem_of_getElem? (i := 7) rfl)).1
  · rw [if_neg hc] at hf ⊢
    refine msegT C kX12_summer 8 1 (g := (true, 16, [.ref (187)], [.ref (187)], mk b S)) rfl rfl ?_
    obtain ⟨S1, hq, hf⟩ := bndV_ex hf
    refine mcall (kd := 0) (vs := [.ref (187)]) (rest := []) (r := none) (h' := mk b S1) (ok' := true) C lkRX12_403 (qX12_act hq) (kX12_summer _ (List.mem_of_getElem? (i := 9) rfl)).1 ⟨_, _, rfl, rfl, Nat.le_of_ble_eq_true rfl, _, _, rfl, rfl, rfl⟩ (Nat.le_of_ble_eq_true rfl) (Nat.le_of_ble_eq_true rfl) (Nat.le_refl _) (Nat.le_refl _) (Nat.le_of_ble_eq_true rfl) ?_
    refine msegT C kX12_summer 10 1 (g := (true, 20, [.ref (187)], [.ref (187)], mk b S1)) rfl rfl ?_
    obtain ⟨S2, hq, hf⟩ := bndV_ex hf
    refine mcall (kd := 0) (vs := [.ref (187)]) (rest := []) (r := none) (h' := mk b S2) (ok' := true) C lkRX12_391 (qX12_load hq) (kX12_summer _ (List.mem_of_getElem? (i := 11) rfl)).1 ⟨_, _, rfl, rfl, Nat.le_of_ble_eq_true rfl, _, _, rfl, rfl, rfl⟩ (Nat.le_of_ble_eq_true rfl) (Nat.le_of_ble_eq_true rfl) (Nat.le_refl _) (Nat.le_refl _) (Nat.le_of_ble_eq_true rfl) ?_
    refine msegT C kX12_summer 12 1 (g := (true, 24, [.ref (187)], [.ref (187)], mk b S2)) rfl rfl ?_
    obtain ⟨S3, hq, hf⟩ := bndV_ex hf
    refine mcall (kd := 0) (vs := [.ref (187)]) (rest := []) (r := none) (h' := mk b S3) (ok' := true) C lkRX12_412 (qX12_goSummer hq) (kX12_summer _ (List.mem_of_getElem? (i := 13) rfl)).1 ⟨_, _, rfl, rfl, Nat.le_of_ble_eq_true rfl, _, _, rfl, rfl, rfl⟩ (Nat.le_of_ble_eq_true rfl) (Nat.le_of_ble_eq_true rfl) (Nat.le_refl _) (Nat.le_refl _) (Nat.le_of_ble_eq_true rfl) ?_
    refine msegT C kX12_summer 14 1 (g := (true, 28, [.ref (187)], [.ref (187)], mk b S3)) rfl rfl ?_
    obtain ⟨S4, hq, hf⟩ := bndV_ex hf
    refine mcall (kd := 0) (vs := [.ref (187)]) (rest := []) (r := none) (h' := mk b S4) (ok' := true) C lkRX12_406 (qX12_keep hq) (kX12_summer _ (List.mem_of_getElem? (i := 15) rfl)).1 ⟨_, _, rfl, rfl, Nat.le_of_ble_eq_true rfl, _, _, rfl, rfl, rfl⟩ (Nat.le_of_ble_eq_true rfl) (Nat.le_of_ble_eq_true rfl) (Nat.le_refl _) (Nat.le_refl _) (Nat.le_of_ble_eq_true rfl) ?_
    refine msegT C kX12_summer 16 1 (g := (true, 32, [.ref (187)], [.ref (187)], mk b S4)) rfl rfl ?_
    obtain ⟨x6, S5, hq, hf⟩ := bndC_ex hf
    refine mcall (kd := 0) (vs := [.ref (187)]) (rest := []) (r := (some (.int x6))) (h' := mk b S5) (ok' := true) C lkRX12_415 (qX12_allBowls hq) (kX12_summer _ (List.mem_of_getElem? (i := 17) rfl)).1 ⟨_, _, rfl, rfl, Nat.le_of_ble_eq_true rfl, _, _, rfl, rfl, rfl⟩ (Nat.le_of_ble_eq_true rfl) (Nat.le_of_ble_eq_true rfl) (Nat.le_refl _) (Nat.le_refl _) (Nat.le_of_ble_eq_true rfl) ?_
    cases hf
    exact gret_i C hr hk (kX12_summer _ (List.mem_of_getElem? (i := 18) rfl)).1
theorem qX12_summer {b : Bool} {S S' : mT} {r : Int32} (hf : fX12_summer S = some (r, S')) : mOk l mX12_summer 6 [.ref (187)] b S (some (.int r)) S' :=
  gMet (by decide) (Nat.le_of_ble_eq_true rfl) rfl (Nat.le_of_ble_eq_true rfl) (fun p e s m args below meth c G C hr hk => bX12_summer_0 C hr hk hf true)
theorem bX12_tellsAll_105 (C : mCx p (mR 3) s m args meth c G cX12_tellsAll RX12 8 false 233 54500 233 54500) (hr : meth.sig.returnType = (some .boolean)) (hk : meth.locks = false) {b : Bool} {S' : mT} {r : Int32} {rc34 : Int32 → Int32 → Int32 → Int32 → Int32 → mT → Option (Int32 × mT)} (Hrc34 : ∀ (v1 : Int32) (v2 : Int32) (v3 : Int32) (v4 : Int32) (v5 : Int32) (S : mT), rc34 v1 v2 v3 v4 v5 S = some (r, S') → ∀ ok : Bool, mW p l e (mR 3) s m args below meth c G 8 233 54500 (mQ below G args s b S' (some (.int r))) (ok, 34, [.ref (187), .int v1, .int v2, .int v3, .int v4, .int v5, .retAddr 0, .retAddr 0], [], mk b S)) {rc66 : Int32 → Int32 → Int32 → Int32 → Int32 → Int32 → mT → Option (Int32 × mT)} (Hrc66 : ∀ (v1 : Int32) (v2 : Int32) (v3 : Int32) (v5 : Int32) (v6 : Int32) (v7 : Int32) (S : mT), rc66 v1 v2 v3 v5 v6 v7 S = some (r, S') → ∀ ok : Bool, mW p l e (mR 3) s m args below meth c G 8 233 54500 (mQ below G args s b S' (some (.int r))) (ok, 66, [.ref (187), .int v1, .int v2, .int v3, .retAddr 0, .int v5, .int v6, .int v7], [], mk b S)) {v1 : Int32} {v2 : Int32} {v3 : Int32} {v5 : Int32} {v6 : Int32} {v7 : Int32} {S : mT} (hf : fX12_tellsAll_105 rc34 rc66 v1 v2 v3 v5 v6 v7 S = some (r, S')) (ok : Bool) : mW p l e (mR 3) s m args below meth c G 8 233 54500 (mQ below G args s b S' (some (.int r))) (ok, 105, [.ref (187), .int v1, .int v2, .int v3, .retAddr 0, .int v5, .int v6, .int v7], [], mk b S) := by
  unfold fX12_tellsAll_105 at hf
  refine msegT C kX12_tellsAll 60 1 (g := (true, 108, [.ref (187), .int v1, .int v2, .int v3, .retAddr 0, .int v5, .int v6, .int (v7 + (1 : Int32))], [], mk b S)) rfl rfl ?_
  obtain ⟨x10, ex10, hf⟩ := bnd_ex hf
  rw [← ex10]
  refine msegT C kX12_tellsAll 61 1 (g := (true, 66, [.ref (187), .int v1, .int v2, .int v3, .retAddr 0, .int v5, .int v6, .int x10], [], mk b S)) rfl rfl ?_
  exact mfor (L' := [.ref (187), .int v1, .int v2, .int v3, .retAddr 0, .int v5, .int v6, .int x10]) ⟨Or.inr rfl, Or.inr rfl, Or.inr rfl, Or.inr rfl, Or.inl rfl, Or.inr rfl, Or.inr rfl, Or.inr rfl, trivial⟩ (Hrc66 _ _ _ _ _ _ _ hf true)
theorem bX12_tellsAll_136 (C : mCx p (mR 3) s m args meth c G cX12_tellsAll RX12 8 false 233 54500 233 54500) (hr : meth.sig.returnType = (some .boolean)) (hk : meth.locks = false) {b : Bool} {S' : mT} {r : Int32} {rc34 : Int32 → Int32 → Int32 → Int32 → Int32 → mT → Option (Int32 × mT)} (Hrc34 : ∀ (v1 : Int32) (v2 : Int32) (v3 : Int32) (v4 : Int32) (v5 : Int32) (S : mT), rc34 v1 v2 v3 v4 v5 S = some (r, S') → ∀ ok : Bool, mW p l e (mR 3) s m args below meth c G 8 233 54500 (mQ below G args s b S' (some (.int r))) (ok, 34, [.ref (187), .int v1, .int v2, .int v3, .int v4, .int v5, .retAddr 0, .retAddr 0], [], mk b S)) {v1 : Int32} {v2 : Int32} {v3 : Int32} {v4 : Int32} {v5 : Int32} {S : mT} (hf : fX12_tellsAll_136 rc34 v1 v2 v3 v4 v5 S = some (r, S')) (ok : Bool) : mW p l e (mR 3) s m args below meth c G 8 233 54500 (mQ below G args s b S' (some (.int r))) (ok, 136, [.ref (187), .int v1, .int v2, .int v3, .int v4, .int v5, .retAddr 0, .retAddr 0], [], mk b S) := by
  unfold fX12_tellsAll_136 at hf
  refine msegT C kX12_tellsAll 76 1 (g := (true, 139, [.ref (187), .int v1, .int v2, .int v3, .int v4, .int (v5 + (1 : Int32)), .retAddr 0, .retAddr 0], [], mk b S)) rfl rfl ?_
  obtain ⟨x8, ex8, hf⟩ := bnd_ex hf
  rw [← ex8]
  refine msegT C kX12_tellsAll 77 1 (g := (true, 34, [.ref (187), .int v1, .int v2, .int v3, .int v4, .int x8, .retAddr 0, .retAddr 0], [], mk b S)) rfl rfl ?_
  exact mfor (L' := [.ref (187), .int v1, .int v2, .int v3, .int v4, .int x8, .retAddr 0, .retAddr 0]) ⟨Or.inr rfl, Or.inr rfl, Or.inr rfl, Or.inr rfl, Or.inr rfl, Or.inr rfl, Or.inl rfl, Or.inl rfl, trivial⟩ (Hrc34 _ _ _ _ _ _ hf true)
theorem bX12_tellsAll_126 (C : mCx p (mR 3) s m args meth c G cX12_tellsAll RX12 8 false 233 54500 233 54500) (hr : meth.sig.returnType = (some .boolean)) (hk : meth.locks = false) {b : Bool} {S' : mT} {r : Int32} {rc34 : Int32 → Int32 → Int32 → Int32 → Int32 → mT → Option (Int32 × mT)} (Hrc34 : ∀ (v1 : Int32) (v2 : Int32) (v3 : Int32) (v4 : Int32) (v5 : Int32) (S : mT), rc34 v1 v2 v3 v4 v5 S = some (r, S') → ∀ ok : Bool, mW p l e (mR 3) s m args below meth c G 8 233 54500 (mQ below G args s b S' (some (.int r))) (ok, 34, [.ref (187), .int v1, .int v2, .int v3, .int v4, .int v5, .retAddr 0, .retAddr 0], [], mk b S)) {v1 : Int32} {v2 : Int32} {v3 : Int32} {v5 : Int32} {v6 : Int32} {s0 : Int32} {S : mT} (hf : fX12_tellsAll_126 rc34 v1 v2 v3 v5 v6 s0 S = some (r, S')) (ok : Bool) : mW p l e (mR 3) s m args below meth c G 8 233 54500 (mQ below G args s b S' (some (.int r))) (ok, 126, [.ref (187), .int v1, .int v2, .int v3, .retAddr 0, .int v5, .int v6, .retAddr 0], [.int s0], mk b S) := by
  unfold fX12_tellsAll_126 at hf
  obtain ⟨hok, hf⟩ := grd_ex hf
  refine msegT C kX12_tellsAll 70 6 (g := ((kB 230 v6 && (kO 187 12 && true)), 136, [.ref (187), .int v1, .int v2, .int v3, .int s0, .int v5, .int v6, .retAddr 0], [], mk b (sI S 230 (mIx v6) (kN 230 (1 : Int32))))) rfl hok ?_
  obtain ⟨S9, eS9, hf⟩ := bnd_ex hf
  rw [← eS9]
  exact mfor (L' := [.ref (187), .int v1, .int v2, .int v3, .int s0, .int v5, .retAddr 0, .retAddr 0]) ⟨Or.inr rfl, Or.inr rfl, Or.inr rfl, Or.inr rfl, Or.inr rfl, Or.inr rfl, Or.inl rfl, Or.inl rfl, trivial⟩ (bX12_tellsAll_136 C hr hk Hrc34 hf true)
theorem bX12_tellsAll_66 (C : mCx p (mR 3) s m args meth c G cX12_tellsAll RX12 8 false 233 54500 233 54500) (hr : meth.sig.returnType = (some .boolean)) (hk : meth.locks = false) {b : Bool} {S' : mT} {r : Int32} {rc34 : Int32 → Int32 → Int32 → Int32 → Int32 → mT → Option (Int32 × mT)} (Hrc34 : ∀ (v1 : Int32) (v2 : Int32) (v3 : Int32) (v4 : Int32) (v5 : Int32) (S : mT), rc34 v1 v2 v3 v4 v5 S = some (r, S') → ∀ ok : Bool, mW p l e (mR 3) s m args below meth c G 8 233 54500 (mQ below G args s b S' (some (.int r))) (ok, 34, [.ref (187), .int v1, .int v2, .int v3, .int v4, .int v5, .retAddr 0, .retAddr 0], [], mk b S)) : ∀ (k : Nat) (v1 : Int32) (v2 : Int32) (v3 : Int32) (v5 : Int32) (v6 : Int32) (v7 : Int32) (S : mT), fX12_tellsAll_66 rc34 k v1 v2 v3 v5 v6 v7 S = some (r, S') → ∀ ok : Bool, mW p l e (mR 3) s m args below meth c G 8 233 54500 (mQ below G args s b S' (some (.int r))) (ok, 66, [.ref (187), .int v1, .int v2, .int v3, .retAddr 0, .int v5, .int v6, .int v7], [], mk b S) := by
  intro k
  induction k with
  | zero =>
    intro v1 v2 v3 v5 v6 v7 S hf ok
    cases hf
  | succ k ih =>
    intro v1 v2 v3 v5 v6 v7 S hf ok
    unfold fX12_tellsAll_66 at hf
    obtain ⟨hok, hf⟩ := grd_ex hf
    refine msegT C kX12_tellsAll 35 4 (g := ((kO 187 12 && true), (if (S.1 187 37) ≤ v7 then 111 else 75), [.ref (187), .int v1, .int v2, .int v3, .retAddr 0, .int v5, .int v6, .int v7], [], mk b S)) rfl hok ?_
    by_cases hc : (S.1 187 37) ≤ v7
    · rw [if_pos hc] at hf ⊢
      obtain ⟨hok, hf⟩ := grd_ex hf
      refine msegT C kX12_tellsAll 62 5 (g := ((kB 230 v6 && (kO 187 12 && true)), (if (S.1 230 (mIx v6)) = 0 then 121 else 125), [.ref (187), .int v1, .int v2, .int v3, .retAddr 0, .int v5, .int v6, .int v7], [], mk b S)) rfl hok ?_
      by_cases hc : (S.1 230 (mIx v6)) = 0
      · rw [if_pos hc] at hf ⊢
        refine msegT C kX12_tellsAll 67 2 (g := (true, 126, [.ref (187), .int v1, .int v2, .int v3, .retAddr 0, .int v5, .int v6, .int v7], [.int (1 : Int32)], mk b S)) rfl rfl ?_
        exact mfor (L' := [.ref (187), .int v1, .int v2, .int v3, .retAddr 0, .int v5, .int v6, .retAddr 0]) ⟨Or.inr rfl, Or.inr rfl, Or.inr rfl, Or.inr rfl, Or.inl rfl, Or.inr rfl, Or.inr rfl, Or.inl rfl, trivial⟩ (bX12_tellsAll_126 C hr hk Hrc34 hf true)
      · rw [if_neg hc] at hf ⊢
        refine msegT C kX12_tellsAll 69 1 (g := (true, 126, [.ref (187), .int v1, .int v2, .int v3, .retAddr 0, .int v5, .int v6, .int v7], [.int (0 : Int32)], mk b S)) rfl rfl ?_
        exact mfor (L' := [.ref (187), .int v1, .int v2, .int v3, .retAddr 0, .int v5, .int v6, .retAddr 0]) ⟨Or.inr rfl, Or.inr rfl, Or.inr rfl, Or.inr rfl, Or.inl rfl, Or.inr rfl, Or.inr rfl, Or.inl rfl, trivial⟩ (bX12_tellsAll_126 C hr hk Hrc34 hf true)
    · rw [if_neg hc] at hf ⊢
      refine msegT C kX12_tellsAll 39 6 (g := (true, (if ((v1 >>> (v7 &&& 31)) &&& (1 : Int32)) = 0 then 84 else 105), [.ref (187), .int v1, .int v2, .int v3, .retAddr 0, .int v5, .int v6, .int v7], [], mk b S)) rfl rfl ?_
      by_cases hc : ((v1 >>> (v7 &&& 31)) &&& (1 : Int32)) = 0
      · rw [if_pos hc] at hf ⊢
        obtain ⟨hok, hf⟩ := grd_ex hf
        refine msegT C kX12_tellsAll 45 10 (g := ((kO 187 12 && true), 99, [.ref (187), .int v1, .int v2, .int v3, .retAddr 0, .int v5, .int v6, .int v7], [.int ((3 : Int32) * (((S.1 187 37) - (1 : Int32)) - v7)), .int (7 : Int32), .int v6], mk b S)) rfl hok ?_
        refine msegT C kX12_tellsAll 55 5 (g := (true, 105, [.ref (187), .int v1, .int v2, .int v3, .retAddr 0, .int v5, .int (v6 &&& (((7 : Int32) <<< (((3 : Int32) * (((S.1 187 37) - (1 : Int32)) - v7)) &&& 31)) ^^^ (-1 : Int32))), .int v7], [], mk b S)) rfl rfl ?_
        obtain ⟨x7, ex7, hf⟩ := bnd_ex hf
        rw [← ex7]
        exact mfor (L' := [.ref (187), .int v1, .int v2, .int v3, .retAddr 0, .int v5, .int x7, .int v7]) ⟨Or.inr rfl, Or.inr rfl, Or.inr rfl, Or.inr rfl, Or.inl rfl, Or.inr rfl, Or.inr rfl, Or.inr rfl, trivial⟩ (bX12_tellsAll_105 C hr hk Hrc34 ih hf true)
      · rw [if_neg hc] at hf ⊢
        exact mfor (L' := [.ref (187), .int v1, .int v2, .int v3, .retAddr 0, .int v5, .int v6, .int v7]) ⟨Or.inr rfl, Or.inr rfl, Or.inr rfl, Or.inr rfl, Or.inl rfl, Or.inr rfl, Or.inr rfl, Or.inr rfl, trivial⟩ (bX12_tellsAll_105 C hr hk Hrc34 ih hf true)
theorem bX12_tellsAll_142 (C : mCx p (mR 3) s m args meth c G cX12_tellsAll RX12 8 false 233 54500 233 54500) (hr : meth.sig.returnType = (some .boolean)) (hk : meth.locks = false) {b : Bool} {S' : mT} {r : Int32} {v4 : Int32} {S : mT} (hf : fX12_tellsAll_142 v4 S = some (r, S')) (ok : Bool) : mW p l e (mR 3) s m args below meth c G 8 233 54500 (mQ below G args s b S' (some (.int r))) (ok, 142, [.retAddr 0, .retAddr 0, .retAddr 0, .retAddr 0, .int v4, .retAddr 0, .retAddr 0, .retAddr 0], [], mk b S) := by
  unfold fX12_tellsAll_142 at hf
  refine msegT C kX12_tellsAll 78 1 (g := (true, 144, [.retAddr 0, .retAddr 0, .retAddr 0, .retAddr 0, .int v4, .retAddr 0, .retAddr 0, .retAddr 0], [.int v4], mk b S)) rfl rfl ?_
  obtain ⟨hz, hf⟩ := grd_ex hf
  cases hf
  exact gret_z C hr hk (mFit_nar hz) (kX12_tellsAll _ (List.mem_of_getElem? (i := 79) rfl)).1
theorem bX12_tellsAll_34 (C : mCx p (mR 3) s m args meth c G cX12_tellsAll RX12 8 false 233 54500 233 54500) (hr : meth.sig.returnType = (some .boolean)) (hk : meth.locks = false) {b : Bool} {S' : mT} {r : Int32} : ∀ (k : Nat) (v1 : Int32) (v2 : Int32) (v3 : Int32) (v4 : Int32) (v5 : Int32) (S : mT), fX12_tellsAll_34 k v1 v2 v3 v4 v5 S = some (r, S') → ∀ ok : Bool, mW p l e (mR 3) s m args below meth c G 8 233 54500 (mQ below G args s b S' (some (.int r))) (ok, 34, [.ref (187), .int v1, .int v2, .int v3, .int v4, .int v5, .retAddr 0, .retAddr 0], [], mk b S) := by
  intro k
  induction k with
  | zero =>
    intro v1 v2 v3 v4 v5 S hf ok
    cases hf
  | succ k ih =>
    intro v1 v2 v3 v4 v5 S hf ok
    unfold fX12_tellsAll_34 at hf
    refine msegT C kX12_tellsAll 19 3 (g := (true, (if v3 ≤ v5 then 142 else 40), [.ref (187), .int v1, .int v2, .int v3, .int v4, .int v5, .retAddr 0, .retAddr 0], [], mk b S)) rfl rfl ?_
    by_cases hc : v3 ≤ v5
    · rw [if_pos hc] at hf ⊢
      exact mfor (L' := [.retAddr 0, .retAddr 0, .retAddr 0, .retAddr 0, .int v4, .retAddr 0, .retAddr 0, .retAddr 0]) ⟨Or.inl rfl, Or.inl rfl, Or.inl rfl, Or.inl rfl, Or.inr rfl, Or.inl rfl, Or.inl rfl, Or.inl rfl, trivial⟩ (bX12_tellsAll_142 C hr hk hf true)
    · rw [if_neg hc] at hf ⊢
      refine msegT C kX12_tellsAll 22 2 (g := (true, (if v4 = 0 then 142 else 45), [.ref (187), .int v1, .int v2, .int v3, .int v4, .int v5, .retAddr 0, .retAddr 0], [], mk b S)) rfl rfl ?_
      by_cases hc : v4 = 0
      · rw [if_pos hc] at hf ⊢
        exact mfor (L' := [.retAddr 0, .retAddr 0, .retAddr 0, .retAddr 0, .int v4, .retAddr 0, .retAddr 0, .retAddr 0]) ⟨Or.inl rfl, Or.inl rfl, Or.inl rfl, Or.inl rfl, Or.inr rfl, Or.inl rfl, Or.inl rfl, Or.inl rfl, trivial⟩ (bX12_tellsAll_142 C hr hk hf true)
      · rw [if_neg hc] at hf ⊢
        refine msegT C kX12_tellsAll 24 4 (g := (true, 50, [.ref (187), .int v1, .int v2, .int v3, .int v4, .int v5, .retAddr 0, .retAddr 0], [.int (0 : Int32), .int v2, .int v5, .ref (187)], mk b S)) rfl rfl ?_
        obtain ⟨x6, S5, hq, hf⟩ := bndC_ex hf
        refine mcall (kd := 0) (vs := [.ref (187), .int v5, .int v2, .int (0 : Int32)]) (rest := []) (r := (some (.int x6))) (h' := mk b S5) (ok' := true) C lkRX12_476 (qX12_liarsOf hq) (kX12_tellsAll _ (List.mem_of_getElem? (i := 28) rfl)).1 ⟨_, _, rfl, rfl, Nat.le_of_ble_eq_true rfl, _, _, rfl, rfl, rfl⟩ (Nat.le_of_ble_eq_true rfl) (Nat.le_of_ble_eq_true rfl) (Nat.le_refl _) (Nat.le_refl _) (Nat.le_of_ble_eq_true rfl) ?_
        refine msegT C kX12_tellsAll 29 1 (g := (true, (if x6 ≤ 0 then 59 else 56), [.ref (187), .int v1, .int v2, .int v3, .int v4, .int v5, .retAddr 0, .retAddr 0], [], mk b S5)) rfl rfl ?_
        by_cases hc : x6 ≤ 0
        · rw [if_pos hc] at hf ⊢
          refine msegT C kX12_tellsAll 31 4 (g := (true, 66, [.ref (187), .int v1, .int v2, .int v3, .int v4, .int v5, .int v5, .int (0 : Int32)], [], mk b S5)) rfl rfl ?_
          exact mfor (L' := [.ref (187), .int v1, .int v2, .int v3, .retAddr 0, .int v5, .int v5, .int (0 : Int32)]) ⟨Or.inr rfl, Or.inr rfl, Or.inr rfl, Or.inr rfl, Or.inl rfl, Or.inr rfl, Or.inr rfl, Or.inr rfl, trivial⟩ (bX12_tellsAll_66 C hr hk ih _ _ _ _ _ _ _ _ hf true)
        · rw [if_neg hc] at hf ⊢
          refine msegT C kX12_tellsAll 30 1 (g := (true, 136, [.ref (187), .int v1, .int v2, .int v3, .int v4, .int v5, .retAddr 0, .retAddr 0], [], mk b S5)) rfl rfl ?_
          exact mfor (L' := [.ref (187), .int v1, .int v2, .int v3, .int v4, .int v5, .retAddr 0, .retAddr 0]) ⟨Or.inr rfl, Or.inr rfl, Or.inr rfl, Or.inr rfl, Or.inr rfl, Or.inr rfl, Or.inl rfl, Or.inl rfl, trivial⟩ (bX12_tellsAll_136 C hr hk ih hf true)
theorem bX12_tellsAll_8 (C : mCx p (mR 3) s m args meth c G cX12_tellsAll RX12 8 false 233 54500 233 54500) (hr : meth.sig.returnType = (some .boolean)) (hk : meth.locks = false) {b : Bool} {S' : mT} {r : Int32} : ∀ (k : Nat) (v1 : Int32) (v2 : Int32) (v3 : Int32) (v4 : Int32) (S : mT), fX12_tellsAll_8 k v1 v2 v3 v4 S = some (r, S') → ∀ ok : Bool, mW p l e (mR 3) s m args below meth c G 8 233 54500 (mQ below G args s b S' (some (.int r))) (ok, 8, [.ref (187), .int v1, .int v2, .int v3, .int v4, .retAddr 0, .retAddr 0, .retAddr 0], [], mk b S) := by
  intro k
  induction k with
  | zero =>
    intro v1 v2 v3 v4 S hf ok
    cases hf
  | succ k ih =>
    intro v1 v2 v3 v4 S hf ok
    unfold fX12_tellsAll_8 at hf
    refine msegT C kX12_tellsAll 5 3 (g := (true, (if v3 ≤ v4 then 28 else 14), [.ref (187), .int v1, .int v2, .int v3, .int v4, .retAddr 0, .retAddr 0, .retAddr 0], [], mk b S)) rfl rfl ?_
    by_cases hc : v3 ≤ v4
    · rw [if_pos hc] at hf ⊢
      refine msegT C kX12_tellsAll 15 4 (g := (true, 34, [.ref (187), .int v1, .int v2, .int v3, .int (1 : Int32), .int (0 : Int32), .retAddr 0, .retAddr 0], [], mk b S)) rfl rfl ?_
      exact mfor (L' := [.ref (187), .int v1, .int v2, .int v3, .int (1 : Int32), .int (0 : Int32), .retAddr 0, .retAddr 0]) ⟨Or.inr rfl, Or.inr rfl, Or.inr rfl, Or.inr rfl, Or.inr rfl, Or.inr rfl, Or.inl rfl, Or.inl rfl, trivial⟩ (bX12_tellsAll_34 C hr hk _ _ _ _ _ _ _ hf true)
    · rw [if_neg hc] at hf ⊢
      obtain ⟨hok, hf⟩ := grd_ex hf
      refine msegT C kX12_tellsAll 8 5 (g := ((kB 230 v4 && (kO 187 12 && true)), 22, [.ref (187), .int v1, .int v2, .int v3, .int v4, .retAddr 0, .retAddr 0, .retAddr 0], [], mk b (sI S 230 (mIx v4) (kN 230 (0 : Int32))))) rfl hok ?_
      obtain ⟨S3, eS3, hf⟩ := bnd_ex hf
      rw [← eS3]
      refine msegT C kX12_tellsAll 13 1 (g := (true, 25, [.ref (187), .int v1, .int v2, .int v3, .int (v4 + (1 : Int32)), .retAddr 0, .retAddr 0, .retAddr 0], [], mk b S3)) rfl rfl ?_
      obtain ⟨x4, ex4, hf⟩ := bnd_ex hf
      rw [← ex4]
      refine msegT C kX12_tellsAll 14 1 (g := (true, 8, [.ref (187), .int v1, .int v2, .int v3, .int x4, .retAddr 0, .retAddr 0, .retAddr 0], [], mk b S3)) rfl rfl ?_
      exact mfor (L' := [.ref (187), .int v1, .int v2, .int v3, .int x4, .retAddr 0, .retAddr 0, .retAddr 0]) ⟨Or.inr rfl, Or.inr rfl, Or.inr rfl, Or.inr rfl, Or.inr rfl, Or.inl rfl, Or.inl rfl, Or.inl rfl, trivial⟩ (ih _ _ _ _ _ hf true)
theorem bX12_tellsAll_0 (C : mCx p (mR 3) s m args meth c G cX12_tellsAll RX12 8 false 233 54500 233 54500) (hr : meth.sig.returnType = (some .boolean)) (hk : meth.locks = false) {b : Bool} {S' : mT} {r : Int32} {v1 : Int32} {v2 : Int32} {S : mT} (hf : fX12_tellsAll v1 v2 S = some (r, S')) (ok : Bool) : mW p l e (mR 3) s m args below meth c G 8 233 54500 (mQ below G args s b S' (some (.int r))) (ok, 0, [.ref (187), .int v1, .int v2, .retAddr 0, .retAddr 0, .retAddr 0, .retAddr 0, .retAddr 0], [], mk b S) := by
  unfold fX12_tellsAll at hf
  refine msegT C kX12_tellsAll 0 1 (g := (true, 1, [.ref (187), .int v1, .int v2, .retAddr 0, .retAddr 0, .retAddr 0, .retAddr 0, .retAddr 0], [.ref (187)], mk b S)) rfl rfl ?_
  obtain ⟨x2, S1, hq, hf⟩ := bndC_ex hf
  refine mcall (kd := 0) (vs := [.ref (187)]) (rest := []) (r := (some (.int x2))) (h' := mk b S1) (ok' := true) C lkRX12_430 (qX12_rowsOf hq) (kX12_tellsAll _ (List.mem_of_getElem? (i := 1) rfl)).1 ⟨_, _, rfl, rfl, Nat.le_of_ble_eq_true rfl, _, _, rfl, rfl, rfl⟩ (Nat.le_of_ble_eq_true rfl) (Nat.le_of_ble_eq_true rfl) (Nat.le_refl _) (Nat.le_refl _) (Nat.le_of_ble_eq_true rfl) ?_
  refine msegT C kX12_tellsAll 2 3 (g := (true, 8, [.ref (187), .int v1, .int v2, .int x2, .int (0 : Int32), .retAddr 0, .retAddr 0, .retAddr 0], [], mk b S1)) rfl rfl ?_
  exact mfor (L' := [.ref (187), .int v1, .int v2, .int x2, .int (0 : Int32), .retAddr 0, .retAddr 0, .retAddr 0]) ⟨Or.inr rfl, Or.inr rfl, Or.inr rfl, Or.inr rfl, Or.inr rfl, Or.inl rfl, Or.inl rfl, Or.inl rfl, trivial⟩ (bX12_tellsAll_8 C hr hk _ _ _ _ _ _ hf true)
theorem qX12_tellsAll {b : Bool} {v1 : Int32} {v2 : Int32} {S S' : mT} {r : Int32} (hf : fX12_tellsAll v1 v2 S = some (r, S')) : mOk l mX12_tellsAll 3 [.ref (187), .int v1, .int v2] b S (some (.int r)) S' :=
  gMet (by decide) (Nat.le_of_ble_eq_true rfl) rfl (Nat.le_of_ble_eq_true rfl) (fun p e s m args below meth c G C hr hk => bX12_tellsAll_0 C hr hk hf true)
theorem bX12_tells_91 (C : mCx p (mR 4) s m args meth c G cX12_tells RX12 5 false 233 54500 233 54500) (hr : meth.sig.returnType = (some .int)) (hk : meth.locks = false) {b : Bool} {S' : mT} {r : Int32} {rc37 : Int32 → Int32 → Int32 → Int32 → mT → Option (Int32 × mT)} (Hrc37 : ∀ (v1 : Int32) (v2 : Int32) (v3 : Int32) (v4 : Int32) (S : mT), rc37 v1 v2 v3 v4 S = some (r, S') → ∀ ok : Bool, mW p l e (mR 4) s m args below meth c G 5 233 54500 (mQ below G args s b S' (some (.int r))) (ok, 37, [.ref (187), .int v1, .int v2, .int v3, .int v4], [], mk b S)) {v1 : Int32} {v2 : Int32} {v3 : Int32} {v4 : Int32} {S : mT} (hf : fX12_tells_91 rc37 v1 v2 v3 v4 S = some (r, S')) (ok : Bool) : mW p l e (mR 4) s m args below meth c G 5 233 54500 (mQ below G args s b S' (some (.int r))) (ok, 91, [.ref (187), .int v1, .int v2, .int v3, .int v4], [], mk b S) := by
  unfold fX12_tells_91 at hf
  refine msegT C kX12_tells 50 1 (g := (true, 94, [.ref (187), .int v1, .int v2, .int v3, .int (v4 + (1 : Int32))], [], mk b S)) rfl rfl ?_
  obtain ⟨x17, ex17, hf⟩ := bnd_ex hf
  rw [← ex17]
  refine msegT C kX12_tells 51 1 (g := (true, 37, [.ref (187), .int v1, .int v2, .int v3, .int x17], [], mk b S)) rfl rfl ?_
  exact mfor (L' := [.ref (187), .int v1, .int v2, .int v3, .int x17]) ⟨Or.inr rfl, Or.inr rfl, Or.inr rfl, Or.inr rfl, Or.inr rfl, trivial⟩ (Hrc37 _ _ _ _ _ hf true)
theorem bX12_tells_78 (C : mCx p (mR 4) s m args meth c G cX12_tells RX12 5 false 233 54500 233 54500) (hr : meth.sig.returnType = (some .int)) (hk : meth.locks = false) {b : Bool} {S' : mT} {r : Int32} {rc37 : Int32 → Int32 → Int32 → Int32 → mT → Option (Int32 × mT)} (Hrc37 : ∀ (v1 : Int32) (v2 : Int32) (v3 : Int32) (v4 : Int32) (S : mT), rc37 v1 v2 v3 v4 S = some (r, S') → ∀ ok : Bool, mW p l e (mR 4) s m args below meth c G 5 233 54500 (mQ below G args s b S' (some (.int r))) (ok, 37, [.ref (187), .int v1, .int v2, .int v3, .int v4], [], mk b S)) {v1 : Int32} {v2 : Int32} {v3 : Int32} {v4 : Int32} {S : mT} (hf : fX12_tells_78 rc37 v1 v2 v3 v4 S = some (r, S')) (ok : Bool) : mW p l e (mR 4) s m args below meth c G 5 233 54500 (mQ below G args s b S' (some (.int r))) (ok, 78, [.ref (187), .int v1, .int v2, .int v3, .int v4], [], mk b S) := by
  unfold fX12_tells_78 at hf
  refine msegT C kX12_tells 43 3 (g := (true, 82, [.ref (187), .int v1, .int v2, .int v3, .int v4], [.int v2, .int v4, .ref (187)], mk b S)) rfl rfl ?_
  obtain ⟨x16, S15, hq, hf⟩ := bndC_ex hf
  refine mcall (kd := 0) (vs := [.ref (187), .int v4, .int v2]) (rest := []) (r := (some (.int x16))) (h' := mk b S15) (ok' := true) C lkRX12_488 (qX12_tellsAll hq) (kX12_tells _ (List.mem_of_getElem? (i := 46) rfl)).1 ⟨_, _, rfl, rfl, Nat.le_of_ble_eq_true rfl, _, _, rfl, rfl, rfl⟩ (Nat.le_of_ble_eq_true rfl) (Nat.le_of_ble_eq_true rfl) (Nat.le_refl _) (Nat.le_refl _) (Nat.le_of_ble_eq_true rfl) ?_
  refine msegT C kX12_tells 47 1 (g := (true, (if x16 = 0 then 91 else 88), [.ref (187), .int v1, .int v2, .int v3, .int v4], [], mk b S15)) rfl rfl ?_
  by_cases hc : x16 = 0
  · rw [if_pos hc] at hf ⊢
    exact mfor (L' := [.ref (187), .int v1, .int v2, .int v3, .int v4]) ⟨Or.inr rfl, Or.inr rfl, Or.inr rfl, Or.inr rfl, Or.inr rfl, trivial⟩ (bX12_tells_91 C hr hk Hrc37 hf true)
  · rw [if_neg hc] at hf ⊢
    refine msegT C kX12_tells 48 2 (g := (true, 91, [.ref (187), .int v1, .int v2, .int v4, .int v4], [], mk b S15)) rfl rfl ?_
    exact mfor (L' := [.ref (187), .int v1, .int v2, .int v4, .int v4]) ⟨Or.inr rfl, Or.inr rfl, Or.inr rfl, Or.inr rfl, Or.inr rfl, trivial⟩ (bX12_tells_91 C hr hk Hrc37 hf true)
theorem bX12_tells_109 (C : mCx p (mR 4) s m args meth c G cX12_tells RX12 5 false 233 54500 233 54500) (hr : meth.sig.returnType = (some .int)) (hk : meth.locks = false) {b : Bool} {S' : mT} {r : Int32} {s0 : Int32} {S : mT} (hf : fX12_tells_109 s0 S = some (r, S')) (ok : Bool) : mW p l e (mR 4) s m args below meth c G 5 233 54500 (mQ below G args s b S' (some (.int r))) (ok, 109, [.retAddr 0, .retAddr 0, .retAddr 0, .retAddr 0, .retAddr 0], [.int s0], mk b S) := by
  unfold fX12_tells_109 at hf
  cases hf
  exact gret_i C hr hk (kX12_tells _ (List.mem_of_getElem? (i := 58) rfl)).1
theorem bX12_tells_37 (C : mCx p (mR 4) s m args meth c G cX12_tells RX12 5 false 233 54500 233 54500) (hr : meth.sig.returnType = (some .int)) (hk : meth.locks = false) {b : Bool} {S' : mT} {r : Int32} : ∀ (k : Nat) (v1 : Int32) (v2 : Int32) (v3 : Int32) (v4 : Int32) (S : mT), fX12_tells_37 k v1 v2 v3 v4 S = some (r, S') → ∀ ok : Bool, mW p l e (mR 4) s m args below meth c G 5 233 54500 (mQ below G args s b S' (some (.int r))) (ok, 37, [.ref (187), .int v1, .int v2, .int v3, .int v4], [], mk b S) := by
  intro k
  induction k with
  | zero =>
    intro v1 v2 v3 v4 S hf ok
    cases hf
  | succ k ih =>
    intro v1 v2 v3 v4 S hf ok
    unfold fX12_tells_37 at hf
    obtain ⟨hok, hf⟩ := grd_ex hf
    refine msegT C kX12_tells 24 6 (g := ((kO 187 12 && true), (if ((1 : Int32) <<< ((S.1 187 37) &&& 31)) ≤ v4 then 97 else 48), [.ref (187), .int v1, .int v2, .int v3, .int v4], [], mk b S)) rfl hok ?_
    by_cases hc : ((1 : Int32) <<< ((S.1 187 37) &&& 31)) ≤ v4
    · rw [if_pos hc] at hf ⊢
      refine msegT C kX12_tells 52 2 (g := (true, (if v1 = 0 then 101 else 108), [.ref (187), .int v1, .int v2, .int v3, .int v4], [], mk b S)) rfl rfl ?_
      by_cases hc : v1 = 0
      · rw [if_pos hc] at hf ⊢
        refine msegT C kX12_tells 54 1 (g := (true, 102, [.ref (187), .int v1, .int v2, .int v3, .int v4], [.int v3], mk b S)) rfl rfl ?_
        obtain ⟨x6, S5, hq, hf⟩ := bndC_ex hf
        refine mcall (kd := 1) (vs := [.int v3]) (rest := []) (r := (some (.int x6))) (h' := mk b S5) (ok' := true) C lkRX12_485 (qX12_membersOf hq) (kX12_tells _ (List.mem_of_getElem? (i := 55) rfl)).1 rfl (Nat.le_of_ble_eq_true rfl) (Nat.le_of_ble_eq_true rfl) (Nat.le_refl _) (Nat.le_refl _) (Nat.le_of_ble_eq_true rfl) ?_
        refine msegT C kX12_tells 56 1 (g := (true, 109, [.ref (187), .int v1, .int v2, .int v3, .int v4], [.int x6], mk b S5)) rfl rfl ?_
        exact mfor (L' := [.retAddr 0, .retAddr 0, .retAddr 0, .retAddr 0, .retAddr 0]) ⟨Or.inl rfl, Or.inl rfl, Or.inl rfl, Or.inl rfl, Or.inl rfl, trivial⟩ (bX12_tells_109 C hr hk hf true)
      · rw [if_neg hc] at hf ⊢
        refine msegT C kX12_tells 57 1 (g := (true, 109, [.ref (187), .int v1, .int v2, .int v3, .int v4], [.int v3], mk b S)) rfl rfl ?_
        exact mfor (L' := [.retAddr 0, .retAddr 0, .retAddr 0, .retAddr 0, .retAddr 0]) ⟨Or.inl rfl, Or.inl rfl, Or.inl rfl, Or.inl rfl, Or.inl rfl, trivial⟩ (bX12_tells_109 C hr hk hf true)
    · rw [if_neg hc] at hf ⊢
      refine msegT C kX12_tells 30 1 (g := (true, 50, [.ref (187), .int v1, .int v2, .int v3, .int v4], [.int v4], mk b S)) rfl rfl ?_
      obtain ⟨x8, S7, hq, hf⟩ := bndC_ex hf
      refine mcall (kd := 1) (vs := [.int v4]) (rest := []) (r := (some (.int x8))) (h' := mk b S7) (ok' := true) C lkRX12_485 (qX12_membersOf hq) (kX12_tells _ (List.mem_of_getElem? (i := 31) rfl)).1 rfl (Nat.le_of_ble_eq_true rfl) (Nat.le_of_ble_eq_true rfl) (Nat.le_refl _) (Nat.le_refl _) (Nat.le_of_ble_eq_true rfl) ?_
      refine msegT C kX12_tells 32 1 (g := (true, 54, [.ref (187), .int v1, .int v2, .int v3, .int v4], [.int v3, .int x8], mk b S7)) rfl rfl ?_
      obtain ⟨x10, S9, hq, hf⟩ := bndC_ex hf
      refine mcall (kd := 1) (vs := [.int v3]) (rest := [.int x8]) (r := (some (.int x10))) (h' := mk b S9) (ok' := true) C lkRX12_485 (qX12_membersOf hq) (kX12_tells _ (List.mem_of_getElem? (i := 33) rfl)).1 rfl (Nat.le_of_ble_eq_true rfl) (Nat.le_of_ble_eq_true rfl) (Nat.le_refl _) (Nat.le_refl _) (Nat.le_of_ble_eq_true rfl) ?_
      refine msegT C kX12_tells 34 1 (g := (true, (if x8 < x10 then 78 else 60), [.ref (187), .int v1, .int v2, .int v3, .int v4], [], mk b S9)) rfl rfl ?_
      by_cases hc : x8 < x10
      · rw [if_pos hc] at hf ⊢
        exact mfor (L' := [.ref (187), .int v1, .int v2, .int v3, .int v4]) ⟨Or.inr rfl, Or.inr rfl, Or.inr rfl, Or.inr rfl, Or.inr rfl, trivial⟩ (bX12_tells_78 C hr hk ih hf true)
      · rw [if_neg hc] at hf ⊢
        refine msegT C kX12_tells 35 1 (g := (true, 62, [.ref (187), .int v1, .int v2, .int v3, .int v4], [.int v4], mk b S9)) rfl rfl ?_
        obtain ⟨x12, S11, hq, hf⟩ := bndC_ex hf
        refine mcall (kd := 1) (vs := [.int v4]) (rest := []) (r := (some (.int x12))) (h' := mk b S11) (ok' := true) C lkRX12_485 (qX12_membersOf hq) (kX12_tells _ (List.mem_of_getElem? (i := 36) rfl)).1 rfl (Nat.le_of_ble_eq_true rfl) (Nat.le_of_ble_eq_true rfl) (Nat.le_refl _) (Nat.le_refl _) (Nat.le_of_ble_eq_true rfl) ?_
        refine msegT C kX12_tells 37 1 (g := (true, 66, [.ref (187), .int v1, .int v2, .int v3, .int v4], [.int v3, .int x12], mk b S11)) rfl rfl ?_
        obtain ⟨x14, S13, hq, hf⟩ := bndC_ex hf
        refine mcall (kd := 1) (vs := [.int v3]) (rest := [.int x12]) (r := (some (.int x14))) (h' := mk b S13) (ok' := true) C lkRX12_485 (qX12_membersOf hq) (kX12_tells _ (List.mem_of_getElem? (i := 38) rfl)).1 rfl (Nat.le_of_ble_eq_true rfl) (Nat.le_of_ble_eq_true rfl) (Nat.le_refl _) (Nat.le_refl _) (Nat.le_of_ble_eq_true rfl) ?_
        refine msegT C kX12_tells 39 1 (g := (true, (if x12 = x14 then 72 else 91), [.ref (187), .int v1, .int v2, .int v3, .int v4], [], mk b S13)) rfl rfl ?_
        by_cases hc : x12 = x14
        · rw [if_pos hc] at hf ⊢
          refine msegT C kX12_tells 40 3 (g := (true, (if v3 ≤ v4 then 91 else 78), [.ref (187), .int v1, .int v2, .int v3, .int v4], [], mk b S13)) rfl rfl ?_
          by_cases hc : v3 ≤ v4
          · rw [if_pos hc] at hf ⊢
            exact mfor (L' := [.ref (187), .int v1, .int v2, .int v3, .int v4]) ⟨Or.inr rfl, Or.inr rfl, Or.inr rfl, Or.inr rfl, Or.inr rfl, trivial⟩ (bX12_tells_91 C hr hk ih hf true)
          · rw [if_neg hc] at hf ⊢
            exact mfor (L' := [.ref (187), .int v1, .int v2, .int v3, .int v4]) ⟨Or.inr rfl, Or.inr rfl, Or.inr rfl, Or.inr rfl, Or.inr rfl, trivial⟩ (bX12_tells_78 C hr hk ih hf true)
        · rw [if_neg hc] at hf ⊢
          exact mfor (L' := [.ref (187), .int v1, .int v2, .int v3, .int v4]) ⟨Or.inr rfl, Or.inr rfl, Or.inr rfl, Or.inr rfl, Or.inr rfl, trivial⟩ (bX12_tells_91 C hr hk ih hf true)
theorem bX12_tells_0 (C : mCx p (mR 4) s m args meth c G cX12_tells RX12 5 false 233 54500 233 54500) (hr : meth.sig.returnType = (some .int)) (hk : meth.locks = false) {b : Bool} {S' : mT} {r : Int32} {v1 : Int32} {v2 : Int32} {S : mT} (hf : fX12_tells v1 v2 S = some (r, S')) (ok : Bool) : mW p l e (mR 4) s m args below meth c G 5 233 54500 (mQ below G args s b S' (some (.int r))) (ok, 0, [.ref (187), .int v1, .int v2, .retAddr 0, .retAddr 0], [], mk b S) := by
  unfold fX12_tells at hf
  refine msegT C kX12_tells 0 3 (g := (true, 3, [.ref (187), .int v1, .int v2, .retAddr 0, .retAddr 0], [.int (1 : Int32), .int (0 : Int32), .int v1], mk b S)) rfl rfl ?_
  obtain ⟨x2, S1, hq, hf⟩ := bndC_ex hf
  refine mcall (kd := 1) (vs := [.int v1, .int (0 : Int32), .int (1 : Int32)]) (rest := []) (r := (some (.int x2))) (h' := mk b S1) (ok' := true) C lkRX12_362 (qX12_isIn hq) (kX12_tells _ (List.mem_of_getElem? (i := 3) rfl)).1 rfl (Nat.le_of_ble_eq_true rfl) (Nat.le_of_ble_eq_true rfl) (Nat.le_refl _) (Nat.le_refl _) (Nat.le_of_ble_eq_true rfl) ?_
  refine msegT C kX12_tells 4 1 (g := (true, (if x2 = 0 then 9 else 11), [.ref (187), .int v1, .int v2, .retAddr 0, .retAddr 0], [], mk b S1)) rfl rfl ?_
  by_cases hc : x2 = 0
  · rw [if_pos hc] at hf ⊢
    refine msegT C kX12_tells 5 1 (g := (true, 10, [.ref (187), .int v1, .int v2, .retAddr 0, .retAddr 0], [.int (-1 : Int32)], mk b S1)) rfl rfl ?_
    cases hf
    exact gret_i C hr hk (kX12_tells _ (List.mem_of_getElem? (i := 6) rfl)).1
  · rw [if_neg hc] at hf ⊢
    refine msegT C kX12_tells 7 2 (g := (true, 13, [.ref (187), .int v1, .int v2, .retAddr 0, .retAddr 0], [.int v2, .ref (187)], mk b S1)) rfl rfl ?_
    obtain ⟨S3, hq, hf⟩ := bndV_ex hf
    refine mcall (kd := 0) (vs := [.ref (187), .int v2]) (rest := []) (r := none) (h' := mk b S3) (ok' := true) C lkRX12_479 (qX12_layTruths hq) (kX12_tells _ (List.mem_of_getElem? (i := 9) rfl)).1 ⟨_, _, rfl, rfl, Nat.le_of_ble_eq_true rfl, _, _, rfl, rfl, rfl⟩ (Nat.le_of_ble_eq_true rfl) (Nat.le_of_ble_eq_true rfl) (Nat.le_refl _) (Nat.le_refl _) (Nat.le_of_ble_eq_true rfl) ?_
    obtain ⟨hok, hf⟩ := grd_ex hf
    refine msegT C kX12_tells 10 3 (g := ((kO 187 12 && true), (if (S3.1 187 69) = 0 then 23 else 25), [.ref (187), .int v1, .int v2, .retAddr 0, .retAddr 0], [], mk b S3)) rfl hok ?_
    by_cases hc : (S3.1 187 69) = 0
    · rw [if_pos hc] at hf ⊢
      refine msegT C kX12_tells 13 1 (g := (true, 24, [.ref (187), .int v1, .int v2, .retAddr 0, .retAddr 0], [.int (-1 : Int32)], mk b S3)) rfl rfl ?_
      cases hf
      exact gret_i C hr hk (kX12_tells _ (List.mem_of_getElem? (i := 14) rfl)).1
    · rw [if_neg hc] at hf ⊢
      obtain ⟨hok, hf⟩ := grd_ex hf
      refine msegT C kX12_tells 15 7 (g := ((kO 187 12 && true), 34, [.ref (187), .int v1, .int v2, .int (((1 : Int32) <<< ((S3.1 187 37) &&& 31)) - (1 : Int32)), .retAddr 0], [], mk b S3)) rfl hok ?_
      obtain ⟨x4, ex4, hf⟩ := bnd_ex hf
      rw [← ex4]
      refine msegT C kX12_tells 22 2 (g := (true, 37, [.ref (187), .int v1, .int v2, .int x4, .int (0 : Int32)], [], mk b S3)) rfl rfl ?_
      exact mfor (L' := [.ref (187), .int v1, .int v2, .int x4, .int (0 : Int32)]) ⟨Or.inr rfl, Or.inr rfl, Or.inr rfl, Or.inr rfl, Or.inr rfl, trivial⟩ (bX12_tells_37 C hr hk _ _ _ _ _ _ hf true)
theorem qX12_tells {b : Bool} {v1 : Int32} {v2 : Int32} {S S' : mT} {r : Int32} (hf : fX12_tells v1 v2 S = some (r, S')) : mOk l mX12_tells 4 [.ref (187), .int v1, .int v2] b S (some (.int r)) S' :=
  gMet (by decide) (Nat.le_of_ble_eq_true rfl) rfl (Nat.le_of_ble_eq_true rfl) (fun p e s m args below meth c G C hr hk => bX12_tells_0 C hr hk hf true)
theorem bX12_truths_0 (C : mCx p (mR 4) s m args meth c G cX12_truths RX12 2 false 233 54500 233 54500) (hr : meth.sig.returnType = (some .int)) (hk : meth.locks = false) {b : Bool} {S' : mT} {r : Int32} {v1 : Int32} {S : mT} (hf : fX12_truths v1 S = some (r, S')) (ok : Bool) : mW p l e (mR 4) s m args below meth c G 2 233 54500 (mQ below G args s b S' (some (.int r))) (ok, 0, [.ref (187), .int v1], [], mk b S) := by
  unfold fX12_truths at hf
  refine msegT C kX12_truths 0 2 (g := (true, 2, [.ref (187), .int v1], [.int v1, .ref (187)], mk b S)) rfl rfl ?_
  obtain ⟨S1, hq, hf⟩ := bndV_ex hf
  refine mcall (kd := 0) (vs := [.ref (187), .int v1]) (rest := []) (r := none) (h' := mk b S1) (ok' := true) C lkRX12_479 (qX12_layTruths hq) (kX12_truths _ (List.mem_of_getElem? (i := 2) rfl)).1 ⟨_, _, rfl, rfl, Nat.le_of_ble_eq_true rfl, _, _, rfl, rfl, rfl⟩ (Nat.le_of_ble_eq_true rfl) (Nat.le_of_ble_eq_true rfl) (Nat.le_refl _) (Nat.le_refl _) (Nat.le_of_ble_eq_true rfl) ?_
  obtain ⟨hok, hf⟩ := grd_ex hf
  refine msegT C kX12_truths 3 2 (g := ((kO 187 12 && true), 9, [.ref (187), .int v1], [.int (S1.1 187 69)], mk b S1)) rfl hok ?_
  cases hf
  exact gret_i C hr hk (kX12_truths _ (List.mem_of_getElem? (i := 5) rfl)).1
theorem qX12_truths {b : Bool} {v1 : Int32} {S S' : mT} {r : Int32} (hf : fX12_truths v1 S = some (r, S')) : mOk l mX12_truths 4 [.ref (187), .int v1] b S (some (.int r)) S' :=
  gMet (by decide) (Nat.le_of_ble_eq_true rfl) rfl (Nat.le_of_ble_eq_true rfl) (fun p e s m args below meth c G C hr hk => bX12_truths_0 C hr hk hf true)
theorem bX12_undo_0 (C : mCx p (mR 2) s m args meth c G cX12_undo RX12 1 false 233 54500 233 54500) (hr : meth.sig.returnType = (some .boolean)) (hk : meth.locks = false) {b : Bool} {S' : mT} {r : Int32} {S : mT} (hf : fX12_undo S = some (r, S')) (ok : Bool) : mW p l e (mR 2) s m args below meth c G 1 233 54500 (mQ below G args s b S' (some (.int r))) (ok, 0, [.ref (187)], [], mk b S) := by
  unfold fX12_undo at hf
  obtain ⟨hok, hf⟩ := grd_ex hf
  refine msegT C kX12_undo 0 3 (g := ((kO 187 12 && true), (if (S.1 187 46) = 0 then 7 else 9), [.ref (187)], [], mk b S)) rfl hok ?_
  by_cases hc : (S.1 187 46) = 0
  · rw [if_pos hc] at hf ⊢
    refine msegT C kX12_undo 3 1 (g := (true, 8, [.ref (187)], [.int (0 : Int32)], mk b S)) rfl rfl ?_
    cases hf
    exact gret_z C hr hk (by decide) (kX12_undo _ (List.mem_of_getElem? (i := 4) rfl)).1
  · rw [if_neg hc] at hf ⊢
    obtain ⟨hok, hf⟩ := grd_ex hf
    refine msegT C kX12_undo 5 6 (g := ((kO 187 12 && (kO 187 12 && true)), 19, [.ref (187)], [], mk b (sI S 187 46 ((S.1 187 46) - (1 : Int32))))) rfl hok ?_
    obtain ⟨S1, eS1, hf⟩ := bnd_ex hf
    rw [← eS1]
    obtain ⟨hok, hf⟩ := grd_ex hf
    refine msegT C kX12_undo 11 6 (g := ((kO 187 12 && (kO 187 12 && true)), 29, [.ref (187)], [], mk b (sI S1 187 47 ((S1.1 187 47) + (1 : Int32))))) rfl hok ?_
    obtain ⟨S2, eS2, hf⟩ := bnd_ex hf
    rw [← eS2]
    obtain ⟨hok, hf⟩ := grd_ex hf
    refine msegT C kX12_undo 17 5 (g := ((kO 187 12 && true), 37, [.ref (187)], [.int ((18 : Int32) * (S2.1 187 46)), .ref (187)], mk b S2)) rfl hok ?_
    obtain ⟨S3, hq, hf⟩ := bndV_ex hf
    refine mcall (kd := 0) (vs := [.ref (187), .int ((18 : Int32) * (S2.1 187 46))]) (rest := []) (r := none) (h' := mk b S3) (ok' := true) C lkRX12_418 (qX12_exchange hq) (kX12_undo _ (List.mem_of_getElem? (i := 22) rfl)).1 ⟨_, _, rfl, rfl, Nat.le_of_ble_eq_true rfl, _, _, rfl, rfl, rfl⟩ (Nat.le_of_ble_eq_true rfl) (Nat.le_of_ble_eq_true rfl) (Nat.le_refl _) (Nat.le_refl _) (Nat.le_of_ble_eq_true rfl) ?_
    refine msegT C kX12_undo 23 1 (g := (true, 41, [.ref (187)], [.int (1 : Int32)], mk b S3)) rfl rfl ?_
    cases hf
    exact gret_z C hr hk (by decide) (kX12_undo _ (List.mem_of_getElem? (i := 24) rfl)).1
theorem qX12_undo {b : Bool} {S S' : mT} {r : Int32} (hf : fX12_undo S = some (r, S')) : mOk l mX12_undo 2 [.ref (187)] b S (some (.int r)) S' :=
  gMet (by decide) (Nat.le_of_ble_eq_true rfl) rfl (Nat.le_of_ble_eq_true rfl) (fun p e s m args below meth c G C hr hk => bX12_undo_0 C hr hk hf true)
theorem bX12_untell_23 (C : mCx p (mR 2) s m args meth c G cX12_untell RX12 2 false 233 54500 233 54500) (hr : meth.sig.returnType = (some .boolean)) (hk : meth.locks = false) {b : Bool} {S' : mT} {r : Int32} {S : mT} (hf : fX12_untell_23 S = some (r, S')) (ok : Bool) : mW p l e (mR 2) s m args below meth c G 2 233 54500 (mQ below G args s b S' (some (.int r))) (ok, 23, [.retAddr 0, .retAddr 0], [], mk b S) := by
  unfold fX12_untell_23 at hf
  refine msegT C kX12_untell 13 1 (g := (true, 24, [.retAddr 0, .retAddr 0], [.int (0 : Int32)], mk b S)) rfl rfl ?_
  cases hf
  exact gret_z C hr hk (by decide) (kX12_untell _ (List.mem_of_getElem? (i := 14) rfl)).1
theorem bX12_untell_0 (C : mCx p (mR 2) s m args meth c G cX12_untell RX12 2 false 233 54500 233 54500) (hr : meth.sig.returnType = (some .boolean)) (hk : meth.locks = false) {b : Bool} {S' : mT} {r : Int32} {v1 : Int32} {S : mT} (hf : fX12_untell v1 S = some (r, S')) (ok : Bool) : mW p l e (mR 2) s m args below meth c G 2 233 54500 (mQ below G args s b S' (some (.int r))) (ok, 0, [.ref (187), .int v1], [], mk b S) := by
  unfold fX12_untell at hf
  obtain ⟨hok, hf⟩ := grd_ex hf
  refine msegT C kX12_untell 0 6 (g := ((kO 187 12 && true), 8, [.ref (187), .int v1], [.int ((S.1 187 66) - (1 : Int32)), .int (0 : Int32), .int v1], mk b S)) rfl hok ?_
  obtain ⟨x2, S1, hq, hf⟩ := bndC_ex hf
  refine mcall (kd := 1) (vs := [.int v1, .int (0 : Int32), .int ((S.1 187 66) - (1 : Int32))]) (rest := []) (r := (some (.int x2))) (h' := mk b S1) (ok' := true) C lkRX12_362 (qX12_isIn hq) (kX12_untell _ (List.mem_of_getElem? (i := 6) rfl)).1 rfl (Nat.le_of_ble_eq_true rfl) (Nat.le_of_ble_eq_true rfl) (Nat.le_refl _) (Nat.le_refl _) (Nat.le_of_ble_eq_true rfl) ?_
  refine msegT C kX12_untell 7 1 (g := (true, (if x2 = 0 then 23 else 14), [.ref (187), .int v1], [], mk b S1)) rfl rfl ?_
  by_cases hc : x2 = 0
  · rw [if_pos hc] at hf ⊢
    exact mfor (L' := [.retAddr 0, .retAddr 0]) ⟨Or.inl rfl, Or.inl rfl, trivial⟩ (bX12_untell_23 C hr hk hf true)
  · rw [if_neg hc] at hf ⊢
    obtain ⟨hok, hf⟩ := grd_ex hf
    refine msegT C kX12_untell 8 5 (g := ((kI 228 v1 && (kO 187 12 && true)), (if (S1.1 228 (mIx v1)) < 0 then 25 else 23), [.ref (187), .int v1], [], mk b S1)) rfl hok ?_
    by_cases hc : (S1.1 228 (mIx v1)) < 0
    · rw [if_pos hc] at hf ⊢
      obtain ⟨hok, hf⟩ := grd_ex hf
      refine msegT C kX12_untell 15 6 (g := ((kI 228 v1 && (kO 187 12 && (kO 187 12 && true))), 35, [.ref (187), .int v1], [], mk b (sI S1 228 (mIx v1) (S1.1 187 67)))) rfl hok ?_
      obtain ⟨S3, eS3, hf⟩ := bnd_ex hf
      rw [← eS3]
      refine msegT C kX12_untell 21 1 (g := (true, 36, [.ref (187), .int v1], [.int (1 : Int32)], mk b S3)) rfl rfl ?_
      cases hf
      exact gret_z C hr hk (by decide) (kX12_untell _ (List.mem_of_getElem? (i := 22) rfl)).1
    · rw [if_neg hc] at hf ⊢
      exact mfor (L' := [.retAddr 0, .retAddr 0]) ⟨Or.inl rfl, Or.inl rfl, trivial⟩ (bX12_untell_23 C hr hk hf true)
theorem qX12_untell {b : Bool} {v1 : Int32} {S S' : mT} {r : Int32} (hf : fX12_untell v1 S = some (r, S')) : mOk l mX12_untell 2 [.ref (187), .int v1] b S (some (.int r)) S' :=
  gMet (by decide) (Nat.le_of_ble_eq_true rfl) rfl (Nat.le_of_ble_eq_true rfl) (fun p e s m args below meth c G C hr hk => bX12_untell_0 C hr hk hf true)
theorem bX12_will_18 (C : mCx p (mR 7) s m args meth c G cX12_will RX12 3 false 233 54500 233 54500) (hr : meth.sig.returnType = (some .int)) (hk : meth.locks = false) {b : Bool} {S' : mT} {r : Int32} {S : mT} (hf : fX12_will_18 S = some (r, S')) (ok : Bool) : mW p l e (mR 7) s m args below meth c G 3 233 54500 (mQ below G args s b S' (some (.int r))) (ok, 18, [.retAddr 0, .retAddr 0, .retAddr 0], [], mk b S) := by
  unfold fX12_will_18 at hf
  refine msegT C kX12_will 9 1 (g := (true, 19, [.retAddr 0, .retAddr 0, .retAddr 0], [.int (-1 : Int32)], mk b S)) rfl rfl ?_
  cases hf
  exact gret_i C hr hk (kX12_will _ (List.mem_of_getElem? (i := 10) rfl)).1
theorem bX12_will_0 (C : mCx p (mR 7) s m args meth c G cX12_will RX12 3 false 233 54500 233 54500) (hr : meth.sig.returnType = (some .int)) (hk : meth.locks = false) {b : Bool} {S' : mT} {r : Int32} {v1 : Int32} {v2 : Int32} {S : mT} (hf : fX12_will v1 v2 S = some (r, S')) (ok : Bool) : mW p l e (mR 7) s m args below meth c G 3 233 54500 (mQ below G args s b S' (some (.int r))) (ok, 0, [.ref (187), .int v1, .int v2], [], mk b S) := by
  unfold fX12_will at hf
  refine msegT C kX12_will 0 2 (g := (true, 2, [.ref (187), .int v1, .int v2], [.int v1, .ref (187)], mk b S)) rfl rfl ?_
  obtain ⟨x2, S1, hq, hf⟩ := bndC_ex hf
  refine mcall (kd := 0) (vs := [.ref (187), .int v1]) (rest := []) (r := (some (.int x2))) (h' := mk b S1) (ok' := true) C lkRX12_388 (qX12_isHouse hq) (kX12_will _ (List.mem_of_getElem? (i := 2) rfl)).1 ⟨_, _, rfl, rfl, Nat.le_of_ble_eq_true rfl, _, _, rfl, rfl, rfl⟩ (Nat.le_of_ble_eq_true rfl) (Nat.le_of_ble_eq_true rfl) (Nat.le_refl _) (Nat.le_refl _) (Nat.le_of_ble_eq_true rfl) ?_
  refine msegT C kX12_will 3 1 (g := (true, (if x2 = 0 then 18 else 8), [.ref (187), .int v1, .int v2], [], mk b S1)) rfl rfl ?_
  by_cases hc : x2 = 0
  · rw [if_pos hc] at hf ⊢
    exact mfor (L' := [.retAddr 0, .retAddr 0, .retAddr 0]) ⟨Or.inl rfl, Or.inl rfl, Or.inl rfl, trivial⟩ (bX12_will_18 C hr hk hf true)
  · rw [if_neg hc] at hf ⊢
    refine msegT C kX12_will 4 3 (g := (true, 12, [.ref (187), .int v1, .int v2], [.int (60 : Int32), .int (0 : Int32), .int v2], mk b S1)) rfl rfl ?_
    obtain ⟨x4, S3, hq, hf⟩ := bndC_ex hf
    refine mcall (kd := 1) (vs := [.int v2, .int (0 : Int32), .int (60 : Int32)]) (rest := []) (r := (some (.int x4))) (h' := mk b S3) (ok' := true) C lkRX12_362 (qX12_isIn hq) (kX12_will _ (List.mem_of_getElem? (i := 7) rfl)).1 rfl (Nat.le_of_ble_eq_true rfl) (Nat.le_of_ble_eq_true rfl) (Nat.le_refl _) (Nat.le_refl _) (Nat.le_of_ble_eq_true rfl) ?_
    refine msegT C kX12_will 8 1 (g := (true, (if x4 = 0 then 18 else 20), [.ref (187), .int v1, .int v2], [], mk b S3)) rfl rfl ?_
    by_cases hc : x4 = 0
    · rw [if_pos hc] at hf ⊢
      exact mfor (L' := [.retAddr 0, .retAddr 0, .retAddr 0]) ⟨Or.inl rfl, Or.inl rfl, Or.inl rfl, trivial⟩ (bX12_will_18 C hr hk hf true)
    · rw [if_neg hc] at hf ⊢
      refine msegT C kX12_will 11 2 (g := (true, 22, [.ref (187), .int v1, .int v2], [.int v2, .ref (187)], mk b S3)) rfl rfl ?_
      obtain ⟨S5, hq, hf⟩ := bndV_ex hf
      refine mcall (kd := 0) (vs := [.ref (187), .int v2]) (rest := []) (r := none) (h' := mk b S5) (ok' := true) C lkRX12_421 (qX12_goFar hq) (kX12_will _ (List.mem_of_getElem? (i := 13) rfl)).1 ⟨_, _, rfl, rfl, Nat.le_of_ble_eq_true rfl, _, _, rfl, rfl, rfl⟩ (Nat.le_of_ble_eq_true rfl) (Nat.le_of_ble_eq_true rfl) (Nat.le_refl _) (Nat.le_refl _) (Nat.le_of_ble_eq_true rfl) ?_
      obtain ⟨hok, hf⟩ := grd_ex hf
      refine msegT C kX12_will 14 4 (g := ((kI 209 v1 && (kO 187 12 && true)), 31, [.ref (187), .int v1, .int v2], [.int (S5.1 209 (mIx v1))], mk b S5)) rfl hok ?_
      cases hf
      exact gret_i C hr hk (kX12_will _ (List.mem_of_getElem? (i := 18) rfl)).1
theorem qX12_will {b : Bool} {v1 : Int32} {v2 : Int32} {S S' : mT} {r : Int32} (hf : fX12_will v1 v2 S = some (r, S')) : mOk l mX12_will 7 [.ref (187), .int v1, .int v2] b S (some (.int r)) S' :=
  gMet (by decide) (Nat.le_of_ble_eq_true rfl) rfl (Nat.le_of_ble_eq_true rfl) (fun p e s m args below meth c G C hr hk => bX12_will_0 C hr hk hf true)
end GP
