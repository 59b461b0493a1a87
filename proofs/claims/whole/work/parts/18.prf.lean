theorem mFit_nar {ty : FieldType} {v : Int32} (h : mFit ty v = true) : narrow ty (.int v) = .int v := by
  cases ty with
  | int => rfl
  | boolean =>
    have z : v = 0 ∨ v = 1 := of_decide_eq_true h
    rcases z with rfl | rfl <;> decide
  | char =>
    have z : (decide (narrow .char (.int v) = .int v) && fits .char (.int v)) = true := h
    rw [Bool.and_eq_true] at z
    exact of_decide_eq_true z.1
  | _ => cases h
section GR
variable {p : Program} {l : Launch} {e : Env} {s : State} {m : MethodId} {args : Array Value} {below : List Frame} {meth : Method} {c : Code} {G : mG} {cc : ByteArray} {own : String} {nL d : Nat} {b : Bool} {S : mT} {ok : Bool} {pc : Nat} {L : List Value}
theorem gQ {S0 : mT} {r : Option Value} : MQ below (mPost G (mk b S0) r) args s (hN (mk b S0) - 233) (hW (mk b S0) - 54500) (mA G) = mQ below G args s b S0 r := by
  have e1 : hN (mk b S0) - 233 = 0 := Nat.sub_self 233
  have e2 : hW (mk b S0) - 54500 = 0 := Nat.sub_self 54500
  rw [e1, e2]
  rfl
theorem gret_i (C : mCx p (mR d) s m args meth c G cc own nL false 233 54500 233 54500) (hr : meth.sig.returnType = some .int) (hk : meth.locks = false) {v : Int32} (hd : decode cc pc = .ok (.ireturn, 1)) : mW p l e (mR d) s m args below meth c G nL 233 54500 (mQ below G args s b S (some (.int v))) (ok, pc, L, [.int v], mk b S) := by
  rw [← gQ]
  exact mret_i C hr hk hd
theorem gret_z (C : mCx p (mR d) s m args meth c G cc own nL false 233 54500 233 54500) {ty : FieldType} (hr : meth.sig.returnType = some ty) (hk : meth.locks = false) {v : Int32} (hn : narrow ty (.int v) = .int v) (hd : decode cc pc = .ok (.ireturn, 1)) : mW p l e (mR d) s m args below meth c G nL 233 54500 (mQ below G args s b S (some (.int v))) (ok, pc, L, [.int v], mk b S) := by
  rw [← gQ]
  exact mret_z C hr hk hn hd
theorem gret_l (C : mCx p (mR d) s m args meth c G cc own nL false 233 54500 233 54500) (hr : meth.sig.returnType = some .long) (hk : meth.locks = false) {v : Int64} (hd : decode cc pc = .ok (.lreturn, 1)) : mW p l e (mR d) s m args below meth c G nL 233 54500 (mQ below G args s b S (some (.long v))) (ok, pc, L, [.long v], mk b S) := by
  rw [← gQ]
  exact mret_l C hr hk hd
theorem gret_v (C : mCx p (mR d) s m args meth c G cc own nL false 233 54500 233 54500) (hr : meth.sig.returnType = none) (hk : meth.locks = false) (hd : decode cc pc = .ok (.return_, 1)) : mW p l e (mR d) s m args below meth c G nL 233 54500 (mQ below G args s b S none) (ok, pc, L, [], mk b S) := by
  rw [← gQ]
  exact mret_v C hr hk hd
theorem gRm {S0 S1 : mT} : mRm d (mk b S0) (mk b S1) = mR d := by
  unfold mRm mR
  rw [show hN (mk b S1) - hN (mk b S0) = 0 from Nat.sub_self 233, show hW (mk b S1) - hW (mk b S0) = 0 from Nat.sub_self 54500]
/-- THE ENTRY, over these cells -/
theorem gMet {M : mM} {vs : List Value} {S' : mT} {r : Option Value} (hy : plainName M.1.cls = true) (hd : 1 ≤ d) (hp : mPl vs = true) (hl : (mEx vs).length ≤ M.2.2.1)
    (body : ∀ (p : Program) (e : Env) (s : State) (m : MethodId) (args : Array Value) (below : List Frame) (meth : Method) (c : Code) (G : mG), mCx p (mR d) s m args meth c G M.2.1 M.1.cls M.2.2.1 false 233 54500 233 54500 → meth.sig.returnType = M.2.2.2 → meth.locks = false →
      mW p l e (mR d) s m args below meth c G M.2.2.1 233 54500 (mQ below G args s b S' r) (true, 0, mL0 M.2.2.1 vs, [], mk b S)) : mOk l M d vs b S r S' := by
  refine mMet_of false hy (fun z => by cases z) hd hp hl (Nat.le_refl _) (Nat.le_refl _) (Nat.le_of_ble_eq_true rfl) (fun p e s m args below meth c G C hr hk => ?_)
  rw [gRm] at C ⊢
  have k := body p e s m args below meth c G C hr hk
  rw [← gQ] at k
  exact k
end GR
section GP
variable {p : Program} {l : Launch} {e : Env} {s : State} {m : MethodId} {args : Array Value} {below : List Frame} {meth : Method} {c : Code} {G : mG}
theorem bJ6_bitCount_0f7a4_0 (C : mCx p (mR 1) s m args meth c G cJ6_bitCount_0f7a4 RJ6 1 false 233 54500 233 54500) (hr : meth.sig.returnType = (some .int)) (hk : meth.locks = false) {b : Bool} {S' : mT} {r : Int32} {v0 : Int32} {S : mT} (hf : fJ6_bitCount_0f7a4 v0 S = some (r, S')) (ok : Bool) : mW p l e (mR 1) s m args below meth c G 1 233 54500 (mQ below G args s b S' (some (.int r))) (ok, 0, [.int v0], [], mk b S) := by
  unfold fJ6_bitCount_0f7a4 at hf
  refine msegT C kJ6_bitCount_0f7a4 0 8 (g := (true, 10, [.int (v0 - ((v0.toUInt32 >>> ((1 : Int32).toUInt32 &&& Int32.toUInt32 31)).toInt32 &&& (1431655765 : Int32)))], [], mk b S)) rfl rfl ?_
  obtain ⟨x1, ex1, hf⟩ := bnd_ex hf
  rw [← ex1]
  refine msegT C kJ6_bitCount_0f7a4 8 10 (g := (true, 24, [.int ((x1 &&& (858993459 : Int32)) + ((x1.toUInt32 >>> ((2 : Int32).toUInt32 &&& Int32.toUInt32 31)).toInt32 &&& (858993459 : Int32)))], [], mk b S)) rfl rfl ?_
  obtain ⟨x2, ex2, hf⟩ := bnd_ex hf
  rw [← ex2]
  refine msegT C kJ6_bitCount_0f7a4 18 8 (g := (true, 34, [.int ((x2 + (x2.toUInt32 >>> ((4 : Int32).toUInt32 &&& Int32.toUInt32 31)).toInt32) &&& (252645135 : Int32))], [], mk b S)) rfl rfl ?_
  obtain ⟨x3, ex3, hf⟩ := bnd_ex hf
  rw [← ex3]
  refine msegT C kJ6_bitCount_0f7a4 26 6 (g := (true, 41, [.int (x3 + (x3.toUInt32 >>> ((8 : Int32).toUInt32 &&& Int32.toUInt32 31)).toInt32)], [], mk b S)) rfl rfl ?_
  obtain ⟨x4, ex4, hf⟩ := bnd_ex hf
  rw [← ex4]
  refine msegT C kJ6_bitCount_0f7a4 32 6 (g := (true, 48, [.int (x4 + (x4.toUInt32 >>> ((16 : Int32).toUInt32 &&& Int32.toUInt32 31)).toInt32)], [], mk b S)) rfl rfl ?_
  obtain ⟨x5, ex5, hf⟩ := bnd_ex hf
  rw [← ex5]
  refine msegT C kJ6_bitCount_0f7a4 38 3 (g := (true, 52, [.int x5], [.int (x5 &&& (63 : Int32))], mk b S)) rfl rfl ?_
  cases hf
  exact gret_i C hr hk (kJ6_bitCount_0f7a4 _ (List.mem_of_getElem? (i := 41) rfl)).1
theorem qJ6_bitCount_0f7a4 {b : Bool} {v0 : Int32} {S S' : mT} {r : Int32} (hf : fJ6_bitCount_0f7a4 v0 S = some (r, S')) : mOk l mJ6_bitCount_0f7a4 1 [.int v0] b S (some (.int r)) S' :=
  gMet (by decide) (Nat.le_of_ble_eq_true rfl) rfl (Nat.le_of_ble_eq_true rfl) (fun p e s m args below meth c G C hr hk => bJ6_bitCount_0f7a4_0 C hr hk hf true)
theorem bJ7_fill_53178_5 (C : mCx p (mR 1) s m args meth c G cJ7_fill_53178 RJ7 4 false 233 54500 233 54500) (hr : meth.sig.returnType = none) (hk : meth.locks = false) {b : Bool} {a0 : Nat} {S' : mT} : ∀ (k : Nat) (v1 : Int32) (v2 : Int32) (v3 : Int32) (S : mT), fJ7_fill_53178_5 a0 k v1 v2 v3 S = some S' → ∀ ok : Bool, mW p l e (mR 1) s m args below meth c G 4 233 54500 (mQ below G args s b S' none) (ok, 5, [.ref a0, .int v1, .int v2, .int v3], [], mk b S) := by
  intro k
  induction k with
  | zero =>
    intro v1 v2 v3 S hf ok
    cases hf
  | succ k ih =>
    intro v1 v2 v3 S hf ok
    unfold fJ7_fill_53178_5 at hf
    refine msegT C kJ7_fill_53178 5 3 (g := (true, (if v3 ≤ v2 then 20 else 10), [.ref a0, .int v1, .int v2, .int v3], [], mk b S)) rfl rfl ?_
    by_cases hc : v3 ≤ v2
    · rw [if_pos hc] at hf ⊢
      cases hf
      exact gret_v C hr hk (kJ7_fill_53178 _ (List.mem_of_getElem? (i := 14) rfl)).1
    · rw [if_neg hc] at hf ⊢
      obtain ⟨hok, hf⟩ := grd_ex hf
      refine msegT C kJ7_fill_53178 8 4 (g := ((kI a0 v2 && true), 14, [.ref a0, .int v1, .int v2, .int v3], [], mk b (sI S a0 (mIx v2) v1))) rfl hok ?_
      obtain ⟨S2, eS2, hf⟩ := bnd_ex hf
      rw [← eS2]
      refine msegT C kJ7_fill_53178 12 1 (g := (true, 17, [.ref a0, .int v1, .int (v2 + (1 : Int32)), .int v3], [], mk b S2)) rfl rfl ?_
      obtain ⟨x3, ex3, hf⟩ := bnd_ex hf
      rw [← ex3]
      refine msegT C kJ7_fill_53178 13 1 (g := (true, 5, [.ref a0, .int v1, .int x3, .int v3], [], mk b S2)) rfl rfl ?_
      exact mfor (L' := [.ref a0, .int v1, .int x3, .int v3]) ⟨Or.inr rfl, Or.inr rfl, Or.inr rfl, Or.inr rfl, trivial⟩ (ih _ _ _ _ hf true)
theorem bJ7_fill_53178_0 (C : mCx p (mR 1) s m args meth c G cJ7_fill_53178 RJ7 4 false 233 54500 233 54500) (hr : meth.sig.returnType = none) (hk : meth.locks = false) {b : Bool} {a0 : Nat} {S' : mT} {v1 : Int32} {S : mT} (hf : fJ7_fill_53178 a0 v1 S = some S') (ok : Bool) : mW p l e (mR 1) s m args below meth c G 4 233 54500 (mQ below G args s b S' none) (ok, 0, [.ref a0, .int v1, .retAddr 0, .retAddr 0], [], mk b S) := by
  unfold fJ7_fill_53178 at hf
  obtain ⟨hok, hf⟩ := grd_ex hf
  refine msegT C kJ7_fill_53178 0 5 (g := ((kAL 233 (sT a0) a0 && true), 5, [.ref a0, .int v1, .int (0 : Int32), .int (Int32.ofNat (kLen (sT a0)))], [], mk b S)) rfl hok ?_
  obtain ⟨x1, ex1, hf⟩ := bnd_ex hf
  rw [← ex1]
  exact mfor (L' := [.ref a0, .int v1, .int (0 : Int32), .int x1]) ⟨Or.inr rfl, Or.inr rfl, Or.inr rfl, Or.inr rfl, trivial⟩ (bJ7_fill_53178_5 C hr hk _ _ _ _ _ hf true)
theorem qJ7_fill_53178 {b : Bool} {a0 : Nat} {v1 : Int32} {S S' : mT} (hf : fJ7_fill_53178 a0 v1 S = some S') : mOk l mJ7_fill_53178 1 [.ref a0, .int v1] b S none S' :=
  gMet (by decide) (Nat.le_of_ble_eq_true rfl) rfl (Nat.le_of_ble_eq_true rfl) (fun p e s m args below meth c G C hr hk => bJ7_fill_53178_0 C hr hk hf true)
theorem bX0_join_143 (C : mCx p (mR 1) s m args meth c G cX0_join RX0 3 false 233 54500 233 54500) (hr : meth.sig.returnType = (some .int)) (hk : meth.locks = false) {b : Bool} {S' : mT} {r : Int32} {s0 : Int32} {S : mT} (hf : fX0_join_143 s0 S = some (r, S')) (ok : Bool) : mW p l e (mR 1) s m args below meth c G 3 233 54500 (mQ below G args s b S' (some (.int r))) (ok, 143, [.retAddr 0, .retAddr 0, .retAddr 0], [.int s0], mk b S) := by
  unfold fX0_join_143 at hf
  cases hf
  exact gret_i C hr hk (kX0_join _ (List.mem_of_getElem? (i := 21) rfl)).1
theorem bX0_join_155 (C : mCx p (mR 1) s m args meth c G cX0_join RX0 3 false 233 54500 233 54500) (hr : meth.sig.returnType = (some .int)) (hk : meth.locks = false) {b : Bool} {S' : mT} {r : Int32} {s0 : Int32} {S : mT} (hf : fX0_join_155 s0 S = some (r, S')) (ok : Bool) : mW p l e (mR 1) s m args below meth c G 3 233 54500 (mQ below G args s b S' (some (.int r))) (ok, 155, [.retAddr 0, .retAddr 0, .retAddr 0], [.int s0], mk b S) := by
  unfold fX0_join_155 at hf
  cases hf
  exact gret_i C hr hk (kX0_join _ (List.mem_of_getElem? (i := 29) rfl)).1
theorem bX0_join_166 (C : mCx p (mR 1) s m args meth c G cX0_join RX0 3 false 233 54500 233 54500) (hr : meth.sig.returnType = (some .int)) (hk : meth.locks = false) {b : Bool} {S' : mT} {r : Int32} {s0 : Int32} {S : mT} (hf : fX0_join_166 s0 S = some (r, S')) (ok : Bool) : mW p l e (mR 1) s m args below meth c G 3 233 54500 (mQ below G args s b S' (some (.int r))) (ok, 166, [.retAddr 0, .retAddr 0, .retAddr 0], [.int s0], mk b S) := by
  unfold fX0_join_166 at hf
  cases hf
  exact gret_i C hr hk (kX0_join _ (List.mem_of_getElem? (i := 36) rfl)).1
theorem bX0_join_177 (C : mCx p (mR 1) s m args meth c G cX0_join RX0 3 false 233 54500 233 54500) (hr : meth.sig.returnType = (some .int)) (hk : meth.locks = false) {b : Bool} {S' : mT} {r : Int32} {s0 : Int32} {S : mT} (hf : fX0_join_177 s0 S = some (r, S')) (ok : Bool) : mW p l e (mR 1) s m args below meth c G 3 233 54500 (mQ below G args s b S' (some (.int r))) (ok, 177, [.retAddr 0, .retAddr 0, .retAddr 0], [.int s0], mk b S) := by
  unfold fX0_join_177 at hf
  cases hf
  exact gret_i C hr hk (kX0_join _ (List.mem_of_getElem? (i := 43) rfl)).1
theorem bX0_join_188 (C : mCx p (mR 1) s m args meth c G cX0_join RX0 3 false 233 54500 233 54500) (hr : meth.sig.returnType = (some .int)) (hk : meth.locks = false) {b : Bool} {S' : mT} {r : Int32} {s0 : Int32} {S : mT} (hf : fX0_join_188 s0 S = some (r, S')) (ok : Bool) : mW p l e (mR 1) s m args below meth c G 3 233 54500 (mQ below G args s b S' (some (.int r))) (ok, 188, [.retAddr 0, .retAddr 0, .retAddr 0], [.int s0], mk b S) := by
  unfold fX0_join_188 at hf
  cases hf
  exact gret_i C hr hk (kX0_join _ (List.mem_of_getElem? (i := 50) rfl)).1
theorem bX0_join_202 (C : mCx p (mR 1) s m args meth c G cX0_join RX0 3 false 233 54500 233 54500) (hr : meth.sig.returnType = (some .int)) (hk : meth.locks = false) {b : Bool} {S' : mT} {r : Int32} {s0 : Int32} {S : mT} (hf : fX0_join_202 s0 S = some (r, S')) (ok : Bool) : mW p l e (mR 1) s m args below meth c G 3 233 54500 (mQ below G args s b S' (some (.int r))) (ok, 202, [.retAddr 0, .retAddr 0, .retAddr 0], [.int s0], mk b S) := by
  unfold fX0_join_202 at hf
  cases hf
  exact gret_i C hr hk (kX0_join _ (List.mem_of_getElem? (i := 58) rfl)).1
theorem bX0_join_201 (C : mCx p (mR 1) s m args meth c G cX0_join RX0 3 false 233 54500 233 54500) (hr : meth.sig.returnType = (some .int)) (hk : meth.locks = false) {b : Bool} {S' : mT} {r : Int32} {S : mT} (hf : fX0_join_201 S = some (r, S')) (ok : Bool) : mW p l e (mR 1) s m args below meth c G 3 233 54500 (mQ below G args s b S' (some (.int r))) (ok, 201, [.retAddr 0, .retAddr 0, .retAddr 0], [], mk b S) := by
  unfold fX0_join_201 at hf
  refine msegT C kX0_join 57 1 (g := (true, 202, [.retAddr 0, .retAddr 0, .retAddr 0], [.int (0 : Int32)], mk b S)) rfl rfl ?_
  exact mfor (L' := [.retAddr 0, .retAddr 0, .retAddr 0]) ⟨Or.inl rfl, Or.inl rfl, Or.inl rfl, trivial⟩ (bX0_join_202 C hr hk hf true)
theorem bX0_join_216 (C : mCx p (mR 1) s m args meth c G cX0_join RX0 3 false 233 54500 233 54500) (hr : meth.sig.returnType = (some .int)) (hk : meth.locks = false) {b : Bool} {S' : mT} {r : Int32} {s0 : Int32} {S : mT} (hf : fX0_join_216 s0 S = some (r, S')) (ok : Bool) : mW p l e (mR 1) s m args below meth c G 3 233 54500 (mQ below G args s b S' (some (.int r))) (ok, 216, [.retAddr 0, .retAddr 0, .retAddr 0], [.int s0], mk b S) := by
  unfold fX0_join_216 at hf
  cases hf
  exact gret_i C hr hk (kX0_join _ (List.mem_of_getElem? (i := 66) rfl)).1
theorem bX0_join_211 (C : mCx p (mR 1) s m args meth c G cX0_join RX0 3 false 233 54500 233 54500) (hr : meth.sig.returnType = (some .int)) (hk : meth.locks = false) {b : Bool} {S' : mT} {r : Int32} {S : mT} (hf : fX0_join_211 S = some (r, S')) (ok : Bool) : mW p l e (mR 1) s m args below meth c G 3 233 54500 (mQ below G args s b S' (some (.int r))) (ok, 211, [.retAddr 0, .retAddr 0, .retAddr 0], [], mk b S) := by
  unfold fX0_join_211 at hf
  refine msegT C kX0_join 63 2 (g := (true, 216, [.retAddr 0, .retAddr 0, .retAddr 0], [.int (1 : Int32)], mk b S)) rfl rfl ?_
  exact mfor (L' := [.retAddr 0, .retAddr 0, .retAddr 0]) ⟨Or.inl rfl, Or.inl rfl, Or.inl rfl, trivial⟩ (bX0_join_216 C hr hk hf true)
theorem bX0_join_0 (C : mCx p (mR 1) s m args meth c G cX0_join RX0 3 false 233 54500 233 54500) (hr : meth.sig.returnType = (some .int)) (hk : meth.locks = false) {b : Bool} {S' : mT} {r : Int32} {v0 : Int32} {v1 : Int32} {v2 : Int32} {S : mT} (hf : fX0_join v0 v1 v2 S = some (r, S')) (ok : Bool) : mW p l e (mR 1) s m args below meth c G 3 233 54500 (mQ below G args s b S' (some (.int r))) (ok, 0, [.int v0, .int v1, .int v2], [], mk b S) := by
  unfold fX0_join at hf
  refine msegT C kX0_join 0 2 (g := (true, (if v0 = (37 : Int32) then 144 else (if v0 = (38 : Int32) then 189 else (if v0 = (39 : Int32) then 203 else (if v0 = (40 : Int32) then 203 else (if v0 = (41 : Int32) then 203 else (if v0 = (42 : Int32) then 128 else (if v0 = (43 : Int32) then 120 else (if v0 = (44 : Int32) then 203 else (if v0 = (45 : Int32) then 124 else (if v0 = (46 : Int32) then 203 else (if v0 = (47 : Int32) then 132 else (if v0 = (48 : Int32) then 203 else (if v0 = (49 : Int32) then 203 else (if v0 = (50 : Int32) then 203 else (if v0 = (51 : Int32) then 203 else (if v0 = (52 : Int32) then 203 else (if v0 = (53 : Int32) then 203 else (if v0 = (54 : Int32) then 203 else (if v0 = (55 : Int32) then 203 else (if v0 = (56 : Int32) then 203 else (if v0 = (57 : Int32) then 203 else (if v0 = (58 : Int32) then 203 else (if v0 = (59 : Int32) then 203 else (if v0 = (60 : Int32) then 156 else (if v0 = (61 : Int32) then 178 else (if v0 = (62 : Int32) then 167 else 203)))))))))))))))))))))))))), [.int v0, .int v1, .int v2], [], mk b S)) rfl rfl ?_
  by_cases hc : v0 = (37 : Int32)
  · rw [if_pos hc] at hf ⊢
    refine msegT C kX0_join 22 2 (g := (true, (if v2 = 0 then 148 else 152), [.int v0, .int v1, .int v2], [], mk b S)) rfl rfl ?_
    by_cases hc : v2 = 0
    · rw [if_pos hc] at hf ⊢
      refine msegT C kX0_join 24 2 (g := (true, 155, [.int v0, .int v1, .int v2], [.int (0 : Int32)], mk b S)) rfl rfl ?_
      exact mfor (L' := [.retAddr 0, .retAddr 0, .retAddr 0]) ⟨Or.inl rfl, Or.inl rfl, Or.inl rfl, trivial⟩ (bX0_join_155 C hr hk hf true)
    · rw [if_neg hc] at hf ⊢
      obtain ⟨hok, hf⟩ := grd_ex hf
      refine msegT C kX0_join 26 3 (g := ((decide (¬ v2 = 0) && true), 155, [.int v0, .int v1, .int v2], [.int (v1 - v1 / v2 * v2)], mk b S)) rfl hok ?_
      exact mfor (L' := [.retAddr 0, .retAddr 0, .retAddr 0]) ⟨Or.inl rfl, Or.inl rfl, Or.inl rfl, trivial⟩ (bX0_join_155 C hr hk hf true)
  · rw [if_neg hc] at hf ⊢
    by_cases hc : v0 = (38 : Int32)
    · rw [if_pos hc] at hf ⊢
      refine msegT C kX0_join 51 2 (g := (true, (if v1 = 0 then 201 else 193), [.int v0, .int v1, .int v2], [], mk b S)) rfl rfl ?_
      by_cases hc : v1 = 0
      · rw [if_pos hc] at hf ⊢
        exact mfor (L' := [.retAddr 0, .retAddr 0, .retAddr 0]) ⟨Or.inl rfl, Or.inl rfl, Or.inl rfl, trivial⟩ (bX0_join_201 C hr hk hf true)
      · rw [if_neg hc] at hf ⊢
        refine msegT C kX0_join 53 2 (g := (true, (if v2 = 0 then 201 else 197), [.int v0, .int v1, .int v2], [], mk b S)) rfl rfl ?_
        by_cases hc : v2 = 0
        · rw [if_pos hc] at hf ⊢
          exact mfor (L' := [.retAddr 0, .retAddr 0, .retAddr 0]) ⟨Or.inl rfl, Or.inl rfl, Or.inl rfl, trivial⟩ (bX0_join_201 C hr hk hf true)
        · rw [if_neg hc] at hf ⊢
          refine msegT C kX0_join 55 2 (g := (true, 202, [.int v0, .int v1, .int v2], [.int (1 : Int32)], mk b S)) rfl rfl ?_
          exact mfor (L' := [.retAddr 0, .retAddr 0, .retAddr 0]) ⟨Or.inl rfl, Or.inl rfl, Or.inl rfl, trivial⟩ (bX0_join_202 C hr hk hf true)
    · rw [if_neg hc] at hf ⊢
      by_cases hc : v0 = (39 : Int32)
      · rw [if_pos hc] at hf ⊢
        refine msegT C kX0_join 59 2 (g := (true, (if v1 = 0 then 207 else 211), [.int v0, .int v1, .int v2], [], mk b S)) rfl rfl ?_
        by_cases hc : v1 = 0
        · rw [if_pos hc] at hf ⊢
          refine msegT C kX0_join 61 2 (g := (true, (if v2 = 0 then 215 else 211), [.int v0, .int v1, .int v2], [], mk b S)) rfl rfl ?_
          by_cases hc : v2 = 0
          · rw [if_pos hc] at hf ⊢
            refine msegT C kX0_join 65 1 (g := (true, 216, [.int v0, .int v1, .int v2], [.int (0 : Int32)], mk b S)) rfl rfl ?_
            exact mfor (L' := [.retAddr 0, .retAddr 0, .retAddr 0]) ⟨Or.inl rfl, Or.inl rfl, Or.inl rfl, trivial⟩ (bX0_join_216 C hr hk hf true)
          · rw [if_neg hc] at hf ⊢
            exact mfor (L' := [.retAddr 0, .retAddr 0, .retAddr 0]) ⟨Or.inl rfl, Or.inl rfl, Or.inl rfl, trivial⟩ (bX0_join_211 C hr hk hf true)
        · rw [if_neg hc] at hf ⊢
          exact mfor (L' := [.retAddr 0, .retAddr 0, .retAddr 0]) ⟨Or.inl rfl, Or.inl rfl, Or.inl rfl, trivial⟩ (bX0_join_211 C hr hk hf true)
      · rw [if_neg hc] at hf ⊢
        by_cases hc : v0 = (40 : Int32)
        · rw [if_pos hc] at hf ⊢
          refine msegT C kX0_join 59 2 (g := (true, (if v1 = 0 then 207 else 211), [.int v0, .int v1, .int v2], [], mk b S)) rfl rfl ?_
          by_cases hc : v1 = 0
          · rw [if_pos hc] at hf ⊢
            refine msegT C kX0_join 61 2 (g := (true, (if v2 = 0 then 215 else 211), [.int v0, .int v1, .int v2], [], mk b S)) rfl rfl ?_
            by_cases hc : v2 = 0
            · rw [if_pos hc] at hf ⊢
              refine msegT C kX0_join 65 1 (g := (true, 216, [.int v0, .int v1, .int v2], [.int (0 : Int32)], mk b S)) rfl rfl ?_
              exact mfor (L' := [.retAddr 0, .retAddr 0, .retAddr 0]) ⟨Or.inl rfl, Or.inl rfl, Or.inl rfl, trivial⟩ (bX0_join_216 C hr hk hf true)
            · rw [if_neg hc] at hf ⊢
              exact mfor (L' := [.retAddr 0, .retAddr 0, .retAddr 0]) ⟨Or.inl rfl, Or.inl rfl, Or.inl rfl, trivial⟩ (bX0_join_211 C hr hk hf true)
          · rw [if_neg hc] at hf ⊢
            exact mfor (L' := [.retAddr 0, .retAddr 0, .retAddr 0]) ⟨Or.inl rfl, Or.inl rfl, Or.inl rfl, trivial⟩ (bX0_join_211 C hr hk hf true)
        · rw [if_neg hc] at hf ⊢
          by_cases hc : v0 = (41 : Int32)
          · rw [if_pos hc] at hf ⊢
            refine msegT C kX0_join 59 2 (g := (true, (if v1 = 0 then 207 else 211), [.int v0, .int v1, .int v2], [], mk b S)) rfl rfl ?_
            by_cases hc : v1 = 0
            · rw [if_pos hc] at hf ⊢
              refine msegT C kX0_join 61 2 (g := (true, (if v2 = 0 then 215 else 211), [.int v0, .int v1, .int v2], [], mk b S)) rfl rfl ?_
              by_cases hc : v2 = 0
              · rw [if_pos hc] at hf ⊢
                refine msegT C kX0_join 65 1 (g := (true, 216, [.int v0, .int v1, .int v2], [.int (0 : Int32)], mk b S)) rfl rfl ?_
                exact mfor (L' := [.retAddr 0, .retAddr 0, .retAddr 0]) ⟨Or.inl rfl, Or.inl rfl, Or.inl rfl, trivial⟩ (bX0_join_216 C hr hk hf true)
              · rw [if_neg hc] at hf ⊢
                exact mfor (L' := [.retAddr 0, .retAddr 0, .retAddr 0]) ⟨Or.inl rfl, Or.inl rfl, Or.inl rfl, trivial⟩ (bX0_join_211 C hr hk hf true)
            · rw [if_neg hc] at hf ⊢
              exact mfor (L' := [.retAddr 0, .retAddr 0, .retAddr 0]) ⟨Or.inl rfl, Or.inl rfl, Or.inl rfl, trivial⟩ (bX0_join_211 C hr hk hf true)
          · rw [if_neg hc] at hf ⊢
            by_cases hc : v0 = (42 : Int32)
            · rw [if_pos hc] at hf ⊢
              refine msegT C kX0_join 10 3 (g := (true, 131, [.int v0, .int v1, .int v2], [.int (v1 * v2)], mk b S)) rfl rfl ?_
              cases hf
              exact gret_i C hr hk (kX0_join _ (List.mem_of_getElem? (i := 13) rfl)).1
            · rw [if_neg hc] at hf ⊢
              by_cases hc : v0 = (43 : Int32)
              · rw [if_pos hc] at hf ⊢
                refine msegT C kX0_join 2 3 (g := (true, 123, [.int v0, .int v1, .int v2], [.int (v1 + v2)], mk b S)) rfl rfl ?_
                cases hf
                exact gret_i C hr hk (kX0_join _ (List.mem_of_getElem? (i := 5) rfl)).1
              · rw [if_neg hc] at hf ⊢
                by_cases hc : v0 = (44 : Int32)
                · rw [if_pos hc] at hf ⊢
                  refine msegT C kX0_join 59 2 (g := (true, (if v1 = 0 then 207 else 211), [.int v0, .int v1, .int v2], [], mk b S)) rfl rfl ?_
                  by_cases hc : v1 = 0
                  · rw [if_pos hc] at hf ⊢
                    refine msegT C kX0_join 61 2 (g := (true, (if v2 = 0 then 215 else 211), [.int v0, .int v1, .int v2], [], mk b S)) rfl rfl ?_
                    by_cases hc : v2 = 0
                    · rw [if_pos hc] at hf ⊢
                      refine msegT C kX0_join 65 1 (g := (true, 216, [.int v0, .int v1, .int v2], [.int (0 : Int32)], mk b S)) rfl rfl ?_
                      exact mfor (L' := [.retAddr 0, .retAddr 0, .retAddr 0]) ⟨Or.inl rfl, Or.inl rfl, Or.inl rfl, trivial⟩ (bX0_join_216 C hr hk hf true)
                    · rw [if_neg hc] at hf ⊢
                      exact mfor (L' := [.retAddr 0, .retAddr 0, .retAddr 0]) ⟨Or.inl rfl, Or.inl rfl, Or.inl rfl, trivial⟩ (bX0_join_211 C hr hk hf true)
                  · rw [if_neg hc] at hf ⊢
                    exact mfor (L' := [.retAddr 0, .retAddr 0, .retAddr 0]) ⟨Or.inl rfl, Or.inl rfl, Or.inl rfl, trivial⟩ (bX0_join_211 C hr hk hf true)
                · rw [if_neg hc] at hf ⊢
                  by_cases hc : v0 = (45 : Int32)
                  · rw [if_pos hc] at hf ⊢
                    refine msegT C kX0_join 6 3 (g := (true, 127, [.int v0, .int v1, .int v2], [.int (v1 - v2)], mk b S)) rfl rfl ?_
                    cases hf
                    exact gret_i C hr hk (kX0_join _ (List.mem_of_getElem? (i := 9) rfl)).1
                  · rw [if_neg hc] at hf ⊢
                    by_cases hc : v0 = (46 : Int32)
                    · rw [if_pos hc] at hf ⊢
                      refine msegT C kX0_join 59 2 (g := (true, (if v1 = 0 then 207 else 211), [.int v0, .int v1, .int v2], [], mk b S)) rfl rfl ?_
                      by_cases hc : v1 = 0
                      · rw [if_pos hc] at hf ⊢
                        refine msegT C kX0_join 61 2 (g := (true, (if v2 = 0 then 215 else 211), [.int v0, .int v1, .int v2], [], mk b S)) rfl rfl ?_
                        by_cases hc : v2 = 0
                        · rw [if_pos hc] at hf ⊢
                          refine msegT C kX0_join 65 1 (g := (true, 216, [.int v0, .int v1, .int v2], [.int (0 : Int32)], mk b S)) rfl rfl ?_
                          exact mfor (L' := [.retAddr 0, .retAddr 0, .retAddr 0]) ⟨Or.inl rfl, Or.inl rfl, Or.inl rfl, trivial⟩ (bX0_join_216 C hr hk hf true)
                        · rw [if_neg hc] at hf ⊢
                          exact mfor (L' := [.retAddr 0, .retAddr 0, .retAddr 0]) ⟨Or.inl rfl, Or.inl rfl, Or.inl rfl, trivial⟩ (bX0_join_211 C hr hk hf true)
                      · rw [if_neg hc] at hf ⊢
                        exact mfor (L' := [.retAddr 0, .retAddr 0, .retAddr 0]) ⟨Or.inl rfl, Or.inl rfl, Or.inl rfl, trivial⟩ (bX0_join_211 C hr hk hf true)
                    · rw [if_neg hc] at hf ⊢
                      by_cases hc : v0 = (47 : Int32)
                      · rw [if_pos hc] at hf ⊢
                        refine msegT C kX0_join 14 2 (g := (true, (if v2 = 0 then 136 else 140), [.int v0, .int v1, .int v2], [], mk b S)) rfl rfl ?_
                        by_cases hc : v2 = 0
                        · rw [if_pos hc] at hf ⊢
                          refine msegT C kX0_join 16 2 (g := (true, 143, [.int v0, .int v1, .int v2], [.int (0 : Int32)], mk b S)) rfl rfl ?_
                          exact mfor (L' := [.retAddr 0, .retAddr 0, .retAddr 0]) ⟨Or.inl rfl, Or.inl rfl, Or.inl rfl, trivial⟩ (bX0_join_143 C hr hk hf true)
                        · rw [if_neg hc] at hf ⊢
                          obtain ⟨hok, hf⟩ := grd_ex hf
                          refine msegT C kX0_join 18 3 (g := ((decide (¬ v2 = 0) && true), 143, [.int v0, .int v1, .int v2], [.int (v1 / v2)], mk b S)) rfl hok ?_
                          exact mfor (L' := [.retAddr 0, .retAddr 0, .retAddr 0]) ⟨Or.inl rfl, Or.inl rfl, Or.inl rfl, trivial⟩ (bX0_join_143 C hr hk hf true)
                      · rw [if_neg hc] at hf ⊢
                        by_cases hc : v0 = (48 : Int32)
                        · rw [if_pos hc] at hf ⊢
                          refine msegT C kX0_join 59 2 (g := (true, (if v1 = 0 then 207 else 211), [.int v0, .int v1, .int v2], [], mk b S)) rfl rfl ?_
                          by_cases hc : v1 = 0
                          · rw [if_pos hc] at hf ⊢
                            refine msegT C kX0_join 61 2 (g := (true, (if v2 = 0 then 215 else 211), [.int v0, .int v1, .int v2], [], mk b S)) rfl rfl ?_
                            by_cases hc : v2 = 0
                            · rw [if_pos hc] at hf ⊢
                              refine msegT C kX0_join 65 1 (g := (true, 216, [.int v0, .int v1, .int v2], [.int (0 : Int32)], mk b S)) rfl rfl ?_
                              exact mfor (L' := [.retAddr 0, .retAddr 0, .retAddr 0]) ⟨Or.inl rfl, Or.inl rfl, Or.inl rfl, trivial⟩ (bX0_join_216 C hr hk hf true)
                            · rw [if_neg hc] at hf ⊢
                              exact mfor (L' := [.retAddr 0, .retAddr 0, .retAddr 0]) ⟨Or.inl rfl, Or.inl rfl, Or.inl rfl, trivial⟩ (bX0_join_211 C hr hk hf true)
                          · rw [if_neg hc] at hf ⊢
                            exact mfor (L' := [.retAddr 0, .retAddr 0, .retAddr 0]) ⟨Or.inl rfl, Or.inl rfl, Or.inl rfl, trivial⟩ (bX0_join_211 C hr hk hf true)
                        · rw [if_neg hc] at hf ⊢
                          by_cases hc : v0 = (49 : Int32)
                          · rw [if_pos hc] at hf ⊢
                            refine msegT C kX0_join 59 2 (g := (true, (if v1 = 0 then 207 else 211), [.int v0, .int v1, .int v2], [], mk b S)) rfl rfl ?_
                            by_cases hc : v1 = 0
                            · rw [if_pos hc] at hf ⊢
                              refine msegT C kX0_join 61 2 (g := (true, (if v2 = 0 then 215 else 211), [.int v0, .int v1, .int v2], [], mk b S)) rfl rfl ?_
                              by_cases hc : v2 = 0
                              · rw [if_pos hc] at hf ⊢
                                refine msegT C kX0_join 65 1 (g := (true, 216, [.int v0, .int v1, .int v2], [.int (0 : Int32)], mk b S)) rfl rfl ?_
                                exact mfor (L' := [.retAddr 0, .retAddr 0, .retAddr 0]) ⟨Or.inl rfl, Or.inl rfl, Or.inl rfl, trivial⟩ (bX0_join_216 C hr hk hf true)
                              · rw [if_neg hc] at hf ⊢
                                exact mfor (L' := [.retAddr 0, .retAddr 0, .retAddr 0]) ⟨Or.inl rfl, Or.inl rfl, Or.inl rfl, trivial⟩ (bX0_join_211 C hr hk hf true)
                            · rw [if_neg hc] at hf ⊢
                              exact mfor (L' := [.retAddr 0, .retAddr 0, .retAddr 0]) ⟨Or.inl rfl, Or.inl rfl, Or.inl rfl, trivial⟩ (bX0_join_211 C hr hk hf true)
                          · rw [if_neg hc] at hf ⊢
                            by_cases hc : v0 = (50 : Int32)
                            · rw [if_pos hc] at hf ⊢
                              refine msegT C kX0_join 59 2 (g := (true, (if v1 = 0 then 207 else 211), [.int v0, .int v1, .int v2], [], mk b S)) rfl rfl ?_
                              by_cases hc : v1 = 0
                              · rw [if_pos hc] at hf ⊢
                                refine msegT C kX0_join 61 2 (g := (true, (if v2 = 0 then 215 else 211), [.int v0, .int v1, .int v2], [], mk b S)) rfl rfl ?_
                                by_cases hc : v2 = 0
                                · rw [if_pos hc] at hf ⊢
                                  refine msegT C kX0_join 65 1 (g := (true, 216, [.int v0, .int v1, .int v2], [.int (0 : Int32)], mk b S)) rfl rfl ?_
                                  exact mfor (L' := [.retAddr 0, .retAddr 0, .retAddr 0]) ⟨Or.inl rfl, Or.inl rfl, Or.inl rfl, trivial⟩ (bX0_join_216 C hr hk hf true)
                                · rw [if_neg hc] at hf ⊢
                                  exact mfor (L' := [.retAddr 0, .retAddr 0, .retAddr 0]) ⟨Or.inl rfl, Or.inl rfl, Or.inl rfl, trivial⟩ (bX0_join_211 C hr hk hf true)
                              · rw [if_neg hc] at hf ⊢
                                exact mfor (L' := [.retAddr 0, .retAddr 0, .retAddr 0]) ⟨Or.inl rfl, Or.inl rfl, Or.inl rfl, trivial⟩ (bX0_join_211 C hr hk hf true)
                            · rw [if_neg hc] at hf ⊢
                              by_cases hc : v0 = (51 : Int32)
                              · rw [if_pos hc] at hf ⊢
                                refine msegT C kX0_join 59 2 (g := (true, (if v1 = 0 then 207 else 211), [.int v0, .int v1, .int v2], [], mk b S)) rfl rfl ?_
                                by_cases hc : v1 = 0
                                · rw [if_pos hc] at hf ⊢
                                  refine msegT C kX0_join 61 2 (g := (true, (if v2 = 0 then 215 else 211), [.int v0, .int v1, .int v2], [], mk b S)) rfl rfl ?_
                                  by_cases hc : v2 = 0
                                  · rw [if_pos hc] at hf ⊢
                                    refine msegT C kX0_join 65 1 (g := (true, 216, [.int v0, .int v1, .int v2], [.int (0 : Int32)], mk b S)) rfl rfl ?_
                                    exact mfor (L' := [.retAddr 0, .retAddr 0, .retAddr 0]) ⟨Or.inl rfl, Or.inl rfl, Or.inl rfl, trivial⟩ (bX0_join_216 C hr hk hf true)
                                  · rw [if_neg hc] at hf ⊢
                                    exact mfor (L' := [.retAddr 0, .retAddr 0, .retAddr 0]) ⟨Or.inl rfl, Or.inl rfl, Or.inl rfl, trivial⟩ (bX0_join_211 C hr hk hf true)
                                · rw [if_neg hc] at hf ⊢
                                  exact mfor (L' := [.retAddr 0, .retAddr 0, .retAddr 0]) ⟨Or.inl rfl, Or.inl rfl, Or.inl rfl, trivial⟩ (bX0_join_211 C hr hk hf true)
                              · rw [if_neg hc] at hf ⊢
                                by_cases hc : v0 = (52 : Int32)
                                · rw [if_pos hc] at hf ⊢
                                  refine msegT C kX0_join 59 2 (g := (true, (if v1 = 0 then 207 else 211), [.int v0, .int v1, .int v2], [], mk b S)) rfl rfl ?_
                                  by_cases hc : v1 = 0
                                  · rw [if_pos hc] at hf ⊢
                                    refine msegT C kX0_join 61 2 (g := (true, (if v2 = 0 then 215 else 211), [.int v0, .int v1, .int v2], [], mk b S)) rfl rfl ?_
                                    by_cases hc : v2 = 0
                                    · rw [if_pos hc] at hf ⊢
                                      refine msegT C kX0_join 65 1 (g := (true, 216, [.int v0, .int v1, .int v2], [.int (0 : Int32)], mk b S)) rfl rfl ?_
                                      exact mfor (L' := [.retAddr 0, .retAddr 0, .retAddr 0]) ⟨Or.inl rfl, Or.inl rfl, Or.inl rfl, trivial⟩ (bX0_join_216 C hr hk hf true)
                                    · rw [if_neg hc] at hf ⊢
                                      exact mfor (L' := [.retAddr 0, .retAddr 0, .retAddr 0]) ⟨Or.inl rfl, Or.inl rfl, Or.inl rfl, trivial⟩ (bX0_join_211 C hr hk hf true)
                                  · rw [if_neg hc] at hf ⊢
                                    exact mfor (L' := [.retAddr 0, .retAddr 0, .retAddr 0]) ⟨Or.inl rfl, Or.inl rfl, Or.inl rfl, trivial⟩ (bX0_join_211 C hr hk hf true)
                                · rw [if_neg hc] at hf ⊢
                                  by_cases hc : v0 = (53 : Int32)
                                  · rw [if_pos hc] at hf ⊢
                                    refine msegT C kX0_join 59 2 (g := (true, (if v1 = 0 then 207 else 211), [.int v0, .int v1, .int v2], [], mk b S)) rfl rfl ?_
                                    by_cases hc : v1 = 0
                                    · rw [if_pos hc] at hf ⊢
                                      refine msegT C kX0_join 61 2 (g := (true, (if v2 = 0 then 215 else 211), [.int v0, .int v1, .int v2], [], mk b S)) rfl rfl ?_
                                      by_cases hc : v2 = 0
                                      · rw [if_pos hc] at hf ⊢
                                        refine msegT C kX0_join 65 1 (g := (true, 216, [.int v0, .int v1, .int v2], [.int (0 : Int32)], mk b S)) rfl rfl ?_
                                        exact mfor (L' := [.retAddr 0, .retAddr 0, .retAddr 0]) ⟨Or.inl rfl, Or.inl rfl, Or.inl rfl, trivial⟩ (bX0_join_216 C hr hk hf true)
                                      · rw [if_neg hc] at hf ⊢
                                        exact mfor (L' := [.retAddr 0, .retAddr 0, .retAddr 0]) ⟨Or.inl rfl, Or.inl rfl, Or.inl rfl, trivial⟩ (bX0_join_211 C hr hk hf true)
                                    · rw [if_neg hc] at hf ⊢
                                      exact mfor (L' := [.retAddr 0, .retAddr 0, .retAddr 0]) ⟨Or.inl rfl, Or.inl rfl, Or.inl rfl, trivial⟩ (bX0_join_211 C hr hk hf true)
                                  · rw [if_neg hc] at hf ⊢
                                    by_cases hc : v0 = (54 : Int32)
                                    · rw [if_pos hc] at hf ⊢
                                      refine msegT C kX0_join 59 2 (g := (true, (if v1 = 0 then 207 else 211), [.int v0, .int v1, .int v2], [], mk b S)) rfl rfl ?_
                                      by_cases hc : v1 = 0
                                      · rw [if_pos hc] at hf ⊢
                                        refine msegT C kX0_join 61 2 (g := (true, (if v2 = 0 then 215 else 211), [.int v0, .int v1, .int v2], [], mk b S)) rfl rfl ?_
                                        by_cases hc : v2 = 0
                                        · rw [if_pos hc] at hf ⊢
                                          refine msegT C kX0_join 65 1 (g := (true, 216, [.int v0, .int v1, .int v2], [.int (0 : Int32)], mk b S)) rfl rfl ?_
                                          exact mfor (L' := [.retAddr 0, .retAddr 0, .retAddr 0]) ⟨Or.inl rfl, Or.inl rfl, Or.inl rfl, trivial⟩ (bX0_join_216 C hr hk hf true)
                                        · rw [if_neg hc] at hf ⊢
                                          exact mfor (L' := [.retAddr 0, .retAddr 0, .retAddr 0]) ⟨Or.inl rfl, Or.inl rfl, Or.inl rfl, trivial⟩ (bX0_join_211 C hr hk hf true)
                                      · rw [if_neg hc] at hf ⊢
                                        exact mfor (L' := [.retAddr 0, .retAddr 0, .retAddr 0]) ⟨Or.inl rfl, Or.inl rfl, Or.inl rfl, trivial⟩ (bX0_join_211 C hr hk hf true)
                                    · rw [if_neg hc] at hf ⊢
                                      by_cases hc : v0 = (55 : Int32)
                                      · rw [if_pos hc] at hf ⊢
                                        refine msegT C kX0_join 59 2 (g := (true, (if v1 = 0 then 207 else 211), [.int v0, .int v1, .int v2], [], mk b S)) rfl rfl ?_
                                        by_cases hc : v1 = 0
                                        · rw [if_pos hc] at hf ⊢
                                          refine msegT C kX0_join 61 2 (g := (true, (if v2 = 0 then 215 else 211), [.int v0, .int v1, .int v2], [], mk b S)) rfl rfl ?_
                                          by_cases hc : v2 = 0
                                          · rw [if_pos hc] at hf ⊢
                                            refine msegT C kX0_join 65 1 (g := (true, 216, [.int v0, .int v1, .int v2], [.int (0 : Int32)], mk b S)) rfl rfl ?_
                                            exact mfor (L' := [.retAddr 0, .retAddr 0, .retAddr 0]) ⟨Or.inl rfl, Or.inl rfl, Or.inl rfl, trivial⟩ (bX0_join_216 C hr hk hf true)
                                          · rw [if_neg hc] at hf ⊢
                                            exact mfor (L' := [.retAddr 0, .retAddr 0, .retAddr 0]) ⟨Or.inl rfl, Or.inl rfl, Or.inl rfl, trivial⟩ (bX0_join_211 C hr hk hf true)
                                        · rw [if_neg hc] at hf ⊢
                                          exact mfor (L' := [.retAddr 0, .retAddr 0, .retAddr 0]) ⟨Or.inl rfl, Or.inl rfl, Or.inl rfl, trivial⟩ (bX0_join_211 C hr hk hf true)
                                      · rw [if_neg hc] at hf ⊢
                                        by_cases hc : v0 = (56 : Int32)
                                        · rw [if_pos hc] at hf ⊢
                                          refine msegT C kX0_join 59 2 (g := (true, (if v1 = 0 then 207 else 211), [.int v0, .int v1, .int v2], [], mk b S)) rfl rfl ?_
                                          by_cases hc : v1 = 0
                                          · rw [if_pos hc] at hf ⊢
                                            refine msegT C kX0_join 61 2 (g := (true, (if v2 = 0 then 215 else 211), [.int v0, .int v1, .int v2], [], mk b S)) rfl rfl ?_
                                            by_cases hc : v2 = 0
                                            · rw [if_pos hc] at hf ⊢
                                              refine msegT C kX0_join 65 1 (g := (true, 216, [.int v0, .int v1, .int v2], [.int (0 : Int32)], mk b S)) rfl rfl ?_
                                              exact mfor (L' := [.retAddr 0, .retAddr 0, .retAddr 0]) ⟨Or.inl rfl, Or.inl rfl, Or.inl rfl, trivial⟩ (bX0_join_216 C hr hk hf true)
                                            · rw [if_neg hc] at hf ⊢
                                              exact mfor (L' := [.retAddr 0, .retAddr 0, .retAddr 0]) ⟨Or.inl rfl, Or.inl rfl, Or.inl rfl, trivial⟩ (bX0_join_211 C hr hk hf true)
                                          · rw [if_neg hc] at hf ⊢
                                            exact mfor (L' := [.retAddr 0, .retAddr 0, .retAddr 0]) ⟨Or.inl rfl, Or.inl rfl, Or.inl rfl, trivial⟩ (bX0_join_211 C hr hk hf true)
                                        · rw [if_neg hc] at hf ⊢
                                          by_cases hc : v0 = (57 : Int32)
                                          · rw [if_pos hc] at hf ⊢
                                            refine msegT C kX0_join 59 2 (g := (true, (if v1 = 0 then 207 else 211), [.int v0, .int v1, .int v2], [], mk b S)) rfl rfl ?_
                                            by_cases hc : v1 = 0
                                            · rw [if_pos hc] at hf ⊢
                                              refine msegT C kX0_join 61 2 (g := (true, (if v2 = 0 then 215 else 211), [.int v0, .int v1, .int v2], [], mk b S)) rfl rfl ?_
                                              by_cases hc : v2 = 0
                                              · rw [if_pos hc] at hf ⊢
                                                refine msegT C kX0_join 65 1 (g := (true, 216, [.int v0, .int v1, .int v2], [.int (0 : Int32)], mk b S)) rfl rfl ?_
                                                exact mfor (L' := [.retAddr 0, .retAddr 0, .retAddr 0]) ⟨Or.inl rfl, Or.inl rfl, Or.inl rfl, trivial⟩ (bX0_join_216 C hr hk hf true)
                                              · rw [if_neg hc] at hf ⊢
                                                exact mfor (L' := [.retAddr 0, .retAddr 0, .retAddr 0]) ⟨Or.inl rfl, Or.inl rfl, Or.inl rfl, trivial⟩ (bX0_join_211 C hr hk hf true)
                                            · rw [if_neg hc] at hf ⊢
                                              exact mfor (L' := [.retAddr 0, .retAddr 0, .retAddr 0]) ⟨Or.inl rfl, Or.inl rfl, Or.inl rfl, trivial⟩ (bX0_join_211 C hr hk hf true)
                                          · rw [if_neg hc] at hf ⊢
                                            by_cases hc : v0 = (58 : Int32)
                                            · rw [if_pos hc] at hf ⊢
                                              refine msegT C kX0_join 59 2 (g := (true, (if v1 = 0 then 207 else 211), [.int v0, .int v1, .int v2], [], mk b S)) rfl rfl ?_
                                              by_cases hc : v1 = 0
                                              · rw [if_pos hc] at hf ⊢
                                                refine msegT C kX0_join 61 2 (g := (true, (if v2 = 0 then 215 else 211), [.int v0, .int v1, .int v2], [], mk b S)) rfl rfl ?_
                                                by_cases hc : v2 = 0
                                                · rw [if_pos hc] at hf ⊢
                                                  refine msegT C kX0_join 65 1 (g := (true, 216, [.int v0, .int v1, .int v2], [.int (0 : Int32)], mk b S)) rfl rfl ?_
                                                  exact mfor (L' := [.retAddr 0, .retAddr 0, .retAddr 0]) ⟨Or.inl rfl, Or.inl rfl, Or.inl rfl, trivial⟩ (bX0_join_216 C hr hk hf true)
                                                · rw [if_neg hc] at hf ⊢
                                                  exact mfor (L' := [.retAddr 0, .retAddr 0, .retAddr 0]) ⟨Or.inl rfl, Or.inl rfl, Or.inl rfl, trivial⟩ (bX0_join_211 C hr hk hf true)
                                              · rw [if_neg hc] at hf ⊢
                                                exact mfor (L' := [.retAddr 0, .retAddr 0, .retAddr 0]) ⟨Or.inl rfl, Or.inl rfl, Or.inl rfl, trivial⟩ (bX0_join_211 C hr hk hf true)
                                            · rw [if_neg hc] at hf ⊢
                                              by_cases hc : v0 = (59 : Int32)
                                              · rw [if_pos hc] at hf ⊢
                                                refine msegT C kX0_join 59 2 (g := (true, (if v1 = 0 then 207 else 211), [.int v0, .int v1, .int v2], [], mk b S)) rfl rfl ?_
                                                by_cases hc : v1 = 0
                                                · rw [if_pos hc] at hf ⊢
                                                  refine msegT C kX0_join 61 2 (g := (true, (if v2 = 0 then 215 else 211), [.int v0, .int v1, .int v2], [], mk b S)) rfl rfl ?_
                                                  by_cases hc : v2 = 0
                                                  · rw [if_pos hc] at hf ⊢
                                                    refine msegT C kX0_join 65 1 (g := (true, 216, [.int v0, .int v1, .int v2], [.int (0 : Int32)], mk b S)) rfl rfl ?_
                                                    exact mfor (L' := [.retAddr 0, .retAddr 0, .retAddr 0]) ⟨Or.inl rfl, Or.inl rfl, Or.inl rfl, trivial⟩ (bX0_join_216 C hr hk hf true)
                                                  · rw [if_neg hc] at hf ⊢
                                                    exact mfor (L' := [.retAddr 0, .retAddr 0, .retAddr 0]) ⟨Or.inl rfl, Or.inl rfl, Or.inl rfl, trivial⟩ (bX0_join_211 C hr hk hf true)
                                                · rw [if_neg hc] at hf ⊢
                                                  exact mfor (L' := [.retAddr 0, .retAddr 0, .retAddr 0]) ⟨Or.inl rfl, Or.inl rfl, Or.inl rfl, trivial⟩ (bX0_join_211 C hr hk hf true)
                                              · rw [if_neg hc] at hf ⊢
                                                by_cases hc : v0 = (60 : Int32)
                                                · rw [if_pos hc] at hf ⊢
                                                  refine msegT C kX0_join 30 3 (g := (true, (if v2 ≤ v1 then 165 else 161), [.int v0, .int v1, .int v2], [], mk b S)) rfl rfl ?_
                                                  by_cases hc : v2 ≤ v1
                                                  · rw [if_pos hc] at hf ⊢
                                                    refine msegT C kX0_join 35 1 (g := (true, 166, [.int v0, .int v1, .int v2], [.int (0 : Int32)], mk b S)) rfl rfl ?_
                                                    exact mfor (L' := [.retAddr 0, .retAddr 0, .retAddr 0]) ⟨Or.inl rfl, Or.inl rfl, Or.inl rfl, trivial⟩ (bX0_join_166 C hr hk hf true)
                                                  · rw [if_neg hc] at hf ⊢
                                                    refine msegT C kX0_join 33 2 (g := (true, 166, [.int v0, .int v1, .int v2], [.int (1 : Int32)], mk b S)) rfl rfl ?_
                                                    exact mfor (L' := [.retAddr 0, .retAddr 0, .retAddr 0]) ⟨Or.inl rfl, Or.inl rfl, Or.inl rfl, trivial⟩ (bX0_join_166 C hr hk hf true)
                                                · rw [if_neg hc] at hf ⊢
                                                  by_cases hc : v0 = (61 : Int32)
                                                  · rw [if_pos hc] at hf ⊢
                                                    refine msegT C kX0_join 44 3 (g := (true, (if v1 = v2 then 183 else 187), [.int v0, .int v1, .int v2], [], mk b S)) rfl rfl ?_
                                                    by_cases hc : v1 = v2
                                                    · rw [if_pos hc] at hf ⊢
                                                      refine msegT C kX0_join 47 2 (g := (true, 188, [.int v0, .int v1, .int v2], [.int (1 : Int32)], mk b S)) rfl rfl ?_
                                                      exact mfor (L' := [.retAddr 0, .retAddr 0, .retAddr 0]) ⟨Or.inl rfl, Or.inl rfl, Or.inl rfl, trivial⟩ (bX0_join_188 C hr hk hf true)
                                                    · rw [if_neg hc] at hf ⊢
                                                      refine msegT C kX0_join 49 1 (g := (true, 188, [.int v0, .int v1, .int v2], [.int (0 : Int32)], mk b S)) rfl rfl ?_
                                                      exact mfor (L' := [.retAddr 0, .retAddr 0, .retAddr 0]) ⟨Or.inl rfl, Or.inl rfl, Or.inl rfl, trivial⟩ (bX0_join_188 C hr hk hf true)
                                                  · rw [if_neg hc] at hf ⊢
                                                    by_cases hc : v0 = (62 : Int32)
                                                    · rw [if_pos hc] at hf ⊢
                                                      refine msegT C kX0_join 37 3 (g := (true, (if v1 ≤ v2 then 176 else 172), [.int v0, .int v1, .int v2], [], mk b S)) rfl rfl ?_
                                                      by_cases hc : v1 ≤ v2
                                                      · rw [if_pos hc] at hf ⊢
                                                        refine msegT C kX0_join 42 1 (g := (true, 177, [.int v0, .int v1, .int v2], [.int (0 : Int32)], mk b S)) rfl rfl ?_
                                                        exact mfor (L' := [.retAddr 0, .retAddr 0, .retAddr 0]) ⟨Or.inl rfl, Or.inl rfl, Or.inl rfl, trivial⟩ (bX0_join_177 C hr hk hf true)
                                                      · rw [if_neg hc] at hf ⊢
                                                        refine msegT C kX0_join 40 2 (g := (true, 177, [.int v0, .int v1, .int v2], [.int (1 : Int32)], mk b S)) rfl rfl ?_
                                                        exact mfor (L' := [.retAddr 0, .retAddr 0, .retAddr 0]) ⟨Or.inl rfl, Or.inl rfl, Or.inl rfl, trivial⟩ (bX0_join_177 C hr hk hf true)
                                                    · rw [if_neg hc] at hf ⊢
                                                      refine msegT C kX0_join 59 2 (g := (true, (if v1 = 0 then 207 else 211), [.int v0, .int v1, .int v2], [], mk b S)) rfl rfl ?_
                                                      by_cases hc : v1 = 0
                                                      · rw [if_pos hc] at hf ⊢
                                                        refine msegT C kX0_join 61 2 (g := (true, (if v2 = 0 then 215 else 211), [.int v0, .int v1, .int v2], [], mk b S)) rfl rfl ?_
                                                        by_cases hc : v2 = 0
                                                        · rw [if_pos hc] at hf ⊢
                                                          refine msegT C kX0_join 65 1 (g := (true, 216, [.int v0, .int v1, .int v2], [.int (0 : Int32)], mk b S)) rfl rfl ?_
                                                          exact mfor (L' := [.retAddr 0, .retAddr 0, .retAddr 0]) ⟨Or.inl rfl, Or.inl rfl, Or.inl rfl, trivial⟩ (bX0_join_216 C hr hk hf true)
                                                        · rw [if_neg hc] at hf ⊢
                                                          exact mfor (L' := [.retAddr 0, .retAddr 0, .retAddr 0]) ⟨Or.inl rfl, Or.inl rfl, Or.inl rfl, trivial⟩ (bX0_join_211 C hr hk hf true)
                                                      · rw [if_neg hc] at hf ⊢
                                                        exact mfor (L' := [.retAddr 0, .retAddr 0, .retAddr 0]) ⟨Or.inl rfl, Or.inl rfl, Or.inl rfl, trivial⟩ (bX0_join_211 C hr hk hf true)
theorem qX0_join {b : Bool} {v0 : Int32} {v1 : Int32} {v2 : Int32} {S S' : mT} {r : Int32} (hf : fX0_join v0 v1 v2 S = some (r, S')) : mOk l mX0_join 1 [.int v0, .int v1, .int v2] b S (some (.int r)) S' :=
  gMet (by decide) (Nat.le_of_ble_eq_true rfl) rfl (Nat.le_of_ble_eq_true rfl) (fun p e s m args below meth c G C hr hk => bX0_join_0 C hr hk hf true)
theorem bX0_leaf_25 (C : mCx p (mR 1) s m args meth c G cX0_leaf RX0 3 false 233 54500 233 54500) (hr : meth.sig.returnType = (some .int)) (hk : meth.locks = false) {b : Bool} {a1 : Nat} {S' : mT} {r : Int32} {s0 : Int32} {S : mT} (hf : fX0_leaf_25 a1 s0 S = some (r, S')) (ok : Bool) : mW p l e (mR 1) s m args below meth c G 3 233 54500 (mQ below G args s b S' (some (.int r))) (ok, 25, [.retAddr 0, .retAddr 0, .retAddr 0], [.int s0], mk b S) := by
  unfold fX0_leaf_25 at hf
  cases hf
  exact gret_i C hr hk (kX0_leaf _ (List.mem_of_getElem? (i := 17) rfl)).1
theorem bX0_leaf_0 (C : mCx p (mR 1) s m args meth c G cX0_leaf RX0 3 false 233 54500 233 54500) (hr : meth.sig.returnType = (some .int)) (hk : meth.locks = false) {b : Bool} {a1 : Nat} {S' : mT} {r : Int32} {v0 : Int32} {S : mT} (hf : fX0_leaf a1 v0 S = some (r, S')) (ok : Bool) : mW p l e (mR 1) s m args below meth c G 3 233 54500 (mQ below G args s b S' (some (.int r))) (ok, 0, [.int v0, .ref a1, .retAddr 0], [], mk b S) := by
  unfold fX0_leaf at hf
  refine msegT C kX0_leaf 0 4 (g := (true, 6, [.int v0, .ref a1, .int (v0 - (10000 : Int32))], [], mk b S)) rfl rfl ?_
  obtain ⟨x1, ex1, hf⟩ := bnd_ex hf
  rw [← ex1]
  refine msegT C kX0_leaf 4 2 (g := (true, (if 0 ≤ x1 then 12 else 10), [.int v0, .ref a1, .int x1], [], mk b S)) rfl rfl ?_
  by_cases hc : 0 ≤ x1
  · rw [if_pos hc] at hf ⊢
    obtain ⟨hok, hf⟩ := grd_ex hf
    refine msegT C kX0_leaf 8 4 (g := ((kAL 233 (sT a1) a1 && true), (if (Int32.ofNat (kLen (sT a1))) ≤ x1 then 24 else 18), [.int v0, .ref a1, .int x1], [], mk b S)) rfl hok ?_
    by_cases hc : (Int32.ofNat (kLen (sT a1))) ≤ x1
    · rw [if_pos hc] at hf ⊢
      refine msegT C kX0_leaf 16 1 (g := (true, 25, [.int v0, .ref a1, .int x1], [.int (0 : Int32)], mk b S)) rfl rfl ?_
      exact mfor (L' := [.retAddr 0, .retAddr 0, .retAddr 0]) ⟨Or.inl rfl, Or.inl rfl, Or.inl rfl, trivial⟩ (bX0_leaf_25 C hr hk hf true)
    · rw [if_neg hc] at hf ⊢
      obtain ⟨hok, hf⟩ := grd_ex hf
      refine msegT C kX0_leaf 12 4 (g := ((kI a1 x1 && true), 25, [.int v0, .ref a1, .int x1], [.int (S.1 a1 (mIx x1))], mk b S)) rfl hok ?_
      exact mfor (L' := [.retAddr 0, .retAddr 0, .retAddr 0]) ⟨Or.inl rfl, Or.inl rfl, Or.inl rfl, trivial⟩ (bX0_leaf_25 C hr hk hf true)
  · rw [if_neg hc] at hf ⊢
    refine msegT C kX0_leaf 6 1 (g := (true, 11, [.int v0, .ref a1, .int x1], [.int v0], mk b S)) rfl rfl ?_
    cases hf
    exact gret_i C hr hk (kX0_leaf _ (List.mem_of_getElem? (i := 7) rfl)).1
theorem qX0_leaf {b : Bool} {a1 : Nat} {v0 : Int32} {S S' : mT} {r : Int32} (hf : fX0_leaf a1 v0 S = some (r, S')) : mOk l mX0_leaf 1 [.int v0, .ref a1] b S (some (.int r)) S' :=
  gMet (by decide) (Nat.le_of_ble_eq_true rfl) rfl (Nat.le_of_ble_eq_true rfl) (fun p e s m args below meth c G C hr hk => bX0_leaf_0 C hr hk hf true)
theorem bX0_work_130_12 (C : mCx p (mR 2) s m args meth c G cX0_work RX0 5 false 233 54500 233 54500) (hr : meth.sig.returnType = (some .int)) (hk : meth.locks = false) {b : Bool} {a1 : Nat} {S' : mT} {r : Int32} {rc4 : Int32 → Int32 → mT → Option (Int32 × mT)} (Hrc4 : ∀ (v2 : Int32) (v3 : Int32) (S : mT), rc4 v2 v3 S = some (r, S') → ∀ ok : Bool, mW p l e (mR 2) s m args below meth c G 5 233 54500 (mQ below G args s b S' (some (.int r))) (ok, 4, [.ref (12), .ref a1, .int v2, .int v3, .retAddr 0], [], mk b S)) {v2 : Int32} {v3 : Int32} {S : mT} (hf : fX0_work_130 12 a1 rc4 v2 v3 S = some (r, S')) (ok : Bool) : mW p l e (mR 2) s m args below meth c G 5 233 54500 (mQ below G args s b S' (some (.int r))) (ok, 130, [.ref (12), .ref a1, .int v2, .int v3, .retAddr 0], [], mk b S) := by
  unfold fX0_work_130 at hf
  refine msegT C kX0_work 74 1 (g := (true, 133, [.ref (12), .ref a1, .int v2, .int (v3 + (1 : Int32)), .retAddr 0], [], mk b S)) rfl rfl ?_
  obtain ⟨x10, ex10, hf⟩ := bnd_ex hf
  rw [← ex10]
  refine msegT C kX0_work 75 1 (g := (true, 4, [.ref (12), .ref a1, .int v2, .int x10, .retAddr 0], [], mk b S)) rfl rfl ?_
  exact mfor (L' := [.ref (12), .ref a1, .int v2, .int x10, .retAddr 0]) ⟨Or.inr rfl, Or.inr rfl, Or.inr rfl, Or.inr rfl, Or.inl rfl, trivial⟩ (Hrc4 _ _ _ hf true)
theorem bX0_work_87_12 (C : mCx p (mR 2) s m args meth c G cX0_work RX0 5 false 233 54500 233 54500) (hr : meth.sig.returnType = (some .int)) (hk : meth.locks = false) {b : Bool} {a1 : Nat} {S' : mT} {r : Int32} {rc4 : Int32 → Int32 → mT → Option (Int32 × mT)} (Hrc4 : ∀ (v2 : Int32) (v3 : Int32) (S : mT), rc4 v2 v3 S = some (r, S') → ∀ ok : Bool, mW p l e (mR 2) s m args below meth c G 5 233 54500 (mQ below G args s b S' (some (.int r))) (ok, 4, [.ref (12), .ref a1, .int v2, .int v3, .retAddr 0], [], mk b S)) {v2 : Int32} {v3 : Int32} {s0 : Int32} {s1 : Int32} {S : mT} (hf : fX0_work_87 12 a1 rc4 v2 v3 s0 s1 S = some (r, S')) (ok : Bool) : mW p l e (mR 2) s m args below meth c G 5 233 54500 (mQ below G args s b S' (some (.int r))) (ok, 87, [.ref (12), .ref a1, .int v2, .int v3, .retAddr 0], [.int s0, .int s1, .ref (12 + 2)], mk b S) := by
  unfold fX0_work_87 at hf
  obtain ⟨hok, hf⟩ := grd_ex hf
  refine msegT C kX0_work 48 1 (g := ((kI (12 + 2) s1 && true), 88, [.ref (12), .ref a1, .int v2, .int v3, .retAddr 0], [], mk b (sI S (12 + 2) (mIx s1) s0))) rfl hok ?_
  obtain ⟨S11, eS11, hf⟩ := bnd_ex hf
  rw [← eS11]
  refine msegT C kX0_work 49 1 (g := (true, 130, [.ref (12), .ref a1, .int v2, .int v3, .retAddr 0], [], mk b S11)) rfl rfl ?_
  exact mfor (L' := [.ref (12), .ref a1, .int v2, .int v3, .retAddr 0]) ⟨Or.inr rfl, Or.inr rfl, Or.inr rfl, Or.inr rfl, Or.inl rfl, trivial⟩ (bX0_work_130_12 C hr hk Hrc4 hf true)
theorem bX0_work_152_12 (C : mCx p (mR 2) s m args meth c G cX0_work RX0 5 false 233 54500 233 54500) (hr : meth.sig.returnType = (some .int)) (hk : meth.locks = false) {b : Bool} {a1 : Nat} {S' : mT} {r : Int32} {s0 : Int32} {S : mT} (hf : fX0_work_152 12 a1 s0 S = some (r, S')) (ok : Bool) : mW p l e (mR 2) s m args below meth c G 5 233 54500 (mQ below G args s b S' (some (.int r))) (ok, 152, [.retAddr 0, .retAddr 0, .retAddr 0, .retAddr 0, .retAddr 0], [.int s0], mk b S) := by
  unfold fX0_work_152 at hf
  cases hf
  exact gret_i C hr hk (kX0_work _ (List.mem_of_getElem? (i := 86) rfl)).1
theorem bX0_work_4_12 (C : mCx p (mR 2) s m args meth c G cX0_work RX0 5 false 233 54500 233 54500) (hr : meth.sig.returnType = (some .int)) (hk : meth.locks = false) {b : Bool} {a1 : Nat} {S' : mT} {r : Int32} : ∀ (k : Nat) (v2 : Int32) (v3 : Int32) (S : mT), fX0_work_4 12 a1 k v2 v3 S = some (r, S') → ∀ ok : Bool, mW p l e (mR 2) s m args below meth c G 5 233 54500 (mQ below G args s b S' (some (.int r))) (ok, 4, [.ref (12), .ref a1, .int v2, .int v3, .retAddr 0], [], mk b S) := by
  intro k
  induction k with
  | zero =>
    intro v2 v3 S hf ok
    cases hf
  | succ k ih =>
    intro v2 v3 S hf ok
    unfold fX0_work_4 at hf
    obtain ⟨hok, hf⟩ := grd_ex hf
    refine msegT C kX0_work 4 4 (g := ((kO 12 0 && true), (if (S.1 12 2) ≤ v3 then 136 else 12), [.ref (12), .ref a1, .int v2, .int v3, .retAddr 0], [], mk b S)) rfl hok ?_
    by_cases hc : (S.1 12 2) ≤ v3
    · rw [if_pos hc] at hf ⊢
      refine msegT C kX0_work 76 2 (g := (true, (if v2 ≤ 0 then 151 else 140), [.ref (12), .ref a1, .int v2, .int v3, .retAddr 0], [], mk b S)) rfl rfl ?_
      by_cases hc : v2 ≤ 0
      · rw [if_pos hc] at hf ⊢
        refine msegT C kX0_work 85 1 (g := (true, 152, [.ref (12), .ref a1, .int v2, .int v3, .retAddr 0], [.int (0 : Int32)], mk b S)) rfl rfl ?_
        exact mfor (L' := [.retAddr 0, .retAddr 0, .retAddr 0, .retAddr 0, .retAddr 0]) ⟨Or.inl rfl, Or.inl rfl, Or.inl rfl, Or.inl rfl, Or.inl rfl, trivial⟩ (bX0_work_152_12 C hr hk hf true)
      · rw [if_neg hc] at hf ⊢
        obtain ⟨hok, hf⟩ := grd_ex hf
        refine msegT C kX0_work 78 7 (g := ((kI (12 + 2) (v2 - (1 : Int32)) && (kO 12 0 && true)), 152, [.ref (12), .ref a1, .int v2, .int v3, .retAddr 0], [.int (S.1 (12 + 2) (mIx (v2 - (1 : Int32))))], mk b S)) rfl hok ?_
        exact mfor (L' := [.retAddr 0, .retAddr 0, .retAddr 0, .retAddr 0, .retAddr 0]) ⟨Or.inl rfl, Or.inl rfl, Or.inl rfl, Or.inl rfl, Or.inl rfl, trivial⟩ (bX0_work_152_12 C hr hk hf true)
    · rw [if_neg hc] at hf ⊢
      obtain ⟨hok, hf⟩ := grd_ex hf
      refine msegT C kX0_work 8 5 (g := ((kI (12 + 1) v3 && (kO 12 0 && true)), 20, [.ref (12), .ref a1, .int v2, .int v3, .int (S.1 (12 + 1) (mIx v3))], [], mk b S)) rfl hok ?_
      obtain ⟨x1, ex1, hf⟩ := bnd_ex hf
      rw [← ex1]
      refine msegT C kX0_work 13 3 (g := (true, (if (20000 : Int32) ≤ x1 then 52 else 28), [.ref (12), .ref a1, .int v2, .int v3, .int x1], [], mk b S)) rfl rfl ?_
      by_cases hc : (20000 : Int32) ≤ x1
      · rw [if_pos hc] at hf ⊢
        refine msegT C kX0_work 28 3 (g := (true, (if x1 = (20033 : Int32) then 60 else 91), [.ref (12), .ref a1, .int v2, .int v3, .int x1], [], mk b S)) rfl rfl ?_
        by_cases hc : x1 = (20033 : Int32)
        · rw [if_pos hc] at hf ⊢
          refine msegT C kX0_work 31 2 (g := (true, (if v2 ≤ 0 then 130 else 64), [.ref (12), .ref a1, .int v2, .int v3, .int x1], [], mk b S)) rfl rfl ?_
          by_cases hc : v2 ≤ 0
          · rw [if_pos hc] at hf ⊢
            exact mfor (L' := [.ref (12), .ref a1, .int v2, .int v3, .retAddr 0]) ⟨Or.inr rfl, Or.inr rfl, Or.inr rfl, Or.inr rfl, Or.inl rfl, trivial⟩ (bX0_work_130_12 C hr hk ih hf true)
          · rw [if_neg hc] at hf ⊢
            obtain ⟨hok, hf⟩ := grd_ex hf
            refine msegT C kX0_work 33 12 (g := ((kI (12 + 2) (v2 - (1 : Int32)) && (kO 12 0 && (kO 12 0 && true))), (if (S.1 (12 + 2) (mIx (v2 - (1 : Int32)))) = 0 then 82 else 86), [.ref (12), .ref a1, .int v2, .int v3, .int x1], [.int (v2 - (1 : Int32)), .ref (12 + 2)], mk b S)) rfl hok ?_
            by_cases hc : (S.1 (12 + 2) (mIx (v2 - (1 : Int32)))) = 0
            · rw [if_pos hc] at hf ⊢
              refine msegT C kX0_work 45 2 (g := (true, 87, [.ref (12), .ref a1, .int v2, .int v3, .int x1], [.int (1 : Int32), .int (v2 - (1 : Int32)), .ref (12 + 2)], mk b S)) rfl rfl ?_
              exact mfor (L' := [.ref (12), .ref a1, .int v2, .int v3, .retAddr 0]) ⟨Or.inr rfl, Or.inr rfl, Or.inr rfl, Or.inr rfl, Or.inl rfl, trivial⟩ (bX0_work_87_12 C hr hk ih hf true)
            · rw [if_neg hc] at hf ⊢
              refine msegT C kX0_work 47 1 (g := (true, 87, [.ref (12), .ref a1, .int v2, .int v3, .int x1], [.int (0 : Int32), .int (v2 - (1 : Int32)), .ref (12 + 2)], mk b S)) rfl rfl ?_
              exact mfor (L' := [.ref (12), .ref a1, .int v2, .int v3, .retAddr 0]) ⟨Or.inr rfl, Or.inr rfl, Or.inr rfl, Or.inr rfl, Or.inl rfl, trivial⟩ (bX0_work_87_12 C hr hk ih hf true)
        · rw [if_neg hc] at hf ⊢
          refine msegT C kX0_work 50 3 (g := (true, (if v2 ≤ (1 : Int32) then 130 else 96), [.ref (12), .ref a1, .int v2, .int v3, .int x1], [], mk b S)) rfl rfl ?_
          by_cases hc : v2 ≤ (1 : Int32)
          · rw [if_pos hc] at hf ⊢
            exact mfor (L' := [.ref (12), .ref a1, .int v2, .int v3, .retAddr 0]) ⟨Or.inr rfl, Or.inr rfl, Or.inr rfl, Or.inr rfl, Or.inl rfl, trivial⟩ (bX0_work_130_12 C hr hk ih hf true)
          · rw [if_neg hc] at hf ⊢
            refine msegT C kX0_work 53 1 (g := (true, 99, [.ref (12), .ref a1, .int (v2 + (-1 : Int32)), .int v3, .int x1], [], mk b S)) rfl rfl ?_
            obtain ⟨x2, ex2, hf⟩ := bnd_ex hf
            rw [← ex2]
            obtain ⟨hok, hf⟩ := grd_ex hf
            refine msegT C kX0_work 54 18 (g := ((kI (12 + 2) x2 && (kO 12 0 && (kI (12 + 2) (x2 - (1 : Int32)) && (kO 12 0 && (kO 12 0 && true))))), 126, [.ref (12), .ref a1, .int x2, .int v3, .int x1], [.int (S.1 (12 + 2) (mIx x2)), .int (S.1 (12 + 2) (mIx (x2 - (1 : Int32)))), .int (x1 - (20000 : Int32)), .int (x2 - (1 : Int32)), .ref (12 + 2)], mk b S)) rfl hok ?_
            obtain ⟨x4, S3, hq, hf⟩ := bndC_ex hf
            refine mcall (kd := 1) (vs := [.int (x1 - (20000 : Int32)), .int (S.1 (12 + 2) (mIx (x2 - (1 : Int32)))), .int (S.1 (12 + 2) (mIx x2))]) (rest := [.int (x2 - (1 : Int32)), .ref (12 + 2)]) (r := (some (.int x4))) (h' := mk b S3) (ok' := true) C lkRX0_33 (qX0_join hq) (kX0_work _ (List.mem_of_getElem? (i := 72) rfl)).1 rfl (Nat.le_of_ble_eq_true rfl) (Nat.le_of_ble_eq_true rfl) (Nat.le_refl _) (Nat.le_refl _) (Nat.le_of_ble_eq_true rfl) ?_
            obtain ⟨hok, hf⟩ := grd_ex hf
            refine msegT C kX0_work 73 1 (g := ((kI (12 + 2) (x2 - (1 : Int32)) && true), 130, [.ref (12), .ref a1, .int x2, .int v3, .int x1], [], mk b (sI S3 (12 + 2) (mIx (x2 - (1 : Int32))) x4))) rfl hok ?_
            obtain ⟨S5, eS5, hf⟩ := bnd_ex hf
            rw [← eS5]
            exact mfor (L' := [.ref (12), .ref a1, .int x2, .int v3, .retAddr 0]) ⟨Or.inr rfl, Or.inr rfl, Or.inr rfl, Or.inr rfl, Or.inl rfl, trivial⟩ (bX0_work_130_12 C hr hk ih hf true)
      · rw [if_neg hc] at hf ⊢
        refine msegT C kX0_work 16 3 (g := (true, (if (30 : Int32) ≤ v2 then 130 else 34), [.ref (12), .ref a1, .int v2, .int v3, .int x1], [], mk b S)) rfl rfl ?_
        by_cases hc : (30 : Int32) ≤ v2
        · rw [if_pos hc] at hf ⊢
          exact mfor (L' := [.ref (12), .ref a1, .int v2, .int v3, .retAddr 0]) ⟨Or.inr rfl, Or.inr rfl, Or.inr rfl, Or.inr rfl, Or.inl rfl, trivial⟩ (bX0_work_130_12 C hr hk ih hf true)
        · rw [if_neg hc] at hf ⊢
          obtain ⟨hok, hf⟩ := grd_ex hf
          refine msegT C kX0_work 19 5 (g := ((kO 12 0 && true), 42, [.ref (12), .ref a1, .int v2, .int v3, .int x1], [.ref a1, .int x1, .int v2, .ref (12 + 2)], mk b S)) rfl hok ?_
          obtain ⟨x7, S6, hq, hf⟩ := bndC_ex hf
          refine mcall (kd := 1) (vs := [.int x1, .ref a1]) (rest := [.int v2, .ref (12 + 2)]) (r := (some (.int x7))) (h' := mk b S6) (ok' := true) C lkRX0_29 (qX0_leaf hq) (kX0_work _ (List.mem_of_getElem? (i := 24) rfl)).1 rfl (Nat.le_of_ble_eq_true rfl) (Nat.le_of_ble_eq_true rfl) (Nat.le_refl _) (Nat.le_refl _) (Nat.le_of_ble_eq_true rfl) ?_
          obtain ⟨hok, hf⟩ := grd_ex hf
          refine msegT C kX0_work 25 1 (g := ((kI (12 + 2) v2 && true), 46, [.ref (12), .ref a1, .int v2, .int v3, .int x1], [], mk b (sI S6 (12 + 2) (mIx v2) x7))) rfl hok ?_
          obtain ⟨S8, eS8, hf⟩ := bnd_ex hf
          rw [← eS8]
          refine msegT C kX0_work 26 1 (g := (true, 49, [.ref (12), .ref a1, .int (v2 + (1 : Int32)), .int v3, .int x1], [], mk b S8)) rfl rfl ?_
          obtain ⟨x9, ex9, hf⟩ := bnd_ex hf
          rw [← ex9]
          refine msegT C kX0_work 27 1 (g := (true, 130, [.ref (12), .ref a1, .int x9, .int v3, .int x1], [], mk b S8)) rfl rfl ?_
          exact mfor (L' := [.ref (12), .ref a1, .int x9, .int v3, .retAddr 0]) ⟨Or.inr rfl, Or.inr rfl, Or.inr rfl, Or.inr rfl, Or.inl rfl, trivial⟩ (bX0_work_130_12 C hr hk ih hf true)
theorem bX0_work_0_12 (C : mCx p (mR 2) s m args meth c G cX0_work RX0 5 false 233 54500 233 54500) (hr : meth.sig.returnType = (some .int)) (hk : meth.locks = false) {b : Bool} {a1 : Nat} {S' : mT} {r : Int32} {S : mT} (hf : fX0_work 12 a1 S = some (r, S')) (ok : Bool) : mW p l e (mR 2) s m args below meth c G 5 233 54500 (mQ below G args s b S' (some (.int r))) (ok, 0, [.ref (12), .ref a1, .retAddr 0, .retAddr 0, .retAddr 0], [], mk b S) := by
  unfold fX0_work at hf
  refine msegT C kX0_work 0 4 (g := (true, 4, [.ref (12), .ref a1, .int (0 : Int32), .int (0 : Int32), .retAddr 0], [], mk b S)) rfl rfl ?_
  exact mfor (L' := [.ref (12), .ref a1, .int (0 : Int32), .int (0 : Int32), .retAddr 0]) ⟨Or.inr rfl, Or.inr rfl, Or.inr rfl, Or.inr rfl, Or.inl rfl, trivial⟩ (bX0_work_4_12 C hr hk _ _ _ _ hf true)
theorem qX0_work_12 {b : Bool} {a1 : Nat} {S S' : mT} {r : Int32} (hf : fX0_work 12 a1 S = some (r, S')) : mOk l mX0_work 2 [.ref (12), .ref a1] b S (some (.int r)) S' :=
  gMet (by decide) (Nat.le_of_ble_eq_true rfl) rfl (Nat.le_of_ble_eq_true rfl) (fun p e s m args below meth c G C hr hk => bX0_work_0_12 C hr hk hf true)
theorem bX0_work_130_28 (C : mCx p (mR 2) s m args meth c G cX0_work RX0 5 false 233 54500 233 54500) (hr : meth.sig.returnType = (some .int)) (hk : meth.locks = false) {b : Bool} {a1 : Nat} {S' : mT} {r : Int32} {rc4 : Int32 → Int32 → mT → Option (Int32 × mT)} (Hrc4 : ∀ (v2 : Int32) (v3 : Int32) (S : mT), rc4 v2 v3 S = some (r, S') → ∀ ok : Bool, mW p l e (mR 2) s m args below meth c G 5 233 54500 (mQ below G args s b S' (some (.int r))) (ok, 4, [.ref (28), .ref a1, .int v2, .int v3, .retAddr 0], [], mk b S)) {v2 : Int32} {v3 : Int32} {S : mT} (hf : fX0_work_130 28 a1 rc4 v2 v3 S = some (r, S')) (ok : Bool) : mW p l e (mR 2) s m args below meth c G 5 233 54500 (mQ below G args s b S' (some (.int r))) (ok, 130, [.ref (28), .ref a1, .int v2, .int v3, .retAddr 0], [], mk b S) := by
  unfold fX0_work_130 at hf
  refine msegT C kX0_work 74 1 (g := (true, 133, [.ref (28), .ref a1, .int v2, .int (v3 + (1 : Int32)), .retAddr 0], [], mk b S)) rfl rfl ?_
  obtain ⟨x10, ex10, hf⟩ := bnd_ex hf
  rw [← ex10]
  refine msegT C kX0_work 75 1 (g := (true, 4, [.ref (28), .ref a1, .int v2, .int x10, .retAddr 0], [], mk b S)) rfl rfl ?_
  exact mfor (L' := [.ref (28), .ref a1, .int v2, .int x10, .retAddr 0]) ⟨Or.inr rfl, Or.inr rfl, Or.inr rfl, Or.inr rfl, Or.inl rfl, trivial⟩ (Hrc4 _ _ _ hf true)
theorem bX0_work_87_28 (C : mCx p (mR 2) s m args meth c G cX0_work RX0 5 false 233 54500 233 54500) (hr : meth.sig.returnType = (some .int)) (hk : meth.locks = false) {b : Bool} {a1 : Nat} {S' : mT} {r : Int32} {rc4 : Int32 → Int32 → mT → Option (Int32 × mT)} (Hrc4 : ∀ (v2 : Int32) (v3 : Int32) (S : mT), rc4 v2 v3 S = some (r, S') → ∀ ok : Bool, mW p l e (mR 2) s m args below meth c G 5 233 54500 (mQ below G args s b S' (some (.int r))) (ok, 4, [.ref (28), .ref a1, .int v2, .int v3, .retAddr 0], [], mk b S)) {v2 : Int32} {v3 : Int32} {s0 : Int32} {s1 : Int32} {S : mT} (hf : fX0_work_87 28 a1 rc4 v2 v3 s0 s1 S = some (r, S')) (ok : Bool) : mW p l e (mR 2) s m args below meth c G 5 233 54500 (mQ below G args s b S' (some (.int r))) (ok, 87, [.ref (28), .ref a1, .int v2, .int v3, .retAddr 0], [.int s0, .int s1, .ref (28 + 2)], mk b S) := by
  unfold fX0_work_87 at hf
  obtain ⟨hok, hf⟩ := grd_ex hf
  refine msegT C kX0_work 48 1 (g := ((kI (28 + 2) s1 && true), 88, [.ref (28), .ref a1, .int v2, .int v3, .retAddr 0], [], mk b (sI S (28 + 2) (mIx s1) s0))) rfl hok ?_
  obtain ⟨S11, eS11, hf⟩ := bnd_ex hf
  rw [← eS11]
  refine msegT C kX0_work 49 1 (g := (true, 130, [.ref (28), .ref a1, .int v2, .int v3, .retAddr 0], [], mk b S11)) rfl rfl ?_
  exact mfor (L' := [.ref (28), .ref a1, .int v2, .int v3, .retAddr 0]) ⟨Or.inr rfl, Or.inr rfl, Or.inr rfl, Or.inr rfl, Or.inl rfl, trivial⟩ (bX0_work_130_28 C hr hk Hrc4 hf true)
theorem bX0_work_152_28 (C : mCx p (mR 2) s m args meth c G cX0_work RX0 5 false 233 54500 233 54500) (hr : meth.sig.returnType = (some .int)) (hk : meth.locks = false) {b : Bool} {a1 : Nat} {S' : mT} {r : Int32} {s0 : Int32} {S : mT} (hf : fX0_work_152 28 a1 s0 S = some (r, S')) (ok : Bool) : mW p l e (mR 2) s m args below meth c G 5 233 54500 (mQ below G args s b S' (some (.int r))) (ok, 152, [.retAddr 0, .retAddr 0, .retAddr 0, .retAddr 0, .retAddr 0], [.int s0], mk b S) := by
  unfold fX0_work_152 at hf
  cases hf
  exact gret_i C hr hk (kX0_work _ (List.mem_of_getElem? (i := 86) rfl)).1
theorem bX0_work_4_28 (C : mCx p (mR 2) s m args meth c G cX0_work RX0 5 false 233 54500 233 54500) (hr : meth.sig.returnType = (some .int)) (hk : meth.locks = false) {b : Bool} {a1 : Nat} {S' : mT} {r : Int32} : ∀ (k : Nat) (v2 : Int32) (v3 : Int32) (S : mT), fX0_work_4 28 a1 k v2 v3 S = some (r, S') → ∀ ok : Bool, mW p l e (mR 2) s m args below meth c G 5 233 54500 (mQ below G args s b S' (some (.int r))) (ok, 4, [.ref (28), .ref a1, .int v2, .int v3, .retAddr 0], [], mk b S) := by
  intro k
  induction k with
  | zero =>
    intro v2 v3 S hf ok
    cases hf
  | succ k ih =>
    intro v2 v3 S hf ok
    unfold fX0_work_4 at hf
    obtain ⟨hok, hf⟩ := grd_ex hf
    refine msegT C kX0_work 4 4 (g := ((kO 28 0 && true), (if (S.1 28 2) ≤ v3 then 136 else 12), [.ref (28), .ref a1, .int v2, .int v3, .retAddr 0], [], mk b S)) rfl hok ?_
    by_cases hc : (S.1 28 2) ≤ v3
    · rw [if_pos hc] at hf ⊢
      refine msegT C kX0_work 76 2 (g := (true, (if v2 ≤ 0 then 151 else 140), [.ref (28), .ref a1, .int v2, .int v3, .retAddr 0], [], mk b S)) rfl rfl ?_
      by_cases hc : v2 ≤ 0
      · rw [if_pos hc] at hf ⊢
        refine msegT C kX0_work 85 1 (g := (true, 152, [.ref (28), .ref a1, .int v2, .int v3, .retAddr 0], [.int (0 : Int32)], mk b S)) rfl rfl ?_
        exact mfor (L' := [.retAddr 0, .retAddr 0, .retAddr 0, .retAddr 0, .retAddr 0]) ⟨Or.inl rfl, Or.inl rfl, Or.inl rfl, Or.inl rfl, Or.inl rfl, trivial⟩ (bX0_work_152_28 C hr hk hf true)
      · rw [if_neg hc] at hf ⊢
        obtain ⟨hok, hf⟩ := grd_ex hf
        refine msegT C kX0_work 78 7 (g := ((kI (28 + 2) (v2 - (1 : Int32)) && (kO 28 0 && true)), 152, [.ref (28), .ref a1, .int v2, .int v3, .retAddr 0], [.int (S.1 (28 + 2) (mIx (v2 - (1 : Int32))))], mk b S)) rfl hok ?_
        exact mfor (L' := [.retAddr 0, .retAddr 0, .retAddr 0, .retAddr 0, .retAddr 0]) ⟨Or.inl rfl, Or.inl rfl, Or.inl rfl, Or.inl rfl, Or.inl rfl, trivial⟩ (bX0_work_152_28 C hr hk hf true)
    · rw [if_neg hc] at hf ⊢
      obtain ⟨hok, hf⟩ := grd_ex hf
      refine msegT C kX0_work 8 5 (g := ((kI (28 + 1) v3 && (kO 28 0 && true)), 20, [.ref (28), .ref a1, .int v2, .int v3, .int (S.1 (28 + 1) (mIx v3))], [], mk b S)) rfl hok ?_
      obtain ⟨x1, ex1, hf⟩ := bnd_ex hf
      rw [← ex1]
      refine msegT C kX0_work 13 3 (g := (true, (if (20000 : Int32) ≤ x1 then 52 else 28), [.ref (28), .ref a1, .int v2, .int v3, .int x1], [], mk b S)) rfl rfl ?_
      by_cases hc : (20000 : Int32) ≤ x1
      · rw [if_pos hc] at hf ⊢
        refine msegT C kX0_work 28 3 (g := (true, (if x1 = (20033 : Int32) then 60 else 91), [.ref (28), .ref a1, .int v2, .int v3, .int x1], [], mk b S)) rfl rfl ?_
        by_cases hc : x1 = (20033 : Int32)
        · rw [if_pos hc] at hf ⊢
          refine msegT C kX0_work 31 2 (g := (true, (if v2 ≤ 0 then 130 else 64), [.ref (28), .ref a1, .int v2, .int v3, .int x1], [], mk b S)) rfl rfl ?_
          by_cases hc : v2 ≤ 0
          · rw [if_pos hc] at hf ⊢
            exact mfor (L' := [.ref (28), .ref a1, .int v2, .int v3, .retAddr 0]) ⟨Or.inr rfl, Or.inr rfl, Or.inr rfl, Or.inr rfl, Or.inl rfl, trivial⟩ (bX0_work_130_28 C hr hk ih hf true)
          · rw [if_neg hc] at hf ⊢
            obtain ⟨hok, hf⟩ := grd_ex hf
            refine msegT C kX0_work 33 12 (g := ((kI (28 + 2) (v2 - (1 : Int32)) && (kO 28 0 && (kO 28 0 && true))), (if (S.1 (28 + 2) (mIx (v2 - (1 : Int32)))) = 0 then 82 else 86), [.ref (28), .ref a1, .int v2, .int v3, .int x1], [.int (v2 - (1 : Int32)), .ref (28 + 2)], mk b S)) rfl hok ?_
            by_cases hc : (S.1 (28 + 2) (mIx (v2 - (1 : Int32)))) = 0
            · rw [if_pos hc] at hf ⊢
              refine msegT C kX0_work 45 2 (g := (true, 87, [.ref (28), .ref a1, .int v2, .int v3, .int x1], [.int (1 : Int32), .int (v2 - (1 : Int32)), .ref (28 + 2)], mk b S)) rfl rfl ?_
              exact mfor (L' := [.ref (28), .ref a1, .int v2, .int v3, .retAddr 0]) ⟨Or.inr rfl, Or.inr rfl, Or.inr rfl, Or.inr rfl, Or.inl rfl, trivial⟩ (bX0_work_87_28 C hr hk ih hf true)
            · rw [if_neg hc] at hf ⊢
              refine msegT C kX0_work 47 1 (g := (true, 87, [.ref (28), .ref a1, .int v2, .int v3, .int x1], [.int (0 : Int32), .int (v2 - (1 : Int32)), .ref (28 + 2)], mk b S)) rfl rfl ?_
              exact mfor (L' := [.ref (28), .ref a1, .int v2, .int v3, .retAddr 0]) ⟨Or.inr rfl, Or.inr rfl, Or.inr rfl, Or.inr rfl, Or.inl rfl, trivial⟩ (bX0_work_87_28 C hr hk ih hf true)
        · rw [if_neg hc] at hf ⊢
          refine msegT C kX0_work 50 3 (g := (true, (if v2 ≤ (1 : Int32) then 130 else 96), [.ref (28), .ref a1, .int v2, .int v3, .int x1], [], mk b S)) rfl rfl ?_
          by_cases hc : v2 ≤ (1 : Int32)
          · rw [if_pos hc] at hf ⊢
            exact mfor (L' := [.ref (28), .ref a1, .int v2, .int v3, .retAddr 0]) ⟨Or.inr rfl, Or.inr rfl, Or.inr rfl, Or.inr rfl, Or.inl rfl, trivial⟩ (bX0_work_130_28 C hr hk ih hf true)
          · rw [if_neg hc] at hf ⊢
            refine msegT C kX0_work 53 1 (g := (true, 99, [.ref (28), .ref a1, .int (v2 + (-1 : Int32)), .int v3, .int x1], [], mk b S)) rfl rfl ?_
            obtain ⟨x2, ex2, hf⟩ := bnd_ex hf
            rw [← ex2]
            obtain ⟨hok, hf⟩ := grd_ex hf
            refine msegT C kX0_work 54 18 (g := ((kI (28 + 2) x2 && (kO 28 0 && (kI (28 + 2) (x2 - (1 : Int32)) && (kO 28 0 && (kO 28 0 && true))))), 126, [.ref (28), .ref a1, .int x2, .int v3, .int x1], [.int (S.1 (28 + 2) (mIx x2)), .int (S.1 (28 + 2) (mIx (x2 - (1 : Int32)))), .int (x1 - (20000 : Int32)), .int (x2 - (1 : Int32)), .ref (28 + 2)], mk b S)) rfl hok ?_
            obtain ⟨x4, S3, hq, hf⟩ := bndC_ex hf
            refine mcall (kd := 1) (vs := [.int (x1 - (20000 : Int32)), .int (S.1 (28 + 2) (mIx (x2 - (1 : Int32)))), .int (S.1 (28 + 2) (mIx x2))]) (rest := [.int (x2 - (1 : Int32)), .ref (28 + 2)]) (r := (some (.int x4))) (h' := mk b S3) (ok' := true) C lkRX0_33 (qX0_join hq) (kX0_work _ (List.mem_of_getElem? (i := 72) rfl)).1 rfl (Nat.le_of_ble_eq_true rfl) (Nat.le_of_ble_eq_true rfl) (Nat.le_refl _) (Nat.le_refl _) (Nat.le_of_ble_eq_true rfl) ?_
            obtain ⟨hok, hf⟩ := grd_ex hf
            refine msegT C kX0_work 73 1 (g := ((kI (28 + 2) (x2 - (1 : Int32)) && true), 130, [.ref (28), .ref a1, .int x2, .int v3, .int x1], [], mk b (sI S3 (28 + 2) (mIx (x2 - (1 : Int32))) x4))) rfl hok ?_
            obtain ⟨S5, eS5, hf⟩ := bnd_ex hf
            rw [← eS5]
            exact mfor (L' := [.ref (28), .ref a1, .int x2, .int v3, .retAddr 0]) ⟨Or.inr rfl, Or.inr rfl, Or.inr rfl, Or.inr rfl, Or.inl rfl, trivial⟩ (bX0_work_130_28 C hr hk ih hf true)
      · rw [if_neg hc] at hf ⊢
        refine msegT C kX0_work 16 3 (g := (true, (if (30 : Int32) ≤ v2 then 130 else 34), [.ref (28), .ref a1, .int v2, .int v3, .int x1], [], mk b S)) rfl rfl ?_
        by_cases hc : (30 : Int32) ≤ v2
        · rw [if_pos hc] at hf ⊢
          exact mfor (L' := [.ref (28), .ref a1, .int v2, .int v3, .retAddr 0]) ⟨Or.inr rfl, Or.inr rfl, Or.inr rfl, Or.inr rfl, Or.inl rfl, trivial⟩ (bX0_work_130_28 C hr hk ih hf true)
        · rw [if_neg hc] at hf ⊢
          obtain ⟨hok, hf⟩ := grd_ex hf
          refine msegT C kX0_work 19 5 (g := ((kO 28 0 && true), 42, [.ref (28), .ref a1, .int v2, .int v3, .int x1], [.ref a1, .int x1, .int v2, .ref (28 + 2)], mk b S)) rfl hok ?_
          obtain ⟨x7, S6, hq, hf⟩ := bndC_ex hf
          refine mcall (kd := 1) (vs := [.int x1, .ref a1]) (rest := [.int v2, .ref (28 + 2)]) (r := (some (.int x7))) (h' := mk b S6) (ok' := true) C lkRX0_29 (qX0_leaf hq) (kX0_work _ (List.mem_of_getElem? (i := 24) rfl)).1 rfl (Nat.le_of_ble_eq_true rfl) (Nat.le_of_ble_eq_true rfl) (Nat.le_refl _) (Nat.le_refl _) (Nat.le_of_ble_eq_true rfl) ?_
          obtain ⟨hok, hf⟩ := grd_ex hf
          refine msegT C kX0_work 25 1 (g := ((kI (28 + 2) v2 && true), 46, [.ref (28), .ref a1, .int v2, .int v3, .int x1], [], mk b (sI S6 (28 + 2) (mIx v2) x7))) rfl hok ?_
          obtain ⟨S8, eS8, hf⟩ := bnd_ex hf
          rw [← eS8]
          refine msegT C kX0_work 26 1 (g := (true, 49, [.ref (28), .ref a1, .int (v2 + (1 : Int32)), .int v3, .int x1], [], mk b S8)) rfl rfl ?_
          obtain ⟨x9, ex9, hf⟩ := bnd_ex hf
          rw [← ex9]
          refine msegT C kX0_work 27 1 (g := (true, 130, [.ref (28), .ref a1, .int x9, .int v3, .int x1], [], mk b S8)) rfl rfl ?_
          exact mfor (L' := [.ref (28), .ref a1, .int x9, .int v3, .retAddr 0]) ⟨Or.inr rfl, Or.inr rfl, Or.inr rfl, Or.inr rfl, Or.inl rfl, trivial⟩ (bX0_work_130_28 C hr hk ih hf true)
theorem bX0_work_0_28 (C : mCx p (mR 2) s m args meth c G cX0_work RX0 5 false 233 54500 233 54500) (hr : meth.sig.returnType = (some .int)) (hk : meth.locks = false) {b : Bool} {a1 : Nat} {S' : mT} {r : Int32} {S : mT} (hf : fX0_work 28 a1 S = some (r, S')) (ok : Bool) : mW p l e (mR 2) s m args below meth c G 5 233 54500 (mQ below G args s b S' (some (.int r))) (ok, 0, [.ref (28), .ref a1, .retAddr 0, .retAddr 0, .retAddr 0], [], mk b S) := by
  unfold fX0_work at hf
  refine msegT C kX0_work 0 4 (g := (true, 4, [.ref (28), .ref a1, .int (0 : Int32), .int (0 : Int32), .retAddr 0], [], mk b S)) rfl rfl ?_
  exact mfor (L' := [.ref (28), .ref a1, .int (0 : Int32), .int (0 : Int32), .retAddr 0]) ⟨Or.inr rfl, Or.inr rfl, Or.inr rfl, Or.inr rfl, Or.inl rfl, trivial⟩ (bX0_work_4_28 C hr hk _ _ _ _ hf true)
theorem qX0_work_28 {b : Bool} {a1 : Nat} {S S' : mT} {r : Int32} (hf : fX0_work 28 a1 S = some (r, S')) : mOk l mX0_work 2 [.ref (28), .ref a1] b S (some (.int r)) S' :=
  gMet (by decide) (Nat.le_of_ble_eq_true rfl) rfl (Nat.le_of_ble_eq_true rfl) (fun p e s m args below meth c G C hr hk => bX0_work_0_28 C hr hk hf true)
theorem bX0_work_130_9 (C : mCx p (mR 2) s m args meth c G cX0_work RX0 5 false 233 54500 233 54500) (hr : meth.sig.returnType = (some .int)) (hk : meth.locks = false) {b : Bool} {a1 : Nat} {S' : mT} {r : Int32} {rc4 : Int32 → Int32 → mT → Option (Int32 × mT)} (Hrc4 : ∀ (v2 : Int32) (v3 : Int32) (S : mT), rc4 v2 v3 S = some (r, S') → ∀ ok : Bool, mW p l e (mR 2) s m args below meth c G 5 233 54500 (mQ below G args s b S' (some (.int r))) (ok, 4, [.ref (9), .ref a1, .int v2, .int v3, .retAddr 0], [], mk b S)) {v2 : Int32} {v3 : Int32} {S : mT} (hf : fX0_work_130 9 a1 rc4 v2 v3 S = some (r, S')) (ok : Bool) : mW p l e (mR 2) s m args below meth c G 5 233 54500 (mQ below G args s b S' (some (.int r))) (ok, 130, [.ref (9), .ref a1, .int v2, .int v3, .retAddr 0], [], mk b S) := by
  unfold fX0_work_130 at hf
  refine msegT C kX0_work 74 1 (g := (true, 133, [.ref (9), .ref a1, .int v2, .int (v3 + (1 : Int32)), .retAddr 0], [], mk b S)) rfl rfl ?_
  obtain ⟨x10, ex10, hf⟩ := bnd_ex hf
  rw [← ex10]
  refine msegT C kX0_work 75 1 (g := (true, 4, [.ref (9), .ref a1, .int v2, .int x10, .retAddr 0], [], mk b S)) rfl rfl ?_
  exact mfor (L' := [.ref (9), .ref a1, .int v2, .int x10, .retAddr 0]) ⟨Or.inr rfl, Or.inr rfl, Or.inr rfl, Or.inr rfl, Or.inl rfl, trivial⟩ (Hrc4 _ _ _ hf true)
theorem bX0_work_87_9 (C : mCx p (mR 2) s m args meth c G cX0_work RX0 5 false 233 54500 233 54500) (hr : meth.sig.returnType = (some .int)) (hk : meth.locks = false) {b : Bool} {a1 : Nat} {S' : mT} {r : Int32} {rc4 : Int32 → Int32 → mT → Option (Int32 × mT)} (Hrc4 : ∀ (v2 : Int32) (v3 : Int32) (S : mT), rc4 v2 v3 S = some (r, S') → ∀ ok : Bool, mW p l e (mR 2) s m args below meth c G 5 233 54500 (mQ below G args s b S' (some (.int r))) (ok, 4, [.ref (9), .ref a1, .int v2, .int v3, .retAddr 0], [], mk b S)) {v2 : Int32} {v3 : Int32} {s0 : Int32} {s1 : Int32} {S : mT} (hf : fX0_work_87 9 a1 rc4 v2 v3 s0 s1 S = some (r, S')) (ok : Bool) : mW p l e (mR 2) s m args below meth c G 5 233 54500 (mQ below G args s b S' (some (.int r))) (ok, 87, [.ref (9), .ref a1, .int v2, .int v3, .retAddr 0], [.int s0, .int s1, .ref (9 + 2)], mk b S) := by
  unfold fX0_work_87 at hf
  obtain ⟨hok, hf⟩ := grd_ex hf
  refine msegT C kX0_work 48 1 (g := ((kI (9 + 2) s1 && true), 88, [.ref (9), .ref a1, .int v2, .int v3, .retAddr 0], [], mk b (sI S (9 + 2) (mIx s1) s0))) rfl hok ?_
  obtain ⟨S11, eS11, hf⟩ := bnd_ex hf
  rw [← eS11]
  refine msegT C kX0_work 49 1 (g := (true, 130, [.ref (9), .ref a1, .int v2, .int v3, .retAddr 0], [], mk b S11)) rfl rfl ?_
  exact mfor (L' := [.ref (9), .ref a1, .int v2, .int v3, .retAddr 0]) ⟨Or.inr rfl, Or.inr rfl, Or.inr rfl, Or.inr rfl, Or.inl rfl, trivial⟩ (bX0_work_130_9 C hr hk Hrc4 hf true)
theorem bX0_work_152_9 (C : mCx p (mR 2) s m args meth c G cX0_work RX0 5 false 233 54500 233 54500) (hr : meth.sig.returnType = (some .int)) (hk : meth.locks = false) {b : Bool} {a1 : Nat} {S' : mT} {r : Int32} {s0 : Int32} {S : mT} (hf : fX0_work_152 9 a1 s0 S = some (r, S')) (ok : Bool) : mW p l e (mR 2) s m args below meth c G 5 233 54500 (mQ below G args s b S' (some (.int r))) (ok, 152, [.retAddr 0, .retAddr 0, .retAddr 0, .retAddr 0, .retAddr 0], [.int s0], mk b S) := by
  unfold fX0_work_152 at hf
  cases hf
  exact gret_i C hr hk (kX0_work _ (List.mem_of_getElem? (i := 86) rfl)).1
theorem bX0_work_4_9 (C : mCx p (mR 2) s m args meth c G cX0_work RX0 5 false 233 54500 233 54500) (hr : meth.sig.returnType = (some .int)) (hk : meth.locks = false) {b : Bool} {a1 : Nat} {S' : mT} {r : Int32} : ∀ (k : Nat) (v2 : Int32) (v3 : Int32) (S : mT), fX0_work_4 9 a1 k v2 v3 S = some (r, S') → ∀ ok : Bool, mW p l e (mR 2) s m args below meth c G 5 233 54500 (mQ below G args s b S' (some (.int r))) (ok, 4, [.ref (9), .ref a1, .int v2, .int v3, .retAddr 0], [], mk b S) := by
  intro k
  induction k with
  | zero =>
    intro v2 v3 S hf ok
    cases hf
  | succ k ih =>
    intro v2 v3 S hf ok
    unfold fX0_work_4 at hf
    obtain ⟨hok, hf⟩ := grd_ex hf
    refine msegT C kX0_work 4 4 (g := ((kO 9 0 && true), (if (S.1 9 2) ≤ v3 then 136 else 12), [.ref (9), .ref a1, .int v2, .int v3, .retAddr 0], [], mk b S)) rfl hok ?_
    by_cases hc : (S.1 9 2) ≤ v3
    · rw [if_pos hc] at hf ⊢
      refine msegT C kX0_work 76 2 (g := (true, (if v2 ≤ 0 then 151 else 140), [.ref (9), .ref a1, .int v2, .int v3, .retAddr 0], [], mk b S)) rfl rfl ?_
      by_cases hc : v2 ≤ 0
      · rw [if_pos hc] at hf ⊢
        refine msegT C kX0_work 85 1 (g := (true, 152, [.ref (9), .ref a1, .int v2, .int v3, .retAddr 0], [.int (0 : Int32)], mk b S)) rfl rfl ?_
        exact mfor (L' := [.retAddr 0, .retAddr 0, .retAddr 0, .retAddr 0, .retAddr 0]) ⟨Or.inl rfl, Or.inl rfl, Or.inl rfl, Or.inl rfl, Or.inl rfl, trivial⟩ (bX0_work_152_9 C hr hk hf true)
      · rw [if_neg hc] at hf ⊢
        obtain ⟨hok, hf⟩ := grd_ex hf
        refine msegT C kX0_work 78 7 (g := ((kI (9 + 2) (v2 - (1 : Int32)) && (kO 9 0 && true)), 152, [.ref (9), .ref a1, .int v2, .int v3, .retAddr 0], [.int (S.1 (9 + 2) (mIx (v2 - (1 : Int32))))], mk b S)) rfl hok ?_
        exact mfor (L' := [.retAddr 0, .retAddr 0, .retAddr 0, .retAddr 0, .retAddr 0]) ⟨Or.inl rfl, Or.inl rfl, Or.inl rfl, Or.inl rfl, Or.inl rfl, trivial⟩ (bX0_work_152_9 C hr hk hf true)
    · rw [if_neg hc] at hf ⊢
      obtain ⟨hok, hf⟩ := grd_ex hf
      refine msegT C kX0_work 8 5 (g := ((kI (9 + 1) v3 && (kO 9 0 && true)), 20, [.ref (9), .ref a1, .int v2, .int v3, .int (S.1 (9 + 1) (mIx v3))], [], mk b S)) rfl hok ?_
      obtain ⟨x1, ex1, hf⟩ := bnd_ex hf
      rw [← ex1]
      refine msegT C kX0_work 13 3 (g := (true, (if (20000 : Int32) ≤ x1 then 52 else 28), [.ref (9), .ref a1, .int v2, .int v3, .int x1], [], mk b S)) rfl rfl ?_
      by_cases hc : (20000 : Int32) ≤ x1
      · rw [if_pos hc] at hf ⊢
        refine msegT C kX0_work 28 3 (g := (true, (if x1 = (20033 : Int32) then 60 else 91), [.ref (9), .ref a1, .int v2, .int v3, .int x1], [], mk b S)) rfl rfl ?_
        by_cases hc : x1 = (20033 : Int32)
        · rw [if_pos hc] at hf ⊢
          refine msegT C kX0_work 31 2 (g := (true, (if v2 ≤ 0 then 130 else 64), [.ref (9), .ref a1, .int v2, .int v3, .int x1], [], mk b S)) rfl rfl ?_
          by_cases hc : v2 ≤ 0
          · rw [if_pos hc] at hf ⊢
            exact mfor (L' := [.ref (9), .ref a1, .int v2, .int v3, .retAddr 0]) ⟨Or.inr rfl, Or.inr rfl, Or.inr rfl, Or.inr rfl, Or.inl rfl, trivial⟩ (bX0_work_130_9 C hr hk ih hf true)
          · rw [if_neg hc] at hf ⊢
            obtain ⟨hok, hf⟩ := grd_ex hf
            refine msegT C kX0_work 33 12 (g := ((kI (9 + 2) (v2 - (1 : Int32)) && (kO 9 0 && (kO 9 0 && true))), (if (S.1 (9 + 2) (mIx (v2 - (1 : Int32)))) = 0 then 82 else 86), [.ref (9), .ref a1, .int v2, .int v3, .int x1], [.int (v2 - (1 : Int32)), .ref (9 + 2)], mk b S)) rfl hok ?_
            by_cases hc : (S.1 (9 + 2) (mIx (v2 - (1 : Int32)))) = 0
            · rw [if_pos hc] at hf ⊢
              refine msegT C kX0_work 45 2 (g := (true, 87, [.ref (9), .ref a1, .int v2, .int v3, .int x1], [.int (1 : Int32), .int (v2 - (1 : Int32)), .ref (9 + 2)], mk b S)) rfl rfl ?_
              exact mfor (L' := [.ref (9), .ref a1, .int v2, .int v3, .retAddr 0]) ⟨Or.inr rfl, Or.inr rfl, Or.inr rfl, Or.inr rfl, Or.inl rfl, trivial⟩ (bX0_work_87_9 C hr hk ih hf true)
            · rw [if_neg hc] at hf ⊢
              refine msegT C kX0_work 47 1 (g := (true, 87, [.ref (9), .ref a1, .int v2, .int v3, .int x1], [.int (0 : Int32), .int (v2 - (1 : Int32)), .ref (9 + 2)], mk b S)) rfl rfl ?_
              exact mfor (L' := [.ref (9), .ref a1, .int v2, .int v3, .retAddr 0]) ⟨Or.inr rfl, Or.inr rfl, Or.inr rfl, Or.inr rfl, Or.inl rfl, trivial⟩ (bX0_work_87_9 C hr hk ih hf true)
        · rw [if_neg hc] at hf ⊢
          refine msegT C kX0_work 50 3 (g := (true, (if v2 ≤ (1 : Int32) then 130 else 96), [.ref (9), .ref a1, .int v2, .int v3, .int x1], [], mk b S)) rfl rfl ?_
          by_cases hc : v2 ≤ (1 : Int32)
          · rw [if_pos hc] at hf ⊢
            exact mfor (L' := [.ref (9), .ref a1, .int v2, .int v3, .retAddr 0]) ⟨Or.inr rfl, Or.inr rfl, Or.inr rfl, Or.inr rfl, Or.inl rfl, trivial⟩ (bX0_work_130_9 C hr hk ih hf true)
          · rw [if_neg hc] at hf ⊢
            refine msegT C kX0_work 53 1 (g := (true, 99, [.ref (9), .ref a1, .int (v2 + (-1 : Int32)), .int v3, .int x1], [], mk b S)) rfl rfl ?_
            obtain ⟨x2, ex2, hf⟩ := bnd_ex hf
            rw [← ex2]
            obtain ⟨hok, hf⟩ := grd_ex hf
            refine msegT C kX0_work 54 18 (g := ((kI (9 + 2) x2 && (kO 9 0 && (kI (9 + 2) (x2 - (1 : Int32)) && (kO 9 0 && (kO 9 0 && true))))), 126, [.ref (9), .ref a1, .int x2, .int v3, .int x1], [.int (S.1 (9 + 2) (mIx x2)), .int (S.1 (9 + 2) (mIx (x2 - (1 : Int32)))), .int (x1 - (20000 : Int32)), .int (x2 - (1 : Int32)), .ref (9 + 2)], mk b S)) rfl hok ?_
            obtain ⟨x4, S3, hq, hf⟩ := bndC_ex hf
            refine mcall (kd := 1) (vs := [.int (x1 - (20000 : Int32)), .int (S.1 (9 + 2) (mIx (x2 - (1 : Int32)))), .int (S.1 (9 + 2) (mIx x2))]) (rest := [.int (x2 - (1 : Int32)), .ref (9 + 2)]) (r := (some (.int x4))) (h' := mk b S3) (ok' := true) C lkRX0_33 (qX0_join hq) (kX0_work _ (List.mem_of_getElem? (i := 72) rfl)).1 rfl (Nat.le_of_ble_eq_true rfl) (Nat.le_of_ble_eq_true rfl) (Nat.le_refl _) (Nat.le_refl _) (Nat.le_of_ble_eq_true rfl) ?_
            obtain ⟨hok, hf⟩ := grd_ex hf
            refine msegT C kX0_work 73 1 (g := ((kI (9 + 2) (x2 - (1 : Int32)) && true), 130, [.ref (9), .ref a1, .int x2, .int v3, .int x1], [], mk b (sI S3 (9 + 2) (mIx (x2 - (1 : Int32))) x4))) rfl hok ?_
            obtain ⟨S5, eS5, hf⟩ := bnd_ex hf
            rw [← eS5]
            exact mfor (L' := [.ref (9), .ref a1, .int x2, .int v3, .retAddr 0]) ⟨Or.inr rfl, Or.inr rfl, Or.inr rfl, Or.inr rfl, Or.inl rfl, trivial⟩ (bX0_work_130_9 C hr hk ih hf true)
      · rw [if_neg hc] at hf ⊢
        refine msegT C kX0_work 16 3 (g := (true, (if (30 : Int32) ≤ v2 then 130 else 34), [.ref (9), .ref a1, .int v2, .int v3, .int x1], [], mk b S)) rfl rfl ?_
        by_cases hc : (30 : Int32) ≤ v2
        · rw [if_pos hc] at hf ⊢
          exact mfor (L' := [.ref (9), .ref a1, .int v2, .int v3, .retAddr 0]) ⟨Or.inr rfl, Or.inr rfl, Or.inr rfl, Or.inr rfl, Or.inl rfl, trivial⟩ (bX0_work_130_9 C hr hk ih hf true)
        · rw [if_neg hc] at hf ⊢
          obtain ⟨hok, hf⟩ := grd_ex hf
          refine msegT C kX0_work 19 5 (g := ((kO 9 0 && true), 42, [.ref (9), .ref a1, .int v2, .int v3, .int x1], [.ref a1, .int x1, .int v2, .ref (9 + 2)], mk b S)) rfl hok ?_
          obtain ⟨x7, S6, hq, hf⟩ := bndC_ex hf
          refine mcall (kd := 1) (vs := [.int x1, .ref a1]) (rest := [.int v2, .ref (9 + 2)]) (r := (some (.int x7))) (h' := mk b S6) (ok' := true) C lkRX0_29 (qX0_leaf hq) (kX0_work _ (List.mem_of_getElem? (i := 24) rfl)).1 rfl (Nat.le_of_ble_eq_true rfl) (Nat.le_of_ble_eq_true rfl) (Nat.le_refl _) (Nat.le_refl _) (Nat.le_of_ble_eq_true rfl) ?_
          obtain ⟨hok, hf⟩ := grd_ex hf
          refine msegT C kX0_work 25 1 (g := ((kI (9 + 2) v2 && true), 46, [.ref (9), .ref a1, .int v2, .int v3, .int x1], [], mk b (sI S6 (9 + 2) (mIx v2) x7))) rfl hok ?_
          obtain ⟨S8, eS8, hf⟩ := bnd_ex hf
          rw [← eS8]
          refine msegT C kX0_work 26 1 (g := (true, 49, [.ref (9), .ref a1, .int (v2 + (1 : Int32)), .int v3, .int x1], [], mk b S8)) rfl rfl ?_
          obtain ⟨x9, ex9, hf⟩ := bnd_ex hf
          rw [← ex9]
          refine msegT C kX0_work 27 1 (g := (true, 130, [.ref (9), .ref a1, .int x9, .int v3, .int x1], [], mk b S8)) rfl rfl ?_
          exact mfor (L' := [.ref (9), .ref a1, .int x9, .int v3, .retAddr 0]) ⟨Or.inr rfl, Or.inr rfl, Or.inr rfl, Or.inr rfl, Or.inl rfl, trivial⟩ (bX0_work_130_9 C hr hk ih hf true)
theorem bX0_work_0_9 (C : mCx p (mR 2) s m args meth c G cX0_work RX0 5 false 233 54500 233 54500) (hr : meth.sig.returnType = (some .int)) (hk : meth.locks = false) {b : Bool} {a1 : Nat} {S' : mT} {r : Int32} {S : mT} (hf : fX0_work 9 a1 S = some (r, S')) (ok : Bool) : mW p l e (mR 2) s m args below meth c G 5 233 54500 (mQ below G args s b S' (some (.int r))) (ok, 0, [.ref (9), .ref a1, .retAddr 0, .retAddr 0, .retAddr 0], [], mk b S) := by
  unfold fX0_work at hf
  refine msegT C kX0_work 0 4 (g := (true, 4, [.ref (9), .ref a1, .int (0 : Int32), .int (0 : Int32), .retAddr 0], [], mk b S)) rfl rfl ?_
  exact mfor (L' := [.ref (9), .ref a1, .int (0 : Int32), .int (0 : Int32), .retAddr 0]) ⟨Or.inr rfl, Or.inr rfl, Or.inr rfl, Or.inr rfl, Or.inl rfl, trivial⟩ (bX0_work_4_9 C hr hk _ _ _ _ hf true)
theorem qX0_work_9 {b : Bool} {a1 : Nat} {S S' : mT} {r : Int32} (hf : fX0_work 9 a1 S = some (r, S')) : mOk l mX0_work 2 [.ref (9), .ref a1] b S (some (.int r)) S' :=
  gMet (by decide) (Nat.le_of_ble_eq_true rfl) rfl (Nat.le_of_ble_eq_true rfl) (fun p e s m args below meth c G C hr hk => bX0_work_0_9 C hr hk hf true)
theorem bX0_work_130_25 (C : mCx p (mR 2) s m args meth c G cX0_work RX0 5 false 233 54500 233 54500) (hr : meth.sig.returnType = (some .int)) (hk : meth.locks = false) {b : Bool} {a1 : Nat} {S' : mT} {r : Int32} {rc4 : Int32 → Int32 → mT → Option (Int32 × mT)} (Hrc4 : ∀ (v2 : Int32) (v3 : Int32) (S : mT), rc4 v2 v3 S = some (r, S') → ∀ ok : Bool, mW p l e (mR 2) s m args below meth c G 5 233 54500 (mQ below G args s b S' (some (.int r))) (ok, 4, [.ref (25), .ref a1, .int v2, .int v3, .retAddr 0], [], mk b S)) {v2 : Int32} {v3 : Int32} {S : mT} (hf : fX0_work_130 25 a1 rc4 v2 v3 S = some (r, S')) (ok : Bool) : mW p l e (mR 2) s m args below meth c G 5 233 54500 (mQ below G args s b S' (some (.int r))) (ok, 130, [.ref (25), .ref a1, .int v2, .int v3, .retAddr 0], [], mk b S) := by
  unfold fX0_work_130 at hf
  refine msegT C kX0_work 74 1 (g := (true, 133, [.ref (25), .ref a1, .int v2, .int (v3 + (1 : Int32)), .retAddr 0], [], mk b S)) rfl rfl ?_
  obtain ⟨x10, ex10, hf⟩ := bnd_ex hf
  rw [← ex10]
  refine msegT C kX0_work 75 1 (g := (true, 4, [.ref (25), .ref a1, .int v2, .int x10, .retAddr 0], [], mk b S)) rfl rfl ?_
  exact mfor (L' := [.ref (25), .ref a1, .int v2, .int x10, .retAddr 0]) ⟨Or.inr rfl, Or.inr rfl, Or.inr rfl, Or.inr rfl, Or.inl rfl, trivial⟩ (Hrc4 _ _ _ hf true)
theorem bX0_work_87_25 (C : mCx p (mR 2) s m args meth c G cX0_work RX0 5 false 233 54500 233 54500) (hr : meth.sig.returnType = (some .int)) (hk : meth.locks = false) {b : Bool} {a1 : Nat} {S' : mT} {r : Int32} {rc4 : Int32 → Int32 → mT → Option (Int32 × mT)} (Hrc4 : ∀ (v2 : Int32) (v3 : Int32) (S : mT), rc4 v2 v3 S = some (r, S') → ∀ ok : Bool, mW p l e (mR 2) s m args below meth c G 5 233 54500 (mQ below G args s b S' (some (.int r))) (ok, 4, [.ref (25), .ref a1, .int v2, .int v3, .retAddr 0], [], mk b S)) {v2 : Int32} {v3 : Int32} {s0 : Int32} {s1 : Int32} {S : mT} (hf : fX0_work_87 25 a1 rc4 v2 v3 s0 s1 S = some (r, S')) (ok : Bool) : mW p l e (mR 2) s m args below meth c G 5 233 54500 (mQ below G args s b S' (some (.int r))) (ok, 87, [.ref (25), .ref a1, .int v2, .int v3, .retAddr 0], [.int s0, .int s1, .ref (25 + 2)], mk b S) := by
  unfold fX0_work_87 at hf
  obtain ⟨hok, hf⟩ := grd_ex hf
  refine msegT C kX0_work 48 1 (g := ((kI (25 + 2) s1 && true), 88, [.ref (25), .ref a1, .int v2, .int v3, .retAddr 0], [], mk b (sI S (25 + 2) (mIx s1) s0))) rfl hok ?_
  obtain ⟨S11, eS11, hf⟩ := bnd_ex hf
  rw [← eS11]
  refine msegT C kX0_work 49 1 (g := (true, 130, [.ref (25), .ref a1, .int v2, .int v3, .retAddr 0], [], mk b S11)) rfl rfl ?_
  exact mfor (L' := [.ref (25), .ref a1, .int v2, .int v3, .retAddr 0]) ⟨Or.inr rfl, Or.inr rfl, Or.inr rfl, Or.inr rfl, Or.inl rfl, trivial⟩ (bX0_work_130_25 C hr hk Hrc4 hf true)
theorem bX0_work_152_25 (C : mCx p (mR 2) s m args meth c G cX0_work RX0 5 false 233 54500 233 54500) (hr : meth.sig.returnType = (some .int)) (hk : meth.locks = false) {b : Bool} {a1 : Nat} {S' : mT} {r : Int32} {s0 : Int32} {S : mT} (hf : fX0_work_152 25 a1 s0 S = some (r, S')) (ok : Bool) : mW p l e (mR 2) s m args below meth c G 5 233 54500 (mQ below G args s b S' (some (.int r))) (ok, 152, [.retAddr 0, .retAddr 0, .retAddr 0, .retAddr 0, .retAddr 0], [.int s0], mk b S) := by
  unfold fX0_work_152 at hf
  cases hf
  exact gret_i C hr hk (kX0_work _ (List.mem_of_getElem? (i := 86) rfl)).1
theorem bX0_work_4_25 (C : mCx p (mR 2) s m args meth c G cX0_work RX0 5 false 233 54500 233 54500) (hr : meth.sig.returnType = (some .int)) (hk : meth.locks = false) {b : Bool} {a1 : Nat} {S' : mT} {r : Int32} : ∀ (k : Nat) (v2 : Int32) (v3 : Int32) (S : mT), fX0_work_4 25 a1 k v2 v3 S = some (r, S') → ∀ ok : Bool, mW p l e (mR 2) s m args below meth c G 5 233 54500 (mQ below G args s b S' (some (.int r))) (ok, 4, [.ref (25), .ref a1, .int v2, .int v3, .retAddr 0], [], mk b S) := by
  intro k
  induction k with
  | zero =>
    intro v2 v3 S hf ok
    cases hf
  | succ k ih =>
    intro v2 v3 S hf ok
    unfold fX0_work_4 at hf
    obtain ⟨hok, hf⟩ := grd_ex hf
    refine msegT C kX0_work 4 4 (g := ((kO 25 0 && true), (if (S.1 25 2) ≤ v3 then 136 else 12), [.ref (25), .ref a1, .int v2, .int v3, .retAddr 0], [], mk b S)) rfl hok ?_
    by_cases hc : (S.1 25 2) ≤ v3
    · rw [if_pos hc] at hf ⊢
      refine msegT C kX0_work 76 2 (g := (true, (if v2 ≤ 0 then 151 else 140), [.ref (25), .ref a1, .int v2, .int v3, .retAddr 0], [], mk b S)) rfl rfl ?_
      by_cases hc : v2 ≤ 0
      · rw [if_pos hc] at hf ⊢
        refine msegT C kX0_work 85 1 (g := (true, 152, [.ref (25), .ref a1, .int v2, .int v3, .retAddr 0], [.int (0 : Int32)], mk b S)) rfl rfl ?_
        exact mfor (L' := [.retAddr 0, .retAddr 0, .retAddr 0, .retAddr 0, .retAddr 0]) ⟨Or.inl rfl, Or.inl rfl, Or.inl rfl, Or.inl rfl, Or.inl rfl, trivial⟩ (bX0_work_152_25 C hr hk hf true)
      · rw [if_neg hc] at hf ⊢
        obtain ⟨hok, hf⟩ := grd_ex hf
        refine msegT C kX0_work 78 7 (g := ((kI (25 + 2) (v2 - (1 : Int32)) && (kO 25 0 && true)), 152, [.ref (25), .ref a1, .int v2, .int v3, .retAddr 0], [.int (S.1 (25 + 2) (mIx (v2 - (1 : Int32))))], mk b S)) rfl hok ?_
        exact mfor (L' := [.retAddr 0, .retAddr 0, .retAddr 0, .retAddr 0, .retAddr 0]) ⟨Or.inl rfl, Or.inl rfl, Or.inl rfl, Or.inl rfl, Or.inl rfl, trivial⟩ (bX0_work_152_25 C hr hk hf true)
    · rw [if_neg hc] at hf ⊢
      obtain ⟨hok, hf⟩ := grd_ex hf
      refine msegT C kX0_work 8 5 (g := ((kI (25 + 1) v3 && (kO 25 0 && true)), 20, [.ref (25), .ref a1, .int v2, .int v3, .int (S.1 (25 + 1) (mIx v3))], [], mk b S)) rfl hok ?_
      obtain ⟨x1, ex1, hf⟩ := bnd_ex hf
      rw [← ex1]
      refine msegT C kX0_work 13 3 (g := (true, (if (20000 : Int32) ≤ x1 then 52 else 28), [.ref (25), .ref a1, .int v2, .int v3, .int x1], [], mk b S)) rfl rfl ?_
      by_cases hc : (20000 : Int32) ≤ x1
      · rw [if_pos hc] at hf ⊢
        refine msegT C kX0_work 28 3 (g := (true, (if x1 = (20033 : Int32) then 60 else 91), [.ref (25), .ref a1, .int v2, .int v3, .int x1], [], mk b S)) rfl rfl ?_
        by_cases hc : x1 = (20033 : Int32)
        · rw [if_pos hc] at hf ⊢
          refine msegT C kX0_work 31 2 (g := (true, (if v2 ≤ 0 then 130 else 64), [.ref (25), .ref a1, .int v2, .int v3, .int x1], [], mk b S)) rfl rfl ?_
          by_cases hc : v2 ≤ 0
          · rw [if_pos hc] at hf ⊢
            exact mfor (L' := [.ref (25), .ref a1, .int v2, .int v3, .retAddr 0]) ⟨Or.inr rfl, Or.inr rfl, Or.inr rfl, Or.inr rfl, Or.inl rfl, trivial⟩ (bX0_work_130_25 C hr hk ih hf true)
          · rw [if_neg hc] at hf ⊢
            obtain ⟨hok, hf⟩ := grd_ex hf
            refine msegT C kX0_work 33 12 (g := ((kI (25 + 2) (v2 - (1 : Int32)) && (kO 25 0 && (kO 25 0 && true))), (if (S.1 (25 + 2) (mIx (v2 - (1 : Int32)))) = 0 then 82 else 86), [.ref (25), .ref a1, .int v2, .int v3, .int x1], [.int (v2 - (1 : Int32)), .ref (25 + 2)], mk b S)) rfl hok ?_
            by_cases hc : (S.1 (25 + 2) (mIx (v2 - (1 : Int32)))) = 0
            · rw [if_pos hc] at hf ⊢
              refine msegT C kX0_work 45 2 (g := (true, 87, [.ref (25), .ref a1, .int v2, .int v3, .int x1], [.int (1 : Int32), .int (v2 - (1 : Int32)), .ref (25 + 2)], mk b S)) rfl rfl ?_
              exact mfor (L' := [.ref (25), .ref a1, .int v2, .int v3, .retAddr 0]) ⟨Or.inr rfl, Or.inr rfl, Or.inr rfl, Or.inr rfl, Or.inl rfl, trivial⟩ (bX0_work_87_25 C hr hk ih hf true)
            · rw [if_neg hc] at hf ⊢
              refine msegT C kX0_work 47 1 (g := (true, 87, [.ref (25), .ref a1, .int v2, .int v3, .int x1], [.int (0 : Int32), .int (v2 - (1 : Int32)), .ref (25 + 2)], mk b S)) rfl rfl ?_
              exact mfor (L' := [.ref (25), .ref a1, .int v2, .int v3, .retAddr 0]) ⟨Or.inr rfl, Or.inr rfl, Or.inr rfl, Or.inr rfl, Or.inl rfl, trivial⟩ (bX0_work_87_25 C hr hk ih hf true)
        · rw [if_neg hc] at hf ⊢
          refine msegT C kX0_work 50 3 (g := (true, (if v2 ≤ (1 : Int32) then 130 else 96), [.ref (25), .ref a1, .int v2, .int v3, .int x1], [], mk b S)) rfl rfl ?_
          by_cases hc : v2 ≤ (1 : Int32)
          · rw [if_pos hc] at hf ⊢
            exact mfor (L' := [.ref (25), .ref a1, .int v2, .int v3, .retAddr 0]) ⟨Or.inr rfl, Or.inr rfl, Or.inr rfl, Or.inr rfl, Or.inl rfl, trivial⟩ (bX0_work_130_25 C hr hk ih hf true)
          · rw [if_neg hc] at hf ⊢
            refine msegT C kX0_work 53 1 (g := (true, 99, [.ref (25), .ref a1, .int (v2 + (-1 : Int32)), .int v3, .int x1], [], mk b S)) rfl rfl ?_
            obtain ⟨x2, ex2, hf⟩ := bnd_ex hf
            rw [← ex2]
            obtain ⟨hok, hf⟩ := grd_ex hf
            refine msegT C kX0_work 54 18 (g := ((kI (25 + 2) x2 && (kO 25 0 && (kI (25 + 2) (x2 - (1 : Int32)) && (kO 25 0 && (kO 25 0 && true))))), 126, [.ref (25), .ref a1, .int x2, .int v3, .int x1], [.int (S.1 (25 + 2) (mIx x2)), .int (S.1 (25 + 2) (mIx (x2 - (1 : Int32)))), .int (x1 - (20000 : Int32)), .int (x2 - (1 : Int32)), .ref (25 + 2)], mk b S)) rfl hok ?_
            obtain ⟨x4, S3, hq, hf⟩ := bndC_ex hf
            refine mcall (kd := 1) (vs := [.int (x1 - (20000 : Int32)), .int (S.1 (25 + 2) (mIx (x2 - (1 : Int32)))), .int (S.1 (25 + 2) (mIx x2))]) (rest := [.int (x2 - (1 : Int32)), .ref (25 + 2)]) (r := (some (.int x4))) (h' := mk b S3) (ok' := true) C lkRX0_33 (qX0_join hq) (kX0_work _ (List.mem_of_getElem? (i := 72) rfl)).1 rfl (Nat.le_of_ble_eq_true rfl) (Nat.le_of_ble_eq_true rfl) (Nat.le_refl _) (Nat.le_refl _) (Nat.le_of_ble_eq_true rfl) ?_
            obtain ⟨hok, hf⟩ := grd_ex hf
            refine msegT C kX0_work 73 1 (g := ((kI (25 + 2) (x2 - (1 : Int32)) && true), 130, [.ref (25), .ref a1, .int x2, .int v3, .int x1], [], mk b (sI S3 (25 + 2) (mIx (x2 - (1 : Int32))) x4))) rfl hok ?_
            obtain ⟨S5, eS5, hf⟩ := bnd_ex hf
            rw [← eS5]
            exact mfor (L' := [.ref (25), .ref a1, .int x2, .int v3, .retAddr 0]) ⟨Or.inr rfl, Or.inr rfl, Or.inr rfl, Or.inr rfl, Or.inl rfl, trivial⟩ (bX0_work_130_25 C hr hk ih hf true)
      · rw [if_neg hc] at hf ⊢
        refine msegT C kX0_work 16 3 (g := (true, (if (30 : Int32) ≤ v2 then 130 else 34), [.ref (25), .ref a1, .int v2, .int v3, .int x1], [], mk b S)) rfl rfl ?_
        by_cases hc : (30 : Int32) ≤ v2
        · rw [if_pos hc] at hf ⊢
          exact mfor (L' := [.ref (25), .ref a1, .int v2, .int v3, .retAddr 0]) ⟨Or.inr rfl, Or.inr rfl, Or.inr rfl, Or.inr rfl, Or.inl rfl, trivial⟩ (bX0_work_130_25 C hr hk ih hf true)
        · rw [if_neg hc] at hf ⊢
          obtain ⟨hok, hf⟩ := grd_ex hf
          refine msegT C kX0_work 19 5 (g := ((kO 25 0 && true), 42, [.ref (25), .ref a1, .int v2, .int v3, .int x1], [.ref a1, .int x1, .int v2, .ref (25 + 2)], mk b S)) rfl hok ?_
          obtain ⟨x7, S6, hq, hf⟩ := bndC_ex hf
          refine mcall (kd := 1) (vs := [.int x1, .ref a1]) (rest := [.int v2, .ref (25 + 2)]) (r := (some (.int x7))) (h' := mk b S6) (ok' := true) C lkRX0_29 (qX0_leaf hq) (kX0_work _ (List.mem_of_getElem? (i := 24) rfl)).1 rfl (Nat.le_of_ble_eq_true rfl) (Nat.le_of_ble_eq_true rfl) (Nat.le_refl _) (Nat.le_refl _) (Nat.le_of_ble_eq_true rfl) ?_
          obtain ⟨hok, hf⟩ := grd_ex hf
          refine msegT C kX0_work 25 1 (g := ((kI (25 + 2) v2 && true), 46, [.ref (25), .ref a1, .int v2, .int v3, .int x1], [], mk b (sI S6 (25 + 2) (mIx v2) x7))) rfl hok ?_
          obtain ⟨S8, eS8, hf⟩ := bnd_ex hf
          rw [← eS8]
          refine msegT C kX0_work 26 1 (g := (true, 49, [.ref (25), .ref a1, .int (v2 + (1 : Int32)), .int v3, .int x1], [], mk b S8)) rfl rfl ?_
          obtain ⟨x9, ex9, hf⟩ := bnd_ex hf
          rw [← ex9]
          refine msegT C kX0_work 27 1 (g := (true, 130, [.ref (25), .ref a1, .int x9, .int v3, .int x1], [], mk b S8)) rfl rfl ?_
          exact mfor (L' := [.ref (25), .ref a1, .int x9, .int v3, .retAddr 0]) ⟨Or.inr rfl, Or.inr rfl, Or.inr rfl, Or.inr rfl, Or.inl rfl, trivial⟩ (bX0_work_130_25 C hr hk ih hf true)
theorem bX0_work_0_25 (C : mCx p (mR 2) s m args meth c G cX0_work RX0 5 false 233 54500 233 54500) (hr : meth.sig.returnType = (some .int)) (hk : meth.locks = false) {b : Bool} {a1 : Nat} {S' : mT} {r : Int32} {S : mT} (hf : fX0_work 25 a1 S = some (r, S')) (ok : Bool) : mW p l e (mR 2) s m args below meth c G 5 233 54500 (mQ below G args s b S' (some (.int r))) (ok, 0, [.ref (25), .ref a1, .retAddr 0, .retAddr 0, .retAddr 0], [], mk b S) := by
  unfold fX0_work at hf
  refine msegT C kX0_work 0 4 (g := (true, 4, [.ref (25), .ref a1, .int (0 : Int32), .int (0 : Int32), .retAddr 0], [], mk b S)) rfl rfl ?_
  exact mfor (L' := [.ref (25), .ref a1, .int (0 : Int32), .int (0 : Int32), .retAddr 0]) ⟨Or.inr rfl, Or.inr rfl, Or.inr rfl, Or.inr rfl, Or.inl rfl, trivial⟩ (bX0_work_4_25 C hr hk _ _ _ _ hf true)
theorem qX0_work_25 {b : Bool} {a1 : Nat} {S S' : mT} {r : Int32} (hf : fX0_work 25 a1 S = some (r, S')) : mOk l mX0_work 2 [.ref (25), .ref a1] b S (some (.int r)) S' :=
  gMet (by decide) (Nat.le_of_ble_eq_true rfl) rfl (Nat.le_of_ble_eq_true rfl) (fun p e s m args below meth c G C hr hk => bX0_work_0_25 C hr hk hf true)
theorem bX0_work_130_15 (C : mCx p (mR 2) s m args meth c G cX0_work RX0 5 false 233 54500 233 54500) (hr : meth.sig.returnType = (some .int)) (hk : meth.locks = false) {b : Bool} {a1 : Nat} {S' : mT} {r : Int32} {rc4 : Int32 → Int32 → mT → Option (Int32 × mT)} (Hrc4 : ∀ (v2 : Int32) (v3 : Int32) (S : mT), rc4 v2 v3 S = some (r, S') → ∀ ok : Bool, mW p l e (mR 2) s m args below meth c G 5 233 54500 (mQ below G args s b S' (some (.int r))) (ok, 4, [.ref (15), .ref a1, .int v2, .int v3, .retAddr 0], [], mk b S)) {v2 : Int32} {v3 : Int32} {S : mT} (hf : fX0_work_130 15 a1 rc4 v2 v3 S = some (r, S')) (ok : Bool) : mW p l e (mR 2) s m args below meth c G 5 233 54500 (mQ below G args s b S' (some (.int r))) (ok, 130, [.ref (15), .ref a1, .int v2, .int v3, .retAddr 0], [], mk b S) := by
  unfold fX0_work_130 at hf
  refine msegT C kX0_work 74 1 (g := (true, 133, [.ref (15), .ref a1, .int v2, .int (v3 + (1 : Int32)), .retAddr 0], [], mk b S)) rfl rfl ?_
  obtain ⟨x10, ex10, hf⟩ := bnd_ex hf
  rw [← ex10]
  refine msegT C kX0_work 75 1 (g := (true, 4, [.ref (15), .ref a1, .int v2, .int x10, .retAddr 0], [], mk b S)) rfl rfl ?_
  exact mfor (L' := [.ref (15), .ref a1, .int v2, .int x10, .retAddr 0]) ⟨Or.inr rfl, Or.inr rfl, Or.inr rfl, Or.inr rfl, Or.inl rfl, trivial⟩ (Hrc4 _ _ _ hf true)
theorem bX0_work_87_15 (C : mCx p (mR 2) s m args meth c G cX0_work RX0 5 false 233 54500 233 54500) (hr : meth.sig.returnType = (some .int)) (hk : meth.locks = false) {b : Bool} {a1 : Nat} {S' : mT} {r : Int32} {rc4 : Int32 → Int32 → mT → Option (Int32 × mT)} (Hrc4 : ∀ (v2 : Int32) (v3 : Int32) (S : mT), rc4 v2 v3 S = some (r, S') → ∀ ok : Bool, mW p l e (mR 2) s m args below meth c G 5 233 54500 (mQ below G args s b S' (some (.int r))) (ok, 4, [.ref (15), .ref a1, .int v2, .int v3, .retAddr 0], [], mk b S)) {v2 : Int32} {v3 : Int32} {s0 : Int32} {s1 : Int32} {S : mT} (hf : fX0_work_87 15 a1 rc4 v2 v3 s0 s1 S = some (r, S')) (ok : Bool) : mW p l e (mR 2) s m args below meth c G 5 233 54500 (mQ below G args s b S' (some (.int r))) (ok, 87, [.ref (15), .ref a1, .int v2, .int v3, .retAddr 0], [.int s0, .int s1, .ref (15 + 2)], mk b S) := by
  unfold fX0_work_87 at hf
  obtain ⟨hok, hf⟩ := grd_ex hf
  refine msegT C kX0_work 48 1 (g := ((kI (15 + 2) s1 && true), 88, [.ref (15), .ref a1, .int v2, .int v3, .retAddr 0], [], mk b (sI S (15 + 2) (mIx s1) s0))) rfl hok ?_
  obtain ⟨S11, eS11, hf⟩ := bnd_ex hf
  rw [← eS11]
  refine msegT C kX0_work 49 1 (g := (true, 130, [.ref (15), .ref a1, .int v2, .int v3, .retAddr 0], [], mk b S11)) rfl rfl ?_
  exact mfor (L' := [.ref (15), .ref a1, .int v2, .int v3, .retAddr 0]) ⟨Or.inr rfl, Or.inr rfl, Or.inr rfl, Or.inr rfl, Or.inl rfl, trivial⟩ (bX0_work_130_15 C hr hk Hrc4 hf true)
theorem bX0_work_152_15 (C : mCx p (mR 2) s m args meth c G cX0_work RX0 5 false 233 54500 233 54500) (hr : meth.sig.returnType = (some .int)) (hk : meth.locks = false) {b : Bool} {a1 : Nat} {S' : mT} {r : Int32} {s0 : Int32} {S : mT} (hf : fX0_work_152 15 a1 s0 S = some (r, S')) (ok : Bool) : mW p l e (mR 2) s m args below meth c G 5 233 54500 (mQ below G args s b S' (some (.int r))) (ok, 152, [.retAddr 0, .retAddr 0, .retAddr 0, .retAddr 0, .retAddr 0], [.int s0], mk b S) := by
  unfold fX0_work_152 at hf
  cases hf
  exact gret_i C hr hk (kX0_work _ (List.mem_of_getElem? (i := 86) rfl)).1
theorem bX0_work_4_15 (C : mCx p (mR 2) s m args meth c G cX0_work RX0 5 false 233 54500 233 54500) (hr : meth.sig.returnType = (some .int)) (hk : meth.locks = false) {b : Bool} {a1 : Nat} {S' : mT} {r : Int32} : ∀ (k : Nat) (v2 : Int32) (v3 : Int32) (S : mT), fX0_work_4 15 a1 k v2 v3 S = some (r, S') → ∀ ok : Bool, mW p l e (mR 2) s m args below meth c G 5 233 54500 (mQ below G args s b S' (some (.int r))) (ok, 4, [.ref (15), .ref a1, .int v2, .int v3, .retAddr 0], [], mk b S) := by
  intro k
  induction k with
  | zero =>
    intro v2 v3 S hf ok
    cases hf
  | succ k ih =>
    intro v2 v3 S hf ok
    unfold fX0_work_4 at hf
    obtain ⟨hok, hf⟩ := grd_ex hf
    refine msegT C kX0_work 4 4 (g := ((kO 15 0 && true), (if (S.1 15 2) ≤ v3 then 136 else 12), [.ref (15), .ref a1, .int v2, .int v3, .retAddr 0], [], mk b S)) rfl hok ?_
    by_cases hc : (S.1 15 2) ≤ v3
    · rw [if_pos hc] at hf ⊢
      refine msegT C kX0_work 76 2 (g := (true, (if v2 ≤ 0 then 151 else 140), [.ref (15), .ref a1, .int v2, .int v3, .retAddr 0], [], mk b S)) rfl rfl ?_
      by_cases hc : v2 ≤ 0
      · rw [if_pos hc] at hf ⊢
        refine msegT C kX0_work 85 1 (g := (true, 152, [.ref (15), .ref a1, .int v2, .int v3, .retAddr 0], [.int (0 : Int32)], mk b S)) rfl rfl ?_
        exact mfor (L' := [.retAddr 0, .retAddr 0, .retAddr 0, .retAddr 0, .retAddr 0]) ⟨Or.inl rfl, Or.inl rfl, Or.inl rfl, Or.inl rfl, Or.inl rfl, trivial⟩ (bX0_work_152_15 C hr hk hf true)
      · rw [if_neg hc] at hf ⊢
        obtain ⟨hok, hf⟩ := grd_ex hf
        refine msegT C kX0_work 78 7 (g := ((kI (15 + 2) (v2 - (1 : Int32)) && (kO 15 0 && true)), 152, [.ref (15), .ref a1, .int v2, .int v3, .retAddr 0], [.int (S.1 (15 + 2) (mIx (v2 - (1 : Int32))))], mk b S)) rfl hok ?_
        exact mfor (L' := [.retAddr 0, .retAddr 0, .retAddr 0, .retAddr 0, .retAddr 0]) ⟨Or.inl rfl, Or.inl rfl, Or.inl rfl, Or.inl rfl, Or.inl rfl, trivial⟩ (bX0_work_152_15 C hr hk hf true)
    · rw [if_neg hc] at hf ⊢
      obtain ⟨hok, hf⟩ := grd_ex hf
      refine msegT C kX0_work 8 5 (g := ((kI (15 + 1) v3 && (kO 15 0 && true)), 20, [.ref (15), .ref a1, .int v2, .int v3, .int (S.1 (15 + 1) (mIx v3))], [], mk b S)) rfl hok ?_
      obtain ⟨x1, ex1, hf⟩ := bnd_ex hf
      rw [← ex1]
      refine msegT C kX0_work 13 3 (g := (true, (if (20000 : Int32) ≤ x1 then 52 else 28), [.ref (15), .ref a1, .int v2, .int v3, .int x1], [], mk b S)) rfl rfl ?_
      by_cases hc : (20000 : Int32) ≤ x1
      · rw [if_pos hc] at hf ⊢
        refine msegT C kX0_work 28 3 (g := (true, (if x1 = (20033 : Int32) then 60 else 91), [.ref (15), .ref a1, .int v2, .int v3, .int x1], [], mk b S)) rfl rfl ?_
        by_cases hc : x1 = (20033 : Int32)
        · rw [if_pos hc] at hf ⊢
          refine msegT C kX0_work 31 2 (g := (true, (if v2 ≤ 0 then 130 else 64), [.ref (15), .ref a1, .int v2, .int v3, .int x1], [], mk b S)) rfl rfl ?_
          by_cases hc : v2 ≤ 0
          · rw [if_pos hc] at hf ⊢
            exact mfor (L' := [.ref (15), .ref a1, .int v2, .int v3, .retAddr 0]) ⟨Or.inr rfl, Or.inr rfl, Or.inr rfl, Or.inr rfl, Or.inl rfl, trivial⟩ (bX0_work_130_15 C hr hk ih hf true)
          · rw [if_neg hc] at hf ⊢
            obtain ⟨hok, hf⟩ := grd_ex hf
            refine msegT C kX0_work 33 12 (g := ((kI (15 + 2) (v2 - (1 : Int32)) && (kO 15 0 && (kO 15 0 && true))), (if (S.1 (15 + 2) (mIx (v2 - (1 : Int32)))) = 0 then 82 else 86), [.ref (15), .ref a1, .int v2, .int v3, .int x1], [.int (v2 - (1 : Int32)), .ref (15 + 2)], mk b S)) rfl hok ?_
            by_cases hc : (S.1 (15 + 2) (mIx (v2 - (1 : Int32)))) = 0
            · rw [if_pos hc] at hf ⊢
              refine msegT C kX0_work 45 2 (g := (true, 87, [.ref (15), .ref a1, .int v2, .int v3, .int x1], [.int (1 : Int32), .int (v2 - (1 : Int32)), .ref (15 + 2)], mk b S)) rfl rfl ?_
              exact mfor (L' := [.ref (15), .ref a1, .int v2, .int v3, .retAddr 0]) ⟨Or.inr rfl, Or.inr rfl, Or.inr rfl, Or.inr rfl, Or.inl rfl, trivial⟩ (bX0_work_87_15 C hr hk ih hf true)
            · rw [if_neg hc] at hf ⊢
              refine msegT C kX0_work 47 1 (g := (true, 87, [.ref (15), .ref a1, .int v2, .int v3, .int x1], [.int (0 : Int32), .int (v2 - (1 : Int32)), .ref (15 + 2)], mk b S)) rfl rfl ?_
              exact mfor (L' := [.ref (15), .ref a1, .int v2, .int v3, .retAddr 0]) ⟨Or.inr rfl, Or.inr rfl, Or.inr rfl, Or.inr rfl, Or.inl rfl, trivial⟩ (bX0_work_87_15 C hr hk ih hf true)
        · rw [if_neg hc] at hf ⊢
          refine msegT C kX0_work 50 3 (g := (true, (if v2 ≤ (1 : Int32) then 130 else 96), [.ref (15), .ref a1, .int v2, .int v3, .int x1], [], mk b S)) rfl rfl ?_
          by_cases hc : v2 ≤ (1 : Int32)
          · rw [if_pos hc] at hf ⊢
            exact mfor (L' := [.ref (15), .ref a1, .int v2, .int v3, .retAddr 0]) ⟨Or.inr rfl, Or.inr rfl, Or.inr rfl, Or.inr rfl, Or.inl rfl, trivial⟩ (bX0_work_130_15 C hr hk ih hf true)
          · rw [if_neg hc] at hf ⊢
            refine msegT C kX0_work 53 1 (g := (true, 99, [.ref (15), .ref a1, .int (v2 + (-1 : Int32)), .int v3, .int x1], [], mk b S)) rfl rfl ?_
            obtain ⟨x2, ex2, hf⟩ := bnd_ex hf
            rw [← ex2]
            obtain ⟨hok, hf⟩ := grd_ex hf
            refine msegT C kX0_work 54 18 (g := ((kI (15 + 2) x2 && (kO 15 0 && (kI (15 + 2) (x2 - (1 : Int32)) && (kO 15 0 && (kO 15 0 && true))))), 126, [.ref (15), .ref a1, .int x2, .int v3, .int x1], [.int (S.1 (15 + 2) (mIx x2)), .int (S.1 (15 + 2) (mIx (x2 - (1 : Int32)))), .int (x1 - (20000 : Int32)), .int (x2 - (1 : Int32)), .ref (15 + 2)], mk b S)) rfl hok ?_
            obtain ⟨x4, S3, hq, hf⟩ := bndC_ex hf
            refine mcall (kd := 1) (vs := [.int (x1 - (20000 : Int32)), .int (S.1 (15 + 2) (mIx (x2 - (1 : Int32)))), .int (S.1 (15 + 2) (mIx x2))]) (rest := [.int (x2 - (1 : Int32)), .ref (15 + 2)]) (r := (some (.int x4))) (h' := mk b S3) (ok' := true) C lkRX0_33 (qX0_join hq) (kX0_work _ (List.mem_of_getElem? (i := 72) rfl)).1 rfl (Nat.le_of_ble_eq_true rfl) (Nat.le_of_ble_eq_true rfl) (Nat.le_refl _) (Nat.le_refl _) (Nat.le_of_ble_eq_true rfl) ?_
            obtain ⟨hok, hf⟩ := grd_ex hf
            refine msegT C kX0_work 73 1 (g := ((kI (15 + 2) (x2 - (1 : Int32)) && true), 130, [.ref (15), .ref a1, .int x2, .int v3, .int x1], [], mk b (sI S3 (15 + 2) (mIx (x2 - (1 : Int32))) x4))) rfl hok ?_
            obtain ⟨S5, eS5, hf⟩ := bnd_ex hf
            rw [← eS5]
            exact mfor (L' := [.ref (15), .ref a1, .int x2, .int v3, .retAddr 0]) ⟨Or.inr rfl, Or.inr rfl, Or.inr rfl, Or.inr rfl, Or.inl rfl, trivial⟩ (bX0_work_130_15 C hr hk ih hf true)
      · rw [if_neg hc] at hf ⊢
        refine msegT C kX0_work 16 3 (g := (true, (if (30 : Int32) ≤ v2 then 130 else 34), [.ref (15), .ref a1, .int v2, .int v3, .int x1], [], mk b S)) rfl rfl ?_
        by_cases hc : (30 : Int32) ≤ v2
        · rw [if_pos hc] at hf ⊢
          exact mfor (L' := [.ref (15), .ref a1, .int v2, .int v3, .retAddr 0]) ⟨Or.inr rfl, Or.inr rfl, Or.inr rfl, Or.inr rfl, Or.inl rfl, trivial⟩ (bX0_work_130_15 C hr hk ih hf true)
        · rw [if_neg hc] at hf ⊢
          obtain ⟨hok, hf⟩ := grd_ex hf
          refine msegT C kX0_work 19 5 (g := ((kO 15 0 && true), 42, [.ref (15), .ref a1, .int v2, .int v3, .int x1], [.ref a1, .int x1, .int v2, .ref (15 + 2)], mk b S)) rfl hok ?_
          obtain ⟨x7, S6, hq, hf⟩ := bndC_ex hf
          refine mcall (kd := 1) (vs := [.int x1, .ref a1]) (rest := [.int v2, .ref (15 + 2)]) (r := (some (.int x7))) (h' := mk b S6) (ok' := true) C lkRX0_29 (qX0_leaf hq) (kX0_work _ (List.mem_of_getElem? (i := 24) rfl)).1 rfl (Nat.le_of_ble_eq_true rfl) (Nat.le_of_ble_eq_true rfl) (Nat.le_refl _) (Nat.le_refl _) (Nat.le_of_ble_eq_true rfl) ?_
          obtain ⟨hok, hf⟩ := grd_ex hf
          refine msegT C kX0_work 25 1 (g := ((kI (15 + 2) v2 && true), 46, [.ref (15), .ref a1, .int v2, .int v3, .int x1], [], mk b (sI S6 (15 + 2) (mIx v2) x7))) rfl hok ?_
          obtain ⟨S8, eS8, hf⟩ := bnd_ex hf
          rw [← eS8]
          refine msegT C kX0_work 26 1 (g := (true, 49, [.ref (15), .ref a1, .int (v2 + (1 : Int32)), .int v3, .int x1], [], mk b S8)) rfl rfl ?_
          obtain ⟨x9, ex9, hf⟩ := bnd_ex hf
          rw [← ex9]
          refine msegT C kX0_work 27 1 (g := (true, 130, [.ref (15), .ref a1, .int x9, .int v3, .int x1], [], mk b S8)) rfl rfl ?_
          exact mfor (L' := [.ref (15), .ref a1, .int x9, .int v3, .retAddr 0]) ⟨Or.inr rfl, Or.inr rfl, Or.inr rfl, Or.inr rfl, Or.inl rfl, trivial⟩ (bX0_work_130_15 C hr hk ih hf true)
theorem bX0_work_0_15 (C : mCx p (mR 2) s m args meth c G cX0_work RX0 5 false 233 54500 233 54500) (hr : meth.sig.returnType = (some .int)) (hk : meth.locks = false) {b : Bool} {a1 : Nat} {S' : mT} {r : Int32} {S : mT} (hf : fX0_work 15 a1 S = some (r, S')) (ok : Bool) : mW p l e (mR 2) s m args below meth c G 5 233 54500 (mQ below G args s b S' (some (.int r))) (ok, 0, [.ref (15), .ref a1, .retAddr 0, .retAddr 0, .retAddr 0], [], mk b S) := by
  unfold fX0_work at hf
  refine msegT C kX0_work 0 4 (g := (true, 4, [.ref (15), .ref a1, .int (0 : Int32), .int (0 : Int32), .retAddr 0], [], mk b S)) rfl rfl ?_
  exact mfor (L' := [.ref (15), .ref a1, .int (0 : Int32), .int (0 : Int32), .retAddr 0]) ⟨Or.inr rfl, Or.inr rfl, Or.inr rfl, Or.inr rfl, Or.inl rfl, trivial⟩ (bX0_work_4_15 C hr hk _ _ _ _ hf true)
theorem qX0_work_15 {b : Bool} {a1 : Nat} {S S' : mT} {r : Int32} (hf : fX0_work 15 a1 S = some (r, S')) : mOk l mX0_work 2 [.ref (15), .ref a1] b S (some (.int r)) S' :=
  gMet (by decide) (Nat.le_of_ble_eq_true rfl) rfl (Nat.le_of_ble_eq_true rfl) (fun p e s m args below meth c G C hr hk => bX0_work_0_15 C hr hk hf true)
theorem bX0_work_130_31 (C : mCx p (mR 2) s m args meth c G cX0_work RX0 5 false 233 54500 233 54500) (hr : meth.sig.returnType = (some .int)) (hk : meth.locks = false) {b : Bool} {a1 : Nat} {S' : mT} {r : Int32} {rc4 : Int32 → Int32 → mT → Option (Int32 × mT)} (Hrc4 : ∀ (v2 : Int32) (v3 : Int32) (S : mT), rc4 v2 v3 S = some (r, S') → ∀ ok : Bool, mW p l e (mR 2) s m args below meth c G 5 233 54500 (mQ below G args s b S' (some (.int r))) (ok, 4, [.ref (31), .ref a1, .int v2, .int v3, .retAddr 0], [], mk b S)) {v2 : Int32} {v3 : Int32} {S : mT} (hf : fX0_work_130 31 a1 rc4 v2 v3 S = some (r, S')) (ok : Bool) : mW p l e (mR 2) s m args below meth c G 5 233 54500 (mQ below G args s b S' (some (.int r))) (ok, 130, [.ref (31), .ref a1, .int v2, .int v3, .retAddr 0], [], mk b S) := by
  unfold fX0_work_130 at hf
  refine msegT C kX0_work 74 1 (g := (true, 133, [.ref (31), .ref a1, .int v2, .int (v3 + (1 : Int32)), .retAddr 0], [], mk b S)) rfl rfl ?_
  obtain ⟨x10, ex10, hf⟩ := bnd_ex hf
  rw [← ex10]
  refine msegT C kX0_work 75 1 (g := (true, 4, [.ref (31), .ref a1, .int v2, .int x10, .retAddr 0], [], mk b S)) rfl rfl ?_
  exact mfor (L' := [.ref (31), .ref a1, .int v2, .int x10, .retAddr 0]) ⟨Or.inr rfl, Or.inr rfl, Or.inr rfl, Or.inr rfl, Or.inl rfl, trivial⟩ (Hrc4 _ _ _ hf true)
theorem bX0_work_87_31 (C : mCx p (mR 2) s m args meth c G cX0_work RX0 5 false 233 54500 233 54500) (hr : meth.sig.returnType = (some .int)) (hk : meth.locks = false) {b : Bool} {a1 : Nat} {S' : mT} {r : Int32} {rc4 : Int32 → Int32 → mT → Option (Int32 × mT)} (Hrc4 : ∀ (v2 : Int32) (v3 : Int32) (S : mT), rc4 v2 v3 S = some (r, S') → ∀ ok : Bool, mW p l e (mR 2) s m args below meth c G 5 233 54500 (mQ below G args s b S' (some (.int r))) (ok, 4, [.ref (31), .ref a1, .int v2, .int v3, .retAddr 0], [], mk b S)) {v2 : Int32} {v3 : Int32} {s0 : Int32} {s1 : Int32} {S : mT} (hf : fX0_work_87 31 a1 rc4 v2 v3 s0 s1 S = some (r, S')) (ok : Bool) : mW p l e (mR 2) s m args below meth c G 5 233 54500 (mQ below G args s b S' (some (.int r))) (ok, 87, [.ref (31), .ref a1, .int v2, .int v3, .retAddr 0], [.int s0, .int s1, .ref (31 + 2)], mk b S) := by
  unfold fX0_work_87 at hf
  obtain ⟨hok, hf⟩ := grd_ex hf
  refine msegT C kX0_work 48 1 (g := ((kI (31 + 2) s1 && true), 88, [.ref (31), .ref a1, .int v2, .int v3, .retAddr 0], [], mk b (sI S (31 + 2) (mIx s1) s0))) rfl hok ?_
  obtain ⟨S11, eS11, hf⟩ := bnd_ex hf
  rw [← eS11]
  refine msegT C kX0_work 49 1 (g := (true, 130, [.ref (31), .ref a1, .int v2, .int v3, .retAddr 0], [], mk b S11)) rfl rfl ?_
  exact mfor (L' := [.ref (31), .ref a1, .int v2, .int v3, .retAddr 0]) ⟨Or.inr rfl, Or.inr rfl, Or.inr rfl, Or.inr rfl, Or.inl rfl, trivial⟩ (bX0_work_130_31 C hr hk Hrc4 hf true)
theorem bX0_work_152_31 (C : mCx p (mR 2) s m args meth c G cX0_work RX0 5 false 233 54500 233 54500) (hr : meth.sig.returnType = (some .int)) (hk : meth.locks = false) {b : Bool} {a1 : Nat} {S' : mT} {r : Int32} {s0 : Int32} {S : mT} (hf : fX0_work_152 31 a1 s0 S = some (r, S')) (ok : Bool) : mW p l e (mR 2) s m args below meth c G 5 233 54500 (mQ below G args s b S' (some (.int r))) (ok, 152, [.retAddr 0, .retAddr 0, .retAddr 0, .retAddr 0, .retAddr 0], [.int s0], mk b S) := by
  unfold fX0_work_152 at hf
  cases hf
  exact gret_i C hr hk (kX0_work _ (List.mem_of_getElem? (i := 86) rfl)).1
theorem bX0_work_4_31 (C : mCx p (mR 2) s m args meth c G cX0_work RX0 5 false 233 54500 233 54500) (hr : meth.sig.returnType = (some .int)) (hk : meth.locks = false) {b : Bool} {a1 : Nat} {S' : mT} {r : Int32} : ∀ (k : Nat) (v2 : Int32) (v3 : Int32) (S : mT), fX0_work_4 31 a1 k v2 v3 S = some (r, S') → ∀ ok : Bool, mW p l e (mR 2) s m args below meth c G 5 233 54500 (mQ below G args s b S' (some (.int r))) (ok, 4, [.ref (31), .ref a1, .int v2, .int v3, .retAddr 0], [], mk b S) := by
  intro k
  induction k with
  | zero =>
    intro v2 v3 S hf ok
    cases hf
  | succ k ih =>
    intro v2 v3 S hf ok
    unfold fX0_work_4 at hf
    obtain ⟨hok, hf⟩ := grd_ex hf
    refine msegT C kX0_work 4 4 (g := ((kO 31 0 && true), (if (S.1 31 2) ≤ v3 then 136 else 12), [.ref (31), .ref a1, .int v2, .int v3, .retAddr 0], [], mk b S)) rfl hok ?_
    by_cases hc : (S.1 31 2) ≤ v3
    · rw [if_pos hc] at hf ⊢
      refine msegT C kX0_work 76 2 (g := (true, (if v2 ≤ 0 then 151 else 140), [.ref (31), .ref a1, .int v2, .int v3, .retAddr 0], [], mk b S)) rfl rfl ?_
      by_cases hc : v2 ≤ 0
      · rw [if_pos hc] at hf ⊢
        refine msegT C kX0_work 85 1 (g := (true, 152, [.ref (31), .ref a1, .int v2, .int v3, .retAddr 0], [.int (0 : Int32)], mk b S)) rfl rfl ?_
        exact mfor (L' := [.retAddr 0, .retAddr 0, .retAddr 0, .retAddr 0, .retAddr 0]) ⟨Or.inl rfl, Or.inl rfl, Or.inl rfl, Or.inl rfl, Or.inl rfl, trivial⟩ (bX0_work_152_31 C hr hk hf true)
      · rw [if_neg hc] at hf ⊢
        obtain ⟨hok, hf⟩ := grd_ex hf
        refine msegT C kX0_work 78 7 (g := ((kI (31 + 2) (v2 - (1 : Int32)) && (kO 31 0 && true)), 152, [.ref (31), .ref a1, .int v2, .int v3, .retAddr 0], [.int (S.1 (31 + 2) (mIx (v2 - (1 : Int32))))], mk b S)) rfl hok ?_
        exact mfor (L' := [.retAddr 0, .retAddr 0, .retAddr 0, .retAddr 0, .retAddr 0]) ⟨Or.inl rfl, Or.inl rfl, Or.inl rfl, Or.inl rfl, Or.inl rfl, trivial⟩ (bX0_work_152_31 C hr hk hf true)
    · rw [if_neg hc] at hf ⊢
      obtain ⟨hok, hf⟩ := grd_ex hf
      refine msegT C kX0_work 8 5 (g := ((kI (31 + 1) v3 && (kO 31 0 && true)), 20, [.ref (31), .ref a1, .int v2, .int v3, .int (S.1 (31 + 1) (mIx v3))], [], mk b S)) rfl hok ?_
      obtain ⟨x1, ex1, hf⟩ := bnd_ex hf
      rw [← ex1]
      refine msegT C kX0_work 13 3 (g := (true, (if (20000 : Int32) ≤ x1 then 52 else 28), [.ref (31), .ref a1, .int v2, .int v3, .int x1], [], mk b S)) rfl rfl ?_
      by_cases hc : (20000 : Int32) ≤ x1
      · rw [if_pos hc] at hf ⊢
        refine msegT C kX0_work 28 3 (g := (true, (if x1 = (20033 : Int32) then 60 else 91), [.ref (31), .ref a1, .int v2, .int v3, .int x1], [], mk b S)) rfl rfl ?_
        by_cases hc : x1 = (20033 : Int32)
        · rw [if_pos hc] at hf ⊢
          refine msegT C kX0_work 31 2 (g := (true, (if v2 ≤ 0 then 130 else 64), [.ref (31), .ref a1, .int v2, .int v3, .int x1], [], mk b S)) rfl rfl ?_
          by_cases hc : v2 ≤ 0
          · rw [if_pos hc] at hf ⊢
            exact mfor (L' := [.ref (31), .ref a1, .int v2, .int v3, .retAddr 0]) ⟨Or.inr rfl, Or.inr rfl, Or.inr rfl, Or.inr rfl, Or.inl rfl, trivial⟩ (bX0_work_130_31 C hr hk ih hf true)
          · rw [if_neg hc] at hf ⊢
            obtain ⟨hok, hf⟩ := grd_ex hf
            refine msegT C kX0_work 33 12 (g := ((kI (31 + 2) (v2 - (1 : Int32)) && (kO 31 0 && (kO 31 0 && true))), (if (S.1 (31 + 2) (mIx (v2 - (1 : Int32)))) = 0 then 82 else 86), [.ref (31), .ref a1, .int v2, .int v3, .int x1], [.int (v2 - (1 : Int32)), .ref (31 + 2)], mk b S)) rfl hok ?_
            by_cases hc : (S.1 (31 + 2) (mIx (v2 - (1 : Int32)))) = 0
            · rw [if_pos hc] at hf ⊢
              refine msegT C kX0_work 45 2 (g := (true, 87, [.ref (31), .ref a1, .int v2, .int v3, .int x1], [.int (1 : Int32), .int (v2 - (1 : Int32)), .ref (31 + 2)], mk b S)) rfl rfl ?_
              exact mfor (L' := [.ref (31), .ref a1, .int v2, .int v3, .retAddr 0]) ⟨Or.inr rfl, Or.inr rfl, Or.inr rfl, Or.inr rfl, Or.inl rfl, trivial⟩ (bX0_work_87_31 C hr hk ih hf true)
            · rw [if_neg hc] at hf ⊢
              refine msegT C kX0_work 47 1 (g := (true, 87, [.ref (31), .ref a1, .int v2, .int v3, .int x1], [.int (0 : Int32), .int (v2 - (1 : Int32)), .ref (31 + 2)], mk b S)) rfl rfl ?_
              exact mfor (L' := [.ref (31), .ref a1, .int v2, .int v3, .retAddr 0]) ⟨Or.inr rfl, Or.inr rfl, Or.inr rfl, Or.inr rfl, Or.inl rfl, trivial⟩ (bX0_work_87_31 C hr hk ih hf true)
        · rw [if_neg hc] at hf ⊢
          refine msegT C kX0_work 50 3 (g := (true, (if v2 ≤ (1 : Int32) then 130 else 96), [.ref (31), .ref a1, .int v2, .int v3, .int x1], [], mk b S)) rfl rfl ?_
          by_cases hc : v2 ≤ (1 : Int32)
          · rw [if_pos hc] at hf ⊢
            exact mfor (L' := [.ref (31), .ref a1, .int v2, .int v3, .retAddr 0]) ⟨Or.inr rfl, Or.inr rfl, Or.inr rfl, Or.inr rfl, Or.inl rfl, trivial⟩ (bX0_work_130_31 C hr hk ih hf true)
          · rw [if_neg hc] at hf ⊢
            refine msegT C kX0_work 53 1 (g := (true, 99, [.ref (31), .ref a1, .int (v2 + (-1 : Int32)), .int v3, .int x1], [], mk b S)) rfl rfl ?_
            obtain ⟨x2, ex2, hf⟩ := bnd_ex hf
            rw [← ex2]
            obtain ⟨hok, hf⟩ := grd_ex hf
            refine msegT C kX0_work 54 18 (g := ((kI (31 + 2) x2 && (kO 31 0 && (kI (31 + 2) (x2 - (1 : Int32)) && (kO 31 0 && (kO 31 0 && true))))), 126, [.ref (31), .ref a1, .int x2, .int v3, .int x1], [.int (S.1 (31 + 2) (mIx x2)), .int (S.1 (31 + 2) (mIx (x2 - (1 : Int32)))), .int (x1 - (20000 : Int32)), .int (x2 - (1 : Int32)), .ref (31 + 2)], mk b S)) rfl hok ?_
            obtain ⟨x4, S3, hq, hf⟩ := bndC_ex hf
            refine mcall (kd := 1) (vs := [.int (x1 - (20000 : Int32)), .int (S.1 (31 + 2) (mIx (x2 - (1 : Int32)))), .int (S.1 (31 + 2) (mIx x2))]) (rest := [.int (x2 - (1 : Int32)), .ref (31 + 2)]) (r := (some (.int x4))) (h' := mk b S3) (ok' := true) C lkRX0_33 (qX0_join hq) (kX0_work _ (List.mem_of_getElem? (i := 72) rfl)).1 rfl (Nat.le_of_ble_eq_true rfl) (Nat.le_of_ble_eq_true rfl) (Nat.le_refl _) (Nat.le_refl _) (Nat.le_of_ble_eq_true rfl) ?_
            obtain ⟨hok, hf⟩ := grd_ex hf
            refine msegT C kX0_work 73 1 (g := ((kI (31 + 2) (x2 - (1 : Int32)) && true), 130, [.ref (31), .ref a1, .int x2, .int v3, .int x1], [], mk b (sI S3 (31 + 2) (mIx (x2 - (1 : Int32))) x4))) rfl hok ?_
            obtain ⟨S5, eS5, hf⟩ := bnd_ex hf
            rw [← eS5]
            exact mfor (L' := [.ref (31), .ref a1, .int x2, .int v3, .retAddr 0]) ⟨Or.inr rfl, Or.inr rfl, Or.inr rfl, Or.inr rfl, Or.inl rfl, trivial⟩ (bX0_work_130_31 C hr hk ih hf true)
      · rw [if_neg hc] at hf ⊢
        refine msegT C kX0_work 16 3 (g := (true, (if (30 : Int32) ≤ v2 then 130 else 34), [.ref (31), .ref a1, .int v2, .int v3, .int x1], [], mk b S)) rfl rfl ?_
        by_cases hc : (30 : Int32) ≤ v2
        · rw [if_pos hc] at hf ⊢
          exact mfor (L' := [.ref (31), .ref a1, .int v2, .int v3, .retAddr 0]) ⟨Or.inr rfl, Or.inr rfl, Or.inr rfl, Or.inr rfl, Or.inl rfl, trivial⟩ (bX0_work_130_31 C hr hk ih hf true)
        · rw [if_neg hc] at hf ⊢
          obtain ⟨hok, hf⟩ := grd_ex hf
          refine msegT C kX0_work 19 5 (g := ((kO 31 0 && true), 42, [.ref (31), .ref a1, .int v2, .int v3, .int x1], [.ref a1, .int x1, .int v2, .ref (31 + 2)], mk b S)) rfl hok ?_
          obtain ⟨x7, S6, hq, hf⟩ := bndC_ex hf
          refine mcall (kd := 1) (vs := [.int x1, .ref a1]) (rest := [.int v2, .ref (31 + 2)]) (r := (some (.int x7))) (h' := mk b S6) (ok' := true) C lkRX0_29 (qX0_leaf hq) (kX0_work _ (List.mem_of_getElem? (i := 24) rfl)).1 rfl (Nat.le_of_ble_eq_true rfl) (Nat.le_of_ble_eq_true rfl) (Nat.le_refl _) (Nat.le_refl _) (Nat.le_of_ble_eq_true rfl) ?_
          obtain ⟨hok, hf⟩ := grd_ex hf
          refine msegT C kX0_work 25 1 (g := ((kI (31 + 2) v2 && true), 46, [.ref (31), .ref a1, .int v2, .int v3, .int x1], [], mk b (sI S6 (31 + 2) (mIx v2) x7))) rfl hok ?_
          obtain ⟨S8, eS8, hf⟩ := bnd_ex hf
          rw [← eS8]
          refine msegT C kX0_work 26 1 (g := (true, 49, [.ref (31), .ref a1, .int (v2 + (1 : Int32)), .int v3, .int x1], [], mk b S8)) rfl rfl ?_
          obtain ⟨x9, ex9, hf⟩ := bnd_ex hf
          rw [← ex9]
          refine msegT C kX0_work 27 1 (g := (true, 130, [.ref (31), .ref a1, .int x9, .int v3, .int x1], [], mk b S8)) rfl rfl ?_
          exact mfor (L' := [.ref (31), .ref a1, .int x9, .int v3, .retAddr 0]) ⟨Or.inr rfl, Or.inr rfl, Or.inr rfl, Or.inr rfl, Or.inl rfl, trivial⟩ (bX0_work_130_31 C hr hk ih hf true)
theorem bX0_work_0_31 (C : mCx p (mR 2) s m args meth c G cX0_work RX0 5 false 233 54500 233 54500) (hr : meth.sig.returnType = (some .int)) (hk : meth.locks = false) {b : Bool} {a1 : Nat} {S' : mT} {r : Int32} {S : mT} (hf : fX0_work 31 a1 S = some (r, S')) (ok : Bool) : mW p l e (mR 2) s m args below meth c G 5 233 54500 (mQ below G args s b S' (some (.int r))) (ok, 0, [.ref (31), .ref a1, .retAddr 0, .retAddr 0, .retAddr 0], [], mk b S) := by
  unfold fX0_work at hf
  refine msegT C kX0_work 0 4 (g := (true, 4, [.ref (31), .ref a1, .int (0 : Int32), .int (0 : Int32), .retAddr 0], [], mk b S)) rfl rfl ?_
  exact mfor (L' := [.ref (31), .ref a1, .int (0 : Int32), .int (0 : Int32), .retAddr 0]) ⟨Or.inr rfl, Or.inr rfl, Or.inr rfl, Or.inr rfl, Or.inl rfl, trivial⟩ (bX0_work_4_31 C hr hk _ _ _ _ hf true)
theorem qX0_work_31 {b : Bool} {a1 : Nat} {S S' : mT} {r : Int32} (hf : fX0_work 31 a1 S = some (r, S')) : mOk l mX0_work 2 [.ref (31), .ref a1] b S (some (.int r)) S' :=
  gMet (by decide) (Nat.le_of_ble_eq_true rfl) rfl (Nat.le_of_ble_eq_true rfl) (fun p e s m args below meth c G C hr hk => bX0_work_0_31 C hr hk hf true)
theorem bX11_isWithin_15 (C : mCx p (mR 1) s m args meth c G cX11_isWithin RX11 3 false 233 54500 233 54500) (hr : meth.sig.returnType = (some .boolean)) (hk : meth.locks = false) {b : Bool} {S' : mT} {r : Int32} {s0 : Int32} {S : mT} (hf : fX11_isWithin_15 s0 S = some (r, S')) (ok : Bool) : mW p l e (mR 1) s m args below meth c G 3 233 54500 (mQ below G args s b S' (some (.int r))) (ok, 15, [.retAddr 0, .retAddr 0, .retAddr 0], [.int s0], mk b S) := by
  unfold fX11_isWithin_15 at hf
  obtain ⟨hz, hf⟩ := grd_ex hf
  cases hf
  exact gret_z C hr hk (mFit_nar hz) (kX11_isWithin _ (List.mem_of_getElem? (i := 9) rfl)).1
theorem bX11_isWithin_14 (C : mCx p (mR 1) s m args meth c G cX11_isWithin RX11 3 false 233 54500 233 54500) (hr : meth.sig.returnType = (some .boolean)) (hk : meth.locks = false) {b : Bool} {S' : mT} {r : Int32} {S : mT} (hf : fX11_isWithin_14 S = some (r, S')) (ok : Bool) : mW p l e (mR 1) s m args below meth c G 3 233 54500 (mQ below G args s b S' (some (.int r))) (ok, 14, [.retAddr 0, .retAddr 0, .retAddr 0], [], mk b S) := by
  unfold fX11_isWithin_14 at hf
  refine msegT C kX11_isWithin 8 1 (g := (true, 15, [.retAddr 0, .retAddr 0, .retAddr 0], [.int (0 : Int32)], mk b S)) rfl rfl ?_
  exact mfor (L' := [.retAddr 0, .retAddr 0, .retAddr 0]) ⟨Or.inl rfl, Or.inl rfl, Or.inl rfl, trivial⟩ (bX11_isWithin_15 C hr hk hf true)
theorem bX11_isWithin_0 (C : mCx p (mR 1) s m args meth c G cX11_isWithin RX11 3 false 233 54500 233 54500) (hr : meth.sig.returnType = (some .boolean)) (hk : meth.locks = false) {b : Bool} {S' : mT} {r : Int32} {v0 : Int32} {v1 : Int32} {v2 : Int32} {S : mT} (hf : fX11_isWithin v0 v1 v2 S = some (r, S')) (ok : Bool) : mW p l e (mR 1) s m args below meth c G 3 233 54500 (mQ below G args s b S' (some (.int r))) (ok, 0, [.int v0, .int v1, .int v2], [], mk b S) := by
  unfold fX11_isWithin at hf
  refine msegT C kX11_isWithin 0 3 (g := (true, (if v0 < v1 then 14 else 5), [.int v0, .int v1, .int v2], [], mk b S)) rfl rfl ?_
  by_cases hc : v0 < v1
  · rw [if_pos hc] at hf ⊢
    exact mfor (L' := [.retAddr 0, .retAddr 0, .retAddr 0]) ⟨Or.inl rfl, Or.inl rfl, Or.inl rfl, trivial⟩ (bX11_isWithin_14 C hr hk hf true)
  · rw [if_neg hc] at hf ⊢
    refine msegT C kX11_isWithin 3 3 (g := (true, (if v2 < v0 then 14 else 10), [.int v0, .int v1, .int v2], [], mk b S)) rfl rfl ?_
    by_cases hc : v2 < v0
    · rw [if_pos hc] at hf ⊢
      exact mfor (L' := [.retAddr 0, .retAddr 0, .retAddr 0]) ⟨Or.inl rfl, Or.inl rfl, Or.inl rfl, trivial⟩ (bX11_isWithin_14 C hr hk hf true)
    · rw [if_neg hc] at hf ⊢
      refine msegT C kX11_isWithin 6 2 (g := (true, 15, [.int v0, .int v1, .int v2], [.int (1 : Int32)], mk b S)) rfl rfl ?_
      exact mfor (L' := [.retAddr 0, .retAddr 0, .retAddr 0]) ⟨Or.inl rfl, Or.inl rfl, Or.inl rfl, trivial⟩ (bX11_isWithin_15 C hr hk hf true)
theorem qX11_isWithin {b : Bool} {v0 : Int32} {v1 : Int32} {v2 : Int32} {S S' : mT} {r : Int32} (hf : fX11_isWithin v0 v1 v2 S = some (r, S')) : mOk l mX11_isWithin 1 [.int v0, .int v1, .int v2] b S (some (.int r)) S' :=
  gMet (by decide) (Nat.le_of_ble_eq_true rfl) rfl (Nat.le_of_ble_eq_true rfl) (fun p e s m args below meth c G C hr hk => bX11_isWithin_0 C hr hk hf true)
theorem bX2_copyFrom_0 (C : mCx p (mR 1) s m args meth c G cX2_copyFrom RX2 2 false 233 54500 233 54500) (hr : meth.sig.returnType = none) (hk : meth.locks = false) {b : Bool} {a1 : Nat} {S' : mT} {S : mT} (hf : fX2_copyFrom a1 S = some S') (ok : Bool) : mW p l e (mR 1) s m args below meth c G 2 233 54500 (mQ below G args s b S' none) (ok, 0, [.ref (37), .ref a1], [], mk b S) := by
  unfold fX2_copyFrom at hf
  obtain ⟨hok, hf⟩ := grd_ex hf
  refine msegT C kX2_copyFrom 0 15 (g := ((kC a1 (rowR 38 (mIx (((S.1 37 3) + (S.1 37 4)) - ((S.1 37 3) + (S.1 37 4)) / (41 : Int32) * (41 : Int32)))) (0 : Int32) (0 : Int32) (17 : Int32) && (kR 38 (((S.1 37 3) + (S.1 37 4)) - ((S.1 37 3) + (S.1 37 4)) / (41 : Int32) * (41 : Int32)) && (decide (¬ (41 : Int32) = 0) && (kO 37 2 && (kO 37 2 && (kO 37 2 && true)))))), 25, [.ref (37), .ref a1], [], mk b (sC S a1 (rowR 38 (mIx (((S.1 37 3) + (S.1 37 4)) - ((S.1 37 3) + (S.1 37 4)) / (41 : Int32) * (41 : Int32)))) (0 : Int32) (0 : Int32) (17 : Int32)))) rfl hok ?_
  obtain ⟨S1, eS1, hf⟩ := bnd_ex hf
  rw [← eS1]
  cases hf
  exact gret_v C hr hk (kX2_copyFrom _ (List.mem_of_getElem? (i := 15) rfl)).1
theorem qX2_copyFrom {b : Bool} {a1 : Nat} {S S' : mT} (hf : fX2_copyFrom a1 S = some S') : mOk l mX2_copyFrom 1 [.ref (37), .ref a1] b S none S' :=
  gMet (by decide) (Nat.le_of_ble_eq_true rfl) rfl (Nat.le_of_ble_eq_true rfl) (fun p e s m args below meth c G C hr hk => bX2_copyFrom_0 C hr hk hf true)
theorem bX11_limited_0 (C : mCx p (mR 1) s m args meth c G cX11_limited RX11 3 false 233 54500 233 54500) (hr : meth.sig.returnType = (some .int)) (hk : meth.locks = false) {b : Bool} {S' : mT} {r : Int32} {v0 : Int32} {v1 : Int32} {v2 : Int32} {S : mT} (hf : fX11_limited v0 v1 v2 S = some (r, S')) (ok : Bool) : mW p l e (mR 1) s m args below meth c G 3 233 54500 (mQ below G args s b S' (some (.int r))) (ok, 0, [.int v0, .int v1, .int v2], [], mk b S) := by
  unfold fX11_limited at hf
  refine msegT C kX11_limited 0 3 (g := (true, 3, [.int v0, .int v1, .int v2], [.int v0, .int v2, .int v1], mk b S)) rfl rfl ?_
  obtain ⟨x1, ex1, hf⟩ := bnd_ex hf
  refine so_min (ok' := true) C (kX11_limited _ (List.mem_of_getElem? (i := 3) rfl)).1 lmRX11_315 (Nat.le_of_ble_eq_true rfl) (Nat.le_refl _) (Nat.le_refl _) ?_
  rw [← ex1]
  obtain ⟨x2, ex2, hf⟩ := bnd_ex hf
  refine so_max (ok' := true) C (kX11_limited _ (List.mem_of_getElem? (i := 4) rfl)).1 lmRX11_320 (Nat.le_of_ble_eq_true rfl) (Nat.le_refl _) (Nat.le_refl _) ?_
  rw [← ex2]
  cases hf
  exact gret_i C hr hk (kX11_limited _ (List.mem_of_getElem? (i := 5) rfl)).1
theorem qX11_limited {b : Bool} {v0 : Int32} {v1 : Int32} {v2 : Int32} {S S' : mT} {r : Int32} (hf : fX11_limited v0 v1 v2 S = some (r, S')) : mOk l mX11_limited 1 [.int v0, .int v1, .int v2] b S (some (.int r)) S' :=
  gMet (by decide) (Nat.le_of_ble_eq_true rfl) rfl (Nat.le_of_ble_eq_true rfl) (fun p e s m args below meth c G C hr hk => bX11_limited_0 C hr hk hf true)
theorem bX8_setValues_0_3 (C : mCx p (mR 1) s m args meth c G cX8_setValues RX8 7 false 233 54500 233 54500) (hr : meth.sig.returnType = none) (hk : meth.locks = false) {b : Bool} {S' : mT} {v1 : Int32} {v2 : Int32} {v3 : Int32} {v4 : Int32} {v5 : Int32} {v6 : Int32} {S : mT} (hf : fX8_setValues 3 v1 v2 v3 v4 v5 v6 S = some S') (ok : Bool) : mW p l e (mR 1) s m args below meth c G 7 233 54500 (mQ below G args s b S' none) (ok, 0, [.ref (3), .int v1, .int v2, .int v3, .int v4, .int v5, .int v6], [], mk b S) := by
  unfold fX8_setValues at hf
  obtain ⟨hok, hf⟩ := grd_ex hf
  refine msegT C kX8_setValues 0 5 (g := ((kI (3 + 15) (0 : Int32) && (kO 3 8 && true)), 7, [.ref (3), .int v1, .int v2, .int v3, .int v4, .int v5, .int v6], [], mk b (sI S (3 + 15) (mIx (0 : Int32)) v1))) rfl hok ?_
  obtain ⟨S1, eS1, hf⟩ := bnd_ex hf
  rw [← eS1]
  obtain ⟨hok, hf⟩ := grd_ex hf
  refine msegT C kX8_setValues 5 5 (g := ((kI (3 + 15) (1 : Int32) && (kO 3 8 && true)), 14, [.ref (3), .int v1, .int v2, .int v3, .int v4, .int v5, .int v6], [], mk b (sI S1 (3 + 15) (mIx (1 : Int32)) v2))) rfl hok ?_
  obtain ⟨S2, eS2, hf⟩ := bnd_ex hf
  rw [← eS2]
  obtain ⟨hok, hf⟩ := grd_ex hf
  refine msegT C kX8_setValues 10 5 (g := ((kI (3 + 15) (2 : Int32) && (kO 3 8 && true)), 21, [.ref (3), .int v1, .int v2, .int v3, .int v4, .int v5, .int v6], [], mk b (sI S2 (3 + 15) (mIx (2 : Int32)) v3))) rfl hok ?_
  obtain ⟨S3, eS3, hf⟩ := bnd_ex hf
  rw [← eS3]
  obtain ⟨hok, hf⟩ := grd_ex hf
  refine msegT C kX8_setValues 15 5 (g := ((kI (3 + 15) (3 : Int32) && (kO 3 8 && true)), 29, [.ref (3), .int v1, .int v2, .int v3, .int v4, .int v5, .int v6], [], mk b (sI S3 (3 + 15) (mIx (3 : Int32)) v4))) rfl hok ?_
  obtain ⟨S4, eS4, hf⟩ := bnd_ex hf
  rw [← eS4]
  obtain ⟨hok, hf⟩ := grd_ex hf
  refine msegT C kX8_setValues 20 5 (g := ((kI (3 + 15) (4 : Int32) && (kO 3 8 && true)), 37, [.ref (3), .int v1, .int v2, .int v3, .int v4, .int v5, .int v6], [], mk b (sI S4 (3 + 15) (mIx (4 : Int32)) v5))) rfl hok ?_
  obtain ⟨S5, eS5, hf⟩ := bnd_ex hf
  rw [← eS5]
  obtain ⟨hok, hf⟩ := grd_ex hf
  refine msegT C kX8_setValues 25 5 (g := ((kI (3 + 15) (5 : Int32) && (kO 3 8 && true)), 45, [.ref (3), .int v1, .int v2, .int v3, .int v4, .int v5, .int v6], [], mk b (sI S5 (3 + 15) (mIx (5 : Int32)) v6))) rfl hok ?_
  obtain ⟨S6, eS6, hf⟩ := bnd_ex hf
  rw [← eS6]
  cases hf
  exact gret_v C hr hk (kX8_setValues _ (List.mem_of_getElem? (i := 30) rfl)).1
theorem qX8_setValues_3 {b : Bool} {v1 : Int32} {v2 : Int32} {v3 : Int32} {v4 : Int32} {v5 : Int32} {v6 : Int32} {S S' : mT} (hf : fX8_setValues 3 v1 v2 v3 v4 v5 v6 S = some S') : mOk l mX8_setValues 1 [.ref (3), .int v1, .int v2, .int v3, .int v4, .int v5, .int v6] b S none S' :=
  gMet (by decide) (Nat.le_of_ble_eq_true rfl) rfl (Nat.le_of_ble_eq_true rfl) (fun p e s m args below meth c G C hr hk => bX8_setValues_0_3 C hr hk hf true)
theorem bX8_setValues_0_19 (C : mCx p (mR 1) s m args meth c G cX8_setValues RX8 7 false 233 54500 233 54500) (hr : meth.sig.returnType = none) (hk : meth.locks = false) {b : Bool} {S' : mT} {v1 : Int32} {v2 : Int32} {v3 : Int32} {v4 : Int32} {v5 : Int32} {v6 : Int32} {S : mT} (hf : fX8_setValues 19 v1 v2 v3 v4 v5 v6 S = some S') (ok : Bool) : mW p l e (mR 1) s m args below meth c G 7 233 54500 (mQ below G args s b S' none) (ok, 0, [.ref (19), .int v1, .int v2, .int v3, .int v4, .int v5, .int v6], [], mk b S) := by
  unfold fX8_setValues at hf
  obtain ⟨hok, hf⟩ := grd_ex hf
  refine msegT C kX8_setValues 0 5 (g := ((kI (19 + 15) (0 : Int32) && (kO 19 8 && true)), 7, [.ref (19), .int v1, .int v2, .int v3, .int v4, .int v5, .int v6], [], mk b (sI S (19 + 15) (mIx (0 : Int32)) v1))) rfl hok ?_
  obtain ⟨S1, eS1, hf⟩ := bnd_ex hf
  rw [← eS1]
  obtain ⟨hok, hf⟩ := grd_ex hf
  refine msegT C kX8_setValues 5 5 (g := ((kI (19 + 15) (1 : Int32) && (kO 19 8 && true)), 14, [.ref (19), .int v1, .int v2, .int v3, .int v4, .int v5, .int v6], [], mk b (sI S1 (19 + 15) (mIx (1 : Int32)) v2))) rfl hok ?_
  obtain ⟨S2, eS2, hf⟩ := bnd_ex hf
  rw [← eS2]
  obtain ⟨hok, hf⟩ := grd_ex hf
  refine msegT C kX8_setValues 10 5 (g := ((kI (19 + 15) (2 : Int32) && (kO 19 8 && true)), 21, [.ref (19), .int v1, .int v2, .int v3, .int v4, .int v5, .int v6], [], mk b (sI S2 (19 + 15) (mIx (2 : Int32)) v3))) rfl hok ?_
  obtain ⟨S3, eS3, hf⟩ := bnd_ex hf
  rw [← eS3]
  obtain ⟨hok, hf⟩ := grd_ex hf
  refine msegT C kX8_setValues 15 5 (g := ((kI (19 + 15) (3 : Int32) && (kO 19 8 && true)), 29, [.ref (19), .int v1, .int v2, .int v3, .int v4, .int v5, .int v6], [], mk b (sI S3 (19 + 15) (mIx (3 : Int32)) v4))) rfl hok ?_
  obtain ⟨S4, eS4, hf⟩ := bnd_ex hf
  rw [← eS4]
  obtain ⟨hok, hf⟩ := grd_ex hf
  refine msegT C kX8_setValues 20 5 (g := ((kI (19 + 15) (4 : Int32) && (kO 19 8 && true)), 37, [.ref (19), .int v1, .int v2, .int v3, .int v4, .int v5, .int v6], [], mk b (sI S4 (19 + 15) (mIx (4 : Int32)) v5))) rfl hok ?_
  obtain ⟨S5, eS5, hf⟩ := bnd_ex hf
  rw [← eS5]
  obtain ⟨hok, hf⟩ := grd_ex hf
  refine msegT C kX8_setValues 25 5 (g := ((kI (19 + 15) (5 : Int32) && (kO 19 8 && true)), 45, [.ref (19), .int v1, .int v2, .int v3, .int v4, .int v5, .int v6], [], mk b (sI S5 (19 + 15) (mIx (5 : Int32)) v6))) rfl hok ?_
  obtain ⟨S6, eS6, hf⟩ := bnd_ex hf
  rw [← eS6]
  cases hf
  exact gret_v C hr hk (kX8_setValues _ (List.mem_of_getElem? (i := 30) rfl)).1
theorem qX8_setValues_19 {b : Bool} {v1 : Int32} {v2 : Int32} {v3 : Int32} {v4 : Int32} {v5 : Int32} {v6 : Int32} {S S' : mT} (hf : fX8_setValues 19 v1 v2 v3 v4 v5 v6 S = some S') : mOk l mX8_setValues 1 [.ref (19), .int v1, .int v2, .int v3, .int v4, .int v5, .int v6] b S none S' :=
  gMet (by decide) (Nat.le_of_ble_eq_true rfl) rfl (Nat.le_of_ble_eq_true rfl) (fun p e s m args below meth c G C hr hk => bX8_setValues_0_19 C hr hk hf true)
theorem bX8_growHouse_0_3 (C : mCx p (mR 3) s m args meth c G cX8_growHouse RX8 5 false 233 54500 233 54500) (hr : meth.sig.returnType = none) (hk : meth.locks = false) {b : Bool} {a1 : Nat} {S' : mT} {v2 : Int32} {S : mT} (hf : fX8_growHouse 3 a1 v2 S = some S') (ok : Bool) : mW p l e (mR 3) s m args below meth c G 5 233 54500 (mQ below G args s b S' none) (ok, 0, [.ref (3), .ref a1, .int v2, .retAddr 0, .retAddr 0], [], mk b S) := by
  unfold fX8_growHouse at hf
  obtain ⟨hok, hf⟩ := grd_ex hf
  refine msegT C kX8_growHouse 0 6 (g := ((kI a1 ((0 : Int32) + v2) && true), 6, [.ref (3), .ref a1, .int v2, .int (S.1 a1 (mIx ((0 : Int32) + v2))), .retAddr 0], [], mk b S)) rfl hok ?_
  obtain ⟨x1, ex1, hf⟩ := bnd_ex hf
  rw [← ex1]
  obtain ⟨hok, hf⟩ := grd_ex hf
  refine msegT C kX8_growHouse 6 23 (g := ((kI a1 (15 : Int32) && (kI a1 ((10 : Int32) + v2) && (kI (3 + 5) v2 && (kO 3 8 && (kI (3 + 4) v2 && (kO 3 8 && (kI a1 ((5 : Int32) + v2) && true))))))), 35, [.ref (3), .ref a1, .int v2, .int x1, .retAddr 0], [.int (S.1 a1 (mIx (15 : Int32))), .int (S.1 a1 (mIx ((10 : Int32) + v2))), .int (S.1 (3 + 5) (mIx v2)), .int (S.1 (3 + 4) (mIx v2)), .int (S.1 a1 (mIx ((5 : Int32) + v2))), .int x1, .ref (3)], mk b S)) rfl hok ?_
  obtain ⟨S2, hq, hf⟩ := bndV_ex hf
  refine mcall (kd := 0) (vs := [.ref (3), .int x1, .int (S.1 a1 (mIx ((5 : Int32) + v2))), .int (S.1 (3 + 4) (mIx v2)), .int (S.1 (3 + 5) (mIx v2)), .int (S.1 a1 (mIx ((10 : Int32) + v2))), .int (S.1 a1 (mIx (15 : Int32)))]) (rest := []) (r := none) (h' := mk b S2) (ok' := true) C lkRX8_84 (qX8_setValues_3 hq) (kX8_growHouse _ (List.mem_of_getElem? (i := 29) rfl)).1 ⟨_, _, rfl, rfl, Nat.le_of_ble_eq_true rfl, _, _, rfl, rfl, rfl⟩ (Nat.le_of_ble_eq_true rfl) (Nat.le_of_ble_eq_true rfl) (Nat.le_refl _) (Nat.le_refl _) (Nat.le_of_ble_eq_true rfl) ?_
  obtain ⟨hok, hf⟩ := grd_ex hf
  refine msegT C kX8_growHouse 30 4 (g := ((kO 3 8 && (kO 3 8 && true)), 46, [.ref (3), .ref a1, .int v2, .int x1, .retAddr 0], [.ref (3 + 15), .ref (3 + 12)], mk b S2)) rfl hok ?_
  obtain ⟨x4, S3, hq, hf⟩ := bndC_ex hf
  refine mcall (kd := 0) (vs := [.ref (3 + 12), .ref (3 + 15)]) (rest := []) (r := (some (.int x4))) (h' := mk b S3) (ok' := true) C lkRX8_88 (qX0_work_15 hq) (kX8_growHouse _ (List.mem_of_getElem? (i := 34) rfl)).1 ⟨_, _, rfl, rfl, Nat.le_of_ble_eq_true rfl, _, _, rfl, rfl, rfl⟩ (Nat.le_of_ble_eq_true rfl) (Nat.le_of_ble_eq_true rfl) (Nat.le_refl _) (Nat.le_refl _) (Nat.le_of_ble_eq_true rfl) ?_
  refine msegT C kX8_growHouse 35 2 (g := (true, 52, [.ref (3), .ref a1, .int v2, .int x1, .retAddr 0], [.int (3 : Int32), .int (-3 : Int32), .int x4], mk b S3)) rfl rfl ?_
  obtain ⟨x6, S5, hq, hf⟩ := bndC_ex hf
  refine mcall (kd := 2) (vs := [.int x4, .int (-3 : Int32), .int (3 : Int32)]) (rest := []) (r := (some (.int x6))) (h' := mk b S5) (ok' := true) C lkRX8_80 (qX11_limited hq) (kX8_growHouse _ (List.mem_of_getElem? (i := 37) rfl)).1 rfl (Nat.le_of_ble_eq_true rfl) (Nat.le_of_ble_eq_true rfl) (Nat.le_refl _) (Nat.le_refl _) (Nat.le_of_ble_eq_true rfl) ?_
  refine msegT C kX8_growHouse 38 10 (g := (true, 68, [.ref (3), .ref a1, .int v2, .int x1, .int x6], [.int (7 : Int32), .int (0 : Int32), .int (x1 + x6), .int ((0 : Int32) + v2), .ref a1], mk b S5)) rfl rfl ?_
  obtain ⟨x8, S7, hq, hf⟩ := bndC_ex hf
  refine mcall (kd := 2) (vs := [.int (x1 + x6), .int (0 : Int32), .int (7 : Int32)]) (rest := [.int ((0 : Int32) + v2), .ref a1]) (r := (some (.int x8))) (h' := mk b S7) (ok' := true) C lkRX8_80 (qX11_limited hq) (kX8_growHouse _ (List.mem_of_getElem? (i := 48) rfl)).1 rfl (Nat.le_of_ble_eq_true rfl) (Nat.le_of_ble_eq_true rfl) (Nat.le_refl _) (Nat.le_refl _) (Nat.le_of_ble_eq_true rfl) ?_
  obtain ⟨hok, hf⟩ := grd_ex hf
  refine msegT C kX8_growHouse 49 1 (g := ((kI a1 ((0 : Int32) + v2) && true), 72, [.ref (3), .ref a1, .int v2, .int x1, .int x6], [], mk b (sI S7 a1 (mIx ((0 : Int32) + v2)) x8))) rfl hok ?_
  obtain ⟨S9, eS9, hf⟩ := bnd_ex hf
  rw [← eS9]
  obtain ⟨hok, hf⟩ := grd_ex hf
  refine msegT C kX8_growHouse 50 14 (g := ((kI a1 ((0 : Int32) + v2) && (kI a1 ((5 : Int32) + v2) && true)), 86, [.ref (3), .ref a1, .int v2, .int x1, .int x6], [.int (S9.1 a1 (mIx ((0 : Int32) + v2))), .int (S9.1 a1 (mIx ((5 : Int32) + v2))), .int ((5 : Int32) + v2), .ref a1], mk b S9)) rfl hok ?_
  obtain ⟨x10, ex10, hf⟩ := bnd_ex hf
  refine so_min (ok' := true) C (kX8_growHouse _ (List.mem_of_getElem? (i := 64) rfl)).1 lmRX8_103 (Nat.le_of_ble_eq_true rfl) (Nat.le_refl _) (Nat.le_refl _) ?_
  rw [← ex10]
  obtain ⟨hok, hf⟩ := grd_ex hf
  refine msegT C kX8_growHouse 65 1 (g := ((kI a1 ((5 : Int32) + v2) && true), 90, [.ref (3), .ref a1, .int v2, .int x1, .int x6], [], mk b (sI S9 a1 (mIx ((5 : Int32) + v2)) x10))) rfl hok ?_
  obtain ⟨S11, eS11, hf⟩ := bnd_ex hf
  rw [← eS11]
  cases hf
  exact gret_v C hr hk (kX8_growHouse _ (List.mem_of_getElem? (i := 66) rfl)).1
theorem qX8_growHouse_3 {b : Bool} {a1 : Nat} {v2 : Int32} {S S' : mT} (hf : fX8_growHouse 3 a1 v2 S = some S') : mOk l mX8_growHouse 3 [.ref (3), .ref a1, .int v2] b S none S' :=
  gMet (by decide) (Nat.le_of_ble_eq_true rfl) rfl (Nat.le_of_ble_eq_true rfl) (fun p e s m args below meth c G C hr hk => bX8_growHouse_0_3 C hr hk hf true)
theorem bX8_growHouse_0_19 (C : mCx p (mR 3) s m args meth c G cX8_growHouse RX8 5 false 233 54500 233 54500) (hr : meth.sig.returnType = none) (hk : meth.locks = false) {b : Bool} {a1 : Nat} {S' : mT} {v2 : Int32} {S : mT} (hf : fX8_growHouse 19 a1 v2 S = some S') (ok : Bool) : mW p l e (mR 3) s m args below meth c G 5 233 54500 (mQ below G args s b S' none) (ok, 0, [.ref (19), .ref a1, .int v2, .retAddr 0, .retAddr 0], [], mk b S) := by
  unfold fX8_growHouse at hf
  obtain ⟨hok, hf⟩ := grd_ex hf
  refine msegT C kX8_growHouse 0 6 (g := ((kI a1 ((0 : Int32) + v2) && true), 6, [.ref (19), .ref a1, .int v2, .int (S.1 a1 (mIx ((0 : Int32) + v2))), .retAddr 0], [], mk b S)) rfl hok ?_
  obtain ⟨x1, ex1, hf⟩ := bnd_ex hf
  rw [← ex1]
  obtain ⟨hok, hf⟩ := grd_ex hf
  refine msegT C kX8_growHouse 6 23 (g := ((kI a1 (15 : Int32) && (kI a1 ((10 : Int32) + v2) && (kI (19 + 5) v2 && (kO 19 8 && (kI (19 + 4) v2 && (kO 19 8 && (kI a1 ((5 : Int32) + v2) && true))))))), 35, [.ref (19), .ref a1, .int v2, .int x1, .retAddr 0], [.int (S.1 a1 (mIx (15 : Int32))), .int (S.1 a1 (mIx ((10 : Int32) + v2))), .int (S.1 (19 + 5) (mIx v2)), .int (S.1 (19 + 4) (mIx v2)), .int (S.1 a1 (mIx ((5 : Int32) + v2))), .int x1, .ref (19)], mk b S)) rfl hok ?_
  obtain ⟨S2, hq, hf⟩ := bndV_ex hf
  refine mcall (kd := 0) (vs := [.ref (19), .int x1, .int (S.1 a1 (mIx ((5 : Int32) + v2))), .int (S.1 (19 + 4) (mIx v2)), .int (S.1 (19 + 5) (mIx v2)), .int (S.1 a1 (mIx ((10 : Int32) + v2))), .int (S.1 a1 (mIx (15 : Int32)))]) (rest := []) (r := none) (h' := mk b S2) (ok' := true) C lkRX8_84 (qX8_setValues_19 hq) (kX8_growHouse _ (List.mem_of_getElem? (i := 29) rfl)).1 ⟨_, _, rfl, rfl, Nat.le_of_ble_eq_true rfl, _, _, rfl, rfl, rfl⟩ (Nat.le_of_ble_eq_true rfl) (Nat.le_of_ble_eq_true rfl) (Nat.le_refl _) (Nat.le_refl _) (Nat.le_of_ble_eq_true rfl) ?_
  obtain ⟨hok, hf⟩ := grd_ex hf
  refine msegT C kX8_growHouse 30 4 (g := ((kO 19 8 && (kO 19 8 && true)), 46, [.ref (19), .ref a1, .int v2, .int x1, .retAddr 0], [.ref (19 + 15), .ref (19 + 12)], mk b S2)) rfl hok ?_
  obtain ⟨x4, S3, hq, hf⟩ := bndC_ex hf
  refine mcall (kd := 0) (vs := [.ref (19 + 12), .ref (19 + 15)]) (rest := []) (r := (some (.int x4))) (h' := mk b S3) (ok' := true) C lkRX8_88 (qX0_work_31 hq) (kX8_growHouse _ (List.mem_of_getElem? (i := 34) rfl)).1 ⟨_, _, rfl, rfl, Nat.le_of_ble_eq_true rfl, _, _, rfl, rfl, rfl⟩ (Nat.le_of_ble_eq_true rfl) (Nat.le_of_ble_eq_true rfl) (Nat.le_refl _) (Nat.le_refl _) (Nat.le_of_ble_eq_true rfl) ?_
  refine msegT C kX8_growHouse 35 2 (g := (true, 52, [.ref (19), .ref a1, .int v2, .int x1, .retAddr 0], [.int (3 : Int32), .int (-3 : Int32), .int x4], mk b S3)) rfl rfl ?_
  obtain ⟨x6, S5, hq, hf⟩ := bndC_ex hf
  refine mcall (kd := 2) (vs := [.int x4, .int (-3 : Int32), .int (3 : Int32)]) (rest := []) (r := (some (.int x6))) (h' := mk b S5) (ok' := true) C lkRX8_80 (qX11_limited hq) (kX8_growHouse _ (List.mem_of_getElem? (i := 37) rfl)).1 rfl (Nat.le_of_ble_eq_true rfl) (Nat.le_of_ble_eq_true rfl) (Nat.le_refl _) (Nat.le_refl _) (Nat.le_of_ble_eq_true rfl) ?_
  refine msegT C kX8_growHouse 38 10 (g := (true, 68, [.ref (19), .ref a1, .int v2, .int x1, .int x6], [.int (7 : Int32), .int (0 : Int32), .int (x1 + x6), .int ((0 : Int32) + v2), .ref a1], mk b S5)) rfl rfl ?_
  obtain ⟨x8, S7, hq, hf⟩ := bndC_ex hf
  refine mcall (kd := 2) (vs := [.int (x1 + x6), .int (0 : Int32), .int (7 : Int32)]) (rest := [.int ((0 : Int32) + v2), .ref a1]) (r := (some (.int x8))) (h' := mk b S7) (ok' := true) C lkRX8_80 (qX11_limited hq) (kX8_growHouse _ (List.mem_of_getElem? (i := 48) rfl)).1 rfl (Nat.le_of_ble_eq_true rfl) (Nat.le_of_ble_eq_true rfl) (Nat.le_refl _) (Nat.le_refl _) (Nat.le_of_ble_eq_true rfl) ?_
  obtain ⟨hok, hf⟩ := grd_ex hf
  refine msegT C kX8_growHouse 49 1 (g := ((kI a1 ((0 : Int32) + v2) && true), 72, [.ref (19), .ref a1, .int v2, .int x1, .int x6], [], mk b (sI S7 a1 (mIx ((0 : Int32) + v2)) x8))) rfl hok ?_
  obtain ⟨S9, eS9, hf⟩ := bnd_ex hf
  rw [← eS9]
  obtain ⟨hok, hf⟩ := grd_ex hf
  refine msegT C kX8_growHouse 50 14 (g := ((kI a1 ((0 : Int32) + v2) && (kI a1 ((5 : Int32) + v2) && true)), 86, [.ref (19), .ref a1, .int v2, .int x1, .int x6], [.int (S9.1 a1 (mIx ((0 : Int32) + v2))), .int (S9.1 a1 (mIx ((5 : Int32) + v2))), .int ((5 : Int32) + v2), .ref a1], mk b S9)) rfl hok ?_
  obtain ⟨x10, ex10, hf⟩ := bnd_ex hf
  refine so_min (ok' := true) C (kX8_growHouse _ (List.mem_of_getElem? (i := 64) rfl)).1 lmRX8_103 (Nat.le_of_ble_eq_true rfl) (Nat.le_refl _) (Nat.le_refl _) ?_
  rw [← ex10]
  obtain ⟨hok, hf⟩ := grd_ex hf
  refine msegT C kX8_growHouse 65 1 (g := ((kI a1 ((5 : Int32) + v2) && true), 90, [.ref (19), .ref a1, .int v2, .int x1, .int x6], [], mk b (sI S9 a1 (mIx ((5 : Int32) + v2)) x10))) rfl hok ?_
  obtain ⟨S11, eS11, hf⟩ := bnd_ex hf
  rw [← eS11]
  cases hf
  exact gret_v C hr hk (kX8_growHouse _ (List.mem_of_getElem? (i := 66) rfl)).1
theorem qX8_growHouse_19 {b : Bool} {a1 : Nat} {v2 : Int32} {S S' : mT} (hf : fX8_growHouse 19 a1 v2 S = some S') : mOk l mX8_growHouse 3 [.ref (19), .ref a1, .int v2] b S none S' :=
  gMet (by decide) (Nat.le_of_ble_eq_true rfl) rfl (Nat.le_of_ble_eq_true rfl) (fun p e s m args below meth c G C hr hk => bX8_growHouse_0_19 C hr hk hf true)
theorem bX8_sendMagpie_41_3 (C : mCx p (mR 1) s m args meth c G cX8_sendMagpie RX8 3 false 233 54500 233 54500) (hr : meth.sig.returnType = none) (hk : meth.locks = false) {b : Bool} {a1 : Nat} {S' : mT} {S : mT} (hf : fX8_sendMagpie_41 3 a1 S = some S') (ok : Bool) : mW p l e (mR 1) s m args below meth c G 3 233 54500 (mQ below G args s b S' none) (ok, 41, [.retAddr 0, .retAddr 0, .retAddr 0], [], mk b S) := by
  unfold fX8_sendMagpie_41 at hf
  cases hf
  exact gret_v C hr hk (kX8_sendMagpie _ (List.mem_of_getElem? (i := 29) rfl)).1
theorem bX8_sendMagpie_0_3 (C : mCx p (mR 1) s m args meth c G cX8_sendMagpie RX8 3 false 233 54500 233 54500) (hr : meth.sig.returnType = none) (hk : meth.locks = false) {b : Bool} {a1 : Nat} {S' : mT} {S : mT} (hf : fX8_sendMagpie 3 a1 S = some S') (ok : Bool) : mW p l e (mR 1) s m args below meth c G 3 233 54500 (mQ below G args s b S' none) (ok, 0, [.ref (3), .ref a1, .retAddr 0], [], mk b S) := by
  unfold fX8_sendMagpie at hf
  obtain ⟨hok, hf⟩ := grd_ex hf
  refine msegT C kX8_sendMagpie 0 3 (g := ((kO 3 8 && true), (if (S.1 3 9) ≤ 0 then 41 else 7), [.ref (3), .ref a1, .retAddr 0], [], mk b S)) rfl hok ?_
  by_cases hc : (S.1 3 9) ≤ 0
  · rw [if_pos hc] at hf ⊢
    exact mfor (L' := [.retAddr 0, .retAddr 0, .retAddr 0]) ⟨Or.inl rfl, Or.inl rfl, Or.inl rfl, trivial⟩ (bX8_sendMagpie_41_3 C hr hk hf true)
  · rw [if_neg hc] at hf ⊢
    obtain ⟨hok, hf⟩ := grd_ex hf
    refine msegT C kX8_sendMagpie 3 9 (g := ((decide (¬ (S.1 3 9) = 0) && (kO 3 8 && (kI a1 (16 : Int32) && true))), 20, [.ref (3), .ref a1, .int ((10 : Int32) + ((S.1 a1 (mIx (16 : Int32))) - (S.1 a1 (mIx (16 : Int32))) / (S.1 3 9) * (S.1 3 9)))], [], mk b S)) rfl hok ?_
    obtain ⟨x1, ex1, hf⟩ := bnd_ex hf
    rw [← ex1]
    obtain ⟨hok, hf⟩ := grd_ex hf
    refine msegT C kX8_sendMagpie 12 14 (g := ((decide (¬ (3 : Int32) = 0) && (decide (¬ (100 : Int32) = 0) && (kI a1 (16 : Int32) && (kI a1 x1 && (kI a1 x1 && true))))), 36, [.ref (3), .ref a1, .int x1], [.int (((S.1 a1 (mIx (16 : Int32))) / (100 : Int32)) - ((S.1 a1 (mIx (16 : Int32))) / (100 : Int32)) / (3 : Int32) * (3 : Int32)), .int (S.1 a1 (mIx x1)), .int (S.1 a1 (mIx x1)), .int x1, .ref a1], mk b S)) rfl hok ?_
    obtain ⟨x2, ex2, hf⟩ := bnd_ex hf
    refine so_min (ok' := true) C (kX8_sendMagpie _ (List.mem_of_getElem? (i := 26) rfl)).1 lmRX8_103 (Nat.le_of_ble_eq_true rfl) (Nat.le_refl _) (Nat.le_refl _) ?_
    rw [← ex2]
    obtain ⟨hok, hf⟩ := grd_ex hf
    refine msegT C kX8_sendMagpie 27 2 (g := ((kI a1 x1 && true), 41, [.ref (3), .ref a1, .int x1], [], mk b (sI S a1 (mIx x1) ((S.1 a1 (mIx x1)) - x2)))) rfl hok ?_
    obtain ⟨S3, eS3, hf⟩ := bnd_ex hf
    rw [← eS3]
    exact mfor (L' := [.retAddr 0, .retAddr 0, .retAddr 0]) ⟨Or.inl rfl, Or.inl rfl, Or.inl rfl, trivial⟩ (bX8_sendMagpie_41_3 C hr hk hf true)
theorem qX8_sendMagpie_3 {b : Bool} {a1 : Nat} {S S' : mT} (hf : fX8_sendMagpie 3 a1 S = some S') : mOk l mX8_sendMagpie 1 [.ref (3), .ref a1] b S none S' :=
  gMet (by decide) (Nat.le_of_ble_eq_true rfl) rfl (Nat.le_of_ble_eq_true rfl) (fun p e s m args below meth c G C hr hk => bX8_sendMagpie_0_3 C hr hk hf true)
theorem bX8_sendMagpie_41_19 (C : mCx p (mR 1) s m args meth c G cX8_sendMagpie RX8 3 false 233 54500 233 54500) (hr : meth.sig.returnType = none) (hk : meth.locks = false) {b : Bool} {a1 : Nat} {S' : mT} {S : mT} (hf : fX8_sendMagpie_41 19 a1 S = some S') (ok : Bool) : mW p l e (mR 1) s m args below meth c G 3 233 54500 (mQ below G args s b S' none) (ok, 41, [.retAddr 0, .retAddr 0, .retAddr 0], [], mk b S) := by
  unfold fX8_sendMagpie_41 at hf
  cases hf
  exact gret_v C hr hk (kX8_sendMagpie _ (List.mem_of_getElem? (i := 29) rfl)).1
theorem bX8_sendMagpie_0_19 (C : mCx p (mR 1) s m args meth c G cX8_sendMagpie RX8 3 false 233 54500 233 54500) (hr : meth.sig.returnType = none) (hk : meth.locks = false) {b : Bool} {a1 : Nat} {S' : mT} {S : mT} (hf : fX8_sendMagpie 19 a1 S = some S') (ok : Bool) : mW p l e (mR 1) s m args below meth c G 3 233 54500 (mQ below G args s b S' none) (ok, 0, [.ref (19), .ref a1, .retAddr 0], [], mk b S) := by
  unfold fX8_sendMagpie at hf
  obtain ⟨hok, hf⟩ := grd_ex hf
  refine msegT C kX8_sendMagpie 0 3 (g := ((kO 19 8 && true), (if (S.1 19 9) ≤ 0 then 41 else 7), [.ref (19), .ref a1, .retAddr 0], [], mk b S)) rfl hok ?_
  by_cases hc : (S.1 19 9) ≤ 0
  · rw [if_pos hc] at hf ⊢
    exact mfor (L' := [.retAddr 0, .retAddr 0, .retAddr 0]) ⟨Or.inl rfl, Or.inl rfl, Or.inl rfl, trivial⟩ (bX8_sendMagpie_41_19 C hr hk hf true)
  · rw [if_neg hc] at hf ⊢
    obtain ⟨hok, hf⟩ := grd_ex hf
    refine msegT C kX8_sendMagpie 3 9 (g := ((decide (¬ (S.1 19 9) = 0) && (kO 19 8 && (kI a1 (16 : Int32) && true))), 20, [.ref (19), .ref a1, .int ((10 : Int32) + ((S.1 a1 (mIx (16 : Int32))) - (S.1 a1 (mIx (16 : Int32))) / (S.1 19 9) * (S.1 19 9)))], [], mk b S)) rfl hok ?_
    obtain ⟨x1, ex1, hf⟩ := bnd_ex hf
    rw [← ex1]
    obtain ⟨hok, hf⟩ := grd_ex hf
    refine msegT C kX8_sendMagpie 12 14 (g := ((decide (¬ (3 : Int32) = 0) && (decide (¬ (100 : Int32) = 0) && (kI a1 (16 : Int32) && (kI a1 x1 && (kI a1 x1 && true))))), 36, [.ref (19), .ref a1, .int x1], [.int (((S.1 a1 (mIx (16 : Int32))) / (100 : Int32)) - ((S.1 a1 (mIx (16 : Int32))) / (100 : Int32)) / (3 : Int32) * (3 : Int32)), .int (S.1 a1 (mIx x1)), .int (S.1 a1 (mIx x1)), .int x1, .ref a1], mk b S)) rfl hok ?_
    obtain ⟨x2, ex2, hf⟩ := bnd_ex hf
    refine so_min (ok' := true) C (kX8_sendMagpie _ (List.mem_of_getElem? (i := 26) rfl)).1 lmRX8_103 (Nat.le_of_ble_eq_true rfl) (Nat.le_refl _) (Nat.le_refl _) ?_
    rw [← ex2]
    obtain ⟨hok, hf⟩ := grd_ex hf
    refine msegT C kX8_sendMagpie 27 2 (g := ((kI a1 x1 && true), 41, [.ref (19), .ref a1, .int x1], [], mk b (sI S a1 (mIx x1) ((S.1 a1 (mIx x1)) - x2)))) rfl hok ?_
    obtain ⟨S3, eS3, hf⟩ := bnd_ex hf
    rw [← eS3]
    exact mfor (L' := [.retAddr 0, .retAddr 0, .retAddr 0]) ⟨Or.inl rfl, Or.inl rfl, Or.inl rfl, trivial⟩ (bX8_sendMagpie_41_19 C hr hk hf true)
theorem qX8_sendMagpie_19 {b : Bool} {a1 : Nat} {S S' : mT} (hf : fX8_sendMagpie 19 a1 S = some S') : mOk l mX8_sendMagpie 1 [.ref (19), .ref a1] b S none S' :=
  gMet (by decide) (Nat.le_of_ble_eq_true rfl) rfl (Nat.le_of_ble_eq_true rfl) (fun p e s m args below meth c G C hr hk => bX8_sendMagpie_0_19 C hr hk hf true)
theorem bX8_stonesHiding_0_3 (C : mCx p (mR 3) s m args meth c G cX8_stonesHiding RX8 5 false 233 54500 233 54500) (hr : meth.sig.returnType = (some .int)) (hk : meth.locks = false) {b : Bool} {a1 : Nat} {S' : mT} {r : Int32} {v2 : Int32} {v3 : Int32} {S : mT} (hf : fX8_stonesHiding 3 a1 v2 v3 S = some (r, S')) (ok : Bool) : mW p l e (mR 3) s m args below meth c G 5 233 54500 (mQ below G args s b S' (some (.int r))) (ok, 0, [.ref (3), .ref a1, .int v2, .int v3, .retAddr 0], [], mk b S) := by
  unfold fX8_stonesHiding at hf
  obtain ⟨hok, hf⟩ := grd_ex hf
  refine msegT C kX8_stonesHiding 0 6 (g := ((kI a1 ((0 : Int32) + v2) && true), 7, [.ref (3), .ref a1, .int v2, .int v3, .int (S.1 a1 (mIx ((0 : Int32) + v2)))], [], mk b S)) rfl hok ?_
  obtain ⟨x1, ex1, hf⟩ := bnd_ex hf
  rw [← ex1]
  obtain ⟨hok, hf⟩ := grd_ex hf
  refine msegT C kX8_stonesHiding 6 4 (g := ((kO (3 + 6) 0 && (kO 3 8 && true)), (if (S.1 (3 + 6) 4) = 0 then 17 else 35), [.ref (3), .ref a1, .int v2, .int v3, .int x1], [], mk b S)) rfl hok ?_
  by_cases hc : (S.1 (3 + 6) 4) = 0
  · rw [if_pos hc] at hf ⊢
    obtain ⟨hok, hf⟩ := grd_ex hf
    refine msegT C kX8_stonesHiding 10 10 (g := ((kI (3 + 5) v2 && (kO 3 8 && true)), 31, [.ref (3), .ref a1, .int v2, .int v3, .int x1], [.int (99 : Int32), .int (0 : Int32), .int ((x1 - v3) + (S.1 (3 + 5) (mIx v2)))], mk b S)) rfl hok ?_
    obtain ⟨x3, S2, hq, hf⟩ := bndC_ex hf
    refine mcall (kd := 2) (vs := [.int ((x1 - v3) + (S.1 (3 + 5) (mIx v2))), .int (0 : Int32), .int (99 : Int32)]) (rest := []) (r := (some (.int x3))) (h' := mk b S2) (ok' := true) C lkRX8_80 (qX11_limited hq) (kX8_stonesHiding _ (List.mem_of_getElem? (i := 20) rfl)).1 rfl (Nat.le_of_ble_eq_true rfl) (Nat.le_of_ble_eq_true rfl) (Nat.le_refl _) (Nat.le_refl _) (Nat.le_of_ble_eq_true rfl) ?_
    cases hf
    exact gret_i C hr hk (kX8_stonesHiding _ (List.mem_of_getElem? (i := 21) rfl)).1
  · rw [if_neg hc] at hf ⊢
    obtain ⟨hok, hf⟩ := grd_ex hf
    refine msegT C kX8_stonesHiding 22 15 (g := ((kI a1 (15 : Int32) && (kI (3 + 5) v2 && (kO 3 8 && (kI (3 + 4) v2 && (kO 3 8 && true))))), 56, [.ref (3), .ref a1, .int v2, .int v3, .int x1], [.int (S.1 a1 (mIx (15 : Int32))), .int (0 : Int32), .int (S.1 (3 + 5) (mIx v2)), .int (S.1 (3 + 4) (mIx v2)), .int v3, .int x1, .ref (3)], mk b S)) rfl hok ?_
    obtain ⟨S4, hq, hf⟩ := bndV_ex hf
    refine mcall (kd := 0) (vs := [.ref (3), .int x1, .int v3, .int (S.1 (3 + 4) (mIx v2)), .int (S.1 (3 + 5) (mIx v2)), .int (0 : Int32), .int (S.1 a1 (mIx (15 : Int32)))]) (rest := []) (r := none) (h' := mk b S4) (ok' := true) C lkRX8_84 (qX8_setValues_3 hq) (kX8_stonesHiding _ (List.mem_of_getElem? (i := 37) rfl)).1 ⟨_, _, rfl, rfl, Nat.le_of_ble_eq_true rfl, _, _, rfl, rfl, rfl⟩ (Nat.le_of_ble_eq_true rfl) (Nat.le_of_ble_eq_true rfl) (Nat.le_refl _) (Nat.le_refl _) (Nat.le_of_ble_eq_true rfl) ?_
    obtain ⟨hok, hf⟩ := grd_ex hf
    refine msegT C kX8_stonesHiding 38 4 (g := ((kO 3 8 && (kO 3 8 && true)), 67, [.ref (3), .ref a1, .int v2, .int v3, .int x1], [.ref (3 + 15), .ref (3 + 6)], mk b S4)) rfl hok ?_
    obtain ⟨x6, S5, hq, hf⟩ := bndC_ex hf
    refine mcall (kd := 0) (vs := [.ref (3 + 6), .ref (3 + 15)]) (rest := []) (r := (some (.int x6))) (h' := mk b S5) (ok' := true) C lkRX8_88 (qX0_work_9 hq) (kX8_stonesHiding _ (List.mem_of_getElem? (i := 42) rfl)).1 ⟨_, _, rfl, rfl, Nat.le_of_ble_eq_true rfl, _, _, rfl, rfl, rfl⟩ (Nat.le_of_ble_eq_true rfl) (Nat.le_of_ble_eq_true rfl) (Nat.le_refl _) (Nat.le_refl _) (Nat.le_of_ble_eq_true rfl) ?_
    refine msegT C kX8_stonesHiding 43 2 (g := (true, 73, [.ref (3), .ref a1, .int v2, .int v3, .int x1], [.int (99 : Int32), .int (0 : Int32), .int x6], mk b S5)) rfl rfl ?_
    obtain ⟨x8, S7, hq, hf⟩ := bndC_ex hf
    refine mcall (kd := 2) (vs := [.int x6, .int (0 : Int32), .int (99 : Int32)]) (rest := []) (r := (some (.int x8))) (h' := mk b S7) (ok' := true) C lkRX8_80 (qX11_limited hq) (kX8_stonesHiding _ (List.mem_of_getElem? (i := 45) rfl)).1 rfl (Nat.le_of_ble_eq_true rfl) (Nat.le_of_ble_eq_true rfl) (Nat.le_refl _) (Nat.le_refl _) (Nat.le_of_ble_eq_true rfl) ?_
    cases hf
    exact gret_i C hr hk (kX8_stonesHiding _ (List.mem_of_getElem? (i := 46) rfl)).1
theorem qX8_stonesHiding_3 {b : Bool} {a1 : Nat} {v2 : Int32} {v3 : Int32} {S S' : mT} {r : Int32} (hf : fX8_stonesHiding 3 a1 v2 v3 S = some (r, S')) : mOk l mX8_stonesHiding 3 [.ref (3), .ref a1, .int v2, .int v3] b S (some (.int r)) S' :=
  gMet (by decide) (Nat.le_of_ble_eq_true rfl) rfl (Nat.le_of_ble_eq_true rfl) (fun p e s m args below meth c G C hr hk => bX8_stonesHiding_0_3 C hr hk hf true)
theorem bX8_stonesHiding_0_19 (C : mCx p (mR 3) s m args meth c G cX8_stonesHiding RX8 5 false 233 54500 233 54500) (hr : meth.sig.returnType = (some .int)) (hk : meth.locks = false) {b : Bool} {a1 : Nat} {S' : mT} {r : Int32} {v2 : Int32} {v3 : Int32} {S : mT} (hf : fX8_stonesHiding 19 a1 v2 v3 S = some (r, S')) (ok : Bool) : mW p l e (mR 3) s m args below meth c G 5 233 54500 (mQ below G args s b S' (some (.int r))) (ok, 0, [.ref (19), .ref a1, .int v2, .int v3, .retAddr 0], [], mk b S) := by
  unfold fX8_stonesHiding at hf
  obtain ⟨hok, hf⟩ := grd_ex hf
  refine msegT C kX8_stonesHiding 0 6 (g := ((kI a1 ((0 : Int32) + v2) && true), 7, [.ref (19), .ref a1, .int v2, .int v3, .int (S.1 a1 (mIx ((0 : Int32) + v2)))], [], mk b S)) rfl hok ?_
  obtain ⟨x1, ex1, hf⟩ := bnd_ex hf
  rw [← ex1]
  obtain ⟨hok, hf⟩ := grd_ex hf
  refine msegT C kX8_stonesHiding 6 4 (g := ((kO (19 + 6) 0 && (kO 19 8 && true)), (if (S.1 (19 + 6) 4) = 0 then 17 else 35), [.ref (19), .ref a1, .int v2, .int v3, .int x1], [], mk b S)) rfl hok ?_
  by_cases hc : (S.1 (19 + 6) 4) = 0
  · rw [if_pos hc] at hf ⊢
    obtain ⟨hok, hf⟩ := grd_ex hf
    refine msegT C kX8_stonesHiding 10 10 (g := ((kI (19 + 5) v2 && (kO 19 8 && true)), 31, [.ref (19), .ref a1, .int v2, .int v3, .int x1], [.int (99 : Int32), .int (0 : Int32), .int ((x1 - v3) + (S.1 (19 + 5) (mIx v2)))], mk b S)) rfl hok ?_
    obtain ⟨x3, S2, hq, hf⟩ := bndC_ex hf
    refine mcall (kd := 2) (vs := [.int ((x1 - v3) + (S.1 (19 + 5) (mIx v2))), .int (0 : Int32), .int (99 : Int32)]) (rest := []) (r := (some (.int x3))) (h' := mk b S2) (ok' := true) C lkRX8_80 (qX11_limited hq) (kX8_stonesHiding _ (List.mem_of_getElem? (i := 20) rfl)).1 rfl (Nat.le_of_ble_eq_true rfl) (Nat.le_of_ble_eq_true rfl) (Nat.le_refl _) (Nat.le_refl _) (Nat.le_of_ble_eq_true rfl) ?_
    cases hf
    exact gret_i C hr hk (kX8_stonesHiding _ (List.mem_of_getElem? (i := 21) rfl)).1
  · rw [if_neg hc] at hf ⊢
    obtain ⟨hok, hf⟩ := grd_ex hf
    refine msegT C kX8_stonesHiding 22 15 (g := ((kI a1 (15 : Int32) && (kI (19 + 5) v2 && (kO 19 8 && (kI (19 + 4) v2 && (kO 19 8 && true))))), 56, [.ref (19), .ref a1, .int v2, .int v3, .int x1], [.int (S.1 a1 (mIx (15 : Int32))), .int (0 : Int32), .int (S.1 (19 + 5) (mIx v2)), .int (S.1 (19 + 4) (mIx v2)), .int v3, .int x1, .ref (19)], mk b S)) rfl hok ?_
    obtain ⟨S4, hq, hf⟩ := bndV_ex hf
    refine mcall (kd := 0) (vs := [.ref (19), .int x1, .int v3, .int (S.1 (19 + 4) (mIx v2)), .int (S.1 (19 + 5) (mIx v2)), .int (0 : Int32), .int (S.1 a1 (mIx (15 : Int32)))]) (rest := []) (r := none) (h' := mk b S4) (ok' := true) C lkRX8_84 (qX8_setValues_19 hq) (kX8_stonesHiding _ (List.mem_of_getElem? (i := 37) rfl)).1 ⟨_, _, rfl, rfl, Nat.le_of_ble_eq_true rfl, _, _, rfl, rfl, rfl⟩ (Nat.le_of_ble_eq_true rfl) (Nat.le_of_ble_eq_true rfl) (Nat.le_refl _) (Nat.le_refl _) (Nat.le_of_ble_eq_true rfl) ?_
    obtain ⟨hok, hf⟩ := grd_ex hf
    refine msegT C kX8_stonesHiding 38 4 (g := ((kO 19 8 && (kO 19 8 && true)), 67, [.ref (19), .ref a1, .int v2, .int v3, .int x1], [.ref (19 + 15), .ref (19 + 6)], mk b S4)) rfl hok ?_
    obtain ⟨x6, S5, hq, hf⟩ := bndC_ex hf
    refine mcall (kd := 0) (vs := [.ref (19 + 6), .ref (19 + 15)]) (rest := []) (r := (some (.int x6))) (h' := mk b S5) (ok' := true) C lkRX8_88 (qX0_work_25 hq) (kX8_stonesHiding _ (List.mem_of_getElem? (i := 42) rfl)).1 ⟨_, _, rfl, rfl, Nat.le_of_ble_eq_true rfl, _, _, rfl, rfl, rfl⟩ (Nat.le_of_ble_eq_true rfl) (Nat.le_of_ble_eq_true rfl) (Nat.le_refl _) (Nat.le_refl _) (Nat.le_of_ble_eq_true rfl) ?_
    refine msegT C kX8_stonesHiding 43 2 (g := (true, 73, [.ref (19), .ref a1, .int v2, .int v3, .int x1], [.int (99 : Int32), .int (0 : Int32), .int x6], mk b S5)) rfl rfl ?_
    obtain ⟨x8, S7, hq, hf⟩ := bndC_ex hf
    refine mcall (kd := 2) (vs := [.int x6, .int (0 : Int32), .int (99 : Int32)]) (rest := []) (r := (some (.int x8))) (h' := mk b S7) (ok' := true) C lkRX8_80 (qX11_limited hq) (kX8_stonesHiding _ (List.mem_of_getElem? (i := 45) rfl)).1 rfl (Nat.le_of_ble_eq_true rfl) (Nat.le_of_ble_eq_true rfl) (Nat.le_refl _) (Nat.le_refl _) (Nat.le_of_ble_eq_true rfl) ?_
    cases hf
    exact gret_i C hr hk (kX8_stonesHiding _ (List.mem_of_getElem? (i := 46) rfl)).1
theorem qX8_stonesHiding_19 {b : Bool} {a1 : Nat} {v2 : Int32} {v3 : Int32} {S S' : mT} {r : Int32} (hf : fX8_stonesHiding 19 a1 v2 v3 S = some (r, S')) : mOk l mX8_stonesHiding 3 [.ref (19), .ref a1, .int v2, .int v3] b S (some (.int r)) S' :=
  gMet (by decide) (Nat.le_of_ble_eq_true rfl) rfl (Nat.le_of_ble_eq_true rfl) (fun p e s m args below meth c G C hr hk => bX8_stonesHiding_0_19 C hr hk hf true)
theorem bX8_stonesOf_0_3 (C : mCx p (mR 4) s m args meth c G cX8_stonesOf RX8 3 false 233 54500 233 54500) (hr : meth.sig.returnType = (some .int)) (hk : meth.locks = false) {b : Bool} {a1 : Nat} {S' : mT} {r : Int32} {v2 : Int32} {S : mT} (hf : fX8_stonesOf 3 a1 v2 S = some (r, S')) (ok : Bool) : mW p l e (mR 4) s m args below meth c G 3 233 54500 (mQ below G args s b S' (some (.int r))) (ok, 0, [.ref (3), .ref a1, .int v2], [], mk b S) := by
  unfold fX8_stonesOf at hf
  obtain ⟨hok, hf⟩ := grd_ex hf
  refine msegT C kX8_stonesOf 0 8 (g := ((kI a1 ((5 : Int32) + v2) && true), 8, [.ref (3), .ref a1, .int v2], [.int (S.1 a1 (mIx ((5 : Int32) + v2))), .int v2, .ref a1, .ref (3)], mk b S)) rfl hok ?_
  obtain ⟨x2, S1, hq, hf⟩ := bndC_ex hf
  refine mcall (kd := 0) (vs := [.ref (3), .ref a1, .int v2, .int (S.1 a1 (mIx ((5 : Int32) + v2)))]) (rest := []) (r := (some (.int x2))) (h' := mk b S1) (ok' := true) C lkRX8_73 (qX8_stonesHiding_3 hq) (kX8_stonesOf _ (List.mem_of_getElem? (i := 8) rfl)).1 ⟨_, _, rfl, rfl, Nat.le_of_ble_eq_true rfl, _, _, rfl, rfl, rfl⟩ (Nat.le_of_ble_eq_true rfl) (Nat.le_of_ble_eq_true rfl) (Nat.le_refl _) (Nat.le_refl _) (Nat.le_of_ble_eq_true rfl) ?_
  cases hf
  exact gret_i C hr hk (kX8_stonesOf _ (List.mem_of_getElem? (i := 9) rfl)).1
theorem qX8_stonesOf_3 {b : Bool} {a1 : Nat} {v2 : Int32} {S S' : mT} {r : Int32} (hf : fX8_stonesOf 3 a1 v2 S = some (r, S')) : mOk l mX8_stonesOf 4 [.ref (3), .ref a1, .int v2] b S (some (.int r)) S' :=
  gMet (by decide) (Nat.le_of_ble_eq_true rfl) rfl (Nat.le_of_ble_eq_true rfl) (fun p e s m args below meth c G C hr hk => bX8_stonesOf_0_3 C hr hk hf true)
theorem bX8_stonesOf_0_19 (C : mCx p (mR 4) s m args meth c G cX8_stonesOf RX8 3 false 233 54500 233 54500) (hr : meth.sig.returnType = (some .int)) (hk : meth.locks = false) {b : Bool} {a1 : Nat} {S' : mT} {r : Int32} {v2 : Int32} {S : mT} (hf : fX8_stonesOf 19 a1 v2 S = some (r, S')) (ok : Bool) : mW p l e (mR 4) s m args below meth c G 3 233 54500 (mQ below G args s b S' (some (.int r))) (ok, 0, [.ref (19), .ref a1, .int v2], [], mk b S) := by
  unfold fX8_stonesOf at hf
  obtain ⟨hok, hf⟩ := grd_ex hf
  refine msegT C kX8_stonesOf 0 8 (g := ((kI a1 ((5 : Int32) + v2) && true), 8, [.ref (19), .ref a1, .int v2], [.int (S.1 a1 (mIx ((5 : Int32) + v2))), .int v2, .ref a1, .ref (19)], mk b S)) rfl hok ?_
  obtain ⟨x2, S1, hq, hf⟩ := bndC_ex hf
  refine mcall (kd := 0) (vs := [.ref (19), .ref a1, .int v2, .int (S.1 a1 (mIx ((5 : Int32) + v2)))]) (rest := []) (r := (some (.int x2))) (h' := mk b S1) (ok' := true) C lkRX8_73 (qX8_stonesHiding_19 hq) (kX8_stonesOf _ (List.mem_of_getElem? (i := 8) rfl)).1 ⟨_, _, rfl, rfl, Nat.le_of_ble_eq_true rfl, _, _, rfl, rfl, rfl⟩ (Nat.le_of_ble_eq_true rfl) (Nat.le_of_ble_eq_true rfl) (Nat.le_refl _) (Nat.le_refl _) (Nat.le_of_ble_eq_true rfl) ?_
  cases hf
  exact gret_i C hr hk (kX8_stonesOf _ (List.mem_of_getElem? (i := 9) rfl)).1
theorem qX8_stonesOf_19 {b : Bool} {a1 : Nat} {v2 : Int32} {S S' : mT} {r : Int32} (hf : fX8_stonesOf 19 a1 v2 S = some (r, S')) : mOk l mX8_stonesOf 4 [.ref (19), .ref a1, .int v2] b S (some (.int r)) S' :=
  gMet (by decide) (Nat.le_of_ble_eq_true rfl) rfl (Nat.le_of_ble_eq_true rfl) (fun p e s m args below meth c G C hr hk => bX8_stonesOf_0_19 C hr hk hf true)
theorem bX8_passSummer_84_3 (C : mCx p (mR 5) s m args meth c G cX8_passSummer RX8 3 false 233 54500 233 54500) (hr : meth.sig.returnType = none) (hk : meth.locks = false) {b : Bool} {a1 : Nat} {S' : mT} {S : mT} (hf : fX8_passSummer_84 3 a1 S = some S') (ok : Bool) : mW p l e (mR 5) s m args below meth c G 3 233 54500 (mQ below G args s b S' none) (ok, 84, [.retAddr 0, .ref a1, .retAddr 0], [], mk b S) := by
  unfold fX8_passSummer_84 at hf
  obtain ⟨hok, hf⟩ := grd_ex hf
  refine msegT C kX8_passSummer 48 7 (g := ((kI a1 (15 : Int32) && (kI a1 (15 : Int32) && true)), 92, [.retAddr 0, .ref a1, .retAddr 0], [], mk b (sI S a1 (mIx (15 : Int32)) ((S.1 a1 (mIx (15 : Int32))) + (1 : Int32))))) rfl hok ?_
  obtain ⟨S7, eS7, hf⟩ := bnd_ex hf
  rw [← eS7]
  cases hf
  exact gret_v C hr hk (kX8_passSummer _ (List.mem_of_getElem? (i := 55) rfl)).1
theorem bX8_passSummer_64_3 (C : mCx p (mR 5) s m args meth c G cX8_passSummer RX8 3 false 233 54500 233 54500) (hr : meth.sig.returnType = none) (hk : meth.locks = false) {b : Bool} {a1 : Nat} {S' : mT} : ∀ (k : Nat) (v2 : Int32) (S : mT), fX8_passSummer_64 3 a1 k v2 S = some S' → ∀ ok : Bool, mW p l e (mR 5) s m args below meth c G 3 233 54500 (mQ below G args s b S' none) (ok, 64, [.ref (3), .ref a1, .int v2], [], mk b S) := by
  intro k
  induction k with
  | zero =>
    intro v2 S hf ok
    cases hf
  | succ k ih =>
    intro v2 S hf ok
    unfold fX8_passSummer_64 at hf
    obtain ⟨hok, hf⟩ := grd_ex hf
    refine msegT C kX8_passSummer 38 4 (g := ((kO 3 8 && true), (if (S.1 3 9) ≤ v2 then 84 else 72), [.ref (3), .ref a1, .int v2], [], mk b S)) rfl hok ?_
    by_cases hc : (S.1 3 9) ≤ v2
    · rw [if_pos hc] at hf ⊢
      exact mfor (L' := [.retAddr 0, .ref a1, .retAddr 0]) ⟨Or.inl rfl, Or.inr rfl, Or.inl rfl, trivial⟩ (bX8_passSummer_84_3 C hr hk hf true)
    · rw [if_neg hc] at hf ⊢
      refine msegT C kX8_passSummer 42 3 (g := (true, 75, [.ref (3), .ref a1, .int v2], [.int v2, .ref a1, .ref (3)], mk b S)) rfl rfl ?_
      obtain ⟨S8, hq, hf⟩ := bndV_ex hf
      refine mcall (kd := 0) (vs := [.ref (3), .ref a1, .int v2]) (rest := []) (r := none) (h' := mk b S8) (ok' := true) C lkRX8_100 (qX8_growHouse_3 hq) (kX8_passSummer _ (List.mem_of_getElem? (i := 45) rfl)).1 ⟨_, _, rfl, rfl, Nat.le_of_ble_eq_true rfl, _, _, rfl, rfl, rfl⟩ (Nat.le_of_ble_eq_true rfl) (Nat.le_of_ble_eq_true rfl) (Nat.le_refl _) (Nat.le_refl _) (Nat.le_of_ble_eq_true rfl) ?_
      refine msegT C kX8_passSummer 46 1 (g := (true, 81, [.ref (3), .ref a1, .int (v2 + (1 : Int32))], [], mk b S8)) rfl rfl ?_
      obtain ⟨x9, ex9, hf⟩ := bnd_ex hf
      rw [← ex9]
      refine msegT C kX8_passSummer 47 1 (g := (true, 64, [.ref (3), .ref a1, .int x9], [], mk b S8)) rfl rfl ?_
      exact mfor (L' := [.ref (3), .ref a1, .int x9]) ⟨Or.inr rfl, Or.inr rfl, Or.inr rfl, trivial⟩ (ih _ _ hf true)
theorem bX8_passSummer_2_3 (C : mCx p (mR 5) s m args meth c G cX8_passSummer RX8 3 false 233 54500 233 54500) (hr : meth.sig.returnType = none) (hk : meth.locks = false) {b : Bool} {a1 : Nat} {S' : mT} : ∀ (k : Nat) (v2 : Int32) (S : mT), fX8_passSummer_2 3 a1 k v2 S = some S' → ∀ ok : Bool, mW p l e (mR 5) s m args below meth c G 3 233 54500 (mQ below G args s b S' none) (ok, 2, [.ref (3), .ref a1, .int v2], [], mk b S) := by
  intro k
  induction k with
  | zero =>
    intro v2 S hf ok
    cases hf
  | succ k ih =>
    intro v2 S hf ok
    unfold fX8_passSummer_2 at hf
    obtain ⟨hok, hf⟩ := grd_ex hf
    refine msegT C kX8_passSummer 2 4 (g := ((kO 3 8 && true), (if (S.1 3 9) ≤ v2 then 28 else 10), [.ref (3), .ref a1, .int v2], [], mk b S)) rfl hok ?_
    by_cases hc : (S.1 3 9) ≤ v2
    · rw [if_pos hc] at hf ⊢
      obtain ⟨hok, hf⟩ := grd_ex hf
      refine msegT C kX8_passSummer 17 12 (g := ((kI a1 (16 : Int32) && (decide (¬ (1000 : Int32) = 0) && (kI a1 (16 : Int32) && true))), 47, [.ref (3), .ref a1, .int v2], [], mk b (sI S a1 (mIx (16 : Int32)) ((((S.1 a1 (mIx (16 : Int32))) * (137 : Int32)) + (71 : Int32)) - (((S.1 a1 (mIx (16 : Int32))) * (137 : Int32)) + (71 : Int32)) / (1000 : Int32) * (1000 : Int32))))) rfl hok ?_
      obtain ⟨S1, eS1, hf⟩ := bnd_ex hf
      rw [← eS1]
      refine msegT C kX8_passSummer 29 2 (g := (true, 49, [.ref (3), .ref a1, .int v2], [.ref a1, .ref (3)], mk b S1)) rfl rfl ?_
      obtain ⟨S2, hq, hf⟩ := bndV_ex hf
      refine mcall (kd := 0) (vs := [.ref (3), .ref a1]) (rest := []) (r := none) (h' := mk b S2) (ok' := true) C lkRX8_96 (qX8_sendMagpie_3 hq) (kX8_passSummer _ (List.mem_of_getElem? (i := 31) rfl)).1 ⟨_, _, rfl, rfl, Nat.le_of_ble_eq_true rfl, _, _, rfl, rfl, rfl⟩ (Nat.le_of_ble_eq_true rfl) (Nat.le_of_ble_eq_true rfl) (Nat.le_refl _) (Nat.le_refl _) (Nat.le_of_ble_eq_true rfl) ?_
      obtain ⟨hok, hf⟩ := grd_ex hf
      refine msegT C kX8_passSummer 32 4 (g := ((kO (3 + 12) 0 && (kO 3 8 && true)), (if (S2.1 (3 + 12) 4) = 0 then 84 else 62), [.ref (3), .ref a1, .int v2], [], mk b S2)) rfl hok ?_
      by_cases hc : (S2.1 (3 + 12) 4) = 0
      · rw [if_pos hc] at hf ⊢
        exact mfor (L' := [.retAddr 0, .ref a1, .retAddr 0]) ⟨Or.inl rfl, Or.inr rfl, Or.inl rfl, trivial⟩ (bX8_passSummer_84_3 C hr hk hf true)
      · rw [if_neg hc] at hf ⊢
        refine msegT C kX8_passSummer 36 2 (g := (true, 64, [.ref (3), .ref a1, .int (0 : Int32)], [], mk b S2)) rfl rfl ?_
        exact mfor (L' := [.ref (3), .ref a1, .int (0 : Int32)]) ⟨Or.inr rfl, Or.inr rfl, Or.inr rfl, trivial⟩ (bX8_passSummer_64_3 C hr hk _ _ _ hf true)
    · rw [if_neg hc] at hf ⊢
      refine msegT C kX8_passSummer 6 7 (g := (true, 18, [.ref (3), .ref a1, .int v2], [.int v2, .ref a1, .ref (3), .int ((10 : Int32) + v2), .ref a1], mk b S)) rfl rfl ?_
      obtain ⟨x4, S3, hq, hf⟩ := bndC_ex hf
      refine mcall (kd := 0) (vs := [.ref (3), .ref a1, .int v2]) (rest := [.int ((10 : Int32) + v2), .ref a1]) (r := (some (.int x4))) (h' := mk b S3) (ok' := true) C lkRX8_92 (qX8_stonesOf_3 hq) (kX8_passSummer _ (List.mem_of_getElem? (i := 13) rfl)).1 ⟨_, _, rfl, rfl, Nat.le_of_ble_eq_true rfl, _, _, rfl, rfl, rfl⟩ (Nat.le_of_ble_eq_true rfl) (Nat.le_of_ble_eq_true rfl) (Nat.le_refl _) (Nat.le_refl _) (Nat.le_of_ble_eq_true rfl) ?_
      obtain ⟨hok, hf⟩ := grd_ex hf
      refine msegT C kX8_passSummer 14 1 (g := ((kI a1 ((10 : Int32) + v2) && true), 22, [.ref (3), .ref a1, .int v2], [], mk b (sI S3 a1 (mIx ((10 : Int32) + v2)) x4))) rfl hok ?_
      obtain ⟨S5, eS5, hf⟩ := bnd_ex hf
      rw [← eS5]
      refine msegT C kX8_passSummer 15 1 (g := (true, 25, [.ref (3), .ref a1, .int (v2 + (1 : Int32))], [], mk b S5)) rfl rfl ?_
      obtain ⟨x6, ex6, hf⟩ := bnd_ex hf
      rw [← ex6]
      refine msegT C kX8_passSummer 16 1 (g := (true, 2, [.ref (3), .ref a1, .int x6], [], mk b S5)) rfl rfl ?_
      exact mfor (L' := [.ref (3), .ref a1, .int x6]) ⟨Or.inr rfl, Or.inr rfl, Or.inr rfl, trivial⟩ (ih _ _ hf true)
theorem bX8_passSummer_0_3 (C : mCx p (mR 5) s m args meth c G cX8_passSummer RX8 3 false 233 54500 233 54500) (hr : meth.sig.returnType = none) (hk : meth.locks = false) {b : Bool} {a1 : Nat} {S' : mT} {S : mT} (hf : fX8_passSummer 3 a1 S = some S') (ok : Bool) : mW p l e (mR 5) s m args below meth c G 3 233 54500 (mQ below G args s b S' none) (ok, 0, [.ref (3), .ref a1, .retAddr 0], [], mk b S) := by
  unfold fX8_passSummer at hf
  refine msegT C kX8_passSummer 0 2 (g := (true, 2, [.ref (3), .ref a1, .int (0 : Int32)], [], mk b S)) rfl rfl ?_
  exact mfor (L' := [.ref (3), .ref a1, .int (0 : Int32)]) ⟨Or.inr rfl, Or.inr rfl, Or.inr rfl, trivial⟩ (bX8_passSummer_2_3 C hr hk _ _ _ hf true)
theorem qX8_passSummer_3 {b : Bool} {a1 : Nat} {S S' : mT} (hf : fX8_passSummer 3 a1 S = some S') : mOk l mX8_passSummer 5 [.ref (3), .ref a1] b S none S' :=
  gMet (by decide) (Nat.le_of_ble_eq_true rfl) rfl (Nat.le_of_ble_eq_true rfl) (fun p e s m args below meth c G C hr hk => bX8_passSummer_0_3 C hr hk hf true)
theorem bX8_passSummer_84_19 (C : mCx p (mR 5) s m args meth c G cX8_passSummer RX8 3 false 233 54500 233 54500) (hr : meth.sig.returnType = none) (hk : meth.locks = false) {b : Bool} {a1 : Nat} {S' : mT} {S : mT} (hf : fX8_passSummer_84 19 a1 S = some S') (ok : Bool) : mW p l e (mR 5) s m args below meth c G 3 233 54500 (mQ below G args s b S' none) (ok, 84, [.retAddr 0, .ref a1, .retAddr 0], [], mk b S) := by
  unfold fX8_passSummer_84 at hf
  obtain ⟨hok, hf⟩ := grd_ex hf
  refine msegT C kX8_passSummer 48 7 (g := ((kI a1 (15 : Int32) && (kI a1 (15 : Int32) && true)), 92, [.retAddr 0, .ref a1, .retAddr 0], [], mk b (sI S a1 (mIx (15 : Int32)) ((S.1 a1 (mIx (15 : Int32))) + (1 : Int32))))) rfl hok ?_
  obtain ⟨S7, eS7, hf⟩ := bnd_ex hf
  rw [← eS7]
  cases hf
  exact gret_v C hr hk (kX8_passSummer _ (List.mem_of_getElem? (i := 55) rfl)).1
theorem bX8_passSummer_64_19 (C : mCx p (mR 5) s m args meth c G cX8_passSummer RX8 3 false 233 54500 233 54500) (hr : meth.sig.returnType = none) (hk : meth.locks = false) {b : Bool} {a1 : Nat} {S' : mT} : ∀ (k : Nat) (v2 : Int32) (S : mT), fX8_passSummer_64 19 a1 k v2 S = some S' → ∀ ok : Bool, mW p l e (mR 5) s m args below meth c G 3 233 54500 (mQ below G args s b S' none) (ok, 64, [.ref (19), .ref a1, .int v2], [], mk b S) := by
  intro k
  induction k with
  | zero =>
    intro v2 S hf ok
    cases hf
  | succ k ih =>
    intro v2 S hf ok
    unfold fX8_passSummer_64 at hf
    obtain ⟨hok, hf⟩ := grd_ex hf
    refine msegT C kX8_passSummer 38 4 (g := ((kO 19 8 && true), (if (S.1 19 9) ≤ v2 then 84 else 72), [.ref (19), .ref a1, .int v2], [], mk b S)) rfl hok ?_
    by_cases hc : (S.1 19 9) ≤ v2
    · rw [if_pos hc] at hf ⊢
      exact mfor (L' := [.retAddr 0, .ref a1, .retAddr 0]) ⟨Or.inl rfl, Or.inr rfl, Or.inl rfl, trivial⟩ (bX8_passSummer_84_19 C hr hk hf true)
    · rw [if_neg hc] at hf ⊢
      refine msegT C kX8_passSummer 42 3 (g := (true, 75, [.ref (19), .ref a1, .int v2], [.int v2, .ref a1, .ref (19)], mk b S)) rfl rfl ?_
      obtain ⟨S8, hq, hf⟩ := bndV_ex hf
      refine mcall (kd := 0) (vs := [.ref (19), .ref a1, .int v2]) (rest := []) (r := none) (h' := mk b S8) (ok' := true) C lkRX8_100 (qX8_growHouse_19 hq) (kX8_passSummer _ (List.mem_of_getElem? (i := 45) rfl)).1 ⟨_, _, rfl, rfl, Nat.le_of_ble_eq_true rfl, _, _, rfl, rfl, rfl⟩ (Nat.le_of_ble_eq_true rfl) (Nat.le_of_ble_eq_true rfl) (Nat.le_refl _) (Nat.le_refl _) (Nat.le_of_ble_eq_true rfl) ?_
      refine msegT C kX8_passSummer 46 1 (g := (true, 81, [.ref (19), .ref a1, .int (v2 + (1 : Int32))], [], mk b S8)) rfl rfl ?_
      obtain ⟨x9, ex9, hf⟩ := bnd_ex hf
      rw [← ex9]
      refine msegT C kX8_passSummer 47 1 (g := (true, 64, [.ref (19), .ref a1, .int x9], [], mk b S8)) rfl rfl ?_
      exact mfor (L' := [.ref (19), .ref a1, .int x9]) ⟨Or.inr rfl, Or.inr rfl, Or.inr rfl, trivial⟩ (ih _ _ hf true)
theorem bX8_passSummer_2_19 (C : mCx p (mR 5) s m args meth c G cX8_passSummer RX8 3 false 233 54500 233 54500) (hr : meth.sig.returnType = none) (hk : meth.locks = false) {b : Bool} {a1 : Nat} {S' : mT} : ∀ (k : Nat) (v2 : Int32) (S : mT), fX8_passSummer_2 19 a1 k v2 S = some S' → ∀ ok : Bool, mW p l e (mR 5) s m args below meth c G 3 233 54500 (mQ below G args s b S' none) (ok, 2, [.ref (19), .ref a1, .int v2], [], mk b S) := by
  intro k
  induction k with
  | zero =>
    intro v2 S hf ok
    cases hf
  | succ k ih =>
    intro v2 S hf ok
    unfold fX8_passSummer_2 at hf
    obtain ⟨hok, hf⟩ := grd_ex hf
    refine msegT C kX8_passSummer 2 4 (g := ((kO 19 8 && true), (if (S.1 19 9) ≤ v2 then 28 else 10), [.ref (19), .ref a1, .int v2], [], mk b S)) rfl hok ?_
    by_cases hc : (S.1 19 9) ≤ v2
    · rw [if_pos hc] at hf ⊢
      obtain ⟨hok, hf⟩ := grd_ex hf
      refine msegT C kX8_passSummer 17 12 (g := ((kI a1 (16 : Int32) && (decide (¬ (1000 : Int32) = 0) && (kI a1 (16 : Int32) && true))), 47, [.ref (19), .ref a1, .int v2], [], mk b (sI S a1 (mIx (16 : Int32)) ((((S.1 a1 (mIx (16 : Int32))) * (137 : Int32)) + (71 : Int32)) - (((S.1 a1 (mIx (16 : Int32))) * (137 : Int32)) + (71 : Int32)) / (1000 : Int32) * (1000 : Int32))))) rfl hok ?_
      obtain ⟨S1, eS1, hf⟩ := bnd_ex hf
      rw [← eS1]
      refine msegT C kX8_passSummer 29 2 (g := (true, 49, [.ref (19), .ref a1, .int v2], [.ref a1, .ref (19)], mk b S1)) rfl rfl ?_
      obtain ⟨S2, hq, hf⟩ := bndV_ex hf
      refine mcall (kd := 0) (vs := [.ref (19), .ref a1]) (rest := []) (r := none) (h' := mk b S2) (ok' := true) C lkRX8_96 (qX8_sendMagpie_19 hq) (kX8_passSummer _ (List.mem_of_getElem? (i := 31) rfl)).1 ⟨_, _, rfl, rfl, Nat.le_of_ble_eq_true rfl, _, _, rfl, rfl, rfl⟩ (Nat.le_of_ble_eq_true rfl) (Nat.le_of_ble_eq_true rfl) (Nat.le_refl _) (Nat.le_refl _) (Nat.le_of_ble_eq_true rfl) ?_
      obtain ⟨hok, hf⟩ := grd_ex hf
      refine msegT C kX8_passSummer 32 4 (g := ((kO (19 + 12) 0 && (kO 19 8 && true)), (if (S2.1 (19 + 12) 4) = 0 then 84 else 62), [.ref (19), .ref a1, .int v2], [], mk b S2)) rfl hok ?_
      by_cases hc : (S2.1 (19 + 12) 4) = 0
      · rw [if_pos hc] at hf ⊢
        exact mfor (L' := [.retAddr 0, .ref a1, .retAddr 0]) ⟨Or.inl rfl, Or.inr rfl, Or.inl rfl, trivial⟩ (bX8_passSummer_84_19 C hr hk hf true)
      · rw [if_neg hc] at hf ⊢
        refine msegT C kX8_passSummer 36 2 (g := (true, 64, [.ref (19), .ref a1, .int (0 : Int32)], [], mk b S2)) rfl rfl ?_
        exact mfor (L' := [.ref (19), .ref a1, .int (0 : Int32)]) ⟨Or.inr rfl, Or.inr rfl, Or.inr rfl, trivial⟩ (bX8_passSummer_64_19 C hr hk _ _ _ hf true)
    · rw [if_neg hc] at hf ⊢
      refine msegT C kX8_passSummer 6 7 (g := (true, 18, [.ref (19), .ref a1, .int v2], [.int v2, .ref a1, .ref (19), .int ((10 : Int32) + v2), .ref a1], mk b S)) rfl rfl ?_
      obtain ⟨x4, S3, hq, hf⟩ := bndC_ex hf
      refine mcall (kd := 0) (vs := [.ref (19), .ref a1, .int v2]) (rest := [.int ((10 : Int32) + v2), .ref a1]) (r := (some (.int x4))) (h' := mk b S3) (ok' := true) C lkRX8_92 (qX8_stonesOf_19 hq) (kX8_passSummer _ (List.mem_of_getElem? (i := 13) rfl)).1 ⟨_, _, rfl, rfl, Nat.le_of_ble_eq_true rfl, _, _, rfl, rfl, rfl⟩ (Nat.le_of_ble_eq_true rfl) (Nat.le_of_ble_eq_true rfl) (Nat.le_refl _) (Nat.le_refl _) (Nat.le_of_ble_eq_true rfl) ?_
      obtain ⟨hok, hf⟩ := grd_ex hf
      refine msegT C kX8_passSummer 14 1 (g := ((kI a1 ((10 : Int32) + v2) && true), 22, [.ref (19), .ref a1, .int v2], [], mk b (sI S3 a1 (mIx ((10 : Int32) + v2)) x4))) rfl hok ?_
      obtain ⟨S5, eS5, hf⟩ := bnd_ex hf
      rw [← eS5]
      refine msegT C kX8_passSummer 15 1 (g := (true, 25, [.ref (19), .ref a1, .int (v2 + (1 : Int32))], [], mk b S5)) rfl rfl ?_
      obtain ⟨x6, ex6, hf⟩ := bnd_ex hf
      rw [← ex6]
      refine msegT C kX8_passSummer 16 1 (g := (true, 2, [.ref (19), .ref a1, .int x6], [], mk b S5)) rfl rfl ?_
      exact mfor (L' := [.ref (19), .ref a1, .int x6]) ⟨Or.inr rfl, Or.inr rfl, Or.inr rfl, trivial⟩ (ih _ _ hf true)
theorem bX8_passSummer_0_19 (C : mCx p (mR 5) s m args meth c G cX8_passSummer RX8 3 false 233 54500 233 54500) (hr : meth.sig.returnType = none) (hk : meth.locks = false) {b : Bool} {a1 : Nat} {S' : mT} {S : mT} (hf : fX8_passSummer 19 a1 S = some S') (ok : Bool) : mW p l e (mR 5) s m args below meth c G 3 233 54500 (mQ below G args s b S' none) (ok, 0, [.ref (19), .ref a1, .retAddr 0], [], mk b S) := by
  unfold fX8_passSummer at hf
  refine msegT C kX8_passSummer 0 2 (g := (true, 2, [.ref (19), .ref a1, .int (0 : Int32)], [], mk b S)) rfl rfl ?_
  exact mfor (L' := [.ref (19), .ref a1, .int (0 : Int32)]) ⟨Or.inr rfl, Or.inr rfl, Or.inr rfl, trivial⟩ (bX8_passSummer_2_19 C hr hk _ _ _ hf true)
theorem qX8_passSummer_19 {b : Bool} {a1 : Nat} {S S' : mT} (hf : fX8_passSummer 19 a1 S = some S') : mOk l mX8_passSummer 5 [.ref (19), .ref a1] b S none S' :=
  gMet (by decide) (Nat.le_of_ble_eq_true rfl) rfl (Nat.le_of_ble_eq_true rfl) (fun p e s m args below meth c G C hr hk => bX8_passSummer_0_19 C hr hk hf true)
theorem bX11_foresee_17_f (C : mCx p (mR 6) s m args meth c G cX11_foresee RX11 3 false 233 54500 233 54500) (hr : meth.sig.returnType = none) (hk : meth.locks = false) {S' : mT} : ∀ (k : Nat) (v1 : Int32) (v2 : Int32) (S : mT), fX11_foresee_17 false k v1 v2 S = some S' → ∀ ok : Bool, mW p l e (mR 6) s m args below meth c G 3 233 54500 (mQ below G args s false S' none) (ok, 17, [.ref (0), .int v1, .int v2], [], mk false S) := by
  intro k
  induction k with
  | zero =>
    intro v1 v2 S hf ok
    cases hf
  | succ k ih =>
    intro v1 v2 S hf ok
    unfold fX11_foresee_17 at hf
    refine msegT C kX11_foresee 10 3 (g := (true, (if v1 ≤ v2 then 39 else 22), [.ref (0), .int v1, .int v2], [], mk false S)) rfl rfl ?_
    by_cases hc : v1 ≤ v2
    · rw [if_pos hc] at hf ⊢
      cases hf
      exact gret_v C hr hk (kX11_foresee _ (List.mem_of_getElem? (i := 20) rfl)).1
    · rw [if_neg hc] at hf ⊢
      obtain ⟨hok, hf⟩ := grd_ex hf
      refine msegT C kX11_foresee 13 4 (g := ((kO 0 11 && (kO 0 11 && true)), 30, [.ref (0), .int v1, .int v2], [.ref 36, .ref (shU false)], mk false S)) rfl hok ?_
      obtain ⟨S2, hq, hf⟩ := bndV_ex hf
      refine mcall (kd := 0) (vs := [.ref (shU false), .ref 36]) (rest := []) (r := none) (h' := mk false S2) (ok' := true) C lkRX11_155 (qX8_passSummer_3 hq) (kX11_foresee _ (List.mem_of_getElem? (i := 17) rfl)).1 ⟨_, _, rfl, rfl, Nat.le_of_ble_eq_true rfl, _, _, rfl, rfl, rfl⟩ (Nat.le_of_ble_eq_true rfl) (Nat.le_of_ble_eq_true rfl) (Nat.le_refl _) (Nat.le_refl _) (Nat.le_of_ble_eq_true rfl) ?_
      refine msegT C kX11_foresee 18 1 (g := (true, 36, [.ref (0), .int v1, .int (v2 + (1 : Int32))], [], mk false S2)) rfl rfl ?_
      obtain ⟨x3, ex3, hf⟩ := bnd_ex hf
      rw [← ex3]
      refine msegT C kX11_foresee 19 1 (g := (true, 17, [.ref (0), .int v1, .int x3], [], mk false S2)) rfl rfl ?_
      exact mfor (L' := [.ref (0), .int v1, .int x3]) ⟨Or.inr rfl, Or.inr rfl, Or.inr rfl, trivial⟩ (ih _ _ _ hf true)
theorem bX11_foresee_0_f (C : mCx p (mR 6) s m args meth c G cX11_foresee RX11 3 false 233 54500 233 54500) (hr : meth.sig.returnType = none) (hk : meth.locks = false) {S' : mT} {v1 : Int32} {S : mT} (hf : fX11_foresee false v1 S = some S') (ok : Bool) : mW p l e (mR 6) s m args below meth c G 3 233 54500 (mQ below G args s false S' none) (ok, 0, [.ref (0), .int v1, .retAddr 0], [], mk false S) := by
  unfold fX11_foresee at hf
  obtain ⟨hok, hf⟩ := grd_ex hf
  refine msegT C kX11_foresee 0 8 (g := ((kC 35 36 (0 : Int32) (0 : Int32) (17 : Int32) && (kO 0 11 && (kO 0 11 && true))), 15, [.ref (0), .int v1, .retAddr 0], [], mk false (sC S 35 36 (0 : Int32) (0 : Int32) (17 : Int32)))) rfl hok ?_
  obtain ⟨S1, eS1, hf⟩ := bnd_ex hf
  rw [← eS1]
  refine msegT C kX11_foresee 8 2 (g := (true, 17, [.ref (0), .int v1, .int (0 : Int32)], [], mk false S1)) rfl rfl ?_
  exact mfor (L' := [.ref (0), .int v1, .int (0 : Int32)]) ⟨Or.inr rfl, Or.inr rfl, Or.inr rfl, trivial⟩ (bX11_foresee_17_f C hr hk _ _ _ _ hf true)
theorem qX11_foresee_f {v1 : Int32} {S S' : mT} (hf : fX11_foresee false v1 S = some S') : mOk l mX11_foresee 6 [.ref (0), .int v1] false S none S' :=
  gMet (by decide) (Nat.le_of_ble_eq_true rfl) rfl (Nat.le_of_ble_eq_true rfl) (fun p e s m args below meth c G C hr hk => bX11_foresee_0_f C hr hk hf true)
theorem bX11_foresee_17_t (C : mCx p (mR 6) s m args meth c G cX11_foresee RX11 3 false 233 54500 233 54500) (hr : meth.sig.returnType = none) (hk : meth.locks = false) {S' : mT} : ∀ (k : Nat) (v1 : Int32) (v2 : Int32) (S : mT), fX11_foresee_17 true k v1 v2 S = some S' → ∀ ok : Bool, mW p l e (mR 6) s m args below meth c G 3 233 54500 (mQ below G args s true S' none) (ok, 17, [.ref (0), .int v1, .int v2], [], mk true S) := by
  intro k
  induction k with
  | zero =>
    intro v1 v2 S hf ok
    cases hf
  | succ k ih =>
    intro v1 v2 S hf ok
    unfold fX11_foresee_17 at hf
    refine msegT C kX11_foresee 10 3 (g := (true, (if v1 ≤ v2 then 39 else 22), [.ref (0), .int v1, .int v2], [], mk true S)) rfl rfl ?_
    by_cases hc : v1 ≤ v2
    · rw [if_pos hc] at hf ⊢
      cases hf
      exact gret_v C hr hk (kX11_foresee _ (List.mem_of_getElem? (i := 20) rfl)).1
    · rw [if_neg hc] at hf ⊢
      obtain ⟨hok, hf⟩ := grd_ex hf
      refine msegT C kX11_foresee 13 4 (g := ((kO 0 11 && (kO 0 11 && true)), 30, [.ref (0), .int v1, .int v2], [.ref 36, .ref (shU true)], mk true S)) rfl hok ?_
      obtain ⟨S2, hq, hf⟩ := bndV_ex hf
      refine mcall (kd := 0) (vs := [.ref (shU true), .ref 36]) (rest := []) (r := none) (h' := mk true S2) (ok' := true) C lkRX11_155 (qX8_passSummer_19 hq) (kX11_foresee _ (List.mem_of_getElem? (i := 17) rfl)).1 ⟨_, _, rfl, rfl, Nat.le_of_ble_eq_true rfl, _, _, rfl, rfl, rfl⟩ (Nat.le_of_ble_eq_true rfl) (Nat.le_of_ble_eq_true rfl) (Nat.le_refl _) (Nat.le_refl _) (Nat.le_of_ble_eq_true rfl) ?_
      refine msegT C kX11_foresee 18 1 (g := (true, 36, [.ref (0), .int v1, .int (v2 + (1 : Int32))], [], mk true S2)) rfl rfl ?_
      obtain ⟨x3, ex3, hf⟩ := bnd_ex hf
      rw [← ex3]
      refine msegT C kX11_foresee 19 1 (g := (true, 17, [.ref (0), .int v1, .int x3], [], mk true S2)) rfl rfl ?_
      exact mfor (L' := [.ref (0), .int v1, .int x3]) ⟨Or.inr rfl, Or.inr rfl, Or.inr rfl, trivial⟩ (ih _ _ _ hf true)
theorem bX11_foresee_0_t (C : mCx p (mR 6) s m args meth c G cX11_foresee RX11 3 false 233 54500 233 54500) (hr : meth.sig.returnType = none) (hk : meth.locks = false) {S' : mT} {v1 : Int32} {S : mT} (hf : fX11_foresee true v1 S = some S') (ok : Bool) : mW p l e (mR 6) s m args below meth c G 3 233 54500 (mQ below G args s true S' none) (ok, 0, [.ref (0), .int v1, .retAddr 0], [], mk true S) := by
  unfold fX11_foresee at hf
  obtain ⟨hok, hf⟩ := grd_ex hf
  refine msegT C kX11_foresee 0 8 (g := ((kC 35 36 (0 : Int32) (0 : Int32) (17 : Int32) && (kO 0 11 && (kO 0 11 && true))), 15, [.ref (0), .int v1, .retAddr 0], [], mk true (sC S 35 36 (0 : Int32) (0 : Int32) (17 : Int32)))) rfl hok ?_
  obtain ⟨S1, eS1, hf⟩ := bnd_ex hf
  rw [← eS1]
  refine msegT C kX11_foresee 8 2 (g := (true, 17, [.ref (0), .int v1, .int (0 : Int32)], [], mk true S1)) rfl rfl ?_
  exact mfor (L' := [.ref (0), .int v1, .int (0 : Int32)]) ⟨Or.inr rfl, Or.inr rfl, Or.inr rfl, trivial⟩ (bX11_foresee_17_t C hr hk _ _ _ _ hf true)
theorem qX11_foresee_t {v1 : Int32} {S S' : mT} (hf : fX11_foresee true v1 S = some S') : mOk l mX11_foresee 6 [.ref (0), .int v1] true S none S' :=
  gMet (by decide) (Nat.le_of_ble_eq_true rfl) rfl (Nat.le_of_ble_eq_true rfl) (fun p e s m args below meth c G C hr hk => bX11_foresee_0_t C hr hk hf true)
theorem bX11_lay_0 (C : mCx p (mR 1) s m args meth c G cX11_lay RX11 3 false 233 54500 233 54500) (hr : meth.sig.returnType = none) (hk : meth.locks = false) {b : Bool} {a1 : Nat} {S' : mT} {v2 : Int32} {S : mT} (hf : fX11_lay a1 v2 S = some S') (ok : Bool) : mW p l e (mR 1) s m args below meth c G 3 233 54500 (mQ below G args s b S' none) (ok, 0, [.ref (0), .ref a1, .int v2], [], mk b S) := by
  unfold fX11_lay at hf
  obtain ⟨hok, hf⟩ := grd_ex hf
  refine msegT C kX11_lay 0 5 (g := ((kAL 233 (sT a1) a1 && true), 6, [.ref (0), .ref a1, .int v2], [.int (8 : Int32), .int (Int32.ofNat (kLen (sT a1))), .int v2, .ref (0)], mk b S)) rfl hok ?_
  obtain ⟨x1, ex1, hf⟩ := bnd_ex hf
  refine so_min (ok' := true) C (kX11_lay _ (List.mem_of_getElem? (i := 5) rfl)).1 lmRX11_315 (Nat.le_of_ble_eq_true rfl) (Nat.le_refl _) (Nat.le_refl _) ?_
  rw [← ex1]
  obtain ⟨x2, ex2, hf⟩ := bnd_ex hf
  refine so_min (ok' := true) C (kX11_lay _ (List.mem_of_getElem? (i := 6) rfl)).1 lmRX11_315 (Nat.le_of_ble_eq_true rfl) (Nat.le_refl _) (Nat.le_refl _) ?_
  rw [← ex2]
  obtain ⟨hok, hf⟩ := grd_ex hf
  refine msegT C kX11_lay 7 1 (g := ((kO 0 11 && true), 15, [.ref (0), .ref a1, .int v2], [], mk b (sI S 0 13 x2))) rfl hok ?_
  obtain ⟨S3, eS3, hf⟩ := bnd_ex hf
  rw [← eS3]
  obtain ⟨hok, hf⟩ := grd_ex hf
  refine msegT C kX11_lay 8 8 (g := ((kC a1 186 (0 : Int32) (0 : Int32) (S3.1 0 13) && (kO 0 11 && (kO 0 11 && true))), 29, [.ref (0), .ref a1, .int v2], [], mk b (sC S3 a1 186 (0 : Int32) (0 : Int32) (S3.1 0 13)))) rfl hok ?_
  obtain ⟨S4, eS4, hf⟩ := bnd_ex hf
  rw [← eS4]
  cases hf
  exact gret_v C hr hk (kX11_lay _ (List.mem_of_getElem? (i := 16) rfl)).1
theorem qX11_lay {b : Bool} {a1 : Nat} {v2 : Int32} {S S' : mT} (hf : fX11_lay a1 v2 S = some S') : mOk l mX11_lay 1 [.ref (0), .ref a1, .int v2] b S none S' :=
  gMet (by decide) (Nat.le_of_ble_eq_true rfl) rfl (Nat.le_of_ble_eq_true rfl) (fun p e s m args below meth c G C hr hk => bX11_lay_0 C hr hk hf true)
theorem bX11_isHouse_20_f (C : mCx p (mR 1) s m args meth c G cX11_isHouse RX11 2 false 233 54500 233 54500) (hr : meth.sig.returnType = (some .boolean)) (hk : meth.locks = false) {S' : mT} {r : Int32} {s0 : Int32} {S : mT} (hf : fX11_isHouse_20 false s0 S = some (r, S')) (ok : Bool) : mW p l e (mR 1) s m args below meth c G 2 233 54500 (mQ below G args s false S' (some (.int r))) (ok, 20, [.retAddr 0, .retAddr 0], [.int s0], mk false S) := by
  unfold fX11_isHouse_20 at hf
  obtain ⟨hz, hf⟩ := grd_ex hf
  cases hf
  exact gret_z C hr hk (mFit_nar hz) (kX11_isHouse _ (List.mem_of_getElem? (i := 10) rfl)).1
theorem bX11_isHouse_19_f (C : mCx p (mR 1) s m args meth c G cX11_isHouse RX11 2 false 233 54500 233 54500) (hr : meth.sig.returnType = (some .boolean)) (hk : meth.locks = false) {S' : mT} {r : Int32} {S : mT} (hf : fX11_isHouse_19 false S = some (r, S')) (ok : Bool) : mW p l e (mR 1) s m args below meth c G 2 233 54500 (mQ below G args s false S' (some (.int r))) (ok, 19, [.retAddr 0, .retAddr 0], [], mk false S) := by
  unfold fX11_isHouse_19 at hf
  refine msegT C kX11_isHouse 9 1 (g := (true, 20, [.retAddr 0, .retAddr 0], [.int (0 : Int32)], mk false S)) rfl rfl ?_
  exact mfor (L' := [.retAddr 0, .retAddr 0]) ⟨Or.inl rfl, Or.inl rfl, trivial⟩ (bX11_isHouse_20_f C hr hk hf true)
theorem bX11_isHouse_0_f (C : mCx p (mR 1) s m args meth c G cX11_isHouse RX11 2 false 233 54500 233 54500) (hr : meth.sig.returnType = (some .boolean)) (hk : meth.locks = false) {S' : mT} {r : Int32} {v1 : Int32} {S : mT} (hf : fX11_isHouse false v1 S = some (r, S')) (ok : Bool) : mW p l e (mR 1) s m args below meth c G 2 233 54500 (mQ below G args s false S' (some (.int r))) (ok, 0, [.ref (0), .int v1], [], mk false S) := by
  unfold fX11_isHouse at hf
  refine msegT C kX11_isHouse 0 2 (g := (true, (if v1 < 0 then 19 else 4), [.ref (0), .int v1], [], mk false S)) rfl rfl ?_
  by_cases hc : v1 < 0
  · rw [if_pos hc] at hf ⊢
    exact mfor (L' := [.retAddr 0, .retAddr 0]) ⟨Or.inl rfl, Or.inl rfl, trivial⟩ (bX11_isHouse_19_f C hr hk hf true)
  · rw [if_neg hc] at hf ⊢
    obtain ⟨hok, hf⟩ := grd_ex hf
    refine msegT C kX11_isHouse 2 5 (g := ((kO (shU false) 8 && (kO 0 11 && true)), (if (S.1 (shU false) 9) ≤ v1 then 19 else 15), [.ref (0), .int v1], [], mk false S)) rfl hok ?_
    by_cases hc : (S.1 (shU false) 9) ≤ v1
    · rw [if_pos hc] at hf ⊢
      exact mfor (L' := [.retAddr 0, .retAddr 0]) ⟨Or.inl rfl, Or.inl rfl, trivial⟩ (bX11_isHouse_19_f C hr hk hf true)
    · rw [if_neg hc] at hf ⊢
      refine msegT C kX11_isHouse 7 2 (g := (true, 20, [.ref (0), .int v1], [.int (1 : Int32)], mk false S)) rfl rfl ?_
      exact mfor (L' := [.retAddr 0, .retAddr 0]) ⟨Or.inl rfl, Or.inl rfl, trivial⟩ (bX11_isHouse_20_f C hr hk hf true)
theorem qX11_isHouse_f {v1 : Int32} {S S' : mT} {r : Int32} (hf : fX11_isHouse false v1 S = some (r, S')) : mOk l mX11_isHouse 1 [.ref (0), .int v1] false S (some (.int r)) S' :=
  gMet (by decide) (Nat.le_of_ble_eq_true rfl) rfl (Nat.le_of_ble_eq_true rfl) (fun p e s m args below meth c G C hr hk => bX11_isHouse_0_f C hr hk hf true)
theorem bX11_isHouse_20_t (C : mCx p (mR 1) s m args meth c G cX11_isHouse RX11 2 false 233 54500 233 54500) (hr : meth.sig.returnType = (some .boolean)) (hk : meth.locks = false) {S' : mT} {r : Int32} {s0 : Int32} {S : mT} (hf : fX11_isHouse_20 true s0 S = some (r, S')) (ok : Bool) : mW p l e (mR 1) s m args below meth c G 2 233 54500 (mQ below G args s true S' (some (.int r))) (ok, 20, [.retAddr 0, .retAddr 0], [.int s0], mk true S) := by
  unfold fX11_isHouse_20 at hf
  obtain ⟨hz, hf⟩ := grd_ex hf
  cases hf
  exact gret_z C hr hk (mFit_nar hz) (kX11_isHouse _ (List.mem_of_getElem? (i := 10) rfl)).1
theorem bX11_isHouse_19_t (C : mCx p (mR 1) s m args meth c G cX11_isHouse RX11 2 false 233 54500 233 54500) (hr : meth.sig.returnType = (some .boolean)) (hk : meth.locks = false) {S' : mT} {r : Int32} {S : mT} (hf : fX11_isHouse_19 true S = some (r, S')) (ok : Bool) : mW p l e (mR 1) s m args below meth c G 2 233 54500 (mQ below G args s true S' (some (.int r))) (ok, 19, [.retAddr 0, .retAddr 0], [], mk true S) := by
  unfold fX11_isHouse_19 at hf
  refine msegT C kX11_isHouse 9 1 (g := (true, 20, [.retAddr 0, .retAddr 0], [.int (0 : Int32)], mk true S)) rfl rfl ?_
  exact mfor (L' := [.retAddr 0, .retAddr 0]) ⟨Or.inl rfl, Or.inl rfl, trivial⟩ (bX11_isHouse_20_t C hr hk hf true)
theorem bX11_isHouse_0_t (C : mCx p (mR 1) s m args meth c G cX11_isHouse RX11 2 false 233 54500 233 54500) (hr : meth.sig.returnType = (some .boolean)) (hk : meth.locks = false) {S' : mT} {r : Int32} {v1 : Int32} {S : mT} (hf : fX11_isHouse true v1 S = some (r, S')) (ok : Bool) : mW p l e (mR 1) s m args below meth c G 2 233 54500 (mQ below G args s true S' (some (.int r))) (ok, 0, [.ref (0), .int v1], [], mk true S) := by
  unfold fX11_isHouse at hf
  refine msegT C kX11_isHouse 0 2 (g := (true, (if v1 < 0 then 19 else 4), [.ref (0), .int v1], [], mk true S)) rfl rfl ?_
  by_cases hc : v1 < 0
  · rw [if_pos hc] at hf ⊢
    exact mfor (L' := [.retAddr 0, .retAddr 0]) ⟨Or.inl rfl, Or.inl rfl, trivial⟩ (bX11_isHouse_19_t C hr hk hf true)
  · rw [if_neg hc] at hf ⊢
    obtain ⟨hok, hf⟩ := grd_ex hf
    refine msegT C kX11_isHouse 2 5 (g := ((kO (shU true) 8 && (kO 0 11 && true)), (if (S.1 (shU true) 9) ≤ v1 then 19 else 15), [.ref (0), .int v1], [], mk true S)) rfl hok ?_
    by_cases hc : (S.1 (shU true) 9) ≤ v1
    · rw [if_pos hc] at hf ⊢
      exact mfor (L' := [.retAddr 0, .retAddr 0]) ⟨Or.inl rfl, Or.inl rfl, trivial⟩ (bX11_isHouse_19_t C hr hk hf true)
    · rw [if_neg hc] at hf ⊢
      refine msegT C kX11_isHouse 7 2 (g := (true, 20, [.ref (0), .int v1], [.int (1 : Int32)], mk true S)) rfl rfl ?_
      exact mfor (L' := [.retAddr 0, .retAddr 0]) ⟨Or.inl rfl, Or.inl rfl, trivial⟩ (bX11_isHouse_20_t C hr hk hf true)
theorem qX11_isHouse_t {v1 : Int32} {S S' : mT} {r : Int32} (hf : fX11_isHouse true v1 S = some (r, S')) : mOk l mX11_isHouse 1 [.ref (0), .int v1] true S (some (.int r)) S' :=
  gMet (by decide) (Nat.le_of_ble_eq_true rfl) rfl (Nat.le_of_ble_eq_true rfl) (fun p e s m args below meth c G C hr hk => bX11_isHouse_0_t C hr hk hf true)
theorem bX2_keep_35 (C : mCx p (mR 2) s m args meth c G cX2_keep RX2 2 false 233 54500 233 54500) (hr : meth.sig.returnType = none) (hk : meth.locks = false) {b : Bool} {a1 : Nat} {S' : mT} {S : mT} (hf : fX2_keep_35 a1 S = some S') (ok : Bool) : mW p l e (mR 2) s m args below meth c G 2 233 54500 (mQ below G args s b S' none) (ok, 35, [.ref (37), .ref a1], [], mk b S) := by
  unfold fX2_keep_35 at hf
  obtain ⟨hok, hf⟩ := grd_ex hf
  refine msegT C kX2_keep 19 3 (g := ((kO 37 2 && true), 40, [.ref (37), .ref a1], [], mk b (sI S 37 5 (0 : Int32)))) rfl hok ?_
  obtain ⟨S3, eS3, hf⟩ := bnd_ex hf
  rw [← eS3]
  refine msegT C kX2_keep 22 2 (g := (true, 42, [.ref (37), .ref a1], [.ref a1, .ref (37)], mk b S3)) rfl rfl ?_
  obtain ⟨S4, hq, hf⟩ := bndV_ex hf
  refine mcall (kd := 0) (vs := [.ref (37), .ref a1]) (rest := []) (r := none) (h' := mk b S4) (ok' := true) C lkRX2_33 (qX2_copyFrom hq) (kX2_keep _ (List.mem_of_getElem? (i := 24) rfl)).1 ⟨_, _, rfl, rfl, Nat.le_of_ble_eq_true rfl, _, _, rfl, rfl, rfl⟩ (Nat.le_of_ble_eq_true rfl) (Nat.le_of_ble_eq_true rfl) (Nat.le_refl _) (Nat.le_refl _) (Nat.le_of_ble_eq_true rfl) ?_
  cases hf
  exact gret_v C hr hk (kX2_keep _ (List.mem_of_getElem? (i := 25) rfl)).1
theorem bX2_keep_0 (C : mCx p (mR 2) s m args meth c G cX2_keep RX2 2 false 233 54500 233 54500) (hr : meth.sig.returnType = none) (hk : meth.locks = false) {b : Bool} {a1 : Nat} {S' : mT} {S : mT} (hf : fX2_keep a1 S = some S') (ok : Bool) : mW p l e (mR 2) s m args below meth c G 2 233 54500 (mQ below G args s b S' none) (ok, 0, [.ref (37), .ref a1], [], mk b S) := by
  unfold fX2_keep at hf
  obtain ⟨hok, hf⟩ := grd_ex hf
  refine msegT C kX2_keep 0 4 (g := ((kO 37 2 && true), (if (40 : Int32) ≤ (S.1 37 4) then 22 else 9), [.ref (37), .ref a1], [], mk b S)) rfl hok ?_
  by_cases hc : (40 : Int32) ≤ (S.1 37 4)
  · rw [if_pos hc] at hf ⊢
    obtain ⟨hok, hf⟩ := grd_ex hf
    refine msegT C kX2_keep 11 8 (g := ((kO 37 2 && (decide (¬ (41 : Int32) = 0) && (kO 37 2 && true))), 35, [.ref (37), .ref a1], [], mk b (sI S 37 3 (((S.1 37 3) + (1 : Int32)) - ((S.1 37 3) + (1 : Int32)) / (41 : Int32) * (41 : Int32))))) rfl hok ?_
    obtain ⟨S1, eS1, hf⟩ := bnd_ex hf
    rw [← eS1]
    exact mfor (L' := [.ref (37), .ref a1]) ⟨Or.inr rfl, Or.inr rfl, trivial⟩ (bX2_keep_35 C hr hk hf true)
  · rw [if_neg hc] at hf ⊢
    obtain ⟨hok, hf⟩ := grd_ex hf
    refine msegT C kX2_keep 4 6 (g := ((kO 37 2 && (kO 37 2 && true)), 19, [.ref (37), .ref a1], [], mk b (sI S 37 4 ((S.1 37 4) + (1 : Int32))))) rfl hok ?_
    obtain ⟨S2, eS2, hf⟩ := bnd_ex hf
    rw [← eS2]
    refine msegT C kX2_keep 10 1 (g := (true, 35, [.ref (37), .ref a1], [], mk b S2)) rfl rfl ?_
    exact mfor (L' := [.ref (37), .ref a1]) ⟨Or.inr rfl, Or.inr rfl, trivial⟩ (bX2_keep_35 C hr hk hf true)
theorem qX2_keep {b : Bool} {a1 : Nat} {S S' : mT} (hf : fX2_keep a1 S = some S') : mOk l mX2_keep 2 [.ref (37), .ref a1] b S none S' :=
  gMet (by decide) (Nat.le_of_ble_eq_true rfl) rfl (Nat.le_of_ble_eq_true rfl) (fun p e s m args below meth c G C hr hk => bX2_keep_0 C hr hk hf true)
theorem bX11_comes_21_f (C : mCx p (mR 3) s m args meth c G cX11_comes RX11 2 false 233 54500 233 54500) (hr : meth.sig.returnType = (some .int)) (hk : meth.locks = false) {S' : mT} {r : Int32} {S : mT} (hf : fX11_comes_21 false S = some (r, S')) (ok : Bool) : mW p l e (mR 3) s m args below meth c G 2 233 54500 (mQ below G args s false S' (some (.int r))) (ok, 21, [.retAddr 0, .retAddr 0], [], mk false S) := by
  unfold fX11_comes_21 at hf
  refine msegT C kX11_comes 12 1 (g := (true, 22, [.retAddr 0, .retAddr 0], [.int (-1 : Int32)], mk false S)) rfl rfl ?_
  cases hf
  exact gret_i C hr hk (kX11_comes _ (List.mem_of_getElem? (i := 13) rfl)).1
theorem bX11_comes_0_f (C : mCx p (mR 3) s m args meth c G cX11_comes RX11 2 false 233 54500 233 54500) (hr : meth.sig.returnType = (some .int)) (hk : meth.locks = false) {S' : mT} {r : Int32} {v1 : Int32} {S : mT} (hf : fX11_comes false v1 S = some (r, S')) (ok : Bool) : mW p l e (mR 3) s m args below meth c G 2 233 54500 (mQ below G args s false S' (some (.int r))) (ok, 0, [.ref (0), .int v1], [], mk false S) := by
  unfold fX11_comes at hf
  refine msegT C kX11_comes 0 2 (g := (true, 2, [.ref (0), .int v1], [.int v1, .ref (0)], mk false S)) rfl rfl ?_
  obtain ⟨x2, S1, hq, hf⟩ := bndC_ex hf
  refine mcall (kd := 0) (vs := [.ref (0), .int v1]) (rest := []) (r := (some (.int x2))) (h' := mk false S1) (ok' := true) C lkRX11_124 (qX11_isHouse_f hq) (kX11_comes _ (List.mem_of_getElem? (i := 2) rfl)).1 ⟨_, _, rfl, rfl, Nat.le_of_ble_eq_true rfl, _, _, rfl, rfl, rfl⟩ (Nat.le_of_ble_eq_true rfl) (Nat.le_of_ble_eq_true rfl) (Nat.le_refl _) (Nat.le_refl _) (Nat.le_of_ble_eq_true rfl) ?_
  refine msegT C kX11_comes 3 1 (g := (true, (if x2 = 0 then 21 else 8), [.ref (0), .int v1], [], mk false S1)) rfl rfl ?_
  by_cases hc : x2 = 0
  · rw [if_pos hc] at hf ⊢
    exact mfor (L' := [.retAddr 0, .retAddr 0]) ⟨Or.inl rfl, Or.inl rfl, trivial⟩ (bX11_comes_21_f C hr hk hf true)
  · rw [if_neg hc] at hf ⊢
    obtain ⟨hok, hf⟩ := grd_ex hf
    refine msegT C kX11_comes 4 8 (g := ((kI 35 ((0 : Int32) + v1) && (kO 0 11 && true)), (if (S1.1 35 (mIx ((0 : Int32) + v1))) < (7 : Int32) then 23 else 21), [.ref (0), .int v1], [], mk false S1)) rfl hok ?_
    by_cases hc : (S1.1 35 (mIx ((0 : Int32) + v1))) < (7 : Int32)
    · rw [if_pos hc] at hf ⊢
      obtain ⟨hok, hf⟩ := grd_ex hf
      refine msegT C kX11_comes 14 10 (g := ((kI 35 ((0 : Int32) + v1) && (kI 35 ((0 : Int32) + v1) && (kO 0 11 && true))), 35, [.ref (0), .int v1], [], mk false (sI S1 35 (mIx ((0 : Int32) + v1)) ((S1.1 35 (mIx ((0 : Int32) + v1))) + (1 : Int32))))) rfl hok ?_
      obtain ⟨S3, eS3, hf⟩ := bnd_ex hf
      rw [← eS3]
      obtain ⟨hok, hf⟩ := grd_ex hf
      refine msegT C kX11_comes 24 4 (g := ((kO 0 11 && (kO 0 11 && true)), 43, [.ref (0), .int v1], [.ref 35, .ref 37], mk false S3)) rfl hok ?_
      obtain ⟨S4, hq, hf⟩ := bndV_ex hf
      refine mcall (kd := 0) (vs := [.ref 37, .ref 35]) (rest := []) (r := none) (h' := mk false S4) (ok' := true) C lkRX11_149 (qX2_keep hq) (kX11_comes _ (List.mem_of_getElem? (i := 28) rfl)).1 ⟨_, _, rfl, rfl, Nat.le_of_ble_eq_true rfl, _, _, rfl, rfl, rfl⟩ (Nat.le_of_ble_eq_true rfl) (Nat.le_of_ble_eq_true rfl) (Nat.le_refl _) (Nat.le_refl _) (Nat.le_of_ble_eq_true rfl) ?_
      obtain ⟨hok, hf⟩ := grd_ex hf
      refine msegT C kX11_comes 29 6 (g := ((kI 35 ((0 : Int32) + v1) && (kO 0 11 && true)), 54, [.ref (0), .int v1], [.int (S4.1 35 (mIx ((0 : Int32) + v1)))], mk false S4)) rfl hok ?_
      cases hf
      exact gret_i C hr hk (kX11_comes _ (List.mem_of_getElem? (i := 35) rfl)).1
    · rw [if_neg hc] at hf ⊢
      exact mfor (L' := [.retAddr 0, .retAddr 0]) ⟨Or.inl rfl, Or.inl rfl, trivial⟩ (bX11_comes_21_f C hr hk hf true)
theorem qX11_comes_f {v1 : Int32} {S S' : mT} {r : Int32} (hf : fX11_comes false v1 S = some (r, S')) : mOk l mX11_comes 3 [.ref (0), .int v1] false S (some (.int r)) S' :=
  gMet (by decide) (Nat.le_of_ble_eq_true rfl) rfl (Nat.le_of_ble_eq_true rfl) (fun p e s m args below meth c G C hr hk => bX11_comes_0_f C hr hk hf true)
theorem bX11_comes_21_t (C : mCx p (mR 3) s m args meth c G cX11_comes RX11 2 false 233 54500 233 54500) (hr : meth.sig.returnType = (some .int)) (hk : meth.locks = false) {S' : mT} {r : Int32} {S : mT} (hf : fX11_comes_21 true S = some (r, S')) (ok : Bool) : mW p l e (mR 3) s m args below meth c G 2 233 54500 (mQ below G args s true S' (some (.int r))) (ok, 21, [.retAddr 0, .retAddr 0], [], mk true S) := by
  unfold fX11_comes_21 at hf
  refine msegT C kX11_comes 12 1 (g := (true, 22, [.retAddr 0, .retAddr 0], [.int (-1 : Int32)], mk true S)) rfl rfl ?_
  cases hf
  exact gret_i C hr hk (kX11_comes _ (List.mem_of_getElem? (i := 13) rfl)).1
theorem bX11_comes_0_t (C : mCx p (mR 3) s m args meth c G cX11_comes RX11 2 false 233 54500 233 54500) (hr : meth.sig.returnType = (some .int)) (hk : meth.locks = false) {S' : mT} {r : Int32} {v1 : Int32} {S : mT} (hf : fX11_comes true v1 S = some (r, S')) (ok : Bool) : mW p l e (mR 3) s m args below meth c G 2 233 54500 (mQ below G args s true S' (some (.int r))) (ok, 0, [.ref (0), .int v1], [], mk true S) := by
  unfold fX11_comes at hf
  refine msegT C kX11_comes 0 2 (g := (true, 2, [.ref (0), .int v1], [.int v1, .ref (0)], mk true S)) rfl rfl ?_
  obtain ⟨x2, S1, hq, hf⟩ := bndC_ex hf
  refine mcall (kd := 0) (vs := [.ref (0), .int v1]) (rest := []) (r := (some (.int x2))) (h' := mk true S1) (ok' := true) C lkRX11_124 (qX11_isHouse_t hq) (kX11_comes _ (List.mem_of_getElem? (i := 2) rfl)).1 ⟨_, _, rfl, rfl, Nat.le_of_ble_eq_true rfl, _, _, rfl, rfl, rfl⟩ (Nat.le_of_ble_eq_true rfl) (Nat.le_of_ble_eq_true rfl) (Nat.le_refl _) (Nat.le_refl _) (Nat.le_of_ble_eq_true rfl) ?_
  refine msegT C kX11_comes 3 1 (g := (true, (if x2 = 0 then 21 else 8), [.ref (0), .int v1], [], mk true S1)) rfl rfl ?_
  by_cases hc : x2 = 0
  · rw [if_pos hc] at hf ⊢
    exact mfor (L' := [.retAddr 0, .retAddr 0]) ⟨Or.inl rfl, Or.inl rfl, trivial⟩ (bX11_comes_21_t C hr hk hf true)
  · rw [if_neg hc] at hf ⊢
    obtain ⟨hok, hf⟩ := grd_ex hf
    refine msegT C kX11_comes 4 8 (g := ((kI 35 ((0 : Int32) + v1) && (kO 0 11 && true)), (if (S1.1 35 (mIx ((0 : Int32) + v1))) < (7 : Int32) then 23 else 21), [.ref (0), .int v1], [], mk true S1)) rfl hok ?_
    by_cases hc : (S1.1 35 (mIx ((0 : Int32) + v1))) < (7 : Int32)
    · rw [if_pos hc] at hf ⊢
      obtain ⟨hok, hf⟩ := grd_ex hf
      refine msegT C kX11_comes 14 10 (g := ((kI 35 ((0 : Int32) + v1) && (kI 35 ((0 : Int32) + v1) && (kO 0 11 && true))), 35, [.ref (0), .int v1], [], mk true (sI S1 35 (mIx ((0 : Int32) + v1)) ((S1.1 35 (mIx ((0 : Int32) + v1))) + (1 : Int32))))) rfl hok ?_
      obtain ⟨S3, eS3, hf⟩ := bnd_ex hf
      rw [← eS3]
      obtain ⟨hok, hf⟩ := grd_ex hf
      refine msegT C kX11_comes 24 4 (g := ((kO 0 11 && (kO 0 11 && true)), 43, [.ref (0), .int v1], [.ref 35, .ref 37], mk true S3)) rfl hok ?_
      obtain ⟨S4, hq, hf⟩ := bndV_ex hf
      refine mcall (kd := 0) (vs := [.ref 37, .ref 35]) (rest := []) (r := none) (h' := mk true S4) (ok' := true) C lkRX11_149 (qX2_keep hq) (kX11_comes _ (List.mem_of_getElem? (i := 28) rfl)).1 ⟨_, _, rfl, rfl, Nat.le_of_ble_eq_true rfl, _, _, rfl, rfl, rfl⟩ (Nat.le_of_ble_eq_true rfl) (Nat.le_of_ble_eq_true rfl) (Nat.le_refl _) (Nat.le_refl _) (Nat.le_of_ble_eq_true rfl) ?_
      obtain ⟨hok, hf⟩ := grd_ex hf
      refine msegT C kX11_comes 29 6 (g := ((kI 35 ((0 : Int32) + v1) && (kO 0 11 && true)), 54, [.ref (0), .int v1], [.int (S4.1 35 (mIx ((0 : Int32) + v1)))], mk true S4)) rfl hok ?_
      cases hf
      exact gret_i C hr hk (kX11_comes _ (List.mem_of_getElem? (i := 35) rfl)).1
    · rw [if_neg hc] at hf ⊢
      exact mfor (L' := [.retAddr 0, .retAddr 0]) ⟨Or.inl rfl, Or.inl rfl, trivial⟩ (bX11_comes_21_t C hr hk hf true)
theorem qX11_comes_t {v1 : Int32} {S S' : mT} {r : Int32} (hf : fX11_comes true v1 S = some (r, S')) : mOk l mX11_comes 3 [.ref (0), .int v1] true S (some (.int r)) S' :=
  gMet (by decide) (Nat.le_of_ble_eq_true rfl) rfl (Nat.le_of_ble_eq_true rfl) (fun p e s m args below meth c G C hr hk => bX11_comes_0_t C hr hk hf true)
theorem bX6_busyWith_0 (C : mCx p (mR 1) s m args meth c G cX6_busyWith RX6 3 false 233 54500 233 54500) (hr : meth.sig.returnType = (some .int)) (hk : meth.locks = false) {b : Bool} {S' : mT} {r : Int32} {v1 : Int32} {v2 : Int32} {S : mT} (hf : fX6_busyWith v1 v2 S = some (r, S')) (ok : Bool) : mW p l e (mR 1) s m args below meth c G 3 233 54500 (mQ below G args s b S' (some (.int r))) (ok, 0, [.ref (100), .int v1, .int v2], [], mk b S) := by
  unfold fX6_busyWith at hf
  obtain ⟨hok, hf⟩ := grd_ex hf
  refine msegT C kX6_busyWith 0 11 (g := ((kI 101 v2 && (kO 100 6 && (kI 104 v1 && (kO 100 6 && (kO 100 6 && true))))), 17, [.ref (100), .int v1, .int v2], [.int (S.1 101 (mIx v2)), .int (S.1 104 (mIx v1)), .int v1, .ref 104], mk b S)) rfl hok ?_
  obtain ⟨x1, ex1, hf⟩ := bnd_ex hf
  refine so_max (ok' := true) C (kX6_busyWith _ (List.mem_of_getElem? (i := 11) rfl)).1 lmRX6_68 (Nat.le_of_ble_eq_true rfl) (Nat.le_refl _) (Nat.le_refl _) ?_
  rw [← ex1]
  obtain ⟨hok, hf⟩ := grd_ex hf
  refine msegT C kX6_busyWith 12 1 (g := ((kI 104 v1 && true), 21, [.ref (100), .int v1, .int v2], [], mk b (sI S 104 (mIx v1) x1))) rfl hok ?_
  obtain ⟨S2, eS2, hf⟩ := bnd_ex hf
  rw [← eS2]
  obtain ⟨hok, hf⟩ := grd_ex hf
  refine msegT C kX6_busyWith 13 11 (g := ((kI 105 v1 && (kI 102 v2 && (kO 100 6 && (kI 105 v1 && (kO 100 6 && true))))), 36, [.ref (100), .int v1, .int v2], [], mk b (sI S2 105 (mIx v1) ((S2.1 105 (mIx v1)) + (S2.1 102 (mIx v2)))))) rfl hok ?_
  obtain ⟨S3, eS3, hf⟩ := bnd_ex hf
  rw [← eS3]
  obtain ⟨hok, hf⟩ := grd_ex hf
  refine msegT C kX6_busyWith 24 9 (g := ((kI 105 v1 && (kO 100 6 && (kI 104 v1 && (kO 100 6 && true)))), 49, [.ref (100), .int v1, .int v2], [.int ((S3.1 104 (mIx v1)) + (S3.1 105 (mIx v1)))], mk b S3)) rfl hok ?_
  cases hf
  exact gret_i C hr hk (kX6_busyWith _ (List.mem_of_getElem? (i := 33) rfl)).1
theorem qX6_busyWith {b : Bool} {v1 : Int32} {v2 : Int32} {S S' : mT} {r : Int32} (hf : fX6_busyWith v1 v2 S = some (r, S')) : mOk l mX6_busyWith 1 [.ref (100), .int v1, .int v2] b S (some (.int r)) S' :=
  gMet (by decide) (Nat.le_of_ble_eq_true rfl) rfl (Nat.le_of_ble_eq_true rfl) (fun p e s m args below meth c G C hr hk => bX6_busyWith_0 C hr hk hf true)
theorem bX6_putBack_0 (C : mCx p (mR 1) s m args meth c G cX6_putBack RX6 4 false 233 54500 233 54500) (hr : meth.sig.returnType = none) (hk : meth.locks = false) {b : Bool} {S' : mT} {v1 : Int32} {v2 : Int32} {v3 : Int32} {S : mT} (hf : fX6_putBack v1 v2 v3 S = some S') (ok : Bool) : mW p l e (mR 1) s m args below meth c G 4 233 54500 (mQ below G args s b S' none) (ok, 0, [.ref (100), .int v1, .int v2, .int v3], [], mk b S) := by
  unfold fX6_putBack at hf
  obtain ⟨hok, hf⟩ := grd_ex hf
  refine msegT C kX6_putBack 0 5 (g := ((kI 104 v1 && (kO 100 6 && true)), 7, [.ref (100), .int v1, .int v2, .int v3], [], mk b (sI S 104 (mIx v1) v3))) rfl hok ?_
  obtain ⟨S1, eS1, hf⟩ := bnd_ex hf
  rw [← eS1]
  obtain ⟨hok, hf⟩ := grd_ex hf
  refine msegT C kX6_putBack 5 11 (g := ((kI 105 v1 && (kI 102 v2 && (kO 100 6 && (kI 105 v1 && (kO 100 6 && true))))), 22, [.ref (100), .int v1, .int v2, .int v3], [], mk b (sI S1 105 (mIx v1) ((S1.1 105 (mIx v1)) - (S1.1 102 (mIx v2)))))) rfl hok ?_
  obtain ⟨S2, eS2, hf⟩ := bnd_ex hf
  rw [← eS2]
  cases hf
  exact gret_v C hr hk (kX6_putBack _ (List.mem_of_getElem? (i := 16) rfl)).1
theorem qX6_putBack {b : Bool} {v1 : Int32} {v2 : Int32} {v3 : Int32} {S S' : mT} (hf : fX6_putBack v1 v2 v3 S = some S') : mOk l mX6_putBack 1 [.ref (100), .int v1, .int v2, .int v3] b S none S' :=
  gMet (by decide) (Nat.le_of_ble_eq_true rfl) rfl (Nat.le_of_ble_eq_true rfl) (fun p e s m args below meth c G C hr hk => bX6_putBack_0 C hr hk hf true)
theorem bX6_sendFrom_82 {d : Nat} (C : mCx p (mR (2 + (d + 1))) s m args meth c G cX6_sendFrom RX6 8 false 233 54500 233 54500) (hr : meth.sig.returnType = (some .boolean)) (hk : meth.locks = false) {b : Bool} {self : Int32 → Int32 → Int32 → Int32 → mT → Option (Int32 × mT)} (Hself : ∀ {v1 : Int32} {v2 : Int32} {v3 : Int32} {v4 : Int32} {S S' : mT} {r : Int32}, self v1 v2 v3 v4 S = some (r, S') → mOk l mX6_sendFrom (2 + d) [.ref (100), .int v1, .int v2, .int v3, .int v4] b S (some (.int r)) S') {S' : mT} {r : Int32} {rc16 : Int32 → Int32 → Int32 → Int32 → Int32 → Int32 → mT → Option (Int32 × mT)} (Hrc16 : ∀ (v1 : Int32) (v2 : Int32) (v3 : Int32) (v4 : Int32) (v5 : Int32) (v6 : Int32) (S : mT), rc16 v1 v2 v3 v4 v5 v6 S = some (r, S') → ∀ ok : Bool, mW p l e (mR (2 + (d + 1))) s m args below meth c G 8 233 54500 (mQ below G args s b S' (some (.int r))) (ok, 16, [.ref (100), .int v1, .int v2, .int v3, .int v4, .int v5, .int v6, .retAddr 0], [], mk b S)) {v1 : Int32} {v2 : Int32} {v3 : Int32} {v4 : Int32} {v5 : Int32} {v6 : Int32} {v7 : Int32} {S : mT} (hf : fX6_sendFrom_82 self rc16 v1 v2 v3 v4 v5 v6 v7 S = some (r, S')) (ok : Bool) : mW p l e (mR (2 + (d + 1))) s m args below meth c G 8 233 54500 (mQ below G args s b S' (some (.int r))) (ok, 82, [.ref (100), .int v1, .int v2, .int v3, .int v4, .int v5, .int v6, .int v7], [], mk b S) := by
  unfold fX6_sendFrom_82 at hf
  refine msegT C kX6_sendFrom 47 4 (g := (true, 88, [.ref (100), .int v1, .int v2, .int v3, .int v4, .int v5, .int v6, .int v7], [.int v7, .int v1, .int v6, .ref (100)], mk b S)) rfl rfl ?_
  obtain ⟨S8, hq, hf⟩ := bndV_ex hf
  refine mcall (kd := 0) (vs := [.ref (100), .int v6, .int v1, .int v7]) (rest := []) (r := none) (h' := mk b S8) (ok' := true) C lkRX6_73 (qX6_putBack hq) (kX6_sendFrom _ (List.mem_of_getElem? (i := 51) rfl)).1 ⟨_, _, rfl, rfl, Nat.le_of_ble_eq_true rfl, _, _, rfl, rfl, rfl⟩ (by show 1 + 1 ≤ 2 + (d + 1); omega) (by show 19 + 4 + 100 * (1) ≤ 100 * (2 + (d + 1)); omega) (Nat.le_refl _) (Nat.le_refl _) (Nat.le_of_ble_eq_true rfl) ?_
  refine msegT C kX6_sendFrom 52 1 (g := (true, 94, [.ref (100), .int v1, .int v2, .int v3, .int v4, .int v5, .int (v6 + (1 : Int32)), .int v7], [], mk b S8)) rfl rfl ?_
  obtain ⟨x9, ex9, hf⟩ := bnd_ex hf
  rw [← ex9]
  refine msegT C kX6_sendFrom 53 1 (g := (true, 16, [.ref (100), .int v1, .int v2, .int v3, .int v4, .int v5, .int x9, .int v7], [], mk b S8)) rfl rfl ?_
  exact mfor (L' := [.ref (100), .int v1, .int v2, .int v3, .int v4, .int v5, .int x9, .retAddr 0]) ⟨Or.inr rfl, Or.inr rfl, Or.inr rfl, Or.inr rfl, Or.inr rfl, Or.inr rfl, Or.inr rfl, Or.inl rfl, trivial⟩ (Hrc16 _ _ _ _ _ _ _ hf true)
theorem bX6_sendFrom_97 {d : Nat} (C : mCx p (mR (2 + (d + 1))) s m args meth c G cX6_sendFrom RX6 8 false 233 54500 233 54500) (hr : meth.sig.returnType = (some .boolean)) (hk : meth.locks = false) {b : Bool} {self : Int32 → Int32 → Int32 → Int32 → mT → Option (Int32 × mT)} (Hself : ∀ {v1 : Int32} {v2 : Int32} {v3 : Int32} {v4 : Int32} {S S' : mT} {r : Int32}, self v1 v2 v3 v4 S = some (r, S') → mOk l mX6_sendFrom (2 + d) [.ref (100), .int v1, .int v2, .int v3, .int v4] b S (some (.int r)) S') {S' : mT} {r : Int32} {v5 : Int32} {S : mT} (hf : fX6_sendFrom_97 self v5 S = some (r, S')) (ok : Bool) : mW p l e (mR (2 + (d + 1))) s m args below meth c G 8 233 54500 (mQ below G args s b S' (some (.int r))) (ok, 97, [.retAddr 0, .retAddr 0, .retAddr 0, .retAddr 0, .retAddr 0, .int v5, .retAddr 0, .retAddr 0], [], mk b S) := by
  unfold fX6_sendFrom_97 at hf
  refine msegT C kX6_sendFrom 54 1 (g := (true, 99, [.retAddr 0, .retAddr 0, .retAddr 0, .retAddr 0, .retAddr 0, .int v5, .retAddr 0, .retAddr 0], [.int v5], mk b S)) rfl rfl ?_
  obtain ⟨hz, hf⟩ := grd_ex hf
  cases hf
  exact gret_z C hr hk (mFit_nar hz) (kX6_sendFrom _ (List.mem_of_getElem? (i := 55) rfl)).1
theorem bX6_sendFrom_16 {d : Nat} (C : mCx p (mR (2 + (d + 1))) s m args meth c G cX6_sendFrom RX6 8 false 233 54500 233 54500) (hr : meth.sig.returnType = (some .boolean)) (hk : meth.locks = false) {b : Bool} {self : Int32 → Int32 → Int32 → Int32 → mT → Option (Int32 × mT)} (Hself : ∀ {v1 : Int32} {v2 : Int32} {v3 : Int32} {v4 : Int32} {S S' : mT} {r : Int32}, self v1 v2 v3 v4 S = some (r, S') → mOk l mX6_sendFrom (2 + d) [.ref (100), .int v1, .int v2, .int v3, .int v4] b S (some (.int r)) S') {S' : mT} {r : Int32} : ∀ (k : Nat) (v1 : Int32) (v2 : Int32) (v3 : Int32) (v4 : Int32) (v5 : Int32) (v6 : Int32) (S : mT), fX6_sendFrom_16 self k v1 v2 v3 v4 v5 v6 S = some (r, S') → ∀ ok : Bool, mW p l e (mR (2 + (d + 1))) s m args below meth c G 8 233 54500 (mQ below G args s b S' (some (.int r))) (ok, 16, [.ref (100), .int v1, .int v2, .int v3, .int v4, .int v5, .int v6, .retAddr 0], [], mk b S) := by
  intro k
  induction k with
  | zero =>
    intro v1 v2 v3 v4 v5 v6 S hf ok
    cases hf
  | succ k ih =>
    intro v1 v2 v3 v4 v5 v6 S hf ok
    unfold fX6_sendFrom_16 at hf
    refine msegT C kX6_sendFrom 10 3 (g := (true, (if v2 < v6 then 97 else 22), [.ref (100), .int v1, .int v2, .int v3, .int v4, .int v5, .int v6, .retAddr 0], [], mk b S)) rfl rfl ?_
    by_cases hc : v2 < v6
    · rw [if_pos hc] at hf ⊢
      exact mfor (L' := [.retAddr 0, .retAddr 0, .retAddr 0, .retAddr 0, .retAddr 0, .int v5, .retAddr 0, .retAddr 0]) ⟨Or.inl rfl, Or.inl rfl, Or.inl rfl, Or.inl rfl, Or.inl rfl, Or.inr rfl, Or.inl rfl, Or.inl rfl, trivial⟩ (bX6_sendFrom_97 C hr hk Hself hf true)
    · rw [if_neg hc] at hf ⊢
      refine msegT C kX6_sendFrom 13 3 (g := (true, (if v3 ≤ v6 then 97 else 28), [.ref (100), .int v1, .int v2, .int v3, .int v4, .int v5, .int v6, .retAddr 0], [], mk b S)) rfl rfl ?_
      by_cases hc : v3 ≤ v6
      · rw [if_pos hc] at hf ⊢
        exact mfor (L' := [.retAddr 0, .retAddr 0, .retAddr 0, .retAddr 0, .retAddr 0, .int v5, .retAddr 0, .retAddr 0]) ⟨Or.inl rfl, Or.inl rfl, Or.inl rfl, Or.inl rfl, Or.inl rfl, Or.inr rfl, Or.inl rfl, Or.inl rfl, trivial⟩ (bX6_sendFrom_97 C hr hk Hself hf true)
      · rw [if_neg hc] at hf ⊢
        refine msegT C kX6_sendFrom 16 2 (g := (true, (if v5 = 0 then 33 else 97), [.ref (100), .int v1, .int v2, .int v3, .int v4, .int v5, .int v6, .retAddr 0], [], mk b S)) rfl rfl ?_
        by_cases hc : v5 = 0
        · rw [if_pos hc] at hf ⊢
          obtain ⟨hok, hf⟩ := grd_ex hf
          refine msegT C kX6_sendFrom 18 5 (g := ((kI 104 v6 && (kO 100 6 && true)), 42, [.ref (100), .int v1, .int v2, .int v3, .int v4, .int v5, .int v6, .int (S.1 104 (mIx v6))], [], mk b S)) rfl hok ?_
          obtain ⟨x1, ex1, hf⟩ := bnd_ex hf
          rw [← ex1]
          refine msegT C kX6_sendFrom 23 3 (g := (true, 46, [.ref (100), .int v1, .int v2, .int v3, .int v4, .int v5, .int v6, .int x1], [.int v1, .int v6, .ref (100)], mk b S)) rfl rfl ?_
          obtain ⟨x3, S2, hq, hf⟩ := bndC_ex hf
          refine mcall (kd := 0) (vs := [.ref (100), .int v6, .int v1]) (rest := []) (r := (some (.int x3))) (h' := mk b S2) (ok' := true) C lkRX6_64 (qX6_busyWith hq) (kX6_sendFrom _ (List.mem_of_getElem? (i := 26) rfl)).1 ⟨_, _, rfl, rfl, Nat.le_of_ble_eq_true rfl, _, _, rfl, rfl, rfl⟩ (by show 1 + 1 ≤ 2 + (d + 1); omega) (by show 19 + 3 + 100 * (1) ≤ 100 * (2 + (d + 1)); omega) (Nat.le_refl _) (Nat.le_refl _) (Nat.le_of_ble_eq_true rfl) ?_
          refine msegT C kX6_sendFrom 27 2 (g := (true, (if v4 < x3 then 82 else 54), [.ref (100), .int v1, .int v2, .int v3, .int v4, .int v5, .int v6, .int x1], [], mk b S2)) rfl rfl ?_
          by_cases hc : v4 < x3
          · rw [if_pos hc] at hf ⊢
            exact mfor (L' := [.ref (100), .int v1, .int v2, .int v3, .int v4, .int v5, .int v6, .int x1]) ⟨Or.inr rfl, Or.inr rfl, Or.inr rfl, Or.inr rfl, Or.inr rfl, Or.inr rfl, Or.inr rfl, Or.inr rfl, trivial⟩ (bX6_sendFrom_82 C hr hk Hself ih hf true)
          · rw [if_neg hc] at hf ⊢
            obtain ⟨hok, hf⟩ := grd_ex hf
            refine msegT C kX6_sendFrom 29 5 (g := ((kI 103 v1 && (kO 100 6 && true)), 62, [.ref (100), .int v1, .int v2, .int v3, .int v4, .int v5, .int v6, .int x1], [], mk b (sI S2 103 (mIx v1) v6))) rfl hok ?_
            obtain ⟨S4, eS4, hf⟩ := bnd_ex hf
            rw [← eS4]
            refine msegT C kX6_sendFrom 34 8 (g := (true, 71, [.ref (100), .int v1, .int v2, .int v3, .int v4, .int v5, .int v6, .int x1], [.int (v6 + (1 : Int32)), .int v2, .int (v1 + (1 : Int32)), .ref (100)], mk b S4)) rfl rfl ?_
            obtain ⟨x5, ex5, hf⟩ := bnd_ex hf
            refine so_max (ok' := true) C (kX6_sendFrom _ (List.mem_of_getElem? (i := 42) rfl)).1 lmRX6_68 (Nat.le_of_ble_eq_true rfl) (Nat.le_refl _) (Nat.le_refl _) ?_
            rw [← ex5]
            refine msegT C kX6_sendFrom 43 2 (g := (true, 77, [.ref (100), .int v1, .int v2, .int v3, .int v4, .int v5, .int v6, .int x1], [.int v4, .int v3, .int x5, .int (v1 + (1 : Int32)), .ref (100)], mk b S4)) rfl rfl ?_
            obtain ⟨x7, S6, hq, hf⟩ := bndC_ex hf
            refine mcall (kd := 0) (vs := [.ref (100), .int (v1 + (1 : Int32)), .int x5, .int v3, .int v4]) (rest := []) (r := (some (.int x7))) (h' := mk b S6) (ok' := true) C lkRX6_56 (Hself hq) (kX6_sendFrom _ (List.mem_of_getElem? (i := 45) rfl)).1 ⟨_, _, rfl, rfl, Nat.le_of_ble_eq_true rfl, _, _, rfl, rfl, rfl⟩ (by show 2 + d + 1 ≤ 2 + (d + 1); omega) (by show 19 + 8 + 100 * (2 + d) ≤ 100 * (2 + (d + 1)); omega) (Nat.le_refl _) (Nat.le_refl _) (Nat.le_of_ble_eq_true rfl) ?_
            refine msegT C kX6_sendFrom 46 1 (g := (true, 82, [.ref (100), .int v1, .int v2, .int v3, .int v4, .int x7, .int v6, .int x1], [], mk b S6)) rfl rfl ?_
            exact mfor (L' := [.ref (100), .int v1, .int v2, .int v3, .int v4, .int x7, .int v6, .int x1]) ⟨Or.inr rfl, Or.inr rfl, Or.inr rfl, Or.inr rfl, Or.inr rfl, Or.inr rfl, Or.inr rfl, Or.inr rfl, trivial⟩ (bX6_sendFrom_82 C hr hk Hself ih hf true)
        · rw [if_neg hc] at hf ⊢
          exact mfor (L' := [.retAddr 0, .retAddr 0, .retAddr 0, .retAddr 0, .retAddr 0, .int v5, .retAddr 0, .retAddr 0]) ⟨Or.inl rfl, Or.inl rfl, Or.inl rfl, Or.inl rfl, Or.inl rfl, Or.inr rfl, Or.inl rfl, Or.inl rfl, trivial⟩ (bX6_sendFrom_97 C hr hk Hself hf true)
theorem bX6_sendFrom_0 {d : Nat} (C : mCx p (mR (2 + (d + 1))) s m args meth c G cX6_sendFrom RX6 8 false 233 54500 233 54500) (hr : meth.sig.returnType = (some .boolean)) (hk : meth.locks = false) {b : Bool} {self : Int32 → Int32 → Int32 → Int32 → mT → Option (Int32 × mT)} (Hself : ∀ {v1 : Int32} {v2 : Int32} {v3 : Int32} {v4 : Int32} {S S' : mT} {r : Int32}, self v1 v2 v3 v4 S = some (r, S') → mOk l mX6_sendFrom (2 + d) [.ref (100), .int v1, .int v2, .int v3, .int v4] b S (some (.int r)) S') {S' : mT} {r : Int32} {v1 : Int32} {v2 : Int32} {v3 : Int32} {v4 : Int32} {S : mT} (hf : fX6_sendFrom_0 self v1 v2 v3 v4 S = some (r, S')) (ok : Bool) : mW p l e (mR (2 + (d + 1))) s m args below meth c G 8 233 54500 (mQ below G args s b S' (some (.int r))) (ok, 0, [.ref (100), .int v1, .int v2, .int v3, .int v4, .retAddr 0, .retAddr 0, .retAddr 0], [], mk b S) := by
  unfold fX6_sendFrom_0 at hf
  obtain ⟨hok, hf⟩ := grd_ex hf
  refine msegT C kX6_sendFrom 0 4 (g := ((kO 100 6 && true), (if v1 < (S.1 100 8) then 10 else 8), [.ref (100), .int v1, .int v2, .int v3, .int v4, .retAddr 0, .retAddr 0, .retAddr 0], [], mk b S)) rfl hok ?_
  by_cases hc : v1 < (S.1 100 8)
  · rw [if_pos hc] at hf ⊢
    refine msegT C kX6_sendFrom 6 4 (g := (true, 16, [.ref (100), .int v1, .int v2, .int v3, .int v4, .int (0 : Int32), .int (0 : Int32), .retAddr 0], [], mk b S)) rfl rfl ?_
    exact mfor (L' := [.ref (100), .int v1, .int v2, .int v3, .int v4, .int (0 : Int32), .int (0 : Int32), .retAddr 0]) ⟨Or.inr rfl, Or.inr rfl, Or.inr rfl, Or.inr rfl, Or.inr rfl, Or.inr rfl, Or.inr rfl, Or.inl rfl, trivial⟩ (bX6_sendFrom_16 C hr hk Hself _ _ _ _ _ _ _ _ hf true)
  · rw [if_neg hc] at hf ⊢
    refine msegT C kX6_sendFrom 4 1 (g := (true, 9, [.ref (100), .int v1, .int v2, .int v3, .int v4, .retAddr 0, .retAddr 0, .retAddr 0], [.int (1 : Int32)], mk b S)) rfl rfl ?_
    cases hf
    exact gret_z C hr hk (by decide) (kX6_sendFrom _ (List.mem_of_getElem? (i := 5) rfl)).1
theorem qX6_sendFrom {b : Bool} : ∀ (d : Nat) {v1 : Int32} {v2 : Int32} {v3 : Int32} {v4 : Int32} {S S' : mT} {r : Int32} (hf : fX6_sendFrom d v1 v2 v3 v4 S = some (r, S')), mOk l mX6_sendFrom (2 + d) [.ref (100), .int v1, .int v2, .int v3, .int v4] b S (some (.int r)) S' := by
  intro d
  induction d with
  | zero =>
    intro v1 v2 v3 v4 S S' r hf
    cases hf
  | succ d ih =>
    intro v1 v2 v3 v4 S S' r hf
    exact gMet (by decide) (by show 1 ≤ 2 + (d + 1); omega) rfl (Nat.le_of_ble_eq_true rfl) (fun p e s m args below meth c G C hr hk => bX6_sendFrom_0 C hr hk ih hf true)
theorem bX11_will_18_f (C : mCx p (mR 7) s m args meth c G cX11_will RX11 3 false 233 54500 233 54500) (hr : meth.sig.returnType = (some .int)) (hk : meth.locks = false) {S' : mT} {r : Int32} {S : mT} (hf : fX11_will_18 false S = some (r, S')) (ok : Bool) : mW p l e (mR 7) s m args below meth c G 3 233 54500 (mQ below G args s false S' (some (.int r))) (ok, 18, [.retAddr 0, .retAddr 0, .retAddr 0], [], mk false S) := by
  unfold fX11_will_18 at hf
  refine msegT C kX11_will 9 1 (g := (true, 19, [.retAddr 0, .retAddr 0, .retAddr 0], [.int (-1 : Int32)], mk false S)) rfl rfl ?_
  cases hf
  exact gret_i C hr hk (kX11_will _ (List.mem_of_getElem? (i := 10) rfl)).1
theorem bX11_will_0_f (C : mCx p (mR 7) s m args meth c G cX11_will RX11 3 false 233 54500 233 54500) (hr : meth.sig.returnType = (some .int)) (hk : meth.locks = false) {S' : mT} {r : Int32} {v1 : Int32} {v2 : Int32} {S : mT} (hf : fX11_will false v1 v2 S = some (r, S')) (ok : Bool) : mW p l e (mR 7) s m args below meth c G 3 233 54500 (mQ below G args s false S' (some (.int r))) (ok, 0, [.ref (0), .int v1, .int v2], [], mk false S) := by
  unfold fX11_will at hf
  refine msegT C kX11_will 0 2 (g := (true, 2, [.ref (0), .int v1, .int v2], [.int v1, .ref (0)], mk false S)) rfl rfl ?_
  obtain ⟨x2, S1, hq, hf⟩ := bndC_ex hf
  refine mcall (kd := 0) (vs := [.ref (0), .int v1]) (rest := []) (r := (some (.int x2))) (h' := mk false S1) (ok' := true) C lkRX11_124 (qX11_isHouse_f hq) (kX11_will _ (List.mem_of_getElem? (i := 2) rfl)).1 ⟨_, _, rfl, rfl, Nat.le_of_ble_eq_true rfl, _, _, rfl, rfl, rfl⟩ (Nat.le_of_ble_eq_true rfl) (Nat.le_of_ble_eq_true rfl) (Nat.le_refl _) (Nat.le_refl _) (Nat.le_of_ble_eq_true rfl) ?_
  refine msegT C kX11_will 3 1 (g := (true, (if x2 = 0 then 18 else 8), [.ref (0), .int v1, .int v2], [], mk false S1)) rfl rfl ?_
  by_cases hc : x2 = 0
  · rw [if_pos hc] at hf ⊢
    exact mfor (L' := [.retAddr 0, .retAddr 0, .retAddr 0]) ⟨Or.inl rfl, Or.inl rfl, Or.inl rfl, trivial⟩ (bX11_will_18_f C hr hk hf true)
  · rw [if_neg hc] at hf ⊢
    refine msegT C kX11_will 4 3 (g := (true, 12, [.ref (0), .int v1, .int v2], [.int (60 : Int32), .int (0 : Int32), .int v2], mk false S1)) rfl rfl ?_
    obtain ⟨x4, S3, hq, hf⟩ := bndC_ex hf
    refine mcall (kd := 1) (vs := [.int v2, .int (0 : Int32), .int (60 : Int32)]) (rest := []) (r := (some (.int x4))) (h' := mk false S3) (ok' := true) C lkRX11_169 (qX11_isWithin hq) (kX11_will _ (List.mem_of_getElem? (i := 7) rfl)).1 rfl (Nat.le_of_ble_eq_true rfl) (Nat.le_of_ble_eq_true rfl) (Nat.le_refl _) (Nat.le_refl _) (Nat.le_of_ble_eq_true rfl) ?_
    refine msegT C kX11_will 8 1 (g := (true, (if x4 = 0 then 18 else 20), [.ref (0), .int v1, .int v2], [], mk false S3)) rfl rfl ?_
    by_cases hc : x4 = 0
    · rw [if_pos hc] at hf ⊢
      exact mfor (L' := [.retAddr 0, .retAddr 0, .retAddr 0]) ⟨Or.inl rfl, Or.inl rfl, Or.inl rfl, trivial⟩ (bX11_will_18_f C hr hk hf true)
    · rw [if_neg hc] at hf ⊢
      refine msegT C kX11_will 11 2 (g := (true, 22, [.ref (0), .int v1, .int v2], [.int v2, .ref (0)], mk false S3)) rfl rfl ?_
      obtain ⟨S5, hq, hf⟩ := bndV_ex hf
      refine mcall (kd := 0) (vs := [.ref (0), .int v2]) (rest := []) (r := none) (h' := mk false S5) (ok' := true) C lkRX11_173 (qX11_foresee_f hq) (kX11_will _ (List.mem_of_getElem? (i := 13) rfl)).1 ⟨_, _, rfl, rfl, Nat.le_of_ble_eq_true rfl, _, _, rfl, rfl, rfl⟩ (Nat.le_of_ble_eq_true rfl) (Nat.le_of_ble_eq_true rfl) (Nat.le_refl _) (Nat.le_refl _) (Nat.le_of_ble_eq_true rfl) ?_
      obtain ⟨hok, hf⟩ := grd_ex hf
      refine msegT C kX11_will 14 6 (g := ((kI 36 ((0 : Int32) + v1) && (kO 0 11 && true)), 33, [.ref (0), .int v1, .int v2], [.int (S5.1 36 (mIx ((0 : Int32) + v1)))], mk false S5)) rfl hok ?_
      cases hf
      exact gret_i C hr hk (kX11_will _ (List.mem_of_getElem? (i := 20) rfl)).1
theorem qX11_will_f {v1 : Int32} {v2 : Int32} {S S' : mT} {r : Int32} (hf : fX11_will false v1 v2 S = some (r, S')) : mOk l mX11_will 7 [.ref (0), .int v1, .int v2] false S (some (.int r)) S' :=
  gMet (by decide) (Nat.le_of_ble_eq_true rfl) rfl (Nat.le_of_ble_eq_true rfl) (fun p e s m args below meth c G C hr hk => bX11_will_0_f C hr hk hf true)
theorem bX11_will_18_t (C : mCx p (mR 7) s m args meth c G cX11_will RX11 3 false 233 54500 233 54500) (hr : meth.sig.returnType = (some .int)) (hk : meth.locks = false) {S' : mT} {r : Int32} {S : mT} (hf : fX11_will_18 true S = some (r, S')) (ok : Bool) : mW p l e (mR 7) s m args below meth c G 3 233 54500 (mQ below G args s true S' (some (.int r))) (ok, 18, [.retAddr 0, .retAddr 0, .retAddr 0], [], mk true S) := by
  unfold fX11_will_18 at hf
  refine msegT C kX11_will 9 1 (g := (true, 19, [.retAddr 0, .retAddr 0, .retAddr 0], [.int (-1 : Int32)], mk true S)) rfl rfl ?_
  cases hf
  exact gret_i C hr hk (kX11_will _ (List.mem_of_getElem? (i := 10) rfl)).1
theorem bX11_will_0_t (C : mCx p (mR 7) s m args meth c G cX11_will RX11 3 false 233 54500 233 54500) (hr : meth.sig.returnType = (some .int)) (hk : meth.locks = false) {S' : mT} {r : Int32} {v1 : Int32} {v2 : Int32} {S : mT} (hf : fX11_will true v1 v2 S = some (r, S')) (ok : Bool) : mW p l e (mR 7) s m args below meth c G 3 233 54500 (mQ below G args s true S' (some (.int r))) (ok, 0, [.ref (0), .int v1, .int v2], [], mk true S) := by
  unfold fX11_will at hf
  refine msegT C kX11_will 0 2 (g := (true, 2, [.ref (0), .int v1, .int v2], [.int v1, .ref (0)], mk true S)) rfl rfl ?_
  obtain ⟨x2, S1, hq, hf⟩ := bndC_ex hf
  refine mcall (kd := 0) (vs := [.ref (0), .int v1]) (rest := []) (r := (some (.int x2))) (h' := mk true S1) (ok' := true) C lkRX11_124 (qX11_isHouse_t hq) (kX11_will _ (List.mem_of_getElem? (i := 2) rfl)).1 ⟨_, _, rfl, rfl, Nat.le_of_ble_eq_true rfl, _, _, rfl, rfl, rfl⟩ (Nat.le_of_ble_eq_true rfl) (Nat.le_of_ble_eq_true rfl) (Nat.le_refl _) (Nat.le_refl _) (Nat.le_of_ble_eq_true rfl) ?_
  refine msegT C kX11_will 3 1 (g := (true, (if x2 = 0 then 18 else 8), [.ref (0), .int v1, .int v2], [], mk true S1)) rfl rfl ?_
  by_cases hc : x2 = 0
  · rw [if_pos hc] at hf ⊢
    exact mfor (L' := [.retAddr 0, .retAddr 0, .retAddr 0]) ⟨Or.inl rfl, Or.inl rfl, Or.inl rfl, trivial⟩ (bX11_will_18_t C hr hk hf true)
  · rw [if_neg hc] at hf ⊢
    refine msegT C kX11_will 4 3 (g := (true, 12, [.ref (0), .int v1, .int v2], [.int (60 : Int32), .int (0 : Int32), .int v2], mk true S1)) rfl rfl ?_
    obtain ⟨x4, S3, hq, hf⟩ := bndC_ex hf
    refine mcall (kd := 1) (vs := [.int v2, .int (0 : Int32), .int (60 : Int32)]) (rest := []) (r := (some (.int x4))) (h' := mk true S3) (ok' := true) C lkRX11_169 (qX11_isWithin hq) (kX11_will _ (List.mem_of_getElem? (i := 7) rfl)).1 rfl (Nat.le_of_ble_eq_true rfl) (Nat.le_of_ble_eq_true rfl) (Nat.le_refl _) (Nat.le_refl _) (Nat.le_of_ble_eq_true rfl) ?_
    refine msegT C kX11_will 8 1 (g := (true, (if x4 = 0 then 18 else 20), [.ref (0), .int v1, .int v2], [], mk true S3)) rfl rfl ?_
    by_cases hc : x4 = 0
    · rw [if_pos hc] at hf ⊢
      exact mfor (L' := [.retAddr 0, .retAddr 0, .retAddr 0]) ⟨Or.inl rfl, Or.inl rfl, Or.inl rfl, trivial⟩ (bX11_will_18_t C hr hk hf true)
    · rw [if_neg hc] at hf ⊢
      refine msegT C kX11_will 11 2 (g := (true, 22, [.ref (0), .int v1, .int v2], [.int v2, .ref (0)], mk true S3)) rfl rfl ?_
      obtain ⟨S5, hq, hf⟩ := bndV_ex hf
      refine mcall (kd := 0) (vs := [.ref (0), .int v2]) (rest := []) (r := none) (h' := mk true S5) (ok' := true) C lkRX11_173 (qX11_foresee_t hq) (kX11_will _ (List.mem_of_getElem? (i := 13) rfl)).1 ⟨_, _, rfl, rfl, Nat.le_of_ble_eq_true rfl, _, _, rfl, rfl, rfl⟩ (Nat.le_of_ble_eq_true rfl) (Nat.le_of_ble_eq_true rfl) (Nat.le_refl _) (Nat.le_refl _) (Nat.le_of_ble_eq_true rfl) ?_
      obtain ⟨hok, hf⟩ := grd_ex hf
      refine msegT C kX11_will 14 6 (g := ((kI 36 ((0 : Int32) + v1) && (kO 0 11 && true)), 33, [.ref (0), .int v1, .int v2], [.int (S5.1 36 (mIx ((0 : Int32) + v1)))], mk true S5)) rfl hok ?_
      cases hf
      exact gret_i C hr hk (kX11_will _ (List.mem_of_getElem? (i := 20) rfl)).1
theorem qX11_will_t {v1 : Int32} {v2 : Int32} {S S' : mT} {r : Int32} (hf : fX11_will true v1 v2 S = some (r, S')) : mOk l mX11_will 7 [.ref (0), .int v1, .int v2] true S (some (.int r)) S' :=
  gMet (by decide) (Nat.le_of_ble_eq_true rfl) rfl (Nat.le_of_ble_eq_true rfl) (fun p e s m args below meth c G C hr hk => bX11_will_0_t C hr hk hf true)
theorem bX12_truth_9 (C : mCx p (mR 1) s m args meth c G cX12_truth RX12 1 false 233 54500 233 54500) (hr : meth.sig.returnType = (some .int)) (hk : meth.locks = false) {b : Bool} {S' : mT} {r : Int32} {s0 : Int32} {S : mT} (hf : fX12_truth_9 s0 S = some (r, S')) (ok : Bool) : mW p l e (mR 1) s m args below meth c G 1 233 54500 (mQ below G args s b S' (some (.int r))) (ok, 9, [.retAddr 0], [.int s0], mk b S) := by
  unfold fX12_truth_9 at hf
  cases hf
  exact gret_i C hr hk (kX12_truth _ (List.mem_of_getElem? (i := 5) rfl)).1
theorem bX12_truth_0 (C : mCx p (mR 1) s m args meth c G cX12_truth RX12 1 false 233 54500 233 54500) (hr : meth.sig.returnType = (some .int)) (hk : meth.locks = false) {b : Bool} {S' : mT} {r : Int32} {v0 : Int32} {S : mT} (hf : fX12_truth v0 S = some (r, S')) (ok : Bool) : mW p l e (mR 1) s m args below meth c G 1 233 54500 (mQ below G args s b S' (some (.int r))) (ok, 0, [.int v0], [], mk b S) := by
  unfold fX12_truth at hf
  refine msegT C kX12_truth 0 2 (g := (true, (if v0 = 0 then 8 else 4), [.int v0], [], mk b S)) rfl rfl ?_
  by_cases hc : v0 = 0
  · rw [if_pos hc] at hf ⊢
    refine msegT C kX12_truth 4 1 (g := (true, 9, [.int v0], [.int (0 : Int32)], mk b S)) rfl rfl ?_
    exact mfor (L' := [.retAddr 0]) ⟨Or.inl rfl, trivial⟩ (bX12_truth_9 C hr hk hf true)
  · rw [if_neg hc] at hf ⊢
    refine msegT C kX12_truth 2 2 (g := (true, 9, [.int v0], [.int (1 : Int32)], mk b S)) rfl rfl ?_
    exact mfor (L' := [.retAddr 0]) ⟨Or.inl rfl, trivial⟩ (bX12_truth_9 C hr hk hf true)
theorem qX12_truth {b : Bool} {v0 : Int32} {S S' : mT} {r : Int32} (hf : fX12_truth v0 S = some (r, S')) : mOk l mX12_truth 1 [.int v0] b S (some (.int r)) S' :=
  gMet (by decide) (Nat.le_of_ble_eq_true rfl) rfl (Nat.le_of_ble_eq_true rfl) (fun p e s m args below meth c G C hr hk => bX12_truth_0 C hr hk hf true)
theorem bX12_isIn_15 (C : mCx p (mR 1) s m args meth c G cX12_isIn RX12 3 false 233 54500 233 54500) (hr : meth.sig.returnType = (some .boolean)) (hk : meth.locks = false) {b : Bool} {S' : mT} {r : Int32} {s0 : Int32} {S : mT} (hf : fX12_isIn_15 s0 S = some (r, S')) (ok : Bool) : mW p l e (mR 1) s m args below meth c G 3 233 54500 (mQ below G args s b S' (some (.int r))) (ok, 15, [.retAddr 0, .retAddr 0, .retAddr 0], [.int s0], mk b S) := by
  unfold fX12_isIn_15 at hf
  obtain ⟨hz, hf⟩ := grd_ex hf
  cases hf
  exact gret_z C hr hk (mFit_nar hz) (kX12_isIn _ (List.mem_of_getElem? (i := 9) rfl)).1
theorem bX12_isIn_14 (C : mCx p (mR 1) s m args meth c G cX12_isIn RX12 3 false 233 54500 233 54500) (hr : meth.sig.returnType = (some .boolean)) (hk : meth.locks = false) {b : Bool} {S' : mT} {r : Int32} {S : mT} (hf : fX12_isIn_14 S = some (r, S')) (ok : Bool) : mW p l e (mR 1) s m args below meth c G 3 233 54500 (mQ below G args s b S' (some (.int r))) (ok, 14, [.retAddr 0, .retAddr 0, .retAddr 0], [], mk b S) := by
  unfold fX12_isIn_14 at hf
  refine msegT C kX12_isIn 8 1 (g := (true, 15, [.retAddr 0, .retAddr 0, .retAddr 0], [.int (0 : Int32)], mk b S)) rfl rfl ?_
  exact mfor (L' := [.retAddr 0, .retAddr 0, .retAddr 0]) ⟨Or.inl rfl, Or.inl rfl, Or.inl rfl, trivial⟩ (bX12_isIn_15 C hr hk hf true)
theorem bX12_isIn_0 (C : mCx p (mR 1) s m args meth c G cX12_isIn RX12 3 false 233 54500 233 54500) (hr : meth.sig.returnType = (some .boolean)) (hk : meth.locks = false) {b : Bool} {S' : mT} {r : Int32} {v0 : Int32} {v1 : Int32} {v2 : Int32} {S : mT} (hf : fX12_isIn v0 v1 v2 S = some (r, S')) (ok : Bool) : mW p l e (mR 1) s m args below meth c G 3 233 54500 (mQ below G args s b S' (some (.int r))) (ok, 0, [.int v0, .int v1, .int v2], [], mk b S) := by
  unfold fX12_isIn at hf
  refine msegT C kX12_isIn 0 3 (g := (true, (if v0 < v1 then 14 else 5), [.int v0, .int v1, .int v2], [], mk b S)) rfl rfl ?_
  by_cases hc : v0 < v1
  · rw [if_pos hc] at hf ⊢
    exact mfor (L' := [.retAddr 0, .retAddr 0, .retAddr 0]) ⟨Or.inl rfl, Or.inl rfl, Or.inl rfl, trivial⟩ (bX12_isIn_14 C hr hk hf true)
  · rw [if_neg hc] at hf ⊢
    refine msegT C kX12_isIn 3 3 (g := (true, (if v2 < v0 then 14 else 10), [.int v0, .int v1, .int v2], [], mk b S)) rfl rfl ?_
    by_cases hc : v2 < v0
    · rw [if_pos hc] at hf ⊢
      exact mfor (L' := [.retAddr 0, .retAddr 0, .retAddr 0]) ⟨Or.inl rfl, Or.inl rfl, Or.inl rfl, trivial⟩ (bX12_isIn_14 C hr hk hf true)
    · rw [if_neg hc] at hf ⊢
      refine msegT C kX12_isIn 6 2 (g := (true, 15, [.int v0, .int v1, .int v2], [.int (1 : Int32)], mk b S)) rfl rfl ?_
      exact mfor (L' := [.retAddr 0, .retAddr 0, .retAddr 0]) ⟨Or.inl rfl, Or.inl rfl, Or.inl rfl, trivial⟩ (bX12_isIn_15 C hr hk hf true)
theorem qX12_isIn {b : Bool} {v0 : Int32} {v1 : Int32} {v2 : Int32} {S S' : mT} {r : Int32} (hf : fX12_isIn v0 v1 v2 S = some (r, S')) : mOk l mX12_isIn 1 [.int v0, .int v1, .int v2] b S (some (.int r)) S' :=
  gMet (by decide) (Nat.le_of_ble_eq_true rfl) rfl (Nat.le_of_ble_eq_true rfl) (fun p e s m args below meth c G C hr hk => bX12_isIn_0 C hr hk hf true)
theorem bX12_isHouse_0 (C : mCx p (mR 2) s m args meth c G cX12_isHouse RX12 2 false 233 54500 233 54500) (hr : meth.sig.returnType = (some .boolean)) (hk : meth.locks = false) {b : Bool} {S' : mT} {r : Int32} {v1 : Int32} {S : mT} (hf : fX12_isHouse v1 S = some (r, S')) (ok : Bool) : mW p l e (mR 2) s m args below meth c G 2 233 54500 (mQ below G args s b S' (some (.int r))) (ok, 0, [.ref (187), .int v1], [], mk b S) := by
  unfold fX12_isHouse at hf
  obtain ⟨hok, hf⟩ := grd_ex hf
  refine msegT C kX12_isHouse 0 6 (g := ((kO 187 12 && true), 8, [.ref (187), .int v1], [.int ((S.1 187 37) - (1 : Int32)), .int (0 : Int32), .int v1], mk b S)) rfl hok ?_
  obtain ⟨x2, S1, hq, hf⟩ := bndC_ex hf
  refine mcall (kd := 1) (vs := [.int v1, .int (0 : Int32), .int ((S.1 187 37) - (1 : Int32))]) (rest := []) (r := (some (.int x2))) (h' := mk b S1) (ok' := true) C lkRX12_362 (qX12_isIn hq) (kX12_isHouse _ (List.mem_of_getElem? (i := 6) rfl)).1 rfl (Nat.le_of_ble_eq_true rfl) (Nat.le_of_ble_eq_true rfl) (Nat.le_refl _) (Nat.le_refl _) (Nat.le_of_ble_eq_true rfl) ?_
  obtain ⟨hz, hf⟩ := grd_ex hf
  cases hf
  exact gret_z C hr hk (mFit_nar hz) (kX12_isHouse _ (List.mem_of_getElem? (i := 7) rfl)).1
theorem qX12_isHouse {b : Bool} {v1 : Int32} {S S' : mT} {r : Int32} (hf : fX12_isHouse v1 S = some (r, S')) : mOk l mX12_isHouse 2 [.ref (187), .int v1] b S (some (.int r)) S' :=
  gMet (by decide) (Nat.le_of_ble_eq_true rfl) rfl (Nat.le_of_ble_eq_true rfl) (fun p e s m args below meth c G C hr hk => bX12_isHouse_0 C hr hk hf true)
theorem bX12_end_12 (C : mCx p (mR 1) s m args meth c G cX12_end RX12 2 false 233 54500 233 54500) (hr : meth.sig.returnType = (some .int)) (hk : meth.locks = false) {b : Bool} {S' : mT} {r : Int32} {S : mT} (hf : fX12_end_12 S = some (r, S')) (ok : Bool) : mW p l e (mR 1) s m args below meth c G 2 233 54500 (mQ below G args s b S' (some (.int r))) (ok, 12, [.retAddr 0, .retAddr 0], [], mk b S) := by
  unfold fX12_end_12 at hf
  refine msegT C kX12_end 6 1 (g := (true, 13, [.retAddr 0, .retAddr 0], [.int (-1 : Int32)], mk b S)) rfl rfl ?_
  cases hf
  exact gret_i C hr hk (kX12_end _ (List.mem_of_getElem? (i := 7) rfl)).1
theorem bX12_end_0 (C : mCx p (mR 1) s m args meth c G cX12_end RX12 2 false 233 54500 233 54500) (hr : meth.sig.returnType = (some .int)) (hk : meth.locks = false) {b : Bool} {S' : mT} {r : Int32} {v1 : Int32} {S : mT} (hf : fX12_end v1 S = some (r, S')) (ok : Bool) : mW p l e (mR 1) s m args below meth c G 2 233 54500 (mQ below G args s b S' (some (.int r))) (ok, 0, [.ref (187), .int v1], [], mk b S) := by
  unfold fX12_end at hf
  refine msegT C kX12_end 0 2 (g := (true, (if v1 < 0 then 12 else 4), [.ref (187), .int v1], [], mk b S)) rfl rfl ?_
  by_cases hc : v1 < 0
  · rw [if_pos hc] at hf ⊢
    exact mfor (L' := [.retAddr 0, .retAddr 0]) ⟨Or.inl rfl, Or.inl rfl, trivial⟩ (bX12_end_12 C hr hk hf true)
  · rw [if_neg hc] at hf ⊢
    obtain ⟨hok, hf⟩ := grd_ex hf
    refine msegT C kX12_end 2 4 (g := ((kO 187 12 && true), (if v1 ≤ (S.1 187 1) then 14 else 12), [.ref (187), .int v1], [], mk b S)) rfl hok ?_
    by_cases hc : v1 ≤ (S.1 187 1)
    · rw [if_pos hc] at hf ⊢
      obtain ⟨hok, hf⟩ := grd_ex hf
      refine msegT C kX12_end 8 3 (g := ((kO 187 12 && true), 19, [.ref (187), .int v1], [], mk b (sI S 187 1 v1))) rfl hok ?_
      obtain ⟨S1, eS1, hf⟩ := bnd_ex hf
      rw [← eS1]
      refine msegT C kX12_end 11 1 (g := (true, 20, [.ref (187), .int v1], [.int v1], mk b S1)) rfl rfl ?_
      cases hf
      exact gret_i C hr hk (kX12_end _ (List.mem_of_getElem? (i := 12) rfl)).1
    · rw [if_neg hc] at hf ⊢
      exact mfor (L' := [.retAddr 0, .retAddr 0]) ⟨Or.inl rfl, Or.inl rfl, trivial⟩ (bX12_end_12 C hr hk hf true)
theorem qX12_end {b : Bool} {v1 : Int32} {S S' : mT} {r : Int32} (hf : fX12_end v1 S = some (r, S')) : mOk l mX12_end 1 [.ref (187), .int v1] b S (some (.int r)) S' :=
  gMet (by decide) (Nat.le_of_ble_eq_true rfl) rfl (Nat.le_of_ble_eq_true rfl) (fun p e s m args below meth c G C hr hk => bX12_end_0 C hr hk hf true)
theorem bX12_falses_36 (C : mCx p (mR 2) s m args meth c G cX12_falses RX12 3 false 233 54500 233 54500) (hr : meth.sig.returnType = (some .int)) (hk : meth.locks = false) {b : Bool} {S' : mT} {r : Int32} {rc4 : Int32 → Int32 → mT → Option (Int32 × mT)} (Hrc4 : ∀ (v1 : Int32) (v2 : Int32) (S : mT), rc4 v1 v2 S = some (r, S') → ∀ ok : Bool, mW p l e (mR 2) s m args below meth c G 3 233 54500 (mQ below G args s b S' (some (.int r))) (ok, 4, [.ref (187), .int v1, .int v2], [], mk b S)) {v2 : Int32} {s0 : Int32} {s1 : Int32} {S : mT} (hf : fX12_falses_36 rc4 v2 s0 s1 S = some (r, S')) (ok : Bool) : mW p l e (mR 2) s m args below meth c G 3 233 54500 (mQ below G args s b S' (some (.int r))) (ok, 36, [.ref (187), .retAddr 0, .int v2], [.int s0, .int s1], mk b S) := by
  unfold fX12_falses_36 at hf
  obtain ⟨x2, S1, hq, hf⟩ := bndC_ex hf
  refine mcall (kd := 1) (vs := [.int s0]) (rest := [.int s1]) (r := (some (.int x2))) (h' := mk b S1) (ok' := true) C lkRX12_307 (qX12_truth hq) (kX12_falses _ (List.mem_of_getElem? (i := 23) rfl)).1 rfl (Nat.le_of_ble_eq_true rfl) (Nat.le_of_ble_eq_true rfl) (Nat.le_refl _) (Nat.le_refl _) (Nat.le_of_ble_eq_true rfl) ?_
  refine msegT C kX12_falses 24 4 (g := (true, 43, [.ref (187), .int (s1 ||| (x2 <<< (v2 &&& 31))), .int v2], [], mk b S1)) rfl rfl ?_
  obtain ⟨x3, ex3, hf⟩ := bnd_ex hf
  rw [← ex3]
  refine msegT C kX12_falses 28 1 (g := (true, 46, [.ref (187), .int x3, .int (v2 + (1 : Int32))], [], mk b S1)) rfl rfl ?_
  obtain ⟨x4, ex4, hf⟩ := bnd_ex hf
  rw [← ex4]
  refine msegT C kX12_falses 29 1 (g := (true, 4, [.ref (187), .int x3, .int x4], [], mk b S1)) rfl rfl ?_
  exact mfor (L' := [.ref (187), .int x3, .int x4]) ⟨Or.inr rfl, Or.inr rfl, Or.inr rfl, trivial⟩ (Hrc4 _ _ _ hf true)
theorem bX12_falses_4 (C : mCx p (mR 2) s m args meth c G cX12_falses RX12 3 false 233 54500 233 54500) (hr : meth.sig.returnType = (some .int)) (hk : meth.locks = false) {b : Bool} {S' : mT} {r : Int32} : ∀ (k : Nat) (v1 : Int32) (v2 : Int32) (S : mT), fX12_falses_4 k v1 v2 S = some (r, S') → ∀ ok : Bool, mW p l e (mR 2) s m args below meth c G 3 233 54500 (mQ below G args s b S' (some (.int r))) (ok, 4, [.ref (187), .int v1, .int v2], [], mk b S) := by
  intro k
  induction k with
  | zero =>
    intro v1 v2 S hf ok
    cases hf
  | succ k ih =>
    intro v1 v2 S hf ok
    unfold fX12_falses_4 at hf
    obtain ⟨hok, hf⟩ := grd_ex hf
    refine msegT C kX12_falses 4 4 (g := ((kO 187 12 && true), (if (S.1 187 37) ≤ v2 then 49 else 12), [.ref (187), .int v1, .int v2], [], mk b S)) rfl hok ?_
    by_cases hc : (S.1 187 37) ≤ v2
    · rw [if_pos hc] at hf ⊢
      refine msegT C kX12_falses 30 1 (g := (true, 50, [.ref (187), .int v1, .int v2], [.int v1], mk b S)) rfl rfl ?_
      cases hf
      exact gret_i C hr hk (kX12_falses _ (List.mem_of_getElem? (i := 31) rfl)).1
    · rw [if_neg hc] at hf ⊢
      obtain ⟨hok, hf⟩ := grd_ex hf
      refine msegT C kX12_falses 8 12 (g := ((kI 208 v2 && (kO 187 12 && (kI 208 ((10 : Int32) + v2) && (kO 187 12 && true)))), (if (S.1 208 (mIx ((10 : Int32) + v2))) = (S.1 208 (mIx v2)) then 35 else 31), [.ref (187), .int v1, .int v2], [.int v1], mk b S)) rfl hok ?_
      by_cases hc : (S.1 208 (mIx ((10 : Int32) + v2))) = (S.1 208 (mIx v2))
      · rw [if_pos hc] at hf ⊢
        refine msegT C kX12_falses 22 1 (g := (true, 36, [.ref (187), .int v1, .int v2], [.int (0 : Int32), .int v1], mk b S)) rfl rfl ?_
        exact mfor (L' := [.ref (187), .retAddr 0, .int v2]) ⟨Or.inr rfl, Or.inl rfl, Or.inr rfl, trivial⟩ (bX12_falses_36 C hr hk ih hf true)
      · rw [if_neg hc] at hf ⊢
        refine msegT C kX12_falses 20 2 (g := (true, 36, [.ref (187), .int v1, .int v2], [.int (1 : Int32), .int v1], mk b S)) rfl rfl ?_
        exact mfor (L' := [.ref (187), .retAddr 0, .int v2]) ⟨Or.inr rfl, Or.inl rfl, Or.inr rfl, trivial⟩ (bX12_falses_36 C hr hk ih hf true)
theorem bX12_falses_0 (C : mCx p (mR 2) s m args meth c G cX12_falses RX12 3 false 233 54500 233 54500) (hr : meth.sig.returnType = (some .int)) (hk : meth.locks = false) {b : Bool} {S' : mT} {r : Int32} {S : mT} (hf : fX12_falses S = some (r, S')) (ok : Bool) : mW p l e (mR 2) s m args below meth c G 3 233 54500 (mQ below G args s b S' (some (.int r))) (ok, 0, [.ref (187), .retAddr 0, .retAddr 0], [], mk b S) := by
  unfold fX12_falses at hf
  refine msegT C kX12_falses 0 4 (g := (true, 4, [.ref (187), .int (0 : Int32), .int (0 : Int32)], [], mk b S)) rfl rfl ?_
  exact mfor (L' := [.ref (187), .int (0 : Int32), .int (0 : Int32)]) ⟨Or.inr rfl, Or.inr rfl, Or.inr rfl, trivial⟩ (bX12_falses_4 C hr hk _ _ _ _ hf true)
theorem qX12_falses {b : Bool} {S S' : mT} {r : Int32} (hf : fX12_falses S = some (r, S')) : mOk l mX12_falses 2 [.ref (187)] b S (some (.int r)) S' :=
  gMet (by decide) (Nat.le_of_ble_eq_true rfl) rfl (Nat.le_of_ble_eq_true rfl) (fun p e s m args below meth c G C hr hk => bX12_falses_0 C hr hk hf true)
theorem bX12_four_3 (C : mCx p (mR 1) s m args meth c G cX12_four RX12 3 false 233 54500 233 54500) (hr : meth.sig.returnType = none) (hk : meth.locks = false) {b : Bool} {S' : mT} : ∀ (k : Nat) (v1 : Int32) (v2 : Int32) (S : mT), fX12_four_3 k v1 v2 S = some S' → ∀ ok : Bool, mW p l e (mR 1) s m args below meth c G 3 233 54500 (mQ below G args s b S' none) (ok, 3, [.ref (187), .int v1, .int v2], [], mk b S) := by
  intro k
  induction k with
  | zero =>
    intro v1 v2 S hf ok
    cases hf
  | succ k ih =>
    intro v1 v2 S hf ok
    unfold fX12_four_3 at hf
    refine msegT C kX12_four 2 2 (g := (true, (if v2 < 0 then 39 else 7), [.ref (187), .int v1, .int v2], [], mk b S)) rfl rfl ?_
    by_cases hc : v2 < 0
    · rw [if_pos hc] at hf ⊢
      cases hf
      exact gret_v C hr hk (kX12_four _ (List.mem_of_getElem? (i := 22) rfl)).1
    · rw [if_neg hc] at hf ⊢
      obtain ⟨hok, hf⟩ := grd_ex hf
      refine msegT C kX12_four 4 10 (g := ((kI 188 (S.1 187 1) && (kO 187 12 && (kO 187 12 && true))), 23, [.ref (187), .int v1, .int v2], [], mk b (sI S 188 (mIx (S.1 187 1)) ((v1 >>> (v2 &&& 31)) &&& (255 : Int32))))) rfl hok ?_
      obtain ⟨S1, eS1, hf⟩ := bnd_ex hf
      rw [← eS1]
      obtain ⟨hok, hf⟩ := grd_ex hf
      refine msegT C kX12_four 14 6 (g := ((kO 187 12 && (kO 187 12 && true)), 33, [.ref (187), .int v1, .int v2], [], mk b (sI S1 187 1 ((S1.1 187 1) + (1 : Int32))))) rfl hok ?_
      obtain ⟨S2, eS2, hf⟩ := bnd_ex hf
      rw [← eS2]
      refine msegT C kX12_four 20 1 (g := (true, 36, [.ref (187), .int v1, .int (v2 + (-8 : Int32))], [], mk b S2)) rfl rfl ?_
      obtain ⟨x3, ex3, hf⟩ := bnd_ex hf
      rw [← ex3]
      refine msegT C kX12_four 21 1 (g := (true, 3, [.ref (187), .int v1, .int x3], [], mk b S2)) rfl rfl ?_
      exact mfor (L' := [.ref (187), .int v1, .int x3]) ⟨Or.inr rfl, Or.inr rfl, Or.inr rfl, trivial⟩ (ih _ _ _ hf true)
theorem bX12_four_0 (C : mCx p (mR 1) s m args meth c G cX12_four RX12 3 false 233 54500 233 54500) (hr : meth.sig.returnType = none) (hk : meth.locks = false) {b : Bool} {S' : mT} {v1 : Int32} {S : mT} (hf : fX12_four v1 S = some S') (ok : Bool) : mW p l e (mR 1) s m args below meth c G 3 233 54500 (mQ below G args s b S' none) (ok, 0, [.ref (187), .int v1, .retAddr 0], [], mk b S) := by
  unfold fX12_four at hf
  refine msegT C kX12_four 0 2 (g := (true, 3, [.ref (187), .int v1, .int (24 : Int32)], [], mk b S)) rfl rfl ?_
  exact mfor (L' := [.ref (187), .int v1, .int (24 : Int32)]) ⟨Or.inr rfl, Or.inr rfl, Or.inr rfl, trivial⟩ (bX12_four_3 C hr hk _ _ _ _ hf true)
theorem qX12_four {b : Bool} {v1 : Int32} {S S' : mT} (hf : fX12_four v1 S = some S') : mOk l mX12_four 1 [.ref (187), .int v1] b S none S' :=
  gMet (by decide) (Nat.le_of_ble_eq_true rfl) rfl (Nat.le_of_ble_eq_true rfl) (fun p e s m args below meth c G C hr hk => bX12_four_0 C hr hk hf true)
theorem bX12_feed_0 (C : mCx p (mR 2) s m args meth c G cX12_feed RX12 6 false 233 54500 233 54500) (hr : meth.sig.returnType = (some .int)) (hk : meth.locks = false) {b : Bool} {S' : mT} {r : Int32} {v1 : Int32} {v2 : Int32} {v3 : Int32} {v4 : Int32} {v5 : Int32} {S : mT} (hf : fX12_feed v1 v2 v3 v4 v5 S = some (r, S')) (ok : Bool) : mW p l e (mR 2) s m args below meth c G 6 233 54500 (mQ below G args s b S' (some (.int r))) (ok, 0, [.ref (187), .int v1, .int v2, .int v3, .int v4, .int v5], [], mk b S) := by
  unfold fX12_feed at hf
  obtain ⟨hok, hf⟩ := grd_ex hf
  refine msegT C kX12_feed 0 6 (g := ((kO 187 12 && true), (if ((S.1 187 1) + (20 : Int32)) ≤ (1600 : Int32) then 15 else 13), [.ref (187), .int v1, .int v2, .int v3, .int v4, .int v5], [], mk b S)) rfl hok ?_
  by_cases hc : ((S.1 187 1) + (20 : Int32)) ≤ (1600 : Int32)
  · rw [if_pos hc] at hf ⊢
    refine msegT C kX12_feed 8 2 (g := (true, 17, [.ref (187), .int v1, .int v2, .int v3, .int v4, .int v5], [.int v1, .ref (187)], mk b S)) rfl rfl ?_
    obtain ⟨S1, hq, hf⟩ := bndV_ex hf
    refine mcall (kd := 0) (vs := [.ref (187), .int v1]) (rest := []) (r := none) (h' := mk b S1) (ok' := true) C lkRX12_155 (qX12_four hq) (kX12_feed _ (List.mem_of_getElem? (i := 10) rfl)).1 ⟨_, _, rfl, rfl, Nat.le_of_ble_eq_true rfl, _, _, rfl, rfl, rfl⟩ (Nat.le_of_ble_eq_true rfl) (Nat.le_of_ble_eq_true rfl) (Nat.le_refl _) (Nat.le_refl _) (Nat.le_of_ble_eq_true rfl) ?_
    refine msegT C kX12_feed 11 2 (g := (true, 22, [.ref (187), .int v1, .int v2, .int v3, .int v4, .int v5], [.int v2, .ref (187)], mk b S1)) rfl rfl ?_
    obtain ⟨S2, hq, hf⟩ := bndV_ex hf
    refine mcall (kd := 0) (vs := [.ref (187), .int v2]) (rest := []) (r := none) (h' := mk b S2) (ok' := true) C lkRX12_155 (qX12_four hq) (kX12_feed _ (List.mem_of_getElem? (i := 13) rfl)).1 ⟨_, _, rfl, rfl, Nat.le_of_ble_eq_true rfl, _, _, rfl, rfl, rfl⟩ (Nat.le_of_ble_eq_true rfl) (Nat.le_of_ble_eq_true rfl) (Nat.le_refl _) (Nat.le_refl _) (Nat.le_of_ble_eq_true rfl) ?_
    refine msegT C kX12_feed 14 2 (g := (true, 27, [.ref (187), .int v1, .int v2, .int v3, .int v4, .int v5], [.int v3, .ref (187)], mk b S2)) rfl rfl ?_
    obtain ⟨S3, hq, hf⟩ := bndV_ex hf
    refine mcall (kd := 0) (vs := [.ref (187), .int v3]) (rest := []) (r := none) (h' := mk b S3) (ok' := true) C lkRX12_155 (qX12_four hq) (kX12_feed _ (List.mem_of_getElem? (i := 16) rfl)).1 ⟨_, _, rfl, rfl, Nat.le_of_ble_eq_true rfl, _, _, rfl, rfl, rfl⟩ (Nat.le_of_ble_eq_true rfl) (Nat.le_of_ble_eq_true rfl) (Nat.le_refl _) (Nat.le_refl _) (Nat.le_of_ble_eq_true rfl) ?_
    refine msegT C kX12_feed 17 2 (g := (true, 33, [.ref (187), .int v1, .int v2, .int v3, .int v4, .int v5], [.int v4, .ref (187)], mk b S3)) rfl rfl ?_
    obtain ⟨S4, hq, hf⟩ := bndV_ex hf
    refine mcall (kd := 0) (vs := [.ref (187), .int v4]) (rest := []) (r := none) (h' := mk b S4) (ok' := true) C lkRX12_155 (qX12_four hq) (kX12_feed _ (List.mem_of_getElem? (i := 19) rfl)).1 ⟨_, _, rfl, rfl, Nat.le_of_ble_eq_true rfl, _, _, rfl, rfl, rfl⟩ (Nat.le_of_ble_eq_true rfl) (Nat.le_of_ble_eq_true rfl) (Nat.le_refl _) (Nat.le_refl _) (Nat.le_of_ble_eq_true rfl) ?_
    refine msegT C kX12_feed 20 2 (g := (true, 39, [.ref (187), .int v1, .int v2, .int v3, .int v4, .int v5], [.int v5, .ref (187)], mk b S4)) rfl rfl ?_
    obtain ⟨S5, hq, hf⟩ := bndV_ex hf
    refine mcall (kd := 0) (vs := [.ref (187), .int v5]) (rest := []) (r := none) (h' := mk b S5) (ok' := true) C lkRX12_155 (qX12_four hq) (kX12_feed _ (List.mem_of_getElem? (i := 22) rfl)).1 ⟨_, _, rfl, rfl, Nat.le_of_ble_eq_true rfl, _, _, rfl, rfl, rfl⟩ (Nat.le_of_ble_eq_true rfl) (Nat.le_of_ble_eq_true rfl) (Nat.le_refl _) (Nat.le_refl _) (Nat.le_of_ble_eq_true rfl) ?_
    obtain ⟨hok, hf⟩ := grd_ex hf
    refine msegT C kX12_feed 23 2 (g := ((kO 187 12 && true), 46, [.ref (187), .int v1, .int v2, .int v3, .int v4, .int v5], [.int (S5.1 187 1)], mk b S5)) rfl hok ?_
    cases hf
    exact gret_i C hr hk (kX12_feed _ (List.mem_of_getElem? (i := 25) rfl)).1
  · rw [if_neg hc] at hf ⊢
    refine msegT C kX12_feed 6 1 (g := (true, 14, [.ref (187), .int v1, .int v2, .int v3, .int v4, .int v5], [.int (-1 : Int32)], mk b S)) rfl rfl ?_
    cases hf
    exact gret_i C hr hk (kX12_feed _ (List.mem_of_getElem? (i := 7) rfl)).1
theorem qX12_feed {b : Bool} {v1 : Int32} {v2 : Int32} {v3 : Int32} {v4 : Int32} {v5 : Int32} {S S' : mT} {r : Int32} (hf : fX12_feed v1 v2 v3 v4 v5 S = some (r, S')) : mOk l mX12_feed 2 [.ref (187), .int v1, .int v2, .int v3, .int v4, .int v5] b S (some (.int r)) S' :=
  gMet (by decide) (Nat.le_of_ble_eq_true rfl) rfl (Nat.le_of_ble_eq_true rfl) (fun p e s m args below meth c G C hr hk => bX12_feed_0 C hr hk hf true)
theorem bX12_here_28 (C : mCx p (mR 1) s m args meth c G cX12_here RX12 2 false 233 54500 233 54500) (hr : meth.sig.returnType = (some .int)) (hk : meth.locks = false) {b : Bool} {S' : mT} {r : Int32} {s0 : Int32} {S : mT} (hf : fX12_here_28 s0 S = some (r, S')) (ok : Bool) : mW p l e (mR 1) s m args below meth c G 2 233 54500 (mQ below G args s b S' (some (.int r))) (ok, 28, [.retAddr 0, .retAddr 0], [.int s0], mk b S) := by
  unfold fX12_here_28 at hf
  cases hf
  exact gret_i C hr hk (kX12_here _ (List.mem_of_getElem? (i := 16) rfl)).1
theorem bX12_here_0 (C : mCx p (mR 1) s m args meth c G cX12_here RX12 2 false 233 54500 233 54500) (hr : meth.sig.returnType = (some .int)) (hk : meth.locks = false) {b : Bool} {S' : mT} {r : Int32} {v1 : Int32} {S : mT} (hf : fX12_here v1 S = some (r, S')) (ok : Bool) : mW p l e (mR 1) s m args below meth c G 2 233 54500 (mQ below G args s b S' (some (.int r))) (ok, 0, [.ref (187), .int v1], [], mk b S) := by
  unfold fX12_here at hf
  obtain ⟨hok, hf⟩ := grd_ex hf
  refine msegT C kX12_here 0 7 (g := ((kO 187 12 && (kO 187 12 && true)), (if (S.1 187 5) ≤ ((S.1 187 4) + v1) then 27 else 13), [.ref (187), .int v1], [], mk b S)) rfl hok ?_
  by_cases hc : (S.1 187 5) ≤ ((S.1 187 4) + v1)
  · rw [if_pos hc] at hf ⊢
    refine msegT C kX12_here 15 1 (g := (true, 28, [.ref (187), .int v1], [.int (-1 : Int32)], mk b S)) rfl rfl ?_
    exact mfor (L' := [.retAddr 0, .retAddr 0]) ⟨Or.inl rfl, Or.inl rfl, trivial⟩ (bX12_here_28 C hr hk hf true)
  · rw [if_neg hc] at hf ⊢
    obtain ⟨hok, hf⟩ := grd_ex hf
    refine msegT C kX12_here 7 8 (g := ((kI 188 ((S.1 187 4) + v1) && (kO 187 12 && (kO 187 12 && true))), 28, [.ref (187), .int v1], [.int (S.1 188 (mIx ((S.1 187 4) + v1)))], mk b S)) rfl hok ?_
    exact mfor (L' := [.retAddr 0, .retAddr 0]) ⟨Or.inl rfl, Or.inl rfl, trivial⟩ (bX12_here_28 C hr hk hf true)
theorem qX12_here {b : Bool} {v1 : Int32} {S S' : mT} {r : Int32} (hf : fX12_here v1 S = some (r, S')) : mOk l mX12_here 1 [.ref (187), .int v1] b S (some (.int r)) S' :=
  gMet (by decide) (Nat.le_of_ble_eq_true rfl) rfl (Nat.le_of_ble_eq_true rfl) (fun p e s m args below meth c G C hr hk => bX12_here_0 C hr hk hf true)
theorem bX12_isDigit_17 (C : mCx p (mR 1) s m args meth c G cX12_isDigit RX12 1 false 233 54500 233 54500) (hr : meth.sig.returnType = (some .boolean)) (hk : meth.locks = false) {b : Bool} {S' : mT} {r : Int32} {s0 : Int32} {S : mT} (hf : fX12_isDigit_17 s0 S = some (r, S')) (ok : Bool) : mW p l e (mR 1) s m args below meth c G 1 233 54500 (mQ below G args s b S' (some (.int r))) (ok, 17, [.retAddr 0], [.int s0], mk b S) := by
  unfold fX12_isDigit_17 at hf
  obtain ⟨hz, hf⟩ := grd_ex hf
  cases hf
  exact gret_z C hr hk (mFit_nar hz) (kX12_isDigit _ (List.mem_of_getElem? (i := 9) rfl)).1
theorem bX12_isDigit_16 (C : mCx p (mR 1) s m args meth c G cX12_isDigit RX12 1 false 233 54500 233 54500) (hr : meth.sig.returnType = (some .boolean)) (hk : meth.locks = false) {b : Bool} {S' : mT} {r : Int32} {S : mT} (hf : fX12_isDigit_16 S = some (r, S')) (ok : Bool) : mW p l e (mR 1) s m args below meth c G 1 233 54500 (mQ below G args s b S' (some (.int r))) (ok, 16, [.retAddr 0], [], mk b S) := by
  unfold fX12_isDigit_16 at hf
  refine msegT C kX12_isDigit 8 1 (g := (true, 17, [.retAddr 0], [.int (0 : Int32)], mk b S)) rfl rfl ?_
  exact mfor (L' := [.retAddr 0]) ⟨Or.inl rfl, trivial⟩ (bX12_isDigit_17 C hr hk hf true)
theorem bX12_isDigit_0 (C : mCx p (mR 1) s m args meth c G cX12_isDigit RX12 1 false 233 54500 233 54500) (hr : meth.sig.returnType = (some .boolean)) (hk : meth.locks = false) {b : Bool} {S' : mT} {r : Int32} {v0 : Int32} {S : mT} (hf : fX12_isDigit v0 S = some (r, S')) (ok : Bool) : mW p l e (mR 1) s m args below meth c G 1 233 54500 (mQ below G args s b S' (some (.int r))) (ok, 0, [.int v0], [], mk b S) := by
  unfold fX12_isDigit at hf
  refine msegT C kX12_isDigit 0 3 (g := (true, (if v0 < (48 : Int32) then 16 else 6), [.int v0], [], mk b S)) rfl rfl ?_
  by_cases hc : v0 < (48 : Int32)
  · rw [if_pos hc] at hf ⊢
    exact mfor (L' := [.retAddr 0]) ⟨Or.inl rfl, trivial⟩ (bX12_isDigit_16 C hr hk hf true)
  · rw [if_neg hc] at hf ⊢
    refine msegT C kX12_isDigit 3 3 (g := (true, (if (57 : Int32) < v0 then 16 else 12), [.int v0], [], mk b S)) rfl rfl ?_
    by_cases hc : (57 : Int32) < v0
    · rw [if_pos hc] at hf ⊢
      exact mfor (L' := [.retAddr 0]) ⟨Or.inl rfl, trivial⟩ (bX12_isDigit_16 C hr hk hf true)
    · rw [if_neg hc] at hf ⊢
      refine msegT C kX12_isDigit 6 2 (g := (true, 17, [.int v0], [.int (1 : Int32)], mk b S)) rfl rfl ?_
      exact mfor (L' := [.retAddr 0]) ⟨Or.inl rfl, trivial⟩ (bX12_isDigit_17 C hr hk hf true)
theorem qX12_isDigit {b : Bool} {v0 : Int32} {S S' : mT} {r : Int32} (hf : fX12_isDigit v0 S = some (r, S')) : mOk l mX12_isDigit 1 [.int v0] b S (some (.int r)) S' :=
  gMet (by decide) (Nat.le_of_ble_eq_true rfl) rfl (Nat.le_of_ble_eq_true rfl) (fun p e s m args below meth c G C hr hk => bX12_isDigit_0 C hr hk hf true)
end GP
