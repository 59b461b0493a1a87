theorem mFit_nar {ty : FieldType} {v : Int32} (h : mFit ty v = true) : narrow ty (.int v) = .int v := by
  cases ty with
  | int => rfl
  | boolean =>
    have z : v = 0 ∨ v = 1 := of_decide_eq_true h
    rcases z with rfl | rfl <;> decide
  | char =>
    have z : (decide (narrow .char (.int v) = .int v) && fits .char (.int v)) = true := h
    rw [Bool.and_eq_true] at z
    exact of_decide_eq_true z.1
  | _ => cases h
section GR
variable {p : Program} {l : Launch} {e : Env} {s : State} {m : MethodId} {args : Array Value} {below : List Frame} {meth : Method} {c : Code} {G : mG} {cc : ByteArray} {own : String} {nL d : Nat} {b : Bool} {S : mT} {ok : Bool} {pc : Nat} {L : List Value}
theorem gQ {S0 : mT} {r : Option Value} : MQ below (mPost G (mk b S0) r) args s (hN (mk b S0) - 233) (hW (mk b S0) - 54500) (mA G) = mQ below G args s b S0 r := by
  have e1 : hN (mk b S0) - 233 = 0 := Nat.sub_self 233
  have e2 : hW (mk b S0) - 54500 = 0 := Nat.sub_self 54500
  rw [e1, e2]
  rfl
theorem gret_i (C : mCx p (mR d) s m args meth c G cc own nL false 233 54500 233 54500) (hr : meth.sig.returnType = some .int) (hk : meth.locks = false) {v : Int32} (hd : decode cc pc = .ok (.ireturn, 1)) : mW p l e (mR d) s m args below meth c G nL 233 54500 (mQ below G args s b S (some (.int v))) (ok, pc, L, [.int v], mk b S) := by
  rw [← gQ]
  exact mret_i C hr hk hd
theorem gret_z (C : mCx p (mR d) s m args meth c G cc own nL false 233 54500 233 54500) {ty : FieldType} (hr : meth.sig.returnType = some ty) (hk : meth.locks = false) {v : Int32} (hn : narrow ty (.int v) = .int v) (hd : decode cc pc = .ok (.ireturn, 1)) : mW p l e (mR d) s m args below meth c G nL 233 54500 (mQ below G args s b S (some (.int v))) (ok, pc, L, [.int v], mk b S) := by
  rw [← gQ]
  exact mret_z C hr hk hn hd
theorem gret_l (C : mCx p (mR d) s m args meth c G cc own nL false 233 54500 233 54500) (hr : meth.sig.returnType = some .long) (hk : meth.locks = false) {v : Int64} (hd : decode cc pc = .ok (.lreturn, 1)) : mW p l e (mR d) s m args below meth c G nL 233 54500 (mQ below G args s b S (some (.long v))) (ok, pc, L, [.long v], mk b S) := by
  rw [← gQ]
  exact mret_l C hr hk hd
theorem gret_v (C : mCx p (mR d) s m args meth c G cc own nL false 233 54500 233 54500) (hr : meth.sig.returnType = none) (hk : meth.locks = false) (hd : decode cc pc = .ok (.return_, 1)) : mW p l e (mR d) s m args below meth c G nL 233 54500 (mQ below G args s b S none) (ok, pc, L, [], mk b S) := by
  rw [← gQ]
  exact mret_v C hr hk hd
theorem gret_r (C : mCx p (mR d) s m args meth c G cc own nL false 233 54500 233 54500) {rt : String} (hr : meth.sig.returnType = some (.object rt)) (hk : meth.locks = false) {v : Nat} (hd : decode cc pc = .ok (.areturn, 1)) : mW p l e (mR d) s m args below meth c G nL 233 54500 (mQ below G args s b S (some (.ref v))) (ok, pc, L, [.ref v], mk b S) := by
  rw [← gQ]
  exact mret_r C hr hk hd
theorem gRm {S0 S1 : mT} : mRm d (mk b S0) (mk b S1) = mR d := by
  unfold mRm mR
  rw [show hN (mk b S1) - hN (mk b S0) = 0 from Nat.sub_self 233, show hW (mk b S1) - hW (mk b S0) = 0 from Nat.sub_self 54500]
/-- THE ENTRY, over these cells -/
theorem gMet {M : mM} {vs : List Value} {S' : mT} {r : Option Value} (hy : plainName M.1.cls = true) (hd : 1 ≤ d) (hp : mPl vs = true) (hl : (mEx vs).length ≤ M.2.2.1)
    (body : ∀ (p : Program) (e : Env) (s : State) (m : MethodId) (args : Array Value) (below : List Frame) (meth : Method) (c : Code) (G : mG), mCx p (mR d) s m args meth c G M.2.1 M.1.cls M.2.2.1 false 233 54500 233 54500 → meth.sig.returnType = M.2.2.2 → meth.locks = false →
      mW p l e (mR d) s m args below meth c G M.2.2.1 233 54500 (mQ below G args s b S' r) (true, 0, mL0 M.2.2.1 vs, [], mk b S)) : mOk l M d vs b S r S' := by
  refine mMet_of false hy (fun z => by cases z) hd hp hl (Nat.le_refl _) (Nat.le_refl _) (Nat.le_of_ble_eq_true rfl) (fun p e s m args below meth c G C hr hk => ?_)
  rw [gRm] at C ⊢
  have k := body p e s m args below meth c G C hr hk
  rw [← gQ] at k
  exact k
end GR
section GP
variable {p : Program} {l : Launch} {e : Env} {s : State} {m : MethodId} {args : Array Value} {below : List Frame} {meth : Method} {c : Code} {G : mG}
theorem bJ6_bitCount_0f7a4_0 (C : mCx p (mR 1) s m args meth c G cJ6_bitCount_0f7a4 RJ6 1 false 233 54500 233 54500) (hr : meth.sig.returnType = (some .int)) (hk : meth.locks = false) {b : Bool} {S' : mT} {r : Int32} {v0 : Int32} {S : mT} (hf : fJ6_bitCount_0f7a4 v0 S = some (r, S')) (ok : Bool) : mW p l e (mR 1) s m args below meth c G 1 233 54500 (mQ below G args s b S' (some (.int r))) (ok, 0, [.int v0], [], mk b S) := by
  unfold fJ6_bitCount_0f7a4 at hf
  refine msegT C kJ6_bitCount_0f7a4 0 8 (g := (true, 10, [.int (v0 - ((v0.toUInt32 >>> ((1 : Int32).toUInt32 &&& Int32.toUInt32 31)).toInt32 &&& (1431655765 : Int32)))], [], mk b S)) rfl rfl ?_
  obtain ⟨x1, ex1, hf⟩ := bnd_ex hf
  rw [← ex1]
  refine msegT C kJ6_bitCount_0f7a4 8 10 (g := (true, 24, [.int ((x1 &&& (858993459 : Int32)) + ((x1.toUInt32 >>> ((2 : Int32).toUInt32 &&& Int32.toUInt32 31)).toInt32 &&& (858993459 : Int32)))], [], mk b S)) rfl rfl ?_
  obtain ⟨x2, ex2, hf⟩ := bnd_ex hf
  rw [← ex2]
  refine msegT C kJ6_bitCount_0f7a4 18 8 (g := (true, 34, [.int ((x2 + (x2.toUInt32 >>> ((4 : Int32).toUInt32 &&& Int32.toUInt32 31)).toInt32) &&& (252645135 : Int32))], [], mk b S)) rfl rfl ?_
  obtain ⟨x3, ex3, hf⟩ := bnd_ex hf
  rw [← ex3]
  refine msegT C kJ6_bitCount_0f7a4 26 6 (g := (true, 41, [.int (x3 + (x3.toUInt32 >>> ((8 : Int32).toUInt32 &&& Int32.toUInt32 31)).toInt32)], [], mk b S)) rfl rfl ?_
  obtain ⟨x4, ex4, hf⟩ := bnd_ex hf
  rw [← ex4]
  refine msegT C kJ6_bitCount_0f7a4 32 6 (g := (true, 48, [.int (x4 + (x4.toUInt32 >>> ((16 : Int32).toUInt32 &&& Int32.toUInt32 31)).toInt32)], [], mk b S)) rfl rfl ?_
  obtain ⟨x5, ex5, hf⟩ := bnd_ex hf
  rw [← ex5]
  refine msegT C kJ6_bitCount_0f7a4 38 3 (g := (true, 52, [.int x5], [.int (x5 &&& (63 : Int32))], mk b S)) rfl rfl ?_
  cases hf
  exact gret_i C hr hk (kJ6_bitCount_0f7a4 _ (List.mem_of_getElem? (i := 41) rfl)).1
theorem qJ6_bitCount_0f7a4 {b : Bool} {v0 : Int32} {S S' : mT} {r : Int32} (hf : fJ6_bitCount_0f7a4 v0 S = some (r, S')) : mOk l mJ6_bitCount_0f7a4 1 [.int v0] b S (some (.int r)) S' :=
  gMet (by decide) (Nat.le_of_ble_eq_true rfl) rfl (Nat.le_of_ble_eq_true rfl) (fun p e s m args below meth c G C hr hk => bJ6_bitCount_0f7a4_0 C hr hk hf true)
theorem bJ7_fill_53178_5 (C : mCx p (mR 1) s m args meth c G cJ7_fill_53178 RJ7 4 false 233 54500 233 54500) (hr : meth.sig.returnType = none) (hk : meth.locks = false) {b : Bool} {a0 : Nat} {S' : mT} : ∀ (k : Nat) (v1 : Int32) (v2 : Int32) (v3 : Int32) (S : mT), fJ7_fill_53178_5 a0 k v1 v2 v3 S = some S' → ∀ ok : Bool, mW p l e (mR 1) s m args below meth c G 4 233 54500 (mQ below G args s b S' none) (ok, 5, [.ref a0, .int v1, .int v2, .int v3], [], mk b S) := by
  intro k
  induction k with
  | zero =>
    intro v1 v2 v3 S hf ok
    cases hf
  | succ k ih =>
    intro v1 v2 v3 S hf ok
    unfold fJ7_fill_53178_5 at hf
    refine msegT C kJ7_fill_53178 5 3 (g := (true, (if v3 ≤ v2 then 20 else 10), [.ref a0, .int v1, .int v2, .int v3], [], mk b S)) rfl rfl ?_
    by_cases hc : v3 ≤ v2
    · rw [if_pos hc] at hf ⊢
      cases hf
      exact gret_v C hr hk (kJ7_fill_53178 _ (List.mem_of_getElem? (i := 14) rfl)).1
    · rw [if_neg hc] at hf ⊢
      obtain ⟨hok, hf⟩ := grd_ex hf
      refine msegT C kJ7_fill_53178 8 4 (g := ((kI a0 v2 && true), 14, [.ref a0, .int v1, .int v2, .int v3], [], mk b (sI S a0 (mIx v2) v1))) rfl hok ?_
      obtain ⟨S2, eS2, hf⟩ := bnd_ex hf
      rw [← eS2]
      refine msegT C kJ7_fill_53178 12 1 (g := (true, 17, [.ref a0, .int v1, .int (v2 + (1 : Int32)), .int v3], [], mk b S2)) rfl rfl ?_
      obtain ⟨x3, ex3, hf⟩ := bnd_ex hf
      rw [← ex3]
      refine msegT C kJ7_fill_53178 13 1 (g := (true, 5, [.ref a0, .int v1, .int x3, .int v3], [], mk b S2)) rfl rfl ?_
      exact mfor (L' := [.ref a0, .int v1, .int x3, .int v3]) ⟨Or.inr rfl, Or.inr rfl, Or.inr rfl, Or.inr rfl, trivial⟩ (ih _ _ _ _ hf true)
theorem bJ7_fill_53178_0 (C : mCx p (mR 1) s m args meth c G cJ7_fill_53178 RJ7 4 false 233 54500 233 54500) (hr : meth.sig.returnType = none) (hk : meth.locks = false) {b : Bool} {a0 : Nat} {S' : mT} {v1 : Int32} {S : mT} (hf : fJ7_fill_53178 a0 v1 S = some S') (ok : Bool) : mW p l e (mR 1) s m args below meth c G 4 233 54500 (mQ below G args s b S' none) (ok, 0, [.ref a0, .int v1, .retAddr 0, .retAddr 0], [], mk b S) := by
  unfold fJ7_fill_53178 at hf
  obtain ⟨hok, hf⟩ := grd_ex hf
  refine msegT C kJ7_fill_53178 0 5 (g := ((kAL 233 (sT a0) a0 && true), 5, [.ref a0, .int v1, .int (0 : Int32), .int (Int32.ofNat (kLen (sT a0)))], [], mk b S)) rfl hok ?_
  obtain ⟨x1, ex1, hf⟩ := bnd_ex hf
  rw [← ex1]
  exact mfor (L' := [.ref a0, .int v1, .int (0 : Int32), .int x1]) ⟨Or.inr rfl, Or.inr rfl, Or.inr rfl, Or.inr rfl, trivial⟩ (bJ7_fill_53178_5 C hr hk _ _ _ _ _ hf true)
theorem qJ7_fill_53178 {b : Bool} {a0 : Nat} {v1 : Int32} {S S' : mT} (hf : fJ7_fill_53178 a0 v1 S = some S') : mOk l mJ7_fill_53178 1 [.ref a0, .int v1] b S none S' :=
  gMet (by decide) (Nat.le_of_ble_eq_true rfl) rfl (Nat.le_of_ble_eq_true rfl) (fun p e s m args below meth c G C hr hk => bJ7_fill_53178_0 C hr hk hf true)
theorem bX0_join_143 (C : mCx p (mR 1) s m args meth c G cX0_join RX0 3 false 233 54500 233 54500) (hr : meth.sig.returnType = (some .int)) (hk : meth.locks = false) {b : Bool} {S' : mT} {r : Int32} {s0 : Int32} {S : mT} (hf : fX0_join_143 s0 S = some (r, S')) (ok : Bool) : mW p l e (mR 1) s m args below meth c G 3 233 54500 (mQ below G args s b S' (some (.int r))) (ok, 143, [.retAddr 0, .retAddr 0, .retAddr 0], [.int s0], mk b S) := by
  unfold fX0_join_143 at hf
  cases hf
  exact gret_i C hr hk (kX0_join _ (List.mem_of_getElem? (i := 21) rfl)).1
theorem bX0_join_155 (C : mCx p (mR 1) s m args meth c G cX0_join RX0 3 false 233 54500 233 54500) (hr : meth.sig.returnType = (some .int)) (hk : meth.locks = false) {b : Bool} {S' : mT} {r : Int32} {s0 : Int32} {S : mT} (hf : fX0_join_155 s0 S = some (r, S')) (ok : Bool) : mW p l e (mR 1) s m args below meth c G 3 233 54500 (mQ below G args s b S' (some (.int r))) (ok, 155, [.retAddr 0, .retAddr 0, .retAddr 0], [.int s0], mk b S) := by
  unfold fX0_join_155 at hf
  cases hf
  exact gret_i C hr hk (kX0_join _ (List.mem_of_getElem? (i := 29) rfl)).1
theorem bX0_join_166 (C : mCx p (mR 1) s m args meth c G cX0_join RX0 3 false 233 54500 233 54500) (hr : meth.sig.returnType = (some .int)) (hk : meth.locks = false) {b : Bool} {S' : mT} {r : Int32} {s0 : Int32} {S : mT} (hf : fX0_join_166 s0 S = some (r, S')) (ok : Bool) : mW p l e (mR 1) s m args below meth c G 3 233 54500 (mQ below G args s b S' (some (.int r))) (ok, 166, [.retAddr 0, .retAddr 0, .retAddr 0], [.int s0], mk b S) := by
  unfold fX0_join_166 at hf
  cases hf
  exact gret_i C hr hk (kX0_join _ (List.mem_of_getElem? (i := 36) rfl)).1
theorem bX0_join_177 (C : mCx p (mR 1) s m args meth c G cX0_join RX0 3 false 233 54500 233 54500) (hr : meth.sig.returnType = (some .int)) (hk : meth.locks = false) {b : Bool} {S' : mT} {r : Int32} {s0 : Int32} {S : mT} (hf : fX0_join_177 s0 S = some (r, S')) (ok : Bool) : mW p l e (mR 1) s m args below meth c G 3 233 54500 (mQ below G args s b S' (some (.int r))) (ok, 177, [.retAddr 0, .retAddr 0, .retAddr 0], [.int s0], mk b S) := by
  unfold fX0_join_177 at hf
  cases hf
  exact gret_i C hr hk (kX0_join _ (List.mem_of_getElem? (i := 43) rfl)).1
theorem bX0_join_188 (C : mCx p (mR 1) s m args meth c G cX0_join RX0 3 false 233 54500 233 54500) (hr : meth.sig.returnType = (some .int)) (hk : meth.locks = false) {b : Bool} {S' : mT} {r : Int32} {s0 : Int32} {S : mT} (hf : fX0_join_188 s0 S = some (r, S')) (ok : Bool) : mW p l e (mR 1) s m args below meth c G 3 233 54500 (mQ below G args s b S' (some (.int r))) (ok, 188, [.retAddr 0, .retAddr 0, .retAddr 0], [.int s0], mk b S) := by
  unfold fX0_join_188 at hf
  cases hf
  exact gret_i C hr hk (kX0_join _ (List.mem_of_getElem? (i := 50) rfl)).1
theorem bX0_join_202 (C : mCx p (mR 1) s m args meth c G cX0_join RX0 3 false 233 54500 233 54500) (hr : meth.sig.returnType = (some .int)) (hk : meth.locks = false) {b : Bool} {S' : mT} {r : Int32} {s0 : Int32} {S : mT} (hf : fX0_join_202 s0 S = some (r, S')) (ok : Bool) : mW p l e (mR 1) s m args below meth c G 3 233 54500 (mQ below G args s b S' (some (.int r))) (ok, 202, [.retAddr 0, .retAddr 0, .retAddr 0], [.int s0], mk b S) := by
  unfold fX0_join_202 at hf
  cases hf
  exact gret_i C hr hk (kX0_join _ (List.mem_of_getElem? (i := 58) rfl)).1
theorem bX0_join_201 (C : mCx p (mR 1) s m args meth c G cX0_join RX0 3 false 233 54500 233 54500) (hr : meth.sig.returnType = (some .int)) (hk : meth.locks = false) {b : Bool} {S' : mT} {r : Int32} {S : mT} (hf : fX0_join_201 S = some (r, S')) (ok : Bool) : mW p l e (mR 1) s m args below meth c G 3 233 54500 (mQ below G args s b S' (some (.int r))) (ok, 201, [.retAddr 0, .retAddr 0, .retAddr 0], [], mk b S) := by
  unfold fX0_join_201 at hf
  refine msegT C kX0_join 57 1 (g := (true, 202, [.retAddr 0, .retAddr 0, .retAddr 0], [.int (0 : Int32)], mk b S)) rfl rfl ?_
  exact mfor (L' := [.retAddr 0, .retAddr 0, .retAddr 0]) ⟨Or.inl rfl, Or.inl rfl, Or.inl rfl, trivial⟩ (bX0_join_202 C hr hk hf true)
theorem bX0_join_216 (C : mCx p (mR 1) s m args meth c G cX0_join RX0 3 false 233 54500 233 54500) (hr : meth.sig.returnType = (some .int)) (hk : meth.locks = false) {b : Bool} {S' : mT} {r : Int32} {s0 : Int32} {S : mT} (hf : fX0_join_216 s0 S = some (r, S')) (ok : Bool) : mW p l e (mR 1) s m args below meth c G 3 233 54500 (mQ below G args s b S' (some (.int r))) (ok, 216, [.retAddr 0, .retAddr 0, .retAddr 0], [.int s0], mk b S) := by
  unfold fX0_join_216 at hf
  cases hf
  exact gret_i C hr hk (kX0_join _ (List.mem_of_getElem? (i := 66) rfl)).1
theorem bX0_join_211 (C : mCx p (mR 1) s m args meth c G cX0_join RX0 3 false 233 54500 233 54500) (hr : meth.sig.returnType = (some .int)) (hk : meth.locks = false) {b : Bool} {S' : mT} {r : Int32} {S : mT} (hf : fX0_join_211 S = some (r, S')) (ok : Bool) : mW p l e (mR 1) s m args below meth c G 3 233 54500 (mQ below G args s b S' (some (.int r))) (ok, 211, [.retAddr 0, .retAddr 0, .retAddr 0], [], mk b S) := by
  unfold fX0_join_211 at hf
  refine msegT C kX0_join 63 2 (g := (true, 216, [.retAddr 0, .retAddr 0, .retAddr 0], [.int (1 : Int32)], mk b S)) rfl rfl ?_
  exact mfor (L' := [.retAddr 0, .retAddr 0, .retAddr 0]) ⟨Or.inl rfl, Or.inl rfl, Or.inl rfl, trivial⟩ (bX0_join_216 C hr hk hf true)
theorem bX0_join_0 (C : mCx p (mR 1) s m args meth c G cX0_join RX0 3 false 233 54500 233 54500) (hr : meth.sig.returnType = (some .int)) (hk : meth.locks = false) {b : Bool} {S' : mT} {r : Int32} {v0 : Int32} {v1 : Int32} {v2 : Int32} {S : mT} (hf : fX0_join v0 v1 v2 S = some (r, S')) (ok : Bool) : mW p l e (mR 1) s m args below meth c G 3 233 54500 (mQ below G args s b S' (some (.int r))) (ok, 0, [.int v0, .int v1, .int v2], [], mk b S) := by
  unfold fX0_join at hf
  refine msegT C kX0_join 0 2 (g := (true, (if v0 = (37 : Int32) then 144 else (if v0 = (38 : Int32) then 189 else (if v0 = (39 : Int32) then 203 else (if v0 = (40 : Int32) then 203 else (if v0 = (41 : Int32) then 203 else (if v0 = (42 : Int32) then 128 else (if v0 = (43 : Int32) then 120 else (if v0 = (44 : Int32) then 203 else (if v0 = (45 : Int32) then 124 else (if v0 = (46 : Int32) then 203 else (if v0 = (47 : Int32) then 132 else (if v0 = (48 : Int32) then 203 else (if v0 = (49 : Int32) then 203 else (if v0 = (50 : Int32) then 203 else (if v0 = (51 : Int32) then 203 else (if v0 = (52 : Int32) then 203 else (if v0 = (53 : Int32) then 203 else (if v0 = (54 : Int32) then 203 else (if v0 = (55 : Int32) then 203 else (if v0 = (56 : Int32) then 203 else (if v0 = (57 : Int32) then 203 else (if v0 = (58 : Int32) then 203 else (if v0 = (59 : Int32) then 203 else (if v0 = (60 : Int32) then 156 else (if v0 = (61 : Int32) then 178 else (if v0 = (62 : Int32) then 167 else 203)))))))))))))))))))))))))), [.int v0, .int v1, .int v2], [], mk b S)) rfl rfl ?_
  by_cases hc : v0 = (37 : Int32)
  · rw [if_pos hc] at hf ⊢
    refine msegT C kX0_join 22 2 (g := (true, (if v2 = 0 then 148 else 152), [.int v0, .int v1, .int v2], [], mk b S)) rfl rfl ?_
    by_cases hc : v2 = 0
    · rw [if_pos hc] at hf ⊢
      refine msegT C kX0_join 24 2 (g := (true, 155, [.int v0, .int v1, .int v2], [.int (0 : Int32)], mk b S)) rfl rfl ?_
      exact mfor (L' := [.retAddr 0, .retAddr 0, .retAddr 0]) ⟨Or.inl rfl, Or.inl rfl, Or.inl rfl, trivial⟩ (bX0_join_155 C hr hk hf true)
    · rw [if_neg hc] at hf ⊢
      obtain ⟨hok, hf⟩ := grd_ex hf
      refine msegT C kX0_join 26 3 (g := ((decide (¬ v2 = 0) && true), 155, [.int v0, .int v1, .int v2], [.int (v1 - v1 / v2 * v2)], mk b S)) rfl hok ?_
      exact mfor (L' := [.retAddr 0, .retAddr 0, .retAddr 0]) ⟨Or.inl rfl, Or.inl rfl, Or.inl rfl, trivial⟩ (bX0_join_155 C hr hk hf true)
  · rw [if_neg hc] at hf ⊢
    by_cases hc : v0 = (38 : Int32)
    · rw [if_pos hc] at hf ⊢
      refine msegT C kX0_join 51 2 (g := (true, (if v1 = 0 then 201 else 193), [.int v0, .int v1, .int v2], [], mk b S)) rfl rfl ?_
      by_cases hc : v1 = 0
      · rw [if_pos hc] at hf ⊢
        exact mfor (L' := [.retAddr 0, .retAddr 0, .retAddr 0]) ⟨Or.inl rfl, Or.inl rfl, Or.inl rfl, trivial⟩ (bX0_join_201 C hr hk hf true)
      · rw [if_neg hc] at hf ⊢
        refine msegT C kX0_join 53 2 (g := (true, (if v2 = 0 then 201 else 197), [.int v0, .int v1, .int v2], [], mk b S)) rfl rfl ?_
        by_cases hc : v2 = 0
        · rw [if_pos hc] at hf ⊢
          exact mfor (L' := [.retAddr 0, .retAddr 0, .retAddr 0]) ⟨Or.inl rfl, Or.inl rfl, Or.inl rfl, trivial⟩ (bX0_join_201 C hr hk hf true)
        · rw [if_neg hc] at hf ⊢
          refine msegT C kX0_join 55 2 (g := (true, 202, [.int v0, .int v1, .int v2], [.int (1 : Int32)], mk b S)) rfl rfl ?_
          exact mfor (L' := [.retAddr 0, .retAddr 0, .retAddr 0]) ⟨Or.inl rfl, Or.inl rfl, Or.inl rfl, trivial⟩ (bX0_join_202 C hr hk hf true)
    · rw [if_neg hc] at hf ⊢
      by_cases hc : v0 = (39 : Int32)
      · rw [if_pos hc] at hf ⊢
        refine msegT C kX0_join 59 2 (g := (true, (if v1 = 0 then 207 else 211), [.int v0, .int v1, .int v2], [], mk b S)) rfl rfl ?_
        by_cases hc : v1 = 0
        · rw [if_pos hc] at hf ⊢
          refine msegT C kX0_join 61 2 (g := (true, (if v2 = 0 then 215 else 211), [.int v0, .int v1, .int v2], [], mk b S)) rfl rfl ?_
          by_cases hc : v2 = 0
          · rw [if_pos hc] at hf ⊢
            refine msegT C kX0_join 65 1 (g := (true, 216, [.int v0, .int v1, .int v2], [.int (0 : Int32)], mk b S)) rfl rfl ?_
            exact mfor (L' := [.retAddr 0, .retAddr 0, .retAddr 0]) ⟨Or.inl rfl, Or.inl rfl, Or.inl rfl, trivial⟩ (bX0_join_216 C hr hk hf true)
          · rw [if_neg hc] at hf ⊢
            exact mfor (L' := [.retAddr 0, .retAddr 0, .retAddr 0]) ⟨Or.inl rfl, Or.inl rfl, Or.inl rfl, trivial⟩ (bX0_join_211 C hr hk hf true)
        · rw [if_neg hc] at hf ⊢
          exact mfor (L' := [.retAddr 0, .retAddr 0, .retAddr 0]) ⟨Or.inl rfl, Or.inl rfl, Or.inl rfl, trivial⟩ (bX0_join_211 C hr hk hf true)
      · rw [if_neg hc] at hf ⊢
        by_cases hc : v0 = (40 : Int32)
        · rw [if_pos hc] at hf ⊢
          refine msegT C kX0_join 59 2 (g := (true, (if v1 = 0 then 207 else 211), [.int v0, .int v1, .int v2], [], mk b S)) rfl rfl ?_
          by_cases hc : v1 = 0
          · rw [if_pos hc] at hf ⊢
            refine msegT C kX0_join 61 2 (g := (true, (if v2 = 0 then 215 else 211), [.int v0, .int v1, .int v2], [], mk b S)) rfl rfl ?_
            by_cases hc : v2 = 0
            · rw [if_pos hc] at hf ⊢
              refine msegT C kX0_join 65 1 (g := (true, 216, [.int v0, .int v1, .int v2], [.int (0 : Int32)], mk b S)) rfl rfl ?_
              exact mfor (L' := [.retAddr 0, .retAddr 0, .retAddr 0]) ⟨Or.inl rfl, Or.inl rfl, Or.inl rfl, trivial⟩ (bX0_join_216 C hr hk hf true)
            · rw [if_neg hc] at hf ⊢
              exact mfor (L' := [.retAddr 0, .retAddr 0, .retAddr 0]) ⟨Or.inl rfl, Or.inl rfl, Or.inl rfl, trivial⟩ (bX0_join_211 C hr hk hf true)
          · rw [if_neg hc] at hf ⊢
            exact mfor (L' := [.retAddr 0, .retAddr 0, .retAddr 0]) ⟨Or.inl rfl, Or.inl rfl, Or.inl rfl, trivial⟩ (bX0_join_211 C hr hk hf true)
        · rw [if_neg hc] at hf ⊢
          by_cases hc : v0 = (41 : Int32)
          · rw [if_pos hc] at hf ⊢
            refine msegT C kX0_join 59 2 (g := (true, (if v1 = 0 then 207 else 211), [.int v0, .int v1, .int v2], [], mk b S)) rfl rfl ?_
            by_cases hc : v1 = 0
            · rw [if_pos hc] at hf ⊢
              refine msegT C kX0_join 61 2 (g := (true, (if v2 = 0 then 215 else 211), [.int v0, .int v1, .int v2], [], mk b S)) rfl rfl ?_
              by_cases hc : v2 = 0
              · rw [if_pos hc] at hf ⊢
                refine msegT C kX0_join 65 1 (g := (true, 216, [.int v0, .int v1, .int v2], [.int (0 : Int32)], mk b S)) rfl rfl ?_
                exact mfor (L' := [.retAddr 0, .retAddr 0, .retAddr 0]) ⟨Or.inl rfl, Or.inl rfl, Or.inl rfl, trivial⟩ (bX0_join_216 C hr hk hf true)
              · rw [if_neg hc] at hf ⊢
                exact mfor (L' := [.retAddr 0, .retAddr 0, .retAddr 0]) ⟨Or.inl rfl, Or.inl rfl, Or.inl rfl, trivial⟩ (bX0_join_211 C hr hk hf true)
            · rw [if_neg hc] at hf ⊢
              exact mfor (L' := [.retAddr 0, .retAddr 0, .retAddr 0]) ⟨Or.inl rfl, Or.inl rfl, Or.inl rfl, trivial⟩ (bX0_join_211 C hr hk hf true)
          · rw [if_neg hc] at hf ⊢
            by_cases hc : v0 = (42 : Int32)
            · rw [if_pos hc] at hf ⊢
              refine msegT C kX0_join 10 3 (g := (true, 131, [.int v0, .int v1, .int v2], [.int (v1 * v2)], mk b S)) rfl rfl ?_
              cases hf
              exact gret_i C hr hk (kX0_join _ (List.mem_of_getElem? (i := 13) rfl)).1
            · rw [if_neg hc] at hf ⊢
              by_cases hc : v0 = (43 : Int32)
              · rw [if_pos hc] at hf ⊢
                refine msegT C kX0_join 2 3 (g := (true, 123, [.int v0, .int v1, .int v2], [.int (v1 + v2)], mk b S)) rfl rfl ?_
                cases hf
                exact gret_i C hr hk (kX0_join _ (List.mem_of_getElem? (i := 5) rfl)).1
              · rw [if_neg hc] at hf ⊢
                by_cases hc : v0 = (44 : Int32)
                · rw [if_pos hc] at hf ⊢
                  refine msegT C kX0_join 59 2 (g := (true, (if v1 = 0 then 207 else 211), [.int v0, .int v1, .int v2], [], mk b S)) rfl rfl ?_
                  by_cases hc : v1 = 0
                  · rw [if_pos hc] at hf ⊢
                    refine msegT C kX0_join 61 2 (g := (true, (if v2 = 0 then 215 else 211), [.int v0, .int v1, .int v2], [], mk b S)) rfl rfl ?_
                    by_cases hc : v2 = 0
                    · rw [if_pos hc] at hf ⊢
                      refine msegT C kX0_join 65 1 (g := (true, 216, [.int v0, .int v1, .int v2], [.int (0 : Int32)], mk b S)) rfl rfl ?_
                      exact mfor (L' := [.retAddr 0, .retAddr 0, .retAddr 0]) ⟨Or.inl rfl, Or.inl rfl, Or.inl rfl, trivial⟩ (bX0_join_216 C hr hk hf true)
                    · rw [if_neg hc] at hf ⊢
                      exact mfor (L' := [.retAddr 0, .retAddr 0, .retAddr 0]) ⟨Or.inl rfl, Or.inl rfl, Or.inl rfl, trivial⟩ (bX0_join_211 C hr hk hf true)
                  · rw [if_neg hc] at hf ⊢
                    exact mfor (L' := [.retAddr 0, .retAddr 0, .retAddr 0]) ⟨Or.inl rfl, Or.inl rfl, Or.inl rfl, trivial⟩ (bX0_join_211 C hr hk hf true)
                · rw [if_neg hc] at hf ⊢
                  by_cases hc : v0 = (45 : Int32)
                  · rw [if_pos hc] at hf ⊢
                    refine msegT C kX0_join 6 3 (g := (true, 127, [.int v0, .int v1, .int v2], [.int (v1 - v2)], mk b S)) rfl rfl ?_
                    cases hf
                    exact gret_i C hr hk (kX0_join _ (List.mem_of_getElem? (i := 9) rfl)).1
                  · rw [if_neg hc] at hf ⊢
                    by_cases hc : v0 = (46 : Int32)
                    · rw [if_pos hc] at hf ⊢
                      refine msegT C kX0_join 59 2 (g := (true, (if v1 = 0 then 207 else 211), [.int v0, .int v1, .int v2], [], mk b S)) rfl rfl ?_
                      by_cases hc : v1 = 0
                      · rw [if_pos hc] at hf ⊢
                        refine msegT C kX0_join 61 2 (g := (true, (if v2 = 0 then 215 else 211), [.int v0, .int v1, .int v2], [], mk b S)) rfl rfl ?_
                        by_cases hc : v2 = 0
                        · rw [if_pos hc] at hf ⊢
                          refine msegT C kX0_join 65 1 (g := (true, 216, [.int v0, .int v1, .int v2], [.int (0 : Int32)], mk b S)) rfl rfl ?_
                          exact mfor (L' := [.retAddr 0, .retAddr 0, .retAddr 0]) ⟨Or.inl rfl, Or.inl rfl, Or.inl rfl, trivial⟩ (bX0_join_216 C hr hk hf true)
                        · rw [if_neg hc] at hf ⊢
                          exact mfor (L' := [.retAddr 0, .retAddr 0, .retAddr 0]) ⟨Or.inl rfl, Or.inl rfl, Or.inl rfl, trivial⟩ (bX0_join_211 C hr hk hf true)
                      · rw [if_neg hc] at hf ⊢
                        exact mfor (L' := [.retAddr 0, .retAddr 0, .retAddr 0]) ⟨Or.inl rfl, Or.inl rfl, Or.inl rfl, trivial⟩ (bX0_join_211 C hr hk hf true)
                    · rw [if_neg hc] at hf ⊢
                      by_cases hc : v0 = (47 : Int32)
                      · rw [if_pos hc] at hf ⊢
                        refine msegT C kX0_join 14 2 (g := (true, (if v2 = 0 then 136 else 140), [.int v0, .int v1, .int v2], [], mk b S)) rfl rfl ?_
                        by_cases hc : v2 = 0
                        · rw [if_pos hc] at hf ⊢
                          refine msegT C kX0_join 16 2 (g := (true, 143, [.int v0, .int v1, .int v2], [.int (0 : Int32)], mk b S)) rfl rfl ?_
                          exact mfor (L' := [.retAddr 0, .retAddr 0, .retAddr 0]) ⟨Or.inl rfl, Or.inl rfl, Or.inl rfl, trivial⟩ (bX0_join_143 C hr hk hf true)
                        · rw [if_neg hc] at hf ⊢
                          obtain ⟨hok, hf⟩ := grd_ex hf
                          refine msegT C kX0_join 18 3 (g := ((decide (¬ v2 = 0) && true), 143, [.int v0, .int v1, .int v2], [.int (v1 / v2)], mk b S)) rfl hok ?_
                          exact mfor (L' := [.retAddr 0, .retAddr 0, .retAddr 0]) ⟨Or.inl rfl, Or.inl rfl, Or.inl rfl, trivial⟩ (bX0_join_143 C hr hk hf true)
                      · rw [if_neg hc] at hf ⊢
                        by_cases hc : v0 = (48 : Int32)
                        · rw [if_pos hc] at hf ⊢
                          refine msegT C kX0_join 59 2 (g := (true, (if v1 = 0 then 207 else 211), [.int v0, .int v1, .int v2], [], mk b S)) rfl rfl ?_
                          by_cases hc : v1 = 0
                          · rw [if_pos hc] at hf ⊢
                            refine msegT C kX0_join 61 2 (g := (true, (if v2 = 0 then 215 else 211), [.int v0, .int v1, .int v2], [], mk b S)) rfl rfl ?_
                            by_cases hc : v2 = 0
                            · rw [if_pos hc] at hf ⊢
                              refine msegT C kX0_join 65 1 (g := (true, 216, [.int v0, .int v1, .int v2], [.int (0 : Int32)], mk b S)) rfl rfl ?_
                              exact mfor (L' := [.retAddr 0, .retAddr 0, .retAddr 0]) ⟨Or.inl rfl, Or.inl rfl, Or.inl rfl, trivial⟩ (bX0_join_216 C hr hk hf true)
                            · rw [if_neg hc] at hf ⊢
                              exact mfor (L' := [.retAddr 0, .retAddr 0, .retAddr 0]) ⟨Or.inl rfl, Or.inl rfl, Or.inl rfl, trivial⟩ (bX0_join_211 C hr hk hf true)
                          · rw [if_neg hc] at hf ⊢
                            exact mfor (L' := [.retAddr 0, .retAddr 0, .retAddr 0]) ⟨Or.inl rfl, Or.inl rfl, Or.inl rfl, trivial⟩ (bX0_join_211 C hr hk hf true)
                        · rw [if_neg hc] at hf ⊢
                          by_cases hc : v0 = (49 : Int32)
                          · rw [if_pos hc] at hf ⊢
                            refine msegT C kX0_join 59 2 (g := (true, (if v1 = 0 then 207 else 211), [.int v0, .int v1, .int v2], [], mk b S)) rfl rfl ?_
                            by_cases hc : v1 = 0
                            · rw [if_pos hc] at hf ⊢
                              refine msegT C kX0_join 61 2 (g := (true, (if v2 = 0 then 215 else 211), [.int v0, .int v1, .int v2], [], mk b S)) rfl rfl ?_
                              by_cases hc : v2 = 0
                              · rw [if_pos hc] at hf ⊢
                                refine msegT C kX0_join 65 1 (g := (true, 216, [.int v0, .int v1, .int v2], [.int (0 : Int32)], mk b S)) rfl rfl ?_
                                exact mfor (L' := [.retAddr 0, .retAddr 0, .retAddr 0]) ⟨Or.inl rfl, Or.inl rfl, Or.inl rfl, trivial⟩ (bX0_join_216 C hr hk hf true)
                              · rw [if_neg hc] at hf ⊢
                                exact mfor (L' := [.retAddr 0, .retAddr 0, .retAddr 0]) ⟨Or.inl rfl, Or.inl rfl, Or.inl rfl, trivial⟩ (bX0_join_211 C hr hk hf true)
                            · rw [if_neg hc] at hf ⊢
                              exact mfor (L' := [.retAddr 0, .retAddr 0, .retAddr 0]) ⟨Or.inl rfl, Or.inl rfl, Or.inl rfl, trivial⟩ (bX0_join_211 C hr hk hf true)
                          · rw [if_neg hc] at hf ⊢
                            by_cases hc : v0 = (50 : Int32)
                            · rw [if_pos hc] at hf ⊢
                              refine msegT C kX0_join 59 2 (g := (true, (if v1 = 0 then 207 else 211), [.int v0, .int v1, .int v2], [], mk b S)) rfl rfl ?_
                              by_cases hc : v1 = 0
                              · rw [if_pos hc] at hf ⊢
                                refine msegT C kX0_join 61 2 (g := (true, (if v2 = 0 then 215 else 211), [.int v0, .int v1, .int v2], [], mk b S)) rfl rfl ?_
                                by_cases hc : v2 = 0
                                · rw [if_pos hc] at hf ⊢
                                  refine msegT C kX0_join 65 1 (g := (true, 216, [.int v0, .int v1, .int v2], [.int (0 : Int32)], mk b S)) rfl rfl ?_
                                  exact mfor (L' := [.retAddr 0, .retAddr 0, .retAddr 0]) ⟨Or.inl rfl, Or.inl rfl, Or.inl rfl, trivial⟩ (bX0_join_216 C hr hk hf true)
                                · rw [if_neg hc] at hf ⊢
                                  exact mfor (L' := [.retAddr 0, .retAddr 0, .retAddr 0]) ⟨Or.inl rfl, Or.inl rfl, Or.inl rfl, trivial⟩ (bX0_join_211 C hr hk hf true)
                              · rw [if_neg hc] at hf ⊢
                                exact mfor (L' := [.retAddr 0, .retAddr 0, .retAddr 0]) ⟨Or.inl rfl, Or.inl rfl, Or.inl rfl, trivial⟩ (bX0_join_211 C hr hk hf true)
                            · rw [if_neg hc] at hf ⊢
                              by_cases hc : v0 = (51 : Int32)
                              · rw [if_pos hc] at hf ⊢
                                refine msegT C kX0_join 59 2 (g := (true, (if v1 = 0 then 207 else 211), [.int v0, .int v1, .int v2], [], mk b S)) rfl rfl ?_
                                by_cases hc : v1 = 0
                                · rw [if_pos hc] at hf ⊢
                                  refine msegT C kX0_join 61 2 (g := (true, (if v2 = 0 then 215 else 211), [.int v0, .int v1, .int v2], [], mk b S)) rfl rfl ?_
                                  by_cases hc : v2 = 0
                                  · rw [if_pos hc] at hf ⊢
                                    refine msegT C kX0_join 65 1 (g := (true, 216, [.int v0, .int v1, .int v2], [.int (0 : Int32)], mk b S)) rfl rfl ?_
                                    exact mfor (L' := [.retAddr 0, .retAddr 0, .retAddr 0]) ⟨Or.inl rfl, Or.inl rfl, Or.inl rfl, trivial⟩ (bX0_join_216 C hr hk hf true)
                                  · rw [if_neg hc] at hf ⊢
                                    exact mfor (L' := [.retAddr 0, .retAddr 0, .retAddr 0]) ⟨Or.inl rfl, Or.inl rfl, Or.inl rfl, trivial⟩ (bX0_join_211 C hr hk hf true)
                                · rw [if_neg hc] at hf ⊢
                                  exact mfor (L' := [.retAddr 0, .retAddr 0, .retAddr 0]) ⟨Or.inl rfl, Or.inl rfl, Or.inl rfl, trivial⟩ (bX0_join_211 C hr hk hf true)
                              · rw [if_neg hc] at hf ⊢
                                by_cases hc : v0 = (52 : Int32)
                                · rw [if_pos hc] at hf ⊢
                                  refine msegT C kX0_join 59 2 (g := (true, (if v1 = 0 then 207 else 211), [.int v0, .int v1, .int v2], [], mk b S)) rfl rfl ?_
                                  by_cases hc : v1 = 0
                                  · rw [if_pos hc] at hf ⊢
                                    refine msegT C kX0_join 61 2 (g := (true, (if v2 = 0 then 215 else 211), [.int v0, .int v1, .int v2], [], mk b S)) rfl rfl ?_
                                    by_cases hc : v2 = 0
                                    · rw [if_pos hc] at hf ⊢
                                      refine msegT C kX0_join 65 1 (g := (true, 216, [.int v0, .int v1, .int v2], [.int (0 : Int32)], mk b S)) rfl rfl ?_
                                      exact mfor (L' := [.retAddr 0, .retAddr 0, .retAddr 0]) ⟨Or.inl rfl, Or.inl rfl, Or.inl rfl, trivial⟩ (bX0_join_216 C hr hk hf true)
                                    · rw [if_neg hc] at hf ⊢
                                      exact mfor (L' := [.retAddr 0, .retAddr 0, .retAddr 0]) ⟨Or.inl rfl, Or.inl rfl, Or.inl rfl, trivial⟩ (bX0_join_211 C hr hk hf true)
                                  · rw [if_neg hc] at hf ⊢
                                    exact mfor (L' := [.retAddr 0, .retAddr 0, .retAddr 0]) ⟨Or.inl rfl, Or.inl rfl, Or.inl rfl, trivial⟩ (bX0_join_211 C hr hk hf true)
                                · rw [if_neg hc] at hf ⊢
                                  by_cases hc : v0 = (53 : Int32)
                                  · rw [if_pos hc] at hf ⊢
                                    refine msegT C kX0_join 59 2 (g := (true, (if v1 = 0 then 207 else 211), [.int v0, .int v1, .int v2], [], mk b S)) rfl rfl ?_
                                    by_cases hc : v1 = 0
                                    · rw [if_pos hc] at hf ⊢
                                      refine msegT C kX0_join 61 2 (g := (true, (if v2 = 0 then 215 else 211), [.int v0, .int v1, .int v2], [], mk b S)) rfl rfl ?_
                                      by_cases hc : v2 = 0
                                      · rw [if_pos hc] at hf ⊢
                                        refine msegT C kX0_join 65 1 (g := (true, 216, [.int v0, .int v1, .int v2], [.int (0 : Int32)], mk b S)) rfl rfl ?_
                                        exact mfor (L' := [.retAddr 0, .retAddr 0, .retAddr 0]) ⟨Or.inl rfl, Or.inl rfl, Or.inl rfl, trivial⟩ (bX0_join_216 C hr hk hf true)
                                      · rw [if_neg hc] at hf ⊢
                                        exact mfor (L' := [.retAddr 0, .retAddr 0, .retAddr 0]) ⟨Or.inl rfl, Or.inl rfl, Or.inl rfl, trivial⟩ (bX0_join_211 C hr hk hf true)
                                    · rw [if_neg hc] at hf ⊢
                                      exact mfor (L' := [.retAddr 0, .retAddr 0, .retAddr 0]) ⟨Or.inl rfl, Or.inl rfl, Or.inl rfl, trivial⟩ (bX0_join_211 C hr hk hf true)
                                  · rw [if_neg hc] at hf ⊢
                                    by_cases hc : v0 = (54 : Int32)
                                    · rw [if_pos hc] at hf ⊢
                                      refine msegT C kX0_join 59 2 (g := (true, (if v1 = 0 then 207 else 211), [.int v0, .int v1, .int v2], [], mk b S)) rfl rfl ?_
                                      by_cases hc : v1 = 0
                                      · rw [if_pos hc] at hf ⊢
                                        refine msegT C kX0_join 61 2 (g := (true, (if v2 = 0 then 215 else 211), [.int v0, .int v1, .int v2], [], mk b S)) rfl rfl ?_
                                        by_cases hc : v2 = 0
                                        · rw [if_pos hc] at hf ⊢
                                          refine msegT C kX0_join 65 1 (g := (true, 216, [.int v0, .int v1, .int v2], [.int (0 : Int32)], mk b S)) rfl rfl ?_
                                          exact mfor (L' := [.retAddr 0, .retAddr 0, .retAddr 0]) ⟨Or.inl rfl, Or.inl rfl, Or.inl rfl, trivial⟩ (bX0_join_216 C hr hk hf true)
                                        · rw [if_neg hc] at hf ⊢
                                          exact mfor (L' := [.retAddr 0, .retAddr 0, .retAddr 0]) ⟨Or.inl rfl, Or.inl rfl, Or.inl rfl, trivial⟩ (bX0_join_211 C hr hk hf true)
                                      · rw [if_neg hc] at hf ⊢
                                        exact mfor (L' := [.retAddr 0, .retAddr 0, .retAddr 0]) ⟨Or.inl rfl, Or.inl rfl, Or.inl rfl, trivial⟩ (bX0_join_211 C hr hk hf true)
                                    · rw [if_neg hc] at hf ⊢
                                      by_cases hc : v0 = (55 : Int32)
                                      · rw [if_pos hc] at hf ⊢
                                        refine msegT C kX0_join 59 2 (g := (true, (if v1 = 0 then 207 else 211), [.int v0, .int v1, .int v2], [], mk b S)) rfl rfl ?_
                                        by_cases hc : v1 = 0
                                        · rw [if_pos hc] at hf ⊢
                                          refine msegT C kX0_join 61 2 (g := (true, (if v2 = 0 then 215 else 211), [.int v0, .int v1, .int v2], [], mk b S)) rfl rfl ?_
                                          by_cases hc : v2 = 0
                                          · rw [if_pos hc] at hf ⊢
                                            refine msegT C kX0_join 65 1 (g := (true, 216, [.int v0, .int v1, .int v2], [.int (0 : Int32)], mk b S)) rfl rfl ?_
                                            exact mfor (L' := [.retAddr 0, .retAddr 0, .retAddr 0]) ⟨Or.inl rfl, Or.inl rfl, Or.inl rfl, trivial⟩ (bX0_join_216 C hr hk hf true)
                                          · rw [if_neg hc] at hf ⊢
                                            exact mfor (L' := [.retAddr 0, .retAddr 0, .retAddr 0]) ⟨Or.inl rfl, Or.inl rfl, Or.inl rfl, trivial⟩ (bX0_join_211 C hr hk hf true)
                                        · rw [if_neg hc] at hf ⊢
                                          exact mfor (L' := [.retAddr 0, .retAddr 0, .retAddr 0]) ⟨Or.inl rfl, Or.inl rfl, Or.inl rfl, trivial⟩ (bX0_join_211 C hr hk hf true)
                                      · rw [if_neg hc] at hf ⊢
                                        by_cases hc : v0 = (56 : Int32)
                                        · rw [if_pos hc] at hf ⊢
                                          refine msegT C kX0_join 59 2 (g := (true, (if v1 = 0 then 207 else 211), [.int v0, .int v1, .int v2], [], mk b S)) rfl rfl ?_
                                          by_cases hc : v1 = 0
                                          · rw [if_pos hc] at hf ⊢
                                            refine msegT C kX0_join 61 2 (g := (true, (if v2 = 0 then 215 else 211), [.int v0, .int v1, .int v2], [], mk b S)) rfl rfl ?_
                                            by_cases hc : v2 = 0
                                            · rw [if_pos hc] at hf ⊢
                                              refine msegT C kX0_join 65 1 (g := (true, 216, [.int v0, .int v1, .int v2], [.int (0 : Int32)], mk b S)) rfl rfl ?_
                                              exact mfor (L' := [.retAddr 0, .retAddr 0, .retAddr 0]) ⟨Or.inl rfl, Or.inl rfl, Or.inl rfl, trivial⟩ (bX0_join_216 C hr hk hf true)
                                            · rw [if_neg hc] at hf ⊢
                                              exact mfor (L' := [.retAddr 0, .retAddr 0, .retAddr 0]) ⟨Or.inl rfl, Or.inl rfl, Or.inl rfl, trivial⟩ (bX0_join_211 C hr hk hf true)
                                          · rw [if_neg hc] at hf ⊢
                                            exact mfor (L' := [.retAddr 0, .retAddr 0, .retAddr 0]) ⟨Or.inl rfl, Or.inl rfl, Or.inl rfl, trivial⟩ (bX0_join_211 C hr hk hf true)
                                        · rw [if_neg hc] at hf ⊢
                                          by_cases hc : v0 = (57 : Int32)
                                          · rw [if_pos hc] at hf ⊢
                                            refine msegT C kX0_join 59 2 (g := (true, (if v1 = 0 then 207 else 211), [.int v0, .int v1, .int v2], [], mk b S)) rfl rfl ?_
                                            by_cases hc : v1 = 0
                                            · rw [if_pos hc] at hf ⊢
                                              refine msegT C kX0_join 61 2 (g := (true, (if v2 = 0 then 215 else 211), [.int v0, .int v1, .int v2], [], mk b S)) rfl rfl ?_
                                              by_cases hc : v2 = 0
                                              · rw [if_pos hc] at hf ⊢
                                                refine msegT C kX0_join 65 1 (g := (true, 216, [.int v0, .int v1, .int v2], [.int (0 : Int32)], mk b S)) rfl rfl ?_
                                                exact mfor (L' := [.retAddr 0, .retAddr 0, .retAddr 0]) ⟨Or.inl rfl, Or.inl rfl, Or.inl rfl, trivial⟩ (bX0_join_216 C hr hk hf true)
                                              · rw [if_neg hc] at hf ⊢
                                                exact mfor (L' := [.retAddr 0, .retAddr 0, .retAddr 0]) ⟨Or.inl rfl, Or.inl rfl, Or.inl rfl, trivial⟩ (bX0_join_211 C hr hk hf true)
                                            · rw [if_neg hc] at hf ⊢
                                              exact mfor (L' := [.retAddr 0, .retAddr 0, .retAddr 0]) ⟨Or.inl rfl, Or.inl rfl, Or.inl rfl, trivial⟩ (bX0_join_211 C hr hk hf true)
                                          · rw [if_neg hc] at hf ⊢
                                            by_cases hc : v0 = (58 : Int32)
                                            · rw [if_pos hc] at hf ⊢
                                              refine msegT C kX0_join 59 2 (g := (true, (if v1 = 0 then 207 else 211), [.int v0, .int v1, .int v2], [], mk b S)) rfl rfl ?_
                                              by_cases hc : v1 = 0
                                              · rw [if_pos hc] at hf ⊢
                                                refine msegT C kX0_join 61 2 (g := (true, (if v2 = 0 then 215 else 211), [.int v0, .int v1, .int v2], [], mk b S)) rfl rfl ?_
                                                by_cases hc : v2 = 0
                                                · rw [if_pos hc] at hf ⊢
                                                  refine msegT C kX0_join 65 1 (g := (true, 216, [.int v0, .int v1, .int v2], [.int (0 : Int32)], mk b S)) rfl rfl ?_
                                                  exact mfor (L' := [.retAddr 0, .retAddr 0, .retAddr 0]) ⟨Or.inl rfl, Or.inl rfl, Or.inl rfl, trivial⟩ (bX0_join_216 C hr hk hf true)
                                                · rw [if_neg hc] at hf ⊢
                                                  exact mfor (L' := [.retAddr 0, .retAddr 0, .retAddr 0]) ⟨Or.inl rfl, Or.inl rfl, Or.inl rfl, trivial⟩ (bX0_join_211 C hr hk hf true)
                                              · rw [if_neg hc] at hf ⊢
                                                exact mfor (L' := [.retAddr 0, .retAddr 0, .retAddr 0]) ⟨Or.inl rfl, Or.inl rfl, Or.inl rfl, trivial⟩ (bX0_join_211 C hr hk hf true)
                                            · rw [if_neg hc] at hf ⊢
                                              by_cases hc : v0 = (59 : Int32)
                                              · rw [if_pos hc] at hf ⊢
                                                refine msegT C kX0_join 59 2 (g := (true, (if v1 = 0 then 207 else 211), [.int v0, .int v1, .int v2], [], mk b S)) rfl rfl ?_
                                                by_cases hc : v1 = 0
                                                · rw [if_pos hc] at hf ⊢
                                                  refine msegT C kX0_join 61 2 (g := (true, (if v2 = 0 then 215 else 211), [.int v0, .int v1, .int v2], [], mk b S)) rfl rfl ?_
                                                  by_cases hc : v2 = 0
                                                  · rw [if_pos hc] at hf ⊢
                                                    refine msegT C kX0_join 65 1 (g := (true, 216, [.int v0, .int v1, .int v2], [.int (0 : Int32)], mk b S)) rfl rfl ?_
                                                    exact mfor (L' := [.retAddr 0, .retAddr 0, .retAddr 0]) ⟨Or.inl rfl, Or.inl rfl, Or.inl rfl, trivial⟩ (bX0_join_216 C hr hk hf true)
                                                  · rw [if_neg hc] at hf ⊢
                                                    exact mfor (L' := [.retAddr 0, .retAddr 0, .retAddr 0]) ⟨Or.inl rfl, Or.inl rfl, Or.inl rfl, trivial⟩ (bX0_join_211 C hr hk hf true)
                                                · rw [if_neg hc] at hf ⊢
                                                  exact mfor (L' := [.retAddr 0, .retAddr 0, .retAddr 0]) ⟨Or.inl rfl, Or.inl rfl, Or.inl rfl, trivial⟩ (bX0_join_211 C hr hk hf true)
                                              · rw [if_neg hc] at hf ⊢
                                                by_cases hc : v0 = (60 : Int32)
                                                · rw [if_pos hc] at hf ⊢
                                                  refine msegT C kX0_join 30 3 (g := (true, (if v2 ≤ v1 then 165 else 161), [.int v0, .int v1, .int v2], [], mk b S)) rfl rfl ?_
                                                  by_cases hc : v2 ≤ v1
                                                  · rw [if_pos hc] at hf ⊢
                                                    refine msegT C kX0_join 35 1 (g := (true, 166, [.int v0, .int v1, .int v2], [.int (0 : Int32)], mk b S)) rfl rfl ?_
                                                    exact mfor (L' := [.retAddr 0, .retAddr 0, .retAddr 0]) ⟨Or.inl rfl, Or.inl rfl, Or.inl rfl, trivial⟩ (bX0_join_166 C hr hk hf true)
                                                  · rw [if_neg hc] at hf ⊢
                                                    refine msegT C kX0_join 33 2 (g := (true, 166, [.int v0, .int v1, .int v2], [.int (1 : Int32)], mk b S)) rfl rfl ?_
                                                    exact mfor (L' := [.retAddr 0, .retAddr 0, .retAddr 0]) ⟨Or.inl rfl, Or.inl rfl, Or.inl rfl, trivial⟩ (bX0_join_166 C hr hk hf true)
                                                · rw [if_neg hc] at hf ⊢
                                                  by_cases hc : v0 = (61 : Int32)
                                                  · rw [if_pos hc] at hf ⊢
                                                    refine msegT C kX0_join 44 3 (g := (true, (if v1 = v2 then 183 else 187), [.int v0, .int v1, .int v2], [], mk b S)) rfl rfl ?_
                                                    by_cases hc : v1 = v2
                                                    · rw [if_pos hc] at hf ⊢
                                                      refine msegT C kX0_join 47 2 (g := (true, 188, [.int v0, .int v1, .int v2], [.int (1 : Int32)], mk b S)) rfl rfl ?_
                                                      exact mfor (L' := [.retAddr 0, .retAddr 0, .retAddr 0]) ⟨Or.inl rfl, Or.inl rfl, Or.inl rfl, trivial⟩ (bX0_join_188 C hr hk hf true)
                                                    · rw [if_neg hc] at hf ⊢
                                                      refine msegT C kX0_join 49 1 (g := (true, 188, [.int v0, .int v1, .int v2], [.int (0 : Int32)], mk b S)) rfl rfl ?_
                                                      exact mfor (L' := [.retAddr 0, .retAddr 0, .retAddr 0]) ⟨Or.inl rfl, Or.inl rfl, Or.inl rfl, trivial⟩ (bX0_join_188 C hr hk hf true)
                                                  · rw [if_neg hc] at hf ⊢
                                                    by_cases hc : v0 = (62 : Int32)
                                                    · rw [if_pos hc] at hf ⊢
                                                      refine msegT C kX0_join 37 3 (g := (true, (if v1 ≤ v2 then 176 else 172), [.int v0, .int v1, .int v2], [], mk b S)) rfl rfl ?_
                                                      by_cases hc : v1 ≤ v2
                                                      · rw [if_pos hc] at hf ⊢
                                                        refine msegT C kX0_join 42 1 (g := (true, 177, [.int v0, .int v1, .int v2], [.int (0 : Int32)], mk b S)) rfl rfl ?_
                                                        exact mfor (L' := [.retAddr 0, .retAddr 0, .retAddr 0]) ⟨Or.inl rfl, Or.inl rfl, Or.inl rfl, trivial⟩ (bX0_join_177 C hr hk hf true)
                                                      · rw [if_neg hc] at hf ⊢
                                                        refine msegT C kX0_join 40 2 (g := (true, 177, [.int v0, .int v1, .int v2], [.int (1 : Int32)], mk b S)) rfl rfl ?_
                                                        exact mfor (L' := [.retAddr 0, .retAddr 0, .retAddr 0]) ⟨Or.inl rfl, Or.inl rfl, Or.inl rfl, trivial⟩ (bX0_join_177 C hr hk hf true)
                                                    · rw [if_neg hc] at hf ⊢
                                                      refine msegT C kX0_join 59 2 (g := (true, (if v1 = 0 then 207 else 211), [.int v0, .int v1, .int v2], [], mk b S)) rfl rfl ?_
                                                      by_cases hc : v1 = 0
                                                      · rw [if_pos hc] at hf ⊢
                                                        refine msegT C kX0_join 61 2 (g := (true, (if v2 = 0 then 215 else 211), [.int v0, .int v1, .int v2], [], mk b S)) rfl rfl ?_
                                                        by_cases hc : v2 = 0
                                                        · rw [if_pos hc] at hf ⊢
                                                          refine msegT C kX0_join 65 1 (g := (true, 216, [.int v0, .int v1, .int v2], [.int (0 : Int32)], mk b S)) rfl rfl ?_
                                                          exact mfor (L' := [.retAddr 0, .retAddr 0, .retAddr 0]) ⟨Or.inl rfl, Or.inl rfl, Or.inl rfl, trivial⟩ (bX0_join_216 C hr hk hf true)
                                                        · rw [if_neg hc] at hf ⊢
                                                          exact mfor (L' := [.retAddr 0, .retAddr 0, .retAddr 0]) ⟨Or.inl rfl, Or.inl rfl, Or.inl rfl, trivial⟩ (bX0_join_211 C hr hk hf true)
                                                      · rw [if_neg hc] at hf ⊢
                                                        exact mfor (L' := [.retAddr 0, .retAddr 0, .retAddr 0]) ⟨Or.inl rfl, Or.inl rfl, Or.inl rfl, trivial⟩ (bX0_join_211 C hr hk hf true)
theorem qX0_join {b : Bool} {v0 : Int32} {v1 : Int32} {v2 : Int32} {S S' : mT} {r : Int32} (hf : fX0_join v0 v1 v2 S = some (r, S')) : mOk l mX0_join 1 [.int v0, .int v1, .int v2] b S (some (.int r)) S' :=
  gMet (by decide) (Nat.le_of_ble_eq_true rfl) rfl (Nat.le_of_ble_eq_true rfl) (fun p e s m args below meth c G C hr hk => bX0_join_0 C hr hk hf true)
theorem bX0_leaf_25 (C : mCx p (mR 1) s m args meth c G cX0_leaf RX0 3 false 233 54500 233 54500) (hr : meth.sig.returnType = (some .int)) (hk : meth.locks = false) {b : Bool} {a1 : Nat} {S' : mT} {r : Int32} {s0 : Int32} {S : mT} (hf : fX0_leaf_25 a1 s0 S = some (r, S')) (ok : Bool) : mW p l e (mR 1) s m args below meth c G 3 233 54500 (mQ below G args s b S' (some (.int r))) (ok, 25, [.retAddr 0, .retAddr 0, .retAddr 0], [.int s0], mk b S) := by
  unfold fX0_leaf_25 at hf
  cases hf
  exact gret_i C hr hk (kX0_leaf _ (List.mem_of_getElem? (i := 17) rfl)).1
theorem bX0_leaf_0 (C : mCx p (mR 1) s m args meth c G cX0_leaf RX0 3 false 233 54500 233 54500) (hr : meth.sig.returnType = (some .int)) (hk : meth.locks = false) {b : Bool} {a1 : Nat} {S' : mT} {r : Int32} {v0 : Int32} {S : mT} (hf : fX0_leaf a1 v0 S = some (r, S')) (ok : Bool) : mW p l e (mR 1) s m args below meth c G 3 233 54500 (mQ below G args s b S' (some (.int r))) (ok, 0, [.int v0, .ref a1, .retAddr 0], [], mk b S) := by
  unfold fX0_leaf at hf
  refine msegT C kX0_leaf 0 4 (g := (true, 6, [.int v0, .ref a1, .int (v0 - (10000 : Int32))], [], mk b S)) rfl rfl ?_
  obtain ⟨x1, ex1, hf⟩ := bnd_ex hf
  rw [← ex1]
  refine msegT C kX0_leaf 4 2 (g := (true, (if 0 ≤ x1 then 12 else 10), [.int v0, .ref a1, .int x1], [], mk b S)) rfl rfl ?_
  by_cases hc : 0 ≤ x1
  · rw [if_pos hc] at hf ⊢
    obtain ⟨hok, hf⟩ := grd_ex hf
    refine msegT C kX0_leaf 8 4 (g := ((kAL 233 (sT a1) a1 && true), (if (Int32.ofNat (kLen (sT a1))) ≤ x1 then 24 else 18), [.int v0, .ref a1, .int x1], [], mk b S)) rfl hok ?_
    by_cases hc : (Int32.ofNat (kLen (sT a1))) ≤ x1
    · rw [if_pos hc] at hf ⊢
      refine msegT C kX0_leaf 16 1 (g := (true, 25, [.int v0, .ref a1, .int x1], [.int (0 : Int32)], mk b S)) rfl rfl ?_
      exact mfor (L' := [.retAddr 0, .retAddr 0, .retAddr 0]) ⟨Or.inl rfl, Or.inl rfl, Or.inl rfl, trivial⟩ (bX0_leaf_25 C hr hk hf true)
    · rw [if_neg hc] at hf ⊢
      obtain ⟨hok, hf⟩ := grd_ex hf
      refine msegT C kX0_leaf 12 4 (g := ((kI a1 x1 && true), 25, [.int v0, .ref a1, .int x1], [.int (S.1 a1 (mIx x1))], mk b S)) rfl hok ?_
      exact mfor (L' := [.retAddr 0, .retAddr 0, .retAddr 0]) ⟨Or.inl rfl, Or.inl rfl, Or.inl rfl, trivial⟩ (bX0_leaf_25 C hr hk hf true)
  · rw [if_neg hc] at hf ⊢
    refine msegT C kX0_leaf 6 1 (g := (true, 11, [.int v0, .ref a1, .int x1], [.int v0], mk b S)) rfl rfl ?_
    cases hf
    exact gret_i C hr hk (kX0_leaf _ (List.mem_of_getElem? (i := 7) rfl)).1
theorem qX0_leaf {b : Bool} {a1 : Nat} {v0 : Int32} {S S' : mT} {r : Int32} (hf : fX0_leaf a1 v0 S = some (r, S')) : mOk l mX0_leaf 1 [.int v0, .ref a1] b S (some (.int r)) S' :=
  gMet (by decide) (Nat.le_of_ble_eq_true rfl) rfl (Nat.le_of_ble_eq_true rfl) (fun p e s m args below meth c G C hr hk => bX0_leaf_0 C hr hk hf true)
theorem bX0_work_130_12 (C : mCx p (mR 2) s m args meth c G cX0_work RX0 5 false 233 54500 233 54500) (hr : meth.sig.returnType = (some .int)) (hk : meth.locks = false) {b : Bool} {a1 : Nat} {S' : mT} {r : Int32} {rc4 : Int32 → Int32 → mT → Option (Int32 × mT)} (Hrc4 : ∀ (v2 : Int32) (v3 : Int32) (S : mT), rc4 v2 v3 S = some (r, S') → ∀ ok : Bool, mW p l e (mR 2) s m args below meth c G 5 233 54500 (mQ below G args s b S' (some (.int r))) (ok, 4, [.ref (12), .ref a1, .int v2, .int v3, .retAddr 0], [], mk b S)) {v2 : Int32} {v3 : Int32} {S : mT} (hf : fX0_work_130 12 a1 rc4 v2 v3 S = some (r, S')) (ok : Bool) : mW p l e (mR 2) s m args below meth c G 5 233 54500 (mQ below G args s b S' (some (.int r))) (ok, 130, [.ref (12), .ref a1, .int v2, .int v3, .retAddr 0], [], mk b S) := by
  unfold fX0_work_130 at hf
  refine msegT C kX0_work 74 1 (g := (true, 133, [.ref (12), .ref a1, .int v2, .int (v3 + (1 : Int32)), .retAddr 0], [], mk b S)) rfl rfl ?_
  obtain ⟨x10, ex10, hf⟩ := bnd_ex hf
  rw [← ex10]
  refine msegT C kX0_work 75 1 (g := (true, 4, [.ref (12), .ref a1, .int v2, .int x10, .retAddr 0], [], mk b S)) rfl rfl ?_
  exact mfor (L' := [.ref (12), .ref a1, .int v2, .int x10, .retAddr 0]) ⟨Or.inr rfl, Or.inr rfl, Or.inr rfl, Or.inr rfl, Or.inl rfl, trivial⟩ (Hrc4 _ _ _ hf true)
theorem bX0_work_87_12 (C : mCx p (mR 2) s m args meth c G cX0_work RX0 5 false 233 54500 233 54500) (hr : meth.sig.returnType = (some .int)) (hk : meth.locks = false) {b : Bool} {a1 : Nat} {S' : mT} {r : Int32} {rc4 : Int32 → Int32 → mT → Option (Int32 × mT)} (Hrc4 : ∀ (v2 : Int32) (v3 : Int32) (S : mT), rc4 v2 v3 S = some (r, S') → ∀ ok : Bool, mW p l e (mR 2) s m args below meth c G 5 233 54500 (mQ below G args s b S' (some (.int r))) (ok, 4, [.ref (12), .ref a1, .int v2, .int v3, .retAddr 0], [], mk b S)) {v2 : Int32} {v3 : Int32} {s0 : Int32} {s1 : Int32} {S : mT} (hf : fX0_work_87 12 a1 rc4 v2 v3 s0 s1 S = some (r, S')) (ok : Bool) : mW p l e (mR 2) s m args below meth c G 5 233 54500 (mQ below G args s b S' (some (.int r))) (ok, 87, [.ref (12), .ref a1, .int v2, .int v3, .retAddr 0], [.int s0, .int s1, .ref (12 + 2)], mk b S) := by
  unfold fX0_work_87 at hf
  obtain ⟨hok, hf⟩ := grd_ex hf
  refine msegT C kX0_work 48 1 (g := ((kI (12 + 2) s1 && true), 88, [.ref (12), .ref a1, .int v2, .int v3, .retAddr 0], [], mk b (sI S (12 + 2) (mIx s1) s0))) rfl hok ?_
  obtain ⟨S11, eS11, hf⟩ := bnd_ex hf
  rw [← eS11]
  refine msegT C kX0_work 49 1 (g := (true, 130, [.ref (12), .ref a1, .int v2, .int v3, .retAddr 0], [], mk b S11)) rfl rfl ?_
  exact mfor (L' := [.ref (12), .ref a1, .int v2, .int v3, .retAddr 0]) ⟨Or.inr rfl, Or.inr rfl, Or.inr rfl, Or.inr rfl, Or.inl rfl, trivial⟩ (bX0_work_130_12 C hr hk Hrc4 hf true)
theorem bX0_work_152_12 (C : mCx p (mR 2) s m args meth c G cX0_work RX0 5 false 233 54500 233 54500) (hr : meth.sig.returnType = (some .int)) (hk : meth.locks = false) {b : Bool} {a1 : Nat} {S' : mT} {r : Int32} {s0 : Int32} {S : mT} (hf : fX0_work_152 12 a1 s0 S = some (r, S')) (ok : Bool) : mW p l e (mR 2) s m args below meth c G 5 233 54500 (mQ below G args s b S' (some (.int r))) (ok, 152, [.retAddr 0, .retAddr 0, .retAddr 0, .retAddr 0, .retAddr 0], [.int s0], mk b S) := by
  unfold fX0_work_152 at hf
  cases hf
  exact gret_i C hr hk (kX0_work _ (List.mem_of_getElem? (i := 86) rfl)).1
theorem bX0_work_4_12 (C : mCx p (mR 2) s m args meth c G cX0_work RX0 5 false 233 54500 233 54500) (hr : meth.sig.returnType = (some .int)) (hk : meth.locks = false) {b : Bool} {a1 : Nat} {S' : mT} {r : Int32} : ∀ (k : Nat) (v2 : Int32) (v3 : Int32) (S : mT), fX0_work_4 12 a1 k v2 v3 S = some (r, S') → ∀ ok : Bool, mW p l e (mR 2) s m args below meth c G 5 233 54500 (mQ below G args s b S' (some (.int r))) (ok, 4, [.ref (12), .ref a1, .int v2, .int v3, .retAddr 0], [], mk b S) := by
  intro k
  induction k with
  | zero =>
    intro v2 v3 S hf ok
    cases hf
  | succ k ih =>
    intro v2 v3 S hf ok
    unfold fX0_work_4 at hf
    obtain ⟨hok, hf⟩ := grd_ex hf
    refine msegT C kX0_work 4 4 (g := ((kO 12 0 && true), (if (S.1 12 2) ≤ v3 then 136 else 12), [.ref (12), .ref a1, .int v2, .int v3, .retAddr 0], [], mk b S)) rfl hok ?_
    by_cases hc : (S.1 12 2) ≤ v3
    · rw [if_pos hc] at hf ⊢
      refine msegT C kX0_work 76 2 (g := (true, (if v2 ≤ 0 then 151 else 140), [.ref (12), .ref a1, .int v2, .int v3, .retAddr 0], [], mk b S)) rfl rfl ?_
      by_cases hc : v2 ≤ 0
      · rw [if_pos hc] at hf ⊢
        refine msegT C kX0_work 85 1 (g := (true, 152, [.ref (12), .ref a1, .int v2, .int v3, .retAddr 0], [.int (0 : Int32)], mk b S)) rfl rfl ?_
        exact mfor (L' := [.retAddr 0, .retAddr 0, .retAddr 0, .retAddr 0, .retAddr 0]) ⟨Or.inl rfl, Or.inl rfl, Or.inl rfl, Or.inl rfl, Or.inl rfl, trivial⟩ (bX0_work_152_12 C hr hk hf true)
      · rw [if_neg hc] at hf ⊢
        obtain ⟨hok, hf⟩ := grd_ex hf
        refine msegT C kX0_work 78 7 (g := ((kI (12 + 2) (v2 - (1 : Int32)) && (kO 12 0 && true)), 152, [.ref (12), .ref a1, .int v2, .int v3, .retAddr 0], [.int (S.1 (12 + 2) (mIx (v2 - (1 : Int32))))], mk b S)) rfl hok ?_
        exact mfor (L' := [.retAddr 0, .retAddr 0, .retAddr 0, .retAddr 0, .retAddr 0]) ⟨Or.inl rfl, Or.inl rfl, Or.inl rfl, Or.inl rfl, Or.inl rfl, trivial⟩ (bX0_work_152_12 C hr hk hf true)
    · rw [if_neg hc] at hf ⊢
      obtain ⟨hok, hf⟩ := grd_ex hf
      refine msegT C kX0_work 8 5 (g := ((kI (12 + 1) v3 && (kO 12 0 && true)), 20, [.ref (12), .ref a1, .int v2, .int v3, .int (S.1 (12 + 1) (mIx v3))], [], mk b S)) rfl hok ?_
      obtain ⟨x1, ex1, hf⟩ := bnd_ex hf
      rw [← ex1]
      refine msegT C kX0_work 13 3 (g := (true, (if (20000 : Int32) ≤ x1 then 52 else 28), [.ref (12), .ref a1, .int v2, .int v3, .int x1], [], mk b S)) rfl rfl ?_
      by_cases hc : (20000 : Int32) ≤ x1
      · rw [if_pos hc] at hf ⊢
        refine msegT C kX0_work 28 3 (g := (true, (if x1 = (20033 : Int32) then 60 else 91), [.ref (12), .ref a1, .int v2, .int v3, .int x1], [], mk b S)) rfl rfl ?_
        by_cases hc : x1 = (20033 : Int32)
        · rw [if_pos hc] at hf ⊢
          refine msegT C kX0_work 31 2 (g := (true, (if v2 ≤ 0 then 130 else 64), [.ref (12), .ref a1, .int v2, .int v3, .int x1], [], mk b S)) rfl rfl ?_
          by_cases hc : v2 ≤ 0
          · rw [if_pos hc] at hf ⊢
            exact mfor (L' := [.ref (12), .ref a1, .int v2, .int v3, .retAddr 0]) ⟨Or.inr rfl, Or.inr rfl, Or.inr rfl, Or.inr rfl, Or.inl rfl, trivial⟩ (bX0_work_130_12 C hr hk ih hf true)
          · rw [if_neg hc] at hf ⊢
            obtain ⟨hok, hf⟩ := grd_ex hf
            refine msegT C kX0_work 33 10 (g := ((kO 12 0 && (kO 12 0 && true)), 78, [.ref (12), .ref a1, .int v2, .int v3, .int x1], [.int (v2 - (1 : Int32)), .ref (12 + 2), .int (v2 - (1 : Int32)), .ref (12 + 2)], mk b S)) rfl hok ?_
            obtain ⟨hok, hf⟩ := grd_ex hf
            refine msegT C kX0_work 43 2 (g := ((kI (12 + 2) (v2 - (1 : Int32)) && true), (if (S.1 (12 + 2) (mIx (v2 - (1 : Int32)))) = 0 then 82 else 86), [.ref (12), .ref a1, .int v2, .int v3, .int x1], [.int (v2 - (1 : Int32)), .ref (12 + 2)], mk b S)) rfl hok ?_
            by_cases hc : (S.1 (12 + 2) (mIx (v2 - (1 : Int32)))) = 0
            · rw [if_pos hc] at hf ⊢
              refine msegT C kX0_work 45 2 (g := (true, 87, [.ref (12), .ref a1, .int v2, .int v3, .int x1], [.int (1 : Int32), .int (v2 - (1 : Int32)), .ref (12 + 2)], mk b S)) rfl rfl ?_
              exact mfor (L' := [.ref (12), .ref a1, .int v2, .int v3, .retAddr 0]) ⟨Or.inr rfl, Or.inr rfl, Or.inr rfl, Or.inr rfl, Or.inl rfl, trivial⟩ (bX0_work_87_12 C hr hk ih hf true)
            · rw [if_neg hc] at hf ⊢
              refine msegT C kX0_work 47 1 (g := (true, 87, [.ref (12), .ref a1, .int v2, .int v3, .int x1], [.int (0 : Int32), .int (v2 - (1 : Int32)), .ref (12 + 2)], mk b S)) rfl rfl ?_
              exact mfor (L' := [.ref (12), .ref a1, .int v2, .int v3, .retAddr 0]) ⟨Or.inr rfl, Or.inr rfl, Or.inr rfl, Or.inr rfl, Or.inl rfl, trivial⟩ (bX0_work_87_12 C hr hk ih hf true)
        · rw [if_neg hc] at hf ⊢
          refine msegT C kX0_work 50 3 (g := (true, (if v2 ≤ (1 : Int32) then 130 else 96), [.ref (12), .ref a1, .int v2, .int v3, .int x1], [], mk b S)) rfl rfl ?_
          by_cases hc : v2 ≤ (1 : Int32)
          · rw [if_pos hc] at hf ⊢
            exact mfor (L' := [.ref (12), .ref a1, .int v2, .int v3, .retAddr 0]) ⟨Or.inr rfl, Or.inr rfl, Or.inr rfl, Or.inr rfl, Or.inl rfl, trivial⟩ (bX0_work_130_12 C hr hk ih hf true)
          · rw [if_neg hc] at hf ⊢
            refine msegT C kX0_work 53 1 (g := (true, 99, [.ref (12), .ref a1, .int (v2 + (-1 : Int32)), .int v3, .int x1], [], mk b S)) rfl rfl ?_
            obtain ⟨x2, ex2, hf⟩ := bnd_ex hf
            rw [← ex2]
            obtain ⟨hok, hf⟩ := grd_ex hf
            refine msegT C kX0_work 54 10 (g := ((kO 12 0 && (kO 12 0 && true)), 116, [.ref (12), .ref a1, .int x2, .int v3, .int x1], [.ref (12 + 2), .int (x1 - (20000 : Int32)), .int (x2 - (1 : Int32)), .ref (12 + 2)], mk b S)) rfl hok ?_
            obtain ⟨hok, hf⟩ := grd_ex hf
            refine msegT C kX0_work 64 8 (g := ((kI (12 + 2) x2 && (kO 12 0 && (kI (12 + 2) (x2 - (1 : Int32)) && true))), 126, [.ref (12), .ref a1, .int x2, .int v3, .int x1], [.int (S.1 (12 + 2) (mIx x2)), .int (S.1 (12 + 2) (mIx (x2 - (1 : Int32)))), .int (x1 - (20000 : Int32)), .int (x2 - (1 : Int32)), .ref (12 + 2)], mk b S)) rfl hok ?_
            obtain ⟨x4, S3, hq, hf⟩ := bndC_ex hf
            refine mcall (kd := 1) (vs := [.int (x1 - (20000 : Int32)), .int (S.1 (12 + 2) (mIx (x2 - (1 : Int32)))), .int (S.1 (12 + 2) (mIx x2))]) (rest := [.int (x2 - (1 : Int32)), .ref (12 + 2)]) (r := (some (.int x4))) (h' := mk b S3) (ok' := true) C lkRX0_33 (qX0_join hq) (kX0_work _ (List.mem_of_getElem? (i := 72) rfl)).1 rfl (Nat.le_of_ble_eq_true rfl) (Nat.le_of_ble_eq_true rfl) (Nat.le_refl _) (Nat.le_refl _) (Nat.le_of_ble_eq_true rfl) ?_
            obtain ⟨hok, hf⟩ := grd_ex hf
            refine msegT C kX0_work 73 1 (g := ((kI (12 + 2) (x2 - (1 : Int32)) && true), 130, [.ref (12), .ref a1, .int x2, .int v3, .int x1], [], mk b (sI S3 (12 + 2) (mIx (x2 - (1 : Int32))) x4))) rfl hok ?_
            obtain ⟨S5, eS5, hf⟩ := bnd_ex hf
            rw [← eS5]
            exact mfor (L' := [.ref (12), .ref a1, .int x2, .int v3, .retAddr 0]) ⟨Or.inr rfl, Or.inr rfl, Or.inr rfl, Or.inr rfl, Or.inl rfl, trivial⟩ (bX0_work_130_12 C hr hk ih hf true)
      · rw [if_neg hc] at hf ⊢
        refine msegT C kX0_work 16 3 (g := (true, (if (30 : Int32) ≤ v2 then 130 else 34), [.ref (12), .ref a1, .int v2, .int v3, .int x1], [], mk b S)) rfl rfl ?_
        by_cases hc : (30 : Int32) ≤ v2
        · rw [if_pos hc] at hf ⊢
          exact mfor (L' := [.ref (12), .ref a1, .int v2, .int v3, .retAddr 0]) ⟨Or.inr rfl, Or.inr rfl, Or.inr rfl, Or.inr rfl, Or.inl rfl, trivial⟩ (bX0_work_130_12 C hr hk ih hf true)
        · rw [if_neg hc] at hf ⊢
          obtain ⟨hok, hf⟩ := grd_ex hf
          refine msegT C kX0_work 19 5 (g := ((kO 12 0 && true), 42, [.ref (12), .ref a1, .int v2, .int v3, .int x1], [.ref a1, .int x1, .int v2, .ref (12 + 2)], mk b S)) rfl hok ?_
          obtain ⟨x7, S6, hq, hf⟩ := bndC_ex hf
          refine mcall (kd := 1) (vs := [.int x1, .ref a1]) (rest := [.int v2, .ref (12 + 2)]) (r := (some (.int x7))) (h' := mk b S6) (ok' := true) C lkRX0_29 (qX0_leaf hq) (kX0_work _ (List.mem_of_getElem? (i := 24) rfl)).1 rfl (Nat.le_of_ble_eq_true rfl) (Nat.le_of_ble_eq_true rfl) (Nat.le_refl _) (Nat.le_refl _) (Nat.le_of_ble_eq_true rfl) ?_
          obtain ⟨hok, hf⟩ := grd_ex hf
          refine msegT C kX0_work 25 1 (g := ((kI (12 + 2) v2 && true), 46, [.ref (12), .ref a1, .int v2, .int v3, .int x1], [], mk b (sI S6 (12 + 2) (mIx v2) x7))) rfl hok ?_
          obtain ⟨S8, eS8, hf⟩ := bnd_ex hf
          rw [← eS8]
          refine msegT C kX0_work 26 1 (g := (true, 49, [.ref (12), .ref a1, .int (v2 + (1 : Int32)), .int v3, .int x1], [], mk b S8)) rfl rfl ?_
          obtain ⟨x9, ex9, hf⟩ := bnd_ex hf
          rw [← ex9]
          refine msegT C kX0_work 27 1 (g := (true, 130, [.ref (12), .ref a1, .int x9, .int v3, .int x1], [], mk b S8)) rfl rfl ?_
          exact mfor (L' := [.ref (12), .ref a1, .int x9, .int v3, .retAddr 0]) ⟨Or.inr rfl, Or.inr rfl, Or.inr rfl, Or.inr rfl, Or.inl rfl, trivial⟩ (bX0_work_130_12 C hr hk ih hf true)
theorem bX0_work_0_12 (C : mCx p (mR 2) s m args meth c G cX0_work RX0 5 false 233 54500 233 54500) (hr : meth.sig.returnType = (some .int)) (hk : meth.locks = false) {b : Bool} {a1 : Nat} {S' : mT} {r : Int32} {S : mT} (hf : fX0_work 12 a1 S = some (r, S')) (ok : Bool) : mW p l e (mR 2) s m args below meth c G 5 233 54500 (mQ below G args s b S' (some (.int r))) (ok, 0, [.ref (12), .ref a1, .retAddr 0, .retAddr 0, .retAddr 0], [], mk b S) := by
  unfold fX0_work at hf
  refine msegT C kX0_work 0 4 (g := (true, 4, [.ref (12), .ref a1, .int (0 : Int32), .int (0 : Int32), .retAddr 0], [], mk b S)) rfl rfl ?_
  exact mfor (L' := [.ref (12), .ref a1, .int (0 : Int32), .int (0 : Int32), .retAddr 0]) ⟨Or.inr rfl, Or.inr rfl, Or.inr rfl, Or.inr rfl, Or.inl rfl, trivial⟩ (bX0_work_4_12 C hr hk _ _ _ _ hf true)
theorem qX0_work_12 {b : Bool} {a1 : Nat} {S S' : mT} {r : Int32} (hf : fX0_work 12 a1 S = some (r, S')) : mOk l mX0_work 2 [.ref (12), .ref a1] b S (some (.int r)) S' :=
  gMet (by decide) (Nat.le_of_ble_eq_true rfl) rfl (Nat.le_of_ble_eq_true rfl) (fun p e s m args below meth c G C hr hk => bX0_work_0_12 C hr hk hf true)
theorem bX0_work_130_28 (C : mCx p (mR 2) s m args meth c G cX0_work RX0 5 false 233 54500 233 54500) (hr : meth.sig.returnType = (some .int)) (hk : meth.locks = false) {b : Bool} {a1 : Nat} {S' : mT} {r : Int32} {rc4 : Int32 → Int32 → mT → Option (Int32 × mT)} (Hrc4 : ∀ (v2 : Int32) (v3 : Int32) (S : mT), rc4 v2 v3 S = some (r, S') → ∀ ok : Bool, mW p l e (mR 2) s m args below meth c G 5 233 54500 (mQ below G args s b S' (some (.int r))) (ok, 4, [.ref (28), .ref a1, .int v2, .int v3, .retAddr 0], [], mk b S)) {v2 : Int32} {v3 : Int32} {S : mT} (hf : fX0_work_130 28 a1 rc4 v2 v3 S = some (r, S')) (ok : Bool) : mW p l e (mR 2) s m args below meth c G 5 233 54500 (mQ below G args s b S' (some (.int r))) (ok, 130, [.ref (28), .ref a1, .int v2, .int v3, .retAddr 0], [], mk b S) := by
  unfold fX0_work_130 at hf
  refine msegT C kX0_work 74 1 (g := (true, 133, [.ref (28), .ref a1, .int v2, .int (v3 + (1 : Int32)), .retAddr 0], [], mk b S)) rfl rfl ?_
  obtain ⟨x10, ex10, hf⟩ := bnd_ex hf
  rw [← ex10]
  refine msegT C kX0_work 75 1 (g := (true, 4, [.ref (28), .ref a1, .int v2, .int x10, .retAddr 0], [], mk b S)) rfl rfl ?_
  exact mfor (L' := [.ref (28), .ref a1, .int v2, .int x10, .retAddr 0]) ⟨Or.inr rfl, Or.inr rfl, Or.inr rfl, Or.inr rfl, Or.inl rfl, trivial⟩ (Hrc4 _ _ _ hf true)
theorem bX0_work_87_28 (C : mCx p (mR 2) s m args meth c G cX0_work RX0 5 false 233 54500 233 54500) (hr : meth.sig.returnType = (some .int)) (hk : meth.locks = false) {b : Bool} {a1 : Nat} {S' : mT} {r : Int32} {rc4 : Int32 → Int32 → mT → Option (Int32 × mT)} (Hrc4 : ∀ (v2 : Int32) (v3 : Int32) (S : mT), rc4 v2 v3 S = some (r, S') → ∀ ok : Bool, mW p l e (mR 2) s m args below meth c G 5 233 54500 (mQ below G args s b S' (some (.int r))) (ok, 4, [.ref (28), .ref a1, .int v2, .int v3, .retAddr 0], [], mk b S)) {v2 : Int32} {v3 : Int32} {s0 : Int32} {s1 : Int32} {S : mT} (hf : fX0_work_87 28 a1 rc4 v2 v3 s0 s1 S = some (r, S')) (ok : Bool) : mW p l e (mR 2) s m args below meth c G 5 233 54500 (mQ below G args s b S' (some (.int r))) (ok, 87, [.ref (28), .ref a1, .int v2, .int v3, .retAddr 0], [.int s0, .int s1, .ref (28 + 2)], mk b S) := by
  unfold fX0_work_87 at hf
  obtain ⟨hok, hf⟩ := grd_ex hf
  refine msegT C kX0_work 48 1 (g := ((kI (28 + 2) s1 && true), 88, [.ref (28), .ref a1, .int v2, .int v3, .retAddr 0], [], mk b (sI S (28 + 2) (mIx s1) s0))) rfl hok ?_
  obtain ⟨S11, eS11, hf⟩ := bnd_ex hf
  rw [← eS11]
  refine msegT C kX0_work 49 1 (g := (true, 130, [.ref (28), .ref a1, .int v2, .int v3, .retAddr 0], [], mk b S11)) rfl rfl ?_
  exact mfor (L' := [.ref (28), .ref a1, .int v2, .int v3, .retAddr 0]) ⟨Or.inr rfl, Or.inr rfl, Or.inr rfl, Or.inr rfl, Or.inl rfl, trivial⟩ (bX0_work_130_28 C hr hk Hrc4 hf true)
theorem bX0_work_152_28 (C : mCx p (mR 2) s m args meth c G cX0_work RX0 5 false 233 54500 233 54500) (hr : meth.sig.returnType = (some .int)) (hk : meth.locks = false) {b : Bool} {a1 : Nat} {S' : mT} {r : Int32} {s0 : Int32} {S : mT} (hf : fX0_work_152 28 a1 s0 S = some (r, S')) (ok : Bool) : mW p l e (mR 2) s m args below meth c G 5 233 54500 (mQ below G args s b S' (some (.int r))) (ok, 152, [.retAddr 0, .retAddr 0, .retAddr 0, .retAddr 0, .retAddr 0], [.int s0], mk b S) := by
  unfold fX0_work_152 at hf
  cases hf
  exact gret_i C hr hk (kX0_work _ (List.mem_of_getElem? (i := 86) rfl)).1
theorem bX0_work_4_28 (C : mCx p (mR 2) s m args meth c G cX0_work RX0 5 false 233 54500 233 54500) (hr : meth.sig.returnType = (some .int)) (hk : meth.locks = false) {b : Bool} {a1 : Nat} {S' : mT} {r : Int32} : ∀ (k : Nat) (v2 : Int32) (v3 : Int32) (S : mT), fX0_work_4 28 a1 k v2 v3 S = some (r, S') → ∀ ok : Bool, mW p l e (mR 2) s m args below meth c G 5 233 54500 (mQ below G args s b S' (some (.int r))) (ok, 4, [.ref (28), .ref a1, .int v2, .int v3, .retAddr 0], [], mk b S) := by
  intro k
  induction k with
  | zero =>
    intro v2 v3 S hf ok
    cases hf
  | succ k ih =>
    intro v2 v3 S hf ok
    unfold fX0_work_4 at hf
    obtain ⟨hok, hf⟩ := grd_ex hf
    refine msegT C kX0_work 4 4 (g := ((kO 28 0 && true), (if (S.1 28 2) ≤ v3 then 136 else 12), [.ref (28), .ref a1, .int v2, .int v3, .retAddr 0], [], mk b S)) rfl hok ?_
    by_cases hc : (S.1 28 2) ≤ v3
    · rw [if_pos hc] at hf ⊢
      refine msegT C kX0_work 76 2 (g := (true, (if v2 ≤ 0 then 151 else 140), [.ref (28), .ref a1, .int v2, .int v3, .retAddr 0], [], mk b S)) rfl rfl ?_
      by_cases hc : v2 ≤ 0
      · rw [if_pos hc] at hf ⊢
        refine msegT C kX0_work 85 1 (g := (true, 152, [.ref (28), .ref a1, .int v2, .int v3, .retAddr 0], [.int (0 : Int32)], mk b S)) rfl rfl ?_
        exact mfor (L' := [.retAddr 0, .retAddr 0, .retAddr 0, .retAddr 0, .retAddr 0]) ⟨Or.inl rfl, Or.inl rfl, Or.inl rfl, Or.inl rfl, Or.inl rfl, trivial⟩ (bX0_work_152_28 C hr hk hf true)
      · rw [if_neg hc] at hf ⊢
        obtain ⟨hok, hf⟩ := grd_ex hf
        refine msegT C kX0_work 78 7 (g := ((kI (28 + 2) (v2 - (1 : Int32)) && (kO 28 0 && true)), 152, [.ref (28), .ref a1, .int v2, .int v3, .retAddr 0], [.int (S.1 (28 + 2) (mIx (v2 - (1 : Int32))))], mk b S)) rfl hok ?_
        exact mfor (L' := [.retAddr 0, .retAddr 0, .retAddr 0, .retAddr 0, .retAddr 0]) ⟨Or.inl rfl, Or.inl rfl, Or.inl rfl, Or.inl rfl, Or.inl rfl, trivial⟩ (bX0_work_152_28 C hr hk hf true)
    · rw [if_neg hc] at hf ⊢
      obtain ⟨hok, hf⟩ := grd_ex hf
      refine msegT C kX0_work 8 5 (g := ((kI (28 + 1) v3 && (kO 28 0 && true)), 20, [.ref (28), .ref a1, .int v2, .int v3, .int (S.1 (28 + 1) (mIx v3))], [], mk b S)) rfl hok ?_
      obtain ⟨x1, ex1, hf⟩ := bnd_ex hf
      rw [← ex1]
      refine msegT C kX0_work 13 3 (g := (true, (if (20000 : Int32) ≤ x1 then 52 else 28), [.ref (28), .ref a1, .int v2, .int v3, .int x1], [], mk b S)) rfl rfl ?_
      by_cases hc : (20000 : Int32) ≤ x1
      · rw [if_pos hc] at hf ⊢
        refine msegT C kX0_work 28 3 (g := (true, (if x1 = (20033 : Int32) then 60 else 91), [.ref (28), .ref a1, .int v2, .int v3, .int x1], [], mk b S)) rfl rfl ?_
        by_cases hc : x1 = (20033 : Int32)
        · rw [if_pos hc] at hf ⊢
          refine msegT C kX0_work 31 2 (g := (true, (if v2 ≤ 0 then 130 else 64), [.ref (28), .ref a1, .int v2, .int v3, .int x1], [], mk b S)) rfl rfl ?_
          by_cases hc : v2 ≤ 0
          · rw [if_pos hc] at hf ⊢
            exact mfor (L' := [.ref (28), .ref a1, .int v2, .int v3, .retAddr 0]) ⟨Or.inr rfl, Or.inr rfl, Or.inr rfl, Or.inr rfl, Or.inl rfl, trivial⟩ (bX0_work_130_28 C hr hk ih hf true)
          · rw [if_neg hc] at hf ⊢
            obtain ⟨hok, hf⟩ := grd_ex hf
            refine msegT C kX0_work 33 10 (g := ((kO 28 0 && (kO 28 0 && true)), 78, [.ref (28), .ref a1, .int v2, .int v3, .int x1], [.int (v2 - (1 : Int32)), .ref (28 + 2), .int (v2 - (1 : Int32)), .ref (28 + 2)], mk b S)) rfl hok ?_
            obtain ⟨hok, hf⟩ := grd_ex hf
            refine msegT C kX0_work 43 2 (g := ((kI (28 + 2) (v2 - (1 : Int32)) && true), (if (S.1 (28 + 2) (mIx (v2 - (1 : Int32)))) = 0 then 82 else 86), [.ref (28), .ref a1, .int v2, .int v3, .int x1], [.int (v2 - (1 : Int32)), .ref (28 + 2)], mk b S)) rfl hok ?_
            by_cases hc : (S.1 (28 + 2) (mIx (v2 - (1 : Int32)))) = 0
            · rw [if_pos hc] at hf ⊢
              refine msegT C kX0_work 45 2 (g := (true, 87, [.ref (28), .ref a1, .int v2, .int v3, .int x1], [.int (1 : Int32), .int (v2 - (1 : Int32)), .ref (28 + 2)], mk b S)) rfl rfl ?_
              exact mfor (L' := [.ref (28), .ref a1, .int v2, .int v3, .retAddr 0]) ⟨Or.inr rfl, Or.inr rfl, Or.inr rfl, Or.inr rfl, Or.inl rfl, trivial⟩ (bX0_work_87_28 C hr hk ih hf true)
            · rw [if_neg hc] at hf ⊢
              refine msegT C kX0_work 47 1 (g := (true, 87, [.ref (28), .ref a1, .int v2, .int v3, .int x1], [.int (0 : Int32), .int (v2 - (1 : Int32)), .ref (28 + 2)], mk b S)) rfl rfl ?_
              exact mfor (L' := [.ref (28), .ref a1, .int v2, .int v3, .retAddr 0]) ⟨Or.inr rfl, Or.inr rfl, Or.inr rfl, Or.inr rfl, Or.inl rfl, trivial⟩ (bX0_work_87_28 C hr hk ih hf true)
        · rw [if_neg hc] at hf ⊢
          refine msegT C kX0_work 50 3 (g := (true, (if v2 ≤ (1 : Int32) then 130 else 96), [.ref (28), .ref a1, .int v2, .int v3, .int x1], [], mk b S)) rfl rfl ?_
          by_cases hc : v2 ≤ (1 : Int32)
          · rw [if_pos hc] at hf ⊢
            exact mfor (L' := [.ref (28), .ref a1, .int v2, .int v3, .retAddr 0]) ⟨Or.inr rfl, Or.inr rfl, Or.inr rfl, Or.inr rfl, Or.inl rfl, trivial⟩ (bX0_work_130_28 C hr hk ih hf true)
          · rw [if_neg hc] at hf ⊢
            refine msegT C kX0_work 53 1 (g := (true, 99, [.ref (28), .ref a1, .int (v2 + (-1 : Int32)), .int v3, .int x1], [], mk b S)) rfl rfl ?_
            obtain ⟨x2, ex2, hf⟩ := bnd_ex hf
            rw [← ex2]
            obtain ⟨hok, hf⟩ := grd_ex hf
            refine msegT C kX0_work 54 10 (g := ((kO 28 0 && (kO 28 0 && true)), 116, [.ref (28), .ref a1, .int x2, .int v3, .int x1], [.ref (28 + 2), .int (x1 - (20000 : Int32)), .int (x2 - (1 : Int32)), .ref (28 + 2)], mk b S)) rfl hok ?_
            obtain ⟨hok, hf⟩ := grd_ex hf
            refine msegT C kX0_work 64 8 (g := ((kI (28 + 2) x2 && (kO 28 0 && (kI (28 + 2) (x2 - (1 : Int32)) && true))), 126, [.ref (28), .ref a1, .int x2, .int v3, .int x1], [.int (S.1 (28 + 2) (mIx x2)), .int (S.1 (28 + 2) (mIx (x2 - (1 : Int32)))), .int (x1 - (20000 : Int32)), .int (x2 - (1 : Int32)), .ref (28 + 2)], mk b S)) rfl hok ?_
            obtain ⟨x4, S3, hq, hf⟩ := bndC_ex hf
            refine mcall (kd := 1) (vs := [.int (x1 - (20000 : Int32)), .int (S.1 (28 + 2) (mIx (x2 - (1 : Int32)))), .int (S.1 (28 + 2) (mIx x2))]) (rest := [.int (x2 - (1 : Int32)), .ref (28 + 2)]) (r := (some (.int x4))) (h' := mk b S3) (ok' := true) C lkRX0_33 (qX0_join hq) (kX0_work _ (List.mem_of_getElem? (i := 72) rfl)).1 rfl (Nat.le_of_ble_eq_true rfl) (Nat.le_of_ble_eq_true rfl) (Nat.le_refl _) (Nat.le_refl _) (Nat.le_of_ble_eq_true rfl) ?_
            obtain ⟨hok, hf⟩ := grd_ex hf
            refine msegT C kX0_work 73 1 (g := ((kI (28 + 2) (x2 - (1 : Int32)) && true), 130, [.ref (28), .ref a1, .int x2, .int v3, .int x1], [], mk b (sI S3 (28 + 2) (mIx (x2 - (1 : Int32))) x4))) rfl hok ?_
            obtain ⟨S5, eS5, hf⟩ := bnd_ex hf
            rw [← eS5]
            exact mfor (L' := [.ref (28), .ref a1, .int x2, .int v3, .retAddr 0]) ⟨Or.inr rfl, Or.inr rfl, Or.inr rfl, Or.inr rfl, Or.inl rfl, trivial⟩ (bX0_work_130_28 C hr hk ih hf true)
      · rw [if_neg hc] at hf ⊢
        refine msegT C kX0_work 16 3 (g := (true, (if (30 : Int32) ≤ v2 then 130 else 34), [.ref (28), .ref a1, .int v2, .int v3, .int x1], [], mk b S)) rfl rfl ?_
        by_cases hc : (30 : Int32) ≤ v2
        · rw [if_pos hc] at hf ⊢
          exact mfor (L' := [.ref (28), .ref a1, .int v2, .int v3, .retAddr 0]) ⟨Or.inr rfl, Or.inr rfl, Or.inr rfl, Or.inr rfl, Or.inl rfl, trivial⟩ (bX0_work_130_28 C hr hk ih hf true)
        · rw [if_neg hc] at hf ⊢
          obtain ⟨hok, hf⟩ := grd_ex hf
          refine msegT C kX0_work 19 5 (g := ((kO 28 0 && true), 42, [.ref (28), .ref a1, .int v2, .int v3, .int x1], [.ref a1, .int x1, .int v2, .ref (28 + 2)], mk b S)) rfl hok ?_
          obtain ⟨x7, S6, hq, hf⟩ := bndC_ex hf
          refine mcall (kd := 1) (vs := [.int x1, .ref a1]) (rest := [.int v2, .ref (28 + 2)]) (r := (some (.int x7))) (h' := mk b S6) (ok' := true) C lkRX0_29 (qX0_leaf hq) (kX0_work _ (List.mem_of_getElem? (i := 24) rfl)).1 rfl (Nat.le_of_ble_eq_true rfl) (Nat.le_of_ble_eq_true rfl) (Nat.le_refl _) (Nat.le_refl _) (Nat.le_of_ble_eq_true rfl) ?_
          obtain ⟨hok, hf⟩ := grd_ex hf
          refine msegT C kX0_work 25 1 (g := ((kI (28 + 2) v2 && true), 46, [.ref (28), .ref a1, .int v2, .int v3, .int x1], [], mk b (sI S6 (28 + 2) (mIx v2) x7))) rfl hok ?_
          obtain ⟨S8, eS8, hf⟩ := bnd_ex hf
          rw [← eS8]
          refine msegT C kX0_work 26 1 (g := (true, 49, [.ref (28), .ref a1, .int (v2 + (1 : Int32)), .int v3, .int x1], [], mk b S8)) rfl rfl ?_
          obtain ⟨x9, ex9, hf⟩ := bnd_ex hf
          rw [← ex9]
          refine msegT C kX0_work 27 1 (g := (true, 130, [.ref (28), .ref a1, .int x9, .int v3, .int x1], [], mk b S8)) rfl rfl ?_
          exact mfor (L' := [.ref (28), .ref a1, .int x9, .int v3, .retAddr 0]) ⟨Or.inr rfl, Or.inr rfl, Or.inr rfl, Or.inr rfl, Or.inl rfl, trivial⟩ (bX0_work_130_28 C hr hk ih hf true)
theorem bX0_work_0_28 (C : mCx p (mR 2) s m args meth c G cX0_work RX0 5 false 233 54500 233 54500) (hr : meth.sig.returnType = (some .int)) (hk : meth.locks = false) {b : Bool} {a1 : Nat} {S' : mT} {r : Int32} {S : mT} (hf : fX0_work 28 a1 S = some (r, S')) (ok : Bool) : mW p l e (mR 2) s m args below meth c G 5 233 54500 (mQ below G args s b S' (some (.int r))) (ok, 0, [.ref (28), .ref a1, .retAddr 0, .retAddr 0, .retAddr 0], [], mk b S) := by
  unfold fX0_work at hf
  refine msegT C kX0_work 0 4 (g := (true, 4, [.ref (28), .ref a1, .int (0 : Int32), .int (0 : Int32), .retAddr 0], [], mk b S)) rfl rfl ?_
  exact mfor (L' := [.ref (28), .ref a1, .int (0 : Int32), .int (0 : Int32), .retAddr 0]) ⟨Or.inr rfl, Or.inr rfl, Or.inr rfl, Or.inr rfl, Or.inl rfl, trivial⟩ (bX0_work_4_28 C hr hk _ _ _ _ hf true)
theorem qX0_work_28 {b : Bool} {a1 : Nat} {S S' : mT} {r : Int32} (hf : fX0_work 28 a1 S = some (r, S')) : mOk l mX0_work 2 [.ref (28), .ref a1] b S (some (.int r)) S' :=
  gMet (by decide) (Nat.le_of_ble_eq_true rfl) rfl (Nat.le_of_ble_eq_true rfl) (fun p e s m args below meth c G C hr hk => bX0_work_0_28 C hr hk hf true)
theorem bX0_work_130_9 (C : mCx p (mR 2) s m args meth c G cX0_work RX0 5 false 233 54500 233 54500) (hr : meth.sig.returnType = (some .int)) (hk : meth.locks = false) {b : Bool} {a1 : Nat} {S' : mT} {r : Int32} {rc4 : Int32 → Int32 → mT → Option (Int32 × mT)} (Hrc4 : ∀ (v2 : Int32) (v3 : Int32) (S : mT), rc4 v2 v3 S = some (r, S') → ∀ ok : Bool, mW p l e (mR 2) s m args below meth c G 5 233 54500 (mQ below G args s b S' (some (.int r))) (ok, 4, [.ref (9), .ref a1, .int v2, .int v3, .retAddr 0], [], mk b S)) {v2 : Int32} {v3 : Int32} {S : mT} (hf : fX0_work_130 9 a1 rc4 v2 v3 S = some (r, S')) (ok : Bool) : mW p l e (mR 2) s m args below meth c G 5 233 54500 (mQ below G args s b S' (some (.int r))) (ok, 130, [.ref (9), .ref a1, .int v2, .int v3, .retAddr 0], [], mk b S) := by
  unfold fX0_work_130 at hf
  refine msegT C kX0_work 74 1 (g := (true, 133, [.ref (9), .ref a1, .int v2, .int (v3 + (1 : Int32)), .retAddr 0], [], mk b S)) rfl rfl ?_
  obtain ⟨x10, ex10, hf⟩ := bnd_ex hf
  rw [← ex10]
  refine msegT C kX0_work 75 1 (g := (true, 4, [.ref (9), .ref a1, .int v2, .int x10, .retAddr 0], [], mk b S)) rfl rfl ?_
  exact mfor (L' := [.ref (9), .ref a1, .int v2, .int x10, .retAddr 0]) ⟨Or.inr rfl, Or.inr rfl, Or.inr rfl, Or.inr rfl, Or.inl rfl, trivial⟩ (Hrc4 _ _ _ hf true)
theorem bX0_work_87_9 (C : mCx p (mR 2) s m args meth c G cX0_work RX0 5 false 233 54500 233 54500) (hr : meth.sig.returnType = (some .int)) (hk : meth.locks = false) {b : Bool} {a1 : Nat} {S' : mT} {r : Int32} {rc4 : Int32 → Int32 → mT → Option (Int32 × mT)} (Hrc4 : ∀ (v2 : Int32) (v3 : Int32) (S : mT), rc4 v2 v3 S = some (r, S') → ∀ ok : Bool, mW p l e (mR 2) s m args below meth c G 5 233 54500 (mQ below G args s b S' (some (.int r))) (ok, 4, [.ref (9), .ref a1, .int v2, .int v3, .retAddr 0], [], mk b S)) {v2 : Int32} {v3 : Int32} {s0 : Int32} {s1 : Int32} {S : mT} (hf : fX0_work_87 9 a1 rc4 v2 v3 s0 s1 S = some (r, S')) (ok : Bool) : mW p l e (mR 2) s m args below meth c G 5 233 54500 (mQ below G args s b S' (some (.int r))) (ok, 87, [.ref (9), .ref a1, .int v2, .int v3, .retAddr 0], [.int s0, .int s1, .ref (9 + 2)], mk b S) := by
  unfold fX0_work_87 at hf
  obtain ⟨hok, hf⟩ := grd_ex hf
  refine msegT C kX0_work 48 1 (g := ((kI (9 + 2) s1 && true), 88, [.ref (9), .ref a1, .int v2, .int v3, .retAddr 0], [], mk b (sI S (9 + 2) (mIx s1) s0))) rfl hok ?_
  obtain ⟨S11, eS11, hf⟩ := bnd_ex hf
  rw [← eS11]
  refine msegT C kX0_work 49 1 (g := (true, 130, [.ref (9), .ref a1, .int v2, .int v3, .retAddr 0], [], mk b S11)) rfl rfl ?_
  exact mfor (L' := [.ref (9), .ref a1, .int v2, .int v3, .retAddr 0]) ⟨Or.inr rfl, Or.inr rfl, Or.inr rfl, Or.inr rfl, Or.inl rfl, trivial⟩ (bX0_work_130_9 C hr hk Hrc4 hf true)
theorem bX0_work_152_9 (C : mCx p (mR 2) s m args meth c G cX0_work RX0 5 false 233 54500 233 54500) (hr : meth.sig.returnType = (some .int)) (hk : meth.locks = false) {b : Bool} {a1 : Nat} {S' : mT} {r : Int32} {s0 : Int32} {S : mT} (hf : fX0_work_152 9 a1 s0 S = some (r, S')) (ok : Bool) : mW p l e (mR 2) s m args below meth c G 5 233 54500 (mQ below G args s b S' (some (.int r))) (ok, 152, [.retAddr 0, .retAddr 0, .retAddr 0, .retAddr 0, .retAddr 0], [.int s0], mk b S) := by
  unfold fX0_work_152 at hf
  cases hf
  exact gret_i C hr hk (kX0_work _ (List.mem_of_getElem? (i := 86) rfl)).1
theorem bX0_work_4_9 (C : mCx p (mR 2) s m args meth c G cX0_work RX0 5 false 233 54500 233 54500) (hr : meth.sig.returnType = (some .int)) (hk : meth.locks = false) {b : Bool} {a1 : Nat} {S' : mT} {r : Int32} : ∀ (k : Nat) (v2 : Int32) (v3 : Int32) (S : mT), fX0_work_4 9 a1 k v2 v3 S = some (r, S') → ∀ ok : Bool, mW p l e (mR 2) s m args below meth c G 5 233 54500 (mQ below G args s b S' (some (.int r))) (ok, 4, [.ref (9), .ref a1, .int v2, .int v3, .retAddr 0], [], mk b S) := by
  intro k
  induction k with
  | zero =>
    intro v2 v3 S hf ok
    cases hf
  | succ k ih =>
    intro v2 v3 S hf ok
    unfold fX0_work_4 at hf
    obtain ⟨hok, hf⟩ := grd_ex hf
    refine msegT C kX0_work 4 4 (g := ((kO 9 0 && true), (if (S.1 9 2) ≤ v3 then 136 else 12), [.ref (9), .ref a1, .int v2, .int v3, .retAddr 0], [], mk b S)) rfl hok ?_
    by_cases hc : (S.1 9 2) ≤ v3
    · rw [if_pos hc] at hf ⊢
      refine msegT C kX0_work 76 2 (g := (true, (if v2 ≤ 0 then 151 else 140), [.ref (9), .ref a1, .int v2, .int v3, .retAddr 0], [], mk b S)) rfl rfl ?_
      by_cases hc : v2 ≤ 0
      · rw [if_pos hc] at hf ⊢
        refine msegT C kX0_work 85 1 (g := (true, 152, [.ref (9), .ref a1, .int v2, .int v3, .retAddr 0], [.int (0 : Int32)], mk b S)) rfl rfl ?_
        exact mfor (L' := [.retAddr 0, .retAddr 0, .retAddr 0, .retAddr 0, .retAddr 0]) ⟨Or.inl rfl, Or.inl rfl, Or.inl rfl, Or.inl rfl, Or.inl rfl, trivial⟩ (bX0_work_152_9 C hr hk hf true)
      · rw [if_neg hc] at hf ⊢
        obtain ⟨hok, hf⟩ := grd_ex hf
        refine msegT C kX0_work 78 7 (g := ((kI (9 + 2) (v2 - (1 : Int32)) && (kO 9 0 && true)), 152, [.ref (9), .ref a1, .int v2, .int v3, .retAddr 0], [.int (S.1 (9 + 2) (mIx (v2 - (1 : Int32))))], mk b S)) rfl hok ?_
        exact mfor (L' := [.retAddr 0, .retAddr 0, .retAddr 0, .retAddr 0, .retAddr 0]) ⟨Or.inl rfl, Or.inl rfl, Or.inl rfl, Or.inl rfl, Or.inl rfl, trivial⟩ (bX0_work_152_9 C hr hk hf true)
    · rw [if_neg hc] at hf ⊢
      obtain ⟨hok, hf⟩ := grd_ex hf
      refine msegT C kX0_work 8 5 (g := ((kI (9 + 1) v3 && (kO 9 0 && true)), 20, [.ref (9), .ref a1, .int v2, .int v3, .int (S.1 (9 + 1) (mIx v3))], [], mk b S)) rfl hok ?_
      obtain ⟨x1, ex1, hf⟩ := bnd_ex hf
      rw [← ex1]
      refine msegT C kX0_work 13 3 (g := (true, (if (20000 : Int32) ≤ x1 then 52 else 28), [.ref (9), .ref a1, .int v2, .int v3, .int x1], [], mk b S)) rfl rfl ?_
      by_cases hc : (20000 : Int32) ≤ x1
      · rw [if_pos hc] at hf ⊢
        refine msegT C kX0_work 28 3 (g := (true, (if x1 = (20033 : Int32) then 60 else 91), [.ref (9), .ref a1, .int v2, .int v3, .int x1], [], mk b S)) rfl rfl ?_
        by_cases hc : x1 = (20033 : Int32)
        · rw [if_pos hc] at hf ⊢
          refine msegT C kX0_work 31 2 (g := (true, (if v2 ≤ 0 then 130 else 64), [.ref (9), .ref a1, .int v2, .int v3, .int x1], [], mk b S)) rfl rfl ?_
          by_cases hc : v2 ≤ 0
          · rw [if_pos hc] at hf ⊢
            exact mfor (L' := [.ref (9), .ref a1, .int v2, .int v3, .retAddr 0]) ⟨Or.inr rfl, Or.inr rfl, Or.inr rfl, Or.inr rfl, Or.inl rfl, trivial⟩ (bX0_work_130_9 C hr hk ih hf true)
          · rw [if_neg hc] at hf ⊢
            obtain ⟨hok, hf⟩ := grd_ex hf
            refine msegT C kX0_work 33 10 (g := ((kO 9 0 && (kO 9 0 && true)), 78, [.ref (9), .ref a1, .int v2, .int v3, .int x1], [.int (v2 - (1 : Int32)), .ref (9 + 2), .int (v2 - (1 : Int32)), .ref (9 + 2)], mk b S)) rfl hok ?_
            obtain ⟨hok, hf⟩ := grd_ex hf
            refine msegT C kX0_work 43 2 (g := ((kI (9 + 2) (v2 - (1 : Int32)) && true), (if (S.1 (9 + 2) (mIx (v2 - (1 : Int32)))) = 0 then 82 else 86), [.ref (9), .ref a1, .int v2, .int v3, .int x1], [.int (v2 - (1 : Int32)), .ref (9 + 2)], mk b S)) rfl hok ?_
            by_cases hc : (S.1 (9 + 2) (mIx (v2 - (1 : Int32)))) = 0
            · rw [if_pos hc] at hf ⊢
              refine msegT C kX0_work 45 2 (g := (true, 87, [.ref (9), .ref a1, .int v2, .int v3, .int x1], [.int (1 : Int32), .int (v2 - (1 : Int32)), .ref (9 + 2)], mk b S)) rfl rfl ?_
              exact mfor (L' := [.ref (9), .ref a1, .int v2, .int v3, .retAddr 0]) ⟨Or.inr rfl, Or.inr rfl, Or.inr rfl, Or.inr rfl, Or.inl rfl, trivial⟩ (bX0_work_87_9 C hr hk ih hf true)
            · rw [if_neg hc] at hf ⊢
              refine msegT C kX0_work 47 1 (g := (true, 87, [.ref (9), .ref a1, .int v2, .int v3, .int x1], [.int (0 : Int32), .int (v2 - (1 : Int32)), .ref (9 + 2)], mk b S)) rfl rfl ?_
              exact mfor (L' := [.ref (9), .ref a1, .int v2, .int v3, .retAddr 0]) ⟨Or.inr rfl, Or.inr rfl, Or.inr rfl, Or.inr rfl, Or.inl rfl, trivial⟩ (bX0_work_87_9 C hr hk ih hf true)
        · rw [if_neg hc] at hf ⊢
          refine msegT C kX0_work 50 3 (g := (true, (if v2 ≤ (1 : Int32) then 130 else 96), [.ref (9), .ref a1, .int v2, .int v3, .int x1], [], mk b S)) rfl rfl ?_
          by_cases hc : v2 ≤ (1 : Int32)
          · rw [if_pos hc] at hf ⊢
            exact mfor (L' := [.ref (9), .ref a1, .int v2, .int v3, .retAddr 0]) ⟨Or.inr rfl, Or.inr rfl, Or.inr rfl, Or.inr rfl, Or.inl rfl, trivial⟩ (bX0_work_130_9 C hr hk ih hf true)
          · rw [if_neg hc] at hf ⊢
            refine msegT C kX0_work 53 1 (g := (true, 99, [.ref (9), .ref a1, .int (v2 + (-1 : Int32)), .int v3, .int x1], [], mk b S)) rfl rfl ?_
            obtain ⟨x2, ex2, hf⟩ := bnd_ex hf
            rw [← ex2]
            obtain ⟨hok, hf⟩ := grd_ex hf
            refine msegT C kX0_work 54 10 (g := ((kO 9 0 && (kO 9 0 && true)), 116, [.ref (9), .ref a1, .int x2, .int v3, .int x1], [.ref (9 + 2), .int (x1 - (20000 : Int32)), .int (x2 - (1 : Int32)), .ref (9 + 2)], mk b S)) rfl hok ?_
            obtain ⟨hok, hf⟩ := grd_ex hf
            refine msegT C kX0_work 64 8 (g := ((kI (9 + 2) x2 && (kO 9 0 && (kI (9 + 2) (x2 - (1 : Int32)) && true))), 126, [.ref (9), .ref a1, .int x2, .int v3, .int x1], [.int (S.1 (9 + 2) (mIx x2)), .int (S.1 (9 + 2) (mIx (x2 - (1 : Int32)))), .int (x1 - (20000 : Int32)), .int (x2 - (1 : Int32)), .ref (9 + 2)], mk b S)) rfl hok ?_
            obtain ⟨x4, S3, hq, hf⟩ := bndC_ex hf
            refine mcall (kd := 1) (vs := [.int (x1 - (20000 : Int32)), .int (S.1 (9 + 2) (mIx (x2 - (1 : Int32)))), .int (S.1 (9 + 2) (mIx x2))]) (rest := [.int (x2 - (1 : Int32)), .ref (9 + 2)]) (r := (some (.int x4))) (h' := mk b S3) (ok' := true) C lkRX0_33 (qX0_join hq) (kX0_work _ (List.mem_of_getElem? (i := 72) rfl)).1 rfl (Nat.le_of_ble_eq_true rfl) (Nat.le_of_ble_eq_true rfl) (Nat.le_refl _) (Nat.le_refl _) (Nat.le_of_ble_eq_true rfl) ?_
            obtain ⟨hok, hf⟩ := grd_ex hf
            refine msegT C kX0_work 73 1 (g := ((kI (9 + 2) (x2 - (1 : Int32)) && true), 130, [.ref (9), .ref a1, .int x2, .int v3, .int x1], [], mk b (sI S3 (9 + 2) (mIx (x2 - (1 : Int32))) x4))) rfl hok ?_
            obtain ⟨S5, eS5, hf⟩ := bnd_ex hf
            rw [← eS5]
            exact mfor (L' := [.ref (9), .ref a1, .int x2, .int v3, .retAddr 0]) ⟨Or.inr rfl, Or.inr rfl, Or.inr rfl, Or.inr rfl, Or.inl rfl, trivial⟩ (bX0_work_130_9 C hr hk ih hf true)
      · rw [if_neg hc] at hf ⊢
        refine msegT C kX0_work 16 3 (g := (true, (if (30 : Int32) ≤ v2 then 130 else 34), [.ref (9), .ref a1, .int v2, .int v3, .int x1], [], mk b S)) rfl rfl ?_
        by_cases hc : (30 : Int32) ≤ v2
        · rw [if_pos hc] at hf ⊢
          exact mfor (L' := [.ref (9), .ref a1, .int v2, .int v3, .retAddr 0]) ⟨Or.inr rfl, Or.inr rfl, Or.inr rfl, Or.inr rfl, Or.inl rfl, trivial⟩ (bX0_work_130_9 C hr hk ih hf true)
        · rw [if_neg hc] at hf ⊢
          obtain ⟨hok, hf⟩ := grd_ex hf
          refine msegT C kX0_work 19 5 (g := ((kO 9 0 && true), 42, [.ref (9), .ref a1, .int v2, .int v3, .int x1], [.ref a1, .int x1, .int v2, .ref (9 + 2)], mk b S)) rfl hok ?_
          obtain ⟨x7, S6, hq, hf⟩ := bndC_ex hf
          refine mcall (kd := 1) (vs := [.int x1, .ref a1]) (rest := [.int v2, .ref (9 + 2)]) (r := (some (.int x7))) (h' := mk b S6) (ok' := true) C lkRX0_29 (qX0_leaf hq) (kX0_work _ (List.mem_of_getElem? (i := 24) rfl)).1 rfl (Nat.le_of_ble_eq_true rfl) (Nat.le_of_ble_eq_true rfl) (Nat.le_refl _) (Nat.le_refl _) (Nat.le_of_ble_eq_true rfl) ?_
          obtain ⟨hok, hf⟩ := grd_ex hf
          refine msegT C kX0_work 25 1 (g := ((kI (9 + 2) v2 && true), 46, [.ref (9), .ref a1, .int v2, .int v3, .int x1], [], mk b (sI S6 (9 + 2) (mIx v2) x7))) rfl hok ?_
          obtain ⟨S8, eS8, hf⟩ := bnd_ex hf
          rw [← eS8]
          refine msegT C kX0_work 26 1 (g := (true, 49, [.ref (9), .ref a1, .int (v2 + (1 : Int32)), .int v3, .int x1], [], mk b S8)) rfl rfl ?_
          obtain ⟨x9, ex9, hf⟩ := bnd_ex hf
          rw [← ex9]
          refine msegT C kX0_work 27 1 (g := (true, 130, [.ref (9), .ref a1, .int x9, .int v3, .int x1], [], mk b S8)) rfl rfl ?_
          exact mfor (L' := [.ref (9), .ref a1, .int x9, .int v3, .retAddr 0]) ⟨Or.inr rfl, Or.inr rfl, Or.inr rfl, Or.inr rfl, Or.inl rfl, trivial⟩ (bX0_work_130_9 C hr hk ih hf true)
theorem bX0_work_0_9 (C : mCx p (mR 2) s m args meth c G cX0_work RX0 5 false 233 54500 233 54500) (hr : meth.sig.returnType = (some .int)) (hk : meth.locks = false) {b : Bool} {a1 : Nat} {S' : mT} {r : Int32} {S : mT} (hf : fX0_work 9 a1 S = some (r, S')) (ok : Bool) : mW p l e (mR 2) s m args below meth c G 5 233 54500 (mQ below G args s b S' (some (.int r))) (ok, 0, [.ref (9), .ref a1, .retAddr 0, .retAddr 0, .retAddr 0], [], mk b S) := by
  unfold fX0_work at hf
  refine msegT C kX0_work 0 4 (g := (true, 4, [.ref (9), .ref a1, .int (0 : Int32), .int (0 : Int32), .retAddr 0], [], mk b S)) rfl rfl ?_
  exact mfor (L' := [.ref (9), .ref a1, .int (0 : Int32), .int (0 : Int32), .retAddr 0]) ⟨Or.inr rfl, Or.inr rfl, Or.inr rfl, Or.inr rfl, Or.inl rfl, trivial⟩ (bX0_work_4_9 C hr hk _ _ _ _ hf true)
theorem qX0_work_9 {b : Bool} {a1 : Nat} {S S' : mT} {r : Int32} (hf : fX0_work 9 a1 S = some (r, S')) : mOk l mX0_work 2 [.ref (9), .ref a1] b S (some (.int r)) S' :=
  gMet (by decide) (Nat.le_of_ble_eq_true rfl) rfl (Nat.le_of_ble_eq_true rfl) (fun p e s m args below meth c G C hr hk => bX0_work_0_9 C hr hk hf true)
theorem bX0_work_130_25 (C : mCx p (mR 2) s m args meth c G cX0_work RX0 5 false 233 54500 233 54500) (hr : meth.sig.returnType = (some .int)) (hk : meth.locks = false) {b : Bool} {a1 : Nat} {S' : mT} {r : Int32} {rc4 : Int32 → Int32 → mT → Option (Int32 × mT)} (Hrc4 : ∀ (v2 : Int32) (v3 : Int32) (S : mT), rc4 v2 v3 S = some (r, S') → ∀ ok : Bool, mW p l e (mR 2) s m args below meth c G 5 233 54500 (mQ below G args s b S' (some (.int r))) (ok, 4, [.ref (25), .ref a1, .int v2, .int v3, .retAddr 0], [], mk b S)) {v2 : Int32} {v3 : Int32} {S : mT} (hf : fX0_work_130 25 a1 rc4 v2 v3 S = some (r, S')) (ok : Bool) : mW p l e (mR 2) s m args below meth c G 5 233 54500 (mQ below G args s b S' (some (.int r))) (ok, 130, [.ref (25), .ref a1, .int v2, .int v3, .retAddr 0], [], mk b S) := by
  unfold fX0_work_130 at hf
  refine msegT C kX0_work 74 1 (g := (true, 133, [.ref (25), .ref a1, .int v2, .int (v3 + (1 : Int32)), .retAddr 0], [], mk b S)) rfl rfl ?_
  obtain ⟨x10, ex10, hf⟩ := bnd_ex hf
  rw [← ex10]
  refine msegT C kX0_work 75 1 (g := (true, 4, [.ref (25), .ref a1, .int v2, .int x10, .retAddr 0], [], mk b S)) rfl rfl ?_
  exact mfor (L' := [.ref (25), .ref a1, .int v2, .int x10, .retAddr 0]) ⟨Or.inr rfl, Or.inr rfl, Or.inr rfl, Or.inr rfl, Or.inl rfl, trivial⟩ (Hrc4 _ _ _ hf true)
theorem bX0_work_87_25 (C : mCx p (mR 2) s m args meth c G cX0_work RX0 5 false 233 54500 233 54500) (hr : meth.sig.returnType = (some .int)) (hk : meth.locks = false) {b : Bool} {a1 : Nat} {S' : mT} {r : Int32} {rc4 : Int32 → Int32 → mT → Option (Int32 × mT)} (Hrc4 : ∀ (v2 : Int32) (v3 : Int32) (S : mT), rc4 v2 v3 S = some (r, S') → ∀ ok : Bool, mW p l e (mR 2) s m args below meth c G 5 233 54500 (mQ below G args s b S' (some (.int r))) (ok, 4, [.ref (25), .ref a1, .int v2, .int v3, .retAddr 0], [], mk b S)) {v2 : Int32} {v3 : Int32} {s0 : Int32} {s1 : Int32} {S : mT} (hf : fX0_work_87 25 a1 rc4 v2 v3 s0 s1 S = some (r, S')) (ok : Bool) : mW p l e (mR 2) s m args below meth c G 5 233 54500 (mQ below G args s b S' (some (.int r))) (ok, 87, [.ref (25), .ref a1, .int v2, .int v3, .retAddr 0], [.int s0, .int s1, .ref (25 + 2)], mk b S) := by
  unfold fX0_work_87 at hf
  obtain ⟨hok, hf⟩ := grd_ex hf
  refine msegT C kX0_work 48 1 (g := ((kI (25 + 2) s1 && true), 88, [.ref (25), .ref a1, .int v2, .int v3, .retAddr 0], [], mk b (sI S (25 + 2) (mIx s1) s0))) rfl hok ?_
  obtain ⟨S11, eS11, hf⟩ := bnd_ex hf
  rw [← eS11]
  refine msegT C kX0_work 49 1 (g := (true, 130, [.ref (25), .ref a1, .int v2, .int v3, .retAddr 0], [], mk b S11)) rfl rfl ?_
  exact mfor (L' := [.ref (25), .ref a1, .int v2, .int v3, .retAddr 0]) ⟨Or.inr rfl, Or.inr rfl, Or.inr rfl, Or.inr rfl, Or.inl rfl, trivial⟩ (bX0_work_130_25 C hr hk Hrc4 hf true)
theorem bX0_work_152_25 (C : mCx p (mR 2) s m args meth c G cX0_work RX0 5 false 233 54500 233 54500) (hr : meth.sig.returnType = (some .int)) (hk : meth.locks = false) {b : Bool} {a1 : Nat} {S' : mT} {r : Int32} {s0 : Int32} {S : mT} (hf : fX0_work_152 25 a1 s0 S = some (r, S')) (ok : Bool) : mW p l e (mR 2) s m args below meth c G 5 233 54500 (mQ below G args s b S' (some (.int r))) (ok, 152, [.retAddr 0, .retAddr 0, .retAddr 0, .retAddr 0, .retAddr 0], [.int s0], mk b S) := by
  unfold fX0_work_152 at hf
  cases hf
  exact gret_i C hr hk (kX0_work _ (List.mem_of_getElem? (i := 86) rfl)).1
theorem bX0_work_4_25 (C : mCx p (mR 2) s m args meth c G cX0_work RX0 5 false 233 54500 233 54500) (hr : meth.sig.returnType = (some .int)) (hk : meth.locks = false) {b : Bool} {a1 : Nat} {S' : mT} {r : Int32} : ∀ (k : Nat) (v2 : Int32) (v3 : Int32) (S : mT), fX0_work_4 25 a1 k v2 v3 S = some (r, S') → ∀ ok : Bool, mW p l e (mR 2) s m args below meth c G 5 233 54500 (mQ below G args s b S' (some (.int r))) (ok, 4, [.ref (25), .ref a1, .int v2, .int v3, .retAddr 0], [], mk b S) := by
  intro k
  induction k with
  | zero =>
    intro v2 v3 S hf ok
    cases hf
  | succ k ih =>
    intro v2 v3 S hf ok
    unfold fX0_work_4 at hf
    obtain ⟨hok, hf⟩ := grd_ex hf
    refine msegT C kX0_work 4 4 (g := ((kO 25 0 && true), (if (S.1 25 2) ≤ v3 then 136 else 12), [.ref (25), .ref a1, .int v2, .int v3, .retAddr 0], [], mk b S)) rfl hok ?_
    by_cases hc : (S.1 25 2) ≤ v3
    · rw [if_pos hc] at hf ⊢
      refine msegT C kX0_work 76 2 (g := (true, (if v2 ≤ 0 then 151 else 140), [.ref (25), .ref a1, .int v2, .int v3, .retAddr 0], [], mk b S)) rfl rfl ?_
      by_cases hc : v2 ≤ 0
      · rw [if_pos hc] at hf ⊢
        refine msegT C kX0_work 85 1 (g := (true, 152, [.ref (25), .ref a1, .int v2, .int v3, .retAddr 0], [.int (0 : Int32)], mk b S)) rfl rfl ?_
        exact mfor (L' := [.retAddr 0, .retAddr 0, .retAddr 0, .retAddr 0, .retAddr 0]) ⟨Or.inl rfl, Or.inl rfl, Or.inl rfl, Or.inl rfl, Or.inl rfl, trivial⟩ (bX0_work_152_25 C hr hk hf true)
      · rw [if_neg hc] at hf ⊢
        obtain ⟨hok, hf⟩ := grd_ex hf
        refine msegT C kX0_work 78 7 (g := ((kI (25 + 2) (v2 - (1 : Int32)) && (kO 25 0 && true)), 152, [.ref (25), .ref a1, .int v2, .int v3, .retAddr 0], [.int (S.1 (25 + 2) (mIx (v2 - (1 : Int32))))], mk b S)) rfl hok ?_
        exact mfor (L' := [.retAddr 0, .retAddr 0, .retAddr 0, .retAddr 0, .retAddr 0]) ⟨Or.inl rfl, Or.inl rfl, Or.inl rfl, Or.inl rfl, Or.inl rfl, trivial⟩ (bX0_work_152_25 C hr hk hf true)
    · rw [if_neg hc] at hf ⊢
      obtain ⟨hok, hf⟩ := grd_ex hf
      refine msegT C kX0_work 8 5 (g := ((kI (25 + 1) v3 && (kO 25 0 && true)), 20, [.ref (25), .ref a1, .int v2, .int v3, .int (S.1 (25 + 1) (mIx v3))], [], mk b S)) rfl hok ?_
      obtain ⟨x1, ex1, hf⟩ := bnd_ex hf
      rw [← ex1]
      refine msegT C kX0_work 13 3 (g := (true, (if (20000 : Int32) ≤ x1 then 52 else 28), [.ref (25), .ref a1, .int v2, .int v3, .int x1], [], mk b S)) rfl rfl ?_
      by_cases hc : (20000 : Int32) ≤ x1
      · rw [if_pos hc] at hf ⊢
        refine msegT C kX0_work 28 3 (g := (true, (if x1 = (20033 : Int32) then 60 else 91), [.ref (25), .ref a1, .int v2, .int v3, .int x1], [], mk b S)) rfl rfl ?_
        by_cases hc : x1 = (20033 : Int32)
        · rw [if_pos hc] at hf ⊢
          refine msegT C kX0_work 31 2 (g := (true, (if v2 ≤ 0 then 130 else 64), [.ref (25), .ref a1, .int v2, .int v3, .int x1], [], mk b S)) rfl rfl ?_
          by_cases hc : v2 ≤ 0
          · rw [if_pos hc] at hf ⊢
            exact mfor (L' := [.ref (25), .ref a1, .int v2, .int v3, .retAddr 0]) ⟨Or.inr rfl, Or.inr rfl, Or.inr rfl, Or.inr rfl, Or.inl rfl, trivial⟩ (bX0_work_130_25 C hr hk ih hf true)
          · rw [if_neg hc] at hf ⊢
            obtain ⟨hok, hf⟩ := grd_ex hf
            refine msegT C kX0_work 33 10 (g := ((kO 25 0 && (kO 25 0 && true)), 78, [.ref (25), .ref a1, .int v2, .int v3, .int x1], [.int (v2 - (1 : Int32)), .ref (25 + 2), .int (v2 - (1 : Int32)), .ref (25 + 2)], mk b S)) rfl hok ?_
            obtain ⟨hok, hf⟩ := grd_ex hf
            refine msegT C kX0_work 43 2 (g := ((kI (25 + 2) (v2 - (1 : Int32)) && true), (if (S.1 (25 + 2) (mIx (v2 - (1 : Int32)))) = 0 then 82 else 86), [.ref (25), .ref a1, .int v2, .int v3, .int x1], [.int (v2 - (1 : Int32)), .ref (25 + 2)], mk b S)) rfl hok ?_
            by_cases hc : (S.1 (25 + 2) (mIx (v2 - (1 : Int32)))) = 0
            · rw [if_pos hc] at hf ⊢
              refine msegT C kX0_work 45 2 (g := (true, 87, [.ref (25), .ref a1, .int v2, .int v3, .int x1], [.int (1 : Int32), .int (v2 - (1 : Int32)), .ref (25 + 2)], mk b S)) rfl rfl ?_
              exact mfor (L' := [.ref (25), .ref a1, .int v2, .int v3, .retAddr 0]) ⟨Or.inr rfl, Or.inr rfl, Or.inr rfl, Or.inr rfl, Or.inl rfl, trivial⟩ (bX0_work_87_25 C hr hk ih hf true)
            · rw [if_neg hc] at hf ⊢
              refine msegT C kX0_work 47 1 (g := (true, 87, [.ref (25), .ref a1, .int v2, .int v3, .int x1], [.int (0 : Int32), .int (v2 - (1 : Int32)), .ref (25 + 2)], mk b S)) rfl rfl ?_
              exact mfor (L' := [.ref (25), .ref a1, .int v2, .int v3, .retAddr 0]) ⟨Or.inr rfl, Or.inr rfl, Or.inr rfl, Or.inr rfl, Or.inl rfl, trivial⟩ (bX0_work_87_25 C hr hk ih hf true)
        · rw [if_neg hc] at hf ⊢
          refine msegT C kX0_work 50 3 (g := (true, (if v2 ≤ (1 : Int32) then 130 else 96), [.ref (25), .ref a1, .int v2, .int v3, .int x1], [], mk b S)) rfl rfl ?_
          by_cases hc : v2 ≤ (1 : Int32)
          · rw [if_pos hc] at hf ⊢
            exact mfor (L' := [.ref (25), .ref a1, .int v2, .int v3, .retAddr 0]) ⟨Or.inr rfl, Or.inr rfl, Or.inr rfl, Or.inr rfl, Or.inl rfl, trivial⟩ (bX0_work_130_25 C hr hk ih hf true)
          · rw [if_neg hc] at hf ⊢
            refine msegT C kX0_work 53 1 (g := (true, 99, [.ref (25), .ref a1, .int (v2 + (-1 : Int32)), .int v3, .int x1], [], mk b S)) rfl rfl ?_
            obtain ⟨x2, ex2, hf⟩ := bnd_ex hf
            rw [← ex2]
            obtain ⟨hok, hf⟩ := grd_ex hf
            refine msegT C kX0_work 54 10 (g := ((kO 25 0 && (kO 25 0 && true)), 116, [.ref (25), .ref a1, .int x2, .int v3, .int x1], [.ref (25 + 2), .int (x1 - (20000 : Int32)), .int (x2 - (1 : Int32)), .ref (25 + 2)], mk b S)) rfl hok ?_
            obtain ⟨hok, hf⟩ := grd_ex hf
            refine msegT C kX0_work 64 8 (g := ((kI (25 + 2) x2 && (kO 25 0 && (kI (25 + 2) (x2 - (1 : Int32)) && true))), 126, [.ref (25), .ref a1, .int x2, .int v3, .int x1], [.int (S.1 (25 + 2) (mIx x2)), .int (S.1 (25 + 2) (mIx (x2 - (1 : Int32)))), .int (x1 - (20000 : Int32)), .int (x2 - (1 : Int32)), .ref (25 + 2)], mk b S)) rfl hok ?_
            obtain ⟨x4, S3, hq, hf⟩ := bndC_ex hf
            refine mcall (kd := 1) (vs := [.int (x1 - (20000 : Int32)), .int (S.1 (25 + 2) (mIx (x2 - (1 : Int32)))), .int (S.1 (25 + 2) (mIx x2))]) (rest := [.int (x2 - (1 : Int32)), .ref (25 + 2)]) (r := (some (.int x4))) (h' := mk b S3) (ok' := true) C lkRX0_33 (qX0_join hq) (kX0_work _ (List.mem_of_getElem? (i := 72) rfl)).1 rfl (Nat.le_of_ble_eq_true rfl) (Nat.le_of_ble_eq_true rfl) (Nat.le_refl _) (Nat.le_refl _) (Nat.le_of_ble_eq_true rfl) ?_
            obtain ⟨hok, hf⟩ := grd_ex hf
            refine msegT C kX0_work 73 1 (g := ((kI (25 + 2) (x2 - (1 : Int32)) && true), 130, [.ref (25), .ref a1, .int x2, .int v3, .int x1], [], mk b (sI S3 (25 + 2) (mIx (x2 - (1 : Int32))) x4))) rfl hok ?_
            obtain ⟨S5, eS5, hf⟩ := bnd_ex hf
            rw [← eS5]
            exact mfor (L' := [.ref (25), .ref a1, .int x2, .int v3, .retAddr 0]) ⟨Or.inr rfl, Or.inr rfl, Or.inr rfl, Or.inr rfl, Or.inl rfl, trivial⟩ (bX0_work_130_25 C hr hk ih hf true)
      · rw [if_neg hc] at hf ⊢
        refine msegT C kX0_work 16 3 (g := (true, (if (30 : Int32) ≤ v2 then 130 else 34), [.ref (25), .ref a1, .int v2, .int v3, .int x1], [], mk b S)) rfl rfl ?_
        by_cases hc : (30 : Int32) ≤ v2
        · rw [if_pos hc] at hf ⊢
          exact mfor (L' := [.ref (25), .ref a1, .int v2, .int v3, .retAddr 0]) ⟨Or.inr rfl, Or.inr rfl, Or.inr rfl, Or.inr rfl, Or.inl rfl, trivial⟩ (bX0_work_130_25 C hr hk ih hf true)
        · rw [if_neg hc] at hf ⊢
          obtain ⟨hok, hf⟩ := grd_ex hf
          refine msegT C kX0_work 19 5 (g := ((kO 25 0 && true), 42, [.ref (25), .ref a1, .int v2, .int v3, .int x1], [.ref a1, .int x1, .int v2, .ref (25 + 2)], mk b S)) rfl hok ?_
          obtain ⟨x7, S6, hq, hf⟩ := bndC_ex hf
          refine mcall (kd := 1) (vs := [.int x1, .ref a1]) (rest := [.int v2, .ref (25 + 2)]) (r := (some (.int x7))) (h' := mk b S6) (ok' := true) C lkRX0_29 (qX0_leaf hq) (kX0_work _ (List.mem_of_getElem? (i := 24) rfl)).1 rfl (Nat.le_of_ble_eq_true rfl) (Nat.le_of_ble_eq_true rfl) (Nat.le_refl _) (Nat.le_refl _) (Nat.le_of_ble_eq_true rfl) ?_
          obtain ⟨hok, hf⟩ := grd_ex hf
          refine msegT C kX0_work 25 1 (g := ((kI (25 + 2) v2 && true), 46, [.ref (25), .ref a1, .int v2, .int v3, .int x1], [], mk b (sI S6 (25 + 2) (mIx v2) x7))) rfl hok ?_
          obtain ⟨S8, eS8, hf⟩ := bnd_ex hf
          rw [← eS8]
          refine msegT C kX0_work 26 1 (g := (true, 49, [.ref (25), .ref a1, .int (v2 + (1 : Int32)), .int v3, .int x1], [], mk b S8)) rfl rfl ?_
          obtain ⟨x9, ex9, hf⟩ := bnd_ex hf
          rw [← ex9]
          refine msegT C kX0_work 27 1 (g := (true, 130, [.ref (25), .ref a1, .int x9, .int v3, .int x1], [], mk b S8)) rfl rfl ?_
          exact mfor (L' := [.ref (25), .ref a1, .int x9, .int v3, .retAddr 0]) ⟨Or.inr rfl, Or.inr rfl, Or.inr rfl, Or.inr rfl, Or.inl rfl, trivial⟩ (bX0_work_130_25 C hr hk ih hf true)
theorem bX0_work_0_25 (C : mCx p (mR 2) s m args meth c G cX0_work RX0 5 false 233 54500 233 54500) (hr : meth.sig.returnType = (some .int)) (hk : meth.locks = false) {b : Bool} {a1 : Nat} {S' : mT} {r : Int32} {S : mT} (hf : fX0_work 25 a1 S = some (r, S')) (ok : Bool) : mW p l e (mR 2) s m args below meth c G 5 233 54500 (mQ below G args s b S' (some (.int r))) (ok, 0, [.ref (25), .ref a1, .retAddr 0, .retAddr 0, .retAddr 0], [], mk b S) := by
  unfold fX0_work at hf
  refine msegT C kX0_work 0 4 (g := (true, 4, [.ref (25), .ref a1, .int (0 : Int32), .int (0 : Int32), .retAddr 0], [], mk b S)) rfl rfl ?_
  exact mfor (L' := [.ref (25), .ref a1, .int (0 : Int32), .int (0 : Int32), .retAddr 0]) ⟨Or.inr rfl, Or.inr rfl, Or.inr rfl, Or.inr rfl, Or.inl rfl, trivial⟩ (bX0_work_4_25 C hr hk _ _ _ _ hf true)
theorem qX0_work_25 {b : Bool} {a1 : Nat} {S S' : mT} {r : Int32} (hf : fX0_work 25 a1 S = some (r, S')) : mOk l mX0_work 2 [.ref (25), .ref a1] b S (some (.int r)) S' :=
  gMet (by decide) (Nat.le_of_ble_eq_true rfl) rfl (Nat.le_of_ble_eq_true rfl) (fun p e s m args below meth c G C hr hk => bX0_work_0_25 C hr hk hf true)
theorem bX0_work_130_15 (C : mCx p (mR 2) s m args meth c G cX0_work RX0 5 false 233 54500 233 54500) (hr : meth.sig.returnType = (some .int)) (hk : meth.locks = false) {b : Bool} {a1 : Nat} {S' : mT} {r : Int32} {rc4 : Int32 → Int32 → mT → Option (Int32 × mT)} (Hrc4 : ∀ (v2 : Int32) (v3 : Int32) (S : mT), rc4 v2 v3 S = some (r, S') → ∀ ok : Bool, mW p l e (mR 2) s m args below meth c G 5 233 54500 (mQ below G args s b S' (some (.int r))) (ok, 4, [.ref (15), .ref a1, .int v2, .int v3, .retAddr 0], [], mk b S)) {v2 : Int32} {v3 : Int32} {S : mT} (hf : fX0_work_130 15 a1 rc4 v2 v3 S = some (r, S')) (ok : Bool) : mW p l e (mR 2) s m args below meth c G 5 233 54500 (mQ below G args s b S' (some (.int r))) (ok, 130, [.ref (15), .ref a1, .int v2, .int v3, .retAddr 0], [], mk b S) := by
  unfold fX0_work_130 at hf
  refine msegT C kX0_work 74 1 (g := (true, 133, [.ref (15), .ref a1, .int v2, .int (v3 + (1 : Int32)), .retAddr 0], [], mk b S)) rfl rfl ?_
  obtain ⟨x10, ex10, hf⟩ := bnd_ex hf
  rw [← ex10]
  refine msegT C kX0_work 75 1 (g := (true, 4, [.ref (15), .ref a1, .int v2, .int x10, .retAddr 0], [], mk b S)) rfl rfl ?_
  exact mfor (L' := [.ref (15), .ref a1, .int v2, .int x10, .retAddr 0]) ⟨Or.inr rfl, Or.inr rfl, Or.inr rfl, Or.inr rfl, Or.inl rfl, trivial⟩ (Hrc4 _ _ _ hf true)
theorem bX0_work_87_15 (C : mCx p (mR 2) s m args meth c G cX0_work RX0 5 false 233 54500 233 54500) (hr : meth.sig.returnType = (some .int)) (hk : meth.locks = false) {b : Bool} {a1 : Nat} {S' : mT} {r : Int32} {rc4 : Int32 → Int32 → mT → Option (Int32 × mT)} (Hrc4 : ∀ (v2 : Int32) (v3 : Int32) (S : mT), rc4 v2 v3 S = some (r, S') → ∀ ok : Bool, mW p l e (mR 2) s m args below meth c G 5 233 54500 (mQ below G args s b S' (some (.int r))) (ok, 4, [.ref (15), .ref a1, .int v2, .int v3, .retAddr 0], [], mk b S)) {v2 : Int32} {v3 : Int32} {s0 : Int32} {s1 : Int32} {S : mT} (hf : fX0_work_87 15 a1 rc4 v2 v3 s0 s1 S = some (r, S')) (ok : Bool) : mW p l e (mR 2) s m args below meth c G 5 233 54500 (mQ below G args s b S' (some (.int r))) (ok, 87, [.ref (15), .ref a1, .int v2, .int v3, .retAddr 0], [.int s0, .int s1, .ref (15 + 2)], mk b S) := by
  unfold fX0_work_87 at hf
  obtain ⟨hok, hf⟩ := grd_ex hf
  refine msegT C kX0_work 48 1 (g := ((kI (15 + 2) s1 && true), 88, [.ref (15), .ref a1, .int v2, .int v3, .retAddr 0], [], mk b (sI S (15 + 2) (mIx s1) s0))) rfl hok ?_
  obtain ⟨S11, eS11, hf⟩ := bnd_ex hf
  rw [← eS11]
  refine msegT C kX0_work 49 1 (g := (true, 130, [.ref (15), .ref a1, .int v2, .int v3, .retAddr 0], [], mk b S11)) rfl rfl ?_
  exact mfor (L' := [.ref (15), .ref a1, .int v2, .int v3, .retAddr 0]) ⟨Or.inr rfl, Or.inr rfl, Or.inr rfl, Or.inr rfl, Or.inl rfl, trivial⟩ (bX0_work_130_15 C hr hk Hrc4 hf true)
theorem bX0_work_152_15 (C : mCx p (mR 2) s m args meth c G cX0_work RX0 5 false 233 54500 233 54500) (hr : meth.sig.returnType = (some .int)) (hk : meth.locks = false) {b : Bool} {a1 : Nat} {S' : mT} {r : Int32} {s0 : Int32} {S : mT} (hf : fX0_work_152 15 a1 s0 S = some (r, S')) (ok : Bool) : mW p l e (mR 2) s m args below meth c G 5 233 54500 (mQ below G args s b S' (some (.int r))) (ok, 152, [.retAddr 0, .retAddr 0, .retAddr 0, .retAddr 0, .retAddr 0], [.int s0], mk b S) := by
  unfold fX0_work_152 at hf
  cases hf
  exact gret_i C hr hk (kX0_work _ (List.mem_of_getElem? (i := 86) rfl)).1
theorem bX0_work_4_15 (C : mCx p (mR 2) s m args meth c G cX0_work RX0 5 false 233 54500 233 54500) (hr : meth.sig.returnType = (some .int)) (hk : meth.locks = false) {b : Bool} {a1 : Nat} {S' : mT} {r : Int32} : ∀ (k : Nat) (v2 : Int32) (v3 : Int32) (S : mT), fX0_work_4 15 a1 k v2 v3 S = some (r, S') → ∀ ok : Bool, mW p l e (mR 2) s m args below meth c G 5 233 54500 (mQ below G args s b S' (some (.int r))) (ok, 4, [.ref (15), .ref a1, .int v2, .int v3, .retAddr 0], [], mk b S) := by
  intro k
  induction k with
  | zero =>
    intro v2 v3 S hf ok
    cases hf
  | succ k ih =>
    intro v2 v3 S hf ok
    unfold fX0_work_4 at hf
    obtain ⟨hok, hf⟩ := grd_ex hf
    refine msegT C kX0_work 4 4 (g := ((kO 15 0 && true), (if (S.1 15 2) ≤ v3 then 136 else 12), [.ref (15), .ref a1, .int v2, .int v3, .retAddr 0], [], mk b S)) rfl hok ?_
    by_cases hc : (S.1 15 2) ≤ v3
    · rw [if_pos hc] at hf ⊢
      refine msegT C kX0_work 76 2 (g := (true, (if v2 ≤ 0 then 151 else 140), [.ref (15), .ref a1, .int v2, .int v3, .retAddr 0], [], mk b S)) rfl rfl ?_
      by_cases hc : v2 ≤ 0
      · rw [if_pos hc] at hf ⊢
        refine msegT C kX0_work 85 1 (g := (true, 152, [.ref (15), .ref a1, .int v2, .int v3, .retAddr 0], [.int (0 : Int32)], mk b S)) rfl rfl ?_
        exact mfor (L' := [.retAddr 0, .retAddr 0, .retAddr 0, .retAddr 0, .retAddr 0]) ⟨Or.inl rfl, Or.inl rfl, Or.inl rfl, Or.inl rfl, Or.inl rfl, trivial⟩ (bX0_work_152_15 C hr hk hf true)
      · rw [if_neg hc] at hf ⊢
        obtain ⟨hok, hf⟩ := grd_ex hf
        refine msegT C kX0_work 78 7 (g := ((kI (15 + 2) (v2 - (1 : Int32)) && (kO 15 0 && true)), 152, [.ref (15), .ref a1, .int v2, .int v3, .retAddr 0], [.int (S.1 (15 + 2) (mIx (v2 - (1 : Int32))))], mk b S)) rfl hok ?_
        exact mfor (L' := [.retAddr 0, .retAddr 0, .retAddr 0, .retAddr 0, .retAddr 0]) ⟨Or.inl rfl, Or.inl rfl, Or.inl rfl, Or.inl rfl, Or.inl rfl, trivial⟩ (bX0_work_152_15 C hr hk hf true)
    · rw [if_neg hc] at hf ⊢
      obtain ⟨hok, hf⟩ := grd_ex hf
      refine msegT C kX0_work 8 5 (g := ((kI (15 + 1) v3 && (kO 15 0 && true)), 20, [.ref (15), .ref a1, .int v2, .int v3, .int (S.1 (15 + 1) (mIx v3))], [], mk b S)) rfl hok ?_
      obtain ⟨x1, ex1, hf⟩ := bnd_ex hf
      rw [← ex1]
      refine msegT C kX0_work 13 3 (g := (true, (if (20000 : Int32) ≤ x1 then 52 else 28), [.ref (15), .ref a1, .int v2, .int v3, .int x1], [], mk b S)) rfl rfl ?_
      by_cases hc : (20000 : Int32) ≤ x1
      · rw [if_pos hc] at hf ⊢
        refine msegT C kX0_work 28 3 (g := (true, (if x1 = (20033 : Int32) then 60 else 91), [.ref (15), .ref a1, .int v2, .int v3, .int x1], [], mk b S)) rfl rfl ?_
        by_cases hc : x1 = (20033 : Int32)
        · rw [if_pos hc] at hf ⊢
          refine msegT C kX0_work 31 2 (g := (true, (if v2 ≤ 0 then 130 else 64), [.ref (15), .ref a1, .int v2, .int v3, .int x1], [], mk b S)) rfl rfl ?_
          by_cases hc : v2 ≤ 0
          · rw [if_pos hc] at hf ⊢
            exact mfor (L' := [.ref (15), .ref a1, .int v2, .int v3, .retAddr 0]) ⟨Or.inr rfl, Or.inr rfl, Or.inr rfl, Or.inr rfl, Or.inl rfl, trivial⟩ (bX0_work_130_15 C hr hk ih hf true)
          · rw [if_neg hc] at hf ⊢
            obtain ⟨hok, hf⟩ := grd_ex hf
            refine msegT C kX0_work 33 10 (g := ((kO 15 0 && (kO 15 0 && true)), 78, [.ref (15), .ref a1, .int v2, .int v3, .int x1], [.int (v2 - (1 : Int32)), .ref (15 + 2), .int (v2 - (1 : Int32)), .ref (15 + 2)], mk b S)) rfl hok ?_
            obtain ⟨hok, hf⟩ := grd_ex hf
            refine msegT C kX0_work 43 2 (g := ((kI (15 + 2) (v2 - (1 : Int32)) && true), (if (S.1 (15 + 2) (mIx (v2 - (1 : Int32)))) = 0 then 82 else 86), [.ref (15), .ref a1, .int v2, .int v3, .int x1], [.int (v2 - (1 : Int32)), .ref (15 + 2)], mk b S)) rfl hok ?_
            by_cases hc : (S.1 (15 + 2) (mIx (v2 - (1 : Int32)))) = 0
            · rw [if_pos hc] at hf ⊢
              refine msegT C kX0_work 45 2 (g := (true, 87, [.ref (15), .ref a1, .int v2, .int v3, .int x1], [.int (1 : Int32), .int (v2 - (1 : Int32)), .ref (15 + 2)], mk b S)) rfl rfl ?_
              exact mfor (L' := [.ref (15), .ref a1, .int v2, .int v3, .retAddr 0]) ⟨Or.inr rfl, Or.inr rfl, Or.inr rfl, Or.inr rfl, Or.inl rfl, trivial⟩ (bX0_work_87_15 C hr hk ih hf true)
            · rw [if_neg hc] at hf ⊢
              refine msegT C kX0_work 47 1 (g := (true, 87, [.ref (15), .ref a1, .int v2, .int v3, .int x1], [.int (0 : Int32), .int (v2 - (1 : Int32)), .ref (15 + 2)], mk b S)) rfl rfl ?_
              exact mfor (L' := [.ref (15), .ref a1, .int v2, .int v3, .retAddr 0]) ⟨Or.inr rfl, Or.inr rfl, Or.inr rfl, Or.inr rfl, Or.inl rfl, trivial⟩ (bX0_work_87_15 C hr hk ih hf true)
        · rw [if_neg hc] at hf ⊢
          refine msegT C kX0_work 50 3 (g := (true, (if v2 ≤ (1 : Int32) then 130 else 96), [.ref (15), .ref a1, .int v2, .int v3, .int x1], [], mk b S)) rfl rfl ?_
          by_cases hc : v2 ≤ (1 : Int32)
          · rw [if_pos hc] at hf ⊢
            exact mfor (L' := [.ref (15), .ref a1, .int v2, .int v3, .retAddr 0]) ⟨Or.inr rfl, Or.inr rfl, Or.inr rfl, Or.inr rfl, Or.inl rfl, trivial⟩ (bX0_work_130_15 C hr hk ih hf true)
          · rw [if_neg hc] at hf ⊢
            refine msegT C kX0_work 53 1 (g := (true, 99, [.ref (15), .ref a1, .int (v2 + (-1 : Int32)), .int v3, .int x1], [], mk b S)) rfl rfl ?_
            obtain ⟨x2, ex2, hf⟩ := bnd_ex hf
            rw [← ex2]
            obtain ⟨hok, hf⟩ := grd_ex hf
            refine msegT C kX0_work 54 10 (g := ((kO 15 0 && (kO 15 0 && true)), 116, [.ref (15), .ref a1, .int x2, .int v3, .int x1], [.ref (15 + 2), .int (x1 - (20000 : Int32)), .int (x2 - (1 : Int32)), .ref (15 + 2)], mk b S)) rfl hok ?_
            obtain ⟨hok, hf⟩ := grd_ex hf
            refine msegT C kX0_work 64 8 (g := ((kI (15 + 2) x2 && (kO 15 0 && (kI (15 + 2) (x2 - (1 : Int32)) && true))), 126, [.ref (15), .ref a1, .int x2, .int v3, .int x1], [.int (S.1 (15 + 2) (mIx x2)), .int (S.1 (15 + 2) (mIx (x2 - (1 : Int32)))), .int (x1 - (20000 : Int32)), .int (x2 - (1 : Int32)), .ref (15 + 2)], mk b S)) rfl hok ?_
            obtain ⟨x4, S3, hq, hf⟩ := bndC_ex hf
            refine mcall (kd := 1) (vs := [.int (x1 - (20000 : Int32)), .int (S.1 (15 + 2) (mIx (x2 - (1 : Int32)))), .int (S.1 (15 + 2) (mIx x2))]) (rest := [.int (x2 - (1 : Int32)), .ref (15 + 2)]) (r := (some (.int x4))) (h' := mk b S3) (ok' := true) C lkRX0_33 (qX0_join hq) (kX0_work _ (List.mem_of_getElem? (i := 72) rfl)).1 rfl (Nat.le_of_ble_eq_true rfl) (Nat.le_of_ble_eq_true rfl) (Nat.le_refl _) (Nat.le_refl _) (Nat.le_of_ble_eq_true rfl) ?_
            obtain ⟨hok, hf⟩ := grd_ex hf
            refine msegT C kX0_work 73 1 (g := ((kI (15 + 2) (x2 - (1 : Int32)) && true), 130, [.ref (15), .ref a1, .int x2, .int v3, .int x1], [], mk b (sI S3 (15 + 2) (mIx (x2 - (1 : Int32))) x4))) rfl hok ?_
            obtain ⟨S5, eS5, hf⟩ := bnd_ex hf
            rw [← eS5]
            exact mfor (L' := [.ref (15), .ref a1, .int x2, .int v3, .retAddr 0]) ⟨Or.inr rfl, Or.inr rfl, Or.inr rfl, Or.inr rfl, Or.inl rfl, trivial⟩ (bX0_work_130_15 C hr hk ih hf true)
      · rw [if_neg hc] at hf ⊢
        refine msegT C kX0_work 16 3 (g := (true, (if (30 : Int32) ≤ v2 then 130 else 34), [.ref (15), .ref a1, .int v2, .int v3, .int x1], [], mk b S)) rfl rfl ?_
        by_cases hc : (30 : Int32) ≤ v2
        · rw [if_pos hc] at hf ⊢
          exact mfor (L' := [.ref (15), .ref a1, .int v2, .int v3, .retAddr 0]) ⟨Or.inr rfl, Or.inr rfl, Or.inr rfl, Or.inr rfl, Or.inl rfl, trivial⟩ (bX0_work_130_15 C hr hk ih hf true)
        · rw [if_neg hc] at hf ⊢
          obtain ⟨hok, hf⟩ := grd_ex hf
          refine msegT C kX0_work 19 5 (g := ((kO 15 0 && true), 42, [.ref (15), .ref a1, .int v2, .int v3, .int x1], [.ref a1, .int x1, .int v2, .ref (15 + 2)], mk b S)) rfl hok ?_
          obtain ⟨x7, S6, hq, hf⟩ := bndC_ex hf
          refine mcall (kd := 1) (vs := [.int x1, .ref a1]) (rest := [.int v2, .ref (15 + 2)]) (r := (some (.int x7))) (h' := mk b S6) (ok' := true) C lkRX0_29 (qX0_leaf hq) (kX0_work _ (List.mem_of_getElem? (i := 24) rfl)).1 rfl (Nat.le_of_ble_eq_true rfl) (Nat.le_of_ble_eq_true rfl) (Nat.le_refl _) (Nat.le_refl _) (Nat.le_of_ble_eq_true rfl) ?_
          obtain ⟨hok, hf⟩ := grd_ex hf
          refine msegT C kX0_work 25 1 (g := ((kI (15 + 2) v2 && true), 46, [.ref (15), .ref a1, .int v2, .int v3, .int x1], [], mk b (sI S6 (15 + 2) (mIx v2) x7))) rfl hok ?_
          obtain ⟨S8, eS8, hf⟩ := bnd_ex hf
          rw [← eS8]
          refine msegT C kX0_work 26 1 (g := (true, 49, [.ref (15), .ref a1, .int (v2 + (1 : Int32)), .int v3, .int x1], [], mk b S8)) rfl rfl ?_
          obtain ⟨x9, ex9, hf⟩ := bnd_ex hf
          rw [← ex9]
          refine msegT C kX0_work 27 1 (g := (true, 130, [.ref (15), .ref a1, .int x9, .int v3, .int x1], [], mk b S8)) rfl rfl ?_
          exact mfor (L' := [.ref (15), .ref a1, .int x9, .int v3, .retAddr 0]) ⟨Or.inr rfl, Or.inr rfl, Or.inr rfl, Or.inr rfl, Or.inl rfl, trivial⟩ (bX0_work_130_15 C hr hk ih hf true)
theorem bX0_work_0_15 (C : mCx p (mR 2) s m args meth c G cX0_work RX0 5 false 233 54500 233 54500) (hr : meth.sig.returnType = (some .int)) (hk : meth.locks = false) {b : Bool} {a1 : Nat} {S' : mT} {r : Int32} {S : mT} (hf : fX0_work 15 a1 S = some (r, S')) (ok : Bool) : mW p l e (mR 2) s m args below meth c G 5 233 54500 (mQ below G args s b S' (some (.int r))) (ok, 0, [.ref (15), .ref a1, .retAddr 0, .retAddr 0, .retAddr 0], [], mk b S) := by
  unfold fX0_work at hf
  refine msegT C kX0_work 0 4 (g := (true, 4, [.ref (15), .ref a1, .int (0 : Int32), .int (0 : Int32), .retAddr 0], [], mk b S)) rfl rfl ?_
  exact mfor (L' := [.ref (15), .ref a1, .int (0 : Int32), .int (0 : Int32), .retAddr 0]) ⟨Or.inr rfl, Or.inr rfl, Or.inr rfl, Or.inr rfl, Or.inl rfl, trivial⟩ (bX0_work_4_15 C hr hk _ _ _ _ hf true)
theorem qX0_work_15 {b : Bool} {a1 : Nat} {S S' : mT} {r : Int32} (hf : fX0_work 15 a1 S = some (r, S')) : mOk l mX0_work 2 [.ref (15), .ref a1] b S (some (.int r)) S' :=
  gMet (by decide) (Nat.le_of_ble_eq_true rfl) rfl (Nat.le_of_ble_eq_true rfl) (fun p e s m args below meth c G C hr hk => bX0_work_0_15 C hr hk hf true)
theorem bX0_work_130_31 (C : mCx p (mR 2) s m args meth c G cX0_work RX0 5 false 233 54500 233 54500) (hr : meth.sig.returnType = (some .int)) (hk : meth.locks = false) {b : Bool} {a1 : Nat} {S' : mT} {r : Int32} {rc4 : Int32 → Int32 → mT → Option (Int32 × mT)} (Hrc4 : ∀ (v2 : Int32) (v3 : Int32) (S : mT), rc4 v2 v3 S = some (r, S') → ∀ ok : Bool, mW p l e (mR 2) s m args below meth c G 5 233 54500 (mQ below G args s b S' (some (.int r))) (ok, 4, [.ref (31), .ref a1, .int v2, .int v3, .retAddr 0], [], mk b S)) {v2 : Int32} {v3 : Int32} {S : mT} (hf : fX0_work_130 31 a1 rc4 v2 v3 S = some (r, S')) (ok : Bool) : mW p l e (mR 2) s m args below meth c G 5 233 54500 (mQ below G args s b S' (some (.int r))) (ok, 130, [.ref (31), .ref a1, .int v2, .int v3, .retAddr 0], [], mk b S) := by
  unfold fX0_work_130 at hf
  refine msegT C kX0_work 74 1 (g := (true, 133, [.ref (31), .ref a1, .int v2, .int (v3 + (1 : Int32)), .retAddr 0], [], mk b S)) rfl rfl ?_
  obtain ⟨x10, ex10, hf⟩ := bnd_ex hf
  rw [← ex10]
  refine msegT C kX0_work 75 1 (g := (true, 4, [.ref (31), .ref a1, .int v2, .int x10, .retAddr 0], [], mk b S)) rfl rfl ?_
  exact mfor (L' := [.ref (31), .ref a1, .int v2, .int x10, .retAddr 0]) ⟨Or.inr rfl, Or.inr rfl, Or.inr rfl, Or.inr rfl, Or.inl rfl, trivial⟩ (Hrc4 _ _ _ hf true)
theorem bX0_work_87_31 (C : mCx p (mR 2) s m args meth c G cX0_work RX0 5 false 233 54500 233 54500) (hr : meth.sig.returnType = (some .int)) (hk : meth.locks = false) {b : Bool} {a1 : Nat} {S' : mT} {r : Int32} {rc4 : Int32 → Int32 → mT → Option (Int32 × mT)} (Hrc4 : ∀ (v2 : Int32) (v3 : Int32) (S : mT), rc4 v2 v3 S = some (r, S') → ∀ ok : Bool, mW p l e (mR 2) s m args below meth c G 5 233 54500 (mQ below G args s b S' (some (.int r))) (ok, 4, [.ref (31), .ref a1, .int v2, .int v3, .retAddr 0], [], mk b S)) {v2 : Int32} {v3 : Int32} {s0 : Int32} {s1 : Int32} {S : mT} (hf : fX0_work_87 31 a1 rc4 v2 v3 s0 s1 S = some (r, S')) (ok : Bool) : mW p l e (mR 2) s m args below meth c G 5 233 54500 (mQ below G args s b S' (some (.int r))) (ok, 87, [.ref (31), .ref a1, .int v2, .int v3, .retAddr 0], [.int s0, .int s1, .ref (31 + 2)], mk b S) := by
  unfold fX0_work_87 at hf
  obtain ⟨hok, hf⟩ := grd_ex hf
  refine msegT C kX0_work 48 1 (g := ((kI (31 + 2) s1 && true), 88, [.ref (31), .ref a1, .int v2, .int v3, .retAddr 0], [], mk b (sI S (31 + 2) (mIx s1) s0))) rfl hok ?_
  obtain ⟨S11, eS11, hf⟩ := bnd_ex hf
  rw [← eS11]
  refine msegT C kX0_work 49 1 (g := (true, 130, [.ref (31), .ref a1, .int v2, .int v3, .retAddr 0], [], mk b S11)) rfl rfl ?_
  exact mfor (L' := [.ref (31), .ref a1, .int v2, .int v3, .retAddr 0]) ⟨Or.inr rfl, Or.inr rfl, Or.inr rfl, Or.inr rfl, Or.inl rfl, trivial⟩ (bX0_work_130_31 C hr hk Hrc4 hf true)
theorem bX0_work_152_31 (C : mCx p (mR 2) s m args meth c G cX0_work RX0 5 false 233 54500 233 54500) (hr : meth.sig.returnType = (some .int)) (hk : meth.locks = false) {b : Bool} {a1 : Nat} {S' : mT} {r : Int32} {s0 : Int32} {S : mT} (hf : fX0_work_152 31 a1 s0 S = some (r, S')) (ok : Bool) : mW p l e (mR 2) s m args below meth c G 5 233 54500 (mQ below G args s b S' (some (.int r))) (ok, 152, [.retAddr 0, .retAddr 0, .retAddr 0, .retAddr 0, .retAddr 0], [.int s0], mk b S) := by
  unfold fX0_work_152 at hf
  cases hf
  exact gret_i C hr hk (kX0_work _ (List.mem_of_getElem? (i := 86) rfl)).1
theorem bX0_work_4_31 (C : mCx p (mR 2) s m args meth c G cX0_work RX0 5 false 233 54500 233 54500) (hr : meth.sig.returnType = (some .int)) (hk : meth.locks = false) {b : Bool} {a1 : Nat} {S' : mT} {r : Int32} : ∀ (k : Nat) (v2 : Int32) (v3 : Int32) (S : mT), fX0_work_4 31 a1 k v2 v3 S = some (r, S') → ∀ ok : Bool, mW p l e (mR 2) s m args below meth c G 5 233 54500 (mQ below G args s b S' (some (.int r))) (ok, 4, [.ref (31), .ref a1, .int v2, .int v3, .retAddr 0], [], mk b S) := by
  intro k
  induction k with
  | zero =>
    intro v2 v3 S hf ok
    cases hf
  | succ k ih =>
    intro v2 v3 S hf ok
    unfold fX0_work_4 at hf
    obtain ⟨hok, hf⟩ := grd_ex hf
    refine msegT C kX0_work 4 4 (g := ((kO 31 0 && true), (if (S.1 31 2) ≤ v3 then 136 else 12), [.ref (31), .ref a1, .int v2, .int v3, .retAddr 0], [], mk b S)) rfl hok ?_
    by_cases hc : (S.1 31 2) ≤ v3
    · rw [if_pos hc] at hf ⊢
      refine msegT C kX0_work 76 2 (g := (true, (if v2 ≤ 0 then 151 else 140), [.ref (31), .ref a1, .int v2, .int v3, .retAddr 0], [], mk b S)) rfl rfl ?_
      by_cases hc : v2 ≤ 0
      · rw [if_pos hc] at hf ⊢
        refine msegT C kX0_work 85 1 (g := (true, 152, [.ref (31), .ref a1, .int v2, .int v3, .retAddr 0], [.int (0 : Int32)], mk b S)) rfl rfl ?_
        exact mfor (L' := [.retAddr 0, .retAddr 0, .retAddr 0, .retAddr 0, .retAddr 0]) ⟨Or.inl rfl, Or.inl rfl, Or.inl rfl, Or.inl rfl, Or.inl rfl, trivial⟩ (bX0_work_152_31 C hr hk hf true)
      · rw [if_neg hc] at hf ⊢
        obtain ⟨hok, hf⟩ := grd_ex hf
        refine msegT C kX0_work 78 7 (g := ((kI (31 + 2) (v2 - (1 : Int32)) && (kO 31 0 && true)), 152, [.ref (31), .ref a1, .int v2, .int v3, .retAddr 0], [.int (S.1 (31 + 2) (mIx (v2 - (1 : Int32))))], mk b S)) rfl hok ?_
        exact mfor (L' := [.retAddr 0, .retAddr 0, .retAddr 0, .retAddr 0, .retAddr 0]) ⟨Or.inl rfl, Or.inl rfl, Or.inl rfl, Or.inl rfl, Or.inl rfl, trivial⟩ (bX0_work_152_31 C hr hk hf true)
    · rw [if_neg hc] at hf ⊢
      obtain ⟨hok, hf⟩ := grd_ex hf
      refine msegT C kX0_work 8 5 (g := ((kI (31 + 1) v3 && (kO 31 0 && true)), 20, [.ref (31), .ref a1, .int v2, .int v3, .int (S.1 (31 + 1) (mIx v3))], [], mk b S)) rfl hok ?_
      obtain ⟨x1, ex1, hf⟩ := bnd_ex hf
      rw [← ex1]
      refine msegT C kX0_work 13 3 (g := (true, (if (20000 : Int32) ≤ x1 then 52 else 28), [.ref (31), .ref a1, .int v2, .int v3, .int x1], [], mk b S)) rfl rfl ?_
      by_cases hc : (20000 : Int32) ≤ x1
      · rw [if_pos hc] at hf ⊢
        refine msegT C kX0_work 28 3 (g := (true, (if x1 = (20033 : Int32) then 60 else 91), [.ref (31), .ref a1, .int v2, .int v3, .int x1], [], mk b S)) rfl rfl ?_
        by_cases hc : x1 = (20033 : Int32)
        · rw [if_pos hc] at hf ⊢
          refine msegT C kX0_work 31 2 (g := (true, (if v2 ≤ 0 then 130 else 64), [.ref (31), .ref a1, .int v2, .int v3, .int x1], [], mk b S)) rfl rfl ?_
          by_cases hc : v2 ≤ 0
          · rw [if_pos hc] at hf ⊢
            exact mfor (L' := [.ref (31), .ref a1, .int v2, .int v3, .retAddr 0]) ⟨Or.inr rfl, Or.inr rfl, Or.inr rfl, Or.inr rfl, Or.inl rfl, trivial⟩ (bX0_work_130_31 C hr hk ih hf true)
          · rw [if_neg hc] at hf ⊢
            obtain ⟨hok, hf⟩ := grd_ex hf
            refine msegT C kX0_work 33 10 (g := ((kO 31 0 && (kO 31 0 && true)), 78, [.ref (31), .ref a1, .int v2, .int v3, .int x1], [.int (v2 - (1 : Int32)), .ref (31 + 2), .int (v2 - (1 : Int32)), .ref (31 + 2)], mk b S)) rfl hok ?_
            obtain ⟨hok, hf⟩ := grd_ex hf
            refine msegT C kX0_work 43 2 (g := ((kI (31 + 2) (v2 - (1 : Int32)) && true), (if (S.1 (31 + 2) (mIx (v2 - (1 : Int32)))) = 0 then 82 else 86), [.ref (31), .ref a1, .int v2, .int v3, .int x1], [.int (v2 - (1 : Int32)), .ref (31 + 2)], mk b S)) rfl hok ?_
            by_cases hc : (S.1 (31 + 2) (mIx (v2 - (1 : Int32)))) = 0
            · rw [if_pos hc] at hf ⊢
              refine msegT C kX0_work 45 2 (g := (true, 87, [.ref (31), .ref a1, .int v2, .int v3, .int x1], [.int (1 : Int32), .int (v2 - (1 : Int32)), .ref (31 + 2)], mk b S)) rfl rfl ?_
              exact mfor (L' := [.ref (31), .ref a1, .int v2, .int v3, .retAddr 0]) ⟨Or.inr rfl, Or.inr rfl, Or.inr rfl, Or.inr rfl, Or.inl rfl, trivial⟩ (bX0_work_87_31 C hr hk ih hf true)
            · rw [if_neg hc] at hf ⊢
              refine msegT C kX0_work 47 1 (g := (true, 87, [.ref (31), .ref a1, .int v2, .int v3, .int x1], [.int (0 : Int32), .int (v2 - (1 : Int32)), .ref (31 + 2)], mk b S)) rfl rfl ?_
              exact mfor (L' := [.ref (31), .ref a1, .int v2, .int v3, .retAddr 0]) ⟨Or.inr rfl, Or.inr rfl, Or.inr rfl, Or.inr rfl, Or.inl rfl, trivial⟩ (bX0_work_87_31 C hr hk ih hf true)
        · rw [if_neg hc] at hf ⊢
          refine msegT C kX0_work 50 3 (g := (true, (if v2 ≤ (1 : Int32) then 130 else 96), [.ref (31), .ref a1, .int v2, .int v3, .int x1], [], mk b S)) rfl rfl ?_
          by_cases hc : v2 ≤ (1 : Int32)
          · rw [if_pos hc] at hf ⊢
            exact mfor (L' := [.ref (31), .ref a1, .int v2, .int v3, .retAddr 0]) ⟨Or.inr rfl, Or.inr rfl, Or.inr rfl, Or.inr rfl, Or.inl rfl, trivial⟩ (bX0_work_130_31 C hr hk ih hf true)
          · rw [if_neg hc] at hf ⊢
            refine msegT C kX0_work 53 1 (g := (true, 99, [.ref (31), .ref a1, .int (v2 + (-1 : Int32)), .int v3, .int x1], [], mk b S)) rfl rfl ?_
            obtain ⟨x2, ex2, hf⟩ := bnd_ex hf
            rw [← ex2]
            obtain ⟨hok, hf⟩ := grd_ex hf
            refine msegT C kX0_work 54 10 (g := ((kO 31 0 && (kO 31 0 && true)), 116, [.ref (31), .ref a1, .int x2, .int v3, .int x1], [.ref (31 + 2), .int (x1 - (20000 : Int32)), .int (x2 - (1 : Int32)), .ref (31 + 2)], mk b S)) rfl hok ?_
            obtain ⟨hok, hf⟩ := grd_ex hf
            refine msegT C kX0_work 64 8 (g := ((kI (31 + 2) x2 && (kO 31 0 && (kI (31 + 2) (x2 - (1 : Int32)) && true))), 126, [.ref (31), .ref a1, .int x2, .int v3, .int x1], [.int (S.1 (31 + 2) (mIx x2)), .int (S.1 (31 + 2) (mIx (x2 - (1 : Int32)))), .int (x1 - (20000 : Int32)), .int (x2 - (1 : Int32)), .ref (31 + 2)], mk b S)) rfl hok ?_
            obtain ⟨x4, S3, hq, hf⟩ := bndC_ex hf
            refine mcall (kd := 1) (vs := [.int (x1 - (20000 : Int32)), .int (S.1 (31 + 2) (mIx (x2 - (1 : Int32)))), .int (S.1 (31 + 2) (mIx x2))]) (rest := [.int (x2 - (1 : Int32)), .ref (31 + 2)]) (r := (some (.int x4))) (h' := mk b S3) (ok' := true) C lkRX0_33 (qX0_join hq) (kX0_work _ (List.mem_of_getElem? (i := 72) rfl)).1 rfl (Nat.le_of_ble_eq_true rfl) (Nat.le_of_ble_eq_true rfl) (Nat.le_refl _) (Nat.le_refl _) (Nat.le_of_ble_eq_true rfl) ?_
            obtain ⟨hok, hf⟩ := grd_ex hf
            refine msegT C kX0_work 73 1 (g := ((kI (31 + 2) (x2 - (1 : Int32)) && true), 130, [.ref (31), .ref a1, .int x2, .int v3, .int x1], [], mk b (sI S3 (31 + 2) (mIx (x2 - (1 : Int32))) x4))) rfl hok ?_
            obtain ⟨S5, eS5, hf⟩ := bnd_ex hf
            rw [← eS5]
            exact mfor (L' := [.ref (31), .ref a1, .int x2, .int v3, .retAddr 0]) ⟨Or.inr rfl, Or.inr rfl, Or.inr rfl, Or.inr rfl, Or.inl rfl, trivial⟩ (bX0_work_130_31 C hr hk ih hf true)
      · rw [if_neg hc] at hf ⊢
        refine msegT C kX0_work 16 3 (g := (true, (if (30 : Int32) ≤ v2 then 130 else 34), [.ref (31), .ref a1, .int v2, .int v3, .int x1], [], mk b S)) rfl rfl ?_
        by_cases hc : (30 : Int32) ≤ v2
        · rw [if_pos hc] at hf ⊢
          exact mfor (L' := [.ref (31), .ref a1, .int v2, .int v3, .retAddr 0]) ⟨Or.inr rfl, Or.inr rfl, Or.inr rfl, Or.inr rfl, Or.inl rfl, trivial⟩ (bX0_work_130_31 C hr hk ih hf true)
        · rw [if_neg hc] at hf ⊢
          obtain ⟨hok, hf⟩ := grd_ex hf
          refine msegT C kX0_work 19 5 (g := ((kO 31 0 && true), 42, [.ref (31), .ref a1, .int v2, .int v3, .int x1], [.ref a1, .int x1, .int v2, .ref (31 + 2)], mk b S)) rfl hok ?_
          obtain ⟨x7, S6, hq, hf⟩ := bndC_ex hf
          refine mcall (kd := 1) (vs := [.int x1, .ref a1]) (rest := [.int v2, .ref (31 + 2)]) (r := (some (.int x7))) (h' := mk b S6) (ok' := true) C lkRX0_29 (qX0_leaf hq) (kX0_work _ (List.mem_of_getElem? (i := 24) rfl)).1 rfl (Nat.le_of_ble_eq_true rfl) (Nat.le_of_ble_eq_true rfl) (Nat.le_refl _) (Nat.le_refl _) (Nat.le_of_ble_eq_true rfl) ?_
          obtain ⟨hok, hf⟩ := grd_ex hf
          refine msegT C kX0_work 25 1 (g := ((kI (31 + 2) v2 && true), 46, [.ref (31), .ref a1, .int v2, .int v3, .int x1], [], mk b (sI S6 (31 + 2) (mIx v2) x7))) rfl hok ?_
          obtain ⟨S8, eS8, hf⟩ := bnd_ex hf
          rw [← eS8]
          refine msegT C kX0_work 26 1 (g := (true, 49, [.ref (31), .ref a1, .int (v2 + (1 : Int32)), .int v3, .int x1], [], mk b S8)) rfl rfl ?_
          obtain ⟨x9, ex9, hf⟩ := bnd_ex hf
          rw [← ex9]
          refine msegT C kX0_work 27 1 (g := (true, 130, [.ref (31), .ref a1, .int x9, .int v3, .int x1], [], mk b S8)) rfl rfl ?_
          exact mfor (L' := [.ref (31), .ref a1, .int x9, .int v3, .retAddr 0]) ⟨Or.inr rfl, Or.inr rfl, Or.inr rfl, Or.inr rfl, Or.inl rfl, trivial⟩ (bX0_work_130_31 C hr hk ih hf true)
theorem bX0_work_0_31 (C : mCx p (mR 2) s m args meth c G cX0_work RX0 5 false 233 54500 233 54500) (hr : meth.sig.returnType = (some .int)) (hk : meth.locks = false) {b : Bool} {a1 : Nat} {S' : mT} {r : Int32} {S : mT} (hf : fX0_work 31 a1 S = some (r, S')) (ok : Bool) : mW p l e (mR 2) s m args below meth c G 5 233 54500 (mQ below G args s b S' (some (.int r))) (ok, 0, [.ref (31), .ref a1, .retAddr 0, .retAddr 0, .retAddr 0], [], mk b S) := by
  unfold fX0_work at hf
  refine msegT C kX0_work 0 4 (g := (true, 4, [.ref (31), .ref a1, .int (0 : Int32), .int (0 : Int32), .retAddr 0], [], mk b S)) rfl rfl ?_
  exact mfor (L' := [.ref (31), .ref a1, .int (0 : Int32), .int (0 : Int32), .retAddr 0]) ⟨Or.inr rfl, Or.inr rfl, Or.inr rfl, Or.inr rfl, Or.inl rfl, trivial⟩ (bX0_work_4_31 C hr hk _ _ _ _ hf true)
theorem qX0_work_31 {b : Bool} {a1 : Nat} {S S' : mT} {r : Int32} (hf : fX0_work 31 a1 S = some (r, S')) : mOk l mX0_work 2 [.ref (31), .ref a1] b S (some (.int r)) S' :=
  gMet (by decide) (Nat.le_of_ble_eq_true rfl) rfl (Nat.le_of_ble_eq_true rfl) (fun p e s m args below meth c G C hr hk => bX0_work_0_31 C hr hk hf true)
theorem bX10_leftBySeeing_4 (C : mCx p (mR 1) s m args meth c G cX10_leftBySeeing RX10 4 false 233 54500 233 54500) (hr : meth.sig.returnType = (some .int)) (hk : meth.locks = false) {b : Bool} {S' : mT} {r : Int32} : ∀ (k : Nat) (v1 : Int32) (v2 : Int32) (v3 : Int32) (S : mT), fX10_leftBySeeing_4 k v1 v2 v3 S = some (r, S') → ∀ ok : Bool, mW p l e (mR 1) s m args below meth c G 4 233 54500 (mQ below G args s b S' (some (.int r))) (ok, 4, [.ref (120), .int v1, .int v2, .int v3], [], mk b S) := by
  intro k
  induction k with
  | zero =>
    intro v1 v2 v3 S hf ok
    cases hf
  | succ k ih =>
    intro v1 v2 v3 S hf ok
    unfold fX10_leftBySeeing_4 at hf
    refine msegT C kX10_leftBySeeing 4 3 (g := (true, (if (7 : Int32) < v3 then 29 else 10), [.ref (120), .int v1, .int v2, .int v3], [], mk b S)) rfl rfl ?_
    by_cases hc : (7 : Int32) < v3
    · rw [if_pos hc] at hf ⊢
      refine msegT C kX10_leftBySeeing 18 1 (g := (true, 30, [.ref (120), .int v1, .int v2, .int v3], [.int v2], mk b S)) rfl rfl ?_
      cases hf
      exact gret_i C hr hk (kX10_leftBySeeing _ (List.mem_of_getElem? (i := 19) rfl)).1
    · rw [if_neg hc] at hf ⊢
      obtain ⟨hok, hf⟩ := grd_ex hf
      refine msegT C kX10_leftBySeeing 7 7 (g := ((kI (rowR 121 (mIx v1)) v3 && (kR 121 v1 && (kO 120 10 && true))), 19, [.ref (120), .int v1, .int v2, .int v3], [.int (S.1 (rowR 121 (mIx v1)) (mIx v3)), .int v2], mk b S)) rfl hok ?_
      obtain ⟨x1, ex1, hf⟩ := bnd_ex hf
      refine so_max (ok' := true) C (kX10_leftBySeeing _ (List.mem_of_getElem? (i := 14) rfl)).1 lmRX10_88 (Nat.le_of_ble_eq_true rfl) (Nat.le_refl _) (Nat.le_refl _) ?_
      rw [← ex1]
      refine msegT C kX10_leftBySeeing 15 2 (g := (true, 26, [.ref (120), .int v1, .int x1, .int (v3 + (1 : Int32))], [], mk b S)) rfl rfl ?_
      obtain ⟨x2, ex2, hf⟩ := bnd_ex hf
      rw [← ex2]
      refine msegT C kX10_leftBySeeing 17 1 (g := (true, 4, [.ref (120), .int v1, .int x1, .int x2], [], mk b S)) rfl rfl ?_
      exact mfor (L' := [.ref (120), .int v1, .int x1, .int x2]) ⟨Or.inr rfl, Or.inr rfl, Or.inr rfl, Or.inr rfl, trivial⟩ (ih _ _ _ _ hf true)
theorem bX10_leftBySeeing_0 (C : mCx p (mR 1) s m args meth c G cX10_leftBySeeing RX10 4 false 233 54500 233 54500) (hr : meth.sig.returnType = (some .int)) (hk : meth.locks = false) {b : Bool} {S' : mT} {r : Int32} {v1 : Int32} {S : mT} (hf : fX10_leftBySeeing v1 S = some (r, S')) (ok : Bool) : mW p l e (mR 1) s m args below meth c G 4 233 54500 (mQ below G args s b S' (some (.int r))) (ok, 0, [.ref (120), .int v1, .retAddr 0, .retAddr 0], [], mk b S) := by
  unfold fX10_leftBySeeing at hf
  refine msegT C kX10_leftBySeeing 0 4 (g := (true, 4, [.ref (120), .int v1, .int (0 : Int32), .int (0 : Int32)], [], mk b S)) rfl rfl ?_
  exact mfor (L' := [.ref (120), .int v1, .int (0 : Int32), .int (0 : Int32)]) ⟨Or.inr rfl, Or.inr rfl, Or.inr rfl, Or.inr rfl, trivial⟩ (bX10_leftBySeeing_4 C hr hk _ _ _ _ _ hf true)
theorem qX10_leftBySeeing {b : Bool} {v1 : Int32} {S S' : mT} {r : Int32} (hf : fX10_leftBySeeing v1 S = some (r, S')) : mOk l mX10_leftBySeeing 1 [.ref (120), .int v1] b S (some (.int r)) S' :=
  gMet (by decide) (Nat.le_of_ble_eq_true rfl) rfl (Nat.le_of_ble_eq_true rfl) (fun p e s m args below meth c G C hr hk => bX10_leftBySeeing_0 C hr hk hf true)
theorem bX10_bestToSee_27 (C : mCx p (mR 2) s m args meth c G cX10_bestToSee RX10 3 false 233 54500 233 54500) (hr : meth.sig.returnType = (some .int)) (hk : meth.locks = false) {b : Bool} {S' : mT} {r : Int32} {rc4 : Int32 → Int32 → mT → Option (Int32 × mT)} (Hrc4 : ∀ (v1 : Int32) (v2 : Int32) (S : mT), rc4 v1 v2 S = some (r, S') → ∀ ok : Bool, mW p l e (mR 2) s m args below meth c G 3 233 54500 (mQ below G args s b S' (some (.int r))) (ok, 4, [.ref (120), .int v1, .int v2], [], mk b S)) {v1 : Int32} {v2 : Int32} {S : mT} (hf : fX10_bestToSee_27 rc4 v1 v2 S = some (r, S')) (ok : Bool) : mW p l e (mR 2) s m args below meth c G 3 233 54500 (mQ below G args s b S' (some (.int r))) (ok, 27, [.ref (120), .int v1, .int v2], [], mk b S) := by
  unfold fX10_bestToSee_27 at hf
  refine msegT C kX10_bestToSee 17 1 (g := (true, 30, [.ref (120), .int v1, .int (v2 + (1 : Int32))], [], mk b S)) rfl rfl ?_
  obtain ⟨x5, ex5, hf⟩ := bnd_ex hf
  rw [← ex5]
  refine msegT C kX10_bestToSee 18 1 (g := (true, 4, [.ref (120), .int v1, .int x5], [], mk b S)) rfl rfl ?_
  exact mfor (L' := [.ref (120), .int v1, .int x5]) ⟨Or.inr rfl, Or.inr rfl, Or.inr rfl, trivial⟩ (Hrc4 _ _ _ hf true)
theorem bX10_bestToSee_4 (C : mCx p (mR 2) s m args meth c G cX10_bestToSee RX10 3 false 233 54500 233 54500) (hr : meth.sig.returnType = (some .int)) (hk : meth.locks = false) {b : Bool} {S' : mT} {r : Int32} : ∀ (k : Nat) (v1 : Int32) (v2 : Int32) (S : mT), fX10_bestToSee_4 k v1 v2 S = some (r, S') → ∀ ok : Bool, mW p l e (mR 2) s m args below meth c G 3 233 54500 (mQ below G args s b S' (some (.int r))) (ok, 4, [.ref (120), .int v1, .int v2], [], mk b S) := by
  intro k
  induction k with
  | zero =>
    intro v1 v2 S hf ok
    cases hf
  | succ k ih =>
    intro v1 v2 S hf ok
    unfold fX10_bestToSee_4 at hf
    obtain ⟨hok, hf⟩ := grd_ex hf
    refine msegT C kX10_bestToSee 4 4 (g := ((kO 120 10 && true), (if (S.1 120 9) ≤ v2 then 33 else 12), [.ref (120), .int v1, .int v2], [], mk b S)) rfl hok ?_
    by_cases hc : (S.1 120 9) ≤ v2
    · rw [if_pos hc] at hf ⊢
      refine msegT C kX10_bestToSee 19 1 (g := (true, 34, [.ref (120), .int v1, .int v2], [.int v1], mk b S)) rfl rfl ?_
      cases hf
      exact gret_i C hr hk (kX10_bestToSee _ (List.mem_of_getElem? (i := 20) rfl)).1
    · rw [if_neg hc] at hf ⊢
      refine msegT C kX10_bestToSee 8 2 (g := (true, 14, [.ref (120), .int v1, .int v2], [.int v2, .ref (120)], mk b S)) rfl rfl ?_
      obtain ⟨x2, S1, hq, hf⟩ := bndC_ex hf
      refine mcall (kd := 0) (vs := [.ref (120), .int v2]) (rest := []) (r := (some (.int x2))) (h' := mk b S1) (ok' := true) C lkRX10_118 (qX10_leftBySeeing hq) (kX10_bestToSee _ (List.mem_of_getElem? (i := 10) rfl)).1 ⟨_, _, rfl, rfl, Nat.le_of_ble_eq_true rfl, _, _, rfl, rfl, rfl⟩ (Nat.le_of_ble_eq_true rfl) (Nat.le_of_ble_eq_true rfl) (Nat.le_refl _) (Nat.le_refl _) (Nat.le_of_ble_eq_true rfl) ?_
      refine msegT C kX10_bestToSee 11 2 (g := (true, 19, [.ref (120), .int v1, .int v2], [.int v1, .ref (120), .int x2], mk b S1)) rfl rfl ?_
      obtain ⟨x4, S3, hq, hf⟩ := bndC_ex hf
      refine mcall (kd := 0) (vs := [.ref (120), .int v1]) (rest := [.int x2]) (r := (some (.int x4))) (h' := mk b S3) (ok' := true) C lkRX10_118 (qX10_leftBySeeing hq) (kX10_bestToSee _ (List.mem_of_getElem? (i := 13) rfl)).1 ⟨_, _, rfl, rfl, Nat.le_of_ble_eq_true rfl, _, _, rfl, rfl, rfl⟩ (Nat.le_of_ble_eq_true rfl) (Nat.le_of_ble_eq_true rfl) (Nat.le_refl _) (Nat.le_refl _) (Nat.le_of_ble_eq_true rfl) ?_
      refine msegT C kX10_bestToSee 14 1 (g := (true, (if x4 ≤ x2 then 27 else 25), [.ref (120), .int v1, .int v2], [], mk b S3)) rfl rfl ?_
      by_cases hc : x4 ≤ x2
      · rw [if_pos hc] at hf ⊢
        exact mfor (L' := [.ref (120), .int v1, .int v2]) ⟨Or.inr rfl, Or.inr rfl, Or.inr rfl, trivial⟩ (bX10_bestToSee_27 C hr hk ih hf true)
      · rw [if_neg hc] at hf ⊢
        refine msegT C kX10_bestToSee 15 2 (g := (true, 27, [.ref (120), .int v2, .int v2], [], mk b S3)) rfl rfl ?_
        exact mfor (L' := [.ref (120), .int v2, .int v2]) ⟨Or.inr rfl, Or.inr rfl, Or.inr rfl, trivial⟩ (bX10_bestToSee_27 C hr hk ih hf true)
theorem bX10_bestToSee_0 (C : mCx p (mR 2) s m args meth c G cX10_bestToSee RX10 3 false 233 54500 233 54500) (hr : meth.sig.returnType = (some .int)) (hk : meth.locks = false) {b : Bool} {S' : mT} {r : Int32} {S : mT} (hf : fX10_bestToSee S = some (r, S')) (ok : Bool) : mW p l e (mR 2) s m args below meth c G 3 233 54500 (mQ below G args s b S' (some (.int r))) (ok, 0, [.ref (120), .retAddr 0, .retAddr 0], [], mk b S) := by
  unfold fX10_bestToSee at hf
  refine msegT C kX10_bestToSee 0 4 (g := (true, 4, [.ref (120), .int (0 : Int32), .int (1 : Int32)], [], mk b S)) rfl rfl ?_
  exact mfor (L' := [.ref (120), .int (0 : Int32), .int (1 : Int32)]) ⟨Or.inr rfl, Or.inr rfl, Or.inr rfl, trivial⟩ (bX10_bestToSee_4 C hr hk _ _ _ _ hf true)
theorem qX10_bestToSee {b : Bool} {S S' : mT} {r : Int32} (hf : fX10_bestToSee S = some (r, S')) : mOk l mX10_bestToSee 2 [.ref (120)] b S (some (.int r)) S' :=
  gMet (by decide) (Nat.le_of_ble_eq_true rfl) rfl (Nat.le_of_ble_eq_true rfl) (fun p e s m args below meth c G C hr hk => bX10_bestToSee_0 C hr hk hf true)
theorem bX10_highest_5 (C : mCx p (mR 1) s m args meth c G cX10_highest RX10 5 false 233 54500 233 54500) (hr : meth.sig.returnType = (some .int)) (hk : meth.locks = false) {b : Bool} {S' : mT} {r : Int32} : ∀ (k : Nat) (v1 : Int32) (v2 : Int32) (v3 : Int32) (S : mT), fX10_highest_5 k v1 v2 v3 S = some (r, S') → ∀ ok : Bool, mW p l e (mR 1) s m args below meth c G 5 233 54500 (mQ below G args s b S' (some (.int r))) (ok, 5, [.ref (120), .int v1, .int v2, .int v3, .retAddr 0], [], mk b S) := by
  intro k
  induction k with
  | zero =>
    intro v1 v2 v3 S hf ok
    cases hf
  | succ k ih =>
    intro v1 v2 v3 S hf ok
    unfold fX10_highest_5 at hf
    obtain ⟨hok, hf⟩ := grd_ex hf
    refine msegT C kX10_highest 4 7 (g := ((kI 137 v1 && (kO 129 9 && (kO 120 10 && true))), (if (S.1 137 (mIx v1)) ≤ v3 then 64 else 18), [.ref (120), .int v1, .int v2, .int v3, .retAddr 0], [], mk b S)) rfl hok ?_
    by_cases hc : (S.1 137 (mIx v1)) ≤ v3
    · rw [if_pos hc] at hf ⊢
      refine msegT C kX10_highest 38 1 (g := (true, 65, [.ref (120), .int v1, .int v2, .int v3, .retAddr 0], [.int v2], mk b S)) rfl rfl ?_
      cases hf
      exact gret_i C hr hk (kX10_highest _ (List.mem_of_getElem? (i := 39) rfl)).1
    · rw [if_neg hc] at hf ⊢
      obtain ⟨hok, hf⟩ := grd_ex hf
      refine msegT C kX10_highest 11 8 (g := ((kI (rowR 131 (mIx v1)) v3 && (kR 131 v1 && (kO 129 9 && (kO 120 10 && true)))), 31, [.ref (120), .int v1, .int v2, .int v3, .int (S.1 (rowR 131 (mIx v1)) (mIx v3))], [], mk b S)) rfl hok ?_
      obtain ⟨x1, ex1, hf⟩ := bnd_ex hf
      rw [← ex1]
      obtain ⟨hok, hf⟩ := grd_ex hf
      refine msegT C kX10_highest 19 10 (g := ((kI 128 (x1 ||| ((1 : Int32) <<< (v1 &&& 31))) && (kO 120 10 && true)), 44, [.ref (120), .int v1, .int v2, .int v3, .int x1], [.ref (120), .int (S.1 128 (mIx (x1 ||| ((1 : Int32) <<< (v1 &&& 31))))), .int v2], mk b S)) rfl hok ?_
      obtain ⟨hok, hf⟩ := grd_ex hf
      refine msegT C kX10_highest 29 5 (g := ((kI 130 x1 && (kO 129 9 && (kO 120 10 && true))), 54, [.ref (120), .int v1, .int v2, .int v3, .int x1], [.int ((S.1 128 (mIx (x1 ||| ((1 : Int32) <<< (v1 &&& 31))))) - (S.1 130 (mIx x1))), .int v2], mk b S)) rfl hok ?_
      obtain ⟨x2, ex2, hf⟩ := bnd_ex hf
      refine so_min (ok' := true) C (kX10_highest _ (List.mem_of_getElem? (i := 34) rfl)).1 lmRX10_96 (Nat.le_of_ble_eq_true rfl) (Nat.le_refl _) (Nat.le_refl _) ?_
      rw [← ex2]
      refine msegT C kX10_highest 35 2 (g := (true, 61, [.ref (120), .int v1, .int x2, .int (v3 + (1 : Int32)), .int x1], [], mk b S)) rfl rfl ?_
      obtain ⟨x3, ex3, hf⟩ := bnd_ex hf
      rw [← ex3]
      refine msegT C kX10_highest 37 1 (g := (true, 5, [.ref (120), .int v1, .int x2, .int x3, .int x1], [], mk b S)) rfl rfl ?_
      exact mfor (L' := [.ref (120), .int v1, .int x2, .int x3, .retAddr 0]) ⟨Or.inr rfl, Or.inr rfl, Or.inr rfl, Or.inr rfl, Or.inl rfl, trivial⟩ (ih _ _ _ _ hf true)
theorem bX10_highest_0 (C : mCx p (mR 1) s m args meth c G cX10_highest RX10 5 false 233 54500 233 54500) (hr : meth.sig.returnType = (some .int)) (hk : meth.locks = false) {b : Bool} {S' : mT} {r : Int32} {v1 : Int32} {S : mT} (hf : fX10_highest v1 S = some (r, S')) (ok : Bool) : mW p l e (mR 1) s m args below meth c G 5 233 54500 (mQ below G args s b S' (some (.int r))) (ok, 0, [.ref (120), .int v1, .retAddr 0, .retAddr 0, .retAddr 0], [], mk b S) := by
  unfold fX10_highest at hf
  refine msegT C kX10_highest 0 4 (g := (true, 5, [.ref (120), .int v1, .int (7 : Int32), .int (0 : Int32), .retAddr 0], [], mk b S)) rfl rfl ?_
  exact mfor (L' := [.ref (120), .int v1, .int (7 : Int32), .int (0 : Int32), .retAddr 0]) ⟨Or.inr rfl, Or.inr rfl, Or.inr rfl, Or.inr rfl, Or.inl rfl, trivial⟩ (bX10_highest_5 C hr hk _ _ _ _ _ hf true)
theorem qX10_highest {b : Bool} {v1 : Int32} {S S' : mT} {r : Int32} (hf : fX10_highest v1 S = some (r, S')) : mOk l mX10_highest 1 [.ref (120), .int v1] b S (some (.int r)) S' :=
  gMet (by decide) (Nat.le_of_ble_eq_true rfl) rfl (Nat.le_of_ble_eq_true rfl) (fun p e s m args below meth c G C hr hk => bX10_highest_0 C hr hk hf true)
theorem bX10_lowest_4 (C : mCx p (mR 1) s m args meth c G cX10_lowest RX10 5 false 233 54500 233 54500) (hr : meth.sig.returnType = (some .int)) (hk : meth.locks = false) {b : Bool} {S' : mT} {r : Int32} : ∀ (k : Nat) (v1 : Int32) (v2 : Int32) (v3 : Int32) (S : mT), fX10_lowest_4 k v1 v2 v3 S = some (r, S') → ∀ ok : Bool, mW p l e (mR 1) s m args below meth c G 5 233 54500 (mQ below G args s b S' (some (.int r))) (ok, 4, [.ref (120), .int v1, .int v2, .int v3, .retAddr 0], [], mk b S) := by
  intro k
  induction k with
  | zero =>
    intro v1 v2 v3 S hf ok
    cases hf
  | succ k ih =>
    intro v1 v2 v3 S hf ok
    unfold fX10_lowest_4 at hf
    obtain ⟨hok, hf⟩ := grd_ex hf
    refine msegT C kX10_lowest 4 7 (g := ((kI 137 v1 && (kO 129 9 && (kO 120 10 && true))), (if (S.1 137 (mIx v1)) ≤ v3 then 63 else 17), [.ref (120), .int v1, .int v2, .int v3, .retAddr 0], [], mk b S)) rfl hok ?_
    by_cases hc : (S.1 137 (mIx v1)) ≤ v3
    · rw [if_pos hc] at hf ⊢
      refine msegT C kX10_lowest 38 1 (g := (true, 64, [.ref (120), .int v1, .int v2, .int v3, .retAddr 0], [.int v2], mk b S)) rfl rfl ?_
      cases hf
      exact gret_i C hr hk (kX10_lowest _ (List.mem_of_getElem? (i := 39) rfl)).1
    · rw [if_neg hc] at hf ⊢
      obtain ⟨hok, hf⟩ := grd_ex hf
      refine msegT C kX10_lowest 11 8 (g := ((kI (rowR 131 (mIx v1)) v3 && (kR 131 v1 && (kO 129 9 && (kO 120 10 && true)))), 30, [.ref (120), .int v1, .int v2, .int v3, .int (S.1 (rowR 131 (mIx v1)) (mIx v3))], [], mk b S)) rfl hok ?_
      obtain ⟨x1, ex1, hf⟩ := bnd_ex hf
      rw [← ex1]
      obtain ⟨hok, hf⟩ := grd_ex hf
      refine msegT C kX10_lowest 19 10 (g := ((kI 127 (x1 ||| ((1 : Int32) <<< (v1 &&& 31))) && (kO 120 10 && true)), 43, [.ref (120), .int v1, .int v2, .int v3, .int x1], [.ref (120), .int (S.1 127 (mIx (x1 ||| ((1 : Int32) <<< (v1 &&& 31))))), .int v2], mk b S)) rfl hok ?_
      obtain ⟨hok, hf⟩ := grd_ex hf
      refine msegT C kX10_lowest 29 5 (g := ((kI 130 x1 && (kO 129 9 && (kO 120 10 && true))), 53, [.ref (120), .int v1, .int v2, .int v3, .int x1], [.int ((S.1 127 (mIx (x1 ||| ((1 : Int32) <<< (v1 &&& 31))))) - (S.1 130 (mIx x1))), .int v2], mk b S)) rfl hok ?_
      obtain ⟨x2, ex2, hf⟩ := bnd_ex hf
      refine so_max (ok' := true) C (kX10_lowest _ (List.mem_of_getElem? (i := 34) rfl)).1 lmRX10_88 (Nat.le_of_ble_eq_true rfl) (Nat.le_refl _) (Nat.le_refl _) ?_
      rw [← ex2]
      refine msegT C kX10_lowest 35 2 (g := (true, 60, [.ref (120), .int v1, .int x2, .int (v3 + (1 : Int32)), .int x1], [], mk b S)) rfl rfl ?_
      obtain ⟨x3, ex3, hf⟩ := bnd_ex hf
      rw [← ex3]
      refine msegT C kX10_lowest 37 1 (g := (true, 4, [.ref (120), .int v1, .int x2, .int x3, .int x1], [], mk b S)) rfl rfl ?_
      exact mfor (L' := [.ref (120), .int v1, .int x2, .int x3, .retAddr 0]) ⟨Or.inr rfl, Or.inr rfl, Or.inr rfl, Or.inr rfl, Or.inl rfl, trivial⟩ (ih _ _ _ _ hf true)
theorem bX10_lowest_0 (C : mCx p (mR 1) s m args meth c G cX10_lowest RX10 5 false 233 54500 233 54500) (hr : meth.sig.returnType = (some .int)) (hk : meth.locks = false) {b : Bool} {S' : mT} {r : Int32} {v1 : Int32} {S : mT} (hf : fX10_lowest v1 S = some (r, S')) (ok : Bool) : mW p l e (mR 1) s m args below meth c G 5 233 54500 (mQ below G args s b S' (some (.int r))) (ok, 0, [.ref (120), .int v1, .retAddr 0, .retAddr 0, .retAddr 0], [], mk b S) := by
  unfold fX10_lowest at hf
  refine msegT C kX10_lowest 0 4 (g := (true, 4, [.ref (120), .int v1, .int (0 : Int32), .int (0 : Int32), .retAddr 0], [], mk b S)) rfl rfl ?_
  exact mfor (L' := [.ref (120), .int v1, .int (0 : Int32), .int (0 : Int32), .retAddr 0]) ⟨Or.inr rfl, Or.inr rfl, Or.inr rfl, Or.inr rfl, Or.inl rfl, trivial⟩ (bX10_lowest_4 C hr hk _ _ _ _ _ hf true)
theorem qX10_lowest {b : Bool} {v1 : Int32} {S S' : mT} {r : Int32} (hf : fX10_lowest v1 S = some (r, S')) : mOk l mX10_lowest 1 [.ref (120), .int v1] b S (some (.int r)) S' :=
  gMet (by decide) (Nat.le_of_ble_eq_true rfl) rfl (Nat.le_of_ble_eq_true rfl) (fun p e s m args below meth c G C hr hk => bX10_lowest_0 C hr hk hf true)
theorem bX9_setHeads_2_174 (C : mCx p (mR 1) s m args meth c G cX9_setHeads RX9 4 false 233 54500 233 54500) (hr : meth.sig.returnType = none) (hk : meth.locks = false) {b : Bool} {S' : mT} : ∀ (k : Nat) (v1 : Int32) (v2 : Int32) (v3 : Int32) (S : mT), fX9_setHeads_2 174 k v1 v2 v3 S = some S' → ∀ ok : Bool, mW p l e (mR 1) s m args below meth c G 4 233 54500 (mQ below G args s b S' none) (ok, 2, [.ref (174), .int v1, .int v2, .int v3], [], mk b S) := by
  intro k
  induction k with
  | zero =>
    intro v1 v2 v3 S hf ok
    cases hf
  | succ k ih =>
    intro v1 v2 v3 S hf ok
    unfold fX9_setHeads_2 at hf
    refine msegT C kX9_setHeads 2 5 (g := (true, (if ((1 : Int32) <<< (v1 &&& 31)) ≤ v3 then 33 else 9), [.ref (174), .int v1, .int v2, .int v3], [], mk b S)) rfl rfl ?_
    by_cases hc : ((1 : Int32) <<< (v1 &&& 31)) ≤ v3
    · rw [if_pos hc] at hf ⊢
      cases hf
      exact gret_v C hr hk (kX9_setHeads _ (List.mem_of_getElem? (i := 23) rfl)).1
    · rw [if_neg hc] at hf ⊢
      obtain ⟨hok, hf⟩ := grd_ex hf
      refine msegT C kX9_setHeads 7 10 (g := ((kO 174 9 && (kO 174 9 && true)), 23, [.ref (174), .int v1, .int v2, .int v3], [.int v3, .ref (174 + 1), .int (v3 ||| ((1 : Int32) <<< (v1 &&& 31))), .ref (174 + 1)], mk b S)) rfl hok ?_
      obtain ⟨hok, hf⟩ := grd_ex hf
      refine msegT C kX9_setHeads 17 4 (g := ((kI (174 + 1) (v3 ||| ((1 : Int32) <<< (v1 &&& 31))) && (kI (174 + 1) v3 && true)), 27, [.ref (174), .int v1, .int v2, .int v3], [], mk b (sI S (174 + 1) (mIx (v3 ||| ((1 : Int32) <<< (v1 &&& 31)))) ((S.1 (174 + 1) (mIx v3)) + v2)))) rfl hok ?_
      obtain ⟨S1, eS1, hf⟩ := bnd_ex hf
      rw [← eS1]
      refine msegT C kX9_setHeads 21 1 (g := (true, 30, [.ref (174), .int v1, .int v2, .int (v3 + (1 : Int32))], [], mk b S1)) rfl rfl ?_
      obtain ⟨x2, ex2, hf⟩ := bnd_ex hf
      rw [← ex2]
      refine msegT C kX9_setHeads 22 1 (g := (true, 2, [.ref (174), .int v1, .int v2, .int x2], [], mk b S1)) rfl rfl ?_
      exact mfor (L' := [.ref (174), .int v1, .int v2, .int x2]) ⟨Or.inr rfl, Or.inr rfl, Or.inr rfl, Or.inr rfl, trivial⟩ (ih _ _ _ _ hf true)
theorem bX9_setHeads_0_174 (C : mCx p (mR 1) s m args meth c G cX9_setHeads RX9 4 false 233 54500 233 54500) (hr : meth.sig.returnType = none) (hk : meth.locks = false) {b : Bool} {S' : mT} {v1 : Int32} {v2 : Int32} {S : mT} (hf : fX9_setHeads 174 v1 v2 S = some S') (ok : Bool) : mW p l e (mR 1) s m args below meth c G 4 233 54500 (mQ below G args s b S' none) (ok, 0, [.ref (174), .int v1, .int v2, .retAddr 0], [], mk b S) := by
  unfold fX9_setHeads at hf
  refine msegT C kX9_setHeads 0 2 (g := (true, 2, [.ref (174), .int v1, .int v2, .int (0 : Int32)], [], mk b S)) rfl rfl ?_
  exact mfor (L' := [.ref (174), .int v1, .int v2, .int (0 : Int32)]) ⟨Or.inr rfl, Or.inr rfl, Or.inr rfl, Or.inr rfl, trivial⟩ (bX9_setHeads_2_174 C hr hk _ _ _ _ _ hf true)
theorem qX9_setHeads_174 {b : Bool} {v1 : Int32} {v2 : Int32} {S S' : mT} (hf : fX9_setHeads 174 v1 v2 S = some S') : mOk l mX9_setHeads 1 [.ref (174), .int v1, .int v2] b S none S' :=
  gMet (by decide) (Nat.le_of_ble_eq_true rfl) rfl (Nat.le_of_ble_eq_true rfl) (fun p e s m args below meth c G C hr hk => bX9_setHeads_0_174 C hr hk hf true)
theorem bX9_setHeads_2_129 (C : mCx p (mR 1) s m args meth c G cX9_setHeads RX9 4 false 233 54500 233 54500) (hr : meth.sig.returnType = none) (hk : meth.locks = false) {b : Bool} {S' : mT} : ∀ (k : Nat) (v1 : Int32) (v2 : Int32) (v3 : Int32) (S : mT), fX9_setHeads_2 129 k v1 v2 v3 S = some S' → ∀ ok : Bool, mW p l e (mR 1) s m args below meth c G 4 233 54500 (mQ below G args s b S' none) (ok, 2, [.ref (129), .int v1, .int v2, .int v3], [], mk b S) := by
  intro k
  induction k with
  | zero =>
    intro v1 v2 v3 S hf ok
    cases hf
  | succ k ih =>
    intro v1 v2 v3 S hf ok
    unfold fX9_setHeads_2 at hf
    refine msegT C kX9_setHeads 2 5 (g := (true, (if ((1 : Int32) <<< (v1 &&& 31)) ≤ v3 then 33 else 9), [.ref (129), .int v1, .int v2, .int v3], [], mk b S)) rfl rfl ?_
    by_cases hc : ((1 : Int32) <<< (v1 &&& 31)) ≤ v3
    · rw [if_pos hc] at hf ⊢
      cases hf
      exact gret_v C hr hk (kX9_setHeads _ (List.mem_of_getElem? (i := 23) rfl)).1
    · rw [if_neg hc] at hf ⊢
      obtain ⟨hok, hf⟩ := grd_ex hf
      refine msegT C kX9_setHeads 7 10 (g := ((kO 129 9 && (kO 129 9 && true)), 23, [.ref (129), .int v1, .int v2, .int v3], [.int v3, .ref (129 + 1), .int (v3 ||| ((1 : Int32) <<< (v1 &&& 31))), .ref (129 + 1)], mk b S)) rfl hok ?_
      obtain ⟨hok, hf⟩ := grd_ex hf
      refine msegT C kX9_setHeads 17 4 (g := ((kI (129 + 1) (v3 ||| ((1 : Int32) <<< (v1 &&& 31))) && (kI (129 + 1) v3 && true)), 27, [.ref (129), .int v1, .int v2, .int v3], [], mk b (sI S (129 + 1) (mIx (v3 ||| ((1 : Int32) <<< (v1 &&& 31)))) ((S.1 (129 + 1) (mIx v3)) + v2)))) rfl hok ?_
      obtain ⟨S1, eS1, hf⟩ := bnd_ex hf
      rw [← eS1]
      refine msegT C kX9_setHeads 21 1 (g := (true, 30, [.ref (129), .int v1, .int v2, .int (v3 + (1 : Int32))], [], mk b S1)) rfl rfl ?_
      obtain ⟨x2, ex2, hf⟩ := bnd_ex hf
      rw [← ex2]
      refine msegT C kX9_setHeads 22 1 (g := (true, 2, [.ref (129), .int v1, .int v2, .int x2], [], mk b S1)) rfl rfl ?_
      exact mfor (L' := [.ref (129), .int v1, .int v2, .int x2]) ⟨Or.inr rfl, Or.inr rfl, Or.inr rfl, Or.inr rfl, trivial⟩ (ih _ _ _ _ hf true)
theorem bX9_setHeads_0_129 (C : mCx p (mR 1) s m args meth c G cX9_setHeads RX9 4 false 233 54500 233 54500) (hr : meth.sig.returnType = none) (hk : meth.locks = false) {b : Bool} {S' : mT} {v1 : Int32} {v2 : Int32} {S : mT} (hf : fX9_setHeads 129 v1 v2 S = some S') (ok : Bool) : mW p l e (mR 1) s m args below meth c G 4 233 54500 (mQ below G args s b S' none) (ok, 0, [.ref (129), .int v1, .int v2, .retAddr 0], [], mk b S) := by
  unfold fX9_setHeads at hf
  refine msegT C kX9_setHeads 0 2 (g := (true, 2, [.ref (129), .int v1, .int v2, .int (0 : Int32)], [], mk b S)) rfl rfl ?_
  exact mfor (L' := [.ref (129), .int v1, .int v2, .int (0 : Int32)]) ⟨Or.inr rfl, Or.inr rfl, Or.inr rfl, Or.inr rfl, trivial⟩ (bX9_setHeads_2_129 C hr hk _ _ _ _ _ hf true)
theorem qX9_setHeads_129 {b : Bool} {v1 : Int32} {v2 : Int32} {S S' : mT} (hf : fX9_setHeads 129 v1 v2 S = some S') : mOk l mX9_setHeads 1 [.ref (129), .int v1, .int v2] b S none S' :=
  gMet (by decide) (Nat.le_of_ble_eq_true rfl) rfl (Nat.le_of_ble_eq_true rfl) (fun p e s m args below meth c G C hr hk => bX9_setHeads_0_129 C hr hk hf true)
theorem bX10_countFrom_65 {d : Nat} (C : mCx p (mR (2 + (d + 1))) s m args meth c G cX10_countFrom RX10 7 false 233 54500 233 54500) (hr : meth.sig.returnType = (some .int)) (hk : meth.locks = false) {b : Bool} {self : Int32 → mT → Option (Int32 × mT)} (Hself : ∀ {v1 : Int32} {S S' : mT} {r : Int32}, self v1 S = some (r, S') → mOk l mX10_countFrom (2 + d) [.ref (120), .int v1] b S (some (.int r)) S') {S' : mT} {r : Int32} {rc23 : Int32 → Int32 → Int32 → Int32 → mT → Option (Int32 × mT)} (Hrc23 : ∀ (v1 : Int32) (v2 : Int32) (v4 : Int32) (v5 : Int32) (S : mT), rc23 v1 v2 v4 v5 S = some (r, S') → ∀ ok : Bool, mW p l e (mR (2 + (d + 1))) s m args below meth c G 7 233 54500 (mQ below G args s b S' (some (.int r))) (ok, 23, [.ref (120), .int v1, .int v2, .ref (rowR 121 (mIx v1)), .int v4, .int v5, .retAddr 0], [], mk b S)) {v1 : Int32} {v2 : Int32} {v4 : Int32} {v5 : Int32} {v6 : Int32} {S : mT} (hf : fX10_countFrom_65 self rc23 v1 v2 v4 v5 v6 S = some (r, S')) (ok : Bool) : mW p l e (mR (2 + (d + 1))) s m args below meth c G 7 233 54500 (mQ below G args s b S' (some (.int r))) (ok, 65, [.ref (120), .int v1, .int v2, .ref (rowR 121 (mIx v1)), .int v4, .int v5, .int v6], [], mk b S) := by
  unfold fX10_countFrom_65 at hf
  obtain ⟨hok, hf⟩ := grd_ex hf
  refine msegT C kX10_countFrom 38 7 (g := ((kI (rowR 121 (mIx v1)) v5 && (kI (rowR 121 (mIx v1)) v5 && true)), 74, [.ref (120), .int v1, .int v2, .ref (rowR 121 (mIx v1)), .int v4, .int v5, .int v6], [], mk b (sI S (rowR 121 (mIx v1)) (mIx v5) ((S.1 (rowR 121 (mIx v1)) (mIx v5)) + v6)))) rfl hok ?_
  obtain ⟨S9, eS9, hf⟩ := bnd_ex hf
  rw [← eS9]
  refine msegT C kX10_countFrom 45 4 (g := (true, 79, [.ref (120), .int v1, .int (v2 + v6), .ref (rowR 121 (mIx v1)), .int v4, .int v5, .int v6], [], mk b S9)) rfl rfl ?_
  obtain ⟨x10, ex10, hf⟩ := bnd_ex hf
  rw [← ex10]
  refine msegT C kX10_countFrom 49 1 (g := (true, 82, [.ref (120), .int v1, .int x10, .ref (rowR 121 (mIx v1)), .int v4, .int (v5 + (1 : Int32)), .int v6], [], mk b S9)) rfl rfl ?_
  obtain ⟨x11, ex11, hf⟩ := bnd_ex hf
  rw [← ex11]
  refine msegT C kX10_countFrom 50 1 (g := (true, 23, [.ref (120), .int v1, .int x10, .ref (rowR 121 (mIx v1)), .int v4, .int x11, .int v6], [], mk b S9)) rfl rfl ?_
  exact mfor (L' := [.ref (120), .int v1, .int x10, .ref (rowR 121 (mIx v1)), .int v4, .int x11, .retAddr 0]) ⟨Or.inr rfl, Or.inr rfl, Or.inr rfl, Or.inr rfl, Or.inr rfl, Or.inr rfl, Or.inl rfl, trivial⟩ (Hrc23 _ _ _ _ _ hf true)
theorem bX10_countFrom_23 {d : Nat} (C : mCx p (mR (2 + (d + 1))) s m args meth c G cX10_countFrom RX10 7 false 233 54500 233 54500) (hr : meth.sig.returnType = (some .int)) (hk : meth.locks = false) {b : Bool} {self : Int32 → mT → Option (Int32 × mT)} (Hself : ∀ {v1 : Int32} {S S' : mT} {r : Int32}, self v1 S = some (r, S') → mOk l mX10_countFrom (2 + d) [.ref (120), .int v1] b S (some (.int r)) S') {S' : mT} {r : Int32} : ∀ (k : Nat) (v1 : Int32) (v2 : Int32) (v4 : Int32) (v5 : Int32) (S : mT), fX10_countFrom_23 self k v1 v2 v4 v5 S = some (r, S') → ∀ ok : Bool, mW p l e (mR (2 + (d + 1))) s m args below meth c G 7 233 54500 (mQ below G args s b S' (some (.int r))) (ok, 23, [.ref (120), .int v1, .int v2, .ref (rowR 121 (mIx v1)), .int v4, .int v5, .retAddr 0], [], mk b S) := by
  intro k
  induction k with
  | zero =>
    intro v1 v2 v4 v5 S hf ok
    cases hf
  | succ k ih =>
    intro v1 v2 v4 v5 S hf ok
    unfold fX10_countFrom_23 at hf
    refine msegT C kX10_countFrom 15 3 (g := (true, (if v4 < v5 then 85 else 30), [.ref (120), .int v1, .int v2, .ref (rowR 121 (mIx v1)), .int v4, .int v5, .retAddr 0], [], mk b S)) rfl rfl ?_
    by_cases hc : v4 < v5
    · rw [if_pos hc] at hf ⊢
      refine msegT C kX10_countFrom 51 1 (g := (true, 86, [.ref (120), .int v1, .int v2, .ref (rowR 121 (mIx v1)), .int v4, .int v5, .retAddr 0], [.int v2], mk b S)) rfl rfl ?_
      cases hf
      exact gret_i C hr hk (kX10_countFrom _ (List.mem_of_getElem? (i := 52) rfl)).1
    · rw [if_neg hc] at hf ⊢
      obtain ⟨hok, hf⟩ := grd_ex hf
      refine msegT C kX10_countFrom 18 3 (g := ((kO 120 10 && true), 36, [.ref (120), .int v1, .int v2, .ref (rowR 121 (mIx v1)), .int v4, .int v5, .int (S.1 120 13)], [], mk b S)) rfl hok ?_
      obtain ⟨x5, ex5, hf⟩ := bnd_ex hf
      rw [← ex5]
      obtain ⟨hok, hf⟩ := grd_ex hf
      refine msegT C kX10_countFrom 21 6 (g := ((kO 120 10 && true), (if (S.1 120 12) ≤ (v1 + (1 : Int32)) then 65 else 46), [.ref (120), .int v1, .int v2, .ref (rowR 121 (mIx v1)), .int v4, .int v5, .int x5], [], mk b S)) rfl hok ?_
      by_cases hc : (S.1 120 12) ≤ (v1 + (1 : Int32))
      · rw [if_pos hc] at hf ⊢
        exact mfor (L' := [.ref (120), .int v1, .int v2, .ref (rowR 121 (mIx v1)), .int v4, .int v5, .int x5]) ⟨Or.inr rfl, Or.inr rfl, Or.inr rfl, Or.inr rfl, Or.inr rfl, Or.inr rfl, Or.inr rfl, trivial⟩ (bX10_countFrom_65 C hr hk Hself ih hf true)
      · rw [if_neg hc] at hf ⊢
        obtain ⟨hok, hf⟩ := grd_ex hf
        refine msegT C kX10_countFrom 27 4 (g := ((kO 120 10 && true), 53, [.ref (120), .int v1, .int v2, .ref (rowR 121 (mIx v1)), .int v4, .int v5, .int x5], [.int v5, .int v1, .ref 129], mk b S)) rfl hok ?_
        obtain ⟨S6, hq, hf⟩ := bndV_ex hf
        refine mcall (kd := 0) (vs := [.ref 129, .int v1, .int v5]) (rest := []) (r := none) (h' := mk b S6) (ok' := true) C lkRX10_105 (qX9_setHeads_129 hq) (kX10_countFrom _ (List.mem_of_getElem? (i := 31) rfl)).1 ⟨_, _, rfl, rfl, Nat.le_of_ble_eq_true rfl, _, _, rfl, rfl, rfl⟩ (by show 1 + 1 ≤ 2 + (d + 1); omega) (by show 19 + 4 + 100 * (1) ≤ 100 * (2 + (d + 1)); omega) (Nat.le_refl _) (Nat.le_refl _) (Nat.le_of_ble_eq_true rfl) ?_
        refine msegT C kX10_countFrom 32 4 (g := (true, 60, [.ref (120), .int v1, .int v2, .ref (rowR 121 (mIx v1)), .int v4, .int v5, .int x5], [.int (v1 + (1 : Int32)), .ref (120)], mk b S6)) rfl rfl ?_
        obtain ⟨x8, S7, hq, hf⟩ := bndC_ex hf
        refine mcall (kd := 0) (vs := [.ref (120), .int (v1 + (1 : Int32))]) (rest := []) (r := (some (.int x8))) (h' := mk b S7) (ok' := true) C lkRX10_70 (Hself hq) (kX10_countFrom _ (List.mem_of_getElem? (i := 36) rfl)).1 ⟨_, _, rfl, rfl, Nat.le_of_ble_eq_true rfl, _, _, rfl, rfl, rfl⟩ (by show 2 + d + 1 ≤ 2 + (d + 1); omega) (by show 19 + 7 + 100 * (2 + d) ≤ 100 * (2 + (d + 1)); omega) (Nat.le_refl _) (Nat.le_refl _) (Nat.le_of_ble_eq_true rfl) ?_
        refine msegT C kX10_countFrom 37 1 (g := (true, 65, [.ref (120), .int v1, .int v2, .ref (rowR 121 (mIx v1)), .int v4, .int v5, .int x8], [], mk b S7)) rfl rfl ?_
        exact mfor (L' := [.ref (120), .int v1, .int v2, .ref (rowR 121 (mIx v1)), .int v4, .int v5, .int x8]) ⟨Or.inr rfl, Or.inr rfl, Or.inr rfl, Or.inr rfl, Or.inr rfl, Or.inr rfl, Or.inr rfl, trivial⟩ (bX10_countFrom_65 C hr hk Hself ih hf true)
theorem bX10_countFrom_0 {d : Nat} (C : mCx p (mR (2 + (d + 1))) s m args meth c G cX10_countFrom RX10 7 false 233 54500 233 54500) (hr : meth.sig.returnType = (some .int)) (hk : meth.locks = false) {b : Bool} {self : Int32 → mT → Option (Int32 × mT)} (Hself : ∀ {v1 : Int32} {S S' : mT} {r : Int32}, self v1 S = some (r, S') → mOk l mX10_countFrom (2 + d) [.ref (120), .int v1] b S (some (.int r)) S') {S' : mT} {r : Int32} {v1 : Int32} {S : mT} (hf : fX10_countFrom_0 self v1 S = some (r, S')) (ok : Bool) : mW p l e (mR (2 + (d + 1))) s m args below meth c G 7 233 54500 (mQ below G args s b S' (some (.int r))) (ok, 0, [.ref (120), .int v1, .retAddr 0, .retAddr 0, .retAddr 0, .retAddr 0, .retAddr 0], [], mk b S) := by
  unfold fX10_countFrom_0 at hf
  obtain ⟨hok, hf⟩ := grd_ex hf
  refine msegT C kX10_countFrom 0 9 (g := ((kR 121 v1 && (kO 120 10 && true)), 11, [.ref (120), .int v1, .int (0 : Int32), .ref (rowR 121 (mIx v1)), .retAddr 0, .retAddr 0, .retAddr 0], [.int v1, .ref (120)], mk b S)) rfl hok ?_
  obtain ⟨x2, S1, hq, hf⟩ := bndC_ex hf
  refine mcall (kd := 0) (vs := [.ref (120), .int v1]) (rest := []) (r := (some (.int x2))) (h' := mk b S1) (ok' := true) C lkRX10_99 (qX10_highest hq) (kX10_countFrom _ (List.mem_of_getElem? (i := 9) rfl)).1 ⟨_, _, rfl, rfl, Nat.le_of_ble_eq_true rfl, _, _, rfl, rfl, rfl⟩ (by show 1 + 1 ≤ 2 + (d + 1); omega) (by show 19 + 5 + 100 * (1) ≤ 100 * (2 + (d + 1)); omega) (Nat.le_refl _) (Nat.le_refl _) (Nat.le_of_ble_eq_true rfl) ?_
  refine msegT C kX10_countFrom 10 3 (g := (true, 18, [.ref (120), .int v1, .int (0 : Int32), .ref (rowR 121 (mIx v1)), .int x2, .retAddr 0, .retAddr 0], [.int v1, .ref (120)], mk b S1)) rfl rfl ?_
  obtain ⟨x4, S3, hq, hf⟩ := bndC_ex hf
  refine mcall (kd := 0) (vs := [.ref (120), .int v1]) (rest := []) (r := (some (.int x4))) (h' := mk b S3) (ok' := true) C lkRX10_102 (qX10_lowest hq) (kX10_countFrom _ (List.mem_of_getElem? (i := 13) rfl)).1 ⟨_, _, rfl, rfl, Nat.le_of_ble_eq_true rfl, _, _, rfl, rfl, rfl⟩ (by show 1 + 1 ≤ 2 + (d + 1); omega) (by show 19 + 5 + 100 * (1) ≤ 100 * (2 + (d + 1)); omega) (Nat.le_refl _) (Nat.le_refl _) (Nat.le_of_ble_eq_true rfl) ?_
  refine msegT C kX10_countFrom 14 1 (g := (true, 23, [.ref (120), .int v1, .int (0 : Int32), .ref (rowR 121 (mIx v1)), .int x2, .int x4, .retAddr 0], [], mk b S3)) rfl rfl ?_
  exact mfor (L' := [.ref (120), .int v1, .int (0 : Int32), .ref (rowR 121 (mIx v1)), .int x2, .int x4, .retAddr 0]) ⟨Or.inr rfl, Or.inr rfl, Or.inr rfl, Or.inr rfl, Or.inr rfl, Or.inr rfl, Or.inl rfl, trivial⟩ (bX10_countFrom_23 C hr hk Hself _ _ _ _ _ _ hf true)
theorem qX10_countFrom {b : Bool} : ∀ (d : Nat) {v1 : Int32} {S S' : mT} {r : Int32} (hf : fX10_countFrom d v1 S = some (r, S')), mOk l mX10_countFrom (2 + d) [.ref (120), .int v1] b S (some (.int r)) S' := by
  intro d
  induction d with
  | zero =>
    intro v1 S S' r hf
    cases hf
  | succ d ih =>
    intro v1 S S' r hf
    exact gMet (by decide) (by show 1 ≤ 2 + (d + 1); omega) rfl (Nat.le_of_ble_eq_true rfl) (fun p e s m args below meth c G C hr hk => bX10_countFrom_0 C hr hk ih hf true)
theorem bX10_fewestIn_2 (C : mCx p (mR 1) s m args meth c G cX10_fewestIn RX10 3 false 233 54500 233 54500) (hr : meth.sig.returnType = (some .int)) (hk : meth.locks = false) {b : Bool} {S' : mT} {r : Int32} : ∀ (k : Nat) (v1 : Int32) (v2 : Int32) (S : mT), fX10_fewestIn_2 k v1 v2 S = some (r, S') → ∀ ok : Bool, mW p l e (mR 1) s m args below meth c G 3 233 54500 (mQ below G args s b S' (some (.int r))) (ok, 2, [.ref (120), .int v1, .int v2], [], mk b S) := by
  intro k
  induction k with
  | zero =>
    intro v1 v2 S hf ok
    cases hf
  | succ k ih =>
    intro v1 v2 S hf ok
    unfold fX10_fewestIn_2 at hf
    refine msegT C kX10_fewestIn 2 3 (g := (true, (if (7 : Int32) < v2 then 27 else 8), [.ref (120), .int v1, .int v2], [], mk b S)) rfl rfl ?_
    by_cases hc : (7 : Int32) < v2
    · rw [if_pos hc] at hf ⊢
      refine msegT C kX10_fewestIn 16 1 (g := (true, 28, [.ref (120), .int v1, .int v2], [.int (-1 : Int32)], mk b S)) rfl rfl ?_
      cases hf
      exact gret_i C hr hk (kX10_fewestIn _ (List.mem_of_getElem? (i := 17) rfl)).1
    · rw [if_neg hc] at hf ⊢
      obtain ⟨hok, hf⟩ := grd_ex hf
      refine msegT C kX10_fewestIn 5 7 (g := ((kI (rowR 121 (mIx v1)) v2 && (kR 121 v1 && (kO 120 10 && true))), (if (S.1 (rowR 121 (mIx v1)) (mIx v2)) ≤ 0 then 21 else 19), [.ref (120), .int v1, .int v2], [], mk b S)) rfl hok ?_
      by_cases hc : (S.1 (rowR 121 (mIx v1)) (mIx v2)) ≤ 0
      · rw [if_pos hc] at hf ⊢
        refine msegT C kX10_fewestIn 14 1 (g := (true, 24, [.ref (120), .int v1, .int (v2 + (1 : Int32))], [], mk b S)) rfl rfl ?_
        obtain ⟨x1, ex1, hf⟩ := bnd_ex hf
        rw [← ex1]
        refine msegT C kX10_fewestIn 15 1 (g := (true, 2, [.ref (120), .int v1, .int x1], [], mk b S)) rfl rfl ?_
        exact mfor (L' := [.ref (120), .int v1, .int x1]) ⟨Or.inr rfl, Or.inr rfl, Or.inr rfl, trivial⟩ (ih _ _ _ hf true)
      · rw [if_neg hc] at hf ⊢
        refine msegT C kX10_fewestIn 12 1 (g := (true, 20, [.ref (120), .int v1, .int v2], [.int v2], mk b S)) rfl rfl ?_
        cases hf
        exact gret_i C hr hk (kX10_fewestIn _ (List.mem_of_getElem? (i := 13) rfl)).1
theorem bX10_fewestIn_0 (C : mCx p (mR 1) s m args meth c G cX10_fewestIn RX10 3 false 233 54500 233 54500) (hr : meth.sig.returnType = (some .int)) (hk : meth.locks = false) {b : Bool} {S' : mT} {r : Int32} {v1 : Int32} {S : mT} (hf : fX10_fewestIn v1 S = some (r, S')) (ok : Bool) : mW p l e (mR 1) s m args below meth c G 3 233 54500 (mQ below G args s b S' (some (.int r))) (ok, 0, [.ref (120), .int v1, .retAddr 0], [], mk b S) := by
  unfold fX10_fewestIn at hf
  refine msegT C kX10_fewestIn 0 2 (g := (true, 2, [.ref (120), .int v1, .int (0 : Int32)], [], mk b S)) rfl rfl ?_
  exact mfor (L' := [.ref (120), .int v1, .int (0 : Int32)]) ⟨Or.inr rfl, Or.inr rfl, Or.inr rfl, trivial⟩ (bX10_fewestIn_2 C hr hk _ _ _ _ hf true)
theorem qX10_fewestIn {b : Bool} {v1 : Int32} {S S' : mT} {r : Int32} (hf : fX10_fewestIn v1 S = some (r, S')) : mOk l mX10_fewestIn 1 [.ref (120), .int v1] b S (some (.int r)) S' :=
  gMet (by decide) (Nat.le_of_ble_eq_true rfl) rfl (Nat.le_of_ble_eq_true rfl) (fun p e s m args below meth c G C hr hk => bX10_fewestIn_0 C hr hk hf true)
theorem bX10_gatherFrom_38 {d : Nat} (C : mCx p (mR (2 + (d + 1))) s m args meth c G cX10_gatherFrom RX10 5 false 233 54500 233 54500) (hr : meth.sig.returnType = none) (hk : meth.locks = false) {b : Bool} {self : Int32 → Int32 → mT → Option (mT)} (Hself : ∀ {v1 : Int32} {v2 : Int32} {S S' : mT}, self v1 v2 S = some S' → mOk l mX10_gatherFrom (2 + d) [.ref (120), .int v1, .int v2] b S none S') {S' : mT} {S : mT} (hf : fX10_gatherFrom_38 self S = some S') (ok : Bool) : mW p l e (mR (2 + (d + 1))) s m args below meth c G 5 233 54500 (mQ below G args s b S' none) (ok, 38, [.retAddr 0, .retAddr 0, .retAddr 0, .retAddr 0, .retAddr 0], [], mk b S) := by
  unfold fX10_gatherFrom_38 at hf
  cases hf
  exact gret_v C hr hk (kX10_gatherFrom _ (List.mem_of_getElem? (i := 20) rfl)).1
theorem bX10_gatherFrom_78 {d : Nat} (C : mCx p (mR (2 + (d + 1))) s m args meth c G cX10_gatherFrom RX10 5 false 233 54500 233 54500) (hr : meth.sig.returnType = none) (hk : meth.locks = false) {b : Bool} {self : Int32 → Int32 → mT → Option (mT)} (Hself : ∀ {v1 : Int32} {v2 : Int32} {S S' : mT}, self v1 v2 S = some S' → mOk l mX10_gatherFrom (2 + d) [.ref (120), .int v1, .int v2] b S none S') {S' : mT} {rc52 : Int32 → Int32 → Int32 → Int32 → mT → Option (mT)} (Hrc52 : ∀ (v1 : Int32) (v2 : Int32) (v3 : Int32) (v4 : Int32) (S : mT), rc52 v1 v2 v3 v4 S = some S' → ∀ ok : Bool, mW p l e (mR (2 + (d + 1))) s m args below meth c G 5 233 54500 (mQ below G args s b S' none) (ok, 52, [.ref (120), .int v1, .int v2, .int v3, .int v4], [], mk b S)) {v1 : Int32} {v2 : Int32} {v3 : Int32} {v4 : Int32} {S : mT} (hf : fX10_gatherFrom_78 self rc52 v1 v2 v3 v4 S = some S') (ok : Bool) : mW p l e (mR (2 + (d + 1))) s m args below meth c G 5 233 54500 (mQ below G args s b S' none) (ok, 78, [.ref (120), .int v1, .int v2, .int v3, .int v4], [], mk b S) := by
  unfold fX10_gatherFrom_78 at hf
  refine msegT C kX10_gatherFrom 43 10 (g := (true, 89, [.ref (120), .int v1, .int v2, .int v3, .int v4], [.int (v4 <<< (((3 : Int32) * v1) &&& 31)), .int v2, .int (v1 + (1 : Int32)), .ref (120)], mk b S)) rfl rfl ?_
  refine msegT C kX10_gatherFrom 53 1 (g := (true, 90, [.ref (120), .int v1, .int v2, .int v3, .int v4], [.int (v2 ||| (v4 <<< (((3 : Int32) * v1) &&& 31))), .int (v1 + (1 : Int32)), .ref (120)], mk b S)) rfl rfl ?_
  obtain ⟨S8, hq, hf⟩ := bndV_ex hf
  refine mcall (kd := 0) (vs := [.ref (120), .int (v1 + (1 : Int32)), .int (v2 ||| (v4 <<< (((3 : Int32) * v1) &&& 31)))]) (rest := []) (r := none) (h' := mk b S8) (ok' := true) C lkRX10_128 (Hself hq) (kX10_gatherFrom _ (List.mem_of_getElem? (i := 54) rfl)).1 ⟨_, _, rfl, rfl, Nat.le_of_ble_eq_true rfl, _, _, rfl, rfl, rfl⟩ (by show 2 + d + 1 ≤ 2 + (d + 1); omega) (by show 19 + 5 + 100 * (2 + d) ≤ 100 * (2 + (d + 1)); omega) (Nat.le_refl _) (Nat.le_refl _) (Nat.le_of_ble_eq_true rfl) ?_
  refine msegT C kX10_gatherFrom 55 1 (g := (true, 96, [.ref (120), .int v1, .int v2, .int v3, .int (v4 + (1 : Int32))], [], mk b S8)) rfl rfl ?_
  obtain ⟨x9, ex9, hf⟩ := bnd_ex hf
  rw [← ex9]
  refine msegT C kX10_gatherFrom 56 1 (g := (true, 52, [.ref (120), .int v1, .int v2, .int v3, .int x9], [], mk b S8)) rfl rfl ?_
  exact mfor (L' := [.ref (120), .int v1, .int v2, .int v3, .int x9]) ⟨Or.inr rfl, Or.inr rfl, Or.inr rfl, Or.inr rfl, Or.inr rfl, trivial⟩ (Hrc52 _ _ _ _ _ hf true)
theorem bX10_gatherFrom_52 {d : Nat} (C : mCx p (mR (2 + (d + 1))) s m args meth c G cX10_gatherFrom RX10 5 false 233 54500 233 54500) (hr : meth.sig.returnType = none) (hk : meth.locks = false) {b : Bool} {self : Int32 → Int32 → mT → Option (mT)} (Hself : ∀ {v1 : Int32} {v2 : Int32} {S S' : mT}, self v1 v2 S = some S' → mOk l mX10_gatherFrom (2 + d) [.ref (120), .int v1, .int v2] b S none S') {S' : mT} : ∀ (k : Nat) (v1 : Int32) (v2 : Int32) (v3 : Int32) (v4 : Int32) (S : mT), fX10_gatherFrom_52 self k v1 v2 v3 v4 S = some S' → ∀ ok : Bool, mW p l e (mR (2 + (d + 1))) s m args below meth c G 5 233 54500 (mQ below G args s b S' none) (ok, 52, [.ref (120), .int v1, .int v2, .int v3, .int v4], [], mk b S) := by
  intro k
  induction k with
  | zero =>
    intro v1 v2 v3 v4 S hf ok
    cases hf
  | succ k ih =>
    intro v1 v2 v3 v4 S hf ok
    unfold fX10_gatherFrom_52 at hf
    refine msegT C kX10_gatherFrom 29 3 (g := (true, (if v3 < v4 then 99 else 58), [.ref (120), .int v1, .int v2, .int v3, .int v4], [], mk b S)) rfl rfl ?_
    by_cases hc : v3 < v4
    · rw [if_pos hc] at hf ⊢
      cases hf
      exact gret_v C hr hk (kX10_gatherFrom _ (List.mem_of_getElem? (i := 57) rfl)).1
    · rw [if_neg hc] at hf ⊢
      obtain ⟨hok, hf⟩ := grd_ex hf
      refine msegT C kX10_gatherFrom 32 6 (g := ((kO 120 10 && true), (if (S.1 120 12) ≤ (v1 + (1 : Int32)) then 78 else 68), [.ref (120), .int v1, .int v2, .int v3, .int v4], [], mk b S)) rfl hok ?_
      by_cases hc : (S.1 120 12) ≤ (v1 + (1 : Int32))
      · rw [if_pos hc] at hf ⊢
        exact mfor (L' := [.ref (120), .int v1, .int v2, .int v3, .int v4]) ⟨Or.inr rfl, Or.inr rfl, Or.inr rfl, Or.inr rfl, Or.inr rfl, trivial⟩ (bX10_gatherFrom_78 C hr hk Hself ih hf true)
      · rw [if_neg hc] at hf ⊢
        obtain ⟨hok, hf⟩ := grd_ex hf
        refine msegT C kX10_gatherFrom 38 4 (g := ((kO 120 10 && true), 75, [.ref (120), .int v1, .int v2, .int v3, .int v4], [.int v4, .int v1, .ref 129], mk b S)) rfl hok ?_
        obtain ⟨S7, hq, hf⟩ := bndV_ex hf
        refine mcall (kd := 0) (vs := [.ref 129, .int v1, .int v4]) (rest := []) (r := none) (h' := mk b S7) (ok' := true) C lkRX10_105 (qX9_setHeads_129 hq) (kX10_gatherFrom _ (List.mem_of_getElem? (i := 42) rfl)).1 ⟨_, _, rfl, rfl, Nat.le_of_ble_eq_true rfl, _, _, rfl, rfl, rfl⟩ (by show 1 + 1 ≤ 2 + (d + 1); omega) (by show 19 + 4 + 100 * (1) ≤ 100 * (2 + (d + 1)); omega) (Nat.le_refl _) (Nat.le_refl _) (Nat.le_of_ble_eq_true rfl) ?_
        exact mfor (L' := [.ref (120), .int v1, .int v2, .int v3, .int v4]) ⟨Or.inr rfl, Or.inr rfl, Or.inr rfl, Or.inr rfl, Or.inr rfl, trivial⟩ (bX10_gatherFrom_78 C hr hk Hself ih hf true)
theorem bX10_gatherFrom_0 {d : Nat} (C : mCx p (mR (2 + (d + 1))) s m args meth c G cX10_gatherFrom RX10 5 false 233 54500 233 54500) (hr : meth.sig.returnType = none) (hk : meth.locks = false) {b : Bool} {self : Int32 → Int32 → mT → Option (mT)} (Hself : ∀ {v1 : Int32} {v2 : Int32} {S S' : mT}, self v1 v2 S = some S' → mOk l mX10_gatherFrom (2 + d) [.ref (120), .int v1, .int v2] b S none S') {S' : mT} {v1 : Int32} {v2 : Int32} {S : mT} (hf : fX10_gatherFrom_0 self v1 v2 S = some S') (ok : Bool) : mW p l e (mR (2 + (d + 1))) s m args below meth c G 5 233 54500 (mQ below G args s b S' none) (ok, 0, [.ref (120), .int v1, .int v2, .retAddr 0, .retAddr 0], [], mk b S) := by
  unfold fX10_gatherFrom_0 at hf
  obtain ⟨hok, hf⟩ := grd_ex hf
  refine msegT C kX10_gatherFrom 0 4 (g := ((kO 120 10 && true), (if v1 < (S.1 120 9) then 39 else 8), [.ref (120), .int v1, .int v2, .retAddr 0, .retAddr 0], [], mk b S)) rfl hok ?_
  by_cases hc : v1 < (S.1 120 9)
  · rw [if_pos hc] at hf ⊢
    refine msegT C kX10_gatherFrom 21 2 (g := (true, 41, [.ref (120), .int v1, .int v2, .retAddr 0, .retAddr 0], [.int v1, .ref (120)], mk b S)) rfl rfl ?_
    obtain ⟨x2, S1, hq, hf⟩ := bndC_ex hf
    refine mcall (kd := 0) (vs := [.ref (120), .int v1]) (rest := []) (r := (some (.int x2))) (h' := mk b S1) (ok' := true) C lkRX10_99 (qX10_highest hq) (kX10_gatherFrom _ (List.mem_of_getElem? (i := 23) rfl)).1 ⟨_, _, rfl, rfl, Nat.le_of_ble_eq_true rfl, _, _, rfl, rfl, rfl⟩ (by show 1 + 1 ≤ 2 + (d + 1); omega) (by show 19 + 5 + 100 * (1) ≤ 100 * (2 + (d + 1)); omega) (Nat.le_refl _) (Nat.le_refl _) (Nat.le_of_ble_eq_true rfl) ?_
    refine msegT C kX10_gatherFrom 24 3 (g := (true, 47, [.ref (120), .int v1, .int v2, .int x2, .retAddr 0], [.int v1, .ref (120)], mk b S1)) rfl rfl ?_
    obtain ⟨x4, S3, hq, hf⟩ := bndC_ex hf
    refine mcall (kd := 0) (vs := [.ref (120), .int v1]) (rest := []) (r := (some (.int x4))) (h' := mk b S3) (ok' := true) C lkRX10_102 (qX10_lowest hq) (kX10_gatherFrom _ (List.mem_of_getElem? (i := 27) rfl)).1 ⟨_, _, rfl, rfl, Nat.le_of_ble_eq_true rfl, _, _, rfl, rfl, rfl⟩ (by show 1 + 1 ≤ 2 + (d + 1); omega) (by show 19 + 5 + 100 * (1) ≤ 100 * (2 + (d + 1)); omega) (Nat.le_refl _) (Nat.le_refl _) (Nat.le_of_ble_eq_true rfl) ?_
    refine msegT C kX10_gatherFrom 28 1 (g := (true, 52, [.ref (120), .int v1, .int v2, .int x2, .int x4], [], mk b S3)) rfl rfl ?_
    exact mfor (L' := [.ref (120), .int v1, .int v2, .int x2, .int x4]) ⟨Or.inr rfl, Or.inr rfl, Or.inr rfl, Or.inr rfl, Or.inr rfl, trivial⟩ (bX10_gatherFrom_52 C hr hk Hself _ _ _ _ _ _ hf true)
  · rw [if_neg hc] at hf ⊢
    obtain ⟨hok, hf⟩ := grd_ex hf
    refine msegT C kX10_gatherFrom 4 4 (g := ((kO 120 10 && true), (if (4096 : Int32) ≤ (S.1 120 6) then 38 else 18), [.ref (120), .int v1, .int v2, .retAddr 0, .retAddr 0], [], mk b S)) rfl hok ?_
    by_cases hc : (4096 : Int32) ≤ (S.1 120 6)
    · rw [if_pos hc] at hf ⊢
      exact mfor (L' := [.retAddr 0, .retAddr 0, .retAddr 0, .retAddr 0, .retAddr 0]) ⟨Or.inl rfl, Or.inl rfl, Or.inl rfl, Or.inl rfl, Or.inl rfl, trivial⟩ (bX10_gatherFrom_38 C hr hk Hself hf true)
    · rw [if_neg hc] at hf ⊢
      obtain ⟨hok, hf⟩ := grd_ex hf
      refine msegT C kX10_gatherFrom 8 6 (g := ((kI 138 (S.1 120 6) && (kO 120 10 && (kO 120 10 && true))), 28, [.ref (120), .int v1, .int v2, .retAddr 0, .retAddr 0], [], mk b (sI S 138 (mIx (S.1 120 6)) v2))) rfl hok ?_
      obtain ⟨S5, eS5, hf⟩ := bnd_ex hf
      rw [← eS5]
      obtain ⟨hok, hf⟩ := grd_ex hf
      refine msegT C kX10_gatherFrom 14 6 (g := ((kO 120 10 && (kO 120 10 && true)), 38, [.ref (120), .int v1, .int v2, .retAddr 0, .retAddr 0], [], mk b (sI S5 120 6 ((S5.1 120 6) + (1 : Int32))))) rfl hok ?_
      obtain ⟨S6, eS6, hf⟩ := bnd_ex hf
      rw [← eS6]
      exact mfor (L' := [.retAddr 0, .retAddr 0, .retAddr 0, .retAddr 0, .retAddr 0]) ⟨Or.inl rfl, Or.inl rfl, Or.inl rfl, Or.inl rfl, Or.inl rfl, trivial⟩ (bX10_gatherFrom_38 C hr hk Hself hf true)
theorem qX10_gatherFrom {b : Bool} : ∀ (d : Nat) {v1 : Int32} {v2 : Int32} {S S' : mT} (hf : fX10_gatherFrom d v1 v2 S = some S'), mOk l mX10_gatherFrom (2 + d) [.ref (120), .int v1, .int v2] b S none S' := by
  intro d
  induction d with
  | zero =>
    intro v1 v2 S S' hf
    cases hf
  | succ d ih =>
    intro v1 v2 S S' hf
    exact gMet (by decide) (by show 1 ≤ 2 + (d + 1); omega) rfl (Nat.le_of_ble_eq_true rfl) (fun p e s m args below meth c G C hr hk => bX10_gatherFrom_0 C hr hk ih hf true)
theorem bX10_partOf_38 (C : mCx p (mR 1) s m args meth c G cX10_partOf RX10 5 false 233 54500 233 54500) (hr : meth.sig.returnType = (some .int)) (hk : meth.locks = false) {b : Bool} {S' : mT} {r : Int32} {rc5 : Int32 → Int32 → Int32 → Int32 → mT → Option (Int32 × mT)} (Hrc5 : ∀ (v1 : Int32) (v2 : Int32) (v3 : Int32) (v4 : Int32) (S : mT), rc5 v1 v2 v3 v4 S = some (r, S') → ∀ ok : Bool, mW p l e (mR 1) s m args below meth c G 5 233 54500 (mQ below G args s b S' (some (.int r))) (ok, 5, [.ref (120), .int v1, .int v2, .int v3, .int v4], [], mk b S)) {v1 : Int32} {v2 : Int32} {v3 : Int32} {v4 : Int32} {S : mT} (hf : fX10_partOf_38 rc5 v1 v2 v3 v4 S = some (r, S')) (ok : Bool) : mW p l e (mR 1) s m args below meth c G 5 233 54500 (mQ below G args s b S' (some (.int r))) (ok, 38, [.ref (120), .int v1, .int v2, .int v3, .int v4], [], mk b S) := by
  unfold fX10_partOf_38 at hf
  refine msegT C kX10_partOf 27 1 (g := (true, 41, [.ref (120), .int v1, .int v2, .int v3, .int (v4 + (1 : Int32))], [], mk b S)) rfl rfl ?_
  obtain ⟨x2, ex2, hf⟩ := bnd_ex hf
  rw [← ex2]
  refine msegT C kX10_partOf 28 1 (g := (true, 5, [.ref (120), .int v1, .int v2, .int v3, .int x2], [], mk b S)) rfl rfl ?_
  exact mfor (L' := [.ref (120), .int v1, .int v2, .int v3, .int x2]) ⟨Or.inr rfl, Or.inr rfl, Or.inr rfl, Or.inr rfl, Or.inr rfl, trivial⟩ (Hrc5 _ _ _ _ _ hf true)
theorem bX10_partOf_5 (C : mCx p (mR 1) s m args meth c G cX10_partOf RX10 5 false 233 54500 233 54500) (hr : meth.sig.returnType = (some .int)) (hk : meth.locks = false) {b : Bool} {S' : mT} {r : Int32} : ∀ (k : Nat) (v1 : Int32) (v2 : Int32) (v3 : Int32) (v4 : Int32) (S : mT), fX10_partOf_5 k v1 v2 v3 v4 S = some (r, S') → ∀ ok : Bool, mW p l e (mR 1) s m args below meth c G 5 233 54500 (mQ below G args s b S' (some (.int r))) (ok, 5, [.ref (120), .int v1, .int v2, .int v3, .int v4], [], mk b S) := by
  intro k
  induction k with
  | zero =>
    intro v1 v2 v3 v4 S hf ok
    cases hf
  | succ k ih =>
    intro v1 v2 v3 v4 S hf ok
    unfold fX10_partOf_5 at hf
    obtain ⟨hok, hf⟩ := grd_ex hf
    refine msegT C kX10_partOf 4 4 (g := ((kO 120 10 && true), (if (S.1 120 9) ≤ v4 then 44 else 14), [.ref (120), .int v1, .int v2, .int v3, .int v4], [], mk b S)) rfl hok ?_
    by_cases hc : (S.1 120 9) ≤ v4
    · rw [if_pos hc] at hf ⊢
      refine msegT C kX10_partOf 29 3 (g := (true, 49, [.ref (120), .int v1, .int v2, .int v3, .int v4], [.int (v3 &&& (4095 : Int32))], mk b S)) rfl rfl ?_
      cases hf
      exact gret_i C hr hk (kX10_partOf _ (List.mem_of_getElem? (i := 32) rfl)).1
    · rw [if_neg hc] at hf ⊢
      refine msegT C kX10_partOf 8 7 (g := (true, (if ((v2 >>> (v4 &&& 31)) &&& (1 : Int32)) = (1 : Int32) then 24 else 38), [.ref (120), .int v1, .int v2, .int v3, .int v4], [], mk b S)) rfl rfl ?_
      by_cases hc : ((v2 >>> (v4 &&& 31)) &&& (1 : Int32)) = (1 : Int32)
      · rw [if_pos hc] at hf ⊢
        refine msegT C kX10_partOf 15 10 (g := (true, 36, [.ref (120), .int v1, .int v2, .int v3, .int v4], [.int ((v1 >>> (((3 : Int32) * v4) &&& 31)) &&& (7 : Int32)), .int (v3 <<< ((3 : Int32) &&& 31))], mk b S)) rfl rfl ?_
        refine msegT C kX10_partOf 25 2 (g := (true, 38, [.ref (120), .int v1, .int v2, .int ((v3 <<< ((3 : Int32) &&& 31)) ||| ((v1 >>> (((3 : Int32) * v4) &&& 31)) &&& (7 : Int32))), .int v4], [], mk b S)) rfl rfl ?_
        obtain ⟨x1, ex1, hf⟩ := bnd_ex hf
        rw [← ex1]
        exact mfor (L' := [.ref (120), .int v1, .int v2, .int x1, .int v4]) ⟨Or.inr rfl, Or.inr rfl, Or.inr rfl, Or.inr rfl, Or.inr rfl, trivial⟩ (bX10_partOf_38 C hr hk ih hf true)
      · rw [if_neg hc] at hf ⊢
        exact mfor (L' := [.ref (120), .int v1, .int v2, .int v3, .int v4]) ⟨Or.inr rfl, Or.inr rfl, Or.inr rfl, Or.inr rfl, Or.inr rfl, trivial⟩ (bX10_partOf_38 C hr hk ih hf true)
theorem bX10_partOf_0 (C : mCx p (mR 1) s m args meth c G cX10_partOf RX10 5 false 233 54500 233 54500) (hr : meth.sig.returnType = (some .int)) (hk : meth.locks = false) {b : Bool} {S' : mT} {r : Int32} {v1 : Int32} {v2 : Int32} {S : mT} (hf : fX10_partOf v1 v2 S = some (r, S')) (ok : Bool) : mW p l e (mR 1) s m args below meth c G 5 233 54500 (mQ below G args s b S' (some (.int r))) (ok, 0, [.ref (120), .int v1, .int v2, .retAddr 0, .retAddr 0], [], mk b S) := by
  unfold fX10_partOf at hf
  refine msegT C kX10_partOf 0 4 (g := (true, 5, [.ref (120), .int v1, .int v2, .int (0 : Int32), .int (0 : Int32)], [], mk b S)) rfl rfl ?_
  exact mfor (L' := [.ref (120), .int v1, .int v2, .int (0 : Int32), .int (0 : Int32)]) ⟨Or.inr rfl, Or.inr rfl, Or.inr rfl, Or.inr rfl, Or.inr rfl, trivial⟩ (bX10_partOf_5 C hr hk _ _ _ _ _ _ hf true)
theorem qX10_partOf {b : Bool} {v1 : Int32} {v2 : Int32} {S S' : mT} {r : Int32} (hf : fX10_partOf v1 v2 S = some (r, S')) : mOk l mX10_partOf 1 [.ref (120), .int v1, .int v2] b S (some (.int r)) S' :=
  gMet (by decide) (Nat.le_of_ble_eq_true rfl) rfl (Nat.le_of_ble_eq_true rfl) (fun p e s m args below meth c G C hr hk => bX10_partOf_0 C hr hk hf true)
theorem bX10_tellsApart_12 (C : mCx p (mR 2) s m args meth c G cX10_tellsApart RX10 4 false 233 54500 233 54500) (hr : meth.sig.returnType = (some .boolean)) (hk : meth.locks = false) {b : Bool} {S' : mT} {r : Int32} : ∀ (k : Nat) (v1 : Int32) (v2 : Int32) (S : mT), fX10_tellsApart_12 k v1 v2 S = some (r, S') → ∀ ok : Bool, mW p l e (mR 2) s m args below meth c G 4 233 54500 (mQ below G args s b S' (some (.int r))) (ok, 12, [.ref (120), .int v1, .int v2, .retAddr 0], [], mk b S) := by
  intro k
  induction k with
  | zero =>
    intro v1 v2 S hf ok
    cases hf
  | succ k ih =>
    intro v1 v2 S hf ok
    unfold fX10_tellsApart_12 at hf
    obtain ⟨hok, hf⟩ := grd_ex hf
    refine msegT C kX10_tellsApart 8 4 (g := ((kO 120 10 && true), (if (S.1 120 6) ≤ v2 then 63 else 20), [.ref (120), .int v1, .int v2, .retAddr 0], [], mk b S)) rfl hok ?_
    by_cases hc : (S.1 120 6) ≤ v2
    · rw [if_pos hc] at hf ⊢
      refine msegT C kX10_tellsApart 37 1 (g := (true, 64, [.ref (120), .int v1, .int v2, .retAddr 0], [.int (1 : Int32)], mk b S)) rfl rfl ?_
      cases hf
      exact gret_z C hr hk (by decide) (kX10_tellsApart _ (List.mem_of_getElem? (i := 38) rfl)).1
    · rw [if_neg hc] at hf ⊢
      obtain ⟨hok, hf⟩ := grd_ex hf
      refine msegT C kX10_tellsApart 12 6 (g := ((kI 138 v2 && (kO 120 10 && true)), 28, [.ref (120), .int v1, .int v2, .retAddr 0], [.int v1, .int (S.1 138 (mIx v2)), .ref (120)], mk b S)) rfl hok ?_
      obtain ⟨x3, S2, hq, hf⟩ := bndC_ex hf
      refine mcall (kd := 0) (vs := [.ref (120), .int (S.1 138 (mIx v2)), .int v1]) (rest := []) (r := (some (.int x3))) (h' := mk b S2) (ok' := true) C lkRX10_143 (qX10_partOf hq) (kX10_tellsApart _ (List.mem_of_getElem? (i := 18) rfl)).1 ⟨_, _, rfl, rfl, Nat.le_of_ble_eq_true rfl, _, _, rfl, rfl, rfl⟩ (Nat.le_of_ble_eq_true rfl) (Nat.le_of_ble_eq_true rfl) (Nat.le_refl _) (Nat.le_refl _) (Nat.le_of_ble_eq_true rfl) ?_
      obtain ⟨hok, hf⟩ := grd_ex hf
      refine msegT C kX10_tellsApart 19 8 (g := ((kO 120 10 && (kI 139 x3 && (kO 120 10 && true))), (if (S2.1 139 (mIx x3)) = (S2.1 120 7) then 45 else 47), [.ref (120), .int v1, .int v2, .int x3], [], mk b S2)) rfl hok ?_
      by_cases hc : (S2.1 139 (mIx x3)) = (S2.1 120 7)
      · rw [if_pos hc] at hf ⊢
        refine msegT C kX10_tellsApart 27 1 (g := (true, 46, [.ref (120), .int v1, .int v2, .int x3], [.int (0 : Int32)], mk b S2)) rfl rfl ?_
        cases hf
        exact gret_z C hr hk (by decide) (kX10_tellsApart _ (List.mem_of_getElem? (i := 28) rfl)).1
      · rw [if_neg hc] at hf ⊢
        obtain ⟨hok, hf⟩ := grd_ex hf
        refine msegT C kX10_tellsApart 29 6 (g := ((kI 139 x3 && (kO 120 10 && (kO 120 10 && true))), 57, [.ref (120), .int v1, .int v2, .int x3], [], mk b (sI S2 139 (mIx x3) (S2.1 120 7)))) rfl hok ?_
        obtain ⟨S4, eS4, hf⟩ := bnd_ex hf
        rw [← eS4]
        refine msegT C kX10_tellsApart 35 1 (g := (true, 60, [.ref (120), .int v1, .int (v2 + (1 : Int32)), .int x3], [], mk b S4)) rfl rfl ?_
        obtain ⟨x5, ex5, hf⟩ := bnd_ex hf
        rw [← ex5]
        refine msegT C kX10_tellsApart 36 1 (g := (true, 12, [.ref (120), .int v1, .int x5, .int x3], [], mk b S4)) rfl rfl ?_
        exact mfor (L' := [.ref (120), .int v1, .int x5, .retAddr 0]) ⟨Or.inr rfl, Or.inr rfl, Or.inr rfl, Or.inl rfl, trivial⟩ (ih _ _ _ hf true)
theorem bX10_tellsApart_0 (C : mCx p (mR 2) s m args meth c G cX10_tellsApart RX10 4 false 233 54500 233 54500) (hr : meth.sig.returnType = (some .boolean)) (hk : meth.locks = false) {b : Bool} {S' : mT} {r : Int32} {v1 : Int32} {S : mT} (hf : fX10_tellsApart v1 S = some (r, S')) (ok : Bool) : mW p l e (mR 2) s m args below meth c G 4 233 54500 (mQ below G args s b S' (some (.int r))) (ok, 0, [.ref (120), .int v1, .retAddr 0, .retAddr 0], [], mk b S) := by
  unfold fX10_tellsApart at hf
  obtain ⟨hok, hf⟩ := grd_ex hf
  refine msegT C kX10_tellsApart 0 6 (g := ((kO 120 10 && (kO 120 10 && true)), 10, [.ref (120), .int v1, .retAddr 0, .retAddr 0], [], mk b (sI S 120 7 ((S.1 120 7) + (1 : Int32))))) rfl hok ?_
  obtain ⟨S1, eS1, hf⟩ := bnd_ex hf
  rw [← eS1]
  refine msegT C kX10_tellsApart 6 2 (g := (true, 12, [.ref (120), .int v1, .int (0 : Int32), .retAddr 0], [], mk b S1)) rfl rfl ?_
  exact mfor (L' := [.ref (120), .int v1, .int (0 : Int32), .retAddr 0]) ⟨Or.inr rfl, Or.inr rfl, Or.inr rfl, Or.inl rfl, trivial⟩ (bX10_tellsApart_12 C hr hk _ _ _ _ hf true)
theorem qX10_tellsApart {b : Bool} {v1 : Int32} {S S' : mT} {r : Int32} (hf : fX10_tellsApart v1 S = some (r, S')) : mOk l mX10_tellsApart 2 [.ref (120), .int v1] b S (some (.int r)) S' :=
  gMet (by decide) (Nat.le_of_ble_eq_true rfl) rfl (Nat.le_of_ble_eq_true rfl) (fun p e s m args below meth c G C hr hk => bX10_tellsApart_0 C hr hk hf true)
theorem bX10_findTelling_33 (C : mCx p (mR 19) s m args meth c G cX10_findTelling RX10 4 false 233 54500 233 54500) (hr : meth.sig.returnType = (some .int)) (hk : meth.locks = false) {b : Bool} {S' : mT} {r : Int32} {v1 : Int32} {S : mT} (hf : fX10_findTelling_33 v1 S = some (r, S')) (ok : Bool) : mW p l e (mR 19) s m args below meth c G 4 233 54500 (mQ below G args s b S' (some (.int r))) (ok, 33, [.retAddr 0, .int v1, .retAddr 0, .retAddr 0], [], mk b S) := by
  unfold fX10_findTelling_33 at hf
  refine msegT C kX10_findTelling 21 1 (g := (true, 34, [.retAddr 0, .int v1, .retAddr 0, .retAddr 0], [.int v1], mk b S)) rfl rfl ?_
  cases hf
  exact gret_i C hr hk (kX10_findTelling _ (List.mem_of_getElem? (i := 22) rfl)).1
theorem bX10_findTelling_93 (C : mCx p (mR 19) s m args meth c G cX10_findTelling RX10 4 false 233 54500 233 54500) (hr : meth.sig.returnType = (some .int)) (hk : meth.locks = false) {b : Bool} {S' : mT} {r : Int32} {rc48 : Int32 → Int32 → mT → Option (Int32 × mT)} (Hrc48 : ∀ (v1 : Int32) (v2 : Int32) (S : mT), rc48 v1 v2 S = some (r, S') → ∀ ok : Bool, mW p l e (mR 19) s m args below meth c G 4 233 54500 (mQ below G args s b S' (some (.int r))) (ok, 48, [.ref (120), .int v1, .int v2, .retAddr 0], [], mk b S)) {rc58 : Int32 → Int32 → Int32 → mT → Option (Int32 × mT)} (Hrc58 : ∀ (v1 : Int32) (v2 : Int32) (v3 : Int32) (S : mT), rc58 v1 v2 v3 S = some (r, S') → ∀ ok : Bool, mW p l e (mR 19) s m args below meth c G 4 233 54500 (mQ below G args s b S' (some (.int r))) (ok, 58, [.ref (120), .int v1, .int v2, .int v3], [], mk b S)) {v1 : Int32} {v2 : Int32} {v3 : Int32} {S : mT} (hf : fX10_findTelling_93 rc48 rc58 v1 v2 v3 S = some (r, S')) (ok : Bool) : mW p l e (mR 19) s m args below meth c G 4 233 54500 (mQ below G args s b S' (some (.int r))) (ok, 93, [.ref (120), .int v1, .int v2, .int v3], [], mk b S) := by
  unfold fX10_findTelling_93 at hf
  refine msegT C kX10_findTelling 59 1 (g := (true, 96, [.ref (120), .int v1, .int v2, .int (v3 + (1 : Int32))], [], mk b S)) rfl rfl ?_
  obtain ⟨x9, ex9, hf⟩ := bnd_ex hf
  rw [← ex9]
  refine msegT C kX10_findTelling 60 1 (g := (true, 58, [.ref (120), .int v1, .int v2, .int x9], [], mk b S)) rfl rfl ?_
  exact mfor (L' := [.ref (120), .int v1, .int v2, .int x9]) ⟨Or.inr rfl, Or.inr rfl, Or.inr rfl, Or.inr rfl, trivial⟩ (Hrc58 _ _ _ _ hf true)
theorem bX10_findTelling_99 (C : mCx p (mR 19) s m args meth c G cX10_findTelling RX10 4 false 233 54500 233 54500) (hr : meth.sig.returnType = (some .int)) (hk : meth.locks = false) {b : Bool} {S' : mT} {r : Int32} {rc48 : Int32 → Int32 → mT → Option (Int32 × mT)} (Hrc48 : ∀ (v1 : Int32) (v2 : Int32) (S : mT), rc48 v1 v2 S = some (r, S') → ∀ ok : Bool, mW p l e (mR 19) s m args below meth c G 4 233 54500 (mQ below G args s b S' (some (.int r))) (ok, 48, [.ref (120), .int v1, .int v2, .retAddr 0], [], mk b S)) {v1 : Int32} {v2 : Int32} {S : mT} (hf : fX10_findTelling_99 rc48 v1 v2 S = some (r, S')) (ok : Bool) : mW p l e (mR 19) s m args below meth c G 4 233 54500 (mQ below G args s b S' (some (.int r))) (ok, 99, [.ref (120), .int v1, .int v2, .retAddr 0], [], mk b S) := by
  unfold fX10_findTelling_99 at hf
  refine msegT C kX10_findTelling 61 1 (g := (true, 102, [.ref (120), .int v1, .int (v2 + (1 : Int32)), .retAddr 0], [], mk b S)) rfl rfl ?_
  obtain ⟨x8, ex8, hf⟩ := bnd_ex hf
  rw [← ex8]
  refine msegT C kX10_findTelling 62 1 (g := (true, 48, [.ref (120), .int v1, .int x8, .retAddr 0], [], mk b S)) rfl rfl ?_
  exact mfor (L' := [.ref (120), .int v1, .int x8, .retAddr 0]) ⟨Or.inr rfl, Or.inr rfl, Or.inr rfl, Or.inl rfl, trivial⟩ (Hrc48 _ _ _ hf true)
theorem bX10_findTelling_58 (C : mCx p (mR 19) s m args meth c G cX10_findTelling RX10 4 false 233 54500 233 54500) (hr : meth.sig.returnType = (some .int)) (hk : meth.locks = false) {b : Bool} {S' : mT} {r : Int32} {rc48 : Int32 → Int32 → mT → Option (Int32 × mT)} (Hrc48 : ∀ (v1 : Int32) (v2 : Int32) (S : mT), rc48 v1 v2 S = some (r, S') → ∀ ok : Bool, mW p l e (mR 19) s m args below meth c G 4 233 54500 (mQ below G args s b S' (some (.int r))) (ok, 48, [.ref (120), .int v1, .int v2, .retAddr 0], [], mk b S)) : ∀ (k : Nat) (v1 : Int32) (v2 : Int32) (v3 : Int32) (S : mT), fX10_findTelling_58 rc48 k v1 v2 v3 S = some (r, S') → ∀ ok : Bool, mW p l e (mR 19) s m args below meth c G 4 233 54500 (mQ below G args s b S' (some (.int r))) (ok, 58, [.ref (120), .int v1, .int v2, .int v3], [], mk b S) := by
  intro k
  induction k with
  | zero =>
    intro v1 v2 v3 S hf ok
    cases hf
  | succ k ih =>
    intro v1 v2 v3 S hf ok
    unfold fX10_findTelling_58 at hf
    refine msegT C kX10_findTelling 38 3 (g := (true, (if v1 ≤ v3 then 99 else 63), [.ref (120), .int v1, .int v2, .int v3], [], mk b S)) rfl rfl ?_
    by_cases hc : v1 ≤ v3
    · rw [if_pos hc] at hf ⊢
      exact mfor (L' := [.ref (120), .int v1, .int v2, .retAddr 0]) ⟨Or.inr rfl, Or.inr rfl, Or.inr rfl, Or.inl rfl, trivial⟩ (bX10_findTelling_99 C hr hk Hrc48 hf true)
    · rw [if_neg hc] at hf ⊢
      obtain ⟨hok, hf⟩ := grd_ex hf
      refine msegT C kX10_findTelling 41 8 (g := ((kO 120 10 && true), (if ((1 : Int32) <<< (((3 : Int32) * v2) &&& 31)) < (S.1 120 8) then 99 else 75), [.ref (120), .int v1, .int v2, .int v3], [], mk b S)) rfl hok ?_
      by_cases hc : ((1 : Int32) <<< (((3 : Int32) * v2) &&& 31)) < (S.1 120 8)
      · rw [if_pos hc] at hf ⊢
        exact mfor (L' := [.ref (120), .int v1, .int v2, .retAddr 0]) ⟨Or.inr rfl, Or.inr rfl, Or.inr rfl, Or.inl rfl, trivial⟩ (bX10_findTelling_99 C hr hk Hrc48 hf true)
      · rw [if_neg hc] at hf ⊢
        refine msegT C kX10_findTelling 49 1 (g := (true, 76, [.ref (120), .int v1, .int v2, .int v3], [.int v3], mk b S)) rfl rfl ?_
        obtain ⟨x5, S4, hq, hf⟩ := bndC_ex hf
        refine mcall (kd := 1) (vs := [.int v3]) (rest := []) (r := (some (.int x5))) (h' := mk b S4) (ok' := true) C lkRX10_131 (qJ6_bitCount_0f7a4 hq) (kX10_findTelling _ (List.mem_of_getElem? (i := 50) rfl)).1 rfl (Nat.le_of_ble_eq_true rfl) (Nat.le_of_ble_eq_true rfl) (Nat.le_refl _) (Nat.le_refl _) (Nat.le_of_ble_eq_true rfl) ?_
        refine msegT C kX10_findTelling 51 2 (g := (true, (if x5 = v2 then 83 else 93), [.ref (120), .int v1, .int v2, .int v3], [], mk b S4)) rfl rfl ?_
        by_cases hc : x5 = v2
        · rw [if_pos hc] at hf ⊢
          refine msegT C kX10_findTelling 53 2 (g := (true, 85, [.ref (120), .int v1, .int v2, .int v3], [.int v3, .ref (120)], mk b S4)) rfl rfl ?_
          obtain ⟨x7, S6, hq, hf⟩ := bndC_ex hf
          refine mcall (kd := 0) (vs := [.ref (120), .int v3]) (rest := []) (r := (some (.int x7))) (h' := mk b S6) (ok' := true) C lkRX10_136 (qX10_tellsApart hq) (kX10_findTelling _ (List.mem_of_getElem? (i := 55) rfl)).1 ⟨_, _, rfl, rfl, Nat.le_of_ble_eq_true rfl, _, _, rfl, rfl, rfl⟩ (Nat.le_of_ble_eq_true rfl) (Nat.le_of_ble_eq_true rfl) (Nat.le_refl _) (Nat.le_refl _) (Nat.le_of_ble_eq_true rfl) ?_
          refine msegT C kX10_findTelling 56 1 (g := (true, (if x7 = 0 then 93 else 91), [.ref (120), .int v1, .int v2, .int v3], [], mk b S6)) rfl rfl ?_
          by_cases hc : x7 = 0
          · rw [if_pos hc] at hf ⊢
            exact mfor (L' := [.ref (120), .int v1, .int v2, .int v3]) ⟨Or.inr rfl, Or.inr rfl, Or.inr rfl, Or.inr rfl, trivial⟩ (bX10_findTelling_93 C hr hk Hrc48 ih hf true)
          · rw [if_neg hc] at hf ⊢
            refine msegT C kX10_findTelling 57 1 (g := (true, 92, [.ref (120), .int v1, .int v2, .int v3], [.int v3], mk b S6)) rfl rfl ?_
            cases hf
            exact gret_i C hr hk (kX10_findTelling _ (List.mem_of_getElem? (i := 58) rfl)).1
        · rw [if_neg hc] at hf ⊢
          exact mfor (L' := [.ref (120), .int v1, .int v2, .int v3]) ⟨Or.inr rfl, Or.inr rfl, Or.inr rfl, Or.inr rfl, trivial⟩ (bX10_findTelling_93 C hr hk Hrc48 ih hf true)
theorem bX10_findTelling_48 (C : mCx p (mR 19) s m args meth c G cX10_findTelling RX10 4 false 233 54500 233 54500) (hr : meth.sig.returnType = (some .int)) (hk : meth.locks = false) {b : Bool} {S' : mT} {r : Int32} : ∀ (k : Nat) (v1 : Int32) (v2 : Int32) (S : mT), fX10_findTelling_48 k v1 v2 S = some (r, S') → ∀ ok : Bool, mW p l e (mR 19) s m args below meth c G 4 233 54500 (mQ below G args s b S' (some (.int r))) (ok, 48, [.ref (120), .int v1, .int v2, .retAddr 0], [], mk b S) := by
  intro k
  induction k with
  | zero =>
    intro v1 v2 S hf ok
    cases hf
  | succ k ih =>
    intro v1 v2 S hf ok
    unfold fX10_findTelling_48 at hf
    obtain ⟨hok, hf⟩ := grd_ex hf
    refine msegT C kX10_findTelling 32 4 (g := ((kO 120 10 && true), (if (S.1 120 9) ≤ v2 then 105 else 56), [.ref (120), .int v1, .int v2, .retAddr 0], [], mk b S)) rfl hok ?_
    by_cases hc : (S.1 120 9) ≤ v2
    · rw [if_pos hc] at hf ⊢
      refine msegT C kX10_findTelling 63 1 (g := (true, 106, [.ref (120), .int v1, .int v2, .retAddr 0], [.int v1], mk b S)) rfl rfl ?_
      cases hf
      exact gret_i C hr hk (kX10_findTelling _ (List.mem_of_getElem? (i := 64) rfl)).1
    · rw [if_neg hc] at hf ⊢
      refine msegT C kX10_findTelling 36 2 (g := (true, 58, [.ref (120), .int v1, .int v2, .int (0 : Int32)], [], mk b S)) rfl rfl ?_
      exact mfor (L' := [.ref (120), .int v1, .int v2, .int (0 : Int32)]) ⟨Or.inr rfl, Or.inr rfl, Or.inr rfl, Or.inr rfl, trivial⟩ (bX10_findTelling_58 C hr hk ih _ _ _ _ _ hf true)
theorem bX10_findTelling_0 (C : mCx p (mR 19) s m args meth c G cX10_findTelling RX10 4 false 233 54500 233 54500) (hr : meth.sig.returnType = (some .int)) (hk : meth.locks = false) {b : Bool} {S' : mT} {r : Int32} {S : mT} (hf : fX10_findTelling S = some (r, S')) (ok : Bool) : mW p l e (mR 19) s m args below meth c G 4 233 54500 (mQ below G args s b S' (some (.int r))) (ok, 0, [.ref (120), .retAddr 0, .retAddr 0, .retAddr 0], [], mk b S) := by
  unfold fX10_findTelling at hf
  obtain ⟨hok, hf⟩ := grd_ex hf
  refine msegT C kX10_findTelling 0 7 (g := ((kO 120 10 && true), 9, [.ref (120), .int (((1 : Int32) <<< ((S.1 120 9) &&& 31)) - (1 : Int32)), .retAddr 0, .retAddr 0], [], mk b S)) rfl hok ?_
  obtain ⟨x1, ex1, hf⟩ := bnd_ex hf
  rw [← ex1]
  obtain ⟨hok, hf⟩ := grd_ex hf
  refine msegT C kX10_findTelling 7 3 (g := ((kO 120 10 && true), (if (S.1 120 9) = 0 then 33 else 16), [.ref (120), .int x1, .retAddr 0, .retAddr 0], [], mk b S)) rfl hok ?_
  by_cases hc : (S.1 120 9) = 0
  · rw [if_pos hc] at hf ⊢
    exact mfor (L' := [.retAddr 0, .int x1, .retAddr 0, .retAddr 0]) ⟨Or.inl rfl, Or.inr rfl, Or.inl rfl, Or.inl rfl, trivial⟩ (bX10_findTelling_33 C hr hk hf true)
  · rw [if_neg hc] at hf ⊢
    obtain ⟨hok, hf⟩ := grd_ex hf
    refine msegT C kX10_findTelling 10 10 (g := ((kO 120 10 && (kO 120 10 && true)), 30, [.ref (120), .int x1, .retAddr 0, .retAddr 0], [.int ((1 : Int32) <<< (((3 : Int32) * ((S.1 120 9) - (1 : Int32))) &&& 31)), .int (S.1 120 8)], mk b S)) rfl hok ?_
    refine msegT C kX10_findTelling 20 1 (g := (true, (if (S.1 120 8) ≤ ((1 : Int32) <<< (((3 : Int32) * ((S.1 120 9) - (1 : Int32))) &&& 31)) then 35 else 33), [.ref (120), .int x1, .retAddr 0, .retAddr 0], [], mk b S)) rfl rfl ?_
    by_cases hc : (S.1 120 8) ≤ ((1 : Int32) <<< (((3 : Int32) * ((S.1 120 9) - (1 : Int32))) &&& 31))
    · rw [if_pos hc] at hf ⊢
      obtain ⟨hok, hf⟩ := grd_ex hf
      refine msegT C kX10_findTelling 23 3 (g := ((kO 120 10 && true), 40, [.ref (120), .int x1, .retAddr 0, .retAddr 0], [], mk b (sI S 120 6 (0 : Int32)))) rfl hok ?_
      obtain ⟨S2, eS2, hf⟩ := bnd_ex hf
      rw [← eS2]
      refine msegT C kX10_findTelling 26 3 (g := (true, 43, [.ref (120), .int x1, .retAddr 0, .retAddr 0], [.int (0 : Int32), .int (0 : Int32), .ref (120)], mk b S2)) rfl rfl ?_
      obtain ⟨S3, hq, hf⟩ := bndV_ex hf
      refine mcall (kd := 0) (vs := [.ref (120), .int (0 : Int32), .int (0 : Int32)]) (rest := []) (r := none) (h' := mk b S3) (ok' := true) C lkRX10_128 (qX10_gatherFrom 16 hq) (kX10_findTelling _ (List.mem_of_getElem? (i := 29) rfl)).1 ⟨_, _, rfl, rfl, Nat.le_of_ble_eq_true rfl, _, _, rfl, rfl, rfl⟩ (Nat.le_of_ble_eq_true rfl) (Nat.le_of_ble_eq_true rfl) (Nat.le_refl _) (Nat.le_refl _) (Nat.le_of_ble_eq_true rfl) ?_
      refine msegT C kX10_findTelling 30 2 (g := (true, 48, [.ref (120), .int x1, .int (0 : Int32), .retAddr 0], [], mk b S3)) rfl rfl ?_
      exact mfor (L' := [.ref (120), .int x1, .int (0 : Int32), .retAddr 0]) ⟨Or.inr rfl, Or.inr rfl, Or.inr rfl, Or.inl rfl, trivial⟩ (bX10_findTelling_48 C hr hk _ _ _ _ hf true)
    · rw [if_neg hc] at hf ⊢
      exact mfor (L' := [.retAddr 0, .int x1, .retAddr 0, .retAddr 0]) ⟨Or.inl rfl, Or.inr rfl, Or.inl rfl, Or.inl rfl, trivial⟩ (bX10_findTelling_33 C hr hk hf true)
theorem qX10_findTelling {b : Bool} {S S' : mT} {r : Int32} (hf : fX10_findTelling S = some (r, S')) : mOk l mX10_findTelling 19 [.ref (120)] b S (some (.int r)) S' :=
  gMet (by decide) (Nat.le_of_ble_eq_true rfl) rfl (Nat.le_of_ble_eq_true rfl) (fun p e s m args below meth c G C hr hk => bX10_findTelling_0 C hr hk hf true)
theorem bX10_takeReports_102 (C : mCx p (mR 2) s m args meth c G cX10_takeReports RX10 5 false 233 54500 233 54500) (hr : meth.sig.returnType = (some .int)) (hk : meth.locks = false) {b : Bool} {S' : mT} {r : Int32} {rc21 : Int32 → Int32 → mT → Option (Int32 × mT)} (Hrc21 : ∀ (v2 : Int32) (v3 : Int32) (S : mT), rc21 v2 v3 S = some (r, S') → ∀ ok : Bool, mW p l e (mR 2) s m args below meth c G 5 233 54500 (mQ below G args s b S' (some (.int r))) (ok, 21, [.ref (120), .ref (114), .int v2, .int v3, .retAddr 0], [], mk b S)) {v2 : Int32} {v3 : Int32} {S : mT} (hf : fX10_takeReports_102 rc21 v2 v3 S = some (r, S')) (ok : Bool) : mW p l e (mR 2) s m args below meth c G 5 233 54500 (mQ below G args s b S' (some (.int r))) (ok, 102, [.ref (120), .ref (114), .int v2, .int v3, .retAddr 0], [], mk b S) := by
  unfold fX10_takeReports_102 at hf
  refine msegT C kX10_takeReports 61 1 (g := (true, 105, [.ref (120), .ref (114), .int v2, .int (v3 + (1 : Int32)), .retAddr 0], [], mk b S)) rfl rfl ?_
  obtain ⟨x9, ex9, hf⟩ := bnd_ex hf
  rw [← ex9]
  refine msegT C kX10_takeReports 62 1 (g := (true, 21, [.ref (120), .ref (114), .int v2, .int x9, .retAddr 0], [], mk b S)) rfl rfl ?_
  exact mfor (L' := [.ref (120), .ref (114), .int v2, .int x9, .retAddr 0]) ⟨Or.inr rfl, Or.inr rfl, Or.inr rfl, Or.inr rfl, Or.inl rfl, trivial⟩ (Hrc21 _ _ _ hf true)
theorem bX10_takeReports_21 (C : mCx p (mR 2) s m args meth c G cX10_takeReports RX10 5 false 233 54500 233 54500) (hr : meth.sig.returnType = (some .int)) (hk : meth.locks = false) {b : Bool} {S' : mT} {r : Int32} : ∀ (k : Nat) (v2 : Int32) (v3 : Int32) (S : mT), fX10_takeReports_21 k v2 v3 S = some (r, S') → ∀ ok : Bool, mW p l e (mR 2) s m args below meth c G 5 233 54500 (mQ below G args s b S' (some (.int r))) (ok, 21, [.ref (120), .ref (114), .int v2, .int v3, .retAddr 0], [], mk b S) := by
  intro k
  induction k with
  | zero =>
    intro v2 v3 S hf ok
    cases hf
  | succ k ih =>
    intro v2 v3 S hf ok
    unfold fX10_takeReports_21 at hf
    obtain ⟨hok, hf⟩ := grd_ex hf
    refine msegT C kX10_takeReports 12 4 (g := ((kO 114 5 && true), (if (S.1 114 5) ≤ v3 then 108 else 29), [.ref (120), .ref (114), .int v2, .int v3, .retAddr 0], [], mk b S)) rfl hok ?_
    by_cases hc : (S.1 114 5) ≤ v3
    · rw [if_pos hc] at hf ⊢
      refine msegT C kX10_takeReports 63 1 (g := (true, 109, [.ref (120), .ref (114), .int v2, .int v3, .retAddr 0], [.int v2], mk b S)) rfl rfl ?_
      cases hf
      exact gret_i C hr hk (kX10_takeReports _ (List.mem_of_getElem? (i := 64) rfl)).1
    · rw [if_neg hc] at hf ⊢
      obtain ⟨hok, hf⟩ := grd_ex hf
      refine msegT C kX10_takeReports 16 8 (g := ((kO 120 10 && true), (if (((S.1 120 10) >>> (v3 &&& 31)) &&& (1 : Int32)) = (1 : Int32) then 41 else 102), [.ref (120), .ref (114), .int v2, .int v3, .retAddr 0], [], mk b S)) rfl hok ?_
      by_cases hc : (((S.1 120 10) >>> (v3 &&& 31)) &&& (1 : Int32)) = (1 : Int32)
      · rw [if_pos hc] at hf ⊢
        obtain ⟨hok, hf⟩ := grd_ex hf
        refine msegT C kX10_takeReports 24 5 (g := ((kI 115 v3 && (kO 114 5 && true)), 49, [.ref (120), .ref (114), .int v2, .int v3, .int (S.1 115 (mIx v3))], [], mk b S)) rfl hok ?_
        obtain ⟨x3, ex3, hf⟩ := bnd_ex hf
        rw [← ex3]
        obtain ⟨hok, hf⟩ := grd_ex hf
        refine msegT C kX10_takeReports 29 10 (g := ((kO 114 5 && (kI 127 x3 && (kO 120 10 && (kO 120 10 && true)))), 67, [.ref (120), .ref (114), .int v2, .int v3, .int x3], [.int v3, .ref 116, .int (S.1 127 (mIx x3)), .int x3, .ref 127], mk b S)) rfl hok ?_
        obtain ⟨hok, hf⟩ := grd_ex hf
        refine msegT C kX10_takeReports 39 1 (g := ((kI 116 v3 && true), 68, [.ref (120), .ref (114), .int v2, .int v3, .int x3], [.int (S.1 116 (mIx v3)), .int (S.1 127 (mIx x3)), .int x3, .ref 127], mk b S)) rfl hok ?_
        obtain ⟨x4, ex4, hf⟩ := bnd_ex hf
        refine so_max (ok' := true) C (kX10_takeReports _ (List.mem_of_getElem? (i := 40) rfl)).1 lmRX10_88 (Nat.le_of_ble_eq_true rfl) (Nat.le_refl _) (Nat.le_refl _) ?_
        rw [← ex4]
        obtain ⟨hok, hf⟩ := grd_ex hf
        refine msegT C kX10_takeReports 41 1 (g := ((kI 127 x3 && true), 72, [.ref (120), .ref (114), .int v2, .int v3, .int x3], [], mk b (sI S 127 (mIx x3) x4))) rfl hok ?_
        obtain ⟨S5, eS5, hf⟩ := bnd_ex hf
        rw [← eS5]
        obtain ⟨hok, hf⟩ := grd_ex hf
        refine msegT C kX10_takeReports 42 10 (g := ((kO 114 5 && (kI 128 x3 && (kO 120 10 && (kO 120 10 && true)))), 90, [.ref (120), .ref (114), .int v2, .int v3, .int x3], [.int v3, .ref 117, .int (S5.1 128 (mIx x3)), .int x3, .ref 128], mk b S5)) rfl hok ?_
        obtain ⟨hok, hf⟩ := grd_ex hf
        refine msegT C kX10_takeReports 52 1 (g := ((kI 117 v3 && true), 91, [.ref (120), .ref (114), .int v2, .int v3, .int x3], [.int (S5.1 117 (mIx v3)), .int (S5.1 128 (mIx x3)), .int x3, .ref 128], mk b S5)) rfl hok ?_
        obtain ⟨x6, ex6, hf⟩ := bnd_ex hf
        refine so_min (ok' := true) C (kX10_takeReports _ (List.mem_of_getElem? (i := 53) rfl)).1 lmRX10_96 (Nat.le_of_ble_eq_true rfl) (Nat.le_refl _) (Nat.le_refl _) ?_
        rw [← ex6]
        obtain ⟨hok, hf⟩ := grd_ex hf
        refine msegT C kX10_takeReports 54 1 (g := ((kI 128 x3 && true), 95, [.ref (120), .ref (114), .int v2, .int v3, .int x3], [], mk b (sI S5 128 (mIx x3) x6))) rfl hok ?_
        obtain ⟨S7, eS7, hf⟩ := bnd_ex hf
        rw [← eS7]
        refine msegT C kX10_takeReports 55 6 (g := (true, 102, [.ref (120), .ref (114), .int (v2 ||| ((1 : Int32) <<< (x3 &&& 31))), .int v3, .int x3], [], mk b S7)) rfl rfl ?_
        obtain ⟨x8, ex8, hf⟩ := bnd_ex hf
        rw [← ex8]
        exact mfor (L' := [.ref (120), .ref (114), .int x8, .int v3, .retAddr 0]) ⟨Or.inr rfl, Or.inr rfl, Or.inr rfl, Or.inr rfl, Or.inl rfl, trivial⟩ (bX10_takeReports_102 C hr hk ih hf true)
      · rw [if_neg hc] at hf ⊢
        exact mfor (L' := [.ref (120), .ref (114), .int v2, .int v3, .retAddr 0]) ⟨Or.inr rfl, Or.inr rfl, Or.inr rfl, Or.inr rfl, Or.inl rfl, trivial⟩ (bX10_takeReports_102 C hr hk ih hf true)
theorem bX10_takeReports_0 (C : mCx p (mR 2) s m args meth c G cX10_takeReports RX10 5 false 233 54500 233 54500) (hr : meth.sig.returnType = (some .int)) (hk : meth.locks = false) {b : Bool} {S' : mT} {r : Int32} {S : mT} (hf : fX10_takeReports S = some (r, S')) (ok : Bool) : mW p l e (mR 2) s m args below meth c G 5 233 54500 (mQ below G args s b S' (some (.int r))) (ok, 0, [.ref (120), .ref (114), .retAddr 0, .retAddr 0, .retAddr 0], [], mk b S) := by
  unfold fX10_takeReports at hf
  obtain ⟨hok, hf⟩ := grd_ex hf
  refine msegT C kX10_takeReports 0 5 (g := ((kO 120 10 && true), 7, [.ref (120), .ref (114), .int (0 : Int32), .retAddr 0, .retAddr 0], [.int (0 : Int32), .ref 127], mk b S)) rfl hok ?_
  obtain ⟨S1, hq, hf⟩ := bndV_ex hf
  refine mcall (kd := 1) (vs := [.ref 127, .int (0 : Int32)]) (rest := []) (r := none) (h' := mk b S1) (ok' := true) C lkRX10_61 (qJ7_fill_53178 hq) (kX10_takeReports _ (List.mem_of_getElem? (i := 5) rfl)).1 rfl (Nat.le_of_ble_eq_true rfl) (Nat.le_of_ble_eq_true rfl) (Nat.le_refl _) (Nat.le_refl _) (Nat.le_of_ble_eq_true rfl) ?_
  obtain ⟨hok, hf⟩ := grd_ex hf
  refine msegT C kX10_takeReports 6 3 (g := ((kO 120 10 && true), 16, [.ref (120), .ref (114), .int (0 : Int32), .retAddr 0, .retAddr 0], [.int (35 : Int32), .ref 128], mk b S1)) rfl hok ?_
  obtain ⟨S2, hq, hf⟩ := bndV_ex hf
  refine mcall (kd := 1) (vs := [.ref 128, .int (35 : Int32)]) (rest := []) (r := none) (h' := mk b S2) (ok' := true) C lkRX10_61 (qJ7_fill_53178 hq) (kX10_takeReports _ (List.mem_of_getElem? (i := 9) rfl)).1 rfl (Nat.le_of_ble_eq_true rfl) (Nat.le_of_ble_eq_true rfl) (Nat.le_refl _) (Nat.le_refl _) (Nat.le_of_ble_eq_true rfl) ?_
  refine msegT C kX10_takeReports 10 2 (g := (true, 21, [.ref (120), .ref (114), .int (0 : Int32), .int (0 : Int32), .retAddr 0], [], mk b S2)) rfl rfl ?_
  exact mfor (L' := [.ref (120), .ref (114), .int (0 : Int32), .int (0 : Int32), .retAddr 0]) ⟨Or.inr rfl, Or.inr rfl, Or.inr rfl, Or.inr rfl, Or.inl rfl, trivial⟩ (bX10_takeReports_21 C hr hk _ _ _ _ hf true)
theorem qX10_takeReports {b : Bool} {S S' : mT} {r : Int32} (hf : fX10_takeReports S = some (r, S')) : mOk l mX10_takeReports 2 [.ref (120), .ref (114)] b S (some (.int r)) S' :=
  gMet (by decide) (Nat.le_of_ble_eq_true rfl) rfl (Nat.le_of_ble_eq_true rfl) (fun p e s m args below meth c G C hr hk => bX10_takeReports_0 C hr hk hf true)
theorem bX9_list_79_174 (C : mCx p (mR 1) s m args meth c G cX9_list RX9 6 false 233 54500 233 54500) (hr : meth.sig.returnType = (some .int)) (hk : meth.locks = false) {b : Bool} {S' : mT} {r : Int32} {rc5 : Int32 → Int32 → Int32 → Int32 → mT → Option (Int32 × mT)} (Hrc5 : ∀ (v1 : Int32) (v2 : Int32) (v3 : Int32) (v4 : Int32) (S : mT), rc5 v1 v2 v3 v4 S = some (r, S') → ∀ ok : Bool, mW p l e (mR 1) s m args below meth c G 6 233 54500 (mQ below G args s b S' (some (.int r))) (ok, 5, [.ref (174), .int v1, .int v2, .int v3, .int v4, .retAddr 0], [], mk b S)) {rc22 : Int32 → Int32 → Int32 → Int32 → Int32 → mT → Option (Int32 × mT)} (Hrc22 : ∀ (v1 : Int32) (v2 : Int32) (v3 : Int32) (v4 : Int32) (v5 : Int32) (S : mT), rc22 v1 v2 v3 v4 v5 S = some (r, S') → ∀ ok : Bool, mW p l e (mR 1) s m args below meth c G 6 233 54500 (mQ below G args s b S' (some (.int r))) (ok, 22, [.ref (174), .int v1, .int v2, .int v3, .int v4, .int v5], [], mk b S)) {v1 : Int32} {v2 : Int32} {v3 : Int32} {v4 : Int32} {v5 : Int32} {S : mT} (hf : fX9_list_79 174 rc5 rc22 v1 v2 v3 v4 v5 S = some (r, S')) (ok : Bool) : mW p l e (mR 1) s m args below meth c G 6 233 54500 (mQ below G args s b S' (some (.int r))) (ok, 79, [.ref (174), .int v1, .int v2, .int v3, .int v4, .int v5], [], mk b S) := by
  unfold fX9_list_79 at hf
  refine msegT C kX9_list 52 1 (g := (true, 82, [.ref (174), .int v1, .int v2, .int v3, .int v4, .int (v5 + (1 : Int32))], [], mk b S)) rfl rfl ?_
  obtain ⟨x6, ex6, hf⟩ := bnd_ex hf
  rw [← ex6]
  refine msegT C kX9_list 53 1 (g := (true, 22, [.ref (174), .int v1, .int v2, .int v3, .int v4, .int x6], [], mk b S)) rfl rfl ?_
  exact mfor (L' := [.ref (174), .int v1, .int v2, .int v3, .int v4, .int x6]) ⟨Or.inr rfl, Or.inr rfl, Or.inr rfl, Or.inr rfl, Or.inr rfl, Or.inr rfl, trivial⟩ (Hrc22 _ _ _ _ _ _ hf true)
theorem bX9_list_22_174 (C : mCx p (mR 1) s m args meth c G cX9_list RX9 6 false 233 54500 233 54500) (hr : meth.sig.returnType = (some .int)) (hk : meth.locks = false) {b : Bool} {S' : mT} {r : Int32} {rc5 : Int32 → Int32 → Int32 → Int32 → mT → Option (Int32 × mT)} (Hrc5 : ∀ (v1 : Int32) (v2 : Int32) (v3 : Int32) (v4 : Int32) (S : mT), rc5 v1 v2 v3 v4 S = some (r, S') → ∀ ok : Bool, mW p l e (mR 1) s m args below meth c G 6 233 54500 (mQ below G args s b S' (some (.int r))) (ok, 5, [.ref (174), .int v1, .int v2, .int v3, .int v4, .retAddr 0], [], mk b S)) : ∀ (k : Nat) (v1 : Int32) (v2 : Int32) (v3 : Int32) (v4 : Int32) (v5 : Int32) (S : mT), fX9_list_22 174 rc5 k v1 v2 v3 v4 v5 S = some (r, S') → ∀ ok : Bool, mW p l e (mR 1) s m args below meth c G 6 233 54500 (mQ below G args s b S' (some (.int r))) (ok, 22, [.ref (174), .int v1, .int v2, .int v3, .int v4, .int v5], [], mk b S) := by
  intro k
  induction k with
  | zero =>
    intro v1 v2 v3 v4 v5 S hf ok
    cases hf
  | succ k ih =>
    intro v1 v2 v3 v4 v5 S hf ok
    unfold fX9_list_22 at hf
    refine msegT C kX9_list 14 5 (g := (true, (if ((1 : Int32) <<< (v4 &&& 31)) ≤ v5 then 85 else 31), [.ref (174), .int v1, .int v2, .int v3, .int v4, .int v5], [], mk b S)) rfl rfl ?_
    by_cases hc : ((1 : Int32) <<< (v4 &&& 31)) ≤ v5
    · rw [if_pos hc] at hf ⊢
      refine msegT C kX9_list 54 1 (g := (true, 88, [.ref (174), .int v1, .int v2, .int v3, .int (v4 + (1 : Int32)), .int v5], [], mk b S)) rfl rfl ?_
      obtain ⟨x2, ex2, hf⟩ := bnd_ex hf
      rw [← ex2]
      refine msegT C kX9_list 55 1 (g := (true, 5, [.ref (174), .int v1, .int v2, .int v3, .int x2, .int v5], [], mk b S)) rfl rfl ?_
      exact mfor (L' := [.ref (174), .int v1, .int v2, .int v3, .int x2, .retAddr 0]) ⟨Or.inr rfl, Or.inr rfl, Or.inr rfl, Or.inr rfl, Or.inr rfl, Or.inl rfl, trivial⟩ (Hrc5 _ _ _ _ _ hf true)
    · rw [if_neg hc] at hf ⊢
      refine msegT C kX9_list 19 10 (g := (true, 43, [.ref (174), .int v1, .int v2, .int v3, .int v4, .int v5], [.int (1 : Int32), .int ((v1 >>> ((v5 ||| ((1 : Int32) <<< (v4 &&& 31))) &&& 31)) &&& (1 : Int32))], mk b S)) rfl rfl ?_
      refine msegT C kX9_list 29 1 (g := (true, (if ((v1 >>> ((v5 ||| ((1 : Int32) <<< (v4 &&& 31))) &&& 31)) &&& (1 : Int32)) = (1 : Int32) then 46 else 79), [.ref (174), .int v1, .int v2, .int v3, .int v4, .int v5], [], mk b S)) rfl rfl ?_
      by_cases hc : ((v1 >>> ((v5 ||| ((1 : Int32) <<< (v4 &&& 31))) &&& 31)) &&& (1 : Int32)) = (1 : Int32)
      · rw [if_pos hc] at hf ⊢
        obtain ⟨hok, hf⟩ := grd_ex hf
        refine msegT C kX9_list 30 10 (g := ((kI (rowR (174 + 2) (mIx v4)) (S.1 (174 + 8) (mIx v4)) && (kI (174 + 8) v4 && (kO 174 9 && (kR (174 + 2) v4 && (kO 174 9 && true))))), 63, [.ref (174), .int v1, .int v2, .int v3, .int v4, .int v5], [], mk b (sI S (rowR (174 + 2) (mIx v4)) (mIx (S.1 (174 + 8) (mIx v4))) v5))) rfl hok ?_
        obtain ⟨S3, eS3, hf⟩ := bnd_ex hf
        rw [← eS3]
        obtain ⟨hok, hf⟩ := grd_ex hf
        refine msegT C kX9_list 40 8 (g := ((kI (174 + 8) v4 && (kI (174 + 8) v4 && (kO 174 9 && true))), 74, [.ref (174), .int v1, .int v2, .int v3, .int v4, .int v5], [], mk b (sI S3 (174 + 8) (mIx v4) ((S3.1 (174 + 8) (mIx v4)) + (1 : Int32))))) rfl hok ?_
        obtain ⟨S4, eS4, hf⟩ := bnd_ex hf
        rw [← eS4]
        refine msegT C kX9_list 48 4 (g := (true, 79, [.ref (174), .int v1, .int v2, .int (v4 + (1 : Int32)), .int v4, .int v5], [], mk b S4)) rfl rfl ?_
        obtain ⟨x5, ex5, hf⟩ := bnd_ex hf
        rw [← ex5]
        exact mfor (L' := [.ref (174), .int v1, .int v2, .int x5, .int v4, .int v5]) ⟨Or.inr rfl, Or.inr rfl, Or.inr rfl, Or.inr rfl, Or.inr rfl, Or.inr rfl, trivial⟩ (bX9_list_79_174 C hr hk Hrc5 ih hf true)
      · rw [if_neg hc] at hf ⊢
        exact mfor (L' := [.ref (174), .int v1, .int v2, .int v3, .int v4, .int v5]) ⟨Or.inr rfl, Or.inr rfl, Or.inr rfl, Or.inr rfl, Or.inr rfl, Or.inr rfl, trivial⟩ (bX9_list_79_174 C hr hk Hrc5 ih hf true)
theorem bX9_list_5_174 (C : mCx p (mR 1) s m args meth c G cX9_list RX9 6 false 233 54500 233 54500) (hr : meth.sig.returnType = (some .int)) (hk : meth.locks = false) {b : Bool} {S' : mT} {r : Int32} : ∀ (k : Nat) (v1 : Int32) (v2 : Int32) (v3 : Int32) (v4 : Int32) (S : mT), fX9_list_5 174 k v1 v2 v3 v4 S = some (r, S') → ∀ ok : Bool, mW p l e (mR 1) s m args below meth c G 6 233 54500 (mQ below G args s b S' (some (.int r))) (ok, 5, [.ref (174), .int v1, .int v2, .int v3, .int v4, .retAddr 0], [], mk b S) := by
  intro k
  induction k with
  | zero =>
    intro v1 v2 v3 v4 S hf ok
    cases hf
  | succ k ih =>
    intro v1 v2 v3 v4 S hf ok
    unfold fX9_list_5 at hf
    refine msegT C kX9_list 4 3 (g := (true, (if v2 ≤ v4 then 91 else 11), [.ref (174), .int v1, .int v2, .int v3, .int v4, .retAddr 0], [], mk b S)) rfl rfl ?_
    by_cases hc : v2 ≤ v4
    · rw [if_pos hc] at hf ⊢
      refine msegT C kX9_list 56 1 (g := (true, 92, [.ref (174), .int v1, .int v2, .int v3, .int v4, .retAddr 0], [.int v3], mk b S)) rfl rfl ?_
      cases hf
      exact gret_i C hr hk (kX9_list _ (List.mem_of_getElem? (i := 57) rfl)).1
    · rw [if_neg hc] at hf ⊢
      obtain ⟨hok, hf⟩ := grd_ex hf
      refine msegT C kX9_list 7 5 (g := ((kI (174 + 8) v4 && (kO 174 9 && true)), 19, [.ref (174), .int v1, .int v2, .int v3, .int v4, .retAddr 0], [], mk b (sI S (174 + 8) (mIx v4) (0 : Int32)))) rfl hok ?_
      obtain ⟨S1, eS1, hf⟩ := bnd_ex hf
      rw [← eS1]
      refine msegT C kX9_list 12 2 (g := (true, 22, [.ref (174), .int v1, .int v2, .int v3, .int v4, .int (0 : Int32)], [], mk b S1)) rfl rfl ?_
      exact mfor (L' := [.ref (174), .int v1, .int v2, .int v3, .int v4, .int (0 : Int32)]) ⟨Or.inr rfl, Or.inr rfl, Or.inr rfl, Or.inr rfl, Or.inr rfl, Or.inr rfl, trivial⟩ (bX9_list_22_174 C hr hk ih _ _ _ _ _ _ _ hf true)
theorem bX9_list_0_174 (C : mCx p (mR 1) s m args meth c G cX9_list RX9 6 false 233 54500 233 54500) (hr : meth.sig.returnType = (some .int)) (hk : meth.locks = false) {b : Bool} {S' : mT} {r : Int32} {v1 : Int32} {v2 : Int32} {S : mT} (hf : fX9_list 174 v1 v2 S = some (r, S')) (ok : Bool) : mW p l e (mR 1) s m args below meth c G 6 233 54500 (mQ below G args s b S' (some (.int r))) (ok, 0, [.ref (174), .int v1, .int v2, .retAddr 0, .retAddr 0, .retAddr 0], [], mk b S) := by
  unfold fX9_list at hf
  refine msegT C kX9_list 0 4 (g := (true, 5, [.ref (174), .int v1, .int v2, .int (0 : Int32), .int (0 : Int32), .retAddr 0], [], mk b S)) rfl rfl ?_
  exact mfor (L' := [.ref (174), .int v1, .int v2, .int (0 : Int32), .int (0 : Int32), .retAddr 0]) ⟨Or.inr rfl, Or.inr rfl, Or.inr rfl, Or.inr rfl, Or.inr rfl, Or.inl rfl, trivial⟩ (bX9_list_5_174 C hr hk _ _ _ _ _ _ hf true)
theorem qX9_list_174 {b : Bool} {v1 : Int32} {v2 : Int32} {S S' : mT} {r : Int32} (hf : fX9_list 174 v1 v2 S = some (r, S')) : mOk l mX9_list 1 [.ref (174), .int v1, .int v2] b S (some (.int r)) S' :=
  gMet (by decide) (Nat.le_of_ble_eq_true rfl) rfl (Nat.le_of_ble_eq_true rfl) (fun p e s m args below meth c G C hr hk => bX9_list_0_174 C hr hk hf true)
theorem bX9_list_79_129 (C : mCx p (mR 1) s m args meth c G cX9_list RX9 6 false 233 54500 233 54500) (hr : meth.sig.returnType = (some .int)) (hk : meth.locks = false) {b : Bool} {S' : mT} {r : Int32} {rc5 : Int32 → Int32 → Int32 → Int32 → mT → Option (Int32 × mT)} (Hrc5 : ∀ (v1 : Int32) (v2 : Int32) (v3 : Int32) (v4 : Int32) (S : mT), rc5 v1 v2 v3 v4 S = some (r, S') → ∀ ok : Bool, mW p l e (mR 1) s m args below meth c G 6 233 54500 (mQ below G args s b S' (some (.int r))) (ok, 5, [.ref (129), .int v1, .int v2, .int v3, .int v4, .retAddr 0], [], mk b S)) {rc22 : Int32 → Int32 → Int32 → Int32 → Int32 → mT → Option (Int32 × mT)} (Hrc22 : ∀ (v1 : Int32) (v2 : Int32) (v3 : Int32) (v4 : Int32) (v5 : Int32) (S : mT), rc22 v1 v2 v3 v4 v5 S = some (r, S') → ∀ ok : Bool, mW p l e (mR 1) s m args below meth c G 6 233 54500 (mQ below G args s b S' (some (.int r))) (ok, 22, [.ref (129), .int v1, .int v2, .int v3, .int v4, .int v5], [], mk b S)) {v1 : Int32} {v2 : Int32} {v3 : Int32} {v4 : Int32} {v5 : Int32} {S : mT} (hf : fX9_list_79 129 rc5 rc22 v1 v2 v3 v4 v5 S = some (r, S')) (ok : Bool) : mW p l e (mR 1) s m args below meth c G 6 233 54500 (mQ below G args s b S' (some (.int r))) (ok, 79, [.ref (129), .int v1, .int v2, .int v3, .int v4, .int v5], [], mk b S) := by
  unfold fX9_list_79 at hf
  refine msegT C kX9_list 52 1 (g := (true, 82, [.ref (129), .int v1, .int v2, .int v3, .int v4, .int (v5 + (1 : Int32))], [], mk b S)) rfl rfl ?_
  obtain ⟨x6, ex6, hf⟩ := bnd_ex hf
  rw [← ex6]
  refine msegT C kX9_list 53 1 (g := (true, 22, [.ref (129), .int v1, .int v2, .int v3, .int v4, .int x6], [], mk b S)) rfl rfl ?_
  exact mfor (L' := [.ref (129), .int v1, .int v2, .int v3, .int v4, .int x6]) ⟨Or.inr rfl, Or.inr rfl, Or.inr rfl, Or.inr rfl, Or.inr rfl, Or.inr rfl, trivial⟩ (Hrc22 _ _ _ _ _ _ hf true)
theorem bX9_list_22_129 (C : mCx p (mR 1) s m args meth c G cX9_list RX9 6 false 233 54500 233 54500) (hr : meth.sig.returnType = (some .int)) (hk : meth.locks = false) {b : Bool} {S' : mT} {r : Int32} {rc5 : Int32 → Int32 → Int32 → Int32 → mT → Option (Int32 × mT)} (Hrc5 : ∀ (v1 : Int32) (v2 : Int32) (v3 : Int32) (v4 : Int32) (S : mT), rc5 v1 v2 v3 v4 S = some (r, S') → ∀ ok : Bool, mW p l e (mR 1) s m args below meth c G 6 233 54500 (mQ below G args s b S' (some (.int r))) (ok, 5, [.ref (129), .int v1, .int v2, .int v3, .int v4, .retAddr 0], [], mk b S)) : ∀ (k : Nat) (v1 : Int32) (v2 : Int32) (v3 : Int32) (v4 : Int32) (v5 : Int32) (S : mT), fX9_list_22 129 rc5 k v1 v2 v3 v4 v5 S = some (r, S') → ∀ ok : Bool, mW p l e (mR 1) s m args below meth c G 6 233 54500 (mQ below G args s b S' (some (.int r))) (ok, 22, [.ref (129), .int v1, .int v2, .int v3, .int v4, .int v5], [], mk b S) := by
  intro k
  induction k with
  | zero =>
    intro v1 v2 v3 v4 v5 S hf ok
    cases hf
  | succ k ih =>
    intro v1 v2 v3 v4 v5 S hf ok
    unfold fX9_list_22 at hf
    refine msegT C kX9_list 14 5 (g := (true, (if ((1 : Int32) <<< (v4 &&& 31)) ≤ v5 then 85 else 31), [.ref (129), .int v1, .int v2, .int v3, .int v4, .int v5], [], mk b S)) rfl rfl ?_
    by_cases hc : ((1 : Int32) <<< (v4 &&& 31)) ≤ v5
    · rw [if_pos hc] at hf ⊢
      refine msegT C kX9_list 54 1 (g := (true, 88, [.ref (129), .int v1, .int v2, .int v3, .int (v4 + (1 : Int32)), .int v5], [], mk b S)) rfl rfl ?_
      obtain ⟨x2, ex2, hf⟩ := bnd_ex hf
      rw [← ex2]
      refine msegT C kX9_list 55 1 (g := (true, 5, [.ref (129), .int v1, .int v2, .int v3, .int x2, .int v5], [], mk b S)) rfl rfl ?_
      exact mfor (L' := [.ref (129), .int v1, .int v2, .int v3, .int x2, .retAddr 0]) ⟨Or.inr rfl, Or.inr rfl, Or.inr rfl, Or.inr rfl, Or.inr rfl, Or.inl rfl, trivial⟩ (Hrc5 _ _ _ _ _ hf true)
    · rw [if_neg hc] at hf ⊢
      refine msegT C kX9_list 19 10 (g := (true, 43, [.ref (129), .int v1, .int v2, .int v3, .int v4, .int v5], [.int (1 : Int32), .int ((v1 >>> ((v5 ||| ((1 : Int32) <<< (v4 &&& 31))) &&& 31)) &&& (1 : Int32))], mk b S)) rfl rfl ?_
      refine msegT C kX9_list 29 1 (g := (true, (if ((v1 >>> ((v5 ||| ((1 : Int32) <<< (v4 &&& 31))) &&& 31)) &&& (1 : Int32)) = (1 : Int32) then 46 else 79), [.ref (129), .int v1, .int v2, .int v3, .int v4, .int v5], [], mk b S)) rfl rfl ?_
      by_cases hc : ((v1 >>> ((v5 ||| ((1 : Int32) <<< (v4 &&& 31))) &&& 31)) &&& (1 : Int32)) = (1 : Int32)
      · rw [if_pos hc] at hf ⊢
        obtain ⟨hok, hf⟩ := grd_ex hf
        refine msegT C kX9_list 30 10 (g := ((kI (rowR (129 + 2) (mIx v4)) (S.1 (129 + 8) (mIx v4)) && (kI (129 + 8) v4 && (kO 129 9 && (kR (129 + 2) v4 && (kO 129 9 && true))))), 63, [.ref (129), .int v1, .int v2, .int v3, .int v4, .int v5], [], mk b (sI S (rowR (129 + 2) (mIx v4)) (mIx (S.1 (129 + 8) (mIx v4))) v5))) rfl hok ?_
        obtain ⟨S3, eS3, hf⟩ := bnd_ex hf
        rw [← eS3]
        obtain ⟨hok, hf⟩ := grd_ex hf
        refine msegT C kX9_list 40 8 (g := ((kI (129 + 8) v4 && (kI (129 + 8) v4 && (kO 129 9 && true))), 74, [.ref (129), .int v1, .int v2, .int v3, .int v4, .int v5], [], mk b (sI S3 (129 + 8) (mIx v4) ((S3.1 (129 + 8) (mIx v4)) + (1 : Int32))))) rfl hok ?_
        obtain ⟨S4, eS4, hf⟩ := bnd_ex hf
        rw [← eS4]
        refine msegT C kX9_list 48 4 (g := (true, 79, [.ref (129), .int v1, .int v2, .int (v4 + (1 : Int32)), .int v4, .int v5], [], mk b S4)) rfl rfl ?_
        obtain ⟨x5, ex5, hf⟩ := bnd_ex hf
        rw [← ex5]
        exact mfor (L' := [.ref (129), .int v1, .int v2, .int x5, .int v4, .int v5]) ⟨Or.inr rfl, Or.inr rfl, Or.inr rfl, Or.inr rfl, Or.inr rfl, Or.inr rfl, trivial⟩ (bX9_list_79_129 C hr hk Hrc5 ih hf true)
      · rw [if_neg hc] at hf ⊢
        exact mfor (L' := [.ref (129), .int v1, .int v2, .int v3, .int v4, .int v5]) ⟨Or.inr rfl, Or.inr rfl, Or.inr rfl, Or.inr rfl, Or.inr rfl, Or.inr rfl, trivial⟩ (bX9_list_79_129 C hr hk Hrc5 ih hf true)
theorem bX9_list_5_129 (C : mCx p (mR 1) s m args meth c G cX9_list RX9 6 false 233 54500 233 54500) (hr : meth.sig.returnType = (some .int)) (hk : meth.locks = false) {b : Bool} {S' : mT} {r : Int32} : ∀ (k : Nat) (v1 : Int32) (v2 : Int32) (v3 : Int32) (v4 : Int32) (S : mT), fX9_list_5 129 k v1 v2 v3 v4 S = some (r, S') → ∀ ok : Bool, mW p l e (mR 1) s m args below meth c G 6 233 54500 (mQ below G args s b S' (some (.int r))) (ok, 5, [.ref (129), .int v1, .int v2, .int v3, .int v4, .retAddr 0], [], mk b S) := by
  intro k
  induction k with
  | zero =>
    intro v1 v2 v3 v4 S hf ok
    cases hf
  | succ k ih =>
    intro v1 v2 v3 v4 S hf ok
    unfold fX9_list_5 at hf
    refine msegT C kX9_list 4 3 (g := (true, (if v2 ≤ v4 then 91 else 11), [.ref (129), .int v1, .int v2, .int v3, .int v4, .retAddr 0], [], mk b S)) rfl rfl ?_
    by_cases hc : v2 ≤ v4
    · rw [if_pos hc] at hf ⊢
      refine msegT C kX9_list 56 1 (g := (true, 92, [.ref (129), .int v1, .int v2, .int v3, .int v4, .retAddr 0], [.int v3], mk b S)) rfl rfl ?_
      cases hf
      exact gret_i C hr hk (kX9_list _ (List.mem_of_getElem? (i := 57) rfl)).1
    · rw [if_neg hc] at hf ⊢
      obtain ⟨hok, hf⟩ := grd_ex hf
      refine msegT C kX9_list 7 5 (g := ((kI (129 + 8) v4 && (kO 129 9 && true)), 19, [.ref (129), .int v1, .int v2, .int v3, .int v4, .retAddr 0], [], mk b (sI S (129 + 8) (mIx v4) (0 : Int32)))) rfl hok ?_
      obtain ⟨S1, eS1, hf⟩ := bnd_ex hf
      rw [← eS1]
      refine msegT C kX9_list 12 2 (g := (true, 22, [.ref (129), .int v1, .int v2, .int v3, .int v4, .int (0 : Int32)], [], mk b S1)) rfl rfl ?_
      exact mfor (L' := [.ref (129), .int v1, .int v2, .int v3, .int v4, .int (0 : Int32)]) ⟨Or.inr rfl, Or.inr rfl, Or.inr rfl, Or.inr rfl, Or.inr rfl, Or.inr rfl, trivial⟩ (bX9_list_22_129 C hr hk ih _ _ _ _ _ _ _ hf true)
theorem bX9_list_0_129 (C : mCx p (mR 1) s m args meth c G cX9_list RX9 6 false 233 54500 233 54500) (hr : meth.sig.returnType = (some .int)) (hk : meth.locks = false) {b : Bool} {S' : mT} {r : Int32} {v1 : Int32} {v2 : Int32} {S : mT} (hf : fX9_list 129 v1 v2 S = some (r, S')) (ok : Bool) : mW p l e (mR 1) s m args below meth c G 6 233 54500 (mQ below G args s b S' (some (.int r))) (ok, 0, [.ref (129), .int v1, .int v2, .retAddr 0, .retAddr 0, .retAddr 0], [], mk b S) := by
  unfold fX9_list at hf
  refine msegT C kX9_list 0 4 (g := (true, 5, [.ref (129), .int v1, .int v2, .int (0 : Int32), .int (0 : Int32), .retAddr 0], [], mk b S)) rfl rfl ?_
  exact mfor (L' := [.ref (129), .int v1, .int v2, .int (0 : Int32), .int (0 : Int32), .retAddr 0]) ⟨Or.inr rfl, Or.inr rfl, Or.inr rfl, Or.inr rfl, Or.inr rfl, Or.inl rfl, trivial⟩ (bX9_list_5_129 C hr hk _ _ _ _ _ _ hf true)
theorem qX9_list_129 {b : Bool} {v1 : Int32} {v2 : Int32} {S S' : mT} {r : Int32} (hf : fX9_list 129 v1 v2 S = some (r, S')) : mOk l mX9_list 1 [.ref (129), .int v1, .int v2] b S (some (.int r)) S' :=
  gMet (by decide) (Nat.le_of_ble_eq_true rfl) rfl (Nat.le_of_ble_eq_true rfl) (fun p e s m args below meth c G C hr hk => bX9_list_0_129 C hr hk hf true)
theorem bX10_learn_136 (C : mCx p (mR 19) s m args meth c G cX10_learn RX10 5 false 233 54500 233 54500) (hr : meth.sig.returnType = none) (hk : meth.locks = false) {b : Bool} {S' : mT} : ∀ (k : Nat) (v4 : Int32) (S : mT), fX10_learn_136 k v4 S = some S' → ∀ ok : Bool, mW p l e (mR 19) s m args below meth c G 5 233 54500 (mQ below G args s b S' none) (ok, 136, [.ref (120), .retAddr 0, .retAddr 0, .retAddr 0, .int v4], [], mk b S) := by
  intro k
  induction k with
  | zero =>
    intro v4 S hf ok
    cases hf
  | succ k ih =>
    intro v4 S hf ok
    unfold fX10_learn_136 at hf
    obtain ⟨hok, hf⟩ := grd_ex hf
    refine msegT C kX10_learn 72 4 (g := ((kO 120 10 && true), (if (S.1 120 9) ≤ v4 then 168 else 145), [.ref (120), .retAddr 0, .retAddr 0, .retAddr 0, .int v4], [], mk b S)) rfl hok ?_
    by_cases hc : (S.1 120 9) ≤ v4
    · rw [if_pos hc] at hf ⊢
      cases hf
      exact gret_v C hr hk (kX10_learn _ (List.mem_of_getElem? (i := 87) rfl)).1
    · rw [if_neg hc] at hf ⊢
      obtain ⟨hok, hf⟩ := grd_ex hf
      refine msegT C kX10_learn 76 8 (g := ((decide (¬ (8 : Int32) = 0) && (kO 120 10 && (kR 121 v4 && (kO 120 10 && true)))), 159, [.ref (120), .retAddr 0, .retAddr 0, .retAddr 0, .int v4], [.int ((S.1 120 8) / (8 : Int32)), .ref (rowR 121 (mIx v4))], mk b S)) rfl hok ?_
      obtain ⟨S17, hq, hf⟩ := bndV_ex hf
      refine mcall (kd := 1) (vs := [.ref (rowR 121 (mIx v4)), .int ((S.1 120 8) / (8 : Int32))]) (rest := []) (r := none) (h' := mk b S17) (ok' := true) C lkRX10_61 (qJ7_fill_53178 hq) (kX10_learn _ (List.mem_of_getElem? (i := 84) rfl)).1 rfl (Nat.le_of_ble_eq_true rfl) (Nat.le_of_ble_eq_true rfl) (Nat.le_refl _) (Nat.le_refl _) (Nat.le_of_ble_eq_true rfl) ?_
      refine msegT C kX10_learn 85 1 (g := (true, 165, [.ref (120), .retAddr 0, .retAddr 0, .retAddr 0, .int (v4 + (1 : Int32))], [], mk b S17)) rfl rfl ?_
      obtain ⟨x18, ex18, hf⟩ := bnd_ex hf
      rw [← ex18]
      refine msegT C kX10_learn 86 1 (g := (true, 136, [.ref (120), .retAddr 0, .retAddr 0, .retAddr 0, .int x18], [], mk b S17)) rfl rfl ?_
      exact mfor (L' := [.ref (120), .retAddr 0, .retAddr 0, .retAddr 0, .int x18]) ⟨Or.inr rfl, Or.inl rfl, Or.inl rfl, Or.inl rfl, Or.inr rfl, trivial⟩ (ih _ _ hf true)
theorem bX10_learn_127 (C : mCx p (mR 19) s m args meth c G cX10_learn RX10 5 false 233 54500 233 54500) (hr : meth.sig.returnType = none) (hk : meth.locks = false) {b : Bool} {S' : mT} {s0 : Int32} {S : mT} (hf : fX10_learn_127 s0 S = some S') (ok : Bool) : mW p l e (mR 19) s m args below meth c G 5 233 54500 (mQ below G args s b S' none) (ok, 127, [.ref (120), .retAddr 0, .retAddr 0, .retAddr 0, .retAddr 0], [.int s0, .ref (120)], mk b S) := by
  unfold fX10_learn_127 at hf
  obtain ⟨hok, hf⟩ := grd_ex hf
  refine msegT C kX10_learn 68 1 (g := ((kO 120 10 && true), 130, [.ref (120), .retAddr 0, .retAddr 0, .retAddr 0, .retAddr 0], [], mk b (sI S 120 8 s0))) rfl hok ?_
  obtain ⟨S15, eS15, hf⟩ := bnd_ex hf
  rw [← eS15]
  obtain ⟨hok, hf⟩ := grd_ex hf
  refine msegT C kX10_learn 69 3 (g := ((kO 120 10 && true), 136, [.ref (120), .retAddr 0, .retAddr 0, .retAddr 0, .int (S15.1 120 12)], [], mk b S15)) rfl hok ?_
  obtain ⟨x16, ex16, hf⟩ := bnd_ex hf
  rw [← ex16]
  exact mfor (L' := [.ref (120), .retAddr 0, .retAddr 0, .retAddr 0, .int x16]) ⟨Or.inr rfl, Or.inl rfl, Or.inl rfl, Or.inl rfl, Or.inr rfl, trivial⟩ (bX10_learn_136 C hr hk _ _ _ hf true)
theorem bX10_learn_67 (C : mCx p (mR 19) s m args meth c G cX10_learn RX10 5 false 233 54500 233 54500) (hr : meth.sig.returnType = none) (hk : meth.locks = false) {b : Bool} {S' : mT} : ∀ (k : Nat) (v4 : Int32) (S : mT), fX10_learn_67 k v4 S = some S' → ∀ ok : Bool, mW p l e (mR 19) s m args below meth c G 5 233 54500 (mQ below G args s b S' none) (ok, 67, [.ref (120), .retAddr 0, .retAddr 0, .retAddr 0, .int v4], [], mk b S) := by
  intro k
  induction k with
  | zero =>
    intro v4 S hf ok
    cases hf
  | succ k ih =>
    intro v4 S hf ok
    unfold fX10_learn_67 at hf
    refine msegT C kX10_learn 36 3 (g := (true, (if (5 : Int32) ≤ v4 then 90 else 73), [.ref (120), .retAddr 0, .retAddr 0, .retAddr 0, .int v4], [], mk b S)) rfl rfl ?_
    by_cases hc : (5 : Int32) ≤ v4
    · rw [if_pos hc] at hf ⊢
      obtain ⟨hok, hf⟩ := grd_ex hf
      refine msegT C kX10_learn 47 10 (g := ((kO 120 10 && (kO 120 10 && true)), 104, [.ref (120), .retAddr 0, .retAddr 0, .retAddr 0, .int v4], [.int ((1 : Int32) <<< (((3 : Int32) * ((S.1 120 9) - (S.1 120 12))) &&& 31)), .ref (120)], mk b S)) rfl hok ?_
      obtain ⟨hok, hf⟩ := grd_ex hf
      refine msegT C kX10_learn 57 1 (g := ((kO 120 10 && true), 107, [.ref (120), .retAddr 0, .retAddr 0, .retAddr 0, .int v4], [], mk b (sI S 120 13 ((1 : Int32) <<< (((3 : Int32) * ((S.1 120 9) - (S.1 120 12))) &&& 31))))) rfl hok ?_
      obtain ⟨S10, eS10, hf⟩ := bnd_ex hf
      rw [← eS10]
      obtain ⟨hok, hf⟩ := grd_ex hf
      refine msegT C kX10_learn 58 4 (g := ((kO 120 10 && true), (if (S10.1 120 12) = 0 then 115 else 122), [.ref (120), .retAddr 0, .retAddr 0, .retAddr 0, .int v4], [.ref (120)], mk b S10)) rfl hok ?_
      by_cases hc : (S10.1 120 12) = 0
      · rw [if_pos hc] at hf ⊢
        obtain ⟨hok, hf⟩ := grd_ex hf
        refine msegT C kX10_learn 62 3 (g := ((kO 120 10 && true), 127, [.ref (120), .retAddr 0, .retAddr 0, .retAddr 0, .int v4], [.int (S10.1 120 13), .ref (120)], mk b S10)) rfl hok ?_
        exact mfor (L' := [.ref (120), .retAddr 0, .retAddr 0, .retAddr 0, .retAddr 0]) ⟨Or.inr rfl, Or.inl rfl, Or.inl rfl, Or.inl rfl, Or.inl rfl, trivial⟩ (bX10_learn_127 C hr hk hf true)
      · rw [if_neg hc] at hf ⊢
        refine msegT C kX10_learn 65 2 (g := (true, 124, [.ref (120), .retAddr 0, .retAddr 0, .retAddr 0, .int v4], [.int (0 : Int32), .ref (120), .ref (120)], mk b S10)) rfl rfl ?_
        obtain ⟨x12, S11, hq, hf⟩ := bndC_ex hf
        refine mcall (kd := 0) (vs := [.ref (120), .int (0 : Int32)]) (rest := [.ref (120)]) (r := (some (.int x12))) (h' := mk b S11) (ok' := true) C lkRX10_70 (qX10_countFrom 16 hq) (kX10_learn _ (List.mem_of_getElem? (i := 67) rfl)).1 ⟨_, _, rfl, rfl, Nat.le_of_ble_eq_true rfl, _, _, rfl, rfl, rfl⟩ (Nat.le_of_ble_eq_true rfl) (Nat.le_of_ble_eq_true rfl) (Nat.le_refl _) (Nat.le_refl _) (Nat.le_of_ble_eq_true rfl) ?_
        exact mfor (L' := [.ref (120), .retAddr 0, .retAddr 0, .retAddr 0, .retAddr 0]) ⟨Or.inr rfl, Or.inl rfl, Or.inl rfl, Or.inl rfl, Or.inl rfl, trivial⟩ (bX10_learn_127 C hr hk hf true)
    · rw [if_neg hc] at hf ⊢
      obtain ⟨hok, hf⟩ := grd_ex hf
      refine msegT C kX10_learn 39 5 (g := ((kR 121 v4 && (kO 120 10 && true)), 81, [.ref (120), .retAddr 0, .retAddr 0, .retAddr 0, .int v4], [.int (0 : Int32), .ref (rowR 121 (mIx v4))], mk b S)) rfl hok ?_
      obtain ⟨S13, hq, hf⟩ := bndV_ex hf
      refine mcall (kd := 1) (vs := [.ref (rowR 121 (mIx v4)), .int (0 : Int32)]) (rest := []) (r := none) (h' := mk b S13) (ok' := true) C lkRX10_61 (qJ7_fill_53178 hq) (kX10_learn _ (List.mem_of_getElem? (i := 44) rfl)).1 rfl (Nat.le_of_ble_eq_true rfl) (Nat.le_of_ble_eq_true rfl) (Nat.le_refl _) (Nat.le_refl _) (Nat.le_of_ble_eq_true rfl) ?_
      refine msegT C kX10_learn 45 1 (g := (true, 87, [.ref (120), .retAddr 0, .retAddr 0, .retAddr 0, .int (v4 + (1 : Int32))], [], mk b S13)) rfl rfl ?_
      obtain ⟨x14, ex14, hf⟩ := bnd_ex hf
      rw [← ex14]
      refine msegT C kX10_learn 46 1 (g := (true, 67, [.ref (120), .retAddr 0, .retAddr 0, .retAddr 0, .int x14], [], mk b S13)) rfl rfl ?_
      exact mfor (L' := [.ref (120), .retAddr 0, .retAddr 0, .retAddr 0, .int x14]) ⟨Or.inr rfl, Or.inl rfl, Or.inl rfl, Or.inl rfl, Or.inr rfl, trivial⟩ (ih _ _ hf true)
theorem bX10_learn_24 (C : mCx p (mR 19) s m args meth c G cX10_learn RX10 5 false 233 54500 233 54500) (hr : meth.sig.returnType = none) (hk : meth.locks = false) {b : Bool} {S' : mT} {v2 : Int32} {v3 : Int32} {S : mT} (hf : fX10_learn_24 v2 v3 S = some S') (ok : Bool) : mW p l e (mR 19) s m args below meth c G 5 233 54500 (mQ below G args s b S' none) (ok, 24, [.ref (120), .ref (114), .int v2, .int v3, .retAddr 0], [], mk b S) := by
  unfold fX10_learn_24 at hf
  obtain ⟨hok, hf⟩ := grd_ex hf
  refine msegT C kX10_learn 12 3 (g := ((mFit .boolean (1 : Int32) && (kO 120 10 && true)), 29, [.ref (120), .ref (114), .int v2, .int v3, .retAddr 0], [], mk b (sI S 120 14 (1 : Int32)))) rfl hok ?_
  obtain ⟨S1, eS1, hf⟩ := bnd_ex hf
  rw [← eS1]
  obtain ⟨hok, hf⟩ := grd_ex hf
  refine msegT C kX10_learn 15 3 (g := ((kO 120 10 && true), 34, [.ref (120), .ref (114), .int v2, .int v3, .retAddr 0], [], mk b (sI S1 120 10 v2))) rfl hok ?_
  obtain ⟨S2, eS2, hf⟩ := bnd_ex hf
  rw [← eS2]
  obtain ⟨hok, hf⟩ := grd_ex hf
  refine msegT C kX10_learn 18 3 (g := ((kO 120 10 && true), 39, [.ref (120), .ref (114), .int v2, .int v3, .retAddr 0], [], mk b (sI S2 120 9 v3))) rfl hok ?_
  obtain ⟨S3, eS3, hf⟩ := bnd_ex hf
  rw [← eS3]
  obtain ⟨hok, hf⟩ := grd_ex hf
  refine msegT C kX10_learn 21 3 (g := ((kO 120 10 && true), 44, [.ref (120), .ref (114), .int v2, .int v3, .retAddr 0], [], mk b (sI S3 120 11 (-1 : Int32)))) rfl hok ?_
  obtain ⟨S4, eS4, hf⟩ := bnd_ex hf
  rw [← eS4]
  obtain ⟨hok, hf⟩ := grd_ex hf
  refine msegT C kX10_learn 24 5 (g := ((kO 120 10 && true), 51, [.ref (120), .ref (114), .int v2, .int v3, .retAddr 0], [.ref (114), .ref (120), .ref 129, .ref (120)], mk b S4)) rfl hok ?_
  obtain ⟨x6, S5, hq, hf⟩ := bndC_ex hf
  refine mcall (kd := 0) (vs := [.ref (120), .ref (114)]) (rest := [.ref 129, .ref (120)]) (r := (some (.int x6))) (h' := mk b S5) (ok' := true) C lkRX10_50 (qX10_takeReports hq) (kX10_learn _ (List.mem_of_getElem? (i := 29) rfl)).1 ⟨_, _, rfl, rfl, Nat.le_of_ble_eq_true rfl, _, _, rfl, rfl, rfl⟩ (Nat.le_of_ble_eq_true rfl) (Nat.le_of_ble_eq_true rfl) (Nat.le_refl _) (Nat.le_refl _) (Nat.le_of_ble_eq_true rfl) ?_
  obtain ⟨hok, hf⟩ := grd_ex hf
  refine msegT C kX10_learn 30 2 (g := ((kO 120 10 && true), 58, [.ref (120), .ref (114), .int v2, .int v3, .retAddr 0], [.int (S5.1 120 9), .int x6, .ref 129, .ref (120)], mk b S5)) rfl hok ?_
  obtain ⟨x8, S7, hq, hf⟩ := bndC_ex hf
  refine mcall (kd := 0) (vs := [.ref 129, .int x6, .int (S5.1 120 9)]) (rest := [.ref (120)]) (r := (some (.int x8))) (h' := mk b S7) (ok' := true) C lkRX10_54 (qX9_list_129 hq) (kX10_learn _ (List.mem_of_getElem? (i := 32) rfl)).1 ⟨_, _, rfl, rfl, Nat.le_of_ble_eq_true rfl, _, _, rfl, rfl, rfl⟩ (Nat.le_of_ble_eq_true rfl) (Nat.le_of_ble_eq_true rfl) (Nat.le_refl _) (Nat.le_refl _) (Nat.le_of_ble_eq_true rfl) ?_
  obtain ⟨hok, hf⟩ := grd_ex hf
  refine msegT C kX10_learn 33 1 (g := ((kO 120 10 && true), 64, [.ref (120), .ref (114), .int v2, .int v3, .retAddr 0], [], mk b (sI S7 120 12 x8))) rfl hok ?_
  obtain ⟨S9, eS9, hf⟩ := bnd_ex hf
  rw [← eS9]
  refine msegT C kX10_learn 34 2 (g := (true, 67, [.ref (120), .ref (114), .int v2, .int v3, .int (0 : Int32)], [], mk b S9)) rfl rfl ?_
  exact mfor (L' := [.ref (120), .retAddr 0, .retAddr 0, .retAddr 0, .int (0 : Int32)]) ⟨Or.inr rfl, Or.inl rfl, Or.inl rfl, Or.inl rfl, Or.inr rfl, trivial⟩ (bX10_learn_67 C hr hk _ _ _ hf true)
theorem bX10_learn_0 (C : mCx p (mR 19) s m args meth c G cX10_learn RX10 5 false 233 54500 233 54500) (hr : meth.sig.returnType = none) (hk : meth.locks = false) {b : Bool} {S' : mT} {v2 : Int32} {v3 : Int32} {S : mT} (hf : fX10_learn v2 v3 S = some S') (ok : Bool) : mW p l e (mR 19) s m args below meth c G 5 233 54500 (mQ below G args s b S' none) (ok, 0, [.ref (120), .ref (114), .int v2, .int v3, .retAddr 0], [], mk b S) := by
  unfold fX10_learn at hf
  obtain ⟨hok, hf⟩ := grd_ex hf
  refine msegT C kX10_learn 0 3 (g := ((kO 120 10 && true), (if (S.1 120 14) = 0 then 24 else 7), [.ref (120), .ref (114), .int v2, .int v3, .retAddr 0], [], mk b S)) rfl hok ?_
  by_cases hc : (S.1 120 14) = 0
  · rw [if_pos hc] at hf ⊢
    exact mfor (L' := [.ref (120), .ref (114), .int v2, .int v3, .retAddr 0]) ⟨Or.inr rfl, Or.inr rfl, Or.inr rfl, Or.inr rfl, Or.inl rfl, trivial⟩ (bX10_learn_24 C hr hk hf true)
  · rw [if_neg hc] at hf ⊢
    obtain ⟨hok, hf⟩ := grd_ex hf
    refine msegT C kX10_learn 3 4 (g := ((kO 120 10 && true), (if (S.1 120 10) = v2 then 15 else 24), [.ref (120), .ref (114), .int v2, .int v3, .retAddr 0], [], mk b S)) rfl hok ?_
    by_cases hc : (S.1 120 10) = v2
    · rw [if_pos hc] at hf ⊢
      obtain ⟨hok, hf⟩ := grd_ex hf
      refine msegT C kX10_learn 7 4 (g := ((kO 120 10 && true), (if (S.1 120 9) = v3 then 23 else 24), [.ref (120), .ref (114), .int v2, .int v3, .retAddr 0], [], mk b S)) rfl hok ?_
      by_cases hc : (S.1 120 9) = v3
      · rw [if_pos hc] at hf ⊢
        cases hf
        exact gret_v C hr hk (kX10_learn _ (List.mem_of_getElem? (i := 11) rfl)).1
      · rw [if_neg hc] at hf ⊢
        exact mfor (L' := [.ref (120), .ref (114), .int v2, .int v3, .retAddr 0]) ⟨Or.inr rfl, Or.inr rfl, Or.inr rfl, Or.inr rfl, Or.inl rfl, trivial⟩ (bX10_learn_24 C hr hk hf true)
    · rw [if_neg hc] at hf ⊢
      exact mfor (L' := [.ref (120), .ref (114), .int v2, .int v3, .retAddr 0]) ⟨Or.inr rfl, Or.inr rfl, Or.inr rfl, Or.inr rfl, Or.inl rfl, trivial⟩ (bX10_learn_24 C hr hk hf true)
theorem qX10_learn {b : Bool} {v2 : Int32} {v3 : Int32} {S S' : mT} (hf : fX10_learn v2 v3 S = some S') : mOk l mX10_learn 19 [.ref (120), .ref (114), .int v2, .int v3] b S none S' :=
  gMet (by decide) (Nat.le_of_ble_eq_true rfl) rfl (Nat.le_of_ble_eq_true rfl) (fun p e s m args below meth c G C hr hk => bX10_learn_0 C hr hk hf true)
theorem bX10_mostIn_3 (C : mCx p (mR 1) s m args meth c G cX10_mostIn RX10 3 false 233 54500 233 54500) (hr : meth.sig.returnType = (some .int)) (hk : meth.locks = false) {b : Bool} {S' : mT} {r : Int32} : ∀ (k : Nat) (v1 : Int32) (v2 : Int32) (S : mT), fX10_mostIn_3 k v1 v2 S = some (r, S') → ∀ ok : Bool, mW p l e (mR 1) s m args below meth c G 3 233 54500 (mQ below G args s b S' (some (.int r))) (ok, 3, [.ref (120), .int v1, .int v2], [], mk b S) := by
  intro k
  induction k with
  | zero =>
    intro v1 v2 S hf ok
    cases hf
  | succ k ih =>
    intro v1 v2 S hf ok
    unfold fX10_mostIn_3 at hf
    refine msegT C kX10_mostIn 2 2 (g := (true, (if v2 < 0 then 26 else 7), [.ref (120), .int v1, .int v2], [], mk b S)) rfl rfl ?_
    by_cases hc : v2 < 0
    · rw [if_pos hc] at hf ⊢
      refine msegT C kX10_mostIn 15 1 (g := (true, 27, [.ref (120), .int v1, .int v2], [.int (-1 : Int32)], mk b S)) rfl rfl ?_
      cases hf
      exact gret_i C hr hk (kX10_mostIn _ (List.mem_of_getElem? (i := 16) rfl)).1
    · rw [if_neg hc] at hf ⊢
      obtain ⟨hok, hf⟩ := grd_ex hf
      refine msegT C kX10_mostIn 4 7 (g := ((kI (rowR 121 (mIx v1)) v2 && (kR 121 v1 && (kO 120 10 && true))), (if (S.1 (rowR 121 (mIx v1)) (mIx v2)) ≤ 0 then 20 else 18), [.ref (120), .int v1, .int v2], [], mk b S)) rfl hok ?_
      by_cases hc : (S.1 (rowR 121 (mIx v1)) (mIx v2)) ≤ 0
      · rw [if_pos hc] at hf ⊢
        refine msegT C kX10_mostIn 13 1 (g := (true, 23, [.ref (120), .int v1, .int (v2 + (-1 : Int32))], [], mk b S)) rfl rfl ?_
        obtain ⟨x1, ex1, hf⟩ := bnd_ex hf
        rw [← ex1]
        refine msegT C kX10_mostIn 14 1 (g := (true, 3, [.ref (120), .int v1, .int x1], [], mk b S)) rfl rfl ?_
        exact mfor (L' := [.ref (120), .int v1, .int x1]) ⟨Or.inr rfl, Or.inr rfl, Or.inr rfl, trivial⟩ (ih _ _ _ hf true)
      · rw [if_neg hc] at hf ⊢
        refine msegT C kX10_mostIn 11 1 (g := (true, 19, [.ref (120), .int v1, .int v2], [.int v2], mk b S)) rfl rfl ?_
        cases hf
        exact gret_i C hr hk (kX10_mostIn _ (List.mem_of_getElem? (i := 12) rfl)).1
theorem bX10_mostIn_0 (C : mCx p (mR 1) s m args meth c G cX10_mostIn RX10 3 false 233 54500 233 54500) (hr : meth.sig.returnType = (some .int)) (hk : meth.locks = false) {b : Bool} {S' : mT} {r : Int32} {v1 : Int32} {S : mT} (hf : fX10_mostIn v1 S = some (r, S')) (ok : Bool) : mW p l e (mR 1) s m args below meth c G 3 233 54500 (mQ below G args s b S' (some (.int r))) (ok, 0, [.ref (120), .int v1, .retAddr 0], [], mk b S) := by
  unfold fX10_mostIn at hf
  refine msegT C kX10_mostIn 0 2 (g := (true, 3, [.ref (120), .int v1, .int (7 : Int32)], [], mk b S)) rfl rfl ?_
  exact mfor (L' := [.ref (120), .int v1, .int (7 : Int32)]) ⟨Or.inr rfl, Or.inr rfl, Or.inr rfl, trivial⟩ (bX10_mostIn_3 C hr hk _ _ _ _ hf true)
theorem qX10_mostIn {b : Bool} {v1 : Int32} {S S' : mT} {r : Int32} (hf : fX10_mostIn v1 S = some (r, S')) : mOk l mX10_mostIn 1 [.ref (120), .int v1] b S (some (.int r)) S' :=
  gMet (by decide) (Nat.le_of_ble_eq_true rfl) rfl (Nat.le_of_ble_eq_true rfl) (fun p e s m args below meth c G C hr hk => bX10_mostIn_0 C hr hk hf true)
theorem bX10_tellingSet_16 (C : mCx p (mR 20) s m args meth c G cX10_tellingSet RX10 1 false 233 54500 233 54500) (hr : meth.sig.returnType = (some .int)) (hk : meth.locks = false) {b : Bool} {S' : mT} {r : Int32} {S : mT} (hf : fX10_tellingSet_16 S = some (r, S')) (ok : Bool) : mW p l e (mR 20) s m args below meth c G 1 233 54500 (mQ below G args s b S' (some (.int r))) (ok, 16, [.ref (120)], [], mk b S) := by
  unfold fX10_tellingSet_16 at hf
  obtain ⟨hok, hf⟩ := grd_ex hf
  refine msegT C kX10_tellingSet 8 2 (g := ((kO 120 10 && true), 20, [.ref (120)], [.int (S.1 120 11)], mk b S)) rfl hok ?_
  cases hf
  exact gret_i C hr hk (kX10_tellingSet _ (List.mem_of_getElem? (i := 10) rfl)).1
theorem bX10_tellingSet_0 (C : mCx p (mR 20) s m args meth c G cX10_tellingSet RX10 1 false 233 54500 233 54500) (hr : meth.sig.returnType = (some .int)) (hk : meth.locks = false) {b : Bool} {S' : mT} {r : Int32} {S : mT} (hf : fX10_tellingSet S = some (r, S')) (ok : Bool) : mW p l e (mR 20) s m args below meth c G 1 233 54500 (mQ below G args s b S' (some (.int r))) (ok, 0, [.ref (120)], [], mk b S) := by
  unfold fX10_tellingSet at hf
  obtain ⟨hok, hf⟩ := grd_ex hf
  refine msegT C kX10_tellingSet 0 4 (g := ((kO 120 10 && true), (if (S.1 120 11) = (-1 : Int32) then 8 else 16), [.ref (120)], [], mk b S)) rfl hok ?_
  by_cases hc : (S.1 120 11) = (-1 : Int32)
  · rw [if_pos hc] at hf ⊢
    refine msegT C kX10_tellingSet 4 2 (g := (true, 10, [.ref (120)], [.ref (120), .ref (120)], mk b S)) rfl rfl ?_
    obtain ⟨x2, S1, hq, hf⟩ := bndC_ex hf
    refine mcall (kd := 0) (vs := [.ref (120)]) (rest := [.ref (120)]) (r := (some (.int x2))) (h' := mk b S1) (ok' := true) C lkRX10_121 (qX10_findTelling hq) (kX10_tellingSet _ (List.mem_of_getElem? (i := 6) rfl)).1 ⟨_, _, rfl, rfl, Nat.le_of_ble_eq_true rfl, _, _, rfl, rfl, rfl⟩ (Nat.le_of_ble_eq_true rfl) (Nat.le_of_ble_eq_true rfl) (Nat.le_refl _) (Nat.le_refl _) (Nat.le_of_ble_eq_true rfl) ?_
    obtain ⟨hok, hf⟩ := grd_ex hf
    refine msegT C kX10_tellingSet 7 1 (g := ((kO 120 10 && true), 16, [.ref (120)], [], mk b (sI S1 120 11 x2))) rfl hok ?_
    obtain ⟨S3, eS3, hf⟩ := bnd_ex hf
    rw [← eS3]
    exact mfor (L' := [.ref (120)]) ⟨Or.inr rfl, trivial⟩ (bX10_tellingSet_16 C hr hk hf true)
  · rw [if_neg hc] at hf ⊢
    exact mfor (L' := [.ref (120)]) ⟨Or.inr rfl, trivial⟩ (bX10_tellingSet_16 C hr hk hf true)
theorem qX10_tellingSet {b : Bool} {S S' : mT} {r : Int32} (hf : fX10_tellingSet S = some (r, S')) : mOk l mX10_tellingSet 20 [.ref (120)] b S (some (.int r)) S' :=
  gMet (by decide) (Nat.le_of_ble_eq_true rfl) rfl (Nat.le_of_ble_eq_true rfl) (fun p e s m args below meth c G C hr hk => bX10_tellingSet_0 C hr hk hf true)
theorem bX8_unitsOfLaws_0_3 (C : mCx p (mR 1) s m args meth c G cX8_unitsOfLaws RX8 1 false 233 54500 233 54500) (hr : meth.sig.returnType = (some .int)) (hk : meth.locks = false) {b : Bool} {S' : mT} {r : Int32} {S : mT} (hf : fX8_unitsOfLaws 3 S = some (r, S')) (ok : Bool) : mW p l e (mR 1) s m args below meth c G 1 233 54500 (mQ below G args s b S' (some (.int r))) (ok, 0, [.ref (3)], [], mk b S) := by
  unfold fX8_unitsOfLaws at hf
  obtain ⟨hok, hf⟩ := grd_ex hf
  refine msegT C kX8_unitsOfLaws 0 10 (g := ((kO (3 + 12) 0 && (kO 3 8 && (kO (3 + 9) 0 && (kO 3 8 && (kO (3 + 6) 0 && (kO 3 8 && true)))))), 22, [.ref (3)], [.int (S.1 (3 + 12) 3), .int ((S.1 (3 + 6) 3) + (S.1 (3 + 9) 3))], mk b S)) rfl hok ?_
  refine msegT C kX8_unitsOfLaws 10 1 (g := (true, 23, [.ref (3)], [.int (((S.1 (3 + 6) 3) + (S.1 (3 + 9) 3)) + (S.1 (3 + 12) 3))], mk b S)) rfl rfl ?_
  cases hf
  exact gret_i C hr hk (kX8_unitsOfLaws _ (List.mem_of_getElem? (i := 11) rfl)).1
theorem qX8_unitsOfLaws_3 {b : Bool} {S S' : mT} {r : Int32} (hf : fX8_unitsOfLaws 3 S = some (r, S')) : mOk l mX8_unitsOfLaws 1 [.ref (3)] b S (some (.int r)) S' :=
  gMet (by decide) (Nat.le_of_ble_eq_true rfl) rfl (Nat.le_of_ble_eq_true rfl) (fun p e s m args below meth c G C hr hk => bX8_unitsOfLaws_0_3 C hr hk hf true)
theorem bX8_unitsOfLaws_0_19 (C : mCx p (mR 1) s m args meth c G cX8_unitsOfLaws RX8 1 false 233 54500 233 54500) (hr : meth.sig.returnType = (some .int)) (hk : meth.locks = false) {b : Bool} {S' : mT} {r : Int32} {S : mT} (hf : fX8_unitsOfLaws 19 S = some (r, S')) (ok : Bool) : mW p l e (mR 1) s m args below meth c G 1 233 54500 (mQ below G args s b S' (some (.int r))) (ok, 0, [.ref (19)], [], mk b S) := by
  unfold fX8_unitsOfLaws at hf
  obtain ⟨hok, hf⟩ := grd_ex hf
  refine msegT C kX8_unitsOfLaws 0 10 (g := ((kO (19 + 12) 0 && (kO 19 8 && (kO (19 + 9) 0 && (kO 19 8 && (kO (19 + 6) 0 && (kO 19 8 && true)))))), 22, [.ref (19)], [.int (S.1 (19 + 12) 3), .int ((S.1 (19 + 6) 3) + (S.1 (19 + 9) 3))], mk b S)) rfl hok ?_
  refine msegT C kX8_unitsOfLaws 10 1 (g := (true, 23, [.ref (19)], [.int (((S.1 (19 + 6) 3) + (S.1 (19 + 9) 3)) + (S.1 (19 + 12) 3))], mk b S)) rfl rfl ?_
  cases hf
  exact gret_i C hr hk (kX8_unitsOfLaws _ (List.mem_of_getElem? (i := 11) rfl)).1
theorem qX8_unitsOfLaws_19 {b : Bool} {S S' : mT} {r : Int32} (hf : fX8_unitsOfLaws 19 S = some (r, S')) : mOk l mX8_unitsOfLaws 1 [.ref (19)] b S (some (.int r)) S' :=
  gMet (by decide) (Nat.le_of_ble_eq_true rfl) rfl (Nat.le_of_ble_eq_true rfl) (fun p e s m args below meth c G C hr hk => bX8_unitsOfLaws_0_19 C hr hk hf true)
end GP
