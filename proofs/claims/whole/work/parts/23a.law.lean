/-! THE LAW'S ROWS, and each pair of calls. -/
def zEn (s : State) (G : mG) (b0 Ln : Nat) (xs : Nat → Int32) : Prop := va_X b0 Ln xs s s.heap ∧ b0 < s.heap.size ∧ G.1 = s.heap.size ∧ G.2.1 300 = b0
abbrev zC (p : Program) (s : State) (m : MethodId) (meth : Method) (c : Code) (G : mG) (b0 : Nat) : Prop := mCx p room_1 s m #[Value.ref b0] meth c G cL_law RL 4 false 233 54500 0 0
abbrev zW (p : Program) (l : Launch) (e : Env) (s : State) (m : MethodId) (below : List Frame) (meth : Method) (c : Code) (G : mG) (b0 : Nat) (Q : State → Prop) (f : mC) : Prop := mW p l e room_1 s m #[Value.ref b0] below meth c G 4 0 0 Q f
/-- what the script holds at i + j -/
def zX (xs : Nat → Int32) (i : Int32) : Int32 := xs (mIx i)
section ZL
variable {p : Program} {l : Launch} {e : Env} {s : State} {m : MethodId} {below : List Frame} {meth : Method} {c : Code} {G : mG} {b0 Ln : Nat} {xs : Nat → Int32} {Q : State → Prop}
theorem zCv (E : zEn s G b0 Ln xs) : mCv G (.ref 900300) = .ref b0 := by
  have h : mCv G (.ref (900000 + 300)) = .ref (G.2.1 300) := mCv_x (by omega)
  rw [E.2.2.2] at h
  exact h
theorem zNA (E : zEn s G b0 Ln xs) : ¬ mA G b0 := by
  have h1 := E.2.1
  have h2 := E.2.2.1
  show ¬ G.1 ≤ b0
  omega
theorem so_scr (C : zC p s m meth c G b0) (E : zEn s G b0 Ln xs) {pc : Nat} {i : Int32} {L st : List Value} {h : mHp} {ok ok' : Bool} (hin : vp_in i Ln) (hd : decode cL_law pc = .ok (.iaload, 1))
    (k : zW p l e s m below meth c G b0 Q (ok', pc + 1, L, .int (zX xs i) :: st, h)) : zW p l e s m below meth c G b0 Q (ok, pc, L, .int i :: .ref 900300 :: st, h) := by
  intro H locs ls hw hQ hl h0 h1
  have k1 := k H locs ls hw hQ hl h0 h1
  have e1 : ((.int i :: .ref 900300 :: st : List Value).map (mCv G)) = .int i :: .ref b0 :: st.map (mCv G) := by
    rw [List.map_cons, List.map_cons, zCv E]
    rfl
  show W p l e room_1 s m #[Value.ref b0] below meth c H locs _ _ Q (F0 m pc ls ((.int i :: .ref 900300 :: st : List Value).map (mCv G)))
  rw [e1]
  exact va_sld C.1 C.2.1 E.1 E.2.1 (zNA E) hQ hin hd k1
theorem so_scl (C : zC p s m meth c G b0) (E : zEn s G b0 Ln xs) {pc : Nat} {L st : List Value} {h : mHp} {ok ok' : Bool} (hd : decode cL_law pc = .ok (.arraylength, 1))
    (k : zW p l e s m below meth c G b0 Q (ok', pc + 1, L, .int (Int32.ofNat Ln) :: st, h)) : zW p l e s m below meth c G b0 Q (ok, pc, L, .ref 900300 :: st, h) := by
  intro H locs ls hw hQ hl h0 h1
  have k1 := k H locs ls hw hQ hl h0 h1
  have e1 : ((.ref 900300 :: st : List Value).map (mCv G)) = .ref b0 :: st.map (mCv G) := by
    rw [List.map_cons, zCv E]
  show W p l e room_1 s m #[Value.ref b0] below meth c H locs _ _ Q (F0 m pc ls ((.ref 900300 :: st : List Value).map (mCv G)))
  rw [e1]
  exact va_slen C.1 C.2.1 E.1 E.2.1 (zNA E) hQ hd k1
end ZL
def tL_0 : List mI := [(216, .aload_n 1, 1, 0, 0), (217, .aload_n 0, 1, 0, 0), (218, .iload_n 3, 1, 0, 0), (219, .iconst 1, 1, 0, 0), (220, .iadd, 1, 0, 0), (221, .iaload, 1, 0, 0), (222, .aload_n 0, 1, 0, 0), (223, .iload_n 3, 1, 0, 0), (224, .iconst 2, 1, 0, 0), (225, .iadd, 1, 0, 0), (226, .iaload, 1, 0, 0), (227, .aload_n 0, 1, 0, 0), (228, .iload_n 3, 1, 0, 0), (229, .iconst 3, 1, 0, 0), (230, .iadd, 1, 0, 0), (231, .iaload, 1, 0, 0), (232, .aload_n 0, 1, 0, 0), (233, .iload_n 3, 1, 0, 0), (234, .iconst 4, 1, 0, 0), (235, .iadd, 1, 0, 0), (236, .iaload, 1, 0, 0), (237, .aload_n 0, 1, 0, 0), (238, .iload_n 3, 1, 0, 0), (239, .iconst 5, 1, 0, 0), (240, .iadd, 1, 0, 0), (241, .iaload, 1, 0, 0), (242, .invokevirtual 13, 3, 0, 0), (245, .aload_n 2, 1, 0, 0), (246, .aload_n 0, 1, 0, 0), (247, .iload_n 3, 1, 0, 0), (248, .iconst 1, 1, 0, 0), (249, .iadd, 1, 0, 0), (250, .iaload, 1, 0, 0), (251, .aload_n 0, 1, 0, 0), (252, .iload_n 3, 1, 0, 0), (253, .iconst 2, 1, 0, 0), (254, .iadd, 1, 0, 0), (255, .iaload, 1, 0, 0), (256, .aload_n 0, 1, 0, 0), (257, .iload_n 3, 1, 0, 0), (258, .iconst 3, 1, 0, 0), (259, .iadd, 1, 0, 0), (260, .iaload, 1, 0, 0), (261, .aload_n 0, 1, 0, 0), (262, .iload_n 3, 1, 0, 0), (263, .iconst 4, 1, 0, 0), (264, .iadd, 1, 0, 0), (265, .iaload, 1, 0, 0), (266, .aload_n 0, 1, 0, 0), (267, .iload_n 3, 1, 0, 0), (268, .iconst 5, 1, 0, 0), (269, .iadd, 1, 0, 0), (270, .iaload, 1, 0, 0), (271, .invokevirtual 17, 3, 0, 0), (274, .if_icmp .eq 1078, 3, 0, 0), (277, .iconst 0, 1, 0, 0), (278, .ireturn, 1, 0, 0)]
set_option maxRecDepth 100000 in
theorem kL_0 : mTok cL_law RL 4 false tL_0 := mTok_of (by decide +kernel) ⟨trivial, trivial, trivial, trivial, trivial, trivial, trivial, trivial, trivial, trivial, trivial, trivial, trivial, trivial, trivial, trivial, trivial, trivial, trivial, trivial, trivial, trivial, trivial, trivial, trivial, trivial, trivial, trivial, trivial, trivial, trivial, trivial, trivial, trivial, trivial, trivial, trivial, trivial, trivial, trivial, trivial, trivial, trivial, trivial, trivial, trivial, trivial, trivial, trivial, trivial, trivial, trivial, trivial, trivial, trivial, trivial, trivial, trivial⟩
theorem z_feed {l : Launch} {b : Bool} {a1 a2 a3 a4 a5 : Int32} {S S' : mT} {r : Int32} (h : fX11_feed a1 a2 a3 a4 a5 S = some (r, S')) : mMet l mX11_feed 2 [.ref 0, .int a1, .int a2, .int a3, .int a4, .int a5] (mk b S) (some (.int r)) (mk b S') := qX11_feed h
section ZL
variable {p : Program} {l : Launch} {e : Env} {s : State} {m : MethodId} {below : List Frame} {meth : Method} {c : Code} {G : mG} {b0 Ln : Nat} {xs : Nat → Int32} {Q : State → Prop}
theorem zc_feed (C : zC p s m meth c G b0) (E : zEn s G b0 Ln xs) {b : Bool} {S S1 S2 : mT} {i r : Int32} {ok : Bool} (hin1 : vp_in (i + (1 : Int32)) Ln) (hin2 : vp_in (i + (2 : Int32)) Ln) (hin3 : vp_in (i + (3 : Int32)) Ln) (hin4 : vp_in (i + (4 : Int32)) Ln) (hin5 : vp_in (i + (5 : Int32)) Ln) (h1 : fX11_feed (zX xs (i + (1 : Int32))) (zX xs (i + (2 : Int32))) (zX xs (i + (3 : Int32))) (zX xs (i + (4 : Int32))) (zX xs (i + (5 : Int32))) S = some (r, S1)) (h2 : fX12_feed (zX xs (i + (1 : Int32))) (zX xs (i + (2 : Int32))) (zX xs (i + (3 : Int32))) (zX xs (i + (4 : Int32))) (zX xs (i + (5 : Int32))) S1 = some (r, S2)) (k : zW p l e s m below meth c G b0 Q (true, 1352, [.ref 900300, .ref 0, .ref 187, .int i], [], mk b S2)) : zW p l e s m below meth c G b0 Q (ok, 216, [.ref 900300, .ref 0, .ref 187, .int i], [], mk b S) := by
  refine msegT C kL_0 0 5 (g := (true, 221, [.ref 900300, .ref 0, .ref 187, .int i], [.int (i + (1 : Int32)), .ref 900300, .ref 0], mk b S)) rfl rfl ?_
  refine so_scr (ok' := true) C E hin1 (kL_0 _ (List.mem_of_getElem? (i := 5) rfl)).1 ?_
  refine msegT C kL_0 6 4 (g := (true, 226, [.ref 900300, .ref 0, .ref 187, .int i], [.int (i + (2 : Int32)), .ref 900300, .int (zX xs (i + (1 : Int32))), .ref 0], mk b S)) rfl rfl ?_
  refine so_scr (ok' := true) C E hin2 (kL_0 _ (List.mem_of_getElem? (i := 10) rfl)).1 ?_
  refine msegT C kL_0 11 4 (g := (true, 231, [.ref 900300, .ref 0, .ref 187, .int i], [.int (i + (3 : Int32)), .ref 900300, .int (zX xs (i + (2 : Int32))), .int (zX xs (i + (1 : Int32))), .ref 0], mk b S)) rfl rfl ?_
  refine so_scr (ok' := true) C E hin3 (kL_0 _ (List.mem_of_getElem? (i := 15) rfl)).1 ?_
  refine msegT C kL_0 16 4 (g := (true, 236, [.ref 900300, .ref 0, .ref 187, .int i], [.int (i + (4 : Int32)), .ref 900300, .int (zX xs (i + (3 : Int32))), .int (zX xs (i + (2 : Int32))), .int (zX xs (i + (1 : Int32))), .ref 0], mk b S)) rfl rfl ?_
  refine so_scr (ok' := true) C E hin4 (kL_0 _ (List.mem_of_getElem? (i := 20) rfl)).1 ?_
  refine msegT C kL_0 21 4 (g := (true, 241, [.ref 900300, .ref 0, .ref 187, .int i], [.int (i + (5 : Int32)), .ref 900300, .int (zX xs (i + (4 : Int32))), .int (zX xs (i + (3 : Int32))), .int (zX xs (i + (2 : Int32))), .int (zX xs (i + (1 : Int32))), .ref 0], mk b S)) rfl rfl ?_
  refine so_scr (ok' := true) C E hin5 (kL_0 _ (List.mem_of_getElem? (i := 25) rfl)).1 ?_
  refine mcall (kd := 0) (vs := [.ref 0, .int (zX xs (i + (1 : Int32))), .int (zX xs (i + (2 : Int32))), .int (zX xs (i + (3 : Int32))), .int (zX xs (i + (4 : Int32))), .int (zX xs (i + (5 : Int32)))]) (rest := []) (r := (some (.int r))) (h' := mk b S1) (ok' := true) C lkRL_13 (z_feed h1) (kL_0 _ (List.mem_of_getElem? (i := 26) rfl)).1 ⟨_, _, rfl, rfl, (Nat.le_of_ble_eq_true rfl), _, _, rfl, rfl, rfl⟩ (Nat.le_of_ble_eq_true rfl) (Nat.le_of_ble_eq_true rfl) (Nat.le_refl _) (Nat.le_refl _) (Nat.le_of_ble_eq_true rfl) ?_
  refine msegT C kL_0 27 5 (g := (true, 250, [.ref 900300, .ref 0, .ref 187, .int i], [.int (i + (1 : Int32)), .ref 900300, .ref 187, .int r], mk b S1)) rfl rfl ?_
  refine so_scr (ok' := true) C E hin1 (kL_0 _ (List.mem_of_getElem? (i := 32) rfl)).1 ?_
  refine msegT C kL_0 33 4 (g := (true, 255, [.ref 900300, .ref 0, .ref 187, .int i], [.int (i + (2 : Int32)), .ref 900300, .int (zX xs (i + (1 : Int32))), .ref 187, .int r], mk b S1)) rfl rfl ?_
  refine so_scr (ok' := true) C E hin2 (kL_0 _ (List.mem_of_getElem? (i := 37) rfl)).1 ?_
  refine msegT C kL_0 38 4 (g := (true, 260, [.ref 900300, .ref 0, .ref 187, .int i], [.int (i + (3 : Int32)), .ref 900300, .int (zX xs (i + (2 : Int32))), .int (zX xs (i + (1 : Int32))), .ref 187, .int r], mk b S1)) rfl rfl ?_
  refine so_scr (ok' := true) C E hin3 (kL_0 _ (List.mem_of_getElem? (i := 42) rfl)).1 ?_
  refine msegT C kL_0 43 4 (g := (true, 265, [.ref 900300, .ref 0, .ref 187, .int i], [.int (i + (4 : Int32)), .ref 900300, .int (zX xs (i + (3 : Int32))), .int (zX xs (i + (2 : Int32))), .int (zX xs (i + (1 : Int32))), .ref 187, .int r], mk b S1)) rfl rfl ?_
  refine so_scr (ok' := true) C E hin4 (kL_0 _ (List.mem_of_getElem? (i := 47) rfl)).1 ?_
  refine msegT C kL_0 48 4 (g := (true, 270, [.ref 900300, .ref 0, .ref 187, .int i], [.int (i + (5 : Int32)), .ref 900300, .int (zX xs (i + (4 : Int32))), .int (zX xs (i + (3 : Int32))), .int (zX xs (i + (2 : Int32))), .int (zX xs (i + (1 : Int32))), .ref 187, .int r], mk b S1)) rfl rfl ?_
  refine so_scr (ok' := true) C E hin5 (kL_0 _ (List.mem_of_getElem? (i := 52) rfl)).1 ?_
  refine mcall (kd := 0) (vs := [.ref 187, .int (zX xs (i + (1 : Int32))), .int (zX xs (i + (2 : Int32))), .int (zX xs (i + (3 : Int32))), .int (zX xs (i + (4 : Int32))), .int (zX xs (i + (5 : Int32)))]) (rest := [.int r]) (r := (some (.int r))) (h' := mk b S2) (ok' := true) C lkRL_17 (qX12_feed h2) (kL_0 _ (List.mem_of_getElem? (i := 53) rfl)).1 ⟨_, _, rfl, rfl, (Nat.le_of_ble_eq_true rfl), _, _, rfl, rfl, rfl⟩ (Nat.le_of_ble_eq_true rfl) (Nat.le_of_ble_eq_true rfl) (Nat.le_refl _) (Nat.le_refl _) (Nat.le_of_ble_eq_true rfl) ?_
  refine msegT C kL_0 54 1 (g := (true, (if r = r then 1352 else 277), [.ref 900300, .ref 0, .ref 187, .int i], [], mk b S2)) rfl rfl ?_
  rw [if_pos rfl]
  exact k
end ZL
def tL_1 : List mI := [(279, .aload_n 1, 1, 0, 0), (280, .aload_n 0, 1, 0, 0), (281, .iload_n 3, 1, 0, 0), (282, .iconst 1, 1, 0, 0), (283, .iadd, 1, 0, 0), (284, .iaload, 1, 0, 0), (285, .invokevirtual 18, 3, 0, 0), (288, .aload_n 2, 1, 0, 0), (289, .aload_n 0, 1, 0, 0), (290, .iload_n 3, 1, 0, 0), (291, .iconst 1, 1, 0, 0), (292, .iadd, 1, 0, 0), (293, .iaload, 1, 0, 0), (294, .invokevirtual 22, 3, 0, 0), (297, .if_icmp .eq 1055, 3, 0, 0), (300, .iconst 0, 1, 0, 0), (301, .ireturn, 1, 0, 0)]
set_option maxRecDepth 100000 in
theorem kL_1 : mTok cL_law RL 4 false tL_1 := mTok_of (by decide +kernel) ⟨trivial, trivial, trivial, trivial, trivial, trivial, trivial, trivial, trivial, trivial, trivial, trivial, trivial, trivial, trivial, trivial, trivial, trivial⟩
theorem z_end {l : Launch} {b : Bool} {a1 : Int32} {S S' : mT} {r : Int32} (h : fX11_end a1 S = some (r, S')) : mMet l mX11_end 1 [.ref 0, .int a1] (mk b S) (some (.int r)) (mk b S') := qX11_end h
section ZL
variable {p : Program} {l : Launch} {e : Env} {s : State} {m : MethodId} {below : List Frame} {meth : Method} {c : Code} {G : mG} {b0 Ln : Nat} {xs : Nat → Int32} {Q : State → Prop}
theorem zc_end (C : zC p s m meth c G b0) (E : zEn s G b0 Ln xs) {b : Bool} {S S1 S2 : mT} {i r : Int32} {ok : Bool} (hin1 : vp_in (i + (1 : Int32)) Ln) (h1 : fX11_end (zX xs (i + (1 : Int32))) S = some (r, S1)) (h2 : fX12_end (zX xs (i + (1 : Int32))) S1 = some (r, S2)) (k : zW p l e s m below meth c G b0 Q (true, 1352, [.ref 900300, .ref 0, .ref 187, .int i], [], mk b S2)) : zW p l e s m below meth c G b0 Q (ok, 279, [.ref 900300, .ref 0, .ref 187, .int i], [], mk b S) := by
  refine msegT C kL_1 0 5 (g := (true, 284, [.ref 900300, .ref 0, .ref 187, .int i], [.int (i + (1 : Int32)), .ref 900300, .ref 0], mk b S)) rfl rfl ?_
  refine so_scr (ok' := true) C E hin1 (kL_1 _ (List.mem_of_getElem? (i := 5) rfl)).1 ?_
  refine mcall (kd := 0) (vs := [.ref 0, .int (zX xs (i + (1 : Int32)))]) (rest := []) (r := (some (.int r))) (h' := mk b S1) (ok' := true) C lkRL_18 (z_end h1) (kL_1 _ (List.mem_of_getElem? (i := 6) rfl)).1 ⟨_, _, rfl, rfl, (Nat.le_of_ble_eq_true rfl), _, _, rfl, rfl, rfl⟩ (Nat.le_of_ble_eq_true rfl) (Nat.le_of_ble_eq_true rfl) (Nat.le_refl _) (Nat.le_refl _) (Nat.le_of_ble_eq_true rfl) ?_
  refine msegT C kL_1 7 5 (g := (true, 293, [.ref 900300, .ref 0, .ref 187, .int i], [.int (i + (1 : Int32)), .ref 900300, .ref 187, .int r], mk b S1)) rfl rfl ?_
  refine so_scr (ok' := true) C E hin1 (kL_1 _ (List.mem_of_getElem? (i := 12) rfl)).1 ?_
  refine mcall (kd := 0) (vs := [.ref 187, .int (zX xs (i + (1 : Int32)))]) (rest := [.int r]) (r := (some (.int r))) (h' := mk b S2) (ok' := true) C lkRL_22 (qX12_end h2) (kL_1 _ (List.mem_of_getElem? (i := 13) rfl)).1 ⟨_, _, rfl, rfl, (Nat.le_of_ble_eq_true rfl), _, _, rfl, rfl, rfl⟩ (Nat.le_of_ble_eq_true rfl) (Nat.le_of_ble_eq_true rfl) (Nat.le_refl _) (Nat.le_refl _) (Nat.le_of_ble_eq_true rfl) ?_
  refine msegT C kL_1 14 1 (g := (true, (if r = r then 1352 else 300), [.ref 900300, .ref 0, .ref 187, .int i], [], mk b S2)) rfl rfl ?_
  rw [if_pos rfl]
  exact k
end ZL
def tL_2 : List mI := [(302, .aload_n 1, 1, 0, 0), (303, .invokevirtual 23, 3, 0, 0), (306, .aload_n 2, 1, 0, 0), (307, .invokevirtual 27, 3, 0, 0), (310, .if_icmp .eq 1042, 3, 0, 0), (313, .iconst 0, 1, 0, 0), (314, .ireturn, 1, 0, 0)]
set_option maxRecDepth 100000 in
theorem kL_2 : mTok cL_law RL 4 false tL_2 := mTok_of (by decide +kernel) ⟨trivial, trivial, trivial, trivial, trivial, trivial, trivial, trivial⟩
theorem z_province {l : Launch} {b b' : Bool} {S S' : mT} {r : Int32} (h : fX11_province b S = some (r, S', b')) : mMet l mX11_province 71 [.ref 0] (mk b S) (some (.int r)) (mk b' S') := by
  cases b
  · exact qX11_province_f h
  · exact qX11_province_t h
section ZL
variable {p : Program} {l : Launch} {e : Env} {s : State} {m : MethodId} {below : List Frame} {meth : Method} {c : Code} {G : mG} {b0 Ln : Nat} {xs : Nat → Int32} {Q : State → Prop}
theorem zc_province (C : zC p s m meth c G b0) (E : zEn s G b0 Ln xs) {b b' : Bool} {S S1 S2 : mT} {i r : Int32} {ok : Bool} (h1 : fX11_province b S = some (r, S1, b')) (h2 : fX12_province S1 = some (r, S2)) (k : zW p l e s m below meth c G b0 Q (true, 1352, [.ref 900300, .ref 0, .ref 187, .int i], [], mk b' S2)) : zW p l e s m below meth c G b0 Q (ok, 302, [.ref 900300, .ref 0, .ref 187, .int i], [], mk b S) := by
  refine msegT C kL_2 0 1 (g := (true, 303, [.ref 900300, .ref 0, .ref 187, .int i], [.ref 0], mk b S)) rfl rfl ?_
  refine mcall (kd := 0) (vs := [.ref 0]) (rest := []) (r := (some (.int r))) (h' := mk b' S1) (ok' := true) C lkRL_23 (z_province h1) (kL_2 _ (List.mem_of_getElem? (i := 1) rfl)).1 ⟨_, _, rfl, rfl, (Nat.le_of_ble_eq_true rfl), _, _, rfl, rfl, rfl⟩ (Nat.le_of_ble_eq_true rfl) (Nat.le_of_ble_eq_true rfl) (Nat.le_refl _) (Nat.le_refl _) (Nat.le_of_ble_eq_true rfl) ?_
  refine msegT C kL_2 2 1 (g := (true, 307, [.ref 900300, .ref 0, .ref 187, .int i], [.ref 187, .int r], mk b' S1)) rfl rfl ?_
  refine mcall (kd := 0) (vs := [.ref 187]) (rest := [.int r]) (r := (some (.int r))) (h' := mk b' S2) (ok' := true) C lkRL_27 (qX12_province h2) (kL_2 _ (List.mem_of_getElem? (i := 3) rfl)).1 ⟨_, _, rfl, rfl, (Nat.le_of_ble_eq_true rfl), _, _, rfl, rfl, rfl⟩ (Nat.le_of_ble_eq_true rfl) (Nat.le_of_ble_eq_true rfl) (Nat.le_refl _) (Nat.le_refl _) (Nat.le_of_ble_eq_true rfl) ?_
  refine msegT C kL_2 4 1 (g := (true, (if r = r then 1352 else 313), [.ref 900300, .ref 0, .ref 187, .int i], [], mk b' S2)) rfl rfl ?_
  rw [if_pos rfl]
  exact k
end ZL
def tL_3 : List mI := [(315, .aload_n 1, 1, 0, 0), (316, .aload_n 0, 1, 0, 0), (317, .iload_n 3, 1, 0, 0), (318, .iconst 1, 1, 0, 0), (319, .iadd, 1, 0, 0), (320, .iaload, 1, 0, 0), (321, .invokevirtual 28, 3, 0, 0), (324, .aload_n 2, 1, 0, 0), (325, .aload_n 0, 1, 0, 0), (326, .iload_n 3, 1, 0, 0), (327, .iconst 1, 1, 0, 0), (328, .iadd, 1, 0, 0), (329, .iaload, 1, 0, 0), (330, .invokevirtual 31, 3, 0, 0), (333, .if_icmp .eq 1019, 3, 0, 0), (336, .iconst 0, 1, 0, 0), (337, .ireturn, 1, 0, 0)]
set_option maxRecDepth 100000 in
theorem kL_3 : mTok cL_law RL 4 false tL_3 := mTok_of (by decide +kernel) ⟨trivial, trivial, trivial, trivial, trivial, trivial, trivial, trivial, trivial, trivial, trivial, trivial, trivial, trivial, trivial, trivial, trivial, trivial⟩
theorem z_fault {l : Launch} {b : Bool} {a1 : Int32} {S S' : mT} {r : Int32} (h : fX11_fault a1 S = some (r, S')) : mMet l mX11_fault 1 [.ref 0, .int a1] (mk b S) (some (.int r)) (mk b S') := qX11_fault h
section ZL
variable {p : Program} {l : Launch} {e : Env} {s : State} {m : MethodId} {below : List Frame} {meth : Method} {c : Code} {G : mG} {b0 Ln : Nat} {xs : Nat → Int32} {Q : State → Prop}
theorem zc_fault (C : zC p s m meth c G b0) (E : zEn s G b0 Ln xs) {b : Bool} {S S1 S2 : mT} {i r : Int32} {ok : Bool} (hin1 : vp_in (i + (1 : Int32)) Ln) (h1 : fX11_fault (zX xs (i + (1 : Int32))) S = some (r, S1)) (h2 : fX12_fault (zX xs (i + (1 : Int32))) S1 = some (r, S2)) (k : zW p l e s m below meth c G b0 Q (true, 1352, [.ref 900300, .ref 0, .ref 187, .int i], [], mk b S2)) : zW p l e s m below meth c G b0 Q (ok, 315, [.ref 900300, .ref 0, .ref 187, .int i], [], mk b S) := by
  refine msegT C kL_3 0 5 (g := (true, 320, [.ref 900300, .ref 0, .ref 187, .int i], [.int (i + (1 : Int32)), .ref 900300, .ref 0], mk b S)) rfl rfl ?_
  refine so_scr (ok' := true) C E hin1 (kL_3 _ (List.mem_of_getElem? (i := 5) rfl)).1 ?_
  refine mcall (kd := 0) (vs := [.ref 0, .int (zX xs (i + (1 : Int32)))]) (rest := []) (r := (some (.int r))) (h' := mk b S1) (ok' := true) C lkRL_28 (z_fault h1) (kL_3 _ (List.mem_of_getElem? (i := 6) rfl)).1 ⟨_, _, rfl, rfl, (Nat.le_of_ble_eq_true rfl), _, _, rfl, rfl, rfl⟩ (Nat.le_of_ble_eq_true rfl) (Nat.le_of_ble_eq_true rfl) (Nat.le_refl _) (Nat.le_refl _) (Nat.le_of_ble_eq_true rfl) ?_
  refine msegT C kL_3 7 5 (g := (true, 329, [.ref 900300, .ref 0, .ref 187, .int i], [.int (i + (1 : Int32)), .ref 900300, .ref 187, .int r], mk b S1)) rfl rfl ?_
  refine so_scr (ok' := true) C E hin1 (kL_3 _ (List.mem_of_getElem? (i := 12) rfl)).1 ?_
  refine mcall (kd := 0) (vs := [.ref 187, .int (zX xs (i + (1 : Int32)))]) (rest := [.int r]) (r := (some (.int r))) (h' := mk b S2) (ok' := true) C lkRL_31 (qX12_fault h2) (kL_3 _ (List.mem_of_getElem? (i := 13) rfl)).1 ⟨_, _, rfl, rfl, (Nat.le_of_ble_eq_true rfl), _, _, rfl, rfl, rfl⟩ (Nat.le_of_ble_eq_true rfl) (Nat.le_of_ble_eq_true rfl) (Nat.le_refl _) (Nat.le_refl _) (Nat.le_of_ble_eq_true rfl) ?_
  refine msegT C kL_3 14 1 (g := (true, (if r = r then 1352 else 336), [.ref 900300, .ref 0, .ref 187, .int i], [], mk b S2)) rfl rfl ?_
  rw [if_pos rfl]
  exact k
end ZL
def tL_4 : List mI := [(338, .aload_n 1, 1, 0, 0), (339, .aload_n 0, 1, 0, 0), (340, .iload_n 3, 1, 0, 0), (341, .iconst 1, 1, 0, 0), (342, .iadd, 1, 0, 0), (343, .iaload, 1, 0, 0), (344, .aload_n 0, 1, 0, 0), (345, .iload_n 3, 1, 0, 0), (346, .iconst 2, 1, 0, 0), (347, .iadd, 1, 0, 0), (348, .iaload, 1, 0, 0), (349, .invokevirtual 32, 3, 0, 0), (352, .aload_n 2, 1, 0, 0), (353, .aload_n 0, 1, 0, 0), (354, .iload_n 3, 1, 0, 0), (355, .iconst 1, 1, 0, 0), (356, .iadd, 1, 0, 0), (357, .iaload, 1, 0, 0), (358, .aload_n 0, 1, 0, 0), (359, .iload_n 3, 1, 0, 0), (360, .iconst 2, 1, 0, 0), (361, .iadd, 1, 0, 0), (362, .iaload, 1, 0, 0), (363, .invokevirtual 36, 3, 0, 0), (366, .if_icmp .eq 986, 3, 0, 0), (369, .iconst 0, 1, 0, 0), (370, .ireturn, 1, 0, 0)]
set_option maxRecDepth 100000 in
theorem kL_4 : mTok cL_law RL 4 false tL_4 := mTok_of (by decide +kernel) ⟨trivial, trivial, trivial, trivial, trivial, trivial, trivial, trivial, trivial, trivial, trivial, trivial, trivial, trivial, trivial, trivial, trivial, trivial, trivial, trivial, trivial, trivial, trivial, trivial, trivial, trivial, trivial, trivial⟩
theorem z_house {l : Launch} {b : Bool} {a1 a2 : Int32} {S S' : mT} {r : Int32} (h : fX11_house b a1 a2 S = some (r, S')) : mMet l mX11_house 5 [.ref 0, .int a1, .int a2] (mk b S) (some (.int r)) (mk b S') := by
  cases b
  · exact qX11_house_f h
  · exact qX11_house_t h
section ZL
variable {p : Program} {l : Launch} {e : Env} {s : State} {m : MethodId} {below : List Frame} {meth : Method} {c : Code} {G : mG} {b0 Ln : Nat} {xs : Nat → Int32} {Q : State → Prop}
theorem zc_house (C : zC p s m meth c G b0) (E : zEn s G b0 Ln xs) {b : Bool} {S S1 S2 : mT} {i r : Int32} {ok : Bool} (hin1 : vp_in (i + (1 : Int32)) Ln) (hin2 : vp_in (i + (2 : Int32)) Ln) (h1 : fX11_house b (zX xs (i + (1 : Int32))) (zX xs (i + (2 : Int32))) S = some (r, S1)) (h2 : fX12_house (zX xs (i + (1 : Int32))) (zX xs (i + (2 : Int32))) S1 = some (r, S2)) (k : zW p l e s m below meth c G b0 Q (true, 1352, [.ref 900300, .ref 0, .ref 187, .int i], [], mk b S2)) : zW p l e s m below meth c G b0 Q (ok, 338, [.ref 900300, .ref 0, .ref 187, .int i], [], mk b S) := by
  refine msegT C kL_4 0 5 (g := (true, 343, [.ref 900300, .ref 0, .ref 187, .int i], [.int (i + (1 : Int32)), .ref 900300, .ref 0], mk b S)) rfl rfl ?_
  refine so_scr (ok' := true) C E hin1 (kL_4 _ (List.mem_of_getElem? (i := 5) rfl)).1 ?_
  refine msegT C kL_4 6 4 (g := (true, 348, [.ref 900300, .ref 0, .ref 187, .int i], [.int (i + (2 : Int32)), .ref 900300, .int (zX xs (i + (1 : Int32))), .ref 0], mk b S)) rfl rfl ?_
  refine so_scr (ok' := true) C E hin2 (kL_4 _ (List.mem_of_getElem? (i := 10) rfl)).1 ?_
  refine mcall (kd := 0) (vs := [.ref 0, .int (zX xs (i + (1 : Int32))), .int (zX xs (i + (2 : Int32)))]) (rest := []) (r := (some (.int r))) (h' := mk b S1) (ok' := true) C lkRL_32 (z_house h1) (kL_4 _ (List.mem_of_getElem? (i := 11) rfl)).1 ⟨_, _, rfl, rfl, (Nat.le_of_ble_eq_true rfl), _, _, rfl, rfl, rfl⟩ (Nat.le_of_ble_eq_true rfl) (Nat.le_of_ble_eq_true rfl) (Nat.le_refl _) (Nat.le_refl _) (Nat.le_of_ble_eq_true rfl) ?_
  refine msegT C kL_4 12 5 (g := (true, 357, [.ref 900300, .ref 0, .ref 187, .int i], [.int (i + (1 : Int32)), .ref 900300, .ref 187, .int r], mk b S1)) rfl rfl ?_
  refine so_scr (ok' := true) C E hin1 (kL_4 _ (List.mem_of_getElem? (i := 17) rfl)).1 ?_
  refine msegT C kL_4 18 4 (g := (true, 362, [.ref 900300, .ref 0, .ref 187, .int i], [.int (i + (2 : Int32)), .ref 900300, .int (zX xs (i + (1 : Int32))), .ref 187, .int r], mk b S1)) rfl rfl ?_
  refine so_scr (ok' := true) C E hin2 (kL_4 _ (List.mem_of_getElem? (i := 22) rfl)).1 ?_
  refine mcall (kd := 0) (vs := [.ref 187, .int (zX xs (i + (1 : Int32))), .int (zX xs (i + (2 : Int32)))]) (rest := [.int r]) (r := (some (.int r))) (h' := mk b S2) (ok' := true) C lkRL_36 (qX12_house h2) (kL_4 _ (List.mem_of_getElem? (i := 23) rfl)).1 ⟨_, _, rfl, rfl, (Nat.le_of_ble_eq_true rfl), _, _, rfl, rfl, rfl⟩ (Nat.le_of_ble_eq_true rfl) (Nat.le_of_ble_eq_true rfl) (Nat.le_refl _) (Nat.le_refl _) (Nat.le_of_ble_eq_true rfl) ?_
  refine msegT C kL_4 24 1 (g := (true, (if r = r then 1352 else 369), [.ref 900300, .ref 0, .ref 187, .int i], [], mk b S2)) rfl rfl ?_
  rw [if_pos rfl]
  exact k
end ZL
def tL_5 : List mI := [(371, .aload_n 1, 1, 0, 0), (372, .aload_n 0, 1, 0, 0), (373, .iload_n 3, 1, 0, 0), (374, .iconst 1, 1, 0, 0), (375, .iadd, 1, 0, 0), (376, .iaload, 1, 0, 0), (377, .invokevirtual 37, 3, 0, 0), (380, .aload_n 2, 1, 0, 0), (381, .aload_n 0, 1, 0, 0), (382, .iload_n 3, 1, 0, 0), (383, .iconst 1, 1, 0, 0), (384, .iadd, 1, 0, 0), (385, .iaload, 1, 0, 0), (386, .invokevirtual 40, 3, 0, 0), (389, .if_icmp .eq 963, 3, 0, 0), (392, .iconst 0, 1, 0, 0), (393, .ireturn, 1, 0, 0)]
set_option maxRecDepth 100000 in
theorem kL_5 : mTok cL_law RL 4 false tL_5 := mTok_of (by decide +kernel) ⟨trivial, trivial, trivial, trivial, trivial, trivial, trivial, trivial, trivial, trivial, trivial, trivial, trivial, trivial, trivial, trivial, trivial, trivial⟩
theorem z_sum {l : Launch} {b : Bool} {a1 : Int32} {S S' : mT} {r : Int32} (h : fX11_sum b a1 S = some (r, S')) : mMet l mX11_sum 7 [.ref 0, .int a1] (mk b S) (some (.int r)) (mk b S') := by
  cases b
  · exact qX11_sum_f h
  · exact qX11_sum_t h
section ZL
variable {p : Program} {l : Launch} {e : Env} {s : State} {m : MethodId} {below : List Frame} {meth : Method} {c : Code} {G : mG} {b0 Ln : Nat} {xs : Nat → Int32} {Q : State → Prop}
theorem zc_sum (C : zC p s m meth c G b0) (E : zEn s G b0 Ln xs) {b : Bool} {S S1 S2 : mT} {i r : Int32} {ok : Bool} (hin1 : vp_in (i + (1 : Int32)) Ln) (h1 : fX11_sum b (zX xs (i + (1 : Int32))) S = some (r, S1)) (h2 : fX12_sum (zX xs (i + (1 : Int32))) S1 = some (r, S2)) (k : zW p l e s m below meth c G b0 Q (true, 1352, [.ref 900300, .ref 0, .ref 187, .int i], [], mk b S2)) : zW p l e s m below meth c G b0 Q (ok, 371, [.ref 900300, .ref 0, .ref 187, .int i], [], mk b S) := by
  refine msegT C kL_5 0 5 (g := (true, 376, [.ref 900300, .ref 0, .ref 187, .int i], [.int (i + (1 : Int32)), .ref 900300, .ref 0], mk b S)) rfl rfl ?_
  refine so_scr (ok' := true) C E hin1 (kL_5 _ (List.mem_of_getElem? (i := 5) rfl)).1 ?_
  refine mcall (kd := 0) (vs := [.ref 0, .int (zX xs (i + (1 : Int32)))]) (rest := []) (r := (some (.int r))) (h' := mk b S1) (ok' := true) C lkRL_37 (z_sum h1) (kL_5 _ (List.mem_of_getElem? (i := 6) rfl)).1 ⟨_, _, rfl, rfl, (Nat.le_of_ble_eq_true rfl), _, _, rfl, rfl, rfl⟩ (Nat.le_of_ble_eq_true rfl) (Nat.le_of_ble_eq_true rfl) (Nat.le_refl _) (Nat.le_refl _) (Nat.le_of_ble_eq_true rfl) ?_
  refine msegT C kL_5 7 5 (g := (true, 385, [.ref 900300, .ref 0, .ref 187, .int i], [.int (i + (1 : Int32)), .ref 900300, .ref 187, .int r], mk b S1)) rfl rfl ?_
  refine so_scr (ok' := true) C E hin1 (kL_5 _ (List.mem_of_getElem? (i := 12) rfl)).1 ?_
  refine mcall (kd := 0) (vs := [.ref 187, .int (zX xs (i + (1 : Int32)))]) (rest := [.int r]) (r := (some (.int r))) (h' := mk b S2) (ok' := true) C lkRL_40 (qX12_sum h2) (kL_5 _ (List.mem_of_getElem? (i := 13) rfl)).1 ⟨_, _, rfl, rfl, (Nat.le_of_ble_eq_true rfl), _, _, rfl, rfl, rfl⟩ (Nat.le_of_ble_eq_true rfl) (Nat.le_of_ble_eq_true rfl) (Nat.le_refl _) (Nat.le_refl _) (Nat.le_of_ble_eq_true rfl) ?_
  refine msegT C kL_5 14 1 (g := (true, (if r = r then 1352 else 392), [.ref 900300, .ref 0, .ref 187, .int i], [], mk b S2)) rfl rfl ?_
  rw [if_pos rfl]
  exact k
end ZL
def tL_6 : List mI := [(394, .aload_n 1, 1, 0, 0), (395, .aload_n 0, 1, 0, 0), (396, .iload_n 3, 1, 0, 0), (397, .iconst 1, 1, 0, 0), (398, .iadd, 1, 0, 0), (399, .iaload, 1, 0, 0), (400, .invokevirtual 41, 3, 0, 0), (403, .aload_n 2, 1, 0, 0), (404, .aload_n 0, 1, 0, 0), (405, .iload_n 3, 1, 0, 0), (406, .iconst 1, 1, 0, 0), (407, .iadd, 1, 0, 0), (408, .iaload, 1, 0, 0), (409, .invokevirtual 44, 3, 0, 0), (412, .if_icmp .eq 940, 3, 0, 0), (415, .iconst 0, 1, 0, 0), (416, .ireturn, 1, 0, 0)]
set_option maxRecDepth 100000 in
theorem kL_6 : mTok cL_law RL 4 false tL_6 := mTok_of (by decide +kernel) ⟨trivial, trivial, trivial, trivial, trivial, trivial, trivial, trivial, trivial, trivial, trivial, trivial, trivial, trivial, trivial, trivial, trivial, trivial⟩
theorem z_comes {l : Launch} {b : Bool} {a1 : Int32} {S S' : mT} {r : Int32} (h : fX11_comes b a1 S = some (r, S')) : mMet l mX11_comes 3 [.ref 0, .int a1] (mk b S) (some (.int r)) (mk b S') := by
  cases b
  · exact qX11_comes_f h
  · exact qX11_comes_t h
section ZL
variable {p : Program} {l : Launch} {e : Env} {s : State} {m : MethodId} {below : List Frame} {meth : Method} {c : Code} {G : mG} {b0 Ln : Nat} {xs : Nat → Int32} {Q : State → Prop}
theorem zc_comes (C : zC p s m meth c G b0) (E : zEn s G b0 Ln xs) {b : Bool} {S S1 S2 : mT} {i r : Int32} {ok : Bool} (hin1 : vp_in (i + (1 : Int32)) Ln) (h1 : fX11_comes b (zX xs (i + (1 : Int32))) S = some (r, S1)) (h2 : fX12_comes (zX xs (i + (1 : Int32))) S1 = some (r, S2)) (k : zW p l e s m below meth c G b0 Q (true, 1352, [.ref 900300, .ref 0, .ref 187, .int i], [], mk b S2)) : zW p l e s m below meth c G b0 Q (ok, 394, [.ref 900300, .ref 0, .ref 187, .int i], [], mk b S) := by
  refine msegT C kL_6 0 5 (g := (true, 399, [.ref 900300, .ref 0, .ref 187, .int i], [.int (i + (1 : Int32)), .ref 900300, .ref 0], mk b S)) rfl rfl ?_
  refine so_scr (ok' := true) C E hin1 (kL_6 _ (List.mem_of_getElem? (i := 5) rfl)).1 ?_
  refine mcall (kd := 0) (vs := [.ref 0, .int (zX xs (i + (1 : Int32)))]) (rest := []) (r := (some (.int r))) (h' := mk b S1) (ok' := true) C lkRL_41 (z_comes h1) (kL_6 _ (List.mem_of_getElem? (i := 6) rfl)).1 ⟨_, _, rfl, rfl, (Nat.le_of_ble_eq_true rfl), _, _, rfl, rfl, rfl⟩ (Nat.le_of_ble_eq_true rfl) (Nat.le_of_ble_eq_true rfl) (Nat.le_refl _) (Nat.le_refl _) (Nat.le_of_ble_eq_true rfl) ?_
  refine msegT C kL_6 7 5 (g := (true, 408, [.ref 900300, .ref 0, .ref 187, .int i], [.int (i + (1 : Int32)), .ref 900300, .ref 187, .int r], mk b S1)) rfl rfl ?_
  refine so_scr (ok' := true) C E hin1 (kL_6 _ (List.mem_of_getElem? (i := 12) rfl)).1 ?_
  refine mcall (kd := 0) (vs := [.ref 187, .int (zX xs (i + (1 : Int32)))]) (rest := [.int r]) (r := (some (.int r))) (h' := mk b S2) (ok' := true) C lkRL_44 (qX12_comes h2) (kL_6 _ (List.mem_of_getElem? (i := 13) rfl)).1 ⟨_, _, rfl, rfl, (Nat.le_of_ble_eq_true rfl), _, _, rfl, rfl, rfl⟩ (Nat.le_of_ble_eq_true rfl) (Nat.le_of_ble_eq_true rfl) (Nat.le_refl _) (Nat.le_refl _) (Nat.le_of_ble_eq_true rfl) ?_
  refine msegT C kL_6 14 1 (g := (true, (if r = r then 1352 else 415), [.ref 900300, .ref 0, .ref 187, .int i], [], mk b S2)) rfl rfl ?_
  rw [if_pos rfl]
  exact k
end ZL
def tL_7 : List mI := [(417, .aload_n 1, 1, 0, 0), (418, .aload_n 0, 1, 0, 0), (419, .iload_n 3, 1, 0, 0), (420, .iconst 1, 1, 0, 0), (421, .iadd, 1, 0, 0), (422, .iaload, 1, 0, 0), (423, .invokevirtual 45, 3, 0, 0), (426, .aload_n 2, 1, 0, 0), (427, .aload_n 0, 1, 0, 0), (428, .iload_n 3, 1, 0, 0), (429, .iconst 1, 1, 0, 0), (430, .iadd, 1, 0, 0), (431, .iaload, 1, 0, 0), (432, .invokevirtual 48, 3, 0, 0), (435, .if_icmp .eq 917, 3, 0, 0), (438, .iconst 0, 1, 0, 0), (439, .ireturn, 1, 0, 0)]
set_option maxRecDepth 100000 in
theorem kL_7 : mTok cL_law RL 4 false tL_7 := mTok_of (by decide +kernel) ⟨trivial, trivial, trivial, trivial, trivial, trivial, trivial, trivial, trivial, trivial, trivial, trivial, trivial, trivial, trivial, trivial, trivial, trivial⟩
theorem z_goes {l : Launch} {b : Bool} {a1 : Int32} {S S' : mT} {r : Int32} (h : fX11_goes b a1 S = some (r, S')) : mMet l mX11_goes 3 [.ref 0, .int a1] (mk b S) (some (.int r)) (mk b S') := by
  cases b
  · exact qX11_goes_f h
  · exact qX11_goes_t h
section ZL
variable {p : Program} {l : Launch} {e : Env} {s : State} {m : MethodId} {below : List Frame} {meth : Method} {c : Code} {G : mG} {b0 Ln : Nat} {xs : Nat → Int32} {Q : State → Prop}
theorem zc_goes (C : zC p s m meth c G b0) (E : zEn s G b0 Ln xs) {b : Bool} {S S1 S2 : mT} {i r : Int32} {ok : Bool} (hin1 : vp_in (i + (1 : Int32)) Ln) (h1 : fX11_goes b (zX xs (i + (1 : Int32))) S = some (r, S1)) (h2 : fX12_goes (zX xs (i + (1 : Int32))) S1 = some (r, S2)) (k : zW p l e s m below meth c G b0 Q (true, 1352, [.ref 900300, .ref 0, .ref 187, .int i], [], mk b S2)) : zW p l e s m below meth c G b0 Q (ok, 417, [.ref 900300, .ref 0, .ref 187, .int i], [], mk b S) := by
  refine msegT C kL_7 0 5 (g := (true, 422, [.ref 900300, .ref 0, .ref 187, .int i], [.int (i + (1 : Int32)), .ref 900300, .ref 0], mk b S)) rfl rfl ?_
  refine so_scr (ok' := true) C E hin1 (kL_7 _ (List.mem_of_getElem? (i := 5) rfl)).1 ?_
  refine mcall (kd := 0) (vs := [.ref 0, .int (zX xs (i + (1 : Int32)))]) (rest := []) (r := (some (.int r))) (h' := mk b S1) (ok' := true) C lkRL_45 (z_goes h1) (kL_7 _ (List.mem_of_getElem? (i := 6) rfl)).1 ⟨_, _, rfl, rfl, (Nat.le_of_ble_eq_true rfl), _, _, rfl, rfl, rfl⟩ (Nat.le_of_ble_eq_true rfl) (Nat.le_of_ble_eq_true rfl) (Nat.le_refl _) (Nat.le_refl _) (Nat.le_of_ble_eq_true rfl) ?_
  refine msegT C kL_7 7 5 (g := (true, 431, [.ref 900300, .ref 0, .ref 187, .int i], [.int (i + (1 : Int32)), .ref 900300, .ref 187, .int r], mk b S1)) rfl rfl ?_
  refine so_scr (ok' := true) C E hin1 (kL_7 _ (List.mem_of_getElem? (i := 12) rfl)).1 ?_
  refine mcall (kd := 0) (vs := [.ref 187, .int (zX xs (i + (1 : Int32)))]) (rest := [.int r]) (r := (some (.int r))) (h' := mk b S2) (ok' := true) C lkRL_48 (qX12_goes h2) (kL_7 _ (List.mem_of_getElem? (i := 13) rfl)).1 ⟨_, _, rfl, rfl, (Nat.le_of_ble_eq_true rfl), _, _, rfl, rfl, rfl⟩ (Nat.le_of_ble_eq_true rfl) (Nat.le_of_ble_eq_true rfl) (Nat.le_refl _) (Nat.le_refl _) (Nat.le_of_ble_eq_true rfl) ?_
  refine msegT C kL_7 14 1 (g := (true, (if r = r then 1352 else 438), [.ref 900300, .ref 0, .ref 187, .int i], [], mk b S2)) rfl rfl ?_
  rw [if_pos rfl]
  exact k
end ZL
def tL_8 : List mI := [(440, .aload_n 1, 1, 0, 0), (441, .aload_n 0, 1, 0, 0), (442, .iload_n 3, 1, 0, 0), (443, .iconst 1, 1, 0, 0), (444, .iadd, 1, 0, 0), (445, .iaload, 1, 0, 0), (446, .aload_n 0, 1, 0, 0), (447, .iload_n 3, 1, 0, 0), (448, .iconst 2, 1, 0, 0), (449, .iadd, 1, 0, 0), (450, .iaload, 1, 0, 0), (451, .invokevirtual 49, 3, 0, 0), (454, .aload_n 2, 1, 0, 0), (455, .aload_n 0, 1, 0, 0), (456, .iload_n 3, 1, 0, 0), (457, .iconst 1, 1, 0, 0), (458, .iadd, 1, 0, 0), (459, .iaload, 1, 0, 0), (460, .aload_n 0, 1, 0, 0), (461, .iload_n 3, 1, 0, 0), (462, .iconst 2, 1, 0, 0), (463, .iadd, 1, 0, 0), (464, .iaload, 1, 0, 0), (465, .invokevirtual 52, 3, 0, 0), (468, .if_icmp .eq 884, 3, 0, 0), (471, .iconst 0, 1, 0, 0), (472, .ireturn, 1, 0, 0)]
set_option maxRecDepth 100000 in
theorem kL_8 : mTok cL_law RL 4 false tL_8 := mTok_of (by decide +kernel) ⟨trivial, trivial, trivial, trivial, trivial, trivial, trivial, trivial, trivial, trivial, trivial, trivial, trivial, trivial, trivial, trivial, trivial, trivial, trivial, trivial, trivial, trivial, trivial, trivial, trivial, trivial, trivial, trivial⟩
theorem z_moves {l : Launch} {b : Bool} {a1 a2 : Int32} {S S' : mT} {r : Int32} (h : fX11_moves b a1 a2 S = some (r, S')) : mMet l mX11_moves 3 [.ref 0, .int a1, .int a2] (mk b S) (some (.int r)) (mk b S') := by
  cases b
  · exact qX11_moves_f h
  · exact qX11_moves_t h
section ZL
variable {p : Program} {l : Launch} {e : Env} {s : State} {m : MethodId} {below : List Frame} {meth : Method} {c : Code} {G : mG} {b0 Ln : Nat} {xs : Nat → Int32} {Q : State → Prop}
theorem zc_moves (C : zC p s m meth c G b0) (E : zEn s G b0 Ln xs) {b : Bool} {S S1 S2 : mT} {i r : Int32} {ok : Bool} (hin1 : vp_in (i + (1 : Int32)) Ln) (hin2 : vp_in (i + (2 : Int32)) Ln) (h1 : fX11_moves b (zX xs (i + (1 : Int32))) (zX xs (i + (2 : Int32))) S = some (r, S1)) (h2 : fX12_moves (zX xs (i + (1 : Int32))) (zX xs (i + (2 : Int32))) S1 = some (r, S2)) (k : zW p l e s m below meth c G b0 Q (true, 1352, [.ref 900300, .ref 0, .ref 187, .int i], [], mk b S2)) : zW p l e s m below meth c G b0 Q (ok, 440, [.ref 900300, .ref 0, .ref 187, .int i], [], mk b S) := by
  refine msegT C kL_8 0 5 (g := (true, 445, [.ref 900300, .ref 0, .ref 187, .int i], [.int (i + (1 : Int32)), .ref 900300, .ref 0], mk b S)) rfl rfl ?_
  refine so_scr (ok' := true) C E hin1 (kL_8 _ (List.mem_of_getElem? (i := 5) rfl)).1 ?_
  refine msegT C kL_8 6 4 (g := (true, 450, [.ref 900300, .ref 0, .ref 187, .int i], [.int (i + (2 : Int32)), .ref 900300, .int (zX xs (i + (1 : Int32))), .ref 0], mk b S)) rfl rfl ?_
  refine so_scr (ok' := true) C E hin2 (kL_8 _ (List.mem_of_getElem? (i := 10) rfl)).1 ?_
  refine mcall (kd := 0) (vs := [.ref 0, .int (zX xs (i + (1 : Int32))), .int (zX xs (i + (2 : Int32)))]) (rest := []) (r := (some (.int r))) (h' := mk b S1) (ok' := true) C lkRL_49 (z_moves h1) (kL_8 _ (List.mem_of_getElem? (i := 11) rfl)).1 ⟨_, _, rfl, rfl, (Nat.le_of_ble_eq_true rfl), _, _, rfl, rfl, rfl⟩ (Nat.le_of_ble_eq_true rfl) (Nat.le_of_ble_eq_true rfl) (Nat.le_refl _) (Nat.le_refl _) (Nat.le_of_ble_eq_true rfl) ?_
  refine msegT C kL_8 12 5 (g := (true, 459, [.ref 900300, .ref 0, .ref 187, .int i], [.int (i + (1 : Int32)), .ref 900300, .ref 187, .int r], mk b S1)) rfl rfl ?_
  refine so_scr (ok' := true) C E hin1 (kL_8 _ (List.mem_of_getElem? (i := 17) rfl)).1 ?_
  refine msegT C kL_8 18 4 (g := (true, 464, [.ref 900300, .ref 0, .ref 187, .int i], [.int (i + (2 : Int32)), .ref 900300, .int (zX xs (i + (1 : Int32))), .ref 187, .int r], mk b S1)) rfl rfl ?_
  refine so_scr (ok' := true) C E hin2 (kL_8 _ (List.mem_of_getElem? (i := 22) rfl)).1 ?_
  refine mcall (kd := 0) (vs := [.ref 187, .int (zX xs (i + (1 : Int32))), .int (zX xs (i + (2 : Int32)))]) (rest := [.int r]) (r := (some (.int r))) (h' := mk b S2) (ok' := true) C lkRL_52 (qX12_moves h2) (kL_8 _ (List.mem_of_getElem? (i := 23) rfl)).1 ⟨_, _, rfl, rfl, (Nat.le_of_ble_eq_true rfl), _, _, rfl, rfl, rfl⟩ (Nat.le_of_ble_eq_true rfl) (Nat.le_of_ble_eq_true rfl) (Nat.le_refl _) (Nat.le_refl _) (Nat.le_of_ble_eq_true rfl) ?_
  refine msegT C kL_8 24 1 (g := (true, (if r = r then 1352 else 471), [.ref 900300, .ref 0, .ref 187, .int i], [], mk b S2)) rfl rfl ?_
  rw [if_pos rfl]
  exact k
end ZL
def tL_9 : List mI := [(473, .aload_n 1, 1, 0, 0), (474, .aload_n 0, 1, 0, 0), (475, .iload_n 3, 1, 0, 0), (476, .iconst 1, 1, 0, 0), (477, .iadd, 1, 0, 0), (478, .iaload, 1, 0, 0), (479, .aload_n 0, 1, 0, 0), (480, .iload_n 3, 1, 0, 0), (481, .iconst 2, 1, 0, 0), (482, .iadd, 1, 0, 0), (483, .iaload, 1, 0, 0), (484, .invokevirtual 53, 3, 0, 0), (487, .aload_n 2, 1, 0, 0), (488, .aload_n 0, 1, 0, 0), (489, .iload_n 3, 1, 0, 0), (490, .iconst 1, 1, 0, 0), (491, .iadd, 1, 0, 0), (492, .iaload, 1, 0, 0), (493, .aload_n 0, 1, 0, 0), (494, .iload_n 3, 1, 0, 0), (495, .iconst 2, 1, 0, 0), (496, .iadd, 1, 0, 0), (497, .iaload, 1, 0, 0), (498, .invokevirtual 56, 3, 0, 0), (501, .if_icmp .eq 851, 3, 0, 0), (504, .iconst 0, 1, 0, 0), (505, .ireturn, 1, 0, 0)]
set_option maxRecDepth 100000 in
theorem kL_9 : mTok cL_law RL 4 false tL_9 := mTok_of (by decide +kernel) ⟨trivial, trivial, trivial, trivial, trivial, trivial, trivial, trivial, trivial, trivial, trivial, trivial, trivial, trivial, trivial, trivial, trivial, trivial, trivial, trivial, trivial, trivial, trivial, trivial, trivial, trivial, trivial, trivial⟩
theorem z_hide {l : Launch} {b : Bool} {a1 a2 : Int32} {S S' : mT} {r : Int32} (h : fX11_hide b a1 a2 S = some (r, S')) : mMet l mX11_hide 3 [.ref 0, .int a1, .int a2] (mk b S) (some (.int r)) (mk b S') := by
  cases b
  · exact qX11_hide_f h
  · exact qX11_hide_t h
section ZL
variable {p : Program} {l : Launch} {e : Env} {s : State} {m : MethodId} {below : List Frame} {meth : Method} {c : Code} {G : mG} {b0 Ln : Nat} {xs : Nat → Int32} {Q : State → Prop}
theorem zc_hide (C : zC p s m meth c G b0) (E : zEn s G b0 Ln xs) {b : Bool} {S S1 S2 : mT} {i r : Int32} {ok : Bool} (hin1 : vp_in (i + (1 : Int32)) Ln) (hin2 : vp_in (i + (2 : Int32)) Ln) (h1 : fX11_hide b (zX xs (i + (1 : Int32))) (zX xs (i + (2 : Int32))) S = some (r, S1)) (h2 : fX12_hide (zX xs (i + (1 : Int32))) (zX xs (i + (2 : Int32))) S1 = some (r, S2)) (k : zW p l e s m below meth c G b0 Q (true, 1352, [.ref 900300, .ref 0, .ref 187, .int i], [], mk b S2)) : zW p l e s m below meth c G b0 Q (ok, 473, [.ref 900300, .ref 0, .ref 187, .int i], [], mk b S) := by
  refine msegT C kL_9 0 5 (g := (true, 478, [.ref 900300, .ref 0, .ref 187, .int i], [.int (i + (1 : Int32)), .ref 900300, .ref 0], mk b S)) rfl rfl ?_
  refine so_scr (ok' := true) C E hin1 (kL_9 _ (List.mem_of_getElem? (i := 5) rfl)).1 ?_
  refine msegT C kL_9 6 4 (g := (true, 483, [.ref 900300, .ref 0, .ref 187, .int i], [.int (i + (2 : Int32)), .ref 900300, .int (zX xs (i + (1 : Int32))), .ref 0], mk b S)) rfl rfl ?_
  refine so_scr (ok' := true) C E hin2 (kL_9 _ (List.mem_of_getElem? (i := 10) rfl)).1 ?_
  refine mcall (kd := 0) (vs := [.ref 0, .int (zX xs (i + (1 : Int32))), .int (zX xs (i + (2 : Int32)))]) (rest := []) (r := (some (.int r))) (h' := mk b S1) (ok' := true) C lkRL_53 (z_hide h1) (kL_9 _ (List.mem_of_getElem? (i := 11) rfl)).1 ⟨_, _, rfl, rfl, (Nat.le_of_ble_eq_true rfl), _, _, rfl, rfl, rfl⟩ (Nat.le_of_ble_eq_true rfl) (Nat.le_of_ble_eq_true rfl) (Nat.le_refl _) (Nat.le_refl _) (Nat.le_of_ble_eq_true rfl) ?_
  refine msegT C kL_9 12 5 (g := (true, 492, [.ref 900300, .ref 0, .ref 187, .int i], [.int (i + (1 : Int32)), .ref 900300, .ref 187, .int r], mk b S1)) rfl rfl ?_
  refine so_scr (ok' := true) C E hin1 (kL_9 _ (List.mem_of_getElem? (i := 17) rfl)).1 ?_
  refine msegT C kL_9 18 4 (g := (true, 497, [.ref 900300, .ref 0, .ref 187, .int i], [.int (i + (2 : Int32)), .ref 900300, .int (zX xs (i + (1 : Int32))), .ref 187, .int r], mk b S1)) rfl rfl ?_
  refine so_scr (ok' := true) C E hin2 (kL_9 _ (List.mem_of_getElem? (i := 22) rfl)).1 ?_
  refine mcall (kd := 0) (vs := [.ref 187, .int (zX xs (i + (1 : Int32))), .int (zX xs (i + (2 : Int32)))]) (rest := [.int r]) (r := (some (.int r))) (h' := mk b S2) (ok' := true) C lkRL_56 (qX12_hide h2) (kL_9 _ (List.mem_of_getElem? (i := 23) rfl)).1 ⟨_, _, rfl, rfl, (Nat.le_of_ble_eq_true rfl), _, _, rfl, rfl, rfl⟩ (Nat.le_of_ble_eq_true rfl) (Nat.le_of_ble_eq_true rfl) (Nat.le_refl _) (Nat.le_refl _) (Nat.le_of_ble_eq_true rfl) ?_
  refine msegT C kL_9 24 1 (g := (true, (if r = r then 1352 else 504), [.ref 900300, .ref 0, .ref 187, .int i], [], mk b S2)) rfl rfl ?_
  rw [if_pos rfl]
  exact k
end ZL
def tL_10 : List mI := [(506, .aload_n 1, 1, 0, 0), (507, .aload_n 0, 1, 0, 0), (508, .iload_n 3, 1, 0, 0), (509, .iconst 1, 1, 0, 0), (510, .iadd, 1, 0, 0), (511, .iaload, 1, 0, 0), (512, .aload_n 0, 1, 0, 0), (513, .iload_n 3, 1, 0, 0), (514, .iconst 2, 1, 0, 0), (515, .iadd, 1, 0, 0), (516, .iaload, 1, 0, 0), (517, .invokevirtual 57, 3, 0, 0), (520, .aload_n 2, 1, 0, 0), (521, .aload_n 0, 1, 0, 0), (522, .iload_n 3, 1, 0, 0), (523, .iconst 1, 1, 0, 0), (524, .iadd, 1, 0, 0), (525, .iaload, 1, 0, 0), (526, .aload_n 0, 1, 0, 0), (527, .iload_n 3, 1, 0, 0), (528, .iconst 2, 1, 0, 0), (529, .iadd, 1, 0, 0), (530, .iaload, 1, 0, 0), (531, .invokevirtual 60, 3, 0, 0), (534, .if_icmp .eq 818, 3, 0, 0), (537, .iconst 0, 1, 0, 0), (538, .ireturn, 1, 0, 0)]
set_option maxRecDepth 100000 in
theorem kL_10 : mTok cL_law RL 4 false tL_10 := mTok_of (by decide +kernel) ⟨trivial, trivial, trivial, trivial, trivial, trivial, trivial, trivial, trivial, trivial, trivial, trivial, trivial, trivial, trivial, trivial, trivial, trivial, trivial, trivial, trivial, trivial, trivial, trivial, trivial, trivial, trivial, trivial⟩
theorem z_steal {l : Launch} {b : Bool} {a1 a2 : Int32} {S S' : mT} {r : Int32} (h : fX11_steal b a1 a2 S = some (r, S')) : mMet l mX11_steal 3 [.ref 0, .int a1, .int a2] (mk b S) (some (.int r)) (mk b S') := by
  cases b
  · exact qX11_steal_f h
  · exact qX11_steal_t h
section ZL
variable {p : Program} {l : Launch} {e : Env} {s : State} {m : MethodId} {below : List Frame} {meth : Method} {c : Code} {G : mG} {b0 Ln : Nat} {xs : Nat → Int32} {Q : State → Prop}
theorem zc_steal (C : zC p s m meth c G b0) (E : zEn s G b0 Ln xs) {b : Bool} {S S1 S2 : mT} {i r : Int32} {ok : Bool} (hin1 : vp_in (i + (1 : Int32)) Ln) (hin2 : vp_in (i + (2 : Int32)) Ln) (h1 : fX11_steal b (zX xs (i + (1 : Int32))) (zX xs (i + (2 : Int32))) S = some (r, S1)) (h2 : fX12_steal (zX xs (i + (1 : Int32))) (zX xs (i + (2 : Int32))) S1 = some (r, S2)) (k : zW p l e s m below meth c G b0 Q (true, 1352, [.ref 900300, .ref 0, .ref 187, .int i], [], mk b S2)) : zW p l e s m below meth c G b0 Q (ok, 506, [.ref 900300, .ref 0, .ref 187, .int i], [], mk b S) := by
  refine msegT C kL_10 0 5 (g := (true, 511, [.ref 900300, .ref 0, .ref 187, .int i], [.int (i + (1 : Int32)), .ref 900300, .ref 0], mk b S)) rfl rfl ?_
  refine so_scr (ok' := true) C E hin1 (kL_10 _ (List.mem_of_getElem? (i := 5) rfl)).1 ?_
  refine msegT C kL_10 6 4 (g := (true, 516, [.ref 900300, .ref 0, .ref 187, .int i], [.int (i + (2 : Int32)), .ref 900300, .int (zX xs (i + (1 : Int32))), .ref 0], mk b S)) rfl rfl ?_
  refine so_scr (ok' := true) C E hin2 (kL_10 _ (List.mem_of_getElem? (i := 10) rfl)).1 ?_
  refine mcall (kd := 0) (vs := [.ref 0, .int (zX xs (i + (1 : Int32))), .int (zX xs (i + (2 : Int32)))]) (rest := []) (r := (some (.int r))) (h' := mk b S1) (ok' := true) C lkRL_57 (z_steal h1) (kL_10 _ (List.mem_of_getElem? (i := 11) rfl)).1 ⟨_, _, rfl, rfl, (Nat.le_of_ble_eq_true rfl), _, _, rfl, rfl, rfl⟩ (Nat.le_of_ble_eq_true rfl) (Nat.le_of_ble_eq_true rfl) (Nat.le_refl _) (Nat.le_refl _) (Nat.le_of_ble_eq_true rfl) ?_
  refine msegT C kL_10 12 5 (g := (true, 525, [.ref 900300, .ref 0, .ref 187, .int i], [.int (i + (1 : Int32)), .ref 900300, .ref 187, .int r], mk b S1)) rfl rfl ?_
  refine so_scr (ok' := true) C E hin1 (kL_10 _ (List.mem_of_getElem? (i := 17) rfl)).1 ?_
  refine msegT C kL_10 18 4 (g := (true, 530, [.ref 900300, .ref 0, .ref 187, .int i], [.int (i + (2 : Int32)), .ref 900300, .int (zX xs (i + (1 : Int32))), .ref 187, .int r], mk b S1)) rfl rfl ?_
  refine so_scr (ok' := true) C E hin2 (kL_10 _ (List.mem_of_getElem? (i := 22) rfl)).1 ?_
  refine mcall (kd := 0) (vs := [.ref 187, .int (zX xs (i + (1 : Int32))), .int (zX xs (i + (2 : Int32)))]) (rest := [.int r]) (r := (some (.int r))) (h' := mk b S2) (ok' := true) C lkRL_60 (qX12_steal h2) (kL_10 _ (List.mem_of_getElem? (i := 23) rfl)).1 ⟨_, _, rfl, rfl, (Nat.le_of_ble_eq_true rfl), _, _, rfl, rfl, rfl⟩ (Nat.le_of_ble_eq_true rfl) (Nat.le_of_ble_eq_true rfl) (Nat.le_refl _) (Nat.le_refl _) (Nat.le_of_ble_eq_true rfl) ?_
  refine msegT C kL_10 24 1 (g := (true, (if r = r then 1352 else 537), [.ref 900300, .ref 0, .ref 187, .int i], [], mk b S2)) rfl rfl ?_
  rw [if_pos rfl]
  exact k
end ZL
def tL_11 : List mI := [(539, .aload_n 1, 1, 0, 0), (540, .invokevirtual 61, 3, 0, 0), (543, .aload_n 2, 1, 0, 0), (544, .invokevirtual 64, 3, 0, 0), (547, .if_icmp .eq 805, 3, 0, 0), (550, .iconst 0, 1, 0, 0), (551, .ireturn, 1, 0, 0)]
set_option maxRecDepth 100000 in
theorem kL_11 : mTok cL_law RL 4 false tL_11 := mTok_of (by decide +kernel) ⟨trivial, trivial, trivial, trivial, trivial, trivial, trivial, trivial⟩
theorem z_summer {l : Launch} {b : Bool} {S S' : mT} {r : Int32} (h : fX11_summer b S = some (r, S')) : mMet l mX11_summer 6 [.ref 0] (mk b S) (some (.int r)) (mk b S') := by
  cases b
  · exact qX11_summer_f h
  · exact qX11_summer_t h
section ZL
variable {p : Program} {l : Launch} {e : Env} {s : State} {m : MethodId} {below : List Frame} {meth : Method} {c : Code} {G : mG} {b0 Ln : Nat} {xs : Nat → Int32} {Q : State → Prop}
theorem zc_summer (C : zC p s m meth c G b0) (E : zEn s G b0 Ln xs) {b : Bool} {S S1 S2 : mT} {i r : Int32} {ok : Bool} (h1 : fX11_summer b S = some (r, S1)) (h2 : fX12_summer S1 = some (r, S2)) (k : zW p l e s m below meth c G b0 Q (true, 1352, [.ref 900300, .ref 0, .ref 187, .int i], [], mk b S2)) : zW p l e s m below meth c G b0 Q (ok, 539, [.ref 900300, .ref 0, .ref 187, .int i], [], mk b S) := by
  refine msegT C kL_11 0 1 (g := (true, 540, [.ref 900300, .ref 0, .ref 187, .int i], [.ref 0], mk b S)) rfl rfl ?_
  refine mcall (kd := 0) (vs := [.ref 0]) (rest := []) (r := (some (.int r))) (h' := mk b S1) (ok' := true) C lkRL_61 (z_summer h1) (kL_11 _ (List.mem_of_getElem? (i := 1) rfl)).1 ⟨_, _, rfl, rfl, (Nat.le_of_ble_eq_true rfl), _, _, rfl, rfl, rfl⟩ (Nat.le_of_ble_eq_true rfl) (Nat.le_of_ble_eq_true rfl) (Nat.le_refl _) (Nat.le_refl _) (Nat.le_of_ble_eq_true rfl) ?_
  refine msegT C kL_11 2 1 (g := (true, 544, [.ref 900300, .ref 0, .ref 187, .int i], [.ref 187, .int r], mk b S1)) rfl rfl ?_
  refine mcall (kd := 0) (vs := [.ref 187]) (rest := [.int r]) (r := (some (.int r))) (h' := mk b S2) (ok' := true) C lkRL_64 (qX12_summer h2) (kL_11 _ (List.mem_of_getElem? (i := 3) rfl)).1 ⟨_, _, rfl, rfl, (Nat.le_of_ble_eq_true rfl), _, _, rfl, rfl, rfl⟩ (Nat.le_of_ble_eq_true rfl) (Nat.le_of_ble_eq_true rfl) (Nat.le_refl _) (Nat.le_refl _) (Nat.le_of_ble_eq_true rfl) ?_
  refine msegT C kL_11 4 1 (g := (true, (if r = r then 1352 else 550), [.ref 900300, .ref 0, .ref 187, .int i], [], mk b S2)) rfl rfl ?_
  rw [if_pos rfl]
  exact k
end ZL
def tL_12 : List mI := [(552, .aload_n 1, 1, 0, 0), (553, .invokevirtual 65, 3, 0, 0), (556, .aload_n 2, 1, 0, 0), (557, .invokevirtual 69, 3, 0, 0), (560, .if_icmp .eq 792, 3, 0, 0), (563, .iconst 0, 1, 0, 0), (564, .ireturn, 1, 0, 0)]
set_option maxRecDepth 100000 in
theorem kL_12 : mTok cL_law RL 4 false tL_12 := mTok_of (by decide +kernel) ⟨trivial, trivial, trivial, trivial, trivial, trivial, trivial, trivial⟩
theorem z_undo {l : Launch} {b : Bool} {S S' : mT} {r : Int32} (h : fX11_undo S = some (r, S')) : mMet l mX11_undo 3 [.ref 0] (mk b S) (some (.int r)) (mk b S') := qX11_undo h
section ZL
variable {p : Program} {l : Launch} {e : Env} {s : State} {m : MethodId} {below : List Frame} {meth : Method} {c : Code} {G : mG} {b0 Ln : Nat} {xs : Nat → Int32} {Q : State → Prop}
theorem zc_undo (C : zC p s m meth c G b0) (E : zEn s G b0 Ln xs) {b : Bool} {S S1 S2 : mT} {i r : Int32} {ok : Bool} (h1 : fX11_undo S = some (r, S1)) (h2 : fX12_undo S1 = some (r, S2)) (k : zW p l e s m below meth c G b0 Q (true, 1352, [.ref 900300, .ref 0, .ref 187, .int i], [], mk b S2)) : zW p l e s m below meth c G b0 Q (ok, 552, [.ref 900300, .ref 0, .ref 187, .int i], [], mk b S) := by
  refine msegT C kL_12 0 1 (g := (true, 553, [.ref 900300, .ref 0, .ref 187, .int i], [.ref 0], mk b S)) rfl rfl ?_
  refine mcall (kd := 0) (vs := [.ref 0]) (rest := []) (r := (some (.int r))) (h' := mk b S1) (ok' := true) C lkRL_65 (z_undo h1) (kL_12 _ (List.mem_of_getElem? (i := 1) rfl)).1 ⟨_, _, rfl, rfl, (Nat.le_of_ble_eq_true rfl), _, _, rfl, rfl, rfl⟩ (Nat.le_of_ble_eq_true rfl) (Nat.le_of_ble_eq_true rfl) (Nat.le_refl _) (Nat.le_refl _) (Nat.le_of_ble_eq_true rfl) ?_
  refine msegT C kL_12 2 1 (g := (true, 557, [.ref 900300, .ref 0, .ref 187, .int i], [.ref 187, .int r], mk b S1)) rfl rfl ?_
  refine mcall (kd := 0) (vs := [.ref 187]) (rest := [.int r]) (r := (some (.int r))) (h' := mk b S2) (ok' := true) C lkRL_69 (qX12_undo h2) (kL_12 _ (List.mem_of_getElem? (i := 3) rfl)).1 ⟨_, _, rfl, rfl, (Nat.le_of_ble_eq_true rfl), _, _, rfl, rfl, rfl⟩ (Nat.le_of_ble_eq_true rfl) (Nat.le_of_ble_eq_true rfl) (Nat.le_refl _) (Nat.le_refl _) (Nat.le_of_ble_eq_true rfl) ?_
  refine msegT C kL_12 4 1 (g := (true, (if r = r then 1352 else 563), [.ref 900300, .ref 0, .ref 187, .int i], [], mk b S2)) rfl rfl ?_
  rw [if_pos rfl]
  exact k
end ZL
def tL_13 : List mI := [(565, .aload_n 1, 1, 0, 0), (566, .invokevirtual 70, 3, 0, 0), (569, .aload_n 2, 1, 0, 0), (570, .invokevirtual 73, 3, 0, 0), (573, .if_icmp .eq 779, 3, 0, 0), (576, .iconst 0, 1, 0, 0), (577, .ireturn, 1, 0, 0)]
set_option maxRecDepth 100000 in
theorem kL_13 : mTok cL_law RL 4 false tL_13 := mTok_of (by decide +kernel) ⟨trivial, trivial, trivial, trivial, trivial, trivial, trivial, trivial⟩
theorem z_redo {l : Launch} {b : Bool} {S S' : mT} {r : Int32} (h : fX11_redo S = some (r, S')) : mMet l mX11_redo 3 [.ref 0] (mk b S) (some (.int r)) (mk b S') := qX11_redo h
section ZL
variable {p : Program} {l : Launch} {e : Env} {s : State} {m : MethodId} {below : List Frame} {meth : Method} {c : Code} {G : mG} {b0 Ln : Nat} {xs : Nat → Int32} {Q : State → Prop}
theorem zc_redo (C : zC p s m meth c G b0) (E : zEn s G b0 Ln xs) {b : Bool} {S S1 S2 : mT} {i r : Int32} {ok : Bool} (h1 : fX11_redo S = some (r, S1)) (h2 : fX12_redo S1 = some (r, S2)) (k : zW p l e s m below meth c G b0 Q (true, 1352, [.ref 900300, .ref 0, .ref 187, .int i], [], mk b S2)) : zW p l e s m below meth c G b0 Q (ok, 565, [.ref 900300, .ref 0, .ref 187, .int i], [], mk b S) := by
  refine msegT C kL_13 0 1 (g := (true, 566, [.ref 900300, .ref 0, .ref 187, .int i], [.ref 0], mk b S)) rfl rfl ?_
  refine mcall (kd := 0) (vs := [.ref 0]) (rest := []) (r := (some (.int r))) (h' := mk b S1) (ok' := true) C lkRL_70 (z_redo h1) (kL_13 _ (List.mem_of_getElem? (i := 1) rfl)).1 ⟨_, _, rfl, rfl, (Nat.le_of_ble_eq_true rfl), _, _, rfl, rfl, rfl⟩ (Nat.le_of_ble_eq_true rfl) (Nat.le_of_ble_eq_true rfl) (Nat.le_refl _) (Nat.le_refl _) (Nat.le_of_ble_eq_true rfl) ?_
  refine msegT C kL_13 2 1 (g := (true, 570, [.ref 900300, .ref 0, .ref 187, .int i], [.ref 187, .int r], mk b S1)) rfl rfl ?_
  refine mcall (kd := 0) (vs := [.ref 187]) (rest := [.int r]) (r := (some (.int r))) (h' := mk b S2) (ok' := true) C lkRL_73 (qX12_redo h2) (kL_13 _ (List.mem_of_getElem? (i := 3) rfl)).1 ⟨_, _, rfl, rfl, (Nat.le_of_ble_eq_true rfl), _, _, rfl, rfl, rfl⟩ (Nat.le_of_ble_eq_true rfl) (Nat.le_of_ble_eq_true rfl) (Nat.le_refl _) (Nat.le_refl _) (Nat.le_of_ble_eq_true rfl) ?_
  refine msegT C kL_13 4 1 (g := (true, (if r = r then 1352 else 576), [.ref 900300, .ref 0, .ref 187, .int i], [], mk b S2)) rfl rfl ?_
  rw [if_pos rfl]
  exact k
end ZL
def tL_14 : List mI := [(578, .aload_n 1, 1, 0, 0), (579, .invokevirtual 74, 3, 0, 0), (582, .aload_n 2, 1, 0, 0), (583, .invokevirtual 77, 3, 0, 0), (586, .if_icmp .eq 766, 3, 0, 0), (589, .iconst 0, 1, 0, 0), (590, .ireturn, 1, 0, 0)]
set_option maxRecDepth 100000 in
theorem kL_14 : mTok cL_law RL 4 false tL_14 := mTok_of (by decide +kernel) ⟨trivial, trivial, trivial, trivial, trivial, trivial, trivial, trivial⟩
theorem z_falses {l : Launch} {b : Bool} {S S' : mT} {r : Int32} (h : fX11_falses b S = some (r, S')) : mMet l mX11_falses 1 [.ref 0] (mk b S) (some (.int r)) (mk b S') := by
  cases b
  · exact qX11_falses_f h
  · exact qX11_falses_t h
section ZL
variable {p : Program} {l : Launch} {e : Env} {s : State} {m : MethodId} {below : List Frame} {meth : Method} {c : Code} {G : mG} {b0 Ln : Nat} {xs : Nat → Int32} {Q : State → Prop}
theorem zc_falses (C : zC p s m meth c G b0) (E : zEn s G b0 Ln xs) {b : Bool} {S S1 S2 : mT} {i r : Int32} {ok : Bool} (h1 : fX11_falses b S = some (r, S1)) (h2 : fX12_falses S1 = some (r, S2)) (k : zW p l e s m below meth c G b0 Q (true, 1352, [.ref 900300, .ref 0, .ref 187, .int i], [], mk b S2)) : zW p l e s m below meth c G b0 Q (ok, 578, [.ref 900300, .ref 0, .ref 187, .int i], [], mk b S) := by
  refine msegT C kL_14 0 1 (g := (true, 579, [.ref 900300, .ref 0, .ref 187, .int i], [.ref 0], mk b S)) rfl rfl ?_
  refine mcall (kd := 0) (vs := [.ref 0]) (rest := []) (r := (some (.int r))) (h' := mk b S1) (ok' := true) C lkRL_74 (z_falses h1) (kL_14 _ (List.mem_of_getElem? (i := 1) rfl)).1 ⟨_, _, rfl, rfl, (Nat.le_of_ble_eq_true rfl), _, _, rfl, rfl, rfl⟩ (Nat.le_of_ble_eq_true rfl) (Nat.le_of_ble_eq_true rfl) (Nat.le_refl _) (Nat.le_refl _) (Nat.le_of_ble_eq_true rfl) ?_
  refine msegT C kL_14 2 1 (g := (true, 583, [.ref 900300, .ref 0, .ref 187, .int i], [.ref 187, .int r], mk b S1)) rfl rfl ?_
  refine mcall (kd := 0) (vs := [.ref 187]) (rest := [.int r]) (r := (some (.int r))) (h' := mk b S2) (ok' := true) C lkRL_77 (qX12_falses h2) (kL_14 _ (List.mem_of_getElem? (i := 3) rfl)).1 ⟨_, _, rfl, rfl, (Nat.le_of_ble_eq_true rfl), _, _, rfl, rfl, rfl⟩ (Nat.le_of_ble_eq_true rfl) (Nat.le_of_ble_eq_true rfl) (Nat.le_refl _) (Nat.le_refl _) (Nat.le_of_ble_eq_true rfl) ?_
  refine msegT C kL_14 4 1 (g := (true, (if r = r then 1352 else 589), [.ref 900300, .ref 0, .ref 187, .int i], [], mk b S2)) rfl rfl ?_
  rw [if_pos rfl]
  exact k
end ZL
def tL_15 : List mI := [(591, .aload_n 1, 1, 0, 0), (592, .aload_n 0, 1, 0, 0), (593, .iload_n 3, 1, 0, 0), (594, .iconst 1, 1, 0, 0), (595, .iadd, 1, 0, 0), (596, .iaload, 1, 0, 0), (597, .aload_n 0, 1, 0, 0), (598, .iload_n 3, 1, 0, 0), (599, .iconst 2, 1, 0, 0), (600, .iadd, 1, 0, 0), (601, .iaload, 1, 0, 0), (602, .invokevirtual 78, 3, 0, 0), (605, .aload_n 2, 1, 0, 0), (606, .aload_n 0, 1, 0, 0), (607, .iload_n 3, 1, 0, 0), (608, .iconst 1, 1, 0, 0), (609, .iadd, 1, 0, 0), (610, .iaload, 1, 0, 0), (611, .aload_n 0, 1, 0, 0), (612, .iload_n 3, 1, 0, 0), (613, .iconst 2, 1, 0, 0), (614, .iadd, 1, 0, 0), (615, .iaload, 1, 0, 0), (616, .invokevirtual 81, 3, 0, 0), (619, .if_icmp .eq 733, 3, 0, 0), (622, .iconst 0, 1, 0, 0), (623, .ireturn, 1, 0, 0)]
set_option maxRecDepth 100000 in
theorem kL_15 : mTok cL_law RL 4 false tL_15 := mTok_of (by decide +kernel) ⟨trivial, trivial, trivial, trivial, trivial, trivial, trivial, trivial, trivial, trivial, trivial, trivial, trivial, trivial, trivial, trivial, trivial, trivial, trivial, trivial, trivial, trivial, trivial, trivial, trivial, trivial, trivial, trivial⟩
theorem z_will {l : Launch} {b : Bool} {a1 a2 : Int32} {S S' : mT} {r : Int32} (h : fX11_will b a1 a2 S = some (r, S')) : mMet l mX11_will 7 [.ref 0, .int a1, .int a2] (mk b S) (some (.int r)) (mk b S') := by
  cases b
  · exact qX11_will_f h
  · exact qX11_will_t h
section ZL
variable {p : Program} {l : Launch} {e : Env} {s : State} {m : MethodId} {below : List Frame} {meth : Method} {c : Code} {G : mG} {b0 Ln : Nat} {xs : Nat → Int32} {Q : State → Prop}
theorem zc_will (C : zC p s m meth c G b0) (E : zEn s G b0 Ln xs) {b : Bool} {S S1 S2 : mT} {i r : Int32} {ok : Bool} (hin1 : vp_in (i + (1 : Int32)) Ln) (hin2 : vp_in (i + (2 : Int32)) Ln) (h1 : fX11_will b (zX xs (i + (1 : Int32))) (zX xs (i + (2 : Int32))) S = some (r, S1)) (h2 : fX12_will (zX xs (i + (1 : Int32))) (zX xs (i + (2 : Int32))) S1 = some (r, S2)) (k : zW p l e s m below meth c G b0 Q (true, 1352, [.ref 900300, .ref 0, .ref 187, .int i], [], mk b S2)) : zW p l e s m below meth c G b0 Q (ok, 591, [.ref 900300, .ref 0, .ref 187, .int i], [], mk b S) := by
  refine msegT C kL_15 0 5 (g := (true, 596, [.ref 900300, .ref 0, .ref 187, .int i], [.int (i + (1 : Int32)), .ref 900300, .ref 0], mk b S)) rfl rfl ?_
  refine so_scr (ok' := true) C E hin1 (kL_15 _ (List.mem_of_getElem? (i := 5) rfl)).1 ?_
  refine msegT C kL_15 6 4 (g := (true, 601, [.ref 900300, .ref 0, .ref 187, .int i], [.int (i + (2 : Int32)), .ref 900300, .int (zX xs (i + (1 : Int32))), .ref 0], mk b S)) rfl rfl ?_
  refine so_scr (ok' := true) C E hin2 (kL_15 _ (List.mem_of_getElem? (i := 10) rfl)).1 ?_
  refine mcall (kd := 0) (vs := [.ref 0, .int (zX xs (i + (1 : Int32))), .int (zX xs (i + (2 : Int32)))]) (rest := []) (r := (some (.int r))) (h' := mk b S1) (ok' := true) C lkRL_78 (z_will h1) (kL_15 _ (List.mem_of_getElem? (i := 11) rfl)).1 ⟨_, _, rfl, rfl, (Nat.le_of_ble_eq_true rfl), _, _, rfl, rfl, rfl⟩ (Nat.le_of_ble_eq_true rfl) (Nat.le_of_ble_eq_true rfl) (Nat.le_refl _) (Nat.le_refl _) (Nat.le_of_ble_eq_true rfl) ?_
  refine msegT C kL_15 12 5 (g := (true, 610, [.ref 900300, .ref 0, .ref 187, .int i], [.int (i + (1 : Int32)), .ref 900300, .ref 187, .int r], mk b S1)) rfl rfl ?_
  refine so_scr (ok' := true) C E hin1 (kL_15 _ (List.mem_of_getElem? (i := 17) rfl)).1 ?_
  refine msegT C kL_15 18 4 (g := (true, 615, [.ref 900300, .ref 0, .ref 187, .int i], [.int (i + (2 : Int32)), .ref 900300, .int (zX xs (i + (1 : Int32))), .ref 187, .int r], mk b S1)) rfl rfl ?_
  refine so_scr (ok' := true) C E hin2 (kL_15 _ (List.mem_of_getElem? (i := 22) rfl)).1 ?_
  refine mcall (kd := 0) (vs := [.ref 187, .int (zX xs (i + (1 : Int32))), .int (zX xs (i + (2 : Int32)))]) (rest := [.int r]) (r := (some (.int r))) (h' := mk b S2) (ok' := true) C lkRL_81 (qX12_will h2) (kL_15 _ (List.mem_of_getElem? (i := 23) rfl)).1 ⟨_, _, rfl, rfl, (Nat.le_of_ble_eq_true rfl), _, _, rfl, rfl, rfl⟩ (Nat.le_of_ble_eq_true rfl) (Nat.le_of_ble_eq_true rfl) (Nat.le_refl _) (Nat.le_refl _) (Nat.le_of_ble_eq_true rfl) ?_
  refine msegT C kL_15 24 1 (g := (true, (if r = r then 1352 else 622), [.ref 900300, .ref 0, .ref 187, .int i], [], mk b S2)) rfl rfl ?_
  rw [if_pos rfl]
  exact k
end ZL
def tL_16 : List mI := [(624, .aload_n 1, 1, 0, 0), (625, .aload_n 0, 1, 0, 0), (626, .iload_n 3, 1, 0, 0), (627, .iconst 1, 1, 0, 0), (628, .iadd, 1, 0, 0), (629, .iaload, 1, 0, 0), (630, .invokevirtual 82, 3, 0, 0), (633, .aload_n 2, 1, 0, 0), (634, .aload_n 0, 1, 0, 0), (635, .iload_n 3, 1, 0, 0), (636, .iconst 1, 1, 0, 0), (637, .iadd, 1, 0, 0), (638, .iaload, 1, 0, 0), (639, .invokevirtual 85, 3, 0, 0), (642, .if_icmp .eq 710, 3, 0, 0), (645, .iconst 0, 1, 0, 0), (646, .ireturn, 1, 0, 0)]
set_option maxRecDepth 100000 in
theorem kL_16 : mTok cL_law RL 4 false tL_16 := mTok_of (by decide +kernel) ⟨trivial, trivial, trivial, trivial, trivial, trivial, trivial, trivial, trivial, trivial, trivial, trivial, trivial, trivial, trivial, trivial, trivial, trivial⟩
theorem z_bowls {l : Launch} {b : Bool} {a1 : Int32} {S S' : mT} {r : Int32} (h : fX11_bowls b a1 S = some (r, S')) : mMet l mX11_bowls 7 [.ref 0, .int a1] (mk b S) (some (.int r)) (mk b S') := by
  cases b
  · exact qX11_bowls_f h
  · exact qX11_bowls_t h
section ZL
variable {p : Program} {l : Launch} {e : Env} {s : State} {m : MethodId} {below : List Frame} {meth : Method} {c : Code} {G : mG} {b0 Ln : Nat} {xs : Nat → Int32} {Q : State → Prop}
theorem zc_bowls (C : zC p s m meth c G b0) (E : zEn s G b0 Ln xs) {b : Bool} {S S1 S2 : mT} {i r : Int32} {ok : Bool} (hin1 : vp_in (i + (1 : Int32)) Ln) (h1 : fX11_bowls b (zX xs (i + (1 : Int32))) S = some (r, S1)) (h2 : fX12_bowls (zX xs (i + (1 : Int32))) S1 = some (r, S2)) (k : zW p l e s m below meth c G b0 Q (true, 1352, [.ref 900300, .ref 0, .ref 187, .int i], [], mk b S2)) : zW p l e s m below meth c G b0 Q (ok, 624, [.ref 900300, .ref 0, .ref 187, .int i], [], mk b S) := by
  refine msegT C kL_16 0 5 (g := (true, 629, [.ref 900300, .ref 0, .ref 187, .int i], [.int (i + (1 : Int32)), .ref 900300, .ref 0], mk b S)) rfl rfl ?_
  refine so_scr (ok' := true) C E hin1 (kL_16 _ (List.mem_of_getElem? (i := 5) rfl)).1 ?_
  refine mcall (kd := 0) (vs := [.ref 0, .int (zX xs (i + (1 : Int32)))]) (rest := []) (r := (some (.int r))) (h' := mk b S1) (ok' := true) C lkRL_82 (z_bowls h1) (kL_16 _ (List.mem_of_getElem? (i := 6) rfl)).1 ⟨_, _, rfl, rfl, (Nat.le_of_ble_eq_true rfl), _, _, rfl, rfl, rfl⟩ (Nat.le_of_ble_eq_true rfl) (Nat.le_of_ble_eq_true rfl) (Nat.le_refl _) (Nat.le_refl _) (Nat.le_of_ble_eq_true rfl) ?_
  refine msegT C kL_16 7 5 (g := (true, 638, [.ref 900300, .ref 0, .ref 187, .int i], [.int (i + (1 : Int32)), .ref 900300, .ref 187, .int r], mk b S1)) rfl rfl ?_
  refine so_scr (ok' := true) C E hin1 (kL_16 _ (List.mem_of_getElem? (i := 12) rfl)).1 ?_
  refine mcall (kd := 0) (vs := [.ref 187, .int (zX xs (i + (1 : Int32)))]) (rest := [.int r]) (r := (some (.int r))) (h' := mk b S2) (ok' := true) C lkRL_85 (qX12_bowls h2) (kL_16 _ (List.mem_of_getElem? (i := 13) rfl)).1 ⟨_, _, rfl, rfl, (Nat.le_of_ble_eq_true rfl), _, _, rfl, rfl, rfl⟩ (Nat.le_of_ble_eq_true rfl) (Nat.le_of_ble_eq_true rfl) (Nat.le_refl _) (Nat.le_refl _) (Nat.le_of_ble_eq_true rfl) ?_
  refine msegT C kL_16 14 1 (g := (true, (if r = r then 1352 else 645), [.ref 900300, .ref 0, .ref 187, .int i], [], mk b S2)) rfl rfl ?_
  rw [if_pos rfl]
  exact k
end ZL
def tL_17 : List mI := [(647, .aload_n 1, 1, 0, 0), (648, .aload_n 0, 1, 0, 0), (649, .iload_n 3, 1, 0, 0), (650, .iconst 1, 1, 0, 0), (651, .iadd, 1, 0, 0), (652, .iaload, 1, 0, 0), (653, .invokevirtual 86, 3, 0, 0), (656, .aload_n 2, 1, 0, 0), (657, .aload_n 0, 1, 0, 0), (658, .iload_n 3, 1, 0, 0), (659, .iconst 1, 1, 0, 0), (660, .iadd, 1, 0, 0), (661, .iaload, 1, 0, 0), (662, .invokevirtual 89, 3, 0, 0), (665, .if_icmp .eq 687, 3, 0, 0), (668, .iconst 0, 1, 0, 0), (669, .ireturn, 1, 0, 0)]
set_option maxRecDepth 100000 in
theorem kL_17 : mTok cL_law RL 4 false tL_17 := mTok_of (by decide +kernel) ⟨trivial, trivial, trivial, trivial, trivial, trivial, trivial, trivial, trivial, trivial, trivial, trivial, trivial, trivial, trivial, trivial, trivial, trivial⟩
theorem z_leave {l : Launch} {b : Bool} {a1 : Int32} {S S' : mT} {r : Int32} (h : fX11_leave b a1 S = some (r, S')) : mMet l mX11_leave 6 [.ref 0, .int a1] (mk b S) (some (.int r)) (mk b S') := by
  cases b
  · exact qX11_leave_f h
  · exact qX11_leave_t h
section ZL
variable {p : Program} {l : Launch} {e : Env} {s : State} {m : MethodId} {below : List Frame} {meth : Method} {c : Code} {G : mG} {b0 Ln : Nat} {xs : Nat → Int32} {Q : State → Prop}
theorem zc_leave (C : zC p s m meth c G b0) (E : zEn s G b0 Ln xs) {b : Bool} {S S1 S2 : mT} {i r : Int32} {ok : Bool} (hin1 : vp_in (i + (1 : Int32)) Ln) (h1 : fX11_leave b (zX xs (i + (1 : Int32))) S = some (r, S1)) (h2 : fX12_leave (zX xs (i + (1 : Int32))) S1 = some (r, S2)) (k : zW p l e s m below meth c G b0 Q (true, 1352, [.ref 900300, .ref 0, .ref 187, .int i], [], mk b S2)) : zW p l e s m below meth c G b0 Q (ok, 647, [.ref 900300, .ref 0, .ref 187, .int i], [], mk b S) := by
  refine msegT C kL_17 0 5 (g := (true, 652, [.ref 900300, .ref 0, .ref 187, .int i], [.int (i + (1 : Int32)), .ref 900300, .ref 0], mk b S)) rfl rfl ?_
  refine so_scr (ok' := true) C E hin1 (kL_17 _ (List.mem_of_getElem? (i := 5) rfl)).1 ?_
  refine mcall (kd := 0) (vs := [.ref 0, .int (zX xs (i + (1 : Int32)))]) (rest := []) (r := (some (.int r))) (h' := mk b S1) (ok' := true) C lkRL_86 (z_leave h1) (kL_17 _ (List.mem_of_getElem? (i := 6) rfl)).1 ⟨_, _, rfl, rfl, (Nat.le_of_ble_eq_true rfl), _, _, rfl, rfl, rfl⟩ (Nat.le_of_ble_eq_true rfl) (Nat.le_of_ble_eq_true rfl) (Nat.le_refl _) (Nat.le_refl _) (Nat.le_of_ble_eq_true rfl) ?_
  refine msegT C kL_17 7 5 (g := (true, 661, [.ref 900300, .ref 0, .ref 187, .int i], [.int (i + (1 : Int32)), .ref 900300, .ref 187, .int r], mk b S1)) rfl rfl ?_
  refine so_scr (ok' := true) C E hin1 (kL_17 _ (List.mem_of_getElem? (i := 12) rfl)).1 ?_
  refine mcall (kd := 0) (vs := [.ref 187, .int (zX xs (i + (1 : Int32)))]) (rest := [.int r]) (r := (some (.int r))) (h' := mk b S2) (ok' := true) C lkRL_89 (qX12_leave h2) (kL_17 _ (List.mem_of_getElem? (i := 13) rfl)).1 ⟨_, _, rfl, rfl, (Nat.le_of_ble_eq_true rfl), _, _, rfl, rfl, rfl⟩ (Nat.le_of_ble_eq_true rfl) (Nat.le_of_ble_eq_true rfl) (Nat.le_refl _) (Nat.le_refl _) (Nat.le_of_ble_eq_true rfl) ?_
  refine msegT C kL_17 14 1 (g := (true, (if r = r then 1352 else 668), [.ref 900300, .ref 0, .ref 187, .int i], [], mk b S2)) rfl rfl ?_
  rw [if_pos rfl]
  exact k
end ZL
def tL_18 : List mI := [(670, .aload_n 1, 1, 0, 0), (671, .invokevirtual 90, 3, 0, 0), (674, .aload_n 2, 1, 0, 0), (675, .invokevirtual 93, 3, 0, 0), (678, .if_icmp .eq 674, 3, 0, 0), (681, .iconst 0, 1, 0, 0), (682, .ireturn, 1, 0, 0)]
set_option maxRecDepth 100000 in
theorem kL_18 : mTok cL_law RL 4 false tL_18 := mTok_of (by decide +kernel) ⟨trivial, trivial, trivial, trivial, trivial, trivial, trivial, trivial⟩
theorem z_least {l : Launch} {b : Bool} {S S' : mT} {r : Int32} (h : fX11_least b S = some (r, S')) : mMet l mX11_least 6 [.ref 0] (mk b S) (some (.int r)) (mk b S') := by
  cases b
  · exact qX11_least_f h
  · exact qX11_least_t h
section ZL
variable {p : Program} {l : Launch} {e : Env} {s : State} {m : MethodId} {below : List Frame} {meth : Method} {c : Code} {G : mG} {b0 Ln : Nat} {xs : Nat → Int32} {Q : State → Prop}
theorem zc_least (C : zC p s m meth c G b0) (E : zEn s G b0 Ln xs) {b : Bool} {S S1 S2 : mT} {i r : Int32} {ok : Bool} (h1 : fX11_least b S = some (r, S1)) (h2 : fX12_least S1 = some (r, S2)) (k : zW p l e s m below meth c G b0 Q (true, 1352, [.ref 900300, .ref 0, .ref 187, .int i], [], mk b S2)) : zW p l e s m below meth c G b0 Q (ok, 670, [.ref 900300, .ref 0, .ref 187, .int i], [], mk b S) := by
  refine msegT C kL_18 0 1 (g := (true, 671, [.ref 900300, .ref 0, .ref 187, .int i], [.ref 0], mk b S)) rfl rfl ?_
  refine mcall (kd := 0) (vs := [.ref 0]) (rest := []) (r := (some (.int r))) (h' := mk b S1) (ok' := true) C lkRL_90 (z_least h1) (kL_18 _ (List.mem_of_getElem? (i := 1) rfl)).1 ⟨_, _, rfl, rfl, (Nat.le_of_ble_eq_true rfl), _, _, rfl, rfl, rfl⟩ (Nat.le_of_ble_eq_true rfl) (Nat.le_of_ble_eq_true rfl) (Nat.le_refl _) (Nat.le_refl _) (Nat.le_of_ble_eq_true rfl) ?_
  refine msegT C kL_18 2 1 (g := (true, 675, [.ref 900300, .ref 0, .ref 187, .int i], [.ref 187, .int r], mk b S1)) rfl rfl ?_
  refine mcall (kd := 0) (vs := [.ref 187]) (rest := [.int r]) (r := (some (.int r))) (h' := mk b S2) (ok' := true) C lkRL_93 (qX12_least h2) (kL_18 _ (List.mem_of_getElem? (i := 3) rfl)).1 ⟨_, _, rfl, rfl, (Nat.le_of_ble_eq_true rfl), _, _, rfl, rfl, rfl⟩ (Nat.le_of_ble_eq_true rfl) (Nat.le_of_ble_eq_true rfl) (Nat.le_refl _) (Nat.le_refl _) (Nat.le_of_ble_eq_true rfl) ?_
  refine msegT C kL_18 4 1 (g := (true, (if r = r then 1352 else 681), [.ref 900300, .ref 0, .ref 187, .int i], [], mk b S2)) rfl rfl ?_
  rw [if_pos rfl]
  exact k
end ZL
def tL_19 : List mI := [(683, .aload_n 1, 1, 0, 0), (684, .aload_n 0, 1, 0, 0), (685, .iload_n 3, 1, 0, 0), (686, .iconst 1, 1, 0, 0), (687, .iadd, 1, 0, 0), (688, .iaload, 1, 0, 0), (689, .invokevirtual 94, 3, 0, 0), (692, .aload_n 2, 1, 0, 0), (693, .aload_n 0, 1, 0, 0), (694, .iload_n 3, 1, 0, 0), (695, .iconst 1, 1, 0, 0), (696, .iadd, 1, 0, 0), (697, .iaload, 1, 0, 0), (698, .invokevirtual 97, 3, 0, 0), (701, .if_icmp .eq 651, 3, 0, 0), (704, .iconst 0, 1, 0, 0), (705, .ireturn, 1, 0, 0)]
set_option maxRecDepth 100000 in
theorem kL_19 : mTok cL_law RL 4 false tL_19 := mTok_of (by decide +kernel) ⟨trivial, trivial, trivial, trivial, trivial, trivial, trivial, trivial, trivial, trivial, trivial, trivial, trivial, trivial, trivial, trivial, trivial, trivial⟩
theorem z_rounds {l : Launch} {b : Bool} {a1 : Int32} {S S' : mT} {r : Int32} (h : fX11_rounds b a1 S = some (r, S')) : mMet l mX11_rounds 20 [.ref 0, .int a1] (mk b S) (some (.int r)) (mk b S') := by
  cases b
  · exact qX11_rounds_f h
  · exact qX11_rounds_t h
section ZL
variable {p : Program} {l : Launch} {e : Env} {s : State} {m : MethodId} {below : List Frame} {meth : Method} {c : Code} {G : mG} {b0 Ln : Nat} {xs : Nat → Int32} {Q : State → Prop}
theorem zc_rounds (C : zC p s m meth c G b0) (E : zEn s G b0 Ln xs) {b : Bool} {S S1 S2 : mT} {i r : Int32} {ok : Bool} (hin1 : vp_in (i + (1 : Int32)) Ln) (h1 : fX11_rounds b (zX xs (i + (1 : Int32))) S = some (r, S1)) (h2 : fX12_rounds (zX xs (i + (1 : Int32))) S1 = some (r, S2)) (k : zW p l e s m below meth c G b0 Q (true, 1352, [.ref 900300, .ref 0, .ref 187, .int i], [], mk b S2)) : zW p l e s m below meth c G b0 Q (ok, 683, [.ref 900300, .ref 0, .ref 187, .int i], [], mk b S) := by
  refine msegT C kL_19 0 5 (g := (true, 688, [.ref 900300, .ref 0, .ref 187, .int i], [.int (i + (1 : Int32)), .ref 900300, .ref 0], mk b S)) rfl rfl ?_
  refine so_scr (ok' := true) C E hin1 (kL_19 _ (List.mem_of_getElem? (i := 5) rfl)).1 ?_
  refine mcall (kd := 0) (vs := [.ref 0, .int (zX xs (i + (1 : Int32)))]) (rest := []) (r := (some (.int r))) (h' := mk b S1) (ok' := true) C lkRL_94 (z_rounds h1) (kL_19 _ (List.mem_of_getElem? (i := 6) rfl)).1 ⟨_, _, rfl, rfl, (Nat.le_of_ble_eq_true rfl), _, _, rfl, rfl, rfl⟩ (Nat.le_of_ble_eq_true rfl) (Nat.le_of_ble_eq_true rfl) (Nat.le_refl _) (Nat.le_refl _) (Nat.le_of_ble_eq_true rfl) ?_
  refine msegT C kL_19 7 5 (g := (true, 697, [.ref 900300, .ref 0, .ref 187, .int i], [.int (i + (1 : Int32)), .ref 900300, .ref 187, .int r], mk b S1)) rfl rfl ?_
  refine so_scr (ok' := true) C E hin1 (kL_19 _ (List.mem_of_getElem? (i := 12) rfl)).1 ?_
  refine mcall (kd := 0) (vs := [.ref 187, .int (zX xs (i + (1 : Int32)))]) (rest := [.int r]) (r := (some (.int r))) (h' := mk b S2) (ok' := true) C lkRL_97 (qX12_rounds h2) (kL_19 _ (List.mem_of_getElem? (i := 13) rfl)).1 ⟨_, _, rfl, rfl, (Nat.le_of_ble_eq_true rfl), _, _, rfl, rfl, rfl⟩ (Nat.le_of_ble_eq_true rfl) (Nat.le_of_ble_eq_true rfl) (Nat.le_refl _) (Nat.le_refl _) (Nat.le_of_ble_eq_true rfl) ?_
  refine msegT C kL_19 14 1 (g := (true, (if r = r then 1352 else 704), [.ref 900300, .ref 0, .ref 187, .int i], [], mk b S2)) rfl rfl ?_
  rw [if_pos rfl]
  exact k
end ZL
def tL_20 : List mI := [(706, .aload_n 1, 1, 0, 0), (707, .aload_n 0, 1, 0, 0), (708, .iload_n 3, 1, 0, 0), (709, .iconst 1, 1, 0, 0), (710, .iadd, 1, 0, 0), (711, .iaload, 1, 0, 0), (712, .invokevirtual 98, 3, 0, 0), (715, .aload_n 2, 1, 0, 0), (716, .aload_n 0, 1, 0, 0), (717, .iload_n 3, 1, 0, 0), (718, .iconst 1, 1, 0, 0), (719, .iadd, 1, 0, 0), (720, .iaload, 1, 0, 0), (721, .invokevirtual 101, 3, 0, 0), (724, .if_icmp .eq 628, 3, 0, 0), (727, .iconst 0, 1, 0, 0), (728, .ireturn, 1, 0, 0)]
set_option maxRecDepth 100000 in
theorem kL_20 : mTok cL_law RL 4 false tL_20 := mTok_of (by decide +kernel) ⟨trivial, trivial, trivial, trivial, trivial, trivial, trivial, trivial, trivial, trivial, trivial, trivial, trivial, trivial, trivial, trivial, trivial, trivial⟩
theorem z_noon {l : Launch} {b : Bool} {a1 : Int32} {S S' : mT} {r : Int32} (h : fX11_noon b a1 S = some (r, S')) : mMet l mX11_noon 20 [.ref 0, .int a1] (mk b S) (some (.int r)) (mk b S') := by
  cases b
  · exact qX11_noon_f h
  · exact qX11_noon_t h
section ZL
variable {p : Program} {l : Launch} {e : Env} {s : State} {m : MethodId} {below : List Frame} {meth : Method} {c : Code} {G : mG} {b0 Ln : Nat} {xs : Nat → Int32} {Q : State → Prop}
theorem zc_noon (C : zC p s m meth c G b0) (E : zEn s G b0 Ln xs) {b : Bool} {S S1 S2 : mT} {i r : Int32} {ok : Bool} (hin1 : vp_in (i + (1 : Int32)) Ln) (h1 : fX11_noon b (zX xs (i + (1 : Int32))) S = some (r, S1)) (h2 : fX12_noon (zX xs (i + (1 : Int32))) S1 = some (r, S2)) (k : zW p l e s m below meth c G b0 Q (true, 1352, [.ref 900300, .ref 0, .ref 187, .int i], [], mk b S2)) : zW p l e s m below meth c G b0 Q (ok, 706, [.ref 900300, .ref 0, .ref 187, .int i], [], mk b S) := by
  refine msegT C kL_20 0 5 (g := (true, 711, [.ref 900300, .ref 0, .ref 187, .int i], [.int (i + (1 : Int32)), .ref 900300, .ref 0], mk b S)) rfl rfl ?_
  refine so_scr (ok' := true) C E hin1 (kL_20 _ (List.mem_of_getElem? (i := 5) rfl)).1 ?_
  refine mcall (kd := 0) (vs := [.ref 0, .int (zX xs (i + (1 : Int32)))]) (rest := []) (r := (some (.int r))) (h' := mk b S1) (ok' := true) C lkRL_98 (z_noon h1) (kL_20 _ (List.mem_of_getElem? (i := 6) rfl)).1 ⟨_, _, rfl, rfl, (Nat.le_of_ble_eq_true rfl), _, _, rfl, rfl, rfl⟩ (Nat.le_of_ble_eq_true rfl) (Nat.le_of_ble_eq_true rfl) (Nat.le_refl _) (Nat.le_refl _) (Nat.le_of_ble_eq_true rfl) ?_
  refine msegT C kL_20 7 5 (g := (true, 720, [.ref 900300, .ref 0, .ref 187, .int i], [.int (i + (1 : Int32)), .ref 900300, .ref 187, .int r], mk b S1)) rfl rfl ?_
  refine so_scr (ok' := true) C E hin1 (kL_20 _ (List.mem_of_getElem? (i := 12) rfl)).1 ?_
  refine mcall (kd := 0) (vs := [.ref 187, .int (zX xs (i + (1 : Int32)))]) (rest := [.int r]) (r := (some (.int r))) (h' := mk b S2) (ok' := true) C lkRL_101 (qX12_noon h2) (kL_20 _ (List.mem_of_getElem? (i := 13) rfl)).1 ⟨_, _, rfl, rfl, (Nat.le_of_ble_eq_true rfl), _, _, rfl, rfl, rfl⟩ (Nat.le_of_ble_eq_true rfl) (Nat.le_of_ble_eq_true rfl) (Nat.le_refl _) (Nat.le_refl _) (Nat.le_of_ble_eq_true rfl) ?_
  refine msegT C kL_20 14 1 (g := (true, (if r = r then 1352 else 727), [.ref 900300, .ref 0, .ref 187, .int i], [], mk b S2)) rfl rfl ?_
  rw [if_pos rfl]
  exact k
end ZL
def tL_21 : List mI := [(729, .aload_n 1, 1, 0, 0), (730, .aload_n 0, 1, 0, 0), (731, .iload_n 3, 1, 0, 0), (732, .iconst 1, 1, 0, 0), (733, .iadd, 1, 0, 0), (734, .iaload, 1, 0, 0), (735, .invokevirtual 102, 3, 0, 0), (738, .aload_n 2, 1, 0, 0), (739, .aload_n 0, 1, 0, 0), (740, .iload_n 3, 1, 0, 0), (741, .iconst 1, 1, 0, 0), (742, .iadd, 1, 0, 0), (743, .iaload, 1, 0, 0), (744, .invokevirtual 105, 3, 0, 0), (747, .if_icmp .eq 605, 3, 0, 0), (750, .iconst 0, 1, 0, 0), (751, .ireturn, 1, 0, 0)]
set_option maxRecDepth 100000 in
theorem kL_21 : mTok cL_law RL 4 false tL_21 := mTok_of (by decide +kernel) ⟨trivial, trivial, trivial, trivial, trivial, trivial, trivial, trivial, trivial, trivial, trivial, trivial, trivial, trivial, trivial, trivial, trivial, trivial⟩
theorem z_missed {l : Launch} {b : Bool} {a1 : Int32} {S S' : mT} {r : Int32} (h : fX11_missed b a1 S = some (r, S')) : mMet l mX11_missed 2 [.ref 0, .int a1] (mk b S) (some (.int r)) (mk b S') := by
  cases b
  · exact qX11_missed_f h
  · exact qX11_missed_t h
section ZL
variable {p : Program} {l : Launch} {e : Env} {s : State} {m : MethodId} {below : List Frame} {meth : Method} {c : Code} {G : mG} {b0 Ln : Nat} {xs : Nat → Int32} {Q : State → Prop}
theorem zc_missed (C : zC p s m meth c G b0) (E : zEn s G b0 Ln xs) {b : Bool} {S S1 S2 : mT} {i r : Int32} {ok : Bool} (hin1 : vp_in (i + (1 : Int32)) Ln) (h1 : fX11_missed b (zX xs (i + (1 : Int32))) S = some (r, S1)) (h2 : fX12_missed (zX xs (i + (1 : Int32))) S1 = some (r, S2)) (k : zW p l e s m below meth c G b0 Q (true, 1352, [.ref 900300, .ref 0, .ref 187, .int i], [], mk b S2)) : zW p l e s m below meth c G b0 Q (ok, 729, [.ref 900300, .ref 0, .ref 187, .int i], [], mk b S) := by
  refine msegT C kL_21 0 5 (g := (true, 734, [.ref 900300, .ref 0, .ref 187, .int i], [.int (i + (1 : Int32)), .ref 900300, .ref 0], mk b S)) rfl rfl ?_
  refine so_scr (ok' := true) C E hin1 (kL_21 _ (List.mem_of_getElem? (i := 5) rfl)).1 ?_
  refine mcall (kd := 0) (vs := [.ref 0, .int (zX xs (i + (1 : Int32)))]) (rest := []) (r := (some (.int r))) (h' := mk b S1) (ok' := true) C lkRL_102 (z_missed h1) (kL_21 _ (List.mem_of_getElem? (i := 6) rfl)).1 ⟨_, _, rfl, rfl, (Nat.le_of_ble_eq_true rfl), _, _, rfl, rfl, rfl⟩ (Nat.le_of_ble_eq_true rfl) (Nat.le_of_ble_eq_true rfl) (Nat.le_refl _) (Nat.le_refl _) (Nat.le_of_ble_eq_true rfl) ?_
  refine msegT C kL_21 7 5 (g := (true, 743, [.ref 900300, .ref 0, .ref 187, .int i], [.int (i + (1 : Int32)), .ref 900300, .ref 187, .int r], mk b S1)) rfl rfl ?_
  refine so_scr (ok' := true) C E hin1 (kL_21 _ (List.mem_of_getElem? (i := 12) rfl)).1 ?_
  refine mcall (kd := 0) (vs := [.ref 187, .int (zX xs (i + (1 : Int32)))]) (rest := [.int r]) (r := (some (.int r))) (h' := mk b S2) (ok' := true) C lkRL_105 (qX12_missed h2) (kL_21 _ (List.mem_of_getElem? (i := 13) rfl)).1 ⟨_, _, rfl, rfl, (Nat.le_of_ble_eq_true rfl), _, _, rfl, rfl, rfl⟩ (Nat.le_of_ble_eq_true rfl) (Nat.le_of_ble_eq_true rfl) (Nat.le_refl _) (Nat.le_refl _) (Nat.le_of_ble_eq_true rfl) ?_
  refine msegT C kL_21 14 1 (g := (true, (if r = r then 1352 else 750), [.ref 900300, .ref 0, .ref 187, .int i], [], mk b S2)) rfl rfl ?_
  rw [if_pos rfl]
  exact k
end ZL
def tL_22 : List mI := [(752, .aload_n 1, 1, 0, 0), (753, .aload_n 0, 1, 0, 0), (754, .iload_n 3, 1, 0, 0), (755, .iconst 1, 1, 0, 0), (756, .iadd, 1, 0, 0), (757, .iaload, 1, 0, 0), (758, .invokevirtual 106, 3, 0, 0), (761, .aload_n 2, 1, 0, 0), (762, .aload_n 0, 1, 0, 0), (763, .iload_n 3, 1, 0, 0), (764, .iconst 1, 1, 0, 0), (765, .iadd, 1, 0, 0), (766, .iaload, 1, 0, 0), (767, .invokevirtual 109, 3, 0, 0), (770, .if_icmp .eq 582, 3, 0, 0), (773, .iconst 0, 1, 0, 0), (774, .ireturn, 1, 0, 0)]
set_option maxRecDepth 100000 in
theorem kL_22 : mTok cL_law RL 4 false tL_22 := mTok_of (by decide +kernel) ⟨trivial, trivial, trivial, trivial, trivial, trivial, trivial, trivial, trivial, trivial, trivial, trivial, trivial, trivial, trivial, trivial, trivial, trivial⟩
theorem z_doubled {l : Launch} {b : Bool} {a1 : Int32} {S S' : mT} {r : Int32} (h : fX11_doubled b a1 S = some (r, S')) : mMet l mX11_doubled 2 [.ref 0, .int a1] (mk b S) (some (.int r)) (mk b S') := by
  cases b
  · exact qX11_doubled_f h
  · exact qX11_doubled_t h
section ZL
variable {p : Program} {l : Launch} {e : Env} {s : State} {m : MethodId} {below : List Frame} {meth : Method} {c : Code} {G : mG} {b0 Ln : Nat} {xs : Nat → Int32} {Q : State → Prop}
theorem zc_doubled (C : zC p s m meth c G b0) (E : zEn s G b0 Ln xs) {b : Bool} {S S1 S2 : mT} {i r : Int32} {ok : Bool} (hin1 : vp_in (i + (1 : Int32)) Ln) (h1 : fX11_doubled b (zX xs (i + (1 : Int32))) S = some (r, S1)) (h2 : fX12_doubled (zX xs (i + (1 : Int32))) S1 = some (r, S2)) (k : zW p l e s m below meth c G b0 Q (true, 1352, [.ref 900300, .ref 0, .ref 187, .int i], [], mk b S2)) : zW p l e s m below meth c G b0 Q (ok, 752, [.ref 900300, .ref 0, .ref 187, .int i], [], mk b S) := by
  refine msegT C kL_22 0 5 (g := (true, 757, [.ref 900300, .ref 0, .ref 187, .int i], [.int (i + (1 : Int32)), .ref 900300, .ref 0], mk b S)) rfl rfl ?_
  refine so_scr (ok' := true) C E hin1 (kL_22 _ (List.mem_of_getElem? (i := 5) rfl)).1 ?_
  refine mcall (kd := 0) (vs := [.ref 0, .int (zX xs (i + (1 : Int32)))]) (rest := []) (r := (some (.int r))) (h' := mk b S1) (ok' := true) C lkRL_106 (z_doubled h1) (kL_22 _ (List.mem_of_getElem? (i := 6) rfl)).1 ⟨_, _, rfl, rfl, (Nat.le_of_ble_eq_true rfl), _, _, rfl, rfl, rfl⟩ (Nat.le_of_ble_eq_true rfl) (Nat.le_of_ble_eq_true rfl) (Nat.le_refl _) (Nat.le_refl _) (Nat.le_of_ble_eq_true rfl) ?_
  refine msegT C kL_22 7 5 (g := (true, 766, [.ref 900300, .ref 0, .ref 187, .int i], [.int (i + (1 : Int32)), .ref 900300, .ref 187, .int r], mk b S1)) rfl rfl ?_
  refine so_scr (ok' := true) C E hin1 (kL_22 _ (List.mem_of_getElem? (i := 12) rfl)).1 ?_
  refine mcall (kd := 0) (vs := [.ref 187, .int (zX xs (i + (1 : Int32)))]) (rest := [.int r]) (r := (some (.int r))) (h' := mk b S2) (ok' := true) C lkRL_109 (qX12_doubled h2) (kL_22 _ (List.mem_of_getElem? (i := 13) rfl)).1 ⟨_, _, rfl, rfl, (Nat.le_of_ble_eq_true rfl), _, _, rfl, rfl, rfl⟩ (Nat.le_of_ble_eq_true rfl) (Nat.le_of_ble_eq_true rfl) (Nat.le_refl _) (Nat.le_refl _) (Nat.le_of_ble_eq_true rfl) ?_
  refine msegT C kL_22 14 1 (g := (true, (if r = r then 1352 else 773), [.ref 900300, .ref 0, .ref 187, .int i], [], mk b S2)) rfl rfl ?_
  rw [if_pos rfl]
  exact k
end ZL
def tL_23 : List mI := [(775, .aload_n 1, 1, 0, 0), (776, .aload_n 0, 1, 0, 0), (777, .iload_n 3, 1, 0, 0), (778, .iconst 1, 1, 0, 0), (779, .iadd, 1, 0, 0), (780, .iaload, 1, 0, 0), (781, .aload_n 0, 1, 0, 0), (782, .iload_n 3, 1, 0, 0), (783, .iconst 2, 1, 0, 0), (784, .iadd, 1, 0, 0), (785, .iaload, 1, 0, 0), (786, .aload_n 0, 1, 0, 0), (787, .iload_n 3, 1, 0, 0), (788, .iconst 3, 1, 0, 0), (789, .iadd, 1, 0, 0), (790, .iaload, 1, 0, 0), (791, .invokevirtual 110, 3, 0, 0), (794, .aload_n 2, 1, 0, 0), (795, .aload_n 0, 1, 0, 0), (796, .iload_n 3, 1, 0, 0), (797, .iconst 1, 1, 0, 0), (798, .iadd, 1, 0, 0), (799, .iaload, 1, 0, 0), (800, .aload_n 0, 1, 0, 0), (801, .iload_n 3, 1, 0, 0), (802, .iconst 2, 1, 0, 0), (803, .iadd, 1, 0, 0), (804, .iaload, 1, 0, 0), (805, .aload_n 0, 1, 0, 0), (806, .iload_n 3, 1, 0, 0), (807, .iconst 3, 1, 0, 0), (808, .iadd, 1, 0, 0), (809, .iaload, 1, 0, 0), (810, .invokevirtual 114, 3, 0, 0), (813, .if_icmp .eq 539, 3, 0, 0), (816, .iconst 0, 1, 0, 0), (817, .ireturn, 1, 0, 0)]
set_option maxRecDepth 100000 in
theorem kL_23 : mTok cL_law RL 4 false tL_23 := mTok_of (by decide +kernel) ⟨trivial, trivial, trivial, trivial, trivial, trivial, trivial, trivial, trivial, trivial, trivial, trivial, trivial, trivial, trivial, trivial, trivial, trivial, trivial, trivial, trivial, trivial, trivial, trivial, trivial, trivial, trivial, trivial, trivial, trivial, trivial, trivial, trivial, trivial, trivial, trivial, trivial, trivial⟩
theorem z_seats {l : Launch} {b : Bool} {a1 a2 a3 : Int32} {S S' : mT} {r : Int32} (h : fX11_seats b a1 a2 a3 S = some (r, S')) : mMet l mX11_seats 4 [.ref 0, .int a1, .int a2, .int a3] (mk b S) (some (.int r)) (mk b S') := by
  cases b
  · exact qX11_seats_f h
  · exact qX11_seats_t h
section ZL
variable {p : Program} {l : Launch} {e : Env} {s : State} {m : MethodId} {below : List Frame} {meth : Method} {c : Code} {G : mG} {b0 Ln : Nat} {xs : Nat → Int32} {Q : State → Prop}
theorem zc_seats (C : zC p s m meth c G b0) (E : zEn s G b0 Ln xs) {b : Bool} {S S1 S2 : mT} {i r : Int32} {ok : Bool} (hin1 : vp_in (i + (1 : Int32)) Ln) (hin2 : vp_in (i + (2 : Int32)) Ln) (hin3 : vp_in (i + (3 : Int32)) Ln) (h1 : fX11_seats b (zX xs (i + (1 : Int32))) (zX xs (i + (2 : Int32))) (zX xs (i + (3 : Int32))) S = some (r, S1)) (h2 : fX12_seats (zX xs (i + (1 : Int32))) (zX xs (i + (2 : Int32))) (zX xs (i + (3 : Int32))) S1 = some (r, S2)) (k : zW p l e s m below meth c G b0 Q (true, 1352, [.ref 900300, .ref 0, .ref 187, .int i], [], mk b S2)) : zW p l e s m below meth c G b0 Q (ok, 775, [.ref 900300, .ref 0, .ref 187, .int i], [], mk b S) := by
  refine msegT C kL_23 0 5 (g := (true, 780, [.ref 900300, .ref 0, .ref 187, .int i], [.int (i + (1 : Int32)), .ref 900300, .ref 0], mk b S)) rfl rfl ?_
  refine so_scr (ok' := true) C E hin1 (kL_23 _ (List.mem_of_getElem? (i := 5) rfl)).1 ?_
  refine msegT C kL_23 6 4 (g := (true, 785, [.ref 900300, .ref 0, .ref 187, .int i], [.int (i + (2 : Int32)), .ref 900300, .int (zX xs (i + (1 : Int32))), .ref 0], mk b S)) rfl rfl ?_
  refine so_scr (ok' := true) C E hin2 (kL_23 _ (List.mem_of_getElem? (i := 10) rfl)).1 ?_
  refine msegT C kL_23 11 4 (g := (true, 790, [.ref 900300, .ref 0, .ref 187, .int i], [.int (i + (3 : Int32)), .ref 900300, .int (zX xs (i + (2 : Int32))), .int (zX xs (i + (1 : Int32))), .ref 0], mk b S)) rfl rfl ?_
  refine so_scr (ok' := true) C E hin3 (kL_23 _ (List.mem_of_getElem? (i := 15) rfl)).1 ?_
  refine mcall (kd := 0) (vs := [.ref 0, .int (zX xs (i + (1 : Int32))), .int (zX xs (i + (2 : Int32))), .int (zX xs (i + (3 : Int32)))]) (rest := []) (r := (some (.int r))) (h' := mk b S1) (ok' := true) C lkRL_110 (z_seats h1) (kL_23 _ (List.mem_of_getElem? (i := 16) rfl)).1 ⟨_, _, rfl, rfl, (Nat.le_of_ble_eq_true rfl), _, _, rfl, rfl, rfl⟩ (Nat.le_of_ble_eq_true rfl) (Nat.le_of_ble_eq_true rfl) (Nat.le_refl _) (Nat.le_refl _) (Nat.le_of_ble_eq_true rfl) ?_
  refine msegT C kL_23 17 5 (g := (true, 799, [.ref 900300, .ref 0, .ref 187, .int i], [.int (i + (1 : Int32)), .ref 900300, .ref 187, .int r], mk b S1)) rfl rfl ?_
  refine so_scr (ok' := true) C E hin1 (kL_23 _ (List.mem_of_getElem? (i := 22) rfl)).1 ?_
  refine msegT C kL_23 23 4 (g := (true, 804, [.ref 900300, .ref 0, .ref 187, .int i], [.int (i + (2 : Int32)), .ref 900300, .int (zX xs (i + (1 : Int32))), .ref 187, .int r], mk b S1)) rfl rfl ?_
  refine so_scr (ok' := true) C E hin2 (kL_23 _ (List.mem_of_getElem? (i := 27) rfl)).1 ?_
  refine msegT C kL_23 28 4 (g := (true, 809, [.ref 900300, .ref 0, .ref 187, .int i], [.int (i + (3 : Int32)), .ref 900300, .int (zX xs (i + (2 : Int32))), .int (zX xs (i + (1 : Int32))), .ref 187, .int r], mk b S1)) rfl rfl ?_
  refine so_scr (ok' := true) C E hin3 (kL_23 _ (List.mem_of_getElem? (i := 32) rfl)).1 ?_
  refine mcall (kd := 0) (vs := [.ref 187, .int (zX xs (i + (1 : Int32))), .int (zX xs (i + (2 : Int32))), .int (zX xs (i + (3 : Int32)))]) (rest := [.int r]) (r := (some (.int r))) (h' := mk b S2) (ok' := true) C lkRL_114 (qX12_seats h2) (kL_23 _ (List.mem_of_getElem? (i := 33) rfl)).1 ⟨_, _, rfl, rfl, (Nat.le_of_ble_eq_true rfl), _, _, rfl, rfl, rfl⟩ (Nat.le_of_ble_eq_true rfl) (Nat.le_of_ble_eq_true rfl) (Nat.le_refl _) (Nat.le_refl _) (Nat.le_of_ble_eq_true rfl) ?_
  refine msegT C kL_23 34 1 (g := (true, (if r = r then 1352 else 816), [.ref 900300, .ref 0, .ref 187, .int i], [], mk b S2)) rfl rfl ?_
  rw [if_pos rfl]
  exact k
end ZL
def tL_24 : List mI := [(818, .aload_n 1, 1, 0, 0), (819, .aload_n 0, 1, 0, 0), (820, .iload_n 3, 1, 0, 0), (821, .iconst 1, 1, 0, 0), (822, .iadd, 1, 0, 0), (823, .iaload, 1, 0, 0), (824, .aload_n 0, 1, 0, 0), (825, .iload_n 3, 1, 0, 0), (826, .iconst 2, 1, 0, 0), (827, .iadd, 1, 0, 0), (828, .iaload, 1, 0, 0), (829, .invokevirtual 115, 3, 0, 0), (832, .aload_n 2, 1, 0, 0), (833, .aload_n 0, 1, 0, 0), (834, .iload_n 3, 1, 0, 0), (835, .iconst 1, 1, 0, 0), (836, .iadd, 1, 0, 0), (837, .iaload, 1, 0, 0), (838, .aload_n 0, 1, 0, 0), (839, .iload_n 3, 1, 0, 0), (840, .iconst 2, 1, 0, 0), (841, .iadd, 1, 0, 0), (842, .iaload, 1, 0, 0), (843, .invokevirtual 118, 3, 0, 0), (846, .if_icmp .eq 506, 3, 0, 0), (849, .iconst 0, 1, 0, 0), (850, .ireturn, 1, 0, 0)]
set_option maxRecDepth 100000 in
theorem kL_24 : mTok cL_law RL 4 false tL_24 := mTok_of (by decide +kernel) ⟨trivial, trivial, trivial, trivial, trivial, trivial, trivial, trivial, trivial, trivial, trivial, trivial, trivial, trivial, trivial, trivial, trivial, trivial, trivial, trivial, trivial, trivial, trivial, trivial, trivial, trivial, trivial, trivial⟩
theorem z_stone {l : Launch} {b : Bool} {a1 a2 : Int32} {S S' : mT} {r : Int32} (h : fX11_stone b a1 a2 S = some (r, S')) : mMet l mX11_stone 5 [.ref 0, .int a1, .int a2] (mk b S) (some (.int r)) (mk b S') := by
  cases b
  · exact qX11_stone_f h
  · exact qX11_stone_t h
section ZL
variable {p : Program} {l : Launch} {e : Env} {s : State} {m : MethodId} {below : List Frame} {meth : Method} {c : Code} {G : mG} {b0 Ln : Nat} {xs : Nat → Int32} {Q : State → Prop}
theorem zc_stone (C : zC p s m meth c G b0) (E : zEn s G b0 Ln xs) {b : Bool} {S S1 S2 : mT} {i r : Int32} {ok : Bool} (hin1 : vp_in (i + (1 : Int32)) Ln) (hin2 : vp_in (i + (2 : Int32)) Ln) (h1 : fX11_stone b (zX xs (i + (1 : Int32))) (zX xs (i + (2 : Int32))) S = some (r, S1)) (h2 : fX12_stone (zX xs (i + (1 : Int32))) (zX xs (i + (2 : Int32))) S1 = some (r, S2)) (k : zW p l e s m below meth c G b0 Q (true, 1352, [.ref 900300, .ref 0, .ref 187, .int i], [], mk b S2)) : zW p l e s m below meth c G b0 Q (ok, 818, [.ref 900300, .ref 0, .ref 187, .int i], [], mk b S) := by
  refine msegT C kL_24 0 5 (g := (true, 823, [.ref 900300, .ref 0, .ref 187, .int i], [.int (i + (1 : Int32)), .ref 900300, .ref 0], mk b S)) rfl rfl ?_
  refine so_scr (ok' := true) C E hin1 (kL_24 _ (List.mem_of_getElem? (i := 5) rfl)).1 ?_
  refine msegT C kL_24 6 4 (g := (true, 828, [.ref 900300, .ref 0, .ref 187, .int i], [.int (i + (2 : Int32)), .ref 900300, .int (zX xs (i + (1 : Int32))), .ref 0], mk b S)) rfl rfl ?_
  refine so_scr (ok' := true) C E hin2 (kL_24 _ (List.mem_of_getElem? (i := 10) rfl)).1 ?_
  refine mcall (kd := 0) (vs := [.ref 0, .int (zX xs (i + (1 : Int32))), .int (zX xs (i + (2 : Int32)))]) (rest := []) (r := (some (.int r))) (h' := mk b S1) (ok' := true) C lkRL_115 (z_stone h1) (kL_24 _ (List.mem_of_getElem? (i := 11) rfl)).1 ⟨_, _, rfl, rfl, (Nat.le_of_ble_eq_true rfl), _, _, rfl, rfl, rfl⟩ (Nat.le_of_ble_eq_true rfl) (Nat.le_of_ble_eq_true rfl) (Nat.le_refl _) (Nat.le_refl _) (Nat.le_of_ble_eq_true rfl) ?_
  refine msegT C kL_24 12 5 (g := (true, 837, [.ref 900300, .ref 0, .ref 187, .int i], [.int (i + (1 : Int32)), .ref 900300, .ref 187, .int r], mk b S1)) rfl rfl ?_
  refine so_scr (ok' := true) C E hin1 (kL_24 _ (List.mem_of_getElem? (i := 17) rfl)).1 ?_
  refine msegT C kL_24 18 4 (g := (true, 842, [.ref 900300, .ref 0, .ref 187, .int i], [.int (i + (2 : Int32)), .ref 900300, .int (zX xs (i + (1 : Int32))), .ref 187, .int r], mk b S1)) rfl rfl ?_
  refine so_scr (ok' := true) C E hin2 (kL_24 _ (List.mem_of_getElem? (i := 22) rfl)).1 ?_
  refine mcall (kd := 0) (vs := [.ref 187, .int (zX xs (i + (1 : Int32))), .int (zX xs (i + (2 : Int32)))]) (rest := [.int r]) (r := (some (.int r))) (h' := mk b S2) (ok' := true) C lkRL_118 (qX12_stone h2) (kL_24 _ (List.mem_of_getElem? (i := 23) rfl)).1 ⟨_, _, rfl, rfl, (Nat.le_of_ble_eq_true rfl), _, _, rfl, rfl, rfl⟩ (Nat.le_of_ble_eq_true rfl) (Nat.le_of_ble_eq_true rfl) (Nat.le_refl _) (Nat.le_refl _) (Nat.le_of_ble_eq_true rfl) ?_
  refine msegT C kL_24 24 1 (g := (true, (if r = r then 1352 else 849), [.ref 900300, .ref 0, .ref 187, .int i], [], mk b S2)) rfl rfl ?_
  rw [if_pos rfl]
  exact k
end ZL
def tL_25 : List mI := [(851, .aload_n 1, 1, 0, 0), (852, .aload_n 0, 1, 0, 0), (853, .iload_n 3, 1, 0, 0), (854, .iconst 1, 1, 0, 0), (855, .iadd, 1, 0, 0), (856, .iaload, 1, 0, 0), (857, .invokevirtual 119, 3, 0, 0), (860, .aload_n 2, 1, 0, 0), (861, .aload_n 0, 1, 0, 0), (862, .iload_n 3, 1, 0, 0), (863, .iconst 1, 1, 0, 0), (864, .iadd, 1, 0, 0), (865, .iaload, 1, 0, 0), (866, .invokevirtual 122, 3, 0, 0), (869, .if_icmp .eq 483, 3, 0, 0), (872, .iconst 0, 1, 0, 0), (873, .ireturn, 1, 0, 0)]
set_option maxRecDepth 100000 in
theorem kL_25 : mTok cL_law RL 4 false tL_25 := mTok_of (by decide +kernel) ⟨trivial, trivial, trivial, trivial, trivial, trivial, trivial, trivial, trivial, trivial, trivial, trivial, trivial, trivial, trivial, trivial, trivial, trivial⟩
theorem z_loss {l : Launch} {b : Bool} {a1 : Int32} {S S' : mT} {r : Int32} (h : fX11_loss b a1 S = some (r, S')) : mMet l mX11_loss 5 [.ref 0, .int a1] (mk b S) (some (.int r)) (mk b S') := by
  cases b
  · exact qX11_loss_f h
  · exact qX11_loss_t h
section ZL
variable {p : Program} {l : Launch} {e : Env} {s : State} {m : MethodId} {below : List Frame} {meth : Method} {c : Code} {G : mG} {b0 Ln : Nat} {xs : Nat → Int32} {Q : State → Prop}
theorem zc_loss (C : zC p s m meth c G b0) (E : zEn s G b0 Ln xs) {b : Bool} {S S1 S2 : mT} {i r : Int32} {ok : Bool} (hin1 : vp_in (i + (1 : Int32)) Ln) (h1 : fX11_loss b (zX xs (i + (1 : Int32))) S = some (r, S1)) (h2 : fX12_loss (zX xs (i + (1 : Int32))) S1 = some (r, S2)) (k : zW p l e s m below meth c G b0 Q (true, 1352, [.ref 900300, .ref 0, .ref 187, .int i], [], mk b S2)) : zW p l e s m below meth c G b0 Q (ok, 851, [.ref 900300, .ref 0, .ref 187, .int i], [], mk b S) := by
  refine msegT C kL_25 0 5 (g := (true, 856, [.ref 900300, .ref 0, .ref 187, .int i], [.int (i + (1 : Int32)), .ref 900300, .ref 0], mk b S)) rfl rfl ?_
  refine so_scr (ok' := true) C E hin1 (kL_25 _ (List.mem_of_getElem? (i := 5) rfl)).1 ?_
  refine mcall (kd := 0) (vs := [.ref 0, .int (zX xs (i + (1 : Int32)))]) (rest := []) (r := (some (.int r))) (h' := mk b S1) (ok' := true) C lkRL_119 (z_loss h1) (kL_25 _ (List.mem_of_getElem? (i := 6) rfl)).1 ⟨_, _, rfl, rfl, (Nat.le_of_ble_eq_true rfl), _, _, rfl, rfl, rfl⟩ (Nat.le_of_ble_eq_true rfl) (Nat.le_of_ble_eq_true rfl) (Nat.le_refl _) (Nat.le_refl _) (Nat.le_of_ble_eq_true rfl) ?_
  refine msegT C kL_25 7 5 (g := (true, 865, [.ref 900300, .ref 0, .ref 187, .int i], [.int (i + (1 : Int32)), .ref 900300, .ref 187, .int r], mk b S1)) rfl rfl ?_
  refine so_scr (ok' := true) C E hin1 (kL_25 _ (List.mem_of_getElem? (i := 12) rfl)).1 ?_
  refine mcall (kd := 0) (vs := [.ref 187, .int (zX xs (i + (1 : Int32)))]) (rest := [.int r]) (r := (some (.int r))) (h' := mk b S2) (ok' := true) C lkRL_122 (qX12_loss h2) (kL_25 _ (List.mem_of_getElem? (i := 13) rfl)).1 ⟨_, _, rfl, rfl, (Nat.le_of_ble_eq_true rfl), _, _, rfl, rfl, rfl⟩ (Nat.le_of_ble_eq_true rfl) (Nat.le_of_ble_eq_true rfl) (Nat.le_refl _) (Nat.le_refl _) (Nat.le_of_ble_eq_true rfl) ?_
  refine msegT C kL_25 14 1 (g := (true, (if r = r then 1352 else 872), [.ref 900300, .ref 0, .ref 187, .int i], [], mk b S2)) rfl rfl ?_
  rw [if_pos rfl]
  exact k
end ZL
def tL_26 : List mI := [(874, .aload_n 1, 1, 0, 0), (875, .aload_n 0, 1, 0, 0), (876, .iload_n 3, 1, 0, 0), (877, .iconst 1, 1, 0, 0), (878, .iadd, 1, 0, 0), (879, .iaload, 1, 0, 0), (880, .aload_n 0, 1, 0, 0), (881, .iload_n 3, 1, 0, 0), (882, .iconst 2, 1, 0, 0), (883, .iadd, 1, 0, 0), (884, .iaload, 1, 0, 0), (885, .invokevirtual 123, 3, 0, 0), (888, .aload_n 2, 1, 0, 0), (889, .aload_n 0, 1, 0, 0), (890, .iload_n 3, 1, 0, 0), (891, .iconst 1, 1, 0, 0), (892, .iadd, 1, 0, 0), (893, .iaload, 1, 0, 0), (894, .aload_n 0, 1, 0, 0), (895, .iload_n 3, 1, 0, 0), (896, .iconst 2, 1, 0, 0), (897, .iadd, 1, 0, 0), (898, .iaload, 1, 0, 0), (899, .invokevirtual 126, 3, 0, 0), (902, .if_icmp .eq 450, 3, 0, 0), (905, .iconst 0, 1, 0, 0), (906, .ireturn, 1, 0, 0)]
set_option maxRecDepth 100000 in
theorem kL_26 : mTok cL_law RL 4 false tL_26 := mTok_of (by decide +kernel) ⟨trivial, trivial, trivial, trivial, trivial, trivial, trivial, trivial, trivial, trivial, trivial, trivial, trivial, trivial, trivial, trivial, trivial, trivial, trivial, trivial, trivial, trivial, trivial, trivial, trivial, trivial, trivial, trivial⟩
theorem z_draft {l : Launch} {b : Bool} {a1 a2 : Int32} {S S' : mT} {r : Int32} (h : fX11_draft b a1 a2 S = some (r, S')) : mMet l mX11_draft 8 [.ref 0, .int a1, .int a2] (mk b S) (some (.int r)) (mk b S') := by
  cases b
  · exact qX11_draft_f h
  · exact qX11_draft_t h
section ZL
variable {p : Program} {l : Launch} {e : Env} {s : State} {m : MethodId} {below : List Frame} {meth : Method} {c : Code} {G : mG} {b0 Ln : Nat} {xs : Nat → Int32} {Q : State → Prop}
theorem zc_draft (C : zC p s m meth c G b0) (E : zEn s G b0 Ln xs) {b : Bool} {S S1 S2 : mT} {i r : Int32} {ok : Bool} (hin1 : vp_in (i + (1 : Int32)) Ln) (hin2 : vp_in (i + (2 : Int32)) Ln) (h1 : fX11_draft b (zX xs (i + (1 : Int32))) (zX xs (i + (2 : Int32))) S = some (r, S1)) (h2 : fX12_draft (zX xs (i + (1 : Int32))) (zX xs (i + (2 : Int32))) S1 = some (r, S2)) (k : zW p l e s m below meth c G b0 Q (true, 1352, [.ref 900300, .ref 0, .ref 187, .int i], [], mk b S2)) : zW p l e s m below meth c G b0 Q (ok, 874, [.ref 900300, .ref 0, .ref 187, .int i], [], mk b S) := by
  refine msegT C kL_26 0 5 (g := (true, 879, [.ref 900300, .ref 0, .ref 187, .int i], [.int (i + (1 : Int32)), .ref 900300, .ref 0], mk b S)) rfl rfl ?_
  refine so_scr (ok' := true) C E hin1 (kL_26 _ (List.mem_of_getElem? (i := 5) rfl)).1 ?_
  refine msegT C kL_26 6 4 (g := (true, 884, [.ref 900300, .ref 0, .ref 187, .int i], [.int (i + (2 : Int32)), .ref 900300, .int (zX xs (i + (1 : Int32))), .ref 0], mk b S)) rfl rfl ?_
  refine so_scr (ok' := true) C E hin2 (kL_26 _ (List.mem_of_getElem? (i := 10) rfl)).1 ?_
  refine mcall (kd := 0) (vs := [.ref 0, .int (zX xs (i + (1 : Int32))), .int (zX xs (i + (2 : Int32)))]) (rest := []) (r := (some (.int r))) (h' := mk b S1) (ok' := true) C lkRL_123 (z_draft h1) (kL_26 _ (List.mem_of_getElem? (i := 11) rfl)).1 ⟨_, _, rfl, rfl, (Nat.le_of_ble_eq_true rfl), _, _, rfl, rfl, rfl⟩ (Nat.le_of_ble_eq_true rfl) (Nat.le_of_ble_eq_true rfl) (Nat.le_refl _) (Nat.le_refl _) (Nat.le_of_ble_eq_true rfl) ?_
  refine msegT C kL_26 12 5 (g := (true, 893, [.ref 900300, .ref 0, .ref 187, .int i], [.int (i + (1 : Int32)), .ref 900300, .ref 187, .int r], mk b S1)) rfl rfl ?_
  refine so_scr (ok' := true) C E hin1 (kL_26 _ (List.mem_of_getElem? (i := 17) rfl)).1 ?_
  refine msegT C kL_26 18 4 (g := (true, 898, [.ref 900300, .ref 0, .ref 187, .int i], [.int (i + (2 : Int32)), .ref 900300, .int (zX xs (i + (1 : Int32))), .ref 187, .int r], mk b S1)) rfl rfl ?_
  refine so_scr (ok' := true) C E hin2 (kL_26 _ (List.mem_of_getElem? (i := 22) rfl)).1 ?_
  refine mcall (kd := 0) (vs := [.ref 187, .int (zX xs (i + (1 : Int32))), .int (zX xs (i + (2 : Int32)))]) (rest := [.int r]) (r := (some (.int r))) (h' := mk b S2) (ok' := true) C lkRL_126 (qX12_draft h2) (kL_26 _ (List.mem_of_getElem? (i := 23) rfl)).1 ⟨_, _, rfl, rfl, (Nat.le_of_ble_eq_true rfl), _, _, rfl, rfl, rfl⟩ (Nat.le_of_ble_eq_true rfl) (Nat.le_of_ble_eq_true rfl) (Nat.le_refl _) (Nat.le_refl _) (Nat.le_of_ble_eq_true rfl) ?_
  refine msegT C kL_26 24 1 (g := (true, (if r = r then 1352 else 905), [.ref 900300, .ref 0, .ref 187, .int i], [], mk b S2)) rfl rfl ?_
  rw [if_pos rfl]
  exact k
end ZL
def tL_27 : List mI := [(907, .aload_n 1, 1, 0, 0), (908, .invokevirtual 127, 3, 0, 0), (911, .aload_n 2, 1, 0, 0), (912, .invokevirtual 130, 3, 0, 0), (915, .if_icmp .eq 437, 3, 0, 0), (918, .iconst 0, 1, 0, 0), (919, .ireturn, 1, 0, 0)]
set_option maxRecDepth 100000 in
theorem kL_27 : mTok cL_law RL 4 false tL_27 := mTok_of (by decide +kernel) ⟨trivial, trivial, trivial, trivial, trivial, trivial, trivial, trivial⟩
theorem z_chase {l : Launch} {b : Bool} {S S' : mT} {r : Int32} (h : fX11_chase b S = some (r, S')) : mMet l mX11_chase 5 [.ref 0] (mk b S) (some (.int r)) (mk b S') := by
  cases b
  · exact qX11_chase_f h
  · exact qX11_chase_t h
section ZL
variable {p : Program} {l : Launch} {e : Env} {s : State} {m : MethodId} {below : List Frame} {meth : Method} {c : Code} {G : mG} {b0 Ln : Nat} {xs : Nat → Int32} {Q : State → Prop}
theorem zc_chase (C : zC p s m meth c G b0) (E : zEn s G b0 Ln xs) {b : Bool} {S S1 S2 : mT} {i r : Int32} {ok : Bool} (h1 : fX11_chase b S = some (r, S1)) (h2 : fX12_chase S1 = some (r, S2)) (k : zW p l e s m below meth c G b0 Q (true, 1352, [.ref 900300, .ref 0, .ref 187, .int i], [], mk b S2)) : zW p l e s m below meth c G b0 Q (ok, 907, [.ref 900300, .ref 0, .ref 187, .int i], [], mk b S) := by
  refine msegT C kL_27 0 1 (g := (true, 908, [.ref 900300, .ref 0, .ref 187, .int i], [.ref 0], mk b S)) rfl rfl ?_
  refine mcall (kd := 0) (vs := [.ref 0]) (rest := []) (r := (some (.int r))) (h' := mk b S1) (ok' := true) C lkRL_127 (z_chase h1) (kL_27 _ (List.mem_of_getElem? (i := 1) rfl)).1 ⟨_, _, rfl, rfl, (Nat.le_of_ble_eq_true rfl), _, _, rfl, rfl, rfl⟩ (Nat.le_of_ble_eq_true rfl) (Nat.le_of_ble_eq_true rfl) (Nat.le_refl _) (Nat.le_refl _) (Nat.le_of_ble_eq_true rfl) ?_
  refine msegT C kL_27 2 1 (g := (true, 912, [.ref 900300, .ref 0, .ref 187, .int i], [.ref 187, .int r], mk b S1)) rfl rfl ?_
  refine mcall (kd := 0) (vs := [.ref 187]) (rest := [.int r]) (r := (some (.int r))) (h' := mk b S2) (ok' := true) C lkRL_130 (qX12_chase h2) (kL_27 _ (List.mem_of_getElem? (i := 3) rfl)).1 ⟨_, _, rfl, rfl, (Nat.le_of_ble_eq_true rfl), _, _, rfl, rfl, rfl⟩ (Nat.le_of_ble_eq_true rfl) (Nat.le_of_ble_eq_true rfl) (Nat.le_refl _) (Nat.le_refl _) (Nat.le_of_ble_eq_true rfl) ?_
  refine msegT C kL_27 4 1 (g := (true, (if r = r then 1352 else 918), [.ref 900300, .ref 0, .ref 187, .int i], [], mk b S2)) rfl rfl ?_
  rw [if_pos rfl]
  exact k
end ZL
def tL_28 : List mI := [(920, .aload_n 1, 1, 0, 0), (921, .aload_n 0, 1, 0, 0), (922, .iload_n 3, 1, 0, 0), (923, .iconst 1, 1, 0, 0), (924, .iadd, 1, 0, 0), (925, .iaload, 1, 0, 0), (926, .aload_n 0, 1, 0, 0), (927, .iload_n 3, 1, 0, 0), (928, .iconst 2, 1, 0, 0), (929, .iadd, 1, 0, 0), (930, .iaload, 1, 0, 0), (931, .aload_n 0, 1, 0, 0), (932, .iload_n 3, 1, 0, 0), (933, .iconst 3, 1, 0, 0), (934, .iadd, 1, 0, 0), (935, .iaload, 1, 0, 0), (936, .invokevirtual 131, 3, 0, 0), (939, .aload_n 2, 1, 0, 0), (940, .aload_n 0, 1, 0, 0), (941, .iload_n 3, 1, 0, 0), (942, .iconst 1, 1, 0, 0), (943, .iadd, 1, 0, 0), (944, .iaload, 1, 0, 0), (945, .aload_n 0, 1, 0, 0), (946, .iload_n 3, 1, 0, 0), (947, .iconst 2, 1, 0, 0), (948, .iadd, 1, 0, 0), (949, .iaload, 1, 0, 0), (950, .aload_n 0, 1, 0, 0), (951, .iload_n 3, 1, 0, 0), (952, .iconst 3, 1, 0, 0), (953, .iadd, 1, 0, 0), (954, .iaload, 1, 0, 0), (955, .invokevirtual 134, 3, 0, 0), (958, .if_icmp .eq 394, 3, 0, 0), (961, .iconst 0, 1, 0, 0), (962, .ireturn, 1, 0, 0)]
set_option maxRecDepth 100000 in
theorem kL_28 : mTok cL_law RL 4 false tL_28 := mTok_of (by decide +kernel) ⟨trivial, trivial, trivial, trivial, trivial, trivial, trivial, trivial, trivial, trivial, trivial, trivial, trivial, trivial, trivial, trivial, trivial, trivial, trivial, trivial, trivial, trivial, trivial, trivial, trivial, trivial, trivial, trivial, trivial, trivial, trivial, trivial, trivial, trivial, trivial, trivial, trivial, trivial⟩
theorem z_marks {l : Launch} {b : Bool} {a1 a2 a3 : Int32} {S S' : mT} {r : Int32} (h : fX11_marks a1 a2 a3 S = some (r, S')) : mMet l mX11_marks 2 [.ref 0, .int a1, .int a2, .int a3] (mk b S) (some (.int r)) (mk b S') := qX11_marks h
section ZL
variable {p : Program} {l : Launch} {e : Env} {s : State} {m : MethodId} {below : List Frame} {meth : Method} {c : Code} {G : mG} {b0 Ln : Nat} {xs : Nat → Int32} {Q : State → Prop}
theorem zc_marks (C : zC p s m meth c G b0) (E : zEn s G b0 Ln xs) {b : Bool} {S S1 S2 : mT} {i r : Int32} {ok : Bool} (hin1 : vp_in (i + (1 : Int32)) Ln) (hin2 : vp_in (i + (2 : Int32)) Ln) (hin3 : vp_in (i + (3 : Int32)) Ln) (h1 : fX11_marks (zX xs (i + (1 : Int32))) (zX xs (i + (2 : Int32))) (zX xs (i + (3 : Int32))) S = some (r, S1)) (h2 : fX12_marks (zX xs (i + (1 : Int32))) (zX xs (i + (2 : Int32))) (zX xs (i + (3 : Int32))) S1 = some (r, S2)) (k : zW p l e s m below meth c G b0 Q (true, 1352, [.ref 900300, .ref 0, .ref 187, .int i], [], mk b S2)) : zW p l e s m below meth c G b0 Q (ok, 920, [.ref 900300, .ref 0, .ref 187, .int i], [], mk b S) := by
  refine msegT C kL_28 0 5 (g := (true, 925, [.ref 900300, .ref 0, .ref 187, .int i], [.int (i + (1 : Int32)), .ref 900300, .ref 0], mk b S)) rfl rfl ?_
  refine so_scr (ok' := true) C E hin1 (kL_28 _ (List.mem_of_getElem? (i := 5) rfl)).1 ?_
  refine msegT C kL_28 6 4 (g := (true, 930, [.ref 900300, .ref 0, .ref 187, .int i], [.int (i + (2 : Int32)), .ref 900300, .int (zX xs (i + (1 : Int32))), .ref 0], mk b S)) rfl rfl ?_
  refine so_scr (ok' := true) C E hin2 (kL_28 _ (List.mem_of_getElem? (i := 10) rfl)).1 ?_
  refine msegT C kL_28 11 4 (g := (true, 935, [.ref 900300, .ref 0, .ref 187, .int i], [.int (i + (3 : Int32)), .ref 900300, .int (zX xs (i + (2 : Int32))), .int (zX xs (i + (1 : Int32))), .ref 0], mk b S)) rfl rfl ?_
  refine so_scr (ok' := true) C E hin3 (kL_28 _ (List.mem_of_getElem? (i := 15) rfl)).1 ?_
  refine mcall (kd := 0) (vs := [.ref 0, .int (zX xs (i + (1 : Int32))), .int (zX xs (i + (2 : Int32))), .int (zX xs (i + (3 : Int32)))]) (rest := []) (r := (some (.int r))) (h' := mk b S1) (ok' := true) C lkRL_131 (z_marks h1) (kL_28 _ (List.mem_of_getElem? (i := 16) rfl)).1 ⟨_, _, rfl, rfl, (Nat.le_of_ble_eq_true rfl), _, _, rfl, rfl, rfl⟩ (Nat.le_of_ble_eq_true rfl) (Nat.le_of_ble_eq_true rfl) (Nat.le_refl _) (Nat.le_refl _) (Nat.le_of_ble_eq_true rfl) ?_
  refine msegT C kL_28 17 5 (g := (true, 944, [.ref 900300, .ref 0, .ref 187, .int i], [.int (i + (1 : Int32)), .ref 900300, .ref 187, .int r], mk b S1)) rfl rfl ?_
  refine so_scr (ok' := true) C E hin1 (kL_28 _ (List.mem_of_getElem? (i := 22) rfl)).1 ?_
  refine msegT C kL_28 23 4 (g := (true, 949, [.ref 900300, .ref 0, .ref 187, .int i], [.int (i + (2 : Int32)), .ref 900300, .int (zX xs (i + (1 : Int32))), .ref 187, .int r], mk b S1)) rfl rfl ?_
  refine so_scr (ok' := true) C E hin2 (kL_28 _ (List.mem_of_getElem? (i := 27) rfl)).1 ?_
  refine msegT C kL_28 28 4 (g := (true, 954, [.ref 900300, .ref 0, .ref 187, .int i], [.int (i + (3 : Int32)), .ref 900300, .int (zX xs (i + (2 : Int32))), .int (zX xs (i + (1 : Int32))), .ref 187, .int r], mk b S1)) rfl rfl ?_
  refine so_scr (ok' := true) C E hin3 (kL_28 _ (List.mem_of_getElem? (i := 32) rfl)).1 ?_
  refine mcall (kd := 0) (vs := [.ref 187, .int (zX xs (i + (1 : Int32))), .int (zX xs (i + (2 : Int32))), .int (zX xs (i + (3 : Int32)))]) (rest := [.int r]) (r := (some (.int r))) (h' := mk b S2) (ok' := true) C lkRL_134 (qX12_marks h2) (kL_28 _ (List.mem_of_getElem? (i := 33) rfl)).1 ⟨_, _, rfl, rfl, (Nat.le_of_ble_eq_true rfl), _, _, rfl, rfl, rfl⟩ (Nat.le_of_ble_eq_true rfl) (Nat.le_of_ble_eq_true rfl) (Nat.le_refl _) (Nat.le_refl _) (Nat.le_of_ble_eq_true rfl) ?_
  refine msegT C kL_28 34 1 (g := (true, (if r = r then 1352 else 961), [.ref 900300, .ref 0, .ref 187, .int i], [], mk b S2)) rfl rfl ?_
  rw [if_pos rfl]
  exact k
end ZL
def tL_29 : List mI := [(963, .aload_n 1, 1, 0, 0), (964, .aload_n 0, 1, 0, 0), (965, .iload_n 3, 1, 0, 0), (966, .iconst 1, 1, 0, 0), (967, .iadd, 1, 0, 0), (968, .iaload, 1, 0, 0), (969, .invokevirtual 135, 3, 0, 0), (972, .aload_n 2, 1, 0, 0), (973, .aload_n 0, 1, 0, 0), (974, .iload_n 3, 1, 0, 0), (975, .iconst 1, 1, 0, 0), (976, .iadd, 1, 0, 0), (977, .iaload, 1, 0, 0), (978, .invokevirtual 138, 3, 0, 0), (981, .if_icmp .eq 371, 3, 0, 0), (984, .iconst 0, 1, 0, 0), (985, .ireturn, 1, 0, 0)]
set_option maxRecDepth 100000 in
theorem kL_29 : mTok cL_law RL 4 false tL_29 := mTok_of (by decide +kernel) ⟨trivial, trivial, trivial, trivial, trivial, trivial, trivial, trivial, trivial, trivial, trivial, trivial, trivial, trivial, trivial, trivial, trivial, trivial⟩
theorem z_lies {l : Launch} {b : Bool} {a1 : Int32} {S S' : mT} {r : Int32} (h : fX11_lies a1 S = some (r, S')) : mMet l mX11_lies 1 [.ref 0, .int a1] (mk b S) (some (.int r)) (mk b S') := qX11_lies h
section ZL
variable {p : Program} {l : Launch} {e : Env} {s : State} {m : MethodId} {below : List Frame} {meth : Method} {c : Code} {G : mG} {b0 Ln : Nat} {xs : Nat → Int32} {Q : State → Prop}
theorem zc_lies (C : zC p s m meth c G b0) (E : zEn s G b0 Ln xs) {b : Bool} {S S1 S2 : mT} {i r : Int32} {ok : Bool} (hin1 : vp_in (i + (1 : Int32)) Ln) (h1 : fX11_lies (zX xs (i + (1 : Int32))) S = some (r, S1)) (h2 : fX12_lies (zX xs (i + (1 : Int32))) S1 = some (r, S2)) (k : zW p l e s m below meth c G b0 Q (true, 1352, [.ref 900300, .ref 0, .ref 187, .int i], [], mk b S2)) : zW p l e s m below meth c G b0 Q (ok, 963, [.ref 900300, .ref 0, .ref 187, .int i], [], mk b S) := by
  refine msegT C kL_29 0 5 (g := (true, 968, [.ref 900300, .ref 0, .ref 187, .int i], [.int (i + (1 : Int32)), .ref 900300, .ref 0], mk b S)) rfl rfl ?_
  refine so_scr (ok' := true) C E hin1 (kL_29 _ (List.mem_of_getElem? (i := 5) rfl)).1 ?_
  refine mcall (kd := 0) (vs := [.ref 0, .int (zX xs (i + (1 : Int32)))]) (rest := []) (r := (some (.int r))) (h' := mk b S1) (ok' := true) C lkRL_135 (z_lies h1) (kL_29 _ (List.mem_of_getElem? (i := 6) rfl)).1 ⟨_, _, rfl, rfl, (Nat.le_of_ble_eq_true rfl), _, _, rfl, rfl, rfl⟩ (Nat.le_of_ble_eq_true rfl) (Nat.le_of_ble_eq_true rfl) (Nat.le_refl _) (Nat.le_refl _) (Nat.le_of_ble_eq_true rfl) ?_
  refine msegT C kL_29 7 5 (g := (true, 977, [.ref 900300, .ref 0, .ref 187, .int i], [.int (i + (1 : Int32)), .ref 900300, .ref 187, .int r], mk b S1)) rfl rfl ?_
  refine so_scr (ok' := true) C E hin1 (kL_29 _ (List.mem_of_getElem? (i := 12) rfl)).1 ?_
  refine mcall (kd := 0) (vs := [.ref 187, .int (zX xs (i + (1 : Int32)))]) (rest := [.int r]) (r := (some (.int r))) (h' := mk b S2) (ok' := true) C lkRL_138 (qX12_lies h2) (kL_29 _ (List.mem_of_getElem? (i := 13) rfl)).1 ⟨_, _, rfl, rfl, (Nat.le_of_ble_eq_true rfl), _, _, rfl, rfl, rfl⟩ (Nat.le_of_ble_eq_true rfl) (Nat.le_of_ble_eq_true rfl) (Nat.le_refl _) (Nat.le_refl _) (Nat.le_of_ble_eq_true rfl) ?_
  refine msegT C kL_29 14 1 (g := (true, (if r = r then 1352 else 984), [.ref 900300, .ref 0, .ref 187, .int i], [], mk b S2)) rfl rfl ?_
  rw [if_pos rfl]
  exact k
end ZL
def tL_30 : List mI := [(986, .aload_n 1, 1, 0, 0), (987, .aload_n 0, 1, 0, 0), (988, .iload_n 3, 1, 0, 0), (989, .iconst 1, 1, 0, 0), (990, .iadd, 1, 0, 0), (991, .iaload, 1, 0, 0), (992, .aload_n 0, 1, 0, 0), (993, .iload_n 3, 1, 0, 0), (994, .iconst 2, 1, 0, 0), (995, .iadd, 1, 0, 0), (996, .iaload, 1, 0, 0), (997, .aload_n 0, 1, 0, 0), (998, .iload_n 3, 1, 0, 0), (999, .iconst 3, 1, 0, 0), (1000, .iadd, 1, 0, 0), (1001, .iaload, 1, 0, 0), (1002, .invokevirtual 139, 3, 0, 0), (1005, .aload_n 2, 1, 0, 0), (1006, .aload_n 0, 1, 0, 0), (1007, .iload_n 3, 1, 0, 0), (1008, .iconst 1, 1, 0, 0), (1009, .iadd, 1, 0, 0), (1010, .iaload, 1, 0, 0), (1011, .aload_n 0, 1, 0, 0), (1012, .iload_n 3, 1, 0, 0), (1013, .iconst 2, 1, 0, 0), (1014, .iadd, 1, 0, 0), (1015, .iaload, 1, 0, 0), (1016, .aload_n 0, 1, 0, 0), (1017, .iload_n 3, 1, 0, 0), (1018, .iconst 3, 1, 0, 0), (1019, .iadd, 1, 0, 0), (1020, .iaload, 1, 0, 0), (1021, .invokevirtual 142, 3, 0, 0), (1024, .if_icmp .eq 328, 3, 0, 0), (1027, .iconst 0, 1, 0, 0), (1028, .ireturn, 1, 0, 0)]
set_option maxRecDepth 100000 in
theorem kL_30 : mTok cL_law RL 4 false tL_30 := mTok_of (by decide +kernel) ⟨trivial, trivial, trivial, trivial, trivial, trivial, trivial, trivial, trivial, trivial, trivial, trivial, trivial, trivial, trivial, trivial, trivial, trivial, trivial, trivial, trivial, trivial, trivial, trivial, trivial, trivial, trivial, trivial, trivial, trivial, trivial, trivial, trivial, trivial, trivial, trivial, trivial, trivial⟩
theorem z_report {l : Launch} {b : Bool} {a1 a2 a3 : Int32} {S S' : mT} {r : Int32} (h : fX11_report b a1 a2 a3 S = some (r, S')) : mMet l mX11_report 2 [.ref 0, .int a1, .int a2, .int a3] (mk b S) (some (.int r)) (mk b S') := by
  cases b
  · exact qX11_report_f h
  · exact qX11_report_t h
section ZL
variable {p : Program} {l : Launch} {e : Env} {s : State} {m : MethodId} {below : List Frame} {meth : Method} {c : Code} {G : mG} {b0 Ln : Nat} {xs : Nat → Int32} {Q : State → Prop}
theorem zc_report (C : zC p s m meth c G b0) (E : zEn s G b0 Ln xs) {b : Bool} {S S1 S2 : mT} {i r : Int32} {ok : Bool} (hin1 : vp_in (i + (1 : Int32)) Ln) (hin2 : vp_in (i + (2 : Int32)) Ln) (hin3 : vp_in (i + (3 : Int32)) Ln) (h1 : fX11_report b (zX xs (i + (1 : Int32))) (zX xs (i + (2 : Int32))) (zX xs (i + (3 : Int32))) S = some (r, S1)) (h2 : fX12_report (zX xs (i + (1 : Int32))) (zX xs (i + (2 : Int32))) (zX xs (i + (3 : Int32))) S1 = some (r, S2)) (k : zW p l e s m below meth c G b0 Q (true, 1352, [.ref 900300, .ref 0, .ref 187, .int i], [], mk b S2)) : zW p l e s m below meth c G b0 Q (ok, 986, [.ref 900300, .ref 0, .ref 187, .int i], [], mk b S) := by
  refine msegT C kL_30 0 5 (g := (true, 991, [.ref 900300, .ref 0, .ref 187, .int i], [.int (i + (1 : Int32)), .ref 900300, .ref 0], mk b S)) rfl rfl ?_
  refine so_scr (ok' := true) C E hin1 (kL_30 _ (List.mem_of_getElem? (i := 5) rfl)).1 ?_
  refine msegT C kL_30 6 4 (g := (true, 996, [.ref 900300, .ref 0, .ref 187, .int i], [.int (i + (2 : Int32)), .ref 900300, .int (zX xs (i + (1 : Int32))), .ref 0], mk b S)) rfl rfl ?_
  refine so_scr (ok' := true) C E hin2 (kL_30 _ (List.mem_of_getElem? (i := 10) rfl)).1 ?_
  refine msegT C kL_30 11 4 (g := (true, 1001, [.ref 900300, .ref 0, .ref 187, .int i], [.int (i + (3 : Int32)), .ref 900300, .int (zX xs (i + (2 : Int32))), .int (zX xs (i + (1 : Int32))), .ref 0], mk b S)) rfl rfl ?_
  refine so_scr (ok' := true) C E hin3 (kL_30 _ (List.mem_of_getElem? (i := 15) rfl)).1 ?_
  refine mcall (kd := 0) (vs := [.ref 0, .int (zX xs (i + (1 : Int32))), .int (zX xs (i + (2 : Int32))), .int (zX xs (i + (3 : Int32)))]) (rest := []) (r := (some (.int r))) (h' := mk b S1) (ok' := true) C lkRL_139 (z_report h1) (kL_30 _ (List.mem_of_getElem? (i := 16) rfl)).1 ⟨_, _, rfl, rfl, (Nat.le_of_ble_eq_true rfl), _, _, rfl, rfl, rfl⟩ (Nat.le_of_ble_eq_true rfl) (Nat.le_of_ble_eq_true rfl) (Nat.le_refl _) (Nat.le_refl _) (Nat.le_of_ble_eq_true rfl) ?_
  refine msegT C kL_30 17 5 (g := (true, 1010, [.ref 900300, .ref 0, .ref 187, .int i], [.int (i + (1 : Int32)), .ref 900300, .ref 187, .int r], mk b S1)) rfl rfl ?_
  refine so_scr (ok' := true) C E hin1 (kL_30 _ (List.mem_of_getElem? (i := 22) rfl)).1 ?_
  refine msegT C kL_30 23 4 (g := (true, 1015, [.ref 900300, .ref 0, .ref 187, .int i], [.int (i + (2 : Int32)), .ref 900300, .int (zX xs (i + (1 : Int32))), .ref 187, .int r], mk b S1)) rfl rfl ?_
  refine so_scr (ok' := true) C E hin2 (kL_30 _ (List.mem_of_getElem? (i := 27) rfl)).1 ?_
  refine msegT C kL_30 28 4 (g := (true, 1020, [.ref 900300, .ref 0, .ref 187, .int i], [.int (i + (3 : Int32)), .ref 900300, .int (zX xs (i + (2 : Int32))), .int (zX xs (i + (1 : Int32))), .ref 187, .int r], mk b S1)) rfl rfl ?_
  refine so_scr (ok' := true) C E hin3 (kL_30 _ (List.mem_of_getElem? (i := 32) rfl)).1 ?_
  refine mcall (kd := 0) (vs := [.ref 187, .int (zX xs (i + (1 : Int32))), .int (zX xs (i + (2 : Int32))), .int (zX xs (i + (3 : Int32)))]) (rest := [.int r]) (r := (some (.int r))) (h' := mk b S2) (ok' := true) C lkRL_142 (qX12_report h2) (kL_30 _ (List.mem_of_getElem? (i := 33) rfl)).1 ⟨_, _, rfl, rfl, (Nat.le_of_ble_eq_true rfl), _, _, rfl, rfl, rfl⟩ (Nat.le_of_ble_eq_true rfl) (Nat.le_of_ble_eq_true rfl) (Nat.le_refl _) (Nat.le_refl _) (Nat.le_of_ble_eq_true rfl) ?_
  refine msegT C kL_30 34 1 (g := (true, (if r = r then 1352 else 1027), [.ref 900300, .ref 0, .ref 187, .int i], [], mk b S2)) rfl rfl ?_
  rw [if_pos rfl]
  exact k
end ZL
def tL_31 : List mI := [(1029, .aload_n 1, 1, 0, 0), (1030, .aload_n 0, 1, 0, 0), (1031, .iload_n 3, 1, 0, 0), (1032, .iconst 1, 1, 0, 0), (1033, .iadd, 1, 0, 0), (1034, .iaload, 1, 0, 0), (1035, .invokevirtual 143, 3, 0, 0), (1038, .aload_n 2, 1, 0, 0), (1039, .aload_n 0, 1, 0, 0), (1040, .iload_n 3, 1, 0, 0), (1041, .iconst 1, 1, 0, 0), (1042, .iadd, 1, 0, 0), (1043, .iaload, 1, 0, 0), (1044, .invokevirtual 147, 3, 0, 0), (1047, .if_icmp .eq 305, 3, 0, 0), (1050, .iconst 0, 1, 0, 0), (1051, .ireturn, 1, 0, 0)]
set_option maxRecDepth 100000 in
theorem kL_31 : mTok cL_law RL 4 false tL_31 := mTok_of (by decide +kernel) ⟨trivial, trivial, trivial, trivial, trivial, trivial, trivial, trivial, trivial, trivial, trivial, trivial, trivial, trivial, trivial, trivial, trivial, trivial⟩
theorem z_untell {l : Launch} {b : Bool} {a1 : Int32} {S S' : mT} {r : Int32} (h : fX11_untell a1 S = some (r, S')) : mMet l mX11_untell 2 [.ref 0, .int a1] (mk b S) (some (.int r)) (mk b S') := qX11_untell h
section ZL
variable {p : Program} {l : Launch} {e : Env} {s : State} {m : MethodId} {below : List Frame} {meth : Method} {c : Code} {G : mG} {b0 Ln : Nat} {xs : Nat → Int32} {Q : State → Prop}
theorem zc_untell (C : zC p s m meth c G b0) (E : zEn s G b0 Ln xs) {b : Bool} {S S1 S2 : mT} {i r : Int32} {ok : Bool} (hin1 : vp_in (i + (1 : Int32)) Ln) (h1 : fX11_untell (zX xs (i + (1 : Int32))) S = some (r, S1)) (h2 : fX12_untell (zX xs (i + (1 : Int32))) S1 = some (r, S2)) (k : zW p l e s m below meth c G b0 Q (true, 1352, [.ref 900300, .ref 0, .ref 187, .int i], [], mk b S2)) : zW p l e s m below meth c G b0 Q (ok, 1029, [.ref 900300, .ref 0, .ref 187, .int i], [], mk b S) := by
  refine msegT C kL_31 0 5 (g := (true, 1034, [.ref 900300, .ref 0, .ref 187, .int i], [.int (i + (1 : Int32)), .ref 900300, .ref 0], mk b S)) rfl rfl ?_
  refine so_scr (ok' := true) C E hin1 (kL_31 _ (List.mem_of_getElem? (i := 5) rfl)).1 ?_
  refine mcall (kd := 0) (vs := [.ref 0, .int (zX xs (i + (1 : Int32)))]) (rest := []) (r := (some (.int r))) (h' := mk b S1) (ok' := true) C lkRL_143 (z_untell h1) (kL_31 _ (List.mem_of_getElem? (i := 6) rfl)).1 ⟨_, _, rfl, rfl, (Nat.le_of_ble_eq_true rfl), _, _, rfl, rfl, rfl⟩ (Nat.le_of_ble_eq_true rfl) (Nat.le_of_ble_eq_true rfl) (Nat.le_refl _) (Nat.le_refl _) (Nat.le_of_ble_eq_true rfl) ?_
  refine msegT C kL_31 7 5 (g := (true, 1043, [.ref 900300, .ref 0, .ref 187, .int i], [.int (i + (1 : Int32)), .ref 900300, .ref 187, .int r], mk b S1)) rfl rfl ?_
  refine so_scr (ok' := true) C E hin1 (kL_31 _ (List.mem_of_getElem? (i := 12) rfl)).1 ?_
  refine mcall (kd := 0) (vs := [.ref 187, .int (zX xs (i + (1 : Int32)))]) (rest := [.int r]) (r := (some (.int r))) (h' := mk b S2) (ok' := true) C lkRL_147 (qX12_untell h2) (kL_31 _ (List.mem_of_getElem? (i := 13) rfl)).1 ⟨_, _, rfl, rfl, (Nat.le_of_ble_eq_true rfl), _, _, rfl, rfl, rfl⟩ (Nat.le_of_ble_eq_true rfl) (Nat.le_of_ble_eq_true rfl) (Nat.le_refl _) (Nat.le_refl _) (Nat.le_of_ble_eq_true rfl) ?_
  refine msegT C kL_31 14 1 (g := (true, (if r = r then 1352 else 1050), [.ref 900300, .ref 0, .ref 187, .int i], [], mk b S2)) rfl rfl ?_
  rw [if_pos rfl]
  exact k
end ZL
def tL_32 : List mI := [(1052, .aload_n 1, 1, 0, 0), (1053, .aload_n 0, 1, 0, 0), (1054, .iload_n 3, 1, 0, 0), (1055, .iconst 1, 1, 0, 0), (1056, .iadd, 1, 0, 0), (1057, .iaload, 1, 0, 0), (1058, .invokevirtual 148, 3, 0, 0), (1061, .aload_n 2, 1, 0, 0), (1062, .aload_n 0, 1, 0, 0), (1063, .iload_n 3, 1, 0, 0), (1064, .iconst 1, 1, 0, 0), (1065, .iadd, 1, 0, 0), (1066, .iaload, 1, 0, 0), (1067, .invokevirtual 151, 3, 0, 0), (1070, .if_icmp .eq 282, 3, 0, 0), (1073, .iconst 0, 1, 0, 0), (1074, .ireturn, 1, 0, 0)]
set_option maxRecDepth 100000 in
theorem kL_32 : mTok cL_law RL 4 false tL_32 := mTok_of (by decide +kernel) ⟨trivial, trivial, trivial, trivial, trivial, trivial, trivial, trivial, trivial, trivial, trivial, trivial, trivial, trivial, trivial, trivial, trivial, trivial⟩
theorem z_later {l : Launch} {b : Bool} {a1 : Int32} {S S' : mT} {r : Int32} (h : fX11_later a1 S = some (r, S')) : mMet l mX11_later 2 [.ref 0, .int a1] (mk b S) (some (.int r)) (mk b S') := qX11_later h
section ZL
variable {p : Program} {l : Launch} {e : Env} {s : State} {m : MethodId} {below : List Frame} {meth : Method} {c : Code} {G : mG} {b0 Ln : Nat} {xs : Nat → Int32} {Q : State → Prop}
theorem zc_later (C : zC p s m meth c G b0) (E : zEn s G b0 Ln xs) {b : Bool} {S S1 S2 : mT} {i r : Int32} {ok : Bool} (hin1 : vp_in (i + (1 : Int32)) Ln) (h1 : fX11_later (zX xs (i + (1 : Int32))) S = some (r, S1)) (h2 : fX12_later (zX xs (i + (1 : Int32))) S1 = some (r, S2)) (k : zW p l e s m below meth c G b0 Q (true, 1352, [.ref 900300, .ref 0, .ref 187, .int i], [], mk b S2)) : zW p l e s m below meth c G b0 Q (ok, 1052, [.ref 900300, .ref 0, .ref 187, .int i], [], mk b S) := by
  refine msegT C kL_32 0 5 (g := (true, 1057, [.ref 900300, .ref 0, .ref 187, .int i], [.int (i + (1 : Int32)), .ref 900300, .ref 0], mk b S)) rfl rfl ?_
  refine so_scr (ok' := true) C E hin1 (kL_32 _ (List.mem_of_getElem? (i := 5) rfl)).1 ?_
  refine mcall (kd := 0) (vs := [.ref 0, .int (zX xs (i + (1 : Int32)))]) (rest := []) (r := (some (.int r))) (h' := mk b S1) (ok' := true) C lkRL_148 (z_later h1) (kL_32 _ (List.mem_of_getElem? (i := 6) rfl)).1 ⟨_, _, rfl, rfl, (Nat.le_of_ble_eq_true rfl), _, _, rfl, rfl, rfl⟩ (Nat.le_of_ble_eq_true rfl) (Nat.le_of_ble_eq_true rfl) (Nat.le_refl _) (Nat.le_refl _) (Nat.le_of_ble_eq_true rfl) ?_
  refine msegT C kL_32 7 5 (g := (true, 1066, [.ref 900300, .ref 0, .ref 187, .int i], [.int (i + (1 : Int32)), .ref 900300, .ref 187, .int r], mk b S1)) rfl rfl ?_
  refine so_scr (ok' := true) C E hin1 (kL_32 _ (List.mem_of_getElem? (i := 12) rfl)).1 ?_
  refine mcall (kd := 0) (vs := [.ref 187, .int (zX xs (i + (1 : Int32)))]) (rest := [.int r]) (r := (some (.int r))) (h' := mk b S2) (ok' := true) C lkRL_151 (qX12_later h2) (kL_32 _ (List.mem_of_getElem? (i := 13) rfl)).1 ⟨_, _, rfl, rfl, (Nat.le_of_ble_eq_true rfl), _, _, rfl, rfl, rfl⟩ (Nat.le_of_ble_eq_true rfl) (Nat.le_of_ble_eq_true rfl) (Nat.le_refl _) (Nat.le_refl _) (Nat.le_of_ble_eq_true rfl) ?_
  refine msegT C kL_32 14 1 (g := (true, (if r = r then 1352 else 1073), [.ref 900300, .ref 0, .ref 187, .int i], [], mk b S2)) rfl rfl ?_
  rw [if_pos rfl]
  exact k
end ZL
def tL_33 : List mI := [(1075, .aload_n 1, 1, 0, 0), (1076, .aload_n 0, 1, 0, 0), (1077, .iload_n 3, 1, 0, 0), (1078, .iconst 1, 1, 0, 0), (1079, .iadd, 1, 0, 0), (1080, .iaload, 1, 0, 0), (1081, .invokevirtual 152, 3, 0, 0), (1084, .aload_n 2, 1, 0, 0), (1085, .aload_n 0, 1, 0, 0), (1086, .iload_n 3, 1, 0, 0), (1087, .iconst 1, 1, 0, 0), (1088, .iadd, 1, 0, 0), (1089, .iaload, 1, 0, 0), (1090, .invokevirtual 155, 3, 0, 0), (1093, .if_icmp .eq 259, 3, 0, 0), (1096, .iconst 0, 1, 0, 0), (1097, .ireturn, 1, 0, 0)]
set_option maxRecDepth 100000 in
theorem kL_33 : mTok cL_law RL 4 false tL_33 := mTok_of (by decide +kernel) ⟨trivial, trivial, trivial, trivial, trivial, trivial, trivial, trivial, trivial, trivial, trivial, trivial, trivial, trivial, trivial, trivial, trivial, trivial⟩
theorem z_truths {l : Launch} {b : Bool} {a1 : Int32} {S S' : mT} {r : Int32} (h : fX11_truths b a1 S = some (r, S')) : mMet l mX11_truths 21 [.ref 0, .int a1] (mk b S) (some (.int r)) (mk b S') := by
  cases b
  · exact qX11_truths_f h
  · exact qX11_truths_t h
section ZL
variable {p : Program} {l : Launch} {e : Env} {s : State} {m : MethodId} {below : List Frame} {meth : Method} {c : Code} {G : mG} {b0 Ln : Nat} {xs : Nat → Int32} {Q : State → Prop}
theorem zc_truths (C : zC p s m meth c G b0) (E : zEn s G b0 Ln xs) {b : Bool} {S S1 S2 : mT} {i r : Int32} {ok : Bool} (hin1 : vp_in (i + (1 : Int32)) Ln) (h1 : fX11_truths b (zX xs (i + (1 : Int32))) S = some (r, S1)) (h2 : fX12_truths (zX xs (i + (1 : Int32))) S1 = some (r, S2)) (k : zW p l e s m below meth c G b0 Q (true, 1352, [.ref 900300, .ref 0, .ref 187, .int i], [], mk b S2)) : zW p l e s m below meth c G b0 Q (ok, 1075, [.ref 900300, .ref 0, .ref 187, .int i], [], mk b S) := by
  refine msegT C kL_33 0 5 (g := (true, 1080, [.ref 900300, .ref 0, .ref 187, .int i], [.int (i + (1 : Int32)), .ref 900300, .ref 0], mk b S)) rfl rfl ?_
  refine so_scr (ok' := true) C E hin1 (kL_33 _ (List.mem_of_getElem? (i := 5) rfl)).1 ?_
  refine mcall (kd := 0) (vs := [.ref 0, .int (zX xs (i + (1 : Int32)))]) (rest := []) (r := (some (.int r))) (h' := mk b S1) (ok' := true) C lkRL_152 (z_truths h1) (kL_33 _ (List.mem_of_getElem? (i := 6) rfl)).1 ⟨_, _, rfl, rfl, (Nat.le_of_ble_eq_true rfl), _, _, rfl, rfl, rfl⟩ (Nat.le_of_ble_eq_true rfl) (Nat.le_of_ble_eq_true rfl) (Nat.le_refl _) (Nat.le_refl _) (Nat.le_of_ble_eq_true rfl) ?_
  refine msegT C kL_33 7 5 (g := (true, 1089, [.ref 900300, .ref 0, .ref 187, .int i], [.int (i + (1 : Int32)), .ref 900300, .ref 187, .int r], mk b S1)) rfl rfl ?_
  refine so_scr (ok' := true) C E hin1 (kL_33 _ (List.mem_of_getElem? (i := 12) rfl)).1 ?_
  refine mcall (kd := 0) (vs := [.ref 187, .int (zX xs (i + (1 : Int32)))]) (rest := [.int r]) (r := (some (.int r))) (h' := mk b S2) (ok' := true) C lkRL_155 (qX12_truths h2) (kL_33 _ (List.mem_of_getElem? (i := 13) rfl)).1 ⟨_, _, rfl, rfl, (Nat.le_of_ble_eq_true rfl), _, _, rfl, rfl, rfl⟩ (Nat.le_of_ble_eq_true rfl) (Nat.le_of_ble_eq_true rfl) (Nat.le_refl _) (Nat.le_refl _) (Nat.le_of_ble_eq_true rfl) ?_
  refine msegT C kL_33 14 1 (g := (true, (if r = r then 1352 else 1096), [.ref 900300, .ref 0, .ref 187, .int i], [], mk b S2)) rfl rfl ?_
  rw [if_pos rfl]
  exact k
end ZL
def tL_34 : List mI := [(1098, .aload_n 1, 1, 0, 0), (1099, .aload_n 0, 1, 0, 0), (1100, .iload_n 3, 1, 0, 0), (1101, .iconst 1, 1, 0, 0), (1102, .iadd, 1, 0, 0), (1103, .iaload, 1, 0, 0), (1104, .aload_n 0, 1, 0, 0), (1105, .iload_n 3, 1, 0, 0), (1106, .iconst 2, 1, 0, 0), (1107, .iadd, 1, 0, 0), (1108, .iaload, 1, 0, 0), (1109, .aload_n 0, 1, 0, 0), (1110, .iload_n 3, 1, 0, 0), (1111, .iconst 3, 1, 0, 0), (1112, .iadd, 1, 0, 0), (1113, .iaload, 1, 0, 0), (1114, .invokevirtual 156, 3, 0, 0), (1117, .aload_n 2, 1, 0, 0), (1118, .aload_n 0, 1, 0, 0), (1119, .iload_n 3, 1, 0, 0), (1120, .iconst 1, 1, 0, 0), (1121, .iadd, 1, 0, 0), (1122, .iaload, 1, 0, 0), (1123, .aload_n 0, 1, 0, 0), (1124, .iload_n 3, 1, 0, 0), (1125, .iconst 2, 1, 0, 0), (1126, .iadd, 1, 0, 0), (1127, .iaload, 1, 0, 0), (1128, .aload_n 0, 1, 0, 0), (1129, .iload_n 3, 1, 0, 0), (1130, .iconst 3, 1, 0, 0), (1131, .iadd, 1, 0, 0), (1132, .iaload, 1, 0, 0), (1133, .invokevirtual 159, 3, 0, 0), (1136, .if_icmp .eq 216, 3, 0, 0), (1139, .iconst 0, 1, 0, 0), (1140, .ireturn, 1, 0, 0)]
set_option maxRecDepth 100000 in
theorem kL_34 : mTok cL_law RL 4 false tL_34 := mTok_of (by decide +kernel) ⟨trivial, trivial, trivial, trivial, trivial, trivial, trivial, trivial, trivial, trivial, trivial, trivial, trivial, trivial, trivial, trivial, trivial, trivial, trivial, trivial, trivial, trivial, trivial, trivial, trivial, trivial, trivial, trivial, trivial, trivial, trivial, trivial, trivial, trivial, trivial, trivial, trivial, trivial⟩
theorem z_range {l : Launch} {b : Bool} {a1 a2 a3 : Int32} {S S' : mT} {r : Int32} (h : fX11_range b a1 a2 a3 S = some (r, S')) : mMet l mX11_range 21 [.ref 0, .int a1, .int a2, .int a3] (mk b S) (some (.int r)) (mk b S') := by
  cases b
  · exact qX11_range_f h
  · exact qX11_range_t h
section ZL
variable {p : Program} {l : Launch} {e : Env} {s : State} {m : MethodId} {below : List Frame} {meth : Method} {c : Code} {G : mG} {b0 Ln : Nat} {xs : Nat → Int32} {Q : State → Prop}
theorem zc_range (C : zC p s m meth c G b0) (E : zEn s G b0 Ln xs) {b : Bool} {S S1 S2 : mT} {i r : Int32} {ok : Bool} (hin1 : vp_in (i + (1 : Int32)) Ln) (hin2 : vp_in (i + (2 : Int32)) Ln) (hin3 : vp_in (i + (3 : Int32)) Ln) (h1 : fX11_range b (zX xs (i + (1 : Int32))) (zX xs (i + (2 : Int32))) (zX xs (i + (3 : Int32))) S = some (r, S1)) (h2 : fX12_range (zX xs (i + (1 : Int32))) (zX xs (i + (2 : Int32))) (zX xs (i + (3 : Int32))) S1 = some (r, S2)) (k : zW p l e s m below meth c G b0 Q (true, 1352, [.ref 900300, .ref 0, .ref 187, .int i], [], mk b S2)) : zW p l e s m below meth c G b0 Q (ok, 1098, [.ref 900300, .ref 0, .ref 187, .int i], [], mk b S) := by
  refine msegT C kL_34 0 5 (g := (true, 1103, [.ref 900300, .ref 0, .ref 187, .int i], [.int (i + (1 : Int32)), .ref 900300, .ref 0], mk b S)) rfl rfl ?_
  refine so_scr (ok' := true) C E hin1 (kL_34 _ (List.mem_of_getElem? (i := 5) rfl)).1 ?_
  refine msegT C kL_34 6 4 (g := (true, 1108, [.ref 900300, .ref 0, .ref 187, .int i], [.int (i + (2 : Int32)), .ref 900300, .int (zX xs (i + (1 : Int32))), .ref 0], mk b S)) rfl rfl ?_
  refine so_scr (ok' := true) C E hin2 (kL_34 _ (List.mem_of_getElem? (i := 10) rfl)).1 ?_
  refine msegT C kL_34 11 4 (g := (true, 1113, [.ref 900300, .ref 0, .ref 187, .int i], [.int (i + (3 : Int32)), .ref 900300, .int (zX xs (i + (2 : Int32))), .int (zX xs (i + (1 : Int32))), .ref 0], mk b S)) rfl rfl ?_
  refine so_scr (ok' := true) C E hin3 (kL_34 _ (List.mem_of_getElem? (i := 15) rfl)).1 ?_
  refine mcall (kd := 0) (vs := [.ref 0, .int (zX xs (i + (1 : Int32))), .int (zX xs (i + (2 : Int32))), .int (zX xs (i + (3 : Int32)))]) (rest := []) (r := (some (.int r))) (h' := mk b S1) (ok' := true) C lkRL_156 (z_range h1) (kL_34 _ (List.mem_of_getElem? (i := 16) rfl)).1 ⟨_, _, rfl, rfl, (Nat.le_of_ble_eq_true rfl), _, _, rfl, rfl, rfl⟩ (Nat.le_of_ble_eq_true rfl) (Nat.le_of_ble_eq_true rfl) (Nat.le_refl _) (Nat.le_refl _) (Nat.le_of_ble_eq_true rfl) ?_
  refine msegT C kL_34 17 5 (g := (true, 1122, [.ref 900300, .ref 0, .ref 187, .int i], [.int (i + (1 : Int32)), .ref 900300, .ref 187, .int r], mk b S1)) rfl rfl ?_
  refine so_scr (ok' := true) C E hin1 (kL_34 _ (List.mem_of_getElem? (i := 22) rfl)).1 ?_
  refine msegT C kL_34 23 4 (g := (true, 1127, [.ref 900300, .ref 0, .ref 187, .int i], [.int (i + (2 : Int32)), .ref 900300, .int (zX xs (i + (1 : Int32))), .ref 187, .int r], mk b S1)) rfl rfl ?_
  refine so_scr (ok' := true) C E hin2 (kL_34 _ (List.mem_of_getElem? (i := 27) rfl)).1 ?_
  refine msegT C kL_34 28 4 (g := (true, 1132, [.ref 900300, .ref 0, .ref 187, .int i], [.int (i + (3 : Int32)), .ref 900300, .int (zX xs (i + (2 : Int32))), .int (zX xs (i + (1 : Int32))), .ref 187, .int r], mk b S1)) rfl rfl ?_
  refine so_scr (ok' := true) C E hin3 (kL_34 _ (List.mem_of_getElem? (i := 32) rfl)).1 ?_
  refine mcall (kd := 0) (vs := [.ref 187, .int (zX xs (i + (1 : Int32))), .int (zX xs (i + (2 : Int32))), .int (zX xs (i + (3 : Int32)))]) (rest := [.int r]) (r := (some (.int r))) (h' := mk b S2) (ok' := true) C lkRL_159 (qX12_range h2) (kL_34 _ (List.mem_of_getElem? (i := 33) rfl)).1 ⟨_, _, rfl, rfl, (Nat.le_of_ble_eq_true rfl), _, _, rfl, rfl, rfl⟩ (Nat.le_of_ble_eq_true rfl) (Nat.le_of_ble_eq_true rfl) (Nat.le_refl _) (Nat.le_refl _) (Nat.le_of_ble_eq_true rfl) ?_
  refine msegT C kL_34 34 1 (g := (true, (if r = r then 1352 else 1139), [.ref 900300, .ref 0, .ref 187, .int i], [], mk b S2)) rfl rfl ?_
  rw [if_pos rfl]
  exact k
end ZL
def tL_35 : List mI := [(1141, .aload_n 1, 1, 0, 0), (1142, .aload_n 0, 1, 0, 0), (1143, .iload_n 3, 1, 0, 0), (1144, .iconst 1, 1, 0, 0), (1145, .iadd, 1, 0, 0), (1146, .iaload, 1, 0, 0), (1147, .invokevirtual 160, 3, 0, 0), (1150, .aload_n 2, 1, 0, 0), (1151, .aload_n 0, 1, 0, 0), (1152, .iload_n 3, 1, 0, 0), (1153, .iconst 1, 1, 0, 0), (1154, .iadd, 1, 0, 0), (1155, .iaload, 1, 0, 0), (1156, .invokevirtual 163, 3, 0, 0), (1159, .if_icmp .eq 193, 3, 0, 0), (1162, .iconst 0, 1, 0, 0), (1163, .ireturn, 1, 0, 0)]
set_option maxRecDepth 100000 in
theorem kL_35 : mTok cL_law RL 4 false tL_35 := mTok_of (by decide +kernel) ⟨trivial, trivial, trivial, trivial, trivial, trivial, trivial, trivial, trivial, trivial, trivial, trivial, trivial, trivial, trivial, trivial, trivial, trivial⟩
theorem z_liars {l : Launch} {b : Bool} {a1 : Int32} {S S' : mT} {r : Int32} (h : fX11_liars b a1 S = some (r, S')) : mMet l mX11_liars 20 [.ref 0, .int a1] (mk b S) (some (.int r)) (mk b S') := by
  cases b
  · exact qX11_liars_f h
  · exact qX11_liars_t h
section ZL
variable {p : Program} {l : Launch} {e : Env} {s : State} {m : MethodId} {below : List Frame} {meth : Method} {c : Code} {G : mG} {b0 Ln : Nat} {xs : Nat → Int32} {Q : State → Prop}
theorem zc_liars (C : zC p s m meth c G b0) (E : zEn s G b0 Ln xs) {b : Bool} {S S1 S2 : mT} {i r : Int32} {ok : Bool} (hin1 : vp_in (i + (1 : Int32)) Ln) (h1 : fX11_liars b (zX xs (i + (1 : Int32))) S = some (r, S1)) (h2 : fX12_liars (zX xs (i + (1 : Int32))) S1 = some (r, S2)) (k : zW p l e s m below meth c G b0 Q (true, 1352, [.ref 900300, .ref 0, .ref 187, .int i], [], mk b S2)) : zW p l e s m below meth c G b0 Q (ok, 1141, [.ref 900300, .ref 0, .ref 187, .int i], [], mk b S) := by
  refine msegT C kL_35 0 5 (g := (true, 1146, [.ref 900300, .ref 0, .ref 187, .int i], [.int (i + (1 : Int32)), .ref 900300, .ref 0], mk b S)) rfl rfl ?_
  refine so_scr (ok' := true) C E hin1 (kL_35 _ (List.mem_of_getElem? (i := 5) rfl)).1 ?_
  refine mcall (kd := 0) (vs := [.ref 0, .int (zX xs (i + (1 : Int32)))]) (rest := []) (r := (some (.int r))) (h' := mk b S1) (ok' := true) C lkRL_160 (z_liars h1) (kL_35 _ (List.mem_of_getElem? (i := 6) rfl)).1 ⟨_, _, rfl, rfl, (Nat.le_of_ble_eq_true rfl), _, _, rfl, rfl, rfl⟩ (Nat.le_of_ble_eq_true rfl) (Nat.le_of_ble_eq_true rfl) (Nat.le_refl _) (Nat.le_refl _) (Nat.le_of_ble_eq_true rfl) ?_
  refine msegT C kL_35 7 5 (g := (true, 1155, [.ref 900300, .ref 0, .ref 187, .int i], [.int (i + (1 : Int32)), .ref 900300, .ref 187, .int r], mk b S1)) rfl rfl ?_
  refine so_scr (ok' := true) C E hin1 (kL_35 _ (List.mem_of_getElem? (i := 12) rfl)).1 ?_
  refine mcall (kd := 0) (vs := [.ref 187, .int (zX xs (i + (1 : Int32)))]) (rest := [.int r]) (r := (some (.int r))) (h' := mk b S2) (ok' := true) C lkRL_163 (qX12_liars h2) (kL_35 _ (List.mem_of_getElem? (i := 13) rfl)).1 ⟨_, _, rfl, rfl, (Nat.le_of_ble_eq_true rfl), _, _, rfl, rfl, rfl⟩ (Nat.le_of_ble_eq_true rfl) (Nat.le_of_ble_eq_true rfl) (Nat.le_refl _) (Nat.le_refl _) (Nat.le_of_ble_eq_true rfl) ?_
  refine msegT C kL_35 14 1 (g := (true, (if r = r then 1352 else 1162), [.ref 900300, .ref 0, .ref 187, .int i], [], mk b S2)) rfl rfl ?_
  rw [if_pos rfl]
  exact k
end ZL
def tL_36 : List mI := [(1164, .aload_n 1, 1, 0, 0), (1165, .aload_n 0, 1, 0, 0), (1166, .iload_n 3, 1, 0, 0), (1167, .iconst 1, 1, 0, 0), (1168, .iadd, 1, 0, 0), (1169, .iaload, 1, 0, 0), (1170, .aload_n 0, 1, 0, 0), (1171, .iload_n 3, 1, 0, 0), (1172, .iconst 2, 1, 0, 0), (1173, .iadd, 1, 0, 0), (1174, .iaload, 1, 0, 0), (1175, .invokevirtual 164, 3, 0, 0), (1178, .aload_n 2, 1, 0, 0), (1179, .aload_n 0, 1, 0, 0), (1180, .iload_n 3, 1, 0, 0), (1181, .iconst 1, 1, 0, 0), (1182, .iadd, 1, 0, 0), (1183, .iaload, 1, 0, 0), (1184, .aload_n 0, 1, 0, 0), (1185, .iload_n 3, 1, 0, 0), (1186, .iconst 2, 1, 0, 0), (1187, .iadd, 1, 0, 0), (1188, .iaload, 1, 0, 0), (1189, .invokevirtual 167, 3, 0, 0), (1192, .if_icmp .eq 160, 3, 0, 0), (1195, .iconst 0, 1, 0, 0), (1196, .ireturn, 1, 0, 0)]
set_option maxRecDepth 100000 in
theorem kL_36 : mTok cL_law RL 4 false tL_36 := mTok_of (by decide +kernel) ⟨trivial, trivial, trivial, trivial, trivial, trivial, trivial, trivial, trivial, trivial, trivial, trivial, trivial, trivial, trivial, trivial, trivial, trivial, trivial, trivial, trivial, trivial, trivial, trivial, trivial, trivial, trivial, trivial⟩
theorem z_knock {l : Launch} {b : Bool} {a1 a2 : Int32} {S S' : mT} {r : Int32} (h : fX11_knock b a1 a2 S = some (r, S')) : mMet l mX11_knock 21 [.ref 0, .int a1, .int a2] (mk b S) (some (.int r)) (mk b S') := by
  cases b
  · exact qX11_knock_f h
  · exact qX11_knock_t h
section ZL
variable {p : Program} {l : Launch} {e : Env} {s : State} {m : MethodId} {below : List Frame} {meth : Method} {c : Code} {G : mG} {b0 Ln : Nat} {xs : Nat → Int32} {Q : State → Prop}
theorem zc_knock (C : zC p s m meth c G b0) (E : zEn s G b0 Ln xs) {b : Bool} {S S1 S2 : mT} {i r : Int32} {ok : Bool} (hin1 : vp_in (i + (1 : Int32)) Ln) (hin2 : vp_in (i + (2 : Int32)) Ln) (h1 : fX11_knock b (zX xs (i + (1 : Int32))) (zX xs (i + (2 : Int32))) S = some (r, S1)) (h2 : fX12_knock (zX xs (i + (1 : Int32))) (zX xs (i + (2 : Int32))) S1 = some (r, S2)) (k : zW p l e s m below meth c G b0 Q (true, 1352, [.ref 900300, .ref 0, .ref 187, .int i], [], mk b S2)) : zW p l e s m below meth c G b0 Q (ok, 1164, [.ref 900300, .ref 0, .ref 187, .int i], [], mk b S) := by
  refine msegT C kL_36 0 5 (g := (true, 1169, [.ref 900300, .ref 0, .ref 187, .int i], [.int (i + (1 : Int32)), .ref 900300, .ref 0], mk b S)) rfl rfl ?_
  refine so_scr (ok' := true) C E hin1 (kL_36 _ (List.mem_of_getElem? (i := 5) rfl)).1 ?_
  refine msegT C kL_36 6 4 (g := (true, 1174, [.ref 900300, .ref 0, .ref 187, .int i], [.int (i + (2 : Int32)), .ref 900300, .int (zX xs (i + (1 : Int32))), .ref 0], mk b S)) rfl rfl ?_
  refine so_scr (ok' := true) C E hin2 (kL_36 _ (List.mem_of_getElem? (i := 10) rfl)).1 ?_
  refine mcall (kd := 0) (vs := [.ref 0, .int (zX xs (i + (1 : Int32))), .int (zX xs (i + (2 : Int32)))]) (rest := []) (r := (some (.int r))) (h' := mk b S1) (ok' := true) C lkRL_164 (z_knock h1) (kL_36 _ (List.mem_of_getElem? (i := 11) rfl)).1 ⟨_, _, rfl, rfl, (Nat.le_of_ble_eq_true rfl), _, _, rfl, rfl, rfl⟩ (Nat.le_of_ble_eq_true rfl) (Nat.le_of_ble_eq_true rfl) (Nat.le_refl _) (Nat.le_refl _) (Nat.le_of_ble_eq_true rfl) ?_
  refine msegT C kL_36 12 5 (g := (true, 1183, [.ref 900300, .ref 0, .ref 187, .int i], [.int (i + (1 : Int32)), .ref 900300, .ref 187, .int r], mk b S1)) rfl rfl ?_
  refine so_scr (ok' := true) C E hin1 (kL_36 _ (List.mem_of_getElem? (i := 17) rfl)).1 ?_
  refine msegT C kL_36 18 4 (g := (true, 1188, [.ref 900300, .ref 0, .ref 187, .int i], [.int (i + (2 : Int32)), .ref 900300, .int (zX xs (i + (1 : Int32))), .ref 187, .int r], mk b S1)) rfl rfl ?_
  refine so_scr (ok' := true) C E hin2 (kL_36 _ (List.mem_of_getElem? (i := 22) rfl)).1 ?_
  refine mcall (kd := 0) (vs := [.ref 187, .int (zX xs (i + (1 : Int32))), .int (zX xs (i + (2 : Int32)))]) (rest := [.int r]) (r := (some (.int r))) (h' := mk b S2) (ok' := true) C lkRL_167 (qX12_knock h2) (kL_36 _ (List.mem_of_getElem? (i := 23) rfl)).1 ⟨_, _, rfl, rfl, (Nat.le_of_ble_eq_true rfl), _, _, rfl, rfl, rfl⟩ (Nat.le_of_ble_eq_true rfl) (Nat.le_of_ble_eq_true rfl) (Nat.le_refl _) (Nat.le_refl _) (Nat.le_of_ble_eq_true rfl) ?_
  refine msegT C kL_36 24 1 (g := (true, (if r = r then 1352 else 1195), [.ref 900300, .ref 0, .ref 187, .int i], [], mk b S2)) rfl rfl ?_
  rw [if_pos rfl]
  exact k
end ZL
def tL_37 : List mI := [(1197, .aload_n 1, 1, 0, 0), (1198, .aload_n 0, 1, 0, 0), (1199, .iload_n 3, 1, 0, 0), (1200, .iconst 1, 1, 0, 0), (1201, .iadd, 1, 0, 0), (1202, .iaload, 1, 0, 0), (1203, .aload_n 0, 1, 0, 0), (1204, .iload_n 3, 1, 0, 0), (1205, .iconst 2, 1, 0, 0), (1206, .iadd, 1, 0, 0), (1207, .iaload, 1, 0, 0), (1208, .invokevirtual 168, 3, 0, 0), (1211, .aload_n 2, 1, 0, 0), (1212, .aload_n 0, 1, 0, 0), (1213, .iload_n 3, 1, 0, 0), (1214, .iconst 1, 1, 0, 0), (1215, .iadd, 1, 0, 0), (1216, .iaload, 1, 0, 0), (1217, .aload_n 0, 1, 0, 0), (1218, .iload_n 3, 1, 0, 0), (1219, .iconst 2, 1, 0, 0), (1220, .iadd, 1, 0, 0), (1221, .iaload, 1, 0, 0), (1222, .invokevirtual 171, 3, 0, 0), (1225, .if_icmp .eq 127, 3, 0, 0), (1228, .iconst 0, 1, 0, 0), (1229, .ireturn, 1, 0, 0)]
set_option maxRecDepth 100000 in
theorem kL_37 : mTok cL_law RL 4 false tL_37 := mTok_of (by decide +kernel) ⟨trivial, trivial, trivial, trivial, trivial, trivial, trivial, trivial, trivial, trivial, trivial, trivial, trivial, trivial, trivial, trivial, trivial, trivial, trivial, trivial, trivial, trivial, trivial, trivial, trivial, trivial, trivial, trivial⟩
theorem z_tells {l : Launch} {b : Bool} {a1 a2 : Int32} {S S' : mT} {r : Int32} (h : fX11_tells b a1 a2 S = some (r, S')) : mMet l mX11_tells 21 [.ref 0, .int a1, .int a2] (mk b S) (some (.int r)) (mk b S') := by
  cases b
  · exact qX11_tells_f h
  · exact qX11_tells_t h
section ZL
variable {p : Program} {l : Launch} {e : Env} {s : State} {m : MethodId} {below : List Frame} {meth : Method} {c : Code} {G : mG} {b0 Ln : Nat} {xs : Nat → Int32} {Q : State → Prop}
theorem zc_tells (C : zC p s m meth c G b0) (E : zEn s G b0 Ln xs) {b : Bool} {S S1 S2 : mT} {i r : Int32} {ok : Bool} (hin1 : vp_in (i + (1 : Int32)) Ln) (hin2 : vp_in (i + (2 : Int32)) Ln) (h1 : fX11_tells b (zX xs (i + (1 : Int32))) (zX xs (i + (2 : Int32))) S = some (r, S1)) (h2 : fX12_tells (zX xs (i + (1 : Int32))) (zX xs (i + (2 : Int32))) S1 = some (r, S2)) (k : zW p l e s m below meth c G b0 Q (true, 1352, [.ref 900300, .ref 0, .ref 187, .int i], [], mk b S2)) : zW p l e s m below meth c G b0 Q (ok, 1197, [.ref 900300, .ref 0, .ref 187, .int i], [], mk b S) := by
  refine msegT C kL_37 0 5 (g := (true, 1202, [.ref 900300, .ref 0, .ref 187, .int i], [.int (i + (1 : Int32)), .ref 900300, .ref 0], mk b S)) rfl rfl ?_
  refine so_scr (ok' := true) C E hin1 (kL_37 _ (List.mem_of_getElem? (i := 5) rfl)).1 ?_
  refine msegT C kL_37 6 4 (g := (true, 1207, [.ref 900300, .ref 0, .ref 187, .int i], [.int (i + (2 : Int32)), .ref 900300, .int (zX xs (i + (1 : Int32))), .ref 0], mk b S)) rfl rfl ?_
  refine so_scr (ok' := true) C E hin2 (kL_37 _ (List.mem_of_getElem? (i := 10) rfl)).1 ?_
  refine mcall (kd := 0) (vs := [.ref 0, .int (zX xs (i + (1 : Int32))), .int (zX xs (i + (2 : Int32)))]) (rest := []) (r := (some (.int r))) (h' := mk b S1) (ok' := true) C lkRL_168 (z_tells h1) (kL_37 _ (List.mem_of_getElem? (i := 11) rfl)).1 ⟨_, _, rfl, rfl, (Nat.le_of_ble_eq_true rfl), _, _, rfl, rfl, rfl⟩ (Nat.le_of_ble_eq_true rfl) (Nat.le_of_ble_eq_true rfl) (Nat.le_refl _) (Nat.le_refl _) (Nat.le_of_ble_eq_true rfl) ?_
  refine msegT C kL_37 12 5 (g := (true, 1216, [.ref 900300, .ref 0, .ref 187, .int i], [.int (i + (1 : Int32)), .ref 900300, .ref 187, .int r], mk b S1)) rfl rfl ?_
  refine so_scr (ok' := true) C E hin1 (kL_37 _ (List.mem_of_getElem? (i := 17) rfl)).1 ?_
  refine msegT C kL_37 18 4 (g := (true, 1221, [.ref 900300, .ref 0, .ref 187, .int i], [.int (i + (2 : Int32)), .ref 900300, .int (zX xs (i + (1 : Int32))), .ref 187, .int r], mk b S1)) rfl rfl ?_
  refine so_scr (ok' := true) C E hin2 (kL_37 _ (List.mem_of_getElem? (i := 22) rfl)).1 ?_
  refine mcall (kd := 0) (vs := [.ref 187, .int (zX xs (i + (1 : Int32))), .int (zX xs (i + (2 : Int32)))]) (rest := [.int r]) (r := (some (.int r))) (h' := mk b S2) (ok' := true) C lkRL_171 (qX12_tells h2) (kL_37 _ (List.mem_of_getElem? (i := 23) rfl)).1 ⟨_, _, rfl, rfl, (Nat.le_of_ble_eq_true rfl), _, _, rfl, rfl, rfl⟩ (Nat.le_of_ble_eq_true rfl) (Nat.le_of_ble_eq_true rfl) (Nat.le_refl _) (Nat.le_refl _) (Nat.le_of_ble_eq_true rfl) ?_
  refine msegT C kL_37 24 1 (g := (true, (if r = r then 1352 else 1228), [.ref 900300, .ref 0, .ref 187, .int i], [], mk b S2)) rfl rfl ?_
  rw [if_pos rfl]
  exact k
end ZL
def tL_38 : List mI := [(1230, .aload_n 1, 1, 0, 0), (1231, .aload_n 0, 1, 0, 0), (1232, .iload_n 3, 1, 0, 0), (1233, .iconst 1, 1, 0, 0), (1234, .iadd, 1, 0, 0), (1235, .iaload, 1, 0, 0), (1236, .aload_n 0, 1, 0, 0), (1237, .iload_n 3, 1, 0, 0), (1238, .iconst 2, 1, 0, 0), (1239, .iadd, 1, 0, 0), (1240, .iaload, 1, 0, 0), (1241, .aload_n 0, 1, 0, 0), (1242, .iload_n 3, 1, 0, 0), (1243, .iconst 3, 1, 0, 0), (1244, .iadd, 1, 0, 0), (1245, .iaload, 1, 0, 0), (1246, .aload_n 0, 1, 0, 0), (1247, .iload_n 3, 1, 0, 0), (1248, .iconst 4, 1, 0, 0), (1249, .iadd, 1, 0, 0), (1250, .iaload, 1, 0, 0), (1251, .invokevirtual 172, 3, 0, 0), (1254, .aload_n 2, 1, 0, 0), (1255, .aload_n 0, 1, 0, 0), (1256, .iload_n 3, 1, 0, 0), (1257, .iconst 1, 1, 0, 0), (1258, .iadd, 1, 0, 0), (1259, .iaload, 1, 0, 0), (1260, .aload_n 0, 1, 0, 0), (1261, .iload_n 3, 1, 0, 0), (1262, .iconst 2, 1, 0, 0), (1263, .iadd, 1, 0, 0), (1264, .iaload, 1, 0, 0), (1265, .aload_n 0, 1, 0, 0), (1266, .iload_n 3, 1, 0, 0), (1267, .iconst 3, 1, 0, 0), (1268, .iadd, 1, 0, 0), (1269, .iaload, 1, 0, 0), (1270, .aload_n 0, 1, 0, 0), (1271, .iload_n 3, 1, 0, 0), (1272, .iconst 4, 1, 0, 0), (1273, .iadd, 1, 0, 0), (1274, .iaload, 1, 0, 0), (1275, .invokevirtual 176, 3, 0, 0), (1278, .if_icmp .eq 74, 3, 0, 0), (1281, .iconst 0, 1, 0, 0), (1282, .ireturn, 1, 0, 0)]
set_option maxRecDepth 100000 in
theorem kL_38 : mTok cL_law RL 4 false tL_38 := mTok_of (by decide +kernel) ⟨trivial, trivial, trivial, trivial, trivial, trivial, trivial, trivial, trivial, trivial, trivial, trivial, trivial, trivial, trivial, trivial, trivial, trivial, trivial, trivial, trivial, trivial, trivial, trivial, trivial, trivial, trivial, trivial, trivial, trivial, trivial, trivial, trivial, trivial, trivial, trivial, trivial, trivial, trivial, trivial, trivial, trivial, trivial, trivial, trivial, trivial, trivial, trivial⟩
theorem z_odds {l : Launch} {b : Bool} {a1 a2 a3 a4 : Int32} {S S' : mT} {r : Int32} (h : fX11_odds b a1 a2 a3 a4 S = some (r, S')) : mMet l mX11_odds 21 [.ref 0, .int a1, .int a2, .int a3, .int a4] (mk b S) (some (.int r)) (mk b S') := by
  cases b
  · exact qX11_odds_f h
  · exact qX11_odds_t h
section ZL
variable {p : Program} {l : Launch} {e : Env} {s : State} {m : MethodId} {below : List Frame} {meth : Method} {c : Code} {G : mG} {b0 Ln : Nat} {xs : Nat → Int32} {Q : State → Prop}
theorem zc_odds (C : zC p s m meth c G b0) (E : zEn s G b0 Ln xs) {b : Bool} {S S1 S2 : mT} {i r : Int32} {ok : Bool} (hin1 : vp_in (i + (1 : Int32)) Ln) (hin2 : vp_in (i + (2 : Int32)) Ln) (hin3 : vp_in (i + (3 : Int32)) Ln) (hin4 : vp_in (i + (4 : Int32)) Ln) (h1 : fX11_odds b (zX xs (i + (1 : Int32))) (zX xs (i + (2 : Int32))) (zX xs (i + (3 : Int32))) (zX xs (i + (4 : Int32))) S = some (r, S1)) (h2 : fX12_odds (zX xs (i + (1 : Int32))) (zX xs (i + (2 : Int32))) (zX xs (i + (3 : Int32))) (zX xs (i + (4 : Int32))) S1 = some (r, S2)) (k : zW p l e s m below meth c G b0 Q (true, 1352, [.ref 900300, .ref 0, .ref 187, .int i], [], mk b S2)) : zW p l e s m below meth c G b0 Q (ok, 1230, [.ref 900300, .ref 0, .ref 187, .int i], [], mk b S) := by
  refine msegT C kL_38 0 5 (g := (true, 1235, [.ref 900300, .ref 0, .ref 187, .int i], [.int (i + (1 : Int32)), .ref 900300, .ref 0], mk b S)) rfl rfl ?_
  refine so_scr (ok' := true) C E hin1 (kL_38 _ (List.mem_of_getElem? (i := 5) rfl)).1 ?_
  refine msegT C kL_38 6 4 (g := (true, 1240, [.ref 900300, .ref 0, .ref 187, .int i], [.int (i + (2 : Int32)), .ref 900300, .int (zX xs (i + (1 : Int32))), .ref 0], mk b S)) rfl rfl ?_
  refine so_scr (ok' := true) C E hin2 (kL_38 _ (List.mem_of_getElem? (i := 10) rfl)).1 ?_
  refine msegT C kL_38 11 4 (g := (true, 1245, [.ref 900300, .ref 0, .ref 187, .int i], [.int (i + (3 : Int32)), .ref 900300, .int (zX xs (i + (2 : Int32))), .int (zX xs (i + (1 : Int32))), .ref 0], mk b S)) rfl rfl ?_
  refine so_scr (ok' := true) C E hin3 (kL_38 _ (List.mem_of_getElem? (i := 15) rfl)).1 ?_
  refine msegT C kL_38 16 4 (g := (true, 1250, [.ref 900300, .ref 0, .ref 187, .int i], [.int (i + (4 : Int32)), .ref 900300, .int (zX xs (i + (3 : Int32))), .int (zX xs (i + (2 : Int32))), .int (zX xs (i + (1 : Int32))), .ref 0], mk b S)) rfl rfl ?_
  refine so_scr (ok' := true) C E hin4 (kL_38 _ (List.mem_of_getElem? (i := 20) rfl)).1 ?_
  refine mcall (kd := 0) (vs := [.ref 0, .int (zX xs (i + (1 : Int32))), .int (zX xs (i + (2 : Int32))), .int (zX xs (i + (3 : Int32))), .int (zX xs (i + (4 : Int32)))]) (rest := []) (r := (some (.int r))) (h' := mk b S1) (ok' := true) C lkRL_172 (z_odds h1) (kL_38 _ (List.mem_of_getElem? (i := 21) rfl)).1 ⟨_, _, rfl, rfl, (Nat.le_of_ble_eq_true rfl), _, _, rfl, rfl, rfl⟩ (Nat.le_of_ble_eq_true rfl) (Nat.le_of_ble_eq_true rfl) (Nat.le_refl _) (Nat.le_refl _) (Nat.le_of_ble_eq_true rfl) ?_
  refine msegT C kL_38 22 5 (g := (true, 1259, [.ref 900300, .ref 0, .ref 187, .int i], [.int (i + (1 : Int32)), .ref 900300, .ref 187, .int r], mk b S1)) rfl rfl ?_
  refine so_scr (ok' := true) C E hin1 (kL_38 _ (List.mem_of_getElem? (i := 27) rfl)).1 ?_
  refine msegT C kL_38 28 4 (g := (true, 1264, [.ref 900300, .ref 0, .ref 187, .int i], [.int (i + (2 : Int32)), .ref 900300, .int (zX xs (i + (1 : Int32))), .ref 187, .int r], mk b S1)) rfl rfl ?_
  refine so_scr (ok' := true) C E hin2 (kL_38 _ (List.mem_of_getElem? (i := 32) rfl)).1 ?_
  refine msegT C kL_38 33 4 (g := (true, 1269, [.ref 900300, .ref 0, .ref 187, .int i], [.int (i + (3 : Int32)), .ref 900300, .int (zX xs (i + (2 : Int32))), .int (zX xs (i + (1 : Int32))), .ref 187, .int r], mk b S1)) rfl rfl ?_
  refine so_scr (ok' := true) C E hin3 (kL_38 _ (List.mem_of_getElem? (i := 37) rfl)).1 ?_
  refine msegT C kL_38 38 4 (g := (true, 1274, [.ref 900300, .ref 0, .ref 187, .int i], [.int (i + (4 : Int32)), .ref 900300, .int (zX xs (i + (3 : Int32))), .int (zX xs (i + (2 : Int32))), .int (zX xs (i + (1 : Int32))), .ref 187, .int r], mk b S1)) rfl rfl ?_
  refine so_scr (ok' := true) C E hin4 (kL_38 _ (List.mem_of_getElem? (i := 42) rfl)).1 ?_
  refine mcall (kd := 0) (vs := [.ref 187, .int (zX xs (i + (1 : Int32))), .int (zX xs (i + (2 : Int32))), .int (zX xs (i + (3 : Int32))), .int (zX xs (i + (4 : Int32)))]) (rest := [.int r]) (r := (some (.int r))) (h' := mk b S2) (ok' := true) C lkRL_176 (qX12_odds h2) (kL_38 _ (List.mem_of_getElem? (i := 43) rfl)).1 ⟨_, _, rfl, rfl, (Nat.le_of_ble_eq_true rfl), _, _, rfl, rfl, rfl⟩ (Nat.le_of_ble_eq_true rfl) (Nat.le_of_ble_eq_true rfl) (Nat.le_refl _) (Nat.le_refl _) (Nat.le_of_ble_eq_true rfl) ?_
  refine msegT C kL_38 44 1 (g := (true, (if r = r then 1352 else 1281), [.ref 900300, .ref 0, .ref 187, .int i], [], mk b S2)) rfl rfl ?_
  rw [if_pos rfl]
  exact k
end ZL
def tL_39 : List mI := [(1283, .aload_n 1, 1, 0, 0), (1284, .aload_n 0, 1, 0, 0), (1285, .iload_n 3, 1, 0, 0), (1286, .iconst 1, 1, 0, 0), (1287, .iadd, 1, 0, 0), (1288, .iaload, 1, 0, 0), (1289, .invokevirtual 177, 3, 0, 0), (1292, .aload_n 2, 1, 0, 0), (1293, .aload_n 0, 1, 0, 0), (1294, .iload_n 3, 1, 0, 0), (1295, .iconst 1, 1, 0, 0), (1296, .iadd, 1, 0, 0), (1297, .iaload, 1, 0, 0), (1298, .invokevirtual 180, 3, 0, 0), (1301, .if_icmp .eq 51, 3, 0, 0), (1304, .iconst 0, 1, 0, 0), (1305, .ireturn, 1, 0, 0)]
set_option maxRecDepth 100000 in
theorem kL_39 : mTok cL_law RL 4 false tL_39 := mTok_of (by decide +kernel) ⟨trivial, trivial, trivial, trivial, trivial, trivial, trivial, trivial, trivial, trivial, trivial, trivial, trivial, trivial, trivial, trivial, trivial, trivial⟩
theorem z_image {l : Launch} {b : Bool} {a1 : Int32} {S S' : mT} {r : Int32} (h : fX11_image a1 S = some (r, S')) : mMet l mX11_image 2 [.ref 0, .int a1] (mk b S) (some (.int r)) (mk b S') := qX11_image h
section ZL
variable {p : Program} {l : Launch} {e : Env} {s : State} {m : MethodId} {below : List Frame} {meth : Method} {c : Code} {G : mG} {b0 Ln : Nat} {xs : Nat → Int32} {Q : State → Prop}
theorem zc_image (C : zC p s m meth c G b0) (E : zEn s G b0 Ln xs) {b : Bool} {S S1 S2 : mT} {i r : Int32} {ok : Bool} (hin1 : vp_in (i + (1 : Int32)) Ln) (h1 : fX11_image (zX xs (i + (1 : Int32))) S = some (r, S1)) (h2 : fX12_image (zX xs (i + (1 : Int32))) S1 = some (r, S2)) (k : zW p l e s m below meth c G b0 Q (true, 1352, [.ref 900300, .ref 0, .ref 187, .int i], [], mk b S2)) : zW p l e s m below meth c G b0 Q (ok, 1283, [.ref 900300, .ref 0, .ref 187, .int i], [], mk b S) := by
  refine msegT C kL_39 0 5 (g := (true, 1288, [.ref 900300, .ref 0, .ref 187, .int i], [.int (i + (1 : Int32)), .ref 900300, .ref 0], mk b S)) rfl rfl ?_
  refine so_scr (ok' := true) C E hin1 (kL_39 _ (List.mem_of_getElem? (i := 5) rfl)).1 ?_
  refine mcall (kd := 0) (vs := [.ref 0, .int (zX xs (i + (1 : Int32)))]) (rest := []) (r := (some (.int r))) (h' := mk b S1) (ok' := true) C lkRL_177 (z_image h1) (kL_39 _ (List.mem_of_getElem? (i := 6) rfl)).1 ⟨_, _, rfl, rfl, (Nat.le_of_ble_eq_true rfl), _, _, rfl, rfl, rfl⟩ (Nat.le_of_ble_eq_true rfl) (Nat.le_of_ble_eq_true rfl) (Nat.le_refl _) (Nat.le_refl _) (Nat.le_of_ble_eq_true rfl) ?_
  refine msegT C kL_39 7 5 (g := (true, 1297, [.ref 900300, .ref 0, .ref 187, .int i], [.int (i + (1 : Int32)), .ref 900300, .ref 187, .int r], mk b S1)) rfl rfl ?_
  refine so_scr (ok' := true) C E hin1 (kL_39 _ (List.mem_of_getElem? (i := 12) rfl)).1 ?_
  refine mcall (kd := 0) (vs := [.ref 187, .int (zX xs (i + (1 : Int32)))]) (rest := [.int r]) (r := (some (.int r))) (h' := mk b S2) (ok' := true) C lkRL_180 (qX12_image h2) (kL_39 _ (List.mem_of_getElem? (i := 13) rfl)).1 ⟨_, _, rfl, rfl, (Nat.le_of_ble_eq_true rfl), _, _, rfl, rfl, rfl⟩ (Nat.le_of_ble_eq_true rfl) (Nat.le_of_ble_eq_true rfl) (Nat.le_refl _) (Nat.le_refl _) (Nat.le_of_ble_eq_true rfl) ?_
  refine msegT C kL_39 14 1 (g := (true, (if r = r then 1352 else 1304), [.ref 900300, .ref 0, .ref 187, .int i], [], mk b S2)) rfl rfl ?_
  rw [if_pos rfl]
  exact k
end ZL
def tL_40 : List mI := [(1306, .aload_n 1, 1, 0, 0), (1307, .aload_n 0, 1, 0, 0), (1308, .iload_n 3, 1, 0, 0), (1309, .iconst 1, 1, 0, 0), (1310, .iadd, 1, 0, 0), (1311, .iaload, 1, 0, 0), (1312, .invokevirtual 181, 3, 0, 0), (1315, .aload_n 2, 1, 0, 0), (1316, .aload_n 0, 1, 0, 0), (1317, .iload_n 3, 1, 0, 0), (1318, .iconst 1, 1, 0, 0), (1319, .iadd, 1, 0, 0), (1320, .iaload, 1, 0, 0), (1321, .invokevirtual 184, 3, 0, 0), (1324, .if_icmp .eq 28, 3, 0, 0), (1327, .iconst 0, 1, 0, 0), (1328, .ireturn, 1, 0, 0)]
set_option maxRecDepth 100000 in
theorem kL_40 : mTok cL_law RL 4 false tL_40 := mTok_of (by decide +kernel) ⟨trivial, trivial, trivial, trivial, trivial, trivial, trivial, trivial, trivial, trivial, trivial, trivial, trivial, trivial, trivial, trivial, trivial, trivial⟩
theorem z_back {l : Launch} {b : Bool} {a1 : Int32} {S S' : mT} {r : Int32} (h : fX11_back a1 S = some (r, S')) : mMet l mX11_back 3 [.ref 0, .int a1] (mk b S) (some (.int r)) (mk b S') := qX11_back h
section ZL
variable {p : Program} {l : Launch} {e : Env} {s : State} {m : MethodId} {below : List Frame} {meth : Method} {c : Code} {G : mG} {b0 Ln : Nat} {xs : Nat → Int32} {Q : State → Prop}
theorem zc_back (C : zC p s m meth c G b0) (E : zEn s G b0 Ln xs) {b : Bool} {S S1 S2 : mT} {i r : Int32} {ok : Bool} (hin1 : vp_in (i + (1 : Int32)) Ln) (h1 : fX11_back (zX xs (i + (1 : Int32))) S = some (r, S1)) (h2 : fX12_back (zX xs (i + (1 : Int32))) S1 = some (r, S2)) (k : zW p l e s m below meth c G b0 Q (true, 1352, [.ref 900300, .ref 0, .ref 187, .int i], [], mk b S2)) : zW p l e s m below meth c G b0 Q (ok, 1306, [.ref 900300, .ref 0, .ref 187, .int i], [], mk b S) := by
  refine msegT C kL_40 0 5 (g := (true, 1311, [.ref 900300, .ref 0, .ref 187, .int i], [.int (i + (1 : Int32)), .ref 900300, .ref 0], mk b S)) rfl rfl ?_
  refine so_scr (ok' := true) C E hin1 (kL_40 _ (List.mem_of_getElem? (i := 5) rfl)).1 ?_
  refine mcall (kd := 0) (vs := [.ref 0, .int (zX xs (i + (1 : Int32)))]) (rest := []) (r := (some (.int r))) (h' := mk b S1) (ok' := true) C lkRL_181 (z_back h1) (kL_40 _ (List.mem_of_getElem? (i := 6) rfl)).1 ⟨_, _, rfl, rfl, (Nat.le_of_ble_eq_true rfl), _, _, rfl, rfl, rfl⟩ (Nat.le_of_ble_eq_true rfl) (Nat.le_of_ble_eq_true rfl) (Nat.le_refl _) (Nat.le_refl _) (Nat.le_of_ble_eq_true rfl) ?_
  refine msegT C kL_40 7 5 (g := (true, 1320, [.ref 900300, .ref 0, .ref 187, .int i], [.int (i + (1 : Int32)), .ref 900300, .ref 187, .int r], mk b S1)) rfl rfl ?_
  refine so_scr (ok' := true) C E hin1 (kL_40 _ (List.mem_of_getElem? (i := 12) rfl)).1 ?_
  refine mcall (kd := 0) (vs := [.ref 187, .int (zX xs (i + (1 : Int32)))]) (rest := [.int r]) (r := (some (.int r))) (h' := mk b S2) (ok' := true) C lkRL_184 (qX12_back h2) (kL_40 _ (List.mem_of_getElem? (i := 13) rfl)).1 ⟨_, _, rfl, rfl, (Nat.le_of_ble_eq_true rfl), _, _, rfl, rfl, rfl⟩ (Nat.le_of_ble_eq_true rfl) (Nat.le_of_ble_eq_true rfl) (Nat.le_refl _) (Nat.le_refl _) (Nat.le_of_ble_eq_true rfl) ?_
  refine msegT C kL_40 14 1 (g := (true, (if r = r then 1352 else 1327), [.ref 900300, .ref 0, .ref 187, .int i], [], mk b S2)) rfl rfl ?_
  rw [if_pos rfl]
  exact k
end ZL
def tL_41 : List mI := [(1329, .aload_n 1, 1, 0, 0), (1330, .aload_n 0, 1, 0, 0), (1331, .iload_n 3, 1, 0, 0), (1332, .iconst 1, 1, 0, 0), (1333, .iadd, 1, 0, 0), (1334, .iaload, 1, 0, 0), (1335, .invokevirtual 185, 3, 0, 0), (1338, .aload_n 2, 1, 0, 0), (1339, .aload_n 0, 1, 0, 0), (1340, .iload_n 3, 1, 0, 0), (1341, .iconst 1, 1, 0, 0), (1342, .iadd, 1, 0, 0), (1343, .iaload, 1, 0, 0), (1344, .invokevirtual 188, 3, 0, 0), (1347, .if_icmp .eq 5, 3, 0, 0), (1350, .iconst 0, 1, 0, 0), (1351, .ireturn, 1, 0, 0)]
set_option maxRecDepth 100000 in
theorem kL_41 : mTok cL_law RL 4 false tL_41 := mTok_of (by decide +kernel) ⟨trivial, trivial, trivial, trivial, trivial, trivial, trivial, trivial, trivial, trivial, trivial, trivial, trivial, trivial, trivial, trivial, trivial, trivial⟩
theorem z_about {l : Launch} {b : Bool} {a1 : Int32} {S S' : mT} {r : Int32} (h : fX11_about b a1 S = some (r, S')) : mMet l mX11_about 2 [.ref 0, .int a1] (mk b S) (some (.int r)) (mk b S') := by
  cases b
  · exact qX11_about_f h
  · exact qX11_about_t h
section ZL
variable {p : Program} {l : Launch} {e : Env} {s : State} {m : MethodId} {below : List Frame} {meth : Method} {c : Code} {G : mG} {b0 Ln : Nat} {xs : Nat → Int32} {Q : State → Prop}
theorem zc_about (C : zC p s m meth c G b0) (E : zEn s G b0 Ln xs) {b : Bool} {S S1 S2 : mT} {i r : Int32} {ok : Bool} (hin1 : vp_in (i + (1 : Int32)) Ln) (h1 : fX11_about b (zX xs (i + (1 : Int32))) S = some (r, S1)) (h2 : fX12_about (zX xs (i + (1 : Int32))) S1 = some (r, S2)) (k : zW p l e s m below meth c G b0 Q (true, 1352, [.ref 900300, .ref 0, .ref 187, .int i], [], mk b S2)) : zW p l e s m below meth c G b0 Q (ok, 1329, [.ref 900300, .ref 0, .ref 187, .int i], [], mk b S) := by
  refine msegT C kL_41 0 5 (g := (true, 1334, [.ref 900300, .ref 0, .ref 187, .int i], [.int (i + (1 : Int32)), .ref 900300, .ref 0], mk b S)) rfl rfl ?_
  refine so_scr (ok' := true) C E hin1 (kL_41 _ (List.mem_of_getElem? (i := 5) rfl)).1 ?_
  refine mcall (kd := 0) (vs := [.ref 0, .int (zX xs (i + (1 : Int32)))]) (rest := []) (r := (some (.int r))) (h' := mk b S1) (ok' := true) C lkRL_185 (z_about h1) (kL_41 _ (List.mem_of_getElem? (i := 6) rfl)).1 ⟨_, _, rfl, rfl, (Nat.le_of_ble_eq_true rfl), _, _, rfl, rfl, rfl⟩ (Nat.le_of_ble_eq_true rfl) (Nat.le_of_ble_eq_true rfl) (Nat.le_refl _) (Nat.le_refl _) (Nat.le_of_ble_eq_true rfl) ?_
  refine msegT C kL_41 7 5 (g := (true, 1343, [.ref 900300, .ref 0, .ref 187, .int i], [.int (i + (1 : Int32)), .ref 900300, .ref 187, .int r], mk b S1)) rfl rfl ?_
  refine so_scr (ok' := true) C E hin1 (kL_41 _ (List.mem_of_getElem? (i := 12) rfl)).1 ?_
  refine mcall (kd := 0) (vs := [.ref 187, .int (zX xs (i + (1 : Int32)))]) (rest := [.int r]) (r := (some (.int r))) (h' := mk b S2) (ok' := true) C lkRL_188 (qX12_about h2) (kL_41 _ (List.mem_of_getElem? (i := 13) rfl)).1 ⟨_, _, rfl, rfl, (Nat.le_of_ble_eq_true rfl), _, _, rfl, rfl, rfl⟩ (Nat.le_of_ble_eq_true rfl) (Nat.le_of_ble_eq_true rfl) (Nat.le_refl _) (Nat.le_refl _) (Nat.le_of_ble_eq_true rfl) ?_
  refine msegT C kL_41 14 1 (g := (true, (if r = r then 1352 else 1350), [.ref 900300, .ref 0, .ref 187, .int i], [], mk b S2)) rfl rfl ?_
  rw [if_pos rfl]
  exact k
end ZL
