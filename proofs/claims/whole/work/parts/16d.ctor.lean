/-! THE TWO CONSTRUCTORS. -/
def cZz (h : mHp) : Prop := (∀ a k, h.1 a k = 0) ∧ ∀ a k, h.2.1 a k = 0
def cZm (h : mHp) : Prop := (∀ a k, h.1 a k = if a = 187 ∧ k = 3 then -1 else 0) ∧ ∀ a k, h.2.1 a k = 0
theorem cUp {α : Type} {f : Nat → Nat → α} {z : α} {i : Nat} (h : ∀ a k, f a k = z) : ∀ a k, va_up f i (fun _ => z) a k = z := by
  intro a k
  unfold va_up
  by_cases c : a = i
  · rw [if_pos c]
  · rw [if_neg c]; exact h a k
theorem cZz_A {h : mHp} {ty : FieldType} {n : Nat} (z : cZz h) : cZz (newA h ty n) := ⟨cUp z.1, cUp z.2⟩
theorem cZz_O {h : mHp} {c n : Nat} (z : cZz h) : cZz (newO h c n) := ⟨cUp z.1, cUp z.2⟩
theorem cZz_M {h : mHp} {n k : Nat} (z : cZz h) : cZz (newM h n k) := by
  refine ⟨fun a j => ?_, fun a j => ?_⟩
  · show (if hN h ≤ a then (fun _ => 0) else h.1 a) j = 0
    by_cases c : hN h ≤ a
    · rw [if_pos c]
    · rw [if_neg c]; exact z.1 a j
  · show (if hN h ≤ a then (fun _ => 0) else h.2.1 a) j = 0
    by_cases c : hN h ≤ a
    · rw [if_pos c]
    · rw [if_neg c]; exact z.2 a j
theorem cZz_R {h : mHp} {r k v : Nat} (z : cZz h) : cZz (putR h r k v) := z
theorem cZm_R {h : mHp} {r k v : Nat} (z : cZm h) : cZm (putR h r k v) := z
theorem cZm_A {h : mHp} {ty : FieldType} {n : Nat} (c : ¬ hN h = 187) (z : cZm h) : cZm (newA h ty n) := by
  refine ⟨fun a k => ?_, cUp z.2⟩
  show va_up h.1 (hN h) (fun _ => 0) a k = _
  unfold va_up
  by_cases e : a = hN h
  · rw [if_pos e, if_neg (fun q => c (e.symm.trans q.1))]
  · rw [if_neg e]; exact z.1 a k
theorem cZm_I {h : mHp} (z : cZz h) : cZm (putI h 187 3 (-1)) := by
  refine ⟨fun a k => ?_, z.2⟩
  show up2 h.1 187 3 (-1) a k = _
  unfold up2 va_up
  by_cases e : a = 187
  · rw [if_pos e]
    by_cases f : k = 3
    · rw [if_pos f, if_pos ⟨e, f⟩]
    · rw [if_neg f, if_neg (fun q => f q.2)]; exact z.1 187 k
  · rw [if_neg e, if_neg (fun q => e q.1)]; exact z.1 a k
def cH_0 : mHp := (fun _ _ => 0, fun _ _ => 0, fun _ _ => NUL, fun _ => .inl 0, 0, 0)
theorem cZ_0 : cZz cH_0 := ⟨fun _ _ => rfl, fun _ _ => rfl⟩
def cH_1 : mHp := ((va_up cH_0.1 0 (fun _ => 0)), (va_up cH_0.2.1 0 (fun _ => 0)), (va_up cH_0.2.2.1 0 (fun _ => NUL)), (va_up cH_0.2.2.2.1 0 (.inl 11)), 1, 15)
theorem cZ_1 : cZz cH_1 := (cZz_O (h := cH_0) (c := 11) (n := 15) cZ_0)
def cH_2 : mHp := ((va_up cH_1.1 1 (fun _ => 0)), (va_up cH_1.2.1 1 (fun _ => 0)), (va_up cH_1.2.2.1 1 (fun _ => NUL)), (va_up cH_1.2.2.2.1 1 (.inl 4)), 2, 25)
theorem cZ_2 : cZz cH_2 := (cZz_O (h := cH_1) (c := 4) (n := 10) cZ_1)
def cH_3 : mHp := ((va_up cH_2.1 2 (fun _ => 0)), (va_up cH_2.2.1 2 (fun _ => 0)), (up2 (va_up cH_2.2.2.1 2 (fun _ => NUL)) 1 0 2), (va_up cH_2.2.2.2.1 2 (.inr (.byte, 1600))), 3, 1625)
theorem cZ_3 : cZz cH_3 := (cZz_R (h := (newA cH_2 .byte 1600)) (r := 1) (k := 0) (v := 2) (cZz_A (h := cH_2) (ty := .byte) (n := 1600) cZ_2))
theorem ci_0 {l : Launch} : mMet l mX4_init 1 [.ref 1] cH_2 none cH_3 := by
  refine mMet_of true (by decide) (fun _ => rfl) (Nat.le_of_ble_eq_true rfl) rfl (Nat.le_of_ble_eq_true rfl) (Nat.le_of_ble_eq_true rfl) (Nat.le_of_ble_eq_true rfl) (Nat.le_of_ble_eq_true rfl) (fun p e s m args below meth c G C hr hk => ?_)
  refine msegT C kX4_init 0 6 (g := (_, 13, [.ref 1], [], cH_3)) rfl (by decide +kernel) ?_
  exact mret_v C hr hk (kX4_init _ (List.mem_of_getElem? (i := 6) rfl)).1
def cH_4 : mHp := (cH_3.1, cH_3.2.1, (up2 cH_3.2.2.1 0 0 1), cH_3.2.2.2.1, 3, 1625)
theorem cZ_4 : cZz cH_4 := (cZz_R (h := cH_3) (r := 0) (k := 0) (v := 1) cZ_3)
def cH_5 : mHp := ((va_up cH_4.1 3 (fun _ => 0)), (va_up cH_4.2.1 3 (fun _ => 0)), (va_up cH_4.2.2.1 3 (fun _ => NUL)), (va_up cH_4.2.2.2.1 3 (.inl 8)), 4, 1637)
theorem cZ_5 : cZz cH_5 := (cZz_O (h := cH_4) (c := 8) (n := 12) cZ_4)
def cH_6 : mHp := ((va_up cH_5.1 4 (fun _ => 0)), (va_up cH_5.2.1 4 (fun _ => 0)), (up2 (va_up cH_5.2.2.1 4 (fun _ => NUL)) 3 0 4), (va_up cH_5.2.2.2.1 4 (.inr (.long, 5))), 5, 1642)
theorem cZ_6 : cZz cH_6 := (cZz_R (h := (newA cH_5 .long 5)) (r := 3) (k := 0) (v := 4) (cZz_A (h := cH_5) (ty := .long) (n := 5) cZ_5))
def cH_7 : mHp := ((va_up cH_6.1 5 (fun _ => 0)), (va_up cH_6.2.1 5 (fun _ => 0)), (up2 (va_up cH_6.2.2.1 5 (fun _ => NUL)) 3 1 5), (va_up cH_6.2.2.2.1 5 (.inr (.int, 5))), 6, 1647)
theorem cZ_7 : cZz cH_7 := (cZz_R (h := (newA cH_6 .int 5)) (r := 3) (k := 1) (v := 5) (cZz_A (h := cH_6) (ty := .int) (n := 5) cZ_6))
def cH_8 : mHp := ((va_up cH_7.1 6 (fun _ => 0)), (va_up cH_7.2.1 6 (fun _ => 0)), (up2 (va_up cH_7.2.2.1 6 (fun _ => NUL)) 3 2 6), (va_up cH_7.2.2.2.1 6 (.inr (.int, 5))), 7, 1652)
theorem cZ_8 : cZz cH_8 := (cZz_R (h := (newA cH_7 .int 5)) (r := 3) (k := 2) (v := 6) (cZz_A (h := cH_7) (ty := .int) (n := 5) cZ_7))
def cH_9 : mHp := ((va_up cH_8.1 7 (fun _ => 0)), (va_up cH_8.2.1 7 (fun _ => 0)), (up2 (va_up cH_8.2.2.1 7 (fun _ => NUL)) 3 3 7), (va_up cH_8.2.2.2.1 7 (.inr (.int, 5))), 8, 1657)
theorem cZ_9 : cZz cH_9 := (cZz_R (h := (newA cH_8 .int 5)) (r := 3) (k := 3) (v := 7) (cZz_A (h := cH_8) (ty := .int) (n := 5) cZ_8))
def cH_10 : mHp := ((va_up cH_9.1 8 (fun _ => 0)), (va_up cH_9.2.1 8 (fun _ => 0)), (up2 (va_up cH_9.2.2.1 8 (fun _ => NUL)) 3 4 8), (va_up cH_9.2.2.2.1 8 (.inr (.int, 5))), 9, 1662)
theorem cZ_10 : cZz cH_10 := (cZz_R (h := (newA cH_9 .int 5)) (r := 3) (k := 4) (v := 8) (cZz_A (h := cH_9) (ty := .int) (n := 5) cZ_9))
def cH_11 : mHp := ((va_up cH_10.1 9 (fun _ => 0)), (va_up cH_10.2.1 9 (fun _ => 0)), (va_up cH_10.2.2.1 9 (fun _ => NUL)), (va_up cH_10.2.2.2.1 9 (.inl 0)), 10, 1667)
theorem cZ_11 : cZz cH_11 := (cZz_O (h := cH_10) (c := 0) (n := 5) cZ_10)
def cH_12 : mHp := ((va_up cH_11.1 10 (fun _ => 0)), (va_up cH_11.2.1 10 (fun _ => 0)), (up2 (va_up cH_11.2.2.1 10 (fun _ => NUL)) 9 0 10), (va_up cH_11.2.2.2.1 10 (.inr (.int, 280))), 11, 1947)
theorem cZ_12 : cZz cH_12 := (cZz_R (h := (newA cH_11 .int 280)) (r := 9) (k := 0) (v := 10) (cZz_A (h := cH_11) (ty := .int) (n := 280) cZ_11))
def cH_13 : mHp := ((va_up cH_12.1 11 (fun _ => 0)), (va_up cH_12.2.1 11 (fun _ => 0)), (up2 (va_up cH_12.2.2.1 11 (fun _ => NUL)) 9 1 11), (va_up cH_12.2.2.2.1 11 (.inr (.int, 30))), 12, 1977)
theorem cZ_13 : cZz cH_13 := (cZz_R (h := (newA cH_12 .int 30)) (r := 9) (k := 1) (v := 11) (cZz_A (h := cH_12) (ty := .int) (n := 30) cZ_12))
theorem ci_1 {l : Launch} : mMet l mX0_init 1 [.ref 9] cH_11 none cH_13 := by
  refine mMet_of true (by decide) (fun _ => rfl) (Nat.le_of_ble_eq_true rfl) rfl (Nat.le_of_ble_eq_true rfl) (Nat.le_of_ble_eq_true rfl) (Nat.le_of_ble_eq_true rfl) (Nat.le_of_ble_eq_true rfl) (fun p e s m args below meth c G C hr hk => ?_)
  refine msegT C kX0_init 0 6 (g := (_, 13, [.ref 9], [], cH_12)) rfl (by decide +kernel) ?_
  refine msegT C kX0_init 6 4 (g := (_, 21, [.ref 9], [], cH_13)) rfl (by decide +kernel) ?_
  exact mret_v C hr hk (kX0_init _ (List.mem_of_getElem? (i := 10) rfl)).1
def cH_14 : mHp := (cH_13.1, cH_13.2.1, (up2 cH_13.2.2.1 3 5 9), cH_13.2.2.2.1, 12, 1977)
theorem cZ_14 : cZz cH_14 := (cZz_R (h := cH_13) (r := 3) (k := 5) (v := 9) cZ_13)
def cH_15 : mHp := ((va_up cH_14.1 12 (fun _ => 0)), (va_up cH_14.2.1 12 (fun _ => 0)), (va_up cH_14.2.2.1 12 (fun _ => NUL)), (va_up cH_14.2.2.2.1 12 (.inl 0)), 13, 1982)
theorem cZ_15 : cZz cH_15 := (cZz_O (h := cH_14) (c := 0) (n := 5) cZ_14)
def cH_16 : mHp := ((va_up cH_15.1 13 (fun _ => 0)), (va_up cH_15.2.1 13 (fun _ => 0)), (up2 (va_up cH_15.2.2.1 13 (fun _ => NUL)) 12 0 13), (va_up cH_15.2.2.2.1 13 (.inr (.int, 280))), 14, 2262)
theorem cZ_16 : cZz cH_16 := (cZz_R (h := (newA cH_15 .int 280)) (r := 12) (k := 0) (v := 13) (cZz_A (h := cH_15) (ty := .int) (n := 280) cZ_15))
def cH_17 : mHp := ((va_up cH_16.1 14 (fun _ => 0)), (va_up cH_16.2.1 14 (fun _ => 0)), (up2 (va_up cH_16.2.2.1 14 (fun _ => NUL)) 12 1 14), (va_up cH_16.2.2.2.1 14 (.inr (.int, 30))), 15, 2292)
theorem cZ_17 : cZz cH_17 := (cZz_R (h := (newA cH_16 .int 30)) (r := 12) (k := 1) (v := 14) (cZz_A (h := cH_16) (ty := .int) (n := 30) cZ_16))
theorem ci_2 {l : Launch} : mMet l mX0_init 1 [.ref 12] cH_15 none cH_17 := by
  refine mMet_of true (by decide) (fun _ => rfl) (Nat.le_of_ble_eq_true rfl) rfl (Nat.le_of_ble_eq_true rfl) (Nat.le_of_ble_eq_true rfl) (Nat.le_of_ble_eq_true rfl) (Nat.le_of_ble_eq_true rfl) (fun p e s m args below meth c G C hr hk => ?_)
  refine msegT C kX0_init 0 6 (g := (_, 13, [.ref 12], [], cH_16)) rfl (by decide +kernel) ?_
  refine msegT C kX0_init 6 4 (g := (_, 21, [.ref 12], [], cH_17)) rfl (by decide +kernel) ?_
  exact mret_v C hr hk (kX0_init _ (List.mem_of_getElem? (i := 10) rfl)).1
def cH_18 : mHp := (cH_17.1, cH_17.2.1, (up2 cH_17.2.2.1 3 6 12), cH_17.2.2.2.1, 15, 2292)
theorem cZ_18 : cZz cH_18 := (cZz_R (h := cH_17) (r := 3) (k := 6) (v := 12) cZ_17)
def cH_19 : mHp := ((va_up cH_18.1 15 (fun _ => 0)), (va_up cH_18.2.1 15 (fun _ => 0)), (va_up cH_18.2.2.1 15 (fun _ => NUL)), (va_up cH_18.2.2.2.1 15 (.inl 0)), 16, 2297)
theorem cZ_19 : cZz cH_19 := (cZz_O (h := cH_18) (c := 0) (n := 5) cZ_18)
def cH_20 : mHp := ((va_up cH_19.1 16 (fun _ => 0)), (va_up cH_19.2.1 16 (fun _ => 0)), (up2 (va_up cH_19.2.2.1 16 (fun _ => NUL)) 15 0 16), (va_up cH_19.2.2.2.1 16 (.inr (.int, 280))), 17, 2577)
theorem cZ_20 : cZz cH_20 := (cZz_R (h := (newA cH_19 .int 280)) (r := 15) (k := 0) (v := 16) (cZz_A (h := cH_19) (ty := .int) (n := 280) cZ_19))
def cH_21 : mHp := ((va_up cH_20.1 17 (fun _ => 0)), (va_up cH_20.2.1 17 (fun _ => 0)), (up2 (va_up cH_20.2.2.1 17 (fun _ => NUL)) 15 1 17), (va_up cH_20.2.2.2.1 17 (.inr (.int, 30))), 18, 2607)
theorem cZ_21 : cZz cH_21 := (cZz_R (h := (newA cH_20 .int 30)) (r := 15) (k := 1) (v := 17) (cZz_A (h := cH_20) (ty := .int) (n := 30) cZ_20))
theorem ci_3 {l : Launch} : mMet l mX0_init 1 [.ref 15] cH_19 none cH_21 := by
  refine mMet_of true (by decide) (fun _ => rfl) (Nat.le_of_ble_eq_true rfl) rfl (Nat.le_of_ble_eq_true rfl) (Nat.le_of_ble_eq_true rfl) (Nat.le_of_ble_eq_true rfl) (Nat.le_of_ble_eq_true rfl) (fun p e s m args below meth c G C hr hk => ?_)
  refine msegT C kX0_init 0 6 (g := (_, 13, [.ref 15], [], cH_20)) rfl (by decide +kernel) ?_
  refine msegT C kX0_init 6 4 (g := (_, 21, [.ref 15], [], cH_21)) rfl (by decide +kernel) ?_
  exact mret_v C hr hk (kX0_init _ (List.mem_of_getElem? (i := 10) rfl)).1
def cH_22 : mHp := (cH_21.1, cH_21.2.1, (up2 cH_21.2.2.1 3 7 15), cH_21.2.2.2.1, 18, 2607)
theorem cZ_22 : cZz cH_22 := (cZz_R (h := cH_21) (r := 3) (k := 7) (v := 15) cZ_21)
def cH_23 : mHp := ((va_up cH_22.1 18 (fun _ => 0)), (va_up cH_22.2.1 18 (fun _ => 0)), (up2 (va_up cH_22.2.2.1 18 (fun _ => NUL)) 3 8 18), (va_up cH_22.2.2.2.1 18 (.inr (.int, 6))), 19, 2613)
theorem cZ_23 : cZz cH_23 := (cZz_R (h := (newA cH_22 .int 6)) (r := 3) (k := 8) (v := 18) (cZz_A (h := cH_22) (ty := .int) (n := 6) cZ_22))
theorem ci_4 {l : Launch} : mMet l mX8_init 2 [.ref 3] cH_5 none cH_23 := by
  refine mMet_of true (by decide) (fun _ => rfl) (Nat.le_of_ble_eq_true rfl) rfl (Nat.le_of_ble_eq_true rfl) (Nat.le_of_ble_eq_true rfl) (Nat.le_of_ble_eq_true rfl) (Nat.le_of_ble_eq_true rfl) (fun p e s m args below meth c G C hr hk => ?_)
  refine msegT C kX8_init 0 6 (g := (_, 11, [.ref 3], [], cH_6)) rfl (by decide +kernel) ?_
  refine msegT C kX8_init 6 4 (g := (_, 18, [.ref 3], [], cH_7)) rfl (by decide +kernel) ?_
  refine msegT C kX8_init 10 4 (g := (_, 25, [.ref 3], [], cH_8)) rfl (by decide +kernel) ?_
  refine msegT C kX8_init 14 4 (g := (_, 32, [.ref 3], [], cH_9)) rfl (by decide +kernel) ?_
  refine msegT C kX8_init 18 4 (g := (_, 39, [.ref 3], [], cH_10)) rfl (by decide +kernel) ?_
  refine msegT C kX8_init 22 3 (g := (_, 44, [.ref 3], [.ref 9, .ref 9, .ref 3], cH_11)) rfl (by decide +kernel) ?_
  refine mcall (kd := 4) (vs := [.ref 9]) (rest := [.ref 9, .ref 3]) (r := none) (h' := cH_13) (ok' := true) C lkRX8_30 ci_1 (kX8_init _ (List.mem_of_getElem? (i := 25) rfl)).1 ⟨_, _, rfl, rfl, (Nat.le_of_ble_eq_true rfl)⟩ (Nat.le_of_ble_eq_true rfl) (Nat.le_of_ble_eq_true rfl) (Nat.le_of_ble_eq_true rfl) (Nat.le_of_ble_eq_true rfl) (Nat.le_of_ble_eq_true rfl) ?_
  refine msegT C kX8_init 26 1 (g := (_, 50, [.ref 3], [], cH_14)) rfl (by decide +kernel) ?_
  refine msegT C kX8_init 27 3 (g := (_, 55, [.ref 3], [.ref 12, .ref 12, .ref 3], cH_15)) rfl (by decide +kernel) ?_
  refine mcall (kd := 4) (vs := [.ref 12]) (rest := [.ref 12, .ref 3]) (r := none) (h' := cH_17) (ok' := true) C lkRX8_30 ci_2 (kX8_init _ (List.mem_of_getElem? (i := 30) rfl)).1 ⟨_, _, rfl, rfl, (Nat.le_of_ble_eq_true rfl)⟩ (Nat.le_of_ble_eq_true rfl) (Nat.le_of_ble_eq_true rfl) (Nat.le_of_ble_eq_true rfl) (Nat.le_of_ble_eq_true rfl) (Nat.le_of_ble_eq_true rfl) ?_
  refine msegT C kX8_init 31 1 (g := (_, 61, [.ref 3], [], cH_18)) rfl (by decide +kernel) ?_
  refine msegT C kX8_init 32 3 (g := (_, 66, [.ref 3], [.ref 15, .ref 15, .ref 3], cH_19)) rfl (by decide +kernel) ?_
  refine mcall (kd := 4) (vs := [.ref 15]) (rest := [.ref 15, .ref 3]) (r := none) (h' := cH_21) (ok' := true) C lkRX8_30 ci_3 (kX8_init _ (List.mem_of_getElem? (i := 35) rfl)).1 ⟨_, _, rfl, rfl, (Nat.le_of_ble_eq_true rfl)⟩ (Nat.le_of_ble_eq_true rfl) (Nat.le_of_ble_eq_true rfl) (Nat.le_of_ble_eq_true rfl) (Nat.le_of_ble_eq_true rfl) (Nat.le_of_ble_eq_true rfl) ?_
  refine msegT C kX8_init 36 1 (g := (_, 72, [.ref 3], [], cH_22)) rfl (by decide +kernel) ?_
  refine msegT C kX8_init 37 4 (g := (_, 80, [.ref 3], [], cH_23)) rfl (by decide +kernel) ?_
  exact mret_v C hr hk (kX8_init _ (List.mem_of_getElem? (i := 41) rfl)).1
def cH_24 : mHp := (cH_23.1, cH_23.2.1, (up2 cH_23.2.2.1 0 1 3), cH_23.2.2.2.1, 19, 2613)
theorem cZ_24 : cZz cH_24 := (cZz_R (h := cH_23) (r := 0) (k := 1) (v := 3) cZ_23)
def cH_25 : mHp := ((va_up cH_24.1 19 (fun _ => 0)), (va_up cH_24.2.1 19 (fun _ => 0)), (va_up cH_24.2.2.1 19 (fun _ => NUL)), (va_up cH_24.2.2.2.1 19 (.inl 8)), 20, 2625)
theorem cZ_25 : cZz cH_25 := (cZz_O (h := cH_24) (c := 8) (n := 12) cZ_24)
def cH_26 : mHp := ((va_up cH_25.1 20 (fun _ => 0)), (va_up cH_25.2.1 20 (fun _ => 0)), (up2 (va_up cH_25.2.2.1 20 (fun _ => NUL)) 19 0 20), (va_up cH_25.2.2.2.1 20 (.inr (.long, 5))), 21, 2630)
theorem cZ_26 : cZz cH_26 := (cZz_R (h := (newA cH_25 .long 5)) (r := 19) (k := 0) (v := 20) (cZz_A (h := cH_25) (ty := .long) (n := 5) cZ_25))
def cH_27 : mHp := ((va_up cH_26.1 21 (fun _ => 0)), (va_up cH_26.2.1 21 (fun _ => 0)), (up2 (va_up cH_26.2.2.1 21 (fun _ => NUL)) 19 1 21), (va_up cH_26.2.2.2.1 21 (.inr (.int, 5))), 22, 2635)
theorem cZ_27 : cZz cH_27 := (cZz_R (h := (newA cH_26 .int 5)) (r := 19) (k := 1) (v := 21) (cZz_A (h := cH_26) (ty := .int) (n := 5) cZ_26))
def cH_28 : mHp := ((va_up cH_27.1 22 (fun _ => 0)), (va_up cH_27.2.1 22 (fun _ => 0)), (up2 (va_up cH_27.2.2.1 22 (fun _ => NUL)) 19 2 22), (va_up cH_27.2.2.2.1 22 (.inr (.int, 5))), 23, 2640)
theorem cZ_28 : cZz cH_28 := (cZz_R (h := (newA cH_27 .int 5)) (r := 19) (k := 2) (v := 22) (cZz_A (h := cH_27) (ty := .int) (n := 5) cZ_27))
def cH_29 : mHp := ((va_up cH_28.1 23 (fun _ => 0)), (va_up cH_28.2.1 23 (fun _ => 0)), (up2 (va_up cH_28.2.2.1 23 (fun _ => NUL)) 19 3 23), (va_up cH_28.2.2.2.1 23 (.inr (.int, 5))), 24, 2645)
theorem cZ_29 : cZz cH_29 := (cZz_R (h := (newA cH_28 .int 5)) (r := 19) (k := 3) (v := 23) (cZz_A (h := cH_28) (ty := .int) (n := 5) cZ_28))
def cH_30 : mHp := ((va_up cH_29.1 24 (fun _ => 0)), (va_up cH_29.2.1 24 (fun _ => 0)), (up2 (va_up cH_29.2.2.1 24 (fun _ => NUL)) 19 4 24), (va_up cH_29.2.2.2.1 24 (.inr (.int, 5))), 25, 2650)
theorem cZ_30 : cZz cH_30 := (cZz_R (h := (newA cH_29 .int 5)) (r := 19) (k := 4) (v := 24) (cZz_A (h := cH_29) (ty := .int) (n := 5) cZ_29))
def cH_31 : mHp := ((va_up cH_30.1 25 (fun _ => 0)), (va_up cH_30.2.1 25 (fun _ => 0)), (va_up cH_30.2.2.1 25 (fun _ => NUL)), (va_up cH_30.2.2.2.1 25 (.inl 0)), 26, 2655)
theorem cZ_31 : cZz cH_31 := (cZz_O (h := cH_30) (c := 0) (n := 5) cZ_30)
def cH_32 : mHp := ((va_up cH_31.1 26 (fun _ => 0)), (va_up cH_31.2.1 26 (fun _ => 0)), (up2 (va_up cH_31.2.2.1 26 (fun _ => NUL)) 25 0 26), (va_up cH_31.2.2.2.1 26 (.inr (.int, 280))), 27, 2935)
theorem cZ_32 : cZz cH_32 := (cZz_R (h := (newA cH_31 .int 280)) (r := 25) (k := 0) (v := 26) (cZz_A (h := cH_31) (ty := .int) (n := 280) cZ_31))
def cH_33 : mHp := ((va_up cH_32.1 27 (fun _ => 0)), (va_up cH_32.2.1 27 (fun _ => 0)), (up2 (va_up cH_32.2.2.1 27 (fun _ => NUL)) 25 1 27), (va_up cH_32.2.2.2.1 27 (.inr (.int, 30))), 28, 2965)
theorem cZ_33 : cZz cH_33 := (cZz_R (h := (newA cH_32 .int 30)) (r := 25) (k := 1) (v := 27) (cZz_A (h := cH_32) (ty := .int) (n := 30) cZ_32))
theorem ci_5 {l : Launch} : mMet l mX0_init 1 [.ref 25] cH_31 none cH_33 := by
  refine mMet_of true (by decide) (fun _ => rfl) (Nat.le_of_ble_eq_true rfl) rfl (Nat.le_of_ble_eq_true rfl) (Nat.le_of_ble_eq_true rfl) (Nat.le_of_ble_eq_true rfl) (Nat.le_of_ble_eq_true rfl) (fun p e s m args below meth c G C hr hk => ?_)
  refine msegT C kX0_init 0 6 (g := (_, 13, [.ref 25], [], cH_32)) rfl (by decide +kernel) ?_
  refine msegT C kX0_init 6 4 (g := (_, 21, [.ref 25], [], cH_33)) rfl (by decide +kernel) ?_
  exact mret_v C hr hk (kX0_init _ (List.mem_of_getElem? (i := 10) rfl)).1
def cH_34 : mHp := (cH_33.1, cH_33.2.1, (up2 cH_33.2.2.1 19 5 25), cH_33.2.2.2.1, 28, 2965)
theorem cZ_34 : cZz cH_34 := (cZz_R (h := cH_33) (r := 19) (k := 5) (v := 25) cZ_33)
def cH_35 : mHp := ((va_up cH_34.1 28 (fun _ => 0)), (va_up cH_34.2.1 28 (fun _ => 0)), (va_up cH_34.2.2.1 28 (fun _ => NUL)), (va_up cH_34.2.2.2.1 28 (.inl 0)), 29, 2970)
theorem cZ_35 : cZz cH_35 := (cZz_O (h := cH_34) (c := 0) (n := 5) cZ_34)
def cH_36 : mHp := ((va_up cH_35.1 29 (fun _ => 0)), (va_up cH_35.2.1 29 (fun _ => 0)), (up2 (va_up cH_35.2.2.1 29 (fun _ => NUL)) 28 0 29), (va_up cH_35.2.2.2.1 29 (.inr (.int, 280))), 30, 3250)
theorem cZ_36 : cZz cH_36 := (cZz_R (h := (newA cH_35 .int 280)) (r := 28) (k := 0) (v := 29) (cZz_A (h := cH_35) (ty := .int) (n := 280) cZ_35))
def cH_37 : mHp := ((va_up cH_36.1 30 (fun _ => 0)), (va_up cH_36.2.1 30 (fun _ => 0)), (up2 (va_up cH_36.2.2.1 30 (fun _ => NUL)) 28 1 30), (va_up cH_36.2.2.2.1 30 (.inr (.int, 30))), 31, 3280)
theorem cZ_37 : cZz cH_37 := (cZz_R (h := (newA cH_36 .int 30)) (r := 28) (k := 1) (v := 30) (cZz_A (h := cH_36) (ty := .int) (n := 30) cZ_36))
theorem ci_6 {l : Launch} : mMet l mX0_init 1 [.ref 28] cH_35 none cH_37 := by
  refine mMet_of true (by decide) (fun _ => rfl) (Nat.le_of_ble_eq_true rfl) rfl (Nat.le_of_ble_eq_true rfl) (Nat.le_of_ble_eq_true rfl) (Nat.le_of_ble_eq_true rfl) (Nat.le_of_ble_eq_true rfl) (fun p e s m args below meth c G C hr hk => ?_)
  refine msegT C kX0_init 0 6 (g := (_, 13, [.ref 28], [], cH_36)) rfl (by decide +kernel) ?_
  refine msegT C kX0_init 6 4 (g := (_, 21, [.ref 28], [], cH_37)) rfl (by decide +kernel) ?_
  exact mret_v C hr hk (kX0_init _ (List.mem_of_getElem? (i := 10) rfl)).1
def cH_38 : mHp := (cH_37.1, cH_37.2.1, (up2 cH_37.2.2.1 19 6 28), cH_37.2.2.2.1, 31, 3280)
theorem cZ_38 : cZz cH_38 := (cZz_R (h := cH_37) (r := 19) (k := 6) (v := 28) cZ_37)
def cH_39 : mHp := ((va_up cH_38.1 31 (fun _ => 0)), (va_up cH_38.2.1 31 (fun _ => 0)), (va_up cH_38.2.2.1 31 (fun _ => NUL)), (va_up cH_38.2.2.2.1 31 (.inl 0)), 32, 3285)
theorem cZ_39 : cZz cH_39 := (cZz_O (h := cH_38) (c := 0) (n := 5) cZ_38)
def cH_40 : mHp := ((va_up cH_39.1 32 (fun _ => 0)), (va_up cH_39.2.1 32 (fun _ => 0)), (up2 (va_up cH_39.2.2.1 32 (fun _ => NUL)) 31 0 32), (va_up cH_39.2.2.2.1 32 (.inr (.int, 280))), 33, 3565)
theorem cZ_40 : cZz cH_40 := (cZz_R (h := (newA cH_39 .int 280)) (r := 31) (k := 0) (v := 32) (cZz_A (h := cH_39) (ty := .int) (n := 280) cZ_39))
def cH_41 : mHp := ((va_up cH_40.1 33 (fun _ => 0)), (va_up cH_40.2.1 33 (fun _ => 0)), (up2 (va_up cH_40.2.2.1 33 (fun _ => NUL)) 31 1 33), (va_up cH_40.2.2.2.1 33 (.inr (.int, 30))), 34, 3595)
theorem cZ_41 : cZz cH_41 := (cZz_R (h := (newA cH_40 .int 30)) (r := 31) (k := 1) (v := 33) (cZz_A (h := cH_40) (ty := .int) (n := 30) cZ_40))
theorem ci_7 {l : Launch} : mMet l mX0_init 1 [.ref 31] cH_39 none cH_41 := by
  refine mMet_of true (by decide) (fun _ => rfl) (Nat.le_of_ble_eq_true rfl) rfl (Nat.le_of_ble_eq_true rfl) (Nat.le_of_ble_eq_true rfl) (Nat.le_of_ble_eq_true rfl) (Nat.le_of_ble_eq_true rfl) (fun p e s m args below meth c G C hr hk => ?_)
  refine msegT C kX0_init 0 6 (g := (_, 13, [.ref 31], [], cH_40)) rfl (by decide +kernel) ?_
  refine msegT C kX0_init 6 4 (g := (_, 21, [.ref 31], [], cH_41)) rfl (by decide +kernel) ?_
  exact mret_v C hr hk (kX0_init _ (List.mem_of_getElem? (i := 10) rfl)).1
def cH_42 : mHp := (cH_41.1, cH_41.2.1, (up2 cH_41.2.2.1 19 7 31), cH_41.2.2.2.1, 34, 3595)
theorem cZ_42 : cZz cH_42 := (cZz_R (h := cH_41) (r := 19) (k := 7) (v := 31) cZ_41)
def cH_43 : mHp := ((va_up cH_42.1 34 (fun _ => 0)), (va_up cH_42.2.1 34 (fun _ => 0)), (up2 (va_up cH_42.2.2.1 34 (fun _ => NUL)) 19 8 34), (va_up cH_42.2.2.2.1 34 (.inr (.int, 6))), 35, 3601)
theorem cZ_43 : cZz cH_43 := (cZz_R (h := (newA cH_42 .int 6)) (r := 19) (k := 8) (v := 34) (cZz_A (h := cH_42) (ty := .int) (n := 6) cZ_42))
theorem ci_8 {l : Launch} : mMet l mX8_init 2 [.ref 19] cH_25 none cH_43 := by
  refine mMet_of true (by decide) (fun _ => rfl) (Nat.le_of_ble_eq_true rfl) rfl (Nat.le_of_ble_eq_true rfl) (Nat.le_of_ble_eq_true rfl) (Nat.le_of_ble_eq_true rfl) (Nat.le_of_ble_eq_true rfl) (fun p e s m args below meth c G C hr hk => ?_)
  refine msegT C kX8_init 0 6 (g := (_, 11, [.ref 19], [], cH_26)) rfl (by decide +kernel) ?_
  refine msegT C kX8_init 6 4 (g := (_, 18, [.ref 19], [], cH_27)) rfl (by decide +kernel) ?_
  refine msegT C kX8_init 10 4 (g := (_, 25, [.ref 19], [], cH_28)) rfl (by decide +kernel) ?_
  refine msegT C kX8_init 14 4 (g := (_, 32, [.ref 19], [], cH_29)) rfl (by decide +kernel) ?_
  refine msegT C kX8_init 18 4 (g := (_, 39, [.ref 19], [], cH_30)) rfl (by decide +kernel) ?_
  refine msegT C kX8_init 22 3 (g := (_, 44, [.ref 19], [.ref 25, .ref 25, .ref 19], cH_31)) rfl (by decide +kernel) ?_
  refine mcall (kd := 4) (vs := [.ref 25]) (rest := [.ref 25, .ref 19]) (r := none) (h' := cH_33) (ok' := true) C lkRX8_30 ci_5 (kX8_init _ (List.mem_of_getElem? (i := 25) rfl)).1 ⟨_, _, rfl, rfl, (Nat.le_of_ble_eq_true rfl)⟩ (Nat.le_of_ble_eq_true rfl) (Nat.le_of_ble_eq_true rfl) (Nat.le_of_ble_eq_true rfl) (Nat.le_of_ble_eq_true rfl) (Nat.le_of_ble_eq_true rfl) ?_
  refine msegT C kX8_init 26 1 (g := (_, 50, [.ref 19], [], cH_34)) rfl (by decide +kernel) ?_
  refine msegT C kX8_init 27 3 (g := (_, 55, [.ref 19], [.ref 28, .ref 28, .ref 19], cH_35)) rfl (by decide +kernel) ?_
  refine mcall (kd := 4) (vs := [.ref 28]) (rest := [.ref 28, .ref 19]) (r := none) (h' := cH_37) (ok' := true) C lkRX8_30 ci_6 (kX8_init _ (List.mem_of_getElem? (i := 30) rfl)).1 ⟨_, _, rfl, rfl, (Nat.le_of_ble_eq_true rfl)⟩ (Nat.le_of_ble_eq_true rfl) (Nat.le_of_ble_eq_true rfl) (Nat.le_of_ble_eq_true rfl) (Nat.le_of_ble_eq_true rfl) (Nat.le_of_ble_eq_true rfl) ?_
  refine msegT C kX8_init 31 1 (g := (_, 61, [.ref 19], [], cH_38)) rfl (by decide +kernel) ?_
  refine msegT C kX8_init 32 3 (g := (_, 66, [.ref 19], [.ref 31, .ref 31, .ref 19], cH_39)) rfl (by decide +kernel) ?_
  refine mcall (kd := 4) (vs := [.ref 31]) (rest := [.ref 31, .ref 19]) (r := none) (h' := cH_41) (ok' := true) C lkRX8_30 ci_7 (kX8_init _ (List.mem_of_getElem? (i := 35) rfl)).1 ⟨_, _, rfl, rfl, (Nat.le_of_ble_eq_true rfl)⟩ (Nat.le_of_ble_eq_true rfl) (Nat.le_of_ble_eq_true rfl) (Nat.le_of_ble_eq_true rfl) (Nat.le_of_ble_eq_true rfl) (Nat.le_of_ble_eq_true rfl) ?_
  refine msegT C kX8_init 36 1 (g := (_, 72, [.ref 19], [], cH_42)) rfl (by decide +kernel) ?_
  refine msegT C kX8_init 37 4 (g := (_, 80, [.ref 19], [], cH_43)) rfl (by decide +kernel) ?_
  exact mret_v C hr hk (kX8_init _ (List.mem_of_getElem? (i := 41) rfl)).1
def cH_44 : mHp := (cH_43.1, cH_43.2.1, (up2 cH_43.2.2.1 0 2 19), cH_43.2.2.2.1, 35, 3601)
theorem cZ_44 : cZz cH_44 := (cZz_R (h := cH_43) (r := 0) (k := 2) (v := 19) cZ_43)
def cH_45 : mHp := ((va_up cH_44.1 35 (fun _ => 0)), (va_up cH_44.2.1 35 (fun _ => 0)), (up2 (va_up cH_44.2.2.1 35 (fun _ => NUL)) 0 3 35), (va_up cH_44.2.2.2.1 35 (.inr (.int, 17))), 36, 3618)
theorem cZ_45 : cZz cH_45 := (cZz_R (h := (newA cH_44 .int 17)) (r := 0) (k := 3) (v := 35) (cZz_A (h := cH_44) (ty := .int) (n := 17) cZ_44))
def cH_46 : mHp := ((va_up cH_45.1 36 (fun _ => 0)), (va_up cH_45.2.1 36 (fun _ => 0)), (up2 (va_up cH_45.2.2.1 36 (fun _ => NUL)) 0 4 36), (va_up cH_45.2.2.2.1 36 (.inr (.int, 17))), 37, 3635)
theorem cZ_46 : cZz cH_46 := (cZz_R (h := (newA cH_45 .int 17)) (r := 0) (k := 4) (v := 36) (cZz_A (h := cH_45) (ty := .int) (n := 17) cZ_45))
def cH_47 : mHp := ((va_up cH_46.1 37 (fun _ => 0)), (va_up cH_46.2.1 37 (fun _ => 0)), (va_up cH_46.2.2.1 37 (fun _ => NUL)), (va_up cH_46.2.2.2.1 37 (.inl 2)), 38, 3641)
theorem cZ_47 : cZz cH_47 := (cZz_O (h := cH_46) (c := 2) (n := 6) cZ_46)
def cH_48 : mHp := ((fun a => if 38 ≤ a then (fun _ => 0) else cH_47.1 a), (fun a => if 38 ≤ a then (fun _ => 0) else cH_47.2.1 a), (up2 (fun a => if 38 ≤ a then (if a = 38 then (fun j => if j < 41 then 38 + 1 + j else NUL) else fun _ => NUL) else cH_47.2.2.1 a) 37 0 38), (fun a => if 38 ≤ a then (if a = 38 then .inr (.array .int, 41) else .inr (.int, 17)) else cH_47.2.2.2.1 a), 80, 4379)
theorem cZ_48 : cZz cH_48 := (cZz_R (h := (newM cH_47 41 17)) (r := 37) (k := 0) (v := 38) (cZz_M (h := cH_47) (n := 41) (k := 17) cZ_47))
def cH_49 : mHp := ((fun a => if 80 ≤ a then (fun _ => 0) else cH_48.1 a), (fun a => if 80 ≤ a then (fun _ => 0) else cH_48.2.1 a), (up2 (fun a => if 80 ≤ a then (if a = 80 then (fun j => if j < 3 then 80 + 1 + j else NUL) else fun _ => NUL) else cH_48.2.2.1 a) 37 1 80), (fun a => if 80 ≤ a then (if a = 80 then .inr (.array .int, 3) else .inr (.int, 17)) else cH_48.2.2.2.1 a), 84, 4433)
theorem cZ_49 : cZz cH_49 := (cZz_R (h := (newM cH_48 3 17)) (r := 37) (k := 1) (v := 80) (cZz_M (h := cH_48) (n := 3) (k := 17) cZ_48))
def cH_50 : mHp := ((va_up cH_49.1 84 (fun _ => 0)), (va_up cH_49.2.1 84 (fun _ => 0)), (up2 (va_up cH_49.2.2.1 84 (fun _ => NUL)) 37 2 84), (va_up cH_49.2.2.2.1 84 (.inr (.boolean, 3))), 85, 4436)
theorem cZ_50 : cZz cH_50 := (cZz_R (h := (newA cH_49 .boolean 3)) (r := 37) (k := 2) (v := 84) (cZz_A (h := cH_49) (ty := .boolean) (n := 3) cZ_49))
theorem ci_9 {l : Launch} : mMet l mX2_init 1 [.ref 37] cH_47 none cH_50 := by
  refine mMet_of true (by decide) (fun _ => rfl) (Nat.le_of_ble_eq_true rfl) rfl (Nat.le_of_ble_eq_true rfl) (Nat.le_of_ble_eq_true rfl) (Nat.le_of_ble_eq_true rfl) (Nat.le_of_ble_eq_true rfl) (fun p e s m args below meth c G C hr hk => ?_)
  refine msegT C kX2_init 0 7 (g := (_, 16, [.ref 37], [], cH_48)) rfl (by decide +kernel) ?_
  refine msegT C kX2_init 7 5 (g := (_, 27, [.ref 37], [], cH_49)) rfl (by decide +kernel) ?_
  refine msegT C kX2_init 12 4 (g := (_, 34, [.ref 37], [], cH_50)) rfl (by decide +kernel) ?_
  exact mret_v C hr hk (kX2_init _ (List.mem_of_getElem? (i := 16) rfl)).1
def cH_51 : mHp := (cH_50.1, cH_50.2.1, (up2 cH_50.2.2.1 0 5 37), cH_50.2.2.2.1, 85, 4436)
theorem cZ_51 : cZz cH_51 := (cZz_R (h := cH_50) (r := 0) (k := 5) (v := 37) cZ_50)
def cH_52 : mHp := ((va_up cH_51.1 85 (fun _ => 0)), (va_up cH_51.2.1 85 (fun _ => 0)), (va_up cH_51.2.2.1 85 (fun _ => NUL)), (va_up cH_51.2.2.2.1 85 (.inl 1)), 86, 4440)
theorem cZ_52 : cZz cH_52 := (cZz_O (h := cH_51) (c := 1) (n := 4) cZ_51)
def cH_53 : mHp := ((fun a => if 86 ≤ a then (fun _ => 0) else cH_52.1 a), (fun a => if 86 ≤ a then (fun _ => 0) else cH_52.2.1 a), (up2 (fun a => if 86 ≤ a then (if a = 86 then (fun j => if j < 5 then 86 + 1 + j else NUL) else fun _ => NUL) else cH_52.2.2.1 a) 85 0 86), (fun a => if 86 ≤ a then (if a = 86 then .inr (.array .int, 5) else .inr (.int, 8)) else cH_52.2.2.2.1 a), 92, 4485)
theorem cZ_53 : cZz cH_53 := (cZz_R (h := (newM cH_52 5 8)) (r := 85) (k := 0) (v := 86) (cZz_M (h := cH_52) (n := 5) (k := 8) cZ_52))
def cH_54 : mHp := ((fun a => if 92 ≤ a then (fun _ => 0) else cH_53.1 a), (fun a => if 92 ≤ a then (fun _ => 0) else cH_53.2.1 a), (up2 (fun a => if 92 ≤ a then (if a = 92 then (fun j => if j < 6 then 92 + 1 + j else NUL) else fun _ => NUL) else cH_53.2.2.1 a) 85 1 92), (fun a => if 92 ≤ a then (if a = 92 then .inr (.array .int, 6) else .inr (.int, 36)) else cH_53.2.2.2.1 a), 99, 4707)
theorem cZ_54 : cZz cH_54 := (cZz_R (h := (newM cH_53 6 36)) (r := 85) (k := 1) (v := 92) (cZz_M (h := cH_53) (n := 6) (k := 36) cZ_53))
def cH_55 : mHp := ((va_up cH_54.1 99 (fun _ => 0)), (va_up cH_54.2.1 99 (fun _ => 0)), (up2 (va_up cH_54.2.2.1 99 (fun _ => NUL)) 85 2 99), (va_up cH_54.2.2.2.1 99 (.inr (.int, 5))), 100, 4712)
theorem cZ_55 : cZz cH_55 := (cZz_R (h := (newA cH_54 .int 5)) (r := 85) (k := 2) (v := 99) (cZz_A (h := cH_54) (ty := .int) (n := 5) cZ_54))
theorem ci_10 {l : Launch} : mMet l mX1_init 1 [.ref 85] cH_52 none cH_55 := by
  refine mMet_of true (by decide) (fun _ => rfl) (Nat.le_of_ble_eq_true rfl) rfl (Nat.le_of_ble_eq_true rfl) (Nat.le_of_ble_eq_true rfl) (Nat.le_of_ble_eq_true rfl) (Nat.le_of_ble_eq_true rfl) (fun p e s m args below meth c G C hr hk => ?_)
  refine msegT C kX1_init 0 7 (g := (_, 15, [.ref 85], [], cH_53)) rfl (by decide +kernel) ?_
  refine msegT C kX1_init 7 5 (g := (_, 27, [.ref 85], [], cH_54)) rfl (by decide +kernel) ?_
  refine msegT C kX1_init 12 4 (g := (_, 34, [.ref 85], [], cH_55)) rfl (by decide +kernel) ?_
  exact mret_v C hr hk (kX1_init _ (List.mem_of_getElem? (i := 16) rfl)).1
def cH_56 : mHp := (cH_55.1, cH_55.2.1, (up2 cH_55.2.2.1 0 6 85), cH_55.2.2.2.1, 100, 4712)
theorem cZ_56 : cZz cH_56 := (cZz_R (h := cH_55) (r := 0) (k := 6) (v := 85) cZ_55)
def cH_57 : mHp := ((va_up cH_56.1 100 (fun _ => 0)), (va_up cH_56.2.1 100 (fun _ => 0)), (va_up cH_56.2.2.1 100 (fun _ => NUL)), (va_up cH_56.2.2.2.1 100 (.inl 6)), 101, 4721)
theorem cZ_57 : cZz cH_57 := (cZz_O (h := cH_56) (c := 6) (n := 9) cZ_56)
def cH_58 : mHp := ((va_up cH_57.1 101 (fun _ => 0)), (va_up cH_57.2.1 101 (fun _ => 0)), (up2 (va_up cH_57.2.2.1 101 (fun _ => NUL)) 100 0 101), (va_up cH_57.2.2.2.1 101 (.inr (.int, 5))), 102, 4726)
theorem cZ_58 : cZz cH_58 := (cZz_R (h := (newA cH_57 .int 5)) (r := 100) (k := 0) (v := 101) (cZz_A (h := cH_57) (ty := .int) (n := 5) cZ_57))
def cH_59 : mHp := ((va_up cH_58.1 102 (fun _ => 0)), (va_up cH_58.2.1 102 (fun _ => 0)), (up2 (va_up cH_58.2.2.1 102 (fun _ => NUL)) 100 1 102), (va_up cH_58.2.2.2.1 102 (.inr (.int, 5))), 103, 4731)
theorem cZ_59 : cZz cH_59 := (cZz_R (h := (newA cH_58 .int 5)) (r := 100) (k := 1) (v := 102) (cZz_A (h := cH_58) (ty := .int) (n := 5) cZ_58))
def cH_60 : mHp := ((va_up cH_59.1 103 (fun _ => 0)), (va_up cH_59.2.1 103 (fun _ => 0)), (up2 (va_up cH_59.2.2.1 103 (fun _ => NUL)) 100 2 103), (va_up cH_59.2.2.2.1 103 (.inr (.int, 5))), 104, 4736)
theorem cZ_60 : cZz cH_60 := (cZz_R (h := (newA cH_59 .int 5)) (r := 100) (k := 2) (v := 103) (cZz_A (h := cH_59) (ty := .int) (n := 5) cZ_59))
def cH_61 : mHp := ((va_up cH_60.1 104 (fun _ => 0)), (va_up cH_60.2.1 104 (fun _ => 0)), (up2 (va_up cH_60.2.2.1 104 (fun _ => NUL)) 100 3 104), (va_up cH_60.2.2.2.1 104 (.inr (.int, 5))), 105, 4741)
theorem cZ_61 : cZz cH_61 := (cZz_R (h := (newA cH_60 .int 5)) (r := 100) (k := 3) (v := 104) (cZz_A (h := cH_60) (ty := .int) (n := 5) cZ_60))
def cH_62 : mHp := ((va_up cH_61.1 105 (fun _ => 0)), (va_up cH_61.2.1 105 (fun _ => 0)), (up2 (va_up cH_61.2.2.1 105 (fun _ => NUL)) 100 4 105), (va_up cH_61.2.2.2.1 105 (.inr (.int, 5))), 106, 4746)
theorem cZ_62 : cZz cH_62 := (cZz_R (h := (newA cH_61 .int 5)) (r := 100) (k := 4) (v := 105) (cZz_A (h := cH_61) (ty := .int) (n := 5) cZ_61))
def cH_63 : mHp := ((va_up cH_62.1 106 (fun _ => 0)), (va_up cH_62.2.1 106 (fun _ => 0)), (up2 (va_up cH_62.2.2.1 106 (fun _ => NUL)) 100 5 106), (va_up cH_62.2.2.2.1 106 (.inr (.int, 5))), 107, 4751)
theorem cZ_63 : cZz cH_63 := (cZz_R (h := (newA cH_62 .int 5)) (r := 100) (k := 5) (v := 106) (cZz_A (h := cH_62) (ty := .int) (n := 5) cZ_62))
def cH_64 : mHp := ((va_up cH_63.1 107 (fun _ => 0)), (va_up cH_63.2.1 107 (fun _ => 0)), (up2 (va_up cH_63.2.2.1 107 (fun _ => NUL)) 100 6 107), (va_up cH_63.2.2.2.1 107 (.inr (.int, 32))), 108, 4783)
theorem cZ_64 : cZz cH_64 := (cZz_R (h := (newA cH_63 .int 32)) (r := 100) (k := 6) (v := 107) (cZz_A (h := cH_63) (ty := .int) (n := 32) cZ_63))
def cH_65 : mHp := ((va_up cH_64.1 108 (fun _ => 0)), (va_up cH_64.2.1 108 (fun _ => 0)), (up2 (va_up cH_64.2.2.1 108 (fun _ => NUL)) 100 7 108), (va_up cH_64.2.2.2.1 108 (.inr (.int, 8))), 109, 4791)
theorem cZ_65 : cZz cH_65 := (cZz_R (h := (newA cH_64 .int 8)) (r := 100) (k := 7) (v := 108) (cZz_A (h := cH_64) (ty := .int) (n := 8) cZ_64))
theorem ci_11 {l : Launch} : mMet l mX6_init 1 [.ref 100] cH_57 none cH_65 := by
  refine mMet_of true (by decide) (fun _ => rfl) (Nat.le_of_ble_eq_true rfl) rfl (Nat.le_of_ble_eq_true rfl) (Nat.le_of_ble_eq_true rfl) (Nat.le_of_ble_eq_true rfl) (Nat.le_of_ble_eq_true rfl) (fun p e s m args below meth c G C hr hk => ?_)
  refine msegT C kX6_init 0 6 (g := (_, 11, [.ref 100], [], cH_58)) rfl (by decide +kernel) ?_
  refine msegT C kX6_init 6 4 (g := (_, 18, [.ref 100], [], cH_59)) rfl (by decide +kernel) ?_
  refine msegT C kX6_init 10 4 (g := (_, 25, [.ref 100], [], cH_60)) rfl (by decide +kernel) ?_
  refine msegT C kX6_init 14 4 (g := (_, 32, [.ref 100], [], cH_61)) rfl (by decide +kernel) ?_
  refine msegT C kX6_init 18 4 (g := (_, 39, [.ref 100], [], cH_62)) rfl (by decide +kernel) ?_
  refine msegT C kX6_init 22 4 (g := (_, 46, [.ref 100], [], cH_63)) rfl (by decide +kernel) ?_
  refine msegT C kX6_init 26 4 (g := (_, 54, [.ref 100], [], cH_64)) rfl (by decide +kernel) ?_
  refine msegT C kX6_init 30 4 (g := (_, 62, [.ref 100], [], cH_65)) rfl (by decide +kernel) ?_
  exact mret_v C hr hk (kX6_init _ (List.mem_of_getElem? (i := 34) rfl)).1
def cH_66 : mHp := (cH_65.1, cH_65.2.1, (up2 cH_65.2.2.1 0 7 100), cH_65.2.2.2.1, 109, 4791)
theorem cZ_66 : cZz cH_66 := (cZz_R (h := cH_65) (r := 0) (k := 7) (v := 100) cZ_65)
def cH_67 : mHp := ((va_up cH_66.1 109 (fun _ => 0)), (va_up cH_66.2.1 109 (fun _ => 0)), (va_up cH_66.2.2.1 109 (fun _ => NUL)), (va_up cH_66.2.2.2.1 109 (.inl 7)), 110, 4796)
theorem cZ_67 : cZz cH_67 := (cZz_O (h := cH_66) (c := 7) (n := 5) cZ_66)
def cH_68 : mHp := ((va_up cH_67.1 110 (fun _ => 0)), (va_up cH_67.2.1 110 (fun _ => 0)), (up2 (va_up cH_67.2.2.1 110 (fun _ => NUL)) 109 0 110), (va_up cH_67.2.2.2.1 110 (.inr (.int, 5))), 111, 4801)
theorem cZ_68 : cZz cH_68 := (cZz_R (h := (newA cH_67 .int 5)) (r := 109) (k := 0) (v := 110) (cZz_A (h := cH_67) (ty := .int) (n := 5) cZ_67))
def cH_69 : mHp := ((va_up cH_68.1 111 (fun _ => 0)), (va_up cH_68.2.1 111 (fun _ => 0)), (up2 (va_up cH_68.2.2.1 111 (fun _ => NUL)) 109 1 111), (va_up cH_68.2.2.2.1 111 (.inr (.int, 5))), 112, 4806)
theorem cZ_69 : cZz cH_69 := (cZz_R (h := (newA cH_68 .int 5)) (r := 109) (k := 1) (v := 111) (cZz_A (h := cH_68) (ty := .int) (n := 5) cZ_68))
def cH_70 : mHp := ((va_up cH_69.1 112 (fun _ => 0)), (va_up cH_69.2.1 112 (fun _ => 0)), (up2 (va_up cH_69.2.2.1 112 (fun _ => NUL)) 109 2 112), (va_up cH_69.2.2.2.1 112 (.inr (.int, 5))), 113, 4811)
theorem cZ_70 : cZz cH_70 := (cZz_R (h := (newA cH_69 .int 5)) (r := 109) (k := 2) (v := 112) (cZz_A (h := cH_69) (ty := .int) (n := 5) cZ_69))
def cH_71 : mHp := ((va_up cH_70.1 113 (fun _ => 0)), (va_up cH_70.2.1 113 (fun _ => 0)), (up2 (va_up cH_70.2.2.1 113 (fun _ => NUL)) 109 3 113), (va_up cH_70.2.2.2.1 113 (.inr (.int, 5))), 114, 4816)
theorem cZ_71 : cZz cH_71 := (cZz_R (h := (newA cH_70 .int 5)) (r := 109) (k := 3) (v := 113) (cZz_A (h := cH_70) (ty := .int) (n := 5) cZ_70))
theorem ci_12 {l : Launch} : mMet l mX7_init 1 [.ref 109] cH_67 none cH_71 := by
  refine mMet_of true (by decide) (fun _ => rfl) (Nat.le_of_ble_eq_true rfl) rfl (Nat.le_of_ble_eq_true rfl) (Nat.le_of_ble_eq_true rfl) (Nat.le_of_ble_eq_true rfl) (Nat.le_of_ble_eq_true rfl) (fun p e s m args below meth c G C hr hk => ?_)
  refine msegT C kX7_init 0 6 (g := (_, 11, [.ref 109], [], cH_68)) rfl (by decide +kernel) ?_
  refine msegT C kX7_init 6 4 (g := (_, 18, [.ref 109], [], cH_69)) rfl (by decide +kernel) ?_
  refine msegT C kX7_init 10 4 (g := (_, 25, [.ref 109], [], cH_70)) rfl (by decide +kernel) ?_
  refine msegT C kX7_init 14 4 (g := (_, 32, [.ref 109], [], cH_71)) rfl (by decide +kernel) ?_
  exact mret_v C hr hk (kX7_init _ (List.mem_of_getElem? (i := 18) rfl)).1
def cH_72 : mHp := (cH_71.1, cH_71.2.1, (up2 cH_71.2.2.1 0 8 109), cH_71.2.2.2.1, 114, 4816)
theorem cZ_72 : cZz cH_72 := (cZz_R (h := cH_71) (r := 0) (k := 8) (v := 109) cZ_71)
def cH_73 : mHp := ((va_up cH_72.1 114 (fun _ => 0)), (va_up cH_72.2.1 114 (fun _ => 0)), (va_up cH_72.2.2.1 114 (fun _ => NUL)), (va_up cH_72.2.2.2.1 114 (.inl 5)), 115, 4822)
theorem cZ_73 : cZz cH_73 := (cZz_O (h := cH_72) (c := 5) (n := 6) cZ_72)
def cH_74 : mHp := ((va_up cH_73.1 115 (fun _ => 0)), (va_up cH_73.2.1 115 (fun _ => 0)), (up2 (va_up cH_73.2.2.1 115 (fun _ => NUL)) 114 0 115), (va_up cH_73.2.2.2.1 115 (.inr (.int, 30))), 116, 4852)
theorem cZ_74 : cZz cH_74 := (cZz_R (h := (newA cH_73 .int 30)) (r := 114) (k := 0) (v := 115) (cZz_A (h := cH_73) (ty := .int) (n := 30) cZ_73))
def cH_75 : mHp := ((va_up cH_74.1 116 (fun _ => 0)), (va_up cH_74.2.1 116 (fun _ => 0)), (up2 (va_up cH_74.2.2.1 116 (fun _ => NUL)) 114 1 116), (va_up cH_74.2.2.2.1 116 (.inr (.int, 30))), 117, 4882)
theorem cZ_75 : cZz cH_75 := (cZz_R (h := (newA cH_74 .int 30)) (r := 114) (k := 1) (v := 116) (cZz_A (h := cH_74) (ty := .int) (n := 30) cZ_74))
def cH_76 : mHp := ((va_up cH_75.1 117 (fun _ => 0)), (va_up cH_75.2.1 117 (fun _ => 0)), (up2 (va_up cH_75.2.2.1 117 (fun _ => NUL)) 114 2 117), (va_up cH_75.2.2.2.1 117 (.inr (.int, 30))), 118, 4912)
theorem cZ_76 : cZz cH_76 := (cZz_R (h := (newA cH_75 .int 30)) (r := 114) (k := 2) (v := 117) (cZz_A (h := cH_75) (ty := .int) (n := 30) cZ_75))
def cH_77 : mHp := ((va_up cH_76.1 118 (fun _ => 0)), (va_up cH_76.2.1 118 (fun _ => 0)), (up2 (va_up cH_76.2.2.1 118 (fun _ => NUL)) 114 3 118), (va_up cH_76.2.2.2.1 118 (.inr (.int, 30))), 119, 4942)
theorem cZ_77 : cZz cH_77 := (cZz_R (h := (newA cH_76 .int 30)) (r := 114) (k := 3) (v := 118) (cZz_A (h := cH_76) (ty := .int) (n := 30) cZ_76))
def cH_78 : mHp := ((va_up cH_77.1 119 (fun _ => 0)), (va_up cH_77.2.1 119 (fun _ => 0)), (up2 (va_up cH_77.2.2.1 119 (fun _ => NUL)) 114 4 119), (va_up cH_77.2.2.2.1 119 (.inr (.int, 30))), 120, 4972)
theorem cZ_78 : cZz cH_78 := (cZz_R (h := (newA cH_77 .int 30)) (r := 114) (k := 4) (v := 119) (cZz_A (h := cH_77) (ty := .int) (n := 30) cZ_77))
theorem ci_13 {l : Launch} : mMet l mX5_init 1 [.ref 114] cH_73 none cH_78 := by
  refine mMet_of true (by decide) (fun _ => rfl) (Nat.le_of_ble_eq_true rfl) rfl (Nat.le_of_ble_eq_true rfl) (Nat.le_of_ble_eq_true rfl) (Nat.le_of_ble_eq_true rfl) (Nat.le_of_ble_eq_true rfl) (fun p e s m args below meth c G C hr hk => ?_)
  refine msegT C kX5_init 0 6 (g := (_, 12, [.ref 114], [], cH_74)) rfl (by decide +kernel) ?_
  refine msegT C kX5_init 6 4 (g := (_, 20, [.ref 114], [], cH_75)) rfl (by decide +kernel) ?_
  refine msegT C kX5_init 10 4 (g := (_, 28, [.ref 114], [], cH_76)) rfl (by decide +kernel) ?_
  refine msegT C kX5_init 14 4 (g := (_, 36, [.ref 114], [], cH_77)) rfl (by decide +kernel) ?_
  refine msegT C kX5_init 18 4 (g := (_, 44, [.ref 114], [], cH_78)) rfl (by decide +kernel) ?_
  exact mret_v C hr hk (kX5_init _ (List.mem_of_getElem? (i := 22) rfl)).1
def cH_79 : mHp := (cH_78.1, cH_78.2.1, (up2 cH_78.2.2.1 0 9 114), cH_78.2.2.2.1, 120, 4972)
theorem cZ_79 : cZz cH_79 := (cZz_R (h := cH_78) (r := 0) (k := 9) (v := 114) cZ_78)
def cH_80 : mHp := ((va_up cH_79.1 120 (fun _ => 0)), (va_up cH_79.2.1 120 (fun _ => 0)), (va_up cH_79.2.2.1 120 (fun _ => NUL)), (va_up cH_79.2.2.2.1 120 (.inl 10)), 121, 4987)
theorem cZ_80 : cZz cH_80 := (cZz_O (h := cH_79) (c := 10) (n := 15) cZ_79)
def cH_81 : mHp := ((fun a => if 121 ≤ a then (fun _ => 0) else cH_80.1 a), (fun a => if 121 ≤ a then (fun _ => 0) else cH_80.2.1 a), (up2 (fun a => if 121 ≤ a then (if a = 121 then (fun j => if j < 5 then 121 + 1 + j else NUL) else fun _ => NUL) else cH_80.2.2.1 a) 120 0 121), (fun a => if 121 ≤ a then (if a = 121 then .inr (.array .int, 5) else .inr (.int, 8)) else cH_80.2.2.2.1 a), 127, 5032)
theorem cZ_81 : cZz cH_81 := (cZz_R (h := (newM cH_80 5 8)) (r := 120) (k := 0) (v := 121) (cZz_M (h := cH_80) (n := 5) (k := 8) cZ_80))
def cH_82 : mHp := ((va_up cH_81.1 127 (fun _ => 0)), (va_up cH_81.2.1 127 (fun _ => 0)), (up2 (va_up cH_81.2.2.1 127 (fun _ => NUL)) 120 1 127), (va_up cH_81.2.2.2.1 127 (.inr (.int, 32))), 128, 5064)
theorem cZ_82 : cZz cH_82 := (cZz_R (h := (newA cH_81 .int 32)) (r := 120) (k := 1) (v := 127) (cZz_A (h := cH_81) (ty := .int) (n := 32) cZ_81))
def cH_83 : mHp := ((va_up cH_82.1 128 (fun _ => 0)), (va_up cH_82.2.1 128 (fun _ => 0)), (up2 (va_up cH_82.2.2.1 128 (fun _ => NUL)) 120 2 128), (va_up cH_82.2.2.2.1 128 (.inr (.int, 32))), 129, 5096)
theorem cZ_83 : cZz cH_83 := (cZz_R (h := (newA cH_82 .int 32)) (r := 120) (k := 2) (v := 128) (cZz_A (h := cH_82) (ty := .int) (n := 32) cZ_82))
def cH_84 : mHp := ((va_up cH_83.1 129 (fun _ => 0)), (va_up cH_83.2.1 129 (fun _ => 0)), (va_up cH_83.2.2.1 129 (fun _ => NUL)), (va_up cH_83.2.2.2.1 129 (.inl 9)), 130, 5099)
theorem cZ_84 : cZz cH_84 := (cZz_O (h := cH_83) (c := 9) (n := 3) cZ_83)
def cH_85 : mHp := ((va_up cH_84.1 130 (fun _ => 0)), (va_up cH_84.2.1 130 (fun _ => 0)), (up2 (va_up cH_84.2.2.1 130 (fun _ => NUL)) 129 0 130), (va_up cH_84.2.2.2.1 130 (.inr (.int, 32))), 131, 5131)
theorem cZ_85 : cZz cH_85 := (cZz_R (h := (newA cH_84 .int 32)) (r := 129) (k := 0) (v := 130) (cZz_A (h := cH_84) (ty := .int) (n := 32) cZ_84))
def cH_86 : mHp := ((fun a => if 131 ≤ a then (fun _ => 0) else cH_85.1 a), (fun a => if 131 ≤ a then (fun _ => 0) else cH_85.2.1 a), (up2 (fun a => if 131 ≤ a then (if a = 131 then (fun j => if j < 5 then 131 + 1 + j else NUL) else fun _ => NUL) else cH_85.2.2.1 a) 129 1 131), (fun a => if 131 ≤ a then (if a = 131 then .inr (.array .int, 5) else .inr (.int, 16)) else cH_85.2.2.2.1 a), 137, 5216)
theorem cZ_86 : cZz cH_86 := (cZz_R (h := (newM cH_85 5 16)) (r := 129) (k := 1) (v := 131) (cZz_M (h := cH_85) (n := 5) (k := 16) cZ_85))
def cH_87 : mHp := ((va_up cH_86.1 137 (fun _ => 0)), (va_up cH_86.2.1 137 (fun _ => 0)), (up2 (va_up cH_86.2.2.1 137 (fun _ => NUL)) 129 2 137), (va_up cH_86.2.2.2.1 137 (.inr (.int, 5))), 138, 5221)
theorem cZ_87 : cZz cH_87 := (cZz_R (h := (newA cH_86 .int 5)) (r := 129) (k := 2) (v := 137) (cZz_A (h := cH_86) (ty := .int) (n := 5) cZ_86))
theorem ci_14 {l : Launch} : mMet l mX9_init 1 [.ref 129] cH_84 none cH_87 := by
  refine mMet_of true (by decide) (fun _ => rfl) (Nat.le_of_ble_eq_true rfl) rfl (Nat.le_of_ble_eq_true rfl) (Nat.le_of_ble_eq_true rfl) (Nat.le_of_ble_eq_true rfl) (Nat.le_of_ble_eq_true rfl) (fun p e s m args below meth c G C hr hk => ?_)
  refine msegT C kX9_init 0 6 (g := (_, 12, [.ref 129], [], cH_85)) rfl (by decide +kernel) ?_
  refine msegT C kX9_init 6 5 (g := (_, 23, [.ref 129], [], cH_86)) rfl (by decide +kernel) ?_
  refine msegT C kX9_init 11 4 (g := (_, 30, [.ref 129], [], cH_87)) rfl (by decide +kernel) ?_
  exact mret_v C hr hk (kX9_init _ (List.mem_of_getElem? (i := 15) rfl)).1
def cH_88 : mHp := (cH_87.1, cH_87.2.1, (up2 cH_87.2.2.1 120 3 129), cH_87.2.2.2.1, 138, 5221)
theorem cZ_88 : cZz cH_88 := (cZz_R (h := cH_87) (r := 120) (k := 3) (v := 129) cZ_87)
def cH_89 : mHp := ((va_up cH_88.1 138 (fun _ => 0)), (va_up cH_88.2.1 138 (fun _ => 0)), (up2 (va_up cH_88.2.2.1 138 (fun _ => NUL)) 120 4 138), (va_up cH_88.2.2.2.1 138 (.inr (.int, 4096))), 139, 9317)
theorem cZ_89 : cZz cH_89 := (cZz_R (h := (newA cH_88 .int 4096)) (r := 120) (k := 4) (v := 138) (cZz_A (h := cH_88) (ty := .int) (n := 4096) cZ_88))
def cH_90 : mHp := ((va_up cH_89.1 139 (fun _ => 0)), (va_up cH_89.2.1 139 (fun _ => 0)), (up2 (va_up cH_89.2.2.1 139 (fun _ => NUL)) 120 5 139), (va_up cH_89.2.2.2.1 139 (.inr (.int, 4096))), 140, 13413)
theorem cZ_90 : cZz cH_90 := (cZz_R (h := (newA cH_89 .int 4096)) (r := 120) (k := 5) (v := 139) (cZz_A (h := cH_89) (ty := .int) (n := 4096) cZ_89))
theorem ci_15 {l : Launch} : mMet l mX10_init 2 [.ref 120] cH_80 none cH_90 := by
  refine mMet_of true (by decide) (fun _ => rfl) (Nat.le_of_ble_eq_true rfl) rfl (Nat.le_of_ble_eq_true rfl) (Nat.le_of_ble_eq_true rfl) (Nat.le_of_ble_eq_true rfl) (Nat.le_of_ble_eq_true rfl) (fun p e s m args below meth c G C hr hk => ?_)
  refine msegT C kX10_init 0 7 (g := (_, 15, [.ref 120], [], cH_81)) rfl (by decide +kernel) ?_
  refine msegT C kX10_init 7 4 (g := (_, 23, [.ref 120], [], cH_82)) rfl (by decide +kernel) ?_
  refine msegT C kX10_init 11 4 (g := (_, 31, [.ref 120], [], cH_83)) rfl (by decide +kernel) ?_
  refine msegT C kX10_init 15 3 (g := (_, 36, [.ref 120], [.ref 129, .ref 129, .ref 120], cH_84)) rfl (by decide +kernel) ?_
  refine mcall (kd := 4) (vs := [.ref 129]) (rest := [.ref 129, .ref 120]) (r := none) (h' := cH_87) (ok' := true) C lkRX10_25 ci_14 (kX10_init _ (List.mem_of_getElem? (i := 18) rfl)).1 ⟨_, _, rfl, rfl, (Nat.le_of_ble_eq_true rfl)⟩ (Nat.le_of_ble_eq_true rfl) (Nat.le_of_ble_eq_true rfl) (Nat.le_of_ble_eq_true rfl) (Nat.le_of_ble_eq_true rfl) (Nat.le_of_ble_eq_true rfl) ?_
  refine msegT C kX10_init 19 1 (g := (_, 42, [.ref 120], [], cH_88)) rfl (by decide +kernel) ?_
  refine msegT C kX10_init 20 4 (g := (_, 51, [.ref 120], [], cH_89)) rfl (by decide +kernel) ?_
  refine msegT C kX10_init 24 4 (g := (_, 60, [.ref 120], [], cH_90)) rfl (by decide +kernel) ?_
  exact mret_v C hr hk (kX10_init _ (List.mem_of_getElem? (i := 28) rfl)).1
def cH_91 : mHp := (cH_90.1, cH_90.2.1, (up2 cH_90.2.2.1 0 10 120), cH_90.2.2.2.1, 140, 13413)
theorem cZ_91 : cZz cH_91 := (cZz_R (h := cH_90) (r := 0) (k := 10) (v := 120) cZ_90)
def cH_92 : mHp := ((va_up cH_91.1 140 (fun _ => 0)), (va_up cH_91.2.1 140 (fun _ => 0)), (va_up cH_91.2.2.1 140 (fun _ => NUL)), (va_up cH_91.2.2.2.1 140 (.inl 3)), 141, 13422)
theorem cZ_92 : cZz cH_92 := (cZz_O (h := cH_91) (c := 3) (n := 9) cZ_91)
def cH_93 : mHp := ((fun a => if 141 ≤ a then (fun _ => 0) else cH_92.1 a), (fun a => if 141 ≤ a then (fun _ => 0) else cH_92.2.1 a), (up2 (fun a => if 141 ≤ a then (if a = 141 then (fun j => if j < 32 then 141 + 1 + j else NUL) else fun _ => NUL) else cH_92.2.2.1 a) 140 0 141), (fun a => if 141 ≤ a then (if a = 141 then .inr (.array .int, 32) else .inr (.int, 36)) else cH_92.2.2.2.1 a), 174, 14606)
theorem cZ_93 : cZz cH_93 := (cZz_R (h := (newM cH_92 32 36)) (r := 140) (k := 0) (v := 141) (cZz_M (h := cH_92) (n := 32) (k := 36) cZ_92))
def cH_94 : mHp := ((va_up cH_93.1 174 (fun _ => 0)), (va_up cH_93.2.1 174 (fun _ => 0)), (va_up cH_93.2.2.1 174 (fun _ => NUL)), (va_up cH_93.2.2.2.1 174 (.inl 9)), 175, 14609)
theorem cZ_94 : cZz cH_94 := (cZz_O (h := cH_93) (c := 9) (n := 3) cZ_93)
def cH_95 : mHp := ((va_up cH_94.1 175 (fun _ => 0)), (va_up cH_94.2.1 175 (fun _ => 0)), (up2 (va_up cH_94.2.2.1 175 (fun _ => NUL)) 174 0 175), (va_up cH_94.2.2.2.1 175 (.inr (.int, 32))), 176, 14641)
theorem cZ_95 : cZz cH_95 := (cZz_R (h := (newA cH_94 .int 32)) (r := 174) (k := 0) (v := 175) (cZz_A (h := cH_94) (ty := .int) (n := 32) cZ_94))
def cH_96 : mHp := ((fun a => if 176 ≤ a then (fun _ => 0) else cH_95.1 a), (fun a => if 176 ≤ a then (fun _ => 0) else cH_95.2.1 a), (up2 (fun a => if 176 ≤ a then (if a = 176 then (fun j => if j < 5 then 176 + 1 + j else NUL) else fun _ => NUL) else cH_95.2.2.1 a) 174 1 176), (fun a => if 176 ≤ a then (if a = 176 then .inr (.array .int, 5) else .inr (.int, 16)) else cH_95.2.2.2.1 a), 182, 14726)
theorem cZ_96 : cZz cH_96 := (cZz_R (h := (newM cH_95 5 16)) (r := 174) (k := 1) (v := 176) (cZz_M (h := cH_95) (n := 5) (k := 16) cZ_95))
def cH_97 : mHp := ((va_up cH_96.1 182 (fun _ => 0)), (va_up cH_96.2.1 182 (fun _ => 0)), (up2 (va_up cH_96.2.2.1 182 (fun _ => NUL)) 174 2 182), (va_up cH_96.2.2.2.1 182 (.inr (.int, 5))), 183, 14731)
theorem cZ_97 : cZz cH_97 := (cZz_R (h := (newA cH_96 .int 5)) (r := 174) (k := 2) (v := 182) (cZz_A (h := cH_96) (ty := .int) (n := 5) cZ_96))
theorem ci_16 {l : Launch} : mMet l mX9_init 1 [.ref 174] cH_94 none cH_97 := by
  refine mMet_of true (by decide) (fun _ => rfl) (Nat.le_of_ble_eq_true rfl) rfl (Nat.le_of_ble_eq_true rfl) (Nat.le_of_ble_eq_true rfl) (Nat.le_of_ble_eq_true rfl) (Nat.le_of_ble_eq_true rfl) (fun p e s m args below meth c G C hr hk => ?_)
  refine msegT C kX9_init 0 6 (g := (_, 12, [.ref 174], [], cH_95)) rfl (by decide +kernel) ?_
  refine msegT C kX9_init 6 5 (g := (_, 23, [.ref 174], [], cH_96)) rfl (by decide +kernel) ?_
  refine msegT C kX9_init 11 4 (g := (_, 30, [.ref 174], [], cH_97)) rfl (by decide +kernel) ?_
  exact mret_v C hr hk (kX9_init _ (List.mem_of_getElem? (i := 15) rfl)).1
def cH_98 : mHp := (cH_97.1, cH_97.2.1, (up2 cH_97.2.2.1 140 1 174), cH_97.2.2.2.1, 183, 14731)
theorem cZ_98 : cZz cH_98 := (cZz_R (h := cH_97) (r := 140) (k := 1) (v := 174) cZ_97)
def cH_99 : mHp := ((va_up cH_98.1 183 (fun _ => 0)), (va_up cH_98.2.1 183 (fun _ => 0)), (up2 (va_up cH_98.2.2.1 183 (fun _ => NUL)) 140 2 183), (va_up cH_98.2.2.2.1 183 (.inr (.int, 6))), 184, 14737)
theorem cZ_99 : cZz cH_99 := (cZz_R (h := (newA cH_98 .int 6)) (r := 140) (k := 2) (v := 183) (cZz_A (h := cH_98) (ty := .int) (n := 6) cZ_98))
def cH_100 : mHp := ((va_up cH_99.1 184 (fun _ => 0)), (va_up cH_99.2.1 184 (fun _ => 0)), (up2 (va_up cH_99.2.2.1 184 (fun _ => NUL)) 140 3 184), (va_up cH_99.2.2.2.1 184 (.inr (.int, 5))), 185, 14742)
theorem cZ_100 : cZz cH_100 := (cZz_R (h := (newA cH_99 .int 5)) (r := 140) (k := 3) (v := 184) (cZz_A (h := cH_99) (ty := .int) (n := 5) cZ_99))
def cH_101 : mHp := ((va_up cH_100.1 185 (fun _ => 0)), (va_up cH_100.2.1 185 (fun _ => 0)), (up2 (va_up cH_100.2.2.1 185 (fun _ => NUL)) 140 4 185), (va_up cH_100.2.2.2.1 185 (.inr (.int, 5))), 186, 14747)
theorem cZ_101 : cZz cH_101 := (cZz_R (h := (newA cH_100 .int 5)) (r := 140) (k := 4) (v := 185) (cZz_A (h := cH_100) (ty := .int) (n := 5) cZ_100))
theorem ci_17 {l : Launch} : mMet l mX3_init 2 [.ref 140] cH_92 none cH_101 := by
  refine mMet_of true (by decide) (fun _ => rfl) (Nat.le_of_ble_eq_true rfl) rfl (Nat.le_of_ble_eq_true rfl) (Nat.le_of_ble_eq_true rfl) (Nat.le_of_ble_eq_true rfl) (Nat.le_of_ble_eq_true rfl) (fun p e s m args below meth c G C hr hk => ?_)
  refine msegT C kX3_init 0 7 (g := (_, 16, [.ref 140], [], cH_93)) rfl (by decide +kernel) ?_
  refine msegT C kX3_init 7 3 (g := (_, 21, [.ref 140], [.ref 174, .ref 174, .ref 140], cH_94)) rfl (by decide +kernel) ?_
  refine mcall (kd := 4) (vs := [.ref 174]) (rest := [.ref 174, .ref 140]) (r := none) (h' := cH_97) (ok' := true) C lkRX3_18 ci_16 (kX3_init _ (List.mem_of_getElem? (i := 10) rfl)).1 ⟨_, _, rfl, rfl, (Nat.le_of_ble_eq_true rfl)⟩ (Nat.le_of_ble_eq_true rfl) (Nat.le_of_ble_eq_true rfl) (Nat.le_of_ble_eq_true rfl) (Nat.le_of_ble_eq_true rfl) (Nat.le_of_ble_eq_true rfl) ?_
  refine msegT C kX3_init 11 1 (g := (_, 27, [.ref 140], [], cH_98)) rfl (by decide +kernel) ?_
  refine msegT C kX3_init 12 4 (g := (_, 35, [.ref 140], [], cH_99)) rfl (by decide +kernel) ?_
  refine msegT C kX3_init 16 4 (g := (_, 42, [.ref 140], [], cH_100)) rfl (by decide +kernel) ?_
  refine msegT C kX3_init 20 4 (g := (_, 49, [.ref 140], [], cH_101)) rfl (by decide +kernel) ?_
  exact mret_v C hr hk (kX3_init _ (List.mem_of_getElem? (i := 24) rfl)).1
def cH_102 : mHp := (cH_101.1, cH_101.2.1, (up2 cH_101.2.2.1 0 11 140), cH_101.2.2.2.1, 186, 14747)
theorem cZ_102 : cZz cH_102 := (cZz_R (h := cH_101) (r := 0) (k := 11) (v := 140) cZ_101)
def cH_103 : mHp := ((va_up cH_102.1 186 (fun _ => 0)), (va_up cH_102.2.1 186 (fun _ => 0)), (up2 (va_up cH_102.2.2.1 186 (fun _ => NUL)) 0 12 186), (va_up cH_102.2.2.2.1 186 (.inr (.int, 8))), 187, 14755)
theorem cZ_103 : cZz cH_103 := (cZz_R (h := (newA cH_102 .int 8)) (r := 0) (k := 12) (v := 186) (cZz_A (h := cH_102) (ty := .int) (n := 8) cZ_102))
theorem ci_18 {l : Launch} : mMet l mX11_init 3 [.ref 0] cH_1 none cH_103 := by
  refine mMet_of true (by decide) (fun _ => rfl) (Nat.le_of_ble_eq_true rfl) rfl (Nat.le_of_ble_eq_true rfl) (Nat.le_of_ble_eq_true rfl) (Nat.le_of_ble_eq_true rfl) (Nat.le_of_ble_eq_true rfl) (fun p e s m args below meth c G C hr hk => ?_)
  refine msegT C kX11_init 0 5 (g := (_, 9, [.ref 0], [.ref 1, .ref 1, .ref 0], cH_2)) rfl (by decide +kernel) ?_
  refine mcall (kd := 4) (vs := [.ref 1]) (rest := [.ref 1, .ref 0]) (r := none) (h' := cH_3) (ok' := true) C lkRX11_9 ci_0 (kX11_init _ (List.mem_of_getElem? (i := 5) rfl)).1 ⟨_, _, rfl, rfl, (Nat.le_of_ble_eq_true rfl)⟩ (Nat.le_of_ble_eq_true rfl) (Nat.le_of_ble_eq_true rfl) (Nat.le_of_ble_eq_true rfl) (Nat.le_of_ble_eq_true rfl) (Nat.le_of_ble_eq_true rfl) ?_
  refine msegT C kX11_init 6 1 (g := (_, 15, [.ref 0], [], cH_4)) rfl (by decide +kernel) ?_
  refine msegT C kX11_init 7 3 (g := (_, 20, [.ref 0], [.ref 3, .ref 3, .ref 0], cH_5)) rfl (by decide +kernel) ?_
  refine mcall (kd := 4) (vs := [.ref 3]) (rest := [.ref 3, .ref 0]) (r := none) (h' := cH_23) (ok' := true) C lkRX11_18 ci_4 (kX11_init _ (List.mem_of_getElem? (i := 10) rfl)).1 ⟨_, _, rfl, rfl, (Nat.le_of_ble_eq_true rfl)⟩ (Nat.le_of_ble_eq_true rfl) (Nat.le_of_ble_eq_true rfl) (Nat.le_of_ble_eq_true rfl) (Nat.le_of_ble_eq_true rfl) (Nat.le_of_ble_eq_true rfl) ?_
  refine msegT C kX11_init 11 1 (g := (_, 26, [.ref 0], [], cH_24)) rfl (by decide +kernel) ?_
  refine msegT C kX11_init 12 3 (g := (_, 31, [.ref 0], [.ref 19, .ref 19, .ref 0], cH_25)) rfl (by decide +kernel) ?_
  refine mcall (kd := 4) (vs := [.ref 19]) (rest := [.ref 19, .ref 0]) (r := none) (h' := cH_43) (ok' := true) C lkRX11_18 ci_8 (kX11_init _ (List.mem_of_getElem? (i := 15) rfl)).1 ⟨_, _, rfl, rfl, (Nat.le_of_ble_eq_true rfl)⟩ (Nat.le_of_ble_eq_true rfl) (Nat.le_of_ble_eq_true rfl) (Nat.le_of_ble_eq_true rfl) (Nat.le_of_ble_eq_true rfl) (Nat.le_of_ble_eq_true rfl) ?_
  refine msegT C kX11_init 16 1 (g := (_, 37, [.ref 0], [], cH_44)) rfl (by decide +kernel) ?_
  refine msegT C kX11_init 17 4 (g := (_, 45, [.ref 0], [], cH_45)) rfl (by decide +kernel) ?_
  refine msegT C kX11_init 21 4 (g := (_, 53, [.ref 0], [], cH_46)) rfl (by decide +kernel) ?_
  refine msegT C kX11_init 25 3 (g := (_, 58, [.ref 0], [.ref 37, .ref 37, .ref 0], cH_47)) rfl (by decide +kernel) ?_
  refine mcall (kd := 4) (vs := [.ref 37]) (rest := [.ref 37, .ref 0]) (r := none) (h' := cH_50) (ok' := true) C lkRX11_35 ci_9 (kX11_init _ (List.mem_of_getElem? (i := 28) rfl)).1 ⟨_, _, rfl, rfl, (Nat.le_of_ble_eq_true rfl)⟩ (Nat.le_of_ble_eq_true rfl) (Nat.le_of_ble_eq_true rfl) (Nat.le_of_ble_eq_true rfl) (Nat.le_of_ble_eq_true rfl) (Nat.le_of_ble_eq_true rfl) ?_
  refine msegT C kX11_init 29 1 (g := (_, 64, [.ref 0], [], cH_51)) rfl (by decide +kernel) ?_
  refine msegT C kX11_init 30 3 (g := (_, 69, [.ref 0], [.ref 85, .ref 85, .ref 0], cH_52)) rfl (by decide +kernel) ?_
  refine mcall (kd := 4) (vs := [.ref 85]) (rest := [.ref 85, .ref 0]) (r := none) (h' := cH_55) (ok' := true) C lkRX11_42 ci_10 (kX11_init _ (List.mem_of_getElem? (i := 33) rfl)).1 ⟨_, _, rfl, rfl, (Nat.le_of_ble_eq_true rfl)⟩ (Nat.le_of_ble_eq_true rfl) (Nat.le_of_ble_eq_true rfl) (Nat.le_of_ble_eq_true rfl) (Nat.le_of_ble_eq_true rfl) (Nat.le_of_ble_eq_true rfl) ?_
  refine msegT C kX11_init 34 1 (g := (_, 75, [.ref 0], [], cH_56)) rfl (by decide +kernel) ?_
  refine msegT C kX11_init 35 3 (g := (_, 80, [.ref 0], [.ref 100, .ref 100, .ref 0], cH_57)) rfl (by decide +kernel) ?_
  refine mcall (kd := 4) (vs := [.ref 100]) (rest := [.ref 100, .ref 0]) (r := none) (h' := cH_65) (ok' := true) C lkRX11_49 ci_11 (kX11_init _ (List.mem_of_getElem? (i := 38) rfl)).1 ⟨_, _, rfl, rfl, (Nat.le_of_ble_eq_true rfl)⟩ (Nat.le_of_ble_eq_true rfl) (Nat.le_of_ble_eq_true rfl) (Nat.le_of_ble_eq_true rfl) (Nat.le_of_ble_eq_true rfl) (Nat.le_of_ble_eq_true rfl) ?_
  refine msegT C kX11_init 39 1 (g := (_, 86, [.ref 0], [], cH_66)) rfl (by decide +kernel) ?_
  refine msegT C kX11_init 40 3 (g := (_, 91, [.ref 0], [.ref 109, .ref 109, .ref 0], cH_67)) rfl (by decide +kernel) ?_
  refine mcall (kd := 4) (vs := [.ref 109]) (rest := [.ref 109, .ref 0]) (r := none) (h' := cH_71) (ok' := true) C lkRX11_56 ci_12 (kX11_init _ (List.mem_of_getElem? (i := 43) rfl)).1 ⟨_, _, rfl, rfl, (Nat.le_of_ble_eq_true rfl)⟩ (Nat.le_of_ble_eq_true rfl) (Nat.le_of_ble_eq_true rfl) (Nat.le_of_ble_eq_true rfl) (Nat.le_of_ble_eq_true rfl) (Nat.le_of_ble_eq_true rfl) ?_
  refine msegT C kX11_init 44 1 (g := (_, 97, [.ref 0], [], cH_72)) rfl (by decide +kernel) ?_
  refine msegT C kX11_init 45 3 (g := (_, 102, [.ref 0], [.ref 114, .ref 114, .ref 0], cH_73)) rfl (by decide +kernel) ?_
  refine mcall (kd := 4) (vs := [.ref 114]) (rest := [.ref 114, .ref 0]) (r := none) (h' := cH_78) (ok' := true) C lkRX11_63 ci_13 (kX11_init _ (List.mem_of_getElem? (i := 48) rfl)).1 ⟨_, _, rfl, rfl, (Nat.le_of_ble_eq_true rfl)⟩ (Nat.le_of_ble_eq_true rfl) (Nat.le_of_ble_eq_true rfl) (Nat.le_of_ble_eq_true rfl) (Nat.le_of_ble_eq_true rfl) (Nat.le_of_ble_eq_true rfl) ?_
  refine msegT C kX11_init 49 1 (g := (_, 108, [.ref 0], [], cH_79)) rfl (by decide +kernel) ?_
  refine msegT C kX11_init 50 3 (g := (_, 113, [.ref 0], [.ref 120, .ref 120, .ref 0], cH_80)) rfl (by decide +kernel) ?_
  refine mcall (kd := 4) (vs := [.ref 120]) (rest := [.ref 120, .ref 0]) (r := none) (h' := cH_90) (ok' := true) C lkRX11_70 ci_15 (kX11_init _ (List.mem_of_getElem? (i := 53) rfl)).1 ⟨_, _, rfl, rfl, (Nat.le_of_ble_eq_true rfl)⟩ (Nat.le_of_ble_eq_true rfl) (Nat.le_of_ble_eq_true rfl) (Nat.le_of_ble_eq_true rfl) (Nat.le_of_ble_eq_true rfl) (Nat.le_of_ble_eq_true rfl) ?_
  refine msegT C kX11_init 54 1 (g := (_, 119, [.ref 0], [], cH_91)) rfl (by decide +kernel) ?_
  refine msegT C kX11_init 55 3 (g := (_, 124, [.ref 0], [.ref 140, .ref 140, .ref 0], cH_92)) rfl (by decide +kernel) ?_
  refine mcall (kd := 4) (vs := [.ref 140]) (rest := [.ref 140, .ref 0]) (r := none) (h' := cH_101) (ok' := true) C lkRX11_77 ci_17 (kX11_init _ (List.mem_of_getElem? (i := 58) rfl)).1 ⟨_, _, rfl, rfl, (Nat.le_of_ble_eq_true rfl)⟩ (Nat.le_of_ble_eq_true rfl) (Nat.le_of_ble_eq_true rfl) (Nat.le_of_ble_eq_true rfl) (Nat.le_of_ble_eq_true rfl) (Nat.le_of_ble_eq_true rfl) ?_
  refine msegT C kX11_init 59 1 (g := (_, 130, [.ref 0], [], cH_102)) rfl (by decide +kernel) ?_
  refine msegT C kX11_init 60 4 (g := (_, 138, [.ref 0], [], cH_103)) rfl (by decide +kernel) ?_
  exact mret_v C hr hk (kX11_init _ (List.mem_of_getElem? (i := 64) rfl)).1
def cH_104 : mHp := ((va_up cH_103.1 187 (fun _ => 0)), (va_up cH_103.2.1 187 (fun _ => 0)), (va_up cH_103.2.2.1 187 (fun _ => NUL)), (va_up cH_103.2.2.2.1 187 (.inl 12)), 188, 14828)
theorem cZ_104 : cZz cH_104 := (cZz_O (h := cH_103) (c := 12) (n := 73) cZ_103)
def cH_105 : mHp := ((va_up cH_104.1 188 (fun _ => 0)), (va_up cH_104.2.1 188 (fun _ => 0)), (up2 (va_up cH_104.2.2.1 188 (fun _ => NUL)) 187 0 188), (va_up cH_104.2.2.2.1 188 (.inr (.int, 1600))), 189, 16428)
theorem cZ_105 : cZz cH_105 := (cZz_R (h := (newA cH_104 .int 1600)) (r := 187) (k := 0) (v := 188) (cZz_A (h := cH_104) (ty := .int) (n := 1600) cZ_104))
def cH_106 : mHp := ((up2 cH_105.1 187 3 (-1)), cH_105.2.1, cH_105.2.2.1, cH_105.2.2.2.1, 189, 16428)
theorem cZ_106 : cZm cH_106 := (cZm_I (h := cH_105) cZ_105)
def cH_107 : mHp := ((va_up cH_106.1 189 (fun _ => 0)), (va_up cH_106.2.1 189 (fun _ => 0)), (up2 (va_up cH_106.2.2.1 189 (fun _ => NUL)) 187 10 189), (va_up cH_106.2.2.2.1 189 (.inr (.long, 5))), 190, 16433)
theorem cZ_107 : cZm cH_107 := (cZm_R (h := (newA cH_106 .long 5)) (r := 187) (k := 10) (v := 189) (cZm_A (h := cH_106) (ty := .long) (n := 5) (by decide) cZ_106))
def cH_108 : mHp := ((va_up cH_107.1 190 (fun _ => 0)), (va_up cH_107.2.1 190 (fun _ => 0)), (up2 (va_up cH_107.2.2.1 190 (fun _ => NUL)) 187 11 190), (va_up cH_107.2.2.2.1 190 (.inr (.int, 960))), 191, 17393)
theorem cZ_108 : cZm cH_108 := (cZm_R (h := (newA cH_107 .int 960)) (r := 187) (k := 11) (v := 190) (cZm_A (h := cH_107) (ty := .int) (n := 960) (by decide) cZ_107))
def cH_109 : mHp := ((va_up cH_108.1 191 (fun _ => 0)), (va_up cH_108.2.1 191 (fun _ => 0)), (up2 (va_up cH_108.2.2.1 191 (fun _ => NUL)) 187 12 191), (va_up cH_108.2.2.2.1 191 (.inr (.int, 960))), 192, 18353)
theorem cZ_109 : cZm cH_109 := (cZm_R (h := (newA cH_108 .int 960)) (r := 187) (k := 12) (v := 191) (cZm_A (h := cH_108) (ty := .int) (n := 960) (by decide) cZ_108))
def cH_110 : mHp := ((va_up cH_109.1 192 (fun _ => 0)), (va_up cH_109.2.1 192 (fun _ => 0)), (up2 (va_up cH_109.2.2.1 192 (fun _ => NUL)) 187 13 192), (va_up cH_109.2.2.2.1 192 (.inr (.int, 3))), 193, 18356)
theorem cZ_110 : cZm cH_110 := (cZm_R (h := (newA cH_109 .int 3)) (r := 187) (k := 13) (v := 192) (cZm_A (h := cH_109) (ty := .int) (n := 3) (by decide) cZ_109))
def cH_111 : mHp := ((va_up cH_110.1 193 (fun _ => 0)), (va_up cH_110.2.1 193 (fun _ => 0)), (up2 (va_up cH_110.2.2.1 193 (fun _ => NUL)) 187 14 193), (va_up cH_110.2.2.2.1 193 (.inr (.int, 960))), 194, 19316)
theorem cZ_111 : cZm cH_111 := (cZm_R (h := (newA cH_110 .int 960)) (r := 187) (k := 14) (v := 193) (cZm_A (h := cH_110) (ty := .int) (n := 960) (by decide) cZ_110))
def cH_112 : mHp := ((va_up cH_111.1 194 (fun _ => 0)), (va_up cH_111.2.1 194 (fun _ => 0)), (up2 (va_up cH_111.2.2.1 194 (fun _ => NUL)) 187 15 194), (va_up cH_111.2.2.2.1 194 (.inr (.int, 960))), 195, 20276)
theorem cZ_112 : cZm cH_112 := (cZm_R (h := (newA cH_111 .int 960)) (r := 187) (k := 15) (v := 194) (cZm_A (h := cH_111) (ty := .int) (n := 960) (by decide) cZ_111))
def cH_113 : mHp := ((va_up cH_112.1 195 (fun _ => 0)), (va_up cH_112.2.1 195 (fun _ => 0)), (up2 (va_up cH_112.2.2.1 195 (fun _ => NUL)) 187 16 195), (va_up cH_112.2.2.2.1 195 (.inr (.int, 3))), 196, 20279)
theorem cZ_113 : cZm cH_113 := (cZm_R (h := (newA cH_112 .int 3)) (r := 187) (k := 16) (v := 195) (cZm_A (h := cH_112) (ty := .int) (n := 3) (by decide) cZ_112))
def cH_114 : mHp := ((va_up cH_113.1 196 (fun _ => 0)), (va_up cH_113.2.1 196 (fun _ => 0)), (up2 (va_up cH_113.2.2.1 196 (fun _ => NUL)) 187 17 196), (va_up cH_113.2.2.2.1 196 (.inr (.int, 160))), 197, 20439)
theorem cZ_114 : cZm cH_114 := (cZm_R (h := (newA cH_113 .int 160)) (r := 187) (k := 17) (v := 196) (cZm_A (h := cH_113) (ty := .int) (n := 160) (by decide) cZ_113))
def cH_115 : mHp := ((va_up cH_114.1 197 (fun _ => 0)), (va_up cH_114.2.1 197 (fun _ => 0)), (up2 (va_up cH_114.2.2.1 197 (fun _ => NUL)) 187 18 197), (va_up cH_114.2.2.2.1 197 (.inr (.int, 64))), 198, 20503)
theorem cZ_115 : cZm cH_115 := (cZm_R (h := (newA cH_114 .int 64)) (r := 187) (k := 18) (v := 197) (cZm_A (h := cH_114) (ty := .int) (n := 64) (by decide) cZ_114))
def cH_116 : mHp := ((va_up cH_115.1 198 (fun _ => 0)), (va_up cH_115.2.1 198 (fun _ => 0)), (up2 (va_up cH_115.2.2.1 198 (fun _ => NUL)) 187 19 198), (va_up cH_115.2.2.2.1 198 (.inr (.boolean, 3))), 199, 20506)
theorem cZ_116 : cZm cH_116 := (cZm_R (h := (newA cH_115 .boolean 3)) (r := 187) (k := 19) (v := 198) (cZm_A (h := cH_115) (ty := .boolean) (n := 3) (by decide) cZ_115))
def cH_117 : mHp := ((va_up cH_116.1 199 (fun _ => 0)), (va_up cH_116.2.1 199 (fun _ => 0)), (up2 (va_up cH_116.2.2.1 199 (fun _ => NUL)) 187 20 199), (va_up cH_116.2.2.2.1 199 (.inr (.boolean, 3))), 200, 20509)
theorem cZ_117 : cZm cH_117 := (cZm_R (h := (newA cH_116 .boolean 3)) (r := 187) (k := 20) (v := 199) (cZm_A (h := cH_116) (ty := .boolean) (n := 3) (by decide) cZ_116))
def cH_118 : mHp := ((va_up cH_117.1 200 (fun _ => 0)), (va_up cH_117.2.1 200 (fun _ => 0)), (up2 (va_up cH_117.2.2.1 200 (fun _ => NUL)) 187 27 200), (va_up cH_117.2.2.2.1 200 (.inr (.int, 6))), 201, 20515)
theorem cZ_118 : cZm cH_118 := (cZm_R (h := (newA cH_117 .int 6)) (r := 187) (k := 27) (v := 200) (cZm_A (h := cH_117) (ty := .int) (n := 6) (by decide) cZ_117))
def cH_119 : mHp := ((va_up cH_118.1 201 (fun _ => 0)), (va_up cH_118.2.1 201 (fun _ => 0)), (up2 (va_up cH_118.2.2.1 201 (fun _ => NUL)) 187 28 201), (va_up cH_118.2.2.2.1 201 (.inr (.int, 5))), 202, 20520)
theorem cZ_119 : cZm cH_119 := (cZm_R (h := (newA cH_118 .int 5)) (r := 187) (k := 28) (v := 201) (cZm_A (h := cH_118) (ty := .int) (n := 5) (by decide) cZ_118))
def cH_120 : mHp := ((va_up cH_119.1 202 (fun _ => 0)), (va_up cH_119.2.1 202 (fun _ => 0)), (up2 (va_up cH_119.2.2.1 202 (fun _ => NUL)) 187 29 202), (va_up cH_119.2.2.2.1 202 (.inr (.int, 5))), 203, 20525)
theorem cZ_120 : cZm cH_120 := (cZm_R (h := (newA cH_119 .int 5)) (r := 187) (k := 29) (v := 202) (cZm_A (h := cH_119) (ty := .int) (n := 5) (by decide) cZ_119))
def cH_121 : mHp := ((va_up cH_120.1 203 (fun _ => 0)), (va_up cH_120.2.1 203 (fun _ => 0)), (up2 (va_up cH_120.2.2.1 203 (fun _ => NUL)) 187 30 203), (va_up cH_120.2.2.2.1 203 (.inr (.int, 5))), 204, 20530)
theorem cZ_121 : cZm cH_121 := (cZm_R (h := (newA cH_120 .int 5)) (r := 187) (k := 30) (v := 203) (cZm_A (h := cH_120) (ty := .int) (n := 5) (by decide) cZ_120))
def cH_122 : mHp := ((va_up cH_121.1 204 (fun _ => 0)), (va_up cH_121.2.1 204 (fun _ => 0)), (up2 (va_up cH_121.2.2.1 204 (fun _ => NUL)) 187 31 204), (va_up cH_121.2.2.2.1 204 (.inr (.int, 5))), 205, 20535)
theorem cZ_122 : cZm cH_122 := (cZm_R (h := (newA cH_121 .int 5)) (r := 187) (k := 31) (v := 204) (cZm_A (h := cH_121) (ty := .int) (n := 5) (by decide) cZ_121))
def cH_123 : mHp := ((va_up cH_122.1 205 (fun _ => 0)), (va_up cH_122.2.1 205 (fun _ => 0)), (up2 (va_up cH_122.2.2.1 205 (fun _ => NUL)) 187 32 205), (va_up cH_122.2.2.2.1 205 (.inr (.int, 5))), 206, 20540)
theorem cZ_123 : cZm cH_123 := (cZm_R (h := (newA cH_122 .int 5)) (r := 187) (k := 32) (v := 205) (cZm_A (h := cH_122) (ty := .int) (n := 5) (by decide) cZ_122))
def cH_124 : mHp := ((va_up cH_123.1 206 (fun _ => 0)), (va_up cH_123.2.1 206 (fun _ => 0)), (up2 (va_up cH_123.2.2.1 206 (fun _ => NUL)) 187 33 206), (va_up cH_123.2.2.2.1 206 (.inr (.int, 5))), 207, 20545)
theorem cZ_124 : cZm cH_124 := (cZm_R (h := (newA cH_123 .int 5)) (r := 187) (k := 33) (v := 206) (cZm_A (h := cH_123) (ty := .int) (n := 5) (by decide) cZ_123))
def cH_125 : mHp := ((va_up cH_124.1 207 (fun _ => 0)), (va_up cH_124.2.1 207 (fun _ => 0)), (up2 (va_up cH_124.2.2.1 207 (fun _ => NUL)) 187 34 207), (va_up cH_124.2.2.2.1 207 (.inr (.int, 5))), 208, 20550)
theorem cZ_125 : cZm cH_125 := (cZm_R (h := (newA cH_124 .int 5)) (r := 187) (k := 34) (v := 207) (cZm_A (h := cH_124) (ty := .int) (n := 5) (by decide) cZ_124))
def cH_126 : mHp := ((va_up cH_125.1 208 (fun _ => 0)), (va_up cH_125.2.1 208 (fun _ => 0)), (up2 (va_up cH_125.2.2.1 208 (fun _ => NUL)) 187 39 208), (va_up cH_125.2.2.2.1 208 (.inr (.int, 18))), 209, 20568)
theorem cZ_126 : cZm cH_126 := (cZm_R (h := (newA cH_125 .int 18)) (r := 187) (k := 39) (v := 208) (cZm_A (h := cH_125) (ty := .int) (n := 18) (by decide) cZ_125))
def cH_127 : mHp := ((va_up cH_126.1 209 (fun _ => 0)), (va_up cH_126.2.1 209 (fun _ => 0)), (up2 (va_up cH_126.2.2.1 209 (fun _ => NUL)) 187 40 209), (va_up cH_126.2.2.2.1 209 (.inr (.int, 5))), 210, 20573)
theorem cZ_127 : cZm cH_127 := (cZm_R (h := (newA cH_126 .int 5)) (r := 187) (k := 40) (v := 209) (cZm_A (h := cH_126) (ty := .int) (n := 5) (by decide) cZ_126))
def cH_128 : mHp := ((va_up cH_127.1 210 (fun _ => 0)), (va_up cH_127.2.1 210 (fun _ => 0)), (up2 (va_up cH_127.2.2.1 210 (fun _ => NUL)) 187 41 210), (va_up cH_127.2.2.2.1 210 (.inr (.int, 5))), 211, 20578)
theorem cZ_128 : cZm cH_128 := (cZm_R (h := (newA cH_127 .int 5)) (r := 187) (k := 41) (v := 210) (cZm_A (h := cH_127) (ty := .int) (n := 5) (by decide) cZ_127))
def cH_129 : mHp := ((va_up cH_128.1 211 (fun _ => 0)), (va_up cH_128.2.1 211 (fun _ => 0)), (up2 (va_up cH_128.2.2.1 211 (fun _ => NUL)) 187 42 211), (va_up cH_128.2.2.2.1 211 (.inr (.int, 5))), 212, 20583)
theorem cZ_129 : cZm cH_129 := (cZm_R (h := (newA cH_128 .int 5)) (r := 187) (k := 42) (v := 211) (cZm_A (h := cH_128) (ty := .int) (n := 5) (by decide) cZ_128))
def cH_130 : mHp := ((va_up cH_129.1 212 (fun _ => 0)), (va_up cH_129.2.1 212 (fun _ => 0)), (up2 (va_up cH_129.2.2.1 212 (fun _ => NUL)) 187 45 212), (va_up cH_129.2.2.2.1 212 (.inr (.int, 720))), 213, 21303)
theorem cZ_130 : cZm cH_130 := (cZm_R (h := (newA cH_129 .int 720)) (r := 187) (k := 45) (v := 212) (cZm_A (h := cH_129) (ty := .int) (n := 720) (by decide) cZ_129))
def cH_131 : mHp := ((va_up cH_130.1 213 (fun _ => 0)), (va_up cH_130.2.1 213 (fun _ => 0)), (up2 (va_up cH_130.2.2.1 213 (fun _ => NUL)) 187 48 213), (va_up cH_130.2.2.2.1 213 (.inr (.int, 40))), 214, 21343)
theorem cZ_131 : cZm cH_131 := (cZm_R (h := (newA cH_130 .int 40)) (r := 187) (k := 48) (v := 213) (cZm_A (h := cH_130) (ty := .int) (n := 40) (by decide) cZ_130))
def cH_132 : mHp := ((va_up cH_131.1 214 (fun _ => 0)), (va_up cH_131.2.1 214 (fun _ => 0)), (up2 (va_up cH_131.2.2.1 214 (fun _ => NUL)) 187 49 214), (va_up cH_131.2.2.2.1 214 (.inr (.int, 5))), 215, 21348)
theorem cZ_132 : cZm cH_132 := (cZm_R (h := (newA cH_131 .int 5)) (r := 187) (k := 49) (v := 214) (cZm_A (h := cH_131) (ty := .int) (n := 5) (by decide) cZ_131))
def cH_133 : mHp := ((va_up cH_132.1 215 (fun _ => 0)), (va_up cH_132.2.1 215 (fun _ => 0)), (up2 (va_up cH_132.2.2.1 215 (fun _ => NUL)) 187 50 215), (va_up cH_132.2.2.2.1 215 (.inr (.int, 16))), 216, 21364)
theorem cZ_133 : cZm cH_133 := (cZm_R (h := (newA cH_132 .int 16)) (r := 187) (k := 50) (v := 215) (cZm_A (h := cH_132) (ty := .int) (n := 16) (by decide) cZ_132))
def cH_134 : mHp := ((va_up cH_133.1 216 (fun _ => 0)), (va_up cH_133.2.1 216 (fun _ => 0)), (up2 (va_up cH_133.2.2.1 216 (fun _ => NUL)) 187 53 216), (va_up cH_133.2.2.2.1 216 (.inr (.int, 5))), 217, 21369)
theorem cZ_134 : cZm cH_134 := (cZm_R (h := (newA cH_133 .int 5)) (r := 187) (k := 53) (v := 216) (cZm_A (h := cH_133) (ty := .int) (n := 5) (by decide) cZ_133))
def cH_135 : mHp := ((va_up cH_134.1 217 (fun _ => 0)), (va_up cH_134.2.1 217 (fun _ => 0)), (up2 (va_up cH_134.2.2.1 217 (fun _ => NUL)) 187 54 217), (va_up cH_134.2.2.2.1 217 (.inr (.int, 5))), 218, 21374)
theorem cZ_135 : cZm cH_135 := (cZm_R (h := (newA cH_134 .int 5)) (r := 187) (k := 54) (v := 217) (cZm_A (h := cH_134) (ty := .int) (n := 5) (by decide) cZ_134))
def cH_136 : mHp := ((va_up cH_135.1 218 (fun _ => 0)), (va_up cH_135.2.1 218 (fun _ => 0)), (up2 (va_up cH_135.2.2.1 218 (fun _ => NUL)) 187 55 218), (va_up cH_135.2.2.2.1 218 (.inr (.int, 5))), 219, 21379)
theorem cZ_136 : cZm cH_136 := (cZm_R (h := (newA cH_135 .int 5)) (r := 187) (k := 55) (v := 218) (cZm_A (h := cH_135) (ty := .int) (n := 5) (by decide) cZ_135))
def cH_137 : mHp := ((va_up cH_136.1 219 (fun _ => 0)), (va_up cH_136.2.1 219 (fun _ => 0)), (up2 (va_up cH_136.2.2.1 219 (fun _ => NUL)) 187 56 219), (va_up cH_136.2.2.2.1 219 (.inr (.int, 5))), 220, 21384)
theorem cZ_137 : cZm cH_137 := (cZm_R (h := (newA cH_136 .int 5)) (r := 187) (k := 56) (v := 219) (cZm_A (h := cH_136) (ty := .int) (n := 5) (by decide) cZ_136))
def cH_138 : mHp := ((va_up cH_137.1 220 (fun _ => 0)), (va_up cH_137.2.1 220 (fun _ => 0)), (up2 (va_up cH_137.2.2.1 220 (fun _ => NUL)) 187 57 220), (va_up cH_137.2.2.2.1 220 (.inr (.int, 5))), 221, 21389)
theorem cZ_138 : cZm cH_138 := (cZm_R (h := (newA cH_137 .int 5)) (r := 187) (k := 57) (v := 220) (cZm_A (h := cH_137) (ty := .int) (n := 5) (by decide) cZ_137))
def cH_139 : mHp := ((va_up cH_138.1 221 (fun _ => 0)), (va_up cH_138.2.1 221 (fun _ => 0)), (up2 (va_up cH_138.2.2.1 221 (fun _ => NUL)) 187 58 221), (va_up cH_138.2.2.2.1 221 (.inr (.int, 32))), 222, 21421)
theorem cZ_139 : cZm cH_139 := (cZm_R (h := (newA cH_138 .int 32)) (r := 187) (k := 58) (v := 221) (cZm_A (h := cH_138) (ty := .int) (n := 32) (by decide) cZ_138))
def cH_140 : mHp := ((va_up cH_139.1 222 (fun _ => 0)), (va_up cH_139.2.1 222 (fun _ => 0)), (up2 (va_up cH_139.2.2.1 222 (fun _ => NUL)) 187 59 222), (va_up cH_139.2.2.2.1 222 (.inr (.int, 32))), 223, 21453)
theorem cZ_140 : cZm cH_140 := (cZm_R (h := (newA cH_139 .int 32)) (r := 187) (k := 59) (v := 222) (cZm_A (h := cH_139) (ty := .int) (n := 32) (by decide) cZ_139))
def cH_141 : mHp := ((va_up cH_140.1 223 (fun _ => 0)), (va_up cH_140.2.1 223 (fun _ => 0)), (up2 (va_up cH_140.2.2.1 223 (fun _ => NUL)) 187 60 223), (va_up cH_140.2.2.2.1 223 (.inr (.int, 32))), 224, 21485)
theorem cZ_141 : cZm cH_141 := (cZm_R (h := (newA cH_140 .int 32)) (r := 187) (k := 60) (v := 223) (cZm_A (h := cH_140) (ty := .int) (n := 32) (by decide) cZ_140))
def cH_142 : mHp := ((va_up cH_141.1 224 (fun _ => 0)), (va_up cH_141.2.1 224 (fun _ => 0)), (up2 (va_up cH_141.2.2.1 224 (fun _ => NUL)) 187 61 224), (va_up cH_141.2.2.2.1 224 (.inr (.int, 30))), 225, 21515)
theorem cZ_142 : cZm cH_142 := (cZm_R (h := (newA cH_141 .int 30)) (r := 187) (k := 61) (v := 224) (cZm_A (h := cH_141) (ty := .int) (n := 30) (by decide) cZ_141))
def cH_143 : mHp := ((va_up cH_142.1 225 (fun _ => 0)), (va_up cH_142.2.1 225 (fun _ => 0)), (up2 (va_up cH_142.2.2.1 225 (fun _ => NUL)) 187 62 225), (va_up cH_142.2.2.2.1 225 (.inr (.int, 30))), 226, 21545)
theorem cZ_143 : cZm cH_143 := (cZm_R (h := (newA cH_142 .int 30)) (r := 187) (k := 62) (v := 225) (cZm_A (h := cH_142) (ty := .int) (n := 30) (by decide) cZ_142))
def cH_144 : mHp := ((va_up cH_143.1 226 (fun _ => 0)), (va_up cH_143.2.1 226 (fun _ => 0)), (up2 (va_up cH_143.2.2.1 226 (fun _ => NUL)) 187 63 226), (va_up cH_143.2.2.2.1 226 (.inr (.int, 30))), 227, 21575)
theorem cZ_144 : cZm cH_144 := (cZm_R (h := (newA cH_143 .int 30)) (r := 187) (k := 63) (v := 226) (cZm_A (h := cH_143) (ty := .int) (n := 30) (by decide) cZ_143))
def cH_145 : mHp := ((va_up cH_144.1 227 (fun _ => 0)), (va_up cH_144.2.1 227 (fun _ => 0)), (up2 (va_up cH_144.2.2.1 227 (fun _ => NUL)) 187 64 227), (va_up cH_144.2.2.2.1 227 (.inr (.int, 30))), 228, 21605)
theorem cZ_145 : cZm cH_145 := (cZm_R (h := (newA cH_144 .int 30)) (r := 187) (k := 64) (v := 227) (cZm_A (h := cH_144) (ty := .int) (n := 30) (by decide) cZ_144))
def cH_146 : mHp := ((va_up cH_145.1 228 (fun _ => 0)), (va_up cH_145.2.1 228 (fun _ => 0)), (up2 (va_up cH_145.2.2.1 228 (fun _ => NUL)) 187 65 228), (va_up cH_145.2.2.2.1 228 (.inr (.int, 30))), 229, 21635)
theorem cZ_146 : cZm cH_146 := (cZm_R (h := (newA cH_145 .int 30)) (r := 187) (k := 65) (v := 228) (cZm_A (h := cH_145) (ty := .int) (n := 30) (by decide) cZ_145))
def cH_147 : mHp := ((va_up cH_146.1 229 (fun _ => 0)), (va_up cH_146.2.1 229 (fun _ => 0)), (up2 (va_up cH_146.2.2.1 229 (fun _ => NUL)) 187 68 229), (va_up cH_146.2.2.2.1 229 (.inr (.int, 40))), 230, 21675)
theorem cZ_147 : cZm cH_147 := (cZm_R (h := (newA cH_146 .int 40)) (r := 187) (k := 68) (v := 229) (cZm_A (h := cH_146) (ty := .int) (n := 40) (by decide) cZ_146))
def cH_148 : mHp := ((va_up cH_147.1 230 (fun _ => 0)), (va_up cH_147.2.1 230 (fun _ => 0)), (up2 (va_up cH_147.2.2.1 230 (fun _ => NUL)) 187 70 230), (va_up cH_147.2.2.2.1 230 (.inr (.boolean, 32768))), 231, 54443)
theorem cZ_148 : cZm cH_148 := (cZm_R (h := (newA cH_147 .boolean 32768)) (r := 187) (k := 70) (v := 230) (cZm_A (h := cH_147) (ty := .boolean) (n := 32768) (by decide) cZ_147))
def cH_149 : mHp := ((va_up cH_148.1 231 (fun _ => 0)), (va_up cH_148.2.1 231 (fun _ => 0)), (up2 (va_up cH_148.2.2.1 231 (fun _ => NUL)) 187 71 231), (va_up cH_148.2.2.2.1 231 (.inr (.boolean, 3))), 232, 54446)
theorem cZ_149 : cZm cH_149 := (cZm_R (h := (newA cH_148 .boolean 3)) (r := 187) (k := 71) (v := 231) (cZm_A (h := cH_148) (ty := .boolean) (n := 3) (by decide) cZ_148))
def cH_150 : mHp := ((va_up cH_149.1 232 (fun _ => 0)), (va_up cH_149.2.1 232 (fun _ => 0)), (up2 (va_up cH_149.2.2.1 232 (fun _ => NUL)) 187 72 232), (va_up cH_149.2.2.2.1 232 (.inr (.int, 54))), 233, 54500)
theorem cZ_150 : cZm cH_150 := (cZm_R (h := (newA cH_149 .int 54)) (r := 187) (k := 72) (v := 232) (cZm_A (h := cH_149) (ty := .int) (n := 54) (by decide) cZ_149))
theorem ci_19 {l : Launch} : mMet l mX12_init 1 [.ref 187] cH_104 none cH_150 := by
  refine mMet_of true (by decide) (fun _ => rfl) (Nat.le_of_ble_eq_true rfl) rfl (Nat.le_of_ble_eq_true rfl) (Nat.le_of_ble_eq_true rfl) (Nat.le_of_ble_eq_true rfl) (Nat.le_of_ble_eq_true rfl) (fun p e s m args below meth c G C hr hk => ?_)
  refine msegT C kX12_init 0 6 (g := (_, 13, [.ref 187], [], cH_105)) rfl (by decide +kernel) ?_
  refine msegT C kX12_init 6 3 (g := (_, 18, [.ref 187], [], cH_106)) rfl (by decide +kernel) ?_
  refine msegT C kX12_init 9 4 (g := (_, 25, [.ref 187], [], cH_107)) rfl (by decide +kernel) ?_
  refine msegT C kX12_init 13 4 (g := (_, 34, [.ref 187], [], cH_108)) rfl (by decide +kernel) ?_
  refine msegT C kX12_init 17 4 (g := (_, 43, [.ref 187], [], cH_109)) rfl (by decide +kernel) ?_
  refine msegT C kX12_init 21 4 (g := (_, 50, [.ref 187], [], cH_110)) rfl (by decide +kernel) ?_
  refine msegT C kX12_init 25 4 (g := (_, 59, [.ref 187], [], cH_111)) rfl (by decide +kernel) ?_
  refine msegT C kX12_init 29 4 (g := (_, 68, [.ref 187], [], cH_112)) rfl (by decide +kernel) ?_
  refine msegT C kX12_init 33 4 (g := (_, 75, [.ref 187], [], cH_113)) rfl (by decide +kernel) ?_
  refine msegT C kX12_init 37 4 (g := (_, 84, [.ref 187], [], cH_114)) rfl (by decide +kernel) ?_
  refine msegT C kX12_init 41 4 (g := (_, 92, [.ref 187], [], cH_115)) rfl (by decide +kernel) ?_
  refine msegT C kX12_init 45 4 (g := (_, 99, [.ref 187], [], cH_116)) rfl (by decide +kernel) ?_
  refine msegT C kX12_init 49 4 (g := (_, 106, [.ref 187], [], cH_117)) rfl (by decide +kernel) ?_
  refine msegT C kX12_init 53 4 (g := (_, 114, [.ref 187], [], cH_118)) rfl (by decide +kernel) ?_
  refine msegT C kX12_init 57 4 (g := (_, 121, [.ref 187], [], cH_119)) rfl (by decide +kernel) ?_
  refine msegT C kX12_init 61 4 (g := (_, 128, [.ref 187], [], cH_120)) rfl (by decide +kernel) ?_
  refine msegT C kX12_init 65 4 (g := (_, 135, [.ref 187], [], cH_121)) rfl (by decide +kernel) ?_
  refine msegT C kX12_init 69 4 (g := (_, 142, [.ref 187], [], cH_122)) rfl (by decide +kernel) ?_
  refine msegT C kX12_init 73 4 (g := (_, 149, [.ref 187], [], cH_123)) rfl (by decide +kernel) ?_
  refine msegT C kX12_init 77 4 (g := (_, 156, [.ref 187], [], cH_124)) rfl (by decide +kernel) ?_
  refine msegT C kX12_init 81 4 (g := (_, 163, [.ref 187], [], cH_125)) rfl (by decide +kernel) ?_
  refine msegT C kX12_init 85 4 (g := (_, 171, [.ref 187], [], cH_126)) rfl (by decide +kernel) ?_
  refine msegT C kX12_init 89 4 (g := (_, 178, [.ref 187], [], cH_127)) rfl (by decide +kernel) ?_
  refine msegT C kX12_init 93 4 (g := (_, 185, [.ref 187], [], cH_128)) rfl (by decide +kernel) ?_
  refine msegT C kX12_init 97 4 (g := (_, 192, [.ref 187], [], cH_129)) rfl (by decide +kernel) ?_
  refine msegT C kX12_init 101 4 (g := (_, 201, [.ref 187], [], cH_130)) rfl (by decide +kernel) ?_
  refine msegT C kX12_init 105 4 (g := (_, 209, [.ref 187], [], cH_131)) rfl (by decide +kernel) ?_
  refine msegT C kX12_init 109 4 (g := (_, 216, [.ref 187], [], cH_132)) rfl (by decide +kernel) ?_
  refine msegT C kX12_init 113 4 (g := (_, 224, [.ref 187], [], cH_133)) rfl (by decide +kernel) ?_
  refine msegT C kX12_init 117 4 (g := (_, 231, [.ref 187], [], cH_134)) rfl (by decide +kernel) ?_
  refine msegT C kX12_init 121 4 (g := (_, 238, [.ref 187], [], cH_135)) rfl (by decide +kernel) ?_
  refine msegT C kX12_init 125 4 (g := (_, 245, [.ref 187], [], cH_136)) rfl (by decide +kernel) ?_
  refine msegT C kX12_init 129 4 (g := (_, 252, [.ref 187], [], cH_137)) rfl (by decide +kernel) ?_
  refine msegT C kX12_init 133 4 (g := (_, 259, [.ref 187], [], cH_138)) rfl (by decide +kernel) ?_
  refine msegT C kX12_init 137 4 (g := (_, 267, [.ref 187], [], cH_139)) rfl (by decide +kernel) ?_
  refine msegT C kX12_init 141 4 (g := (_, 275, [.ref 187], [], cH_140)) rfl (by decide +kernel) ?_
  refine msegT C kX12_init 145 4 (g := (_, 283, [.ref 187], [], cH_141)) rfl (by decide +kernel) ?_
  refine msegT C kX12_init 149 4 (g := (_, 291, [.ref 187], [], cH_142)) rfl (by decide +kernel) ?_
  refine msegT C kX12_init 153 4 (g := (_, 299, [.ref 187], [], cH_143)) rfl (by decide +kernel) ?_
  refine msegT C kX12_init 157 4 (g := (_, 307, [.ref 187], [], cH_144)) rfl (by decide +kernel) ?_
  refine msegT C kX12_init 161 4 (g := (_, 315, [.ref 187], [], cH_145)) rfl (by decide +kernel) ?_
  refine msegT C kX12_init 165 4 (g := (_, 323, [.ref 187], [], cH_146)) rfl (by decide +kernel) ?_
  refine msegT C kX12_init 169 4 (g := (_, 331, [.ref 187], [], cH_147)) rfl (by decide +kernel) ?_
  refine msegT C kX12_init 173 4 (g := (_, 339, [.ref 187], [], cH_148)) rfl (by decide +kernel) ?_
  refine msegT C kX12_init 177 4 (g := (_, 346, [.ref 187], [], cH_149)) rfl (by decide +kernel) ?_
  refine msegT C kX12_init 181 4 (g := (_, 354, [.ref 187], [], cH_150)) rfl (by decide +kernel) ?_
  exact mret_v C hr hk (kX12_init _ (List.mem_of_getElem? (i := 185) rfl)).1
/-! the heaps that the law sees: behind its first new, the first constructor, its second new, the second constructor -/
abbrev cHa : mHp := cH_1
abbrev cHb : mHp := cH_103
abbrev cHc : mHp := cH_104
abbrev cHd : mHp := cH_150
theorem cI_a {l : Launch} : mMet l mX11_init 3 [.ref 0] cHa none cHb := ci_18
theorem cI_c {l : Launch} : mMet l mX12_init 1 [.ref 187] cHc none cHd := ci_19
/-- the cells at the start -/
def S00 : mT := (fun a k => if a = 187 ∧ k = 3 then -1 else 0, fun _ _ => 0)
theorem cS_d : ∀ i, i < 233 → hS cHd i = sT i := by decide +kernel
theorem cR_d : ∀ i, i < 233 → (match sT i with | .inl c => (List.range (mNf c)).all (fun k => Nat.beq (hR cHd i k) (rT false i k)) | .inr _ => true) = true := by decide +kernel
theorem cD_rows : ∀ i, i < 233 → (match sT i with | .inr (.array _, _) => true | _ => false) = true → i ∈ [38, 80, 86, 92, 121, 131, 141, 176] := by decide +kernel
set_option maxRecDepth 100000 in
theorem cR_38 : hR cHd 38 = rT false 38 := by
  funext k
  have e1 : hR cHd 38 k = if k < 41 then 38 + 1 + k else NUL := rfl
  have e2 : rT false 38 k = cond (Nat.blt k 41) (39 + k) NUL := rfl
  rw [e1, e2]
  by_cases c : k < 41
  · rw [if_pos c, show Nat.blt k 41 = true from Nat.ble_eq_true_of_le c]; rfl
  · rw [if_neg c]
    cases e : Nat.blt k 41 with
    | true => exact absurd (Nat.le_of_ble_eq_true e) c
    | false => rfl
set_option maxRecDepth 100000 in
theorem cR_80 : hR cHd 80 = rT false 80 := by
  funext k
  have e1 : hR cHd 80 k = if k < 3 then 80 + 1 + k else NUL := rfl
  have e2 : rT false 80 k = cond (Nat.blt k 3) (81 + k) NUL := rfl
  rw [e1, e2]
  by_cases c : k < 3
  · rw [if_pos c, show Nat.blt k 3 = true from Nat.ble_eq_true_of_le c]; rfl
  · rw [if_neg c]
    cases e : Nat.blt k 3 with
    | true => exact absurd (Nat.le_of_ble_eq_true e) c
    | false => rfl
set_option maxRecDepth 100000 in
theorem cR_86 : hR cHd 86 = rT false 86 := by
  funext k
  have e1 : hR cHd 86 k = if k < 5 then 86 + 1 + k else NUL := rfl
  have e2 : rT false 86 k = cond (Nat.blt k 5) (87 + k) NUL := rfl
  rw [e1, e2]
  by_cases c : k < 5
  · rw [if_pos c, show Nat.blt k 5 = true from Nat.ble_eq_true_of_le c]; rfl
  · rw [if_neg c]
    cases e : Nat.blt k 5 with
    | true => exact absurd (Nat.le_of_ble_eq_true e) c
    | false => rfl
set_option maxRecDepth 100000 in
theorem cR_92 : hR cHd 92 = rT false 92 := by
  funext k
  have e1 : hR cHd 92 k = if k < 6 then 92 + 1 + k else NUL := rfl
  have e2 : rT false 92 k = cond (Nat.blt k 6) (93 + k) NUL := rfl
  rw [e1, e2]
  by_cases c : k < 6
  · rw [if_pos c, show Nat.blt k 6 = true from Nat.ble_eq_true_of_le c]; rfl
  · rw [if_neg c]
    cases e : Nat.blt k 6 with
    | true => exact absurd (Nat.le_of_ble_eq_true e) c
    | false => rfl
set_option maxRecDepth 100000 in
theorem cR_121 : hR cHd 121 = rT false 121 := by
  funext k
  have e1 : hR cHd 121 k = if k < 5 then 121 + 1 + k else NUL := rfl
  have e2 : rT false 121 k = cond (Nat.blt k 5) (122 + k) NUL := rfl
  rw [e1, e2]
  by_cases c : k < 5
  · rw [if_pos c, show Nat.blt k 5 = true from Nat.ble_eq_true_of_le c]; rfl
  · rw [if_neg c]
    cases e : Nat.blt k 5 with
    | true => exact absurd (Nat.le_of_ble_eq_true e) c
    | false => rfl
set_option maxRecDepth 100000 in
theorem cR_131 : hR cHd 131 = rT false 131 := by
  funext k
  have e1 : hR cHd 131 k = if k < 5 then 131 + 1 + k else NUL := rfl
  have e2 : rT false 131 k = cond (Nat.blt k 5) (132 + k) NUL := rfl
  rw [e1, e2]
  by_cases c : k < 5
  · rw [if_pos c, show Nat.blt k 5 = true from Nat.ble_eq_true_of_le c]; rfl
  · rw [if_neg c]
    cases e : Nat.blt k 5 with
    | true => exact absurd (Nat.le_of_ble_eq_true e) c
    | false => rfl
set_option maxRecDepth 100000 in
theorem cR_141 : hR cHd 141 = rT false 141 := by
  funext k
  have e1 : hR cHd 141 k = if k < 32 then 141 + 1 + k else NUL := rfl
  have e2 : rT false 141 k = cond (Nat.blt k 32) (142 + k) NUL := rfl
  rw [e1, e2]
  by_cases c : k < 32
  · rw [if_pos c, show Nat.blt k 32 = true from Nat.ble_eq_true_of_le c]; rfl
  · rw [if_neg c]
    cases e : Nat.blt k 32 with
    | true => exact absurd (Nat.le_of_ble_eq_true e) c
    | false => rfl
set_option maxRecDepth 100000 in
theorem cR_176 : hR cHd 176 = rT false 176 := by
  funext k
  have e1 : hR cHd 176 k = if k < 5 then 176 + 1 + k else NUL := rfl
  have e2 : rT false 176 k = cond (Nat.blt k 5) (177 + k) NUL := rfl
  rw [e1, e2]
  by_cases c : k < 5
  · rw [if_pos c, show Nat.blt k 5 = true from Nat.ble_eq_true_of_le c]; rfl
  · rw [if_neg c]
    cases e : Nat.blt k 5 with
    | true => exact absurd (Nat.le_of_ble_eq_true e) c
    | false => rfl
theorem cR_rows : ∀ i, i ∈ [38, 80, 86, 92, 121, 131, 141, 176] → hR cHd i = rT false i := by
  intro i hi
  simp only [List.mem_cons, List.not_mem_nil, or_false] at hi
  rcases hi with rfl | rfl | rfl | rfl | rfl | rfl | rfl | rfl
  · exact cR_38
  · exact cR_80
  · exact cR_86
  · exact cR_92
  · exact cR_121
  · exact cR_131
  · exact cR_141
  · exact cR_176
theorem cNoObj : ∀ i, i < 233 → ∀ t n, ¬ sT i = .inr (.object t, n) := by
  have key : ∀ i, i < 233 → (match sT i with | .inr (.object _, _) => true | _ => false) = false := by decide +kernel
  intro i hi t n e
  have := key i hi
  rw [e] at this
  cases this
theorem cEnd {G : mG} : ∀ i, i < 233 → mEl G cHd i = mEl G (mk false S00) i := by
  intro i hi
  have z : cZm cHd := cZ_150
  have hs : hS cHd i = sT i := cS_d i hi
  have zi : ∀ k, hI cHd i k = hI (mk false S00) i k := z.1 i
  have zj : ∀ k, hJ cHd i k = hJ (mk false S00) i k := z.2 i
  have hr := cR_d i hi
  have hq := cD_rows i hi
  unfold mEl
  rw [show hS (mk false S00) i = sT i from rfl, hs]
  cases e : sT i with
  | inl c =>
    rw [e] at hr
    show Sum.inr (c, _) = Sum.inr (c, _)
    congr 2
    apply List.map_congr_left
    intro k hk
    have hk2 : k < mNf c := List.mem_range.mp hk
    have e3 : hR cHd i k = hR (mk false S00) i k := Nat.eq_of_beq_eq_true (List.all_eq_true.mp hr k (List.mem_range.mpr hk2))
    unfold mFv
    rw [zi, zj, e3]
  | inr q =>
    obtain ⟨ty, n⟩ := q
    rw [e] at hq
    show Sum.inl (_, mAr G cHd i n ty) = Sum.inl (_, mAr G (mk false S00) i n ty)
    have ei : hI cHd i = hI (mk false S00) i := funext zi
    have ej : hJ cHd i = hJ (mk false S00) i := funext zj
    unfold mAr
    rw [ei, ej]
    cases ty with
    | array t =>
      have e4 : hR cHd i = hR (mk false S00) i := cR_rows i (hq rfl)
      rw [e4]
    | object t => exact absurd e (cNoObj i hi t n)
    | _ => rfl
