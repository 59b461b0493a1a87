/-! PROVINCE: the loops of the class's levels. -/
section
variable {T : Nat → Nat} {t f a1 U0 : Nat}
theorem tk_t {p : Nat} (hp : p ≤ t) (h0 : tkN T t p ≠ 0) : p < t := by
  have hx := tx_le (T := T) hp
  have htb := (tb_le (T := T) hp).1
  have hxx := hx.2.2 h0
  omega
theorem c_sgv (hT : ∀ k, k < t → T k < 256) {p : Nat} {C : mT} (hc : cT T t p C) (h : 5 ≤ srN T t p) : C.1 1 9 = nI (srN T t p) := by
  obtain ⟨s1, s2, s3, s4, s5, s6, s7, s8⟩ := sr_lt hT p
  rw [hc.2.2.2.2.2.2.2 (s8 h), (s7 (s8 h)).2]
def oTm (T : Nat → Nat) (t p : Nat) : Option Nat := if srN T t p = 42 ∨ srN T t p = 47 ∨ srN T t p = 37 then some (srN T t p) else none
def oSm (T : Nat → Nat) (t p : Nat) : Option Nat := if srN T t p = 43 ∨ srN T t p = 45 then some (srN T t p) else none
def oBo (T : Nat → Nat) (t p : Nat) : Option Nat := if wkN T t p = cwN 10 then some 38 else none
def oEi (T : Nat → Nat) (t p : Nat) : Option Nat := if wkN T t p = cwN 9 then some 124 else none
theorem lp_term (ht : t ≤ 1600) (hT : ∀ k, k < t → T k < 256) (d e : Nat) : lpOK T t a1 (oTm T t) (fP d 5 a1 (nI e)) (fun k i => fX4_readTerm_8 a1 (fP d) k (nI e) (nI i)) := by
  have t1 : ¬ (1 : Int32) = 0 := by decide
  refine ⟨fun k i C w pl hi h => ?_, fun k i C p hi hp hc h hn => ?_, fun k i C p s hi hp hc h hs => ?_⟩
  · by_cases c : (1600 : Int32) ≤ nI i
    · simp only [fX4_readTerm_8, if_pos c, fX4_readTerm_74]
    · simp only [fX4_readTerm_8, if_neg c, fX4_readTerm_74, c_isSD h, g_t, b_d, b_c, b_v, Bool.and_true, Bool.and_self, Bool.true_and, if_true]
  · have hn' : ¬ (srN T t p = 42 ∨ srN T t p = 47 ∨ srN T t p = 37) := fun z => by
      unfold oTm at hn
      rw [if_pos z] at hn
      cases hn
    have a1 : fX4_isSign (42 : Int32) C = some (0, C) := (c_isS hT h (c := 42) (by omega) (by omega)).trans (by rw [if_neg (by omega)])
    have a2 : fX4_isSign (47 : Int32) C = some (0, C) := (c_isS hT h (c := 47) (by omega) (by omega)).trans (by rw [if_neg (by omega)])
    have a3 : fX4_isSign (37 : Int32) C = some (0, C) := (c_isS hT h (c := 37) (by omega) (by omega)).trans (by rw [if_neg (by omega)])
    by_cases c : (1600 : Int32) ≤ nI i
    · simp only [fX4_readTerm_8, if_pos c, fX4_readTerm_74]
    · simp only [fX4_readTerm_8, if_neg c, fX4_readTerm_74, a1, a2, a3, g_t, b_d, b_c, b_v, Bool.and_true, Bool.and_self, Bool.true_and, if_true]
  · have hn' : srN T t p = 42 ∨ srN T t p = 47 ∨ srN T t p = 37 := by
      apply Classical.byContradiction
      intro z
      unfold oTm at hs
      rw [if_neg z] at hs
      cases hs
    unfold oTm at hs
    rw [if_pos hn', Option.some.injEq] at hs
    obtain ⟨s1, s2, s3, s4, s5, s6, s7, s8⟩ := sr_lt hT p
    have k3 := s8 (by omega)
    have hpt := tk_t (T := T) hp (by omega)
    have c : ¬ (1600 : Int32) ≤ nI i := fun z => by have := (xLe (a := 1600) (by omega) (by omega)).mp z; omega
    have e9 := c_sgv hT h (by omega)
    rw [hs] at e9
    have o1 : (20000 : Int32) + nI s = nI (20000 + s) := nI_add 20000 s
    have o2 : nI i + (1 : Int32) = nI (i + 1) := nI_add i 1
    have a1 : fX4_isSign (42 : Int32) C = some (if srN T t p = 42 then 1 else 0, C) := c_isS hT h (c := 42) (by omega) (by omega)
    have a2 : fX4_isSign (47 : Int32) C = some (if srN T t p = 47 then 1 else 0, C) := c_isS hT h (c := 47) (by omega) (by omega)
    have a3 : fX4_isSign (37 : Int32) C = some (if srN T t p = 37 then 1 else 0, C) := c_isS hT h (c := 37) (by omega) (by omega)
    by_cases d1 : srN T t p = 42
    · rw [if_pos d1] at a1
      simp only [fX4_readTerm_8, if_neg c, fX4_readTerm_42, a1, g_t, b_d, b_c, b_v, Bool.and_true, Bool.and_self, Bool.true_and, if_neg t1, kO_1, e9, o1, o2]
    rw [if_neg d1] at a1
    by_cases d2 : srN T t p = 47
    · rw [if_pos d2] at a2
      simp only [fX4_readTerm_8, if_neg c, fX4_readTerm_42, a1, a2, g_t, b_d, b_c, b_v, Bool.and_true, Bool.and_self, Bool.true_and, if_neg t1, if_true, kO_1, e9, o1, o2]
    rw [if_neg d2] at a2
    rw [if_pos (by omega)] at a3
    simp only [fX4_readTerm_8, if_neg c, fX4_readTerm_42, a1, a2, a3, g_t, b_d, b_c, b_v, Bool.and_true, Bool.and_self, Bool.true_and, if_neg t1, if_true, kO_1, e9, o1, o2]
theorem lp_sum (ht : t ≤ 1600) (hT : ∀ k, k < t → T k < 256) (d e : Nat) : lpOK T t a1 (oSm T t) (fP d 4 a1 (nI e)) (fun k i => fX4_readSum_8 a1 (fP d) k (nI e) (nI i)) := by
  have t1 : ¬ (1 : Int32) = 0 := by decide
  refine ⟨fun k i C w pl hi h => ?_, fun k i C p hi hp hc h hn => ?_, fun k i C p s hi hp hc h hs => ?_⟩
  · by_cases c : (1600 : Int32) ≤ nI i
    · simp only [fX4_readSum_8, if_pos c, fX4_readSum_65]
    · simp only [fX4_readSum_8, if_neg c, fX4_readSum_65, c_isSD h, g_t, b_d, b_c, b_v, Bool.and_true, Bool.and_self, Bool.true_and, if_true]
  · have hn' : ¬ (srN T t p = 43 ∨ srN T t p = 45) := fun z => by
      unfold oSm at hn
      rw [if_pos z] at hn
      cases hn
    have a1 : fX4_isSign (43 : Int32) C = some (0, C) := (c_isS hT h (c := 43) (by omega) (by omega)).trans (by rw [if_neg (by omega)])
    have a2 : fX4_isSign (45 : Int32) C = some (0, C) := (c_isS hT h (c := 45) (by omega) (by omega)).trans (by rw [if_neg (by omega)])
    by_cases c : (1600 : Int32) ≤ nI i
    · simp only [fX4_readSum_8, if_pos c, fX4_readSum_65]
    · simp only [fX4_readSum_8, if_neg c, fX4_readSum_65, a1, a2, g_t, b_d, b_c, b_v, Bool.and_true, Bool.and_self, Bool.true_and, if_true]
  · have hn' : srN T t p = 43 ∨ srN T t p = 45 := by
      apply Classical.byContradiction
      intro z
      unfold oSm at hs
      rw [if_neg z] at hs
      cases hs
    unfold oSm at hs
    rw [if_pos hn', Option.some.injEq] at hs
    obtain ⟨s1, s2, s3, s4, s5, s6, s7, s8⟩ := sr_lt hT p
    have k3 := s8 (by omega)
    have hpt := tk_t (T := T) hp (by omega)
    have c : ¬ (1600 : Int32) ≤ nI i := fun z => by have := (xLe (a := 1600) (by omega) (by omega)).mp z; omega
    have e9 := c_sgv hT h (by omega)
    rw [hs] at e9
    have o1 : (20000 : Int32) + nI s = nI (20000 + s) := nI_add 20000 s
    have o2 : nI i + (1 : Int32) = nI (i + 1) := nI_add i 1
    have a1 : fX4_isSign (43 : Int32) C = some (if srN T t p = 43 then 1 else 0, C) := c_isS hT h (c := 43) (by omega) (by omega)
    have a2 : fX4_isSign (45 : Int32) C = some (if srN T t p = 45 then 1 else 0, C) := c_isS hT h (c := 45) (by omega) (by omega)
    by_cases d1 : srN T t p = 43
    · rw [if_pos d1] at a1
      simp only [fX4_readSum_8, if_neg c, fX4_readSum_33, a1, g_t, b_d, b_c, b_v, Bool.and_true, Bool.and_self, Bool.true_and, if_neg t1, kO_1, e9, o1, o2]
    rw [if_neg d1] at a1
    rw [if_pos (by omega)] at a2
    simp only [fX4_readSum_8, if_neg c, fX4_readSum_33, a1, a2, g_t, b_d, b_c, b_v, Bool.and_true, Bool.and_self, Bool.true_and, if_neg t1, if_true, kO_1, e9, o1, o2]
theorem wk_tk {p j : Nat} (hj : j < 15) (h : wkN T t p = cwN j) : tkN T t p = 1 := by
  apply Classical.byContradiction
  intro z
  have e : wkN T t p = 0 := if_neg z
  have := (cw_lt j hj).1
  omega
theorem lp_both (ht : t ≤ 1600) (hT : ∀ k, k < t → T k < 256) (d e : Nat) : lpOK T t a1 (oBo T t) (fP d 2 a1 (nI e)) (fun k i => fX4_readBoth_8 a1 (fP d) k (nI e) (nI i)) := by
  have t1 : ¬ (1 : Int32) = 0 := by decide
  refine ⟨fun k i C w pl hi h => ?_, fun k i C p hi hp hc h hn => ?_, fun k i C p s hi hp hc h hs => ?_⟩
  · have a1 : fX4_isWord 900010 C = some (0, C) := c_isWD h (j := 10) (by omega)
    by_cases c : (1600 : Int32) ≤ nI i
    · simp only [fX4_readBoth_8, if_pos c, fX4_readBoth_47]
    · simp only [fX4_readBoth_8, if_neg c, fX4_readBoth_47, a1, g_t, b_d, b_c, b_v, Bool.and_true, Bool.and_self, Bool.true_and, if_true]
  · have hn' : ¬ wkN T t p = cwN 10 := fun z => by
      unfold oBo at hn
      rw [if_pos z] at hn
      cases hn
    have a1 : fX4_isWord 900010 C = some (0, C) := (c_isW ht hT hp hc h (j := 10) (by omega)).trans (by rw [if_neg hn'])
    by_cases c : (1600 : Int32) ≤ nI i
    · simp only [fX4_readBoth_8, if_pos c, fX4_readBoth_47]
    · simp only [fX4_readBoth_8, if_neg c, fX4_readBoth_47, a1, g_t, b_d, b_c, b_v, Bool.and_true, Bool.and_self, Bool.true_and, if_true]
  · have hn' : wkN T t p = cwN 10 := by
      apply Classical.byContradiction
      intro z
      unfold oBo at hs
      rw [if_neg z] at hs
      cases hs
    unfold oBo at hs
    rw [if_pos hn', Option.some.injEq] at hs
    have k1 := wk_tk (by omega) hn'
    have hpt := tk_t (T := T) hp (by omega)
    have c : ¬ (1600 : Int32) ≤ nI i := fun z => by have := (xLe (a := 1600) (by omega) (by omega)).mp z; omega
    have o2 : nI i + (1 : Int32) = nI (i + 1) := nI_add i 1
    have a1 : fX4_isWord 900010 C = some (1, C) := (c_isW ht hT hp hc h (j := 10) (by omega)).trans (by rw [if_pos hn'])
    subst hs
    simp only [fX4_readBoth_8, if_neg c, a1, g_t, b_d, b_c, b_v, Bool.and_true, Bool.and_self, Bool.true_and, if_neg t1, o2]
    rfl
theorem lp_either (ht : t ≤ 1600) (hT : ∀ k, k < t → T k < 256) (d e : Nat) : lpOK T t a1 (oEi T t) (fP d 1 a1 (nI e)) (fun k i => fX4_readEither_8 a1 (fP d) k (nI e) (nI i)) := by
  have t1 : ¬ (1 : Int32) = 0 := by decide
  refine ⟨fun k i C w pl hi h => ?_, fun k i C p hi hp hc h hn => ?_, fun k i C p s hi hp hc h hs => ?_⟩
  · have a1 : fX4_isWord 900009 C = some (0, C) := c_isWD h (j := 9) (by omega)
    by_cases c : (1600 : Int32) ≤ nI i
    · simp only [fX4_readEither_8, if_pos c, fX4_readEither_47]
    · simp only [fX4_readEither_8, if_neg c, fX4_readEither_47, a1, g_t, b_d, b_c, b_v, Bool.and_true, Bool.and_self, Bool.true_and, if_true]
  · have hn' : ¬ wkN T t p = cwN 9 := fun z => by
      unfold oEi at hn
      rw [if_pos z] at hn
      cases hn
    have a1 : fX4_isWord 900009 C = some (0, C) := (c_isW ht hT hp hc h (j := 9) (by omega)).trans (by rw [if_neg hn'])
    by_cases c : (1600 : Int32) ≤ nI i
    · simp only [fX4_readEither_8, if_pos c, fX4_readEither_47]
    · simp only [fX4_readEither_8, if_neg c, fX4_readEither_47, a1, g_t, b_d, b_c, b_v, Bool.and_true, Bool.and_self, Bool.true_and, if_true]
  · have hn' : wkN T t p = cwN 9 := by
      apply Classical.byContradiction
      intro z
      unfold oEi at hs
      rw [if_neg z] at hs
      cases hs
    unfold oEi at hs
    rw [if_pos hn', Option.some.injEq] at hs
    have k1 := wk_tk (by omega) hn'
    have hpt := tk_t (T := T) hp (by omega)
    have c : ¬ (1600 : Int32) ≤ nI i := fun z => by have := (xLe (a := 1600) (by omega) (by omega)).mp z; omega
    have o2 : nI i + (1 : Int32) = nI (i + 1) := nI_add i 1
    have a1 : fX4_isWord 900009 C = some (1, C) := (c_isW ht hT hp hc h (j := 9) (by omega)).trans (by rw [if_pos hn'])
    subst hs
    simp only [fX4_readEither_8, if_neg c, a1, g_t, b_d, b_c, b_v, Bool.and_true, Bool.and_self, Bool.true_and, if_neg t1, o2]
    rfl
/-- what an operator's token is -/
theorem op_tm (hT : ∀ k, k < t → T k < 256) (p s : Nat) (h : oTm T t p = some s) : isOq s ∧ s ≠ 21 ∧ tghN s = 6 ∧ sgO T t p = s ∧ srN T t p ≠ 41 ∧ tkN T t p ≠ 4 ∧ tkN T t p ≠ 0 := by
  unfold oTm at h
  by_cases z : srN T t p = 42 ∨ srN T t p = 47 ∨ srN T t p = 37
  · rw [if_pos z, Option.some.injEq] at h
    obtain ⟨s1, s2, s3, s4, s5, s6, s7, s8⟩ := sr_lt hT p
    have k3 := s8 (by omega)
    have w0 : wkN T t p = 0 := if_neg (by omega)
    have c9 := (cw_lt 9 (by omega)).1
    have c10 := (cw_lt 10 (by omega)).1
    subst h
    refine ⟨by unfold isOq; omega, by omega, ?_, ?_, by omega, by omega, by omega⟩
    · unfold tghN
      rw [if_neg (by omega), if_neg (by omega), if_neg (by omega), if_neg (by omega), if_neg (by omega)]
    · unfold sgO
      rw [if_neg (by omega), if_neg (by omega), if_pos (by omega)]
  · rw [if_neg z] at h
    cases h
theorem op_sm (hT : ∀ k, k < t → T k < 256) (p s : Nat) (h : oSm T t p = some s) : isOq s ∧ s ≠ 21 ∧ tghN s = 5 ∧ sgO T t p = s ∧ srN T t p ≠ 41 ∧ tkN T t p ≠ 4 ∧ tkN T t p ≠ 0 := by
  unfold oSm at h
  by_cases z : srN T t p = 43 ∨ srN T t p = 45
  · rw [if_pos z, Option.some.injEq] at h
    obtain ⟨s1, s2, s3, s4, s5, s6, s7, s8⟩ := sr_lt hT p
    have k3 := s8 (by omega)
    have w0 : wkN T t p = 0 := if_neg (by omega)
    have c9 := (cw_lt 9 (by omega)).1
    have c10 := (cw_lt 10 (by omega)).1
    subst h
    refine ⟨by unfold isOq; omega, by omega, ?_, ?_, by omega, by omega, by omega⟩
    · unfold tghN
      rw [if_neg (by omega), if_neg (by omega), if_neg (by omega), if_neg (by omega), if_pos (by omega)]
    · unfold sgO
      rw [if_neg (by omega), if_neg (by omega), if_pos (by omega)]
  · rw [if_neg z] at h
    cases h
theorem op_bo (hT : ∀ k, k < t → T k < 256) (p s : Nat) (h : oBo T t p = some s) : isOq s ∧ s ≠ 21 ∧ tghN s = 2 ∧ sgO T t p = s ∧ srN T t p ≠ 41 ∧ tkN T t p ≠ 4 ∧ tkN T t p ≠ 0 := by
  unfold oBo at h
  by_cases z : wkN T t p = cwN 10
  · rw [if_pos z, Option.some.injEq] at h
    obtain ⟨s1, s2, s3, s4, s5, s6, s7, s8⟩ := sr_lt hT p
    have k1 := wk_tk (by omega) z
    have := s5.mpr k1
    subst h
    exact ⟨by unfold isOq; omega, by omega, by decide, by unfold sgO; rw [if_pos z], by omega, by omega, by omega⟩
  · rw [if_neg z] at h
    cases h
theorem op_ei (hT : ∀ k, k < t → T k < 256) (p s : Nat) (h : oEi T t p = some s) : isOq s ∧ s ≠ 21 ∧ tghN s = 1 ∧ sgO T t p = s ∧ srN T t p ≠ 41 ∧ tkN T t p ≠ 4 ∧ tkN T t p ≠ 0 := by
  unfold oEi at h
  by_cases z : wkN T t p = cwN 9
  · rw [if_pos z, Option.some.injEq] at h
    obtain ⟨s1, s2, s3, s4, s5, s6, s7, s8⟩ := sr_lt hT p
    have k1 := wk_tk (by omega) z
    have := s5.mpr k1
    have hne : cwN 9 ≠ cwN 10 := by decide +kernel
    subst h
    exact ⟨by unfold isOq; omega, by omega, by decide, by unfold sgO; rw [z, if_neg hne, if_pos rfl], by omega, by omega, by omega⟩
  · rw [if_neg z] at h
    cases h
end
