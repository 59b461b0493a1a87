/-! TRUTHS: learn. -/
theorem shl8 : ∀ x, x < 6 → (1 : Int32) <<< (nI (3 * x) &&& 31) = nI (8 ^ x) := by decide +kernel
theorem c_ln67 : ∀ (m i k : Nat) (C : mT), i + m = 5 → m < k → ∃ C', (∀ k0, fX10_learn_67 k (nI i) C = fX10_learn_67 (k0 + 1) (nI 5) C') ∧ (∀ h v, i ≤ h → h < 5 → v < 8 → C'.1 (122 + h) v = nI 0) ∧ (∀ h v, h < i → C'.1 (122 + h) v = C.1 (122 + h) v) ∧ ∀ a j, (a < 122 ∨ 126 < a) → C'.1 a j = C.1 a j
  | 0, i, k, C, hi, hk => by
    obtain ⟨k', rfl⟩ := up1 hk
    have hi : i = 5 := by omega
    subst hi
    have c : (5 : Int32) ≤ nI 5 := by decide
    exact ⟨C, fun k0 => by simp only [fX10_learn_67, if_pos c], fun h v h1 h2 _ => by omega, fun _ _ _ => rfl, fun _ _ _ => rfl⟩
  | m + 1, i, k, C, hi, hk => by
    obtain ⟨k', rfl⟩ := up1 hk
    have c : ¬ (5 : Int32) ≤ nI i := fun y => by have := (xLe (a := 5) (by omega) (by omega)).mp y; omega
    have o1 : nI i + (1 : Int32) = nI (i + 1) := nI_add i 1
    obtain ⟨C1, f1, f2, f3⟩ := s_fill (st_121 i (by omega)) (blt_of (by omega)) (by omega) (0 : Int32) C
    obtain ⟨C', r1, r2, r3, r4⟩ := c_ln67 m (i + 1) k' C1 (by omega) (by omega)
    refine ⟨C', fun k0 => ?_, fun h v h1 h2 h3 => ?_, fun h v hh => by rw [r3 h v (by omega), f3 _ _ (by omega)], fun a j g => by rw [r4 a j g, f3 _ _ (by omega)]⟩
    · rw [← r1 k0]
      conv => lhs; unfold fX10_learn_67
      rw [if_neg c]
      simp (disch := omega) only [kR_121, kO_120, g_t, b_d, b_c, b_v, Bool.and_true, Bool.and_self, Bool.true_and, xIx, xIn, rw_121, f1, o1]
    · by_cases q : h = i
      · rw [q, r3 i v (by omega)]
        exact f2 v h3
      · exact r2 h v (by omega) h2 h3
theorem c_ln136 {n : Nat} (hn : n ≤ 5) {q : Int32} : ∀ (m h k : Nat) (C : mT), h + m = n → m < k → C.1 120 9 = nI n → C.1 120 8 = q → ∃ C', fX10_learn_136 k (nI h) C = some C' ∧ (∀ h' v, h ≤ h' → h' < n → v < 8 → C'.1 (122 + h') v = q / 8) ∧ (∀ h' v, h' < h → C'.1 (122 + h') v = C.1 (122 + h') v) ∧ ∀ a j, (a < 122 ∨ 126 < a) → C'.1 a j = C.1 a j
  | 0, h, k, C, hh, hk, e9, e8 => by
    obtain ⟨k', rfl⟩ := up1 hk
    have hh : h = n := by omega
    subst hh
    have c : nI h ≤ nI h := Int32.le_refl _
    exact ⟨C, by simp only [fX10_learn_136, kO_120, g_t, b_d, b_c, b_v, Bool.and_true, Bool.and_self, Bool.true_and, e9, if_pos c], fun h v h1 h2 _ => by omega, fun _ _ _ => rfl, fun _ _ _ => rfl⟩
  | m + 1, h, k, C, hh, hk, e9, e8 => by
    obtain ⟨k', rfl⟩ := up1 hk
    have c : ¬ nI n ≤ nI h := fun y => by have := (xLe (by omega) (by omega)).mp y; omega
    have o1 : nI h + (1 : Int32) = nI (h + 1) := nI_add h 1
    have d8 : decide (¬ (8 : Int32) = 0) = true := by decide
    obtain ⟨C1, f1, f2, f3⟩ := s_fill (st_121 h (by omega)) (blt_of (by omega)) (by omega) (q / 8) C
    obtain ⟨C', r1, r2, r3, r4⟩ := c_ln136 hn (q := q) m (h + 1) k' C1 (by omega) (by omega) (by rw [f3 _ _ (by omega)]; exact e9) (by rw [f3 _ _ (by omega)]; exact e8)
    refine ⟨C', ?_, fun h' v h1 h2 h3 => ?_, fun h' v hh => by rw [r3 h' v (by omega), f3 _ _ (by omega)], fun a j g => by rw [r4 a j g, f3 _ _ (by omega)]⟩
    · rw [← r1]
      conv => lhs; unfold fX10_learn_136
      rw [kO_120, e9, if_neg c, d8, e8]
      simp (disch := omega) only [kR_121, kO_120, g_t, b_d, b_c, b_v, Bool.and_true, Bool.and_self, Bool.true_and, xIx, xIn, rw_121, f1, o1]
    · by_cases z : h' = h
      · rw [z, r3 h v (by omega)]
        exact f2 v h3
      · exact r2 h' v (by omega) h2 h3
section
variable {n r : Nat} {st lo hi : Nat → Nat} {c : Nat → Bool}
theorem ctx_mv {C C' : mT} (hn : n ≤ 5) (h : ctx n r st lo hi c C) (e1 : C'.1 120 12 = C.1 120 12) (e2 : C'.1 120 13 = C.1 120 13) (e : ∀ a j, 127 ≤ a → a ≤ 137 → a ≠ 130 → C'.1 a j = C.1 a j) : ctx n r st lo hi c C' := by
  obtain ⟨h1, h2, h3, h4⟩ := h
  refine ⟨e1.trans h1, e2.trans h2, fun s hs => by rw [e _ _ (by omega) (by omega) (by omega), e _ _ (by omega) (by omega) (by omega)]; exact h3 s hs, fun h hh => ?_⟩
  obtain ⟨u1, u2⟩ := h4 h hh
  exact ⟨by rw [e _ _ (by omega) (by omega) (by omega)]; exact u1, fun x hx hx2 => by rw [e _ _ (by omega) (by omega) (by omega)]; exact u2 x hx hx2⟩
theorem p32 (hn : n ≤ 5) : 2 ^ n ≤ 32 := Nat.le_trans (Nat.pow_le_pow_right (by omega) hn) (by decide)
theorem c_ln24 (hn : n ≤ 5) (hr : r ≤ 30) (hst : ∀ j, j < r → 1 ≤ st j ∧ st j < 2 ^ n ∧ lo j ≤ 35 ∧ hi j ≤ 35) {S : mT} (h : cRp r st lo hi S) (h0 : S.1 130 0 = nI 0) (t : Int32) : ∃ C', fX10_learn_24 t (nI n) S = some C' ∧ C'.1 120 14 = 1 ∧ C'.1 120 10 = t ∧ C'.1 120 9 = nI n ∧ C'.1 120 11 = -1 ∧ C'.1 120 8 = nI (cN (tru n r st lo hi (bI t)) (8 ^ n)) ∧ (∀ h v, h < n → v < 8 → C'.1 (122 + h) v = nI (cN (truH n (tru n r st lo hi (bI t)) h v) (8 ^ n))) ∧ ctx n r st lo hi (bI t) C' ∧ C'.1 130 0 = nI 0 ∧ C'.1 120 7 = S.1 120 7 ∧ ∀ a j, (a < 120 ∨ 137 < a) → C'.1 a j = S.1 a j := by
  have hp := p32 hn
  have hst' : ∀ j, j < r → st j < 32 ∧ lo j ≤ 35 ∧ hi j ≤ 35 := fun j hj => by
    obtain ⟨a1, a2, a3, a4⟩ := hst j hj
    exact ⟨by omega, a3, a4⟩
  generalize hS4 : sI (sI (sI (sI S 120 14 (1 : Int32)) 120 10 t) 120 9 (nI n)) 120 11 (-1 : Int32) = S4
  have e4 : ∀ a j, a ≠ 120 → S4.1 a j = S.1 a j := fun a j g => by rw [← hS4, sI_rd, if_neg (by omega), sI_rd, if_neg (by omega), sI_rd, if_neg (by omega), sI_rd, if_neg (by omega)]
  have e4a : S4.1 120 14 = 1 := by rw [← hS4, sI_rd, if_neg (by omega), sI_rd, if_neg (by omega), sI_rd, if_neg (by omega), sI_rd, if_pos ⟨rfl, rfl⟩]
  have e4b : S4.1 120 10 = t := by rw [← hS4, sI_rd, if_neg (by omega), sI_rd, if_neg (by omega), sI_rd, if_pos ⟨rfl, rfl⟩]
  have e4c : S4.1 120 9 = nI n := by rw [← hS4, sI_rd, if_neg (by omega), sI_rd, if_pos ⟨rfl, rfl⟩]
  have e4d : S4.1 120 11 = -1 := by rw [← hS4, sI_rd, if_pos ⟨rfl, rfl⟩]
  have e4e : S4.1 120 7 = S.1 120 7 := by rw [← hS4, sI_rd, if_neg (by omega), sI_rd, if_neg (by omega), sI_rd, if_neg (by omega), sI_rd, if_neg (by omega)]
  obtain ⟨S5, f1, f2, f3⟩ := s_fill s_127 (by decide +kernel) (by omega) (0 : Int32) S4
  obtain ⟨S6, g1, g2, g3⟩ := s_fill s_128 (by decide +kernel) (by omega) (35 : Int32) S5
  have e6 : ∀ a j, a ≠ 127 → a ≠ 128 → S6.1 a j = S4.1 a j := fun a j q1 q2 => by rw [g3 a j q2, f3 a j q1]
  have em : S6.1 120 10 = t := by rw [e6 _ _ (by omega) (by omega)]; exact e4b
  obtain ⟨t', S7, r1, r2, r3, r4⟩ := c_tr21 hr hst' r 0 mK 0 S6 (by omega) (by have := mK_gt; omega) ⟨by rw [e6 _ _ (by omega) (by omega), e4 _ _ (by omega)]; exact h.1, fun j hj => by
    rw [e6 _ _ (by omega) (by omega), e4 _ _ (by omega), e6 _ _ (by omega) (by omega), e4 _ _ (by omega), e6 _ _ (by omega) (by omega), e4 _ _ (by omega)]
    exact h.2 j hj⟩ (fun s hs => ⟨by rw [g3 _ _ (by omega), f2 s hs]; rfl, by rw [g2 s hs]; rfl⟩) (fun x _ => by rw [bI_0]; rfl)
  rw [em] at r2 r3
  have e7 : ∀ a j, a ≠ 127 → a ≠ 128 → S7.1 a j = S4.1 a j := fun a j q1 q2 => by rw [r4 a j q1 q2, e6 a j q1 q2]
  obtain ⟨C8, l1, l2, l3⟩ := c_ls5 kLs129 (td := tdS (bI t) st r) r3 hn n 0 mK S7 (by omega) (by have := mK_gt; omega) (fun h' hh => absurd hh (Nat.not_lt_zero _))
  have hff : ∀ j, j < r → bI t j = true → st j < 2 ^ ffN (tdS (bI t) st r) n := fun j hj hc => ffN_lt ((tdS_iff r).mpr ⟨j, hj, hc, rfl⟩) (hst j hj).1 (hst j hj).2.1
  have hfn := ffN_le (tdS (bI t) st r) n
  have e8 : ∀ a j, (a < 127 ∨ 137 < a) → C8.1 a j = S4.1 a j := fun a j q => by rw [l3 a j (by omega), e7 a j (by omega) (by omega)]
  have e8b : C8.1 130 0 = nI 0 := by rw [l3 _ _ (by omega), e7 _ _ (by omega) (by omega), e4 _ _ (by omega)]; exact h0
  generalize hC9 : sI C8 120 12 (nI (ffN (tdS (bI t) st r) n)) = C9
  have e9 : ∀ a j, ¬ (a = 120 ∧ j = 12) → C9.1 a j = C8.1 a j := fun a j q => by rw [← hC9, sI_rd, if_neg q]
  obtain ⟨C10, m1, m2, _, m4⟩ := c_ln67 5 0 mK C9 (by omega) (by have := mK_gt; omega)
  generalize hD : sI C10 120 13 (nI (8 ^ (n - ffN (tdS (bI t) st r) n))) = D
  have eD : ∀ a j, (a < 122 ∨ 126 < a) → ¬ (a = 120 ∧ j = 13) → ¬ (a = 120 ∧ j = 12) → D.1 a j = C8.1 a j := fun a j q1 q2 q3 => by rw [← hD, sI_rd, if_neg q2, m4 a j q1, e9 a j q3]
  have eD12 : D.1 120 12 = nI (ffN (tdS (bI t) st r) n) := by rw [← hD, sI_rd, if_neg (by omega), m4 _ _ (by omega), ← hC9, sI_rd, if_pos ⟨rfl, rfl⟩]
  have eD13 : D.1 120 13 = nI (8 ^ (n - ffN (tdS (bI t) st r) n)) := by rw [← hD, sI_rd, if_pos ⟨rfl, rfl⟩]
  have eDt : ∀ h v, h < 5 → v < 8 → D.1 (122 + h) v = nI 0 := fun h v q1 q2 => by rw [← hD, sI_rd, if_neg (by omega)]; exact m2 h v (by omega) q1 q2
  have eD0 : D.1 130 0 = nI 0 := by rw [eD _ _ (by omega) (by omega) (by omega)]; exact e8b
  have cD : ctx n r st lo hi (bI t) D := ⟨eD12, eD13, fun s hs => by
    rw [eD _ _ (by omega) (by omega) (by omega), eD _ _ (by omega) (by omega) (by omega), l3 _ _ (by omega), l3 _ _ (by omega)]
    exact r2 s hs, fun h hh => by
    obtain ⟨u1, u2⟩ := l2 h hh
    exact ⟨by rw [eD _ _ (by omega) (by omega) (by omega)]; exact u1, fun x hx hx2 => by rw [eD _ _ (by omega) (by omega) (by omega)]; exact u2 x hx hx2⟩⟩
  -- the end: the count is kept, houses of which nothing is told have their share
  have fin : ∀ E : mT, fT D E → E.1 130 0 = nI 0 → (∀ h v, h < ffN (tdS (bI t) st r) n → v < 8 → E.1 (122 + h) v = nI (cN (truH n (tru n r st lo hi (bI t)) h v) (8 ^ n))) → ∃ C', fX10_learn_127 (nI (cN (tru n r st lo hi (bI t)) (8 ^ n))) E = some C' ∧ C'.1 120 14 = 1 ∧ C'.1 120 10 = t ∧ C'.1 120 9 = nI n ∧ C'.1 120 11 = -1 ∧ C'.1 120 8 = nI (cN (tru n r st lo hi (bI t)) (8 ^ n)) ∧ (∀ h v, h < n → v < 8 → C'.1 (122 + h) v = nI (cN (truH n (tru n r st lo hi (bI t)) h v) (8 ^ n))) ∧ ctx n r st lo hi (bI t) C' ∧ C'.1 130 0 = nI 0 ∧ C'.1 120 7 = S.1 120 7 ∧ ∀ a j, (a < 120 ∨ 137 < a) → C'.1 a j = S.1 a j := fun E fE e0 et => by
    generalize hF : sI E 120 8 (nI (cN (tru n r st lo hi (bI t)) (8 ^ n))) = F
    have eF : ∀ a j, a ≠ 130 → (a < 122 ∨ 126 < a) → ¬ (a = 120 ∧ j = 8) → F.1 a j = D.1 a j := fun a j q1 q2 q3 => by rw [← hF, sI_rd, if_neg q3]; exact fE a j q1 q2
    have eF8 : F.1 120 8 = nI (cN (tru n r st lo hi (bI t)) (8 ^ n)) := by rw [← hF, sI_rd, if_pos ⟨rfl, rfl⟩]
    have eF12 : F.1 120 12 = nI (ffN (tdS (bI t) st r) n) := by rw [eF _ _ (by omega) (by omega) (by omega)]; exact eD12
    have eF9 : F.1 120 9 = nI n := by rw [eF _ _ (by omega) (by omega) (by omega), eD _ _ (by omega) (by omega) (by omega), e8 _ _ (by omega)]; exact e4c
    obtain ⟨C', w1, w2, w3, w4⟩ := c_ln136 hn (n - ffN (tdS (bI t) st r) n) (ffN (tdS (bI t) st r) n) mK F (by omega) (by have := mK_gt; omega) eF9 eF8
    have eC : ∀ a j, a ≠ 130 → (a < 122 ∨ 126 < a) → ¬ (a = 120 ∧ j = 8) → C'.1 a j = D.1 a j := fun a j q1 q2 q3 => by rw [w4 a j q2]; exact eF a j q1 q2 q3
    have eC4 : ∀ j, j ≠ 8 → j ≠ 12 → j ≠ 13 → C'.1 120 j = S4.1 120 j := fun j q1 q2 q3 => by rw [eC _ _ (by omega) (by omega) (by omega), eD _ _ (by omega) (by omega) (by omega), e8 _ _ (by omega)]
    refine ⟨C', ?_, by rw [eC4 _ (by omega) (by omega) (by omega)]; exact e4a, by rw [eC4 _ (by omega) (by omega) (by omega)]; exact e4b, by rw [eC4 _ (by omega) (by omega) (by omega)]; exact e4c, by rw [eC4 _ (by omega) (by omega) (by omega)]; exact e4d, by rw [w4 _ _ (by omega)]; exact eF8, fun h v hh hv => ?_, ctx_mv hn cD (eC _ _ (by omega) (by omega) (by omega)) (eC _ _ (by omega) (by omega) (by omega)) (fun a j q1 q2 q3 => eC a j q3 (by omega) (by omega)), ?_, by rw [eC4 _ (by omega) (by omega) (by omega)]; exact e4e, fun a j q => ?_⟩
    · unfold fX10_learn_127
      rw [kO_120, Bool.and_true, g_t, b_d, hF, g_t, b_d, eF12]
      exact w1
    · by_cases z : h < ffN (tdS (bI t) st r) n
      · rw [w3 h v z, ← hF, sI_rd, if_neg (by omega)]
        exact et h v z hv
      · rw [w2 h v (by omega) hh hv]
        have hc := free8 (n := n) (r := r) (st := st) (lo := lo) (hi := hi) (c := bI t) (h := ffN (tdS (bI t) st r) n) (h' := h) (v := v) hff (by omega) hh hv
        have hle := cN_le (tru n r st lo hi (bI t)) (8 ^ n)
        have hp8 := p8 hn
        rw [show (8 : Int32) = nI 8 from rfl, xDv (by omega) (by omega), hc]
        exact congrArg nI (by omega)
    · rw [w4 _ _ (by omega), ← hF, sI_rd, if_neg (by omega)]
      exact e0
    · rw [eC a j (by omega) (by omega) (by omega), eD _ _ (by omega) (by omega) (by omega), e8 _ _ (by omega), e4 _ _ (by omega)]
  have hstart : fX10_learn_24 t (nI n) S = (if D.1 120 12 = 0 then grd (kO 120 10 && true) (fX10_learn_127 (D.1 120 13) D) else bndC (fX10_countFrom 16 (0 : Int32) D) fun x12 S11 => fX10_learn_127 x12 S11) := by
    have hfit : mFit .boolean (1 : Int32) = true := by decide
    have r1' : fX10_takeReports S4 = some (t', S7) := by
      unfold fX10_takeReports
      rw [kO_120, Bool.and_true, g_t, f1, b_v, g_t, g1, b_v]
      exact r1
    have l1' : fX9_list 129 t' (nI n) S7 = some (nI (ffN (tdS (bI t) st r) n), C8) := l1
    have c5 : (5 : Int32) ≤ nI 5 := by decide
    have e79 : S7.1 120 9 = nI n := by rw [e7 _ _ (by omega) (by omega)]; exact e4c
    have e109 : C10.1 120 9 = nI n := by rw [m4 _ _ (by omega), e9 _ _ (by omega), e8 _ _ (by omega)]; exact e4c
    have e1012 : C10.1 120 12 = nI (ffN (tdS (bI t) st r) n) := by rw [m4 _ _ (by omega), ← hC9, sI_rd, if_pos ⟨rfl, rfl⟩]
    have o1 : nI n - nI (ffN (tdS (bI t) st r) n) = nI (n - ffN (tdS (bI t) st r) n) := xS hfn
    have o2 : (3 : Int32) * nI (n - ffN (tdS (bI t) st r) n) = nI (3 * (n - ffN (tdS (bI t) st r) n)) := xM 3 _
    have m1' := m1 0
    have m1'' : fX10_learn_67 mK (0 : Int32) C9 = fX10_learn_67 (0 + 1) (nI 5) C10 := m1'
    unfold fX10_learn_24
    rw [hfit, kO_120]
    simp only [g_t, b_d, b_c, b_v, Bool.and_true, Bool.and_self, Bool.true_and, hS4, r1', e79, l1', hC9, m1'']
    unfold fX10_learn_67
    rw [if_pos c5, kO_120]
    simp only [g_t, b_d, b_c, b_v, Bool.and_true, Bool.and_self, Bool.true_and, e109, e1012, o1, o2, shl8 _ (by omega : n - ffN (tdS (bI t) st r) n < 6), hD]
  rw [hstart]
  by_cases z : ffN (tdS (bI t) st r) n = 0
  · have z' : D.1 120 12 = 0 := by rw [eD12, z]; rfl
    have ea : cN (tru n r st lo hi (bI t)) (8 ^ n) = 8 ^ n := by
      rw [← cB_cN]
      refine cB_all fun y hy => ?_
      have := okP_all (n := n) (r := r) (st := st) (lo := lo) (hi := hi) (c := bI t) (h := 0) (m := n) (p := 0) (y := y) (by omega) hy (fun j hj _ hs => by have := (hst j hj).1; rw [Nat.pow_zero] at hs; omega) (by rw [z] at hff; exact hff)
      rw [Nat.zero_mul] at this
      exact this
    rw [if_pos z', kO_120, Bool.and_true, g_t]
    have eD13' : D.1 120 13 = nI (cN (tru n r st lo hi (bI t)) (8 ^ n)) := by rw [eD13, z, Nat.sub_zero, ea]
    rw [eD13']
    exact fin D (fT.rf D) eD0 (fun h v q1 _ => by omega)
  · have z' : ¬ D.1 120 12 = 0 := by
      rw [eD12]
      intro q
      exact z ((xEq (b := 0) (by omega) (by omega)).mp q)
    obtain ⟨m, hm⟩ : ∃ m, n = 0 + 1 + m := ⟨n - 1, by omega⟩
    obtain ⟨E, k1, k2, k3, k4⟩ := c_cf hn hr hst' hff m 0 16 0 D hm (by omega) (by omega) (fun j hj _ hs => by have := (hst j hj).1; rw [Nat.pow_zero] at hs; omega) cD (fun x hx => by
      rw [Nat.pow_zero] at hx
      have : x = 0 := by omega
      subst this
      exact eD0)
    have e8n : 8 ^ (m + 1) = 8 ^ n := by rw [hm]; congr 1; omega
    rw [e8n, Nat.zero_mul, cB_cN] at k1
    rw [if_neg z']
    have k1' : fX10_countFrom 16 (0 : Int32) D = _ := k1
    rw [k1', b_c]
    refine fin E k2 (by rw [k3 0 (by decide)]; exact eD0) (fun h v q1 q2 => ?_)
    rw [k4 h v q1 q2, if_pos (Nat.zero_le _), eDt h v (by omega) q2, e8n, Nat.zero_mul, cB_cN, nI_add, Nat.zero_add]
end
