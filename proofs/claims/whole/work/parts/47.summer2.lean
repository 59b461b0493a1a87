/-! The class's summer, second part. -/
section
variable {b : Bool} {n a1 : Nat} {S C : mT}
theorem c_grow1 (ha : a1 = 35 ∨ a1 = 36) (hS : cSt b n S C) (told : ¬ S.1 199 2 = 0) {i : Nat} (hi : i < 5) : ∃ C', fX8_growHouse (shU b) a1 (nI i) C = some C' ∧ cFr b a1 C C' ∧ ∀ j, C'.1 a1 j = if j = i then gH S (shU b) (C.1 a1) i else if j = 5 + i then (if gH S (shU b) (C.1 a1) i < C.1 a1 (5 + i) then gH S (shU b) (C.1 a1) i else C.1 a1 (5 + i)) else C.1 a1 j := by
  have ka := ka_of ha
  have na := na_of (b := b) ha
  have sh : shU b = 3 ∨ shU b = 19 := by cases b; exact Or.inl rfl; exact Or.inr rfl
  obtain ⟨C2, s1, s2, s3⟩ := s_setV b (C.1 a1 i) (C.1 a1 (5 + i)) (C.1 (shU b + 4) i) (C.1 (shU b + 5) i) (C.1 a1 (10 + i)) (C.1 a1 15) C
  have f2 : cFr b a1 C C2 := fun a j _ g2 _ _ => s3 a j g2
  have hS2 := cSt_fr ha f2 hS
  obtain ⟨C3, w1, w2⟩ := c_form (b := b) (f := 2) (by omega) hS2.1.2.2 (by rw [hS2.2.1.2.2.2]; exact told) s2
  have f3 : cFr b a1 C C3 := f2.tr (fun a j _ _ _ g4 => w2 a j (by omega))
  have row3 : ∀ j, C3.1 a1 j = C.1 a1 j := fun j => by rw [w2 _ _ (by omega), s3 _ _ na.1]
  have w1' : fX0_work (shU b + 12) (shU b + 15) C2 = _ := w1
  have eg : lim (C.1 a1 i + lim (fv C2 2 (as6 (C.1 a1 i) (C.1 a1 (5 + i)) (C.1 (shU b + 4) i) (C.1 (shU b + 5) i) (C.1 a1 (10 + i)) (C.1 a1 15))) (-3) 3) 0 7 = gH S (shU b) (C.1 a1) i := by
    rw [fv_eq hS2.2.1, (hS.2.2.1 i).1, (hS.2.2.1 i).2]
    rfl
  generalize hg : gH S (shU b) (C.1 a1) i = g at eg ⊢
  refine ⟨sI (sI C3 a1 i g) a1 (5 + i) (if g < C.1 a1 (5 + i) then g else C.1 a1 (5 + i)), ?_, f3.sI.sI, fun j => ?_⟩
  · have z0 : (0 : Int32) + nI i = nI i := Int32.zero_add _
    have z5 : (5 : Int32) + nI i = nI (5 + i) := nI_add 5 i
    have z10 : (10 : Int32) + nI i = nI (10 + i) := nI_add 10 i
    have l1 := fun (v : Int32) (T : mT) => s_limited (v := v) (lo := -3) (hi := 3) T (by decide)
    have l2 := fun (v : Int32) (T : mT) => s_limited (v := v) (lo := 0) (hi := 7) T (by decide)
    have q1 : (sI C3 a1 i g).1 a1 i = g := by rw [sI_rd, if_pos ⟨rfl, rfl⟩]
    have q2 : (sI C3 a1 i g).1 a1 (5 + i) = C.1 a1 (5 + i) := by rw [sI_rd, if_neg (by omega), row3]
    simp (disch := omega) only [fX8_growHouse, z0, z5, z10, ka, kO_u, kI_u4, kI_u5, xIn, xIx, i15, j15, g_t, b_d, b_c, b_v, Bool.and_true, Bool.and_self, Bool.true_and, s1, w1', l1, l2, eg, q1, q2]
  · rw [sI_rd]
    by_cases q : j = 5 + i
    · rw [if_pos ⟨rfl, q⟩, if_neg (show ¬ j = i by omega), if_pos q]
    · rw [if_neg (by omega), sI_rd]
      by_cases q' : j = i
      · rw [if_pos ⟨rfl, q'⟩, if_pos q']
      · rw [if_neg (by omega), if_neg q', if_neg q, row3]
theorem gH_congr {S : mT} {u i : Nat} {R T : Nat → Int32} (h1 : R i = T i) (h2 : R (5 + i) = T (5 + i)) (h3 : R (10 + i) = T (10 + i)) (h4 : R 15 = T 15) : gH S u R i = gH S u T i := by
  unfold gH
  rw [h1, h2, h3, h4]
theorem c_year (ha : a1 = 35 ∨ a1 = 36) {R : Nat → Int32} (e : ∀ j, j < 17 → C.1 a1 j = R j) : ∃ C', fX8_passSummer_84 (shU b) a1 C = some C' ∧ cFr b a1 C C' ∧ ∀ j, j < 17 → C'.1 a1 j = r4 R j := by
  refine ⟨sI C a1 15 (C.1 a1 15 + 1), ?_, (cFr.r b a1 C).sI, fun j hj => ?_⟩
  · simp only [fX8_passSummer_84, ka_of ha, i15, j15, g_t, b_d, b_c, b_v, Bool.and_true, Bool.and_self, Bool.true_and]
  · rw [sI_rd]
    unfold r4
    by_cases q : j = 15
    · rw [if_pos ⟨rfl, q⟩, if_pos q, e 15 (by omega)]
    · rw [if_neg (by omega), if_neg q, e j hj]
theorem c_ps64 (ha : a1 = 35 ∨ a1 = 36) (hn : n ≤ 5) (told : ¬ S.1 199 2 = 0) (R : Nat → Int32) : ∀ (m i k : Nat) (C : mT), i + m = n → m < k → cSt b n S C → (∀ j, j < 17 → C.1 a1 j = r3 S (shU b) i R j) → ∃ C', fX8_passSummer_64 (shU b) a1 k (nI i) C = some C' ∧ cFr b a1 C C' ∧ ∀ j, j < 17 → C'.1 a1 j = r4 (r3 S (shU b) n R) j
  | 0, i, k, C, hi, hk, hS, e => by
    obtain ⟨k', rfl⟩ := up1 hk
    have hi : i = n := by omega
    subst hi
    obtain ⟨C', y1, y2, y3⟩ := c_year (b := b) ha e
    refine ⟨C', ?_, y2, y3⟩
    rw [← y1]
    simp (disch := omega) [fX8_passSummer_64, kO_u, g_t, b_d, b_c, b_v, Bool.and_true, Bool.and_self, Bool.true_and, hS.2.2.2, xLe]
  | m + 1, i, k, C, hi, hk, hS, e => by
    obtain ⟨k', rfl⟩ := up1 hk
    obtain ⟨C1, g1, g2, g3⟩ := c_grow1 ha hS told (i := i) (by omega)
    have er : ∀ j, j < 17 → C1.1 a1 j = r3 S (shU b) (i + 1) R j := fun j hj => by
      have eg : gH S (shU b) (C.1 a1) i = gH S (shU b) R i := gH_congr (by rw [e _ (by omega)]; unfold r3; rw [if_neg (by omega), if_neg (by omega)]) (by rw [e _ (by omega)]; unfold r3; rw [if_neg (by omega), if_neg (by omega)]) (by rw [e _ (by omega)]; unfold r3; rw [if_neg (by omega), if_neg (by omega)]) (by rw [e _ (by omega)]; unfold r3; rw [if_neg (by omega), if_neg (by omega)])
      have e5 : C.1 a1 (5 + i) = R (5 + i) := by rw [e _ (by omega)]; unfold r3; rw [if_neg (by omega), if_neg (by omega)]
      rw [g3, eg, e5, e j hj]
      unfold r3
      by_cases q : j = i
      · rw [if_pos q, if_pos (by omega), q]
      · rw [if_neg q]
        by_cases q2 : j = 5 + i
        · rw [if_pos q2, if_neg (show ¬ j < i + 1 by omega), if_pos (show 5 ≤ j ∧ j < 5 + (i + 1) by omega), show j - 5 = i by omega, q2]
        · rw [if_neg q2]
          by_cases q3 : j < i
          · rw [if_pos q3, if_pos (by omega)]
          · by_cases q4 : 5 ≤ j ∧ j < 5 + i
            · rw [if_neg q3, if_pos q4, if_neg (show ¬ j < i + 1 by omega), if_pos (show 5 ≤ j ∧ j < 5 + (i + 1) by omega)]
            · rw [if_neg q3, if_neg q4, if_neg (show ¬ j < i + 1 by omega), if_neg (show ¬ (5 ≤ j ∧ j < 5 + (i + 1)) by omega)]
    obtain ⟨C', h1, h2, h3⟩ := c_ps64 ha hn told R m (i + 1) k' C1 (by omega) (by omega) (cSt_fr ha g2 hS) er
    refine ⟨C', ?_, g2.tr h2, h3⟩
    rw [← h1]
    have c : ¬ n ≤ i := by omega
    simp (disch := omega) [fX8_passSummer_64, kO_u, g_t, b_d, b_c, b_v, Bool.and_true, Bool.and_self, Bool.true_and, xL, xN1, nI_add, xM, xS, xP, xIx, xIn, xLe, xLt, xEq, xDv, hS.2.2.2, c, g1]
theorem c_tail (ha : a1 = 35 ∨ a1 = 36) (hn : n ≤ 5) {Y : Nat} {R : Nat → Int32} (ok : okR Y R) (hS : cSt b n S C) (e : ∀ j, j < 17 → C.1 a1 j = R j) {k : Nat} (h0 : nI n ≤ nI n) : ∃ C', fX8_passSummer_2 (shU b) a1 (k + 1) (nI n) C = some C' ∧ cFr b a1 C C' ∧ ∀ j, j < 17 → C'.1 a1 j = r4 (if S.1 199 2 = 0 then r2 n R else r3 S (shU b) n (r2 n R)) j := by
  have ok0 := ok
  obtain ⟨_, _, s, _, hs, _, es⟩ := ok
  have hs16 : mIx (R 16) = s := by rw [es, xIx (by omega)]
  have hsd := sdN_lt (R := R)
  have esd : sdN R = (s * 137 + 71) % 1000 := by unfold sdN; rw [hs16]
  have f1 : cFr b a1 C (sI C a1 16 (nI (sdN R))) := (cFr.r b a1 C).sI
  have hS1 := cSt_fr ha f1 hS
  obtain ⟨C2, m1, m2, m3⟩ := c_magpie (C := sI C a1 16 (nI (sdN R))) ha hn hS1 (sd := sdN R) (R := R) hsd (fun j hj => by
    rw [sI_rd]
    by_cases q : j = 16
    · rw [if_pos ⟨rfl, q⟩, if_pos q]
    · rw [if_neg (by omega), if_neg q, e j hj]) ok0
  have hS2 := cSt_fr ha m2 hS1
  have e2 : ∀ j, j < 17 → C2.1 a1 j = r2 n R j := m3
  have t0 : C2.1 (shU b + 12) 4 = S.1 199 2 := by
    rw [← hS2.2.1.2.2.2]
    exact told_eq hS2.1.2.2
  have c1 : (decide (¬ nI 1000 = nI 0)) = true := by decide
  have d1 : nI s * nI 137 + nI 71 = nI (s * 137 + 71) := by rw [xM, nI_add]
  have d2 : nI (s * 137 + 71) - nI (s * 137 + 71) / nI 1000 * nI 1000 = nI (sdN R) := by rw [xMd (by omega) (by omega), esd]
  have i16 : mIx (nI 16) = 16 := rfl
  have z16 : mIn (nI 16) 17 = true := rfl
  have e16 : C.1 a1 16 = nI s := by rw [e 16 (by omega)]; exact es
  by_cases c : S.1 199 2 = 0
  · obtain ⟨C', y1, y2, y3⟩ := c_year (b := b) ha e2
    refine ⟨C', ?_, (f1.tr m2).tr y2, fun j hj => by rw [if_pos c]; exact y3 j hj⟩
    have t1 : C2.1 (shU b + 12) 4 = nI 0 := t0.trans c
    rw [← y1]
    simp (disch := omega) only [fX8_passSummer_2, kO_u, kO_u12, ka_of ha, g_t, b_d, b_c, b_v, Bool.and_true, Bool.and_self, Bool.true_and, xL, hS.2.2.2, if_pos h0, i16, z16, e16, c1, d1, d2, m1, t1, if_true]
  · obtain ⟨C', y1, y2, y3⟩ := c_ps64 ha hn c (r2 n R) n 0 mK C2 (by omega) (by have := mK_gt; omega) hS2 (fun j hj => by
      rw [e2 j hj]
      unfold r3
      rw [if_neg (by omega), if_neg (by omega)])
    refine ⟨C', ?_, (f1.tr m2).tr y2, fun j hj => by rw [if_neg c]; exact y3 j hj⟩
    have t1 : ¬ C2.1 (shU b + 12) 4 = nI 0 := by rw [t0]; exact c
    rw [← y1]
    simp (disch := omega) only [fX8_passSummer_2, kO_u, kO_u12, ka_of ha, g_t, b_d, b_c, b_v, Bool.and_true, Bool.and_self, Bool.true_and, xL, hS.2.2.2, if_pos h0, i16, z16, e16, c1, d1, d2, m1, if_neg t1]
theorem c_ps2 (ha : a1 = 35 ∨ a1 = 36) (hn : n ≤ 5) {Y : Nat} {R : Nat → Int32} (ok : okR Y R) : ∀ (m i k : Nat) (C : mT), i + m = n → m < k → cSt b n S C → (∀ j, j < 17 → C.1 a1 j = r1 S (shU b) i R j) → ∃ C', fX8_passSummer_2 (shU b) a1 k (nI i) C = some C' ∧ cFr b a1 C C' ∧ ∀ j, j < 17 → C'.1 a1 j = smr S (shU b) n R j
  | 0, i, k, C, hi, hk, hS, e => by
    obtain ⟨k', rfl⟩ := up1 hk
    have hi : i = n := by omega
    subst hi
    exact c_tail ha hn (r1_ok hn ok) hS e (Int32.le_refl _)
  | m + 1, i, k, C, hi, hk, hS, e => by
    obtain ⟨k', rfl⟩ := up1 hk
    have na := na_of (b := b) ha
    obtain ⟨C1, g1, g2⟩ := c_stones (b := b) (S := C) (h := i) hS.1 (ka_of ha) na.1 (by omega)
    have f1 : cFr b a1 C C1 := fun a j _ q2 q3 _ => g2 a j q2 q3
    have row1 : ∀ j, C1.1 a1 j = C.1 a1 j := fun j => g2 _ _ na.1 na.2.1
    have ev : stP C (C.1 a1 i) (C.1 a1 (5 + i)) (C.1 (shU b + 4) i) (C.1 (shU b + 5) i) (C.1 a1 15) = r1 S (shU b) (i + 1) R (10 + i) := by
      rw [stP_eq hS.2.1, (hS.2.2.1 i).1, (hS.2.2.1 i).2, e i (by omega), e (5 + i) (by omega), e 15 (by omega)]
      unfold r1
      rw [if_neg (by omega), if_neg (by omega), if_neg (by omega), if_pos (by omega), show 10 + i - 10 = i by omega, show 10 + i - 5 = 5 + i by omega]
    obtain ⟨C', h1, h2, h3⟩ := c_ps2 ha hn ok m (i + 1) k' (sI C1 a1 (10 + i) (r1 S (shU b) (i + 1) R (10 + i))) (by omega) (by omega) (cSt_fr ha f1.sI hS) (fun j hj => by
      rw [sI_rd]
      by_cases q : j = 10 + i
      · rw [if_pos ⟨rfl, q⟩, q]
      · rw [if_neg (by omega), row1, e j hj]
        unfold r1
        by_cases q2 : 10 ≤ j ∧ j < 10 + i
        · rw [if_pos q2, if_pos (by omega)]
        · rw [if_neg q2, if_neg (by omega)])
    refine ⟨C', ?_, f1.sI.tr h2, h3⟩
    rw [← h1]
    rw [ev] at g1
    have c : ¬ nI n ≤ nI i := fun z => by have := (xLe (by omega) (by omega)).mp z; omega
    simp (disch := omega) only [fX8_passSummer_2, kO_u, ka_of ha, g_t, b_d, b_c, b_v, Bool.and_true, Bool.and_self, Bool.true_and, xL, nI_add, xIx, xIn, hS.2.2.2, if_neg c, g1]
theorem c_summer (ha : a1 = 35 ∨ a1 = 36) (hn : n ≤ 5) {Y : Nat} {R : Nat → Int32} (ok : okR Y R) (hS : cSt b n S C) (e : ∀ j, j < 17 → C.1 a1 j = R j) : ∃ C', fX8_passSummer (shU b) a1 C = some C' ∧ cFr b a1 C C' ∧ ∀ j, j < 17 → C'.1 a1 j = smr S (shU b) n R j :=
  c_ps2 ha hn ok n 0 mK C (by omega) (by have := mK_gt; omega) hS (fun j hj => by
    rw [e j hj]
    unfold r1
    rw [if_neg (by omega)])
end
