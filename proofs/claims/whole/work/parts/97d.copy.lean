/-! PROVINCE: what the reference copies. -/
theorem m_p258 : ∀ (m i k : Nat) (S : mT), i + m = 3 → m < k → ∃ S', fX12_province_258 k (nI i) S = some (S.1 187 37, S') ∧ (∀ j, i ≤ j → j < 3 → S'.1 231 j = 0) ∧ ∀ a j, ¬ (a = 231 ∧ i ≤ j) → S'.1 a j = S.1 a j
  | 0, i, k, S, hi, hk => by
    obtain ⟨k', rfl⟩ := up1 hk
    have hi : i = 3 := by omega
    subst hi
    have c : (3 : Int32) ≤ nI 3 := by decide
    exact ⟨S, by simp only [fX12_province_258, if_pos c, kO_187, g_t, b_d, b_c, b_v, Bool.and_true, Bool.and_self, Bool.true_and], fun j _ _ => by omega, fun _ _ _ => rfl⟩
  | m + 1, i, k, S, hi, hk => by
    obtain ⟨k', rfl⟩ := up1 hk
    have c : ¬ (3 : Int32) ≤ nI i := fun z => by have := (xLe (a := 3) (by omega) (by omega)).mp z; omega
    have o1 : nI i + (1 : Int32) = nI (i + 1) := nI_add i 1
    have n0 : vp_nar .boolean (0 : Int32) = 0 := by decide
    have b1 : mIn (nI i) 3 = true := xIn (by omega) (by omega)
    have i1 : mIx (nI i) = i := xIx (by omega)
    obtain ⟨S', h1, h2, h3⟩ := m_p258 m (i + 1) k' (sI S 231 i 0) (by omega) (by omega)
    rw [sI_ne (by omega)] at h1
    refine ⟨S', ?_, fun j g1 g2 => ?_, fun a j g => ?_⟩
    · rw [← h1]
      conv => lhs; unfold fX12_province_258
      simp only [if_neg c, kO_187, kB_231, kN_231, g_t, b_d, b_c, b_v, Bool.and_true, Bool.and_self, Bool.true_and, b1, i1, n0, o1]
    · by_cases q : j = i
      · subst q
        rw [h3 _ _ (by omega), sI_eq]
      · exact h2 j (by omega) g2
    · rw [h3 _ _ (by omega), sI_ne (by omega)]
theorem m_p154 {n : Nat} (hn : n ≤ 5) : ∀ (m i k : Nat) (S : mT), i + m = 5 → m < k → S.1 187 37 = nI n → ∃ S', fX12_province_154 k (nI i) S = fX12_province_258 mK (0 : Int32) S' ∧ (∀ j, i ≤ j → j < 5 → S'.1 205 j = S.1 201 j ∧ S'.1 206 j = S.1 203 j ∧ S'.1 207 j = S.1 204 j ∧ S'.1 208 j = if j < n then S.1 202 j else 0) ∧ S'.1 208 16 = S.1 187 36 ∧ S'.1 187 46 = 0 ∧ S'.1 187 47 = 0 ∧ S'.1 187 66 = 0 ∧ S'.1 187 51 = 0 ∧ ∀ a j, ¬ ((a = 205 ∨ a = 206 ∨ a = 207) ∧ i ≤ j) → ¬ (a = 208 ∧ (i ≤ j ∧ j < 5 ∨ j = 16)) → ¬ (a = 187 ∧ (j = 46 ∨ j = 47 ∨ j = 66 ∨ j = 51)) → S'.1 a j = S.1 a j
  | 0, i, k, S, hi, hk, h37 => by
    obtain ⟨k', rfl⟩ := up1 hk
    have hi : i = 5 := by omega
    subst hi
    have c : (5 : Int32) ≤ nI 5 := by decide
    have b16 : mIn (16 : Int32) 18 = true := by decide
    have i16 : mIx (16 : Int32) = 16 := by decide
    refine ⟨sI (sI (sI (sI (sI S 208 16 (S.1 187 36)) 187 46 0) 187 47 0) 187 66 0) 187 51 0, ?_, fun j _ _ => by omega, ?_, ?_, ?_, ?_, ?_, fun a j g1 g2 g3 => ?_⟩
    · simp only [fX12_province_154, if_pos c, kO_187, kI_208, g_t, b_d, b_c, b_v, Bool.and_true, Bool.and_self, Bool.true_and, b16, i16]
    · simp (disch := omega) only [sI_ne, sI_eq]
    · simp (disch := omega) only [sI_ne, sI_eq]
    · simp (disch := omega) only [sI_ne, sI_eq]
    · simp (disch := omega) only [sI_ne, sI_eq]
    · simp (disch := omega) only [sI_eq]
    · simp (disch := omega) only [sI_ne]
  | m + 1, i, k, S, hi, hk, h37 => by
    obtain ⟨k', rfl⟩ := up1 hk
    have c : ¬ (5 : Int32) ≤ nI i := fun z => by have := (xLe (a := 5) (by omega) (by omega)).mp z; omega
    have o1 : nI i + (1 : Int32) = nI (i + 1) := nI_add i 1
    have b1 : mIn (nI i) 5 = true := xIn (by omega) (by omega)
    have b2 : mIn (nI i) 18 = true := xIn (by omega) (by omega)
    have i1 : mIx (nI i) = i := xIx (by omega)
    have hA : (sI S 205 i (S.1 201 i)).1 203 i = S.1 203 i := sI_ne (by omega)
    have hB : (sI (sI S 205 i (S.1 201 i)) 206 i (S.1 203 i)).1 204 i = S.1 204 i := by rw [sI_ne (by omega), sI_ne (by omega)]
    obtain ⟨S1, hS1⟩ : ∃ S1, sI (sI (sI S 205 i (S.1 201 i)) 206 i (S.1 203 i)) 207 i (S.1 204 i) = S1 := ⟨_, rfl⟩
    have e1 : ∀ a j, ¬ ((a = 205 ∨ a = 206 ∨ a = 207) ∧ j = i) → S1.1 a j = S.1 a j := fun a j g => by rw [← hS1, sI_ne (by omega), sI_ne (by omega), sI_ne (by omega)]
    have n1 : S1.1 187 37 = nI n := by rw [e1 _ _ (by omega)]; exact h37
    have n2 : S1.1 202 i = S.1 202 i := e1 _ _ (by omega)
    have run : fX12_province_154 (k' + 1) (nI i) S = fX12_province_154 k' (nI (i + 1)) (sI S1 208 i (if i < n then S.1 202 i else 0)) := by
      conv => lhs; unfold fX12_province_154
      by_cases q : i < n
      · have q' : ¬ nI n ≤ nI i := fun z => by have := (xLe (by omega) (by omega)).mp z; omega
        simp only [fX12_province_218, if_neg c, kO_187, kI_201, kI_202, kI_203, kI_204, kI_205, kI_206, kI_207, kI_208, g_t, b_d, b_c, b_v, Bool.and_true, Bool.and_self, Bool.true_and, b1, b2, i1, hA, hB, hS1, n1, n2, if_neg q', if_pos q, o1]
      · have q' : nI n ≤ nI i := (xLe (by omega) (by omega)).mpr (by omega)
        simp only [fX12_province_218, if_neg c, kO_187, kI_201, kI_202, kI_203, kI_204, kI_205, kI_206, kI_207, kI_208, g_t, b_d, b_c, b_v, Bool.and_true, Bool.and_self, Bool.true_and, b1, b2, i1, hA, hB, hS1, n1, if_pos q', if_neg q, o1]
    obtain ⟨S', h1, h2, h3, h4, h5, h6, h7, h8⟩ := m_p154 hn m (i + 1) k' (sI S1 208 i (if i < n then S.1 202 i else 0)) (by omega) (by omega) (by rw [sI_ne (by omega)]; exact n1)
    refine ⟨S', run.trans h1, fun j g1 g2 => ?_, ?_, h4, h5, h6, h7, fun a j g1 g2 g3 => ?_⟩
    · by_cases q : j = i
      · subst q
        rw [h8 205 _ (by omega) (by omega) (by omega), h8 206 _ (by omega) (by omega) (by omega), h8 207 _ (by omega) (by omega) (by omega), h8 208 _ (by omega) (by omega) (by omega), sI_eq, sI_ne (by omega), sI_ne (by omega), sI_ne (by omega)]
        refine ⟨?_, ?_, ?_, rfl⟩
        · rw [← hS1, sI_ne (by omega), sI_ne (by omega), sI_eq]
        · rw [← hS1, sI_ne (by omega), sI_eq]
        · rw [← hS1, sI_eq]
      · obtain ⟨z1, z2, z3, z4⟩ := h2 j (by omega) g2
        rw [z1, z2, z3, z4, sI_ne (by omega), sI_ne (by omega), sI_ne (by omega), sI_ne (by omega), e1 _ _ (by omega), e1 _ _ (by omega), e1 _ _ (by omega), e1 _ _ (by omega)]
        exact ⟨rfl, rfl, rfl, rfl⟩
    · rw [h3, sI_ne (by omega), e1 _ _ (by omega)]
    · rw [h8 _ _ (by omega) (by omega) (by omega), sI_ne (by omega), e1 _ _ (by omega)]
theorem m_p133 : ∀ (m i k : Nat) (S : mT), i + m = 17 → m < k → ∃ S', fX12_province_133 k (nI i) S = fX12_province_154 mK (0 : Int32) S' ∧ (∀ j, i ≤ j → j < 17 → S'.1 208 j = 0) ∧ ∀ a j, ¬ (a = 208 ∧ i ≤ j) → S'.1 a j = S.1 a j
  | 0, i, k, S, hi, hk => by
    obtain ⟨k', rfl⟩ := up1 hk
    have hi : i = 17 := by omega
    subst hi
    have c : (17 : Int32) ≤ nI 17 := by decide
    exact ⟨S, by simp only [fX12_province_133, if_pos c], fun j _ _ => by omega, fun _ _ _ => rfl⟩
  | m + 1, i, k, S, hi, hk => by
    obtain ⟨k', rfl⟩ := up1 hk
    have c : ¬ (17 : Int32) ≤ nI i := fun z => by have := (xLe (a := 17) (by omega) (by omega)).mp z; omega
    have o1 : nI i + (1 : Int32) = nI (i + 1) := nI_add i 1
    have b1 : mIn (nI i) 18 = true := xIn (by omega) (by omega)
    have i1 : mIx (nI i) = i := xIx (by omega)
    obtain ⟨S', h1, h2, h3⟩ := m_p133 m (i + 1) k' (sI S 208 i 0) (by omega) (by omega)
    refine ⟨S', ?_, fun j g1 g2 => ?_, fun a j g => ?_⟩
    · rw [← h1]
      conv => lhs; unfold fX12_province_133
      simp only [if_neg c, kO_187, kI_208, g_t, b_d, b_c, b_v, Bool.and_true, Bool.and_self, Bool.true_and, b1, i1, o1]
    · by_cases q : j = i
      · subst q
        rw [h3 _ _ (by omega), sI_eq]
      · exact h2 j (by omega) g2
    · rw [h3 _ _ (by omega), sI_ne (by omega)]
theorem m_p79 {f len : Nat} (hf : f < 3) (hl : len ≤ 280) (rc : Int32 → mT → Option (Int32 × mT)) : ∀ (m i k : Nat) (S : mT), i + m = len → m < k → S.1 195 f = nI len → ∃ S', fX12_province_79 rc k (nI f) (nI (320 * f + i)) S = rc (nI (f + 1)) S' ∧ (∀ j, i ≤ j → j < len → S'.1 193 (320 * f + j) = S.1 190 (320 * f + j) ∧ S'.1 194 (320 * f + j) = S.1 191 (320 * f + j)) ∧ ∀ a j, ¬ ((a = 193 ∨ a = 194) ∧ 320 * f + i ≤ j ∧ j < 320 * f + len) → S'.1 a j = S.1 a j
  | 0, i, k, S, hi, hk, h195 => by
    obtain ⟨k', rfl⟩ := up1 hk
    have hi : i = len := by omega
    have b3 : mIn (nI f) 3 = true := xIn (by omega) (by omega)
    have i1 : mIx (nI f) = f := xIx (by omega)
    have o : (320 : Int32) * nI f + nI len = nI (320 * f + len) := by rw [show (320 : Int32) = nI 320 from rfl, xM, nI_add]
    have of1 : nI f + (1 : Int32) = nI (f + 1) := nI_add f 1
    have c : nI (320 * f + len) ≤ nI (320 * f + i) := by rw [hi]; exact Int32.le_refl _
    exact ⟨S, by simp only [fX12_province_79, kI_195, kO_187, g_t, b_d, b_c, b_v, Bool.and_true, Bool.and_self, Bool.true_and, b3, i1, h195, o, if_pos c, of1], fun j _ _ => by omega, fun _ _ _ => rfl⟩
  | m + 1, i, k, S, hi, hk, h195 => by
    obtain ⟨k', rfl⟩ := up1 hk
    have b3 : mIn (nI f) 3 = true := xIn (by omega) (by omega)
    have i1 : mIx (nI f) = f := xIx (by omega)
    have o : (320 : Int32) * nI f + nI len = nI (320 * f + len) := by rw [show (320 : Int32) = nI 320 from rfl, xM, nI_add]
    have c : ¬ nI (320 * f + len) ≤ nI (320 * f + i) := fun z => by have := (xLe (by omega) (by omega)).mp z; omega
    have o1 : nI (320 * f + i) + (1 : Int32) = nI (320 * f + (i + 1)) := nI_add (320 * f + i) 1
    have b9 : mIn (nI (320 * f + i)) 960 = true := xIn (by omega) (by omega)
    have i9 : mIx (nI (320 * f + i)) = 320 * f + i := xIx (by omega)
    have hA : (sI S 193 (320 * f + i) (S.1 190 (320 * f + i))).1 191 (320 * f + i) = S.1 191 (320 * f + i) := sI_ne (by omega)
    obtain ⟨S', h1, h2, h3⟩ := m_p79 hf hl rc m (i + 1) k' (sI (sI S 193 (320 * f + i) (S.1 190 (320 * f + i))) 194 (320 * f + i) (S.1 191 (320 * f + i))) (by omega) (by omega) (by rw [sI_ne (by omega), sI_ne (by omega)]; exact h195)
    refine ⟨S', ?_, fun j g1 g2 => ?_, fun a j g => ?_⟩
    · rw [← h1]
      conv => lhs; unfold fX12_province_79
      simp only [kI_190, kI_191, kI_193, kI_194, kI_195, kO_187, g_t, b_d, b_c, b_v, Bool.and_true, Bool.and_self, Bool.true_and, b3, b9, i1, i9, h195, o, if_neg c, hA, o1]
    · by_cases q : j = i
      · subst q
        rw [h3 _ _ (by omega), h3 _ _ (by omega), sI_eq, sI_ne (by omega), sI_eq]
        exact ⟨rfl, rfl⟩
      · obtain ⟨z1, z2⟩ := h2 j (by omega) g2
        rw [z1, z2, sI_ne (by omega), sI_ne (by omega), sI_ne (by omega), sI_ne (by omega)]
        exact ⟨rfl, rfl⟩
    · rw [h3 _ _ (by omega), sI_ne (by omega), sI_ne (by omega)]
theorem m_p31 {f b len : Nat} (hf : f < 3) (hb : b ≤ 1) (hl : len ≤ 280) {k : Nat} {S : mT} (h1 : S.1 198 f = nI b) (h2 : b = 1 → S.1 192 f = nI len) (h0 : b = 0 → len = 0) : ∃ S', fX12_province_31 (k + 1) (nI f) S = fX12_province_31 k (nI (f + 1)) S' ∧ S'.1 199 f = nI b ∧ S'.1 195 f = nI len ∧ (∀ j, j < len → S'.1 193 (320 * f + j) = S.1 190 (320 * f + j) ∧ S'.1 194 (320 * f + j) = S.1 191 (320 * f + j)) ∧ ∀ a j, ¬ ((a = 199 ∨ a = 195) ∧ j = f) → ¬ ((a = 193 ∨ a = 194) ∧ 320 * f ≤ j ∧ j < 320 * f + 320) → S'.1 a j = S.1 a j := by
  have b3 : mIn (nI f) 3 = true := xIn (by omega) (by omega)
  have i1 : mIx (nI f) = f := xIx (by omega)
  have c : ¬ (3 : Int32) ≤ nI f := fun z => by have := (xLe (a := 3) (by omega) (by omega)).mp z; omega
  have o : (320 : Int32) * nI f = nI (320 * f + 0) := by rw [show (320 : Int32) = nI 320 from rfl, xM]; rfl
  obtain ⟨S', e1, e2, e3⟩ := m_p79 hf hl (fX12_province_31 k) len 0 mK (sI (sI S 199 f (nI b)) 195 f (nI len)) (by omega) (by have := mK_gt; omega) sI_eq
  have q1 : (sI S 199 f (nI b)).1 199 f = nI b := sI_eq
  refine ⟨S', ?_, ?_, ?_, fun j hj => ?_, fun a j g1 g2 => ?_⟩
  · rw [← e1]
    conv => lhs; unfold fX12_province_31
    obtain rfl | rfl : b = 0 ∨ b = 1 := by omega
    · have hl0 := h0 rfl
      subst hl0
      have n0 : vp_nar .boolean (nI 0) = nI 0 := by decide
      have z0 : nI 0 = (0 : Int32) := rfl
      simp only [fX12_province_72, if_neg c, kO_187, kB_198, kB_199, kN_199, kI_195, g_t, b_d, b_c, b_v, Bool.and_true, Bool.and_self, Bool.true_and, b3, i1, h1, n0, q1, if_pos z0, o] <;> rfl
    · have n0 : vp_nar .boolean (nI 1) = nI 1 := by decide
      have z0 : ¬ nI 1 = (0 : Int32) := by decide
      have q2 : (sI S 199 f (nI 1)).1 192 f = nI len := by rw [sI_ne (by omega)]; exact h2 rfl
      simp only [fX12_province_72, if_neg c, kO_187, kB_198, kB_199, kN_199, kI_192, kI_195, g_t, b_d, b_c, b_v, Bool.and_true, Bool.and_self, Bool.true_and, b3, i1, h1, n0, q1, q2, if_neg z0, o]
  · rw [e3 _ _ (by omega), sI_ne (by omega), sI_eq]
  · rw [e3 _ _ (by omega), sI_eq]
  · obtain ⟨z1, z2⟩ := e2 j (by omega) hj
    rw [z1, z2, sI_ne (by omega), sI_ne (by omega), sI_ne (by omega), sI_ne (by omega)]
    exact ⟨rfl, rfl⟩
  · rw [e3 _ _ (by omega), sI_ne (by omega), sI_ne (by omega)]
/-- all that is copied -/
theorem m_pcopy {n : Nat} (hn : n ≤ 5) {b len : Nat → Nat} {S : mT} (hB : ∀ f, f < 3 → b f ≤ 1 ∧ len f ≤ 280 ∧ S.1 198 f = nI (b f) ∧ (b f = 1 → S.1 192 f = nI (len f)) ∧ (b f = 0 → len f = 0)) (h37 : S.1 187 37 = nI n) : ∃ S', fX12_province_31 mK (0 : Int32) S = some (nI n, S') ∧
    (∀ f, f < 3 → S'.1 199 f = nI (b f) ∧ S'.1 195 f = nI (len f) ∧ ∀ j, j < len f → S'.1 193 (320 * f + j) = S.1 190 (320 * f + j) ∧ S'.1 194 (320 * f + j) = S.1 191 (320 * f + j)) ∧
    (∀ j, j < 5 → S'.1 205 j = S.1 201 j ∧ S'.1 206 j = S.1 203 j ∧ S'.1 207 j = S.1 204 j ∧ S'.1 208 j = if j < n then S.1 202 j else 0) ∧ (∀ j, 5 ≤ j → j < 16 → S'.1 208 j = 0) ∧ S'.1 208 16 = S.1 187 36 ∧ S'.1 187 46 = 0 ∧ S'.1 187 47 = 0 ∧ S'.1 187 66 = 0 ∧ S'.1 187 51 = 0 ∧ (∀ x, x < 3 → S'.1 231 x = 0) ∧
    ∀ a j, ¬ (193 ≤ a ∧ a ≤ 195) → a ≠ 199 → ¬ (205 ≤ a ∧ a ≤ 208) → a ≠ 231 → ¬ (a = 187 ∧ (j = 46 ∨ j = 47 ∨ j = 66 ∨ j = 51)) → S'.1 a j = S.1 a j := by
  obtain ⟨K, hK⟩ : ∃ K, mK = K + 4 := ⟨999996, rfl⟩
  obtain ⟨p1, p2, p3, p4, p5⟩ := hB 0 (by omega)
  obtain ⟨r1, r2, r3, r4, r5⟩ := hB 1 (by omega)
  obtain ⟨s1, s2, s3, s4, s5⟩ := hB 2 (by omega)
  obtain ⟨A, a1, a2, a3, a4, a5⟩ := m_p31 (f := 0) (by omega) p1 p2 (k := K + 3) p3 p4 p5
  obtain ⟨B, b1, b2, b3, b4, b5⟩ := m_p31 (f := 1) (by omega) r1 r2 (k := K + 2) (S := A) (by rw [a5 _ _ (by omega) (by omega)]; exact r3) (fun z => by rw [a5 _ _ (by omega) (by omega)]; exact r4 z) r5
  obtain ⟨C, c1, c2, c3, c4, c5⟩ := m_p31 (f := 2) (by omega) s1 s2 (k := K + 1) (S := B) (by rw [b5 _ _ (by omega) (by omega), a5 _ _ (by omega) (by omega)]; exact s3) (fun z => by rw [b5 _ _ (by omega) (by omega), a5 _ _ (by omega) (by omega)]; exact s4 z) s5
  have eC : ∀ a j, ¬ (193 ≤ a ∧ a ≤ 195) → a ≠ 199 → C.1 a j = S.1 a j := fun a j g1 g2 => by rw [c5 _ _ (by omega) (by omega), b5 _ _ (by omega) (by omega), a5 _ _ (by omega) (by omega)]
  have c3' : (3 : Int32) ≤ nI 3 := by decide
  have run1 : fX12_province_31 mK (0 : Int32) S = fX12_province_133 mK (0 : Int32) C := by
    have z : fX12_province_31 mK (0 : Int32) S = fX12_province_31 (K + 4) (nI 0) S := by rw [hK]; rfl
    have c4 : fX12_province_31 (K + 1) (nI 3) C = fX12_province_133 mK (0 : Int32) C := by simp only [fX12_province_31, if_pos c3']
    exact (z.trans a1).trans (b1.trans (c1.trans c4))
  obtain ⟨D, d1, d2, d3⟩ := m_p133 17 0 mK C (by omega) (by have := mK_gt; omega)
  have d1' : fX12_province_133 mK (0 : Int32) C = fX12_province_154 mK (0 : Int32) D := d1
  obtain ⟨E, e1, e2, e3, e4, e5, e6, e7, e8⟩ := m_p154 hn 5 0 mK D (by omega) (by have := mK_gt; omega) (by rw [d3 _ _ (by omega), eC _ _ (by omega) (by omega)]; exact h37)
  have e1' : fX12_province_154 mK (0 : Int32) D = fX12_province_258 mK (0 : Int32) E := e1
  obtain ⟨F, f1, f2, f3⟩ := m_p258 3 0 mK E (by omega) (by have := mK_gt; omega)
  have f1' : fX12_province_258 mK (0 : Int32) E = some (E.1 187 37, F) := f1
  have dE : ∀ a j, a ≠ 208 → D.1 a j = C.1 a j := fun a j g => d3 a j (by omega)
  have x37 : E.1 187 37 = nI n := by rw [e8 _ _ (by omega) (by omega) (by omega), dE _ _ (by omega), eC _ _ (by omega) (by omega)]; exact h37
  have FC : ∀ a j, ¬ (205 ≤ a ∧ a ≤ 208) → a ≠ 231 → ¬ (a = 187 ∧ (j = 46 ∨ j = 47 ∨ j = 66 ∨ j = 51)) → F.1 a j = C.1 a j := fun a j g1 g2 g3 => by rw [f3 _ _ (by omega), e8 _ _ (by omega) (by omega) (by omega), dE _ _ (by omega)]
  refine ⟨F, by rw [run1, d1', e1', f1', x37], fun f hf => ?_, fun j hj => ?_, fun j g1 g2 => ?_, ?_, ?_, ?_, ?_, ?_, fun x hx => f2 x (by omega) hx, fun a j g1 g2 g3 g4 g5 => ?_⟩
  · rw [FC _ _ (by omega) (by omega) (by omega), FC _ _ (by omega) (by omega) (by omega)]
    obtain rfl | rfl | rfl : f = 0 ∨ f = 1 ∨ f = 2 := by omega
    · refine ⟨?_, ?_, fun j hj => ?_⟩
      · rw [c5 _ _ (by omega) (by omega), b5 _ _ (by omega) (by omega)]; exact a2
      · rw [c5 _ _ (by omega) (by omega), b5 _ _ (by omega) (by omega)]; exact a3
      · rw [FC _ _ (by omega) (by omega) (by omega), FC _ _ (by omega) (by omega) (by omega), c5 _ _ (by omega) (by omega), c5 _ _ (by omega) (by omega), b5 _ _ (by omega) (by omega), b5 _ _ (by omega) (by omega)]
        exact a4 j hj
    · refine ⟨?_, ?_, fun j hj => ?_⟩
      · rw [c5 _ _ (by omega) (by omega)]; exact b2
      · rw [c5 _ _ (by omega) (by omega)]; exact b3
      · rw [FC _ _ (by omega) (by omega) (by omega), FC _ _ (by omega) (by omega) (by omega), c5 _ _ (by omega) (by omega), c5 _ _ (by omega) (by omega), (b4 j hj).1, (b4 j hj).2, a5 _ _ (by omega) (by omega), a5 _ _ (by omega) (by omega)]
        exact ⟨rfl, rfl⟩
    · refine ⟨c2, c3, fun j hj => ?_⟩
      rw [FC _ _ (by omega) (by omega) (by omega), FC _ _ (by omega) (by omega) (by omega), (c4 j hj).1, (c4 j hj).2, b5 _ _ (by omega) (by omega), b5 _ _ (by omega) (by omega), a5 _ _ (by omega) (by omega), a5 _ _ (by omega) (by omega)]
      exact ⟨rfl, rfl⟩
  · obtain ⟨z1, z2, z3, z4⟩ := e2 j (by omega) hj
    rw [f3 _ _ (by omega), f3 _ _ (by omega), f3 _ _ (by omega), f3 _ _ (by omega), z1, z2, z3, z4, dE _ _ (by omega), dE _ _ (by omega), dE _ _ (by omega), dE _ _ (by omega), eC _ _ (by omega) (by omega), eC _ _ (by omega) (by omega), eC _ _ (by omega) (by omega), eC _ _ (by omega) (by omega)]
    exact ⟨rfl, rfl, rfl, rfl⟩
  · rw [f3 _ _ (by omega), e8 _ _ (by omega) (by omega) (by omega)]
    exact d2 j (by omega) (by omega)
  · rw [f3 _ _ (by omega), e3, dE _ _ (by omega), eC _ _ (by omega) (by omega)]
  · rw [f3 _ _ (by omega)]; exact e4
  · rw [f3 _ _ (by omega)]; exact e5
  · rw [f3 _ _ (by omega)]; exact e6
  · rw [f3 _ _ (by omega)]; exact e7
  · rw [FC _ _ (by omega) (by omega) (by omega), eC _ _ (by omega) (by omega)]
