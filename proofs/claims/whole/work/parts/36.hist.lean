theorem cA {f : Nat → Int32} {i j : Nat} (h : i = j) : f i = f j := by rw [h]
theorem cR {S : mT} {i j k : Nat} (h : i = j) : S.1 i k = S.1 j k := by rw [h]
/-! THE ACTS: keep (the class's), act, load, keep, exchange (the reference's). -/
theorem up1 {k m : Nat} (h : m < k) : ∃ k', k = k' + 1 := ⟨k - 1, by omega⟩
theorem cpOk17 {n m : Nat} (h1 : 17 ≤ n) (h2 : 17 ≤ m) : cpOk n m (0 : Int32) (0 : Int32) (17 : Int32) = true := by
  unfold cpOk
  have e0 : mIx (0 : Int32) = 0 := rfl
  have e17 : mIx (17 : Int32) = 17 := rfl
  rw [e0, e17]
  simp [h1, h2]
theorem sC17 {S : mT} {a d i j : Nat} : (sC S a d (0 : Int32) (0 : Int32) (17 : Int32)).1 i j = if i = d ∧ j < 17 then S.1 a j else S.1 i j := by
  have e0 : mIx (0 : Int32) = 0 := rfl
  have e17 : mIx (17 : Int32) = 17 := rfl
  rw [sC_rd, e0, e17]
  by_cases h : i = d
  · subst h
    by_cases h2 : j < 17
    · simp [h2]
    · simp [h2]
  · simp [h]
theorem x41 {a : Nat} (ha : a < 2000000) : nI a - nI a / nI 41 * nI 41 = nI (a % 41) := xMd ha (by omega)
theorem s_copyFrom {S : mT} {o bh : Nat} (ho : o ≤ 40) (hb : bh ≤ 40) (e1 : S.1 37 3 = nI o) (e2 : S.1 37 4 = nI bh) : fX2_copyFrom 35 S = some (sC S 35 (39 + (o + bh) % 41) (0 : Int32) (0 : Int32) (17 : Int32)) := by
  have e3 : ((S.1 37 3) + (S.1 37 4)) - ((S.1 37 3) + (S.1 37 4)) / (41 : Int32) * (41 : Int32) = nI ((o + bh) % 41) := by
    rw [e1, e2, nI_add]
    exact x41 (by omega)
  have hm : (o + bh) % 41 < 41 := Nat.mod_lt _ (by omega)
  unfold fX2_copyFrom
  rw [e3, xIx (by omega), rw_38 hm, kO_37, kR_38, xIn hm (by omega), kC_of s_35 (by decide +kernel) (st_38 _ hm) (blt_of (by omega)), cpOk17 (by omega) (by omega)]
  rfl
theorem s_copyTo {S : mT} {o bh : Nat} (ho : o ≤ 40) (hb : bh ≤ 40) (e1 : S.1 37 3 = nI o) (e2 : S.1 37 4 = nI bh) : fX2_copyTo 35 S = some (sC S (39 + (o + bh) % 41) 35 (0 : Int32) (0 : Int32) (17 : Int32)) := by
  have e3 : ((S.1 37 3) + (S.1 37 4)) - ((S.1 37 3) + (S.1 37 4)) / (41 : Int32) * (41 : Int32) = nI ((o + bh) % 41) := by
    rw [e1, e2, nI_add]
    exact x41 (by omega)
  have hm : (o + bh) % 41 < 41 := Nat.mod_lt _ (by omega)
  unfold fX2_copyTo
  rw [e3, xIx (by omega), rw_38 hm, kO_37, kR_38, xIn hm (by omega), kC_of (st_38 _ hm) (blt_of (by omega)) s_35 (by decide +kernel), cpOk17 (by omega) (by omega)]
  rfl
/-- the class keeps an act -/
theorem s_keepC {S : mT} {o bh : Nat} (ho : o ≤ 40) (hb : bh ≤ 40) (e1 : S.1 37 3 = nI o) (e2 : S.1 37 4 = nI bh) : ∃ S', fX2_keep 35 S = some S' ∧ (∀ a j, a ≠ 37 → (a < 39 ∨ 79 < a) → S'.1 a j = S.1 a j) ∧ S'.1 37 3 = nI (if bh = 40 then (o + 1) % 41 else o) ∧ S'.1 37 4 = nI (if bh = 40 then 40 else bh + 1) ∧ S'.1 37 5 = nI 0 ∧ ∀ m, m < 41 → ∀ k, S'.1 (39 + m) k = if m = (o + bh + 1) % 41 ∧ k < 17 then S.1 35 k else S.1 (39 + m) k := by
  by_cases hb40 : bh = 40
  · subst hb40
    have hm : (o + 1) % 41 < 41 := Nat.mod_lt _ (by omega)
    have e3 : ((S.1 37 3) + (1 : Int32)) - ((S.1 37 3) + (1 : Int32)) / (41 : Int32) * (41 : Int32) = nI ((o + 1) % 41) := by
      rw [e1, show (1 : Int32) = nI 1 from rfl, nI_add]
      exact x41 (by omega)
    have c : (40 : Int32) ≤ S.1 37 4 := by
      rw [e2]
      exact (xLe (a := 40) (by omega) (by omega)).mpr (by omega)
    refine ⟨sC (sI (sI S 37 3 (nI ((o + 1) % 41))) 37 5 (nI 0)) 35 (39 + ((o + 1) % 41 + 40) % 41) (0 : Int32) (0 : Int32) (17 : Int32), ?_, ?_⟩
    · unfold fX2_keep fX2_keep_35
      rw [kO_37, if_pos c, e3]
      simp only [g_t, b_d, b_c, b_v, Bool.and_true, Bool.and_self, Bool.true_and]
      rw [s_copyFrom (o := (o + 1) % 41) (bh := 40) (by omega) (by omega) (by simp [sI_rd]) (by simp [sI_rd, e2])]
      rfl
    · refine ⟨fun a j g1 g2 => ?_, ?_, ?_, ?_, fun m hm k => ?_⟩
      · rw [sC17, if_neg (by omega)]
        simp [sI_rd, g1]
      · rw [sC17, if_neg (by omega)]
        simp [sI_rd]
      · rw [sC17, if_neg (by omega)]
        simp [sI_rd, e2]
      · rw [sC17, if_neg (by omega)]
        simp [sI_rd]
      · rw [sC17]
        have h3 : (o + 40 + 1) % 41 = ((o + 1) % 41 + 40) % 41 := by omega
        rw [h3]
        by_cases hk : k < 17
        · by_cases hq : m = ((o + 1) % 41 + 40) % 41
          · rw [if_pos ⟨by omega, hk⟩, if_pos ⟨hq, hk⟩]
            simp [sI_rd]
          · rw [if_neg (by omega), if_neg (by omega)]
            have : 39 + m ≠ 37 := by omega
            simp [sI_rd, this]
        · rw [if_neg (by omega), if_neg (by omega)]
          have : 39 + m ≠ 37 := by omega
          simp [sI_rd, this]
  · have c : ¬ (40 : Int32) ≤ S.1 37 4 := by
      rw [e2]
      exact fun h => by have := (xLe (a := 40) (by omega) (by omega)).mp h; omega
    have e3 : S.1 37 4 + (1 : Int32) = nI (bh + 1) := by
      rw [e2]
      exact nI_add _ 1
    refine ⟨sC (sI (sI S 37 4 (nI (bh + 1))) 37 5 (nI 0)) 35 (39 + (o + (bh + 1)) % 41) (0 : Int32) (0 : Int32) (17 : Int32), ?_, ?_⟩
    · unfold fX2_keep fX2_keep_35
      rw [kO_37, if_neg c, e3]
      simp only [g_t, b_d, b_c, b_v, Bool.and_true, Bool.and_self, Bool.true_and]
      rw [s_copyFrom (o := o) (bh := bh + 1) (by omega) (by omega) (by simp [sI_rd, e1]) (by simp [sI_rd])]
      rfl
    · refine ⟨fun a j g1 g2 => ?_, ?_, ?_, ?_, fun m hm k => ?_⟩
      · rw [sC17, if_neg (by omega)]
        simp [sI_rd, g1]
      · rw [sC17, if_neg (by omega)]
        simp [sI_rd, e1, hb40]
      · rw [sC17, if_neg (by omega)]
        simp [sI_rd, hb40]
      · rw [sC17, if_neg (by omega)]
        simp [sI_rd]
      · rw [sC17]
        by_cases hk : k < 17
        · by_cases hq : m = (o + bh + 1) % 41
          · rw [if_pos ⟨by omega, hk⟩, if_pos ⟨hq, hk⟩]
            simp [sI_rd]
          · rw [if_neg (by omega), if_neg (by omega)]
            have : 39 + m ≠ 37 := by omega
            simp [sI_rd, this]
        · rw [if_neg (by omega), if_neg (by omega)]
          have : 39 + m ≠ 37 := by omega
          simp [sI_rd, this]
/-- the reference puts what is now behind the other acts -/
theorem s_act51 {a : Nat} (ha : a < 40) : ∀ (m i k : Nat) (S : mT), i + m = 17 → m < k → S.1 187 46 = nI a → ∃ S', fX12_act_51 k (nI i) S = some S' ∧ S'.1 187 46 = nI (a + 1) ∧ S'.1 187 47 = nI 0 ∧ (∀ a j, a ≠ 212 → ¬ (a = 187 ∧ (j = 46 ∨ j = 47)) → S'.1 a j = S.1 a j) ∧ ∀ j, S'.1 212 j = if 18 * a + i ≤ j ∧ j < 18 * a + 17 then S.1 208 (j - 18 * a) else S.1 212 j
  | 0, i, k, S, hi, hk, e => by
    obtain ⟨k', rfl⟩ := up1 hk
    have hi : i = 17 := by omega
    subst hi
    refine ⟨sI (sI S 187 46 (nI (a + 1))) 187 47 (nI 0), ?_, ?_⟩
    · simp (disch := omega) [fX12_act_51, kO_187, kI_212, kI_208, g_t, b_d, b_c, b_v, Bool.and_true, Bool.and_self, Bool.true_and, xL, xN1, nI_add, xM, xS, xP, xIx, xIn, xLe, xLt, xEq, xDv, e]
    · refine ⟨by simp [sI_rd], by simp [sI_rd], fun a j g1 g2 => by rw [sI_rd, if_neg (by omega), sI_rd, if_neg (by omega)], fun j => ?_⟩
      rw [if_neg (by omega)]
      simp [sI_rd]
  | m + 1, i, k, S, hi, hk, e => by
    obtain ⟨k', rfl⟩ := up1 hk
    obtain ⟨S', h1, h2, h3, h4, h5⟩ := s_act51 ha m (i + 1) k' (sI S 212 (18 * a + i) (S.1 208 i)) (by omega) (by omega) (by simp [sI_rd, e])
    refine ⟨S', ?_, h2, h3, fun a j g1 g2 => ?_, fun j => ?_⟩
    · rw [← h1]
      have c : ¬ 17 ≤ i := by omega
      simp (disch := omega) [fX12_act_51, kO_187, kI_212, kI_208, g_t, b_d, b_c, b_v, Bool.and_true, Bool.and_self, Bool.true_and, xL, xN1, nI_add, xM, xS, xP, xIx, xIn, xLe, xLt, xEq, xDv, e, c]
    · rw [h4 a j g1 g2, sI_rd, if_neg (by omega)]
    · rw [h5]
      simp only [sI_rd, true_and, false_and, if_false]
      by_cases q1 : j = 18 * a + i
      · subst q1
        rw [if_neg (by omega), if_pos (by omega), if_pos (by omega)]
        exact cA (by omega)
      · by_cases q2 : 18 * a + i ≤ j ∧ j < 18 * a + 17
        · rw [if_pos (by omega), if_pos q2, if_neg (by omega)]
        · rw [if_neg (by omega), if_neg q2, if_neg (by omega)]
theorem s_act11 : ∀ (m i k : Nat) (S : mT), i + m = 702 → m < k → S.1 187 46 = nI 40 → ∃ S', fX12_act_11 k (nI i) S = some S' ∧ S'.1 187 46 = nI 40 ∧ S'.1 187 47 = nI 0 ∧ (∀ a j, a ≠ 212 → ¬ (a = 187 ∧ (j = 46 ∨ j = 47)) → S'.1 a j = S.1 a j) ∧ ∀ j, S'.1 212 j = if 702 ≤ j ∧ j < 719 then S.1 208 (j - 702) else if i ≤ j ∧ j < 702 then S.1 212 (18 + j) else S.1 212 j
  | 0, i, k, S, hi, hk, e => by
    obtain ⟨k', rfl⟩ := up1 hk
    have hi : i = 702 := by omega
    subst hi
    obtain ⟨S', h1, h2, h3, h4, h5⟩ := s_act51 (a := 39) (by omega) 17 0 mK (sI S 187 46 (nI 39)) (by omega) (by have := mK_gt; omega) (by simp [sI_rd])
    refine ⟨S', ?_, h2, h3, fun a j g1 g2 => ?_, fun j => ?_⟩
    · rw [← h1]
      simp (disch := omega) [fX12_act_11, kO_187, kI_212, fX12_act_49, g_t, b_d, b_c, b_v, Bool.and_true, Bool.and_self, Bool.true_and, xL, xN1, nI_add, xM, xS, xP, xIx, xIn, xLe, xLt, xEq, xDv, e]
    · rw [h4 a j g1 g2, sI_rd, if_neg (by omega)]
    · rw [h5]
      simp only [sI_rd, true_and, false_and, if_false]
      by_cases q1 : 702 ≤ j ∧ j < 719
      · rw [if_pos (by omega), if_pos q1, if_neg (by omega)]
      · rw [if_neg (by omega), if_neg q1, if_neg (by omega), if_neg (by omega)]
  | m + 1, i, k, S, hi, hk, e => by
    obtain ⟨k', rfl⟩ := up1 hk
    obtain ⟨S', h1, h2, h3, h4, h5⟩ := s_act11 m (i + 1) k' (sI S 212 i (S.1 212 (18 + i))) (by omega) (by omega) (by simp [sI_rd, e])
    refine ⟨S', ?_, h2, h3, fun a j g1 g2 => ?_, fun j => ?_⟩
    · rw [← h1]
      have c : ¬ 702 ≤ i := by omega
      simp (disch := omega) [fX12_act_11, kO_187, kI_212, fX12_act_49, g_t, b_d, b_c, b_v, Bool.and_true, Bool.and_self, Bool.true_and, xL, xN1, nI_add, xM, xS, xP, xIx, xIn, xLe, xLt, xEq, xDv, e, c]
    · rw [h4 a j g1 g2, sI_rd, if_neg (by omega)]
    · rw [h5]
      simp only [sI_rd, true_and, false_and, if_false]
      by_cases q1 : 702 ≤ j ∧ j < 719
      · rw [if_pos q1, if_pos q1, if_neg (by omega)]
      · rw [if_neg q1, if_neg q1]
        by_cases q2 : j = i
        · subst q2
          rw [if_neg (by omega), if_pos (by omega), if_pos (by omega)]
        · by_cases q3 : i ≤ j ∧ j < 702
          · rw [if_pos (by omega), if_pos q3, if_neg (by omega)]
          · rw [if_neg (by omega), if_neg q3, if_neg (by omega)]
theorem s_actA {S : mT} (e : S.1 187 46 = nI 40) : fX12_act S = fX12_act_11 mK (nI 0) S := by
  unfold fX12_act
  rw [kO_187, e, if_pos (show nI 40 = 40 from rfl), Bool.and_true, g_t]
  exact congrArg (fun v => fX12_act_11 mK v S) (show (0 : Int32) = nI 0 from rfl)
theorem s_actB {S : mT} {a : Nat} (ha : a < 40) (e : S.1 187 46 = nI a) : fX12_act S = fX12_act_51 mK (nI 0) S := by
  have h40 : ¬ nI a = 40 := fun q => by have := (xEq (b := 40) (by omega) (by omega)).mp q; omega
  unfold fX12_act
  rw [kO_187, e, if_neg h40, Bool.and_true, g_t]
  unfold fX12_act_49
  exact congrArg (fun v => fX12_act_51 mK v S) (show (0 : Int32) = nI 0 from rfl)
theorem s_act {S : mT} {a : Nat} (ha : a ≤ 40) (e : S.1 187 46 = nI a) : ∃ S', fX12_act S = some S' ∧ S'.1 187 46 = nI (if a = 40 then 40 else a + 1) ∧ S'.1 187 47 = nI 0 ∧ (∀ a j, a ≠ 212 → ¬ (a = 187 ∧ (j = 46 ∨ j = 47)) → S'.1 a j = S.1 a j) ∧ (∀ j k, j < 40 → k < 17 → S'.1 212 (18 * j + k) = if a = 40 then (if j = 39 then S.1 208 k else S.1 212 (18 * (j + 1) + k)) else (if j = a then S.1 208 k else S.1 212 (18 * j + k))) := by
  by_cases h40 : a = 40
  · rw [h40] at e
    obtain ⟨S', h1, h2, h3, h4, h5⟩ := s_act11 702 0 mK S (by omega) (by have := mK_gt; omega) e
    refine ⟨S', (s_actA e).trans h1, by rw [if_pos h40]; exact h2, h3, h4, fun j k hj hk => ?_⟩
    rw [h5, if_pos h40]
    by_cases q : j = 39
    · rw [if_pos (by omega), if_pos q]
      exact cA (by omega)
    · rw [if_neg (by omega), if_pos (by omega), if_neg q]
      exact cA (by omega)
  · obtain ⟨S', h1, h2, h3, h4, h5⟩ := s_act51 (a := a) (by omega) 17 0 mK S (by omega) (by have := mK_gt; omega) e
    refine ⟨S', (s_actB (by omega) e).trans h1, by rw [if_neg h40]; exact h2, h3, h4, fun j k hj hk => ?_⟩
    rw [h5, if_neg h40]
    by_cases q : j = a
    · rw [if_pos (by omega), if_pos q]
      exact cA (by omega)
    · rw [if_neg (by omega), if_neg q]
theorem okRow_eq {f g : Nat → Int32} (e : ∀ k, k < 17 → f k = g k) (h : okRow g) : okRow f := by
  obtain ⟨q1, y, s, q2, q3, q4, q5⟩ := h
  refine ⟨fun h hh => ?_, y, s, q2, q3, ?_, ?_⟩
  · obtain ⟨x, y, z, p1, p2, p3, p4, p5, p6⟩ := q1 h hh
    exact ⟨x, y, z, p1, p2, p3, by rw [e _ (by omega)]; exact p4, by rw [e _ (by omega)]; exact p5, by rw [e _ (by omega)]; exact p6⟩
  · rw [e _ (by omega)]
    exact q4
  · rw [e _ (by omega)]
    exact q5
theorem okRow_up {f g : Nat → Int32} {h x y z : Nat} (hf : okRow f) (hh : h < 5) (hx : x ≤ 7) (hy : y ≤ x) (hz : z ≤ 99) (e1 : g h = nI x) (e2 : g (5 + h) = nI y) (e3 : g (10 + h) = nI z) (e4 : ∀ k, k < 17 → k ≠ h → k ≠ 5 + h → k ≠ 10 + h → g k = f k) : okRow g := by
  obtain ⟨q1, y', s, q2, q3, q4, q5⟩ := hf
  refine ⟨fun i hi => ?_, y', s, q2, q3, ?_, ?_⟩
  · by_cases q : i = h
    · subst q
      exact ⟨x, y, z, hx, hy, hz, e1, e2, e3⟩
    · obtain ⟨x, y, z, p1, p2, p3, p4, p5, p6⟩ := q1 i hi
      exact ⟨x, y, z, p1, p2, p3, by rw [e4 _ (by omega) (by omega) (by omega) (by omega)]; exact p4, by rw [e4 _ (by omega) (by omega) (by omega) (by omega)]; exact p5, by rw [e4 _ (by omega) (by omega) (by omega) (by omega)]; exact p6⟩
  · rw [e4 _ (by omega) (by omega) (by omega) (by omega)]
    exact q4
  · rw [e4 _ (by omega) (by omega) (by omega) (by omega)]
    exact q5
/-- AN ACT: both have kept it -/
theorem rN_act {S S' : mT} {o bh ah : Nat} (h : rNow S) (ho : o ≤ 40) (hb : bh + ah ≤ 40) (hr : ∀ j, j ≤ bh + ah → okRow (S.1 (39 + (o + j) % 41))) (h9 : ∀ k, k < 17 → S.1 (39 + (o + bh) % 41) k = S.1 35 k) (h10 : ∀ j, j < bh → ∀ k, k < 17 → S.1 (39 + (o + j) % 41) k = S.1 212 (18 * j + k)) (hR : okRow (S'.1 35))
    (c1 : S'.1 37 3 = nI (if bh = 40 then (o + 1) % 41 else o)) (c2 : S'.1 37 4 = nI (if bh = 40 then 40 else bh + 1)) (c3 : S'.1 37 5 = nI 0) (c4 : ∀ m, m < 41 → ∀ k, S'.1 (39 + m) k = if m = (o + bh + 1) % 41 ∧ k < 17 then S'.1 35 k else S.1 (39 + m) k)
    (m0 : ∀ k, k < 17 → S'.1 208 k = S'.1 35 k) (m1 : S'.1 187 46 = nI (if bh = 40 then 40 else bh + 1)) (m2 : S'.1 187 47 = nI 0) (m3 : ∀ j k, j < 40 → k < 17 → S'.1 212 (18 * j + k) = if bh = 40 then (if j = 39 then S.1 208 k else S.1 212 (18 * (j + 1) + k)) else (if j = bh then S.1 208 k else S.1 212 (18 * j + k))) : rN S' := by
  refine ⟨⟨hR, m0⟩, ?_⟩
  by_cases h40 : bh = 40
  · subst h40
    simp only [if_true] at c1 c2 m1 m3
    have hah : ah = 0 := by omega
    subst hah
    refine ⟨(o + 1) % 41, 40, 0, by omega, by omega, c1, c2, c3, m1, m2, fun j hj => ?_, fun k hk => ?_, fun j hj k hk => ?_, fun j hj hj2 => by omega⟩
    · by_cases q : j = 40
      · subst q
        refine okRow_eq (fun k hk => ?_) hR
        rw [c4 _ (Nat.mod_lt _ (by omega)), if_pos ⟨by omega, hk⟩]
      · refine okRow_eq (g := S.1 (39 + (o + (j + 1)) % 41)) (fun k hk => ?_) (hr (j + 1) (by omega))
        rw [c4 _ (Nat.mod_lt _ (by omega)), if_neg (by omega)]
        exact cR (by omega)
    · rw [c4 _ (Nat.mod_lt _ (by omega)), if_pos ⟨by omega, hk⟩]
    · rw [c4 _ (Nat.mod_lt _ (by omega)), if_neg (by omega), m3 j k hj hk]
      have e : ((o + 1) % 41 + j) % 41 = (o + (j + 1)) % 41 := by omega
      rw [e]
      by_cases q : j = 39
      · subst q
        rw [if_pos rfl, h.2 k hk]
        exact h9 k hk
      · rw [if_neg q]
        exact h10 (j + 1) (by omega) k hk
  · simp only [if_neg h40] at c1 c2 m1 m3
    refine ⟨o, bh + 1, 0, by omega, by omega, c1, c2, c3, m1, m2, fun j hj => ?_, fun k hk => ?_, fun j hj k hk => ?_, fun j hj hj2 => by omega⟩
    · by_cases q : j = bh + 1
      · subst q
        refine okRow_eq (fun k hk => ?_) hR
        rw [c4 _ (Nat.mod_lt _ (by omega)), if_pos ⟨by omega, hk⟩]
      · refine okRow_eq (g := S.1 (39 + (o + j) % 41)) (fun k hk => ?_) (hr j (by omega))
        rw [c4 _ (Nat.mod_lt _ (by omega)), if_neg (by omega)]
    · rw [c4 _ (Nat.mod_lt _ (by omega)), if_pos ⟨by omega, hk⟩]
    · rw [c4 _ (Nat.mod_lt _ (by omega)), if_neg (by omega), m3 j k (by omega) hk]
      by_cases q : j = bh
      · subst q
        rw [if_pos rfl, h.2 k hk]
        exact h9 k hk
      · rw [if_neg q]
        exact h10 j (by omega) k hk
/-- the same, with the calls -/
theorem act_fin {S T : mT} (hN : rN S) (hT : ∀ a j, (a = 37 ∨ 39 ≤ a ∧ a ≤ 79 ∨ a = 208 ∨ a = 212 ∨ a = 187 ∧ (j = 46 ∨ j = 47)) → T.1 a j = S.1 a j) (ok : okRow (T.1 35)) : ∃ S3 S4, fX2_keep 35 T = some S3 ∧ fX12_act S3 = some S4 ∧ (∀ a j, a ≠ 37 → (a < 39 ∨ 79 < a) → S3.1 a j = T.1 a j) ∧ (∀ a j, a ≠ 37 → (a < 39 ∨ 79 < a) → a ≠ 212 → ¬ (a = 187 ∧ (j = 46 ∨ j = 47)) → S4.1 a j = T.1 a j) ∧ ∀ S5 : mT, (∀ a j, a ≠ 208 → a ≠ 209 → a ≠ 210 → a ≠ 211 → (a ≠ 187 ∨ j = 46 ∨ j = 47) → a < 213 → S5.1 a j = S4.1 a j) → (∀ k, k < 17 → S5.1 208 k = T.1 35 k) → rN S5 := by
  obtain ⟨hNow, ⟨o, bh, ah, ho, hba, q3, q4, q5, q6, q7, q8, q9, q10, q11⟩⟩ := hN
  obtain ⟨S3, k1, k2, k3, k4, k5, k6⟩ := s_keepC (S := T) (o := o) (bh := bh) ho (by omega) (by rw [hT _ _ (by omega)]; exact q3) (by rw [hT _ _ (by omega)]; exact q4)
  obtain ⟨S4, a1, a2, a3, a4, a5⟩ := s_act (S := S3) (a := bh) (by omega) (by rw [k2 _ _ (by omega) (by omega), hT _ _ (by omega)]; exact q6)
  refine ⟨S3, S4, k1, a1, k2, fun a j g1 g2 g3 g4 => by rw [a4 a j g3 g4, k2 a j g1 g2], fun S5 hf h208 => ?_⟩
  have e35 : ∀ j, S5.1 35 j = T.1 35 j := fun j => by rw [hf _ _ (by omega) (by omega) (by omega) (by omega) (by omega) (by omega), a4 _ _ (by omega) (by omega), k2 _ _ (by omega) (by omega)]
  have e37 : ∀ j, S5.1 37 j = S3.1 37 j := fun j => by rw [hf _ _ (by omega) (by omega) (by omega) (by omega) (by omega) (by omega), a4 _ _ (by omega) (by omega)]
  refine rN_act (S := S) hNow ho hba q8 q9 q10 (okRow_eq (fun k _ => e35 k) ok) (by rw [e37]; exact k3) (by rw [e37]; exact k4) (by rw [e37]; exact k5) (fun m hm k => ?_) (fun k hk => by rw [e35]; exact h208 k hk) (by rw [hf _ _ (by omega) (by omega) (by omega) (by omega) (by omega) (by omega)]; exact a2) (by rw [hf _ _ (by omega) (by omega) (by omega) (by omega) (by omega) (by omega)]; exact a3) (fun j k hj hk => ?_)
  · rw [hf _ _ (by omega) (by omega) (by omega) (by omega) (by omega) (by omega), a4 _ _ (by omega) (by omega), k6 m hm k, e35, hT (39 + m) k (by omega)]
  · rw [hf _ _ (by omega) (by omega) (by omega) (by omega) (by omega) (by omega), a5 j k hj hk]
    have h8 : ∀ i, S3.1 208 i = S.1 208 i := fun i => (k2 208 i (by omega) (by omega)).trans (hT 208 i (by omega))
    have h12 : ∀ i, S3.1 212 i = S.1 212 i := fun i => (k2 212 i (by omega) (by omega)).trans (hT 212 i (by omega))
    simp only [h8, h12]
/-- the reference loads what is now -/
theorem s_load2 : ∀ (m i k : Nat) (S : mT), i + m = 5 → m < k → ∃ S', fX12_load_2 k (nI i) S = some S' ∧ (∀ j, i ≤ j → j < 5 → S'.1 209 j = S.1 208 j ∧ S'.1 210 j = S.1 208 (5 + j) ∧ S'.1 211 j = S.1 208 (10 + j)) ∧ (∀ j, j < i → S'.1 209 j = S.1 209 j ∧ S'.1 210 j = S.1 210 j ∧ S'.1 211 j = S.1 211 j) ∧ S'.1 187 43 = S.1 208 15 ∧ S'.1 187 44 = S.1 208 16 ∧ (∀ a j, a ≠ 209 → a ≠ 210 → a ≠ 211 → ¬ (a = 187 ∧ (j = 43 ∨ j = 44)) → S'.1 a j = S.1 a j)
  | 0, i, k, S, hi, hk => by
    obtain ⟨k', rfl⟩ := up1 hk
    have hi : i = 5 := by omega
    subst hi
    refine ⟨sI (sI S 187 43 (S.1 208 15)) 187 44 (S.1 208 16), ?_, fun j q1 q2 => by omega, fun j hj => by simp [sI_rd], by simp [sI_rd], by simp [sI_rd], fun a j g1 g2 g3 g4 => by rw [sI_rd, if_neg (by omega), sI_rd, if_neg (by omega)]⟩
    simp (disch := omega) [fX12_load_2, kO_187, kI_208, kI_209, kI_210, kI_211, g_t, b_d, b_c, b_v, Bool.and_true, Bool.and_self, Bool.true_and, xL, xN1, nI_add, xM, xS, xP, xIx, xIn, xLe, xLt, xEq, xDv, sI_rd]
  | m + 1, i, k, S, hi, hk => by
    obtain ⟨k', rfl⟩ := up1 hk
    obtain ⟨S', h1, h2, h3, h4, h5, h6⟩ := s_load2 m (i + 1) k' (sI (sI (sI S 209 i (S.1 208 i)) 210 i (S.1 208 (5 + i))) 211 i (S.1 208 (10 + i))) (by omega) (by omega)
    refine ⟨S', ?_, fun j q1 q2 => ?_, fun j hj => ?_, ?_, ?_, fun a j g1 g2 g3 g4 => ?_⟩
    · rw [← h1]
      have c : ¬ 5 ≤ i := by omega
      simp (disch := omega) [fX12_load_2, kO_187, kI_208, kI_209, kI_210, kI_211, g_t, b_d, b_c, b_v, Bool.and_true, Bool.and_self, Bool.true_and, xL, xN1, nI_add, xM, xS, xP, xIx, xIn, xLe, xLt, xEq, xDv, c, sI_rd]
    · by_cases q : j = i
      · subst q
        have := h3 j (by omega)
        simp only [sI_rd] at this
        simpa using this
      · have := h2 j (by omega) q2
        simpa [sI_rd] using this
    · have := h3 j (by omega)
      have q : j ≠ i := by omega
      simpa [sI_rd, q] using this
    · rw [h4]
      simp [sI_rd]
    · rw [h5]
      simp [sI_rd]
    · rw [h6 a j g1 g2 g3 g4]
      simp [sI_rd, g1, g2, g3]
theorem s_load (S : mT) : ∃ S', fX12_load S = some S' ∧ (∀ j, j < 5 → S'.1 209 j = S.1 208 j ∧ S'.1 210 j = S.1 208 (5 + j) ∧ S'.1 211 j = S.1 208 (10 + j)) ∧ S'.1 187 43 = S.1 208 15 ∧ S'.1 187 44 = S.1 208 16 ∧ (∀ a j, a ≠ 209 → a ≠ 210 → a ≠ 211 → ¬ (a = 187 ∧ (j = 43 ∨ j = 44)) → S'.1 a j = S.1 a j) := by
  obtain ⟨S', h1, h2, _, h4, h5, h6⟩ := s_load2 5 0 mK S (by omega) (by have := mK_gt; omega)
  exact ⟨S', h1, fun j hj => h2 j (by omega) hj, h4, h5, h6⟩
theorem s_keep2 : ∀ (m i k : Nat) (S : mT), i + m = 5 → m < k → ∃ S', fX12_keep_2 k (nI i) S = some S' ∧ (∀ j, i ≤ j → j < 5 → S'.1 208 j = S.1 209 j ∧ S'.1 208 (5 + j) = S.1 210 j ∧ S'.1 208 (10 + j) = S.1 211 j) ∧ (∀ j, j < i → S'.1 208 j = S.1 208 j ∧ S'.1 208 (5 + j) = S.1 208 (5 + j) ∧ S'.1 208 (10 + j) = S.1 208 (10 + j)) ∧ S'.1 208 15 = S.1 187 43 ∧ S'.1 208 16 = S.1 187 44 ∧ (∀ a j, a ≠ 208 → S'.1 a j = S.1 a j)
  | 0, i, k, S, hi, hk => by
    obtain ⟨k', rfl⟩ := up1 hk
    have hi : i = 5 := by omega
    subst hi
    refine ⟨sI (sI S 208 15 (S.1 187 43)) 208 16 (S.1 187 44), ?_, fun j q1 q2 => by omega, fun j hj => ?_, by simp [sI_rd], by simp [sI_rd], fun a j g1 => by rw [sI_rd, if_neg (by omega), sI_rd, if_neg (by omega)]⟩
    · simp (disch := omega) [fX12_keep_2, kO_187, kI_208, kI_209, kI_210, kI_211, g_t, b_d, b_c, b_v, Bool.and_true, Bool.and_self, Bool.true_and, xL, xN1, nI_add, xM, xS, xP, xIx, xIn, xLe, xLt, xEq, xDv, sI_rd]
    · refine ⟨?_, ?_, ?_⟩ <;> rw [sI_rd, if_neg (by omega), sI_rd, if_neg (by omega)]
  | m + 1, i, k, S, hi, hk => by
    obtain ⟨k', rfl⟩ := up1 hk
    obtain ⟨S', h1, h2, h3, h4, h5, h6⟩ := s_keep2 m (i + 1) k' (sI (sI (sI S 208 i (S.1 209 i)) 208 (5 + i) (S.1 210 i)) 208 (10 + i) (S.1 211 i)) (by omega) (by omega)
    refine ⟨S', ?_, fun j q1 q2 => ?_, fun j hj => ?_, ?_, ?_, fun a j g1 => ?_⟩
    · rw [← h1]
      have c : ¬ 5 ≤ i := by omega
      simp (disch := omega) [fX12_keep_2, kO_187, kI_208, kI_209, kI_210, kI_211, g_t, b_d, b_c, b_v, Bool.and_true, Bool.and_self, Bool.true_and, xL, xN1, nI_add, xM, xS, xP, xIx, xIn, xLe, xLt, xEq, xDv, c, sI_rd]
    · by_cases q : j = i
      · subst q
        obtain ⟨p1, p2, p3⟩ := h3 j (by omega)
        rw [p1, p2, p3]
        refine ⟨?_, ?_, ?_⟩
        · rw [sI_rd, if_neg (by omega), sI_rd, if_neg (by omega), sI_rd, if_pos (by omega)]
        · rw [sI_rd, if_neg (by omega), sI_rd, if_pos (by omega)]
        · rw [sI_rd, if_pos (by omega)]
      · have := h2 j (by omega) q2
        simpa [sI_rd] using this
    · obtain ⟨p1, p2, p3⟩ := h3 j (by omega)
      rw [p1, p2, p3]
      refine ⟨?_, ?_, ?_⟩ <;> rw [sI_rd, if_neg (by omega), sI_rd, if_neg (by omega), sI_rd, if_neg (by omega)]
    · rw [h4]
      simp [sI_rd]
    · rw [h5]
      simp [sI_rd]
    · rw [h6 a j g1]
      simp [sI_rd, g1]
theorem s_keepM (S : mT) : ∃ S', fX12_keep S = some S' ∧ (∀ j, j < 5 → S'.1 208 j = S.1 209 j ∧ S'.1 208 (5 + j) = S.1 210 j ∧ S'.1 208 (10 + j) = S.1 211 j) ∧ S'.1 208 15 = S.1 187 43 ∧ S'.1 208 16 = S.1 187 44 ∧ (∀ a j, a ≠ 208 → S'.1 a j = S.1 a j) := by
  obtain ⟨S', h1, h2, _, h4, h5, h6⟩ := s_keep2 5 0 mK S (by omega) (by have := mK_gt; omega)
  exact ⟨S', h1, fun j hj => h2 j (by omega) hj, h4, h5, h6⟩
