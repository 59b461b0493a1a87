/-! seats, stone, loss -/
def nq (f g : Nat → Int32) : Nat → Bool
  | 0 => false
  | i + 1 => nq f g i || !(decide (f i = g i))
theorem nq_mono {f g : Nat → Int32} {i : Nat} (h : nq f g i = true) : ∀ {n : Nat}, i ≤ n → nq f g n = true
  | 0, hn => by
    have : i = 0 := by omega
    subst this
    exact h
  | n + 1, hn => by
    by_cases c : i = n + 1
    · subst c
      exact h
    · unfold nq
      rw [nq_mono h (n := n) (by omega), Bool.true_or]
def nqI (f g : Nat → Int32) (n : Nat) : Int32 := if nq f g n = true then nI 1 else nI 0
section
variable {B : Nat → Nat} {n N : Nat} {S C L : mT} {f g : Nat → Int32}
theorem nq_congr {f' g' : Nat → Int32} : ∀ {n : Nat}, (∀ i, i < n → f i = f' i ∧ g i = g' i) → nq f g n = nq f' g' n
  | 0, _ => rfl
  | n + 1, h => by
    unfold nq
    rw [nq_congr (n := n) (fun i hi => h i (by omega)), (h n (by omega)).1, (h n (by omega)).2]
theorem s_chg2 (hn : n ≤ 5) (n1 : C.1 109 4 = nI n) : ∀ (m i k : Nat), i + m = n → m < k → nq (C.1 111) (C.1 113) i = false → fX7_isChanged_2 k (nI i) C = some (nqI (C.1 111) (C.1 113) n, C)
  | 0, i, k, hi, hk, h => by
    obtain ⟨k', rfl⟩ := up1 hk
    have hi : i = n := by omega
    subst hi
    have c : nI i ≤ nI i := Int32.le_refl _
    unfold nqI
    rw [h, if_neg (by decide)]
    simp only [fX7_isChanged_2, kO_109, g_t, b_d, b_c, b_v, Bool.and_true, Bool.and_self, Bool.true_and, xL, n1, if_pos c]
  | m + 1, i, k, hi, hk, h => by
    obtain ⟨k', rfl⟩ := up1 hk
    have c : ¬ nI n ≤ nI i := fun z => by have := (xLe (by omega) (by omega)).mp z; omega
    by_cases q : C.1 111 i = C.1 113 i
    · have o1 : nI i + (1 : Int32) = nI (i + 1) := nI_add i 1
      rw [← s_chg2 hn n1 m (i + 1) k' (by omega) (by omega) (by unfold nq; rw [h]; simp [q])]
      simp (disch := omega) only [fX7_isChanged_2, kO_109, kI_111, kI_113, g_t, b_d, b_c, b_v, Bool.and_true, Bool.and_self, Bool.true_and, n1, if_neg c, xIx, xIn, if_pos q, o1]
    · have ht : nq (C.1 111) (C.1 113) n = true := nq_mono (i := i + 1) (by unfold nq; simp [q]) (by omega)
      unfold nqI
      rw [ht, if_pos rfl]
      simp (disch := omega) only [fX7_isChanged_2, kO_109, kI_111, kI_113, g_t, b_d, b_c, b_v, Bool.and_true, Bool.and_self, Bool.true_and, n1, if_neg c, xIx, xIn, if_neg q]
      rfl
theorem s_chg (hn : n ≤ 5) (n1 : C.1 109 4 = nI n) : fX7_isChanged C = some (nqI (C.1 111) (C.1 113) n, C) := s_chg2 hn n1 n 0 mK (by omega) (by have := mK_gt; omega) rfl
theorem nqI_fit (n : Nat) : mFit .boolean (nqI f g n) = true := by
  unfold nqI
  split
  · rfl
  · rfl
theorem s_oth4 (hn : n ≤ 5) (n2 : L.1 187 37 = nI n) : ∀ (m i k : Nat), i + m = n → m < k → fX12_isOtherSeats_4 k (nqI (L.1 217) (L.1 219) i) (nI i) L = some (nqI (L.1 217) (L.1 219) n, L)
  | 0, i, k, hi, hk => by
    obtain ⟨k', rfl⟩ := up1 hk
    have hi : i = n := by omega
    subst hi
    have c : nI i ≤ nI i := Int32.le_refl _
    simp only [fX12_isOtherSeats_4, kO_187, g_t, b_d, b_c, b_v, Bool.and_true, Bool.and_self, Bool.true_and, n2, if_pos c, nqI_fit]
  | m + 1, i, k, hi, hk => by
    obtain ⟨k', rfl⟩ := up1 hk
    have c : ¬ nI n ≤ nI i := fun z => by have := (xLe (by omega) (by omega)).mp z; omega
    have o1 : nI i + (1 : Int32) = nI (i + 1) := nI_add i 1
    rw [← s_oth4 hn n2 m (i + 1) k' (by omega) (by omega)]
    by_cases h : nq (L.1 217) (L.1 219) i = true
    · have e1 : nqI (L.1 217) (L.1 219) i = nI 1 := if_pos h
      have e2 : nqI (L.1 217) (L.1 219) (i + 1) = nI 1 := if_pos (nq_mono h (by omega))
      have c1 : ¬ nI 1 = (0 : Int32) := by decide
      rw [e1, e2]
      simp (disch := omega) only [fX12_isOtherSeats_4, fX12_isOtherSeats_31, fX12_isOtherSeats_36, kO_187, g_t, b_d, b_c, b_v, Bool.and_true, Bool.and_self, Bool.true_and, n2, if_neg c, if_neg c1, o1]
      rfl
    · have e1 : nqI (L.1 217) (L.1 219) i = nI 0 := if_neg h
      have c1 : nI 0 = (0 : Int32) := rfl
      have h' : nq (L.1 217) (L.1 219) i = false := by
        cases z : nq (L.1 217) (L.1 219) i
        · rfl
        · exact absurd z h
      by_cases q : L.1 217 i = L.1 219 i
      · have e2 : nqI (L.1 217) (L.1 219) (i + 1) = nI 0 := if_neg (by unfold nq; rw [h']; simp [q])
        rw [e1, e2]
        simp (disch := omega) only [fX12_isOtherSeats_4, fX12_isOtherSeats_36, kO_187, kI_217, kI_219, g_t, b_d, b_c, b_v, Bool.and_true, Bool.and_self, Bool.true_and, n2, if_neg c, if_pos c1, xIx, xIn, if_pos q, o1]
        rfl
      · have e2 : nqI (L.1 217) (L.1 219) (i + 1) = nI 1 := if_pos (by unfold nq; simp [q])
        rw [e1, e2]
        simp (disch := omega) only [fX12_isOtherSeats_4, fX12_isOtherSeats_31, fX12_isOtherSeats_36, kO_187, kI_217, kI_219, g_t, b_d, b_c, b_v, Bool.and_true, Bool.and_self, Bool.true_and, n2, if_neg c, if_pos c1, xIx, xIn, if_neg q, o1]
        rfl
theorem s_oth (hn : n ≤ 5) (n2 : L.1 187 37 = nI n) : fX12_isOtherSeats L = some (nqI (L.1 217) (L.1 219) n, L) := s_oth4 hn n2 n 0 mK (by omega) (by have := mK_gt; omega)
theorem s_ks2 : ∀ (m i k : Nat) (L : mT), i + m = 5 → m < k → ∃ L', fX12_keepSeats_2 k (nI i) L = some L' ∧ (∀ j, i ≤ j → j < 5 → L'.1 219 j = L.1 217 j) ∧ (∀ j, j < i → L'.1 219 j = L.1 219 j) ∧ ∀ a j, a ≠ 219 → L'.1 a j = L.1 a j
  | 0, i, k, L, hi, hk => by
    obtain ⟨k', rfl⟩ := up1 hk
    have hi : i = 5 := by omega
    subst hi
    exact ⟨L, by simp (disch := omega) [fX12_keepSeats_2, kO_187, kI_219, kI_217, xL, xLe], fun j _ _ => by omega, fun _ _ => rfl, fun _ _ _ => rfl⟩
  | m + 1, i, k, L, hi, hk => by
    obtain ⟨k', rfl⟩ := up1 hk
    obtain ⟨L', r1, r2, r3, r4⟩ := s_ks2 m (i + 1) k' (sI L 219 i (L.1 217 i)) (by omega) (by omega)
    refine ⟨L', ?_, fun j g1 g2 => ?_, fun j hj => ?_, fun a j g => by rw [r4 a j g, sI_rd, if_neg (by omega)]⟩
    · rw [← r1]
      have c : ¬ 5 ≤ i := by omega
      simp (disch := omega) [fX12_keepSeats_2, kO_187, kI_219, kI_217, g_t, b_d, b_c, b_v, Bool.and_true, Bool.and_self, Bool.true_and, xL, xN1, nI_add, xM, xS, xP, xIx, xIn, xLe, xLt, xEq, xDv, c]
    · by_cases q : j = i
      · rw [r3 j (by omega), sI_rd, if_pos ⟨rfl, q⟩, q]
      · rw [r2 j (by omega) g2, sI_rd, if_neg (by omega)]
    · rw [r3 j (by omega), sI_rd, if_neg (by omega)]
theorem s_ks (L : mT) : ∃ L', fX12_keepSeats L = some L' ∧ (∀ j, j < 5 → L'.1 219 j = L.1 217 j) ∧ ∀ a j, a ≠ 219 → L'.1 a j = L.1 a j := by
  obtain ⟨L', r1, r2, r3, r4⟩ := s_ks2 5 0 mK L (by omega) (by have := mK_gt; omega)
  exact ⟨L', r1, fun j hj => r2 j (by omega) hj, r4⟩
def Bu (B : Nat → Nat) (h : Nat) : Nat → Nat := fun j => if j = h then B j + 1 else B j
theorem Bu_le (hB : ∀ j, j < n → B j ≤ 99) (h : Nat) : ∀ j, j < n → Bu B h j ≤ 100 := fun j hj => by
  have := hB j hj
  unfold Bu
  split
  · omega
  · omega
def stB (B : Nat → Nat) (n N law h : Nat) : Bool := nq (gS (Bu B h) n N law) (gS B n N law) n
theorem c_cbo (hn : n ≤ 5) (hB : ∀ j, j < n → B j ≤ 99) (hN : N ≤ 20) {law : Nat} (hlaw : law < 2) : ∀ (m i k : Nat) (C : mT), i + m = n → m < k → C.1 109 4 = nI n → (∀ j, j < n → C.1 110 j = nI (B j) ∧ C.1 113 j = gS B n N law j) → ∃ C', fX7_changedByOne_28 k (nI N) (nI law) (bt (fun h => stB B n N law h = true) i) (nI i) C = some (bt (fun h => stB B n N law h = true) n, C')
  | 0, i, k, C, hi, hk, n1, e => by
    obtain ⟨k', rfl⟩ := up1 hk
    have hi : i = n := by omega
    subst hi
    have c : nI i ≤ nI i := Int32.le_refl _
    exact ⟨C, by simp only [fX7_changedByOne_28, kO_109, g_t, b_d, b_c, b_v, Bool.and_true, Bool.and_self, Bool.true_and, n1, if_pos c]⟩
  | m + 1, i, k, C, hi, hk, n1, e => by
    obtain ⟨k', rfl⟩ := up1 hk
    have c : ¬ nI n ≤ nI i := fun z => by have := (xLe (by omega) (by omega)).mp z; omega
    have hBi := hB i (by omega)
    obtain ⟨C4, s1, s2, s3⟩ := c_share (B := Bu B i) (N := N) (C := sI C 110 i (nI (B i + 1))) hn (Bu_le hB i) hN hlaw (by rw [sI_rd, if_neg (by omega)]; exact n1) (fun j hj => by
      rw [sI_rd]
      unfold Bu
      by_cases q : j = i
      · rw [if_pos ⟨rfl, q⟩, if_pos q, q]
      · rw [if_neg (by omega), if_neg q]
        exact (e j hj).1)
    have e4 : C4.1 110 i = nI (B i + 1) := by rw [s3 _ _ (by omega) (by omega), sI_rd, if_pos ⟨rfl, rfl⟩]
    have n5 : (sI C4 110 i (nI (B i))).1 109 4 = nI n := by rw [sI_rd, if_neg (by omega), s3 _ _ (by omega) (by omega), sI_rd, if_neg (by omega)]; exact n1
    have r11 : ∀ j, j < n → (sI C4 110 i (nI (B i))).1 111 j = gS (Bu B i) n N law j := fun j hj => by rw [sI_rd, if_neg (by omega)]; exact s2 j hj
    have r13 : ∀ j, j < n → (sI C4 110 i (nI (B i))).1 113 j = gS B n N law j := fun j hj => by rw [sI_rd, if_neg (by omega), s3 _ _ (by omega) (by omega), sI_rd, if_neg (by omega)]; exact (e j hj).2
    obtain ⟨C', q1⟩ := c_cbo hn hB hN hlaw m (i + 1) k' (sI C4 110 i (nI (B i))) (by omega) (by omega) n5 (fun j hj => ⟨by
      rw [sI_rd]
      by_cases q : j = i
      · rw [if_pos ⟨rfl, q⟩, q]
      · rw [if_neg (by omega), s3 _ _ (by omega) (by omega), sI_rd, if_neg (by omega)]
        exact (e j hj).1, r13 j hj⟩)
    have hc := s_chg hn n5
    have ec : nqI ((sI C4 110 i (nI (B i))).1 111) ((sI C4 110 i (nI (B i))).1 113) n = if stB B n N law i = true then nI 1 else nI 0 := by
      unfold nqI stB
      rw [nq_congr fun j hj => ⟨r11 j hj, r13 j hj⟩]
    rw [ec] at hc
    refine ⟨C', ?_⟩
    rw [← q1]
    have o1 : nI i + (1 : Int32) = nI (i + 1) := nI_add i 1
    have o2 : nI (B i) + (1 : Int32) = nI (B i + 1) := nI_add _ 1
    have o3 : nI (B i + 1) - (1 : Int32) = nI (B i) := by rw [show (1 : Int32) = nI 1 from rfl, xS (by omega)]; rfl
    by_cases q : stB B n N law i = true
    · have c1 : ¬ nI 1 = (0 : Int32) := by decide
      rw [if_pos q] at hc
      simp (disch := omega) only [fX7_changedByOne_28, fX7_changedByOne_79, kO_109, kI_110, g_t, b_d, b_c, b_v, Bool.and_true, Bool.and_self, Bool.true_and, n1, if_neg c, xIx, xIn, (e i (by omega)).1, o2, s1, e4, o3, hc, if_neg c1, o1, bt, if_pos q]
    · have c1 : nI 0 = (0 : Int32) := rfl
      rw [if_neg q] at hc
      simp (disch := omega) only [fX7_changedByOne_28, fX7_changedByOne_79, kO_109, kI_110, g_t, b_d, b_c, b_v, Bool.and_true, Bool.and_self, Bool.true_and, n1, if_neg c, xIx, xIn, (e i (by omega)).1, o2, s1, e4, o3, hc, if_pos c1, o1, bt, if_neg q]
theorem m_st40 (hn : n ≤ 5) (hB : ∀ j, j < n → B j ≤ 99) (hN : N ≤ 20) {law : Nat} (hlaw : law < 2) : ∀ (m i k : Nat) (L : mT), i + m = n → m < k → L.1 187 37 = nI n → (∀ j, j < n → L.1 211 j = nI (B j) ∧ L.1 219 j = gS B n N law j) → ∃ L', fX12_stone_40 k (nI N) (nI law) (bt (fun h => stB B n N law h = true) i) (nI i) L = some (bt (fun h => stB B n N law h = true) n, L')
  | 0, i, k, L, hi, hk, n1, e => by
    obtain ⟨k', rfl⟩ := up1 hk
    have hi : i = n := by omega
    subst hi
    have c : nI i ≤ nI i := Int32.le_refl _
    exact ⟨L, by simp only [fX12_stone_40, kO_187, g_t, b_d, b_c, b_v, Bool.and_true, Bool.and_self, Bool.true_and, n1, if_pos c]⟩
  | m + 1, i, k, L, hi, hk, n1, e => by
    obtain ⟨k', rfl⟩ := up1 hk
    have c : ¬ nI n ≤ nI i := fun z => by have := (xLe (by omega) (by omega)).mp z; omega
    have hBi := hB i (by omega)
    obtain ⟨L4, s1, s2, s3⟩ := m_lay (B := Bu B i) (N := N) (L := sI L 211 i (nI (B i + 1))) hn (Bu_le hB i) hN hlaw (by rw [sI_rd, if_neg (by omega)]; exact n1) (fun j hj => by
      rw [sI_rd]
      unfold Bu
      by_cases q : j = i
      · rw [if_pos ⟨rfl, q⟩, if_pos q, q]
      · rw [if_neg (by omega), if_neg q]
        exact (e j hj).1)
    have e4 : L4.1 211 i = nI (B i + 1) := by rw [s3 _ _ (by omega) (by omega), sI_rd, if_pos ⟨rfl, rfl⟩]
    have n5 : (sI L4 211 i (nI (B i))).1 187 37 = nI n := by rw [sI_rd, if_neg (by omega), s3 _ _ (by omega) (by omega), sI_rd, if_neg (by omega)]; exact n1
    have r11 : ∀ j, j < n → (sI L4 211 i (nI (B i))).1 217 j = gS (Bu B i) n N law j := fun j hj => by rw [sI_rd, if_neg (by omega)]; exact s2 j hj
    have r13 : ∀ j, j < n → (sI L4 211 i (nI (B i))).1 219 j = gS B n N law j := fun j hj => by rw [sI_rd, if_neg (by omega), s3 _ _ (by omega) (by omega), sI_rd, if_neg (by omega)]; exact (e j hj).2
    obtain ⟨L', q1⟩ := m_st40 hn hB hN hlaw m (i + 1) k' (sI L4 211 i (nI (B i))) (by omega) (by omega) n5 (fun j hj => ⟨by
      rw [sI_rd]
      by_cases q : j = i
      · rw [if_pos ⟨rfl, q⟩, q]
      · rw [if_neg (by omega), s3 _ _ (by omega) (by omega), sI_rd, if_neg (by omega)]
        exact (e j hj).1, r13 j hj⟩)
    have hc := s_oth hn n5
    have ec : nqI ((sI L4 211 i (nI (B i))).1 217) ((sI L4 211 i (nI (B i))).1 219) n = if stB B n N law i = true then nI 1 else nI 0 := by
      unfold nqI stB
      rw [nq_congr fun j hj => ⟨r11 j hj, r13 j hj⟩]
    rw [ec] at hc
    refine ⟨L', ?_⟩
    rw [← q1]
    have o1 : nI i + (1 : Int32) = nI (i + 1) := nI_add i 1
    have o2 : nI (B i) + (1 : Int32) = nI (B i + 1) := nI_add _ 1
    have o3 : nI (B i + 1) - (1 : Int32) = nI (B i) := by rw [show (1 : Int32) = nI 1 from rfl, xS (by omega)]; rfl
    by_cases q : stB B n N law i = true
    · have c1 : ¬ nI 1 = (0 : Int32) := by decide
      rw [if_pos q] at hc
      simp (disch := omega) only [fX12_stone_40, kO_187, kI_211, g_t, b_d, b_c, b_v, Bool.and_true, Bool.and_self, Bool.true_and, n1, if_neg c, xIx, xIn, (e i (by omega)).1, o2, s1, e4, o3, hc, s_truth, if_neg c1, o1, bt, if_pos q]
    · have c1 : nI 0 = (0 : Int32) := rfl
      rw [if_neg q] at hc
      have z : ((0 : Int32) <<< (nI i &&& 31)) = 0 := Int32.zero_shiftLeft
      simp (disch := omega) only [fX12_stone_40, kO_187, kI_211, g_t, b_d, b_c, b_v, Bool.and_true, Bool.and_self, Bool.true_and, n1, if_neg c, xIx, xIn, (e i (by omega)).1, o2, s1, e4, o3, hc, s_truth, if_pos c1, z, or0', o1, bt, if_neg q]
end
