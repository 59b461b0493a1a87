/-! SEATS, third part: the reference. -/
section
variable {B : Nat → Nat} {n N : Nat} {S L : mT}
theorem m_109a (hn : n ≤ 5) (h0 : 0 < n) {g r : Nat → Int32} {A : Nat} (hA : 0 < A) (hA2 : A < 2000000) : ∀ (m i k : Nat) (L : mT), m < 100 → m < k → L.1 187 37 = nI n → (∀ j, j < n → L.1 217 j = (lrS g r n i).1 j ∧ L.1 218 j = (lrS g r n i).2 j) → ∃ L', fX12_laySeats_109 k (nI 0) (nI A) (nI m) L = some L' ∧ (∀ j, j < n → L'.1 217 j = (lrS g r n (i + m)).1 j) ∧ ∀ a j, a ≠ 217 → a ≠ 218 → L'.1 a j = L.1 a j
  | 0, i, k, L, hm, hk, n2, e => by
    obtain ⟨k', rfl⟩ := up1 hk
    exact ⟨L, by simp (disch := omega) [fX12_laySeats_109, fX12_laySeats_229, xL, xLe], fun j hj => (e j hj).1, fun _ _ _ _ => rfl⟩
  | m + 1, i, k, L, hm, hk, n2, e => by
    obtain ⟨k', rfl⟩ := up1 hk
    have ef : fl (L.1 218) n = fl (lrS g r n i).2 n := fl_congr fun j hj => (e j hj).2
    have hlt := fl_lt (f := (lrS g r n i).2) h0
    have st := s_ls124 (S := L) (A := A) (left := m + 1) hn 0 (by omega) (fX12_laySeats_109 k') n2 (by omega) (n - 1) 1 mK (by omega) (by omega) (by have := mK_gt; omega) (fl (L.1 218)) (by rw [if_pos rfl])
    rw [ef] at st
    generalize hb : fl (lrS g r n i).2 n = bb at st hlt
    obtain ⟨L', r1, r2, r3⟩ := m_109a hn h0 (g := g) (r := r) hA hA2 m (i + 1) k' (sI (sI L 217 bb (L.1 217 bb + 1)) 218 bb (-1)) (by omega) (by omega) (by rw [sI_rd, if_neg (by omega), sI_rd, if_neg (by omega)]; exact n2) (fun j hj => by
      rw [sI_rd, if_neg (by omega), sI_rd, sI_rd]
      simp only [lrS, hb, true_and]
      by_cases c : j = bb
      · rw [if_pos c, if_pos c, if_pos c, if_pos c, c, (e bb hlt).1]
        exact ⟨rfl, rfl⟩
      · rw [if_neg c, if_neg c, if_neg c, if_neg c, sI_rd, if_neg (by omega)]
        exact e j hj)
    refine ⟨L', ?_, fun j hj => by rw [r2 j hj, show i + 1 + m = i + (m + 1) by omega], fun a j g1 g2 => by rw [r3 a j g1 g2, sI_rd, if_neg (by omega), sI_rd, if_neg (by omega)]⟩
    rw [← r1]
    have st' : fX12_laySeats_124 (fX12_laySeats_109 k') mK (nI 0) (nI A) (nI (m + 1)) (0 : Int32) (1 : Int32) L = _ := st
    have c1 : ¬ nI (m + 1) ≤ (0 : Int32) := fun z => by have := (xLe (b := 0) (by omega) (by omega)).mp z; omega
    have c2 : ¬ nI A ≤ (0 : Int32) := fun z => by have := (xLe (b := 0) (by omega) (by omega)).mp z; omega
    conv => lhs; unfold fX12_laySeats_109
    rw [if_neg c1, if_neg c2, st']
    rfl
theorem m_109b (hn : n ≤ 5) (h0 : 0 < n) {Bf : Nat → Int32} {A : Nat} (hA : 0 < A) (hA2 : A < 2000000) : ∀ (m i k : Nat) (L : mT), m < 100 → m < k → L.1 187 37 = nI n → (∀ j, j < n → L.1 211 j = Bf j ∧ L.1 217 j = ogS Bf n i j) → ∃ L', fX12_laySeats_109 k (nI 1) (nI A) (nI m) L = some L' ∧ (∀ j, j < n → L'.1 217 j = ogS Bf n (i + m) j) ∧ ∀ a j, a ≠ 217 → a ≠ 218 → L'.1 a j = L.1 a j
  | 0, i, k, L, hm, hk, n2, e => by
    obtain ⟨k', rfl⟩ := up1 hk
    exact ⟨L, by simp (disch := omega) [fX12_laySeats_109, fX12_laySeats_229, xL, xLe], fun j hj => (e j hj).2, fun _ _ _ _ => rfl⟩
  | m + 1, i, k, L, hm, hk, n2, e => by
    obtain ⟨k', rfl⟩ := up1 hk
    have ef : fo (L.1 211) (L.1 217) n = fo Bf (ogS Bf n i) n := fo_congr e
    have hlt := fo_lt (B := Bf) (g := ogS Bf n i) h0
    have st := s_ls124 (S := L) (A := A) (left := m + 1) hn 1 (by omega) (fX12_laySeats_109 k') n2 (by omega) (n - 1) 1 mK (by omega) (by omega) (by have := mK_gt; omega) (fo (L.1 211) (L.1 217)) (by rw [if_neg (by omega)])
    rw [ef] at st
    generalize hb : fo Bf (ogS Bf n i) n = bb at st hlt
    obtain ⟨L', r1, r2, r3⟩ := m_109b hn h0 (Bf := Bf) hA hA2 m (i + 1) k' (sI (sI L 217 bb (L.1 217 bb + 1)) 218 bb (-1)) (by omega) (by omega) (by rw [sI_rd, if_neg (by omega), sI_rd, if_neg (by omega)]; exact n2) (fun j hj => by
      rw [sI_rd, if_neg (by omega), sI_rd, if_neg (by omega), sI_rd, if_neg (by omega), sI_rd]
      simp only [ogS, hb, true_and]
      by_cases c : j = bb
      · rw [if_pos c, if_pos c, c, (e bb hlt).2]
        exact ⟨(e bb hlt).1, rfl⟩
      · rw [if_neg c, if_neg c]
        exact e j hj)
    refine ⟨L', ?_, fun j hj => by rw [r2 j hj, show i + 1 + m = i + (m + 1) by omega], fun a j g1 g2 => by rw [r3 a j g1 g2, sI_rd, if_neg (by omega), sI_rd, if_neg (by omega)]⟩
    rw [← r1]
    have st' : fX12_laySeats_124 (fX12_laySeats_109 k') mK (nI 1) (nI A) (nI (m + 1)) (0 : Int32) (1 : Int32) L = _ := st
    have c1 : ¬ nI (m + 1) ≤ (0 : Int32) := fun z => by have := (xLe (b := 0) (by omega) (by omega)).mp z; omega
    have c2 : ¬ nI A ≤ (0 : Int32) := fun z => by have := (xLe (b := 0) (by omega) (by omega)).mp z; omega
    conv => lhs; unfold fX12_laySeats_109
    rw [if_neg c1, if_neg c2, st']
    rfl
def svS (B : Nat → Nat) (n N law j : Nat) : Int32 := if law = 0 ∧ 0 < sN B n ∧ j < n then nI (qS B n N j) else nI 0
def rvS (B : Nat → Nat) (n N j : Nat) : Int32 := if 0 < sN B n ∧ j < n then nI (B j * N % sN B n) else -nI 1
def lfS (B : Nat → Nat) (n N law i : Nat) : Nat := if law = 0 ∧ 0 < sN B n then N - sN (qS B n N) (min i n) else N
theorem m_ls11s (hn : n ≤ 5) (hB : ∀ j, j < n → B j ≤ 100) (hN : N ≤ 20) {law : Nat} (hlaw : law < 2) {i k : Nat} (hi : i < 5) (n2 : L.1 187 37 = nI n) (e : ∀ j, j < n → L.1 211 j = nI (B j)) : fX12_laySeats_11 (k + 1) (nI N) (nI law) (nI (sN B n)) (nI (lfS B n N law i)) (nI i) L = fX12_laySeats_11 k (nI N) (nI law) (nI (sN B n)) (nI (lfS B n N law (i + 1))) (nI (i + 1)) (sI (sI L 217 i (svS B n N law i)) 218 i (rvS B n N i)) := by
  have hA : sN B n ≤ 5 * 100 := Nat.le_trans (sN_le hB) (Nat.mul_le_mul_right _ hn)
  have hc : ¬ nI 5 ≤ nI i := fun z => by have := (xLe (by omega) (by omega)).mp z; omega
  have n3 : ∀ v, (sI L 217 i v).1 187 37 = nI n := fun v => by rw [sI_rd, if_neg (by omega)]; exact n2
  have w1 : ∀ v w, (sI (sI L 217 i v) 218 i w).1 217 i = v := fun v w => by rw [sI_rd, if_neg (by omega), sI_rd, if_pos ⟨rfl, rfl⟩]
  have o1 : nI i + nI 1 = nI (i + 1) := nI_add i 1
  by_cases hp : 0 < sN B n
  · have c2 : ¬ nI (sN B n) ≤ nI 0 := fun z => by have := (xLe (by omega) (by omega)).mp z; omega
    have c3 : decide (¬ nI (sN B n) = nI 0) = true := by
      rw [decide_eq_true_iff]
      exact fun z => by have := (xEq (by omega) (by omega)).mp z; omega
    by_cases hin : i < n
    · have hpB : B i * N ≤ 100 * 20 := Nat.mul_le_mul (hB i hin) hN
      have hq : qS B n N i ≤ B i * N := Nat.div_le_self _ _
      have hm : B i * N % sN B n < sN B n := Nat.mod_lt _ hp
      have c1 : ¬ nI n ≤ nI i := fun z => by have := (xLe (by omega) (by omega)).mp z; omega
      have d1 : nI (B i) * nI N = nI (B i * N) := xM _ _
      have d2 : nI (B i * N) / nI (sN B n) = nI (qS B n N i) := xDv (by omega) (by omega)
      have d3 : nI (B i * N) - nI (qS B n N i) * nI (sN B n) = nI (B i * N % sN B n) := by rw [← d2, xMd (by omega) (by omega)]
      have e3 : ∀ v, (sI L 217 i v).1 211 i = nI (B i) := fun v => by rw [sI_rd, if_neg (by omega)]; exact e i hin
      have er : rvS B n N i = nI (B i * N % sN B n) := if_pos ⟨hp, hin⟩
      by_cases hl : law = 0
      · subst hl
        have es : svS B n N 0 i = nI (qS B n N i) := if_pos ⟨rfl, hp, hin⟩
        have hs := qs_le (B := B) (N := N) hp (i := i + 1) (by omega)
        have hs' : sN (qS B n N) (i + 1) = sN (qS B n N) i + qS B n N i := rfl
        have d5 : nI (lfS B n N 0 i) - nI (qS B n N i) = nI (lfS B n N 0 (i + 1)) := by
          unfold lfS
          rw [if_pos ⟨rfl, hp⟩, if_pos ⟨rfl, hp⟩, Nat.min_eq_left (by omega), Nat.min_eq_left (by omega), xS (by omega)]
          exact congrArg nI (by omega)
        rw [es, er]
        simp (disch := omega) only [fX12_laySeats_11, fX12_laySeats_55, fX12_laySeats_90, kO_187, kI_211, kI_217, kI_218, g_t, b_d, b_c, b_v, Bool.and_true, Bool.and_self, Bool.true_and, xL, if_neg hc, if_true, if_neg c2, n2, n3, if_neg c1, c3, e i hin, e3, xIx, xIn, d1, d2, d3, d5, w1, o1]
      · have c4 : ¬ nI law = nI 0 := fun z => hl ((xEq (by omega) (by omega)).mp z)
        have es : svS B n N law i = nI 0 := if_neg (by omega)
        have d5 : nI (lfS B n N law i) - nI 0 = nI (lfS B n N law (i + 1)) := by
          unfold lfS
          rw [if_neg (by omega), if_neg (by omega), xS (by omega)]
          rfl
        rw [es, er]
        simp (disch := omega) only [fX12_laySeats_11, fX12_laySeats_54, fX12_laySeats_55, fX12_laySeats_90, kO_187, kI_211, kI_217, kI_218, g_t, b_d, b_c, b_v, Bool.and_true, Bool.and_self, Bool.true_and, xL, if_neg hc, if_neg c4, if_neg c2, n2, n3, if_neg c1, c3, e i hin, e3, xIx, xIn, d1, d2, d3, d5, w1, o1]
    · have c1 : nI n ≤ nI i := (xLe (by omega) (by omega)).mpr (by omega)
      have es : svS B n N law i = nI 0 := if_neg (by omega)
      have er : rvS B n N i = -nI 1 := if_neg (by omega)
      have d5 : nI (lfS B n N law i) - nI 0 = nI (lfS B n N law (i + 1)) := by
        unfold lfS
        rw [Nat.min_eq_right (by omega), Nat.min_eq_right (by omega), xS (by omega)]
        rfl
      rw [es, er]
      by_cases hl : law = 0
      · subst hl
        simp (disch := omega) only [fX12_laySeats_11, fX12_laySeats_54, fX12_laySeats_55, fX12_laySeats_89, fX12_laySeats_90, kO_187, kI_211, kI_217, kI_218, g_t, b_d, b_c, b_v, Bool.and_true, Bool.and_self, Bool.true_and, xL, if_neg hc, if_true, if_neg c2, n2, n3, if_pos c1, xIx, xIn, d5, w1, o1]
      · have c4 : ¬ nI law = nI 0 := fun z => hl ((xEq (by omega) (by omega)).mp z)
        simp (disch := omega) only [fX12_laySeats_11, fX12_laySeats_54, fX12_laySeats_55, fX12_laySeats_89, fX12_laySeats_90, kO_187, kI_211, kI_217, kI_218, g_t, b_d, b_c, b_v, Bool.and_true, Bool.and_self, Bool.true_and, xL, if_neg hc, if_neg c4, if_neg c2, n2, n3, if_pos c1, xIx, xIn, d5, w1, o1]
  · have c2 : nI (sN B n) ≤ nI 0 := (xLe (by omega) (by omega)).mpr (by omega)
    have es : svS B n N law i = nI 0 := if_neg (by omega)
    have er : rvS B n N i = -nI 1 := if_neg (by omega)
    have d5 : nI (lfS B n N law i) - nI 0 = nI (lfS B n N law (i + 1)) := by
      unfold lfS
      rw [if_neg (by omega), if_neg (by omega), xS (by omega)]
      rfl
    rw [es, er]
    by_cases hl : law = 0
    · subst hl
      simp (disch := omega) only [fX12_laySeats_11, fX12_laySeats_54, fX12_laySeats_55, fX12_laySeats_89, fX12_laySeats_90, kO_187, kI_211, kI_217, kI_218, g_t, b_d, b_c, b_v, Bool.and_true, Bool.and_self, Bool.true_and, xL, if_neg hc, if_true, if_pos c2, n2, n3, xIx, xIn, d5, w1, o1]
    · have c4 : ¬ nI law = nI 0 := fun z => hl ((xEq (by omega) (by omega)).mp z)
      simp (disch := omega) only [fX12_laySeats_11, fX12_laySeats_54, fX12_laySeats_55, fX12_laySeats_89, fX12_laySeats_90, kO_187, kI_211, kI_217, kI_218, g_t, b_d, b_c, b_v, Bool.and_true, Bool.and_self, Bool.true_and, xL, if_neg hc, if_neg c4, if_pos c2, n2, n3, xIx, xIn, d5, w1, o1]
theorem m_ls11 (hn : n ≤ 5) (hB : ∀ j, j < n → B j ≤ 100) (hN : N ≤ 20) {law : Nat} (hlaw : law < 2) : ∀ (m i k : Nat) (L : mT), i + m = 5 → m < k → L.1 187 37 = nI n → (∀ j, j < n → L.1 211 j = nI (B j)) → (∀ j, j < i → L.1 217 j = svS B n N law j ∧ L.1 218 j = rvS B n N j) → ∃ L2, fX12_laySeats_11 k (nI N) (nI law) (nI (sN B n)) (nI (lfS B n N law i)) (nI i) L = fX12_laySeats_109 mK (nI law) (nI (sN B n)) (nI (lfS B n N law 5)) L2 ∧ (∀ j, j < 5 → L2.1 217 j = svS B n N law j ∧ L2.1 218 j = rvS B n N j) ∧ ∀ a j, a ≠ 217 → a ≠ 218 → L2.1 a j = L.1 a j
  | 0, i, k, L, hi, hk, n2, e, g => by
    obtain ⟨k', rfl⟩ := up1 hk
    have hi : i = 5 := by omega
    subst hi
    refine ⟨L, ?_, g, fun _ _ _ _ => rfl⟩
    have c : (5 : Int32) ≤ nI 5 := Int32.le_refl _
    simp only [fX12_laySeats_11, if_pos c]
  | m + 1, i, k, L, hi, hk, n2, e, g => by
    obtain ⟨k', rfl⟩ := up1 hk
    obtain ⟨L2, r1, r2, r3⟩ := m_ls11 hn hB hN hlaw m (i + 1) k' (sI (sI L 217 i (svS B n N law i)) 218 i (rvS B n N i)) (by omega) (by omega) (by rw [sI_rd, if_neg (by omega), sI_rd, if_neg (by omega)]; exact n2) (fun j hj => by rw [sI_rd, if_neg (by omega), sI_rd, if_neg (by omega)]; exact e j hj) (fun j hj => by
      rw [sI_rd, if_neg (by omega), sI_rd, sI_rd]
      by_cases c : j = i
      · rw [if_pos ⟨rfl, c⟩, if_pos ⟨rfl, c⟩, c]
        exact ⟨rfl, rfl⟩
      · rw [if_neg (by omega), if_neg (by omega), sI_rd, if_neg (by omega)]
        exact g j (by omega))
    refine ⟨L2, ?_, r2, fun a j g1 g2 => by rw [r3 a j g1 g2, sI_rd, if_neg (by omega), sI_rd, if_neg (by omega)]⟩
    rw [← r1]
    exact m_ls11s hn hB hN hlaw (by omega) n2 e
theorem sm_nI {f : Nat → Nat} : ∀ n, sm (fun j => nI (f j)) n = nI (sN f n)
  | 0 => rfl
  | n + 1 => by
    unfold sm sN
    rw [sm_nI n, nI_add]
theorem m_lay (hn : n ≤ 5) (hB : ∀ j, j < n → B j ≤ 100) (hN : N ≤ 20) {law : Nat} (hlaw : law < 2) (n2 : L.1 187 37 = nI n) (e : ∀ j, j < n → L.1 211 j = nI (B j)) : ∃ L', fX12_laySeats (nI N) (nI law) L = some L' ∧ (∀ j, j < n → L'.1 217 j = gS B n N law j) ∧ ∀ a j, a ≠ 217 → a ≠ 218 → L'.1 a j = L.1 a j := by
  have hA : sN B n ≤ 5 * 100 := Nat.le_trans (sN_le hB) (Nat.mul_le_mul_right _ hn)
  have hb : fX12_allBowls L = some (nI (sN B n), L) := by
    rw [s_bowlM hn n2, ← sm_nI, sm_congr fun i hi => e i hi]
  have l0 : lfS B n N law 0 = N := by
    unfold lfS
    split
    · rw [Nat.min_eq_left (by omega)]
      rfl
    · rfl
  obtain ⟨L2, r1, r2, r3⟩ := m_ls11 hn hB hN hlaw 5 0 mK L (by omega) (by have := mK_gt; omega) n2 e (fun j hj => by omega)
  rw [l0] at r1
  have n3 : L2.1 187 37 = nI n := by rw [r3 _ _ (by omega) (by omega)]; exact n2
  have r1' : fX12_laySeats (nI N) (nI law) L = fX12_laySeats_109 mK (nI law) (nI (sN B n)) (nI (lfS B n N law 5)) L2 := by
    rw [← r1]
    unfold fX12_laySeats
    rw [hb, b_c]
    rfl
  rw [r1']
  by_cases hp : 0 < sN B n
  · have h0 : 0 < n := by
      rcases Nat.eq_zero_or_pos n with z | z
      · subst z
        exact absurd hp (by simp [sN])
      · exact z
    by_cases hl : law = 0
    · subst hl
      have l5 : lfS B n N 0 5 = N - sN (qS B n N) n := by
        unfold lfS
        rw [if_pos ⟨rfl, hp⟩, Nat.min_eq_right (by omega)]
      rw [l5]
      obtain ⟨L', t1, t2, t3⟩ := m_109a hn h0 (g := fun j => nI (qS B n N j)) (r := fun j => nI (B j * N % sN B n)) hp (by omega) (N - sN (qS B n N) n) 0 mK L2 (by omega) (by have := mK_gt; omega) n3 (fun j hj => by
        obtain ⟨q1, q2⟩ := r2 j (by omega)
        exact ⟨q1.trans (if_pos ⟨rfl, hp, hj⟩), q2.trans (if_pos ⟨hp, hj⟩)⟩)
      refine ⟨L', t1, fun j hj => ?_, fun a j g1 g2 => by rw [t3 a j g1 g2, r3 a j g1 g2]⟩
      rw [t2 j hj, Nat.zero_add]
      unfold gS
      rw [if_neg (by omega), if_pos rfl]
    · have hl1 : law = 1 := by omega
      subst hl1
      have l5 : lfS B n N 1 5 = N := by
        unfold lfS
        rw [if_neg (by omega)]
      rw [l5]
      obtain ⟨L', t1, t2, t3⟩ := m_109b hn h0 (Bf := fun j => nI (B j)) hp (by omega) N 0 mK L2 (by omega) (by have := mK_gt; omega) n3 (fun j hj => ⟨by rw [r3 _ _ (by omega) (by omega)]; exact e j hj, (r2 j (by omega)).1.trans (if_neg (by omega))⟩)
      refine ⟨L', t1, fun j hj => ?_, fun a j g1 g2 => by rw [t3 a j g1 g2, r3 a j g1 g2]⟩
      rw [t2 j hj, Nat.zero_add]
      unfold gS
      rw [if_neg (by omega), if_neg hl]
  · refine ⟨L2, ?_, fun j hj => ?_, r3⟩
    · obtain ⟨K, hK⟩ : ∃ K, mK = K + 1 := ⟨999999, rfl⟩
      rw [hK]
      have c2 : nI (sN B n) ≤ (0 : Int32) := (xLe (b := 0) (by omega) (by omega)).mpr (by omega)
      conv => lhs; unfold fX12_laySeats_109
      rw [if_pos c2]
      split
      · rfl
      · rfl
    · rw [(r2 j (by omega)).1]
      unfold gS svS
      rw [if_neg (by omega), if_pos (by omega)]
      rfl
end
