/-! SEATS, second part. -/
section
variable {B : Nat → Nat} {n N : Nat} {S C : mT}
theorem s_so12 (hn : n ≤ 5) {i : Nat} (rc : Int32 → Int32 → mT → Option mT) (n1 : S.1 109 4 = nI n) : ∀ (m t k : Nat), 0 < t → t + m = n → m < k → fX7_shareOneByOne_12 rc k (nI N) (nI i) (nI (fo (S.1 110) (S.1 111) t)) (nI t) S = rc (nI N) (nI (i + 1)) (sI S 111 (fo (S.1 110) (S.1 111) n) (S.1 111 (fo (S.1 110) (S.1 111) n) + 1))
  | 0, t, k, h0, ht, hk => by
    obtain ⟨k', rfl⟩ := up1 hk
    have ht : t = n := by omega
    subst ht
    have hl := fo_lt (B := S.1 110) (g := S.1 111) h0
    have c : nI t ≤ nI t := Int32.le_refl _
    have o1 : nI i + (1 : Int32) = nI (i + 1) := nI_add i 1
    simp (disch := omega) only [fX7_shareOneByOne_12, kO_109, kI_111, g_t, b_d, b_c, b_v, Bool.and_true, Bool.and_self, Bool.true_and, n1, if_pos c, xIx, xIn, o1]
  | m + 1, t, k, h0, ht, hk => by
    obtain ⟨k', rfl⟩ := up1 hk
    have hl := fo_lt (B := S.1 110) (g := S.1 111) h0
    rw [← s_so12 hn rc n1 m (t + 1) k' (by omega) (by omega) (by omega)]
    have c : ¬ nI n ≤ nI t := fun z => by have := (xLe (by omega) (by omega)).mp z; omega
    have c0 : ¬ t = 0 := by omega
    have o1 : nI t + (1 : Int32) = nI (t + 1) := nI_add t 1
    by_cases z : S.1 110 t * (S.1 111 (fo (S.1 110) (S.1 111) t) + 1) ≤ S.1 110 (fo (S.1 110) (S.1 111) t) * (S.1 111 t + 1)
    · have ez : fo (S.1 110) (S.1 111) (t + 1) = fo (S.1 110) (S.1 111) t := by
        conv => lhs; unfold fo
        rw [if_neg c0, if_pos z]
      rw [ez]
      simp (disch := omega) only [fX7_shareOneByOne_12, fX7_shareOneByOne_59, kO_109, kI_110, kI_111, g_t, b_d, b_c, b_v, Bool.and_true, Bool.and_self, Bool.true_and, n1, if_neg c, xIx, xIn, if_pos z, o1]
    · have ez : fo (S.1 110) (S.1 111) (t + 1) = t := by
        conv => lhs; unfold fo
        rw [if_neg c0, if_neg z]
      rw [ez]
      simp (disch := omega) only [fX7_shareOneByOne_12, fX7_shareOneByOne_59, kO_109, kI_110, kI_111, g_t, b_d, b_c, b_v, Bool.and_true, Bool.and_self, Bool.true_and, n1, if_neg c, xIx, xIn, if_neg z, o1]
theorem s_so2 (hn : n ≤ 5) (h0 : 0 < n) (hN : N ≤ 20) (Bf : Nat → Int32) : ∀ (m i k : Nat) (C : mT), i + m = N → m < k → C.1 109 4 = nI n → (∀ j, j < n → C.1 110 j = Bf j ∧ C.1 111 j = ogS Bf n i j) → ∃ C', fX7_shareOneByOne_2 k (nI N) (nI i) C = some C' ∧ (∀ j, j < n → C'.1 111 j = ogS Bf n N j) ∧ ∀ a j, a ≠ 111 → C'.1 a j = C.1 a j
  | 0, i, k, C, hi, hk, n1, e => by
    obtain ⟨k', rfl⟩ := up1 hk
    have hi : i = N := by omega
    subst hi
    exact ⟨C, by simp (disch := omega) [fX7_shareOneByOne_2, xLe], fun j hj => (e j hj).2, fun _ _ _ => rfl⟩
  | m + 1, i, k, C, hi, hk, n1, e => by
    obtain ⟨k', rfl⟩ := up1 hk
    have ef : fo (C.1 110) (C.1 111) n = fo Bf (ogS Bf n i) n := fo_congr e
    have hl := fo_lt (B := Bf) (g := ogS Bf n i) h0
    have st := s_so12 (N := N) (i := i) hn (fX7_shareOneByOne_2 k') n1 (n - 1) 1 mK (by omega) (by omega) (by have := mK_gt; omega)
    rw [ef] at st
    obtain ⟨C', r1, r2, r3⟩ := s_so2 hn h0 hN Bf m (i + 1) k' (sI C 111 (fo Bf (ogS Bf n i) n) (C.1 111 (fo Bf (ogS Bf n i) n) + 1)) (by omega) (by omega) (by rw [sI_rd, if_neg (by omega)]; exact n1) (fun j hj => by
      rw [sI_rd, if_neg (by omega), sI_rd]
      simp only [ogS, true_and]
      by_cases c : j = fo Bf (ogS Bf n i) n
      · rw [if_pos c, if_pos c, c, (e _ hl).2]
        exact ⟨(e _ hl).1, rfl⟩
      · rw [if_neg c, if_neg c]
        exact e j hj)
    refine ⟨C', ?_, r2, fun a j g1 => by rw [r3 a j g1, sI_rd, if_neg (by omega)]⟩
    rw [← r1, ← st]
    have c : ¬ nI N ≤ nI i := fun z => by have := (xLe (by omega) (by omega)).mp z; omega
    conv => lhs; unfold fX7_shareOneByOne_2
    rw [if_neg c]
    rfl
theorem c_share5 (hn : n ≤ 5) (hB : ∀ j, j < n → B j ≤ 100) (hN : N ≤ 20) {law : Nat} (hlaw : law < 2) : ∀ (m i k : Nat) (C : mT), i + m = n → m < k → C.1 109 4 = nI n → (∀ j, j < n → C.1 110 j = nI (B j)) → (∀ j, j < i → C.1 111 j = 0) → ∃ C', fX7_share_5 k (nI N) (nI law) (nI (sN B i)) (nI i) C = some C' ∧ (∀ j, j < n → C'.1 111 j = gS B n N law j) ∧ ∀ a j, a ≠ 111 → a ≠ 112 → C'.1 a j = C.1 a j
  | 0, i, k, C, hi, hk, n1, e, g => by
    obtain ⟨k', rfl⟩ := up1 hk
    have hi : i = n := by omega
    subst hi
    have hA : sN B i ≤ 5 * 100 := Nat.le_trans (sN_le hB) (Nat.mul_le_mul_right _ hn)
    have c : nI i ≤ nI i := Int32.le_refl _
    by_cases h0 : sN B i = 0
    · refine ⟨C, ?_, fun j hj => ?_, fun _ _ _ _ => rfl⟩
      · have c2 : nI (sN B i) = nI 0 := by rw [h0]
        simp only [fX7_share_5, kO_109, g_t, b_d, b_c, b_v, Bool.and_true, Bool.and_self, Bool.true_and, xL, n1, if_pos c, if_pos c2]
      · rw [g j hj]
        unfold gS
        rw [if_pos h0]
    · have c2 : ¬ nI (sN B i) = nI 0 := fun z => h0 ((xEq (by omega) (by omega)).mp z)
      have hn0 : 0 < i := by
        rcases Nat.eq_zero_or_pos i with z | z
        · subst z
          exact absurd rfl h0
        · exact z
      by_cases hl : law = 0
      · subst hl
        obtain ⟨C', r1, r2, r3⟩ := c_rests (N := N) hn hB hN (by omega) hn0 i 0 mK C (by omega) (by have := mK_gt; omega) n1 e (fun j hj => by omega)
        refine ⟨C', ?_, r2, r3⟩
        have r1' : fX7_shareByRests (nI N) (nI (sN B i)) C = some C' := r1
        simp only [fX7_share_5, kO_109, g_t, b_d, b_c, b_v, Bool.and_true, Bool.and_self, Bool.true_and, xL, n1, if_pos c, if_neg c2, if_true, r1', fX7_share_61]
      · have c3 : ¬ nI law = nI 0 := fun z => hl ((xEq (by omega) (by omega)).mp z)
        obtain ⟨C', r1, r2, r3⟩ := s_so2 hn hn0 hN (fun j => nI (B j)) N 0 mK C (by omega) (by have := mK_gt; omega) n1 (fun j hj => ⟨e j hj, g j hj⟩)
        refine ⟨C', ?_, fun j hj => ?_, fun a j g1 _ => r3 a j g1⟩
        · have r1' : fX7_shareOneByOne (nI N) C = some C' := r1
          simp only [fX7_share_5, kO_109, g_t, b_d, b_c, b_v, Bool.and_true, Bool.and_self, Bool.true_and, xL, n1, if_pos c, if_neg c2, if_neg c3, r1', fX7_share_61]
        · rw [r2 j hj]
          unfold gS
          rw [if_neg h0, if_neg hl]
  | m + 1, i, k, C, hi, hk, n1, e, g => by
    obtain ⟨k', rfl⟩ := up1 hk
    obtain ⟨C', r1, r2, r3⟩ := c_share5 hn hB hN hlaw m (i + 1) k' (sI C 111 i (nI 0)) (by omega) (by omega) (by rw [sI_rd, if_neg (by omega)]; exact n1) (fun j hj => by rw [sI_rd, if_neg (by omega)]; exact e j hj) (fun j hj => by
      rw [sI_rd]
      by_cases c : j = i
      · rw [if_pos ⟨rfl, c⟩]
        rfl
      · rw [if_neg (by omega)]
        exact g j (by omega))
    refine ⟨C', ?_, r2, fun a j g1 g2 => by rw [r3 a j g1 g2, sI_rd, if_neg (by omega)]⟩
    rw [← r1]
    have c1 : ¬ nI n ≤ nI i := fun z => by have := (xLe (by omega) (by omega)).mp z; omega
    have o2 : nI (sN B i) + nI (B i) = nI (sN B (i + 1)) := nI_add _ _
    simp (disch := omega) only [fX7_share_5, kO_109, kI_110, kI_111, g_t, b_d, b_c, b_v, Bool.and_true, Bool.and_self, Bool.true_and, xL, n1, if_neg c1, e i (by omega), xIx, xIn, o2, nI_add]
theorem c_share (hn : n ≤ 5) (hB : ∀ j, j < n → B j ≤ 100) (hN : N ≤ 20) {law : Nat} (hlaw : law < 2) (n1 : C.1 109 4 = nI n) (e : ∀ j, j < n → C.1 110 j = nI (B j)) : ∃ C', fX7_share (nI N) (nI law) C = some C' ∧ (∀ j, j < n → C'.1 111 j = gS B n N law j) ∧ ∀ a j, a ≠ 111 → a ≠ 112 → C'.1 a j = C.1 a j :=
  c_share5 hn hB hN hlaw n 0 mK C (by omega) (by have := mK_gt; omega) n1 e (fun j hj => by omega)
theorem c_look7 (hn : n ≤ 5) (S : mT) : ∃ C, fX7_look 35 (nI n) S = some C ∧ C.1 109 4 = nI n ∧ (∀ j, j < n → C.1 110 j = S.1 35 (10 + j)) ∧ ∀ a j, a ≠ 110 → ¬ (a = 109 ∧ j = 4) → C.1 a j = S.1 a j := by
  have e4 : (sI S 109 4 (nI n)).1 109 4 = nI n := by rw [sI_rd, if_pos ⟨rfl, rfl⟩]
  have hk : cpOk 17 5 (nI 10) (nI 0) (nI n) = true := by
    unfold cpOk
    rw [xIx (by omega), xIx (by omega), xIx (by omega)]
    have a1 : ¬ nI 10 < (0 : Int32) := nI_pos (by omega)
    have a2 : ¬ nI 0 < (0 : Int32) := nI_pos (by omega)
    have a3 : ¬ nI n < (0 : Int32) := nI_pos (by omega)
    have a4 : 10 + n ≤ 17 := by omega
    have a5 : 0 + n ≤ 5 := by omega
    simp only [a1, a2, a3, a4, a5, decide_true, decide_false, Bool.not_false, Bool.and_true]
  refine ⟨sC (sI S 109 4 (nI n)) 35 110 (nI 10) (nI 0) (nI n), ?_, ?_, fun j hj => ?_, fun a j g1 g2 => ?_⟩
  · simp only [fX7_look, kO_109, g_t, b_d, b_c, b_v, Bool.and_true, Bool.and_self, Bool.true_and, xL, e4, kC_of s_35 (by decide +kernel) s_110 (by decide +kernel), hk]
  · rw [sC_rd, if_neg (by omega)]
    exact e4
  · rw [sC_rd, if_pos rfl, xIx (by omega), xIx (by omega), xIx (by omega), if_pos (by omega), sI_rd, if_neg (by omega)]
    exact cA (by omega)
  · rw [sC_rd, if_neg g1, sI_rd, if_neg g2]
/-! the reference -/
theorem s_ls124 (hn : n ≤ 5) {A left : Nat} (law : Nat) (hlaw : law < 2) (rc : Int32 → Int32 → Int32 → mT → Option mT) (n2 : S.1 187 37 = nI n) (hl : 1 ≤ left) : ∀ (m i k : Nat), 0 < i → i + m = n → m < k → ∀ bb, bb = (if law = 0 then fl (S.1 218) else fo (S.1 211) (S.1 217)) → fX12_laySeats_124 rc k (nI law) (nI A) (nI left) (nI (bb i)) (nI i) S = rc (nI law) (nI A) (nI (left - 1)) (sI (sI S 217 (bb n) (S.1 217 (bb n) + 1)) 218 (bb n) (-1))
  | 0, i, k, h0, hi, hk, bb, hb => by
    obtain ⟨k', rfl⟩ := up1 hk
    have hi : i = n := by omega
    subst hi
    have hlt : bb i < i := by
      rw [hb]
      by_cases c : law = 0
      · rw [if_pos c]
        exact fl_lt h0
      · rw [if_neg c]
        exact fo_lt h0
    have c : nI i ≤ nI i := Int32.le_refl _
    have o1 : nI left + (-1 : Int32) = nI (left - 1) := xP hl
    simp (disch := omega) only [fX12_laySeats_124, kO_187, kI_217, kI_218, g_t, b_d, b_c, b_v, Bool.and_true, Bool.and_self, Bool.true_and, n2, if_pos c, xIx, xIn, o1]
  | m + 1, i, k, h0, hi, hk, bb, hb => by
    obtain ⟨k', rfl⟩ := up1 hk
    have hlt : bb i < i := by
      rw [hb]
      by_cases c : law = 0
      · rw [if_pos c]
        exact fl_lt h0
      · rw [if_neg c]
        exact fo_lt h0
    rw [← s_ls124 hn law hlaw rc n2 hl m (i + 1) k' (by omega) (by omega) (by omega) bb hb]
    have c1 : ¬ nI n ≤ nI i := fun z => by have := (xLe (by omega) (by omega)).mp z; omega
    have c0 : ¬ i = 0 := by omega
    have o1 : nI i + (1 : Int32) = nI (i + 1) := nI_add i 1
    by_cases c : law = 0
    · subst c
      have hb' : bb = fl (S.1 218) := by rw [hb, if_pos rfl]
      have c2 : nI 0 = (0 : Int32) := rfl
      by_cases z : S.1 218 i ≤ S.1 218 (bb i)
      · have ez : bb (i + 1) = bb i := by
          rw [hb'] at z ⊢
          conv => lhs; unfold fl
          rw [if_neg c0, if_pos z]
        rw [ez]
        simp (disch := omega) only [fX12_laySeats_124, fX12_laySeats_198, kO_187, kI_218, g_t, b_d, b_c, b_v, Bool.and_true, Bool.and_self, Bool.true_and, n2, if_neg c1, if_pos c2, xIx, xIn, if_pos z, o1]
      · have ez : bb (i + 1) = i := by
          rw [hb'] at z ⊢
          conv => lhs; unfold fl
          rw [if_neg c0, if_neg z]
        rw [ez]
        simp (disch := omega) only [fX12_laySeats_124, fX12_laySeats_198, fX12_laySeats_194, kO_187, kI_218, g_t, b_d, b_c, b_v, Bool.and_true, Bool.and_self, Bool.true_and, n2, if_neg c1, if_pos c2, xIx, xIn, if_neg z, o1]
    · have hb' : bb = fo (S.1 211) (S.1 217) := by rw [hb, if_neg c]
      have c2 : ¬ nI law = (0 : Int32) := fun z => c ((xEq (b := 0) (by omega) (by omega)).mp z)
      by_cases z : S.1 211 i * (S.1 217 (bb i) + 1) ≤ S.1 211 (bb i) * (S.1 217 i + 1)
      · have ez : bb (i + 1) = bb i := by
          rw [hb'] at z ⊢
          conv => lhs; unfold fo
          rw [if_neg c0, if_pos z]
        rw [ez]
        simp (disch := omega) only [fX12_laySeats_124, fX12_laySeats_198, kO_187, kI_217, kI_211, g_t, b_d, b_c, b_v, Bool.and_true, Bool.and_self, Bool.true_and, n2, if_neg c1, if_neg c2, xIx, xIn, if_pos z, o1]
      · have ez : bb (i + 1) = i := by
          rw [hb'] at z ⊢
          conv => lhs; unfold fo
          rw [if_neg c0, if_neg z]
        rw [ez]
        simp (disch := omega) only [fX12_laySeats_124, fX12_laySeats_198, fX12_laySeats_194, kO_187, kI_217, kI_211, g_t, b_d, b_c, b_v, Bool.and_true, Bool.and_self, Bool.true_and, n2, if_neg c1, if_neg c2, xIx, xIn, if_neg z, o1]
end
