/-! all bowls; missed, doubled; marks; draft -/
section
variable {b : Bool} {n : Nat} {S : mT}
theorem s_bowlC4 (hn : n ≤ 5) (n1 : S.1 (shU b) 9 = nI n) {a1 : Nat} (ka : ∀ x, kI a1 x = mIn x 17) : ∀ (m i k : Nat), i + m = n → m < k → fX11_allBowls_4 b a1 k (sm (fun j => S.1 a1 (10 + j)) i) (nI i) S = some (sm (fun j => S.1 a1 (10 + j)) n, S)
  | 0, i, k, hi, hk => by
    obtain ⟨k', rfl⟩ := up1 hk
    have hi : i = n := by omega
    subst hi
    simp (disch := omega) [fX11_allBowls_4, kO_0, kO_u, g_t, b_d, b_c, b_v, Bool.and_true, Bool.and_self, Bool.true_and, n1, xLe]
  | m + 1, i, k, hi, hk => by
    obtain ⟨k', rfl⟩ := up1 hk
    rw [← s_bowlC4 hn n1 ka m (i + 1) k' (by omega) (by omega)]
    have c : ¬ n ≤ i := by omega
    simp (disch := omega) [fX11_allBowls_4, kO_0, kO_u, g_t, b_d, b_c, b_v, Bool.and_true, Bool.and_self, Bool.true_and, xL, xN1, nI_add, xM, xS, xP, xIx, xIn, xLe, xLt, xEq, xDv, n1, c, sm, ka]
theorem s_bowlC (hn : n ≤ 5) (n1 : S.1 (shU b) 9 = nI n) {a1 : Nat} (ka : ∀ x, kI a1 x = mIn x 17) : fX11_allBowls b a1 S = some (sm (fun j => S.1 a1 (10 + j)) n, S) := s_bowlC4 hn n1 ka n 0 mK (by omega) (by have := mK_gt; omega)
theorem s_bowlM4 (hn : n ≤ 5) (n2 : S.1 187 37 = nI n) : ∀ (m i k : Nat), i + m = n → m < k → fX12_allBowls_4 k (sm (fun j => S.1 211 j) i) (nI i) S = some (sm (fun j => S.1 211 j) n, S)
  | 0, i, k, hi, hk => by
    obtain ⟨k', rfl⟩ := up1 hk
    have hi : i = n := by omega
    subst hi
    simp (disch := omega) [fX12_allBowls_4, kO_187, kI_211, g_t, b_d, b_c, b_v, Bool.and_true, Bool.and_self, Bool.true_and, n2, xLe]
  | m + 1, i, k, hi, hk => by
    obtain ⟨k', rfl⟩ := up1 hk
    rw [← s_bowlM4 hn n2 m (i + 1) k' (by omega) (by omega)]
    have c : ¬ n ≤ i := by omega
    simp (disch := omega) [fX12_allBowls_4, kO_187, kI_211, g_t, b_d, b_c, b_v, Bool.and_true, Bool.and_self, Bool.true_and, xL, xN1, nI_add, xM, xS, xP, xIx, xIn, xLe, xLt, xEq, xDv, n2, c, sm]
theorem s_bowlM (hn : n ≤ 5) (n2 : S.1 187 37 = nI n) : fX12_allBowls S = some (sm (fun j => S.1 211 j) n, S) := s_bowlM4 hn n2 n 0 mK (by omega) (by have := mK_gt; omega)
theorem sm_congr {f g : Nat → Int32} : ∀ {n : Nat}, (∀ i, i < n → f i = g i) → sm f n = sm g n
  | 0, _ => rfl
  | n + 1, h => by
    unfold sm
    rw [sm_congr (n := n) (fun i hi => h i (by omega)), h n (by omega)]
theorem s_mis14 (hn : n ≤ 5) (n1 : S.1 (shU b) 9 = nI n) (v all : Int32) : ∀ (m i k : Nat), i + m = n → m < k → fX11_missed_14 b k v all (bt (fun j => all - S.1 35 (10 + j) = v) i) (nI i) S = some (bt (fun j => all - S.1 35 (10 + j) = v) n, S)
  | 0, i, k, hi, hk => by
    obtain ⟨k', rfl⟩ := up1 hk
    have hi : i = n := by omega
    subst hi
    simp (disch := omega) [fX11_missed_14, kO_0, kI_35, kO_u, fX11_missed_49, g_t, b_d, b_c, b_v, Bool.and_true, Bool.and_self, Bool.true_and, n1, xLe]
  | m + 1, i, k, hi, hk => by
    obtain ⟨k', rfl⟩ := up1 hk
    rw [← s_mis14 hn n1 v all m (i + 1) k' (by omega) (by omega)]
    have c : ¬ n ≤ i := by omega
    by_cases q : all - S.1 35 (10 + i) = v
    · simp (disch := omega) only [fX11_missed_14, kO_0, kI_35, kO_u, fX11_missed_49, g_t, b_d, b_c, b_v, Bool.and_true, Bool.and_self, Bool.true_and, xL, xN1, nI_add, xM, xS, xP, xIx, xIn, xLe, xLt, xEq, xDv, n1, c, bt, q, if_true, if_false]
    · simp (disch := omega) only [fX11_missed_14, kO_0, kI_35, kO_u, fX11_missed_49, g_t, b_d, b_c, b_v, Bool.and_true, Bool.and_self, Bool.true_and, xL, xN1, nI_add, xM, xS, xP, xIx, xIn, xLe, xLt, xEq, xDv, n1, c, bt, q, if_true, if_false]
theorem s_dbl14 (hn : n ≤ 5) (n1 : S.1 (shU b) 9 = nI n) (v all : Int32) : ∀ (m i k : Nat), i + m = n → m < k → fX11_doubled_14 b k v all (bt (fun j => all + S.1 35 (10 + j) = v) i) (nI i) S = some (bt (fun j => all + S.1 35 (10 + j) = v) n, S)
  | 0, i, k, hi, hk => by
    obtain ⟨k', rfl⟩ := up1 hk
    have hi : i = n := by omega
    subst hi
    simp (disch := omega) [fX11_doubled_14, kO_0, kI_35, kO_u, fX11_doubled_49, g_t, b_d, b_c, b_v, Bool.and_true, Bool.and_self, Bool.true_and, n1, xLe]
  | m + 1, i, k, hi, hk => by
    obtain ⟨k', rfl⟩ := up1 hk
    rw [← s_dbl14 hn n1 v all m (i + 1) k' (by omega) (by omega)]
    have c : ¬ n ≤ i := by omega
    by_cases q : all + S.1 35 (10 + i) = v
    · simp (disch := omega) only [fX11_doubled_14, kO_0, kI_35, kO_u, fX11_doubled_49, g_t, b_d, b_c, b_v, Bool.and_true, Bool.and_self, Bool.true_and, xL, xN1, nI_add, xM, xS, xP, xIx, xIn, xLe, xLt, xEq, xDv, n1, c, bt, q, if_true, if_false]
    · simp (disch := omega) only [fX11_doubled_14, kO_0, kI_35, kO_u, fX11_doubled_49, g_t, b_d, b_c, b_v, Bool.and_true, Bool.and_self, Bool.true_and, xL, xN1, nI_add, xM, xS, xP, xIx, xIn, xLe, xLt, xEq, xDv, n1, c, bt, q, if_true, if_false]
theorem s_wo9 (hn : n ≤ 5) (n2 : S.1 187 37 = nI n) (v sg : Int32) : ∀ (m i k : Nat), i + m = n → m < k → fX12_without_9 k v sg (bt (fun j => sm (fun j => S.1 211 j) n + sg * S.1 211 j = v) i) (nI i) S = some (bt (fun j => sm (fun j => S.1 211 j) n + sg * S.1 211 j = v) n, S)
  | 0, i, k, hi, hk => by
    obtain ⟨k', rfl⟩ := up1 hk
    have hi : i = n := by omega
    subst hi
    simp (disch := omega) [fX12_without_9, kO_187, kI_211, fX12_without_42, g_t, b_d, b_c, b_v, Bool.and_true, Bool.and_self, Bool.true_and, n2, xLe]
  | m + 1, i, k, hi, hk => by
    obtain ⟨k', rfl⟩ := up1 hk
    rw [← s_wo9 hn n2 v sg m (i + 1) k' (by omega) (by omega)]
    have c : ¬ n ≤ i := by omega
    have z : ((nI 0 : Int32) <<< (nI i &&& nI 31)) = nI 0 := Int32.zero_shiftLeft
    have hb := s_bowlM hn n2
    by_cases q : sm (fun j => S.1 211 j) n + sg * S.1 211 i = v
    · simp (disch := omega) only [fX12_without_9, kO_187, kI_211, fX12_without_42, g_t, b_d, b_c, b_v, Bool.and_true, Bool.and_self, Bool.true_and, xL, xN1, nI_add, xM, xS, xP, xIx, xIn, xLe, xLt, xEq, xDv, n2, c, bt, q, if_true, if_false, s_truth, hb, z, or0, (by decide : ¬ (1 : Nat) = 0)]
    · simp (disch := omega) only [fX12_without_9, kO_187, kI_211, fX12_without_42, g_t, b_d, b_c, b_v, Bool.and_true, Bool.and_self, Bool.true_and, xL, xN1, nI_add, xM, xS, xP, xIx, xIn, xLe, xLt, xEq, xDv, n2, c, bt, q, if_true, if_false, s_truth, hb, z, or0, (by decide : ¬ (1 : Nat) = 0)]
end
theorem zz_missed : zH_missed Rel := by
  intro k b S v hk h
  obtain ⟨n, hA, hN, hBx, hC, hT, hL⟩ := Rel_iff.mp h
  have hn := hA.1.1
  have n1 := hA.1.2.1
  have n2 := hA.1.2.2.1
  have hf1 : fX11_missed b v S = some (bt (fun j => sm (fun j => S.1 35 (10 + j)) n - S.1 35 (10 + j) = v) n, S) := by
    rw [← s_mis14 hn n1 v _ n 0 mK (by omega) (by have := mK_gt; omega)]
    unfold fX11_missed
    rw [kO_0, s_bowlC hn n1 kI_35]
    simp only [g_t, b_d, b_c, b_v, Bool.and_true, Bool.and_self, Bool.true_and]
    rfl
  obtain ⟨L, l1, l2, _⟩ := m_load (shU_lt b) hA hN.1 (agr_rfl _ S)
  have e : sm (fun j => L.1 211 j) n = sm (fun j => S.1 35 (10 + j)) n := sm_congr fun i hi => (l2.1 i (by omega)).2.2
  have hf2 : fX12_missed v S = some (bt (fun j => sm (fun j => S.1 35 (10 + j)) n - S.1 35 (10 + j) = v) n, L) := by
    rw [show bt (fun j => sm (fun j => S.1 35 (10 + j)) n - S.1 35 (10 + j) = v) n = bt (fun j => sm (fun j => L.1 211 j) n + (-1) * L.1 211 j = v) n from bt_congr fun i hi => by rw [e, (l2.1 i (by omega)).2.2, Int32.sub_eq_add_neg, Int32.neg_mul, Int32.one_mul]]
    unfold fX12_missed fX12_without
    rw [l1, b_v]
    have := s_wo9 hn l2.2.2.1 v (-1) n 0 mK (by omega) (by have := mK_gt; omega)
    rw [show (0 : Int32) = bt (fun j => sm (fun j => L.1 211 j) n + (-1) * L.1 211 j = v) 0 from rfl]
    rw [show bt (fun j => sm (fun j => L.1 211 j) n + (-1) * L.1 211 j = v) 0 = nI 0 from rfl] at this ⊢
    rw [this, b_c]
  exact ⟨_, _, _, hf1, hf2, Rel_fr (agr_trans (av_agr (L := cond b LX11_missed_t LX11_missed_f) (by cases b; exact rX11_missed_f hf1; exact rX11_missed_t hf1) (by cases b <;> decide +kernel)) (av_agr (rX12_missed hf2) (by cases b <;> decide +kernel))) h⟩
theorem zz_doubled : zH_doubled Rel := by
  intro k b S v hk h
  obtain ⟨n, hA, hN, hBx, hC, hT, hL⟩ := Rel_iff.mp h
  have hn := hA.1.1
  have n1 := hA.1.2.1
  have n2 := hA.1.2.2.1
  have hf1 : fX11_doubled b v S = some (bt (fun j => sm (fun j => S.1 35 (10 + j)) n + S.1 35 (10 + j) = v) n, S) := by
    rw [← s_dbl14 hn n1 v _ n 0 mK (by omega) (by have := mK_gt; omega)]
    unfold fX11_doubled
    rw [kO_0, s_bowlC hn n1 kI_35]
    simp only [g_t, b_d, b_c, b_v, Bool.and_true, Bool.and_self, Bool.true_and]
    rfl
  obtain ⟨L, l1, l2, _⟩ := m_load (shU_lt b) hA hN.1 (agr_rfl _ S)
  have e : sm (fun j => L.1 211 j) n = sm (fun j => S.1 35 (10 + j)) n := sm_congr fun i hi => (l2.1 i (by omega)).2.2
  have hf2 : fX12_doubled v S = some (bt (fun j => sm (fun j => S.1 35 (10 + j)) n + S.1 35 (10 + j) = v) n, L) := by
    rw [show bt (fun j => sm (fun j => S.1 35 (10 + j)) n + S.1 35 (10 + j) = v) n = bt (fun j => sm (fun j => L.1 211 j) n + 1 * L.1 211 j = v) n from bt_congr fun i hi => by rw [e, (l2.1 i (by omega)).2.2, Int32.one_mul]]
    unfold fX12_doubled fX12_without
    rw [l1, b_v]
    have := s_wo9 hn l2.2.2.1 v 1 n 0 mK (by omega) (by have := mK_gt; omega)
    rw [show (0 : Int32) = bt (fun j => sm (fun j => L.1 211 j) n + 1 * L.1 211 j = v) 0 from rfl]
    rw [show bt (fun j => sm (fun j => L.1 211 j) n + 1 * L.1 211 j = v) 0 = nI 0 from rfl] at this ⊢
    rw [this, b_c]
  exact ⟨_, _, _, hf1, hf2, Rel_fr (agr_trans (av_agr (L := cond b LX11_doubled_t LX11_doubled_f) (by cases b; exact rX11_doubled_f hf1; exact rX11_doubled_t hf1) (by cases b <;> decide +kernel)) (av_agr (rX12_doubled hf2) (by cases b <;> decide +kernel))) h⟩
theorem s_mk {m s a : Nat} (hm : m ≤ 60) (hs : s ≤ 60) (ha : a ≤ 60) (S : mT) : ∀ (d g k k2 : Nat), g + d = 200 → d < k → d < k2 → ∃ r, fX11_marks_55 k (nI m) (nI s) (nI a) (nI g) (nI (g + 1)) S = some (r, S) ∧ fX12_marks_43 k2 (nI m) (nI s) (nI a) (nI g) S = some (r, S)
  | 0, g, k, k2, hg, hk, hk2 => by
    obtain ⟨k', rfl⟩ := up1 hk
    obtain ⟨k2', rfl⟩ := up1 hk2
    have hg : g = 200 := by omega
    subst hg
    refine ⟨nI 200, ?_, ?_⟩
    · simp (disch := omega) [fX11_marks_55, fX11_marks_83, g_t, b_d, b_c, b_v, Bool.and_true, Bool.and_self, Bool.true_and, xL, xN1, nI_add, xM, xS, xP, xIx, xIn, xLe, xLt, xEq, xDv]
    · simp (disch := omega) [fX12_marks_43, fX12_marks_69, g_t, b_d, b_c, b_v, Bool.and_true, Bool.and_self, Bool.true_and, xL, xN1, nI_add, xM, xS, xP, xIx, xIn, xLe, xLt, xEq, xDv]
  | d + 1, g, k, k2, hg, hk, hk2 => by
    obtain ⟨k', rfl⟩ := up1 hk
    obtain ⟨k2', rfl⟩ := up1 hk2
    have p1 : (g + 1) * a ≤ 200 * 60 := Nat.mul_le_mul (by omega) ha
    have p2 : m * s ≤ 60 * 60 := Nat.mul_le_mul hm hs
    have c1 : ¬ 200 < g + 1 := by omega
    have c2 : ¬ 200 ≤ g := by omega
    by_cases q : m * s ≤ (g + 1) * a
    · refine ⟨nI g, ?_, ?_⟩
      · simp (disch := omega) only [fX11_marks_55, fX11_marks_83, g_t, b_d, b_c, b_v, Bool.and_true, Bool.and_self, Bool.true_and, xL, xN1, nI_add, xM, xS, xP, xIx, xIn, xLe, xLt, xEq, xDv, c1, q, if_true, if_false]
      · simp (disch := omega) only [fX12_marks_43, fX12_marks_69, g_t, b_d, b_c, b_v, Bool.and_true, Bool.and_self, Bool.true_and, xL, xN1, nI_add, xM, xS, xP, xIx, xIn, xLe, xLt, xEq, xDv, c2, q, if_true, if_false]
    · obtain ⟨r, r1, r2⟩ := s_mk hm hs ha S d (g + 1) k' k2' (by omega) (by omega) (by omega)
      refine ⟨r, ?_, ?_⟩
      · rw [← r1]
        simp (disch := omega) only [fX11_marks_55, fX11_marks_83, g_t, b_d, b_c, b_v, Bool.and_true, Bool.and_self, Bool.true_and, xL, xN1, nI_add, xM, xS, xP, xIx, xIn, xLe, xLt, xEq, xDv, c1, q, if_true, if_false]
      · rw [← r2]
        simp (disch := omega) only [fX12_marks_43, fX12_marks_69, g_t, b_d, b_c, b_v, Bool.and_true, Bool.and_self, Bool.true_and, xL, xN1, nI_add, xM, xS, xP, xIx, xIn, xLe, xLt, xEq, xDv, c2, q, if_true, if_false]
theorem zz_marks : zH_marks Rel := by
  intro k b S v v2 v3 hk h
  rcases v_cases 0 60 (by omega) (by omega) v with c | c | ⟨m, _, hm, rfl⟩
  · have e : wB v 0 60 = 0 := wB_lo c
    exact ⟨-1, S, S, by simp [fX11_marks, fX11_marks_20, fX11_marks_36, g_t, b_d, b_c, b_v, Bool.and_true, Bool.and_self, Bool.true_and, s_isWithin, e], by simp [fX12_marks, fX12_marks_34, g_t, b_d, b_c, b_v, Bool.and_true, Bool.and_self, Bool.true_and, s_isIn, e], Rel_up h⟩
  · have e : wB v 0 60 = 0 := wB_hi c
    exact ⟨-1, S, S, by simp [fX11_marks, fX11_marks_20, fX11_marks_36, g_t, b_d, b_c, b_v, Bool.and_true, Bool.and_self, Bool.true_and, s_isWithin, e], by simp [fX12_marks, fX12_marks_34, g_t, b_d, b_c, b_v, Bool.and_true, Bool.and_self, Bool.true_and, s_isIn, e], Rel_up h⟩
  have e1 : wB (nI m) 0 60 = 1 := wB_in (lo := 0) (hi := 60) (by omega) (by omega) (by omega)
  rcases v_cases 0 60 (by omega) (by omega) v2 with c | c | ⟨s, _, hs, rfl⟩
  · have e : wB v2 0 60 = 0 := wB_lo c
    exact ⟨-1, S, S, by simp [fX11_marks, fX11_marks_20, fX11_marks_36, g_t, b_d, b_c, b_v, Bool.and_true, Bool.and_self, Bool.true_and, s_isWithin, e, e1], by simp [fX12_marks, fX12_marks_34, g_t, b_d, b_c, b_v, Bool.and_true, Bool.and_self, Bool.true_and, s_isIn, e, e1], Rel_up h⟩
  · have e : wB v2 0 60 = 0 := wB_hi c
    exact ⟨-1, S, S, by simp [fX11_marks, fX11_marks_20, fX11_marks_36, g_t, b_d, b_c, b_v, Bool.and_true, Bool.and_self, Bool.true_and, s_isWithin, e, e1], by simp [fX12_marks, fX12_marks_34, g_t, b_d, b_c, b_v, Bool.and_true, Bool.and_self, Bool.true_and, s_isIn, e, e1], Rel_up h⟩
  have e2 : wB (nI s) 0 60 = 1 := wB_in (lo := 0) (hi := 60) (by omega) (by omega) (by omega)
  rcases v_cases 0 m (by omega) (by omega) v3 with c | c | ⟨a, _, ha, rfl⟩
  · have e : wB v3 0 (nI m) = 0 := wB_lo c
    have c' : v3 < 0 := c
    exact ⟨-1, S, S, by simp [fX11_marks, fX11_marks_20, fX11_marks_36, g_t, b_d, b_c, b_v, Bool.and_true, Bool.and_self, Bool.true_and, s_isWithin, c', e1, e2], by simp [fX12_marks, fX12_marks_34, g_t, b_d, b_c, b_v, Bool.and_true, Bool.and_self, Bool.true_and, s_isIn, e, e1, e2], Rel_up h⟩
  · have e : wB v3 0 (nI m) = 0 := wB_hi c
    have c1 : ¬ v3 < 0 := fun q => Int32.lt_irrefl (Int32.lt_trans q (Int32.lt_of_le_of_lt (show (0 : Int32) ≤ nI m from (xLe (a := 0) (by omega) (by omega)).mpr (by omega)) c))
    exact ⟨-1, S, S, by simp [fX11_marks, fX11_marks_20, fX11_marks_36, g_t, b_d, b_c, b_v, Bool.and_true, Bool.and_self, Bool.true_and, s_isWithin, c1, c, e1, e2], by simp [fX12_marks, fX12_marks_34, g_t, b_d, b_c, b_v, Bool.and_true, Bool.and_self, Bool.true_and, s_isIn, e, e1, e2], Rel_up h⟩
  have e3 : wB (nI a) 0 (nI m) = 1 := wB_in (lo := 0) (by omega) (by omega) (by omega)
  have c1 : ¬ nI a < 0 := nI_pos (by omega)
  have c2 : ¬ nI m < nI a := fun q => by have := (xLt (by omega) (by omega)).mp q; omega
  by_cases q : a ≤ s
  · have q' : nI a ≤ nI s := (xLe (by omega) (by omega)).mpr q
    obtain ⟨r, r1, r2⟩ := s_mk hm hs (by omega : a ≤ 60) S (200 - (m + s - a)) (m + s - a) mK mK (by omega) (by have := mK_gt; omega) (by have := mK_gt; omega)
    refine ⟨r, S, S, ?_, ?_, Rel_up h⟩
    · rw [← r1]
      unfold fX11_marks
      rw [s_isWithin, b_c, e1, if_neg (by decide), s_isWithin, b_c, e2, if_neg (by decide), if_neg c1, if_neg c2, if_pos q', b_d, b_d, nI_add, xS (by omega), show (1 : Int32) = nI 1 from rfl, nI_add]
    · rw [← r2]
      unfold fX12_marks
      rw [s_isIn, b_c, e1, if_neg (by decide), s_isIn, b_c, e2, if_neg (by decide), s_isIn, b_c, e3, if_neg (by decide), if_pos q', b_d, nI_add, xS (by omega)]
  · have q' : ¬ nI a ≤ nI s := fun z => q ((xLe (by omega) (by omega)).mp z)
    refine ⟨-1, S, S, ?_, ?_, Rel_up h⟩
    · unfold fX11_marks
      rw [s_isWithin, b_c, e1, if_neg (by decide), s_isWithin, b_c, e2, if_neg (by decide), if_neg c1, if_neg c2, if_neg q']
      rfl
    · unfold fX12_marks
      rw [s_isIn, b_c, e1, if_neg (by decide), s_isIn, b_c, e2, if_neg (by decide), s_isIn, b_c, e3, if_neg (by decide), if_neg q']
      rfl
