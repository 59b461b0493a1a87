/-! Goes, moves; undo, redo; the boxes. -/
theorem nmin' {a c : Nat} : (if a < c then nI a else nI c) = nI (min a c) := by
  by_cases h : a < c
  · rw [if_pos h]
    congr 1
    omega
  · rw [if_neg h]
    congr 1
    omega
theorem nmin2 {a c : Nat} : (if a ≤ c then nI a else nI c) = nI (min a c) := by
  by_cases h : a ≤ c
  · rw [if_pos h]
    congr 1
    omega
  · rw [if_neg h]
    congr 1
    omega
theorem s_leaveOne {S : mT} {i x y : Nat} (hi : i < 5) (hx : 1 ≤ x) (hx7 : x ≤ 7) (hy : y ≤ x) (e1 : S.1 35 i = nI x) (e2 : S.1 35 (5 + i) = nI y) : fX11_leaveOne (nI i) S = some (sI (sI S 35 i (nI (x - 1))) 35 (5 + i) (nI (min (x - 1) y))) := by
  simp (disch := omega) [fX11_leaveOne, kO_0, kI_35, g_t, b_d, b_c, b_v, Bool.and_true, Bool.and_self, Bool.true_and, xL, xN1, nI_add, xM, xS, xP, xIx, xIn, xLe, xLt, xEq, xDv, e1, e2, sI_rd, nmin']
theorem s_nmh {S : mT} {i x y : Nat} (hi : i < 5) (hx7 : x ≤ 7) (hy : y ≤ 7) (e1 : S.1 209 i = nI x) (e2 : S.1 210 i = nI y) : fX12_notMoreHidden (nI i) S = some (sI S 210 i (nI (min y x))) := by
  by_cases c : y ≤ x
  · simp (disch := omega) [fX12_notMoreHidden, kO_187, kI_210, kI_209, fX12_notMoreHidden_35, g_t, b_d, b_c, b_v, Bool.and_true, Bool.and_self, Bool.true_and, xL, xN1, nI_add, xM, xS, xP, xIx, xIn, xLe, xLt, xEq, xDv, e1, e2, c, Nat.min_eq_left c]
  · simp (disch := omega) [fX12_notMoreHidden, kO_187, kI_210, kI_209, fX12_notMoreHidden_35, g_t, b_d, b_c, b_v, Bool.and_true, Bool.and_self, Bool.true_and, xL, xN1, nI_add, xM, xS, xP, xIx, xIn, xLe, xLt, xEq, xDv, e1, e2, c, Nat.min_eq_right (by omega : x ≤ y)]
theorem s_leaves {S : mT} {i x y : Nat} (hi : i < 5) (hx : 1 ≤ x) (hx7 : x ≤ 7) (hy : y ≤ x) (e1 : S.1 208 i = nI x) (e2 : S.1 208 (5 + i) = nI y) : ∃ S', fX12_leaves (nI i) S = some S' ∧ (∀ j, j < 17 → S'.1 208 j = if j = i then nI (x - 1) else if j = 5 + i then nI (min (x - 1) y) else S.1 208 j) ∧ (∀ a j, a ≠ 208 → a ≠ 209 → a ≠ 210 → a ≠ 211 → ¬ (a = 187 ∧ (j = 43 ∨ j = 44)) → S'.1 a j = S.1 a j) := by
  obtain ⟨S1, l1, l2, l3, l4, l5⟩ := s_load S
  have h9 : S1.1 209 i = nI x := ((l2 i hi).1).trans e1
  have h10 : S1.1 210 i = nI y := ((l2 i hi).2.1).trans e2
  obtain ⟨S4, k1, k2, k3, k4, k5⟩ := s_keepM (sI (sI S1 209 i (nI (x - 1))) 210 i (nI (min y (x - 1))))
  refine ⟨S4, ?_, fun j hj => ?_, fun a j g1 g2 g3 g4 g5 => ?_⟩
  · unfold fX12_leaves
    rw [l1]
    simp (disch := omega) [kI_209, kO_187, g_t, b_d, b_c, b_v, Bool.and_true, Bool.and_self, Bool.true_and, xL, xN1, nI_add, xM, xS, xP, xIx, xIn, xLe, xLt, xEq, xDv, h9]
    rw [s_nmh (x := x - 1) (y := y) hi (by omega) (by omega) (by simp [sI_rd]) (by simp [sI_rd, h10])]
    simp only [g_t, b_d, b_c, b_v, Bool.and_true, Bool.and_self, Bool.true_and]
    rw [k1]
    rfl
  · rcases (by omega : j < 5 ∨ (∃ q, q < 5 ∧ j = 5 + q) ∨ (∃ q, q < 5 ∧ j = 10 + q) ∨ j = 15 ∨ j = 16) with c | ⟨q, hq, rfl⟩ | ⟨q, hq, rfl⟩ | rfl | rfl
    · rw [(k2 j c).1, sI_rd, if_neg (by omega), sI_rd, (l2 j c).1]
      by_cases e : j = i
      · simp [e]
      · rw [if_neg (by omega), if_neg e, if_neg (by omega)]
    · rw [(k2 q hq).2.1, sI_rd]
      by_cases e : q = i
      · subst e
        rw [if_pos ⟨rfl, rfl⟩, if_neg (by omega), if_pos rfl, Nat.min_comm]
      · rw [if_neg (by omega), sI_rd, if_neg (by omega), (l2 q hq).2.1, if_neg (by omega), if_neg (by omega)]
    · rw [(k2 q hq).2.2, sI_rd, if_neg (by omega), sI_rd, if_neg (by omega), (l2 q hq).2.2, if_neg (by omega), if_neg (by omega)]
    · rw [k3, sI_rd, if_neg (by omega), sI_rd, if_neg (by omega), l3, if_neg (by omega), if_neg (by omega)]
    · rw [k4, sI_rd, if_neg (by omega), sI_rd, if_neg (by omega), l4, if_neg (by omega), if_neg (by omega)]
  · rw [k5 a j g1, sI_rd, if_neg (by omega), sI_rd, if_neg (by omega), l5 a j g2 g3 g4 g5]
theorem zz_goes : zH_goes Rel := by
  intro k b S v hk h
  obtain ⟨n, hA, hN, hBx, hC, hT, hL⟩ := Rel_iff.mp h
  have hn := hA.1.1
  have n1 := hA.1.2.1
  have n2 := hA.1.2.2.1
  have w := hN.1.2
  rcases h_cases n (by omega) v with ⟨i, hi, rfl⟩ | hv
  · obtain ⟨x, y, z, hx, hy, hz, x1, y1, z1⟩ := hN.1.1.1 i (by omega)
    have x2 := (w i (by omega)).trans x1
    have y2 := (w (5 + i) (by omega)).trans y1
    by_cases c : x = 0
    · refine ⟨-1, S, S, ?_, ?_, Rel_up h⟩
      · simp (disch := omega) [fX11_goes, kO_0, kI_35, fX11_goes_19, g_t, b_d, b_c, b_v, Bool.and_true, Bool.and_self, Bool.true_and, xL, xN1, nI_add, xM, xS, xP, xIx, xIn, xLe, xLt, xEq, xDv, s_isHouseC n1, hB_in, x1, c]
      · simp (disch := omega) [fX12_goes, kO_187, kI_208, fX12_goes_17, g_t, b_d, b_c, b_v, Bool.and_true, Bool.and_self, Bool.true_and, xL, xN1, nI_add, xM, xS, xP, xIx, xIn, xLe, xLt, xEq, xDv, s_isHouseM hn n2, hB_in, x2, c]
    · have hT : ∀ j, (sI (sI S 35 i (nI (x - 1))) 35 (5 + i) (nI (min (x - 1) y))).1 35 j = if j = 5 + i then nI (min (x - 1) y) else if j = i then nI (x - 1) else S.1 35 j := fun j => by simp [sI_rd]
      have hTo : ∀ a j, a ≠ 35 → (sI (sI S 35 i (nI (x - 1))) 35 (5 + i) (nI (min (x - 1) y))).1 a j = S.1 a j := fun a j g => by simp [sI_rd, g]
      obtain ⟨S3, S4, k1, a1, k2, a2, fin⟩ := act_fin (S := S) (T := sI (sI S 35 i (nI (x - 1))) 35 (5 + i) (nI (min (x - 1) y))) hN (fun a j g => hTo a j (by omega)) (okRow_up (x := x - 1) (y := min (x - 1) y) (z := z) hN.1.1 (by omega : i < 5) (by omega) (by omega) hz (by rw [hT, if_neg (by omega), if_pos rfl]) (by rw [hT, if_pos rfl]) (by rw [hT, if_neg (by omega), if_neg (by omega)]; exact z1) (fun k _ g1 g2 _ => by rw [hT, if_neg g2, if_neg g1]))
      have e208 : ∀ j, S4.1 208 j = S.1 208 j := fun j => by rw [a2 _ _ (by omega) (by omega) (by omega) (by omega), hTo _ _ (by omega)]
      obtain ⟨S5, v1, v2, v3⟩ := s_leaves (S := S4) (i := i) (x := x) (y := y) (by omega) (by omega) hx hy ((e208 i).trans x2) ((e208 (5 + i)).trans y2)
      have hf1 : fX11_goes b (nI i) S = some (nI (x - 1), S3) := by
        have c2 : 0 < x := by omega
        have e3 : S3.1 35 i = nI (x - 1) := by rw [k2 _ _ (by omega) (by omega), hT, if_neg (by omega), if_pos rfl]
        simp (disch := omega) [fX11_goes, kO_0, kI_35, fX11_goes_19, g_t, b_d, b_c, b_v, Bool.and_true, Bool.and_self, Bool.true_and, xL, xN1, nI_add, xM, xS, xP, xIx, xIn, xLe, xLt, xEq, xDv, s_isHouseC n1, hB_in, x1, c2, s_leaveOne (by omega) (by omega) hx hy x1 y1, k1, e3]
      have hf2 : fX12_goes (nI i) S3 = some (nI (x - 1), S5) := by
        have e3 : S3.1 208 i = nI x := by rw [k2 _ _ (by omega) (by omega), hTo _ _ (by omega)]; exact x2
        have e5 : S3.1 187 37 = nI n := by rw [k2 _ _ (by omega) (by omega), hTo _ _ (by omega)]; exact n2
        have e6 : S5.1 208 i = nI (x - 1) := by rw [v2 i (by omega), if_pos rfl]
        simp (disch := omega) [fX12_goes, kO_187, kI_208, fX12_goes_17, g_t, b_d, b_c, b_v, Bool.and_true, Bool.and_self, Bool.true_and, xL, xN1, nI_add, xM, xS, xP, xIx, xIn, xLe, xLt, xEq, xDv, s_isHouseM hn e5, hB_in, e3, c, a1, v1, e6]
      refine ⟨_, _, _, hf1, hf2, Rel_nn (agr_trans (av_agr (L := cond b LX11_goes_t LX11_goes_f) (by cases b; exact rX11_goes_f hf1; exact rX11_goes_t hf1) (by cases b <;> decide +kernel)) (av_agr (rX12_goes hf2) (by cases b <;> decide +kernel))) h (fin _ (fun a j g1 g2 g3 g4 g5 _ => v3 a j g1 g2 g3 g4 (by omega)) (fun j hj => ?_))⟩
      rw [v2 j hj, hT, e208, w j hj]
      by_cases c1 : j = i
      · rw [if_pos c1, if_neg (by omega), if_pos c1]
      · rw [if_neg c1, if_neg c1]
  · refine ⟨-1, S, S, ?_, ?_, Rel_up h⟩
    · simp [fX11_goes, kO_0, kI_35, fX11_goes_19, g_t, b_d, b_c, b_v, Bool.and_true, Bool.and_self, Bool.true_and, s_isHouseC n1, hB_out hv]
    · simp [fX12_goes, kO_187, kI_208, fX12_goes_17, g_t, b_d, b_c, b_v, Bool.and_true, Bool.and_self, Bool.true_and, s_isHouseM hn n2, hB_out hv]
theorem zz_moves : zH_moves Rel := by
  intro k b S v v2 hk h
  obtain ⟨n, hA, hN, hBx, hC, hT, hL⟩ := Rel_iff.mp h
  have hn := hA.1.1
  have n1 := hA.1.2.1
  have n2 := hA.1.2.2.1
  have w := hN.1.2
  rcases h_cases n (by omega) v with ⟨i, hi, rfl⟩ | hv
  · rcases h_cases n (by omega) v2 with ⟨t, ht, rfl⟩ | hv
    · obtain ⟨x, y, z, hx, hy, hz, x1, y1, z1⟩ := hN.1.1.1 i (by omega)
      obtain ⟨x', y', z', hx', hy', hz', x1', y1', z1'⟩ := hN.1.1.1 t (by omega)
      have x2 := (w i (by omega)).trans x1
      have y2 := (w (5 + i) (by omega)).trans y1
      have x2' := (w t (by omega)).trans x1'
      by_cases c0 : i = t
      · refine ⟨-1, S, S, ?_, ?_, Rel_up h⟩
        · simp (disch := omega) [fX11_moves, kO_0, kI_35, fX11_moves_21, fX11_moves_47, g_t, b_d, b_c, b_v, Bool.and_true, Bool.and_self, Bool.true_and, xL, xN1, nI_add, xM, xS, xP, xIx, xIn, xLe, xLt, xEq, xDv, s_isHouseC n1, hB_in, c0]
        · simp (disch := omega) [fX12_moves, kO_187, kI_208, fX12_moves_41, g_t, b_d, b_c, b_v, Bool.and_true, Bool.and_self, Bool.true_and, xL, xN1, nI_add, xM, xS, xP, xIx, xIn, xLe, xLt, xEq, xDv, s_isHouseM hn n2, hB_in, c0]
      by_cases c : x = 0
      · refine ⟨-1, S, S, ?_, ?_, Rel_up h⟩
        · simp (disch := omega) [fX11_moves, kO_0, kI_35, fX11_moves_21, fX11_moves_47, g_t, b_d, b_c, b_v, Bool.and_true, Bool.and_self, Bool.true_and, xL, xN1, nI_add, xM, xS, xP, xIx, xIn, xLe, xLt, xEq, xDv, s_isHouseC n1, hB_in, x1, c, c0]
        · simp (disch := omega) [fX12_moves, kO_187, kI_208, fX12_moves_41, g_t, b_d, b_c, b_v, Bool.and_true, Bool.and_self, Bool.true_and, xL, xN1, nI_add, xM, xS, xP, xIx, xIn, xLe, xLt, xEq, xDv, s_isHouseM hn n2, hB_in, x2, c, c0]
      by_cases c' : x' = 7
      · refine ⟨-1, S, S, ?_, ?_, Rel_up h⟩
        · simp (disch := omega) [fX11_moves, kO_0, kI_35, fX11_moves_21, fX11_moves_47, g_t, b_d, b_c, b_v, Bool.and_true, Bool.and_self, Bool.true_and, xL, xN1, nI_add, xM, xS, xP, xIx, xIn, xLe, xLt, xEq, xDv, s_isHouseC n1, hB_in, x1, x1', c, c0, c']
        · simp (disch := omega) [fX12_moves, kO_187, kI_208, fX12_moves_41, g_t, b_d, b_c, b_v, Bool.and_true, Bool.and_self, Bool.true_and, xL, xN1, nI_add, xM, xS, xP, xIx, xIn, xLe, xLt, xEq, xDv, s_isHouseM hn n2, hB_in, x2, x2', c, c0, c']
      · have hT : ∀ j, (sI (sI (sI S 35 i (nI (x - 1))) 35 (5 + i) (nI (min (x - 1) y))) 35 t (nI (x' + 1))).1 35 j = if j = t then nI (x' + 1) else if j = 5 + i then nI (min (x - 1) y) else if j = i then nI (x - 1) else S.1 35 j := fun j => by simp [sI_rd]
        have hTo : ∀ a j, a ≠ 35 → (sI (sI (sI S 35 i (nI (x - 1))) 35 (5 + i) (nI (min (x - 1) y))) 35 t (nI (x' + 1))).1 a j = S.1 a j := fun a j g => by simp [sI_rd, g]
        have hT2 : ∀ j, (sI (sI S 35 i (nI (x - 1))) 35 (5 + i) (nI (min (x - 1) y))).1 35 j = if j = 5 + i then nI (min (x - 1) y) else if j = i then nI (x - 1) else S.1 35 j := fun j => by simp [sI_rd]
        have ok1 : okRow ((sI (sI S 35 i (nI (x - 1))) 35 (5 + i) (nI (min (x - 1) y))).1 35) := okRow_up (x := x - 1) (y := min (x - 1) y) (z := z) hN.1.1 (by omega : i < 5) (by omega) (by omega) hz (by rw [hT2, if_neg (by omega), if_pos rfl]) (by rw [hT2, if_pos rfl]) (by rw [hT2, if_neg (by omega), if_neg (by omega)]; exact z1) (fun k _ g1 g2 _ => by rw [hT2, if_neg g2, if_neg g1])
        have ok2 : okRow ((sI (sI (sI S 35 i (nI (x - 1))) 35 (5 + i) (nI (min (x - 1) y))) 35 t (nI (x' + 1))).1 35) := okRow_up (x := x' + 1) (y := y') (z := z') ok1 (by omega : t < 5) (by omega) (by omega) hz' (by rw [hT, if_pos rfl]) (by rw [hT, if_neg (by omega), if_neg (by omega), if_neg (by omega)]; exact y1') (by rw [hT, if_neg (by omega), if_neg (by omega), if_neg (by omega)]; exact z1') (fun k _ g1 _ _ => by rw [hT, if_neg g1, hT2])
        obtain ⟨S3, S4, k1, a1, k2, a2, fin⟩ := act_fin (S := S) (T := sI (sI (sI S 35 i (nI (x - 1))) 35 (5 + i) (nI (min (x - 1) y))) 35 t (nI (x' + 1))) hN (fun a j g => hTo a j (by omega)) ok2
        have e208 : ∀ j, S4.1 208 j = S.1 208 j := fun j => by rw [a2 _ _ (by omega) (by omega) (by omega) (by omega), hTo _ _ (by omega)]
        obtain ⟨S5, v1, v2, v3⟩ := s_leaves (S := S4) (i := i) (x := x) (y := y) (by omega) (by omega) hx hy ((e208 i).trans x2) ((e208 (5 + i)).trans y2)
        have e6 : S5.1 208 t = nI x' := by rw [v2 t (by omega), if_neg (by omega), if_neg (by omega), e208]; exact x2'
        have hf1 : fX11_moves b (nI i) (nI t) S = some (nI (x' + 1), S3) := by
          have c2 : x' < 7 := by omega
          have e3 : S3.1 35 t = nI (x' + 1) := by rw [k2 _ _ (by omega) (by omega), hT, if_pos rfl]
          have e7 : (sI (sI S 35 i (nI (x - 1))) 35 (5 + i) (nI (min (x - 1) y))).1 35 t = nI x' := by rw [hT2, if_neg (by omega), if_neg (by omega)]; exact x1'
          simp (disch := omega) [fX11_moves, kO_0, kI_35, fX11_moves_21, fX11_moves_47, g_t, b_d, b_c, b_v, Bool.and_true, Bool.and_self, Bool.true_and, xL, xN1, nI_add, xM, xS, xP, xIx, xIn, xLe, xLt, xEq, xDv, s_isHouseC n1, hB_in, x1, x1', c0, c, c2, s_leaveOne (by omega) (by omega) hx hy x1 y1, e7, k1, e3]
        have hf2 : fX12_moves (nI i) (nI t) S3 = some (nI (x' + 1), sI S5 208 t (nI (x' + 1))) := by
          have e3 : S3.1 208 i = nI x := by rw [k2 _ _ (by omega) (by omega), hTo _ _ (by omega)]; exact x2
          have e3' : S3.1 208 t = nI x' := by rw [k2 _ _ (by omega) (by omega), hTo _ _ (by omega)]; exact x2'
          have e5 : S3.1 187 37 = nI n := by rw [k2 _ _ (by omega) (by omega), hTo _ _ (by omega)]; exact n2
          simp (disch := omega) [fX12_moves, kO_187, kI_208, fX12_moves_41, g_t, b_d, b_c, b_v, Bool.and_true, Bool.and_self, Bool.true_and, xL, xN1, nI_add, xM, xS, xP, xIx, xIn, xLe, xLt, xEq, xDv, s_isHouseM hn e5, hB_in, e3, e3', c, c0, c', a1, v1, e6, sI_rd]
        refine ⟨_, _, _, hf1, hf2, Rel_nn (agr_trans (av_agr (L := cond b LX11_moves_t LX11_moves_f) (by cases b; exact rX11_moves_f hf1; exact rX11_moves_t hf1) (by cases b <;> decide +kernel)) (av_agr (rX12_moves hf2) (by cases b <;> decide +kernel))) h (fin _ (fun a j g1 g2 g3 g4 g5 _ => by rw [sI_rd, if_neg (by omega)]; exact v3 a j g1 g2 g3 g4 (by omega)) (fun j hj => ?_))⟩
        rw [sI_rd, hT]
        by_cases c1 : j = t
        · simp [c1]
        · rw [if_neg (by omega), if_neg c1, v2 j hj, e208, w j hj]
          by_cases c2 : j = i
          · rw [if_pos c2, if_neg (by omega), if_pos c2]
          · rw [if_neg c2, if_neg c2]
    · refine ⟨-1, S, S, ?_, ?_, Rel_up h⟩
      · simp (disch := omega) [fX11_moves, kO_0, kI_35, fX11_moves_21, fX11_moves_47, g_t, b_d, b_c, b_v, Bool.and_true, Bool.and_self, Bool.true_and, s_isHouseC n1, hB_in, hB_out hv]
      · simp (disch := omega) [fX12_moves, kO_187, kI_208, fX12_moves_41, g_t, b_d, b_c, b_v, Bool.and_true, Bool.and_self, Bool.true_and, s_isHouseM hn n2, hB_in, hB_out hv]
  · refine ⟨-1, S, S, ?_, ?_, Rel_up h⟩
    · simp [fX11_moves, kO_0, kI_35, fX11_moves_21, fX11_moves_47, g_t, b_d, b_c, b_v, Bool.and_true, Bool.and_self, Bool.true_and, s_isHouseC n1, hB_out hv]
    · simp [fX12_moves, kO_187, kI_208, fX12_moves_41, g_t, b_d, b_c, b_v, Bool.and_true, Bool.and_self, Bool.true_and, s_isHouseM hn n2, hB_out hv]
theorem s_exch2 {a : Nat} (ha : a < 40) : ∀ (m i k : Nat) (S : mT), i + m = 17 → m < k → ∃ S', fX12_exchange_2 k (nI (18 * a)) (nI i) S = some S' ∧ (∀ j, S'.1 208 j = if i ≤ j ∧ j < 17 then S.1 212 (18 * a + j) else S.1 208 j) ∧ (∀ j, S'.1 212 j = if 18 * a + i ≤ j ∧ j < 18 * a + 17 then S.1 208 (j - 18 * a) else S.1 212 j) ∧ (∀ c j, c ≠ 208 → c ≠ 212 → S'.1 c j = S.1 c j)
  | 0, i, k, S, hi, hk => by
    obtain ⟨k', rfl⟩ := up1 hk
    have hi : i = 17 := by omega
    subst hi
    refine ⟨S, ?_, fun j => by rw [if_neg (by omega)], fun j => by rw [if_neg (by omega)], fun c j _ _ => rfl⟩
    simp (disch := omega) [fX12_exchange_2, kO_187, kI_212, kI_208, g_t, b_d, b_c, b_v, Bool.and_true, Bool.and_self, Bool.true_and, xL, xN1, nI_add, xM, xS, xP, xIx, xIn, xLe, xLt, xEq, xDv]
  | m + 1, i, k, S, hi, hk => by
    obtain ⟨k', rfl⟩ := up1 hk
    obtain ⟨S', h1, h2, h3, h4⟩ := s_exch2 ha m (i + 1) k' (sI (sI S 212 (18 * a + i) (S.1 208 i)) 208 i (S.1 212 (18 * a + i))) (by omega) (by omega)
    refine ⟨S', ?_, fun j => ?_, fun j => ?_, fun c j g1 g2 => ?_⟩
    · rw [← h1]
      have c : ¬ 17 ≤ i := by omega
      simp (disch := omega) [fX12_exchange_2, kO_187, kI_212, kI_208, g_t, b_d, b_c, b_v, Bool.and_true, Bool.and_self, Bool.true_and, xL, xN1, nI_add, xM, xS, xP, xIx, xIn, xLe, xLt, xEq, xDv, c]
    · rw [h2]
      by_cases q : j = i
      · subst q
        rw [if_neg (by omega), if_pos (by omega), sI_rd, if_pos (by omega)]
      · by_cases q2 : i ≤ j ∧ j < 17
        · rw [if_pos (by omega), if_pos q2, sI_rd, if_neg (by omega), sI_rd, if_neg (by omega)]
        · rw [if_neg (by omega), if_neg q2, sI_rd, if_neg (by omega), sI_rd, if_neg (by omega)]
    · rw [h3]
      by_cases q : j = 18 * a + i
      · subst q
        rw [if_neg (by omega), if_pos (by omega), sI_rd, if_neg (by omega), sI_rd, if_pos (by omega)]
        exact cA (by omega)
      · by_cases q2 : 18 * a + i ≤ j ∧ j < 18 * a + 17
        · rw [if_pos (by omega), if_pos q2, sI_rd, if_neg (by omega), sI_rd, if_neg (by omega)]
        · rw [if_neg (by omega), if_neg q2, sI_rd, if_neg (by omega), sI_rd, if_neg (by omega)]
    · rw [h4 c j g1 g2, sI_rd, if_neg (by omega), sI_rd, if_neg (by omega)]
theorem s_exch {a : Nat} (ha : a < 40) (S : mT) : ∃ S', fX12_exchange (nI (18 * a)) S = some S' ∧ (∀ j, S'.1 208 j = if j < 17 then S.1 212 (18 * a + j) else S.1 208 j) ∧ (∀ j, S'.1 212 j = if 18 * a ≤ j ∧ j < 18 * a + 17 then S.1 208 (j - 18 * a) else S.1 212 j) ∧ (∀ c j, c ≠ 208 → c ≠ 212 → S'.1 c j = S.1 c j) := by
  obtain ⟨S', h1, h2, h3, h4⟩ := s_exch2 ha 17 0 mK S (by omega) (by have := mK_gt; omega)
  refine ⟨S', h1, fun j => ?_, fun j => h3 j, h4⟩
  rw [h2]
  simp
theorem zz_undo : zH_undo Rel := by
  intro k b S hk h
  obtain ⟨n, hA, ⟨hNow, ⟨o, bh, ah, ho, hba, q3, q4, q5, q6, q7, q8, q9, q10, q11⟩⟩, hBx, hC, hT, hL⟩ := Rel_iff.mp h
  by_cases c : bh = 0
  · refine ⟨0, S, S, ?_, ?_, Rel_up h⟩
    · subst c
      have c1 : ¬ (0 : Int32) < S.1 37 4 := by rw [q4]; exact fun e => by cases e
      simp [fX11_undo, kO_0, fX2_stepBack, kO_37, g_t, b_d, b_c, b_v, Bool.and_true, Bool.and_self, Bool.true_and, c1]
      rfl
    · subst c
      have c1 : S.1 187 46 = 0 := q6
      simp [fX12_undo, kO_187, g_t, b_d, b_c, b_v, Bool.and_true, Bool.and_self, Bool.true_and, c1]
  · have hcp := s_copyTo (S := sI (sI S 37 4 (nI (bh - 1))) 37 5 (nI (ah + 1))) (o := o) (bh := bh - 1) ho (by omega) (by simp [sI_rd, q3]) (by simp [sI_rd])
    have hf1 : fX11_undo S = some (1, sC (sI (sI S 37 4 (nI (bh - 1))) 37 5 (nI (ah + 1))) (39 + (o + (bh - 1)) % 41) 35 (0 : Int32) (0 : Int32) (17 : Int32)) := by
      have c2 : 0 < bh := by omega
      simp (disch := omega) only [fX11_undo, kO_0, fX2_stepBack, kO_37, g_t, b_d, b_c, b_v, Bool.and_true, Bool.and_self, Bool.true_and, xL, nI_add, xS, xLt, q4, q5, c2, sI_rd, if_true, hcp, true_and, and_true, and_false, reduceCtorEq]
      sorry
    sorry
