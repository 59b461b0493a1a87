/-! The acts on houses. -/
theorem nmin {a c : Nat} (ha : a < 2000000) (hc : c < 2000000) : (if nI a < nI c then nI a else nI c) = nI (min a c) := by
  by_cases h : a < c
  · rw [if_pos ((xLt ha hc).mpr h)]
    congr 1
    omega
  · rw [if_neg (fun q => h ((xLt ha hc).mp q))]
    congr 1
    omega
theorem zz_comes : zH_comes Rel := by
  intro k b S v hk h
  obtain ⟨n, hA, hN, hBx, hC, hT, hL⟩ := Rel_iff.mp h
  have hn := hA.1.1
  have n1 := hA.1.2.1
  have n2 := hA.1.2.2.1
  have w := hN.1.2
  rcases h_cases n (by omega) v with ⟨i, hi, rfl⟩ | hv
  · obtain ⟨x, y, z, hx, hy, hz, x1, y1, z1⟩ := hN.1.1.1 i (by omega)
    have x2 := (w i (by omega)).trans x1
    by_cases c : x = 7
    · refine ⟨-1, S, S, ?_, ?_, Rel_up h⟩
      · simp (disch := omega) [fX11_comes, kO_0, kI_35, fX11_comes_21, g_t, b_d, b_c, b_v, Bool.and_true, Bool.and_self, Bool.true_and, xL, xN1, nI_add, xM, xS, xP, xIx, xIn, xLe, xLt, xEq, xDv, s_isHouseC n1, hB_in, x1, c]
      · simp (disch := omega) [fX12_comes, kO_187, kI_208, fX12_comes_19, g_t, b_d, b_c, b_v, Bool.and_true, Bool.and_self, Bool.true_and, xL, xN1, nI_add, xM, xS, xP, xIx, xIn, xLe, xLt, xEq, xDv, s_isHouseM hn n2, hB_in, x2, c]
    · have hT : ∀ j, (sI S 35 i (nI (x + 1))).1 35 j = if j = i then nI (x + 1) else S.1 35 j := fun j => by simp [sI_rd]
      obtain ⟨S3, S4, k1, a1, k2, a2, fin⟩ := act_fin (S := S) (T := sI S 35 i (nI (x + 1))) hN (fun a j g => by rw [sI_rd, if_neg (by omega)]) (okRow_up (x := x + 1) (y := y) (z := z) hN.1.1 (by omega : i < 5) (by omega) (by omega) hz (by simp [hT]) (by rw [hT, if_neg (by omega)]; exact y1) (by rw [hT, if_neg (by omega)]; exact z1) (fun k _ g1 _ _ => by rw [hT, if_neg g1]))
      have hf1 : fX11_comes b (nI i) S = some (nI (x + 1), S3) := by
        have c2 : x < 7 := by omega
        have e3 : S3.1 35 i = nI (x + 1) := by rw [k2 _ _ (by omega) (by omega)]; simp [sI_rd]
        simp (disch := omega) [fX11_comes, kO_0, kI_35, fX11_comes_21, g_t, b_d, b_c, b_v, Bool.and_true, Bool.and_self, Bool.true_and, xL, xN1, nI_add, xM, xS, xP, xIx, xIn, xLe, xLt, xEq, xDv, s_isHouseC n1, hB_in, x1, c2, k1, e3]
      have e4 : S4.1 208 i = nI x := by rw [a2 _ _ (by omega) (by omega) (by omega) (by omega), sI_rd, if_neg (by omega)]; exact x2
      have hf2 : fX12_comes (nI i) S3 = some (nI (x + 1), sI S4 208 i (nI (x + 1))) := by
        have e3 : S3.1 208 i = nI x := by rw [k2 _ _ (by omega) (by omega), sI_rd, if_neg (by omega)]; exact x2
        have e5 : S3.1 187 37 = nI n := by rw [k2 _ _ (by omega) (by omega), sI_rd, if_neg (by omega)]; exact n2
        simp (disch := omega) [fX12_comes, kO_187, kI_208, fX12_comes_19, g_t, b_d, b_c, b_v, Bool.and_true, Bool.and_self, Bool.true_and, xL, xN1, nI_add, xM, xS, xP, xIx, xIn, xLe, xLt, xEq, xDv, s_isHouseM hn e5, hB_in, e3, c, a1, e4, sI_rd]
      refine ⟨_, _, _, hf1, hf2, Rel_nn (agr_trans (av_agr (L := cond b LX11_comes_t LX11_comes_f) (by cases b; exact rX11_comes_f hf1; exact rX11_comes_t hf1) (by cases b <;> decide +kernel)) (av_agr (rX12_comes hf2) (by cases b <;> decide +kernel))) h (fin _ (fun a j g1 _ _ _ _ _ => by rw [sI_rd, if_neg (by omega)]) (fun j hj => ?_))⟩
      have e9 : S4.1 208 j = S.1 35 j := by rw [a2 _ _ (by omega) (by omega) (by omega) (by omega), sI_rd, if_neg (by omega)]; exact w j hj
      rw [sI_rd, e9, hT]
      simp
  · refine ⟨-1, S, S, ?_, ?_, Rel_up h⟩
    · simp [fX11_comes, kO_0, kI_35, fX11_comes_21, g_t, b_d, b_c, b_v, Bool.and_true, Bool.and_self, Bool.true_and, s_isHouseC n1, hB_out hv]
    · simp [fX12_comes, kO_187, kI_208, fX12_comes_19, g_t, b_d, b_c, b_v, Bool.and_true, Bool.and_self, Bool.true_and, s_isHouseM hn n2, hB_out hv]
theorem zz_hide : zH_hide Rel := by
  intro k b S v v2 hk h
  obtain ⟨n, hA, hN, hBx, hC, hT, hL⟩ := Rel_iff.mp h
  have hn := hA.1.1
  have n1 := hA.1.2.1
  have n2 := hA.1.2.2.1
  have w := hN.1.2
  rcases h_cases n (by omega) v with ⟨i, hi, rfl⟩ | hv
  · obtain ⟨x, y, z, hx, hy, hz, x1, y1, z1⟩ := hN.1.1.1 i (by omega)
    have x2 := (w i (by omega)).trans x1
    have y2 := (w (5 + i) (by omega)).trans y1
    rcases v_cases 0 x (by omega) (by omega) v2 with c | c | ⟨q, _, hq, rfl⟩
    · refine ⟨-1, S, S, ?_, ?_, Rel_up h⟩
      · have c' : v2 < 0 := c
        simp (disch := omega) [fX11_hide, kO_0, kI_35, fX11_hide_24, g_t, b_d, b_c, b_v, Bool.and_true, Bool.and_self, Bool.true_and, s_isHouseC n1, hB_in, x1, c']
      · have : wB v2 0 (nI x) = 0 := wB_lo c
        simp (disch := omega) [fX12_hide, kO_187, kI_208, fX12_hide_22, g_t, b_d, b_c, b_v, Bool.and_true, Bool.and_self, Bool.true_and, s_isHouseM hn n2, hB_in, s_isIn, kI_208, xIx, xIn, x2, this]
    · refine ⟨-1, S, S, ?_, ?_, Rel_up h⟩
      · have c1 : ¬ v2 < 0 := fun q => Int32.lt_irrefl (Int32.lt_trans q (Int32.lt_of_le_of_lt (show (0 : Int32) ≤ nI x from (xLe (a := 0) (by omega) (by omega)).mpr (by omega)) c))
        have c2 : ¬ v2 ≤ nI x := Int32.not_le.mpr c
        simp (disch := omega) [fX11_hide, kO_0, kI_35, fX11_hide_24, g_t, b_d, b_c, b_v, Bool.and_true, Bool.and_self, Bool.true_and, s_isHouseC n1, hB_in, x1, c1, c2, xIx, xIn]
      · have : wB v2 0 (nI x) = 0 := wB_hi c
        simp (disch := omega) [fX12_hide, kO_187, kI_208, fX12_hide_22, g_t, b_d, b_c, b_v, Bool.and_true, Bool.and_self, Bool.true_and, s_isHouseM hn n2, hB_in, s_isIn, xIx, xIn, x2, this]
    · have hT : ∀ j, (sI S 35 (5 + i) (nI q)).1 35 j = if j = 5 + i then nI q else S.1 35 j := fun j => by simp [sI_rd]
      obtain ⟨S3, S4, k1, a1, k2, a2, fin⟩ := act_fin (S := S) (T := sI S 35 (5 + i) (nI q)) hN (fun a j g => by rw [sI_rd, if_neg (by omega)]) (okRow_up (x := x) (y := q) (z := z) hN.1.1 (by omega : i < 5) (by omega) (by omega) hz (by rw [hT, if_neg (by omega)]; exact x1) (by simp [hT]) (by rw [hT, if_neg (by omega)]; exact z1) (fun k _ _ g1 _ => by rw [hT, if_neg g1]))
      have hf1 : fX11_hide b (nI i) (nI q) S = some (nI y, S3) := by
        simp (disch := omega) [fX11_hide, kO_0, kI_35, fX11_hide_24, g_t, b_d, b_c, b_v, Bool.and_true, Bool.and_self, Bool.true_and, xL, xN1, nI_add, xM, xS, xP, xIx, xIn, xLe, xLt, xEq, xDv, s_isHouseC n1, hB_in, x1, y1, hq, k1]
      have hf2 : fX12_hide (nI i) (nI q) S3 = some (nI y, sI S4 208 (5 + i) (nI q)) := by
        have e3 : S3.1 208 i = nI x := by rw [k2 _ _ (by omega) (by omega), sI_rd, if_neg (by omega)]; exact x2
        have e5 : S3.1 187 37 = nI n := by rw [k2 _ _ (by omega) (by omega), sI_rd, if_neg (by omega)]; exact n2
        have e4 : S4.1 208 (5 + i) = nI y := by rw [a2 _ _ (by omega) (by omega) (by omega) (by omega), sI_rd, if_neg (by omega)]; exact y2
        have : wB (nI q) 0 (nI x) = 1 := wB_in (lo := 0) (by omega) hq (by omega)
        simp (disch := omega) [fX12_hide, kO_187, kI_208, fX12_hide_22, g_t, b_d, b_c, b_v, Bool.and_true, Bool.and_self, Bool.true_and, s_isHouseM hn e5, hB_in, s_isIn, xIx, xIn, e3, this]
        simp (disch := omega) [g_t, b_d, b_c, b_v, Bool.and_true, Bool.and_self, Bool.true_and, xL, xN1, nI_add, xM, xS, xP, xIx, xIn, xLe, xLt, xEq, xDv, kI_208, a1, e4]
      refine ⟨_, _, _, hf1, hf2, Rel_nn (agr_trans (av_agr (L := cond b LX11_hide_t LX11_hide_f) (by cases b; exact rX11_hide_f hf1; exact rX11_hide_t hf1) (by cases b <;> decide +kernel)) (av_agr (rX12_hide hf2) (by cases b <;> decide +kernel))) h (fin _ (fun a j g1 _ _ _ _ _ => by rw [sI_rd, if_neg (by omega)]) (fun j hj => ?_))⟩
      have e9 : S4.1 208 j = S.1 35 j := by rw [a2 _ _ (by omega) (by omega) (by omega) (by omega), sI_rd, if_neg (by omega)]; exact w j hj
      rw [sI_rd, e9, hT]
      simp
  · refine ⟨-1, S, S, ?_, ?_, Rel_up h⟩
    · simp [fX11_hide, kO_0, kI_35, fX11_hide_24, g_t, b_d, b_c, b_v, Bool.and_true, Bool.and_self, Bool.true_and, s_isHouseC n1, hB_out hv]
    · simp [fX12_hide, kO_187, kI_208, fX12_hide_22, g_t, b_d, b_c, b_v, Bool.and_true, Bool.and_self, Bool.true_and, s_isHouseM hn n2, hB_out hv]
theorem zz_steal : zH_steal Rel := by
  intro k b S v v2 hk h
  obtain ⟨n, hA, hN, hBx, hC, hT, hL⟩ := Rel_iff.mp h
  have hn := hA.1.1
  have n1 := hA.1.2.1
  have n2 := hA.1.2.2.1
  have w := hN.1.2
  rcases h_cases n (by omega) v with ⟨i, hi, rfl⟩ | hv
  · obtain ⟨x, y, z, hx, hy, hz, x1, y1, z1⟩ := hN.1.1.1 i (by omega)
    have z2 := (w (10 + i) (by omega)).trans z1
    rcases v_cases 1 99 (by omega) (by omega) v2 with c | c | ⟨q, hq0, hq, rfl⟩
    · refine ⟨-1, S, S, ?_, ?_, Rel_up h⟩
      · have c' : v2 < 1 := c
        simp (disch := omega) [fX11_steal, kO_0, kI_35, fX11_steal_32, g_t, b_d, b_c, b_v, Bool.and_true, Bool.and_self, Bool.true_and, s_isHouseC n1, hB_in, c']
      · have : wB v2 1 99 = 0 := wB_lo c
        simp (disch := omega) [fX12_steal, kO_187, kI_208, fX12_steal_31, g_t, b_d, b_c, b_v, Bool.and_true, Bool.and_self, Bool.true_and, s_isHouseM hn n2, hB_in, s_isIn, this]
    · refine ⟨-1, S, S, ?_, ?_, Rel_up h⟩
      · have c' : 99 < v2 := c
        simp (disch := omega) [fX11_steal, kO_0, kI_35, fX11_steal_32, g_t, b_d, b_c, b_v, Bool.and_true, Bool.and_self, Bool.true_and, s_isHouseC n1, hB_in, c']
      · have : wB v2 1 99 = 0 := wB_hi c
        simp (disch := omega) [fX12_steal, kO_187, kI_208, fX12_steal_31, g_t, b_d, b_c, b_v, Bool.and_true, Bool.and_self, Bool.true_and, s_isHouseM hn n2, hB_in, s_isIn, this]
    · have g1 : ¬ q = 0 := by omega
      have g2 : ¬ 99 < q := by omega
      have hw : wB (nI q) 1 99 = 1 := wB_in (lo := 1) (hi := 99) (by omega) hq (by omega)
      by_cases c : q ≤ z
      · have hT : ∀ j, (sI S 35 (10 + i) (nI (z - q))).1 35 j = if j = 10 + i then nI (z - q) else S.1 35 j := fun j => by simp [sI_rd]
        obtain ⟨S3, S4, k1, a1, k2, a2, fin⟩ := act_fin (S := S) (T := sI S 35 (10 + i) (nI (z - q))) hN (fun a j g => by rw [sI_rd, if_neg (by omega)]) (okRow_up (x := x) (y := y) (z := z - q) hN.1.1 (by omega : i < 5) (by omega) (by omega) (by omega) (by rw [hT, if_neg (by omega)]; exact x1) (by rw [hT, if_neg (by omega)]; exact y1) (by simp [hT]) (fun k _ _ _ g1 => by rw [hT, if_neg g1]))
        have hf1 : fX11_steal b (nI i) (nI q) S = some (nI (z - q), S3) := by
          have e3 : S3.1 35 (10 + i) = nI (z - q) := by rw [k2 _ _ (by omega) (by omega)]; simp [sI_rd]
          simp (disch := omega) [fX11_steal, kO_0, kI_35, fX11_steal_32, g_t, b_d, b_c, b_v, Bool.and_true, Bool.and_self, Bool.true_and, xL, xN1, nI_add, xM, xS, xP, xIx, xIn, xLe, xLt, xEq, xDv, s_isHouseC n1, hB_in, z1, k1, c, e3, g1, g2]
        have hf2 : fX12_steal (nI i) (nI q) S3 = some (nI (z - q), sI S4 208 (10 + i) (nI (z - q))) := by
          have e3 : S3.1 208 (10 + i) = nI z := by rw [k2 _ _ (by omega) (by omega), sI_rd, if_neg (by omega)]; exact z2
          have e5 : S3.1 187 37 = nI n := by rw [k2 _ _ (by omega) (by omega), sI_rd, if_neg (by omega)]; exact n2
          have e4 : S4.1 208 (10 + i) = nI z := by rw [a2 _ _ (by omega) (by omega) (by omega) (by omega), sI_rd, if_neg (by omega)]; exact z2
          simp (disch := omega) [fX12_steal, kO_187, kI_208, fX12_steal_31, g_t, b_d, b_c, b_v, Bool.and_true, Bool.and_self, Bool.true_and, s_isHouseM hn e5, hB_in, s_isIn, hw]
          simp (disch := omega) [g_t, b_d, b_c, b_v, Bool.and_true, Bool.and_self, Bool.true_and, xL, xN1, nI_add, xM, xS, xP, xIx, xIn, xLe, xLt, xEq, xDv, kI_208, a1, e4, e3, c, sI_rd]
        refine ⟨_, _, _, hf1, hf2, Rel_nn (agr_trans (av_agr (L := cond b LX11_steal_t LX11_steal_f) (by cases b; exact rX11_steal_f hf1; exact rX11_steal_t hf1) (by cases b <;> decide +kernel)) (av_agr (rX12_steal hf2) (by cases b <;> decide +kernel))) h (fin _ (fun a j g1 _ _ _ _ _ => by rw [sI_rd, if_neg (by omega)]) (fun j hj => ?_))⟩
        have e9 : S4.1 208 j = S.1 35 j := by rw [a2 _ _ (by omega) (by omega) (by omega) (by omega), sI_rd, if_neg (by omega)]; exact w j hj
        rw [sI_rd, e9, hT]
        simp
      · refine ⟨-1, S, S, ?_, ?_, Rel_up h⟩
        · simp (disch := omega) [fX11_steal, kO_0, kI_35, fX11_steal_32, g_t, b_d, b_c, b_v, Bool.and_true, Bool.and_self, Bool.true_and, xL, xN1, nI_add, xM, xS, xP, xIx, xIn, xLe, xLt, xEq, xDv, s_isHouseC n1, hB_in, c, z1, g1, g2]
        · simp (disch := omega) [fX12_steal, kO_187, kI_208, fX12_steal_31, g_t, b_d, b_c, b_v, Bool.and_true, Bool.and_self, Bool.true_and, s_isHouseM hn n2, hB_in, s_isIn, hw]
          simp (disch := omega) [g_t, b_d, b_c, b_v, Bool.and_true, Bool.and_self, Bool.true_and, xL, xN1, nI_add, xM, xS, xP, xIx, xIn, xLe, xLt, xEq, xDv, kI_208, z2, c]
  · refine ⟨-1, S, S, ?_, ?_, Rel_up h⟩
    · simp [fX11_steal, kO_0, kI_35, fX11_steal_32, g_t, b_d, b_c, b_v, Bool.and_true, Bool.and_self, Bool.true_and, s_isHouseC n1, hB_out hv]
    · simp [fX12_steal, kO_187, kI_208, fX12_steal_31, g_t, b_d, b_c, b_v, Bool.and_true, Bool.and_self, Bool.true_and, s_isHouseM hn n2, hB_out hv]
