/-! The time, the tape's end, the boxes. -/
theorem Rel_time {k : Nat} {b : Bool} {S S' : mT} (a : agr (supA (shU b) ++ (supN ++ (supBox ++ (supR ++ supLie)))) S S') (h : Rel k b S) (l : rTime S') : Rel (k + 6) b S' := by
  obtain ⟨n, h1, h2, h3, h4, h5, h6⟩ := Rel_iff.mp h
  obtain ⟨a1, a⟩ := agr_app.mp a
  obtain ⟨a2, a⟩ := agr_app.mp a
  obtain ⟨a3, a⟩ := agr_app.mp a
  obtain ⟨a4, a6⟩ := agr_app.mp a
  exact Rel_iff.mpr ⟨n, rA_fr a1 h1, rN_fr a2 h2, rBox_fr a3 h3, rC_up (rC_fr h1.1.1 a4 h4), l, rLie_fr a6 h6⟩
theorem Rel_box {k : Nat} {b : Bool} {S S' : mT} (a : agr (supA (shU b) ++ (supN ++ (supR ++ (supTime ++ supLie)))) S S') (h : Rel k b S) (l : rBox S') : Rel (k + 6) b S' := by
  obtain ⟨n, h1, h2, h3, h4, h5, h6⟩ := Rel_iff.mp h
  obtain ⟨a1, a⟩ := agr_app.mp a
  obtain ⟨a2, a⟩ := agr_app.mp a
  obtain ⟨a4, a⟩ := agr_app.mp a
  obtain ⟨a5, a6⟩ := agr_app.mp a
  exact Rel_iff.mpr ⟨n, rA_fr a1 h1, rN_fr a2 h2, l, rC_up (rC_fr h1.1.1 a4 h4), rTime_fr a5 h5, rLie_fr a6 h6⟩
abbrev supNT (u : Nat) : tL := supSheet u ++ (supFault ++ (supForm u 0 ++ (supForm u 1 ++ (supForm u 2 ++ (supUnits u ++ (supN ++ (supBox ++ (supR ++ (supTime ++ supLie)))))))))
theorem Rel_tape {k : Nat} {b : Bool} {S S' : mT} (a : agr (supNT (shU b)) S S') (h : Rel k b S) (l : rTape S') : Rel (k + 6) b S' := by
  obtain ⟨n, ⟨h1, h2, h3, ⟨f0, f1, f2⟩, h5⟩, g2, g3, g4, g5, g6⟩ := Rel_iff.mp h
  obtain ⟨a1, a⟩ := agr_app.mp a
  obtain ⟨a3, a⟩ := agr_app.mp a
  obtain ⟨a4, a⟩ := agr_app.mp a
  obtain ⟨a5, a⟩ := agr_app.mp a
  obtain ⟨a6, a⟩ := agr_app.mp a
  obtain ⟨a7, a⟩ := agr_app.mp a
  obtain ⟨b2, a⟩ := agr_app.mp a
  obtain ⟨b3, a⟩ := agr_app.mp a
  obtain ⟨b4, a⟩ := agr_app.mp a
  obtain ⟨b5, b6⟩ := agr_app.mp a
  exact Rel_iff.mpr ⟨n, ⟨rSheet_fr a1 h1, l, rFault_fr a3 h3, ⟨rForm_fr a4 f0, rForm_fr a5 f1, rForm_fr a6 f2⟩, rUnits_fr a7 h5⟩, rN_fr b2 g2, rBox_fr b3 g3, rC_up (rC_fr h1.1 b4 g4), rTime_fr b5 g5, rLie_fr b6 g6⟩
theorem zz_later : zH_later Rel := by
  intro k b S v hk h
  obtain ⟨n, hA, hN, hBx, hC, ⟨t, ht, t1, t2⟩, hL⟩ := Rel_iff.mp h
  rcases v_cases 0 1000 (by omega) (by omega) v with c | c | ⟨q, _, hq, rfl⟩
  · have hw : wB v 0 1000 = 0 := wB_lo c
    refine ⟨-1, S, S, ?_, ?_, Rel_up h⟩
    · simp [fX11_later, kO_0, fX11_later_22, g_t, b_d, b_c, b_v, Bool.and_true, Bool.and_self, Bool.true_and, s_isWithin, hw]
    · have c' : v < 0 := c
      simp [fX12_later, kO_187, fX12_later_23, g_t, b_d, b_c, b_v, Bool.and_true, Bool.and_self, Bool.true_and, c']
  · have hw : wB v 0 1000 = 0 := wB_hi c
    refine ⟨-1, S, S, ?_, ?_, Rel_up h⟩
    · simp [fX11_later, kO_0, fX11_later_22, g_t, b_d, b_c, b_v, Bool.and_true, Bool.and_self, Bool.true_and, s_isWithin, hw]
    · have c' : 1000 < v := c
      simp [fX12_later, kO_187, fX12_later_23, g_t, b_d, b_c, b_v, Bool.and_true, Bool.and_self, Bool.true_and, c']
  · have hw : wB (nI q) 0 1000 = 1 := wB_in (lo := 0) (hi := 1000) (by omega) hq (by omega)
    by_cases c : t + q ≤ 100000
    · have hf1 : fX11_later (nI q) S = some (nI (t + q), sI S 0 14 (nI (t + q))) := by
        simp (disch := omega) [fX11_later, kO_0, fX11_later_22, g_t, b_d, b_c, b_v, Bool.and_true, Bool.and_self, Bool.true_and, s_isWithin, hw]
        simp (disch := omega) [g_t, b_d, b_c, b_v, Bool.and_true, Bool.and_self, Bool.true_and, xL, xN1, nI_add, xM, xS, xP, xIx, xIn, xLe, xLt, xEq, xDv, t1, c, sI_rd]
      have hf2 : fX12_later (nI q) (sI S 0 14 (nI (t + q))) = some (nI (t + q), sI (sI S 0 14 (nI (t + q))) 187 67 (nI (t + q))) := by
        simp (disch := omega) [fX12_later, kO_187, fX12_later_23, g_t, b_d, b_c, b_v, Bool.and_true, Bool.and_self, Bool.true_and, xL, xN1, nI_add, xM, xS, xP, xIx, xIn, xLe, xLt, xEq, xDv, t2, c, Nat.not_lt.mpr hq, sI_rd]
      refine ⟨_, _, _, hf1, hf2, Rel_time (agr_trans (av_agr (rX11_later hf1) (by cases b <;> decide +kernel)) (av_agr (rX12_later hf2) (by cases b <;> decide +kernel))) h ⟨t + q, c, ?_, ?_⟩⟩
      · simp [sI_rd]
      · simp [sI_rd]
    · refine ⟨-1, S, S, ?_, ?_, Rel_up h⟩
      · simp (disch := omega) [fX11_later, kO_0, fX11_later_22, g_t, b_d, b_c, b_v, Bool.and_true, Bool.and_self, Bool.true_and, s_isWithin, hw]
        simp (disch := omega) [g_t, b_d, b_c, b_v, Bool.and_true, Bool.and_self, Bool.true_and, xL, xN1, nI_add, xM, xS, xP, xIx, xIn, xLe, xLt, xEq, xDv, t1, c]
      · simp (disch := omega) [fX12_later, kO_187, fX12_later_23, g_t, b_d, b_c, b_v, Bool.and_true, Bool.and_self, Bool.true_and, xL, xN1, nI_add, xM, xS, xP, xIx, xIn, xLe, xLt, xEq, xDv, t2, c, Nat.not_lt.mpr hq]
theorem zz_end : zH_end Rel := by
  intro k b S v hk h
  obtain ⟨n, hA, hN, hBx, hC, hT, hL⟩ := Rel_iff.mp h
  obtain ⟨t, ht, t1, t2, t3⟩ := hA.2.1
  rcases v_cases 0 t (by omega) (by omega) v with c | c | ⟨q, _, hq, rfl⟩
  · have c' : v < 0 := c
    refine ⟨-1, S, S, ?_, ?_, Rel_up h⟩
    · simp [fX11_end, kO_1, kO_0, fX11_end_15, g_t, b_d, b_c, b_v, Bool.and_true, Bool.and_self, Bool.true_and, c']
    · simp [fX12_end, kO_187, fX12_end_12, g_t, b_d, b_c, b_v, Bool.and_true, Bool.and_self, Bool.true_and, c']
  · have c1 : ¬ v < 0 := fun q => Int32.lt_irrefl (Int32.lt_trans q (Int32.lt_of_le_of_lt (show (0 : Int32) ≤ nI t from (xLe (a := 0) (by omega) (by omega)).mpr (by omega)) c))
    have c2 : ¬ v ≤ nI t := Int32.not_le.mpr c
    refine ⟨-1, S, S, ?_, ?_, Rel_up h⟩
    · simp [fX11_end, kO_1, kO_0, fX11_end_15, g_t, b_d, b_c, b_v, Bool.and_true, Bool.and_self, Bool.true_and, c1, c2, t1]
    · simp [fX12_end, kO_187, fX12_end_12, g_t, b_d, b_c, b_v, Bool.and_true, Bool.and_self, Bool.true_and, c1, c2, t2]
  · have hf1 : fX11_end (nI q) S = some (nI q, sI S 1 1 (nI q)) := by
      simp (disch := omega) [fX11_end, kO_1, kO_0, fX11_end_15, g_t, b_d, b_c, b_v, Bool.and_true, Bool.and_self, Bool.true_and, xL, xN1, nI_add, xM, xS, xP, xIx, xIn, xLe, xLt, xEq, xDv, t1, hq]
    have hf2 : fX12_end (nI q) (sI S 1 1 (nI q)) = some (nI q, sI (sI S 1 1 (nI q)) 187 1 (nI q)) := by
      simp (disch := omega) [fX12_end, kO_187, fX12_end_12, g_t, b_d, b_c, b_v, Bool.and_true, Bool.and_self, Bool.true_and, xL, xN1, nI_add, xM, xS, xP, xIx, xIn, xLe, xLt, xEq, xDv, t2, hq, sI_rd]
    refine ⟨_, _, _, hf1, hf2, Rel_tape (agr_trans (av_agr (rX11_end hf1) (by cases b <;> decide +kernel)) (av_agr (rX12_end hf2) (by cases b <;> decide +kernel))) h ⟨q, by omega, ?_, ?_, fun j hj => ?_⟩⟩
    · simp [sI_rd]
    · simp [sI_rd]
    · obtain ⟨c, hc, c1, c2⟩ := t3 j (by omega)
      exact ⟨c, hc, by simp [sI_rd, c1], by simp [sI_rd, c2]⟩
theorem isBoxM (v : Int32) (S : mT) : fX12_isBox v S = some (hB 3 v, S) := by
  unfold fX12_isBox hB fX12_isBox_13 fX12_isBox_14
  split
  · rfl
  · by_cases h : (3 : Int32) ≤ v
    · rw [if_pos h, if_pos (show nI 3 ≤ v from h)]
      rfl
    · rw [if_neg h, if_neg (show ¬ nI 3 ≤ v from h)]
      rfl
theorem wB_02 (v : Int32) : wB v 0 2 = hB 3 v := wB_h (n := 3) (by omega) v
theorem kN1 : vp_nar .boolean (nI 1) = nI 1 := rfl
theorem s_image18 {x : Nat} (hx : x < 3) : ∀ (m i k : Nat) (S : mT), i + m = 17 → m < k → ∃ S', fX12_image_18 k (nI x) (nI i) S = some (S.1 208 15, S') ∧ (∀ j, S'.1 232 j = if 18 * x + i ≤ j ∧ j < 18 * x + 17 then S.1 208 (j - 18 * x) else S.1 232 j) ∧ (∀ c j, c ≠ 232 → S'.1 c j = S.1 c j)
  | 0, i, k, S, hi, hk => by
    obtain ⟨k', rfl⟩ := up1 hk
    have hi : i = 17 := by omega
    subst hi
    refine ⟨S, ?_, fun j => by rw [if_neg (by omega)], fun c j _ => rfl⟩
    simp (disch := omega) [fX12_image_18, kO_187, kI_208, kI_232, g_t, b_d, b_c, b_v, Bool.and_true, Bool.and_self, Bool.true_and, xL, xN1, nI_add, xM, xS, xP, xIx, xIn, xLe, xLt, xEq, xDv]
  | m + 1, i, k, S, hi, hk => by
    obtain ⟨k', rfl⟩ := up1 hk
    obtain ⟨S', h1, h3, h4⟩ := s_image18 hx m (i + 1) k' (sI S 232 (18 * x + i) (S.1 208 i)) (by omega) (by omega)
    refine ⟨S', ?_, fun j => ?_, fun c j g1 => ?_⟩
    · rw [sI_rd, if_neg (by omega)] at h1
      rw [← h1]
      have c : ¬ 17 ≤ i := by omega
      simp (disch := omega) [fX12_image_18, kO_187, kI_208, kI_232, g_t, b_d, b_c, b_v, Bool.and_true, Bool.and_self, Bool.true_and, xL, xN1, nI_add, xM, xS, xP, xIx, xIn, xLe, xLt, xEq, xDv, c]
    · rw [h3]
      by_cases q : j = 18 * x + i
      · subst q
        rw [if_neg (by omega), if_pos (by omega), sI_rd, if_pos (by omega)]
        exact cA (by omega)
      · by_cases q2 : 18 * x + i ≤ j ∧ j < 18 * x + 17
        · rw [if_pos (by omega), if_pos q2, sI_rd, if_neg (by omega)]
        · rw [if_neg (by omega), if_neg q2, sI_rd, if_neg (by omega)]
    · rw [h4 c j g1, sI_rd, if_neg (by omega)]
theorem zz_image : zH_image Rel := by
  intro k b S v hk h
  obtain ⟨n, hA, hN, hBx, hC, hT, hL⟩ := Rel_iff.mp h
  rcases h_cases 3 (by omega) v with ⟨x, hx, rfl⟩ | hv
  · have hcp : fX2_fillBox 35 (nI x) S = some (sI (sC S 35 (81 + x) (0 : Int32) (0 : Int32) (17 : Int32)) 84 x (nI 1)) := by
      unfold fX2_fillBox
      rw [xIx (by omega), rw_80 hx, kO_37, kR_80, kB_84, kN_84, xIn hx (by omega), kC_of s_35 (by decide +kernel) (st_80 _ hx) (blt_of (by omega)), cpOk17 (by omega) (by omega)]
      rfl
    have e15 : (sI (sC S 35 (81 + x) (0 : Int32) (0 : Int32) (17 : Int32)) 84 x (nI 1)).1 35 15 = S.1 35 15 := by
      rw [sI_rd, if_neg (by omega), sC17, if_neg (by omega)]
    generalize hS1 : sI (sC S 35 (81 + x) (0 : Int32) (0 : Int32) (17 : Int32)) 84 x (nI 1) = S1 at hcp e15
    have hf1 : fX11_image (nI x) S = some (S.1 35 15, S1) := by
      simp (disch := omega) [fX11_image, kO_0, kI_35, g_t, b_d, b_c, b_v, Bool.and_true, Bool.and_self, Bool.true_and, s_isWithin, wB_02, hB_in', hcp]
      simp (disch := omega) [g_t, b_d, b_c, b_v, Bool.and_true, Bool.and_self, Bool.true_and, xL, xN1, nI_add, xM, xS, xP, xIx, xIn, xLe, xLt, xEq, xDv, e15]
    have f1 : ∀ a j, a ≠ 84 → (a < 81 ∨ 83 < a) → S1.1 a j = S.1 a j := fun a j g1 g2 => by rw [← hS1, sI_rd, if_neg (by omega), sC17, if_neg (by omega)]
    obtain ⟨S2, x1, x2, x3⟩ := s_image18 hx 17 0 mK (sI S1 231 x (nI 1)) (by omega) (by have := mK_gt; omega)
    have hf2 : fX12_image (nI x) S1 = some (S.1 35 15, S2) := by
      rw [← hN.1.2 15 (by omega), ← f1 208 15 (by omega) (by omega)]
      rw [sI_rd, if_neg (by omega)] at x1
      simp (disch := omega) [fX12_image, kO_187, kB_231, kN_231, g_t, b_d, b_c, b_v, Bool.and_true, Bool.and_self, Bool.true_and, isBoxM, hB_in']
      simp (disch := omega) [g_t, b_d, b_c, b_v, Bool.and_true, Bool.and_self, Bool.true_and, xL, xN1, nI_add, xM, xS, xP, xIx, xIn, xLe, xLt, xEq, xDv, kN1, x1]
    refine ⟨_, _, _, hf1, hf2, Rel_box (agr_trans (av_agr (rX11_image hf1) (by cases b <;> decide +kernel)) (av_agr (rX12_image hf2) (by cases b <;> decide +kernel))) h (fun y hy => ?_)⟩
    have g1 : S2.1 84 y = if y = x then nI 1 else S.1 84 y := by
      rw [x3 _ _ (by omega), sI_rd, if_neg (by omega), ← hS1, sI_rd]
      by_cases e : y = x
      · rw [if_pos ⟨rfl, e⟩, if_pos e]
      · rw [if_neg (by omega), if_neg e, sC17, if_neg (by omega)]
    have g2 : S2.1 231 y = if y = x then nI 1 else S.1 231 y := by
      rw [x3 _ _ (by omega), sI_rd, f1 _ _ (by omega) (by omega)]
      simp
    have g3 : ∀ j, S2.1 (81 + y) j = if y = x ∧ j < 17 then S.1 35 j else S.1 (81 + y) j := fun j => by
      rw [x3 _ _ (by omega), sI_rd, if_neg (by omega), ← hS1, sI_rd, if_neg (by omega), sC17]
      by_cases e : y = x
      · simp [e]
      · rw [if_neg (by omega), if_neg (by omega)]
    have g4 : ∀ j, j < 17 → S2.1 232 (18 * y + j) = if y = x then S.1 208 j else S.1 232 (18 * y + j) := fun j hj => by
      rw [x2]
      by_cases e : y = x
      · rw [if_pos (by omega), if_pos e, sI_rd, if_neg (by omega), f1 _ _ (by omega) (by omega)]
        exact cA (by omega)
      · rw [if_neg (by omega), if_neg e, sI_rd, if_neg (by omega), f1 _ _ (by omega) (by omega)]
    by_cases e : y = x
    · rw [if_pos e] at g1 g2
      refine Or.inr ⟨g1, g2, okRow_eq (fun j hj => by rw [g3, if_pos ⟨e, hj⟩]) hN.1.1, fun j hj => ?_⟩
      rw [g4 j hj, if_pos e, g3, if_pos ⟨e, hj⟩]
      exact hN.1.2 j hj
    · rw [if_neg e] at g1 g2
      rcases hBx y hy with ⟨p1, p2⟩ | ⟨p1, p2, p3, p4⟩
      · exact Or.inl ⟨g1.trans p1, g2.trans p2⟩
      · refine Or.inr ⟨g1.trans p1, g2.trans p2, okRow_eq (fun j _ => by rw [g3, if_neg (by omega)]) p3, fun j hj => ?_⟩
        rw [g4 j hj, if_neg e, g3, if_neg (by omega)]
        exact p4 j hj
  · refine ⟨-1, S, S, ?_, ?_, Rel_up h⟩
    · simp (disch := omega) [fX11_image, kO_0, kI_35, g_t, b_d, b_c, b_v, Bool.and_true, Bool.and_self, Bool.true_and, s_isWithin, wB_02, hB_out hv]
    · simp (disch := omega) [fX12_image, kO_187, kB_231, kN_231, g_t, b_d, b_c, b_v, Bool.and_true, Bool.and_self, Bool.true_and, isBoxM, hB_out hv]
theorem s_back20 {x : Nat} (hx : x < 3) : ∀ (m i k : Nat) (S : mT), i + m = 17 → m < k → ∃ S', fX12_back_20 k (nI x) (nI i) S = some (S'.1 208 15, S') ∧ (∀ j, S'.1 208 j = if i ≤ j ∧ j < 17 then S.1 232 (18 * x + j) else S.1 208 j) ∧ S'.1 187 46 = nI 0 ∧ S'.1 187 47 = nI 0 ∧ (∀ c j, c ≠ 208 → ¬ (c = 187 ∧ (j = 46 ∨ j = 47)) → S'.1 c j = S.1 c j)
  | 0, i, k, S, hi, hk => by
    obtain ⟨k', rfl⟩ := up1 hk
    have hi : i = 17 := by omega
    subst hi
    refine ⟨sI (sI S 187 46 (nI 0)) 187 47 (nI 0), ?_, fun j => by rw [if_neg (by omega), sI_rd, if_neg (by omega), sI_rd, if_neg (by omega)], by simp [sI_rd], by simp [sI_rd], fun c j _ _ => by rw [sI_rd, if_neg (by omega), sI_rd, if_neg (by omega)]⟩
    simp (disch := omega) [fX12_back_20, kO_187, kI_208, kI_232, g_t, b_d, b_c, b_v, Bool.and_true, Bool.and_self, Bool.true_and, xL, xN1, nI_add, xM, xS, xP, xIx, xIn, xLe, xLt, xEq, xDv]
  | m + 1, i, k, S, hi, hk => by
    obtain ⟨k', rfl⟩ := up1 hk
    obtain ⟨S', h1, h3, h5, h6, h4⟩ := s_back20 hx m (i + 1) k' (sI S 208 i (S.1 232 (18 * x + i))) (by omega) (by omega)
    refine ⟨S', ?_, fun j => ?_, h5, h6, fun c j g1 g2 => ?_⟩
    · rw [← h1]
      have c : ¬ 17 ≤ i := by omega
      simp (disch := omega) [fX12_back_20, kO_187, kI_208, kI_232, g_t, b_d, b_c, b_v, Bool.and_true, Bool.and_self, Bool.true_and, xL, xN1, nI_add, xM, xS, xP, xIx, xIn, xLe, xLt, xEq, xDv, c]
    · rw [h3]
      by_cases q : j = i
      · subst q
        rw [if_neg (by omega), if_pos (by omega), sI_rd, if_pos (by omega)]
      · by_cases q2 : i ≤ j ∧ j < 17
        · rw [if_pos (by omega), if_pos q2, sI_rd, if_neg (by omega)]
        · rw [if_neg (by omega), if_neg q2, sI_rd, if_neg (by omega)]
    · rw [h4 c j g1 g2, sI_rd, if_neg (by omega)]
theorem zz_back : zH_back Rel := by
  intro k b S v hk h
  obtain ⟨n, hA, hN, hBx, hC, hT, hL⟩ := Rel_iff.mp h
  rcases h_cases 3 (by omega) v with ⟨x, hx, rfl⟩ | hv
  · rcases hBx x hx with ⟨p1, p2⟩ | ⟨p1, p2, p3, p4⟩
    · refine ⟨-1, S, S, ?_, ?_, Rel_up h⟩
      · simp (disch := omega) [fX11_back, kO_37, kO_0, kB_84, kI_35, fX11_back_21, g_t, b_d, b_c, b_v, Bool.and_true, Bool.and_self, Bool.true_and, s_isWithin, wB_02, hB_in', xIx, xIn, p1]
      · simp (disch := omega) [fX12_back, kO_187, kB_231, fX12_back_16, g_t, b_d, b_c, b_v, Bool.and_true, Bool.and_self, Bool.true_and, isBoxM, hB_in', xIx, xIn, p2]
    · have hop : fX2_openBox 35 (nI x) S = some (sC S (81 + x) 35 (0 : Int32) (0 : Int32) (17 : Int32)) := by
        unfold fX2_openBox
        rw [xIx (by omega), rw_80 hx, kO_37, kR_80, xIn hx (by omega), kC_of (st_80 _ hx) (blt_of (by omega)) s_35 (by decide +kernel), cpOk17 (by omega) (by omega)]
        rfl
      have hcp := s_copyFrom (S := sI (sI (sI (sC S (81 + x) 35 (0 : Int32) (0 : Int32) (17 : Int32)) 37 3 (nI 0)) 37 4 (nI 0)) 37 5 (nI 0)) (o := 0) (bh := 0) (by omega) (by omega) (by simp [sI_rd]) (by simp [sI_rd])
      have hst : fX2_startFrom 35 (sC S (81 + x) 35 (0 : Int32) (0 : Int32) (17 : Int32)) = some (sC (sI (sI (sI (sC S (81 + x) 35 (0 : Int32) (0 : Int32) (17 : Int32)) 37 3 (nI 0)) 37 4 (nI 0)) 37 5 (nI 0)) 35 39 (0 : Int32) (0 : Int32) (17 : Int32)) := by
        unfold fX2_startFrom
        rw [kO_37]
        show bndV (fX2_copyFrom 35 (sI (sI (sI (sC S (81 + x) 35 (0 : Int32) (0 : Int32) (17 : Int32)) 37 3 (nI 0)) 37 4 (nI 0)) 37 5 (nI 0))) _ = _
        rw [hcp]
        rfl
      generalize hS1 : sC (sI (sI (sI (sC S (81 + x) 35 (0 : Int32) (0 : Int32) (17 : Int32)) 37 3 (nI 0)) 37 4 (nI 0)) 37 5 (nI 0)) 35 39 (0 : Int32) (0 : Int32) (17 : Int32) = S1 at hst
      have f1 : ∀ a j, a ≠ 35 → a ≠ 37 → a ≠ 39 → S1.1 a j = S.1 a j := fun a j g1 g2 g3 => by rw [← hS1, sC17, if_neg (by omega), sI_rd, if_neg (by omega), sI_rd, if_neg (by omega), sI_rd, if_neg (by omega), sC17, if_neg (by omega)]
      have f35 : ∀ j, j < 17 → S1.1 35 j = S.1 (81 + x) j := fun j hj => by rw [← hS1, sC17, if_neg (by omega), sI_rd, if_neg (by omega), sI_rd, if_neg (by omega), sI_rd, if_neg (by omega), sC17, if_pos ⟨rfl, hj⟩]
      have f39 : ∀ j, j < 17 → S1.1 39 j = S.1 (81 + x) j := fun j hj => by rw [← hS1, sC17, if_pos ⟨rfl, hj⟩, sI_rd, if_neg (by omega), sI_rd, if_neg (by omega), sI_rd, if_neg (by omega), sC17, if_pos ⟨rfl, hj⟩]
      have f37 : S1.1 37 3 = nI 0 ∧ S1.1 37 4 = nI 0 ∧ S1.1 37 5 = nI 0 := by
        rw [← hS1]
        simp [sC17, sI_rd]
      have hf1 : fX11_back (nI x) S = some (S1.1 35 15, S1) := by
        simp (disch := omega) [fX11_back, kO_37, kO_0, kB_84, kI_35, fX11_back_21, g_t, b_d, b_c, b_v, Bool.and_true, Bool.and_self, Bool.true_and, s_isWithin, wB_02, hB_in', xIx, xIn, p1, hop, hst]
        simp (disch := omega) [g_t, b_d, b_c, b_v, Bool.and_true, Bool.and_self, Bool.true_and, xL, xN1, nI_add, xM, xS, xP, xIx, xIn, xLe, xLt, xEq, xDv]
      obtain ⟨S2, x1, x2, x3, x4, x5⟩ := s_back20 hx 17 0 mK S1 (by omega) (by have := mK_gt; omega)
      have e15 : S2.1 208 15 = S1.1 35 15 := by rw [x2, if_pos (by omega), f1 _ _ (by omega) (by omega) (by omega), f35 _ (by omega)]; exact p4 15 (by omega)
      rw [e15] at x1
      have hf2 : fX12_back (nI x) S1 = some (S1.1 35 15, S2) := by
        have e1 := (f1 231 x (by omega) (by omega) (by omega)).trans p2
        simp (disch := omega) [fX12_back, kO_187, kB_231, fX12_back_16, g_t, b_d, b_c, b_v, Bool.and_true, Bool.and_self, Bool.true_and, isBoxM, hB_in', xIx, xIn, e1]
        simp (disch := omega) [g_t, b_d, b_c, b_v, Bool.and_true, Bool.and_self, Bool.true_and, xL, xN1, nI_add, xM, xS, xP, xIx, xIn, xLe, xLt, xEq, xDv, x1]
      have h35 : ∀ j, j < 17 → S2.1 35 j = S.1 (81 + x) j := fun j hj => by rw [x5 _ _ (by omega) (by omega), f35 j hj]
      have h39 : ∀ j, j < 17 → S2.1 39 j = S.1 (81 + x) j := fun j hj => by rw [x5 _ _ (by omega) (by omega), f39 j hj]
      refine ⟨_, _, _, hf1, hf2, Rel_nn (agr_trans (av_agr (rX11_back hf1) (by cases b <;> decide +kernel)) (av_agr (rX12_back hf2) (by cases b <;> decide +kernel))) h ⟨⟨okRow_eq h35 p3, fun j hj => ?_⟩, 0, 0, 0, by omega, by omega, ?_, ?_, ?_, x3, x4, fun j hj => ?_, fun j hj => ?_, fun j hj => by omega, fun j hj hj2 => by omega⟩⟩
      · rw [x2, if_pos (by omega), f1 _ _ (by omega) (by omega) (by omega), h35 j hj]
        exact p4 j hj
      · rw [x5 _ _ (by omega) (by omega)]
        exact f37.1
      · rw [x5 _ _ (by omega) (by omega)]
        exact f37.2.1
      · rw [x5 _ _ (by omega) (by omega)]
        exact f37.2.2
      · have e : j = 0 := by omega
        subst e
        exact okRow_eq h39 p3
      · exact (h39 j hj).trans (h35 j hj).symm
  · refine ⟨-1, S, S, ?_, ?_, Rel_up h⟩
    · simp (disch := omega) [fX11_back, kO_37, kO_0, kB_84, kI_35, fX11_back_21, g_t, b_d, b_c, b_v, Bool.and_true, Bool.and_self, Bool.true_and, s_isWithin, wB_02, hB_out hv]
    · simp (disch := omega) [fX12_back, kO_187, kB_231, fX12_back_16, g_t, b_d, b_c, b_v, Bool.and_true, Bool.and_self, Bool.true_and, isBoxM, hB_out hv]
