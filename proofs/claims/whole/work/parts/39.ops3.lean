/-! The time, the tape's end, the boxes. -/
theorem Rel_time {k : Nat} {b : Bool} {S S' : mT} (a : agr (supA (shU b) ++ (supN ++ (supBox ++ (supR ++ supLie)))) S S') (h : Rel k b S) (l : rTime S') : Rel (k + 6) b S' := by
  obtain ⟨n, h1, h2, h3, h4, h5, h6⟩ := Rel_iff.mp h
  obtain ⟨a1, a⟩ := agr_app.mp a
  obtain ⟨a2, a⟩ := agr_app.mp a
  obtain ⟨a3, a⟩ := agr_app.mp a
  obtain ⟨a4, a6⟩ := agr_app.mp a
  exact Rel_iff.mpr ⟨n, rA_fr a1 h1, rN_fr a2 h2, rBox_fr a3 h3, rC_up (rC_fr a4 h4), l, rLie_fr a6 h6⟩
theorem Rel_box {k : Nat} {b : Bool} {S S' : mT} (a : agr (supA (shU b) ++ (supN ++ (supR ++ (supTime ++ supLie)))) S S') (h : Rel k b S) (l : rBox S') : Rel (k + 6) b S' := by
  obtain ⟨n, h1, h2, h3, h4, h5, h6⟩ := Rel_iff.mp h
  obtain ⟨a1, a⟩ := agr_app.mp a
  obtain ⟨a2, a⟩ := agr_app.mp a
  obtain ⟨a4, a⟩ := agr_app.mp a
  obtain ⟨a5, a6⟩ := agr_app.mp a
  exact Rel_iff.mpr ⟨n, rA_fr a1 h1, rN_fr a2 h2, l, rC_up (rC_fr a4 h4), rTime_fr a5 h5, rLie_fr a6 h6⟩
abbrev supNT (u : Nat) : tL := supSheet u ++ (supFault ++ (supForm u 0 ++ (supForm u 1 ++ (supForm u 2 ++ (supUnits u ++ (supN ++ (supBox ++ (supR ++ (supTime ++ supLie)))))))))
theorem Rel_tape {k : Nat} {b : Bool} {S S' : mT} (a : agr (supNT (shU b)) S S') (h : Rel k b S) (l : rTape S') : Rel (k + 6) b S' := by
  obtain ⟨n, ⟨h1, h2, h3, ⟨f0, f1, f2⟩, h5⟩, g2, g3, g4, g5, g6⟩ := Rel_iff.mp h
  obtain ⟨a1, a⟩ := agr_app.mp a
  obtain ⟨a3, a⟩ := agr_app.mp a
  obtain ⟨a4, a⟩ := agr_app.mp a
  obtain ⟨a5, a⟩ := agr_app.mp a
  obtain ⟨a6, a⟩ := agr_app.mp a
  obtain ⟨a7, a⟩ := agr_app.mp a
  obtain ⟨b2, a⟩ := agr_app.mp a
  obtain ⟨b3, a⟩ := agr_app.mp a
  obtain ⟨b4, a⟩ := agr_app.mp a
  obtain ⟨b5, b6⟩ := agr_app.mp a
  exact Rel_iff.mpr ⟨n, ⟨rSheet_fr a1 h1, l, rFault_fr a3 h3, ⟨rForm_fr a4 f0, rForm_fr a5 f1, rForm_fr a6 f2⟩, rUnits_fr a7 h5⟩, rN_fr b2 g2, rBox_fr b3 g3, rC_up (rC_fr b4 g4), rTime_fr b5 g5, rLie_fr b6 g6⟩
theorem zz_later : zH_later Rel := by
  intro k b S v hk h
  obtain ⟨n, hA, hN, hBx, hC, ⟨t, ht, t1, t2⟩, hL⟩ := Rel_iff.mp h
  rcases v_cases 0 1000 (by omega) (by omega) v with c | c | ⟨q, _, hq, rfl⟩
  · have hw : wB v 0 1000 = 0 := wB_lo c
    refine ⟨-1, S, S, ?_, ?_, Rel_up h⟩
    · simp [fX11_later, kO_0, fX11_later_22, g_t, b_d, b_c, b_v, Bool.and_true, Bool.and_self, Bool.true_and, s_isWithin, hw]
    · have c' : v < 0 := c
      simp [fX12_later, kO_187, fX12_later_23, g_t, b_d, b_c, b_v, Bool.and_true, Bool.and_self, Bool.true_and, c']
  · have hw : wB v 0 1000 = 0 := wB_hi c
    refine ⟨-1, S, S, ?_, ?_, Rel_up h⟩
    · simp [fX11_later, kO_0, fX11_later_22, g_t, b_d, b_c, b_v, Bool.and_true, Bool.and_self, Bool.true_and, s_isWithin, hw]
    · have c' : 1000 < v := c
      simp [fX12_later, kO_187, fX12_later_23, g_t, b_d, b_c, b_v, Bool.and_true, Bool.and_self, Bool.true_and, c']
  · have hw : wB (nI q) 0 1000 = 1 := wB_in (lo := 0) (hi := 1000) (by omega) hq (by omega)
    by_cases c : t + q ≤ 100000
    · have hf1 : fX11_later (nI q) S = some (nI (t + q), sI S 0 14 (nI (t + q))) := by
        simp (disch := omega) [fX11_later, kO_0, fX11_later_22, g_t, b_d, b_c, b_v, Bool.and_true, Bool.and_self, Bool.true_and, s_isWithin, hw]
        simp (disch := omega) [g_t, b_d, b_c, b_v, Bool.and_true, Bool.and_self, Bool.true_and, xL, xN1, nI_add, xM, xS, xP, xIx, xIn, xLe, xLt, xEq, xDv, t1, c, sI_rd]
      have hf2 : fX12_later (nI q) (sI S 0 14 (nI (t + q))) = some (nI (t + q), sI (sI S 0 14 (nI (t + q))) 187 67 (nI (t + q))) := by
        simp (disch := omega) [fX12_later, kO_187, fX12_later_23, g_t, b_d, b_c, b_v, Bool.and_true, Bool.and_self, Bool.true_and, xL, xN1, nI_add, xM, xS, xP, xIx, xIn, xLe, xLt, xEq, xDv, t2, c, hq, sI_rd]
      refine ⟨_, _, _, hf1, hf2, Rel_time (agr_trans (av_agr (rX11_later hf1) (by cases b <;> decide +kernel)) (av_agr (rX12_later hf2) (by cases b <;> decide +kernel))) h ⟨t + q, c, ?_, ?_⟩⟩
      · simp [sI_rd]
      · simp [sI_rd]
    · refine ⟨-1, S, S, ?_, ?_, Rel_up h⟩
      · simp (disch := omega) [fX11_later, kO_0, fX11_later_22, g_t, b_d, b_c, b_v, Bool.and_true, Bool.and_self, Bool.true_and, s_isWithin, hw]
        simp (disch := omega) [g_t, b_d, b_c, b_v, Bool.and_true, Bool.and_self, Bool.true_and, xL, xN1, nI_add, xM, xS, xP, xIx, xIn, xLe, xLt, xEq, xDv, t1, c]
      · simp (disch := omega) [fX12_later, kO_187, fX12_later_23, g_t, b_d, b_c, b_v, Bool.and_true, Bool.and_self, Bool.true_and, xL, xN1, nI_add, xM, xS, xP, xIx, xIn, xLe, xLt, xEq, xDv, t2, c, hq]
theorem zz_end : zH_end Rel := by
  intro k b S v hk h
  obtain ⟨n, hA, hN, hBx, hC, hT, hL⟩ := Rel_iff.mp h
  obtain ⟨t, ht, t1, t2, t3⟩ := hA.2.1
  rcases v_cases 0 t (by omega) (by omega) v with c | c | ⟨q, _, hq, rfl⟩
  · have c' : v < 0 := c
    refine ⟨-1, S, S, ?_, ?_, Rel_up h⟩
    · simp [fX11_end, kO_1, kO_0, fX11_end_15, g_t, b_d, b_c, b_v, Bool.and_true, Bool.and_self, Bool.true_and, c']
    · simp [fX12_end, kO_187, fX12_end_12, g_t, b_d, b_c, b_v, Bool.and_true, Bool.and_self, Bool.true_and, c']
  · have c1 : ¬ v < 0 := fun q => absurd (Int32.lt_trans q (Int32.lt_of_le_of_lt (show (0 : Int32) ≤ nI t from (xLe (a := 0) (by omega) (by omega)).mpr (by omega)) c)) (Int32.lt_irrefl _)
    have c2 : ¬ v ≤ nI t := Int32.not_le.mpr c
    refine ⟨-1, S, S, ?_, ?_, Rel_up h⟩
    · simp [fX11_end, kO_1, kO_0, fX11_end_15, g_t, b_d, b_c, b_v, Bool.and_true, Bool.and_self, Bool.true_and, c1, c2, t1]
    · simp [fX12_end, kO_187, fX12_end_12, g_t, b_d, b_c, b_v, Bool.and_true, Bool.and_self, Bool.true_and, c1, c2, t2]
  · have hf1 : fX11_end (nI q) S = some (nI q, sI S 1 1 (nI q)) := by
      simp (disch := omega) [fX11_end, kO_1, kO_0, fX11_end_15, g_t, b_d, b_c, b_v, Bool.and_true, Bool.and_self, Bool.true_and, xL, xN1, nI_add, xM, xS, xP, xIx, xIn, xLe, xLt, xEq, xDv, t1, hq]
    have hf2 : fX12_end (nI q) (sI S 1 1 (nI q)) = some (nI q, sI (sI S 1 1 (nI q)) 187 1 (nI q)) := by
      simp (disch := omega) [fX12_end, kO_187, fX12_end_12, g_t, b_d, b_c, b_v, Bool.and_true, Bool.and_self, Bool.true_and, xL, xN1, nI_add, xM, xS, xP, xIx, xIn, xLe, xLt, xEq, xDv, t2, hq, sI_rd]
    refine ⟨_, _, _, hf1, hf2, Rel_tape (agr_trans (av_agr (rX11_end hf1) (by cases b <;> decide +kernel)) (av_agr (rX12_end hf2) (by cases b <;> decide +kernel))) h ⟨q, by omega, ?_, ?_, fun j hj => ?_⟩⟩
    · simp [sI_rd]
    · simp [sI_rd]
    · obtain ⟨c, hc, c1, c2⟩ := t3 j (by omega)
      exact ⟨c, hc, by simp [sI_rd, c1], by simp [sI_rd, c2]⟩
