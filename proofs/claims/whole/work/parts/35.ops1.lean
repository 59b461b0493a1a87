/-! The simple calls. -/
theorem zz_lies : zH_lies Rel := by
  intro k b S v hk h
  obtain ⟨n, h1, h2, h3, h4, h5, h6⟩ := Rel_iff.mp h
  obtain ⟨c, hc, c1, c2, c3⟩ := h6
  rcases h_cases c (by omega) v with ⟨i, hi, rfl⟩ | hv
  · refine ⟨S.1 186 i, S, S, ?_, ?_, Rel_up h⟩
    · simp (disch := omega) [fX11_lies, kO_0, kI_186, fX11_lies_21, fX11_lies_22, g_t, b_d, b_c, b_v, Bool.and_true, Bool.and_self, Bool.true_and, xL, xN1, nI_add, xM, xS, xP, xIx, xIn, xLe, xLt, xEq, xDv, c1]
      omega
    · rw [c3 i hi]
      simp (disch := omega) [fX12_lies, kO_187, kI_215, fX12_lies_24, g_t, b_d, b_c, b_v, Bool.and_true, Bool.and_self, Bool.true_and, s_isIn, c2, wB_h, hB_in', hi]
      simp (disch := omega) [g_t, b_d, b_c, b_v, Bool.and_true, Bool.and_self, Bool.true_and, xL, xN1, nI_add, xM, xS, xP, xIx, xIn, xLe, xLt, xEq, xDv]
  · refine ⟨-1, S, S, ?_, ?_, Rel_up h⟩
    · rcases hv with hv | hv
      · simp [fX11_lies, kO_0, kI_186, fX11_lies_21, fX11_lies_22, g_t, b_d, b_c, b_v, Bool.and_true, Bool.and_self, Bool.true_and, c1, hv]
      · simp [fX11_lies, kO_0, kI_186, fX11_lies_21, fX11_lies_22, g_t, b_d, b_c, b_v, Bool.and_true, Bool.and_self, Bool.true_and, c1, hv]
    · simp (disch := omega) [fX12_lies, kO_187, kI_215, fX12_lies_24, g_t, b_d, b_c, b_v, Bool.and_true, Bool.and_self, Bool.true_and, s_isIn, c2, wB_h, hB_out hv]
theorem zz_about : zH_about Rel := by
  intro k b S v hk h
  obtain ⟨n, ⟨⟨hn, n1, n2, _⟩, ⟨tp, htp, t1, t2, _⟩, _, _, ⟨a, b1, c1, ha, hb, hc, u1, u2, u3, u4⟩⟩, ⟨⟨⟨_, y, s, hy, hs, y1, s1⟩, w⟩, ⟨o, bh, ah, _, _, _, q4, q5, q6, q7, _⟩⟩, h3, ⟨⟨r, hr, r1, r2, _⟩, _⟩, ⟨t, ht, m1, m2⟩, ⟨c, hc', l1, l2, _⟩⟩ := Rel_iff.mp h
  have w15 := w 15 (by omega)
  have w16 := w 16 (by omega)
  by_cases e0 : v = 0
  · subst e0
    refine ⟨nI n, S, S, ?_, ?_, Rel_up h⟩
    · simp (disch := omega) [fX11_about, kO_0, kO_37, kO_114, kO_1, kI_35, kO_u, fX8_unitsOfLaws, kO_u6, kO_u9, kO_u12, g_t, b_d, b_c, b_v, Bool.and_true, Bool.and_self, Bool.true_and, xL, xN1, nI_add, xM, xS, xP, xIx, xIn, xLe, xLt, xEq, xDv, n1, y1, s1, q4, q5, r1, m1, t1, u1, u2, u3, l1]
    · simp (disch := omega) [fX12_about, kO_187, kI_208, g_t, b_d, b_c, b_v, Bool.and_true, Bool.and_self, Bool.true_and, xL, xN1, nI_add, xM, xS, xP, xIx, xIn, xLe, xLt, xEq, xDv, n2, w15, w16, y1, s1, q6, q7, r2, m2, t2, u4, l2]
  by_cases e1 : v = 1
  · subst e1
    refine ⟨nI y, S, S, ?_, ?_, Rel_up h⟩
    · simp (disch := omega) [fX11_about, kO_0, kO_37, kO_114, kO_1, kI_35, kO_u, fX8_unitsOfLaws, kO_u6, kO_u9, kO_u12, g_t, b_d, b_c, b_v, Bool.and_true, Bool.and_self, Bool.true_and, xL, xN1, nI_add, xM, xS, xP, xIx, xIn, xLe, xLt, xEq, xDv, n1, y1, s1, q4, q5, r1, m1, t1, u1, u2, u3, l1]
    · simp (disch := omega) [fX12_about, kO_187, kI_208, g_t, b_d, b_c, b_v, Bool.and_true, Bool.and_self, Bool.true_and, xL, xN1, nI_add, xM, xS, xP, xIx, xIn, xLe, xLt, xEq, xDv, n2, w15, w16, y1, s1, q6, q7, r2, m2, t2, u4, l2]
  by_cases e2 : v = 2
  · subst e2
    refine ⟨nI s, S, S, ?_, ?_, Rel_up h⟩
    · simp (disch := omega) [fX11_about, kO_0, kO_37, kO_114, kO_1, kI_35, kO_u, fX8_unitsOfLaws, kO_u6, kO_u9, kO_u12, g_t, b_d, b_c, b_v, Bool.and_true, Bool.and_self, Bool.true_and, xL, xN1, nI_add, xM, xS, xP, xIx, xIn, xLe, xLt, xEq, xDv, n1, y1, s1, q4, q5, r1, m1, t1, u1, u2, u3, l1]
    · simp (disch := omega) [fX12_about, kO_187, kI_208, g_t, b_d, b_c, b_v, Bool.and_true, Bool.and_self, Bool.true_and, xL, xN1, nI_add, xM, xS, xP, xIx, xIn, xLe, xLt, xEq, xDv, n2, w15, w16, y1, s1, q6, q7, r2, m2, t2, u4, l2]
  by_cases e3 : v = 3
  · subst e3
    refine ⟨nI bh, S, S, ?_, ?_, Rel_up h⟩
    · simp (disch := omega) [fX11_about, kO_0, kO_37, kO_114, kO_1, kI_35, kO_u, fX8_unitsOfLaws, kO_u6, kO_u9, kO_u12, g_t, b_d, b_c, b_v, Bool.and_true, Bool.and_self, Bool.true_and, xL, xN1, nI_add, xM, xS, xP, xIx, xIn, xLe, xLt, xEq, xDv, n1, y1, s1, q4, q5, r1, m1, t1, u1, u2, u3, l1]
    · simp (disch := omega) [fX12_about, kO_187, kI_208, g_t, b_d, b_c, b_v, Bool.and_true, Bool.and_self, Bool.true_and, xL, xN1, nI_add, xM, xS, xP, xIx, xIn, xLe, xLt, xEq, xDv, n2, w15, w16, y1, s1, q6, q7, r2, m2, t2, u4, l2]
  by_cases e4 : v = 4
  · subst e4
    refine ⟨nI ah, S, S, ?_, ?_, Rel_up h⟩
    · simp (disch := omega) [fX11_about, kO_0, kO_37, kO_114, kO_1, kI_35, kO_u, fX8_unitsOfLaws, kO_u6, kO_u9, kO_u12, g_t, b_d, b_c, b_v, Bool.and_true, Bool.and_self, Bool.true_and, xL, xN1, nI_add, xM, xS, xP, xIx, xIn, xLe, xLt, xEq, xDv, n1, y1, s1, q4, q5, r1, m1, t1, u1, u2, u3, l1]
    · simp (disch := omega) [fX12_about, kO_187, kI_208, g_t, b_d, b_c, b_v, Bool.and_true, Bool.and_self, Bool.true_and, xL, xN1, nI_add, xM, xS, xP, xIx, xIn, xLe, xLt, xEq, xDv, n2, w15, w16, y1, s1, q6, q7, r2, m2, t2, u4, l2]
  by_cases e5 : v = 5
  · subst e5
    refine ⟨nI r, S, S, ?_, ?_, Rel_up h⟩
    · simp (disch := omega) [fX11_about, kO_0, kO_37, kO_114, kO_1, kI_35, kO_u, fX8_unitsOfLaws, kO_u6, kO_u9, kO_u12, g_t, b_d, b_c, b_v, Bool.and_true, Bool.and_self, Bool.true_and, xL, xN1, nI_add, xM, xS, xP, xIx, xIn, xLe, xLt, xEq, xDv, n1, y1, s1, q4, q5, r1, m1, t1, u1, u2, u3, l1]
    · simp (disch := omega) [fX12_about, kO_187, kI_208, g_t, b_d, b_c, b_v, Bool.and_true, Bool.and_self, Bool.true_and, xL, xN1, nI_add, xM, xS, xP, xIx, xIn, xLe, xLt, xEq, xDv, n2, w15, w16, y1, s1, q6, q7, r2, m2, t2, u4, l2]
  by_cases e6 : v = 6
  · subst e6
    refine ⟨nI t, S, S, ?_, ?_, Rel_up h⟩
    · simp (disch := omega) [fX11_about, kO_0, kO_37, kO_114, kO_1, kI_35, kO_u, fX8_unitsOfLaws, kO_u6, kO_u9, kO_u12, g_t, b_d, b_c, b_v, Bool.and_true, Bool.and_self, Bool.true_and, xL, xN1, nI_add, xM, xS, xP, xIx, xIn, xLe, xLt, xEq, xDv, n1, y1, s1, q4, q5, r1, m1, t1, u1, u2, u3, l1]
    · simp (disch := omega) [fX12_about, kO_187, kI_208, g_t, b_d, b_c, b_v, Bool.and_true, Bool.and_self, Bool.true_and, xL, xN1, nI_add, xM, xS, xP, xIx, xIn, xLe, xLt, xEq, xDv, n2, w15, w16, y1, s1, q6, q7, r2, m2, t2, u4, l2]
  by_cases e7 : v = 7
  · subst e7
    refine ⟨nI tp, S, S, ?_, ?_, Rel_up h⟩
    · simp (disch := omega) [fX11_about, kO_0, kO_37, kO_114, kO_1, kI_35, kO_u, fX8_unitsOfLaws, kO_u6, kO_u9, kO_u12, g_t, b_d, b_c, b_v, Bool.and_true, Bool.and_self, Bool.true_and, xL, xN1, nI_add, xM, xS, xP, xIx, xIn, xLe, xLt, xEq, xDv, n1, y1, s1, q4, q5, r1, m1, t1, u1, u2, u3, l1]
    · simp (disch := omega) [fX12_about, kO_187, kI_208, g_t, b_d, b_c, b_v, Bool.and_true, Bool.and_self, Bool.true_and, xL, xN1, nI_add, xM, xS, xP, xIx, xIn, xLe, xLt, xEq, xDv, n2, w15, w16, y1, s1, q6, q7, r2, m2, t2, u4, l2]
  by_cases e8 : v = 8
  · subst e8
    refine ⟨nI (a + b1 + c1), S, S, ?_, ?_, Rel_up h⟩
    · simp (disch := omega) [fX11_about, kO_0, kO_37, kO_114, kO_1, kI_35, kO_u, fX8_unitsOfLaws, kO_u6, kO_u9, kO_u12, g_t, b_d, b_c, b_v, Bool.and_true, Bool.and_self, Bool.true_and, xL, xN1, nI_add, xM, xS, xP, xIx, xIn, xLe, xLt, xEq, xDv, n1, y1, s1, q4, q5, r1, m1, t1, u1, u2, u3, l1]
    · simp (disch := omega) [fX12_about, kO_187, kI_208, g_t, b_d, b_c, b_v, Bool.and_true, Bool.and_self, Bool.true_and, xL, xN1, nI_add, xM, xS, xP, xIx, xIn, xLe, xLt, xEq, xDv, n2, w15, w16, y1, s1, q6, q7, r2, m2, t2, u4, l2]
  by_cases e9 : v = 9
  · subst e9
    refine ⟨nI c, S, S, ?_, ?_, Rel_up h⟩
    · simp (disch := omega) [fX11_about, kO_0, kO_37, kO_114, kO_1, kI_35, kO_u, fX8_unitsOfLaws, kO_u6, kO_u9, kO_u12, g_t, b_d, b_c, b_v, Bool.and_true, Bool.and_self, Bool.true_and, xL, xN1, nI_add, xM, xS, xP, xIx, xIn, xLe, xLt, xEq, xDv, n1, y1, s1, q4, q5, r1, m1, t1, u1, u2, u3, l1]
    · simp (disch := omega) [fX12_about, kO_187, kI_208, g_t, b_d, b_c, b_v, Bool.and_true, Bool.and_self, Bool.true_and, xL, xN1, nI_add, xM, xS, xP, xIx, xIn, xLe, xLt, xEq, xDv, n2, w15, w16, y1, s1, q6, q7, r2, m2, t2, u4, l2]
  refine ⟨-1, S, S, ?_, ?_, Rel_up h⟩
  · simp only [fX11_about, kO_0, kO_37, kO_114, kO_1, kI_35, kO_u, if_neg, not_false_eq_true, e0, e1, e2, e3, e4, e5, e6, e7, e8, e9]
  · simp only [fX12_about, kO_187, kI_208, if_neg, not_false_eq_true, e0, e1, e2, e3, e4, e5, e6, e7, e8, e9]
theorem zz_fault : zH_fault Rel := by
  intro k b S v hk h
  obtain ⟨n, ⟨_, _, ⟨f, hf, f1, f2, f3⟩, _⟩, _⟩ := Rel_iff.mp h
  have ev : ∀ m : Nat, m < 2 → (((m : Int) = v.toInt) ↔ v = nI m) := by
    intro m hm
    constructor
    · intro e
      apply Int32.toInt_inj.mp
      rw [nI_toInt (by omega)]
      exact e.symm
    · intro e
      rw [e, nI_toInt (by omega)]
  have e0 : ((0 : Int) = v.toInt) ↔ v = nI 0 := ev 0 (by omega)
  have e1 : ((1 : Int) = v.toInt) ↔ v = nI 1 := ev 1 (by omega)
  by_cases c0 : v = nI 0
  · refine ⟨nI f, S, S, ?_, ?_, Rel_up h⟩
    · have t0 := e0.mpr c0
      simp only [fX11_fault, kO_1, kO_0, fX11_fault_57, g_t, b_d, b_c, b_v, Bool.and_true, Bool.and_self, Bool.true_and, if_pos t0, f1]
    · simp (disch := omega) [fX12_fault, kO_187, fX12_fault_24, g_t, b_d, b_c, b_v, Bool.and_true, Bool.and_self, Bool.true_and, xL, c0, f2]
  by_cases c1 : v = nI 1
  · refine ⟨if f = 0 then -1 else S.1 1 3, S, S, ?_, ?_, Rel_up h⟩
    · have t0 : ¬ (0 : Int) = v.toInt := fun q => c0 (e0.mp q)
      have t1 := e1.mpr c1
      have t2 : (nI f = 0) ↔ f = 0 := xEq (b := 0) (by omega) (by omega)
      by_cases c2 : f = 0
      · simp only [fX11_fault, kO_1, kO_0, fX11_fault_57, g_t, b_d, b_c, b_v, Bool.and_true, Bool.and_self, Bool.true_and, if_neg t0, if_pos t1, f1, if_pos (t2.mpr c2), if_pos c2]
      · simp only [fX11_fault, kO_1, kO_0, fX11_fault_57, g_t, b_d, b_c, b_v, Bool.and_true, Bool.and_self, Bool.true_and, if_neg t0, if_pos t1, f1, if_neg (fun q => c2 (t2.mp q)), if_neg c2]
    · rw [← f3]
      simp (disch := omega) [fX12_fault, kO_187, fX12_fault_24, g_t, b_d, b_c, b_v, Bool.and_true, Bool.and_self, Bool.true_and, xL, xN1, nI_add, xM, xS, xP, xIx, xIn, xLe, xLt, xEq, xDv, c1]
  · refine ⟨-1, S, S, ?_, ?_, Rel_up h⟩
    · simp only [fX11_fault, kO_1, kO_0, fX11_fault_57, e0, e1, if_neg c0, if_neg c1]
    · have c0' : ¬ v = 0 := c0
      have c1' : ¬ v = 1 := c1
      simp only [fX12_fault, kO_187, fX12_fault_24, if_neg c0', if_neg c1']
