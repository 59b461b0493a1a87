/-! summer -/
theorem act_fin2 {S T : mT} (hN : rN S) (hT : ∀ a j, (a = 37 ∨ 39 ≤ a ∧ a ≤ 79 ∨ a = 208 ∨ a = 212 ∨ a = 187 ∧ (j = 46 ∨ j = 47)) → T.1 a j = S.1 a j) (ok : okRow (T.1 35)) : ∃ S3 S4, fX2_keep 35 T = some S3 ∧ fX12_act S3 = some S4 ∧ (∀ a j, a ≠ 37 → (a < 39 ∨ 79 < a) → S3.1 a j = T.1 a j) ∧ (∀ a j, a ≠ 37 → (a < 39 ∨ 79 < a) → a ≠ 212 → ¬ (a = 187 ∧ (j = 46 ∨ j = 47)) → S4.1 a j = T.1 a j) ∧ ∀ S5 : mT, (∀ a j, (a = 35 ∨ a = 37 ∨ 39 ≤ a ∧ a ≤ 79 ∨ a = 212 ∨ a = 187 ∧ (j = 46 ∨ j = 47)) → S5.1 a j = S4.1 a j) → (∀ k, k < 17 → S5.1 208 k = T.1 35 k) → rN S5 := by
  obtain ⟨hNow, ⟨o, bh, ah, ho, hba, q3, q4, q5, q6, q7, q8, q9, q10, q11⟩⟩ := hN
  obtain ⟨S3, k1, k2, k3, k4, k5, k6⟩ := s_keepC (S := T) (o := o) (bh := bh) ho (by omega) (by rw [hT _ _ (by omega)]; exact q3) (by rw [hT _ _ (by omega)]; exact q4)
  obtain ⟨S4, a1, a2, a3, a4, a5⟩ := s_act (S := S3) (a := bh) (by omega) (by rw [k2 _ _ (by omega) (by omega), hT _ _ (by omega)]; exact q6)
  refine ⟨S3, S4, k1, a1, k2, fun a j g1 g2 g3 g4 => by rw [a4 a j g3 g4, k2 a j g1 g2], fun S5 hf h208 => ?_⟩
  have e35 : ∀ j, S5.1 35 j = T.1 35 j := fun j => by rw [hf _ _ (by omega), a4 _ _ (by omega) (by omega), k2 _ _ (by omega) (by omega)]
  have e37 : ∀ j, S5.1 37 j = S3.1 37 j := fun j => by rw [hf _ _ (by omega), a4 _ _ (by omega) (by omega)]
  refine rN_act (S := S) hNow ho hba q8 q9 q10 (okRow_eq (fun k _ => e35 k) ok) (by rw [e37]; exact k3) (by rw [e37]; exact k4) (by rw [e37]; exact k5) (fun m hm k => ?_) (fun k hk => by rw [e35]; exact h208 k hk) (by rw [hf _ _ (by omega)]; exact a2) (by rw [hf _ _ (by omega)]; exact a3) (fun j k hj hk => ?_)
  · rw [hf _ _ (by omega), a4 _ _ (by omega) (by omega), k6 m hm k, e35, hT (39 + m) k (by omega)]
  · rw [hf _ _ (by omega), a5 j k hj hk]
    have h8 : ∀ i, S3.1 208 i = S.1 208 i := fun i => (k2 208 i (by omega) (by omega)).trans (hT 208 i (by omega))
    have h12 : ∀ i, S3.1 212 i = S.1 212 i := fun i => (k2 212 i (by omega) (by omega)).trans (hT 212 i (by omega))
    simp only [h8, h12]
theorem zz_summer : zH_summer Rel := by
  intro k b S hk h
  obtain ⟨n, hA, hN, hBx, hC, hT, hL⟩ := Rel_iff.mp h
  have hn := hA.1.1
  have n1 := hA.1.2.1
  have n2 := hA.1.2.2.1
  have w := hN.1.2
  have hu := shU_lt b
  have sh : shU b = 3 ∨ shU b = 19 := by cases b; exact Or.inl rfl; exact Or.inr rfl
  obtain ⟨qH, y, s, hy, hs, ey, es⟩ := hN.1.1
  have ey2 := (w 15 (by omega)).trans ey
  have i999 : (999 : Int32) = nI 999 := rfl
  by_cases c : y = 999
  · refine ⟨-1, S, S, ?_, ?_, Rel_up h⟩
    · simp (disch := omega) [fX11_summer, kO_0, kI_35, g_t, b_d, b_c, b_v, Bool.and_true, Bool.and_self, Bool.true_and, xL, xN1, nI_add, xM, xS, xP, xIx, xIn, xLe, xLt, xEq, xDv, ey, c]
    · simp (disch := omega) [fX12_summer, kO_187, kI_208, g_t, b_d, b_c, b_v, Bool.and_true, Bool.and_self, Bool.true_and, xL, xN1, nI_add, xM, xS, xP, xIx, xIn, xLe, xLt, xEq, xDv, ey2, c]
  · have ok : okR 998 (S.1 35) := ⟨qH, y, s, by omega, hs, ey, es⟩
    obtain ⟨C, c1, c2, c3⟩ := c_summer (S := S) (C := S) (Or.inl rfl) hn ok (cSt_of hA) (fun j _ => rfl)
    have okC : okRow (C.1 35) := okR_eq c3 (smr_ok hn ok)
    obtain ⟨S3, S4, k1, a1, k2, a2, fin⟩ := act_fin2 (S := S) (T := C) hN (fun a j g => c2 a j (by omega) (by omega) (by omega) (by omega)) okC
    have n3 : S3.1 (shU b) 9 = nI n := by rw [k2 _ _ (by omega) (by omega), c2 _ _ (by omega) (by omega) (by omega) (by omega)]; exact n1
    have e35 : sm (fun j => S3.1 35 (10 + j)) n = sm (fun j => smr S (shU b) n (S.1 35) (10 + j)) n := sm_congr fun i hi => by rw [k2 _ _ (by omega) (by omega)]; exact c3 _ (by omega)
    have hf1 : fX11_summer b S = some (sm (fun j => smr S (shU b) n (S.1 35) (10 + j)) n, S3) := by
      have cc : nI y < nI 999 := (xLt (by omega) (by omega)).mpr (by omega)
      rw [← e35]
      simp (disch := omega) only [fX11_summer, kO_0, kI_35, g_t, b_d, b_c, b_v, Bool.and_true, Bool.and_self, Bool.true_and, i15, j15, ey, i999, if_pos cc, c1, k1, s_bowlC hn n3 kI_35]
    have fS : ∀ a j, (a = 208 ∨ a = 206 ∨ a = 207 ∨ a = 193 ∨ a = 194 ∨ a = 195 ∨ a = 199 ∨ a = shU b + 7 ∨ a = shU b + 10 ∨ a = shU b + 13 ∨ a = shU b + 6 ∨ a = shU b + 9 ∨ a = shU b + 12 ∨ a = 187 ∧ j = 37) → S4.1 a j = S.1 a j := fun a j g => by rw [a2 a j (by omega) (by omega) (by omega) (by omega), c2 a j (by omega) (by omega) (by omega) (by omega)]
    obtain ⟨L, l1, l2, l3, l4, l5⟩ := s_load S4
    have fL : ∀ a j, (a = 206 ∨ a = 207 ∨ a = 193 ∨ a = 194 ∨ a = 195 ∨ a = 199 ∨ a = shU b + 7 ∨ a = shU b + 10 ∨ a = shU b + 13 ∨ a = shU b + 6 ∨ a = shU b + 9 ∨ a = shU b + 12 ∨ a = 187 ∧ j = 37) → L.1 a j = S.1 a j := fun a j g => by rw [l5 a j (by omega) (by omega) (by omega) (by omega), fS a j (by omega)]
    have e8 : ∀ j, j < 17 → S4.1 208 j = S.1 35 j := fun j hj => by rw [fS _ _ (by omega)]; exact w j hj
    have hM : mLs (shU b) n S L := ⟨rLaws_fr (fun a j g => fL a j (by omega)) hA.2.2.2.1, lawEq_of fun a j g => fL a j (by omega), fun j hj => by
      obtain ⟨p, q, r, _, _, _, d1, d2, d3, d4, d5, d6⟩ := hA.1.2.2.2 j hj
      rw [fL 206 j (by omega), fL 207 j (by omega), d3, d4, d5, d6]
      exact ⟨rfl, rfl⟩, by rw [fL _ _ (by omega)]; exact n2⟩
    have hR : rM (S.1 35) L := ⟨fun j hj => by rw [(l2 j hj).1, (l2 j hj).2.1, (l2 j hj).2.2, e8 _ (by omega), e8 _ (by omega), e8 _ (by omega)]; exact ⟨rfl, rfl, rfl⟩, by rw [l3]; exact e8 15 (by omega), by rw [l4]; exact e8 16 (by omega)⟩
    obtain ⟨L2, m1, m2, m3⟩ := m_summer hu hn ok hM hR
    obtain ⟨L3, p1, p2, p3, p4, p5⟩ := s_keepM L2
    have n4 : L3.1 187 37 = nI n := by rw [p5 _ _ (by omega)]; exact (mLs_fr hu m2 hM).2.2.2
    have e11 : sm (fun j => L3.1 211 j) n = sm (fun j => smr S (shU b) n (S.1 35) (10 + j)) n := sm_congr fun i hi => by rw [p5 _ _ (by omega)]; exact (m3.1 i (by omega)).2.2
    have hf2 : fX12_summer S3 = some (sm (fun j => smr S (shU b) n (S.1 35) (10 + j)) n, L3) := by
      have e3 : S3.1 208 15 = nI y := by rw [k2 _ _ (by omega) (by omega), c2 _ _ (by omega) (by omega) (by omega) (by omega)]; exact ey2
      have cc : ¬ nI y = nI 999 := fun q => c ((xEq (by omega) (by omega)).mp q)
      have b15 : mIn (15 : Int32) 18 = true := rfl
      rw [← e11]
      simp (disch := omega) only [fX12_summer, kO_187, kI_208, g_t, b_d, b_c, b_v, Bool.and_true, Bool.and_self, Bool.true_and, b15, j15, e3, i999, if_neg cc, a1, l1, m1, p1, s_bowlM hn n4]
    refine ⟨_, _, _, hf1, hf2, Rel_nn (agr_trans (av_agr (L := cond b LX11_summer_t LX11_summer_f) (by cases b; exact rX11_summer_f hf1; exact rX11_summer_t hf1) (by cases b <;> decide +kernel)) (av_agr (rX12_summer hf2) (by cases b <;> decide +kernel))) h (fin _ (fun a j g => ?_) (fun j hj => ?_))⟩
    · rw [p5 a j (by omega), m2 a j (by omega) (by omega) (by omega) (by omega) (by omega) (by omega), l5 a j (by omega) (by omega) (by omega) (by omega)]
    · rw [c3 j hj]
      rcases j17 hj with q | ⟨q, hq, rfl⟩ | ⟨q, hq, rfl⟩ | rfl | rfl
      · rw [(p2 j q).1]
        exact (m3.1 j q).1
      · rw [(p2 q hq).2.1]
        exact (m3.1 q hq).2.1
      · rw [(p2 q hq).2.2]
        exact (m3.1 q hq).2.2
      · rw [p3]
        exact m3.2.1
      · rw [p4]
        exact m3.2.2
