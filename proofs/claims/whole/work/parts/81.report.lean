/-! REPORT, UNTELL. -/
theorem sI_ne {S : mT} {a k i j : Nat} {v : Int32} (h : ¬ (i = a ∧ j = k)) : (sI S a k v).1 i j = S.1 i j := by rw [sI_rd, if_neg h]
theorem sI_eq {S : mT} {a k : Nat} {v : Int32} : (sI S a k v).1 a k = v := by rw [sI_rd, if_pos ⟨rfl, rfl⟩]
theorem zz_report : zH_report Rel := by
  intro k b S v1 v2 v3 hk h
  obtain ⟨n, hA, hN, hBx, hC, hT, hL⟩ := Rel_iff.mp h
  have hn := hA.1.1
  have n1 := hA.1.2.1
  have n2 := hA.1.2.2.1
  have hp := p32 hn
  have hp1 : 1 ≤ 2 ^ n := Nat.one_le_two_pow
  have sh : shU b = 3 ∨ shU b = 19 := by cases b; exact Or.inl rfl; exact Or.inr rfl
  have ol : (1 : Int32) <<< (nI n &&& 31) - (1 : Int32) = nI (2 ^ n - 1) := by rw [shl1 n (by omega)]; exact xS (a := 2 ^ n) (b := 1) hp1
  have out1 : wB v1 1 (nI (2 ^ n - 1)) = 0 → ∃ r S1 S2, fX11_report b v1 v2 v3 S = some (r, S1) ∧ fX12_report v1 v2 v3 S1 = some (r, S2) ∧ Rel (k + 6) b S2 := fun e => by
    refine ⟨-1, S, S, ?_, ?_, Rel_up h⟩
    · unfold fX11_report
      rw [kO_u, kO_0, n1, ol, s_isWithin, b_c, e, if_pos rfl]
      rfl
    · unfold fX12_report fX12_report_45
      rw [kO_187, n2, ol, s_isIn, b_c, e, if_pos rfl]
      rfl
  have hs : wB v1 1 (nI (2 ^ n - 1)) = 0 ∨ ∃ s, 1 ≤ s ∧ s < 2 ^ n ∧ v1 = nI s := by
    by_cases z : n = 0
    · left
      subst z
      by_cases q : v1 < 1
      · exact wB_lo q
      · refine wB_hi ?_
        have : (1 : Int32) ≤ v1 := Int32.not_lt.mp q
        exact Int32.lt_of_lt_of_le (by decide) this
    · have h2 : 2 ≤ 2 ^ n := by
        have : 2 ^ 1 ≤ 2 ^ n := Nat.pow_le_pow_right (by omega) (by omega)
        omega
      rcases v_cases 1 (2 ^ n - 1) (by omega) (by omega) v1 with c | c | ⟨w, hw1, hw2, rfl⟩
      · exact Or.inl (wB_lo c)
      · exact Or.inl (wB_hi c)
      · exact Or.inr ⟨w, hw1, by omega, rfl⟩
  rcases hs with e | ⟨s, hs1, hs2, rfl⟩
  · exact out1 e
  have e1 : wB (nI s) 1 (nI (2 ^ n - 1)) = 1 := wB_in (lo := 1) (by omega) (by omega) (by omega)
  have out2 : wB v2 0 35 = 0 → ∃ r S1 S2, fX11_report b (nI s) v2 v3 S = some (r, S1) ∧ fX12_report (nI s) v2 v3 S1 = some (r, S2) ∧ Rel (k + 6) b S2 := fun e => by
    refine ⟨-1, S, S, ?_, ?_, Rel_up h⟩
    · unfold fX11_report fX11_report_41
      rw [kO_u, kO_0, n1, ol, s_isWithin, b_c, e1, if_neg (by decide), s_isWithin, b_c, e, if_pos rfl]
      rfl
    · unfold fX12_report fX12_report_45
      rw [kO_187, n2, ol, s_isIn, b_c, e1, if_neg (by decide), s_isIn, b_c, e, if_pos rfl]
      rfl
  rcases v_cases 0 35 (by omega) (by omega) v2 with c | c | ⟨l, _, hl, rfl⟩
  · exact out2 (wB_lo c)
  · exact out2 (wB_hi c)
  have e2 : wB (nI l) 0 35 = 1 := wB_in (lo := 0) (hi := 35) (by omega) (by omega) (by omega)
  have out3 : wB v3 (nI l) 35 = 0 → ∃ r S1 S2, fX11_report b (nI s) (nI l) v3 S = some (r, S1) ∧ fX12_report (nI s) (nI l) v3 S1 = some (r, S2) ∧ Rel (k + 6) b S2 := fun e => by
    refine ⟨-1, S, S, ?_, ?_, Rel_up h⟩
    · unfold fX11_report fX11_report_41
      rw [kO_u, kO_0, n1, ol, s_isWithin, b_c, e1, if_neg (by decide), s_isWithin, b_c, e2, if_neg (by decide), s_isWithin, b_c, e, if_pos rfl]
      rfl
    · unfold fX12_report fX12_report_45
      rw [kO_187, n2, ol, s_isIn, b_c, e1, if_neg (by decide), s_isIn, b_c, e2, if_neg (by decide), s_isIn, b_c, e, if_pos rfl]
      rfl
  rcases v_cases l 35 (by omega) (by omega) v3 with c | c | ⟨g, hg1, hg2, rfl⟩
  · exact out3 (wB_lo c)
  · exact out3 (wB_hi c)
  have e3 : wB (nI g) (nI l) 35 = 1 := wB_in (hi := 35) (by omega) (by omega) (by omega)
  obtain ⟨hR, hTr, hLi⟩ := hC
  obtain ⟨r, hr, q1, q2, q3⟩ := hR
  obtain ⟨t, ht, t1, t2⟩ := hT
  have hs1' : ∀ X, fX11_report b (nI s) (nI l) (nI g) X = bndC (fX5_add (nI s) (nI l) (nI g) (X.1 0 14) X) (fun x8 S7 => some (x8, S7)) ∨ X.1 (shU b) 9 ≠ nI n := fun X => by
    by_cases z : X.1 (shU b) 9 = nI n
    · left
      unfold fX11_report
      rw [kO_u, kO_0, z, ol, s_isWithin, b_c, e1, if_neg (by decide), s_isWithin, b_c, e2, if_neg (by decide), s_isWithin, b_c, e3, if_neg (by decide)]
      rfl
    · exact Or.inr z
  have st1 : fX11_report b (nI s) (nI l) (nI g) S = bndC (fX5_add (nI s) (nI l) (nI g) (S.1 0 14) S) (fun x8 S7 => some (x8, S7)) := by
    rcases hs1' S with z | z
    · exact z
    · exact absurd n1 z
  by_cases hf : r = 30
  · have c : ¬ S.1 114 5 < 30 := by
      rw [q1, hf]
      decide
    have c2 : S.1 187 66 = 30 := by
      rw [q2, hf]
      rfl
    refine ⟨-1, S, S, ?_, ?_, Rel_up h⟩
    · rw [st1]
      unfold fX5_add
      rw [kO_114, if_neg c]
      rfl
    · unfold fX12_report fX12_report_45
      rw [kO_187, n2, ol, s_isIn, b_c, e1, if_neg (by decide), s_isIn, b_c, e2, if_neg (by decide), s_isIn, b_c, e3, if_neg (by decide), if_pos c2]
      rfl
  have c : nI r < (30 : Int32) := (xLt (b := 30) (by omega) (by omega)).mpr (by omega)
  have c2 : ¬ nI r = (30 : Int32) := fun z => hf ((xEq (b := 30) (by omega) (by omega)).mp z)
  have o1 : nI r + (1 : Int32) = nI (r + 1) := nI_add r 1
  have o2 : nI (r + 1) - (1 : Int32) = nI r := xS (a := r + 1) (b := 1) (by omega)
  generalize hSA : sI (sI (sI (sI (sI (sI S 115 r (nI s)) 116 r (nI l)) 117 r (nI g)) 118 r (nI t)) 119 r (-1 : Int32)) 114 5 (nI (r + 1)) = SA
  have hf1 : fX11_report b (nI s) (nI l) (nI g) S = some (nI r, SA) := by
    rw [st1, t1, ← hSA]
    unfold fX5_add
    simp (disch := omega) only [kO_114, kI_115, kI_116, kI_117, kI_118, kI_119, g_t, b_d, b_c, b_v, Bool.and_true, Bool.and_self, Bool.true_and, sI_ne, sI_eq, q1, if_pos c, xIx, xIn, o1, o2]
  have a1 : SA.1 187 66 = nI r := by
    rw [← hSA]
    simp (disch := omega) only [sI_ne]
    exact q2
  have a2 : SA.1 187 67 = nI t := by
    rw [← hSA]
    simp (disch := omega) only [sI_ne]
    exact t2
  have a3 : SA.1 187 37 = nI n := by
    rw [← hSA]
    simp (disch := omega) only [sI_ne]
    exact n2
  generalize hSB : sI (sI (sI (sI (sI (sI SA 224 r (nI s)) 225 r (nI l)) 226 r (nI g)) 227 r (nI t)) 228 r (-1 : Int32)) 187 66 (nI (r + 1)) = SB
  have hf2 : fX12_report (nI s) (nI l) (nI g) SA = some (nI r, SB) := by
    rw [← hSB]
    unfold fX12_report
    rw [kO_187, a3, ol, s_isIn, b_c, e1, if_neg (by decide), s_isIn, b_c, e2, if_neg (by decide), s_isIn, b_c, e3, if_neg (by decide)]
    simp (disch := omega) only [kI_224, kI_225, kI_226, kI_227, kI_228, g_t, b_d, b_c, b_v, Bool.and_true, Bool.and_self, Bool.true_and, sI_ne, sI_eq, a1, a2, if_neg c2, xIx, xIn, o1, o2]
  have oth : ∀ a j, a < 114 ∨ (119 < a ∧ a < 187) → SB.1 a j = S.1 a j := fun a j q => by
    rw [← hSB, ← hSA]
    simp (disch := omega) only [sI_ne]
  refine ⟨_, _, _, hf1, hf2, Rel_nr hA hN hBx ⟨t, ht, t1, t2⟩ hL (agr_trans (av_agr (L := cond b LX11_report_t LX11_report_f) (by cases b; exact rX11_report_f hf1; exact rX11_report_t hf1) (by cases b <;> decide +kernel)) (av_agr (rX12_report hf2) (by cases b <;> decide +kernel))) ⟨⟨r + 1, by omega, ?_, ?_, fun j hj => ?_⟩, ?_, ?_⟩⟩
  · rw [← hSB, ← hSA]
    simp (disch := omega) only [sI_ne, sI_eq]
  · rw [← hSB]
    simp (disch := omega) only [sI_eq]
  · by_cases z : j = r
    · subst z
      refine ⟨s, l, g, t, hs1, hs2, hg1, hg2, ht, ?_, ?_, ?_, ?_, ?_, ?_, ?_, ?_, ?_, Or.inl ?_⟩ <;> (rw [← hSB, ← hSA]; simp (disch := omega) only [sI_ne, sI_eq])
    · obtain ⟨s', l', g', t', w1, w2, w3, w4, w5, w6, w7, w8, w9, w10, w11, w12, w13, w14, w15⟩ := q3 j (by omega)
      have rd : ∀ a, a ≠ 114 → a ≠ 187 → SB.1 a j = S.1 a j := fun a g1 g2 => by
        rw [← hSB, ← hSA]
        simp (disch := omega) only [sI_ne]
      refine ⟨s', l', g', t', w1, w2, w3, w4, w5, ?_, ?_, ?_, ?_, ?_, ?_, ?_, ?_, ?_, ?_⟩
      · rw [rd _ (by omega) (by omega)]; exact w6
      · rw [rd _ (by omega) (by omega)]; exact w7
      · rw [rd _ (by omega) (by omega)]; exact w8
      · rw [rd _ (by omega) (by omega)]; exact w9
      · rw [rd _ (by omega) (by omega)]; exact w10
      · rw [rd _ (by omega) (by omega)]; exact w11
      · rw [rd _ (by omega) (by omega)]; exact w12
      · rw [rd _ (by omega) (by omega)]; exact w13
      · rw [rd _ (by omega) (by omega), rd _ (by omega) (by omega)]; exact w14
      · rw [rd _ (by omega) (by omega)]; exact w15
  all_goals
    have hq : repEq S SB := ⟨by
      have z : SB.1 114 5 = nI (r + 1) := by
        rw [← hSB, ← hSA]
        simp (disch := omega) only [sI_ne, sI_eq]
      rw [z, q1]
      exact (xLe (by omega) (by omega)).mpr (by omega), fun j hj => by
      rw [q1] at hj
      have hj' : j ≠ r := fun z => by
        rw [z] at hj
        exact Int32.lt_irrefl hj
      refine ⟨?_, ?_, ?_⟩ <;> (rw [← hSB, ← hSA]; simp (disch := omega) only [sI_ne])⟩
  · exact rTru_rp hn (fun a h1 h2 => funext fun j => oth a j (by omega)) hq hTr
  · exact rLia_rp (fun a h1 h2 => funext fun j => oth a j (by omega)) hq hLi
theorem zz_untell : zH_untell Rel := by
  intro k b S v hk h
  obtain ⟨n, hA, hN, hBx, hC, hT, hL⟩ := Rel_iff.mp h
  have hn := hA.1.1
  obtain ⟨hR, hTr, hLi⟩ := hC
  obtain ⟨r, hr, q1, q2, q3⟩ := hR
  obtain ⟨t, ht, t1, t2⟩ := hT
  have f0 : mFit .boolean (0 : Int32) = true := by decide
  have f1 : mFit .boolean (1 : Int32) = true := by decide
  rcases h_cases r (by omega) v with ⟨j, hj, rfl⟩ | hv
  · have e1 : wB (nI j) 0 (nI r - 1) = 1 := by rw [wB_h (by omega)]; exact hB_in' hj (by omega)
    obtain ⟨s', l', g', t', w1, w2, w3, w4, w5, w6, w7, w8, w9, w10, w11, w12, w13, w14, w15⟩ := q3 j hj
    have c1 : ¬ nI j < 0 := nI_pos (by omega)
    have c2 : ¬ nI r ≤ nI j := fun z => by have := (xLe (by omega) (by omega)).mp z; omega
    rcases w15 with z | ⟨x, hx, z⟩
    · generalize hSA : sI S 119 j (nI t) = SA
      have hf1 : fX11_untell (nI j) S = some (1, SA) := by
        unfold fX11_untell fX5_takeBack
        rw [← hSA]
        simp (disch := omega) only [kO_0, kO_114, kI_119, g_t, b_d, b_c, b_v, Bool.and_true, Bool.and_self, Bool.true_and, t1, q1, if_neg c1, if_neg c2, xIx, xIn, z, if_true, f1]
      have a1 : SA.1 187 66 = nI r := by rw [← hSA, sI_ne (by omega)]; exact q2
      have a2 : SA.1 187 67 = nI t := by rw [← hSA, sI_ne (by omega)]; exact t2
      have a3 : SA.1 228 j < 0 := by rw [← hSA, sI_ne (by omega), w14, z]; decide
      generalize hSB : sI SA 228 j (nI t) = SB
      have hf2 : fX12_untell (nI j) SA = some (1, SB) := by
        unfold fX12_untell
        rw [kO_187, a1, s_isIn, b_c, e1, if_neg (by decide), ← hSB]
        simp (disch := omega) only [kI_228, g_t, b_d, b_c, b_v, Bool.and_true, Bool.and_self, Bool.true_and, xIx, xIn, if_pos a3, a2]
      refine ⟨_, _, _, hf1, hf2, Rel_nr hA hN hBx ⟨t, ht, t1, t2⟩ hL (agr_trans (av_agr (rX11_untell hf1) (by cases b <;> decide +kernel)) (av_agr (rX12_untell hf2) (by cases b <;> decide +kernel))) ⟨⟨r, hr, by rw [← hSB, ← hSA, sI_ne (by omega), sI_ne (by omega)]; exact q1, by rw [← hSB, ← hSA, sI_ne (by omega), sI_ne (by omega)]; exact q2, fun i hi => ?_⟩, rTru_fr hn (agr_trans (av_agr (rX11_untell hf1) (by cases b <;> decide +kernel)) (av_agr (rX12_untell hf2) (by cases b <;> decide +kernel))) hTr, rLia_fr (agr_trans (av_agr (rX11_untell hf1) (by cases b <;> decide +kernel)) (av_agr (rX12_untell hf2) (by cases b <;> decide +kernel))) hLi⟩⟩
      obtain ⟨s2, l2, g2, t3, x1, x2, x3, x4, x5, x6, x7, x8, x9, x10, x11, x12, x13, x14, x15⟩ := q3 i hi
      have rd : ∀ a, a ≠ 119 → a ≠ 228 → SB.1 a i = S.1 a i := fun a g1 g2 => by rw [← hSB, ← hSA, sI_ne (by omega), sI_ne (by omega)]
      refine ⟨s2, l2, g2, t3, x1, x2, x3, x4, x5, by rw [rd _ (by omega) (by omega)]; exact x6, by rw [rd _ (by omega) (by omega)]; exact x7, by rw [rd _ (by omega) (by omega)]; exact x8, by rw [rd _ (by omega) (by omega)]; exact x9, by rw [rd _ (by omega) (by omega)]; exact x10, by rw [rd _ (by omega) (by omega)]; exact x11, by rw [rd _ (by omega) (by omega)]; exact x12, by rw [rd _ (by omega) (by omega)]; exact x13, ?_, ?_⟩
      · by_cases y : i = j
        · subst y
          rw [← hSB, ← hSA, sI_eq, sI_ne (by omega), sI_eq]
        · rw [← hSB, ← hSA, sI_ne (by omega), sI_ne (by omega), sI_ne (by omega), sI_ne (by omega)]
          exact x14
      · by_cases y : i = j
        · subst y
          exact Or.inr ⟨t, ht, by rw [← hSB, ← hSA, sI_ne (by omega), sI_eq]⟩
        · rw [← hSB, ← hSA, sI_ne (by omega), sI_ne (by omega)]
          exact x15
    · have c3 : ¬ S.1 119 j = -1 := by
        rw [z]
        exact fun y => by
          have hh : (nI x = nM) = False := nM_eq (by omega)
          exact (hh ▸ y : False)
      have c4 : ¬ S.1 228 j < 0 := by
        rw [w14, z]
        exact nI_pos (by omega)
      refine ⟨0, S, S, ?_, ?_, Rel_up h⟩
      · unfold fX11_untell fX5_takeBack fX5_takeBack_22
        simp (disch := omega) only [kO_0, kO_114, kI_119, g_t, b_d, b_c, b_v, Bool.and_true, Bool.and_self, Bool.true_and, q1, if_neg c1, if_neg c2, xIx, xIn, if_neg c3, f0]
      · unfold fX12_untell fX12_untell_23
        rw [kO_187, q2, s_isIn, b_c, e1, if_neg (by decide)]
        simp (disch := omega) only [kI_228, g_t, b_d, b_c, b_v, Bool.and_true, Bool.and_self, Bool.true_and, xIx, xIn, if_neg c4]
  · have e0 : wB v 0 (nI r - 1) = 0 := by rw [wB_h (by omega)]; exact hB_out hv
    refine ⟨0, S, S, ?_, ?_, Rel_up h⟩
    · unfold fX11_untell fX5_takeBack fX5_takeBack_22
      rw [kO_0]
      by_cases c1 : v < 0
      · rw [if_pos c1]
        rfl
      · have c2 : nI r ≤ v := by
          rcases hv with z | z
          · exact absurd z c1
          · exact z
        rw [if_neg c1, kO_114, q1, if_pos c2]
        rfl
    · unfold fX12_untell fX12_untell_23
      rw [kO_187, q2, s_isIn, b_c, e0, if_pos rfl]
      rfl
