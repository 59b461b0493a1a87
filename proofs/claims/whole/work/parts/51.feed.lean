/-! FEED. -/
theorem byte_of (w : Int32) : ∃ c, c < 256 ∧ w &&& 255 = nI c ∧ vp_nar .byte (w.toInt8.toInt32) = byI c := by
  have hb := w.toBitVec.isLt
  have e0 : w.toInt = if 2 * w.toBitVec.toNat < 2 ^ 32 then (w.toBitVec.toNat : Int) else (w.toBitVec.toNat : Int) - 2 ^ 32 := by
    rw [← Int32.toInt_toBitVec, BitVec.toInt_eq_toNat_cond]
    rfl
  refine ⟨w.toBitVec.toNat % 256, Nat.mod_lt _ (by omega), ?_, ?_⟩
  · apply Int32.toBitVec.inj
    apply BitVec.eq_of_toNat_eq
    show (w.toBitVec &&& 255#32).toNat = (BitVec.ofNat 32 (w.toBitVec.toNat % 256)).toNat
    rw [BitVec.toNat_and, BitVec.toNat_ofNat, BitVec.toNat_ofNat]
    have := Nat.and_two_pow_sub_one_eq_mod w.toBitVec.toNat 8
    rw [show 255 % 2 ^ 32 = 2 ^ 8 - 1 by decide, this]
    omega
  · show (w.toInt8.toInt32).toInt8.toInt32 = _
    apply Int32.toInt_inj.mp
    rw [Int8.toInt_toInt32, Int32.toInt_toInt8, Int8.toInt_toInt32, Int32.toInt_toInt8, Int.bmod_bmod, Int.bmod_def, e0]
    unfold byI
    by_cases c : w.toBitVec.toNat % 256 < 128
    · rw [if_pos c, nI_toInt (by omega)]
      split <;> split <;> omega
    · rw [if_neg c]
      have e1 : nI (w.toBitVec.toNat % 256) - nI 256 = -(nI (256 - w.toBitVec.toNat % 256)) := by
        have : nI 256 = nI (w.toBitVec.toNat % 256) + nI (256 - w.toBitVec.toNat % 256) := by
          rw [nI_add]
          exact congrArg nI (by omega)
        rw [this]
        generalize nI (w.toBitVec.toNat % 256) = p
        generalize nI (256 - w.toBitVec.toNat % 256) = q
        grind
      rw [e1, Int32.toInt_neg, nI_toInt (by omega), Int.bmod_def]
      split <;> split <;> split <;> omega
def shB (i : Nat) : Int32 := if i = 0 then 24 else if i = 1 then 16 else if i = 2 then 8 else 0
def cBy (v : Int32) (i : Nat) : Int32 := vp_nar .byte ((v >>> (shB i &&& 31)).toInt8.toInt32)
def mBy (v : Int32) (i : Nat) : Int32 := (v >>> (shB i &&& 31)) &&& 255
theorem app1 {S : mT} {t k : Nat} {v sh : Int32} (hs : ¬ sh < 0) (ht : t < 1600) (e : S.1 1 1 = nI t) : fX4_append_3 (k + 1) v sh S = fX4_append_3 k v (sh + (-8)) (sI (sI S 2 t (vp_nar .byte ((v >>> (sh &&& 31)).toInt8.toInt32))) 1 1 (nI (t + 1))) := by
  have q : ¬ nI 1600 ≤ nI t := fun z => by have := (xLe (by omega) (by omega)).mp z; omega
  have o1 : nI t + (1 : Int32) = nI (t + 1) := nI_add t 1
  have o16 : (1600 : Int32) = nI 1600 := rfl
  have s2 : ∀ v, (sI S 2 t v).1 1 1 = nI t := fun v => by rw [sI_rd, if_neg (by omega)]; exact e
  conv => lhs; unfold fX4_append_3
  simp (disch := omega) only [if_neg hs, kO_1, kB_2, kN_2, g_t, b_d, b_c, b_v, Bool.and_true, Bool.and_self, Bool.true_and, o16, e, if_neg q, xIx, xIn, s2, o1]
theorem four1 {S : mT} {t k : Nat} {v sh : Int32} (hs : ¬ sh < 0) (ht : t < 1600) (e : S.1 187 1 = nI t) : fX12_four_3 (k + 1) v sh S = fX12_four_3 k v (sh + (-8)) (sI (sI S 188 t ((v >>> (sh &&& 31)) &&& 255)) 187 1 (nI (t + 1))) := by
  have o1 : nI t + (1 : Int32) = nI (t + 1) := nI_add t 1
  have s2 : ∀ v, (sI S 188 t v).1 187 1 = nI t := fun v => by rw [sI_rd, if_neg (by omega)]; exact e
  conv => lhs; unfold fX12_four_3
  simp (disch := omega) only [if_neg hs, kO_187, kI_188, g_t, b_d, b_c, b_v, Bool.and_true, Bool.and_self, Bool.true_and, e, xIx, xIn, s2, o1]
theorem s_app {S : mT} {t : Nat} (ht : t ≤ 1596) (e : S.1 1 1 = nI t) (v : Int32) : ∃ S', fX4_append v S = some S' ∧ S'.1 1 1 = nI (t + 4) ∧ (∀ i, i < 4 → S'.1 2 (t + i) = cBy v i) ∧ (∀ j, j < t → S'.1 2 j = S.1 2 j) ∧ ∀ a j, a ≠ 2 → ¬ (a = 1 ∧ j = 1) → S'.1 a j = S.1 a j := by
  obtain ⟨K, hK⟩ : ∃ K, mK = K + 5 := ⟨999995, rfl⟩
  refine ⟨sI (sI (sI (sI (sI (sI (sI (sI S 2 t (cBy v 0)) 1 1 (nI (t + 1))) 2 (t + 1) (cBy v 1)) 1 1 (nI (t + 2))) 2 (t + 2) (cBy v 2)) 1 1 (nI (t + 3))) 2 (t + 3) (cBy v 3)) 1 1 (nI (t + 4)), ?_, by simp [sI_rd], fun i hi => ?_, fun j hj => ?_, fun a j g1 g2 => ?_⟩
  · unfold fX4_append
    rw [hK, app1 (t := t) (by decide) (by omega) e, app1 (t := t + 1) (by decide) (by omega) (by rw [sI_rd, if_pos ⟨rfl, rfl⟩]), app1 (t := t + 2) (by decide) (by omega) (by rw [sI_rd, if_pos ⟨rfl, rfl⟩]), app1 (t := t + 3) (by decide) (by omega) (by rw [sI_rd, if_pos ⟨rfl, rfl⟩])]
    conv => lhs; unfold fX4_append_3
    rw [if_pos (by decide)]
    rfl
  · rcases (by omega : i = 0 ∨ i = 1 ∨ i = 2 ∨ i = 3) with rfl | rfl | rfl | rfl
    · simp [sI_rd]
    · simp [sI_rd]
    · simp [sI_rd]
    · simp [sI_rd]
  · simp only [sI_rd]
    rw [if_neg (by omega), if_neg (by omega), if_neg (by omega), if_neg (by omega), if_neg (by omega), if_neg (by omega), if_neg (by omega), if_neg (by omega)]
  · rw [sI_rd, if_neg g2, sI_rd, if_neg (by omega), sI_rd, if_neg g2, sI_rd, if_neg (by omega), sI_rd, if_neg g2, sI_rd, if_neg (by omega), sI_rd, if_neg g2, sI_rd, if_neg (by omega)]
theorem s_four {S : mT} {t : Nat} (ht : t ≤ 1596) (e : S.1 187 1 = nI t) (v : Int32) : ∃ S', fX12_four v S = some S' ∧ S'.1 187 1 = nI (t + 4) ∧ (∀ i, i < 4 → S'.1 188 (t + i) = mBy v i) ∧ (∀ j, j < t → S'.1 188 j = S.1 188 j) ∧ ∀ a j, a ≠ 188 → ¬ (a = 187 ∧ j = 1) → S'.1 a j = S.1 a j := by
  obtain ⟨K, hK⟩ : ∃ K, mK = K + 5 := ⟨999995, rfl⟩
  refine ⟨sI (sI (sI (sI (sI (sI (sI (sI S 188 t (mBy v 0)) 187 1 (nI (t + 1))) 188 (t + 1) (mBy v 1)) 187 1 (nI (t + 2))) 188 (t + 2) (mBy v 2)) 187 1 (nI (t + 3))) 188 (t + 3) (mBy v 3)) 187 1 (nI (t + 4)), ?_, by simp [sI_rd], fun i hi => ?_, fun j hj => ?_, fun a j g1 g2 => ?_⟩
  · unfold fX12_four
    rw [hK, four1 (t := t) (by decide) (by omega) e, four1 (t := t + 1) (by decide) (by omega) (by rw [sI_rd, if_pos ⟨rfl, rfl⟩]), four1 (t := t + 2) (by decide) (by omega) (by rw [sI_rd, if_pos ⟨rfl, rfl⟩]), four1 (t := t + 3) (by decide) (by omega) (by rw [sI_rd, if_pos ⟨rfl, rfl⟩])]
    conv => lhs; unfold fX12_four_3
    rw [if_pos (by decide)]
    rfl
  · rcases (by omega : i = 0 ∨ i = 1 ∨ i = 2 ∨ i = 3) with rfl | rfl | rfl | rfl
    · simp [sI_rd]
    · simp [sI_rd]
    · simp [sI_rd]
    · simp [sI_rd]
  · simp only [sI_rd]
    rw [if_neg (by omega), if_neg (by omega), if_neg (by omega), if_neg (by omega), if_neg (by omega), if_neg (by omega), if_neg (by omega), if_neg (by omega)]
  · rw [sI_rd, if_neg g2, sI_rd, if_neg (by omega), sI_rd, if_neg g2, sI_rd, if_neg (by omega), sI_rd, if_neg g2, sI_rd, if_neg (by omega), sI_rd, if_neg g2, sI_rd, if_neg (by omega)]
theorem zz_feed : zH_feed Rel := by
  intro k b S v1 v2 v3 v4 v5 hk h
  obtain ⟨n, hA, hN, hBx, hC, hT, hL⟩ := Rel_iff.mp h
  obtain ⟨t, ht, t1, t2, t3⟩ := hA.2.1
  by_cases c : t ≤ 1580
  · obtain ⟨S1, x1, y1, z1, u1, w1⟩ := s_app (S := S) (t := t) (by omega) t1 v1
    obtain ⟨S2, x2, y2, z2, u2, w2⟩ := s_app (S := S1) (t := t + 4) (by omega) y1 v2
    obtain ⟨S3, x3, y3, z3, u3, w3⟩ := s_app (S := S2) (t := t + 4 + 4) (by omega) y2 v3
    obtain ⟨S4, x4, y4, z4, u4, w4⟩ := s_app (S := S3) (t := t + 4 + 4 + 4) (by omega) y3 v4
    obtain ⟨S5, x5, y5, z5, u5, w5⟩ := s_app (S := S4) (t := t + 4 + 4 + 4 + 4) (by omega) y4 v5
    have hf1 : fX11_feed v1 v2 v3 v4 v5 S = some (nI (t + 4 + 4 + 4 + 4 + 4), S5) := by
      have q : nI t ≤ (1580 : Int32) := (xLe (b := 1580) (by omega) (by omega)).mpr c
      simp only [fX11_feed, kO_1, kO_0, g_t, b_d, b_c, b_v, Bool.and_true, Bool.and_self, Bool.true_and, t1, if_pos q, x1, x2, x3, x4, x5, y5]
    have f15 : ∀ a j, a ≠ 2 → ¬ (a = 1 ∧ j = 1) → S5.1 a j = S.1 a j := fun a j g1 g2 => by rw [w5 a j g1 g2, w4 a j g1 g2, w3 a j g1 g2, w2 a j g1 g2, w1 a j g1 g2]
    obtain ⟨T1, p1, q1, r1, s1, o1⟩ := s_four (S := S5) (t := t) (by omega) (by rw [f15 _ _ (by omega) (by omega)]; exact t2) v1
    obtain ⟨T2, p2, q2, r2, s2, o2⟩ := s_four (S := T1) (t := t + 4) (by omega) q1 v2
    obtain ⟨T3, p3, q3, r3, s3, o3⟩ := s_four (S := T2) (t := t + 4 + 4) (by omega) q2 v3
    obtain ⟨T4, p4, q4, r4, s4, o4⟩ := s_four (S := T3) (t := t + 4 + 4 + 4) (by omega) q3 v4
    obtain ⟨T5, p5, q5, r5, s5, o5⟩ := s_four (S := T4) (t := t + 4 + 4 + 4 + 4) (by omega) q4 v5
    have hf2 : fX12_feed v1 v2 v3 v4 v5 S5 = some (nI (t + 4 + 4 + 4 + 4 + 4), T5) := by
      have q : nI t + 20 ≤ (1600 : Int32) := by
        rw [show (20 : Int32) = nI 20 from rfl, nI_add]
        exact (xLe (b := 1600) (by omega) (by omega)).mpr (by omega)
      have e := f15 187 1 (by omega) (by omega)
      simp only [fX12_feed, kO_187, g_t, b_d, b_c, b_v, Bool.and_true, Bool.and_self, Bool.true_and, e, t2, if_pos q, p1, p2, p3, p4, p5, q5]
    have f25 : ∀ a j, a ≠ 188 → ¬ (a = 187 ∧ j = 1) → T5.1 a j = S5.1 a j := fun a j g1 g2 => by rw [o5 a j g1 g2, o4 a j g1 g2, o3 a j g1 g2, o2 a j g1 g2, o1 a j g1 g2]
    refine ⟨_, _, _, hf1, hf2, Rel_tape (agr_trans (av_agr (rX11_feed hf1) (by cases b <;> decide +kernel)) (av_agr (rX12_feed hf2) (by cases b <;> decide +kernel))) h ⟨t + 4 + 4 + 4 + 4 + 4, by omega, ?_, q5, fun j hj => ?_⟩⟩
    · rw [f25 _ _ (by omega) (by omega)]
      exact y5
    · have fin : ∀ (v : Int32) (i : Nat), T5.1 188 j = mBy v i → S5.1 2 j = cBy v i → ∃ c, c < 256 ∧ T5.1 188 j = nI c ∧ T5.1 2 j = byI c := fun v i g1 g2 => by
        obtain ⟨c, hc, c1, c2⟩ := byte_of (v >>> (shB i &&& 31))
        exact ⟨c, hc, g1.trans c1, by rw [f25 _ _ (by omega) (by omega), g2]; exact c2⟩
      rcases (by omega : j < t ∨ (t ≤ j ∧ j < t + 4) ∨ (t + 4 ≤ j ∧ j < t + 4 + 4) ∨ (t + 4 + 4 ≤ j ∧ j < t + 4 + 4 + 4) ∨ (t + 4 + 4 + 4 ≤ j ∧ j < t + 4 + 4 + 4 + 4) ∨ (t + 4 + 4 + 4 + 4 ≤ j ∧ j < t + 4 + 4 + 4 + 4 + 4)) with g | g | g | g | g | g
      · obtain ⟨c, hc, c1, c2⟩ := t3 j g
        refine ⟨c, hc, ?_, ?_⟩
        · rw [s5 _ (by omega), s4 _ (by omega), s3 _ (by omega), s2 _ (by omega), s1 _ (by omega), f15 _ _ (by omega) (by omega)]
          exact c1
        · rw [f25 _ _ (by omega) (by omega), u5 _ (by omega), u4 _ (by omega), u3 _ (by omega), u2 _ (by omega), u1 _ (by omega)]
          exact c2
      · obtain ⟨i, rfl⟩ : ∃ i, j = t + i := ⟨j - t, by omega⟩
        refine fin v1 i ?_ ?_
        · rw [s5 _ (by omega), s4 _ (by omega), s3 _ (by omega), s2 _ (by omega), r1 i (by omega)]
        · rw [u5 _ (by omega), u4 _ (by omega), u3 _ (by omega), u2 _ (by omega), z1 i (by omega)]
      · obtain ⟨i, rfl⟩ : ∃ i, j = t + 4 + i := ⟨j - (t + 4), by omega⟩
        refine fin v2 i ?_ ?_
        · rw [s5 _ (by omega), s4 _ (by omega), s3 _ (by omega), r2 i (by omega)]
        · rw [u5 _ (by omega), u4 _ (by omega), u3 _ (by omega), z2 i (by omega)]
      · obtain ⟨i, rfl⟩ : ∃ i, j = t + 4 + 4 + i := ⟨j - (t + 4 + 4), by omega⟩
        refine fin v3 i ?_ ?_
        · rw [s5 _ (by omega), s4 _ (by omega), r3 i (by omega)]
        · rw [u5 _ (by omega), u4 _ (by omega), z3 i (by omega)]
      · obtain ⟨i, rfl⟩ : ∃ i, j = t + 4 + 4 + 4 + i := ⟨j - (t + 4 + 4 + 4), by omega⟩
        refine fin v4 i ?_ ?_
        · rw [s5 _ (by omega), r4 i (by omega)]
        · rw [u5 _ (by omega), z4 i (by omega)]
      · obtain ⟨i, rfl⟩ : ∃ i, j = t + 4 + 4 + 4 + 4 + i := ⟨j - (t + 4 + 4 + 4 + 4), by omega⟩
        exact fin v5 i (r5 i (by omega)) (z5 i (by omega))
  · refine ⟨-1, S, S, ?_, ?_, Rel_up h⟩
    · have q : ¬ nI t ≤ (1580 : Int32) := fun z => c ((xLe (b := 1580) (by omega) (by omega)).mp z)
      simp only [fX11_feed, kO_1, kO_0, g_t, b_d, b_c, b_v, Bool.and_true, Bool.and_self, Bool.true_and, t1, if_neg q]
    · have q : ¬ nI t + 20 ≤ (1600 : Int32) := fun z => by
        rw [show (20 : Int32) = nI 20 from rfl, nI_add] at z
        have := (xLe (b := 1600) (by omega) (by omega)).mp z
        omega
      simp only [fX12_feed, kO_187, g_t, b_d, b_c, b_v, Bool.and_true, Bool.and_self, Bool.true_and, t2, if_neg q]
