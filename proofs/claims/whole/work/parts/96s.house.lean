/-! PROVINCE: a house, both. -/
section
variable {T : Nat → Nat} {t : Nat}
theorem j_name (ht : t ≤ 1600) (hT : ∀ k, k < t → T k < 256) {u n p : Nat} (hu : kSh u) (hp : p ≤ t) {C L : mT} (htc : tpC T t C) (htm : tpM T t L) (hc : cO T t p C) (hm : mTo T t p L) (h5 : n ≤ 5) (h9 : C.1 u 9 = nI n) (h35 : L.1 187 35 = nI n) (hN : nmJ T t u n C L) :
    (∃ C', fX4_takeName u C = some (Int64.ofNat (n5N T t p), C') ∧ cO T t (txN T t p) C' ∧ fR C C' ∧ tkN T t p = 1 ∧ L.2 187 9 = Int64.ofNat (n8N T t p) ∧ fX12_isName L = some (1, L) ∧ ∃ r, fX12_find L = some (r, L) ∧ r < 0) ∨
    (∃ x C' L' w pl, fX4_takeName u C = some (x, C') ∧ fR C C' ∧ cD w pl C' ∧ mD w pl L' ∧ fQw L L' ∧ (fX12_isName L = some (0, L) ∧ fX12_wrong (2 : Int32) L = some L' ∨ fX12_isName L = some (1, L) ∧ (∃ r, fX12_find L = some (r, L) ∧ ¬ r < 0) ∧ fX12_wrong (3 : Int32) L = some L')) := by
  obtain ⟨s1, s2, s3, s4, s5, s6, s7, s8⟩ := sr_lt hT p
  have g6 := hm.2.1
  have t1 : ¬ (1 : Int32) = 0 := by decide
  obtain ⟨L2, w1, w2, w3, w4⟩ := m_wr hT hm (w := 2) (by omega) (by omega)
  have w1' : fX12_wrong (2 : Int32) L = some L2 := w1
  by_cases k1 : tkN T t p = 1
  · have hc' : cT T t p C := by
      rcases hc with z | z
      · exact z
      · omega
    rw [if_neg (by omega)] at w2
    have kk : C.1 1 4 = (1 : Int32) := by rw [hc'.2.2.1, k1]; rfl
    have mk : nI (srN T t p) = (1 : Int32) := by rw [s5.mpr k1]; rfl
    have e8 : C.2 1 8 = Int64.ofNat (n5N T t p) := hc'.2.2.2.2.2.1 k1
    have e9 : L.2 187 9 = Int64.ofNat (n8N T t p) := hm.2.2.2.2.1 k1
    obtain ⟨r, r1, r2⟩ := c_own ht hT hp htc hc'
    obtain ⟨r', r1', r2'⟩ := m_own hm k1
    rcases r2 with ⟨z1, z2⟩ | ⟨z1, z2⟩
    · have z3 : r' = 1 := by
        rcases r2' with ⟨y, _⟩ | ⟨_, y⟩
        · exact y
        · exact absurd z2 y
      rw [z1] at r1
      rw [z3] at r1'
      obtain ⟨C1, d1, d2, d3⟩ := c_ref0 hc'.1 hc'.2.2.2.1 (f := 2) (by omega) (by omega)
      have d1' : fX4_refuse (2 : Int32) C = some C1 := d1
      refine Or.inr ⟨C.2 1 8, C1, L2, 2, _, ?_, d3, d2, w2, wr_qw w3 w4, Or.inl ⟨?_, w1'⟩⟩
      · simp only [fX4_takeName, fX4_takeName_20, fX4_takeName_41, kO_1, g_t, b_d, b_c, b_v, Bool.and_true, Bool.and_self, Bool.true_and, if_pos kk, r1, if_neg t1, d1', c_advD d2]
      · simp only [fX12_isName, fX12_isName_19, fX12_isName_20, kO_187, g_t, b_d, b_c, b_v, Bool.and_true, Bool.and_self, Bool.true_and, g6, if_pos mk, r1', if_neg t1, fb0]
    · have z3 : r' = 0 := by
        rcases r2' with ⟨_, y⟩ | ⟨y, _⟩
        · exact absurd y z2
        · exact y
      rw [z1] at r1
      rw [z3] at r1'
      have isn : fX12_isName L = some (1, L) := by
        simp only [fX12_isName, fX12_isName_20, kO_187, g_t, b_d, b_c, b_v, Bool.and_true, Bool.and_self, Bool.true_and, g6, if_pos mk, r1', if_true, fb1]
      obtain ⟨q, q1, q2⟩ := c_has hu h5 h9 (Int64.ofNat (n5N T t p)) n 0 mK (by omega) (by have := mK_gt; omega) (fun h hh => by omega)
      have q1' : fX8_hasName u (Int64.ofNat (n5N T t p)) C = some (q, C) := q1
      obtain ⟨y, y1, y2⟩ := m_find h5 h35 n 0 mK (-1 : Int32) (by omega) (by have := mK_gt; omega) (Or.inr ⟨by decide, fun h hh => by omega⟩)
      have y1' : fX12_find L = some (y, L) := y1
      rcases q2 with ⟨x1, h, x2, x3⟩ | ⟨x1, x2⟩
      · rw [x1] at q1'
        have yn : ¬ y < 0 := by
          rcases y2 with ⟨v, _⟩ | ⟨_, v⟩
          · exact v
          · obtain ⟨qq, b1, b2, b3⟩ := hN h x2
            exfalso
            refine v h x2 ?_
            rw [b3, e9]
            exact (n_eq k1 b1).mp (by rw [← b2, x3])
        obtain ⟨L3, v1, v2, v3, v4⟩ := m_wr hT hm (w := 3) (by omega) (by omega)
        have v1' : fX12_wrong (3 : Int32) L = some L3 := v1
        rw [if_neg (by omega)] at v2
        obtain ⟨C1, d1, d2, d3⟩ := c_ref0 hc'.1 hc'.2.2.2.1 (f := 3) (by omega) (by omega)
        have d1' : fX4_refuse (3 : Int32) C = some C1 := d1
        refine Or.inr ⟨Int64.ofNat (n5N T t p), C1, L3, 3, _, ?_, d3, d2, v2, wr_qw v3 v4, Or.inr ⟨isn, ⟨y, y1', yn⟩, v1'⟩⟩
        simp only [fX4_takeName, fX4_takeName_41, kO_1, g_t, b_d, b_c, b_v, Bool.and_true, Bool.and_self, Bool.true_and, if_pos kk, r1, if_true, e8, q1', if_neg t1, d1', c_advD d2]
      · rw [x1] at q1'
        have yn : y < 0 := by
          rcases y2 with ⟨_, h, v1, v2⟩ | ⟨v, _⟩
          · obtain ⟨qq, b1, b2, b3⟩ := hN h v1
            exfalso
            refine x2 h v1 ?_
            rw [b2]
            exact (n_eq k1 b1).mpr (by rw [← b3, v2, e9])
          · exact v
        obtain ⟨C1, b1, b2, b3⟩ := c_next ht hT hp htc hc'
        refine Or.inl ⟨C1, ?_, b2, b3, k1, e9, isn, y, y1', yn⟩
        simp only [fX4_takeName, fX4_takeName_41, kO_1, g_t, b_d, b_c, b_v, Bool.and_true, Bool.and_self, Bool.true_and, if_pos kk, r1, if_true, e8, q1', b1]
  · have mk : ¬ nI (srN T t p) = (1 : Int32) := fun z => k1 (s5.mp ((xEq (b := 1) (by omega) (by omega)).mp z))
    have isn : fX12_isName L = some (0, L) := by
      simp only [fX12_isName, fX12_isName_19, fX12_isName_20, kO_187, g_t, b_d, b_c, b_v, Bool.and_true, Bool.and_self, Bool.true_and, g6, if_neg mk, fb0]
    rcases hc with hc | ⟨k4, hc⟩
    · have kk : ¬ C.1 1 4 = (1 : Int32) := by
        rw [hc.2.2.1]
        exact fun z => k1 ((xEq (b := 1) (by omega) (by omega)).mp z)
      obtain ⟨C1, d1, d2, d3⟩ := c_ref0 hc.1 hc.2.2.2.1 (f := 2) (by omega) (by omega)
      have d1' : fX4_refuse (2 : Int32) C = some C1 := d1
      rw [if_neg hc.2.1] at w2
      refine Or.inr ⟨C.2 1 8, C1, L2, 2, _, ?_, d3, d2, w2, wr_qw w3 w4, Or.inl ⟨isn, w1'⟩⟩
      simp only [fX4_takeName, fX4_takeName_20, fX4_takeName_41, kO_1, g_t, b_d, b_c, b_v, Bool.and_true, Bool.and_self, Bool.true_and, if_neg kk, d1', c_advD d2]
    · have kk : ¬ C.1 1 4 = (1 : Int32) := by
        rw [hc.2.2.2.2]
        decide
      obtain ⟨C1, d1, d2, d3⟩ := c_refD hc (2 : Int32)
      rw [if_pos k4] at w2
      refine Or.inr ⟨C.2 1 8, C1, L2, 1, _, ?_, d3, d2, w2, wr_qw w3 w4, Or.inl ⟨isn, w1'⟩⟩
      simp only [fX4_takeName, fX4_takeName_20, fX4_takeName_41, kO_1, g_t, b_d, b_c, b_v, Bool.and_true, Bool.and_self, Bool.true_and, if_neg kk, d1, c_advD d2]
end
