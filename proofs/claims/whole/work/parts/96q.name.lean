/-! PROVINCE: names. -/
def ownP (w : Nat) : Prop := w = cwN 0 ∨ w = cwN 1 ∨ w = cwN 2 ∨ w = cwN 3 ∨ w = cwN 4 ∨ w = cwN 5 ∨ w = cwN 6 ∨ w = cwN 7 ∨ w = cwN 8 ∨ w = cwN 9 ∨ w = cwN 10 ∨ w = cwN 11 ∨ w = cwN 12 ∨ w = cwN 13 ∨ w = cwN 14
def kSh (u : Nat) : Prop := kO u 8 = true ∧ (∀ x, kJ (u + 1) x = mIn x 5) ∧ (∀ x, kI (u + 2) x = mIn x 5) ∧ (∀ x, kI (u + 3) x = mIn x 5) ∧ (∀ x, kI (u + 4) x = mIn x 5) ∧ (∀ x, kI (u + 5) x = mIn x 5) ∧ (u = 3 ∨ u = 19)
theorem kSh_3 : kSh 3 := ⟨kO_3, kJ_4, kI_5, kI_6, kI_7, kI_8, Or.inl rfl⟩
theorem kSh_19 : kSh 19 := ⟨kO_19, kJ_20, kI_21, kI_22, kI_23, kI_24, Or.inr rfl⟩
theorem kSh_b (b : Bool) : kSh (shU b) := by cases b; exact kSh_3; exact kSh_19
section
variable {T : Nat → Nat} {t : Nat}
theorem c_own (ht : t ≤ 1600) (hT : ∀ k, k < t → T k < 256) {p : Nat} (hp : p ≤ t) {C : mT} (h : tpC T t C) (hc : cT T t p C) : ∃ r, fX4_standsForItself C = some (r, C) ∧ ((r = 1 ∧ ownP (wkN T t p)) ∨ (r = 0 ∧ ¬ ownP (wkN T t p))) := by
  have t1 : ¬ (1 : Int32) = 0 := by decide
  have a := fun j (hj : j < 15) => c_isW ht hT hp h hc hj
  have a0 : fX4_isWord 900000 C = _ := a 0 (by omega)
  have a1 : fX4_isWord 900001 C = _ := a 1 (by omega)
  have a2 : fX4_isWord 900002 C = _ := a 2 (by omega)
  have a3 : fX4_isWord 900003 C = _ := a 3 (by omega)
  have a4 : fX4_isWord 900004 C = _ := a 4 (by omega)
  have a5 : fX4_isWord 900005 C = _ := a 5 (by omega)
  have a6 : fX4_isWord 900006 C = _ := a 6 (by omega)
  have a7 : fX4_isWord 900007 C = _ := a 7 (by omega)
  have a8 : fX4_isWord 900008 C = _ := a 8 (by omega)
  have a9 : fX4_isWord 900009 C = _ := a 9 (by omega)
  have a10 : fX4_isWord 900010 C = _ := a 10 (by omega)
  have a11 : fX4_isWord 900011 C = _ := a 11 (by omega)
  have a12 : fX4_isWord 900012 C = _ := a 12 (by omega)
  have a13 : fX4_isWord 900013 C = _ := a 13 (by omega)
  have a14 : fX4_isWord 900014 C = _ := a 14 (by omega)
  by_cases d0 : wkN T t p = cwN 0
  · rw [if_pos d0] at a0
    refine ⟨1, ?_, Or.inl ⟨rfl, Or.inl d0⟩⟩
    simp only [fX4_standsForItself, fX4_standsForItself_135, fX4_standsForItself_140, a0, g_t, b_d, b_c, b_v, Bool.and_true, Bool.and_self, Bool.true_and, if_true, if_neg t1, fb1]
  rw [if_neg d0] at a0
  by_cases d1 : wkN T t p = cwN 1
  · rw [if_pos d1] at a1
    refine ⟨1, ?_, Or.inl ⟨rfl, Or.inr (Or.inl d1)⟩⟩
    simp only [fX4_standsForItself, fX4_standsForItself_135, fX4_standsForItself_140, a0, a1, g_t, b_d, b_c, b_v, Bool.and_true, Bool.and_self, Bool.true_and, if_true, if_neg t1, fb1]
  rw [if_neg d1] at a1
  by_cases d2 : wkN T t p = cwN 2
  · rw [if_pos d2] at a2
    refine ⟨1, ?_, Or.inl ⟨rfl, Or.inr (Or.inr (Or.inl d2))⟩⟩
    simp only [fX4_standsForItself, fX4_standsForItself_135, fX4_standsForItself_140, a0, a1, a2, g_t, b_d, b_c, b_v, Bool.and_true, Bool.and_self, Bool.true_and, if_true, if_neg t1, fb1]
  rw [if_neg d2] at a2
  by_cases d3 : wkN T t p = cwN 3
  · rw [if_pos d3] at a3
    refine ⟨1, ?_, Or.inl ⟨rfl, Or.inr (Or.inr (Or.inr (Or.inl d3)))⟩⟩
    simp only [fX4_standsForItself, fX4_standsForItself_135, fX4_standsForItself_140, a0, a1, a2, a3, g_t, b_d, b_c, b_v, Bool.and_true, Bool.and_self, Bool.true_and, if_true, if_neg t1, fb1]
  rw [if_neg d3] at a3
  by_cases d4 : wkN T t p = cwN 4
  · rw [if_pos d4] at a4
    refine ⟨1, ?_, Or.inl ⟨rfl, Or.inr (Or.inr (Or.inr (Or.inr (Or.inl d4))))⟩⟩
    simp only [fX4_standsForItself, fX4_standsForItself_135, fX4_standsForItself_140, a0, a1, a2, a3, a4, g_t, b_d, b_c, b_v, Bool.and_true, Bool.and_self, Bool.true_and, if_true, if_neg t1, fb1]
  rw [if_neg d4] at a4
  by_cases d5 : wkN T t p = cwN 5
  · rw [if_pos d5] at a5
    refine ⟨1, ?_, Or.inl ⟨rfl, Or.inr (Or.inr (Or.inr (Or.inr (Or.inr (Or.inl d5)))))⟩⟩
    simp only [fX4_standsForItself, fX4_standsForItself_135, fX4_standsForItself_140, a0, a1, a2, a3, a4, a5, g_t, b_d, b_c, b_v, Bool.and_true, Bool.and_self, Bool.true_and, if_true, if_neg t1, fb1]
  rw [if_neg d5] at a5
  by_cases d6 : wkN T t p = cwN 6
  · rw [if_pos d6] at a6
    refine ⟨1, ?_, Or.inl ⟨rfl, Or.inr (Or.inr (Or.inr (Or.inr (Or.inr (Or.inr (Or.inl d6))))))⟩⟩
    simp only [fX4_standsForItself, fX4_standsForItself_135, fX4_standsForItself_140, a0, a1, a2, a3, a4, a5, a6, g_t, b_d, b_c, b_v, Bool.and_true, Bool.and_self, Bool.true_and, if_true, if_neg t1, fb1]
  rw [if_neg d6] at a6
  by_cases d7 : wkN T t p = cwN 7
  · rw [if_pos d7] at a7
    refine ⟨1, ?_, Or.inl ⟨rfl, Or.inr (Or.inr (Or.inr (Or.inr (Or.inr (Or.inr (Or.inr (Or.inl d7)))))))⟩⟩
    simp only [fX4_standsForItself, fX4_standsForItself_135, fX4_standsForItself_140, a0, a1, a2, a3, a4, a5, a6, a7, g_t, b_d, b_c, b_v, Bool.and_true, Bool.and_self, Bool.true_and, if_true, if_neg t1, fb1]
  rw [if_neg d7] at a7
  by_cases d8 : wkN T t p = cwN 8
  · rw [if_pos d8] at a8
    refine ⟨1, ?_, Or.inl ⟨rfl, Or.inr (Or.inr (Or.inr (Or.inr (Or.inr (Or.inr (Or.inr (Or.inr (Or.inl d8))))))))⟩⟩
    simp only [fX4_standsForItself, fX4_standsForItself_135, fX4_standsForItself_140, a0, a1, a2, a3, a4, a5, a6, a7, a8, g_t, b_d, b_c, b_v, Bool.and_true, Bool.and_self, Bool.true_and, if_true, if_neg t1, fb1]
  rw [if_neg d8] at a8
  by_cases d9 : wkN T t p = cwN 9
  · rw [if_pos d9] at a9
    refine ⟨1, ?_, Or.inl ⟨rfl, Or.inr (Or.inr (Or.inr (Or.inr (Or.inr (Or.inr (Or.inr (Or.inr (Or.inr (Or.inl d9)))))))))⟩⟩
    simp only [fX4_standsForItself, fX4_standsForItself_135, fX4_standsForItself_140, a0, a1, a2, a3, a4, a5, a6, a7, a8, a9, g_t, b_d, b_c, b_v, Bool.and_true, Bool.and_self, Bool.true_and, if_true, if_neg t1, fb1]
  rw [if_neg d9] at a9
  by_cases d10 : wkN T t p = cwN 10
  · rw [if_pos d10] at a10
    refine ⟨1, ?_, Or.inl ⟨rfl, Or.inr (Or.inr (Or.inr (Or.inr (Or.inr (Or.inr (Or.inr (Or.inr (Or.inr (Or.inr (Or.inl d10))))))))))⟩⟩
    simp only [fX4_standsForItself, fX4_standsForItself_135, fX4_standsForItself_140, a0, a1, a2, a3, a4, a5, a6, a7, a8, a9, a10, g_t, b_d, b_c, b_v, Bool.and_true, Bool.and_self, Bool.true_and, if_true, if_neg t1, fb1]
  rw [if_neg d10] at a10
  by_cases d11 : wkN T t p = cwN 11
  · rw [if_pos d11] at a11
    refine ⟨1, ?_, Or.inl ⟨rfl, Or.inr (Or.inr (Or.inr (Or.inr (Or.inr (Or.inr (Or.inr (Or.inr (Or.inr (Or.inr (Or.inr (Or.inl d11)))))))))))⟩⟩
    simp only [fX4_standsForItself, fX4_standsForItself_135, fX4_standsForItself_140, a0, a1, a2, a3, a4, a5, a6, a7, a8, a9, a10, a11, g_t, b_d, b_c, b_v, Bool.and_true, Bool.and_self, Bool.true_and, if_true, if_neg t1, fb1]
  rw [if_neg d11] at a11
  by_cases d12 : wkN T t p = cwN 12
  · rw [if_pos d12] at a12
    refine ⟨1, ?_, Or.inl ⟨rfl, Or.inr (Or.inr (Or.inr (Or.inr (Or.inr (Or.inr (Or.inr (Or.inr (Or.inr (Or.inr (Or.inr (Or.inr (Or.inl d12))))))))))))⟩⟩
    simp only [fX4_standsForItself, fX4_standsForItself_135, fX4_standsForItself_140, a0, a1, a2, a3, a4, a5, a6, a7, a8, a9, a10, a11, a12, g_t, b_d, b_c, b_v, Bool.and_true, Bool.and_self, Bool.true_and, if_true, if_neg t1, fb1]
  rw [if_neg d12] at a12
  by_cases d13 : wkN T t p = cwN 13
  · rw [if_pos d13] at a13
    refine ⟨1, ?_, Or.inl ⟨rfl, Or.inr (Or.inr (Or.inr (Or.inr (Or.inr (Or.inr (Or.inr (Or.inr (Or.inr (Or.inr (Or.inr (Or.inr (Or.inr (Or.inl d13)))))))))))))⟩⟩
    simp only [fX4_standsForItself, fX4_standsForItself_135, fX4_standsForItself_140, a0, a1, a2, a3, a4, a5, a6, a7, a8, a9, a10, a11, a12, a13, g_t, b_d, b_c, b_v, Bool.and_true, Bool.and_self, Bool.true_and, if_true, if_neg t1, fb1]
  rw [if_neg d13] at a13
  by_cases d14 : wkN T t p = cwN 14
  · rw [if_pos d14] at a14
    refine ⟨1, ?_, Or.inl ⟨rfl, Or.inr (Or.inr (Or.inr (Or.inr (Or.inr (Or.inr (Or.inr (Or.inr (Or.inr (Or.inr (Or.inr (Or.inr (Or.inr (Or.inr (d14))))))))))))))⟩⟩
    simp only [fX4_standsForItself, fX4_standsForItself_135, fX4_standsForItself_140, a0, a1, a2, a3, a4, a5, a6, a7, a8, a9, a10, a11, a12, a13, a14, g_t, b_d, b_c, b_v, Bool.and_true, Bool.and_self, Bool.true_and, if_true, if_neg t1, fb1]
  rw [if_neg d14] at a14
  refine ⟨0, ?_, Or.inr ⟨rfl, fun z => ?_⟩⟩
  · simp only [fX4_standsForItself, fX4_standsForItself_140, a0, a1, a2, a3, a4, a5, a6, a7, a8, a9, a10, a11, a12, a13, a14, g_t, b_d, b_c, b_v, Bool.and_true, Bool.and_self, Bool.true_and, if_true, fb0]
  · rcases z with z | z | z | z | z | z | z | z | z | z | z | z | z | z | z
    · exact d0 z
    · exact d1 z
    · exact d2 z
    · exact d3 z
    · exact d4 z
    · exact d5 z
    · exact d6 z
    · exact d7 z
    · exact d8 z
    · exact d9 z
    · exact d10 z
    · exact d11 z
    · exact d12 z
    · exact d13 z
    · exact d14 z
theorem m_own {p : Nat} {L : mT} (hm : mTo T t p L) (h1 : tkN T t p = 1) : ∃ r, fX12_isOwn L = some (r, L) ∧ ((r = 1 ∧ ownP (wkN T t p)) ∨ (r = 0 ∧ ¬ ownP (wkN T t p))) := by
  have e9 := hm.2.2.2.2.1 h1
  have ew : wkN T t p = w8N T (tbN T t p) (txN T t p - tbN T t p) := if_pos h1
  rw [← ew] at e9
  obtain ⟨k0, k1, k2, k3, k4, k5, k6, k7, k8, k9, k10, k11, k12, k13, k14⟩ := cw_c
  have hw := wk_63 (T := T) (t := t) p
  have key : ∀ j, j < 15 → (lg_cmp (Int64.ofNat (wkN T t p)) (Int64.ofNat (cwN j)) = 0 ↔ wkN T t p = cwN j) := fun j hj => (lg0 _ _).trans (J_inj hw (cw_lt j hj).2.1)
  by_cases d0 : wkN T t p = cwN 0
  · refine ⟨1, ?_, Or.inl ⟨rfl, Or.inl d0⟩⟩
    simp only [fX12_isOwn, fX12_isOwn_165, fX12_isOwn_170, kO_187, g_t, b_d, b_c, b_v, Bool.and_true, Bool.and_self, Bool.true_and, e9, k0, if_pos ((key 0 (by omega)).mpr d0), fb1]
  have n0 : ¬ lg_cmp (Int64.ofNat (wkN T t p)) (Int64.ofNat (cwN 0)) = 0 := fun z => d0 ((key 0 (by omega)).mp z)
  by_cases d1 : wkN T t p = cwN 1
  · refine ⟨1, ?_, Or.inl ⟨rfl, Or.inr (Or.inl d1)⟩⟩
    simp only [fX12_isOwn, fX12_isOwn_165, fX12_isOwn_170, kO_187, g_t, b_d, b_c, b_v, Bool.and_true, Bool.and_self, Bool.true_and, e9, k0, if_neg n0, k1, if_pos ((key 1 (by omega)).mpr d1), fb1]
  have n1 : ¬ lg_cmp (Int64.ofNat (wkN T t p)) (Int64.ofNat (cwN 1)) = 0 := fun z => d1 ((key 1 (by omega)).mp z)
  by_cases d2 : wkN T t p = cwN 2
  · refine ⟨1, ?_, Or.inl ⟨rfl, Or.inr (Or.inr (Or.inl d2))⟩⟩
    simp only [fX12_isOwn, fX12_isOwn_165, fX12_isOwn_170, kO_187, g_t, b_d, b_c, b_v, Bool.and_true, Bool.and_self, Bool.true_and, e9, k0, if_neg n0, k1, if_neg n1, k2, if_pos ((key 2 (by omega)).mpr d2), fb1]
  have n2 : ¬ lg_cmp (Int64.ofNat (wkN T t p)) (Int64.ofNat (cwN 2)) = 0 := fun z => d2 ((key 2 (by omega)).mp z)
  by_cases d3 : wkN T t p = cwN 3
  · refine ⟨1, ?_, Or.inl ⟨rfl, Or.inr (Or.inr (Or.inr (Or.inl d3)))⟩⟩
    simp only [fX12_isOwn, fX12_isOwn_165, fX12_isOwn_170, kO_187, g_t, b_d, b_c, b_v, Bool.and_true, Bool.and_self, Bool.true_and, e9, k0, if_neg n0, k1, if_neg n1, k2, if_neg n2, k3, if_pos ((key 3 (by omega)).mpr d3), fb1]
  have n3 : ¬ lg_cmp (Int64.ofNat (wkN T t p)) (Int64.ofNat (cwN 3)) = 0 := fun z => d3 ((key 3 (by omega)).mp z)
  by_cases d4 : wkN T t p = cwN 4
  · refine ⟨1, ?_, Or.inl ⟨rfl, Or.inr (Or.inr (Or.inr (Or.inr (Or.inl d4))))⟩⟩
    simp only [fX12_isOwn, fX12_isOwn_165, fX12_isOwn_170, kO_187, g_t, b_d, b_c, b_v, Bool.and_true, Bool.and_self, Bool.true_and, e9, k0, if_neg n0, k1, if_neg n1, k2, if_neg n2, k3, if_neg n3, k4, if_pos ((key 4 (by omega)).mpr d4), fb1]
  have n4 : ¬ lg_cmp (Int64.ofNat (wkN T t p)) (Int64.ofNat (cwN 4)) = 0 := fun z => d4 ((key 4 (by omega)).mp z)
  by_cases d5 : wkN T t p = cwN 5
  · refine ⟨1, ?_, Or.inl ⟨rfl, Or.inr (Or.inr (Or.inr (Or.inr (Or.inr (Or.inl d5)))))⟩⟩
    simp only [fX12_isOwn, fX12_isOwn_165, fX12_isOwn_170, kO_187, g_t, b_d, b_c, b_v, Bool.and_true, Bool.and_self, Bool.true_and, e9, k0, if_neg n0, k1, if_neg n1, k2, if_neg n2, k3, if_neg n3, k4, if_neg n4, k5, if_pos ((key 5 (by omega)).mpr d5), fb1]
  have n5 : ¬ lg_cmp (Int64.ofNat (wkN T t p)) (Int64.ofNat (cwN 5)) = 0 := fun z => d5 ((key 5 (by omega)).mp z)
  by_cases d6 : wkN T t p = cwN 6
  · refine ⟨1, ?_, Or.inl ⟨rfl, Or.inr (Or.inr (Or.inr (Or.inr (Or.inr (Or.inr (Or.inl d6))))))⟩⟩
    simp only [fX12_isOwn, fX12_isOwn_165, fX12_isOwn_170, kO_187, g_t, b_d, b_c, b_v, Bool.and_true, Bool.and_self, Bool.true_and, e9, k0, if_neg n0, k1, if_neg n1, k2, if_neg n2, k3, if_neg n3, k4, if_neg n4, k5, if_neg n5, k6, if_pos ((key 6 (by omega)).mpr d6), fb1]
  have n6 : ¬ lg_cmp (Int64.ofNat (wkN T t p)) (Int64.ofNat (cwN 6)) = 0 := fun z => d6 ((key 6 (by omega)).mp z)
  by_cases d7 : wkN T t p = cwN 7
  · refine ⟨1, ?_, Or.inl ⟨rfl, Or.inr (Or.inr (Or.inr (Or.inr (Or.inr (Or.inr (Or.inr (Or.inl d7)))))))⟩⟩
    simp only [fX12_isOwn, fX12_isOwn_165, fX12_isOwn_170, kO_187, g_t, b_d, b_c, b_v, Bool.and_true, Bool.and_self, Bool.true_and, e9, k0, if_neg n0, k1, if_neg n1, k2, if_neg n2, k3, if_neg n3, k4, if_neg n4, k5, if_neg n5, k6, if_neg n6, k7, if_pos ((key 7 (by omega)).mpr d7), fb1]
  have n7 : ¬ lg_cmp (Int64.ofNat (wkN T t p)) (Int64.ofNat (cwN 7)) = 0 := fun z => d7 ((key 7 (by omega)).mp z)
  by_cases d8 : wkN T t p = cwN 8
  · refine ⟨1, ?_, Or.inl ⟨rfl, Or.inr (Or.inr (Or.inr (Or.inr (Or.inr (Or.inr (Or.inr (Or.inr (Or.inl d8))))))))⟩⟩
    simp only [fX12_isOwn, fX12_isOwn_165, fX12_isOwn_170, kO_187, g_t, b_d, b_c, b_v, Bool.and_true, Bool.and_self, Bool.true_and, e9, k0, if_neg n0, k1, if_neg n1, k2, if_neg n2, k3, if_neg n3, k4, if_neg n4, k5, if_neg n5, k6, if_neg n6, k7, if_neg n7, k8, if_pos ((key 8 (by omega)).mpr d8), fb1]
  have n8 : ¬ lg_cmp (Int64.ofNat (wkN T t p)) (Int64.ofNat (cwN 8)) = 0 := fun z => d8 ((key 8 (by omega)).mp z)
  by_cases d12 : wkN T t p = cwN 12
  · refine ⟨1, ?_, Or.inl ⟨rfl, Or.inr (Or.inr (Or.inr (Or.inr (Or.inr (Or.inr (Or.inr (Or.inr (Or.inr (Or.inr (Or.inr (Or.inr (Or.inl d12))))))))))))⟩⟩
    simp only [fX12_isOwn, fX12_isOwn_165, fX12_isOwn_170, kO_187, g_t, b_d, b_c, b_v, Bool.and_true, Bool.and_self, Bool.true_and, e9, k0, if_neg n0, k1, if_neg n1, k2, if_neg n2, k3, if_neg n3, k4, if_neg n4, k5, if_neg n5, k6, if_neg n6, k7, if_neg n7, k8, if_neg n8, k12, if_pos ((key 12 (by omega)).mpr d12), fb1]
  have n12 : ¬ lg_cmp (Int64.ofNat (wkN T t p)) (Int64.ofNat (cwN 12)) = 0 := fun z => d12 ((key 12 (by omega)).mp z)
  by_cases d13 : wkN T t p = cwN 13
  · refine ⟨1, ?_, Or.inl ⟨rfl, Or.inr (Or.inr (Or.inr (Or.inr (Or.inr (Or.inr (Or.inr (Or.inr (Or.inr (Or.inr (Or.inr (Or.inr (Or.inr (Or.inl d13)))))))))))))⟩⟩
    simp only [fX12_isOwn, fX12_isOwn_165, fX12_isOwn_170, kO_187, g_t, b_d, b_c, b_v, Bool.and_true, Bool.and_self, Bool.true_and, e9, k0, if_neg n0, k1, if_neg n1, k2, if_neg n2, k3, if_neg n3, k4, if_neg n4, k5, if_neg n5, k6, if_neg n6, k7, if_neg n7, k8, if_neg n8, k12, if_neg n12, k13, if_pos ((key 13 (by omega)).mpr d13), fb1]
  have n13 : ¬ lg_cmp (Int64.ofNat (wkN T t p)) (Int64.ofNat (cwN 13)) = 0 := fun z => d13 ((key 13 (by omega)).mp z)
  by_cases d14 : wkN T t p = cwN 14
  · refine ⟨1, ?_, Or.inl ⟨rfl, Or.inr (Or.inr (Or.inr (Or.inr (Or.inr (Or.inr (Or.inr (Or.inr (Or.inr (Or.inr (Or.inr (Or.inr (Or.inr (Or.inr (d14))))))))))))))⟩⟩
    simp only [fX12_isOwn, fX12_isOwn_165, fX12_isOwn_170, kO_187, g_t, b_d, b_c, b_v, Bool.and_true, Bool.and_self, Bool.true_and, e9, k0, if_neg n0, k1, if_neg n1, k2, if_neg n2, k3, if_neg n3, k4, if_neg n4, k5, if_neg n5, k6, if_neg n6, k7, if_neg n7, k8, if_neg n8, k12, if_neg n12, k13, if_neg n13, k14, if_pos ((key 14 (by omega)).mpr d14), fb1]
  have n14 : ¬ lg_cmp (Int64.ofNat (wkN T t p)) (Int64.ofNat (cwN 14)) = 0 := fun z => d14 ((key 14 (by omega)).mp z)
  by_cases d10 : wkN T t p = cwN 10
  · refine ⟨1, ?_, Or.inl ⟨rfl, Or.inr (Or.inr (Or.inr (Or.inr (Or.inr (Or.inr (Or.inr (Or.inr (Or.inr (Or.inr (Or.inl d10))))))))))⟩⟩
    simp only [fX12_isOwn, fX12_isOwn_165, fX12_isOwn_170, kO_187, g_t, b_d, b_c, b_v, Bool.and_true, Bool.and_self, Bool.true_and, e9, k0, if_neg n0, k1, if_neg n1, k2, if_neg n2, k3, if_neg n3, k4, if_neg n4, k5, if_neg n5, k6, if_neg n6, k7, if_neg n7, k8, if_neg n8, k12, if_neg n12, k13, if_neg n13, k14, if_neg n14, k10, if_pos ((key 10 (by omega)).mpr d10), fb1]
  have n10 : ¬ lg_cmp (Int64.ofNat (wkN T t p)) (Int64.ofNat (cwN 10)) = 0 := fun z => d10 ((key 10 (by omega)).mp z)
  by_cases d9 : wkN T t p = cwN 9
  · refine ⟨1, ?_, Or.inl ⟨rfl, Or.inr (Or.inr (Or.inr (Or.inr (Or.inr (Or.inr (Or.inr (Or.inr (Or.inr (Or.inl d9)))))))))⟩⟩
    simp only [fX12_isOwn, fX12_isOwn_165, fX12_isOwn_170, kO_187, g_t, b_d, b_c, b_v, Bool.and_true, Bool.and_self, Bool.true_and, e9, k0, if_neg n0, k1, if_neg n1, k2, if_neg n2, k3, if_neg n3, k4, if_neg n4, k5, if_neg n5, k6, if_neg n6, k7, if_neg n7, k8, if_neg n8, k12, if_neg n12, k13, if_neg n13, k14, if_neg n14, k10, if_neg n10, k9, if_pos ((key 9 (by omega)).mpr d9), fb1]
  have n9 : ¬ lg_cmp (Int64.ofNat (wkN T t p)) (Int64.ofNat (cwN 9)) = 0 := fun z => d9 ((key 9 (by omega)).mp z)
  by_cases d11 : wkN T t p = cwN 11
  · refine ⟨1, ?_, Or.inl ⟨rfl, Or.inr (Or.inr (Or.inr (Or.inr (Or.inr (Or.inr (Or.inr (Or.inr (Or.inr (Or.inr (Or.inr (Or.inl d11)))))))))))⟩⟩
    simp only [fX12_isOwn, fX12_isOwn_165, fX12_isOwn_170, kO_187, g_t, b_d, b_c, b_v, Bool.and_true, Bool.and_self, Bool.true_and, e9, k0, if_neg n0, k1, if_neg n1, k2, if_neg n2, k3, if_neg n3, k4, if_neg n4, k5, if_neg n5, k6, if_neg n6, k7, if_neg n7, k8, if_neg n8, k12, if_neg n12, k13, if_neg n13, k14, if_neg n14, k10, if_neg n10, k9, if_neg n9, k11, if_pos ((key 11 (by omega)).mpr d11), fb1]
  have n11 : ¬ lg_cmp (Int64.ofNat (wkN T t p)) (Int64.ofNat (cwN 11)) = 0 := fun z => d11 ((key 11 (by omega)).mp z)
  refine ⟨0, ?_, Or.inr ⟨rfl, fun z => ?_⟩⟩
  · simp only [fX12_isOwn, fX12_isOwn_170, kO_187, g_t, b_d, b_c, b_v, Bool.and_true, Bool.and_self, Bool.true_and, e9, k0, if_neg n0, k1, if_neg n1, k2, if_neg n2, k3, if_neg n3, k4, if_neg n4, k5, if_neg n5, k6, if_neg n6, k7, if_neg n7, k8, if_neg n8, k12, if_neg n12, k13, if_neg n13, k14, if_neg n14, k10, if_neg n10, k9, if_neg n9, k11, if_neg n11, fb0]
  · rcases z with z | z | z | z | z | z | z | z | z | z | z | z | z | z | z
    · exact d0 z
    · exact d1 z
    · exact d2 z
    · exact d3 z
    · exact d4 z
    · exact d5 z
    · exact d6 z
    · exact d7 z
    · exact d8 z
    · exact d9 z
    · exact d10 z
    · exact d11 z
    · exact d12 z
    · exact d13 z
    · exact d14 z
theorem c_has {u n : Nat} (hu : kSh u) (hn : n ≤ 5) {C : mT} (h9 : C.1 u 9 = nI n) (v : Int64) : ∀ (m i k : Nat), i + m = n → m < k → (∀ h, h < i → C.2 (u + 1) h ≠ v) → ∃ r, fX8_hasName_2 u k v (nI i) C = some (r, C) ∧ ((r = 1 ∧ ∃ h, h < n ∧ C.2 (u + 1) h = v) ∨ (r = 0 ∧ ∀ h, h < n → C.2 (u + 1) h ≠ v))
  | 0, i, k, hi, hk, hh => by
    obtain ⟨k', rfl⟩ := up1 hk
    obtain ⟨u1, u2, _⟩ := hu
    have c : nI n ≤ nI i := (xLe (by omega) (by omega)).mpr (by omega)
    exact ⟨0, by simp only [fX8_hasName_2, u1, g_t, b_d, b_c, b_v, Bool.and_true, Bool.and_self, Bool.true_and, h9, if_pos c], Or.inr ⟨rfl, fun h hh' => hh h (by omega)⟩⟩
  | m + 1, i, k, hi, hk, hh => by
    obtain ⟨k', rfl⟩ := up1 hk
    obtain ⟨u1, u2, _⟩ := id hu
    have c : ¬ nI n ≤ nI i := fun z => by have := (xLe (by omega) (by omega)).mp z; omega
    have o1 : nI i + (1 : Int32) = nI (i + 1) := nI_add i 1
    by_cases d : C.2 (u + 1) i = v
    · have d' := (lg0 (C.2 (u + 1) i) v).mpr d
      exact ⟨1, by simp (disch := omega) only [fX8_hasName_2, u1, u2, g_t, b_d, b_c, b_v, Bool.and_true, Bool.and_self, Bool.true_and, h9, if_neg c, xIx, xIn, if_pos d'], Or.inl ⟨rfl, i, by omega, d⟩⟩
    · have d' : ¬ lg_cmp (C.2 (u + 1) i) v = 0 := fun z => d ((lg0 _ _).mp z)
      obtain ⟨r, r1, r2⟩ := c_has hu hn h9 v m (i + 1) k' (by omega) (by omega) (fun h hh' => by
        by_cases e : h = i
        · rw [e]
          exact d
        · exact hh h (by omega))
      refine ⟨r, ?_, r2⟩
      rw [← r1]
      simp (disch := omega) only [fX8_hasName_2, u1, u2, g_t, b_d, b_c, b_v, Bool.and_true, Bool.and_self, Bool.true_and, h9, if_neg c, xIx, xIn, if_neg d', o1]
theorem m_find {n : Nat} (hn : n ≤ 5) {L : mT} (h35 : L.1 187 35 = nI n) : ∀ (m i k : Nat) (v : Int32), i + m = n → m < k → ((¬ v < 0 ∧ ∃ h, h < i ∧ L.2 189 h = L.2 187 9) ∨ (v < 0 ∧ ∀ h, h < i → L.2 189 h ≠ L.2 187 9)) → ∃ r, fX12_find_4 k v (nI i) L = some (r, L) ∧ ((¬ r < 0 ∧ ∃ h, h < n ∧ L.2 189 h = L.2 187 9) ∨ (r < 0 ∧ ∀ h, h < n → L.2 189 h ≠ L.2 187 9))
  | 0, i, k, v, hi, hk, hh => by
    obtain ⟨k', rfl⟩ := up1 hk
    have c : nI n ≤ nI i := (xLe (by omega) (by omega)).mpr (by omega)
    have : i = n := by omega
    subst this
    exact ⟨v, by simp only [fX12_find_4, kO_187, g_t, b_d, b_c, b_v, Bool.and_true, Bool.and_self, Bool.true_and, h35, if_pos c], hh⟩
  | m + 1, i, k, v, hi, hk, hh => by
    obtain ⟨k', rfl⟩ := up1 hk
    have c : ¬ nI n ≤ nI i := fun z => by have := (xLe (by omega) (by omega)).mp z; omega
    have o1 : nI i + (1 : Int32) = nI (i + 1) := nI_add i 1
    by_cases d : L.2 189 i = L.2 187 9
    · have d' := (lg0 (L.2 189 i) (L.2 187 9)).mpr d
      obtain ⟨r, r1, r2⟩ := m_find hn h35 m (i + 1) k' (nI i) (by omega) (by omega) (Or.inl ⟨nI_pos (by omega), i, by omega, d⟩)
      refine ⟨r, ?_, r2⟩
      rw [← r1]
      simp (disch := omega) only [fX12_find_4, fX12_find_31, kO_187, kJ_189, g_t, b_d, b_c, b_v, Bool.and_true, Bool.and_self, Bool.true_and, h35, if_neg c, xIx, xIn, if_pos d', o1]
    · have d' : ¬ lg_cmp (L.2 189 i) (L.2 187 9) = 0 := fun z => d ((lg0 _ _).mp z)
      obtain ⟨r, r1, r2⟩ := m_find hn h35 m (i + 1) k' v (by omega) (by omega) (by
        rcases hh with ⟨z, h, z1, z2⟩ | ⟨z, z1⟩
        · exact Or.inl ⟨z, h, by omega, z2⟩
        · refine Or.inr ⟨z, fun h hh' => ?_⟩
          by_cases e : h = i
          · rw [e]
            exact d
          · exact z1 h (by omega))
      refine ⟨r, ?_, r2⟩
      rw [← r1]
      simp (disch := omega) only [fX12_find_4, fX12_find_31, kO_187, kJ_189, g_t, b_d, b_c, b_v, Bool.and_true, Bool.and_self, Bool.true_and, h35, if_neg c, xIx, xIn, if_neg d', o1]
def n5N (T : Nat → Nat) (t q : Nat) : Nat := w5N T (tbN T t q) (txN T t q - tbN T t q)
def n8N (T : Nat → Nat) (t q : Nat) : Nat := w8N T (tbN T t q) (txN T t q - tbN T t q)
theorem n5_lt {q : Nat} (h : tkN T t q = 1) : n5N T t q < 9223372036854775808 ∧ n8N T t q < 9223372036854775808 := by
  obtain ⟨h1, h2, h3, h4, h5, h6⟩ := wd_let h
  have a := w5_63 (T := T) (b := tbN T t q) (txN T t q - tbN T t q) (fun i hi => (h5 i hi).2.2)
  have b : (32 : Nat) ^ (txN T t q - tbN T t q) ≤ 32 ^ 8 := Nat.pow_le_pow_right (by omega) (by omega)
  have c : (32 : Nat) ^ 8 = 1099511627776 := by decide
  have w := wk_63 (T := T) (t := t) q
  have ew : wkN T t q = n8N T t q := if_pos h
  unfold n5N
  omega
theorem n_eq {p q : Nat} (hp : tkN T t p = 1) (hq : tkN T t q = 1) : Int64.ofNat (n5N T t q) = Int64.ofNat (n5N T t p) ↔ Int64.ofNat (n8N T t q) = Int64.ofNat (n8N T t p) := by
  obtain ⟨_, _, _, _, a5, _⟩ := wd_let hp
  obtain ⟨_, _, _, _, b5, _⟩ := wd_let hq
  rw [J_inj (n5_lt hq).1 (n5_lt hp).1, J_inj (n5_lt hq).2 (n5_lt hp).2]
  unfold n5N n8N
  rw [w5_inj _ _ (fun i hi => (b5 i hi).2) (fun i hi => (a5 i hi).2), w8_inj _ _ (fun i hi => ⟨by have := (b5 i hi).2; omega, by have := (b5 i hi).2; omega⟩) (fun i hi => ⟨by have := (a5 i hi).2; omega, by have := (a5 i hi).2; omega⟩)]
/-- the names in both -/
def nmJ (T : Nat → Nat) (t u n : Nat) (C L : mT) : Prop := ∀ h, h < n → ∃ q, tkN T t q = 1 ∧ C.2 (u + 1) h = Int64.ofNat (n5N T t q) ∧ L.2 189 h = Int64.ofNat (n8N T t q)
end
