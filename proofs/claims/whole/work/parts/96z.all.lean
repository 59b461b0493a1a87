/-! PROVINCE: all lines by both. -/
section
variable {T : Nat → Nat} {t : Nat}
def endA (T : Nat → Nat) (t u : Nat) (r : Int32) (C L : mT) : Prop := (r = 1 ∧ C.1 1 2 = nI 0 ∧ L.1 187 2 = nI 0 ∧ RJ T t u C L) ∨ (r = 0 ∧ PQ C L)
theorem c_89D {u w pl : Nat} {C : mT} (h : cD w pl C) : fX4_readAll_89 u C = some (0, C) := by
  have n : ¬ C.1 1 2 = 0 := by
    rw [h.2.2.1]
    exact fun z => by have := (xEq (b := 0) (by have := h.2.1; omega) (by omega)).mp z; have := h.1; omega
  have fit0 : mFit .boolean (0 : Int32) = true := by decide
  simp only [fX4_readAll_89, fX4_readAll_101, kO_1, g_t, b_d, b_c, b_v, Bool.and_true, Bool.and_self, Bool.true_and, if_neg n, fit0]
theorem c_20D {u w pl : Nat} {C : mT} (h : cD w pl C) (k : Nat) (v : Int32) : fX4_readAll_20 u (k + 1) v C = some (0, C) := by
  have e4 : C.1 1 4 = 0 := h.2.2.2.2
  by_cases c : (1600 : Int32) ≤ v
  · simp only [fX4_readAll_20, if_pos c, c_89D h]
  · simp only [fX4_readAll_20, if_neg c, kO_1, g_t, b_d, b_c, b_v, Bool.and_true, Bool.and_self, Bool.true_and, if_pos e4, c_89D h]
theorem c_20L {u k : Nat} {v : Int32} {C C1 C2 : mT} (c : ¬ (1600 : Int32) ≤ v) (e4 : ¬ C.1 1 4 = 0) (h : lnB u C = some C1) (h2 : fX4_takeSign (59 : Int32) C1 = some C2) : fX4_readAll_20 u (k + 1) v C = fX4_readAll_20 u k (v + (1 : Int32)) C2 := by
  conv => lhs; unfold fX4_readAll_20
  unfold lnB at h
  obtain ⟨x, S1, h3, h⟩ := bndC_ex h
  simp only [if_neg c, kO_1, g_t, b_d, b_c, b_v, Bool.and_true, Bool.and_self, Bool.true_and, if_neg e4, h3, fX4_readAll_77]
  by_cases q : x = 0
  · rw [if_pos q] at h ⊢
    obtain ⟨y, S2, h4, h⟩ := bndC_ex h
    simp only [h4, b_c]
    by_cases q : y = 0
    · rw [if_pos q] at h ⊢
      obtain ⟨z, S3, h5, h⟩ := bndC_ex h
      simp only [h5, h, h2, b_c, b_v, b_d]
    · rw [if_neg q] at h ⊢
      simp only [h, h2, b_v, b_d]
  · rw [if_neg q] at h ⊢
    simp only [h, h2, b_v, b_d]
theorem m_72D {w pl : Nat} {L : mT} (h : mD w pl L) (k : Nat) : fX12_readAll_72 (k + 1) L = some L := by
  have n1 := (mD_ne h).1
  simp only [fX12_readAll_72, fX12_readAll_93, kO_187, g_t, b_d, b_c, b_v, Bool.and_true, Bool.and_self, Bool.true_and, if_neg n1]
theorem j_halt (hT : ∀ k, k < t → T k < 256) {u : Nat} {C L : mT} (h : bad3 T t C L ∨ PQ C L) (k k2 : Nat) (v : Int32) : ∃ L', fX4_readAll_20 u (k + 1) v C = some (0, C) ∧ fX12_readAll_72 (k2 + 2) L = some L' ∧ fZl L L' ∧ PQ C L' := by
  rcases h with ⟨p, hp, h4, hc, hm⟩ | ⟨w, pl, hc, hm⟩
  · have w0 : wkN T t p = 0 := if_neg (by omega)
    have cj := fun j (hj : j < 15) => (cw_lt j hj).1
    obtain ⟨s1, s2, s3, _⟩ := sr_lt hT p
    have sr3 := s3.mpr h4
    have e2 : L.1 187 2 = 0 := hm.1
    have e6 : ¬ L.1 187 6 = 0 := by rw [hm.2.1, sr3]; decide
    obtain ⟨L1, f1, f2, f3⟩ := m_fall hT hp hm (fun z => by have := cj 0 (by omega); omega) (fun z => by have := cj 5 (by omega); omega) (fun z => by have := cj 6 (by omega); omega) (fun z => by have := cj 7 (by omega); omega) (fun z => by have := cj 8 (by omega); omega)
    rw [if_pos h4] at f2
    have n1 := (mD_ne f2).1
    have e151 : fX12_readLine_151 L1 = some L1 := by
      simp only [fX12_readLine_151, fX12_readLine_172, fX12_readLine_183, kO_187, g_t, b_d, b_c, b_v, Bool.and_true, Bool.and_self, Bool.true_and, if_neg n1]
    refine ⟨L1, c_20D hc k v, ?_, f3.zl, 1, _, hc, f2⟩
    conv => lhs; unfold fX12_readAll_72
    simp only [kO_187, g_t, b_d, b_c, b_v, Bool.and_true, Bool.and_self, Bool.true_and, if_pos e2, if_neg e6, f1, e151, m_72D f2]
  · exact ⟨L, c_20D hc k v, m_72D hm (k2 + 1), fZl.rf L, w, pl, hc, hm⟩
theorem j_loop (ht : t ≤ 1600) (hT : ∀ k, k < t → T k < 256) {u : Nat} (hu : kSh u) : ∀ (w i k k2 p : Nat) (C L : mT), t - p < w → w < k → w + 1 < k2 → i ≤ p → p ≤ t → tpC T t C → tpM T t L → cT T t p C → mTo T t p L → RJ T t u C L → ∃ r C' L', fX4_readAll_20 u k (nI i) C = some (r, C') ∧ fX12_readAll_72 k2 L = some L' ∧ fKl u C C' ∧ fZl L L' ∧ endA T t u r C' L'
  | 0, i, k, k2, p, C, L, hw, hk, hk2, hi, hp, htc, htm, hc, hm, hR => by omega
  | w + 1, i, k, k2, p, C, L, hw, hk, hk2, hi, hp, htc, htm, hc, hm, hR => by
    obtain ⟨k', rfl⟩ := up1 hk
    obtain ⟨k2', rfl⟩ := up1 hk2
    obtain ⟨s1, s2, s3, s4, s5, s6, s7, s8⟩ := sr_lt hT p
    have e2 : L.1 187 2 = 0 := hm.1
    have e1 : C.1 1 2 = 0 := hc.1
    have fit1 : mFit .boolean (1 : Int32) = true := by decide
    by_cases k0 : tkN T t p = 0
    · have e4 : C.1 1 4 = 0 := by rw [hc.2.2.1, k0]; rfl
      have e6 : L.1 187 6 = 0 := by rw [hm.2.1, s6.mpr k0]; rfl
      refine ⟨1, C, L, ?_, ?_, fKl.rf u C, fZl.rf L, Or.inl ⟨rfl, hc.1, hm.1, hR⟩⟩
      · by_cases c : (1600 : Int32) ≤ nI i
        · simp only [fX4_readAll_20, fX4_readAll_89, fX4_readAll_101, if_pos c, kO_1, g_t, b_d, b_c, b_v, Bool.and_true, Bool.and_self, Bool.true_and, if_pos e1, fit1]
        · simp only [fX4_readAll_20, fX4_readAll_89, fX4_readAll_101, if_neg c, kO_1, g_t, b_d, b_c, b_v, Bool.and_true, Bool.and_self, Bool.true_and, if_pos e4, if_pos e1, fit1]
      · simp only [fX12_readAll_72, fX12_readAll_93, kO_187, g_t, b_d, b_c, b_v, Bool.and_true, Bool.and_self, Bool.true_and, if_pos e2, if_pos e6]
    · have hpt := tk_t (T := T) hp k0
      have c : ¬ (1600 : Int32) ≤ nI i := fun z => by have := (xLe (a := 1600) (by omega) (by omega)).mp z; omega
      have e4 : ¬ C.1 1 4 = 0 := by
        rw [hc.2.2.1]
        exact fun z => k0 ((xEq (b := 0) (by omega) (by omega)).mp z)
      have e6 : ¬ L.1 187 6 = 0 := by
        rw [hm.2.1]
        exact fun z => k0 (s6.mp ((xEq (b := 0) (by omega) (by omega)).mp z))
      have o1 : nI i + (1 : Int32) = nI (i + 1) := nI_add i 1
      obtain ⟨C0, C1, L1, a0, a1, a2, a3, a4, a5⟩ := j_line ht hT hu hp htc htm hc hm k0 hR
      have rc : fX4_readAll_20 u (k' + 1) (nI i) C = fX4_readAll_20 u k' (nI (i + 1)) C1 := by
        rw [← o1]
        exact c_20L c e4 a0 a1
      have rm : fX12_readAll_72 (k2' + 1) L = fX12_readAll_72 k2' L1 := by
        conv => lhs; unfold fX12_readAll_72
        simp only [kO_187, g_t, b_d, b_c, b_v, Bool.and_true, Bool.and_self, Bool.true_and, if_pos e2, if_neg e6, a2]
      rw [rc, rm]
      rcases a5 with ⟨p', z1, z2, z3, z4, z5⟩ | z
      · obtain ⟨r, C2, L2, y1, y2, y3, y4, y5⟩ := j_loop ht hT hu w (i + 1) k' k2' p' C1 L1 (by omega) (by omega) (by omega) (by omega) z2 (a3.tp hu htc) (a4.tp htm) z3 z4 z5
        exact ⟨r, C2, L2, y1, y2, a3.tr y3, a4.tr y4, y5⟩
      · obtain ⟨k3, rfl⟩ : ∃ k3, k' = k3 + 1 := ⟨k' - 1, by omega⟩
        obtain ⟨k4, rfl⟩ : ∃ k4, k2' = k4 + 2 := ⟨k2' - 2, by omega⟩
        obtain ⟨L2, y1, y2, y3, y4⟩ := j_halt hT (u := u) z k3 k4 (nI (i + 1))
        exact ⟨0, C1, L2, y1, y2, a3, a4.tr y3, Or.inr ⟨rfl, y4⟩⟩
end
