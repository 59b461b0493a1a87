/-! LEAST. -/
theorem tv_le (S : mT) (u i v : Nat) : tvN S u i v ≤ 999 ∨ tvN S u i v = 1000000 := by
  rcases tv_cases S u i v with h | h
  · exact Or.inr h.1
  · exact Or.inl h.1
def mn (S : mT) (u i : Nat) : Nat → Nat
  | 0 => 1000000
  | v + 1 => min (tvN S u i v) (mn S u i v)
theorem mn_le (S : mT) (u i : Nat) : ∀ v, mn S u i v ≤ 999 ∨ mn S u i v = 1000000
  | 0 => Or.inr rfl
  | v + 1 => by
    have h1 := mn_le S u i v
    have h2 := tv_le S u i v
    unfold mn
    omega
def lsN (S : mT) (u : Nat) : Nat → Nat → Nat → Int32
  | 0, _, acc => nI acc
  | m + 1, i, acc => if mn S u i 8 < 1000000 then lsN S u m (i + 1) (acc + mn S u i 8) else -1
section
variable {u n : Nat} {S C L : mT}
theorem c_le18 {i acc : Nat} (hi : i < 5) (rc : Int32 → Int32 → mT → Option (Int32 × mT)) (e : ∀ w, w < 8 → C.1 (87 + i) w = nI (tvN S u i w)) : ∀ (m v k : Nat), v + m = 8 → m < k → fX1_leastTax_18 rc k (nI acc) (nI i) (nI (mn S u i v)) (nI v) C = if mn S u i 8 < 1000000 then rc (nI (acc + mn S u i 8)) (nI (i + 1)) C else some (-1, C)
  | 0, v, k, hv, hk => by
    obtain ⟨k', rfl⟩ := up1 hk
    have hv : v = 8 := by omega
    subst hv
    have hm := mn_le S u i 8
    have c : (7 : Int32) < nI 8 := by decide
    have o1 : nI i + (1 : Int32) = nI (i + 1) := nI_add i 1
    have o2 : nI acc + nI (mn S u i 8) = nI (acc + mn S u i 8) := nI_add _ _
    by_cases q : mn S u i 8 < 1000000
    · have q' : nI (mn S u i 8) < (1000000 : Int32) := (xLt (b := 1000000) (by omega) (by omega)).mpr q
      rw [if_pos q]
      simp only [fX1_leastTax_18, if_pos c, if_pos q', g_t, b_d, b_c, b_v, Bool.and_true, Bool.and_self, Bool.true_and, o1, o2]
    · have q' : ¬ nI (mn S u i 8) < (1000000 : Int32) := fun z => q ((xLt (b := 1000000) (by omega) (by omega)).mp z)
      rw [if_neg q]
      simp only [fX1_leastTax_18, if_pos c, if_neg q']
  | m + 1, v, k, hv, hk => by
    obtain ⟨k', rfl⟩ := up1 hk
    have hm := mn_le S u i v
    have ht := tv_le S u i v
    have c : ¬ (7 : Int32) < nI v := fun z => by have := (xLt (a := 7) (by omega) (by omega)).mp z; omega
    have o1 : nI v + (1 : Int32) = nI (v + 1) := nI_add v 1
    have o2 := nmin (a := tvN S u i v) (c := mn S u i v) (by omega) (by omega)
    have o3 : min (tvN S u i v) (mn S u i v) = mn S u i (v + 1) := rfl
    rw [← c_le18 hi rc e m (v + 1) k' (by omega) (by omega)]
    simp (disch := omega) only [fX1_leastTax_18, if_neg c, kO_85, kR_86, g_t, b_d, b_c, b_v, Bool.and_true, Bool.and_self, Bool.true_and, xIx, xIn, rw_86, ki_86, e v (by omega), o2, o3, o1]
theorem c_le4 (hn : n ≤ 5) (h85 : C.1 85 3 = nI n) (e : ∀ i w, i < n → w < 8 → C.1 (87 + i) w = nI (tvN S u i w)) : ∀ (m i k acc : Nat), i + m = n → m < k → fX1_leastTax_4 k (nI acc) (nI i) C = some (lsN S u m i acc, C)
  | 0, i, k, acc, hi, hk => by
    obtain ⟨k', rfl⟩ := up1 hk
    have hi : i = n := by omega
    subst hi
    have c : nI i ≤ nI i := Int32.le_refl _
    simp only [fX1_leastTax_4, kO_85, g_t, b_d, b_c, b_v, Bool.and_true, Bool.and_self, Bool.true_and, h85, if_pos c, lsN]
  | m + 1, i, k, acc, hi, hk => by
    obtain ⟨k', rfl⟩ := up1 hk
    have c : ¬ nI n ≤ nI i := fun z => by have := (xLe (by omega) (by omega)).mp z; omega
    have st := c_le18 (S := S) (u := u) (C := C) (i := i) (acc := acc) (by omega) (fX1_leastTax_4 k') (fun w hw => e i w (by omega) hw) 8 0 mK (by omega) (by have := mK_gt; omega)
    have st0 : fX1_leastTax_4 (k' + 1) (nI acc) (nI i) C = fX1_leastTax_18 (fX1_leastTax_4 k') mK (nI acc) (nI i) (nI (mn S u i 0)) (nI 0) C := by
      conv => lhs; unfold fX1_leastTax_4
      rw [kO_85, h85, if_neg c, Bool.and_true, g_t]
      rfl
    rw [st0, st]
    unfold lsN
    by_cases q : mn S u i 8 < 1000000
    · rw [if_pos q, if_pos q]
      exact c_le4 hn h85 e m (i + 1) k' _ (by omega) (by omega)
    · rw [if_neg q, if_neg q]
theorem mtv_lt {t : Nat} (h : t ≤ 999 ∨ t = 1000000) : (mtv t < nI 0) = (t = 1000000) := by
  unfold mtv
  apply propext
  by_cases c : t = 1000000
  · rw [if_pos c]
    exact ⟨fun _ => c, fun _ => by decide⟩
  · rw [if_neg c]
    exact ⟨fun z => by have := (xLt (by omega) (by omega)).mp z; omega, fun z => absurd z c⟩
theorem m_le21 {i acc : Nat} (hi : i < 5) (rc : Int32 → Int32 → mT → Option (Int32 × mT)) (e : ∀ w, w < 8 → L.1 213 (8 * i + w) = mtv (tvN S u i w)) : ∀ (m v k : Nat), v + m = 8 → m < k → fX12_least_21 rc k (nI acc) (nI i) (mtv (mn S u i v)) (nI v) L = if mn S u i 8 < 1000000 then rc (nI (acc + mn S u i 8)) (nI (i + 1)) L else some (-1, L)
  | 0, v, k, hv, hk => by
    obtain ⟨k', rfl⟩ := up1 hk
    have hv : v = 8 := by omega
    subst hv
    have hm := mn_le S u i 8
    have c : (7 : Int32) < nI 8 := by decide
    have o1 : nI i + (1 : Int32) = nI (i + 1) := nI_add i 1
    have o2 : nI acc + nI (mn S u i 8) = nI (acc + mn S u i 8) := nI_add _ _
    by_cases q : mn S u i 8 < 1000000
    · have et : mtv (mn S u i 8) = nI (mn S u i 8) := if_neg (by omega)
      have q' : (0 : Int32) ≤ nI (mn S u i 8) := (xLe (a := 0) (by omega) (by omega)).mpr (by omega)
      rw [if_pos q, et]
      simp only [fX12_least_21, if_pos c, if_pos q', g_t, b_d, b_c, b_v, Bool.and_true, Bool.and_self, Bool.true_and, o1, o2]
    · have et : mtv (mn S u i 8) = -nI 1 := if_pos (by omega)
      have q' : ¬ (0 : Int32) ≤ -nI 1 := by decide
      rw [if_neg q, et]
      simp only [fX12_least_21, if_pos c, if_neg q']
  | m + 1, v, k, hv, hk => by
    obtain ⟨k', rfl⟩ := up1 hk
    have hm := mn_le S u i v
    have ht := tv_le S u i v
    have c : ¬ nI 7 < nI v := fun z => by have := (xLt (by omega) (by omega)).mp z; omega
    have o1 : nI v + nI 1 = nI (v + 1) := nI_add v 1
    have o3 : mn S u i (v + 1) = min (tvN S u i v) (mn S u i v) := rfl
    have o8 : nI 8 * nI i + nI v = nI (8 * i + v) := by rw [xM, nI_add]
    rw [← m_le21 hi rc e m (v + 1) k' (by omega) (by omega), o3]
    have l1 := mtv_lt ht
    have l2 := mtv_lt hm
    by_cases q1 : tvN S u i v = 1000000
    · have a1 : mtv (tvN S u i v) < nI 0 := by rw [l1]; exact q1
      have em : min (tvN S u i v) (mn S u i v) = mn S u i v := by omega
      rw [em]
      simp (disch := omega) only [fX12_least_21, fX12_least_76, if_neg c, kO_187, kI_213, g_t, b_d, b_c, b_v, Bool.and_true, Bool.and_self, Bool.true_and, xL, o8, xIx, xIn, e v (by omega), if_pos a1, o1]
    · have a1 : ¬ mtv (tvN S u i v) < nI 0 := by rw [l1]; exact q1
      by_cases q2 : mn S u i v = 1000000
      · have a2 : mtv (mn S u i v) < nI 0 := by rw [l2]; exact q2
        have em : min (tvN S u i v) (mn S u i v) = tvN S u i v := by omega
        rw [em]
        simp (disch := omega) only [fX12_least_21, fX12_least_63, fX12_least_76, if_neg c, kO_187, kI_213, g_t, b_d, b_c, b_v, Bool.and_true, Bool.and_self, Bool.true_and, xL, o8, xIx, xIn, e v (by omega), if_neg a1, if_pos a2, o1]
      · have a2 : ¬ mtv (mn S u i v) < nI 0 := by rw [l2]; exact q2
        have e1 : mtv (tvN S u i v) = nI (tvN S u i v) := if_neg q1
        have e2 : mtv (mn S u i v) = nI (mn S u i v) := if_neg q2
        by_cases q3 : mn S u i v ≤ tvN S u i v
        · have a3 : mtv (mn S u i v) ≤ mtv (tvN S u i v) := by rw [e1, e2]; exact (xLe (by omega) (by omega)).mpr q3
          have em : min (tvN S u i v) (mn S u i v) = mn S u i v := by omega
          rw [em]
          simp (disch := omega) only [fX12_least_21, fX12_least_76, if_neg c, kO_187, kI_213, g_t, b_d, b_c, b_v, Bool.and_true, Bool.and_self, Bool.true_and, xL, o8, xIx, xIn, e v (by omega), if_neg a1, if_neg a2, if_pos a3, o1]
        · have a3 : ¬ mtv (mn S u i v) ≤ mtv (tvN S u i v) := by rw [e1, e2]; exact fun z => q3 ((xLe (by omega) (by omega)).mp z)
          have em : min (tvN S u i v) (mn S u i v) = tvN S u i v := by omega
          rw [em]
          simp (disch := omega) only [fX12_least_21, fX12_least_63, fX12_least_76, if_neg c, kO_187, kI_213, g_t, b_d, b_c, b_v, Bool.and_true, Bool.and_self, Bool.true_and, xL, o8, xIx, xIn, e v (by omega), if_neg a1, if_neg a2, if_neg a3, o1]
theorem m_le8 (hn : n ≤ 5) (n2 : L.1 187 37 = nI n) (e : ∀ i w, i < n → w < 8 → L.1 213 (8 * i + w) = mtv (tvN S u i w)) : ∀ (m i k acc : Nat), i + m = n → m < k → fX12_least_8 k (nI acc) (nI i) L = some (lsN S u m i acc, L)
  | 0, i, k, acc, hi, hk => by
    obtain ⟨k', rfl⟩ := up1 hk
    have hi : i = n := by omega
    subst hi
    have c : nI i ≤ nI i := Int32.le_refl _
    simp only [fX12_least_8, kO_187, g_t, b_d, b_c, b_v, Bool.and_true, Bool.and_self, Bool.true_and, n2, if_pos c, lsN]
  | m + 1, i, k, acc, hi, hk => by
    obtain ⟨k', rfl⟩ := up1 hk
    have c : ¬ nI n ≤ nI i := fun z => by have := (xLe (by omega) (by omega)).mp z; omega
    have st := m_le21 (S := S) (u := u) (L := L) (i := i) (acc := acc) (by omega) (fX12_least_8 k') (fun w hw => e i w (by omega) hw) 8 0 mK (by omega) (by have := mK_gt; omega)
    have st0 : fX12_least_8 (k' + 1) (nI acc) (nI i) L = fX12_least_21 (fX12_least_8 k') mK (nI acc) (nI i) (mtv (mn S u i 0)) (nI 0) L := by
      conv => lhs; unfold fX12_least_8
      rw [kO_187, n2, if_neg c, Bool.and_true, g_t]
      rfl
    rw [st0, st]
    unfold lsN
    by_cases q : mn S u i 8 < 1000000
    · rw [if_pos q, if_pos q]
      exact m_le8 hn n2 e m (i + 1) k' _ (by omega) (by omega)
    · rw [if_neg q, if_neg q]
end
theorem zz_least : zH_least Rel := by
  intro k b S hk h
  obtain ⟨n, hA, hN, hBx, hC, hT, hL⟩ := Rel_iff.mp h
  have hn := hA.1.1
  obtain ⟨C, c1, c2, c3, c4⟩ := c_look1 hn hA
  have r1 := c_le4 (C := C) hn c3 c4 n 0 mK 0 (by omega) (by have := mK_gt; omega)
  have r1' : fX1_leastTax C = some (lsN S (shU b) n 0 0, C) := r1
  have hf1 : fX11_least b S = some (lsN S (shU b) n 0 0, C) := by
    simp only [fX11_least, kO_0, g_t, b_d, b_c, b_v, Bool.and_true, Bool.and_self, Bool.true_and, c1, r1']
  have a1 : agr (supAll (shU b)) S C := av_agr (L := cond b LX11_least_t LX11_least_f) (by cases b; exact rX11_least_f hf1; exact rX11_least_t hf1) (by cases b <;> decide +kernel)
  obtain ⟨L, l1, l2, _⟩ := m_load (shU_lt b) hA hN.1 a1
  obtain ⟨L2, t1, t2, t3, _⟩ := m_lt (shU_lt b) hn l1 l2
  have r2 := m_le8 (L := L2) hn t2 t3 n 0 mK 0 (by omega) (by have := mK_gt; omega)
  have hf2 : fX12_least C = some (lsN S (shU b) n 0 0, L2) := by
    rw [← r2]
    unfold fX12_least
    rw [t1, b_v]
    rfl
  exact ⟨_, _, _, hf1, hf2, Rel_fr (agr_trans (av_agr (L := cond b LX11_least_t LX11_least_f) (by cases b; exact rX11_least_f hf1; exact rX11_least_t hf1) (by cases b <;> decide +kernel)) (av_agr (rX12_least hf2) (by cases b <;> decide +kernel))) h⟩
