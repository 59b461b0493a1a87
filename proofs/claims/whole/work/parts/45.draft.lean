/-! DRAFT. -/
/-- the fullest of the first n -/
def fl (f : Nat → Int32) : Nat → Nat
  | 0 => 0
  | i + 1 => if i = 0 then 0 else if f i ≤ f (fl f i) then fl f i else i
theorem fl_lt {f : Nat → Int32} : ∀ {n : Nat}, 0 < n → fl f n < n
  | n + 1, _ => by
    unfold fl
    by_cases c : n = 0
    · rw [if_pos c]
      omega
    · rw [if_neg c]
      have := fl_lt (f := f) (n := n) (by omega)
      split
      · omega
      · omega
theorem fl_congr {f g : Nat → Int32} : ∀ {n : Nat}, (∀ i, i < n → f i = g i) → fl f n = fl g n
  | 0, _ => rfl
  | n + 1, h => by
    unfold fl
    by_cases c : n = 0
    · rw [if_pos c, if_pos c]
    · have := fl_lt (f := f) (n := n) (by omega)
      rw [if_neg c, if_neg c, ← fl_congr (n := n) (fun i hi => h i (by omega)), h n (by omega), h (fl f n) (by omega)]
/-- who is left when t were drafted -/
def dr (f : Nat → Int32) (n : Nat) : Nat → Nat → Int32
  | 0 => f
  | t + 1 => fun j => if j = fl (dr f n t) n then dr f n t j - 1 else dr f n t j
section
variable {b : Bool} {n : Nat} {S : mT}
theorem s_full4 (hn : n ≤ 5) (n1 : S.1 (shU b) 9 = nI n) : ∀ (m i k : Nat), 0 < i → i + m = n → m < k → fX11_fullest_4 b 36 k (nI (fl (S.1 36) i)) (nI i) S = some (nI (fl (S.1 36) n), S)
  | 0, i, k, h0, hi, hk => by
    obtain ⟨k', rfl⟩ := up1 hk
    have hi : i = n := by omega
    subst hi
    simp (disch := omega) [fX11_fullest_4, kO_0, kO_u, fX11_fullest_30, g_t, b_d, b_c, b_v, Bool.and_true, Bool.and_self, Bool.true_and, n1, xLe]
  | m + 1, i, k, h0, hi, hk => by
    obtain ⟨k', rfl⟩ := up1 hk
    have hl := fl_lt (f := S.1 36) h0
    rw [← s_full4 hn n1 m (i + 1) k' (by omega) (by omega) (by omega)]
    have c : ¬ n ≤ i := by omega
    have c0 : ¬ i = 0 := by omega
    by_cases q : S.1 36 i ≤ S.1 36 (fl (S.1 36) i)
    · simp (disch := omega) [fX11_fullest_4, kO_0, kO_u, fX11_fullest_30, kI_36, g_t, b_d, b_c, b_v, Bool.and_true, Bool.and_self, Bool.true_and, xL, xN1, nI_add, xM, xS, xP, xIx, xIn, xLe, xLt, xEq, xDv, n1, c, fl, c0, q]
    · simp (disch := omega) [fX11_fullest_4, kO_0, kO_u, fX11_fullest_30, kI_36, g_t, b_d, b_c, b_v, Bool.and_true, Bool.and_self, Bool.true_and, xL, xN1, nI_add, xM, xS, xP, xIx, xIn, xLe, xLt, xEq, xDv, n1, c, fl, c0, q]
theorem s_full (hn : n ≤ 5) (h0 : 0 < n) (n1 : S.1 (shU b) 9 = nI n) : fX11_fullest b 36 S = some (nI (fl (S.1 36) n), S) := by
  rw [← s_full4 hn n1 (n - 1) 1 mK (by omega) (by omega) (by have := mK_gt; omega)]
  rfl
theorem s_dr46 (hn : n ≤ 5) (h0 : 0 < n) {h q : Nat} (hh : h < n) (hq : q ≤ 35) (f : Nat → Int32) : ∀ (m i k : Nat) (S : mT), i + m = q → m < k → S.1 (shU b) 9 = nI n → (∀ j, j < n → S.1 36 j = dr f n i j) → ∃ S', fX11_draft_46 b k (nI h) (nI q) (nI i) S = some (S.1 35 h - dr f n q h, S')
  | 0, i, k, S, hi, hk, n1, e => by
    obtain ⟨k', rfl⟩ := up1 hk
    have hi : i = q := by omega
    subst hi
    exact ⟨S, by simp (disch := omega) [fX11_draft_46, kO_0, kI_35, kI_36, g_t, b_d, b_c, b_v, Bool.and_true, Bool.and_self, Bool.true_and, xL, xN1, nI_add, xM, xS, xP, xIx, xIn, xLe, xLt, xEq, xDv, e h hh]⟩
  | m + 1, i, k, S, hi, hk, n1, e => by
    obtain ⟨k', rfl⟩ := up1 hk
    have ef : fl (S.1 36) n = fl (dr f n i) n := fl_congr e
    have hl := fl_lt (f := dr f n i) h0
    obtain ⟨S', r1⟩ := s_dr46 hn h0 hh hq f m (i + 1) k' (sI S 36 (fl (dr f n i) n) (S.1 36 (fl (dr f n i) n) - 1)) (by omega) (by omega) (by rw [sI_rd, if_neg (by cases b <;> simp [shU])]; exact n1) (fun j hj => by
      rw [sI_rd]
      simp only [dr, true_and]
      by_cases c : j = fl (dr f n i) n
      · rw [if_pos c, if_pos c, c, e _ hl]
      · rw [if_neg c, if_neg c]
        exact e j hj)
    rw [sI_rd, if_neg (by omega)] at r1
    refine ⟨S', ?_⟩
    rw [← r1]
    have c : ¬ q ≤ i := by omega
    have hfu := s_full hn h0 n1
    rw [ef] at hfu
    simp (disch := omega) [fX11_draft_46, kO_0, kI_35, kI_36, g_t, b_d, b_c, b_v, Bool.and_true, Bool.and_self, Bool.true_and, xL, xN1, nI_add, xM, xS, xP, xIx, xIn, xLe, xLt, xEq, xDv, c, hfu]
theorem s_dm46 (hn : n ≤ 5) {h q i : Nat} (rc : Int32 → Int32 → Int32 → mT → Option (Int32 × mT)) (n2 : S.1 187 37 = nI n) : ∀ (m t k : Nat), 0 < t → t + m = n → m < k → fX12_draft_46 rc k (nI h) (nI q) (nI i) (nI (fl (S.1 209) t)) (nI t) S = rc (nI h) (nI q) (nI (i + 1)) (sI S 209 (fl (S.1 209) n) (S.1 209 (fl (S.1 209) n) - 1))
  | 0, t, k, h0, ht, hk => by
    obtain ⟨k', rfl⟩ := up1 hk
    have ht : t = n := by omega
    subst ht
    have hl := fl_lt (f := S.1 209) h0
    simp (disch := omega) [fX12_draft_46, kO_187, kI_209, fX12_draft_79, g_t, b_d, b_c, b_v, Bool.and_true, Bool.and_self, Bool.true_and, xL, xN1, nI_add, xM, xS, xP, xIx, xIn, xLe, xLt, xEq, xDv, n2]
  | m + 1, t, k, h0, ht, hk => by
    obtain ⟨k', rfl⟩ := up1 hk
    have hl := fl_lt (f := S.1 209) h0
    rw [← s_dm46 hn rc n2 m (t + 1) k' (by omega) (by omega) (by omega)]
    have c : ¬ n ≤ t := by omega
    have c0 : ¬ t = 0 := by omega
    by_cases z : S.1 209 t ≤ S.1 209 (fl (S.1 209) t)
    · simp (disch := omega) [fX12_draft_46, kO_187, kI_209, fX12_draft_79, g_t, b_d, b_c, b_v, Bool.and_true, Bool.and_self, Bool.true_and, xL, xN1, nI_add, xM, xS, xP, xIx, xIn, xLe, xLt, xEq, xDv, n2, c, fl, c0, z]
    · simp (disch := omega) [fX12_draft_46, kO_187, kI_209, fX12_draft_79, g_t, b_d, b_c, b_v, Bool.and_true, Bool.and_self, Bool.true_and, xL, xN1, nI_add, xM, xS, xP, xIx, xIn, xLe, xLt, xEq, xDv, n2, c, fl, c0, z]
theorem s_dm35 (hn : n ≤ 5) (h0 : 0 < n) {h q : Nat} (hh : h < n) (hq : q ≤ 35) (f : Nat → Int32) : ∀ (m i k : Nat) (S : mT), i + m = q → m < k → S.1 187 37 = nI n → (∀ j, j < n → S.1 209 j = dr f n i j) → ∃ S', fX12_draft_35 k (nI h) (nI q) (nI i) S = some (S.1 208 h - dr f n q h, S')
  | 0, i, k, S, hi, hk, n2, e => by
    obtain ⟨k', rfl⟩ := up1 hk
    have hi : i = q := by omega
    subst hi
    exact ⟨S, by simp (disch := omega) [fX12_draft_35, kO_187, kI_209, kI_208, g_t, b_d, b_c, b_v, Bool.and_true, Bool.and_self, Bool.true_and, xL, xN1, nI_add, xM, xS, xP, xIx, xIn, xLe, xLt, xEq, xDv, e h hh]⟩
  | m + 1, i, k, S, hi, hk, n2, e => by
    obtain ⟨k', rfl⟩ := up1 hk
    have ef : fl (S.1 209) n = fl (dr f n i) n := fl_congr e
    have hl := fl_lt (f := dr f n i) h0
    obtain ⟨S', r1⟩ := s_dm35 hn h0 hh hq f m (i + 1) k' (sI S 209 (fl (dr f n i) n) (S.1 209 (fl (dr f n i) n) - 1)) (by omega) (by omega) (by rw [sI_rd, if_neg (by omega)]; exact n2) (fun j hj => by
      rw [sI_rd]
      simp only [dr, true_and]
      by_cases c : j = fl (dr f n i) n
      · rw [if_pos c, if_pos c, c, e _ hl]
      · rw [if_neg c, if_neg c]
        exact e j hj)
    rw [sI_rd, if_neg (by omega)] at r1
    refine ⟨S', ?_⟩
    rw [← r1]
    have c : ¬ nI q ≤ nI i := fun z => by have := (xLe (by omega) (by omega)).mp z; omega
    have := s_dm46 (S := S) (h := h) (q := q) (i := i) hn (fX12_draft_35 k') n2 (n - 1) 1 mK (by omega) (by omega) (by have := mK_gt; omega)
    rw [ef] at this
    rw [← this]
    conv => lhs; unfold fX12_draft_35
    rw [if_neg c]
    rfl
end
theorem zz_draft : zH_draft Rel := by
  intro k b S v v2 hk h
  obtain ⟨n, hA, hN, hBx, hC, hT, hL⟩ := Rel_iff.mp h
  have hn := hA.1.1
  have n1 := hA.1.2.1
  have n2 := hA.1.2.2.1
  rcases h_cases n (by omega) v with ⟨i, hi, rfl⟩ | hv
  · rcases v_cases 0 35 (by omega) (by omega) v2 with c | c | ⟨q, _, hq, rfl⟩
    · have e : wB v2 0 35 = 0 := wB_lo c
      refine ⟨-1, S, S, ?_, ?_, Rel_up h⟩
      · simp (disch := omega) [fX11_draft, kO_0, kC_of s_35 (by decide +kernel) s_36 (by decide +kernel), fX11_draft_27, g_t, b_d, b_c, b_v, Bool.and_true, Bool.and_self, Bool.true_and, s_isHouseC n1, hB_in, s_isWithin, e]
      · simp (disch := omega) [fX12_draft, fX12_draft_27, g_t, b_d, b_c, b_v, Bool.and_true, Bool.and_self, Bool.true_and, s_isHouseM hn n2, hB_in, s_isIn, e]
    · have e : wB v2 0 35 = 0 := wB_hi c
      refine ⟨-1, S, S, ?_, ?_, Rel_up h⟩
      · simp (disch := omega) [fX11_draft, kO_0, kC_of s_35 (by decide +kernel) s_36 (by decide +kernel), fX11_draft_27, g_t, b_d, b_c, b_v, Bool.and_true, Bool.and_self, Bool.true_and, s_isHouseC n1, hB_in, s_isWithin, e]
      · simp (disch := omega) [fX12_draft, fX12_draft_27, g_t, b_d, b_c, b_v, Bool.and_true, Bool.and_self, Bool.true_and, s_isHouseM hn n2, hB_in, s_isIn, e]
    · have e : wB (nI q) 0 35 = 1 := wB_in (lo := 0) (hi := 35) (by omega) (by omega) (by omega)
      obtain ⟨C, s1, hc⟩ := c_sum hn n1 hA.2.2.2.1 (cEq.rfl' _ S) (w := 0) (by omega)
      have s1' : fX11_sum b 0 S = _ := s1
      have a1 : agr (supAll (shU b)) S C := av_agr (L := cond b LX11_sum_t LX11_sum_f) (by cases b; exact rX11_sum_f s1; exact rX11_sum_t s1) (by cases b <;> decide +kernel)
      by_cases c : nI q ≤ sm (fun i => hv S (shU b) i (wS 0)) n
      · obtain ⟨C', r1⟩ := s_dr46 (b := b) hn (by omega : 0 < n) hi hq (S.1 35) q 0 mK (sC C 35 36 (0 : Int32) (0 : Int32) (17 : Int32)) (by omega) (by have := mK_gt; omega) (by rw [sC17, if_neg (by cases b <;> simp [shU])]; exact (hc.u0 9).trans n1) (fun j hj => by rw [sC17, if_pos ⟨rfl, by omega⟩]; exact hc.at35 j)
        rw [sC17, if_neg (by omega), hc.at35] at r1
        have hf1 : fX11_draft b (nI i) (nI q) S = some (S.1 35 i - dr (S.1 35) n q i, C') := by
          rw [← r1]
          unfold fX11_draft
          rw [s_isHouseC n1, b_c, hB_in hi hn, if_neg (by decide), s_isWithin, b_c, e, if_neg (by decide), s1', b_c, if_pos c, kC_of s_35 (by decide +kernel) s_36 (by decide +kernel), cpOk17 (by omega) (by omega), kO_0]
          simp only [g_t, b_d, b_c, b_v, Bool.and_true, Bool.and_self, Bool.true_and]
          rfl
        have a2 : agr (supAll (shU b)) S C' := av_agr (L := cond b LX11_draft_t LX11_draft_f) (by cases b; exact rX11_draft_f hf1; exact rX11_draft_t hf1) (by cases b <;> decide +kernel)
        have hA2 := rA_fr (agr_app.mp a2).1 hA
        obtain ⟨L, l1, l2, _⟩ := m_load (shU_lt b) hA hN.1 a2
        obtain ⟨L', s2⟩ := m_sum (shU_lt b) hn l1 l2 (w := 0) (by omega)
        have s2' : fX12_sum 0 C' = _ := s2
        have a3 : agr (supAll (shU b)) C' L' := av_agr (rX12_sum s2) (by cases b <;> decide +kernel)
        obtain ⟨L3, m1, m2, m3⟩ := m_load (shU_lt b) hA hN.1 (agr_trans a2 a3)
        have e8 : L3.1 208 i = S.1 35 i := by
          rw [m3 _ _ (by omega) (by omega) (by omega) (by omega)]
          have : L'.1 208 = S.1 208 := agr_row (agr_trans a2 a3) (by simp) 208 (Nat.le_refl _) (Nat.le_refl _)
          rw [this]
          exact hN.1.2 i (by omega)
        obtain ⟨L4, r2⟩ := s_dm35 hn (by omega : 0 < n) hi hq (S.1 35) q 0 mK L3 (by omega) (by have := mK_gt; omega) m2.2.2.1 (fun j hj => (m2.1 j (by omega)).1)
        rw [e8] at r2
        have hf2 : fX12_draft (nI i) (nI q) C' = some (S.1 35 i - dr (S.1 35) n q i, L4) := by
          rw [← r2]
          unfold fX12_draft
          rw [s_isHouseM hn hA2.1.2.2.1, b_c, hB_in hi hn, if_neg (by decide), s_isIn, b_c, e, if_neg (by decide), s2', b_c, if_pos c, m1, b_v]
          rfl
        exact ⟨_, _, _, hf1, hf2, Rel_fr (agr_trans (av_agr (L := cond b LX11_draft_t LX11_draft_f) (by cases b; exact rX11_draft_f hf1; exact rX11_draft_t hf1) (by cases b <;> decide +kernel)) (av_agr (rX12_draft hf2) (by cases b <;> decide +kernel))) h⟩
      · have hf1 : fX11_draft b (nI i) (nI q) S = some (-1, C) := by
          unfold fX11_draft
          rw [s_isHouseC n1, b_c, hB_in hi hn, if_neg (by decide), s_isWithin, b_c, e, if_neg (by decide), s1', b_c, if_neg c]
          rfl
        have hA2 := rA_fr (agr_app.mp a1).1 hA
        obtain ⟨L, l1, l2, _⟩ := m_load (shU_lt b) hA hN.1 a1
        obtain ⟨L', s2⟩ := m_sum (shU_lt b) hn l1 l2 (w := 0) (by omega)
        have s2' : fX12_sum 0 C = _ := s2
        have hf2 : fX12_draft (nI i) (nI q) C = some (-1, L') := by
          unfold fX12_draft
          rw [s_isHouseM hn hA2.1.2.2.1, b_c, hB_in hi hn, if_neg (by decide), s_isIn, b_c, e, if_neg (by decide), s2', b_c, if_neg c]
          rfl
        exact ⟨_, _, _, hf1, hf2, Rel_fr (agr_trans (av_agr (L := cond b LX11_draft_t LX11_draft_f) (by cases b; exact rX11_draft_f hf1; exact rX11_draft_t hf1) (by cases b <;> decide +kernel)) (av_agr (rX12_draft hf2) (by cases b <;> decide +kernel))) h⟩
  · refine ⟨-1, S, S, ?_, ?_, Rel_up h⟩
    · simp [fX11_draft, kO_0, kC_of s_35 (by decide +kernel) s_36 (by decide +kernel), fX11_draft_27, g_t, b_d, b_c, b_v, Bool.and_true, Bool.and_self, Bool.true_and, s_isHouseC n1, hB_out hv]
    · simp [fX12_draft, fX12_draft_27, g_t, b_d, b_c, b_v, Bool.and_true, Bool.and_self, Bool.true_and, s_isHouseM hn n2, hB_out hv]
