/-! The reference's summer. -/
def mLs (u n : Nat) (S L : mT) : Prop := rLaws u L ∧ lawEq S L ∧ (∀ j, j < n → L.1 206 j = S.1 (u + 4) j ∧ L.1 207 j = S.1 (u + 5) j) ∧ L.1 187 37 = nI n
def rM (R : Nat → Int32) (L : mT) : Prop := (∀ j, j < 5 → L.1 209 j = R j ∧ L.1 210 j = R (5 + j) ∧ L.1 211 j = R (10 + j)) ∧ L.1 187 43 = R 15 ∧ L.1 187 44 = R 16
def mFr (L L' : mT) : Prop := ∀ a j, a ≠ 197 → a ≠ 200 → a ≠ 209 → a ≠ 210 → a ≠ 211 → ¬ (a = 187 ∧ (j = 43 ∨ j = 44)) → L'.1 a j = L.1 a j
theorem mFr.r (L : mT) : mFr L L := fun _ _ _ _ _ _ _ _ => rfl
theorem mFr.tr {L M N : mT} (h : mFr L M) (h2 : mFr M N) : mFr L N := fun a j g1 g2 g3 g4 g5 g6 => (h2 a j g1 g2 g3 g4 g5 g6).trans (h a j g1 g2 g3 g4 g5 g6)
theorem mFr.sI {L M : mT} {c k : Nat} {v : Int32} (h : mFr L M) (hc : c = 209 ∨ c = 210 ∨ c = 211 ∨ c = 187 ∧ (k = 43 ∨ k = 44)) : mFr L (sI M c k v) := fun a j g1 g2 g3 g4 g5 g6 => by rw [sI_rd, if_neg (by omega)]; exact h a j g1 g2 g3 g4 g5 g6
section
variable {u n : Nat} {S L L' : mT}
theorem mLs_fr (hu : u < 100) (f : mFr L L') (h : mLs u n S L) : mLs u n S L' := by
  obtain ⟨h1, h2, h3, h4⟩ := h
  refine ⟨rLaws_fr (fun a j g => f a j (by omega) (by omega) (by omega) (by omega) (by omega) (by omega)) h1, h2.trans (lawEq_of fun a j g => f a j (by omega) (by omega) (by omega) (by omega) (by omega) (by omega)), fun j hj => ?_, ?_⟩
  · rw [f _ _ (by omega) (by omega) (by omega) (by omega) (by omega) (by omega), f _ _ (by omega) (by omega) (by omega) (by omega) (by omega) (by omega)]
    exact h3 j hj
  · rw [f _ _ (by omega) (by omega) (by omega) (by omega) (by omega) (by omega)]
    exact h4
theorem s_nmh' {i : Nat} (hi : i < 5) : fX12_notMoreHidden (nI i) L = some (sI L 210 i (if L.1 209 i < L.1 210 i then L.1 209 i else L.1 210 i)) := by
  by_cases c : L.1 209 i < L.1 210 i
  · have c' : ¬ L.1 210 i ≤ L.1 209 i := Int32.not_le.mpr c
    simp (disch := omega) [fX12_notMoreHidden, kO_187, kI_210, kI_209, fX12_notMoreHidden_35, g_t, b_d, b_c, b_v, Bool.and_true, Bool.and_self, Bool.true_and, xIx, xIn, c, c']
  · have c' : L.1 210 i ≤ L.1 209 i := Int32.not_lt.mp c
    simp (disch := omega) [fX12_notMoreHidden, kO_187, kI_210, kI_209, fX12_notMoreHidden_35, g_t, b_d, b_c, b_v, Bool.and_true, Bool.and_self, Bool.true_and, xIx, xIn, c, c']
theorem m_year {R : Nat → Int32} (e : rM R L) : ∃ L', fX12_goSummer_200 L = some L' ∧ mFr L L' ∧ rM (r4 R) L' := by
  refine ⟨sI L 187 43 (L.1 187 43 + 1), ?_, (mFr.r L).sI (by omega), fun j hj => ?_, ?_, ?_⟩
  · simp only [fX12_goSummer_200, kO_187, g_t, b_d, b_c, b_v, Bool.and_true, Bool.and_self, Bool.true_and]
  · obtain ⟨e1, e2, e3⟩ := e.1 j hj
    rw [sI_rd, if_neg (by omega), sI_rd, if_neg (by omega), sI_rd, if_neg (by omega), e1, e2, e3]
    unfold r4
    rw [if_neg (by omega), if_neg (by omega), if_neg (by omega)]
    exact ⟨rfl, rfl, rfl⟩
  · rw [sI_rd, if_pos ⟨rfl, rfl⟩, e.2.1]
    rfl
  · rw [sI_rd, if_neg (by omega), e.2.2]
    rfl
theorem m_gs104 (hu : u < 100) (hn : n ≤ 5) (told : ¬ S.1 199 2 = 0) (R : Nat → Int32) : ∀ (m i k : Nat) (L : mT), i + m = n → m < k → mLs u n S L → rM (r3 S u i R) L → ∃ L', fX12_goSummer_104 k (nI i) L = some L' ∧ mFr L L' ∧ rM (r4 (r3 S u n R)) L'
  | 0, i, k, L, hi, hk, hS, e => by
    obtain ⟨k', rfl⟩ := up1 hk
    have hi : i = n := by omega
    subst hi
    obtain ⟨L', y1, y2, y3⟩ := m_year e
    refine ⟨L', ?_, y2, y3⟩
    rw [← y1]
    have c : nI i ≤ nI i := Int32.le_refl _
    simp only [fX12_goSummer_104, kO_187, g_t, b_d, b_c, b_v, Bool.and_true, Bool.and_self, Bool.true_and, hS.2.2.2, if_pos c]
  | m + 1, i, k, L, hi, hk, hS, e => by
    obtain ⟨k', rfl⟩ := up1 hk
    obtain ⟨x1, x2, x3⟩ := e.1 i (by omega)
    obtain ⟨L2, s1, s2, s3⟩ := s_askOf (L.1 209 i) (L.1 210 i) (L.1 206 i) (L.1 207 i) (L.1 211 i) (L.1 187 43) L
    have f2 : mFr L L2 := fun a j _ g2 _ _ _ _ => s3 a j g2
    have hS2 := mLs_fr hu f2 hS
    have told2 : ¬ L2.1 199 2 = 0 := by rw [hS2.2.1.2.2.2]; exact told
    have told1 : ¬ L.1 199 2 = nI 0 := by rw [hS.2.1.2.2.2]; exact told
    obtain ⟨L3, w1, w2⟩ := m_form (f := 2) (by omega) hS2.1.2.2 told2 s2
    have f3 : mFr L L3 := f2.tr (fun a j g1 _ _ _ _ _ => w2 a j g1)
    have row3 : ∀ a j, a = 209 ∨ a = 210 ∨ a = 211 ∨ a = 187 → L3.1 a j = L.1 a j := fun a j g => by rw [w2 _ _ (by omega), s3 _ _ (by omega)]
    have eg : lim (L.1 209 i + lim (fv L2 2 (as6 (L.1 209 i) (L.1 210 i) (L.1 206 i) (L.1 207 i) (L.1 211 i) (L.1 187 43))) (-nI 3) (nI 3)) (nI 0) (nI 7) = gH S u R i := by
      rw [fv_eq hS2.2.1, (hS.2.2.1 i (by omega)).1, (hS.2.2.1 i (by omega)).2, x1, x2, x3, e.2.1]
      unfold gH grP r3
      rw [if_neg (by omega), if_neg (by omega), if_neg (by omega), if_neg (by omega), if_neg (by omega), if_neg (by omega), if_neg (by omega), if_neg (by omega)]
      rfl
    generalize hg : gH S u R i = g at eg
    have q1 : (sI L3 209 i g).1 209 i = g := by rw [sI_rd, if_pos ⟨rfl, rfl⟩]
    have q2 : (sI L3 209 i g).1 210 i = R (5 + i) := by
      rw [sI_rd, if_neg (by omega), row3 _ _ (by omega), x2]
      unfold r3
      rw [if_neg (by omega), if_neg (by omega)]
    have hm := s_nmh' (L := sI L3 209 i g) (i := i) (by omega)
    rw [q1, q2] at hm
    have f5 : mFr L (sI (sI L3 209 i g) 210 i (if g < R (5 + i) then g else R (5 + i))) := (f3.sI (by omega)).sI (by omega)
    obtain ⟨L', h1, h2, h3⟩ := m_gs104 hu hn told R m (i + 1) k' (sI (sI L3 209 i g) 210 i (if g < R (5 + i) then g else R (5 + i))) (by omega) (by omega) (mLs_fr hu f5 hS) (by
      refine ⟨fun j hj => ?_, ?_, ?_⟩
      · obtain ⟨y1, y2, y3⟩ := e.1 j hj
        refine ⟨?_, ?_, ?_⟩
        · rw [sI_rd, if_neg (by omega), sI_rd]
          by_cases q : j = i
          · rw [if_pos ⟨rfl, q⟩]
            unfold r3
            rw [if_pos (show j < i + 1 by omega), q, hg]
          · rw [if_neg (by omega), row3 _ _ (by omega), y1]
            unfold r3
            by_cases q3 : j < i
            · rw [if_pos q3, if_pos (show j < i + 1 by omega)]
            · by_cases q4 : 5 ≤ j ∧ j < 5 + i
              · omega
              · rw [if_neg q3, if_neg q4, if_neg (show ¬ j < i + 1 by omega), if_neg (show ¬ (5 ≤ j ∧ j < 5 + (i + 1)) by omega)]
        · rw [sI_rd]
          by_cases q : j = i
          · rw [if_pos ⟨rfl, q⟩]
            unfold r3
            rw [if_neg (show ¬ 5 + j < i + 1 by omega), if_pos (show 5 ≤ 5 + j ∧ 5 + j < 5 + (i + 1) by omega), show 5 + j - 5 = i by omega, hg, q]
          · rw [if_neg (by omega), sI_rd, if_neg (by omega), row3 _ _ (by omega), y2]
            unfold r3
            by_cases q4 : 5 ≤ 5 + j ∧ 5 + j < 5 + i
            · rw [if_neg (show ¬ 5 + j < i by omega), if_pos q4, if_neg (show ¬ 5 + j < i + 1 by omega), if_pos (show 5 ≤ 5 + j ∧ 5 + j < 5 + (i + 1) by omega)]
            · rw [if_neg (show ¬ 5 + j < i by omega), if_neg q4, if_neg (show ¬ 5 + j < i + 1 by omega), if_neg (show ¬ (5 ≤ 5 + j ∧ 5 + j < 5 + (i + 1)) by omega)]
        · rw [sI_rd, if_neg (by omega), sI_rd, if_neg (by omega), row3 _ _ (by omega), y3]
          unfold r3
          rw [if_neg (by omega), if_neg (by omega), if_neg (by omega), if_neg (by omega)]
      · rw [sI_rd, if_neg (by omega), sI_rd, if_neg (by omega), row3 _ _ (by omega), e.2.1]
        unfold r3
        rw [if_neg (by omega), if_neg (by omega), if_neg (by omega), if_neg (by omega)]
      · rw [sI_rd, if_neg (by omega), sI_rd, if_neg (by omega), row3 _ _ (by omega), e.2.2]
        unfold r3
        rw [if_neg (by omega), if_neg (by omega), if_neg (by omega), if_neg (by omega)])
    refine ⟨L', ?_, f5.tr h2, h3⟩
    rw [← h1]
    have c : ¬ nI n ≤ nI i := fun z => by have := (xLe (by omega) (by omega)).mp z; omega
    have s29 : L2.1 209 i = L.1 209 i := s3 _ _ (by omega)
    have i2 : mIx (nI 2) = 2 := rfl
    have z2 : mIn (nI 2) 3 = true := rfl
    have s1' : fX12_askOf (L.1 209 i) (L.1 210 i) (L.1 206 i) (L.1 207 i) (L.1 211 i) (L.1 187 43) L = some L2 := s1
    simp (disch := omega) only [fX12_goSummer_104, kO_187, kB_199, kI_206, kI_207, kI_209, kI_210, kI_211, g_t, b_d, b_c, b_v, Bool.and_true, Bool.and_self, Bool.true_and, xL, nI_add, xIx, xIn, hS.2.2.2, if_neg c, i2, z2, if_neg told1, s1', w1, s_bound, s29, eg, hm]
end
