/-! The reference's summer, second part; summer, will, bowls. -/
section
variable {u n : Nat} {S L : mT}
theorem m_102 (hu : u < 100) (hn : n ≤ 5) {R : Nat → Int32} (hS : mLs u n S L) (e : rM R L) : ∃ L', fX12_goSummer_102 L = some L' ∧ mFr L L' ∧ rM (r4 (if S.1 199 2 = 0 then R else r3 S u n R)) L' := by
  by_cases c : S.1 199 2 = 0
  · obtain ⟨L', y1, y2, y3⟩ := m_year e
    refine ⟨L', ?_, y2, by rw [if_pos c]; exact y3⟩
    obtain ⟨K, hK⟩ : ∃ K, mK = K + 1 := ⟨999999, rfl⟩
    have t : L.1 199 2 = nI 0 := by rw [hS.2.1.2.2.2]; exact c
    have i2 : mIx (nI 2) = 2 := rfl
    have z2 : mIn (nI 2) 3 = true := rfl
    unfold fX12_goSummer_102
    rw [hK, ← y1]
    by_cases q : nI n ≤ nI 0
    · simp only [fX12_goSummer_104, kO_187, g_t, b_d, b_c, b_v, Bool.and_true, Bool.and_self, Bool.true_and, xL, hS.2.2.2, if_pos q]
    · simp only [fX12_goSummer_104, kO_187, kB_199, g_t, b_d, b_c, b_v, Bool.and_true, Bool.and_self, Bool.true_and, xL, hS.2.2.2, if_neg q, i2, z2, t, if_true]
  · obtain ⟨L', y1, y2, y3⟩ := m_gs104 hu hn c R n 0 mK L (by omega) (by have := mK_gt; omega) hS (by
      refine ⟨fun j hj => ?_, ?_, ?_⟩
      · unfold r3
        rw [if_neg (by omega), if_neg (by omega), if_neg (by omega), if_neg (by omega), if_neg (by omega), if_neg (by omega)]
        exact e.1 j hj
      · unfold r3
        rw [if_neg (by omega), if_neg (by omega)]
        exact e.2.1
      · unfold r3
        rw [if_neg (by omega), if_neg (by omega)]
        exact e.2.2)
    exact ⟨L', y1, y2, by rw [if_neg c]; exact y3⟩
theorem m_tail (hu : u < 100) (hn : n ≤ 5) {Y : Nat} {R : Nat → Int32} (ok : okR Y R) (hS : mLs u n S L) (e : rM R L) {k : Nat} : ∃ L', fX12_goSummer_2 (k + 1) (nI n) L = some L' ∧ mFr L L' ∧ rM (r4 (if S.1 199 2 = 0 then r2 n R else r3 S u n (r2 n R))) L' := by
  have ok0 := ok
  obtain ⟨_, _, s, _, hs, _, es⟩ := ok
  have hs16 : mIx (R 16) = s := by rw [es, xIx (by omega)]
  have hsd := sdN_lt (R := R)
  have esd : sdN R = (s * 137 + 71) % 1000 := by unfold sdN; rw [hs16]
  have f1 : mFr L (sI L 187 44 (nI (sdN R))) := (mFr.r L).sI (by omega)
  have hS1 := mLs_fr hu f1 hS
  have c1 : (decide (¬ nI 1000 = nI 0)) = true := by decide
  have d1 : nI s * nI 137 + nI 71 = nI (s * 137 + 71) := by rw [xM, nI_add]
  have d2 : nI (s * 137 + 71) - nI (s * 137 + 71) / nI 1000 * nI 1000 = nI (sdN R) := by rw [xMd (by omega) (by omega), esd]
  have e16 : L.1 187 44 = nI s := e.2.2.trans es
  have h0 : nI n ≤ nI n := Int32.le_refl _
  have n37 : (sI L 187 44 (nI (sdN R))).1 187 37 = nI n := hS1.2.2.2
  have n44 : (sI L 187 44 (nI (sdN R))).1 187 44 = nI (sdN R) := by rw [sI_rd, if_pos ⟨rfl, rfl⟩]
  by_cases hz : n = 0
  · obtain ⟨L', y1, y2, y3⟩ := m_102 (R := r2 n R) hu hn hS1 (by
      refine ⟨fun j hj => ?_, ?_, ?_⟩
      · unfold r2
        rw [sI_rd, if_neg (by omega), sI_rd, if_neg (by omega), sI_rd, if_neg (by omega), if_neg (by omega), if_neg (by omega), if_neg (by omega), if_neg (by omega), if_neg (by omega), if_neg (by omega)]
        exact e.1 j hj
      · unfold r2
        rw [sI_rd, if_neg (by omega), if_neg (by omega), if_neg (by omega)]
        exact e.2.1
      · unfold r2
        rw [sI_rd, if_pos ⟨rfl, rfl⟩, if_pos rfl])
    refine ⟨L', ?_, f1.tr y2, y3⟩
    rw [← y1]
    have q : nI n ≤ nI 0 := by rw [hz]; exact Int32.le_refl _
    simp only [fX12_goSummer_2, kO_187, g_t, b_d, b_c, b_v, Bool.and_true, Bool.and_self, Bool.true_and, xL, hS.2.2.2, if_pos h0, e16, c1, d1, d2, n37, if_pos q]
  · have hm : sdN R % n < n := Nat.mod_lt _ (by omega)
    obtain ⟨_, _, z, _, _, hz9, _, _, ez⟩ := ok0.1 (sdN R % n) (by omega)
    have eb : (sI L 187 44 (nI (sdN R))).1 211 (sdN R % n) = nI z := by rw [sI_rd, if_neg (by omega), (e.1 _ (by omega)).2.2]; exact ez
    have f2 : mFr L (sI (sI L 187 44 (nI (sdN R))) 211 (sdN R % n) (nI (z - min z (sdN R / 100 % 3)))) := f1.sI (by omega)
    obtain ⟨L', y1, y2, y3⟩ := m_102 (L := sI (sI L 187 44 (nI (sdN R))) 211 (sdN R % n) (nI (z - min z (sdN R / 100 % 3)))) (R := r2 n R) hu hn (mLs_fr hu f2 hS) (by
      refine ⟨fun j hj => ?_, ?_, ?_⟩
      · obtain ⟨g1, g2, g3⟩ := e.1 j hj
        refine ⟨?_, ?_, ?_⟩
        · unfold r2
          rw [sI_rd, if_neg (by omega), sI_rd, if_neg (by omega), if_neg (by omega), if_neg (by omega)]
          exact g1
        · unfold r2
          rw [sI_rd, if_neg (by omega), sI_rd, if_neg (by omega), if_neg (by omega), if_neg (by omega)]
          exact g2
        · unfold r2
          rw [sI_rd, if_neg (show ¬ 10 + j = 16 by omega)]
          by_cases q : j = sdN R % n
          · rw [if_pos ⟨rfl, q⟩, if_pos ⟨by omega, by omega⟩, q, ez, xIx (by omega)]
          · rw [if_neg (by omega), if_neg (by omega), sI_rd, if_neg (by omega)]
            exact g3
      · unfold r2
        rw [sI_rd, if_neg (by omega), sI_rd, if_neg (by omega), if_neg (by omega), if_neg (by omega)]
        exact e.2.1
      · unfold r2
        rw [sI_rd, if_neg (by omega), sI_rd, if_pos ⟨rfl, rfl⟩, if_pos rfl])
    refine ⟨L', ?_, f2.tr y2, y3⟩
    rw [← y1]
    have q : ¬ nI n ≤ nI 0 := fun q => by have := (xLe (by omega) (by omega)).mp q; omega
    have c2 : (decide (¬ nI n = nI 0)) = true := by
      rw [decide_eq_true_iff]
      exact fun q => hz ((xEq (by omega) (by omega)).mp q)
    have c3 : (decide (¬ nI 3 = nI 0)) = true := by decide
    have c4 : (decide (¬ nI 100 = nI 0)) = true := by decide
    have g1 : nI (sdN R) - nI (sdN R) / nI n * nI n = nI (sdN R % n) := xMd (by omega) (by omega)
    have g2 : nI (sdN R) / nI 100 = nI (sdN R / 100) := xDv (by omega) (by omega)
    have g3 : nI (sdN R / 100) - nI (sdN R / 100) / nI 3 * nI 3 = nI (sdN R / 100 % 3) := xMd (by omega) (by omega)
    by_cases w : sdN R / 100 % 3 ≤ z
    · have w' : nI (sdN R / 100 % 3) ≤ nI z := (xLe (by omega) (by omega)).mpr w
      have d6 : nI z - nI (sdN R / 100 % 3) = nI (z - min z (sdN R / 100 % 3)) := by rw [xS w, Nat.min_eq_right w]
      simp (disch := omega) only [fX12_goSummer_2, fX12_goSummer_100, kO_187, kI_211, g_t, b_d, b_c, b_v, Bool.and_true, Bool.and_self, Bool.true_and, xL, hS.2.2.2, if_pos h0, e16, c1, d1, d2, n37, n44, if_neg q, c2, c3, c4, g1, g2, g3, xIx, xIn, eb, if_pos w', d6]
    · have w' : ¬ nI (sdN R / 100 % 3) ≤ nI z := fun a => w ((xLe (by omega) (by omega)).mp a)
      have d6 : nI z - nI z = nI (z - min z (sdN R / 100 % 3)) := by rw [xS (Nat.le_refl _), Nat.min_eq_left (by omega)]
      simp (disch := omega) only [fX12_goSummer_2, fX12_goSummer_100, kO_187, kI_211, g_t, b_d, b_c, b_v, Bool.and_true, Bool.and_self, Bool.true_and, xL, hS.2.2.2, if_pos h0, e16, c1, d1, d2, n37, n44, if_neg q, c2, c3, c4, g1, g2, g3, xIx, xIn, eb, if_neg w', d6]
theorem m_gs2 (hu : u < 100) (hn : n ≤ 5) {Y : Nat} {R : Nat → Int32} (ok : okR Y R) : ∀ (m i k : Nat) (L : mT), i + m = n → m < k → mLs u n S L → rM (r1 S u i R) L → ∃ L', fX12_goSummer_2 k (nI i) L = some L' ∧ mFr L L' ∧ rM (smr S u n R) L'
  | 0, i, k, L, hi, hk, hS, e => by
    obtain ⟨k', rfl⟩ := up1 hk
    have hi : i = n := by omega
    subst hi
    exact m_tail hu hn (r1_ok hn ok) hS e
  | m + 1, i, k, L, hi, hk, hS, e => by
    obtain ⟨k', rfl⟩ := up1 hk
    obtain ⟨x1, x2, x3⟩ := e.1 i (by omega)
    obtain ⟨L1, g1, g2⟩ := m_stones (S := L) (h := i) hS.1 hu (by omega)
    have f1 : mFr L L1 := fun a j q1 q2 _ _ _ _ => g2 a j q2 q1
    have ev : stP L (L.1 209 i) (L.1 210 i) (L.1 206 i) (L.1 207 i) (L.1 187 43) = r1 S u (i + 1) R (10 + i) := by
      rw [stP_eq hS.2.1, (hS.2.2.1 i (by omega)).1, (hS.2.2.1 i (by omega)).2, x1, x2, e.2.1]
      unfold r1
      rw [if_neg (by omega), if_neg (by omega), if_neg (by omega), if_pos (by omega), show 10 + i - 10 = i by omega, show 10 + i - 5 = 5 + i by omega]
    have f2 : mFr L (sI L1 211 i (r1 S u (i + 1) R (10 + i))) := f1.sI (by omega)
    obtain ⟨L', h1, h2, h3⟩ := m_gs2 hu hn ok m (i + 1) k' (sI L1 211 i (r1 S u (i + 1) R (10 + i))) (by omega) (by omega) (mLs_fr hu f2 hS) (by
      refine ⟨fun j hj => ?_, ?_, ?_⟩
      · obtain ⟨y1, y2, y3⟩ := e.1 j hj
        refine ⟨?_, ?_, ?_⟩
        · rw [sI_rd, if_neg (by omega), g2 _ _ (by omega) (by omega), y1]
          unfold r1
          rw [if_neg (by omega), if_neg (by omega)]
        · rw [sI_rd, if_neg (by omega), g2 _ _ (by omega) (by omega), y2]
          unfold r1
          rw [if_neg (by omega), if_neg (by omega)]
        · rw [sI_rd]
          by_cases q : j = i
          · rw [if_pos ⟨rfl, q⟩, q]
          · rw [if_neg (by omega), g2 _ _ (by omega) (by omega), y3]
            unfold r1
            by_cases q2 : 10 ≤ 10 + j ∧ 10 + j < 10 + i
            · rw [if_pos q2, if_pos (by omega)]
            · rw [if_neg q2, if_neg (by omega)]
      · rw [sI_rd, if_neg (by omega), g2 _ _ (by omega) (by omega), e.2.1]
        unfold r1
        rw [if_neg (by omega), if_neg (by omega)]
      · rw [sI_rd, if_neg (by omega), g2 _ _ (by omega) (by omega), e.2.2]
        unfold r1
        rw [if_neg (by omega), if_neg (by omega)])
    refine ⟨L', ?_, f2.tr h2, h3⟩
    rw [← h1]
    rw [ev] at g1
    have c : ¬ nI n ≤ nI i := fun z => by have := (xLe (by omega) (by omega)).mp z; omega
    simp (disch := omega) only [fX12_goSummer_2, kO_187, kI_211, g_t, b_d, b_c, b_v, Bool.and_true, Bool.and_self, Bool.true_and, xL, nI_add, xIx, xIn, hS.2.2.2, if_neg c, g1]
theorem m_summer (hu : u < 100) (hn : n ≤ 5) {Y : Nat} {R : Nat → Int32} (ok : okR Y R) (hS : mLs u n S L) (e : rM R L) : ∃ L', fX12_goSummer L = some L' ∧ mFr L L' ∧ rM (smr S u n R) L' :=
  m_gs2 hu hn ok n 0 mK L (by omega) (by have := mK_gt; omega) hS (by
    refine ⟨fun j hj => ?_, ?_, ?_⟩
    · unfold r1
      rw [if_neg (by omega), if_neg (by omega), if_neg (by omega)]
      exact e.1 j hj
    · unfold r1
      rw [if_neg (by omega)]
      exact e.2.1
    · unfold r1
      rw [if_neg (by omega)]
      exact e.2.2)
/-- many summers -/
def smrs (S : mT) (u n : Nat) (R : Nat → Int32) : Nat → Nat → Int32
  | 0 => R
  | t + 1 => smr S u n (smrs S u n R t)
theorem smrs_ok (hn : n ≤ 5) {Y : Nat} {R : Nat → Int32} (ok : okR Y R) : ∀ t, okR (Y + t) (smrs S u n R t)
  | 0 => ok
  | t + 1 => smr_ok hn (smrs_ok hn ok t)
theorem m_far (hu : u < 100) (hn : n ≤ 5) {R : Nat → Int32} (ok : okR 999 R) {q : Nat} (hq : q ≤ 60) : ∀ (m i k : Nat) (L : mT), i + m = q → m < k → mLs u n S L → rM (smrs S u n R i) L → ∃ L', fX12_goFar_6 k (nI q) (nI i) L = some L' ∧ mFr L L' ∧ rM (smrs S u n R q) L'
  | 0, i, k, L, hi, hk, hS, e => by
    obtain ⟨k', rfl⟩ := up1 hk
    have hi : i = q := by omega
    subst hi
    exact ⟨L, by simp (disch := omega) [fX12_goFar_6, xLe], mFr.r L, e⟩
  | m + 1, i, k, L, hi, hk, hS, e => by
    obtain ⟨k', rfl⟩ := up1 hk
    obtain ⟨L1, g1, g2, g3⟩ := m_summer hu hn (smrs_ok hn ok i) hS e
    obtain ⟨L', h1, h2, h3⟩ := m_far hu hn ok hq m (i + 1) k' L1 (by omega) (by omega) (mLs_fr hu g2 hS) g3
    refine ⟨L', ?_, g2.tr h2, h3⟩
    rw [← h1]
    have c : ¬ nI q ≤ nI i := fun z => by have := (xLe (by omega) (by omega)).mp z; omega
    simp (disch := omega) only [fX12_goFar_6, g_t, b_d, b_c, b_v, Bool.and_true, Bool.and_self, Bool.true_and, xL, nI_add, if_neg c, g1]
end
section
variable {b : Bool} {n : Nat} {S C : mT}
theorem c_far (hn : n ≤ 5) {R : Nat → Int32} (ok : okR 999 R) {q : Nat} (hq : q ≤ 60) : ∀ (m i k : Nat) (C : mT), i + m = q → m < k → cSt b n S C → (∀ j, j < 17 → C.1 36 j = smrs S (shU b) n R i j) → ∃ C', fX11_foresee_17 b k (nI q) (nI i) C = some C' ∧ cFr b 36 C C' ∧ ∀ j, j < 17 → C'.1 36 j = smrs S (shU b) n R q j
  | 0, i, k, C, hi, hk, hS, e => by
    obtain ⟨k', rfl⟩ := up1 hk
    have hi : i = q := by omega
    subst hi
    exact ⟨C, by simp (disch := omega) [fX11_foresee_17, kO_0, xLe], cFr.r b 36 C, e⟩
  | m + 1, i, k, C, hi, hk, hS, e => by
    obtain ⟨k', rfl⟩ := up1 hk
    obtain ⟨C1, g1, g2, g3⟩ := c_summer (Or.inr rfl) hn (smrs_ok hn ok i) hS e
    obtain ⟨C', h1, h2, h3⟩ := c_far hn ok hq m (i + 1) k' C1 (by omega) (by omega) (cSt_fr (Or.inr rfl) g2 hS) g3
    refine ⟨C', ?_, g2.tr h2, h3⟩
    rw [← h1]
    have c : ¬ nI q ≤ nI i := fun z => by have := (xLe (by omega) (by omega)).mp z; omega
    simp (disch := omega) only [fX11_foresee_17, kO_0, g_t, b_d, b_c, b_v, Bool.and_true, Bool.and_self, Bool.true_and, xL, nI_add, if_neg c, g1]
theorem cSt_of (hA : rA (shU b) n S) : cSt b n S S := ⟨hA.2.2.2.1, ⟨rfl, rfl, rfl, rfl⟩, fun _ => ⟨rfl, rfl⟩, hA.1.2.1⟩
theorem c_foresee (hn : n ≤ 5) (hA : rA (shU b) n S) (hN : rNow S) {q : Nat} (hq : q ≤ 60) : ∃ C', fX11_foresee b (nI q) S = some C' ∧ C'.1 (shU b) 9 = nI n ∧ ∀ j, j < 17 → C'.1 36 j = smrs S (shU b) n (S.1 35) q j := by
  have f0 : cFr b 36 S (sC S 35 36 (0 : Int32) (0 : Int32) (17 : Int32)) := fun a j g1 _ _ _ => by rw [sC17, if_neg (by omega)]
  have hS0 := cSt_fr (Or.inr rfl) f0 (cSt_of hA)
  obtain ⟨C', h1, h2, h3⟩ := c_far (S := S) hn (R := S.1 35) hN.1 hq q 0 mK (sC S 35 36 (0 : Int32) (0 : Int32) (17 : Int32)) (by omega) (by have := mK_gt; omega) hS0 (fun j hj => by rw [sC17, if_pos ⟨rfl, hj⟩]; rfl)
  refine ⟨C', ?_, (cSt_fr (Or.inr rfl) h2 hS0).2.2.2, h3⟩
  rw [← h1]
  unfold fX11_foresee
  rw [kC_of s_35 (by decide +kernel) s_36 (by decide +kernel), cpOk17 (by omega) (by omega), kO_0]
  simp only [g_t, b_d, b_c, b_v, Bool.and_true, Bool.and_self, Bool.true_and]
  rfl
end
section
variable {u n : Nat} {S L : mT}
theorem rLd_rM (h : rLd u n S L) : mLs u n S L ∧ rM (S.1 35) L := ⟨⟨h.2.2.2.1, h.2.2.2.2.1, fun j hj => (h.2.2.2.2.2.1 j hj).2, h.2.2.1⟩, h.1, h.2.1, h.2.2.2.2.2.2⟩
theorem m_goFar {T : mT} (hu : u < 100) (hn : n ≤ 5) (hN : rNow S) (hl : fX12_load T = some L) (h : rLd u n S L) {q : Nat} (hq : q ≤ 60) : ∃ L', fX12_goFar (nI q) T = some L' ∧ rM (smrs S u n (S.1 35) q) L' ∧ L'.1 187 37 = nI n := by
  obtain ⟨h1, h2⟩ := rLd_rM h
  obtain ⟨L', g1, g2, g3⟩ := m_far (S := S) hu hn (R := S.1 35) hN.1 hq q 0 mK L (by omega) (by have := mK_gt; omega) h1 h2
  refine ⟨L', ?_, g3, (mLs_fr hu g2 h1).2.2.2⟩
  rw [← g1]
  unfold fX12_goFar
  rw [hl, b_v]
  rfl
end
theorem zz_will : zH_will Rel := by
  intro k b S v v2 hk h
  obtain ⟨n, hA, hN, hBx, hC, hT, hL⟩ := Rel_iff.mp h
  have hn := hA.1.1
  have n1 := hA.1.2.1
  have n2 := hA.1.2.2.1
  rcases h_cases n (by omega) v with ⟨i, hi, rfl⟩ | hv
  · rcases v_cases 0 60 (by omega) (by omega) v2 with c | c | ⟨q, _, hq, rfl⟩
    · have e : wB v2 0 60 = 0 := wB_lo c
      refine ⟨-1, S, S, ?_, ?_, Rel_up h⟩
      · simp (disch := omega) [fX11_will, kO_0, kI_36, fX11_will_18, g_t, b_d, b_c, b_v, Bool.and_true, Bool.and_self, Bool.true_and, s_isHouseC n1, hB_in, s_isWithin, e]
      · simp (disch := omega) [fX12_will, kO_187, kI_209, fX12_will_18, g_t, b_d, b_c, b_v, Bool.and_true, Bool.and_self, Bool.true_and, s_isHouseM hn n2, hB_in, s_isIn, e]
    · have e : wB v2 0 60 = 0 := wB_hi c
      refine ⟨-1, S, S, ?_, ?_, Rel_up h⟩
      · simp (disch := omega) [fX11_will, kO_0, kI_36, fX11_will_18, g_t, b_d, b_c, b_v, Bool.and_true, Bool.and_self, Bool.true_and, s_isHouseC n1, hB_in, s_isWithin, e]
      · simp (disch := omega) [fX12_will, kO_187, kI_209, fX12_will_18, g_t, b_d, b_c, b_v, Bool.and_true, Bool.and_self, Bool.true_and, s_isHouseM hn n2, hB_in, s_isIn, e]
    · have e : wB (nI q) 0 60 = 1 := wB_in (lo := 0) (hi := 60) (by omega) (by omega) (by omega)
      obtain ⟨C, c1, c2, c3⟩ := c_foresee hn hA hN.1 hq
      have hf1 : fX11_will b (nI i) (nI q) S = some (smrs S (shU b) n (S.1 35) q i, C) := by
        have c4 := c3 i (by omega)
        simp (disch := omega) [fX11_will, kO_0, kI_36, fX11_will_18, g_t, b_d, b_c, b_v, Bool.and_true, Bool.and_self, Bool.true_and, s_isHouseC n1, hB_in, s_isWithin, e, c1]
        simp (disch := omega) [kI_36, g_t, b_d, b_c, b_v, Bool.and_true, Bool.and_self, Bool.true_and, xL, xN1, nI_add, xM, xS, xP, xIx, xIn, xLe, xLt, xEq, xDv, c4]
      have a1 : agr (supAll (shU b)) S C := av_agr (L := cond b LX11_will_t LX11_will_f) (by cases b; exact rX11_will_f hf1; exact rX11_will_t hf1) (by cases b <;> decide +kernel)
      have hAC := rA_fr (agr_app.mp a1).1 hA
      obtain ⟨L, l1, l2, _⟩ := m_load (shU_lt b) hA hN.1 a1
      obtain ⟨L', g1, g2, _⟩ := m_goFar (shU_lt b) hn hN.1 l1 l2 hq
      have hf2 : fX12_will (nI i) (nI q) C = some (smrs S (shU b) n (S.1 35) q i, L') := by
        have c4 := (g2.1 i (by omega)).1
        simp (disch := omega) [fX12_will, kO_187, kI_209, fX12_will_18, g_t, b_d, b_c, b_v, Bool.and_true, Bool.and_self, Bool.true_and, s_isHouseM hn hAC.1.2.2.1, hB_in, s_isIn, e, g1, xIx, xIn, c4]
      exact ⟨_, _, _, hf1, hf2, Rel_fr (agr_trans (av_agr (L := cond b LX11_will_t LX11_will_f) (by cases b; exact rX11_will_f hf1; exact rX11_will_t hf1) (by cases b <;> decide +kernel)) (av_agr (rX12_will hf2) (by cases b <;> decide +kernel))) h⟩
  · refine ⟨-1, S, S, ?_, ?_, Rel_up h⟩
    · simp [fX11_will, kO_0, kI_36, fX11_will_18, g_t, b_d, b_c, b_v, Bool.and_true, Bool.and_self, Bool.true_and, s_isHouseC n1, hB_out hv]
    · simp [fX12_will, kO_187, kI_209, fX12_will_18, g_t, b_d, b_c, b_v, Bool.and_true, Bool.and_self, Bool.true_and, s_isHouseM hn n2, hB_out hv]
theorem zz_bowls : zH_bowls Rel := by
  intro k b S v2 hk h
  obtain ⟨n, hA, hN, hBx, hC, hT, hL⟩ := Rel_iff.mp h
  have hn := hA.1.1
  rcases v_cases 0 60 (by omega) (by omega) v2 with c | c | ⟨q, _, hq, rfl⟩
  · have e : wB v2 0 60 = 0 := wB_lo c
    refine ⟨-1, S, S, ?_, ?_, Rel_up h⟩
    · simp (disch := omega) [fX11_bowls, kO_0, g_t, b_d, b_c, b_v, Bool.and_true, Bool.and_self, Bool.true_and, s_isWithin, e]
    · simp (disch := omega) [fX12_bowls, g_t, b_d, b_c, b_v, Bool.and_true, Bool.and_self, Bool.true_and, s_isIn, e]
  · have e : wB v2 0 60 = 0 := wB_hi c
    refine ⟨-1, S, S, ?_, ?_, Rel_up h⟩
    · simp (disch := omega) [fX11_bowls, kO_0, g_t, b_d, b_c, b_v, Bool.and_true, Bool.and_self, Bool.true_and, s_isWithin, e]
    · simp (disch := omega) [fX12_bowls, g_t, b_d, b_c, b_v, Bool.and_true, Bool.and_self, Bool.true_and, s_isIn, e]
  · have e : wB (nI q) 0 60 = 1 := wB_in (lo := 0) (hi := 60) (by omega) (by omega) (by omega)
    obtain ⟨C, c1, c2, c3⟩ := c_foresee hn hA hN.1 hq
    have e1 : sm (fun j => C.1 36 (10 + j)) n = sm (fun j => smrs S (shU b) n (S.1 35) q (10 + j)) n := sm_congr fun i hi => c3 (10 + i) (by omega)
    have hf1 : fX11_bowls b (nI q) S = some (sm (fun j => smrs S (shU b) n (S.1 35) q (10 + j)) n, C) := by
      rw [← e1]
      simp (disch := omega) [fX11_bowls, kO_0, g_t, b_d, b_c, b_v, Bool.and_true, Bool.and_self, Bool.true_and, s_isWithin, e, c1, s_bowlC hn c2 kI_36]
    have a1 : agr (supAll (shU b)) S C := av_agr (L := cond b LX11_bowls_t LX11_bowls_f) (by cases b; exact rX11_bowls_f hf1; exact rX11_bowls_t hf1) (by cases b <;> decide +kernel)
    obtain ⟨L, l1, l2, _⟩ := m_load (shU_lt b) hA hN.1 a1
    obtain ⟨L', g1, g2, g3⟩ := m_goFar (shU_lt b) hn hN.1 l1 l2 hq
    have e2 : sm (fun j => L'.1 211 j) n = sm (fun j => smrs S (shU b) n (S.1 35) q (10 + j)) n := sm_congr fun i hi => (g2.1 i (by omega)).2.2
    have hf2 : fX12_bowls (nI q) C = some (sm (fun j => smrs S (shU b) n (S.1 35) q (10 + j)) n, L') := by
      rw [← e2]
      simp (disch := omega) [fX12_bowls, g_t, b_d, b_c, b_v, Bool.and_true, Bool.and_self, Bool.true_and, s_isIn, e, g1, s_bowlM hn g3]
    exact ⟨_, _, _, hf1, hf2, Rel_fr (agr_trans (av_agr (L := cond b LX11_bowls_t LX11_bowls_f) (by cases b; exact rX11_bowls_f hf1; exact rX11_bowls_t hf1) (by cases b <;> decide +kernel)) (av_agr (rX12_bowls hf2) (by cases b <;> decide +kernel))) h⟩
