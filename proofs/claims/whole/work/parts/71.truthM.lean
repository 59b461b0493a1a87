/-! TRUTHS: the reference. -/
theorem cN_le (P : Nat → Bool) : ∀ w, cN P w ≤ w
  | 0 => Nat.le_refl _
  | w + 1 => by
    have := cN_le P w
    unfold cN
    split
    · omega
    · omega
theorem cN_congr {P Q : Nat → Bool} : ∀ {w : Nat}, (∀ x, x < w → P x = Q x) → cN P w = cN Q w
  | 0, _ => rfl
  | w + 1, h => by
    unfold cN
    rw [cN_congr (w := w) (fun x hx => h x (by omega)), h w (by omega)]
section
variable {n r : Nat} {st lo hi : Nat → Nat} {L : mT}
def mTl (n : Nat) (P : Nat → Bool) (W : Nat) (L : mT) : Prop := L.1 187 69 = nI (cN P W) ∧ ∀ h v, h < n → v < 8 → L.1 229 (8 * h + v) = nI (cN (truH n P h v) W)
theorem mRp_fr {L' : mT} (h : mRp n r st lo hi L) (f : ∀ a j, a ≠ 229 → ¬ (a = 187 ∧ j = 69) → L'.1 a j = L.1 a j) : mRp n r st lo hi L' := by
  refine ⟨by rw [f _ _ (by omega) (by omega)]; exact h.1, by rw [f _ _ (by omega) (by omega)]; exact h.2.1, fun j hj => ?_⟩
  rw [f _ _ (by omega) (by omega), f _ _ (by omega) (by omega), f _ _ (by omega) (by omega)]
  exact h.2.2 j hj
theorem m_ly64 (hn : n ≤ 5) (v : Int32) (v2 : Int32) {w : Nat} (hw : w < 8 ^ n) (rc : Int32 → Int32 → Int32 → mT → Option mT) : ∀ (m i k : Nat) (L : mT), i + m = n → m < k → L.1 187 37 = nI n → ∃ L', fX12_layTruths_64 rc k v v2 (nI w) (nI i) L = rc v v2 (nI (w + 1)) L' ∧ (∀ h x, h < n → x < 8 → L'.1 229 (8 * h + x) = if i ≤ h ∧ dg8 n w h = x then L.1 229 (8 * h + x) + 1 else L.1 229 (8 * h + x)) ∧ ∀ a j, a ≠ 229 → L'.1 a j = L.1 a j
  | 0, i, k, L, hi, hk, n2 => by
    obtain ⟨k', rfl⟩ := up1 hk
    have hi : i = n := by omega
    subst hi
    have c : nI i ≤ nI i := Int32.le_refl _
    have o1 : nI w + (1 : Int32) = nI (w + 1) := nI_add w 1
    exact ⟨L, by simp only [fX12_layTruths_64, fX12_layTruths_101, kO_187, g_t, b_d, b_c, b_v, Bool.and_true, Bool.and_self, Bool.true_and, n2, if_pos c, o1], fun h x hh _ => by rw [if_neg (by omega)], fun _ _ _ => rfl⟩
  | m + 1, i, k, L, hi, hk, n2 => by
    obtain ⟨k', rfl⟩ := up1 hk
    have c : ¬ nI n ≤ nI i := fun y => by have := (xLe (by omega) (by omega)).mp y; omega
    have hd : dg8 n w i < 8 := Nat.mod_lt _ (by omega)
    have o1 : nI i + (1 : Int32) = nI (i + 1) := nI_add i 1
    have o8 : (8 : Int32) * nI i + nI (dg8 n w i) = nI (8 * i + dg8 n w i) := by rw [show (8 : Int32) = nI 8 from rfl, xM, nI_add]
    have hh := s_head hn n2 hw (h := i) (by omega)
    obtain ⟨L', r1, r2, r3⟩ := m_ly64 hn v v2 hw rc m (i + 1) k' (sI L 229 (8 * i + dg8 n w i) (L.1 229 (8 * i + dg8 n w i) + 1)) (by omega) (by omega) (by rw [sI_rd, if_neg (by omega)]; exact n2)
    refine ⟨L', ?_, fun h x h1 h2 => ?_, fun a j g => by rw [r3 a j g, sI_rd, if_neg (by omega)]⟩
    · rw [← r1]
      simp (disch := omega) only [fX12_layTruths_64, kO_187, kI_229, g_t, b_d, b_c, b_v, Bool.and_true, Bool.and_self, Bool.true_and, n2, if_neg c, hh, o8, xIx, xIn, o1]
    · rw [r2 h x h1 h2, sI_rd]
      by_cases q : h = i
      · subst q
        rw [if_neg (by omega)]
        by_cases y : dg8 n w h = x
        · rw [if_pos ⟨rfl, by omega⟩, if_pos ⟨Nat.le_refl _, y⟩, y]
        · rw [if_neg (by omega), if_neg (by omega)]
      · by_cases y : i ≤ h ∧ dg8 n w h = x
        · rw [if_pos (by omega), if_pos y, if_neg (by omega)]
        · rw [if_neg (by omega), if_neg y, if_neg (by omega)]
theorem m_ly33 (hn : n ≤ 5) (hr : r ≤ 30) (hst : ∀ j, j < r → st j < 32 ∧ lo j ≤ 35 ∧ hi j ≤ 35) (v : Int32) (cj : Nat → Bool) : ∀ (m W k : Nat) (L : mT), W + m = 8 ^ n → m < k → mRp n r st lo hi L → cjM v L = cj → mTl n (tru n r st lo hi cj) W L → ∃ L', fX12_layTruths_33 k v (nI (8 ^ n)) (nI W) L = some L' ∧ mTl n (tru n r st lo hi cj) (8 ^ n) L' ∧ ∀ a j, a ≠ 229 → ¬ (a = 187 ∧ j = 69) → L'.1 a j = L.1 a j
  | 0, W, k, L, hW, hk, h, hc, ht => by
    obtain ⟨k', rfl⟩ := up1 hk
    have hW : W = 8 ^ n := by omega
    subst hW
    have c : nI (8 ^ n) ≤ nI (8 ^ n) := Int32.le_refl _
    exact ⟨L, by simp only [fX12_layTruths_33, if_pos c], ht, fun _ _ _ _ => rfl⟩
  | m + 1, W, k, L, hW, hk, h, hc, ht => by
    obtain ⟨k', rfl⟩ := up1 hk
    have hp := p8 hn
    have c : ¬ nI (8 ^ n) ≤ nI W := fun y => by have := (xLe (by omega) (by omega)).mp y; omega
    have hl := m_lo hn hr hst h (w := W) (by omega) v (en := 0) (by omega)
    rw [hc] at hl
    have hl' : fX12_liarsOf (nI W) v (0 : Int32) L = _ := hl
    have o1 : nI W + (1 : Int32) = nI (W + 1) := nI_add W 1
    by_cases q : lcW n r st lo hi cj W = 0
    · have hP : tru n r st lo hi cj W = true := by
        unfold tru
        simp [q]
      have e0 : nI (min (lcW n r st lo hi cj W) (0 + 1)) = nI 0 := by rw [q]; rfl
      rw [e0] at hl'
      have c2 : nI 0 ≤ (0 : Int32) := by decide
      have o2 : nI (cN (tru n r st lo hi cj) W) + (1 : Int32) = nI (cN (tru n r st lo hi cj) (W + 1)) := by
        have e : cN (tru n r st lo hi cj) (W + 1) = cN (tru n r st lo hi cj) W + 1 := if_pos hP
        rw [e]
        exact nI_add _ 1
      obtain ⟨L1, s1, s2, s3⟩ := m_ly64 hn v (nI (8 ^ n)) (w := W) (by omega) (fX12_layTruths_33 k') n 0 mK (sI L 187 69 (nI (cN (tru n r st lo hi cj) (W + 1)))) (by omega) (by have := mK_gt; omega) (by rw [sI_rd, if_neg (by omega)]; exact h.1)
      have fr : ∀ a j, a ≠ 229 → ¬ (a = 187 ∧ j = 69) → L1.1 a j = L.1 a j := fun a j g1 g2 => by rw [s3 a j g1, sI_rd, if_neg g2]
      obtain ⟨L', t1, t2, t3⟩ := m_ly33 hn hr hst v cj m (W + 1) k' L1 (by omega) (by omega) (mRp_fr h fr) (by
        rw [← hc]
        funext j
        unfold cjM
        rw [fr _ _ (by omega) (by omega), fr _ _ (by omega) (by omega)]) ⟨by rw [s3 _ _ (by omega), sI_rd, if_pos ⟨rfl, rfl⟩], fun h' x h1 h2 => by
        have e9 : (sI L 187 69 (nI (cN (tru n r st lo hi cj) (W + 1)))).1 229 (8 * h' + x) = L.1 229 (8 * h' + x) := by rw [sI_rd, if_neg (by omega)]
        rw [s2 h' x h1 h2, e9, ht.2 h' x h1 h2]
        conv => rhs; unfold cN
        by_cases y : dg8 n W h' = x
        · have hT : truH n (tru n r st lo hi cj) h' x W = true := by
            unfold truH
            simp [hP, y]
          rw [if_pos ⟨Nat.zero_le _, y⟩, if_pos hT]
          exact nI_add _ 1
        · have hT : ¬ truH n (tru n r st lo hi cj) h' x W = true := by
            unfold truH
            simp [y]
          rw [if_neg (by omega), if_neg hT]⟩
      refine ⟨L', ?_, t2, fun a j g1 g2 => by rw [t3 a j g1 g2, fr a j g1 g2]⟩
      have s1' : fX12_layTruths_64 (fX12_layTruths_33 k') mK v (nI (8 ^ n)) (nI W) (0 : Int32) (sI L 187 69 (nI (cN (tru n r st lo hi cj) (W + 1)))) = _ := s1
      rw [← t1, ← s1']
      simp only [fX12_layTruths_33, g_t, b_d, b_c, b_v, Bool.and_true, Bool.and_self, Bool.true_and, if_neg c, hl', if_pos c2, kO_187, ht.1, o2]
    · have hP : ¬ tru n r st lo hi cj W = true := by
        unfold tru
        simp [q]
      have e1 : nI (min (lcW n r st lo hi cj W) (0 + 1)) = nI 1 := congrArg nI (by omega)
      rw [e1] at hl'
      have c2 : ¬ nI 1 ≤ (0 : Int32) := by decide
      obtain ⟨L', t1, t2, t3⟩ := m_ly33 hn hr hst v cj m (W + 1) k' L (by omega) (by omega) h hc ⟨by
        have e : cN (tru n r st lo hi cj) (W + 1) = cN (tru n r st lo hi cj) W := if_neg hP
        rw [e]
        exact ht.1, fun h' x h1 h2 => by
        have hT : ¬ truH n (tru n r st lo hi cj) h' x W = true := by
          unfold truH
          rw [Bool.and_eq_true]
          exact fun y => hP y.1
        have e : cN (truH n (tru n r st lo hi cj) h' x) (W + 1) = cN (truH n (tru n r st lo hi cj) h' x) W := if_neg hT
        rw [e]
        exact ht.2 h' x h1 h2⟩
      refine ⟨L', ?_, t2, t3⟩
      rw [← t1]
      simp only [fX12_layTruths_33, fX12_layTruths_101, g_t, b_d, b_c, b_v, Bool.and_true, Bool.and_self, Bool.true_and, if_neg c, hl', if_neg c2, o1]
theorem m_ly2 (hn : n ≤ 5) (v : Int32) : ∀ (m i k : Nat) (L : mT), i + m = 40 → m < k → L.1 187 37 = nI n → (∀ j, j < i → L.1 229 j = nI 0) → ∃ L2, fX12_layTruths_2 k v (nI i) L = fX12_layTruths_33 mK v (nI (8 ^ n)) (nI 0) L2 ∧ L2.1 187 69 = nI 0 ∧ (∀ j, j < 40 → L2.1 229 j = nI 0) ∧ ∀ a j, a ≠ 229 → ¬ (a = 187 ∧ j = 69) → L2.1 a j = L.1 a j
  | 0, i, k, L, hi, hk, n2, e => by
    obtain ⟨k', rfl⟩ := up1 hk
    have hi : i = 40 := by omega
    subst hi
    have c : (40 : Int32) ≤ nI 40 := Int32.le_refl _
    refine ⟨sI L 187 69 (nI 0), ?_, by rw [sI_rd, if_pos ⟨rfl, rfl⟩], fun j hj => by rw [sI_rd, if_neg (by omega)]; exact e j hj, fun a j _ g => by rw [sI_rd, if_neg g]⟩
    have hrw : fX12_rowsOf (sI L 187 69 (0 : Int32)) = some (nI (8 ^ n), sI L 187 69 (nI 0)) := m_rows hn (by rw [sI_rd, if_neg (by omega)]; exact n2)
    conv => lhs; unfold fX12_layTruths_2
    rw [if_pos c, kO_187, Bool.and_true, g_t, b_d, hrw, b_c]
    rfl
  | m + 1, i, k, L, hi, hk, n2, e => by
    obtain ⟨k', rfl⟩ := up1 hk
    have c : ¬ (40 : Int32) ≤ nI i := fun y => by have := (xLe (a := 40) (by omega) (by omega)).mp y; omega
    have o1 : nI i + (1 : Int32) = nI (i + 1) := nI_add i 1
    obtain ⟨L2, r1, r2, r3, r4⟩ := m_ly2 hn v m (i + 1) k' (sI L 229 i (nI 0)) (by omega) (by omega) (by rw [sI_rd, if_neg (by omega)]; exact n2) (fun j hj => by
      rw [sI_rd]
      by_cases q : j = i
      · rw [if_pos ⟨rfl, q⟩]
      · rw [if_neg (by omega)]
        exact e j (by omega))
    refine ⟨L2, ?_, r2, r3, fun a j g1 g2 => by rw [r4 a j g1 g2, sI_rd, if_neg (by omega)]⟩
    rw [← r1]
    have w0 : sI L 229 i (0 : Int32) = sI L 229 i (nI 0) := rfl
    simp (disch := omega) only [fX12_layTruths_2, if_neg c, kO_187, kI_229, g_t, b_d, b_c, b_v, Bool.and_true, Bool.and_self, Bool.true_and, xIx, xIn, w0, o1]
/-- the reference's table of truths -/
theorem m_ly (hn : n ≤ 5) (hr : r ≤ 30) (hst : ∀ j, j < r → st j < 32 ∧ lo j ≤ 35 ∧ hi j ≤ 35) (h : mRp n r st lo hi L) (v : Int32) : ∃ L', fX12_layTruths v L = some L' ∧ mTl n (tru n r st lo hi (cjM v L)) (8 ^ n) L' ∧ ∀ a j, a ≠ 229 → ¬ (a = 187 ∧ j = 69) → L'.1 a j = L.1 a j := by
  obtain ⟨L2, r1, r2, r3, r4⟩ := m_ly2 hn v 40 0 mK L (by omega) (by have := mK_gt; omega) h.1 (fun j hj => by omega)
  obtain ⟨L', t1, t2, t3⟩ := m_ly33 hn hr hst v (cjM v L) (8 ^ n) 0 mK L2 (by omega) (by have := mK_gt; have := p8 hn; omega) (mRp_fr h r4) (by
    funext j
    unfold cjM
    rw [r4 _ _ (by omega) (by omega), r4 _ _ (by omega) (by omega)]) ⟨r2, fun h' x h1 h2 => r3 _ (by omega)⟩
  exact ⟨L', r1.trans t1, t2, fun a j g1 g2 => by rw [t3 a j g1 g2, r4 a j g1 g2]⟩
end
