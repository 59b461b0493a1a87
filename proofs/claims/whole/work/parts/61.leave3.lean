/-! LEAVE: the reference, and the call. -/
section
variable {t : Nat → Nat → Nat} {n T : Nat} {C L : mT}
theorem c_chN (hT : T < 1000000) {g : Nat → Nat} (hg : ∀ x, g x ≤ 1000000) (e : ∀ x, x ≤ 35 → C.1 93 x = nI (g x)) : ∀ (m v k : Nat), v + m = 36 → m < k → (∀ a, v ≤ a → a ≤ 35 → ¬ g a ≤ T) → fX1_choose_6 k (nI T) (nI v) C = some (-1, C)
  | 0, v, k, hv, hk, h => by
    obtain ⟨k', rfl⟩ := up1 hk
    have hv : v = 36 := by omega
    subst hv
    have c : (35 : Int32) < nI 36 := by decide
    simp only [fX1_choose_6, if_pos c]
  | m + 1, v, k, hv, hk, h => by
    obtain ⟨k', rfl⟩ := up1 hk
    have hx := hg v
    have c : ¬ (35 : Int32) < nI v := fun z => by have := (xLt (a := 35) (by omega) (by omega)).mp z; omega
    have hh := h v (by omega) (by omega)
    have c2 : nI T < nI (g v) := (xLt (by omega) (by omega)).mpr (by omega)
    have o1 : nI v + (1 : Int32) = nI (v + 1) := nI_add v 1
    have y0 : mIx (0 : Int32) = 0 := rfl
    have z0 : mIn (0 : Int32) 6 = true := rfl
    have rw0 : rowR 92 0 = 93 := rw_92 (by omega)
    have k0 : ∀ x, kI 93 x = mIn x 36 := ki_92 (j := 0) (by omega)
    rw [← c_chN hT hg e m (v + 1) k' (by omega) (by omega) (fun a h1 h2 => h a (by omega) h2)]
    simp (disch := omega) only [fX1_choose_6, if_neg c, kO_85, kR_92, y0, z0, rw0, k0, g_t, b_d, b_c, b_v, Bool.and_true, Bool.and_self, Bool.true_and, xIx, xIn, e v (by omega), if_pos c2, o1]
theorem c_chS (hT : T < 1000000) {g : Nat → Nat} (hg : ∀ x, g x ≤ 1000000) (e : ∀ x, x ≤ 35 → C.1 93 x = nI (g x)) {a : Nat} (ha : a ≤ 35) (hga : g a ≤ T) : ∀ (m v k : Nat), v + m = a → m < k → (∀ a', v ≤ a' → a' < a → ¬ g a' ≤ T) → fX1_choose_6 k (nI T) (nI v) C = bndV (fX1_pickFirst (nI T) (nI a) C) fun S3 => some (nI a, S3)
  | 0, v, k, hv, hk, h => by
    obtain ⟨k', rfl⟩ := up1 hk
    have hv : v = a := by omega
    subst hv
    have hx := hg v
    have c : ¬ (35 : Int32) < nI v := fun z => by have := (xLt (a := 35) (by omega) (by omega)).mp z; omega
    have c2 : ¬ nI T < nI (g v) := fun z => by have := (xLt (by omega) (by omega)).mp z; omega
    have y0 : mIx (0 : Int32) = 0 := rfl
    have z0 : mIn (0 : Int32) 6 = true := rfl
    have rw0 : rowR 92 0 = 93 := rw_92 (by omega)
    have k0 : ∀ x, kI 93 x = mIn x 36 := ki_92 (j := 0) (by omega)
    simp (disch := omega) only [fX1_choose_6, if_neg c, kO_85, kR_92, y0, z0, rw0, k0, g_t, b_d, b_c, b_v, Bool.and_true, Bool.and_self, Bool.true_and, xIx, xIn, e v (by omega), if_neg c2]
  | m + 1, v, k, hv, hk, h => by
    obtain ⟨k', rfl⟩ := up1 hk
    have hx := hg v
    have c : ¬ (35 : Int32) < nI v := fun z => by have := (xLt (a := 35) (by omega) (by omega)).mp z; omega
    have hh := h v (by omega) (by omega)
    have c2 : nI T < nI (g v) := (xLt (by omega) (by omega)).mpr (by omega)
    have o1 : nI v + (1 : Int32) = nI (v + 1) := nI_add v 1
    have y0 : mIx (0 : Int32) = 0 := rfl
    have z0 : mIn (0 : Int32) 6 = true := rfl
    have rw0 : rowR 92 0 = 93 := rw_92 (by omega)
    have k0 : ∀ x, kI 93 x = mIn x 36 := ki_92 (j := 0) (by omega)
    rw [← c_chS hT hg e ha hga m (v + 1) k' (by omega) (by omega) (fun a h1 h2 => h a (by omega) h2)]
    simp (disch := omega) only [fX1_choose_6, if_neg c, kO_85, kR_92, y0, z0, rw0, k0, g_t, b_d, b_c, b_v, Bool.and_true, Bool.and_self, Bool.true_and, xIx, xIn, e v (by omega), if_pos c2, o1]
/-! rows of the reference -/
theorem p8 {n : Nat} (hn : n ≤ 5) : 8 ^ n ≤ 32768 := Nat.le_trans (Nat.pow_le_pow_right (by omega) hn) (by decide)
theorem m_rows4 (hn : n ≤ 5) (n2 : L.1 187 37 = nI n) : ∀ (m i k : Nat), i + m = n → m < k → fX12_rowsOf_4 k (nI (8 ^ i)) (nI i) L = some (nI (8 ^ n), L)
  | 0, i, k, hi, hk => by
    obtain ⟨k', rfl⟩ := up1 hk
    have hi : i = n := by omega
    subst hi
    have c : nI i ≤ nI i := Int32.le_refl _
    simp only [fX12_rowsOf_4, kO_187, g_t, b_d, b_c, b_v, Bool.and_true, Bool.and_self, Bool.true_and, n2, if_pos c]
  | m + 1, i, k, hi, hk => by
    obtain ⟨k', rfl⟩ := up1 hk
    have c : ¬ nI n ≤ nI i := fun z => by have := (xLe (by omega) (by omega)).mp z; omega
    have o1 : nI i + (1 : Int32) = nI (i + 1) := nI_add i 1
    have o2 : nI (8 ^ i) * (8 : Int32) = nI (8 ^ (i + 1)) := by rw [show (8 : Int32) = nI 8 from rfl, xM, ← Nat.pow_succ]
    rw [← m_rows4 hn n2 m (i + 1) k' (by omega) (by omega)]
    simp only [fX12_rowsOf_4, kO_187, g_t, b_d, b_c, b_v, Bool.and_true, Bool.and_self, Bool.true_and, n2, if_neg c, o1, o2]
theorem m_rows (hn : n ≤ 5) (n2 : L.1 187 37 = nI n) : fX12_rowsOf L = some (nI (8 ^ n), L) := m_rows4 hn n2 n 0 mK (by omega) (by have := mK_gt; omega)
def sfx (t : Nat → Nat → Nat) (n w K : Nat) : Nat := tS t K (n - K) (w % 8 ^ K)
theorem md8 (w K : Nat) : w % 8 ^ (K + 1) / 8 ^ K = w / 8 ^ K % 8 ∧ w % 8 ^ (K + 1) % 8 ^ K = w % 8 ^ K := by
  have h0 : 0 < 8 ^ K := Nat.pow_pos (by omega)
  rw [Nat.pow_succ]
  constructor
  · exact Nat.mod_mul_right_div_self _ _ _
  · exact Nat.mod_mul_right_mod _ _ _
theorem sfx_s {w K : Nat} (hK : K < n) : sfx t n w (K + 1) = t (n - (K + 1)) (w / 8 ^ K % 8) + sfx t n w K := by
  unfold sfx
  conv => lhs; unfold tS
  rw [(md8 w K).1, (md8 w K).2, show n - (K + 1) + 1 = n - K by omega]
theorem mem_s (w K : Nat) : mS (K + 1) (w % 8 ^ (K + 1)) = w / 8 ^ K % 8 + mS K (w % 8 ^ K) := by
  conv => lhs; unfold mS
  rw [(md8 w K).1, (md8 w K).2]
theorem sfx_mono {w K : Nat} : ∀ {d : Nat}, K + d ≤ n → sfx t n w K ≤ sfx t n w (K + d)
  | 0, _ => Nat.le_refl _
  | d + 1, h => by
    have := sfx_mono (w := w) (K := K) (d := d) (by omega)
    have e := sfx_s (t := t) (n := n) (w := w) (K := K + d) (by omega)
    rw [show K + (d + 1) = K + d + 1 by omega, e]
    omega
theorem sfx_le (ht : ∀ i v, t i v ≤ 999 ∨ t i v = 1000000) {w : Nat} : ∀ {K : Nat}, K ≤ n → sfx t n w K ≤ 999 * K ∨ 1000000 ≤ sfx t n w K
  | 0, _ => Or.inl (Nat.zero_le _)
  | K + 1, h => by
    have h1 := sfx_le ht (w := w) (K := K) (by omega)
    have h2 := ht (n - (K + 1)) (w / 8 ^ K % 8)
    rw [sfx_s (by omega)]
    omega
/-- the tax of a row -/
theorem m_tr17 (hn : n ≤ 5) (ht : ∀ i v, t i v ≤ 999 ∨ t i v = 1000000) {w : Nat} (hw : w < 8 ^ n) (e : ∀ (L : mT) i v, i < n → v < 8 → L.1 213 = L.1 213 → True) : ∀ (i K k : Nat) (L : mT), i + K = n → i < k → sfx t n w K < 1000000 → L.1 187 52 = nI (mS K (w % 8 ^ K)) → (∀ i v, i < n → v < 8 → L.1 213 (8 * i + v) = mtv (t i v)) → (∀ j, j < n → i ≤ j → L.1 214 j = nI (dg8 n w j)) → ∃ L', fX12_taxOfRow_17 k (nI (w / 8 ^ K)) (nI (sfx t n w K)) (nI i + (-1)) L = some (if sfx t n w n < 1000000 then nI (sfx t n w n) else -1, L') ∧ (sfx t n w n < 1000000 → L'.1 187 52 = nI (mS n w) ∧ ∀ j, j < n → L'.1 214 j = nI (dg8 n w j)) ∧ ∀ a j, a ≠ 214 → ¬ (a = 187 ∧ j = 52) → L'.1 a j = L.1 a j
  | 0, K, k, L, hi, hk, hs, em, e3, e4 => by
    obtain ⟨k', rfl⟩ := up1 hk
    have hK : K = n := by omega
    subst hK
    have c : nI 0 + (-1 : Int32) < 0 := by decide
    rw [if_pos hs]
    refine ⟨L, by simp only [fX12_taxOfRow_17, if_pos c], fun _ => ⟨?_, fun j hj => e4 j hj (by omega)⟩, fun _ _ _ _ => rfl⟩
    rw [em, Nat.mod_eq_of_lt hw]
  | i + 1, K, k, L, hi, hk, hs, em, e3, e4 => by
    obtain ⟨k', rfl⟩ := up1 hk
    have hp := p8 hn
    have o : nI (i + 1) + (-1 : Int32) = nI i := xP (by omega)
    have c : ¬ nI i < nI 0 := fun z => by have := (xLt (by omega) (by omega)).mp z; omega
    have hq : w / 8 ^ K ≤ w := Nat.div_le_self _ _
    have hd : w / 8 ^ K % 8 < 8 := Nat.mod_lt _ (by omega)
    have es := sfx_s (t := t) (n := n) (w := w) (K := K) (by omega)
    have en : n - (K + 1) = i := by omega
    rw [en] at es
    have d1 : nI (w / 8 ^ K) - nI (w / 8 ^ K) / nI 8 * nI 8 = nI (w / 8 ^ K % 8) := xMd (by omega) (by omega)
    have d2 : nI (w / 8 ^ K) / nI 8 = nI (w / 8 ^ (K + 1)) := by
      rw [xDv (by omega) (by omega), Nat.div_div_eq_div_mul, ← Nat.pow_succ]
    have d3 : nI (w / 8 ^ K) - nI (w / 8 ^ (K + 1)) * nI 8 = nI (w / 8 ^ K % 8) := by rw [← d2]; exact d1
    have d4 : (decide (¬ nI 8 = nI 0)) = true := by decide
    have d5 : nI 8 * nI i + nI (w / 8 ^ K % 8) = nI (8 * i + w / 8 ^ K % 8) := by rw [xM, nI_add]
    have ed : dg8 n w i = w / 8 ^ K % 8 := by
      unfold dg8
      rw [show n - 1 - i = K by omega]
    have q14 : (sI L 214 i (nI (w / 8 ^ K % 8))).1 214 i = nI (w / 8 ^ K % 8) := by rw [sI_rd, if_pos ⟨rfl, rfl⟩]
    have q13 : (sI L 214 i (nI (w / 8 ^ K % 8))).1 213 (8 * i + w / 8 ^ K % 8) = mtv (t i (w / 8 ^ K % 8)) := by rw [sI_rd, if_neg (by omega)]; exact e3 i _ (by omega) hd
    have q52 : (sI L 214 i (nI (w / 8 ^ K % 8))).1 187 52 = nI (mS K (w % 8 ^ K)) := by rw [sI_rd, if_neg (by omega)]; exact em
    have o52 : nI (mS K (w % 8 ^ K)) + nI (w / 8 ^ K % 8) = nI (mS (K + 1) (w % 8 ^ (K + 1))) := by
      rw [nI_add, mem_s]
      exact congrArg nI (by omega)
    rw [o]
    by_cases q : t i (w / 8 ^ K % 8) = 1000000
    · have hbig : ¬ sfx t n w n < 1000000 := by
        have := sfx_mono (t := t) (n := n) (w := w) (K := K + 1) (d := i) (by omega)
        rw [show K + 1 + i = n by omega] at this
        omega
      have et : mtv (t i (w / 8 ^ K % 8)) = -nI 1 := if_pos q
      have c2 : ¬ nI 0 ≤ -nI 1 := by decide
      rw [if_neg hbig]
      refine ⟨sI L 214 i (nI (w / 8 ^ K % 8)), ?_, fun z => absurd z hbig, fun a j g _ => by rw [sI_rd, if_neg (by omega)]⟩
      simp (disch := omega) only [fX12_taxOfRow_17, g_t, b_d, b_c, b_v, Bool.and_true, Bool.and_self, Bool.true_and, xL, if_neg c, kO_187, kI_213, kI_214, d4, d2, d3, xIx, xIn, q14, d5, q13, et, if_neg c2]
    · have et : mtv (t i (w / 8 ^ K % 8)) = nI (t i (w / 8 ^ K % 8)) := if_neg q
      have ht' := ht i (w / 8 ^ K % 8)
      have hle := sfx_le (n := n) ht (w := w) (K := K) (by omega)
      have c2 : nI 0 ≤ nI (t i (w / 8 ^ K % 8)) := (xLe (by omega) (by omega)).mpr (by omega)
      have o2 : nI (sfx t n w K) + nI (t i (w / 8 ^ K % 8)) = nI (sfx t n w (K + 1)) := by
        rw [nI_add, es]
        exact congrArg nI (by omega)
      obtain ⟨L', r1, r2, r3⟩ := m_tr17 hn ht hw e i (K + 1) k' (sI (sI L 214 i (nI (w / 8 ^ K % 8))) 187 52 (nI (mS (K + 1) (w % 8 ^ (K + 1))))) (by omega) (by omega) (by omega) (by rw [sI_rd, if_pos ⟨rfl, rfl⟩]) (fun i' v g1 g2 => by rw [sI_rd, if_neg (by omega), sI_rd, if_neg (by omega)]; exact e3 i' v g1 g2) (fun j g1 g2 => by
        rw [sI_rd, if_neg (by omega), sI_rd]
        by_cases z : j = i
        · rw [if_pos ⟨rfl, z⟩, z, ed]
        · rw [if_neg (by omega)]
          exact e4 j g1 (by omega))
      refine ⟨L', ?_, r2, fun a j g1 g2 => by rw [r3 a j g1 g2, sI_rd, if_neg (by omega), sI_rd, if_neg (by omega)]⟩
      rw [← r1]
      simp (disch := omega) only [fX12_taxOfRow_17, g_t, b_d, b_c, b_v, Bool.and_true, Bool.and_self, Bool.true_and, xL, if_neg c, kO_187, kI_213, kI_214, d4, d2, d3, xIx, xIn, q14, d5, q13, et, if_pos c2, q52, o52, o2]
theorem sfx_n {w : Nat} (hw : w < 8 ^ n) : sfx t n w n = tS t n 0 w := by
  unfold sfx
  rw [Nat.sub_self, Nat.mod_eq_of_lt hw]
theorem m_tr (hn : n ≤ 5) (ht : ∀ i v, t i v ≤ 999 ∨ t i v = 1000000) {w : Nat} (hw : w < 8 ^ n) (n2 : L.1 187 37 = nI n) (e : ∀ i v, i < n → v < 8 → L.1 213 (8 * i + v) = mtv (t i v)) : ∃ L', fX12_taxOfRow (nI w) L = some (if tS t n 0 w < 1000000 then nI (tS t n 0 w) else -1, L') ∧ (tS t n 0 w < 1000000 → L'.1 187 52 = nI (mS n w) ∧ ∀ j, j < n → L'.1 214 j = nI (dg8 n w j)) ∧ ∀ a j, a ≠ 214 → ¬ (a = 187 ∧ j = 52) → L'.1 a j = L.1 a j := by
  have s0 : sfx t n w 0 = 0 := rfl
  obtain ⟨L', r1, r2, r3⟩ := m_tr17 hn ht hw (fun _ _ _ _ _ _ => trivial) n 0 mK (sI L 187 52 (nI 0)) (by omega) (by have := mK_gt; omega) (by omega) (by rw [sI_rd, if_pos ⟨rfl, rfl⟩]; rfl) (fun i v g1 g2 => by rw [sI_rd, if_neg (by omega)]; exact e i v g1 g2) (fun j g1 g2 => by omega)
  rw [sfx_n hw] at r1 r2
  refine ⟨L', ?_, r2, fun a j g1 g2 => by rw [r3 a j g1 g2, sI_rd, if_neg (by omega)]⟩
  rw [← r1, s0, Nat.pow_zero, Nat.div_one]
  have n3 : (sI L 187 52 (nI 0)).1 187 37 = nI n := by rw [sI_rd, if_neg (by omega)]; exact n2
  have o : nI n - nI 1 = nI n + (-nI 1) := Int32.sub_eq_add_neg _ _
  unfold fX12_taxOfRow
  simp only [xL, kO_187, g_t, b_d, b_c, b_v, Bool.and_true, Bool.and_self, Bool.true_and, n3, o]
end
