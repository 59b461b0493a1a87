/-! BITS of numbers. -/
theorem nI_or (a b : Nat) : nI a ||| nI b = nI (a ||| b) := by
  apply Int32.toBitVec.inj
  show BitVec.ofNat 32 a ||| BitVec.ofNat 32 b = BitVec.ofNat 32 (a ||| b)
  rw [BitVec.ofNat_or]
theorem nI_and (a b : Nat) : nI a &&& nI b = nI (a &&& b) := by
  apply Int32.toBitVec.inj
  show BitVec.ofNat 32 a &&& BitVec.ofNat 32 b = BitVec.ofNat 32 (a &&& b)
  rw [BitVec.ofNat_and]
theorem sm32 : ∀ h, h < 32 → (nI h &&& (31 : Int32)).toBitVec.smod 32 = BitVec.ofNat 32 h := by decide +kernel
theorem shl1 : ∀ h, h < 31 → (1 : Int32) <<< (nI h &&& 31) = nI (2 ^ h) := by decide +kernel
theorem shr_n {a h : Nat} (ha : a < 2147483648) (hh : h < 32) : nI a >>> (nI h &&& 31) = nI (a / 2 ^ h) := by
  apply Int32.toBitVec.inj
  show (BitVec.ofNat 32 a).sshiftRight' ((nI h &&& (31 : Int32)).toBitVec.smod 32) = BitVec.ofNat 32 (a / 2 ^ h)
  rw [sm32 h hh, BitVec.sshiftRight'_ofNat_eq_sshiftRight, Nat.mod_eq_of_lt (by omega : h < 2 ^ 32)]
  apply BitVec.eq_of_toNat_eq
  have hm : (BitVec.ofNat 32 a).msb = false := by
    rw [BitVec.msb_eq_decide]
    simp
    omega
  rw [BitVec.toNat_sshiftRight_of_msb_false hm, BitVec.toNat_ofNat, BitVec.toNat_ofNat, Nat.mod_eq_of_lt (by omega : a < 2 ^ 32), Nat.shiftRight_eq_div_pow]
  have : a / 2 ^ h ≤ a := Nat.div_le_self _ _
  rw [Nat.mod_eq_of_lt (by omega)]
theorem and1_n (a : Nat) : nI a &&& (1 : Int32) = nI (a % 2) := by
  rw [show (1 : Int32) = nI 1 from rfl, nI_and]
  exact congrArg nI (Nat.and_two_pow_sub_one_eq_mod a 1)
theorem and7_n (a : Nat) : nI a &&& (7 : Int32) = nI (a % 8) := by
  rw [show (7 : Int32) = nI 7 from rfl, nI_and]
  exact congrArg nI (Nat.and_two_pow_sub_one_eq_mod a 3)
/-- is a bit set -/
theorem bit_n {a h : Nat} (ha : a < 2147483648) (hh : h < 32) : (nI a >>> (nI h &&& 31)) &&& (1 : Int32) = nI (a / 2 ^ h % 2) := by rw [shr_n ha hh, and1_n]
theorem bit_eq {a h : Nat} (ha : a < 2147483648) (hh : h < 32) : ((nI a >>> (nI h &&& 31)) &&& (1 : Int32) = 1) ↔ a / 2 ^ h % 2 = 1 := by
  rw [bit_n ha hh]
  exact xEq (b := 1) (by omega) (by omega)
/-! what a row has in a house -/
section
variable {n : Nat} {L : mT}
theorem s_head (hn : n ≤ 5) (n2 : L.1 187 37 = nI n) {w h : Nat} (hw : w < 8 ^ n) (hh : h < n) : fX12_headOf (nI w) (nI h) L = some (nI (dg8 n w h), L) := by
  have hp := p8 hn
  have o1 : nI n - (1 : Int32) - nI h = nI (n - 1 - h) := by rw [show (1 : Int32) = nI 1 from rfl, xS (by omega), xS (by omega)]
  have o2 : (3 : Int32) * nI (n - 1 - h) = nI (3 * (n - 1 - h)) := xM 3 _
  unfold fX12_headOf
  rw [kO_187, n2, o1, o2, shr_n (by omega) (by omega), and7_n]
  have e : 2 ^ (3 * (n - 1 - h)) = 8 ^ (n - 1 - h) := by rw [Nat.pow_mul]
  rw [e]
  rfl
end
/-- the heads of a set together -/
theorem sSet_le (n w s : Nat) : ∀ h, sSet n w s h ≤ 7 * h
  | 0 => Nat.le_refl _
  | h + 1 => by
    have h1 := sSet_le n w s h
    have h2 : dg8 n w h < 8 := Nat.mod_lt _ (by omega)
    unfold sSet
    split
    · omega
    · omega
/-- is a report not so -/
theorem lcR_le (c b : Nat → Bool) : ∀ j, lcR c b j ≤ j
  | 0 => Nat.le_refl _
  | j + 1 => by
    have := lcR_le c b j
    unfold lcR
    split
    · omega
    · omega
theorem lcR_mono (c b : Nat → Bool) {i : Nat} : ∀ {j : Nat}, i ≤ j → lcR c b i ≤ lcR c b j
  | 0, h => by
    have : i = 0 := by omega
    subst this
    exact Nat.le_refl _
  | j + 1, h => by
    by_cases q : i = j + 1
    · rw [q]
      exact Nat.le_refl _
    · have := lcR_mono c b (i := i) (j := j) (by omega)
      conv => rhs; unfold lcR
      split
      · omega
      · omega
/-- the reports as the reference has them; who counts at v -/
def mRp (n r : Nat) (st lo hi : Nat → Nat) (L : mT) : Prop := L.1 187 37 = nI n ∧ L.1 187 66 = nI r ∧ ∀ j, j < r → L.1 224 j = nI (st j) ∧ L.1 225 j = nI (lo j) ∧ L.1 226 j = nI (hi j)
def cjM (v : Int32) (L : mT) (j : Nat) : Bool := !(decide (v < L.1 227 j)) && (decide (L.1 228 j < 0) || decide (v < L.1 228 j))
section
variable {n r : Nat} {st lo hi : Nat → Nat} {L : mT}
theorem m_lo62 (hn : n ≤ 5) (hr : r ≤ 30) (hst : ∀ j, j < r → st j < 32 ∧ lo j ≤ 35 ∧ hi j ≤ 35) (h : mRp n r st lo hi L) {w j : Nat} (hw : w < 8 ^ n) (hj : j < r) (v en : Int32) (x : Nat) (rc : Int32 → Int32 → Int32 → Int32 → Int32 → mT → Option (Int32 × mT)) : ∀ (m i k : Nat), i + m = n → m < k → fX12_liarsOf_62 rc k (nI w) v en (nI x) (nI j) (nI (sSet n w (st j) i)) (nI i) L = rc (nI w) v en (nI (if bad n w (st j) (lo j) (hi j) = true then x + 1 else x)) (nI (j + 1)) L
  | 0, i, k, hi', hk => by
    obtain ⟨k', rfl⟩ := up1 hk
    have hi' : i = n := by omega
    subst hi'
    obtain ⟨e1, e2, e3⟩ := h.2.2 j hj
    obtain ⟨b1, b2, b3⟩ := hst j hj
    have hs := sSet_le i w (st j) i
    have c : nI i ≤ nI i := Int32.le_refl _
    have o1 : nI j + (1 : Int32) = nI (j + 1) := nI_add j 1
    have o2 : nI x + (1 : Int32) = nI (x + 1) := nI_add x 1
    have o3 : nI x + (0 : Int32) = nI x := Int32.add_zero _
    have t1 : ¬ (1 : Int32) = 0 := by decide
    unfold bad
    by_cases q1 : sSet i w (st j) i < lo j
    · have q1' : nI (sSet i w (st j) i) < nI (lo j) := (xLt (by omega) (by omega)).mpr q1
      rw [show (decide (sSet i w (st j) i < lo j) || decide (hi j < sSet i w (st j) i)) = true by simp [q1], if_pos rfl]
      simp (disch := omega) only [fX12_liarsOf_62, fX12_liarsOf_131, fX12_liarsOf_136, fX12_liarsOf_142, kO_187, kI_225, g_t, b_d, b_c, b_v, Bool.and_true, Bool.and_self, Bool.true_and, h.1, if_pos c, xIx, xIn, e2, if_pos q1', s_truth, if_neg t1, o2, o1]
    · have q1' : ¬ nI (sSet i w (st j) i) < nI (lo j) := fun y => q1 ((xLt (by omega) (by omega)).mp y)
      by_cases q2 : sSet i w (st j) i ≤ hi j
      · have q2' : nI (sSet i w (st j) i) ≤ nI (hi j) := (xLe (by omega) (by omega)).mpr q2
        rw [show (decide (sSet i w (st j) i < lo j) || decide (hi j < sSet i w (st j) i)) = false by simp [q1]; omega, if_neg (by decide)]
        simp (disch := omega) only [fX12_liarsOf_62, fX12_liarsOf_136, fX12_liarsOf_142, kO_187, kI_225, kI_226, g_t, b_d, b_c, b_v, Bool.and_true, Bool.and_self, Bool.true_and, h.1, if_pos c, xIx, xIn, e2, if_neg q1', e3, if_pos q2', s_truth, if_true, o3, o1]
      · have q2' : ¬ nI (sSet i w (st j) i) ≤ nI (hi j) := fun y => q2 ((xLe (by omega) (by omega)).mp y)
        rw [show (decide (sSet i w (st j) i < lo j) || decide (hi j < sSet i w (st j) i)) = true by simp; omega, if_pos rfl]
        simp (disch := omega) only [fX12_liarsOf_62, fX12_liarsOf_131, fX12_liarsOf_136, fX12_liarsOf_142, kO_187, kI_225, kI_226, g_t, b_d, b_c, b_v, Bool.and_true, Bool.and_self, Bool.true_and, h.1, if_pos c, xIx, xIn, e2, if_neg q1', e3, if_neg q2', s_truth, if_neg t1, o2, o1]
  | m + 1, i, k, hi', hk => by
    obtain ⟨k', rfl⟩ := up1 hk
    obtain ⟨e1, e2, e3⟩ := h.2.2 j hj
    obtain ⟨b1, b2, b3⟩ := hst j hj
    have c : ¬ nI n ≤ nI i := fun y => by have := (xLe (by omega) (by omega)).mp y; omega
    have o1 : nI i + (1 : Int32) = nI (i + 1) := nI_add i 1
    have hb := bit_eq (a := st j) (h := i) (by omega) (by omega)
    have hh := s_head hn h.1 hw (h := i) (by omega)
    rw [← m_lo62 hn hr hst h hw hj v en x rc m (i + 1) k' (by omega) (by omega)]
    by_cases q : st j / 2 ^ i % 2 = 1
    · have q' := hb.mpr q
      have es : sSet n w (st j) (i + 1) = sSet n w (st j) i + dg8 n w i := if_pos q
      rw [es]
      simp (disch := omega) only [fX12_liarsOf_62, fX12_liarsOf_99, kO_187, kI_224, g_t, b_d, b_c, b_v, Bool.and_true, Bool.and_self, Bool.true_and, h.1, if_neg c, xIx, xIn, e1, if_pos q', hh, nI_add, o1]
    · have q' : ¬ _ := fun y => q (hb.mp y)
      have es : sSet n w (st j) (i + 1) = sSet n w (st j) i := if_neg q
      rw [es]
      simp (disch := omega) only [fX12_liarsOf_62, fX12_liarsOf_99, kO_187, kI_224, g_t, b_d, b_c, b_v, Bool.and_true, Bool.and_self, Bool.true_and, h.1, if_neg c, xIx, xIn, e1, if_neg q', o1]
/-- how many reports are not so: as far as it matters -/
theorem m_lo6 (hn : n ≤ 5) (hr : r ≤ 30) (hst : ∀ j, j < r → st j < 32 ∧ lo j ≤ 35 ∧ hi j ≤ 35) (h : mRp n r st lo hi L) {w : Nat} (hw : w < 8 ^ n) (v : Int32) {en : Nat} (hen : en ≤ 31) : ∀ (m j k : Nat), j + m = r → m < k → lcR (cjM v L) (fun j => bad n w (st j) (lo j) (hi j)) j ≤ en + 1 → fX12_liarsOf_6 k (nI w) v (nI en) (nI (lcR (cjM v L) (fun j => bad n w (st j) (lo j) (hi j)) j)) (nI j) L = some (nI (min (lcR (cjM v L) (fun j => bad n w (st j) (lo j) (hi j)) r) (en + 1)), L)
  | 0, j, k, hj, hk, hle => by
    obtain ⟨k', rfl⟩ := up1 hk
    have hj : j = r := by omega
    subst hj
    have c : nI j ≤ nI j := Int32.le_refl _
    rw [Nat.min_eq_left hle]
    simp only [fX12_liarsOf_6, fX12_liarsOf_148, kO_187, g_t, b_d, b_c, b_v, Bool.and_true, Bool.and_self, Bool.true_and, h.2.1, if_pos c]
  | m + 1, j, k, hj, hk, hle => by
    obtain ⟨k', rfl⟩ := up1 hk
    have c : ¬ nI r ≤ nI j := fun y => by have := (xLe (by omega) (by omega)).mp y; omega
    have o1 : nI j + (1 : Int32) = nI (j + 1) := nI_add j 1
    by_cases q : en < lcR (cjM v L) (fun j => bad n w (st j) (lo j) (hi j)) j
    · have q' : nI en < nI (lcR (cjM v L) (fun j => bad n w (st j) (lo j) (hi j)) j) := (xLt (by omega) (by omega)).mpr q
      have hm := lcR_mono (cjM v L) (fun j => bad n w (st j) (lo j) (hi j)) (i := j) (j := r) (by omega)
      rw [Nat.min_eq_right (by omega), show en + 1 = lcR (cjM v L) (fun j => bad n w (st j) (lo j) (hi j)) j by omega]
      simp only [fX12_liarsOf_6, fX12_liarsOf_148, kO_187, g_t, b_d, b_c, b_v, Bool.and_true, Bool.and_self, Bool.true_and, h.2.1, if_neg c, if_pos q']
    · have q' : ¬ nI en < nI (lcR (cjM v L) (fun j => bad n w (st j) (lo j) (hi j)) j) := fun y => q ((xLt (by omega) (by omega)).mp y)
      have hs := m_lo62 hn hr hst h hw (j := j) (by omega) v (nI en) (lcR (cjM v L) (fun j => bad n w (st j) (lo j) (hi j)) j) (fX12_liarsOf_6 k') n 0 mK (by omega) (by have := mK_gt; omega)
      have hcount : cjM v L j = true → lcR (cjM v L) (fun j => bad n w (st j) (lo j) (hi j)) (j + 1) = if bad n w (st j) (lo j) (hi j) = true then lcR (cjM v L) (fun j => bad n w (st j) (lo j) (hi j)) j + 1 else lcR (cjM v L) (fun j => bad n w (st j) (lo j) (hi j)) j := fun hc => by
        conv => lhs; unfold lcR
        rw [hc, Bool.true_and]
      have hskip : cjM v L j = false → lcR (cjM v L) (fun j => bad n w (st j) (lo j) (hi j)) (j + 1) = lcR (cjM v L) (fun j => bad n w (st j) (lo j) (hi j)) j := fun hc => by
        conv => lhs; unfold lcR
        rw [hc, Bool.false_and]
        rfl
      have IH := m_lo6 hn hr hst h hw v hen m (j + 1) k' (by omega) (by omega)
      have sk : cjM v L j = false → fX12_liarsOf_142 (fX12_liarsOf_6 k') (nI w) v (nI en) (nI (lcR (cjM v L) (fun j => bad n w (st j) (lo j) (hi j)) j)) (nI j) L = some (nI (min (lcR (cjM v L) (fun j => bad n w (st j) (lo j) (hi j)) r) (en + 1)), L) := fun hc => by
        rw [hskip hc] at IH
        rw [← IH hle]
        simp only [fX12_liarsOf_142, g_t, b_d, b_c, b_v, Bool.and_true, Bool.and_self, Bool.true_and, o1]
      have gl : cjM v L j = true → fX12_liarsOf_56 (fX12_liarsOf_6 k') (nI w) v (nI en) (nI (lcR (cjM v L) (fun j => bad n w (st j) (lo j) (hi j)) j)) (nI j) L = some (nI (min (lcR (cjM v L) (fun j => bad n w (st j) (lo j) (hi j)) r) (en + 1)), L) := fun hc => by
        rw [hcount hc] at IH
        have := IH (by split <;> omega)
        rw [← this, ← hs]
        rfl
      by_cases d1 : v < L.1 227 j
      · have hc : cjM v L j = false := by
          unfold cjM
          simp [d1]
        have := sk hc
        simp (disch := omega) only [fX12_liarsOf_6, kO_187, kI_227, g_t, b_d, b_c, b_v, Bool.and_true, Bool.and_self, Bool.true_and, h.2.1, if_neg c, if_neg q', xIx, xIn, if_pos d1, this]
      · by_cases d2 : L.1 228 j < 0
        · have hc : cjM v L j = true := by
            unfold cjM
            simp [d1, d2]
          have := gl hc
          simp (disch := omega) only [fX12_liarsOf_6, kO_187, kI_227, kI_228, g_t, b_d, b_c, b_v, Bool.and_true, Bool.and_self, Bool.true_and, h.2.1, if_neg c, if_neg q', xIx, xIn, if_neg d1, if_pos d2, this]
        · by_cases d3 : v < L.1 228 j
          · have hc : cjM v L j = true := by
              unfold cjM
              simp [d1, d3]
            have := gl hc
            simp (disch := omega) only [fX12_liarsOf_6, kO_187, kI_227, kI_228, g_t, b_d, b_c, b_v, Bool.and_true, Bool.and_self, Bool.true_and, h.2.1, if_neg c, if_neg q', xIx, xIn, if_neg d1, if_neg d2, if_pos d3, this]
          · have hc : cjM v L j = false := by
              unfold cjM
              simp [d1, d2, d3]
            have := sk hc
            simp (disch := omega) only [fX12_liarsOf_6, kO_187, kI_227, kI_228, g_t, b_d, b_c, b_v, Bool.and_true, Bool.and_self, Bool.true_and, h.2.1, if_neg c, if_neg q', xIx, xIn, if_neg d1, if_neg d2, if_neg d3, this]
theorem m_lo (hn : n ≤ 5) (hr : r ≤ 30) (hst : ∀ j, j < r → st j < 32 ∧ lo j ≤ 35 ∧ hi j ≤ 35) (h : mRp n r st lo hi L) {w : Nat} (hw : w < 8 ^ n) (v : Int32) {en : Nat} (hen : en ≤ 31) : fX12_liarsOf (nI w) v (nI en) L = some (nI (min (lcW n r st lo hi (cjM v L) w) (en + 1)), L) :=
  m_lo6 hn hr hst h hw v hen r 0 mK (by omega) (by have := mK_gt; omega) (Nat.zero_le _)
end
