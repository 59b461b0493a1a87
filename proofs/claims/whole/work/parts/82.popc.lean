/-! How many bits a number has, as the library counts them. -/
theorem and256 {a c : Nat} (u m : Nat) (ha : a < 256) (hc : c < 256) : (256 * u + a) &&& (256 * m + c) = 256 * (u &&& m) + (a &&& c) := by
  have h1 : a < 2 ^ 8 := ha
  have h2 : c < 2 ^ 8 := hc
  have h3 : a &&& c < 2 ^ 8 := Nat.and_lt_two_pow a h2
  apply Nat.eq_of_testBit_eq
  intro i
  rw [Nat.testBit_and, show 256 = 2 ^ 8 from rfl, Nat.testBit_two_pow_mul_add u h1, Nat.testBit_two_pow_mul_add m h2, Nat.testBit_two_pow_mul_add _ h3]
  split
  · rw [Nat.testBit_and]
  · rw [Nat.testBit_and]
def pt1 (m v : Nat) : Nat := v - (v / 2 &&& m)
def pt2 (m v : Nat) : Nat := (v &&& m) + (v / 4 &&& m)
def pt3 (m v : Nat) : Nat := (v + v / 16) &&& m
theorem pd1 : ∀ e, e < 2 → ∀ a, a < 128 → (128 * e + a) &&& 85 = a &&& 85 := by decide +kernel
theorem pd2 : ∀ e, e < 4 → ∀ a, a < 64 → (64 * e + a) &&& 51 = a &&& 51 := by decide +kernel
theorem pd3 : ∀ e, e < 5 → ∀ a, a < 69 → (16 * e + a + a / 16) &&& 15 = (a + a / 16) &&& 15 := by decide +kernel
theorem pt1_b {a : Nat} (u m : Nat) (ha : a < 256) : pt1 (256 * m + 85) (256 * u + a) = 256 * pt1 m u + pt1 85 a := by
  unfold pt1
  have e : (256 * u + a) / 2 = 256 * (u / 2) + (128 * (u % 2) + a / 2) := by omega
  rw [e, and256 _ _ (by omega) (by omega), pd1 (u % 2) (by omega) (a / 2) (by omega)]
  have h1 : u / 2 &&& m ≤ u / 2 := Nat.and_le_left
  have h2 : a / 2 &&& 85 ≤ a / 2 := Nat.and_le_left
  omega
theorem pt2_b {a : Nat} (u m : Nat) (ha : a < 256) : pt2 (256 * m + 51) (256 * u + a) = 256 * pt2 m u + pt2 51 a := by
  unfold pt2
  have e : (256 * u + a) / 4 = 256 * (u / 4) + (64 * (u % 4) + a / 4) := by omega
  rw [e, and256 _ _ (by omega) (by omega), and256 _ _ (by omega) (by omega), pd2 (u % 4) (by omega) (a / 4) (by omega)]
  omega
theorem pt3_b {a : Nat} (u m : Nat) (ha : a < 69) (hu : u % 16 < 5) : pt3 (256 * m + 15) (256 * u + a) = 256 * pt3 m u + pt3 15 a := by
  unfold pt3
  have e : 256 * u + a + (256 * u + a) / 16 = 256 * (u + u / 16) + (16 * (u % 16) + a + a / 16) := by omega
  rw [e, and256 _ _ (by omega) (by omega), pd3 (u % 16) hu a ha]
theorem pby : ∀ b, b < 256 → pt1 85 b < 256 ∧ pt2 51 (pt1 85 b) < 69 ∧ pt2 51 (pt1 85 b) % 16 < 5 ∧ pt3 15 (pt2 51 (pt1 85 b)) = pcN b 8 ∧ pcN b 8 ≤ 8 := by decide +kernel
theorem pcN_8 (a : Nat) : pcN a 8 = pcN (a % 256) 8 := by
  simp only [pcN]
  omega
theorem pcN_b (a : Nat) : ∀ k, pcN a (8 + k) = pcN (a % 256) 8 + pcN (a / 256) k
  | 0 => pcN_8 a
  | k + 1 => by
    have ih := pcN_b a k
    show pcN a (8 + k) + a / 2 ^ (8 + k) % 2 = _ + (pcN (a / 256) k + a / 256 / 2 ^ k % 2)
    rw [ih, Nat.pow_add, ← Nat.div_div_eq_div_mul, show 2 ^ 8 = 256 from rfl]
    omega
theorem pc_sum {p0 p1 p2 p3 x : Nat} (h0 : p0 ≤ 8) (h1 : p1 ≤ 8) (h2 : p2 ≤ 8) (h3 : p3 ≤ 8) (hx : x = 256 * (256 * (256 * p3 + p2) + p1) + p0) : (x + x / 256 + (x + x / 256) / 65536) % 64 = p0 + (p1 + (p2 + p3)) := by
  have e1 : x / 256 = 256 * (256 * p3 + p2) + p1 := by omega
  have e2 : (x + x / 256) / 65536 = 256 * p3 + (p2 + p3) := by
    rw [e1]
    omega
  rw [e2, e1]
  omega
/-- the whole way, of four bytes -/
theorem pc_way {a : Nat} (ha : a < 4294967296) : ∃ x1 x2 x3, pt1 1431655765 a = x1 ∧ pt2 858993459 x1 = x2 ∧ pt3 252645135 x2 = x3 ∧ x1 < 4294967296 ∧ x2 < 4294967296 ∧ x3 < 4294967296 ∧ (x3 + x3 / 256 + (x3 + x3 / 256) / 65536) % 64 = pcN a 32 ∧ x3 / 256 ≤ x3 ∧ x3 % 256 ≤ 8 ∧ x3 / 256 % 256 ≤ 8 ∧ x3 / 65536 % 256 ≤ 8 ∧ x3 / 16777216 ≤ 8 ∧ x2 / 16777216 ≤ 68 := by
  have ea : a = 256 * (256 * (256 * (a / 16777216) + a / 65536 % 256) + a / 256 % 256) + a % 256 := by omega
  have hp : pcN a 32 = pcN (a % 256) 8 + (pcN (a / 256 % 256) 8 + (pcN (a / 65536 % 256) 8 + pcN (a / 16777216) 8)) := by
    rw [show 32 = 8 + 24 from rfl, pcN_b, show 24 = 8 + 16 from rfl, pcN_b, show 16 = 8 + 8 from rfl, pcN_b, Nat.div_div_eq_div_mul, Nat.div_div_eq_div_mul]
  have g3 : a / 16777216 < 256 := by omega
  generalize a / 16777216 = b3 at *
  have g2 : a / 65536 % 256 < 256 := by omega
  generalize a / 65536 % 256 = b2 at *
  have g1 : a / 256 % 256 < 256 := by omega
  generalize a / 256 % 256 = b1 at *
  have g0 : a % 256 < 256 := by omega
  generalize a % 256 = b0 at *
  rw [hp]
  obtain ⟨p0, q0, r0, s0, t0⟩ := pby b0 g0
  obtain ⟨p1, q1, r1, s1, t1⟩ := pby b1 g1
  obtain ⟨p2, q2, r2, s2, t2⟩ := pby b2 g2
  obtain ⟨p3, q3, r3, s3, t3⟩ := pby b3 g3
  have e1 : pt1 1431655765 a = 256 * (256 * (256 * pt1 85 b3 + pt1 85 b2) + pt1 85 b1) + pt1 85 b0 := by
    rw [ea, show 1431655765 = 256 * (256 * (256 * 85 + 85) + 85) + 85 from rfl, pt1_b _ _ g0, pt1_b _ _ g1, pt1_b _ _ g2]
  have e2 : pt2 858993459 (256 * (256 * (256 * pt1 85 b3 + pt1 85 b2) + pt1 85 b1) + pt1 85 b0) = 256 * (256 * (256 * pt2 51 (pt1 85 b3) + pt2 51 (pt1 85 b2)) + pt2 51 (pt1 85 b1)) + pt2 51 (pt1 85 b0) := by
    rw [show 858993459 = 256 * (256 * (256 * 51 + 51) + 51) + 51 from rfl, pt2_b _ _ p0, pt2_b _ _ p1, pt2_b _ _ p2]
  have e3 : pt3 252645135 (256 * (256 * (256 * pt2 51 (pt1 85 b3) + pt2 51 (pt1 85 b2)) + pt2 51 (pt1 85 b1)) + pt2 51 (pt1 85 b0)) = 256 * (256 * (256 * pcN b3 8 + pcN b2 8) + pcN b1 8) + pcN b0 8 := by
    rw [show 252645135 = 256 * (256 * (256 * 15 + 15) + 15) + 15 from rfl, pt3_b _ _ q0 (by omega), pt3_b _ _ q1 (by omega), pt3_b _ _ q2 (by omega), s0, s1, s2, s3]
  have es := pc_sum t0 t1 t2 t3 rfl
  generalize hx3 : 256 * (256 * (256 * pcN b3 8 + pcN b2 8) + pcN b1 8) + pcN b0 8 = x3 at *
  generalize hx2 : 256 * (256 * (256 * pt2 51 (pt1 85 b3) + pt2 51 (pt1 85 b2)) + pt2 51 (pt1 85 b1)) + pt2 51 (pt1 85 b0) = x2 at *
  generalize hx1 : 256 * (256 * (256 * pt1 85 b3 + pt1 85 b2) + pt1 85 b1) + pt1 85 b0 = x1 at *
  clear ea hp s0 s1 s2 s3
  refine ⟨_, _, _, e1, e2, e3, ?_, ?_, ?_, es, ?_, ?_, ?_, ?_, ?_, ?_⟩ <;> clear e1 e2 e3 es <;> omega
theorem ush_n {a h : Nat} (ha : a < 2147483648) (hh : h < 32) (hb : (((nI h).toUInt32 &&& Int32.toUInt32 31).toBitVec % 32).toNat = h) : ((nI a).toUInt32 >>> ((nI h).toUInt32 &&& Int32.toUInt32 31)).toInt32 = nI (a / 2 ^ h) := by
  apply Int32.toBitVec.inj
  show ((nI a).toUInt32 >>> ((nI h).toUInt32 &&& Int32.toUInt32 31)).toBitVec = BitVec.ofNat 32 (a / 2 ^ h)
  rw [UInt32.toBitVec_shiftRight]
  apply BitVec.eq_of_toNat_eq
  rw [BitVec.ushiftRight_eq', BitVec.toNat_ushiftRight, hb, BitVec.toNat_ofNat]
  show (BitVec.ofNat 32 a).toNat >>> h = _
  rw [BitVec.toNat_ofNat, Nat.mod_eq_of_lt (by omega : a < 2 ^ 32), Nat.shiftRight_eq_div_pow]
  have : a / 2 ^ h ≤ a := Nat.div_le_self _ _
  rw [Nat.mod_eq_of_lt (by omega)]
theorem s_bc {a : Nat} (ha : a < 1073741824) (S : mT) : fJ6_bitCount_0f7a4 (nI a) S = some (nI (pcN a 32), S) := by
  obtain ⟨x1, x2, x3, e1, e2, e3, h1, h2, h3, h4, h5, h6, h7, h8, h9, h10⟩ := pc_way (a := a) (by omega)
  have w1 : x1 ≤ a := by
    rw [← e1]
    unfold pt1
    omega
  have w2 : x2 < 1157627904 := by omega
  have w3 : x3 < 150994944 := by omega
  have z : ∀ b h, b < 2147483648 → (h = 1 ∨ h = 2 ∨ h = 4 ∨ h = 8 ∨ h = 16) → ((nI b).toUInt32 >>> ((nI h).toUInt32 &&& Int32.toUInt32 31)).toInt32 = nI (b / 2 ^ h) := fun b h hb hh => ush_n hb (by omega) (by rcases hh with rfl | rfl | rfl | rfl | rfl <;> decide)
  have s1 : nI a - (((nI a).toUInt32 >>> ((1 : Int32).toUInt32 &&& Int32.toUInt32 31)).toInt32 &&& (1431655765 : Int32)) = nI x1 := by
    have := z a 1 (by omega) (by omega)
    rw [show (1 : Int32) = nI 1 from rfl, this, show (1431655765 : Int32) = nI 1431655765 from rfl, nI_and, xS (Nat.le_trans Nat.and_le_left (Nat.div_le_self _ _)), ← e1]
    rfl
  have s2 : (nI x1 &&& (858993459 : Int32)) + (((nI x1).toUInt32 >>> ((2 : Int32).toUInt32 &&& Int32.toUInt32 31)).toInt32 &&& (858993459 : Int32)) = nI x2 := by
    have := z x1 2 (by omega) (by omega)
    rw [show (2 : Int32) = nI 2 from rfl, this, show (858993459 : Int32) = nI 858993459 from rfl, nI_and, nI_and, nI_add, ← e2]
    rfl
  have s3 : (nI x2 + ((nI x2).toUInt32 >>> ((4 : Int32).toUInt32 &&& Int32.toUInt32 31)).toInt32) &&& (252645135 : Int32) = nI x3 := by
    have := z x2 4 (by omega) (by omega)
    rw [show (4 : Int32) = nI 4 from rfl, this, nI_add, show (252645135 : Int32) = nI 252645135 from rfl, nI_and, ← e3]
    rfl
  have s4 : nI x3 + ((nI x3).toUInt32 >>> ((8 : Int32).toUInt32 &&& Int32.toUInt32 31)).toInt32 = nI (x3 + x3 / 256) := by
    have := z x3 8 (by omega) (by omega)
    rw [show (8 : Int32) = nI 8 from rfl, this, nI_add]
  have s5 : nI (x3 + x3 / 256) + ((nI (x3 + x3 / 256)).toUInt32 >>> ((16 : Int32).toUInt32 &&& Int32.toUInt32 31)).toInt32 = nI (x3 + x3 / 256 + (x3 + x3 / 256) / 65536) := by
    have := z (x3 + x3 / 256) 16 (by omega) (by omega)
    rw [show (16 : Int32) = nI 16 from rfl, this, nI_add]
  have s6 : nI (x3 + x3 / 256 + (x3 + x3 / 256) / 65536) &&& (63 : Int32) = nI (pcN a 32) := by
    rw [show (63 : Int32) = nI 63 from rfl, nI_and]
    have := Nat.and_two_pow_sub_one_eq_mod (x3 + x3 / 256 + (x3 + x3 / 256) / 65536) 6
    rw [show 2 ^ 6 - 1 = 63 from rfl] at this
    rw [this, show 2 ^ 6 = 64 from rfl, h4]
  unfold fJ6_bitCount_0f7a4
  rw [s1, b_d, s2, b_d, s3, b_d, s4, b_d, s5, b_d, s6]
/-- a number of the machine by its bits -/
theorem t_nat {t : Int32} (h : ∀ x, 30 ≤ x → x < 32 → bI t x = false) : ∃ a, a < 1073741824 ∧ t = nI a ∧ ∀ j, a / 2 ^ j % 2 = 1 ↔ bI t j = true := by
  have hb : ∀ j, t.toBitVec.toNat.testBit j = bI t j := fun j => by
    unfold bI
    rw [BitVec.getLsbD]
  refine ⟨t.toBitVec.toNat, ?_, ?_, fun j => ?_⟩
  · have := Nat.lt_pow_two_of_testBit (n := 30) t.toBitVec.toNat (fun i hi => by
      by_cases q : i < 32
      · rw [hb]
        exact h i hi q
      · exact Nat.testBit_lt_two_pow (Nat.lt_of_lt_of_le t.toBitVec.isLt (Nat.pow_le_pow_right (by omega) (by omega))))
    exact this
  · apply Int32.toBitVec.inj
    show t.toBitVec = BitVec.ofNat 32 t.toBitVec.toNat
    rw [BitVec.ofNat_toNat, BitVec.setWidth_eq]
  · rw [← hb, Nat.testBit_eq_decide_div_mod_eq, decide_eq_true_iff]
theorem lc_pc {a : Nat} {c b : Nat → Bool} (h : ∀ j, c j = true → a / 2 ^ j % 2 = 1) : ∀ r, lcR c b r ≤ pcN a r
  | 0 => Nat.le_refl _
  | r + 1 => by
    have ih := lc_pc (b := b) h r
    unfold lcR pcN
    by_cases q : (c r && b r) = true
    · rw [if_pos q]
      rw [Bool.and_eq_true] at q
      have := h r q.1
      omega
    · rw [if_neg q]
      omega
theorem pcN_mono (a : Nat) {i : Nat} : ∀ d, pcN a i ≤ pcN a (i + d)
  | 0 => Nat.le_refl _
  | d + 1 => Nat.le_trans (pcN_mono a d) (Nat.le_add_right _ _)
theorem pcN_le (a : Nat) : ∀ k, pcN a k ≤ k
  | 0 => Nat.le_refl _
  | k + 1 => by
    have := pcN_le a k
    unfold pcN
    omega
theorem pcN_top {a k : Nat} (h : a < 2 ^ k) : ∀ d, pcN a (k + d) = pcN a k
  | 0 => rfl
  | d + 1 => by
    have ih := pcN_top h d
    show pcN a (k + d) + a / 2 ^ (k + d) % 2 = _
    rw [ih, Nat.div_eq_of_lt (Nat.lt_of_lt_of_le h (Nat.pow_le_pow_right (by omega) (by omega)))]
    omega
