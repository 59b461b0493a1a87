/-! SMALL METHODS and numbers. -/
def nM : Int32 := -1
theorem xN1 : -nI 1 = nM := rfl
theorem xP {a : Nat} (h : 1 ≤ a) : nI a + nM = nI (a - 1) := by
  have e : nI a + nM = nI a - nI 1 := (Int32.sub_eq_add_neg _ _).symm
  rw [e, xS h]
theorem xDv {a b : Nat} (ha : a < 2000000) (hb : b < 2000000) : nI a / nI b = nI (a / b) := (Int32.ofNat_div (by omega) (by omega)).symm
theorem xMd {a b : Nat} (ha : a < 2000000) (hb : b < 2000000) : nI a - nI a / nI b * nI b = nI (a % b) := by
  rw [xDv ha hb, xM, xS (Nat.div_mul_le_self a b)]
  congr 1
  have := Nat.div_add_mod a b
  rw [Nat.mul_comm] at this
  omega
theorem nM_lt {a : Nat} (h : a < 2000000) : (nM < nI a) = True := by
  have : (nI a).toInt = a := nI_toInt (by omega)
  have h2 : nM = -1 := rfl
  rw [h2]
  simp only [eq_iff_iff, iff_true]
  rw [Int32.lt_iff_toInt_lt, this]
  show (-1 : Int) < _
  omega
theorem nM_le {a : Nat} (h : a < 2000000) : (nM ≤ nI a) = True := by
  simp only [eq_iff_iff, iff_true]
  rw [Int32.le_iff_toInt_le, nI_toInt (by omega)]
  show (-1 : Int) ≤ _
  omega
theorem nM_gt {a : Nat} (h : a < 2000000) : (nI a < nM) = False := by
  simp only [eq_iff_iff, iff_false]
  rw [Int32.lt_iff_toInt_lt, nI_toInt (by omega)]
  show ¬ (_ : Int) < (-1 : Int)
  omega
theorem nM_ge {a : Nat} (h : a < 2000000) : (nI a ≤ nM) = False := by
  simp only [eq_iff_iff, iff_false]
  rw [Int32.le_iff_toInt_le, nI_toInt (by omega)]
  show ¬ (_ : Int) ≤ (-1 : Int)
  omega
theorem nM_eq {a : Nat} (h : a < 2000000) : (nI a = nM) = False := by
  simp only [eq_iff_iff, iff_false]
  intro e
  have := congrArg Int32.toInt e
  rw [nI_toInt (by omega)] at this
  have h2 : (nM).toInt = -1 := rfl
  omega
theorem nM_eq' {a : Nat} (h : a < 2000000) : (nM = nI a) = False := by
  rw [show (nM = nI a) = (nI a = nM) from propext ⟨Eq.symm, Eq.symm⟩, nM_eq h]
theorem nI_le_trans {v : Int32} {a b : Nat} (h : v ≤ nI a) (hab : a ≤ b) (hb : b < 2000000) : v ≤ nI b := Int32.le_trans h ((xLe (by omega) hb).mpr hab)
/-- a number between two, as a natural one -/
theorem v_cases (lo hi : Nat) (hl : lo ≤ hi) (hhi : hi < 2000000) (v : Int32) : v < nI lo ∨ nI hi < v ∨ ∃ w, lo ≤ w ∧ w ≤ hi ∧ v = nI w := by
  by_cases h1 : v < nI lo
  · exact Or.inl h1
  by_cases h2 : nI hi < v
  · exact Or.inr (Or.inl h2)
  refine Or.inr (Or.inr ?_)
  have h3 : ¬ v < 0 := fun h => h1 (Int32.lt_of_lt_of_le h (show nI 0 ≤ nI lo from (xLe (by omega) (by omega)).mpr (by omega)))
  obtain ⟨j, hj, rfl⟩ := nI_of h3
  refine ⟨j, ?_, ?_, rfl⟩
  · rcases Nat.lt_or_ge j lo with q | q
    · exact absurd ((nI_ltI hj (by omega)).mpr q) h1
    · exact q
  · rcases Nat.lt_or_ge hi j with q | q
    · exact absurd ((nI_ltI (by omega) hj).mpr q) h2
    · exact q
/-! the sheet in use -/
theorem kO_u (b : Bool) : kO (shU b) 8 = true := by cases b <;> decide +kernel
theorem kI_u2 (b : Bool) (x : Int32) : kI (shU b + 2) x = mIn x 5 := by cases b; exact kI_5 x; exact kI_21 x
theorem kI_u3 (b : Bool) (x : Int32) : kI (shU b + 3) x = mIn x 5 := by cases b; exact kI_6 x; exact kI_22 x
theorem kI_u4 (b : Bool) (x : Int32) : kI (shU b + 4) x = mIn x 5 := by cases b; exact kI_7 x; exact kI_23 x
theorem kI_u5 (b : Bool) (x : Int32) : kI (shU b + 5) x = mIn x 5 := by cases b; exact kI_8 x; exact kI_24 x
theorem kO_u6 (b : Bool) : kO (shU b + 6) 0 = true := by cases b <;> decide +kernel
theorem kO_u9 (b : Bool) : kO (shU b + 9) 0 = true := by cases b <;> decide +kernel
theorem kO_u12 (b : Bool) : kO (shU b + 12) 0 = true := by cases b <;> decide +kernel
theorem kI_u15 (b : Bool) (x : Int32) : kI (shU b + 15) x = mIn x 6 := by cases b; exact kI_18 x; exact kI_34 x
/-! is it within -/
def wB (v lo hi : Int32) : Int32 := if v < lo then 0 else if hi < v then 0 else 1
theorem s_isWithin (v lo hi : Int32) (S : mT) : fX11_isWithin v lo hi S = some (wB v lo hi, S) := by
  unfold fX11_isWithin wB fX11_isWithin_14 fX11_isWithin_15
  split
  · rfl
  · split
    · rfl
    · rfl
theorem s_isIn (v lo hi : Int32) (S : mT) : fX12_isIn v lo hi S = some (wB v lo hi, S) := by
  unfold fX12_isIn wB fX12_isIn_14 fX12_isIn_15
  split
  · rfl
  · split
    · rfl
    · rfl
theorem wB_lo {v lo hi : Int32} (h : v < lo) : wB v lo hi = 0 := if_pos h
theorem wB_hi {v lo hi : Int32} (h : hi < v) : wB v lo hi = 0 := by
  unfold wB
  split
  · rfl
  · rfl
theorem wB_in {v lo hi : Nat} (h1 : lo ≤ v) (h2 : v ≤ hi) (h3 : hi < 2000000) : wB (nI v) (nI lo) (nI hi) = 1 := by
  unfold wB
  rw [if_neg (fun h => by have := (xLt (by omega) (by omega)).mp h; omega), if_neg (fun h => by have := (xLt (by omega) (by omega)).mp h; omega)]
/-- a house's number -/
def hB (n : Nat) (v : Int32) : Int32 := if v < 0 then 0 else if nI n ≤ v then 0 else 1
theorem hB_in {n h : Nat} (hh : h < n) (hn : n ≤ 5) : hB n (nI h) = 1 := by
  unfold hB
  rw [if_neg (nI_pos (by omega)), if_neg (fun q => by have := (xLe (by omega) (by omega)).mp q; omega)]
theorem hB_in' {n h : Nat} (hh : h < n) (hn : n ≤ 100000) : hB n (nI h) = 1 := by
  unfold hB
  rw [if_neg (nI_pos (by omega)), if_neg (fun q => by have := (xLe (by omega) (by omega)).mp q; omega)]
theorem hB_out {n : Nat} {v : Int32} (h : v < 0 ∨ nI n ≤ v) : hB n v = 0 := by
  unfold hB
  split
  · rfl
  · rw [if_pos (by rcases h with h | h; exact absurd h ‹_›; exact h)]
theorem s_isHouseC {b : Bool} {S : mT} {n : Nat} (e : S.1 (shU b) 9 = nI n) (v : Int32) : fX11_isHouse b v S = some (hB n v, S) := by
  unfold fX11_isHouse hB fX11_isHouse_19 fX11_isHouse_20
  split
  · rfl
  · rw [kO_u, kO_0, e]
    split
    · rfl
    · rfl
theorem wB_h {n : Nat} (hn : n ≤ 100000) (v : Int32) : wB v 0 (nI n - 1) = hB n v := by
  unfold wB hB
  split
  · rfl
  · rename_i hv
    obtain ⟨j, hj, rfl⟩ := nI_of hv
    have e1 : (nI n - 1 < nI j) ↔ (nI n ≤ nI j) := by
      rw [nI_leI (by omega) hj]
      rcases Nat.eq_zero_or_pos n with rfl | h0
      · refine ⟨fun _ => Nat.zero_le _, fun _ => ?_⟩
        rw [Int32.lt_iff_toInt_lt, nI_toInt hj]
        show (-1 : Int) < _
        omega
      · rw [show (1 : Int32) = nI 1 from rfl, xS h0, nI_ltI (by omega) hj]
        omega
    simp only [e1]
theorem hB_fit (n : Nat) (v : Int32) : mFit .boolean (hB n v) = true := by
  unfold hB
  split
  · rfl
  · split
    · rfl
    · rfl
theorem s_isHouseM {S : mT} {n : Nat} (hn : n ≤ 5) (e : S.1 187 37 = nI n) (v : Int32) : fX12_isHouse v S = some (hB n v, S) := by
  unfold fX12_isHouse
  rw [kO_187, e, s_isIn, wB_h (by omega)]
  show grd (mFit .boolean (hB n v)) _ = _
  rw [hB_fit]
  rfl
def lim (v lo hi : Int32) : Int32 := if v < lo then lo else if hi < v then hi else v
theorem s_bound (v lo hi : Int32) (S : mT) : fX12_bound v lo hi S = some (lim v lo hi, S) := by
  unfold fX12_bound lim fX12_bound_19
  by_cases h1 : v < lo
  · rw [if_neg (Int32.not_le.mpr h1), if_pos h1]
  · rw [if_pos (Int32.not_lt.mp h1), if_neg h1]
    by_cases h2 : hi < v
    · rw [if_neg (Int32.not_le.mpr h2), if_pos h2]
    · rw [if_pos (Int32.not_lt.mp h2), if_neg h2]
theorem s_limited {v lo hi : Int32} (S : mT) (h : lo ≤ hi) : fX11_limited v lo hi S = some (lim v lo hi, S) := by
  unfold fX11_limited lim
  simp only [b_d]
  congr 2
  grind
theorem s_truth (v : Int32) (S : mT) : fX12_truth v S = some (if v = 0 then 0 else 1, S) := by
  unfold fX12_truth fX12_truth_9
  split
  · rfl
  · rfl
theorem mK_gt : 999999 < mK := by decide
