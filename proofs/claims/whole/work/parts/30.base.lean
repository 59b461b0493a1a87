/-! LEVEL 2: the functions as plain mathematics. Numbers that count are nI of a natural number. -/
theorem xL (n : Nat) : (OfNat.ofNat n : Int32) = nI (OfNat.ofNat n) := id rfl
theorem xIx {a : Nat} (h : a < 100000) : mIx (nI a) = a := nI_clamp (by omega)
theorem xIn {a n : Nat} (h : a < n) (hn : n < 100000) : mIn (nI a) n = true := by
  unfold mIn
  have h1 : ¬ nI a < 0 := nI_pos (by omega)
  have h2 : (nI a).toNatClampNeg < n := by rw [nI_clamp (by omega)]; exact h
  simp [h1, h2]
theorem xM (a b : Nat) : nI a * nI b = nI (a * b) := (Int32.ofNat_mul a b).symm
theorem xS {a b : Nat} (h : b ≤ a) : nI a - nI b = nI (a - b) := by
  have e : nI a = nI (a - b) + nI b := by rw [nI_add, Nat.sub_add_cancel h]
  rw [e, Int32.add_sub_cancel]
theorem xLe {a b : Nat} (ha : a < 2000000) (hb : b < 2000000) : nI a ≤ nI b ↔ a ≤ b := nI_leI (by omega) (by omega)
theorem xLt {a b : Nat} (ha : a < 2000000) (hb : b < 2000000) : nI a < nI b ↔ a < b := nI_ltI (by omega) (by omega)
theorem xEq {a b : Nat} (ha : a < 2000000) (hb : b < 2000000) : nI a = nI b ↔ a = b := nI_eq (by omega) (by omega)
theorem g_t {α : Type} {x : Option α} : grd true x = x := id rfl
theorem b_d {α β : Type} {x : α} {f : α → β} : bnd x f = f x := id rfl
theorem b_c {α β : Type} {x : α} {S : mT} {k : α → mT → Option β} : bndC (some (x, S)) k = k x S := id rfl
theorem b_v {β : Type} {S : mT} {k : mT → Option β} : bndV (some S) k = k S := id rfl
theorem sI_rd {S : mT} {a k i j : Nat} {v : Int32} : (sI S a k v).1 i j = if i = a ∧ j = k then v else S.1 i j := by
  show up2 S.1 a k v i j = _
  by_cases h : i = a ∧ j = k
  · rw [if_pos h, h.1, h.2, up2_at]
    unfold va_up
    rw [if_pos rfl]
  · rw [if_neg h, up2_rd h]
theorem sI_2 {S : mT} {a k : Nat} {v : Int32} : (sI S a k v).2 = S.2 := rfl
theorem sJ_1 {S : mT} {a k : Nat} {v : Int64} : (sJ S a k v).1 = S.1 := rfl
theorem sC_rd {S : mT} {a d i j : Nat} {sp dp n : Int32} : (sC S a d sp dp n).1 i j = if i = d then (if mIx dp ≤ j ∧ j < mIx dp + mIx n then S.1 a (mIx sp + (j - mIx dp)) else S.1 d j) else S.1 i j := by
  show va_up S.1 d (va_cpy (S.1 a) (S.1 d) (mIx sp) (mIx dp) (mIx n)) i j = _
  unfold va_up va_cpy
  by_cases h : i = d
  · rw [if_pos h, if_pos h]
  · rw [if_neg h, if_neg h]
/-- a number is a house's, or is none -/
theorem h_cases (n : Nat) (hn : n ≤ 100000) (v : Int32) : (∃ h, h < n ∧ v = nI h) ∨ (v < 0 ∨ nI n ≤ v) := by
  by_cases h : v < 0
  · exact Or.inr (Or.inl h)
  · obtain ⟨j, hj, rfl⟩ := nI_of h
    rcases Nat.lt_or_ge j n with q | q
    · exact Or.inl ⟨j, q, rfl⟩
    · exact Or.inr (Or.inr ((nI_leI (by omega) hj).mpr q))
