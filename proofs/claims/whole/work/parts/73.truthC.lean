/-! TRUTHS: the class's lists. -/
theorem bI_and (t : Int32) : True := trivial
/-- a set below 2^h and the house h -/
theorem or_pow {h x : Nat} (hh : h < 5) (hx : x < 2 ^ h) : nI x ||| ((1 : Int32) <<< (nI h &&& 31)) = nI (x + 2 ^ h) ∧ x + 2 ^ h < 32 := by
  have h1 : x ||| 2 ^ h = x + 2 ^ h := by
    have := Nat.two_pow_add_eq_or_of_lt hx 1
    rw [Nat.mul_one] at this
    rw [Nat.or_comm, ← this, Nat.add_comm]
  have h2 : 2 ^ h ≤ 16 := Nat.le_trans (Nat.pow_le_pow_right (by omega) (by omega : h ≤ 4)) (by decide)
  exact ⟨by rw [shl1 h (by omega), nI_or, h1], by omega⟩
/-- the lists of a house: where a rest lies -/
theorem p2 {h : Nat} (hh : h < 5) : 2 ^ h ≤ 16 := Nat.le_trans (Nat.pow_le_pow_right (by omega) (by omega : h ≤ 4)) (by decide)
theorem cN_mono (P : Nat → Bool) {a : Nat} : ∀ {b : Nat}, a ≤ b → cN P a ≤ cN P b
  | 0, h => by
    have : a = 0 := by omega
    subst this
    exact Nat.le_refl _
  | b + 1, h => by
    by_cases q : a = b + 1
    · rw [q]
      exact Nat.le_refl _
    · have := cN_mono P (a := a) (b := b) (by omega)
      conv => rhs; unfold cN
      split
      · omega
      · omega
/-- one more at a place that isn't less -/
theorem cN_lt (P : Nat → Bool) {a b : Nat} (ha : P a = true) (h : a < b) : cN P a < cN P b := by
  have h1 := cN_mono P (a := a + 1) (b := b) h
  have h2 : cN P (a + 1) = cN P a + 1 := if_pos ha
  omega
section
variable {n : Nat} {t : Int32} {td : Nat → Bool} {a0 : Nat}
/-- checks of the lists' cells -/
def kLs (a0 : Nat) : Prop := kO a0 9 = true ∧ (∀ x, kI (a0 + 8) x = mIn x 5) ∧ (∀ x, kI (a0 + 1) x = mIn x 32) ∧ (∀ x, kR (a0 + 2) x = mIn x 5) ∧ (∀ h, h < 5 → rowR (a0 + 2) h = a0 + 3 + h) ∧ ∀ h, h < 5 → ∀ x, kI (a0 + 3 + h) x = mIn x 16
theorem kLs129 : kLs 129 := ⟨by decide +kernel, kI_137, kI_130, kR_131, fun h hh => rw_131 hh, fun h hh x => ki_131 hh x⟩
theorem c_ls22 (K : kLs a0) (htd : ∀ x, x < 32 → bI t x = td x) {h : Nat} (hh : h < 5) (v2 : Int32) (rc : Int32 → Int32 → Int32 → Int32 → mT → Option (Int32 × mT)) (F : Nat) : ∀ (m x k : Nat) (C : mT), x + m = 2 ^ h → m < k → lsO td h x a0 C → ∃ C', fX9_list_22 a0 rc k t v2 (nI (if cN (fun x => td (x + 2 ^ h)) x = 0 then F else h + 1)) (nI h) (nI x) C = rc t v2 (nI (if cN (fun x => td (x + 2 ^ h)) (2 ^ h) = 0 then F else h + 1)) (nI (h + 1)) C' ∧ lsO td h (2 ^ h) a0 C' ∧ (∀ a j, a ≠ a0 + 3 + h → a ≠ a0 + 8 → C'.1 a j = C.1 a j) ∧ ∀ j, j ≠ h → C'.1 (a0 + 8) j = C.1 (a0 + 8) j
  | 0, x, k, C, hx, hk, H => by
    obtain ⟨k', rfl⟩ := up1 hk
    have hx : x = 2 ^ h := by omega
    subst hx
    have hp := p2 hh
    have c : nI (2 ^ h) ≤ nI (2 ^ h) := Int32.le_refl _
    have o1 : nI h + (1 : Int32) = nI (h + 1) := nI_add h 1
    exact ⟨C, by simp only [fX9_list_22, shl1 h (by omega), if_pos c, g_t, b_d, b_c, b_v, Bool.and_true, Bool.and_self, Bool.true_and, o1], H, fun _ _ _ _ => rfl, fun _ _ => rfl⟩
  | m + 1, x, k, C, hx, hk, H => by
    obtain ⟨k', rfl⟩ := up1 hk
    have hp := p2 hh
    have c : ¬ nI (2 ^ h) ≤ nI x := fun y => by have := (xLe (by omega) (by omega)).mp y; omega
    have o1 : nI x + (1 : Int32) = nI (x + 1) := nI_add x 1
    have oh : nI h + (1 : Int32) = nI (h + 1) := nI_add h 1
    obtain ⟨op, hlt⟩ := or_pow hh (x := x) (by omega)
    have op' : nI x ||| nI (2 ^ h) = nI (x + 2 ^ h) := by rw [← shl1 h (by omega)]; exact op
    have hb := bI_eq (t := t) (x := x + 2 ^ h) hlt
    rw [htd _ hlt] at hb
    have hcx := cN_le (fun x => td (x + 2 ^ h)) x
    by_cases q : td (x + 2 ^ h) = true
    · have q' := hb.mpr q
      have ec : cN (fun x => td (x + 2 ^ h)) (x + 1) = cN (fun x => td (x + 2 ^ h)) x + 1 := if_pos q
      have e8 := H.1
      generalize hC2 : sI (sI C (a0 + 3 + h) (cN (fun x => td (x + 2 ^ h)) x) (nI x)) (a0 + 8) h (nI (cN (fun x => td (x + 2 ^ h)) x + 1)) = C2
      have HC2 : lsO td h (x + 1) a0 C2 := by
        refine ⟨?_, fun y hy hty => ?_⟩
        · rw [← hC2, sI_rd, if_pos ⟨rfl, rfl⟩, ec]
        · rw [← hC2, sI_rd, if_neg (by omega), sI_rd]
          by_cases z : y = x
          · rw [if_pos ⟨rfl, by rw [z]⟩, z]
          · have := cN_lt (fun x => td (x + 2 ^ h)) (a := y) (b := x) hty (by omega)
            rw [if_neg (by omega)]
            exact H.2 y (by omega) hty
      obtain ⟨C', r1, r2, r3, r4⟩ := c_ls22 K htd hh v2 rc F m (x + 1) k' C2 (by omega) (by omega) HC2
      refine ⟨C', ?_, r2, fun a j g1 g2 => by rw [r3 a j g1 g2, ← hC2, sI_rd, if_neg (by omega), sI_rd, if_neg (by omega)], fun j g => by rw [r4 j g, ← hC2, sI_rd, if_neg (by omega), sI_rd, if_neg (by omega)]⟩
      have e0 : (if cN (fun x => td (x + 2 ^ h)) x + 1 = 0 then F else h + 1) = h + 1 := if_neg (by omega)
      rw [← r1, ec, e0, ← hC2]
      have o2 : nI (cN (fun x => td (x + 2 ^ h)) x) + (1 : Int32) = nI (cN (fun x => td (x + 2 ^ h)) x + 1) := nI_add _ 1
      have p8 : ∀ y, (sI C (a0 + 3 + h) (cN (fun x => td (x + 2 ^ h)) x) y).1 (a0 + 8) h = nI (cN (fun x => td (x + 2 ^ h)) x) := fun y => by rw [sI_rd, if_neg (by omega)]; exact e8
      simp (disch := omega) only [fX9_list_22, fX9_list_79, shl1 h (by omega), if_neg c, op', if_pos q', K.1, K.2.1, K.2.2.2.1, K.2.2.2.2.1, K.2.2.2.2.2, g_t, b_d, b_c, b_v, Bool.and_true, Bool.and_self, Bool.true_and, xIx, xIn, e8, p8, o2, oh, o1]
    · have q' : ¬ _ := fun y => q (hb.mp y)
      have ec : cN (fun x => td (x + 2 ^ h)) (x + 1) = cN (fun x => td (x + 2 ^ h)) x := if_neg q
      obtain ⟨C', r1, r2, r3, r4⟩ := c_ls22 K htd hh v2 rc F m (x + 1) k' C (by omega) (by omega) ⟨by rw [ec]; exact H.1, fun y hy hty => H.2 y (by
        by_cases z : y = x
        · rw [z] at hty
          exact absurd hty q
        · omega) hty⟩
      refine ⟨C', ?_, r2, r3, r4⟩
      rw [← r1, ec]
      simp (disch := omega) only [fX9_list_22, fX9_list_79, shl1 h (by omega), if_neg c, op', if_neg q', g_t, b_d, b_c, b_v, Bool.and_true, Bool.and_self, Bool.true_and, o1]
theorem c_ls5 (K : kLs a0) (htd : ∀ x, x < 32 → bI t x = td x) (hn : n ≤ 5) : ∀ (m h k : Nat) (C : mT), h + m = n → m < k → (∀ h', h' < h → lsO td h' (2 ^ h') a0 C) → ∃ C', fX9_list_5 a0 k t (nI n) (nI (ffN td h)) (nI h) C = some (nI (ffN td n), C') ∧ (∀ h', h' < n → lsO td h' (2 ^ h') a0 C') ∧ ∀ a j, (a < a0 + 3 ∨ a0 + 8 < a) → C'.1 a j = C.1 a j
  | 0, h, k, C, hh, hk, H => by
    obtain ⟨k', rfl⟩ := up1 hk
    have hh : h = n := by omega
    subst hh
    have c : nI h ≤ nI h := Int32.le_refl _
    exact ⟨C, by simp only [fX9_list_5, if_pos c], H, fun _ _ _ => rfl⟩
  | m + 1, h, k, C, hh, hk, H => by
    obtain ⟨k', rfl⟩ := up1 hk
    have c : ¬ nI n ≤ nI h := fun y => by have := (xLe (by omega) (by omega)).mp y; omega
    obtain ⟨C1, r1, r2, r3, r4⟩ := c_ls22 K htd (h := h) (by omega) (nI n) (fX9_list_5 a0 k') (ffN td h) (2 ^ h) 0 mK (sI C (a0 + 8) h (nI 0)) (by omega) (by have := mK_gt; have := p2 (h := h) (by omega); omega) ⟨by rw [sI_rd, if_pos ⟨rfl, rfl⟩]; rfl, fun x hx => absurd hx (Nat.not_lt_zero _)⟩
    obtain ⟨C', t1, t2, t3⟩ := c_ls5 K htd hn m (h + 1) k' C1 (by omega) (by omega) (fun h' hh' => by
      by_cases z : h' = h
      · rw [z]
        exact r2
      · obtain ⟨u1, u2⟩ := H h' (by omega)
        refine ⟨?_, fun x hx hx2 => ?_⟩
        · rw [r4 h' z, sI_rd, if_neg (by omega)]
          exact u1
        · rw [r3 _ _ (by omega) (by omega), sI_rd, if_neg (by omega)]
          exact u2 x hx hx2)
    refine ⟨C', ?_, t2, fun a j g => by rw [t3 a j g, r3 _ _ (by omega) (by omega), sI_rd, if_neg (by omega)]⟩
    rw [← t1]
    have r1' : fX9_list_22 a0 (fX9_list_5 a0 k') mK t (nI n) (nI (ffN td h)) (nI h) (0 : Int32) (sI C (a0 + 8) h (0 : Int32)) = _ := r1
    have ef : ffN td (h + 1) = if cN (fun x => td (x + 2 ^ h)) (2 ^ h) = 0 then ffN td h else h + 1 := rfl
    rw [ef, ← r1']
    simp (disch := omega) only [fX9_list_5, if_neg c, K.1, K.2.1, g_t, b_d, b_c, b_v, Bool.and_true, Bool.and_self, Bool.true_and, xIx, xIn]
end
