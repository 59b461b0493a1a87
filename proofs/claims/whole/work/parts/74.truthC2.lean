/-! TRUTHS: lowest, highest, the heads. -/
theorem i35 {a : Nat} (ha : a ≤ 1000) : (0 : Int32) ≤ nI a ∧ nI a ≤ 1000 := ⟨(xLe (a := 0) (by omega) (by omega)).mpr (by omega), (xLe (b := 1000) (by omega) (by omega)).mpr ha⟩
theorem mxI {l a b : Nat} (hl : l ≤ 1000) (ha : a ≤ 1000) (hb : b ≤ 1000) : (if nI l < nI a - nI b then nI a - nI b else nI l) = nI (max l (a - b)) := by
  by_cases h : b ≤ a
  · rw [xS h]
    by_cases c : l < a - b
    · rw [if_pos ((xLt (by omega) (by omega)).mpr c)]
      exact congrArg nI (by omega)
    · rw [if_neg (fun z => c ((xLt (by omega) (by omega)).mp z))]
      exact congrArg nI (by omega)
  · have h1 := i35 hl
    have h2 := i35 ha
    have h3 := i35 hb
    have h4 : nI a < nI b := (xLt (by omega) (by omega)).mpr (by omega)
    have e : max l (a - b) = l := by omega
    rw [e, if_neg]
    generalize nI a = a' at *
    generalize nI b = b' at *
    generalize nI l = l' at *
    lia
theorem leI {v a b : Nat} (hv : v ≤ 1000) (ha : a ≤ 1000) (hb : b ≤ 1000) : nI v ≤ nI a - nI b ↔ v + b ≤ a := by
  have h1 := i35 hv
  have h2 := i35 ha
  have h3 := i35 hb
  rw [← xLe (by omega) (by omega), ← nI_add]
  generalize nI a = a' at *
  generalize nI b = b' at *
  generalize nI v = v' at *
  constructor
  · intro h
    lia
  · intro h
    lia
section
variable {td : Nat → Bool} {lw hg g : Nat → Nat} {h : Nat} {C : mT}
def lwF (td : Nat → Bool) (lw g : Nat → Nat) (h : Nat) : Nat → Nat
  | 0 => 0
  | x + 1 => if td (x + 2 ^ h) = true then max (lwF td lw g h x) (lw (x + 2 ^ h) - g x) else lwF td lw g h x
theorem lwF_iff {v : Nat} : ∀ k, lwF td lw g h k ≤ v ↔ ∀ x, x < k → td (x + 2 ^ h) = true → lw (x + 2 ^ h) ≤ v + g x
  | 0 => ⟨fun _ x hx => absurd hx (Nat.not_lt_zero _), fun _ => Nat.zero_le _⟩
  | k + 1 => by
    have ih := lwF_iff (v := v) k
    unfold lwF
    by_cases q : td (k + 2 ^ h) = true
    · rw [if_pos q]
      constructor
      · intro hh x hx ht
        by_cases y : x = k
        · rw [y]
          omega
        · exact ih.mp (by omega) x (by omega) ht
      · intro hh
        have h1 := ih.mpr fun x hx => hh x (by omega)
        have h2 := hh k (by omega) q
        omega
    · rw [if_neg q, ih]
      constructor
      · intro hh x hx ht
        by_cases y : x = k
        · rw [y] at ht
          exact absurd ht q
        · exact hh x (by omega) ht
      · intro hh x hx
        exact hh x (by omega)
theorem lwF_le (hlw : ∀ s, lw s ≤ 35) : ∀ k, lwF td lw g h k ≤ 35
  | 0 => Nat.zero_le _
  | k + 1 => by
    have h1 := lwF_le hlw k
    have h2 := hlw (k + 2 ^ h)
    unfold lwF
    split
    · omega
    · exact h1
def hgF (td : Nat → Bool) (hg g : Nat → Nat) (h : Nat) : Nat → Int32
  | 0 => nI 7
  | x + 1 => if td (x + 2 ^ h) = true then (if nI (hg (x + 2 ^ h)) - nI (g x) < hgF td hg g h x then nI (hg (x + 2 ^ h)) - nI (g x) else hgF td hg g h x) else hgF td hg g h x
theorem hgF_iff (hhg : ∀ s, hg s ≤ 35) {k0 : Nat} (hgx : ∀ x, x < k0 → g x ≤ 35) {v : Nat} (hv : v < 8) : ∀ k, k ≤ k0 → (nI v ≤ hgF td hg g h k ↔ ∀ x, x < k → td (x + 2 ^ h) = true → v + g x ≤ hg (x + 2 ^ h))
  | 0, _ => ⟨fun _ x hx => absurd hx (Nat.not_lt_zero _), fun _ => (xLe (by omega) (by omega)).mpr (by omega)⟩
  | k + 1, hk => by
    have ih := hgF_iff hhg hgx hv k (by omega)
    have l1 := leI (v := v) (a := hg (k + 2 ^ h)) (b := g k) (by omega) (by have := hhg (k + 2 ^ h); omega) (by have := hgx k (by omega); omega)
    unfold hgF
    by_cases q : td (k + 2 ^ h) = true
    · rw [if_pos q]
      have key : nI v ≤ (if nI (hg (k + 2 ^ h)) - nI (g k) < hgF td hg g h k then nI (hg (k + 2 ^ h)) - nI (g k) else hgF td hg g h k) ↔ nI v ≤ nI (hg (k + 2 ^ h)) - nI (g k) ∧ nI v ≤ hgF td hg g h k := by
        by_cases c : nI (hg (k + 2 ^ h)) - nI (g k) < hgF td hg g h k
        · rw [if_pos c]
          exact ⟨fun z => ⟨z, Int32.le_trans z (Int32.le_of_lt c)⟩, fun z => z.1⟩
        · rw [if_neg c]
          exact ⟨fun z => ⟨Int32.le_trans z (Int32.not_lt.mp c), z⟩, fun z => z.2⟩
      rw [key, l1, ih]
      constructor
      · rintro ⟨h1, h2⟩ x hx ht
        by_cases y : x = k
        · rw [y]
          exact h1
        · exact h2 x (by omega) ht
      · intro hh
        exact ⟨hh k (by omega) q, fun x hx => hh x (by omega)⟩
    · rw [if_neg q, ih]
      constructor
      · intro hh x hx ht
        by_cases y : x = k
        · rw [y] at ht
          exact absurd ht q
        · exact hh x (by omega) ht
      · intro hh x hx
        exact hh x (by omega)
theorem hgF_7 : ∀ k, hgF td hg g h k ≤ nI 7
  | 0 => Int32.le_refl _
  | k + 1 => by
    have ih := hgF_7 k
    unfold hgF
    split
    · split
      · rename_i c
        exact Int32.le_trans (Int32.le_of_lt c) ih
      · exact ih
    · exact ih
theorem c_low4 (hh : h < 5) (hlw : ∀ s, lw s ≤ 35) (hgx : ∀ x, x < 2 ^ h → g x ≤ 35) (e1 : ∀ s, s < 32 → C.1 127 s = nI (lw s)) (e2 : ∀ x, x < 2 ^ h → C.1 130 x = nI (g x)) (H : lsO td h (2 ^ h) 129 C) : ∀ (m x k : Nat), x + m = 2 ^ h → m < k → fX10_lowest_4 k (nI h) (nI (lwF td lw g h x)) (nI (cN (fun x => td (x + 2 ^ h)) x)) C = some (nI (lwF td lw g h (2 ^ h)), C)
  | 0, x, k, hx, hk => by
    obtain ⟨k', rfl⟩ := up1 hk
    have hx : x = 2 ^ h := by omega
    subst hx
    have e8 : C.1 137 h = nI (cN (fun x => td (x + 2 ^ h)) (2 ^ h)) := H.1
    have c : nI (cN (fun x => td (x + 2 ^ h)) (2 ^ h)) ≤ nI (cN (fun x => td (x + 2 ^ h)) (2 ^ h)) := Int32.le_refl _
    simp (disch := omega) only [fX10_lowest_4, kO_129, kO_120, kI_137, g_t, b_d, b_c, b_v, Bool.and_true, Bool.and_self, Bool.true_and, xIx, xIn, e8, if_pos c]
  | m + 1, x, k, hx, hk => by
    obtain ⟨k', rfl⟩ := up1 hk
    have hp := p2 hh
    have e8 : C.1 137 h = nI (cN (fun x => td (x + 2 ^ h)) (2 ^ h)) := H.1
    have hc1 := cN_le (fun x => td (x + 2 ^ h)) (2 ^ h)
    obtain ⟨op, hlt⟩ := or_pow hh (x := x) (by omega)
    by_cases q : td (x + 2 ^ h) = true
    · have ec : cN (fun x => td (x + 2 ^ h)) (x + 1) = cN (fun x => td (x + 2 ^ h)) x + 1 := if_pos q
      have el : lwF td lw g h (x + 1) = max (lwF td lw g h x) (lw (x + 2 ^ h) - g x) := if_pos q
      have hc := cN_lt (fun x => td (x + 2 ^ h)) (a := x) (b := 2 ^ h) q (by omega)
      have c : ¬ nI (cN (fun x => td (x + 2 ^ h)) (2 ^ h)) ≤ nI (cN (fun x => td (x + 2 ^ h)) x) := fun y => by have := (xLe (by omega) (by omega)).mp y; omega
      have er : C.1 (132 + h) (cN (fun x => td (x + 2 ^ h)) x) = nI x := H.2 x (by omega) q
      have o1 : nI (cN (fun x => td (x + 2 ^ h)) x) + (1 : Int32) = nI (cN (fun x => td (x + 2 ^ h)) x + 1) := nI_add _ 1
      have h1 := lwF_le (td := td) (g := g) (h := h) hlw x
      have h2 := hlw (x + 2 ^ h)
      have h3 := hgx x (by omega)
      have om := mxI (l := lwF td lw g h x) (a := lw (x + 2 ^ h)) (b := g x) (by omega) (by omega) (by omega)
      rw [← c_low4 hh hlw hgx e1 e2 H m (x + 1) k' (by omega) (by omega), ec, el]
      simp (disch := omega) only [fX10_lowest_4, kO_129, kO_120, kI_137, kI_127, kI_130, kR_131, rw_131, ki_131, g_t, b_d, b_c, b_v, Bool.and_true, Bool.and_self, Bool.true_and, xIx, xIn, e8, if_neg c, er, op, e1 (x + 2 ^ h) hlt, e2 x (by omega), om, o1]
    · have ec : cN (fun x => td (x + 2 ^ h)) (x + 1) = cN (fun x => td (x + 2 ^ h)) x := if_neg q
      have el : lwF td lw g h (x + 1) = lwF td lw g h x := if_neg q
      rw [← c_low4 hh hlw hgx e1 e2 H m (x + 1) (k' + 1) (by omega) (by omega), ec, el]
theorem c_high5 (hh : h < 5) (hhg : ∀ s, hg s ≤ 35) (hgx : ∀ x, x < 2 ^ h → g x ≤ 35) (e1 : ∀ s, s < 32 → C.1 128 s = nI (hg s)) (e2 : ∀ x, x < 2 ^ h → C.1 130 x = nI (g x)) (H : lsO td h (2 ^ h) 129 C) : ∀ (m x k : Nat), x + m = 2 ^ h → m < k → fX10_highest_5 k (nI h) (hgF td hg g h x) (nI (cN (fun x => td (x + 2 ^ h)) x)) C = some (hgF td hg g h (2 ^ h), C)
  | 0, x, k, hx, hk => by
    obtain ⟨k', rfl⟩ := up1 hk
    have hx : x = 2 ^ h := by omega
    subst hx
    have e8 : C.1 137 h = nI (cN (fun x => td (x + 2 ^ h)) (2 ^ h)) := H.1
    have c : nI (cN (fun x => td (x + 2 ^ h)) (2 ^ h)) ≤ nI (cN (fun x => td (x + 2 ^ h)) (2 ^ h)) := Int32.le_refl _
    simp (disch := omega) only [fX10_highest_5, kO_129, kO_120, kI_137, g_t, b_d, b_c, b_v, Bool.and_true, Bool.and_self, Bool.true_and, xIx, xIn, e8, if_pos c]
  | m + 1, x, k, hx, hk => by
    obtain ⟨k', rfl⟩ := up1 hk
    have hp := p2 hh
    have e8 : C.1 137 h = nI (cN (fun x => td (x + 2 ^ h)) (2 ^ h)) := H.1
    have hc1 := cN_le (fun x => td (x + 2 ^ h)) (2 ^ h)
    obtain ⟨op, hlt⟩ := or_pow hh (x := x) (by omega)
    by_cases q : td (x + 2 ^ h) = true
    · have ec : cN (fun x => td (x + 2 ^ h)) (x + 1) = cN (fun x => td (x + 2 ^ h)) x + 1 := if_pos q
      have el : hgF td hg g h (x + 1) = (if nI (hg (x + 2 ^ h)) - nI (g x) < hgF td hg g h x then nI (hg (x + 2 ^ h)) - nI (g x) else hgF td hg g h x) := if_pos q
      have hc := cN_lt (fun x => td (x + 2 ^ h)) (a := x) (b := 2 ^ h) q (by omega)
      have c : ¬ nI (cN (fun x => td (x + 2 ^ h)) (2 ^ h)) ≤ nI (cN (fun x => td (x + 2 ^ h)) x) := fun y => by have := (xLe (by omega) (by omega)).mp y; omega
      have er : C.1 (132 + h) (cN (fun x => td (x + 2 ^ h)) x) = nI x := H.2 x (by omega) q
      have o1 : nI (cN (fun x => td (x + 2 ^ h)) x) + (1 : Int32) = nI (cN (fun x => td (x + 2 ^ h)) x + 1) := nI_add _ 1
      rw [← c_high5 hh hhg hgx e1 e2 H m (x + 1) k' (by omega) (by omega), ec, el]
      simp (disch := omega) only [fX10_highest_5, kO_129, kO_120, kI_137, kI_128, kI_130, kR_131, rw_131, ki_131, g_t, b_d, b_c, b_v, Bool.and_true, Bool.and_self, Bool.true_and, xIx, xIn, e8, if_neg c, er, op, e1 (x + 2 ^ h) hlt, e2 x (by omega), o1]
    · have ec : cN (fun x => td (x + 2 ^ h)) (x + 1) = cN (fun x => td (x + 2 ^ h)) x := if_neg q
      have el : hgF td hg g h (x + 1) = hgF td hg g h x := if_neg q
      rw [← c_high5 hh hhg hgx e1 e2 H m (x + 1) (k' + 1) (by omega) (by omega), ec, el]
theorem c_sh2 {a0 : Nat} (K : kLs a0) (hh : h < 5) {v : Nat} : ∀ (m x k : Nat) (C : mT), x + m = 2 ^ h → m < k → (∀ y, y < 2 ^ h → C.1 (a0 + 1) y = nI (g y)) → ∃ C', fX9_setHeads_2 a0 k (nI h) (nI v) (nI x) C = some C' ∧ (∀ y, x ≤ y → y < 2 ^ h → C'.1 (a0 + 1) (y + 2 ^ h) = nI (g y + v)) ∧ (∀ y, y < x + 2 ^ h → C'.1 (a0 + 1) y = C.1 (a0 + 1) y) ∧ ∀ a j, a ≠ a0 + 1 → C'.1 a j = C.1 a j
  | 0, x, k, C, hx, hk, e => by
    obtain ⟨k', rfl⟩ := up1 hk
    have hx : x = 2 ^ h := by omega
    subst hx
    have c : nI (2 ^ h) ≤ nI (2 ^ h) := Int32.le_refl _
    exact ⟨C, by simp only [fX9_setHeads_2, shl1 h (by omega), if_pos c], fun y _ _ => by omega, fun _ _ => rfl, fun _ _ _ => rfl⟩
  | m + 1, x, k, C, hx, hk, e => by
    obtain ⟨k', rfl⟩ := up1 hk
    have hp := p2 hh
    have c : ¬ nI (2 ^ h) ≤ nI x := fun y => by have := (xLe (by omega) (by omega)).mp y; omega
    have o1 : nI x + (1 : Int32) = nI (x + 1) := nI_add x 1
    obtain ⟨op, hlt⟩ := or_pow hh (x := x) (by omega)
    have op' : nI x ||| nI (2 ^ h) = nI (x + 2 ^ h) := by rw [← shl1 h (by omega)]; exact op
    obtain ⟨C', r1, r2, r3, r4⟩ := c_sh2 K hh (v := v) m (x + 1) k' (sI C (a0 + 1) (x + 2 ^ h) (nI (g x + v))) (by omega) (by omega) (fun y hy => by rw [sI_rd, if_neg (by omega)]; exact e y hy)
    refine ⟨C', ?_, fun y h1 h2 => ?_, fun y hy => by rw [r3 y (by omega), sI_rd, if_neg (by omega)], fun a j q => by rw [r4 a j q, sI_rd, if_neg (by omega)]⟩
    · rw [← r1]
      simp (disch := omega) only [fX9_setHeads_2, shl1 h (by omega), if_neg c, op', K.1, K.2.2.1, g_t, b_d, b_c, b_v, Bool.and_true, Bool.and_self, Bool.true_and, xIx, xIn, e x (by omega), nI_add, o1]
    · by_cases q : y = x
      · rw [q, r3 _ (by omega), sI_rd, if_pos ⟨rfl, rfl⟩]
      · exact r2 y (by omega) h2
end
