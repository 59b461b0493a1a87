/-! TRUTHS: a house of which nothing is told. -/
theorem cB_fn {P : Nat → Bool} {K : Nat} {s : Nat → Nat} : ∀ (q : Nat), (∀ a, a < q → cB P (a * K) K = s a) → cB P 0 (q * K) = sN s q
  | 0, _ => by rw [Nat.zero_mul]; rfl
  | q + 1, h => by
    rw [Nat.add_mul, Nat.one_mul, cB_add, Nat.zero_add, cB_fn q (fun a ha => h a (by omega)), h q (by omega)]
    rfl
/-- of 8^k rows each head has its share -/
theorem cB_dig {v : Nat} (hv : v < 8) {lo k : Nat} {P : Nat → Bool} (hP : ∀ x, x < 8 * 8 ^ k → P (lo + x) = decide (x / 8 ^ k = v)) : cB P lo (8 * 8 ^ k) = 8 ^ k := by
  have h0 : 0 < 8 ^ k := Nat.pow_pos (by omega)
  have e1 : 8 * 8 ^ k = v * 8 ^ k + (8 ^ k + (7 - v) * 8 ^ k) := by
    generalize 8 ^ k = K
    have h8 : v + (1 + (7 - v)) = 8 := by omega
    calc 8 * K = (v + (1 + (7 - v))) * K := by rw [h8]
      _ = _ := by rw [Nat.add_mul, Nat.add_mul, Nat.one_mul]
  have hle : (v + 1) * 8 ^ k ≤ 8 * 8 ^ k := Nat.mul_le_mul_right _ (by omega)
  rw [Nat.add_mul, Nat.one_mul] at hle
  rw [e1, cB_add, cB_add]
  have a1 : cB P lo (v * 8 ^ k) = 0 := cB_no fun x hx => by
    rw [hP x (by omega), decide_eq_false_iff_not]
    have : x / 8 ^ k < v := (Nat.div_lt_iff_lt_mul h0).mpr hx
    omega
  have a2 : cB P (lo + v * 8 ^ k) (8 ^ k) = 8 ^ k := cB_all fun x hx => by
    rw [Nat.add_assoc, hP _ (by omega), decide_eq_true_iff]
    exact (dv8 hx).1
  have a3 : cB P (lo + v * 8 ^ k + 8 ^ k) ((7 - v) * 8 ^ k) = 0 := cB_no fun x hx => by
    rw [Nat.add_assoc, Nat.add_assoc, hP _ (by omega), decide_eq_false_iff_not]
    have : (v + 1) * 8 ^ k ≤ v * 8 ^ k + (8 ^ k + x) := by
      rw [Nat.add_mul, Nat.one_mul]
      omega
    have := (Nat.le_div_iff_mul_le h0).mpr this
    omega
  rw [a1, a2, a3]
  omega
section
variable {n r : Nat} {st lo hi : Nat → Nat} {c : Nat → Bool}
/-- by its prefix a row is so -/
theorem tru_pre {h m p y : Nat} (hn : n = h + m) (hy : y < 8 ^ m) (hf : ∀ j, j < r → c j = true → st j < 2 ^ h) : (tru n r st lo hi c (p * 8 ^ m + y) = true ↔ okP r st lo hi c h p) := by
  rw [tru_iff]
  have e : ∀ j, j < r → c j = true → sSet n (p * 8 ^ m + y) (st j) n = sSet h p (st j) h := fun j hj hc => by
    have e1 := sSet_top (n := n) (w := p * 8 ^ m + y) (hf j hj hc) m
    rw [← hn] at e1
    rw [e1, sSet_pre (h := h) (p := p) h (fun i hi => by rw [hn]; exact dg8_pre hy hi)]
  constructor
  · intro H j hj hc _
    have := H j hj hc
    rw [e j hj hc] at this
    exact this
  · intro H j hj hc
    rw [e j hj hc]
    exact H j hj hc (hf j hj hc)
theorem free8 {h h' v : Nat} (hf : ∀ j, j < r → c j = true → st j < 2 ^ h) (hh : h ≤ h') (hh' : h' < n) (hv : v < 8) : cN (tru n r st lo hi c) (8 ^ n) = 8 * cN (truH n (tru n r st lo hi c) h' v) (8 ^ n) := by
  have hf' : ∀ j, j < r → c j = true → st j < 2 ^ h' := fun j hj hc => Nat.lt_of_lt_of_le (hf j hj hc) (Nat.pow_le_pow_right (by omega) hh)
  obtain ⟨k, hk⟩ : ∃ k, n = h' + (k + 1) := ⟨n - h' - 1, by omega⟩
  have e8 : 8 ^ n = 8 ^ h' * 8 ^ (k + 1) := by rw [hk, Nat.pow_add]
  have ek : 8 ^ (k + 1) = 8 * 8 ^ k := by rw [Nat.pow_succ, Nat.mul_comm]
  have s1 : ∀ a, a < 8 ^ h' → cB (tru n r st lo hi c) (a * 8 ^ (k + 1)) (8 ^ (k + 1)) = 8 * cB (truH n (tru n r st lo hi c) h' v) (a * 8 ^ (k + 1)) (8 ^ (k + 1)) := fun a _ => by
    by_cases q : tru n r st lo hi c (a * 8 ^ (k + 1)) = true
    · have hok : okP r st lo hi c h' a := (tru_pre (h := h') (m := k + 1) (y := 0) hk (Nat.pow_pos (by omega)) hf').mp q
      rw [cB_all fun y hy => (tru_pre hk hy hf').mpr hok, ek, cB_dig hv fun x hx => ?_]
      have ht : tru n r st lo hi c (a * (8 * 8 ^ k) + x) = true := by
        rw [← ek]
        exact (tru_pre hk (by rw [ek]; exact hx) hf').mpr hok
      unfold truH
      rw [ht, Bool.true_and]
      have ed : dg8 n (a * (8 * 8 ^ k) + x) h' = x / 8 ^ k := by
        unfold dg8
        rw [show n - 1 - h' = k by omega]
        have h0 : 0 < 8 ^ k := Nat.pow_pos (by omega)
        have hq : x / 8 ^ k < 8 := (Nat.div_lt_iff_lt_mul h0).mpr hx
        rw [← Nat.mul_assoc, Nat.add_comm, Nat.add_mul_div_right _ _ h0, Nat.add_mul_mod_self_right, Nat.mod_eq_of_lt hq]
      rw [ed]
    · have hno : ∀ y, y < 8 ^ (k + 1) → tru n r st lo hi c (a * 8 ^ (k + 1) + y) = false := fun y hy => by
        cases z : tru n r st lo hi c (a * 8 ^ (k + 1) + y)
        · rfl
        · exact absurd ((tru_pre (h := h') (m := k + 1) (y := 0) hk (Nat.pow_pos (by omega)) hf').mpr ((tru_pre hk hy hf').mp z)) q
      rw [cB_no hno, cB_no fun y hy => truH_no (hno y hy)]
  rw [← cB_cN, ← cB_cN, e8, cB_fn (8 ^ h') s1, cB_fn (s := fun a => cB (truH n (tru n r st lo hi c) h' v) (a * 8 ^ (k + 1)) (8 ^ (k + 1))) (8 ^ h') (fun a _ => rfl)]
  generalize 8 ^ h' = q
  induction q with
  | zero => rfl
  | succ q ih =>
    show sN _ q + _ = 8 * (sN _ q + _)
    rw [ih, Nat.mul_add]
end
