/-! SEATS. -/
def sN (f : Nat → Nat) : Nat → Nat
  | 0 => 0
  | i + 1 => sN f i + f i
theorem sN_le {f : Nat → Nat} {c : Nat} : ∀ {n : Nat}, (∀ i, i < n → f i ≤ c) → sN f n ≤ n * c
  | 0, _ => by simp [sN]
  | n + 1, h => by
    have h1 := sN_le (n := n) (fun i hi => h i (by omega))
    have h2 := h n (by omega)
    rw [Nat.succ_mul]
    unfold sN
    omega
theorem sN_mono {f : Nat → Nat} {n : Nat} : ∀ {m : Nat}, n ≤ m → sN f n ≤ sN f m
  | 0, h => by
    have : n = 0 := by omega
    subst this
    exact Nat.le_refl _
  | m + 1, h => by
    by_cases c : n = m + 1
    · rw [c]
      exact Nat.le_refl _
    · have := sN_mono (f := f) (n := n) (m := m) (by omega)
      show sN f n ≤ sN f m + f m
      omega
section
variable {B : Nat → Nat} {n N : Nat}
def qS (B : Nat → Nat) (n N j : Nat) : Nat := B j * N / sN B n
theorem qs1 (h0 : 0 < sN B n) : ∀ i, sN (qS B n N) i * sN B n ≤ N * sN B i
  | 0 => by simp [sN]
  | i + 1 => by
    have h1 := qs1 h0 i
    have h2 : qS B n N i * sN B n ≤ B i * N := Nat.div_mul_le_self _ _
    show (sN (qS B n N) i + qS B n N i) * sN B n ≤ N * (sN B i + B i)
    rw [Nat.add_mul, Nat.mul_add, Nat.mul_comm N (B i)]
    omega
theorem qs2 (h0 : 0 < sN B n) : ∀ i, N * sN B i + i ≤ (sN (qS B n N) i + i) * sN B n
  | 0 => by simp [sN]
  | i + 1 => by
    have h1 := qs2 h0 i
    have h2 : B i * N < (qS B n N i + 1) * sN B n := by
      have := Nat.lt_div_mul_add (a := B i * N) h0
      rw [Nat.add_mul, Nat.one_mul]
      exact this
    show N * (sN B i + B i) + (i + 1) ≤ (sN (qS B n N) i + qS B n N i + (i + 1)) * sN B n
    have e : (sN (qS B n N) i + qS B n N i + (i + 1)) * sN B n = (sN (qS B n N) i + i) * sN B n + (qS B n N i + 1) * sN B n := by
      rw [← Nat.add_mul]
      congr 1
      omega
    rw [e, Nat.mul_add, Nat.mul_comm N (B i)]
    omega
theorem qs_le (h0 : 0 < sN B n) {i : Nat} (hi : i ≤ n) : sN (qS B n N) i ≤ N := by
  have h1 := qs1 (N := N) h0 i
  have h2 : N * sN B i ≤ N * sN B n := Nat.mul_le_mul_left _ (sN_mono hi)
  exact Nat.le_of_mul_le_mul_right (Nat.le_trans h1 h2) h0
theorem qs_left (h0 : 0 < sN B n) (hn : 0 < n) : N - sN (qS B n N) n < n := by
  have h1 := qs2 (N := N) h0 n
  have h2 : N * sN B n < (sN (qS B n N) n + n) * sN B n := by omega
  have h3 := Nat.lt_of_mul_lt_mul_right h2
  omega
end
/-- one more to the greatest rest, t times -/
def lrS (g r : Nat → Int32) (n : Nat) : Nat → (Nat → Int32) × (Nat → Int32)
  | 0 => (g, r)
  | t + 1 => (fun j => if j = fl (lrS g r n t).2 n then (lrS g r n t).1 j + 1 else (lrS g r n t).1 j, fun j => if j = fl (lrS g r n t).2 n then -1 else (lrS g r n t).2 j)
/-- whose turn it is by the other law -/
def fo (B g : Nat → Int32) : Nat → Nat
  | 0 => 0
  | i + 1 => if i = 0 then 0 else if B i * (g (fo B g i) + 1) ≤ B (fo B g i) * (g i + 1) then fo B g i else i
theorem fo_lt {B g : Nat → Int32} : ∀ {n : Nat}, 0 < n → fo B g n < n
  | n + 1, _ => by
    unfold fo
    by_cases c : n = 0
    · rw [if_pos c]
      omega
    · rw [if_neg c]
      have := fo_lt (B := B) (g := g) (n := n) (by omega)
      split
      · omega
      · omega
theorem fo_congr {B g B' g' : Nat → Int32} : ∀ {n : Nat}, (∀ i, i < n → B i = B' i ∧ g i = g' i) → fo B g n = fo B' g' n
  | 0, _ => rfl
  | n + 1, h => by
    unfold fo
    by_cases c : n = 0
    · rw [if_pos c, if_pos c]
    · have := fo_lt (B := B) (g := g) (n := n) (by omega)
      rw [if_neg c, if_neg c, ← fo_congr (n := n) (fun i hi => h i (by omega)), (h n (by omega)).1, (h n (by omega)).2, (h (fo B g n) (by omega)).1, (h (fo B g n) (by omega)).2]
def ogS (B : Nat → Int32) (n : Nat) : Nat → Nat → Int32
  | 0 => fun _ => 0
  | t + 1 => fun j => if j = fo B (ogS B n t) n then ogS B n t j + 1 else ogS B n t j
/-- the seats -/
def gS (B : Nat → Nat) (n N law : Nat) : Nat → Int32 := if sN B n = 0 then (fun _ => 0) else if law = 0 then (lrS (fun j => nI (qS B n N j)) (fun j => nI (B j * N % sN B n)) n (N - sN (qS B n N) n)).1 else ogS (fun j => nI (B j)) n N
/-! the class -/
section
variable {B : Nat → Nat} {n N : Nat} {S C : mT}
theorem s_gr4 (hn : n ≤ 5) (n1 : S.1 109 4 = nI n) : ∀ (m i k : Nat), 0 < i → i + m = n → m < k → fX7_greatestRest_4 k (nI (fl (S.1 112) i)) (nI i) S = some (nI (fl (S.1 112) n), S)
  | 0, i, k, h0, hi, hk => by
    obtain ⟨k', rfl⟩ := up1 hk
    have hi : i = n := by omega
    subst hi
    simp (disch := omega) [fX7_greatestRest_4, kO_109, kI_112, fX7_greatestRest_29, g_t, b_d, b_c, b_v, Bool.and_true, Bool.and_self, Bool.true_and, n1, xLe]
  | m + 1, i, k, h0, hi, hk => by
    obtain ⟨k', rfl⟩ := up1 hk
    have hl := fl_lt (f := S.1 112) h0
    rw [← s_gr4 hn n1 m (i + 1) k' (by omega) (by omega) (by omega)]
    have c : ¬ n ≤ i := by omega
    have c0 : ¬ i = 0 := by omega
    by_cases q : S.1 112 i ≤ S.1 112 (fl (S.1 112) i)
    · simp (disch := omega) [fX7_greatestRest_4, kO_109, kI_112, fX7_greatestRest_29, g_t, b_d, b_c, b_v, Bool.and_true, Bool.and_self, Bool.true_and, xL, xN1, nI_add, xM, xS, xP, xIx, xIn, xLe, xLt, xEq, xDv, n1, c, fl, c0, q]
    · simp (disch := omega) [fX7_greatestRest_4, kO_109, kI_112, fX7_greatestRest_29, g_t, b_d, b_c, b_v, Bool.and_true, Bool.and_self, Bool.true_and, xL, xN1, nI_add, xM, xS, xP, xIx, xIn, xLe, xLt, xEq, xDv, n1, c, fl, c0, q]
theorem s_gr (hn : n ≤ 5) (h0 : 0 < n) (n1 : S.1 109 4 = nI n) : fX7_greatestRest S = some (nI (fl (S.1 112) n), S) := by
  rw [← s_gr4 hn n1 (n - 1) 1 mK (by omega) (by omega) (by have := mK_gt; omega)]
  rfl
theorem s_sr70 (hn : n ≤ 5) (h0 : 0 < n) {g r : Nat → Int32} {l : Nat} (hl : l < 5) : ∀ (m i k : Nat) (C : mT), i + m = l → m < k → C.1 109 4 = nI n → (∀ j, j < n → C.1 111 j = (lrS g r n i).1 j ∧ C.1 112 j = (lrS g r n i).2 j) → ∃ C', fX7_shareByRests_70 k (nI l) (nI i) C = some C' ∧ (∀ j, j < n → C'.1 111 j = (lrS g r n l).1 j) ∧ ∀ a j, a ≠ 111 → a ≠ 112 → C'.1 a j = C.1 a j
  | 0, i, k, C, hi, hk, n1, e => by
    obtain ⟨k', rfl⟩ := up1 hk
    have hi : i = l := by omega
    subst hi
    exact ⟨C, by simp (disch := omega) [fX7_shareByRests_70, kO_109, kI_111, kI_112, fX7_shareByRests_113, xLe], fun j hj => (e j hj).1, fun _ _ _ _ => rfl⟩
  | m + 1, i, k, C, hi, hk, n1, e => by
    obtain ⟨k', rfl⟩ := up1 hk
    have ef : fl (C.1 112) n = fl (lrS g r n i).2 n := fl_congr fun j hj => (e j hj).2
    have hlt := fl_lt (f := (lrS g r n i).2) h0
    have hg := s_gr hn h0 n1
    rw [ef] at hg
    generalize hb : fl (lrS g r n i).2 n = bb at hg hlt
    obtain ⟨C', r1, r2, r3⟩ := s_sr70 hn h0 (g := g) (r := r) hl m (i + 1) k' (sI (sI C 111 bb (C.1 111 bb + 1)) 112 bb (-1)) (by omega) (by omega) (by rw [sI_rd, if_neg (by omega), sI_rd, if_neg (by omega)]; exact n1) (fun j hj => by
      rw [sI_rd, if_neg (by omega), sI_rd, sI_rd]
      simp only [lrS, hb, true_and]
      by_cases c : j = bb
      · rw [if_pos c, if_pos c, if_pos c, if_pos c, c, (e bb hlt).1]
        exact ⟨rfl, rfl⟩
      · rw [if_neg c, if_neg c, if_neg c, if_neg c, sI_rd, if_neg (by omega)]
        exact e j hj)
    refine ⟨C', ?_, r2, fun a j g1 g2 => by rw [r3 a j g1 g2, sI_rd, if_neg (by omega), sI_rd, if_neg (by omega)]⟩
    rw [← r1]
    have c1 : ¬ nI l ≤ nI i := fun z => by have := (xLe (by omega) (by omega)).mp z; omega
    have c2 : ¬ nI 5 ≤ nI i := fun z => by have := (xLe (by omega) (by omega)).mp z; omega
    have o5 : (5 : Int32) = nI 5 := rfl
    have o1 : nI i + (1 : Int32) = nI (i + 1) := nI_add i 1
    simp (disch := omega) only [fX7_shareByRests_70, kO_109, kI_111, kI_112, g_t, b_d, b_c, b_v, Bool.and_true, Bool.and_self, Bool.true_and, o5, if_neg c1, if_neg c2, hg, xIx, xIn, o1]
theorem c_rests (hn : n ≤ 5) (hB : ∀ j, j < n → B j ≤ 100) (hN : N ≤ 20) (h0 : 0 < sN B n) (hn0 : 0 < n) : ∀ (m i k : Nat) (C : mT), i + m = n → m < k → C.1 109 4 = nI n → (∀ j, j < n → C.1 110 j = nI (B j)) → (∀ j, j < i → C.1 111 j = nI (qS B n N j) ∧ C.1 112 j = nI (B j * N % sN B n)) → ∃ C', fX7_shareByRests_5 k (nI N) (nI (sN B n)) (nI (N - sN (qS B n N) i)) (nI i) C = some C' ∧ (∀ j, j < n → C'.1 111 j = gS B n N 0 j) ∧ ∀ a j, a ≠ 111 → a ≠ 112 → C'.1 a j = C.1 a j
  | 0, i, k, C, hi, hk, n1, e, g => by
    obtain ⟨k', rfl⟩ := up1 hk
    have hi : i = n := by omega
    subst hi
    have hl := qs_left (B := B) (N := N) h0 hn0
    obtain ⟨C', r1, r2, r3⟩ := s_sr70 hn hn0 (g := fun j => nI (qS B i N j)) (r := fun j => nI (B j * N % sN B i)) (l := N - sN (qS B i N) i) (by omega) (N - sN (qS B i N) i) 0 mK C (by omega) (by have := mK_gt; omega) n1 g
    refine ⟨C', ?_, fun j hj => ?_, r3⟩
    · rw [← r1]
      have c : nI i ≤ nI i := Int32.le_refl _
      simp only [fX7_shareByRests_5, kO_109, g_t, b_d, b_c, b_v, Bool.and_true, Bool.and_self, Bool.true_and, n1, if_pos c, fX7_shareByRests_67]
      rfl
    · rw [r2 j hj]
      unfold gS
      rw [if_neg (by omega), if_pos rfl]
  | m + 1, i, k, C, hi, hk, n1, e, g => by
    obtain ⟨k', rfl⟩ := up1 hk
    have hA : sN B n ≤ 5 * 100 := Nat.le_trans (sN_le hB) (Nat.mul_le_mul_right _ hn)
    have hp : B i * N ≤ 100 * 20 := Nat.mul_le_mul (hB i (by omega)) hN
    have hq : qS B n N i ≤ B i * N := Nat.div_le_self _ _
    have hm : B i * N % sN B n < sN B n := Nat.mod_lt _ h0
    have hs := qs_le (B := B) (N := N) h0 (i := i + 1) (by omega)
    have hs' : sN (qS B n N) (i + 1) = sN (qS B n N) i + qS B n N i := rfl
    obtain ⟨C', r1, r2, r3⟩ := c_rests hn hB hN h0 hn0 m (i + 1) k' (sI (sI C 111 i (nI (qS B n N i))) 112 i (nI (B i * N % sN B n))) (by omega) (by omega) (by rw [sI_rd, if_neg (by omega), sI_rd, if_neg (by omega)]; exact n1) (fun j hj => by rw [sI_rd, if_neg (by omega), sI_rd, if_neg (by omega)]; exact e j hj) (fun j hj => by
      rw [sI_rd, if_neg (by omega), sI_rd, sI_rd]
      by_cases c : j = i
      · rw [if_pos ⟨rfl, c⟩, if_pos ⟨rfl, c⟩, c]
        exact ⟨rfl, rfl⟩
      · rw [if_neg (by omega), if_neg (by omega), sI_rd, if_neg (by omega)]
        exact g j (by omega))
    refine ⟨C', ?_, r2, fun a j g1 g2 => by rw [r3 a j g1 g2, sI_rd, if_neg (by omega), sI_rd, if_neg (by omega)]⟩
    rw [← r1]
    have c1 : ¬ nI n ≤ nI i := fun z => by have := (xLe (by omega) (by omega)).mp z; omega
    have c2 : ¬ nI (sN B n) ≤ nI 0 := fun z => by have := (xLe (by omega) (by omega)).mp z; omega
    have c3 : decide (¬ nI (sN B n) = nI 0) = true := by
      rw [decide_eq_true_iff]
      exact fun z => by have := (xEq (by omega) (by omega)).mp z; omega
    have d1 : nI (B i) * nI N = nI (B i * N) := xM _ _
    have d2 : nI (B i * N) / nI (sN B n) = nI (qS B n N i) := xDv (by omega) (by omega)
    have d3 : nI (B i * N) - nI (qS B n N i) * nI (sN B n) = nI (B i * N % sN B n) := by rw [← d2, xMd (by omega) (by omega)]
    have d4 : (sI (sI C 111 i (nI (qS B n N i))) 112 i (nI (B i * N % sN B n))).1 111 i = nI (qS B n N i) := by rw [sI_rd, if_neg (by omega), sI_rd, if_pos ⟨rfl, rfl⟩]
    have d5 : nI (N - sN (qS B n N) i) - nI (qS B n N i) = nI (N - sN (qS B n N) (i + 1)) := by
      rw [xS (by omega)]
      exact congrArg nI (by omega)
    have d6 : nI i + nI 1 = nI (i + 1) := nI_add _ _
    simp (disch := omega) only [fX7_shareByRests_5, kO_109, kI_110, kI_111, kI_112, g_t, b_d, b_c, b_v, Bool.and_true, Bool.and_self, Bool.true_and, xL, n1, if_neg c1, if_neg c2, c3, e i (by omega), xIx, xIn, d1, d2, d3, d4, d5, d6]
end
