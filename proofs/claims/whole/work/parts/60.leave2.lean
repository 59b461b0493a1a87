/-! LEAVE: the class. -/
theorem s_fill5 {a0 len : Nat} (ka : ∀ x, kI a0 x = mIn x len) (hl : len < 100000) (v : Int32) : ∀ (m i k : Nat) (S : mT), i + m = len → m < k → ∃ S', fJ7_fill_53178_5 a0 k v (nI i) (nI len) S = some S' ∧ (∀ j, i ≤ j → j < len → S'.1 a0 j = v) ∧ (∀ j, j < i → S'.1 a0 j = S.1 a0 j) ∧ ∀ a j, a ≠ a0 → S'.1 a j = S.1 a j
  | 0, i, k, S, hi, hk => by
    obtain ⟨k', rfl⟩ := up1 hk
    have hi : i = len := by omega
    subst hi
    have c : nI i ≤ nI i := Int32.le_refl _
    exact ⟨S, by simp only [fJ7_fill_53178_5, if_pos c], fun j _ _ => by omega, fun _ _ => rfl, fun _ _ _ => rfl⟩
  | m + 1, i, k, S, hi, hk => by
    obtain ⟨k', rfl⟩ := up1 hk
    obtain ⟨S', r1, r2, r3, r4⟩ := s_fill5 ka hl v m (i + 1) k' (sI S a0 i v) (by omega) (by omega)
    have c : ¬ nI len ≤ nI i := fun z => by have := (xLe (by omega) (by omega)).mp z; omega
    have o1 : nI i + (1 : Int32) = nI (i + 1) := nI_add i 1
    refine ⟨S', ?_, fun j g1 g2 => ?_, fun j g => ?_, fun a j g => by rw [r4 a j g, sI_rd, if_neg (by omega)]⟩
    · rw [← r1]
      simp (disch := omega) only [fJ7_fill_53178_5, if_neg c, ka, g_t, b_d, b_c, b_v, Bool.and_true, Bool.and_self, Bool.true_and, xIx, xIn, o1]
    · by_cases q : j = i
      · rw [r3 j (by omega), sI_rd, if_pos ⟨rfl, q⟩]
      · exact r2 j (by omega) g2
    · rw [r3 j (by omega), sI_rd, if_neg (by omega)]
theorem s_fill {a0 len : Nat} (hs : sT a0 = .inr (.int, len)) (hb : Nat.blt a0 233 = true) (hl : len < 100000) (v : Int32) (S : mT) : ∃ S', fJ7_fill_53178 a0 v S = some S' ∧ (∀ j, j < len → S'.1 a0 j = v) ∧ ∀ a j, a ≠ a0 → S'.1 a j = S.1 a j := by
  obtain ⟨S', r1, r2, r3, r4⟩ := s_fill5 (kI_of hs hb) hl v len 0 mK S (by omega) (by have := mK_gt; omega)
  refine ⟨S', ?_, fun j hj => r2 j (by omega) hj, r4⟩
  rw [← r1]
  unfold fJ7_fill_53178
  rw [kL_of hs hb, hs]
  simp only [g_t, b_d, b_c, b_v, Bool.and_true, Bool.and_self, Bool.true_and]
  rfl
section
variable {t : Nat → Nat → Nat} {n : Nat} {C : mT}
/-- the table of taxes -/
def tOk (t : Nat → Nat → Nat) (n : Nat) (C : mT) : Prop := C.1 85 3 = nI n ∧ ∀ i w, i < n → w < 8 → C.1 (87 + i) w = nI (t i w)
theorem c_cf6 (ht : ∀ i w, t i w ≤ 1000000) {i a : Nat} (hi : i < 5) (ha : a ≤ 35) {g : Nat → Nat} (hg : ∀ x, g x ≤ 1000000) (e1 : ∀ w, w < 8 → C.1 (87 + i) w = nI (t i w)) (e2 : ∀ x, x ≤ 35 → C.1 (93 + (i + 1)) x = nI (g x)) : ∀ (m v k : Nat), v + m = 8 → m < k → fX1_cheapestFrom_6 k (nI i) (nI a) (nI (chv (t i) g a v)) (nI v) C = some (nI (chv (t i) g a 8), C)
  | 0, v, k, hv, hk => by
    obtain ⟨k', rfl⟩ := up1 hk
    have hv : v = 8 := by omega
    subst hv
    have c : (7 : Int32) < nI 8 := by decide
    simp only [fX1_cheapestFrom_6, fX1_cheapestFrom_53, if_pos c]
  | m + 1, v, k, hv, hk => by
    obtain ⟨k', rfl⟩ := up1 hk
    have c : ¬ nI 7 < nI v := fun z => by have := (xLt (by omega) (by omega)).mp z; omega
    have hc := chv_le (t i) g a v
    by_cases q : a < v
    · have q' : nI a < nI v := (xLt (by omega) (by omega)).mpr q
      have sk : ∀ j, a < j → ∀ d, chv (t i) g a (j + d) = chv (t i) g a j := fun j hj d => by
        induction d with
        | zero => rfl
        | succ d ih =>
          rw [← ih]
          show (if j + d ≤ a then _ else _) = _
          rw [if_neg (by omega)]
          rfl
      have e8 : chv (t i) g a 8 = chv (t i) g a v := by
        have := sk v q (8 - v)
        rw [show v + (8 - v) = 8 by omega] at this
        exact this
      rw [e8]
      simp only [fX1_cheapestFrom_6, fX1_cheapestFrom_53, xL, if_neg c, if_pos q']
    · have q' : ¬ nI a < nI v := fun z => q ((xLt (by omega) (by omega)).mp z)
      have hsum := ht i v
      have hgs := hg (a - v)
      have o1 : nI v + nI 1 = nI (v + 1) := nI_add v 1
      have o2 : nI i + nI 1 = nI (i + 1) := nI_add i 1
      have o3 : nI a - nI v = nI (a - v) := xS (by omega)
      have o4 : nI (t i v) + nI (g (a - v)) = nI (t i v + g (a - v)) := nI_add _ _
      have o5 : (if nI (t i v + g (a - v)) < nI (chv (t i) g a v) then nI (t i v + g (a - v)) else nI (chv (t i) g a v)) = nI (chv (t i) g a (v + 1)) := by
        have e : chv (t i) g a (v + 1) = min (t i v + g (a - v)) (chv (t i) g a v) := if_pos (by omega)
        rw [e]
        by_cases z : t i v + g (a - v) < chv (t i) g a v
        · rw [if_pos ((yLt (by omega) (by omega)).mpr z)]
          exact congrArg nI (by omega)
        · rw [if_neg (fun y => z ((yLt (by omega) (by omega)).mp y))]
          exact congrArg nI (by omega)
      rw [← c_cf6 ht hi ha hg e1 e2 m (v + 1) k' (by omega) (by omega)]
      simp (disch := omega) only [fX1_cheapestFrom_6, g_t, b_d, b_c, b_v, Bool.and_true, Bool.and_self, Bool.true_and, xL, if_neg c, if_neg q', kO_85, kR_86, kR_92, o1, o2, o3, xIx, xIn, rw_86, ki_86, rw_92, ki_92, e1 v (by omega), e2 (a - v) (by omega), o4, o5]
theorem c_w39 (ht : ∀ i w, t i w ≤ 1000000) {i m0 : Nat} (hi : i < 5) (rc : Int32 → mT → Option mT) : ∀ (m a k : Nat) (C : mT), a + m = 36 → m < k → (∀ w, w < 8 → C.1 (87 + i) w = nI (t i w)) → (∀ x, x ≤ 35 → C.1 (93 + (i + 1)) x = nI (ch t m0 (i + 1) x)) → (∀ x, x < a → C.1 (93 + i) x = nI (ch t (m0 + 1) i x)) → ∃ C', fX1_weighFromTheEnd_39 rc k (nI i) (nI a) C = rc (nI i + (-1)) C' ∧ (∀ x, x ≤ 35 → C'.1 (93 + i) x = nI (ch t (m0 + 1) i x)) ∧ ∀ c j, c ≠ 93 + i → C'.1 c j = C.1 c j
  | 0, a, k, C, ha, hk, e1, e2, e3 => by
    obtain ⟨k', rfl⟩ := up1 hk
    have ha : a = 36 := by omega
    subst ha
    have c : (35 : Int32) < nI 36 := by decide
    exact ⟨C, by simp only [fX1_weighFromTheEnd_39, if_pos c, g_t, b_d, b_c, b_v, Bool.and_true, Bool.and_self, Bool.true_and], fun x hx => e3 x (by omega), fun _ _ _ => rfl⟩
  | m + 1, a, k, C, ha, hk, e1, e2, e3 => by
    obtain ⟨k', rfl⟩ := up1 hk
    have c : ¬ nI 35 < nI a := fun z => by have := (xLt (by omega) (by omega)).mp z; omega
    have r := c_cf6 (t := t) (a := a) ht hi (by omega) (g := ch t m0 (i + 1)) (ch_le t m0 (i + 1)) e1 e2 8 0 mK (by omega) (by have := mK_gt; omega)
    have r' : fX1_cheapestFrom (nI i) (nI a) C = some (nI (ch t (m0 + 1) i a), C) := r
    obtain ⟨C', s1, s2, s3⟩ := c_w39 ht (m0 := m0) hi rc m (a + 1) k' (sI C (93 + i) a (nI (ch t (m0 + 1) i a))) (by omega) (by omega) (fun w hw => by rw [sI_rd, if_neg (by omega)]; exact e1 w hw) (fun x hx => by rw [sI_rd, if_neg (by omega)]; exact e2 x hx) (fun x hx => by
      rw [sI_rd]
      by_cases q : x = a
      · rw [if_pos ⟨rfl, q⟩, q]
      · rw [if_neg (by omega)]
        exact e3 x (by omega))
    refine ⟨C', ?_, s2, fun c j g => by rw [s3 c j g, sI_rd, if_neg (by omega)]⟩
    rw [← s1]
    have o1 : nI a + nI 1 = nI (a + 1) := nI_add a 1
    simp (disch := omega) only [fX1_weighFromTheEnd_39, g_t, b_d, b_c, b_v, Bool.and_true, Bool.and_self, Bool.true_and, xL, if_neg c, kO_85, kR_92, r', xIx, xIn, rw_92, ki_92, o1]
theorem c_w33 (ht : ∀ i w, t i w ≤ 1000000) (hn : n ≤ 5) : ∀ (i k : Nat) (C : mT), i ≤ n → i < k → (∀ i' w, i' < n → w < 8 → C.1 (87 + i') w = nI (t i' w)) → (∀ i' x, i ≤ i' → i' ≤ n → x ≤ 35 → C.1 (93 + i') x = nI (ch t (n - i') i' x)) → ∃ C', fX1_weighFromTheEnd_33 k (nI i + (-1)) C = some C' ∧ (∀ i' x, i' ≤ n → x ≤ 35 → C'.1 (93 + i') x = nI (ch t (n - i') i' x)) ∧ ∀ c j, (c < 93 ∨ 98 < c) → C'.1 c j = C.1 c j
  | 0, k, C, hi, hk, e1, e2 => by
    obtain ⟨k', rfl⟩ := up1 hk
    have c : nI 0 + (-1 : Int32) < 0 := by decide
    exact ⟨C, by simp only [fX1_weighFromTheEnd_33, if_pos c], fun i' x h1 h2 => e2 i' x (by omega) h1 h2, fun _ _ _ => rfl⟩
  | i + 1, k, C, hi, hk, e1, e2 => by
    obtain ⟨k', rfl⟩ := up1 hk
    have o : nI (i + 1) + (-1 : Int32) = nI i := xP (by omega)
    have c : ¬ nI i < (0 : Int32) := nI_pos (by omega)
    obtain ⟨m0, hm0⟩ : ∃ m0, n - i = m0 + 1 := ⟨n - i - 1, by omega⟩
    have hm1 : n - (i + 1) = m0 := by omega
    obtain ⟨C1, r1, r2, r3⟩ := c_w39 (t := t) (m0 := m0) ht (i := i) (by omega) (fX1_weighFromTheEnd_33 k') 36 0 mK C (by omega) (by have := mK_gt; omega) (fun w hw => e1 i w (by omega) hw) (fun x hx => by rw [← hm1]; exact e2 (i + 1) x (by omega) (by omega) hx) (fun x hx => by omega)
    obtain ⟨C', s1, s2, s3⟩ := c_w33 ht hn i k' C1 (by omega) (by omega) (fun i' w h1 h2 => by rw [r3 _ _ (by omega)]; exact e1 i' w h1 h2) (fun i' x h1 h2 h3 => by
      by_cases q : i' = i
      · rw [q, hm0]
        exact r2 x h3
      · rw [r3 _ _ (by omega)]
        exact e2 i' x (by omega) h2 h3)
    refine ⟨C', ?_, s2, fun c j g => by rw [s3 c j g, r3 _ _ (by omega)]⟩
    rw [← s1, ← r1, o]
    conv => lhs; unfold fX1_weighFromTheEnd_33
    rw [if_neg c]
    rfl
theorem c_weigh (ht : ∀ i w, t i w ≤ 1000000) (hn : n ≤ 5) (h : tOk t n C) : ∃ C', fX1_weighFromTheEnd C = some C' ∧ tOk t n C' ∧ (∀ i' x, i' ≤ n → x ≤ 35 → C'.1 (93 + i') x = nI (ch t (n - i') i' x)) ∧ ∀ c j, (c < 93 ∨ 98 < c) → C'.1 c j = C.1 c j := by
  obtain ⟨h1, h2⟩ := h
  obtain ⟨C1, f1, f2, f3⟩ := s_fill (st_92 n (by omega)) (blt_of (by omega)) (by omega) (1000000 : Int32) C
  have h85 : C1.1 85 3 = nI n := by rw [f3 _ _ (by omega)]; exact h1
  have h852 : (sI C1 (93 + n) 0 (nI 0)).1 85 3 = nI n := by rw [sI_rd, if_neg (by omega)]; exact h85
  obtain ⟨C2, r1, r2, r3⟩ := c_w33 ht hn n mK (sI C1 (93 + n) 0 (nI 0)) (by omega) (by have := mK_gt; omega) (fun i' w g1 g2 => by rw [sI_rd, if_neg (by omega), f3 _ _ (by omega)]; exact h2 i' w g1 g2) (fun i' x g1 g2 g3 => by
    have e : i' = n := by omega
    subst e
    rw [sI_rd, Nat.sub_self]
    unfold ch
    by_cases q : x = 0
    · rw [if_pos ⟨rfl, q⟩, if_pos q]
    · rw [if_neg (by omega), if_neg q, f2 x (by omega)]
      rfl)
  have fr : ∀ c j, (c < 93 ∨ 98 < c) → C2.1 c j = C.1 c j := fun c j g => by rw [r3 c j g, sI_rd, if_neg (by omega), f3 _ _ (by omega)]
  refine ⟨C2, ?_, ⟨by rw [fr _ _ (by omega)]; exact h1, fun i w g1 g2 => by rw [fr _ _ (by omega)]; exact h2 i w g1 g2⟩, r2, fr⟩
  rw [← r1]
  have z0 : mIn (0 : Int32) 36 = true := rfl
  have y0 : mIx (0 : Int32) = 0 := rfl
  have o : nI n - (1 : Int32) = nI n + (-1) := Int32.sub_eq_add_neg _ _
  have w0 : sI C1 (93 + n) 0 (0 : Int32) = sI C1 (93 + n) 0 (nI 0) := rfl
  unfold fX1_weighFromTheEnd
  simp (disch := omega) only [h1, kO_85, kR_92, xIx, xIn, rw_92, ki_92, g_t, b_d, b_c, b_v, Bool.and_true, Bool.and_self, Bool.true_and, f1, h85, z0, y0, w0, h852, o]
/-- the first that fits, as the class looks for it -/
theorem c_ff3 (ht : ∀ i w, t i w ≤ 1000000) {i a L : Nat} (hi : i < 5) (ha : a ≤ 35) (hL : L < 1000000) {g : Nat → Nat} (hg : ∀ x, g x ≤ 1000000) (e1 : ∀ w, w < 8 → C.1 (87 + i) w = nI (t i w)) (e2 : ∀ x, x ≤ 35 → C.1 (93 + (i + 1)) x = nI (g x)) : ∀ (m v k : Nat), v + m = 8 → m < k → fX1_firstThatFits_3 k (nI i) (nI L) (nI a) (nI v) C = some (nI (ff (t i) g a L m v), C)
  | 0, v, k, hv, hk => by
    obtain ⟨k', rfl⟩ := up1 hk
    have hv : v = 8 := by omega
    subst hv
    have c : nI 7 ≤ nI 8 := by decide
    have o := nmin (a := a) (c := 7) (by omega) (by omega)
    have o7 : ff (t i) g a L 0 8 = min a 7 := rfl
    rw [o7]
    simp only [fX1_firstThatFits_3, fX1_firstThatFits_52, xL, if_pos c, g_t, b_d, b_c, b_v, Bool.and_true, Bool.and_self, Bool.true_and, o]
  | m + 1, v, k, hv, hk => by
    obtain ⟨k', rfl⟩ := up1 hk
    have o := nmin (a := a) (c := 7) (by omega) (by omega)
    unfold ff
    by_cases c1 : 7 ≤ v
    · have c1' : nI 7 ≤ nI v := (xLe (by omega) (by omega)).mpr c1
      rw [if_pos c1]
      simp only [fX1_firstThatFits_3, fX1_firstThatFits_52, xL, if_pos c1', g_t, b_d, b_c, b_v, Bool.and_true, Bool.and_self, Bool.true_and, o]
    · have c1' : ¬ nI 7 ≤ nI v := fun z => c1 ((xLe (by omega) (by omega)).mp z)
      rw [if_neg c1]
      by_cases c2 : a ≤ v
      · have c2' : nI a ≤ nI v := (xLe (by omega) (by omega)).mpr c2
        rw [if_pos c2]
        simp only [fX1_firstThatFits_3, fX1_firstThatFits_52, xL, if_neg c1', if_pos c2', g_t, b_d, b_c, b_v, Bool.and_true, Bool.and_self, Bool.true_and, o]
      · have c2' : ¬ nI a ≤ nI v := fun z => c2 ((xLe (by omega) (by omega)).mp z)
        have hsum := ht i v
        have hgs := hg (a - v)
        have o1 : nI v + nI 1 = nI (v + 1) := nI_add v 1
        have o2 : nI i + nI 1 = nI (i + 1) := nI_add i 1
        have o3 : nI a - nI v = nI (a - v) := xS (by omega)
        have o4 : nI (t i v) + nI (g (a - v)) = nI (t i v + g (a - v)) := nI_add _ _
        rw [if_neg c2]
        by_cases c3 : L < t i v + g (a - v)
        · have c3' : nI L < nI (t i v + g (a - v)) := (yLt (by omega) (by omega)).mpr c3
          rw [if_pos c3, ← c_ff3 ht hi ha hL hg e1 e2 m (v + 1) k' (by omega) (by omega)]
          simp (disch := omega) only [fX1_firstThatFits_3, g_t, b_d, b_c, b_v, Bool.and_true, Bool.and_self, Bool.true_and, xL, if_neg c1', if_neg c2', kO_85, kR_86, kR_92, o1, o2, o3, xIx, xIn, rw_86, ki_86, rw_92, ki_92, e1 v (by omega), e2 (a - v) (by omega), o4, if_pos c3']
        · have c3' : ¬ nI L < nI (t i v + g (a - v)) := fun z => c3 ((yLt (by omega) (by omega)).mp z)
          rw [if_neg c3]
          simp (disch := omega) only [fX1_firstThatFits_3, g_t, b_d, b_c, b_v, Bool.and_true, Bool.and_self, Bool.true_and, xL, if_neg c1', if_neg c2', kO_85, kR_86, kR_92, o1, o2, o3, xIx, xIn, rw_86, ki_86, rw_92, ki_92, e1 v (by omega), e2 (a - v) (by omega), o4, if_neg c3']
/-- a digit -/
theorem c_pick (ht : ∀ i w, t i w ≤ 1000000) (hn : n ≤ 5) : ∀ (m i a L k : Nat) (C : mT), i + m = n → m < k → a ≤ 35 → L < 1000000 → (∃ c, c < 8 ^ m ∧ mS m c = a ∧ tS t m i c ≤ L) → tOk t n C → (∀ i' x, i' ≤ n → x ≤ 35 → C.1 (93 + i') x = nI (ch t (n - i') i' x)) → ∃ C', fX1_pickFirst_8 k (nI L) (nI a) (nI i) C = some C' ∧ (∀ j, j < m → C'.1 99 (i + j) = nI (dg8 m (pk t m i a L) j)) ∧ (∀ j, j < i → C'.1 99 j = C.1 99 j) ∧ ∀ c j, c ≠ 99 → C'.1 c j = C.1 c j
  | 0, i, a, L, k, C, hi, hk, ha, hL, hex, h, e => by
    obtain ⟨k', rfl⟩ := up1 hk
    have hi : i = n := by omega
    subst hi
    have c : nI i ≤ nI i := Int32.le_refl _
    exact ⟨C, by simp only [fX1_pickFirst_8, kO_85, g_t, b_d, b_c, b_v, Bool.and_true, Bool.and_self, Bool.true_and, h.1, if_pos c], fun j hj => by omega, fun _ _ => rfl, fun _ _ _ => rfl⟩
  | m + 1, i, a, L, k, C, hi, hk, ha, hL, hex, h, e => by
    obtain ⟨k', rfl⟩ := up1 hk
    have c : ¬ nI n ≤ nI i := fun z => by have := (xLe (by omega) (by omega)).mp z; omega
    have hm1 : n - (i + 1) = m := by omega
    have r := c_ff3 (t := t) (C := C) (i := i) (a := a) (L := L) ht (by omega) ha hL (g := ch t m (i + 1)) (ch_le t m (i + 1)) (fun w hw => h.2 i w (by omega) hw) (fun x hx => by rw [← hm1]; exact e (i + 1) x (by omega) hx) 8 0 mK (by omega) (by have := mK_gt; omega)
    have r' : fX1_firstThatFits (nI i) (nI L) (nI a) C = some (nI (ff (t i) (ch t m (i + 1)) a L 8 0), C) := r
    have h1 := (ch_iff t hL (m + 1) i a L hL).mpr hex
    have h2 := (chv_iff hL 8).mp h1
    obtain ⟨q1, q2, q3, q4⟩ := ff_spec h2 8 0 (by omega) (fun w hw => absurd hw (Nat.not_lt_zero _))
    have epk : pk t (m + 1) i a L = ff (t i) (ch t m (i + 1)) a L 8 0 * 8 ^ m + pk t m (i + 1) (a - ff (t i) (ch t m (i + 1)) a L 8 0) (L - t i (ff (t i) (ch t m (i + 1)) a L 8 0)) := rfl
    rw [epk]
    generalize ff (t i) (ch t m (i + 1)) a L 8 0 = v at q1 q2 q3 q4 r' ⊢
    have hex' := (ch_iff t hL m (i + 1) (a - v) (L - t i v) (by omega)).mp (by omega)
    have hp := (pk_spec t m (i + 1) (a - v) (L - t i v) (by omega) hex').1
    obtain ⟨C', s1, s2, s3, s4⟩ := c_pick ht hn m (i + 1) (a - v) (L - t i v) k' (sI C 99 i (nI v)) (by omega) (by omega) (by omega) (by omega) hex' ⟨by rw [sI_rd, if_neg (by omega)]; exact h.1, fun i' w g1 g2 => by rw [sI_rd, if_neg (by omega)]; exact h.2 i' w g1 g2⟩ (fun i' x g1 g2 => by rw [sI_rd, if_neg (by omega)]; exact e i' x g1 g2)
    refine ⟨C', ?_, fun j hj => ?_, fun j hj => by rw [s3 j (by omega), sI_rd, if_neg (by omega)], fun c j g => by rw [s4 c j g, sI_rd, if_neg (by omega)]⟩
    · rw [← s1]
      have o1 : nI i + (1 : Int32) = nI (i + 1) := nI_add i 1
      have o2 : nI L - nI (t i v) = nI (L - t i v) := xS (by omega)
      have o3 : nI a - nI v = nI (a - v) := xS q2
      have e9 : (sI C 99 i (nI v)).1 (87 + i) v = nI (t i v) := by rw [sI_rd, if_neg (by omega)]; exact h.2 i v (by omega) q1
      simp (disch := omega) only [fX1_pickFirst_8, kO_85, kI_99, kR_86, g_t, b_d, b_c, b_v, Bool.and_true, Bool.and_self, Bool.true_and, h.1, if_neg c, r', xIx, xIn, rw_86, ki_86, e9, o1, o2, o3]
    · by_cases q : j = 0
      · subst q
        rw [Nat.add_zero, s3 i (by omega), sI_rd, if_pos ⟨rfl, rfl⟩]
        unfold dg8
        rw [show m + 1 - 1 - 0 = m by omega, (dv8 hp).1, Nat.mod_eq_of_lt q1]
      · obtain ⟨j', rfl⟩ : ∃ j', j = j' + 1 := ⟨j - 1, by omega⟩
        rw [show i + (j' + 1) = i + 1 + j' by omega, s2 j' (by omega)]
        unfold dg8
        rw [show m + 1 - 1 - (j' + 1) = m - 1 - j' by omega]
        generalize pk t m (i + 1) (a - v) (L - t i v) = x
        have e8 : v * 8 ^ m = v * 8 ^ j' * 8 * 8 ^ (m - 1 - j') := by
          rw [Nat.mul_assoc, Nat.mul_assoc, ← Nat.pow_succ', ← Nat.pow_add]
          congr 2
          omega
        rw [e8, Nat.add_comm, Nat.add_mul_div_right _ _ (Nat.pow_pos (by omega)), Nat.add_mul_mod_self_right]
end
