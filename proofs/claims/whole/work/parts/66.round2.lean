/-! ROUNDS, NOON: the reference, and the calls. -/
section
variable {p z : Nat → Nat} {n : Nat} {L : mT}
theorem p5 (hn : n ≤ 5) : 5 ^ n ≤ 3125 := Nat.le_trans (Nat.pow_le_pow_right (by omega) hn) (by decide)
theorem m_cr4 (hn : n ≤ 5) (n2 : L.1 187 37 = nI n) : ∀ (m i k : Nat), i + m = n → m < k → fX12_countersRows_4 k (nI (5 ^ i)) (nI i) L = some (nI (5 ^ n), L)
  | 0, i, k, hi, hk => by
    obtain ⟨k', rfl⟩ := up1 hk
    have hi : i = n := by omega
    subst hi
    have c : nI i ≤ nI i := Int32.le_refl _
    simp only [fX12_countersRows_4, kO_187, g_t, b_d, b_c, b_v, Bool.and_true, Bool.and_self, Bool.true_and, n2, if_pos c]
  | m + 1, i, k, hi, hk => by
    obtain ⟨k', rfl⟩ := up1 hk
    have c : ¬ nI n ≤ nI i := fun z => by have := (xLe (by omega) (by omega)).mp z; omega
    have o1 : nI i + (1 : Int32) = nI (i + 1) := nI_add i 1
    have o2 : nI (5 ^ i) * (5 : Int32) = nI (5 ^ (i + 1)) := by rw [show (5 : Int32) = nI 5 from rfl, xM, ← Nat.pow_succ]
    rw [← m_cr4 hn n2 m (i + 1) k' (by omega) (by omega)]
    simp only [fX12_countersRows_4, kO_187, g_t, b_d, b_c, b_v, Bool.and_true, Bool.and_self, Bool.true_and, n2, if_neg c, o1, o2]
theorem m_cr (hn : n ≤ 5) (n2 : L.1 187 37 = nI n) : fX12_countersRows L = some (nI (5 ^ n), L) := m_cr4 hn n2 n 0 mK (by omega) (by have := mK_gt; omega)
theorem m_lc37 (hn : n ≤ 5) (n2 : L.1 187 37 = nI n) {D : Nat → Nat} (hD : ∀ j, D j < 5) (e : ∀ j, j < n → L.1 216 j = nI (D j)) : ∀ (m i k : Nat), i + m = n → m < k → vdD D i → (vdD D n → fX12_layCounters_37 k (nI (usD D i)) (nI i) L = some (nI (usD D n), L)) ∧ (¬ vdD D n → fX12_layCounters_37 k (nI (usD D i)) (nI i) L = some (-1, L))
  | 0, i, k, hi, hk, hv => by
    obtain ⟨k', rfl⟩ := up1 hk
    have hi : i = n := by omega
    subst hi
    have c : nI i ≤ nI i := Int32.le_refl _
    exact ⟨fun _ => by simp only [fX12_layCounters_37, kO_187, g_t, b_d, b_c, b_v, Bool.and_true, Bool.and_self, Bool.true_and, n2, if_pos c], fun h => absurd hv h⟩
  | m + 1, i, k, hi, hk, hv => by
    obtain ⟨k', rfl⟩ := up1 hk
    have hu := vdD_us hv
    have hDi := hD i
    have c : ¬ nI n ≤ nI i := fun z => by have := (xLe (by omega) (by omega)).mp z; omega
    have o1 : nI i + (1 : Int32) = nI (i + 1) := nI_add i 1
    by_cases q : D i ≤ usD D i
    · have q' : nI (D i) ≤ nI (usD D i) := (xLe (by omega) (by omega)).mpr q
      have hv' : vdD D (i + 1) := fun j hj => by
        by_cases y : j = i
        · rw [y]
          exact q
        · exact hv j (by omega)
      have ih := m_lc37 hn n2 hD e m (i + 1) k' (by omega) (by omega) hv'
      have st : fX12_layCounters_37 (k' + 1) (nI (usD D i)) (nI i) L = fX12_layCounters_37 k' (nI (usD D (i + 1))) (nI (i + 1)) L := by
        by_cases y : D i = usD D i
        · have y' : nI (D i) = nI (usD D i) := by rw [y]
          have eu : usD D (i + 1) = usD D i + 1 := by
            show max (usD D i) (D i + 1) = _
            omega
          have o2 : nI (usD D i) + (1 : Int32) = nI (usD D i + 1) := nI_add _ 1
          have t1 : ¬ (1 : Int32) = 0 := by decide
          rw [eu]
          simp (disch := omega) only [fX12_layCounters_37, fX12_layCounters_76, kO_187, kI_216, g_t, b_d, b_c, b_v, Bool.and_true, Bool.and_self, Bool.true_and, n2, if_neg c, xIx, xIn, e i (by omega), if_pos q', if_pos y', s_truth, if_neg t1, o1, o2]
        · have y' : ¬ nI (D i) = nI (usD D i) := fun x => y ((xEq (by omega) (by omega)).mp x)
          have eu : usD D (i + 1) = usD D i := by
            show max (usD D i) (D i + 1) = _
            omega
          have o2 : nI (usD D i) + (0 : Int32) = nI (usD D i) := Int32.add_zero _
          rw [eu]
          simp (disch := omega) only [fX12_layCounters_37, fX12_layCounters_76, kO_187, kI_216, g_t, b_d, b_c, b_v, Bool.and_true, Bool.and_self, Bool.true_and, n2, if_neg c, xIx, xIn, e i (by omega), if_pos q', if_neg y', s_truth, if_true, o1, o2]
      rw [st]
      exact ih
    · have q' : ¬ nI (D i) ≤ nI (usD D i) := fun x => q ((xLe (by omega) (by omega)).mp x)
      refine ⟨fun h => absurd (h i (by omega)) q, fun _ => ?_⟩
      simp (disch := omega) only [fX12_layCounters_37, kO_187, kI_216, g_t, b_d, b_c, b_v, Bool.and_true, Bool.and_self, Bool.true_and, n2, if_neg c, xIx, xIn, e i (by omega), if_neg q']
theorem m_lc9 (hn : n ≤ 5) {w : Nat} (hw : w < 5 ^ n) : ∀ (i K k : Nat) (L : mT), i + K = n → i < k → (∀ j, j < n → i ≤ j → L.1 216 j = nI (dg5 n w j)) → ∃ L', fX12_layCounters_9 k (nI (w / 5 ^ K)) (nI i + (-1)) L = fX12_layCounters_37 mK (0 : Int32) (0 : Int32) L' ∧ (∀ j, j < n → L'.1 216 j = nI (dg5 n w j)) ∧ ∀ a j, a ≠ 216 → L'.1 a j = L.1 a j
  | 0, K, k, L, hi, hk, e => by
    obtain ⟨k', rfl⟩ := up1 hk
    have c : nI 0 + (-1 : Int32) < 0 := by decide
    exact ⟨L, by simp only [fX12_layCounters_9, if_pos c], fun j hj => e j hj (by omega), fun _ _ _ => rfl⟩
  | i + 1, K, k, L, hi, hk, e => by
    obtain ⟨k', rfl⟩ := up1 hk
    have hp := p5 hn
    have o : nI (i + 1) + (-1 : Int32) = nI i := xP (by omega)
    have c : ¬ nI i < nI 0 := fun z => by have := (xLt (by omega) (by omega)).mp z; omega
    have hq : w / 5 ^ K ≤ w := Nat.div_le_self _ _
    have d2 : nI (w / 5 ^ K) / nI 5 = nI (w / 5 ^ (K + 1)) := by
      rw [xDv (by omega) (by omega), Nat.div_div_eq_div_mul, ← Nat.pow_succ]
    have ed : dg5 n w i = w / 5 ^ K % 5 := by
      unfold dg5
      rw [show n - 1 - i = K by omega]
    have d3 : nI (w / 5 ^ K) - nI (w / 5 ^ (K + 1)) * nI 5 = nI (dg5 n w i) := by
      rw [← d2, ed]
      exact xMd (by omega) (by omega)
    have d4 : (decide (¬ nI 5 = nI 0)) = true := by decide
    obtain ⟨L', r1, r2, r3⟩ := m_lc9 hn hw i (K + 1) k' (sI L 216 i (nI (dg5 n w i))) (by omega) (by omega) (fun j g1 g2 => by
      rw [sI_rd]
      by_cases y : j = i
      · rw [if_pos ⟨rfl, y⟩, y]
      · rw [if_neg (by omega)]
        exact e j g1 (by omega))
    refine ⟨L', ?_, r2, fun a j g => by rw [r3 a j g, sI_rd, if_neg (by omega)]⟩
    rw [← r1, o]
    simp (disch := omega) only [fX12_layCounters_9, g_t, b_d, b_c, b_v, Bool.and_true, Bool.and_self, Bool.true_and, xL, if_neg c, kO_187, kI_216, d4, d2, d3, xIx, xIn]
theorem m_lc (hn : n ≤ 5) (n2 : L.1 187 37 = nI n) {w : Nat} (hw : w < 5 ^ n) : ∃ L', (vdD (dg5 n w) n → fX12_layCounters (nI w) L = some (nI (gW n w), L')) ∧ (¬ vdD (dg5 n w) n → fX12_layCounters (nI w) L = some (-1, L')) ∧ (∀ j, j < n → L'.1 216 j = nI (dg5 n w j)) ∧ ∀ a j, a ≠ 216 → L'.1 a j = L.1 a j := by
  obtain ⟨L', r1, r2, r3⟩ := m_lc9 hn hw n 0 mK L (by omega) (by have := mK_gt; omega) (fun j _ _ => by omega)
  rw [Nat.pow_zero, Nat.div_one] at r1
  have n3 : L'.1 187 37 = nI n := by rw [r3 _ _ (by omega)]; exact n2
  have h := m_lc37 hn n3 (dg5_lt n w) r2 n 0 mK (by omega) (by have := mK_gt; omega) (fun j hj => absurd hj (Nat.not_lt_zero _))
  have st : fX12_layCounters (nI w) L = fX12_layCounters_37 mK (nI (usD (dg5 n w) 0)) (nI 0) L' := by
    have o : nI n - (1 : Int32) = nI n + (-1) := Int32.sub_eq_add_neg _ _
    unfold fX12_layCounters
    rw [kO_187, n2, Bool.and_true, g_t, b_d, o, r1]
    rfl
  rw [st]
  exact ⟨L', h.1, h.2, r2, r3⟩
/-- the reference's cells -/
def mRd (p z : Nat → Nat) (n : Nat) (L : mT) : Prop := L.1 187 37 = nI n ∧ ∀ j, j < n → L.1 205 j = nI (p j) ∧ L.1 208 (10 + j) = nI (z j)
theorem m_da17 (hn : n ≤ 5) (hp : ∀ j, j < n → p j ≤ 60 ∧ z j ≤ 99) (h : mRd p z n L) {D : Nat → Nat} (hD : ∀ j, D j < 5) (e : ∀ j, j < n → L.1 216 j = nI (D j)) {c l : Nat} (hc : c < 5) (hl : l ≤ 999) (rc : Int32 → Int32 → mT → Option (Int32 × mT)) : ∀ (m i k : Nat), i + m = n → m < k → fX12_doneAt_17 rc k (nI l) (nI c) (nI (fsD p D i c)) (nI (gsD z D i c)) (nI i) L = rc (nI (max l (fsD p D n c + gsD z D n c))) (nI (c + 1)) L
  | 0, i, k, hi, hk => by
    obtain ⟨k', rfl⟩ := up1 hk
    have hi : i = n := by omega
    subst hi
    obtain ⟨b1, b2⟩ := by_le hp D i (Nat.le_refl _) c
    have c0 : nI i ≤ nI i := Int32.le_refl _
    have o1 : nI c + (1 : Int32) = nI (c + 1) := nI_add c 1
    have o2 : nI (fsD p D i c) + nI (gsD z D i c) = nI (fsD p D i c + gsD z D i c) := nI_add _ _
    by_cases q : fsD p D i c + gsD z D i c ≤ l
    · have q' : nI (fsD p D i c + gsD z D i c) ≤ nI l := (xLe (by omega) (by omega)).mpr q
      rw [Nat.max_eq_left q]
      simp only [fX12_doneAt_17, fX12_doneAt_100, kO_187, g_t, b_d, b_c, b_v, Bool.and_true, Bool.and_self, Bool.true_and, h.1, if_pos c0, o2, if_pos q', o1]
    · have q' : ¬ nI (fsD p D i c + gsD z D i c) ≤ nI l := fun x => q ((xLe (by omega) (by omega)).mp x)
      rw [Nat.max_eq_right (by omega)]
      simp only [fX12_doneAt_17, fX12_doneAt_100, kO_187, g_t, b_d, b_c, b_v, Bool.and_true, Bool.and_self, Bool.true_and, h.1, if_pos c0, o2, if_neg q', o1]
  | m + 1, i, k, hi, hk => by
    obtain ⟨k', rfl⟩ := up1 hk
    obtain ⟨b1, b2⟩ := by_le hp D i (by omega) c
    obtain ⟨p1, p2⟩ := hp i (by omega)
    obtain ⟨e5, e8⟩ := h.2 i (by omega)
    have hDi := hD i
    have c0 : ¬ nI n ≤ nI i := fun x => by have := (xLe (by omega) (by omega)).mp x; omega
    have o1 : nI i + (1 : Int32) = nI (i + 1) := nI_add i 1
    have o10 : (10 : Int32) + nI i = nI (10 + i) := nI_add 10 i
    rw [← m_da17 hn hp h hD e hc hl rc m (i + 1) k' (by omega) (by omega)]
    by_cases q : c = D i
    · have q' : nI (D i) = nI c := by rw [q]
      have ef : fsD p D (i + 1) c = max (fsD p D i c) (p i) := if_pos q
      have eg : gsD z D (i + 1) c = gsD z D i c + z i := if_pos q
      rw [ef, eg]
      by_cases y : p i ≤ fsD p D i c
      · have y' : nI (p i) ≤ nI (fsD p D i c) := (xLe (by omega) (by omega)).mpr y
        rw [Nat.max_eq_left y]
        simp (disch := omega) only [fX12_doneAt_17, fX12_doneAt_62, fX12_doneAt_78, kO_187, kI_205, kI_208, kI_216, g_t, b_d, b_c, b_v, Bool.and_true, Bool.and_self, Bool.true_and, h.1, if_neg c0, xIx, xIn, e i (by omega), if_pos q', e5, if_pos y', o10, e8, o1, nI_add]
      · have y' : ¬ nI (p i) ≤ nI (fsD p D i c) := fun x => y ((xLe (by omega) (by omega)).mp x)
        rw [Nat.max_eq_right (by omega)]
        simp (disch := omega) only [fX12_doneAt_17, fX12_doneAt_62, fX12_doneAt_78, kO_187, kI_205, kI_208, kI_216, g_t, b_d, b_c, b_v, Bool.and_true, Bool.and_self, Bool.true_and, h.1, if_neg c0, xIx, xIn, e i (by omega), if_pos q', e5, if_neg y', o10, e8, o1, nI_add]
    · have q' : ¬ nI (D i) = nI c := fun x => q ((xEq (by omega) (by omega)).mp x).symm
      have ef : fsD p D (i + 1) c = fsD p D i c := if_neg q
      have eg : gsD z D (i + 1) c = gsD z D i c := if_neg q
      rw [ef, eg]
      simp (disch := omega) only [fX12_doneAt_17, fX12_doneAt_78, kO_187, kI_216, g_t, b_d, b_c, b_v, Bool.and_true, Bool.and_self, Bool.true_and, h.1, if_neg c0, xIx, xIn, e i (by omega), if_neg q', o1]
def mx5 (h : Nat → Nat) : Nat → Nat
  | 0 => 0
  | c + 1 => max (mx5 h c) (h c)
theorem m_da4 (hn : n ≤ 5) (hp : ∀ j, j < n → p j ≤ 60 ∧ z j ≤ 99) (h : mRd p z n L) {D : Nat → Nat} (hD : ∀ j, D j < 5) (e : ∀ j, j < n → L.1 216 j = nI (D j)) : ∀ (m c k : Nat), c + m = 5 → m < k → mx5 (fun c => fsD p D n c + gsD z D n c) c ≤ 999 → fX12_doneAt_4 k (nI (mx5 (fun c => fsD p D n c + gsD z D n c) c)) (nI c) L = some (nI (mx5 (fun c => fsD p D n c + gsD z D n c) 5), L)
  | 0, c, k, hc, hk, hl => by
    obtain ⟨k', rfl⟩ := up1 hk
    have hc : c = 5 := by omega
    subst hc
    have c0 : (5 : Int32) ≤ nI 5 := Int32.le_refl _
    simp only [fX12_doneAt_4, if_pos c0]
  | m + 1, c, k, hc, hk, hl => by
    obtain ⟨k', rfl⟩ := up1 hk
    obtain ⟨b1, b2⟩ := by_le hp D n (Nat.le_refl _) c
    have c0 : ¬ (5 : Int32) ≤ nI c := fun x => by have := (xLe (a := 5) (by omega) (by omega)).mp x; omega
    have st := m_da17 hn hp h hD e (c := c) (by omega) hl (fX12_doneAt_4 k') n 0 mK (by omega) (by have := mK_gt; omega)
    have em : max (mx5 (fun c => fsD p D n c + gsD z D n c) c) (fsD p D n c + gsD z D n c) = mx5 (fun c => fsD p D n c + gsD z D n c) (c + 1) := rfl
    rw [em] at st
    rw [← m_da4 hn hp h hD e m (c + 1) k' (by omega) (by omega) (by rw [← em]; omega), ← st]
    conv => lhs; unfold fX12_doneAt_4
    rw [if_neg c0]
    rfl
theorem m_done (hn : n ≤ 5) (hp : ∀ j, j < n → p j ≤ 60 ∧ z j ≤ 99) (h : mRd p z n L) {D : Nat → Nat} (hD : ∀ j, D j < 5) (e : ∀ j, j < n → L.1 216 j = nI (D j)) : fX12_doneAt L = some (nI (lmD p z D n), L) := by
  have e5 : mx5 (fun c => fsD p D n c + gsD z D n c) 5 = lmD p z D n := by
    rw [lmD_M5 hD]
    simp only [mx5]
    unfold M5
    omega
  rw [← e5]
  exact m_da4 hn hp h hD e 5 0 mK (by omega) (by have := mK_gt; omega) (Nat.zero_le _)
theorem m_r74 (hn : n ≤ 5) (rc : Int32 → Int32 → Int32 → Int32 → mT → Option (Int32 × mT)) (v1 v2 v3 v4 : Int32) : ∀ (m i k : Nat) (L : mT), i + m = n → m < k → L.1 187 37 = nI n → ∃ L', fX12_rounds_74 rc k v1 v2 v3 v4 (nI i) L = rc v1 v2 v3 (v4 + 1) L' ∧ (∀ j, i ≤ j → j < n → L'.1 215 j = L.1 216 j) ∧ (∀ j, j < i → L'.1 215 j = L.1 215 j) ∧ L'.1 187 51 = nI n ∧ ∀ a j, a ≠ 215 → ¬ (a = 187 ∧ j = 51) → L'.1 a j = L.1 a j
  | 0, i, k, L, hi, hk, n2 => by
    obtain ⟨k', rfl⟩ := up1 hk
    have hi : i = n := by omega
    subst hi
    have c : nI i ≤ nI i := Int32.le_refl _
    refine ⟨sI L 187 51 (nI i), ?_, fun j _ _ => by omega, fun j _ => by rw [sI_rd, if_neg (by omega)], by rw [sI_rd, if_pos ⟨rfl, rfl⟩], fun a j _ g => by rw [sI_rd, if_neg g]⟩
    simp only [fX12_rounds_74, fX12_rounds_111, kO_187, g_t, b_d, b_c, b_v, Bool.and_true, Bool.and_self, Bool.true_and, n2, if_pos c]
  | m + 1, i, k, L, hi, hk, n2 => by
    obtain ⟨k', rfl⟩ := up1 hk
    obtain ⟨L', r1, r2, r3, r4, r5⟩ := m_r74 hn rc v1 v2 v3 v4 m (i + 1) k' (sI L 215 i (L.1 216 i)) (by omega) (by omega) (by rw [sI_rd, if_neg (by omega)]; exact n2)
    have c : ¬ nI n ≤ nI i := fun z => by have := (xLe (by omega) (by omega)).mp z; omega
    have o1 : nI i + (1 : Int32) = nI (i + 1) := nI_add i 1
    refine ⟨L', ?_, fun j g1 g2 => ?_, fun j g => by rw [r3 j (by omega), sI_rd, if_neg (by omega)], r4, fun a j g1 g2 => by rw [r5 a j g1 g2, sI_rd, if_neg (by omega)]⟩
    · rw [← r1]
      simp (disch := omega) only [fX12_rounds_74, kO_187, kI_215, kI_216, g_t, b_d, b_c, b_v, Bool.and_true, Bool.and_self, Bool.true_and, n2, if_neg c, xIx, xIn, o1]
    · by_cases q : j = i
      · rw [r3 j (by omega), sI_rd, if_pos ⟨rfl, q⟩, q]
      · rw [r2 j (by omega) g2, sI_rd, if_neg (by omega)]
def lvS5 (n : Nat) (o : Option (Nat × Nat)) (L : mT) : Prop := match o with
  | none => L.1 187 51 = nI 0
  | some (_, w) => L.1 187 51 = nI n ∧ ∀ j, j < n → L.1 215 j = nI (dg5 n w j)
theorem m_r28 (hn : n ≤ 5) (hp : ∀ j, j < n → p j ≤ 60 ∧ z j ≤ 99) {T : Nat} (hT : T ≤ 999) : ∀ (m W k : Nat) (L : mT), W + m = 5 ^ n → m < k → mRd p z n L → lvS5 n (bst (fW p z n) (gW n) T W) L → ∃ L', fX12_rounds_28 k (nI T) (lvO (bst (fW p z n) (gW n) T W)) (nI (5 ^ n)) (nI W) L = some (lvO (bst (fW p z n) (gW n) T (5 ^ n)), L') ∧ lvS5 n (bst (fW p z n) (gW n) T (5 ^ n)) L'
  | 0, W, k, L, hW, hk, h, hs => by
    obtain ⟨k', rfl⟩ := up1 hk
    have hW : W = 5 ^ n := by omega
    subst hW
    have c : nI (5 ^ n) ≤ nI (5 ^ n) := Int32.le_refl _
    exact ⟨L, by simp only [fX12_rounds_28, if_pos c], hs⟩
  | m + 1, W, k, L, hW, hk, h, hs => by
    obtain ⟨k', rfl⟩ := up1 hk
    have hp5 := p5 hn
    have c : ¬ nI (5 ^ n) ≤ nI W := fun z => by have := (xLe (by omega) (by omega)).mp z; omega
    obtain ⟨L1, r1, r2, r3, r4⟩ := m_lc (w := W) hn h.1 (by omega)
    have h1 : mRd p z n L1 := ⟨by rw [r4 _ _ (by omega)]; exact h.1, fun j hj => by rw [r4 _ _ (by omega), r4 _ _ (by omega)]; exact h.2 j hj⟩
    have o1 : nI W + (1 : Int32) = nI (W + 1) := nI_add W 1
    have hf := fW_eq (p := p) (z := z) (n := n) (w := W) (by omega) (lm_le hn hp _)
    have hlm := lm_le hn hp (dg5 n W)
    have hh : lvS5 n (bst (fW p z n) (gW n) T W) L1 := by
      generalize bst (fW p z n) (gW n) T W = o at hs ⊢
      cases o with
      | none => exact (r4 _ _ (by omega)).trans hs
      | some q => exact ⟨(r4 _ _ (by omega)).trans hs.1, fun j hj => (r4 _ _ (by omega)).trans (hs.2 j hj)⟩
    have skip : bst (fW p z n) (gW n) T (W + 1) = bst (fW p z n) (gW n) T W → ∃ L', fX12_rounds_28 k' (nI T) (lvO (bst (fW p z n) (gW n) T W)) (nI (5 ^ n)) (nI (W + 1)) L1 = some (lvO (bst (fW p z n) (gW n) T (5 ^ n)), L') ∧ lvS5 n (bst (fW p z n) (gW n) T (5 ^ n)) L' := fun hb => by
      have := m_r28 hn hp hT m (W + 1) k' L1 (by omega) (by omega) h1 (by rw [hb]; exact hh)
      rw [hb] at this
      exact this
    by_cases hv : vdD (dg5 n W) n
    · have ru := r1 hv
      have ef := hf.1 hv
      have hu : gW n W ≤ n := vdD_us hv
      have c2 : ¬ nI (gW n W) < (0 : Int32) := nI_pos (by omega)
      have hd := m_done hn hp h1 (dg5_lt n W) r3
      -- the look at the time
      have look : ∀ v2, (fW p z n W ≤ T → bst (fW p z n) (gW n) T (W + 1) = some (gW n W, W)) → (¬ fW p z n W ≤ T → bst (fW p z n) (gW n) T (W + 1) = bst (fW p z n) (gW n) T W) → v2 = lvO (bst (fW p z n) (gW n) T W) → ∃ L', fX12_rounds_57 (fX12_rounds_28 k') (nI T) v2 (nI (5 ^ n)) (nI W) (nI (gW n W)) L1 = some (lvO (bst (fW p z n) (gW n) T (5 ^ n)), L') ∧ lvS5 n (bst (fW p z n) (gW n) T (5 ^ n)) L' := fun v2 hb1 hb2 hv2 => by
        by_cases c3 : fW p z n W ≤ T
        · have c3' : nI (lmD p z (dg5 n W) n) ≤ nI T := (xLe (by omega) (by omega)).mpr (by omega)
          have hb := hb1 c3
          obtain ⟨L2, s1, s2, s3, s4, s5⟩ := m_r74 hn (fX12_rounds_28 k') (nI T) (nI (gW n W)) (nI (5 ^ n)) (nI W) n 0 mK L1 (by omega) (by have := mK_gt; omega) h1.1
          have := m_r28 hn hp hT m (W + 1) k' L2 (by omega) (by omega) ⟨by rw [s5 _ _ (by omega) (by omega)]; exact h1.1, fun j hj => by rw [s5 _ _ (by omega) (by omega), s5 _ _ (by omega) (by omega)]; exact h1.2 j hj⟩ (by
            rw [hb]
            exact ⟨s4, fun j hj => by rw [s2 j (by omega) hj]; exact r3 j hj⟩)
          rw [hb] at this
          obtain ⟨L', t1, t2⟩ := this
          refine ⟨L', ?_, t2⟩
          rw [← t1]
          unfold fX12_rounds_57
          rw [hd, b_c, if_pos c3', show fX12_rounds_74 (fX12_rounds_28 k') mK (nI T) (nI (gW n W)) (nI (5 ^ n)) (nI W) (0 : Int32) L1 = _ from s1, o1]
          rfl
        · have c3' : ¬ nI (lmD p z (dg5 n W) n) ≤ nI T := fun x => by have := (xLe (by omega) (by omega)).mp x; omega
          obtain ⟨L', t1, t2⟩ := skip (hb2 c3)
          refine ⟨L', ?_, t2⟩
          rw [← t1, hv2]
          unfold fX12_rounds_57 fX12_rounds_111
          rw [hd, b_c, if_neg c3', b_d, o1]
      cases hb : bst (fW p z n) (gW n) T W with
      | none =>
        obtain ⟨L', t1, t2⟩ := look (-1) (fun c3 => by
          conv => lhs; unfold bst
          rw [hb]
          exact if_pos c3) (fun c3 => by
          conv => lhs; unfold bst
          rw [hb]
          exact if_neg c3) (by rw [hb]; rfl)
        refine ⟨L', ?_, t2⟩
        rw [← t1]
        have c4 : (-1 : Int32) < 0 := by decide
        simp only [fX12_rounds_28, lvO, g_t, b_d, b_c, b_v, Bool.and_true, Bool.and_self, Bool.true_and, if_neg c, ru, if_neg c2]
        exact if_pos c4
      | some q =>
        obtain ⟨a, w⟩ := q
        have ha : a < 1000 := by
          rcases bst_spec (fW p z n) (gW n) T W with ⟨z1, _⟩ | ⟨a', w', z1, z2, z3, z4, _⟩
          · rw [hb] at z1
            cases z1
          · rw [hb] at z1
            cases z1
            have hf' := fW_eq (p := p) (z := z) (n := n) (w := w) (by omega) (lm_le hn hp _)
            have hv' : vdD (dg5 n w) n := Classical.byContradiction fun x => by
              have := hf'.2 x
              omega
            have := vdD_us hv'
            rw [← z4]
            show usD (dg5 n w) n < 1000
            omega
        have c4 : ¬ nI a < (0 : Int32) := nI_pos (by omega)
        by_cases c5 : a ≤ gW n W
        · have c5' : nI a ≤ nI (gW n W) := (xLe (by omega) (by omega)).mpr c5
          have hb1 : bst (fW p z n) (gW n) T (W + 1) = bst (fW p z n) (gW n) T W := by
            conv => lhs; unfold bst
            rw [hb]
            exact if_neg (fun z => by omega)
          obtain ⟨L', t1, t2⟩ := skip hb1
          refine ⟨L', ?_, t2⟩
          rw [hb] at t1
          rw [← t1]
          simp only [fX12_rounds_28, fX12_rounds_111, lvO, g_t, b_d, b_c, b_v, Bool.and_true, Bool.and_self, Bool.true_and, if_neg c, ru, if_neg c2, if_neg c4, if_pos c5', o1]
        · have c5' : ¬ nI a ≤ nI (gW n W) := fun x => c5 ((xLe (by omega) (by omega)).mp x)
          obtain ⟨L', t1, t2⟩ := look (nI a) (fun c3 => by
            conv => lhs; unfold bst
            rw [hb]
            exact if_pos ⟨c3, by omega⟩) (fun c3 => by
            conv => lhs; unfold bst
            rw [hb]
            exact if_neg (fun x => c3 x.1)) (by rw [hb]; rfl)
          refine ⟨L', ?_, t2⟩
          rw [← t1]
          simp only [fX12_rounds_28, lvO, g_t, b_d, b_c, b_v, Bool.and_true, Bool.and_self, Bool.true_and, if_neg c, ru, if_neg c2]
          exact (if_neg c4).trans (if_neg c5')
    · have ru := r2 hv
      have ef := hf.2 hv
      have c2 : (-1 : Int32) < 0 := by decide
      have c3 : ¬ fW p z n W ≤ T := by omega
      have hb1 : bst (fW p z n) (gW n) T (W + 1) = bst (fW p z n) (gW n) T W := by
        conv => lhs; unfold bst
        cases hb : bst (fW p z n) (gW n) T W with
        | none => exact if_neg c3
        | some q => exact if_neg (fun x => c3 x.1)
      obtain ⟨L', t1, t2⟩ := skip hb1
      refine ⟨L', ?_, t2⟩
      rw [← t1]
      simp only [fX12_rounds_28, fX12_rounds_111, g_t, b_d, b_c, b_v, Bool.and_true, Bool.and_self, Bool.true_and, if_neg c, ru, if_pos c2, o1]
end
