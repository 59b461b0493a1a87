/-! PROVINCE: words of both. -/
theorem w8_inj {T T' : Nat → Nat} {b b' : Nat} : ∀ m m', (∀ i, i < m → 1 ≤ T (b + i) ∧ T (b + i) ≤ 255) → (∀ i, i < m' → 1 ≤ T' (b' + i) ∧ T' (b' + i) ≤ 255) → (w8N T b m = w8N T' b' m' ↔ m = m' ∧ ∀ i, i < m → T (b + i) = T' (b' + i))
  | 0, 0, _, _ => ⟨fun _ => ⟨rfl, fun i hi => absurd hi (Nat.not_lt_zero _)⟩, fun _ => rfl⟩
  | 0, m' + 1, _, h' => by
    have := h' m' (by omega)
    refine ⟨fun z => ?_, fun z => by omega⟩
    have z' : 0 = w8N T' b' m' * 256 + T' (b' + m') := z
    omega
  | m + 1, 0, h, _ => by
    have := h m (by omega)
    refine ⟨fun z => ?_, fun z => by omega⟩
    have z' : w8N T b m * 256 + T (b + m) = 0 := z
    omega
  | m + 1, m' + 1, h, h' => by
    have ih := w8_inj (T := T) (T' := T') (b := b) (b' := b') m m' (fun i hi => h i (by omega)) (fun i hi => h' i (by omega))
    have h1 := h m (by omega)
    have h2 := h' m' (by omega)
    show w8N T b m * 256 + T (b + m) = w8N T' b' m' * 256 + T' (b' + m') ↔ _
    constructor
    · intro e
      obtain ⟨i1, i2⟩ := ih.mp (by omega)
      refine ⟨by omega, fun i hi => ?_⟩
      by_cases u : i = m
      · subst u
        subst i1
        omega
      · exact i2 i (by omega)
    · rintro ⟨e1, e2⟩
      have e1' : m = m' := by omega
      subst e1'
      have := ih.mpr ⟨rfl, fun i hi => e2 i (by omega)⟩
      have := e2 m (by omega)
      omega
theorem w5_inj {T : Nat → Nat} {b b' : Nat} : ∀ m m', (∀ i, i < m → 97 ≤ T (b + i) ∧ T (b + i) ≤ 122) → (∀ i, i < m' → 97 ≤ T (b' + i) ∧ T (b' + i) ≤ 122) → (w5N T b m = w5N T b' m' ↔ m = m' ∧ ∀ i, i < m → T (b + i) = T (b' + i))
  | 0, 0, _, _ => ⟨fun _ => ⟨rfl, fun i hi => absurd hi (Nat.not_lt_zero _)⟩, fun _ => rfl⟩
  | 0, m' + 1, _, h' => by
    have := h' m' (by omega)
    refine ⟨fun z => ?_, fun z => by omega⟩
    have z' : 0 = w5N T b' m' * 32 + (T (b' + m') - 96) := z
    omega
  | m + 1, 0, h, _ => by
    have := h m (by omega)
    refine ⟨fun z => ?_, fun z => by omega⟩
    have z' : w5N T b m * 32 + (T (b + m) - 96) = 0 := z
    omega
  | m + 1, m' + 1, h, h' => by
    have ih := w5_inj (T := T) (b := b) (b' := b') m m' (fun i hi => h i (by omega)) (fun i hi => h' i (by omega))
    have h1 := h m (by omega)
    have h2 := h' m' (by omega)
    show w5N T b m * 32 + (T (b + m) - 96) = w5N T b' m' * 32 + (T (b' + m') - 96) ↔ _
    constructor
    · intro e
      obtain ⟨i1, i2⟩ := ih.mp (by omega)
      refine ⟨by omega, fun i hi => ?_⟩
      by_cases u : i = m
      · subst u
        subst i1
        omega
      · exact i2 i (by omega)
    · rintro ⟨e1, e2⟩
      have e1' : m = m' := by omega
      subst e1'
      have := ih.mpr ⟨rfl, fun i hi => e2 i (by omega)⟩
      have := e2 m (by omega)
      omega
theorem w8_63 {T : Nat → Nat} {b : Nat} : ∀ k, (∀ i, i < k + 1 → T (b + i) ≤ 122) → w8N T b (k + 1) < 123 * 256 ^ k
  | 0, h => by
    have := h 0 (by omega)
    show 0 * 256 + T (b + 0) < _
    omega
  | k + 1, h => by
    have ih := w8_63 (T := T) (b := b) k (fun i hi => h i (by omega))
    have := h (k + 1) (by omega)
    show w8N T b (k + 1) * 256 + T (b + (k + 1)) < _
    rw [Nat.pow_succ]
    omega
theorem w5_63 {T : Nat → Nat} {b : Nat} : ∀ k, (∀ i, i < k → T (b + i) ≤ 122) → w5N T b k < 32 ^ k
  | 0, _ => by show 0 < 32 ^ 0; decide
  | k + 1, h => by
    have ih := w5_63 (T := T) (b := b) k (fun i hi => h i (by omega))
    have := h k (by omega)
    show w5N T b k * 32 + (T (b + k) - 96) < _
    rw [Nat.pow_succ]
    omega
theorem J_inj {a b : Nat} (ha : a < 9223372036854775808) (hb : b < 9223372036854775808) : Int64.ofNat a = Int64.ofNat b ↔ a = b := by
  constructor
  · intro h
    have h1 := congrArg (fun z => z.toBitVec.toNat) h
    have h2 : (BitVec.ofNat 64 a).toNat = (BitVec.ofNat 64 b).toNat := h1
    rw [BitVec.toNat_ofNat, BitVec.toNat_ofNat] at h2
    omega
  · intro h
    rw [h]
theorem lg0 (x y : Int64) : lg_cmp x y = 0 ↔ x = y := by
  unfold lg_cmp
  by_cases c : x > y
  · rw [if_pos c]
    constructor
    · intro z
      exact absurd z (by decide)
    · intro z
      rw [z] at c
      exact absurd c Int64.lt_irrefl
  · rw [if_neg c]
    by_cases d : x = y
    · rw [if_pos d]
      exact ⟨fun _ => d, fun _ => rfl⟩
    · rw [if_neg d]
      constructor
      · intro z
        exact absurd z (by decide)
      · intro z
        exact absurd z d
/-! the words that stand for themselves -/
def stN (j i : Nat) : Nat := mIx ((mStB.getD j []).getD i 0)
def slN (j : Nat) : Nat := mStL.getD j 0
def cwN (j : Nat) : Nat := w8N (stN j) 0 (slN j)
theorem st_ok : ∀ j, j < 15 → 1 ≤ slN j ∧ slN j ≤ 8 ∧ strN (900000 + j) = slN j ∧ strL (900000 + j) = nI (slN j) ∧ ∀ i, i < slN j → strC (900000 + j) (nI i) = nI (stN j i) ∧ 97 ≤ stN j i ∧ stN j i ≤ 122 := by decide +kernel
theorem cw_c : (448546567013 : Int64) = Int64.ofNat (cwN 0) ∧ (24948 : Int64) = Int64.ofNat (cwN 1) ∧ (448377480307 : Int64) = Int64.ofNat (cwN 2) ∧ (6971757 : Int64) = Int64.ofNat (cwN 3) ∧ (448310438260 : Int64) = Int64.ofNat (cwN 4) ∧ (1936746868 : Int64) = Int64.ofNat (cwN 5) ∧ (7627128 : Int64) = Int64.ofNat (cwN 6) ∧ (1735552887 : Int64) = Int64.ofNat (cwN 7) ∧ (1685217655 : Int64) = Int64.ofNat (cwN 8) ∧ (28530 : Int64) = Int64.ofNat (cwN 9) ∧ (6385252 : Int64) = Int64.ofNat (cwN 10) ∧ (7237492 : Int64) = Int64.ofNat (cwN 11) ∧ (114801865155950 : Int64) = Int64.ofNat (cwN 12) ∧ (126943922906483 : Int64) = Int64.ofNat (cwN 13) ∧ (2036687218 : Int64) = Int64.ofNat (cwN 14) := by decide +kernel
theorem cw_lt : ∀ j, j < 15 → 1 ≤ cwN j ∧ cwN j < 9223372036854775808 ∧ ∀ j', j' < 15 → cwN j = cwN j' → j = j' := by decide +kernel
section
variable {T : Nat → Nat} {t : Nat}
/-- a word as a number; 0 if it is none -/
def wkN (T : Nat → Nat) (t p : Nat) : Nat := if tkN T t p = 1 then w8N T (tbN T t p) (txN T t p - tbN T t p) else 0
theorem wd_let {p : Nat} (h : tkN T t p = 1) : tbN T t p < t ∧ lB (T (tbN T t p)) = true ∧ txN T t p = rnN lB T t (tbN T t p) ∧ txN T t p ≤ tbN T t p + 8 ∧ (∀ i, i < txN T t p - tbN T t p → tbN T t p + i < t ∧ 97 ≤ T (tbN T t p + i) ∧ T (tbN T t p + i) ≤ 122) ∧ tbN T t p < txN T t p := by
  unfold tkN at h
  by_cases c1 : t ≤ tbN T t p
  · rw [if_pos c1] at h
    omega
  rw [if_neg c1] at h
  by_cases c2 : lB (T (tbN T t p)) = true
  · rw [if_pos c2] at h
    by_cases c3 : rnN lB T t (tbN T t p) ≤ tbN T t p + 8
    · have ex : txN T t p = rnN lB T t (tbN T t p) := by unfold txN; rw [if_neg c1, if_pos c2]
      obtain ⟨e1, e2, e3⟩ := rn_sp lB T t (tbN T t p)
      refine ⟨by omega, c2, ex, by omega, fun i hi => ?_, ?_⟩
      · obtain ⟨q1, q2⟩ := e2 (tbN T t p + i) (by omega) (by omega)
        unfold lB at q2
        rw [Bool.and_eq_true, decide_eq_true_iff, decide_eq_true_iff] at q2
        exact ⟨q1, q2.1, q2.2⟩
      · rcases Nat.lt_or_ge (tbN T t p) (txN T t p) with u | u
        · exact u
        · rw [ex] at u
          have e : rnN lB T t (tbN T t p) = tbN T t p := by omega
          rw [e] at e3
          exact absurd ⟨by omega, c2⟩ e3
    · rw [if_neg c3] at h
      omega
  · rw [if_neg c2] at h
    split at h
    · split at h <;> omega
    · split at h <;> omega
theorem wk_63 (p : Nat) : wkN T t p < 9223372036854775808 := by
  unfold wkN
  by_cases c : tkN T t p = 1
  · rw [if_pos c]
    obtain ⟨_, _, _, a4, a5, a6⟩ := wd_let c
    obtain ⟨k, hk⟩ : ∃ k, txN T t p - tbN T t p = k + 1 := ⟨txN T t p - tbN T t p - 1, by omega⟩
    rw [hk]
    have h1 := w8_63 (T := T) (b := tbN T t p) k (fun i hi => (a5 i (by omega)).2.2)
    have h2 : 256 ^ k ≤ 256 ^ 7 := Nat.pow_le_pow_right (by omega) (by omega)
    omega
  · rw [if_neg c]
    omega
theorem c_iw30 (ht : t ≤ 1600) (hT : ∀ k, k < t → T k < 256) {p : Nat} (h1 : tkN T t p = 1) {C : mT} (h : tpC T t C) (e5 : C.1 1 5 = nI (tbN T t p)) {j : Nat} (hj : j < 15) (hs : txN T t p - tbN T t p = slN j) : ∀ (m i k : Nat), i + m = slN j → m < k → ∃ r, fX4_isWord_30 (900000 + j) k (nI (slN j)) (nI i) C = some (r, C) ∧ ((r = 1 ∧ ∀ i', i ≤ i' → i' < slN j → T (tbN T t p + i') = stN j i') ∨ (r = 0 ∧ ¬ ∀ i', i ≤ i' → i' < slN j → T (tbN T t p + i') = stN j i'))
  | 0, i, k, hi, hk => by
    obtain ⟨k', rfl⟩ := up1 hk
    have hi : i = slN j := by omega
    subst hi
    have c : nI (slN j) ≤ nI (slN j) := Int32.le_refl _
    exact ⟨1, by simp only [fX4_isWord_30, if_pos c], Or.inl ⟨rfl, fun i' h1 h2 => by omega⟩⟩
  | m + 1, i, k, hi, hk => by
    obtain ⟨k', rfl⟩ := up1 hk
    obtain ⟨s1, s2, s3, s4, s5⟩ := st_ok j hj
    obtain ⟨u1, u2, u3⟩ := s5 i (by omega)
    obtain ⟨_, _, _, _, a5, _⟩ := wd_let h1
    obtain ⟨b1, b2, b3⟩ := a5 i (by omega)
    have c : ¬ nI (slN j) ≤ nI i := fun z => by have := (xLe (by omega) (by omega)).mp z; omega
    have o1 : nI i + (1 : Int32) = nI (i + 1) := nI_add i 1
    have o2 : nI (tbN T t p) + nI i = nI (tbN T t p + i) := nI_add _ _
    have eb : C.1 2 (tbN T t p + i) = nI (T (tbN T t p + i)) := by
      rw [h.2 _ b1]
      exact (by_w _ (hT _ b1) (by unfold lB; rw [Bool.and_eq_true, decide_eq_true_iff, decide_eq_true_iff]; exact ⟨b2, b3⟩)).2.2.2
    by_cases d : T (tbN T t p + i) = stN j i
    · have d' : nI (T (tbN T t p + i)) = nI (stN j i) := congrArg nI d
      obtain ⟨r, r1, r2⟩ := c_iw30 ht hT h1 h e5 hj hs m (i + 1) k' (by omega) (by omega)
      refine ⟨r, ?_, ?_⟩
      · rw [← r1]
        simp (disch := omega) only [fX4_isWord_30, if_neg c, kO_1, kB_2, g_t, b_d, b_c, b_v, Bool.and_true, Bool.and_self, Bool.true_and, e5, o2, xIx, xIn, s3, u1, eb, if_pos d', o1]
      · rcases r2 with ⟨q1, q2⟩ | ⟨q1, q2⟩
        · exact Or.inl ⟨q1, fun i' g1 g2 => by
            by_cases u : i' = i
            · rw [u]
              exact d
            · exact q2 i' (by omega) g2⟩
        · exact Or.inr ⟨q1, fun z => q2 fun i' g1 g2 => z i' (by omega) g2⟩
    · have d' : ¬ nI (T (tbN T t p + i)) = nI (stN j i) := fun z => d ((xEq (by omega) (by omega)).mp z)
      refine ⟨0, ?_, Or.inr ⟨rfl, fun z => d (z i (Nat.le_refl _) (by omega))⟩⟩
      simp (disch := omega) only [fX4_isWord_30, if_neg c, kO_1, kB_2, g_t, b_d, b_c, b_v, Bool.and_true, Bool.and_self, Bool.true_and, e5, o2, xIx, xIn, s3, u1, eb, if_neg d']
theorem c_isW (ht : t ≤ 1600) (hT : ∀ k, k < t → T k < 256) {p : Nat} (hp : p ≤ t) {C : mT} (h : tpC T t C) (hc : cT T t p C) {j : Nat} (hj : j < 15) : fX4_isWord (900000 + j) C = some (if wkN T t p = cwN j then 1 else 0, C) := by
  obtain ⟨g2, g3, g4, g5, g6, _⟩ := hc
  obtain ⟨s1, s2, s3, s4, s5⟩ := st_ok j hj
  have hx := tx_le (T := T) hp
  have hk4 : tkN T t p ≤ 4 := by
    unfold tkN
    repeat' split
    all_goals omega
  by_cases c : tkN T t p = 1
  · have c' : nI (tkN T t p) = (1 : Int32) := by rw [c]; rfl
    have om : nI (txN T t p) - nI (tbN T t p) = nI (txN T t p - tbN T t p) := xS hx.1
    obtain ⟨_, _, _, a4, a5, a6⟩ := wd_let c
    have ew : wkN T t p = w8N T (tbN T t p) (txN T t p - tbN T t p) := if_pos c
    have inj := w8_inj (T := T) (T' := stN j) (b := tbN T t p) (b' := 0) (txN T t p - tbN T t p) (slN j) (fun i hi => by have := a5 i hi; omega) (fun i hi => by rw [Nat.zero_add]; have := (s5 i hi).2; omega)
    by_cases d : txN T t p - tbN T t p = slN j
    · have d' : nI (txN T t p - tbN T t p) = nI (slN j) := congrArg nI d
      obtain ⟨r, r1, r2⟩ := c_iw30 ht hT c h g5 hj d (slN j) 0 mK (by omega) (by have := mK_gt; omega)
      have r1' : fX4_isWord_30 (900000 + j) mK (nI (slN j)) (0 : Int32) C = some (r, C) := r1
      have st : fX4_isWord (900000 + j) C = some (r, C) := by
        rw [← r1']
        simp only [fX4_isWord, s4, kO_1, g_t, b_d, b_c, b_v, Bool.and_true, Bool.and_self, Bool.true_and, g4, if_pos c', g6, g5, om, if_pos d']
      rw [st]
      rcases r2 with ⟨q1, q2⟩ | ⟨q1, q2⟩
      · rw [if_pos (by rw [ew]; exact inj.mpr ⟨d, fun i hi => by rw [Nat.zero_add]; exact q2 i (by omega) (by omega)⟩), q1]
      · rw [if_neg (fun z => q2 fun i' _ g => by
          rw [ew] at z
          have := (inj.mp z).2 i' (by omega)
          rw [Nat.zero_add] at this
          exact this), q1]
    · have d' : ¬ nI (txN T t p - tbN T t p) = nI (slN j) := fun z => d ((xEq (by omega) (by omega)).mp z)
      rw [if_neg (fun z => by rw [ew] at z; exact d (inj.mp z).1)]
      simp only [fX4_isWord, fX4_isWord_26, s4, kO_1, g_t, b_d, b_c, b_v, Bool.and_true, Bool.and_self, Bool.true_and, g4, if_pos c', g6, g5, om, if_neg d']
  · have c' : ¬ nI (tkN T t p) = (1 : Int32) := fun z => c ((xEq (b := 1) (by omega) (by omega)).mp z)
    have ew : wkN T t p = 0 := if_neg c
    have := (cw_lt j hj).1
    rw [if_neg (by omega)]
    simp only [fX4_isWord, fX4_isWord_26, s4, kO_1, g_t, b_d, b_c, b_v, Bool.and_true, Bool.and_self, Bool.true_and, g4, if_neg c']
theorem c_isWD {C : mT} {f pl : Nat} (h : cD f pl C) {j : Nat} (hj : j < 15) : fX4_isWord (900000 + j) C = some (0, C) := by
  have c' : ¬ nI 0 = (1 : Int32) := by decide
  simp only [fX4_isWord, fX4_isWord_26, (st_ok j hj).2.2.2.1, kO_1, g_t, b_d, b_c, b_v, Bool.and_true, Bool.and_self, Bool.true_and, h.2.2.2.2, if_neg c']
theorem m_isW {p : Nat} {L : mT} (hm : mTo T t p L) {j : Nat} (hj : j < 15) (hT : ∀ k, k < t → T k < 256) (hp : p ≤ t) : fX12_isWord (Int64.ofNat (cwN j)) L = some (if wkN T t p = cwN j then 1 else 0, L) := by
  obtain ⟨g2, g6, g7, g4, g9, g8⟩ := hm
  have hk4 : tkN T t p ≤ 4 := by
    unfold tkN
    repeat' split
    all_goals omega
  by_cases c : tkN T t p = 1
  · have er : srN T t p = 1 := by unfold srN; rw [c]; rfl
    have c' : nI (srN T t p) = (1 : Int32) := by rw [er]; rfl
    have ew : wkN T t p = w8N T (tbN T t p) (txN T t p - tbN T t p) := if_pos c
    have e9 := g9 c
    rw [← ew] at e9
    have hw := wk_63 (T := T) (t := t) p
    have hcw := cw_lt j hj
    by_cases d : wkN T t p = cwN j
    · have d' : lg_cmp (Int64.ofNat (wkN T t p)) (Int64.ofNat (cwN j)) = 0 := (lg0 _ _).mpr (by rw [d])
      rw [if_pos d]
      simp only [fX12_isWord, fX12_isWord_22, kO_187, g_t, b_d, b_c, b_v, Bool.and_true, Bool.and_self, Bool.true_and, g6, if_pos c', e9, if_pos d', fb1]
    · have d' : ¬ lg_cmp (Int64.ofNat (wkN T t p)) (Int64.ofNat (cwN j)) = 0 := fun z => d ((J_inj hw hcw.2.1).mp ((lg0 _ _).mp z))
      rw [if_neg d]
      simp only [fX12_isWord, fX12_isWord_21, fX12_isWord_22, kO_187, g_t, b_d, b_c, b_v, Bool.and_true, Bool.and_self, Bool.true_and, g6, if_pos c', e9, if_neg d', fb0]
  · have er : srN T t p ≠ 1 ∧ srN T t p < 256 := by
      unfold srN
      by_cases c3 : tkN T t p = 3
      · rw [if_pos c3]
        have hb : tbN T t p < t ∧ sB (T (tbN T t p)) = true := by
          unfold tkN at c3
          by_cases c1 : t ≤ tbN T t p
          · rw [if_pos c1] at c3
            omega
          rw [if_neg c1] at c3
          refine ⟨by omega, ?_⟩
          split at c3
          · split at c3 <;> omega
          · split at c3
            · split at c3 <;> omega
            · split at c3
              · assumption
              · omega
        refine ⟨fun z => ?_, hT _ hb.1⟩
        rw [z] at hb
        exact absurd hb.2 (by decide)
      · rw [if_neg c3]
        split <;> omega
    have c' : ¬ nI (srN T t p) = (1 : Int32) := fun z => er.1 ((xEq (b := 1) (by omega) (by omega)).mp z)
    have ew : wkN T t p = 0 := if_neg c
    have := (cw_lt j hj).1
    rw [if_neg (by omega)]
    simp only [fX12_isWord, fX12_isWord_21, fX12_isWord_22, kO_187, g_t, b_d, b_c, b_v, Bool.and_true, Bool.and_self, Bool.true_and, g6, if_neg c', fb0]
end
