/-! CHASE: the reference's road and moves. -/
section
variable {q : Nat → Nat} {n : Nat}
theorem m_lr14 (hn : n ≤ 5) (hq : ∀ x, x < n → q x ≤ 60) {L : mT} (n2 : L.1 187 37 = nI n) (hL : ∀ x, x < n → L.1 205 x = nI (q x)) {x : Nat} (hx : x < n) (rc : Int32 → mT → Option mT) : ∀ (m o k : Nat), o + m = n → m < k → fX12_layRoad_14 rc k (nI x) (nI (cN (fun o => decide (kyN q o < kyN q x)) o)) (nI o) L = rc (nI (x + 1)) (sI L 220 (rkN q n x) (nI x))
  | 0, o, k, ho, hk => by
    obtain ⟨k', rfl⟩ := up1 hk
    have ho : o = n := by omega
    subst ho
    have c : nI o ≤ nI o := Int32.le_refl _
    have o1 : nI x + (1 : Int32) = nI (x + 1) := nI_add x 1
    have hr := rk_lt (q := q) hx
    have er : cN (fun o => decide (kyN q o < kyN q x)) o = rkN q o x := rfl
    rw [er]
    simp (disch := omega) only [fX12_layRoad_14, kO_187, kI_220, g_t, b_d, b_c, b_v, Bool.and_true, Bool.and_self, Bool.true_and, n2, if_pos c, xIx, xIn, o1]
  | m + 1, o, k, ho, hk => by
    obtain ⟨k', rfl⟩ := up1 hk
    have c : ¬ nI n ≤ nI o := fun y => by have := (xLe (by omega) (by omega)).mp y; omega
    have o1 : nI o + (1 : Int32) = nI (o + 1) := nI_add o 1
    have h1 := hq x hx
    have h2 := hq o (by omega)
    have e1 := hL x hx
    have e2 := hL o (by omega)
    have t1 : ¬ (1 : Int32) = 0 := by decide
    have es : cN (fun o => decide (kyN q o < kyN q x)) (o + 1) = if decide (kyN q o < kyN q x) = true then cN (fun o => decide (kyN q o < kyN q x)) o + 1 else cN (fun o => decide (kyN q o < kyN q x)) o := rfl
    have oa : nI (cN (fun o => decide (kyN q o < kyN q x)) o) + (1 : Int32) = nI (cN (fun o => decide (kyN q o < kyN q x)) o + 1) := nI_add _ 1
    have ob : nI (cN (fun o => decide (kyN q o < kyN q x)) o) + (0 : Int32) = nI (cN (fun o => decide (kyN q o < kyN q x)) o) := Int32.add_zero _
    rw [← m_lr14 hn hq n2 hL hx rc m (o + 1) k' (by omega) (by omega), es]
    rcases Nat.lt_trichotomy (q o) (q x) with d | d | d
    · have d' : nI (q o) < nI (q x) := (xLt (by omega) (by omega)).mpr d
      have hk2 : decide (kyN q o < kyN q x) = true := by unfold kyN; rw [decide_eq_true_iff]; omega
      rw [if_pos hk2]
      simp (disch := omega) only [fX12_layRoad_14, fX12_layRoad_58, fX12_layRoad_63, kO_187, kI_205, g_t, b_d, b_c, b_v, Bool.and_true, Bool.and_self, Bool.true_and, n2, if_neg c, xIx, xIn, e1, e2, if_pos d', s_truth, if_neg t1, oa, o1]
    · have d' : ¬ nI (q o) < nI (q x) := fun y => by have := (xLt (by omega) (by omega)).mp y; omega
      have d2 : nI (q o) = nI (q x) := congrArg nI d
      by_cases u : x ≤ o
      · have u' : nI x ≤ nI o := (xLe (by omega) (by omega)).mpr u
        have hk2 : ¬ decide (kyN q o < kyN q x) = true := by unfold kyN; rw [decide_eq_true_iff]; omega
        rw [if_neg hk2]
        simp (disch := omega) only [fX12_layRoad_14, fX12_layRoad_62, fX12_layRoad_63, kO_187, kI_205, g_t, b_d, b_c, b_v, Bool.and_true, Bool.and_self, Bool.true_and, n2, if_neg c, xIx, xIn, e1, e2, if_neg d', if_pos d2, if_pos u', s_truth, if_true, ob, o1]
      · have u' : ¬ nI x ≤ nI o := fun y => u ((xLe (by omega) (by omega)).mp y)
        have hk2 : decide (kyN q o < kyN q x) = true := by unfold kyN; rw [decide_eq_true_iff]; omega
        rw [if_pos hk2]
        simp (disch := omega) only [fX12_layRoad_14, fX12_layRoad_58, fX12_layRoad_63, kO_187, kI_205, g_t, b_d, b_c, b_v, Bool.and_true, Bool.and_self, Bool.true_and, n2, if_neg c, xIx, xIn, e1, e2, if_neg d', if_pos d2, if_neg u', s_truth, if_neg t1, oa, o1]
    · have d' : ¬ nI (q o) < nI (q x) := fun y => by have := (xLt (by omega) (by omega)).mp y; omega
      have d2 : ¬ nI (q o) = nI (q x) := fun y => by have := (xEq (by omega) (by omega)).mp y; omega
      have hk2 : ¬ decide (kyN q o < kyN q x) = true := by unfold kyN; rw [decide_eq_true_iff]; omega
      rw [if_neg hk2]
      simp (disch := omega) only [fX12_layRoad_14, fX12_layRoad_62, fX12_layRoad_63, kO_187, kI_205, g_t, b_d, b_c, b_v, Bool.and_true, Bool.and_self, Bool.true_and, n2, if_neg c, xIx, xIn, e1, e2, if_neg d', if_neg d2, s_truth, if_true, ob, o1]
theorem m_lr2 (hn : n ≤ 5) (hq : ∀ x, x < n → q x ≤ 60) : ∀ (m x k : Nat) (L : mT), x + m = n → m < k → L.1 187 37 = nI n → (∀ x, x < n → L.1 205 x = nI (q x)) → (∀ y, y < x → L.1 220 (rkN q n y) = nI y) → ∃ L', fX12_layRoad_2 k (nI x) L = some L' ∧ (∀ y, y < n → L'.1 220 (rkN q n y) = nI y) ∧ ∀ a j, a ≠ 220 → L'.1 a j = L.1 a j
  | 0, x, k, L, hx, hk, n2, hL, e => by
    obtain ⟨k', rfl⟩ := up1 hk
    have hx : x = n := by omega
    subst hx
    have c : nI x ≤ nI x := Int32.le_refl _
    exact ⟨L, by simp only [fX12_layRoad_2, kO_187, g_t, b_d, b_c, b_v, Bool.and_true, Bool.and_self, Bool.true_and, n2, if_pos c], e, fun _ _ _ => rfl⟩
  | m + 1, x, k, L, hx, hk, n2, hL, e => by
    obtain ⟨k', rfl⟩ := up1 hk
    have c : ¬ nI n ≤ nI x := fun y => by have := (xLe (by omega) (by omega)).mp y; omega
    have f1 := m_lr14 hn hq n2 hL (x := x) (by omega) (fX12_layRoad_2 k') n 0 mK (by omega) (by have := mK_gt; omega)
    obtain ⟨L', r1, r2, r3⟩ := m_lr2 hn hq m (x + 1) k' (sI L 220 (rkN q n x) (nI x)) (by omega) (by omega) (by rw [sI_ne (by omega)]; exact n2) (fun y hy => by rw [sI_ne (by omega)]; exact hL y hy) (fun y hy => by
      by_cases u : y = x
      · rw [u, sI_eq]
      · rw [sI_ne (fun z => u (rk_inj (q := q) hn (by omega) (by omega) z.2))]
        exact e y (by omega))
    refine ⟨L', ?_, r2, fun a j g => by rw [r3 a j g, sI_ne (by omega)]⟩
    rw [← r1, ← f1]
    have : fX12_layRoad_2 (k' + 1) (nI x) L = fX12_layRoad_14 (fX12_layRoad_2 k') mK (nI x) (0 : Int32) (0 : Int32) L := by simp only [fX12_layRoad_2, kO_187, g_t, b_d, b_c, b_v, Bool.and_true, Bool.and_self, Bool.true_and, n2, if_neg c]
    rw [this]
    rfl
def okRo (q : Nat → Nat) (n : Nat) (L : mT) : Prop := L.1 187 37 = nI n ∧ ∀ x, x < n → L.1 220 (rkN q n x) = nI x
theorem or_bit (a z y : Nat) : (a ||| 2 ^ z).testBit y = true ↔ a.testBit y = true ∨ y = z := by
  rw [Nat.testBit_or, Bool.or_eq_true, Nat.testBit_two_pow, decide_eq_true_iff]
  constructor
  · rintro (h | h)
    · exact Or.inl h
    · exact Or.inr h.symm
  · rintro (h | h)
    · exact Or.inl h
    · exact Or.inr h.symm
theorem m_mv14 (hn : n ≤ 5) {L : mT} (h : okRo q n L) {s : Nat} (hs : s < 32) : ∀ (m k f acc : Nat), k + m = n → m < f → (∀ y, acc.testBit y = true ↔ ∃ x, x < n ∧ rkN q n x < k ∧ s.testBit x = true ∧ nbR q n x y) → ∃ r, fX12_moved_14 f (nI s) (nI acc) (nI k) L = some (nI r, L) ∧ ∀ y, r.testBit y = true ↔ ∃ x, x < n ∧ s.testBit x = true ∧ nbR q n x y
  | 0, k, f, acc, hk, hf, ha => by
    obtain ⟨f', rfl⟩ := up1 hf
    have hk : k = n := by omega
    subst hk
    have c : nI k ≤ nI k := Int32.le_refl _
    refine ⟨acc, by simp only [fX12_moved_14, kO_187, g_t, b_d, b_c, b_v, Bool.and_true, Bool.and_self, Bool.true_and, h.1, if_pos c], fun y => ?_⟩
    rw [ha y]
    exact ⟨fun ⟨x, a1, _, a3⟩ => ⟨x, a1, a3⟩, fun ⟨x, a1, a3⟩ => ⟨x, a1, rk_lt a1, a3⟩⟩
  | m + 1, k, f, acc, hk, hf, ha => by
    obtain ⟨f', rfl⟩ := up1 hf
    have c : ¬ nI n ≤ nI k := fun y => by have := (xLe (by omega) (by omega)).mp y; omega
    have o1 : nI k + (1 : Int32) = nI (k + 1) := nI_add k 1
    obtain ⟨x, hx, ex⟩ := rk_sur (q := q) hn (k := k) (by omega)
    have ex' : L.1 220 k = nI x := by rw [← ex]; exact h.2 x hx
    have hb := bit_n (a := s) (h := x) (by omega) (by omega)
    by_cases d : s.testBit x = true
    · have d0 := (tb_iff s x).mp d
      have d' : ¬ nI (s / 2 ^ x % 2) = 0 := by rw [d0]; decide
      -- what is added
      have key : ∀ acc2, (∀ y, acc2.testBit y = true ↔ (acc.testBit y = true ∨ (y < n ∧ (rkN q n y + 1 = k ∨ rkN q n y = k + 1)))) → ∃ r, fX12_moved_14 f' (nI s) (nI acc2) (nI (k + 1)) L = some (nI r, L) ∧ ∀ y, r.testBit y = true ↔ ∃ x, x < n ∧ s.testBit x = true ∧ nbR q n x y := fun acc2 h2 => m_mv14 hn h hs m (k + 1) f' acc2 (by omega) (by omega) (fun y => by
        rw [h2 y, ha y]
        constructor
        · rintro (⟨x', a1, a2, a3⟩ | ⟨a1, a2⟩)
          · exact ⟨x', a1, by omega, a3⟩
          · exact ⟨x, hx, by omega, d, a1, by rw [ex]; exact a2⟩
        · rintro ⟨x', a1, a2, a3, a4, a5⟩
          by_cases u : rkN q n x' < k
          · exact Or.inl ⟨x', a1, u, a3, a4, a5⟩
          · rw [show rkN q n x' = k by omega] at a5
            exact Or.inr ⟨a4, a5⟩)
      -- the one behind
      have aft : ∀ acc1, (∀ y, acc1.testBit y = true ↔ (acc.testBit y = true ∨ (y < n ∧ rkN q n y + 1 = k))) → ∃ r, fX12_moved_55 (fX12_moved_14 f') (nI s) (nI acc1) (nI k) L = some (nI r, L) ∧ ∀ y, r.testBit y = true ↔ ∃ x, x < n ∧ s.testBit x = true ∧ nbR q n x y := fun acc1 h1 => by
        by_cases u : n ≤ k + 1
        · have u' : nI n ≤ nI (k + 1) := (xLe (by omega) (by omega)).mpr u
          obtain ⟨r, r1, r2⟩ := key acc1 (fun y => by
            rw [h1 y]
            constructor
            · rintro (a | ⟨a, b⟩)
              · exact Or.inl a
              · exact Or.inr ⟨a, Or.inl b⟩
            · rintro (a | ⟨a, b | b⟩)
              · exact Or.inl a
              · exact Or.inr ⟨a, b⟩
              · have := rk_lt (q := q) a
                omega)
          refine ⟨r, ?_, r2⟩
          rw [← r1]
          simp only [fX12_moved_55, fX12_moved_78, kO_187, g_t, b_d, b_c, b_v, Bool.and_true, Bool.and_self, Bool.true_and, h.1, o1, if_pos u']
        · have u' : ¬ nI n ≤ nI (k + 1) := fun z => u ((xLe (by omega) (by omega)).mp z)
          obtain ⟨x2, hx2, ex2⟩ := rk_sur (q := q) hn (k := k + 1) (by omega)
          have ex2' : L.1 220 (k + 1) = nI x2 := by rw [← ex2]; exact h.2 x2 hx2
          have os : nI acc1 ||| ((1 : Int32) <<< (nI x2 &&& 31)) = nI (acc1 ||| 2 ^ x2) := by rw [shl1 x2 (by omega), nI_or]
          obtain ⟨r, r1, r2⟩ := key (acc1 ||| 2 ^ x2) (fun y => by
            rw [or_bit, h1 y]
            constructor
            · rintro ((a | ⟨a, b⟩) | a)
              · exact Or.inl a
              · exact Or.inr ⟨a, Or.inl b⟩
              · rw [a]
                exact Or.inr ⟨hx2, Or.inr ex2⟩
            · rintro (a | ⟨a, b | b⟩)
              · exact Or.inl (Or.inl a)
              · exact Or.inl (Or.inr ⟨a, b⟩)
              · exact Or.inr (rk_inj (q := q) hn a hx2 (by omega)))
          refine ⟨r, ?_, r2⟩
          rw [← r1]
          simp (disch := omega) only [fX12_moved_55, fX12_moved_78, kO_187, kI_220, g_t, b_d, b_c, b_v, Bool.and_true, Bool.and_self, Bool.true_and, h.1, o1, if_neg u', xIx, xIn, ex2', os]
      by_cases u : k = 0
      · have u' : nI k ≤ 0 := by rw [u]; decide
        obtain ⟨r, r1, r2⟩ := aft acc (fun y => ⟨Or.inl, fun z => by
          rcases z with z | ⟨_, z⟩
          · exact z
          · omega⟩)
        refine ⟨r, ?_, r2⟩
        rw [← r1]
        simp (disch := omega) only [fX12_moved_14, kO_187, kI_220, g_t, b_d, b_c, b_v, Bool.and_true, Bool.and_self, Bool.true_and, h.1, if_neg c, xIx, xIn, ex', hb, if_neg d', if_pos u']
      · have u' : ¬ nI k ≤ 0 := fun z => by have := (xLe (b := 0) (by omega) (by omega)).mp z; omega
        obtain ⟨x2, hx2, ex2⟩ := rk_sur (q := q) hn (k := k - 1) (by omega)
        have ex2' : L.1 220 (k - 1) = nI x2 := by rw [← ex2]; exact h.2 x2 hx2
        have om : nI k - (1 : Int32) = nI (k - 1) := xS (a := k) (b := 1) (by omega)
        have os : nI acc ||| ((1 : Int32) <<< (nI x2 &&& 31)) = nI (acc ||| 2 ^ x2) := by rw [shl1 x2 (by omega), nI_or]
        obtain ⟨r, r1, r2⟩ := aft (acc ||| 2 ^ x2) (fun y => by
          rw [or_bit]
          constructor
          · rintro (a | a)
            · exact Or.inl a
            · rw [a]
              exact Or.inr ⟨hx2, by omega⟩
          · rintro (a | ⟨a, b⟩)
            · exact Or.inl a
            · exact Or.inr (rk_inj (q := q) hn a hx2 (by omega)))
        refine ⟨r, ?_, r2⟩
        rw [← r1]
        simp (disch := omega) only [fX12_moved_14, kO_187, kI_220, g_t, b_d, b_c, b_v, Bool.and_true, Bool.and_self, Bool.true_and, h.1, if_neg c, xIx, xIn, ex', hb, if_neg d', if_neg u', om, ex2', os]
    · have d0 : s / 2 ^ x % 2 = 0 := by
        rcases Nat.mod_two_eq_zero_or_one (s / 2 ^ x) with z | z
        · exact z
        · exact absurd ((tb_iff s x).mpr z) d
      have d' : nI (s / 2 ^ x % 2) = 0 := by rw [d0]; rfl
      obtain ⟨r, r1, r2⟩ := m_mv14 hn h hs m (k + 1) f' acc (by omega) (by omega) (fun y => by
        rw [ha y]
        constructor
        · rintro ⟨x', a1, a2, a3⟩
          exact ⟨x', a1, by omega, a3⟩
        · rintro ⟨x', a1, a2, a3, a4⟩
          by_cases u : rkN q n x' < k
          · exact ⟨x', a1, u, a3, a4⟩
          · rw [rk_inj (q := q) hn a1 hx (by omega)] at a3
            exact absurd a3 d)
      refine ⟨r, ?_, r2⟩
      rw [← r1]
      simp (disch := omega) only [fX12_moved_14, fX12_moved_78, kO_187, kI_220, g_t, b_d, b_c, b_v, Bool.and_true, Bool.and_self, Bool.true_and, h.1, if_neg c, xIx, xIn, ex', hb, if_pos d', o1]
end
/-! one house is taken out -/
def clN (s h : Nat) : Nat := s / 2 ^ (h + 1) * 2 ^ (h + 1) + s % 2 ^ h
theorem clN_bit (s h i : Nat) : (clN s h).testBit i = (s.testBit i && !decide (i = h)) := by
  have h1 : s % 2 ^ h < 2 ^ (h + 1) := Nat.lt_of_lt_of_le (Nat.mod_lt _ (Nat.pow_pos (by omega))) (Nat.pow_le_pow_right (by omega) (by omega))
  unfold clN
  rw [Nat.mul_comm, Nat.testBit_two_pow_mul_add _ h1, Nat.testBit_mod_two_pow, Nat.testBit_div_two_pow]
  by_cases q : i < h + 1
  · rw [if_pos q]
    by_cases y : i = h
    · subst y
      simp
    · rw [decide_eq_true (by omega : i < h)]
      simp [y]
  · rw [if_neg q, show i - (h + 1) + (h + 1) = i by omega, decide_eq_false (by omega : ¬ i = h)]
    simp
theorem clN_n {s h : Nat} (hh : h < 31) : nI s &&& (((1 : Int32) <<< (nI h &&& 31)) ^^^ (-1 : Int32)) = nI (clN s h) := by
  rw [shl1 h hh]
  apply Int32.toBitVec.inj
  show BitVec.ofNat 32 s &&& (BitVec.ofNat 32 (2 ^ h) ^^^ BitVec.allOnes 32) = BitVec.ofNat 32 (clN s h)
  apply BitVec.eq_of_getLsbD_eq
  intro i hi
  rw [BitVec.getLsbD_and, BitVec.getLsbD_xor, BitVec.getLsbD_allOnes, BitVec.getLsbD_ofNat, BitVec.getLsbD_ofNat, BitVec.getLsbD_ofNat, clN_bit, Nat.testBit_two_pow, decide_eq_true hi]
  by_cases y : i = h
  · subst y
    simp
  · rw [decide_eq_false y, decide_eq_false (fun z => y z.symm)]
    simp
theorem clN_lt {s h n : Nat} (hs : s < 2 ^ n) : clN s h < 2 ^ n := lt_bits fun y hy => by
  rw [clN_bit, Bool.and_eq_true] at hy
  rcases Nat.lt_or_ge y n with u | u
  · exact u
  · have := Nat.testBit_lt_two_pow (Nat.lt_of_lt_of_le hs (Nat.pow_le_pow_right (by omega) u))
    rw [this] at hy
    cases hy.1
section
variable {q : Nat → Nat} {n : Nat}
theorem m_mv (hn : n ≤ 5) {L : mT} (h : okRo q n L) {s g : Nat} (hs : s < 2 ^ n) (hg : g < n) : fX12_moved (nI (clN s g)) L = some (nI (nxN q n s g), L) := by
  have hp := p32 hn
  have hcl := clN_lt (h := g) hs
  by_cases h1 : n = 1
  · have e1 : nI n = (1 : Int32) := by rw [h1]; rfl
    subst h1
    have e0 : clN s g = 0 := by
      have : g = 0 := by omega
      subst this
      unfold clN
      omega
    unfold fX12_moved
    rw [kO_187, h.1, if_pos e1, e0, nxN_one hg]
    rfl
  · have e1 : ¬ nI n = (1 : Int32) := fun z => h1 ((xEq (b := 1) (by omega) (by omega)).mp z)
    obtain ⟨r, r1, r2⟩ := m_mv14 hn h (s := clN s g) (by omega) n 0 mK 0 (by omega) (by have := mK_gt; omega) (fun y => by
      rw [Nat.zero_testBit]
      constructor
      · intro z
        cases z
      · rintro ⟨x, _, a, _⟩
        omega)
    have er : r = nxN q n s g := Nat.eq_of_testBit_eq fun y => by
      have a1 := r2 y
      have a2 := nxN_bit (q := q) hn h1 (s := s) (h := g) (y := y)
      rw [Bool.eq_iff_iff, a1, a2]
      constructor
      · rintro ⟨x, b1, b2, b3⟩
        rw [clN_bit, Bool.and_eq_true] at b2
        exact ⟨x, b1, by simpa using b2.2, b2.1, b3⟩
      · rintro ⟨x, b1, b2, b3, b4⟩
        refine ⟨x, b1, ?_, b4⟩
        rw [clN_bit, b3, decide_eq_false b2]
        rfl
    rw [er] at r1
    have r1' : fX12_moved_14 mK (nI (clN s g)) (0 : Int32) (0 : Int32) L = _ := r1
    unfold fX12_moved
    rw [kO_187, Bool.and_true, g_t, h.1, if_neg e1, r1']
end
