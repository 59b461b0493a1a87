/-! Bits of any number of the machine. -/
theorem bI_eq {t : Int32} {x : Nat} (hx : x < 32) : ((t >>> (nI x &&& 31)) &&& (1 : Int32) = 1) ↔ bI t x = true := by
  rw [← Int32.toBitVec_inj]
  show (t.toBitVec.sshiftRight' ((nI x &&& (31 : Int32)).toBitVec.smod 32) &&& 1#32 = 1#32) ↔ _
  rw [sm32 x hx, BitVec.sshiftRight'_ofNat_eq_sshiftRight, Nat.mod_eq_of_lt (by omega : x < 2 ^ 32)]
  have e0 : (t.toBitVec.sshiftRight x).getLsbD 0 = t.toBitVec.getLsbD x := by
    rw [BitVec.getLsbD_sshiftRight]
    simp
    omega
  unfold bI
  rw [← e0]
  generalize t.toBitVec.sshiftRight x = y
  constructor
  · intro h
    have := congrArg (fun z => BitVec.getLsbD z 0) h
    simpa using this
  · intro h
    apply BitVec.eq_of_getLsbD_eq
    intro i hi
    rw [BitVec.getLsbD_and, BitVec.getLsbD_one]
    by_cases q : i = 0
    · subst q
      simp [h]
    · simp [q]
theorem bI_or {t : Int32} {x s : Nat} (hx : x < 32) (hs : s < 32) : bI (t ||| ((1 : Int32) <<< (nI s &&& 31))) x = (bI t x || decide (x = s)) := by
  unfold bI
  show (t.toBitVec ||| (1#32 <<< ((nI s &&& (31 : Int32)).toBitVec.smod 32))).getLsbD x = _
  rw [sm32 s hs, BitVec.getLsbD_or, BitVec.shiftLeft_eq', BitVec.toNat_ofNat, Nat.mod_eq_of_lt (by omega : s < 2 ^ 32), BitVec.getLsbD_shiftLeft, BitVec.getLsbD_one]
  congr 1
  by_cases q : x = s
  · subst q
    simp
    omega
  · simp [q]
    omega
theorem bI_0 (x : Nat) : bI 0 x = false := by
  unfold bI
  show (0#32).getLsbD x = false
  simp
/-! who counts, as the class has it -/
def cjC (v : Int32) (S : mT) (j : Nat) : Bool := !(decide (v < S.1 118 j)) && (decide (S.1 119 j = -1) || decide (v < S.1 119 j))
section
variable {r : Nat} {S : mT}
theorem c_ct4 (hr : r ≤ 30) (hS : S.1 114 5 = nI r) (v : Int32) : ∀ (m j k : Nat) (t : Int32), j + m = r → m < k → (∀ x, x < 32 → bI t x = (decide (x < j) && cjC v S x)) → ∃ t', fX5_countingAt_4 k v t (nI j) S = some (t', S) ∧ ∀ x, x < 32 → bI t' x = (decide (x < r) && cjC v S x)
  | 0, j, k, t, hj, hk, h => by
    obtain ⟨k', rfl⟩ := up1 hk
    have hj : j = r := by omega
    subst hj
    have c : nI j ≤ nI j := Int32.le_refl _
    exact ⟨t, by simp only [fX5_countingAt_4, kO_114, g_t, b_d, b_c, b_v, Bool.and_true, Bool.and_self, Bool.true_and, hS, if_pos c], h⟩
  | m + 1, j, k, t, hj, hk, h => by
    obtain ⟨k', rfl⟩ := up1 hk
    have c : ¬ nI r ≤ nI j := fun y => by have := (xLe (by omega) (by omega)).mp y; omega
    have o1 : nI j + (1 : Int32) = nI (j + 1) := nI_add j 1
    have yes : cjC v S j = true → ∃ t', fX5_countingAt_4 k' v (t ||| ((1 : Int32) <<< (nI j &&& 31))) (nI (j + 1)) S = some (t', S) ∧ ∀ x, x < 32 → bI t' x = (decide (x < r) && cjC v S x) := fun hc => c_ct4 hr hS v m (j + 1) k' _ (by omega) (by omega) (fun x hx => by
      rw [bI_or hx (by omega), h x hx]
      by_cases q : x = j
      · subst q
        simp [hc]
      · by_cases y : x < j
        · simp [y, q]
          intro
          omega
        · simp [y, q]
          intro
          omega)
    have no : cjC v S j = false → ∃ t', fX5_countingAt_4 k' v t (nI (j + 1)) S = some (t', S) ∧ ∀ x, x < 32 → bI t' x = (decide (x < r) && cjC v S x) := fun hc => c_ct4 hr hS v m (j + 1) k' t (by omega) (by omega) (fun x hx => by
      rw [h x hx]
      by_cases q : x = j
      · subst q
        simp [hc]
      · by_cases y : x < j
        · simp [y]
          intro
          omega
        · simp [y]
          intro
          omega)
    by_cases d0 : S.1 119 j = -1
    · by_cases d1 : v < S.1 118 j
      · obtain ⟨t', r1, r2⟩ := no (by unfold cjC; simp [d1])
        refine ⟨t', ?_, r2⟩
        rw [← r1]
        simp (disch := omega) only [fX5_countingAt_4, fX5_countingAt_36, fX5_countingAt_37, fX5_countingAt_60, kO_114, kI_118, kI_119, g_t, b_d, b_c, b_v, Bool.and_true, Bool.and_self, Bool.true_and, hS, if_neg c, xIx, xIn, if_pos d0, if_pos d1, o1]
      · obtain ⟨t', r1, r2⟩ := yes (by unfold cjC; simp [d0, d1])
        refine ⟨t', ?_, r2⟩
        rw [← r1]
        simp (disch := omega) only [fX5_countingAt_4, fX5_countingAt_36, fX5_countingAt_37, fX5_countingAt_60, kO_114, kI_118, kI_119, g_t, b_d, b_c, b_v, Bool.and_true, Bool.and_self, Bool.true_and, hS, if_neg c, xIx, xIn, if_pos d0, if_neg d1, if_true, o1]
    · by_cases d2 : v < S.1 119 j
      · by_cases d1 : v < S.1 118 j
        · obtain ⟨t', r1, r2⟩ := no (by unfold cjC; simp [d1])
          refine ⟨t', ?_, r2⟩
          rw [← r1]
          simp (disch := omega) only [fX5_countingAt_4, fX5_countingAt_36, fX5_countingAt_37, fX5_countingAt_60, kO_114, kI_118, kI_119, g_t, b_d, b_c, b_v, Bool.and_true, Bool.and_self, Bool.true_and, hS, if_neg c, xIx, xIn, if_neg d0, if_pos d2, if_pos d1, o1]
        · obtain ⟨t', r1, r2⟩ := yes (by unfold cjC; simp [d2, d1])
          refine ⟨t', ?_, r2⟩
          rw [← r1]
          simp (disch := omega) only [fX5_countingAt_4, fX5_countingAt_36, fX5_countingAt_37, fX5_countingAt_60, kO_114, kI_118, kI_119, g_t, b_d, b_c, b_v, Bool.and_true, Bool.and_self, Bool.true_and, hS, if_neg c, xIx, xIn, if_neg d0, if_pos d2, if_neg d1, if_true, o1]
      · obtain ⟨t', r1, r2⟩ := no (by unfold cjC; simp [d0, d2])
        refine ⟨t', ?_, r2⟩
        rw [← r1]
        have t1 : ¬ (1 : Int32) = 0 := by decide
        by_cases d1 : v < S.1 118 j
        · simp (disch := omega) only [fX5_countingAt_4, fX5_countingAt_37, fX5_countingAt_60, kO_114, kI_118, kI_119, g_t, b_d, b_c, b_v, Bool.and_true, Bool.and_self, Bool.true_and, hS, if_neg c, xIx, xIn, if_neg d0, if_neg d2, if_pos d1, o1]
        · simp (disch := omega) only [fX5_countingAt_4, fX5_countingAt_37, fX5_countingAt_60, kO_114, kI_118, kI_119, g_t, b_d, b_c, b_v, Bool.and_true, Bool.and_self, Bool.true_and, hS, if_neg c, xIx, xIn, if_neg d0, if_neg d2, if_neg d1, if_neg t1, o1]
theorem c_ct (hr : r ≤ 30) (hS : S.1 114 5 = nI r) (v : Int32) : ∃ t', fX5_countingAt v S = some (t', S) ∧ ∀ x, x < 32 → bI t' x = (decide (x < r) && cjC v S x) := c_ct4 hr hS v r 0 mK 0 (by omega) (by have := mK_gt; omega) (fun x _ => by rw [bI_0]; simp)
end
/-! what was told of a set -/
theorem lwS_iff {c : Nat → Bool} {st lo : Nat → Nat} {s x : Nat} : ∀ r, lwS c st lo r s ≤ x ↔ ∀ j, j < r → c j = true → st j = s → lo j ≤ x
  | 0 => ⟨fun _ j hj => absurd hj (Nat.not_lt_zero _), fun _ => Nat.zero_le _⟩
  | r + 1 => by
    have ih := lwS_iff (c := c) (st := st) (lo := lo) (s := s) (x := x) r
    unfold lwS
    by_cases q : c r = true ∧ st r = s
    · rw [if_pos q]
      constructor
      · intro h j hj h1 h2
        by_cases y : j = r
        · rw [y]
          omega
        · exact ih.mp (by omega) j (by omega) h1 h2
      · intro h
        have h1 := ih.mpr fun j hj => h j (by omega)
        have h2 := h r (by omega) q.1 q.2
        omega
    · rw [if_neg q, ih]
      constructor
      · intro h j hj h1 h2
        by_cases y : j = r
        · subst y
          exact absurd ⟨h1, h2⟩ q
        · exact h j (by omega) h1 h2
      · intro h j hj
        exact h j (by omega)
theorem hgS_iff {c : Nat → Bool} {st hi : Nat → Nat} {s x : Nat} (hx : x ≤ 35) : ∀ r, x ≤ hgS c st hi r s ↔ ∀ j, j < r → c j = true → st j = s → x ≤ hi j
  | 0 => ⟨fun _ j hj => absurd hj (Nat.not_lt_zero _), fun _ => hx⟩
  | r + 1 => by
    have ih := hgS_iff (c := c) (st := st) (hi := hi) (s := s) hx r
    unfold hgS
    by_cases q : c r = true ∧ st r = s
    · rw [if_pos q]
      constructor
      · intro h j hj h1 h2
        by_cases y : j = r
        · rw [y]
          omega
        · exact ih.mp (by omega) j (by omega) h1 h2
      · intro h
        have h1 := ih.mpr fun j hj => h j (by omega)
        have h2 := h r (by omega) q.1 q.2
        omega
    · rw [if_neg q, ih]
      constructor
      · intro h j hj h1 h2
        by_cases y : j = r
        · subst y
          exact absurd ⟨h1, h2⟩ q
        · exact h j (by omega) h1 h2
      · intro h j hj
        exact h j (by omega)
theorem tdS_iff {c : Nat → Bool} {st : Nat → Nat} {s : Nat} : ∀ r, tdS c st r s = true ↔ ∃ j, j < r ∧ c j = true ∧ st j = s
  | 0 => ⟨fun h => (by cases h), fun ⟨j, hj, _⟩ => absurd hj (Nat.not_lt_zero _)⟩
  | r + 1 => by
    have ih := tdS_iff (c := c) (st := st) (s := s) r
    unfold tdS
    rw [Bool.or_eq_true, Bool.and_eq_true, decide_eq_true_iff, ih]
    constructor
    · rintro (⟨j, h1, h2, h3⟩ | ⟨h1, h2⟩)
      · exact ⟨j, by omega, h2, h3⟩
      · exact ⟨r, by omega, h1, h2⟩
    · rintro ⟨j, h1, h2, h3⟩
      by_cases y : j = r
      · subst y
        exact Or.inr ⟨h2, h3⟩
      · exact Or.inl ⟨j, by omega, h2, h3⟩
theorem hgS_le (c : Nat → Bool) (st hi : Nat → Nat) (s : Nat) : ∀ r, hgS c st hi r s ≤ 35
  | 0 => Nat.le_refl _
  | r + 1 => by
    have := hgS_le c st hi s r
    unfold hgS
    split
    · omega
    · exact this
theorem lwS_le {c : Nat → Bool} {st lo : Nat → Nat} (s : Nat) {r : Nat} (h : ∀ j, j < r → lo j ≤ 35) : lwS c st lo r s ≤ 35 := (lwS_iff r).mpr fun j hj _ _ => h j hj
/-- the reports as the class has them -/
def cRp (r : Nat) (st lo hi : Nat → Nat) (S : mT) : Prop := S.1 114 5 = nI r ∧ ∀ j, j < r → S.1 115 j = nI (st j) ∧ S.1 116 j = nI (lo j) ∧ S.1 117 j = nI (hi j)
section
variable {r : Nat} {st lo hi : Nat → Nat} {S : mT}
theorem c_tr21 (hr : r ≤ 30) (hst : ∀ j, j < r → st j < 32 ∧ lo j ≤ 35 ∧ hi j ≤ 35) : ∀ (m j k : Nat) (t : Int32) (S : mT), j + m = r → m < k → cRp r st lo hi S → (∀ s, s < 32 → S.1 127 s = nI (lwS (bI (S.1 120 10)) st lo j s) ∧ S.1 128 s = nI (hgS (bI (S.1 120 10)) st hi j s)) → (∀ x, x < 32 → bI t x = tdS (bI (S.1 120 10)) st j x) → ∃ t' S', fX10_takeReports_21 k t (nI j) S = some (t', S') ∧ (∀ s, s < 32 → S'.1 127 s = nI (lwS (bI (S.1 120 10)) st lo r s) ∧ S'.1 128 s = nI (hgS (bI (S.1 120 10)) st hi r s)) ∧ (∀ x, x < 32 → bI t' x = tdS (bI (S.1 120 10)) st r x) ∧ ∀ a j, a ≠ 127 → a ≠ 128 → S'.1 a j = S.1 a j
  | 0, j, k, t, S, hj, hk, h, e, ht => by
    obtain ⟨k', rfl⟩ := up1 hk
    have hj : j = r := by omega
    subst hj
    have c : nI j ≤ nI j := Int32.le_refl _
    exact ⟨t, S, by simp only [fX10_takeReports_21, kO_114, g_t, b_d, b_c, b_v, Bool.and_true, Bool.and_self, Bool.true_and, h.1, if_pos c], e, ht, fun _ _ _ _ => rfl⟩
  | m + 1, j, k, t, S, hj, hk, h, e, ht => by
    obtain ⟨k', rfl⟩ := up1 hk
    have c : ¬ nI r ≤ nI j := fun y => by have := (xLe (by omega) (by omega)).mp y; omega
    have o1 : nI j + (1 : Int32) = nI (j + 1) := nI_add j 1
    obtain ⟨e1, e2, e3⟩ := h.2 j (by omega)
    obtain ⟨b1, b2, b3⟩ := hst j (by omega)
    have hb := bI_eq (t := S.1 120 10) (x := j) (by omega)
    by_cases q : bI (S.1 120 10) j = true
    · have q' := hb.mpr q
      have hlw : lwS (bI (S.1 120 10)) st lo j (st j) ≤ 35 := lwS_le _ fun i hi' => (hst i (by omega)).2.1
      have hhg := hgS_le (bI (S.1 120 10)) st hi (st j) j
      obtain ⟨f1, f2⟩ := e (st j) b1
      have om : (if nI (lwS (bI (S.1 120 10)) st lo j (st j)) < nI (lo j) then nI (lo j) else nI (lwS (bI (S.1 120 10)) st lo j (st j))) = nI (max (lwS (bI (S.1 120 10)) st lo j (st j)) (lo j)) := by
        by_cases y : lwS (bI (S.1 120 10)) st lo j (st j) < lo j
        · rw [if_pos ((xLt (by omega) (by omega)).mpr y)]
          exact congrArg nI (by omega)
        · rw [if_neg (fun z => y ((xLt (by omega) (by omega)).mp z))]
          exact congrArg nI (by omega)
      have on := nmin (a := hi j) (c := hgS (bI (S.1 120 10)) st hi j (st j)) (by omega) (by omega)
      generalize hS7 : sI (sI S 127 (st j) (nI (max (lwS (bI (S.1 120 10)) st lo j (st j)) (lo j)))) 128 (st j) (nI (min (hi j) (hgS (bI (S.1 120 10)) st hi j (st j)))) = S7
      have fr : ∀ a i, a ≠ 127 → a ≠ 128 → S7.1 a i = S.1 a i := fun a i g1 g2 => by rw [← hS7, sI_rd, if_neg (by omega), sI_rd, if_neg (by omega)]
      have em : S7.1 120 10 = S.1 120 10 := fr _ _ (by omega) (by omega)
      obtain ⟨t', S', r1, r2, r3, r4⟩ := c_tr21 hr hst m (j + 1) k' (t ||| ((1 : Int32) <<< (nI (st j) &&& 31))) S7 (by omega) (by omega) ⟨by rw [fr _ _ (by omega) (by omega)]; exact h.1, fun i hi' => by rw [fr _ _ (by omega) (by omega), fr _ _ (by omega) (by omega), fr _ _ (by omega) (by omega)]; exact h.2 i hi'⟩ (fun s hs => by
        rw [em]
        obtain ⟨g1, g2⟩ := e s hs
        refine ⟨?_, ?_⟩
        · rw [← hS7, sI_rd, if_neg (by omega), sI_rd]
          conv => rhs; unfold lwS
          by_cases y : s = st j
          · rw [if_pos ⟨rfl, y⟩, if_pos ⟨q, y.symm⟩, y]
          · rw [if_neg (fun z => y z.2), if_neg (fun z => y z.2.symm)]
            exact g1
        · rw [← hS7, sI_rd]
          conv => rhs; unfold hgS
          by_cases y : s = st j
          · rw [if_pos ⟨rfl, y⟩, if_pos ⟨q, y.symm⟩, y]
          · rw [if_neg (fun z => y z.2), if_neg (fun z => y z.2.symm), sI_rd, if_neg (by omega)]
            exact g2) (fun x hx => by
        rw [em, bI_or hx b1, ht x hx]
        conv => rhs; unfold tdS
        rw [q, Bool.true_and]
        by_cases y : x = st j
        · simp [y]
        · simp [y, Ne.symm y])
      rw [em] at r2 r3
      refine ⟨t', S', ?_, r2, r3, fun a i g1 g2 => by rw [r4 a i g1 g2, fr a i g1 g2]⟩
      rw [← r1, ← hS7]
      have p1 : ∀ y, (sI S 127 (st j) y).1 117 j = nI (hi j) := fun y => by rw [sI_rd, if_neg (by omega)]; exact e3
      have p2 : ∀ y, (sI S 127 (st j) y).1 128 (st j) = nI (hgS (bI (S.1 120 10)) st hi j (st j)) := fun y => by rw [sI_rd, if_neg (by omega)]; exact f2
      simp (disch := omega) only [fX10_takeReports_21, fX10_takeReports_102, kO_114, kO_120, kI_115, kI_116, kI_117, kI_127, kI_128, g_t, b_d, b_c, b_v, Bool.and_true, Bool.and_self, Bool.true_and, h.1, if_neg c, if_pos q', xIx, xIn, e1, e2, f1, om, p1, p2, on, o1]
    · have q' : ¬ _ := fun y => q (hb.mp y)
      have q0 : bI (S.1 120 10) j = false := by
        cases y : bI (S.1 120 10) j
        · rfl
        · exact absurd y q
      obtain ⟨t', S', r1, r2, r3, r4⟩ := c_tr21 hr hst m (j + 1) k' t S (by omega) (by omega) h (fun s hs => by
        unfold lwS hgS
        rw [if_neg (fun z => q z.1), if_neg (fun z => q z.1)]
        exact e s hs) (fun x hx => by
        unfold tdS
        rw [q0, Bool.false_and, Bool.or_false]
        exact ht x hx)
      refine ⟨t', S', ?_, r2, r3, r4⟩
      rw [← r1]
      simp (disch := omega) only [fX10_takeReports_21, fX10_takeReports_102, kO_114, kO_120, g_t, b_d, b_c, b_v, Bool.and_true, Bool.and_self, Bool.true_and, h.1, if_neg c, if_neg q', o1]
end
