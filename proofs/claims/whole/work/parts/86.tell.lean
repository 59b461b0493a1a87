/-! TELLS: sets of houses that tell the rows apart; the reference. -/
def ptN (n w s : Nat) : Nat → Nat
  | 0 => 0
  | h + 1 => if s / 2 ^ h % 2 = 1 then ptN n w s h * 8 + dg8 n w h else ptN n w s h
theorem dg_lt (n w i : Nat) : dg8 n w i < 8 := Nat.mod_lt _ (by omega)
theorem ptN_lt (n w s : Nat) : ∀ h, ptN n w s h < 8 ^ pcN s h
  | 0 => by show 0 < 8 ^ 0; decide
  | h + 1 => by
    have ih := ptN_lt n w s h
    have hd := dg_lt n w h
    unfold ptN pcN
    by_cases q : s / 2 ^ h % 2 = 1
    · rw [if_pos q, q, Nat.pow_succ]
      omega
    · rw [if_neg q, show s / 2 ^ h % 2 = 0 by omega]
      exact ih
theorem ptN_inj {n w w' s : Nat} : ∀ h, ptN n w s h = ptN n w' s h ↔ ∀ i, i < h → s / 2 ^ i % 2 = 1 → dg8 n w i = dg8 n w' i
  | 0 => ⟨fun _ i hi => absurd hi (Nat.not_lt_zero _), fun _ => rfl⟩
  | h + 1 => by
    have ih := ptN_inj (n := n) (w := w) (w' := w') (s := s) h
    have d1 := dg_lt n w h
    have d2 := dg_lt n w' h
    unfold ptN
    by_cases q : s / 2 ^ h % 2 = 1
    · rw [if_pos q, if_pos q]
      constructor
      · intro e i hi hb
        by_cases y : i = h
        · rw [y]
          omega
        · exact ih.mp (by omega) i (by omega) hb
      · intro H
        have h1 := ih.mpr fun i hi => H i (by omega)
        have h2 := H h (by omega) q
        omega
    · rw [if_neg q, if_neg q, ih]
      constructor
      · intro H i hi hb
        by_cases y : i = h
        · rw [y] at hb
          exact absurd hb q
        · exact H i (by omega) hb
      · intro H i hi
        exact H i (by omega)
/-- one to one as far as W -/
def injW (P : Nat → Bool) (f : Nat → Nat) (W : Nat) : Prop := ∀ w w', w < W → w' < W → P w = true → P w' = true → f w = f w' → w = w'
theorem apt_pt {n s : Nat} {P : Nat → Bool} : apt n P s ↔ injW P (fun w => ptN n w s n) (8 ^ n) := by
  unfold apt injW
  constructor
  · intro H w w' h1 h2 p1 p2 e
    exact H w w' h1 h2 p1 p2 ((ptN_inj n).mp e)
  · intro H w w' h1 h2 p1 p2 e
    exact H w w' h1 h2 p1 p2 ((ptN_inj n).mpr e)
/-- as many as there are places at most -/
theorem cN_or (A B : Nat → Bool) : ∀ N, cN (fun w => A w || B w) N ≤ cN A N + cN B N
  | 0 => Nat.le_refl _
  | N + 1 => by
    have ih := cN_or A B N
    unfold cN
    cases a : A N <;> cases b : B N <;> simp <;> omega
theorem cN_0 {Q : Nat → Bool} : ∀ {N : Nat}, (∀ w, w < N → Q w = false) → cN Q N = 0
  | 0, _ => rfl
  | N + 1, h => by
    unfold cN
    rw [h N (by omega), if_neg (by decide)]
    exact cN_0 fun w hw => h w (by omega)
theorem cN_1 {Q : Nat → Bool} : ∀ {N : Nat}, (∀ w w', w < N → w' < N → Q w = true → Q w' = true → w = w') → cN Q N ≤ 1
  | 0, _ => by show 0 ≤ 1; decide
  | N + 1, h => by
    unfold cN
    by_cases q : Q N = true
    · rw [if_pos q, cN_0 (fun w hw => by
        cases y : Q w
        · rfl
        · have := h w N (by omega) (by omega) y q
          omega)]
      omega
    · rw [if_neg q]
      exact cN_1 fun w w' h1 h2 => h w w' (by omega) (by omega)
theorem cN_pg {P : Nat → Bool} {f : Nat → Nat} {N : Nat} (hi : injW P f N) : ∀ M, cN (fun w => P w && decide (f w < M)) N ≤ M
  | 0 => by
    rw [cN_0 fun w _ => by simp]
    exact Nat.le_refl _
  | M + 1 => by
    have ih := cN_pg hi M
    have h1 := cN_or (fun w => P w && decide (f w < M)) (fun w => P w && decide (f w = M)) N
    have h2 : cN (fun w => P w && decide (f w = M)) N ≤ 1 := cN_1 fun w w' a1 a2 b1 b2 => by
      simp at b1 b2
      exact hi w w' a1 a2 b1.1 b2.1 (by rw [b1.2, b2.2])
    have h3 : cN (fun w => P w && decide (f w < M + 1)) N = cN (fun w => (P w && decide (f w < M)) || (P w && decide (f w = M))) N := cN_congr fun w _ => by
      cases P w
      · rfl
      · simp
        rw [← Bool.decide_or, decide_eq_decide]
        omega
    omega
theorem apt_le {n s : Nat} {P : Nat → Bool} (h : apt n P s) : cN P (8 ^ n) ≤ 8 ^ pcN s n := by
  have h1 := cN_pg (apt_pt.mp h) (8 ^ pcN s n)
  have h2 : cN (fun w => P w && decide (ptN n w s n < 8 ^ pcN s n)) (8 ^ n) = cN P (8 ^ n) := cN_congr fun w _ => by
    rw [decide_eq_true (ptN_lt n w s n), Bool.and_true]
  omega
/-- digits tell numbers apart -/
theorem dg_ext {n w w' : Nat} (hn : n ≤ 5) (h1 : w < 8 ^ n) (h2 : w' < 8 ^ n) (h : ∀ i, i < n → dg8 n w i = dg8 n w' i) : w = w' := by
  unfold dg8 at h
  rcases n with _ | _ | _ | _ | _ | _ | n
  · omega
  · have a0 := h 0 (by omega)
    simp at a0 h1 h2
    omega
  · have a0 := h 0 (by omega)
    have a1 := h 1 (by omega)
    simp at a0 a1 h1 h2
    omega
  · have a0 := h 0 (by omega)
    have a1 := h 1 (by omega)
    have a2 := h 2 (by omega)
    simp at a0 a1 a2 h1 h2
    omega
  · have a0 := h 0 (by omega)
    have a1 := h 1 (by omega)
    have a2 := h 2 (by omega)
    have a3 := h 3 (by omega)
    simp at a0 a1 a2 a3 h1 h2
    omega
  · have a0 := h 0 (by omega)
    have a1 := h 1 (by omega)
    have a2 := h 2 (by omega)
    have a3 := h 3 (by omega)
    have a4 := h 4 (by omega)
    simp at a0 a1 a2 a3 a4 h1 h2
    omega
  · omega
/-- all houses tell all -/
theorem bit_all {n h : Nat} (hn : n ≤ 5) (hh : h < n) : (2 ^ n - 1) / 2 ^ h % 2 = 1 := by
  rcases n with _ | _ | _ | _ | _ | _ | n <;> rcases h with _ | _ | _ | _ | _ | h <;> first | omega | decide
theorem apt_all {n : Nat} (hn : n ≤ 5) (P : Nat → Bool) : apt n P (2 ^ n - 1) := fun w w' h1 h2 _ _ e => dg_ext hn h1 h2 fun i hi => e i hi (bit_all hn hi)
theorem pc_all : ∀ n, n ≤ 5 → pcN (2 ^ n - 1) 5 = n := by decide
theorem pc_les : ∀ n, n ≤ 5 → ∀ s, s < 2 ^ n - 1 → pcN s 5 < n ∧ pcN s n = pcN s 5 := by decide +kernel
theorem tell_uniq {n : Nat} {P : Nat → Bool} {T T' : Nat} (h : isTell n P T) (h' : isTell n P T') : T = T' := by
  have a1 := h.2.2 T' h'.1 h'.2.1
  have a2 := h'.2.2 T h.1 h.2.1
  omega
/-! a digit is struck out -/
def zD (a k : Nat) : Nat := a / 2 ^ (k + 3) * 2 ^ (k + 3) + a % 2 ^ k
theorem b7 : ∀ j, j < 32 → Nat.testBit 7 j = decide (j < 3) := by decide
theorem zD_n {a k : Nat} (hk : k < 28) : nI a &&& (((7 : Int32) <<< (nI k &&& 31)) ^^^ (-1 : Int32)) = nI (zD a k) := by
  apply Int32.toBitVec.inj
  show BitVec.ofNat 32 a &&& ((7#32 <<< ((nI k &&& (31 : Int32)).toBitVec.smod 32)) ^^^ BitVec.allOnes 32) = BitVec.ofNat 32 (zD a k)
  rw [sm32 k (by omega)]
  apply BitVec.eq_of_getLsbD_eq
  intro i hi
  have h1 : a % 2 ^ k < 2 ^ (k + 3) := Nat.lt_of_lt_of_le (Nat.mod_lt _ (Nat.pow_pos (by omega))) (Nat.pow_le_pow_right (by omega) (by omega))
  have e : zD a k = 2 ^ (k + 3) * (a / 2 ^ (k + 3)) + a % 2 ^ k := by
    unfold zD
    rw [Nat.mul_comm]
  rw [BitVec.getLsbD_and, BitVec.getLsbD_xor, BitVec.getLsbD_allOnes, BitVec.shiftLeft_eq', BitVec.toNat_ofNat, Nat.mod_eq_of_lt (by omega : k < 2 ^ 32), BitVec.getLsbD_shiftLeft, BitVec.getLsbD_ofNat, BitVec.getLsbD_ofNat, BitVec.getLsbD_ofNat, e, Nat.testBit_two_pow_mul_add _ h1, Nat.testBit_mod_two_pow, Nat.testBit_div_two_pow, decide_eq_true hi]
  by_cases q : i < k
  · rw [decide_eq_true q, if_pos (by omega)]
    simp
  · rw [decide_eq_false q, b7 (i - k) (by omega), decide_eq_true (by omega : i - k < 32)]
    by_cases y : i < k + 3
    · rw [if_pos y, decide_eq_true (by omega : i - k < 3)]
      simp
    · rw [if_neg y, decide_eq_false (by omega : ¬ i - k < 3), show i - (k + 3) + (k + 3) = i by omega]
      simp
theorem zD_dg {n a h i : Nat} (hn : n ≤ 5) (hh : h < n) (hi : i < n) : dg8 n (zD a (3 * (n - 1 - h))) i = if i = h then 0 else dg8 n a i := by
  have e1 : (i = h) ↔ (n - 1 - i = n - 1 - h) := by omega
  unfold dg8 zD
  simp only [e1]
  have j1 : n - 1 - h ≤ 4 := by omega
  have j2 : n - 1 - i ≤ 4 := by omega
  generalize n - 1 - h = x at *
  generalize n - 1 - i = y at *
  rcases x with _ | _ | _ | _ | _ | x <;> rcases y with _ | _ | _ | _ | _ | y <;> simp <;> omega
theorem zD_le (a k : Nat) : zD a k ≤ a := by
  unfold zD
  have h1 := Nat.div_add_mod a (2 ^ (k + 3))
  rw [Nat.mul_comm] at h1
  have h2 : a % 2 ^ k ≤ a % 2 ^ (k + 3) := by
    rw [← Nat.mod_mod_of_dvd a (Nat.pow_dvd_pow 2 (by omega : k ≤ k + 3))]
    exact Nat.mod_le _ _
  omega
def owN (n w s : Nat) : Nat → Nat
  | 0 => w
  | h + 1 => if s / 2 ^ h % 2 = 0 then zD (owN n w s h) (3 * (n - 1 - h)) else owN n w s h
theorem owN_le (n w s : Nat) : ∀ h, owN n w s h ≤ w
  | 0 => Nat.le_refl _
  | h + 1 => by
    have ih := owN_le n w s h
    unfold owN
    split
    · exact Nat.le_trans (zD_le _ _) ih
    · exact ih
theorem owN_dg {n w s : Nat} (hn : n ≤ 5) : ∀ h, h ≤ n → ∀ i, i < n → dg8 n (owN n w s h) i = if i < h ∧ s / 2 ^ i % 2 = 0 then 0 else dg8 n w i
  | 0, _, i, _ => by rw [if_neg (by omega)]; rfl
  | h + 1, hh, i, hi => by
    have ih := owN_dg (w := w) (s := s) hn h (by omega) i hi
    unfold owN
    by_cases q : s / 2 ^ h % 2 = 0
    · rw [if_pos q, zD_dg hn (by omega) hi]
      by_cases y : i = h
      · subst y
        rw [if_pos rfl, if_pos ⟨by omega, q⟩]
      · rw [if_neg y, ih]
        by_cases z : i < h ∧ s / 2 ^ i % 2 = 0
        · rw [if_pos z, if_pos ⟨by omega, z.2⟩]
        · rw [if_neg z, if_neg (fun u => z ⟨by omega, u.2⟩)]
    · rw [if_neg q, ih]
      by_cases z : i < h ∧ s / 2 ^ i % 2 = 0
      · rw [if_pos z, if_pos ⟨by omega, z.2⟩]
      · rw [if_neg z, if_neg (fun u => z ⟨by
          by_cases y : i = h
          · rw [y] at u
            exact absurd u.2 q
          · omega, u.2⟩)]
theorem apt_ow {n s : Nat} (hn : n ≤ 5) {P : Nat → Bool} : apt n P s ↔ injW P (fun w => owN n w s n) (8 ^ n) := by
  unfold apt injW
  constructor
  · intro H w w' h1 h2 p1 p2 e
    refine H w w' h1 h2 p1 p2 fun h hh hb => ?_
    have a1 := owN_dg (w := w) (s := s) hn n (Nat.le_refl _) h hh
    have a2 := owN_dg (w := w') (s := s) hn n (Nat.le_refl _) h hh
    rw [if_neg (by omega)] at a1 a2
    rw [← a1, ← a2]
    exact congrArg (fun z => dg8 n z h) e
  · intro H w w' h1 h2 p1 p2 e
    refine H w w' h1 h2 p1 p2 ?_
    refine dg_ext hn (Nat.lt_of_le_of_lt (owN_le _ _ _ _) h1) (Nat.lt_of_le_of_lt (owN_le _ _ _ _) h2) fun i hi => ?_
    rw [owN_dg hn n (Nat.le_refl _) i hi, owN_dg hn n (Nat.le_refl _) i hi]
    by_cases q : s / 2 ^ i % 2 = 0
    · rw [if_pos ⟨hi, q⟩, if_pos ⟨hi, q⟩]
    · rw [if_neg (fun z => q z.2), if_neg (fun z => q z.2)]
      exact e i hi (by omega)
