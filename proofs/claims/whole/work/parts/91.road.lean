/-! CHASE: the road, who is next to whom. -/
def kyN (q : Nat → Nat) (x : Nat) : Nat := q x * 8 + x
def rkN (q : Nat → Nat) (n x : Nat) : Nat := cN (fun o => decide (kyN q o < kyN q x)) n
theorem cN_ss {P Q : Nat → Bool} (h : ∀ w, P w = true → Q w = true) {w0 : Nat} (hQ : Q w0 = true) (hP : P w0 = false) : ∀ {N : Nat}, w0 < N → cN P N < cN Q N
  | 0, h0 => absurd h0 (Nat.not_lt_zero _)
  | N + 1, h0 => by
    unfold cN
    by_cases q : w0 = N
    · subst q
      have := cN_sub h w0
      rw [hQ, hP, if_pos rfl, if_neg (by decide)]
      omega
    · have := cN_ss h hQ hP (N := N) (by omega)
      by_cases y : P N = true
      · rw [if_pos y, if_pos (h N y)]
        omega
      · rw [if_neg y]
        split
        · omega
        · exact this
theorem cN_a1 {P Q : Nat → Bool} {y : Nat} (h : ∀ w, Q w = true ↔ (P w = true ∨ w = y)) (hP : P y = false) : ∀ {N : Nat}, cN Q N = cN P N + (if y < N then 1 else 0)
  | 0 => rfl
  | N + 1 => by
    have ih := cN_a1 h hP (N := N)
    unfold cN
    rw [ih]
    by_cases q : y = N
    · subst q
      rw [if_pos ((h y).mpr (Or.inr rfl)), hP]
      simp
    · by_cases z : P N = true
      · rw [if_pos ((h N).mpr (Or.inl z)), if_pos z]
        split <;> split <;> omega
      · rw [if_neg (fun u => by rcases (h N).mp u with a | a; exact z a; exact q a.symm), if_neg z]
        split <;> split <;> omega
section
variable {q : Nat → Nat} {n : Nat}
theorem ky_inj (hn : n ≤ 5) {a b : Nat} (ha : a < n) (hb : b < n) (h : kyN q a = kyN q b) : a = b := by
  unfold kyN at h
  omega
theorem rk_lt {x : Nat} (hx : x < n) : rkN q n x < n := by
  have h1 := cN_ss (P := fun o => decide (kyN q o < kyN q x)) (Q := fun _ => true) (fun _ _ => rfl) (w0 := x) rfl (by simp) hx
  have h2 := cN_le (fun _ => true) n
  unfold rkN
  omega
theorem rk_mono {a b : Nat} (ha : a < n) (h : kyN q a < kyN q b) : rkN q n a < rkN q n b := cN_ss (fun w hw => by simp at hw ⊢; omega) (w0 := a) (by simpa using h) (by simp) ha
theorem rk_iff (hn : n ≤ 5) {a b : Nat} (ha : a < n) (hb : b < n) : rkN q n a < rkN q n b ↔ kyN q a < kyN q b := by
  constructor
  · intro h
    rcases Nat.lt_trichotomy (kyN q a) (kyN q b) with y | y | y
    · exact y
    · rw [ky_inj hn ha hb y] at h
      omega
    · have := rk_mono (q := q) hb y
      omega
  · exact rk_mono ha
theorem rk_inj (hn : n ≤ 5) {a b : Nat} (ha : a < n) (hb : b < n) (h : rkN q n a = rkN q n b) : a = b := by
  have h1 := rk_iff (q := q) hn ha hb
  have h2 := rk_iff (q := q) hn hb ha
  exact ky_inj (q := q) hn ha hb (by omega)
theorem rk_sur (hn : n ≤ 5) {k : Nat} (hk : k < n) : ∃ x, x < n ∧ rkN q n x = k := by
  apply Classical.byContradiction
  intro H
  have hne : ∀ x, x < n → rkN q n x ≠ k := fun x hx e => H ⟨x, hx, e⟩
  have hi : injW (fun _ => true) (fun x => if k < rkN q n x then rkN q n x - 1 else rkN q n x) n := fun w w' h1 h2 _ _ e => by
    have a1 := hne w h1
    have a2 := hne w' h2
    refine rk_inj (q := q) hn h1 h2 ?_
    simp only at e
    split at e <;> split at e <;> omega
  have h1 := cN_pg hi (n - 1)
  have h2 : cN (fun w => true && decide ((fun x => if k < rkN q n x then rkN q n x - 1 else rkN q n x) w < n - 1)) n = cN (fun _ => true) n := cN_congr fun w hw => by
    have a1 := hne w hw
    have a2 := rk_lt (q := q) hw
    simp
    split <;> omega
  have h3 : ∀ N, cN (fun _ => true) N = N := fun N => by
    induction N with
    | zero => rfl
    | succ N ih =>
      show (if true = true then cN (fun _ => true) N + 1 else _) = _
      rw [if_pos rfl, ih]
  rw [h2, h3] at h1
  omega
theorem adj_iff (hn : n ≤ 5) {x y : Nat} (hx : x < n) (hy : y < n) : (kyN q y < kyN q x ∧ ∀ z, z < n → ¬ (kyN q y < kyN q z ∧ kyN q z < kyN q x)) ↔ rkN q n y + 1 = rkN q n x := by
  constructor
  · rintro ⟨h1, h2⟩
    have e : cN (fun o => decide (o < n) && decide (kyN q o < kyN q x)) n = cN (fun o => decide (o < n) && decide (kyN q o < kyN q y)) n + (if y < n then 1 else 0) := cN_a1 (fun w => by
      simp
      constructor
      · rintro ⟨a1, a2⟩
        by_cases u : w = y
        · exact Or.inr u
        · left
          refine ⟨a1, ?_⟩
          have := h2 w a1
          have hk : kyN q w ≠ kyN q y := fun z => u (ky_inj hn a1 hy z)
          omega
      · rintro (⟨a1, a2⟩ | u)
        · exact ⟨a1, by omega⟩
        · rw [u]
          exact ⟨hy, h1⟩) (by simp)
    rw [if_pos hy] at e
    have e1 : ∀ v, cN (fun o => decide (o < n) && decide (kyN q o < kyN q v)) n = rkN q n v := fun v => cN_congr fun w hw => by simp [hw]
    rw [e1, e1] at e
    omega
  · intro h
    refine ⟨(rk_iff hn hy hx).mp (by omega), fun z hz hh => ?_⟩
    have a1 := (rk_iff (q := q) hn hy hz).mpr hh.1
    have a2 := (rk_iff (q := q) hn hz hx).mpr hh.2
    omega
/-- next to each other -/
def nbR (q : Nat → Nat) (n x y : Nat) : Prop := y < n ∧ (rkN q n y + 1 = rkN q n x ∨ rkN q n y = rkN q n x + 1)
def bwN (q : Nat → Nat) (x : Nat) : Nat → Option Nat
  | 0 => none
  | o + 1 => if kyN q o < kyN q x then (match bwN q x o with
    | none => some o
    | some y => if kyN q y < kyN q o then some o else some y) else bwN q x o
def abN (q : Nat → Nat) (x : Nat) : Nat → Option Nat
  | 0 => none
  | o + 1 => if kyN q x < kyN q o then (match abN q x o with
    | none => some o
    | some y => if kyN q o < kyN q y then some o else some y) else abN q x o
theorem bwN_sp (x : Nat) : ∀ k, (bwN q x k = none → ∀ z, z < k → ¬ kyN q z < kyN q x) ∧ ∀ y, bwN q x k = some y → y < k ∧ kyN q y < kyN q x ∧ ∀ z, z < k → ¬ (kyN q y < kyN q z ∧ kyN q z < kyN q x)
  | 0 => ⟨fun _ z hz => absurd hz (Nat.not_lt_zero _), fun y h => by cases h⟩
  | k + 1 => by
    obtain ⟨i1, i2⟩ := bwN_sp x k
    unfold bwN
    by_cases c : kyN q k < kyN q x
    · rw [if_pos c]
      cases e : bwN q x k with
      | none =>
        refine ⟨fun h => by simp at h, fun y h => ?_⟩
        simp at h
        subst h
        refine ⟨by omega, c, fun z hz hh => ?_⟩
        by_cases u : z = k
        · rw [u] at hh
          omega
        · exact i1 e z (by omega) hh.2
      | some y0 =>
        obtain ⟨j1, j2, j3⟩ := i2 y0 e
        by_cases d : kyN q y0 < kyN q k
        · simp only [if_pos d]
          refine ⟨fun h => by simp at h, fun y h => ?_⟩
          simp at h
          subst h
          refine ⟨by omega, c, fun z hz hh => ?_⟩
          by_cases u : z = k
          · rw [u] at hh
            omega
          · exact j3 z (by omega) ⟨by omega, hh.2⟩
        · simp only [if_neg d]
          refine ⟨fun h => by simp at h, fun y h => ?_⟩
          simp at h
          subst h
          refine ⟨by omega, j2, fun z hz hh => ?_⟩
          by_cases u : z = k
          · rw [u] at hh
            omega
          · exact j3 z (by omega) hh
    · rw [if_neg c]
      refine ⟨fun h z hz hh => ?_, fun y h => ?_⟩
      · by_cases u : z = k
        · rw [u] at hh
          exact c hh
        · exact i1 h z (by omega) hh
      · obtain ⟨j1, j2, j3⟩ := i2 y h
        refine ⟨by omega, j2, fun z hz hh => ?_⟩
        by_cases u : z = k
        · rw [u] at hh
          exact c hh.2
        · exact j3 z (by omega) hh
theorem abN_sp (x : Nat) : ∀ k, (abN q x k = none → ∀ z, z < k → ¬ kyN q x < kyN q z) ∧ ∀ y, abN q x k = some y → y < k ∧ kyN q x < kyN q y ∧ ∀ z, z < k → ¬ (kyN q x < kyN q z ∧ kyN q z < kyN q y)
  | 0 => ⟨fun _ z hz => absurd hz (Nat.not_lt_zero _), fun y h => by cases h⟩
  | k + 1 => by
    obtain ⟨i1, i2⟩ := abN_sp x k
    unfold abN
    by_cases c : kyN q x < kyN q k
    · rw [if_pos c]
      cases e : abN q x k with
      | none =>
        refine ⟨fun h => by simp at h, fun y h => ?_⟩
        simp at h
        subst h
        refine ⟨by omega, c, fun z hz hh => ?_⟩
        by_cases u : z = k
        · rw [u] at hh
          omega
        · exact i1 e z (by omega) hh.1
      | some y0 =>
        obtain ⟨j1, j2, j3⟩ := i2 y0 e
        by_cases d : kyN q k < kyN q y0
        · simp only [if_pos d]
          refine ⟨fun h => by simp at h, fun y h => ?_⟩
          simp at h
          subst h
          refine ⟨by omega, c, fun z hz hh => ?_⟩
          by_cases u : z = k
          · rw [u] at hh
            omega
          · exact j3 z (by omega) ⟨hh.1, by omega⟩
        · simp only [if_neg d]
          refine ⟨fun h => by simp at h, fun y h => ?_⟩
          simp at h
          subst h
          refine ⟨by omega, j2, fun z hz hh => ?_⟩
          by_cases u : z = k
          · rw [u] at hh
            omega
          · exact j3 z (by omega) hh
    · rw [if_neg c]
      refine ⟨fun h z hz hh => ?_, fun y h => ?_⟩
      · by_cases u : z = k
        · rw [u] at hh
          exact c hh
        · exact i1 h z (by omega) hh
      · obtain ⟨j1, j2, j3⟩ := i2 y h
        refine ⟨by omega, j2, fun z hz hh => ?_⟩
        by_cases u : z = k
        · rw [u] at hh
          exact c hh.1
        · exact j3 z (by omega) hh
def btO : Option Nat → Nat
  | none => 0
  | some y => 2 ^ y
def bsN (q : Nat → Nat) (n x : Nat) : Nat := if n = 1 then 2 ^ x else btO (bwN q x n) ||| btO (abN q x n)
theorem btO_bit (o : Option Nat) (y : Nat) : (btO o).testBit y = true ↔ o = some y := by
  cases o with
  | none => simp [btO]
  | some z =>
    simp [btO, Nat.testBit_two_pow]
theorem bsN_bit (hn : n ≤ 5) (h1 : n ≠ 1) {x y : Nat} (hx : x < n) : (bsN q n x).testBit y = true ↔ nbR q n x y := by
  unfold bsN nbR
  rw [if_neg h1, Nat.testBit_or, Bool.or_eq_true, btO_bit, btO_bit]
  obtain ⟨i1, i2⟩ := bwN_sp (q := q) x n
  obtain ⟨k1, k2⟩ := abN_sp (q := q) x n
  constructor
  · rintro (h | h)
    · obtain ⟨j1, j2, j3⟩ := i2 y h
      exact ⟨j1, Or.inl ((adj_iff hn hx j1).mp ⟨j2, j3⟩)⟩
    · obtain ⟨j1, j2, j3⟩ := k2 y h
      exact ⟨j1, Or.inr ((adj_iff hn j1 hx).mp ⟨j2, j3⟩).symm⟩
  · rintro ⟨hy, h | h⟩
    · obtain ⟨a1, a2⟩ := (adj_iff (q := q) hn hx hy).mpr h
      left
      cases e : bwN q x n with
      | none => exact absurd a1 (i1 e y hy)
      | some z =>
        obtain ⟨j1, j2, j3⟩ := i2 z e
        have b1 := a2 z j1
        have b2 := j3 y hy
        rw [ky_inj (q := q) hn j1 hy (by omega)]
    · obtain ⟨a1, a2⟩ := (adj_iff (q := q) hn hy hx).mpr h.symm
      right
      cases e : abN q x n with
      | none => exact absurd a1 (k1 e y hy)
      | some z =>
        obtain ⟨j1, j2, j3⟩ := k2 z e
        have b1 := a2 z j1
        have b2 := j3 y hy
        rw [ky_inj (q := q) hn j1 hy (by omega)]
/-- where he may be when one has knocked -/
def akN (bs : Nat → Nat) (s h : Nat) : Nat → Nat
  | 0 => 0
  | x + 1 => if x ≠ h ∧ s.testBit x = true then akN bs s h x ||| bs x else akN bs s h x
theorem akN_bit (bs : Nat → Nat) (s h y : Nat) : ∀ k, (akN bs s h k).testBit y = true ↔ ∃ x, x < k ∧ x ≠ h ∧ s.testBit x = true ∧ (bs x).testBit y = true
  | 0 => by simp [akN]
  | k + 1 => by
    have ih := akN_bit bs s h y k
    unfold akN
    by_cases c : k ≠ h ∧ s.testBit k = true
    · rw [if_pos c, Nat.testBit_or, Bool.or_eq_true, ih]
      constructor
      · rintro (⟨x, a1, a2⟩ | a)
        · exact ⟨x, by omega, a2⟩
        · exact ⟨k, by omega, c.1, c.2, a⟩
      · rintro ⟨x, a1, a2, a3, a4⟩
        by_cases u : x = k
        · subst u
          exact Or.inr a4
        · exact Or.inl ⟨x, by omega, a2, a3, a4⟩
    · rw [if_neg c, ih]
      constructor
      · rintro ⟨x, a1, a2⟩
        exact ⟨x, by omega, a2⟩
      · rintro ⟨x, a1, a2, a3, a4⟩
        by_cases u : x = k
        · subst u
          exact absurd ⟨a2, a3⟩ c
        · exact ⟨x, by omega, a2, a3, a4⟩
def nxN (q : Nat → Nat) (n s h : Nat) : Nat := akN (bsN q n) s h n
theorem lt_bits {a n : Nat} (h : ∀ y, a.testBit y = true → y < n) : a < 2 ^ n := Nat.lt_pow_two_of_testBit a fun i hi => by
  cases e : a.testBit i
  · rfl
  · have := h i e
    omega
theorem nxN_bit (hn : n ≤ 5) (h1 : n ≠ 1) {s h y : Nat} : (nxN q n s h).testBit y = true ↔ ∃ x, x < n ∧ x ≠ h ∧ s.testBit x = true ∧ nbR q n x y := by
  unfold nxN
  rw [akN_bit]
  constructor
  · rintro ⟨x, a1, a2, a3, a4⟩
    exact ⟨x, a1, a2, a3, (bsN_bit hn h1 a1).mp a4⟩
  · rintro ⟨x, a1, a2, a3, a4⟩
    exact ⟨x, a1, a2, a3, (bsN_bit hn h1 a1).mpr a4⟩
theorem nxN_one {s h : Nat} (hh : h < 1) : nxN q 1 s h = 0 := by
  unfold nxN akN akN
  rw [if_neg (fun z => z.1 (by omega))]
theorem nxN_lt (hn : n ≤ 5) (s : Nat) {h : Nat} (hh : h < n) : nxN q n s h < 2 ^ n := by
  by_cases h1 : n = 1
  · subst h1
    rw [nxN_one hh]
    decide
  · refine lt_bits fun y hy => ?_
    obtain ⟨x, _, _, _, a⟩ := (nxN_bit hn h1).mp hy
    exact a.1
end
