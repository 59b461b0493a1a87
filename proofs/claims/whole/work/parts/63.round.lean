/-! ROUNDS, NOON: plans, as numbers to the base 5. -/
theorem dv5 {v c m : Nat} (hc : c < 5 ^ m) : (v * 5 ^ m + c) / 5 ^ m = v ∧ (v * 5 ^ m + c) % 5 ^ m = c := by
  have h0 : 0 < 5 ^ m := Nat.pow_pos (by omega)
  constructor
  · rw [Nat.add_comm, Nat.add_mul_div_right _ _ h0, Nat.div_eq_of_lt hc, Nat.zero_add]
  · rw [Nat.add_comm, Nat.add_mul_mod_self_right, Nat.mod_eq_of_lt hc]
def fsB (P : Nat → Bool) (lo : Nat) : Nat → Option Nat
  | 0 => none
  | k + 1 => match fsB P lo k with
    | some x => some x
    | none => if P (lo + k) = true then some (lo + k) else none
theorem fsB_add (P : Nat → Bool) (lo a : Nat) : ∀ b, fsB P lo (a + b) = match fsB P lo a with | some x => some x | none => fsB P (lo + a) b
  | 0 => by
    show fsB P lo a = _
    cases h : fsB P lo a with
    | none => rfl
    | some x => rfl
  | b + 1 => by
    show (match fsB P lo (a + b) with | some x => some x | none => if P (lo + (a + b)) = true then some (lo + (a + b)) else none) = _
    rw [fsB_add P lo a b]
    cases h : fsB P lo a with
    | some x => rfl
    | none =>
      show (match fsB P (lo + a) b with | some x => some x | none => if P (lo + (a + b)) = true then some (lo + (a + b)) else none) = fsB P (lo + a) (b + 1)
      rw [show lo + (a + b) = lo + a + b by omega]
      rfl
theorem fsB_none {P : Nat → Bool} {lo : Nat} : ∀ {k : Nat}, (∀ x, x < k → P (lo + x) = false) → fsB P lo k = none
  | 0, _ => rfl
  | k + 1, h => by
    unfold fsB
    rw [fsB_none (k := k) (fun x hx => h x (by omega)), h k (by omega)]
    rfl
theorem fsB_shift {P Q : Nat → Bool} {lo : Nat} : ∀ {k : Nat}, (∀ x, x < k → P (lo + x) = Q x) → fsB P lo k = (fsB Q 0 k).map (lo + ·)
  | 0, _ => rfl
  | k + 1, h => by
    unfold fsB
    rw [fsB_shift (k := k) (fun x hx => h x (by omega)), h k (by omega)]
    cases hq : fsB Q 0 k with
    | some x => rfl
    | none =>
      rw [Nat.zero_add]
      show (if Q k = true then some (lo + k) else none) = Option.map (lo + ·) (if Q k = true then some k else none)
      split
      · rfl
      · rfl
theorem fsB_spec (P : Nat → Bool) (lo : Nat) : ∀ k, (fsB P lo k = none ∧ ∀ x, x < k → P (lo + x) = false) ∨ ∃ x, x < k ∧ fsB P lo k = some (lo + x) ∧ P (lo + x) = true ∧ ∀ y, y < x → P (lo + y) = false
  | 0 => Or.inl ⟨rfl, fun x hx => absurd hx (Nat.not_lt_zero _)⟩
  | k + 1 => by
    rcases fsB_spec P lo k with ⟨h1, h2⟩ | ⟨x, h1, h2, h3, h4⟩
    · unfold fsB
      rw [h1]
      cases hp : P (lo + k) with
      | true => exact Or.inr ⟨k, by omega, if_pos rfl, hp, h2⟩
      | false =>
        refine Or.inl ⟨rfl, fun x hx => ?_⟩
        by_cases q : x = k
        · rw [q]
          exact hp
        · exact h2 x (by omega)
    · unfold fsB
      rw [h2]
      exact Or.inr ⟨x, by omega, rfl, h3, h4⟩
def fU (f : Nat → Nat) (d x : Nat) : Nat → Nat := fun k => if k = d then max (f k) x else f k
def gU (g : Nat → Nat) (d y : Nat) : Nat → Nat := fun k => if k = d then g k + y else g k
/-- a plan from here on that is done by T, with fewer than N counters -/
def Qb (p z : Nat → Nat) (N T : Nat) : Nat → Nat → Nat → (Nat → Nat) → (Nat → Nat) → Nat → Bool
  | 0, _, _, _, _, _ => true
  | m + 1, i, u, f, g, c => (decide (c / 5 ^ m ≤ u) && decide (c / 5 ^ m < N) && decide (fU f (c / 5 ^ m) (p i) (c / 5 ^ m) + gU g (c / 5 ^ m) (z i) (c / 5 ^ m) ≤ T)) && Qb p z N T m (i + 1) (max u (c / 5 ^ m + 1)) (fU f (c / 5 ^ m) (p i)) (gU g (c / 5 ^ m) (z i)) (c % 5 ^ m)
def dg5 (n c i : Nat) : Nat := c / 5 ^ (n - 1 - i) % 5
theorem dg5_0 {m v c : Nat} (hv : v < 5) (hc : c < 5 ^ m) : dg5 (m + 1) (v * 5 ^ m + c) 0 = v := by
  unfold dg5
  rw [show m + 1 - 1 - 0 = m by omega, (dv5 hc).1, Nat.mod_eq_of_lt hv]
theorem dg5_s {m v c j : Nat} (hj : j < m) : dg5 (m + 1) (v * 5 ^ m + c) (j + 1) = dg5 m c j := by
  unfold dg5
  rw [show m + 1 - 1 - (j + 1) = m - 1 - j by omega]
  have e8 : v * 5 ^ m = v * 5 ^ j * 5 * 5 ^ (m - 1 - j) := by
    rw [Nat.mul_assoc, Nat.mul_assoc, ← Nat.pow_succ', ← Nat.pow_add]
    congr 2
    omega
  rw [e8, Nat.add_comm, Nat.add_mul_div_right _ _ (Nat.pow_pos (by omega)), Nat.add_mul_mod_self_right]
/-- the class's cells -/
def cRd (p z : Nat → Nat) (n : Nat) (f g : Nat → Nat) (C : mT) : Prop := C.1 100 8 = nI n ∧ (∀ j, j < n → C.1 101 j = nI (p j) ∧ C.1 102 j = nI (z j)) ∧ ∀ k, k < 5 → C.1 104 k = nI (f k) ∧ C.1 105 k = nI (g k)
def bdR (i : Nat) (f g : Nat → Nat) : Prop := ∀ k, k < 5 → f k ≤ 60 ∧ g k ≤ 99 * i
section
variable {p z : Nat → Nat} {n : Nat} {f g : Nat → Nat} {C : mT}
theorem cRd_fr {C' : mT} (h : cRd p z n f g C) (fr : ∀ a j, a ≠ 103 → C'.1 a j = C.1 a j) : cRd p z n f g C' := by
  obtain ⟨h1, h2, h3⟩ := h
  refine ⟨by rw [fr _ _ (by omega)]; exact h1, fun j hj => by rw [fr _ _ (by omega), fr _ _ (by omega)]; exact h2 j hj, fun k hk => by rw [fr _ _ (by omega), fr _ _ (by omega)]; exact h3 k hk⟩
theorem c_busy (hn : n ≤ 5) (hp : ∀ j, j < n → p j ≤ 60 ∧ z j ≤ 99) (h : cRd p z n f g C) {d i : Nat} (hd : d < 5) (hi : i < n) (hb : bdR i f g) : ∃ C', fX6_busyWith (nI d) (nI i) C = some (nI (fU f d (p i) d + gU g d (z i) d), C') ∧ cRd p z n (fU f d (p i)) (gU g d (z i)) C' ∧ bdR (i + 1) (fU f d (p i)) (gU g d (z i)) ∧ ∀ a j, a ≠ 104 → a ≠ 105 → C'.1 a j = C.1 a j := by
  obtain ⟨h1, h2, h3⟩ := h
  obtain ⟨e1, e2⟩ := h2 i hi
  obtain ⟨e4, e5⟩ := h3 d hd
  obtain ⟨b1, b2⟩ := hb d hd
  obtain ⟨p1, p2⟩ := hp i hi
  have ef : fU f d (p i) d = max (f d) (p i) := if_pos rfl
  have eg : gU g d (z i) d = g d + z i := if_pos rfl
  have om : (if nI (f d) < nI (p i) then nI (p i) else nI (f d)) = nI (max (f d) (p i)) := by
    by_cases c : f d < p i
    · rw [if_pos ((xLt (by omega) (by omega)).mpr c)]
      exact congrArg nI (by omega)
    · rw [if_neg (fun q => c ((xLt (by omega) (by omega)).mp q))]
      exact congrArg nI (by omega)
  have q1 : (sI C 104 d (nI (max (f d) (p i)))).1 105 d = nI (g d) := by rw [sI_rd, if_neg (by omega)]; exact e5
  have q2 : (sI C 104 d (nI (max (f d) (p i)))).1 102 i = nI (z i) := by rw [sI_rd, if_neg (by omega)]; exact e2
  have q3 : (sI (sI C 104 d (nI (max (f d) (p i)))) 105 d (nI (g d + z i))).1 104 d = nI (max (f d) (p i)) := by rw [sI_rd, if_neg (by omega), sI_rd, if_pos ⟨rfl, rfl⟩]
  have q4 : (sI (sI C 104 d (nI (max (f d) (p i)))) 105 d (nI (g d + z i))).1 105 d = nI (g d + z i) := by rw [sI_rd, if_pos ⟨rfl, rfl⟩]
  refine ⟨sI (sI C 104 d (nI (max (f d) (p i)))) 105 d (nI (g d + z i)), ?_, ⟨?_, fun j hj => ?_, fun k hk => ?_⟩, fun k hk => ?_, fun a j g1 g2 => by rw [sI_rd, if_neg (by omega), sI_rd, if_neg (by omega)]⟩
  · rw [ef, eg]
    simp (disch := omega) only [fX6_busyWith, kO_100, kI_101, kI_102, kI_104, kI_105, g_t, b_d, b_c, b_v, Bool.and_true, Bool.and_self, Bool.true_and, xIx, xIn, e1, e4, om, q1, q2, nI_add, q3, q4]
  · rw [sI_rd, if_neg (by omega), sI_rd, if_neg (by omega)]
    exact h1
  · rw [sI_rd, if_neg (by omega), sI_rd, if_neg (by omega), sI_rd, if_neg (by omega), sI_rd, if_neg (by omega)]
    exact h2 j hj
  · obtain ⟨k4, k5⟩ := h3 k hk
    unfold fU gU
    by_cases c : k = d
    · rw [if_pos c, if_pos c, c, q3, q4]
      exact ⟨rfl, rfl⟩
    · rw [if_neg c, if_neg c, sI_rd, if_neg (by omega), sI_rd, if_neg (by omega), sI_rd, if_neg (by omega), sI_rd, if_neg (by omega)]
      exact ⟨k4, k5⟩
  · obtain ⟨k4, k5⟩ := hb k hk
    unfold fU gU
    by_cases c : k = d
    · rw [if_pos c, if_pos c]
      omega
    · rw [if_neg c, if_neg c]
      omega
theorem c_back (hn : n ≤ 5) (hp : ∀ j, j < n → p j ≤ 60 ∧ z j ≤ 99) {d i : Nat} (hd : d < 5) (hi : i < n) (hb : bdR i f g) (h : cRd p z n (fU f d (p i)) (gU g d (z i)) C) : ∃ C', fX6_putBack (nI d) (nI i) (nI (f d)) C = some C' ∧ cRd p z n f g C' ∧ ∀ a j, a ≠ 104 → a ≠ 105 → C'.1 a j = C.1 a j := by
  obtain ⟨h1, h2, h3⟩ := h
  obtain ⟨e1, e2⟩ := h2 i hi
  obtain ⟨e4, e5⟩ := h3 d hd
  obtain ⟨b1, b2⟩ := hb d hd
  have eg : gU g d (z i) d = g d + z i := if_pos rfl
  rw [eg] at e5
  have q1 : (sI C 104 d (nI (f d))).1 105 d = nI (g d + z i) := by rw [sI_rd, if_neg (by omega)]; exact e5
  have q2 : (sI C 104 d (nI (f d))).1 102 i = nI (z i) := by rw [sI_rd, if_neg (by omega)]; exact e2
  have q3 : nI (g d + z i) - nI (z i) = nI (g d) := by
    rw [xS (by omega)]
    exact congrArg nI (by omega)
  refine ⟨sI (sI C 104 d (nI (f d))) 105 d (nI (g d)), ?_, ⟨?_, fun j hj => ?_, fun k hk => ?_⟩, fun a j g1 g2 => by rw [sI_rd, if_neg (by omega), sI_rd, if_neg (by omega)]⟩
  · simp (disch := omega) only [fX6_putBack, kO_100, kI_102, kI_104, kI_105, g_t, b_d, b_c, b_v, Bool.and_true, Bool.and_self, Bool.true_and, xIx, xIn, q1, q2, q3]
  · rw [sI_rd, if_neg (by omega), sI_rd, if_neg (by omega)]
    exact h1
  · rw [sI_rd, if_neg (by omega), sI_rd, if_neg (by omega), sI_rd, if_neg (by omega), sI_rd, if_neg (by omega)]
    exact h2 j hj
  · obtain ⟨k4, k5⟩ := h3 k hk
    by_cases c : k = d
    · rw [c, sI_rd, if_neg (by omega), sI_rd, if_pos ⟨rfl, rfl⟩, sI_rd, if_pos ⟨rfl, rfl⟩]
      exact ⟨rfl, rfl⟩
    · unfold fU at k4
      unfold gU at k5
      rw [if_neg c] at k4 k5
      rw [sI_rd, if_neg (by omega), sI_rd, if_neg (by omega), sI_rd, if_neg (by omega), sI_rd, if_neg (by omega)]
      exact ⟨k4, k5⟩
/-- found or not -/
def fnd (o : Option Nat) : Int32 := match o with
  | none => nI 0
  | some _ => nI 1
theorem fnd_fit (o : Option Nat) : mFit .boolean (fnd o) = true := by
  cases o
  · rfl
  · rfl
theorem c_s16 (hn : n ≤ 5) (hp : ∀ j, j < n → p j ≤ 60 ∧ z j ≤ 99) {N T : Nat} (hN : N ≤ 5) (hT : T ≤ 999) {m i u : Nat} (him : i + (m + 1) = n) (hu : u ≤ i) (hb : bdR i f g) (self : Int32 → Int32 → Int32 → Int32 → mT → Option (Int32 × mT))
    (IH : ∀ (u' : Nat) (f' g' : Nat → Nat) (C : mT), u' ≤ i + 1 → bdR (i + 1) f' g' → cRd p z n f' g' C → ∃ C', self (nI (i + 1)) (nI u') (nI N) (nI T) C = some (fnd (fsB (Qb p z N T m (i + 1) u' f' g') 0 (5 ^ m)), C') ∧ cRd p z n f' g' C' ∧ (∀ c, fsB (Qb p z N T m (i + 1) u' f' g') 0 (5 ^ m) = some c → ∀ j, j < m → C'.1 103 (i + 1 + j) = nI (dg5 m c j)) ∧ (∀ j, j < i + 1 → C'.1 103 j = C.1 103 j) ∧ ∀ a j, (a < 103 ∨ 105 < a) → C'.1 a j = C.1 a j) :
    ∀ (r d k : Nat) (C : mT), d + r = 5 → r < k → cRd p z n f g C → ∃ C', fX6_sendFrom_16 self k (nI i) (nI u) (nI N) (nI T) (nI 0) (nI d) C = some (fnd (fsB (Qb p z N T (m + 1) i u f g) (d * 5 ^ m) (r * 5 ^ m)), C') ∧ cRd p z n f g C' ∧ (∀ c, fsB (Qb p z N T (m + 1) i u f g) (d * 5 ^ m) (r * 5 ^ m) = some c → ∀ j, j < m + 1 → C'.1 103 (i + j) = nI (dg5 (m + 1) c j)) ∧ (∀ j, j < i → C'.1 103 j = C.1 103 j) ∧ ∀ a j, (a < 103 ∨ 105 < a) → C'.1 a j = C.1 a j
  | 0, d, k, C, hd, hk, h => by
    obtain ⟨k', rfl⟩ := up1 hk
    have c : nI u < nI d := (xLt (by omega) (by omega)).mpr (by omega)
    rw [Nat.zero_mul]
    refine ⟨C, ?_, h, fun c hc => (by cases hc), fun _ _ => rfl, fun _ _ _ => rfl⟩
    simp only [fX6_sendFrom_16, fX6_sendFrom_97, if_pos c, mFit0, g_t, b_d, b_c, b_v, Bool.and_true, Bool.and_self, Bool.true_and]
    rfl
  | r + 1, d, k, C, hd, hk, h => by
    obtain ⟨k', rfl⟩ := up1 hk
    have h0 : 0 < 5 ^ m := Nat.pow_pos (by omega)
    have hblk : ∀ x, x < 5 ^ m → (d * 5 ^ m + x) / 5 ^ m = d ∧ (d * 5 ^ m + x) % 5 ^ m = x := fun x hx => dv5 hx
    have hall : (u < d ∨ N ≤ d) → fsB (Qb p z N T (m + 1) i u f g) (d * 5 ^ m) ((r + 1) * 5 ^ m) = none := fun hq => fsB_none fun x hx => by
      have hge : d ≤ (d * 5 ^ m + x) / 5 ^ m := by
        rw [Nat.le_div_iff_mul_le h0]
        omega
      unfold Qb
      have : (decide ((d * 5 ^ m + x) / 5 ^ m ≤ u) && decide ((d * 5 ^ m + x) / 5 ^ m < N)) = false := by
        rw [Bool.and_eq_false_iff, decide_eq_false_iff_not, decide_eq_false_iff_not]
        omega
      rw [this, Bool.false_and, Bool.false_and]
    by_cases c1 : u < d
    · have c1' : nI u < nI d := (xLt (by omega) (by omega)).mpr c1
      rw [hall (Or.inl c1)]
      refine ⟨C, ?_, h, fun c hc => (by cases hc), fun _ _ => rfl, fun _ _ _ => rfl⟩
      simp only [fX6_sendFrom_16, fX6_sendFrom_97, if_pos c1', mFit0, g_t, b_d, b_c, b_v, Bool.and_true, Bool.and_self, Bool.true_and]
      rfl
    have c1' : ¬ nI u < nI d := fun q => c1 ((xLt (by omega) (by omega)).mp q)
    by_cases c2 : N ≤ d
    · have c2' : nI N ≤ nI d := (xLe (by omega) (by omega)).mpr c2
      rw [hall (Or.inr c2)]
      refine ⟨C, ?_, h, fun c hc => (by cases hc), fun _ _ => rfl, fun _ _ _ => rfl⟩
      simp only [fX6_sendFrom_16, fX6_sendFrom_97, if_neg c1', if_pos c2', mFit0, g_t, b_d, b_c, b_v, Bool.and_true, Bool.and_self, Bool.true_and]
      rfl
    have c2' : ¬ nI N ≤ nI d := fun q => c2 ((xLe (by omega) (by omega)).mp q)
    have c3 : nI 0 = (0 : Int32) := rfl
    obtain ⟨C1, s1, s2, s3, s4⟩ := c_busy (d := d) (i := i) hn hp h (by omega) (by omega) hb
    have e4 : C.1 104 d = nI (f d) := (h.2.2 d (by omega)).1
    have hsum : fU f d (p i) d + gU g d (z i) d ≤ 60 + 99 * (i + 1) := by
      obtain ⟨a1, a2⟩ := s3 d (by omega)
      omega
    have o1 : nI d + (1 : Int32) = nI (d + 1) := nI_add d 1
    have esp : (r + 1) * 5 ^ m = 5 ^ m + r * 5 ^ m := by rw [Nat.add_mul, Nat.one_mul, Nat.add_comm]
    have enx : d * 5 ^ m + 5 ^ m = (d + 1) * 5 ^ m := by rw [Nat.add_mul, Nat.one_mul]
    have efs := fsB_add (Qb p z N T (m + 1) i u f g) (d * 5 ^ m) (5 ^ m) (r * 5 ^ m)
    rw [← esp, enx] at efs
    -- the next counter
    have next : fsB (Qb p z N T (m + 1) i u f g) (d * 5 ^ m) (5 ^ m) = none → ∀ C2, cRd p z n (fU f d (p i)) (gU g d (z i)) C2 → (∀ j, j < i → C2.1 103 j = C.1 103 j) → (∀ a j, (a < 103 ∨ 105 < a) → C2.1 a j = C.1 a j) → ∃ C', fX6_sendFrom_82 self (fX6_sendFrom_16 self k') (nI i) (nI u) (nI N) (nI T) (nI 0) (nI d) (nI (f d)) C2 = some (fnd (fsB (Qb p z N T (m + 1) i u f g) (d * 5 ^ m) ((r + 1) * 5 ^ m)), C') ∧ cRd p z n f g C' ∧ (∀ c, fsB (Qb p z N T (m + 1) i u f g) (d * 5 ^ m) ((r + 1) * 5 ^ m) = some c → ∀ j, j < m + 1 → C'.1 103 (i + j) = nI (dg5 (m + 1) c j)) ∧ (∀ j, j < i → C'.1 103 j = C.1 103 j) ∧ ∀ a j, (a < 103 ∨ 105 < a) → C'.1 a j = C.1 a j := fun hno C2 hC2 h103 hfr => by
      obtain ⟨C3, t1, t2, t3⟩ := c_back (d := d) (i := i) hn hp (by omega) (by omega) hb hC2
      obtain ⟨C', r1, r2, r3, r4, r5⟩ := c_s16 hn hp hN hT him hu hb self IH r (d + 1) k' C3 (by omega) (by omega) t2
      rw [hno] at efs
      have efs' : fsB (Qb p z N T (m + 1) i u f g) (d * 5 ^ m) ((r + 1) * 5 ^ m) = fsB (Qb p z N T (m + 1) i u f g) ((d + 1) * 5 ^ m) (r * 5 ^ m) := efs
      rw [efs']
      refine ⟨C', ?_, r2, r3, fun j hj => by rw [r4 j hj, t3 _ _ (by omega) (by omega), h103 j hj], fun a j g1 => by rw [r5 a j g1, t3 _ _ (by omega) (by omega), hfr a j g1]⟩
      rw [← r1]
      simp only [fX6_sendFrom_82, t1, g_t, b_d, b_c, b_v, Bool.and_true, Bool.and_self, Bool.true_and, o1]
    by_cases c4 : fU f d (p i) d + gU g d (z i) d ≤ T
    · have c4' : ¬ nI T < nI (fU f d (p i) d + gU g d (z i) d) := fun q => by have := (xLt (by omega) (by omega)).mp q; omega
      have hq : ∀ x, x < 5 ^ m → Qb p z N T (m + 1) i u f g (d * 5 ^ m + x) = Qb p z N T m (i + 1) (max u (d + 1)) (fU f d (p i)) (gU g d (z i)) x := fun x hx => by
        conv => lhs; unfold Qb
        rw [(hblk x hx).1, (hblk x hx).2]
        have : (decide (d ≤ u) && decide (d < N) && decide (fU f d (p i) d + gU g d (z i) d ≤ T)) = true := by
          simp [c4]
          omega
        rw [this, Bool.true_and]
      have hsh := fsB_shift hq
      obtain ⟨C5, w1, w2, w3, w4, w5⟩ := IH (max u (d + 1)) (fU f d (p i)) (gU g d (z i)) (sI C1 103 i (nI d)) (by omega) s3 (cRd_fr s2 (fun a j g => by rw [sI_rd, if_neg (by omega)]))
      have om : (if nI u < nI (d + 1) then nI (d + 1) else nI u) = nI (max u (d + 1)) := by
        by_cases c : u < d + 1
        · rw [if_pos ((xLt (by omega) (by omega)).mpr c)]
          exact congrArg nI (by omega)
        · rw [if_neg (fun q => c ((xLt (by omega) (by omega)).mp q))]
          exact congrArg nI (by omega)
      have oi : nI i + (1 : Int32) = nI (i + 1) := nI_add i 1
      have hstep : fX6_sendFrom_16 self (k' + 1) (nI i) (nI u) (nI N) (nI T) (nI 0) (nI d) C = fX6_sendFrom_82 self (fX6_sendFrom_16 self k') (nI i) (nI u) (nI N) (nI T) (fnd (fsB (Qb p z N T m (i + 1) (max u (d + 1)) (fU f d (p i)) (gU g d (z i))) 0 (5 ^ m))) (nI d) (nI (f d)) C5 := by
        simp (disch := omega) only [fX6_sendFrom_16, if_neg c1', if_neg c2', if_pos c3, kO_100, kI_103, kI_104, g_t, b_d, b_c, b_v, Bool.and_true, Bool.and_self, Bool.true_and, xIx, xIn, e4, s1, if_neg c4', o1, om, oi, w1]
      have h103 : ∀ j, j < i → C5.1 103 j = C.1 103 j := fun j hj => by rw [w4 j (by omega), sI_rd, if_neg (by omega), s4 _ _ (by omega) (by omega)]
      have hfr : ∀ a j, (a < 103 ∨ 105 < a) → C5.1 a j = C.1 a j := fun a j g1 => by rw [w5 a j g1, sI_rd, if_neg (by omega), s4 _ _ (by omega) (by omega)]
      cases hf : fsB (Qb p z N T m (i + 1) (max u (d + 1)) (fU f d (p i)) (gU g d (z i))) 0 (5 ^ m) with
      | none =>
        rw [hf] at hsh hstep
        rw [hstep]
        exact next hsh C5 w2 h103 hfr
      | some x =>
        rw [hf] at hsh hstep
        have hsh' : fsB (Qb p z N T (m + 1) i u f g) (d * 5 ^ m) (5 ^ m) = some (d * 5 ^ m + x) := hsh
        rw [hsh'] at efs
        have efs' : fsB (Qb p z N T (m + 1) i u f g) (d * 5 ^ m) ((r + 1) * 5 ^ m) = some (d * 5 ^ m + x) := efs
        have hx : x < 5 ^ m := by
          rcases fsB_spec (Qb p z N T m (i + 1) (max u (d + 1)) (fU f d (p i)) (gU g d (z i))) 0 (5 ^ m) with ⟨y1, _⟩ | ⟨y, y1, y2, _⟩
          · rw [hf] at y1
            cases y1
          · rw [hf] at y2
            cases y2
            omega
        obtain ⟨C6, t1, t2, t3⟩ := c_back (d := d) (i := i) hn hp (by omega) (by omega) hb w2
        obtain ⟨k2, rfl⟩ : ∃ k2, k' = k2 + 1 := ⟨k' - 1, by omega⟩
        rw [efs', hstep]
        refine ⟨C6, ?_, t2, fun c hc j hj => ?_, fun j hj => by rw [t3 _ _ (by omega) (by omega), h103 j hj], fun a j g1 => by rw [t3 _ _ (by omega) (by omega), hfr a j g1]⟩
        · have d5 : ¬ nI 1 = (0 : Int32) := by decide
          have step2 : fX6_sendFrom_16 self (k2 + 1) (nI i) (nI u) (nI N) (nI T) (nI 1) (nI (d + 1)) C6 = some (nI 1, C6) := by
            conv => lhs; unfold fX6_sendFrom_16 fX6_sendFrom_97
            rw [mFit1]
            simp only [g_t, b_d, b_c, b_v, Bool.and_true, Bool.and_self, Bool.true_and, if_neg d5]
            split
            · rfl
            · split
              · rfl
              · rfl
          show fX6_sendFrom_82 self (fX6_sendFrom_16 self (k2 + 1)) (nI i) (nI u) (nI N) (nI T) (nI 1) (nI d) (nI (f d)) C5 = some (nI 1, C6)
          simp only [fX6_sendFrom_82, t1, g_t, b_d, b_c, b_v, Bool.and_true, Bool.and_self, Bool.true_and, o1, step2]
        · cases hc
          rw [t3 _ _ (by omega) (by omega)]
          by_cases q : j = 0
          · subst q
            rw [Nat.add_zero, w4 i (by omega), sI_rd, if_pos ⟨rfl, rfl⟩, dg5_0 (by omega) hx]
          · obtain ⟨j', rfl⟩ : ∃ j', j = j' + 1 := ⟨j - 1, by omega⟩
            rw [show i + (j' + 1) = i + 1 + j' by omega, w3 x hf j' (by omega), dg5_s (by omega)]
    · have c4' : nI T < nI (fU f d (p i) d + gU g d (z i) d) := (xLt (by omega) (by omega)).mpr (by omega)
      have hno : fsB (Qb p z N T (m + 1) i u f g) (d * 5 ^ m) (5 ^ m) = none := fsB_none fun x hx => by
        conv => lhs; unfold Qb
        rw [(hblk x hx).1, (hblk x hx).2]
        have : decide (fU f d (p i) d + gU g d (z i) d ≤ T) = false := decide_eq_false_iff_not.mpr c4
        rw [this, Bool.and_false, Bool.false_and]
      obtain ⟨C', r1, r2⟩ := next hno C1 s2 (fun j _ => s4 _ _ (by omega) (by omega)) (fun a j g1 => s4 _ _ (by omega) (by omega))
      refine ⟨C', ?_, r2⟩
      rw [← r1]
      simp (disch := omega) only [fX6_sendFrom_16, if_neg c1', if_neg c2', if_pos c3, kO_100, kI_104, g_t, b_d, b_c, b_v, Bool.and_true, Bool.and_self, Bool.true_and, xIx, xIn, e4, s1, if_pos c4']
theorem c_send (hn : n ≤ 5) (hp : ∀ j, j < n → p j ≤ 60 ∧ z j ≤ 99) {N T : Nat} (hN : N ≤ 5) (hT : T ≤ 999) : ∀ (m i u dd : Nat) (f g : Nat → Nat) (C : mT), i + m = n → m < dd → u ≤ i → bdR i f g → cRd p z n f g C → ∃ C', fX6_sendFrom dd (nI i) (nI u) (nI N) (nI T) C = some (fnd (fsB (Qb p z N T m i u f g) 0 (5 ^ m)), C') ∧ cRd p z n f g C' ∧ (∀ c, fsB (Qb p z N T m i u f g) 0 (5 ^ m) = some c → ∀ j, j < m → C'.1 103 (i + j) = nI (dg5 m c j)) ∧ (∀ j, j < i → C'.1 103 j = C.1 103 j) ∧ ∀ a j, (a < 103 ∨ 105 < a) → C'.1 a j = C.1 a j
  | 0, i, u, dd, f, g, C, him, hdd, hu, hb, h => by
    obtain ⟨d', rfl⟩ := up1 hdd
    have c : ¬ nI i < nI n := fun q => by have := (xLt (by omega) (by omega)).mp q; omega
    refine ⟨C, ?_, h, fun _ _ j hj => by omega, fun _ _ => rfl, fun _ _ _ => rfl⟩
    simp only [fX6_sendFrom, fX6_sendFrom_0, kO_100, g_t, b_d, b_c, b_v, Bool.and_true, Bool.and_self, Bool.true_and, h.1, if_neg c]
    rfl
  | m + 1, i, u, dd, f, g, C, him, hdd, hu, hb, h => by
    obtain ⟨d', rfl⟩ := up1 hdd
    have c : nI i < nI n := (xLt (by omega) (by omega)).mpr (by omega)
    obtain ⟨C', r1, r2, r3, r4, r5⟩ := c_s16 (N := N) (T := T) (m := m) (i := i) (u := u) hn hp hN hT him hu hb (fX6_sendFrom d') (fun u' f' g' C h1 h2 h3 => c_send hn hp hN hT m (i + 1) u' d' f' g' C (by omega) (by omega) h1 h2 h3) 5 0 mK C (by omega) (by have := mK_gt; omega) h
    have e5 : 5 * 5 ^ m = 5 ^ (m + 1) := by rw [Nat.pow_succ, Nat.mul_comm]
    rw [Nat.zero_mul, e5] at r1 r3
    refine ⟨C', ?_, r2, r3, r4, r5⟩
    rw [← r1]
    simp only [fX6_sendFrom, fX6_sendFrom_0, kO_100, g_t, b_d, b_c, b_v, Bool.and_true, Bool.and_self, Bool.true_and, h.1, if_pos c]
    rfl
end
