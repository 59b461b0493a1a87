/-! CHASE: the class. -/
def oI : Option Nat → Int32
  | none => -1
  | some y => nI y
theorem oI_n : oI none = -1 := rfl
theorem oI_s (y : Nat) : oI (some y) = nI y := rfl
section
variable {q : Nat → Nat} {n : Nat}
def rdO (q : Nat → Nat) (n : Nat) (C : mT) : Prop := C.1 100 8 = nI n ∧ ∀ x, x < n → C.1 101 x = nI (q x)
theorem c_ib (hn : n ≤ 5) (hq : ∀ x, x < n → q x ≤ 60) {C : mT} (h : rdO q n C) {a b : Nat} (ha : a < n) (hb : b < n) : fX6_isBefore (nI a) (nI b) C = some (if kyN q a < kyN q b then 1 else 0, C) := by
  have h1 := hq a ha
  have h2 := hq b hb
  have f0 : mFit .boolean (0 : Int32) = true := by decide
  have f1 : mFit .boolean (1 : Int32) = true := by decide
  have l1 := leI (v := 0) (a := q a) (b := q b) (by omega) (by omega) (by omega)
  have l1' : (0 : Int32) ≤ nI (q a) - nI (q b) ↔ 0 + q b ≤ q a := l1
  unfold kyN
  rcases Nat.lt_trichotomy (q a) (q b) with c | c | c
  · have c1 : nI (q a) - nI (q b) < 0 := Int32.not_le.mp (fun z => by have := l1'.mp z; omega)
    rw [if_pos (by omega)]
    simp (disch := omega) only [fX6_isBefore, fX6_isBefore_27, fX6_isBefore_32, kO_100, kI_101, g_t, b_d, b_c, b_v, Bool.and_true, Bool.and_self, Bool.true_and, xIx, xIn, h.2 a ha, h.2 b hb, if_pos c1, f1]
  · have c1 : ¬ nI (q a) - nI (q b) < 0 := Int32.not_lt.mpr (l1'.mpr (by omega))
    have c2 : nI (q a) - nI (q b) = 0 := by rw [c, xS (Nat.le_refl _), Nat.sub_self]; rfl
    by_cases d : b ≤ a
    · have d' : nI b ≤ nI a := (xLe (by omega) (by omega)).mpr d
      rw [if_neg (by omega)]
      simp (disch := omega) only [fX6_isBefore, fX6_isBefore_31, fX6_isBefore_32, kO_100, kI_101, g_t, b_d, b_c, b_v, Bool.and_true, Bool.and_self, Bool.true_and, xIx, xIn, h.2 a ha, h.2 b hb, if_neg c1, if_pos c2, if_pos d', f0]
    · have d' : ¬ nI b ≤ nI a := fun z => d ((xLe (by omega) (by omega)).mp z)
      rw [if_pos (by omega)]
      simp (disch := omega) only [fX6_isBefore, fX6_isBefore_27, fX6_isBefore_32, kO_100, kI_101, g_t, b_d, b_c, b_v, Bool.and_true, Bool.and_self, Bool.true_and, xIx, xIn, h.2 a ha, h.2 b hb, if_neg c1, if_pos c2, if_neg d', f1]
  · have c1 : ¬ nI (q a) - nI (q b) < 0 := Int32.not_lt.mpr (l1'.mpr (by omega))
    have c2 : ¬ nI (q a) - nI (q b) = 0 := by
      rw [xS (by omega)]
      exact fun z => by have := (xEq (b := 0) (by omega) (by omega)).mp z; omega
    rw [if_neg (by omega)]
    simp (disch := omega) only [fX6_isBefore, fX6_isBefore_31, fX6_isBefore_32, kO_100, kI_101, g_t, b_d, b_c, b_v, Bool.and_true, Bool.and_self, Bool.true_and, xIx, xIn, h.2 a ha, h.2 b hb, if_neg c1, if_neg c2, f0]
theorem c_54 (hn : n ≤ 5) (hq : ∀ x, x < n → q x ≤ 60) {C : mT} (h : rdO q n C) {x o : Nat} (hx : x < n) (ho : o < n) (v2 : Int32) (rc2 : Int32 → mT → Option mT) (rc17 : Int32 → Int32 → Int32 → Int32 → mT → Option mT) : fX6_findNeighbours_54 rc2 rc17 (nI x) v2 (oI (abN q x o)) (nI o) C = rc17 (nI x) v2 (oI (abN q x (o + 1))) (nI (o + 1)) C := by
  have ib1 := c_ib hn hq h hx ho
  have o1 : nI o + (1 : Int32) = nI (o + 1) := nI_add o 1
  have t1 : ¬ (1 : Int32) = 0 := by decide
  have es : abN q x (o + 1) = if kyN q x < kyN q o then (match abN q x o with
    | none => some o
    | some y => if kyN q o < kyN q y then some o else some y) else abN q x o := rfl
  rw [es]
  by_cases c : kyN q x < kyN q o
  · rw [if_pos c] at ib1 ⊢
    cases e : abN q x o with
    | none =>
      simp only [fX6_findNeighbours_54, fX6_findNeighbours_79, fX6_findNeighbours_82, ib1, g_t, b_d, b_c, b_v, Bool.and_true, Bool.and_self, Bool.true_and, if_neg t1, oI_n, oI_s, o1, if_true]
    | some y =>
      have hy := ((abN_sp x o).2 y e).1
      have ib2 := c_ib hn hq h ho (b := y) (by omega)
      have ny : ¬ nI y = (-1 : Int32) := nI_ne1 (by omega)
      by_cases d : kyN q o < kyN q y
      · rw [if_pos d] at ib2
        simp only [fX6_findNeighbours_54, fX6_findNeighbours_79, fX6_findNeighbours_82, ib1, ib2, g_t, b_d, b_c, b_v, Bool.and_true, Bool.and_self, Bool.true_and, if_neg t1, oI_n, oI_s, if_neg ny, if_pos d, o1]
      · rw [if_neg d] at ib2
        simp only [fX6_findNeighbours_54, fX6_findNeighbours_79, fX6_findNeighbours_82, ib1, ib2, g_t, b_d, b_c, b_v, Bool.and_true, Bool.and_self, Bool.true_and, if_neg t1, oI_n, oI_s, if_neg ny, if_neg d, if_true, o1]
  · rw [if_neg c] at ib1 ⊢
    simp only [fX6_findNeighbours_54, fX6_findNeighbours_82, ib1, g_t, b_d, b_c, b_v, Bool.and_true, Bool.and_self, Bool.true_and, if_true, o1]
theorem s_bitO {o : Option Nat} (h : ∀ y, o = some y → y < 5) (C : mT) : fX6_bitOf (oI o) C = some (nI (btO o), C) := by
  cases o with
  | none => rfl
  | some y =>
    have hy := h y rfl
    have ny : ¬ nI y = (-1 : Int32) := nI_ne1 (by omega)
    simp only [fX6_bitOf, fX6_bitOf_12, oI_n, oI_s, if_neg ny, btO, shl1 y (by omega)]
theorem c_fn17 (hn : n ≤ 5) (hq : ∀ x, x < n → q x ≤ 60) {C : mT} (h : rdO q n C) {x : Nat} (hx : x < n) (rc : Int32 → mT → Option mT) : ∀ (m o k : Nat), o + m = n → m < k → ∃ C', fX6_findNeighbours_17 rc k (nI x) (oI (bwN q x o)) (oI (abN q x o)) (nI o) C = rc (nI (x + 1)) C' ∧ C'.1 106 x = nI (bsN q n x) ∧ ∀ a j, ¬ (a = 106 ∧ j = x) → C'.1 a j = C.1 a j
  | 0, o, k, ho, hk => by
    obtain ⟨k', rfl⟩ := up1 hk
    have ho : o = n := by omega
    subst ho
    have c : nI o ≤ nI o := Int32.le_refl _
    have o1 : nI x + (1 : Int32) = nI (x + 1) := nI_add x 1
    have b1 := s_bitO (o := bwN q x o) (fun y e => by have := ((bwN_sp x o).2 y e).1; omega) C
    have b2 := s_bitO (o := abN q x o) (fun y e => by have := ((abN_sp x o).2 y e).1; omega) C
    have h8 : ∀ z, (sI C 106 x z).1 100 8 = nI o := fun z => by rw [sI_ne (by omega)]; exact h.1
    by_cases n1 : o = 1
    · have e1 : nI o = (1 : Int32) := by rw [n1]; rfl
      have b3 : ∀ D, fX6_bitOf (nI x) D = some (nI (2 ^ x), D) := fun D => s_bitO (o := some x) (fun y e => by simp at e; omega) D
      refine ⟨sI (sI C 106 x (nI (btO (bwN q x o)) ||| nI (btO (abN q x o)))) 106 x (nI (2 ^ x)), ?_, by rw [sI_eq]; unfold bsN; rw [if_pos n1], fun a j g => by rw [sI_ne g, sI_ne g]⟩
      simp (disch := omega) only [fX6_findNeighbours_17, fX6_findNeighbours_121, kO_100, kI_106, g_t, b_d, b_c, b_v, Bool.and_true, Bool.and_self, Bool.true_and, h.1, if_pos c, b1, b2, xIx, xIn, h8, if_pos e1, b3, o1]
    · have e1 : ¬ nI o = (1 : Int32) := fun z => n1 ((xEq (b := 1) (by omega) (by omega)).mp z)
      refine ⟨sI C 106 x (nI (btO (bwN q x o)) ||| nI (btO (abN q x o))), ?_, by rw [sI_eq, nI_or]; unfold bsN; rw [if_neg n1], fun a j g => by rw [sI_ne g]⟩
      simp (disch := omega) only [fX6_findNeighbours_17, fX6_findNeighbours_121, kO_100, kI_106, g_t, b_d, b_c, b_v, Bool.and_true, Bool.and_self, Bool.true_and, h.1, if_pos c, b1, b2, xIx, xIn, h8, if_neg e1, o1]
  | m + 1, o, k, ho, hk => by
    obtain ⟨k', rfl⟩ := up1 hk
    have c : ¬ nI n ≤ nI o := fun y => by have := (xLe (by omega) (by omega)).mp y; omega
    obtain ⟨C', r1, r2⟩ := c_fn17 hn hq h hx rc m (o + 1) k' (by omega) (by omega)
    refine ⟨C', ?_, r2⟩
    rw [← r1]
    have ib1 := c_ib hn hq h (a := o) (b := x) (by omega) hx
    have t1 : ¬ (1 : Int32) = 0 := by decide
    have st := fun v2 => c_54 hn hq h hx (o := o) (by omega) v2 rc (fX6_findNeighbours_17 rc k')
    have es : bwN q x (o + 1) = if kyN q o < kyN q x then (match bwN q x o with
      | none => some o
      | some y => if kyN q y < kyN q o then some o else some y) else bwN q x o := rfl
    rw [es]
    by_cases d : kyN q o < kyN q x
    · rw [if_pos d] at ib1 ⊢
      cases e : bwN q x o with
      | none => simp only [fX6_findNeighbours_17, fX6_findNeighbours_51, kO_100, g_t, b_d, b_c, b_v, Bool.and_true, Bool.and_self, Bool.true_and, h.1, if_neg c, ib1, if_neg t1, oI_n, oI_s, if_true, st]
      | some y =>
        have hy := ((bwN_sp x o).2 y e).1
        have ib2 := c_ib hn hq h (a := y) (b := o) (by omega) (by omega)
        have ny : ¬ nI y = (-1 : Int32) := nI_ne1 (by omega)
        by_cases g : kyN q y < kyN q o
        · rw [if_pos g] at ib2
          simp only [fX6_findNeighbours_17, fX6_findNeighbours_51, kO_100, g_t, b_d, b_c, b_v, Bool.and_true, Bool.and_self, Bool.true_and, h.1, if_neg c, ib1, ib2, if_neg t1, oI_n, oI_s, if_neg ny, if_pos g, st]
        · rw [if_neg g] at ib2
          simp only [fX6_findNeighbours_17, kO_100, g_t, b_d, b_c, b_v, Bool.and_true, Bool.and_self, Bool.true_and, h.1, if_neg c, ib1, ib2, if_neg t1, oI_n, oI_s, if_neg ny, if_neg g, if_true, st]
    · rw [if_neg d] at ib1 ⊢
      simp only [fX6_findNeighbours_17, kO_100, g_t, b_d, b_c, b_v, Bool.and_true, Bool.and_self, Bool.true_and, h.1, if_neg c, ib1, if_true, st]
theorem c_fn2 (hn : n ≤ 5) (hq : ∀ x, x < n → q x ≤ 60) : ∀ (m x k : Nat) (C : mT), x + m = n → m < k → rdO q n C → (∀ y, y < x → C.1 106 y = nI (bsN q n y)) → ∃ C', fX6_findNeighbours_2 k (nI x) C = some C' ∧ (∀ y, y < n → C'.1 106 y = nI (bsN q n y)) ∧ ∀ a j, a ≠ 106 → C'.1 a j = C.1 a j
  | 0, x, k, C, hx, hk, h, e => by
    obtain ⟨k', rfl⟩ := up1 hk
    have hx : x = n := by omega
    subst hx
    have c : nI x ≤ nI x := Int32.le_refl _
    exact ⟨C, by simp only [fX6_findNeighbours_2, kO_100, g_t, b_d, b_c, b_v, Bool.and_true, Bool.and_self, Bool.true_and, h.1, if_pos c], e, fun _ _ _ => rfl⟩
  | m + 1, x, k, C, hx, hk, h, e => by
    obtain ⟨k', rfl⟩ := up1 hk
    have c : ¬ nI n ≤ nI x := fun y => by have := (xLe (by omega) (by omega)).mp y; omega
    obtain ⟨C1, f1, f2, f3⟩ := c_fn17 hn hq h (x := x) (by omega) (fX6_findNeighbours_2 k') n 0 mK (by omega) (by have := mK_gt; omega)
    obtain ⟨C', r1, r2, r3⟩ := c_fn2 hn hq m (x + 1) k' C1 (by omega) (by omega) ⟨by rw [f3 _ _ (by omega)]; exact h.1, fun y hy => by rw [f3 _ _ (by omega)]; exact h.2 y hy⟩ (fun y hy => by
      by_cases u : y = x
      · rw [u]
        exact f2
      · rw [f3 _ _ (by omega)]
        exact e y (by omega))
    refine ⟨C', ?_, r2, fun a j g => by rw [r3 a j g, f3 _ _ (by omega)]⟩
    rw [← r1]
    have f1' : fX6_findNeighbours_17 (fX6_findNeighbours_2 k') mK (nI x) (-1 : Int32) (-1 : Int32) (0 : Int32) C = _ := f1
    rw [← f1']
    simp only [fX6_findNeighbours_2, kO_100, g_t, b_d, b_c, b_v, Bool.and_true, Bool.and_self, Bool.true_and, h.1, if_neg c]
def okB (q : Nat → Nat) (n : Nat) (C : mT) : Prop := C.1 100 8 = nI n ∧ ∀ x, x < n → C.1 106 x = nI (bsN q n x)
theorem tb_iff (s x : Nat) : s.testBit x = true ↔ s / 2 ^ x % 2 = 1 := by rw [Nat.testBit_eq_decide_div_mod_eq, decide_eq_true_iff]
theorem c_ak5 (hn : n ≤ 5) {C : mT} (h : okB q n C) {s g : Nat} (hs : s < 32) (hg : g < n) : ∀ (m x k : Nat), x + m = n → m < k → fX6_afterKnock_5 k (nI s) (nI g) (nI (akN (bsN q n) s g x)) (nI x) C = some (nI (nxN q n s g), C)
  | 0, x, k, hx, hk => by
    obtain ⟨k', rfl⟩ := up1 hk
    have hx : x = n := by omega
    subst hx
    have c : nI x ≤ nI x := Int32.le_refl _
    simp only [fX6_afterKnock_5, kO_100, g_t, b_d, b_c, b_v, Bool.and_true, Bool.and_self, Bool.true_and, h.1, if_pos c, nxN]
  | m + 1, x, k, hx, hk => by
    obtain ⟨k', rfl⟩ := up1 hk
    have c : ¬ nI n ≤ nI x := fun y => by have := (xLe (by omega) (by omega)).mp y; omega
    have o1 : nI x + (1 : Int32) = nI (x + 1) := nI_add x 1
    have hb := bit_eq (a := s) (h := x) (by omega) (by omega)
    rw [← tb_iff] at hb
    have es : akN (bsN q n) s g (x + 1) = if x ≠ g ∧ s.testBit x = true then akN (bsN q n) s g x ||| bsN q n x else akN (bsN q n) s g x := rfl
    rw [← c_ak5 hn h hs hg m (x + 1) k' (by omega) (by omega), es]
    by_cases d : x = g
    · have d' : nI x = nI g := congrArg nI d
      rw [if_neg (fun z => z.1 d)]
      simp only [fX6_afterKnock_5, fX6_afterKnock_40, kO_100, g_t, b_d, b_c, b_v, Bool.and_true, Bool.and_self, Bool.true_and, h.1, if_neg c, if_pos d', o1]
    · have d' : ¬ nI x = nI g := fun z => d ((xEq (by omega) (by omega)).mp z)
      by_cases e : s.testBit x = true
      · have e' := hb.mpr e
        rw [if_pos ⟨d, e⟩]
        simp (disch := omega) only [fX6_afterKnock_5, fX6_afterKnock_40, kO_100, kI_106, g_t, b_d, b_c, b_v, Bool.and_true, Bool.and_self, Bool.true_and, h.1, if_neg c, if_neg d', if_pos e', xIx, xIn, h.2 x (by omega), nI_or, o1]
      · have e' : ¬ _ := fun z => e (hb.mp z)
        rw [if_neg (fun z => e z.2)]
        simp only [fX6_afterKnock_5, fX6_afterKnock_40, kO_100, g_t, b_d, b_c, b_v, Bool.and_true, Bool.and_self, Bool.true_and, h.1, if_neg c, if_neg d', if_neg e', o1]
theorem c_ak (hn : n ≤ 5) {C : mT} (h : okB q n C) {s g : Nat} (hs : s < 32) (hg : g < n) : fX6_afterKnock (nI s) (nI g) C = some (nI (nxN q n s g), C) := c_ak5 hn h hs hg n 0 mK (by omega) (by have := mK_gt; omega)
end
/-! how many knocks -/
def rcN (nx : Nat → Nat → Nat) (n : Nat) : Nat → Nat → Prop
  | 0, s => s = 0
  | p + 1, s => rcN nx n p s ∨ ∃ h, h < n ∧ rcN nx n p (nx s h)
theorem rc_mono {nx : Nat → Nat → Nat} {n p s : Nat} (h : rcN nx n p s) : ∀ d, rcN nx n (p + d) s
  | 0 => h
  | d + 1 => Or.inl (rc_mono h d)
def fwS (t : Nat → Nat) (nx : Nat → Nat → Nat) (s : Nat) : Nat → Nat
  | 0 => t s
  | h + 1 => min (t (nx s h) + 1) (fwS t nx s h)
theorem fwS_le (t : Nat → Nat) (nx : Nat → Nat → Nat) (s : Nat) : ∀ k, fwS t nx s k ≤ t s
  | 0 => Nat.le_refl _
  | k + 1 => by
    have := fwS_le t nx s k
    unfold fwS
    omega
theorem fwS_nx (t : Nat → Nat) (nx : Nat → Nat → Nat) (s : Nat) {h : Nat} : ∀ {k}, h < k → fwS t nx s k ≤ t (nx s h) + 1
  | 0, hh => absurd hh (Nat.not_lt_zero _)
  | k + 1, hh => by
    unfold fwS
    by_cases q : h = k
    · rw [q]
      omega
    · have := fwS_nx t nx s (h := h) (k := k) (by omega)
      omega
theorem fwS_at (t : Nat → Nat) (nx : Nat → Nat → Nat) (s : Nat) : ∀ k, fwS t nx s k = t s ∨ ∃ h, h < k ∧ fwS t nx s k = t (nx s h) + 1
  | 0 => Or.inl rfl
  | k + 1 => by
    have ih := fwS_at t nx s k
    unfold fwS
    by_cases q : t (nx s k) + 1 < fwS t nx s k
    · exact Or.inr ⟨k, by omega, by omega⟩
    · rw [Nat.min_eq_right (by omega)]
      rcases ih with h | ⟨h, h1, h2⟩
      · exact Or.inl h
      · exact Or.inr ⟨h, by omega, h2⟩
section
variable {q : Nat → Nat} {n : Nat}
def okT (n : Nat) (t : Nat → Nat) (C : mT) : Prop := ∀ s, s < 2 ^ n → t s ≤ 1000000 ∧ C.1 107 s = nI (t s)
theorem c_fw9 (hn : n ≤ 5) {C : mT} (h : okB q n C) {t : Nat → Nat} (ht : okT n t C) {s : Nat} (hs : s < 2 ^ n) : ∀ (m g k : Nat), g + m = n → m < k → fX6_fewestFrom_9 k (nI s) (nI (fwS t (nxN q n) s g)) (nI g) C = some (nI (fwS t (nxN q n) s n), C)
  | 0, g, k, hg, hk => by
    obtain ⟨k', rfl⟩ := up1 hk
    have hg : g = n := by omega
    subst hg
    have c : nI g ≤ nI g := Int32.le_refl _
    simp only [fX6_fewestFrom_9, kO_100, g_t, b_d, b_c, b_v, Bool.and_true, Bool.and_self, Bool.true_and, h.1, if_pos c]
  | m + 1, g, k, hg, hk => by
    obtain ⟨k', rfl⟩ := up1 hk
    have hp := p32 hn
    have c : ¬ nI n ≤ nI g := fun y => by have := (xLe (by omega) (by omega)).mp y; omega
    have o1 : nI g + (1 : Int32) = nI (g + 1) := nI_add g 1
    have ak := c_ak hn h (s := s) (g := g) (by omega) (by omega)
    have hl := nxN_lt (q := q) hn s (h := g) (by omega)
    obtain ⟨t1, t2⟩ := ht _ hl
    have t3 := (ht s hs).1
    have f1 := fwS_le t (nxN q n) s g
    have o2 : nI (t (nxN q n s g)) + (1 : Int32) = nI (t (nxN q n s g) + 1) := nI_add _ 1
    have o3 := nmin (a := t (nxN q n s g) + 1) (c := fwS t (nxN q n) s g) (by omega) (by omega)
    have o4 : min (t (nxN q n s g) + 1) (fwS t (nxN q n) s g) = fwS t (nxN q n) s (g + 1) := rfl
    rw [← c_fw9 hn h ht hs m (g + 1) k' (by omega) (by omega)]
    simp (disch := omega) only [fX6_fewestFrom_9, kO_100, kI_107, g_t, b_d, b_c, b_v, Bool.and_true, Bool.and_self, Bool.true_and, h.1, if_neg c, ak, xIx, xIn, t2, o2, o3, o4, o1]
theorem c_fw (hn : n ≤ 5) {C : mT} (h : okB q n C) {t : Nat → Nat} (ht : okT n t C) {s : Nat} (hs : s < 2 ^ n) : fX6_fewestFrom (nI s) C = some (nI (fwS t (nxN q n) s n), C) := by
  have hp := p32 hn
  have := c_fw9 hn h ht hs n 0 mK (by omega) (by have := mK_gt; omega)
  have this' : fX6_fewestFrom_9 mK (nI s) (nI (t s)) (0 : Int32) C = _ := this
  unfold fX6_fewestFrom
  simp (disch := omega) only [kO_100, kI_107, g_t, b_d, b_c, b_v, Bool.and_true, Bool.and_self, Bool.true_and, xIx, xIn, (ht s hs).2, this']
def sdT (nx : Nat → Nat → Nat) (n : Nat) (t : Nat → Nat) : Prop := ∀ x, x < 2 ^ n → t x = 1000000 ∨ rcN nx n (t x) x
theorem c_cs34 (hn : n ≤ 5) {t0 : Nat → Nat} (rc : Int32 → Int32 → mT → Option mT) (p : Nat) : ∀ (m s k : Nat) (f : Int32) (t : Nat → Nat) (C : mT), s + m = 2 ^ n → m < k → 1 ≤ s → okB q n C → okT n t C → sdT (nxN q n) n t → (∀ x, x < 2 ^ n → t x ≤ t0 x) → (∀ x, 1 ≤ x → x < s → ∀ g, g < n → t x ≤ t0 (nxN q n x g) + 1) → (f = 0 ∨ f = 1) → (f = 0 → ∀ x, x < 2 ^ n → t x = t0 x) → ∃ f' t' C', fX6_countSteps_34 rc k f (nI p) (nI s) C = rc f' (nI (p + 1)) C' ∧ okB q n C' ∧ okT n t' C' ∧ sdT (nxN q n) n t' ∧ (∀ x, x < 2 ^ n → t' x ≤ t0 x) ∧ (∀ x, 1 ≤ x → x < 2 ^ n → ∀ g, g < n → t' x ≤ t0 (nxN q n x g) + 1) ∧ (f' = 0 ∨ f' = 1) ∧ (f' = 0 → ∀ x, x < 2 ^ n → t' x = t0 x) ∧ ∀ a j, a ≠ 107 → C'.1 a j = C.1 a j
  | 0, s, k, f, t, C, hs, hk, h1, hB, ht, hsd, hle, hfx, hf, hf0 => by
    obtain ⟨k', rfl⟩ := up1 hk
    have hs : s = 2 ^ n := by omega
    subst hs
    have c : nI (2 ^ n) ≤ nI (2 ^ n) := Int32.le_refl _
    have o1 : nI p + (1 : Int32) = nI (p + 1) := nI_add p 1
    exact ⟨f, t, C, by simp only [fX6_countSteps_34, kO_100, g_t, b_d, b_c, b_v, Bool.and_true, Bool.and_self, Bool.true_and, hB.1, shl1 n (by omega), if_pos c, o1], hB, ht, hsd, hle, hfx, hf, hf0, fun _ _ _ => rfl⟩
  | m + 1, s, k, f, t, C, hs, hk, h1, hB, ht, hsd, hle, hfx, hf, hf0 => by
    obtain ⟨k', rfl⟩ := up1 hk
    have hp := p32 hn
    have c : ¬ nI (2 ^ n) ≤ nI s := fun y => by have := (xLe (by omega) (by omega)).mp y; omega
    have o1 : nI s + (1 : Int32) = nI (s + 1) := nI_add s 1
    have fw := c_fw hn hB ht (s := s) (by omega)
    have w1 := fwS_le t (nxN q n) s n
    have w2 := fun g (hg : g < n) => fwS_nx t (nxN q n) s hg
    have w3 := fwS_at t (nxN q n) s n
    obtain ⟨t1, t2⟩ := ht s (by omega)
    have hsd' : fwS t (nxN q n) s n = 1000000 ∨ rcN (nxN q n) n (fwS t (nxN q n) s n) s := by
      rcases w3 with e | ⟨g, g1, g2⟩
      · rw [e]
        exact hsd s (by omega)
      · rcases hsd _ (nxN_lt (q := q) hn s g1) with e | e
        · exfalso
          omega
        · right
          rw [g2]
          exact Or.inr ⟨g, g1, e⟩
    generalize hb : fwS t (nxN q n) s n = best at *
    have nx' : ∀ f' : Int32, (f' = 0 ∨ f' = 1) → (f' = 0 → best = t s ∧ f = 0) → ∃ f'' t' C', fX6_countSteps_34 rc k' f' (nI p) (nI (s + 1)) (sI C 107 s (nI best)) = rc f'' (nI (p + 1)) C' ∧ okB q n C' ∧ okT n t' C' ∧ sdT (nxN q n) n t' ∧ (∀ x, x < 2 ^ n → t' x ≤ t0 x) ∧ (∀ x, 1 ≤ x → x < 2 ^ n → ∀ g, g < n → t' x ≤ t0 (nxN q n x g) + 1) ∧ (f'' = 0 ∨ f'' = 1) ∧ (f'' = 0 → ∀ x, x < 2 ^ n → t' x = t0 x) ∧ ∀ a j, a ≠ 107 → C'.1 a j = (sI C 107 s (nI best)).1 a j := fun f' hf' hf0' => by
      refine c_cs34 hn rc p m (s + 1) k' f' (fun x => if x = s then best else t x) (sI C 107 s (nI best)) (by omega) (by omega) (by omega) ⟨by rw [sI_ne (by omega)]; exact hB.1, fun x hx => by rw [sI_ne (by omega)]; exact hB.2 x hx⟩ (fun x hx => ?_) (fun x hx => ?_) (fun x hx => ?_) (fun x h2 h3 g hg => ?_) hf' (fun z x hx => ?_)
      · by_cases u : x = s
        · subst u
          simp only [if_true, sI_eq]
          exact ⟨by omega, trivial⟩
        · simp only [if_neg u]
          rw [sI_ne (by omega)]
          exact ht x hx
      · by_cases u : x = s
        · subst u
          simp only [if_true]
          exact hsd'
        · simp only [if_neg u]
          exact hsd x hx
      · have := hle x hx
        by_cases u : x = s
        · subst u
          simp only [if_true]
          omega
        · simp only [if_neg u]
          exact this
      · by_cases u : x = s
        · subst u
          simp only [if_true]
          have a1 := w2 g hg
          have a2 := hle _ (nxN_lt (q := q) hn x hg)
          omega
        · simp only [if_neg u]
          exact hfx x h2 (by omega) g hg
      · obtain ⟨z1, z2⟩ := hf0' z
        by_cases u : x = s
        · subst u
          simp only [if_true]
          rw [z1]
          exact hf0 z2 x hx
        · simp only [if_neg u]
          exact hf0 z2 x hx
    by_cases z : t s ≤ best
    · have z' : nI (t s) ≤ nI best := (xLe (by omega) (by omega)).mpr z
      have of : f ||| (0 : Int32) = f := by
        rcases hf with e | e <;> rw [e] <;> decide
      obtain ⟨f'', t', C', r1, r2, r3, r4, r5, r6, r7, r8, r9⟩ := nx' f hf (fun e => ⟨by omega, e⟩)
      refine ⟨f'', t', C', ?_, r2, r3, r4, r5, r6, r7, r8, fun a j g => by rw [r9 a j g, sI_ne (by omega)]⟩
      rw [← r1]
      simp (disch := omega) only [fX6_countSteps_34, fX6_countSteps_68, kO_100, kI_107, g_t, b_d, b_c, b_v, Bool.and_true, Bool.and_self, Bool.true_and, hB.1, shl1 n (by omega), if_neg c, fw, xIx, xIn, t2, if_pos z', of, o1]
    · have z' : ¬ nI (t s) ≤ nI best := fun y => z ((xLe (by omega) (by omega)).mp y)
      have of : f ||| (1 : Int32) = 1 := by
        rcases hf with e | e <;> rw [e] <;> decide
      obtain ⟨f'', t', C', r1, r2, r3, r4, r5, r6, r7, r8, r9⟩ := nx' 1 (Or.inr rfl) (fun e => absurd e (by decide))
      refine ⟨f'', t', C', ?_, r2, r3, r4, r5, r6, r7, r8, fun a j g => by rw [r9 a j g, sI_ne (by omega)]⟩
      rw [← r1]
      simp (disch := omega) only [fX6_countSteps_34, fX6_countSteps_68, kO_100, kI_107, g_t, b_d, b_c, b_v, Bool.and_true, Bool.and_self, Bool.true_and, hB.1, shl1 n (by omega), if_neg c, fw, xIx, xIn, t2, if_neg z', of, o1]
theorem c_cs20 (hn : n ≤ 5) : ∀ (m p k : Nat) (f : Int32) (t : Nat → Nat) (C : mT), p + m = 32 → m < k → okB q n C → okT n t C → sdT (nxN q n) n t → (∀ r, r ≤ p → ∀ x, x < 2 ^ n → rcN (nxN q n) n r x → t x ≤ r) → (f = 0 ∨ f = 1) → (f = 0 → ∀ r x, x < 2 ^ n → rcN (nxN q n) n r x → t x ≤ r) → ∃ t' C', fX6_countSteps_20 k f (nI p) C = some C' ∧ okB q n C' ∧ okT n t' C' ∧ sdT (nxN q n) n t' ∧ (∀ r, r ≤ 32 → ∀ x, x < 2 ^ n → rcN (nxN q n) n r x → t' x ≤ r) ∧ ∀ a j, a ≠ 107 → C'.1 a j = C.1 a j
  | 0, p, k, f, t, C, hp, hk, hB, ht, hsd, hc, hf, hf0 => by
    obtain ⟨k', rfl⟩ := up1 hk
    have hp : p = 32 := by omega
    subst hp
    have c : (32 : Int32) ≤ nI 32 := by decide
    exact ⟨t, C, by simp only [fX6_countSteps_20, fX6_countSteps_90, if_pos c], hB, ht, hsd, hc, fun _ _ _ => rfl⟩
  | m + 1, p, k, f, t, C, hp, hk, hB, ht, hsd, hc, hf, hf0 => by
    obtain ⟨k', rfl⟩ := up1 hk
    have c : ¬ (32 : Int32) ≤ nI p := fun y => by have := (xLe (a := 32) (by omega) (by omega)).mp y; omega
    have hp32 := p32 hn
    have hp1 : 1 ≤ 2 ^ n := Nat.one_le_two_pow
    rcases hf with e | e
    · exact ⟨t, C, by simp only [fX6_countSteps_20, fX6_countSteps_90, if_neg c, if_pos e], hB, ht, hsd, fun r _ => hf0 e r, fun _ _ _ => rfl⟩
    · have e0 : ¬ f = 0 := by rw [e]; decide
      obtain ⟨f', t', C1, r1, r2, r3, r4, r5, r6, r7, r8, r9⟩ := c_cs34 (q := q) hn (t0 := t) (fX6_countSteps_20 k') p (2 ^ n - 1) 1 mK 0 t C (by omega) (by have := mK_gt; omega) (Nat.le_refl _) hB ht hsd (fun _ _ => Nat.le_refl _) (fun x h1 h2 => by omega) (Or.inl rfl) (fun _ _ _ => rfl)
      have t00 : t 0 = 0 := by
        have := hc 0 (by omega) 0 (by omega) rfl
        omega
      obtain ⟨t'', C', s1, s2, s3, s4, s5, s6⟩ := c_cs20 hn m (p + 1) k' f' t' C1 (by omega) (by omega) r2 r3 r4 (fun r hr x hx hR => by
        have a1 := r5 x hx
        by_cases u : r ≤ p
        · have := hc r u x hx hR
          omega
        · have hr' : r = p + 1 := by omega
          subst hr'
          rcases hR with hR | ⟨g, g1, g2⟩
          · have := hc p (by omega) x hx hR
            omega
          · by_cases v : x = 0
            · rw [v] at a1 ⊢
              omega
            · have a2 := r6 x (by omega) hx g g1
              have a3 := hc p (by omega) _ (nxN_lt hn x g1) g2
              omega) r7 (fun z => by
        have hz := r8 z
        intro r
        induction r with
        | zero =>
          intro x hx hR
          have hR' : x = 0 := hR
          rw [hz x hx, hR']
          omega
        | succ r ih =>
          intro x hx hR
          rcases hR with hR | ⟨g, g1, g2⟩
          · have := ih x hx hR
            omega
          · by_cases v : x = 0
            · rw [hz x hx, v]
              omega
            · have a2 := r6 x (by omega) hx g g1
              have a3 := ih _ (nxN_lt hn x g1) g2
              have a4 := hz _ (nxN_lt (q := q) hn x g1)
              omega)
      refine ⟨t'', C', ?_, s2, s3, s4, s5, fun a j g => by rw [s6 a j g, r9 a j g]⟩
      rw [← s1, ← r1]
      have : fX6_countSteps_20 (k' + 1) f (nI p) C = fX6_countSteps_34 (fX6_countSteps_20 k') mK (0 : Int32) (nI p) (1 : Int32) C := by simp only [fX6_countSteps_20, if_neg c, if_neg e0]
      rw [this]
      rfl
theorem c_cs (hn : n ≤ 5) {C : mT} (hB : okB q n C) : ∃ t C', fX6_countSteps C = some C' ∧ okB q n C' ∧ okT n t C' ∧ sdT (nxN q n) n t ∧ (∀ r, r ≤ 32 → ∀ x, x < 2 ^ n → rcN (nxN q n) n r x → t x ≤ r) ∧ ∀ a j, a ≠ 107 → C'.1 a j = C.1 a j := by
  have hp := p32 hn
  obtain ⟨C1, f1, f2, f3⟩ := s_fill s_107 (by decide +kernel) (by omega) (1000000 : Int32) C
  obtain ⟨t, C', r1, r2, r3, r4, r5, r6⟩ := c_cs20 (q := q) hn 32 0 mK 1 (fun x => if x = 0 then 0 else 1000000) (sI C1 107 0 (nI 0)) (by omega) (by have := mK_gt; omega) ⟨by rw [sI_ne (by omega), f3 _ _ (by omega)]; exact hB.1, fun x hx => by rw [sI_ne (by omega), f3 _ _ (by omega)]; exact hB.2 x hx⟩ (fun s hs => by
    by_cases u : s = 0
    · subst u
      simp only [if_true, sI_eq]
      exact ⟨by omega, trivial⟩
    · simp only [if_neg u]
      rw [sI_ne (by omega)]
      exact ⟨by omega, f2 s (by omega)⟩) (fun x _ => by
    by_cases u : x = 0
    · subst u
      exact Or.inr rfl
    · exact Or.inl (if_neg u)) (fun r hr x hx hR => by
    have : r = 0 := by omega
    subst this
    have hR' : x = 0 := hR
    subst hR'
    exact Nat.le_refl _) (Or.inr rfl) (fun e => absurd e (by decide))
  refine ⟨t, C', ?_, r2, r3, r4, r5, fun a j g => by rw [r6 a j g, sI_ne (by omega), f3 _ _ g]⟩
  rw [← r1]
  have k0 : kI 107 (0 : Int32) = true := by rw [kI_107]; decide
  unfold fX6_countSteps
  rw [kO_100, f1, k0]
  rfl
end
