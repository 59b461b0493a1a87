/-! LEAVE: rows of hidden ones, as numbers to the base 8. -/
def tS (t : Nat → Nat → Nat) : Nat → Nat → Nat → Nat
  | 0, _, _ => 0
  | m + 1, i, c => t i (c / 8 ^ m) + tS t m (i + 1) (c % 8 ^ m)
def mS : Nat → Nat → Nat
  | 0, _ => 0
  | m + 1, c => c / 8 ^ m + mS m (c % 8 ^ m)
def chv (f g : Nat → Nat) (a : Nat) : Nat → Nat
  | 0 => 1000000
  | v + 1 => if v ≤ a then min (f v + g (a - v)) (chv f g a v) else chv f g a v
def ch (t : Nat → Nat → Nat) : Nat → Nat → Nat → Nat
  | 0, _, a => if a = 0 then 0 else 1000000
  | m + 1, i, a => chv (t i) (ch t m (i + 1)) a 8
theorem chv_le (f g : Nat → Nat) (a : Nat) : ∀ k, chv f g a k ≤ 1000000
  | 0 => Nat.le_refl _
  | k + 1 => by
    have := chv_le f g a k
    unfold chv
    split
    · omega
    · exact this
theorem ch_le (t : Nat → Nat → Nat) : ∀ m i a, ch t m i a ≤ 1000000
  | 0, i, a => by
    unfold ch
    split
    · omega
    · omega
  | m + 1, i, a => chv_le _ _ _ _
theorem chv_iff {f g : Nat → Nat} {a T : Nat} (hT : T < 1000000) : ∀ k, chv f g a k ≤ T ↔ ∃ v, v < k ∧ v ≤ a ∧ f v + g (a - v) ≤ T
  | 0 => by
    constructor
    · intro h
      have : chv f g a 0 = 1000000 := rfl
      omega
    · rintro ⟨v, hv, _⟩
      omega
  | k + 1 => by
    have ih := chv_iff (f := f) (g := g) (a := a) hT k
    unfold chv
    by_cases c : k ≤ a
    · rw [if_pos c]
      constructor
      · intro h
        by_cases q : f k + g (a - k) ≤ T
        · exact ⟨k, by omega, c, q⟩
        · obtain ⟨v, h1, h2, h3⟩ := ih.mp (by omega)
          exact ⟨v, by omega, h2, h3⟩
      · rintro ⟨v, h1, h2, h3⟩
        by_cases q : v = k
        · subst q
          omega
        · have := ih.mpr ⟨v, by omega, h2, h3⟩
          omega
    · rw [if_neg c, ih]
      constructor
      · rintro ⟨v, h1, h2, h3⟩
        exact ⟨v, by omega, h2, h3⟩
      · rintro ⟨v, h1, h2, h3⟩
        exact ⟨v, by omega, h2, h3⟩
theorem dv8 {v c m : Nat} (hc : c < 8 ^ m) : (v * 8 ^ m + c) / 8 ^ m = v ∧ (v * 8 ^ m + c) % 8 ^ m = c := by
  have h0 : 0 < 8 ^ m := Nat.pow_pos (by omega)
  constructor
  · rw [Nat.add_comm, Nat.add_mul_div_right _ _ h0, Nat.div_eq_of_lt hc, Nat.zero_add]
  · rw [Nat.add_comm, Nat.add_mul_mod_self_right, Nat.mod_eq_of_lt hc]
theorem dv8' {c m : Nat} (hc : c < 8 ^ (m + 1)) : c / 8 ^ m < 8 ∧ c % 8 ^ m < 8 ^ m ∧ c = c / 8 ^ m * 8 ^ m + c % 8 ^ m := by
  have h0 : 0 < 8 ^ m := Nat.pow_pos (by omega)
  refine ⟨?_, Nat.mod_lt _ h0, ?_⟩
  · rw [Nat.div_lt_iff_lt_mul h0]
    rw [Nat.pow_succ, Nat.mul_comm] at hc
    exact hc
  · have := Nat.div_add_mod c (8 ^ m)
    rw [Nat.mul_comm] at this
    exact this.symm
theorem ch_iff (t : Nat → Nat → Nat) {T : Nat} (hT : T < 1000000) : ∀ m i a, ∀ T, T < 1000000 → (ch t m i a ≤ T ↔ ∃ c, c < 8 ^ m ∧ mS m c = a ∧ tS t m i c ≤ T)
  | 0, i, a, T, hT => by
    unfold ch
    constructor
    · intro h
      by_cases q : a = 0
      · exact ⟨0, by decide, q.symm, Nat.zero_le _⟩
      · rw [if_neg q] at h
        omega
    · rintro ⟨c, _, h2, _⟩
      have : a = 0 := h2.symm
      rw [if_pos this]
      exact Nat.zero_le _
  | m + 1, i, a, T, hT => by
    show chv (t i) (ch t m (i + 1)) a 8 ≤ T ↔ _
    rw [chv_iff hT]
    constructor
    · rintro ⟨v, h1, h2, h3⟩
      obtain ⟨c, g1, g2, g3⟩ := (ch_iff t hT m (i + 1) (a - v) (T - t i v) (by omega)).mp (by omega)
      obtain ⟨d1, d2⟩ := dv8 (v := v) g1
      refine ⟨v * 8 ^ m + c, ?_, ?_, ?_⟩
      · have h8 : (v + 1) * 8 ^ m ≤ 8 * 8 ^ m := Nat.mul_le_mul_right _ (by omega)
        rw [Nat.add_mul, Nat.one_mul] at h8
        rw [Nat.pow_succ, Nat.mul_comm (8 ^ m) 8]
        omega
      · unfold mS
        rw [d1, d2]
        omega
      · unfold tS
        rw [d1, d2]
        omega
    · rintro ⟨c, g1, g2, g3⟩
      obtain ⟨d1, d2, _⟩ := dv8' g1
      unfold mS at g2
      unfold tS at g3
      have := (ch_iff t hT m (i + 1) (a - c / 8 ^ m) (T - t i (c / 8 ^ m)) (by omega)).mpr ⟨c % 8 ^ m, d2, by omega, by omega⟩
      exact ⟨c / 8 ^ m, d1, by omega, by omega⟩
/-- the first that fits -/
def ff (f g : Nat → Nat) (a L : Nat) : Nat → Nat → Nat
  | 0, _ => min a 7
  | k + 1, v => if 7 ≤ v then min a 7 else if a ≤ v then min a 7 else if L < f v + g (a - v) then ff f g a L k (v + 1) else v
def pk (t : Nat → Nat → Nat) : Nat → Nat → Nat → Nat → Nat
  | 0, _, _, _ => 0
  | m + 1, i, a, L => ff (t i) (ch t m (i + 1)) a L 8 0 * 8 ^ m + pk t m (i + 1) (a - ff (t i) (ch t m (i + 1)) a L 8 0) (L - t i (ff (t i) (ch t m (i + 1)) a L 8 0))
theorem ff_spec {f g : Nat → Nat} {a L : Nat} (hex : ∃ v, v < 8 ∧ v ≤ a ∧ f v + g (a - v) ≤ L) : ∀ k v, v + k = 8 → (∀ w, w < v → ¬ (w ≤ a ∧ f w + g (a - w) ≤ L)) → ff f g a L k v < 8 ∧ ff f g a L k v ≤ a ∧ f (ff f g a L k v) + g (a - ff f g a L k v) ≤ L ∧ ∀ w, w < ff f g a L k v → ¬ (w ≤ a ∧ f w + g (a - w) ≤ L)
  | 0, v, hk, hn => by
    obtain ⟨x, h1, h2, h3⟩ := hex
    exact absurd ⟨h2, h3⟩ (hn x (by omega))
  | k + 1, v, hk, hn => by
    unfold ff
    have fin : 7 ≤ v ∨ a ≤ v → min a 7 < 8 ∧ min a 7 ≤ a ∧ f (min a 7) + g (a - min a 7) ≤ L ∧ ∀ w, w < min a 7 → ¬ (w ≤ a ∧ f w + g (a - w) ≤ L) := fun hc => by
      obtain ⟨x, h1, h2, h3⟩ := hex
      have hx : x = min a 7 := by
        rcases Nat.lt_or_ge x v with q | q
        · exact absurd ⟨h2, h3⟩ (hn x q)
        · omega
      subst hx
      exact ⟨h1, h2, h3, fun w hw => hn w (by omega)⟩
    by_cases c1 : 7 ≤ v
    · rw [if_pos c1]
      exact fin (Or.inl c1)
    · rw [if_neg c1]
      by_cases c2 : a ≤ v
      · rw [if_pos c2]
        exact fin (Or.inr c2)
      · rw [if_neg c2]
        by_cases c3 : L < f v + g (a - v)
        · rw [if_pos c3]
          exact ff_spec hex k (v + 1) (by omega) (fun w hw => by
            by_cases q : w = v
            · subst q
              omega
            · exact hn w (by omega))
        · rw [if_neg c3]
          exact ⟨by omega, by omega, by omega, hn⟩
theorem pk_spec (t : Nat → Nat → Nat) : ∀ m i a L, L < 1000000 → (∃ c, c < 8 ^ m ∧ mS m c = a ∧ tS t m i c ≤ L) → pk t m i a L < 8 ^ m ∧ mS m (pk t m i a L) = a ∧ tS t m i (pk t m i a L) ≤ L ∧ ∀ c, c < pk t m i a L → mS m c = a → ¬ tS t m i c ≤ L
  | 0, i, a, L, hL, hex => by
    obtain ⟨c, h1, h2, h3⟩ := hex
    exact ⟨(show 0 < 8 ^ 0 by decide), h2, Nat.zero_le _, fun c hc => absurd hc (Nat.not_lt_zero _)⟩
  | m + 1, i, a, L, hL, hex => by
    have h1 := (ch_iff t hL (m + 1) i a L hL).mpr hex
    have h2 := (chv_iff hL 8).mp h1
    obtain ⟨q1, q2, q3, q4⟩ := ff_spec h2 8 0 (by omega) (fun w hw => absurd hw (Nat.not_lt_zero _))
    unfold pk
    generalize ff (t i) (ch t m (i + 1)) a L 8 0 = v at q1 q2 q3 q4 ⊢
    have h3 := (ch_iff t hL m (i + 1) (a - v) (L - t i v) (by omega)).mp (by omega)
    obtain ⟨p1, p2, p3, p4⟩ := pk_spec t m (i + 1) (a - v) (L - t i v) (by omega) h3
    generalize pk t m (i + 1) (a - v) (L - t i v) = x at p1 p2 p3 p4 ⊢
    obtain ⟨d1, d2⟩ := dv8 (v := v) p1
    have h8 : (v + 1) * 8 ^ m ≤ 8 * 8 ^ m := Nat.mul_le_mul_right _ (by omega)
    rw [Nat.add_mul, Nat.one_mul] at h8
    refine ⟨?_, ?_, ?_, fun c hc hm ht => ?_⟩
    · rw [Nat.pow_succ, Nat.mul_comm (8 ^ m) 8]
      omega
    · unfold mS
      rw [d1, d2]
      omega
    · unfold tS
      rw [d1, d2]
      omega
    · have hc8 : c < 8 ^ (m + 1) := by
        rw [Nat.pow_succ, Nat.mul_comm (8 ^ m) 8]
        omega
      obtain ⟨e1, e2, e3⟩ := dv8' hc8
      unfold mS at hm
      unfold tS at ht
      have hle : c / 8 ^ m ≤ v := by
        rcases Nat.lt_or_ge v (c / 8 ^ m) with z | z
        · have : (v + 1) * 8 ^ m ≤ c / 8 ^ m * 8 ^ m := Nat.mul_le_mul_right _ z
          rw [Nat.add_mul, Nat.one_mul] at this
          omega
        · exact z
      by_cases q : c / 8 ^ m = v
      · rw [q] at e3 hm ht
        exact p4 (c % 8 ^ m) (by omega) (by omega) (by omega)
      · refine q4 (c / 8 ^ m) (by omega) ⟨by omega, ?_⟩
        have := (ch_iff t hL m (i + 1) (a - c / 8 ^ m) (L - t i (c / 8 ^ m)) (by omega)).mpr ⟨c % 8 ^ m, e2, by omega, by omega⟩
        omega
/-- the best of the first W rows: none, or how many are hidden and which row -/
def bst (f g : Nat → Nat) (T : Nat) : Nat → Option (Nat × Nat)
  | 0 => none
  | W + 1 => match bst f g T W with
    | none => if f W ≤ T then some (g W, W) else none
    | some (a, w) => if f W ≤ T ∧ g W < a then some (g W, W) else some (a, w)
theorem bst_spec (f g : Nat → Nat) (T : Nat) : ∀ W, (bst f g T W = none ∧ ∀ w, w < W → ¬ f w ≤ T) ∨ ∃ a w, bst f g T W = some (a, w) ∧ w < W ∧ f w ≤ T ∧ g w = a ∧ (∀ w', w' < W → f w' ≤ T → a ≤ g w') ∧ ∀ w', w' < w → f w' ≤ T → a < g w'
  | 0 => Or.inl ⟨rfl, fun w hw => absurd hw (Nat.not_lt_zero _)⟩
  | W + 1 => by
    rcases bst_spec f g T W with ⟨h1, h2⟩ | ⟨a, w, h1, h2, h3, h4, h5, h6⟩
    · unfold bst
      rw [h1]
      by_cases c : f W ≤ T
      · refine Or.inr ⟨g W, W, if_pos c, by omega, c, rfl, fun w' hw' hf => ?_, fun w' hw' hf => absurd hf (h2 w' hw')⟩
        by_cases q : w' = W
        · rw [q]
          exact Nat.le_refl _
        · exact absurd hf (h2 w' (by omega))
      · refine Or.inl ⟨if_neg c, fun w hw => ?_⟩
        by_cases q : w = W
        · rw [q]
          exact c
        · exact h2 w (by omega)
    · unfold bst
      rw [h1]
      by_cases c : f W ≤ T ∧ g W < a
      · refine Or.inr ⟨g W, W, if_pos c, by omega, c.1, rfl, fun w' hw' hf => ?_, fun w' hw' hf => ?_⟩
        · by_cases q : w' = W
          · rw [q]
            exact Nat.le_refl _
          · have := h5 w' (by omega) hf
            omega
        · have := h5 w' (by omega) hf
          omega
      · refine Or.inr ⟨a, w, if_neg c, by omega, h3, h4, fun w' hw' hf => ?_, h6⟩
        by_cases q : w' = W
        · subst q
          rcases Nat.lt_or_ge (g w') a with z | z
          · exact absurd ⟨hf, z⟩ c
          · exact z
        · exact h5 w' (by omega) hf
theorem mS_le : ∀ m c, c < 8 ^ m → mS m c ≤ 7 * m
  | 0, _, _ => Nat.le_refl _
  | m + 1, c, hc => by
    obtain ⟨d1, d2, _⟩ := dv8' hc
    have := mS_le m _ d2
    unfold mS
    omega
/-- the class's way to the same -/
theorem leave_eq (t : Nat → Nat → Nat) {n T : Nat} (hn : n ≤ 5) (hT : T < 1000000) : (∀ a, a ≤ 35 → ¬ ch t n 0 a ≤ T) ∧ bst (tS t n 0) (mS n) T (8 ^ n) = none ∨ ∃ a, a ≤ 35 ∧ ch t n 0 a ≤ T ∧ (∀ a', a' < a → ¬ ch t n 0 a' ≤ T) ∧ pk t n 0 a T < 8 ^ n ∧ bst (tS t n 0) (mS n) T (8 ^ n) = some (a, pk t n 0 a T) := by
  rcases bst_spec (tS t n 0) (mS n) T (8 ^ n) with ⟨h1, h2⟩ | ⟨a, w, h1, h2, h3, h4, h5, h6⟩
  · refine Or.inl ⟨fun a _ hc => ?_, h1⟩
    obtain ⟨c, g1, g2, g3⟩ := (ch_iff t hT n 0 a T hT).mp hc
    exact h2 c g1 g3
  · have ha : a ≤ 35 := by
      have := mS_le n w h2
      omega
    have hex : ∃ c, c < 8 ^ n ∧ mS n c = a ∧ tS t n 0 c ≤ T := ⟨w, h2, h4, h3⟩
    obtain ⟨p1, p2, p3, p4⟩ := pk_spec t n 0 a T hT hex
    refine Or.inr ⟨a, ha, (ch_iff t hT n 0 a T hT).mpr hex, fun a' ha' hc => ?_, p1, ?_⟩
    · obtain ⟨c, g1, g2, g3⟩ := (ch_iff t hT n 0 a' T hT).mp hc
      have := h5 c g1 g3
      omega
    · have : w = pk t n 0 a T := by
        rcases Nat.lt_trichotomy w (pk t n 0 a T) with q | q | q
        · exact absurd h3 (p4 w q h4)
        · exact q
        · have := h6 _ q p3
          omega
      rw [h1, this]
