/-! TRUTHS: counts over blocks of rows. -/
def cB (P : Nat → Bool) (lo : Nat) : Nat → Nat
  | 0 => 0
  | k + 1 => if P (lo + k) = true then cB P lo k + 1 else cB P lo k
theorem cB_le (P : Nat → Bool) (lo : Nat) : ∀ k, cB P lo k ≤ k
  | 0 => Nat.le_refl _
  | k + 1 => by
    have := cB_le P lo k
    unfold cB
    split
    · omega
    · omega
theorem cB_add (P : Nat → Bool) (lo a : Nat) : ∀ b, cB P lo (a + b) = cB P lo a + cB P (lo + a) b
  | 0 => rfl
  | b + 1 => by
    have ih := cB_add P lo a b
    show (if P (lo + (a + b)) = true then cB P lo (a + b) + 1 else cB P lo (a + b)) = cB P lo a + (if P (lo + a + b) = true then cB P (lo + a) b + 1 else cB P (lo + a) b)
    rw [ih, show lo + (a + b) = lo + a + b by omega]
    split
    · omega
    · rfl
theorem cB_cN (P : Nat → Bool) : ∀ k, cB P 0 k = cN P k
  | 0 => rfl
  | k + 1 => by
    unfold cB cN
    rw [cB_cN P k, Nat.zero_add]
theorem cB_congr {P Q : Nat → Bool} {lo : Nat} : ∀ {k : Nat}, (∀ x, x < k → P (lo + x) = Q (lo + x)) → cB P lo k = cB Q lo k
  | 0, _ => rfl
  | k + 1, h => by
    unfold cB
    rw [cB_congr (k := k) (fun x hx => h x (by omega)), h k (by omega)]
theorem cB_no {P : Nat → Bool} {lo : Nat} : ∀ {k : Nat}, (∀ x, x < k → P (lo + x) = false) → cB P lo k = 0
  | 0, _ => rfl
  | k + 1, h => by
    unfold cB
    rw [cB_no (k := k) (fun x hx => h x (by omega)), h k (by omega)]
    rfl
theorem cB_all {P : Nat → Bool} {lo : Nat} : ∀ {k : Nat}, (∀ x, x < k → P (lo + x) = true) → cB P lo k = k
  | 0, _ => rfl
  | k + 1, h => by
    unfold cB
    rw [cB_all (k := k) (fun x hx => h x (by omega)), h k (by omega)]
    rfl
/-- the digits of a row are those of its prefix -/
theorem dg8_pre {h m p y i : Nat} (hy : y < 8 ^ m) (hi : i < h) : dg8 (h + m) (p * 8 ^ m + y) i = dg8 h p i := by
  unfold dg8
  rw [show h + m - 1 - i = m + (h - 1 - i) by omega, Nat.pow_add, ← Nat.div_div_eq_div_mul, (dv8 hy).1]
theorem sSet_pre {n w h p : Nat} {s : Nat} : ∀ k, (∀ i, i < k → dg8 n w i = dg8 h p i) → sSet n w s k = sSet h p s k
  | 0, _ => rfl
  | k + 1, hd => by
    unfold sSet
    rw [sSet_pre k (fun i hi => hd i (by omega)), hd k (by omega)]
/-- houses beyond the set add nothing -/
theorem sSet_top {n w s k : Nat} (hs : s < 2 ^ k) : ∀ d, sSet n w s (k + d) = sSet n w s k
  | 0 => rfl
  | d + 1 => by
    have h0 : s / 2 ^ (k + d) = 0 := Nat.div_eq_of_lt (Nat.lt_of_lt_of_le hs (Nat.pow_le_pow_right (by omega) (by omega)))
    show (if s / 2 ^ (k + d) % 2 = 1 then _ else sSet n w s (k + d)) = _
    rw [h0, if_neg (by decide), sSet_top hs d]
/-- the bits below -/
theorem sSet_low {n w x h : Nat} : ∀ k, k ≤ h → sSet n w (x + 2 ^ h) k = sSet n w x k
  | 0, _ => rfl
  | k + 1, hk => by
    have e : (x + 2 ^ h) / 2 ^ k % 2 = x / 2 ^ k % 2 := by
      have h1 : 2 ^ h = 2 ^ (h - k - 1) * 2 * 2 ^ k := by
        rw [← Nat.pow_succ, ← Nat.pow_add]
        congr 1
        omega
      rw [h1, Nat.add_mul_div_right _ _ (Nat.pow_pos (by omega)), Nat.add_mul_mod_self_right]
    unfold sSet
    rw [e, sSet_low k (by omega)]
theorem sSet_hi {n w x h : Nat} (hx : x < 2 ^ h) : sSet n w (x + 2 ^ h) (h + 1) = sSet n w x h + dg8 n w h := by
  have e : (x + 2 ^ h) / 2 ^ h % 2 = 1 := by
    rw [Nat.add_div_right _ (Nat.pow_pos (by omega)), Nat.div_eq_of_lt hx]
  show (if (x + 2 ^ h) / 2 ^ h % 2 = 1 then sSet n w (x + 2 ^ h) h + dg8 n w h else _) = _
  rw [if_pos e, sSet_low h (Nat.le_refl _)]
theorem lcR_0 {c b : Nat → Bool} : ∀ r, lcR c b r = 0 ↔ ∀ j, j < r → c j = true → b j = false
  | 0 => ⟨fun _ j hj => absurd hj (Nat.not_lt_zero _), fun _ => rfl⟩
  | r + 1 => by
    have ih := lcR_0 (c := c) (b := b) r
    unfold lcR
    constructor
    · intro h j hj hc
      by_cases q : (c r && b r) = true
      · rw [if_pos q] at h
        omega
      · rw [if_neg q] at h
        by_cases y : j = r
        · subst y
          rw [hc, Bool.true_and] at q
          cases z : b j
          · rfl
          · exact absurd z q
        · exact ih.mp h j (by omega) hc
    · intro h
      have h1 := ih.mpr fun j hj => h j (by omega)
      have q : ¬ (c r && b r) = true := fun z => by
        rw [Bool.and_eq_true] at z
        have := h r (by omega) z.1
        rw [z.2] at this
        cases this
      rw [if_neg q]
      exact h1
section
variable {n r : Nat} {st lo hi : Nat → Nat} {c : Nat → Bool}
theorem tru_iff {w : Nat} : tru n r st lo hi c w = true ↔ ∀ j, j < r → c j = true → lo j ≤ sSet n w (st j) n ∧ sSet n w (st j) n ≤ hi j := by
  unfold tru lcW
  rw [decide_eq_true_iff, lcR_0]
  constructor
  · intro h j hj hc
    have := h j hj hc
    unfold bad at this
    rw [Bool.or_eq_false_iff, decide_eq_false_iff_not, decide_eq_false_iff_not] at this
    omega
  · intro h j hj hc
    have := h j hj hc
    unfold bad
    rw [Bool.or_eq_false_iff, decide_eq_false_iff_not, decide_eq_false_iff_not]
    omega
/-- all that is told of the houses before h is so -/
def okP (r : Nat) (st lo hi : Nat → Nat) (c : Nat → Bool) (h p : Nat) : Prop := ∀ j, j < r → c j = true → st j < 2 ^ h → lo j ≤ sSet h p (st j) h ∧ sSet h p (st j) h ≤ hi j
/-- this many in house h keep what is told of sets that end there -/
def okV (r : Nat) (st lo hi : Nat → Nat) (c : Nat → Bool) (h p v : Nat) : Prop := ∀ x, x < 2 ^ h → tdS c st r (x + 2 ^ h) = true → lwS c st lo r (x + 2 ^ h) ≤ v + sSet h p x h ∧ v + sSet h p x h ≤ hgS c st hi r (x + 2 ^ h)
theorem okV_iff (hst : ∀ j, j < r → st j < 32 ∧ lo j ≤ 35 ∧ hi j ≤ 35) {h p v : Nat} (hh : h < 5) (hv : v < 8) : okV r st lo hi c h p v ↔ ∀ j, j < r → c j = true → ∀ x, x < 2 ^ h → st j = x + 2 ^ h → lo j ≤ v + sSet h p x h ∧ v + sSet h p x h ≤ hi j := by
  have hb : ∀ x, v + sSet h p x h ≤ 35 := fun x => by
    have := sSet_le h p x h
    omega
  constructor
  · intro H j hj hc x hx he
    obtain ⟨h1, h2⟩ := H x hx ((tdS_iff r).mpr ⟨j, hj, hc, he⟩)
    exact ⟨(lwS_iff r).mp h1 j hj hc he, (hgS_iff (hb x) r).mp h2 j hj hc he⟩
  · intro H x hx _
    exact ⟨(lwS_iff r).mpr fun j hj hc he => (H j hj hc x hx he).1, (hgS_iff (hb x) r).mpr fun j hj hc he => (H j hj hc x hx he).2⟩
theorem dg8_last {h p v : Nat} (hv : v < 8) : dg8 (h + 1) (p * 8 + v) h = v := by
  unfold dg8
  rw [show h + 1 - 1 - h = 0 by omega, Nat.pow_zero, Nat.div_one, Nat.mul_comm, Nat.mul_add_mod]
  omega
theorem dg8_child {h p v i : Nat} (hv : v < 8) (hi : i < h) : dg8 (h + 1) (p * 8 + v) i = dg8 h p i := by
  have := dg8_pre (h := h) (m := 1) (p := p) (y := v) (i := i) (by omega) hi
  rw [Nat.pow_one] at this
  exact this
theorem sSet_ch {h p v x : Nat} (hv : v < 8) (hx : x < 2 ^ h) : sSet (h + 1) (p * 8 + v) x (h + 1) = sSet h p x h ∧ sSet (h + 1) (p * 8 + v) (x + 2 ^ h) (h + 1) = sSet h p x h + v := by
  have e : sSet (h + 1) (p * 8 + v) x h = sSet h p x h := sSet_pre h fun i hi => dg8_child hv hi
  refine ⟨by rw [sSet_top hx 1, e], ?_⟩
  rw [sSet_hi hx, e, dg8_last hv]
theorem okP_ch (hst : ∀ j, j < r → st j < 32 ∧ lo j ≤ 35 ∧ hi j ≤ 35) {h p v : Nat} (hh : h < 5) (hv : v < 8) (H : okP r st lo hi c h p) (V : okV r st lo hi c h p v) : okP r st lo hi c (h + 1) (p * 8 + v) := by
  intro j hj hc hs
  rw [Nat.pow_succ] at hs
  by_cases q : st j < 2 ^ h
  · rw [(sSet_ch hv q).1]
    exact H j hj hc q
  · obtain ⟨x, hx⟩ : ∃ x, st j = x + 2 ^ h := ⟨st j - 2 ^ h, by omega⟩
    have hx2 : x < 2 ^ h := by omega
    have := (okV_iff hst hh hv).mp V j hj hc x hx2 hx
    rw [hx, (sSet_ch hv hx2).2]
    omega
/-- else no row is so -/
theorem okV_no (hst : ∀ j, j < r → st j < 32 ∧ lo j ≤ 35 ∧ hi j ≤ 35) {h m p v y : Nat} (hn : n = h + 1 + m) (hh : h < 5) (hv : v < 8) (hy : y < 8 ^ m) (V : ¬ okV r st lo hi c h p v) : tru n r st lo hi c ((p * 8 + v) * 8 ^ m + y) = false := by
  cases ht : tru n r st lo hi c ((p * 8 + v) * 8 ^ m + y) with
  | false => rfl
  | true =>
    refine absurd ((okV_iff hst hh hv).mpr fun j hj hc x hx he => ?_) V
    have := tru_iff.mp ht j hj hc
    have e : sSet n ((p * 8 + v) * 8 ^ m + y) (st j) n = sSet h p x h + v := by
      have hs : st j < 2 ^ (h + 1) := by
        rw [Nat.pow_succ]
        omega
      have e1 : sSet n ((p * 8 + v) * 8 ^ m + y) (st j) n = sSet n ((p * 8 + v) * 8 ^ m + y) (st j) (h + 1) := by
        have := sSet_top (n := n) (w := (p * 8 + v) * 8 ^ m + y) hs m
        rw [← hn] at this
        exact this
      rw [e1, sSet_pre (h := h + 1) (p := p * 8 + v) (h + 1) (fun i hi => by rw [hn]; exact dg8_pre hy hi), he, (sSet_ch hv hx).2]
    rw [e] at this
    omega
/-- when nothing is told of later houses, all rows are so -/
theorem okP_all {h m p y : Nat} (hn : n = h + m) (hy : y < 8 ^ m) (H : okP r st lo hi c h p) (hf : ∀ j, j < r → c j = true → st j < 2 ^ h) : tru n r st lo hi c (p * 8 ^ m + y) = true := by
  refine tru_iff.mpr fun j hj hc => ?_
  have hs := hf j hj hc
  have e : sSet n (p * 8 ^ m + y) (st j) n = sSet h p (st j) h := by
    have e1 := sSet_top (n := n) (w := p * 8 ^ m + y) hs m
    rw [← hn] at e1
    rw [e1, sSet_pre (h := h) (p := p) h (fun i hi => by rw [hn]; exact dg8_pre hy hi)]
  rw [e]
  exact H j hj hc hs
end
