/-! CHASE: words of knocks, as numbers with a leading 1; the class's plan is the least. -/
def vN (n : Nat) : Nat → Nat → Prop
  | 0, c => c = 1
  | l + 1, c => vN n l (c / 8) ∧ c % 8 < n
def tgN (nx : Nat → Nat → Nat) (al : Nat) : Nat → Nat → Nat
  | 0, _ => al
  | l + 1, c => nx (tgN nx al l (c / 8)) (c % 8)
theorem vN_rg {n : Nat} : ∀ l c, vN n l c → 8 ^ l ≤ c ∧ c < 2 * 8 ^ l
  | 0, c, h => by
    have h' : c = 1 := h
    subst h'
    decide
  | l + 1, c, h => by
    have := vN_rg l (c / 8) h.1
    rw [Nat.pow_succ]
    omega
theorem vN_len {n : Nat} {l l' c : Nat} (h : vN n l c) (h' : vN n l' c) : l = l' := by
  have a1 := vN_rg l c h
  have a2 := vN_rg l' c h'
  rcases Nat.lt_trichotomy l l' with y | y | y
  · have : 8 ^ (l + 1) ≤ 8 ^ l' := Nat.pow_le_pow_right (by omega) y
    rw [Nat.pow_succ] at this
    omega
  · exact y
  · have : 8 ^ (l' + 1) ≤ 8 ^ l := Nat.pow_le_pow_right (by omega) y
    rw [Nat.pow_succ] at this
    omega
section
variable {nx : Nat → Nat → Nat} {n al : Nat}
theorem vN_pre : ∀ d j y, vN n (j + d) y → vN n j (y / 8 ^ d)
  | 0, j, y, h => by
    rw [Nat.pow_zero, Nat.div_one]
    exact h
  | d + 1, j, y, h => by
    rw [Nat.pow_succ, Nat.mul_comm, ← Nat.div_div_eq_div_mul]
    exact vN_pre d j (y / 8) h.1
theorem rc_pre : ∀ d j y p, vN n (j + d) y → rcN nx n p (tgN nx al (j + d) y) → rcN nx n (p + d) (tgN nx al j (y / 8 ^ d))
  | 0, j, y, p, _, h => by
    rw [Nat.pow_zero, Nat.div_one]
    exact h
  | d + 1, j, y, p, hv, h => by
    rw [Nat.pow_succ, Nat.mul_comm, ← Nat.div_div_eq_div_mul, show p + (d + 1) = p + 1 + d by omega]
    exact rc_pre d j (y / 8) (p + 1) hv.1 (Or.inr ⟨y % 8, hv.2, h⟩)
end
section
variable {q : Nat → Nat} {n : Nat}
theorem c_fo2 (hn : n ≤ 5) {C : mT} (h : okB q n C) {t : Nat → Nat} (ht : okT n t C) {m g0 : Nat} (hm : m < 2 ^ n) (hg : g0 < n) (h0 : t (nxN q n m g0) < t m) (hl : ∀ g, g < g0 → ¬ t (nxN q n m g) < t m) : ∀ (d g k : Nat), g + d = g0 → d < k → fX6_firstOnTheWay_2 k (nI m) (nI g) C = some (nI g0, C)
  | 0, g, k, hd, hk => by
    obtain ⟨k', rfl⟩ := up1 hk
    have hd : g = g0 := by omega
    subst hd
    have hp := p32 hn
    have c : ¬ nI n ≤ nI g := fun y => by have := (xLe (by omega) (by omega)).mp y; omega
    have ak := c_ak hn h (s := m) (g := g) (by omega) hg
    have hnl := nxN_lt (q := q) hn m hg
    obtain ⟨t1, t2⟩ := ht _ hnl
    obtain ⟨t3, t4⟩ := ht m hm
    have c2 : ¬ nI (t m) ≤ nI (t (nxN q n m g)) := fun y => by have := (xLe (by omega) (by omega)).mp y; omega
    simp (disch := omega) only [fX6_firstOnTheWay_2, kO_100, kI_107, g_t, b_d, b_c, b_v, Bool.and_true, Bool.and_self, Bool.true_and, h.1, if_neg c, ak, xIx, xIn, t2, t4, if_neg c2]
  | d + 1, g, k, hd, hk => by
    obtain ⟨k', rfl⟩ := up1 hk
    have hp := p32 hn
    have c : ¬ nI n ≤ nI g := fun y => by have := (xLe (by omega) (by omega)).mp y; omega
    have ak := c_ak hn h (s := m) (g := g) (by omega) (by omega)
    have hnl := nxN_lt (q := q) hn m (h := g) (by omega)
    obtain ⟨t1, t2⟩ := ht _ hnl
    obtain ⟨t3, t4⟩ := ht m hm
    have o1 : nI g + (1 : Int32) = nI (g + 1) := nI_add g 1
    have := hl g (by omega)
    have c2 : nI (t m) ≤ nI (t (nxN q n m g)) := (xLe (by omega) (by omega)).mpr (by omega)
    rw [← c_fo2 hn h ht hm hg h0 hl d (g + 1) k' (by omega) (by omega)]
    simp (disch := omega) only [fX6_firstOnTheWay_2, kO_100, kI_107, g_t, b_d, b_c, b_v, Bool.and_true, Bool.and_self, Bool.true_and, h.1, if_neg c, ak, xIx, xIn, t2, t4, if_pos c2, o1]
theorem least_ex {P : Nat → Prop} {k : Nat} (h : P k) : ∃ g, g ≤ k ∧ P g ∧ ∀ g', g' < g → ¬ P g' := by
  induction k using Nat.strongRecOn with
  | _ g ih =>
    by_cases e : ∃ g', g' < g ∧ P g'
    · obtain ⟨g', h1, h2⟩ := e
      obtain ⟨x, a1, a2, a3⟩ := ih g' h1 h2
      exact ⟨x, by omega, a2, a3⟩
    · exact ⟨g, Nat.le_refl _, h, fun g' hg hP => e ⟨g', hg, hP⟩⟩
theorem c_pl19 (hn : n ≤ 5) {t : Nat → Nat} (hsd : sdT (nxN q n) n t) (hc : ∀ r, r ≤ 32 → ∀ x, x < 2 ^ n → rcN (nxN q n) n r x → t x ≤ r) {N : Nat} (hN : N ≤ 8) : ∀ (d j k x : Nat) (C : mT), j + d = N → d < k → okB q n C → okT n t C → vN n j x → tgN (nxN q n) (2 ^ n - 1) j x < 2 ^ n → t (tgN (nxN q n) (2 ^ n - 1) j x) = d → (∀ i, i < j → C.1 108 i = nI (x / 8 ^ (j - 1 - i) % 8)) → (∀ y, vN n N y → tgN (nxN q n) (2 ^ n - 1) N y = 0 → x ≤ y / 8 ^ d) → ∃ X C', fX6_planKnocks_19 k (nI (tgN (nxN q n) (2 ^ n - 1) j x)) (nI j) C = some (nI N, C') ∧ vN n N X ∧ tgN (nxN q n) (2 ^ n - 1) N X = 0 ∧ (∀ i, i < N → C'.1 108 i = nI (X / 8 ^ (N - 1 - i) % 8)) ∧ (∀ y, vN n N y → tgN (nxN q n) (2 ^ n - 1) N y = 0 → X ≤ y) ∧ ∀ a i, a ≠ 108 → C'.1 a i = C.1 a i
  | 0, j, k, x, C, hj, hk, hB, ht, hv, hm, htm, hd, hg => by
    obtain ⟨k', rfl⟩ := up1 hk
    have hj : j = N := by omega
    subst hj
    have h0 : tgN (nxN q n) (2 ^ n - 1) j x = 0 := by
      rcases hsd _ hm with e | e
      · omega
      · rw [htm] at e
        exact e
    refine ⟨x, C, ?_, hv, h0, hd, fun y h1 h2 => by have := hg y h1 h2; rw [Nat.pow_zero, Nat.div_one] at this; exact this, fun _ _ _ => rfl⟩
    have c : nI (tgN (nxN q n) (2 ^ n - 1) j x) = 0 := by rw [h0]; rfl
    simp only [fX6_planKnocks_19, fX6_planKnocks_55, if_pos c]
  | d + 1, j, k, x, C, hj, hk, hB, ht, hv, hm, htm, hd, hg => by
    obtain ⟨k', rfl⟩ := up1 hk
    have hp := p32 hn
    generalize hM : tgN (nxN q n) (2 ^ n - 1) j x = M at *
    have hM0 : M ≠ 0 := fun e => by
      have := hc 0 (by omega) M hm (by rw [e]; rfl)
      omega
    have c : ¬ nI M = 0 := fun z => hM0 ((xEq (b := 0) (by omega) (by omega)).mp z)
    have c8 : ¬ (8 : Int32) ≤ nI j := fun z => by have := (xLe (a := 8) (by omega) (by omega)).mp z; omega
    have hR : rcN (nxN q n) n (d + 1) M := by
      rcases hsd M hm with e | e
      · omega
      · rw [htm] at e
        exact e
    have hex : ∃ g, g < n ∧ t (nxN q n M g) < t M := by
      rcases hR with hR | ⟨g, g1, g2⟩
      · have := hc d (by omega) M hm hR
        omega
      · have := hc d (by omega) _ (nxN_lt hn M g1) g2
        exact ⟨g, g1, by omega⟩
    obtain ⟨g9, e1, e2⟩ := hex
    obtain ⟨g0, f1, ⟨f2, f2'⟩, f3⟩ := least_ex (P := fun g => g < n ∧ t (nxN q n M g) < t M) (k := g9) ⟨e1, e2⟩
    have hl : ∀ g, g < g0 → ¬ t (nxN q n M g) < t M := fun g hgg hh => f3 g hgg ⟨by omega, hh⟩
    have fo : fX6_firstOnTheWay (nI M) C = some (nI g0, C) := c_fo2 hn hB ht hm f2 f2' hl g0 0 mK (by omega) (by have := mK_gt; omega)
    have hnl := nxN_lt (q := q) hn M f2
    have htn : t (nxN q n M g0) = d := by
      rcases hsd _ hnl with e | e
      · have := (ht _ hm).1
        omega
      · have := hc (t (nxN q n M g0) + 1) (by omega) M hm (Or.inr ⟨g0, f2, e⟩)
        omega
    have ex8 : (8 * x + g0) / 8 = x := by omega
    have ex9 : (8 * x + g0) % 8 = g0 := by omega
    have etg : tgN (nxN q n) (2 ^ n - 1) (j + 1) (8 * x + g0) = nxN q n M g0 := by
      show nxN q n (tgN _ _ j ((8 * x + g0) / 8)) ((8 * x + g0) % 8) = _
      rw [ex8, ex9, hM]
    have o1 : nI j + (1 : Int32) = nI (j + 1) := nI_add j 1
    have hB2 : okB q n (sI C 108 j (nI g0)) := ⟨by rw [sI_ne (by omega)]; exact hB.1, fun y hy => by rw [sI_ne (by omega)]; exact hB.2 y hy⟩
    have ak := c_ak hn hB2 (s := M) (g := g0) (by omega) f2
    obtain ⟨X, C', r1, r2, r3, r4, r5, r6⟩ := c_pl19 hn hsd hc hN d (j + 1) k' (8 * x + g0) (sI C 108 j (nI g0)) (by omega) (by omega) hB2 (fun s hs => by rw [sI_ne (by omega)]; exact ht s hs) (by
      show vN n j ((8 * x + g0) / 8) ∧ (8 * x + g0) % 8 < n
      rw [ex8, ex9]
      exact ⟨hv, f2⟩) (by rw [etg]; exact hnl) (by rw [etg]; exact htn) (fun i hi => by
      by_cases u : i = j
      · subst u
        rw [sI_eq, show i + 1 - 1 - i = 0 by omega, Nat.pow_zero, Nat.div_one, ex9]
      · rw [sI_ne (by omega), hd i (by omega), show 8 ^ (j + 1 - 1 - i) = 8 * 8 ^ (j - 1 - i) by rw [show j + 1 - 1 - i = (j - 1 - i) + 1 by omega, Nat.pow_succ, Nat.mul_comm], ← Nat.div_div_eq_div_mul, ex8]) (fun y hy1 hy2 => by
      have a1 := hg y hy1 hy2
      have ed : y / 8 ^ (d + 1) = y / 8 ^ d / 8 := by rw [Nat.pow_succ, Nat.div_div_eq_div_mul]
      rw [ed] at a1
      by_cases u : x = y / 8 ^ d / 8
      · have hv' := vN_pre (n := n) d (j + 1) y (by rw [show j + 1 + d = N by omega]; exact hy1)
        have hr' := rc_pre (nx := nxN q n) (al := 2 ^ n - 1) (n := n) d (j + 1) y 0 (by rw [show j + 1 + d = N by omega]; exact hy1) (by rw [show j + 1 + d = N by omega]; exact hy2)
        have hr2 : rcN (nxN q n) n (0 + d) (nxN q n (tgN (nxN q n) (2 ^ n - 1) j (y / 8 ^ d / 8)) (y / 8 ^ d % 8)) := hr'
        rw [← u, hM, Nat.zero_add] at hr2
        have hgl := hv'.2
        have := hc d (by omega) _ (nxN_lt hn M hgl) hr2
        have : g0 ≤ y / 8 ^ d % 8 := by
          rcases Nat.lt_or_ge (y / 8 ^ d % 8) g0 with z | z
          · exact absurd (by omega) (hl _ z)
          · exact z
        omega
      · omega)
    refine ⟨X, C', ?_, r2, r3, r4, r5, fun a i g => by rw [r6 a i g, sI_ne (by omega)]⟩
    rw [← r1, etg]
    simp (disch := omega) only [fX6_planKnocks_19, if_neg c, if_neg c8, fo, kO_100, kI_108, g_t, b_d, b_c, b_v, Bool.and_true, Bool.and_self, Bool.true_and, xIx, xIn, ak, o1]
/-- the least word of knocks that leaves no house -/
def lstW (q : Nat → Nat) (n N X : Nat) : Prop := N ≤ 8 ∧ vN n N X ∧ tgN (nxN q n) (2 ^ n - 1) N X = 0 ∧ ∀ l y, vN n l y → tgN (nxN q n) (2 ^ n - 1) l y = 0 → X ≤ y
theorem c_plan (hn : n ≤ 5) (hq : ∀ x, x < n → q x ≤ 60) (h8 : rcN (nxN q n) n 8 (2 ^ n - 1)) {C : mT} (h : rdO q n C) : ∃ N X C', fX6_planKnocks C = some (nI N, C') ∧ lstW q n N X ∧ (∀ i, i < N → C'.1 108 i = nI (X / 8 ^ (N - 1 - i) % 8)) := by
  have hp := p32 hn
  have hp1 : 1 ≤ 2 ^ n := Nat.one_le_two_pow
  obtain ⟨C1, f1, f2, f3⟩ := c_fn2 hn hq n 0 mK C (by omega) (by have := mK_gt; omega) h (fun y hy => absurd hy (Nat.not_lt_zero _))
  obtain ⟨t, C2, g1, g2, g3, g4, g5, g6⟩ := c_cs (q := q) hn (C := C1) ⟨by rw [f3 _ _ (by omega)]; exact h.1, f2⟩
  have hN := g5 8 (by omega) (2 ^ n - 1) (by omega) h8
  obtain ⟨X, C', r1, r2, r3, r4, r5, _⟩ := c_pl19 hn g4 g5 hN (t (2 ^ n - 1)) 0 mK 1 C2 (by omega) (by have := mK_gt; omega) g2 g3 rfl (by show 2 ^ n - 1 < 2 ^ n; omega) rfl (fun i hi => absurd hi (Nat.not_lt_zero _)) (fun y hy _ => by
    have := vN_pre (n := n) (t (2 ^ n - 1)) 0 y (by rw [Nat.zero_add]; exact hy)
    have h1 : y / 8 ^ t (2 ^ n - 1) = 1 := this
    omega)
  refine ⟨t (2 ^ n - 1), X, C', ?_, ⟨hN, r2, r3, fun l y hy1 hy2 => ?_⟩, r4⟩
  · have ol : (1 : Int32) <<< (nI n &&& 31) - (1 : Int32) = nI (2 ^ n - 1) := by rw [shl1 n (by omega)]; exact xS (a := 2 ^ n) (b := 1) hp1
    have f1' : fX6_findNeighbours C = some C1 := f1
    have r1' : fX6_planKnocks_19 mK (nI (2 ^ n - 1)) (0 : Int32) C2 = some (nI (t (2 ^ n - 1)), C') := r1
    unfold fX6_planKnocks
    simp only [f1', g1, kO_100, g_t, b_d, b_c, b_v, Bool.and_true, Bool.and_self, Bool.true_and, g2.1, ol, r1']
  · have a1 := vN_rg _ _ r2
    have a2 := vN_rg _ _ hy1
    have hR := rc_pre (nx := nxN q n) (al := 2 ^ n - 1) (n := n) l 0 y 0 (by rw [Nat.zero_add]; exact hy1) (by rw [Nat.zero_add, hy2]; rfl)
    rw [Nat.zero_add] at hR
    have hle : t (2 ^ n - 1) ≤ l := by
      by_cases u : l ≤ 32
      · exact g5 l u (2 ^ n - 1) (by omega) hR
      · omega
    by_cases u : l = t (2 ^ n - 1)
    · subst u
      exact r5 y hy1 hy2
    · have : 8 ^ (t (2 ^ n - 1) + 1) ≤ 8 ^ l := Nat.pow_le_pow_right (by omega) (by omega)
      rw [Nat.pow_succ] at this
      omega
/-- the houses in the middle, there and back -/
theorem rc_0 {nx : Nat → Nat → Nat} {p s : Nat} (h : s = 0) : rcN nx n p s := by
  have := rc_mono (nx := nx) (n := n) (p := 0) (s := s) h p
  rw [Nat.zero_add] at this
  exact this
theorem st_k (hn : n ≤ 5) (h1 : n ≠ 1) {A B : Nat → Prop} {r p s : Nat} (hr : r < n) (hs : ∀ x, x < n → s.testBit x = true → A (rkN q n x)) (hAB : ∀ i j, i < n → j < n → A i → i ≠ r → (j + 1 = i ∨ j = i + 1) → B j) (K : ∀ s', (∀ x, x < n → s'.testBit x = true → B (rkN q n x)) → s' < 2 ^ n → rcN (nxN q n) n p s') : rcN (nxN q n) n (p + 1) s := by
  obtain ⟨g, hg, eg⟩ := rk_sur (q := q) hn hr
  refine Or.inr ⟨g, hg, K _ (fun y hy hb => ?_) (nxN_lt hn s hg)⟩
  obtain ⟨x, a1, a2, a3, a4⟩ := (nxN_bit hn h1).mp hb
  exact hAB _ _ (rk_lt a1) (rk_lt hy) (hs x a1 a3) (fun e => a2 (rk_inj (q := q) hn a1 hg (by omega))) a4.2
theorem st_0 {B : Nat → Prop} (hB : ∀ i, i < n → ¬ B i) {p s : Nat} (hs : ∀ x, x < n → s.testBit x = true → B (rkN q n x)) (hl : s < 2 ^ n) : rcN (nxN q n) n p s := by
  refine rc_0 (Nat.eq_of_testBit_eq fun i => ?_)
  rw [Nat.zero_testBit]
  cases e : s.testBit i
  · rfl
  · by_cases u : i < n
    · exact absurd (hs i u e) (hB _ (rk_lt u))
    · have := Nat.testBit_lt_two_pow (Nat.lt_of_lt_of_le hl (Nat.pow_le_pow_right (by omega) (by omega : n ≤ i)))
      rw [this] at e
      cases e
theorem rc_8 (hn : n ≤ 5) (h0 : 1 ≤ n) : rcN (nxN q n) n 8 (2 ^ n - 1) := by
  by_cases h1 : n = 1
  · subst h1
    exact Or.inr ⟨0, by omega, rc_0 (nxN_one (by omega))⟩
  by_cases h2 : n = 2
  · subst h2
    exact st_k (A := fun _ => True) (B := fun j => j = 0) hn h1 (r := 0) (by omega) (fun _ _ _ => trivial) (fun i j _ _ _ _ _ => by omega) fun s hs hl => st_k (A := fun j => j = 0) (B := fun _ => False) hn h1 (r := 0) (by omega) hs (fun i j _ _ _ _ _ => by omega) fun s hs hl => st_0 (B := fun _ => False) (fun _ _ h => h) hs hl
  by_cases h3 : n = 3
  · subst h3
    exact st_k (A := fun _ => True) (B := fun j => j = 1) hn h1 (r := 1) (by omega) (fun _ _ _ => trivial) (fun i j _ _ _ _ _ => by omega) fun s hs hl => st_k (A := fun j => j = 1) (B := fun _ => False) hn h1 (r := 1) (by omega) hs (fun i j _ _ _ _ _ => by omega) fun s hs hl => st_0 (B := fun _ => False) (fun _ _ h => h) hs hl
  by_cases h4 : n = 4
  · subst h4
    exact st_k (A := fun _ => True) (B := fun j => j = 1 ∨ j = 2 ∨ j = 3) hn h1 (r := 1) (by omega) (fun _ _ _ => trivial) (fun i j _ _ _ _ _ => by omega) fun s hs hl => st_k (A := fun j => j = 1 ∨ j = 2 ∨ j = 3) (B := fun j => j = 0 ∨ j = 2) hn h1 (r := 2) (by omega) hs (fun i j _ _ _ _ _ => by omega) fun s hs hl => st_k (A := fun j => j = 0 ∨ j = 2) (B := fun j => j = 1) hn h1 (r := 2) (by omega) hs (fun i j _ _ _ _ _ => by omega) fun s hs hl => st_k (A := fun j => j = 1) (B := fun _ => False) hn h1 (r := 1) (by omega) hs (fun i j _ _ _ _ _ => by omega) fun s hs hl => st_0 (B := fun _ => False) (fun _ _ h => h) hs hl
  have h5 : n = 5 := by omega
  subst h5
  exact st_k (A := fun _ => True) (B := fun j => j = 1 ∨ j = 2 ∨ j = 3 ∨ j = 4) hn h1 (r := 1) (by omega) (fun _ _ _ => trivial) (fun i j _ _ _ _ _ => by omega) fun s hs hl => st_k (A := fun j => j = 1 ∨ j = 2 ∨ j = 3 ∨ j = 4) (B := fun j => j = 0 ∨ j = 2 ∨ j = 3 ∨ j = 4) hn h1 (r := 2) (by omega) hs (fun i j _ _ _ _ _ => by omega) fun s hs hl => st_k (A := fun j => j = 0 ∨ j = 2 ∨ j = 3 ∨ j = 4) (B := fun j => j = 1 ∨ j = 3) hn h1 (r := 3) (by omega) hs (fun i j _ _ _ _ _ => by omega) fun s hs hl => st_k (A := fun j => j = 1 ∨ j = 3) (B := fun j => j = 0 ∨ j = 2) hn h1 (r := 3) (by omega) hs (fun i j _ _ _ _ _ => by omega) fun s hs hl => st_k (A := fun j => j = 0 ∨ j = 2) (B := fun j => j = 1) hn h1 (r := 2) (by omega) hs (fun i j _ _ _ _ _ => by omega) fun s hs hl => st_k (A := fun j => j = 1) (B := fun _ => False) hn h1 (r := 1) (by omega) hs (fun i j _ _ _ _ _ => by omega) fun s hs hl => st_0 (B := fun _ => False) (fun _ _ h => h) hs hl
end
