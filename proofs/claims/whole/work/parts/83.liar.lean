/-! LIARS: the class's tables. -/
def agS (c : Nat → Bool) (st lo hi : Nat → Nat) : Nat → Nat → Nat → Nat
  | 0, _, _ => 0
  | j + 1, s, x => if c j = true ∧ st j = s ∧ (x < lo j ∨ hi j < x) then agS c st lo hi j s x + 1 else agS c st lo hi j s x
theorem agS_le (c : Nat → Bool) (st lo hi : Nat → Nat) (s x : Nat) : ∀ r, agS c st lo hi r s x ≤ r
  | 0 => Nat.le_refl _
  | r + 1 => by
    have := agS_le c st lo hi s x r
    unfold agS
    split
    · omega
    · omega
theorem agS_0 {c : Nat → Bool} {st lo hi : Nat → Nat} {s x : Nat} : ∀ r, ¬ tdS c st r s = true → agS c st lo hi r s x = 0
  | 0, _ => rfl
  | r + 1, h => by
    have h1 : ¬ tdS c st r s = true := fun z => h (by unfold tdS; rw [z, Bool.true_or])
    unfold agS
    rw [if_neg (fun z => h (by unfold tdS; rw [z.1, z.2.1]; simp)), agS_0 r h1]
theorem sN_cg {f g : Nat → Nat} : ∀ {n : Nat}, (∀ i, i < n → f i = g i) → sN f n = sN g n
  | 0, _ => rfl
  | n + 1, h => by
    unfold sN
    rw [sN_cg (n := n) (fun i hi => h i (by omega)), h n (by omega)]
theorem sN_spl (f : Nat → Nat) (a : Nat) : ∀ b, sN f (a + b) = sN f a + sN (fun x => f (x + a)) b
  | 0 => rfl
  | b + 1 => by
    show sN f (a + b) + f (a + b) = sN f a + (sN (fun x => f (x + a)) b + f (b + a))
    rw [sN_spl f a b, Nat.add_comm b a]
    omega
theorem sN_one {f g : Nat → Nat} {a : Nat} : ∀ {n : Nat}, (∀ i, i < n → i ≠ a → g i = f i) → a < n → g a = f a + 1 → sN g n = sN f n + 1
  | 0, _, h, _ => absurd h (Nat.not_lt_zero _)
  | n + 1, h, ha, hg => by
    unfold sN
    by_cases q : a = n
    · subst q
      rw [sN_cg (n := a) (fun i hi => h i (by omega) (by omega)), hg]
      omega
    · rw [sN_one (n := n) (fun i hi => h i (by omega)) (by omega) hg, h n (by omega) (by omega)]
      omega
theorem sN_lem {f g : Nat → Nat} : ∀ {n : Nat}, (∀ i, i < n → f i ≤ g i) → sN f n ≤ sN g n
  | 0, _ => Nat.le_refl _
  | n + 1, h => by
    have h1 := sN_lem (n := n) (fun i hi => h i (by omega))
    have h2 := h n (by omega)
    unfold sN
    omega
section
variable {n r : Nat} {st lo hi : Nat → Nat} {c : Nat → Bool}
/-- what of the houses before is not so -/
def aN (r : Nat) (st lo hi : Nat → Nat) (c : Nat → Bool) (h p : Nat) : Nat := sN (fun s => agS c st lo hi r s (sSet h p s h)) (2 ^ h)
theorem lc_aN (w : Nat) : ∀ r, (∀ j, j < r → st j < 2 ^ n) → lcR c (fun j => bad n w (st j) (lo j) (hi j)) r = aN r st lo hi c n w
  | 0, _ => by
    show 0 = sN (fun s => 0) (2 ^ n)
    generalize 2 ^ n = N
    induction N with
    | zero => rfl
    | succ N ih =>
      show 0 = sN _ N + 0
      omega
  | r + 1, h => by
    have ih := lc_aN w r (fun j hj => h j (by omega))
    unfold lcR
    by_cases q : (c r && bad n w (st r) (lo r) (hi r)) = true
    · rw [if_pos q, ih]
      rw [Bool.and_eq_true] at q
      unfold bad at q
      rw [Bool.or_eq_true, decide_eq_true_iff, decide_eq_true_iff] at q
      refine (sN_one (a := st r) (fun s _ hs => ?_) (h r (by omega)) ?_).symm
      · show (if c r = true ∧ st r = s ∧ _ then _ else _) = _
        rw [if_neg (fun z => hs z.2.1.symm)]
      · show (if c r = true ∧ st r = st r ∧ (sSet n w (st r) n < lo r ∨ hi r < sSet n w (st r) n) then _ else _) = _
        rw [if_pos ⟨q.1, rfl, q.2⟩]
    · rw [if_neg q, ih]
      refine sN_cg fun s _ => ?_
      show _ = (if c r = true ∧ st r = s ∧ _ then _ else _)
      rw [if_neg]
      rintro ⟨z1, z2, z3⟩
      apply q
      unfold bad
      rw [z1, Bool.true_and, z2, Bool.or_eq_true, decide_eq_true_iff, decide_eq_true_iff]
      exact z3
theorem aN_ch {h p v : Nat} (hv : v < 8) : aN r st lo hi c (h + 1) (p * 8 + v) = aN r st lo hi c h p + sN (fun x => agS c st lo hi r (x + 2 ^ h) (sSet h p x h + v)) (2 ^ h) := by
  unfold aN
  rw [show 2 ^ (h + 1) = 2 ^ h + 2 ^ h by rw [Nat.pow_succ]; omega, sN_spl]
  congr 1
  · refine sN_cg fun s hs => ?_
    rw [(sSet_ch hv hs).1]
  · refine sN_cg fun x hx => ?_
    rw [(sSet_ch hv hx).2]
theorem aN_le (hr : r ≤ 30) {h p : Nat} (hh : h ≤ 5) : aN r st lo hi c h p ≤ 960 := by
  have := sN_le (f := fun s => agS c st lo hi r s (sSet h p s h)) (c := 30) (n := 2 ^ h) (fun i _ => Nat.le_trans (agS_le _ _ _ _ _ _ _) hr)
  have h2 := p32 hh
  have : 2 ^ h * 30 ≤ 32 * 30 := Nat.mul_le_mul_right _ h2
  unfold aN
  omega
end
theorem sSet_pc (n w s : Nat) : ∀ k, sSet n w s k ≤ 7 * pcN s k
  | 0 => Nat.le_refl _
  | k + 1 => by
    have h1 := sSet_pc n w s k
    have h2 : dg8 n w k < 8 := Nat.mod_lt _ (by omega)
    unfold sSet pcN
    split
    · omega
    · omega
/-- the least of a row -/
def mnA (f : Nat → Nat) : Nat → Nat
  | 0 => 30
  | x + 1 => min (f x) (mnA f x)
theorem mnA_le {f : Nat → Nat} {x : Nat} : ∀ {N : Nat}, x < N → mnA f N ≤ f x
  | 0, h => absurd h (Nat.not_lt_zero _)
  | N + 1, h => by
    unfold mnA
    by_cases q : x = N
    · rw [q]
      omega
    · have := mnA_le (f := f) (x := x) (N := N) (by omega)
      omega
theorem mnA_30 (f : Nat → Nat) : ∀ N, mnA f N ≤ 30
  | 0 => Nat.le_refl _
  | N + 1 => by
    have := mnA_30 f N
    unfold mnA
    omega
def owS (td : Nat → Bool) (lm : Nat → Nat) (h : Nat) : Nat → Nat
  | 0 => 0
  | x + 1 => if td (x + 2 ^ h) = true then owS td lm h x + lm (x + 2 ^ h) else owS td lm h x
def owD (td : Nat → Bool) (lm : Nat → Nat) (n : Nat) : Nat → Nat
  | 0 => 0
  | d + 1 => owD td lm n d + owS td lm (n - 1 - d) (2 ^ (n - 1 - d))
theorem owS_le {td : Nat → Bool} {lm : Nat → Nat} {h : Nat} (hl : ∀ s, lm s ≤ 30) : ∀ x, owS td lm h x ≤ 30 * x
  | 0 => Nat.le_refl _
  | x + 1 => by
    have h1 := owS_le (td := td) (h := h) hl x
    have h2 := hl (x + 2 ^ h)
    unfold owS
    split
    · omega
    · omega
theorem owD_le {td : Nat → Bool} {lm : Nat → Nat} {n : Nat} (hn : n ≤ 5) (hl : ∀ s, lm s ≤ 30) : ∀ d, d ≤ n → owD td lm n d ≤ 480 * d
  | 0, _ => Nat.le_refl _
  | d + 1, hd => by
    have h1 := owD_le hn hl (td := td) d (by omega)
    have h2 := owS_le (td := td) (h := n - 1 - d) hl (2 ^ (n - 1 - d))
    have h3 := p2 (h := n - 1 - d) (by omega)
    unfold owD
    omega
theorem owS_sN {td : Nat → Bool} {lm g : Nat → Nat} {h : Nat} : ∀ x, (∀ y, y < x → td (y + 2 ^ h) = true → lm (y + 2 ^ h) ≤ g y) → owS td lm h x ≤ sN g x
  | 0, _ => Nat.le_refl _
  | x + 1, H => by
    have ih := owS_sN (td := td) (lm := lm) (g := g) (h := h) x (fun y hy => H y (by omega))
    unfold owS sN
    by_cases q : td (x + 2 ^ h) = true
    · rw [if_pos q]
      have := H x (by omega) q
      omega
    · rw [if_neg q]
      omega
section
variable {n r : Nat} {st lo hi : Nat → Nat} {c : Nat → Bool}
def lmS (r : Nat) (st lo hi : Nat → Nat) (c : Nat → Bool) (s : Nat) : Nat := mnA (agS c st lo hi r s) (7 * pcN s 32 + 1)
/-- so many are not so by each row at least -/
theorem ow_low (hn5 : n ≤ 5) : ∀ (d h p y : Nat), n = h + d → y < 8 ^ d → aN r st lo hi c h p + owD (tdS c st r) (lmS r st lo hi c) n d ≤ aN r st lo hi c n (p * 8 ^ d + y)
  | 0, h, p, y, hn, hy => by
    have hy0 : y = 0 := by rw [Nat.pow_zero] at hy; omega
    have hn0 : n = h := by omega
    subst hn0
    subst hy0
    rw [Nat.pow_zero, Nat.mul_one]
    exact Nat.le_refl _
  | d + 1, h, p, y, hn, hy => by
    have h0 : 0 < 8 ^ d := Nat.pow_pos (by omega)
    have hv : y / 8 ^ d < 8 := (Nat.div_lt_iff_lt_mul h0).mpr (by rw [Nat.pow_succ] at hy; omega)
    have hm : y % 8 ^ d < 8 ^ d := Nat.mod_lt _ h0
    have e : p * 8 ^ (d + 1) + y = (p * 8 + y / 8 ^ d) * 8 ^ d + y % 8 ^ d := by
      have := Nat.div_add_mod y (8 ^ d)
      rw [Nat.mul_comm] at this
      rw [Nat.pow_succ, Nat.mul_comm (8 ^ d) 8, ← Nat.mul_assoc, Nat.add_mul]
      omega
    rw [e]
    generalize y / 8 ^ d = v at hv ⊢
    have ih := ow_low hn5 d (h + 1) (p * 8 + v) (y % 8 ^ d) (by omega) hm
    rw [aN_ch hv] at ih
    have eh : n - 1 - d = h := by omega
    have key : owS (tdS c st r) (lmS r st lo hi c) h (2 ^ h) ≤ sN (fun x => agS c st lo hi r (x + 2 ^ h) (sSet h p x h + v)) (2 ^ h) := owS_sN _ fun x hx _ => by
      refine mnA_le ?_
      have h1 := sSet_pc (h + 1) (p * 8 + v) (x + 2 ^ h) (h + 1)
      rw [(sSet_ch hv hx).2] at h1
      have h2 := pcN_mono (x + 2 ^ h) (i := h + 1) (32 - (h + 1))
      rw [show h + 1 + (32 - (h + 1)) = 32 by omega] at h2
      omega
    show aN r st lo hi c h p + (owD (tdS c st r) (lmS r st lo hi c) n d + owS (tdS c st r) (lmS r st lo hi c) (n - 1 - d) (2 ^ (n - 1 - d))) ≤ _
    rw [eh]
    omega
end
section
variable {n r : Nat} {st lo hi : Nat → Nat} {c : Nat → Bool}
theorem c_ta42 {s j l g : Nat} (hs : s < 32) (hj : j < 30) (hl : l ≤ 35) (hg : g ≤ 35) (t : Int32) (rc : Int32 → Int32 → mT → Option (Int32 × mT)) : ∀ (m x k : Nat) (C : mT), x + m = 36 → m < k → C.1 116 j = nI l → C.1 117 j = nI g → ∃ C', fX3_takeReports_42 rc k t (nI j) (nI s) (nI x) C = rc t (nI (j + 1)) C' ∧ (∀ y, x ≤ y → y < 36 → C'.1 (142 + s) y = if y < l ∨ g < y then C.1 (142 + s) y + 1 else C.1 (142 + s) y) ∧ (∀ y, y < x → C'.1 (142 + s) y = C.1 (142 + s) y) ∧ ∀ a i, a ≠ 142 + s → C'.1 a i = C.1 a i
  | 0, x, k, C, hx, hk, e1, e2 => by
    obtain ⟨k', rfl⟩ := up1 hk
    have hx : x = 36 := by omega
    subst hx
    have q : (35 : Int32) < nI 36 := by decide
    have o1 : nI j + (1 : Int32) = nI (j + 1) := nI_add j 1
    exact ⟨C, by simp only [fX3_takeReports_42, fX3_takeReports_91, if_pos q, g_t, b_d, b_c, b_v, Bool.and_true, Bool.and_self, Bool.true_and, o1], fun y h1 h2 => by omega, fun _ _ => rfl, fun _ _ _ => rfl⟩
  | m + 1, x, k, C, hx, hk, e1, e2 => by
    obtain ⟨k', rfl⟩ := up1 hk
    have q : ¬ (35 : Int32) < nI x := fun z => by have := (xLt (a := 35) (by omega) (by omega)).mp z; omega
    have o1 : nI x + (1 : Int32) = nI (x + 1) := nI_add x 1
    by_cases z : x < l ∨ g < x
    · obtain ⟨C', r1, r2, r3, r4⟩ := c_ta42 hs hj hl hg t rc m (x + 1) k' (sI C (142 + s) x (C.1 (142 + s) x + 1)) (by omega) (by omega) (by rw [sI_rd, if_neg (by omega)]; exact e1) (by rw [sI_rd, if_neg (by omega)]; exact e2)
      refine ⟨C', ?_, fun y h1 h2 => ?_, fun y hy => by rw [r3 y (by omega), sI_rd, if_neg (by omega)], fun a i g' => by rw [r4 a i g', sI_rd, if_neg (by omega)]⟩
      · rw [← r1]
        by_cases z1 : x < l
        · have z1' : nI x < nI l := (xLt (by omega) (by omega)).mpr z1
          simp (disch := omega) only [fX3_takeReports_42, fX3_takeReports_71, fX3_takeReports_85, if_neg q, kO_114, kO_140, kI_116, kR_141, rw_141, ki_141, g_t, b_d, b_c, b_v, Bool.and_true, Bool.and_self, Bool.true_and, xIx, xIn, e1, if_pos z1', o1]
        · have z1' : ¬ nI x < nI l := fun y => z1 ((xLt (by omega) (by omega)).mp y)
          have z2' : ¬ nI x ≤ nI g := fun y => by have := (xLe (by omega) (by omega)).mp y; omega
          simp (disch := omega) only [fX3_takeReports_42, fX3_takeReports_71, fX3_takeReports_85, if_neg q, kO_114, kO_140, kI_116, kI_117, kR_141, rw_141, ki_141, g_t, b_d, b_c, b_v, Bool.and_true, Bool.and_self, Bool.true_and, xIx, xIn, e1, e2, if_neg z1', if_neg z2', o1]
      · by_cases y0 : y = x
        · subst y0
          rw [r3 y (by omega), sI_rd, if_pos ⟨rfl, rfl⟩, if_pos z]
        · rw [r2 y (by omega) h2, sI_ne (fun w => y0 w.2)]
    · obtain ⟨C', r1, r2, r3, r4⟩ := c_ta42 hs hj hl hg t rc m (x + 1) k' C (by omega) (by omega) e1 e2
      have z1' : ¬ nI x < nI l := fun y => by have := (xLt (by omega) (by omega)).mp y; omega
      have z2' : nI x ≤ nI g := (xLe (by omega) (by omega)).mpr (by omega)
      refine ⟨C', ?_, fun y h1 h2 => ?_, fun y hy => r3 y (by omega), r4⟩
      · rw [← r1]
        simp (disch := omega) only [fX3_takeReports_42, fX3_takeReports_85, if_neg q, kO_114, kI_116, kI_117, g_t, b_d, b_c, b_v, Bool.and_true, Bool.and_self, Bool.true_and, xIx, xIn, e1, e2, if_neg z1', if_pos z2', o1]
      · by_cases y0 : y = x
        · subst y0
          rw [r3 y (by omega), if_neg z]
        · exact r2 y (by omega) h2
theorem c_ta4 (hr : r ≤ 30) (hst : ∀ j, j < r → st j < 32 ∧ lo j ≤ 35 ∧ hi j ≤ 35) : ∀ (m j k : Nat) (t : Int32) (C : mT), j + m = r → m < k → cRp r st lo hi C → (∀ s x, s < 32 → x < 36 → C.1 (142 + s) x = nI (agS (bI (C.1 140 7)) st lo hi j s x)) → (∀ x, x < 32 → bI t x = tdS (bI (C.1 140 7)) st j x) → ∃ t' C', fX3_takeReports_4 k t (nI j) C = some (t', C') ∧ (∀ s x, s < 32 → x < 36 → C'.1 (142 + s) x = nI (agS (bI (C.1 140 7)) st lo hi r s x)) ∧ (∀ x, x < 32 → bI t' x = tdS (bI (C.1 140 7)) st r x) ∧ ∀ a j, (a < 142 ∨ 173 < a) → C'.1 a j = C.1 a j
  | 0, j, k, t, C, hj, hk, h, e, ht => by
    obtain ⟨k', rfl⟩ := up1 hk
    have hj : j = r := by omega
    subst hj
    have c : nI j ≤ nI j := Int32.le_refl _
    exact ⟨t, C, by simp only [fX3_takeReports_4, kO_114, g_t, b_d, b_c, b_v, Bool.and_true, Bool.and_self, Bool.true_and, h.1, if_pos c], e, ht, fun _ _ _ => rfl⟩
  | m + 1, j, k, t, C, hj, hk, h, e, ht => by
    obtain ⟨k', rfl⟩ := up1 hk
    have c : ¬ nI r ≤ nI j := fun y => by have := (xLe (by omega) (by omega)).mp y; omega
    have o1 : nI j + (1 : Int32) = nI (j + 1) := nI_add j 1
    obtain ⟨e1, e2, e3⟩ := h.2 j (by omega)
    obtain ⟨b1, b2, b3⟩ := hst j (by omega)
    have hb := bI_eq (t := C.1 140 7) (x := j) (by omega)
    by_cases q : bI (C.1 140 7) j = true
    · have q' := hb.mpr q
      obtain ⟨C1, f1, f2, _, f4⟩ := c_ta42 (s := st j) (j := j) (l := lo j) (g := hi j) b1 (by omega) b2 b3 (t ||| ((1 : Int32) <<< (nI (st j) &&& 31))) (fX3_takeReports_4 k') 36 0 mK C (by omega) (by have := mK_gt; omega) e2 e3
      have em : C1.1 140 7 = C.1 140 7 := f4 _ _ (by omega)
      obtain ⟨t', C', r1, r2, r3, r4⟩ := c_ta4 hr hst m (j + 1) k' (t ||| ((1 : Int32) <<< (nI (st j) &&& 31))) C1 (by omega) (by omega) ⟨by rw [f4 _ _ (by omega)]; exact h.1, fun i hi' => by rw [f4 _ _ (by omega), f4 _ _ (by omega), f4 _ _ (by omega)]; exact h.2 i hi'⟩ (fun s x hs hx => by
        rw [em]
        conv => rhs; unfold agS
        by_cases y : s = st j
        · subst y
          rw [f2 x (by omega) hx, e _ x hs hx]
          by_cases z : x < lo j ∨ hi j < x
          · rw [if_pos z, if_pos ⟨q, rfl, z⟩]
            exact nI_add _ 1
          · rw [if_neg z, if_neg (fun w => z w.2.2)]
        · rw [f4 _ _ (by omega), e s x hs hx, if_neg (fun w => y w.2.1.symm)]) (fun x hx => by
        rw [em, bI_or hx b1, ht x hx]
        conv => rhs; unfold tdS
        rw [q, Bool.true_and]
        by_cases y : x = st j
        · simp [y]
        · simp [y, Ne.symm y])
      rw [em] at r2 r3
      refine ⟨t', C', ?_, r2, r3, fun a i g => by rw [r4 a i g, f4 a i (by omega)]⟩
      rw [← r1, ← f1]
      simp (disch := omega) only [fX3_takeReports_4, kO_114, kO_140, kI_115, g_t, b_d, b_c, b_v, Bool.and_true, Bool.and_self, Bool.true_and, h.1, if_neg c, if_pos q', xIx, xIn, e1]
      rfl
    · have q' : ¬ _ := fun y => q (hb.mp y)
      have q0 : bI (C.1 140 7) j = false := by
        cases y : bI (C.1 140 7) j
        · rfl
        · exact absurd y q
      obtain ⟨t', C', r1, r2, r3, r4⟩ := c_ta4 hr hst m (j + 1) k' t C (by omega) (by omega) h (fun s x hs hx => by
        unfold agS
        rw [if_neg (fun z => q z.1)]
        exact e s x hs hx) (fun x hx => by
        unfold tdS
        rw [q0, Bool.false_and, Bool.or_false]
        exact ht x hx)
      refine ⟨t', C', ?_, r2, r3, r4⟩
      rw [← r1]
      simp (disch := omega) only [fX3_takeReports_4, fX3_takeReports_91, kO_114, kO_140, g_t, b_d, b_c, b_v, Bool.and_true, Bool.and_self, Bool.true_and, h.1, if_neg c, if_neg q', o1]
/-- the least of a set -/
theorem c_la14 {s K : Nat} (hs : s < 32) (hK : K ≤ 35) {f : Nat → Nat} (hf : ∀ x, f x ≤ 30) {C : mT} (e : ∀ x, x < 36 → C.1 (142 + s) x = nI (f x)) : ∀ (m x k : Nat), x + m = K + 1 → m < k → fX3_leastAgainst_14 k (nI s) (nI K) (nI (mnA f x)) (nI x) C = some (nI (mnA f (K + 1)), C)
  | 0, x, k, hx, hk => by
    obtain ⟨k', rfl⟩ := up1 hk
    have hx : x = K + 1 := by omega
    subst hx
    have q : nI K < nI (K + 1) := (xLt (by omega) (by omega)).mpr (by omega)
    simp only [fX3_leastAgainst_14, fX3_leastAgainst_47, if_pos q]
  | m + 1, x, k, hx, hk => by
    obtain ⟨k', rfl⟩ := up1 hk
    have q : ¬ nI K < nI x := fun z => by have := (xLt (by omega) (by omega)).mp z; omega
    have q2 : ¬ (35 : Int32) < nI x := fun z => by have := (xLt (a := 35) (by omega) (by omega)).mp z; omega
    have o1 : nI x + (1 : Int32) = nI (x + 1) := nI_add x 1
    have h1 := hf x
    have h2 := mnA_30 f x
    have o2 := nmin (a := f x) (c := mnA f x) (by omega) (by omega)
    have o3 : min (f x) (mnA f x) = mnA f (x + 1) := rfl
    rw [← c_la14 hs hK hf e m (x + 1) k' (by omega) (by omega)]
    simp (disch := omega) only [fX3_leastAgainst_14, if_neg q, if_neg q2, kO_140, kR_141, rw_141, ki_141, g_t, b_d, b_c, b_v, Bool.and_true, Bool.and_self, Bool.true_and, xIx, xIn, e x (by omega), o2, o3, o1]
theorem c_la (hr : r ≤ 30) {s : Nat} (hs : s < 32) {C : mT} (e : ∀ x, x < 36 → C.1 (142 + s) x = nI (agS c st lo hi r s x)) : fX3_leastAgainst (nI s) C = some (nI (lmS r st lo hi c s), C) := by
  have hpc : pcN s 32 ≤ 5 := by
    have h1 : pcN s 32 = pcN s 5 := pcN_top (a := s) (k := 5) (by omega) 27
    have h2 := pcN_le s 5
    omega
  unfold fX3_leastAgainst
  rw [s_bc (by omega), b_c, b_d, show (7 : Int32) = nI 7 from rfl, xM]
  exact c_la14 hs (by omega) (fun x => Nat.le_trans (agS_le _ _ _ _ _ _ _) hr) e (7 * pcN s 32 + 1) 0 mK (by omega) (by have := mK_gt; omega)
theorem kLs174 : kLs 174 := ⟨by decide +kernel, kI_182, kI_175, kR_176, fun h hh => rw_176 hh, fun h hh x => ki_176 hh x⟩
theorem c_ow37 (hr : r ≤ 30) {h o : Nat} (hh : h < 5) (ho : o ≤ 100000) (rc : Int32 → mT → Option mT) : ∀ (m x k : Nat) (C : mT), x + m = 2 ^ h → m < k → (∀ s x, s < 32 → x < 36 → C.1 (142 + s) x = nI (agS c st lo hi r s x)) → lsO (tdS c st r) h (2 ^ h) 174 C → C.1 183 h = nI (o + owS (tdS c st r) (lmS r st lo hi c) h x) → ∃ C', fX3_countOwed_37 rc k (nI h) (nI (cN (fun x => tdS c st r (x + 2 ^ h)) x)) C = rc (nI h + (-1 : Int32)) C' ∧ C'.1 183 h = nI (o + owS (tdS c st r) (lmS r st lo hi c) h (2 ^ h)) ∧ ∀ a i, ¬ (a = 183 ∧ i = h) → C'.1 a i = C.1 a i
  | 0, x, k, C, hx, hk, e, H, e0 => by
    obtain ⟨k', rfl⟩ := up1 hk
    have hx : x = 2 ^ h := by omega
    subst hx
    have e8 : C.1 182 h = nI (cN (fun x => tdS c st r (x + 2 ^ h)) (2 ^ h)) := H.1
    have c : nI (cN (fun x => tdS c st r (x + 2 ^ h)) (2 ^ h)) ≤ nI (cN (fun x => tdS c st r (x + 2 ^ h)) (2 ^ h)) := Int32.le_refl _
    exact ⟨C, by simp (disch := omega) only [fX3_countOwed_37, kO_174, kO_140, kI_182, g_t, b_d, b_c, b_v, Bool.and_true, Bool.and_self, Bool.true_and, xIx, xIn, e8, if_pos c], e0, fun _ _ _ => rfl⟩
  | m + 1, x, k, C, hx, hk, e, H, e0 => by
    obtain ⟨k', rfl⟩ := up1 hk
    have hp := p2 hh
    have e8 : C.1 182 h = nI (cN (fun x => tdS c st r (x + 2 ^ h)) (2 ^ h)) := H.1
    have hc1 := cN_le (fun x => tdS c st r (x + 2 ^ h)) (2 ^ h)
    obtain ⟨op, hlt⟩ := or_pow hh (x := x) (by omega)
    by_cases q : tdS c st r (x + 2 ^ h) = true
    · have ec : cN (fun x => tdS c st r (x + 2 ^ h)) (x + 1) = cN (fun x => tdS c st r (x + 2 ^ h)) x + 1 := if_pos q
      have el : owS (tdS c st r) (lmS r st lo hi c) h (x + 1) = owS (tdS c st r) (lmS r st lo hi c) h x + lmS r st lo hi c (x + 2 ^ h) := if_pos q
      have hc := cN_lt (fun x => tdS c st r (x + 2 ^ h)) (a := x) (b := 2 ^ h) q (by omega)
      have c0 : ¬ nI (cN (fun x => tdS c st r (x + 2 ^ h)) (2 ^ h)) ≤ nI (cN (fun x => tdS c st r (x + 2 ^ h)) x) := fun y => by have := (xLe (by omega) (by omega)).mp y; omega
      have er : C.1 (177 + h) (cN (fun x => tdS c st r (x + 2 ^ h)) x) = nI x := H.2 x (by omega) q
      have o1 : nI (cN (fun x => tdS c st r (x + 2 ^ h)) x) + (1 : Int32) = nI (cN (fun x => tdS c st r (x + 2 ^ h)) x + 1) := nI_add _ 1
      have la := c_la (r := r) (st := st) (lo := lo) (hi := hi) (c := c) hr (s := x + 2 ^ h) hlt (C := C) (fun y hy => e _ y hlt hy)
      obtain ⟨C', r1, r2, r3⟩ := c_ow37 hr hh ho rc m (x + 1) k' (sI C 183 h (nI (o + owS (tdS c st r) (lmS r st lo hi c) h x + lmS r st lo hi c (x + 2 ^ h)))) (by omega) (by omega) (fun s y hs hy => by rw [sI_rd, if_neg (by omega)]; exact e s y hs hy) ⟨by rw [sI_rd, if_neg (by omega)]; exact H.1, fun y hy hy2 => by rw [sI_rd, if_neg (by omega)]; exact H.2 y hy hy2⟩ (by rw [sI_rd, if_pos ⟨rfl, rfl⟩, el, Nat.add_assoc])
      refine ⟨C', ?_, r2, fun a i g => by rw [r3 a i g, sI_rd, if_neg g]⟩
      rw [← r1, ec]
      simp (disch := omega) only [fX3_countOwed_37, kO_174, kO_140, kI_182, kI_183, kR_176, rw_176, ki_176, g_t, b_d, b_c, b_v, Bool.and_true, Bool.and_self, Bool.true_and, xIx, xIn, e8, if_neg c0, er, op, la, e0, nI_add, o1]
    · have ec : cN (fun x => tdS c st r (x + 2 ^ h)) (x + 1) = cN (fun x => tdS c st r (x + 2 ^ h)) x := if_neg q
      have el : owS (tdS c st r) (lmS r st lo hi c) h (x + 1) = owS (tdS c st r) (lmS r st lo hi c) h x := if_neg q
      have := c_ow37 hr hh ho rc m (x + 1) (k' + 1) C (by omega) (by omega) e H (by rw [el]; exact e0)
      rw [ec] at this
      exact this
theorem c_ow17 (hn : n ≤ 5) (hr : r ≤ 30) : ∀ (h k : Nat) (C : mT), h ≤ n → h < k → (∀ s x, s < 32 → x < 36 → C.1 (142 + s) x = nI (agS c st lo hi r s x)) → (∀ h', h' < n → lsO (tdS c st r) h' (2 ^ h') 174 C) → (∀ i, h ≤ i → i ≤ n → C.1 183 i = nI (owD (tdS c st r) (lmS r st lo hi c) n (n - i))) → ∃ C', fX3_countOwed_17 k (nI h + (-1 : Int32)) C = some C' ∧ (∀ i, i ≤ n → C'.1 183 i = nI (owD (tdS c st r) (lmS r st lo hi c) n (n - i))) ∧ ∀ a i, a ≠ 183 → C'.1 a i = C.1 a i
  | 0, k, C, hh, hk, e, H, e0 => by
    obtain ⟨k', rfl⟩ := up1 hk
    have q : nI 0 + (-1 : Int32) < 0 := by decide
    exact ⟨C, by simp only [fX3_countOwed_17, if_pos q], fun i hi => e0 i (by omega) hi, fun _ _ _ => rfl⟩
  | h + 1, k, C, hh, hk, e, H, e0 => by
    obtain ⟨k', rfl⟩ := up1 hk
    have om : nI (h + 1) + (-1 : Int32) = nI h := xP (a := h + 1) (by omega)
    have q : ¬ nI h < 0 := nI_pos (by omega)
    have o1 : nI h + (1 : Int32) = nI (h + 1) := nI_add h 1
    have hod := owD_le (td := tdS c st r) (lm := lmS r st lo hi c) hn (fun s => mnA_30 _ _) (n - (h + 1)) (by omega)
    have e1 := e0 (h + 1) (by omega) hh
    obtain ⟨C1, f1, f2, f3⟩ := c_ow37 (r := r) (st := st) (lo := lo) (hi := hi) (c := c) hr (h := h) (o := owD (tdS c st r) (lmS r st lo hi c) n (n - (h + 1))) (by omega) (by omega) (fX3_countOwed_17 k') (2 ^ h) 0 mK (sI C 183 h (nI (owD (tdS c st r) (lmS r st lo hi c) n (n - (h + 1))))) (by omega) (by have := mK_gt; have := p2 (h := h) (by omega); omega) (fun s y hs hy => by rw [sI_rd, if_neg (by omega)]; exact e s y hs hy) ⟨by rw [sI_rd, if_neg (by omega)]; exact (H h (by omega)).1, fun y hy hy2 => by rw [sI_rd, if_neg (by omega)]; exact (H h (by omega)).2 y hy hy2⟩ (by rw [sI_rd, if_pos ⟨rfl, rfl⟩]; rfl)
    have g1 : ∀ a i, a ≠ 183 → C1.1 a i = C.1 a i := fun a i g => by rw [f3 a i (by omega), sI_rd, if_neg (by omega)]
    have ed : owD (tdS c st r) (lmS r st lo hi c) n (n - h) = owD (tdS c st r) (lmS r st lo hi c) n (n - (h + 1)) + owS (tdS c st r) (lmS r st lo hi c) h (2 ^ h) := by
      rw [show n - h = (n - (h + 1)) + 1 by omega]
      show _ + owS _ _ (n - 1 - (n - (h + 1))) (2 ^ (n - 1 - (n - (h + 1)))) = _
      rw [show n - 1 - (n - (h + 1)) = h by omega]
    obtain ⟨C', r1, r2, r3⟩ := c_ow17 hn hr h k' C1 (by omega) (by omega) (fun s y hs hy => by rw [g1 _ _ (by omega)]; exact e s y hs hy) (fun h' hh' => ⟨by rw [g1 _ _ (by omega)]; exact (H h' hh').1, fun y hy hy2 => by rw [g1 _ _ (by omega)]; exact (H h' hh').2 y hy hy2⟩) (fun i hi hi2 => by
      by_cases z : i = h
      · subst z
        rw [f2, ed]
      · rw [f3 _ _ (by omega), sI_rd, if_neg (by omega)]
        exact e0 i (by omega) hi2)
    refine ⟨C', ?_, r2, fun a i g => by rw [r3 a i g, g1 a i g]⟩
    rw [om, ← r1, ← f1]
    simp (disch := omega) only [fX3_countOwed_17, if_neg q, kO_140, kI_183, g_t, b_d, b_c, b_v, Bool.and_true, Bool.and_self, Bool.true_and, o1, xIx, xIn, e1]
    rfl
end
