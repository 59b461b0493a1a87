/-! NOON: the class. -/
def mnB (h : Nat → Nat) (lo : Nat) : Nat → Nat
  | 0 => 1000000
  | k + 1 => min (mnB h lo k) (h (lo + k))
theorem mnB_le (h : Nat → Nat) (lo : Nat) : ∀ k, mnB h lo k ≤ 1000000
  | 0 => Nat.le_refl _
  | k + 1 => by
    have := mnB_le h lo k
    unfold mnB
    omega
theorem mnB_add (h : Nat → Nat) (lo a : Nat) : ∀ b, mnB h lo (a + b) = min (mnB h lo a) (mnB h (lo + a) b)
  | 0 => by
    have := mnB_le h lo a
    show mnB h lo a = min (mnB h lo a) 1000000
    omega
  | b + 1 => by
    have ih := mnB_add h lo a b
    show min (mnB h lo (a + b)) (h (lo + (a + b))) = min (mnB h lo a) (min (mnB h (lo + a) b) (h (lo + a + b)))
    rw [ih, show lo + (a + b) = lo + a + b by omega]
    omega
theorem mnB_far {h : Nat → Nat} {lo : Nat} : ∀ {k : Nat}, (∀ x, x < k → 1000000 ≤ h (lo + x)) → mnB h lo k = 1000000
  | 0, _ => rfl
  | k + 1, hh => by
    have ih := mnB_far (h := h) (lo := lo) (k := k) (fun x hx => hh x (by omega))
    have := hh k (by omega)
    unfold mnB
    omega
theorem mnB_shift {h h' : Nat → Nat} {lo : Nat} : ∀ {k : Nat}, (∀ x, x < k → h (lo + x) = h' x) → mnB h lo k = mnB h' 0 k
  | 0, _ => rfl
  | k + 1, hh => by
    unfold mnB
    rw [mnB_shift (k := k) (fun x hx => hh x (by omega)), hh k (by omega), Nat.zero_add]
def Hb (p z : Nat → Nat) (N : Nat) : Nat → Nat → Nat → (Nat → Nat) → (Nat → Nat) → Nat → Nat → Nat
  | 0, _, _, _, _, l, _ => l
  | m + 1, i, u, f, g, l, c => if c / 5 ^ m ≤ u ∧ c / 5 ^ m < N then Hb p z N m (i + 1) (max u (c / 5 ^ m + 1)) (fU f (c / 5 ^ m) (p i)) (gU g (c / 5 ^ m) (z i)) (max l (fU f (c / 5 ^ m) (p i) (c / 5 ^ m) + gU g (c / 5 ^ m) (z i) (c / 5 ^ m))) (c % 5 ^ m) else 1000000
section
variable {p z : Nat → Nat} {n : Nat} {f g : Nat → Nat} {C : mT}
theorem c_n18 (hn : n ≤ 5) (hp : ∀ j, j < n → p j ≤ 60 ∧ z j ≤ 99) {N : Nat} (hN : N ≤ 5) {m i u l : Nat} (him : i + (m + 1) = n) (hu : u ≤ i) (hl : l ≤ 1000) (hb : bdR i f g) (self : Int32 → Int32 → Int32 → Int32 → mT → Option (Int32 × mT))
    (IH : ∀ (u' l' : Nat) (f' g' : Nat → Nat) (C : mT), u' ≤ i + 1 → l' ≤ 1000 → bdR (i + 1) f' g' → cRd p z n f' g' C → ∃ C', self (nI (i + 1)) (nI u') (nI N) (nI l') C = some (nI (mnB (Hb p z N m (i + 1) u' f' g' l') 0 (5 ^ m)), C') ∧ cRd p z n f' g' C') :
    ∀ (r d k : Nat) (C : mT), d + r = 5 → r < k → cRd p z n f g C → ∃ C', fX6_soonestFrom_18 self k (nI i) (nI u) (nI N) (nI l) (nI (mnB (Hb p z N (m + 1) i u f g l) 0 (d * 5 ^ m))) (nI d) C = some (nI (mnB (Hb p z N (m + 1) i u f g l) 0 (5 * 5 ^ m)), C') ∧ cRd p z n f g C'
  | 0, d, k, C, hd, hk, h => by
    obtain ⟨k', rfl⟩ := up1 hk
    have c : nI u < nI d := (xLt (by omega) (by omega)).mpr (by omega)
    have hd : d = 5 := by omega
    subst hd
    refine ⟨C, ?_, h⟩
    simp only [fX6_soonestFrom_18, fX6_soonestFrom_93, if_pos c]
  | r + 1, d, k, C, hd, hk, h => by
    obtain ⟨k', rfl⟩ := up1 hk
    have h0 : 0 < 5 ^ m := Nat.pow_pos (by omega)
    have hblk : ∀ x, x < 5 ^ m → (d * 5 ^ m + x) / 5 ^ m = d ∧ (d * 5 ^ m + x) % 5 ^ m = x := fun x hx => dv5 hx
    have e5 : 5 * 5 ^ m = d * 5 ^ m + (r + 1) * 5 ^ m := by rw [← Nat.add_mul, hd]
    have hall : (u < d ∨ N ≤ d) → mnB (Hb p z N (m + 1) i u f g l) 0 (5 * 5 ^ m) = mnB (Hb p z N (m + 1) i u f g l) 0 (d * 5 ^ m) := fun hq => by
      have hle := mnB_le (Hb p z N (m + 1) i u f g l) 0 (d * 5 ^ m)
      have hfar : mnB (Hb p z N (m + 1) i u f g l) (d * 5 ^ m) ((r + 1) * 5 ^ m) = 1000000 := mnB_far fun x hx => by
        have hge : d ≤ (d * 5 ^ m + x) / 5 ^ m := by
          rw [Nat.le_div_iff_mul_le h0]
          omega
        unfold Hb
        rw [if_neg (by omega)]
        exact Nat.le_refl _
      rw [e5, mnB_add, Nat.zero_add, hfar]
      omega
    by_cases c1 : u < d
    · have c1' : nI u < nI d := (xLt (by omega) (by omega)).mpr c1
      rw [hall (Or.inl c1)]
      exact ⟨C, by simp only [fX6_soonestFrom_18, fX6_soonestFrom_93, if_pos c1'], h⟩
    have c1' : ¬ nI u < nI d := fun q => c1 ((xLt (by omega) (by omega)).mp q)
    by_cases c2 : N ≤ d
    · have c2' : nI N ≤ nI d := (xLe (by omega) (by omega)).mpr c2
      rw [hall (Or.inr c2)]
      exact ⟨C, by simp only [fX6_soonestFrom_18, fX6_soonestFrom_93, if_neg c1', if_pos c2'], h⟩
    have c2' : ¬ nI N ≤ nI d := fun q => c2 ((xLe (by omega) (by omega)).mp q)
    obtain ⟨C1, s1, s2, s3, s4⟩ := c_busy (d := d) (i := i) hn hp h (by omega) (by omega) hb
    have e4 : C.1 104 d = nI (f d) := (h.2.2 d (by omega)).1
    have hsum : fU f d (p i) d + gU g d (z i) d ≤ 60 + 99 * (i + 1) := by
      obtain ⟨a1, a2⟩ := s3 d (by omega)
      omega
    have o1 : nI d + (1 : Int32) = nI (d + 1) := nI_add d 1
    have oi : nI i + (1 : Int32) = nI (i + 1) := nI_add i 1
    have om : (if nI u < nI (d + 1) then nI (d + 1) else nI u) = nI (max u (d + 1)) := by
      by_cases c : u < d + 1
      · rw [if_pos ((xLt (by omega) (by omega)).mpr c)]
        exact congrArg nI (by omega)
      · rw [if_neg (fun q => c ((xLt (by omega) (by omega)).mp q))]
        exact congrArg nI (by omega)
    have ol : (if nI l < nI (fU f d (p i) d + gU g d (z i) d) then nI (fU f d (p i) d + gU g d (z i) d) else nI l) = nI (max l (fU f d (p i) d + gU g d (z i) d)) := by
      by_cases c : l < fU f d (p i) d + gU g d (z i) d
      · rw [if_pos ((xLt (by omega) (by omega)).mpr c)]
        exact congrArg nI (by omega)
      · rw [if_neg (fun q => c ((xLt (by omega) (by omega)).mp q))]
        exact congrArg nI (by omega)
    obtain ⟨C5, w1, w2⟩ := IH (max u (d + 1)) (max l (fU f d (p i) d + gU g d (z i) d)) (fU f d (p i)) (gU g d (z i)) C1 (by omega) (by omega) s3 s2
    have hq : ∀ x, x < 5 ^ m → Hb p z N (m + 1) i u f g l (d * 5 ^ m + x) = Hb p z N m (i + 1) (max u (d + 1)) (fU f d (p i)) (gU g d (z i)) (max l (fU f d (p i) d + gU g d (z i) d)) x := fun x hx => by
      conv => lhs; unfold Hb
      rw [(hblk x hx).1, (hblk x hx).2, if_pos ⟨by omega, by omega⟩]
    have enx : d * 5 ^ m + 5 ^ m = (d + 1) * 5 ^ m := by rw [Nat.add_mul, Nat.one_mul]
    have hmin := mnB_add (Hb p z N (m + 1) i u f g l) 0 (d * 5 ^ m) (5 ^ m)
    rw [enx, Nat.zero_add, mnB_shift hq] at hmin
    have b1 := mnB_le (Hb p z N (m + 1) i u f g l) 0 (d * 5 ^ m)
    have b2 := mnB_le (Hb p z N m (i + 1) (max u (d + 1)) (fU f d (p i)) (gU g d (z i)) (max l (fU f d (p i) d + gU g d (z i) d))) 0 (5 ^ m)
    have ob := nmin (a := mnB (Hb p z N m (i + 1) (max u (d + 1)) (fU f d (p i)) (gU g d (z i)) (max l (fU f d (p i) d + gU g d (z i) d))) 0 (5 ^ m)) (c := mnB (Hb p z N (m + 1) i u f g l) 0 (d * 5 ^ m)) (by omega) (by omega)
    rw [Nat.min_comm, ← hmin] at ob
    obtain ⟨C6, t1, t2, t3⟩ := c_back (d := d) (i := i) hn hp (by omega) (by omega) hb w2
    obtain ⟨C', r1, r2⟩ := c_n18 hn hp hN him hu hl hb self IH r (d + 1) k' C6 (by omega) (by omega) t2
    refine ⟨C', ?_, r2⟩
    rw [← r1]
    simp (disch := omega) only [fX6_soonestFrom_18, if_neg c1', if_neg c2', kO_100, kI_104, g_t, b_d, b_c, b_v, Bool.and_true, Bool.and_self, Bool.true_and, xIx, xIn, e4, s1, ol, o1, om, oi, w1, ob, t1]
theorem c_soon (hn : n ≤ 5) (hp : ∀ j, j < n → p j ≤ 60 ∧ z j ≤ 99) {N : Nat} (hN : N ≤ 5) : ∀ (m i u l dd : Nat) (f g : Nat → Nat) (C : mT), i + m = n → m < dd → u ≤ i → l ≤ 1000 → bdR i f g → cRd p z n f g C → ∃ C', fX6_soonestFrom dd (nI i) (nI u) (nI N) (nI l) C = some (nI (mnB (Hb p z N m i u f g l) 0 (5 ^ m)), C') ∧ cRd p z n f g C'
  | 0, i, u, l, dd, f, g, C, him, hdd, hu, hl, hb, h => by
    obtain ⟨d', rfl⟩ := up1 hdd
    have c : ¬ nI i < nI n := fun q => by have := (xLt (by omega) (by omega)).mp q; omega
    refine ⟨C, ?_, h⟩
    have e : mnB (Hb p z N 0 i u f g l) 0 (5 ^ 0) = l := by
      show min 1000000 l = l
      omega
    rw [e]
    simp only [fX6_soonestFrom, fX6_soonestFrom_0, kO_100, g_t, b_d, b_c, b_v, Bool.and_true, Bool.and_self, Bool.true_and, h.1, if_neg c]
  | m + 1, i, u, l, dd, f, g, C, him, hdd, hu, hl, hb, h => by
    obtain ⟨d', rfl⟩ := up1 hdd
    have c : nI i < nI n := (xLt (by omega) (by omega)).mpr (by omega)
    obtain ⟨C', r1, r2⟩ := c_n18 (N := N) (m := m) (i := i) (u := u) (l := l) hn hp hN him hu hl hb (fX6_soonestFrom d') (fun u' l' f' g' C h1 hl' h2 h3 => c_soon hn hp hN m (i + 1) u' l' d' f' g' C (by omega) (by omega) h1 hl' h2 h3) 5 0 mK C (by omega) (by have := mK_gt; omega) h
    have e5 : 5 * 5 ^ m = 5 ^ (m + 1) := by rw [Nat.pow_succ, Nat.mul_comm]
    rw [Nat.zero_mul, e5] at r1
    refine ⟨C', ?_, r2⟩
    rw [← r1]
    simp only [fX6_soonestFrom, fX6_soonestFrom_0, kO_100, g_t, b_d, b_c, b_v, Bool.and_true, Bool.and_self, Bool.true_and, h.1, if_pos c]
    rfl
theorem c_look6 {b : Bool} {S : mT} (hn : n ≤ 5) (n1 : S.1 (shU b) 9 = nI n) (hp : ∀ j, j < n → S.1 (shU b + 2) j = nI (p j) ∧ S.1 35 (10 + j) = nI (z j)) : ∃ C, fX6_look (shU b) 35 S = some C ∧ cRd p z n (fun _ => 0) (fun _ => 0) C ∧ C.1 (shU b) 9 = nI n ∧ C.1 0 13 = S.1 0 13 := by
  have sh : shU b = 3 ∨ shU b = 19 := by cases b; exact Or.inl rfl; exact Or.inr rfl
  have s2u : sT (shU b + 2) = .inr (.int, 5) := by cases b <;> decide +kernel
  have b2u : Nat.blt (shU b + 2) 233 = true := by cases b <;> decide +kernel
  have e1 : (sI S 100 8 (nI n)).1 100 8 = nI n := by rw [sI_rd, if_pos ⟨rfl, rfl⟩]
  have e2 : (sC (sI S 100 8 (nI n)) (shU b + 2) 101 (0 : Int32) (0 : Int32) (nI n)).1 100 8 = nI n := by rw [sC0 (by omega), if_neg (by omega)]; exact e1
  have hk1 := kC_of s2u b2u s_101 (by decide +kernel) (0 : Int32) (0 : Int32) (nI n)
  rw [cpOk0 (by omega) (by omega) (by omega)] at hk1
  have hk : cpOk 17 5 (10 : Int32) (0 : Int32) (nI n) = true := by
    unfold cpOk
    rw [show mIx (10 : Int32) = 10 from rfl, show mIx (0 : Int32) = 0 from rfl, xIx (by omega)]
    have a1 : ¬ (10 : Int32) < (0 : Int32) := by decide
    have a2 : ¬ (0 : Int32) < (0 : Int32) := by decide
    have a3 : ¬ nI n < (0 : Int32) := nI_pos (by omega)
    have a4 : 10 + n ≤ 17 := by omega
    have a5 : 0 + n ≤ 5 := by omega
    simp only [a1, a2, a3, a4, a5, decide_true, decide_false, Bool.not_false, Bool.and_true]
  have hk2 := kC_of s_35 (by decide +kernel) s_102 (by decide +kernel) (10 : Int32) (0 : Int32) (nI n)
  rw [hk] at hk2
  obtain ⟨C4, f1, f2, f3⟩ := s_fill s_104 (by decide +kernel) (by omega) (0 : Int32) (sC (sC (sI S 100 8 (nI n)) (shU b + 2) 101 (0 : Int32) (0 : Int32) (nI n)) 35 102 (10 : Int32) (0 : Int32) (nI n))
  obtain ⟨C5, g1, g2, g3⟩ := s_fill s_105 (by decide +kernel) (by omega) (0 : Int32) C4
  have fr : ∀ a j, a ≠ 104 → a ≠ 105 → a ≠ 102 → a ≠ 101 → ¬ (a = 100 ∧ j = 8) → C5.1 a j = S.1 a j := fun a j q1 q2 q3 q4 q5 => by rw [g3 _ _ q2, f3 _ _ q1, sC_rd, if_neg q3, sC0 (by omega), if_neg (by omega), sI_rd, if_neg q5]
  refine ⟨C5, ?_, ⟨?_, fun j hj => ⟨?_, ?_⟩, fun k hk => ⟨?_, g2 k hk⟩⟩, ?_, fr _ _ (by omega) (by omega) (by omega) (by omega) (by omega)⟩
  · simp only [fX6_look, kO_100, kO_u, g_t, b_d, b_c, b_v, Bool.and_true, Bool.and_self, Bool.true_and, n1, e1, hk1, e2, hk2, f1, g1]
  · rw [g3 _ _ (by omega), f3 _ _ (by omega), sC_rd, if_neg (by omega)]
    exact e2
  · rw [g3 _ _ (by omega), f3 _ _ (by omega), sC_rd, if_neg (by omega), sC0 (by omega), if_pos ⟨rfl, hj⟩, sI_rd, if_neg (by omega)]
    exact (hp j hj).1
  · rw [g3 _ _ (by omega), f3 _ _ (by omega), sC_rd, if_pos rfl, show mIx (10 : Int32) = 10 from rfl, show mIx (0 : Int32) = 0 from rfl, xIx (by omega), if_pos (by omega), sC0 (by omega), if_neg (by omega), sI_rd, if_neg (by omega), Nat.sub_zero]
    exact (hp j hj).2
  · rw [g3 _ _ (by omega)]
    exact f2 k hk
  · rw [fr _ _ (by omega) (by omega) (by omega) (by omega) (by omega)]
    exact n1
end
