/-! A SUMMER. -/
def okR (Y : Nat) (f : Nat → Int32) : Prop := (∀ h, h < 5 → ∃ x y z, x ≤ 7 ∧ y ≤ x ∧ z ≤ 99 ∧ f h = nI x ∧ f (5 + h) = nI y ∧ f (10 + h) = nI z) ∧ ∃ y s, y ≤ Y ∧ s ≤ 999 ∧ f 15 = nI y ∧ f 16 = nI s
theorem okR_row {f : Nat → Int32} : okRow f ↔ okR 999 f := Iff.rfl
theorem okR_eq {Y : Nat} {f g : Nat → Int32} (e : ∀ k, k < 17 → f k = g k) (h : okR Y g) : okR Y f := by
  obtain ⟨q1, y, s, q2, q3, q4, q5⟩ := h
  refine ⟨fun h hh => ?_, y, s, q2, q3, ?_, ?_⟩
  · obtain ⟨x, y, z, p1, p2, p3, p4, p5, p6⟩ := q1 h hh
    exact ⟨x, y, z, p1, p2, p3, by rw [e _ (by omega)]; exact p4, by rw [e _ (by omega)]; exact p5, by rw [e _ (by omega)]; exact p6⟩
  · rw [e _ (by omega)]
    exact q4
  · rw [e _ (by omega)]
    exact q5
def r1 (S : mT) (u n : Nat) (R : Nat → Int32) : Nat → Int32 := fun j => if 10 ≤ j ∧ j < 10 + n then stP S (R (j - 10)) (R (j - 5)) (S.1 (u + 4) (j - 10)) (S.1 (u + 5) (j - 10)) (R 15) else R j
def sdN (R : Nat → Int32) : Nat := (mIx (R 16) * 137 + 71) % 1000
def r2 (n : Nat) (R : Nat → Int32) : Nat → Int32 := fun j => if j = 16 then nI (sdN R) else if 0 < n ∧ j = 10 + sdN R % n then nI (mIx (R j) - min (mIx (R j)) (sdN R / 100 % 3)) else R j
def gH (S : mT) (u : Nat) (R : Nat → Int32) (i : Nat) : Int32 := grP S (R i) (R (5 + i)) (S.1 (u + 4) i) (S.1 (u + 5) i) (R (10 + i)) (R 15)
def r3 (S : mT) (u n : Nat) (R : Nat → Int32) : Nat → Int32 := fun j => if j < n then gH S u R j else if 5 ≤ j ∧ j < 5 + n then (if gH S u R (j - 5) < R j then gH S u R (j - 5) else R j) else R j
def r4 (R : Nat → Int32) : Nat → Int32 := fun j => if j = 15 then R 15 + 1 else R j
def smr (S : mT) (u n : Nat) (R : Nat → Int32) : Nat → Int32 := r4 (if S.1 199 2 = 0 then r2 n (r1 S u n R) else r3 S u n (r2 n (r1 S u n R)))
section
variable {S : mT} {u n Y : Nat} {R : Nat → Int32}
theorem r1_ok (hn : n ≤ 5) (h : okR Y R) : okR Y (r1 S u n R) := by
  obtain ⟨q1, y, s, q2, q3, q4, q5⟩ := h
  refine ⟨fun i hi => ?_, y, s, q2, q3, ?_, ?_⟩
  · obtain ⟨x, y, z, p1, p2, p3, p4, p5, p6⟩ := q1 i hi
    by_cases c : i < n
    · obtain ⟨w, hw, e⟩ := stP_n S (R (10 + i - 10)) (R (10 + i - 5)) (S.1 (u + 4) (10 + i - 10)) (S.1 (u + 5) (10 + i - 10)) (R 15)
      refine ⟨x, y, w, p1, p2, hw, ?_, ?_, ?_⟩
      · unfold r1
        rw [if_neg (by omega)]
        exact p4
      · unfold r1
        rw [if_neg (by omega)]
        exact p5
      · unfold r1
        rw [if_pos (by omega)]
        exact e
    · refine ⟨x, y, z, p1, p2, p3, ?_, ?_, ?_⟩
      · unfold r1
        rw [if_neg (by omega)]
        exact p4
      · unfold r1
        rw [if_neg (by omega)]
        exact p5
      · unfold r1
        rw [if_neg (by omega)]
        exact p6
  · unfold r1
    rw [if_neg (by omega)]
    exact q4
  · unfold r1
    rw [if_neg (by omega)]
    exact q5
theorem sdN_lt : sdN R < 1000 := Nat.mod_lt _ (by omega)
theorem r2_ok (hn : n ≤ 5) (h : okR Y R) : okR Y (r2 n R) := by
  obtain ⟨q1, y, s, q2, q3, q4, q5⟩ := h
  have hs := sdN_lt (R := R)
  have hm : 0 < n → sdN R % n < n := fun h => Nat.mod_lt _ h
  refine ⟨fun i hi => ?_, y, sdN R, q2, by omega, ?_, ?_⟩
  · obtain ⟨x, y, z, p1, p2, p3, p4, p5, p6⟩ := q1 i hi
    by_cases c : 0 < n ∧ 10 + i = 10 + sdN R % n
    · refine ⟨x, y, z - min z (sdN R / 100 % 3), p1, p2, by omega, ?_, ?_, ?_⟩
      · unfold r2
        rw [if_neg (by omega), if_neg (by omega)]
        exact p4
      · unfold r2
        rw [if_neg (by omega), if_neg (by omega)]
        exact p5
      · unfold r2
        rw [if_neg (by omega), if_pos c, p6, xIx (by omega)]
    · refine ⟨x, y, z, p1, p2, p3, ?_, ?_, ?_⟩
      · unfold r2
        rw [if_neg (by omega), if_neg (by omega)]
        exact p4
      · unfold r2
        rw [if_neg (by omega), if_neg (by omega)]
        exact p5
      · unfold r2
        rw [if_neg (by omega), if_neg c]
        exact p6
  · unfold r2
    rw [if_neg (by omega), if_neg (by omega)]
    exact q4
  · unfold r2
    rw [if_pos rfl]
theorem r3_ok (hn : n ≤ 5) (h : okR Y R) : okR Y (r3 S u n R) := by
  obtain ⟨q1, y, s, q2, q3, q4, q5⟩ := h
  refine ⟨fun i hi => ?_, y, s, q2, q3, ?_, ?_⟩
  · obtain ⟨x, y, z, p1, p2, p3, p4, p5, p6⟩ := q1 i hi
    by_cases c : i < n
    · obtain ⟨w, hw, e⟩ := grP_n S (R i) (R (5 + i)) (S.1 (u + 4) i) (S.1 (u + 5) i) (R (10 + i)) (R 15)
      have eg : gH S u R i = nI w := e
      refine ⟨w, min w y, z, hw, by omega, p3, ?_, ?_, ?_⟩
      · unfold r3
        rw [if_pos c]
        exact eg
      · unfold r3
        rw [if_neg (by omega), if_pos (by omega), show 5 + i - 5 = i by omega, eg, p5, nmin (by omega) (by omega)]
      · unfold r3
        rw [if_neg (by omega), if_neg (by omega)]
        exact p6
    · refine ⟨x, y, z, p1, p2, p3, ?_, ?_, ?_⟩
      · unfold r3
        rw [if_neg (by omega), if_neg (by omega)]
        exact p4
      · unfold r3
        rw [if_neg (by omega), if_neg (by omega)]
        exact p5
      · unfold r3
        rw [if_neg (by omega), if_neg (by omega)]
        exact p6
  · unfold r3
    rw [if_neg (by omega), if_neg (by omega)]
    exact q4
  · unfold r3
    rw [if_neg (by omega), if_neg (by omega)]
    exact q5
theorem r4_ok (h : okR Y R) : okR (Y + 1) (r4 R) := by
  obtain ⟨q1, y, s, q2, q3, q4, q5⟩ := h
  refine ⟨fun i hi => ?_, y + 1, s, by omega, q3, ?_, ?_⟩
  · obtain ⟨x, y, z, p1, p2, p3, p4, p5, p6⟩ := q1 i hi
    refine ⟨x, y, z, p1, p2, p3, ?_, ?_, ?_⟩
    · unfold r4
      rw [if_neg (by omega)]
      exact p4
    · unfold r4
      rw [if_neg (by omega)]
      exact p5
    · unfold r4
      rw [if_neg (by omega)]
      exact p6
  · unfold r4
    rw [if_pos rfl, q4]
    exact nI_add y 1
  · unfold r4
    rw [if_neg (by omega)]
    exact q5
theorem smr_ok (hn : n ≤ 5) (h : okR Y R) : okR (Y + 1) (smr S u n R) := by
  unfold smr
  by_cases c : S.1 199 2 = 0
  · rw [if_pos c]
    exact r4_ok (r2_ok hn (r1_ok hn h))
  · rw [if_neg c]
    exact r4_ok (r3_ok hn (r2_ok hn (r1_ok hn h)))
end
/-! the class's summer -/
def cSt (b : Bool) (n : Nat) (S C : mT) : Prop := rLaws (shU b) C ∧ lawEq S C ∧ (∀ j, C.1 (shU b + 4) j = S.1 (shU b + 4) j ∧ C.1 (shU b + 5) j = S.1 (shU b + 5) j) ∧ C.1 (shU b) 9 = nI n
def cFr (b : Bool) (a1 : Nat) (C C' : mT) : Prop := ∀ a j, a ≠ a1 → a ≠ shU b + 15 → a ≠ shU b + 8 → a ≠ shU b + 14 → C'.1 a j = C.1 a j
theorem lawEq.trans {S C D : mT} (h : lawEq S C) (h2 : lawEq C D) : lawEq S D := ⟨h2.1.trans h.1, h2.2.1.trans h.2.1, h2.2.2.1.trans h.2.2.1, h2.2.2.2.trans h.2.2.2⟩
section
variable {b : Bool} {n a1 : Nat} {S C C' : mT}
theorem cFr.tr {D : mT} (h : cFr b a1 C C') (h2 : cFr b a1 C' D) : cFr b a1 C D := fun a j g1 g2 g3 g4 => (h2 a j g1 g2 g3 g4).trans (h a j g1 g2 g3 g4)
theorem cFr.r (b : Bool) (a1 : Nat) (C : mT) : cFr b a1 C C := fun _ _ _ _ _ _ => rfl
theorem cFr.sI {k : Nat} {v : Int32} (h : cFr b a1 C C') : cFr b a1 C (sI C' a1 k v) := fun a j g1 g2 g3 g4 => by rw [sI_rd, if_neg (by omega)]; exact h a j g1 g2 g3 g4
theorem cSt_fr (ha : a1 = 35 ∨ a1 = 36) (f : cFr b a1 C C') (h : cSt b n S C) : cSt b n S C' := by
  have sh : shU b = 3 ∨ shU b = 19 := by cases b; exact Or.inl rfl; exact Or.inr rfl
  obtain ⟨h1, h2, h3, h4⟩ := h
  refine ⟨rLaws_fr (fun a j g => f a j (by omega) (by omega) (by omega) (by omega)) h1, h2.trans (lawEq_of fun a j g => f a j (by omega) (by omega) (by omega) (by omega)), fun j => ?_, ?_⟩
  · rw [f _ _ (by omega) (by omega) (by omega) (by omega), f _ _ (by omega) (by omega) (by omega) (by omega)]
    exact h3 j
  · rw [f _ _ (by omega) (by omega) (by omega) (by omega)]
    exact h4
theorem ka_of (ha : a1 = 35 ∨ a1 = 36) (x : Int32) : kI a1 x = mIn x 17 := by
  rcases ha with rfl | rfl
  · exact kI_35 x
  · exact kI_36 x
theorem na_of (ha : a1 = 35 ∨ a1 = 36) : a1 ≠ shU b + 15 ∧ a1 ≠ shU b + 8 ∧ a1 ≠ shU b + 14 := by
  rcases ha with rfl | rfl <;> cases b <;> simp [shU]
theorem mod_n {s n : Nat} (hs : s < 2000000) (hn : n < 2000000) : nI s - nI s / nI n * nI n = nI (s % n) := xMd hs hn
theorem c_magpie (ha : a1 = 35 ∨ a1 = 36) (hn : n ≤ 5) (hS : cSt b n S C) {sd : Nat} {R : Nat → Int32} (hsd : sd < 1000) (e : ∀ j, j < 17 → C.1 a1 j = if j = 16 then nI sd else R j) {Y : Nat} (ok : okR Y R) : ∃ C', fX8_sendMagpie (shU b) a1 C = some C' ∧ cFr b a1 C C' ∧ ∀ j, j < 17 → C'.1 a1 j = if j = 16 then nI sd else if 0 < n ∧ j = 10 + sd % n then nI (mIx (R j) - min (mIx (R j)) (sd / 100 % 3)) else R j := by
  have n1 := hS.2.2.2
  by_cases h0 : n = 0
  · refine ⟨C, ?_, cFr.r b a1 C, fun j hj => by rw [e j hj, if_neg (by omega : ¬ (0 < n ∧ j = 10 + sd % n))]⟩
    simp (disch := omega) [fX8_sendMagpie, fX8_sendMagpie_41, g_t, b_d, b_c, b_v, Bool.and_true, Bool.and_self, Bool.true_and, xL, xN1, nI_add, xM, xS, xP, xIx, xIn, xLe, xLt, xEq, xDv, kO_u, n1, h0]
  · have hm : sd % n < n := Nat.mod_lt _ (by omega)
    have e16 : C.1 a1 16 = nI sd := by rw [e 16 (by omega), if_pos rfl]
    obtain ⟨_, _, z, _, _, hz, _, _, ez⟩ := ok.1 (sd % n) (by omega)
    have eb : C.1 a1 (10 + sd % n) = nI z := by rw [e _ (by omega), if_neg (by omega)]; exact ez
    refine ⟨sI C a1 (10 + sd % n) (nI (z - min (sd / 100 % 3) z)), ?_, (cFr.r b a1 C).sI, fun j hj => ?_⟩
    · have c1 : ¬ nI n ≤ nI 0 := fun q => by have := (xLe (by omega) (by omega)).mp q; omega
      have c2 : (decide (¬ nI n = nI 0)) = true := by
        rw [decide_eq_true_iff]
        exact fun q => h0 ((xEq (by omega) (by omega)).mp q)
      have c3 : (decide (¬ nI 3 = nI 0)) = true := by decide
      have c4 : (decide (¬ nI 100 = nI 0)) = true := by decide
      have d1 : nI sd - nI sd / nI n * nI n = nI (sd % n) := xMd (by omega) (by omega)
      have d2 : nI sd / nI 100 = nI (sd / 100) := xDv (by omega) (by omega)
      have d3 : nI (sd / 100) - nI (sd / 100) / nI 3 * nI 3 = nI (sd / 100 % 3) := xMd (by omega) (by omega)
      have d4 := nmin (a := sd / 100 % 3) (c := z) (by omega) (by omega)
      have d5 : min (sd / 100 % 3) z ≤ z := by omega
      have d6 : nI z - nI (min (sd / 100 % 3) z) = nI (z - min (sd / 100 % 3) z) := xS d5
      have i16 : mIx (nI 16) = 16 := rfl
      have z16 : mIn (nI 16) 17 = true := rfl
      simp (disch := omega) only [fX8_sendMagpie, fX8_sendMagpie_41, g_t, b_d, b_c, b_v, Bool.and_true, Bool.and_self, Bool.true_and, xL, kO_u, ka_of ha, n1, c1, if_false, i16, z16, e16, c2, c3, c4, d1, d2, d3, nI_add, xIx, xIn, eb, d4, d6]
    · rw [sI_rd, e j hj]
      by_cases q : j = 10 + sd % n
      · rw [if_pos ⟨rfl, q⟩, if_neg (by omega), if_pos ⟨by omega, q⟩, q, ez, xIx (by omega), Nat.min_comm]
      · rw [if_neg (by omega), if_neg (by omega : ¬ (0 < n ∧ j = 10 + sd % n))]
end
