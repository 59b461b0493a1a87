/-! PROVINCE: steps of a formula. -/
def mD (f pl : Nat) (L : mT) : Prop := 1 ≤ f ∧ f ≤ 4 ∧ L.1 187 2 = nI f ∧ L.1 187 3 = nI pl
/-- what a formula of the reference leaves as it is -/
def fZ (f : Nat) (L L' : mT) : Prop := (∀ a j, a ≠ 190 → a ≠ 191 → a ≠ 192 → a ≠ 196 → ¬ (a = 187 ∧ (j = 2 ∨ j = 3 ∨ j = 4 ∨ j = 6 ∨ j = 7 ∨ j = 8 ∨ j = 22 ∨ j = 23 ∨ j = 25 ∨ j = 26)) → L'.1 a j = L.1 a j) ∧ (∀ a j, ¬ (a = 187 ∧ j = 9) → L'.2 a j = L.2 a j) ∧ (∀ g i, g ≠ f → i < 320 → f < 3 → g < 3 → L'.1 190 (320 * g + i) = L.1 190 (320 * g + i) ∧ L'.1 191 (320 * g + i) = L.1 191 (320 * g + i)) ∧ ∀ g, g ≠ f → L'.1 192 g = L.1 192 g
theorem fZ.rf (f : Nat) (L : mT) : fZ f L L := ⟨fun _ _ _ _ _ _ _ => rfl, fun _ _ _ => rfl, fun _ _ _ _ _ _ => ⟨rfl, rfl⟩, fun _ _ => rfl⟩
theorem fZ.tr {f : Nat} {C D E : mT} (h : fZ f C D) (h2 : fZ f D E) : fZ f C E := ⟨fun a j g1 g2 g3 g4 g5 => (h2.1 a j g1 g2 g3 g4 g5).trans (h.1 a j g1 g2 g3 g4 g5), fun a j g => (h2.2.1 a j g).trans (h.2.1 a j g), fun g i g1 g2 g3 g4 => ⟨(h2.2.2.1 g i g1 g2 g3 g4).1.trans (h.2.2.1 g i g1 g2 g3 g4).1, (h2.2.2.1 g i g1 g2 g3 g4).2.trans (h.2.2.1 g i g1 g2 g3 g4).2⟩, fun g g1 => (h2.2.2.2 g g1).trans (h.2.2.2 g g1)⟩
theorem fQ.z {f : Nat} {L L' : mT} (h : fQ L L') : fZ f L L' := ⟨fun a j g1 g2 g3 g4 g5 => h.1 a j (by omega), fun a j g => h.2 a j g, fun g i g1 g2 g3 g4 => ⟨h.1 _ _ (by omega), h.1 _ _ (by omega)⟩, fun g g1 => h.1 _ _ (by omega)⟩
theorem fF2.z {f : Nat} {L L' : mT} (h : fF2 (f := f) L L') : fZ f L L' := ⟨fun a j g1 g2 g3 g4 g5 => h.1 a j g1 g2 g3 g4 (by omega), fun a j g => by rw [h.2.1], h.2.2.1, h.2.2.2⟩
theorem fZ.s7 {f : Nat} {C D : mT} (h : fZ f C D) {k : Nat} (hk : k = 2 ∨ k = 3 ∨ k = 4 ∨ k = 6 ∨ k = 7 ∨ k = 8 ∨ k = 22 ∨ k = 23 ∨ k = 25 ∨ k = 26) (v : Int32) : fZ f C (sI D 187 k v) := ⟨fun a j g1 g2 g3 g4 g5 => by rw [sI_ne (by omega)]; exact h.1 a j g1 g2 g3 g4 g5, fun a j g => by rw [sI_2]; exact h.2.1 a j g, fun g i g1 g2 g3 g4 => by rw [sI_ne (by omega), sI_ne (by omega)]; exact h.2.2.1 g i g1 g2 g3 g4, fun g g1 => by rw [sI_ne (by omega)]; exact h.2.2.2 g g1⟩
theorem fZ.s6 {f : Nat} {C D : mT} (h : fZ f C D) (k : Nat) (v : Int32) : fZ f C (sI D 196 k v) := ⟨fun a j g1 g2 g3 g4 g5 => by rw [sI_ne (by omega)]; exact h.1 a j g1 g2 g3 g4 g5, fun a j g => by rw [sI_2]; exact h.2.1 a j g, fun g i g1 g2 g3 g4 => by rw [sI_ne (by omega), sI_ne (by omega)]; exact h.2.2.1 g i g1 g2 g3 g4, fun g g1 => by rw [sI_ne (by omega)]; exact h.2.2.2 g g1⟩
section
variable {T : Nat → Nat} {t : Nat} {f : Nat}
theorem fZ.tp {C C' : mT} (h : fZ f C C') (hp : tpM T t C) : tpM T t C' := ⟨by rw [h.1 _ _ (by omega) (by omega) (by omega) (by omega) (by omega)]; exact hp.1, fun k hk => by rw [h.1 _ _ (by omega) (by omega) (by omega) (by omega) (by omega)]; exact hp.2 k hk⟩
theorem sr_lt (hT : ∀ k, k < t → T k < 256) (p : Nat) : srN T t p < 256 ∧ tkN T t p ≤ 4 ∧ (srN T t p = 3 ↔ tkN T t p = 4) ∧ (srN T t p = 2 ↔ tkN T t p = 2) ∧ (srN T t p = 1 ↔ tkN T t p = 1) ∧ (srN T t p = 0 ↔ tkN T t p = 0) ∧ (tkN T t p = 3 → sB (T (tbN T t p)) = true ∧ srN T t p = T (tbN T t p)) ∧ (5 ≤ srN T t p → tkN T t p = 3) := by
  have hk4 : tkN T t p ≤ 4 := by
    unfold tkN
    repeat' split
    all_goals omega
  have hs : tkN T t p = 3 → tbN T t p < t ∧ sB (T (tbN T t p)) = true := fun c3 => by
    unfold tkN at c3
    by_cases c1 : t ≤ tbN T t p
    · rw [if_pos c1] at c3
      omega
    rw [if_neg c1] at c3
    refine ⟨by omega, ?_⟩
    split at c3
    · split at c3 <;> omega
    · split at c3
      · split at c3 <;> omega
      · split at c3
        · assumption
        · omega
  by_cases c : tkN T t p = 3
  · obtain ⟨h1, h2⟩ := hs c
    have e : srN T t p = T (tbN T t p) := by unfold srN; rw [if_pos c]
    have hc := hT _ h1
    have g : 5 ≤ T (tbN T t p) := by
      rcases Nat.lt_or_ge (T (tbN T t p)) 5 with u | u
      · exfalso
        have : ∀ c, c < 5 → sB c = false := by decide
        rw [this _ u] at h2
        cases h2
      · exact u
    rw [e]
    exact ⟨hc, by omega, ⟨fun z => by omega, fun z => by omega⟩, ⟨fun z => by omega, fun z => by omega⟩, ⟨fun z => by omega, fun z => by omega⟩, ⟨fun z => by omega, fun z => by omega⟩, fun _ => ⟨h2, rfl⟩, fun _ => c⟩
  · have e : srN T t p = if tkN T t p = 4 then 3 else tkN T t p := by unfold srN; rw [if_neg c]
    by_cases d : tkN T t p = 4
    · rw [if_pos d] at e
      rw [e]
      exact ⟨by omega, by omega, ⟨fun z => d, fun z => rfl⟩, ⟨fun z => by omega, fun z => by omega⟩, ⟨fun z => by omega, fun z => by omega⟩, ⟨fun z => by omega, fun z => by omega⟩, fun z => absurd z c, fun z => by omega⟩
    · rw [if_neg d] at e
      rw [e]
      exact ⟨by omega, by omega, ⟨fun z => by omega, fun z => by omega⟩, ⟨fun z => z, fun z => z⟩, ⟨fun z => z, fun z => z⟩, ⟨fun z => z, fun z => z⟩, fun z => absurd z c, fun z => by omega⟩
theorem m_wr (hT : ∀ k, k < t → T k < 256) {p : Nat} {L : mT} (h : mTo T t p L) {w : Nat} (hw : 1 ≤ w) (hw4 : w ≤ 4) : ∃ L', fX12_wrong (nI w) L = some L' ∧ mD (if tkN T t p = 4 then 1 else w) (tbN T t p) L' ∧ (∀ a j, ¬ (a = 187 ∧ (j = 2 ∨ j = 3)) → L'.1 a j = L.1 a j) ∧ L'.2 = L.2 := by
  obtain ⟨g2, g6, g7, _⟩ := h
  obtain ⟨s1, s2, s3, _⟩ := sr_lt hT p
  have c : nI 0 ≤ 0 := by decide
  have a7 : ∀ v, (sI L 187 2 v).1 187 7 = nI (tbN T t p) := fun v => by rw [sI_ne (by omega)]; exact g7
  by_cases d : tkN T t p = 4
  · have d' : nI (srN T t p) = (3 : Int32) := by rw [s3.mpr d]; rfl
    rw [if_pos d]
    refine ⟨sI (sI L 187 2 (1 : Int32)) 187 3 (nI (tbN T t p)), ?_, ⟨by omega, by omega, by rw [sI_ne (by omega), sI_eq]; rfl, by rw [sI_eq]⟩, fun a j g => by rw [sI_ne (by omega), sI_ne (by omega)], by rw [sI_2, sI_2]⟩
    simp only [fX12_wrong, fX12_wrong_22, kO_187, g_t, b_d, b_c, b_v, Bool.and_true, Bool.and_self, Bool.true_and, g2, if_pos c, g6, if_pos d', a7]
  · have d' : ¬ nI (srN T t p) = (3 : Int32) := fun z => d (s3.mp ((xEq (b := 3) (by omega) (by omega)).mp z))
    rw [if_neg d]
    refine ⟨sI (sI L 187 2 (nI w)) 187 3 (nI (tbN T t p)), ?_, ⟨hw, hw4, by rw [sI_ne (by omega), sI_eq], by rw [sI_eq]⟩, fun a j g => by rw [sI_ne (by omega), sI_ne (by omega)], by rw [sI_2, sI_2]⟩
    simp only [fX12_wrong, fX12_wrong_22, kO_187, g_t, b_d, b_c, b_v, Bool.and_true, Bool.and_self, Bool.true_and, g2, if_pos c, g6, if_neg d', a7]
theorem mD_ne {w pl : Nat} {L : mT} (h : mD w pl L) : ¬ L.1 187 2 = 0 ∧ ¬ L.1 187 2 ≤ 0 := by
  obtain ⟨h1, h2, h3, _⟩ := h
  rw [h3]
  exact ⟨fun z => by have := (xEq (b := 0) (by omega) (by omega)).mp z; omega, fun z => by have := (xLe (b := 0) (by omega) (by omega)).mp z; omega⟩
theorem wr_z {L L' : mT} (h : ∀ a j, ¬ (a = 187 ∧ (j = 2 ∨ j = 3)) → L'.1 a j = L.1 a j) (h2 : L'.2 = L.2) : fZ f L L' := ⟨fun a j _ _ _ _ g => h a j (by omega), fun a j _ => by rw [h2], fun g i _ _ _ _ => ⟨h _ _ (by omega), h _ _ (by omega)⟩, fun g _ => h _ _ (by omega)⟩
/-- the class's sign -/
theorem c_isS {p : Nat} {C : mT} (hT : ∀ k, k < t → T k < 256) (h : cT T t p C) {c : Nat} (hc : c < 256) (h5 : 5 ≤ c) : fX4_isSign (nI c) C = some (if srN T t p = c then 1 else 0, C) := by
  obtain ⟨g2, g3, g4, g5, g6, _, _, g9⟩ := h
  obtain ⟨s1, s2, s3, s4, s5, s6, s7, s8⟩ := sr_lt hT p
  by_cases d : tkN T t p = 3
  · have d' : nI (tkN T t p) = (3 : Int32) := by rw [d]; rfl
    have e := g9 d
    rw [← (s7 d).2] at e
    by_cases w : srN T t p = c
    · have w' : nI (srN T t p) = nI c := congrArg nI w
      rw [if_pos w]
      simp only [fX4_isSign, fX4_isSign_21, kO_1, g_t, b_d, b_c, b_v, Bool.and_true, Bool.and_self, Bool.true_and, g4, if_pos d', e, if_pos w', fb1]
    · have w' : ¬ nI (srN T t p) = nI c := fun z => w ((xEq (by omega) (by omega)).mp z)
      rw [if_neg w]
      simp only [fX4_isSign, fX4_isSign_20, fX4_isSign_21, kO_1, g_t, b_d, b_c, b_v, Bool.and_true, Bool.and_self, Bool.true_and, g4, if_pos d', e, if_neg w', fb0]
  · have d' : ¬ nI (tkN T t p) = (3 : Int32) := fun z => d ((xEq (b := 3) (by omega) (by omega)).mp z)
    rw [if_neg (fun z => d (s8 (by omega)))]
    simp only [fX4_isSign, fX4_isSign_20, fX4_isSign_21, kO_1, g_t, b_d, b_c, b_v, Bool.and_true, Bool.and_self, Bool.true_and, g4, if_neg d', fb0]
theorem c_isSD {C : mT} {w pl : Nat} (h : cD w pl C) (v : Int32) : fX4_isSign v C = some (0, C) := by
  have c' : ¬ nI 0 = (3 : Int32) := by decide
  simp only [fX4_isSign, fX4_isSign_20, fX4_isSign_21, kO_1, g_t, b_d, b_c, b_v, Bool.and_true, Bool.and_self, Bool.true_and, h.2.2.2.2, if_neg c', fb0]
/-- a law of the class: code, length, units -/
def kLw (a1 : Nat) : Prop := kO a1 0 = true ∧ (∀ x, kI (a1 + 1) x = mIn x 280) ∧ 9 ≤ a1 ∧ a1 ≤ 31
def cOK (a1 len un : Nat) (pc : Nat → Nat) (C : mT) : Prop := C.1 a1 2 = nI len ∧ C.1 a1 3 = nI un ∧ ∀ i, i < len → C.1 (a1 + 1) i = nI (pc i)
def cS (a1 : Nat) (C : mT) : Prop := ∃ len un, len ≤ 280 ∧ un ≤ 30 ∧ C.1 a1 2 = nI len ∧ C.1 a1 3 = nI un
def fK (a1 : Nat) (C C' : mT) : Prop := (∀ a j, a ≠ 1 → a ≠ a1 + 1 → ¬ (a = a1 ∧ (j = 2 ∨ j = 3)) → C'.1 a j = C.1 a j) ∧ (∀ a j, a ≠ 1 → C'.2 a j = C.2 a j) ∧ C'.1 1 1 = C.1 1 1
theorem fK.rf (a1 : Nat) (C : mT) : fK a1 C C := ⟨fun _ _ _ _ _ => rfl, fun _ _ _ => rfl, rfl⟩
theorem fK.tr {a1 : Nat} {C D E : mT} (h : fK a1 C D) (h2 : fK a1 D E) : fK a1 C E := ⟨fun a j g1 g2 g3 => (h2.1 a j g1 g2 g3).trans (h.1 a j g1 g2 g3), fun a j g => (h2.2.1 a j g).trans (h.2.1 a j g), h2.2.2.trans h.2.2⟩
theorem fR.k {a1 : Nat} {C C' : mT} (h : fR C C') : fK a1 C C' := ⟨fun a j g _ _ => (h.1 a j g).1, fun a j g => (h.1 a j g).2, h.2⟩
theorem fK.tp {a1 : Nat} (ha : kLw a1) {C C' : mT} (h : fK a1 C C') (hp : tpC T t C) : tpC T t C' := by
  have h9 := ha.2.2.1
  exact ⟨by rw [h.2.2]; exact hp.1, fun k hk => by rw [h.1 _ _ (by omega) (by omega) (by omega)]; exact hp.2 k hk⟩
theorem fR.ok {a1 len un : Nat} {pc : Nat → Nat} (ha : kLw a1) {C C' : mT} (h : fR C C') (hp : cOK a1 len un pc C) : cOK a1 len un pc C' := by
  have h9 := ha.2.2.1
  exact ⟨by rw [(h.1 _ _ (by omega)).1]; exact hp.1, by rw [(h.1 _ _ (by omega)).1]; exact hp.2.1, fun i hi => by rw [(h.1 _ _ (by omega)).1]; exact hp.2.2 i hi⟩
theorem fR.cs {a1 : Nat} (ha : kLw a1) {C C' : mT} (h : fR C C') (hp : cS a1 C) : cS a1 C' := by
  have h9 := ha.2.2.1
  obtain ⟨len, un, q1, q2, q3, q4⟩ := hp
  exact ⟨len, un, q1, q2, by rw [(h.1 _ _ (by omega)).1]; exact q3, by rw [(h.1 _ _ (by omega)).1]; exact q4⟩
theorem cD_k {a1 : Nat} (ha : kLw a1) {w pl : Nat} {C : mT} (h : cD w pl C) {k : Nat} {v : Int32} : cD w pl (sI C a1 k v) ∧ cD w pl (sI C (a1 + 1) k v) := by
  have h9 := ha.2.2.1
  obtain ⟨q1, q2, q3, q4, q5⟩ := h
  exact ⟨⟨q1, q2, by rw [sI_ne (by omega)]; exact q3, by rw [sI_ne (by omega)]; exact q4, by rw [sI_ne (by omega)]; exact q5⟩, ⟨q1, q2, by rw [sI_ne (by omega)]; exact q3, by rw [sI_ne (by omega)]; exact q4, by rw [sI_ne (by omega)]; exact q5⟩⟩
theorem cT_k {a1 : Nat} (ha : kLw a1) {p : Nat} {C : mT} (h : cT T t p C) {k : Nat} {v : Int32} : cT T t p (sI C a1 k v) ∧ cT T t p (sI C (a1 + 1) k v) := by
  have h9 := ha.2.2.1
  obtain ⟨q1, q2, q3, q4, q5, q6, q7, q8⟩ := h
  exact ⟨⟨by rw [sI_ne (by omega)]; exact q1, q2, by rw [sI_ne (by omega)]; exact q3, by rw [sI_ne (by omega)]; exact q4, by rw [sI_ne (by omega)]; exact q5, fun z => by rw [sI_2]; exact q6 z, fun z => by rw [sI_ne (by omega)]; exact q7 z, fun z => by rw [sI_ne (by omega)]; exact q8 z⟩, ⟨by rw [sI_ne (by omega)]; exact q1, q2, by rw [sI_ne (by omega)]; exact q3, by rw [sI_ne (by omega)]; exact q4, by rw [sI_ne (by omega)]; exact q5, fun z => by rw [sI_2]; exact q6 z, fun z => by rw [sI_ne (by omega)]; exact q7 z, fun z => by rw [sI_ne (by omega)]; exact q8 z⟩⟩
/-- a piece is written -/
theorem c_addK {a1 : Nat} (ha : kLw a1) {len un : Nat} (hl : len < 280) {pc : Nat → Nat} {C : mT} (h : cOK a1 len un pc C) (v : Nat) : ∃ C', fX0_add a1 (nI v) C = some C' ∧ cOK a1 (len + 1) un (fun i => if i = len then v else pc i) C' ∧ fK a1 C C' ∧ (∀ p, cT T t p C → cT T t p C') ∧ ∀ w pl, cD w pl C → cD w pl C' := by
  obtain ⟨k1, k2, k3, k4⟩ := id ha
  have c : ¬ (280 : Int32) ≤ nI len := fun z => by have := (xLe (a := 280) (by omega) (by omega)).mp z; omega
  have o1 : nI len + (1 : Int32) = nI (len + 1) := nI_add len 1
  have e2 : (sI C (a1 + 1) len (nI v)).1 a1 2 = nI len := by rw [sI_ne (by omega)]; exact h.1
  refine ⟨sI (sI C (a1 + 1) len (nI v)) a1 2 (nI (len + 1)), ?_, ⟨by rw [sI_eq], by rw [sI_ne (by omega), sI_ne (by omega)]; exact h.2.1, fun i hi => ?_⟩, ⟨fun a j g1 g2 g3 => by rw [sI_ne (by omega), sI_ne (by omega)], fun a j _ => by rw [sI_2, sI_2], by rw [sI_ne (by omega), sI_ne (by omega)]⟩, fun p hp => (cT_k ha (cT_k ha hp).2).1, fun w pl hp => (cD_k ha (cD_k ha hp).2).1⟩
  · simp (disch := omega) only [fX0_add, fX0_add_30, k1, k2, g_t, b_d, b_c, b_v, Bool.and_true, Bool.and_self, Bool.true_and, h.1, if_neg c, xIx, xIn, e2, o1]
  · rw [sI_ne (by omega)]
    by_cases u : i = len
    · subst u
      simp only [if_true, sI_eq]
    · simp only [if_neg u]
      rw [sI_ne (by omega)]
      exact h.2.2 i (by omega)
theorem c_addS {a1 : Nat} (ha : kLw a1) {C : mT} (h : cS a1 C) (v : Int32) : ∃ C', fX0_add a1 v C = some C' ∧ cS a1 C' ∧ fK a1 C C' ∧ ∀ w pl, cD w pl C → cD w pl C' := by
  obtain ⟨k1, k2, k3, k4⟩ := id ha
  obtain ⟨len, un, q1, q2, q3, q4⟩ := h
  by_cases c : 280 ≤ len
  · have c' : (280 : Int32) ≤ nI len := (xLe (a := 280) (by omega) (by omega)).mpr c
    exact ⟨C, by simp only [fX0_add, fX0_add_30, k1, g_t, b_d, b_c, b_v, Bool.and_true, Bool.and_self, Bool.true_and, q3, if_pos c'], ⟨len, un, q1, q2, q3, q4⟩, fK.rf a1 C, fun _ _ h => h⟩
  · have c' : ¬ (280 : Int32) ≤ nI len := fun z => c ((xLe (a := 280) (by omega) (by omega)).mp z)
    have o1 : nI len + (1 : Int32) = nI (len + 1) := nI_add len 1
    have e2 : (sI C (a1 + 1) len v).1 a1 2 = nI len := by rw [sI_ne (by omega)]; exact q3
    refine ⟨sI (sI C (a1 + 1) len v) a1 2 (nI (len + 1)), ?_, ⟨len + 1, un, by omega, q2, by rw [sI_eq], by rw [sI_ne (by omega), sI_ne (by omega)]; exact q4⟩, ⟨fun a j g1 g2 g3 => by rw [sI_ne (by omega), sI_ne (by omega)], fun a j _ => by rw [sI_2, sI_2], by rw [sI_ne (by omega), sI_ne (by omega)]⟩, fun w pl hp => (cD_k ha (cD_k ha hp).2).1⟩
    simp (disch := omega) only [fX0_add, fX0_add_30, k1, k2, g_t, b_d, b_c, b_v, Bool.and_true, Bool.and_self, Bool.true_and, q3, if_neg c', xIx, xIn, e2, o1]
/-! when a fault is told the class reads nothing more -/
theorem c_vnD {C : mT} {w pl : Nat} (h : cD w pl C) : fX4_valueNamed C = some (-1, C) := by
  have a := fun j (hj : j < 15) => c_isWD h hj
  have a2 : fX4_isWord 900002 C = some (0, C) := a 2 (by omega)
  have a12 : fX4_isWord 900012 C = some (0, C) := a 12 (by omega)
  have a3 : fX4_isWord 900003 C = some (0, C) := a 3 (by omega)
  have a4 : fX4_isWord 900004 C = some (0, C) := a 4 (by omega)
  have a13 : fX4_isWord 900013 C = some (0, C) := a 13 (by omega)
  have a14 : fX4_isWord 900014 C = some (0, C) := a 14 (by omega)
  simp only [fX4_valueNamed, fX4_valueNamed_69, a2, a12, a3, a4, a13, a14, g_t, b_d, b_c, b_v, Bool.and_true, Bool.and_self, Bool.true_and, if_true]
theorem c_tsD {C : mT} {w pl : Nat} (h : cD w pl C) (v : Int32) : ∃ C', fX4_takeSign v C = some C' ∧ cD w pl C' ∧ fR C C' := by
  obtain ⟨C', r1, r2, r3⟩ := c_refD h (2 : Int32)
  refine ⟨C', ?_, r2, r3⟩
  simp only [fX4_takeSign, fX4_takeSign_13, c_isSD h, g_t, b_d, b_c, b_v, Bool.and_true, Bool.and_self, Bool.true_and, if_true, r1, c_advD r2]
/-- all of the six -/
theorem c_dead {a1 : Nat} (ha : kLw a1) : ∀ (d idx e : Nat) (C : mT) (w pl : Nat), 6 * (7 - e) + (6 - idx) ≤ d → idx < 6 → e ≤ 7 → cD w pl C → cS a1 C → ∃ C', fP d idx a1 (nI e) C = some C' ∧ cD w pl C' ∧ cS a1 C' ∧ fK a1 C C'
  | 0, idx, e, C, w, pl, hd, hi, he, h, hs => by omega
  | d + 1, idx, e, C, w, pl, hd, hi, he, h, hs => by
    have k1 := ha.1
    have a9 : fX4_isWord 900009 C = some (0, C) := c_isWD h (j := 9) (by omega)
    have aW : ∀ C', cD w pl C' → ∀ j, j < 15 → fX4_isWord (900000 + j) C' = some (0, C') := fun C' h' j hj => c_isWD h' hj
    have n0 : ¬ (1600 : Int32) ≤ (0 : Int32) := by decide
    obtain ⟨K', hK⟩ : ∃ K', mK = K' + 1 := ⟨999999, rfl⟩
    rcases idx with _ | _ | _ | _ | _ | _ | idx
    · obtain ⟨C1, r1, r2, r3, r4⟩ := c_dead ha d 1 e C w pl (by omega) (by omega) he h hs
      have b9 : fX4_isWord 900009 C1 = some (0, C1) := aW C1 r2 9 (by omega)
      refine ⟨C1, ?_, r2, r3, r4⟩
      show fX4_readEither_0 a1 (fP d) (nI e) C = some C1
      rw [fX4_readEither_0, r1, b_v, hK]
      simp only [fX4_readEither_8, fX4_readEither_47, if_neg n0, b9, g_t, b_d, b_c, b_v, Bool.and_true, Bool.and_self, Bool.true_and, if_true]
    · obtain ⟨C1, r1, r2, r3, r4⟩ := c_dead ha d 2 e C w pl (by omega) (by omega) he h hs
      have b9 : fX4_isWord 900010 C1 = some (0, C1) := aW C1 r2 10 (by omega)
      refine ⟨C1, ?_, r2, r3, r4⟩
      show fX4_readBoth_0 a1 (fP d) (nI e) C = some C1
      rw [fX4_readBoth_0, r1, b_v, hK]
      simp only [fX4_readBoth_8, fX4_readBoth_47, if_neg n0, b9, g_t, b_d, b_c, b_v, Bool.and_true, Bool.and_self, Bool.true_and, if_true]
    · obtain ⟨C1, r1, r2, r3, r4⟩ := c_dead ha d 3 e C w pl (by omega) (by omega) he h hs
      have b9 : fX4_isWord 900011 C = some (0, C) := aW C h 11 (by omega)
      refine ⟨C1, ?_, r2, r3, r4⟩
      show fX4_readOne_0 a1 (fP d) (nI e) C = some C1
      simp only [fX4_readOne_0, fX4_readOne_98, b9, g_t, b_d, b_c, b_v, Bool.and_true, Bool.and_self, Bool.true_and, if_true, r1, c_isSD r2]
    · obtain ⟨C1, r1, r2, r3, r4⟩ := c_dead ha d 4 e C w pl (by omega) (by omega) he h hs
      refine ⟨C1, ?_, r2, r3, r4⟩
      show fX4_readSum_0 a1 (fP d) (nI e) C = some C1
      rw [fX4_readSum_0, r1, b_v, hK]
      simp only [fX4_readSum_8, fX4_readSum_65, if_neg n0, c_isSD r2, g_t, b_d, b_c, b_v, Bool.and_true, Bool.and_self, Bool.true_and, if_true]
    · obtain ⟨C1, r1, r2, r3, r4⟩ := c_dead ha d 5 e C w pl (by omega) (by omega) he h hs
      refine ⟨C1, ?_, r2, r3, r4⟩
      show fX4_readTerm_0 a1 (fP d) (nI e) C = some C1
      rw [fX4_readTerm_0, r1, b_v, hK]
      simp only [fX4_readTerm_8, fX4_readTerm_74, if_neg n0, c_isSD r2, g_t, b_d, b_c, b_v, Bool.and_true, Bool.and_self, Bool.true_and, if_true]
    · show ∃ C', fX4_readUnit_0 a1 (fP d) (nI e) C = some C' ∧ _
      obtain ⟨len, un, q1, q2, q3, q4⟩ := hs
      by_cases c : un < 30
      · have c' : nI un < (30 : Int32) := (xLt (b := 30) (by omega) (by omega)).mpr c
        have o1 : nI un + (1 : Int32) = nI (un + 1) := nI_add un 1
        have hD1 := (cD_k ha h (k := 3) (v := nI (un + 1))).1
        obtain ⟨C1, r1, r2, r3⟩ := c_refD hD1 (2 : Int32)
        have k9 := ha.2.2.1
        have k4 : ¬ nI 0 = (2 : Int32) := by decide
        have hk0 : fK a1 C (sI C a1 3 (nI (un + 1))) := ⟨fun a j g1 g2 g3 => by rw [sI_ne (by omega)], fun a j _ => by rw [sI_2], by rw [sI_ne (by omega)]⟩
        refine ⟨C1, ?_, r2, r3.cs ha ⟨len, un + 1, q1, by omega, by rw [sI_ne (by omega)]; exact q3, by rw [sI_eq]⟩, hk0.tr r3.k⟩
        simp only [fX4_readUnit_0, fX4_readUnit_110, fX4_readUnit_115, k1, kO_1, g_t, b_d, b_c, b_v, Bool.and_true, Bool.and_self, Bool.true_and, q4, if_pos c', o1, c_vnD hD1, hD1.2.2.2.2, if_neg k4, if_true, c_isSD hD1, r1]
      · have c' : ¬ nI un < (30 : Int32) := fun z => c ((xLt (b := 30) (by omega) (by omega)).mp z)
        obtain ⟨C1, r1, r2, r3⟩ := c_refD h (2 : Int32)
        refine ⟨C1, ?_, r2, r3.cs ha ⟨len, un, q1, q2, q3, q4⟩, r3.k⟩
        simp only [fX4_readUnit_0, k1, g_t, b_d, b_c, b_v, Bool.and_true, Bool.and_self, Bool.true_and, q4, if_neg c', r1]
    · omega
end
