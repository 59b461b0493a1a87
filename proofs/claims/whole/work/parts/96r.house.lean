/-! PROVINCE: a house is read by both. -/
section
variable {T : Nat → Nat} {t : Nat}
theorem told_PQ {j : Nat} (hj : j < 15) {v x y lo hi : Int32} {c : Int64} {C L C' L' : mT} (h1 : fX4_takeTold (900000 + j) v C = some (x, C')) (h2 : fX12_told c lo hi L = some (y, L')) (h : PQ C L) : PQ C' L' := by
  obtain ⟨w, pl, a, b⟩ := h
  obtain ⟨x', C2, r1, r2, r3⟩ := c_toldD a hj v
  rw [r1] at h1
  rw [m_toldD b] at h2
  cases h1
  cases h2
  exact ⟨w, pl, r2, b⟩
theorem opt_PQ {j : Nat} (hj : j < 15) {x y : Int32} {c : Int64} {C L C' L' : mT} (h1 : (bndC (fX4_isWord (900000 + j) C) fun x2 S => if x2 = 0 then some ((0 : Int32), S) else fX4_takeTold (900000 + j) (9 : Int32) S) = some (x, C')) (h2 : fX12_option c L = some (y, L')) (h : PQ C L) : PQ C' L' := by
  obtain ⟨w, pl, a, b⟩ := h
  have n1 := (mD_ne b).1
  rw [c_isWD a hj, b_c, if_pos rfl] at h1
  have : fX12_option c L = some (0, L) := by
    simp only [fX12_option, fX12_option_26, fX12_option_27, kO_187, g_t, b_d, b_c, b_v, Bool.and_true, Bool.and_self, Bool.true_and, if_neg n1]
  rw [this] at h2
  cases h1
  cases h2
  exact ⟨w, pl, a, b⟩
theorem opt_k (a : Nat) (v : Int32) (C : mT) (k : Int32 → mT → Option mT) : (bndC (fX4_isWord a C) fun x2 S => if x2 = 0 then k (0 : Int32) S else bndC (fX4_takeTold a v S) fun x S' => k x S') = bndC (bndC (fX4_isWord a C) fun x2 S => if x2 = 0 then some ((0 : Int32), S) else fX4_takeTold a v S) k := by
  cases fX4_isWord a C with
  | none => rfl
  | some z =>
    obtain ⟨x, S⟩ := z
    rw [b_c, b_c]
    by_cases c : x = 0
    · rw [if_pos c, if_pos c, b_c]
    · rw [if_neg c, if_neg c]
/-- the houses as both hold them while they read -/
def SJ (T : Nat → Nat) (t u n : Nat) (C L : mT) : Prop := n ≤ 5 ∧ C.1 u 9 = nI n ∧ L.1 187 35 = nI n ∧ nmJ T t u n C L ∧ ∀ h, h < n → ∃ p d j q, p ≤ 60 ∧ d ≤ 7 ∧ j ≤ 9 ∧ q ≤ 9 ∧ C.1 (u + 2) h = nI p ∧ L.1 201 h = nI p ∧ C.1 (u + 3) h = nI d ∧ L.1 202 h = nI d ∧ C.1 (u + 4) h = nI j ∧ L.1 203 h = nI j ∧ C.1 (u + 5) h = nI q ∧ L.1 204 h = nI q
def fH (u : Nat) (C C' : mT) : Prop := (∀ a j, a ≠ 1 → ¬ (a = u ∧ j = 9) → a ≠ u + 2 → a ≠ u + 3 → a ≠ u + 4 → a ≠ u + 5 → C'.1 a j = C.1 a j) ∧ (∀ a j, a ≠ 1 → a ≠ u + 1 → C'.2 a j = C.2 a j) ∧ C'.1 1 1 = C.1 1 1
def fHm (L L' : mT) : Prop := (∀ a j, ¬ (a = 187 ∧ (j = 2 ∨ j = 3 ∨ j = 4 ∨ j = 6 ∨ j = 7 ∨ j = 8 ∨ j = 35)) → ¬ (201 ≤ a ∧ a ≤ 204) → L'.1 a j = L.1 a j) ∧ ∀ a j, ¬ (a = 187 ∧ j = 9) → a ≠ 189 → L'.2 a j = L.2 a j
theorem fR.h {u : Nat} {C C' : mT} (h : fR C C') : fH u C C' := ⟨fun a j g _ _ _ _ _ => (h.1 a j g).1, fun a j g _ => (h.1 a j g).2, h.2⟩
theorem fH.tr {u : Nat} {C D E : mT} (h : fH u C D) (h2 : fH u D E) : fH u C E := ⟨fun a j g1 g2 g3 g4 g5 g6 => (h2.1 a j g1 g2 g3 g4 g5 g6).trans (h.1 a j g1 g2 g3 g4 g5 g6), fun a j g1 g2 => (h2.2.1 a j g1 g2).trans (h.2.1 a j g1 g2), h2.2.2.trans h.2.2⟩
theorem fQw.hm {L L' : mT} (h : fQw L L') : fHm L L' := ⟨fun a j g _ => h.1 a j (by omega), fun a j g _ => h.2 a j g⟩
theorem fHm.tr {C D E : mT} (h : fHm C D) (h2 : fHm D E) : fHm C E := ⟨fun a j g1 g2 => (h2.1 a j g1 g2).trans (h.1 a j g1 g2), fun a j g1 g2 => (h2.2 a j g1 g2).trans (h.2 a j g1 g2)⟩
theorem c_addH {u n : Nat} (hu : kSh u) (hn : n < 5) {C : mT} (h9 : C.1 u 9 = nI n) (v1 : Int64) (v3 v4 v5 v6 : Int32) : fX8_addHouse u v1 v3 v4 v5 v6 C = some (sI (sI (sI (sI (sI (sJ C (u + 1) n v1) (u + 2) n v3) (u + 3) n v4) (u + 4) n v5) (u + 5) n v6) u 9 (nI (n + 1))) := by
  obtain ⟨u1, u2, u3, u4, u5, u6, u7⟩ := hu
  have c : ¬ (5 : Int32) ≤ nI n := fun z => by have := (xLe (a := 5) (by omega) (by omega)).mp z; omega
  have e1 : (sJ C (u + 1) n v1).1 u 9 = nI n := by rw [sJ_1]; exact h9
  have e2 : (sI (sJ C (u + 1) n v1) (u + 2) n v3).1 u 9 = nI n := by rw [sI_ne (by omega)]; exact e1
  have e3 : (sI (sI (sJ C (u + 1) n v1) (u + 2) n v3) (u + 3) n v4).1 u 9 = nI n := by rw [sI_ne (by omega)]; exact e2
  have e4 : (sI (sI (sI (sJ C (u + 1) n v1) (u + 2) n v3) (u + 3) n v4) (u + 4) n v5).1 u 9 = nI n := by rw [sI_ne (by omega)]; exact e3
  have e5 : (sI (sI (sI (sI (sJ C (u + 1) n v1) (u + 2) n v3) (u + 3) n v4) (u + 4) n v5) (u + 5) n v6).1 u 9 = nI n := by rw [sI_ne (by omega)]; exact e4
  have o1 : nI n + (1 : Int32) = nI (n + 1) := nI_add n 1
  simp (disch := omega) only [fX8_addHouse, fX8_addHouse_71, u1, u2, u3, u4, u5, u6, g_t, b_d, b_c, b_v, Bool.and_true, Bool.and_self, Bool.true_and, h9, if_neg c, xIx, xIn, e1, e2, e3, e4, e5, o1]
theorem addH_f {u n : Nat} (hu : kSh u) (C : mT) (v1 : Int64) (v3 v4 v5 v6 v7 : Int32) : fH u C (sI (sI (sI (sI (sI (sJ C (u + 1) n v1) (u + 2) n v3) (u + 3) n v4) (u + 4) n v5) (u + 5) n v6) u 9 v7) := by
  have := hu.2.2.2.2.2.2
  exact ⟨fun a j g1 g2 g3 g4 g5 g6 => by rw [sI_ne (by omega), sI_ne (by omega), sI_ne (by omega), sI_ne (by omega), sI_ne (by omega), sJ_1], fun a j g1 g2 => by rw [sI_2, sI_2, sI_2, sI_2, sI_2, sJ_ne (by omega)], by rw [sI_ne (by omega), sI_ne (by omega), sI_ne (by omega), sI_ne (by omega), sI_ne (by omega), sJ_1]⟩
/-- what the class does behind the name -/
def cRest (u : Nat) (x4 : Int64) (S : mT) : Option mT := bndC (fX4_takeTold 900001 (60 : Int32) S) fun x6 S5 => bndC (fX4_takeTold 900002 (7 : Int32) S5) fun x8 S7 => bndC (bndC (fX4_isWord 900003 S7) fun x2 S => if x2 = 0 then some ((0 : Int32), S) else fX4_takeTold 900003 (9 : Int32) S) fun x10 S9 => bndC (bndC (fX4_isWord 900004 S9) fun x2 S => if x2 = 0 then some ((0 : Int32), S) else fX4_takeTold 900004 (9 : Int32) S) fun x12 S11 => fX8_addHouse u x4 x6 x8 x10 x12 S11
theorem bV_id (x : Option mT) : (bndV x fun S => some S) = x := by cases x <;> rfl
theorem c_rest (u : Nat) (S : mT) : fX4_readHouse_13 u S = bndV (fX4_advance S) fun S2 => bndC (fX4_takeName u S2) fun x4 S3 => cRest u x4 S3 := by
  have e64 : ∀ x4 x6 x8 x10 S9, fX4_readHouse_64 u x4 x6 x8 x10 S9 = bndC (bndC (fX4_isWord 900004 S9) fun x2 S => if x2 = 0 then some ((0 : Int32), S) else fX4_takeTold 900004 (9 : Int32) S) fun x12 S11 => fX8_addHouse u x4 x6 x8 x10 x12 S11 := fun x4 x6 x8 x10 S9 => by
    rw [← opt_k]
    unfold fX4_readHouse_64 fX4_readHouse_87
    simp only [bV_id]
  unfold fX4_readHouse_13 cRest
  congr 1
  funext S2
  congr 1
  funext x4 S3
  congr 1
  funext x6 S5
  congr 1
  funext x8 S7
  rw [← opt_k]
  simp only [e64]
theorem c_restD {u n w pl : Nat} (hu : kSh u) (hn : n < 5) {C : mT} (h9 : C.1 u 9 = nI n) (h : cD w pl C) (x4 : Int64) : ∃ C', cRest u x4 C = some C' ∧ cD w pl C' ∧ fH u C C' := by
  have hu7 := hu.2.2.2.2.2.2
  obtain ⟨x6, C1, a1, a2, a3⟩ := c_toldD h (j := 1) (by omega) (60 : Int32)
  obtain ⟨x8, C2, b1, b2, b3⟩ := c_toldD a2 (j := 2) (by omega) (7 : Int32)
  have a1' : fX4_takeTold 900001 (60 : Int32) C = some (x6, C1) := a1
  have b1' : fX4_takeTold 900002 (7 : Int32) C1 = some (x8, C2) := b1
  have i3 : fX4_isWord 900003 C2 = some (0, C2) := c_isWD b2 (j := 3) (by omega)
  have i4 : fX4_isWord 900004 C2 = some (0, C2) := c_isWD b2 (j := 4) (by omega)
  have h9' : C2.1 u 9 = nI n := by rw [(b3.1 _ _ (by omega)).1, (a3.1 _ _ (by omega)).1]; exact h9
  have ad := c_addH hu hn h9' x4 x6 x8 (0 : Int32) (0 : Int32)
  refine ⟨_, ?_, ?_, (a3.tr b3).h.tr (addH_f (n := n) hu C2 x4 x6 x8 0 0 (nI (n + 1)))⟩
  · simp only [cRest, a1', b1', i3, i4, g_t, b_d, b_c, b_v, Bool.and_true, Bool.and_self, Bool.true_and, if_true]
    exact ad
  · obtain ⟨q1, q2, q3, q4, q5⟩ := b2
    exact ⟨q1, q2, by rw [sI_ne (by omega), sI_ne (by omega), sI_ne (by omega), sI_ne (by omega), sI_ne (by omega), sJ_1]; exact q3, by rw [sI_ne (by omega), sI_ne (by omega), sI_ne (by omega), sI_ne (by omega), sI_ne (by omega), sJ_1]; exact q4, by rw [sI_ne (by omega), sI_ne (by omega), sI_ne (by omega), sI_ne (by omega), sI_ne (by omega), sJ_1]; exact q5⟩
/-- the name: none that will do -/
theorem m_h31D {w pl : Nat} {L : mT} (h : mD w pl L) : fX12_readHouse_31 L = some L := by
  have n2 := (mD_ne h).2
  simp only [fX12_readHouse_31, kO_187, g_t, b_d, b_c, b_v, Bool.and_true, Bool.and_self, Bool.true_and, if_neg n2]
end
