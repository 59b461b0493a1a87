/-! WHICH CELLS a function may write. -/
def inE (o : Option Nat) (k : Nat) : Bool := match o with
  | none => true
  | some j => Nat.beq k j
def inL : List (Nat × Nat × Option Nat) → Nat → Nat → Bool
  | [], _, _ => false
  | (lo, hi, o) :: L, a, k => ((Nat.ble lo a && Nat.ble a hi) && inE o k) || inL L a k
/-- the cells of the list, and the cell A -/
def inM (A : Nat) (L : List (Nat × Nat × Option Nat)) (a k : Nat) : Bool := inL L a k || Nat.beq a A
theorem inM_self {A : Nat} {L : List (Nat × Nat × Option Nat)} {k : Nat} : inM A L A k = true := by
  unfold inM
  rw [show Nat.beq A A = true from Nat.beq_refl A, Bool.or_true]
theorem inL_mem {lo hi : Nat} {L : List (Nat × Nat × Option Nat)} {a k : Nat} (h : (L.contains (lo, hi, none)) = true) (h1 : lo ≤ a) (h2 : a ≤ hi) : inL L a k = true := by
  induction L with
  | nil => cases h
  | cons q L ih =>
    obtain ⟨x, y, o⟩ := q
    rw [List.contains_cons, Bool.or_eq_true] at h
    show (((Nat.ble x a && Nat.ble a y) && inE o k) || inL L a k) = true
    rcases h with h | h
    · have e := eq_of_beq h
      cases e
      rw [Nat.ble_eq_true_of_le h1, Nat.ble_eq_true_of_le h2]
      rfl
    · rw [ih h, Bool.or_true]
theorem inM_row {A : Nat} {L : List (Nat × Nat × Option Nat)} {a k : Nat} (lo hi : Nat) (h : a = 999999 ∨ lo ≤ a ∧ a ≤ hi) (h1 : L.contains (lo, hi, none) = true) (h2 : L.contains (999999, 999999, none) = true) : inM A L a k = true := by
  unfold inM
  rcases h with h | ⟨h3, h4⟩
  · rw [inL_mem h2 (by omega) (by omega), Bool.true_or]
  · rw [inL_mem h1 h3 h4, Bool.true_or]
def Fr (M : Nat → Nat → Bool) (S S' : mT) : Prop := ∀ a k, M a k = false → S'.1 a k = S.1 a k ∧ S'.2 a k = S.2 a k
theorem Fr.rfl (M : Nat → Nat → Bool) (S : mT) : Fr M S S := fun _ _ _ => ⟨Eq.refl _, Eq.refl _⟩
theorem Fr.trans {M : Nat → Nat → Bool} {S S1 S2 : mT} (h : Fr M S S1) (h2 : Fr M S1 S2) : Fr M S S2 := fun a k e => ⟨(h2 a k e).1.trans (h a k e).1, (h2 a k e).2.trans (h a k e).2⟩
theorem up2_rd {α : Type} {f : Nat → Nat → α} {a k i j : Nat} {v : α} (h : ¬ (i = a ∧ j = k)) : up2 f a k v i j = f i j := by
  by_cases e : i = a
  · subst e
    have hj : j ≠ k := fun q => h ⟨Eq.refl _, q⟩
    rw [up2_at]
    unfold va_up
    rw [if_neg hj]
  · rw [up2_ne e]
theorem Fr.sI {M : Nat → Nat → Bool} {S S1 : mT} (h : Fr M S S1) {a k : Nat} {v : Int32} (hm : M a k = true) : Fr M S (sI S1 a k v) := fun i j e => by
  refine ⟨?_, (h i j e).2⟩
  show up2 S1.1 a k v i j = _
  rw [up2_rd (fun q => by rw [q.1, q.2, hm] at e; cases e)]
  exact (h i j e).1
theorem Fr.sJ {M : Nat → Nat → Bool} {S S1 : mT} (h : Fr M S S1) {a k : Nat} {v : Int64} (hm : M a k = true) : Fr M S (sJ S1 a k v) := fun i j e => by
  refine ⟨(h i j e).1, ?_⟩
  show up2 S1.2 a k v i j = _
  rw [up2_rd (fun q => by rw [q.1, q.2, hm] at e; cases e)]
  exact (h i j e).2
theorem Fr.sC {M : Nat → Nat → Bool} {S S1 : mT} (h : Fr M S S1) {a d : Nat} {sp dp n : Int32} (hm : ∀ k, M d k = true) : Fr M S (sC S1 a d sp dp n) := fun i j e => by
  refine ⟨?_, (h i j e).2⟩
  show va_up S1.1 d _ i j = _
  have hd : i ≠ d := fun q => by rw [q, hm] at e; cases e
  unfold va_up
  rw [if_neg hd]
  exact (h i j e).1
def subL (L1 L2 : List (Nat × Nat × Option Nat)) : Bool := L1.all (fun q => L2.contains q || L2.contains (q.1, q.2.1, none))
theorem inL_sub {L1 L2 : List (Nat × Nat × Option Nat)} (h : subL L1 L2 = true) {a k : Nat} (h1 : inL L1 a k = true) : inL L2 a k = true := by
  have key : ∀ (L : List (Nat × Nat × Option Nat)) (q : Nat × Nat × Option Nat), L.contains q = true → ((Nat.ble q.1 a && Nat.ble a q.2.1) && inE q.2.2 k) = true → inL L a k = true := by
    intro L
    induction L with
    | nil => intro q h; cases h
    | cons x L ih =>
      intro q h h2
      obtain ⟨x1, x2, x3⟩ := x
      rw [List.contains_cons, Bool.or_eq_true] at h
      show (((Nat.ble x1 a && Nat.ble a x2) && inE x3 k) || inL L a k) = true
      rcases h with h | h
      · have e := eq_of_beq h
        subst e
        rw [h2, Bool.true_or]
      · rw [ih q h h2, Bool.or_true]
  induction L1 with
  | nil => cases h1
  | cons x L1 ih =>
    have h3 : ((L2.contains x || L2.contains (x.1, x.2.1, none)) && subL L1 L2) = true := h
    rw [Bool.and_eq_true] at h3
    obtain ⟨x1, x2, x3⟩ := x
    have h4 : (((Nat.ble x1 a && Nat.ble a x2) && inE x3 k) || inL L1 a k) = true := h1
    rw [Bool.or_eq_true] at h4
    rcases h4 with h4 | h4
    · have h5 := h3.1
      rw [Bool.or_eq_true] at h5
      rcases h5 with h5 | h5
      · exact key L2 _ h5 h4
      · refine key L2 _ h5 ?_
        rw [Bool.and_eq_true] at h4
        rw [h4.1]
        rfl
    · exact ih h3.2 h4
theorem Fr.mono {A1 A2 : Nat} {L1 L2 : List (Nat × Nat × Option Nat)} {S S' : mT} (h : Fr (inM A1 L1) S S') (h1 : subL L1 L2 = true) (h2 : ∀ k, inM A2 L2 A1 k = true) : Fr (inM A2 L2) S S' := fun a k e => by
  refine h a k ?_
  unfold inM at e ⊢
  rw [Bool.or_eq_false_iff] at e
  cases e1 : inL L1 a k with
  | true =>
    rw [inL_sub h1 e1] at e
    cases e.1
  | false =>
    cases e2 : Nat.beq a A1 with
    | false => exact Eq.refl _
    | true =>
      have e3 := Nat.eq_of_beq_eq_true e2
      subst e3
      have := h2 k
      unfold inM at this
      rw [e.1, e.2] at this
      cases this
theorem rr_38 (j : Nat) : rowR 38 j = 999999 ∨ 39 ≤ rowR 38 j ∧ rowR 38 j ≤ 79 := by
  have e : rowR 38 j = cond (Nat.blt j 41) (39 + j) NUL := Eq.refl _
  rw [e]
  cases h : Nat.blt j 41 with
  | true =>
    have h2 : j < 41 := Nat.le_of_ble_eq_true h
    refine Or.inr ⟨?_, ?_⟩
    · show 39 ≤ 39 + j
      omega
    · show 39 + j ≤ 79
      omega
  | false => exact Or.inl (Eq.refl _)
theorem rr_80 (j : Nat) : rowR 80 j = 999999 ∨ 81 ≤ rowR 80 j ∧ rowR 80 j ≤ 83 := by
  have e : rowR 80 j = cond (Nat.blt j 3) (81 + j) NUL := Eq.refl _
  rw [e]
  cases h : Nat.blt j 3 with
  | true =>
    have h2 : j < 3 := Nat.le_of_ble_eq_true h
    refine Or.inr ⟨?_, ?_⟩
    · show 81 ≤ 81 + j
      omega
    · show 81 + j ≤ 83
      omega
  | false => exact Or.inl (Eq.refl _)
theorem rr_86 (j : Nat) : rowR 86 j = 999999 ∨ 87 ≤ rowR 86 j ∧ rowR 86 j ≤ 91 := by
  have e : rowR 86 j = cond (Nat.blt j 5) (87 + j) NUL := Eq.refl _
  rw [e]
  cases h : Nat.blt j 5 with
  | true =>
    have h2 : j < 5 := Nat.le_of_ble_eq_true h
    refine Or.inr ⟨?_, ?_⟩
    · show 87 ≤ 87 + j
      omega
    · show 87 + j ≤ 91
      omega
  | false => exact Or.inl (Eq.refl _)
theorem rr_92 (j : Nat) : rowR 92 j = 999999 ∨ 93 ≤ rowR 92 j ∧ rowR 92 j ≤ 98 := by
  have e : rowR 92 j = cond (Nat.blt j 6) (93 + j) NUL := Eq.refl _
  rw [e]
  cases h : Nat.blt j 6 with
  | true =>
    have h2 : j < 6 := Nat.le_of_ble_eq_true h
    refine Or.inr ⟨?_, ?_⟩
    · show 93 ≤ 93 + j
      omega
    · show 93 + j ≤ 98
      omega
  | false => exact Or.inl (Eq.refl _)
theorem rr_121 (j : Nat) : rowR 121 j = 999999 ∨ 122 ≤ rowR 121 j ∧ rowR 121 j ≤ 126 := by
  have e : rowR 121 j = cond (Nat.blt j 5) (122 + j) NUL := Eq.refl _
  rw [e]
  cases h : Nat.blt j 5 with
  | true =>
    have h2 : j < 5 := Nat.le_of_ble_eq_true h
    refine Or.inr ⟨?_, ?_⟩
    · show 122 ≤ 122 + j
      omega
    · show 122 + j ≤ 126
      omega
  | false => exact Or.inl (Eq.refl _)
theorem rr_131 (j : Nat) : rowR 131 j = 999999 ∨ 132 ≤ rowR 131 j ∧ rowR 131 j ≤ 136 := by
  have e : rowR 131 j = cond (Nat.blt j 5) (132 + j) NUL := Eq.refl _
  rw [e]
  cases h : Nat.blt j 5 with
  | true =>
    have h2 : j < 5 := Nat.le_of_ble_eq_true h
    refine Or.inr ⟨?_, ?_⟩
    · show 132 ≤ 132 + j
      omega
    · show 132 + j ≤ 136
      omega
  | false => exact Or.inl (Eq.refl _)
theorem rr_141 (j : Nat) : rowR 141 j = 999999 ∨ 142 ≤ rowR 141 j ∧ rowR 141 j ≤ 173 := by
  have e : rowR 141 j = cond (Nat.blt j 32) (142 + j) NUL := Eq.refl _
  rw [e]
  cases h : Nat.blt j 32 with
  | true =>
    have h2 : j < 32 := Nat.le_of_ble_eq_true h
    refine Or.inr ⟨?_, ?_⟩
    · show 142 ≤ 142 + j
      omega
    · show 142 + j ≤ 173
      omega
  | false => exact Or.inl (Eq.refl _)
theorem rr_176 (j : Nat) : rowR 176 j = 999999 ∨ 177 ≤ rowR 176 j ∧ rowR 176 j ≤ 181 := by
  have e : rowR 176 j = cond (Nat.blt j 5) (177 + j) NUL := Eq.refl _
  rw [e]
  cases h : Nat.blt j 5 with
  | true =>
    have h2 : j < 5 := Nat.le_of_ble_eq_true h
    refine Or.inr ⟨?_, ?_⟩
    · show 177 ≤ 177 + j
      omega
    · show 177 + j ≤ 181
      omega
  | false => exact Or.inl (Eq.refl _)
section GF
abbrev LJ6_bitCount_0f7a4 : List (Nat × Nat × Option Nat) := [(999999, 999999, none)]
theorem rJ6_bitCount_0f7a4_0 {S' : mT} {r : Int32} {v0 : Int32} {S : mT} (hf : fJ6_bitCount_0f7a4 v0 S = some (r, S')) : Fr (inM 999999 LJ6_bitCount_0f7a4) S S' := by
  unfold fJ6_bitCount_0f7a4 at hf
  obtain ⟨x1, -, hf⟩ := bnd_ex hf
  obtain ⟨x2, -, hf⟩ := bnd_ex hf
  obtain ⟨x3, -, hf⟩ := bnd_ex hf
  obtain ⟨x4, -, hf⟩ := bnd_ex hf
  obtain ⟨x5, -, hf⟩ := bnd_ex hf
  cases hf
  exact (Fr.rfl (inM 999999 LJ6_bitCount_0f7a4) _)
theorem rJ6_bitCount_0f7a4 {v0 : Int32} {S S' : mT} {r : Int32} (hf : fJ6_bitCount_0f7a4 v0 S = some (r, S')) : Fr (inM 999999 LJ6_bitCount_0f7a4) S S' := rJ6_bitCount_0f7a4_0 hf
abbrev LJ7_fill_53178 : List (Nat × Nat × Option Nat) := [(999999, 999999, none)]
theorem rJ7_fill_53178_5 {a0 : Nat} {S' : mT} : ∀ (k : Nat) (v1 : Int32) (v2 : Int32) (v3 : Int32) (S : mT), fJ7_fill_53178_5 a0 k v1 v2 v3 S = some S' → Fr (inM a0 LJ7_fill_53178) S S' := by
  intro k
  induction k with
  | zero =>
    intro v1 v2 v3 S hf
    cases hf
  | succ k ih =>
    intro v1 v2 v3 S hf
    unfold fJ7_fill_53178_5 at hf
    by_cases hc : v3 ≤ v2
    · rw [if_pos hc] at hf
      cases hf
      exact (Fr.rfl (inM a0 LJ7_fill_53178) _)
    · rw [if_neg hc] at hf
      obtain ⟨-, hf⟩ := grd_ex hf
      obtain ⟨S2, eS2, hf⟩ := bnd_ex hf
      have F : Fr (inM a0 LJ7_fill_53178) S S2 := by
        rw [eS2]
        exact Fr.sI (Fr.rfl (inM a0 LJ7_fill_53178) _) inM_self
      obtain ⟨x3, -, hf⟩ := bnd_ex hf
      exact F.trans (ih _ _ _ _ hf)
theorem rJ7_fill_53178_0 {a0 : Nat} {S' : mT} {v1 : Int32} {S : mT} (hf : fJ7_fill_53178 a0 v1 S = some S') : Fr (inM a0 LJ7_fill_53178) S S' := by
  unfold fJ7_fill_53178 at hf
  obtain ⟨-, hf⟩ := grd_ex hf
  obtain ⟨x1, -, hf⟩ := bnd_ex hf
  exact (Fr.rfl (inM a0 LJ7_fill_53178) _).trans (rJ7_fill_53178_5 _ _ _ _ _ hf)
theorem rJ7_fill_53178 {a0 : Nat} {v1 : Int32} {S S' : mT} (hf : fJ7_fill_53178 a0 v1 S = some S') : Fr (inM a0 LJ7_fill_53178) S S' := rJ7_fill_53178_0 hf
abbrev LX0_add_9 : List (Nat × Nat × Option Nat) := [(999999, 999999, none), (9, 9, some 2), (10, 10, none)]
theorem rX0_add_30_9 {S' : mT} {S : mT} (hf : fX0_add_30 9 S = some S') : Fr (inM 999999 LX0_add_9) S S' := by
  unfold fX0_add_30 at hf
  cases hf
  exact (Fr.rfl (inM 999999 LX0_add_9) _)
theorem rX0_add_0_9 {S' : mT} {v1 : Int32} {S : mT} (hf : fX0_add 9 v1 S = some S') : Fr (inM 999999 LX0_add_9) S S' := by
  unfold fX0_add at hf
  obtain ⟨-, hf⟩ := grd_ex hf
  by_cases hc : (280 : Int32) ≤ (S.1 9 2)
  · rw [if_pos hc] at hf
    exact (Fr.rfl (inM 999999 LX0_add_9) _).trans (rX0_add_30_9 hf)
  · rw [if_neg hc] at hf
    obtain ⟨-, hf⟩ := grd_ex hf
    obtain ⟨S1, eS1, hf⟩ := bnd_ex hf
    have F : Fr (inM 999999 LX0_add_9) S S1 := by
      rw [eS1]
      exact Fr.sI (Fr.rfl (inM 999999 LX0_add_9) _) rfl
    obtain ⟨-, hf⟩ := grd_ex hf
    obtain ⟨S2, eS2, hf⟩ := bnd_ex hf
    have F : Fr (inM 999999 LX0_add_9) S S2 := by
      rw [eS2]
      exact Fr.sI F rfl
    exact F.trans (rX0_add_30_9 hf)
theorem rX0_add_9 {v1 : Int32} {S S' : mT} (hf : fX0_add 9 v1 S = some S') : Fr (inM 999999 LX0_add_9) S S' := rX0_add_0_9 hf
abbrev LX0_add_12 : List (Nat × Nat × Option Nat) := [(999999, 999999, none), (12, 12, some 2), (13, 13, none)]
theorem rX0_add_30_12 {S' : mT} {S : mT} (hf : fX0_add_30 12 S = some S') : Fr (inM 999999 LX0_add_12) S S' := by
  unfold fX0_add_30 at hf
  cases hf
  exact (Fr.rfl (inM 999999 LX0_add_12) _)
theorem rX0_add_0_12 {S' : mT} {v1 : Int32} {S : mT} (hf : fX0_add 12 v1 S = some S') : Fr (inM 999999 LX0_add_12) S S' := by
  unfold fX0_add at hf
  obtain ⟨-, hf⟩ := grd_ex hf
  by_cases hc : (280 : Int32) ≤ (S.1 12 2)
  · rw [if_pos hc] at hf
    exact (Fr.rfl (inM 999999 LX0_add_12) _).trans (rX0_add_30_12 hf)
  · rw [if_neg hc] at hf
    obtain ⟨-, hf⟩ := grd_ex hf
    obtain ⟨S1, eS1, hf⟩ := bnd_ex hf
    have F : Fr (inM 999999 LX0_add_12) S S1 := by
      rw [eS1]
      exact Fr.sI (Fr.rfl (inM 999999 LX0_add_12) _) rfl
    obtain ⟨-, hf⟩ := grd_ex hf
    obtain ⟨S2, eS2, hf⟩ := bnd_ex hf
    have F : Fr (inM 999999 LX0_add_12) S S2 := by
      rw [eS2]
      exact Fr.sI F rfl
    exact F.trans (rX0_add_30_12 hf)
theorem rX0_add_12 {v1 : Int32} {S S' : mT} (hf : fX0_add 12 v1 S = some S') : Fr (inM 999999 LX0_add_12) S S' := rX0_add_0_12 hf
abbrev LX0_add_15 : List (Nat × Nat × Option Nat) := [(999999, 999999, none), (15, 15, some 2), (16, 16, none)]
theorem rX0_add_30_15 {S' : mT} {S : mT} (hf : fX0_add_30 15 S = some S') : Fr (inM 999999 LX0_add_15) S S' := by
  unfold fX0_add_30 at hf
  cases hf
  exact (Fr.rfl (inM 999999 LX0_add_15) _)
theorem rX0_add_0_15 {S' : mT} {v1 : Int32} {S : mT} (hf : fX0_add 15 v1 S = some S') : Fr (inM 999999 LX0_add_15) S S' := by
  unfold fX0_add at hf
  obtain ⟨-, hf⟩ := grd_ex hf
  by_cases hc : (280 : Int32) ≤ (S.1 15 2)
  · rw [if_pos hc] at hf
    exact (Fr.rfl (inM 999999 LX0_add_15) _).trans (rX0_add_30_15 hf)
  · rw [if_neg hc] at hf
    obtain ⟨-, hf⟩ := grd_ex hf
    obtain ⟨S1, eS1, hf⟩ := bnd_ex hf
    have F : Fr (inM 999999 LX0_add_15) S S1 := by
      rw [eS1]
      exact Fr.sI (Fr.rfl (inM 999999 LX0_add_15) _) rfl
    obtain ⟨-, hf⟩ := grd_ex hf
    obtain ⟨S2, eS2, hf⟩ := bnd_ex hf
    have F : Fr (inM 999999 LX0_add_15) S S2 := by
      rw [eS2]
      exact Fr.sI F rfl
    exact F.trans (rX0_add_30_15 hf)
theorem rX0_add_15 {v1 : Int32} {S S' : mT} (hf : fX0_add 15 v1 S = some S') : Fr (inM 999999 LX0_add_15) S S' := rX0_add_0_15 hf
abbrev LX0_add_25 : List (Nat × Nat × Option Nat) := [(999999, 999999, none), (25, 25, some 2), (26, 26, none)]
theorem rX0_add_30_25 {S' : mT} {S : mT} (hf : fX0_add_30 25 S = some S') : Fr (inM 999999 LX0_add_25) S S' := by
  unfold fX0_add_30 at hf
  cases hf
  exact (Fr.rfl (inM 999999 LX0_add_25) _)
theorem rX0_add_0_25 {S' : mT} {v1 : Int32} {S : mT} (hf : fX0_add 25 v1 S = some S') : Fr (inM 999999 LX0_add_25) S S' := by
  unfold fX0_add at hf
  obtain ⟨-, hf⟩ := grd_ex hf
  by_cases hc : (280 : Int32) ≤ (S.1 25 2)
  · rw [if_pos hc] at hf
    exact (Fr.rfl (inM 999999 LX0_add_25) _).trans (rX0_add_30_25 hf)
  · rw [if_neg hc] at hf
    obtain ⟨-, hf⟩ := grd_ex hf
    obtain ⟨S1, eS1, hf⟩ := bnd_ex hf
    have F : Fr (inM 999999 LX0_add_25) S S1 := by
      rw [eS1]
      exact Fr.sI (Fr.rfl (inM 999999 LX0_add_25) _) rfl
    obtain ⟨-, hf⟩ := grd_ex hf
    obtain ⟨S2, eS2, hf⟩ := bnd_ex hf
    have F : Fr (inM 999999 LX0_add_25) S S2 := by
      rw [eS2]
      exact Fr.sI F rfl
    exact F.trans (rX0_add_30_25 hf)
theorem rX0_add_25 {v1 : Int32} {S S' : mT} (hf : fX0_add 25 v1 S = some S') : Fr (inM 999999 LX0_add_25) S S' := rX0_add_0_25 hf
abbrev LX0_add_28 : List (Nat × Nat × Option Nat) := [(999999, 999999, none), (28, 28, some 2), (29, 29, none)]
theorem rX0_add_30_28 {S' : mT} {S : mT} (hf : fX0_add_30 28 S = some S') : Fr (inM 999999 LX0_add_28) S S' := by
  unfold fX0_add_30 at hf
  cases hf
  exact (Fr.rfl (inM 999999 LX0_add_28) _)
theorem rX0_add_0_28 {S' : mT} {v1 : Int32} {S : mT} (hf : fX0_add 28 v1 S = some S') : Fr (inM 999999 LX0_add_28) S S' := by
  unfold fX0_add at hf
  obtain ⟨-, hf⟩ := grd_ex hf
  by_cases hc : (280 : Int32) ≤ (S.1 28 2)
  · rw [if_pos hc] at hf
    exact (Fr.rfl (inM 999999 LX0_add_28) _).trans (rX0_add_30_28 hf)
  · rw [if_neg hc] at hf
    obtain ⟨-, hf⟩ := grd_ex hf
    obtain ⟨S1, eS1, hf⟩ := bnd_ex hf
    have F : Fr (inM 999999 LX0_add_28) S S1 := by
      rw [eS1]
      exact Fr.sI (Fr.rfl (inM 999999 LX0_add_28) _) rfl
    obtain ⟨-, hf⟩ := grd_ex hf
    obtain ⟨S2, eS2, hf⟩ := bnd_ex hf
    have F : Fr (inM 999999 LX0_add_28) S S2 := by
      rw [eS2]
      exact Fr.sI F rfl
    exact F.trans (rX0_add_30_28 hf)
theorem rX0_add_28 {v1 : Int32} {S S' : mT} (hf : fX0_add 28 v1 S = some S') : Fr (inM 999999 LX0_add_28) S S' := rX0_add_0_28 hf
abbrev LX0_add_31 : List (Nat × Nat × Option Nat) := [(999999, 999999, none), (31, 31, some 2), (32, 32, none)]
theorem rX0_add_30_31 {S' : mT} {S : mT} (hf : fX0_add_30 31 S = some S') : Fr (inM 999999 LX0_add_31) S S' := by
  unfold fX0_add_30 at hf
  cases hf
  exact (Fr.rfl (inM 999999 LX0_add_31) _)
theorem rX0_add_0_31 {S' : mT} {v1 : Int32} {S : mT} (hf : fX0_add 31 v1 S = some S') : Fr (inM 999999 LX0_add_31) S S' := by
  unfold fX0_add at hf
  obtain ⟨-, hf⟩ := grd_ex hf
  by_cases hc : (280 : Int32) ≤ (S.1 31 2)
  · rw [if_pos hc] at hf
    exact (Fr.rfl (inM 999999 LX0_add_31) _).trans (rX0_add_30_31 hf)
  · rw [if_neg hc] at hf
    obtain ⟨-, hf⟩ := grd_ex hf
    obtain ⟨S1, eS1, hf⟩ := bnd_ex hf
    have F : Fr (inM 999999 LX0_add_31) S S1 := by
      rw [eS1]
      exact Fr.sI (Fr.rfl (inM 999999 LX0_add_31) _) rfl
    obtain ⟨-, hf⟩ := grd_ex hf
    obtain ⟨S2, eS2, hf⟩ := bnd_ex hf
    have F : Fr (inM 999999 LX0_add_31) S S2 := by
      rw [eS2]
      exact Fr.sI F rfl
    exact F.trans (rX0_add_30_31 hf)
theorem rX0_add_31 {v1 : Int32} {S S' : mT} (hf : fX0_add 31 v1 S = some S') : Fr (inM 999999 LX0_add_31) S S' := rX0_add_0_31 hf
abbrev LX0_clear_9 : List (Nat × Nat × Option Nat) := [(999999, 999999, none), (9, 9, some 2), (9, 9, some 3), (9, 9, some 4)]
theorem rX0_clear_0_9 {S' : mT} {S : mT} (hf : fX0_clear 9 S = some S') : Fr (inM 999999 LX0_clear_9) S S' := by
  unfold fX0_clear at hf
  obtain ⟨-, hf⟩ := grd_ex hf
  obtain ⟨S1, eS1, hf⟩ := bnd_ex hf
  have F : Fr (inM 999999 LX0_clear_9) S S1 := by
    rw [eS1]
    exact Fr.sI (Fr.rfl (inM 999999 LX0_clear_9) _) rfl
  obtain ⟨-, hf⟩ := grd_ex hf
  obtain ⟨S2, eS2, hf⟩ := bnd_ex hf
  have F : Fr (inM 999999 LX0_clear_9) S S2 := by
    rw [eS2]
    exact Fr.sI F rfl
  obtain ⟨-, hf⟩ := grd_ex hf
  obtain ⟨S3, eS3, hf⟩ := bnd_ex hf
  have F : Fr (inM 999999 LX0_clear_9) S S3 := by
    rw [eS3]
    exact Fr.sI F rfl
  cases hf
  exact F
theorem rX0_clear_9 {S S' : mT} (hf : fX0_clear 9 S = some S') : Fr (inM 999999 LX0_clear_9) S S' := rX0_clear_0_9 hf
abbrev LX0_clear_12 : List (Nat × Nat × Option Nat) := [(999999, 999999, none), (12, 12, some 2), (12, 12, some 3), (12, 12, some 4)]
theorem rX0_clear_0_12 {S' : mT} {S : mT} (hf : fX0_clear 12 S = some S') : Fr (inM 999999 LX0_clear_12) S S' := by
  unfold fX0_clear at hf
  obtain ⟨-, hf⟩ := grd_ex hf
  obtain ⟨S1, eS1, hf⟩ := bnd_ex hf
  have F : Fr (inM 999999 LX0_clear_12) S S1 := by
    rw [eS1]
    exact Fr.sI (Fr.rfl (inM 999999 LX0_clear_12) _) rfl
  obtain ⟨-, hf⟩ := grd_ex hf
  obtain ⟨S2, eS2, hf⟩ := bnd_ex hf
  have F : Fr (inM 999999 LX0_clear_12) S S2 := by
    rw [eS2]
    exact Fr.sI F rfl
  obtain ⟨-, hf⟩ := grd_ex hf
  obtain ⟨S3, eS3, hf⟩ := bnd_ex hf
  have F : Fr (inM 999999 LX0_clear_12) S S3 := by
    rw [eS3]
    exact Fr.sI F rfl
  cases hf
  exact F
theorem rX0_clear_12 {S S' : mT} (hf : fX0_clear 12 S = some S') : Fr (inM 999999 LX0_clear_12) S S' := rX0_clear_0_12 hf
abbrev LX0_clear_15 : List (Nat × Nat × Option Nat) := [(999999, 999999, none), (15, 15, some 2), (15, 15, some 3), (15, 15, some 4)]
theorem rX0_clear_0_15 {S' : mT} {S : mT} (hf : fX0_clear 15 S = some S') : Fr (inM 999999 LX0_clear_15) S S' := by
  unfold fX0_clear at hf
  obtain ⟨-, hf⟩ := grd_ex hf
  obtain ⟨S1, eS1, hf⟩ := bnd_ex hf
  have F : Fr (inM 999999 LX0_clear_15) S S1 := by
    rw [eS1]
    exact Fr.sI (Fr.rfl (inM 999999 LX0_clear_15) _) rfl
  obtain ⟨-, hf⟩ := grd_ex hf
  obtain ⟨S2, eS2, hf⟩ := bnd_ex hf
  have F : Fr (inM 999999 LX0_clear_15) S S2 := by
    rw [eS2]
    exact Fr.sI F rfl
  obtain ⟨-, hf⟩ := grd_ex hf
  obtain ⟨S3, eS3, hf⟩ := bnd_ex hf
  have F : Fr (inM 999999 LX0_clear_15) S S3 := by
    rw [eS3]
    exact Fr.sI F rfl
  cases hf
  exact F
theorem rX0_clear_15 {S S' : mT} (hf : fX0_clear 15 S = some S') : Fr (inM 999999 LX0_clear_15) S S' := rX0_clear_0_15 hf
abbrev LX0_clear_25 : List (Nat × Nat × Option Nat) := [(999999, 999999, none), (25, 25, some 2), (25, 25, some 3), (25, 25, some 4)]
theorem rX0_clear_0_25 {S' : mT} {S : mT} (hf : fX0_clear 25 S = some S') : Fr (inM 999999 LX0_clear_25) S S' := by
  unfold fX0_clear at hf
  obtain ⟨-, hf⟩ := grd_ex hf
  obtain ⟨S1, eS1, hf⟩ := bnd_ex hf
  have F : Fr (inM 999999 LX0_clear_25) S S1 := by
    rw [eS1]
    exact Fr.sI (Fr.rfl (inM 999999 LX0_clear_25) _) rfl
  obtain ⟨-, hf⟩ := grd_ex hf
  obtain ⟨S2, eS2, hf⟩ := bnd_ex hf
  have F : Fr (inM 999999 LX0_clear_25) S S2 := by
    rw [eS2]
    exact Fr.sI F rfl
  obtain ⟨-, hf⟩ := grd_ex hf
  obtain ⟨S3, eS3, hf⟩ := bnd_ex hf
  have F : Fr (inM 999999 LX0_clear_25) S S3 := by
    rw [eS3]
    exact Fr.sI F rfl
  cases hf
  exact F
theorem rX0_clear_25 {S S' : mT} (hf : fX0_clear 25 S = some S') : Fr (inM 999999 LX0_clear_25) S S' := rX0_clear_0_25 hf
abbrev LX0_clear_28 : List (Nat × Nat × Option Nat) := [(999999, 999999, none), (28, 28, some 2), (28, 28, some 3), (28, 28, some 4)]
theorem rX0_clear_0_28 {S' : mT} {S : mT} (hf : fX0_clear 28 S = some S') : Fr (inM 999999 LX0_clear_28) S S' := by
  unfold fX0_clear at hf
  obtain ⟨-, hf⟩ := grd_ex hf
  obtain ⟨S1, eS1, hf⟩ := bnd_ex hf
  have F : Fr (inM 999999 LX0_clear_28) S S1 := by
    rw [eS1]
    exact Fr.sI (Fr.rfl (inM 999999 LX0_clear_28) _) rfl
  obtain ⟨-, hf⟩ := grd_ex hf
  obtain ⟨S2, eS2, hf⟩ := bnd_ex hf
  have F : Fr (inM 999999 LX0_clear_28) S S2 := by
    rw [eS2]
    exact Fr.sI F rfl
  obtain ⟨-, hf⟩ := grd_ex hf
  obtain ⟨S3, eS3, hf⟩ := bnd_ex hf
  have F : Fr (inM 999999 LX0_clear_28) S S3 := by
    rw [eS3]
    exact Fr.sI F rfl
  cases hf
  exact F
theorem rX0_clear_28 {S S' : mT} (hf : fX0_clear 28 S = some S') : Fr (inM 999999 LX0_clear_28) S S' := rX0_clear_0_28 hf
abbrev LX0_clear_31 : List (Nat × Nat × Option Nat) := [(999999, 999999, none), (31, 31, some 2), (31, 31, some 3), (31, 31, some 4)]
theorem rX0_clear_0_31 {S' : mT} {S : mT} (hf : fX0_clear 31 S = some S') : Fr (inM 999999 LX0_clear_31) S S' := by
  unfold fX0_clear at hf
  obtain ⟨-, hf⟩ := grd_ex hf
  obtain ⟨S1, eS1, hf⟩ := bnd_ex hf
  have F : Fr (inM 999999 LX0_clear_31) S S1 := by
    rw [eS1]
    exact Fr.sI (Fr.rfl (inM 999999 LX0_clear_31) _) rfl
  obtain ⟨-, hf⟩ := grd_ex hf
  obtain ⟨S2, eS2, hf⟩ := bnd_ex hf
  have F : Fr (inM 999999 LX0_clear_31) S S2 := by
    rw [eS2]
    exact Fr.sI F rfl
  obtain ⟨-, hf⟩ := grd_ex hf
  obtain ⟨S3, eS3, hf⟩ := bnd_ex hf
  have F : Fr (inM 999999 LX0_clear_31) S S3 := by
    rw [eS3]
    exact Fr.sI F rfl
  cases hf
  exact F
theorem rX0_clear_31 {S S' : mT} (hf : fX0_clear 31 S = some S') : Fr (inM 999999 LX0_clear_31) S S' := rX0_clear_0_31 hf
abbrev LX0_join : List (Nat × Nat × Option Nat) := [(999999, 999999, none)]
theorem rX0_join_143 {S' : mT} {r : Int32} {s0 : Int32} {S : mT} (hf : fX0_join_143 s0 S = some (r, S')) : Fr (inM 999999 LX0_join) S S' := by
  unfold fX0_join_143 at hf
  cases hf
  exact (Fr.rfl (inM 999999 LX0_join) _)
theorem rX0_join_155 {S' : mT} {r : Int32} {s0 : Int32} {S : mT} (hf : fX0_join_155 s0 S = some (r, S')) : Fr (inM 999999 LX0_join) S S' := by
  unfold fX0_join_155 at hf
  cases hf
  exact (Fr.rfl (inM 999999 LX0_join) _)
theorem rX0_join_166 {S' : mT} {r : Int32} {s0 : Int32} {S : mT} (hf : fX0_join_166 s0 S = some (r, S')) : Fr (inM 999999 LX0_join) S S' := by
  unfold fX0_join_166 at hf
  cases hf
  exact (Fr.rfl (inM 999999 LX0_join) _)
theorem rX0_join_177 {S' : mT} {r : Int32} {s0 : Int32} {S : mT} (hf : fX0_join_177 s0 S = some (r, S')) : Fr (inM 999999 LX0_join) S S' := by
  unfold fX0_join_177 at hf
  cases hf
  exact (Fr.rfl (inM 999999 LX0_join) _)
theorem rX0_join_188 {S' : mT} {r : Int32} {s0 : Int32} {S : mT} (hf : fX0_join_188 s0 S = some (r, S')) : Fr (inM 999999 LX0_join) S S' := by
  unfold fX0_join_188 at hf
  cases hf
  exact (Fr.rfl (inM 999999 LX0_join) _)
theorem rX0_join_202 {S' : mT} {r : Int32} {s0 : Int32} {S : mT} (hf : fX0_join_202 s0 S = some (r, S')) : Fr (inM 999999 LX0_join) S S' := by
  unfold fX0_join_202 at hf
  cases hf
  exact (Fr.rfl (inM 999999 LX0_join) _)
theorem rX0_join_201 {S' : mT} {r : Int32} {S : mT} (hf : fX0_join_201 S = some (r, S')) : Fr (inM 999999 LX0_join) S S' := by
  unfold fX0_join_201 at hf
  exact (Fr.rfl (inM 999999 LX0_join) _).trans (rX0_join_202 hf)
theorem rX0_join_216 {S' : mT} {r : Int32} {s0 : Int32} {S : mT} (hf : fX0_join_216 s0 S = some (r, S')) : Fr (inM 999999 LX0_join) S S' := by
  unfold fX0_join_216 at hf
  cases hf
  exact (Fr.rfl (inM 999999 LX0_join) _)
theorem rX0_join_211 {S' : mT} {r : Int32} {S : mT} (hf : fX0_join_211 S = some (r, S')) : Fr (inM 999999 LX0_join) S S' := by
  unfold fX0_join_211 at hf
  exact (Fr.rfl (inM 999999 LX0_join) _).trans (rX0_join_216 hf)
theorem rX0_join_0 {S' : mT} {r : Int32} {v0 : Int32} {v1 : Int32} {v2 : Int32} {S : mT} (hf : fX0_join v0 v1 v2 S = some (r, S')) : Fr (inM 999999 LX0_join) S S' := by
  unfold fX0_join at hf
  by_cases hc : v0 = (37 : Int32)
  · rw [if_pos hc] at hf
    by_cases hc : v2 = 0
    · rw [if_pos hc] at hf
      exact (Fr.rfl (inM 999999 LX0_join) _).trans (rX0_join_155 hf)
    · rw [if_neg hc] at hf
      obtain ⟨-, hf⟩ := grd_ex hf
      exact (Fr.rfl (inM 999999 LX0_join) _).trans (rX0_join_155 hf)
  · rw [if_neg hc] at hf
    by_cases hc : v0 = (38 : Int32)
    · rw [if_pos hc] at hf
      by_cases hc : v1 = 0
      · rw [if_pos hc] at hf
        exact (Fr.rfl (inM 999999 LX0_join) _).trans (rX0_join_201 hf)
      · rw [if_neg hc] at hf
        by_cases hc : v2 = 0
        · rw [if_pos hc] at hf
          exact (Fr.rfl (inM 999999 LX0_join) _).trans (rX0_join_201 hf)
        · rw [if_neg hc] at hf
          exact (Fr.rfl (inM 999999 LX0_join) _).trans (rX0_join_202 hf)
    · rw [if_neg hc] at hf
      by_cases hc : v0 = (39 : Int32)
      · rw [if_pos hc] at hf
        by_cases hc : v1 = 0
        · rw [if_pos hc] at hf
          by_cases hc : v2 = 0
          · rw [if_pos hc] at hf
            exact (Fr.rfl (inM 999999 LX0_join) _).trans (rX0_join_216 hf)
          · rw [if_neg hc] at hf
            exact (Fr.rfl (inM 999999 LX0_join) _).trans (rX0_join_211 hf)
        · rw [if_neg hc] at hf
          exact (Fr.rfl (inM 999999 LX0_join) _).trans (rX0_join_211 hf)
      · rw [if_neg hc] at hf
        by_cases hc : v0 = (40 : Int32)
        · rw [if_pos hc] at hf
          by_cases hc : v1 = 0
          · rw [if_pos hc] at hf
            by_cases hc : v2 = 0
            · rw [if_pos hc] at hf
              exact (Fr.rfl (inM 999999 LX0_join) _).trans (rX0_join_216 hf)
            · rw [if_neg hc] at hf
              exact (Fr.rfl (inM 999999 LX0_join) _).trans (rX0_join_211 hf)
          · rw [if_neg hc] at hf
            exact (Fr.rfl (inM 999999 LX0_join) _).trans (rX0_join_211 hf)
        · rw [if_neg hc] at hf
          by_cases hc : v0 = (41 : Int32)
          · rw [if_pos hc] at hf
            by_cases hc : v1 = 0
            · rw [if_pos hc] at hf
              by_cases hc : v2 = 0
              · rw [if_pos hc] at hf
                exact (Fr.rfl (inM 999999 LX0_join) _).trans (rX0_join_216 hf)
              · rw [if_neg hc] at hf
                exact (Fr.rfl (inM 999999 LX0_join) _).trans (rX0_join_211 hf)
            · rw [if_neg hc] at hf
              exact (Fr.rfl (inM 999999 LX0_join) _).trans (rX0_join_211 hf)
          · rw [if_neg hc] at hf
            by_cases hc : v0 = (42 : Int32)
            · rw [if_pos hc] at hf
              cases hf
              exact (Fr.rfl (inM 999999 LX0_join) _)
            · rw [if_neg hc] at hf
              by_cases hc : v0 = (43 : Int32)
              · rw [if_pos hc] at hf
                cases hf
                exact (Fr.rfl (inM 999999 LX0_join) _)
              · rw [if_neg hc] at hf
                by_cases hc : v0 = (44 : Int32)
                · rw [if_pos hc] at hf
                  by_cases hc : v1 = 0
                  · rw [if_pos hc] at hf
                    by_cases hc : v2 = 0
                    · rw [if_pos hc] at hf
                      exact (Fr.rfl (inM 999999 LX0_join) _).trans (rX0_join_216 hf)
                    · rw [if_neg hc] at hf
                      exact (Fr.rfl (inM 999999 LX0_join) _).trans (rX0_join_211 hf)
                  · rw [if_neg hc] at hf
                    exact (Fr.rfl (inM 999999 LX0_join) _).trans (rX0_join_211 hf)
                · rw [if_neg hc] at hf
                  by_cases hc : v0 = (45 : Int32)
                  · rw [if_pos hc] at hf
                    cases hf
                    exact (Fr.rfl (inM 999999 LX0_join) _)
                  · rw [if_neg hc] at hf
                    by_cases hc : v0 = (46 : Int32)
                    · rw [if_pos hc] at hf
                      by_cases hc : v1 = 0
                      · rw [if_pos hc] at hf
                        by_cases hc : v2 = 0
                        · rw [if_pos hc] at hf
                          exact (Fr.rfl (inM 999999 LX0_join) _).trans (rX0_join_216 hf)
                        · rw [if_neg hc] at hf
                          exact (Fr.rfl (inM 999999 LX0_join) _).trans (rX0_join_211 hf)
                      · rw [if_neg hc] at hf
                        exact (Fr.rfl (inM 999999 LX0_join) _).trans (rX0_join_211 hf)
                    · rw [if_neg hc] at hf
                      by_cases hc : v0 = (47 : Int32)
                      · rw [if_pos hc] at hf
                        by_cases hc : v2 = 0
                        · rw [if_pos hc] at hf
                          exact (Fr.rfl (inM 999999 LX0_join) _).trans (rX0_join_143 hf)
                        · rw [if_neg hc] at hf
                          obtain ⟨-, hf⟩ := grd_ex hf
                          exact (Fr.rfl (inM 999999 LX0_join) _).trans (rX0_join_143 hf)
                      · rw [if_neg hc] at hf
                        by_cases hc : v0 = (48 : Int32)
                        · rw [if_pos hc] at hf
                          by_cases hc : v1 = 0
                          · rw [if_pos hc] at hf
                            by_cases hc : v2 = 0
                            · rw [if_pos hc] at hf
                              exact (Fr.rfl (inM 999999 LX0_join) _).trans (rX0_join_216 hf)
                            · rw [if_neg hc] at hf
                              exact (Fr.rfl (inM 999999 LX0_join) _).trans (rX0_join_211 hf)
                          · rw [if_neg hc] at hf
                            exact (Fr.rfl (inM 999999 LX0_join) _).trans (rX0_join_211 hf)
                        · rw [if_neg hc] at hf
                          by_cases hc : v0 = (49 : Int32)
                          · rw [if_pos hc] at hf
                            by_cases hc : v1 = 0
                            · rw [if_pos hc] at hf
                              by_cases hc : v2 = 0
                              · rw [if_pos hc] at hf
                                exact (Fr.rfl (inM 999999 LX0_join) _).trans (rX0_join_216 hf)
                              · rw [if_neg hc] at hf
                                exact (Fr.rfl (inM 999999 LX0_join) _).trans (rX0_join_211 hf)
                            · rw [if_neg hc] at hf
                              exact (Fr.rfl (inM 999999 LX0_join) _).trans (rX0_join_211 hf)
                          · rw [if_neg hc] at hf
                            by_cases hc : v0 = (50 : Int32)
                            · rw [if_pos hc] at hf
                              by_cases hc : v1 = 0
                              · rw [if_pos hc] at hf
                                by_cases hc : v2 = 0
                                · rw [if_pos hc] at hf
                                  exact (Fr.rfl (inM 999999 LX0_join) _).trans (rX0_join_216 hf)
                                · rw [if_neg hc] at hf
                                  exact (Fr.rfl (inM 999999 LX0_join) _).trans (rX0_join_211 hf)
                              · rw [if_neg hc] at hf
                                exact (Fr.rfl (inM 999999 LX0_join) _).trans (rX0_join_211 hf)
                            · rw [if_neg hc] at hf
                              by_cases hc : v0 = (51 : Int32)
                              · rw [if_pos hc] at hf
                                by_cases hc : v1 = 0
                                · rw [if_pos hc] at hf
                                  by_cases hc : v2 = 0
                                  · rw [if_pos hc] at hf
                                    exact (Fr.rfl (inM 999999 LX0_join) _).trans (rX0_join_216 hf)
                                  · rw [if_neg hc] at hf
                                    exact (Fr.rfl (inM 999999 LX0_join) _).trans (rX0_join_211 hf)
                                · rw [if_neg hc] at hf
                                  exact (Fr.rfl (inM 999999 LX0_join) _).trans (rX0_join_211 hf)
                              · rw [if_neg hc] at hf
                                by_cases hc : v0 = (52 : Int32)
                                · rw [if_pos hc] at hf
                                  by_cases hc : v1 = 0
                                  · rw [if_pos hc] at hf
                                    by_cases hc : v2 = 0
                                    · rw [if_pos hc] at hf
                                      exact (Fr.rfl (inM 999999 LX0_join) _).trans (rX0_join_216 hf)
                                    · rw [if_neg hc] at hf
                                      exact (Fr.rfl (inM 999999 LX0_join) _).trans (rX0_join_211 hf)
                                  · rw [if_neg hc] at hf
                                    exact (Fr.rfl (inM 999999 LX0_join) _).trans (rX0_join_211 hf)
                                · rw [if_neg hc] at hf
                                  by_cases hc : v0 = (53 : Int32)
                                  · rw [if_pos hc] at hf
                                    by_cases hc : v1 = 0
                                    · rw [if_pos hc] at hf
                                      by_cases hc : v2 = 0
                                      · rw [if_pos hc] at hf
                                        exact (Fr.rfl (inM 999999 LX0_join) _).trans (rX0_join_216 hf)
                                      · rw [if_neg hc] at hf
                                        exact (Fr.rfl (inM 999999 LX0_join) _).trans (rX0_join_211 hf)
                                    · rw [if_neg hc] at hf
                                      exact (Fr.rfl (inM 999999 LX0_join) _).trans (rX0_join_211 hf)
                                  · rw [if_neg hc] at hf
                                    by_cases hc : v0 = (54 : Int32)
                                    · rw [if_pos hc] at hf
                                      by_cases hc : v1 = 0
                                      · rw [if_pos hc] at hf
                                        by_cases hc : v2 = 0
                                        · rw [if_pos hc] at hf
                                          exact (Fr.rfl (inM 999999 LX0_join) _).trans (rX0_join_216 hf)
                                        · rw [if_neg hc] at hf
                                          exact (Fr.rfl (inM 999999 LX0_join) _).trans (rX0_join_211 hf)
                                      · rw [if_neg hc] at hf
                                        exact (Fr.rfl (inM 999999 LX0_join) _).trans (rX0_join_211 hf)
                                    · rw [if_neg hc] at hf
                                      by_cases hc : v0 = (55 : Int32)
                                      · rw [if_pos hc] at hf
                                        by_cases hc : v1 = 0
                                        · rw [if_pos hc] at hf
                                          by_cases hc : v2 = 0
                                          · rw [if_pos hc] at hf
                                            exact (Fr.rfl (inM 999999 LX0_join) _).trans (rX0_join_216 hf)
                                          · rw [if_neg hc] at hf
                                            exact (Fr.rfl (inM 999999 LX0_join) _).trans (rX0_join_211 hf)
                                        · rw [if_neg hc] at hf
                                          exact (Fr.rfl (inM 999999 LX0_join) _).trans (rX0_join_211 hf)
                                      · rw [if_neg hc] at hf
                                        by_cases hc : v0 = (56 : Int32)
                                        · rw [if_pos hc] at hf
                                          by_cases hc : v1 = 0
                                          · rw [if_pos hc] at hf
                                            by_cases hc : v2 = 0
                                            · rw [if_pos hc] at hf
                                              exact (Fr.rfl (inM 999999 LX0_join) _).trans (rX0_join_216 hf)
                                            · rw [if_neg hc] at hf
                                              exact (Fr.rfl (inM 999999 LX0_join) _).trans (rX0_join_211 hf)
                                          · rw [if_neg hc] at hf
                                            exact (Fr.rfl (inM 999999 LX0_join) _).trans (rX0_join_211 hf)
                                        · rw [if_neg hc] at hf
                                          by_cases hc : v0 = (57 : Int32)
                                          · rw [if_pos hc] at hf
                                            by_cases hc : v1 = 0
                                            · rw [if_pos hc] at hf
                                              by_cases hc : v2 = 0
                                              · rw [if_pos hc] at hf
                                                exact (Fr.rfl (inM 999999 LX0_join) _).trans (rX0_join_216 hf)
                                              · rw [if_neg hc] at hf
                                                exact (Fr.rfl (inM 999999 LX0_join) _).trans (rX0_join_211 hf)
                                            · rw [if_neg hc] at hf
                                              exact (Fr.rfl (inM 999999 LX0_join) _).trans (rX0_join_211 hf)
                                          · rw [if_neg hc] at hf
                                            by_cases hc : v0 = (58 : Int32)
                                            · rw [if_pos hc] at hf
                                              by_cases hc : v1 = 0
                                              · rw [if_pos hc] at hf
                                                by_cases hc : v2 = 0
                                                · rw [if_pos hc] at hf
                                                  exact (Fr.rfl (inM 999999 LX0_join) _).trans (rX0_join_216 hf)
                                                · rw [if_neg hc] at hf
                                                  exact (Fr.rfl (inM 999999 LX0_join) _).trans (rX0_join_211 hf)
                                              · rw [if_neg hc] at hf
                                                exact (Fr.rfl (inM 999999 LX0_join) _).trans (rX0_join_211 hf)
                                            · rw [if_neg hc] at hf
                                              by_cases hc : v0 = (59 : Int32)
                                              · rw [if_pos hc] at hf
                                                by_cases hc : v1 = 0
                                                · rw [if_pos hc] at hf
                                                  by_cases hc : v2 = 0
                                                  · rw [if_pos hc] at hf
                                                    exact (Fr.rfl (inM 999999 LX0_join) _).trans (rX0_join_216 hf)
                                                  · rw [if_neg hc] at hf
                                                    exact (Fr.rfl (inM 999999 LX0_join) _).trans (rX0_join_211 hf)
                                                · rw [if_neg hc] at hf
                                                  exact (Fr.rfl (inM 999999 LX0_join) _).trans (rX0_join_211 hf)
                                              · rw [if_neg hc] at hf
                                                by_cases hc : v0 = (60 : Int32)
                                                · rw [if_pos hc] at hf
                                                  by_cases hc : v2 ≤ v1
                                                  · rw [if_pos hc] at hf
                                                    exact (Fr.rfl (inM 999999 LX0_join) _).trans (rX0_join_166 hf)
                                                  · rw [if_neg hc] at hf
                                                    exact (Fr.rfl (inM 999999 LX0_join) _).trans (rX0_join_166 hf)
                                                · rw [if_neg hc] at hf
                                                  by_cases hc : v0 = (61 : Int32)
                                                  · rw [if_pos hc] at hf
                                                    by_cases hc : v1 = v2
                                                    · rw [if_pos hc] at hf
                                                      exact (Fr.rfl (inM 999999 LX0_join) _).trans (rX0_join_188 hf)
                                                    · rw [if_neg hc] at hf
                                                      exact (Fr.rfl (inM 999999 LX0_join) _).trans (rX0_join_188 hf)
                                                  · rw [if_neg hc] at hf
                                                    by_cases hc : v0 = (62 : Int32)
                                                    · rw [if_pos hc] at hf
                                                      by_cases hc : v1 ≤ v2
                                                      · rw [if_pos hc] at hf
                                                        exact (Fr.rfl (inM 999999 LX0_join) _).trans (rX0_join_177 hf)
                                                      · rw [if_neg hc] at hf
                                                        exact (Fr.rfl (inM 999999 LX0_join) _).trans (rX0_join_177 hf)
                                                    · rw [if_neg hc] at hf
                                                      by_cases hc : v1 = 0
                                                      · rw [if_pos hc] at hf
                                                        by_cases hc : v2 = 0
                                                        · rw [if_pos hc] at hf
                                                          exact (Fr.rfl (inM 999999 LX0_join) _).trans (rX0_join_216 hf)
                                                        · rw [if_neg hc] at hf
                                                          exact (Fr.rfl (inM 999999 LX0_join) _).trans (rX0_join_211 hf)
                                                      · rw [if_neg hc] at hf
                                                        exact (Fr.rfl (inM 999999 LX0_join) _).trans (rX0_join_211 hf)
theorem rX0_join {v0 : Int32} {v1 : Int32} {v2 : Int32} {S S' : mT} {r : Int32} (hf : fX0_join v0 v1 v2 S = some (r, S')) : Fr (inM 999999 LX0_join) S S' := rX0_join_0 hf
abbrev LX0_leaf : List (Nat × Nat × Option Nat) := [(999999, 999999, none)]
theorem rX0_leaf_25 {a1 : Nat} {S' : mT} {r : Int32} {s0 : Int32} {S : mT} (hf : fX0_leaf_25 a1 s0 S = some (r, S')) : Fr (inM 999999 LX0_leaf) S S' := by
  unfold fX0_leaf_25 at hf
  cases hf
  exact (Fr.rfl (inM 999999 LX0_leaf) _)
theorem rX0_leaf_0 {a1 : Nat} {S' : mT} {r : Int32} {v0 : Int32} {S : mT} (hf : fX0_leaf a1 v0 S = some (r, S')) : Fr (inM 999999 LX0_leaf) S S' := by
  unfold fX0_leaf at hf
  obtain ⟨x1, -, hf⟩ := bnd_ex hf
  by_cases hc : 0 ≤ x1
  · rw [if_pos hc] at hf
    obtain ⟨-, hf⟩ := grd_ex hf
    by_cases hc : (Int32.ofNat (kLen (sT a1))) ≤ x1
    · rw [if_pos hc] at hf
      exact (Fr.rfl (inM 999999 LX0_leaf) _).trans (rX0_leaf_25 hf)
    · rw [if_neg hc] at hf
      obtain ⟨-, hf⟩ := grd_ex hf
      exact (Fr.rfl (inM 999999 LX0_leaf) _).trans (rX0_leaf_25 hf)
  · rw [if_neg hc] at hf
    cases hf
    exact (Fr.rfl (inM 999999 LX0_leaf) _)
theorem rX0_leaf {a1 : Nat} {v0 : Int32} {S S' : mT} {r : Int32} (hf : fX0_leaf a1 v0 S = some (r, S')) : Fr (inM 999999 LX0_leaf) S S' := rX0_leaf_0 hf
abbrev LX0_work_12 : List (Nat × Nat × Option Nat) := [(999999, 999999, none), (14, 14, none)]
theorem rX0_work_130_12 {a1 : Nat} {S' : mT} {r : Int32} {rc4 : Int32 → Int32 → mT → Option (Int32 × mT)} (Hrc4 : ∀ (v2 : Int32) (v3 : Int32) (S : mT), rc4 v2 v3 S = some (r, S') → Fr (inM 999999 LX0_work_12) S S') {v2 : Int32} {v3 : Int32} {S : mT} (hf : fX0_work_130 12 a1 rc4 v2 v3 S = some (r, S')) : Fr (inM 999999 LX0_work_12) S S' := by
  unfold fX0_work_130 at hf
  obtain ⟨x10, -, hf⟩ := bnd_ex hf
  exact (Fr.rfl (inM 999999 LX0_work_12) _).trans (Hrc4 _ _ _ hf)
theorem rX0_work_87_12 {a1 : Nat} {S' : mT} {r : Int32} {rc4 : Int32 → Int32 → mT → Option (Int32 × mT)} (Hrc4 : ∀ (v2 : Int32) (v3 : Int32) (S : mT), rc4 v2 v3 S = some (r, S') → Fr (inM 999999 LX0_work_12) S S') {v2 : Int32} {v3 : Int32} {s0 : Int32} {s1 : Int32} {S : mT} (hf : fX0_work_87 12 a1 rc4 v2 v3 s0 s1 S = some (r, S')) : Fr (inM 999999 LX0_work_12) S S' := by
  unfold fX0_work_87 at hf
  obtain ⟨-, hf⟩ := grd_ex hf
  obtain ⟨S11, eS11, hf⟩ := bnd_ex hf
  have F : Fr (inM 999999 LX0_work_12) S S11 := by
    rw [eS11]
    exact Fr.sI (Fr.rfl (inM 999999 LX0_work_12) _) rfl
  exact F.trans (rX0_work_130_12 Hrc4 hf)
theorem rX0_work_152_12 {a1 : Nat} {S' : mT} {r : Int32} {s0 : Int32} {S : mT} (hf : fX0_work_152 12 a1 s0 S = some (r, S')) : Fr (inM 999999 LX0_work_12) S S' := by
  unfold fX0_work_152 at hf
  cases hf
  exact (Fr.rfl (inM 999999 LX0_work_12) _)
theorem rX0_work_4_12 {a1 : Nat} {S' : mT} {r : Int32} : ∀ (k : Nat) (v2 : Int32) (v3 : Int32) (S : mT), fX0_work_4 12 a1 k v2 v3 S = some (r, S') → Fr (inM 999999 LX0_work_12) S S' := by
  intro k
  induction k with
  | zero =>
    intro v2 v3 S hf
    cases hf
  | succ k ih =>
    intro v2 v3 S hf
    unfold fX0_work_4 at hf
    obtain ⟨-, hf⟩ := grd_ex hf
    by_cases hc : (S.1 12 2) ≤ v3
    · rw [if_pos hc] at hf
      by_cases hc : v2 ≤ 0
      · rw [if_pos hc] at hf
        exact (Fr.rfl (inM 999999 LX0_work_12) _).trans (rX0_work_152_12 hf)
      · rw [if_neg hc] at hf
        obtain ⟨-, hf⟩ := grd_ex hf
        exact (Fr.rfl (inM 999999 LX0_work_12) _).trans (rX0_work_152_12 hf)
    · rw [if_neg hc] at hf
      obtain ⟨-, hf⟩ := grd_ex hf
      obtain ⟨x1, -, hf⟩ := bnd_ex hf
      by_cases hc : (20000 : Int32) ≤ x1
      · rw [if_pos hc] at hf
        by_cases hc : x1 = (20033 : Int32)
        · rw [if_pos hc] at hf
          by_cases hc : v2 ≤ 0
          · rw [if_pos hc] at hf
            exact (Fr.rfl (inM 999999 LX0_work_12) _).trans (rX0_work_130_12 ih hf)
          · rw [if_neg hc] at hf
            obtain ⟨-, hf⟩ := grd_ex hf
            obtain ⟨-, hf⟩ := grd_ex hf
            by_cases hc : (S.1 (12 + 2) (mIx (v2 - (1 : Int32)))) = 0
            · rw [if_pos hc] at hf
              exact (Fr.rfl (inM 999999 LX0_work_12) _).trans (rX0_work_87_12 ih hf)
            · rw [if_neg hc] at hf
              exact (Fr.rfl (inM 999999 LX0_work_12) _).trans (rX0_work_87_12 ih hf)
        · rw [if_neg hc] at hf
          by_cases hc : v2 ≤ (1 : Int32)
          · rw [if_pos hc] at hf
            exact (Fr.rfl (inM 999999 LX0_work_12) _).trans (rX0_work_130_12 ih hf)
          · rw [if_neg hc] at hf
            obtain ⟨x2, -, hf⟩ := bnd_ex hf
            obtain ⟨-, hf⟩ := grd_ex hf
            obtain ⟨-, hf⟩ := grd_ex hf
            obtain ⟨x4, S3, hq, hf⟩ := bndC_ex hf
            have F := (Fr.rfl (inM 999999 LX0_work_12) _).trans ((rX0_join hq).mono rfl (fun _ => rfl))
            obtain ⟨-, hf⟩ := grd_ex hf
            obtain ⟨S5, eS5, hf⟩ := bnd_ex hf
            have F : Fr (inM 999999 LX0_work_12) S S5 := by
              rw [eS5]
              exact Fr.sI F rfl
            exact F.trans (rX0_work_130_12 ih hf)
      · rw [if_neg hc] at hf
        by_cases hc : (30 : Int32) ≤ v2
        · rw [if_pos hc] at hf
          exact (Fr.rfl (inM 999999 LX0_work_12) _).trans (rX0_work_130_12 ih hf)
        · rw [if_neg hc] at hf
          obtain ⟨-, hf⟩ := grd_ex hf
          obtain ⟨x7, S6, hq, hf⟩ := bndC_ex hf
          have F := (Fr.rfl (inM 999999 LX0_work_12) _).trans ((rX0_leaf hq).mono rfl (fun _ => rfl))
          obtain ⟨-, hf⟩ := grd_ex hf
          obtain ⟨S8, eS8, hf⟩ := bnd_ex hf
          have F : Fr (inM 999999 LX0_work_12) S S8 := by
            rw [eS8]
            exact Fr.sI F rfl
          obtain ⟨x9, -, hf⟩ := bnd_ex hf
          exact F.trans (rX0_work_130_12 ih hf)
theorem rX0_work_0_12 {a1 : Nat} {S' : mT} {r : Int32} {S : mT} (hf : fX0_work 12 a1 S = some (r, S')) : Fr (inM 999999 LX0_work_12) S S' := by
  unfold fX0_work at hf
  exact (Fr.rfl (inM 999999 LX0_work_12) _).trans (rX0_work_4_12 _ _ _ _ hf)
theorem rX0_work_12 {a1 : Nat} {S S' : mT} {r : Int32} (hf : fX0_work 12 a1 S = some (r, S')) : Fr (inM 999999 LX0_work_12) S S' := rX0_work_0_12 hf
abbrev LX0_work_28 : List (Nat × Nat × Option Nat) := [(999999, 999999, none), (30, 30, none)]
theorem rX0_work_130_28 {a1 : Nat} {S' : mT} {r : Int32} {rc4 : Int32 → Int32 → mT → Option (Int32 × mT)} (Hrc4 : ∀ (v2 : Int32) (v3 : Int32) (S : mT), rc4 v2 v3 S = some (r, S') → Fr (inM 999999 LX0_work_28) S S') {v2 : Int32} {v3 : Int32} {S : mT} (hf : fX0_work_130 28 a1 rc4 v2 v3 S = some (r, S')) : Fr (inM 999999 LX0_work_28) S S' := by
  unfold fX0_work_130 at hf
  obtain ⟨x10, -, hf⟩ := bnd_ex hf
  exact (Fr.rfl (inM 999999 LX0_work_28) _).trans (Hrc4 _ _ _ hf)
theorem rX0_work_87_28 {a1 : Nat} {S' : mT} {r : Int32} {rc4 : Int32 → Int32 → mT → Option (Int32 × mT)} (Hrc4 : ∀ (v2 : Int32) (v3 : Int32) (S : mT), rc4 v2 v3 S = some (r, S') → Fr (inM 999999 LX0_work_28) S S') {v2 : Int32} {v3 : Int32} {s0 : Int32} {s1 : Int32} {S : mT} (hf : fX0_work_87 28 a1 rc4 v2 v3 s0 s1 S = some (r, S')) : Fr (inM 999999 LX0_work_28) S S' := by
  unfold fX0_work_87 at hf
  obtain ⟨-, hf⟩ := grd_ex hf
  obtain ⟨S11, eS11, hf⟩ := bnd_ex hf
  have F : Fr (inM 999999 LX0_work_28) S S11 := by
    rw [eS11]
    exact Fr.sI (Fr.rfl (inM 999999 LX0_work_28) _) rfl
  exact F.trans (rX0_work_130_28 Hrc4 hf)
theorem rX0_work_152_28 {a1 : Nat} {S' : mT} {r : Int32} {s0 : Int32} {S : mT} (hf : fX0_work_152 28 a1 s0 S = some (r, S')) : Fr (inM 999999 LX0_work_28) S S' := by
  unfold fX0_work_152 at hf
  cases hf
  exact (Fr.rfl (inM 999999 LX0_work_28) _)
theorem rX0_work_4_28 {a1 : Nat} {S' : mT} {r : Int32} : ∀ (k : Nat) (v2 : Int32) (v3 : Int32) (S : mT), fX0_work_4 28 a1 k v2 v3 S = some (r, S') → Fr (inM 999999 LX0_work_28) S S' := by
  intro k
  induction k with
  | zero =>
    intro v2 v3 S hf
    cases hf
  | succ k ih =>
    intro v2 v3 S hf
    unfold fX0_work_4 at hf
    obtain ⟨-, hf⟩ := grd_ex hf
    by_cases hc : (S.1 28 2) ≤ v3
    · rw [if_pos hc] at hf
      by_cases hc : v2 ≤ 0
      · rw [if_pos hc] at hf
        exact (Fr.rfl (inM 999999 LX0_work_28) _).trans (rX0_work_152_28 hf)
      · rw [if_neg hc] at hf
        obtain ⟨-, hf⟩ := grd_ex hf
        exact (Fr.rfl (inM 999999 LX0_work_28) _).trans (rX0_work_152_28 hf)
    · rw [if_neg hc] at hf
      obtain ⟨-, hf⟩ := grd_ex hf
      obtain ⟨x1, -, hf⟩ := bnd_ex hf
      by_cases hc : (20000 : Int32) ≤ x1
      · rw [if_pos hc] at hf
        by_cases hc : x1 = (20033 : Int32)
        · rw [if_pos hc] at hf
          by_cases hc : v2 ≤ 0
          · rw [if_pos hc] at hf
            exact (Fr.rfl (inM 999999 LX0_work_28) _).trans (rX0_work_130_28 ih hf)
          · rw [if_neg hc] at hf
            obtain ⟨-, hf⟩ := grd_ex hf
            obtain ⟨-, hf⟩ := grd_ex hf
            by_cases hc : (S.1 (28 + 2) (mIx (v2 - (1 : Int32)))) = 0
            · rw [if_pos hc] at hf
              exact (Fr.rfl (inM 999999 LX0_work_28) _).trans (rX0_work_87_28 ih hf)
            · rw [if_neg hc] at hf
              exact (Fr.rfl (inM 999999 LX0_work_28) _).trans (rX0_work_87_28 ih hf)
        · rw [if_neg hc] at hf
          by_cases hc : v2 ≤ (1 : Int32)
          · rw [if_pos hc] at hf
            exact (Fr.rfl (inM 999999 LX0_work_28) _).trans (rX0_work_130_28 ih hf)
          · rw [if_neg hc] at hf
            obtain ⟨x2, -, hf⟩ := bnd_ex hf
            obtain ⟨-, hf⟩ := grd_ex hf
            obtain ⟨-, hf⟩ := grd_ex hf
            obtain ⟨x4, S3, hq, hf⟩ := bndC_ex hf
            have F := (Fr.rfl (inM 999999 LX0_work_28) _).trans ((rX0_join hq).mono rfl (fun _ => rfl))
            obtain ⟨-, hf⟩ := grd_ex hf
            obtain ⟨S5, eS5, hf⟩ := bnd_ex hf
            have F : Fr (inM 999999 LX0_work_28) S S5 := by
              rw [eS5]
              exact Fr.sI F rfl
            exact F.trans (rX0_work_130_28 ih hf)
      · rw [if_neg hc] at hf
        by_cases hc : (30 : Int32) ≤ v2
        · rw [if_pos hc] at hf
          exact (Fr.rfl (inM 999999 LX0_work_28) _).trans (rX0_work_130_28 ih hf)
        · rw [if_neg hc] at hf
          obtain ⟨-, hf⟩ := grd_ex hf
          obtain ⟨x7, S6, hq, hf⟩ := bndC_ex hf
          have F := (Fr.rfl (inM 999999 LX0_work_28) _).trans ((rX0_leaf hq).mono rfl (fun _ => rfl))
          obtain ⟨-, hf⟩ := grd_ex hf
          obtain ⟨S8, eS8, hf⟩ := bnd_ex hf
          have F : Fr (inM 999999 LX0_work_28) S S8 := by
            rw [eS8]
            exact Fr.sI F rfl
          obtain ⟨x9, -, hf⟩ := bnd_ex hf
          exact F.trans (rX0_work_130_28 ih hf)
theorem rX0_work_0_28 {a1 : Nat} {S' : mT} {r : Int32} {S : mT} (hf : fX0_work 28 a1 S = some (r, S')) : Fr (inM 999999 LX0_work_28) S S' := by
  unfold fX0_work at hf
  exact (Fr.rfl (inM 999999 LX0_work_28) _).trans (rX0_work_4_28 _ _ _ _ hf)
theorem rX0_work_28 {a1 : Nat} {S S' : mT} {r : Int32} (hf : fX0_work 28 a1 S = some (r, S')) : Fr (inM 999999 LX0_work_28) S S' := rX0_work_0_28 hf
abbrev LX0_work_9 : List (Nat × Nat × Option Nat) := [(999999, 999999, none), (11, 11, none)]
theorem rX0_work_130_9 {a1 : Nat} {S' : mT} {r : Int32} {rc4 : Int32 → Int32 → mT → Option (Int32 × mT)} (Hrc4 : ∀ (v2 : Int32) (v3 : Int32) (S : mT), rc4 v2 v3 S = some (r, S') → Fr (inM 999999 LX0_work_9) S S') {v2 : Int32} {v3 : Int32} {S : mT} (hf : fX0_work_130 9 a1 rc4 v2 v3 S = some (r, S')) : Fr (inM 999999 LX0_work_9) S S' := by
  unfold fX0_work_130 at hf
  obtain ⟨x10, -, hf⟩ := bnd_ex hf
  exact (Fr.rfl (inM 999999 LX0_work_9) _).trans (Hrc4 _ _ _ hf)
theorem rX0_work_87_9 {a1 : Nat} {S' : mT} {r : Int32} {rc4 : Int32 → Int32 → mT → Option (Int32 × mT)} (Hrc4 : ∀ (v2 : Int32) (v3 : Int32) (S : mT), rc4 v2 v3 S = some (r, S') → Fr (inM 999999 LX0_work_9) S S') {v2 : Int32} {v3 : Int32} {s0 : Int32} {s1 : Int32} {S : mT} (hf : fX0_work_87 9 a1 rc4 v2 v3 s0 s1 S = some (r, S')) : Fr (inM 999999 LX0_work_9) S S' := by
  unfold fX0_work_87 at hf
  obtain ⟨-, hf⟩ := grd_ex hf
  obtain ⟨S11, eS11, hf⟩ := bnd_ex hf
  have F : Fr (inM 999999 LX0_work_9) S S11 := by
    rw [eS11]
    exact Fr.sI (Fr.rfl (inM 999999 LX0_work_9) _) rfl
  exact F.trans (rX0_work_130_9 Hrc4 hf)
theorem rX0_work_152_9 {a1 : Nat} {S' : mT} {r : Int32} {s0 : Int32} {S : mT} (hf : fX0_work_152 9 a1 s0 S = some (r, S')) : Fr (inM 999999 LX0_work_9) S S' := by
  unfold fX0_work_152 at hf
  cases hf
  exact (Fr.rfl (inM 999999 LX0_work_9) _)
theorem rX0_work_4_9 {a1 : Nat} {S' : mT} {r : Int32} : ∀ (k : Nat) (v2 : Int32) (v3 : Int32) (S : mT), fX0_work_4 9 a1 k v2 v3 S = some (r, S') → Fr (inM 999999 LX0_work_9) S S' := by
  intro k
  induction k with
  | zero =>
    intro v2 v3 S hf
    cases hf
  | succ k ih =>
    intro v2 v3 S hf
    unfold fX0_work_4 at hf
    obtain ⟨-, hf⟩ := grd_ex hf
    by_cases hc : (S.1 9 2) ≤ v3
    · rw [if_pos hc] at hf
      by_cases hc : v2 ≤ 0
      · rw [if_pos hc] at hf
        exact (Fr.rfl (inM 999999 LX0_work_9) _).trans (rX0_work_152_9 hf)
      · rw [if_neg hc] at hf
        obtain ⟨-, hf⟩ := grd_ex hf
        exact (Fr.rfl (inM 999999 LX0_work_9) _).trans (rX0_work_152_9 hf)
    · rw [if_neg hc] at hf
      obtain ⟨-, hf⟩ := grd_ex hf
      obtain ⟨x1, -, hf⟩ := bnd_ex hf
      by_cases hc : (20000 : Int32) ≤ x1
      · rw [if_pos hc] at hf
        by_cases hc : x1 = (20033 : Int32)
        · rw [if_pos hc] at hf
          by_cases hc : v2 ≤ 0
          · rw [if_pos hc] at hf
            exact (Fr.rfl (inM 999999 LX0_work_9) _).trans (rX0_work_130_9 ih hf)
          · rw [if_neg hc] at hf
            obtain ⟨-, hf⟩ := grd_ex hf
            obtain ⟨-, hf⟩ := grd_ex hf
            by_cases hc : (S.1 (9 + 2) (mIx (v2 - (1 : Int32)))) = 0
            · rw [if_pos hc] at hf
              exact (Fr.rfl (inM 999999 LX0_work_9) _).trans (rX0_work_87_9 ih hf)
            · rw [if_neg hc] at hf
              exact (Fr.rfl (inM 999999 LX0_work_9) _).trans (rX0_work_87_9 ih hf)
        · rw [if_neg hc] at hf
          by_cases hc : v2 ≤ (1 : Int32)
          · rw [if_pos hc] at hf
            exact (Fr.rfl (inM 999999 LX0_work_9) _).trans (rX0_work_130_9 ih hf)
          · rw [if_neg hc] at hf
            obtain ⟨x2, -, hf⟩ := bnd_ex hf
            obtain ⟨-, hf⟩ := grd_ex hf
            obtain ⟨-, hf⟩ := grd_ex hf
            obtain ⟨x4, S3, hq, hf⟩ := bndC_ex hf
            have F := (Fr.rfl (inM 999999 LX0_work_9) _).trans ((rX0_join hq).mono rfl (fun _ => rfl))
            obtain ⟨-, hf⟩ := grd_ex hf
            obtain ⟨S5, eS5, hf⟩ := bnd_ex hf
            have F : Fr (inM 999999 LX0_work_9) S S5 := by
              rw [eS5]
              exact Fr.sI F rfl
            exact F.trans (rX0_work_130_9 ih hf)
      · rw [if_neg hc] at hf
        by_cases hc : (30 : Int32) ≤ v2
        · rw [if_pos hc] at hf
          exact (Fr.rfl (inM 999999 LX0_work_9) _).trans (rX0_work_130_9 ih hf)
        · rw [if_neg hc] at hf
          obtain ⟨-, hf⟩ := grd_ex hf
          obtain ⟨x7, S6, hq, hf⟩ := bndC_ex hf
          have F := (Fr.rfl (inM 999999 LX0_work_9) _).trans ((rX0_leaf hq).mono rfl (fun _ => rfl))
          obtain ⟨-, hf⟩ := grd_ex hf
          obtain ⟨S8, eS8, hf⟩ := bnd_ex hf
          have F : Fr (inM 999999 LX0_work_9) S S8 := by
            rw [eS8]
            exact Fr.sI F rfl
          obtain ⟨x9, -, hf⟩ := bnd_ex hf
          exact F.trans (rX0_work_130_9 ih hf)
theorem rX0_work_0_9 {a1 : Nat} {S' : mT} {r : Int32} {S : mT} (hf : fX0_work 9 a1 S = some (r, S')) : Fr (inM 999999 LX0_work_9) S S' := by
  unfold fX0_work at hf
  exact (Fr.rfl (inM 999999 LX0_work_9) _).trans (rX0_work_4_9 _ _ _ _ hf)
theorem rX0_work_9 {a1 : Nat} {S S' : mT} {r : Int32} (hf : fX0_work 9 a1 S = some (r, S')) : Fr (inM 999999 LX0_work_9) S S' := rX0_work_0_9 hf
abbrev LX0_work_25 : List (Nat × Nat × Option Nat) := [(999999, 999999, none), (27, 27, none)]
theorem rX0_work_130_25 {a1 : Nat} {S' : mT} {r : Int32} {rc4 : Int32 → Int32 → mT → Option (Int32 × mT)} (Hrc4 : ∀ (v2 : Int32) (v3 : Int32) (S : mT), rc4 v2 v3 S = some (r, S') → Fr (inM 999999 LX0_work_25) S S') {v2 : Int32} {v3 : Int32} {S : mT} (hf : fX0_work_130 25 a1 rc4 v2 v3 S = some (r, S')) : Fr (inM 999999 LX0_work_25) S S' := by
  unfold fX0_work_130 at hf
  obtain ⟨x10, -, hf⟩ := bnd_ex hf
  exact (Fr.rfl (inM 999999 LX0_work_25) _).trans (Hrc4 _ _ _ hf)
theorem rX0_work_87_25 {a1 : Nat} {S' : mT} {r : Int32} {rc4 : Int32 → Int32 → mT → Option (Int32 × mT)} (Hrc4 : ∀ (v2 : Int32) (v3 : Int32) (S : mT), rc4 v2 v3 S = some (r, S') → Fr (inM 999999 LX0_work_25) S S') {v2 : Int32} {v3 : Int32} {s0 : Int32} {s1 : Int32} {S : mT} (hf : fX0_work_87 25 a1 rc4 v2 v3 s0 s1 S = some (r, S')) : Fr (inM 999999 LX0_work_25) S S' := by
  unfold fX0_work_87 at hf
  obtain ⟨-, hf⟩ := grd_ex hf
  obtain ⟨S11, eS11, hf⟩ := bnd_ex hf
  have F : Fr (inM 999999 LX0_work_25) S S11 := by
    rw [eS11]
    exact Fr.sI (Fr.rfl (inM 999999 LX0_work_25) _) rfl
  exact F.trans (rX0_work_130_25 Hrc4 hf)
theorem rX0_work_152_25 {a1 : Nat} {S' : mT} {r : Int32} {s0 : Int32} {S : mT} (hf : fX0_work_152 25 a1 s0 S = some (r, S')) : Fr (inM 999999 LX0_work_25) S S' := by
  unfold fX0_work_152 at hf
  cases hf
  exact (Fr.rfl (inM 999999 LX0_work_25) _)
theorem rX0_work_4_25 {a1 : Nat} {S' : mT} {r : Int32} : ∀ (k : Nat) (v2 : Int32) (v3 : Int32) (S : mT), fX0_work_4 25 a1 k v2 v3 S = some (r, S') → Fr (inM 999999 LX0_work_25) S S' := by
  intro k
  induction k with
  | zero =>
    intro v2 v3 S hf
    cases hf
  | succ k ih =>
    intro v2 v3 S hf
    unfold fX0_work_4 at hf
    obtain ⟨-, hf⟩ := grd_ex hf
    by_cases hc : (S.1 25 2) ≤ v3
    · rw [if_pos hc] at hf
      by_cases hc : v2 ≤ 0
      · rw [if_pos hc] at hf
        exact (Fr.rfl (inM 999999 LX0_work_25) _).trans (rX0_work_152_25 hf)
      · rw [if_neg hc] at hf
        obtain ⟨-, hf⟩ := grd_ex hf
        exact (Fr.rfl (inM 999999 LX0_work_25) _).trans (rX0_work_152_25 hf)
    · rw [if_neg hc] at hf
      obtain ⟨-, hf⟩ := grd_ex hf
      obtain ⟨x1, -, hf⟩ := bnd_ex hf
      by_cases hc : (20000 : Int32) ≤ x1
      · rw [if_pos hc] at hf
        by_cases hc : x1 = (20033 : Int32)
        · rw [if_pos hc] at hf
          by_cases hc : v2 ≤ 0
          · rw [if_pos hc] at hf
            exact (Fr.rfl (inM 999999 LX0_work_25) _).trans (rX0_work_130_25 ih hf)
          · rw [if_neg hc] at hf
            obtain ⟨-, hf⟩ := grd_ex hf
            obtain ⟨-, hf⟩ := grd_ex hf
            by_cases hc : (S.1 (25 + 2) (mIx (v2 - (1 : Int32)))) = 0
            · rw [if_pos hc] at hf
              exact (Fr.rfl (inM 999999 LX0_work_25) _).trans (rX0_work_87_25 ih hf)
            · rw [if_neg hc] at hf
              exact (Fr.rfl (inM 999999 LX0_work_25) _).trans (rX0_work_87_25 ih hf)
        · rw [if_neg hc] at hf
          by_cases hc : v2 ≤ (1 : Int32)
          · rw [if_pos hc] at hf
            exact (Fr.rfl (inM 999999 LX0_work_25) _).trans (rX0_work_130_25 ih hf)
          · rw [if_neg hc] at hf
            obtain ⟨x2, -, hf⟩ := bnd_ex hf
            obtain ⟨-, hf⟩ := grd_ex hf
            obtain ⟨-, hf⟩ := grd_ex hf
            obtain ⟨x4, S3, hq, hf⟩ := bndC_ex hf
            have F := (Fr.rfl (inM 999999 LX0_work_25) _).trans ((rX0_join hq).mono rfl (fun _ => rfl))
            obtain ⟨-, hf⟩ := grd_ex hf
            obtain ⟨S5, eS5, hf⟩ := bnd_ex hf
            have F : Fr (inM 999999 LX0_work_25) S S5 := by
              rw [eS5]
              exact Fr.sI F rfl
            exact F.trans (rX0_work_130_25 ih hf)
      · rw [if_neg hc] at hf
        by_cases hc : (30 : Int32) ≤ v2
        · rw [if_pos hc] at hf
          exact (Fr.rfl (inM 999999 LX0_work_25) _).trans (rX0_work_130_25 ih hf)
        · rw [if_neg hc] at hf
          obtain ⟨-, hf⟩ := grd_ex hf
          obtain ⟨x7, S6, hq, hf⟩ := bndC_ex hf
          have F := (Fr.rfl (inM 999999 LX0_work_25) _).trans ((rX0_leaf hq).mono rfl (fun _ => rfl))
          obtain ⟨-, hf⟩ := grd_ex hf
          obtain ⟨S8, eS8, hf⟩ := bnd_ex hf
          have F : Fr (inM 999999 LX0_work_25) S S8 := by
            rw [eS8]
            exact Fr.sI F rfl
          obtain ⟨x9, -, hf⟩ := bnd_ex hf
          exact F.trans (rX0_work_130_25 ih hf)
theorem rX0_work_0_25 {a1 : Nat} {S' : mT} {r : Int32} {S : mT} (hf : fX0_work 25 a1 S = some (r, S')) : Fr (inM 999999 LX0_work_25) S S' := by
  unfold fX0_work at hf
  exact (Fr.rfl (inM 999999 LX0_work_25) _).trans (rX0_work_4_25 _ _ _ _ hf)
theorem rX0_work_25 {a1 : Nat} {S S' : mT} {r : Int32} (hf : fX0_work 25 a1 S = some (r, S')) : Fr (inM 999999 LX0_work_25) S S' := rX0_work_0_25 hf
abbrev LX0_work_15 : List (Nat × Nat × Option Nat) := [(999999, 999999, none), (17, 17, none)]
theorem rX0_work_130_15 {a1 : Nat} {S' : mT} {r : Int32} {rc4 : Int32 → Int32 → mT → Option (Int32 × mT)} (Hrc4 : ∀ (v2 : Int32) (v3 : Int32) (S : mT), rc4 v2 v3 S = some (r, S') → Fr (inM 999999 LX0_work_15) S S') {v2 : Int32} {v3 : Int32} {S : mT} (hf : fX0_work_130 15 a1 rc4 v2 v3 S = some (r, S')) : Fr (inM 999999 LX0_work_15) S S' := by
  unfold fX0_work_130 at hf
  obtain ⟨x10, -, hf⟩ := bnd_ex hf
  exact (Fr.rfl (inM 999999 LX0_work_15) _).trans (Hrc4 _ _ _ hf)
theorem rX0_work_87_15 {a1 : Nat} {S' : mT} {r : Int32} {rc4 : Int32 → Int32 → mT → Option (Int32 × mT)} (Hrc4 : ∀ (v2 : Int32) (v3 : Int32) (S : mT), rc4 v2 v3 S = some (r, S') → Fr (inM 999999 LX0_work_15) S S') {v2 : Int32} {v3 : Int32} {s0 : Int32} {s1 : Int32} {S : mT} (hf : fX0_work_87 15 a1 rc4 v2 v3 s0 s1 S = some (r, S')) : Fr (inM 999999 LX0_work_15) S S' := by
  unfold fX0_work_87 at hf
  obtain ⟨-, hf⟩ := grd_ex hf
  obtain ⟨S11, eS11, hf⟩ := bnd_ex hf
  have F : Fr (inM 999999 LX0_work_15) S S11 := by
    rw [eS11]
    exact Fr.sI (Fr.rfl (inM 999999 LX0_work_15) _) rfl
  exact F.trans (rX0_work_130_15 Hrc4 hf)
theorem rX0_work_152_15 {a1 : Nat} {S' : mT} {r : Int32} {s0 : Int32} {S : mT} (hf : fX0_work_152 15 a1 s0 S = some (r, S')) : Fr (inM 999999 LX0_work_15) S S' := by
  unfold fX0_work_152 at hf
  cases hf
  exact (Fr.rfl (inM 999999 LX0_work_15) _)
theorem rX0_work_4_15 {a1 : Nat} {S' : mT} {r : Int32} : ∀ (k : Nat) (v2 : Int32) (v3 : Int32) (S : mT), fX0_work_4 15 a1 k v2 v3 S = some (r, S') → Fr (inM 999999 LX0_work_15) S S' := by
  intro k
  induction k with
  | zero =>
    intro v2 v3 S hf
    cases hf
  | succ k ih =>
    intro v2 v3 S hf
    unfold fX0_work_4 at hf
    obtain ⟨-, hf⟩ := grd_ex hf
    by_cases hc : (S.1 15 2) ≤ v3
    · rw [if_pos hc] at hf
      by_cases hc : v2 ≤ 0
      · rw [if_pos hc] at hf
        exact (Fr.rfl (inM 999999 LX0_work_15) _).trans (rX0_work_152_15 hf)
      · rw [if_neg hc] at hf
        obtain ⟨-, hf⟩ := grd_ex hf
        exact (Fr.rfl (inM 999999 LX0_work_15) _).trans (rX0_work_152_15 hf)
    · rw [if_neg hc] at hf
      obtain ⟨-, hf⟩ := grd_ex hf
      obtain ⟨x1, -, hf⟩ := bnd_ex hf
      by_cases hc : (20000 : Int32) ≤ x1
      · rw [if_pos hc] at hf
        by_cases hc : x1 = (20033 : Int32)
        · rw [if_pos hc] at hf
          by_cases hc : v2 ≤ 0
          · rw [if_pos hc] at hf
            exact (Fr.rfl (inM 999999 LX0_work_15) _).trans (rX0_work_130_15 ih hf)
          · rw [if_neg hc] at hf
            obtain ⟨-, hf⟩ := grd_ex hf
            obtain ⟨-, hf⟩ := grd_ex hf
            by_cases hc : (S.1 (15 + 2) (mIx (v2 - (1 : Int32)))) = 0
            · rw [if_pos hc] at hf
              exact (Fr.rfl (inM 999999 LX0_work_15) _).trans (rX0_work_87_15 ih hf)
            · rw [if_neg hc] at hf
              exact (Fr.rfl (inM 999999 LX0_work_15) _).trans (rX0_work_87_15 ih hf)
        · rw [if_neg hc] at hf
          by_cases hc : v2 ≤ (1 : Int32)
          · rw [if_pos hc] at hf
            exact (Fr.rfl (inM 999999 LX0_work_15) _).trans (rX0_work_130_15 ih hf)
          · rw [if_neg hc] at hf
            obtain ⟨x2, -, hf⟩ := bnd_ex hf
            obtain ⟨-, hf⟩ := grd_ex hf
            obtain ⟨-, hf⟩ := grd_ex hf
            obtain ⟨x4, S3, hq, hf⟩ := bndC_ex hf
            have F := (Fr.rfl (inM 999999 LX0_work_15) _).trans ((rX0_join hq).mono rfl (fun _ => rfl))
            obtain ⟨-, hf⟩ := grd_ex hf
            obtain ⟨S5, eS5, hf⟩ := bnd_ex hf
            have F : Fr (inM 999999 LX0_work_15) S S5 := by
              rw [eS5]
              exact Fr.sI F rfl
            exact F.trans (rX0_work_130_15 ih hf)
      · rw [if_neg hc] at hf
        by_cases hc : (30 : Int32) ≤ v2
        · rw [if_pos hc] at hf
          exact (Fr.rfl (inM 999999 LX0_work_15) _).trans (rX0_work_130_15 ih hf)
        · rw [if_neg hc] at hf
          obtain ⟨-, hf⟩ := grd_ex hf
          obtain ⟨x7, S6, hq, hf⟩ := bndC_ex hf
          have F := (Fr.rfl (inM 999999 LX0_work_15) _).trans ((rX0_leaf hq).mono rfl (fun _ => rfl))
          obtain ⟨-, hf⟩ := grd_ex hf
          obtain ⟨S8, eS8, hf⟩ := bnd_ex hf
          have F : Fr (inM 999999 LX0_work_15) S S8 := by
            rw [eS8]
            exact Fr.sI F rfl
          obtain ⟨x9, -, hf⟩ := bnd_ex hf
          exact F.trans (rX0_work_130_15 ih hf)
theorem rX0_work_0_15 {a1 : Nat} {S' : mT} {r : Int32} {S : mT} (hf : fX0_work 15 a1 S = some (r, S')) : Fr (inM 999999 LX0_work_15) S S' := by
  unfold fX0_work at hf
  exact (Fr.rfl (inM 999999 LX0_work_15) _).trans (rX0_work_4_15 _ _ _ _ hf)
theorem rX0_work_15 {a1 : Nat} {S S' : mT} {r : Int32} (hf : fX0_work 15 a1 S = some (r, S')) : Fr (inM 999999 LX0_work_15) S S' := rX0_work_0_15 hf
abbrev LX0_work_31 : List (Nat × Nat × Option Nat) := [(999999, 999999, none), (33, 33, none)]
theorem rX0_work_130_31 {a1 : Nat} {S' : mT} {r : Int32} {rc4 : Int32 → Int32 → mT → Option (Int32 × mT)} (Hrc4 : ∀ (v2 : Int32) (v3 : Int32) (S : mT), rc4 v2 v3 S = some (r, S') → Fr (inM 999999 LX0_work_31) S S') {v2 : Int32} {v3 : Int32} {S : mT} (hf : fX0_work_130 31 a1 rc4 v2 v3 S = some (r, S')) : Fr (inM 999999 LX0_work_31) S S' := by
  unfold fX0_work_130 at hf
  obtain ⟨x10, -, hf⟩ := bnd_ex hf
  exact (Fr.rfl (inM 999999 LX0_work_31) _).trans (Hrc4 _ _ _ hf)
theorem rX0_work_87_31 {a1 : Nat} {S' : mT} {r : Int32} {rc4 : Int32 → Int32 → mT → Option (Int32 × mT)} (Hrc4 : ∀ (v2 : Int32) (v3 : Int32) (S : mT), rc4 v2 v3 S = some (r, S') → Fr (inM 999999 LX0_work_31) S S') {v2 : Int32} {v3 : Int32} {s0 : Int32} {s1 : Int32} {S : mT} (hf : fX0_work_87 31 a1 rc4 v2 v3 s0 s1 S = some (r, S')) : Fr (inM 999999 LX0_work_31) S S' := by
  unfold fX0_work_87 at hf
  obtain ⟨-, hf⟩ := grd_ex hf
  obtain ⟨S11, eS11, hf⟩ := bnd_ex hf
  have F : Fr (inM 999999 LX0_work_31) S S11 := by
    rw [eS11]
    exact Fr.sI (Fr.rfl (inM 999999 LX0_work_31) _) rfl
  exact F.trans (rX0_work_130_31 Hrc4 hf)
theorem rX0_work_152_31 {a1 : Nat} {S' : mT} {r : Int32} {s0 : Int32} {S : mT} (hf : fX0_work_152 31 a1 s0 S = some (r, S')) : Fr (inM 999999 LX0_work_31) S S' := by
  unfold fX0_work_152 at hf
  cases hf
  exact (Fr.rfl (inM 999999 LX0_work_31) _)
theorem rX0_work_4_31 {a1 : Nat} {S' : mT} {r : Int32} : ∀ (k : Nat) (v2 : Int32) (v3 : Int32) (S : mT), fX0_work_4 31 a1 k v2 v3 S = some (r, S') → Fr (inM 999999 LX0_work_31) S S' := by
  intro k
  induction k with
  | zero =>
    intro v2 v3 S hf
    cases hf
  | succ k ih =>
    intro v2 v3 S hf
    unfold fX0_work_4 at hf
    obtain ⟨-, hf⟩ := grd_ex hf
    by_cases hc : (S.1 31 2) ≤ v3
    · rw [if_pos hc] at hf
      by_cases hc : v2 ≤ 0
      · rw [if_pos hc] at hf
        exact (Fr.rfl (inM 999999 LX0_work_31) _).trans (rX0_work_152_31 hf)
      · rw [if_neg hc] at hf
        obtain ⟨-, hf⟩ := grd_ex hf
        exact (Fr.rfl (inM 999999 LX0_work_31) _).trans (rX0_work_152_31 hf)
    · rw [if_neg hc] at hf
      obtain ⟨-, hf⟩ := grd_ex hf
      obtain ⟨x1, -, hf⟩ := bnd_ex hf
      by_cases hc : (20000 : Int32) ≤ x1
      · rw [if_pos hc] at hf
        by_cases hc : x1 = (20033 : Int32)
        · rw [if_pos hc] at hf
          by_cases hc : v2 ≤ 0
          · rw [if_pos hc] at hf
            exact (Fr.rfl (inM 999999 LX0_work_31) _).trans (rX0_work_130_31 ih hf)
          · rw [if_neg hc] at hf
            obtain ⟨-, hf⟩ := grd_ex hf
            obtain ⟨-, hf⟩ := grd_ex hf
            by_cases hc : (S.1 (31 + 2) (mIx (v2 - (1 : Int32)))) = 0
            · rw [if_pos hc] at hf
              exact (Fr.rfl (inM 999999 LX0_work_31) _).trans (rX0_work_87_31 ih hf)
            · rw [if_neg hc] at hf
              exact (Fr.rfl (inM 999999 LX0_work_31) _).trans (rX0_work_87_31 ih hf)
        · rw [if_neg hc] at hf
          by_cases hc : v2 ≤ (1 : Int32)
          · rw [if_pos hc] at hf
            exact (Fr.rfl (inM 999999 LX0_work_31) _).trans (rX0_work_130_31 ih hf)
          · rw [if_neg hc] at hf
            obtain ⟨x2, -, hf⟩ := bnd_ex hf
            obtain ⟨-, hf⟩ := grd_ex hf
            obtain ⟨-, hf⟩ := grd_ex hf
            obtain ⟨x4, S3, hq, hf⟩ := bndC_ex hf
            have F := (Fr.rfl (inM 999999 LX0_work_31) _).trans ((rX0_join hq).mono rfl (fun _ => rfl))
            obtain ⟨-, hf⟩ := grd_ex hf
            obtain ⟨S5, eS5, hf⟩ := bnd_ex hf
            have F : Fr (inM 999999 LX0_work_31) S S5 := by
              rw [eS5]
              exact Fr.sI F rfl
            exact F.trans (rX0_work_130_31 ih hf)
      · rw [if_neg hc] at hf
        by_cases hc : (30 : Int32) ≤ v2
        · rw [if_pos hc] at hf
          exact (Fr.rfl (inM 999999 LX0_work_31) _).trans (rX0_work_130_31 ih hf)
        · rw [if_neg hc] at hf
          obtain ⟨-, hf⟩ := grd_ex hf
          obtain ⟨x7, S6, hq, hf⟩ := bndC_ex hf
          have F := (Fr.rfl (inM 999999 LX0_work_31) _).trans ((rX0_leaf hq).mono rfl (fun _ => rfl))
          obtain ⟨-, hf⟩ := grd_ex hf
          obtain ⟨S8, eS8, hf⟩ := bnd_ex hf
          have F : Fr (inM 999999 LX0_work_31) S S8 := by
            rw [eS8]
            exact Fr.sI F rfl
          obtain ⟨x9, -, hf⟩ := bnd_ex hf
          exact F.trans (rX0_work_130_31 ih hf)
theorem rX0_work_0_31 {a1 : Nat} {S' : mT} {r : Int32} {S : mT} (hf : fX0_work 31 a1 S = some (r, S')) : Fr (inM 999999 LX0_work_31) S S' := by
  unfold fX0_work at hf
  exact (Fr.rfl (inM 999999 LX0_work_31) _).trans (rX0_work_4_31 _ _ _ _ hf)
theorem rX0_work_31 {a1 : Nat} {S S' : mT} {r : Int32} (hf : fX0_work 31 a1 S = some (r, S')) : Fr (inM 999999 LX0_work_31) S S' := rX0_work_0_31 hf
abbrev LX10_leftBySeeing : List (Nat × Nat × Option Nat) := [(999999, 999999, none)]
theorem rX10_leftBySeeing_4 {S' : mT} {r : Int32} : ∀ (k : Nat) (v1 : Int32) (v2 : Int32) (v3 : Int32) (S : mT), fX10_leftBySeeing_4 k v1 v2 v3 S = some (r, S') → Fr (inM 999999 LX10_leftBySeeing) S S' := by
  intro k
  induction k with
  | zero =>
    intro v1 v2 v3 S hf
    cases hf
  | succ k ih =>
    intro v1 v2 v3 S hf
    unfold fX10_leftBySeeing_4 at hf
    by_cases hc : (7 : Int32) < v3
    · rw [if_pos hc] at hf
      cases hf
      exact (Fr.rfl (inM 999999 LX10_leftBySeeing) _)
    · rw [if_neg hc] at hf
      obtain ⟨-, hf⟩ := grd_ex hf
      obtain ⟨x1, -, hf⟩ := bnd_ex hf
      obtain ⟨x2, -, hf⟩ := bnd_ex hf
      exact (Fr.rfl (inM 999999 LX10_leftBySeeing) _).trans (ih _ _ _ _ hf)
theorem rX10_leftBySeeing_0 {S' : mT} {r : Int32} {v1 : Int32} {S : mT} (hf : fX10_leftBySeeing v1 S = some (r, S')) : Fr (inM 999999 LX10_leftBySeeing) S S' := by
  unfold fX10_leftBySeeing at hf
  exact (Fr.rfl (inM 999999 LX10_leftBySeeing) _).trans (rX10_leftBySeeing_4 _ _ _ _ _ hf)
theorem rX10_leftBySeeing {v1 : Int32} {S S' : mT} {r : Int32} (hf : fX10_leftBySeeing v1 S = some (r, S')) : Fr (inM 999999 LX10_leftBySeeing) S S' := rX10_leftBySeeing_0 hf
abbrev LX10_bestToSee : List (Nat × Nat × Option Nat) := [(999999, 999999, none)]
theorem rX10_bestToSee_27 {S' : mT} {r : Int32} {rc4 : Int32 → Int32 → mT → Option (Int32 × mT)} (Hrc4 : ∀ (v1 : Int32) (v2 : Int32) (S : mT), rc4 v1 v2 S = some (r, S') → Fr (inM 999999 LX10_bestToSee) S S') {v1 : Int32} {v2 : Int32} {S : mT} (hf : fX10_bestToSee_27 rc4 v1 v2 S = some (r, S')) : Fr (inM 999999 LX10_bestToSee) S S' := by
  unfold fX10_bestToSee_27 at hf
  obtain ⟨x5, -, hf⟩ := bnd_ex hf
  exact (Fr.rfl (inM 999999 LX10_bestToSee) _).trans (Hrc4 _ _ _ hf)
theorem rX10_bestToSee_4 {S' : mT} {r : Int32} : ∀ (k : Nat) (v1 : Int32) (v2 : Int32) (S : mT), fX10_bestToSee_4 k v1 v2 S = some (r, S') → Fr (inM 999999 LX10_bestToSee) S S' := by
  intro k
  induction k with
  | zero =>
    intro v1 v2 S hf
    cases hf
  | succ k ih =>
    intro v1 v2 S hf
    unfold fX10_bestToSee_4 at hf
    obtain ⟨-, hf⟩ := grd_ex hf
    by_cases hc : (S.1 120 9) ≤ v2
    · rw [if_pos hc] at hf
      cases hf
      exact (Fr.rfl (inM 999999 LX10_bestToSee) _)
    · rw [if_neg hc] at hf
      obtain ⟨x2, S1, hq, hf⟩ := bndC_ex hf
      have F := (Fr.rfl (inM 999999 LX10_bestToSee) _).trans ((rX10_leftBySeeing hq).mono rfl (fun _ => rfl))
      obtain ⟨x4, S3, hq, hf⟩ := bndC_ex hf
      have F := F.trans ((rX10_leftBySeeing hq).mono rfl (fun _ => rfl))
      by_cases hc : x4 ≤ x2
      · rw [if_pos hc] at hf
        exact F.trans (rX10_bestToSee_27 ih hf)
      · rw [if_neg hc] at hf
        exact F.trans (rX10_bestToSee_27 ih hf)
theorem rX10_bestToSee_0 {S' : mT} {r : Int32} {S : mT} (hf : fX10_bestToSee S = some (r, S')) : Fr (inM 999999 LX10_bestToSee) S S' := by
  unfold fX10_bestToSee at hf
  exact (Fr.rfl (inM 999999 LX10_bestToSee) _).trans (rX10_bestToSee_4 _ _ _ _ hf)
theorem rX10_bestToSee {S S' : mT} {r : Int32} (hf : fX10_bestToSee S = some (r, S')) : Fr (inM 999999 LX10_bestToSee) S S' := rX10_bestToSee_0 hf
abbrev LX10_highest : List (Nat × Nat × Option Nat) := [(999999, 999999, none)]
theorem rX10_highest_5 {S' : mT} {r : Int32} : ∀ (k : Nat) (v1 : Int32) (v2 : Int32) (v3 : Int32) (S : mT), fX10_highest_5 k v1 v2 v3 S = some (r, S') → Fr (inM 999999 LX10_highest) S S' := by
  intro k
  induction k with
  | zero =>
    intro v1 v2 v3 S hf
    cases hf
  | succ k ih =>
    intro v1 v2 v3 S hf
    unfold fX10_highest_5 at hf
    obtain ⟨-, hf⟩ := grd_ex hf
    by_cases hc : (S.1 137 (mIx v1)) ≤ v3
    · rw [if_pos hc] at hf
      cases hf
      exact (Fr.rfl (inM 999999 LX10_highest) _)
    · rw [if_neg hc] at hf
      obtain ⟨-, hf⟩ := grd_ex hf
      obtain ⟨x1, -, hf⟩ := bnd_ex hf
      obtain ⟨-, hf⟩ := grd_ex hf
      obtain ⟨-, hf⟩ := grd_ex hf
      obtain ⟨x2, -, hf⟩ := bnd_ex hf
      obtain ⟨x3, -, hf⟩ := bnd_ex hf
      exact (Fr.rfl (inM 999999 LX10_highest) _).trans (ih _ _ _ _ hf)
theorem rX10_highest_0 {S' : mT} {r : Int32} {v1 : Int32} {S : mT} (hf : fX10_highest v1 S = some (r, S')) : Fr (inM 999999 LX10_highest) S S' := by
  unfold fX10_highest at hf
  exact (Fr.rfl (inM 999999 LX10_highest) _).trans (rX10_highest_5 _ _ _ _ _ hf)
theorem rX10_highest {v1 : Int32} {S S' : mT} {r : Int32} (hf : fX10_highest v1 S = some (r, S')) : Fr (inM 999999 LX10_highest) S S' := rX10_highest_0 hf
abbrev LX10_lowest : List (Nat × Nat × Option Nat) := [(999999, 999999, none)]
theorem rX10_lowest_4 {S' : mT} {r : Int32} : ∀ (k : Nat) (v1 : Int32) (v2 : Int32) (v3 : Int32) (S : mT), fX10_lowest_4 k v1 v2 v3 S = some (r, S') → Fr (inM 999999 LX10_lowest) S S' := by
  intro k
  induction k with
  | zero =>
    intro v1 v2 v3 S hf
    cases hf
  | succ k ih =>
    intro v1 v2 v3 S hf
    unfold fX10_lowest_4 at hf
    obtain ⟨-, hf⟩ := grd_ex hf
    by_cases hc : (S.1 137 (mIx v1)) ≤ v3
    · rw [if_pos hc] at hf
      cases hf
      exact (Fr.rfl (inM 999999 LX10_lowest) _)
    · rw [if_neg hc] at hf
      obtain ⟨-, hf⟩ := grd_ex hf
      obtain ⟨x1, -, hf⟩ := bnd_ex hf
      obtain ⟨-, hf⟩ := grd_ex hf
      obtain ⟨-, hf⟩ := grd_ex hf
      obtain ⟨x2, -, hf⟩ := bnd_ex hf
      obtain ⟨x3, -, hf⟩ := bnd_ex hf
      exact (Fr.rfl (inM 999999 LX10_lowest) _).trans (ih _ _ _ _ hf)
theorem rX10_lowest_0 {S' : mT} {r : Int32} {v1 : Int32} {S : mT} (hf : fX10_lowest v1 S = some (r, S')) : Fr (inM 999999 LX10_lowest) S S' := by
  unfold fX10_lowest at hf
  exact (Fr.rfl (inM 999999 LX10_lowest) _).trans (rX10_lowest_4 _ _ _ _ _ hf)
theorem rX10_lowest {v1 : Int32} {S S' : mT} {r : Int32} (hf : fX10_lowest v1 S = some (r, S')) : Fr (inM 999999 LX10_lowest) S S' := rX10_lowest_0 hf
abbrev LX9_setHeads_174 : List (Nat × Nat × Option Nat) := [(999999, 999999, none), (175, 175, none)]
theorem rX9_setHeads_2_174 {S' : mT} : ∀ (k : Nat) (v1 : Int32) (v2 : Int32) (v3 : Int32) (S : mT), fX9_setHeads_2 174 k v1 v2 v3 S = some S' → Fr (inM 999999 LX9_setHeads_174) S S' := by
  intro k
  induction k with
  | zero =>
    intro v1 v2 v3 S hf
    cases hf
  | succ k ih =>
    intro v1 v2 v3 S hf
    unfold fX9_setHeads_2 at hf
    by_cases hc : ((1 : Int32) <<< (v1 &&& 31)) ≤ v3
    · rw [if_pos hc] at hf
      cases hf
      exact (Fr.rfl (inM 999999 LX9_setHeads_174) _)
    · rw [if_neg hc] at hf
      obtain ⟨-, hf⟩ := grd_ex hf
      obtain ⟨-, hf⟩ := grd_ex hf
      obtain ⟨S1, eS1, hf⟩ := bnd_ex hf
      have F : Fr (inM 999999 LX9_setHeads_174) S S1 := by
        rw [eS1]
        exact Fr.sI (Fr.rfl (inM 999999 LX9_setHeads_174) _) rfl
      obtain ⟨x2, -, hf⟩ := bnd_ex hf
      exact F.trans (ih _ _ _ _ hf)
theorem rX9_setHeads_0_174 {S' : mT} {v1 : Int32} {v2 : Int32} {S : mT} (hf : fX9_setHeads 174 v1 v2 S = some S') : Fr (inM 999999 LX9_setHeads_174) S S' := by
  unfold fX9_setHeads at hf
  exact (Fr.rfl (inM 999999 LX9_setHeads_174) _).trans (rX9_setHeads_2_174 _ _ _ _ _ hf)
theorem rX9_setHeads_174 {v1 : Int32} {v2 : Int32} {S S' : mT} (hf : fX9_setHeads 174 v1 v2 S = some S') : Fr (inM 999999 LX9_setHeads_174) S S' := rX9_setHeads_0_174 hf
abbrev LX9_setHeads_129 : List (Nat × Nat × Option Nat) := [(999999, 999999, none), (130, 130, none)]
theorem rX9_setHeads_2_129 {S' : mT} : ∀ (k : Nat) (v1 : Int32) (v2 : Int32) (v3 : Int32) (S : mT), fX9_setHeads_2 129 k v1 v2 v3 S = some S' → Fr (inM 999999 LX9_setHeads_129) S S' := by
  intro k
  induction k with
  | zero =>
    intro v1 v2 v3 S hf
    cases hf
  | succ k ih =>
    intro v1 v2 v3 S hf
    unfold fX9_setHeads_2 at hf
    by_cases hc : ((1 : Int32) <<< (v1 &&& 31)) ≤ v3
    · rw [if_pos hc] at hf
      cases hf
      exact (Fr.rfl (inM 999999 LX9_setHeads_129) _)
    · rw [if_neg hc] at hf
      obtain ⟨-, hf⟩ := grd_ex hf
      obtain ⟨-, hf⟩ := grd_ex hf
      obtain ⟨S1, eS1, hf⟩ := bnd_ex hf
      have F : Fr (inM 999999 LX9_setHeads_129) S S1 := by
        rw [eS1]
        exact Fr.sI (Fr.rfl (inM 999999 LX9_setHeads_129) _) rfl
      obtain ⟨x2, -, hf⟩ := bnd_ex hf
      exact F.trans (ih _ _ _ _ hf)
theorem rX9_setHeads_0_129 {S' : mT} {v1 : Int32} {v2 : Int32} {S : mT} (hf : fX9_setHeads 129 v1 v2 S = some S') : Fr (inM 999999 LX9_setHeads_129) S S' := by
  unfold fX9_setHeads at hf
  exact (Fr.rfl (inM 999999 LX9_setHeads_129) _).trans (rX9_setHeads_2_129 _ _ _ _ _ hf)
theorem rX9_setHeads_129 {v1 : Int32} {v2 : Int32} {S S' : mT} (hf : fX9_setHeads 129 v1 v2 S = some S') : Fr (inM 999999 LX9_setHeads_129) S S' := rX9_setHeads_0_129 hf
abbrev LX10_countFrom : List (Nat × Nat × Option Nat) := [(999999, 999999, none), (122, 126, none), (130, 130, none)]
theorem rX10_countFrom_65 {self : Int32 → mT → Option (Int32 × mT)} (Hself : ∀ {v1 : Int32} {S S' : mT} {r : Int32}, self v1 S = some (r, S') → Fr (inM 999999 LX10_countFrom) S S') {S' : mT} {r : Int32} {rc23 : Int32 → Int32 → Int32 → Int32 → mT → Option (Int32 × mT)} (Hrc23 : ∀ (v1 : Int32) (v2 : Int32) (v4 : Int32) (v5 : Int32) (S : mT), rc23 v1 v2 v4 v5 S = some (r, S') → Fr (inM 999999 LX10_countFrom) S S') {v1 : Int32} {v2 : Int32} {v4 : Int32} {v5 : Int32} {v6 : Int32} {S : mT} (hf : fX10_countFrom_65 self rc23 v1 v2 v4 v5 v6 S = some (r, S')) : Fr (inM 999999 LX10_countFrom) S S' := by
  unfold fX10_countFrom_65 at hf
  obtain ⟨-, hf⟩ := grd_ex hf
  obtain ⟨S9, eS9, hf⟩ := bnd_ex hf
  have F : Fr (inM 999999 LX10_countFrom) S S9 := by
    rw [eS9]
    exact Fr.sI (Fr.rfl (inM 999999 LX10_countFrom) _) (inM_row 122 126 (rr_121 _) rfl rfl)
  obtain ⟨x10, -, hf⟩ := bnd_ex hf
  obtain ⟨x11, -, hf⟩ := bnd_ex hf
  exact F.trans (Hrc23 _ _ _ _ _ hf)
theorem rX10_countFrom_23 {self : Int32 → mT → Option (Int32 × mT)} (Hself : ∀ {v1 : Int32} {S S' : mT} {r : Int32}, self v1 S = some (r, S') → Fr (inM 999999 LX10_countFrom) S S') {S' : mT} {r : Int32} : ∀ (k : Nat) (v1 : Int32) (v2 : Int32) (v4 : Int32) (v5 : Int32) (S : mT), fX10_countFrom_23 self k v1 v2 v4 v5 S = some (r, S') → Fr (inM 999999 LX10_countFrom) S S' := by
  intro k
  induction k with
  | zero =>
    intro v1 v2 v4 v5 S hf
    cases hf
  | succ k ih =>
    intro v1 v2 v4 v5 S hf
    unfold fX10_countFrom_23 at hf
    by_cases hc : v4 < v5
    · rw [if_pos hc] at hf
      cases hf
      exact (Fr.rfl (inM 999999 LX10_countFrom) _)
    · rw [if_neg hc] at hf
      obtain ⟨-, hf⟩ := grd_ex hf
      obtain ⟨x5, -, hf⟩ := bnd_ex hf
      obtain ⟨-, hf⟩ := grd_ex hf
      by_cases hc : (S.1 120 12) ≤ (v1 + (1 : Int32))
      · rw [if_pos hc] at hf
        exact (Fr.rfl (inM 999999 LX10_countFrom) _).trans (rX10_countFrom_65 Hself ih hf)
      · rw [if_neg hc] at hf
        obtain ⟨-, hf⟩ := grd_ex hf
        obtain ⟨S6, hq, hf⟩ := bndV_ex hf
        have F := (Fr.rfl (inM 999999 LX10_countFrom) _).trans ((rX9_setHeads_129 hq).mono rfl (fun _ => rfl))
        obtain ⟨x8, S7, hq, hf⟩ := bndC_ex hf
        have F := F.trans (Hself hq)
        exact F.trans (rX10_countFrom_65 Hself ih hf)
theorem rX10_countFrom_0 {self : Int32 → mT → Option (Int32 × mT)} (Hself : ∀ {v1 : Int32} {S S' : mT} {r : Int32}, self v1 S = some (r, S') → Fr (inM 999999 LX10_countFrom) S S') {S' : mT} {r : Int32} {v1 : Int32} {S : mT} (hf : fX10_countFrom_0 self v1 S = some (r, S')) : Fr (inM 999999 LX10_countFrom) S S' := by
  unfold fX10_countFrom_0 at hf
  obtain ⟨-, hf⟩ := grd_ex hf
  obtain ⟨x2, S1, hq, hf⟩ := bndC_ex hf
  have F := (Fr.rfl (inM 999999 LX10_countFrom) _).trans ((rX10_highest hq).mono rfl (fun _ => rfl))
  obtain ⟨x4, S3, hq, hf⟩ := bndC_ex hf
  have F := F.trans ((rX10_lowest hq).mono rfl (fun _ => rfl))
  exact F.trans (rX10_countFrom_23 Hself _ _ _ _ _ _ hf)
theorem rX10_countFrom : ∀ (d : Nat) {v1 : Int32} {S S' : mT} {r : Int32} (hf : fX10_countFrom d v1 S = some (r, S')), Fr (inM 999999 LX10_countFrom) S S' := by
  intro d
  induction d with
  | zero =>
    intro v1 S S' r hf
    cases hf
  | succ d ih =>
    intro v1 S S' r hf
    exact rX10_countFrom_0 ih hf
abbrev LX10_fewestIn : List (Nat × Nat × Option Nat) := [(999999, 999999, none)]
theorem rX10_fewestIn_2 {S' : mT} {r : Int32} : ∀ (k : Nat) (v1 : Int32) (v2 : Int32) (S : mT), fX10_fewestIn_2 k v1 v2 S = some (r, S') → Fr (inM 999999 LX10_fewestIn) S S' := by
  intro k
  induction k with
  | zero =>
    intro v1 v2 S hf
    cases hf
  | succ k ih =>
    intro v1 v2 S hf
    unfold fX10_fewestIn_2 at hf
    by_cases hc : (7 : Int32) < v2
    · rw [if_pos hc] at hf
      cases hf
      exact (Fr.rfl (inM 999999 LX10_fewestIn) _)
    · rw [if_neg hc] at hf
      obtain ⟨-, hf⟩ := grd_ex hf
      by_cases hc : (S.1 (rowR 121 (mIx v1)) (mIx v2)) ≤ 0
      · rw [if_pos hc] at hf
        obtain ⟨x1, -, hf⟩ := bnd_ex hf
        exact (Fr.rfl (inM 999999 LX10_fewestIn) _).trans (ih _ _ _ hf)
      · rw [if_neg hc] at hf
        cases hf
        exact (Fr.rfl (inM 999999 LX10_fewestIn) _)
theorem rX10_fewestIn_0 {S' : mT} {r : Int32} {v1 : Int32} {S : mT} (hf : fX10_fewestIn v1 S = some (r, S')) : Fr (inM 999999 LX10_fewestIn) S S' := by
  unfold fX10_fewestIn at hf
  exact (Fr.rfl (inM 999999 LX10_fewestIn) _).trans (rX10_fewestIn_2 _ _ _ _ hf)
theorem rX10_fewestIn {v1 : Int32} {S S' : mT} {r : Int32} (hf : fX10_fewestIn v1 S = some (r, S')) : Fr (inM 999999 LX10_fewestIn) S S' := rX10_fewestIn_0 hf
abbrev LX10_gatherFrom : List (Nat × Nat × Option Nat) := [(999999, 999999, none), (120, 120, some 6), (130, 130, none), (138, 138, none)]
theorem rX10_gatherFrom_38 {self : Int32 → Int32 → mT → Option (mT)} (Hself : ∀ {v1 : Int32} {v2 : Int32} {S S' : mT}, self v1 v2 S = some S' → Fr (inM 999999 LX10_gatherFrom) S S') {S' : mT} {S : mT} (hf : fX10_gatherFrom_38 self S = some S') : Fr (inM 999999 LX10_gatherFrom) S S' := by
  unfold fX10_gatherFrom_38 at hf
  cases hf
  exact (Fr.rfl (inM 999999 LX10_gatherFrom) _)
theorem rX10_gatherFrom_78 {self : Int32 → Int32 → mT → Option (mT)} (Hself : ∀ {v1 : Int32} {v2 : Int32} {S S' : mT}, self v1 v2 S = some S' → Fr (inM 999999 LX10_gatherFrom) S S') {S' : mT} {rc52 : Int32 → Int32 → Int32 → Int32 → mT → Option (mT)} (Hrc52 : ∀ (v1 : Int32) (v2 : Int32) (v3 : Int32) (v4 : Int32) (S : mT), rc52 v1 v2 v3 v4 S = some S' → Fr (inM 999999 LX10_gatherFrom) S S') {v1 : Int32} {v2 : Int32} {v3 : Int32} {v4 : Int32} {S : mT} (hf : fX10_gatherFrom_78 self rc52 v1 v2 v3 v4 S = some S') : Fr (inM 999999 LX10_gatherFrom) S S' := by
  unfold fX10_gatherFrom_78 at hf
  obtain ⟨S8, hq, hf⟩ := bndV_ex hf
  have F := (Fr.rfl (inM 999999 LX10_gatherFrom) _).trans (Hself hq)
  obtain ⟨x9, -, hf⟩ := bnd_ex hf
  exact F.trans (Hrc52 _ _ _ _ _ hf)
theorem rX10_gatherFrom_52 {self : Int32 → Int32 → mT → Option (mT)} (Hself : ∀ {v1 : Int32} {v2 : Int32} {S S' : mT}, self v1 v2 S = some S' → Fr (inM 999999 LX10_gatherFrom) S S') {S' : mT} : ∀ (k : Nat) (v1 : Int32) (v2 : Int32) (v3 : Int32) (v4 : Int32) (S : mT), fX10_gatherFrom_52 self k v1 v2 v3 v4 S = some S' → Fr (inM 999999 LX10_gatherFrom) S S' := by
  intro k
  induction k with
  | zero =>
    intro v1 v2 v3 v4 S hf
    cases hf
  | succ k ih =>
    intro v1 v2 v3 v4 S hf
    unfold fX10_gatherFrom_52 at hf
    by_cases hc : v3 < v4
    · rw [if_pos hc] at hf
      cases hf
      exact (Fr.rfl (inM 999999 LX10_gatherFrom) _)
    · rw [if_neg hc] at hf
      obtain ⟨-, hf⟩ := grd_ex hf
      by_cases hc : (S.1 120 12) ≤ (v1 + (1 : Int32))
      · rw [if_pos hc] at hf
        exact (Fr.rfl (inM 999999 LX10_gatherFrom) _).trans (rX10_gatherFrom_78 Hself ih hf)
      · rw [if_neg hc] at hf
        obtain ⟨-, hf⟩ := grd_ex hf
        obtain ⟨S7, hq, hf⟩ := bndV_ex hf
        have F := (Fr.rfl (inM 999999 LX10_gatherFrom) _).trans ((rX9_setHeads_129 hq).mono rfl (fun _ => rfl))
        exact F.trans (rX10_gatherFrom_78 Hself ih hf)
theorem rX10_gatherFrom_0 {self : Int32 → Int32 → mT → Option (mT)} (Hself : ∀ {v1 : Int32} {v2 : Int32} {S S' : mT}, self v1 v2 S = some S' → Fr (inM 999999 LX10_gatherFrom) S S') {S' : mT} {v1 : Int32} {v2 : Int32} {S : mT} (hf : fX10_gatherFrom_0 self v1 v2 S = some S') : Fr (inM 999999 LX10_gatherFrom) S S' := by
  unfold fX10_gatherFrom_0 at hf
  obtain ⟨-, hf⟩ := grd_ex hf
  by_cases hc : v1 < (S.1 120 9)
  · rw [if_pos hc] at hf
    obtain ⟨x2, S1, hq, hf⟩ := bndC_ex hf
    have F := (Fr.rfl (inM 999999 LX10_gatherFrom) _).trans ((rX10_highest hq).mono rfl (fun _ => rfl))
    obtain ⟨x4, S3, hq, hf⟩ := bndC_ex hf
    have F := F.trans ((rX10_lowest hq).mono rfl (fun _ => rfl))
    exact F.trans (rX10_gatherFrom_52 Hself _ _ _ _ _ _ hf)
  · rw [if_neg hc] at hf
    obtain ⟨-, hf⟩ := grd_ex hf
    by_cases hc : (4096 : Int32) ≤ (S.1 120 6)
    · rw [if_pos hc] at hf
      exact (Fr.rfl (inM 999999 LX10_gatherFrom) _).trans (rX10_gatherFrom_38 Hself hf)
    · rw [if_neg hc] at hf
      obtain ⟨-, hf⟩ := grd_ex hf
      obtain ⟨S5, eS5, hf⟩ := bnd_ex hf
      have F : Fr (inM 999999 LX10_gatherFrom) S S5 := by
        rw [eS5]
        exact Fr.sI (Fr.rfl (inM 999999 LX10_gatherFrom) _) rfl
      obtain ⟨-, hf⟩ := grd_ex hf
      obtain ⟨S6, eS6, hf⟩ := bnd_ex hf
      have F : Fr (inM 999999 LX10_gatherFrom) S S6 := by
        rw [eS6]
        exact Fr.sI F rfl
      exact F.trans (rX10_gatherFrom_38 Hself hf)
theorem rX10_gatherFrom : ∀ (d : Nat) {v1 : Int32} {v2 : Int32} {S S' : mT} (hf : fX10_gatherFrom d v1 v2 S = some S'), Fr (inM 999999 LX10_gatherFrom) S S' := by
  intro d
  induction d with
  | zero =>
    intro v1 v2 S S' hf
    cases hf
  | succ d ih =>
    intro v1 v2 S S' hf
    exact rX10_gatherFrom_0 ih hf
abbrev LX10_partOf : List (Nat × Nat × Option Nat) := [(999999, 999999, none)]
theorem rX10_partOf_38 {S' : mT} {r : Int32} {rc5 : Int32 → Int32 → Int32 → Int32 → mT → Option (Int32 × mT)} (Hrc5 : ∀ (v1 : Int32) (v2 : Int32) (v3 : Int32) (v4 : Int32) (S : mT), rc5 v1 v2 v3 v4 S = some (r, S') → Fr (inM 999999 LX10_partOf) S S') {v1 : Int32} {v2 : Int32} {v3 : Int32} {v4 : Int32} {S : mT} (hf : fX10_partOf_38 rc5 v1 v2 v3 v4 S = some (r, S')) : Fr (inM 999999 LX10_partOf) S S' := by
  unfold fX10_partOf_38 at hf
  obtain ⟨x2, -, hf⟩ := bnd_ex hf
  exact (Fr.rfl (inM 999999 LX10_partOf) _).trans (Hrc5 _ _ _ _ _ hf)
theorem rX10_partOf_5 {S' : mT} {r : Int32} : ∀ (k : Nat) (v1 : Int32) (v2 : Int32) (v3 : Int32) (v4 : Int32) (S : mT), fX10_partOf_5 k v1 v2 v3 v4 S = some (r, S') → Fr (inM 999999 LX10_partOf) S S' := by
  intro k
  induction k with
  | zero =>
    intro v1 v2 v3 v4 S hf
    cases hf
  | succ k ih =>
    intro v1 v2 v3 v4 S hf
    unfold fX10_partOf_5 at hf
    obtain ⟨-, hf⟩ := grd_ex hf
    by_cases hc : (S.1 120 9) ≤ v4
    · rw [if_pos hc] at hf
      cases hf
      exact (Fr.rfl (inM 999999 LX10_partOf) _)
    · rw [if_neg hc] at hf
      by_cases hc : ((v2 >>> (v4 &&& 31)) &&& (1 : Int32)) = (1 : Int32)
      · rw [if_pos hc] at hf
        obtain ⟨x1, -, hf⟩ := bnd_ex hf
        exact (Fr.rfl (inM 999999 LX10_partOf) _).trans (rX10_partOf_38 ih hf)
      · rw [if_neg hc] at hf
        exact (Fr.rfl (inM 999999 LX10_partOf) _).trans (rX10_partOf_38 ih hf)
theorem rX10_partOf_0 {S' : mT} {r : Int32} {v1 : Int32} {v2 : Int32} {S : mT} (hf : fX10_partOf v1 v2 S = some (r, S')) : Fr (inM 999999 LX10_partOf) S S' := by
  unfold fX10_partOf at hf
  exact (Fr.rfl (inM 999999 LX10_partOf) _).trans (rX10_partOf_5 _ _ _ _ _ _ hf)
theorem rX10_partOf {v1 : Int32} {v2 : Int32} {S S' : mT} {r : Int32} (hf : fX10_partOf v1 v2 S = some (r, S')) : Fr (inM 999999 LX10_partOf) S S' := rX10_partOf_0 hf
abbrev LX10_tellsApart : List (Nat × Nat × Option Nat) := [(999999, 999999, none), (120, 120, some 7), (139, 139, none)]
theorem rX10_tellsApart_12 {S' : mT} {r : Int32} : ∀ (k : Nat) (v1 : Int32) (v2 : Int32) (S : mT), fX10_tellsApart_12 k v1 v2 S = some (r, S') → Fr (inM 999999 LX10_tellsApart) S S' := by
  intro k
  induction k with
  | zero =>
    intro v1 v2 S hf
    cases hf
  | succ k ih =>
    intro v1 v2 S hf
    unfold fX10_tellsApart_12 at hf
    obtain ⟨-, hf⟩ := grd_ex hf
    by_cases hc : (S.1 120 6) ≤ v2
    · rw [if_pos hc] at hf
      cases hf
      exact (Fr.rfl (inM 999999 LX10_tellsApart) _)
    · rw [if_neg hc] at hf
      obtain ⟨-, hf⟩ := grd_ex hf
      obtain ⟨x3, S2, hq, hf⟩ := bndC_ex hf
      have F := (Fr.rfl (inM 999999 LX10_tellsApart) _).trans ((rX10_partOf hq).mono rfl (fun _ => rfl))
      obtain ⟨-, hf⟩ := grd_ex hf
      by_cases hc : (S2.1 139 (mIx x3)) = (S2.1 120 7)
      · rw [if_pos hc] at hf
        cases hf
        exact F
      · rw [if_neg hc] at hf
        obtain ⟨-, hf⟩ := grd_ex hf
        obtain ⟨S4, eS4, hf⟩ := bnd_ex hf
        have F : Fr (inM 999999 LX10_tellsApart) S S4 := by
          rw [eS4]
          exact Fr.sI F rfl
        obtain ⟨x5, -, hf⟩ := bnd_ex hf
        exact F.trans (ih _ _ _ hf)
theorem rX10_tellsApart_0 {S' : mT} {r : Int32} {v1 : Int32} {S : mT} (hf : fX10_tellsApart v1 S = some (r, S')) : Fr (inM 999999 LX10_tellsApart) S S' := by
  unfold fX10_tellsApart at hf
  obtain ⟨-, hf⟩ := grd_ex hf
  obtain ⟨S1, eS1, hf⟩ := bnd_ex hf
  have F : Fr (inM 999999 LX10_tellsApart) S S1 := by
    rw [eS1]
    exact Fr.sI (Fr.rfl (inM 999999 LX10_tellsApart) _) rfl
  exact F.trans (rX10_tellsApart_12 _ _ _ _ hf)
theorem rX10_tellsApart {v1 : Int32} {S S' : mT} {r : Int32} (hf : fX10_tellsApart v1 S = some (r, S')) : Fr (inM 999999 LX10_tellsApart) S S' := rX10_tellsApart_0 hf
abbrev LX10_findTelling : List (Nat × Nat × Option Nat) := [(999999, 999999, none), (120, 120, some 6), (120, 120, some 7), (130, 130, none), (138, 138, none), (139, 139, none)]
theorem rX10_findTelling_33 {S' : mT} {r : Int32} {v1 : Int32} {S : mT} (hf : fX10_findTelling_33 v1 S = some (r, S')) : Fr (inM 999999 LX10_findTelling) S S' := by
  unfold fX10_findTelling_33 at hf
  cases hf
  exact (Fr.rfl (inM 999999 LX10_findTelling) _)
theorem rX10_findTelling_93 {S' : mT} {r : Int32} {rc48 : Int32 → Int32 → mT → Option (Int32 × mT)} (Hrc48 : ∀ (v1 : Int32) (v2 : Int32) (S : mT), rc48 v1 v2 S = some (r, S') → Fr (inM 999999 LX10_findTelling) S S') {rc58 : Int32 → Int32 → Int32 → mT → Option (Int32 × mT)} (Hrc58 : ∀ (v1 : Int32) (v2 : Int32) (v3 : Int32) (S : mT), rc58 v1 v2 v3 S = some (r, S') → Fr (inM 999999 LX10_findTelling) S S') {v1 : Int32} {v2 : Int32} {v3 : Int32} {S : mT} (hf : fX10_findTelling_93 rc48 rc58 v1 v2 v3 S = some (r, S')) : Fr (inM 999999 LX10_findTelling) S S' := by
  unfold fX10_findTelling_93 at hf
  obtain ⟨x9, -, hf⟩ := bnd_ex hf
  exact (Fr.rfl (inM 999999 LX10_findTelling) _).trans (Hrc58 _ _ _ _ hf)
theorem rX10_findTelling_99 {S' : mT} {r : Int32} {rc48 : Int32 → Int32 → mT → Option (Int32 × mT)} (Hrc48 : ∀ (v1 : Int32) (v2 : Int32) (S : mT), rc48 v1 v2 S = some (r, S') → Fr (inM 999999 LX10_findTelling) S S') {v1 : Int32} {v2 : Int32} {S : mT} (hf : fX10_findTelling_99 rc48 v1 v2 S = some (r, S')) : Fr (inM 999999 LX10_findTelling) S S' := by
  unfold fX10_findTelling_99 at hf
  obtain ⟨x8, -, hf⟩ := bnd_ex hf
  exact (Fr.rfl (inM 999999 LX10_findTelling) _).trans (Hrc48 _ _ _ hf)
theorem rX10_findTelling_58 {S' : mT} {r : Int32} {rc48 : Int32 → Int32 → mT → Option (Int32 × mT)} (Hrc48 : ∀ (v1 : Int32) (v2 : Int32) (S : mT), rc48 v1 v2 S = some (r, S') → Fr (inM 999999 LX10_findTelling) S S') : ∀ (k : Nat) (v1 : Int32) (v2 : Int32) (v3 : Int32) (S : mT), fX10_findTelling_58 rc48 k v1 v2 v3 S = some (r, S') → Fr (inM 999999 LX10_findTelling) S S' := by
  intro k
  induction k with
  | zero =>
    intro v1 v2 v3 S hf
    cases hf
  | succ k ih =>
    intro v1 v2 v3 S hf
    unfold fX10_findTelling_58 at hf
    by_cases hc : v1 ≤ v3
    · rw [if_pos hc] at hf
      exact (Fr.rfl (inM 999999 LX10_findTelling) _).trans (rX10_findTelling_99 Hrc48 hf)
    · rw [if_neg hc] at hf
      obtain ⟨-, hf⟩ := grd_ex hf
      by_cases hc : ((1 : Int32) <<< (((3 : Int32) * v2) &&& 31)) < (S.1 120 8)
      · rw [if_pos hc] at hf
        exact (Fr.rfl (inM 999999 LX10_findTelling) _).trans (rX10_findTelling_99 Hrc48 hf)
      · rw [if_neg hc] at hf
        obtain ⟨x5, S4, hq, hf⟩ := bndC_ex hf
        have F := (Fr.rfl (inM 999999 LX10_findTelling) _).trans ((rJ6_bitCount_0f7a4 hq).mono rfl (fun _ => rfl))
        by_cases hc : x5 = v2
        · rw [if_pos hc] at hf
          obtain ⟨x7, S6, hq, hf⟩ := bndC_ex hf
          have F := F.trans ((rX10_tellsApart hq).mono rfl (fun _ => rfl))
          by_cases hc : x7 = 0
          · rw [if_pos hc] at hf
            exact F.trans (rX10_findTelling_93 Hrc48 ih hf)
          · rw [if_neg hc] at hf
            cases hf
            exact F
        · rw [if_neg hc] at hf
          exact F.trans (rX10_findTelling_93 Hrc48 ih hf)
theorem rX10_findTelling_48 {S' : mT} {r : Int32} : ∀ (k : Nat) (v1 : Int32) (v2 : Int32) (S : mT), fX10_findTelling_48 k v1 v2 S = some (r, S') → Fr (inM 999999 LX10_findTelling) S S' := by
  intro k
  induction k with
  | zero =>
    intro v1 v2 S hf
    cases hf
  | succ k ih =>
    intro v1 v2 S hf
    unfold fX10_findTelling_48 at hf
    obtain ⟨-, hf⟩ := grd_ex hf
    by_cases hc : (S.1 120 9) ≤ v2
    · rw [if_pos hc] at hf
      cases hf
      exact (Fr.rfl (inM 999999 LX10_findTelling) _)
    · rw [if_neg hc] at hf
      exact (Fr.rfl (inM 999999 LX10_findTelling) _).trans (rX10_findTelling_58 ih _ _ _ _ _ hf)
theorem rX10_findTelling_0 {S' : mT} {r : Int32} {S : mT} (hf : fX10_findTelling S = some (r, S')) : Fr (inM 999999 LX10_findTelling) S S' := by
  unfold fX10_findTelling at hf
  obtain ⟨-, hf⟩ := grd_ex hf
  obtain ⟨x1, -, hf⟩ := bnd_ex hf
  obtain ⟨-, hf⟩ := grd_ex hf
  by_cases hc : (S.1 120 9) = 0
  · rw [if_pos hc] at hf
    exact (Fr.rfl (inM 999999 LX10_findTelling) _).trans (rX10_findTelling_33 hf)
  · rw [if_neg hc] at hf
    obtain ⟨-, hf⟩ := grd_ex hf
    by_cases hc : (S.1 120 8) ≤ ((1 : Int32) <<< (((3 : Int32) * ((S.1 120 9) - (1 : Int32))) &&& 31))
    · rw [if_pos hc] at hf
      obtain ⟨-, hf⟩ := grd_ex hf
      obtain ⟨S2, eS2, hf⟩ := bnd_ex hf
      have F : Fr (inM 999999 LX10_findTelling) S S2 := by
        rw [eS2]
        exact Fr.sI (Fr.rfl (inM 999999 LX10_findTelling) _) rfl
      obtain ⟨S3, hq, hf⟩ := bndV_ex hf
      have F := F.trans ((rX10_gatherFrom 16 hq).mono rfl (fun _ => rfl))
      exact F.trans (rX10_findTelling_48 _ _ _ _ hf)
    · rw [if_neg hc] at hf
      exact (Fr.rfl (inM 999999 LX10_findTelling) _).trans (rX10_findTelling_33 hf)
theorem rX10_findTelling {S S' : mT} {r : Int32} (hf : fX10_findTelling S = some (r, S')) : Fr (inM 999999 LX10_findTelling) S S' := rX10_findTelling_0 hf
abbrev LX10_forget : List (Nat × Nat × Option Nat) := [(999999, 999999, none), (120, 120, some 14)]
theorem rX10_forget_0 {S' : mT} {S : mT} (hf : fX10_forget S = some S') : Fr (inM 999999 LX10_forget) S S' := by
  unfold fX10_forget at hf
  obtain ⟨-, hf⟩ := grd_ex hf
  obtain ⟨S1, eS1, hf⟩ := bnd_ex hf
  have F : Fr (inM 999999 LX10_forget) S S1 := by
    rw [eS1]
    exact Fr.sI (Fr.rfl (inM 999999 LX10_forget) _) rfl
  cases hf
  exact F
theorem rX10_forget {S S' : mT} (hf : fX10_forget S = some S') : Fr (inM 999999 LX10_forget) S S' := rX10_forget_0 hf
abbrev LX10_takeReports : List (Nat × Nat × Option Nat) := [(999999, 999999, none), (127, 127, none), (128, 128, none)]
theorem rX10_takeReports_102 {S' : mT} {r : Int32} {rc21 : Int32 → Int32 → mT → Option (Int32 × mT)} (Hrc21 : ∀ (v2 : Int32) (v3 : Int32) (S : mT), rc21 v2 v3 S = some (r, S') → Fr (inM 999999 LX10_takeReports) S S') {v2 : Int32} {v3 : Int32} {S : mT} (hf : fX10_takeReports_102 rc21 v2 v3 S = some (r, S')) : Fr (inM 999999 LX10_takeReports) S S' := by
  unfold fX10_takeReports_102 at hf
  obtain ⟨x9, -, hf⟩ := bnd_ex hf
  exact (Fr.rfl (inM 999999 LX10_takeReports) _).trans (Hrc21 _ _ _ hf)
theorem rX10_takeReports_21 {S' : mT} {r : Int32} : ∀ (k : Nat) (v2 : Int32) (v3 : Int32) (S : mT), fX10_takeReports_21 k v2 v3 S = some (r, S') → Fr (inM 999999 LX10_takeReports) S S' := by
  intro k
  induction k with
  | zero =>
    intro v2 v3 S hf
    cases hf
  | succ k ih =>
    intro v2 v3 S hf
    unfold fX10_takeReports_21 at hf
    obtain ⟨-, hf⟩ := grd_ex hf
    by_cases hc : (S.1 114 5) ≤ v3
    · rw [if_pos hc] at hf
      cases hf
      exact (Fr.rfl (inM 999999 LX10_takeReports) _)
    · rw [if_neg hc] at hf
      obtain ⟨-, hf⟩ := grd_ex hf
      by_cases hc : (((S.1 120 10) >>> (v3 &&& 31)) &&& (1 : Int32)) = (1 : Int32)
      · rw [if_pos hc] at hf
        obtain ⟨-, hf⟩ := grd_ex hf
        obtain ⟨x3, -, hf⟩ := bnd_ex hf
        obtain ⟨-, hf⟩ := grd_ex hf
        obtain ⟨-, hf⟩ := grd_ex hf
        obtain ⟨x4, -, hf⟩ := bnd_ex hf
        obtain ⟨-, hf⟩ := grd_ex hf
        obtain ⟨S5, eS5, hf⟩ := bnd_ex hf
        have F : Fr (inM 999999 LX10_takeReports) S S5 := by
          rw [eS5]
          exact Fr.sI (Fr.rfl (inM 999999 LX10_takeReports) _) rfl
        obtain ⟨-, hf⟩ := grd_ex hf
        obtain ⟨-, hf⟩ := grd_ex hf
        obtain ⟨x6, -, hf⟩ := bnd_ex hf
        obtain ⟨-, hf⟩ := grd_ex hf
        obtain ⟨S7, eS7, hf⟩ := bnd_ex hf
        have F : Fr (inM 999999 LX10_takeReports) S S7 := by
          rw [eS7]
          exact Fr.sI F rfl
        obtain ⟨x8, -, hf⟩ := bnd_ex hf
        exact F.trans (rX10_takeReports_102 ih hf)
      · rw [if_neg hc] at hf
        exact (Fr.rfl (inM 999999 LX10_takeReports) _).trans (rX10_takeReports_102 ih hf)
theorem rX10_takeReports_0 {S' : mT} {r : Int32} {S : mT} (hf : fX10_takeReports S = some (r, S')) : Fr (inM 999999 LX10_takeReports) S S' := by
  unfold fX10_takeReports at hf
  obtain ⟨-, hf⟩ := grd_ex hf
  obtain ⟨S1, hq, hf⟩ := bndV_ex hf
  have F := (Fr.rfl (inM 999999 LX10_takeReports) _).trans ((rJ7_fill_53178 hq).mono rfl (fun _ => rfl))
  obtain ⟨-, hf⟩ := grd_ex hf
  obtain ⟨S2, hq, hf⟩ := bndV_ex hf
  have F := F.trans ((rJ7_fill_53178 hq).mono rfl (fun _ => rfl))
  exact F.trans (rX10_takeReports_21 _ _ _ _ hf)
theorem rX10_takeReports {S S' : mT} {r : Int32} (hf : fX10_takeReports S = some (r, S')) : Fr (inM 999999 LX10_takeReports) S S' := rX10_takeReports_0 hf
abbrev LX9_list_174 : List (Nat × Nat × Option Nat) := [(999999, 999999, none), (177, 181, none), (182, 182, none)]
theorem rX9_list_79_174 {S' : mT} {r : Int32} {rc5 : Int32 → Int32 → Int32 → Int32 → mT → Option (Int32 × mT)} (Hrc5 : ∀ (v1 : Int32) (v2 : Int32) (v3 : Int32) (v4 : Int32) (S : mT), rc5 v1 v2 v3 v4 S = some (r, S') → Fr (inM 999999 LX9_list_174) S S') {rc22 : Int32 → Int32 → Int32 → Int32 → Int32 → mT → Option (Int32 × mT)} (Hrc22 : ∀ (v1 : Int32) (v2 : Int32) (v3 : Int32) (v4 : Int32) (v5 : Int32) (S : mT), rc22 v1 v2 v3 v4 v5 S = some (r, S') → Fr (inM 999999 LX9_list_174) S S') {v1 : Int32} {v2 : Int32} {v3 : Int32} {v4 : Int32} {v5 : Int32} {S : mT} (hf : fX9_list_79 174 rc5 rc22 v1 v2 v3 v4 v5 S = some (r, S')) : Fr (inM 999999 LX9_list_174) S S' := by
  unfold fX9_list_79 at hf
  obtain ⟨x6, -, hf⟩ := bnd_ex hf
  exact (Fr.rfl (inM 999999 LX9_list_174) _).trans (Hrc22 _ _ _ _ _ _ hf)
theorem rX9_list_22_174 {S' : mT} {r : Int32} {rc5 : Int32 → Int32 → Int32 → Int32 → mT → Option (Int32 × mT)} (Hrc5 : ∀ (v1 : Int32) (v2 : Int32) (v3 : Int32) (v4 : Int32) (S : mT), rc5 v1 v2 v3 v4 S = some (r, S') → Fr (inM 999999 LX9_list_174) S S') : ∀ (k : Nat) (v1 : Int32) (v2 : Int32) (v3 : Int32) (v4 : Int32) (v5 : Int32) (S : mT), fX9_list_22 174 rc5 k v1 v2 v3 v4 v5 S = some (r, S') → Fr (inM 999999 LX9_list_174) S S' := by
  intro k
  induction k with
  | zero =>
    intro v1 v2 v3 v4 v5 S hf
    cases hf
  | succ k ih =>
    intro v1 v2 v3 v4 v5 S hf
    unfold fX9_list_22 at hf
    by_cases hc : ((1 : Int32) <<< (v4 &&& 31)) ≤ v5
    · rw [if_pos hc] at hf
      obtain ⟨x2, -, hf⟩ := bnd_ex hf
      exact (Fr.rfl (inM 999999 LX9_list_174) _).trans (Hrc5 _ _ _ _ _ hf)
    · rw [if_neg hc] at hf
      by_cases hc : ((v1 >>> ((v5 ||| ((1 : Int32) <<< (v4 &&& 31))) &&& 31)) &&& (1 : Int32)) = (1 : Int32)
      · rw [if_pos hc] at hf
        obtain ⟨-, hf⟩ := grd_ex hf
        obtain ⟨S3, eS3, hf⟩ := bnd_ex hf
        have F : Fr (inM 999999 LX9_list_174) S S3 := by
          rw [eS3]
          exact Fr.sI (Fr.rfl (inM 999999 LX9_list_174) _) (inM_row 177 181 (rr_176 _) rfl rfl)
        obtain ⟨-, hf⟩ := grd_ex hf
        obtain ⟨S4, eS4, hf⟩ := bnd_ex hf
        have F : Fr (inM 999999 LX9_list_174) S S4 := by
          rw [eS4]
          exact Fr.sI F rfl
        obtain ⟨x5, -, hf⟩ := bnd_ex hf
        exact F.trans (rX9_list_79_174 Hrc5 ih hf)
      · rw [if_neg hc] at hf
        exact (Fr.rfl (inM 999999 LX9_list_174) _).trans (rX9_list_79_174 Hrc5 ih hf)
theorem rX9_list_5_174 {S' : mT} {r : Int32} : ∀ (k : Nat) (v1 : Int32) (v2 : Int32) (v3 : Int32) (v4 : Int32) (S : mT), fX9_list_5 174 k v1 v2 v3 v4 S = some (r, S') → Fr (inM 999999 LX9_list_174) S S' := by
  intro k
  induction k with
  | zero =>
    intro v1 v2 v3 v4 S hf
    cases hf
  | succ k ih =>
    intro v1 v2 v3 v4 S hf
    unfold fX9_list_5 at hf
    by_cases hc : v2 ≤ v4
    · rw [if_pos hc] at hf
      cases hf
      exact (Fr.rfl (inM 999999 LX9_list_174) _)
    · rw [if_neg hc] at hf
      obtain ⟨-, hf⟩ := grd_ex hf
      obtain ⟨S1, eS1, hf⟩ := bnd_ex hf
      have F : Fr (inM 999999 LX9_list_174) S S1 := by
        rw [eS1]
        exact Fr.sI (Fr.rfl (inM 999999 LX9_list_174) _) rfl
      exact F.trans (rX9_list_22_174 ih _ _ _ _ _ _ _ hf)
theorem rX9_list_0_174 {S' : mT} {r : Int32} {v1 : Int32} {v2 : Int32} {S : mT} (hf : fX9_list 174 v1 v2 S = some (r, S')) : Fr (inM 999999 LX9_list_174) S S' := by
  unfold fX9_list at hf
  exact (Fr.rfl (inM 999999 LX9_list_174) _).trans (rX9_list_5_174 _ _ _ _ _ _ hf)
theorem rX9_list_174 {v1 : Int32} {v2 : Int32} {S S' : mT} {r : Int32} (hf : fX9_list 174 v1 v2 S = some (r, S')) : Fr (inM 999999 LX9_list_174) S S' := rX9_list_0_174 hf
abbrev LX9_list_129 : List (Nat × Nat × Option Nat) := [(999999, 999999, none), (132, 136, none), (137, 137, none)]
theorem rX9_list_79_129 {S' : mT} {r : Int32} {rc5 : Int32 → Int32 → Int32 → Int32 → mT → Option (Int32 × mT)} (Hrc5 : ∀ (v1 : Int32) (v2 : Int32) (v3 : Int32) (v4 : Int32) (S : mT), rc5 v1 v2 v3 v4 S = some (r, S') → Fr (inM 999999 LX9_list_129) S S') {rc22 : Int32 → Int32 → Int32 → Int32 → Int32 → mT → Option (Int32 × mT)} (Hrc22 : ∀ (v1 : Int32) (v2 : Int32) (v3 : Int32) (v4 : Int32) (v5 : Int32) (S : mT), rc22 v1 v2 v3 v4 v5 S = some (r, S') → Fr (inM 999999 LX9_list_129) S S') {v1 : Int32} {v2 : Int32} {v3 : Int32} {v4 : Int32} {v5 : Int32} {S : mT} (hf : fX9_list_79 129 rc5 rc22 v1 v2 v3 v4 v5 S = some (r, S')) : Fr (inM 999999 LX9_list_129) S S' := by
  unfold fX9_list_79 at hf
  obtain ⟨x6, -, hf⟩ := bnd_ex hf
  exact (Fr.rfl (inM 999999 LX9_list_129) _).trans (Hrc22 _ _ _ _ _ _ hf)
theorem rX9_list_22_129 {S' : mT} {r : Int32} {rc5 : Int32 → Int32 → Int32 → Int32 → mT → Option (Int32 × mT)} (Hrc5 : ∀ (v1 : Int32) (v2 : Int32) (v3 : Int32) (v4 : Int32) (S : mT), rc5 v1 v2 v3 v4 S = some (r, S') → Fr (inM 999999 LX9_list_129) S S') : ∀ (k : Nat) (v1 : Int32) (v2 : Int32) (v3 : Int32) (v4 : Int32) (v5 : Int32) (S : mT), fX9_list_22 129 rc5 k v1 v2 v3 v4 v5 S = some (r, S') → Fr (inM 999999 LX9_list_129) S S' := by
  intro k
  induction k with
  | zero =>
    intro v1 v2 v3 v4 v5 S hf
    cases hf
  | succ k ih =>
    intro v1 v2 v3 v4 v5 S hf
    unfold fX9_list_22 at hf
    by_cases hc : ((1 : Int32) <<< (v4 &&& 31)) ≤ v5
    · rw [if_pos hc] at hf
      obtain ⟨x2, -, hf⟩ := bnd_ex hf
      exact (Fr.rfl (inM 999999 LX9_list_129) _).trans (Hrc5 _ _ _ _ _ hf)
    · rw [if_neg hc] at hf
      by_cases hc : ((v1 >>> ((v5 ||| ((1 : Int32) <<< (v4 &&& 31))) &&& 31)) &&& (1 : Int32)) = (1 : Int32)
      · rw [if_pos hc] at hf
        obtain ⟨-, hf⟩ := grd_ex hf
        obtain ⟨S3, eS3, hf⟩ := bnd_ex hf
        have F : Fr (inM 999999 LX9_list_129) S S3 := by
          rw [eS3]
          exact Fr.sI (Fr.rfl (inM 999999 LX9_list_129) _) (inM_row 132 136 (rr_131 _) rfl rfl)
        obtain ⟨-, hf⟩ := grd_ex hf
        obtain ⟨S4, eS4, hf⟩ := bnd_ex hf
        have F : Fr (inM 999999 LX9_list_129) S S4 := by
          rw [eS4]
          exact Fr.sI F rfl
        obtain ⟨x5, -, hf⟩ := bnd_ex hf
        exact F.trans (rX9_list_79_129 Hrc5 ih hf)
      · rw [if_neg hc] at hf
        exact (Fr.rfl (inM 999999 LX9_list_129) _).trans (rX9_list_79_129 Hrc5 ih hf)
theorem rX9_list_5_129 {S' : mT} {r : Int32} : ∀ (k : Nat) (v1 : Int32) (v2 : Int32) (v3 : Int32) (v4 : Int32) (S : mT), fX9_list_5 129 k v1 v2 v3 v4 S = some (r, S') → Fr (inM 999999 LX9_list_129) S S' := by
  intro k
  induction k with
  | zero =>
    intro v1 v2 v3 v4 S hf
    cases hf
  | succ k ih =>
    intro v1 v2 v3 v4 S hf
    unfold fX9_list_5 at hf
    by_cases hc : v2 ≤ v4
    · rw [if_pos hc] at hf
      cases hf
      exact (Fr.rfl (inM 999999 LX9_list_129) _)
    · rw [if_neg hc] at hf
      obtain ⟨-, hf⟩ := grd_ex hf
      obtain ⟨S1, eS1, hf⟩ := bnd_ex hf
      have F : Fr (inM 999999 LX9_list_129) S S1 := by
        rw [eS1]
        exact Fr.sI (Fr.rfl (inM 999999 LX9_list_129) _) rfl
      exact F.trans (rX9_list_22_129 ih _ _ _ _ _ _ _ hf)
theorem rX9_list_0_129 {S' : mT} {r : Int32} {v1 : Int32} {v2 : Int32} {S : mT} (hf : fX9_list 129 v1 v2 S = some (r, S')) : Fr (inM 999999 LX9_list_129) S S' := by
  unfold fX9_list at hf
  exact (Fr.rfl (inM 999999 LX9_list_129) _).trans (rX9_list_5_129 _ _ _ _ _ _ hf)
theorem rX9_list_129 {v1 : Int32} {v2 : Int32} {S S' : mT} {r : Int32} (hf : fX9_list 129 v1 v2 S = some (r, S')) : Fr (inM 999999 LX9_list_129) S S' := rX9_list_0_129 hf
abbrev LX10_learn : List (Nat × Nat × Option Nat) := [(999999, 999999, none), (120, 120, some 8), (120, 120, some 9), (120, 120, some 10), (120, 120, some 11), (120, 120, some 12), (120, 120, some 13), (120, 120, some 14), (122, 126, none), (127, 127, none), (128, 128, none), (130, 130, none), (132, 136, none), (137, 137, none)]
theorem rX10_learn_136 {S' : mT} : ∀ (k : Nat) (v4 : Int32) (S : mT), fX10_learn_136 k v4 S = some S' → Fr (inM 999999 LX10_learn) S S' := by
  intro k
  induction k with
  | zero =>
    intro v4 S hf
    cases hf
  | succ k ih =>
    intro v4 S hf
    unfold fX10_learn_136 at hf
    obtain ⟨-, hf⟩ := grd_ex hf
    by_cases hc : (S.1 120 9) ≤ v4
    · rw [if_pos hc] at hf
      cases hf
      exact (Fr.rfl (inM 999999 LX10_learn) _)
    · rw [if_neg hc] at hf
      obtain ⟨-, hf⟩ := grd_ex hf
      obtain ⟨S17, hq, hf⟩ := bndV_ex hf
      have F := (Fr.rfl (inM 999999 LX10_learn) _).trans ((rJ7_fill_53178 hq).mono rfl (fun _ => (inM_row 122 126 (rr_121 _) rfl rfl)))
      obtain ⟨x18, -, hf⟩ := bnd_ex hf
      exact F.trans (ih _ _ hf)
theorem rX10_learn_127 {S' : mT} {s0 : Int32} {S : mT} (hf : fX10_learn_127 s0 S = some S') : Fr (inM 999999 LX10_learn) S S' := by
  unfold fX10_learn_127 at hf
  obtain ⟨-, hf⟩ := grd_ex hf
  obtain ⟨S15, eS15, hf⟩ := bnd_ex hf
  have F : Fr (inM 999999 LX10_learn) S S15 := by
    rw [eS15]
    exact Fr.sI (Fr.rfl (inM 999999 LX10_learn) _) rfl
  obtain ⟨-, hf⟩ := grd_ex hf
  obtain ⟨x16, -, hf⟩ := bnd_ex hf
  exact F.trans (rX10_learn_136 _ _ _ hf)
theorem rX10_learn_67 {S' : mT} : ∀ (k : Nat) (v4 : Int32) (S : mT), fX10_learn_67 k v4 S = some S' → Fr (inM 999999 LX10_learn) S S' := by
  intro k
  induction k with
  | zero =>
    intro v4 S hf
    cases hf
  | succ k ih =>
    intro v4 S hf
    unfold fX10_learn_67 at hf
    by_cases hc : (5 : Int32) ≤ v4
    · rw [if_pos hc] at hf
      obtain ⟨-, hf⟩ := grd_ex hf
      obtain ⟨-, hf⟩ := grd_ex hf
      obtain ⟨S10, eS10, hf⟩ := bnd_ex hf
      have F : Fr (inM 999999 LX10_learn) S S10 := by
        rw [eS10]
        exact Fr.sI (Fr.rfl (inM 999999 LX10_learn) _) rfl
      obtain ⟨-, hf⟩ := grd_ex hf
      by_cases hc : (S10.1 120 12) = 0
      · rw [if_pos hc] at hf
        obtain ⟨-, hf⟩ := grd_ex hf
        exact F.trans (rX10_learn_127 hf)
      · rw [if_neg hc] at hf
        obtain ⟨x12, S11, hq, hf⟩ := bndC_ex hf
        have F := F.trans ((rX10_countFrom 16 hq).mono rfl (fun _ => rfl))
        exact F.trans (rX10_learn_127 hf)
    · rw [if_neg hc] at hf
      obtain ⟨-, hf⟩ := grd_ex hf
      obtain ⟨S13, hq, hf⟩ := bndV_ex hf
      have F := (Fr.rfl (inM 999999 LX10_learn) _).trans ((rJ7_fill_53178 hq).mono rfl (fun _ => (inM_row 122 126 (rr_121 _) rfl rfl)))
      obtain ⟨x14, -, hf⟩ := bnd_ex hf
      exact F.trans (ih _ _ hf)
theorem rX10_learn_24 {S' : mT} {v2 : Int32} {v3 : Int32} {S : mT} (hf : fX10_learn_24 v2 v3 S = some S') : Fr (inM 999999 LX10_learn) S S' := by
  unfold fX10_learn_24 at hf
  obtain ⟨-, hf⟩ := grd_ex hf
  obtain ⟨S1, eS1, hf⟩ := bnd_ex hf
  have F : Fr (inM 999999 LX10_learn) S S1 := by
    rw [eS1]
    exact Fr.sI (Fr.rfl (inM 999999 LX10_learn) _) rfl
  obtain ⟨-, hf⟩ := grd_ex hf
  obtain ⟨S2, eS2, hf⟩ := bnd_ex hf
  have F : Fr (inM 999999 LX10_learn) S S2 := by
    rw [eS2]
    exact Fr.sI F rfl
  obtain ⟨-, hf⟩ := grd_ex hf
  obtain ⟨S3, eS3, hf⟩ := bnd_ex hf
  have F : Fr (inM 999999 LX10_learn) S S3 := by
    rw [eS3]
    exact Fr.sI F rfl
  obtain ⟨-, hf⟩ := grd_ex hf
  obtain ⟨S4, eS4, hf⟩ := bnd_ex hf
  have F : Fr (inM 999999 LX10_learn) S S4 := by
    rw [eS4]
    exact Fr.sI F rfl
  obtain ⟨-, hf⟩ := grd_ex hf
  obtain ⟨x6, S5, hq, hf⟩ := bndC_ex hf
  have F := F.trans ((rX10_takeReports hq).mono rfl (fun _ => rfl))
  obtain ⟨-, hf⟩ := grd_ex hf
  obtain ⟨x8, S7, hq, hf⟩ := bndC_ex hf
  have F := F.trans ((rX9_list_129 hq).mono rfl (fun _ => rfl))
  obtain ⟨-, hf⟩ := grd_ex hf
  obtain ⟨S9, eS9, hf⟩ := bnd_ex hf
  have F : Fr (inM 999999 LX10_learn) S S9 := by
    rw [eS9]
    exact Fr.sI F rfl
  exact F.trans (rX10_learn_67 _ _ _ hf)
theorem rX10_learn_0 {S' : mT} {v2 : Int32} {v3 : Int32} {S : mT} (hf : fX10_learn v2 v3 S = some S') : Fr (inM 999999 LX10_learn) S S' := by
  unfold fX10_learn at hf
  obtain ⟨-, hf⟩ := grd_ex hf
  by_cases hc : (S.1 120 14) = 0
  · rw [if_pos hc] at hf
    exact (Fr.rfl (inM 999999 LX10_learn) _).trans (rX10_learn_24 hf)
  · rw [if_neg hc] at hf
    obtain ⟨-, hf⟩ := grd_ex hf
    by_cases hc : (S.1 120 10) = v2
    · rw [if_pos hc] at hf
      obtain ⟨-, hf⟩ := grd_ex hf
      by_cases hc : (S.1 120 9) = v3
      · rw [if_pos hc] at hf
        cases hf
        exact (Fr.rfl (inM 999999 LX10_learn) _)
      · rw [if_neg hc] at hf
        exact (Fr.rfl (inM 999999 LX10_learn) _).trans (rX10_learn_24 hf)
    · rw [if_neg hc] at hf
      exact (Fr.rfl (inM 999999 LX10_learn) _).trans (rX10_learn_24 hf)
theorem rX10_learn {v2 : Int32} {v3 : Int32} {S S' : mT} (hf : fX10_learn v2 v3 S = some S') : Fr (inM 999999 LX10_learn) S S' := rX10_learn_0 hf
abbrev LX10_mostIn : List (Nat × Nat × Option Nat) := [(999999, 999999, none)]
theorem rX10_mostIn_3 {S' : mT} {r : Int32} : ∀ (k : Nat) (v1 : Int32) (v2 : Int32) (S : mT), fX10_mostIn_3 k v1 v2 S = some (r, S') → Fr (inM 999999 LX10_mostIn) S S' := by
  intro k
  induction k with
  | zero =>
    intro v1 v2 S hf
    cases hf
  | succ k ih =>
    intro v1 v2 S hf
    unfold fX10_mostIn_3 at hf
    by_cases hc : v2 < 0
    · rw [if_pos hc] at hf
      cases hf
      exact (Fr.rfl (inM 999999 LX10_mostIn) _)
    · rw [if_neg hc] at hf
      obtain ⟨-, hf⟩ := grd_ex hf
      by_cases hc : (S.1 (rowR 121 (mIx v1)) (mIx v2)) ≤ 0
      · rw [if_pos hc] at hf
        obtain ⟨x1, -, hf⟩ := bnd_ex hf
        exact (Fr.rfl (inM 999999 LX10_mostIn) _).trans (ih _ _ _ hf)
      · rw [if_neg hc] at hf
        cases hf
        exact (Fr.rfl (inM 999999 LX10_mostIn) _)
theorem rX10_mostIn_0 {S' : mT} {r : Int32} {v1 : Int32} {S : mT} (hf : fX10_mostIn v1 S = some (r, S')) : Fr (inM 999999 LX10_mostIn) S S' := by
  unfold fX10_mostIn at hf
  exact (Fr.rfl (inM 999999 LX10_mostIn) _).trans (rX10_mostIn_3 _ _ _ _ hf)
theorem rX10_mostIn {v1 : Int32} {S S' : mT} {r : Int32} (hf : fX10_mostIn v1 S = some (r, S')) : Fr (inM 999999 LX10_mostIn) S S' := rX10_mostIn_0 hf
abbrev LX10_tellingSet : List (Nat × Nat × Option Nat) := [(999999, 999999, none), (120, 120, some 6), (120, 120, some 7), (120, 120, some 11), (130, 130, none), (138, 138, none), (139, 139, none)]
theorem rX10_tellingSet_16 {S' : mT} {r : Int32} {S : mT} (hf : fX10_tellingSet_16 S = some (r, S')) : Fr (inM 999999 LX10_tellingSet) S S' := by
  unfold fX10_tellingSet_16 at hf
  obtain ⟨-, hf⟩ := grd_ex hf
  cases hf
  exact (Fr.rfl (inM 999999 LX10_tellingSet) _)
theorem rX10_tellingSet_0 {S' : mT} {r : Int32} {S : mT} (hf : fX10_tellingSet S = some (r, S')) : Fr (inM 999999 LX10_tellingSet) S S' := by
  unfold fX10_tellingSet at hf
  obtain ⟨-, hf⟩ := grd_ex hf
  by_cases hc : (S.1 120 11) = (-1 : Int32)
  · rw [if_pos hc] at hf
    obtain ⟨x2, S1, hq, hf⟩ := bndC_ex hf
    have F := (Fr.rfl (inM 999999 LX10_tellingSet) _).trans ((rX10_findTelling hq).mono rfl (fun _ => rfl))
    obtain ⟨-, hf⟩ := grd_ex hf
    obtain ⟨S3, eS3, hf⟩ := bnd_ex hf
    have F : Fr (inM 999999 LX10_tellingSet) S S3 := by
      rw [eS3]
      exact Fr.sI F rfl
    exact F.trans (rX10_tellingSet_16 hf)
  · rw [if_neg hc] at hf
    exact (Fr.rfl (inM 999999 LX10_tellingSet) _).trans (rX10_tellingSet_16 hf)
theorem rX10_tellingSet {S S' : mT} {r : Int32} (hf : fX10_tellingSet S = some (r, S')) : Fr (inM 999999 LX10_tellingSet) S S' := rX10_tellingSet_0 hf
abbrev LX8_unitsOfLaws_3 : List (Nat × Nat × Option Nat) := [(999999, 999999, none)]
theorem rX8_unitsOfLaws_0_3 {S' : mT} {r : Int32} {S : mT} (hf : fX8_unitsOfLaws 3 S = some (r, S')) : Fr (inM 999999 LX8_unitsOfLaws_3) S S' := by
  unfold fX8_unitsOfLaws at hf
  obtain ⟨-, hf⟩ := grd_ex hf
  cases hf
  exact (Fr.rfl (inM 999999 LX8_unitsOfLaws_3) _)
theorem rX8_unitsOfLaws_3 {S S' : mT} {r : Int32} (hf : fX8_unitsOfLaws 3 S = some (r, S')) : Fr (inM 999999 LX8_unitsOfLaws_3) S S' := rX8_unitsOfLaws_0_3 hf
abbrev LX8_unitsOfLaws_19 : List (Nat × Nat × Option Nat) := [(999999, 999999, none)]
theorem rX8_unitsOfLaws_0_19 {S' : mT} {r : Int32} {S : mT} (hf : fX8_unitsOfLaws 19 S = some (r, S')) : Fr (inM 999999 LX8_unitsOfLaws_19) S S' := by
  unfold fX8_unitsOfLaws at hf
  obtain ⟨-, hf⟩ := grd_ex hf
  cases hf
  exact (Fr.rfl (inM 999999 LX8_unitsOfLaws_19) _)
theorem rX8_unitsOfLaws_19 {S S' : mT} {r : Int32} (hf : fX8_unitsOfLaws 19 S = some (r, S')) : Fr (inM 999999 LX8_unitsOfLaws_19) S S' := rX8_unitsOfLaws_0_19 hf
abbrev LX11_about_f : List (Nat × Nat × Option Nat) := [(999999, 999999, none)]
theorem rX11_about_0_f {S' : mT} {r : Int32} {v1 : Int32} {S : mT} (hf : fX11_about false v1 S = some (r, S')) : Fr (inM 999999 LX11_about_f) S S' := by
  unfold fX11_about at hf
  by_cases hc : v1 = (0 : Int32)
  · rw [if_pos hc] at hf
    obtain ⟨-, hf⟩ := grd_ex hf
    cases hf
    exact (Fr.rfl (inM 999999 LX11_about_f) _)
  · rw [if_neg hc] at hf
    by_cases hc : v1 = (1 : Int32)
    · rw [if_pos hc] at hf
      obtain ⟨-, hf⟩ := grd_ex hf
      cases hf
      exact (Fr.rfl (inM 999999 LX11_about_f) _)
    · rw [if_neg hc] at hf
      by_cases hc : v1 = (2 : Int32)
      · rw [if_pos hc] at hf
        obtain ⟨-, hf⟩ := grd_ex hf
        cases hf
        exact (Fr.rfl (inM 999999 LX11_about_f) _)
      · rw [if_neg hc] at hf
        by_cases hc : v1 = (3 : Int32)
        · rw [if_pos hc] at hf
          obtain ⟨-, hf⟩ := grd_ex hf
          cases hf
          exact (Fr.rfl (inM 999999 LX11_about_f) _)
        · rw [if_neg hc] at hf
          by_cases hc : v1 = (4 : Int32)
          · rw [if_pos hc] at hf
            obtain ⟨-, hf⟩ := grd_ex hf
            cases hf
            exact (Fr.rfl (inM 999999 LX11_about_f) _)
          · rw [if_neg hc] at hf
            by_cases hc : v1 = (5 : Int32)
            · rw [if_pos hc] at hf
              obtain ⟨-, hf⟩ := grd_ex hf
              cases hf
              exact (Fr.rfl (inM 999999 LX11_about_f) _)
            · rw [if_neg hc] at hf
              by_cases hc : v1 = (6 : Int32)
              · rw [if_pos hc] at hf
                obtain ⟨-, hf⟩ := grd_ex hf
                cases hf
                exact (Fr.rfl (inM 999999 LX11_about_f) _)
              · rw [if_neg hc] at hf
                by_cases hc : v1 = (7 : Int32)
                · rw [if_pos hc] at hf
                  obtain ⟨-, hf⟩ := grd_ex hf
                  cases hf
                  exact (Fr.rfl (inM 999999 LX11_about_f) _)
                · rw [if_neg hc] at hf
                  by_cases hc : v1 = (8 : Int32)
                  · rw [if_pos hc] at hf
                    obtain ⟨-, hf⟩ := grd_ex hf
                    obtain ⟨x2, S1, hq, hf⟩ := bndC_ex hf
                    have F := (Fr.rfl (inM 999999 LX11_about_f) _).trans ((rX8_unitsOfLaws_3 hq).mono rfl (fun _ => rfl))
                    cases hf
                    exact F
                  · rw [if_neg hc] at hf
                    by_cases hc : v1 = (9 : Int32)
                    · rw [if_pos hc] at hf
                      obtain ⟨-, hf⟩ := grd_ex hf
                      cases hf
                      exact (Fr.rfl (inM 999999 LX11_about_f) _)
                    · rw [if_neg hc] at hf
                      cases hf
                      exact (Fr.rfl (inM 999999 LX11_about_f) _)
theorem rX11_about_f {v1 : Int32} {S S' : mT} {r : Int32} (hf : fX11_about false v1 S = some (r, S')) : Fr (inM 999999 LX11_about_f) S S' := rX11_about_0_f hf
abbrev LX11_about_t : List (Nat × Nat × Option Nat) := [(999999, 999999, none)]
theorem rX11_about_0_t {S' : mT} {r : Int32} {v1 : Int32} {S : mT} (hf : fX11_about true v1 S = some (r, S')) : Fr (inM 999999 LX11_about_t) S S' := by
  unfold fX11_about at hf
  by_cases hc : v1 = (0 : Int32)
  · rw [if_pos hc] at hf
    obtain ⟨-, hf⟩ := grd_ex hf
    cases hf
    exact (Fr.rfl (inM 999999 LX11_about_t) _)
  · rw [if_neg hc] at hf
    by_cases hc : v1 = (1 : Int32)
    · rw [if_pos hc] at hf
      obtain ⟨-, hf⟩ := grd_ex hf
      cases hf
      exact (Fr.rfl (inM 999999 LX11_about_t) _)
    · rw [if_neg hc] at hf
      by_cases hc : v1 = (2 : Int32)
      · rw [if_pos hc] at hf
        obtain ⟨-, hf⟩ := grd_ex hf
        cases hf
        exact (Fr.rfl (inM 999999 LX11_about_t) _)
      · rw [if_neg hc] at hf
        by_cases hc : v1 = (3 : Int32)
        · rw [if_pos hc] at hf
          obtain ⟨-, hf⟩ := grd_ex hf
          cases hf
          exact (Fr.rfl (inM 999999 LX11_about_t) _)
        · rw [if_neg hc] at hf
          by_cases hc : v1 = (4 : Int32)
          · rw [if_pos hc] at hf
            obtain ⟨-, hf⟩ := grd_ex hf
            cases hf
            exact (Fr.rfl (inM 999999 LX11_about_t) _)
          · rw [if_neg hc] at hf
            by_cases hc : v1 = (5 : Int32)
            · rw [if_pos hc] at hf
              obtain ⟨-, hf⟩ := grd_ex hf
              cases hf
              exact (Fr.rfl (inM 999999 LX11_about_t) _)
            · rw [if_neg hc] at hf
              by_cases hc : v1 = (6 : Int32)
              · rw [if_pos hc] at hf
                obtain ⟨-, hf⟩ := grd_ex hf
                cases hf
                exact (Fr.rfl (inM 999999 LX11_about_t) _)
              · rw [if_neg hc] at hf
                by_cases hc : v1 = (7 : Int32)
                · rw [if_pos hc] at hf
                  obtain ⟨-, hf⟩ := grd_ex hf
                  cases hf
                  exact (Fr.rfl (inM 999999 LX11_about_t) _)
                · rw [if_neg hc] at hf
                  by_cases hc : v1 = (8 : Int32)
                  · rw [if_pos hc] at hf
                    obtain ⟨-, hf⟩ := grd_ex hf
                    obtain ⟨x2, S1, hq, hf⟩ := bndC_ex hf
                    have F := (Fr.rfl (inM 999999 LX11_about_t) _).trans ((rX8_unitsOfLaws_19 hq).mono rfl (fun _ => rfl))
                    cases hf
                    exact F
                  · rw [if_neg hc] at hf
                    by_cases hc : v1 = (9 : Int32)
                    · rw [if_pos hc] at hf
                      obtain ⟨-, hf⟩ := grd_ex hf
                      cases hf
                      exact (Fr.rfl (inM 999999 LX11_about_t) _)
                    · rw [if_neg hc] at hf
                      cases hf
                      exact (Fr.rfl (inM 999999 LX11_about_t) _)
theorem rX11_about_t {v1 : Int32} {S S' : mT} {r : Int32} (hf : fX11_about true v1 S = some (r, S')) : Fr (inM 999999 LX11_about_t) S S' := rX11_about_0_t hf
abbrev LX11_allBowls_f : List (Nat × Nat × Option Nat) := [(999999, 999999, none)]
theorem rX11_allBowls_4_f {a1 : Nat} {S' : mT} {r : Int32} : ∀ (k : Nat) (v2 : Int32) (v3 : Int32) (S : mT), fX11_allBowls_4 false a1 k v2 v3 S = some (r, S') → Fr (inM 999999 LX11_allBowls_f) S S' := by
  intro k
  induction k with
  | zero =>
    intro v2 v3 S hf
    cases hf
  | succ k ih =>
    intro v2 v3 S hf
    unfold fX11_allBowls_4 at hf
    obtain ⟨-, hf⟩ := grd_ex hf
    by_cases hc : (S.1 (shU false) 9) ≤ v3
    · rw [if_pos hc] at hf
      cases hf
      exact (Fr.rfl (inM 999999 LX11_allBowls_f) _)
    · rw [if_neg hc] at hf
      obtain ⟨-, hf⟩ := grd_ex hf
      obtain ⟨x1, -, hf⟩ := bnd_ex hf
      obtain ⟨x2, -, hf⟩ := bnd_ex hf
      exact (Fr.rfl (inM 999999 LX11_allBowls_f) _).trans (ih _ _ _ hf)
theorem rX11_allBowls_0_f {a1 : Nat} {S' : mT} {r : Int32} {S : mT} (hf : fX11_allBowls false a1 S = some (r, S')) : Fr (inM 999999 LX11_allBowls_f) S S' := by
  unfold fX11_allBowls at hf
  exact (Fr.rfl (inM 999999 LX11_allBowls_f) _).trans (rX11_allBowls_4_f _ _ _ _ hf)
theorem rX11_allBowls_f {a1 : Nat} {S S' : mT} {r : Int32} (hf : fX11_allBowls false a1 S = some (r, S')) : Fr (inM 999999 LX11_allBowls_f) S S' := rX11_allBowls_0_f hf
abbrev LX11_allBowls_t : List (Nat × Nat × Option Nat) := [(999999, 999999, none)]
theorem rX11_allBowls_4_t {a1 : Nat} {S' : mT} {r : Int32} : ∀ (k : Nat) (v2 : Int32) (v3 : Int32) (S : mT), fX11_allBowls_4 true a1 k v2 v3 S = some (r, S') → Fr (inM 999999 LX11_allBowls_t) S S' := by
  intro k
  induction k with
  | zero =>
    intro v2 v3 S hf
    cases hf
  | succ k ih =>
    intro v2 v3 S hf
    unfold fX11_allBowls_4 at hf
    obtain ⟨-, hf⟩ := grd_ex hf
    by_cases hc : (S.1 (shU true) 9) ≤ v3
    · rw [if_pos hc] at hf
      cases hf
      exact (Fr.rfl (inM 999999 LX11_allBowls_t) _)
    · rw [if_neg hc] at hf
      obtain ⟨-, hf⟩ := grd_ex hf
      obtain ⟨x1, -, hf⟩ := bnd_ex hf
      obtain ⟨x2, -, hf⟩ := bnd_ex hf
      exact (Fr.rfl (inM 999999 LX11_allBowls_t) _).trans (ih _ _ _ hf)
theorem rX11_allBowls_0_t {a1 : Nat} {S' : mT} {r : Int32} {S : mT} (hf : fX11_allBowls true a1 S = some (r, S')) : Fr (inM 999999 LX11_allBowls_t) S S' := by
  unfold fX11_allBowls at hf
  exact (Fr.rfl (inM 999999 LX11_allBowls_t) _).trans (rX11_allBowls_4_t _ _ _ _ hf)
theorem rX11_allBowls_t {a1 : Nat} {S S' : mT} {r : Int32} (hf : fX11_allBowls true a1 S = some (r, S')) : Fr (inM 999999 LX11_allBowls_t) S S' := rX11_allBowls_0_t hf
abbrev LX11_isWithin : List (Nat × Nat × Option Nat) := [(999999, 999999, none)]
theorem rX11_isWithin_15 {S' : mT} {r : Int32} {s0 : Int32} {S : mT} (hf : fX11_isWithin_15 s0 S = some (r, S')) : Fr (inM 999999 LX11_isWithin) S S' := by
  unfold fX11_isWithin_15 at hf
  obtain ⟨-, hf⟩ := grd_ex hf
  cases hf
  exact (Fr.rfl (inM 999999 LX11_isWithin) _)
theorem rX11_isWithin_14 {S' : mT} {r : Int32} {S : mT} (hf : fX11_isWithin_14 S = some (r, S')) : Fr (inM 999999 LX11_isWithin) S S' := by
  unfold fX11_isWithin_14 at hf
  exact (Fr.rfl (inM 999999 LX11_isWithin) _).trans (rX11_isWithin_15 hf)
theorem rX11_isWithin_0 {S' : mT} {r : Int32} {v0 : Int32} {v1 : Int32} {v2 : Int32} {S : mT} (hf : fX11_isWithin v0 v1 v2 S = some (r, S')) : Fr (inM 999999 LX11_isWithin) S S' := by
  unfold fX11_isWithin at hf
  by_cases hc : v0 < v1
  · rw [if_pos hc] at hf
    exact (Fr.rfl (inM 999999 LX11_isWithin) _).trans (rX11_isWithin_14 hf)
  · rw [if_neg hc] at hf
    by_cases hc : v2 < v0
    · rw [if_pos hc] at hf
      exact (Fr.rfl (inM 999999 LX11_isWithin) _).trans (rX11_isWithin_14 hf)
    · rw [if_neg hc] at hf
      exact (Fr.rfl (inM 999999 LX11_isWithin) _).trans (rX11_isWithin_15 hf)
theorem rX11_isWithin {v0 : Int32} {v1 : Int32} {v2 : Int32} {S S' : mT} {r : Int32} (hf : fX11_isWithin v0 v1 v2 S = some (r, S')) : Fr (inM 999999 LX11_isWithin) S S' := rX11_isWithin_0 hf
abbrev LX2_openBox : List (Nat × Nat × Option Nat) := [(999999, 999999, none)]
theorem rX2_openBox_0 {a2 : Nat} {S' : mT} {v1 : Int32} {S : mT} (hf : fX2_openBox a2 v1 S = some S') : Fr (inM a2 LX2_openBox) S S' := by
  unfold fX2_openBox at hf
  obtain ⟨-, hf⟩ := grd_ex hf
  obtain ⟨S1, eS1, hf⟩ := bnd_ex hf
  have F : Fr (inM a2 LX2_openBox) S S1 := by
    rw [eS1]
    exact Fr.sC (Fr.rfl (inM a2 LX2_openBox) _) (fun _ => inM_self)
  cases hf
  exact F
theorem rX2_openBox {a2 : Nat} {v1 : Int32} {S S' : mT} (hf : fX2_openBox a2 v1 S = some S') : Fr (inM a2 LX2_openBox) S S' := rX2_openBox_0 hf
abbrev LX2_copyFrom : List (Nat × Nat × Option Nat) := [(999999, 999999, none), (39, 79, none)]
theorem rX2_copyFrom_0 {a1 : Nat} {S' : mT} {S : mT} (hf : fX2_copyFrom a1 S = some S') : Fr (inM 999999 LX2_copyFrom) S S' := by
  unfold fX2_copyFrom at hf
  obtain ⟨-, hf⟩ := grd_ex hf
  obtain ⟨-, hf⟩ := grd_ex hf
  obtain ⟨S1, eS1, hf⟩ := bnd_ex hf
  have F : Fr (inM 999999 LX2_copyFrom) S S1 := by
    rw [eS1]
    exact Fr.sC (Fr.rfl (inM 999999 LX2_copyFrom) _) (fun _ => (inM_row 39 79 (rr_38 _) rfl rfl))
  cases hf
  exact F
theorem rX2_copyFrom {a1 : Nat} {S S' : mT} (hf : fX2_copyFrom a1 S = some S') : Fr (inM 999999 LX2_copyFrom) S S' := rX2_copyFrom_0 hf
abbrev LX2_startFrom : List (Nat × Nat × Option Nat) := [(999999, 999999, none), (37, 37, some 3), (37, 37, some 4), (37, 37, some 5), (39, 79, none)]
theorem rX2_startFrom_0 {a1 : Nat} {S' : mT} {S : mT} (hf : fX2_startFrom a1 S = some S') : Fr (inM 999999 LX2_startFrom) S S' := by
  unfold fX2_startFrom at hf
  obtain ⟨-, hf⟩ := grd_ex hf
  obtain ⟨S1, eS1, hf⟩ := bnd_ex hf
  have F : Fr (inM 999999 LX2_startFrom) S S1 := by
    rw [eS1]
    exact Fr.sI (Fr.rfl (inM 999999 LX2_startFrom) _) rfl
  obtain ⟨-, hf⟩ := grd_ex hf
  obtain ⟨S2, eS2, hf⟩ := bnd_ex hf
  have F : Fr (inM 999999 LX2_startFrom) S S2 := by
    rw [eS2]
    exact Fr.sI F rfl
  obtain ⟨-, hf⟩ := grd_ex hf
  obtain ⟨S3, eS3, hf⟩ := bnd_ex hf
  have F : Fr (inM 999999 LX2_startFrom) S S3 := by
    rw [eS3]
    exact Fr.sI F rfl
  obtain ⟨S4, hq, hf⟩ := bndV_ex hf
  have F := F.trans ((rX2_copyFrom hq).mono rfl (fun _ => rfl))
  cases hf
  exact F
theorem rX2_startFrom {a1 : Nat} {S S' : mT} (hf : fX2_startFrom a1 S = some S') : Fr (inM 999999 LX2_startFrom) S S' := rX2_startFrom_0 hf
abbrev LX11_back : List (Nat × Nat × Option Nat) := [(999999, 999999, none), (35, 35, none), (37, 37, some 3), (37, 37, some 4), (37, 37, some 5), (39, 79, none)]
theorem rX11_back_21 {S' : mT} {r : Int32} {S : mT} (hf : fX11_back_21 S = some (r, S')) : Fr (inM 999999 LX11_back) S S' := by
  unfold fX11_back_21 at hf
  cases hf
  exact (Fr.rfl (inM 999999 LX11_back) _)
theorem rX11_back_0 {S' : mT} {r : Int32} {v1 : Int32} {S : mT} (hf : fX11_back v1 S = some (r, S')) : Fr (inM 999999 LX11_back) S S' := by
  unfold fX11_back at hf
  obtain ⟨x2, S1, hq, hf⟩ := bndC_ex hf
  have F := (Fr.rfl (inM 999999 LX11_back) _).trans ((rX11_isWithin hq).mono rfl (fun _ => rfl))
  by_cases hc : x2 = 0
  · rw [if_pos hc] at hf
    exact F.trans (rX11_back_21 hf)
  · rw [if_neg hc] at hf
    obtain ⟨-, hf⟩ := grd_ex hf
    by_cases hc : (S1.1 84 (mIx v1)) = 0
    · rw [if_pos hc] at hf
      exact F.trans (rX11_back_21 hf)
    · rw [if_neg hc] at hf
      obtain ⟨-, hf⟩ := grd_ex hf
      obtain ⟨S3, hq, hf⟩ := bndV_ex hf
      have F := F.trans ((rX2_openBox hq).mono rfl (fun _ => rfl))
      obtain ⟨-, hf⟩ := grd_ex hf
      obtain ⟨S4, hq, hf⟩ := bndV_ex hf
      have F := F.trans ((rX2_startFrom hq).mono rfl (fun _ => rfl))
      obtain ⟨-, hf⟩ := grd_ex hf
      cases hf
      exact F
theorem rX11_back {v1 : Int32} {S S' : mT} {r : Int32} (hf : fX11_back v1 S = some (r, S')) : Fr (inM 999999 LX11_back) S S' := rX11_back_0 hf
abbrev LX11_limited : List (Nat × Nat × Option Nat) := [(999999, 999999, none)]
theorem rX11_limited_0 {S' : mT} {r : Int32} {v0 : Int32} {v1 : Int32} {v2 : Int32} {S : mT} (hf : fX11_limited v0 v1 v2 S = some (r, S')) : Fr (inM 999999 LX11_limited) S S' := by
  unfold fX11_limited at hf
  obtain ⟨x1, -, hf⟩ := bnd_ex hf
  obtain ⟨x2, -, hf⟩ := bnd_ex hf
  cases hf
  exact (Fr.rfl (inM 999999 LX11_limited) _)
theorem rX11_limited {v0 : Int32} {v1 : Int32} {v2 : Int32} {S S' : mT} {r : Int32} (hf : fX11_limited v0 v1 v2 S = some (r, S')) : Fr (inM 999999 LX11_limited) S S' := rX11_limited_0 hf
abbrev LX8_setValues_3 : List (Nat × Nat × Option Nat) := [(999999, 999999, none), (18, 18, none)]
theorem rX8_setValues_0_3 {S' : mT} {v1 : Int32} {v2 : Int32} {v3 : Int32} {v4 : Int32} {v5 : Int32} {v6 : Int32} {S : mT} (hf : fX8_setValues 3 v1 v2 v3 v4 v5 v6 S = some S') : Fr (inM 999999 LX8_setValues_3) S S' := by
  unfold fX8_setValues at hf
  obtain ⟨-, hf⟩ := grd_ex hf
  obtain ⟨S1, eS1, hf⟩ := bnd_ex hf
  have F : Fr (inM 999999 LX8_setValues_3) S S1 := by
    rw [eS1]
    exact Fr.sI (Fr.rfl (inM 999999 LX8_setValues_3) _) rfl
  obtain ⟨-, hf⟩ := grd_ex hf
  obtain ⟨S2, eS2, hf⟩ := bnd_ex hf
  have F : Fr (inM 999999 LX8_setValues_3) S S2 := by
    rw [eS2]
    exact Fr.sI F rfl
  obtain ⟨-, hf⟩ := grd_ex hf
  obtain ⟨S3, eS3, hf⟩ := bnd_ex hf
  have F : Fr (inM 999999 LX8_setValues_3) S S3 := by
    rw [eS3]
    exact Fr.sI F rfl
  obtain ⟨-, hf⟩ := grd_ex hf
  obtain ⟨S4, eS4, hf⟩ := bnd_ex hf
  have F : Fr (inM 999999 LX8_setValues_3) S S4 := by
    rw [eS4]
    exact Fr.sI F rfl
  obtain ⟨-, hf⟩ := grd_ex hf
  obtain ⟨S5, eS5, hf⟩ := bnd_ex hf
  have F : Fr (inM 999999 LX8_setValues_3) S S5 := by
    rw [eS5]
    exact Fr.sI F rfl
  obtain ⟨-, hf⟩ := grd_ex hf
  obtain ⟨S6, eS6, hf⟩ := bnd_ex hf
  have F : Fr (inM 999999 LX8_setValues_3) S S6 := by
    rw [eS6]
    exact Fr.sI F rfl
  cases hf
  exact F
theorem rX8_setValues_3 {v1 : Int32} {v2 : Int32} {v3 : Int32} {v4 : Int32} {v5 : Int32} {v6 : Int32} {S S' : mT} (hf : fX8_setValues 3 v1 v2 v3 v4 v5 v6 S = some S') : Fr (inM 999999 LX8_setValues_3) S S' := rX8_setValues_0_3 hf
abbrev LX8_setValues_19 : List (Nat × Nat × Option Nat) := [(999999, 999999, none), (34, 34, none)]
theorem rX8_setValues_0_19 {S' : mT} {v1 : Int32} {v2 : Int32} {v3 : Int32} {v4 : Int32} {v5 : Int32} {v6 : Int32} {S : mT} (hf : fX8_setValues 19 v1 v2 v3 v4 v5 v6 S = some S') : Fr (inM 999999 LX8_setValues_19) S S' := by
  unfold fX8_setValues at hf
  obtain ⟨-, hf⟩ := grd_ex hf
  obtain ⟨S1, eS1, hf⟩ := bnd_ex hf
  have F : Fr (inM 999999 LX8_setValues_19) S S1 := by
    rw [eS1]
    exact Fr.sI (Fr.rfl (inM 999999 LX8_setValues_19) _) rfl
  obtain ⟨-, hf⟩ := grd_ex hf
  obtain ⟨S2, eS2, hf⟩ := bnd_ex hf
  have F : Fr (inM 999999 LX8_setValues_19) S S2 := by
    rw [eS2]
    exact Fr.sI F rfl
  obtain ⟨-, hf⟩ := grd_ex hf
  obtain ⟨S3, eS3, hf⟩ := bnd_ex hf
  have F : Fr (inM 999999 LX8_setValues_19) S S3 := by
    rw [eS3]
    exact Fr.sI F rfl
  obtain ⟨-, hf⟩ := grd_ex hf
  obtain ⟨S4, eS4, hf⟩ := bnd_ex hf
  have F : Fr (inM 999999 LX8_setValues_19) S S4 := by
    rw [eS4]
    exact Fr.sI F rfl
  obtain ⟨-, hf⟩ := grd_ex hf
  obtain ⟨S5, eS5, hf⟩ := bnd_ex hf
  have F : Fr (inM 999999 LX8_setValues_19) S S5 := by
    rw [eS5]
    exact Fr.sI F rfl
  obtain ⟨-, hf⟩ := grd_ex hf
  obtain ⟨S6, eS6, hf⟩ := bnd_ex hf
  have F : Fr (inM 999999 LX8_setValues_19) S S6 := by
    rw [eS6]
    exact Fr.sI F rfl
  cases hf
  exact F
theorem rX8_setValues_19 {v1 : Int32} {v2 : Int32} {v3 : Int32} {v4 : Int32} {v5 : Int32} {v6 : Int32} {S S' : mT} (hf : fX8_setValues 19 v1 v2 v3 v4 v5 v6 S = some S') : Fr (inM 999999 LX8_setValues_19) S S' := rX8_setValues_0_19 hf
abbrev LX8_growHouse_3 : List (Nat × Nat × Option Nat) := [(999999, 999999, none), (17, 17, none), (18, 18, none)]
theorem rX8_growHouse_0_3 {a1 : Nat} {S' : mT} {v2 : Int32} {S : mT} (hf : fX8_growHouse 3 a1 v2 S = some S') : Fr (inM a1 LX8_growHouse_3) S S' := by
  unfold fX8_growHouse at hf
  obtain ⟨-, hf⟩ := grd_ex hf
  obtain ⟨x1, -, hf⟩ := bnd_ex hf
  obtain ⟨-, hf⟩ := grd_ex hf
  obtain ⟨-, hf⟩ := grd_ex hf
  obtain ⟨-, hf⟩ := grd_ex hf
  obtain ⟨S2, hq, hf⟩ := bndV_ex hf
  have F := (Fr.rfl (inM a1 LX8_growHouse_3) _).trans ((rX8_setValues_3 hq).mono rfl (fun _ => rfl))
  obtain ⟨-, hf⟩ := grd_ex hf
  obtain ⟨x4, S3, hq, hf⟩ := bndC_ex hf
  have F := F.trans ((rX0_work_15 hq).mono rfl (fun _ => rfl))
  obtain ⟨x6, S5, hq, hf⟩ := bndC_ex hf
  have F := F.trans ((rX11_limited hq).mono rfl (fun _ => rfl))
  obtain ⟨x8, S7, hq, hf⟩ := bndC_ex hf
  have F := F.trans ((rX11_limited hq).mono rfl (fun _ => rfl))
  obtain ⟨-, hf⟩ := grd_ex hf
  obtain ⟨S9, eS9, hf⟩ := bnd_ex hf
  have F : Fr (inM a1 LX8_growHouse_3) S S9 := by
    rw [eS9]
    exact Fr.sI F inM_self
  obtain ⟨-, hf⟩ := grd_ex hf
  obtain ⟨-, hf⟩ := grd_ex hf
  obtain ⟨x10, -, hf⟩ := bnd_ex hf
  obtain ⟨-, hf⟩ := grd_ex hf
  obtain ⟨S11, eS11, hf⟩ := bnd_ex hf
  have F : Fr (inM a1 LX8_growHouse_3) S S11 := by
    rw [eS11]
    exact Fr.sI F inM_self
  cases hf
  exact F
theorem rX8_growHouse_3 {a1 : Nat} {v2 : Int32} {S S' : mT} (hf : fX8_growHouse 3 a1 v2 S = some S') : Fr (inM a1 LX8_growHouse_3) S S' := rX8_growHouse_0_3 hf
abbrev LX8_growHouse_19 : List (Nat × Nat × Option Nat) := [(999999, 999999, none), (33, 33, none), (34, 34, none)]
theorem rX8_growHouse_0_19 {a1 : Nat} {S' : mT} {v2 : Int32} {S : mT} (hf : fX8_growHouse 19 a1 v2 S = some S') : Fr (inM a1 LX8_growHouse_19) S S' := by
  unfold fX8_growHouse at hf
  obtain ⟨-, hf⟩ := grd_ex hf
  obtain ⟨x1, -, hf⟩ := bnd_ex hf
  obtain ⟨-, hf⟩ := grd_ex hf
  obtain ⟨-, hf⟩ := grd_ex hf
  obtain ⟨-, hf⟩ := grd_ex hf
  obtain ⟨S2, hq, hf⟩ := bndV_ex hf
  have F := (Fr.rfl (inM a1 LX8_growHouse_19) _).trans ((rX8_setValues_19 hq).mono rfl (fun _ => rfl))
  obtain ⟨-, hf⟩ := grd_ex hf
  obtain ⟨x4, S3, hq, hf⟩ := bndC_ex hf
  have F := F.trans ((rX0_work_31 hq).mono rfl (fun _ => rfl))
  obtain ⟨x6, S5, hq, hf⟩ := bndC_ex hf
  have F := F.trans ((rX11_limited hq).mono rfl (fun _ => rfl))
  obtain ⟨x8, S7, hq, hf⟩ := bndC_ex hf
  have F := F.trans ((rX11_limited hq).mono rfl (fun _ => rfl))
  obtain ⟨-, hf⟩ := grd_ex hf
  obtain ⟨S9, eS9, hf⟩ := bnd_ex hf
  have F : Fr (inM a1 LX8_growHouse_19) S S9 := by
    rw [eS9]
    exact Fr.sI F inM_self
  obtain ⟨-, hf⟩ := grd_ex hf
  obtain ⟨-, hf⟩ := grd_ex hf
  obtain ⟨x10, -, hf⟩ := bnd_ex hf
  obtain ⟨-, hf⟩ := grd_ex hf
  obtain ⟨S11, eS11, hf⟩ := bnd_ex hf
  have F : Fr (inM a1 LX8_growHouse_19) S S11 := by
    rw [eS11]
    exact Fr.sI F inM_self
  cases hf
  exact F
theorem rX8_growHouse_19 {a1 : Nat} {v2 : Int32} {S S' : mT} (hf : fX8_growHouse 19 a1 v2 S = some S') : Fr (inM a1 LX8_growHouse_19) S S' := rX8_growHouse_0_19 hf
abbrev LX8_sendMagpie_3 : List (Nat × Nat × Option Nat) := [(999999, 999999, none)]
theorem rX8_sendMagpie_41_3 {a1 : Nat} {S' : mT} {S : mT} (hf : fX8_sendMagpie_41 3 a1 S = some S') : Fr (inM a1 LX8_sendMagpie_3) S S' := by
  unfold fX8_sendMagpie_41 at hf
  cases hf
  exact (Fr.rfl (inM a1 LX8_sendMagpie_3) _)
theorem rX8_sendMagpie_0_3 {a1 : Nat} {S' : mT} {S : mT} (hf : fX8_sendMagpie 3 a1 S = some S') : Fr (inM a1 LX8_sendMagpie_3) S S' := by
  unfold fX8_sendMagpie at hf
  obtain ⟨-, hf⟩ := grd_ex hf
  by_cases hc : (S.1 3 9) ≤ 0
  · rw [if_pos hc] at hf
    exact (Fr.rfl (inM a1 LX8_sendMagpie_3) _).trans (rX8_sendMagpie_41_3 hf)
  · rw [if_neg hc] at hf
    obtain ⟨-, hf⟩ := grd_ex hf
    obtain ⟨x1, -, hf⟩ := bnd_ex hf
    obtain ⟨-, hf⟩ := grd_ex hf
    obtain ⟨-, hf⟩ := grd_ex hf
    obtain ⟨x2, -, hf⟩ := bnd_ex hf
    obtain ⟨-, hf⟩ := grd_ex hf
    obtain ⟨S3, eS3, hf⟩ := bnd_ex hf
    have F : Fr (inM a1 LX8_sendMagpie_3) S S3 := by
      rw [eS3]
      exact Fr.sI (Fr.rfl (inM a1 LX8_sendMagpie_3) _) inM_self
    exact F.trans (rX8_sendMagpie_41_3 hf)
theorem rX8_sendMagpie_3 {a1 : Nat} {S S' : mT} (hf : fX8_sendMagpie 3 a1 S = some S') : Fr (inM a1 LX8_sendMagpie_3) S S' := rX8_sendMagpie_0_3 hf
abbrev LX8_sendMagpie_19 : List (Nat × Nat × Option Nat) := [(999999, 999999, none)]
theorem rX8_sendMagpie_41_19 {a1 : Nat} {S' : mT} {S : mT} (hf : fX8_sendMagpie_41 19 a1 S = some S') : Fr (inM a1 LX8_sendMagpie_19) S S' := by
  unfold fX8_sendMagpie_41 at hf
  cases hf
  exact (Fr.rfl (inM a1 LX8_sendMagpie_19) _)
theorem rX8_sendMagpie_0_19 {a1 : Nat} {S' : mT} {S : mT} (hf : fX8_sendMagpie 19 a1 S = some S') : Fr (inM a1 LX8_sendMagpie_19) S S' := by
  unfold fX8_sendMagpie at hf
  obtain ⟨-, hf⟩ := grd_ex hf
  by_cases hc : (S.1 19 9) ≤ 0
  · rw [if_pos hc] at hf
    exact (Fr.rfl (inM a1 LX8_sendMagpie_19) _).trans (rX8_sendMagpie_41_19 hf)
  · rw [if_neg hc] at hf
    obtain ⟨-, hf⟩ := grd_ex hf
    obtain ⟨x1, -, hf⟩ := bnd_ex hf
    obtain ⟨-, hf⟩ := grd_ex hf
    obtain ⟨-, hf⟩ := grd_ex hf
    obtain ⟨x2, -, hf⟩ := bnd_ex hf
    obtain ⟨-, hf⟩ := grd_ex hf
    obtain ⟨S3, eS3, hf⟩ := bnd_ex hf
    have F : Fr (inM a1 LX8_sendMagpie_19) S S3 := by
      rw [eS3]
      exact Fr.sI (Fr.rfl (inM a1 LX8_sendMagpie_19) _) inM_self
    exact F.trans (rX8_sendMagpie_41_19 hf)
theorem rX8_sendMagpie_19 {a1 : Nat} {S S' : mT} (hf : fX8_sendMagpie 19 a1 S = some S') : Fr (inM a1 LX8_sendMagpie_19) S S' := rX8_sendMagpie_0_19 hf
abbrev LX8_stonesHiding_3 : List (Nat × Nat × Option Nat) := [(999999, 999999, none), (11, 11, none), (18, 18, none)]
theorem rX8_stonesHiding_0_3 {a1 : Nat} {S' : mT} {r : Int32} {v2 : Int32} {v3 : Int32} {S : mT} (hf : fX8_stonesHiding 3 a1 v2 v3 S = some (r, S')) : Fr (inM 999999 LX8_stonesHiding_3) S S' := by
  unfold fX8_stonesHiding at hf
  obtain ⟨-, hf⟩ := grd_ex hf
  obtain ⟨x1, -, hf⟩ := bnd_ex hf
  obtain ⟨-, hf⟩ := grd_ex hf
  by_cases hc : (S.1 (3 + 6) 4) = 0
  · rw [if_pos hc] at hf
    obtain ⟨-, hf⟩ := grd_ex hf
    obtain ⟨x3, S2, hq, hf⟩ := bndC_ex hf
    have F := (Fr.rfl (inM 999999 LX8_stonesHiding_3) _).trans ((rX11_limited hq).mono rfl (fun _ => rfl))
    cases hf
    exact F
  · rw [if_neg hc] at hf
    obtain ⟨-, hf⟩ := grd_ex hf
    obtain ⟨-, hf⟩ := grd_ex hf
    obtain ⟨S4, hq, hf⟩ := bndV_ex hf
    have F := (Fr.rfl (inM 999999 LX8_stonesHiding_3) _).trans ((rX8_setValues_3 hq).mono rfl (fun _ => rfl))
    obtain ⟨-, hf⟩ := grd_ex hf
    obtain ⟨x6, S5, hq, hf⟩ := bndC_ex hf
    have F := F.trans ((rX0_work_9 hq).mono rfl (fun _ => rfl))
    obtain ⟨x8, S7, hq, hf⟩ := bndC_ex hf
    have F := F.trans ((rX11_limited hq).mono rfl (fun _ => rfl))
    cases hf
    exact F
theorem rX8_stonesHiding_3 {a1 : Nat} {v2 : Int32} {v3 : Int32} {S S' : mT} {r : Int32} (hf : fX8_stonesHiding 3 a1 v2 v3 S = some (r, S')) : Fr (inM 999999 LX8_stonesHiding_3) S S' := rX8_stonesHiding_0_3 hf
abbrev LX8_stonesHiding_19 : List (Nat × Nat × Option Nat) := [(999999, 999999, none), (27, 27, none), (34, 34, none)]
theorem rX8_stonesHiding_0_19 {a1 : Nat} {S' : mT} {r : Int32} {v2 : Int32} {v3 : Int32} {S : mT} (hf : fX8_stonesHiding 19 a1 v2 v3 S = some (r, S')) : Fr (inM 999999 LX8_stonesHiding_19) S S' := by
  unfold fX8_stonesHiding at hf
  obtain ⟨-, hf⟩ := grd_ex hf
  obtain ⟨x1, -, hf⟩ := bnd_ex hf
  obtain ⟨-, hf⟩ := grd_ex hf
  by_cases hc : (S.1 (19 + 6) 4) = 0
  · rw [if_pos hc] at hf
    obtain ⟨-, hf⟩ := grd_ex hf
    obtain ⟨x3, S2, hq, hf⟩ := bndC_ex hf
    have F := (Fr.rfl (inM 999999 LX8_stonesHiding_19) _).trans ((rX11_limited hq).mono rfl (fun _ => rfl))
    cases hf
    exact F
  · rw [if_neg hc] at hf
    obtain ⟨-, hf⟩ := grd_ex hf
    obtain ⟨-, hf⟩ := grd_ex hf
    obtain ⟨S4, hq, hf⟩ := bndV_ex hf
    have F := (Fr.rfl (inM 999999 LX8_stonesHiding_19) _).trans ((rX8_setValues_19 hq).mono rfl (fun _ => rfl))
    obtain ⟨-, hf⟩ := grd_ex hf
    obtain ⟨x6, S5, hq, hf⟩ := bndC_ex hf
    have F := F.trans ((rX0_work_25 hq).mono rfl (fun _ => rfl))
    obtain ⟨x8, S7, hq, hf⟩ := bndC_ex hf
    have F := F.trans ((rX11_limited hq).mono rfl (fun _ => rfl))
    cases hf
    exact F
theorem rX8_stonesHiding_19 {a1 : Nat} {v2 : Int32} {v3 : Int32} {S S' : mT} {r : Int32} (hf : fX8_stonesHiding 19 a1 v2 v3 S = some (r, S')) : Fr (inM 999999 LX8_stonesHiding_19) S S' := rX8_stonesHiding_0_19 hf
abbrev LX8_stonesOf_3 : List (Nat × Nat × Option Nat) := [(999999, 999999, none), (11, 11, none), (18, 18, none)]
theorem rX8_stonesOf_0_3 {a1 : Nat} {S' : mT} {r : Int32} {v2 : Int32} {S : mT} (hf : fX8_stonesOf 3 a1 v2 S = some (r, S')) : Fr (inM 999999 LX8_stonesOf_3) S S' := by
  unfold fX8_stonesOf at hf
  obtain ⟨-, hf⟩ := grd_ex hf
  obtain ⟨x2, S1, hq, hf⟩ := bndC_ex hf
  have F := (Fr.rfl (inM 999999 LX8_stonesOf_3) _).trans ((rX8_stonesHiding_3 hq).mono rfl (fun _ => rfl))
  cases hf
  exact F
theorem rX8_stonesOf_3 {a1 : Nat} {v2 : Int32} {S S' : mT} {r : Int32} (hf : fX8_stonesOf 3 a1 v2 S = some (r, S')) : Fr (inM 999999 LX8_stonesOf_3) S S' := rX8_stonesOf_0_3 hf
abbrev LX8_stonesOf_19 : List (Nat × Nat × Option Nat) := [(999999, 999999, none), (27, 27, none), (34, 34, none)]
theorem rX8_stonesOf_0_19 {a1 : Nat} {S' : mT} {r : Int32} {v2 : Int32} {S : mT} (hf : fX8_stonesOf 19 a1 v2 S = some (r, S')) : Fr (inM 999999 LX8_stonesOf_19) S S' := by
  unfold fX8_stonesOf at hf
  obtain ⟨-, hf⟩ := grd_ex hf
  obtain ⟨x2, S1, hq, hf⟩ := bndC_ex hf
  have F := (Fr.rfl (inM 999999 LX8_stonesOf_19) _).trans ((rX8_stonesHiding_19 hq).mono rfl (fun _ => rfl))
  cases hf
  exact F
theorem rX8_stonesOf_19 {a1 : Nat} {v2 : Int32} {S S' : mT} {r : Int32} (hf : fX8_stonesOf 19 a1 v2 S = some (r, S')) : Fr (inM 999999 LX8_stonesOf_19) S S' := rX8_stonesOf_0_19 hf
abbrev LX8_passSummer_3 : List (Nat × Nat × Option Nat) := [(999999, 999999, none), (11, 11, none), (17, 17, none), (18, 18, none)]
theorem rX8_passSummer_84_3 {a1 : Nat} {S' : mT} {S : mT} (hf : fX8_passSummer_84 3 a1 S = some S') : Fr (inM a1 LX8_passSummer_3) S S' := by
  unfold fX8_passSummer_84 at hf
  obtain ⟨-, hf⟩ := grd_ex hf
  obtain ⟨S7, eS7, hf⟩ := bnd_ex hf
  have F : Fr (inM a1 LX8_passSummer_3) S S7 := by
    rw [eS7]
    exact Fr.sI (Fr.rfl (inM a1 LX8_passSummer_3) _) inM_self
  cases hf
  exact F
theorem rX8_passSummer_64_3 {a1 : Nat} {S' : mT} : ∀ (k : Nat) (v2 : Int32) (S : mT), fX8_passSummer_64 3 a1 k v2 S = some S' → Fr (inM a1 LX8_passSummer_3) S S' := by
  intro k
  induction k with
  | zero =>
    intro v2 S hf
    cases hf
  | succ k ih =>
    intro v2 S hf
    unfold fX8_passSummer_64 at hf
    obtain ⟨-, hf⟩ := grd_ex hf
    by_cases hc : (S.1 3 9) ≤ v2
    · rw [if_pos hc] at hf
      exact (Fr.rfl (inM a1 LX8_passSummer_3) _).trans (rX8_passSummer_84_3 hf)
    · rw [if_neg hc] at hf
      obtain ⟨S8, hq, hf⟩ := bndV_ex hf
      have F := (Fr.rfl (inM a1 LX8_passSummer_3) _).trans ((rX8_growHouse_3 hq).mono rfl (fun _ => inM_self))
      obtain ⟨x9, -, hf⟩ := bnd_ex hf
      exact F.trans (ih _ _ hf)
theorem rX8_passSummer_2_3 {a1 : Nat} {S' : mT} : ∀ (k : Nat) (v2 : Int32) (S : mT), fX8_passSummer_2 3 a1 k v2 S = some S' → Fr (inM a1 LX8_passSummer_3) S S' := by
  intro k
  induction k with
  | zero =>
    intro v2 S hf
    cases hf
  | succ k ih =>
    intro v2 S hf
    unfold fX8_passSummer_2 at hf
    obtain ⟨-, hf⟩ := grd_ex hf
    by_cases hc : (S.1 3 9) ≤ v2
    · rw [if_pos hc] at hf
      obtain ⟨-, hf⟩ := grd_ex hf
      obtain ⟨-, hf⟩ := grd_ex hf
      obtain ⟨S1, eS1, hf⟩ := bnd_ex hf
      have F : Fr (inM a1 LX8_passSummer_3) S S1 := by
        rw [eS1]
        exact Fr.sI (Fr.rfl (inM a1 LX8_passSummer_3) _) inM_self
      obtain ⟨S2, hq, hf⟩ := bndV_ex hf
      have F := F.trans ((rX8_sendMagpie_3 hq).mono rfl (fun _ => inM_self))
      obtain ⟨-, hf⟩ := grd_ex hf
      by_cases hc : (S2.1 (3 + 12) 4) = 0
      · rw [if_pos hc] at hf
        exact F.trans (rX8_passSummer_84_3 hf)
      · rw [if_neg hc] at hf
        exact F.trans (rX8_passSummer_64_3 _ _ _ hf)
    · rw [if_neg hc] at hf
      obtain ⟨x4, S3, hq, hf⟩ := bndC_ex hf
      have F := (Fr.rfl (inM a1 LX8_passSummer_3) _).trans ((rX8_stonesOf_3 hq).mono rfl (fun _ => rfl))
      obtain ⟨-, hf⟩ := grd_ex hf
      obtain ⟨S5, eS5, hf⟩ := bnd_ex hf
      have F : Fr (inM a1 LX8_passSummer_3) S S5 := by
        rw [eS5]
        exact Fr.sI F inM_self
      obtain ⟨x6, -, hf⟩ := bnd_ex hf
      exact F.trans (ih _ _ hf)
theorem rX8_passSummer_0_3 {a1 : Nat} {S' : mT} {S : mT} (hf : fX8_passSummer 3 a1 S = some S') : Fr (inM a1 LX8_passSummer_3) S S' := by
  unfold fX8_passSummer at hf
  exact (Fr.rfl (inM a1 LX8_passSummer_3) _).trans (rX8_passSummer_2_3 _ _ _ hf)
theorem rX8_passSummer_3 {a1 : Nat} {S S' : mT} (hf : fX8_passSummer 3 a1 S = some S') : Fr (inM a1 LX8_passSummer_3) S S' := rX8_passSummer_0_3 hf
abbrev LX8_passSummer_19 : List (Nat × Nat × Option Nat) := [(999999, 999999, none), (27, 27, none), (33, 33, none), (34, 34, none)]
theorem rX8_passSummer_84_19 {a1 : Nat} {S' : mT} {S : mT} (hf : fX8_passSummer_84 19 a1 S = some S') : Fr (inM a1 LX8_passSummer_19) S S' := by
  unfold fX8_passSummer_84 at hf
  obtain ⟨-, hf⟩ := grd_ex hf
  obtain ⟨S7, eS7, hf⟩ := bnd_ex hf
  have F : Fr (inM a1 LX8_passSummer_19) S S7 := by
    rw [eS7]
    exact Fr.sI (Fr.rfl (inM a1 LX8_passSummer_19) _) inM_self
  cases hf
  exact F
theorem rX8_passSummer_64_19 {a1 : Nat} {S' : mT} : ∀ (k : Nat) (v2 : Int32) (S : mT), fX8_passSummer_64 19 a1 k v2 S = some S' → Fr (inM a1 LX8_passSummer_19) S S' := by
  intro k
  induction k with
  | zero =>
    intro v2 S hf
    cases hf
  | succ k ih =>
    intro v2 S hf
    unfold fX8_passSummer_64 at hf
    obtain ⟨-, hf⟩ := grd_ex hf
    by_cases hc : (S.1 19 9) ≤ v2
    · rw [if_pos hc] at hf
      exact (Fr.rfl (inM a1 LX8_passSummer_19) _).trans (rX8_passSummer_84_19 hf)
    · rw [if_neg hc] at hf
      obtain ⟨S8, hq, hf⟩ := bndV_ex hf
      have F := (Fr.rfl (inM a1 LX8_passSummer_19) _).trans ((rX8_growHouse_19 hq).mono rfl (fun _ => inM_self))
      obtain ⟨x9, -, hf⟩ := bnd_ex hf
      exact F.trans (ih _ _ hf)
theorem rX8_passSummer_2_19 {a1 : Nat} {S' : mT} : ∀ (k : Nat) (v2 : Int32) (S : mT), fX8_passSummer_2 19 a1 k v2 S = some S' → Fr (inM a1 LX8_passSummer_19) S S' := by
  intro k
  induction k with
  | zero =>
    intro v2 S hf
    cases hf
  | succ k ih =>
    intro v2 S hf
    unfold fX8_passSummer_2 at hf
    obtain ⟨-, hf⟩ := grd_ex hf
    by_cases hc : (S.1 19 9) ≤ v2
    · rw [if_pos hc] at hf
      obtain ⟨-, hf⟩ := grd_ex hf
      obtain ⟨-, hf⟩ := grd_ex hf
      obtain ⟨S1, eS1, hf⟩ := bnd_ex hf
      have F : Fr (inM a1 LX8_passSummer_19) S S1 := by
        rw [eS1]
        exact Fr.sI (Fr.rfl (inM a1 LX8_passSummer_19) _) inM_self
      obtain ⟨S2, hq, hf⟩ := bndV_ex hf
      have F := F.trans ((rX8_sendMagpie_19 hq).mono rfl (fun _ => inM_self))
      obtain ⟨-, hf⟩ := grd_ex hf
      by_cases hc : (S2.1 (19 + 12) 4) = 0
      · rw [if_pos hc] at hf
        exact F.trans (rX8_passSummer_84_19 hf)
      · rw [if_neg hc] at hf
        exact F.trans (rX8_passSummer_64_19 _ _ _ hf)
    · rw [if_neg hc] at hf
      obtain ⟨x4, S3, hq, hf⟩ := bndC_ex hf
      have F := (Fr.rfl (inM a1 LX8_passSummer_19) _).trans ((rX8_stonesOf_19 hq).mono rfl (fun _ => rfl))
      obtain ⟨-, hf⟩ := grd_ex hf
      obtain ⟨S5, eS5, hf⟩ := bnd_ex hf
      have F : Fr (inM a1 LX8_passSummer_19) S S5 := by
        rw [eS5]
        exact Fr.sI F inM_self
      obtain ⟨x6, -, hf⟩ := bnd_ex hf
      exact F.trans (ih _ _ hf)
theorem rX8_passSummer_0_19 {a1 : Nat} {S' : mT} {S : mT} (hf : fX8_passSummer 19 a1 S = some S') : Fr (inM a1 LX8_passSummer_19) S S' := by
  unfold fX8_passSummer at hf
  exact (Fr.rfl (inM a1 LX8_passSummer_19) _).trans (rX8_passSummer_2_19 _ _ _ hf)
theorem rX8_passSummer_19 {a1 : Nat} {S S' : mT} (hf : fX8_passSummer 19 a1 S = some S') : Fr (inM a1 LX8_passSummer_19) S S' := rX8_passSummer_0_19 hf
abbrev LX11_foresee_f : List (Nat × Nat × Option Nat) := [(999999, 999999, none), (11, 11, none), (17, 17, none), (18, 18, none), (36, 36, none)]
theorem rX11_foresee_17_f {S' : mT} : ∀ (k : Nat) (v1 : Int32) (v2 : Int32) (S : mT), fX11_foresee_17 false k v1 v2 S = some S' → Fr (inM 999999 LX11_foresee_f) S S' := by
  intro k
  induction k with
  | zero =>
    intro v1 v2 S hf
    cases hf
  | succ k ih =>
    intro v1 v2 S hf
    unfold fX11_foresee_17 at hf
    by_cases hc : v1 ≤ v2
    · rw [if_pos hc] at hf
      cases hf
      exact (Fr.rfl (inM 999999 LX11_foresee_f) _)
    · rw [if_neg hc] at hf
      obtain ⟨-, hf⟩ := grd_ex hf
      obtain ⟨S2, hq, hf⟩ := bndV_ex hf
      have F := (Fr.rfl (inM 999999 LX11_foresee_f) _).trans ((rX8_passSummer_3 hq).mono rfl (fun _ => rfl))
      obtain ⟨x3, -, hf⟩ := bnd_ex hf
      exact F.trans (ih _ _ _ hf)
theorem rX11_foresee_0_f {S' : mT} {v1 : Int32} {S : mT} (hf : fX11_foresee false v1 S = some S') : Fr (inM 999999 LX11_foresee_f) S S' := by
  unfold fX11_foresee at hf
  obtain ⟨-, hf⟩ := grd_ex hf
  obtain ⟨S1, eS1, hf⟩ := bnd_ex hf
  have F : Fr (inM 999999 LX11_foresee_f) S S1 := by
    rw [eS1]
    exact Fr.sC (Fr.rfl (inM 999999 LX11_foresee_f) _) (fun _ => rfl)
  exact F.trans (rX11_foresee_17_f _ _ _ _ hf)
theorem rX11_foresee_f {v1 : Int32} {S S' : mT} (hf : fX11_foresee false v1 S = some S') : Fr (inM 999999 LX11_foresee_f) S S' := rX11_foresee_0_f hf
abbrev LX11_foresee_t : List (Nat × Nat × Option Nat) := [(999999, 999999, none), (27, 27, none), (33, 33, none), (34, 34, none), (36, 36, none)]
theorem rX11_foresee_17_t {S' : mT} : ∀ (k : Nat) (v1 : Int32) (v2 : Int32) (S : mT), fX11_foresee_17 true k v1 v2 S = some S' → Fr (inM 999999 LX11_foresee_t) S S' := by
  intro k
  induction k with
  | zero =>
    intro v1 v2 S hf
    cases hf
  | succ k ih =>
    intro v1 v2 S hf
    unfold fX11_foresee_17 at hf
    by_cases hc : v1 ≤ v2
    · rw [if_pos hc] at hf
      cases hf
      exact (Fr.rfl (inM 999999 LX11_foresee_t) _)
    · rw [if_neg hc] at hf
      obtain ⟨-, hf⟩ := grd_ex hf
      obtain ⟨S2, hq, hf⟩ := bndV_ex hf
      have F := (Fr.rfl (inM 999999 LX11_foresee_t) _).trans ((rX8_passSummer_19 hq).mono rfl (fun _ => rfl))
      obtain ⟨x3, -, hf⟩ := bnd_ex hf
      exact F.trans (ih _ _ _ hf)
theorem rX11_foresee_0_t {S' : mT} {v1 : Int32} {S : mT} (hf : fX11_foresee true v1 S = some S') : Fr (inM 999999 LX11_foresee_t) S S' := by
  unfold fX11_foresee at hf
  obtain ⟨-, hf⟩ := grd_ex hf
  obtain ⟨S1, eS1, hf⟩ := bnd_ex hf
  have F : Fr (inM 999999 LX11_foresee_t) S S1 := by
    rw [eS1]
    exact Fr.sC (Fr.rfl (inM 999999 LX11_foresee_t) _) (fun _ => rfl)
  exact F.trans (rX11_foresee_17_t _ _ _ _ hf)
theorem rX11_foresee_t {v1 : Int32} {S S' : mT} (hf : fX11_foresee true v1 S = some S') : Fr (inM 999999 LX11_foresee_t) S S' := rX11_foresee_0_t hf
abbrev LX11_bowls_f : List (Nat × Nat × Option Nat) := [(999999, 999999, none), (11, 11, none), (17, 17, none), (18, 18, none), (36, 36, none)]
theorem rX11_bowls_0_f {S' : mT} {r : Int32} {v1 : Int32} {S : mT} (hf : fX11_bowls false v1 S = some (r, S')) : Fr (inM 999999 LX11_bowls_f) S S' := by
  unfold fX11_bowls at hf
  obtain ⟨x2, S1, hq, hf⟩ := bndC_ex hf
  have F := (Fr.rfl (inM 999999 LX11_bowls_f) _).trans ((rX11_isWithin hq).mono rfl (fun _ => rfl))
  by_cases hc : x2 = 0
  · rw [if_pos hc] at hf
    cases hf
    exact F
  · rw [if_neg hc] at hf
    obtain ⟨S3, hq, hf⟩ := bndV_ex hf
    have F := F.trans ((rX11_foresee_f hq).mono rfl (fun _ => rfl))
    obtain ⟨-, hf⟩ := grd_ex hf
    obtain ⟨x5, S4, hq, hf⟩ := bndC_ex hf
    have F := F.trans ((rX11_allBowls_f hq).mono rfl (fun _ => rfl))
    cases hf
    exact F
theorem rX11_bowls_f {v1 : Int32} {S S' : mT} {r : Int32} (hf : fX11_bowls false v1 S = some (r, S')) : Fr (inM 999999 LX11_bowls_f) S S' := rX11_bowls_0_f hf
abbrev LX11_bowls_t : List (Nat × Nat × Option Nat) := [(999999, 999999, none), (27, 27, none), (33, 33, none), (34, 34, none), (36, 36, none)]
theorem rX11_bowls_0_t {S' : mT} {r : Int32} {v1 : Int32} {S : mT} (hf : fX11_bowls true v1 S = some (r, S')) : Fr (inM 999999 LX11_bowls_t) S S' := by
  unfold fX11_bowls at hf
  obtain ⟨x2, S1, hq, hf⟩ := bndC_ex hf
  have F := (Fr.rfl (inM 999999 LX11_bowls_t) _).trans ((rX11_isWithin hq).mono rfl (fun _ => rfl))
  by_cases hc : x2 = 0
  · rw [if_pos hc] at hf
    cases hf
    exact F
  · rw [if_neg hc] at hf
    obtain ⟨S3, hq, hf⟩ := bndV_ex hf
    have F := F.trans ((rX11_foresee_t hq).mono rfl (fun _ => rfl))
    obtain ⟨-, hf⟩ := grd_ex hf
    obtain ⟨x5, S4, hq, hf⟩ := bndC_ex hf
    have F := F.trans ((rX11_allBowls_t hq).mono rfl (fun _ => rfl))
    cases hf
    exact F
theorem rX11_bowls_t {v1 : Int32} {S S' : mT} {r : Int32} (hf : fX11_bowls true v1 S = some (r, S')) : Fr (inM 999999 LX11_bowls_t) S S' := rX11_bowls_0_t hf
abbrev LX11_lay : List (Nat × Nat × Option Nat) := [(999999, 999999, none), (0, 0, some 13), (186, 186, none)]
theorem rX11_lay_0 {a1 : Nat} {S' : mT} {v2 : Int32} {S : mT} (hf : fX11_lay a1 v2 S = some S') : Fr (inM 999999 LX11_lay) S S' := by
  unfold fX11_lay at hf
  obtain ⟨-, hf⟩ := grd_ex hf
  obtain ⟨x1, -, hf⟩ := bnd_ex hf
  obtain ⟨x2, -, hf⟩ := bnd_ex hf
  obtain ⟨-, hf⟩ := grd_ex hf
  obtain ⟨S3, eS3, hf⟩ := bnd_ex hf
  have F : Fr (inM 999999 LX11_lay) S S3 := by
    rw [eS3]
    exact Fr.sI (Fr.rfl (inM 999999 LX11_lay) _) rfl
  obtain ⟨-, hf⟩ := grd_ex hf
  obtain ⟨S4, eS4, hf⟩ := bnd_ex hf
  have F : Fr (inM 999999 LX11_lay) S S4 := by
    rw [eS4]
    exact Fr.sC F (fun _ => rfl)
  cases hf
  exact F
theorem rX11_lay {a1 : Nat} {v2 : Int32} {S S' : mT} (hf : fX11_lay a1 v2 S = some S') : Fr (inM 999999 LX11_lay) S S' := rX11_lay_0 hf
abbrev LX6_look_3 : List (Nat × Nat × Option Nat) := [(999999, 999999, none), (100, 100, some 8), (101, 101, none), (102, 102, none), (104, 104, none), (105, 105, none)]
theorem rX6_look_0_3 {a2 : Nat} {S' : mT} {S : mT} (hf : fX6_look 3 a2 S = some S') : Fr (inM 999999 LX6_look_3) S S' := by
  unfold fX6_look at hf
  obtain ⟨-, hf⟩ := grd_ex hf
  obtain ⟨S1, eS1, hf⟩ := bnd_ex hf
  have F : Fr (inM 999999 LX6_look_3) S S1 := by
    rw [eS1]
    exact Fr.sI (Fr.rfl (inM 999999 LX6_look_3) _) rfl
  obtain ⟨-, hf⟩ := grd_ex hf
  obtain ⟨S2, eS2, hf⟩ := bnd_ex hf
  have F : Fr (inM 999999 LX6_look_3) S S2 := by
    rw [eS2]
    exact Fr.sC F (fun _ => rfl)
  obtain ⟨-, hf⟩ := grd_ex hf
  obtain ⟨S3, eS3, hf⟩ := bnd_ex hf
  have F : Fr (inM 999999 LX6_look_3) S S3 := by
    rw [eS3]
    exact Fr.sC F (fun _ => rfl)
  obtain ⟨-, hf⟩ := grd_ex hf
  obtain ⟨S4, hq, hf⟩ := bndV_ex hf
  have F := F.trans ((rJ7_fill_53178 hq).mono rfl (fun _ => rfl))
  obtain ⟨-, hf⟩ := grd_ex hf
  obtain ⟨S5, hq, hf⟩ := bndV_ex hf
  have F := F.trans ((rJ7_fill_53178 hq).mono rfl (fun _ => rfl))
  cases hf
  exact F
theorem rX6_look_3 {a2 : Nat} {S S' : mT} (hf : fX6_look 3 a2 S = some S') : Fr (inM 999999 LX6_look_3) S S' := rX6_look_0_3 hf
abbrev LX6_look_19 : List (Nat × Nat × Option Nat) := [(999999, 999999, none), (100, 100, some 8), (101, 101, none), (102, 102, none), (104, 104, none), (105, 105, none)]
theorem rX6_look_0_19 {a2 : Nat} {S' : mT} {S : mT} (hf : fX6_look 19 a2 S = some S') : Fr (inM 999999 LX6_look_19) S S' := by
  unfold fX6_look at hf
  obtain ⟨-, hf⟩ := grd_ex hf
  obtain ⟨S1, eS1, hf⟩ := bnd_ex hf
  have F : Fr (inM 999999 LX6_look_19) S S1 := by
    rw [eS1]
    exact Fr.sI (Fr.rfl (inM 999999 LX6_look_19) _) rfl
  obtain ⟨-, hf⟩ := grd_ex hf
  obtain ⟨S2, eS2, hf⟩ := bnd_ex hf
  have F : Fr (inM 999999 LX6_look_19) S S2 := by
    rw [eS2]
    exact Fr.sC F (fun _ => rfl)
  obtain ⟨-, hf⟩ := grd_ex hf
  obtain ⟨S3, eS3, hf⟩ := bnd_ex hf
  have F : Fr (inM 999999 LX6_look_19) S S3 := by
    rw [eS3]
    exact Fr.sC F (fun _ => rfl)
  obtain ⟨-, hf⟩ := grd_ex hf
  obtain ⟨S4, hq, hf⟩ := bndV_ex hf
  have F := F.trans ((rJ7_fill_53178 hq).mono rfl (fun _ => rfl))
  obtain ⟨-, hf⟩ := grd_ex hf
  obtain ⟨S5, hq, hf⟩ := bndV_ex hf
  have F := F.trans ((rJ7_fill_53178 hq).mono rfl (fun _ => rfl))
  cases hf
  exact F
theorem rX6_look_19 {a2 : Nat} {S S' : mT} (hf : fX6_look 19 a2 S = some S') : Fr (inM 999999 LX6_look_19) S S' := rX6_look_0_19 hf
abbrev LX6_afterKnock : List (Nat × Nat × Option Nat) := [(999999, 999999, none)]
theorem rX6_afterKnock_40 {S' : mT} {r : Int32} {rc5 : Int32 → Int32 → Int32 → Int32 → mT → Option (Int32 × mT)} (Hrc5 : ∀ (v1 : Int32) (v2 : Int32) (v3 : Int32) (v4 : Int32) (S : mT), rc5 v1 v2 v3 v4 S = some (r, S') → Fr (inM 999999 LX6_afterKnock) S S') {v1 : Int32} {v2 : Int32} {v3 : Int32} {v4 : Int32} {S : mT} (hf : fX6_afterKnock_40 rc5 v1 v2 v3 v4 S = some (r, S')) : Fr (inM 999999 LX6_afterKnock) S S' := by
  unfold fX6_afterKnock_40 at hf
  obtain ⟨x2, -, hf⟩ := bnd_ex hf
  exact (Fr.rfl (inM 999999 LX6_afterKnock) _).trans (Hrc5 _ _ _ _ _ hf)
theorem rX6_afterKnock_5 {S' : mT} {r : Int32} : ∀ (k : Nat) (v1 : Int32) (v2 : Int32) (v3 : Int32) (v4 : Int32) (S : mT), fX6_afterKnock_5 k v1 v2 v3 v4 S = some (r, S') → Fr (inM 999999 LX6_afterKnock) S S' := by
  intro k
  induction k with
  | zero =>
    intro v1 v2 v3 v4 S hf
    cases hf
  | succ k ih =>
    intro v1 v2 v3 v4 S hf
    unfold fX6_afterKnock_5 at hf
    obtain ⟨-, hf⟩ := grd_ex hf
    by_cases hc : (S.1 100 8) ≤ v4
    · rw [if_pos hc] at hf
      cases hf
      exact (Fr.rfl (inM 999999 LX6_afterKnock) _)
    · rw [if_neg hc] at hf
      by_cases hc : v4 = v2
      · rw [if_pos hc] at hf
        exact (Fr.rfl (inM 999999 LX6_afterKnock) _).trans (rX6_afterKnock_40 ih hf)
      · rw [if_neg hc] at hf
        by_cases hc : ((v1 >>> (v4 &&& 31)) &&& (1 : Int32)) = (1 : Int32)
        · rw [if_pos hc] at hf
          obtain ⟨-, hf⟩ := grd_ex hf
          obtain ⟨x1, -, hf⟩ := bnd_ex hf
          exact (Fr.rfl (inM 999999 LX6_afterKnock) _).trans (rX6_afterKnock_40 ih hf)
        · rw [if_neg hc] at hf
          exact (Fr.rfl (inM 999999 LX6_afterKnock) _).trans (rX6_afterKnock_40 ih hf)
theorem rX6_afterKnock_0 {S' : mT} {r : Int32} {v1 : Int32} {v2 : Int32} {S : mT} (hf : fX6_afterKnock v1 v2 S = some (r, S')) : Fr (inM 999999 LX6_afterKnock) S S' := by
  unfold fX6_afterKnock at hf
  exact (Fr.rfl (inM 999999 LX6_afterKnock) _).trans (rX6_afterKnock_5 _ _ _ _ _ _ hf)
theorem rX6_afterKnock {v1 : Int32} {v2 : Int32} {S S' : mT} {r : Int32} (hf : fX6_afterKnock v1 v2 S = some (r, S')) : Fr (inM 999999 LX6_afterKnock) S S' := rX6_afterKnock_0 hf
abbrev LX6_fewestFrom : List (Nat × Nat × Option Nat) := [(999999, 999999, none)]
theorem rX6_fewestFrom_9 {S' : mT} {r : Int32} : ∀ (k : Nat) (v1 : Int32) (v2 : Int32) (v3 : Int32) (S : mT), fX6_fewestFrom_9 k v1 v2 v3 S = some (r, S') → Fr (inM 999999 LX6_fewestFrom) S S' := by
  intro k
  induction k with
  | zero =>
    intro v1 v2 v3 S hf
    cases hf
  | succ k ih =>
    intro v1 v2 v3 S hf
    unfold fX6_fewestFrom_9 at hf
    obtain ⟨-, hf⟩ := grd_ex hf
    by_cases hc : (S.1 100 8) ≤ v3
    · rw [if_pos hc] at hf
      cases hf
      exact (Fr.rfl (inM 999999 LX6_fewestFrom) _)
    · rw [if_neg hc] at hf
      obtain ⟨-, hf⟩ := grd_ex hf
      obtain ⟨x3, S2, hq, hf⟩ := bndC_ex hf
      have F := (Fr.rfl (inM 999999 LX6_fewestFrom) _).trans ((rX6_afterKnock hq).mono rfl (fun _ => rfl))
      obtain ⟨-, hf⟩ := grd_ex hf
      obtain ⟨x4, -, hf⟩ := bnd_ex hf
      obtain ⟨x5, -, hf⟩ := bnd_ex hf
      exact F.trans (ih _ _ _ _ hf)
theorem rX6_fewestFrom_0 {S' : mT} {r : Int32} {v1 : Int32} {S : mT} (hf : fX6_fewestFrom v1 S = some (r, S')) : Fr (inM 999999 LX6_fewestFrom) S S' := by
  unfold fX6_fewestFrom at hf
  obtain ⟨-, hf⟩ := grd_ex hf
  obtain ⟨x1, -, hf⟩ := bnd_ex hf
  exact (Fr.rfl (inM 999999 LX6_fewestFrom) _).trans (rX6_fewestFrom_9 _ _ _ _ _ hf)
theorem rX6_fewestFrom {v1 : Int32} {S S' : mT} {r : Int32} (hf : fX6_fewestFrom v1 S = some (r, S')) : Fr (inM 999999 LX6_fewestFrom) S S' := rX6_fewestFrom_0 hf
abbrev LX6_countSteps : List (Nat × Nat × Option Nat) := [(999999, 999999, none), (107, 107, none)]
theorem rX6_countSteps_68 {S' : mT} {rc20 : Int32 → Int32 → mT → Option (mT)} (Hrc20 : ∀ (v1 : Int32) (v2 : Int32) (S : mT), rc20 v1 v2 S = some S' → Fr (inM 999999 LX6_countSteps) S S') {rc34 : Int32 → Int32 → Int32 → mT → Option (mT)} (Hrc34 : ∀ (v1 : Int32) (v2 : Int32) (v3 : Int32) (S : mT), rc34 v1 v2 v3 S = some S' → Fr (inM 999999 LX6_countSteps) S S') {v2 : Int32} {v3 : Int32} {v4 : Int32} {s0 : Int32} {s1 : Int32} {S : mT} (hf : fX6_countSteps_68 rc20 rc34 v2 v3 v4 s0 s1 S = some S') : Fr (inM 999999 LX6_countSteps) S S' := by
  unfold fX6_countSteps_68 at hf
  obtain ⟨x6, -, hf⟩ := bnd_ex hf
  obtain ⟨-, hf⟩ := grd_ex hf
  obtain ⟨S7, eS7, hf⟩ := bnd_ex hf
  have F : Fr (inM 999999 LX6_countSteps) S S7 := by
    rw [eS7]
    exact Fr.sI (Fr.rfl (inM 999999 LX6_countSteps) _) rfl
  obtain ⟨x8, -, hf⟩ := bnd_ex hf
  exact F.trans (Hrc34 _ _ _ _ hf)
theorem rX6_countSteps_34 {S' : mT} {rc20 : Int32 → Int32 → mT → Option (mT)} (Hrc20 : ∀ (v1 : Int32) (v2 : Int32) (S : mT), rc20 v1 v2 S = some S' → Fr (inM 999999 LX6_countSteps) S S') : ∀ (k : Nat) (v1 : Int32) (v2 : Int32) (v3 : Int32) (S : mT), fX6_countSteps_34 rc20 k v1 v2 v3 S = some S' → Fr (inM 999999 LX6_countSteps) S S' := by
  intro k
  induction k with
  | zero =>
    intro v1 v2 v3 S hf
    cases hf
  | succ k ih =>
    intro v1 v2 v3 S hf
    unfold fX6_countSteps_34 at hf
    obtain ⟨-, hf⟩ := grd_ex hf
    by_cases hc : ((1 : Int32) <<< ((S.1 100 8) &&& 31)) ≤ v3
    · rw [if_pos hc] at hf
      obtain ⟨x3, -, hf⟩ := bnd_ex hf
      exact (Fr.rfl (inM 999999 LX6_countSteps) _).trans (Hrc20 _ _ _ hf)
    · rw [if_neg hc] at hf
      obtain ⟨x5, S4, hq, hf⟩ := bndC_ex hf
      have F := (Fr.rfl (inM 999999 LX6_countSteps) _).trans ((rX6_fewestFrom hq).mono rfl (fun _ => rfl))
      obtain ⟨-, hf⟩ := grd_ex hf
      by_cases hc : (S4.1 107 (mIx v3)) ≤ x5
      · rw [if_pos hc] at hf
        exact F.trans (rX6_countSteps_68 Hrc20 ih hf)
      · rw [if_neg hc] at hf
        exact F.trans (rX6_countSteps_68 Hrc20 ih hf)
theorem rX6_countSteps_90 {S' : mT} {S : mT} (hf : fX6_countSteps_90 S = some S') : Fr (inM 999999 LX6_countSteps) S S' := by
  unfold fX6_countSteps_90 at hf
  cases hf
  exact (Fr.rfl (inM 999999 LX6_countSteps) _)
theorem rX6_countSteps_20 {S' : mT} : ∀ (k : Nat) (v1 : Int32) (v2 : Int32) (S : mT), fX6_countSteps_20 k v1 v2 S = some S' → Fr (inM 999999 LX6_countSteps) S S' := by
  intro k
  induction k with
  | zero =>
    intro v1 v2 S hf
    cases hf
  | succ k ih =>
    intro v1 v2 S hf
    unfold fX6_countSteps_20 at hf
    by_cases hc : (32 : Int32) ≤ v2
    · rw [if_pos hc] at hf
      exact (Fr.rfl (inM 999999 LX6_countSteps) _).trans (rX6_countSteps_90 hf)
    · rw [if_neg hc] at hf
      by_cases hc : v1 = 0
      · rw [if_pos hc] at hf
        exact (Fr.rfl (inM 999999 LX6_countSteps) _).trans (rX6_countSteps_90 hf)
      · rw [if_neg hc] at hf
        exact (Fr.rfl (inM 999999 LX6_countSteps) _).trans (rX6_countSteps_34 ih _ _ _ _ _ hf)
theorem rX6_countSteps_0 {S' : mT} {S : mT} (hf : fX6_countSteps S = some S') : Fr (inM 999999 LX6_countSteps) S S' := by
  unfold fX6_countSteps at hf
  obtain ⟨-, hf⟩ := grd_ex hf
  obtain ⟨S1, hq, hf⟩ := bndV_ex hf
  have F := (Fr.rfl (inM 999999 LX6_countSteps) _).trans ((rJ7_fill_53178 hq).mono rfl (fun _ => rfl))
  obtain ⟨-, hf⟩ := grd_ex hf
  obtain ⟨S2, eS2, hf⟩ := bnd_ex hf
  have F : Fr (inM 999999 LX6_countSteps) S S2 := by
    rw [eS2]
    exact Fr.sI F rfl
  exact F.trans (rX6_countSteps_20 _ _ _ _ hf)
theorem rX6_countSteps {S S' : mT} (hf : fX6_countSteps S = some S') : Fr (inM 999999 LX6_countSteps) S S' := rX6_countSteps_0 hf
abbrev LX6_bitOf : List (Nat × Nat × Option Nat) := [(999999, 999999, none)]
theorem rX6_bitOf_12 {S' : mT} {r : Int32} {s0 : Int32} {S : mT} (hf : fX6_bitOf_12 s0 S = some (r, S')) : Fr (inM 999999 LX6_bitOf) S S' := by
  unfold fX6_bitOf_12 at hf
  cases hf
  exact (Fr.rfl (inM 999999 LX6_bitOf) _)
theorem rX6_bitOf_0 {S' : mT} {r : Int32} {v0 : Int32} {S : mT} (hf : fX6_bitOf v0 S = some (r, S')) : Fr (inM 999999 LX6_bitOf) S S' := by
  unfold fX6_bitOf at hf
  by_cases hc : v0 = (-1 : Int32)
  · rw [if_pos hc] at hf
    exact (Fr.rfl (inM 999999 LX6_bitOf) _).trans (rX6_bitOf_12 hf)
  · rw [if_neg hc] at hf
    exact (Fr.rfl (inM 999999 LX6_bitOf) _).trans (rX6_bitOf_12 hf)
theorem rX6_bitOf {v0 : Int32} {S S' : mT} {r : Int32} (hf : fX6_bitOf v0 S = some (r, S')) : Fr (inM 999999 LX6_bitOf) S S' := rX6_bitOf_0 hf
abbrev LX6_isBefore : List (Nat × Nat × Option Nat) := [(999999, 999999, none)]
theorem rX6_isBefore_32 {S' : mT} {r : Int32} {s0 : Int32} {S : mT} (hf : fX6_isBefore_32 s0 S = some (r, S')) : Fr (inM 999999 LX6_isBefore) S S' := by
  unfold fX6_isBefore_32 at hf
  obtain ⟨-, hf⟩ := grd_ex hf
  cases hf
  exact (Fr.rfl (inM 999999 LX6_isBefore) _)
theorem rX6_isBefore_27 {S' : mT} {r : Int32} {S : mT} (hf : fX6_isBefore_27 S = some (r, S')) : Fr (inM 999999 LX6_isBefore) S S' := by
  unfold fX6_isBefore_27 at hf
  exact (Fr.rfl (inM 999999 LX6_isBefore) _).trans (rX6_isBefore_32 hf)
theorem rX6_isBefore_31 {S' : mT} {r : Int32} {S : mT} (hf : fX6_isBefore_31 S = some (r, S')) : Fr (inM 999999 LX6_isBefore) S S' := by
  unfold fX6_isBefore_31 at hf
  exact (Fr.rfl (inM 999999 LX6_isBefore) _).trans (rX6_isBefore_32 hf)
theorem rX6_isBefore_0 {S' : mT} {r : Int32} {v1 : Int32} {v2 : Int32} {S : mT} (hf : fX6_isBefore v1 v2 S = some (r, S')) : Fr (inM 999999 LX6_isBefore) S S' := by
  unfold fX6_isBefore at hf
  obtain ⟨-, hf⟩ := grd_ex hf
  obtain ⟨x1, -, hf⟩ := bnd_ex hf
  by_cases hc : x1 < 0
  · rw [if_pos hc] at hf
    exact (Fr.rfl (inM 999999 LX6_isBefore) _).trans (rX6_isBefore_27 hf)
  · rw [if_neg hc] at hf
    by_cases hc : x1 = 0
    · rw [if_pos hc] at hf
      by_cases hc : v2 ≤ v1
      · rw [if_pos hc] at hf
        exact (Fr.rfl (inM 999999 LX6_isBefore) _).trans (rX6_isBefore_31 hf)
      · rw [if_neg hc] at hf
        exact (Fr.rfl (inM 999999 LX6_isBefore) _).trans (rX6_isBefore_27 hf)
    · rw [if_neg hc] at hf
      exact (Fr.rfl (inM 999999 LX6_isBefore) _).trans (rX6_isBefore_31 hf)
theorem rX6_isBefore {v1 : Int32} {v2 : Int32} {S S' : mT} {r : Int32} (hf : fX6_isBefore v1 v2 S = some (r, S')) : Fr (inM 999999 LX6_isBefore) S S' := rX6_isBefore_0 hf
abbrev LX6_findNeighbours : List (Nat × Nat × Option Nat) := [(999999, 999999, none), (106, 106, none)]
theorem rX6_findNeighbours_82 {S' : mT} {rc2 : Int32 → mT → Option (mT)} (Hrc2 : ∀ (v1 : Int32) (S : mT), rc2 v1 S = some S' → Fr (inM 999999 LX6_findNeighbours) S S') {rc17 : Int32 → Int32 → Int32 → Int32 → mT → Option (mT)} (Hrc17 : ∀ (v1 : Int32) (v2 : Int32) (v3 : Int32) (v4 : Int32) (S : mT), rc17 v1 v2 v3 v4 S = some S' → Fr (inM 999999 LX6_findNeighbours) S S') {v1 : Int32} {v2 : Int32} {v3 : Int32} {v4 : Int32} {S : mT} (hf : fX6_findNeighbours_82 rc2 rc17 v1 v2 v3 v4 S = some S') : Fr (inM 999999 LX6_findNeighbours) S S' := by
  unfold fX6_findNeighbours_82 at hf
  obtain ⟨x18, -, hf⟩ := bnd_ex hf
  exact (Fr.rfl (inM 999999 LX6_findNeighbours) _).trans (Hrc17 _ _ _ _ _ hf)
theorem rX6_findNeighbours_79 {S' : mT} {rc2 : Int32 → mT → Option (mT)} (Hrc2 : ∀ (v1 : Int32) (S : mT), rc2 v1 S = some S' → Fr (inM 999999 LX6_findNeighbours) S S') {rc17 : Int32 → Int32 → Int32 → Int32 → mT → Option (mT)} (Hrc17 : ∀ (v1 : Int32) (v2 : Int32) (v3 : Int32) (v4 : Int32) (S : mT), rc17 v1 v2 v3 v4 S = some S' → Fr (inM 999999 LX6_findNeighbours) S S') {v1 : Int32} {v2 : Int32} {v4 : Int32} {S : mT} (hf : fX6_findNeighbours_79 rc2 rc17 v1 v2 v4 S = some S') : Fr (inM 999999 LX6_findNeighbours) S S' := by
  unfold fX6_findNeighbours_79 at hf
  exact (Fr.rfl (inM 999999 LX6_findNeighbours) _).trans (rX6_findNeighbours_82 Hrc2 Hrc17 hf)
theorem rX6_findNeighbours_54 {S' : mT} {rc2 : Int32 → mT → Option (mT)} (Hrc2 : ∀ (v1 : Int32) (S : mT), rc2 v1 S = some S' → Fr (inM 999999 LX6_findNeighbours) S S') {rc17 : Int32 → Int32 → Int32 → Int32 → mT → Option (mT)} (Hrc17 : ∀ (v1 : Int32) (v2 : Int32) (v3 : Int32) (v4 : Int32) (S : mT), rc17 v1 v2 v3 v4 S = some S' → Fr (inM 999999 LX6_findNeighbours) S S') {v1 : Int32} {v2 : Int32} {v3 : Int32} {v4 : Int32} {S : mT} (hf : fX6_findNeighbours_54 rc2 rc17 v1 v2 v3 v4 S = some S') : Fr (inM 999999 LX6_findNeighbours) S S' := by
  unfold fX6_findNeighbours_54 at hf
  obtain ⟨x15, S14, hq, hf⟩ := bndC_ex hf
  have F := (Fr.rfl (inM 999999 LX6_findNeighbours) _).trans ((rX6_isBefore hq).mono rfl (fun _ => rfl))
  by_cases hc : x15 = 0
  · rw [if_pos hc] at hf
    exact F.trans (rX6_findNeighbours_82 Hrc2 Hrc17 hf)
  · rw [if_neg hc] at hf
    by_cases hc : v3 = (-1 : Int32)
    · rw [if_pos hc] at hf
      exact F.trans (rX6_findNeighbours_79 Hrc2 Hrc17 hf)
    · rw [if_neg hc] at hf
      obtain ⟨x17, S16, hq, hf⟩ := bndC_ex hf
      have F := F.trans ((rX6_isBefore hq).mono rfl (fun _ => rfl))
      by_cases hc : x17 = 0
      · rw [if_pos hc] at hf
        exact F.trans (rX6_findNeighbours_82 Hrc2 Hrc17 hf)
      · rw [if_neg hc] at hf
        exact F.trans (rX6_findNeighbours_79 Hrc2 Hrc17 hf)
theorem rX6_findNeighbours_51 {S' : mT} {rc2 : Int32 → mT → Option (mT)} (Hrc2 : ∀ (v1 : Int32) (S : mT), rc2 v1 S = some S' → Fr (inM 999999 LX6_findNeighbours) S S') {rc17 : Int32 → Int32 → Int32 → Int32 → mT → Option (mT)} (Hrc17 : ∀ (v1 : Int32) (v2 : Int32) (v3 : Int32) (v4 : Int32) (S : mT), rc17 v1 v2 v3 v4 S = some S' → Fr (inM 999999 LX6_findNeighbours) S S') {v1 : Int32} {v3 : Int32} {v4 : Int32} {S : mT} (hf : fX6_findNeighbours_51 rc2 rc17 v1 v3 v4 S = some S') : Fr (inM 999999 LX6_findNeighbours) S S' := by
  unfold fX6_findNeighbours_51 at hf
  exact (Fr.rfl (inM 999999 LX6_findNeighbours) _).trans (rX6_findNeighbours_54 Hrc2 Hrc17 hf)
theorem rX6_findNeighbours_121 {S' : mT} {rc2 : Int32 → mT → Option (mT)} (Hrc2 : ∀ (v1 : Int32) (S : mT), rc2 v1 S = some S' → Fr (inM 999999 LX6_findNeighbours) S S') {v1 : Int32} {S : mT} (hf : fX6_findNeighbours_121 rc2 v1 S = some S') : Fr (inM 999999 LX6_findNeighbours) S S' := by
  unfold fX6_findNeighbours_121 at hf
  obtain ⟨x13, -, hf⟩ := bnd_ex hf
  exact (Fr.rfl (inM 999999 LX6_findNeighbours) _).trans (Hrc2 _ _ hf)
theorem rX6_findNeighbours_17 {S' : mT} {rc2 : Int32 → mT → Option (mT)} (Hrc2 : ∀ (v1 : Int32) (S : mT), rc2 v1 S = some S' → Fr (inM 999999 LX6_findNeighbours) S S') : ∀ (k : Nat) (v1 : Int32) (v2 : Int32) (v3 : Int32) (v4 : Int32) (S : mT), fX6_findNeighbours_17 rc2 k v1 v2 v3 v4 S = some S' → Fr (inM 999999 LX6_findNeighbours) S S' := by
  intro k
  induction k with
  | zero =>
    intro v1 v2 v3 v4 S hf
    cases hf
  | succ k ih =>
    intro v1 v2 v3 v4 S hf
    unfold fX6_findNeighbours_17 at hf
    obtain ⟨-, hf⟩ := grd_ex hf
    by_cases hc : (S.1 100 8) ≤ v4
    · rw [if_pos hc] at hf
      obtain ⟨-, hf⟩ := grd_ex hf
      obtain ⟨x2, S1, hq, hf⟩ := bndC_ex hf
      have F := (Fr.rfl (inM 999999 LX6_findNeighbours) _).trans ((rX6_bitOf hq).mono rfl (fun _ => rfl))
      obtain ⟨x4, S3, hq, hf⟩ := bndC_ex hf
      have F := F.trans ((rX6_bitOf hq).mono rfl (fun _ => rfl))
      obtain ⟨-, hf⟩ := grd_ex hf
      obtain ⟨S5, eS5, hf⟩ := bnd_ex hf
      have F : Fr (inM 999999 LX6_findNeighbours) S S5 := by
        rw [eS5]
        exact Fr.sI F rfl
      obtain ⟨-, hf⟩ := grd_ex hf
      by_cases hc : (S5.1 100 8) = (1 : Int32)
      · rw [if_pos hc] at hf
        obtain ⟨-, hf⟩ := grd_ex hf
        obtain ⟨x7, S6, hq, hf⟩ := bndC_ex hf
        have F := F.trans ((rX6_bitOf hq).mono rfl (fun _ => rfl))
        obtain ⟨-, hf⟩ := grd_ex hf
        obtain ⟨S8, eS8, hf⟩ := bnd_ex hf
        have F : Fr (inM 999999 LX6_findNeighbours) S S8 := by
          rw [eS8]
          exact Fr.sI F rfl
        exact F.trans (rX6_findNeighbours_121 Hrc2 hf)
      · rw [if_neg hc] at hf
        exact F.trans (rX6_findNeighbours_121 Hrc2 hf)
    · rw [if_neg hc] at hf
      obtain ⟨x10, S9, hq, hf⟩ := bndC_ex hf
      have F := (Fr.rfl (inM 999999 LX6_findNeighbours) _).trans ((rX6_isBefore hq).mono rfl (fun _ => rfl))
      by_cases hc : x10 = 0
      · rw [if_pos hc] at hf
        exact F.trans (rX6_findNeighbours_54 Hrc2 ih hf)
      · rw [if_neg hc] at hf
        by_cases hc : v2 = (-1 : Int32)
        · rw [if_pos hc] at hf
          exact F.trans (rX6_findNeighbours_51 Hrc2 ih hf)
        · rw [if_neg hc] at hf
          obtain ⟨x12, S11, hq, hf⟩ := bndC_ex hf
          have F := F.trans ((rX6_isBefore hq).mono rfl (fun _ => rfl))
          by_cases hc : x12 = 0
          · rw [if_pos hc] at hf
            exact F.trans (rX6_findNeighbours_54 Hrc2 ih hf)
          · rw [if_neg hc] at hf
            exact F.trans (rX6_findNeighbours_51 Hrc2 ih hf)
theorem rX6_findNeighbours_2 {S' : mT} : ∀ (k : Nat) (v1 : Int32) (S : mT), fX6_findNeighbours_2 k v1 S = some S' → Fr (inM 999999 LX6_findNeighbours) S S' := by
  intro k
  induction k with
  | zero =>
    intro v1 S hf
    cases hf
  | succ k ih =>
    intro v1 S hf
    unfold fX6_findNeighbours_2 at hf
    obtain ⟨-, hf⟩ := grd_ex hf
    by_cases hc : (S.1 100 8) ≤ v1
    · rw [if_pos hc] at hf
      cases hf
      exact (Fr.rfl (inM 999999 LX6_findNeighbours) _)
    · rw [if_neg hc] at hf
      exact (Fr.rfl (inM 999999 LX6_findNeighbours) _).trans (rX6_findNeighbours_17 ih _ _ _ _ _ _ hf)
theorem rX6_findNeighbours_0 {S' : mT} {S : mT} (hf : fX6_findNeighbours S = some S') : Fr (inM 999999 LX6_findNeighbours) S S' := by
  unfold fX6_findNeighbours at hf
  exact (Fr.rfl (inM 999999 LX6_findNeighbours) _).trans (rX6_findNeighbours_2 _ _ _ hf)
theorem rX6_findNeighbours {S S' : mT} (hf : fX6_findNeighbours S = some S') : Fr (inM 999999 LX6_findNeighbours) S S' := rX6_findNeighbours_0 hf
abbrev LX6_firstOnTheWay : List (Nat × Nat × Option Nat) := [(999999, 999999, none)]
theorem rX6_firstOnTheWay_2 {S' : mT} {r : Int32} : ∀ (k : Nat) (v1 : Int32) (v2 : Int32) (S : mT), fX6_firstOnTheWay_2 k v1 v2 S = some (r, S') → Fr (inM 999999 LX6_firstOnTheWay) S S' := by
  intro k
  induction k with
  | zero =>
    intro v1 v2 S hf
    cases hf
  | succ k ih =>
    intro v1 v2 S hf
    unfold fX6_firstOnTheWay_2 at hf
    obtain ⟨-, hf⟩ := grd_ex hf
    by_cases hc : (S.1 100 8) ≤ v2
    · rw [if_pos hc] at hf
      cases hf
      exact (Fr.rfl (inM 999999 LX6_firstOnTheWay) _)
    · rw [if_neg hc] at hf
      obtain ⟨-, hf⟩ := grd_ex hf
      obtain ⟨x2, S1, hq, hf⟩ := bndC_ex hf
      have F := (Fr.rfl (inM 999999 LX6_firstOnTheWay) _).trans ((rX6_afterKnock hq).mono rfl (fun _ => rfl))
      obtain ⟨-, hf⟩ := grd_ex hf
      by_cases hc : (S1.1 107 (mIx v1)) ≤ (S1.1 107 (mIx x2))
      · rw [if_pos hc] at hf
        obtain ⟨x3, -, hf⟩ := bnd_ex hf
        exact F.trans (ih _ _ _ hf)
      · rw [if_neg hc] at hf
        cases hf
        exact F
theorem rX6_firstOnTheWay_0 {S' : mT} {r : Int32} {v1 : Int32} {S : mT} (hf : fX6_firstOnTheWay v1 S = some (r, S')) : Fr (inM 999999 LX6_firstOnTheWay) S S' := by
  unfold fX6_firstOnTheWay at hf
  exact (Fr.rfl (inM 999999 LX6_firstOnTheWay) _).trans (rX6_firstOnTheWay_2 _ _ _ _ hf)
theorem rX6_firstOnTheWay {v1 : Int32} {S S' : mT} {r : Int32} (hf : fX6_firstOnTheWay v1 S = some (r, S')) : Fr (inM 999999 LX6_firstOnTheWay) S S' := rX6_firstOnTheWay_0 hf
abbrev LX6_planKnocks : List (Nat × Nat × Option Nat) := [(999999, 999999, none), (106, 106, none), (107, 107, none), (108, 108, none)]
theorem rX6_planKnocks_55 {S' : mT} {r : Int32} {v2 : Int32} {S : mT} (hf : fX6_planKnocks_55 v2 S = some (r, S')) : Fr (inM 999999 LX6_planKnocks) S S' := by
  unfold fX6_planKnocks_55 at hf
  cases hf
  exact (Fr.rfl (inM 999999 LX6_planKnocks) _)
theorem rX6_planKnocks_19 {S' : mT} {r : Int32} : ∀ (k : Nat) (v1 : Int32) (v2 : Int32) (S : mT), fX6_planKnocks_19 k v1 v2 S = some (r, S') → Fr (inM 999999 LX6_planKnocks) S S' := by
  intro k
  induction k with
  | zero =>
    intro v1 v2 S hf
    cases hf
  | succ k ih =>
    intro v1 v2 S hf
    unfold fX6_planKnocks_19 at hf
    by_cases hc : v1 = 0
    · rw [if_pos hc] at hf
      exact (Fr.rfl (inM 999999 LX6_planKnocks) _).trans (rX6_planKnocks_55 hf)
    · rw [if_neg hc] at hf
      by_cases hc : (8 : Int32) ≤ v2
      · rw [if_pos hc] at hf
        exact (Fr.rfl (inM 999999 LX6_planKnocks) _).trans (rX6_planKnocks_55 hf)
      · rw [if_neg hc] at hf
        obtain ⟨x5, S4, hq, hf⟩ := bndC_ex hf
        have F := (Fr.rfl (inM 999999 LX6_planKnocks) _).trans ((rX6_firstOnTheWay hq).mono rfl (fun _ => rfl))
        obtain ⟨-, hf⟩ := grd_ex hf
        obtain ⟨S6, eS6, hf⟩ := bnd_ex hf
        have F : Fr (inM 999999 LX6_planKnocks) S S6 := by
          rw [eS6]
          exact Fr.sI F rfl
        obtain ⟨x7, -, hf⟩ := bnd_ex hf
        obtain ⟨x9, S8, hq, hf⟩ := bndC_ex hf
        have F := F.trans ((rX6_afterKnock hq).mono rfl (fun _ => rfl))
        exact F.trans (ih _ _ _ hf)
theorem rX6_planKnocks_0 {S' : mT} {r : Int32} {S : mT} (hf : fX6_planKnocks S = some (r, S')) : Fr (inM 999999 LX6_planKnocks) S S' := by
  unfold fX6_planKnocks at hf
  obtain ⟨S1, hq, hf⟩ := bndV_ex hf
  have F := (Fr.rfl (inM 999999 LX6_planKnocks) _).trans ((rX6_findNeighbours hq).mono rfl (fun _ => rfl))
  obtain ⟨S2, hq, hf⟩ := bndV_ex hf
  have F := F.trans ((rX6_countSteps hq).mono rfl (fun _ => rfl))
  obtain ⟨-, hf⟩ := grd_ex hf
  obtain ⟨x3, -, hf⟩ := bnd_ex hf
  exact F.trans (rX6_planKnocks_19 _ _ _ _ hf)
theorem rX6_planKnocks {S S' : mT} {r : Int32} (hf : fX6_planKnocks S = some (r, S')) : Fr (inM 999999 LX6_planKnocks) S S' := rX6_planKnocks_0 hf
abbrev LX11_chase_f : List (Nat × Nat × Option Nat) := [(999999, 999999, none), (0, 0, some 13), (100, 100, some 8), (101, 101, none), (102, 102, none), (104, 104, none), (105, 105, none), (106, 106, none), (107, 107, none), (108, 108, none), (186, 186, none)]
theorem rX11_chase_0_f {S' : mT} {r : Int32} {S : mT} (hf : fX11_chase false S = some (r, S')) : Fr (inM 999999 LX11_chase_f) S S' := by
  unfold fX11_chase at hf
  obtain ⟨-, hf⟩ := grd_ex hf
  obtain ⟨S1, eS1, hf⟩ := bnd_ex hf
  have F : Fr (inM 999999 LX11_chase_f) S S1 := by
    rw [eS1]
    exact Fr.sI (Fr.rfl (inM 999999 LX11_chase_f) _) rfl
  obtain ⟨-, hf⟩ := grd_ex hf
  by_cases hc : (S1.1 (shU false) 9) = 0
  · rw [if_pos hc] at hf
    cases hf
    exact F
  · rw [if_neg hc] at hf
    obtain ⟨-, hf⟩ := grd_ex hf
    obtain ⟨S2, hq, hf⟩ := bndV_ex hf
    have F := F.trans ((rX6_look_3 hq).mono rfl (fun _ => rfl))
    obtain ⟨-, hf⟩ := grd_ex hf
    obtain ⟨x4, S3, hq, hf⟩ := bndC_ex hf
    have F := F.trans ((rX6_planKnocks hq).mono rfl (fun _ => rfl))
    obtain ⟨-, hf⟩ := grd_ex hf
    obtain ⟨S5, hq, hf⟩ := bndV_ex hf
    have F := F.trans ((rX11_lay hq).mono rfl (fun _ => rfl))
    cases hf
    exact F
theorem rX11_chase_f {S S' : mT} {r : Int32} (hf : fX11_chase false S = some (r, S')) : Fr (inM 999999 LX11_chase_f) S S' := rX11_chase_0_f hf
abbrev LX11_chase_t : List (Nat × Nat × Option Nat) := [(999999, 999999, none), (0, 0, some 13), (100, 100, some 8), (101, 101, none), (102, 102, none), (104, 104, none), (105, 105, none), (106, 106, none), (107, 107, none), (108, 108, none), (186, 186, none)]
theorem rX11_chase_0_t {S' : mT} {r : Int32} {S : mT} (hf : fX11_chase true S = some (r, S')) : Fr (inM 999999 LX11_chase_t) S S' := by
  unfold fX11_chase at hf
  obtain ⟨-, hf⟩ := grd_ex hf
  obtain ⟨S1, eS1, hf⟩ := bnd_ex hf
  have F : Fr (inM 999999 LX11_chase_t) S S1 := by
    rw [eS1]
    exact Fr.sI (Fr.rfl (inM 999999 LX11_chase_t) _) rfl
  obtain ⟨-, hf⟩ := grd_ex hf
  by_cases hc : (S1.1 (shU true) 9) = 0
  · rw [if_pos hc] at hf
    cases hf
    exact F
  · rw [if_neg hc] at hf
    obtain ⟨-, hf⟩ := grd_ex hf
    obtain ⟨S2, hq, hf⟩ := bndV_ex hf
    have F := F.trans ((rX6_look_19 hq).mono rfl (fun _ => rfl))
    obtain ⟨-, hf⟩ := grd_ex hf
    obtain ⟨x4, S3, hq, hf⟩ := bndC_ex hf
    have F := F.trans ((rX6_planKnocks hq).mono rfl (fun _ => rfl))
    obtain ⟨-, hf⟩ := grd_ex hf
    obtain ⟨S5, hq, hf⟩ := bndV_ex hf
    have F := F.trans ((rX11_lay hq).mono rfl (fun _ => rfl))
    cases hf
    exact F
theorem rX11_chase_t {S S' : mT} {r : Int32} (hf : fX11_chase true S = some (r, S')) : Fr (inM 999999 LX11_chase_t) S S' := rX11_chase_0_t hf
abbrev LX11_isHouse_f : List (Nat × Nat × Option Nat) := [(999999, 999999, none)]
theorem rX11_isHouse_20_f {S' : mT} {r : Int32} {s0 : Int32} {S : mT} (hf : fX11_isHouse_20 false s0 S = some (r, S')) : Fr (inM 999999 LX11_isHouse_f) S S' := by
  unfold fX11_isHouse_20 at hf
  obtain ⟨-, hf⟩ := grd_ex hf
  cases hf
  exact (Fr.rfl (inM 999999 LX11_isHouse_f) _)
theorem rX11_isHouse_19_f {S' : mT} {r : Int32} {S : mT} (hf : fX11_isHouse_19 false S = some (r, S')) : Fr (inM 999999 LX11_isHouse_f) S S' := by
  unfold fX11_isHouse_19 at hf
  exact (Fr.rfl (inM 999999 LX11_isHouse_f) _).trans (rX11_isHouse_20_f hf)
theorem rX11_isHouse_0_f {S' : mT} {r : Int32} {v1 : Int32} {S : mT} (hf : fX11_isHouse false v1 S = some (r, S')) : Fr (inM 999999 LX11_isHouse_f) S S' := by
  unfold fX11_isHouse at hf
  by_cases hc : v1 < 0
  · rw [if_pos hc] at hf
    exact (Fr.rfl (inM 999999 LX11_isHouse_f) _).trans (rX11_isHouse_19_f hf)
  · rw [if_neg hc] at hf
    obtain ⟨-, hf⟩ := grd_ex hf
    by_cases hc : (S.1 (shU false) 9) ≤ v1
    · rw [if_pos hc] at hf
      exact (Fr.rfl (inM 999999 LX11_isHouse_f) _).trans (rX11_isHouse_19_f hf)
    · rw [if_neg hc] at hf
      exact (Fr.rfl (inM 999999 LX11_isHouse_f) _).trans (rX11_isHouse_20_f hf)
theorem rX11_isHouse_f {v1 : Int32} {S S' : mT} {r : Int32} (hf : fX11_isHouse false v1 S = some (r, S')) : Fr (inM 999999 LX11_isHouse_f) S S' := rX11_isHouse_0_f hf
abbrev LX11_isHouse_t : List (Nat × Nat × Option Nat) := [(999999, 999999, none)]
theorem rX11_isHouse_20_t {S' : mT} {r : Int32} {s0 : Int32} {S : mT} (hf : fX11_isHouse_20 true s0 S = some (r, S')) : Fr (inM 999999 LX11_isHouse_t) S S' := by
  unfold fX11_isHouse_20 at hf
  obtain ⟨-, hf⟩ := grd_ex hf
  cases hf
  exact (Fr.rfl (inM 999999 LX11_isHouse_t) _)
theorem rX11_isHouse_19_t {S' : mT} {r : Int32} {S : mT} (hf : fX11_isHouse_19 true S = some (r, S')) : Fr (inM 999999 LX11_isHouse_t) S S' := by
  unfold fX11_isHouse_19 at hf
  exact (Fr.rfl (inM 999999 LX11_isHouse_t) _).trans (rX11_isHouse_20_t hf)
theorem rX11_isHouse_0_t {S' : mT} {r : Int32} {v1 : Int32} {S : mT} (hf : fX11_isHouse true v1 S = some (r, S')) : Fr (inM 999999 LX11_isHouse_t) S S' := by
  unfold fX11_isHouse at hf
  by_cases hc : v1 < 0
  · rw [if_pos hc] at hf
    exact (Fr.rfl (inM 999999 LX11_isHouse_t) _).trans (rX11_isHouse_19_t hf)
  · rw [if_neg hc] at hf
    obtain ⟨-, hf⟩ := grd_ex hf
    by_cases hc : (S.1 (shU true) 9) ≤ v1
    · rw [if_pos hc] at hf
      exact (Fr.rfl (inM 999999 LX11_isHouse_t) _).trans (rX11_isHouse_19_t hf)
    · rw [if_neg hc] at hf
      exact (Fr.rfl (inM 999999 LX11_isHouse_t) _).trans (rX11_isHouse_20_t hf)
theorem rX11_isHouse_t {v1 : Int32} {S S' : mT} {r : Int32} (hf : fX11_isHouse true v1 S = some (r, S')) : Fr (inM 999999 LX11_isHouse_t) S S' := rX11_isHouse_0_t hf
abbrev LX2_keep : List (Nat × Nat × Option Nat) := [(999999, 999999, none), (37, 37, some 3), (37, 37, some 4), (37, 37, some 5), (39, 79, none)]
theorem rX2_keep_35 {a1 : Nat} {S' : mT} {S : mT} (hf : fX2_keep_35 a1 S = some S') : Fr (inM 999999 LX2_keep) S S' := by
  unfold fX2_keep_35 at hf
  obtain ⟨-, hf⟩ := grd_ex hf
  obtain ⟨S3, eS3, hf⟩ := bnd_ex hf
  have F : Fr (inM 999999 LX2_keep) S S3 := by
    rw [eS3]
    exact Fr.sI (Fr.rfl (inM 999999 LX2_keep) _) rfl
  obtain ⟨S4, hq, hf⟩ := bndV_ex hf
  have F := F.trans ((rX2_copyFrom hq).mono rfl (fun _ => rfl))
  cases hf
  exact F
theorem rX2_keep_0 {a1 : Nat} {S' : mT} {S : mT} (hf : fX2_keep a1 S = some S') : Fr (inM 999999 LX2_keep) S S' := by
  unfold fX2_keep at hf
  obtain ⟨-, hf⟩ := grd_ex hf
  by_cases hc : (40 : Int32) ≤ (S.1 37 4)
  · rw [if_pos hc] at hf
    obtain ⟨-, hf⟩ := grd_ex hf
    obtain ⟨S1, eS1, hf⟩ := bnd_ex hf
    have F : Fr (inM 999999 LX2_keep) S S1 := by
      rw [eS1]
      exact Fr.sI (Fr.rfl (inM 999999 LX2_keep) _) rfl
    exact F.trans (rX2_keep_35 hf)
  · rw [if_neg hc] at hf
    obtain ⟨-, hf⟩ := grd_ex hf
    obtain ⟨S2, eS2, hf⟩ := bnd_ex hf
    have F : Fr (inM 999999 LX2_keep) S S2 := by
      rw [eS2]
      exact Fr.sI (Fr.rfl (inM 999999 LX2_keep) _) rfl
    exact F.trans (rX2_keep_35 hf)
theorem rX2_keep {a1 : Nat} {S S' : mT} (hf : fX2_keep a1 S = some S') : Fr (inM 999999 LX2_keep) S S' := rX2_keep_0 hf
abbrev LX11_comes_f : List (Nat × Nat × Option Nat) := [(999999, 999999, none), (35, 35, none), (37, 37, some 3), (37, 37, some 4), (37, 37, some 5), (39, 79, none)]
theorem rX11_comes_21_f {S' : mT} {r : Int32} {S : mT} (hf : fX11_comes_21 false S = some (r, S')) : Fr (inM 999999 LX11_comes_f) S S' := by
  unfold fX11_comes_21 at hf
  cases hf
  exact (Fr.rfl (inM 999999 LX11_comes_f) _)
theorem rX11_comes_0_f {S' : mT} {r : Int32} {v1 : Int32} {S : mT} (hf : fX11_comes false v1 S = some (r, S')) : Fr (inM 999999 LX11_comes_f) S S' := by
  unfold fX11_comes at hf
  obtain ⟨x2, S1, hq, hf⟩ := bndC_ex hf
  have F := (Fr.rfl (inM 999999 LX11_comes_f) _).trans ((rX11_isHouse_f hq).mono rfl (fun _ => rfl))
  by_cases hc : x2 = 0
  · rw [if_pos hc] at hf
    exact F.trans (rX11_comes_21_f hf)
  · rw [if_neg hc] at hf
    obtain ⟨-, hf⟩ := grd_ex hf
    by_cases hc : (S1.1 35 (mIx ((0 : Int32) + v1))) < (7 : Int32)
    · rw [if_pos hc] at hf
      obtain ⟨-, hf⟩ := grd_ex hf
      obtain ⟨S3, eS3, hf⟩ := bnd_ex hf
      have F : Fr (inM 999999 LX11_comes_f) S S3 := by
        rw [eS3]
        exact Fr.sI F rfl
      obtain ⟨-, hf⟩ := grd_ex hf
      obtain ⟨S4, hq, hf⟩ := bndV_ex hf
      have F := F.trans ((rX2_keep hq).mono rfl (fun _ => rfl))
      obtain ⟨-, hf⟩ := grd_ex hf
      cases hf
      exact F
    · rw [if_neg hc] at hf
      exact F.trans (rX11_comes_21_f hf)
theorem rX11_comes_f {v1 : Int32} {S S' : mT} {r : Int32} (hf : fX11_comes false v1 S = some (r, S')) : Fr (inM 999999 LX11_comes_f) S S' := rX11_comes_0_f hf
abbrev LX11_comes_t : List (Nat × Nat × Option Nat) := [(999999, 999999, none), (35, 35, none), (37, 37, some 3), (37, 37, some 4), (37, 37, some 5), (39, 79, none)]
theorem rX11_comes_21_t {S' : mT} {r : Int32} {S : mT} (hf : fX11_comes_21 true S = some (r, S')) : Fr (inM 999999 LX11_comes_t) S S' := by
  unfold fX11_comes_21 at hf
  cases hf
  exact (Fr.rfl (inM 999999 LX11_comes_t) _)
theorem rX11_comes_0_t {S' : mT} {r : Int32} {v1 : Int32} {S : mT} (hf : fX11_comes true v1 S = some (r, S')) : Fr (inM 999999 LX11_comes_t) S S' := by
  unfold fX11_comes at hf
  obtain ⟨x2, S1, hq, hf⟩ := bndC_ex hf
  have F := (Fr.rfl (inM 999999 LX11_comes_t) _).trans ((rX11_isHouse_t hq).mono rfl (fun _ => rfl))
  by_cases hc : x2 = 0
  · rw [if_pos hc] at hf
    exact F.trans (rX11_comes_21_t hf)
  · rw [if_neg hc] at hf
    obtain ⟨-, hf⟩ := grd_ex hf
    by_cases hc : (S1.1 35 (mIx ((0 : Int32) + v1))) < (7 : Int32)
    · rw [if_pos hc] at hf
      obtain ⟨-, hf⟩ := grd_ex hf
      obtain ⟨S3, eS3, hf⟩ := bnd_ex hf
      have F : Fr (inM 999999 LX11_comes_t) S S3 := by
        rw [eS3]
        exact Fr.sI F rfl
      obtain ⟨-, hf⟩ := grd_ex hf
      obtain ⟨S4, hq, hf⟩ := bndV_ex hf
      have F := F.trans ((rX2_keep hq).mono rfl (fun _ => rfl))
      obtain ⟨-, hf⟩ := grd_ex hf
      cases hf
      exact F
    · rw [if_neg hc] at hf
      exact F.trans (rX11_comes_21_t hf)
theorem rX11_comes_t {v1 : Int32} {S S' : mT} {r : Int32} (hf : fX11_comes true v1 S = some (r, S')) : Fr (inM 999999 LX11_comes_t) S S' := rX11_comes_0_t hf
abbrev LX11_commonDivisor : List (Nat × Nat × Option Nat) := [(999999, 999999, none)]
theorem rX11_commonDivisor_34 {S' : mT} {r : Int32} {v2 : Int32} {S : mT} (hf : fX11_commonDivisor_34 v2 S = some (r, S')) : Fr (inM 999999 LX11_commonDivisor) S S' := by
  unfold fX11_commonDivisor_34 at hf
  cases hf
  exact (Fr.rfl (inM 999999 LX11_commonDivisor) _)
theorem rX11_commonDivisor_7 {S' : mT} {r : Int32} : ∀ (k : Nat) (v2 : Int32) (v3 : Int32) (v4 : Int32) (S : mT), fX11_commonDivisor_7 k v2 v3 v4 S = some (r, S') → Fr (inM 999999 LX11_commonDivisor) S S' := by
  intro k
  induction k with
  | zero =>
    intro v2 v3 v4 S hf
    cases hf
  | succ k ih =>
    intro v2 v3 v4 S hf
    unfold fX11_commonDivisor_7 at hf
    by_cases hc : (64 : Int32) ≤ v4
    · rw [if_pos hc] at hf
      exact (Fr.rfl (inM 999999 LX11_commonDivisor) _).trans (rX11_commonDivisor_34 hf)
    · rw [if_neg hc] at hf
      by_cases hc : v3 = 0
      · rw [if_pos hc] at hf
        exact (Fr.rfl (inM 999999 LX11_commonDivisor) _).trans (rX11_commonDivisor_34 hf)
      · rw [if_neg hc] at hf
        obtain ⟨-, hf⟩ := grd_ex hf
        obtain ⟨x1, -, hf⟩ := bnd_ex hf
        obtain ⟨x2, -, hf⟩ := bnd_ex hf
        exact (Fr.rfl (inM 999999 LX11_commonDivisor) _).trans (ih _ _ _ _ hf)
theorem rX11_commonDivisor_0 {S' : mT} {r : Int32} {v0 : Int32} {v1 : Int32} {S : mT} (hf : fX11_commonDivisor v0 v1 S = some (r, S')) : Fr (inM 999999 LX11_commonDivisor) S S' := by
  unfold fX11_commonDivisor at hf
  exact (Fr.rfl (inM 999999 LX11_commonDivisor) _).trans (rX11_commonDivisor_7 _ _ _ _ _ hf)
theorem rX11_commonDivisor {v0 : Int32} {v1 : Int32} {S S' : mT} {r : Int32} (hf : fX11_commonDivisor v0 v1 S = some (r, S')) : Fr (inM 999999 LX11_commonDivisor) S S' := rX11_commonDivisor_0 hf
abbrev LX11_doubled_f : List (Nat × Nat × Option Nat) := [(999999, 999999, none)]
theorem rX11_doubled_49_f {S' : mT} {r : Int32} {rc14 : Int32 → Int32 → Int32 → Int32 → mT → Option (Int32 × mT)} (Hrc14 : ∀ (v1 : Int32) (v2 : Int32) (v3 : Int32) (v4 : Int32) (S : mT), rc14 v1 v2 v3 v4 S = some (r, S') → Fr (inM 999999 LX11_doubled_f) S S') {v1 : Int32} {v2 : Int32} {v3 : Int32} {v4 : Int32} {S : mT} (hf : fX11_doubled_49 false rc14 v1 v2 v3 v4 S = some (r, S')) : Fr (inM 999999 LX11_doubled_f) S S' := by
  unfold fX11_doubled_49 at hf
  obtain ⟨x4, -, hf⟩ := bnd_ex hf
  exact (Fr.rfl (inM 999999 LX11_doubled_f) _).trans (Hrc14 _ _ _ _ _ hf)
theorem rX11_doubled_14_f {S' : mT} {r : Int32} : ∀ (k : Nat) (v1 : Int32) (v2 : Int32) (v3 : Int32) (v4 : Int32) (S : mT), fX11_doubled_14 false k v1 v2 v3 v4 S = some (r, S') → Fr (inM 999999 LX11_doubled_f) S S' := by
  intro k
  induction k with
  | zero =>
    intro v1 v2 v3 v4 S hf
    cases hf
  | succ k ih =>
    intro v1 v2 v3 v4 S hf
    unfold fX11_doubled_14 at hf
    obtain ⟨-, hf⟩ := grd_ex hf
    by_cases hc : (S.1 (shU false) 9) ≤ v4
    · rw [if_pos hc] at hf
      cases hf
      exact (Fr.rfl (inM 999999 LX11_doubled_f) _)
    · rw [if_neg hc] at hf
      obtain ⟨-, hf⟩ := grd_ex hf
      by_cases hc : (v2 + (S.1 35 (mIx ((10 : Int32) + v4)))) = v1
      · rw [if_pos hc] at hf
        obtain ⟨x3, -, hf⟩ := bnd_ex hf
        exact (Fr.rfl (inM 999999 LX11_doubled_f) _).trans (rX11_doubled_49_f ih hf)
      · rw [if_neg hc] at hf
        exact (Fr.rfl (inM 999999 LX11_doubled_f) _).trans (rX11_doubled_49_f ih hf)
theorem rX11_doubled_0_f {S' : mT} {r : Int32} {v1 : Int32} {S : mT} (hf : fX11_doubled false v1 S = some (r, S')) : Fr (inM 999999 LX11_doubled_f) S S' := by
  unfold fX11_doubled at hf
  obtain ⟨-, hf⟩ := grd_ex hf
  obtain ⟨x2, S1, hq, hf⟩ := bndC_ex hf
  have F := (Fr.rfl (inM 999999 LX11_doubled_f) _).trans ((rX11_allBowls_f hq).mono rfl (fun _ => rfl))
  exact F.trans (rX11_doubled_14_f _ _ _ _ _ _ hf)
theorem rX11_doubled_f {v1 : Int32} {S S' : mT} {r : Int32} (hf : fX11_doubled false v1 S = some (r, S')) : Fr (inM 999999 LX11_doubled_f) S S' := rX11_doubled_0_f hf
abbrev LX11_doubled_t : List (Nat × Nat × Option Nat) := [(999999, 999999, none)]
theorem rX11_doubled_49_t {S' : mT} {r : Int32} {rc14 : Int32 → Int32 → Int32 → Int32 → mT → Option (Int32 × mT)} (Hrc14 : ∀ (v1 : Int32) (v2 : Int32) (v3 : Int32) (v4 : Int32) (S : mT), rc14 v1 v2 v3 v4 S = some (r, S') → Fr (inM 999999 LX11_doubled_t) S S') {v1 : Int32} {v2 : Int32} {v3 : Int32} {v4 : Int32} {S : mT} (hf : fX11_doubled_49 true rc14 v1 v2 v3 v4 S = some (r, S')) : Fr (inM 999999 LX11_doubled_t) S S' := by
  unfold fX11_doubled_49 at hf
  obtain ⟨x4, -, hf⟩ := bnd_ex hf
  exact (Fr.rfl (inM 999999 LX11_doubled_t) _).trans (Hrc14 _ _ _ _ _ hf)
theorem rX11_doubled_14_t {S' : mT} {r : Int32} : ∀ (k : Nat) (v1 : Int32) (v2 : Int32) (v3 : Int32) (v4 : Int32) (S : mT), fX11_doubled_14 true k v1 v2 v3 v4 S = some (r, S') → Fr (inM 999999 LX11_doubled_t) S S' := by
  intro k
  induction k with
  | zero =>
    intro v1 v2 v3 v4 S hf
    cases hf
  | succ k ih =>
    intro v1 v2 v3 v4 S hf
    unfold fX11_doubled_14 at hf
    obtain ⟨-, hf⟩ := grd_ex hf
    by_cases hc : (S.1 (shU true) 9) ≤ v4
    · rw [if_pos hc] at hf
      cases hf
      exact (Fr.rfl (inM 999999 LX11_doubled_t) _)
    · rw [if_neg hc] at hf
      obtain ⟨-, hf⟩ := grd_ex hf
      by_cases hc : (v2 + (S.1 35 (mIx ((10 : Int32) + v4)))) = v1
      · rw [if_pos hc] at hf
        obtain ⟨x3, -, hf⟩ := bnd_ex hf
        exact (Fr.rfl (inM 999999 LX11_doubled_t) _).trans (rX11_doubled_49_t ih hf)
      · rw [if_neg hc] at hf
        exact (Fr.rfl (inM 999999 LX11_doubled_t) _).trans (rX11_doubled_49_t ih hf)
theorem rX11_doubled_0_t {S' : mT} {r : Int32} {v1 : Int32} {S : mT} (hf : fX11_doubled true v1 S = some (r, S')) : Fr (inM 999999 LX11_doubled_t) S S' := by
  unfold fX11_doubled at hf
  obtain ⟨-, hf⟩ := grd_ex hf
  obtain ⟨x2, S1, hq, hf⟩ := bndC_ex hf
  have F := (Fr.rfl (inM 999999 LX11_doubled_t) _).trans ((rX11_allBowls_t hq).mono rfl (fun _ => rfl))
  exact F.trans (rX11_doubled_14_t _ _ _ _ _ _ hf)
theorem rX11_doubled_t {v1 : Int32} {S S' : mT} {r : Int32} (hf : fX11_doubled true v1 S = some (r, S')) : Fr (inM 999999 LX11_doubled_t) S S' := rX11_doubled_0_t hf
end GF
