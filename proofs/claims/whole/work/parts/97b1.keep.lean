/-! PROVINCE: the place of the fault stays while there is no fault. -/
def qOk (a k : Nat) : Bool := !(Nat.beq a 187 && (Nat.beq k 2 || Nat.beq k 3))
def Qf (S S' : mT) : Prop := S'.1 187 2 = 0 → S.1 187 2 = 0 ∧ S'.1 187 3 = S.1 187 3
theorem Qf.rfl (S : mT) : Qf S S := fun h => ⟨h, Eq.refl _⟩
theorem Qf.trans {S S1 S2 : mT} (h : Qf S S1) (h2 : Qf S1 S2) : Qf S S2 := fun e => ⟨(h (h2 e).1).1, (h2 e).2.trans (h (h2 e).1).2⟩
theorem Qf.fr {M : Nat → Nat → Bool} {S S' : mT} (h : Fr M S S') (h1 : M 187 2 = false) (h2 : M 187 3 = false) : Qf S S' := fun e => ⟨by rw [← (h 187 2 h1).1]; exact e, (h 187 3 h2).1⟩
theorem Qf.ne {a k : Nat} (h : qOk a k = true) : ¬ (a = 187 ∧ (k = 2 ∨ k = 3)) := fun ⟨e1, e2⟩ => by
  subst e1
  rcases e2 with e2 | e2 <;> subst e2 <;> cases h
theorem Qf.sI {S S1 : mT} (h : Qf S S1) {a k : Nat} {v : Int32} (hm : qOk a k = true) : Qf S (sI S1 a k v) := by
  have n := Qf.ne hm
  refine h.trans fun e => ?_
  rw [sI_ne (by omega)] at e
  exact ⟨e, sI_ne (by omega)⟩
theorem Qf.sJ {S S1 : mT} (h : Qf S S1) {a k : Nat} {v : Int64} (_hm : qOk a k = true) : Qf S (sJ S1 a k v) := h.trans fun e => ⟨e, Eq.refl _⟩
theorem wX12_wrong {v1 : Int32} {S S' : mT} (hv : ¬ v1 = 0) (hf : fX12_wrong v1 S = some S') : Qf S S' := by
  have key : ∀ {s0 : Int32} {S S' : mT}, ¬ s0 = 0 → fX12_wrong_22 s0 S = some S' → Qf S S' := by
    intro s0 S S' hs hf
    unfold fX12_wrong_22 at hf
    obtain ⟨-, hf⟩ := grd_ex hf
    obtain ⟨S1, e1, hf⟩ := bnd_ex hf
    obtain ⟨-, hf⟩ := grd_ex hf
    obtain ⟨S2, e2, hf⟩ := bnd_ex hf
    cases hf
    intro e
    rw [e2, sI_ne (by omega), e1, sI_eq] at e
    exact absurd e hs
  unfold fX12_wrong at hf
  obtain ⟨-, hf⟩ := grd_ex hf
  by_cases hc : (S.1 187 2) ≤ 0
  · rw [if_pos hc] at hf
    obtain ⟨-, hf⟩ := grd_ex hf
    by_cases hc : (S.1 187 6) = (3 : Int32)
    · rw [if_pos hc] at hf
      exact key (by decide) hf
    · rw [if_neg hc] at hf
      exact key hv hf
  · rw [if_neg hc] at hf
    cases hf
    exact Qf.rfl _
theorem wX12_unit_44 {S' : mT} {rc2 : Int32 → mT → Option (mT)} (Hrc2 : ∀ (v1 : Int32) (S : mT), rc2 v1 S = some S' → Qf S S') {v1 : Int32} {S : mT} (hf : fX12_unit_44 rc2 v1 S = some S') : Qf S S' := by
  unfold fX12_unit_44 at hf
  obtain ⟨S10, hq, hf⟩ := bndV_ex hf
  have F := (Qf.rfl _).trans (Qf.fr (rX12_openUp hq) rfl rfl)
  exact F.trans (Hrc2 _ _ hf)
theorem wX12_unit_83 {S' : mT} {rc2 : Int32 → mT → Option (mT)} (Hrc2 : ∀ (v1 : Int32) (S : mT), rc2 v1 S = some S' → Qf S S') {v1 : Int32} {S : mT} (hf : fX12_unit_83 rc2 v1 S = some S') : Qf S S' := by
  unfold fX12_unit_83 at hf
  obtain ⟨S14, hq, hf⟩ := bndV_ex hf
  have F := (Qf.rfl _).trans (Qf.fr (rX12_countUnit hq) rfl rfl)
  obtain ⟨S15, hq, hf⟩ := bndV_ex hf
  have F := F.trans (Qf.fr (rX12_openUp hq) rfl rfl)
  exact F.trans (Hrc2 _ _ hf)
theorem wX12_unit_78 {S' : mT} {rc2 : Int32 → mT → Option (mT)} (Hrc2 : ∀ (v1 : Int32) (S : mT), rc2 v1 S = some S' → Qf S S') {v1 : Int32} {S : mT} (hf : fX12_unit_78 rc2 v1 S = some S') : Qf S S' := by
  unfold fX12_unit_78 at hf
  obtain ⟨S16, hq, hf⟩ := bndV_ex hf
  have F := (Qf.rfl _).trans (wX12_wrong (by decide) hq)
  exact F.trans (wX12_unit_83 Hrc2 hf)
theorem wX12_unit_53 {S' : mT} {rc2 : Int32 → mT → Option (mT)} (Hrc2 : ∀ (v1 : Int32) (S : mT), rc2 v1 S = some S' → Qf S S') {v1 : Int32} {S : mT} (hf : fX12_unit_53 rc2 v1 S = some S') : Qf S S' := by
  unfold fX12_unit_53 at hf
  obtain ⟨-, hf⟩ := grd_ex hf
  by_cases hc : (S.1 187 6) = (40 : Int32)
  · rw [if_pos hc] at hf
    obtain ⟨x9, S8, hq, hf⟩ := bndC_ex hf
    have F := (Qf.rfl _).trans (Qf.fr (rX12_isFull hq) rfl rfl)
    by_cases hc : x9 = 0
    · rw [if_pos hc] at hf
      obtain ⟨-, hf⟩ := grd_ex hf
      by_cases hc : (S8.1 187 26) ≤ (6 : Int32)
      · rw [if_pos hc] at hf
        exact F.trans (wX12_unit_83 Hrc2 hf)
      · rw [if_neg hc] at hf
        exact F.trans (wX12_unit_78 Hrc2 hf)
    · rw [if_neg hc] at hf
      exact F.trans (wX12_unit_78 Hrc2 hf)
  · rw [if_neg hc] at hf
    exact (Qf.rfl _).trans (Hrc2 _ _ hf)
theorem wX12_unit_172 {S' : mT} {s0 : Int32} {s1 : Int32} {S : mT} (hf : fX12_unit_172 s0 s1 S = some S') : Qf S S' := by
  unfold fX12_unit_172 at hf
  obtain ⟨S18, hq, hf⟩ := bndV_ex hf
  have F := (Qf.rfl _).trans (Qf.fr (rX12_add hq) rfl rfl)
  obtain ⟨S19, hq, hf⟩ := bndV_ex hf
  have F := F.trans (Qf.fr (rX12_token hq) rfl rfl)
  cases hf
  exact F
theorem wX12_unit_160 {S' : mT} {v2 : Int32} {s0 : Int32} {S : mT} (hf : fX12_unit_160 v2 s0 S = some S') : Qf S S' := by
  unfold fX12_unit_160 at hf
  by_cases hc : 0 ≤ v2
  · rw [if_pos hc] at hf
    exact (Qf.rfl _).trans (wX12_unit_172 hf)
  · rw [if_neg hc] at hf
    obtain ⟨-, hf⟩ := grd_ex hf
    exact (Qf.rfl _).trans (wX12_unit_172 hf)
theorem wX12_unit_138 {S' : mT} {v2 : Int32} {S : mT} (hf : fX12_unit_138 v2 S = some S') : Qf S S' := by
  unfold fX12_unit_138 at hf
  obtain ⟨-, hf⟩ := grd_ex hf
  by_cases hc : (S.1 187 2) ≤ 0
  · rw [if_pos hc] at hf
    obtain ⟨S17, hq, hf⟩ := bndV_ex hf
    have F := (Qf.rfl _).trans (Qf.fr (rX12_countUnit hq) rfl rfl)
    by_cases hc : 0 ≤ v2
    · rw [if_pos hc] at hf
      exact F.trans (wX12_unit_160 hf)
    · rw [if_neg hc] at hf
      exact F.trans (wX12_unit_160 hf)
  · rw [if_neg hc] at hf
    cases hf
    exact (Qf.rfl _)
theorem wX12_unit_133 {S' : mT} {v2 : Int32} {S : mT} (hf : fX12_unit_133 v2 S = some S') : Qf S S' := by
  unfold fX12_unit_133 at hf
  obtain ⟨S13, hq, hf⟩ := bndV_ex hf
  have F := (Qf.rfl _).trans (wX12_wrong (by decide) hq)
  exact F.trans (wX12_unit_138 hf)
theorem wX12_unit_126 {S' : mT} {v2 : Int32} {S : mT} (hf : fX12_unit_126 v2 S = some S') : Qf S S' := by
  unfold fX12_unit_126 at hf
  obtain ⟨x12, S11, hq, hf⟩ := bndC_ex hf
  have F := (Qf.rfl _).trans (Qf.fr (rX12_isFull hq) rfl rfl)
  by_cases hc : x12 = 0
  · rw [if_pos hc] at hf
    exact F.trans (wX12_unit_138 hf)
  · rw [if_neg hc] at hf
    exact F.trans (wX12_unit_133 hf)
theorem wX12_unit_101 {S' : mT} {S : mT} (hf : fX12_unit_101 S = some S') : Qf S S' := by
  unfold fX12_unit_101 at hf
  obtain ⟨-, hf⟩ := grd_ex hf
  by_cases hc : (S.1 187 2) ≤ 0
  · rw [if_pos hc] at hf
    obtain ⟨x7, S6, hq, hf⟩ := bndC_ex hf
    have F := (Qf.rfl _).trans (Qf.fr (rX12_asked hq) rfl rfl)
    obtain ⟨-, hf⟩ := grd_ex hf
    by_cases hc : (S6.1 187 6) = (2 : Int32)
    · rw [if_pos hc] at hf
      exact F.trans (wX12_unit_126 hf)
    · rw [if_neg hc] at hf
      by_cases hc : x7 < 0
      · rw [if_pos hc] at hf
        exact F.trans (wX12_unit_133 hf)
      · rw [if_neg hc] at hf
        exact F.trans (wX12_unit_126 hf)
  · rw [if_neg hc] at hf
    cases hf
    exact (Qf.rfl _)
theorem wX12_unit_2 {S' : mT} : ∀ (k : Nat) (v1 : Int32) (S : mT), fX12_unit_2 k v1 S = some S' → Qf S S' := by
  intro k
  induction k with
  | zero =>
    intro v1 S hf
    cases hf
  | succ k ih =>
    intro v1 S hf
    unfold fX12_unit_2 at hf
    by_cases hc : v1 = 0
    · rw [if_pos hc] at hf
      exact (Qf.rfl _).trans (wX12_unit_101 hf)
    · rw [if_neg hc] at hf
      obtain ⟨-, hf⟩ := grd_ex hf
      by_cases hc : (S.1 187 2) = 0
      · rw [if_pos hc] at hf
        obtain ⟨x2, S1, hq, hf⟩ := bndC_ex hf
        have F := (Qf.rfl _).trans (Qf.fr (rX12_isWord hq) rfl rfl)
        by_cases hc : x2 = 0
        · rw [if_pos hc] at hf
          exact F.trans (wX12_unit_53 ih hf)
        · rw [if_neg hc] at hf
          obtain ⟨x4, S3, hq, hf⟩ := bndC_ex hf
          have F := F.trans (Qf.fr (rX12_mayNot hq) rfl rfl)
          by_cases hc : x4 = 0
          · rw [if_pos hc] at hf
            exact F.trans (wX12_unit_53 ih hf)
          · rw [if_neg hc] at hf
            obtain ⟨-, hf⟩ := grd_ex hf
            by_cases hc : (S3.1 187 26) ≤ (6 : Int32)
            · rw [if_pos hc] at hf
              exact F.trans (wX12_unit_44 ih hf)
            · rw [if_neg hc] at hf
              obtain ⟨S5, hq, hf⟩ := bndV_ex hf
              have F := F.trans (wX12_wrong (by decide) hq)
              exact F.trans (wX12_unit_44 ih hf)
      · rw [if_neg hc] at hf
        exact (Qf.rfl _).trans (wX12_unit_101 hf)
theorem wX12_unit_0 {S' : mT} {S : mT} (hf : fX12_unit S = some S') : Qf S S' := by
  unfold fX12_unit at hf
  exact (Qf.rfl _).trans (wX12_unit_2 _ _ _ hf)
theorem wX12_unit {S S' : mT} (hf : fX12_unit S = some S') : Qf S S' := wX12_unit_0 hf
theorem wX12_formula_174 {S' : mT} {rc50 : Int32 → mT → Option (mT)} (Hrc50 : ∀ (v2 : Int32) (S : mT), rc50 v2 S = some S' → Qf S S') {v2 : Int32} {S : mT} (hf : fX12_formula_174 rc50 v2 S = some S') : Qf S S' := by
  unfold fX12_formula_174 at hf
  exact (Qf.rfl _).trans (Hrc50 _ _ hf)
theorem wX12_formula_133 {S' : mT} {rc50 : Int32 → mT → Option (mT)} (Hrc50 : ∀ (v2 : Int32) (S : mT), rc50 v2 S = some S' → Qf S S') {v2 : Int32} {v3 : Int32} {S : mT} (hf : fX12_formula_133 rc50 v2 v3 S = some S') : Qf S S' := by
  unfold fX12_formula_133 at hf
  obtain ⟨x26, S25, hq, hf⟩ := bndC_ex hf
  have F := (Qf.rfl _).trans (Qf.fr (rX12_tight hq) rfl rfl)
  obtain ⟨S27, hq, hf⟩ := bndV_ex hf
  have F := F.trans (Qf.fr (rX12_close hq) rfl rfl)
  obtain ⟨-, hf⟩ := grd_ex hf
  obtain ⟨S28, eS28, hf⟩ := bnd_ex hf
  have F : Qf S S28 := by
    rw [eS28]
    exact Qf.sI F rfl
  obtain ⟨-, hf⟩ := grd_ex hf
  obtain ⟨S29, eS29, hf⟩ := bnd_ex hf
  have F : Qf S S29 := by
    rw [eS29]
    exact Qf.sI F rfl
  obtain ⟨S30, hq, hf⟩ := bndV_ex hf
  have F := F.trans (Qf.fr (rX12_token hq) rfl rfl)
  obtain ⟨S31, hq, hf⟩ := bndV_ex hf
  have F := F.trans (wX12_unit hq)
  exact F.trans (wX12_formula_174 Hrc50 hf)
theorem wX12_formula_172 {S' : mT} {rc50 : Int32 → mT → Option (mT)} (Hrc50 : ∀ (v2 : Int32) (S : mT), rc50 v2 S = some S' → Qf S S') {S : mT} (hf : fX12_formula_172 rc50 S = some S') : Qf S S' := by
  unfold fX12_formula_172 at hf
  exact (Qf.rfl _).trans (wX12_formula_174 Hrc50 hf)
theorem wX12_formula_114 {S' : mT} {rc50 : Int32 → mT → Option (mT)} (Hrc50 : ∀ (v2 : Int32) (S : mT), rc50 v2 S = some S' → Qf S S') {v2 : Int32} {v3 : Int32} {S : mT} (hf : fX12_formula_114 rc50 v2 v3 S = some S') : Qf S S' := by
  unfold fX12_formula_114 at hf
  by_cases hc : v3 = 0
  · rw [if_pos hc] at hf
    exact (Qf.rfl _).trans (wX12_formula_172 Hrc50 hf)
  · rw [if_neg hc] at hf
    obtain ⟨x21, S20, hq, hf⟩ := bndC_ex hf
    have F := (Qf.rfl _).trans (Qf.fr (rX12_tight hq) rfl rfl)
    by_cases hc : x21 = (4 : Int32)
    · rw [if_pos hc] at hf
      obtain ⟨x23, S22, hq, hf⟩ := bndC_ex hf
      have F := F.trans (Qf.fr (rX12_hasRelation hq) rfl rfl)
      by_cases hc : x23 = 0
      · rw [if_pos hc] at hf
        exact F.trans (wX12_formula_133 Hrc50 hf)
      · rw [if_neg hc] at hf
        exact F.trans (wX12_formula_172 Hrc50 hf)
    · rw [if_neg hc] at hf
      exact F.trans (wX12_formula_133 Hrc50 hf)
theorem wX12_formula_208 {S' : mT} {S : mT} (hf : fX12_formula_208 S = some S') : Qf S S' := by
  unfold fX12_formula_208 at hf
  cases hf
  exact (Qf.rfl _)
theorem wX12_formula_196 {S' : mT} {S : mT} (hf : fX12_formula_196 S = some S') : Qf S S' := by
  unfold fX12_formula_196 at hf
  obtain ⟨-, hf⟩ := grd_ex hf
  by_cases hc : (S.1 187 2) = 0
  · rw [if_pos hc] at hf
    obtain ⟨S24, hq, hf⟩ := bndV_ex hf
    have F := (Qf.rfl _).trans (Qf.fr (rX12_close hq) rfl rfl)
    exact F.trans (wX12_formula_208 hf)
  · rw [if_neg hc] at hf
    exact (Qf.rfl _).trans (wX12_formula_208 hf)
theorem wX12_formula_177 {S' : mT} {S : mT} (hf : fX12_formula_177 S = some S') : Qf S S' := by
  unfold fX12_formula_177 at hf
  obtain ⟨-, hf⟩ := grd_ex hf
  by_cases hc : (S.1 187 2) = 0
  · rw [if_pos hc] at hf
    obtain ⟨x18, S17, hq, hf⟩ := bndC_ex hf
    have F := (Qf.rfl _).trans (Qf.fr (rX12_hasBracket hq) rfl rfl)
    by_cases hc : x18 = 0
    · rw [if_pos hc] at hf
      exact F.trans (wX12_formula_196 hf)
    · rw [if_neg hc] at hf
      obtain ⟨S19, hq, hf⟩ := bndV_ex hf
      have F := F.trans (wX12_wrong (by decide) hq)
      exact F.trans (wX12_formula_196 hf)
  · rw [if_neg hc] at hf
    exact (Qf.rfl _).trans (wX12_formula_196 hf)
theorem wX12_formula_50 {S' : mT} : ∀ (k : Nat) (v2 : Int32) (S : mT), fX12_formula_50 k v2 S = some S' → Qf S S' := by
  intro k
  induction k with
  | zero =>
    intro v2 S hf
    cases hf
  | succ k ih =>
    intro v2 S hf
    unfold fX12_formula_50 at hf
    by_cases hc : v2 = 0
    · rw [if_pos hc] at hf
      exact (Qf.rfl _).trans (wX12_formula_177 hf)
    · rw [if_neg hc] at hf
      obtain ⟨-, hf⟩ := grd_ex hf
      by_cases hc : (S.1 187 2) = 0
      · rw [if_pos hc] at hf
        obtain ⟨x10, S9, hq, hf⟩ := bndC_ex hf
        have F := (Qf.rfl _).trans (Qf.fr (rX12_sign hq) rfl rfl)
        obtain ⟨-, hf⟩ := grd_ex hf
        by_cases hc : (S9.1 187 6) = (41 : Int32)
        · rw [if_pos hc] at hf
          obtain ⟨x12, S11, hq, hf⟩ := bndC_ex hf
          have F := F.trans (Qf.fr (rX12_hasBracket hq) rfl rfl)
          by_cases hc : x12 = 0
          · rw [if_pos hc] at hf
            exact F.trans (wX12_formula_114 ih hf)
          · rw [if_neg hc] at hf
            obtain ⟨S13, hq, hf⟩ := bndV_ex hf
            have F := F.trans (Qf.fr (rX12_close hq) rfl rfl)
            obtain ⟨-, hf⟩ := grd_ex hf
            obtain ⟨S14, eS14, hf⟩ := bnd_ex hf
            have F : Qf S S14 := by
              rw [eS14]
              exact Qf.sI F rfl
            obtain ⟨-, hf⟩ := grd_ex hf
            obtain ⟨S15, eS15, hf⟩ := bnd_ex hf
            have F : Qf S S15 := by
              rw [eS15]
              exact Qf.sI F rfl
            obtain ⟨S16, hq, hf⟩ := bndV_ex hf
            have F := F.trans (Qf.fr (rX12_token hq) rfl rfl)
            exact F.trans (wX12_formula_174 ih hf)
        · rw [if_neg hc] at hf
          exact F.trans (wX12_formula_114 ih hf)
      · rw [if_neg hc] at hf
        exact (Qf.rfl _).trans (wX12_formula_177 hf)
theorem wX12_formula_0 {S' : mT} {v1 : Int32} {S : mT} (hf : fX12_formula v1 S = some S') : Qf S S' := by
  unfold fX12_formula at hf
  obtain ⟨S1, hq, hf⟩ := bndV_ex hf
  have F := (Qf.rfl _).trans (Qf.fr (rX12_token hq) rfl rfl)
  obtain ⟨-, hf⟩ := grd_ex hf
  obtain ⟨S2, eS2, hf⟩ := bnd_ex hf
  have F : Qf S S2 := by
    rw [eS2]
    exact Qf.sI F rfl
  obtain ⟨-, hf⟩ := grd_ex hf
  obtain ⟨S3, eS3, hf⟩ := bnd_ex hf
  have F : Qf S S3 := by
    rw [eS3]
    exact Qf.sI F rfl
  obtain ⟨-, hf⟩ := grd_ex hf
  obtain ⟨S4, eS4, hf⟩ := bnd_ex hf
  have F : Qf S S4 := by
    rw [eS4]
    exact Qf.sI F rfl
  obtain ⟨-, hf⟩ := grd_ex hf
  obtain ⟨S5, eS5, hf⟩ := bnd_ex hf
  have F : Qf S S5 := by
    rw [eS5]
    exact Qf.sI F rfl
  obtain ⟨-, hf⟩ := grd_ex hf
  obtain ⟨S6, eS6, hf⟩ := bnd_ex hf
  have F : Qf S S6 := by
    rw [eS6]
    exact Qf.sI F rfl
  obtain ⟨-, hf⟩ := grd_ex hf
  obtain ⟨S7, eS7, hf⟩ := bnd_ex hf
  have F : Qf S S7 := by
    rw [eS7]
    exact Qf.sI F rfl
  obtain ⟨S8, hq, hf⟩ := bndV_ex hf
  have F := F.trans (wX12_unit hq)
  exact F.trans (wX12_formula_50 _ _ _ hf)
theorem wX12_formula {v1 : Int32} {S S' : mT} (hf : fX12_formula v1 S = some S') : Qf S S' := wX12_formula_0 hf
theorem wX12_toldNumber_62 {S' : mT} {r : Int32} {v3 : Int32} {S : mT} (hf : fX12_toldNumber_62 v3 S = some (r, S')) : Qf S S' := by
  unfold fX12_toldNumber_62 at hf
  cases hf
  exact (Qf.rfl _)
theorem wX12_toldNumber_46 {S' : mT} {r : Int32} {S : mT} (hf : fX12_toldNumber_46 S = some (r, S')) : Qf S S' := by
  unfold fX12_toldNumber_46 at hf
  obtain ⟨-, hf⟩ := grd_ex hf
  obtain ⟨x3, -, hf⟩ := bnd_ex hf
  obtain ⟨-, hf⟩ := grd_ex hf
  by_cases hc : (S.1 187 2) = 0
  · rw [if_pos hc] at hf
    obtain ⟨S4, hq, hf⟩ := bndV_ex hf
    have F := (Qf.rfl _).trans (Qf.fr (rX12_token hq) rfl rfl)
    exact F.trans (wX12_toldNumber_62 hf)
  · rw [if_neg hc] at hf
    exact (Qf.rfl _).trans (wX12_toldNumber_62 hf)
theorem wX12_toldNumber_41 {S' : mT} {r : Int32} {S : mT} (hf : fX12_toldNumber_41 S = some (r, S')) : Qf S S' := by
  unfold fX12_toldNumber_41 at hf
  obtain ⟨S2, hq, hf⟩ := bndV_ex hf
  have F := (Qf.rfl _).trans (wX12_wrong (by decide) hq)
  exact F.trans (wX12_toldNumber_46 hf)
theorem wX12_toldNumber_0 {S' : mT} {r : Int32} {v1 : Int32} {v2 : Int32} {S : mT} (hf : fX12_toldNumber v1 v2 S = some (r, S')) : Qf S S' := by
  unfold fX12_toldNumber at hf
  obtain ⟨-, hf⟩ := grd_ex hf
  by_cases hc : (S.1 187 2) ≤ 0
  · rw [if_pos hc] at hf
    obtain ⟨-, hf⟩ := grd_ex hf
    by_cases hc : (S.1 187 6) = (2 : Int32)
    · rw [if_pos hc] at hf
      obtain ⟨-, hf⟩ := grd_ex hf
      by_cases hc : (S.1 187 8) < v1
      · rw [if_pos hc] at hf
        exact (Qf.rfl _).trans (wX12_toldNumber_41 hf)
      · rw [if_neg hc] at hf
        obtain ⟨-, hf⟩ := grd_ex hf
        by_cases hc : (S.1 187 8) ≤ v2
        · rw [if_pos hc] at hf
          exact (Qf.rfl _).trans (wX12_toldNumber_46 hf)
        · rw [if_neg hc] at hf
          exact (Qf.rfl _).trans (wX12_toldNumber_41 hf)
    · rw [if_neg hc] at hf
      obtain ⟨S1, hq, hf⟩ := bndV_ex hf
      have F := (Qf.rfl _).trans (wX12_wrong (by decide) hq)
      exact F.trans (wX12_toldNumber_46 hf)
  · rw [if_neg hc] at hf
    cases hf
    exact (Qf.rfl _)
theorem wX12_toldNumber {v1 : Int32} {v2 : Int32} {S S' : mT} {r : Int32} (hf : fX12_toldNumber v1 v2 S = some (r, S')) : Qf S S' := wX12_toldNumber_0 hf
theorem wX12_want_28 {S' : mT} {S : mT} (hf : fX12_want_28 S = some S') : Qf S S' := by
  unfold fX12_want_28 at hf
  cases hf
  exact (Qf.rfl _)
theorem wX12_want_0 {S' : mT} {v1 : Int64} {S : mT} (hf : fX12_want v1 S = some S') : Qf S S' := by
  unfold fX12_want at hf
  obtain ⟨-, hf⟩ := grd_ex hf
  by_cases hc : (S.1 187 2) ≤ 0
  · rw [if_pos hc] at hf
    obtain ⟨x2, S1, hq, hf⟩ := bndC_ex hf
    have F := (Qf.rfl _).trans (Qf.fr (rX12_isWord hq) rfl rfl)
    by_cases hc : x2 = 0
    · rw [if_pos hc] at hf
      obtain ⟨S3, hq, hf⟩ := bndV_ex hf
      have F := F.trans (wX12_wrong (by decide) hq)
      exact F.trans (wX12_want_28 hf)
    · rw [if_neg hc] at hf
      obtain ⟨S4, hq, hf⟩ := bndV_ex hf
      have F := F.trans (Qf.fr (rX12_token hq) rfl rfl)
      exact F.trans (wX12_want_28 hf)
  · rw [if_neg hc] at hf
    cases hf
    exact (Qf.rfl _)
theorem wX12_want {v1 : Int64} {S S' : mT} (hf : fX12_want v1 S = some S') : Qf S S' := wX12_want_0 hf
theorem wX12_told_0 {S' : mT} {r : Int32} {v1 : Int64} {v3 : Int32} {v4 : Int32} {S : mT} (hf : fX12_told v1 v3 v4 S = some (r, S')) : Qf S S' := by
  unfold fX12_told at hf
  obtain ⟨S1, hq, hf⟩ := bndV_ex hf
  have F := (Qf.rfl _).trans (wX12_want hq)
  obtain ⟨x3, S2, hq, hf⟩ := bndC_ex hf
  have F := F.trans (wX12_toldNumber hq)
  cases hf
  exact F
theorem wX12_told {v1 : Int64} {v3 : Int32} {v4 : Int32} {S S' : mT} {r : Int32} (hf : fX12_told v1 v3 v4 S = some (r, S')) : Qf S S' := wX12_told_0 hf
theorem wX12_option_27 {S' : mT} {r : Int32} {s0 : Int32} {S : mT} (hf : fX12_option_27 s0 S = some (r, S')) : Qf S S' := by
  unfold fX12_option_27 at hf
  cases hf
  exact (Qf.rfl _)
theorem wX12_option_26 {S' : mT} {r : Int32} {S : mT} (hf : fX12_option_26 S = some (r, S')) : Qf S S' := by
  unfold fX12_option_26 at hf
  exact (Qf.rfl _).trans (wX12_option_27 hf)
theorem wX12_option_0 {S' : mT} {r : Int32} {v1 : Int64} {S : mT} (hf : fX12_option v1 S = some (r, S')) : Qf S S' := by
  unfold fX12_option at hf
  obtain ⟨-, hf⟩ := grd_ex hf
  by_cases hc : (S.1 187 2) = 0
  · rw [if_pos hc] at hf
    obtain ⟨x2, S1, hq, hf⟩ := bndC_ex hf
    have F := (Qf.rfl _).trans (Qf.fr (rX12_isWord hq) rfl rfl)
    by_cases hc : x2 = 0
    · rw [if_pos hc] at hf
      exact F.trans (wX12_option_26 hf)
    · rw [if_neg hc] at hf
      obtain ⟨x4, S3, hq, hf⟩ := bndC_ex hf
      have F := F.trans (wX12_told hq)
      exact F.trans (wX12_option_27 hf)
  · rw [if_neg hc] at hf
    exact (Qf.rfl _).trans (wX12_option_26 hf)
theorem wX12_option {v1 : Int64} {S S' : mT} {r : Int32} (hf : fX12_option v1 S = some (r, S')) : Qf S S' := wX12_option_0 hf
theorem wX12_readHouse_133 {S' : mT} {S : mT} (hf : fX12_readHouse_133 S = some S') : Qf S S' := by
  unfold fX12_readHouse_133 at hf
  cases hf
  exact (Qf.rfl _)
theorem wX12_readHouse_31 {S' : mT} {S : mT} (hf : fX12_readHouse_31 S = some S') : Qf S S' := by
  unfold fX12_readHouse_31 at hf
  obtain ⟨-, hf⟩ := grd_ex hf
  by_cases hc : (S.1 187 2) ≤ 0
  · rw [if_pos hc] at hf
    obtain ⟨-, hf⟩ := grd_ex hf
    obtain ⟨x8, -, hf⟩ := bnd_ex hf
    obtain ⟨-, hf⟩ := grd_ex hf
    obtain ⟨S9, eS9, hf⟩ := bnd_ex hf
    have F : Qf S S9 := by
      rw [eS9]
      exact Qf.sJ (Qf.rfl _) rfl
    obtain ⟨S10, hq, hf⟩ := bndV_ex hf
    have F := F.trans (Qf.fr (rX12_token hq) rfl rfl)
    obtain ⟨-, hf⟩ := grd_ex hf
    obtain ⟨x12, S11, hq, hf⟩ := bndC_ex hf
    have F := F.trans (wX12_told hq)
    obtain ⟨-, hf⟩ := grd_ex hf
    obtain ⟨S13, eS13, hf⟩ := bnd_ex hf
    have F : Qf S S13 := by
      rw [eS13]
      exact Qf.sI F rfl
    obtain ⟨-, hf⟩ := grd_ex hf
    obtain ⟨x15, S14, hq, hf⟩ := bndC_ex hf
    have F := F.trans (wX12_told hq)
    obtain ⟨-, hf⟩ := grd_ex hf
    obtain ⟨S16, eS16, hf⟩ := bnd_ex hf
    have F : Qf S S16 := by
      rw [eS16]
      exact Qf.sI F rfl
    obtain ⟨-, hf⟩ := grd_ex hf
    obtain ⟨x18, S17, hq, hf⟩ := bndC_ex hf
    have F := F.trans (wX12_option hq)
    obtain ⟨-, hf⟩ := grd_ex hf
    obtain ⟨S19, eS19, hf⟩ := bnd_ex hf
    have F : Qf S S19 := by
      rw [eS19]
      exact Qf.sI F rfl
    obtain ⟨-, hf⟩ := grd_ex hf
    obtain ⟨x21, S20, hq, hf⟩ := bndC_ex hf
    have F := F.trans (wX12_option hq)
    obtain ⟨-, hf⟩ := grd_ex hf
    obtain ⟨S22, eS22, hf⟩ := bnd_ex hf
    have F : Qf S S22 := by
      rw [eS22]
      exact Qf.sI F rfl
    obtain ⟨-, hf⟩ := grd_ex hf
    by_cases hc : (S22.1 187 2) = 0
    · rw [if_pos hc] at hf
      obtain ⟨-, hf⟩ := grd_ex hf
      obtain ⟨S23, eS23, hf⟩ := bnd_ex hf
      have F : Qf S S23 := by
        rw [eS23]
        exact Qf.sI F rfl
      exact F.trans (wX12_readHouse_133 hf)
    · rw [if_neg hc] at hf
      exact F.trans (wX12_readHouse_133 hf)
  · rw [if_neg hc] at hf
    cases hf
    exact (Qf.rfl _)
theorem wX12_readHouse_0 {S' : mT} {S : mT} (hf : fX12_readHouse S = some S') : Qf S S' := by
  unfold fX12_readHouse at hf
  obtain ⟨S1, hq, hf⟩ := bndV_ex hf
  have F := (Qf.rfl _).trans (Qf.fr (rX12_token hq) rfl rfl)
  obtain ⟨x3, S2, hq, hf⟩ := bndC_ex hf
  have F := F.trans (Qf.fr (rX12_isName hq) rfl rfl)
  by_cases hc : x3 = 0
  · rw [if_pos hc] at hf
    obtain ⟨S4, hq, hf⟩ := bndV_ex hf
    have F := F.trans (wX12_wrong (by decide) hq)
    exact F.trans (wX12_readHouse_31 hf)
  · rw [if_neg hc] at hf
    obtain ⟨x6, S5, hq, hf⟩ := bndC_ex hf
    have F := F.trans (Qf.fr (rX12_find hq) rfl rfl)
    by_cases hc : x6 < 0
    · rw [if_pos hc] at hf
      exact F.trans (wX12_readHouse_31 hf)
    · rw [if_neg hc] at hf
      obtain ⟨S7, hq, hf⟩ := bndV_ex hf
      have F := F.trans (wX12_wrong (by decide) hq)
      exact F.trans (wX12_readHouse_31 hf)
theorem wX12_readHouse {S S' : mT} (hf : fX12_readHouse S = some S') : Qf S S' := wX12_readHouse_0 hf
theorem wX12_readLine_183 {S' : mT} {S : mT} (hf : fX12_readLine_183 S = some S') : Qf S S' := by
  unfold fX12_readLine_183 at hf
  cases hf
  exact (Qf.rfl _)
theorem wX12_readLine_172 {S' : mT} {S : mT} (hf : fX12_readLine_172 S = some S') : Qf S S' := by
  unfold fX12_readLine_172 at hf
  obtain ⟨-, hf⟩ := grd_ex hf
  by_cases hc : (S.1 187 2) = 0
  · rw [if_pos hc] at hf
    obtain ⟨S11, hq, hf⟩ := bndV_ex hf
    have F := (Qf.rfl _).trans (Qf.fr (rX12_token hq) rfl rfl)
    exact F.trans (wX12_readLine_183 hf)
  · rw [if_neg hc] at hf
    exact (Qf.rfl _).trans (wX12_readLine_183 hf)
theorem wX12_readLine_151 {S' : mT} {S : mT} (hf : fX12_readLine_151 S = some S') : Qf S S' := by
  unfold fX12_readLine_151 at hf
  obtain ⟨-, hf⟩ := grd_ex hf
  by_cases hc : (S.1 187 2) = 0
  · rw [if_pos hc] at hf
    obtain ⟨-, hf⟩ := grd_ex hf
    by_cases hc : (S.1 187 6) = (59 : Int32)
    · rw [if_pos hc] at hf
      exact (Qf.rfl _).trans (wX12_readLine_172 hf)
    · rw [if_neg hc] at hf
      obtain ⟨S7, hq, hf⟩ := bndV_ex hf
      have F := (Qf.rfl _).trans (wX12_wrong (by decide) hq)
      exact F.trans (wX12_readLine_172 hf)
  · rw [if_neg hc] at hf
    exact (Qf.rfl _).trans (wX12_readLine_172 hf)
theorem wX12_readLine_146 {S' : mT} {S : mT} (hf : fX12_readLine_146 S = some S') : Qf S S' := by
  unfold fX12_readLine_146 at hf
  obtain ⟨S21, hq, hf⟩ := bndV_ex hf
  have F := (Qf.rfl _).trans (wX12_wrong (by decide) hq)
  exact F.trans (wX12_readLine_151 hf)
theorem wX12_readLine_106 {S' : mT} {S : mT} (hf : fX12_readLine_106 S = some S') : Qf S S' := by
  unfold fX12_readLine_106 at hf
  obtain ⟨x16, S15, hq, hf⟩ := bndC_ex hf
  have F := (Qf.rfl _).trans (Qf.fr (rX12_isWord hq) rfl rfl)
  by_cases hc : x16 = 0
  · rw [if_pos hc] at hf
    exact F.trans (wX12_readLine_146 hf)
  · rw [if_neg hc] at hf
    obtain ⟨-, hf⟩ := grd_ex hf
    by_cases hc : (S15.1 187 38) = 0
    · rw [if_pos hc] at hf
      obtain ⟨-, hf⟩ := grd_ex hf
      obtain ⟨S17, eS17, hf⟩ := bnd_ex hf
      have F : Qf S S17 := by
        rw [eS17]
        exact Qf.sI F rfl
      obtain ⟨x19, S18, hq, hf⟩ := bndC_ex hf
      have F := F.trans (wX12_told hq)
      obtain ⟨-, hf⟩ := grd_ex hf
      obtain ⟨S20, eS20, hf⟩ := bnd_ex hf
      have F : Qf S S20 := by
        rw [eS20]
        exact Qf.sI F rfl
      exact F.trans (wX12_readLine_151 hf)
    · rw [if_neg hc] at hf
      exact F.trans (wX12_readLine_146 hf)
theorem wX12_readLine_79 {S' : mT} {S : mT} (hf : fX12_readLine_79 S = some S') : Qf S S' := by
  unfold fX12_readLine_79 at hf
  obtain ⟨x13, S12, hq, hf⟩ := bndC_ex hf
  have F := (Qf.rfl _).trans (Qf.fr (rX12_isWord hq) rfl rfl)
  by_cases hc : x13 = 0
  · rw [if_pos hc] at hf
    exact F.trans (wX12_readLine_106 hf)
  · rw [if_neg hc] at hf
    obtain ⟨-, hf⟩ := grd_ex hf
    by_cases hc : (S12.1 198 (mIx (2 : Int32))) = 0
    · rw [if_pos hc] at hf
      obtain ⟨S14, hq, hf⟩ := bndV_ex hf
      have F := F.trans (wX12_formula hq)
      exact F.trans (wX12_readLine_151 hf)
    · rw [if_neg hc] at hf
      exact F.trans (wX12_readLine_106 hf)
theorem wX12_readLine_52 {S' : mT} {S : mT} (hf : fX12_readLine_52 S = some S') : Qf S S' := by
  unfold fX12_readLine_52 at hf
  obtain ⟨x9, S8, hq, hf⟩ := bndC_ex hf
  have F := (Qf.rfl _).trans (Qf.fr (rX12_isWord hq) rfl rfl)
  by_cases hc : x9 = 0
  · rw [if_pos hc] at hf
    exact F.trans (wX12_readLine_79 hf)
  · rw [if_neg hc] at hf
    obtain ⟨-, hf⟩ := grd_ex hf
    by_cases hc : (S8.1 198 (mIx (1 : Int32))) = 0
    · rw [if_pos hc] at hf
      obtain ⟨S10, hq, hf⟩ := bndV_ex hf
      have F := F.trans (wX12_formula hq)
      exact F.trans (wX12_readLine_151 hf)
    · rw [if_neg hc] at hf
      exact F.trans (wX12_readLine_79 hf)
theorem wX12_readLine_25 {S' : mT} {S : mT} (hf : fX12_readLine_25 S = some S') : Qf S S' := by
  unfold fX12_readLine_25 at hf
  obtain ⟨x5, S4, hq, hf⟩ := bndC_ex hf
  have F := (Qf.rfl _).trans (Qf.fr (rX12_isWord hq) rfl rfl)
  by_cases hc : x5 = 0
  · rw [if_pos hc] at hf
    exact F.trans (wX12_readLine_52 hf)
  · rw [if_neg hc] at hf
    obtain ⟨-, hf⟩ := grd_ex hf
    by_cases hc : (S4.1 198 (mIx (0 : Int32))) = 0
    · rw [if_pos hc] at hf
      obtain ⟨S6, hq, hf⟩ := bndV_ex hf
      have F := F.trans (wX12_formula hq)
      exact F.trans (wX12_readLine_151 hf)
    · rw [if_neg hc] at hf
      exact F.trans (wX12_readLine_52 hf)
theorem wX12_readLine_0 {S' : mT} {S : mT} (hf : fX12_readLine S = some S') : Qf S S' := by
  unfold fX12_readLine at hf
  obtain ⟨x2, S1, hq, hf⟩ := bndC_ex hf
  have F := (Qf.rfl _).trans (Qf.fr (rX12_isWord hq) rfl rfl)
  by_cases hc : x2 = 0
  · rw [if_pos hc] at hf
    exact F.trans (wX12_readLine_25 hf)
  · rw [if_neg hc] at hf
    obtain ⟨-, hf⟩ := grd_ex hf
    by_cases hc : (5 : Int32) ≤ (S1.1 187 35)
    · rw [if_pos hc] at hf
      exact F.trans (wX12_readLine_25 hf)
    · rw [if_neg hc] at hf
      obtain ⟨S3, hq, hf⟩ := bndV_ex hf
      have F := F.trans (wX12_readHouse hq)
      exact F.trans (wX12_readLine_151 hf)
theorem wX12_readLine {S S' : mT} (hf : fX12_readLine S = some S') : Qf S S' := wX12_readLine_0 hf
theorem wX12_readAll_93 {S' : mT} {S : mT} (hf : fX12_readAll_93 S = some S') : Qf S S' := by
  unfold fX12_readAll_93 at hf
  cases hf
  exact (Qf.rfl _)
theorem wX12_readAll_72 {S' : mT} : ∀ (k : Nat) (S : mT), fX12_readAll_72 k S = some S' → Qf S S' := by
  intro k
  induction k with
  | zero =>
    intro S hf
    cases hf
  | succ k ih =>
    intro S hf
    unfold fX12_readAll_72 at hf
    obtain ⟨-, hf⟩ := grd_ex hf
    by_cases hc : (S.1 187 2) = 0
    · rw [if_pos hc] at hf
      obtain ⟨-, hf⟩ := grd_ex hf
      by_cases hc : (S.1 187 6) = 0
      · rw [if_pos hc] at hf
        exact (Qf.rfl _).trans (wX12_readAll_93 hf)
      · rw [if_neg hc] at hf
        obtain ⟨S13, hq, hf⟩ := bndV_ex hf
        have F := (Qf.rfl _).trans (wX12_readLine hq)
        exact F.trans (ih _ hf)
    · rw [if_neg hc] at hf
      exact (Qf.rfl _).trans (wX12_readAll_93 hf)
