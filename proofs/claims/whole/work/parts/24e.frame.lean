section GF
abbrev LX12_unit : List (Nat × Nat × Option Nat) := [(999999, 999999, none), (187, 187, some 2), (187, 187, some 3), (187, 187, some 4), (187, 187, some 6), (187, 187, some 7), (187, 187, some 8), (187, 187, some 9), (187, 187, some 22), (187, 187, some 23), (187, 187, some 25), (187, 187, some 26), (190, 190, none), (191, 191, none), (192, 192, none), (196, 196, none)]
theorem rX12_unit_44 {S' : mT} {rc2 : Int32 → mT → Option (mT)} (Hrc2 : ∀ (v1 : Int32) (S : mT), rc2 v1 S = some S' → Fr (inM 999999 LX12_unit) S S') {v1 : Int32} {S : mT} (hf : fX12_unit_44 rc2 v1 S = some S') : Fr (inM 999999 LX12_unit) S S' := by
  unfold fX12_unit_44 at hf
  obtain ⟨S10, hq, hf⟩ := bndV_ex hf
  have F := (Fr.rfl (inM 999999 LX12_unit) _).trans ((rX12_openUp hq).mono rfl (fun _ => rfl))
  exact F.trans (Hrc2 _ _ hf)
theorem rX12_unit_83 {S' : mT} {rc2 : Int32 → mT → Option (mT)} (Hrc2 : ∀ (v1 : Int32) (S : mT), rc2 v1 S = some S' → Fr (inM 999999 LX12_unit) S S') {v1 : Int32} {S : mT} (hf : fX12_unit_83 rc2 v1 S = some S') : Fr (inM 999999 LX12_unit) S S' := by
  unfold fX12_unit_83 at hf
  obtain ⟨S14, hq, hf⟩ := bndV_ex hf
  have F := (Fr.rfl (inM 999999 LX12_unit) _).trans ((rX12_countUnit hq).mono rfl (fun _ => rfl))
  obtain ⟨S15, hq, hf⟩ := bndV_ex hf
  have F := F.trans ((rX12_openUp hq).mono rfl (fun _ => rfl))
  exact F.trans (Hrc2 _ _ hf)
theorem rX12_unit_78 {S' : mT} {rc2 : Int32 → mT → Option (mT)} (Hrc2 : ∀ (v1 : Int32) (S : mT), rc2 v1 S = some S' → Fr (inM 999999 LX12_unit) S S') {v1 : Int32} {S : mT} (hf : fX12_unit_78 rc2 v1 S = some S') : Fr (inM 999999 LX12_unit) S S' := by
  unfold fX12_unit_78 at hf
  obtain ⟨S16, hq, hf⟩ := bndV_ex hf
  have F := (Fr.rfl (inM 999999 LX12_unit) _).trans ((rX12_wrong hq).mono rfl (fun _ => rfl))
  exact F.trans (rX12_unit_83 Hrc2 hf)
theorem rX12_unit_53 {S' : mT} {rc2 : Int32 → mT → Option (mT)} (Hrc2 : ∀ (v1 : Int32) (S : mT), rc2 v1 S = some S' → Fr (inM 999999 LX12_unit) S S') {v1 : Int32} {S : mT} (hf : fX12_unit_53 rc2 v1 S = some S') : Fr (inM 999999 LX12_unit) S S' := by
  unfold fX12_unit_53 at hf
  obtain ⟨-, hf⟩ := grd_ex hf
  by_cases hc : (S.1 187 6) = (40 : Int32)
  · rw [if_pos hc] at hf
    obtain ⟨x9, S8, hq, hf⟩ := bndC_ex hf
    have F := (Fr.rfl (inM 999999 LX12_unit) _).trans ((rX12_isFull hq).mono rfl (fun _ => rfl))
    by_cases hc : x9 = 0
    · rw [if_pos hc] at hf
      obtain ⟨-, hf⟩ := grd_ex hf
      by_cases hc : (S8.1 187 26) ≤ (6 : Int32)
      · rw [if_pos hc] at hf
        exact F.trans (rX12_unit_83 Hrc2 hf)
      · rw [if_neg hc] at hf
        exact F.trans (rX12_unit_78 Hrc2 hf)
    · rw [if_neg hc] at hf
      exact F.trans (rX12_unit_78 Hrc2 hf)
  · rw [if_neg hc] at hf
    exact (Fr.rfl (inM 999999 LX12_unit) _).trans (Hrc2 _ _ hf)
theorem rX12_unit_172 {S' : mT} {s0 : Int32} {s1 : Int32} {S : mT} (hf : fX12_unit_172 s0 s1 S = some S') : Fr (inM 999999 LX12_unit) S S' := by
  unfold fX12_unit_172 at hf
  obtain ⟨S18, hq, hf⟩ := bndV_ex hf
  have F := (Fr.rfl (inM 999999 LX12_unit) _).trans ((rX12_add hq).mono rfl (fun _ => rfl))
  obtain ⟨S19, hq, hf⟩ := bndV_ex hf
  have F := F.trans ((rX12_token hq).mono rfl (fun _ => rfl))
  cases hf
  exact F
theorem rX12_unit_160 {S' : mT} {v2 : Int32} {s0 : Int32} {S : mT} (hf : fX12_unit_160 v2 s0 S = some S') : Fr (inM 999999 LX12_unit) S S' := by
  unfold fX12_unit_160 at hf
  by_cases hc : 0 ≤ v2
  · rw [if_pos hc] at hf
    exact (Fr.rfl (inM 999999 LX12_unit) _).trans (rX12_unit_172 hf)
  · rw [if_neg hc] at hf
    obtain ⟨-, hf⟩ := grd_ex hf
    exact (Fr.rfl (inM 999999 LX12_unit) _).trans (rX12_unit_172 hf)
theorem rX12_unit_138 {S' : mT} {v2 : Int32} {S : mT} (hf : fX12_unit_138 v2 S = some S') : Fr (inM 999999 LX12_unit) S S' := by
  unfold fX12_unit_138 at hf
  obtain ⟨-, hf⟩ := grd_ex hf
  by_cases hc : (S.1 187 2) ≤ 0
  · rw [if_pos hc] at hf
    obtain ⟨S17, hq, hf⟩ := bndV_ex hf
    have F := (Fr.rfl (inM 999999 LX12_unit) _).trans ((rX12_countUnit hq).mono rfl (fun _ => rfl))
    by_cases hc : 0 ≤ v2
    · rw [if_pos hc] at hf
      exact F.trans (rX12_unit_160 hf)
    · rw [if_neg hc] at hf
      exact F.trans (rX12_unit_160 hf)
  · rw [if_neg hc] at hf
    cases hf
    exact (Fr.rfl (inM 999999 LX12_unit) _)
theorem rX12_unit_133 {S' : mT} {v2 : Int32} {S : mT} (hf : fX12_unit_133 v2 S = some S') : Fr (inM 999999 LX12_unit) S S' := by
  unfold fX12_unit_133 at hf
  obtain ⟨S13, hq, hf⟩ := bndV_ex hf
  have F := (Fr.rfl (inM 999999 LX12_unit) _).trans ((rX12_wrong hq).mono rfl (fun _ => rfl))
  exact F.trans (rX12_unit_138 hf)
theorem rX12_unit_126 {S' : mT} {v2 : Int32} {S : mT} (hf : fX12_unit_126 v2 S = some S') : Fr (inM 999999 LX12_unit) S S' := by
  unfold fX12_unit_126 at hf
  obtain ⟨x12, S11, hq, hf⟩ := bndC_ex hf
  have F := (Fr.rfl (inM 999999 LX12_unit) _).trans ((rX12_isFull hq).mono rfl (fun _ => rfl))
  by_cases hc : x12 = 0
  · rw [if_pos hc] at hf
    exact F.trans (rX12_unit_138 hf)
  · rw [if_neg hc] at hf
    exact F.trans (rX12_unit_133 hf)
theorem rX12_unit_101 {S' : mT} {S : mT} (hf : fX12_unit_101 S = some S') : Fr (inM 999999 LX12_unit) S S' := by
  unfold fX12_unit_101 at hf
  obtain ⟨-, hf⟩ := grd_ex hf
  by_cases hc : (S.1 187 2) ≤ 0
  · rw [if_pos hc] at hf
    obtain ⟨x7, S6, hq, hf⟩ := bndC_ex hf
    have F := (Fr.rfl (inM 999999 LX12_unit) _).trans ((rX12_asked hq).mono rfl (fun _ => rfl))
    obtain ⟨-, hf⟩ := grd_ex hf
    by_cases hc : (S6.1 187 6) = (2 : Int32)
    · rw [if_pos hc] at hf
      exact F.trans (rX12_unit_126 hf)
    · rw [if_neg hc] at hf
      by_cases hc : x7 < 0
      · rw [if_pos hc] at hf
        exact F.trans (rX12_unit_133 hf)
      · rw [if_neg hc] at hf
        exact F.trans (rX12_unit_126 hf)
  · rw [if_neg hc] at hf
    cases hf
    exact (Fr.rfl (inM 999999 LX12_unit) _)
theorem rX12_unit_2 {S' : mT} : ∀ (k : Nat) (v1 : Int32) (S : mT), fX12_unit_2 k v1 S = some S' → Fr (inM 999999 LX12_unit) S S' := by
  intro k
  induction k with
  | zero =>
    intro v1 S hf
    cases hf
  | succ k ih =>
    intro v1 S hf
    unfold fX12_unit_2 at hf
    by_cases hc : v1 = 0
    · rw [if_pos hc] at hf
      exact (Fr.rfl (inM 999999 LX12_unit) _).trans (rX12_unit_101 hf)
    · rw [if_neg hc] at hf
      obtain ⟨-, hf⟩ := grd_ex hf
      by_cases hc : (S.1 187 2) = 0
      · rw [if_pos hc] at hf
        obtain ⟨x2, S1, hq, hf⟩ := bndC_ex hf
        have F := (Fr.rfl (inM 999999 LX12_unit) _).trans ((rX12_isWord hq).mono rfl (fun _ => rfl))
        by_cases hc : x2 = 0
        · rw [if_pos hc] at hf
          exact F.trans (rX12_unit_53 ih hf)
        · rw [if_neg hc] at hf
          obtain ⟨x4, S3, hq, hf⟩ := bndC_ex hf
          have F := F.trans ((rX12_mayNot hq).mono rfl (fun _ => rfl))
          by_cases hc : x4 = 0
          · rw [if_pos hc] at hf
            exact F.trans (rX12_unit_53 ih hf)
          · rw [if_neg hc] at hf
            obtain ⟨-, hf⟩ := grd_ex hf
            by_cases hc : (S3.1 187 26) ≤ (6 : Int32)
            · rw [if_pos hc] at hf
              exact F.trans (rX12_unit_44 ih hf)
            · rw [if_neg hc] at hf
              obtain ⟨S5, hq, hf⟩ := bndV_ex hf
              have F := F.trans ((rX12_wrong hq).mono rfl (fun _ => rfl))
              exact F.trans (rX12_unit_44 ih hf)
      · rw [if_neg hc] at hf
        exact (Fr.rfl (inM 999999 LX12_unit) _).trans (rX12_unit_101 hf)
theorem rX12_unit_0 {S' : mT} {S : mT} (hf : fX12_unit S = some S') : Fr (inM 999999 LX12_unit) S S' := by
  unfold fX12_unit at hf
  exact (Fr.rfl (inM 999999 LX12_unit) _).trans (rX12_unit_2 _ _ _ hf)
theorem rX12_unit {S S' : mT} (hf : fX12_unit S = some S') : Fr (inM 999999 LX12_unit) S S' := rX12_unit_0 hf
abbrev LX12_formula : List (Nat × Nat × Option Nat) := [(999999, 999999, none), (187, 187, some 2), (187, 187, some 3), (187, 187, some 4), (187, 187, some 6), (187, 187, some 7), (187, 187, some 8), (187, 187, some 9), (187, 187, some 21), (187, 187, some 22), (187, 187, some 23), (187, 187, some 25), (187, 187, some 26), (190, 190, none), (191, 191, none), (192, 192, none), (196, 196, none), (198, 198, none)]
theorem rX12_formula_174 {S' : mT} {rc50 : Int32 → mT → Option (mT)} (Hrc50 : ∀ (v2 : Int32) (S : mT), rc50 v2 S = some S' → Fr (inM 999999 LX12_formula) S S') {v2 : Int32} {S : mT} (hf : fX12_formula_174 rc50 v2 S = some S') : Fr (inM 999999 LX12_formula) S S' := by
  unfold fX12_formula_174 at hf
  exact (Fr.rfl (inM 999999 LX12_formula) _).trans (Hrc50 _ _ hf)
theorem rX12_formula_133 {S' : mT} {rc50 : Int32 → mT → Option (mT)} (Hrc50 : ∀ (v2 : Int32) (S : mT), rc50 v2 S = some S' → Fr (inM 999999 LX12_formula) S S') {v2 : Int32} {v3 : Int32} {S : mT} (hf : fX12_formula_133 rc50 v2 v3 S = some S') : Fr (inM 999999 LX12_formula) S S' := by
  unfold fX12_formula_133 at hf
  obtain ⟨x26, S25, hq, hf⟩ := bndC_ex hf
  have F := (Fr.rfl (inM 999999 LX12_formula) _).trans ((rX12_tight hq).mono rfl (fun _ => rfl))
  obtain ⟨S27, hq, hf⟩ := bndV_ex hf
  have F := F.trans ((rX12_close hq).mono rfl (fun _ => rfl))
  obtain ⟨-, hf⟩ := grd_ex hf
  obtain ⟨S28, eS28, hf⟩ := bnd_ex hf
  have F : Fr (inM 999999 LX12_formula) S S28 := by
    rw [eS28]
    exact Fr.sI F rfl
  obtain ⟨-, hf⟩ := grd_ex hf
  obtain ⟨S29, eS29, hf⟩ := bnd_ex hf
  have F : Fr (inM 999999 LX12_formula) S S29 := by
    rw [eS29]
    exact Fr.sI F rfl
  obtain ⟨S30, hq, hf⟩ := bndV_ex hf
  have F := F.trans ((rX12_token hq).mono rfl (fun _ => rfl))
  obtain ⟨S31, hq, hf⟩ := bndV_ex hf
  have F := F.trans ((rX12_unit hq).mono rfl (fun _ => rfl))
  exact F.trans (rX12_formula_174 Hrc50 hf)
theorem rX12_formula_172 {S' : mT} {rc50 : Int32 → mT → Option (mT)} (Hrc50 : ∀ (v2 : Int32) (S : mT), rc50 v2 S = some S' → Fr (inM 999999 LX12_formula) S S') {S : mT} (hf : fX12_formula_172 rc50 S = some S') : Fr (inM 999999 LX12_formula) S S' := by
  unfold fX12_formula_172 at hf
  exact (Fr.rfl (inM 999999 LX12_formula) _).trans (rX12_formula_174 Hrc50 hf)
theorem rX12_formula_114 {S' : mT} {rc50 : Int32 → mT → Option (mT)} (Hrc50 : ∀ (v2 : Int32) (S : mT), rc50 v2 S = some S' → Fr (inM 999999 LX12_formula) S S') {v2 : Int32} {v3 : Int32} {S : mT} (hf : fX12_formula_114 rc50 v2 v3 S = some S') : Fr (inM 999999 LX12_formula) S S' := by
  unfold fX12_formula_114 at hf
  by_cases hc : v3 = 0
  · rw [if_pos hc] at hf
    exact (Fr.rfl (inM 999999 LX12_formula) _).trans (rX12_formula_172 Hrc50 hf)
  · rw [if_neg hc] at hf
    obtain ⟨x21, S20, hq, hf⟩ := bndC_ex hf
    have F := (Fr.rfl (inM 999999 LX12_formula) _).trans ((rX12_tight hq).mono rfl (fun _ => rfl))
    by_cases hc : x21 = (4 : Int32)
    · rw [if_pos hc] at hf
      obtain ⟨x23, S22, hq, hf⟩ := bndC_ex hf
      have F := F.trans ((rX12_hasRelation hq).mono rfl (fun _ => rfl))
      by_cases hc : x23 = 0
      · rw [if_pos hc] at hf
        exact F.trans (rX12_formula_133 Hrc50 hf)
      · rw [if_neg hc] at hf
        exact F.trans (rX12_formula_172 Hrc50 hf)
    · rw [if_neg hc] at hf
      exact F.trans (rX12_formula_133 Hrc50 hf)
theorem rX12_formula_208 {S' : mT} {S : mT} (hf : fX12_formula_208 S = some S') : Fr (inM 999999 LX12_formula) S S' := by
  unfold fX12_formula_208 at hf
  cases hf
  exact (Fr.rfl (inM 999999 LX12_formula) _)
theorem rX12_formula_196 {S' : mT} {S : mT} (hf : fX12_formula_196 S = some S') : Fr (inM 999999 LX12_formula) S S' := by
  unfold fX12_formula_196 at hf
  obtain ⟨-, hf⟩ := grd_ex hf
  by_cases hc : (S.1 187 2) = 0
  · rw [if_pos hc] at hf
    obtain ⟨S24, hq, hf⟩ := bndV_ex hf
    have F := (Fr.rfl (inM 999999 LX12_formula) _).trans ((rX12_close hq).mono rfl (fun _ => rfl))
    exact F.trans (rX12_formula_208 hf)
  · rw [if_neg hc] at hf
    exact (Fr.rfl (inM 999999 LX12_formula) _).trans (rX12_formula_208 hf)
theorem rX12_formula_177 {S' : mT} {S : mT} (hf : fX12_formula_177 S = some S') : Fr (inM 999999 LX12_formula) S S' := by
  unfold fX12_formula_177 at hf
  obtain ⟨-, hf⟩ := grd_ex hf
  by_cases hc : (S.1 187 2) = 0
  · rw [if_pos hc] at hf
    obtain ⟨x18, S17, hq, hf⟩ := bndC_ex hf
    have F := (Fr.rfl (inM 999999 LX12_formula) _).trans ((rX12_hasBracket hq).mono rfl (fun _ => rfl))
    by_cases hc : x18 = 0
    · rw [if_pos hc] at hf
      exact F.trans (rX12_formula_196 hf)
    · rw [if_neg hc] at hf
      obtain ⟨S19, hq, hf⟩ := bndV_ex hf
      have F := F.trans ((rX12_wrong hq).mono rfl (fun _ => rfl))
      exact F.trans (rX12_formula_196 hf)
  · rw [if_neg hc] at hf
    exact (Fr.rfl (inM 999999 LX12_formula) _).trans (rX12_formula_196 hf)
theorem rX12_formula_50 {S' : mT} : ∀ (k : Nat) (v2 : Int32) (S : mT), fX12_formula_50 k v2 S = some S' → Fr (inM 999999 LX12_formula) S S' := by
  intro k
  induction k with
  | zero =>
    intro v2 S hf
    cases hf
  | succ k ih =>
    intro v2 S hf
    unfold fX12_formula_50 at hf
    by_cases hc : v2 = 0
    · rw [if_pos hc] at hf
      exact (Fr.rfl (inM 999999 LX12_formula) _).trans (rX12_formula_177 hf)
    · rw [if_neg hc] at hf
      obtain ⟨-, hf⟩ := grd_ex hf
      by_cases hc : (S.1 187 2) = 0
      · rw [if_pos hc] at hf
        obtain ⟨x10, S9, hq, hf⟩ := bndC_ex hf
        have F := (Fr.rfl (inM 999999 LX12_formula) _).trans ((rX12_sign hq).mono rfl (fun _ => rfl))
        obtain ⟨-, hf⟩ := grd_ex hf
        by_cases hc : (S9.1 187 6) = (41 : Int32)
        · rw [if_pos hc] at hf
          obtain ⟨x12, S11, hq, hf⟩ := bndC_ex hf
          have F := F.trans ((rX12_hasBracket hq).mono rfl (fun _ => rfl))
          by_cases hc : x12 = 0
          · rw [if_pos hc] at hf
            exact F.trans (rX12_formula_114 ih hf)
          · rw [if_neg hc] at hf
            obtain ⟨S13, hq, hf⟩ := bndV_ex hf
            have F := F.trans ((rX12_close hq).mono rfl (fun _ => rfl))
            obtain ⟨-, hf⟩ := grd_ex hf
            obtain ⟨S14, eS14, hf⟩ := bnd_ex hf
            have F : Fr (inM 999999 LX12_formula) S S14 := by
              rw [eS14]
              exact Fr.sI F rfl
            obtain ⟨-, hf⟩ := grd_ex hf
            obtain ⟨S15, eS15, hf⟩ := bnd_ex hf
            have F : Fr (inM 999999 LX12_formula) S S15 := by
              rw [eS15]
              exact Fr.sI F rfl
            obtain ⟨S16, hq, hf⟩ := bndV_ex hf
            have F := F.trans ((rX12_token hq).mono rfl (fun _ => rfl))
            exact F.trans (rX12_formula_174 ih hf)
        · rw [if_neg hc] at hf
          exact F.trans (rX12_formula_114 ih hf)
      · rw [if_neg hc] at hf
        exact (Fr.rfl (inM 999999 LX12_formula) _).trans (rX12_formula_177 hf)
theorem rX12_formula_0 {S' : mT} {v1 : Int32} {S : mT} (hf : fX12_formula v1 S = some S') : Fr (inM 999999 LX12_formula) S S' := by
  unfold fX12_formula at hf
  obtain ⟨S1, hq, hf⟩ := bndV_ex hf
  have F := (Fr.rfl (inM 999999 LX12_formula) _).trans ((rX12_token hq).mono rfl (fun _ => rfl))
  obtain ⟨-, hf⟩ := grd_ex hf
  obtain ⟨S2, eS2, hf⟩ := bnd_ex hf
  have F : Fr (inM 999999 LX12_formula) S S2 := by
    rw [eS2]
    exact Fr.sI F rfl
  obtain ⟨-, hf⟩ := grd_ex hf
  obtain ⟨S3, eS3, hf⟩ := bnd_ex hf
  have F : Fr (inM 999999 LX12_formula) S S3 := by
    rw [eS3]
    exact Fr.sI F rfl
  obtain ⟨-, hf⟩ := grd_ex hf
  obtain ⟨S4, eS4, hf⟩ := bnd_ex hf
  have F : Fr (inM 999999 LX12_formula) S S4 := by
    rw [eS4]
    exact Fr.sI F rfl
  obtain ⟨-, hf⟩ := grd_ex hf
  obtain ⟨S5, eS5, hf⟩ := bnd_ex hf
  have F : Fr (inM 999999 LX12_formula) S S5 := by
    rw [eS5]
    exact Fr.sI F rfl
  obtain ⟨-, hf⟩ := grd_ex hf
  obtain ⟨S6, eS6, hf⟩ := bnd_ex hf
  have F : Fr (inM 999999 LX12_formula) S S6 := by
    rw [eS6]
    exact Fr.sI F rfl
  obtain ⟨-, hf⟩ := grd_ex hf
  obtain ⟨S7, eS7, hf⟩ := bnd_ex hf
  have F : Fr (inM 999999 LX12_formula) S S7 := by
    rw [eS7]
    exact Fr.sI F rfl
  obtain ⟨S8, hq, hf⟩ := bndV_ex hf
  have F := F.trans ((rX12_unit hq).mono rfl (fun _ => rfl))
  exact F.trans (rX12_formula_50 _ _ _ hf)
theorem rX12_formula {v1 : Int32} {S S' : mT} (hf : fX12_formula v1 S = some S') : Fr (inM 999999 LX12_formula) S S' := rX12_formula_0 hf
abbrev LX12_keep : List (Nat × Nat × Option Nat) := [(999999, 999999, none), (208, 208, none)]
theorem rX12_keep_2 {S' : mT} : ∀ (k : Nat) (v1 : Int32) (S : mT), fX12_keep_2 k v1 S = some S' → Fr (inM 999999 LX12_keep) S S' := by
  intro k
  induction k with
  | zero =>
    intro v1 S hf
    cases hf
  | succ k ih =>
    intro v1 S hf
    unfold fX12_keep_2 at hf
    by_cases hc : (5 : Int32) ≤ v1
    · rw [if_pos hc] at hf
      obtain ⟨-, hf⟩ := grd_ex hf
      obtain ⟨S1, eS1, hf⟩ := bnd_ex hf
      have F : Fr (inM 999999 LX12_keep) S S1 := by
        rw [eS1]
        exact Fr.sI (Fr.rfl (inM 999999 LX12_keep) _) rfl
      obtain ⟨-, hf⟩ := grd_ex hf
      obtain ⟨S2, eS2, hf⟩ := bnd_ex hf
      have F : Fr (inM 999999 LX12_keep) S S2 := by
        rw [eS2]
        exact Fr.sI F rfl
      cases hf
      exact F
    · rw [if_neg hc] at hf
      obtain ⟨-, hf⟩ := grd_ex hf
      obtain ⟨S3, eS3, hf⟩ := bnd_ex hf
      have F : Fr (inM 999999 LX12_keep) S S3 := by
        rw [eS3]
        exact Fr.sI (Fr.rfl (inM 999999 LX12_keep) _) rfl
      obtain ⟨-, hf⟩ := grd_ex hf
      obtain ⟨S4, eS4, hf⟩ := bnd_ex hf
      have F : Fr (inM 999999 LX12_keep) S S4 := by
        rw [eS4]
        exact Fr.sI F rfl
      obtain ⟨-, hf⟩ := grd_ex hf
      obtain ⟨S5, eS5, hf⟩ := bnd_ex hf
      have F : Fr (inM 999999 LX12_keep) S S5 := by
        rw [eS5]
        exact Fr.sI F rfl
      obtain ⟨x6, -, hf⟩ := bnd_ex hf
      exact F.trans (ih _ _ hf)
theorem rX12_keep_0 {S' : mT} {S : mT} (hf : fX12_keep S = some S') : Fr (inM 999999 LX12_keep) S S' := by
  unfold fX12_keep at hf
  exact (Fr.rfl (inM 999999 LX12_keep) _).trans (rX12_keep_2 _ _ _ hf)
theorem rX12_keep {S S' : mT} (hf : fX12_keep S = some S') : Fr (inM 999999 LX12_keep) S S' := rX12_keep_0 hf
abbrev LX12_leaves : List (Nat × Nat × Option Nat) := [(999999, 999999, none), (187, 187, some 43), (187, 187, some 44), (208, 208, none), (209, 209, none), (210, 210, none), (211, 211, none)]
theorem rX12_leaves_0 {S' : mT} {v1 : Int32} {S : mT} (hf : fX12_leaves v1 S = some S') : Fr (inM 999999 LX12_leaves) S S' := by
  unfold fX12_leaves at hf
  obtain ⟨S1, hq, hf⟩ := bndV_ex hf
  have F := (Fr.rfl (inM 999999 LX12_leaves) _).trans ((rX12_load hq).mono rfl (fun _ => rfl))
  obtain ⟨-, hf⟩ := grd_ex hf
  obtain ⟨S2, eS2, hf⟩ := bnd_ex hf
  have F : Fr (inM 999999 LX12_leaves) S S2 := by
    rw [eS2]
    exact Fr.sI F rfl
  obtain ⟨S3, hq, hf⟩ := bndV_ex hf
  have F := F.trans ((rX12_notMoreHidden hq).mono rfl (fun _ => rfl))
  obtain ⟨S4, hq, hf⟩ := bndV_ex hf
  have F := F.trans ((rX12_keep hq).mono rfl (fun _ => rfl))
  cases hf
  exact F
theorem rX12_leaves {v1 : Int32} {S S' : mT} (hf : fX12_leaves v1 S = some S') : Fr (inM 999999 LX12_leaves) S S' := rX12_leaves_0 hf
abbrev LX12_goes : List (Nat × Nat × Option Nat) := [(999999, 999999, none), (187, 187, some 43), (187, 187, some 44), (187, 187, some 46), (187, 187, some 47), (208, 208, none), (209, 209, none), (210, 210, none), (211, 211, none), (212, 212, none)]
theorem rX12_goes_17 {S' : mT} {r : Int32} {S : mT} (hf : fX12_goes_17 S = some (r, S')) : Fr (inM 999999 LX12_goes) S S' := by
  unfold fX12_goes_17 at hf
  cases hf
  exact (Fr.rfl (inM 999999 LX12_goes) _)
theorem rX12_goes_0 {S' : mT} {r : Int32} {v1 : Int32} {S : mT} (hf : fX12_goes v1 S = some (r, S')) : Fr (inM 999999 LX12_goes) S S' := by
  unfold fX12_goes at hf
  obtain ⟨x2, S1, hq, hf⟩ := bndC_ex hf
  have F := (Fr.rfl (inM 999999 LX12_goes) _).trans ((rX12_isHouse hq).mono rfl (fun _ => rfl))
  by_cases hc : x2 = 0
  · rw [if_pos hc] at hf
    exact F.trans (rX12_goes_17 hf)
  · rw [if_neg hc] at hf
    obtain ⟨-, hf⟩ := grd_ex hf
    by_cases hc : (S1.1 208 (mIx v1)) = 0
    · rw [if_pos hc] at hf
      exact F.trans (rX12_goes_17 hf)
    · rw [if_neg hc] at hf
      obtain ⟨S3, hq, hf⟩ := bndV_ex hf
      have F := F.trans ((rX12_act hq).mono rfl (fun _ => rfl))
      obtain ⟨S4, hq, hf⟩ := bndV_ex hf
      have F := F.trans ((rX12_leaves hq).mono rfl (fun _ => rfl))
      obtain ⟨-, hf⟩ := grd_ex hf
      cases hf
      exact F
theorem rX12_goes {v1 : Int32} {S S' : mT} {r : Int32} (hf : fX12_goes v1 S = some (r, S')) : Fr (inM 999999 LX12_goes) S S' := rX12_goes_0 hf
abbrev LX12_headOf : List (Nat × Nat × Option Nat) := [(999999, 999999, none)]
theorem rX12_headOf_0 {S' : mT} {r : Int32} {v1 : Int32} {v2 : Int32} {S : mT} (hf : fX12_headOf v1 v2 S = some (r, S')) : Fr (inM 999999 LX12_headOf) S S' := by
  unfold fX12_headOf at hf
  obtain ⟨-, hf⟩ := grd_ex hf
  cases hf
  exact (Fr.rfl (inM 999999 LX12_headOf) _)
theorem rX12_headOf {v1 : Int32} {v2 : Int32} {S S' : mT} {r : Int32} (hf : fX12_headOf v1 v2 S = some (r, S')) : Fr (inM 999999 LX12_headOf) S S' := rX12_headOf_0 hf
abbrev LX12_hide : List (Nat × Nat × Option Nat) := [(999999, 999999, none), (187, 187, some 46), (187, 187, some 47), (208, 208, none), (212, 212, none)]
theorem rX12_hide_22 {S' : mT} {r : Int32} {S : mT} (hf : fX12_hide_22 S = some (r, S')) : Fr (inM 999999 LX12_hide) S S' := by
  unfold fX12_hide_22 at hf
  cases hf
  exact (Fr.rfl (inM 999999 LX12_hide) _)
theorem rX12_hide_0 {S' : mT} {r : Int32} {v1 : Int32} {v2 : Int32} {S : mT} (hf : fX12_hide v1 v2 S = some (r, S')) : Fr (inM 999999 LX12_hide) S S' := by
  unfold fX12_hide at hf
  obtain ⟨x2, S1, hq, hf⟩ := bndC_ex hf
  have F := (Fr.rfl (inM 999999 LX12_hide) _).trans ((rX12_isHouse hq).mono rfl (fun _ => rfl))
  by_cases hc : x2 = 0
  · rw [if_pos hc] at hf
    exact F.trans (rX12_hide_22 hf)
  · rw [if_neg hc] at hf
    obtain ⟨-, hf⟩ := grd_ex hf
    obtain ⟨x4, S3, hq, hf⟩ := bndC_ex hf
    have F := F.trans ((rX12_isIn hq).mono rfl (fun _ => rfl))
    by_cases hc : x4 = 0
    · rw [if_pos hc] at hf
      exact F.trans (rX12_hide_22 hf)
    · rw [if_neg hc] at hf
      obtain ⟨S5, hq, hf⟩ := bndV_ex hf
      have F := F.trans ((rX12_act hq).mono rfl (fun _ => rfl))
      obtain ⟨-, hf⟩ := grd_ex hf
      obtain ⟨x6, -, hf⟩ := bnd_ex hf
      obtain ⟨-, hf⟩ := grd_ex hf
      obtain ⟨S7, eS7, hf⟩ := bnd_ex hf
      have F : Fr (inM 999999 LX12_hide) S S7 := by
        rw [eS7]
        exact Fr.sI F rfl
      cases hf
      exact F
theorem rX12_hide {v1 : Int32} {v2 : Int32} {S S' : mT} {r : Int32} (hf : fX12_hide v1 v2 S = some (r, S')) : Fr (inM 999999 LX12_hide) S S' := rX12_hide_0 hf
abbrev LX12_shows : List (Nat × Nat × Option Nat) := [(999999, 999999, none), (197, 197, none), (200, 200, none)]
theorem rX12_shows_19 {S' : mT} {r : Int32} {s0 : Int32} {S : mT} (hf : fX12_shows_19 s0 S = some (r, S')) : Fr (inM 999999 LX12_shows) S S' := by
  unfold fX12_shows_19 at hf
  obtain ⟨-, hf⟩ := grd_ex hf
  cases hf
  exact (Fr.rfl (inM 999999 LX12_shows) _)
theorem rX12_shows_0 {S' : mT} {r : Int32} {v1 : Int32} {S : mT} (hf : fX12_shows v1 S = some (r, S')) : Fr (inM 999999 LX12_shows) S S' := by
  unfold fX12_shows at hf
  obtain ⟨x2, S1, hq, hf⟩ := bndC_ex hf
  have F := (Fr.rfl (inM 999999 LX12_shows) _).trans ((rX12_stonesOf hq).mono rfl (fun _ => rfl))
  obtain ⟨-, hf⟩ := grd_ex hf
  by_cases hc : (S1.1 206 (mIx v1)) ≤ x2
  · rw [if_pos hc] at hf
    exact F.trans (rX12_shows_19 hf)
  · rw [if_neg hc] at hf
    exact F.trans (rX12_shows_19 hf)
theorem rX12_shows {v1 : Int32} {S S' : mT} {r : Int32} (hf : fX12_shows v1 S = some (r, S')) : Fr (inM 999999 LX12_shows) S S' := rX12_shows_0 hf
abbrev LX12_house : List (Nat × Nat × Option Nat) := [(999999, 999999, none), (187, 187, some 43), (187, 187, some 44), (197, 197, none), (200, 200, none), (209, 209, none), (210, 210, none), (211, 211, none)]
theorem rX12_house_0 {S' : mT} {r : Int32} {v1 : Int32} {v2 : Int32} {S : mT} (hf : fX12_house v1 v2 S = some (r, S')) : Fr (inM 999999 LX12_house) S S' := by
  unfold fX12_house at hf
  obtain ⟨x2, S1, hq, hf⟩ := bndC_ex hf
  have F := (Fr.rfl (inM 999999 LX12_house) _).trans ((rX12_isHouse hq).mono rfl (fun _ => rfl))
  by_cases hc : x2 = 0
  · rw [if_pos hc] at hf
    cases hf
    exact F
  · rw [if_neg hc] at hf
    obtain ⟨S3, hq, hf⟩ := bndV_ex hf
    have F := F.trans ((rX12_load hq).mono rfl (fun _ => rfl))
    by_cases hc : v2 = (0 : Int32)
    · rw [if_pos hc] at hf
      obtain ⟨-, hf⟩ := grd_ex hf
      cases hf
      exact F
    · rw [if_neg hc] at hf
      by_cases hc : v2 = (1 : Int32)
      · rw [if_pos hc] at hf
        obtain ⟨-, hf⟩ := grd_ex hf
        cases hf
        exact F
      · rw [if_neg hc] at hf
        by_cases hc : v2 = (2 : Int32)
        · rw [if_pos hc] at hf
          obtain ⟨-, hf⟩ := grd_ex hf
          cases hf
          exact F
        · rw [if_neg hc] at hf
          by_cases hc : v2 = (3 : Int32)
          · rw [if_pos hc] at hf
            obtain ⟨-, hf⟩ := grd_ex hf
            cases hf
            exact F
          · rw [if_neg hc] at hf
            by_cases hc : v2 = (4 : Int32)
            · rw [if_pos hc] at hf
              obtain ⟨-, hf⟩ := grd_ex hf
              cases hf
              exact F
            · rw [if_neg hc] at hf
              by_cases hc : v2 = (5 : Int32)
              · rw [if_pos hc] at hf
                obtain ⟨-, hf⟩ := grd_ex hf
                cases hf
                exact F
              · rw [if_neg hc] at hf
                by_cases hc : v2 = (6 : Int32)
                · rw [if_pos hc] at hf
                  obtain ⟨x15, S14, hq, hf⟩ := bndC_ex hf
                  have F := F.trans ((rX12_stonesOf hq).mono rfl (fun _ => rfl))
                  cases hf
                  exact F
                · rw [if_neg hc] at hf
                  by_cases hc : v2 = (7 : Int32)
                  · rw [if_pos hc] at hf
                    obtain ⟨x11, S10, hq, hf⟩ := bndC_ex hf
                    have F := F.trans ((rX12_shows hq).mono rfl (fun _ => rfl))
                    obtain ⟨x13, S12, hq, hf⟩ := bndC_ex hf
                    have F := F.trans ((rX12_truth hq).mono rfl (fun _ => rfl))
                    cases hf
                    exact F
                  · rw [if_neg hc] at hf
                    by_cases hc : v2 = (8 : Int32)
                    · rw [if_pos hc] at hf
                      obtain ⟨-, hf⟩ := grd_ex hf
                      obtain ⟨x9, S8, hq, hf⟩ := bndC_ex hf
                      have F := F.trans ((rX12_taxOf hq).mono rfl (fun _ => rfl))
                      cases hf
                      exact F
                    · rw [if_neg hc] at hf
                      by_cases hc : v2 = (9 : Int32)
                      · rw [if_pos hc] at hf
                        obtain ⟨x5, S4, hq, hf⟩ := bndC_ex hf
                        have F := F.trans ((rX12_stonesOf hq).mono rfl (fun _ => rfl))
                        obtain ⟨x7, S6, hq, hf⟩ := bndC_ex hf
                        have F := F.trans ((rX12_taxOf hq).mono rfl (fun _ => rfl))
                        cases hf
                        exact F
                      · rw [if_neg hc] at hf
                        cases hf
                        exact F
theorem rX12_house {v1 : Int32} {v2 : Int32} {S S' : mT} {r : Int32} (hf : fX12_house v1 v2 S = some (r, S')) : Fr (inM 999999 LX12_house) S S' := rX12_house_0 hf
abbrev LX12_image : List (Nat × Nat × Option Nat) := [(999999, 999999, none), (231, 231, none), (232, 232, none)]
theorem rX12_image_18 {S' : mT} {r : Int32} : ∀ (k : Nat) (v1 : Int32) (v2 : Int32) (S : mT), fX12_image_18 k v1 v2 S = some (r, S') → Fr (inM 999999 LX12_image) S S' := by
  intro k
  induction k with
  | zero =>
    intro v1 v2 S hf
    cases hf
  | succ k ih =>
    intro v1 v2 S hf
    unfold fX12_image_18 at hf
    by_cases hc : (17 : Int32) ≤ v2
    · rw [if_pos hc] at hf
      obtain ⟨-, hf⟩ := grd_ex hf
      cases hf
      exact (Fr.rfl (inM 999999 LX12_image) _)
    · rw [if_neg hc] at hf
      obtain ⟨-, hf⟩ := grd_ex hf
      obtain ⟨-, hf⟩ := grd_ex hf
      obtain ⟨S4, eS4, hf⟩ := bnd_ex hf
      have F : Fr (inM 999999 LX12_image) S S4 := by
        rw [eS4]
        exact Fr.sI (Fr.rfl (inM 999999 LX12_image) _) rfl
      obtain ⟨x5, -, hf⟩ := bnd_ex hf
      exact F.trans (ih _ _ _ hf)
theorem rX12_image_0 {S' : mT} {r : Int32} {v1 : Int32} {S : mT} (hf : fX12_image v1 S = some (r, S')) : Fr (inM 999999 LX12_image) S S' := by
  unfold fX12_image at hf
  obtain ⟨x2, S1, hq, hf⟩ := bndC_ex hf
  have F := (Fr.rfl (inM 999999 LX12_image) _).trans ((rX12_isBox hq).mono rfl (fun _ => rfl))
  by_cases hc : x2 = 0
  · rw [if_pos hc] at hf
    cases hf
    exact F
  · rw [if_neg hc] at hf
    obtain ⟨-, hf⟩ := grd_ex hf
    obtain ⟨S3, eS3, hf⟩ := bnd_ex hf
    have F : Fr (inM 999999 LX12_image) S S3 := by
      rw [eS3]
      exact Fr.sI F rfl
    exact F.trans (rX12_image_18 _ _ _ _ hf)
theorem rX12_image {v1 : Int32} {S S' : mT} {r : Int32} (hf : fX12_image v1 S = some (r, S')) : Fr (inM 999999 LX12_image) S S' := rX12_image_0 hf
abbrev LX12_isOwn : List (Nat × Nat × Option Nat) := [(999999, 999999, none)]
theorem rX12_isOwn_170 {S' : mT} {r : Int32} {s0 : Int32} {S : mT} (hf : fX12_isOwn_170 s0 S = some (r, S')) : Fr (inM 999999 LX12_isOwn) S S' := by
  unfold fX12_isOwn_170 at hf
  obtain ⟨-, hf⟩ := grd_ex hf
  cases hf
  exact (Fr.rfl (inM 999999 LX12_isOwn) _)
theorem rX12_isOwn_165 {S' : mT} {r : Int32} {S : mT} (hf : fX12_isOwn_165 S = some (r, S')) : Fr (inM 999999 LX12_isOwn) S S' := by
  unfold fX12_isOwn_165 at hf
  exact (Fr.rfl (inM 999999 LX12_isOwn) _).trans (rX12_isOwn_170 hf)
theorem rX12_isOwn_0 {S' : mT} {r : Int32} {S : mT} (hf : fX12_isOwn S = some (r, S')) : Fr (inM 999999 LX12_isOwn) S S' := by
  unfold fX12_isOwn at hf
  obtain ⟨-, hf⟩ := grd_ex hf
  by_cases hc : (lg_cmp (S.2 187 9) (448546567013 : Int64)) = 0
  · rw [if_pos hc] at hf
    exact (Fr.rfl (inM 999999 LX12_isOwn) _).trans (rX12_isOwn_165 hf)
  · rw [if_neg hc] at hf
    obtain ⟨-, hf⟩ := grd_ex hf
    by_cases hc : (lg_cmp (S.2 187 9) (24948 : Int64)) = 0
    · rw [if_pos hc] at hf
      exact (Fr.rfl (inM 999999 LX12_isOwn) _).trans (rX12_isOwn_165 hf)
    · rw [if_neg hc] at hf
      obtain ⟨-, hf⟩ := grd_ex hf
      by_cases hc : (lg_cmp (S.2 187 9) (448377480307 : Int64)) = 0
      · rw [if_pos hc] at hf
        exact (Fr.rfl (inM 999999 LX12_isOwn) _).trans (rX12_isOwn_165 hf)
      · rw [if_neg hc] at hf
        obtain ⟨-, hf⟩ := grd_ex hf
        by_cases hc : (lg_cmp (S.2 187 9) (6971757 : Int64)) = 0
        · rw [if_pos hc] at hf
          exact (Fr.rfl (inM 999999 LX12_isOwn) _).trans (rX12_isOwn_165 hf)
        · rw [if_neg hc] at hf
          obtain ⟨-, hf⟩ := grd_ex hf
          by_cases hc : (lg_cmp (S.2 187 9) (448310438260 : Int64)) = 0
          · rw [if_pos hc] at hf
            exact (Fr.rfl (inM 999999 LX12_isOwn) _).trans (rX12_isOwn_165 hf)
          · rw [if_neg hc] at hf
            obtain ⟨-, hf⟩ := grd_ex hf
            by_cases hc : (lg_cmp (S.2 187 9) (1936746868 : Int64)) = 0
            · rw [if_pos hc] at hf
              exact (Fr.rfl (inM 999999 LX12_isOwn) _).trans (rX12_isOwn_165 hf)
            · rw [if_neg hc] at hf
              obtain ⟨-, hf⟩ := grd_ex hf
              by_cases hc : (lg_cmp (S.2 187 9) (7627128 : Int64)) = 0
              · rw [if_pos hc] at hf
                exact (Fr.rfl (inM 999999 LX12_isOwn) _).trans (rX12_isOwn_165 hf)
              · rw [if_neg hc] at hf
                obtain ⟨-, hf⟩ := grd_ex hf
                by_cases hc : (lg_cmp (S.2 187 9) (1735552887 : Int64)) = 0
                · rw [if_pos hc] at hf
                  exact (Fr.rfl (inM 999999 LX12_isOwn) _).trans (rX12_isOwn_165 hf)
                · rw [if_neg hc] at hf
                  obtain ⟨-, hf⟩ := grd_ex hf
                  by_cases hc : (lg_cmp (S.2 187 9) (1685217655 : Int64)) = 0
                  · rw [if_pos hc] at hf
                    exact (Fr.rfl (inM 999999 LX12_isOwn) _).trans (rX12_isOwn_165 hf)
                  · rw [if_neg hc] at hf
                    obtain ⟨-, hf⟩ := grd_ex hf
                    by_cases hc : (lg_cmp (S.2 187 9) (114801865155950 : Int64)) = 0
                    · rw [if_pos hc] at hf
                      exact (Fr.rfl (inM 999999 LX12_isOwn) _).trans (rX12_isOwn_165 hf)
                    · rw [if_neg hc] at hf
                      obtain ⟨-, hf⟩ := grd_ex hf
                      by_cases hc : (lg_cmp (S.2 187 9) (126943922906483 : Int64)) = 0
                      · rw [if_pos hc] at hf
                        exact (Fr.rfl (inM 999999 LX12_isOwn) _).trans (rX12_isOwn_165 hf)
                      · rw [if_neg hc] at hf
                        obtain ⟨-, hf⟩ := grd_ex hf
                        by_cases hc : (lg_cmp (S.2 187 9) (2036687218 : Int64)) = 0
                        · rw [if_pos hc] at hf
                          exact (Fr.rfl (inM 999999 LX12_isOwn) _).trans (rX12_isOwn_165 hf)
                        · rw [if_neg hc] at hf
                          obtain ⟨-, hf⟩ := grd_ex hf
                          by_cases hc : (lg_cmp (S.2 187 9) (6385252 : Int64)) = 0
                          · rw [if_pos hc] at hf
                            exact (Fr.rfl (inM 999999 LX12_isOwn) _).trans (rX12_isOwn_165 hf)
                          · rw [if_neg hc] at hf
                            obtain ⟨-, hf⟩ := grd_ex hf
                            by_cases hc : (lg_cmp (S.2 187 9) (28530 : Int64)) = 0
                            · rw [if_pos hc] at hf
                              exact (Fr.rfl (inM 999999 LX12_isOwn) _).trans (rX12_isOwn_165 hf)
                            · rw [if_neg hc] at hf
                              obtain ⟨-, hf⟩ := grd_ex hf
                              by_cases hc : (lg_cmp (S.2 187 9) (7237492 : Int64)) = 0
                              · rw [if_pos hc] at hf
                                exact (Fr.rfl (inM 999999 LX12_isOwn) _).trans (rX12_isOwn_165 hf)
                              · rw [if_neg hc] at hf
                                exact (Fr.rfl (inM 999999 LX12_isOwn) _).trans (rX12_isOwn_170 hf)
theorem rX12_isOwn {S S' : mT} {r : Int32} (hf : fX12_isOwn S = some (r, S')) : Fr (inM 999999 LX12_isOwn) S S' := rX12_isOwn_0 hf
abbrev LX12_isName : List (Nat × Nat × Option Nat) := [(999999, 999999, none)]
theorem rX12_isName_20 {S' : mT} {r : Int32} {s0 : Int32} {S : mT} (hf : fX12_isName_20 s0 S = some (r, S')) : Fr (inM 999999 LX12_isName) S S' := by
  unfold fX12_isName_20 at hf
  obtain ⟨-, hf⟩ := grd_ex hf
  cases hf
  exact (Fr.rfl (inM 999999 LX12_isName) _)
theorem rX12_isName_19 {S' : mT} {r : Int32} {S : mT} (hf : fX12_isName_19 S = some (r, S')) : Fr (inM 999999 LX12_isName) S S' := by
  unfold fX12_isName_19 at hf
  exact (Fr.rfl (inM 999999 LX12_isName) _).trans (rX12_isName_20 hf)
theorem rX12_isName_0 {S' : mT} {r : Int32} {S : mT} (hf : fX12_isName S = some (r, S')) : Fr (inM 999999 LX12_isName) S S' := by
  unfold fX12_isName at hf
  obtain ⟨-, hf⟩ := grd_ex hf
  by_cases hc : (S.1 187 6) = (1 : Int32)
  · rw [if_pos hc] at hf
    obtain ⟨x2, S1, hq, hf⟩ := bndC_ex hf
    have F := (Fr.rfl (inM 999999 LX12_isName) _).trans ((rX12_isOwn hq).mono rfl (fun _ => rfl))
    by_cases hc : x2 = 0
    · rw [if_pos hc] at hf
      exact F.trans (rX12_isName_20 hf)
    · rw [if_neg hc] at hf
      exact F.trans (rX12_isName_19 hf)
  · rw [if_neg hc] at hf
    exact (Fr.rfl (inM 999999 LX12_isName) _).trans (rX12_isName_19 hf)
theorem rX12_isName {S S' : mT} {r : Int32} (hf : fX12_isName S = some (r, S')) : Fr (inM 999999 LX12_isName) S S' := rX12_isName_0 hf
abbrev LX12_isOtherSeats : List (Nat × Nat × Option Nat) := [(999999, 999999, none)]
theorem rX12_isOtherSeats_36 {S' : mT} {r : Int32} {rc4 : Int32 → Int32 → mT → Option (Int32 × mT)} (Hrc4 : ∀ (v1 : Int32) (v2 : Int32) (S : mT), rc4 v1 v2 S = some (r, S') → Fr (inM 999999 LX12_isOtherSeats) S S') {v2 : Int32} {s0 : Int32} {S : mT} (hf : fX12_isOtherSeats_36 rc4 v2 s0 S = some (r, S')) : Fr (inM 999999 LX12_isOtherSeats) S S' := by
  unfold fX12_isOtherSeats_36 at hf
  obtain ⟨x1, -, hf⟩ := bnd_ex hf
  exact (Fr.rfl (inM 999999 LX12_isOtherSeats) _).trans (Hrc4 _ _ _ hf)
theorem rX12_isOtherSeats_31 {S' : mT} {r : Int32} {rc4 : Int32 → Int32 → mT → Option (Int32 × mT)} (Hrc4 : ∀ (v1 : Int32) (v2 : Int32) (S : mT), rc4 v1 v2 S = some (r, S') → Fr (inM 999999 LX12_isOtherSeats) S S') {v2 : Int32} {S : mT} (hf : fX12_isOtherSeats_31 rc4 v2 S = some (r, S')) : Fr (inM 999999 LX12_isOtherSeats) S S' := by
  unfold fX12_isOtherSeats_31 at hf
  exact (Fr.rfl (inM 999999 LX12_isOtherSeats) _).trans (rX12_isOtherSeats_36 Hrc4 hf)
theorem rX12_isOtherSeats_4 {S' : mT} {r : Int32} : ∀ (k : Nat) (v1 : Int32) (v2 : Int32) (S : mT), fX12_isOtherSeats_4 k v1 v2 S = some (r, S') → Fr (inM 999999 LX12_isOtherSeats) S S' := by
  intro k
  induction k with
  | zero =>
    intro v1 v2 S hf
    cases hf
  | succ k ih =>
    intro v1 v2 S hf
    unfold fX12_isOtherSeats_4 at hf
    obtain ⟨-, hf⟩ := grd_ex hf
    by_cases hc : (S.1 187 37) ≤ v2
    · rw [if_pos hc] at hf
      obtain ⟨-, hf⟩ := grd_ex hf
      cases hf
      exact (Fr.rfl (inM 999999 LX12_isOtherSeats) _)
    · rw [if_neg hc] at hf
      by_cases hc : v1 = 0
      · rw [if_pos hc] at hf
        obtain ⟨-, hf⟩ := grd_ex hf
        by_cases hc : (S.1 217 (mIx v2)) = (S.1 219 (mIx v2))
        · rw [if_pos hc] at hf
          exact (Fr.rfl (inM 999999 LX12_isOtherSeats) _).trans (rX12_isOtherSeats_36 ih hf)
        · rw [if_neg hc] at hf
          exact (Fr.rfl (inM 999999 LX12_isOtherSeats) _).trans (rX12_isOtherSeats_31 ih hf)
      · rw [if_neg hc] at hf
        exact (Fr.rfl (inM 999999 LX12_isOtherSeats) _).trans (rX12_isOtherSeats_31 ih hf)
theorem rX12_isOtherSeats_0 {S' : mT} {r : Int32} {S : mT} (hf : fX12_isOtherSeats S = some (r, S')) : Fr (inM 999999 LX12_isOtherSeats) S S' := by
  unfold fX12_isOtherSeats at hf
  exact (Fr.rfl (inM 999999 LX12_isOtherSeats) _).trans (rX12_isOtherSeats_4 _ _ _ _ hf)
theorem rX12_isOtherSeats {S S' : mT} {r : Int32} (hf : fX12_isOtherSeats S = some (r, S')) : Fr (inM 999999 LX12_isOtherSeats) S S' := rX12_isOtherSeats_0 hf
abbrev LX12_keepSeats : List (Nat × Nat × Option Nat) := [(999999, 999999, none), (219, 219, none)]
theorem rX12_keepSeats_2 {S' : mT} : ∀ (k : Nat) (v1 : Int32) (S : mT), fX12_keepSeats_2 k v1 S = some S' → Fr (inM 999999 LX12_keepSeats) S S' := by
  intro k
  induction k with
  | zero =>
    intro v1 S hf
    cases hf
  | succ k ih =>
    intro v1 S hf
    unfold fX12_keepSeats_2 at hf
    by_cases hc : (5 : Int32) ≤ v1
    · rw [if_pos hc] at hf
      cases hf
      exact (Fr.rfl (inM 999999 LX12_keepSeats) _)
    · rw [if_neg hc] at hf
      obtain ⟨-, hf⟩ := grd_ex hf
      obtain ⟨S1, eS1, hf⟩ := bnd_ex hf
      have F : Fr (inM 999999 LX12_keepSeats) S S1 := by
        rw [eS1]
        exact Fr.sI (Fr.rfl (inM 999999 LX12_keepSeats) _) rfl
      obtain ⟨x2, -, hf⟩ := bnd_ex hf
      exact F.trans (ih _ _ hf)
theorem rX12_keepSeats_0 {S' : mT} {S : mT} (hf : fX12_keepSeats S = some S') : Fr (inM 999999 LX12_keepSeats) S S' := by
  unfold fX12_keepSeats at hf
  exact (Fr.rfl (inM 999999 LX12_keepSeats) _).trans (rX12_keepSeats_2 _ _ _ hf)
theorem rX12_keepSeats {S S' : mT} (hf : fX12_keepSeats S = some S') : Fr (inM 999999 LX12_keepSeats) S S' := rX12_keepSeats_0 hf
abbrev LX12_liarsOf : List (Nat × Nat × Option Nat) := [(999999, 999999, none)]
theorem rX12_liarsOf_99 {S' : mT} {r : Int32} {rc6 : Int32 → Int32 → Int32 → Int32 → Int32 → mT → Option (Int32 × mT)} (Hrc6 : ∀ (v1 : Int32) (v2 : Int32) (v3 : Int32) (v4 : Int32) (v5 : Int32) (S : mT), rc6 v1 v2 v3 v4 v5 S = some (r, S') → Fr (inM 999999 LX12_liarsOf) S S') {rc62 : Int32 → Int32 → Int32 → Int32 → Int32 → Int32 → Int32 → mT → Option (Int32 × mT)} (Hrc62 : ∀ (v1 : Int32) (v2 : Int32) (v3 : Int32) (v4 : Int32) (v5 : Int32) (v6 : Int32) (v7 : Int32) (S : mT), rc62 v1 v2 v3 v4 v5 v6 v7 S = some (r, S') → Fr (inM 999999 LX12_liarsOf) S S') {v1 : Int32} {v2 : Int32} {v3 : Int32} {v4 : Int32} {v5 : Int32} {v6 : Int32} {v7 : Int32} {S : mT} (hf : fX12_liarsOf_99 rc6 rc62 v1 v2 v3 v4 v5 v6 v7 S = some (r, S')) : Fr (inM 999999 LX12_liarsOf) S S' := by
  unfold fX12_liarsOf_99 at hf
  obtain ⟨x8, -, hf⟩ := bnd_ex hf
  exact (Fr.rfl (inM 999999 LX12_liarsOf) _).trans (Hrc62 _ _ _ _ _ _ _ _ hf)
theorem rX12_liarsOf_142 {S' : mT} {r : Int32} {rc6 : Int32 → Int32 → Int32 → Int32 → Int32 → mT → Option (Int32 × mT)} (Hrc6 : ∀ (v1 : Int32) (v2 : Int32) (v3 : Int32) (v4 : Int32) (v5 : Int32) (S : mT), rc6 v1 v2 v3 v4 v5 S = some (r, S') → Fr (inM 999999 LX12_liarsOf) S S') {v1 : Int32} {v2 : Int32} {v3 : Int32} {v4 : Int32} {v5 : Int32} {S : mT} (hf : fX12_liarsOf_142 rc6 v1 v2 v3 v4 v5 S = some (r, S')) : Fr (inM 999999 LX12_liarsOf) S S' := by
  unfold fX12_liarsOf_142 at hf
  obtain ⟨x1, -, hf⟩ := bnd_ex hf
  exact (Fr.rfl (inM 999999 LX12_liarsOf) _).trans (Hrc6 _ _ _ _ _ _ hf)
theorem rX12_liarsOf_136 {S' : mT} {r : Int32} {rc6 : Int32 → Int32 → Int32 → Int32 → Int32 → mT → Option (Int32 × mT)} (Hrc6 : ∀ (v1 : Int32) (v2 : Int32) (v3 : Int32) (v4 : Int32) (v5 : Int32) (S : mT), rc6 v1 v2 v3 v4 v5 S = some (r, S') → Fr (inM 999999 LX12_liarsOf) S S') {v1 : Int32} {v2 : Int32} {v3 : Int32} {v5 : Int32} {s0 : Int32} {s1 : Int32} {S : mT} (hf : fX12_liarsOf_136 rc6 v1 v2 v3 v5 s0 s1 S = some (r, S')) : Fr (inM 999999 LX12_liarsOf) S S' := by
  unfold fX12_liarsOf_136 at hf
  obtain ⟨x6, S5, hq, hf⟩ := bndC_ex hf
  have F := (Fr.rfl (inM 999999 LX12_liarsOf) _).trans ((rX12_truth hq).mono rfl (fun _ => rfl))
  obtain ⟨x7, -, hf⟩ := bnd_ex hf
  exact F.trans (rX12_liarsOf_142 Hrc6 hf)
theorem rX12_liarsOf_131 {S' : mT} {r : Int32} {rc6 : Int32 → Int32 → Int32 → Int32 → Int32 → mT → Option (Int32 × mT)} (Hrc6 : ∀ (v1 : Int32) (v2 : Int32) (v3 : Int32) (v4 : Int32) (v5 : Int32) (S : mT), rc6 v1 v2 v3 v4 v5 S = some (r, S') → Fr (inM 999999 LX12_liarsOf) S S') {v1 : Int32} {v2 : Int32} {v3 : Int32} {v5 : Int32} {s0 : Int32} {S : mT} (hf : fX12_liarsOf_131 rc6 v1 v2 v3 v5 s0 S = some (r, S')) : Fr (inM 999999 LX12_liarsOf) S S' := by
  unfold fX12_liarsOf_131 at hf
  exact (Fr.rfl (inM 999999 LX12_liarsOf) _).trans (rX12_liarsOf_136 Hrc6 hf)
theorem rX12_liarsOf_62 {S' : mT} {r : Int32} {rc6 : Int32 → Int32 → Int32 → Int32 → Int32 → mT → Option (Int32 × mT)} (Hrc6 : ∀ (v1 : Int32) (v2 : Int32) (v3 : Int32) (v4 : Int32) (v5 : Int32) (S : mT), rc6 v1 v2 v3 v4 v5 S = some (r, S') → Fr (inM 999999 LX12_liarsOf) S S') : ∀ (k : Nat) (v1 : Int32) (v2 : Int32) (v3 : Int32) (v4 : Int32) (v5 : Int32) (v6 : Int32) (v7 : Int32) (S : mT), fX12_liarsOf_62 rc6 k v1 v2 v3 v4 v5 v6 v7 S = some (r, S') → Fr (inM 999999 LX12_liarsOf) S S' := by
  intro k
  induction k with
  | zero =>
    intro v1 v2 v3 v4 v5 v6 v7 S hf
    cases hf
  | succ k ih =>
    intro v1 v2 v3 v4 v5 v6 v7 S hf
    unfold fX12_liarsOf_62 at hf
    obtain ⟨-, hf⟩ := grd_ex hf
    by_cases hc : (S.1 187 37) ≤ v7
    · rw [if_pos hc] at hf
      obtain ⟨-, hf⟩ := grd_ex hf
      by_cases hc : v6 < (S.1 225 (mIx v5))
      · rw [if_pos hc] at hf
        exact (Fr.rfl (inM 999999 LX12_liarsOf) _).trans (rX12_liarsOf_131 Hrc6 hf)
      · rw [if_neg hc] at hf
        obtain ⟨-, hf⟩ := grd_ex hf
        by_cases hc : v6 ≤ (S.1 226 (mIx v5))
        · rw [if_pos hc] at hf
          exact (Fr.rfl (inM 999999 LX12_liarsOf) _).trans (rX12_liarsOf_136 Hrc6 hf)
        · rw [if_neg hc] at hf
          exact (Fr.rfl (inM 999999 LX12_liarsOf) _).trans (rX12_liarsOf_131 Hrc6 hf)
    · rw [if_neg hc] at hf
      obtain ⟨-, hf⟩ := grd_ex hf
      by_cases hc : (((S.1 224 (mIx v5)) >>> (v7 &&& 31)) &&& (1 : Int32)) = (1 : Int32)
      · rw [if_pos hc] at hf
        obtain ⟨x3, S2, hq, hf⟩ := bndC_ex hf
        have F := (Fr.rfl (inM 999999 LX12_liarsOf) _).trans ((rX12_headOf hq).mono rfl (fun _ => rfl))
        obtain ⟨x4, -, hf⟩ := bnd_ex hf
        exact F.trans (rX12_liarsOf_99 Hrc6 ih hf)
      · rw [if_neg hc] at hf
        exact (Fr.rfl (inM 999999 LX12_liarsOf) _).trans (rX12_liarsOf_99 Hrc6 ih hf)
theorem rX12_liarsOf_56 {S' : mT} {r : Int32} {rc6 : Int32 → Int32 → Int32 → Int32 → Int32 → mT → Option (Int32 × mT)} (Hrc6 : ∀ (v1 : Int32) (v2 : Int32) (v3 : Int32) (v4 : Int32) (v5 : Int32) (S : mT), rc6 v1 v2 v3 v4 v5 S = some (r, S') → Fr (inM 999999 LX12_liarsOf) S S') {v1 : Int32} {v2 : Int32} {v3 : Int32} {v4 : Int32} {v5 : Int32} {S : mT} (hf : fX12_liarsOf_56 rc6 v1 v2 v3 v4 v5 S = some (r, S')) : Fr (inM 999999 LX12_liarsOf) S S' := by
  unfold fX12_liarsOf_56 at hf
  exact (Fr.rfl (inM 999999 LX12_liarsOf) _).trans (rX12_liarsOf_62 Hrc6 _ _ _ _ _ _ _ _ _ hf)
theorem rX12_liarsOf_148 {S' : mT} {r : Int32} {v4 : Int32} {S : mT} (hf : fX12_liarsOf_148 v4 S = some (r, S')) : Fr (inM 999999 LX12_liarsOf) S S' := by
  unfold fX12_liarsOf_148 at hf
  cases hf
  exact (Fr.rfl (inM 999999 LX12_liarsOf) _)
theorem rX12_liarsOf_6 {S' : mT} {r : Int32} : ∀ (k : Nat) (v1 : Int32) (v2 : Int32) (v3 : Int32) (v4 : Int32) (v5 : Int32) (S : mT), fX12_liarsOf_6 k v1 v2 v3 v4 v5 S = some (r, S') → Fr (inM 999999 LX12_liarsOf) S S' := by
  intro k
  induction k with
  | zero =>
    intro v1 v2 v3 v4 v5 S hf
    cases hf
  | succ k ih =>
    intro v1 v2 v3 v4 v5 S hf
    unfold fX12_liarsOf_6 at hf
    obtain ⟨-, hf⟩ := grd_ex hf
    by_cases hc : (S.1 187 66) ≤ v5
    · rw [if_pos hc] at hf
      exact (Fr.rfl (inM 999999 LX12_liarsOf) _).trans (rX12_liarsOf_148 hf)
    · rw [if_neg hc] at hf
      by_cases hc : v3 < v4
      · rw [if_pos hc] at hf
        exact (Fr.rfl (inM 999999 LX12_liarsOf) _).trans (rX12_liarsOf_148 hf)
      · rw [if_neg hc] at hf
        obtain ⟨-, hf⟩ := grd_ex hf
        by_cases hc : v2 < (S.1 227 (mIx v5))
        · rw [if_pos hc] at hf
          exact (Fr.rfl (inM 999999 LX12_liarsOf) _).trans (rX12_liarsOf_142 ih hf)
        · rw [if_neg hc] at hf
          obtain ⟨-, hf⟩ := grd_ex hf
          by_cases hc : (S.1 228 (mIx v5)) < 0
          · rw [if_pos hc] at hf
            exact (Fr.rfl (inM 999999 LX12_liarsOf) _).trans (rX12_liarsOf_56 ih hf)
          · rw [if_neg hc] at hf
            obtain ⟨-, hf⟩ := grd_ex hf
            by_cases hc : v2 < (S.1 228 (mIx v5))
            · rw [if_pos hc] at hf
              exact (Fr.rfl (inM 999999 LX12_liarsOf) _).trans (rX12_liarsOf_56 ih hf)
            · rw [if_neg hc] at hf
              exact (Fr.rfl (inM 999999 LX12_liarsOf) _).trans (rX12_liarsOf_142 ih hf)
theorem rX12_liarsOf_0 {S' : mT} {r : Int32} {v1 : Int32} {v2 : Int32} {v3 : Int32} {S : mT} (hf : fX12_liarsOf v1 v2 v3 S = some (r, S')) : Fr (inM 999999 LX12_liarsOf) S S' := by
  unfold fX12_liarsOf at hf
  exact (Fr.rfl (inM 999999 LX12_liarsOf) _).trans (rX12_liarsOf_6 _ _ _ _ _ _ _ hf)
theorem rX12_liarsOf {v1 : Int32} {v2 : Int32} {v3 : Int32} {S S' : mT} {r : Int32} (hf : fX12_liarsOf v1 v2 v3 S = some (r, S')) : Fr (inM 999999 LX12_liarsOf) S S' := rX12_liarsOf_0 hf
abbrev LX12_rowsOf : List (Nat × Nat × Option Nat) := [(999999, 999999, none)]
theorem rX12_rowsOf_4 {S' : mT} {r : Int32} : ∀ (k : Nat) (v1 : Int32) (v2 : Int32) (S : mT), fX12_rowsOf_4 k v1 v2 S = some (r, S') → Fr (inM 999999 LX12_rowsOf) S S' := by
  intro k
  induction k with
  | zero =>
    intro v1 v2 S hf
    cases hf
  | succ k ih =>
    intro v1 v2 S hf
    unfold fX12_rowsOf_4 at hf
    obtain ⟨-, hf⟩ := grd_ex hf
    by_cases hc : (S.1 187 37) ≤ v2
    · rw [if_pos hc] at hf
      cases hf
      exact (Fr.rfl (inM 999999 LX12_rowsOf) _)
    · rw [if_neg hc] at hf
      obtain ⟨x1, -, hf⟩ := bnd_ex hf
      obtain ⟨x2, -, hf⟩ := bnd_ex hf
      exact (Fr.rfl (inM 999999 LX12_rowsOf) _).trans (ih _ _ _ hf)
theorem rX12_rowsOf_0 {S' : mT} {r : Int32} {S : mT} (hf : fX12_rowsOf S = some (r, S')) : Fr (inM 999999 LX12_rowsOf) S S' := by
  unfold fX12_rowsOf at hf
  exact (Fr.rfl (inM 999999 LX12_rowsOf) _).trans (rX12_rowsOf_4 _ _ _ _ hf)
theorem rX12_rowsOf {S S' : mT} {r : Int32} (hf : fX12_rowsOf S = some (r, S')) : Fr (inM 999999 LX12_rowsOf) S S' := rX12_rowsOf_0 hf
abbrev LX12_layTruths : List (Nat × Nat × Option Nat) := [(999999, 999999, none), (187, 187, some 69), (229, 229, none)]
theorem rX12_layTruths_101 {S' : mT} {rc33 : Int32 → Int32 → Int32 → mT → Option (mT)} (Hrc33 : ∀ (v1 : Int32) (v2 : Int32) (v3 : Int32) (S : mT), rc33 v1 v2 v3 S = some S' → Fr (inM 999999 LX12_layTruths) S S') {v1 : Int32} {v2 : Int32} {v3 : Int32} {S : mT} (hf : fX12_layTruths_101 rc33 v1 v2 v3 S = some S') : Fr (inM 999999 LX12_layTruths) S S' := by
  unfold fX12_layTruths_101 at hf
  obtain ⟨x13, -, hf⟩ := bnd_ex hf
  exact (Fr.rfl (inM 999999 LX12_layTruths) _).trans (Hrc33 _ _ _ _ hf)
theorem rX12_layTruths_64 {S' : mT} {rc33 : Int32 → Int32 → Int32 → mT → Option (mT)} (Hrc33 : ∀ (v1 : Int32) (v2 : Int32) (v3 : Int32) (S : mT), rc33 v1 v2 v3 S = some S' → Fr (inM 999999 LX12_layTruths) S S') : ∀ (k : Nat) (v1 : Int32) (v2 : Int32) (v3 : Int32) (v4 : Int32) (S : mT), fX12_layTruths_64 rc33 k v1 v2 v3 v4 S = some S' → Fr (inM 999999 LX12_layTruths) S S' := by
  intro k
  induction k with
  | zero =>
    intro v1 v2 v3 v4 S hf
    cases hf
  | succ k ih =>
    intro v1 v2 v3 v4 S hf
    unfold fX12_layTruths_64 at hf
    obtain ⟨-, hf⟩ := grd_ex hf
    by_cases hc : (S.1 187 37) ≤ v4
    · rw [if_pos hc] at hf
      exact (Fr.rfl (inM 999999 LX12_layTruths) _).trans (rX12_layTruths_101 Hrc33 hf)
    · rw [if_neg hc] at hf
      obtain ⟨-, hf⟩ := grd_ex hf
      obtain ⟨x10, S9, hq, hf⟩ := bndC_ex hf
      have F := (Fr.rfl (inM 999999 LX12_layTruths) _).trans ((rX12_headOf hq).mono rfl (fun _ => rfl))
      obtain ⟨-, hf⟩ := grd_ex hf
      obtain ⟨S11, eS11, hf⟩ := bnd_ex hf
      have F : Fr (inM 999999 LX12_layTruths) S S11 := by
        rw [eS11]
        exact Fr.sI F rfl
      obtain ⟨x12, -, hf⟩ := bnd_ex hf
      exact F.trans (ih _ _ _ _ _ hf)
theorem rX12_layTruths_33 {S' : mT} : ∀ (k : Nat) (v1 : Int32) (v2 : Int32) (v3 : Int32) (S : mT), fX12_layTruths_33 k v1 v2 v3 S = some S' → Fr (inM 999999 LX12_layTruths) S S' := by
  intro k
  induction k with
  | zero =>
    intro v1 v2 v3 S hf
    cases hf
  | succ k ih =>
    intro v1 v2 v3 S hf
    unfold fX12_layTruths_33 at hf
    by_cases hc : v2 ≤ v3
    · rw [if_pos hc] at hf
      cases hf
      exact (Fr.rfl (inM 999999 LX12_layTruths) _)
    · rw [if_neg hc] at hf
      obtain ⟨x7, S6, hq, hf⟩ := bndC_ex hf
      have F := (Fr.rfl (inM 999999 LX12_layTruths) _).trans ((rX12_liarsOf hq).mono rfl (fun _ => rfl))
      by_cases hc : x7 ≤ 0
      · rw [if_pos hc] at hf
        obtain ⟨-, hf⟩ := grd_ex hf
        obtain ⟨S8, eS8, hf⟩ := bnd_ex hf
        have F : Fr (inM 999999 LX12_layTruths) S S8 := by
          rw [eS8]
          exact Fr.sI F rfl
        exact F.trans (rX12_layTruths_64 ih _ _ _ _ _ _ hf)
      · rw [if_neg hc] at hf
        exact F.trans (rX12_layTruths_101 ih hf)
theorem rX12_layTruths_2 {S' : mT} : ∀ (k : Nat) (v1 : Int32) (v2 : Int32) (S : mT), fX12_layTruths_2 k v1 v2 S = some S' → Fr (inM 999999 LX12_layTruths) S S' := by
  intro k
  induction k with
  | zero =>
    intro v1 v2 S hf
    cases hf
  | succ k ih =>
    intro v1 v2 S hf
    unfold fX12_layTruths_2 at hf
    by_cases hc : (40 : Int32) ≤ v2
    · rw [if_pos hc] at hf
      obtain ⟨-, hf⟩ := grd_ex hf
      obtain ⟨S1, eS1, hf⟩ := bnd_ex hf
      have F : Fr (inM 999999 LX12_layTruths) S S1 := by
        rw [eS1]
        exact Fr.sI (Fr.rfl (inM 999999 LX12_layTruths) _) rfl
      obtain ⟨x3, S2, hq, hf⟩ := bndC_ex hf
      have F := F.trans ((rX12_rowsOf hq).mono rfl (fun _ => rfl))
      exact F.trans (rX12_layTruths_33 _ _ _ _ _ hf)
    · rw [if_neg hc] at hf
      obtain ⟨-, hf⟩ := grd_ex hf
      obtain ⟨S4, eS4, hf⟩ := bnd_ex hf
      have F : Fr (inM 999999 LX12_layTruths) S S4 := by
        rw [eS4]
        exact Fr.sI (Fr.rfl (inM 999999 LX12_layTruths) _) rfl
      obtain ⟨x5, -, hf⟩ := bnd_ex hf
      exact F.trans (ih _ _ _ hf)
theorem rX12_layTruths_0 {S' : mT} {v1 : Int32} {S : mT} (hf : fX12_layTruths v1 S = some S') : Fr (inM 999999 LX12_layTruths) S S' := by
  unfold fX12_layTruths at hf
  exact (Fr.rfl (inM 999999 LX12_layTruths) _).trans (rX12_layTruths_2 _ _ _ _ hf)
theorem rX12_layTruths {v1 : Int32} {S S' : mT} (hf : fX12_layTruths v1 S = some S') : Fr (inM 999999 LX12_layTruths) S S' := rX12_layTruths_0 hf
abbrev LX12_mostOf : List (Nat × Nat × Option Nat) := [(999999, 999999, none)]
theorem rX12_mostOf_40 {S' : mT} {r : Int32} {rc4 : Int32 → Int32 → Int32 → mT → Option (Int32 × mT)} (Hrc4 : ∀ (v1 : Int32) (v2 : Int32) (v3 : Int32) (S : mT), rc4 v1 v2 v3 S = some (r, S') → Fr (inM 999999 LX12_mostOf) S S') {v1 : Int32} {v3 : Int32} {s0 : Int32} {S : mT} (hf : fX12_mostOf_40 rc4 v1 v3 s0 S = some (r, S')) : Fr (inM 999999 LX12_mostOf) S S' := by
  unfold fX12_mostOf_40 at hf
  obtain ⟨x1, -, hf⟩ := bnd_ex hf
  exact (Fr.rfl (inM 999999 LX12_mostOf) _).trans (Hrc4 _ _ _ _ hf)
theorem rX12_mostOf_4 {S' : mT} {r : Int32} : ∀ (k : Nat) (v1 : Int32) (v2 : Int32) (v3 : Int32) (S : mT), fX12_mostOf_4 k v1 v2 v3 S = some (r, S') → Fr (inM 999999 LX12_mostOf) S S' := by
  intro k
  induction k with
  | zero =>
    intro v1 v2 v3 S hf
    cases hf
  | succ k ih =>
    intro v1 v2 v3 S hf
    unfold fX12_mostOf_4 at hf
    by_cases hc : (7 : Int32) < v3
    · rw [if_pos hc] at hf
      cases hf
      exact (Fr.rfl (inM 999999 LX12_mostOf) _)
    · rw [if_neg hc] at hf
      obtain ⟨-, hf⟩ := grd_ex hf
      by_cases hc : (S.1 229 (mIx (((8 : Int32) * v1) + v3))) ≤ v2
      · rw [if_pos hc] at hf
        exact (Fr.rfl (inM 999999 LX12_mostOf) _).trans (rX12_mostOf_40 ih hf)
      · rw [if_neg hc] at hf
        obtain ⟨-, hf⟩ := grd_ex hf
        exact (Fr.rfl (inM 999999 LX12_mostOf) _).trans (rX12_mostOf_40 ih hf)
theorem rX12_mostOf_0 {S' : mT} {r : Int32} {v1 : Int32} {S : mT} (hf : fX12_mostOf v1 S = some (r, S')) : Fr (inM 999999 LX12_mostOf) S S' := by
  unfold fX12_mostOf at hf
  exact (Fr.rfl (inM 999999 LX12_mostOf) _).trans (rX12_mostOf_4 _ _ _ _ _ hf)
theorem rX12_mostOf {v1 : Int32} {S S' : mT} {r : Int32} (hf : fX12_mostOf v1 S = some (r, S')) : Fr (inM 999999 LX12_mostOf) S S' := rX12_mostOf_0 hf
abbrev LX12_knock : List (Nat × Nat × Option Nat) := [(999999, 999999, none), (187, 187, some 69), (229, 229, none)]
theorem rX12_knock_16 {S' : mT} {r : Int32} {S : mT} (hf : fX12_knock_16 S = some (r, S')) : Fr (inM 999999 LX12_knock) S S' := by
  unfold fX12_knock_16 at hf
  cases hf
  exact (Fr.rfl (inM 999999 LX12_knock) _)
theorem rX12_knock_66 {S' : mT} {r : Int32} {rc37 : Int32 → Int32 → Int32 → mT → Option (Int32 × mT)} (Hrc37 : ∀ (v1 : Int32) (v3 : Int32) (v4 : Int32) (S : mT), rc37 v1 v3 v4 S = some (r, S') → Fr (inM 999999 LX12_knock) S S') {v1 : Int32} {v4 : Int32} {s0 : Int32} {S : mT} (hf : fX12_knock_66 rc37 v1 v4 s0 S = some (r, S')) : Fr (inM 999999 LX12_knock) S S' := by
  unfold fX12_knock_66 at hf
  obtain ⟨x10, -, hf⟩ := bnd_ex hf
  exact (Fr.rfl (inM 999999 LX12_knock) _).trans (Hrc37 _ _ _ _ hf)
theorem rX12_knock_86 {S' : mT} {r : Int32} {s0 : Int32} {S : mT} (hf : fX12_knock_86 s0 S = some (r, S')) : Fr (inM 999999 LX12_knock) S S' := by
  unfold fX12_knock_86 at hf
  cases hf
  exact (Fr.rfl (inM 999999 LX12_knock) _)
theorem rX12_knock_37 {S' : mT} {r : Int32} : ∀ (k : Nat) (v1 : Int32) (v3 : Int32) (v4 : Int32) (S : mT), fX12_knock_37 k v1 v3 v4 S = some (r, S') → Fr (inM 999999 LX12_knock) S S' := by
  intro k
  induction k with
  | zero =>
    intro v1 v3 v4 S hf
    cases hf
  | succ k ih =>
    intro v1 v3 v4 S hf
    unfold fX12_knock_37 at hf
    obtain ⟨-, hf⟩ := grd_ex hf
    by_cases hc : (S.1 187 37) ≤ v4
    · rw [if_pos hc] at hf
      by_cases hc : v1 = 0
      · rw [if_pos hc] at hf
        exact (Fr.rfl (inM 999999 LX12_knock) _).trans (rX12_knock_86 hf)
      · rw [if_neg hc] at hf
        obtain ⟨x5, S4, hq, hf⟩ := bndC_ex hf
        have F := (Fr.rfl (inM 999999 LX12_knock) _).trans ((rX12_mostOf hq).mono rfl (fun _ => rfl))
        exact F.trans (rX12_knock_86 hf)
    · rw [if_neg hc] at hf
      obtain ⟨x7, S6, hq, hf⟩ := bndC_ex hf
      have F := (Fr.rfl (inM 999999 LX12_knock) _).trans ((rX12_mostOf hq).mono rfl (fun _ => rfl))
      obtain ⟨x9, S8, hq, hf⟩ := bndC_ex hf
      have F := F.trans ((rX12_mostOf hq).mono rfl (fun _ => rfl))
      by_cases hc : x9 ≤ x7
      · rw [if_pos hc] at hf
        exact F.trans (rX12_knock_66 ih hf)
      · rw [if_neg hc] at hf
        exact F.trans (rX12_knock_66 ih hf)
theorem rX12_knock_0 {S' : mT} {r : Int32} {v1 : Int32} {v2 : Int32} {S : mT} (hf : fX12_knock v1 v2 S = some (r, S')) : Fr (inM 999999 LX12_knock) S S' := by
  unfold fX12_knock at hf
  obtain ⟨x2, S1, hq, hf⟩ := bndC_ex hf
  have F := (Fr.rfl (inM 999999 LX12_knock) _).trans ((rX12_isIn hq).mono rfl (fun _ => rfl))
  by_cases hc : x2 = 0
  · rw [if_pos hc] at hf
    exact F.trans (rX12_knock_16 hf)
  · rw [if_neg hc] at hf
    obtain ⟨-, hf⟩ := grd_ex hf
    by_cases hc : (S1.1 187 37) = 0
    · rw [if_pos hc] at hf
      exact F.trans (rX12_knock_16 hf)
    · rw [if_neg hc] at hf
      obtain ⟨S3, hq, hf⟩ := bndV_ex hf
      have F := F.trans ((rX12_layTruths hq).mono rfl (fun _ => rfl))
      obtain ⟨-, hf⟩ := grd_ex hf
      by_cases hc : (S3.1 187 69) = 0
      · rw [if_pos hc] at hf
        cases hf
        exact F
      · rw [if_neg hc] at hf
        exact F.trans (rX12_knock_37 _ _ _ _ _ hf)
theorem rX12_knock {v1 : Int32} {v2 : Int32} {S S' : mT} {r : Int32} (hf : fX12_knock v1 v2 S = some (r, S')) : Fr (inM 999999 LX12_knock) S S' := rX12_knock_0 hf
abbrev LX12_later : List (Nat × Nat × Option Nat) := [(999999, 999999, none), (187, 187, some 67)]
theorem rX12_later_23 {S' : mT} {r : Int32} {S : mT} (hf : fX12_later_23 S = some (r, S')) : Fr (inM 999999 LX12_later) S S' := by
  unfold fX12_later_23 at hf
  cases hf
  exact (Fr.rfl (inM 999999 LX12_later) _)
theorem rX12_later_0 {S' : mT} {r : Int32} {v1 : Int32} {S : mT} (hf : fX12_later v1 S = some (r, S')) : Fr (inM 999999 LX12_later) S S' := by
  unfold fX12_later at hf
  by_cases hc : v1 < 0
  · rw [if_pos hc] at hf
    exact (Fr.rfl (inM 999999 LX12_later) _).trans (rX12_later_23 hf)
  · rw [if_neg hc] at hf
    by_cases hc : (1000 : Int32) < v1
    · rw [if_pos hc] at hf
      exact (Fr.rfl (inM 999999 LX12_later) _).trans (rX12_later_23 hf)
    · rw [if_neg hc] at hf
      obtain ⟨-, hf⟩ := grd_ex hf
      by_cases hc : ((S.1 187 67) + v1) ≤ (100000 : Int32)
      · rw [if_pos hc] at hf
        obtain ⟨-, hf⟩ := grd_ex hf
        obtain ⟨S1, eS1, hf⟩ := bnd_ex hf
        have F : Fr (inM 999999 LX12_later) S S1 := by
          rw [eS1]
          exact Fr.sI (Fr.rfl (inM 999999 LX12_later) _) rfl
        obtain ⟨-, hf⟩ := grd_ex hf
        cases hf
        exact F
      · rw [if_neg hc] at hf
        exact (Fr.rfl (inM 999999 LX12_later) _).trans (rX12_later_23 hf)
theorem rX12_later {v1 : Int32} {S S' : mT} {r : Int32} (hf : fX12_later v1 S = some (r, S')) : Fr (inM 999999 LX12_later) S S' := rX12_later_0 hf
abbrev LX12_layCounters : List (Nat × Nat × Option Nat) := [(999999, 999999, none), (216, 216, none)]
theorem rX12_layCounters_76 {S' : mT} {r : Int32} {rc37 : Int32 → Int32 → mT → Option (Int32 × mT)} (Hrc37 : ∀ (v3 : Int32) (v4 : Int32) (S : mT), rc37 v3 v4 S = some (r, S') → Fr (inM 999999 LX12_layCounters) S S') {v4 : Int32} {s0 : Int32} {s1 : Int32} {S : mT} (hf : fX12_layCounters_76 rc37 v4 s0 s1 S = some (r, S')) : Fr (inM 999999 LX12_layCounters) S S' := by
  unfold fX12_layCounters_76 at hf
  obtain ⟨x6, S5, hq, hf⟩ := bndC_ex hf
  have F := (Fr.rfl (inM 999999 LX12_layCounters) _).trans ((rX12_truth hq).mono rfl (fun _ => rfl))
  obtain ⟨x7, -, hf⟩ := bnd_ex hf
  obtain ⟨x8, -, hf⟩ := bnd_ex hf
  exact F.trans (Hrc37 _ _ _ hf)
theorem rX12_layCounters_37 {S' : mT} {r : Int32} : ∀ (k : Nat) (v3 : Int32) (v4 : Int32) (S : mT), fX12_layCounters_37 k v3 v4 S = some (r, S') → Fr (inM 999999 LX12_layCounters) S S' := by
  intro k
  induction k with
  | zero =>
    intro v3 v4 S hf
    cases hf
  | succ k ih =>
    intro v3 v4 S hf
    unfold fX12_layCounters_37 at hf
    obtain ⟨-, hf⟩ := grd_ex hf
    by_cases hc : (S.1 187 37) ≤ v4
    · rw [if_pos hc] at hf
      cases hf
      exact (Fr.rfl (inM 999999 LX12_layCounters) _)
    · rw [if_neg hc] at hf
      obtain ⟨-, hf⟩ := grd_ex hf
      by_cases hc : (S.1 216 (mIx v4)) ≤ v3
      · rw [if_pos hc] at hf
        obtain ⟨-, hf⟩ := grd_ex hf
        by_cases hc : (S.1 216 (mIx v4)) = v3
        · rw [if_pos hc] at hf
          exact (Fr.rfl (inM 999999 LX12_layCounters) _).trans (rX12_layCounters_76 ih hf)
        · rw [if_neg hc] at hf
          exact (Fr.rfl (inM 999999 LX12_layCounters) _).trans (rX12_layCounters_76 ih hf)
      · rw [if_neg hc] at hf
        cases hf
        exact (Fr.rfl (inM 999999 LX12_layCounters) _)
theorem rX12_layCounters_9 {S' : mT} {r : Int32} : ∀ (k : Nat) (v2 : Int32) (v3 : Int32) (S : mT), fX12_layCounters_9 k v2 v3 S = some (r, S') → Fr (inM 999999 LX12_layCounters) S S' := by
  intro k
  induction k with
  | zero =>
    intro v2 v3 S hf
    cases hf
  | succ k ih =>
    intro v2 v3 S hf
    unfold fX12_layCounters_9 at hf
    by_cases hc : v3 < 0
    · rw [if_pos hc] at hf
      exact (Fr.rfl (inM 999999 LX12_layCounters) _).trans (rX12_layCounters_37 _ _ _ _ hf)
    · rw [if_neg hc] at hf
      obtain ⟨-, hf⟩ := grd_ex hf
      obtain ⟨S2, eS2, hf⟩ := bnd_ex hf
      have F : Fr (inM 999999 LX12_layCounters) S S2 := by
        rw [eS2]
        exact Fr.sI (Fr.rfl (inM 999999 LX12_layCounters) _) rfl
      obtain ⟨-, hf⟩ := grd_ex hf
      obtain ⟨x3, -, hf⟩ := bnd_ex hf
      obtain ⟨x4, -, hf⟩ := bnd_ex hf
      exact F.trans (ih _ _ _ hf)
theorem rX12_layCounters_0 {S' : mT} {r : Int32} {v1 : Int32} {S : mT} (hf : fX12_layCounters v1 S = some (r, S')) : Fr (inM 999999 LX12_layCounters) S S' := by
  unfold fX12_layCounters at hf
  obtain ⟨-, hf⟩ := grd_ex hf
  obtain ⟨x1, -, hf⟩ := bnd_ex hf
  exact (Fr.rfl (inM 999999 LX12_layCounters) _).trans (rX12_layCounters_9 _ _ _ _ hf)
theorem rX12_layCounters {v1 : Int32} {S S' : mT} {r : Int32} (hf : fX12_layCounters v1 S = some (r, S')) : Fr (inM 999999 LX12_layCounters) S S' := rX12_layCounters_0 hf
abbrev LX12_laySeats : List (Nat × Nat × Option Nat) := [(999999, 999999, none), (217, 217, none), (218, 218, none)]
theorem rX12_laySeats_90 {S' : mT} {rc11 : Int32 → Int32 → Int32 → Int32 → Int32 → mT → Option (mT)} (Hrc11 : ∀ (v1 : Int32) (v2 : Int32) (v3 : Int32) (v4 : Int32) (v5 : Int32) (S : mT), rc11 v1 v2 v3 v4 v5 S = some S' → Fr (inM 999999 LX12_laySeats) S S') {v1 : Int32} {v2 : Int32} {v3 : Int32} {v4 : Int32} {v5 : Int32} {s0 : Int32} {s1 : Int32} {S : mT} (hf : fX12_laySeats_90 rc11 v1 v2 v3 v4 v5 s0 s1 S = some S') : Fr (inM 999999 LX12_laySeats) S S' := by
  unfold fX12_laySeats_90 at hf
  obtain ⟨-, hf⟩ := grd_ex hf
  obtain ⟨S7, eS7, hf⟩ := bnd_ex hf
  have F : Fr (inM 999999 LX12_laySeats) S S7 := by
    rw [eS7]
    exact Fr.sI (Fr.rfl (inM 999999 LX12_laySeats) _) rfl
  obtain ⟨-, hf⟩ := grd_ex hf
  obtain ⟨x8, -, hf⟩ := bnd_ex hf
  obtain ⟨x9, -, hf⟩ := bnd_ex hf
  exact F.trans (Hrc11 _ _ _ _ _ _ hf)
theorem rX12_laySeats_89 {S' : mT} {rc11 : Int32 → Int32 → Int32 → Int32 → Int32 → mT → Option (mT)} (Hrc11 : ∀ (v1 : Int32) (v2 : Int32) (v3 : Int32) (v4 : Int32) (v5 : Int32) (S : mT), rc11 v1 v2 v3 v4 v5 S = some S' → Fr (inM 999999 LX12_laySeats) S S') {v1 : Int32} {v2 : Int32} {v3 : Int32} {v4 : Int32} {v5 : Int32} {s0 : Int32} {S : mT} (hf : fX12_laySeats_89 rc11 v1 v2 v3 v4 v5 s0 S = some S') : Fr (inM 999999 LX12_laySeats) S S' := by
  unfold fX12_laySeats_89 at hf
  exact (Fr.rfl (inM 999999 LX12_laySeats) _).trans (rX12_laySeats_90 Hrc11 hf)
theorem rX12_laySeats_55 {S' : mT} {rc11 : Int32 → Int32 → Int32 → Int32 → Int32 → mT → Option (mT)} (Hrc11 : ∀ (v1 : Int32) (v2 : Int32) (v3 : Int32) (v4 : Int32) (v5 : Int32) (S : mT), rc11 v1 v2 v3 v4 v5 S = some S' → Fr (inM 999999 LX12_laySeats) S S') {v1 : Int32} {v2 : Int32} {v3 : Int32} {v4 : Int32} {v5 : Int32} {s0 : Int32} {s1 : Int32} {S : mT} (hf : fX12_laySeats_55 rc11 v1 v2 v3 v4 v5 s0 s1 S = some S') : Fr (inM 999999 LX12_laySeats) S S' := by
  unfold fX12_laySeats_55 at hf
  obtain ⟨-, hf⟩ := grd_ex hf
  obtain ⟨S3, eS3, hf⟩ := bnd_ex hf
  have F : Fr (inM 999999 LX12_laySeats) S S3 := by
    rw [eS3]
    exact Fr.sI (Fr.rfl (inM 999999 LX12_laySeats) _) rfl
  obtain ⟨-, hf⟩ := grd_ex hf
  by_cases hc : v3 ≤ 0
  · rw [if_pos hc] at hf
    exact F.trans (rX12_laySeats_89 Hrc11 hf)
  · rw [if_neg hc] at hf
    obtain ⟨-, hf⟩ := grd_ex hf
    by_cases hc : (S3.1 187 37) ≤ v5
    · rw [if_pos hc] at hf
      exact F.trans (rX12_laySeats_89 Hrc11 hf)
    · rw [if_neg hc] at hf
      obtain ⟨-, hf⟩ := grd_ex hf
      exact F.trans (rX12_laySeats_90 Hrc11 hf)
theorem rX12_laySeats_54 {S' : mT} {rc11 : Int32 → Int32 → Int32 → Int32 → Int32 → mT → Option (mT)} (Hrc11 : ∀ (v1 : Int32) (v2 : Int32) (v3 : Int32) (v4 : Int32) (v5 : Int32) (S : mT), rc11 v1 v2 v3 v4 v5 S = some S' → Fr (inM 999999 LX12_laySeats) S S') {v1 : Int32} {v2 : Int32} {v3 : Int32} {v4 : Int32} {v5 : Int32} {s0 : Int32} {S : mT} (hf : fX12_laySeats_54 rc11 v1 v2 v3 v4 v5 s0 S = some S') : Fr (inM 999999 LX12_laySeats) S S' := by
  unfold fX12_laySeats_54 at hf
  exact (Fr.rfl (inM 999999 LX12_laySeats) _).trans (rX12_laySeats_55 Hrc11 hf)
theorem rX12_laySeats_198 {S' : mT} {rc109 : Int32 → Int32 → Int32 → mT → Option (mT)} (Hrc109 : ∀ (v2 : Int32) (v3 : Int32) (v4 : Int32) (S : mT), rc109 v2 v3 v4 S = some S' → Fr (inM 999999 LX12_laySeats) S S') {rc124 : Int32 → Int32 → Int32 → Int32 → Int32 → mT → Option (mT)} (Hrc124 : ∀ (v2 : Int32) (v3 : Int32) (v4 : Int32) (v5 : Int32) (v6 : Int32) (S : mT), rc124 v2 v3 v4 v5 v6 S = some S' → Fr (inM 999999 LX12_laySeats) S S') {v2 : Int32} {v3 : Int32} {v4 : Int32} {v5 : Int32} {v6 : Int32} {S : mT} (hf : fX12_laySeats_198 rc109 rc124 v2 v3 v4 v5 v6 S = some S') : Fr (inM 999999 LX12_laySeats) S S' := by
  unfold fX12_laySeats_198 at hf
  obtain ⟨x10, -, hf⟩ := bnd_ex hf
  exact (Fr.rfl (inM 999999 LX12_laySeats) _).trans (Hrc124 _ _ _ _ _ _ hf)
theorem rX12_laySeats_194 {S' : mT} {rc109 : Int32 → Int32 → Int32 → mT → Option (mT)} (Hrc109 : ∀ (v2 : Int32) (v3 : Int32) (v4 : Int32) (S : mT), rc109 v2 v3 v4 S = some S' → Fr (inM 999999 LX12_laySeats) S S') {rc124 : Int32 → Int32 → Int32 → Int32 → Int32 → mT → Option (mT)} (Hrc124 : ∀ (v2 : Int32) (v3 : Int32) (v4 : Int32) (v5 : Int32) (v6 : Int32) (S : mT), rc124 v2 v3 v4 v5 v6 S = some S' → Fr (inM 999999 LX12_laySeats) S S') {v2 : Int32} {v3 : Int32} {v4 : Int32} {v6 : Int32} {S : mT} (hf : fX12_laySeats_194 rc109 rc124 v2 v3 v4 v6 S = some S') : Fr (inM 999999 LX12_laySeats) S S' := by
  unfold fX12_laySeats_194 at hf
  exact (Fr.rfl (inM 999999 LX12_laySeats) _).trans (rX12_laySeats_198 Hrc109 Hrc124 hf)
theorem rX12_laySeats_124 {S' : mT} {rc109 : Int32 → Int32 → Int32 → mT → Option (mT)} (Hrc109 : ∀ (v2 : Int32) (v3 : Int32) (v4 : Int32) (S : mT), rc109 v2 v3 v4 S = some S' → Fr (inM 999999 LX12_laySeats) S S') : ∀ (k : Nat) (v2 : Int32) (v3 : Int32) (v4 : Int32) (v5 : Int32) (v6 : Int32) (S : mT), fX12_laySeats_124 rc109 k v2 v3 v4 v5 v6 S = some S' → Fr (inM 999999 LX12_laySeats) S S' := by
  intro k
  induction k with
  | zero =>
    intro v2 v3 v4 v5 v6 S hf
    cases hf
  | succ k ih =>
    intro v2 v3 v4 v5 v6 S hf
    unfold fX12_laySeats_124 at hf
    obtain ⟨-, hf⟩ := grd_ex hf
    by_cases hc : (S.1 187 37) ≤ v6
    · rw [if_pos hc] at hf
      obtain ⟨-, hf⟩ := grd_ex hf
      obtain ⟨S4, eS4, hf⟩ := bnd_ex hf
      have F : Fr (inM 999999 LX12_laySeats) S S4 := by
        rw [eS4]
        exact Fr.sI (Fr.rfl (inM 999999 LX12_laySeats) _) rfl
      obtain ⟨-, hf⟩ := grd_ex hf
      obtain ⟨S5, eS5, hf⟩ := bnd_ex hf
      have F : Fr (inM 999999 LX12_laySeats) S S5 := by
        rw [eS5]
        exact Fr.sI F rfl
      obtain ⟨x6, -, hf⟩ := bnd_ex hf
      exact F.trans (Hrc109 _ _ _ _ hf)
    · rw [if_neg hc] at hf
      by_cases hc : v2 = 0
      · rw [if_pos hc] at hf
        obtain ⟨-, hf⟩ := grd_ex hf
        by_cases hc : (S.1 218 (mIx v6)) ≤ (S.1 218 (mIx v5))
        · rw [if_pos hc] at hf
          exact (Fr.rfl (inM 999999 LX12_laySeats) _).trans (rX12_laySeats_198 Hrc109 ih hf)
        · rw [if_neg hc] at hf
          exact (Fr.rfl (inM 999999 LX12_laySeats) _).trans (rX12_laySeats_194 Hrc109 ih hf)
      · rw [if_neg hc] at hf
        obtain ⟨-, hf⟩ := grd_ex hf
        obtain ⟨-, hf⟩ := grd_ex hf
        by_cases hc : ((S.1 211 (mIx v6)) * ((S.1 217 (mIx v5)) + (1 : Int32))) ≤ ((S.1 211 (mIx v5)) * ((S.1 217 (mIx v6)) + (1 : Int32)))
        · rw [if_pos hc] at hf
          exact (Fr.rfl (inM 999999 LX12_laySeats) _).trans (rX12_laySeats_198 Hrc109 ih hf)
        · rw [if_neg hc] at hf
          exact (Fr.rfl (inM 999999 LX12_laySeats) _).trans (rX12_laySeats_194 Hrc109 ih hf)
theorem rX12_laySeats_229 {S' : mT} {S : mT} (hf : fX12_laySeats_229 S = some S') : Fr (inM 999999 LX12_laySeats) S S' := by
  unfold fX12_laySeats_229 at hf
  cases hf
  exact (Fr.rfl (inM 999999 LX12_laySeats) _)
theorem rX12_laySeats_109 {S' : mT} : ∀ (k : Nat) (v2 : Int32) (v3 : Int32) (v4 : Int32) (S : mT), fX12_laySeats_109 k v2 v3 v4 S = some S' → Fr (inM 999999 LX12_laySeats) S S' := by
  intro k
  induction k with
  | zero =>
    intro v2 v3 v4 S hf
    cases hf
  | succ k ih =>
    intro v2 v3 v4 S hf
    unfold fX12_laySeats_109 at hf
    by_cases hc : v4 ≤ 0
    · rw [if_pos hc] at hf
      exact (Fr.rfl (inM 999999 LX12_laySeats) _).trans (rX12_laySeats_229 hf)
    · rw [if_neg hc] at hf
      by_cases hc : v3 ≤ 0
      · rw [if_pos hc] at hf
        exact (Fr.rfl (inM 999999 LX12_laySeats) _).trans (rX12_laySeats_229 hf)
      · rw [if_neg hc] at hf
        exact (Fr.rfl (inM 999999 LX12_laySeats) _).trans (rX12_laySeats_124 ih _ _ _ _ _ _ _ hf)
theorem rX12_laySeats_11 {S' : mT} : ∀ (k : Nat) (v1 : Int32) (v2 : Int32) (v3 : Int32) (v4 : Int32) (v5 : Int32) (S : mT), fX12_laySeats_11 k v1 v2 v3 v4 v5 S = some S' → Fr (inM 999999 LX12_laySeats) S S' := by
  intro k
  induction k with
  | zero =>
    intro v1 v2 v3 v4 v5 S hf
    cases hf
  | succ k ih =>
    intro v1 v2 v3 v4 v5 S hf
    unfold fX12_laySeats_11 at hf
    by_cases hc : (5 : Int32) ≤ v5
    · rw [if_pos hc] at hf
      exact (Fr.rfl (inM 999999 LX12_laySeats) _).trans (rX12_laySeats_109 _ _ _ _ _ hf)
    · rw [if_neg hc] at hf
      obtain ⟨-, hf⟩ := grd_ex hf
      by_cases hc : v2 = 0
      · rw [if_pos hc] at hf
        by_cases hc : v3 ≤ 0
        · rw [if_pos hc] at hf
          exact (Fr.rfl (inM 999999 LX12_laySeats) _).trans (rX12_laySeats_54 ih hf)
        · rw [if_neg hc] at hf
          obtain ⟨-, hf⟩ := grd_ex hf
          by_cases hc : (S.1 187 37) ≤ v5
          · rw [if_pos hc] at hf
            exact (Fr.rfl (inM 999999 LX12_laySeats) _).trans (rX12_laySeats_54 ih hf)
          · rw [if_neg hc] at hf
            obtain ⟨-, hf⟩ := grd_ex hf
            exact (Fr.rfl (inM 999999 LX12_laySeats) _).trans (rX12_laySeats_55 ih hf)
      · rw [if_neg hc] at hf
        exact (Fr.rfl (inM 999999 LX12_laySeats) _).trans (rX12_laySeats_54 ih hf)
theorem rX12_laySeats_0 {S' : mT} {v1 : Int32} {v2 : Int32} {S : mT} (hf : fX12_laySeats v1 v2 S = some S') : Fr (inM 999999 LX12_laySeats) S S' := by
  unfold fX12_laySeats at hf
  obtain ⟨x2, S1, hq, hf⟩ := bndC_ex hf
  have F := (Fr.rfl (inM 999999 LX12_laySeats) _).trans ((rX12_allBowls hq).mono rfl (fun _ => rfl))
  exact F.trans (rX12_laySeats_11 _ _ _ _ _ _ _ hf)
theorem rX12_laySeats {v1 : Int32} {v2 : Int32} {S S' : mT} (hf : fX12_laySeats v1 v2 S = some S') : Fr (inM 999999 LX12_laySeats) S S' := rX12_laySeats_0 hf
abbrev LX12_layTaxes : List (Nat × Nat × Option Nat) := [(999999, 999999, none), (187, 187, some 43), (187, 187, some 44), (197, 197, none), (200, 200, none), (209, 209, none), (210, 210, none), (211, 211, none), (213, 213, none)]
theorem rX12_layTaxes_71 {S' : mT} {rc6 : Int32 → mT → Option (mT)} (Hrc6 : ∀ (v1 : Int32) (S : mT), rc6 v1 S = some S' → Fr (inM 999999 LX12_layTaxes) S S') {rc16 : Int32 → Int32 → mT → Option (mT)} (Hrc16 : ∀ (v1 : Int32) (v2 : Int32) (S : mT), rc16 v1 v2 S = some S' → Fr (inM 999999 LX12_layTaxes) S S') {v1 : Int32} {v2 : Int32} {s0 : Int32} {s1 : Int32} {S : mT} (hf : fX12_layTaxes_71 rc6 rc16 v1 v2 s0 s1 S = some S') : Fr (inM 999999 LX12_layTaxes) S S' := by
  unfold fX12_layTaxes_71 at hf
  obtain ⟨-, hf⟩ := grd_ex hf
  obtain ⟨S10, eS10, hf⟩ := bnd_ex hf
  have F : Fr (inM 999999 LX12_layTaxes) S S10 := by
    rw [eS10]
    exact Fr.sI (Fr.rfl (inM 999999 LX12_layTaxes) _) rfl
  obtain ⟨x11, -, hf⟩ := bnd_ex hf
  exact F.trans (Hrc16 _ _ _ hf)
theorem rX12_layTaxes_57 {S' : mT} {rc6 : Int32 → mT → Option (mT)} (Hrc6 : ∀ (v1 : Int32) (S : mT), rc6 v1 S = some S' → Fr (inM 999999 LX12_layTaxes) S S') {rc16 : Int32 → Int32 → mT → Option (mT)} (Hrc16 : ∀ (v1 : Int32) (v2 : Int32) (S : mT), rc16 v1 v2 S = some S' → Fr (inM 999999 LX12_layTaxes) S S') {v1 : Int32} {v2 : Int32} {s0 : Int32} {S : mT} (hf : fX12_layTaxes_57 rc6 rc16 v1 v2 s0 S = some S') : Fr (inM 999999 LX12_layTaxes) S S' := by
  unfold fX12_layTaxes_57 at hf
  exact (Fr.rfl (inM 999999 LX12_layTaxes) _).trans (rX12_layTaxes_71 Hrc6 Hrc16 hf)
theorem rX12_layTaxes_16 {S' : mT} {rc6 : Int32 → mT → Option (mT)} (Hrc6 : ∀ (v1 : Int32) (S : mT), rc6 v1 S = some S' → Fr (inM 999999 LX12_layTaxes) S S') : ∀ (k : Nat) (v1 : Int32) (v2 : Int32) (S : mT), fX12_layTaxes_16 rc6 k v1 v2 S = some S' → Fr (inM 999999 LX12_layTaxes) S S' := by
  intro k
  induction k with
  | zero =>
    intro v1 v2 S hf
    cases hf
  | succ k ih =>
    intro v1 v2 S hf
    unfold fX12_layTaxes_16 at hf
    by_cases hc : (7 : Int32) < v2
    · rw [if_pos hc] at hf
      obtain ⟨x2, -, hf⟩ := bnd_ex hf
      exact (Fr.rfl (inM 999999 LX12_layTaxes) _).trans (Hrc6 _ _ hf)
    · rw [if_neg hc] at hf
      obtain ⟨-, hf⟩ := grd_ex hf
      obtain ⟨S3, eS3, hf⟩ := bnd_ex hf
      have F : Fr (inM 999999 LX12_layTaxes) S S3 := by
        rw [eS3]
        exact Fr.sI (Fr.rfl (inM 999999 LX12_layTaxes) _) rfl
      obtain ⟨-, hf⟩ := grd_ex hf
      obtain ⟨-, hf⟩ := grd_ex hf
      by_cases hc : (S3.1 209 (mIx v1)) < v2
      · rw [if_pos hc] at hf
        exact F.trans (rX12_layTaxes_57 Hrc6 ih hf)
      · rw [if_neg hc] at hf
        obtain ⟨x5, S4, hq, hf⟩ := bndC_ex hf
        have F := F.trans ((rX12_shows hq).mono rfl (fun _ => rfl))
        by_cases hc : x5 = 0
        · rw [if_pos hc] at hf
          obtain ⟨x7, S6, hq, hf⟩ := bndC_ex hf
          have F := F.trans ((rX12_stonesOf hq).mono rfl (fun _ => rfl))
          obtain ⟨x9, S8, hq, hf⟩ := bndC_ex hf
          have F := F.trans ((rX12_taxOf hq).mono rfl (fun _ => rfl))
          exact F.trans (rX12_layTaxes_71 Hrc6 ih hf)
        · rw [if_neg hc] at hf
          exact F.trans (rX12_layTaxes_57 Hrc6 ih hf)
theorem rX12_layTaxes_6 {S' : mT} : ∀ (k : Nat) (v1 : Int32) (S : mT), fX12_layTaxes_6 k v1 S = some S' → Fr (inM 999999 LX12_layTaxes) S S' := by
  intro k
  induction k with
  | zero =>
    intro v1 S hf
    cases hf
  | succ k ih =>
    intro v1 S hf
    unfold fX12_layTaxes_6 at hf
    obtain ⟨-, hf⟩ := grd_ex hf
    by_cases hc : (S.1 187 37) ≤ v1
    · rw [if_pos hc] at hf
      cases hf
      exact (Fr.rfl (inM 999999 LX12_layTaxes) _)
    · rw [if_neg hc] at hf
      exact (Fr.rfl (inM 999999 LX12_layTaxes) _).trans (rX12_layTaxes_16 ih _ _ _ _ hf)
theorem rX12_layTaxes_0 {S' : mT} {S : mT} (hf : fX12_layTaxes S = some S') : Fr (inM 999999 LX12_layTaxes) S S' := by
  unfold fX12_layTaxes at hf
  obtain ⟨S1, hq, hf⟩ := bndV_ex hf
  have F := (Fr.rfl (inM 999999 LX12_layTaxes) _).trans ((rX12_load hq).mono rfl (fun _ => rfl))
  exact F.trans (rX12_layTaxes_6 _ _ _ hf)
theorem rX12_layTaxes {S S' : mT} (hf : fX12_layTaxes S = some S') : Fr (inM 999999 LX12_layTaxes) S S' := rX12_layTaxes_0 hf
abbrev LX12_least : List (Nat × Nat × Option Nat) := [(999999, 999999, none), (187, 187, some 43), (187, 187, some 44), (197, 197, none), (200, 200, none), (209, 209, none), (210, 210, none), (211, 211, none), (213, 213, none)]
theorem rX12_least_76 {S' : mT} {r : Int32} {rc8 : Int32 → Int32 → mT → Option (Int32 × mT)} (Hrc8 : ∀ (v1 : Int32) (v2 : Int32) (S : mT), rc8 v1 v2 S = some (r, S') → Fr (inM 999999 LX12_least) S S') {rc21 : Int32 → Int32 → Int32 → Int32 → mT → Option (Int32 × mT)} (Hrc21 : ∀ (v1 : Int32) (v2 : Int32) (v3 : Int32) (v4 : Int32) (S : mT), rc21 v1 v2 v3 v4 S = some (r, S') → Fr (inM 999999 LX12_least) S S') {v1 : Int32} {v2 : Int32} {v3 : Int32} {v4 : Int32} {S : mT} (hf : fX12_least_76 rc8 rc21 v1 v2 v3 v4 S = some (r, S')) : Fr (inM 999999 LX12_least) S S' := by
  unfold fX12_least_76 at hf
  obtain ⟨x4, -, hf⟩ := bnd_ex hf
  exact (Fr.rfl (inM 999999 LX12_least) _).trans (Hrc21 _ _ _ _ _ hf)
theorem rX12_least_63 {S' : mT} {r : Int32} {rc8 : Int32 → Int32 → mT → Option (Int32 × mT)} (Hrc8 : ∀ (v1 : Int32) (v2 : Int32) (S : mT), rc8 v1 v2 S = some (r, S') → Fr (inM 999999 LX12_least) S S') {rc21 : Int32 → Int32 → Int32 → Int32 → mT → Option (Int32 × mT)} (Hrc21 : ∀ (v1 : Int32) (v2 : Int32) (v3 : Int32) (v4 : Int32) (S : mT), rc21 v1 v2 v3 v4 S = some (r, S') → Fr (inM 999999 LX12_least) S S') {v1 : Int32} {v2 : Int32} {v4 : Int32} {S : mT} (hf : fX12_least_63 rc8 rc21 v1 v2 v4 S = some (r, S')) : Fr (inM 999999 LX12_least) S S' := by
  unfold fX12_least_63 at hf
  obtain ⟨-, hf⟩ := grd_ex hf
  obtain ⟨x5, -, hf⟩ := bnd_ex hf
  exact (Fr.rfl (inM 999999 LX12_least) _).trans (rX12_least_76 Hrc8 Hrc21 hf)
theorem rX12_least_21 {S' : mT} {r : Int32} {rc8 : Int32 → Int32 → mT → Option (Int32 × mT)} (Hrc8 : ∀ (v1 : Int32) (v2 : Int32) (S : mT), rc8 v1 v2 S = some (r, S') → Fr (inM 999999 LX12_least) S S') : ∀ (k : Nat) (v1 : Int32) (v2 : Int32) (v3 : Int32) (v4 : Int32) (S : mT), fX12_least_21 rc8 k v1 v2 v3 v4 S = some (r, S') → Fr (inM 999999 LX12_least) S S' := by
  intro k
  induction k with
  | zero =>
    intro v1 v2 v3 v4 S hf
    cases hf
  | succ k ih =>
    intro v1 v2 v3 v4 S hf
    unfold fX12_least_21 at hf
    by_cases hc : (7 : Int32) < v4
    · rw [if_pos hc] at hf
      by_cases hc : 0 ≤ v3
      · rw [if_pos hc] at hf
        obtain ⟨x2, -, hf⟩ := bnd_ex hf
        obtain ⟨x3, -, hf⟩ := bnd_ex hf
        exact (Fr.rfl (inM 999999 LX12_least) _).trans (Hrc8 _ _ _ hf)
      · rw [if_neg hc] at hf
        cases hf
        exact (Fr.rfl (inM 999999 LX12_least) _)
    · rw [if_neg hc] at hf
      obtain ⟨-, hf⟩ := grd_ex hf
      by_cases hc : (S.1 213 (mIx (((8 : Int32) * v2) + v4))) < 0
      · rw [if_pos hc] at hf
        exact (Fr.rfl (inM 999999 LX12_least) _).trans (rX12_least_76 Hrc8 ih hf)
      · rw [if_neg hc] at hf
        by_cases hc : v3 < 0
        · rw [if_pos hc] at hf
          exact (Fr.rfl (inM 999999 LX12_least) _).trans (rX12_least_63 Hrc8 ih hf)
        · rw [if_neg hc] at hf
          obtain ⟨-, hf⟩ := grd_ex hf
          by_cases hc : v3 ≤ (S.1 213 (mIx (((8 : Int32) * v2) + v4)))
          · rw [if_pos hc] at hf
            exact (Fr.rfl (inM 999999 LX12_least) _).trans (rX12_least_76 Hrc8 ih hf)
          · rw [if_neg hc] at hf
            exact (Fr.rfl (inM 999999 LX12_least) _).trans (rX12_least_63 Hrc8 ih hf)
theorem rX12_least_8 {S' : mT} {r : Int32} : ∀ (k : Nat) (v1 : Int32) (v2 : Int32) (S : mT), fX12_least_8 k v1 v2 S = some (r, S') → Fr (inM 999999 LX12_least) S S' := by
  intro k
  induction k with
  | zero =>
    intro v1 v2 S hf
    cases hf
  | succ k ih =>
    intro v1 v2 S hf
    unfold fX12_least_8 at hf
    obtain ⟨-, hf⟩ := grd_ex hf
    by_cases hc : (S.1 187 37) ≤ v2
    · rw [if_pos hc] at hf
      cases hf
      exact (Fr.rfl (inM 999999 LX12_least) _)
    · rw [if_neg hc] at hf
      exact (Fr.rfl (inM 999999 LX12_least) _).trans (rX12_least_21 ih _ _ _ _ _ _ hf)
theorem rX12_least_0 {S' : mT} {r : Int32} {S : mT} (hf : fX12_least S = some (r, S')) : Fr (inM 999999 LX12_least) S S' := by
  unfold fX12_least at hf
  obtain ⟨S1, hq, hf⟩ := bndV_ex hf
  have F := (Fr.rfl (inM 999999 LX12_least) _).trans ((rX12_layTaxes hq).mono rfl (fun _ => rfl))
  exact F.trans (rX12_least_8 _ _ _ _ hf)
theorem rX12_least {S S' : mT} {r : Int32} (hf : fX12_least S = some (r, S')) : Fr (inM 999999 LX12_least) S S' := rX12_least_0 hf
abbrev LX12_taxOfRow : List (Nat × Nat × Option Nat) := [(999999, 999999, none), (187, 187, some 52), (214, 214, none)]
theorem rX12_taxOfRow_17 {S' : mT} {r : Int32} : ∀ (k : Nat) (v2 : Int32) (v3 : Int32) (v4 : Int32) (S : mT), fX12_taxOfRow_17 k v2 v3 v4 S = some (r, S') → Fr (inM 999999 LX12_taxOfRow) S S' := by
  intro k
  induction k with
  | zero =>
    intro v2 v3 v4 S hf
    cases hf
  | succ k ih =>
    intro v2 v3 v4 S hf
    unfold fX12_taxOfRow_17 at hf
    by_cases hc : v4 < 0
    · rw [if_pos hc] at hf
      cases hf
      exact (Fr.rfl (inM 999999 LX12_taxOfRow) _)
    · rw [if_neg hc] at hf
      obtain ⟨-, hf⟩ := grd_ex hf
      obtain ⟨S3, eS3, hf⟩ := bnd_ex hf
      have F : Fr (inM 999999 LX12_taxOfRow) S S3 := by
        rw [eS3]
        exact Fr.sI (Fr.rfl (inM 999999 LX12_taxOfRow) _) rfl
      obtain ⟨-, hf⟩ := grd_ex hf
      obtain ⟨x4, -, hf⟩ := bnd_ex hf
      obtain ⟨-, hf⟩ := grd_ex hf
      obtain ⟨-, hf⟩ := grd_ex hf
      obtain ⟨x5, -, hf⟩ := bnd_ex hf
      by_cases hc : 0 ≤ x5
      · rw [if_pos hc] at hf
        obtain ⟨x6, -, hf⟩ := bnd_ex hf
        obtain ⟨-, hf⟩ := grd_ex hf
        obtain ⟨S7, eS7, hf⟩ := bnd_ex hf
        have F : Fr (inM 999999 LX12_taxOfRow) S S7 := by
          rw [eS7]
          exact Fr.sI F rfl
        obtain ⟨x8, -, hf⟩ := bnd_ex hf
        exact F.trans (ih _ _ _ _ hf)
      · rw [if_neg hc] at hf
        cases hf
        exact F
theorem rX12_taxOfRow_0 {S' : mT} {r : Int32} {v1 : Int32} {S : mT} (hf : fX12_taxOfRow v1 S = some (r, S')) : Fr (inM 999999 LX12_taxOfRow) S S' := by
  unfold fX12_taxOfRow at hf
  obtain ⟨-, hf⟩ := grd_ex hf
  obtain ⟨S1, eS1, hf⟩ := bnd_ex hf
  have F : Fr (inM 999999 LX12_taxOfRow) S S1 := by
    rw [eS1]
    exact Fr.sI (Fr.rfl (inM 999999 LX12_taxOfRow) _) rfl
  obtain ⟨-, hf⟩ := grd_ex hf
  obtain ⟨x2, -, hf⟩ := bnd_ex hf
  exact F.trans (rX12_taxOfRow_17 _ _ _ _ _ hf)
theorem rX12_taxOfRow {v1 : Int32} {S S' : mT} {r : Int32} (hf : fX12_taxOfRow v1 S = some (r, S')) : Fr (inM 999999 LX12_taxOfRow) S S' := rX12_taxOfRow_0 hf
abbrev LX12_leave : List (Nat × Nat × Option Nat) := [(999999, 999999, none), (187, 187, some 43), (187, 187, some 44), (187, 187, some 51), (187, 187, some 52), (197, 197, none), (200, 200, none), (209, 209, none), (210, 210, none), (211, 211, none), (213, 213, none), (214, 214, none), (215, 215, none)]
theorem rX12_leave_117 {S' : mT} {r : Int32} {rc32 : Int32 → Int32 → Int32 → Int32 → mT → Option (Int32 × mT)} (Hrc32 : ∀ (v1 : Int32) (v2 : Int32) (v3 : Int32) (v4 : Int32) (S : mT), rc32 v1 v2 v3 v4 S = some (r, S') → Fr (inM 999999 LX12_leave) S S') {v1 : Int32} {v2 : Int32} {v3 : Int32} {v4 : Int32} {S : mT} (hf : fX12_leave_117 rc32 v1 v2 v3 v4 S = some (r, S')) : Fr (inM 999999 LX12_leave) S S' := by
  unfold fX12_leave_117 at hf
  obtain ⟨x9, -, hf⟩ := bnd_ex hf
  exact (Fr.rfl (inM 999999 LX12_leave) _).trans (Hrc32 _ _ _ _ _ hf)
theorem rX12_leave_80 {S' : mT} {r : Int32} {rc32 : Int32 → Int32 → Int32 → Int32 → mT → Option (Int32 × mT)} (Hrc32 : ∀ (v1 : Int32) (v2 : Int32) (v3 : Int32) (v4 : Int32) (S : mT), rc32 v1 v2 v3 v4 S = some (r, S') → Fr (inM 999999 LX12_leave) S S') : ∀ (k : Nat) (v1 : Int32) (v2 : Int32) (v3 : Int32) (v4 : Int32) (v6 : Int32) (S : mT), fX12_leave_80 rc32 k v1 v2 v3 v4 v6 S = some (r, S') → Fr (inM 999999 LX12_leave) S S' := by
  intro k
  induction k with
  | zero =>
    intro v1 v2 v3 v4 v6 S hf
    cases hf
  | succ k ih =>
    intro v1 v2 v3 v4 v6 S hf
    unfold fX12_leave_80 at hf
    obtain ⟨-, hf⟩ := grd_ex hf
    by_cases hc : (S.1 187 37) ≤ v6
    · rw [if_pos hc] at hf
      obtain ⟨-, hf⟩ := grd_ex hf
      obtain ⟨S11, eS11, hf⟩ := bnd_ex hf
      have F : Fr (inM 999999 LX12_leave) S S11 := by
        rw [eS11]
        exact Fr.sI (Fr.rfl (inM 999999 LX12_leave) _) rfl
      exact F.trans (rX12_leave_117 Hrc32 hf)
    · rw [if_neg hc] at hf
      obtain ⟨-, hf⟩ := grd_ex hf
      obtain ⟨S12, eS12, hf⟩ := bnd_ex hf
      have F : Fr (inM 999999 LX12_leave) S S12 := by
        rw [eS12]
        exact Fr.sI (Fr.rfl (inM 999999 LX12_leave) _) rfl
      obtain ⟨x13, -, hf⟩ := bnd_ex hf
      exact F.trans (ih _ _ _ _ _ _ hf)
theorem rX12_leave_72 {S' : mT} {r : Int32} {rc32 : Int32 → Int32 → Int32 → Int32 → mT → Option (Int32 × mT)} (Hrc32 : ∀ (v1 : Int32) (v2 : Int32) (v3 : Int32) (v4 : Int32) (S : mT), rc32 v1 v2 v3 v4 S = some (r, S') → Fr (inM 999999 LX12_leave) S S') {v1 : Int32} {v3 : Int32} {v4 : Int32} {S : mT} (hf : fX12_leave_72 rc32 v1 v3 v4 S = some (r, S')) : Fr (inM 999999 LX12_leave) S S' := by
  unfold fX12_leave_72 at hf
  obtain ⟨-, hf⟩ := grd_ex hf
  obtain ⟨x10, -, hf⟩ := bnd_ex hf
  exact (Fr.rfl (inM 999999 LX12_leave) _).trans (rX12_leave_80 Hrc32 _ _ _ _ _ _ _ hf)
theorem rX12_leave_32 {S' : mT} {r : Int32} : ∀ (k : Nat) (v1 : Int32) (v2 : Int32) (v3 : Int32) (v4 : Int32) (S : mT), fX12_leave_32 k v1 v2 v3 v4 S = some (r, S') → Fr (inM 999999 LX12_leave) S S' := by
  intro k
  induction k with
  | zero =>
    intro v1 v2 v3 v4 S hf
    cases hf
  | succ k ih =>
    intro v1 v2 v3 v4 S hf
    unfold fX12_leave_32 at hf
    by_cases hc : v3 ≤ v4
    · rw [if_pos hc] at hf
      cases hf
      exact (Fr.rfl (inM 999999 LX12_leave) _)
    · rw [if_neg hc] at hf
      obtain ⟨x8, S7, hq, hf⟩ := bndC_ex hf
      have F := (Fr.rfl (inM 999999 LX12_leave) _).trans ((rX12_taxOfRow hq).mono rfl (fun _ => rfl))
      by_cases hc : x8 < 0
      · rw [if_pos hc] at hf
        exact F.trans (rX12_leave_117 ih hf)
      · rw [if_neg hc] at hf
        by_cases hc : v1 < x8
        · rw [if_pos hc] at hf
          exact F.trans (rX12_leave_117 ih hf)
        · rw [if_neg hc] at hf
          by_cases hc : v2 < 0
          · rw [if_pos hc] at hf
            exact F.trans (rX12_leave_72 ih hf)
          · rw [if_neg hc] at hf
            obtain ⟨-, hf⟩ := grd_ex hf
            by_cases hc : (S7.1 187 52) < v2
            · rw [if_pos hc] at hf
              exact F.trans (rX12_leave_72 ih hf)
            · rw [if_neg hc] at hf
              exact F.trans (rX12_leave_117 ih hf)
theorem rX12_leave_0 {S' : mT} {r : Int32} {v1 : Int32} {S : mT} (hf : fX12_leave v1 S = some (r, S')) : Fr (inM 999999 LX12_leave) S S' := by
  unfold fX12_leave at hf
  obtain ⟨-, hf⟩ := grd_ex hf
  obtain ⟨S1, eS1, hf⟩ := bnd_ex hf
  have F : Fr (inM 999999 LX12_leave) S S1 := by
    rw [eS1]
    exact Fr.sI (Fr.rfl (inM 999999 LX12_leave) _) rfl
  obtain ⟨x3, S2, hq, hf⟩ := bndC_ex hf
  have F := F.trans ((rX12_isIn hq).mono rfl (fun _ => rfl))
  by_cases hc : x3 = 0
  · rw [if_pos hc] at hf
    cases hf
    exact F
  · rw [if_neg hc] at hf
    obtain ⟨S4, hq, hf⟩ := bndV_ex hf
    have F := F.trans ((rX12_layTaxes hq).mono rfl (fun _ => rfl))
    obtain ⟨x6, S5, hq, hf⟩ := bndC_ex hf
    have F := F.trans ((rX12_rowsOf hq).mono rfl (fun _ => rfl))
    exact F.trans (rX12_leave_32 _ _ _ _ _ _ hf)
theorem rX12_leave {v1 : Int32} {S S' : mT} {r : Int32} (hf : fX12_leave v1 S = some (r, S')) : Fr (inM 999999 LX12_leave) S S' := rX12_leave_0 hf
abbrev LX12_liars : List (Nat × Nat × Option Nat) := [(999999, 999999, none), (187, 187, some 51), (215, 215, none)]
theorem rX12_liars_46 {S' : mT} {r : Int32} {rc14 : Int32 → Int32 → Int32 → Int32 → Int32 → mT → Option (Int32 × mT)} (Hrc14 : ∀ (v1 : Int32) (v2 : Int32) (v3 : Int32) (v4 : Int32) (v5 : Int32) (S : mT), rc14 v1 v2 v3 v4 v5 S = some (r, S') → Fr (inM 999999 LX12_liars) S S') {v1 : Int32} {v2 : Int32} {v3 : Int32} {v4 : Int32} {v5 : Int32} {S : mT} (hf : fX12_liars_46 rc14 v1 v2 v3 v4 v5 S = some (r, S')) : Fr (inM 999999 LX12_liars) S S' := by
  unfold fX12_liars_46 at hf
  obtain ⟨x10, -, hf⟩ := bnd_ex hf
  exact (Fr.rfl (inM 999999 LX12_liars) _).trans (Hrc14 _ _ _ _ _ _ hf)
theorem rX12_liars_55 {S' : mT} {r : Int32} : ∀ (k : Nat) (v2 : Int32) (v3 : Int32) (v5 : Int32) (S : mT), fX12_liars_55 k v2 v3 v5 S = some (r, S') → Fr (inM 999999 LX12_liars) S S' := by
  intro k
  induction k with
  | zero =>
    intro v2 v3 v5 S hf
    cases hf
  | succ k ih =>
    intro v2 v3 v5 S hf
    unfold fX12_liars_55 at hf
    obtain ⟨-, hf⟩ := grd_ex hf
    by_cases hc : (S.1 187 37) ≤ v5
    · rw [if_pos hc] at hf
      obtain ⟨-, hf⟩ := grd_ex hf
      obtain ⟨S5, eS5, hf⟩ := bnd_ex hf
      have F : Fr (inM 999999 LX12_liars) S S5 := by
        rw [eS5]
        exact Fr.sI (Fr.rfl (inM 999999 LX12_liars) _) rfl
      cases hf
      exact F
    · rw [if_neg hc] at hf
      obtain ⟨-, hf⟩ := grd_ex hf
      obtain ⟨x7, S6, hq, hf⟩ := bndC_ex hf
      have F := (Fr.rfl (inM 999999 LX12_liars) _).trans ((rX12_headOf hq).mono rfl (fun _ => rfl))
      obtain ⟨-, hf⟩ := grd_ex hf
      obtain ⟨S8, eS8, hf⟩ := bnd_ex hf
      have F : Fr (inM 999999 LX12_liars) S S8 := by
        rw [eS8]
        exact Fr.sI F rfl
      obtain ⟨x9, -, hf⟩ := bnd_ex hf
      exact F.trans (ih _ _ _ _ hf)
theorem rX12_liars_14 {S' : mT} {r : Int32} : ∀ (k : Nat) (v1 : Int32) (v2 : Int32) (v3 : Int32) (v4 : Int32) (v5 : Int32) (S : mT), fX12_liars_14 k v1 v2 v3 v4 v5 S = some (r, S') → Fr (inM 999999 LX12_liars) S S' := by
  intro k
  induction k with
  | zero =>
    intro v1 v2 v3 v4 v5 S hf
    cases hf
  | succ k ih =>
    intro v1 v2 v3 v4 v5 S hf
    unfold fX12_liars_14 at hf
    by_cases hc : v4 ≤ v5
    · rw [if_pos hc] at hf
      exact (Fr.rfl (inM 999999 LX12_liars) _).trans (rX12_liars_55 _ _ _ _ _ hf)
    · rw [if_neg hc] at hf
      obtain ⟨x4, S3, hq, hf⟩ := bndC_ex hf
      have F := (Fr.rfl (inM 999999 LX12_liars) _).trans ((rX12_liarsOf hq).mono rfl (fun _ => rfl))
      by_cases hc : x4 < v2
      · rw [if_pos hc] at hf
        exact F.trans (rX12_liars_46 ih hf)
      · rw [if_neg hc] at hf
        exact F.trans (rX12_liars_46 ih hf)
theorem rX12_liars_0 {S' : mT} {r : Int32} {v1 : Int32} {S : mT} (hf : fX12_liars v1 S = some (r, S')) : Fr (inM 999999 LX12_liars) S S' := by
  unfold fX12_liars at hf
  obtain ⟨x2, S1, hq, hf⟩ := bndC_ex hf
  have F := (Fr.rfl (inM 999999 LX12_liars) _).trans ((rX12_rowsOf hq).mono rfl (fun _ => rfl))
  exact F.trans (rX12_liars_14 _ _ _ _ _ _ _ hf)
theorem rX12_liars {v1 : Int32} {S S' : mT} {r : Int32} (hf : fX12_liars v1 S = some (r, S')) : Fr (inM 999999 LX12_liars) S S' := rX12_liars_0 hf
abbrev LX12_lies : List (Nat × Nat × Option Nat) := [(999999, 999999, none)]
theorem rX12_lies_24 {S' : mT} {r : Int32} {s0 : Int32} {S : mT} (hf : fX12_lies_24 s0 S = some (r, S')) : Fr (inM 999999 LX12_lies) S S' := by
  unfold fX12_lies_24 at hf
  cases hf
  exact (Fr.rfl (inM 999999 LX12_lies) _)
theorem rX12_lies_0 {S' : mT} {r : Int32} {v1 : Int32} {S : mT} (hf : fX12_lies v1 S = some (r, S')) : Fr (inM 999999 LX12_lies) S S' := by
  unfold fX12_lies at hf
  obtain ⟨-, hf⟩ := grd_ex hf
  obtain ⟨x2, S1, hq, hf⟩ := bndC_ex hf
  have F := (Fr.rfl (inM 999999 LX12_lies) _).trans ((rX12_isIn hq).mono rfl (fun _ => rfl))
  by_cases hc : x2 = 0
  · rw [if_pos hc] at hf
    exact F.trans (rX12_lies_24 hf)
  · rw [if_neg hc] at hf
    obtain ⟨-, hf⟩ := grd_ex hf
    exact F.trans (rX12_lies_24 hf)
theorem rX12_lies {v1 : Int32} {S S' : mT} {r : Int32} (hf : fX12_lies v1 S = some (r, S')) : Fr (inM 999999 LX12_lies) S S' := rX12_lies_0 hf
abbrev LX12_loss : List (Nat × Nat × Option Nat) := [(999999, 999999, none), (187, 187, some 43), (187, 187, some 44), (209, 209, none), (210, 210, none), (211, 211, none), (217, 217, none), (218, 218, none), (219, 219, none)]
theorem rX12_loss_73 {S' : mT} {r : Int32} {s0 : Int32} {S : mT} (hf : fX12_loss_73 s0 S = some (r, S')) : Fr (inM 999999 LX12_loss) S S' := by
  unfold fX12_loss_73 at hf
  cases hf
  exact (Fr.rfl (inM 999999 LX12_loss) _)
theorem rX12_loss_41 {S' : mT} {r : Int32} {rc23 : Int32 → Int32 → mT → Option (Int32 × mT)} (Hrc23 : ∀ (v1 : Int32) (v2 : Int32) (S : mT), rc23 v1 v2 S = some (r, S') → Fr (inM 999999 LX12_loss) S S') : ∀ (k : Nat) (v1 : Int32) (v2 : Int32) (v3 : Int32) (S : mT), fX12_loss_41 rc23 k v1 v2 v3 S = some (r, S') → Fr (inM 999999 LX12_loss) S S' := by
  intro k
  induction k with
  | zero =>
    intro v1 v2 v3 S hf
    cases hf
  | succ k ih =>
    intro v1 v2 v3 S hf
    unfold fX12_loss_41 at hf
    obtain ⟨-, hf⟩ := grd_ex hf
    by_cases hc : (S.1 187 37) ≤ v3
    · rw [if_pos hc] at hf
      obtain ⟨x7, -, hf⟩ := bnd_ex hf
      exact (Fr.rfl (inM 999999 LX12_loss) _).trans (Hrc23 _ _ _ hf)
    · rw [if_neg hc] at hf
      obtain ⟨-, hf⟩ := grd_ex hf
      by_cases hc : (S.1 219 (mIx v3)) ≤ (S.1 217 (mIx v3))
      · rw [if_pos hc] at hf
        obtain ⟨x8, -, hf⟩ := bnd_ex hf
        exact (Fr.rfl (inM 999999 LX12_loss) _).trans (ih _ _ _ _ hf)
      · rw [if_neg hc] at hf
        by_cases hc : v1 = 0
        · rw [if_pos hc] at hf
          exact (Fr.rfl (inM 999999 LX12_loss) _).trans (rX12_loss_73 hf)
        · rw [if_neg hc] at hf
          exact (Fr.rfl (inM 999999 LX12_loss) _).trans (rX12_loss_73 hf)
theorem rX12_loss_23 {S' : mT} {r : Int32} : ∀ (k : Nat) (v1 : Int32) (v2 : Int32) (S : mT), fX12_loss_23 k v1 v2 S = some (r, S') → Fr (inM 999999 LX12_loss) S S' := by
  intro k
  induction k with
  | zero =>
    intro v1 v2 S hf
    cases hf
  | succ k ih =>
    intro v1 v2 S hf
    unfold fX12_loss_23 at hf
    by_cases hc : (20 : Int32) < v2
    · rw [if_pos hc] at hf
      cases hf
      exact (Fr.rfl (inM 999999 LX12_loss) _)
    · rw [if_neg hc] at hf
      obtain ⟨S5, hq, hf⟩ := bndV_ex hf
      have F := (Fr.rfl (inM 999999 LX12_loss) _).trans ((rX12_keepSeats hq).mono rfl (fun _ => rfl))
      obtain ⟨S6, hq, hf⟩ := bndV_ex hf
      have F := F.trans ((rX12_laySeats hq).mono rfl (fun _ => rfl))
      exact F.trans (rX12_loss_41 ih _ _ _ _ _ hf)
theorem rX12_loss_0 {S' : mT} {r : Int32} {v1 : Int32} {S : mT} (hf : fX12_loss v1 S = some (r, S')) : Fr (inM 999999 LX12_loss) S S' := by
  unfold fX12_loss at hf
  obtain ⟨x2, S1, hq, hf⟩ := bndC_ex hf
  have F := (Fr.rfl (inM 999999 LX12_loss) _).trans ((rX12_isIn hq).mono rfl (fun _ => rfl))
  by_cases hc : x2 = 0
  · rw [if_pos hc] at hf
    cases hf
    exact F
  · rw [if_neg hc] at hf
    obtain ⟨S3, hq, hf⟩ := bndV_ex hf
    have F := F.trans ((rX12_load hq).mono rfl (fun _ => rfl))
    obtain ⟨S4, hq, hf⟩ := bndV_ex hf
    have F := F.trans ((rX12_laySeats hq).mono rfl (fun _ => rfl))
    exact F.trans (rX12_loss_23 _ _ _ _ hf)
theorem rX12_loss {v1 : Int32} {S S' : mT} {r : Int32} (hf : fX12_loss v1 S = some (r, S')) : Fr (inM 999999 LX12_loss) S S' := rX12_loss_0 hf
abbrev LX12_marks : List (Nat × Nat × Option Nat) := [(999999, 999999, none)]
theorem rX12_marks_34 {S' : mT} {r : Int32} {S : mT} (hf : fX12_marks_34 S = some (r, S')) : Fr (inM 999999 LX12_marks) S S' := by
  unfold fX12_marks_34 at hf
  cases hf
  exact (Fr.rfl (inM 999999 LX12_marks) _)
theorem rX12_marks_69 {S' : mT} {r : Int32} {v4 : Int32} {S : mT} (hf : fX12_marks_69 v4 S = some (r, S')) : Fr (inM 999999 LX12_marks) S S' := by
  unfold fX12_marks_69 at hf
  cases hf
  exact (Fr.rfl (inM 999999 LX12_marks) _)
theorem rX12_marks_43 {S' : mT} {r : Int32} : ∀ (k : Nat) (v1 : Int32) (v2 : Int32) (v3 : Int32) (v4 : Int32) (S : mT), fX12_marks_43 k v1 v2 v3 v4 S = some (r, S') → Fr (inM 999999 LX12_marks) S S' := by
  intro k
  induction k with
  | zero =>
    intro v1 v2 v3 v4 S hf
    cases hf
  | succ k ih =>
    intro v1 v2 v3 v4 S hf
    unfold fX12_marks_43 at hf
    by_cases hc : (200 : Int32) ≤ v4
    · rw [if_pos hc] at hf
      exact (Fr.rfl (inM 999999 LX12_marks) _).trans (rX12_marks_69 hf)
    · rw [if_neg hc] at hf
      by_cases hc : (v1 * v2) ≤ ((v4 + (1 : Int32)) * v3)
      · rw [if_pos hc] at hf
        exact (Fr.rfl (inM 999999 LX12_marks) _).trans (rX12_marks_69 hf)
      · rw [if_neg hc] at hf
        obtain ⟨x8, -, hf⟩ := bnd_ex hf
        exact (Fr.rfl (inM 999999 LX12_marks) _).trans (ih _ _ _ _ _ hf)
theorem rX12_marks_0 {S' : mT} {r : Int32} {v1 : Int32} {v2 : Int32} {v3 : Int32} {S : mT} (hf : fX12_marks v1 v2 v3 S = some (r, S')) : Fr (inM 999999 LX12_marks) S S' := by
  unfold fX12_marks at hf
  obtain ⟨x2, S1, hq, hf⟩ := bndC_ex hf
  have F := (Fr.rfl (inM 999999 LX12_marks) _).trans ((rX12_isIn hq).mono rfl (fun _ => rfl))
  by_cases hc : x2 = 0
  · rw [if_pos hc] at hf
    exact F.trans (rX12_marks_34 hf)
  · rw [if_neg hc] at hf
    obtain ⟨x4, S3, hq, hf⟩ := bndC_ex hf
    have F := F.trans ((rX12_isIn hq).mono rfl (fun _ => rfl))
    by_cases hc : x4 = 0
    · rw [if_pos hc] at hf
      exact F.trans (rX12_marks_34 hf)
    · rw [if_neg hc] at hf
      obtain ⟨x6, S5, hq, hf⟩ := bndC_ex hf
      have F := F.trans ((rX12_isIn hq).mono rfl (fun _ => rfl))
      by_cases hc : x6 = 0
      · rw [if_pos hc] at hf
        exact F.trans (rX12_marks_34 hf)
      · rw [if_neg hc] at hf
        by_cases hc : v3 ≤ v2
        · rw [if_pos hc] at hf
          obtain ⟨x7, -, hf⟩ := bnd_ex hf
          exact F.trans (rX12_marks_43 _ _ _ _ _ _ hf)
        · rw [if_neg hc] at hf
          exact F.trans (rX12_marks_34 hf)
theorem rX12_marks {v1 : Int32} {v2 : Int32} {v3 : Int32} {S S' : mT} {r : Int32} (hf : fX12_marks v1 v2 v3 S = some (r, S')) : Fr (inM 999999 LX12_marks) S S' := rX12_marks_0 hf
abbrev LX12_membersOf : List (Nat × Nat × Option Nat) := [(999999, 999999, none)]
theorem rX12_membersOf_4 {S' : mT} {r : Int32} : ∀ (k : Nat) (v0 : Int32) (v1 : Int32) (v2 : Int32) (S : mT), fX12_membersOf_4 k v0 v1 v2 S = some (r, S') → Fr (inM 999999 LX12_membersOf) S S' := by
  intro k
  induction k with
  | zero =>
    intro v0 v1 v2 S hf
    cases hf
  | succ k ih =>
    intro v0 v1 v2 S hf
    unfold fX12_membersOf_4 at hf
    by_cases hc : (5 : Int32) ≤ v2
    · rw [if_pos hc] at hf
      cases hf
      exact (Fr.rfl (inM 999999 LX12_membersOf) _)
    · rw [if_neg hc] at hf
      obtain ⟨x1, -, hf⟩ := bnd_ex hf
      obtain ⟨x2, -, hf⟩ := bnd_ex hf
      exact (Fr.rfl (inM 999999 LX12_membersOf) _).trans (ih _ _ _ _ hf)
theorem rX12_membersOf_0 {S' : mT} {r : Int32} {v0 : Int32} {S : mT} (hf : fX12_membersOf v0 S = some (r, S')) : Fr (inM 999999 LX12_membersOf) S S' := by
  unfold fX12_membersOf at hf
  exact (Fr.rfl (inM 999999 LX12_membersOf) _).trans (rX12_membersOf_4 _ _ _ _ _ hf)
theorem rX12_membersOf {v0 : Int32} {S S' : mT} {r : Int32} (hf : fX12_membersOf v0 S = some (r, S')) : Fr (inM 999999 LX12_membersOf) S S' := rX12_membersOf_0 hf
abbrev LX12_missed : List (Nat × Nat × Option Nat) := [(999999, 999999, none), (187, 187, some 43), (187, 187, some 44), (209, 209, none), (210, 210, none), (211, 211, none)]
theorem rX12_missed_0 {S' : mT} {r : Int32} {v1 : Int32} {S : mT} (hf : fX12_missed v1 S = some (r, S')) : Fr (inM 999999 LX12_missed) S S' := by
  unfold fX12_missed at hf
  obtain ⟨x2, S1, hq, hf⟩ := bndC_ex hf
  have F := (Fr.rfl (inM 999999 LX12_missed) _).trans ((rX12_without hq).mono rfl (fun _ => rfl))
  cases hf
  exact F
theorem rX12_missed {v1 : Int32} {S S' : mT} {r : Int32} (hf : fX12_missed v1 S = some (r, S')) : Fr (inM 999999 LX12_missed) S S' := rX12_missed_0 hf
abbrev LX12_moves : List (Nat × Nat × Option Nat) := [(999999, 999999, none), (187, 187, some 43), (187, 187, some 44), (187, 187, some 46), (187, 187, some 47), (208, 208, none), (209, 209, none), (210, 210, none), (211, 211, none), (212, 212, none)]
theorem rX12_moves_41 {S' : mT} {r : Int32} {S : mT} (hf : fX12_moves_41 S = some (r, S')) : Fr (inM 999999 LX12_moves) S S' := by
  unfold fX12_moves_41 at hf
  cases hf
  exact (Fr.rfl (inM 999999 LX12_moves) _)
theorem rX12_moves_0 {S' : mT} {r : Int32} {v1 : Int32} {v2 : Int32} {S : mT} (hf : fX12_moves v1 v2 S = some (r, S')) : Fr (inM 999999 LX12_moves) S S' := by
  unfold fX12_moves at hf
  obtain ⟨x2, S1, hq, hf⟩ := bndC_ex hf
  have F := (Fr.rfl (inM 999999 LX12_moves) _).trans ((rX12_isHouse hq).mono rfl (fun _ => rfl))
  by_cases hc : x2 = 0
  · rw [if_pos hc] at hf
    exact F.trans (rX12_moves_41 hf)
  · rw [if_neg hc] at hf
    obtain ⟨x4, S3, hq, hf⟩ := bndC_ex hf
    have F := F.trans ((rX12_isHouse hq).mono rfl (fun _ => rfl))
    by_cases hc : x4 = 0
    · rw [if_pos hc] at hf
      exact F.trans (rX12_moves_41 hf)
    · rw [if_neg hc] at hf
      by_cases hc : v1 = v2
      · rw [if_pos hc] at hf
        exact F.trans (rX12_moves_41 hf)
      · rw [if_neg hc] at hf
        obtain ⟨-, hf⟩ := grd_ex hf
        by_cases hc : (S3.1 208 (mIx v1)) = 0
        · rw [if_pos hc] at hf
          exact F.trans (rX12_moves_41 hf)
        · rw [if_neg hc] at hf
          obtain ⟨-, hf⟩ := grd_ex hf
          by_cases hc : (S3.1 208 (mIx v2)) = (7 : Int32)
          · rw [if_pos hc] at hf
            exact F.trans (rX12_moves_41 hf)
          · rw [if_neg hc] at hf
            obtain ⟨S5, hq, hf⟩ := bndV_ex hf
            have F := F.trans ((rX12_act hq).mono rfl (fun _ => rfl))
            obtain ⟨S6, hq, hf⟩ := bndV_ex hf
            have F := F.trans ((rX12_leaves hq).mono rfl (fun _ => rfl))
            obtain ⟨-, hf⟩ := grd_ex hf
            obtain ⟨S7, eS7, hf⟩ := bnd_ex hf
            have F : Fr (inM 999999 LX12_moves) S S7 := by
              rw [eS7]
              exact Fr.sI F rfl
            obtain ⟨-, hf⟩ := grd_ex hf
            cases hf
            exact F
theorem rX12_moves {v1 : Int32} {v2 : Int32} {S S' : mT} {r : Int32} (hf : fX12_moves v1 v2 S = some (r, S')) : Fr (inM 999999 LX12_moves) S S' := rX12_moves_0 hf
abbrev LX12_noon : List (Nat × Nat × Option Nat) := [(999999, 999999, none), (216, 216, none)]
theorem rX12_noon_16 {S' : mT} {r : Int32} {S : mT} (hf : fX12_noon_16 S = some (r, S')) : Fr (inM 999999 LX12_noon) S S' := by
  unfold fX12_noon_16 at hf
  cases hf
  exact (Fr.rfl (inM 999999 LX12_noon) _)
theorem rX12_noon_79 {S' : mT} {r : Int32} {rc28 : Int32 → Int32 → Int32 → Int32 → mT → Option (Int32 × mT)} (Hrc28 : ∀ (v1 : Int32) (v2 : Int32) (v3 : Int32) (v4 : Int32) (S : mT), rc28 v1 v2 v3 v4 S = some (r, S') → Fr (inM 999999 LX12_noon) S S') {v1 : Int32} {v2 : Int32} {v3 : Int32} {v4 : Int32} {S : mT} (hf : fX12_noon_79 rc28 v1 v2 v3 v4 S = some (r, S')) : Fr (inM 999999 LX12_noon) S S' := by
  unfold fX12_noon_79 at hf
  obtain ⟨x9, -, hf⟩ := bnd_ex hf
  exact (Fr.rfl (inM 999999 LX12_noon) _).trans (Hrc28 _ _ _ _ _ hf)
theorem rX12_noon_78 {S' : mT} {r : Int32} {rc28 : Int32 → Int32 → Int32 → Int32 → mT → Option (Int32 × mT)} (Hrc28 : ∀ (v1 : Int32) (v2 : Int32) (v3 : Int32) (v4 : Int32) (S : mT), rc28 v1 v2 v3 v4 S = some (r, S') → Fr (inM 999999 LX12_noon) S S') {v1 : Int32} {v3 : Int32} {v4 : Int32} {s0 : Int32} {S : mT} (hf : fX12_noon_78 rc28 v1 v3 v4 s0 S = some (r, S')) : Fr (inM 999999 LX12_noon) S S' := by
  unfold fX12_noon_78 at hf
  exact (Fr.rfl (inM 999999 LX12_noon) _).trans (rX12_noon_79 Hrc28 hf)
theorem rX12_noon_72 {S' : mT} {r : Int32} {rc28 : Int32 → Int32 → Int32 → Int32 → mT → Option (Int32 × mT)} (Hrc28 : ∀ (v1 : Int32) (v2 : Int32) (v3 : Int32) (v4 : Int32) (S : mT), rc28 v1 v2 v3 v4 S = some (r, S') → Fr (inM 999999 LX12_noon) S S') {v1 : Int32} {v3 : Int32} {v4 : Int32} {v6 : Int32} {S : mT} (hf : fX12_noon_72 rc28 v1 v3 v4 v6 S = some (r, S')) : Fr (inM 999999 LX12_noon) S S' := by
  unfold fX12_noon_72 at hf
  exact (Fr.rfl (inM 999999 LX12_noon) _).trans (rX12_noon_78 Hrc28 hf)
theorem rX12_noon_28 {S' : mT} {r : Int32} : ∀ (k : Nat) (v1 : Int32) (v2 : Int32) (v3 : Int32) (v4 : Int32) (S : mT), fX12_noon_28 k v1 v2 v3 v4 S = some (r, S') → Fr (inM 999999 LX12_noon) S S' := by
  intro k
  induction k with
  | zero =>
    intro v1 v2 v3 v4 S hf
    cases hf
  | succ k ih =>
    intro v1 v2 v3 v4 S hf
    unfold fX12_noon_28 at hf
    by_cases hc : v3 ≤ v4
    · rw [if_pos hc] at hf
      cases hf
      exact (Fr.rfl (inM 999999 LX12_noon) _)
    · rw [if_neg hc] at hf
      obtain ⟨x6, S5, hq, hf⟩ := bndC_ex hf
      have F := (Fr.rfl (inM 999999 LX12_noon) _).trans ((rX12_layCounters hq).mono rfl (fun _ => rfl))
      by_cases hc : x6 < 0
      · rw [if_pos hc] at hf
        exact F.trans (rX12_noon_79 ih hf)
      · rw [if_neg hc] at hf
        by_cases hc : x6 ≤ v1
        · rw [if_pos hc] at hf
          obtain ⟨x8, S7, hq, hf⟩ := bndC_ex hf
          have F := F.trans ((rX12_doneAt hq).mono rfl (fun _ => rfl))
          by_cases hc : v2 < 0
          · rw [if_pos hc] at hf
            exact F.trans (rX12_noon_72 ih hf)
          · rw [if_neg hc] at hf
            by_cases hc : v2 ≤ x8
            · rw [if_pos hc] at hf
              exact F.trans (rX12_noon_78 ih hf)
            · rw [if_neg hc] at hf
              exact F.trans (rX12_noon_72 ih hf)
        · rw [if_neg hc] at hf
          exact F.trans (rX12_noon_79 ih hf)
theorem rX12_noon_0 {S' : mT} {r : Int32} {v1 : Int32} {S : mT} (hf : fX12_noon v1 S = some (r, S')) : Fr (inM 999999 LX12_noon) S S' := by
  unfold fX12_noon at hf
  obtain ⟨-, hf⟩ := grd_ex hf
  by_cases hc : (S.1 187 37) = 0
  · rw [if_pos hc] at hf
    exact (Fr.rfl (inM 999999 LX12_noon) _).trans (rX12_noon_16 hf)
  · rw [if_neg hc] at hf
    obtain ⟨x2, S1, hq, hf⟩ := bndC_ex hf
    have F := (Fr.rfl (inM 999999 LX12_noon) _).trans ((rX12_isIn hq).mono rfl (fun _ => rfl))
    by_cases hc : x2 = 0
    · rw [if_pos hc] at hf
      exact F.trans (rX12_noon_16 hf)
    · rw [if_neg hc] at hf
      obtain ⟨x4, S3, hq, hf⟩ := bndC_ex hf
      have F := F.trans ((rX12_countersRows hq).mono rfl (fun _ => rfl))
      exact F.trans (rX12_noon_28 _ _ _ _ _ _ hf)
theorem rX12_noon {v1 : Int32} {S S' : mT} {r : Int32} (hf : fX12_noon v1 S = some (r, S')) : Fr (inM 999999 LX12_noon) S S' := rX12_noon_0 hf
abbrev LX12_odds : List (Nat × Nat × Option Nat) := [(999999, 999999, none), (187, 187, some 69), (229, 229, none)]
theorem rX12_odds_27 {S' : mT} {r : Int32} {S : mT} (hf : fX12_odds_27 S = some (r, S')) : Fr (inM 999999 LX12_odds) S S' := by
  unfold fX12_odds_27 at hf
  cases hf
  exact (Fr.rfl (inM 999999 LX12_odds) _)
theorem rX12_odds_87 {S' : mT} {r : Int32} {s0 : Int32} {S : mT} (hf : fX12_odds_87 s0 S = some (r, S')) : Fr (inM 999999 LX12_odds) S S' := by
  unfold fX12_odds_87 at hf
  cases hf
  exact (Fr.rfl (inM 999999 LX12_odds) _)
theorem rX12_odds_0 {S' : mT} {r : Int32} {v1 : Int32} {v2 : Int32} {v3 : Int32} {v4 : Int32} {S : mT} (hf : fX12_odds v1 v2 v3 v4 S = some (r, S')) : Fr (inM 999999 LX12_odds) S S' := by
  unfold fX12_odds at hf
  obtain ⟨x2, S1, hq, hf⟩ := bndC_ex hf
  have F := (Fr.rfl (inM 999999 LX12_odds) _).trans ((rX12_isHouse hq).mono rfl (fun _ => rfl))
  by_cases hc : x2 = 0
  · rw [if_pos hc] at hf
    exact F.trans (rX12_odds_27 hf)
  · rw [if_neg hc] at hf
    obtain ⟨x4, S3, hq, hf⟩ := bndC_ex hf
    have F := F.trans ((rX12_isIn hq).mono rfl (fun _ => rfl))
    by_cases hc : x4 = 0
    · rw [if_pos hc] at hf
      exact F.trans (rX12_odds_27 hf)
    · rw [if_neg hc] at hf
      obtain ⟨x6, S5, hq, hf⟩ := bndC_ex hf
      have F := F.trans ((rX12_isIn hq).mono rfl (fun _ => rfl))
      by_cases hc : x6 = 0
      · rw [if_pos hc] at hf
        exact F.trans (rX12_odds_27 hf)
      · rw [if_neg hc] at hf
        obtain ⟨S7, hq, hf⟩ := bndV_ex hf
        have F := F.trans ((rX12_layTruths hq).mono rfl (fun _ => rfl))
        obtain ⟨-, hf⟩ := grd_ex hf
        by_cases hc : (S7.1 187 69) = 0
        · rw [if_pos hc] at hf
          cases hf
          exact F
        · rw [if_neg hc] at hf
          obtain ⟨-, hf⟩ := grd_ex hf
          obtain ⟨x8, -, hf⟩ := bnd_ex hf
          obtain ⟨-, hf⟩ := grd_ex hf
          obtain ⟨x10, S9, hq, hf⟩ := bndC_ex hf
          have F := F.trans ((rX12_common hq).mono rfl (fun _ => rfl))
          by_cases hc : v3 = 0
          · rw [if_pos hc] at hf
            obtain ⟨-, hf⟩ := grd_ex hf
            exact F.trans (rX12_odds_87 hf)
          · rw [if_neg hc] at hf
            obtain ⟨-, hf⟩ := grd_ex hf
            exact F.trans (rX12_odds_87 hf)
theorem rX12_odds {v1 : Int32} {v2 : Int32} {v3 : Int32} {v4 : Int32} {S S' : mT} {r : Int32} (hf : fX12_odds v1 v2 v3 v4 S = some (r, S')) : Fr (inM 999999 LX12_odds) S S' := rX12_odds_0 hf
abbrev LX12_toldNumber : List (Nat × Nat × Option Nat) := [(999999, 999999, none), (187, 187, some 2), (187, 187, some 3), (187, 187, some 4), (187, 187, some 6), (187, 187, some 7), (187, 187, some 8), (187, 187, some 9)]
theorem rX12_toldNumber_62 {S' : mT} {r : Int32} {v3 : Int32} {S : mT} (hf : fX12_toldNumber_62 v3 S = some (r, S')) : Fr (inM 999999 LX12_toldNumber) S S' := by
  unfold fX12_toldNumber_62 at hf
  cases hf
  exact (Fr.rfl (inM 999999 LX12_toldNumber) _)
theorem rX12_toldNumber_46 {S' : mT} {r : Int32} {S : mT} (hf : fX12_toldNumber_46 S = some (r, S')) : Fr (inM 999999 LX12_toldNumber) S S' := by
  unfold fX12_toldNumber_46 at hf
  obtain ⟨-, hf⟩ := grd_ex hf
  obtain ⟨x3, -, hf⟩ := bnd_ex hf
  obtain ⟨-, hf⟩ := grd_ex hf
  by_cases hc : (S.1 187 2) = 0
  · rw [if_pos hc] at hf
    obtain ⟨S4, hq, hf⟩ := bndV_ex hf
    have F := (Fr.rfl (inM 999999 LX12_toldNumber) _).trans ((rX12_token hq).mono rfl (fun _ => rfl))
    exact F.trans (rX12_toldNumber_62 hf)
  · rw [if_neg hc] at hf
    exact (Fr.rfl (inM 999999 LX12_toldNumber) _).trans (rX12_toldNumber_62 hf)
theorem rX12_toldNumber_41 {S' : mT} {r : Int32} {S : mT} (hf : fX12_toldNumber_41 S = some (r, S')) : Fr (inM 999999 LX12_toldNumber) S S' := by
  unfold fX12_toldNumber_41 at hf
  obtain ⟨S2, hq, hf⟩ := bndV_ex hf
  have F := (Fr.rfl (inM 999999 LX12_toldNumber) _).trans ((rX12_wrong hq).mono rfl (fun _ => rfl))
  exact F.trans (rX12_toldNumber_46 hf)
theorem rX12_toldNumber_0 {S' : mT} {r : Int32} {v1 : Int32} {v2 : Int32} {S : mT} (hf : fX12_toldNumber v1 v2 S = some (r, S')) : Fr (inM 999999 LX12_toldNumber) S S' := by
  unfold fX12_toldNumber at hf
  obtain ⟨-, hf⟩ := grd_ex hf
  by_cases hc : (S.1 187 2) ≤ 0
  · rw [if_pos hc] at hf
    obtain ⟨-, hf⟩ := grd_ex hf
    by_cases hc : (S.1 187 6) = (2 : Int32)
    · rw [if_pos hc] at hf
      obtain ⟨-, hf⟩ := grd_ex hf
      by_cases hc : (S.1 187 8) < v1
      · rw [if_pos hc] at hf
        exact (Fr.rfl (inM 999999 LX12_toldNumber) _).trans (rX12_toldNumber_41 hf)
      · rw [if_neg hc] at hf
        obtain ⟨-, hf⟩ := grd_ex hf
        by_cases hc : (S.1 187 8) ≤ v2
        · rw [if_pos hc] at hf
          exact (Fr.rfl (inM 999999 LX12_toldNumber) _).trans (rX12_toldNumber_46 hf)
        · rw [if_neg hc] at hf
          exact (Fr.rfl (inM 999999 LX12_toldNumber) _).trans (rX12_toldNumber_41 hf)
    · rw [if_neg hc] at hf
      obtain ⟨S1, hq, hf⟩ := bndV_ex hf
      have F := (Fr.rfl (inM 999999 LX12_toldNumber) _).trans ((rX12_wrong hq).mono rfl (fun _ => rfl))
      exact F.trans (rX12_toldNumber_46 hf)
  · rw [if_neg hc] at hf
    cases hf
    exact (Fr.rfl (inM 999999 LX12_toldNumber) _)
theorem rX12_toldNumber {v1 : Int32} {v2 : Int32} {S S' : mT} {r : Int32} (hf : fX12_toldNumber v1 v2 S = some (r, S')) : Fr (inM 999999 LX12_toldNumber) S S' := rX12_toldNumber_0 hf
abbrev LX12_want : List (Nat × Nat × Option Nat) := [(999999, 999999, none), (187, 187, some 2), (187, 187, some 3), (187, 187, some 4), (187, 187, some 6), (187, 187, some 7), (187, 187, some 8), (187, 187, some 9)]
theorem rX12_want_28 {S' : mT} {S : mT} (hf : fX12_want_28 S = some S') : Fr (inM 999999 LX12_want) S S' := by
  unfold fX12_want_28 at hf
  cases hf
  exact (Fr.rfl (inM 999999 LX12_want) _)
theorem rX12_want_0 {S' : mT} {v1 : Int64} {S : mT} (hf : fX12_want v1 S = some S') : Fr (inM 999999 LX12_want) S S' := by
  unfold fX12_want at hf
  obtain ⟨-, hf⟩ := grd_ex hf
  by_cases hc : (S.1 187 2) ≤ 0
  · rw [if_pos hc] at hf
    obtain ⟨x2, S1, hq, hf⟩ := bndC_ex hf
    have F := (Fr.rfl (inM 999999 LX12_want) _).trans ((rX12_isWord hq).mono rfl (fun _ => rfl))
    by_cases hc : x2 = 0
    · rw [if_pos hc] at hf
      obtain ⟨S3, hq, hf⟩ := bndV_ex hf
      have F := F.trans ((rX12_wrong hq).mono rfl (fun _ => rfl))
      exact F.trans (rX12_want_28 hf)
    · rw [if_neg hc] at hf
      obtain ⟨S4, hq, hf⟩ := bndV_ex hf
      have F := F.trans ((rX12_token hq).mono rfl (fun _ => rfl))
      exact F.trans (rX12_want_28 hf)
  · rw [if_neg hc] at hf
    cases hf
    exact (Fr.rfl (inM 999999 LX12_want) _)
theorem rX12_want {v1 : Int64} {S S' : mT} (hf : fX12_want v1 S = some S') : Fr (inM 999999 LX12_want) S S' := rX12_want_0 hf
abbrev LX12_told : List (Nat × Nat × Option Nat) := [(999999, 999999, none), (187, 187, some 2), (187, 187, some 3), (187, 187, some 4), (187, 187, some 6), (187, 187, some 7), (187, 187, some 8), (187, 187, some 9)]
theorem rX12_told_0 {S' : mT} {r : Int32} {v1 : Int64} {v3 : Int32} {v4 : Int32} {S : mT} (hf : fX12_told v1 v3 v4 S = some (r, S')) : Fr (inM 999999 LX12_told) S S' := by
  unfold fX12_told at hf
  obtain ⟨S1, hq, hf⟩ := bndV_ex hf
  have F := (Fr.rfl (inM 999999 LX12_told) _).trans ((rX12_want hq).mono rfl (fun _ => rfl))
  obtain ⟨x3, S2, hq, hf⟩ := bndC_ex hf
  have F := F.trans ((rX12_toldNumber hq).mono rfl (fun _ => rfl))
  cases hf
  exact F
theorem rX12_told {v1 : Int64} {v3 : Int32} {v4 : Int32} {S S' : mT} {r : Int32} (hf : fX12_told v1 v3 v4 S = some (r, S')) : Fr (inM 999999 LX12_told) S S' := rX12_told_0 hf
abbrev LX12_option : List (Nat × Nat × Option Nat) := [(999999, 999999, none), (187, 187, some 2), (187, 187, some 3), (187, 187, some 4), (187, 187, some 6), (187, 187, some 7), (187, 187, some 8), (187, 187, some 9)]
theorem rX12_option_27 {S' : mT} {r : Int32} {s0 : Int32} {S : mT} (hf : fX12_option_27 s0 S = some (r, S')) : Fr (inM 999999 LX12_option) S S' := by
  unfold fX12_option_27 at hf
  cases hf
  exact (Fr.rfl (inM 999999 LX12_option) _)
theorem rX12_option_26 {S' : mT} {r : Int32} {S : mT} (hf : fX12_option_26 S = some (r, S')) : Fr (inM 999999 LX12_option) S S' := by
  unfold fX12_option_26 at hf
  exact (Fr.rfl (inM 999999 LX12_option) _).trans (rX12_option_27 hf)
theorem rX12_option_0 {S' : mT} {r : Int32} {v1 : Int64} {S : mT} (hf : fX12_option v1 S = some (r, S')) : Fr (inM 999999 LX12_option) S S' := by
  unfold fX12_option at hf
  obtain ⟨-, hf⟩ := grd_ex hf
  by_cases hc : (S.1 187 2) = 0
  · rw [if_pos hc] at hf
    obtain ⟨x2, S1, hq, hf⟩ := bndC_ex hf
    have F := (Fr.rfl (inM 999999 LX12_option) _).trans ((rX12_isWord hq).mono rfl (fun _ => rfl))
    by_cases hc : x2 = 0
    · rw [if_pos hc] at hf
      exact F.trans (rX12_option_26 hf)
    · rw [if_neg hc] at hf
      obtain ⟨x4, S3, hq, hf⟩ := bndC_ex hf
      have F := F.trans ((rX12_told hq).mono rfl (fun _ => rfl))
      exact F.trans (rX12_option_27 hf)
  · rw [if_neg hc] at hf
    exact (Fr.rfl (inM 999999 LX12_option) _).trans (rX12_option_26 hf)
theorem rX12_option {v1 : Int64} {S S' : mT} {r : Int32} (hf : fX12_option v1 S = some (r, S')) : Fr (inM 999999 LX12_option) S S' := rX12_option_0 hf
abbrev LX12_readHouse : List (Nat × Nat × Option Nat) := [(999999, 999999, none), (187, 187, some 2), (187, 187, some 3), (187, 187, some 4), (187, 187, some 6), (187, 187, some 7), (187, 187, some 8), (187, 187, some 9), (187, 187, some 35), (189, 189, none), (201, 201, none), (202, 202, none), (203, 203, none), (204, 204, none)]
theorem rX12_readHouse_133 {S' : mT} {S : mT} (hf : fX12_readHouse_133 S = some S') : Fr (inM 999999 LX12_readHouse) S S' := by
  unfold fX12_readHouse_133 at hf
  cases hf
  exact (Fr.rfl (inM 999999 LX12_readHouse) _)
theorem rX12_readHouse_31 {S' : mT} {S : mT} (hf : fX12_readHouse_31 S = some S') : Fr (inM 999999 LX12_readHouse) S S' := by
  unfold fX12_readHouse_31 at hf
  obtain ⟨-, hf⟩ := grd_ex hf
  by_cases hc : (S.1 187 2) ≤ 0
  · rw [if_pos hc] at hf
    obtain ⟨-, hf⟩ := grd_ex hf
    obtain ⟨x8, -, hf⟩ := bnd_ex hf
    obtain ⟨-, hf⟩ := grd_ex hf
    obtain ⟨S9, eS9, hf⟩ := bnd_ex hf
    have F : Fr (inM 999999 LX12_readHouse) S S9 := by
      rw [eS9]
      exact Fr.sJ (Fr.rfl (inM 999999 LX12_readHouse) _) rfl
    obtain ⟨S10, hq, hf⟩ := bndV_ex hf
    have F := F.trans ((rX12_token hq).mono rfl (fun _ => rfl))
    obtain ⟨-, hf⟩ := grd_ex hf
    obtain ⟨x12, S11, hq, hf⟩ := bndC_ex hf
    have F := F.trans ((rX12_told hq).mono rfl (fun _ => rfl))
    obtain ⟨-, hf⟩ := grd_ex hf
    obtain ⟨S13, eS13, hf⟩ := bnd_ex hf
    have F : Fr (inM 999999 LX12_readHouse) S S13 := by
      rw [eS13]
      exact Fr.sI F rfl
    obtain ⟨-, hf⟩ := grd_ex hf
    obtain ⟨x15, S14, hq, hf⟩ := bndC_ex hf
    have F := F.trans ((rX12_told hq).mono rfl (fun _ => rfl))
    obtain ⟨-, hf⟩ := grd_ex hf
    obtain ⟨S16, eS16, hf⟩ := bnd_ex hf
    have F : Fr (inM 999999 LX12_readHouse) S S16 := by
      rw [eS16]
      exact Fr.sI F rfl
    obtain ⟨-, hf⟩ := grd_ex hf
    obtain ⟨x18, S17, hq, hf⟩ := bndC_ex hf
    have F := F.trans ((rX12_option hq).mono rfl (fun _ => rfl))
    obtain ⟨-, hf⟩ := grd_ex hf
    obtain ⟨S19, eS19, hf⟩ := bnd_ex hf
    have F : Fr (inM 999999 LX12_readHouse) S S19 := by
      rw [eS19]
      exact Fr.sI F rfl
    obtain ⟨-, hf⟩ := grd_ex hf
    obtain ⟨x21, S20, hq, hf⟩ := bndC_ex hf
    have F := F.trans ((rX12_option hq).mono rfl (fun _ => rfl))
    obtain ⟨-, hf⟩ := grd_ex hf
    obtain ⟨S22, eS22, hf⟩ := bnd_ex hf
    have F : Fr (inM 999999 LX12_readHouse) S S22 := by
      rw [eS22]
      exact Fr.sI F rfl
    obtain ⟨-, hf⟩ := grd_ex hf
    by_cases hc : (S22.1 187 2) = 0
    · rw [if_pos hc] at hf
      obtain ⟨-, hf⟩ := grd_ex hf
      obtain ⟨S23, eS23, hf⟩ := bnd_ex hf
      have F : Fr (inM 999999 LX12_readHouse) S S23 := by
        rw [eS23]
        exact Fr.sI F rfl
      exact F.trans (rX12_readHouse_133 hf)
    · rw [if_neg hc] at hf
      exact F.trans (rX12_readHouse_133 hf)
  · rw [if_neg hc] at hf
    cases hf
    exact (Fr.rfl (inM 999999 LX12_readHouse) _)
theorem rX12_readHouse_0 {S' : mT} {S : mT} (hf : fX12_readHouse S = some S') : Fr (inM 999999 LX12_readHouse) S S' := by
  unfold fX12_readHouse at hf
  obtain ⟨S1, hq, hf⟩ := bndV_ex hf
  have F := (Fr.rfl (inM 999999 LX12_readHouse) _).trans ((rX12_token hq).mono rfl (fun _ => rfl))
  obtain ⟨x3, S2, hq, hf⟩ := bndC_ex hf
  have F := F.trans ((rX12_isName hq).mono rfl (fun _ => rfl))
  by_cases hc : x3 = 0
  · rw [if_pos hc] at hf
    obtain ⟨S4, hq, hf⟩ := bndV_ex hf
    have F := F.trans ((rX12_wrong hq).mono rfl (fun _ => rfl))
    exact F.trans (rX12_readHouse_31 hf)
  · rw [if_neg hc] at hf
    obtain ⟨x6, S5, hq, hf⟩ := bndC_ex hf
    have F := F.trans ((rX12_find hq).mono rfl (fun _ => rfl))
    by_cases hc : x6 < 0
    · rw [if_pos hc] at hf
      exact F.trans (rX12_readHouse_31 hf)
    · rw [if_neg hc] at hf
      obtain ⟨S7, hq, hf⟩ := bndV_ex hf
      have F := F.trans ((rX12_wrong hq).mono rfl (fun _ => rfl))
      exact F.trans (rX12_readHouse_31 hf)
theorem rX12_readHouse {S S' : mT} (hf : fX12_readHouse S = some S') : Fr (inM 999999 LX12_readHouse) S S' := rX12_readHouse_0 hf
abbrev LX12_readLine : List (Nat × Nat × Option Nat) := [(999999, 999999, none), (187, 187, some 2), (187, 187, some 3), (187, 187, some 4), (187, 187, some 6), (187, 187, some 7), (187, 187, some 8), (187, 187, some 9), (187, 187, some 21), (187, 187, some 22), (187, 187, some 23), (187, 187, some 25), (187, 187, some 26), (187, 187, some 35), (187, 187, some 36), (187, 187, some 38), (189, 189, none), (190, 190, none), (191, 191, none), (192, 192, none), (196, 196, none), (198, 198, none), (201, 201, none), (202, 202, none), (203, 203, none), (204, 204, none)]
theorem rX12_readLine_183 {S' : mT} {S : mT} (hf : fX12_readLine_183 S = some S') : Fr (inM 999999 LX12_readLine) S S' := by
  unfold fX12_readLine_183 at hf
  cases hf
  exact (Fr.rfl (inM 999999 LX12_readLine) _)
theorem rX12_readLine_172 {S' : mT} {S : mT} (hf : fX12_readLine_172 S = some S') : Fr (inM 999999 LX12_readLine) S S' := by
  unfold fX12_readLine_172 at hf
  obtain ⟨-, hf⟩ := grd_ex hf
  by_cases hc : (S.1 187 2) = 0
  · rw [if_pos hc] at hf
    obtain ⟨S11, hq, hf⟩ := bndV_ex hf
    have F := (Fr.rfl (inM 999999 LX12_readLine) _).trans ((rX12_token hq).mono rfl (fun _ => rfl))
    exact F.trans (rX12_readLine_183 hf)
  · rw [if_neg hc] at hf
    exact (Fr.rfl (inM 999999 LX12_readLine) _).trans (rX12_readLine_183 hf)
theorem rX12_readLine_151 {S' : mT} {S : mT} (hf : fX12_readLine_151 S = some S') : Fr (inM 999999 LX12_readLine) S S' := by
  unfold fX12_readLine_151 at hf
  obtain ⟨-, hf⟩ := grd_ex hf
  by_cases hc : (S.1 187 2) = 0
  · rw [if_pos hc] at hf
    obtain ⟨-, hf⟩ := grd_ex hf
    by_cases hc : (S.1 187 6) = (59 : Int32)
    · rw [if_pos hc] at hf
      exact (Fr.rfl (inM 999999 LX12_readLine) _).trans (rX12_readLine_172 hf)
    · rw [if_neg hc] at hf
      obtain ⟨S7, hq, hf⟩ := bndV_ex hf
      have F := (Fr.rfl (inM 999999 LX12_readLine) _).trans ((rX12_wrong hq).mono rfl (fun _ => rfl))
      exact F.trans (rX12_readLine_172 hf)
  · rw [if_neg hc] at hf
    exact (Fr.rfl (inM 999999 LX12_readLine) _).trans (rX12_readLine_172 hf)
theorem rX12_readLine_146 {S' : mT} {S : mT} (hf : fX12_readLine_146 S = some S') : Fr (inM 999999 LX12_readLine) S S' := by
  unfold fX12_readLine_146 at hf
  obtain ⟨S21, hq, hf⟩ := bndV_ex hf
  have F := (Fr.rfl (inM 999999 LX12_readLine) _).trans ((rX12_wrong hq).mono rfl (fun _ => rfl))
  exact F.trans (rX12_readLine_151 hf)
theorem rX12_readLine_106 {S' : mT} {S : mT} (hf : fX12_readLine_106 S = some S') : Fr (inM 999999 LX12_readLine) S S' := by
  unfold fX12_readLine_106 at hf
  obtain ⟨x16, S15, hq, hf⟩ := bndC_ex hf
  have F := (Fr.rfl (inM 999999 LX12_readLine) _).trans ((rX12_isWord hq).mono rfl (fun _ => rfl))
  by_cases hc : x16 = 0
  · rw [if_pos hc] at hf
    exact F.trans (rX12_readLine_146 hf)
  · rw [if_neg hc] at hf
    obtain ⟨-, hf⟩ := grd_ex hf
    by_cases hc : (S15.1 187 38) = 0
    · rw [if_pos hc] at hf
      obtain ⟨-, hf⟩ := grd_ex hf
      obtain ⟨S17, eS17, hf⟩ := bnd_ex hf
      have F : Fr (inM 999999 LX12_readLine) S S17 := by
        rw [eS17]
        exact Fr.sI F rfl
      obtain ⟨x19, S18, hq, hf⟩ := bndC_ex hf
      have F := F.trans ((rX12_told hq).mono rfl (fun _ => rfl))
      obtain ⟨-, hf⟩ := grd_ex hf
      obtain ⟨S20, eS20, hf⟩ := bnd_ex hf
      have F : Fr (inM 999999 LX12_readLine) S S20 := by
        rw [eS20]
        exact Fr.sI F rfl
      exact F.trans (rX12_readLine_151 hf)
    · rw [if_neg hc] at hf
      exact F.trans (rX12_readLine_146 hf)
theorem rX12_readLine_79 {S' : mT} {S : mT} (hf : fX12_readLine_79 S = some S') : Fr (inM 999999 LX12_readLine) S S' := by
  unfold fX12_readLine_79 at hf
  obtain ⟨x13, S12, hq, hf⟩ := bndC_ex hf
  have F := (Fr.rfl (inM 999999 LX12_readLine) _).trans ((rX12_isWord hq).mono rfl (fun _ => rfl))
  by_cases hc : x13 = 0
  · rw [if_pos hc] at hf
    exact F.trans (rX12_readLine_106 hf)
  · rw [if_neg hc] at hf
    obtain ⟨-, hf⟩ := grd_ex hf
    by_cases hc : (S12.1 198 (mIx (2 : Int32))) = 0
    · rw [if_pos hc] at hf
      obtain ⟨S14, hq, hf⟩ := bndV_ex hf
      have F := F.trans ((rX12_formula hq).mono rfl (fun _ => rfl))
      exact F.trans (rX12_readLine_151 hf)
    · rw [if_neg hc] at hf
      exact F.trans (rX12_readLine_106 hf)
theorem rX12_readLine_52 {S' : mT} {S : mT} (hf : fX12_readLine_52 S = some S') : Fr (inM 999999 LX12_readLine) S S' := by
  unfold fX12_readLine_52 at hf
  obtain ⟨x9, S8, hq, hf⟩ := bndC_ex hf
  have F := (Fr.rfl (inM 999999 LX12_readLine) _).trans ((rX12_isWord hq).mono rfl (fun _ => rfl))
  by_cases hc : x9 = 0
  · rw [if_pos hc] at hf
    exact F.trans (rX12_readLine_79 hf)
  · rw [if_neg hc] at hf
    obtain ⟨-, hf⟩ := grd_ex hf
    by_cases hc : (S8.1 198 (mIx (1 : Int32))) = 0
    · rw [if_pos hc] at hf
      obtain ⟨S10, hq, hf⟩ := bndV_ex hf
      have F := F.trans ((rX12_formula hq).mono rfl (fun _ => rfl))
      exact F.trans (rX12_readLine_151 hf)
    · rw [if_neg hc] at hf
      exact F.trans (rX12_readLine_79 hf)
theorem rX12_readLine_25 {S' : mT} {S : mT} (hf : fX12_readLine_25 S = some S') : Fr (inM 999999 LX12_readLine) S S' := by
  unfold fX12_readLine_25 at hf
  obtain ⟨x5, S4, hq, hf⟩ := bndC_ex hf
  have F := (Fr.rfl (inM 999999 LX12_readLine) _).trans ((rX12_isWord hq).mono rfl (fun _ => rfl))
  by_cases hc : x5 = 0
  · rw [if_pos hc] at hf
    exact F.trans (rX12_readLine_52 hf)
  · rw [if_neg hc] at hf
    obtain ⟨-, hf⟩ := grd_ex hf
    by_cases hc : (S4.1 198 (mIx (0 : Int32))) = 0
    · rw [if_pos hc] at hf
      obtain ⟨S6, hq, hf⟩ := bndV_ex hf
      have F := F.trans ((rX12_formula hq).mono rfl (fun _ => rfl))
      exact F.trans (rX12_readLine_151 hf)
    · rw [if_neg hc] at hf
      exact F.trans (rX12_readLine_52 hf)
theorem rX12_readLine_0 {S' : mT} {S : mT} (hf : fX12_readLine S = some S') : Fr (inM 999999 LX12_readLine) S S' := by
  unfold fX12_readLine at hf
  obtain ⟨x2, S1, hq, hf⟩ := bndC_ex hf
  have F := (Fr.rfl (inM 999999 LX12_readLine) _).trans ((rX12_isWord hq).mono rfl (fun _ => rfl))
  by_cases hc : x2 = 0
  · rw [if_pos hc] at hf
    exact F.trans (rX12_readLine_25 hf)
  · rw [if_neg hc] at hf
    obtain ⟨-, hf⟩ := grd_ex hf
    by_cases hc : (5 : Int32) ≤ (S1.1 187 35)
    · rw [if_pos hc] at hf
      exact F.trans (rX12_readLine_25 hf)
    · rw [if_neg hc] at hf
      obtain ⟨S3, hq, hf⟩ := bndV_ex hf
      have F := F.trans ((rX12_readHouse hq).mono rfl (fun _ => rfl))
      exact F.trans (rX12_readLine_151 hf)
theorem rX12_readLine {S S' : mT} (hf : fX12_readLine S = some S') : Fr (inM 999999 LX12_readLine) S S' := rX12_readLine_0 hf
abbrev LX12_readAll : List (Nat × Nat × Option Nat) := [(999999, 999999, none), (187, 187, some 1), (187, 187, some 2), (187, 187, some 3), (187, 187, some 4), (187, 187, some 5), (187, 187, some 6), (187, 187, some 7), (187, 187, some 8), (187, 187, some 9), (187, 187, some 21), (187, 187, some 22), (187, 187, some 23), (187, 187, some 25), (187, 187, some 26), (187, 187, some 35), (187, 187, some 36), (187, 187, some 38), (189, 189, none), (190, 190, none), (191, 191, none), (192, 192, none), (196, 196, none), (198, 198, none), (201, 201, none), (202, 202, none), (203, 203, none), (204, 204, none)]
theorem rX12_readAll_93 {S' : mT} {S : mT} (hf : fX12_readAll_93 S = some S') : Fr (inM 999999 LX12_readAll) S S' := by
  unfold fX12_readAll_93 at hf
  cases hf
  exact (Fr.rfl (inM 999999 LX12_readAll) _)
theorem rX12_readAll_72 {S' : mT} : ∀ (k : Nat) (S : mT), fX12_readAll_72 k S = some S' → Fr (inM 999999 LX12_readAll) S S' := by
  intro k
  induction k with
  | zero =>
    intro S hf
    cases hf
  | succ k ih =>
    intro S hf
    unfold fX12_readAll_72 at hf
    obtain ⟨-, hf⟩ := grd_ex hf
    by_cases hc : (S.1 187 2) = 0
    · rw [if_pos hc] at hf
      obtain ⟨-, hf⟩ := grd_ex hf
      by_cases hc : (S.1 187 6) = 0
      · rw [if_pos hc] at hf
        exact (Fr.rfl (inM 999999 LX12_readAll) _).trans (rX12_readAll_93 hf)
      · rw [if_neg hc] at hf
        obtain ⟨S13, hq, hf⟩ := bndV_ex hf
        have F := (Fr.rfl (inM 999999 LX12_readAll) _).trans ((rX12_readLine hq).mono rfl (fun _ => rfl))
        exact F.trans (ih _ hf)
    · rw [if_neg hc] at hf
      exact (Fr.rfl (inM 999999 LX12_readAll) _).trans (rX12_readAll_93 hf)
theorem rX12_readAll_50 {S' : mT} : ∀ (k : Nat) (v1 : Int32) (S : mT), fX12_readAll_50 k v1 S = some S' → Fr (inM 999999 LX12_readAll) S S' := by
  intro k
  induction k with
  | zero =>
    intro v1 S hf
    cases hf
  | succ k ih =>
    intro v1 S hf
    unfold fX12_readAll_50 at hf
    by_cases hc : (3 : Int32) ≤ v1
    · rw [if_pos hc] at hf
      obtain ⟨S10, hq, hf⟩ := bndV_ex hf
      have F := (Fr.rfl (inM 999999 LX12_readAll) _).trans ((rX12_token hq).mono rfl (fun _ => rfl))
      exact F.trans (rX12_readAll_72 _ _ hf)
    · rw [if_neg hc] at hf
      obtain ⟨-, hf⟩ := grd_ex hf
      obtain ⟨S11, eS11, hf⟩ := bnd_ex hf
      have F : Fr (inM 999999 LX12_readAll) S S11 := by
        rw [eS11]
        exact Fr.sI (Fr.rfl (inM 999999 LX12_readAll) _) rfl
      obtain ⟨x12, -, hf⟩ := bnd_ex hf
      exact F.trans (ih _ _ hf)
theorem rX12_readAll_0 {S' : mT} {S : mT} (hf : fX12_readAll S = some S') : Fr (inM 999999 LX12_readAll) S S' := by
  unfold fX12_readAll at hf
  obtain ⟨-, hf⟩ := grd_ex hf
  obtain ⟨S1, eS1, hf⟩ := bnd_ex hf
  have F : Fr (inM 999999 LX12_readAll) S S1 := by
    rw [eS1]
    exact Fr.sI (Fr.rfl (inM 999999 LX12_readAll) _) rfl
  obtain ⟨-, hf⟩ := grd_ex hf
  obtain ⟨S2, eS2, hf⟩ := bnd_ex hf
  have F : Fr (inM 999999 LX12_readAll) S S2 := by
    rw [eS2]
    exact Fr.sI F rfl
  obtain ⟨-, hf⟩ := grd_ex hf
  obtain ⟨S3, eS3, hf⟩ := bnd_ex hf
  have F : Fr (inM 999999 LX12_readAll) S S3 := by
    rw [eS3]
    exact Fr.sI F rfl
  obtain ⟨-, hf⟩ := grd_ex hf
  obtain ⟨S4, eS4, hf⟩ := bnd_ex hf
  have F : Fr (inM 999999 LX12_readAll) S S4 := by
    rw [eS4]
    exact Fr.sI F rfl
  obtain ⟨-, hf⟩ := grd_ex hf
  obtain ⟨S5, eS5, hf⟩ := bnd_ex hf
  have F : Fr (inM 999999 LX12_readAll) S S5 := by
    rw [eS5]
    exact Fr.sI F rfl
  obtain ⟨-, hf⟩ := grd_ex hf
  obtain ⟨S6, eS6, hf⟩ := bnd_ex hf
  have F : Fr (inM 999999 LX12_readAll) S S6 := by
    rw [eS6]
    exact Fr.sI F rfl
  obtain ⟨-, hf⟩ := grd_ex hf
  obtain ⟨S7, eS7, hf⟩ := bnd_ex hf
  have F : Fr (inM 999999 LX12_readAll) S S7 := by
    rw [eS7]
    exact Fr.sI F rfl
  obtain ⟨-, hf⟩ := grd_ex hf
  obtain ⟨S8, eS8, hf⟩ := bnd_ex hf
  have F : Fr (inM 999999 LX12_readAll) S S8 := by
    rw [eS8]
    exact Fr.sI F rfl
  obtain ⟨-, hf⟩ := grd_ex hf
  obtain ⟨S9, eS9, hf⟩ := bnd_ex hf
  have F : Fr (inM 999999 LX12_readAll) S S9 := by
    rw [eS9]
    exact Fr.sI F rfl
  exact F.trans (rX12_readAll_50 _ _ _ hf)
theorem rX12_readAll {S S' : mT} (hf : fX12_readAll S = some S') : Fr (inM 999999 LX12_readAll) S S' := rX12_readAll_0 hf
abbrev LX12_province : List (Nat × Nat × Option Nat) := [(999999, 999999, none), (187, 187, some 1), (187, 187, some 2), (187, 187, some 3), (187, 187, some 4), (187, 187, some 5), (187, 187, some 6), (187, 187, some 7), (187, 187, some 8), (187, 187, some 9), (187, 187, some 21), (187, 187, some 22), (187, 187, some 23), (187, 187, some 24), (187, 187, some 25), (187, 187, some 26), (187, 187, some 35), (187, 187, some 36), (187, 187, some 37), (187, 187, some 38), (187, 187, some 46), (187, 187, some 47), (187, 187, some 51), (187, 187, some 66), (189, 189, none), (190, 190, none), (191, 191, none), (192, 192, none), (193, 193, none), (194, 194, none), (195, 195, none), (196, 196, none), (198, 198, none), (199, 199, none), (201, 201, none), (202, 202, none), (203, 203, none), (204, 204, none), (205, 205, none), (206, 206, none), (207, 207, none), (208, 208, none), (231, 231, none)]
theorem rX12_province_79 {S' : mT} {r : Int32} {rc31 : Int32 → mT → Option (Int32 × mT)} (Hrc31 : ∀ (v1 : Int32) (S : mT), rc31 v1 S = some (r, S') → Fr (inM 999999 LX12_province) S S') : ∀ (k : Nat) (v1 : Int32) (v2 : Int32) (S : mT), fX12_province_79 rc31 k v1 v2 S = some (r, S') → Fr (inM 999999 LX12_province) S S' := by
  intro k
  induction k with
  | zero =>
    intro v1 v2 S hf
    cases hf
  | succ k ih =>
    intro v1 v2 S hf
    unfold fX12_province_79 at hf
    obtain ⟨-, hf⟩ := grd_ex hf
    by_cases hc : (((320 : Int32) * v1) + (S.1 195 (mIx v1))) ≤ v2
    · rw [if_pos hc] at hf
      obtain ⟨x17, -, hf⟩ := bnd_ex hf
      exact (Fr.rfl (inM 999999 LX12_province) _).trans (Hrc31 _ _ hf)
    · rw [if_neg hc] at hf
      obtain ⟨-, hf⟩ := grd_ex hf
      obtain ⟨S18, eS18, hf⟩ := bnd_ex hf
      have F : Fr (inM 999999 LX12_province) S S18 := by
        rw [eS18]
        exact Fr.sI (Fr.rfl (inM 999999 LX12_province) _) rfl
      obtain ⟨-, hf⟩ := grd_ex hf
      obtain ⟨S19, eS19, hf⟩ := bnd_ex hf
      have F : Fr (inM 999999 LX12_province) S S19 := by
        rw [eS19]
        exact Fr.sI F rfl
      obtain ⟨x20, -, hf⟩ := bnd_ex hf
      exact F.trans (ih _ _ _ hf)
theorem rX12_province_72 {S' : mT} {r : Int32} {rc31 : Int32 → mT → Option (Int32 × mT)} (Hrc31 : ∀ (v1 : Int32) (S : mT), rc31 v1 S = some (r, S') → Fr (inM 999999 LX12_province) S S') {v1 : Int32} {s0 : Int32} {s1 : Int32} {S : mT} (hf : fX12_province_72 rc31 v1 s0 s1 S = some (r, S')) : Fr (inM 999999 LX12_province) S S' := by
  unfold fX12_province_72 at hf
  obtain ⟨-, hf⟩ := grd_ex hf
  obtain ⟨S7, eS7, hf⟩ := bnd_ex hf
  have F : Fr (inM 999999 LX12_province) S S7 := by
    rw [eS7]
    exact Fr.sI (Fr.rfl (inM 999999 LX12_province) _) rfl
  obtain ⟨x8, -, hf⟩ := bnd_ex hf
  exact F.trans (rX12_province_79 Hrc31 _ _ _ _ hf)
theorem rX12_province_218 {S' : mT} {r : Int32} {rc154 : Int32 → mT → Option (Int32 × mT)} (Hrc154 : ∀ (v1 : Int32) (S : mT), rc154 v1 S = some (r, S') → Fr (inM 999999 LX12_province) S S') {v1 : Int32} {s0 : Int32} {s1 : Int32} {S : mT} (hf : fX12_province_218 rc154 v1 s0 s1 S = some (r, S')) : Fr (inM 999999 LX12_province) S S' := by
  unfold fX12_province_218 at hf
  obtain ⟨-, hf⟩ := grd_ex hf
  obtain ⟨S23, eS23, hf⟩ := bnd_ex hf
  have F : Fr (inM 999999 LX12_province) S S23 := by
    rw [eS23]
    exact Fr.sI (Fr.rfl (inM 999999 LX12_province) _) rfl
  obtain ⟨x24, -, hf⟩ := bnd_ex hf
  exact F.trans (Hrc154 _ _ hf)
theorem rX12_province_258 {S' : mT} {r : Int32} : ∀ (k : Nat) (v1 : Int32) (S : mT), fX12_province_258 k v1 S = some (r, S') → Fr (inM 999999 LX12_province) S S' := by
  intro k
  induction k with
  | zero =>
    intro v1 S hf
    cases hf
  | succ k ih =>
    intro v1 S hf
    unfold fX12_province_258 at hf
    by_cases hc : (3 : Int32) ≤ v1
    · rw [if_pos hc] at hf
      obtain ⟨-, hf⟩ := grd_ex hf
      cases hf
      exact (Fr.rfl (inM 999999 LX12_province) _)
    · rw [if_neg hc] at hf
      obtain ⟨-, hf⟩ := grd_ex hf
      obtain ⟨S21, eS21, hf⟩ := bnd_ex hf
      have F : Fr (inM 999999 LX12_province) S S21 := by
        rw [eS21]
        exact Fr.sI (Fr.rfl (inM 999999 LX12_province) _) rfl
      obtain ⟨x22, -, hf⟩ := bnd_ex hf
      exact F.trans (ih _ _ hf)
theorem rX12_province_154 {S' : mT} {r : Int32} : ∀ (k : Nat) (v1 : Int32) (S : mT), fX12_province_154 k v1 S = some (r, S') → Fr (inM 999999 LX12_province) S S' := by
  intro k
  induction k with
  | zero =>
    intro v1 S hf
    cases hf
  | succ k ih =>
    intro v1 S hf
    unfold fX12_province_154 at hf
    by_cases hc : (5 : Int32) ≤ v1
    · rw [if_pos hc] at hf
      obtain ⟨-, hf⟩ := grd_ex hf
      obtain ⟨S9, eS9, hf⟩ := bnd_ex hf
      have F : Fr (inM 999999 LX12_province) S S9 := by
        rw [eS9]
        exact Fr.sI (Fr.rfl (inM 999999 LX12_province) _) rfl
      obtain ⟨-, hf⟩ := grd_ex hf
      obtain ⟨S10, eS10, hf⟩ := bnd_ex hf
      have F : Fr (inM 999999 LX12_province) S S10 := by
        rw [eS10]
        exact Fr.sI F rfl
      obtain ⟨-, hf⟩ := grd_ex hf
      obtain ⟨S11, eS11, hf⟩ := bnd_ex hf
      have F : Fr (inM 999999 LX12_province) S S11 := by
        rw [eS11]
        exact Fr.sI F rfl
      obtain ⟨-, hf⟩ := grd_ex hf
      obtain ⟨S12, eS12, hf⟩ := bnd_ex hf
      have F : Fr (inM 999999 LX12_province) S S12 := by
        rw [eS12]
        exact Fr.sI F rfl
      obtain ⟨-, hf⟩ := grd_ex hf
      obtain ⟨S13, eS13, hf⟩ := bnd_ex hf
      have F : Fr (inM 999999 LX12_province) S S13 := by
        rw [eS13]
        exact Fr.sI F rfl
      exact F.trans (rX12_province_258 _ _ _ hf)
    · rw [if_neg hc] at hf
      obtain ⟨-, hf⟩ := grd_ex hf
      obtain ⟨S14, eS14, hf⟩ := bnd_ex hf
      have F : Fr (inM 999999 LX12_province) S S14 := by
        rw [eS14]
        exact Fr.sI (Fr.rfl (inM 999999 LX12_province) _) rfl
      obtain ⟨-, hf⟩ := grd_ex hf
      obtain ⟨S15, eS15, hf⟩ := bnd_ex hf
      have F : Fr (inM 999999 LX12_province) S S15 := by
        rw [eS15]
        exact Fr.sI F rfl
      obtain ⟨-, hf⟩ := grd_ex hf
      obtain ⟨S16, eS16, hf⟩ := bnd_ex hf
      have F : Fr (inM 999999 LX12_province) S S16 := by
        rw [eS16]
        exact Fr.sI F rfl
      obtain ⟨-, hf⟩ := grd_ex hf
      by_cases hc : (S16.1 187 37) ≤ v1
      · rw [if_pos hc] at hf
        exact F.trans (rX12_province_218 ih hf)
      · rw [if_neg hc] at hf
        obtain ⟨-, hf⟩ := grd_ex hf
        exact F.trans (rX12_province_218 ih hf)
theorem rX12_province_133 {S' : mT} {r : Int32} : ∀ (k : Nat) (v1 : Int32) (S : mT), fX12_province_133 k v1 S = some (r, S') → Fr (inM 999999 LX12_province) S S' := by
  intro k
  induction k with
  | zero =>
    intro v1 S hf
    cases hf
  | succ k ih =>
    intro v1 S hf
    unfold fX12_province_133 at hf
    by_cases hc : (17 : Int32) ≤ v1
    · rw [if_pos hc] at hf
      exact (Fr.rfl (inM 999999 LX12_province) _).trans (rX12_province_154 _ _ _ hf)
    · rw [if_neg hc] at hf
      obtain ⟨-, hf⟩ := grd_ex hf
      obtain ⟨S5, eS5, hf⟩ := bnd_ex hf
      have F : Fr (inM 999999 LX12_province) S S5 := by
        rw [eS5]
        exact Fr.sI (Fr.rfl (inM 999999 LX12_province) _) rfl
      obtain ⟨x6, -, hf⟩ := bnd_ex hf
      exact F.trans (ih _ _ hf)
theorem rX12_province_31 {S' : mT} {r : Int32} : ∀ (k : Nat) (v1 : Int32) (S : mT), fX12_province_31 k v1 S = some (r, S') → Fr (inM 999999 LX12_province) S S' := by
  intro k
  induction k with
  | zero =>
    intro v1 S hf
    cases hf
  | succ k ih =>
    intro v1 S hf
    unfold fX12_province_31 at hf
    by_cases hc : (3 : Int32) ≤ v1
    · rw [if_pos hc] at hf
      exact (Fr.rfl (inM 999999 LX12_province) _).trans (rX12_province_133 _ _ _ hf)
    · rw [if_neg hc] at hf
      obtain ⟨-, hf⟩ := grd_ex hf
      obtain ⟨S4, eS4, hf⟩ := bnd_ex hf
      have F : Fr (inM 999999 LX12_province) S S4 := by
        rw [eS4]
        exact Fr.sI (Fr.rfl (inM 999999 LX12_province) _) rfl
      obtain ⟨-, hf⟩ := grd_ex hf
      by_cases hc : (S4.1 199 (mIx v1)) = 0
      · rw [if_pos hc] at hf
        exact F.trans (rX12_province_72 ih hf)
      · rw [if_neg hc] at hf
        obtain ⟨-, hf⟩ := grd_ex hf
        exact F.trans (rX12_province_72 ih hf)
theorem rX12_province_0 {S' : mT} {r : Int32} {S : mT} (hf : fX12_province S = some (r, S')) : Fr (inM 999999 LX12_province) S S' := by
  unfold fX12_province at hf
  obtain ⟨S1, hq, hf⟩ := bndV_ex hf
  have F := (Fr.rfl (inM 999999 LX12_province) _).trans ((rX12_readAll hq).mono rfl (fun _ => rfl))
  obtain ⟨-, hf⟩ := grd_ex hf
  by_cases hc : (S1.1 187 2) ≤ 0
  · rw [if_pos hc] at hf
    obtain ⟨-, hf⟩ := grd_ex hf
    obtain ⟨S2, eS2, hf⟩ := bnd_ex hf
    have F : Fr (inM 999999 LX12_province) S S2 := by
      rw [eS2]
      exact Fr.sI F rfl
    obtain ⟨-, hf⟩ := grd_ex hf
    obtain ⟨S3, eS3, hf⟩ := bnd_ex hf
    have F : Fr (inM 999999 LX12_province) S S3 := by
      rw [eS3]
      exact Fr.sI F rfl
    exact F.trans (rX12_province_31 _ _ _ hf)
  · rw [if_neg hc] at hf
    cases hf
    exact F
theorem rX12_province {S S' : mT} {r : Int32} (hf : fX12_province S = some (r, S')) : Fr (inM 999999 LX12_province) S S' := rX12_province_0 hf
abbrev LX12_range : List (Nat × Nat × Option Nat) := [(999999, 999999, none), (187, 187, some 69), (229, 229, none)]
theorem rX12_range_17 {S' : mT} {r : Int32} {S : mT} (hf : fX12_range_17 S = some (r, S')) : Fr (inM 999999 LX12_range) S S' := by
  unfold fX12_range_17 at hf
  cases hf
  exact (Fr.rfl (inM 999999 LX12_range) _)
theorem rX12_range_76 {S' : mT} {r : Int32} {rc33 : Int32 → Int32 → Int32 → Int32 → Int32 → mT → Option (Int32 × mT)} (Hrc33 : ∀ (v1 : Int32) (v2 : Int32) (v4 : Int32) (v5 : Int32) (v6 : Int32) (S : mT), rc33 v1 v2 v4 v5 v6 S = some (r, S') → Fr (inM 999999 LX12_range) S S') {v1 : Int32} {v2 : Int32} {v4 : Int32} {v5 : Int32} {v6 : Int32} {S : mT} (hf : fX12_range_76 rc33 v1 v2 v4 v5 v6 S = some (r, S')) : Fr (inM 999999 LX12_range) S S' := by
  unfold fX12_range_76 at hf
  obtain ⟨x6, -, hf⟩ := bnd_ex hf
  exact (Fr.rfl (inM 999999 LX12_range) _).trans (Hrc33 _ _ _ _ _ _ hf)
theorem rX12_range_70 {S' : mT} {r : Int32} {rc33 : Int32 → Int32 → Int32 → Int32 → Int32 → mT → Option (Int32 × mT)} (Hrc33 : ∀ (v1 : Int32) (v2 : Int32) (v4 : Int32) (v5 : Int32) (v6 : Int32) (S : mT), rc33 v1 v2 v4 v5 v6 S = some (r, S') → Fr (inM 999999 LX12_range) S S') {v1 : Int32} {v2 : Int32} {v6 : Int32} {s0 : Int32} {S : mT} (hf : fX12_range_70 rc33 v1 v2 v6 s0 S = some (r, S')) : Fr (inM 999999 LX12_range) S S' := by
  unfold fX12_range_70 at hf
  exact (Fr.rfl (inM 999999 LX12_range) _).trans (rX12_range_76 Hrc33 hf)
theorem rX12_range_93 {S' : mT} {r : Int32} {s0 : Int32} {S : mT} (hf : fX12_range_93 s0 S = some (r, S')) : Fr (inM 999999 LX12_range) S S' := by
  unfold fX12_range_93 at hf
  cases hf
  exact (Fr.rfl (inM 999999 LX12_range) _)
theorem rX12_range_33 {S' : mT} {r : Int32} : ∀ (k : Nat) (v1 : Int32) (v2 : Int32) (v4 : Int32) (v5 : Int32) (v6 : Int32) (S : mT), fX12_range_33 k v1 v2 v4 v5 v6 S = some (r, S') → Fr (inM 999999 LX12_range) S S' := by
  intro k
  induction k with
  | zero =>
    intro v1 v2 v4 v5 v6 S hf
    cases hf
  | succ k ih =>
    intro v1 v2 v4 v5 v6 S hf
    unfold fX12_range_33 at hf
    by_cases hc : (7 : Int32) < v6
    · rw [if_pos hc] at hf
      by_cases hc : v2 = 0
      · rw [if_pos hc] at hf
        exact (Fr.rfl (inM 999999 LX12_range) _).trans (rX12_range_93 hf)
      · rw [if_neg hc] at hf
        exact (Fr.rfl (inM 999999 LX12_range) _).trans (rX12_range_93 hf)
    · rw [if_neg hc] at hf
      obtain ⟨-, hf⟩ := grd_ex hf
      by_cases hc : (S.1 229 (mIx (((8 : Int32) * v1) + v6))) = 0
      · rw [if_pos hc] at hf
        exact (Fr.rfl (inM 999999 LX12_range) _).trans (rX12_range_76 ih hf)
      · rw [if_neg hc] at hf
        by_cases hc : 0 ≤ v4
        · rw [if_pos hc] at hf
          exact (Fr.rfl (inM 999999 LX12_range) _).trans (rX12_range_70 ih hf)
        · rw [if_neg hc] at hf
          exact (Fr.rfl (inM 999999 LX12_range) _).trans (rX12_range_70 ih hf)
theorem rX12_range_0 {S' : mT} {r : Int32} {v1 : Int32} {v2 : Int32} {v3 : Int32} {S : mT} (hf : fX12_range v1 v2 v3 S = some (r, S')) : Fr (inM 999999 LX12_range) S S' := by
  unfold fX12_range at hf
  obtain ⟨x2, S1, hq, hf⟩ := bndC_ex hf
  have F := (Fr.rfl (inM 999999 LX12_range) _).trans ((rX12_isHouse hq).mono rfl (fun _ => rfl))
  by_cases hc : x2 = 0
  · rw [if_pos hc] at hf
    exact F.trans (rX12_range_17 hf)
  · rw [if_neg hc] at hf
    obtain ⟨x4, S3, hq, hf⟩ := bndC_ex hf
    have F := F.trans ((rX12_isIn hq).mono rfl (fun _ => rfl))
    by_cases hc : x4 = 0
    · rw [if_pos hc] at hf
      exact F.trans (rX12_range_17 hf)
    · rw [if_neg hc] at hf
      obtain ⟨S5, hq, hf⟩ := bndV_ex hf
      have F := F.trans ((rX12_layTruths hq).mono rfl (fun _ => rfl))
      exact F.trans (rX12_range_33 _ _ _ _ _ _ _ hf)
theorem rX12_range {v1 : Int32} {v2 : Int32} {v3 : Int32} {S S' : mT} {r : Int32} (hf : fX12_range v1 v2 v3 S = some (r, S')) : Fr (inM 999999 LX12_range) S S' := rX12_range_0 hf
abbrev LX12_redo : List (Nat × Nat × Option Nat) := [(999999, 999999, none), (187, 187, some 46), (187, 187, some 47), (208, 208, none), (212, 212, none)]
theorem rX12_redo_0 {S' : mT} {r : Int32} {S : mT} (hf : fX12_redo S = some (r, S')) : Fr (inM 999999 LX12_redo) S S' := by
  unfold fX12_redo at hf
  obtain ⟨-, hf⟩ := grd_ex hf
  by_cases hc : (S.1 187 47) = 0
  · rw [if_pos hc] at hf
    cases hf
    exact (Fr.rfl (inM 999999 LX12_redo) _)
  · rw [if_neg hc] at hf
    obtain ⟨-, hf⟩ := grd_ex hf
    obtain ⟨S1, hq, hf⟩ := bndV_ex hf
    have F := (Fr.rfl (inM 999999 LX12_redo) _).trans ((rX12_exchange hq).mono rfl (fun _ => rfl))
    obtain ⟨-, hf⟩ := grd_ex hf
    obtain ⟨S2, eS2, hf⟩ := bnd_ex hf
    have F : Fr (inM 999999 LX12_redo) S S2 := by
      rw [eS2]
      exact Fr.sI F rfl
    obtain ⟨-, hf⟩ := grd_ex hf
    obtain ⟨S3, eS3, hf⟩ := bnd_ex hf
    have F : Fr (inM 999999 LX12_redo) S S3 := by
      rw [eS3]
      exact Fr.sI F rfl
    cases hf
    exact F
theorem rX12_redo {S S' : mT} {r : Int32} (hf : fX12_redo S = some (r, S')) : Fr (inM 999999 LX12_redo) S S' := rX12_redo_0 hf
abbrev LX12_report : List (Nat × Nat × Option Nat) := [(999999, 999999, none), (187, 187, some 66), (224, 224, none), (225, 225, none), (226, 226, none), (227, 227, none), (228, 228, none)]
theorem rX12_report_45 {S' : mT} {r : Int32} {S : mT} (hf : fX12_report_45 S = some (r, S')) : Fr (inM 999999 LX12_report) S S' := by
  unfold fX12_report_45 at hf
  cases hf
  exact (Fr.rfl (inM 999999 LX12_report) _)
theorem rX12_report_0 {S' : mT} {r : Int32} {v1 : Int32} {v2 : Int32} {v3 : Int32} {S : mT} (hf : fX12_report v1 v2 v3 S = some (r, S')) : Fr (inM 999999 LX12_report) S S' := by
  unfold fX12_report at hf
  obtain ⟨-, hf⟩ := grd_ex hf
  obtain ⟨x2, S1, hq, hf⟩ := bndC_ex hf
  have F := (Fr.rfl (inM 999999 LX12_report) _).trans ((rX12_isIn hq).mono rfl (fun _ => rfl))
  by_cases hc : x2 = 0
  · rw [if_pos hc] at hf
    exact F.trans (rX12_report_45 hf)
  · rw [if_neg hc] at hf
    obtain ⟨x4, S3, hq, hf⟩ := bndC_ex hf
    have F := F.trans ((rX12_isIn hq).mono rfl (fun _ => rfl))
    by_cases hc : x4 = 0
    · rw [if_pos hc] at hf
      exact F.trans (rX12_report_45 hf)
    · rw [if_neg hc] at hf
      obtain ⟨x6, S5, hq, hf⟩ := bndC_ex hf
      have F := F.trans ((rX12_isIn hq).mono rfl (fun _ => rfl))
      by_cases hc : x6 = 0
      · rw [if_pos hc] at hf
        exact F.trans (rX12_report_45 hf)
      · rw [if_neg hc] at hf
        obtain ⟨-, hf⟩ := grd_ex hf
        by_cases hc : (S5.1 187 66) = (30 : Int32)
        · rw [if_pos hc] at hf
          exact F.trans (rX12_report_45 hf)
        · rw [if_neg hc] at hf
          obtain ⟨-, hf⟩ := grd_ex hf
          obtain ⟨S7, eS7, hf⟩ := bnd_ex hf
          have F : Fr (inM 999999 LX12_report) S S7 := by
            rw [eS7]
            exact Fr.sI F rfl
          obtain ⟨-, hf⟩ := grd_ex hf
          obtain ⟨S8, eS8, hf⟩ := bnd_ex hf
          have F : Fr (inM 999999 LX12_report) S S8 := by
            rw [eS8]
            exact Fr.sI F rfl
          obtain ⟨-, hf⟩ := grd_ex hf
          obtain ⟨S9, eS9, hf⟩ := bnd_ex hf
          have F : Fr (inM 999999 LX12_report) S S9 := by
            rw [eS9]
            exact Fr.sI F rfl
          obtain ⟨-, hf⟩ := grd_ex hf
          obtain ⟨S10, eS10, hf⟩ := bnd_ex hf
          have F : Fr (inM 999999 LX12_report) S S10 := by
            rw [eS10]
            exact Fr.sI F rfl
          obtain ⟨-, hf⟩ := grd_ex hf
          obtain ⟨S11, eS11, hf⟩ := bnd_ex hf
          have F : Fr (inM 999999 LX12_report) S S11 := by
            rw [eS11]
            exact Fr.sI F rfl
          obtain ⟨-, hf⟩ := grd_ex hf
          obtain ⟨S12, eS12, hf⟩ := bnd_ex hf
          have F : Fr (inM 999999 LX12_report) S S12 := by
            rw [eS12]
            exact Fr.sI F rfl
          obtain ⟨-, hf⟩ := grd_ex hf
          cases hf
          exact F
theorem rX12_report {v1 : Int32} {v2 : Int32} {v3 : Int32} {S S' : mT} {r : Int32} (hf : fX12_report v1 v2 v3 S = some (r, S')) : Fr (inM 999999 LX12_report) S S' := rX12_report_0 hf
abbrev LX12_rounds : List (Nat × Nat × Option Nat) := [(999999, 999999, none), (187, 187, some 51), (215, 215, none), (216, 216, none)]
theorem rX12_rounds_111 {S' : mT} {r : Int32} {rc28 : Int32 → Int32 → Int32 → Int32 → mT → Option (Int32 × mT)} (Hrc28 : ∀ (v1 : Int32) (v2 : Int32) (v3 : Int32) (v4 : Int32) (S : mT), rc28 v1 v2 v3 v4 S = some (r, S') → Fr (inM 999999 LX12_rounds) S S') {v1 : Int32} {v2 : Int32} {v3 : Int32} {v4 : Int32} {S : mT} (hf : fX12_rounds_111 rc28 v1 v2 v3 v4 S = some (r, S')) : Fr (inM 999999 LX12_rounds) S S' := by
  unfold fX12_rounds_111 at hf
  obtain ⟨x8, -, hf⟩ := bnd_ex hf
  exact (Fr.rfl (inM 999999 LX12_rounds) _).trans (Hrc28 _ _ _ _ _ hf)
theorem rX12_rounds_74 {S' : mT} {r : Int32} {rc28 : Int32 → Int32 → Int32 → Int32 → mT → Option (Int32 × mT)} (Hrc28 : ∀ (v1 : Int32) (v2 : Int32) (v3 : Int32) (v4 : Int32) (S : mT), rc28 v1 v2 v3 v4 S = some (r, S') → Fr (inM 999999 LX12_rounds) S S') : ∀ (k : Nat) (v1 : Int32) (v2 : Int32) (v3 : Int32) (v4 : Int32) (v6 : Int32) (S : mT), fX12_rounds_74 rc28 k v1 v2 v3 v4 v6 S = some (r, S') → Fr (inM 999999 LX12_rounds) S S' := by
  intro k
  induction k with
  | zero =>
    intro v1 v2 v3 v4 v6 S hf
    cases hf
  | succ k ih =>
    intro v1 v2 v3 v4 v6 S hf
    unfold fX12_rounds_74 at hf
    obtain ⟨-, hf⟩ := grd_ex hf
    by_cases hc : (S.1 187 37) ≤ v6
    · rw [if_pos hc] at hf
      obtain ⟨-, hf⟩ := grd_ex hf
      obtain ⟨S11, eS11, hf⟩ := bnd_ex hf
      have F : Fr (inM 999999 LX12_rounds) S S11 := by
        rw [eS11]
        exact Fr.sI (Fr.rfl (inM 999999 LX12_rounds) _) rfl
      exact F.trans (rX12_rounds_111 Hrc28 hf)
    · rw [if_neg hc] at hf
      obtain ⟨-, hf⟩ := grd_ex hf
      obtain ⟨S12, eS12, hf⟩ := bnd_ex hf
      have F : Fr (inM 999999 LX12_rounds) S S12 := by
        rw [eS12]
        exact Fr.sI (Fr.rfl (inM 999999 LX12_rounds) _) rfl
      obtain ⟨x13, -, hf⟩ := bnd_ex hf
      exact F.trans (ih _ _ _ _ _ _ hf)
theorem rX12_rounds_57 {S' : mT} {r : Int32} {rc28 : Int32 → Int32 → Int32 → Int32 → mT → Option (Int32 × mT)} (Hrc28 : ∀ (v1 : Int32) (v2 : Int32) (v3 : Int32) (v4 : Int32) (S : mT), rc28 v1 v2 v3 v4 S = some (r, S') → Fr (inM 999999 LX12_rounds) S S') {v1 : Int32} {v2 : Int32} {v3 : Int32} {v4 : Int32} {v5 : Int32} {S : mT} (hf : fX12_rounds_57 rc28 v1 v2 v3 v4 v5 S = some (r, S')) : Fr (inM 999999 LX12_rounds) S S' := by
  unfold fX12_rounds_57 at hf
  obtain ⟨x10, S9, hq, hf⟩ := bndC_ex hf
  have F := (Fr.rfl (inM 999999 LX12_rounds) _).trans ((rX12_doneAt hq).mono rfl (fun _ => rfl))
  by_cases hc : x10 ≤ v1
  · rw [if_pos hc] at hf
    exact F.trans (rX12_rounds_74 Hrc28 _ _ _ _ _ _ _ hf)
  · rw [if_neg hc] at hf
    exact F.trans (rX12_rounds_111 Hrc28 hf)
theorem rX12_rounds_28 {S' : mT} {r : Int32} : ∀ (k : Nat) (v1 : Int32) (v2 : Int32) (v3 : Int32) (v4 : Int32) (S : mT), fX12_rounds_28 k v1 v2 v3 v4 S = some (r, S') → Fr (inM 999999 LX12_rounds) S S' := by
  intro k
  induction k with
  | zero =>
    intro v1 v2 v3 v4 S hf
    cases hf
  | succ k ih =>
    intro v1 v2 v3 v4 S hf
    unfold fX12_rounds_28 at hf
    by_cases hc : v3 ≤ v4
    · rw [if_pos hc] at hf
      cases hf
      exact (Fr.rfl (inM 999999 LX12_rounds) _)
    · rw [if_neg hc] at hf
      obtain ⟨x7, S6, hq, hf⟩ := bndC_ex hf
      have F := (Fr.rfl (inM 999999 LX12_rounds) _).trans ((rX12_layCounters hq).mono rfl (fun _ => rfl))
      by_cases hc : x7 < 0
      · rw [if_pos hc] at hf
        exact F.trans (rX12_rounds_111 ih hf)
      · rw [if_neg hc] at hf
        by_cases hc : v2 < 0
        · rw [if_pos hc] at hf
          exact F.trans (rX12_rounds_57 ih hf)
        · rw [if_neg hc] at hf
          by_cases hc : v2 ≤ x7
          · rw [if_pos hc] at hf
            exact F.trans (rX12_rounds_111 ih hf)
          · rw [if_neg hc] at hf
            exact F.trans (rX12_rounds_57 ih hf)
theorem rX12_rounds_0 {S' : mT} {r : Int32} {v1 : Int32} {S : mT} (hf : fX12_rounds v1 S = some (r, S')) : Fr (inM 999999 LX12_rounds) S S' := by
  unfold fX12_rounds at hf
  obtain ⟨-, hf⟩ := grd_ex hf
  obtain ⟨S1, eS1, hf⟩ := bnd_ex hf
  have F : Fr (inM 999999 LX12_rounds) S S1 := by
    rw [eS1]
    exact Fr.sI (Fr.rfl (inM 999999 LX12_rounds) _) rfl
  obtain ⟨x3, S2, hq, hf⟩ := bndC_ex hf
  have F := F.trans ((rX12_isIn hq).mono rfl (fun _ => rfl))
  by_cases hc : x3 = 0
  · rw [if_pos hc] at hf
    cases hf
    exact F
  · rw [if_neg hc] at hf
    obtain ⟨x5, S4, hq, hf⟩ := bndC_ex hf
    have F := F.trans ((rX12_countersRows hq).mono rfl (fun _ => rfl))
    exact F.trans (rX12_rounds_28 _ _ _ _ _ _ hf)
theorem rX12_rounds {v1 : Int32} {S S' : mT} {r : Int32} (hf : fX12_rounds v1 S = some (r, S')) : Fr (inM 999999 LX12_rounds) S S' := rX12_rounds_0 hf
abbrev LX12_seats : List (Nat × Nat × Option Nat) := [(999999, 999999, none), (187, 187, some 43), (187, 187, some 44), (209, 209, none), (210, 210, none), (211, 211, none), (217, 217, none), (218, 218, none)]
theorem rX12_seats_27 {S' : mT} {r : Int32} {S : mT} (hf : fX12_seats_27 S = some (r, S')) : Fr (inM 999999 LX12_seats) S S' := by
  unfold fX12_seats_27 at hf
  cases hf
  exact (Fr.rfl (inM 999999 LX12_seats) _)
theorem rX12_seats_0 {S' : mT} {r : Int32} {v1 : Int32} {v2 : Int32} {v3 : Int32} {S : mT} (hf : fX12_seats v1 v2 v3 S = some (r, S')) : Fr (inM 999999 LX12_seats) S S' := by
  unfold fX12_seats at hf
  obtain ⟨x2, S1, hq, hf⟩ := bndC_ex hf
  have F := (Fr.rfl (inM 999999 LX12_seats) _).trans ((rX12_isHouse hq).mono rfl (fun _ => rfl))
  by_cases hc : x2 = 0
  · rw [if_pos hc] at hf
    exact F.trans (rX12_seats_27 hf)
  · rw [if_neg hc] at hf
    obtain ⟨x4, S3, hq, hf⟩ := bndC_ex hf
    have F := F.trans ((rX12_isIn hq).mono rfl (fun _ => rfl))
    by_cases hc : x4 = 0
    · rw [if_pos hc] at hf
      exact F.trans (rX12_seats_27 hf)
    · rw [if_neg hc] at hf
      obtain ⟨x6, S5, hq, hf⟩ := bndC_ex hf
      have F := F.trans ((rX12_isIn hq).mono rfl (fun _ => rfl))
      by_cases hc : x6 = 0
      · rw [if_pos hc] at hf
        exact F.trans (rX12_seats_27 hf)
      · rw [if_neg hc] at hf
        obtain ⟨S7, hq, hf⟩ := bndV_ex hf
        have F := F.trans ((rX12_load hq).mono rfl (fun _ => rfl))
        obtain ⟨S8, hq, hf⟩ := bndV_ex hf
        have F := F.trans ((rX12_laySeats hq).mono rfl (fun _ => rfl))
        obtain ⟨-, hf⟩ := grd_ex hf
        cases hf
        exact F
theorem rX12_seats {v1 : Int32} {v2 : Int32} {v3 : Int32} {S S' : mT} {r : Int32} (hf : fX12_seats v1 v2 v3 S = some (r, S')) : Fr (inM 999999 LX12_seats) S S' := rX12_seats_0 hf
abbrev LX12_steal : List (Nat × Nat × Option Nat) := [(999999, 999999, none), (187, 187, some 46), (187, 187, some 47), (208, 208, none), (212, 212, none)]
theorem rX12_steal_31 {S' : mT} {r : Int32} {S : mT} (hf : fX12_steal_31 S = some (r, S')) : Fr (inM 999999 LX12_steal) S S' := by
  unfold fX12_steal_31 at hf
  cases hf
  exact (Fr.rfl (inM 999999 LX12_steal) _)
theorem rX12_steal_0 {S' : mT} {r : Int32} {v1 : Int32} {v2 : Int32} {S : mT} (hf : fX12_steal v1 v2 S = some (r, S')) : Fr (inM 999999 LX12_steal) S S' := by
  unfold fX12_steal at hf
  obtain ⟨x2, S1, hq, hf⟩ := bndC_ex hf
  have F := (Fr.rfl (inM 999999 LX12_steal) _).trans ((rX12_isHouse hq).mono rfl (fun _ => rfl))
  by_cases hc : x2 = 0
  · rw [if_pos hc] at hf
    exact F.trans (rX12_steal_31 hf)
  · rw [if_neg hc] at hf
    obtain ⟨x4, S3, hq, hf⟩ := bndC_ex hf
    have F := F.trans ((rX12_isIn hq).mono rfl (fun _ => rfl))
    by_cases hc : x4 = 0
    · rw [if_pos hc] at hf
      exact F.trans (rX12_steal_31 hf)
    · rw [if_neg hc] at hf
      obtain ⟨-, hf⟩ := grd_ex hf
      by_cases hc : v2 ≤ (S3.1 208 (mIx ((10 : Int32) + v1)))
      · rw [if_pos hc] at hf
        obtain ⟨S5, hq, hf⟩ := bndV_ex hf
        have F := F.trans ((rX12_act hq).mono rfl (fun _ => rfl))
        obtain ⟨-, hf⟩ := grd_ex hf
        obtain ⟨S6, eS6, hf⟩ := bnd_ex hf
        have F : Fr (inM 999999 LX12_steal) S S6 := by
          rw [eS6]
          exact Fr.sI F rfl
        obtain ⟨-, hf⟩ := grd_ex hf
        cases hf
        exact F
      · rw [if_neg hc] at hf
        exact F.trans (rX12_steal_31 hf)
theorem rX12_steal {v1 : Int32} {v2 : Int32} {S S' : mT} {r : Int32} (hf : fX12_steal v1 v2 S = some (r, S')) : Fr (inM 999999 LX12_steal) S S' := rX12_steal_0 hf
abbrev LX12_stone : List (Nat × Nat × Option Nat) := [(999999, 999999, none), (187, 187, some 43), (187, 187, some 44), (209, 209, none), (210, 210, none), (211, 211, none), (217, 217, none), (218, 218, none), (219, 219, none)]
theorem rX12_stone_19 {S' : mT} {r : Int32} {S : mT} (hf : fX12_stone_19 S = some (r, S')) : Fr (inM 999999 LX12_stone) S S' := by
  unfold fX12_stone_19 at hf
  cases hf
  exact (Fr.rfl (inM 999999 LX12_stone) _)
theorem rX12_stone_40 {S' : mT} {r : Int32} : ∀ (k : Nat) (v1 : Int32) (v2 : Int32) (v3 : Int32) (v4 : Int32) (S : mT), fX12_stone_40 k v1 v2 v3 v4 S = some (r, S') → Fr (inM 999999 LX12_stone) S S' := by
  intro k
  induction k with
  | zero =>
    intro v1 v2 v3 v4 S hf
    cases hf
  | succ k ih =>
    intro v1 v2 v3 v4 S hf
    unfold fX12_stone_40 at hf
    obtain ⟨-, hf⟩ := grd_ex hf
    by_cases hc : (S.1 187 37) ≤ v4
    · rw [if_pos hc] at hf
      cases hf
      exact (Fr.rfl (inM 999999 LX12_stone) _)
    · rw [if_neg hc] at hf
      obtain ⟨-, hf⟩ := grd_ex hf
      obtain ⟨S8, eS8, hf⟩ := bnd_ex hf
      have F : Fr (inM 999999 LX12_stone) S S8 := by
        rw [eS8]
        exact Fr.sI (Fr.rfl (inM 999999 LX12_stone) _) rfl
      obtain ⟨S9, hq, hf⟩ := bndV_ex hf
      have F := F.trans ((rX12_laySeats hq).mono rfl (fun _ => rfl))
      obtain ⟨-, hf⟩ := grd_ex hf
      obtain ⟨S10, eS10, hf⟩ := bnd_ex hf
      have F : Fr (inM 999999 LX12_stone) S S10 := by
        rw [eS10]
        exact Fr.sI F rfl
      obtain ⟨x12, S11, hq, hf⟩ := bndC_ex hf
      have F := F.trans ((rX12_isOtherSeats hq).mono rfl (fun _ => rfl))
      obtain ⟨x14, S13, hq, hf⟩ := bndC_ex hf
      have F := F.trans ((rX12_truth hq).mono rfl (fun _ => rfl))
      obtain ⟨x15, -, hf⟩ := bnd_ex hf
      obtain ⟨x16, -, hf⟩ := bnd_ex hf
      exact F.trans (ih _ _ _ _ _ hf)
theorem rX12_stone_0 {S' : mT} {r : Int32} {v1 : Int32} {v2 : Int32} {S : mT} (hf : fX12_stone v1 v2 S = some (r, S')) : Fr (inM 999999 LX12_stone) S S' := by
  unfold fX12_stone at hf
  obtain ⟨x2, S1, hq, hf⟩ := bndC_ex hf
  have F := (Fr.rfl (inM 999999 LX12_stone) _).trans ((rX12_isIn hq).mono rfl (fun _ => rfl))
  by_cases hc : x2 = 0
  · rw [if_pos hc] at hf
    exact F.trans (rX12_stone_19 hf)
  · rw [if_neg hc] at hf
    obtain ⟨x4, S3, hq, hf⟩ := bndC_ex hf
    have F := F.trans ((rX12_isIn hq).mono rfl (fun _ => rfl))
    by_cases hc : x4 = 0
    · rw [if_pos hc] at hf
      exact F.trans (rX12_stone_19 hf)
    · rw [if_neg hc] at hf
      obtain ⟨S5, hq, hf⟩ := bndV_ex hf
      have F := F.trans ((rX12_load hq).mono rfl (fun _ => rfl))
      obtain ⟨S6, hq, hf⟩ := bndV_ex hf
      have F := F.trans ((rX12_laySeats hq).mono rfl (fun _ => rfl))
      obtain ⟨S7, hq, hf⟩ := bndV_ex hf
      have F := F.trans ((rX12_keepSeats hq).mono rfl (fun _ => rfl))
      exact F.trans (rX12_stone_40 _ _ _ _ _ _ hf)
theorem rX12_stone {v1 : Int32} {v2 : Int32} {S S' : mT} {r : Int32} (hf : fX12_stone v1 v2 S = some (r, S')) : Fr (inM 999999 LX12_stone) S S' := rX12_stone_0 hf
abbrev LX12_summer : List (Nat × Nat × Option Nat) := [(999999, 999999, none), (187, 187, some 43), (187, 187, some 44), (187, 187, some 46), (187, 187, some 47), (197, 197, none), (200, 200, none), (208, 208, none), (209, 209, none), (210, 210, none), (211, 211, none), (212, 212, none)]
theorem rX12_summer_0 {S' : mT} {r : Int32} {S : mT} (hf : fX12_summer S = some (r, S')) : Fr (inM 999999 LX12_summer) S S' := by
  unfold fX12_summer at hf
  obtain ⟨-, hf⟩ := grd_ex hf
  by_cases hc : (S.1 208 (mIx (15 : Int32))) = (999 : Int32)
  · rw [if_pos hc] at hf
    cases hf
    exact (Fr.rfl (inM 999999 LX12_summer) _)
  · rw [if_neg hc] at hf
    obtain ⟨S1, hq, hf⟩ := bndV_ex hf
    have F := (Fr.rfl (inM 999999 LX12_summer) _).trans ((rX12_act hq).mono rfl (fun _ => rfl))
    obtain ⟨S2, hq, hf⟩ := bndV_ex hf
    have F := F.trans ((rX12_load hq).mono rfl (fun _ => rfl))
    obtain ⟨S3, hq, hf⟩ := bndV_ex hf
    have F := F.trans ((rX12_goSummer hq).mono rfl (fun _ => rfl))
    obtain ⟨S4, hq, hf⟩ := bndV_ex hf
    have F := F.trans ((rX12_keep hq).mono rfl (fun _ => rfl))
    obtain ⟨x6, S5, hq, hf⟩ := bndC_ex hf
    have F := F.trans ((rX12_allBowls hq).mono rfl (fun _ => rfl))
    cases hf
    exact F
theorem rX12_summer {S S' : mT} {r : Int32} (hf : fX12_summer S = some (r, S')) : Fr (inM 999999 LX12_summer) S S' := rX12_summer_0 hf
abbrev LX12_tellsAll : List (Nat × Nat × Option Nat) := [(999999, 999999, none), (230, 230, none)]
theorem rX12_tellsAll_105 {S' : mT} {r : Int32} {rc34 : Int32 → Int32 → Int32 → Int32 → Int32 → mT → Option (Int32 × mT)} (Hrc34 : ∀ (v1 : Int32) (v2 : Int32) (v3 : Int32) (v4 : Int32) (v5 : Int32) (S : mT), rc34 v1 v2 v3 v4 v5 S = some (r, S') → Fr (inM 999999 LX12_tellsAll) S S') {rc66 : Int32 → Int32 → Int32 → Int32 → Int32 → Int32 → mT → Option (Int32 × mT)} (Hrc66 : ∀ (v1 : Int32) (v2 : Int32) (v3 : Int32) (v5 : Int32) (v6 : Int32) (v7 : Int32) (S : mT), rc66 v1 v2 v3 v5 v6 v7 S = some (r, S') → Fr (inM 999999 LX12_tellsAll) S S') {v1 : Int32} {v2 : Int32} {v3 : Int32} {v5 : Int32} {v6 : Int32} {v7 : Int32} {S : mT} (hf : fX12_tellsAll_105 rc34 rc66 v1 v2 v3 v5 v6 v7 S = some (r, S')) : Fr (inM 999999 LX12_tellsAll) S S' := by
  unfold fX12_tellsAll_105 at hf
  obtain ⟨x10, -, hf⟩ := bnd_ex hf
  exact (Fr.rfl (inM 999999 LX12_tellsAll) _).trans (Hrc66 _ _ _ _ _ _ _ hf)
theorem rX12_tellsAll_136 {S' : mT} {r : Int32} {rc34 : Int32 → Int32 → Int32 → Int32 → Int32 → mT → Option (Int32 × mT)} (Hrc34 : ∀ (v1 : Int32) (v2 : Int32) (v3 : Int32) (v4 : Int32) (v5 : Int32) (S : mT), rc34 v1 v2 v3 v4 v5 S = some (r, S') → Fr (inM 999999 LX12_tellsAll) S S') {v1 : Int32} {v2 : Int32} {v3 : Int32} {v4 : Int32} {v5 : Int32} {S : mT} (hf : fX12_tellsAll_136 rc34 v1 v2 v3 v4 v5 S = some (r, S')) : Fr (inM 999999 LX12_tellsAll) S S' := by
  unfold fX12_tellsAll_136 at hf
  obtain ⟨x8, -, hf⟩ := bnd_ex hf
  exact (Fr.rfl (inM 999999 LX12_tellsAll) _).trans (Hrc34 _ _ _ _ _ _ hf)
theorem rX12_tellsAll_126 {S' : mT} {r : Int32} {rc34 : Int32 → Int32 → Int32 → Int32 → Int32 → mT → Option (Int32 × mT)} (Hrc34 : ∀ (v1 : Int32) (v2 : Int32) (v3 : Int32) (v4 : Int32) (v5 : Int32) (S : mT), rc34 v1 v2 v3 v4 v5 S = some (r, S') → Fr (inM 999999 LX12_tellsAll) S S') {v1 : Int32} {v2 : Int32} {v3 : Int32} {v5 : Int32} {v6 : Int32} {s0 : Int32} {S : mT} (hf : fX12_tellsAll_126 rc34 v1 v2 v3 v5 v6 s0 S = some (r, S')) : Fr (inM 999999 LX12_tellsAll) S S' := by
  unfold fX12_tellsAll_126 at hf
  obtain ⟨-, hf⟩ := grd_ex hf
  obtain ⟨S9, eS9, hf⟩ := bnd_ex hf
  have F : Fr (inM 999999 LX12_tellsAll) S S9 := by
    rw [eS9]
    exact Fr.sI (Fr.rfl (inM 999999 LX12_tellsAll) _) rfl
  exact F.trans (rX12_tellsAll_136 Hrc34 hf)
theorem rX12_tellsAll_66 {S' : mT} {r : Int32} {rc34 : Int32 → Int32 → Int32 → Int32 → Int32 → mT → Option (Int32 × mT)} (Hrc34 : ∀ (v1 : Int32) (v2 : Int32) (v3 : Int32) (v4 : Int32) (v5 : Int32) (S : mT), rc34 v1 v2 v3 v4 v5 S = some (r, S') → Fr (inM 999999 LX12_tellsAll) S S') : ∀ (k : Nat) (v1 : Int32) (v2 : Int32) (v3 : Int32) (v5 : Int32) (v6 : Int32) (v7 : Int32) (S : mT), fX12_tellsAll_66 rc34 k v1 v2 v3 v5 v6 v7 S = some (r, S') → Fr (inM 999999 LX12_tellsAll) S S' := by
  intro k
  induction k with
  | zero =>
    intro v1 v2 v3 v5 v6 v7 S hf
    cases hf
  | succ k ih =>
    intro v1 v2 v3 v5 v6 v7 S hf
    unfold fX12_tellsAll_66 at hf
    obtain ⟨-, hf⟩ := grd_ex hf
    by_cases hc : (S.1 187 37) ≤ v7
    · rw [if_pos hc] at hf
      obtain ⟨-, hf⟩ := grd_ex hf
      by_cases hc : (S.1 230 (mIx v6)) = 0
      · rw [if_pos hc] at hf
        exact (Fr.rfl (inM 999999 LX12_tellsAll) _).trans (rX12_tellsAll_126 Hrc34 hf)
      · rw [if_neg hc] at hf
        exact (Fr.rfl (inM 999999 LX12_tellsAll) _).trans (rX12_tellsAll_126 Hrc34 hf)
    · rw [if_neg hc] at hf
      by_cases hc : ((v1 >>> (v7 &&& 31)) &&& (1 : Int32)) = 0
      · rw [if_pos hc] at hf
        obtain ⟨-, hf⟩ := grd_ex hf
        obtain ⟨x7, -, hf⟩ := bnd_ex hf
        exact (Fr.rfl (inM 999999 LX12_tellsAll) _).trans (rX12_tellsAll_105 Hrc34 ih hf)
      · rw [if_neg hc] at hf
        exact (Fr.rfl (inM 999999 LX12_tellsAll) _).trans (rX12_tellsAll_105 Hrc34 ih hf)
theorem rX12_tellsAll_142 {S' : mT} {r : Int32} {v4 : Int32} {S : mT} (hf : fX12_tellsAll_142 v4 S = some (r, S')) : Fr (inM 999999 LX12_tellsAll) S S' := by
  unfold fX12_tellsAll_142 at hf
  obtain ⟨-, hf⟩ := grd_ex hf
  cases hf
  exact (Fr.rfl (inM 999999 LX12_tellsAll) _)
theorem rX12_tellsAll_34 {S' : mT} {r : Int32} : ∀ (k : Nat) (v1 : Int32) (v2 : Int32) (v3 : Int32) (v4 : Int32) (v5 : Int32) (S : mT), fX12_tellsAll_34 k v1 v2 v3 v4 v5 S = some (r, S') → Fr (inM 999999 LX12_tellsAll) S S' := by
  intro k
  induction k with
  | zero =>
    intro v1 v2 v3 v4 v5 S hf
    cases hf
  | succ k ih =>
    intro v1 v2 v3 v4 v5 S hf
    unfold fX12_tellsAll_34 at hf
    by_cases hc : v3 ≤ v5
    · rw [if_pos hc] at hf
      exact (Fr.rfl (inM 999999 LX12_tellsAll) _).trans (rX12_tellsAll_142 hf)
    · rw [if_neg hc] at hf
      by_cases hc : v4 = 0
      · rw [if_pos hc] at hf
        exact (Fr.rfl (inM 999999 LX12_tellsAll) _).trans (rX12_tellsAll_142 hf)
      · rw [if_neg hc] at hf
        obtain ⟨x6, S5, hq, hf⟩ := bndC_ex hf
        have F := (Fr.rfl (inM 999999 LX12_tellsAll) _).trans ((rX12_liarsOf hq).mono rfl (fun _ => rfl))
        by_cases hc : x6 ≤ 0
        · rw [if_pos hc] at hf
          exact F.trans (rX12_tellsAll_66 ih _ _ _ _ _ _ _ _ hf)
        · rw [if_neg hc] at hf
          exact F.trans (rX12_tellsAll_136 ih hf)
theorem rX12_tellsAll_8 {S' : mT} {r : Int32} : ∀ (k : Nat) (v1 : Int32) (v2 : Int32) (v3 : Int32) (v4 : Int32) (S : mT), fX12_tellsAll_8 k v1 v2 v3 v4 S = some (r, S') → Fr (inM 999999 LX12_tellsAll) S S' := by
  intro k
  induction k with
  | zero =>
    intro v1 v2 v3 v4 S hf
    cases hf
  | succ k ih =>
    intro v1 v2 v3 v4 S hf
    unfold fX12_tellsAll_8 at hf
    by_cases hc : v3 ≤ v4
    · rw [if_pos hc] at hf
      exact (Fr.rfl (inM 999999 LX12_tellsAll) _).trans (rX12_tellsAll_34 _ _ _ _ _ _ _ hf)
    · rw [if_neg hc] at hf
      obtain ⟨-, hf⟩ := grd_ex hf
      obtain ⟨S3, eS3, hf⟩ := bnd_ex hf
      have F : Fr (inM 999999 LX12_tellsAll) S S3 := by
        rw [eS3]
        exact Fr.sI (Fr.rfl (inM 999999 LX12_tellsAll) _) rfl
      obtain ⟨x4, -, hf⟩ := bnd_ex hf
      exact F.trans (ih _ _ _ _ _ hf)
theorem rX12_tellsAll_0 {S' : mT} {r : Int32} {v1 : Int32} {v2 : Int32} {S : mT} (hf : fX12_tellsAll v1 v2 S = some (r, S')) : Fr (inM 999999 LX12_tellsAll) S S' := by
  unfold fX12_tellsAll at hf
  obtain ⟨x2, S1, hq, hf⟩ := bndC_ex hf
  have F := (Fr.rfl (inM 999999 LX12_tellsAll) _).trans ((rX12_rowsOf hq).mono rfl (fun _ => rfl))
  exact F.trans (rX12_tellsAll_8 _ _ _ _ _ _ hf)
theorem rX12_tellsAll {v1 : Int32} {v2 : Int32} {S S' : mT} {r : Int32} (hf : fX12_tellsAll v1 v2 S = some (r, S')) : Fr (inM 999999 LX12_tellsAll) S S' := rX12_tellsAll_0 hf
abbrev LX12_tells : List (Nat × Nat × Option Nat) := [(999999, 999999, none), (187, 187, some 69), (229, 229, none), (230, 230, none)]
theorem rX12_tells_91 {S' : mT} {r : Int32} {rc37 : Int32 → Int32 → Int32 → Int32 → mT → Option (Int32 × mT)} (Hrc37 : ∀ (v1 : Int32) (v2 : Int32) (v3 : Int32) (v4 : Int32) (S : mT), rc37 v1 v2 v3 v4 S = some (r, S') → Fr (inM 999999 LX12_tells) S S') {v1 : Int32} {v2 : Int32} {v3 : Int32} {v4 : Int32} {S : mT} (hf : fX12_tells_91 rc37 v1 v2 v3 v4 S = some (r, S')) : Fr (inM 999999 LX12_tells) S S' := by
  unfold fX12_tells_91 at hf
  obtain ⟨x17, -, hf⟩ := bnd_ex hf
  exact (Fr.rfl (inM 999999 LX12_tells) _).trans (Hrc37 _ _ _ _ _ hf)
theorem rX12_tells_78 {S' : mT} {r : Int32} {rc37 : Int32 → Int32 → Int32 → Int32 → mT → Option (Int32 × mT)} (Hrc37 : ∀ (v1 : Int32) (v2 : Int32) (v3 : Int32) (v4 : Int32) (S : mT), rc37 v1 v2 v3 v4 S = some (r, S') → Fr (inM 999999 LX12_tells) S S') {v1 : Int32} {v2 : Int32} {v3 : Int32} {v4 : Int32} {S : mT} (hf : fX12_tells_78 rc37 v1 v2 v3 v4 S = some (r, S')) : Fr (inM 999999 LX12_tells) S S' := by
  unfold fX12_tells_78 at hf
  obtain ⟨x16, S15, hq, hf⟩ := bndC_ex hf
  have F := (Fr.rfl (inM 999999 LX12_tells) _).trans ((rX12_tellsAll hq).mono rfl (fun _ => rfl))
  by_cases hc : x16 = 0
  · rw [if_pos hc] at hf
    exact F.trans (rX12_tells_91 Hrc37 hf)
  · rw [if_neg hc] at hf
    exact F.trans (rX12_tells_91 Hrc37 hf)
theorem rX12_tells_109 {S' : mT} {r : Int32} {s0 : Int32} {S : mT} (hf : fX12_tells_109 s0 S = some (r, S')) : Fr (inM 999999 LX12_tells) S S' := by
  unfold fX12_tells_109 at hf
  cases hf
  exact (Fr.rfl (inM 999999 LX12_tells) _)
theorem rX12_tells_37 {S' : mT} {r : Int32} : ∀ (k : Nat) (v1 : Int32) (v2 : Int32) (v3 : Int32) (v4 : Int32) (S : mT), fX12_tells_37 k v1 v2 v3 v4 S = some (r, S') → Fr (inM 999999 LX12_tells) S S' := by
  intro k
  induction k with
  | zero =>
    intro v1 v2 v3 v4 S hf
    cases hf
  | succ k ih =>
    intro v1 v2 v3 v4 S hf
    unfold fX12_tells_37 at hf
    obtain ⟨-, hf⟩ := grd_ex hf
    by_cases hc : ((1 : Int32) <<< ((S.1 187 37) &&& 31)) ≤ v4
    · rw [if_pos hc] at hf
      by_cases hc : v1 = 0
      · rw [if_pos hc] at hf
        obtain ⟨x6, S5, hq, hf⟩ := bndC_ex hf
        have F := (Fr.rfl (inM 999999 LX12_tells) _).trans ((rX12_membersOf hq).mono rfl (fun _ => rfl))
        exact F.trans (rX12_tells_109 hf)
      · rw [if_neg hc] at hf
        exact (Fr.rfl (inM 999999 LX12_tells) _).trans (rX12_tells_109 hf)
    · rw [if_neg hc] at hf
      obtain ⟨x8, S7, hq, hf⟩ := bndC_ex hf
      have F := (Fr.rfl (inM 999999 LX12_tells) _).trans ((rX12_membersOf hq).mono rfl (fun _ => rfl))
      obtain ⟨x10, S9, hq, hf⟩ := bndC_ex hf
      have F := F.trans ((rX12_membersOf hq).mono rfl (fun _ => rfl))
      by_cases hc : x8 < x10
      · rw [if_pos hc] at hf
        exact F.trans (rX12_tells_78 ih hf)
      · rw [if_neg hc] at hf
        obtain ⟨x12, S11, hq, hf⟩ := bndC_ex hf
        have F := F.trans ((rX12_membersOf hq).mono rfl (fun _ => rfl))
        obtain ⟨x14, S13, hq, hf⟩ := bndC_ex hf
        have F := F.trans ((rX12_membersOf hq).mono rfl (fun _ => rfl))
        by_cases hc : x12 = x14
        · rw [if_pos hc] at hf
          by_cases hc : v3 ≤ v4
          · rw [if_pos hc] at hf
            exact F.trans (rX12_tells_91 ih hf)
          · rw [if_neg hc] at hf
            exact F.trans (rX12_tells_78 ih hf)
        · rw [if_neg hc] at hf
          exact F.trans (rX12_tells_91 ih hf)
theorem rX12_tells_0 {S' : mT} {r : Int32} {v1 : Int32} {v2 : Int32} {S : mT} (hf : fX12_tells v1 v2 S = some (r, S')) : Fr (inM 999999 LX12_tells) S S' := by
  unfold fX12_tells at hf
  obtain ⟨x2, S1, hq, hf⟩ := bndC_ex hf
  have F := (Fr.rfl (inM 999999 LX12_tells) _).trans ((rX12_isIn hq).mono rfl (fun _ => rfl))
  by_cases hc : x2 = 0
  · rw [if_pos hc] at hf
    cases hf
    exact F
  · rw [if_neg hc] at hf
    obtain ⟨S3, hq, hf⟩ := bndV_ex hf
    have F := F.trans ((rX12_layTruths hq).mono rfl (fun _ => rfl))
    obtain ⟨-, hf⟩ := grd_ex hf
    by_cases hc : (S3.1 187 69) = 0
    · rw [if_pos hc] at hf
      cases hf
      exact F
    · rw [if_neg hc] at hf
      obtain ⟨-, hf⟩ := grd_ex hf
      obtain ⟨x4, -, hf⟩ := bnd_ex hf
      exact F.trans (rX12_tells_37 _ _ _ _ _ _ hf)
theorem rX12_tells {v1 : Int32} {v2 : Int32} {S S' : mT} {r : Int32} (hf : fX12_tells v1 v2 S = some (r, S')) : Fr (inM 999999 LX12_tells) S S' := rX12_tells_0 hf
abbrev LX12_truths : List (Nat × Nat × Option Nat) := [(999999, 999999, none), (187, 187, some 69), (229, 229, none)]
theorem rX12_truths_0 {S' : mT} {r : Int32} {v1 : Int32} {S : mT} (hf : fX12_truths v1 S = some (r, S')) : Fr (inM 999999 LX12_truths) S S' := by
  unfold fX12_truths at hf
  obtain ⟨S1, hq, hf⟩ := bndV_ex hf
  have F := (Fr.rfl (inM 999999 LX12_truths) _).trans ((rX12_layTruths hq).mono rfl (fun _ => rfl))
  obtain ⟨-, hf⟩ := grd_ex hf
  cases hf
  exact F
theorem rX12_truths {v1 : Int32} {S S' : mT} {r : Int32} (hf : fX12_truths v1 S = some (r, S')) : Fr (inM 999999 LX12_truths) S S' := rX12_truths_0 hf
abbrev LX12_undo : List (Nat × Nat × Option Nat) := [(999999, 999999, none), (187, 187, some 46), (187, 187, some 47), (208, 208, none), (212, 212, none)]
theorem rX12_undo_0 {S' : mT} {r : Int32} {S : mT} (hf : fX12_undo S = some (r, S')) : Fr (inM 999999 LX12_undo) S S' := by
  unfold fX12_undo at hf
  obtain ⟨-, hf⟩ := grd_ex hf
  by_cases hc : (S.1 187 46) = 0
  · rw [if_pos hc] at hf
    cases hf
    exact (Fr.rfl (inM 999999 LX12_undo) _)
  · rw [if_neg hc] at hf
    obtain ⟨-, hf⟩ := grd_ex hf
    obtain ⟨S1, eS1, hf⟩ := bnd_ex hf
    have F : Fr (inM 999999 LX12_undo) S S1 := by
      rw [eS1]
      exact Fr.sI (Fr.rfl (inM 999999 LX12_undo) _) rfl
    obtain ⟨-, hf⟩ := grd_ex hf
    obtain ⟨S2, eS2, hf⟩ := bnd_ex hf
    have F : Fr (inM 999999 LX12_undo) S S2 := by
      rw [eS2]
      exact Fr.sI F rfl
    obtain ⟨-, hf⟩ := grd_ex hf
    obtain ⟨S3, hq, hf⟩ := bndV_ex hf
    have F := F.trans ((rX12_exchange hq).mono rfl (fun _ => rfl))
    cases hf
    exact F
theorem rX12_undo {S S' : mT} {r : Int32} (hf : fX12_undo S = some (r, S')) : Fr (inM 999999 LX12_undo) S S' := rX12_undo_0 hf
abbrev LX12_untell : List (Nat × Nat × Option Nat) := [(999999, 999999, none), (228, 228, none)]
theorem rX12_untell_23 {S' : mT} {r : Int32} {S : mT} (hf : fX12_untell_23 S = some (r, S')) : Fr (inM 999999 LX12_untell) S S' := by
  unfold fX12_untell_23 at hf
  cases hf
  exact (Fr.rfl (inM 999999 LX12_untell) _)
theorem rX12_untell_0 {S' : mT} {r : Int32} {v1 : Int32} {S : mT} (hf : fX12_untell v1 S = some (r, S')) : Fr (inM 999999 LX12_untell) S S' := by
  unfold fX12_untell at hf
  obtain ⟨-, hf⟩ := grd_ex hf
  obtain ⟨x2, S1, hq, hf⟩ := bndC_ex hf
  have F := (Fr.rfl (inM 999999 LX12_untell) _).trans ((rX12_isIn hq).mono rfl (fun _ => rfl))
  by_cases hc : x2 = 0
  · rw [if_pos hc] at hf
    exact F.trans (rX12_untell_23 hf)
  · rw [if_neg hc] at hf
    obtain ⟨-, hf⟩ := grd_ex hf
    by_cases hc : (S1.1 228 (mIx v1)) < 0
    · rw [if_pos hc] at hf
      obtain ⟨-, hf⟩ := grd_ex hf
      obtain ⟨S3, eS3, hf⟩ := bnd_ex hf
      have F : Fr (inM 999999 LX12_untell) S S3 := by
        rw [eS3]
        exact Fr.sI F rfl
      cases hf
      exact F
    · rw [if_neg hc] at hf
      exact F.trans (rX12_untell_23 hf)
theorem rX12_untell {v1 : Int32} {S S' : mT} {r : Int32} (hf : fX12_untell v1 S = some (r, S')) : Fr (inM 999999 LX12_untell) S S' := rX12_untell_0 hf
abbrev LX12_will : List (Nat × Nat × Option Nat) := [(999999, 999999, none), (187, 187, some 43), (187, 187, some 44), (197, 197, none), (200, 200, none), (209, 209, none), (210, 210, none), (211, 211, none)]
theorem rX12_will_18 {S' : mT} {r : Int32} {S : mT} (hf : fX12_will_18 S = some (r, S')) : Fr (inM 999999 LX12_will) S S' := by
  unfold fX12_will_18 at hf
  cases hf
  exact (Fr.rfl (inM 999999 LX12_will) _)
theorem rX12_will_0 {S' : mT} {r : Int32} {v1 : Int32} {v2 : Int32} {S : mT} (hf : fX12_will v1 v2 S = some (r, S')) : Fr (inM 999999 LX12_will) S S' := by
  unfold fX12_will at hf
  obtain ⟨x2, S1, hq, hf⟩ := bndC_ex hf
  have F := (Fr.rfl (inM 999999 LX12_will) _).trans ((rX12_isHouse hq).mono rfl (fun _ => rfl))
  by_cases hc : x2 = 0
  · rw [if_pos hc] at hf
    exact F.trans (rX12_will_18 hf)
  · rw [if_neg hc] at hf
    obtain ⟨x4, S3, hq, hf⟩ := bndC_ex hf
    have F := F.trans ((rX12_isIn hq).mono rfl (fun _ => rfl))
    by_cases hc : x4 = 0
    · rw [if_pos hc] at hf
      exact F.trans (rX12_will_18 hf)
    · rw [if_neg hc] at hf
      obtain ⟨S5, hq, hf⟩ := bndV_ex hf
      have F := F.trans ((rX12_goFar hq).mono rfl (fun _ => rfl))
      obtain ⟨-, hf⟩ := grd_ex hf
      cases hf
      exact F
theorem rX12_will {v1 : Int32} {v2 : Int32} {S S' : mT} {r : Int32} (hf : fX12_will v1 v2 S = some (r, S')) : Fr (inM 999999 LX12_will) S S' := rX12_will_0 hf
end GF
