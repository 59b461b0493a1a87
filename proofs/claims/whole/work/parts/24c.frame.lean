section GF
abbrev LX4_isWord_900000 : List (Nat × Nat × Option Nat) := [(999999, 999999, none)]
theorem rX4_isWord_26_900000 {S' : mT} {r : Int32} {S : mT} (hf : fX4_isWord_26 900000 S = some (r, S')) : Fr (inM 999999 LX4_isWord_900000) S S' := by
  unfold fX4_isWord_26 at hf
  cases hf
  exact (Fr.rfl (inM 999999 LX4_isWord_900000) _)
theorem rX4_isWord_30_900000 {S' : mT} {r : Int32} : ∀ (k : Nat) (v2 : Int32) (v3 : Int32) (S : mT), fX4_isWord_30 900000 k v2 v3 S = some (r, S') → Fr (inM 999999 LX4_isWord_900000) S S' := by
  intro k
  induction k with
  | zero =>
    intro v2 v3 S hf
    cases hf
  | succ k ih =>
    intro v2 v3 S hf
    unfold fX4_isWord_30 at hf
    by_cases hc : v2 ≤ v3
    · rw [if_pos hc] at hf
      cases hf
      exact (Fr.rfl (inM 999999 LX4_isWord_900000) _)
    · rw [if_neg hc] at hf
      obtain ⟨-, hf⟩ := grd_ex hf
      obtain ⟨-, hf⟩ := grd_ex hf
      obtain ⟨x2, -, hf⟩ := bnd_ex hf
      by_cases hc : (S.1 2 (mIx ((S.1 1 5) + v3))) = x2
      · rw [if_pos hc] at hf
        obtain ⟨x3, -, hf⟩ := bnd_ex hf
        exact (Fr.rfl (inM 999999 LX4_isWord_900000) _).trans (ih _ _ _ hf)
      · rw [if_neg hc] at hf
        cases hf
        exact (Fr.rfl (inM 999999 LX4_isWord_900000) _)
theorem rX4_isWord_0_900000 {S' : mT} {r : Int32} {S : mT} (hf : fX4_isWord 900000 S = some (r, S')) : Fr (inM 999999 LX4_isWord_900000) S S' := by
  unfold fX4_isWord at hf
  obtain ⟨x1, -, hf⟩ := bnd_ex hf
  obtain ⟨-, hf⟩ := grd_ex hf
  by_cases hc : (S.1 1 4) = (1 : Int32)
  · rw [if_pos hc] at hf
    obtain ⟨-, hf⟩ := grd_ex hf
    by_cases hc : ((S.1 1 6) - (S.1 1 5)) = x1
    · rw [if_pos hc] at hf
      exact (Fr.rfl (inM 999999 LX4_isWord_900000) _).trans (rX4_isWord_30_900000 _ _ _ _ hf)
    · rw [if_neg hc] at hf
      exact (Fr.rfl (inM 999999 LX4_isWord_900000) _).trans (rX4_isWord_26_900000 hf)
  · rw [if_neg hc] at hf
    exact (Fr.rfl (inM 999999 LX4_isWord_900000) _).trans (rX4_isWord_26_900000 hf)
theorem rX4_isWord_900000 {S S' : mT} {r : Int32} (hf : fX4_isWord 900000 S = some (r, S')) : Fr (inM 999999 LX4_isWord_900000) S S' := rX4_isWord_0_900000 hf
abbrev LX4_isWord_900008 : List (Nat × Nat × Option Nat) := [(999999, 999999, none)]
theorem rX4_isWord_26_900008 {S' : mT} {r : Int32} {S : mT} (hf : fX4_isWord_26 900008 S = some (r, S')) : Fr (inM 999999 LX4_isWord_900008) S S' := by
  unfold fX4_isWord_26 at hf
  cases hf
  exact (Fr.rfl (inM 999999 LX4_isWord_900008) _)
theorem rX4_isWord_30_900008 {S' : mT} {r : Int32} : ∀ (k : Nat) (v2 : Int32) (v3 : Int32) (S : mT), fX4_isWord_30 900008 k v2 v3 S = some (r, S') → Fr (inM 999999 LX4_isWord_900008) S S' := by
  intro k
  induction k with
  | zero =>
    intro v2 v3 S hf
    cases hf
  | succ k ih =>
    intro v2 v3 S hf
    unfold fX4_isWord_30 at hf
    by_cases hc : v2 ≤ v3
    · rw [if_pos hc] at hf
      cases hf
      exact (Fr.rfl (inM 999999 LX4_isWord_900008) _)
    · rw [if_neg hc] at hf
      obtain ⟨-, hf⟩ := grd_ex hf
      obtain ⟨-, hf⟩ := grd_ex hf
      obtain ⟨x2, -, hf⟩ := bnd_ex hf
      by_cases hc : (S.1 2 (mIx ((S.1 1 5) + v3))) = x2
      · rw [if_pos hc] at hf
        obtain ⟨x3, -, hf⟩ := bnd_ex hf
        exact (Fr.rfl (inM 999999 LX4_isWord_900008) _).trans (ih _ _ _ hf)
      · rw [if_neg hc] at hf
        cases hf
        exact (Fr.rfl (inM 999999 LX4_isWord_900008) _)
theorem rX4_isWord_0_900008 {S' : mT} {r : Int32} {S : mT} (hf : fX4_isWord 900008 S = some (r, S')) : Fr (inM 999999 LX4_isWord_900008) S S' := by
  unfold fX4_isWord at hf
  obtain ⟨x1, -, hf⟩ := bnd_ex hf
  obtain ⟨-, hf⟩ := grd_ex hf
  by_cases hc : (S.1 1 4) = (1 : Int32)
  · rw [if_pos hc] at hf
    obtain ⟨-, hf⟩ := grd_ex hf
    by_cases hc : ((S.1 1 6) - (S.1 1 5)) = x1
    · rw [if_pos hc] at hf
      exact (Fr.rfl (inM 999999 LX4_isWord_900008) _).trans (rX4_isWord_30_900008 _ _ _ _ hf)
    · rw [if_neg hc] at hf
      exact (Fr.rfl (inM 999999 LX4_isWord_900008) _).trans (rX4_isWord_26_900008 hf)
  · rw [if_neg hc] at hf
    exact (Fr.rfl (inM 999999 LX4_isWord_900008) _).trans (rX4_isWord_26_900008 hf)
theorem rX4_isWord_900008 {S S' : mT} {r : Int32} (hf : fX4_isWord 900008 S = some (r, S')) : Fr (inM 999999 LX4_isWord_900008) S S' := rX4_isWord_0_900008 hf
abbrev LX4_isWord_900005 : List (Nat × Nat × Option Nat) := [(999999, 999999, none)]
theorem rX4_isWord_26_900005 {S' : mT} {r : Int32} {S : mT} (hf : fX4_isWord_26 900005 S = some (r, S')) : Fr (inM 999999 LX4_isWord_900005) S S' := by
  unfold fX4_isWord_26 at hf
  cases hf
  exact (Fr.rfl (inM 999999 LX4_isWord_900005) _)
theorem rX4_isWord_30_900005 {S' : mT} {r : Int32} : ∀ (k : Nat) (v2 : Int32) (v3 : Int32) (S : mT), fX4_isWord_30 900005 k v2 v3 S = some (r, S') → Fr (inM 999999 LX4_isWord_900005) S S' := by
  intro k
  induction k with
  | zero =>
    intro v2 v3 S hf
    cases hf
  | succ k ih =>
    intro v2 v3 S hf
    unfold fX4_isWord_30 at hf
    by_cases hc : v2 ≤ v3
    · rw [if_pos hc] at hf
      cases hf
      exact (Fr.rfl (inM 999999 LX4_isWord_900005) _)
    · rw [if_neg hc] at hf
      obtain ⟨-, hf⟩ := grd_ex hf
      obtain ⟨-, hf⟩ := grd_ex hf
      obtain ⟨x2, -, hf⟩ := bnd_ex hf
      by_cases hc : (S.1 2 (mIx ((S.1 1 5) + v3))) = x2
      · rw [if_pos hc] at hf
        obtain ⟨x3, -, hf⟩ := bnd_ex hf
        exact (Fr.rfl (inM 999999 LX4_isWord_900005) _).trans (ih _ _ _ hf)
      · rw [if_neg hc] at hf
        cases hf
        exact (Fr.rfl (inM 999999 LX4_isWord_900005) _)
theorem rX4_isWord_0_900005 {S' : mT} {r : Int32} {S : mT} (hf : fX4_isWord 900005 S = some (r, S')) : Fr (inM 999999 LX4_isWord_900005) S S' := by
  unfold fX4_isWord at hf
  obtain ⟨x1, -, hf⟩ := bnd_ex hf
  obtain ⟨-, hf⟩ := grd_ex hf
  by_cases hc : (S.1 1 4) = (1 : Int32)
  · rw [if_pos hc] at hf
    obtain ⟨-, hf⟩ := grd_ex hf
    by_cases hc : ((S.1 1 6) - (S.1 1 5)) = x1
    · rw [if_pos hc] at hf
      exact (Fr.rfl (inM 999999 LX4_isWord_900005) _).trans (rX4_isWord_30_900005 _ _ _ _ hf)
    · rw [if_neg hc] at hf
      exact (Fr.rfl (inM 999999 LX4_isWord_900005) _).trans (rX4_isWord_26_900005 hf)
  · rw [if_neg hc] at hf
    exact (Fr.rfl (inM 999999 LX4_isWord_900005) _).trans (rX4_isWord_26_900005 hf)
theorem rX4_isWord_900005 {S S' : mT} {r : Int32} (hf : fX4_isWord 900005 S = some (r, S')) : Fr (inM 999999 LX4_isWord_900005) S S' := rX4_isWord_0_900005 hf
abbrev LX4_isWord_900006 : List (Nat × Nat × Option Nat) := [(999999, 999999, none)]
theorem rX4_isWord_26_900006 {S' : mT} {r : Int32} {S : mT} (hf : fX4_isWord_26 900006 S = some (r, S')) : Fr (inM 999999 LX4_isWord_900006) S S' := by
  unfold fX4_isWord_26 at hf
  cases hf
  exact (Fr.rfl (inM 999999 LX4_isWord_900006) _)
theorem rX4_isWord_30_900006 {S' : mT} {r : Int32} : ∀ (k : Nat) (v2 : Int32) (v3 : Int32) (S : mT), fX4_isWord_30 900006 k v2 v3 S = some (r, S') → Fr (inM 999999 LX4_isWord_900006) S S' := by
  intro k
  induction k with
  | zero =>
    intro v2 v3 S hf
    cases hf
  | succ k ih =>
    intro v2 v3 S hf
    unfold fX4_isWord_30 at hf
    by_cases hc : v2 ≤ v3
    · rw [if_pos hc] at hf
      cases hf
      exact (Fr.rfl (inM 999999 LX4_isWord_900006) _)
    · rw [if_neg hc] at hf
      obtain ⟨-, hf⟩ := grd_ex hf
      obtain ⟨-, hf⟩ := grd_ex hf
      obtain ⟨x2, -, hf⟩ := bnd_ex hf
      by_cases hc : (S.1 2 (mIx ((S.1 1 5) + v3))) = x2
      · rw [if_pos hc] at hf
        obtain ⟨x3, -, hf⟩ := bnd_ex hf
        exact (Fr.rfl (inM 999999 LX4_isWord_900006) _).trans (ih _ _ _ hf)
      · rw [if_neg hc] at hf
        cases hf
        exact (Fr.rfl (inM 999999 LX4_isWord_900006) _)
theorem rX4_isWord_0_900006 {S' : mT} {r : Int32} {S : mT} (hf : fX4_isWord 900006 S = some (r, S')) : Fr (inM 999999 LX4_isWord_900006) S S' := by
  unfold fX4_isWord at hf
  obtain ⟨x1, -, hf⟩ := bnd_ex hf
  obtain ⟨-, hf⟩ := grd_ex hf
  by_cases hc : (S.1 1 4) = (1 : Int32)
  · rw [if_pos hc] at hf
    obtain ⟨-, hf⟩ := grd_ex hf
    by_cases hc : ((S.1 1 6) - (S.1 1 5)) = x1
    · rw [if_pos hc] at hf
      exact (Fr.rfl (inM 999999 LX4_isWord_900006) _).trans (rX4_isWord_30_900006 _ _ _ _ hf)
    · rw [if_neg hc] at hf
      exact (Fr.rfl (inM 999999 LX4_isWord_900006) _).trans (rX4_isWord_26_900006 hf)
  · rw [if_neg hc] at hf
    exact (Fr.rfl (inM 999999 LX4_isWord_900006) _).trans (rX4_isWord_26_900006 hf)
theorem rX4_isWord_900006 {S S' : mT} {r : Int32} (hf : fX4_isWord 900006 S = some (r, S')) : Fr (inM 999999 LX4_isWord_900006) S S' := rX4_isWord_0_900006 hf
abbrev LX4_isWord_900007 : List (Nat × Nat × Option Nat) := [(999999, 999999, none)]
theorem rX4_isWord_26_900007 {S' : mT} {r : Int32} {S : mT} (hf : fX4_isWord_26 900007 S = some (r, S')) : Fr (inM 999999 LX4_isWord_900007) S S' := by
  unfold fX4_isWord_26 at hf
  cases hf
  exact (Fr.rfl (inM 999999 LX4_isWord_900007) _)
theorem rX4_isWord_30_900007 {S' : mT} {r : Int32} : ∀ (k : Nat) (v2 : Int32) (v3 : Int32) (S : mT), fX4_isWord_30 900007 k v2 v3 S = some (r, S') → Fr (inM 999999 LX4_isWord_900007) S S' := by
  intro k
  induction k with
  | zero =>
    intro v2 v3 S hf
    cases hf
  | succ k ih =>
    intro v2 v3 S hf
    unfold fX4_isWord_30 at hf
    by_cases hc : v2 ≤ v3
    · rw [if_pos hc] at hf
      cases hf
      exact (Fr.rfl (inM 999999 LX4_isWord_900007) _)
    · rw [if_neg hc] at hf
      obtain ⟨-, hf⟩ := grd_ex hf
      obtain ⟨-, hf⟩ := grd_ex hf
      obtain ⟨x2, -, hf⟩ := bnd_ex hf
      by_cases hc : (S.1 2 (mIx ((S.1 1 5) + v3))) = x2
      · rw [if_pos hc] at hf
        obtain ⟨x3, -, hf⟩ := bnd_ex hf
        exact (Fr.rfl (inM 999999 LX4_isWord_900007) _).trans (ih _ _ _ hf)
      · rw [if_neg hc] at hf
        cases hf
        exact (Fr.rfl (inM 999999 LX4_isWord_900007) _)
theorem rX4_isWord_0_900007 {S' : mT} {r : Int32} {S : mT} (hf : fX4_isWord 900007 S = some (r, S')) : Fr (inM 999999 LX4_isWord_900007) S S' := by
  unfold fX4_isWord at hf
  obtain ⟨x1, -, hf⟩ := bnd_ex hf
  obtain ⟨-, hf⟩ := grd_ex hf
  by_cases hc : (S.1 1 4) = (1 : Int32)
  · rw [if_pos hc] at hf
    obtain ⟨-, hf⟩ := grd_ex hf
    by_cases hc : ((S.1 1 6) - (S.1 1 5)) = x1
    · rw [if_pos hc] at hf
      exact (Fr.rfl (inM 999999 LX4_isWord_900007) _).trans (rX4_isWord_30_900007 _ _ _ _ hf)
    · rw [if_neg hc] at hf
      exact (Fr.rfl (inM 999999 LX4_isWord_900007) _).trans (rX4_isWord_26_900007 hf)
  · rw [if_neg hc] at hf
    exact (Fr.rfl (inM 999999 LX4_isWord_900007) _).trans (rX4_isWord_26_900007 hf)
theorem rX4_isWord_900007 {S S' : mT} {r : Int32} (hf : fX4_isWord 900007 S = some (r, S')) : Fr (inM 999999 LX4_isWord_900007) S S' := rX4_isWord_0_900007 hf
abbrev LX4_isWord_900003 : List (Nat × Nat × Option Nat) := [(999999, 999999, none)]
theorem rX4_isWord_26_900003 {S' : mT} {r : Int32} {S : mT} (hf : fX4_isWord_26 900003 S = some (r, S')) : Fr (inM 999999 LX4_isWord_900003) S S' := by
  unfold fX4_isWord_26 at hf
  cases hf
  exact (Fr.rfl (inM 999999 LX4_isWord_900003) _)
theorem rX4_isWord_30_900003 {S' : mT} {r : Int32} : ∀ (k : Nat) (v2 : Int32) (v3 : Int32) (S : mT), fX4_isWord_30 900003 k v2 v3 S = some (r, S') → Fr (inM 999999 LX4_isWord_900003) S S' := by
  intro k
  induction k with
  | zero =>
    intro v2 v3 S hf
    cases hf
  | succ k ih =>
    intro v2 v3 S hf
    unfold fX4_isWord_30 at hf
    by_cases hc : v2 ≤ v3
    · rw [if_pos hc] at hf
      cases hf
      exact (Fr.rfl (inM 999999 LX4_isWord_900003) _)
    · rw [if_neg hc] at hf
      obtain ⟨-, hf⟩ := grd_ex hf
      obtain ⟨-, hf⟩ := grd_ex hf
      obtain ⟨x2, -, hf⟩ := bnd_ex hf
      by_cases hc : (S.1 2 (mIx ((S.1 1 5) + v3))) = x2
      · rw [if_pos hc] at hf
        obtain ⟨x3, -, hf⟩ := bnd_ex hf
        exact (Fr.rfl (inM 999999 LX4_isWord_900003) _).trans (ih _ _ _ hf)
      · rw [if_neg hc] at hf
        cases hf
        exact (Fr.rfl (inM 999999 LX4_isWord_900003) _)
theorem rX4_isWord_0_900003 {S' : mT} {r : Int32} {S : mT} (hf : fX4_isWord 900003 S = some (r, S')) : Fr (inM 999999 LX4_isWord_900003) S S' := by
  unfold fX4_isWord at hf
  obtain ⟨x1, -, hf⟩ := bnd_ex hf
  obtain ⟨-, hf⟩ := grd_ex hf
  by_cases hc : (S.1 1 4) = (1 : Int32)
  · rw [if_pos hc] at hf
    obtain ⟨-, hf⟩ := grd_ex hf
    by_cases hc : ((S.1 1 6) - (S.1 1 5)) = x1
    · rw [if_pos hc] at hf
      exact (Fr.rfl (inM 999999 LX4_isWord_900003) _).trans (rX4_isWord_30_900003 _ _ _ _ hf)
    · rw [if_neg hc] at hf
      exact (Fr.rfl (inM 999999 LX4_isWord_900003) _).trans (rX4_isWord_26_900003 hf)
  · rw [if_neg hc] at hf
    exact (Fr.rfl (inM 999999 LX4_isWord_900003) _).trans (rX4_isWord_26_900003 hf)
theorem rX4_isWord_900003 {S S' : mT} {r : Int32} (hf : fX4_isWord 900003 S = some (r, S')) : Fr (inM 999999 LX4_isWord_900003) S S' := rX4_isWord_0_900003 hf
abbrev LX4_isWord_900004 : List (Nat × Nat × Option Nat) := [(999999, 999999, none)]
theorem rX4_isWord_26_900004 {S' : mT} {r : Int32} {S : mT} (hf : fX4_isWord_26 900004 S = some (r, S')) : Fr (inM 999999 LX4_isWord_900004) S S' := by
  unfold fX4_isWord_26 at hf
  cases hf
  exact (Fr.rfl (inM 999999 LX4_isWord_900004) _)
theorem rX4_isWord_30_900004 {S' : mT} {r : Int32} : ∀ (k : Nat) (v2 : Int32) (v3 : Int32) (S : mT), fX4_isWord_30 900004 k v2 v3 S = some (r, S') → Fr (inM 999999 LX4_isWord_900004) S S' := by
  intro k
  induction k with
  | zero =>
    intro v2 v3 S hf
    cases hf
  | succ k ih =>
    intro v2 v3 S hf
    unfold fX4_isWord_30 at hf
    by_cases hc : v2 ≤ v3
    · rw [if_pos hc] at hf
      cases hf
      exact (Fr.rfl (inM 999999 LX4_isWord_900004) _)
    · rw [if_neg hc] at hf
      obtain ⟨-, hf⟩ := grd_ex hf
      obtain ⟨-, hf⟩ := grd_ex hf
      obtain ⟨x2, -, hf⟩ := bnd_ex hf
      by_cases hc : (S.1 2 (mIx ((S.1 1 5) + v3))) = x2
      · rw [if_pos hc] at hf
        obtain ⟨x3, -, hf⟩ := bnd_ex hf
        exact (Fr.rfl (inM 999999 LX4_isWord_900004) _).trans (ih _ _ _ hf)
      · rw [if_neg hc] at hf
        cases hf
        exact (Fr.rfl (inM 999999 LX4_isWord_900004) _)
theorem rX4_isWord_0_900004 {S' : mT} {r : Int32} {S : mT} (hf : fX4_isWord 900004 S = some (r, S')) : Fr (inM 999999 LX4_isWord_900004) S S' := by
  unfold fX4_isWord at hf
  obtain ⟨x1, -, hf⟩ := bnd_ex hf
  obtain ⟨-, hf⟩ := grd_ex hf
  by_cases hc : (S.1 1 4) = (1 : Int32)
  · rw [if_pos hc] at hf
    obtain ⟨-, hf⟩ := grd_ex hf
    by_cases hc : ((S.1 1 6) - (S.1 1 5)) = x1
    · rw [if_pos hc] at hf
      exact (Fr.rfl (inM 999999 LX4_isWord_900004) _).trans (rX4_isWord_30_900004 _ _ _ _ hf)
    · rw [if_neg hc] at hf
      exact (Fr.rfl (inM 999999 LX4_isWord_900004) _).trans (rX4_isWord_26_900004 hf)
  · rw [if_neg hc] at hf
    exact (Fr.rfl (inM 999999 LX4_isWord_900004) _).trans (rX4_isWord_26_900004 hf)
theorem rX4_isWord_900004 {S S' : mT} {r : Int32} (hf : fX4_isWord 900004 S = some (r, S')) : Fr (inM 999999 LX4_isWord_900004) S S' := rX4_isWord_0_900004 hf
abbrev LX4_isWord_900009 : List (Nat × Nat × Option Nat) := [(999999, 999999, none)]
theorem rX4_isWord_26_900009 {S' : mT} {r : Int32} {S : mT} (hf : fX4_isWord_26 900009 S = some (r, S')) : Fr (inM 999999 LX4_isWord_900009) S S' := by
  unfold fX4_isWord_26 at hf
  cases hf
  exact (Fr.rfl (inM 999999 LX4_isWord_900009) _)
theorem rX4_isWord_30_900009 {S' : mT} {r : Int32} : ∀ (k : Nat) (v2 : Int32) (v3 : Int32) (S : mT), fX4_isWord_30 900009 k v2 v3 S = some (r, S') → Fr (inM 999999 LX4_isWord_900009) S S' := by
  intro k
  induction k with
  | zero =>
    intro v2 v3 S hf
    cases hf
  | succ k ih =>
    intro v2 v3 S hf
    unfold fX4_isWord_30 at hf
    by_cases hc : v2 ≤ v3
    · rw [if_pos hc] at hf
      cases hf
      exact (Fr.rfl (inM 999999 LX4_isWord_900009) _)
    · rw [if_neg hc] at hf
      obtain ⟨-, hf⟩ := grd_ex hf
      obtain ⟨-, hf⟩ := grd_ex hf
      obtain ⟨x2, -, hf⟩ := bnd_ex hf
      by_cases hc : (S.1 2 (mIx ((S.1 1 5) + v3))) = x2
      · rw [if_pos hc] at hf
        obtain ⟨x3, -, hf⟩ := bnd_ex hf
        exact (Fr.rfl (inM 999999 LX4_isWord_900009) _).trans (ih _ _ _ hf)
      · rw [if_neg hc] at hf
        cases hf
        exact (Fr.rfl (inM 999999 LX4_isWord_900009) _)
theorem rX4_isWord_0_900009 {S' : mT} {r : Int32} {S : mT} (hf : fX4_isWord 900009 S = some (r, S')) : Fr (inM 999999 LX4_isWord_900009) S S' := by
  unfold fX4_isWord at hf
  obtain ⟨x1, -, hf⟩ := bnd_ex hf
  obtain ⟨-, hf⟩ := grd_ex hf
  by_cases hc : (S.1 1 4) = (1 : Int32)
  · rw [if_pos hc] at hf
    obtain ⟨-, hf⟩ := grd_ex hf
    by_cases hc : ((S.1 1 6) - (S.1 1 5)) = x1
    · rw [if_pos hc] at hf
      exact (Fr.rfl (inM 999999 LX4_isWord_900009) _).trans (rX4_isWord_30_900009 _ _ _ _ hf)
    · rw [if_neg hc] at hf
      exact (Fr.rfl (inM 999999 LX4_isWord_900009) _).trans (rX4_isWord_26_900009 hf)
  · rw [if_neg hc] at hf
    exact (Fr.rfl (inM 999999 LX4_isWord_900009) _).trans (rX4_isWord_26_900009 hf)
theorem rX4_isWord_900009 {S S' : mT} {r : Int32} (hf : fX4_isWord 900009 S = some (r, S')) : Fr (inM 999999 LX4_isWord_900009) S S' := rX4_isWord_0_900009 hf
abbrev LX4_isWord_900001 : List (Nat × Nat × Option Nat) := [(999999, 999999, none)]
theorem rX4_isWord_26_900001 {S' : mT} {r : Int32} {S : mT} (hf : fX4_isWord_26 900001 S = some (r, S')) : Fr (inM 999999 LX4_isWord_900001) S S' := by
  unfold fX4_isWord_26 at hf
  cases hf
  exact (Fr.rfl (inM 999999 LX4_isWord_900001) _)
theorem rX4_isWord_30_900001 {S' : mT} {r : Int32} : ∀ (k : Nat) (v2 : Int32) (v3 : Int32) (S : mT), fX4_isWord_30 900001 k v2 v3 S = some (r, S') → Fr (inM 999999 LX4_isWord_900001) S S' := by
  intro k
  induction k with
  | zero =>
    intro v2 v3 S hf
    cases hf
  | succ k ih =>
    intro v2 v3 S hf
    unfold fX4_isWord_30 at hf
    by_cases hc : v2 ≤ v3
    · rw [if_pos hc] at hf
      cases hf
      exact (Fr.rfl (inM 999999 LX4_isWord_900001) _)
    · rw [if_neg hc] at hf
      obtain ⟨-, hf⟩ := grd_ex hf
      obtain ⟨-, hf⟩ := grd_ex hf
      obtain ⟨x2, -, hf⟩ := bnd_ex hf
      by_cases hc : (S.1 2 (mIx ((S.1 1 5) + v3))) = x2
      · rw [if_pos hc] at hf
        obtain ⟨x3, -, hf⟩ := bnd_ex hf
        exact (Fr.rfl (inM 999999 LX4_isWord_900001) _).trans (ih _ _ _ hf)
      · rw [if_neg hc] at hf
        cases hf
        exact (Fr.rfl (inM 999999 LX4_isWord_900001) _)
theorem rX4_isWord_0_900001 {S' : mT} {r : Int32} {S : mT} (hf : fX4_isWord 900001 S = some (r, S')) : Fr (inM 999999 LX4_isWord_900001) S S' := by
  unfold fX4_isWord at hf
  obtain ⟨x1, -, hf⟩ := bnd_ex hf
  obtain ⟨-, hf⟩ := grd_ex hf
  by_cases hc : (S.1 1 4) = (1 : Int32)
  · rw [if_pos hc] at hf
    obtain ⟨-, hf⟩ := grd_ex hf
    by_cases hc : ((S.1 1 6) - (S.1 1 5)) = x1
    · rw [if_pos hc] at hf
      exact (Fr.rfl (inM 999999 LX4_isWord_900001) _).trans (rX4_isWord_30_900001 _ _ _ _ hf)
    · rw [if_neg hc] at hf
      exact (Fr.rfl (inM 999999 LX4_isWord_900001) _).trans (rX4_isWord_26_900001 hf)
  · rw [if_neg hc] at hf
    exact (Fr.rfl (inM 999999 LX4_isWord_900001) _).trans (rX4_isWord_26_900001 hf)
theorem rX4_isWord_900001 {S S' : mT} {r : Int32} (hf : fX4_isWord 900001 S = some (r, S')) : Fr (inM 999999 LX4_isWord_900001) S S' := rX4_isWord_0_900001 hf
abbrev LX4_isWord_900002 : List (Nat × Nat × Option Nat) := [(999999, 999999, none)]
theorem rX4_isWord_26_900002 {S' : mT} {r : Int32} {S : mT} (hf : fX4_isWord_26 900002 S = some (r, S')) : Fr (inM 999999 LX4_isWord_900002) S S' := by
  unfold fX4_isWord_26 at hf
  cases hf
  exact (Fr.rfl (inM 999999 LX4_isWord_900002) _)
theorem rX4_isWord_30_900002 {S' : mT} {r : Int32} : ∀ (k : Nat) (v2 : Int32) (v3 : Int32) (S : mT), fX4_isWord_30 900002 k v2 v3 S = some (r, S') → Fr (inM 999999 LX4_isWord_900002) S S' := by
  intro k
  induction k with
  | zero =>
    intro v2 v3 S hf
    cases hf
  | succ k ih =>
    intro v2 v3 S hf
    unfold fX4_isWord_30 at hf
    by_cases hc : v2 ≤ v3
    · rw [if_pos hc] at hf
      cases hf
      exact (Fr.rfl (inM 999999 LX4_isWord_900002) _)
    · rw [if_neg hc] at hf
      obtain ⟨-, hf⟩ := grd_ex hf
      obtain ⟨-, hf⟩ := grd_ex hf
      obtain ⟨x2, -, hf⟩ := bnd_ex hf
      by_cases hc : (S.1 2 (mIx ((S.1 1 5) + v3))) = x2
      · rw [if_pos hc] at hf
        obtain ⟨x3, -, hf⟩ := bnd_ex hf
        exact (Fr.rfl (inM 999999 LX4_isWord_900002) _).trans (ih _ _ _ hf)
      · rw [if_neg hc] at hf
        cases hf
        exact (Fr.rfl (inM 999999 LX4_isWord_900002) _)
theorem rX4_isWord_0_900002 {S' : mT} {r : Int32} {S : mT} (hf : fX4_isWord 900002 S = some (r, S')) : Fr (inM 999999 LX4_isWord_900002) S S' := by
  unfold fX4_isWord at hf
  obtain ⟨x1, -, hf⟩ := bnd_ex hf
  obtain ⟨-, hf⟩ := grd_ex hf
  by_cases hc : (S.1 1 4) = (1 : Int32)
  · rw [if_pos hc] at hf
    obtain ⟨-, hf⟩ := grd_ex hf
    by_cases hc : ((S.1 1 6) - (S.1 1 5)) = x1
    · rw [if_pos hc] at hf
      exact (Fr.rfl (inM 999999 LX4_isWord_900002) _).trans (rX4_isWord_30_900002 _ _ _ _ hf)
    · rw [if_neg hc] at hf
      exact (Fr.rfl (inM 999999 LX4_isWord_900002) _).trans (rX4_isWord_26_900002 hf)
  · rw [if_neg hc] at hf
    exact (Fr.rfl (inM 999999 LX4_isWord_900002) _).trans (rX4_isWord_26_900002 hf)
theorem rX4_isWord_900002 {S S' : mT} {r : Int32} (hf : fX4_isWord 900002 S = some (r, S')) : Fr (inM 999999 LX4_isWord_900002) S S' := rX4_isWord_0_900002 hf
abbrev LX4_isWord_900010 : List (Nat × Nat × Option Nat) := [(999999, 999999, none)]
theorem rX4_isWord_26_900010 {S' : mT} {r : Int32} {S : mT} (hf : fX4_isWord_26 900010 S = some (r, S')) : Fr (inM 999999 LX4_isWord_900010) S S' := by
  unfold fX4_isWord_26 at hf
  cases hf
  exact (Fr.rfl (inM 999999 LX4_isWord_900010) _)
theorem rX4_isWord_30_900010 {S' : mT} {r : Int32} : ∀ (k : Nat) (v2 : Int32) (v3 : Int32) (S : mT), fX4_isWord_30 900010 k v2 v3 S = some (r, S') → Fr (inM 999999 LX4_isWord_900010) S S' := by
  intro k
  induction k with
  | zero =>
    intro v2 v3 S hf
    cases hf
  | succ k ih =>
    intro v2 v3 S hf
    unfold fX4_isWord_30 at hf
    by_cases hc : v2 ≤ v3
    · rw [if_pos hc] at hf
      cases hf
      exact (Fr.rfl (inM 999999 LX4_isWord_900010) _)
    · rw [if_neg hc] at hf
      obtain ⟨-, hf⟩ := grd_ex hf
      obtain ⟨-, hf⟩ := grd_ex hf
      obtain ⟨x2, -, hf⟩ := bnd_ex hf
      by_cases hc : (S.1 2 (mIx ((S.1 1 5) + v3))) = x2
      · rw [if_pos hc] at hf
        obtain ⟨x3, -, hf⟩ := bnd_ex hf
        exact (Fr.rfl (inM 999999 LX4_isWord_900010) _).trans (ih _ _ _ hf)
      · rw [if_neg hc] at hf
        cases hf
        exact (Fr.rfl (inM 999999 LX4_isWord_900010) _)
theorem rX4_isWord_0_900010 {S' : mT} {r : Int32} {S : mT} (hf : fX4_isWord 900010 S = some (r, S')) : Fr (inM 999999 LX4_isWord_900010) S S' := by
  unfold fX4_isWord at hf
  obtain ⟨x1, -, hf⟩ := bnd_ex hf
  obtain ⟨-, hf⟩ := grd_ex hf
  by_cases hc : (S.1 1 4) = (1 : Int32)
  · rw [if_pos hc] at hf
    obtain ⟨-, hf⟩ := grd_ex hf
    by_cases hc : ((S.1 1 6) - (S.1 1 5)) = x1
    · rw [if_pos hc] at hf
      exact (Fr.rfl (inM 999999 LX4_isWord_900010) _).trans (rX4_isWord_30_900010 _ _ _ _ hf)
    · rw [if_neg hc] at hf
      exact (Fr.rfl (inM 999999 LX4_isWord_900010) _).trans (rX4_isWord_26_900010 hf)
  · rw [if_neg hc] at hf
    exact (Fr.rfl (inM 999999 LX4_isWord_900010) _).trans (rX4_isWord_26_900010 hf)
theorem rX4_isWord_900010 {S S' : mT} {r : Int32} (hf : fX4_isWord 900010 S = some (r, S')) : Fr (inM 999999 LX4_isWord_900010) S S' := rX4_isWord_0_900010 hf
abbrev LX4_isWord_900011 : List (Nat × Nat × Option Nat) := [(999999, 999999, none)]
theorem rX4_isWord_26_900011 {S' : mT} {r : Int32} {S : mT} (hf : fX4_isWord_26 900011 S = some (r, S')) : Fr (inM 999999 LX4_isWord_900011) S S' := by
  unfold fX4_isWord_26 at hf
  cases hf
  exact (Fr.rfl (inM 999999 LX4_isWord_900011) _)
theorem rX4_isWord_30_900011 {S' : mT} {r : Int32} : ∀ (k : Nat) (v2 : Int32) (v3 : Int32) (S : mT), fX4_isWord_30 900011 k v2 v3 S = some (r, S') → Fr (inM 999999 LX4_isWord_900011) S S' := by
  intro k
  induction k with
  | zero =>
    intro v2 v3 S hf
    cases hf
  | succ k ih =>
    intro v2 v3 S hf
    unfold fX4_isWord_30 at hf
    by_cases hc : v2 ≤ v3
    · rw [if_pos hc] at hf
      cases hf
      exact (Fr.rfl (inM 999999 LX4_isWord_900011) _)
    · rw [if_neg hc] at hf
      obtain ⟨-, hf⟩ := grd_ex hf
      obtain ⟨-, hf⟩ := grd_ex hf
      obtain ⟨x2, -, hf⟩ := bnd_ex hf
      by_cases hc : (S.1 2 (mIx ((S.1 1 5) + v3))) = x2
      · rw [if_pos hc] at hf
        obtain ⟨x3, -, hf⟩ := bnd_ex hf
        exact (Fr.rfl (inM 999999 LX4_isWord_900011) _).trans (ih _ _ _ hf)
      · rw [if_neg hc] at hf
        cases hf
        exact (Fr.rfl (inM 999999 LX4_isWord_900011) _)
theorem rX4_isWord_0_900011 {S' : mT} {r : Int32} {S : mT} (hf : fX4_isWord 900011 S = some (r, S')) : Fr (inM 999999 LX4_isWord_900011) S S' := by
  unfold fX4_isWord at hf
  obtain ⟨x1, -, hf⟩ := bnd_ex hf
  obtain ⟨-, hf⟩ := grd_ex hf
  by_cases hc : (S.1 1 4) = (1 : Int32)
  · rw [if_pos hc] at hf
    obtain ⟨-, hf⟩ := grd_ex hf
    by_cases hc : ((S.1 1 6) - (S.1 1 5)) = x1
    · rw [if_pos hc] at hf
      exact (Fr.rfl (inM 999999 LX4_isWord_900011) _).trans (rX4_isWord_30_900011 _ _ _ _ hf)
    · rw [if_neg hc] at hf
      exact (Fr.rfl (inM 999999 LX4_isWord_900011) _).trans (rX4_isWord_26_900011 hf)
  · rw [if_neg hc] at hf
    exact (Fr.rfl (inM 999999 LX4_isWord_900011) _).trans (rX4_isWord_26_900011 hf)
theorem rX4_isWord_900011 {S S' : mT} {r : Int32} (hf : fX4_isWord 900011 S = some (r, S')) : Fr (inM 999999 LX4_isWord_900011) S S' := rX4_isWord_0_900011 hf
abbrev LX4_isWord_900012 : List (Nat × Nat × Option Nat) := [(999999, 999999, none)]
theorem rX4_isWord_26_900012 {S' : mT} {r : Int32} {S : mT} (hf : fX4_isWord_26 900012 S = some (r, S')) : Fr (inM 999999 LX4_isWord_900012) S S' := by
  unfold fX4_isWord_26 at hf
  cases hf
  exact (Fr.rfl (inM 999999 LX4_isWord_900012) _)
theorem rX4_isWord_30_900012 {S' : mT} {r : Int32} : ∀ (k : Nat) (v2 : Int32) (v3 : Int32) (S : mT), fX4_isWord_30 900012 k v2 v3 S = some (r, S') → Fr (inM 999999 LX4_isWord_900012) S S' := by
  intro k
  induction k with
  | zero =>
    intro v2 v3 S hf
    cases hf
  | succ k ih =>
    intro v2 v3 S hf
    unfold fX4_isWord_30 at hf
    by_cases hc : v2 ≤ v3
    · rw [if_pos hc] at hf
      cases hf
      exact (Fr.rfl (inM 999999 LX4_isWord_900012) _)
    · rw [if_neg hc] at hf
      obtain ⟨-, hf⟩ := grd_ex hf
      obtain ⟨-, hf⟩ := grd_ex hf
      obtain ⟨x2, -, hf⟩ := bnd_ex hf
      by_cases hc : (S.1 2 (mIx ((S.1 1 5) + v3))) = x2
      · rw [if_pos hc] at hf
        obtain ⟨x3, -, hf⟩ := bnd_ex hf
        exact (Fr.rfl (inM 999999 LX4_isWord_900012) _).trans (ih _ _ _ hf)
      · rw [if_neg hc] at hf
        cases hf
        exact (Fr.rfl (inM 999999 LX4_isWord_900012) _)
theorem rX4_isWord_0_900012 {S' : mT} {r : Int32} {S : mT} (hf : fX4_isWord 900012 S = some (r, S')) : Fr (inM 999999 LX4_isWord_900012) S S' := by
  unfold fX4_isWord at hf
  obtain ⟨x1, -, hf⟩ := bnd_ex hf
  obtain ⟨-, hf⟩ := grd_ex hf
  by_cases hc : (S.1 1 4) = (1 : Int32)
  · rw [if_pos hc] at hf
    obtain ⟨-, hf⟩ := grd_ex hf
    by_cases hc : ((S.1 1 6) - (S.1 1 5)) = x1
    · rw [if_pos hc] at hf
      exact (Fr.rfl (inM 999999 LX4_isWord_900012) _).trans (rX4_isWord_30_900012 _ _ _ _ hf)
    · rw [if_neg hc] at hf
      exact (Fr.rfl (inM 999999 LX4_isWord_900012) _).trans (rX4_isWord_26_900012 hf)
  · rw [if_neg hc] at hf
    exact (Fr.rfl (inM 999999 LX4_isWord_900012) _).trans (rX4_isWord_26_900012 hf)
theorem rX4_isWord_900012 {S S' : mT} {r : Int32} (hf : fX4_isWord 900012 S = some (r, S')) : Fr (inM 999999 LX4_isWord_900012) S S' := rX4_isWord_0_900012 hf
abbrev LX4_isWord_900013 : List (Nat × Nat × Option Nat) := [(999999, 999999, none)]
theorem rX4_isWord_26_900013 {S' : mT} {r : Int32} {S : mT} (hf : fX4_isWord_26 900013 S = some (r, S')) : Fr (inM 999999 LX4_isWord_900013) S S' := by
  unfold fX4_isWord_26 at hf
  cases hf
  exact (Fr.rfl (inM 999999 LX4_isWord_900013) _)
theorem rX4_isWord_30_900013 {S' : mT} {r : Int32} : ∀ (k : Nat) (v2 : Int32) (v3 : Int32) (S : mT), fX4_isWord_30 900013 k v2 v3 S = some (r, S') → Fr (inM 999999 LX4_isWord_900013) S S' := by
  intro k
  induction k with
  | zero =>
    intro v2 v3 S hf
    cases hf
  | succ k ih =>
    intro v2 v3 S hf
    unfold fX4_isWord_30 at hf
    by_cases hc : v2 ≤ v3
    · rw [if_pos hc] at hf
      cases hf
      exact (Fr.rfl (inM 999999 LX4_isWord_900013) _)
    · rw [if_neg hc] at hf
      obtain ⟨-, hf⟩ := grd_ex hf
      obtain ⟨-, hf⟩ := grd_ex hf
      obtain ⟨x2, -, hf⟩ := bnd_ex hf
      by_cases hc : (S.1 2 (mIx ((S.1 1 5) + v3))) = x2
      · rw [if_pos hc] at hf
        obtain ⟨x3, -, hf⟩ := bnd_ex hf
        exact (Fr.rfl (inM 999999 LX4_isWord_900013) _).trans (ih _ _ _ hf)
      · rw [if_neg hc] at hf
        cases hf
        exact (Fr.rfl (inM 999999 LX4_isWord_900013) _)
theorem rX4_isWord_0_900013 {S' : mT} {r : Int32} {S : mT} (hf : fX4_isWord 900013 S = some (r, S')) : Fr (inM 999999 LX4_isWord_900013) S S' := by
  unfold fX4_isWord at hf
  obtain ⟨x1, -, hf⟩ := bnd_ex hf
  obtain ⟨-, hf⟩ := grd_ex hf
  by_cases hc : (S.1 1 4) = (1 : Int32)
  · rw [if_pos hc] at hf
    obtain ⟨-, hf⟩ := grd_ex hf
    by_cases hc : ((S.1 1 6) - (S.1 1 5)) = x1
    · rw [if_pos hc] at hf
      exact (Fr.rfl (inM 999999 LX4_isWord_900013) _).trans (rX4_isWord_30_900013 _ _ _ _ hf)
    · rw [if_neg hc] at hf
      exact (Fr.rfl (inM 999999 LX4_isWord_900013) _).trans (rX4_isWord_26_900013 hf)
  · rw [if_neg hc] at hf
    exact (Fr.rfl (inM 999999 LX4_isWord_900013) _).trans (rX4_isWord_26_900013 hf)
theorem rX4_isWord_900013 {S S' : mT} {r : Int32} (hf : fX4_isWord 900013 S = some (r, S')) : Fr (inM 999999 LX4_isWord_900013) S S' := rX4_isWord_0_900013 hf
abbrev LX4_isWord_900014 : List (Nat × Nat × Option Nat) := [(999999, 999999, none)]
theorem rX4_isWord_26_900014 {S' : mT} {r : Int32} {S : mT} (hf : fX4_isWord_26 900014 S = some (r, S')) : Fr (inM 999999 LX4_isWord_900014) S S' := by
  unfold fX4_isWord_26 at hf
  cases hf
  exact (Fr.rfl (inM 999999 LX4_isWord_900014) _)
theorem rX4_isWord_30_900014 {S' : mT} {r : Int32} : ∀ (k : Nat) (v2 : Int32) (v3 : Int32) (S : mT), fX4_isWord_30 900014 k v2 v3 S = some (r, S') → Fr (inM 999999 LX4_isWord_900014) S S' := by
  intro k
  induction k with
  | zero =>
    intro v2 v3 S hf
    cases hf
  | succ k ih =>
    intro v2 v3 S hf
    unfold fX4_isWord_30 at hf
    by_cases hc : v2 ≤ v3
    · rw [if_pos hc] at hf
      cases hf
      exact (Fr.rfl (inM 999999 LX4_isWord_900014) _)
    · rw [if_neg hc] at hf
      obtain ⟨-, hf⟩ := grd_ex hf
      obtain ⟨-, hf⟩ := grd_ex hf
      obtain ⟨x2, -, hf⟩ := bnd_ex hf
      by_cases hc : (S.1 2 (mIx ((S.1 1 5) + v3))) = x2
      · rw [if_pos hc] at hf
        obtain ⟨x3, -, hf⟩ := bnd_ex hf
        exact (Fr.rfl (inM 999999 LX4_isWord_900014) _).trans (ih _ _ _ hf)
      · rw [if_neg hc] at hf
        cases hf
        exact (Fr.rfl (inM 999999 LX4_isWord_900014) _)
theorem rX4_isWord_0_900014 {S' : mT} {r : Int32} {S : mT} (hf : fX4_isWord 900014 S = some (r, S')) : Fr (inM 999999 LX4_isWord_900014) S S' := by
  unfold fX4_isWord at hf
  obtain ⟨x1, -, hf⟩ := bnd_ex hf
  obtain ⟨-, hf⟩ := grd_ex hf
  by_cases hc : (S.1 1 4) = (1 : Int32)
  · rw [if_pos hc] at hf
    obtain ⟨-, hf⟩ := grd_ex hf
    by_cases hc : ((S.1 1 6) - (S.1 1 5)) = x1
    · rw [if_pos hc] at hf
      exact (Fr.rfl (inM 999999 LX4_isWord_900014) _).trans (rX4_isWord_30_900014 _ _ _ _ hf)
    · rw [if_neg hc] at hf
      exact (Fr.rfl (inM 999999 LX4_isWord_900014) _).trans (rX4_isWord_26_900014 hf)
  · rw [if_neg hc] at hf
    exact (Fr.rfl (inM 999999 LX4_isWord_900014) _).trans (rX4_isWord_26_900014 hf)
theorem rX4_isWord_900014 {S S' : mT} {r : Int32} (hf : fX4_isWord 900014 S = some (r, S')) : Fr (inM 999999 LX4_isWord_900014) S S' := rX4_isWord_0_900014 hf
abbrev LX4_lawNamed_3 : List (Nat × Nat × Option Nat) := [(999999, 999999, none)]
theorem rX4_lawNamed_0_3 {S' : mT} {r : Nat} {S : mT} (hf : fX4_lawNamed 3 S = some (r, S')) : Fr (inM 999999 LX4_lawNamed_3) S S' := by
  unfold fX4_lawNamed at hf
  obtain ⟨x2, S1, hq, hf⟩ := bndC_ex hf
  have F := (Fr.rfl (inM 999999 LX4_lawNamed_3) _).trans ((rX4_isWord_900005 hq).mono rfl (fun _ => rfl))
  by_cases hc : x2 = 0
  · rw [if_pos hc] at hf
    obtain ⟨x4, S3, hq, hf⟩ := bndC_ex hf
    have F := F.trans ((rX4_isWord_900006 hq).mono rfl (fun _ => rfl))
    by_cases hc : x4 = 0
    · rw [if_pos hc] at hf
      obtain ⟨x6, S5, hq, hf⟩ := bndC_ex hf
      have F := F.trans ((rX4_isWord_900007 hq).mono rfl (fun _ => rfl))
      by_cases hc : x6 = 0
      · rw [if_pos hc] at hf
        cases hf
        exact F
      · rw [if_neg hc] at hf
        obtain ⟨-, hf⟩ := grd_ex hf
        cases hf
        exact F
    · rw [if_neg hc] at hf
      obtain ⟨-, hf⟩ := grd_ex hf
      cases hf
      exact F
  · rw [if_neg hc] at hf
    obtain ⟨-, hf⟩ := grd_ex hf
    cases hf
    exact F
theorem rX4_lawNamed_3 {S S' : mT} {r : Nat} (hf : fX4_lawNamed 3 S = some (r, S')) : Fr (inM 999999 LX4_lawNamed_3) S S' := rX4_lawNamed_0_3 hf
abbrev LX4_lawNamed_19 : List (Nat × Nat × Option Nat) := [(999999, 999999, none)]
theorem rX4_lawNamed_0_19 {S' : mT} {r : Nat} {S : mT} (hf : fX4_lawNamed 19 S = some (r, S')) : Fr (inM 999999 LX4_lawNamed_19) S S' := by
  unfold fX4_lawNamed at hf
  obtain ⟨x2, S1, hq, hf⟩ := bndC_ex hf
  have F := (Fr.rfl (inM 999999 LX4_lawNamed_19) _).trans ((rX4_isWord_900005 hq).mono rfl (fun _ => rfl))
  by_cases hc : x2 = 0
  · rw [if_pos hc] at hf
    obtain ⟨x4, S3, hq, hf⟩ := bndC_ex hf
    have F := F.trans ((rX4_isWord_900006 hq).mono rfl (fun _ => rfl))
    by_cases hc : x4 = 0
    · rw [if_pos hc] at hf
      obtain ⟨x6, S5, hq, hf⟩ := bndC_ex hf
      have F := F.trans ((rX4_isWord_900007 hq).mono rfl (fun _ => rfl))
      by_cases hc : x6 = 0
      · rw [if_pos hc] at hf
        cases hf
        exact F
      · rw [if_neg hc] at hf
        obtain ⟨-, hf⟩ := grd_ex hf
        cases hf
        exact F
    · rw [if_neg hc] at hf
      obtain ⟨-, hf⟩ := grd_ex hf
      cases hf
      exact F
  · rw [if_neg hc] at hf
    obtain ⟨-, hf⟩ := grd_ex hf
    cases hf
    exact F
theorem rX4_lawNamed_19 {S S' : mT} {r : Nat} (hf : fX4_lawNamed 19 S = some (r, S')) : Fr (inM 999999 LX4_lawNamed_19) S S' := rX4_lawNamed_0_19 hf
abbrev LX4_takeTold_900008 : List (Nat × Nat × Option Nat) := [(999999, 999999, none), (1, 1, some 2), (1, 1, some 3), (1, 1, some 4), (1, 1, some 5), (1, 1, some 6), (1, 1, some 7), (1, 1, some 8), (1, 1, some 9)]
theorem rX4_takeTold_48_900008 {S' : mT} {r : Int32} {v3 : Int32} {S : mT} (hf : fX4_takeTold_48 900008 v3 S = some (r, S')) : Fr (inM 999999 LX4_takeTold_900008) S S' := by
  unfold fX4_takeTold_48 at hf
  obtain ⟨S8, hq, hf⟩ := bndV_ex hf
  have F := (Fr.rfl (inM 999999 LX4_takeTold_900008) _).trans ((rX4_advance hq).mono rfl (fun _ => rfl))
  cases hf
  exact F
theorem rX4_takeTold_13_900008 {S' : mT} {r : Int32} {v2 : Int32} {S : mT} (hf : fX4_takeTold_13 900008 v2 S = some (r, S')) : Fr (inM 999999 LX4_takeTold_900008) S S' := by
  unfold fX4_takeTold_13 at hf
  obtain ⟨S4, hq, hf⟩ := bndV_ex hf
  have F := (Fr.rfl (inM 999999 LX4_takeTold_900008) _).trans ((rX4_advance hq).mono rfl (fun _ => rfl))
  obtain ⟨-, hf⟩ := grd_ex hf
  obtain ⟨x5, -, hf⟩ := bnd_ex hf
  obtain ⟨-, hf⟩ := grd_ex hf
  by_cases hc : (S4.1 1 4) = (2 : Int32)
  · rw [if_pos hc] at hf
    by_cases hc : x5 ≤ v2
    · rw [if_pos hc] at hf
      exact F.trans (rX4_takeTold_48_900008 hf)
    · rw [if_neg hc] at hf
      obtain ⟨S6, hq, hf⟩ := bndV_ex hf
      have F := F.trans ((rX4_refuse hq).mono rfl (fun _ => rfl))
      exact F.trans (rX4_takeTold_48_900008 hf)
  · rw [if_neg hc] at hf
    obtain ⟨S7, hq, hf⟩ := bndV_ex hf
    have F := F.trans ((rX4_refuse hq).mono rfl (fun _ => rfl))
    exact F.trans (rX4_takeTold_48_900008 hf)
theorem rX4_takeTold_0_900008 {S' : mT} {r : Int32} {v2 : Int32} {S : mT} (hf : fX4_takeTold 900008 v2 S = some (r, S')) : Fr (inM 999999 LX4_takeTold_900008) S S' := by
  unfold fX4_takeTold at hf
  obtain ⟨x2, S1, hq, hf⟩ := bndC_ex hf
  have F := (Fr.rfl (inM 999999 LX4_takeTold_900008) _).trans ((rX4_isWord_900008 hq).mono rfl (fun _ => rfl))
  by_cases hc : x2 = 0
  · rw [if_pos hc] at hf
    obtain ⟨S3, hq, hf⟩ := bndV_ex hf
    have F := F.trans ((rX4_refuse hq).mono rfl (fun _ => rfl))
    exact F.trans (rX4_takeTold_13_900008 hf)
  · rw [if_neg hc] at hf
    exact F.trans (rX4_takeTold_13_900008 hf)
theorem rX4_takeTold_900008 {v2 : Int32} {S S' : mT} {r : Int32} (hf : fX4_takeTold 900008 v2 S = some (r, S')) : Fr (inM 999999 LX4_takeTold_900008) S S' := rX4_takeTold_0_900008 hf
abbrev LX4_takeTold_900001 : List (Nat × Nat × Option Nat) := [(999999, 999999, none), (1, 1, some 2), (1, 1, some 3), (1, 1, some 4), (1, 1, some 5), (1, 1, some 6), (1, 1, some 7), (1, 1, some 8), (1, 1, some 9)]
theorem rX4_takeTold_48_900001 {S' : mT} {r : Int32} {v3 : Int32} {S : mT} (hf : fX4_takeTold_48 900001 v3 S = some (r, S')) : Fr (inM 999999 LX4_takeTold_900001) S S' := by
  unfold fX4_takeTold_48 at hf
  obtain ⟨S8, hq, hf⟩ := bndV_ex hf
  have F := (Fr.rfl (inM 999999 LX4_takeTold_900001) _).trans ((rX4_advance hq).mono rfl (fun _ => rfl))
  cases hf
  exact F
theorem rX4_takeTold_13_900001 {S' : mT} {r : Int32} {v2 : Int32} {S : mT} (hf : fX4_takeTold_13 900001 v2 S = some (r, S')) : Fr (inM 999999 LX4_takeTold_900001) S S' := by
  unfold fX4_takeTold_13 at hf
  obtain ⟨S4, hq, hf⟩ := bndV_ex hf
  have F := (Fr.rfl (inM 999999 LX4_takeTold_900001) _).trans ((rX4_advance hq).mono rfl (fun _ => rfl))
  obtain ⟨-, hf⟩ := grd_ex hf
  obtain ⟨x5, -, hf⟩ := bnd_ex hf
  obtain ⟨-, hf⟩ := grd_ex hf
  by_cases hc : (S4.1 1 4) = (2 : Int32)
  · rw [if_pos hc] at hf
    by_cases hc : x5 ≤ v2
    · rw [if_pos hc] at hf
      exact F.trans (rX4_takeTold_48_900001 hf)
    · rw [if_neg hc] at hf
      obtain ⟨S6, hq, hf⟩ := bndV_ex hf
      have F := F.trans ((rX4_refuse hq).mono rfl (fun _ => rfl))
      exact F.trans (rX4_takeTold_48_900001 hf)
  · rw [if_neg hc] at hf
    obtain ⟨S7, hq, hf⟩ := bndV_ex hf
    have F := F.trans ((rX4_refuse hq).mono rfl (fun _ => rfl))
    exact F.trans (rX4_takeTold_48_900001 hf)
theorem rX4_takeTold_0_900001 {S' : mT} {r : Int32} {v2 : Int32} {S : mT} (hf : fX4_takeTold 900001 v2 S = some (r, S')) : Fr (inM 999999 LX4_takeTold_900001) S S' := by
  unfold fX4_takeTold at hf
  obtain ⟨x2, S1, hq, hf⟩ := bndC_ex hf
  have F := (Fr.rfl (inM 999999 LX4_takeTold_900001) _).trans ((rX4_isWord_900001 hq).mono rfl (fun _ => rfl))
  by_cases hc : x2 = 0
  · rw [if_pos hc] at hf
    obtain ⟨S3, hq, hf⟩ := bndV_ex hf
    have F := F.trans ((rX4_refuse hq).mono rfl (fun _ => rfl))
    exact F.trans (rX4_takeTold_13_900001 hf)
  · rw [if_neg hc] at hf
    exact F.trans (rX4_takeTold_13_900001 hf)
theorem rX4_takeTold_900001 {v2 : Int32} {S S' : mT} {r : Int32} (hf : fX4_takeTold 900001 v2 S = some (r, S')) : Fr (inM 999999 LX4_takeTold_900001) S S' := rX4_takeTold_0_900001 hf
abbrev LX4_takeTold_900002 : List (Nat × Nat × Option Nat) := [(999999, 999999, none), (1, 1, some 2), (1, 1, some 3), (1, 1, some 4), (1, 1, some 5), (1, 1, some 6), (1, 1, some 7), (1, 1, some 8), (1, 1, some 9)]
theorem rX4_takeTold_48_900002 {S' : mT} {r : Int32} {v3 : Int32} {S : mT} (hf : fX4_takeTold_48 900002 v3 S = some (r, S')) : Fr (inM 999999 LX4_takeTold_900002) S S' := by
  unfold fX4_takeTold_48 at hf
  obtain ⟨S8, hq, hf⟩ := bndV_ex hf
  have F := (Fr.rfl (inM 999999 LX4_takeTold_900002) _).trans ((rX4_advance hq).mono rfl (fun _ => rfl))
  cases hf
  exact F
theorem rX4_takeTold_13_900002 {S' : mT} {r : Int32} {v2 : Int32} {S : mT} (hf : fX4_takeTold_13 900002 v2 S = some (r, S')) : Fr (inM 999999 LX4_takeTold_900002) S S' := by
  unfold fX4_takeTold_13 at hf
  obtain ⟨S4, hq, hf⟩ := bndV_ex hf
  have F := (Fr.rfl (inM 999999 LX4_takeTold_900002) _).trans ((rX4_advance hq).mono rfl (fun _ => rfl))
  obtain ⟨-, hf⟩ := grd_ex hf
  obtain ⟨x5, -, hf⟩ := bnd_ex hf
  obtain ⟨-, hf⟩ := grd_ex hf
  by_cases hc : (S4.1 1 4) = (2 : Int32)
  · rw [if_pos hc] at hf
    by_cases hc : x5 ≤ v2
    · rw [if_pos hc] at hf
      exact F.trans (rX4_takeTold_48_900002 hf)
    · rw [if_neg hc] at hf
      obtain ⟨S6, hq, hf⟩ := bndV_ex hf
      have F := F.trans ((rX4_refuse hq).mono rfl (fun _ => rfl))
      exact F.trans (rX4_takeTold_48_900002 hf)
  · rw [if_neg hc] at hf
    obtain ⟨S7, hq, hf⟩ := bndV_ex hf
    have F := F.trans ((rX4_refuse hq).mono rfl (fun _ => rfl))
    exact F.trans (rX4_takeTold_48_900002 hf)
theorem rX4_takeTold_0_900002 {S' : mT} {r : Int32} {v2 : Int32} {S : mT} (hf : fX4_takeTold 900002 v2 S = some (r, S')) : Fr (inM 999999 LX4_takeTold_900002) S S' := by
  unfold fX4_takeTold at hf
  obtain ⟨x2, S1, hq, hf⟩ := bndC_ex hf
  have F := (Fr.rfl (inM 999999 LX4_takeTold_900002) _).trans ((rX4_isWord_900002 hq).mono rfl (fun _ => rfl))
  by_cases hc : x2 = 0
  · rw [if_pos hc] at hf
    obtain ⟨S3, hq, hf⟩ := bndV_ex hf
    have F := F.trans ((rX4_refuse hq).mono rfl (fun _ => rfl))
    exact F.trans (rX4_takeTold_13_900002 hf)
  · rw [if_neg hc] at hf
    exact F.trans (rX4_takeTold_13_900002 hf)
theorem rX4_takeTold_900002 {v2 : Int32} {S S' : mT} {r : Int32} (hf : fX4_takeTold 900002 v2 S = some (r, S')) : Fr (inM 999999 LX4_takeTold_900002) S S' := rX4_takeTold_0_900002 hf
abbrev LX4_takeTold_900003 : List (Nat × Nat × Option Nat) := [(999999, 999999, none), (1, 1, some 2), (1, 1, some 3), (1, 1, some 4), (1, 1, some 5), (1, 1, some 6), (1, 1, some 7), (1, 1, some 8), (1, 1, some 9)]
theorem rX4_takeTold_48_900003 {S' : mT} {r : Int32} {v3 : Int32} {S : mT} (hf : fX4_takeTold_48 900003 v3 S = some (r, S')) : Fr (inM 999999 LX4_takeTold_900003) S S' := by
  unfold fX4_takeTold_48 at hf
  obtain ⟨S8, hq, hf⟩ := bndV_ex hf
  have F := (Fr.rfl (inM 999999 LX4_takeTold_900003) _).trans ((rX4_advance hq).mono rfl (fun _ => rfl))
  cases hf
  exact F
theorem rX4_takeTold_13_900003 {S' : mT} {r : Int32} {v2 : Int32} {S : mT} (hf : fX4_takeTold_13 900003 v2 S = some (r, S')) : Fr (inM 999999 LX4_takeTold_900003) S S' := by
  unfold fX4_takeTold_13 at hf
  obtain ⟨S4, hq, hf⟩ := bndV_ex hf
  have F := (Fr.rfl (inM 999999 LX4_takeTold_900003) _).trans ((rX4_advance hq).mono rfl (fun _ => rfl))
  obtain ⟨-, hf⟩ := grd_ex hf
  obtain ⟨x5, -, hf⟩ := bnd_ex hf
  obtain ⟨-, hf⟩ := grd_ex hf
  by_cases hc : (S4.1 1 4) = (2 : Int32)
  · rw [if_pos hc] at hf
    by_cases hc : x5 ≤ v2
    · rw [if_pos hc] at hf
      exact F.trans (rX4_takeTold_48_900003 hf)
    · rw [if_neg hc] at hf
      obtain ⟨S6, hq, hf⟩ := bndV_ex hf
      have F := F.trans ((rX4_refuse hq).mono rfl (fun _ => rfl))
      exact F.trans (rX4_takeTold_48_900003 hf)
  · rw [if_neg hc] at hf
    obtain ⟨S7, hq, hf⟩ := bndV_ex hf
    have F := F.trans ((rX4_refuse hq).mono rfl (fun _ => rfl))
    exact F.trans (rX4_takeTold_48_900003 hf)
theorem rX4_takeTold_0_900003 {S' : mT} {r : Int32} {v2 : Int32} {S : mT} (hf : fX4_takeTold 900003 v2 S = some (r, S')) : Fr (inM 999999 LX4_takeTold_900003) S S' := by
  unfold fX4_takeTold at hf
  obtain ⟨x2, S1, hq, hf⟩ := bndC_ex hf
  have F := (Fr.rfl (inM 999999 LX4_takeTold_900003) _).trans ((rX4_isWord_900003 hq).mono rfl (fun _ => rfl))
  by_cases hc : x2 = 0
  · rw [if_pos hc] at hf
    obtain ⟨S3, hq, hf⟩ := bndV_ex hf
    have F := F.trans ((rX4_refuse hq).mono rfl (fun _ => rfl))
    exact F.trans (rX4_takeTold_13_900003 hf)
  · rw [if_neg hc] at hf
    exact F.trans (rX4_takeTold_13_900003 hf)
theorem rX4_takeTold_900003 {v2 : Int32} {S S' : mT} {r : Int32} (hf : fX4_takeTold 900003 v2 S = some (r, S')) : Fr (inM 999999 LX4_takeTold_900003) S S' := rX4_takeTold_0_900003 hf
abbrev LX4_takeTold_900004 : List (Nat × Nat × Option Nat) := [(999999, 999999, none), (1, 1, some 2), (1, 1, some 3), (1, 1, some 4), (1, 1, some 5), (1, 1, some 6), (1, 1, some 7), (1, 1, some 8), (1, 1, some 9)]
theorem rX4_takeTold_48_900004 {S' : mT} {r : Int32} {v3 : Int32} {S : mT} (hf : fX4_takeTold_48 900004 v3 S = some (r, S')) : Fr (inM 999999 LX4_takeTold_900004) S S' := by
  unfold fX4_takeTold_48 at hf
  obtain ⟨S8, hq, hf⟩ := bndV_ex hf
  have F := (Fr.rfl (inM 999999 LX4_takeTold_900004) _).trans ((rX4_advance hq).mono rfl (fun _ => rfl))
  cases hf
  exact F
theorem rX4_takeTold_13_900004 {S' : mT} {r : Int32} {v2 : Int32} {S : mT} (hf : fX4_takeTold_13 900004 v2 S = some (r, S')) : Fr (inM 999999 LX4_takeTold_900004) S S' := by
  unfold fX4_takeTold_13 at hf
  obtain ⟨S4, hq, hf⟩ := bndV_ex hf
  have F := (Fr.rfl (inM 999999 LX4_takeTold_900004) _).trans ((rX4_advance hq).mono rfl (fun _ => rfl))
  obtain ⟨-, hf⟩ := grd_ex hf
  obtain ⟨x5, -, hf⟩ := bnd_ex hf
  obtain ⟨-, hf⟩ := grd_ex hf
  by_cases hc : (S4.1 1 4) = (2 : Int32)
  · rw [if_pos hc] at hf
    by_cases hc : x5 ≤ v2
    · rw [if_pos hc] at hf
      exact F.trans (rX4_takeTold_48_900004 hf)
    · rw [if_neg hc] at hf
      obtain ⟨S6, hq, hf⟩ := bndV_ex hf
      have F := F.trans ((rX4_refuse hq).mono rfl (fun _ => rfl))
      exact F.trans (rX4_takeTold_48_900004 hf)
  · rw [if_neg hc] at hf
    obtain ⟨S7, hq, hf⟩ := bndV_ex hf
    have F := F.trans ((rX4_refuse hq).mono rfl (fun _ => rfl))
    exact F.trans (rX4_takeTold_48_900004 hf)
theorem rX4_takeTold_0_900004 {S' : mT} {r : Int32} {v2 : Int32} {S : mT} (hf : fX4_takeTold 900004 v2 S = some (r, S')) : Fr (inM 999999 LX4_takeTold_900004) S S' := by
  unfold fX4_takeTold at hf
  obtain ⟨x2, S1, hq, hf⟩ := bndC_ex hf
  have F := (Fr.rfl (inM 999999 LX4_takeTold_900004) _).trans ((rX4_isWord_900004 hq).mono rfl (fun _ => rfl))
  by_cases hc : x2 = 0
  · rw [if_pos hc] at hf
    obtain ⟨S3, hq, hf⟩ := bndV_ex hf
    have F := F.trans ((rX4_refuse hq).mono rfl (fun _ => rfl))
    exact F.trans (rX4_takeTold_13_900004 hf)
  · rw [if_neg hc] at hf
    exact F.trans (rX4_takeTold_13_900004 hf)
theorem rX4_takeTold_900004 {v2 : Int32} {S S' : mT} {r : Int32} (hf : fX4_takeTold 900004 v2 S = some (r, S')) : Fr (inM 999999 LX4_takeTold_900004) S S' := rX4_takeTold_0_900004 hf
abbrev LX4_readDraw_3 : List (Nat × Nat × Option Nat) := [(999999, 999999, none), (1, 1, some 2), (1, 1, some 3), (1, 1, some 4), (1, 1, some 5), (1, 1, some 6), (1, 1, some 7), (1, 1, some 8), (1, 1, some 9), (3, 3, some 10), (3, 3, some 11)]
theorem rX4_readDraw_12_3 {S' : mT} {S : mT} (hf : fX4_readDraw_12 3 S = some S') : Fr (inM 999999 LX4_readDraw_3) S S' := by
  unfold fX4_readDraw_12 at hf
  obtain ⟨-, hf⟩ := grd_ex hf
  obtain ⟨S2, eS2, hf⟩ := bnd_ex hf
  have F : Fr (inM 999999 LX4_readDraw_3) S S2 := by
    rw [eS2]
    exact Fr.sI (Fr.rfl (inM 999999 LX4_readDraw_3) _) rfl
  obtain ⟨x4, S3, hq, hf⟩ := bndC_ex hf
  have F := F.trans ((rX4_takeTold_900008 hq).mono rfl (fun _ => rfl))
  obtain ⟨-, hf⟩ := grd_ex hf
  obtain ⟨S5, eS5, hf⟩ := bnd_ex hf
  have F : Fr (inM 999999 LX4_readDraw_3) S S5 := by
    rw [eS5]
    exact Fr.sI F rfl
  cases hf
  exact F
theorem rX4_readDraw_0_3 {S' : mT} {S : mT} (hf : fX4_readDraw 3 S = some S') : Fr (inM 999999 LX4_readDraw_3) S S' := by
  unfold fX4_readDraw at hf
  obtain ⟨-, hf⟩ := grd_ex hf
  by_cases hc : (S.1 3 11) = 0
  · rw [if_pos hc] at hf
    exact (Fr.rfl (inM 999999 LX4_readDraw_3) _).trans (rX4_readDraw_12_3 hf)
  · rw [if_neg hc] at hf
    obtain ⟨S1, hq, hf⟩ := bndV_ex hf
    have F := (Fr.rfl (inM 999999 LX4_readDraw_3) _).trans ((rX4_refuse hq).mono rfl (fun _ => rfl))
    exact F.trans (rX4_readDraw_12_3 hf)
theorem rX4_readDraw_3 {S S' : mT} (hf : fX4_readDraw 3 S = some S') : Fr (inM 999999 LX4_readDraw_3) S S' := rX4_readDraw_0_3 hf
abbrev LX4_readDraw_19 : List (Nat × Nat × Option Nat) := [(999999, 999999, none), (1, 1, some 2), (1, 1, some 3), (1, 1, some 4), (1, 1, some 5), (1, 1, some 6), (1, 1, some 7), (1, 1, some 8), (1, 1, some 9), (19, 19, some 10), (19, 19, some 11)]
theorem rX4_readDraw_12_19 {S' : mT} {S : mT} (hf : fX4_readDraw_12 19 S = some S') : Fr (inM 999999 LX4_readDraw_19) S S' := by
  unfold fX4_readDraw_12 at hf
  obtain ⟨-, hf⟩ := grd_ex hf
  obtain ⟨S2, eS2, hf⟩ := bnd_ex hf
  have F : Fr (inM 999999 LX4_readDraw_19) S S2 := by
    rw [eS2]
    exact Fr.sI (Fr.rfl (inM 999999 LX4_readDraw_19) _) rfl
  obtain ⟨x4, S3, hq, hf⟩ := bndC_ex hf
  have F := F.trans ((rX4_takeTold_900008 hq).mono rfl (fun _ => rfl))
  obtain ⟨-, hf⟩ := grd_ex hf
  obtain ⟨S5, eS5, hf⟩ := bnd_ex hf
  have F : Fr (inM 999999 LX4_readDraw_19) S S5 := by
    rw [eS5]
    exact Fr.sI F rfl
  cases hf
  exact F
theorem rX4_readDraw_0_19 {S' : mT} {S : mT} (hf : fX4_readDraw 19 S = some S') : Fr (inM 999999 LX4_readDraw_19) S S' := by
  unfold fX4_readDraw at hf
  obtain ⟨-, hf⟩ := grd_ex hf
  by_cases hc : (S.1 19 11) = 0
  · rw [if_pos hc] at hf
    exact (Fr.rfl (inM 999999 LX4_readDraw_19) _).trans (rX4_readDraw_12_19 hf)
  · rw [if_neg hc] at hf
    obtain ⟨S1, hq, hf⟩ := bndV_ex hf
    have F := (Fr.rfl (inM 999999 LX4_readDraw_19) _).trans ((rX4_refuse hq).mono rfl (fun _ => rfl))
    exact F.trans (rX4_readDraw_12_19 hf)
theorem rX4_readDraw_19 {S S' : mT} (hf : fX4_readDraw 19 S = some S') : Fr (inM 999999 LX4_readDraw_19) S S' := rX4_readDraw_0_19 hf
abbrev LX4_standsForItself : List (Nat × Nat × Option Nat) := [(999999, 999999, none)]
theorem rX4_standsForItself_140 {S' : mT} {r : Int32} {s0 : Int32} {S : mT} (hf : fX4_standsForItself_140 s0 S = some (r, S')) : Fr (inM 999999 LX4_standsForItself) S S' := by
  unfold fX4_standsForItself_140 at hf
  obtain ⟨-, hf⟩ := grd_ex hf
  cases hf
  exact (Fr.rfl (inM 999999 LX4_standsForItself) _)
theorem rX4_standsForItself_135 {S' : mT} {r : Int32} {S : mT} (hf : fX4_standsForItself_135 S = some (r, S')) : Fr (inM 999999 LX4_standsForItself) S S' := by
  unfold fX4_standsForItself_135 at hf
  exact (Fr.rfl (inM 999999 LX4_standsForItself) _).trans (rX4_standsForItself_140 hf)
theorem rX4_standsForItself_0 {S' : mT} {r : Int32} {S : mT} (hf : fX4_standsForItself S = some (r, S')) : Fr (inM 999999 LX4_standsForItself) S S' := by
  unfold fX4_standsForItself at hf
  obtain ⟨x2, S1, hq, hf⟩ := bndC_ex hf
  have F := (Fr.rfl (inM 999999 LX4_standsForItself) _).trans ((rX4_isWord_900000 hq).mono rfl (fun _ => rfl))
  by_cases hc : x2 = 0
  · rw [if_pos hc] at hf
    obtain ⟨x4, S3, hq, hf⟩ := bndC_ex hf
    have F := F.trans ((rX4_isWord_900001 hq).mono rfl (fun _ => rfl))
    by_cases hc : x4 = 0
    · rw [if_pos hc] at hf
      obtain ⟨x6, S5, hq, hf⟩ := bndC_ex hf
      have F := F.trans ((rX4_isWord_900002 hq).mono rfl (fun _ => rfl))
      by_cases hc : x6 = 0
      · rw [if_pos hc] at hf
        obtain ⟨x8, S7, hq, hf⟩ := bndC_ex hf
        have F := F.trans ((rX4_isWord_900003 hq).mono rfl (fun _ => rfl))
        by_cases hc : x8 = 0
        · rw [if_pos hc] at hf
          obtain ⟨x10, S9, hq, hf⟩ := bndC_ex hf
          have F := F.trans ((rX4_isWord_900004 hq).mono rfl (fun _ => rfl))
          by_cases hc : x10 = 0
          · rw [if_pos hc] at hf
            obtain ⟨x12, S11, hq, hf⟩ := bndC_ex hf
            have F := F.trans ((rX4_isWord_900005 hq).mono rfl (fun _ => rfl))
            by_cases hc : x12 = 0
            · rw [if_pos hc] at hf
              obtain ⟨x14, S13, hq, hf⟩ := bndC_ex hf
              have F := F.trans ((rX4_isWord_900006 hq).mono rfl (fun _ => rfl))
              by_cases hc : x14 = 0
              · rw [if_pos hc] at hf
                obtain ⟨x16, S15, hq, hf⟩ := bndC_ex hf
                have F := F.trans ((rX4_isWord_900007 hq).mono rfl (fun _ => rfl))
                by_cases hc : x16 = 0
                · rw [if_pos hc] at hf
                  obtain ⟨x18, S17, hq, hf⟩ := bndC_ex hf
                  have F := F.trans ((rX4_isWord_900008 hq).mono rfl (fun _ => rfl))
                  by_cases hc : x18 = 0
                  · rw [if_pos hc] at hf
                    obtain ⟨x20, S19, hq, hf⟩ := bndC_ex hf
                    have F := F.trans ((rX4_isWord_900009 hq).mono rfl (fun _ => rfl))
                    by_cases hc : x20 = 0
                    · rw [if_pos hc] at hf
                      obtain ⟨x22, S21, hq, hf⟩ := bndC_ex hf
                      have F := F.trans ((rX4_isWord_900010 hq).mono rfl (fun _ => rfl))
                      by_cases hc : x22 = 0
                      · rw [if_pos hc] at hf
                        obtain ⟨x24, S23, hq, hf⟩ := bndC_ex hf
                        have F := F.trans ((rX4_isWord_900011 hq).mono rfl (fun _ => rfl))
                        by_cases hc : x24 = 0
                        · rw [if_pos hc] at hf
                          obtain ⟨x26, S25, hq, hf⟩ := bndC_ex hf
                          have F := F.trans ((rX4_isWord_900012 hq).mono rfl (fun _ => rfl))
                          by_cases hc : x26 = 0
                          · rw [if_pos hc] at hf
                            obtain ⟨x28, S27, hq, hf⟩ := bndC_ex hf
                            have F := F.trans ((rX4_isWord_900013 hq).mono rfl (fun _ => rfl))
                            by_cases hc : x28 = 0
                            · rw [if_pos hc] at hf
                              obtain ⟨x30, S29, hq, hf⟩ := bndC_ex hf
                              have F := F.trans ((rX4_isWord_900014 hq).mono rfl (fun _ => rfl))
                              by_cases hc : x30 = 0
                              · rw [if_pos hc] at hf
                                exact F.trans (rX4_standsForItself_140 hf)
                              · rw [if_neg hc] at hf
                                exact F.trans (rX4_standsForItself_135 hf)
                            · rw [if_neg hc] at hf
                              exact F.trans (rX4_standsForItself_135 hf)
                          · rw [if_neg hc] at hf
                            exact F.trans (rX4_standsForItself_135 hf)
                        · rw [if_neg hc] at hf
                          exact F.trans (rX4_standsForItself_135 hf)
                      · rw [if_neg hc] at hf
                        exact F.trans (rX4_standsForItself_135 hf)
                    · rw [if_neg hc] at hf
                      exact F.trans (rX4_standsForItself_135 hf)
                  · rw [if_neg hc] at hf
                    exact F.trans (rX4_standsForItself_135 hf)
                · rw [if_neg hc] at hf
                  exact F.trans (rX4_standsForItself_135 hf)
              · rw [if_neg hc] at hf
                exact F.trans (rX4_standsForItself_135 hf)
            · rw [if_neg hc] at hf
              exact F.trans (rX4_standsForItself_135 hf)
          · rw [if_neg hc] at hf
            exact F.trans (rX4_standsForItself_135 hf)
        · rw [if_neg hc] at hf
          exact F.trans (rX4_standsForItself_135 hf)
      · rw [if_neg hc] at hf
        exact F.trans (rX4_standsForItself_135 hf)
    · rw [if_neg hc] at hf
      exact F.trans (rX4_standsForItself_135 hf)
  · rw [if_neg hc] at hf
    exact F.trans (rX4_standsForItself_135 hf)
theorem rX4_standsForItself {S S' : mT} {r : Int32} (hf : fX4_standsForItself S = some (r, S')) : Fr (inM 999999 LX4_standsForItself) S S' := rX4_standsForItself_0 hf
abbrev LX8_hasName_3 : List (Nat × Nat × Option Nat) := [(999999, 999999, none)]
theorem rX8_hasName_2_3 {S' : mT} {r : Int32} : ∀ (k : Nat) (v1 : Int64) (v3 : Int32) (S : mT), fX8_hasName_2 3 k v1 v3 S = some (r, S') → Fr (inM 999999 LX8_hasName_3) S S' := by
  intro k
  induction k with
  | zero =>
    intro v1 v3 S hf
    cases hf
  | succ k ih =>
    intro v1 v3 S hf
    unfold fX8_hasName_2 at hf
    obtain ⟨-, hf⟩ := grd_ex hf
    by_cases hc : (S.1 3 9) ≤ v3
    · rw [if_pos hc] at hf
      cases hf
      exact (Fr.rfl (inM 999999 LX8_hasName_3) _)
    · rw [if_neg hc] at hf
      obtain ⟨-, hf⟩ := grd_ex hf
      by_cases hc : (lg_cmp (S.2 (3 + 1) (mIx v3)) v1) = 0
      · rw [if_pos hc] at hf
        cases hf
        exact (Fr.rfl (inM 999999 LX8_hasName_3) _)
      · rw [if_neg hc] at hf
        obtain ⟨x1, -, hf⟩ := bnd_ex hf
        exact (Fr.rfl (inM 999999 LX8_hasName_3) _).trans (ih _ _ _ hf)
theorem rX8_hasName_0_3 {S' : mT} {r : Int32} {v1 : Int64} {S : mT} (hf : fX8_hasName 3 v1 S = some (r, S')) : Fr (inM 999999 LX8_hasName_3) S S' := by
  unfold fX8_hasName at hf
  exact (Fr.rfl (inM 999999 LX8_hasName_3) _).trans (rX8_hasName_2_3 _ _ _ _ hf)
theorem rX8_hasName_3 {v1 : Int64} {S S' : mT} {r : Int32} (hf : fX8_hasName 3 v1 S = some (r, S')) : Fr (inM 999999 LX8_hasName_3) S S' := rX8_hasName_0_3 hf
abbrev LX8_hasName_19 : List (Nat × Nat × Option Nat) := [(999999, 999999, none)]
theorem rX8_hasName_2_19 {S' : mT} {r : Int32} : ∀ (k : Nat) (v1 : Int64) (v3 : Int32) (S : mT), fX8_hasName_2 19 k v1 v3 S = some (r, S') → Fr (inM 999999 LX8_hasName_19) S S' := by
  intro k
  induction k with
  | zero =>
    intro v1 v3 S hf
    cases hf
  | succ k ih =>
    intro v1 v3 S hf
    unfold fX8_hasName_2 at hf
    obtain ⟨-, hf⟩ := grd_ex hf
    by_cases hc : (S.1 19 9) ≤ v3
    · rw [if_pos hc] at hf
      cases hf
      exact (Fr.rfl (inM 999999 LX8_hasName_19) _)
    · rw [if_neg hc] at hf
      obtain ⟨-, hf⟩ := grd_ex hf
      by_cases hc : (lg_cmp (S.2 (19 + 1) (mIx v3)) v1) = 0
      · rw [if_pos hc] at hf
        cases hf
        exact (Fr.rfl (inM 999999 LX8_hasName_19) _)
      · rw [if_neg hc] at hf
        obtain ⟨x1, -, hf⟩ := bnd_ex hf
        exact (Fr.rfl (inM 999999 LX8_hasName_19) _).trans (ih _ _ _ hf)
theorem rX8_hasName_0_19 {S' : mT} {r : Int32} {v1 : Int64} {S : mT} (hf : fX8_hasName 19 v1 S = some (r, S')) : Fr (inM 999999 LX8_hasName_19) S S' := by
  unfold fX8_hasName at hf
  exact (Fr.rfl (inM 999999 LX8_hasName_19) _).trans (rX8_hasName_2_19 _ _ _ _ hf)
theorem rX8_hasName_19 {v1 : Int64} {S S' : mT} {r : Int32} (hf : fX8_hasName 19 v1 S = some (r, S')) : Fr (inM 999999 LX8_hasName_19) S S' := rX8_hasName_0_19 hf
abbrev LX4_takeName_3 : List (Nat × Nat × Option Nat) := [(999999, 999999, none), (1, 1, some 2), (1, 1, some 3), (1, 1, some 4), (1, 1, some 5), (1, 1, some 6), (1, 1, some 7), (1, 1, some 8), (1, 1, some 9)]
theorem rX4_takeName_41_3 {S' : mT} {r : Int64} {v2 : Int64} {S : mT} (hf : fX4_takeName_41 3 v2 S = some (r, S')) : Fr (inM 999999 LX4_takeName_3) S S' := by
  unfold fX4_takeName_41 at hf
  obtain ⟨S7, hq, hf⟩ := bndV_ex hf
  have F := (Fr.rfl (inM 999999 LX4_takeName_3) _).trans ((rX4_advance hq).mono rfl (fun _ => rfl))
  cases hf
  exact F
theorem rX4_takeName_20_3 {S' : mT} {r : Int64} {v2 : Int64} {S : mT} (hf : fX4_takeName_20 3 v2 S = some (r, S')) : Fr (inM 999999 LX4_takeName_3) S S' := by
  unfold fX4_takeName_20 at hf
  obtain ⟨S8, hq, hf⟩ := bndV_ex hf
  have F := (Fr.rfl (inM 999999 LX4_takeName_3) _).trans ((rX4_refuse hq).mono rfl (fun _ => rfl))
  exact F.trans (rX4_takeName_41_3 hf)
theorem rX4_takeName_0_3 {S' : mT} {r : Int64} {S : mT} (hf : fX4_takeName 3 S = some (r, S')) : Fr (inM 999999 LX4_takeName_3) S S' := by
  unfold fX4_takeName at hf
  obtain ⟨-, hf⟩ := grd_ex hf
  obtain ⟨x1, -, hf⟩ := bnd_ex hf
  obtain ⟨-, hf⟩ := grd_ex hf
  by_cases hc : (S.1 1 4) = (1 : Int32)
  · rw [if_pos hc] at hf
    obtain ⟨x3, S2, hq, hf⟩ := bndC_ex hf
    have F := (Fr.rfl (inM 999999 LX4_takeName_3) _).trans ((rX4_standsForItself hq).mono rfl (fun _ => rfl))
    by_cases hc : x3 = 0
    · rw [if_pos hc] at hf
      obtain ⟨x5, S4, hq, hf⟩ := bndC_ex hf
      have F := F.trans ((rX8_hasName_3 hq).mono rfl (fun _ => rfl))
      by_cases hc : x5 = 0
      · rw [if_pos hc] at hf
        exact F.trans (rX4_takeName_41_3 hf)
      · rw [if_neg hc] at hf
        obtain ⟨S6, hq, hf⟩ := bndV_ex hf
        have F := F.trans ((rX4_refuse hq).mono rfl (fun _ => rfl))
        exact F.trans (rX4_takeName_41_3 hf)
    · rw [if_neg hc] at hf
      exact F.trans (rX4_takeName_20_3 hf)
  · rw [if_neg hc] at hf
    exact (Fr.rfl (inM 999999 LX4_takeName_3) _).trans (rX4_takeName_20_3 hf)
theorem rX4_takeName_3 {S S' : mT} {r : Int64} (hf : fX4_takeName 3 S = some (r, S')) : Fr (inM 999999 LX4_takeName_3) S S' := rX4_takeName_0_3 hf
abbrev LX4_takeName_19 : List (Nat × Nat × Option Nat) := [(999999, 999999, none), (1, 1, some 2), (1, 1, some 3), (1, 1, some 4), (1, 1, some 5), (1, 1, some 6), (1, 1, some 7), (1, 1, some 8), (1, 1, some 9)]
theorem rX4_takeName_41_19 {S' : mT} {r : Int64} {v2 : Int64} {S : mT} (hf : fX4_takeName_41 19 v2 S = some (r, S')) : Fr (inM 999999 LX4_takeName_19) S S' := by
  unfold fX4_takeName_41 at hf
  obtain ⟨S7, hq, hf⟩ := bndV_ex hf
  have F := (Fr.rfl (inM 999999 LX4_takeName_19) _).trans ((rX4_advance hq).mono rfl (fun _ => rfl))
  cases hf
  exact F
theorem rX4_takeName_20_19 {S' : mT} {r : Int64} {v2 : Int64} {S : mT} (hf : fX4_takeName_20 19 v2 S = some (r, S')) : Fr (inM 999999 LX4_takeName_19) S S' := by
  unfold fX4_takeName_20 at hf
  obtain ⟨S8, hq, hf⟩ := bndV_ex hf
  have F := (Fr.rfl (inM 999999 LX4_takeName_19) _).trans ((rX4_refuse hq).mono rfl (fun _ => rfl))
  exact F.trans (rX4_takeName_41_19 hf)
theorem rX4_takeName_0_19 {S' : mT} {r : Int64} {S : mT} (hf : fX4_takeName 19 S = some (r, S')) : Fr (inM 999999 LX4_takeName_19) S S' := by
  unfold fX4_takeName at hf
  obtain ⟨-, hf⟩ := grd_ex hf
  obtain ⟨x1, -, hf⟩ := bnd_ex hf
  obtain ⟨-, hf⟩ := grd_ex hf
  by_cases hc : (S.1 1 4) = (1 : Int32)
  · rw [if_pos hc] at hf
    obtain ⟨x3, S2, hq, hf⟩ := bndC_ex hf
    have F := (Fr.rfl (inM 999999 LX4_takeName_19) _).trans ((rX4_standsForItself hq).mono rfl (fun _ => rfl))
    by_cases hc : x3 = 0
    · rw [if_pos hc] at hf
      obtain ⟨x5, S4, hq, hf⟩ := bndC_ex hf
      have F := F.trans ((rX8_hasName_19 hq).mono rfl (fun _ => rfl))
      by_cases hc : x5 = 0
      · rw [if_pos hc] at hf
        exact F.trans (rX4_takeName_41_19 hf)
      · rw [if_neg hc] at hf
        obtain ⟨S6, hq, hf⟩ := bndV_ex hf
        have F := F.trans ((rX4_refuse hq).mono rfl (fun _ => rfl))
        exact F.trans (rX4_takeName_41_19 hf)
    · rw [if_neg hc] at hf
      exact F.trans (rX4_takeName_20_19 hf)
  · rw [if_neg hc] at hf
    exact (Fr.rfl (inM 999999 LX4_takeName_19) _).trans (rX4_takeName_20_19 hf)
theorem rX4_takeName_19 {S S' : mT} {r : Int64} (hf : fX4_takeName 19 S = some (r, S')) : Fr (inM 999999 LX4_takeName_19) S S' := rX4_takeName_0_19 hf
abbrev LX8_addHouse_3 : List (Nat × Nat × Option Nat) := [(999999, 999999, none), (3, 3, some 9), (4, 4, none), (5, 5, none), (6, 6, none), (7, 7, none), (8, 8, none)]
theorem rX8_addHouse_71_3 {S' : mT} {S : mT} (hf : fX8_addHouse_71 3 S = some S') : Fr (inM 999999 LX8_addHouse_3) S S' := by
  unfold fX8_addHouse_71 at hf
  cases hf
  exact (Fr.rfl (inM 999999 LX8_addHouse_3) _)
theorem rX8_addHouse_0_3 {S' : mT} {v1 : Int64} {v3 : Int32} {v4 : Int32} {v5 : Int32} {v6 : Int32} {S : mT} (hf : fX8_addHouse 3 v1 v3 v4 v5 v6 S = some S') : Fr (inM 999999 LX8_addHouse_3) S S' := by
  unfold fX8_addHouse at hf
  obtain ⟨-, hf⟩ := grd_ex hf
  by_cases hc : (5 : Int32) ≤ (S.1 3 9)
  · rw [if_pos hc] at hf
    exact (Fr.rfl (inM 999999 LX8_addHouse_3) _).trans (rX8_addHouse_71_3 hf)
  · rw [if_neg hc] at hf
    obtain ⟨-, hf⟩ := grd_ex hf
    obtain ⟨S1, eS1, hf⟩ := bnd_ex hf
    have F : Fr (inM 999999 LX8_addHouse_3) S S1 := by
      rw [eS1]
      exact Fr.sJ (Fr.rfl (inM 999999 LX8_addHouse_3) _) rfl
    obtain ⟨-, hf⟩ := grd_ex hf
    obtain ⟨S2, eS2, hf⟩ := bnd_ex hf
    have F : Fr (inM 999999 LX8_addHouse_3) S S2 := by
      rw [eS2]
      exact Fr.sI F rfl
    obtain ⟨-, hf⟩ := grd_ex hf
    obtain ⟨S3, eS3, hf⟩ := bnd_ex hf
    have F : Fr (inM 999999 LX8_addHouse_3) S S3 := by
      rw [eS3]
      exact Fr.sI F rfl
    obtain ⟨-, hf⟩ := grd_ex hf
    obtain ⟨S4, eS4, hf⟩ := bnd_ex hf
    have F : Fr (inM 999999 LX8_addHouse_3) S S4 := by
      rw [eS4]
      exact Fr.sI F rfl
    obtain ⟨-, hf⟩ := grd_ex hf
    obtain ⟨S5, eS5, hf⟩ := bnd_ex hf
    have F : Fr (inM 999999 LX8_addHouse_3) S S5 := by
      rw [eS5]
      exact Fr.sI F rfl
    obtain ⟨-, hf⟩ := grd_ex hf
    obtain ⟨S6, eS6, hf⟩ := bnd_ex hf
    have F : Fr (inM 999999 LX8_addHouse_3) S S6 := by
      rw [eS6]
      exact Fr.sI F rfl
    exact F.trans (rX8_addHouse_71_3 hf)
theorem rX8_addHouse_3 {v1 : Int64} {v3 : Int32} {v4 : Int32} {v5 : Int32} {v6 : Int32} {S S' : mT} (hf : fX8_addHouse 3 v1 v3 v4 v5 v6 S = some S') : Fr (inM 999999 LX8_addHouse_3) S S' := rX8_addHouse_0_3 hf
abbrev LX8_addHouse_19 : List (Nat × Nat × Option Nat) := [(999999, 999999, none), (19, 19, some 9), (20, 20, none), (21, 21, none), (22, 22, none), (23, 23, none), (24, 24, none)]
theorem rX8_addHouse_71_19 {S' : mT} {S : mT} (hf : fX8_addHouse_71 19 S = some S') : Fr (inM 999999 LX8_addHouse_19) S S' := by
  unfold fX8_addHouse_71 at hf
  cases hf
  exact (Fr.rfl (inM 999999 LX8_addHouse_19) _)
theorem rX8_addHouse_0_19 {S' : mT} {v1 : Int64} {v3 : Int32} {v4 : Int32} {v5 : Int32} {v6 : Int32} {S : mT} (hf : fX8_addHouse 19 v1 v3 v4 v5 v6 S = some S') : Fr (inM 999999 LX8_addHouse_19) S S' := by
  unfold fX8_addHouse at hf
  obtain ⟨-, hf⟩ := grd_ex hf
  by_cases hc : (5 : Int32) ≤ (S.1 19 9)
  · rw [if_pos hc] at hf
    exact (Fr.rfl (inM 999999 LX8_addHouse_19) _).trans (rX8_addHouse_71_19 hf)
  · rw [if_neg hc] at hf
    obtain ⟨-, hf⟩ := grd_ex hf
    obtain ⟨S1, eS1, hf⟩ := bnd_ex hf
    have F : Fr (inM 999999 LX8_addHouse_19) S S1 := by
      rw [eS1]
      exact Fr.sJ (Fr.rfl (inM 999999 LX8_addHouse_19) _) rfl
    obtain ⟨-, hf⟩ := grd_ex hf
    obtain ⟨S2, eS2, hf⟩ := bnd_ex hf
    have F : Fr (inM 999999 LX8_addHouse_19) S S2 := by
      rw [eS2]
      exact Fr.sI F rfl
    obtain ⟨-, hf⟩ := grd_ex hf
    obtain ⟨S3, eS3, hf⟩ := bnd_ex hf
    have F : Fr (inM 999999 LX8_addHouse_19) S S3 := by
      rw [eS3]
      exact Fr.sI F rfl
    obtain ⟨-, hf⟩ := grd_ex hf
    obtain ⟨S4, eS4, hf⟩ := bnd_ex hf
    have F : Fr (inM 999999 LX8_addHouse_19) S S4 := by
      rw [eS4]
      exact Fr.sI F rfl
    obtain ⟨-, hf⟩ := grd_ex hf
    obtain ⟨S5, eS5, hf⟩ := bnd_ex hf
    have F : Fr (inM 999999 LX8_addHouse_19) S S5 := by
      rw [eS5]
      exact Fr.sI F rfl
    obtain ⟨-, hf⟩ := grd_ex hf
    obtain ⟨S6, eS6, hf⟩ := bnd_ex hf
    have F : Fr (inM 999999 LX8_addHouse_19) S S6 := by
      rw [eS6]
      exact Fr.sI F rfl
    exact F.trans (rX8_addHouse_71_19 hf)
theorem rX8_addHouse_19 {v1 : Int64} {v3 : Int32} {v4 : Int32} {v5 : Int32} {v6 : Int32} {S S' : mT} (hf : fX8_addHouse 19 v1 v3 v4 v5 v6 S = some S') : Fr (inM 999999 LX8_addHouse_19) S S' := rX8_addHouse_0_19 hf
abbrev LX4_readHouse_3 : List (Nat × Nat × Option Nat) := [(999999, 999999, none), (1, 1, some 2), (1, 1, some 3), (1, 1, some 4), (1, 1, some 5), (1, 1, some 6), (1, 1, some 7), (1, 1, some 8), (1, 1, some 9), (3, 3, some 9), (4, 4, none), (5, 5, none), (6, 6, none), (7, 7, none), (8, 8, none)]
theorem rX4_readHouse_87_3 {S' : mT} {v2 : Int64} {v4 : Int32} {v5 : Int32} {v6 : Int32} {s0 : Int32} {S : mT} (hf : fX4_readHouse_87 3 v2 v4 v5 v6 s0 S = some S') : Fr (inM 999999 LX4_readHouse_3) S S' := by
  unfold fX4_readHouse_87 at hf
  obtain ⟨S17, hq, hf⟩ := bndV_ex hf
  have F := (Fr.rfl (inM 999999 LX4_readHouse_3) _).trans ((rX8_addHouse_3 hq).mono rfl (fun _ => rfl))
  cases hf
  exact F
theorem rX4_readHouse_64_3 {S' : mT} {v2 : Int64} {v4 : Int32} {v5 : Int32} {s0 : Int32} {S : mT} (hf : fX4_readHouse_64 3 v2 v4 v5 s0 S = some S') : Fr (inM 999999 LX4_readHouse_3) S S' := by
  unfold fX4_readHouse_64 at hf
  obtain ⟨x14, S13, hq, hf⟩ := bndC_ex hf
  have F := (Fr.rfl (inM 999999 LX4_readHouse_3) _).trans ((rX4_isWord_900004 hq).mono rfl (fun _ => rfl))
  by_cases hc : x14 = 0
  · rw [if_pos hc] at hf
    exact F.trans (rX4_readHouse_87_3 hf)
  · rw [if_neg hc] at hf
    obtain ⟨x16, S15, hq, hf⟩ := bndC_ex hf
    have F := F.trans ((rX4_takeTold_900004 hq).mono rfl (fun _ => rfl))
    exact F.trans (rX4_readHouse_87_3 hf)
theorem rX4_readHouse_13_3 {S' : mT} {S : mT} (hf : fX4_readHouse_13 3 S = some S') : Fr (inM 999999 LX4_readHouse_3) S S' := by
  unfold fX4_readHouse_13 at hf
  obtain ⟨S2, hq, hf⟩ := bndV_ex hf
  have F := (Fr.rfl (inM 999999 LX4_readHouse_3) _).trans ((rX4_advance hq).mono rfl (fun _ => rfl))
  obtain ⟨x4, S3, hq, hf⟩ := bndC_ex hf
  have F := F.trans ((rX4_takeName_3 hq).mono rfl (fun _ => rfl))
  obtain ⟨x6, S5, hq, hf⟩ := bndC_ex hf
  have F := F.trans ((rX4_takeTold_900001 hq).mono rfl (fun _ => rfl))
  obtain ⟨x8, S7, hq, hf⟩ := bndC_ex hf
  have F := F.trans ((rX4_takeTold_900002 hq).mono rfl (fun _ => rfl))
  obtain ⟨x10, S9, hq, hf⟩ := bndC_ex hf
  have F := F.trans ((rX4_isWord_900003 hq).mono rfl (fun _ => rfl))
  by_cases hc : x10 = 0
  · rw [if_pos hc] at hf
    exact F.trans (rX4_readHouse_64_3 hf)
  · rw [if_neg hc] at hf
    obtain ⟨x12, S11, hq, hf⟩ := bndC_ex hf
    have F := F.trans ((rX4_takeTold_900003 hq).mono rfl (fun _ => rfl))
    exact F.trans (rX4_readHouse_64_3 hf)
theorem rX4_readHouse_0_3 {S' : mT} {S : mT} (hf : fX4_readHouse 3 S = some S') : Fr (inM 999999 LX4_readHouse_3) S S' := by
  unfold fX4_readHouse at hf
  obtain ⟨-, hf⟩ := grd_ex hf
  by_cases hc : (S.1 3 9) < (5 : Int32)
  · rw [if_pos hc] at hf
    exact (Fr.rfl (inM 999999 LX4_readHouse_3) _).trans (rX4_readHouse_13_3 hf)
  · rw [if_neg hc] at hf
    obtain ⟨S1, hq, hf⟩ := bndV_ex hf
    have F := (Fr.rfl (inM 999999 LX4_readHouse_3) _).trans ((rX4_refuse hq).mono rfl (fun _ => rfl))
    exact F.trans (rX4_readHouse_13_3 hf)
theorem rX4_readHouse_3 {S S' : mT} (hf : fX4_readHouse 3 S = some S') : Fr (inM 999999 LX4_readHouse_3) S S' := rX4_readHouse_0_3 hf
abbrev LX4_readHouse_19 : List (Nat × Nat × Option Nat) := [(999999, 999999, none), (1, 1, some 2), (1, 1, some 3), (1, 1, some 4), (1, 1, some 5), (1, 1, some 6), (1, 1, some 7), (1, 1, some 8), (1, 1, some 9), (19, 19, some 9), (20, 20, none), (21, 21, none), (22, 22, none), (23, 23, none), (24, 24, none)]
theorem rX4_readHouse_87_19 {S' : mT} {v2 : Int64} {v4 : Int32} {v5 : Int32} {v6 : Int32} {s0 : Int32} {S : mT} (hf : fX4_readHouse_87 19 v2 v4 v5 v6 s0 S = some S') : Fr (inM 999999 LX4_readHouse_19) S S' := by
  unfold fX4_readHouse_87 at hf
  obtain ⟨S17, hq, hf⟩ := bndV_ex hf
  have F := (Fr.rfl (inM 999999 LX4_readHouse_19) _).trans ((rX8_addHouse_19 hq).mono rfl (fun _ => rfl))
  cases hf
  exact F
theorem rX4_readHouse_64_19 {S' : mT} {v2 : Int64} {v4 : Int32} {v5 : Int32} {s0 : Int32} {S : mT} (hf : fX4_readHouse_64 19 v2 v4 v5 s0 S = some S') : Fr (inM 999999 LX4_readHouse_19) S S' := by
  unfold fX4_readHouse_64 at hf
  obtain ⟨x14, S13, hq, hf⟩ := bndC_ex hf
  have F := (Fr.rfl (inM 999999 LX4_readHouse_19) _).trans ((rX4_isWord_900004 hq).mono rfl (fun _ => rfl))
  by_cases hc : x14 = 0
  · rw [if_pos hc] at hf
    exact F.trans (rX4_readHouse_87_19 hf)
  · rw [if_neg hc] at hf
    obtain ⟨x16, S15, hq, hf⟩ := bndC_ex hf
    have F := F.trans ((rX4_takeTold_900004 hq).mono rfl (fun _ => rfl))
    exact F.trans (rX4_readHouse_87_19 hf)
theorem rX4_readHouse_13_19 {S' : mT} {S : mT} (hf : fX4_readHouse_13 19 S = some S') : Fr (inM 999999 LX4_readHouse_19) S S' := by
  unfold fX4_readHouse_13 at hf
  obtain ⟨S2, hq, hf⟩ := bndV_ex hf
  have F := (Fr.rfl (inM 999999 LX4_readHouse_19) _).trans ((rX4_advance hq).mono rfl (fun _ => rfl))
  obtain ⟨x4, S3, hq, hf⟩ := bndC_ex hf
  have F := F.trans ((rX4_takeName_19 hq).mono rfl (fun _ => rfl))
  obtain ⟨x6, S5, hq, hf⟩ := bndC_ex hf
  have F := F.trans ((rX4_takeTold_900001 hq).mono rfl (fun _ => rfl))
  obtain ⟨x8, S7, hq, hf⟩ := bndC_ex hf
  have F := F.trans ((rX4_takeTold_900002 hq).mono rfl (fun _ => rfl))
  obtain ⟨x10, S9, hq, hf⟩ := bndC_ex hf
  have F := F.trans ((rX4_isWord_900003 hq).mono rfl (fun _ => rfl))
  by_cases hc : x10 = 0
  · rw [if_pos hc] at hf
    exact F.trans (rX4_readHouse_64_19 hf)
  · rw [if_neg hc] at hf
    obtain ⟨x12, S11, hq, hf⟩ := bndC_ex hf
    have F := F.trans ((rX4_takeTold_900003 hq).mono rfl (fun _ => rfl))
    exact F.trans (rX4_readHouse_64_19 hf)
theorem rX4_readHouse_0_19 {S' : mT} {S : mT} (hf : fX4_readHouse 19 S = some S') : Fr (inM 999999 LX4_readHouse_19) S S' := by
  unfold fX4_readHouse at hf
  obtain ⟨-, hf⟩ := grd_ex hf
  by_cases hc : (S.1 19 9) < (5 : Int32)
  · rw [if_pos hc] at hf
    exact (Fr.rfl (inM 999999 LX4_readHouse_19) _).trans (rX4_readHouse_13_19 hf)
  · rw [if_neg hc] at hf
    obtain ⟨S1, hq, hf⟩ := bndV_ex hf
    have F := (Fr.rfl (inM 999999 LX4_readHouse_19) _).trans ((rX4_refuse hq).mono rfl (fun _ => rfl))
    exact F.trans (rX4_readHouse_13_19 hf)
theorem rX4_readHouse_19 {S S' : mT} (hf : fX4_readHouse 19 S = some S') : Fr (inM 999999 LX4_readHouse_19) S S' := rX4_readHouse_0_19 hf
abbrev LX4_isSign : List (Nat × Nat × Option Nat) := [(999999, 999999, none)]
theorem rX4_isSign_21 {S' : mT} {r : Int32} {s0 : Int32} {S : mT} (hf : fX4_isSign_21 s0 S = some (r, S')) : Fr (inM 999999 LX4_isSign) S S' := by
  unfold fX4_isSign_21 at hf
  obtain ⟨-, hf⟩ := grd_ex hf
  cases hf
  exact (Fr.rfl (inM 999999 LX4_isSign) _)
theorem rX4_isSign_20 {S' : mT} {r : Int32} {S : mT} (hf : fX4_isSign_20 S = some (r, S')) : Fr (inM 999999 LX4_isSign) S S' := by
  unfold fX4_isSign_20 at hf
  exact (Fr.rfl (inM 999999 LX4_isSign) _).trans (rX4_isSign_21 hf)
theorem rX4_isSign_0 {S' : mT} {r : Int32} {v1 : Int32} {S : mT} (hf : fX4_isSign v1 S = some (r, S')) : Fr (inM 999999 LX4_isSign) S S' := by
  unfold fX4_isSign at hf
  obtain ⟨-, hf⟩ := grd_ex hf
  by_cases hc : (S.1 1 4) = (3 : Int32)
  · rw [if_pos hc] at hf
    obtain ⟨-, hf⟩ := grd_ex hf
    by_cases hc : (S.1 1 9) = v1
    · rw [if_pos hc] at hf
      exact (Fr.rfl (inM 999999 LX4_isSign) _).trans (rX4_isSign_21 hf)
    · rw [if_neg hc] at hf
      exact (Fr.rfl (inM 999999 LX4_isSign) _).trans (rX4_isSign_20 hf)
  · rw [if_neg hc] at hf
    exact (Fr.rfl (inM 999999 LX4_isSign) _).trans (rX4_isSign_20 hf)
theorem rX4_isSign {v1 : Int32} {S S' : mT} {r : Int32} (hf : fX4_isSign v1 S = some (r, S')) : Fr (inM 999999 LX4_isSign) S S' := rX4_isSign_0 hf
abbrev LX4_takeSign : List (Nat × Nat × Option Nat) := [(999999, 999999, none), (1, 1, some 2), (1, 1, some 3), (1, 1, some 4), (1, 1, some 5), (1, 1, some 6), (1, 1, some 7), (1, 1, some 8), (1, 1, some 9)]
theorem rX4_takeSign_13 {S' : mT} {S : mT} (hf : fX4_takeSign_13 S = some S') : Fr (inM 999999 LX4_takeSign) S S' := by
  unfold fX4_takeSign_13 at hf
  obtain ⟨S4, hq, hf⟩ := bndV_ex hf
  have F := (Fr.rfl (inM 999999 LX4_takeSign) _).trans ((rX4_advance hq).mono rfl (fun _ => rfl))
  cases hf
  exact F
theorem rX4_takeSign_0 {S' : mT} {v1 : Int32} {S : mT} (hf : fX4_takeSign v1 S = some S') : Fr (inM 999999 LX4_takeSign) S S' := by
  unfold fX4_takeSign at hf
  obtain ⟨x2, S1, hq, hf⟩ := bndC_ex hf
  have F := (Fr.rfl (inM 999999 LX4_takeSign) _).trans ((rX4_isSign hq).mono rfl (fun _ => rfl))
  by_cases hc : x2 = 0
  · rw [if_pos hc] at hf
    obtain ⟨S3, hq, hf⟩ := bndV_ex hf
    have F := F.trans ((rX4_refuse hq).mono rfl (fun _ => rfl))
    exact F.trans (rX4_takeSign_13 hf)
  · rw [if_neg hc] at hf
    exact F.trans (rX4_takeSign_13 hf)
theorem rX4_takeSign {v1 : Int32} {S S' : mT} (hf : fX4_takeSign v1 S = some S') : Fr (inM 999999 LX4_takeSign) S S' := rX4_takeSign_0 hf
abbrev LX4_valueNamed : List (Nat × Nat × Option Nat) := [(999999, 999999, none)]
theorem rX4_valueNamed_69 {S' : mT} {r : Int32} {s0 : Int32} {S : mT} (hf : fX4_valueNamed_69 s0 S = some (r, S')) : Fr (inM 999999 LX4_valueNamed) S S' := by
  unfold fX4_valueNamed_69 at hf
  cases hf
  exact (Fr.rfl (inM 999999 LX4_valueNamed) _)
theorem rX4_valueNamed_0 {S' : mT} {r : Int32} {S : mT} (hf : fX4_valueNamed S = some (r, S')) : Fr (inM 999999 LX4_valueNamed) S S' := by
  unfold fX4_valueNamed at hf
  obtain ⟨x2, S1, hq, hf⟩ := bndC_ex hf
  have F := (Fr.rfl (inM 999999 LX4_valueNamed) _).trans ((rX4_isWord_900002 hq).mono rfl (fun _ => rfl))
  by_cases hc : x2 = 0
  · rw [if_pos hc] at hf
    obtain ⟨x4, S3, hq, hf⟩ := bndC_ex hf
    have F := F.trans ((rX4_isWord_900012 hq).mono rfl (fun _ => rfl))
    by_cases hc : x4 = 0
    · rw [if_pos hc] at hf
      obtain ⟨x6, S5, hq, hf⟩ := bndC_ex hf
      have F := F.trans ((rX4_isWord_900003 hq).mono rfl (fun _ => rfl))
      by_cases hc : x6 = 0
      · rw [if_pos hc] at hf
        obtain ⟨x8, S7, hq, hf⟩ := bndC_ex hf
        have F := F.trans ((rX4_isWord_900004 hq).mono rfl (fun _ => rfl))
        by_cases hc : x8 = 0
        · rw [if_pos hc] at hf
          obtain ⟨x10, S9, hq, hf⟩ := bndC_ex hf
          have F := F.trans ((rX4_isWord_900013 hq).mono rfl (fun _ => rfl))
          by_cases hc : x10 = 0
          · rw [if_pos hc] at hf
            obtain ⟨x12, S11, hq, hf⟩ := bndC_ex hf
            have F := F.trans ((rX4_isWord_900014 hq).mono rfl (fun _ => rfl))
            by_cases hc : x12 = 0
            · rw [if_pos hc] at hf
              exact F.trans (rX4_valueNamed_69 hf)
            · rw [if_neg hc] at hf
              exact F.trans (rX4_valueNamed_69 hf)
          · rw [if_neg hc] at hf
            cases hf
            exact F
        · rw [if_neg hc] at hf
          cases hf
          exact F
      · rw [if_neg hc] at hf
        cases hf
        exact F
    · rw [if_neg hc] at hf
      cases hf
      exact F
  · rw [if_neg hc] at hf
    cases hf
    exact F
theorem rX4_valueNamed {S S' : mT} {r : Int32} (hf : fX4_valueNamed S = some (r, S')) : Fr (inM 999999 LX4_valueNamed) S S' := rX4_valueNamed_0 hf
abbrev LP_9 : List (Nat × Nat × Option Nat) := [(999999, 999999, none), (1, 1, some 2), (1, 1, some 3), (1, 1, some 4), (1, 1, some 5), (1, 1, some 6), (1, 1, some 7), (1, 1, some 8), (1, 1, some 9), (9, 9, some 2), (9, 9, some 3), (10, 10, none)]
abbrev LX4_readEither_9 : List (Nat × Nat × Option Nat) := LP_9
theorem rX4_readEither_47_9 {self : Nat → Nat → Int32 → mT → Option (mT)} (Hs0 : ∀ {v2 : Int32} {S S' : mT}, self 0 9 v2 S = some S' → Fr (inM 999999 LX4_readEither_9) S S') (Hs1 : ∀ {v2 : Int32} {S S' : mT}, self 1 9 v2 S = some S' → Fr (inM 999999 LX4_readEither_9) S S') (Hs2 : ∀ {v2 : Int32} {S S' : mT}, self 2 9 v2 S = some S' → Fr (inM 999999 LX4_readEither_9) S S') (Hs3 : ∀ {v2 : Int32} {S S' : mT}, self 3 9 v2 S = some S' → Fr (inM 999999 LX4_readEither_9) S S') (Hs4 : ∀ {v2 : Int32} {S S' : mT}, self 4 9 v2 S = some S' → Fr (inM 999999 LX4_readEither_9) S S') (Hs5 : ∀ {v2 : Int32} {S S' : mT}, self 5 9 v2 S = some S' → Fr (inM 999999 LX4_readEither_9) S S') {S' : mT} {S : mT} (hf : fX4_readEither_47 9 self S = some S') : Fr (inM 999999 LX4_readEither_9) S S' := by
  unfold fX4_readEither_47 at hf
  cases hf
  exact (Fr.rfl (inM 999999 LX4_readEither_9) _)
theorem rX4_readEither_8_9 {self : Nat → Nat → Int32 → mT → Option (mT)} (Hs0 : ∀ {v2 : Int32} {S S' : mT}, self 0 9 v2 S = some S' → Fr (inM 999999 LX4_readEither_9) S S') (Hs1 : ∀ {v2 : Int32} {S S' : mT}, self 1 9 v2 S = some S' → Fr (inM 999999 LX4_readEither_9) S S') (Hs2 : ∀ {v2 : Int32} {S S' : mT}, self 2 9 v2 S = some S' → Fr (inM 999999 LX4_readEither_9) S S') (Hs3 : ∀ {v2 : Int32} {S S' : mT}, self 3 9 v2 S = some S' → Fr (inM 999999 LX4_readEither_9) S S') (Hs4 : ∀ {v2 : Int32} {S S' : mT}, self 4 9 v2 S = some S' → Fr (inM 999999 LX4_readEither_9) S S') (Hs5 : ∀ {v2 : Int32} {S S' : mT}, self 5 9 v2 S = some S' → Fr (inM 999999 LX4_readEither_9) S S') {S' : mT} : ∀ (k : Nat) (v2 : Int32) (v3 : Int32) (S : mT), fX4_readEither_8 9 self k v2 v3 S = some S' → Fr (inM 999999 LX4_readEither_9) S S' := by
  intro k
  induction k with
  | zero =>
    intro v2 v3 S hf
    cases hf
  | succ k ih =>
    intro v2 v3 S hf
    unfold fX4_readEither_8 at hf
    by_cases hc : (1600 : Int32) ≤ v3
    · rw [if_pos hc] at hf
      exact (Fr.rfl (inM 999999 LX4_readEither_9) _).trans (rX4_readEither_47_9 Hs0 Hs1 Hs2 Hs3 Hs4 Hs5 hf)
    · rw [if_neg hc] at hf
      obtain ⟨x3, S2, hq, hf⟩ := bndC_ex hf
      have F := (Fr.rfl (inM 999999 LX4_readEither_9) _).trans ((rX4_isWord_900009 hq).mono rfl (fun _ => rfl))
      by_cases hc : x3 = 0
      · rw [if_pos hc] at hf
        exact F.trans (rX4_readEither_47_9 Hs0 Hs1 Hs2 Hs3 Hs4 Hs5 hf)
      · rw [if_neg hc] at hf
        obtain ⟨S4, hq, hf⟩ := bndV_ex hf
        have F := F.trans ((rX4_advance hq).mono rfl (fun _ => rfl))
        obtain ⟨S5, hq, hf⟩ := bndV_ex hf
        have F := F.trans (Hs1 hq)
        obtain ⟨S6, hq, hf⟩ := bndV_ex hf
        have F := F.trans ((rX0_add_9 hq).mono rfl (fun _ => rfl))
        obtain ⟨x7, -, hf⟩ := bnd_ex hf
        exact F.trans (ih _ _ _ hf)
theorem rX4_readEither_0_9 {self : Nat → Nat → Int32 → mT → Option (mT)} (Hs0 : ∀ {v2 : Int32} {S S' : mT}, self 0 9 v2 S = some S' → Fr (inM 999999 LX4_readEither_9) S S') (Hs1 : ∀ {v2 : Int32} {S S' : mT}, self 1 9 v2 S = some S' → Fr (inM 999999 LX4_readEither_9) S S') (Hs2 : ∀ {v2 : Int32} {S S' : mT}, self 2 9 v2 S = some S' → Fr (inM 999999 LX4_readEither_9) S S') (Hs3 : ∀ {v2 : Int32} {S S' : mT}, self 3 9 v2 S = some S' → Fr (inM 999999 LX4_readEither_9) S S') (Hs4 : ∀ {v2 : Int32} {S S' : mT}, self 4 9 v2 S = some S' → Fr (inM 999999 LX4_readEither_9) S S') (Hs5 : ∀ {v2 : Int32} {S S' : mT}, self 5 9 v2 S = some S' → Fr (inM 999999 LX4_readEither_9) S S') {S' : mT} {v2 : Int32} {S : mT} (hf : fX4_readEither_0 9 self v2 S = some S') : Fr (inM 999999 LX4_readEither_9) S S' := by
  unfold fX4_readEither_0 at hf
  obtain ⟨S1, hq, hf⟩ := bndV_ex hf
  have F := (Fr.rfl (inM 999999 LX4_readEither_9) _).trans (Hs1 hq)
  exact F.trans (rX4_readEither_8_9 Hs0 Hs1 Hs2 Hs3 Hs4 Hs5 _ _ _ _ hf)
abbrev LP_12 : List (Nat × Nat × Option Nat) := [(999999, 999999, none), (1, 1, some 2), (1, 1, some 3), (1, 1, some 4), (1, 1, some 5), (1, 1, some 6), (1, 1, some 7), (1, 1, some 8), (1, 1, some 9), (12, 12, some 2), (12, 12, some 3), (13, 13, none)]
abbrev LX4_readEither_12 : List (Nat × Nat × Option Nat) := LP_12
theorem rX4_readEither_47_12 {self : Nat → Nat → Int32 → mT → Option (mT)} (Hs0 : ∀ {v2 : Int32} {S S' : mT}, self 0 12 v2 S = some S' → Fr (inM 999999 LX4_readEither_12) S S') (Hs1 : ∀ {v2 : Int32} {S S' : mT}, self 1 12 v2 S = some S' → Fr (inM 999999 LX4_readEither_12) S S') (Hs2 : ∀ {v2 : Int32} {S S' : mT}, self 2 12 v2 S = some S' → Fr (inM 999999 LX4_readEither_12) S S') (Hs3 : ∀ {v2 : Int32} {S S' : mT}, self 3 12 v2 S = some S' → Fr (inM 999999 LX4_readEither_12) S S') (Hs4 : ∀ {v2 : Int32} {S S' : mT}, self 4 12 v2 S = some S' → Fr (inM 999999 LX4_readEither_12) S S') (Hs5 : ∀ {v2 : Int32} {S S' : mT}, self 5 12 v2 S = some S' → Fr (inM 999999 LX4_readEither_12) S S') {S' : mT} {S : mT} (hf : fX4_readEither_47 12 self S = some S') : Fr (inM 999999 LX4_readEither_12) S S' := by
  unfold fX4_readEither_47 at hf
  cases hf
  exact (Fr.rfl (inM 999999 LX4_readEither_12) _)
theorem rX4_readEither_8_12 {self : Nat → Nat → Int32 → mT → Option (mT)} (Hs0 : ∀ {v2 : Int32} {S S' : mT}, self 0 12 v2 S = some S' → Fr (inM 999999 LX4_readEither_12) S S') (Hs1 : ∀ {v2 : Int32} {S S' : mT}, self 1 12 v2 S = some S' → Fr (inM 999999 LX4_readEither_12) S S') (Hs2 : ∀ {v2 : Int32} {S S' : mT}, self 2 12 v2 S = some S' → Fr (inM 999999 LX4_readEither_12) S S') (Hs3 : ∀ {v2 : Int32} {S S' : mT}, self 3 12 v2 S = some S' → Fr (inM 999999 LX4_readEither_12) S S') (Hs4 : ∀ {v2 : Int32} {S S' : mT}, self 4 12 v2 S = some S' → Fr (inM 999999 LX4_readEither_12) S S') (Hs5 : ∀ {v2 : Int32} {S S' : mT}, self 5 12 v2 S = some S' → Fr (inM 999999 LX4_readEither_12) S S') {S' : mT} : ∀ (k : Nat) (v2 : Int32) (v3 : Int32) (S : mT), fX4_readEither_8 12 self k v2 v3 S = some S' → Fr (inM 999999 LX4_readEither_12) S S' := by
  intro k
  induction k with
  | zero =>
    intro v2 v3 S hf
    cases hf
  | succ k ih =>
    intro v2 v3 S hf
    unfold fX4_readEither_8 at hf
    by_cases hc : (1600 : Int32) ≤ v3
    · rw [if_pos hc] at hf
      exact (Fr.rfl (inM 999999 LX4_readEither_12) _).trans (rX4_readEither_47_12 Hs0 Hs1 Hs2 Hs3 Hs4 Hs5 hf)
    · rw [if_neg hc] at hf
      obtain ⟨x3, S2, hq, hf⟩ := bndC_ex hf
      have F := (Fr.rfl (inM 999999 LX4_readEither_12) _).trans ((rX4_isWord_900009 hq).mono rfl (fun _ => rfl))
      by_cases hc : x3 = 0
      · rw [if_pos hc] at hf
        exact F.trans (rX4_readEither_47_12 Hs0 Hs1 Hs2 Hs3 Hs4 Hs5 hf)
      · rw [if_neg hc] at hf
        obtain ⟨S4, hq, hf⟩ := bndV_ex hf
        have F := F.trans ((rX4_advance hq).mono rfl (fun _ => rfl))
        obtain ⟨S5, hq, hf⟩ := bndV_ex hf
        have F := F.trans (Hs1 hq)
        obtain ⟨S6, hq, hf⟩ := bndV_ex hf
        have F := F.trans ((rX0_add_12 hq).mono rfl (fun _ => rfl))
        obtain ⟨x7, -, hf⟩ := bnd_ex hf
        exact F.trans (ih _ _ _ hf)
theorem rX4_readEither_0_12 {self : Nat → Nat → Int32 → mT → Option (mT)} (Hs0 : ∀ {v2 : Int32} {S S' : mT}, self 0 12 v2 S = some S' → Fr (inM 999999 LX4_readEither_12) S S') (Hs1 : ∀ {v2 : Int32} {S S' : mT}, self 1 12 v2 S = some S' → Fr (inM 999999 LX4_readEither_12) S S') (Hs2 : ∀ {v2 : Int32} {S S' : mT}, self 2 12 v2 S = some S' → Fr (inM 999999 LX4_readEither_12) S S') (Hs3 : ∀ {v2 : Int32} {S S' : mT}, self 3 12 v2 S = some S' → Fr (inM 999999 LX4_readEither_12) S S') (Hs4 : ∀ {v2 : Int32} {S S' : mT}, self 4 12 v2 S = some S' → Fr (inM 999999 LX4_readEither_12) S S') (Hs5 : ∀ {v2 : Int32} {S S' : mT}, self 5 12 v2 S = some S' → Fr (inM 999999 LX4_readEither_12) S S') {S' : mT} {v2 : Int32} {S : mT} (hf : fX4_readEither_0 12 self v2 S = some S') : Fr (inM 999999 LX4_readEither_12) S S' := by
  unfold fX4_readEither_0 at hf
  obtain ⟨S1, hq, hf⟩ := bndV_ex hf
  have F := (Fr.rfl (inM 999999 LX4_readEither_12) _).trans (Hs1 hq)
  exact F.trans (rX4_readEither_8_12 Hs0 Hs1 Hs2 Hs3 Hs4 Hs5 _ _ _ _ hf)
abbrev LP_15 : List (Nat × Nat × Option Nat) := [(999999, 999999, none), (1, 1, some 2), (1, 1, some 3), (1, 1, some 4), (1, 1, some 5), (1, 1, some 6), (1, 1, some 7), (1, 1, some 8), (1, 1, some 9), (15, 15, some 2), (15, 15, some 3), (16, 16, none)]
abbrev LX4_readEither_15 : List (Nat × Nat × Option Nat) := LP_15
theorem rX4_readEither_47_15 {self : Nat → Nat → Int32 → mT → Option (mT)} (Hs0 : ∀ {v2 : Int32} {S S' : mT}, self 0 15 v2 S = some S' → Fr (inM 999999 LX4_readEither_15) S S') (Hs1 : ∀ {v2 : Int32} {S S' : mT}, self 1 15 v2 S = some S' → Fr (inM 999999 LX4_readEither_15) S S') (Hs2 : ∀ {v2 : Int32} {S S' : mT}, self 2 15 v2 S = some S' → Fr (inM 999999 LX4_readEither_15) S S') (Hs3 : ∀ {v2 : Int32} {S S' : mT}, self 3 15 v2 S = some S' → Fr (inM 999999 LX4_readEither_15) S S') (Hs4 : ∀ {v2 : Int32} {S S' : mT}, self 4 15 v2 S = some S' → Fr (inM 999999 LX4_readEither_15) S S') (Hs5 : ∀ {v2 : Int32} {S S' : mT}, self 5 15 v2 S = some S' → Fr (inM 999999 LX4_readEither_15) S S') {S' : mT} {S : mT} (hf : fX4_readEither_47 15 self S = some S') : Fr (inM 999999 LX4_readEither_15) S S' := by
  unfold fX4_readEither_47 at hf
  cases hf
  exact (Fr.rfl (inM 999999 LX4_readEither_15) _)
theorem rX4_readEither_8_15 {self : Nat → Nat → Int32 → mT → Option (mT)} (Hs0 : ∀ {v2 : Int32} {S S' : mT}, self 0 15 v2 S = some S' → Fr (inM 999999 LX4_readEither_15) S S') (Hs1 : ∀ {v2 : Int32} {S S' : mT}, self 1 15 v2 S = some S' → Fr (inM 999999 LX4_readEither_15) S S') (Hs2 : ∀ {v2 : Int32} {S S' : mT}, self 2 15 v2 S = some S' → Fr (inM 999999 LX4_readEither_15) S S') (Hs3 : ∀ {v2 : Int32} {S S' : mT}, self 3 15 v2 S = some S' → Fr (inM 999999 LX4_readEither_15) S S') (Hs4 : ∀ {v2 : Int32} {S S' : mT}, self 4 15 v2 S = some S' → Fr (inM 999999 LX4_readEither_15) S S') (Hs5 : ∀ {v2 : Int32} {S S' : mT}, self 5 15 v2 S = some S' → Fr (inM 999999 LX4_readEither_15) S S') {S' : mT} : ∀ (k : Nat) (v2 : Int32) (v3 : Int32) (S : mT), fX4_readEither_8 15 self k v2 v3 S = some S' → Fr (inM 999999 LX4_readEither_15) S S' := by
  intro k
  induction k with
  | zero =>
    intro v2 v3 S hf
    cases hf
  | succ k ih =>
    intro v2 v3 S hf
    unfold fX4_readEither_8 at hf
    by_cases hc : (1600 : Int32) ≤ v3
    · rw [if_pos hc] at hf
      exact (Fr.rfl (inM 999999 LX4_readEither_15) _).trans (rX4_readEither_47_15 Hs0 Hs1 Hs2 Hs3 Hs4 Hs5 hf)
    · rw [if_neg hc] at hf
      obtain ⟨x3, S2, hq, hf⟩ := bndC_ex hf
      have F := (Fr.rfl (inM 999999 LX4_readEither_15) _).trans ((rX4_isWord_900009 hq).mono rfl (fun _ => rfl))
      by_cases hc : x3 = 0
      · rw [if_pos hc] at hf
        exact F.trans (rX4_readEither_47_15 Hs0 Hs1 Hs2 Hs3 Hs4 Hs5 hf)
      · rw [if_neg hc] at hf
        obtain ⟨S4, hq, hf⟩ := bndV_ex hf
        have F := F.trans ((rX4_advance hq).mono rfl (fun _ => rfl))
        obtain ⟨S5, hq, hf⟩ := bndV_ex hf
        have F := F.trans (Hs1 hq)
        obtain ⟨S6, hq, hf⟩ := bndV_ex hf
        have F := F.trans ((rX0_add_15 hq).mono rfl (fun _ => rfl))
        obtain ⟨x7, -, hf⟩ := bnd_ex hf
        exact F.trans (ih _ _ _ hf)
theorem rX4_readEither_0_15 {self : Nat → Nat → Int32 → mT → Option (mT)} (Hs0 : ∀ {v2 : Int32} {S S' : mT}, self 0 15 v2 S = some S' → Fr (inM 999999 LX4_readEither_15) S S') (Hs1 : ∀ {v2 : Int32} {S S' : mT}, self 1 15 v2 S = some S' → Fr (inM 999999 LX4_readEither_15) S S') (Hs2 : ∀ {v2 : Int32} {S S' : mT}, self 2 15 v2 S = some S' → Fr (inM 999999 LX4_readEither_15) S S') (Hs3 : ∀ {v2 : Int32} {S S' : mT}, self 3 15 v2 S = some S' → Fr (inM 999999 LX4_readEither_15) S S') (Hs4 : ∀ {v2 : Int32} {S S' : mT}, self 4 15 v2 S = some S' → Fr (inM 999999 LX4_readEither_15) S S') (Hs5 : ∀ {v2 : Int32} {S S' : mT}, self 5 15 v2 S = some S' → Fr (inM 999999 LX4_readEither_15) S S') {S' : mT} {v2 : Int32} {S : mT} (hf : fX4_readEither_0 15 self v2 S = some S') : Fr (inM 999999 LX4_readEither_15) S S' := by
  unfold fX4_readEither_0 at hf
  obtain ⟨S1, hq, hf⟩ := bndV_ex hf
  have F := (Fr.rfl (inM 999999 LX4_readEither_15) _).trans (Hs1 hq)
  exact F.trans (rX4_readEither_8_15 Hs0 Hs1 Hs2 Hs3 Hs4 Hs5 _ _ _ _ hf)
abbrev LP_25 : List (Nat × Nat × Option Nat) := [(999999, 999999, none), (1, 1, some 2), (1, 1, some 3), (1, 1, some 4), (1, 1, some 5), (1, 1, some 6), (1, 1, some 7), (1, 1, some 8), (1, 1, some 9), (25, 25, some 2), (25, 25, some 3), (26, 26, none)]
abbrev LX4_readEither_25 : List (Nat × Nat × Option Nat) := LP_25
theorem rX4_readEither_47_25 {self : Nat → Nat → Int32 → mT → Option (mT)} (Hs0 : ∀ {v2 : Int32} {S S' : mT}, self 0 25 v2 S = some S' → Fr (inM 999999 LX4_readEither_25) S S') (Hs1 : ∀ {v2 : Int32} {S S' : mT}, self 1 25 v2 S = some S' → Fr (inM 999999 LX4_readEither_25) S S') (Hs2 : ∀ {v2 : Int32} {S S' : mT}, self 2 25 v2 S = some S' → Fr (inM 999999 LX4_readEither_25) S S') (Hs3 : ∀ {v2 : Int32} {S S' : mT}, self 3 25 v2 S = some S' → Fr (inM 999999 LX4_readEither_25) S S') (Hs4 : ∀ {v2 : Int32} {S S' : mT}, self 4 25 v2 S = some S' → Fr (inM 999999 LX4_readEither_25) S S') (Hs5 : ∀ {v2 : Int32} {S S' : mT}, self 5 25 v2 S = some S' → Fr (inM 999999 LX4_readEither_25) S S') {S' : mT} {S : mT} (hf : fX4_readEither_47 25 self S = some S') : Fr (inM 999999 LX4_readEither_25) S S' := by
  unfold fX4_readEither_47 at hf
  cases hf
  exact (Fr.rfl (inM 999999 LX4_readEither_25) _)
theorem rX4_readEither_8_25 {self : Nat → Nat → Int32 → mT → Option (mT)} (Hs0 : ∀ {v2 : Int32} {S S' : mT}, self 0 25 v2 S = some S' → Fr (inM 999999 LX4_readEither_25) S S') (Hs1 : ∀ {v2 : Int32} {S S' : mT}, self 1 25 v2 S = some S' → Fr (inM 999999 LX4_readEither_25) S S') (Hs2 : ∀ {v2 : Int32} {S S' : mT}, self 2 25 v2 S = some S' → Fr (inM 999999 LX4_readEither_25) S S') (Hs3 : ∀ {v2 : Int32} {S S' : mT}, self 3 25 v2 S = some S' → Fr (inM 999999 LX4_readEither_25) S S') (Hs4 : ∀ {v2 : Int32} {S S' : mT}, self 4 25 v2 S = some S' → Fr (inM 999999 LX4_readEither_25) S S') (Hs5 : ∀ {v2 : Int32} {S S' : mT}, self 5 25 v2 S = some S' → Fr (inM 999999 LX4_readEither_25) S S') {S' : mT} : ∀ (k : Nat) (v2 : Int32) (v3 : Int32) (S : mT), fX4_readEither_8 25 self k v2 v3 S = some S' → Fr (inM 999999 LX4_readEither_25) S S' := by
  intro k
  induction k with
  | zero =>
    intro v2 v3 S hf
    cases hf
  | succ k ih =>
    intro v2 v3 S hf
    unfold fX4_readEither_8 at hf
    by_cases hc : (1600 : Int32) ≤ v3
    · rw [if_pos hc] at hf
      exact (Fr.rfl (inM 999999 LX4_readEither_25) _).trans (rX4_readEither_47_25 Hs0 Hs1 Hs2 Hs3 Hs4 Hs5 hf)
    · rw [if_neg hc] at hf
      obtain ⟨x3, S2, hq, hf⟩ := bndC_ex hf
      have F := (Fr.rfl (inM 999999 LX4_readEither_25) _).trans ((rX4_isWord_900009 hq).mono rfl (fun _ => rfl))
      by_cases hc : x3 = 0
      · rw [if_pos hc] at hf
        exact F.trans (rX4_readEither_47_25 Hs0 Hs1 Hs2 Hs3 Hs4 Hs5 hf)
      · rw [if_neg hc] at hf
        obtain ⟨S4, hq, hf⟩ := bndV_ex hf
        have F := F.trans ((rX4_advance hq).mono rfl (fun _ => rfl))
        obtain ⟨S5, hq, hf⟩ := bndV_ex hf
        have F := F.trans (Hs1 hq)
        obtain ⟨S6, hq, hf⟩ := bndV_ex hf
        have F := F.trans ((rX0_add_25 hq).mono rfl (fun _ => rfl))
        obtain ⟨x7, -, hf⟩ := bnd_ex hf
        exact F.trans (ih _ _ _ hf)
theorem rX4_readEither_0_25 {self : Nat → Nat → Int32 → mT → Option (mT)} (Hs0 : ∀ {v2 : Int32} {S S' : mT}, self 0 25 v2 S = some S' → Fr (inM 999999 LX4_readEither_25) S S') (Hs1 : ∀ {v2 : Int32} {S S' : mT}, self 1 25 v2 S = some S' → Fr (inM 999999 LX4_readEither_25) S S') (Hs2 : ∀ {v2 : Int32} {S S' : mT}, self 2 25 v2 S = some S' → Fr (inM 999999 LX4_readEither_25) S S') (Hs3 : ∀ {v2 : Int32} {S S' : mT}, self 3 25 v2 S = some S' → Fr (inM 999999 LX4_readEither_25) S S') (Hs4 : ∀ {v2 : Int32} {S S' : mT}, self 4 25 v2 S = some S' → Fr (inM 999999 LX4_readEither_25) S S') (Hs5 : ∀ {v2 : Int32} {S S' : mT}, self 5 25 v2 S = some S' → Fr (inM 999999 LX4_readEither_25) S S') {S' : mT} {v2 : Int32} {S : mT} (hf : fX4_readEither_0 25 self v2 S = some S') : Fr (inM 999999 LX4_readEither_25) S S' := by
  unfold fX4_readEither_0 at hf
  obtain ⟨S1, hq, hf⟩ := bndV_ex hf
  have F := (Fr.rfl (inM 999999 LX4_readEither_25) _).trans (Hs1 hq)
  exact F.trans (rX4_readEither_8_25 Hs0 Hs1 Hs2 Hs3 Hs4 Hs5 _ _ _ _ hf)
abbrev LP_28 : List (Nat × Nat × Option Nat) := [(999999, 999999, none), (1, 1, some 2), (1, 1, some 3), (1, 1, some 4), (1, 1, some 5), (1, 1, some 6), (1, 1, some 7), (1, 1, some 8), (1, 1, some 9), (28, 28, some 2), (28, 28, some 3), (29, 29, none)]
abbrev LX4_readEither_28 : List (Nat × Nat × Option Nat) := LP_28
theorem rX4_readEither_47_28 {self : Nat → Nat → Int32 → mT → Option (mT)} (Hs0 : ∀ {v2 : Int32} {S S' : mT}, self 0 28 v2 S = some S' → Fr (inM 999999 LX4_readEither_28) S S') (Hs1 : ∀ {v2 : Int32} {S S' : mT}, self 1 28 v2 S = some S' → Fr (inM 999999 LX4_readEither_28) S S') (Hs2 : ∀ {v2 : Int32} {S S' : mT}, self 2 28 v2 S = some S' → Fr (inM 999999 LX4_readEither_28) S S') (Hs3 : ∀ {v2 : Int32} {S S' : mT}, self 3 28 v2 S = some S' → Fr (inM 999999 LX4_readEither_28) S S') (Hs4 : ∀ {v2 : Int32} {S S' : mT}, self 4 28 v2 S = some S' → Fr (inM 999999 LX4_readEither_28) S S') (Hs5 : ∀ {v2 : Int32} {S S' : mT}, self 5 28 v2 S = some S' → Fr (inM 999999 LX4_readEither_28) S S') {S' : mT} {S : mT} (hf : fX4_readEither_47 28 self S = some S') : Fr (inM 999999 LX4_readEither_28) S S' := by
  unfold fX4_readEither_47 at hf
  cases hf
  exact (Fr.rfl (inM 999999 LX4_readEither_28) _)
theorem rX4_readEither_8_28 {self : Nat → Nat → Int32 → mT → Option (mT)} (Hs0 : ∀ {v2 : Int32} {S S' : mT}, self 0 28 v2 S = some S' → Fr (inM 999999 LX4_readEither_28) S S') (Hs1 : ∀ {v2 : Int32} {S S' : mT}, self 1 28 v2 S = some S' → Fr (inM 999999 LX4_readEither_28) S S') (Hs2 : ∀ {v2 : Int32} {S S' : mT}, self 2 28 v2 S = some S' → Fr (inM 999999 LX4_readEither_28) S S') (Hs3 : ∀ {v2 : Int32} {S S' : mT}, self 3 28 v2 S = some S' → Fr (inM 999999 LX4_readEither_28) S S') (Hs4 : ∀ {v2 : Int32} {S S' : mT}, self 4 28 v2 S = some S' → Fr (inM 999999 LX4_readEither_28) S S') (Hs5 : ∀ {v2 : Int32} {S S' : mT}, self 5 28 v2 S = some S' → Fr (inM 999999 LX4_readEither_28) S S') {S' : mT} : ∀ (k : Nat) (v2 : Int32) (v3 : Int32) (S : mT), fX4_readEither_8 28 self k v2 v3 S = some S' → Fr (inM 999999 LX4_readEither_28) S S' := by
  intro k
  induction k with
  | zero =>
    intro v2 v3 S hf
    cases hf
  | succ k ih =>
    intro v2 v3 S hf
    unfold fX4_readEither_8 at hf
    by_cases hc : (1600 : Int32) ≤ v3
    · rw [if_pos hc] at hf
      exact (Fr.rfl (inM 999999 LX4_readEither_28) _).trans (rX4_readEither_47_28 Hs0 Hs1 Hs2 Hs3 Hs4 Hs5 hf)
    · rw [if_neg hc] at hf
      obtain ⟨x3, S2, hq, hf⟩ := bndC_ex hf
      have F := (Fr.rfl (inM 999999 LX4_readEither_28) _).trans ((rX4_isWord_900009 hq).mono rfl (fun _ => rfl))
      by_cases hc : x3 = 0
      · rw [if_pos hc] at hf
        exact F.trans (rX4_readEither_47_28 Hs0 Hs1 Hs2 Hs3 Hs4 Hs5 hf)
      · rw [if_neg hc] at hf
        obtain ⟨S4, hq, hf⟩ := bndV_ex hf
        have F := F.trans ((rX4_advance hq).mono rfl (fun _ => rfl))
        obtain ⟨S5, hq, hf⟩ := bndV_ex hf
        have F := F.trans (Hs1 hq)
        obtain ⟨S6, hq, hf⟩ := bndV_ex hf
        have F := F.trans ((rX0_add_28 hq).mono rfl (fun _ => rfl))
        obtain ⟨x7, -, hf⟩ := bnd_ex hf
        exact F.trans (ih _ _ _ hf)
theorem rX4_readEither_0_28 {self : Nat → Nat → Int32 → mT → Option (mT)} (Hs0 : ∀ {v2 : Int32} {S S' : mT}, self 0 28 v2 S = some S' → Fr (inM 999999 LX4_readEither_28) S S') (Hs1 : ∀ {v2 : Int32} {S S' : mT}, self 1 28 v2 S = some S' → Fr (inM 999999 LX4_readEither_28) S S') (Hs2 : ∀ {v2 : Int32} {S S' : mT}, self 2 28 v2 S = some S' → Fr (inM 999999 LX4_readEither_28) S S') (Hs3 : ∀ {v2 : Int32} {S S' : mT}, self 3 28 v2 S = some S' → Fr (inM 999999 LX4_readEither_28) S S') (Hs4 : ∀ {v2 : Int32} {S S' : mT}, self 4 28 v2 S = some S' → Fr (inM 999999 LX4_readEither_28) S S') (Hs5 : ∀ {v2 : Int32} {S S' : mT}, self 5 28 v2 S = some S' → Fr (inM 999999 LX4_readEither_28) S S') {S' : mT} {v2 : Int32} {S : mT} (hf : fX4_readEither_0 28 self v2 S = some S') : Fr (inM 999999 LX4_readEither_28) S S' := by
  unfold fX4_readEither_0 at hf
  obtain ⟨S1, hq, hf⟩ := bndV_ex hf
  have F := (Fr.rfl (inM 999999 LX4_readEither_28) _).trans (Hs1 hq)
  exact F.trans (rX4_readEither_8_28 Hs0 Hs1 Hs2 Hs3 Hs4 Hs5 _ _ _ _ hf)
abbrev LP_31 : List (Nat × Nat × Option Nat) := [(999999, 999999, none), (1, 1, some 2), (1, 1, some 3), (1, 1, some 4), (1, 1, some 5), (1, 1, some 6), (1, 1, some 7), (1, 1, some 8), (1, 1, some 9), (31, 31, some 2), (31, 31, some 3), (32, 32, none)]
abbrev LX4_readEither_31 : List (Nat × Nat × Option Nat) := LP_31
theorem rX4_readEither_47_31 {self : Nat → Nat → Int32 → mT → Option (mT)} (Hs0 : ∀ {v2 : Int32} {S S' : mT}, self 0 31 v2 S = some S' → Fr (inM 999999 LX4_readEither_31) S S') (Hs1 : ∀ {v2 : Int32} {S S' : mT}, self 1 31 v2 S = some S' → Fr (inM 999999 LX4_readEither_31) S S') (Hs2 : ∀ {v2 : Int32} {S S' : mT}, self 2 31 v2 S = some S' → Fr (inM 999999 LX4_readEither_31) S S') (Hs3 : ∀ {v2 : Int32} {S S' : mT}, self 3 31 v2 S = some S' → Fr (inM 999999 LX4_readEither_31) S S') (Hs4 : ∀ {v2 : Int32} {S S' : mT}, self 4 31 v2 S = some S' → Fr (inM 999999 LX4_readEither_31) S S') (Hs5 : ∀ {v2 : Int32} {S S' : mT}, self 5 31 v2 S = some S' → Fr (inM 999999 LX4_readEither_31) S S') {S' : mT} {S : mT} (hf : fX4_readEither_47 31 self S = some S') : Fr (inM 999999 LX4_readEither_31) S S' := by
  unfold fX4_readEither_47 at hf
  cases hf
  exact (Fr.rfl (inM 999999 LX4_readEither_31) _)
theorem rX4_readEither_8_31 {self : Nat → Nat → Int32 → mT → Option (mT)} (Hs0 : ∀ {v2 : Int32} {S S' : mT}, self 0 31 v2 S = some S' → Fr (inM 999999 LX4_readEither_31) S S') (Hs1 : ∀ {v2 : Int32} {S S' : mT}, self 1 31 v2 S = some S' → Fr (inM 999999 LX4_readEither_31) S S') (Hs2 : ∀ {v2 : Int32} {S S' : mT}, self 2 31 v2 S = some S' → Fr (inM 999999 LX4_readEither_31) S S') (Hs3 : ∀ {v2 : Int32} {S S' : mT}, self 3 31 v2 S = some S' → Fr (inM 999999 LX4_readEither_31) S S') (Hs4 : ∀ {v2 : Int32} {S S' : mT}, self 4 31 v2 S = some S' → Fr (inM 999999 LX4_readEither_31) S S') (Hs5 : ∀ {v2 : Int32} {S S' : mT}, self 5 31 v2 S = some S' → Fr (inM 999999 LX4_readEither_31) S S') {S' : mT} : ∀ (k : Nat) (v2 : Int32) (v3 : Int32) (S : mT), fX4_readEither_8 31 self k v2 v3 S = some S' → Fr (inM 999999 LX4_readEither_31) S S' := by
  intro k
  induction k with
  | zero =>
    intro v2 v3 S hf
    cases hf
  | succ k ih =>
    intro v2 v3 S hf
    unfold fX4_readEither_8 at hf
    by_cases hc : (1600 : Int32) ≤ v3
    · rw [if_pos hc] at hf
      exact (Fr.rfl (inM 999999 LX4_readEither_31) _).trans (rX4_readEither_47_31 Hs0 Hs1 Hs2 Hs3 Hs4 Hs5 hf)
    · rw [if_neg hc] at hf
      obtain ⟨x3, S2, hq, hf⟩ := bndC_ex hf
      have F := (Fr.rfl (inM 999999 LX4_readEither_31) _).trans ((rX4_isWord_900009 hq).mono rfl (fun _ => rfl))
      by_cases hc : x3 = 0
      · rw [if_pos hc] at hf
        exact F.trans (rX4_readEither_47_31 Hs0 Hs1 Hs2 Hs3 Hs4 Hs5 hf)
      · rw [if_neg hc] at hf
        obtain ⟨S4, hq, hf⟩ := bndV_ex hf
        have F := F.trans ((rX4_advance hq).mono rfl (fun _ => rfl))
        obtain ⟨S5, hq, hf⟩ := bndV_ex hf
        have F := F.trans (Hs1 hq)
        obtain ⟨S6, hq, hf⟩ := bndV_ex hf
        have F := F.trans ((rX0_add_31 hq).mono rfl (fun _ => rfl))
        obtain ⟨x7, -, hf⟩ := bnd_ex hf
        exact F.trans (ih _ _ _ hf)
theorem rX4_readEither_0_31 {self : Nat → Nat → Int32 → mT → Option (mT)} (Hs0 : ∀ {v2 : Int32} {S S' : mT}, self 0 31 v2 S = some S' → Fr (inM 999999 LX4_readEither_31) S S') (Hs1 : ∀ {v2 : Int32} {S S' : mT}, self 1 31 v2 S = some S' → Fr (inM 999999 LX4_readEither_31) S S') (Hs2 : ∀ {v2 : Int32} {S S' : mT}, self 2 31 v2 S = some S' → Fr (inM 999999 LX4_readEither_31) S S') (Hs3 : ∀ {v2 : Int32} {S S' : mT}, self 3 31 v2 S = some S' → Fr (inM 999999 LX4_readEither_31) S S') (Hs4 : ∀ {v2 : Int32} {S S' : mT}, self 4 31 v2 S = some S' → Fr (inM 999999 LX4_readEither_31) S S') (Hs5 : ∀ {v2 : Int32} {S S' : mT}, self 5 31 v2 S = some S' → Fr (inM 999999 LX4_readEither_31) S S') {S' : mT} {v2 : Int32} {S : mT} (hf : fX4_readEither_0 31 self v2 S = some S') : Fr (inM 999999 LX4_readEither_31) S S' := by
  unfold fX4_readEither_0 at hf
  obtain ⟨S1, hq, hf⟩ := bndV_ex hf
  have F := (Fr.rfl (inM 999999 LX4_readEither_31) _).trans (Hs1 hq)
  exact F.trans (rX4_readEither_8_31 Hs0 Hs1 Hs2 Hs3 Hs4 Hs5 _ _ _ _ hf)
abbrev LX4_readBoth_9 : List (Nat × Nat × Option Nat) := LP_9
theorem rX4_readBoth_47_9 {self : Nat → Nat → Int32 → mT → Option (mT)} (Hs0 : ∀ {v2 : Int32} {S S' : mT}, self 0 9 v2 S = some S' → Fr (inM 999999 LX4_readBoth_9) S S') (Hs1 : ∀ {v2 : Int32} {S S' : mT}, self 1 9 v2 S = some S' → Fr (inM 999999 LX4_readBoth_9) S S') (Hs2 : ∀ {v2 : Int32} {S S' : mT}, self 2 9 v2 S = some S' → Fr (inM 999999 LX4_readBoth_9) S S') (Hs3 : ∀ {v2 : Int32} {S S' : mT}, self 3 9 v2 S = some S' → Fr (inM 999999 LX4_readBoth_9) S S') (Hs4 : ∀ {v2 : Int32} {S S' : mT}, self 4 9 v2 S = some S' → Fr (inM 999999 LX4_readBoth_9) S S') (Hs5 : ∀ {v2 : Int32} {S S' : mT}, self 5 9 v2 S = some S' → Fr (inM 999999 LX4_readBoth_9) S S') {S' : mT} {S : mT} (hf : fX4_readBoth_47 9 self S = some S') : Fr (inM 999999 LX4_readBoth_9) S S' := by
  unfold fX4_readBoth_47 at hf
  cases hf
  exact (Fr.rfl (inM 999999 LX4_readBoth_9) _)
theorem rX4_readBoth_8_9 {self : Nat → Nat → Int32 → mT → Option (mT)} (Hs0 : ∀ {v2 : Int32} {S S' : mT}, self 0 9 v2 S = some S' → Fr (inM 999999 LX4_readBoth_9) S S') (Hs1 : ∀ {v2 : Int32} {S S' : mT}, self 1 9 v2 S = some S' → Fr (inM 999999 LX4_readBoth_9) S S') (Hs2 : ∀ {v2 : Int32} {S S' : mT}, self 2 9 v2 S = some S' → Fr (inM 999999 LX4_readBoth_9) S S') (Hs3 : ∀ {v2 : Int32} {S S' : mT}, self 3 9 v2 S = some S' → Fr (inM 999999 LX4_readBoth_9) S S') (Hs4 : ∀ {v2 : Int32} {S S' : mT}, self 4 9 v2 S = some S' → Fr (inM 999999 LX4_readBoth_9) S S') (Hs5 : ∀ {v2 : Int32} {S S' : mT}, self 5 9 v2 S = some S' → Fr (inM 999999 LX4_readBoth_9) S S') {S' : mT} : ∀ (k : Nat) (v2 : Int32) (v3 : Int32) (S : mT), fX4_readBoth_8 9 self k v2 v3 S = some S' → Fr (inM 999999 LX4_readBoth_9) S S' := by
  intro k
  induction k with
  | zero =>
    intro v2 v3 S hf
    cases hf
  | succ k ih =>
    intro v2 v3 S hf
    unfold fX4_readBoth_8 at hf
    by_cases hc : (1600 : Int32) ≤ v3
    · rw [if_pos hc] at hf
      exact (Fr.rfl (inM 999999 LX4_readBoth_9) _).trans (rX4_readBoth_47_9 Hs0 Hs1 Hs2 Hs3 Hs4 Hs5 hf)
    · rw [if_neg hc] at hf
      obtain ⟨x3, S2, hq, hf⟩ := bndC_ex hf
      have F := (Fr.rfl (inM 999999 LX4_readBoth_9) _).trans ((rX4_isWord_900010 hq).mono rfl (fun _ => rfl))
      by_cases hc : x3 = 0
      · rw [if_pos hc] at hf
        exact F.trans (rX4_readBoth_47_9 Hs0 Hs1 Hs2 Hs3 Hs4 Hs5 hf)
      · rw [if_neg hc] at hf
        obtain ⟨S4, hq, hf⟩ := bndV_ex hf
        have F := F.trans ((rX4_advance hq).mono rfl (fun _ => rfl))
        obtain ⟨S5, hq, hf⟩ := bndV_ex hf
        have F := F.trans (Hs2 hq)
        obtain ⟨S6, hq, hf⟩ := bndV_ex hf
        have F := F.trans ((rX0_add_9 hq).mono rfl (fun _ => rfl))
        obtain ⟨x7, -, hf⟩ := bnd_ex hf
        exact F.trans (ih _ _ _ hf)
theorem rX4_readBoth_0_9 {self : Nat → Nat → Int32 → mT → Option (mT)} (Hs0 : ∀ {v2 : Int32} {S S' : mT}, self 0 9 v2 S = some S' → Fr (inM 999999 LX4_readBoth_9) S S') (Hs1 : ∀ {v2 : Int32} {S S' : mT}, self 1 9 v2 S = some S' → Fr (inM 999999 LX4_readBoth_9) S S') (Hs2 : ∀ {v2 : Int32} {S S' : mT}, self 2 9 v2 S = some S' → Fr (inM 999999 LX4_readBoth_9) S S') (Hs3 : ∀ {v2 : Int32} {S S' : mT}, self 3 9 v2 S = some S' → Fr (inM 999999 LX4_readBoth_9) S S') (Hs4 : ∀ {v2 : Int32} {S S' : mT}, self 4 9 v2 S = some S' → Fr (inM 999999 LX4_readBoth_9) S S') (Hs5 : ∀ {v2 : Int32} {S S' : mT}, self 5 9 v2 S = some S' → Fr (inM 999999 LX4_readBoth_9) S S') {S' : mT} {v2 : Int32} {S : mT} (hf : fX4_readBoth_0 9 self v2 S = some S') : Fr (inM 999999 LX4_readBoth_9) S S' := by
  unfold fX4_readBoth_0 at hf
  obtain ⟨S1, hq, hf⟩ := bndV_ex hf
  have F := (Fr.rfl (inM 999999 LX4_readBoth_9) _).trans (Hs2 hq)
  exact F.trans (rX4_readBoth_8_9 Hs0 Hs1 Hs2 Hs3 Hs4 Hs5 _ _ _ _ hf)
abbrev LX4_readBoth_12 : List (Nat × Nat × Option Nat) := LP_12
theorem rX4_readBoth_47_12 {self : Nat → Nat → Int32 → mT → Option (mT)} (Hs0 : ∀ {v2 : Int32} {S S' : mT}, self 0 12 v2 S = some S' → Fr (inM 999999 LX4_readBoth_12) S S') (Hs1 : ∀ {v2 : Int32} {S S' : mT}, self 1 12 v2 S = some S' → Fr (inM 999999 LX4_readBoth_12) S S') (Hs2 : ∀ {v2 : Int32} {S S' : mT}, self 2 12 v2 S = some S' → Fr (inM 999999 LX4_readBoth_12) S S') (Hs3 : ∀ {v2 : Int32} {S S' : mT}, self 3 12 v2 S = some S' → Fr (inM 999999 LX4_readBoth_12) S S') (Hs4 : ∀ {v2 : Int32} {S S' : mT}, self 4 12 v2 S = some S' → Fr (inM 999999 LX4_readBoth_12) S S') (Hs5 : ∀ {v2 : Int32} {S S' : mT}, self 5 12 v2 S = some S' → Fr (inM 999999 LX4_readBoth_12) S S') {S' : mT} {S : mT} (hf : fX4_readBoth_47 12 self S = some S') : Fr (inM 999999 LX4_readBoth_12) S S' := by
  unfold fX4_readBoth_47 at hf
  cases hf
  exact (Fr.rfl (inM 999999 LX4_readBoth_12) _)
theorem rX4_readBoth_8_12 {self : Nat → Nat → Int32 → mT → Option (mT)} (Hs0 : ∀ {v2 : Int32} {S S' : mT}, self 0 12 v2 S = some S' → Fr (inM 999999 LX4_readBoth_12) S S') (Hs1 : ∀ {v2 : Int32} {S S' : mT}, self 1 12 v2 S = some S' → Fr (inM 999999 LX4_readBoth_12) S S') (Hs2 : ∀ {v2 : Int32} {S S' : mT}, self 2 12 v2 S = some S' → Fr (inM 999999 LX4_readBoth_12) S S') (Hs3 : ∀ {v2 : Int32} {S S' : mT}, self 3 12 v2 S = some S' → Fr (inM 999999 LX4_readBoth_12) S S') (Hs4 : ∀ {v2 : Int32} {S S' : mT}, self 4 12 v2 S = some S' → Fr (inM 999999 LX4_readBoth_12) S S') (Hs5 : ∀ {v2 : Int32} {S S' : mT}, self 5 12 v2 S = some S' → Fr (inM 999999 LX4_readBoth_12) S S') {S' : mT} : ∀ (k : Nat) (v2 : Int32) (v3 : Int32) (S : mT), fX4_readBoth_8 12 self k v2 v3 S = some S' → Fr (inM 999999 LX4_readBoth_12) S S' := by
  intro k
  induction k with
  | zero =>
    intro v2 v3 S hf
    cases hf
  | succ k ih =>
    intro v2 v3 S hf
    unfold fX4_readBoth_8 at hf
    by_cases hc : (1600 : Int32) ≤ v3
    · rw [if_pos hc] at hf
      exact (Fr.rfl (inM 999999 LX4_readBoth_12) _).trans (rX4_readBoth_47_12 Hs0 Hs1 Hs2 Hs3 Hs4 Hs5 hf)
    · rw [if_neg hc] at hf
      obtain ⟨x3, S2, hq, hf⟩ := bndC_ex hf
      have F := (Fr.rfl (inM 999999 LX4_readBoth_12) _).trans ((rX4_isWord_900010 hq).mono rfl (fun _ => rfl))
      by_cases hc : x3 = 0
      · rw [if_pos hc] at hf
        exact F.trans (rX4_readBoth_47_12 Hs0 Hs1 Hs2 Hs3 Hs4 Hs5 hf)
      · rw [if_neg hc] at hf
        obtain ⟨S4, hq, hf⟩ := bndV_ex hf
        have F := F.trans ((rX4_advance hq).mono rfl (fun _ => rfl))
        obtain ⟨S5, hq, hf⟩ := bndV_ex hf
        have F := F.trans (Hs2 hq)
        obtain ⟨S6, hq, hf⟩ := bndV_ex hf
        have F := F.trans ((rX0_add_12 hq).mono rfl (fun _ => rfl))
        obtain ⟨x7, -, hf⟩ := bnd_ex hf
        exact F.trans (ih _ _ _ hf)
theorem rX4_readBoth_0_12 {self : Nat → Nat → Int32 → mT → Option (mT)} (Hs0 : ∀ {v2 : Int32} {S S' : mT}, self 0 12 v2 S = some S' → Fr (inM 999999 LX4_readBoth_12) S S') (Hs1 : ∀ {v2 : Int32} {S S' : mT}, self 1 12 v2 S = some S' → Fr (inM 999999 LX4_readBoth_12) S S') (Hs2 : ∀ {v2 : Int32} {S S' : mT}, self 2 12 v2 S = some S' → Fr (inM 999999 LX4_readBoth_12) S S') (Hs3 : ∀ {v2 : Int32} {S S' : mT}, self 3 12 v2 S = some S' → Fr (inM 999999 LX4_readBoth_12) S S') (Hs4 : ∀ {v2 : Int32} {S S' : mT}, self 4 12 v2 S = some S' → Fr (inM 999999 LX4_readBoth_12) S S') (Hs5 : ∀ {v2 : Int32} {S S' : mT}, self 5 12 v2 S = some S' → Fr (inM 999999 LX4_readBoth_12) S S') {S' : mT} {v2 : Int32} {S : mT} (hf : fX4_readBoth_0 12 self v2 S = some S') : Fr (inM 999999 LX4_readBoth_12) S S' := by
  unfold fX4_readBoth_0 at hf
  obtain ⟨S1, hq, hf⟩ := bndV_ex hf
  have F := (Fr.rfl (inM 999999 LX4_readBoth_12) _).trans (Hs2 hq)
  exact F.trans (rX4_readBoth_8_12 Hs0 Hs1 Hs2 Hs3 Hs4 Hs5 _ _ _ _ hf)
abbrev LX4_readBoth_15 : List (Nat × Nat × Option Nat) := LP_15
theorem rX4_readBoth_47_15 {self : Nat → Nat → Int32 → mT → Option (mT)} (Hs0 : ∀ {v2 : Int32} {S S' : mT}, self 0 15 v2 S = some S' → Fr (inM 999999 LX4_readBoth_15) S S') (Hs1 : ∀ {v2 : Int32} {S S' : mT}, self 1 15 v2 S = some S' → Fr (inM 999999 LX4_readBoth_15) S S') (Hs2 : ∀ {v2 : Int32} {S S' : mT}, self 2 15 v2 S = some S' → Fr (inM 999999 LX4_readBoth_15) S S') (Hs3 : ∀ {v2 : Int32} {S S' : mT}, self 3 15 v2 S = some S' → Fr (inM 999999 LX4_readBoth_15) S S') (Hs4 : ∀ {v2 : Int32} {S S' : mT}, self 4 15 v2 S = some S' → Fr (inM 999999 LX4_readBoth_15) S S') (Hs5 : ∀ {v2 : Int32} {S S' : mT}, self 5 15 v2 S = some S' → Fr (inM 999999 LX4_readBoth_15) S S') {S' : mT} {S : mT} (hf : fX4_readBoth_47 15 self S = some S') : Fr (inM 999999 LX4_readBoth_15) S S' := by
  unfold fX4_readBoth_47 at hf
  cases hf
  exact (Fr.rfl (inM 999999 LX4_readBoth_15) _)
theorem rX4_readBoth_8_15 {self : Nat → Nat → Int32 → mT → Option (mT)} (Hs0 : ∀ {v2 : Int32} {S S' : mT}, self 0 15 v2 S = some S' → Fr (inM 999999 LX4_readBoth_15) S S') (Hs1 : ∀ {v2 : Int32} {S S' : mT}, self 1 15 v2 S = some S' → Fr (inM 999999 LX4_readBoth_15) S S') (Hs2 : ∀ {v2 : Int32} {S S' : mT}, self 2 15 v2 S = some S' → Fr (inM 999999 LX4_readBoth_15) S S') (Hs3 : ∀ {v2 : Int32} {S S' : mT}, self 3 15 v2 S = some S' → Fr (inM 999999 LX4_readBoth_15) S S') (Hs4 : ∀ {v2 : Int32} {S S' : mT}, self 4 15 v2 S = some S' → Fr (inM 999999 LX4_readBoth_15) S S') (Hs5 : ∀ {v2 : Int32} {S S' : mT}, self 5 15 v2 S = some S' → Fr (inM 999999 LX4_readBoth_15) S S') {S' : mT} : ∀ (k : Nat) (v2 : Int32) (v3 : Int32) (S : mT), fX4_readBoth_8 15 self k v2 v3 S = some S' → Fr (inM 999999 LX4_readBoth_15) S S' := by
  intro k
  induction k with
  | zero =>
    intro v2 v3 S hf
    cases hf
  | succ k ih =>
    intro v2 v3 S hf
    unfold fX4_readBoth_8 at hf
    by_cases hc : (1600 : Int32) ≤ v3
    · rw [if_pos hc] at hf
      exact (Fr.rfl (inM 999999 LX4_readBoth_15) _).trans (rX4_readBoth_47_15 Hs0 Hs1 Hs2 Hs3 Hs4 Hs5 hf)
    · rw [if_neg hc] at hf
      obtain ⟨x3, S2, hq, hf⟩ := bndC_ex hf
      have F := (Fr.rfl (inM 999999 LX4_readBoth_15) _).trans ((rX4_isWord_900010 hq).mono rfl (fun _ => rfl))
      by_cases hc : x3 = 0
      · rw [if_pos hc] at hf
        exact F.trans (rX4_readBoth_47_15 Hs0 Hs1 Hs2 Hs3 Hs4 Hs5 hf)
      · rw [if_neg hc] at hf
        obtain ⟨S4, hq, hf⟩ := bndV_ex hf
        have F := F.trans ((rX4_advance hq).mono rfl (fun _ => rfl))
        obtain ⟨S5, hq, hf⟩ := bndV_ex hf
        have F := F.trans (Hs2 hq)
        obtain ⟨S6, hq, hf⟩ := bndV_ex hf
        have F := F.trans ((rX0_add_15 hq).mono rfl (fun _ => rfl))
        obtain ⟨x7, -, hf⟩ := bnd_ex hf
        exact F.trans (ih _ _ _ hf)
theorem rX4_readBoth_0_15 {self : Nat → Nat → Int32 → mT → Option (mT)} (Hs0 : ∀ {v2 : Int32} {S S' : mT}, self 0 15 v2 S = some S' → Fr (inM 999999 LX4_readBoth_15) S S') (Hs1 : ∀ {v2 : Int32} {S S' : mT}, self 1 15 v2 S = some S' → Fr (inM 999999 LX4_readBoth_15) S S') (Hs2 : ∀ {v2 : Int32} {S S' : mT}, self 2 15 v2 S = some S' → Fr (inM 999999 LX4_readBoth_15) S S') (Hs3 : ∀ {v2 : Int32} {S S' : mT}, self 3 15 v2 S = some S' → Fr (inM 999999 LX4_readBoth_15) S S') (Hs4 : ∀ {v2 : Int32} {S S' : mT}, self 4 15 v2 S = some S' → Fr (inM 999999 LX4_readBoth_15) S S') (Hs5 : ∀ {v2 : Int32} {S S' : mT}, self 5 15 v2 S = some S' → Fr (inM 999999 LX4_readBoth_15) S S') {S' : mT} {v2 : Int32} {S : mT} (hf : fX4_readBoth_0 15 self v2 S = some S') : Fr (inM 999999 LX4_readBoth_15) S S' := by
  unfold fX4_readBoth_0 at hf
  obtain ⟨S1, hq, hf⟩ := bndV_ex hf
  have F := (Fr.rfl (inM 999999 LX4_readBoth_15) _).trans (Hs2 hq)
  exact F.trans (rX4_readBoth_8_15 Hs0 Hs1 Hs2 Hs3 Hs4 Hs5 _ _ _ _ hf)
abbrev LX4_readBoth_25 : List (Nat × Nat × Option Nat) := LP_25
theorem rX4_readBoth_47_25 {self : Nat → Nat → Int32 → mT → Option (mT)} (Hs0 : ∀ {v2 : Int32} {S S' : mT}, self 0 25 v2 S = some S' → Fr (inM 999999 LX4_readBoth_25) S S') (Hs1 : ∀ {v2 : Int32} {S S' : mT}, self 1 25 v2 S = some S' → Fr (inM 999999 LX4_readBoth_25) S S') (Hs2 : ∀ {v2 : Int32} {S S' : mT}, self 2 25 v2 S = some S' → Fr (inM 999999 LX4_readBoth_25) S S') (Hs3 : ∀ {v2 : Int32} {S S' : mT}, self 3 25 v2 S = some S' → Fr (inM 999999 LX4_readBoth_25) S S') (Hs4 : ∀ {v2 : Int32} {S S' : mT}, self 4 25 v2 S = some S' → Fr (inM 999999 LX4_readBoth_25) S S') (Hs5 : ∀ {v2 : Int32} {S S' : mT}, self 5 25 v2 S = some S' → Fr (inM 999999 LX4_readBoth_25) S S') {S' : mT} {S : mT} (hf : fX4_readBoth_47 25 self S = some S') : Fr (inM 999999 LX4_readBoth_25) S S' := by
  unfold fX4_readBoth_47 at hf
  cases hf
  exact (Fr.rfl (inM 999999 LX4_readBoth_25) _)
theorem rX4_readBoth_8_25 {self : Nat → Nat → Int32 → mT → Option (mT)} (Hs0 : ∀ {v2 : Int32} {S S' : mT}, self 0 25 v2 S = some S' → Fr (inM 999999 LX4_readBoth_25) S S') (Hs1 : ∀ {v2 : Int32} {S S' : mT}, self 1 25 v2 S = some S' → Fr (inM 999999 LX4_readBoth_25) S S') (Hs2 : ∀ {v2 : Int32} {S S' : mT}, self 2 25 v2 S = some S' → Fr (inM 999999 LX4_readBoth_25) S S') (Hs3 : ∀ {v2 : Int32} {S S' : mT}, self 3 25 v2 S = some S' → Fr (inM 999999 LX4_readBoth_25) S S') (Hs4 : ∀ {v2 : Int32} {S S' : mT}, self 4 25 v2 S = some S' → Fr (inM 999999 LX4_readBoth_25) S S') (Hs5 : ∀ {v2 : Int32} {S S' : mT}, self 5 25 v2 S = some S' → Fr (inM 999999 LX4_readBoth_25) S S') {S' : mT} : ∀ (k : Nat) (v2 : Int32) (v3 : Int32) (S : mT), fX4_readBoth_8 25 self k v2 v3 S = some S' → Fr (inM 999999 LX4_readBoth_25) S S' := by
  intro k
  induction k with
  | zero =>
    intro v2 v3 S hf
    cases hf
  | succ k ih =>
    intro v2 v3 S hf
    unfold fX4_readBoth_8 at hf
    by_cases hc : (1600 : Int32) ≤ v3
    · rw [if_pos hc] at hf
      exact (Fr.rfl (inM 999999 LX4_readBoth_25) _).trans (rX4_readBoth_47_25 Hs0 Hs1 Hs2 Hs3 Hs4 Hs5 hf)
    · rw [if_neg hc] at hf
      obtain ⟨x3, S2, hq, hf⟩ := bndC_ex hf
      have F := (Fr.rfl (inM 999999 LX4_readBoth_25) _).trans ((rX4_isWord_900010 hq).mono rfl (fun _ => rfl))
      by_cases hc : x3 = 0
      · rw [if_pos hc] at hf
        exact F.trans (rX4_readBoth_47_25 Hs0 Hs1 Hs2 Hs3 Hs4 Hs5 hf)
      · rw [if_neg hc] at hf
        obtain ⟨S4, hq, hf⟩ := bndV_ex hf
        have F := F.trans ((rX4_advance hq).mono rfl (fun _ => rfl))
        obtain ⟨S5, hq, hf⟩ := bndV_ex hf
        have F := F.trans (Hs2 hq)
        obtain ⟨S6, hq, hf⟩ := bndV_ex hf
        have F := F.trans ((rX0_add_25 hq).mono rfl (fun _ => rfl))
        obtain ⟨x7, -, hf⟩ := bnd_ex hf
        exact F.trans (ih _ _ _ hf)
theorem rX4_readBoth_0_25 {self : Nat → Nat → Int32 → mT → Option (mT)} (Hs0 : ∀ {v2 : Int32} {S S' : mT}, self 0 25 v2 S = some S' → Fr (inM 999999 LX4_readBoth_25) S S') (Hs1 : ∀ {v2 : Int32} {S S' : mT}, self 1 25 v2 S = some S' → Fr (inM 999999 LX4_readBoth_25) S S') (Hs2 : ∀ {v2 : Int32} {S S' : mT}, self 2 25 v2 S = some S' → Fr (inM 999999 LX4_readBoth_25) S S') (Hs3 : ∀ {v2 : Int32} {S S' : mT}, self 3 25 v2 S = some S' → Fr (inM 999999 LX4_readBoth_25) S S') (Hs4 : ∀ {v2 : Int32} {S S' : mT}, self 4 25 v2 S = some S' → Fr (inM 999999 LX4_readBoth_25) S S') (Hs5 : ∀ {v2 : Int32} {S S' : mT}, self 5 25 v2 S = some S' → Fr (inM 999999 LX4_readBoth_25) S S') {S' : mT} {v2 : Int32} {S : mT} (hf : fX4_readBoth_0 25 self v2 S = some S') : Fr (inM 999999 LX4_readBoth_25) S S' := by
  unfold fX4_readBoth_0 at hf
  obtain ⟨S1, hq, hf⟩ := bndV_ex hf
  have F := (Fr.rfl (inM 999999 LX4_readBoth_25) _).trans (Hs2 hq)
  exact F.trans (rX4_readBoth_8_25 Hs0 Hs1 Hs2 Hs3 Hs4 Hs5 _ _ _ _ hf)
abbrev LX4_readBoth_28 : List (Nat × Nat × Option Nat) := LP_28
theorem rX4_readBoth_47_28 {self : Nat → Nat → Int32 → mT → Option (mT)} (Hs0 : ∀ {v2 : Int32} {S S' : mT}, self 0 28 v2 S = some S' → Fr (inM 999999 LX4_readBoth_28) S S') (Hs1 : ∀ {v2 : Int32} {S S' : mT}, self 1 28 v2 S = some S' → Fr (inM 999999 LX4_readBoth_28) S S') (Hs2 : ∀ {v2 : Int32} {S S' : mT}, self 2 28 v2 S = some S' → Fr (inM 999999 LX4_readBoth_28) S S') (Hs3 : ∀ {v2 : Int32} {S S' : mT}, self 3 28 v2 S = some S' → Fr (inM 999999 LX4_readBoth_28) S S') (Hs4 : ∀ {v2 : Int32} {S S' : mT}, self 4 28 v2 S = some S' → Fr (inM 999999 LX4_readBoth_28) S S') (Hs5 : ∀ {v2 : Int32} {S S' : mT}, self 5 28 v2 S = some S' → Fr (inM 999999 LX4_readBoth_28) S S') {S' : mT} {S : mT} (hf : fX4_readBoth_47 28 self S = some S') : Fr (inM 999999 LX4_readBoth_28) S S' := by
  unfold fX4_readBoth_47 at hf
  cases hf
  exact (Fr.rfl (inM 999999 LX4_readBoth_28) _)
theorem rX4_readBoth_8_28 {self : Nat → Nat → Int32 → mT → Option (mT)} (Hs0 : ∀ {v2 : Int32} {S S' : mT}, self 0 28 v2 S = some S' → Fr (inM 999999 LX4_readBoth_28) S S') (Hs1 : ∀ {v2 : Int32} {S S' : mT}, self 1 28 v2 S = some S' → Fr (inM 999999 LX4_readBoth_28) S S') (Hs2 : ∀ {v2 : Int32} {S S' : mT}, self 2 28 v2 S = some S' → Fr (inM 999999 LX4_readBoth_28) S S') (Hs3 : ∀ {v2 : Int32} {S S' : mT}, self 3 28 v2 S = some S' → Fr (inM 999999 LX4_readBoth_28) S S') (Hs4 : ∀ {v2 : Int32} {S S' : mT}, self 4 28 v2 S = some S' → Fr (inM 999999 LX4_readBoth_28) S S') (Hs5 : ∀ {v2 : Int32} {S S' : mT}, self 5 28 v2 S = some S' → Fr (inM 999999 LX4_readBoth_28) S S') {S' : mT} : ∀ (k : Nat) (v2 : Int32) (v3 : Int32) (S : mT), fX4_readBoth_8 28 self k v2 v3 S = some S' → Fr (inM 999999 LX4_readBoth_28) S S' := by
  intro k
  induction k with
  | zero =>
    intro v2 v3 S hf
    cases hf
  | succ k ih =>
    intro v2 v3 S hf
    unfold fX4_readBoth_8 at hf
    by_cases hc : (1600 : Int32) ≤ v3
    · rw [if_pos hc] at hf
      exact (Fr.rfl (inM 999999 LX4_readBoth_28) _).trans (rX4_readBoth_47_28 Hs0 Hs1 Hs2 Hs3 Hs4 Hs5 hf)
    · rw [if_neg hc] at hf
      obtain ⟨x3, S2, hq, hf⟩ := bndC_ex hf
      have F := (Fr.rfl (inM 999999 LX4_readBoth_28) _).trans ((rX4_isWord_900010 hq).mono rfl (fun _ => rfl))
      by_cases hc : x3 = 0
      · rw [if_pos hc] at hf
        exact F.trans (rX4_readBoth_47_28 Hs0 Hs1 Hs2 Hs3 Hs4 Hs5 hf)
      · rw [if_neg hc] at hf
        obtain ⟨S4, hq, hf⟩ := bndV_ex hf
        have F := F.trans ((rX4_advance hq).mono rfl (fun _ => rfl))
        obtain ⟨S5, hq, hf⟩ := bndV_ex hf
        have F := F.trans (Hs2 hq)
        obtain ⟨S6, hq, hf⟩ := bndV_ex hf
        have F := F.trans ((rX0_add_28 hq).mono rfl (fun _ => rfl))
        obtain ⟨x7, -, hf⟩ := bnd_ex hf
        exact F.trans (ih _ _ _ hf)
theorem rX4_readBoth_0_28 {self : Nat → Nat → Int32 → mT → Option (mT)} (Hs0 : ∀ {v2 : Int32} {S S' : mT}, self 0 28 v2 S = some S' → Fr (inM 999999 LX4_readBoth_28) S S') (Hs1 : ∀ {v2 : Int32} {S S' : mT}, self 1 28 v2 S = some S' → Fr (inM 999999 LX4_readBoth_28) S S') (Hs2 : ∀ {v2 : Int32} {S S' : mT}, self 2 28 v2 S = some S' → Fr (inM 999999 LX4_readBoth_28) S S') (Hs3 : ∀ {v2 : Int32} {S S' : mT}, self 3 28 v2 S = some S' → Fr (inM 999999 LX4_readBoth_28) S S') (Hs4 : ∀ {v2 : Int32} {S S' : mT}, self 4 28 v2 S = some S' → Fr (inM 999999 LX4_readBoth_28) S S') (Hs5 : ∀ {v2 : Int32} {S S' : mT}, self 5 28 v2 S = some S' → Fr (inM 999999 LX4_readBoth_28) S S') {S' : mT} {v2 : Int32} {S : mT} (hf : fX4_readBoth_0 28 self v2 S = some S') : Fr (inM 999999 LX4_readBoth_28) S S' := by
  unfold fX4_readBoth_0 at hf
  obtain ⟨S1, hq, hf⟩ := bndV_ex hf
  have F := (Fr.rfl (inM 999999 LX4_readBoth_28) _).trans (Hs2 hq)
  exact F.trans (rX4_readBoth_8_28 Hs0 Hs1 Hs2 Hs3 Hs4 Hs5 _ _ _ _ hf)
abbrev LX4_readBoth_31 : List (Nat × Nat × Option Nat) := LP_31
theorem rX4_readBoth_47_31 {self : Nat → Nat → Int32 → mT → Option (mT)} (Hs0 : ∀ {v2 : Int32} {S S' : mT}, self 0 31 v2 S = some S' → Fr (inM 999999 LX4_readBoth_31) S S') (Hs1 : ∀ {v2 : Int32} {S S' : mT}, self 1 31 v2 S = some S' → Fr (inM 999999 LX4_readBoth_31) S S') (Hs2 : ∀ {v2 : Int32} {S S' : mT}, self 2 31 v2 S = some S' → Fr (inM 999999 LX4_readBoth_31) S S') (Hs3 : ∀ {v2 : Int32} {S S' : mT}, self 3 31 v2 S = some S' → Fr (inM 999999 LX4_readBoth_31) S S') (Hs4 : ∀ {v2 : Int32} {S S' : mT}, self 4 31 v2 S = some S' → Fr (inM 999999 LX4_readBoth_31) S S') (Hs5 : ∀ {v2 : Int32} {S S' : mT}, self 5 31 v2 S = some S' → Fr (inM 999999 LX4_readBoth_31) S S') {S' : mT} {S : mT} (hf : fX4_readBoth_47 31 self S = some S') : Fr (inM 999999 LX4_readBoth_31) S S' := by
  unfold fX4_readBoth_47 at hf
  cases hf
  exact (Fr.rfl (inM 999999 LX4_readBoth_31) _)
theorem rX4_readBoth_8_31 {self : Nat → Nat → Int32 → mT → Option (mT)} (Hs0 : ∀ {v2 : Int32} {S S' : mT}, self 0 31 v2 S = some S' → Fr (inM 999999 LX4_readBoth_31) S S') (Hs1 : ∀ {v2 : Int32} {S S' : mT}, self 1 31 v2 S = some S' → Fr (inM 999999 LX4_readBoth_31) S S') (Hs2 : ∀ {v2 : Int32} {S S' : mT}, self 2 31 v2 S = some S' → Fr (inM 999999 LX4_readBoth_31) S S') (Hs3 : ∀ {v2 : Int32} {S S' : mT}, self 3 31 v2 S = some S' → Fr (inM 999999 LX4_readBoth_31) S S') (Hs4 : ∀ {v2 : Int32} {S S' : mT}, self 4 31 v2 S = some S' → Fr (inM 999999 LX4_readBoth_31) S S') (Hs5 : ∀ {v2 : Int32} {S S' : mT}, self 5 31 v2 S = some S' → Fr (inM 999999 LX4_readBoth_31) S S') {S' : mT} : ∀ (k : Nat) (v2 : Int32) (v3 : Int32) (S : mT), fX4_readBoth_8 31 self k v2 v3 S = some S' → Fr (inM 999999 LX4_readBoth_31) S S' := by
  intro k
  induction k with
  | zero =>
    intro v2 v3 S hf
    cases hf
  | succ k ih =>
    intro v2 v3 S hf
    unfold fX4_readBoth_8 at hf
    by_cases hc : (1600 : Int32) ≤ v3
    · rw [if_pos hc] at hf
      exact (Fr.rfl (inM 999999 LX4_readBoth_31) _).trans (rX4_readBoth_47_31 Hs0 Hs1 Hs2 Hs3 Hs4 Hs5 hf)
    · rw [if_neg hc] at hf
      obtain ⟨x3, S2, hq, hf⟩ := bndC_ex hf
      have F := (Fr.rfl (inM 999999 LX4_readBoth_31) _).trans ((rX4_isWord_900010 hq).mono rfl (fun _ => rfl))
      by_cases hc : x3 = 0
      · rw [if_pos hc] at hf
        exact F.trans (rX4_readBoth_47_31 Hs0 Hs1 Hs2 Hs3 Hs4 Hs5 hf)
      · rw [if_neg hc] at hf
        obtain ⟨S4, hq, hf⟩ := bndV_ex hf
        have F := F.trans ((rX4_advance hq).mono rfl (fun _ => rfl))
        obtain ⟨S5, hq, hf⟩ := bndV_ex hf
        have F := F.trans (Hs2 hq)
        obtain ⟨S6, hq, hf⟩ := bndV_ex hf
        have F := F.trans ((rX0_add_31 hq).mono rfl (fun _ => rfl))
        obtain ⟨x7, -, hf⟩ := bnd_ex hf
        exact F.trans (ih _ _ _ hf)
theorem rX4_readBoth_0_31 {self : Nat → Nat → Int32 → mT → Option (mT)} (Hs0 : ∀ {v2 : Int32} {S S' : mT}, self 0 31 v2 S = some S' → Fr (inM 999999 LX4_readBoth_31) S S') (Hs1 : ∀ {v2 : Int32} {S S' : mT}, self 1 31 v2 S = some S' → Fr (inM 999999 LX4_readBoth_31) S S') (Hs2 : ∀ {v2 : Int32} {S S' : mT}, self 2 31 v2 S = some S' → Fr (inM 999999 LX4_readBoth_31) S S') (Hs3 : ∀ {v2 : Int32} {S S' : mT}, self 3 31 v2 S = some S' → Fr (inM 999999 LX4_readBoth_31) S S') (Hs4 : ∀ {v2 : Int32} {S S' : mT}, self 4 31 v2 S = some S' → Fr (inM 999999 LX4_readBoth_31) S S') (Hs5 : ∀ {v2 : Int32} {S S' : mT}, self 5 31 v2 S = some S' → Fr (inM 999999 LX4_readBoth_31) S S') {S' : mT} {v2 : Int32} {S : mT} (hf : fX4_readBoth_0 31 self v2 S = some S') : Fr (inM 999999 LX4_readBoth_31) S S' := by
  unfold fX4_readBoth_0 at hf
  obtain ⟨S1, hq, hf⟩ := bndV_ex hf
  have F := (Fr.rfl (inM 999999 LX4_readBoth_31) _).trans (Hs2 hq)
  exact F.trans (rX4_readBoth_8_31 Hs0 Hs1 Hs2 Hs3 Hs4 Hs5 _ _ _ _ hf)
abbrev LX4_readOne_9 : List (Nat × Nat × Option Nat) := LP_9
theorem rX4_readOne_98_9 {self : Nat → Nat → Int32 → mT → Option (mT)} (Hs0 : ∀ {v2 : Int32} {S S' : mT}, self 0 9 v2 S = some S' → Fr (inM 999999 LX4_readOne_9) S S') (Hs1 : ∀ {v2 : Int32} {S S' : mT}, self 1 9 v2 S = some S' → Fr (inM 999999 LX4_readOne_9) S S') (Hs2 : ∀ {v2 : Int32} {S S' : mT}, self 2 9 v2 S = some S' → Fr (inM 999999 LX4_readOne_9) S S') (Hs3 : ∀ {v2 : Int32} {S S' : mT}, self 3 9 v2 S = some S' → Fr (inM 999999 LX4_readOne_9) S S') (Hs4 : ∀ {v2 : Int32} {S S' : mT}, self 4 9 v2 S = some S' → Fr (inM 999999 LX4_readOne_9) S S') (Hs5 : ∀ {v2 : Int32} {S S' : mT}, self 5 9 v2 S = some S' → Fr (inM 999999 LX4_readOne_9) S S') {S' : mT} {S : mT} (hf : fX4_readOne_98 9 self S = some S') : Fr (inM 999999 LX4_readOne_9) S S' := by
  unfold fX4_readOne_98 at hf
  cases hf
  exact (Fr.rfl (inM 999999 LX4_readOne_9) _)
theorem rX4_readOne_74_9 {self : Nat → Nat → Int32 → mT → Option (mT)} (Hs0 : ∀ {v2 : Int32} {S S' : mT}, self 0 9 v2 S = some S' → Fr (inM 999999 LX4_readOne_9) S S') (Hs1 : ∀ {v2 : Int32} {S S' : mT}, self 1 9 v2 S = some S' → Fr (inM 999999 LX4_readOne_9) S S') (Hs2 : ∀ {v2 : Int32} {S S' : mT}, self 2 9 v2 S = some S' → Fr (inM 999999 LX4_readOne_9) S S') (Hs3 : ∀ {v2 : Int32} {S S' : mT}, self 3 9 v2 S = some S' → Fr (inM 999999 LX4_readOne_9) S S') (Hs4 : ∀ {v2 : Int32} {S S' : mT}, self 4 9 v2 S = some S' → Fr (inM 999999 LX4_readOne_9) S S') (Hs5 : ∀ {v2 : Int32} {S S' : mT}, self 5 9 v2 S = some S' → Fr (inM 999999 LX4_readOne_9) S S') {S' : mT} {v2 : Int32} {S : mT} (hf : fX4_readOne_74 9 self v2 S = some S') : Fr (inM 999999 LX4_readOne_9) S S' := by
  unfold fX4_readOne_74 at hf
  obtain ⟨-, hf⟩ := grd_ex hf
  obtain ⟨x14, -, hf⟩ := bnd_ex hf
  obtain ⟨S15, hq, hf⟩ := bndV_ex hf
  have F := (Fr.rfl (inM 999999 LX4_readOne_9) _).trans ((rX4_advance hq).mono rfl (fun _ => rfl))
  obtain ⟨S16, hq, hf⟩ := bndV_ex hf
  have F := F.trans (Hs3 hq)
  obtain ⟨S17, hq, hf⟩ := bndV_ex hf
  have F := F.trans ((rX0_add_9 hq).mono rfl (fun _ => rfl))
  exact F.trans (rX4_readOne_98_9 Hs0 Hs1 Hs2 Hs3 Hs4 Hs5 hf)
theorem rX4_readOne_0_9 {self : Nat → Nat → Int32 → mT → Option (mT)} (Hs0 : ∀ {v2 : Int32} {S S' : mT}, self 0 9 v2 S = some S' → Fr (inM 999999 LX4_readOne_9) S S') (Hs1 : ∀ {v2 : Int32} {S S' : mT}, self 1 9 v2 S = some S' → Fr (inM 999999 LX4_readOne_9) S S') (Hs2 : ∀ {v2 : Int32} {S S' : mT}, self 2 9 v2 S = some S' → Fr (inM 999999 LX4_readOne_9) S S') (Hs3 : ∀ {v2 : Int32} {S S' : mT}, self 3 9 v2 S = some S' → Fr (inM 999999 LX4_readOne_9) S S') (Hs4 : ∀ {v2 : Int32} {S S' : mT}, self 4 9 v2 S = some S' → Fr (inM 999999 LX4_readOne_9) S S') (Hs5 : ∀ {v2 : Int32} {S S' : mT}, self 5 9 v2 S = some S' → Fr (inM 999999 LX4_readOne_9) S S') {S' : mT} {v2 : Int32} {S : mT} (hf : fX4_readOne_0 9 self v2 S = some S') : Fr (inM 999999 LX4_readOne_9) S S' := by
  unfold fX4_readOne_0 at hf
  obtain ⟨x2, S1, hq, hf⟩ := bndC_ex hf
  have F := (Fr.rfl (inM 999999 LX4_readOne_9) _).trans ((rX4_isWord_900011 hq).mono rfl (fun _ => rfl))
  by_cases hc : x2 = 0
  · rw [if_pos hc] at hf
    obtain ⟨S3, hq, hf⟩ := bndV_ex hf
    have F := F.trans (Hs3 hq)
    obtain ⟨x5, S4, hq, hf⟩ := bndC_ex hf
    have F := F.trans ((rX4_isSign hq).mono rfl (fun _ => rfl))
    by_cases hc : x5 = 0
    · rw [if_pos hc] at hf
      obtain ⟨x7, S6, hq, hf⟩ := bndC_ex hf
      have F := F.trans ((rX4_isSign hq).mono rfl (fun _ => rfl))
      by_cases hc : x7 = 0
      · rw [if_pos hc] at hf
        obtain ⟨x9, S8, hq, hf⟩ := bndC_ex hf
        have F := F.trans ((rX4_isSign hq).mono rfl (fun _ => rfl))
        by_cases hc : x9 = 0
        · rw [if_pos hc] at hf
          exact F.trans (rX4_readOne_98_9 Hs0 Hs1 Hs2 Hs3 Hs4 Hs5 hf)
        · rw [if_neg hc] at hf
          exact F.trans (rX4_readOne_74_9 Hs0 Hs1 Hs2 Hs3 Hs4 Hs5 hf)
      · rw [if_neg hc] at hf
        exact F.trans (rX4_readOne_74_9 Hs0 Hs1 Hs2 Hs3 Hs4 Hs5 hf)
    · rw [if_neg hc] at hf
      exact F.trans (rX4_readOne_74_9 Hs0 Hs1 Hs2 Hs3 Hs4 Hs5 hf)
  · rw [if_neg hc] at hf
    by_cases hc : v2 ≤ (6 : Int32)
    · rw [if_pos hc] at hf
      obtain ⟨S10, hq, hf⟩ := bndV_ex hf
      have F := F.trans ((rX4_advance hq).mono rfl (fun _ => rfl))
      obtain ⟨S11, hq, hf⟩ := bndV_ex hf
      have F := F.trans (Hs2 hq)
      obtain ⟨S12, hq, hf⟩ := bndV_ex hf
      have F := F.trans ((rX0_add_9 hq).mono rfl (fun _ => rfl))
      cases hf
      exact F
    · rw [if_neg hc] at hf
      obtain ⟨S13, hq, hf⟩ := bndV_ex hf
      have F := F.trans ((rX4_refuse hq).mono rfl (fun _ => rfl))
      cases hf
      exact F
abbrev LX4_readOne_12 : List (Nat × Nat × Option Nat) := LP_12
theorem rX4_readOne_98_12 {self : Nat → Nat → Int32 → mT → Option (mT)} (Hs0 : ∀ {v2 : Int32} {S S' : mT}, self 0 12 v2 S = some S' → Fr (inM 999999 LX4_readOne_12) S S') (Hs1 : ∀ {v2 : Int32} {S S' : mT}, self 1 12 v2 S = some S' → Fr (inM 999999 LX4_readOne_12) S S') (Hs2 : ∀ {v2 : Int32} {S S' : mT}, self 2 12 v2 S = some S' → Fr (inM 999999 LX4_readOne_12) S S') (Hs3 : ∀ {v2 : Int32} {S S' : mT}, self 3 12 v2 S = some S' → Fr (inM 999999 LX4_readOne_12) S S') (Hs4 : ∀ {v2 : Int32} {S S' : mT}, self 4 12 v2 S = some S' → Fr (inM 999999 LX4_readOne_12) S S') (Hs5 : ∀ {v2 : Int32} {S S' : mT}, self 5 12 v2 S = some S' → Fr (inM 999999 LX4_readOne_12) S S') {S' : mT} {S : mT} (hf : fX4_readOne_98 12 self S = some S') : Fr (inM 999999 LX4_readOne_12) S S' := by
  unfold fX4_readOne_98 at hf
  cases hf
  exact (Fr.rfl (inM 999999 LX4_readOne_12) _)
theorem rX4_readOne_74_12 {self : Nat → Nat → Int32 → mT → Option (mT)} (Hs0 : ∀ {v2 : Int32} {S S' : mT}, self 0 12 v2 S = some S' → Fr (inM 999999 LX4_readOne_12) S S') (Hs1 : ∀ {v2 : Int32} {S S' : mT}, self 1 12 v2 S = some S' → Fr (inM 999999 LX4_readOne_12) S S') (Hs2 : ∀ {v2 : Int32} {S S' : mT}, self 2 12 v2 S = some S' → Fr (inM 999999 LX4_readOne_12) S S') (Hs3 : ∀ {v2 : Int32} {S S' : mT}, self 3 12 v2 S = some S' → Fr (inM 999999 LX4_readOne_12) S S') (Hs4 : ∀ {v2 : Int32} {S S' : mT}, self 4 12 v2 S = some S' → Fr (inM 999999 LX4_readOne_12) S S') (Hs5 : ∀ {v2 : Int32} {S S' : mT}, self 5 12 v2 S = some S' → Fr (inM 999999 LX4_readOne_12) S S') {S' : mT} {v2 : Int32} {S : mT} (hf : fX4_readOne_74 12 self v2 S = some S') : Fr (inM 999999 LX4_readOne_12) S S' := by
  unfold fX4_readOne_74 at hf
  obtain ⟨-, hf⟩ := grd_ex hf
  obtain ⟨x14, -, hf⟩ := bnd_ex hf
  obtain ⟨S15, hq, hf⟩ := bndV_ex hf
  have F := (Fr.rfl (inM 999999 LX4_readOne_12) _).trans ((rX4_advance hq).mono rfl (fun _ => rfl))
  obtain ⟨S16, hq, hf⟩ := bndV_ex hf
  have F := F.trans (Hs3 hq)
  obtain ⟨S17, hq, hf⟩ := bndV_ex hf
  have F := F.trans ((rX0_add_12 hq).mono rfl (fun _ => rfl))
  exact F.trans (rX4_readOne_98_12 Hs0 Hs1 Hs2 Hs3 Hs4 Hs5 hf)
theorem rX4_readOne_0_12 {self : Nat → Nat → Int32 → mT → Option (mT)} (Hs0 : ∀ {v2 : Int32} {S S' : mT}, self 0 12 v2 S = some S' → Fr (inM 999999 LX4_readOne_12) S S') (Hs1 : ∀ {v2 : Int32} {S S' : mT}, self 1 12 v2 S = some S' → Fr (inM 999999 LX4_readOne_12) S S') (Hs2 : ∀ {v2 : Int32} {S S' : mT}, self 2 12 v2 S = some S' → Fr (inM 999999 LX4_readOne_12) S S') (Hs3 : ∀ {v2 : Int32} {S S' : mT}, self 3 12 v2 S = some S' → Fr (inM 999999 LX4_readOne_12) S S') (Hs4 : ∀ {v2 : Int32} {S S' : mT}, self 4 12 v2 S = some S' → Fr (inM 999999 LX4_readOne_12) S S') (Hs5 : ∀ {v2 : Int32} {S S' : mT}, self 5 12 v2 S = some S' → Fr (inM 999999 LX4_readOne_12) S S') {S' : mT} {v2 : Int32} {S : mT} (hf : fX4_readOne_0 12 self v2 S = some S') : Fr (inM 999999 LX4_readOne_12) S S' := by
  unfold fX4_readOne_0 at hf
  obtain ⟨x2, S1, hq, hf⟩ := bndC_ex hf
  have F := (Fr.rfl (inM 999999 LX4_readOne_12) _).trans ((rX4_isWord_900011 hq).mono rfl (fun _ => rfl))
  by_cases hc : x2 = 0
  · rw [if_pos hc] at hf
    obtain ⟨S3, hq, hf⟩ := bndV_ex hf
    have F := F.trans (Hs3 hq)
    obtain ⟨x5, S4, hq, hf⟩ := bndC_ex hf
    have F := F.trans ((rX4_isSign hq).mono rfl (fun _ => rfl))
    by_cases hc : x5 = 0
    · rw [if_pos hc] at hf
      obtain ⟨x7, S6, hq, hf⟩ := bndC_ex hf
      have F := F.trans ((rX4_isSign hq).mono rfl (fun _ => rfl))
      by_cases hc : x7 = 0
      · rw [if_pos hc] at hf
        obtain ⟨x9, S8, hq, hf⟩ := bndC_ex hf
        have F := F.trans ((rX4_isSign hq).mono rfl (fun _ => rfl))
        by_cases hc : x9 = 0
        · rw [if_pos hc] at hf
          exact F.trans (rX4_readOne_98_12 Hs0 Hs1 Hs2 Hs3 Hs4 Hs5 hf)
        · rw [if_neg hc] at hf
          exact F.trans (rX4_readOne_74_12 Hs0 Hs1 Hs2 Hs3 Hs4 Hs5 hf)
      · rw [if_neg hc] at hf
        exact F.trans (rX4_readOne_74_12 Hs0 Hs1 Hs2 Hs3 Hs4 Hs5 hf)
    · rw [if_neg hc] at hf
      exact F.trans (rX4_readOne_74_12 Hs0 Hs1 Hs2 Hs3 Hs4 Hs5 hf)
  · rw [if_neg hc] at hf
    by_cases hc : v2 ≤ (6 : Int32)
    · rw [if_pos hc] at hf
      obtain ⟨S10, hq, hf⟩ := bndV_ex hf
      have F := F.trans ((rX4_advance hq).mono rfl (fun _ => rfl))
      obtain ⟨S11, hq, hf⟩ := bndV_ex hf
      have F := F.trans (Hs2 hq)
      obtain ⟨S12, hq, hf⟩ := bndV_ex hf
      have F := F.trans ((rX0_add_12 hq).mono rfl (fun _ => rfl))
      cases hf
      exact F
    · rw [if_neg hc] at hf
      obtain ⟨S13, hq, hf⟩ := bndV_ex hf
      have F := F.trans ((rX4_refuse hq).mono rfl (fun _ => rfl))
      cases hf
      exact F
abbrev LX4_readOne_15 : List (Nat × Nat × Option Nat) := LP_15
theorem rX4_readOne_98_15 {self : Nat → Nat → Int32 → mT → Option (mT)} (Hs0 : ∀ {v2 : Int32} {S S' : mT}, self 0 15 v2 S = some S' → Fr (inM 999999 LX4_readOne_15) S S') (Hs1 : ∀ {v2 : Int32} {S S' : mT}, self 1 15 v2 S = some S' → Fr (inM 999999 LX4_readOne_15) S S') (Hs2 : ∀ {v2 : Int32} {S S' : mT}, self 2 15 v2 S = some S' → Fr (inM 999999 LX4_readOne_15) S S') (Hs3 : ∀ {v2 : Int32} {S S' : mT}, self 3 15 v2 S = some S' → Fr (inM 999999 LX4_readOne_15) S S') (Hs4 : ∀ {v2 : Int32} {S S' : mT}, self 4 15 v2 S = some S' → Fr (inM 999999 LX4_readOne_15) S S') (Hs5 : ∀ {v2 : Int32} {S S' : mT}, self 5 15 v2 S = some S' → Fr (inM 999999 LX4_readOne_15) S S') {S' : mT} {S : mT} (hf : fX4_readOne_98 15 self S = some S') : Fr (inM 999999 LX4_readOne_15) S S' := by
  unfold fX4_readOne_98 at hf
  cases hf
  exact (Fr.rfl (inM 999999 LX4_readOne_15) _)
theorem rX4_readOne_74_15 {self : Nat → Nat → Int32 → mT → Option (mT)} (Hs0 : ∀ {v2 : Int32} {S S' : mT}, self 0 15 v2 S = some S' → Fr (inM 999999 LX4_readOne_15) S S') (Hs1 : ∀ {v2 : Int32} {S S' : mT}, self 1 15 v2 S = some S' → Fr (inM 999999 LX4_readOne_15) S S') (Hs2 : ∀ {v2 : Int32} {S S' : mT}, self 2 15 v2 S = some S' → Fr (inM 999999 LX4_readOne_15) S S') (Hs3 : ∀ {v2 : Int32} {S S' : mT}, self 3 15 v2 S = some S' → Fr (inM 999999 LX4_readOne_15) S S') (Hs4 : ∀ {v2 : Int32} {S S' : mT}, self 4 15 v2 S = some S' → Fr (inM 999999 LX4_readOne_15) S S') (Hs5 : ∀ {v2 : Int32} {S S' : mT}, self 5 15 v2 S = some S' → Fr (inM 999999 LX4_readOne_15) S S') {S' : mT} {v2 : Int32} {S : mT} (hf : fX4_readOne_74 15 self v2 S = some S') : Fr (inM 999999 LX4_readOne_15) S S' := by
  unfold fX4_readOne_74 at hf
  obtain ⟨-, hf⟩ := grd_ex hf
  obtain ⟨x14, -, hf⟩ := bnd_ex hf
  obtain ⟨S15, hq, hf⟩ := bndV_ex hf
  have F := (Fr.rfl (inM 999999 LX4_readOne_15) _).trans ((rX4_advance hq).mono rfl (fun _ => rfl))
  obtain ⟨S16, hq, hf⟩ := bndV_ex hf
  have F := F.trans (Hs3 hq)
  obtain ⟨S17, hq, hf⟩ := bndV_ex hf
  have F := F.trans ((rX0_add_15 hq).mono rfl (fun _ => rfl))
  exact F.trans (rX4_readOne_98_15 Hs0 Hs1 Hs2 Hs3 Hs4 Hs5 hf)
theorem rX4_readOne_0_15 {self : Nat → Nat → Int32 → mT → Option (mT)} (Hs0 : ∀ {v2 : Int32} {S S' : mT}, self 0 15 v2 S = some S' → Fr (inM 999999 LX4_readOne_15) S S') (Hs1 : ∀ {v2 : Int32} {S S' : mT}, self 1 15 v2 S = some S' → Fr (inM 999999 LX4_readOne_15) S S') (Hs2 : ∀ {v2 : Int32} {S S' : mT}, self 2 15 v2 S = some S' → Fr (inM 999999 LX4_readOne_15) S S') (Hs3 : ∀ {v2 : Int32} {S S' : mT}, self 3 15 v2 S = some S' → Fr (inM 999999 LX4_readOne_15) S S') (Hs4 : ∀ {v2 : Int32} {S S' : mT}, self 4 15 v2 S = some S' → Fr (inM 999999 LX4_readOne_15) S S') (Hs5 : ∀ {v2 : Int32} {S S' : mT}, self 5 15 v2 S = some S' → Fr (inM 999999 LX4_readOne_15) S S') {S' : mT} {v2 : Int32} {S : mT} (hf : fX4_readOne_0 15 self v2 S = some S') : Fr (inM 999999 LX4_readOne_15) S S' := by
  unfold fX4_readOne_0 at hf
  obtain ⟨x2, S1, hq, hf⟩ := bndC_ex hf
  have F := (Fr.rfl (inM 999999 LX4_readOne_15) _).trans ((rX4_isWord_900011 hq).mono rfl (fun _ => rfl))
  by_cases hc : x2 = 0
  · rw [if_pos hc] at hf
    obtain ⟨S3, hq, hf⟩ := bndV_ex hf
    have F := F.trans (Hs3 hq)
    obtain ⟨x5, S4, hq, hf⟩ := bndC_ex hf
    have F := F.trans ((rX4_isSign hq).mono rfl (fun _ => rfl))
    by_cases hc : x5 = 0
    · rw [if_pos hc] at hf
      obtain ⟨x7, S6, hq, hf⟩ := bndC_ex hf
      have F := F.trans ((rX4_isSign hq).mono rfl (fun _ => rfl))
      by_cases hc : x7 = 0
      · rw [if_pos hc] at hf
        obtain ⟨x9, S8, hq, hf⟩ := bndC_ex hf
        have F := F.trans ((rX4_isSign hq).mono rfl (fun _ => rfl))
        by_cases hc : x9 = 0
        · rw [if_pos hc] at hf
          exact F.trans (rX4_readOne_98_15 Hs0 Hs1 Hs2 Hs3 Hs4 Hs5 hf)
        · rw [if_neg hc] at hf
          exact F.trans (rX4_readOne_74_15 Hs0 Hs1 Hs2 Hs3 Hs4 Hs5 hf)
      · rw [if_neg hc] at hf
        exact F.trans (rX4_readOne_74_15 Hs0 Hs1 Hs2 Hs3 Hs4 Hs5 hf)
    · rw [if_neg hc] at hf
      exact F.trans (rX4_readOne_74_15 Hs0 Hs1 Hs2 Hs3 Hs4 Hs5 hf)
  · rw [if_neg hc] at hf
    by_cases hc : v2 ≤ (6 : Int32)
    · rw [if_pos hc] at hf
      obtain ⟨S10, hq, hf⟩ := bndV_ex hf
      have F := F.trans ((rX4_advance hq).mono rfl (fun _ => rfl))
      obtain ⟨S11, hq, hf⟩ := bndV_ex hf
      have F := F.trans (Hs2 hq)
      obtain ⟨S12, hq, hf⟩ := bndV_ex hf
      have F := F.trans ((rX0_add_15 hq).mono rfl (fun _ => rfl))
      cases hf
      exact F
    · rw [if_neg hc] at hf
      obtain ⟨S13, hq, hf⟩ := bndV_ex hf
      have F := F.trans ((rX4_refuse hq).mono rfl (fun _ => rfl))
      cases hf
      exact F
abbrev LX4_readOne_25 : List (Nat × Nat × Option Nat) := LP_25
theorem rX4_readOne_98_25 {self : Nat → Nat → Int32 → mT → Option (mT)} (Hs0 : ∀ {v2 : Int32} {S S' : mT}, self 0 25 v2 S = some S' → Fr (inM 999999 LX4_readOne_25) S S') (Hs1 : ∀ {v2 : Int32} {S S' : mT}, self 1 25 v2 S = some S' → Fr (inM 999999 LX4_readOne_25) S S') (Hs2 : ∀ {v2 : Int32} {S S' : mT}, self 2 25 v2 S = some S' → Fr (inM 999999 LX4_readOne_25) S S') (Hs3 : ∀ {v2 : Int32} {S S' : mT}, self 3 25 v2 S = some S' → Fr (inM 999999 LX4_readOne_25) S S') (Hs4 : ∀ {v2 : Int32} {S S' : mT}, self 4 25 v2 S = some S' → Fr (inM 999999 LX4_readOne_25) S S') (Hs5 : ∀ {v2 : Int32} {S S' : mT}, self 5 25 v2 S = some S' → Fr (inM 999999 LX4_readOne_25) S S') {S' : mT} {S : mT} (hf : fX4_readOne_98 25 self S = some S') : Fr (inM 999999 LX4_readOne_25) S S' := by
  unfold fX4_readOne_98 at hf
  cases hf
  exact (Fr.rfl (inM 999999 LX4_readOne_25) _)
theorem rX4_readOne_74_25 {self : Nat → Nat → Int32 → mT → Option (mT)} (Hs0 : ∀ {v2 : Int32} {S S' : mT}, self 0 25 v2 S = some S' → Fr (inM 999999 LX4_readOne_25) S S') (Hs1 : ∀ {v2 : Int32} {S S' : mT}, self 1 25 v2 S = some S' → Fr (inM 999999 LX4_readOne_25) S S') (Hs2 : ∀ {v2 : Int32} {S S' : mT}, self 2 25 v2 S = some S' → Fr (inM 999999 LX4_readOne_25) S S') (Hs3 : ∀ {v2 : Int32} {S S' : mT}, self 3 25 v2 S = some S' → Fr (inM 999999 LX4_readOne_25) S S') (Hs4 : ∀ {v2 : Int32} {S S' : mT}, self 4 25 v2 S = some S' → Fr (inM 999999 LX4_readOne_25) S S') (Hs5 : ∀ {v2 : Int32} {S S' : mT}, self 5 25 v2 S = some S' → Fr (inM 999999 LX4_readOne_25) S S') {S' : mT} {v2 : Int32} {S : mT} (hf : fX4_readOne_74 25 self v2 S = some S') : Fr (inM 999999 LX4_readOne_25) S S' := by
  unfold fX4_readOne_74 at hf
  obtain ⟨-, hf⟩ := grd_ex hf
  obtain ⟨x14, -, hf⟩ := bnd_ex hf
  obtain ⟨S15, hq, hf⟩ := bndV_ex hf
  have F := (Fr.rfl (inM 999999 LX4_readOne_25) _).trans ((rX4_advance hq).mono rfl (fun _ => rfl))
  obtain ⟨S16, hq, hf⟩ := bndV_ex hf
  have F := F.trans (Hs3 hq)
  obtain ⟨S17, hq, hf⟩ := bndV_ex hf
  have F := F.trans ((rX0_add_25 hq).mono rfl (fun _ => rfl))
  exact F.trans (rX4_readOne_98_25 Hs0 Hs1 Hs2 Hs3 Hs4 Hs5 hf)
theorem rX4_readOne_0_25 {self : Nat → Nat → Int32 → mT → Option (mT)} (Hs0 : ∀ {v2 : Int32} {S S' : mT}, self 0 25 v2 S = some S' → Fr (inM 999999 LX4_readOne_25) S S') (Hs1 : ∀ {v2 : Int32} {S S' : mT}, self 1 25 v2 S = some S' → Fr (inM 999999 LX4_readOne_25) S S') (Hs2 : ∀ {v2 : Int32} {S S' : mT}, self 2 25 v2 S = some S' → Fr (inM 999999 LX4_readOne_25) S S') (Hs3 : ∀ {v2 : Int32} {S S' : mT}, self 3 25 v2 S = some S' → Fr (inM 999999 LX4_readOne_25) S S') (Hs4 : ∀ {v2 : Int32} {S S' : mT}, self 4 25 v2 S = some S' → Fr (inM 999999 LX4_readOne_25) S S') (Hs5 : ∀ {v2 : Int32} {S S' : mT}, self 5 25 v2 S = some S' → Fr (inM 999999 LX4_readOne_25) S S') {S' : mT} {v2 : Int32} {S : mT} (hf : fX4_readOne_0 25 self v2 S = some S') : Fr (inM 999999 LX4_readOne_25) S S' := by
  unfold fX4_readOne_0 at hf
  obtain ⟨x2, S1, hq, hf⟩ := bndC_ex hf
  have F := (Fr.rfl (inM 999999 LX4_readOne_25) _).trans ((rX4_isWord_900011 hq).mono rfl (fun _ => rfl))
  by_cases hc : x2 = 0
  · rw [if_pos hc] at hf
    obtain ⟨S3, hq, hf⟩ := bndV_ex hf
    have F := F.trans (Hs3 hq)
    obtain ⟨x5, S4, hq, hf⟩ := bndC_ex hf
    have F := F.trans ((rX4_isSign hq).mono rfl (fun _ => rfl))
    by_cases hc : x5 = 0
    · rw [if_pos hc] at hf
      obtain ⟨x7, S6, hq, hf⟩ := bndC_ex hf
      have F := F.trans ((rX4_isSign hq).mono rfl (fun _ => rfl))
      by_cases hc : x7 = 0
      · rw [if_pos hc] at hf
        obtain ⟨x9, S8, hq, hf⟩ := bndC_ex hf
        have F := F.trans ((rX4_isSign hq).mono rfl (fun _ => rfl))
        by_cases hc : x9 = 0
        · rw [if_pos hc] at hf
          exact F.trans (rX4_readOne_98_25 Hs0 Hs1 Hs2 Hs3 Hs4 Hs5 hf)
        · rw [if_neg hc] at hf
          exact F.trans (rX4_readOne_74_25 Hs0 Hs1 Hs2 Hs3 Hs4 Hs5 hf)
      · rw [if_neg hc] at hf
        exact F.trans (rX4_readOne_74_25 Hs0 Hs1 Hs2 Hs3 Hs4 Hs5 hf)
    · rw [if_neg hc] at hf
      exact F.trans (rX4_readOne_74_25 Hs0 Hs1 Hs2 Hs3 Hs4 Hs5 hf)
  · rw [if_neg hc] at hf
    by_cases hc : v2 ≤ (6 : Int32)
    · rw [if_pos hc] at hf
      obtain ⟨S10, hq, hf⟩ := bndV_ex hf
      have F := F.trans ((rX4_advance hq).mono rfl (fun _ => rfl))
      obtain ⟨S11, hq, hf⟩ := bndV_ex hf
      have F := F.trans (Hs2 hq)
      obtain ⟨S12, hq, hf⟩ := bndV_ex hf
      have F := F.trans ((rX0_add_25 hq).mono rfl (fun _ => rfl))
      cases hf
      exact F
    · rw [if_neg hc] at hf
      obtain ⟨S13, hq, hf⟩ := bndV_ex hf
      have F := F.trans ((rX4_refuse hq).mono rfl (fun _ => rfl))
      cases hf
      exact F
abbrev LX4_readOne_28 : List (Nat × Nat × Option Nat) := LP_28
theorem rX4_readOne_98_28 {self : Nat → Nat → Int32 → mT → Option (mT)} (Hs0 : ∀ {v2 : Int32} {S S' : mT}, self 0 28 v2 S = some S' → Fr (inM 999999 LX4_readOne_28) S S') (Hs1 : ∀ {v2 : Int32} {S S' : mT}, self 1 28 v2 S = some S' → Fr (inM 999999 LX4_readOne_28) S S') (Hs2 : ∀ {v2 : Int32} {S S' : mT}, self 2 28 v2 S = some S' → Fr (inM 999999 LX4_readOne_28) S S') (Hs3 : ∀ {v2 : Int32} {S S' : mT}, self 3 28 v2 S = some S' → Fr (inM 999999 LX4_readOne_28) S S') (Hs4 : ∀ {v2 : Int32} {S S' : mT}, self 4 28 v2 S = some S' → Fr (inM 999999 LX4_readOne_28) S S') (Hs5 : ∀ {v2 : Int32} {S S' : mT}, self 5 28 v2 S = some S' → Fr (inM 999999 LX4_readOne_28) S S') {S' : mT} {S : mT} (hf : fX4_readOne_98 28 self S = some S') : Fr (inM 999999 LX4_readOne_28) S S' := by
  unfold fX4_readOne_98 at hf
  cases hf
  exact (Fr.rfl (inM 999999 LX4_readOne_28) _)
theorem rX4_readOne_74_28 {self : Nat → Nat → Int32 → mT → Option (mT)} (Hs0 : ∀ {v2 : Int32} {S S' : mT}, self 0 28 v2 S = some S' → Fr (inM 999999 LX4_readOne_28) S S') (Hs1 : ∀ {v2 : Int32} {S S' : mT}, self 1 28 v2 S = some S' → Fr (inM 999999 LX4_readOne_28) S S') (Hs2 : ∀ {v2 : Int32} {S S' : mT}, self 2 28 v2 S = some S' → Fr (inM 999999 LX4_readOne_28) S S') (Hs3 : ∀ {v2 : Int32} {S S' : mT}, self 3 28 v2 S = some S' → Fr (inM 999999 LX4_readOne_28) S S') (Hs4 : ∀ {v2 : Int32} {S S' : mT}, self 4 28 v2 S = some S' → Fr (inM 999999 LX4_readOne_28) S S') (Hs5 : ∀ {v2 : Int32} {S S' : mT}, self 5 28 v2 S = some S' → Fr (inM 999999 LX4_readOne_28) S S') {S' : mT} {v2 : Int32} {S : mT} (hf : fX4_readOne_74 28 self v2 S = some S') : Fr (inM 999999 LX4_readOne_28) S S' := by
  unfold fX4_readOne_74 at hf
  obtain ⟨-, hf⟩ := grd_ex hf
  obtain ⟨x14, -, hf⟩ := bnd_ex hf
  obtain ⟨S15, hq, hf⟩ := bndV_ex hf
  have F := (Fr.rfl (inM 999999 LX4_readOne_28) _).trans ((rX4_advance hq).mono rfl (fun _ => rfl))
  obtain ⟨S16, hq, hf⟩ := bndV_ex hf
  have F := F.trans (Hs3 hq)
  obtain ⟨S17, hq, hf⟩ := bndV_ex hf
  have F := F.trans ((rX0_add_28 hq).mono rfl (fun _ => rfl))
  exact F.trans (rX4_readOne_98_28 Hs0 Hs1 Hs2 Hs3 Hs4 Hs5 hf)
theorem rX4_readOne_0_28 {self : Nat → Nat → Int32 → mT → Option (mT)} (Hs0 : ∀ {v2 : Int32} {S S' : mT}, self 0 28 v2 S = some S' → Fr (inM 999999 LX4_readOne_28) S S') (Hs1 : ∀ {v2 : Int32} {S S' : mT}, self 1 28 v2 S = some S' → Fr (inM 999999 LX4_readOne_28) S S') (Hs2 : ∀ {v2 : Int32} {S S' : mT}, self 2 28 v2 S = some S' → Fr (inM 999999 LX4_readOne_28) S S') (Hs3 : ∀ {v2 : Int32} {S S' : mT}, self 3 28 v2 S = some S' → Fr (inM 999999 LX4_readOne_28) S S') (Hs4 : ∀ {v2 : Int32} {S S' : mT}, self 4 28 v2 S = some S' → Fr (inM 999999 LX4_readOne_28) S S') (Hs5 : ∀ {v2 : Int32} {S S' : mT}, self 5 28 v2 S = some S' → Fr (inM 999999 LX4_readOne_28) S S') {S' : mT} {v2 : Int32} {S : mT} (hf : fX4_readOne_0 28 self v2 S = some S') : Fr (inM 999999 LX4_readOne_28) S S' := by
  unfold fX4_readOne_0 at hf
  obtain ⟨x2, S1, hq, hf⟩ := bndC_ex hf
  have F := (Fr.rfl (inM 999999 LX4_readOne_28) _).trans ((rX4_isWord_900011 hq).mono rfl (fun _ => rfl))
  by_cases hc : x2 = 0
  · rw [if_pos hc] at hf
    obtain ⟨S3, hq, hf⟩ := bndV_ex hf
    have F := F.trans (Hs3 hq)
    obtain ⟨x5, S4, hq, hf⟩ := bndC_ex hf
    have F := F.trans ((rX4_isSign hq).mono rfl (fun _ => rfl))
    by_cases hc : x5 = 0
    · rw [if_pos hc] at hf
      obtain ⟨x7, S6, hq, hf⟩ := bndC_ex hf
      have F := F.trans ((rX4_isSign hq).mono rfl (fun _ => rfl))
      by_cases hc : x7 = 0
      · rw [if_pos hc] at hf
        obtain ⟨x9, S8, hq, hf⟩ := bndC_ex hf
        have F := F.trans ((rX4_isSign hq).mono rfl (fun _ => rfl))
        by_cases hc : x9 = 0
        · rw [if_pos hc] at hf
          exact F.trans (rX4_readOne_98_28 Hs0 Hs1 Hs2 Hs3 Hs4 Hs5 hf)
        · rw [if_neg hc] at hf
          exact F.trans (rX4_readOne_74_28 Hs0 Hs1 Hs2 Hs3 Hs4 Hs5 hf)
      · rw [if_neg hc] at hf
        exact F.trans (rX4_readOne_74_28 Hs0 Hs1 Hs2 Hs3 Hs4 Hs5 hf)
    · rw [if_neg hc] at hf
      exact F.trans (rX4_readOne_74_28 Hs0 Hs1 Hs2 Hs3 Hs4 Hs5 hf)
  · rw [if_neg hc] at hf
    by_cases hc : v2 ≤ (6 : Int32)
    · rw [if_pos hc] at hf
      obtain ⟨S10, hq, hf⟩ := bndV_ex hf
      have F := F.trans ((rX4_advance hq).mono rfl (fun _ => rfl))
      obtain ⟨S11, hq, hf⟩ := bndV_ex hf
      have F := F.trans (Hs2 hq)
      obtain ⟨S12, hq, hf⟩ := bndV_ex hf
      have F := F.trans ((rX0_add_28 hq).mono rfl (fun _ => rfl))
      cases hf
      exact F
    · rw [if_neg hc] at hf
      obtain ⟨S13, hq, hf⟩ := bndV_ex hf
      have F := F.trans ((rX4_refuse hq).mono rfl (fun _ => rfl))
      cases hf
      exact F
abbrev LX4_readOne_31 : List (Nat × Nat × Option Nat) := LP_31
theorem rX4_readOne_98_31 {self : Nat → Nat → Int32 → mT → Option (mT)} (Hs0 : ∀ {v2 : Int32} {S S' : mT}, self 0 31 v2 S = some S' → Fr (inM 999999 LX4_readOne_31) S S') (Hs1 : ∀ {v2 : Int32} {S S' : mT}, self 1 31 v2 S = some S' → Fr (inM 999999 LX4_readOne_31) S S') (Hs2 : ∀ {v2 : Int32} {S S' : mT}, self 2 31 v2 S = some S' → Fr (inM 999999 LX4_readOne_31) S S') (Hs3 : ∀ {v2 : Int32} {S S' : mT}, self 3 31 v2 S = some S' → Fr (inM 999999 LX4_readOne_31) S S') (Hs4 : ∀ {v2 : Int32} {S S' : mT}, self 4 31 v2 S = some S' → Fr (inM 999999 LX4_readOne_31) S S') (Hs5 : ∀ {v2 : Int32} {S S' : mT}, self 5 31 v2 S = some S' → Fr (inM 999999 LX4_readOne_31) S S') {S' : mT} {S : mT} (hf : fX4_readOne_98 31 self S = some S') : Fr (inM 999999 LX4_readOne_31) S S' := by
  unfold fX4_readOne_98 at hf
  cases hf
  exact (Fr.rfl (inM 999999 LX4_readOne_31) _)
theorem rX4_readOne_74_31 {self : Nat → Nat → Int32 → mT → Option (mT)} (Hs0 : ∀ {v2 : Int32} {S S' : mT}, self 0 31 v2 S = some S' → Fr (inM 999999 LX4_readOne_31) S S') (Hs1 : ∀ {v2 : Int32} {S S' : mT}, self 1 31 v2 S = some S' → Fr (inM 999999 LX4_readOne_31) S S') (Hs2 : ∀ {v2 : Int32} {S S' : mT}, self 2 31 v2 S = some S' → Fr (inM 999999 LX4_readOne_31) S S') (Hs3 : ∀ {v2 : Int32} {S S' : mT}, self 3 31 v2 S = some S' → Fr (inM 999999 LX4_readOne_31) S S') (Hs4 : ∀ {v2 : Int32} {S S' : mT}, self 4 31 v2 S = some S' → Fr (inM 999999 LX4_readOne_31) S S') (Hs5 : ∀ {v2 : Int32} {S S' : mT}, self 5 31 v2 S = some S' → Fr (inM 999999 LX4_readOne_31) S S') {S' : mT} {v2 : Int32} {S : mT} (hf : fX4_readOne_74 31 self v2 S = some S') : Fr (inM 999999 LX4_readOne_31) S S' := by
  unfold fX4_readOne_74 at hf
  obtain ⟨-, hf⟩ := grd_ex hf
  obtain ⟨x14, -, hf⟩ := bnd_ex hf
  obtain ⟨S15, hq, hf⟩ := bndV_ex hf
  have F := (Fr.rfl (inM 999999 LX4_readOne_31) _).trans ((rX4_advance hq).mono rfl (fun _ => rfl))
  obtain ⟨S16, hq, hf⟩ := bndV_ex hf
  have F := F.trans (Hs3 hq)
  obtain ⟨S17, hq, hf⟩ := bndV_ex hf
  have F := F.trans ((rX0_add_31 hq).mono rfl (fun _ => rfl))
  exact F.trans (rX4_readOne_98_31 Hs0 Hs1 Hs2 Hs3 Hs4 Hs5 hf)
theorem rX4_readOne_0_31 {self : Nat → Nat → Int32 → mT → Option (mT)} (Hs0 : ∀ {v2 : Int32} {S S' : mT}, self 0 31 v2 S = some S' → Fr (inM 999999 LX4_readOne_31) S S') (Hs1 : ∀ {v2 : Int32} {S S' : mT}, self 1 31 v2 S = some S' → Fr (inM 999999 LX4_readOne_31) S S') (Hs2 : ∀ {v2 : Int32} {S S' : mT}, self 2 31 v2 S = some S' → Fr (inM 999999 LX4_readOne_31) S S') (Hs3 : ∀ {v2 : Int32} {S S' : mT}, self 3 31 v2 S = some S' → Fr (inM 999999 LX4_readOne_31) S S') (Hs4 : ∀ {v2 : Int32} {S S' : mT}, self 4 31 v2 S = some S' → Fr (inM 999999 LX4_readOne_31) S S') (Hs5 : ∀ {v2 : Int32} {S S' : mT}, self 5 31 v2 S = some S' → Fr (inM 999999 LX4_readOne_31) S S') {S' : mT} {v2 : Int32} {S : mT} (hf : fX4_readOne_0 31 self v2 S = some S') : Fr (inM 999999 LX4_readOne_31) S S' := by
  unfold fX4_readOne_0 at hf
  obtain ⟨x2, S1, hq, hf⟩ := bndC_ex hf
  have F := (Fr.rfl (inM 999999 LX4_readOne_31) _).trans ((rX4_isWord_900011 hq).mono rfl (fun _ => rfl))
  by_cases hc : x2 = 0
  · rw [if_pos hc] at hf
    obtain ⟨S3, hq, hf⟩ := bndV_ex hf
    have F := F.trans (Hs3 hq)
    obtain ⟨x5, S4, hq, hf⟩ := bndC_ex hf
    have F := F.trans ((rX4_isSign hq).mono rfl (fun _ => rfl))
    by_cases hc : x5 = 0
    · rw [if_pos hc] at hf
      obtain ⟨x7, S6, hq, hf⟩ := bndC_ex hf
      have F := F.trans ((rX4_isSign hq).mono rfl (fun _ => rfl))
      by_cases hc : x7 = 0
      · rw [if_pos hc] at hf
        obtain ⟨x9, S8, hq, hf⟩ := bndC_ex hf
        have F := F.trans ((rX4_isSign hq).mono rfl (fun _ => rfl))
        by_cases hc : x9 = 0
        · rw [if_pos hc] at hf
          exact F.trans (rX4_readOne_98_31 Hs0 Hs1 Hs2 Hs3 Hs4 Hs5 hf)
        · rw [if_neg hc] at hf
          exact F.trans (rX4_readOne_74_31 Hs0 Hs1 Hs2 Hs3 Hs4 Hs5 hf)
      · rw [if_neg hc] at hf
        exact F.trans (rX4_readOne_74_31 Hs0 Hs1 Hs2 Hs3 Hs4 Hs5 hf)
    · rw [if_neg hc] at hf
      exact F.trans (rX4_readOne_74_31 Hs0 Hs1 Hs2 Hs3 Hs4 Hs5 hf)
  · rw [if_neg hc] at hf
    by_cases hc : v2 ≤ (6 : Int32)
    · rw [if_pos hc] at hf
      obtain ⟨S10, hq, hf⟩ := bndV_ex hf
      have F := F.trans ((rX4_advance hq).mono rfl (fun _ => rfl))
      obtain ⟨S11, hq, hf⟩ := bndV_ex hf
      have F := F.trans (Hs2 hq)
      obtain ⟨S12, hq, hf⟩ := bndV_ex hf
      have F := F.trans ((rX0_add_31 hq).mono rfl (fun _ => rfl))
      cases hf
      exact F
    · rw [if_neg hc] at hf
      obtain ⟨S13, hq, hf⟩ := bndV_ex hf
      have F := F.trans ((rX4_refuse hq).mono rfl (fun _ => rfl))
      cases hf
      exact F
abbrev LX4_readSum_9 : List (Nat × Nat × Option Nat) := LP_9
theorem rX4_readSum_33_9 {self : Nat → Nat → Int32 → mT → Option (mT)} (Hs0 : ∀ {v2 : Int32} {S S' : mT}, self 0 9 v2 S = some S' → Fr (inM 999999 LX4_readSum_9) S S') (Hs1 : ∀ {v2 : Int32} {S S' : mT}, self 1 9 v2 S = some S' → Fr (inM 999999 LX4_readSum_9) S S') (Hs2 : ∀ {v2 : Int32} {S S' : mT}, self 2 9 v2 S = some S' → Fr (inM 999999 LX4_readSum_9) S S') (Hs3 : ∀ {v2 : Int32} {S S' : mT}, self 3 9 v2 S = some S' → Fr (inM 999999 LX4_readSum_9) S S') (Hs4 : ∀ {v2 : Int32} {S S' : mT}, self 4 9 v2 S = some S' → Fr (inM 999999 LX4_readSum_9) S S') (Hs5 : ∀ {v2 : Int32} {S S' : mT}, self 5 9 v2 S = some S' → Fr (inM 999999 LX4_readSum_9) S S') {S' : mT} {rc8 : Int32 → Int32 → mT → Option (mT)} (Hrc8 : ∀ (v2 : Int32) (v3 : Int32) (S : mT), rc8 v2 v3 S = some S' → Fr (inM 999999 LX4_readSum_9) S S') {v2 : Int32} {v3 : Int32} {S : mT} (hf : fX4_readSum_33 9 self rc8 v2 v3 S = some S') : Fr (inM 999999 LX4_readSum_9) S S' := by
  unfold fX4_readSum_33 at hf
  obtain ⟨-, hf⟩ := grd_ex hf
  obtain ⟨x6, -, hf⟩ := bnd_ex hf
  obtain ⟨S7, hq, hf⟩ := bndV_ex hf
  have F := (Fr.rfl (inM 999999 LX4_readSum_9) _).trans ((rX4_advance hq).mono rfl (fun _ => rfl))
  obtain ⟨S8, hq, hf⟩ := bndV_ex hf
  have F := F.trans (Hs4 hq)
  obtain ⟨S9, hq, hf⟩ := bndV_ex hf
  have F := F.trans ((rX0_add_9 hq).mono rfl (fun _ => rfl))
  obtain ⟨x10, -, hf⟩ := bnd_ex hf
  exact F.trans (Hrc8 _ _ _ hf)
theorem rX4_readSum_65_9 {self : Nat → Nat → Int32 → mT → Option (mT)} (Hs0 : ∀ {v2 : Int32} {S S' : mT}, self 0 9 v2 S = some S' → Fr (inM 999999 LX4_readSum_9) S S') (Hs1 : ∀ {v2 : Int32} {S S' : mT}, self 1 9 v2 S = some S' → Fr (inM 999999 LX4_readSum_9) S S') (Hs2 : ∀ {v2 : Int32} {S S' : mT}, self 2 9 v2 S = some S' → Fr (inM 999999 LX4_readSum_9) S S') (Hs3 : ∀ {v2 : Int32} {S S' : mT}, self 3 9 v2 S = some S' → Fr (inM 999999 LX4_readSum_9) S S') (Hs4 : ∀ {v2 : Int32} {S S' : mT}, self 4 9 v2 S = some S' → Fr (inM 999999 LX4_readSum_9) S S') (Hs5 : ∀ {v2 : Int32} {S S' : mT}, self 5 9 v2 S = some S' → Fr (inM 999999 LX4_readSum_9) S S') {S' : mT} {S : mT} (hf : fX4_readSum_65 9 self S = some S') : Fr (inM 999999 LX4_readSum_9) S S' := by
  unfold fX4_readSum_65 at hf
  cases hf
  exact (Fr.rfl (inM 999999 LX4_readSum_9) _)
theorem rX4_readSum_8_9 {self : Nat → Nat → Int32 → mT → Option (mT)} (Hs0 : ∀ {v2 : Int32} {S S' : mT}, self 0 9 v2 S = some S' → Fr (inM 999999 LX4_readSum_9) S S') (Hs1 : ∀ {v2 : Int32} {S S' : mT}, self 1 9 v2 S = some S' → Fr (inM 999999 LX4_readSum_9) S S') (Hs2 : ∀ {v2 : Int32} {S S' : mT}, self 2 9 v2 S = some S' → Fr (inM 999999 LX4_readSum_9) S S') (Hs3 : ∀ {v2 : Int32} {S S' : mT}, self 3 9 v2 S = some S' → Fr (inM 999999 LX4_readSum_9) S S') (Hs4 : ∀ {v2 : Int32} {S S' : mT}, self 4 9 v2 S = some S' → Fr (inM 999999 LX4_readSum_9) S S') (Hs5 : ∀ {v2 : Int32} {S S' : mT}, self 5 9 v2 S = some S' → Fr (inM 999999 LX4_readSum_9) S S') {S' : mT} : ∀ (k : Nat) (v2 : Int32) (v3 : Int32) (S : mT), fX4_readSum_8 9 self k v2 v3 S = some S' → Fr (inM 999999 LX4_readSum_9) S S' := by
  intro k
  induction k with
  | zero =>
    intro v2 v3 S hf
    cases hf
  | succ k ih =>
    intro v2 v3 S hf
    unfold fX4_readSum_8 at hf
    by_cases hc : (1600 : Int32) ≤ v3
    · rw [if_pos hc] at hf
      exact (Fr.rfl (inM 999999 LX4_readSum_9) _).trans (rX4_readSum_65_9 Hs0 Hs1 Hs2 Hs3 Hs4 Hs5 hf)
    · rw [if_neg hc] at hf
      obtain ⟨x3, S2, hq, hf⟩ := bndC_ex hf
      have F := (Fr.rfl (inM 999999 LX4_readSum_9) _).trans ((rX4_isSign hq).mono rfl (fun _ => rfl))
      by_cases hc : x3 = 0
      · rw [if_pos hc] at hf
        obtain ⟨x5, S4, hq, hf⟩ := bndC_ex hf
        have F := F.trans ((rX4_isSign hq).mono rfl (fun _ => rfl))
        by_cases hc : x5 = 0
        · rw [if_pos hc] at hf
          exact F.trans (rX4_readSum_65_9 Hs0 Hs1 Hs2 Hs3 Hs4 Hs5 hf)
        · rw [if_neg hc] at hf
          exact F.trans (rX4_readSum_33_9 Hs0 Hs1 Hs2 Hs3 Hs4 Hs5 ih hf)
      · rw [if_neg hc] at hf
        exact F.trans (rX4_readSum_33_9 Hs0 Hs1 Hs2 Hs3 Hs4 Hs5 ih hf)
theorem rX4_readSum_0_9 {self : Nat → Nat → Int32 → mT → Option (mT)} (Hs0 : ∀ {v2 : Int32} {S S' : mT}, self 0 9 v2 S = some S' → Fr (inM 999999 LX4_readSum_9) S S') (Hs1 : ∀ {v2 : Int32} {S S' : mT}, self 1 9 v2 S = some S' → Fr (inM 999999 LX4_readSum_9) S S') (Hs2 : ∀ {v2 : Int32} {S S' : mT}, self 2 9 v2 S = some S' → Fr (inM 999999 LX4_readSum_9) S S') (Hs3 : ∀ {v2 : Int32} {S S' : mT}, self 3 9 v2 S = some S' → Fr (inM 999999 LX4_readSum_9) S S') (Hs4 : ∀ {v2 : Int32} {S S' : mT}, self 4 9 v2 S = some S' → Fr (inM 999999 LX4_readSum_9) S S') (Hs5 : ∀ {v2 : Int32} {S S' : mT}, self 5 9 v2 S = some S' → Fr (inM 999999 LX4_readSum_9) S S') {S' : mT} {v2 : Int32} {S : mT} (hf : fX4_readSum_0 9 self v2 S = some S') : Fr (inM 999999 LX4_readSum_9) S S' := by
  unfold fX4_readSum_0 at hf
  obtain ⟨S1, hq, hf⟩ := bndV_ex hf
  have F := (Fr.rfl (inM 999999 LX4_readSum_9) _).trans (Hs4 hq)
  exact F.trans (rX4_readSum_8_9 Hs0 Hs1 Hs2 Hs3 Hs4 Hs5 _ _ _ _ hf)
abbrev LX4_readSum_12 : List (Nat × Nat × Option Nat) := LP_12
theorem rX4_readSum_33_12 {self : Nat → Nat → Int32 → mT → Option (mT)} (Hs0 : ∀ {v2 : Int32} {S S' : mT}, self 0 12 v2 S = some S' → Fr (inM 999999 LX4_readSum_12) S S') (Hs1 : ∀ {v2 : Int32} {S S' : mT}, self 1 12 v2 S = some S' → Fr (inM 999999 LX4_readSum_12) S S') (Hs2 : ∀ {v2 : Int32} {S S' : mT}, self 2 12 v2 S = some S' → Fr (inM 999999 LX4_readSum_12) S S') (Hs3 : ∀ {v2 : Int32} {S S' : mT}, self 3 12 v2 S = some S' → Fr (inM 999999 LX4_readSum_12) S S') (Hs4 : ∀ {v2 : Int32} {S S' : mT}, self 4 12 v2 S = some S' → Fr (inM 999999 LX4_readSum_12) S S') (Hs5 : ∀ {v2 : Int32} {S S' : mT}, self 5 12 v2 S = some S' → Fr (inM 999999 LX4_readSum_12) S S') {S' : mT} {rc8 : Int32 → Int32 → mT → Option (mT)} (Hrc8 : ∀ (v2 : Int32) (v3 : Int32) (S : mT), rc8 v2 v3 S = some S' → Fr (inM 999999 LX4_readSum_12) S S') {v2 : Int32} {v3 : Int32} {S : mT} (hf : fX4_readSum_33 12 self rc8 v2 v3 S = some S') : Fr (inM 999999 LX4_readSum_12) S S' := by
  unfold fX4_readSum_33 at hf
  obtain ⟨-, hf⟩ := grd_ex hf
  obtain ⟨x6, -, hf⟩ := bnd_ex hf
  obtain ⟨S7, hq, hf⟩ := bndV_ex hf
  have F := (Fr.rfl (inM 999999 LX4_readSum_12) _).trans ((rX4_advance hq).mono rfl (fun _ => rfl))
  obtain ⟨S8, hq, hf⟩ := bndV_ex hf
  have F := F.trans (Hs4 hq)
  obtain ⟨S9, hq, hf⟩ := bndV_ex hf
  have F := F.trans ((rX0_add_12 hq).mono rfl (fun _ => rfl))
  obtain ⟨x10, -, hf⟩ := bnd_ex hf
  exact F.trans (Hrc8 _ _ _ hf)
theorem rX4_readSum_65_12 {self : Nat → Nat → Int32 → mT → Option (mT)} (Hs0 : ∀ {v2 : Int32} {S S' : mT}, self 0 12 v2 S = some S' → Fr (inM 999999 LX4_readSum_12) S S') (Hs1 : ∀ {v2 : Int32} {S S' : mT}, self 1 12 v2 S = some S' → Fr (inM 999999 LX4_readSum_12) S S') (Hs2 : ∀ {v2 : Int32} {S S' : mT}, self 2 12 v2 S = some S' → Fr (inM 999999 LX4_readSum_12) S S') (Hs3 : ∀ {v2 : Int32} {S S' : mT}, self 3 12 v2 S = some S' → Fr (inM 999999 LX4_readSum_12) S S') (Hs4 : ∀ {v2 : Int32} {S S' : mT}, self 4 12 v2 S = some S' → Fr (inM 999999 LX4_readSum_12) S S') (Hs5 : ∀ {v2 : Int32} {S S' : mT}, self 5 12 v2 S = some S' → Fr (inM 999999 LX4_readSum_12) S S') {S' : mT} {S : mT} (hf : fX4_readSum_65 12 self S = some S') : Fr (inM 999999 LX4_readSum_12) S S' := by
  unfold fX4_readSum_65 at hf
  cases hf
  exact (Fr.rfl (inM 999999 LX4_readSum_12) _)
theorem rX4_readSum_8_12 {self : Nat → Nat → Int32 → mT → Option (mT)} (Hs0 : ∀ {v2 : Int32} {S S' : mT}, self 0 12 v2 S = some S' → Fr (inM 999999 LX4_readSum_12) S S') (Hs1 : ∀ {v2 : Int32} {S S' : mT}, self 1 12 v2 S = some S' → Fr (inM 999999 LX4_readSum_12) S S') (Hs2 : ∀ {v2 : Int32} {S S' : mT}, self 2 12 v2 S = some S' → Fr (inM 999999 LX4_readSum_12) S S') (Hs3 : ∀ {v2 : Int32} {S S' : mT}, self 3 12 v2 S = some S' → Fr (inM 999999 LX4_readSum_12) S S') (Hs4 : ∀ {v2 : Int32} {S S' : mT}, self 4 12 v2 S = some S' → Fr (inM 999999 LX4_readSum_12) S S') (Hs5 : ∀ {v2 : Int32} {S S' : mT}, self 5 12 v2 S = some S' → Fr (inM 999999 LX4_readSum_12) S S') {S' : mT} : ∀ (k : Nat) (v2 : Int32) (v3 : Int32) (S : mT), fX4_readSum_8 12 self k v2 v3 S = some S' → Fr (inM 999999 LX4_readSum_12) S S' := by
  intro k
  induction k with
  | zero =>
    intro v2 v3 S hf
    cases hf
  | succ k ih =>
    intro v2 v3 S hf
    unfold fX4_readSum_8 at hf
    by_cases hc : (1600 : Int32) ≤ v3
    · rw [if_pos hc] at hf
      exact (Fr.rfl (inM 999999 LX4_readSum_12) _).trans (rX4_readSum_65_12 Hs0 Hs1 Hs2 Hs3 Hs4 Hs5 hf)
    · rw [if_neg hc] at hf
      obtain ⟨x3, S2, hq, hf⟩ := bndC_ex hf
      have F := (Fr.rfl (inM 999999 LX4_readSum_12) _).trans ((rX4_isSign hq).mono rfl (fun _ => rfl))
      by_cases hc : x3 = 0
      · rw [if_pos hc] at hf
        obtain ⟨x5, S4, hq, hf⟩ := bndC_ex hf
        have F := F.trans ((rX4_isSign hq).mono rfl (fun _ => rfl))
        by_cases hc : x5 = 0
        · rw [if_pos hc] at hf
          exact F.trans (rX4_readSum_65_12 Hs0 Hs1 Hs2 Hs3 Hs4 Hs5 hf)
        · rw [if_neg hc] at hf
          exact F.trans (rX4_readSum_33_12 Hs0 Hs1 Hs2 Hs3 Hs4 Hs5 ih hf)
      · rw [if_neg hc] at hf
        exact F.trans (rX4_readSum_33_12 Hs0 Hs1 Hs2 Hs3 Hs4 Hs5 ih hf)
theorem rX4_readSum_0_12 {self : Nat → Nat → Int32 → mT → Option (mT)} (Hs0 : ∀ {v2 : Int32} {S S' : mT}, self 0 12 v2 S = some S' → Fr (inM 999999 LX4_readSum_12) S S') (Hs1 : ∀ {v2 : Int32} {S S' : mT}, self 1 12 v2 S = some S' → Fr (inM 999999 LX4_readSum_12) S S') (Hs2 : ∀ {v2 : Int32} {S S' : mT}, self 2 12 v2 S = some S' → Fr (inM 999999 LX4_readSum_12) S S') (Hs3 : ∀ {v2 : Int32} {S S' : mT}, self 3 12 v2 S = some S' → Fr (inM 999999 LX4_readSum_12) S S') (Hs4 : ∀ {v2 : Int32} {S S' : mT}, self 4 12 v2 S = some S' → Fr (inM 999999 LX4_readSum_12) S S') (Hs5 : ∀ {v2 : Int32} {S S' : mT}, self 5 12 v2 S = some S' → Fr (inM 999999 LX4_readSum_12) S S') {S' : mT} {v2 : Int32} {S : mT} (hf : fX4_readSum_0 12 self v2 S = some S') : Fr (inM 999999 LX4_readSum_12) S S' := by
  unfold fX4_readSum_0 at hf
  obtain ⟨S1, hq, hf⟩ := bndV_ex hf
  have F := (Fr.rfl (inM 999999 LX4_readSum_12) _).trans (Hs4 hq)
  exact F.trans (rX4_readSum_8_12 Hs0 Hs1 Hs2 Hs3 Hs4 Hs5 _ _ _ _ hf)
abbrev LX4_readSum_15 : List (Nat × Nat × Option Nat) := LP_15
theorem rX4_readSum_33_15 {self : Nat → Nat → Int32 → mT → Option (mT)} (Hs0 : ∀ {v2 : Int32} {S S' : mT}, self 0 15 v2 S = some S' → Fr (inM 999999 LX4_readSum_15) S S') (Hs1 : ∀ {v2 : Int32} {S S' : mT}, self 1 15 v2 S = some S' → Fr (inM 999999 LX4_readSum_15) S S') (Hs2 : ∀ {v2 : Int32} {S S' : mT}, self 2 15 v2 S = some S' → Fr (inM 999999 LX4_readSum_15) S S') (Hs3 : ∀ {v2 : Int32} {S S' : mT}, self 3 15 v2 S = some S' → Fr (inM 999999 LX4_readSum_15) S S') (Hs4 : ∀ {v2 : Int32} {S S' : mT}, self 4 15 v2 S = some S' → Fr (inM 999999 LX4_readSum_15) S S') (Hs5 : ∀ {v2 : Int32} {S S' : mT}, self 5 15 v2 S = some S' → Fr (inM 999999 LX4_readSum_15) S S') {S' : mT} {rc8 : Int32 → Int32 → mT → Option (mT)} (Hrc8 : ∀ (v2 : Int32) (v3 : Int32) (S : mT), rc8 v2 v3 S = some S' → Fr (inM 999999 LX4_readSum_15) S S') {v2 : Int32} {v3 : Int32} {S : mT} (hf : fX4_readSum_33 15 self rc8 v2 v3 S = some S') : Fr (inM 999999 LX4_readSum_15) S S' := by
  unfold fX4_readSum_33 at hf
  obtain ⟨-, hf⟩ := grd_ex hf
  obtain ⟨x6, -, hf⟩ := bnd_ex hf
  obtain ⟨S7, hq, hf⟩ := bndV_ex hf
  have F := (Fr.rfl (inM 999999 LX4_readSum_15) _).trans ((rX4_advance hq).mono rfl (fun _ => rfl))
  obtain ⟨S8, hq, hf⟩ := bndV_ex hf
  have F := F.trans (Hs4 hq)
  obtain ⟨S9, hq, hf⟩ := bndV_ex hf
  have F := F.trans ((rX0_add_15 hq).mono rfl (fun _ => rfl))
  obtain ⟨x10, -, hf⟩ := bnd_ex hf
  exact F.trans (Hrc8 _ _ _ hf)
theorem rX4_readSum_65_15 {self : Nat → Nat → Int32 → mT → Option (mT)} (Hs0 : ∀ {v2 : Int32} {S S' : mT}, self 0 15 v2 S = some S' → Fr (inM 999999 LX4_readSum_15) S S') (Hs1 : ∀ {v2 : Int32} {S S' : mT}, self 1 15 v2 S = some S' → Fr (inM 999999 LX4_readSum_15) S S') (Hs2 : ∀ {v2 : Int32} {S S' : mT}, self 2 15 v2 S = some S' → Fr (inM 999999 LX4_readSum_15) S S') (Hs3 : ∀ {v2 : Int32} {S S' : mT}, self 3 15 v2 S = some S' → Fr (inM 999999 LX4_readSum_15) S S') (Hs4 : ∀ {v2 : Int32} {S S' : mT}, self 4 15 v2 S = some S' → Fr (inM 999999 LX4_readSum_15) S S') (Hs5 : ∀ {v2 : Int32} {S S' : mT}, self 5 15 v2 S = some S' → Fr (inM 999999 LX4_readSum_15) S S') {S' : mT} {S : mT} (hf : fX4_readSum_65 15 self S = some S') : Fr (inM 999999 LX4_readSum_15) S S' := by
  unfold fX4_readSum_65 at hf
  cases hf
  exact (Fr.rfl (inM 999999 LX4_readSum_15) _)
theorem rX4_readSum_8_15 {self : Nat → Nat → Int32 → mT → Option (mT)} (Hs0 : ∀ {v2 : Int32} {S S' : mT}, self 0 15 v2 S = some S' → Fr (inM 999999 LX4_readSum_15) S S') (Hs1 : ∀ {v2 : Int32} {S S' : mT}, self 1 15 v2 S = some S' → Fr (inM 999999 LX4_readSum_15) S S') (Hs2 : ∀ {v2 : Int32} {S S' : mT}, self 2 15 v2 S = some S' → Fr (inM 999999 LX4_readSum_15) S S') (Hs3 : ∀ {v2 : Int32} {S S' : mT}, self 3 15 v2 S = some S' → Fr (inM 999999 LX4_readSum_15) S S') (Hs4 : ∀ {v2 : Int32} {S S' : mT}, self 4 15 v2 S = some S' → Fr (inM 999999 LX4_readSum_15) S S') (Hs5 : ∀ {v2 : Int32} {S S' : mT}, self 5 15 v2 S = some S' → Fr (inM 999999 LX4_readSum_15) S S') {S' : mT} : ∀ (k : Nat) (v2 : Int32) (v3 : Int32) (S : mT), fX4_readSum_8 15 self k v2 v3 S = some S' → Fr (inM 999999 LX4_readSum_15) S S' := by
  intro k
  induction k with
  | zero =>
    intro v2 v3 S hf
    cases hf
  | succ k ih =>
    intro v2 v3 S hf
    unfold fX4_readSum_8 at hf
    by_cases hc : (1600 : Int32) ≤ v3
    · rw [if_pos hc] at hf
      exact (Fr.rfl (inM 999999 LX4_readSum_15) _).trans (rX4_readSum_65_15 Hs0 Hs1 Hs2 Hs3 Hs4 Hs5 hf)
    · rw [if_neg hc] at hf
      obtain ⟨x3, S2, hq, hf⟩ := bndC_ex hf
      have F := (Fr.rfl (inM 999999 LX4_readSum_15) _).trans ((rX4_isSign hq).mono rfl (fun _ => rfl))
      by_cases hc : x3 = 0
      · rw [if_pos hc] at hf
        obtain ⟨x5, S4, hq, hf⟩ := bndC_ex hf
        have F := F.trans ((rX4_isSign hq).mono rfl (fun _ => rfl))
        by_cases hc : x5 = 0
        · rw [if_pos hc] at hf
          exact F.trans (rX4_readSum_65_15 Hs0 Hs1 Hs2 Hs3 Hs4 Hs5 hf)
        · rw [if_neg hc] at hf
          exact F.trans (rX4_readSum_33_15 Hs0 Hs1 Hs2 Hs3 Hs4 Hs5 ih hf)
      · rw [if_neg hc] at hf
        exact F.trans (rX4_readSum_33_15 Hs0 Hs1 Hs2 Hs3 Hs4 Hs5 ih hf)
theorem rX4_readSum_0_15 {self : Nat → Nat → Int32 → mT → Option (mT)} (Hs0 : ∀ {v2 : Int32} {S S' : mT}, self 0 15 v2 S = some S' → Fr (inM 999999 LX4_readSum_15) S S') (Hs1 : ∀ {v2 : Int32} {S S' : mT}, self 1 15 v2 S = some S' → Fr (inM 999999 LX4_readSum_15) S S') (Hs2 : ∀ {v2 : Int32} {S S' : mT}, self 2 15 v2 S = some S' → Fr (inM 999999 LX4_readSum_15) S S') (Hs3 : ∀ {v2 : Int32} {S S' : mT}, self 3 15 v2 S = some S' → Fr (inM 999999 LX4_readSum_15) S S') (Hs4 : ∀ {v2 : Int32} {S S' : mT}, self 4 15 v2 S = some S' → Fr (inM 999999 LX4_readSum_15) S S') (Hs5 : ∀ {v2 : Int32} {S S' : mT}, self 5 15 v2 S = some S' → Fr (inM 999999 LX4_readSum_15) S S') {S' : mT} {v2 : Int32} {S : mT} (hf : fX4_readSum_0 15 self v2 S = some S') : Fr (inM 999999 LX4_readSum_15) S S' := by
  unfold fX4_readSum_0 at hf
  obtain ⟨S1, hq, hf⟩ := bndV_ex hf
  have F := (Fr.rfl (inM 999999 LX4_readSum_15) _).trans (Hs4 hq)
  exact F.trans (rX4_readSum_8_15 Hs0 Hs1 Hs2 Hs3 Hs4 Hs5 _ _ _ _ hf)
abbrev LX4_readSum_25 : List (Nat × Nat × Option Nat) := LP_25
theorem rX4_readSum_33_25 {self : Nat → Nat → Int32 → mT → Option (mT)} (Hs0 : ∀ {v2 : Int32} {S S' : mT}, self 0 25 v2 S = some S' → Fr (inM 999999 LX4_readSum_25) S S') (Hs1 : ∀ {v2 : Int32} {S S' : mT}, self 1 25 v2 S = some S' → Fr (inM 999999 LX4_readSum_25) S S') (Hs2 : ∀ {v2 : Int32} {S S' : mT}, self 2 25 v2 S = some S' → Fr (inM 999999 LX4_readSum_25) S S') (Hs3 : ∀ {v2 : Int32} {S S' : mT}, self 3 25 v2 S = some S' → Fr (inM 999999 LX4_readSum_25) S S') (Hs4 : ∀ {v2 : Int32} {S S' : mT}, self 4 25 v2 S = some S' → Fr (inM 999999 LX4_readSum_25) S S') (Hs5 : ∀ {v2 : Int32} {S S' : mT}, self 5 25 v2 S = some S' → Fr (inM 999999 LX4_readSum_25) S S') {S' : mT} {rc8 : Int32 → Int32 → mT → Option (mT)} (Hrc8 : ∀ (v2 : Int32) (v3 : Int32) (S : mT), rc8 v2 v3 S = some S' → Fr (inM 999999 LX4_readSum_25) S S') {v2 : Int32} {v3 : Int32} {S : mT} (hf : fX4_readSum_33 25 self rc8 v2 v3 S = some S') : Fr (inM 999999 LX4_readSum_25) S S' := by
  unfold fX4_readSum_33 at hf
  obtain ⟨-, hf⟩ := grd_ex hf
  obtain ⟨x6, -, hf⟩ := bnd_ex hf
  obtain ⟨S7, hq, hf⟩ := bndV_ex hf
  have F := (Fr.rfl (inM 999999 LX4_readSum_25) _).trans ((rX4_advance hq).mono rfl (fun _ => rfl))
  obtain ⟨S8, hq, hf⟩ := bndV_ex hf
  have F := F.trans (Hs4 hq)
  obtain ⟨S9, hq, hf⟩ := bndV_ex hf
  have F := F.trans ((rX0_add_25 hq).mono rfl (fun _ => rfl))
  obtain ⟨x10, -, hf⟩ := bnd_ex hf
  exact F.trans (Hrc8 _ _ _ hf)
theorem rX4_readSum_65_25 {self : Nat → Nat → Int32 → mT → Option (mT)} (Hs0 : ∀ {v2 : Int32} {S S' : mT}, self 0 25 v2 S = some S' → Fr (inM 999999 LX4_readSum_25) S S') (Hs1 : ∀ {v2 : Int32} {S S' : mT}, self 1 25 v2 S = some S' → Fr (inM 999999 LX4_readSum_25) S S') (Hs2 : ∀ {v2 : Int32} {S S' : mT}, self 2 25 v2 S = some S' → Fr (inM 999999 LX4_readSum_25) S S') (Hs3 : ∀ {v2 : Int32} {S S' : mT}, self 3 25 v2 S = some S' → Fr (inM 999999 LX4_readSum_25) S S') (Hs4 : ∀ {v2 : Int32} {S S' : mT}, self 4 25 v2 S = some S' → Fr (inM 999999 LX4_readSum_25) S S') (Hs5 : ∀ {v2 : Int32} {S S' : mT}, self 5 25 v2 S = some S' → Fr (inM 999999 LX4_readSum_25) S S') {S' : mT} {S : mT} (hf : fX4_readSum_65 25 self S = some S') : Fr (inM 999999 LX4_readSum_25) S S' := by
  unfold fX4_readSum_65 at hf
  cases hf
  exact (Fr.rfl (inM 999999 LX4_readSum_25) _)
theorem rX4_readSum_8_25 {self : Nat → Nat → Int32 → mT → Option (mT)} (Hs0 : ∀ {v2 : Int32} {S S' : mT}, self 0 25 v2 S = some S' → Fr (inM 999999 LX4_readSum_25) S S') (Hs1 : ∀ {v2 : Int32} {S S' : mT}, self 1 25 v2 S = some S' → Fr (inM 999999 LX4_readSum_25) S S') (Hs2 : ∀ {v2 : Int32} {S S' : mT}, self 2 25 v2 S = some S' → Fr (inM 999999 LX4_readSum_25) S S') (Hs3 : ∀ {v2 : Int32} {S S' : mT}, self 3 25 v2 S = some S' → Fr (inM 999999 LX4_readSum_25) S S') (Hs4 : ∀ {v2 : Int32} {S S' : mT}, self 4 25 v2 S = some S' → Fr (inM 999999 LX4_readSum_25) S S') (Hs5 : ∀ {v2 : Int32} {S S' : mT}, self 5 25 v2 S = some S' → Fr (inM 999999 LX4_readSum_25) S S') {S' : mT} : ∀ (k : Nat) (v2 : Int32) (v3 : Int32) (S : mT), fX4_readSum_8 25 self k v2 v3 S = some S' → Fr (inM 999999 LX4_readSum_25) S S' := by
  intro k
  induction k with
  | zero =>
    intro v2 v3 S hf
    cases hf
  | succ k ih =>
    intro v2 v3 S hf
    unfold fX4_readSum_8 at hf
    by_cases hc : (1600 : Int32) ≤ v3
    · rw [if_pos hc] at hf
      exact (Fr.rfl (inM 999999 LX4_readSum_25) _).trans (rX4_readSum_65_25 Hs0 Hs1 Hs2 Hs3 Hs4 Hs5 hf)
    · rw [if_neg hc] at hf
      obtain ⟨x3, S2, hq, hf⟩ := bndC_ex hf
      have F := (Fr.rfl (inM 999999 LX4_readSum_25) _).trans ((rX4_isSign hq).mono rfl (fun _ => rfl))
      by_cases hc : x3 = 0
      · rw [if_pos hc] at hf
        obtain ⟨x5, S4, hq, hf⟩ := bndC_ex hf
        have F := F.trans ((rX4_isSign hq).mono rfl (fun _ => rfl))
        by_cases hc : x5 = 0
        · rw [if_pos hc] at hf
          exact F.trans (rX4_readSum_65_25 Hs0 Hs1 Hs2 Hs3 Hs4 Hs5 hf)
        · rw [if_neg hc] at hf
          exact F.trans (rX4_readSum_33_25 Hs0 Hs1 Hs2 Hs3 Hs4 Hs5 ih hf)
      · rw [if_neg hc] at hf
        exact F.trans (rX4_readSum_33_25 Hs0 Hs1 Hs2 Hs3 Hs4 Hs5 ih hf)
theorem rX4_readSum_0_25 {self : Nat → Nat → Int32 → mT → Option (mT)} (Hs0 : ∀ {v2 : Int32} {S S' : mT}, self 0 25 v2 S = some S' → Fr (inM 999999 LX4_readSum_25) S S') (Hs1 : ∀ {v2 : Int32} {S S' : mT}, self 1 25 v2 S = some S' → Fr (inM 999999 LX4_readSum_25) S S') (Hs2 : ∀ {v2 : Int32} {S S' : mT}, self 2 25 v2 S = some S' → Fr (inM 999999 LX4_readSum_25) S S') (Hs3 : ∀ {v2 : Int32} {S S' : mT}, self 3 25 v2 S = some S' → Fr (inM 999999 LX4_readSum_25) S S') (Hs4 : ∀ {v2 : Int32} {S S' : mT}, self 4 25 v2 S = some S' → Fr (inM 999999 LX4_readSum_25) S S') (Hs5 : ∀ {v2 : Int32} {S S' : mT}, self 5 25 v2 S = some S' → Fr (inM 999999 LX4_readSum_25) S S') {S' : mT} {v2 : Int32} {S : mT} (hf : fX4_readSum_0 25 self v2 S = some S') : Fr (inM 999999 LX4_readSum_25) S S' := by
  unfold fX4_readSum_0 at hf
  obtain ⟨S1, hq, hf⟩ := bndV_ex hf
  have F := (Fr.rfl (inM 999999 LX4_readSum_25) _).trans (Hs4 hq)
  exact F.trans (rX4_readSum_8_25 Hs0 Hs1 Hs2 Hs3 Hs4 Hs5 _ _ _ _ hf)
abbrev LX4_readSum_28 : List (Nat × Nat × Option Nat) := LP_28
theorem rX4_readSum_33_28 {self : Nat → Nat → Int32 → mT → Option (mT)} (Hs0 : ∀ {v2 : Int32} {S S' : mT}, self 0 28 v2 S = some S' → Fr (inM 999999 LX4_readSum_28) S S') (Hs1 : ∀ {v2 : Int32} {S S' : mT}, self 1 28 v2 S = some S' → Fr (inM 999999 LX4_readSum_28) S S') (Hs2 : ∀ {v2 : Int32} {S S' : mT}, self 2 28 v2 S = some S' → Fr (inM 999999 LX4_readSum_28) S S') (Hs3 : ∀ {v2 : Int32} {S S' : mT}, self 3 28 v2 S = some S' → Fr (inM 999999 LX4_readSum_28) S S') (Hs4 : ∀ {v2 : Int32} {S S' : mT}, self 4 28 v2 S = some S' → Fr (inM 999999 LX4_readSum_28) S S') (Hs5 : ∀ {v2 : Int32} {S S' : mT}, self 5 28 v2 S = some S' → Fr (inM 999999 LX4_readSum_28) S S') {S' : mT} {rc8 : Int32 → Int32 → mT → Option (mT)} (Hrc8 : ∀ (v2 : Int32) (v3 : Int32) (S : mT), rc8 v2 v3 S = some S' → Fr (inM 999999 LX4_readSum_28) S S') {v2 : Int32} {v3 : Int32} {S : mT} (hf : fX4_readSum_33 28 self rc8 v2 v3 S = some S') : Fr (inM 999999 LX4_readSum_28) S S' := by
  unfold fX4_readSum_33 at hf
  obtain ⟨-, hf⟩ := grd_ex hf
  obtain ⟨x6, -, hf⟩ := bnd_ex hf
  obtain ⟨S7, hq, hf⟩ := bndV_ex hf
  have F := (Fr.rfl (inM 999999 LX4_readSum_28) _).trans ((rX4_advance hq).mono rfl (fun _ => rfl))
  obtain ⟨S8, hq, hf⟩ := bndV_ex hf
  have F := F.trans (Hs4 hq)
  obtain ⟨S9, hq, hf⟩ := bndV_ex hf
  have F := F.trans ((rX0_add_28 hq).mono rfl (fun _ => rfl))
  obtain ⟨x10, -, hf⟩ := bnd_ex hf
  exact F.trans (Hrc8 _ _ _ hf)
theorem rX4_readSum_65_28 {self : Nat → Nat → Int32 → mT → Option (mT)} (Hs0 : ∀ {v2 : Int32} {S S' : mT}, self 0 28 v2 S = some S' → Fr (inM 999999 LX4_readSum_28) S S') (Hs1 : ∀ {v2 : Int32} {S S' : mT}, self 1 28 v2 S = some S' → Fr (inM 999999 LX4_readSum_28) S S') (Hs2 : ∀ {v2 : Int32} {S S' : mT}, self 2 28 v2 S = some S' → Fr (inM 999999 LX4_readSum_28) S S') (Hs3 : ∀ {v2 : Int32} {S S' : mT}, self 3 28 v2 S = some S' → Fr (inM 999999 LX4_readSum_28) S S') (Hs4 : ∀ {v2 : Int32} {S S' : mT}, self 4 28 v2 S = some S' → Fr (inM 999999 LX4_readSum_28) S S') (Hs5 : ∀ {v2 : Int32} {S S' : mT}, self 5 28 v2 S = some S' → Fr (inM 999999 LX4_readSum_28) S S') {S' : mT} {S : mT} (hf : fX4_readSum_65 28 self S = some S') : Fr (inM 999999 LX4_readSum_28) S S' := by
  unfold fX4_readSum_65 at hf
  cases hf
  exact (Fr.rfl (inM 999999 LX4_readSum_28) _)
theorem rX4_readSum_8_28 {self : Nat → Nat → Int32 → mT → Option (mT)} (Hs0 : ∀ {v2 : Int32} {S S' : mT}, self 0 28 v2 S = some S' → Fr (inM 999999 LX4_readSum_28) S S') (Hs1 : ∀ {v2 : Int32} {S S' : mT}, self 1 28 v2 S = some S' → Fr (inM 999999 LX4_readSum_28) S S') (Hs2 : ∀ {v2 : Int32} {S S' : mT}, self 2 28 v2 S = some S' → Fr (inM 999999 LX4_readSum_28) S S') (Hs3 : ∀ {v2 : Int32} {S S' : mT}, self 3 28 v2 S = some S' → Fr (inM 999999 LX4_readSum_28) S S') (Hs4 : ∀ {v2 : Int32} {S S' : mT}, self 4 28 v2 S = some S' → Fr (inM 999999 LX4_readSum_28) S S') (Hs5 : ∀ {v2 : Int32} {S S' : mT}, self 5 28 v2 S = some S' → Fr (inM 999999 LX4_readSum_28) S S') {S' : mT} : ∀ (k : Nat) (v2 : Int32) (v3 : Int32) (S : mT), fX4_readSum_8 28 self k v2 v3 S = some S' → Fr (inM 999999 LX4_readSum_28) S S' := by
  intro k
  induction k with
  | zero =>
    intro v2 v3 S hf
    cases hf
  | succ k ih =>
    intro v2 v3 S hf
    unfold fX4_readSum_8 at hf
    by_cases hc : (1600 : Int32) ≤ v3
    · rw [if_pos hc] at hf
      exact (Fr.rfl (inM 999999 LX4_readSum_28) _).trans (rX4_readSum_65_28 Hs0 Hs1 Hs2 Hs3 Hs4 Hs5 hf)
    · rw [if_neg hc] at hf
      obtain ⟨x3, S2, hq, hf⟩ := bndC_ex hf
      have F := (Fr.rfl (inM 999999 LX4_readSum_28) _).trans ((rX4_isSign hq).mono rfl (fun _ => rfl))
      by_cases hc : x3 = 0
      · rw [if_pos hc] at hf
        obtain ⟨x5, S4, hq, hf⟩ := bndC_ex hf
        have F := F.trans ((rX4_isSign hq).mono rfl (fun _ => rfl))
        by_cases hc : x5 = 0
        · rw [if_pos hc] at hf
          exact F.trans (rX4_readSum_65_28 Hs0 Hs1 Hs2 Hs3 Hs4 Hs5 hf)
        · rw [if_neg hc] at hf
          exact F.trans (rX4_readSum_33_28 Hs0 Hs1 Hs2 Hs3 Hs4 Hs5 ih hf)
      · rw [if_neg hc] at hf
        exact F.trans (rX4_readSum_33_28 Hs0 Hs1 Hs2 Hs3 Hs4 Hs5 ih hf)
theorem rX4_readSum_0_28 {self : Nat → Nat → Int32 → mT → Option (mT)} (Hs0 : ∀ {v2 : Int32} {S S' : mT}, self 0 28 v2 S = some S' → Fr (inM 999999 LX4_readSum_28) S S') (Hs1 : ∀ {v2 : Int32} {S S' : mT}, self 1 28 v2 S = some S' → Fr (inM 999999 LX4_readSum_28) S S') (Hs2 : ∀ {v2 : Int32} {S S' : mT}, self 2 28 v2 S = some S' → Fr (inM 999999 LX4_readSum_28) S S') (Hs3 : ∀ {v2 : Int32} {S S' : mT}, self 3 28 v2 S = some S' → Fr (inM 999999 LX4_readSum_28) S S') (Hs4 : ∀ {v2 : Int32} {S S' : mT}, self 4 28 v2 S = some S' → Fr (inM 999999 LX4_readSum_28) S S') (Hs5 : ∀ {v2 : Int32} {S S' : mT}, self 5 28 v2 S = some S' → Fr (inM 999999 LX4_readSum_28) S S') {S' : mT} {v2 : Int32} {S : mT} (hf : fX4_readSum_0 28 self v2 S = some S') : Fr (inM 999999 LX4_readSum_28) S S' := by
  unfold fX4_readSum_0 at hf
  obtain ⟨S1, hq, hf⟩ := bndV_ex hf
  have F := (Fr.rfl (inM 999999 LX4_readSum_28) _).trans (Hs4 hq)
  exact F.trans (rX4_readSum_8_28 Hs0 Hs1 Hs2 Hs3 Hs4 Hs5 _ _ _ _ hf)
abbrev LX4_readSum_31 : List (Nat × Nat × Option Nat) := LP_31
theorem rX4_readSum_33_31 {self : Nat → Nat → Int32 → mT → Option (mT)} (Hs0 : ∀ {v2 : Int32} {S S' : mT}, self 0 31 v2 S = some S' → Fr (inM 999999 LX4_readSum_31) S S') (Hs1 : ∀ {v2 : Int32} {S S' : mT}, self 1 31 v2 S = some S' → Fr (inM 999999 LX4_readSum_31) S S') (Hs2 : ∀ {v2 : Int32} {S S' : mT}, self 2 31 v2 S = some S' → Fr (inM 999999 LX4_readSum_31) S S') (Hs3 : ∀ {v2 : Int32} {S S' : mT}, self 3 31 v2 S = some S' → Fr (inM 999999 LX4_readSum_31) S S') (Hs4 : ∀ {v2 : Int32} {S S' : mT}, self 4 31 v2 S = some S' → Fr (inM 999999 LX4_readSum_31) S S') (Hs5 : ∀ {v2 : Int32} {S S' : mT}, self 5 31 v2 S = some S' → Fr (inM 999999 LX4_readSum_31) S S') {S' : mT} {rc8 : Int32 → Int32 → mT → Option (mT)} (Hrc8 : ∀ (v2 : Int32) (v3 : Int32) (S : mT), rc8 v2 v3 S = some S' → Fr (inM 999999 LX4_readSum_31) S S') {v2 : Int32} {v3 : Int32} {S : mT} (hf : fX4_readSum_33 31 self rc8 v2 v3 S = some S') : Fr (inM 999999 LX4_readSum_31) S S' := by
  unfold fX4_readSum_33 at hf
  obtain ⟨-, hf⟩ := grd_ex hf
  obtain ⟨x6, -, hf⟩ := bnd_ex hf
  obtain ⟨S7, hq, hf⟩ := bndV_ex hf
  have F := (Fr.rfl (inM 999999 LX4_readSum_31) _).trans ((rX4_advance hq).mono rfl (fun _ => rfl))
  obtain ⟨S8, hq, hf⟩ := bndV_ex hf
  have F := F.trans (Hs4 hq)
  obtain ⟨S9, hq, hf⟩ := bndV_ex hf
  have F := F.trans ((rX0_add_31 hq).mono rfl (fun _ => rfl))
  obtain ⟨x10, -, hf⟩ := bnd_ex hf
  exact F.trans (Hrc8 _ _ _ hf)
theorem rX4_readSum_65_31 {self : Nat → Nat → Int32 → mT → Option (mT)} (Hs0 : ∀ {v2 : Int32} {S S' : mT}, self 0 31 v2 S = some S' → Fr (inM 999999 LX4_readSum_31) S S') (Hs1 : ∀ {v2 : Int32} {S S' : mT}, self 1 31 v2 S = some S' → Fr (inM 999999 LX4_readSum_31) S S') (Hs2 : ∀ {v2 : Int32} {S S' : mT}, self 2 31 v2 S = some S' → Fr (inM 999999 LX4_readSum_31) S S') (Hs3 : ∀ {v2 : Int32} {S S' : mT}, self 3 31 v2 S = some S' → Fr (inM 999999 LX4_readSum_31) S S') (Hs4 : ∀ {v2 : Int32} {S S' : mT}, self 4 31 v2 S = some S' → Fr (inM 999999 LX4_readSum_31) S S') (Hs5 : ∀ {v2 : Int32} {S S' : mT}, self 5 31 v2 S = some S' → Fr (inM 999999 LX4_readSum_31) S S') {S' : mT} {S : mT} (hf : fX4_readSum_65 31 self S = some S') : Fr (inM 999999 LX4_readSum_31) S S' := by
  unfold fX4_readSum_65 at hf
  cases hf
  exact (Fr.rfl (inM 999999 LX4_readSum_31) _)
theorem rX4_readSum_8_31 {self : Nat → Nat → Int32 → mT → Option (mT)} (Hs0 : ∀ {v2 : Int32} {S S' : mT}, self 0 31 v2 S = some S' → Fr (inM 999999 LX4_readSum_31) S S') (Hs1 : ∀ {v2 : Int32} {S S' : mT}, self 1 31 v2 S = some S' → Fr (inM 999999 LX4_readSum_31) S S') (Hs2 : ∀ {v2 : Int32} {S S' : mT}, self 2 31 v2 S = some S' → Fr (inM 999999 LX4_readSum_31) S S') (Hs3 : ∀ {v2 : Int32} {S S' : mT}, self 3 31 v2 S = some S' → Fr (inM 999999 LX4_readSum_31) S S') (Hs4 : ∀ {v2 : Int32} {S S' : mT}, self 4 31 v2 S = some S' → Fr (inM 999999 LX4_readSum_31) S S') (Hs5 : ∀ {v2 : Int32} {S S' : mT}, self 5 31 v2 S = some S' → Fr (inM 999999 LX4_readSum_31) S S') {S' : mT} : ∀ (k : Nat) (v2 : Int32) (v3 : Int32) (S : mT), fX4_readSum_8 31 self k v2 v3 S = some S' → Fr (inM 999999 LX4_readSum_31) S S' := by
  intro k
  induction k with
  | zero =>
    intro v2 v3 S hf
    cases hf
  | succ k ih =>
    intro v2 v3 S hf
    unfold fX4_readSum_8 at hf
    by_cases hc : (1600 : Int32) ≤ v3
    · rw [if_pos hc] at hf
      exact (Fr.rfl (inM 999999 LX4_readSum_31) _).trans (rX4_readSum_65_31 Hs0 Hs1 Hs2 Hs3 Hs4 Hs5 hf)
    · rw [if_neg hc] at hf
      obtain ⟨x3, S2, hq, hf⟩ := bndC_ex hf
      have F := (Fr.rfl (inM 999999 LX4_readSum_31) _).trans ((rX4_isSign hq).mono rfl (fun _ => rfl))
      by_cases hc : x3 = 0
      · rw [if_pos hc] at hf
        obtain ⟨x5, S4, hq, hf⟩ := bndC_ex hf
        have F := F.trans ((rX4_isSign hq).mono rfl (fun _ => rfl))
        by_cases hc : x5 = 0
        · rw [if_pos hc] at hf
          exact F.trans (rX4_readSum_65_31 Hs0 Hs1 Hs2 Hs3 Hs4 Hs5 hf)
        · rw [if_neg hc] at hf
          exact F.trans (rX4_readSum_33_31 Hs0 Hs1 Hs2 Hs3 Hs4 Hs5 ih hf)
      · rw [if_neg hc] at hf
        exact F.trans (rX4_readSum_33_31 Hs0 Hs1 Hs2 Hs3 Hs4 Hs5 ih hf)
theorem rX4_readSum_0_31 {self : Nat → Nat → Int32 → mT → Option (mT)} (Hs0 : ∀ {v2 : Int32} {S S' : mT}, self 0 31 v2 S = some S' → Fr (inM 999999 LX4_readSum_31) S S') (Hs1 : ∀ {v2 : Int32} {S S' : mT}, self 1 31 v2 S = some S' → Fr (inM 999999 LX4_readSum_31) S S') (Hs2 : ∀ {v2 : Int32} {S S' : mT}, self 2 31 v2 S = some S' → Fr (inM 999999 LX4_readSum_31) S S') (Hs3 : ∀ {v2 : Int32} {S S' : mT}, self 3 31 v2 S = some S' → Fr (inM 999999 LX4_readSum_31) S S') (Hs4 : ∀ {v2 : Int32} {S S' : mT}, self 4 31 v2 S = some S' → Fr (inM 999999 LX4_readSum_31) S S') (Hs5 : ∀ {v2 : Int32} {S S' : mT}, self 5 31 v2 S = some S' → Fr (inM 999999 LX4_readSum_31) S S') {S' : mT} {v2 : Int32} {S : mT} (hf : fX4_readSum_0 31 self v2 S = some S') : Fr (inM 999999 LX4_readSum_31) S S' := by
  unfold fX4_readSum_0 at hf
  obtain ⟨S1, hq, hf⟩ := bndV_ex hf
  have F := (Fr.rfl (inM 999999 LX4_readSum_31) _).trans (Hs4 hq)
  exact F.trans (rX4_readSum_8_31 Hs0 Hs1 Hs2 Hs3 Hs4 Hs5 _ _ _ _ hf)
abbrev LX4_readTerm_9 : List (Nat × Nat × Option Nat) := LP_9
theorem rX4_readTerm_42_9 {self : Nat → Nat → Int32 → mT → Option (mT)} (Hs0 : ∀ {v2 : Int32} {S S' : mT}, self 0 9 v2 S = some S' → Fr (inM 999999 LX4_readTerm_9) S S') (Hs1 : ∀ {v2 : Int32} {S S' : mT}, self 1 9 v2 S = some S' → Fr (inM 999999 LX4_readTerm_9) S S') (Hs2 : ∀ {v2 : Int32} {S S' : mT}, self 2 9 v2 S = some S' → Fr (inM 999999 LX4_readTerm_9) S S') (Hs3 : ∀ {v2 : Int32} {S S' : mT}, self 3 9 v2 S = some S' → Fr (inM 999999 LX4_readTerm_9) S S') (Hs4 : ∀ {v2 : Int32} {S S' : mT}, self 4 9 v2 S = some S' → Fr (inM 999999 LX4_readTerm_9) S S') (Hs5 : ∀ {v2 : Int32} {S S' : mT}, self 5 9 v2 S = some S' → Fr (inM 999999 LX4_readTerm_9) S S') {S' : mT} {rc8 : Int32 → Int32 → mT → Option (mT)} (Hrc8 : ∀ (v2 : Int32) (v3 : Int32) (S : mT), rc8 v2 v3 S = some S' → Fr (inM 999999 LX4_readTerm_9) S S') {v2 : Int32} {v3 : Int32} {S : mT} (hf : fX4_readTerm_42 9 self rc8 v2 v3 S = some S') : Fr (inM 999999 LX4_readTerm_9) S S' := by
  unfold fX4_readTerm_42 at hf
  obtain ⟨-, hf⟩ := grd_ex hf
  obtain ⟨x8, -, hf⟩ := bnd_ex hf
  obtain ⟨S9, hq, hf⟩ := bndV_ex hf
  have F := (Fr.rfl (inM 999999 LX4_readTerm_9) _).trans ((rX4_advance hq).mono rfl (fun _ => rfl))
  obtain ⟨S10, hq, hf⟩ := bndV_ex hf
  have F := F.trans (Hs5 hq)
  obtain ⟨S11, hq, hf⟩ := bndV_ex hf
  have F := F.trans ((rX0_add_9 hq).mono rfl (fun _ => rfl))
  obtain ⟨x12, -, hf⟩ := bnd_ex hf
  exact F.trans (Hrc8 _ _ _ hf)
theorem rX4_readTerm_74_9 {self : Nat → Nat → Int32 → mT → Option (mT)} (Hs0 : ∀ {v2 : Int32} {S S' : mT}, self 0 9 v2 S = some S' → Fr (inM 999999 LX4_readTerm_9) S S') (Hs1 : ∀ {v2 : Int32} {S S' : mT}, self 1 9 v2 S = some S' → Fr (inM 999999 LX4_readTerm_9) S S') (Hs2 : ∀ {v2 : Int32} {S S' : mT}, self 2 9 v2 S = some S' → Fr (inM 999999 LX4_readTerm_9) S S') (Hs3 : ∀ {v2 : Int32} {S S' : mT}, self 3 9 v2 S = some S' → Fr (inM 999999 LX4_readTerm_9) S S') (Hs4 : ∀ {v2 : Int32} {S S' : mT}, self 4 9 v2 S = some S' → Fr (inM 999999 LX4_readTerm_9) S S') (Hs5 : ∀ {v2 : Int32} {S S' : mT}, self 5 9 v2 S = some S' → Fr (inM 999999 LX4_readTerm_9) S S') {S' : mT} {S : mT} (hf : fX4_readTerm_74 9 self S = some S') : Fr (inM 999999 LX4_readTerm_9) S S' := by
  unfold fX4_readTerm_74 at hf
  cases hf
  exact (Fr.rfl (inM 999999 LX4_readTerm_9) _)
theorem rX4_readTerm_8_9 {self : Nat → Nat → Int32 → mT → Option (mT)} (Hs0 : ∀ {v2 : Int32} {S S' : mT}, self 0 9 v2 S = some S' → Fr (inM 999999 LX4_readTerm_9) S S') (Hs1 : ∀ {v2 : Int32} {S S' : mT}, self 1 9 v2 S = some S' → Fr (inM 999999 LX4_readTerm_9) S S') (Hs2 : ∀ {v2 : Int32} {S S' : mT}, self 2 9 v2 S = some S' → Fr (inM 999999 LX4_readTerm_9) S S') (Hs3 : ∀ {v2 : Int32} {S S' : mT}, self 3 9 v2 S = some S' → Fr (inM 999999 LX4_readTerm_9) S S') (Hs4 : ∀ {v2 : Int32} {S S' : mT}, self 4 9 v2 S = some S' → Fr (inM 999999 LX4_readTerm_9) S S') (Hs5 : ∀ {v2 : Int32} {S S' : mT}, self 5 9 v2 S = some S' → Fr (inM 999999 LX4_readTerm_9) S S') {S' : mT} : ∀ (k : Nat) (v2 : Int32) (v3 : Int32) (S : mT), fX4_readTerm_8 9 self k v2 v3 S = some S' → Fr (inM 999999 LX4_readTerm_9) S S' := by
  intro k
  induction k with
  | zero =>
    intro v2 v3 S hf
    cases hf
  | succ k ih =>
    intro v2 v3 S hf
    unfold fX4_readTerm_8 at hf
    by_cases hc : (1600 : Int32) ≤ v3
    · rw [if_pos hc] at hf
      exact (Fr.rfl (inM 999999 LX4_readTerm_9) _).trans (rX4_readTerm_74_9 Hs0 Hs1 Hs2 Hs3 Hs4 Hs5 hf)
    · rw [if_neg hc] at hf
      obtain ⟨x3, S2, hq, hf⟩ := bndC_ex hf
      have F := (Fr.rfl (inM 999999 LX4_readTerm_9) _).trans ((rX4_isSign hq).mono rfl (fun _ => rfl))
      by_cases hc : x3 = 0
      · rw [if_pos hc] at hf
        obtain ⟨x5, S4, hq, hf⟩ := bndC_ex hf
        have F := F.trans ((rX4_isSign hq).mono rfl (fun _ => rfl))
        by_cases hc : x5 = 0
        · rw [if_pos hc] at hf
          obtain ⟨x7, S6, hq, hf⟩ := bndC_ex hf
          have F := F.trans ((rX4_isSign hq).mono rfl (fun _ => rfl))
          by_cases hc : x7 = 0
          · rw [if_pos hc] at hf
            exact F.trans (rX4_readTerm_74_9 Hs0 Hs1 Hs2 Hs3 Hs4 Hs5 hf)
          · rw [if_neg hc] at hf
            exact F.trans (rX4_readTerm_42_9 Hs0 Hs1 Hs2 Hs3 Hs4 Hs5 ih hf)
        · rw [if_neg hc] at hf
          exact F.trans (rX4_readTerm_42_9 Hs0 Hs1 Hs2 Hs3 Hs4 Hs5 ih hf)
      · rw [if_neg hc] at hf
        exact F.trans (rX4_readTerm_42_9 Hs0 Hs1 Hs2 Hs3 Hs4 Hs5 ih hf)
theorem rX4_readTerm_0_9 {self : Nat → Nat → Int32 → mT → Option (mT)} (Hs0 : ∀ {v2 : Int32} {S S' : mT}, self 0 9 v2 S = some S' → Fr (inM 999999 LX4_readTerm_9) S S') (Hs1 : ∀ {v2 : Int32} {S S' : mT}, self 1 9 v2 S = some S' → Fr (inM 999999 LX4_readTerm_9) S S') (Hs2 : ∀ {v2 : Int32} {S S' : mT}, self 2 9 v2 S = some S' → Fr (inM 999999 LX4_readTerm_9) S S') (Hs3 : ∀ {v2 : Int32} {S S' : mT}, self 3 9 v2 S = some S' → Fr (inM 999999 LX4_readTerm_9) S S') (Hs4 : ∀ {v2 : Int32} {S S' : mT}, self 4 9 v2 S = some S' → Fr (inM 999999 LX4_readTerm_9) S S') (Hs5 : ∀ {v2 : Int32} {S S' : mT}, self 5 9 v2 S = some S' → Fr (inM 999999 LX4_readTerm_9) S S') {S' : mT} {v2 : Int32} {S : mT} (hf : fX4_readTerm_0 9 self v2 S = some S') : Fr (inM 999999 LX4_readTerm_9) S S' := by
  unfold fX4_readTerm_0 at hf
  obtain ⟨S1, hq, hf⟩ := bndV_ex hf
  have F := (Fr.rfl (inM 999999 LX4_readTerm_9) _).trans (Hs5 hq)
  exact F.trans (rX4_readTerm_8_9 Hs0 Hs1 Hs2 Hs3 Hs4 Hs5 _ _ _ _ hf)
abbrev LX4_readTerm_12 : List (Nat × Nat × Option Nat) := LP_12
theorem rX4_readTerm_42_12 {self : Nat → Nat → Int32 → mT → Option (mT)} (Hs0 : ∀ {v2 : Int32} {S S' : mT}, self 0 12 v2 S = some S' → Fr (inM 999999 LX4_readTerm_12) S S') (Hs1 : ∀ {v2 : Int32} {S S' : mT}, self 1 12 v2 S = some S' → Fr (inM 999999 LX4_readTerm_12) S S') (Hs2 : ∀ {v2 : Int32} {S S' : mT}, self 2 12 v2 S = some S' → Fr (inM 999999 LX4_readTerm_12) S S') (Hs3 : ∀ {v2 : Int32} {S S' : mT}, self 3 12 v2 S = some S' → Fr (inM 999999 LX4_readTerm_12) S S') (Hs4 : ∀ {v2 : Int32} {S S' : mT}, self 4 12 v2 S = some S' → Fr (inM 999999 LX4_readTerm_12) S S') (Hs5 : ∀ {v2 : Int32} {S S' : mT}, self 5 12 v2 S = some S' → Fr (inM 999999 LX4_readTerm_12) S S') {S' : mT} {rc8 : Int32 → Int32 → mT → Option (mT)} (Hrc8 : ∀ (v2 : Int32) (v3 : Int32) (S : mT), rc8 v2 v3 S = some S' → Fr (inM 999999 LX4_readTerm_12) S S') {v2 : Int32} {v3 : Int32} {S : mT} (hf : fX4_readTerm_42 12 self rc8 v2 v3 S = some S') : Fr (inM 999999 LX4_readTerm_12) S S' := by
  unfold fX4_readTerm_42 at hf
  obtain ⟨-, hf⟩ := grd_ex hf
  obtain ⟨x8, -, hf⟩ := bnd_ex hf
  obtain ⟨S9, hq, hf⟩ := bndV_ex hf
  have F := (Fr.rfl (inM 999999 LX4_readTerm_12) _).trans ((rX4_advance hq).mono rfl (fun _ => rfl))
  obtain ⟨S10, hq, hf⟩ := bndV_ex hf
  have F := F.trans (Hs5 hq)
  obtain ⟨S11, hq, hf⟩ := bndV_ex hf
  have F := F.trans ((rX0_add_12 hq).mono rfl (fun _ => rfl))
  obtain ⟨x12, -, hf⟩ := bnd_ex hf
  exact F.trans (Hrc8 _ _ _ hf)
theorem rX4_readTerm_74_12 {self : Nat → Nat → Int32 → mT → Option (mT)} (Hs0 : ∀ {v2 : Int32} {S S' : mT}, self 0 12 v2 S = some S' → Fr (inM 999999 LX4_readTerm_12) S S') (Hs1 : ∀ {v2 : Int32} {S S' : mT}, self 1 12 v2 S = some S' → Fr (inM 999999 LX4_readTerm_12) S S') (Hs2 : ∀ {v2 : Int32} {S S' : mT}, self 2 12 v2 S = some S' → Fr (inM 999999 LX4_readTerm_12) S S') (Hs3 : ∀ {v2 : Int32} {S S' : mT}, self 3 12 v2 S = some S' → Fr (inM 999999 LX4_readTerm_12) S S') (Hs4 : ∀ {v2 : Int32} {S S' : mT}, self 4 12 v2 S = some S' → Fr (inM 999999 LX4_readTerm_12) S S') (Hs5 : ∀ {v2 : Int32} {S S' : mT}, self 5 12 v2 S = some S' → Fr (inM 999999 LX4_readTerm_12) S S') {S' : mT} {S : mT} (hf : fX4_readTerm_74 12 self S = some S') : Fr (inM 999999 LX4_readTerm_12) S S' := by
  unfold fX4_readTerm_74 at hf
  cases hf
  exact (Fr.rfl (inM 999999 LX4_readTerm_12) _)
theorem rX4_readTerm_8_12 {self : Nat → Nat → Int32 → mT → Option (mT)} (Hs0 : ∀ {v2 : Int32} {S S' : mT}, self 0 12 v2 S = some S' → Fr (inM 999999 LX4_readTerm_12) S S') (Hs1 : ∀ {v2 : Int32} {S S' : mT}, self 1 12 v2 S = some S' → Fr (inM 999999 LX4_readTerm_12) S S') (Hs2 : ∀ {v2 : Int32} {S S' : mT}, self 2 12 v2 S = some S' → Fr (inM 999999 LX4_readTerm_12) S S') (Hs3 : ∀ {v2 : Int32} {S S' : mT}, self 3 12 v2 S = some S' → Fr (inM 999999 LX4_readTerm_12) S S') (Hs4 : ∀ {v2 : Int32} {S S' : mT}, self 4 12 v2 S = some S' → Fr (inM 999999 LX4_readTerm_12) S S') (Hs5 : ∀ {v2 : Int32} {S S' : mT}, self 5 12 v2 S = some S' → Fr (inM 999999 LX4_readTerm_12) S S') {S' : mT} : ∀ (k : Nat) (v2 : Int32) (v3 : Int32) (S : mT), fX4_readTerm_8 12 self k v2 v3 S = some S' → Fr (inM 999999 LX4_readTerm_12) S S' := by
  intro k
  induction k with
  | zero =>
    intro v2 v3 S hf
    cases hf
  | succ k ih =>
    intro v2 v3 S hf
    unfold fX4_readTerm_8 at hf
    by_cases hc : (1600 : Int32) ≤ v3
    · rw [if_pos hc] at hf
      exact (Fr.rfl (inM 999999 LX4_readTerm_12) _).trans (rX4_readTerm_74_12 Hs0 Hs1 Hs2 Hs3 Hs4 Hs5 hf)
    · rw [if_neg hc] at hf
      obtain ⟨x3, S2, hq, hf⟩ := bndC_ex hf
      have F := (Fr.rfl (inM 999999 LX4_readTerm_12) _).trans ((rX4_isSign hq).mono rfl (fun _ => rfl))
      by_cases hc : x3 = 0
      · rw [if_pos hc] at hf
        obtain ⟨x5, S4, hq, hf⟩ := bndC_ex hf
        have F := F.trans ((rX4_isSign hq).mono rfl (fun _ => rfl))
        by_cases hc : x5 = 0
        · rw [if_pos hc] at hf
          obtain ⟨x7, S6, hq, hf⟩ := bndC_ex hf
          have F := F.trans ((rX4_isSign hq).mono rfl (fun _ => rfl))
          by_cases hc : x7 = 0
          · rw [if_pos hc] at hf
            exact F.trans (rX4_readTerm_74_12 Hs0 Hs1 Hs2 Hs3 Hs4 Hs5 hf)
          · rw [if_neg hc] at hf
            exact F.trans (rX4_readTerm_42_12 Hs0 Hs1 Hs2 Hs3 Hs4 Hs5 ih hf)
        · rw [if_neg hc] at hf
          exact F.trans (rX4_readTerm_42_12 Hs0 Hs1 Hs2 Hs3 Hs4 Hs5 ih hf)
      · rw [if_neg hc] at hf
        exact F.trans (rX4_readTerm_42_12 Hs0 Hs1 Hs2 Hs3 Hs4 Hs5 ih hf)
theorem rX4_readTerm_0_12 {self : Nat → Nat → Int32 → mT → Option (mT)} (Hs0 : ∀ {v2 : Int32} {S S' : mT}, self 0 12 v2 S = some S' → Fr (inM 999999 LX4_readTerm_12) S S') (Hs1 : ∀ {v2 : Int32} {S S' : mT}, self 1 12 v2 S = some S' → Fr (inM 999999 LX4_readTerm_12) S S') (Hs2 : ∀ {v2 : Int32} {S S' : mT}, self 2 12 v2 S = some S' → Fr (inM 999999 LX4_readTerm_12) S S') (Hs3 : ∀ {v2 : Int32} {S S' : mT}, self 3 12 v2 S = some S' → Fr (inM 999999 LX4_readTerm_12) S S') (Hs4 : ∀ {v2 : Int32} {S S' : mT}, self 4 12 v2 S = some S' → Fr (inM 999999 LX4_readTerm_12) S S') (Hs5 : ∀ {v2 : Int32} {S S' : mT}, self 5 12 v2 S = some S' → Fr (inM 999999 LX4_readTerm_12) S S') {S' : mT} {v2 : Int32} {S : mT} (hf : fX4_readTerm_0 12 self v2 S = some S') : Fr (inM 999999 LX4_readTerm_12) S S' := by
  unfold fX4_readTerm_0 at hf
  obtain ⟨S1, hq, hf⟩ := bndV_ex hf
  have F := (Fr.rfl (inM 999999 LX4_readTerm_12) _).trans (Hs5 hq)
  exact F.trans (rX4_readTerm_8_12 Hs0 Hs1 Hs2 Hs3 Hs4 Hs5 _ _ _ _ hf)
abbrev LX4_readTerm_15 : List (Nat × Nat × Option Nat) := LP_15
theorem rX4_readTerm_42_15 {self : Nat → Nat → Int32 → mT → Option (mT)} (Hs0 : ∀ {v2 : Int32} {S S' : mT}, self 0 15 v2 S = some S' → Fr (inM 999999 LX4_readTerm_15) S S') (Hs1 : ∀ {v2 : Int32} {S S' : mT}, self 1 15 v2 S = some S' → Fr (inM 999999 LX4_readTerm_15) S S') (Hs2 : ∀ {v2 : Int32} {S S' : mT}, self 2 15 v2 S = some S' → Fr (inM 999999 LX4_readTerm_15) S S') (Hs3 : ∀ {v2 : Int32} {S S' : mT}, self 3 15 v2 S = some S' → Fr (inM 999999 LX4_readTerm_15) S S') (Hs4 : ∀ {v2 : Int32} {S S' : mT}, self 4 15 v2 S = some S' → Fr (inM 999999 LX4_readTerm_15) S S') (Hs5 : ∀ {v2 : Int32} {S S' : mT}, self 5 15 v2 S = some S' → Fr (inM 999999 LX4_readTerm_15) S S') {S' : mT} {rc8 : Int32 → Int32 → mT → Option (mT)} (Hrc8 : ∀ (v2 : Int32) (v3 : Int32) (S : mT), rc8 v2 v3 S = some S' → Fr (inM 999999 LX4_readTerm_15) S S') {v2 : Int32} {v3 : Int32} {S : mT} (hf : fX4_readTerm_42 15 self rc8 v2 v3 S = some S') : Fr (inM 999999 LX4_readTerm_15) S S' := by
  unfold fX4_readTerm_42 at hf
  obtain ⟨-, hf⟩ := grd_ex hf
  obtain ⟨x8, -, hf⟩ := bnd_ex hf
  obtain ⟨S9, hq, hf⟩ := bndV_ex hf
  have F := (Fr.rfl (inM 999999 LX4_readTerm_15) _).trans ((rX4_advance hq).mono rfl (fun _ => rfl))
  obtain ⟨S10, hq, hf⟩ := bndV_ex hf
  have F := F.trans (Hs5 hq)
  obtain ⟨S11, hq, hf⟩ := bndV_ex hf
  have F := F.trans ((rX0_add_15 hq).mono rfl (fun _ => rfl))
  obtain ⟨x12, -, hf⟩ := bnd_ex hf
  exact F.trans (Hrc8 _ _ _ hf)
theorem rX4_readTerm_74_15 {self : Nat → Nat → Int32 → mT → Option (mT)} (Hs0 : ∀ {v2 : Int32} {S S' : mT}, self 0 15 v2 S = some S' → Fr (inM 999999 LX4_readTerm_15) S S') (Hs1 : ∀ {v2 : Int32} {S S' : mT}, self 1 15 v2 S = some S' → Fr (inM 999999 LX4_readTerm_15) S S') (Hs2 : ∀ {v2 : Int32} {S S' : mT}, self 2 15 v2 S = some S' → Fr (inM 999999 LX4_readTerm_15) S S') (Hs3 : ∀ {v2 : Int32} {S S' : mT}, self 3 15 v2 S = some S' → Fr (inM 999999 LX4_readTerm_15) S S') (Hs4 : ∀ {v2 : Int32} {S S' : mT}, self 4 15 v2 S = some S' → Fr (inM 999999 LX4_readTerm_15) S S') (Hs5 : ∀ {v2 : Int32} {S S' : mT}, self 5 15 v2 S = some S' → Fr (inM 999999 LX4_readTerm_15) S S') {S' : mT} {S : mT} (hf : fX4_readTerm_74 15 self S = some S') : Fr (inM 999999 LX4_readTerm_15) S S' := by
  unfold fX4_readTerm_74 at hf
  cases hf
  exact (Fr.rfl (inM 999999 LX4_readTerm_15) _)
theorem rX4_readTerm_8_15 {self : Nat → Nat → Int32 → mT → Option (mT)} (Hs0 : ∀ {v2 : Int32} {S S' : mT}, self 0 15 v2 S = some S' → Fr (inM 999999 LX4_readTerm_15) S S') (Hs1 : ∀ {v2 : Int32} {S S' : mT}, self 1 15 v2 S = some S' → Fr (inM 999999 LX4_readTerm_15) S S') (Hs2 : ∀ {v2 : Int32} {S S' : mT}, self 2 15 v2 S = some S' → Fr (inM 999999 LX4_readTerm_15) S S') (Hs3 : ∀ {v2 : Int32} {S S' : mT}, self 3 15 v2 S = some S' → Fr (inM 999999 LX4_readTerm_15) S S') (Hs4 : ∀ {v2 : Int32} {S S' : mT}, self 4 15 v2 S = some S' → Fr (inM 999999 LX4_readTerm_15) S S') (Hs5 : ∀ {v2 : Int32} {S S' : mT}, self 5 15 v2 S = some S' → Fr (inM 999999 LX4_readTerm_15) S S') {S' : mT} : ∀ (k : Nat) (v2 : Int32) (v3 : Int32) (S : mT), fX4_readTerm_8 15 self k v2 v3 S = some S' → Fr (inM 999999 LX4_readTerm_15) S S' := by
  intro k
  induction k with
  | zero =>
    intro v2 v3 S hf
    cases hf
  | succ k ih =>
    intro v2 v3 S hf
    unfold fX4_readTerm_8 at hf
    by_cases hc : (1600 : Int32) ≤ v3
    · rw [if_pos hc] at hf
      exact (Fr.rfl (inM 999999 LX4_readTerm_15) _).trans (rX4_readTerm_74_15 Hs0 Hs1 Hs2 Hs3 Hs4 Hs5 hf)
    · rw [if_neg hc] at hf
      obtain ⟨x3, S2, hq, hf⟩ := bndC_ex hf
      have F := (Fr.rfl (inM 999999 LX4_readTerm_15) _).trans ((rX4_isSign hq).mono rfl (fun _ => rfl))
      by_cases hc : x3 = 0
      · rw [if_pos hc] at hf
        obtain ⟨x5, S4, hq, hf⟩ := bndC_ex hf
        have F := F.trans ((rX4_isSign hq).mono rfl (fun _ => rfl))
        by_cases hc : x5 = 0
        · rw [if_pos hc] at hf
          obtain ⟨x7, S6, hq, hf⟩ := bndC_ex hf
          have F := F.trans ((rX4_isSign hq).mono rfl (fun _ => rfl))
          by_cases hc : x7 = 0
          · rw [if_pos hc] at hf
            exact F.trans (rX4_readTerm_74_15 Hs0 Hs1 Hs2 Hs3 Hs4 Hs5 hf)
          · rw [if_neg hc] at hf
            exact F.trans (rX4_readTerm_42_15 Hs0 Hs1 Hs2 Hs3 Hs4 Hs5 ih hf)
        · rw [if_neg hc] at hf
          exact F.trans (rX4_readTerm_42_15 Hs0 Hs1 Hs2 Hs3 Hs4 Hs5 ih hf)
      · rw [if_neg hc] at hf
        exact F.trans (rX4_readTerm_42_15 Hs0 Hs1 Hs2 Hs3 Hs4 Hs5 ih hf)
theorem rX4_readTerm_0_15 {self : Nat → Nat → Int32 → mT → Option (mT)} (Hs0 : ∀ {v2 : Int32} {S S' : mT}, self 0 15 v2 S = some S' → Fr (inM 999999 LX4_readTerm_15) S S') (Hs1 : ∀ {v2 : Int32} {S S' : mT}, self 1 15 v2 S = some S' → Fr (inM 999999 LX4_readTerm_15) S S') (Hs2 : ∀ {v2 : Int32} {S S' : mT}, self 2 15 v2 S = some S' → Fr (inM 999999 LX4_readTerm_15) S S') (Hs3 : ∀ {v2 : Int32} {S S' : mT}, self 3 15 v2 S = some S' → Fr (inM 999999 LX4_readTerm_15) S S') (Hs4 : ∀ {v2 : Int32} {S S' : mT}, self 4 15 v2 S = some S' → Fr (inM 999999 LX4_readTerm_15) S S') (Hs5 : ∀ {v2 : Int32} {S S' : mT}, self 5 15 v2 S = some S' → Fr (inM 999999 LX4_readTerm_15) S S') {S' : mT} {v2 : Int32} {S : mT} (hf : fX4_readTerm_0 15 self v2 S = some S') : Fr (inM 999999 LX4_readTerm_15) S S' := by
  unfold fX4_readTerm_0 at hf
  obtain ⟨S1, hq, hf⟩ := bndV_ex hf
  have F := (Fr.rfl (inM 999999 LX4_readTerm_15) _).trans (Hs5 hq)
  exact F.trans (rX4_readTerm_8_15 Hs0 Hs1 Hs2 Hs3 Hs4 Hs5 _ _ _ _ hf)
abbrev LX4_readTerm_25 : List (Nat × Nat × Option Nat) := LP_25
theorem rX4_readTerm_42_25 {self : Nat → Nat → Int32 → mT → Option (mT)} (Hs0 : ∀ {v2 : Int32} {S S' : mT}, self 0 25 v2 S = some S' → Fr (inM 999999 LX4_readTerm_25) S S') (Hs1 : ∀ {v2 : Int32} {S S' : mT}, self 1 25 v2 S = some S' → Fr (inM 999999 LX4_readTerm_25) S S') (Hs2 : ∀ {v2 : Int32} {S S' : mT}, self 2 25 v2 S = some S' → Fr (inM 999999 LX4_readTerm_25) S S') (Hs3 : ∀ {v2 : Int32} {S S' : mT}, self 3 25 v2 S = some S' → Fr (inM 999999 LX4_readTerm_25) S S') (Hs4 : ∀ {v2 : Int32} {S S' : mT}, self 4 25 v2 S = some S' → Fr (inM 999999 LX4_readTerm_25) S S') (Hs5 : ∀ {v2 : Int32} {S S' : mT}, self 5 25 v2 S = some S' → Fr (inM 999999 LX4_readTerm_25) S S') {S' : mT} {rc8 : Int32 → Int32 → mT → Option (mT)} (Hrc8 : ∀ (v2 : Int32) (v3 : Int32) (S : mT), rc8 v2 v3 S = some S' → Fr (inM 999999 LX4_readTerm_25) S S') {v2 : Int32} {v3 : Int32} {S : mT} (hf : fX4_readTerm_42 25 self rc8 v2 v3 S = some S') : Fr (inM 999999 LX4_readTerm_25) S S' := by
  unfold fX4_readTerm_42 at hf
  obtain ⟨-, hf⟩ := grd_ex hf
  obtain ⟨x8, -, hf⟩ := bnd_ex hf
  obtain ⟨S9, hq, hf⟩ := bndV_ex hf
  have F := (Fr.rfl (inM 999999 LX4_readTerm_25) _).trans ((rX4_advance hq).mono rfl (fun _ => rfl))
  obtain ⟨S10, hq, hf⟩ := bndV_ex hf
  have F := F.trans (Hs5 hq)
  obtain ⟨S11, hq, hf⟩ := bndV_ex hf
  have F := F.trans ((rX0_add_25 hq).mono rfl (fun _ => rfl))
  obtain ⟨x12, -, hf⟩ := bnd_ex hf
  exact F.trans (Hrc8 _ _ _ hf)
theorem rX4_readTerm_74_25 {self : Nat → Nat → Int32 → mT → Option (mT)} (Hs0 : ∀ {v2 : Int32} {S S' : mT}, self 0 25 v2 S = some S' → Fr (inM 999999 LX4_readTerm_25) S S') (Hs1 : ∀ {v2 : Int32} {S S' : mT}, self 1 25 v2 S = some S' → Fr (inM 999999 LX4_readTerm_25) S S') (Hs2 : ∀ {v2 : Int32} {S S' : mT}, self 2 25 v2 S = some S' → Fr (inM 999999 LX4_readTerm_25) S S') (Hs3 : ∀ {v2 : Int32} {S S' : mT}, self 3 25 v2 S = some S' → Fr (inM 999999 LX4_readTerm_25) S S') (Hs4 : ∀ {v2 : Int32} {S S' : mT}, self 4 25 v2 S = some S' → Fr (inM 999999 LX4_readTerm_25) S S') (Hs5 : ∀ {v2 : Int32} {S S' : mT}, self 5 25 v2 S = some S' → Fr (inM 999999 LX4_readTerm_25) S S') {S' : mT} {S : mT} (hf : fX4_readTerm_74 25 self S = some S') : Fr (inM 999999 LX4_readTerm_25) S S' := by
  unfold fX4_readTerm_74 at hf
  cases hf
  exact (Fr.rfl (inM 999999 LX4_readTerm_25) _)
theorem rX4_readTerm_8_25 {self : Nat → Nat → Int32 → mT → Option (mT)} (Hs0 : ∀ {v2 : Int32} {S S' : mT}, self 0 25 v2 S = some S' → Fr (inM 999999 LX4_readTerm_25) S S') (Hs1 : ∀ {v2 : Int32} {S S' : mT}, self 1 25 v2 S = some S' → Fr (inM 999999 LX4_readTerm_25) S S') (Hs2 : ∀ {v2 : Int32} {S S' : mT}, self 2 25 v2 S = some S' → Fr (inM 999999 LX4_readTerm_25) S S') (Hs3 : ∀ {v2 : Int32} {S S' : mT}, self 3 25 v2 S = some S' → Fr (inM 999999 LX4_readTerm_25) S S') (Hs4 : ∀ {v2 : Int32} {S S' : mT}, self 4 25 v2 S = some S' → Fr (inM 999999 LX4_readTerm_25) S S') (Hs5 : ∀ {v2 : Int32} {S S' : mT}, self 5 25 v2 S = some S' → Fr (inM 999999 LX4_readTerm_25) S S') {S' : mT} : ∀ (k : Nat) (v2 : Int32) (v3 : Int32) (S : mT), fX4_readTerm_8 25 self k v2 v3 S = some S' → Fr (inM 999999 LX4_readTerm_25) S S' := by
  intro k
  induction k with
  | zero =>
    intro v2 v3 S hf
    cases hf
  | succ k ih =>
    intro v2 v3 S hf
    unfold fX4_readTerm_8 at hf
    by_cases hc : (1600 : Int32) ≤ v3
    · rw [if_pos hc] at hf
      exact (Fr.rfl (inM 999999 LX4_readTerm_25) _).trans (rX4_readTerm_74_25 Hs0 Hs1 Hs2 Hs3 Hs4 Hs5 hf)
    · rw [if_neg hc] at hf
      obtain ⟨x3, S2, hq, hf⟩ := bndC_ex hf
      have F := (Fr.rfl (inM 999999 LX4_readTerm_25) _).trans ((rX4_isSign hq).mono rfl (fun _ => rfl))
      by_cases hc : x3 = 0
      · rw [if_pos hc] at hf
        obtain ⟨x5, S4, hq, hf⟩ := bndC_ex hf
        have F := F.trans ((rX4_isSign hq).mono rfl (fun _ => rfl))
        by_cases hc : x5 = 0
        · rw [if_pos hc] at hf
          obtain ⟨x7, S6, hq, hf⟩ := bndC_ex hf
          have F := F.trans ((rX4_isSign hq).mono rfl (fun _ => rfl))
          by_cases hc : x7 = 0
          · rw [if_pos hc] at hf
            exact F.trans (rX4_readTerm_74_25 Hs0 Hs1 Hs2 Hs3 Hs4 Hs5 hf)
          · rw [if_neg hc] at hf
            exact F.trans (rX4_readTerm_42_25 Hs0 Hs1 Hs2 Hs3 Hs4 Hs5 ih hf)
        · rw [if_neg hc] at hf
          exact F.trans (rX4_readTerm_42_25 Hs0 Hs1 Hs2 Hs3 Hs4 Hs5 ih hf)
      · rw [if_neg hc] at hf
        exact F.trans (rX4_readTerm_42_25 Hs0 Hs1 Hs2 Hs3 Hs4 Hs5 ih hf)
theorem rX4_readTerm_0_25 {self : Nat → Nat → Int32 → mT → Option (mT)} (Hs0 : ∀ {v2 : Int32} {S S' : mT}, self 0 25 v2 S = some S' → Fr (inM 999999 LX4_readTerm_25) S S') (Hs1 : ∀ {v2 : Int32} {S S' : mT}, self 1 25 v2 S = some S' → Fr (inM 999999 LX4_readTerm_25) S S') (Hs2 : ∀ {v2 : Int32} {S S' : mT}, self 2 25 v2 S = some S' → Fr (inM 999999 LX4_readTerm_25) S S') (Hs3 : ∀ {v2 : Int32} {S S' : mT}, self 3 25 v2 S = some S' → Fr (inM 999999 LX4_readTerm_25) S S') (Hs4 : ∀ {v2 : Int32} {S S' : mT}, self 4 25 v2 S = some S' → Fr (inM 999999 LX4_readTerm_25) S S') (Hs5 : ∀ {v2 : Int32} {S S' : mT}, self 5 25 v2 S = some S' → Fr (inM 999999 LX4_readTerm_25) S S') {S' : mT} {v2 : Int32} {S : mT} (hf : fX4_readTerm_0 25 self v2 S = some S') : Fr (inM 999999 LX4_readTerm_25) S S' := by
  unfold fX4_readTerm_0 at hf
  obtain ⟨S1, hq, hf⟩ := bndV_ex hf
  have F := (Fr.rfl (inM 999999 LX4_readTerm_25) _).trans (Hs5 hq)
  exact F.trans (rX4_readTerm_8_25 Hs0 Hs1 Hs2 Hs3 Hs4 Hs5 _ _ _ _ hf)
abbrev LX4_readTerm_28 : List (Nat × Nat × Option Nat) := LP_28
theorem rX4_readTerm_42_28 {self : Nat → Nat → Int32 → mT → Option (mT)} (Hs0 : ∀ {v2 : Int32} {S S' : mT}, self 0 28 v2 S = some S' → Fr (inM 999999 LX4_readTerm_28) S S') (Hs1 : ∀ {v2 : Int32} {S S' : mT}, self 1 28 v2 S = some S' → Fr (inM 999999 LX4_readTerm_28) S S') (Hs2 : ∀ {v2 : Int32} {S S' : mT}, self 2 28 v2 S = some S' → Fr (inM 999999 LX4_readTerm_28) S S') (Hs3 : ∀ {v2 : Int32} {S S' : mT}, self 3 28 v2 S = some S' → Fr (inM 999999 LX4_readTerm_28) S S') (Hs4 : ∀ {v2 : Int32} {S S' : mT}, self 4 28 v2 S = some S' → Fr (inM 999999 LX4_readTerm_28) S S') (Hs5 : ∀ {v2 : Int32} {S S' : mT}, self 5 28 v2 S = some S' → Fr (inM 999999 LX4_readTerm_28) S S') {S' : mT} {rc8 : Int32 → Int32 → mT → Option (mT)} (Hrc8 : ∀ (v2 : Int32) (v3 : Int32) (S : mT), rc8 v2 v3 S = some S' → Fr (inM 999999 LX4_readTerm_28) S S') {v2 : Int32} {v3 : Int32} {S : mT} (hf : fX4_readTerm_42 28 self rc8 v2 v3 S = some S') : Fr (inM 999999 LX4_readTerm_28) S S' := by
  unfold fX4_readTerm_42 at hf
  obtain ⟨-, hf⟩ := grd_ex hf
  obtain ⟨x8, -, hf⟩ := bnd_ex hf
  obtain ⟨S9, hq, hf⟩ := bndV_ex hf
  have F := (Fr.rfl (inM 999999 LX4_readTerm_28) _).trans ((rX4_advance hq).mono rfl (fun _ => rfl))
  obtain ⟨S10, hq, hf⟩ := bndV_ex hf
  have F := F.trans (Hs5 hq)
  obtain ⟨S11, hq, hf⟩ := bndV_ex hf
  have F := F.trans ((rX0_add_28 hq).mono rfl (fun _ => rfl))
  obtain ⟨x12, -, hf⟩ := bnd_ex hf
  exact F.trans (Hrc8 _ _ _ hf)
theorem rX4_readTerm_74_28 {self : Nat → Nat → Int32 → mT → Option (mT)} (Hs0 : ∀ {v2 : Int32} {S S' : mT}, self 0 28 v2 S = some S' → Fr (inM 999999 LX4_readTerm_28) S S') (Hs1 : ∀ {v2 : Int32} {S S' : mT}, self 1 28 v2 S = some S' → Fr (inM 999999 LX4_readTerm_28) S S') (Hs2 : ∀ {v2 : Int32} {S S' : mT}, self 2 28 v2 S = some S' → Fr (inM 999999 LX4_readTerm_28) S S') (Hs3 : ∀ {v2 : Int32} {S S' : mT}, self 3 28 v2 S = some S' → Fr (inM 999999 LX4_readTerm_28) S S') (Hs4 : ∀ {v2 : Int32} {S S' : mT}, self 4 28 v2 S = some S' → Fr (inM 999999 LX4_readTerm_28) S S') (Hs5 : ∀ {v2 : Int32} {S S' : mT}, self 5 28 v2 S = some S' → Fr (inM 999999 LX4_readTerm_28) S S') {S' : mT} {S : mT} (hf : fX4_readTerm_74 28 self S = some S') : Fr (inM 999999 LX4_readTerm_28) S S' := by
  unfold fX4_readTerm_74 at hf
  cases hf
  exact (Fr.rfl (inM 999999 LX4_readTerm_28) _)
theorem rX4_readTerm_8_28 {self : Nat → Nat → Int32 → mT → Option (mT)} (Hs0 : ∀ {v2 : Int32} {S S' : mT}, self 0 28 v2 S = some S' → Fr (inM 999999 LX4_readTerm_28) S S') (Hs1 : ∀ {v2 : Int32} {S S' : mT}, self 1 28 v2 S = some S' → Fr (inM 999999 LX4_readTerm_28) S S') (Hs2 : ∀ {v2 : Int32} {S S' : mT}, self 2 28 v2 S = some S' → Fr (inM 999999 LX4_readTerm_28) S S') (Hs3 : ∀ {v2 : Int32} {S S' : mT}, self 3 28 v2 S = some S' → Fr (inM 999999 LX4_readTerm_28) S S') (Hs4 : ∀ {v2 : Int32} {S S' : mT}, self 4 28 v2 S = some S' → Fr (inM 999999 LX4_readTerm_28) S S') (Hs5 : ∀ {v2 : Int32} {S S' : mT}, self 5 28 v2 S = some S' → Fr (inM 999999 LX4_readTerm_28) S S') {S' : mT} : ∀ (k : Nat) (v2 : Int32) (v3 : Int32) (S : mT), fX4_readTerm_8 28 self k v2 v3 S = some S' → Fr (inM 999999 LX4_readTerm_28) S S' := by
  intro k
  induction k with
  | zero =>
    intro v2 v3 S hf
    cases hf
  | succ k ih =>
    intro v2 v3 S hf
    unfold fX4_readTerm_8 at hf
    by_cases hc : (1600 : Int32) ≤ v3
    · rw [if_pos hc] at hf
      exact (Fr.rfl (inM 999999 LX4_readTerm_28) _).trans (rX4_readTerm_74_28 Hs0 Hs1 Hs2 Hs3 Hs4 Hs5 hf)
    · rw [if_neg hc] at hf
      obtain ⟨x3, S2, hq, hf⟩ := bndC_ex hf
      have F := (Fr.rfl (inM 999999 LX4_readTerm_28) _).trans ((rX4_isSign hq).mono rfl (fun _ => rfl))
      by_cases hc : x3 = 0
      · rw [if_pos hc] at hf
        obtain ⟨x5, S4, hq, hf⟩ := bndC_ex hf
        have F := F.trans ((rX4_isSign hq).mono rfl (fun _ => rfl))
        by_cases hc : x5 = 0
        · rw [if_pos hc] at hf
          obtain ⟨x7, S6, hq, hf⟩ := bndC_ex hf
          have F := F.trans ((rX4_isSign hq).mono rfl (fun _ => rfl))
          by_cases hc : x7 = 0
          · rw [if_pos hc] at hf
            exact F.trans (rX4_readTerm_74_28 Hs0 Hs1 Hs2 Hs3 Hs4 Hs5 hf)
          · rw [if_neg hc] at hf
            exact F.trans (rX4_readTerm_42_28 Hs0 Hs1 Hs2 Hs3 Hs4 Hs5 ih hf)
        · rw [if_neg hc] at hf
          exact F.trans (rX4_readTerm_42_28 Hs0 Hs1 Hs2 Hs3 Hs4 Hs5 ih hf)
      · rw [if_neg hc] at hf
        exact F.trans (rX4_readTerm_42_28 Hs0 Hs1 Hs2 Hs3 Hs4 Hs5 ih hf)
theorem rX4_readTerm_0_28 {self : Nat → Nat → Int32 → mT → Option (mT)} (Hs0 : ∀ {v2 : Int32} {S S' : mT}, self 0 28 v2 S = some S' → Fr (inM 999999 LX4_readTerm_28) S S') (Hs1 : ∀ {v2 : Int32} {S S' : mT}, self 1 28 v2 S = some S' → Fr (inM 999999 LX4_readTerm_28) S S') (Hs2 : ∀ {v2 : Int32} {S S' : mT}, self 2 28 v2 S = some S' → Fr (inM 999999 LX4_readTerm_28) S S') (Hs3 : ∀ {v2 : Int32} {S S' : mT}, self 3 28 v2 S = some S' → Fr (inM 999999 LX4_readTerm_28) S S') (Hs4 : ∀ {v2 : Int32} {S S' : mT}, self 4 28 v2 S = some S' → Fr (inM 999999 LX4_readTerm_28) S S') (Hs5 : ∀ {v2 : Int32} {S S' : mT}, self 5 28 v2 S = some S' → Fr (inM 999999 LX4_readTerm_28) S S') {S' : mT} {v2 : Int32} {S : mT} (hf : fX4_readTerm_0 28 self v2 S = some S') : Fr (inM 999999 LX4_readTerm_28) S S' := by
  unfold fX4_readTerm_0 at hf
  obtain ⟨S1, hq, hf⟩ := bndV_ex hf
  have F := (Fr.rfl (inM 999999 LX4_readTerm_28) _).trans (Hs5 hq)
  exact F.trans (rX4_readTerm_8_28 Hs0 Hs1 Hs2 Hs3 Hs4 Hs5 _ _ _ _ hf)
abbrev LX4_readTerm_31 : List (Nat × Nat × Option Nat) := LP_31
theorem rX4_readTerm_42_31 {self : Nat → Nat → Int32 → mT → Option (mT)} (Hs0 : ∀ {v2 : Int32} {S S' : mT}, self 0 31 v2 S = some S' → Fr (inM 999999 LX4_readTerm_31) S S') (Hs1 : ∀ {v2 : Int32} {S S' : mT}, self 1 31 v2 S = some S' → Fr (inM 999999 LX4_readTerm_31) S S') (Hs2 : ∀ {v2 : Int32} {S S' : mT}, self 2 31 v2 S = some S' → Fr (inM 999999 LX4_readTerm_31) S S') (Hs3 : ∀ {v2 : Int32} {S S' : mT}, self 3 31 v2 S = some S' → Fr (inM 999999 LX4_readTerm_31) S S') (Hs4 : ∀ {v2 : Int32} {S S' : mT}, self 4 31 v2 S = some S' → Fr (inM 999999 LX4_readTerm_31) S S') (Hs5 : ∀ {v2 : Int32} {S S' : mT}, self 5 31 v2 S = some S' → Fr (inM 999999 LX4_readTerm_31) S S') {S' : mT} {rc8 : Int32 → Int32 → mT → Option (mT)} (Hrc8 : ∀ (v2 : Int32) (v3 : Int32) (S : mT), rc8 v2 v3 S = some S' → Fr (inM 999999 LX4_readTerm_31) S S') {v2 : Int32} {v3 : Int32} {S : mT} (hf : fX4_readTerm_42 31 self rc8 v2 v3 S = some S') : Fr (inM 999999 LX4_readTerm_31) S S' := by
  unfold fX4_readTerm_42 at hf
  obtain ⟨-, hf⟩ := grd_ex hf
  obtain ⟨x8, -, hf⟩ := bnd_ex hf
  obtain ⟨S9, hq, hf⟩ := bndV_ex hf
  have F := (Fr.rfl (inM 999999 LX4_readTerm_31) _).trans ((rX4_advance hq).mono rfl (fun _ => rfl))
  obtain ⟨S10, hq, hf⟩ := bndV_ex hf
  have F := F.trans (Hs5 hq)
  obtain ⟨S11, hq, hf⟩ := bndV_ex hf
  have F := F.trans ((rX0_add_31 hq).mono rfl (fun _ => rfl))
  obtain ⟨x12, -, hf⟩ := bnd_ex hf
  exact F.trans (Hrc8 _ _ _ hf)
theorem rX4_readTerm_74_31 {self : Nat → Nat → Int32 → mT → Option (mT)} (Hs0 : ∀ {v2 : Int32} {S S' : mT}, self 0 31 v2 S = some S' → Fr (inM 999999 LX4_readTerm_31) S S') (Hs1 : ∀ {v2 : Int32} {S S' : mT}, self 1 31 v2 S = some S' → Fr (inM 999999 LX4_readTerm_31) S S') (Hs2 : ∀ {v2 : Int32} {S S' : mT}, self 2 31 v2 S = some S' → Fr (inM 999999 LX4_readTerm_31) S S') (Hs3 : ∀ {v2 : Int32} {S S' : mT}, self 3 31 v2 S = some S' → Fr (inM 999999 LX4_readTerm_31) S S') (Hs4 : ∀ {v2 : Int32} {S S' : mT}, self 4 31 v2 S = some S' → Fr (inM 999999 LX4_readTerm_31) S S') (Hs5 : ∀ {v2 : Int32} {S S' : mT}, self 5 31 v2 S = some S' → Fr (inM 999999 LX4_readTerm_31) S S') {S' : mT} {S : mT} (hf : fX4_readTerm_74 31 self S = some S') : Fr (inM 999999 LX4_readTerm_31) S S' := by
  unfold fX4_readTerm_74 at hf
  cases hf
  exact (Fr.rfl (inM 999999 LX4_readTerm_31) _)
theorem rX4_readTerm_8_31 {self : Nat → Nat → Int32 → mT → Option (mT)} (Hs0 : ∀ {v2 : Int32} {S S' : mT}, self 0 31 v2 S = some S' → Fr (inM 999999 LX4_readTerm_31) S S') (Hs1 : ∀ {v2 : Int32} {S S' : mT}, self 1 31 v2 S = some S' → Fr (inM 999999 LX4_readTerm_31) S S') (Hs2 : ∀ {v2 : Int32} {S S' : mT}, self 2 31 v2 S = some S' → Fr (inM 999999 LX4_readTerm_31) S S') (Hs3 : ∀ {v2 : Int32} {S S' : mT}, self 3 31 v2 S = some S' → Fr (inM 999999 LX4_readTerm_31) S S') (Hs4 : ∀ {v2 : Int32} {S S' : mT}, self 4 31 v2 S = some S' → Fr (inM 999999 LX4_readTerm_31) S S') (Hs5 : ∀ {v2 : Int32} {S S' : mT}, self 5 31 v2 S = some S' → Fr (inM 999999 LX4_readTerm_31) S S') {S' : mT} : ∀ (k : Nat) (v2 : Int32) (v3 : Int32) (S : mT), fX4_readTerm_8 31 self k v2 v3 S = some S' → Fr (inM 999999 LX4_readTerm_31) S S' := by
  intro k
  induction k with
  | zero =>
    intro v2 v3 S hf
    cases hf
  | succ k ih =>
    intro v2 v3 S hf
    unfold fX4_readTerm_8 at hf
    by_cases hc : (1600 : Int32) ≤ v3
    · rw [if_pos hc] at hf
      exact (Fr.rfl (inM 999999 LX4_readTerm_31) _).trans (rX4_readTerm_74_31 Hs0 Hs1 Hs2 Hs3 Hs4 Hs5 hf)
    · rw [if_neg hc] at hf
      obtain ⟨x3, S2, hq, hf⟩ := bndC_ex hf
      have F := (Fr.rfl (inM 999999 LX4_readTerm_31) _).trans ((rX4_isSign hq).mono rfl (fun _ => rfl))
      by_cases hc : x3 = 0
      · rw [if_pos hc] at hf
        obtain ⟨x5, S4, hq, hf⟩ := bndC_ex hf
        have F := F.trans ((rX4_isSign hq).mono rfl (fun _ => rfl))
        by_cases hc : x5 = 0
        · rw [if_pos hc] at hf
          obtain ⟨x7, S6, hq, hf⟩ := bndC_ex hf
          have F := F.trans ((rX4_isSign hq).mono rfl (fun _ => rfl))
          by_cases hc : x7 = 0
          · rw [if_pos hc] at hf
            exact F.trans (rX4_readTerm_74_31 Hs0 Hs1 Hs2 Hs3 Hs4 Hs5 hf)
          · rw [if_neg hc] at hf
            exact F.trans (rX4_readTerm_42_31 Hs0 Hs1 Hs2 Hs3 Hs4 Hs5 ih hf)
        · rw [if_neg hc] at hf
          exact F.trans (rX4_readTerm_42_31 Hs0 Hs1 Hs2 Hs3 Hs4 Hs5 ih hf)
      · rw [if_neg hc] at hf
        exact F.trans (rX4_readTerm_42_31 Hs0 Hs1 Hs2 Hs3 Hs4 Hs5 ih hf)
theorem rX4_readTerm_0_31 {self : Nat → Nat → Int32 → mT → Option (mT)} (Hs0 : ∀ {v2 : Int32} {S S' : mT}, self 0 31 v2 S = some S' → Fr (inM 999999 LX4_readTerm_31) S S') (Hs1 : ∀ {v2 : Int32} {S S' : mT}, self 1 31 v2 S = some S' → Fr (inM 999999 LX4_readTerm_31) S S') (Hs2 : ∀ {v2 : Int32} {S S' : mT}, self 2 31 v2 S = some S' → Fr (inM 999999 LX4_readTerm_31) S S') (Hs3 : ∀ {v2 : Int32} {S S' : mT}, self 3 31 v2 S = some S' → Fr (inM 999999 LX4_readTerm_31) S S') (Hs4 : ∀ {v2 : Int32} {S S' : mT}, self 4 31 v2 S = some S' → Fr (inM 999999 LX4_readTerm_31) S S') (Hs5 : ∀ {v2 : Int32} {S S' : mT}, self 5 31 v2 S = some S' → Fr (inM 999999 LX4_readTerm_31) S S') {S' : mT} {v2 : Int32} {S : mT} (hf : fX4_readTerm_0 31 self v2 S = some S') : Fr (inM 999999 LX4_readTerm_31) S S' := by
  unfold fX4_readTerm_0 at hf
  obtain ⟨S1, hq, hf⟩ := bndV_ex hf
  have F := (Fr.rfl (inM 999999 LX4_readTerm_31) _).trans (Hs5 hq)
  exact F.trans (rX4_readTerm_8_31 Hs0 Hs1 Hs2 Hs3 Hs4 Hs5 _ _ _ _ hf)
abbrev LX4_readUnit_9 : List (Nat × Nat × Option Nat) := LP_9
theorem rX4_readUnit_115_9 {self : Nat → Nat → Int32 → mT → Option (mT)} (Hs0 : ∀ {v2 : Int32} {S S' : mT}, self 0 9 v2 S = some S' → Fr (inM 999999 LX4_readUnit_9) S S') (Hs1 : ∀ {v2 : Int32} {S S' : mT}, self 1 9 v2 S = some S' → Fr (inM 999999 LX4_readUnit_9) S S') (Hs2 : ∀ {v2 : Int32} {S S' : mT}, self 2 9 v2 S = some S' → Fr (inM 999999 LX4_readUnit_9) S S') (Hs3 : ∀ {v2 : Int32} {S S' : mT}, self 3 9 v2 S = some S' → Fr (inM 999999 LX4_readUnit_9) S S') (Hs4 : ∀ {v2 : Int32} {S S' : mT}, self 4 9 v2 S = some S' → Fr (inM 999999 LX4_readUnit_9) S S') (Hs5 : ∀ {v2 : Int32} {S S' : mT}, self 5 9 v2 S = some S' → Fr (inM 999999 LX4_readUnit_9) S S') {S' : mT} {S : mT} (hf : fX4_readUnit_115 9 self S = some S') : Fr (inM 999999 LX4_readUnit_9) S S' := by
  unfold fX4_readUnit_115 at hf
  cases hf
  exact (Fr.rfl (inM 999999 LX4_readUnit_9) _)
theorem rX4_readUnit_110_9 {self : Nat → Nat → Int32 → mT → Option (mT)} (Hs0 : ∀ {v2 : Int32} {S S' : mT}, self 0 9 v2 S = some S' → Fr (inM 999999 LX4_readUnit_9) S S') (Hs1 : ∀ {v2 : Int32} {S S' : mT}, self 1 9 v2 S = some S' → Fr (inM 999999 LX4_readUnit_9) S S') (Hs2 : ∀ {v2 : Int32} {S S' : mT}, self 2 9 v2 S = some S' → Fr (inM 999999 LX4_readUnit_9) S S') (Hs3 : ∀ {v2 : Int32} {S S' : mT}, self 3 9 v2 S = some S' → Fr (inM 999999 LX4_readUnit_9) S S') (Hs4 : ∀ {v2 : Int32} {S S' : mT}, self 4 9 v2 S = some S' → Fr (inM 999999 LX4_readUnit_9) S S') (Hs5 : ∀ {v2 : Int32} {S S' : mT}, self 5 9 v2 S = some S' → Fr (inM 999999 LX4_readUnit_9) S S') {S' : mT} {S : mT} (hf : fX4_readUnit_110 9 self S = some S') : Fr (inM 999999 LX4_readUnit_9) S S' := by
  unfold fX4_readUnit_110 at hf
  obtain ⟨S14, hq, hf⟩ := bndV_ex hf
  have F := (Fr.rfl (inM 999999 LX4_readUnit_9) _).trans ((rX4_refuse hq).mono rfl (fun _ => rfl))
  exact F.trans (rX4_readUnit_115_9 Hs0 Hs1 Hs2 Hs3 Hs4 Hs5 hf)
theorem rX4_readUnit_0_9 {self : Nat → Nat → Int32 → mT → Option (mT)} (Hs0 : ∀ {v2 : Int32} {S S' : mT}, self 0 9 v2 S = some S' → Fr (inM 999999 LX4_readUnit_9) S S') (Hs1 : ∀ {v2 : Int32} {S S' : mT}, self 1 9 v2 S = some S' → Fr (inM 999999 LX4_readUnit_9) S S') (Hs2 : ∀ {v2 : Int32} {S S' : mT}, self 2 9 v2 S = some S' → Fr (inM 999999 LX4_readUnit_9) S S') (Hs3 : ∀ {v2 : Int32} {S S' : mT}, self 3 9 v2 S = some S' → Fr (inM 999999 LX4_readUnit_9) S S') (Hs4 : ∀ {v2 : Int32} {S S' : mT}, self 4 9 v2 S = some S' → Fr (inM 999999 LX4_readUnit_9) S S') (Hs5 : ∀ {v2 : Int32} {S S' : mT}, self 5 9 v2 S = some S' → Fr (inM 999999 LX4_readUnit_9) S S') {S' : mT} {v2 : Int32} {S : mT} (hf : fX4_readUnit_0 9 self v2 S = some S') : Fr (inM 999999 LX4_readUnit_9) S S' := by
  unfold fX4_readUnit_0 at hf
  obtain ⟨-, hf⟩ := grd_ex hf
  by_cases hc : (S.1 9 3) < (30 : Int32)
  · rw [if_pos hc] at hf
    obtain ⟨-, hf⟩ := grd_ex hf
    obtain ⟨S1, eS1, hf⟩ := bnd_ex hf
    have F : Fr (inM 999999 LX4_readUnit_9) S S1 := by
      rw [eS1]
      exact Fr.sI (Fr.rfl (inM 999999 LX4_readUnit_9) _) rfl
    obtain ⟨x3, S2, hq, hf⟩ := bndC_ex hf
    have F := F.trans ((rX4_valueNamed hq).mono rfl (fun _ => rfl))
    obtain ⟨-, hf⟩ := grd_ex hf
    by_cases hc : (S2.1 1 4) = (2 : Int32)
    · rw [if_pos hc] at hf
      obtain ⟨-, hf⟩ := grd_ex hf
      obtain ⟨S4, hq, hf⟩ := bndV_ex hf
      have F := F.trans ((rX0_add_9 hq).mono rfl (fun _ => rfl))
      obtain ⟨S5, hq, hf⟩ := bndV_ex hf
      have F := F.trans ((rX4_advance hq).mono rfl (fun _ => rfl))
      exact F.trans (rX4_readUnit_115_9 Hs0 Hs1 Hs2 Hs3 Hs4 Hs5 hf)
    · rw [if_neg hc] at hf
      by_cases hc : x3 = (-1 : Int32)
      · rw [if_pos hc] at hf
        obtain ⟨x7, S6, hq, hf⟩ := bndC_ex hf
        have F := F.trans ((rX4_isSign hq).mono rfl (fun _ => rfl))
        by_cases hc : x7 = 0
        · rw [if_pos hc] at hf
          exact F.trans (rX4_readUnit_110_9 Hs0 Hs1 Hs2 Hs3 Hs4 Hs5 hf)
        · rw [if_neg hc] at hf
          by_cases hc : (6 : Int32) < v2
          · rw [if_pos hc] at hf
            exact F.trans (rX4_readUnit_110_9 Hs0 Hs1 Hs2 Hs3 Hs4 Hs5 hf)
          · rw [if_neg hc] at hf
            obtain ⟨S8, hq, hf⟩ := bndV_ex hf
            have F := F.trans ((rX4_advance hq).mono rfl (fun _ => rfl))
            obtain ⟨S9, hq, hf⟩ := bndV_ex hf
            have F := F.trans (Hs0 hq)
            obtain ⟨S10, hq, hf⟩ := bndV_ex hf
            have F := F.trans ((rX4_takeSign hq).mono rfl (fun _ => rfl))
            exact F.trans (rX4_readUnit_115_9 Hs0 Hs1 Hs2 Hs3 Hs4 Hs5 hf)
      · rw [if_neg hc] at hf
        obtain ⟨S11, hq, hf⟩ := bndV_ex hf
        have F := F.trans ((rX0_add_9 hq).mono rfl (fun _ => rfl))
        obtain ⟨S12, hq, hf⟩ := bndV_ex hf
        have F := F.trans ((rX4_advance hq).mono rfl (fun _ => rfl))
        exact F.trans (rX4_readUnit_115_9 Hs0 Hs1 Hs2 Hs3 Hs4 Hs5 hf)
  · rw [if_neg hc] at hf
    obtain ⟨S13, hq, hf⟩ := bndV_ex hf
    have F := (Fr.rfl (inM 999999 LX4_readUnit_9) _).trans ((rX4_refuse hq).mono rfl (fun _ => rfl))
    cases hf
    exact F
abbrev LX4_readUnit_12 : List (Nat × Nat × Option Nat) := LP_12
theorem rX4_readUnit_115_12 {self : Nat → Nat → Int32 → mT → Option (mT)} (Hs0 : ∀ {v2 : Int32} {S S' : mT}, self 0 12 v2 S = some S' → Fr (inM 999999 LX4_readUnit_12) S S') (Hs1 : ∀ {v2 : Int32} {S S' : mT}, self 1 12 v2 S = some S' → Fr (inM 999999 LX4_readUnit_12) S S') (Hs2 : ∀ {v2 : Int32} {S S' : mT}, self 2 12 v2 S = some S' → Fr (inM 999999 LX4_readUnit_12) S S') (Hs3 : ∀ {v2 : Int32} {S S' : mT}, self 3 12 v2 S = some S' → Fr (inM 999999 LX4_readUnit_12) S S') (Hs4 : ∀ {v2 : Int32} {S S' : mT}, self 4 12 v2 S = some S' → Fr (inM 999999 LX4_readUnit_12) S S') (Hs5 : ∀ {v2 : Int32} {S S' : mT}, self 5 12 v2 S = some S' → Fr (inM 999999 LX4_readUnit_12) S S') {S' : mT} {S : mT} (hf : fX4_readUnit_115 12 self S = some S') : Fr (inM 999999 LX4_readUnit_12) S S' := by
  unfold fX4_readUnit_115 at hf
  cases hf
  exact (Fr.rfl (inM 999999 LX4_readUnit_12) _)
theorem rX4_readUnit_110_12 {self : Nat → Nat → Int32 → mT → Option (mT)} (Hs0 : ∀ {v2 : Int32} {S S' : mT}, self 0 12 v2 S = some S' → Fr (inM 999999 LX4_readUnit_12) S S') (Hs1 : ∀ {v2 : Int32} {S S' : mT}, self 1 12 v2 S = some S' → Fr (inM 999999 LX4_readUnit_12) S S') (Hs2 : ∀ {v2 : Int32} {S S' : mT}, self 2 12 v2 S = some S' → Fr (inM 999999 LX4_readUnit_12) S S') (Hs3 : ∀ {v2 : Int32} {S S' : mT}, self 3 12 v2 S = some S' → Fr (inM 999999 LX4_readUnit_12) S S') (Hs4 : ∀ {v2 : Int32} {S S' : mT}, self 4 12 v2 S = some S' → Fr (inM 999999 LX4_readUnit_12) S S') (Hs5 : ∀ {v2 : Int32} {S S' : mT}, self 5 12 v2 S = some S' → Fr (inM 999999 LX4_readUnit_12) S S') {S' : mT} {S : mT} (hf : fX4_readUnit_110 12 self S = some S') : Fr (inM 999999 LX4_readUnit_12) S S' := by
  unfold fX4_readUnit_110 at hf
  obtain ⟨S14, hq, hf⟩ := bndV_ex hf
  have F := (Fr.rfl (inM 999999 LX4_readUnit_12) _).trans ((rX4_refuse hq).mono rfl (fun _ => rfl))
  exact F.trans (rX4_readUnit_115_12 Hs0 Hs1 Hs2 Hs3 Hs4 Hs5 hf)
theorem rX4_readUnit_0_12 {self : Nat → Nat → Int32 → mT → Option (mT)} (Hs0 : ∀ {v2 : Int32} {S S' : mT}, self 0 12 v2 S = some S' → Fr (inM 999999 LX4_readUnit_12) S S') (Hs1 : ∀ {v2 : Int32} {S S' : mT}, self 1 12 v2 S = some S' → Fr (inM 999999 LX4_readUnit_12) S S') (Hs2 : ∀ {v2 : Int32} {S S' : mT}, self 2 12 v2 S = some S' → Fr (inM 999999 LX4_readUnit_12) S S') (Hs3 : ∀ {v2 : Int32} {S S' : mT}, self 3 12 v2 S = some S' → Fr (inM 999999 LX4_readUnit_12) S S') (Hs4 : ∀ {v2 : Int32} {S S' : mT}, self 4 12 v2 S = some S' → Fr (inM 999999 LX4_readUnit_12) S S') (Hs5 : ∀ {v2 : Int32} {S S' : mT}, self 5 12 v2 S = some S' → Fr (inM 999999 LX4_readUnit_12) S S') {S' : mT} {v2 : Int32} {S : mT} (hf : fX4_readUnit_0 12 self v2 S = some S') : Fr (inM 999999 LX4_readUnit_12) S S' := by
  unfold fX4_readUnit_0 at hf
  obtain ⟨-, hf⟩ := grd_ex hf
  by_cases hc : (S.1 12 3) < (30 : Int32)
  · rw [if_pos hc] at hf
    obtain ⟨-, hf⟩ := grd_ex hf
    obtain ⟨S1, eS1, hf⟩ := bnd_ex hf
    have F : Fr (inM 999999 LX4_readUnit_12) S S1 := by
      rw [eS1]
      exact Fr.sI (Fr.rfl (inM 999999 LX4_readUnit_12) _) rfl
    obtain ⟨x3, S2, hq, hf⟩ := bndC_ex hf
    have F := F.trans ((rX4_valueNamed hq).mono rfl (fun _ => rfl))
    obtain ⟨-, hf⟩ := grd_ex hf
    by_cases hc : (S2.1 1 4) = (2 : Int32)
    · rw [if_pos hc] at hf
      obtain ⟨-, hf⟩ := grd_ex hf
      obtain ⟨S4, hq, hf⟩ := bndV_ex hf
      have F := F.trans ((rX0_add_12 hq).mono rfl (fun _ => rfl))
      obtain ⟨S5, hq, hf⟩ := bndV_ex hf
      have F := F.trans ((rX4_advance hq).mono rfl (fun _ => rfl))
      exact F.trans (rX4_readUnit_115_12 Hs0 Hs1 Hs2 Hs3 Hs4 Hs5 hf)
    · rw [if_neg hc] at hf
      by_cases hc : x3 = (-1 : Int32)
      · rw [if_pos hc] at hf
        obtain ⟨x7, S6, hq, hf⟩ := bndC_ex hf
        have F := F.trans ((rX4_isSign hq).mono rfl (fun _ => rfl))
        by_cases hc : x7 = 0
        · rw [if_pos hc] at hf
          exact F.trans (rX4_readUnit_110_12 Hs0 Hs1 Hs2 Hs3 Hs4 Hs5 hf)
        · rw [if_neg hc] at hf
          by_cases hc : (6 : Int32) < v2
          · rw [if_pos hc] at hf
            exact F.trans (rX4_readUnit_110_12 Hs0 Hs1 Hs2 Hs3 Hs4 Hs5 hf)
          · rw [if_neg hc] at hf
            obtain ⟨S8, hq, hf⟩ := bndV_ex hf
            have F := F.trans ((rX4_advance hq).mono rfl (fun _ => rfl))
            obtain ⟨S9, hq, hf⟩ := bndV_ex hf
            have F := F.trans (Hs0 hq)
            obtain ⟨S10, hq, hf⟩ := bndV_ex hf
            have F := F.trans ((rX4_takeSign hq).mono rfl (fun _ => rfl))
            exact F.trans (rX4_readUnit_115_12 Hs0 Hs1 Hs2 Hs3 Hs4 Hs5 hf)
      · rw [if_neg hc] at hf
        obtain ⟨S11, hq, hf⟩ := bndV_ex hf
        have F := F.trans ((rX0_add_12 hq).mono rfl (fun _ => rfl))
        obtain ⟨S12, hq, hf⟩ := bndV_ex hf
        have F := F.trans ((rX4_advance hq).mono rfl (fun _ => rfl))
        exact F.trans (rX4_readUnit_115_12 Hs0 Hs1 Hs2 Hs3 Hs4 Hs5 hf)
  · rw [if_neg hc] at hf
    obtain ⟨S13, hq, hf⟩ := bndV_ex hf
    have F := (Fr.rfl (inM 999999 LX4_readUnit_12) _).trans ((rX4_refuse hq).mono rfl (fun _ => rfl))
    cases hf
    exact F
abbrev LX4_readUnit_15 : List (Nat × Nat × Option Nat) := LP_15
theorem rX4_readUnit_115_15 {self : Nat → Nat → Int32 → mT → Option (mT)} (Hs0 : ∀ {v2 : Int32} {S S' : mT}, self 0 15 v2 S = some S' → Fr (inM 999999 LX4_readUnit_15) S S') (Hs1 : ∀ {v2 : Int32} {S S' : mT}, self 1 15 v2 S = some S' → Fr (inM 999999 LX4_readUnit_15) S S') (Hs2 : ∀ {v2 : Int32} {S S' : mT}, self 2 15 v2 S = some S' → Fr (inM 999999 LX4_readUnit_15) S S') (Hs3 : ∀ {v2 : Int32} {S S' : mT}, self 3 15 v2 S = some S' → Fr (inM 999999 LX4_readUnit_15) S S') (Hs4 : ∀ {v2 : Int32} {S S' : mT}, self 4 15 v2 S = some S' → Fr (inM 999999 LX4_readUnit_15) S S') (Hs5 : ∀ {v2 : Int32} {S S' : mT}, self 5 15 v2 S = some S' → Fr (inM 999999 LX4_readUnit_15) S S') {S' : mT} {S : mT} (hf : fX4_readUnit_115 15 self S = some S') : Fr (inM 999999 LX4_readUnit_15) S S' := by
  unfold fX4_readUnit_115 at hf
  cases hf
  exact (Fr.rfl (inM 999999 LX4_readUnit_15) _)
theorem rX4_readUnit_110_15 {self : Nat → Nat → Int32 → mT → Option (mT)} (Hs0 : ∀ {v2 : Int32} {S S' : mT}, self 0 15 v2 S = some S' → Fr (inM 999999 LX4_readUnit_15) S S') (Hs1 : ∀ {v2 : Int32} {S S' : mT}, self 1 15 v2 S = some S' → Fr (inM 999999 LX4_readUnit_15) S S') (Hs2 : ∀ {v2 : Int32} {S S' : mT}, self 2 15 v2 S = some S' → Fr (inM 999999 LX4_readUnit_15) S S') (Hs3 : ∀ {v2 : Int32} {S S' : mT}, self 3 15 v2 S = some S' → Fr (inM 999999 LX4_readUnit_15) S S') (Hs4 : ∀ {v2 : Int32} {S S' : mT}, self 4 15 v2 S = some S' → Fr (inM 999999 LX4_readUnit_15) S S') (Hs5 : ∀ {v2 : Int32} {S S' : mT}, self 5 15 v2 S = some S' → Fr (inM 999999 LX4_readUnit_15) S S') {S' : mT} {S : mT} (hf : fX4_readUnit_110 15 self S = some S') : Fr (inM 999999 LX4_readUnit_15) S S' := by
  unfold fX4_readUnit_110 at hf
  obtain ⟨S14, hq, hf⟩ := bndV_ex hf
  have F := (Fr.rfl (inM 999999 LX4_readUnit_15) _).trans ((rX4_refuse hq).mono rfl (fun _ => rfl))
  exact F.trans (rX4_readUnit_115_15 Hs0 Hs1 Hs2 Hs3 Hs4 Hs5 hf)
theorem rX4_readUnit_0_15 {self : Nat → Nat → Int32 → mT → Option (mT)} (Hs0 : ∀ {v2 : Int32} {S S' : mT}, self 0 15 v2 S = some S' → Fr (inM 999999 LX4_readUnit_15) S S') (Hs1 : ∀ {v2 : Int32} {S S' : mT}, self 1 15 v2 S = some S' → Fr (inM 999999 LX4_readUnit_15) S S') (Hs2 : ∀ {v2 : Int32} {S S' : mT}, self 2 15 v2 S = some S' → Fr (inM 999999 LX4_readUnit_15) S S') (Hs3 : ∀ {v2 : Int32} {S S' : mT}, self 3 15 v2 S = some S' → Fr (inM 999999 LX4_readUnit_15) S S') (Hs4 : ∀ {v2 : Int32} {S S' : mT}, self 4 15 v2 S = some S' → Fr (inM 999999 LX4_readUnit_15) S S') (Hs5 : ∀ {v2 : Int32} {S S' : mT}, self 5 15 v2 S = some S' → Fr (inM 999999 LX4_readUnit_15) S S') {S' : mT} {v2 : Int32} {S : mT} (hf : fX4_readUnit_0 15 self v2 S = some S') : Fr (inM 999999 LX4_readUnit_15) S S' := by
  unfold fX4_readUnit_0 at hf
  obtain ⟨-, hf⟩ := grd_ex hf
  by_cases hc : (S.1 15 3) < (30 : Int32)
  · rw [if_pos hc] at hf
    obtain ⟨-, hf⟩ := grd_ex hf
    obtain ⟨S1, eS1, hf⟩ := bnd_ex hf
    have F : Fr (inM 999999 LX4_readUnit_15) S S1 := by
      rw [eS1]
      exact Fr.sI (Fr.rfl (inM 999999 LX4_readUnit_15) _) rfl
    obtain ⟨x3, S2, hq, hf⟩ := bndC_ex hf
    have F := F.trans ((rX4_valueNamed hq).mono rfl (fun _ => rfl))
    obtain ⟨-, hf⟩ := grd_ex hf
    by_cases hc : (S2.1 1 4) = (2 : Int32)
    · rw [if_pos hc] at hf
      obtain ⟨-, hf⟩ := grd_ex hf
      obtain ⟨S4, hq, hf⟩ := bndV_ex hf
      have F := F.trans ((rX0_add_15 hq).mono rfl (fun _ => rfl))
      obtain ⟨S5, hq, hf⟩ := bndV_ex hf
      have F := F.trans ((rX4_advance hq).mono rfl (fun _ => rfl))
      exact F.trans (rX4_readUnit_115_15 Hs0 Hs1 Hs2 Hs3 Hs4 Hs5 hf)
    · rw [if_neg hc] at hf
      by_cases hc : x3 = (-1 : Int32)
      · rw [if_pos hc] at hf
        obtain ⟨x7, S6, hq, hf⟩ := bndC_ex hf
        have F := F.trans ((rX4_isSign hq).mono rfl (fun _ => rfl))
        by_cases hc : x7 = 0
        · rw [if_pos hc] at hf
          exact F.trans (rX4_readUnit_110_15 Hs0 Hs1 Hs2 Hs3 Hs4 Hs5 hf)
        · rw [if_neg hc] at hf
          by_cases hc : (6 : Int32) < v2
          · rw [if_pos hc] at hf
            exact F.trans (rX4_readUnit_110_15 Hs0 Hs1 Hs2 Hs3 Hs4 Hs5 hf)
          · rw [if_neg hc] at hf
            obtain ⟨S8, hq, hf⟩ := bndV_ex hf
            have F := F.trans ((rX4_advance hq).mono rfl (fun _ => rfl))
            obtain ⟨S9, hq, hf⟩ := bndV_ex hf
            have F := F.trans (Hs0 hq)
            obtain ⟨S10, hq, hf⟩ := bndV_ex hf
            have F := F.trans ((rX4_takeSign hq).mono rfl (fun _ => rfl))
            exact F.trans (rX4_readUnit_115_15 Hs0 Hs1 Hs2 Hs3 Hs4 Hs5 hf)
      · rw [if_neg hc] at hf
        obtain ⟨S11, hq, hf⟩ := bndV_ex hf
        have F := F.trans ((rX0_add_15 hq).mono rfl (fun _ => rfl))
        obtain ⟨S12, hq, hf⟩ := bndV_ex hf
        have F := F.trans ((rX4_advance hq).mono rfl (fun _ => rfl))
        exact F.trans (rX4_readUnit_115_15 Hs0 Hs1 Hs2 Hs3 Hs4 Hs5 hf)
  · rw [if_neg hc] at hf
    obtain ⟨S13, hq, hf⟩ := bndV_ex hf
    have F := (Fr.rfl (inM 999999 LX4_readUnit_15) _).trans ((rX4_refuse hq).mono rfl (fun _ => rfl))
    cases hf
    exact F
abbrev LX4_readUnit_25 : List (Nat × Nat × Option Nat) := LP_25
theorem rX4_readUnit_115_25 {self : Nat → Nat → Int32 → mT → Option (mT)} (Hs0 : ∀ {v2 : Int32} {S S' : mT}, self 0 25 v2 S = some S' → Fr (inM 999999 LX4_readUnit_25) S S') (Hs1 : ∀ {v2 : Int32} {S S' : mT}, self 1 25 v2 S = some S' → Fr (inM 999999 LX4_readUnit_25) S S') (Hs2 : ∀ {v2 : Int32} {S S' : mT}, self 2 25 v2 S = some S' → Fr (inM 999999 LX4_readUnit_25) S S') (Hs3 : ∀ {v2 : Int32} {S S' : mT}, self 3 25 v2 S = some S' → Fr (inM 999999 LX4_readUnit_25) S S') (Hs4 : ∀ {v2 : Int32} {S S' : mT}, self 4 25 v2 S = some S' → Fr (inM 999999 LX4_readUnit_25) S S') (Hs5 : ∀ {v2 : Int32} {S S' : mT}, self 5 25 v2 S = some S' → Fr (inM 999999 LX4_readUnit_25) S S') {S' : mT} {S : mT} (hf : fX4_readUnit_115 25 self S = some S') : Fr (inM 999999 LX4_readUnit_25) S S' := by
  unfold fX4_readUnit_115 at hf
  cases hf
  exact (Fr.rfl (inM 999999 LX4_readUnit_25) _)
theorem rX4_readUnit_110_25 {self : Nat → Nat → Int32 → mT → Option (mT)} (Hs0 : ∀ {v2 : Int32} {S S' : mT}, self 0 25 v2 S = some S' → Fr (inM 999999 LX4_readUnit_25) S S') (Hs1 : ∀ {v2 : Int32} {S S' : mT}, self 1 25 v2 S = some S' → Fr (inM 999999 LX4_readUnit_25) S S') (Hs2 : ∀ {v2 : Int32} {S S' : mT}, self 2 25 v2 S = some S' → Fr (inM 999999 LX4_readUnit_25) S S') (Hs3 : ∀ {v2 : Int32} {S S' : mT}, self 3 25 v2 S = some S' → Fr (inM 999999 LX4_readUnit_25) S S') (Hs4 : ∀ {v2 : Int32} {S S' : mT}, self 4 25 v2 S = some S' → Fr (inM 999999 LX4_readUnit_25) S S') (Hs5 : ∀ {v2 : Int32} {S S' : mT}, self 5 25 v2 S = some S' → Fr (inM 999999 LX4_readUnit_25) S S') {S' : mT} {S : mT} (hf : fX4_readUnit_110 25 self S = some S') : Fr (inM 999999 LX4_readUnit_25) S S' := by
  unfold fX4_readUnit_110 at hf
  obtain ⟨S14, hq, hf⟩ := bndV_ex hf
  have F := (Fr.rfl (inM 999999 LX4_readUnit_25) _).trans ((rX4_refuse hq).mono rfl (fun _ => rfl))
  exact F.trans (rX4_readUnit_115_25 Hs0 Hs1 Hs2 Hs3 Hs4 Hs5 hf)
theorem rX4_readUnit_0_25 {self : Nat → Nat → Int32 → mT → Option (mT)} (Hs0 : ∀ {v2 : Int32} {S S' : mT}, self 0 25 v2 S = some S' → Fr (inM 999999 LX4_readUnit_25) S S') (Hs1 : ∀ {v2 : Int32} {S S' : mT}, self 1 25 v2 S = some S' → Fr (inM 999999 LX4_readUnit_25) S S') (Hs2 : ∀ {v2 : Int32} {S S' : mT}, self 2 25 v2 S = some S' → Fr (inM 999999 LX4_readUnit_25) S S') (Hs3 : ∀ {v2 : Int32} {S S' : mT}, self 3 25 v2 S = some S' → Fr (inM 999999 LX4_readUnit_25) S S') (Hs4 : ∀ {v2 : Int32} {S S' : mT}, self 4 25 v2 S = some S' → Fr (inM 999999 LX4_readUnit_25) S S') (Hs5 : ∀ {v2 : Int32} {S S' : mT}, self 5 25 v2 S = some S' → Fr (inM 999999 LX4_readUnit_25) S S') {S' : mT} {v2 : Int32} {S : mT} (hf : fX4_readUnit_0 25 self v2 S = some S') : Fr (inM 999999 LX4_readUnit_25) S S' := by
  unfold fX4_readUnit_0 at hf
  obtain ⟨-, hf⟩ := grd_ex hf
  by_cases hc : (S.1 25 3) < (30 : Int32)
  · rw [if_pos hc] at hf
    obtain ⟨-, hf⟩ := grd_ex hf
    obtain ⟨S1, eS1, hf⟩ := bnd_ex hf
    have F : Fr (inM 999999 LX4_readUnit_25) S S1 := by
      rw [eS1]
      exact Fr.sI (Fr.rfl (inM 999999 LX4_readUnit_25) _) rfl
    obtain ⟨x3, S2, hq, hf⟩ := bndC_ex hf
    have F := F.trans ((rX4_valueNamed hq).mono rfl (fun _ => rfl))
    obtain ⟨-, hf⟩ := grd_ex hf
    by_cases hc : (S2.1 1 4) = (2 : Int32)
    · rw [if_pos hc] at hf
      obtain ⟨-, hf⟩ := grd_ex hf
      obtain ⟨S4, hq, hf⟩ := bndV_ex hf
      have F := F.trans ((rX0_add_25 hq).mono rfl (fun _ => rfl))
      obtain ⟨S5, hq, hf⟩ := bndV_ex hf
      have F := F.trans ((rX4_advance hq).mono rfl (fun _ => rfl))
      exact F.trans (rX4_readUnit_115_25 Hs0 Hs1 Hs2 Hs3 Hs4 Hs5 hf)
    · rw [if_neg hc] at hf
      by_cases hc : x3 = (-1 : Int32)
      · rw [if_pos hc] at hf
        obtain ⟨x7, S6, hq, hf⟩ := bndC_ex hf
        have F := F.trans ((rX4_isSign hq).mono rfl (fun _ => rfl))
        by_cases hc : x7 = 0
        · rw [if_pos hc] at hf
          exact F.trans (rX4_readUnit_110_25 Hs0 Hs1 Hs2 Hs3 Hs4 Hs5 hf)
        · rw [if_neg hc] at hf
          by_cases hc : (6 : Int32) < v2
          · rw [if_pos hc] at hf
            exact F.trans (rX4_readUnit_110_25 Hs0 Hs1 Hs2 Hs3 Hs4 Hs5 hf)
          · rw [if_neg hc] at hf
            obtain ⟨S8, hq, hf⟩ := bndV_ex hf
            have F := F.trans ((rX4_advance hq).mono rfl (fun _ => rfl))
            obtain ⟨S9, hq, hf⟩ := bndV_ex hf
            have F := F.trans (Hs0 hq)
            obtain ⟨S10, hq, hf⟩ := bndV_ex hf
            have F := F.trans ((rX4_takeSign hq).mono rfl (fun _ => rfl))
            exact F.trans (rX4_readUnit_115_25 Hs0 Hs1 Hs2 Hs3 Hs4 Hs5 hf)
      · rw [if_neg hc] at hf
        obtain ⟨S11, hq, hf⟩ := bndV_ex hf
        have F := F.trans ((rX0_add_25 hq).mono rfl (fun _ => rfl))
        obtain ⟨S12, hq, hf⟩ := bndV_ex hf
        have F := F.trans ((rX4_advance hq).mono rfl (fun _ => rfl))
        exact F.trans (rX4_readUnit_115_25 Hs0 Hs1 Hs2 Hs3 Hs4 Hs5 hf)
  · rw [if_neg hc] at hf
    obtain ⟨S13, hq, hf⟩ := bndV_ex hf
    have F := (Fr.rfl (inM 999999 LX4_readUnit_25) _).trans ((rX4_refuse hq).mono rfl (fun _ => rfl))
    cases hf
    exact F
abbrev LX4_readUnit_28 : List (Nat × Nat × Option Nat) := LP_28
theorem rX4_readUnit_115_28 {self : Nat → Nat → Int32 → mT → Option (mT)} (Hs0 : ∀ {v2 : Int32} {S S' : mT}, self 0 28 v2 S = some S' → Fr (inM 999999 LX4_readUnit_28) S S') (Hs1 : ∀ {v2 : Int32} {S S' : mT}, self 1 28 v2 S = some S' → Fr (inM 999999 LX4_readUnit_28) S S') (Hs2 : ∀ {v2 : Int32} {S S' : mT}, self 2 28 v2 S = some S' → Fr (inM 999999 LX4_readUnit_28) S S') (Hs3 : ∀ {v2 : Int32} {S S' : mT}, self 3 28 v2 S = some S' → Fr (inM 999999 LX4_readUnit_28) S S') (Hs4 : ∀ {v2 : Int32} {S S' : mT}, self 4 28 v2 S = some S' → Fr (inM 999999 LX4_readUnit_28) S S') (Hs5 : ∀ {v2 : Int32} {S S' : mT}, self 5 28 v2 S = some S' → Fr (inM 999999 LX4_readUnit_28) S S') {S' : mT} {S : mT} (hf : fX4_readUnit_115 28 self S = some S') : Fr (inM 999999 LX4_readUnit_28) S S' := by
  unfold fX4_readUnit_115 at hf
  cases hf
  exact (Fr.rfl (inM 999999 LX4_readUnit_28) _)
theorem rX4_readUnit_110_28 {self : Nat → Nat → Int32 → mT → Option (mT)} (Hs0 : ∀ {v2 : Int32} {S S' : mT}, self 0 28 v2 S = some S' → Fr (inM 999999 LX4_readUnit_28) S S') (Hs1 : ∀ {v2 : Int32} {S S' : mT}, self 1 28 v2 S = some S' → Fr (inM 999999 LX4_readUnit_28) S S') (Hs2 : ∀ {v2 : Int32} {S S' : mT}, self 2 28 v2 S = some S' → Fr (inM 999999 LX4_readUnit_28) S S') (Hs3 : ∀ {v2 : Int32} {S S' : mT}, self 3 28 v2 S = some S' → Fr (inM 999999 LX4_readUnit_28) S S') (Hs4 : ∀ {v2 : Int32} {S S' : mT}, self 4 28 v2 S = some S' → Fr (inM 999999 LX4_readUnit_28) S S') (Hs5 : ∀ {v2 : Int32} {S S' : mT}, self 5 28 v2 S = some S' → Fr (inM 999999 LX4_readUnit_28) S S') {S' : mT} {S : mT} (hf : fX4_readUnit_110 28 self S = some S') : Fr (inM 999999 LX4_readUnit_28) S S' := by
  unfold fX4_readUnit_110 at hf
  obtain ⟨S14, hq, hf⟩ := bndV_ex hf
  have F := (Fr.rfl (inM 999999 LX4_readUnit_28) _).trans ((rX4_refuse hq).mono rfl (fun _ => rfl))
  exact F.trans (rX4_readUnit_115_28 Hs0 Hs1 Hs2 Hs3 Hs4 Hs5 hf)
theorem rX4_readUnit_0_28 {self : Nat → Nat → Int32 → mT → Option (mT)} (Hs0 : ∀ {v2 : Int32} {S S' : mT}, self 0 28 v2 S = some S' → Fr (inM 999999 LX4_readUnit_28) S S') (Hs1 : ∀ {v2 : Int32} {S S' : mT}, self 1 28 v2 S = some S' → Fr (inM 999999 LX4_readUnit_28) S S') (Hs2 : ∀ {v2 : Int32} {S S' : mT}, self 2 28 v2 S = some S' → Fr (inM 999999 LX4_readUnit_28) S S') (Hs3 : ∀ {v2 : Int32} {S S' : mT}, self 3 28 v2 S = some S' → Fr (inM 999999 LX4_readUnit_28) S S') (Hs4 : ∀ {v2 : Int32} {S S' : mT}, self 4 28 v2 S = some S' → Fr (inM 999999 LX4_readUnit_28) S S') (Hs5 : ∀ {v2 : Int32} {S S' : mT}, self 5 28 v2 S = some S' → Fr (inM 999999 LX4_readUnit_28) S S') {S' : mT} {v2 : Int32} {S : mT} (hf : fX4_readUnit_0 28 self v2 S = some S') : Fr (inM 999999 LX4_readUnit_28) S S' := by
  unfold fX4_readUnit_0 at hf
  obtain ⟨-, hf⟩ := grd_ex hf
  by_cases hc : (S.1 28 3) < (30 : Int32)
  · rw [if_pos hc] at hf
    obtain ⟨-, hf⟩ := grd_ex hf
    obtain ⟨S1, eS1, hf⟩ := bnd_ex hf
    have F : Fr (inM 999999 LX4_readUnit_28) S S1 := by
      rw [eS1]
      exact Fr.sI (Fr.rfl (inM 999999 LX4_readUnit_28) _) rfl
    obtain ⟨x3, S2, hq, hf⟩ := bndC_ex hf
    have F := F.trans ((rX4_valueNamed hq).mono rfl (fun _ => rfl))
    obtain ⟨-, hf⟩ := grd_ex hf
    by_cases hc : (S2.1 1 4) = (2 : Int32)
    · rw [if_pos hc] at hf
      obtain ⟨-, hf⟩ := grd_ex hf
      obtain ⟨S4, hq, hf⟩ := bndV_ex hf
      have F := F.trans ((rX0_add_28 hq).mono rfl (fun _ => rfl))
      obtain ⟨S5, hq, hf⟩ := bndV_ex hf
      have F := F.trans ((rX4_advance hq).mono rfl (fun _ => rfl))
      exact F.trans (rX4_readUnit_115_28 Hs0 Hs1 Hs2 Hs3 Hs4 Hs5 hf)
    · rw [if_neg hc] at hf
      by_cases hc : x3 = (-1 : Int32)
      · rw [if_pos hc] at hf
        obtain ⟨x7, S6, hq, hf⟩ := bndC_ex hf
        have F := F.trans ((rX4_isSign hq).mono rfl (fun _ => rfl))
        by_cases hc : x7 = 0
        · rw [if_pos hc] at hf
          exact F.trans (rX4_readUnit_110_28 Hs0 Hs1 Hs2 Hs3 Hs4 Hs5 hf)
        · rw [if_neg hc] at hf
          by_cases hc : (6 : Int32) < v2
          · rw [if_pos hc] at hf
            exact F.trans (rX4_readUnit_110_28 Hs0 Hs1 Hs2 Hs3 Hs4 Hs5 hf)
          · rw [if_neg hc] at hf
            obtain ⟨S8, hq, hf⟩ := bndV_ex hf
            have F := F.trans ((rX4_advance hq).mono rfl (fun _ => rfl))
            obtain ⟨S9, hq, hf⟩ := bndV_ex hf
            have F := F.trans (Hs0 hq)
            obtain ⟨S10, hq, hf⟩ := bndV_ex hf
            have F := F.trans ((rX4_takeSign hq).mono rfl (fun _ => rfl))
            exact F.trans (rX4_readUnit_115_28 Hs0 Hs1 Hs2 Hs3 Hs4 Hs5 hf)
      · rw [if_neg hc] at hf
        obtain ⟨S11, hq, hf⟩ := bndV_ex hf
        have F := F.trans ((rX0_add_28 hq).mono rfl (fun _ => rfl))
        obtain ⟨S12, hq, hf⟩ := bndV_ex hf
        have F := F.trans ((rX4_advance hq).mono rfl (fun _ => rfl))
        exact F.trans (rX4_readUnit_115_28 Hs0 Hs1 Hs2 Hs3 Hs4 Hs5 hf)
  · rw [if_neg hc] at hf
    obtain ⟨S13, hq, hf⟩ := bndV_ex hf
    have F := (Fr.rfl (inM 999999 LX4_readUnit_28) _).trans ((rX4_refuse hq).mono rfl (fun _ => rfl))
    cases hf
    exact F
abbrev LX4_readUnit_31 : List (Nat × Nat × Option Nat) := LP_31
theorem rX4_readUnit_115_31 {self : Nat → Nat → Int32 → mT → Option (mT)} (Hs0 : ∀ {v2 : Int32} {S S' : mT}, self 0 31 v2 S = some S' → Fr (inM 999999 LX4_readUnit_31) S S') (Hs1 : ∀ {v2 : Int32} {S S' : mT}, self 1 31 v2 S = some S' → Fr (inM 999999 LX4_readUnit_31) S S') (Hs2 : ∀ {v2 : Int32} {S S' : mT}, self 2 31 v2 S = some S' → Fr (inM 999999 LX4_readUnit_31) S S') (Hs3 : ∀ {v2 : Int32} {S S' : mT}, self 3 31 v2 S = some S' → Fr (inM 999999 LX4_readUnit_31) S S') (Hs4 : ∀ {v2 : Int32} {S S' : mT}, self 4 31 v2 S = some S' → Fr (inM 999999 LX4_readUnit_31) S S') (Hs5 : ∀ {v2 : Int32} {S S' : mT}, self 5 31 v2 S = some S' → Fr (inM 999999 LX4_readUnit_31) S S') {S' : mT} {S : mT} (hf : fX4_readUnit_115 31 self S = some S') : Fr (inM 999999 LX4_readUnit_31) S S' := by
  unfold fX4_readUnit_115 at hf
  cases hf
  exact (Fr.rfl (inM 999999 LX4_readUnit_31) _)
theorem rX4_readUnit_110_31 {self : Nat → Nat → Int32 → mT → Option (mT)} (Hs0 : ∀ {v2 : Int32} {S S' : mT}, self 0 31 v2 S = some S' → Fr (inM 999999 LX4_readUnit_31) S S') (Hs1 : ∀ {v2 : Int32} {S S' : mT}, self 1 31 v2 S = some S' → Fr (inM 999999 LX4_readUnit_31) S S') (Hs2 : ∀ {v2 : Int32} {S S' : mT}, self 2 31 v2 S = some S' → Fr (inM 999999 LX4_readUnit_31) S S') (Hs3 : ∀ {v2 : Int32} {S S' : mT}, self 3 31 v2 S = some S' → Fr (inM 999999 LX4_readUnit_31) S S') (Hs4 : ∀ {v2 : Int32} {S S' : mT}, self 4 31 v2 S = some S' → Fr (inM 999999 LX4_readUnit_31) S S') (Hs5 : ∀ {v2 : Int32} {S S' : mT}, self 5 31 v2 S = some S' → Fr (inM 999999 LX4_readUnit_31) S S') {S' : mT} {S : mT} (hf : fX4_readUnit_110 31 self S = some S') : Fr (inM 999999 LX4_readUnit_31) S S' := by
  unfold fX4_readUnit_110 at hf
  obtain ⟨S14, hq, hf⟩ := bndV_ex hf
  have F := (Fr.rfl (inM 999999 LX4_readUnit_31) _).trans ((rX4_refuse hq).mono rfl (fun _ => rfl))
  exact F.trans (rX4_readUnit_115_31 Hs0 Hs1 Hs2 Hs3 Hs4 Hs5 hf)
theorem rX4_readUnit_0_31 {self : Nat → Nat → Int32 → mT → Option (mT)} (Hs0 : ∀ {v2 : Int32} {S S' : mT}, self 0 31 v2 S = some S' → Fr (inM 999999 LX4_readUnit_31) S S') (Hs1 : ∀ {v2 : Int32} {S S' : mT}, self 1 31 v2 S = some S' → Fr (inM 999999 LX4_readUnit_31) S S') (Hs2 : ∀ {v2 : Int32} {S S' : mT}, self 2 31 v2 S = some S' → Fr (inM 999999 LX4_readUnit_31) S S') (Hs3 : ∀ {v2 : Int32} {S S' : mT}, self 3 31 v2 S = some S' → Fr (inM 999999 LX4_readUnit_31) S S') (Hs4 : ∀ {v2 : Int32} {S S' : mT}, self 4 31 v2 S = some S' → Fr (inM 999999 LX4_readUnit_31) S S') (Hs5 : ∀ {v2 : Int32} {S S' : mT}, self 5 31 v2 S = some S' → Fr (inM 999999 LX4_readUnit_31) S S') {S' : mT} {v2 : Int32} {S : mT} (hf : fX4_readUnit_0 31 self v2 S = some S') : Fr (inM 999999 LX4_readUnit_31) S S' := by
  unfold fX4_readUnit_0 at hf
  obtain ⟨-, hf⟩ := grd_ex hf
  by_cases hc : (S.1 31 3) < (30 : Int32)
  · rw [if_pos hc] at hf
    obtain ⟨-, hf⟩ := grd_ex hf
    obtain ⟨S1, eS1, hf⟩ := bnd_ex hf
    have F : Fr (inM 999999 LX4_readUnit_31) S S1 := by
      rw [eS1]
      exact Fr.sI (Fr.rfl (inM 999999 LX4_readUnit_31) _) rfl
    obtain ⟨x3, S2, hq, hf⟩ := bndC_ex hf
    have F := F.trans ((rX4_valueNamed hq).mono rfl (fun _ => rfl))
    obtain ⟨-, hf⟩ := grd_ex hf
    by_cases hc : (S2.1 1 4) = (2 : Int32)
    · rw [if_pos hc] at hf
      obtain ⟨-, hf⟩ := grd_ex hf
      obtain ⟨S4, hq, hf⟩ := bndV_ex hf
      have F := F.trans ((rX0_add_31 hq).mono rfl (fun _ => rfl))
      obtain ⟨S5, hq, hf⟩ := bndV_ex hf
      have F := F.trans ((rX4_advance hq).mono rfl (fun _ => rfl))
      exact F.trans (rX4_readUnit_115_31 Hs0 Hs1 Hs2 Hs3 Hs4 Hs5 hf)
    · rw [if_neg hc] at hf
      by_cases hc : x3 = (-1 : Int32)
      · rw [if_pos hc] at hf
        obtain ⟨x7, S6, hq, hf⟩ := bndC_ex hf
        have F := F.trans ((rX4_isSign hq).mono rfl (fun _ => rfl))
        by_cases hc : x7 = 0
        · rw [if_pos hc] at hf
          exact F.trans (rX4_readUnit_110_31 Hs0 Hs1 Hs2 Hs3 Hs4 Hs5 hf)
        · rw [if_neg hc] at hf
          by_cases hc : (6 : Int32) < v2
          · rw [if_pos hc] at hf
            exact F.trans (rX4_readUnit_110_31 Hs0 Hs1 Hs2 Hs3 Hs4 Hs5 hf)
          · rw [if_neg hc] at hf
            obtain ⟨S8, hq, hf⟩ := bndV_ex hf
            have F := F.trans ((rX4_advance hq).mono rfl (fun _ => rfl))
            obtain ⟨S9, hq, hf⟩ := bndV_ex hf
            have F := F.trans (Hs0 hq)
            obtain ⟨S10, hq, hf⟩ := bndV_ex hf
            have F := F.trans ((rX4_takeSign hq).mono rfl (fun _ => rfl))
            exact F.trans (rX4_readUnit_115_31 Hs0 Hs1 Hs2 Hs3 Hs4 Hs5 hf)
      · rw [if_neg hc] at hf
        obtain ⟨S11, hq, hf⟩ := bndV_ex hf
        have F := F.trans ((rX0_add_31 hq).mono rfl (fun _ => rfl))
        obtain ⟨S12, hq, hf⟩ := bndV_ex hf
        have F := F.trans ((rX4_advance hq).mono rfl (fun _ => rfl))
        exact F.trans (rX4_readUnit_115_31 Hs0 Hs1 Hs2 Hs3 Hs4 Hs5 hf)
  · rw [if_neg hc] at hf
    obtain ⟨S13, hq, hf⟩ := bndV_ex hf
    have F := (Fr.rfl (inM 999999 LX4_readUnit_31) _).trans ((rX4_refuse hq).mono rfl (fun _ => rfl))
    cases hf
    exact F
theorem rP_9 : ∀ (d : Nat), (∀ {v2 : Int32} {S S' : mT}, fP d 0 9 v2 S = some S' → Fr (inM 999999 LP_9) S S') ∧ (∀ {v2 : Int32} {S S' : mT}, fP d 1 9 v2 S = some S' → Fr (inM 999999 LP_9) S S') ∧ (∀ {v2 : Int32} {S S' : mT}, fP d 2 9 v2 S = some S' → Fr (inM 999999 LP_9) S S') ∧ (∀ {v2 : Int32} {S S' : mT}, fP d 3 9 v2 S = some S' → Fr (inM 999999 LP_9) S S') ∧ (∀ {v2 : Int32} {S S' : mT}, fP d 4 9 v2 S = some S' → Fr (inM 999999 LP_9) S S') ∧ (∀ {v2 : Int32} {S S' : mT}, fP d 5 9 v2 S = some S' → Fr (inM 999999 LP_9) S S') := by
  intro d
  induction d with
  | zero => exact ⟨(fun hf => by cases hf), (fun hf => by cases hf), (fun hf => by cases hf), (fun hf => by cases hf), (fun hf => by cases hf), (fun hf => by cases hf)⟩
  | succ d ih => exact ⟨(fun hf => rX4_readEither_0_9 ih.1 ih.2.1 ih.2.2.1 ih.2.2.2.1 ih.2.2.2.2.1 ih.2.2.2.2.2 hf), (fun hf => rX4_readBoth_0_9 ih.1 ih.2.1 ih.2.2.1 ih.2.2.2.1 ih.2.2.2.2.1 ih.2.2.2.2.2 hf), (fun hf => rX4_readOne_0_9 ih.1 ih.2.1 ih.2.2.1 ih.2.2.2.1 ih.2.2.2.2.1 ih.2.2.2.2.2 hf), (fun hf => rX4_readSum_0_9 ih.1 ih.2.1 ih.2.2.1 ih.2.2.2.1 ih.2.2.2.2.1 ih.2.2.2.2.2 hf), (fun hf => rX4_readTerm_0_9 ih.1 ih.2.1 ih.2.2.1 ih.2.2.2.1 ih.2.2.2.2.1 ih.2.2.2.2.2 hf), (fun hf => rX4_readUnit_0_9 ih.1 ih.2.1 ih.2.2.1 ih.2.2.2.1 ih.2.2.2.2.1 ih.2.2.2.2.2 hf)⟩
theorem rP_12 : ∀ (d : Nat), (∀ {v2 : Int32} {S S' : mT}, fP d 0 12 v2 S = some S' → Fr (inM 999999 LP_12) S S') ∧ (∀ {v2 : Int32} {S S' : mT}, fP d 1 12 v2 S = some S' → Fr (inM 999999 LP_12) S S') ∧ (∀ {v2 : Int32} {S S' : mT}, fP d 2 12 v2 S = some S' → Fr (inM 999999 LP_12) S S') ∧ (∀ {v2 : Int32} {S S' : mT}, fP d 3 12 v2 S = some S' → Fr (inM 999999 LP_12) S S') ∧ (∀ {v2 : Int32} {S S' : mT}, fP d 4 12 v2 S = some S' → Fr (inM 999999 LP_12) S S') ∧ (∀ {v2 : Int32} {S S' : mT}, fP d 5 12 v2 S = some S' → Fr (inM 999999 LP_12) S S') := by
  intro d
  induction d with
  | zero => exact ⟨(fun hf => by cases hf), (fun hf => by cases hf), (fun hf => by cases hf), (fun hf => by cases hf), (fun hf => by cases hf), (fun hf => by cases hf)⟩
  | succ d ih => exact ⟨(fun hf => rX4_readEither_0_12 ih.1 ih.2.1 ih.2.2.1 ih.2.2.2.1 ih.2.2.2.2.1 ih.2.2.2.2.2 hf), (fun hf => rX4_readBoth_0_12 ih.1 ih.2.1 ih.2.2.1 ih.2.2.2.1 ih.2.2.2.2.1 ih.2.2.2.2.2 hf), (fun hf => rX4_readOne_0_12 ih.1 ih.2.1 ih.2.2.1 ih.2.2.2.1 ih.2.2.2.2.1 ih.2.2.2.2.2 hf), (fun hf => rX4_readSum_0_12 ih.1 ih.2.1 ih.2.2.1 ih.2.2.2.1 ih.2.2.2.2.1 ih.2.2.2.2.2 hf), (fun hf => rX4_readTerm_0_12 ih.1 ih.2.1 ih.2.2.1 ih.2.2.2.1 ih.2.2.2.2.1 ih.2.2.2.2.2 hf), (fun hf => rX4_readUnit_0_12 ih.1 ih.2.1 ih.2.2.1 ih.2.2.2.1 ih.2.2.2.2.1 ih.2.2.2.2.2 hf)⟩
theorem rP_15 : ∀ (d : Nat), (∀ {v2 : Int32} {S S' : mT}, fP d 0 15 v2 S = some S' → Fr (inM 999999 LP_15) S S') ∧ (∀ {v2 : Int32} {S S' : mT}, fP d 1 15 v2 S = some S' → Fr (inM 999999 LP_15) S S') ∧ (∀ {v2 : Int32} {S S' : mT}, fP d 2 15 v2 S = some S' → Fr (inM 999999 LP_15) S S') ∧ (∀ {v2 : Int32} {S S' : mT}, fP d 3 15 v2 S = some S' → Fr (inM 999999 LP_15) S S') ∧ (∀ {v2 : Int32} {S S' : mT}, fP d 4 15 v2 S = some S' → Fr (inM 999999 LP_15) S S') ∧ (∀ {v2 : Int32} {S S' : mT}, fP d 5 15 v2 S = some S' → Fr (inM 999999 LP_15) S S') := by
  intro d
  induction d with
  | zero => exact ⟨(fun hf => by cases hf), (fun hf => by cases hf), (fun hf => by cases hf), (fun hf => by cases hf), (fun hf => by cases hf), (fun hf => by cases hf)⟩
  | succ d ih => exact ⟨(fun hf => rX4_readEither_0_15 ih.1 ih.2.1 ih.2.2.1 ih.2.2.2.1 ih.2.2.2.2.1 ih.2.2.2.2.2 hf), (fun hf => rX4_readBoth_0_15 ih.1 ih.2.1 ih.2.2.1 ih.2.2.2.1 ih.2.2.2.2.1 ih.2.2.2.2.2 hf), (fun hf => rX4_readOne_0_15 ih.1 ih.2.1 ih.2.2.1 ih.2.2.2.1 ih.2.2.2.2.1 ih.2.2.2.2.2 hf), (fun hf => rX4_readSum_0_15 ih.1 ih.2.1 ih.2.2.1 ih.2.2.2.1 ih.2.2.2.2.1 ih.2.2.2.2.2 hf), (fun hf => rX4_readTerm_0_15 ih.1 ih.2.1 ih.2.2.1 ih.2.2.2.1 ih.2.2.2.2.1 ih.2.2.2.2.2 hf), (fun hf => rX4_readUnit_0_15 ih.1 ih.2.1 ih.2.2.1 ih.2.2.2.1 ih.2.2.2.2.1 ih.2.2.2.2.2 hf)⟩
theorem rP_25 : ∀ (d : Nat), (∀ {v2 : Int32} {S S' : mT}, fP d 0 25 v2 S = some S' → Fr (inM 999999 LP_25) S S') ∧ (∀ {v2 : Int32} {S S' : mT}, fP d 1 25 v2 S = some S' → Fr (inM 999999 LP_25) S S') ∧ (∀ {v2 : Int32} {S S' : mT}, fP d 2 25 v2 S = some S' → Fr (inM 999999 LP_25) S S') ∧ (∀ {v2 : Int32} {S S' : mT}, fP d 3 25 v2 S = some S' → Fr (inM 999999 LP_25) S S') ∧ (∀ {v2 : Int32} {S S' : mT}, fP d 4 25 v2 S = some S' → Fr (inM 999999 LP_25) S S') ∧ (∀ {v2 : Int32} {S S' : mT}, fP d 5 25 v2 S = some S' → Fr (inM 999999 LP_25) S S') := by
  intro d
  induction d with
  | zero => exact ⟨(fun hf => by cases hf), (fun hf => by cases hf), (fun hf => by cases hf), (fun hf => by cases hf), (fun hf => by cases hf), (fun hf => by cases hf)⟩
  | succ d ih => exact ⟨(fun hf => rX4_readEither_0_25 ih.1 ih.2.1 ih.2.2.1 ih.2.2.2.1 ih.2.2.2.2.1 ih.2.2.2.2.2 hf), (fun hf => rX4_readBoth_0_25 ih.1 ih.2.1 ih.2.2.1 ih.2.2.2.1 ih.2.2.2.2.1 ih.2.2.2.2.2 hf), (fun hf => rX4_readOne_0_25 ih.1 ih.2.1 ih.2.2.1 ih.2.2.2.1 ih.2.2.2.2.1 ih.2.2.2.2.2 hf), (fun hf => rX4_readSum_0_25 ih.1 ih.2.1 ih.2.2.1 ih.2.2.2.1 ih.2.2.2.2.1 ih.2.2.2.2.2 hf), (fun hf => rX4_readTerm_0_25 ih.1 ih.2.1 ih.2.2.1 ih.2.2.2.1 ih.2.2.2.2.1 ih.2.2.2.2.2 hf), (fun hf => rX4_readUnit_0_25 ih.1 ih.2.1 ih.2.2.1 ih.2.2.2.1 ih.2.2.2.2.1 ih.2.2.2.2.2 hf)⟩
theorem rP_28 : ∀ (d : Nat), (∀ {v2 : Int32} {S S' : mT}, fP d 0 28 v2 S = some S' → Fr (inM 999999 LP_28) S S') ∧ (∀ {v2 : Int32} {S S' : mT}, fP d 1 28 v2 S = some S' → Fr (inM 999999 LP_28) S S') ∧ (∀ {v2 : Int32} {S S' : mT}, fP d 2 28 v2 S = some S' → Fr (inM 999999 LP_28) S S') ∧ (∀ {v2 : Int32} {S S' : mT}, fP d 3 28 v2 S = some S' → Fr (inM 999999 LP_28) S S') ∧ (∀ {v2 : Int32} {S S' : mT}, fP d 4 28 v2 S = some S' → Fr (inM 999999 LP_28) S S') ∧ (∀ {v2 : Int32} {S S' : mT}, fP d 5 28 v2 S = some S' → Fr (inM 999999 LP_28) S S') := by
  intro d
  induction d with
  | zero => exact ⟨(fun hf => by cases hf), (fun hf => by cases hf), (fun hf => by cases hf), (fun hf => by cases hf), (fun hf => by cases hf), (fun hf => by cases hf)⟩
  | succ d ih => exact ⟨(fun hf => rX4_readEither_0_28 ih.1 ih.2.1 ih.2.2.1 ih.2.2.2.1 ih.2.2.2.2.1 ih.2.2.2.2.2 hf), (fun hf => rX4_readBoth_0_28 ih.1 ih.2.1 ih.2.2.1 ih.2.2.2.1 ih.2.2.2.2.1 ih.2.2.2.2.2 hf), (fun hf => rX4_readOne_0_28 ih.1 ih.2.1 ih.2.2.1 ih.2.2.2.1 ih.2.2.2.2.1 ih.2.2.2.2.2 hf), (fun hf => rX4_readSum_0_28 ih.1 ih.2.1 ih.2.2.1 ih.2.2.2.1 ih.2.2.2.2.1 ih.2.2.2.2.2 hf), (fun hf => rX4_readTerm_0_28 ih.1 ih.2.1 ih.2.2.1 ih.2.2.2.1 ih.2.2.2.2.1 ih.2.2.2.2.2 hf), (fun hf => rX4_readUnit_0_28 ih.1 ih.2.1 ih.2.2.1 ih.2.2.2.1 ih.2.2.2.2.1 ih.2.2.2.2.2 hf)⟩
theorem rP_31 : ∀ (d : Nat), (∀ {v2 : Int32} {S S' : mT}, fP d 0 31 v2 S = some S' → Fr (inM 999999 LP_31) S S') ∧ (∀ {v2 : Int32} {S S' : mT}, fP d 1 31 v2 S = some S' → Fr (inM 999999 LP_31) S S') ∧ (∀ {v2 : Int32} {S S' : mT}, fP d 2 31 v2 S = some S' → Fr (inM 999999 LP_31) S S') ∧ (∀ {v2 : Int32} {S S' : mT}, fP d 3 31 v2 S = some S' → Fr (inM 999999 LP_31) S S') ∧ (∀ {v2 : Int32} {S S' : mT}, fP d 4 31 v2 S = some S' → Fr (inM 999999 LP_31) S S') ∧ (∀ {v2 : Int32} {S S' : mT}, fP d 5 31 v2 S = some S' → Fr (inM 999999 LP_31) S S') := by
  intro d
  induction d with
  | zero => exact ⟨(fun hf => by cases hf), (fun hf => by cases hf), (fun hf => by cases hf), (fun hf => by cases hf), (fun hf => by cases hf), (fun hf => by cases hf)⟩
  | succ d ih => exact ⟨(fun hf => rX4_readEither_0_31 ih.1 ih.2.1 ih.2.2.1 ih.2.2.2.1 ih.2.2.2.2.1 ih.2.2.2.2.2 hf), (fun hf => rX4_readBoth_0_31 ih.1 ih.2.1 ih.2.2.1 ih.2.2.2.1 ih.2.2.2.2.1 ih.2.2.2.2.2 hf), (fun hf => rX4_readOne_0_31 ih.1 ih.2.1 ih.2.2.1 ih.2.2.2.1 ih.2.2.2.2.1 ih.2.2.2.2.2 hf), (fun hf => rX4_readSum_0_31 ih.1 ih.2.1 ih.2.2.1 ih.2.2.2.1 ih.2.2.2.2.1 ih.2.2.2.2.2 hf), (fun hf => rX4_readTerm_0_31 ih.1 ih.2.1 ih.2.2.1 ih.2.2.2.1 ih.2.2.2.2.1 ih.2.2.2.2.2 hf), (fun hf => rX4_readUnit_0_31 ih.1 ih.2.1 ih.2.2.1 ih.2.2.2.1 ih.2.2.2.2.1 ih.2.2.2.2.2 hf)⟩
abbrev LX4_readLaw_9 : List (Nat × Nat × Option Nat) := [(999999, 999999, none), (1, 1, some 2), (1, 1, some 3), (1, 1, some 4), (1, 1, some 5), (1, 1, some 6), (1, 1, some 7), (1, 1, some 8), (1, 1, some 9), (9, 9, some 2), (9, 9, some 3), (9, 9, some 4), (10, 10, none)]
theorem rX4_readLaw_11_9 {S' : mT} {S : mT} (hf : fX4_readLaw_11 9 S = some S') : Fr (inM 999999 LX4_readLaw_9) S S' := by
  unfold fX4_readLaw_11 at hf
  obtain ⟨S4, hq, hf⟩ := bndV_ex hf
  have F := (Fr.rfl (inM 999999 LX4_readLaw_9) _).trans ((rX4_refuse hq).mono rfl (fun _ => rfl))
  cases hf
  exact F
theorem rX4_readLaw_0_9 {S' : mT} {S : mT} (hf : fX4_readLaw 9 S = some S') : Fr (inM 999999 LX4_readLaw_9) S S' := by
  unfold fX4_readLaw at hf
  by_cases hc : 9 = NUL
  · rw [if_pos hc] at hf
    exact (Fr.rfl (inM 999999 LX4_readLaw_9) _).trans (rX4_readLaw_11_9 hf)
  · rw [if_neg hc] at hf
    obtain ⟨-, hf⟩ := grd_ex hf
    by_cases hc : (S.1 9 4) = 0
    · rw [if_pos hc] at hf
      obtain ⟨-, hf⟩ := grd_ex hf
      obtain ⟨S1, eS1, hf⟩ := bnd_ex hf
      have F : Fr (inM 999999 LX4_readLaw_9) S S1 := by
        rw [eS1]
        exact Fr.sI (Fr.rfl (inM 999999 LX4_readLaw_9) _) rfl
      obtain ⟨S2, hq, hf⟩ := bndV_ex hf
      have F := F.trans ((rX4_advance hq).mono rfl (fun _ => rfl))
      obtain ⟨S3, hq, hf⟩ := bndV_ex hf
      have F := F.trans (((rP_9 60).1 hq).mono rfl (fun _ => rfl))
      cases hf
      exact F
    · rw [if_neg hc] at hf
      exact (Fr.rfl (inM 999999 LX4_readLaw_9) _).trans (rX4_readLaw_11_9 hf)
theorem rX4_readLaw_9 {S S' : mT} (hf : fX4_readLaw 9 S = some S') : Fr (inM 999999 LX4_readLaw_9) S S' := rX4_readLaw_0_9 hf
abbrev LX4_readLaw_12 : List (Nat × Nat × Option Nat) := [(999999, 999999, none), (1, 1, some 2), (1, 1, some 3), (1, 1, some 4), (1, 1, some 5), (1, 1, some 6), (1, 1, some 7), (1, 1, some 8), (1, 1, some 9), (12, 12, some 2), (12, 12, some 3), (12, 12, some 4), (13, 13, none)]
theorem rX4_readLaw_11_12 {S' : mT} {S : mT} (hf : fX4_readLaw_11 12 S = some S') : Fr (inM 999999 LX4_readLaw_12) S S' := by
  unfold fX4_readLaw_11 at hf
  obtain ⟨S4, hq, hf⟩ := bndV_ex hf
  have F := (Fr.rfl (inM 999999 LX4_readLaw_12) _).trans ((rX4_refuse hq).mono rfl (fun _ => rfl))
  cases hf
  exact F
theorem rX4_readLaw_0_12 {S' : mT} {S : mT} (hf : fX4_readLaw 12 S = some S') : Fr (inM 999999 LX4_readLaw_12) S S' := by
  unfold fX4_readLaw at hf
  by_cases hc : 12 = NUL
  · rw [if_pos hc] at hf
    exact (Fr.rfl (inM 999999 LX4_readLaw_12) _).trans (rX4_readLaw_11_12 hf)
  · rw [if_neg hc] at hf
    obtain ⟨-, hf⟩ := grd_ex hf
    by_cases hc : (S.1 12 4) = 0
    · rw [if_pos hc] at hf
      obtain ⟨-, hf⟩ := grd_ex hf
      obtain ⟨S1, eS1, hf⟩ := bnd_ex hf
      have F : Fr (inM 999999 LX4_readLaw_12) S S1 := by
        rw [eS1]
        exact Fr.sI (Fr.rfl (inM 999999 LX4_readLaw_12) _) rfl
      obtain ⟨S2, hq, hf⟩ := bndV_ex hf
      have F := F.trans ((rX4_advance hq).mono rfl (fun _ => rfl))
      obtain ⟨S3, hq, hf⟩ := bndV_ex hf
      have F := F.trans (((rP_12 60).1 hq).mono rfl (fun _ => rfl))
      cases hf
      exact F
    · rw [if_neg hc] at hf
      exact (Fr.rfl (inM 999999 LX4_readLaw_12) _).trans (rX4_readLaw_11_12 hf)
theorem rX4_readLaw_12 {S S' : mT} (hf : fX4_readLaw 12 S = some S') : Fr (inM 999999 LX4_readLaw_12) S S' := rX4_readLaw_0_12 hf
abbrev LX4_readLaw_15 : List (Nat × Nat × Option Nat) := [(999999, 999999, none), (1, 1, some 2), (1, 1, some 3), (1, 1, some 4), (1, 1, some 5), (1, 1, some 6), (1, 1, some 7), (1, 1, some 8), (1, 1, some 9), (15, 15, some 2), (15, 15, some 3), (15, 15, some 4), (16, 16, none)]
theorem rX4_readLaw_11_15 {S' : mT} {S : mT} (hf : fX4_readLaw_11 15 S = some S') : Fr (inM 999999 LX4_readLaw_15) S S' := by
  unfold fX4_readLaw_11 at hf
  obtain ⟨S4, hq, hf⟩ := bndV_ex hf
  have F := (Fr.rfl (inM 999999 LX4_readLaw_15) _).trans ((rX4_refuse hq).mono rfl (fun _ => rfl))
  cases hf
  exact F
theorem rX4_readLaw_0_15 {S' : mT} {S : mT} (hf : fX4_readLaw 15 S = some S') : Fr (inM 999999 LX4_readLaw_15) S S' := by
  unfold fX4_readLaw at hf
  by_cases hc : 15 = NUL
  · rw [if_pos hc] at hf
    exact (Fr.rfl (inM 999999 LX4_readLaw_15) _).trans (rX4_readLaw_11_15 hf)
  · rw [if_neg hc] at hf
    obtain ⟨-, hf⟩ := grd_ex hf
    by_cases hc : (S.1 15 4) = 0
    · rw [if_pos hc] at hf
      obtain ⟨-, hf⟩ := grd_ex hf
      obtain ⟨S1, eS1, hf⟩ := bnd_ex hf
      have F : Fr (inM 999999 LX4_readLaw_15) S S1 := by
        rw [eS1]
        exact Fr.sI (Fr.rfl (inM 999999 LX4_readLaw_15) _) rfl
      obtain ⟨S2, hq, hf⟩ := bndV_ex hf
      have F := F.trans ((rX4_advance hq).mono rfl (fun _ => rfl))
      obtain ⟨S3, hq, hf⟩ := bndV_ex hf
      have F := F.trans (((rP_15 60).1 hq).mono rfl (fun _ => rfl))
      cases hf
      exact F
    · rw [if_neg hc] at hf
      exact (Fr.rfl (inM 999999 LX4_readLaw_15) _).trans (rX4_readLaw_11_15 hf)
theorem rX4_readLaw_15 {S S' : mT} (hf : fX4_readLaw 15 S = some S') : Fr (inM 999999 LX4_readLaw_15) S S' := rX4_readLaw_0_15 hf
abbrev LX4_readLaw_999999 : List (Nat × Nat × Option Nat) := [(999999, 999999, none), (1, 1, some 2), (1, 1, some 3), (1, 1, some 4)]
theorem rX4_readLaw_11_999999 {S' : mT} {S : mT} (hf : fX4_readLaw_11 999999 S = some S') : Fr (inM 999999 LX4_readLaw_999999) S S' := by
  unfold fX4_readLaw_11 at hf
  obtain ⟨S1, hq, hf⟩ := bndV_ex hf
  have F := (Fr.rfl (inM 999999 LX4_readLaw_999999) _).trans ((rX4_refuse hq).mono rfl (fun _ => rfl))
  cases hf
  exact F
theorem rX4_readLaw_0_999999 {S' : mT} {S : mT} (hf : fX4_readLaw 999999 S = some S') : Fr (inM 999999 LX4_readLaw_999999) S S' := by
  unfold fX4_readLaw at hf
  by_cases hc : 999999 = NUL
  · rw [if_pos hc] at hf
    exact (Fr.rfl (inM 999999 LX4_readLaw_999999) _).trans (rX4_readLaw_11_999999 hf)
  · rw [if_neg hc] at hf
    exact absurd (rfl : (999999 : Nat) = NUL) hc
theorem rX4_readLaw_999999 {S S' : mT} (hf : fX4_readLaw 999999 S = some S') : Fr (inM 999999 LX4_readLaw_999999) S S' := rX4_readLaw_0_999999 hf
abbrev LX4_readLaw_25 : List (Nat × Nat × Option Nat) := [(999999, 999999, none), (1, 1, some 2), (1, 1, some 3), (1, 1, some 4), (1, 1, some 5), (1, 1, some 6), (1, 1, some 7), (1, 1, some 8), (1, 1, some 9), (25, 25, some 2), (25, 25, some 3), (25, 25, some 4), (26, 26, none)]
theorem rX4_readLaw_11_25 {S' : mT} {S : mT} (hf : fX4_readLaw_11 25 S = some S') : Fr (inM 999999 LX4_readLaw_25) S S' := by
  unfold fX4_readLaw_11 at hf
  obtain ⟨S4, hq, hf⟩ := bndV_ex hf
  have F := (Fr.rfl (inM 999999 LX4_readLaw_25) _).trans ((rX4_refuse hq).mono rfl (fun _ => rfl))
  cases hf
  exact F
theorem rX4_readLaw_0_25 {S' : mT} {S : mT} (hf : fX4_readLaw 25 S = some S') : Fr (inM 999999 LX4_readLaw_25) S S' := by
  unfold fX4_readLaw at hf
  by_cases hc : 25 = NUL
  · rw [if_pos hc] at hf
    exact (Fr.rfl (inM 999999 LX4_readLaw_25) _).trans (rX4_readLaw_11_25 hf)
  · rw [if_neg hc] at hf
    obtain ⟨-, hf⟩ := grd_ex hf
    by_cases hc : (S.1 25 4) = 0
    · rw [if_pos hc] at hf
      obtain ⟨-, hf⟩ := grd_ex hf
      obtain ⟨S1, eS1, hf⟩ := bnd_ex hf
      have F : Fr (inM 999999 LX4_readLaw_25) S S1 := by
        rw [eS1]
        exact Fr.sI (Fr.rfl (inM 999999 LX4_readLaw_25) _) rfl
      obtain ⟨S2, hq, hf⟩ := bndV_ex hf
      have F := F.trans ((rX4_advance hq).mono rfl (fun _ => rfl))
      obtain ⟨S3, hq, hf⟩ := bndV_ex hf
      have F := F.trans (((rP_25 60).1 hq).mono rfl (fun _ => rfl))
      cases hf
      exact F
    · rw [if_neg hc] at hf
      exact (Fr.rfl (inM 999999 LX4_readLaw_25) _).trans (rX4_readLaw_11_25 hf)
theorem rX4_readLaw_25 {S S' : mT} (hf : fX4_readLaw 25 S = some S') : Fr (inM 999999 LX4_readLaw_25) S S' := rX4_readLaw_0_25 hf
abbrev LX4_readLaw_28 : List (Nat × Nat × Option Nat) := [(999999, 999999, none), (1, 1, some 2), (1, 1, some 3), (1, 1, some 4), (1, 1, some 5), (1, 1, some 6), (1, 1, some 7), (1, 1, some 8), (1, 1, some 9), (28, 28, some 2), (28, 28, some 3), (28, 28, some 4), (29, 29, none)]
theorem rX4_readLaw_11_28 {S' : mT} {S : mT} (hf : fX4_readLaw_11 28 S = some S') : Fr (inM 999999 LX4_readLaw_28) S S' := by
  unfold fX4_readLaw_11 at hf
  obtain ⟨S4, hq, hf⟩ := bndV_ex hf
  have F := (Fr.rfl (inM 999999 LX4_readLaw_28) _).trans ((rX4_refuse hq).mono rfl (fun _ => rfl))
  cases hf
  exact F
theorem rX4_readLaw_0_28 {S' : mT} {S : mT} (hf : fX4_readLaw 28 S = some S') : Fr (inM 999999 LX4_readLaw_28) S S' := by
  unfold fX4_readLaw at hf
  by_cases hc : 28 = NUL
  · rw [if_pos hc] at hf
    exact (Fr.rfl (inM 999999 LX4_readLaw_28) _).trans (rX4_readLaw_11_28 hf)
  · rw [if_neg hc] at hf
    obtain ⟨-, hf⟩ := grd_ex hf
    by_cases hc : (S.1 28 4) = 0
    · rw [if_pos hc] at hf
      obtain ⟨-, hf⟩ := grd_ex hf
      obtain ⟨S1, eS1, hf⟩ := bnd_ex hf
      have F : Fr (inM 999999 LX4_readLaw_28) S S1 := by
        rw [eS1]
        exact Fr.sI (Fr.rfl (inM 999999 LX4_readLaw_28) _) rfl
      obtain ⟨S2, hq, hf⟩ := bndV_ex hf
      have F := F.trans ((rX4_advance hq).mono rfl (fun _ => rfl))
      obtain ⟨S3, hq, hf⟩ := bndV_ex hf
      have F := F.trans (((rP_28 60).1 hq).mono rfl (fun _ => rfl))
      cases hf
      exact F
    · rw [if_neg hc] at hf
      exact (Fr.rfl (inM 999999 LX4_readLaw_28) _).trans (rX4_readLaw_11_28 hf)
theorem rX4_readLaw_28 {S S' : mT} (hf : fX4_readLaw 28 S = some S') : Fr (inM 999999 LX4_readLaw_28) S S' := rX4_readLaw_0_28 hf
abbrev LX4_readLaw_31 : List (Nat × Nat × Option Nat) := [(999999, 999999, none), (1, 1, some 2), (1, 1, some 3), (1, 1, some 4), (1, 1, some 5), (1, 1, some 6), (1, 1, some 7), (1, 1, some 8), (1, 1, some 9), (31, 31, some 2), (31, 31, some 3), (31, 31, some 4), (32, 32, none)]
theorem rX4_readLaw_11_31 {S' : mT} {S : mT} (hf : fX4_readLaw_11 31 S = some S') : Fr (inM 999999 LX4_readLaw_31) S S' := by
  unfold fX4_readLaw_11 at hf
  obtain ⟨S4, hq, hf⟩ := bndV_ex hf
  have F := (Fr.rfl (inM 999999 LX4_readLaw_31) _).trans ((rX4_refuse hq).mono rfl (fun _ => rfl))
  cases hf
  exact F
theorem rX4_readLaw_0_31 {S' : mT} {S : mT} (hf : fX4_readLaw 31 S = some S') : Fr (inM 999999 LX4_readLaw_31) S S' := by
  unfold fX4_readLaw at hf
  by_cases hc : 31 = NUL
  · rw [if_pos hc] at hf
    exact (Fr.rfl (inM 999999 LX4_readLaw_31) _).trans (rX4_readLaw_11_31 hf)
  · rw [if_neg hc] at hf
    obtain ⟨-, hf⟩ := grd_ex hf
    by_cases hc : (S.1 31 4) = 0
    · rw [if_pos hc] at hf
      obtain ⟨-, hf⟩ := grd_ex hf
      obtain ⟨S1, eS1, hf⟩ := bnd_ex hf
      have F : Fr (inM 999999 LX4_readLaw_31) S S1 := by
        rw [eS1]
        exact Fr.sI (Fr.rfl (inM 999999 LX4_readLaw_31) _) rfl
      obtain ⟨S2, hq, hf⟩ := bndV_ex hf
      have F := F.trans ((rX4_advance hq).mono rfl (fun _ => rfl))
      obtain ⟨S3, hq, hf⟩ := bndV_ex hf
      have F := F.trans (((rP_31 60).1 hq).mono rfl (fun _ => rfl))
      cases hf
      exact F
    · rw [if_neg hc] at hf
      exact (Fr.rfl (inM 999999 LX4_readLaw_31) _).trans (rX4_readLaw_11_31 hf)
theorem rX4_readLaw_31 {S S' : mT} (hf : fX4_readLaw 31 S = some S') : Fr (inM 999999 LX4_readLaw_31) S S' := rX4_readLaw_0_31 hf
abbrev LX4_readLaw_any_3 : List (Nat × Nat × Option Nat) := [(999999, 999999, none), (1, 1, some 2), (1, 1, some 3), (1, 1, some 4), (1, 1, some 5), (1, 1, some 6), (1, 1, some 7), (1, 1, some 8), (1, 1, some 9), (9, 9, some 2), (9, 9, some 3), (9, 9, some 4), (10, 10, none), (12, 12, some 2), (12, 12, some 3), (12, 12, some 4), (13, 13, none), (15, 15, some 2), (15, 15, some 3), (15, 15, some 4), (16, 16, none)]
theorem rX4_readLaw_any_3 {x : Nat} {S S' : mT} (h : x = 3 + 6 ∨ x = 3 + 9 ∨ x = 3 + 12 ∨ x = NUL) (hf : fX4_readLaw x S = some S') : Fr (inM 999999 LX4_readLaw_any_3) S S' := by
  rcases h with rfl | rfl | rfl | rfl
  · exact (rX4_readLaw_9 hf).mono rfl (fun _ => rfl)
  · exact (rX4_readLaw_12 hf).mono rfl (fun _ => rfl)
  · exact (rX4_readLaw_15 hf).mono rfl (fun _ => rfl)
  · exact (rX4_readLaw_999999 hf).mono rfl (fun _ => rfl)
abbrev LX4_readLaw_any_19 : List (Nat × Nat × Option Nat) := [(999999, 999999, none), (1, 1, some 2), (1, 1, some 3), (1, 1, some 4), (1, 1, some 5), (1, 1, some 6), (1, 1, some 7), (1, 1, some 8), (1, 1, some 9), (25, 25, some 2), (25, 25, some 3), (25, 25, some 4), (26, 26, none), (28, 28, some 2), (28, 28, some 3), (28, 28, some 4), (29, 29, none), (31, 31, some 2), (31, 31, some 3), (31, 31, some 4), (32, 32, none)]
theorem rX4_readLaw_any_19 {x : Nat} {S S' : mT} (h : x = 19 + 6 ∨ x = 19 + 9 ∨ x = 19 + 12 ∨ x = NUL) (hf : fX4_readLaw x S = some S') : Fr (inM 999999 LX4_readLaw_any_19) S S' := by
  rcases h with rfl | rfl | rfl | rfl
  · exact (rX4_readLaw_25 hf).mono rfl (fun _ => rfl)
  · exact (rX4_readLaw_28 hf).mono rfl (fun _ => rfl)
  · exact (rX4_readLaw_31 hf).mono rfl (fun _ => rfl)
  · exact (rX4_readLaw_999999 hf).mono rfl (fun _ => rfl)
abbrev LX8_clear_3 : List (Nat × Nat × Option Nat) := [(999999, 999999, none), (3, 3, some 9), (3, 3, some 10), (3, 3, some 11), (9, 9, some 2), (9, 9, some 3), (9, 9, some 4), (12, 12, some 2), (12, 12, some 3), (12, 12, some 4), (15, 15, some 2), (15, 15, some 3), (15, 15, some 4)]
theorem rX8_clear_0_3 {S' : mT} {S : mT} (hf : fX8_clear 3 S = some S') : Fr (inM 999999 LX8_clear_3) S S' := by
  unfold fX8_clear at hf
  obtain ⟨-, hf⟩ := grd_ex hf
  obtain ⟨S1, eS1, hf⟩ := bnd_ex hf
  have F : Fr (inM 999999 LX8_clear_3) S S1 := by
    rw [eS1]
    exact Fr.sI (Fr.rfl (inM 999999 LX8_clear_3) _) rfl
  obtain ⟨-, hf⟩ := grd_ex hf
  obtain ⟨S2, eS2, hf⟩ := bnd_ex hf
  have F : Fr (inM 999999 LX8_clear_3) S S2 := by
    rw [eS2]
    exact Fr.sI F rfl
  obtain ⟨-, hf⟩ := grd_ex hf
  obtain ⟨S3, eS3, hf⟩ := bnd_ex hf
  have F : Fr (inM 999999 LX8_clear_3) S S3 := by
    rw [eS3]
    exact Fr.sI F rfl
  obtain ⟨-, hf⟩ := grd_ex hf
  obtain ⟨S4, hq, hf⟩ := bndV_ex hf
  have F := F.trans ((rX0_clear_9 hq).mono rfl (fun _ => rfl))
  obtain ⟨-, hf⟩ := grd_ex hf
  obtain ⟨S5, hq, hf⟩ := bndV_ex hf
  have F := F.trans ((rX0_clear_12 hq).mono rfl (fun _ => rfl))
  obtain ⟨-, hf⟩ := grd_ex hf
  obtain ⟨S6, hq, hf⟩ := bndV_ex hf
  have F := F.trans ((rX0_clear_15 hq).mono rfl (fun _ => rfl))
  cases hf
  exact F
theorem rX8_clear_3 {S S' : mT} (hf : fX8_clear 3 S = some S') : Fr (inM 999999 LX8_clear_3) S S' := rX8_clear_0_3 hf
abbrev LX8_clear_19 : List (Nat × Nat × Option Nat) := [(999999, 999999, none), (19, 19, some 9), (19, 19, some 10), (19, 19, some 11), (25, 25, some 2), (25, 25, some 3), (25, 25, some 4), (28, 28, some 2), (28, 28, some 3), (28, 28, some 4), (31, 31, some 2), (31, 31, some 3), (31, 31, some 4)]
theorem rX8_clear_0_19 {S' : mT} {S : mT} (hf : fX8_clear 19 S = some S') : Fr (inM 999999 LX8_clear_19) S S' := by
  unfold fX8_clear at hf
  obtain ⟨-, hf⟩ := grd_ex hf
  obtain ⟨S1, eS1, hf⟩ := bnd_ex hf
  have F : Fr (inM 999999 LX8_clear_19) S S1 := by
    rw [eS1]
    exact Fr.sI (Fr.rfl (inM 999999 LX8_clear_19) _) rfl
  obtain ⟨-, hf⟩ := grd_ex hf
  obtain ⟨S2, eS2, hf⟩ := bnd_ex hf
  have F : Fr (inM 999999 LX8_clear_19) S S2 := by
    rw [eS2]
    exact Fr.sI F rfl
  obtain ⟨-, hf⟩ := grd_ex hf
  obtain ⟨S3, eS3, hf⟩ := bnd_ex hf
  have F : Fr (inM 999999 LX8_clear_19) S S3 := by
    rw [eS3]
    exact Fr.sI F rfl
  obtain ⟨-, hf⟩ := grd_ex hf
  obtain ⟨S4, hq, hf⟩ := bndV_ex hf
  have F := F.trans ((rX0_clear_25 hq).mono rfl (fun _ => rfl))
  obtain ⟨-, hf⟩ := grd_ex hf
  obtain ⟨S5, hq, hf⟩ := bndV_ex hf
  have F := F.trans ((rX0_clear_28 hq).mono rfl (fun _ => rfl))
  obtain ⟨-, hf⟩ := grd_ex hf
  obtain ⟨S6, hq, hf⟩ := bndV_ex hf
  have F := F.trans ((rX0_clear_31 hq).mono rfl (fun _ => rfl))
  cases hf
  exact F
theorem rX8_clear_19 {S S' : mT} (hf : fX8_clear 19 S = some S') : Fr (inM 999999 LX8_clear_19) S S' := rX8_clear_0_19 hf
abbrev LX4_readAll_3 : List (Nat × Nat × Option Nat) := [(999999, 999999, none), (1, 1, some 2), (1, 1, some 3), (1, 1, some 4), (1, 1, some 5), (1, 1, some 6), (1, 1, some 7), (1, 1, some 8), (1, 1, some 9), (3, 3, some 9), (3, 3, some 10), (3, 3, some 11), (4, 4, none), (5, 5, none), (6, 6, none), (7, 7, none), (8, 8, none), (9, 9, some 2), (9, 9, some 3), (9, 9, some 4), (10, 10, none), (12, 12, some 2), (12, 12, some 3), (12, 12, some 4), (13, 13, none), (15, 15, some 2), (15, 15, some 3), (15, 15, some 4), (16, 16, none)]
theorem rX4_readAll_77_3 {S' : mT} {r : Int32} {rc20 : Int32 → mT → Option (Int32 × mT)} (Hrc20 : ∀ (v2 : Int32) (S : mT), rc20 v2 S = some (r, S') → Fr (inM 999999 LX4_readAll_3) S S') {v2 : Int32} {S : mT} (hf : fX4_readAll_77 3 rc20 v2 S = some (r, S')) : Fr (inM 999999 LX4_readAll_3) S S' := by
  unfold fX4_readAll_77 at hf
  obtain ⟨S14, hq, hf⟩ := bndV_ex hf
  have F := (Fr.rfl (inM 999999 LX4_readAll_3) _).trans ((rX4_takeSign hq).mono rfl (fun _ => rfl))
  obtain ⟨x15, -, hf⟩ := bnd_ex hf
  exact F.trans (Hrc20 _ _ hf)
theorem rX4_readAll_101_3 {S' : mT} {r : Int32} {s0 : Int32} {S : mT} (hf : fX4_readAll_101 3 s0 S = some (r, S')) : Fr (inM 999999 LX4_readAll_3) S S' := by
  unfold fX4_readAll_101 at hf
  obtain ⟨-, hf⟩ := grd_ex hf
  cases hf
  exact (Fr.rfl (inM 999999 LX4_readAll_3) _)
theorem rX4_readAll_89_3 {S' : mT} {r : Int32} {S : mT} (hf : fX4_readAll_89 3 S = some (r, S')) : Fr (inM 999999 LX4_readAll_3) S S' := by
  unfold fX4_readAll_89 at hf
  obtain ⟨-, hf⟩ := grd_ex hf
  by_cases hc : (S.1 1 2) = 0
  · rw [if_pos hc] at hf
    exact (Fr.rfl (inM 999999 LX4_readAll_3) _).trans (rX4_readAll_101_3 hf)
  · rw [if_neg hc] at hf
    exact (Fr.rfl (inM 999999 LX4_readAll_3) _).trans (rX4_readAll_101_3 hf)
theorem rX4_readAll_20_3 {S' : mT} {r : Int32} : ∀ (k : Nat) (v2 : Int32) (S : mT), fX4_readAll_20 3 k v2 S = some (r, S') → Fr (inM 999999 LX4_readAll_3) S S' := by
  intro k
  induction k with
  | zero =>
    intro v2 S hf
    cases hf
  | succ k ih =>
    intro v2 S hf
    unfold fX4_readAll_20 at hf
    by_cases hc : (1600 : Int32) ≤ v2
    · rw [if_pos hc] at hf
      exact (Fr.rfl (inM 999999 LX4_readAll_3) _).trans (rX4_readAll_89_3 hf)
    · rw [if_neg hc] at hf
      obtain ⟨-, hf⟩ := grd_ex hf
      by_cases hc : (S.1 1 4) = 0
      · rw [if_pos hc] at hf
        exact (Fr.rfl (inM 999999 LX4_readAll_3) _).trans (rX4_readAll_89_3 hf)
      · rw [if_neg hc] at hf
        obtain ⟨x6, S5, hq, hf⟩ := bndC_ex hf
        have F := (Fr.rfl (inM 999999 LX4_readAll_3) _).trans ((rX4_isWord_900000 hq).mono rfl (fun _ => rfl))
        by_cases hc : x6 = 0
        · rw [if_pos hc] at hf
          obtain ⟨x8, S7, hq, hf⟩ := bndC_ex hf
          have F := F.trans ((rX4_isWord_900008 hq).mono rfl (fun _ => rfl))
          by_cases hc : x8 = 0
          · rw [if_pos hc] at hf
            obtain ⟨x10, S9, hn, hf⟩ := bndC_ex hf
            have F := F.trans ((rX4_lawNamed_3 hn).mono rfl (fun _ => rfl))
            obtain ⟨S11, hq, hf⟩ := bndV_ex hf
            have F := F.trans ((rX4_readLaw_any_3 (nX4_lawNamed hn) hq).mono rfl (fun _ => rfl))
            exact F.trans (rX4_readAll_77_3 ih hf)
          · rw [if_neg hc] at hf
            obtain ⟨S12, hq, hf⟩ := bndV_ex hf
            have F := F.trans ((rX4_readDraw_3 hq).mono rfl (fun _ => rfl))
            exact F.trans (rX4_readAll_77_3 ih hf)
        · rw [if_neg hc] at hf
          obtain ⟨S13, hq, hf⟩ := bndV_ex hf
          have F := F.trans ((rX4_readHouse_3 hq).mono rfl (fun _ => rfl))
          exact F.trans (rX4_readAll_77_3 ih hf)
theorem rX4_readAll_0_3 {S' : mT} {r : Int32} {S : mT} (hf : fX4_readAll 3 S = some (r, S')) : Fr (inM 999999 LX4_readAll_3) S S' := by
  unfold fX4_readAll at hf
  obtain ⟨S1, hq, hf⟩ := bndV_ex hf
  have F := (Fr.rfl (inM 999999 LX4_readAll_3) _).trans ((rX8_clear_3 hq).mono rfl (fun _ => rfl))
  obtain ⟨-, hf⟩ := grd_ex hf
  obtain ⟨S2, eS2, hf⟩ := bnd_ex hf
  have F : Fr (inM 999999 LX4_readAll_3) S S2 := by
    rw [eS2]
    exact Fr.sI F rfl
  obtain ⟨-, hf⟩ := grd_ex hf
  obtain ⟨S3, eS3, hf⟩ := bnd_ex hf
  have F : Fr (inM 999999 LX4_readAll_3) S S3 := by
    rw [eS3]
    exact Fr.sI F rfl
  obtain ⟨S4, hq, hf⟩ := bndV_ex hf
  have F := F.trans ((rX4_advance hq).mono rfl (fun _ => rfl))
  exact F.trans (rX4_readAll_20_3 _ _ _ hf)
theorem rX4_readAll_3 {S S' : mT} {r : Int32} (hf : fX4_readAll 3 S = some (r, S')) : Fr (inM 999999 LX4_readAll_3) S S' := rX4_readAll_0_3 hf
abbrev LX4_readAll_19 : List (Nat × Nat × Option Nat) := [(999999, 999999, none), (1, 1, some 2), (1, 1, some 3), (1, 1, some 4), (1, 1, some 5), (1, 1, some 6), (1, 1, some 7), (1, 1, some 8), (1, 1, some 9), (19, 19, some 9), (19, 19, some 10), (19, 19, some 11), (20, 20, none), (21, 21, none), (22, 22, none), (23, 23, none), (24, 24, none), (25, 25, some 2), (25, 25, some 3), (25, 25, some 4), (26, 26, none), (28, 28, some 2), (28, 28, some 3), (28, 28, some 4), (29, 29, none), (31, 31, some 2), (31, 31, some 3), (31, 31, some 4), (32, 32, none)]
theorem rX4_readAll_77_19 {S' : mT} {r : Int32} {rc20 : Int32 → mT → Option (Int32 × mT)} (Hrc20 : ∀ (v2 : Int32) (S : mT), rc20 v2 S = some (r, S') → Fr (inM 999999 LX4_readAll_19) S S') {v2 : Int32} {S : mT} (hf : fX4_readAll_77 19 rc20 v2 S = some (r, S')) : Fr (inM 999999 LX4_readAll_19) S S' := by
  unfold fX4_readAll_77 at hf
  obtain ⟨S14, hq, hf⟩ := bndV_ex hf
  have F := (Fr.rfl (inM 999999 LX4_readAll_19) _).trans ((rX4_takeSign hq).mono rfl (fun _ => rfl))
  obtain ⟨x15, -, hf⟩ := bnd_ex hf
  exact F.trans (Hrc20 _ _ hf)
theorem rX4_readAll_101_19 {S' : mT} {r : Int32} {s0 : Int32} {S : mT} (hf : fX4_readAll_101 19 s0 S = some (r, S')) : Fr (inM 999999 LX4_readAll_19) S S' := by
  unfold fX4_readAll_101 at hf
  obtain ⟨-, hf⟩ := grd_ex hf
  cases hf
  exact (Fr.rfl (inM 999999 LX4_readAll_19) _)
theorem rX4_readAll_89_19 {S' : mT} {r : Int32} {S : mT} (hf : fX4_readAll_89 19 S = some (r, S')) : Fr (inM 999999 LX4_readAll_19) S S' := by
  unfold fX4_readAll_89 at hf
  obtain ⟨-, hf⟩ := grd_ex hf
  by_cases hc : (S.1 1 2) = 0
  · rw [if_pos hc] at hf
    exact (Fr.rfl (inM 999999 LX4_readAll_19) _).trans (rX4_readAll_101_19 hf)
  · rw [if_neg hc] at hf
    exact (Fr.rfl (inM 999999 LX4_readAll_19) _).trans (rX4_readAll_101_19 hf)
theorem rX4_readAll_20_19 {S' : mT} {r : Int32} : ∀ (k : Nat) (v2 : Int32) (S : mT), fX4_readAll_20 19 k v2 S = some (r, S') → Fr (inM 999999 LX4_readAll_19) S S' := by
  intro k
  induction k with
  | zero =>
    intro v2 S hf
    cases hf
  | succ k ih =>
    intro v2 S hf
    unfold fX4_readAll_20 at hf
    by_cases hc : (1600 : Int32) ≤ v2
    · rw [if_pos hc] at hf
      exact (Fr.rfl (inM 999999 LX4_readAll_19) _).trans (rX4_readAll_89_19 hf)
    · rw [if_neg hc] at hf
      obtain ⟨-, hf⟩ := grd_ex hf
      by_cases hc : (S.1 1 4) = 0
      · rw [if_pos hc] at hf
        exact (Fr.rfl (inM 999999 LX4_readAll_19) _).trans (rX4_readAll_89_19 hf)
      · rw [if_neg hc] at hf
        obtain ⟨x6, S5, hq, hf⟩ := bndC_ex hf
        have F := (Fr.rfl (inM 999999 LX4_readAll_19) _).trans ((rX4_isWord_900000 hq).mono rfl (fun _ => rfl))
        by_cases hc : x6 = 0
        · rw [if_pos hc] at hf
          obtain ⟨x8, S7, hq, hf⟩ := bndC_ex hf
          have F := F.trans ((rX4_isWord_900008 hq).mono rfl (fun _ => rfl))
          by_cases hc : x8 = 0
          · rw [if_pos hc] at hf
            obtain ⟨x10, S9, hn, hf⟩ := bndC_ex hf
            have F := F.trans ((rX4_lawNamed_19 hn).mono rfl (fun _ => rfl))
            obtain ⟨S11, hq, hf⟩ := bndV_ex hf
            have F := F.trans ((rX4_readLaw_any_19 (nX4_lawNamed hn) hq).mono rfl (fun _ => rfl))
            exact F.trans (rX4_readAll_77_19 ih hf)
          · rw [if_neg hc] at hf
            obtain ⟨S12, hq, hf⟩ := bndV_ex hf
            have F := F.trans ((rX4_readDraw_19 hq).mono rfl (fun _ => rfl))
            exact F.trans (rX4_readAll_77_19 ih hf)
        · rw [if_neg hc] at hf
          obtain ⟨S13, hq, hf⟩ := bndV_ex hf
          have F := F.trans ((rX4_readHouse_19 hq).mono rfl (fun _ => rfl))
          exact F.trans (rX4_readAll_77_19 ih hf)
theorem rX4_readAll_0_19 {S' : mT} {r : Int32} {S : mT} (hf : fX4_readAll 19 S = some (r, S')) : Fr (inM 999999 LX4_readAll_19) S S' := by
  unfold fX4_readAll at hf
  obtain ⟨S1, hq, hf⟩ := bndV_ex hf
  have F := (Fr.rfl (inM 999999 LX4_readAll_19) _).trans ((rX8_clear_19 hq).mono rfl (fun _ => rfl))
  obtain ⟨-, hf⟩ := grd_ex hf
  obtain ⟨S2, eS2, hf⟩ := bnd_ex hf
  have F : Fr (inM 999999 LX4_readAll_19) S S2 := by
    rw [eS2]
    exact Fr.sI F rfl
  obtain ⟨-, hf⟩ := grd_ex hf
  obtain ⟨S3, eS3, hf⟩ := bnd_ex hf
  have F : Fr (inM 999999 LX4_readAll_19) S S3 := by
    rw [eS3]
    exact Fr.sI F rfl
  obtain ⟨S4, hq, hf⟩ := bndV_ex hf
  have F := F.trans ((rX4_advance hq).mono rfl (fun _ => rfl))
  exact F.trans (rX4_readAll_20_19 _ _ _ hf)
theorem rX4_readAll_19 {S S' : mT} {r : Int32} (hf : fX4_readAll 19 S = some (r, S')) : Fr (inM 999999 LX4_readAll_19) S S' := rX4_readAll_0_19 hf
abbrev LX8_begin_3 : List (Nat × Nat × Option Nat) := [(999999, 999999, none)]
theorem rX8_begin_0_3 {a1 : Nat} {S' : mT} {S : mT} (hf : fX8_begin 3 a1 S = some S') : Fr (inM a1 LX8_begin_3) S S' := by
  unfold fX8_begin at hf
  obtain ⟨S1, hq, hf⟩ := bndV_ex hf
  have F := (Fr.rfl (inM a1 LX8_begin_3) _).trans ((rJ7_fill_53178 hq).mono rfl (fun _ => inM_self))
  obtain ⟨-, hf⟩ := grd_ex hf
  obtain ⟨S2, eS2, hf⟩ := bnd_ex hf
  have F : Fr (inM a1 LX8_begin_3) S S2 := by
    rw [eS2]
    exact Fr.sC F (fun _ => inM_self)
  obtain ⟨-, hf⟩ := grd_ex hf
  obtain ⟨S3, eS3, hf⟩ := bnd_ex hf
  have F : Fr (inM a1 LX8_begin_3) S S3 := by
    rw [eS3]
    exact Fr.sI F inM_self
  cases hf
  exact F
theorem rX8_begin_3 {a1 : Nat} {S S' : mT} (hf : fX8_begin 3 a1 S = some S') : Fr (inM a1 LX8_begin_3) S S' := rX8_begin_0_3 hf
abbrev LX8_begin_19 : List (Nat × Nat × Option Nat) := [(999999, 999999, none)]
theorem rX8_begin_0_19 {a1 : Nat} {S' : mT} {S : mT} (hf : fX8_begin 19 a1 S = some S') : Fr (inM a1 LX8_begin_19) S S' := by
  unfold fX8_begin at hf
  obtain ⟨S1, hq, hf⟩ := bndV_ex hf
  have F := (Fr.rfl (inM a1 LX8_begin_19) _).trans ((rJ7_fill_53178 hq).mono rfl (fun _ => inM_self))
  obtain ⟨-, hf⟩ := grd_ex hf
  obtain ⟨S2, eS2, hf⟩ := bnd_ex hf
  have F : Fr (inM a1 LX8_begin_19) S S2 := by
    rw [eS2]
    exact Fr.sC F (fun _ => inM_self)
  obtain ⟨-, hf⟩ := grd_ex hf
  obtain ⟨S3, eS3, hf⟩ := bnd_ex hf
  have F : Fr (inM a1 LX8_begin_19) S S3 := by
    rw [eS3]
    exact Fr.sI F inM_self
  cases hf
  exact F
theorem rX8_begin_19 {a1 : Nat} {S S' : mT} (hf : fX8_begin 19 a1 S = some S') : Fr (inM a1 LX8_begin_19) S S' := rX8_begin_0_19 hf
end GF
