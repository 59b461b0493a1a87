section GF
abbrev LX11_fullest_f : List (Nat × Nat × Option Nat) := [(999999, 999999, none)]
theorem rX11_fullest_30_f {a1 : Nat} {S' : mT} {r : Int32} {rc4 : Int32 → Int32 → mT → Option (Int32 × mT)} (Hrc4 : ∀ (v2 : Int32) (v3 : Int32) (S : mT), rc4 v2 v3 S = some (r, S') → Fr (inM 999999 LX11_fullest_f) S S') {v2 : Int32} {v3 : Int32} {S : mT} (hf : fX11_fullest_30 false a1 rc4 v2 v3 S = some (r, S')) : Fr (inM 999999 LX11_fullest_f) S S' := by
  unfold fX11_fullest_30 at hf
  obtain ⟨x1, -, hf⟩ := bnd_ex hf
  exact (Fr.rfl (inM 999999 LX11_fullest_f) _).trans (Hrc4 _ _ _ hf)
theorem rX11_fullest_4_f {a1 : Nat} {S' : mT} {r : Int32} : ∀ (k : Nat) (v2 : Int32) (v3 : Int32) (S : mT), fX11_fullest_4 false a1 k v2 v3 S = some (r, S') → Fr (inM 999999 LX11_fullest_f) S S' := by
  intro k
  induction k with
  | zero =>
    intro v2 v3 S hf
    cases hf
  | succ k ih =>
    intro v2 v3 S hf
    unfold fX11_fullest_4 at hf
    obtain ⟨-, hf⟩ := grd_ex hf
    by_cases hc : (S.1 (shU false) 9) ≤ v3
    · rw [if_pos hc] at hf
      cases hf
      exact (Fr.rfl (inM 999999 LX11_fullest_f) _)
    · rw [if_neg hc] at hf
      obtain ⟨-, hf⟩ := grd_ex hf
      by_cases hc : (S.1 a1 (mIx ((0 : Int32) + v3))) ≤ (S.1 a1 (mIx ((0 : Int32) + v2)))
      · rw [if_pos hc] at hf
        exact (Fr.rfl (inM 999999 LX11_fullest_f) _).trans (rX11_fullest_30_f ih hf)
      · rw [if_neg hc] at hf
        exact (Fr.rfl (inM 999999 LX11_fullest_f) _).trans (rX11_fullest_30_f ih hf)
theorem rX11_fullest_0_f {a1 : Nat} {S' : mT} {r : Int32} {S : mT} (hf : fX11_fullest false a1 S = some (r, S')) : Fr (inM 999999 LX11_fullest_f) S S' := by
  unfold fX11_fullest at hf
  exact (Fr.rfl (inM 999999 LX11_fullest_f) _).trans (rX11_fullest_4_f _ _ _ _ hf)
theorem rX11_fullest_f {a1 : Nat} {S S' : mT} {r : Int32} (hf : fX11_fullest false a1 S = some (r, S')) : Fr (inM 999999 LX11_fullest_f) S S' := rX11_fullest_0_f hf
abbrev LX11_fullest_t : List (Nat × Nat × Option Nat) := [(999999, 999999, none)]
theorem rX11_fullest_30_t {a1 : Nat} {S' : mT} {r : Int32} {rc4 : Int32 → Int32 → mT → Option (Int32 × mT)} (Hrc4 : ∀ (v2 : Int32) (v3 : Int32) (S : mT), rc4 v2 v3 S = some (r, S') → Fr (inM 999999 LX11_fullest_t) S S') {v2 : Int32} {v3 : Int32} {S : mT} (hf : fX11_fullest_30 true a1 rc4 v2 v3 S = some (r, S')) : Fr (inM 999999 LX11_fullest_t) S S' := by
  unfold fX11_fullest_30 at hf
  obtain ⟨x1, -, hf⟩ := bnd_ex hf
  exact (Fr.rfl (inM 999999 LX11_fullest_t) _).trans (Hrc4 _ _ _ hf)
theorem rX11_fullest_4_t {a1 : Nat} {S' : mT} {r : Int32} : ∀ (k : Nat) (v2 : Int32) (v3 : Int32) (S : mT), fX11_fullest_4 true a1 k v2 v3 S = some (r, S') → Fr (inM 999999 LX11_fullest_t) S S' := by
  intro k
  induction k with
  | zero =>
    intro v2 v3 S hf
    cases hf
  | succ k ih =>
    intro v2 v3 S hf
    unfold fX11_fullest_4 at hf
    obtain ⟨-, hf⟩ := grd_ex hf
    by_cases hc : (S.1 (shU true) 9) ≤ v3
    · rw [if_pos hc] at hf
      cases hf
      exact (Fr.rfl (inM 999999 LX11_fullest_t) _)
    · rw [if_neg hc] at hf
      obtain ⟨-, hf⟩ := grd_ex hf
      by_cases hc : (S.1 a1 (mIx ((0 : Int32) + v3))) ≤ (S.1 a1 (mIx ((0 : Int32) + v2)))
      · rw [if_pos hc] at hf
        exact (Fr.rfl (inM 999999 LX11_fullest_t) _).trans (rX11_fullest_30_t ih hf)
      · rw [if_neg hc] at hf
        exact (Fr.rfl (inM 999999 LX11_fullest_t) _).trans (rX11_fullest_30_t ih hf)
theorem rX11_fullest_0_t {a1 : Nat} {S' : mT} {r : Int32} {S : mT} (hf : fX11_fullest true a1 S = some (r, S')) : Fr (inM 999999 LX11_fullest_t) S S' := by
  unfold fX11_fullest at hf
  exact (Fr.rfl (inM 999999 LX11_fullest_t) _).trans (rX11_fullest_4_t _ _ _ _ hf)
theorem rX11_fullest_t {a1 : Nat} {S S' : mT} {r : Int32} (hf : fX11_fullest true a1 S = some (r, S')) : Fr (inM 999999 LX11_fullest_t) S S' := rX11_fullest_0_t hf
abbrev LX8_taxOf_3 : List (Nat × Nat × Option Nat) := [(999999, 999999, none), (14, 14, none), (18, 18, none)]
theorem rX8_taxOf_0_3 {S' : mT} {r : Int32} {v1 : Int32} {v2 : Int32} {v3 : Int32} {S : mT} (hf : fX8_taxOf 3 v1 v2 v3 S = some (r, S')) : Fr (inM 999999 LX8_taxOf_3) S S' := by
  unfold fX8_taxOf at hf
  obtain ⟨-, hf⟩ := grd_ex hf
  by_cases hc : (S.1 (3 + 9) 4) = 0
  · rw [if_pos hc] at hf
    obtain ⟨x2, S1, hq, hf⟩ := bndC_ex hf
    have F := (Fr.rfl (inM 999999 LX8_taxOf_3) _).trans ((rX11_limited hq).mono rfl (fun _ => rfl))
    cases hf
    exact F
  · rw [if_neg hc] at hf
    obtain ⟨-, hf⟩ := grd_ex hf
    obtain ⟨S3, hq, hf⟩ := bndV_ex hf
    have F := (Fr.rfl (inM 999999 LX8_taxOf_3) _).trans ((rX8_setValues_3 hq).mono rfl (fun _ => rfl))
    obtain ⟨-, hf⟩ := grd_ex hf
    obtain ⟨x5, S4, hq, hf⟩ := bndC_ex hf
    have F := F.trans ((rX0_work_12 hq).mono rfl (fun _ => rfl))
    obtain ⟨x7, S6, hq, hf⟩ := bndC_ex hf
    have F := F.trans ((rX11_limited hq).mono rfl (fun _ => rfl))
    cases hf
    exact F
theorem rX8_taxOf_3 {v1 : Int32} {v2 : Int32} {v3 : Int32} {S S' : mT} {r : Int32} (hf : fX8_taxOf 3 v1 v2 v3 S = some (r, S')) : Fr (inM 999999 LX8_taxOf_3) S S' := rX8_taxOf_0_3 hf
abbrev LX8_taxOf_19 : List (Nat × Nat × Option Nat) := [(999999, 999999, none), (30, 30, none), (34, 34, none)]
theorem rX8_taxOf_0_19 {S' : mT} {r : Int32} {v1 : Int32} {v2 : Int32} {v3 : Int32} {S : mT} (hf : fX8_taxOf 19 v1 v2 v3 S = some (r, S')) : Fr (inM 999999 LX8_taxOf_19) S S' := by
  unfold fX8_taxOf at hf
  obtain ⟨-, hf⟩ := grd_ex hf
  by_cases hc : (S.1 (19 + 9) 4) = 0
  · rw [if_pos hc] at hf
    obtain ⟨x2, S1, hq, hf⟩ := bndC_ex hf
    have F := (Fr.rfl (inM 999999 LX8_taxOf_19) _).trans ((rX11_limited hq).mono rfl (fun _ => rfl))
    cases hf
    exact F
  · rw [if_neg hc] at hf
    obtain ⟨-, hf⟩ := grd_ex hf
    obtain ⟨S3, hq, hf⟩ := bndV_ex hf
    have F := (Fr.rfl (inM 999999 LX8_taxOf_19) _).trans ((rX8_setValues_19 hq).mono rfl (fun _ => rfl))
    obtain ⟨-, hf⟩ := grd_ex hf
    obtain ⟨x5, S4, hq, hf⟩ := bndC_ex hf
    have F := F.trans ((rX0_work_28 hq).mono rfl (fun _ => rfl))
    obtain ⟨x7, S6, hq, hf⟩ := bndC_ex hf
    have F := F.trans ((rX11_limited hq).mono rfl (fun _ => rfl))
    cases hf
    exact F
theorem rX8_taxOf_19 {v1 : Int32} {v2 : Int32} {v3 : Int32} {S S' : mT} {r : Int32} (hf : fX8_taxOf 19 v1 v2 v3 S = some (r, S')) : Fr (inM 999999 LX8_taxOf_19) S S' := rX8_taxOf_0_19 hf
abbrev LX11_house_f : List (Nat × Nat × Option Nat) := [(999999, 999999, none), (11, 11, none), (14, 14, none), (18, 18, none)]
theorem rX11_house_164_f {S' : mT} {r : Int32} {s0 : Int32} {S : mT} (hf : fX11_house_164 false s0 S = some (r, S')) : Fr (inM 999999 LX11_house_f) S S' := by
  unfold fX11_house_164 at hf
  cases hf
  exact (Fr.rfl (inM 999999 LX11_house_f) _)
theorem rX11_house_0_f {S' : mT} {r : Int32} {v1 : Int32} {v2 : Int32} {S : mT} (hf : fX11_house false v1 v2 S = some (r, S')) : Fr (inM 999999 LX11_house_f) S S' := by
  unfold fX11_house at hf
  obtain ⟨x2, S1, hq, hf⟩ := bndC_ex hf
  have F := (Fr.rfl (inM 999999 LX11_house_f) _).trans ((rX11_isHouse_f hq).mono rfl (fun _ => rfl))
  by_cases hc : x2 = 0
  · rw [if_pos hc] at hf
    cases hf
    exact F
  · rw [if_neg hc] at hf
    by_cases hc : v2 = (0 : Int32)
    · rw [if_pos hc] at hf
      obtain ⟨-, hf⟩ := grd_ex hf
      cases hf
      exact F
    · rw [if_neg hc] at hf
      by_cases hc : v2 = (1 : Int32)
      · rw [if_pos hc] at hf
        obtain ⟨-, hf⟩ := grd_ex hf
        cases hf
        exact F
      · rw [if_neg hc] at hf
        by_cases hc : v2 = (2 : Int32)
        · rw [if_pos hc] at hf
          obtain ⟨-, hf⟩ := grd_ex hf
          cases hf
          exact F
        · rw [if_neg hc] at hf
          by_cases hc : v2 = (3 : Int32)
          · rw [if_pos hc] at hf
            obtain ⟨-, hf⟩ := grd_ex hf
            cases hf
            exact F
          · rw [if_neg hc] at hf
            by_cases hc : v2 = (4 : Int32)
            · rw [if_pos hc] at hf
              obtain ⟨-, hf⟩ := grd_ex hf
              cases hf
              exact F
            · rw [if_neg hc] at hf
              by_cases hc : v2 = (5 : Int32)
              · rw [if_pos hc] at hf
                obtain ⟨-, hf⟩ := grd_ex hf
                cases hf
                exact F
              · rw [if_neg hc] at hf
                by_cases hc : v2 = (6 : Int32)
                · rw [if_pos hc] at hf
                  obtain ⟨-, hf⟩ := grd_ex hf
                  obtain ⟨x12, S11, hq, hf⟩ := bndC_ex hf
                  have F := F.trans ((rX8_stonesOf_3 hq).mono rfl (fun _ => rfl))
                  cases hf
                  exact F
                · rw [if_neg hc] at hf
                  by_cases hc : v2 = (7 : Int32)
                  · rw [if_pos hc] at hf
                    obtain ⟨-, hf⟩ := grd_ex hf
                    obtain ⟨x10, S9, hq, hf⟩ := bndC_ex hf
                    have F := F.trans ((rX8_stonesOf_3 hq).mono rfl (fun _ => rfl))
                    obtain ⟨-, hf⟩ := grd_ex hf
                    by_cases hc : (S9.1 ((shU false) + 4) (mIx v1)) ≤ x10
                    · rw [if_pos hc] at hf
                      exact F.trans (rX11_house_164_f hf)
                    · rw [if_neg hc] at hf
                      exact F.trans (rX11_house_164_f hf)
                  · rw [if_neg hc] at hf
                    by_cases hc : v2 = (8 : Int32)
                    · rw [if_pos hc] at hf
                      obtain ⟨-, hf⟩ := grd_ex hf
                      obtain ⟨-, hf⟩ := grd_ex hf
                      obtain ⟨x8, S7, hq, hf⟩ := bndC_ex hf
                      have F := F.trans ((rX8_taxOf_3 hq).mono rfl (fun _ => rfl))
                      cases hf
                      exact F
                    · rw [if_neg hc] at hf
                      by_cases hc : v2 = (9 : Int32)
                      · rw [if_pos hc] at hf
                        obtain ⟨-, hf⟩ := grd_ex hf
                        obtain ⟨x4, S3, hq, hf⟩ := bndC_ex hf
                        have F := F.trans ((rX8_stonesOf_3 hq).mono rfl (fun _ => rfl))
                        obtain ⟨-, hf⟩ := grd_ex hf
                        obtain ⟨x6, S5, hq, hf⟩ := bndC_ex hf
                        have F := F.trans ((rX8_taxOf_3 hq).mono rfl (fun _ => rfl))
                        cases hf
                        exact F
                      · rw [if_neg hc] at hf
                        cases hf
                        exact F
theorem rX11_house_f {v1 : Int32} {v2 : Int32} {S S' : mT} {r : Int32} (hf : fX11_house false v1 v2 S = some (r, S')) : Fr (inM 999999 LX11_house_f) S S' := rX11_house_0_f hf
abbrev LX11_house_t : List (Nat × Nat × Option Nat) := [(999999, 999999, none), (27, 27, none), (30, 30, none), (34, 34, none)]
theorem rX11_house_164_t {S' : mT} {r : Int32} {s0 : Int32} {S : mT} (hf : fX11_house_164 true s0 S = some (r, S')) : Fr (inM 999999 LX11_house_t) S S' := by
  unfold fX11_house_164 at hf
  cases hf
  exact (Fr.rfl (inM 999999 LX11_house_t) _)
theorem rX11_house_0_t {S' : mT} {r : Int32} {v1 : Int32} {v2 : Int32} {S : mT} (hf : fX11_house true v1 v2 S = some (r, S')) : Fr (inM 999999 LX11_house_t) S S' := by
  unfold fX11_house at hf
  obtain ⟨x2, S1, hq, hf⟩ := bndC_ex hf
  have F := (Fr.rfl (inM 999999 LX11_house_t) _).trans ((rX11_isHouse_t hq).mono rfl (fun _ => rfl))
  by_cases hc : x2 = 0
  · rw [if_pos hc] at hf
    cases hf
    exact F
  · rw [if_neg hc] at hf
    by_cases hc : v2 = (0 : Int32)
    · rw [if_pos hc] at hf
      obtain ⟨-, hf⟩ := grd_ex hf
      cases hf
      exact F
    · rw [if_neg hc] at hf
      by_cases hc : v2 = (1 : Int32)
      · rw [if_pos hc] at hf
        obtain ⟨-, hf⟩ := grd_ex hf
        cases hf
        exact F
      · rw [if_neg hc] at hf
        by_cases hc : v2 = (2 : Int32)
        · rw [if_pos hc] at hf
          obtain ⟨-, hf⟩ := grd_ex hf
          cases hf
          exact F
        · rw [if_neg hc] at hf
          by_cases hc : v2 = (3 : Int32)
          · rw [if_pos hc] at hf
            obtain ⟨-, hf⟩ := grd_ex hf
            cases hf
            exact F
          · rw [if_neg hc] at hf
            by_cases hc : v2 = (4 : Int32)
            · rw [if_pos hc] at hf
              obtain ⟨-, hf⟩ := grd_ex hf
              cases hf
              exact F
            · rw [if_neg hc] at hf
              by_cases hc : v2 = (5 : Int32)
              · rw [if_pos hc] at hf
                obtain ⟨-, hf⟩ := grd_ex hf
                cases hf
                exact F
              · rw [if_neg hc] at hf
                by_cases hc : v2 = (6 : Int32)
                · rw [if_pos hc] at hf
                  obtain ⟨-, hf⟩ := grd_ex hf
                  obtain ⟨x12, S11, hq, hf⟩ := bndC_ex hf
                  have F := F.trans ((rX8_stonesOf_19 hq).mono rfl (fun _ => rfl))
                  cases hf
                  exact F
                · rw [if_neg hc] at hf
                  by_cases hc : v2 = (7 : Int32)
                  · rw [if_pos hc] at hf
                    obtain ⟨-, hf⟩ := grd_ex hf
                    obtain ⟨x10, S9, hq, hf⟩ := bndC_ex hf
                    have F := F.trans ((rX8_stonesOf_19 hq).mono rfl (fun _ => rfl))
                    obtain ⟨-, hf⟩ := grd_ex hf
                    by_cases hc : (S9.1 ((shU true) + 4) (mIx v1)) ≤ x10
                    · rw [if_pos hc] at hf
                      exact F.trans (rX11_house_164_t hf)
                    · rw [if_neg hc] at hf
                      exact F.trans (rX11_house_164_t hf)
                  · rw [if_neg hc] at hf
                    by_cases hc : v2 = (8 : Int32)
                    · rw [if_pos hc] at hf
                      obtain ⟨-, hf⟩ := grd_ex hf
                      obtain ⟨-, hf⟩ := grd_ex hf
                      obtain ⟨x8, S7, hq, hf⟩ := bndC_ex hf
                      have F := F.trans ((rX8_taxOf_19 hq).mono rfl (fun _ => rfl))
                      cases hf
                      exact F
                    · rw [if_neg hc] at hf
                      by_cases hc : v2 = (9 : Int32)
                      · rw [if_pos hc] at hf
                        obtain ⟨-, hf⟩ := grd_ex hf
                        obtain ⟨x4, S3, hq, hf⟩ := bndC_ex hf
                        have F := F.trans ((rX8_stonesOf_19 hq).mono rfl (fun _ => rfl))
                        obtain ⟨-, hf⟩ := grd_ex hf
                        obtain ⟨x6, S5, hq, hf⟩ := bndC_ex hf
                        have F := F.trans ((rX8_taxOf_19 hq).mono rfl (fun _ => rfl))
                        cases hf
                        exact F
                      · rw [if_neg hc] at hf
                        cases hf
                        exact F
theorem rX11_house_t {v1 : Int32} {v2 : Int32} {S S' : mT} {r : Int32} (hf : fX11_house true v1 v2 S = some (r, S')) : Fr (inM 999999 LX11_house_t) S S' := rX11_house_0_t hf
abbrev LX11_sumOf_f : List (Nat × Nat × Option Nat) := [(999999, 999999, none), (11, 11, none), (14, 14, none), (18, 18, none)]
theorem rX11_sumOf_4_f {S' : mT} {r : Int32} : ∀ (k : Nat) (v1 : Int32) (v2 : Int32) (v3 : Int32) (S : mT), fX11_sumOf_4 false k v1 v2 v3 S = some (r, S') → Fr (inM 999999 LX11_sumOf_f) S S' := by
  intro k
  induction k with
  | zero =>
    intro v1 v2 v3 S hf
    cases hf
  | succ k ih =>
    intro v1 v2 v3 S hf
    unfold fX11_sumOf_4 at hf
    obtain ⟨-, hf⟩ := grd_ex hf
    by_cases hc : (S.1 (shU false) 9) ≤ v3
    · rw [if_pos hc] at hf
      cases hf
      exact (Fr.rfl (inM 999999 LX11_sumOf_f) _)
    · rw [if_neg hc] at hf
      obtain ⟨x2, S1, hq, hf⟩ := bndC_ex hf
      have F := (Fr.rfl (inM 999999 LX11_sumOf_f) _).trans ((rX11_house_f hq).mono rfl (fun _ => rfl))
      obtain ⟨x3, -, hf⟩ := bnd_ex hf
      obtain ⟨x4, -, hf⟩ := bnd_ex hf
      exact F.trans (ih _ _ _ _ hf)
theorem rX11_sumOf_0_f {S' : mT} {r : Int32} {v1 : Int32} {S : mT} (hf : fX11_sumOf false v1 S = some (r, S')) : Fr (inM 999999 LX11_sumOf_f) S S' := by
  unfold fX11_sumOf at hf
  exact (Fr.rfl (inM 999999 LX11_sumOf_f) _).trans (rX11_sumOf_4_f _ _ _ _ _ hf)
theorem rX11_sumOf_f {v1 : Int32} {S S' : mT} {r : Int32} (hf : fX11_sumOf false v1 S = some (r, S')) : Fr (inM 999999 LX11_sumOf_f) S S' := rX11_sumOf_0_f hf
abbrev LX11_sumOf_t : List (Nat × Nat × Option Nat) := [(999999, 999999, none), (27, 27, none), (30, 30, none), (34, 34, none)]
theorem rX11_sumOf_4_t {S' : mT} {r : Int32} : ∀ (k : Nat) (v1 : Int32) (v2 : Int32) (v3 : Int32) (S : mT), fX11_sumOf_4 true k v1 v2 v3 S = some (r, S') → Fr (inM 999999 LX11_sumOf_t) S S' := by
  intro k
  induction k with
  | zero =>
    intro v1 v2 v3 S hf
    cases hf
  | succ k ih =>
    intro v1 v2 v3 S hf
    unfold fX11_sumOf_4 at hf
    obtain ⟨-, hf⟩ := grd_ex hf
    by_cases hc : (S.1 (shU true) 9) ≤ v3
    · rw [if_pos hc] at hf
      cases hf
      exact (Fr.rfl (inM 999999 LX11_sumOf_t) _)
    · rw [if_neg hc] at hf
      obtain ⟨x2, S1, hq, hf⟩ := bndC_ex hf
      have F := (Fr.rfl (inM 999999 LX11_sumOf_t) _).trans ((rX11_house_t hq).mono rfl (fun _ => rfl))
      obtain ⟨x3, -, hf⟩ := bnd_ex hf
      obtain ⟨x4, -, hf⟩ := bnd_ex hf
      exact F.trans (ih _ _ _ _ hf)
theorem rX11_sumOf_0_t {S' : mT} {r : Int32} {v1 : Int32} {S : mT} (hf : fX11_sumOf true v1 S = some (r, S')) : Fr (inM 999999 LX11_sumOf_t) S S' := by
  unfold fX11_sumOf at hf
  exact (Fr.rfl (inM 999999 LX11_sumOf_t) _).trans (rX11_sumOf_4_t _ _ _ _ _ hf)
theorem rX11_sumOf_t {v1 : Int32} {S S' : mT} {r : Int32} (hf : fX11_sumOf true v1 S = some (r, S')) : Fr (inM 999999 LX11_sumOf_t) S S' := rX11_sumOf_0_t hf
abbrev LX11_sum_f : List (Nat × Nat × Option Nat) := [(999999, 999999, none), (11, 11, none), (14, 14, none), (18, 18, none)]
theorem rX11_sum_0_f {S' : mT} {r : Int32} {v1 : Int32} {S : mT} (hf : fX11_sum false v1 S = some (r, S')) : Fr (inM 999999 LX11_sum_f) S S' := by
  unfold fX11_sum at hf
  by_cases hc : v1 = (0 : Int32)
  · rw [if_pos hc] at hf
    obtain ⟨x12, S11, hq, hf⟩ := bndC_ex hf
    have F := (Fr.rfl (inM 999999 LX11_sum_f) _).trans ((rX11_sumOf_f hq).mono rfl (fun _ => rfl))
    cases hf
    exact F
  · rw [if_neg hc] at hf
    by_cases hc : v1 = (1 : Int32)
    · rw [if_pos hc] at hf
      obtain ⟨x10, S9, hq, hf⟩ := bndC_ex hf
      have F := (Fr.rfl (inM 999999 LX11_sum_f) _).trans ((rX11_sumOf_f hq).mono rfl (fun _ => rfl))
      cases hf
      exact F
    · rw [if_neg hc] at hf
      by_cases hc : v1 = (2 : Int32)
      · rw [if_pos hc] at hf
        obtain ⟨x8, S7, hq, hf⟩ := bndC_ex hf
        have F := (Fr.rfl (inM 999999 LX11_sum_f) _).trans ((rX11_sumOf_f hq).mono rfl (fun _ => rfl))
        cases hf
        exact F
      · rw [if_neg hc] at hf
        by_cases hc : v1 = (3 : Int32)
        · rw [if_pos hc] at hf
          obtain ⟨x6, S5, hq, hf⟩ := bndC_ex hf
          have F := (Fr.rfl (inM 999999 LX11_sum_f) _).trans ((rX11_sumOf_f hq).mono rfl (fun _ => rfl))
          cases hf
          exact F
        · rw [if_neg hc] at hf
          by_cases hc : v1 = (4 : Int32)
          · rw [if_pos hc] at hf
            obtain ⟨x4, S3, hq, hf⟩ := bndC_ex hf
            have F := (Fr.rfl (inM 999999 LX11_sum_f) _).trans ((rX11_sumOf_f hq).mono rfl (fun _ => rfl))
            cases hf
            exact F
          · rw [if_neg hc] at hf
            by_cases hc : v1 = (5 : Int32)
            · rw [if_pos hc] at hf
              obtain ⟨x2, S1, hq, hf⟩ := bndC_ex hf
              have F := (Fr.rfl (inM 999999 LX11_sum_f) _).trans ((rX11_sumOf_f hq).mono rfl (fun _ => rfl))
              cases hf
              exact F
            · rw [if_neg hc] at hf
              cases hf
              exact (Fr.rfl (inM 999999 LX11_sum_f) _)
theorem rX11_sum_f {v1 : Int32} {S S' : mT} {r : Int32} (hf : fX11_sum false v1 S = some (r, S')) : Fr (inM 999999 LX11_sum_f) S S' := rX11_sum_0_f hf
abbrev LX11_sum_t : List (Nat × Nat × Option Nat) := [(999999, 999999, none), (27, 27, none), (30, 30, none), (34, 34, none)]
theorem rX11_sum_0_t {S' : mT} {r : Int32} {v1 : Int32} {S : mT} (hf : fX11_sum true v1 S = some (r, S')) : Fr (inM 999999 LX11_sum_t) S S' := by
  unfold fX11_sum at hf
  by_cases hc : v1 = (0 : Int32)
  · rw [if_pos hc] at hf
    obtain ⟨x12, S11, hq, hf⟩ := bndC_ex hf
    have F := (Fr.rfl (inM 999999 LX11_sum_t) _).trans ((rX11_sumOf_t hq).mono rfl (fun _ => rfl))
    cases hf
    exact F
  · rw [if_neg hc] at hf
    by_cases hc : v1 = (1 : Int32)
    · rw [if_pos hc] at hf
      obtain ⟨x10, S9, hq, hf⟩ := bndC_ex hf
      have F := (Fr.rfl (inM 999999 LX11_sum_t) _).trans ((rX11_sumOf_t hq).mono rfl (fun _ => rfl))
      cases hf
      exact F
    · rw [if_neg hc] at hf
      by_cases hc : v1 = (2 : Int32)
      · rw [if_pos hc] at hf
        obtain ⟨x8, S7, hq, hf⟩ := bndC_ex hf
        have F := (Fr.rfl (inM 999999 LX11_sum_t) _).trans ((rX11_sumOf_t hq).mono rfl (fun _ => rfl))
        cases hf
        exact F
      · rw [if_neg hc] at hf
        by_cases hc : v1 = (3 : Int32)
        · rw [if_pos hc] at hf
          obtain ⟨x6, S5, hq, hf⟩ := bndC_ex hf
          have F := (Fr.rfl (inM 999999 LX11_sum_t) _).trans ((rX11_sumOf_t hq).mono rfl (fun _ => rfl))
          cases hf
          exact F
        · rw [if_neg hc] at hf
          by_cases hc : v1 = (4 : Int32)
          · rw [if_pos hc] at hf
            obtain ⟨x4, S3, hq, hf⟩ := bndC_ex hf
            have F := (Fr.rfl (inM 999999 LX11_sum_t) _).trans ((rX11_sumOf_t hq).mono rfl (fun _ => rfl))
            cases hf
            exact F
          · rw [if_neg hc] at hf
            by_cases hc : v1 = (5 : Int32)
            · rw [if_pos hc] at hf
              obtain ⟨x2, S1, hq, hf⟩ := bndC_ex hf
              have F := (Fr.rfl (inM 999999 LX11_sum_t) _).trans ((rX11_sumOf_t hq).mono rfl (fun _ => rfl))
              cases hf
              exact F
            · rw [if_neg hc] at hf
              cases hf
              exact (Fr.rfl (inM 999999 LX11_sum_t) _)
theorem rX11_sum_t {v1 : Int32} {S S' : mT} {r : Int32} (hf : fX11_sum true v1 S = some (r, S')) : Fr (inM 999999 LX11_sum_t) S S' := rX11_sum_0_t hf
abbrev LX11_draft_f : List (Nat × Nat × Option Nat) := [(999999, 999999, none), (11, 11, none), (14, 14, none), (18, 18, none), (36, 36, none)]
theorem rX11_draft_27_f {S' : mT} {r : Int32} {S : mT} (hf : fX11_draft_27 false S = some (r, S')) : Fr (inM 999999 LX11_draft_f) S S' := by
  unfold fX11_draft_27 at hf
  cases hf
  exact (Fr.rfl (inM 999999 LX11_draft_f) _)
theorem rX11_draft_46_f {S' : mT} {r : Int32} : ∀ (k : Nat) (v1 : Int32) (v2 : Int32) (v3 : Int32) (S : mT), fX11_draft_46 false k v1 v2 v3 S = some (r, S') → Fr (inM 999999 LX11_draft_f) S S' := by
  intro k
  induction k with
  | zero =>
    intro v1 v2 v3 S hf
    cases hf
  | succ k ih =>
    intro v1 v2 v3 S hf
    unfold fX11_draft_46 at hf
    by_cases hc : v2 ≤ v3
    · rw [if_pos hc] at hf
      obtain ⟨-, hf⟩ := grd_ex hf
      obtain ⟨-, hf⟩ := grd_ex hf
      cases hf
      exact (Fr.rfl (inM 999999 LX11_draft_f) _)
    · rw [if_neg hc] at hf
      obtain ⟨-, hf⟩ := grd_ex hf
      obtain ⟨x9, S8, hq, hf⟩ := bndC_ex hf
      have F := (Fr.rfl (inM 999999 LX11_draft_f) _).trans ((rX11_fullest_f hq).mono rfl (fun _ => rfl))
      obtain ⟨-, hf⟩ := grd_ex hf
      obtain ⟨S10, eS10, hf⟩ := bnd_ex hf
      have F : Fr (inM 999999 LX11_draft_f) S S10 := by
        rw [eS10]
        exact Fr.sI F rfl
      obtain ⟨x11, -, hf⟩ := bnd_ex hf
      exact F.trans (ih _ _ _ _ hf)
theorem rX11_draft_0_f {S' : mT} {r : Int32} {v1 : Int32} {v2 : Int32} {S : mT} (hf : fX11_draft false v1 v2 S = some (r, S')) : Fr (inM 999999 LX11_draft_f) S S' := by
  unfold fX11_draft at hf
  obtain ⟨x2, S1, hq, hf⟩ := bndC_ex hf
  have F := (Fr.rfl (inM 999999 LX11_draft_f) _).trans ((rX11_isHouse_f hq).mono rfl (fun _ => rfl))
  by_cases hc : x2 = 0
  · rw [if_pos hc] at hf
    exact F.trans (rX11_draft_27_f hf)
  · rw [if_neg hc] at hf
    obtain ⟨x4, S3, hq, hf⟩ := bndC_ex hf
    have F := F.trans ((rX11_isWithin hq).mono rfl (fun _ => rfl))
    by_cases hc : x4 = 0
    · rw [if_pos hc] at hf
      exact F.trans (rX11_draft_27_f hf)
    · rw [if_neg hc] at hf
      obtain ⟨x6, S5, hq, hf⟩ := bndC_ex hf
      have F := F.trans ((rX11_sum_f hq).mono rfl (fun _ => rfl))
      by_cases hc : v2 ≤ x6
      · rw [if_pos hc] at hf
        obtain ⟨-, hf⟩ := grd_ex hf
        obtain ⟨S7, eS7, hf⟩ := bnd_ex hf
        have F : Fr (inM 999999 LX11_draft_f) S S7 := by
          rw [eS7]
          exact Fr.sC F (fun _ => rfl)
        exact F.trans (rX11_draft_46_f _ _ _ _ _ hf)
      · rw [if_neg hc] at hf
        exact F.trans (rX11_draft_27_f hf)
theorem rX11_draft_f {v1 : Int32} {v2 : Int32} {S S' : mT} {r : Int32} (hf : fX11_draft false v1 v2 S = some (r, S')) : Fr (inM 999999 LX11_draft_f) S S' := rX11_draft_0_f hf
abbrev LX11_draft_t : List (Nat × Nat × Option Nat) := [(999999, 999999, none), (27, 27, none), (30, 30, none), (34, 34, none), (36, 36, none)]
theorem rX11_draft_27_t {S' : mT} {r : Int32} {S : mT} (hf : fX11_draft_27 true S = some (r, S')) : Fr (inM 999999 LX11_draft_t) S S' := by
  unfold fX11_draft_27 at hf
  cases hf
  exact (Fr.rfl (inM 999999 LX11_draft_t) _)
theorem rX11_draft_46_t {S' : mT} {r : Int32} : ∀ (k : Nat) (v1 : Int32) (v2 : Int32) (v3 : Int32) (S : mT), fX11_draft_46 true k v1 v2 v3 S = some (r, S') → Fr (inM 999999 LX11_draft_t) S S' := by
  intro k
  induction k with
  | zero =>
    intro v1 v2 v3 S hf
    cases hf
  | succ k ih =>
    intro v1 v2 v3 S hf
    unfold fX11_draft_46 at hf
    by_cases hc : v2 ≤ v3
    · rw [if_pos hc] at hf
      obtain ⟨-, hf⟩ := grd_ex hf
      obtain ⟨-, hf⟩ := grd_ex hf
      cases hf
      exact (Fr.rfl (inM 999999 LX11_draft_t) _)
    · rw [if_neg hc] at hf
      obtain ⟨-, hf⟩ := grd_ex hf
      obtain ⟨x9, S8, hq, hf⟩ := bndC_ex hf
      have F := (Fr.rfl (inM 999999 LX11_draft_t) _).trans ((rX11_fullest_t hq).mono rfl (fun _ => rfl))
      obtain ⟨-, hf⟩ := grd_ex hf
      obtain ⟨S10, eS10, hf⟩ := bnd_ex hf
      have F : Fr (inM 999999 LX11_draft_t) S S10 := by
        rw [eS10]
        exact Fr.sI F rfl
      obtain ⟨x11, -, hf⟩ := bnd_ex hf
      exact F.trans (ih _ _ _ _ hf)
theorem rX11_draft_0_t {S' : mT} {r : Int32} {v1 : Int32} {v2 : Int32} {S : mT} (hf : fX11_draft true v1 v2 S = some (r, S')) : Fr (inM 999999 LX11_draft_t) S S' := by
  unfold fX11_draft at hf
  obtain ⟨x2, S1, hq, hf⟩ := bndC_ex hf
  have F := (Fr.rfl (inM 999999 LX11_draft_t) _).trans ((rX11_isHouse_t hq).mono rfl (fun _ => rfl))
  by_cases hc : x2 = 0
  · rw [if_pos hc] at hf
    exact F.trans (rX11_draft_27_t hf)
  · rw [if_neg hc] at hf
    obtain ⟨x4, S3, hq, hf⟩ := bndC_ex hf
    have F := F.trans ((rX11_isWithin hq).mono rfl (fun _ => rfl))
    by_cases hc : x4 = 0
    · rw [if_pos hc] at hf
      exact F.trans (rX11_draft_27_t hf)
    · rw [if_neg hc] at hf
      obtain ⟨x6, S5, hq, hf⟩ := bndC_ex hf
      have F := F.trans ((rX11_sum_t hq).mono rfl (fun _ => rfl))
      by_cases hc : v2 ≤ x6
      · rw [if_pos hc] at hf
        obtain ⟨-, hf⟩ := grd_ex hf
        obtain ⟨S7, eS7, hf⟩ := bnd_ex hf
        have F : Fr (inM 999999 LX11_draft_t) S S7 := by
          rw [eS7]
          exact Fr.sC F (fun _ => rfl)
        exact F.trans (rX11_draft_46_t _ _ _ _ _ hf)
      · rw [if_neg hc] at hf
        exact F.trans (rX11_draft_27_t hf)
theorem rX11_draft_t {v1 : Int32} {v2 : Int32} {S S' : mT} {r : Int32} (hf : fX11_draft true v1 v2 S = some (r, S')) : Fr (inM 999999 LX11_draft_t) S S' := rX11_draft_0_t hf
abbrev LX11_end : List (Nat × Nat × Option Nat) := [(999999, 999999, none), (1, 1, some 1)]
theorem rX11_end_15 {S' : mT} {r : Int32} {S : mT} (hf : fX11_end_15 S = some (r, S')) : Fr (inM 999999 LX11_end) S S' := by
  unfold fX11_end_15 at hf
  cases hf
  exact (Fr.rfl (inM 999999 LX11_end) _)
theorem rX11_end_0 {S' : mT} {r : Int32} {v1 : Int32} {S : mT} (hf : fX11_end v1 S = some (r, S')) : Fr (inM 999999 LX11_end) S S' := by
  unfold fX11_end at hf
  by_cases hc : v1 < 0
  · rw [if_pos hc] at hf
    exact (Fr.rfl (inM 999999 LX11_end) _).trans (rX11_end_15 hf)
  · rw [if_neg hc] at hf
    obtain ⟨-, hf⟩ := grd_ex hf
    by_cases hc : v1 ≤ (S.1 1 1)
    · rw [if_pos hc] at hf
      obtain ⟨-, hf⟩ := grd_ex hf
      obtain ⟨S1, eS1, hf⟩ := bnd_ex hf
      have F : Fr (inM 999999 LX11_end) S S1 := by
        rw [eS1]
        exact Fr.sI (Fr.rfl (inM 999999 LX11_end) _) rfl
      cases hf
      exact F
    · rw [if_neg hc] at hf
      exact (Fr.rfl (inM 999999 LX11_end) _).trans (rX11_end_15 hf)
theorem rX11_end {v1 : Int32} {S S' : mT} {r : Int32} (hf : fX11_end v1 S = some (r, S')) : Fr (inM 999999 LX11_end) S S' := rX11_end_0 hf
abbrev LX11_falses_f : List (Nat × Nat × Option Nat) := [(999999, 999999, none)]
theorem rX11_falses_41_f {S' : mT} {r : Int32} {rc4 : Int32 → Int32 → mT → Option (Int32 × mT)} (Hrc4 : ∀ (v1 : Int32) (v2 : Int32) (S : mT), rc4 v1 v2 S = some (r, S') → Fr (inM 999999 LX11_falses_f) S S') {v1 : Int32} {v2 : Int32} {S : mT} (hf : fX11_falses_41 false rc4 v1 v2 S = some (r, S')) : Fr (inM 999999 LX11_falses_f) S S' := by
  unfold fX11_falses_41 at hf
  obtain ⟨x2, -, hf⟩ := bnd_ex hf
  exact (Fr.rfl (inM 999999 LX11_falses_f) _).trans (Hrc4 _ _ _ hf)
theorem rX11_falses_4_f {S' : mT} {r : Int32} : ∀ (k : Nat) (v1 : Int32) (v2 : Int32) (S : mT), fX11_falses_4 false k v1 v2 S = some (r, S') → Fr (inM 999999 LX11_falses_f) S S' := by
  intro k
  induction k with
  | zero =>
    intro v1 v2 S hf
    cases hf
  | succ k ih =>
    intro v1 v2 S hf
    unfold fX11_falses_4 at hf
    obtain ⟨-, hf⟩ := grd_ex hf
    by_cases hc : (S.1 (shU false) 9) ≤ v2
    · rw [if_pos hc] at hf
      cases hf
      exact (Fr.rfl (inM 999999 LX11_falses_f) _)
    · rw [if_neg hc] at hf
      obtain ⟨-, hf⟩ := grd_ex hf
      obtain ⟨-, hf⟩ := grd_ex hf
      by_cases hc : (S.1 35 (mIx ((10 : Int32) + v2))) = (S.1 35 (mIx ((0 : Int32) + v2)))
      · rw [if_pos hc] at hf
        exact (Fr.rfl (inM 999999 LX11_falses_f) _).trans (rX11_falses_41_f ih hf)
      · rw [if_neg hc] at hf
        obtain ⟨x1, -, hf⟩ := bnd_ex hf
        exact (Fr.rfl (inM 999999 LX11_falses_f) _).trans (rX11_falses_41_f ih hf)
theorem rX11_falses_0_f {S' : mT} {r : Int32} {S : mT} (hf : fX11_falses false S = some (r, S')) : Fr (inM 999999 LX11_falses_f) S S' := by
  unfold fX11_falses at hf
  exact (Fr.rfl (inM 999999 LX11_falses_f) _).trans (rX11_falses_4_f _ _ _ _ hf)
theorem rX11_falses_f {S S' : mT} {r : Int32} (hf : fX11_falses false S = some (r, S')) : Fr (inM 999999 LX11_falses_f) S S' := rX11_falses_0_f hf
abbrev LX11_falses_t : List (Nat × Nat × Option Nat) := [(999999, 999999, none)]
theorem rX11_falses_41_t {S' : mT} {r : Int32} {rc4 : Int32 → Int32 → mT → Option (Int32 × mT)} (Hrc4 : ∀ (v1 : Int32) (v2 : Int32) (S : mT), rc4 v1 v2 S = some (r, S') → Fr (inM 999999 LX11_falses_t) S S') {v1 : Int32} {v2 : Int32} {S : mT} (hf : fX11_falses_41 true rc4 v1 v2 S = some (r, S')) : Fr (inM 999999 LX11_falses_t) S S' := by
  unfold fX11_falses_41 at hf
  obtain ⟨x2, -, hf⟩ := bnd_ex hf
  exact (Fr.rfl (inM 999999 LX11_falses_t) _).trans (Hrc4 _ _ _ hf)
theorem rX11_falses_4_t {S' : mT} {r : Int32} : ∀ (k : Nat) (v1 : Int32) (v2 : Int32) (S : mT), fX11_falses_4 true k v1 v2 S = some (r, S') → Fr (inM 999999 LX11_falses_t) S S' := by
  intro k
  induction k with
  | zero =>
    intro v1 v2 S hf
    cases hf
  | succ k ih =>
    intro v1 v2 S hf
    unfold fX11_falses_4 at hf
    obtain ⟨-, hf⟩ := grd_ex hf
    by_cases hc : (S.1 (shU true) 9) ≤ v2
    · rw [if_pos hc] at hf
      cases hf
      exact (Fr.rfl (inM 999999 LX11_falses_t) _)
    · rw [if_neg hc] at hf
      obtain ⟨-, hf⟩ := grd_ex hf
      obtain ⟨-, hf⟩ := grd_ex hf
      by_cases hc : (S.1 35 (mIx ((10 : Int32) + v2))) = (S.1 35 (mIx ((0 : Int32) + v2)))
      · rw [if_pos hc] at hf
        exact (Fr.rfl (inM 999999 LX11_falses_t) _).trans (rX11_falses_41_t ih hf)
      · rw [if_neg hc] at hf
        obtain ⟨x1, -, hf⟩ := bnd_ex hf
        exact (Fr.rfl (inM 999999 LX11_falses_t) _).trans (rX11_falses_41_t ih hf)
theorem rX11_falses_0_t {S' : mT} {r : Int32} {S : mT} (hf : fX11_falses true S = some (r, S')) : Fr (inM 999999 LX11_falses_t) S S' := by
  unfold fX11_falses at hf
  exact (Fr.rfl (inM 999999 LX11_falses_t) _).trans (rX11_falses_4_t _ _ _ _ hf)
theorem rX11_falses_t {S S' : mT} {r : Int32} (hf : fX11_falses true S = some (r, S')) : Fr (inM 999999 LX11_falses_t) S S' := rX11_falses_0_t hf
abbrev LX11_fault : List (Nat × Nat × Option Nat) := [(999999, 999999, none)]
theorem rX11_fault_57 {S' : mT} {r : Int32} {s0 : Int32} {S : mT} (hf : fX11_fault_57 s0 S = some (r, S')) : Fr (inM 999999 LX11_fault) S S' := by
  unfold fX11_fault_57 at hf
  cases hf
  exact (Fr.rfl (inM 999999 LX11_fault) _)
theorem rX11_fault_0 {S' : mT} {r : Int32} {v1 : Int32} {S : mT} (hf : fX11_fault v1 S = some (r, S')) : Fr (inM 999999 LX11_fault) S S' := by
  unfold fX11_fault at hf
  by_cases hc : (0 : Int) = v1.toInt
  · rw [if_pos hc] at hf
    obtain ⟨-, hf⟩ := grd_ex hf
    cases hf
    exact (Fr.rfl (inM 999999 LX11_fault) _)
  · rw [if_neg hc] at hf
    by_cases hc : (1 : Int) = v1.toInt
    · rw [if_pos hc] at hf
      obtain ⟨-, hf⟩ := grd_ex hf
      by_cases hc : (S.1 1 2) = 0
      · rw [if_pos hc] at hf
        exact (Fr.rfl (inM 999999 LX11_fault) _).trans (rX11_fault_57 hf)
      · rw [if_neg hc] at hf
        obtain ⟨-, hf⟩ := grd_ex hf
        exact (Fr.rfl (inM 999999 LX11_fault) _).trans (rX11_fault_57 hf)
    · rw [if_neg hc] at hf
      cases hf
      exact (Fr.rfl (inM 999999 LX11_fault) _)
theorem rX11_fault {v1 : Int32} {S S' : mT} {r : Int32} (hf : fX11_fault v1 S = some (r, S')) : Fr (inM 999999 LX11_fault) S S' := rX11_fault_0 hf
abbrev LX4_append : List (Nat × Nat × Option Nat) := [(999999, 999999, none), (1, 1, some 1), (2, 2, none)]
theorem rX4_append_46 {S' : mT} {S : mT} (hf : fX4_append_46 S = some S') : Fr (inM 999999 LX4_append) S S' := by
  unfold fX4_append_46 at hf
  cases hf
  exact (Fr.rfl (inM 999999 LX4_append) _)
theorem rX4_append_3 {S' : mT} : ∀ (k : Nat) (v1 : Int32) (v2 : Int32) (S : mT), fX4_append_3 k v1 v2 S = some S' → Fr (inM 999999 LX4_append) S S' := by
  intro k
  induction k with
  | zero =>
    intro v1 v2 S hf
    cases hf
  | succ k ih =>
    intro v1 v2 S hf
    unfold fX4_append_3 at hf
    by_cases hc : v2 < 0
    · rw [if_pos hc] at hf
      exact (Fr.rfl (inM 999999 LX4_append) _).trans (rX4_append_46 hf)
    · rw [if_neg hc] at hf
      obtain ⟨-, hf⟩ := grd_ex hf
      by_cases hc : (1600 : Int32) ≤ (S.1 1 1)
      · rw [if_pos hc] at hf
        exact (Fr.rfl (inM 999999 LX4_append) _).trans (rX4_append_46 hf)
      · rw [if_neg hc] at hf
        obtain ⟨-, hf⟩ := grd_ex hf
        obtain ⟨S1, eS1, hf⟩ := bnd_ex hf
        have F : Fr (inM 999999 LX4_append) S S1 := by
          rw [eS1]
          exact Fr.sI (Fr.rfl (inM 999999 LX4_append) _) rfl
        obtain ⟨-, hf⟩ := grd_ex hf
        obtain ⟨S2, eS2, hf⟩ := bnd_ex hf
        have F : Fr (inM 999999 LX4_append) S S2 := by
          rw [eS2]
          exact Fr.sI F rfl
        obtain ⟨x3, -, hf⟩ := bnd_ex hf
        exact F.trans (ih _ _ _ hf)
theorem rX4_append_0 {S' : mT} {v1 : Int32} {S : mT} (hf : fX4_append v1 S = some S') : Fr (inM 999999 LX4_append) S S' := by
  unfold fX4_append at hf
  exact (Fr.rfl (inM 999999 LX4_append) _).trans (rX4_append_3 _ _ _ _ hf)
theorem rX4_append {v1 : Int32} {S S' : mT} (hf : fX4_append v1 S = some S') : Fr (inM 999999 LX4_append) S S' := rX4_append_0 hf
abbrev LX11_feed : List (Nat × Nat × Option Nat) := [(999999, 999999, none), (1, 1, some 1), (2, 2, none)]
theorem rX11_feed_0 {S' : mT} {r : Int32} {v1 : Int32} {v2 : Int32} {v3 : Int32} {v4 : Int32} {v5 : Int32} {S : mT} (hf : fX11_feed v1 v2 v3 v4 v5 S = some (r, S')) : Fr (inM 999999 LX11_feed) S S' := by
  unfold fX11_feed at hf
  obtain ⟨-, hf⟩ := grd_ex hf
  by_cases hc : (S.1 1 1) ≤ (1580 : Int32)
  · rw [if_pos hc] at hf
    obtain ⟨-, hf⟩ := grd_ex hf
    obtain ⟨S1, hq, hf⟩ := bndV_ex hf
    have F := (Fr.rfl (inM 999999 LX11_feed) _).trans ((rX4_append hq).mono rfl (fun _ => rfl))
    obtain ⟨-, hf⟩ := grd_ex hf
    obtain ⟨S2, hq, hf⟩ := bndV_ex hf
    have F := F.trans ((rX4_append hq).mono rfl (fun _ => rfl))
    obtain ⟨-, hf⟩ := grd_ex hf
    obtain ⟨S3, hq, hf⟩ := bndV_ex hf
    have F := F.trans ((rX4_append hq).mono rfl (fun _ => rfl))
    obtain ⟨-, hf⟩ := grd_ex hf
    obtain ⟨S4, hq, hf⟩ := bndV_ex hf
    have F := F.trans ((rX4_append hq).mono rfl (fun _ => rfl))
    obtain ⟨-, hf⟩ := grd_ex hf
    obtain ⟨S5, hq, hf⟩ := bndV_ex hf
    have F := F.trans ((rX4_append hq).mono rfl (fun _ => rfl))
    obtain ⟨-, hf⟩ := grd_ex hf
    cases hf
    exact F
  · rw [if_neg hc] at hf
    cases hf
    exact (Fr.rfl (inM 999999 LX11_feed) _)
theorem rX11_feed {v1 : Int32} {v2 : Int32} {v3 : Int32} {v4 : Int32} {v5 : Int32} {S S' : mT} {r : Int32} (hf : fX11_feed v1 v2 v3 v4 v5 S = some (r, S')) : Fr (inM 999999 LX11_feed) S S' := rX11_feed_0 hf
abbrev LX11_leaveOne : List (Nat × Nat × Option Nat) := [(999999, 999999, none), (35, 35, none)]
theorem rX11_leaveOne_0 {S' : mT} {v1 : Int32} {S : mT} (hf : fX11_leaveOne v1 S = some S') : Fr (inM 999999 LX11_leaveOne) S S' := by
  unfold fX11_leaveOne at hf
  obtain ⟨-, hf⟩ := grd_ex hf
  obtain ⟨S1, eS1, hf⟩ := bnd_ex hf
  have F : Fr (inM 999999 LX11_leaveOne) S S1 := by
    rw [eS1]
    exact Fr.sI (Fr.rfl (inM 999999 LX11_leaveOne) _) rfl
  obtain ⟨-, hf⟩ := grd_ex hf
  obtain ⟨-, hf⟩ := grd_ex hf
  obtain ⟨x2, -, hf⟩ := bnd_ex hf
  obtain ⟨-, hf⟩ := grd_ex hf
  obtain ⟨S3, eS3, hf⟩ := bnd_ex hf
  have F : Fr (inM 999999 LX11_leaveOne) S S3 := by
    rw [eS3]
    exact Fr.sI F rfl
  cases hf
  exact F
theorem rX11_leaveOne {v1 : Int32} {S S' : mT} (hf : fX11_leaveOne v1 S = some S') : Fr (inM 999999 LX11_leaveOne) S S' := rX11_leaveOne_0 hf
abbrev LX11_goes_f : List (Nat × Nat × Option Nat) := [(999999, 999999, none), (35, 35, none), (37, 37, some 3), (37, 37, some 4), (37, 37, some 5), (39, 79, none)]
theorem rX11_goes_19_f {S' : mT} {r : Int32} {S : mT} (hf : fX11_goes_19 false S = some (r, S')) : Fr (inM 999999 LX11_goes_f) S S' := by
  unfold fX11_goes_19 at hf
  cases hf
  exact (Fr.rfl (inM 999999 LX11_goes_f) _)
theorem rX11_goes_0_f {S' : mT} {r : Int32} {v1 : Int32} {S : mT} (hf : fX11_goes false v1 S = some (r, S')) : Fr (inM 999999 LX11_goes_f) S S' := by
  unfold fX11_goes at hf
  obtain ⟨x2, S1, hq, hf⟩ := bndC_ex hf
  have F := (Fr.rfl (inM 999999 LX11_goes_f) _).trans ((rX11_isHouse_f hq).mono rfl (fun _ => rfl))
  by_cases hc : x2 = 0
  · rw [if_pos hc] at hf
    exact F.trans (rX11_goes_19_f hf)
  · rw [if_neg hc] at hf
    obtain ⟨-, hf⟩ := grd_ex hf
    by_cases hc : 0 < (S1.1 35 (mIx ((0 : Int32) + v1)))
    · rw [if_pos hc] at hf
      obtain ⟨S3, hq, hf⟩ := bndV_ex hf
      have F := F.trans ((rX11_leaveOne hq).mono rfl (fun _ => rfl))
      obtain ⟨-, hf⟩ := grd_ex hf
      obtain ⟨S4, hq, hf⟩ := bndV_ex hf
      have F := F.trans ((rX2_keep hq).mono rfl (fun _ => rfl))
      obtain ⟨-, hf⟩ := grd_ex hf
      cases hf
      exact F
    · rw [if_neg hc] at hf
      exact F.trans (rX11_goes_19_f hf)
theorem rX11_goes_f {v1 : Int32} {S S' : mT} {r : Int32} (hf : fX11_goes false v1 S = some (r, S')) : Fr (inM 999999 LX11_goes_f) S S' := rX11_goes_0_f hf
abbrev LX11_goes_t : List (Nat × Nat × Option Nat) := [(999999, 999999, none), (35, 35, none), (37, 37, some 3), (37, 37, some 4), (37, 37, some 5), (39, 79, none)]
theorem rX11_goes_19_t {S' : mT} {r : Int32} {S : mT} (hf : fX11_goes_19 true S = some (r, S')) : Fr (inM 999999 LX11_goes_t) S S' := by
  unfold fX11_goes_19 at hf
  cases hf
  exact (Fr.rfl (inM 999999 LX11_goes_t) _)
theorem rX11_goes_0_t {S' : mT} {r : Int32} {v1 : Int32} {S : mT} (hf : fX11_goes true v1 S = some (r, S')) : Fr (inM 999999 LX11_goes_t) S S' := by
  unfold fX11_goes at hf
  obtain ⟨x2, S1, hq, hf⟩ := bndC_ex hf
  have F := (Fr.rfl (inM 999999 LX11_goes_t) _).trans ((rX11_isHouse_t hq).mono rfl (fun _ => rfl))
  by_cases hc : x2 = 0
  · rw [if_pos hc] at hf
    exact F.trans (rX11_goes_19_t hf)
  · rw [if_neg hc] at hf
    obtain ⟨-, hf⟩ := grd_ex hf
    by_cases hc : 0 < (S1.1 35 (mIx ((0 : Int32) + v1)))
    · rw [if_pos hc] at hf
      obtain ⟨S3, hq, hf⟩ := bndV_ex hf
      have F := F.trans ((rX11_leaveOne hq).mono rfl (fun _ => rfl))
      obtain ⟨-, hf⟩ := grd_ex hf
      obtain ⟨S4, hq, hf⟩ := bndV_ex hf
      have F := F.trans ((rX2_keep hq).mono rfl (fun _ => rfl))
      obtain ⟨-, hf⟩ := grd_ex hf
      cases hf
      exact F
    · rw [if_neg hc] at hf
      exact F.trans (rX11_goes_19_t hf)
theorem rX11_goes_t {v1 : Int32} {S S' : mT} {r : Int32} (hf : fX11_goes true v1 S = some (r, S')) : Fr (inM 999999 LX11_goes_t) S S' := rX11_goes_0_t hf
abbrev LX11_hide_f : List (Nat × Nat × Option Nat) := [(999999, 999999, none), (35, 35, none), (37, 37, some 3), (37, 37, some 4), (37, 37, some 5), (39, 79, none)]
theorem rX11_hide_24_f {S' : mT} {r : Int32} {S : mT} (hf : fX11_hide_24 false S = some (r, S')) : Fr (inM 999999 LX11_hide_f) S S' := by
  unfold fX11_hide_24 at hf
  cases hf
  exact (Fr.rfl (inM 999999 LX11_hide_f) _)
theorem rX11_hide_0_f {S' : mT} {r : Int32} {v1 : Int32} {v2 : Int32} {S : mT} (hf : fX11_hide false v1 v2 S = some (r, S')) : Fr (inM 999999 LX11_hide_f) S S' := by
  unfold fX11_hide at hf
  obtain ⟨x2, S1, hq, hf⟩ := bndC_ex hf
  have F := (Fr.rfl (inM 999999 LX11_hide_f) _).trans ((rX11_isHouse_f hq).mono rfl (fun _ => rfl))
  by_cases hc : x2 = 0
  · rw [if_pos hc] at hf
    exact F.trans (rX11_hide_24_f hf)
  · rw [if_neg hc] at hf
    by_cases hc : v2 < 0
    · rw [if_pos hc] at hf
      exact F.trans (rX11_hide_24_f hf)
    · rw [if_neg hc] at hf
      obtain ⟨-, hf⟩ := grd_ex hf
      by_cases hc : v2 ≤ (S1.1 35 (mIx ((0 : Int32) + v1)))
      · rw [if_pos hc] at hf
        obtain ⟨-, hf⟩ := grd_ex hf
        obtain ⟨x3, -, hf⟩ := bnd_ex hf
        obtain ⟨-, hf⟩ := grd_ex hf
        obtain ⟨S4, eS4, hf⟩ := bnd_ex hf
        have F : Fr (inM 999999 LX11_hide_f) S S4 := by
          rw [eS4]
          exact Fr.sI F rfl
        obtain ⟨-, hf⟩ := grd_ex hf
        obtain ⟨S5, hq, hf⟩ := bndV_ex hf
        have F := F.trans ((rX2_keep hq).mono rfl (fun _ => rfl))
        cases hf
        exact F
      · rw [if_neg hc] at hf
        exact F.trans (rX11_hide_24_f hf)
theorem rX11_hide_f {v1 : Int32} {v2 : Int32} {S S' : mT} {r : Int32} (hf : fX11_hide false v1 v2 S = some (r, S')) : Fr (inM 999999 LX11_hide_f) S S' := rX11_hide_0_f hf
abbrev LX11_hide_t : List (Nat × Nat × Option Nat) := [(999999, 999999, none), (35, 35, none), (37, 37, some 3), (37, 37, some 4), (37, 37, some 5), (39, 79, none)]
theorem rX11_hide_24_t {S' : mT} {r : Int32} {S : mT} (hf : fX11_hide_24 true S = some (r, S')) : Fr (inM 999999 LX11_hide_t) S S' := by
  unfold fX11_hide_24 at hf
  cases hf
  exact (Fr.rfl (inM 999999 LX11_hide_t) _)
theorem rX11_hide_0_t {S' : mT} {r : Int32} {v1 : Int32} {v2 : Int32} {S : mT} (hf : fX11_hide true v1 v2 S = some (r, S')) : Fr (inM 999999 LX11_hide_t) S S' := by
  unfold fX11_hide at hf
  obtain ⟨x2, S1, hq, hf⟩ := bndC_ex hf
  have F := (Fr.rfl (inM 999999 LX11_hide_t) _).trans ((rX11_isHouse_t hq).mono rfl (fun _ => rfl))
  by_cases hc : x2 = 0
  · rw [if_pos hc] at hf
    exact F.trans (rX11_hide_24_t hf)
  · rw [if_neg hc] at hf
    by_cases hc : v2 < 0
    · rw [if_pos hc] at hf
      exact F.trans (rX11_hide_24_t hf)
    · rw [if_neg hc] at hf
      obtain ⟨-, hf⟩ := grd_ex hf
      by_cases hc : v2 ≤ (S1.1 35 (mIx ((0 : Int32) + v1)))
      · rw [if_pos hc] at hf
        obtain ⟨-, hf⟩ := grd_ex hf
        obtain ⟨x3, -, hf⟩ := bnd_ex hf
        obtain ⟨-, hf⟩ := grd_ex hf
        obtain ⟨S4, eS4, hf⟩ := bnd_ex hf
        have F : Fr (inM 999999 LX11_hide_t) S S4 := by
          rw [eS4]
          exact Fr.sI F rfl
        obtain ⟨-, hf⟩ := grd_ex hf
        obtain ⟨S5, hq, hf⟩ := bndV_ex hf
        have F := F.trans ((rX2_keep hq).mono rfl (fun _ => rfl))
        cases hf
        exact F
      · rw [if_neg hc] at hf
        exact F.trans (rX11_hide_24_t hf)
theorem rX11_hide_t {v1 : Int32} {v2 : Int32} {S S' : mT} {r : Int32} (hf : fX11_hide true v1 v2 S = some (r, S')) : Fr (inM 999999 LX11_hide_t) S S' := rX11_hide_0_t hf
abbrev LX2_fillBox : List (Nat × Nat × Option Nat) := [(999999, 999999, none), (81, 83, none), (84, 84, none)]
theorem rX2_fillBox_0 {a2 : Nat} {S' : mT} {v1 : Int32} {S : mT} (hf : fX2_fillBox a2 v1 S = some S') : Fr (inM 999999 LX2_fillBox) S S' := by
  unfold fX2_fillBox at hf
  obtain ⟨-, hf⟩ := grd_ex hf
  obtain ⟨S1, eS1, hf⟩ := bnd_ex hf
  have F : Fr (inM 999999 LX2_fillBox) S S1 := by
    rw [eS1]
    exact Fr.sC (Fr.rfl (inM 999999 LX2_fillBox) _) (fun _ => (inM_row 81 83 (rr_80 _) rfl rfl))
  obtain ⟨-, hf⟩ := grd_ex hf
  obtain ⟨S2, eS2, hf⟩ := bnd_ex hf
  have F : Fr (inM 999999 LX2_fillBox) S S2 := by
    rw [eS2]
    exact Fr.sI F rfl
  cases hf
  exact F
theorem rX2_fillBox {a2 : Nat} {v1 : Int32} {S S' : mT} (hf : fX2_fillBox a2 v1 S = some S') : Fr (inM 999999 LX2_fillBox) S S' := rX2_fillBox_0 hf
abbrev LX11_image : List (Nat × Nat × Option Nat) := [(999999, 999999, none), (81, 83, none), (84, 84, none)]
theorem rX11_image_0 {S' : mT} {r : Int32} {v1 : Int32} {S : mT} (hf : fX11_image v1 S = some (r, S')) : Fr (inM 999999 LX11_image) S S' := by
  unfold fX11_image at hf
  obtain ⟨x2, S1, hq, hf⟩ := bndC_ex hf
  have F := (Fr.rfl (inM 999999 LX11_image) _).trans ((rX11_isWithin hq).mono rfl (fun _ => rfl))
  by_cases hc : x2 = 0
  · rw [if_pos hc] at hf
    cases hf
    exact F
  · rw [if_neg hc] at hf
    obtain ⟨-, hf⟩ := grd_ex hf
    obtain ⟨S3, hq, hf⟩ := bndV_ex hf
    have F := F.trans ((rX2_fillBox hq).mono rfl (fun _ => rfl))
    obtain ⟨-, hf⟩ := grd_ex hf
    cases hf
    exact F
theorem rX11_image {v1 : Int32} {S S' : mT} {r : Int32} (hf : fX11_image v1 S = some (r, S')) : Fr (inM 999999 LX11_image) S S' := rX11_image_0 hf
abbrev LX5_countingAt : List (Nat × Nat × Option Nat) := [(999999, 999999, none)]
theorem rX5_countingAt_60 {S' : mT} {r : Int32} {rc4 : Int32 → Int32 → Int32 → mT → Option (Int32 × mT)} (Hrc4 : ∀ (v1 : Int32) (v2 : Int32) (v3 : Int32) (S : mT), rc4 v1 v2 v3 S = some (r, S') → Fr (inM 999999 LX5_countingAt) S S') {v1 : Int32} {v2 : Int32} {v3 : Int32} {S : mT} (hf : fX5_countingAt_60 rc4 v1 v2 v3 S = some (r, S')) : Fr (inM 999999 LX5_countingAt) S S' := by
  unfold fX5_countingAt_60 at hf
  obtain ⟨x2, -, hf⟩ := bnd_ex hf
  exact (Fr.rfl (inM 999999 LX5_countingAt) _).trans (Hrc4 _ _ _ _ hf)
theorem rX5_countingAt_37 {S' : mT} {r : Int32} {rc4 : Int32 → Int32 → Int32 → mT → Option (Int32 × mT)} (Hrc4 : ∀ (v1 : Int32) (v2 : Int32) (v3 : Int32) (S : mT), rc4 v1 v2 v3 S = some (r, S') → Fr (inM 999999 LX5_countingAt) S S') {v1 : Int32} {v2 : Int32} {v3 : Int32} {s0 : Int32} {S : mT} (hf : fX5_countingAt_37 rc4 v1 v2 v3 s0 S = some (r, S')) : Fr (inM 999999 LX5_countingAt) S S' := by
  unfold fX5_countingAt_37 at hf
  obtain ⟨-, hf⟩ := grd_ex hf
  by_cases hc : v1 < (S.1 118 (mIx v3))
  · rw [if_pos hc] at hf
    exact (Fr.rfl (inM 999999 LX5_countingAt) _).trans (rX5_countingAt_60 Hrc4 hf)
  · rw [if_neg hc] at hf
    by_cases hc : s0 = 0
    · rw [if_pos hc] at hf
      obtain ⟨x1, -, hf⟩ := bnd_ex hf
      exact (Fr.rfl (inM 999999 LX5_countingAt) _).trans (rX5_countingAt_60 Hrc4 hf)
    · rw [if_neg hc] at hf
      exact (Fr.rfl (inM 999999 LX5_countingAt) _).trans (rX5_countingAt_60 Hrc4 hf)
theorem rX5_countingAt_36 {S' : mT} {r : Int32} {rc4 : Int32 → Int32 → Int32 → mT → Option (Int32 × mT)} (Hrc4 : ∀ (v1 : Int32) (v2 : Int32) (v3 : Int32) (S : mT), rc4 v1 v2 v3 S = some (r, S') → Fr (inM 999999 LX5_countingAt) S S') {v1 : Int32} {v2 : Int32} {v3 : Int32} {S : mT} (hf : fX5_countingAt_36 rc4 v1 v2 v3 S = some (r, S')) : Fr (inM 999999 LX5_countingAt) S S' := by
  unfold fX5_countingAt_36 at hf
  exact (Fr.rfl (inM 999999 LX5_countingAt) _).trans (rX5_countingAt_37 Hrc4 hf)
theorem rX5_countingAt_4 {S' : mT} {r : Int32} : ∀ (k : Nat) (v1 : Int32) (v2 : Int32) (v3 : Int32) (S : mT), fX5_countingAt_4 k v1 v2 v3 S = some (r, S') → Fr (inM 999999 LX5_countingAt) S S' := by
  intro k
  induction k with
  | zero =>
    intro v1 v2 v3 S hf
    cases hf
  | succ k ih =>
    intro v1 v2 v3 S hf
    unfold fX5_countingAt_4 at hf
    obtain ⟨-, hf⟩ := grd_ex hf
    by_cases hc : (S.1 114 5) ≤ v3
    · rw [if_pos hc] at hf
      cases hf
      exact (Fr.rfl (inM 999999 LX5_countingAt) _)
    · rw [if_neg hc] at hf
      obtain ⟨-, hf⟩ := grd_ex hf
      by_cases hc : (S.1 119 (mIx v3)) = (-1 : Int32)
      · rw [if_pos hc] at hf
        exact (Fr.rfl (inM 999999 LX5_countingAt) _).trans (rX5_countingAt_36 ih hf)
      · rw [if_neg hc] at hf
        obtain ⟨-, hf⟩ := grd_ex hf
        by_cases hc : v1 < (S.1 119 (mIx v3))
        · rw [if_pos hc] at hf
          exact (Fr.rfl (inM 999999 LX5_countingAt) _).trans (rX5_countingAt_36 ih hf)
        · rw [if_neg hc] at hf
          exact (Fr.rfl (inM 999999 LX5_countingAt) _).trans (rX5_countingAt_37 ih hf)
theorem rX5_countingAt_0 {S' : mT} {r : Int32} {v1 : Int32} {S : mT} (hf : fX5_countingAt v1 S = some (r, S')) : Fr (inM 999999 LX5_countingAt) S S' := by
  unfold fX5_countingAt at hf
  exact (Fr.rfl (inM 999999 LX5_countingAt) _).trans (rX5_countingAt_4 _ _ _ _ _ hf)
theorem rX5_countingAt {v1 : Int32} {S S' : mT} {r : Int32} (hf : fX5_countingAt v1 S = some (r, S')) : Fr (inM 999999 LX5_countingAt) S S' := rX5_countingAt_0 hf
abbrev LX11_learn_f : List (Nat × Nat × Option Nat) := [(999999, 999999, none), (120, 120, some 8), (120, 120, some 9), (120, 120, some 10), (120, 120, some 11), (120, 120, some 12), (120, 120, some 13), (120, 120, some 14), (122, 126, none), (127, 127, none), (128, 128, none), (130, 130, none), (132, 136, none), (137, 137, none)]
theorem rX11_learn_0_f {S' : mT} {v1 : Int32} {S : mT} (hf : fX11_learn false v1 S = some S') : Fr (inM 999999 LX11_learn_f) S S' := by
  unfold fX11_learn at hf
  obtain ⟨-, hf⟩ := grd_ex hf
  obtain ⟨x2, S1, hq, hf⟩ := bndC_ex hf
  have F := (Fr.rfl (inM 999999 LX11_learn_f) _).trans ((rX5_countingAt hq).mono rfl (fun _ => rfl))
  obtain ⟨-, hf⟩ := grd_ex hf
  obtain ⟨S3, hq, hf⟩ := bndV_ex hf
  have F := F.trans ((rX10_learn hq).mono rfl (fun _ => rfl))
  cases hf
  exact F
theorem rX11_learn_f {v1 : Int32} {S S' : mT} (hf : fX11_learn false v1 S = some S') : Fr (inM 999999 LX11_learn_f) S S' := rX11_learn_0_f hf
abbrev LX11_learn_t : List (Nat × Nat × Option Nat) := [(999999, 999999, none), (120, 120, some 8), (120, 120, some 9), (120, 120, some 10), (120, 120, some 11), (120, 120, some 12), (120, 120, some 13), (120, 120, some 14), (122, 126, none), (127, 127, none), (128, 128, none), (130, 130, none), (132, 136, none), (137, 137, none)]
theorem rX11_learn_0_t {S' : mT} {v1 : Int32} {S : mT} (hf : fX11_learn true v1 S = some S') : Fr (inM 999999 LX11_learn_t) S S' := by
  unfold fX11_learn at hf
  obtain ⟨-, hf⟩ := grd_ex hf
  obtain ⟨x2, S1, hq, hf⟩ := bndC_ex hf
  have F := (Fr.rfl (inM 999999 LX11_learn_t) _).trans ((rX5_countingAt hq).mono rfl (fun _ => rfl))
  obtain ⟨-, hf⟩ := grd_ex hf
  obtain ⟨S3, hq, hf⟩ := bndV_ex hf
  have F := F.trans ((rX10_learn hq).mono rfl (fun _ => rfl))
  cases hf
  exact F
theorem rX11_learn_t {v1 : Int32} {S S' : mT} (hf : fX11_learn true v1 S = some S') : Fr (inM 999999 LX11_learn_t) S S' := rX11_learn_0_t hf
abbrev LX11_knock_f : List (Nat × Nat × Option Nat) := [(999999, 999999, none), (120, 120, some 8), (120, 120, some 9), (120, 120, some 10), (120, 120, some 11), (120, 120, some 12), (120, 120, some 13), (120, 120, some 14), (122, 126, none), (127, 127, none), (128, 128, none), (130, 130, none), (132, 136, none), (137, 137, none)]
theorem rX11_knock_19_f {S' : mT} {r : Int32} {S : mT} (hf : fX11_knock_19 false S = some (r, S')) : Fr (inM 999999 LX11_knock_f) S S' := by
  unfold fX11_knock_19 at hf
  cases hf
  exact (Fr.rfl (inM 999999 LX11_knock_f) _)
theorem rX11_knock_62_f {S' : mT} {r : Int32} {s0 : Int32} {S : mT} (hf : fX11_knock_62 false s0 S = some (r, S')) : Fr (inM 999999 LX11_knock_f) S S' := by
  unfold fX11_knock_62 at hf
  cases hf
  exact (Fr.rfl (inM 999999 LX11_knock_f) _)
theorem rX11_knock_0_f {S' : mT} {r : Int32} {v1 : Int32} {v2 : Int32} {S : mT} (hf : fX11_knock false v1 v2 S = some (r, S')) : Fr (inM 999999 LX11_knock_f) S S' := by
  unfold fX11_knock at hf
  obtain ⟨x2, S1, hq, hf⟩ := bndC_ex hf
  have F := (Fr.rfl (inM 999999 LX11_knock_f) _).trans ((rX11_isWithin hq).mono rfl (fun _ => rfl))
  by_cases hc : x2 = 0
  · rw [if_pos hc] at hf
    exact F.trans (rX11_knock_19_f hf)
  · rw [if_neg hc] at hf
    obtain ⟨-, hf⟩ := grd_ex hf
    by_cases hc : (S1.1 (shU false) 9) = 0
    · rw [if_pos hc] at hf
      exact F.trans (rX11_knock_19_f hf)
    · rw [if_neg hc] at hf
      obtain ⟨S3, hq, hf⟩ := bndV_ex hf
      have F := F.trans ((rX11_learn_f hq).mono rfl (fun _ => rfl))
      obtain ⟨-, hf⟩ := grd_ex hf
      by_cases hc : (S3.1 120 8) = 0
      · rw [if_pos hc] at hf
        cases hf
        exact F
      · rw [if_neg hc] at hf
        obtain ⟨-, hf⟩ := grd_ex hf
        obtain ⟨x5, S4, hq, hf⟩ := bndC_ex hf
        have F := F.trans ((rX10_bestToSee hq).mono rfl (fun _ => rfl))
        by_cases hc : v1 = 0
        · rw [if_pos hc] at hf
          exact F.trans (rX11_knock_62_f hf)
        · rw [if_neg hc] at hf
          obtain ⟨-, hf⟩ := grd_ex hf
          obtain ⟨x7, S6, hq, hf⟩ := bndC_ex hf
          have F := F.trans ((rX10_leftBySeeing hq).mono rfl (fun _ => rfl))
          exact F.trans (rX11_knock_62_f hf)
theorem rX11_knock_f {v1 : Int32} {v2 : Int32} {S S' : mT} {r : Int32} (hf : fX11_knock false v1 v2 S = some (r, S')) : Fr (inM 999999 LX11_knock_f) S S' := rX11_knock_0_f hf
abbrev LX11_knock_t : List (Nat × Nat × Option Nat) := [(999999, 999999, none), (120, 120, some 8), (120, 120, some 9), (120, 120, some 10), (120, 120, some 11), (120, 120, some 12), (120, 120, some 13), (120, 120, some 14), (122, 126, none), (127, 127, none), (128, 128, none), (130, 130, none), (132, 136, none), (137, 137, none)]
theorem rX11_knock_19_t {S' : mT} {r : Int32} {S : mT} (hf : fX11_knock_19 true S = some (r, S')) : Fr (inM 999999 LX11_knock_t) S S' := by
  unfold fX11_knock_19 at hf
  cases hf
  exact (Fr.rfl (inM 999999 LX11_knock_t) _)
theorem rX11_knock_62_t {S' : mT} {r : Int32} {s0 : Int32} {S : mT} (hf : fX11_knock_62 true s0 S = some (r, S')) : Fr (inM 999999 LX11_knock_t) S S' := by
  unfold fX11_knock_62 at hf
  cases hf
  exact (Fr.rfl (inM 999999 LX11_knock_t) _)
theorem rX11_knock_0_t {S' : mT} {r : Int32} {v1 : Int32} {v2 : Int32} {S : mT} (hf : fX11_knock true v1 v2 S = some (r, S')) : Fr (inM 999999 LX11_knock_t) S S' := by
  unfold fX11_knock at hf
  obtain ⟨x2, S1, hq, hf⟩ := bndC_ex hf
  have F := (Fr.rfl (inM 999999 LX11_knock_t) _).trans ((rX11_isWithin hq).mono rfl (fun _ => rfl))
  by_cases hc : x2 = 0
  · rw [if_pos hc] at hf
    exact F.trans (rX11_knock_19_t hf)
  · rw [if_neg hc] at hf
    obtain ⟨-, hf⟩ := grd_ex hf
    by_cases hc : (S1.1 (shU true) 9) = 0
    · rw [if_pos hc] at hf
      exact F.trans (rX11_knock_19_t hf)
    · rw [if_neg hc] at hf
      obtain ⟨S3, hq, hf⟩ := bndV_ex hf
      have F := F.trans ((rX11_learn_t hq).mono rfl (fun _ => rfl))
      obtain ⟨-, hf⟩ := grd_ex hf
      by_cases hc : (S3.1 120 8) = 0
      · rw [if_pos hc] at hf
        cases hf
        exact F
      · rw [if_neg hc] at hf
        obtain ⟨-, hf⟩ := grd_ex hf
        obtain ⟨x5, S4, hq, hf⟩ := bndC_ex hf
        have F := F.trans ((rX10_bestToSee hq).mono rfl (fun _ => rfl))
        by_cases hc : v1 = 0
        · rw [if_pos hc] at hf
          exact F.trans (rX11_knock_62_t hf)
        · rw [if_neg hc] at hf
          obtain ⟨-, hf⟩ := grd_ex hf
          obtain ⟨x7, S6, hq, hf⟩ := bndC_ex hf
          have F := F.trans ((rX10_leftBySeeing hq).mono rfl (fun _ => rfl))
          exact F.trans (rX11_knock_62_t hf)
theorem rX11_knock_t {v1 : Int32} {v2 : Int32} {S S' : mT} {r : Int32} (hf : fX11_knock true v1 v2 S = some (r, S')) : Fr (inM 999999 LX11_knock_t) S S' := rX11_knock_0_t hf
abbrev LX11_later : List (Nat × Nat × Option Nat) := [(999999, 999999, none), (0, 0, some 14)]
theorem rX11_later_22 {S' : mT} {r : Int32} {S : mT} (hf : fX11_later_22 S = some (r, S')) : Fr (inM 999999 LX11_later) S S' := by
  unfold fX11_later_22 at hf
  cases hf
  exact (Fr.rfl (inM 999999 LX11_later) _)
theorem rX11_later_0 {S' : mT} {r : Int32} {v1 : Int32} {S : mT} (hf : fX11_later v1 S = some (r, S')) : Fr (inM 999999 LX11_later) S S' := by
  unfold fX11_later at hf
  obtain ⟨x2, S1, hq, hf⟩ := bndC_ex hf
  have F := (Fr.rfl (inM 999999 LX11_later) _).trans ((rX11_isWithin hq).mono rfl (fun _ => rfl))
  by_cases hc : x2 = 0
  · rw [if_pos hc] at hf
    exact F.trans (rX11_later_22 hf)
  · rw [if_neg hc] at hf
    obtain ⟨-, hf⟩ := grd_ex hf
    by_cases hc : ((S1.1 0 14) + v1) ≤ (100000 : Int32)
    · rw [if_pos hc] at hf
      obtain ⟨-, hf⟩ := grd_ex hf
      obtain ⟨S3, eS3, hf⟩ := bnd_ex hf
      have F : Fr (inM 999999 LX11_later) S S3 := by
        rw [eS3]
        exact Fr.sI F rfl
      obtain ⟨-, hf⟩ := grd_ex hf
      cases hf
      exact F
    · rw [if_neg hc] at hf
      exact F.trans (rX11_later_22 hf)
theorem rX11_later {v1 : Int32} {S S' : mT} {r : Int32} (hf : fX11_later v1 S = some (r, S')) : Fr (inM 999999 LX11_later) S S' := rX11_later_0 hf
abbrev LX1_leastTax : List (Nat × Nat × Option Nat) := [(999999, 999999, none)]
theorem rX1_leastTax_18 {S' : mT} {r : Int32} {rc4 : Int32 → Int32 → mT → Option (Int32 × mT)} (Hrc4 : ∀ (v1 : Int32) (v2 : Int32) (S : mT), rc4 v1 v2 S = some (r, S') → Fr (inM 999999 LX1_leastTax) S S') : ∀ (k : Nat) (v1 : Int32) (v2 : Int32) (v3 : Int32) (v4 : Int32) (S : mT), fX1_leastTax_18 rc4 k v1 v2 v3 v4 S = some (r, S') → Fr (inM 999999 LX1_leastTax) S S' := by
  intro k
  induction k with
  | zero =>
    intro v1 v2 v3 v4 S hf
    cases hf
  | succ k ih =>
    intro v1 v2 v3 v4 S hf
    unfold fX1_leastTax_18 at hf
    by_cases hc : (7 : Int32) < v4
    · rw [if_pos hc] at hf
      by_cases hc : v3 < (1000000 : Int32)
      · rw [if_pos hc] at hf
        obtain ⟨x1, -, hf⟩ := bnd_ex hf
        obtain ⟨x2, -, hf⟩ := bnd_ex hf
        exact (Fr.rfl (inM 999999 LX1_leastTax) _).trans (Hrc4 _ _ _ hf)
      · rw [if_neg hc] at hf
        cases hf
        exact (Fr.rfl (inM 999999 LX1_leastTax) _)
    · rw [if_neg hc] at hf
      obtain ⟨-, hf⟩ := grd_ex hf
      obtain ⟨x3, -, hf⟩ := bnd_ex hf
      obtain ⟨x4, -, hf⟩ := bnd_ex hf
      exact (Fr.rfl (inM 999999 LX1_leastTax) _).trans (ih _ _ _ _ _ hf)
theorem rX1_leastTax_4 {S' : mT} {r : Int32} : ∀ (k : Nat) (v1 : Int32) (v2 : Int32) (S : mT), fX1_leastTax_4 k v1 v2 S = some (r, S') → Fr (inM 999999 LX1_leastTax) S S' := by
  intro k
  induction k with
  | zero =>
    intro v1 v2 S hf
    cases hf
  | succ k ih =>
    intro v1 v2 S hf
    unfold fX1_leastTax_4 at hf
    obtain ⟨-, hf⟩ := grd_ex hf
    by_cases hc : (S.1 85 3) ≤ v2
    · rw [if_pos hc] at hf
      cases hf
      exact (Fr.rfl (inM 999999 LX1_leastTax) _)
    · rw [if_neg hc] at hf
      exact (Fr.rfl (inM 999999 LX1_leastTax) _).trans (rX1_leastTax_18 ih _ _ _ _ _ _ hf)
theorem rX1_leastTax_0 {S' : mT} {r : Int32} {S : mT} (hf : fX1_leastTax S = some (r, S')) : Fr (inM 999999 LX1_leastTax) S S' := by
  unfold fX1_leastTax at hf
  exact (Fr.rfl (inM 999999 LX1_leastTax) _).trans (rX1_leastTax_4 _ _ _ _ hf)
theorem rX1_leastTax {S S' : mT} {r : Int32} (hf : fX1_leastTax S = some (r, S')) : Fr (inM 999999 LX1_leastTax) S S' := rX1_leastTax_0 hf
abbrev LX1_taxHiding_3 : List (Nat × Nat × Option Nat) := [(999999, 999999, none), (11, 11, none), (14, 14, none), (18, 18, none)]
theorem rX1_taxHiding_36_3 {a1 : Nat} {S' : mT} {r : Int32} {s0 : Int32} {S : mT} (hf : fX1_taxHiding_36 3 a1 s0 S = some (r, S')) : Fr (inM 999999 LX1_taxHiding_3) S S' := by
  unfold fX1_taxHiding_36 at hf
  cases hf
  exact (Fr.rfl (inM 999999 LX1_taxHiding_3) _)
theorem rX1_taxHiding_0_3 {a1 : Nat} {S' : mT} {r : Int32} {v2 : Int32} {v3 : Int32} {S : mT} (hf : fX1_taxHiding 3 a1 v2 v3 S = some (r, S')) : Fr (inM 999999 LX1_taxHiding_3) S S' := by
  unfold fX1_taxHiding at hf
  obtain ⟨x2, S1, hq, hf⟩ := bndC_ex hf
  have F := (Fr.rfl (inM 999999 LX1_taxHiding_3) _).trans ((rX8_stonesHiding_3 hq).mono rfl (fun _ => rfl))
  obtain ⟨-, hf⟩ := grd_ex hf
  by_cases hc : (S1.1 (3 + 4) (mIx v2)) ≤ x2
  · rw [if_pos hc] at hf
    obtain ⟨-, hf⟩ := grd_ex hf
    obtain ⟨x4, S3, hq, hf⟩ := bndC_ex hf
    have F := F.trans ((rX8_taxOf_3 hq).mono rfl (fun _ => rfl))
    exact F.trans (rX1_taxHiding_36_3 hf)
  · rw [if_neg hc] at hf
    exact F.trans (rX1_taxHiding_36_3 hf)
theorem rX1_taxHiding_3 {a1 : Nat} {v2 : Int32} {v3 : Int32} {S S' : mT} {r : Int32} (hf : fX1_taxHiding 3 a1 v2 v3 S = some (r, S')) : Fr (inM 999999 LX1_taxHiding_3) S S' := rX1_taxHiding_0_3 hf
abbrev LX1_taxHiding_19 : List (Nat × Nat × Option Nat) := [(999999, 999999, none), (27, 27, none), (30, 30, none), (34, 34, none)]
theorem rX1_taxHiding_36_19 {a1 : Nat} {S' : mT} {r : Int32} {s0 : Int32} {S : mT} (hf : fX1_taxHiding_36 19 a1 s0 S = some (r, S')) : Fr (inM 999999 LX1_taxHiding_19) S S' := by
  unfold fX1_taxHiding_36 at hf
  cases hf
  exact (Fr.rfl (inM 999999 LX1_taxHiding_19) _)
theorem rX1_taxHiding_0_19 {a1 : Nat} {S' : mT} {r : Int32} {v2 : Int32} {v3 : Int32} {S : mT} (hf : fX1_taxHiding 19 a1 v2 v3 S = some (r, S')) : Fr (inM 999999 LX1_taxHiding_19) S S' := by
  unfold fX1_taxHiding at hf
  obtain ⟨x2, S1, hq, hf⟩ := bndC_ex hf
  have F := (Fr.rfl (inM 999999 LX1_taxHiding_19) _).trans ((rX8_stonesHiding_19 hq).mono rfl (fun _ => rfl))
  obtain ⟨-, hf⟩ := grd_ex hf
  by_cases hc : (S1.1 (19 + 4) (mIx v2)) ≤ x2
  · rw [if_pos hc] at hf
    obtain ⟨-, hf⟩ := grd_ex hf
    obtain ⟨x4, S3, hq, hf⟩ := bndC_ex hf
    have F := F.trans ((rX8_taxOf_19 hq).mono rfl (fun _ => rfl))
    exact F.trans (rX1_taxHiding_36_19 hf)
  · rw [if_neg hc] at hf
    exact F.trans (rX1_taxHiding_36_19 hf)
theorem rX1_taxHiding_19 {a1 : Nat} {v2 : Int32} {v3 : Int32} {S S' : mT} {r : Int32} (hf : fX1_taxHiding 19 a1 v2 v3 S = some (r, S')) : Fr (inM 999999 LX1_taxHiding_19) S S' := rX1_taxHiding_0_19 hf
abbrev LX1_look_3 : List (Nat × Nat × Option Nat) := [(999999, 999999, none), (11, 11, none), (14, 14, none), (18, 18, none), (85, 85, some 3), (87, 91, none)]
theorem rX1_look_59_3 {a2 : Nat} {S' : mT} {rc10 : Int32 → mT → Option (mT)} (Hrc10 : ∀ (v3 : Int32) (S : mT), rc10 v3 S = some S' → Fr (inM 999999 LX1_look_3) S S') {rc21 : Int32 → Int32 → mT → Option (mT)} (Hrc21 : ∀ (v3 : Int32) (v4 : Int32) (S : mT), rc21 v3 v4 S = some S' → Fr (inM 999999 LX1_look_3) S S') {v3 : Int32} {v4 : Int32} {s0 : Int32} {s1 : Int32} {S : mT} (hf : fX1_look_59 3 a2 rc10 rc21 v3 v4 s0 s1 S = some S') : Fr (inM 999999 LX1_look_3) S S' := by
  unfold fX1_look_59 at hf
  obtain ⟨-, hf⟩ := grd_ex hf
  obtain ⟨S5, eS5, hf⟩ := bnd_ex hf
  have F : Fr (inM 999999 LX1_look_3) S S5 := by
    rw [eS5]
    exact Fr.sI (Fr.rfl (inM 999999 LX1_look_3) _) (inM_row 87 91 (rr_86 _) rfl rfl)
  obtain ⟨x6, -, hf⟩ := bnd_ex hf
  exact F.trans (Hrc21 _ _ _ hf)
theorem rX1_look_21_3 {a2 : Nat} {S' : mT} {rc10 : Int32 → mT → Option (mT)} (Hrc10 : ∀ (v3 : Int32) (S : mT), rc10 v3 S = some S' → Fr (inM 999999 LX1_look_3) S S') : ∀ (k : Nat) (v3 : Int32) (v4 : Int32) (S : mT), fX1_look_21 3 a2 rc10 k v3 v4 S = some S' → Fr (inM 999999 LX1_look_3) S S' := by
  intro k
  induction k with
  | zero =>
    intro v3 v4 S hf
    cases hf
  | succ k ih =>
    intro v3 v4 S hf
    unfold fX1_look_21 at hf
    by_cases hc : (7 : Int32) < v4
    · rw [if_pos hc] at hf
      obtain ⟨x2, -, hf⟩ := bnd_ex hf
      exact (Fr.rfl (inM 999999 LX1_look_3) _).trans (Hrc10 _ _ hf)
    · rw [if_neg hc] at hf
      obtain ⟨-, hf⟩ := grd_ex hf
      obtain ⟨-, hf⟩ := grd_ex hf
      by_cases hc : (S.1 a2 (mIx ((0 : Int32) + v3))) < v4
      · rw [if_pos hc] at hf
        exact (Fr.rfl (inM 999999 LX1_look_3) _).trans (rX1_look_59_3 Hrc10 ih hf)
      · rw [if_neg hc] at hf
        obtain ⟨x4, S3, hq, hf⟩ := bndC_ex hf
        have F := (Fr.rfl (inM 999999 LX1_look_3) _).trans ((rX1_taxHiding_3 hq).mono rfl (fun _ => rfl))
        exact F.trans (rX1_look_59_3 Hrc10 ih hf)
theorem rX1_look_10_3 {a2 : Nat} {S' : mT} : ∀ (k : Nat) (v3 : Int32) (S : mT), fX1_look_10 3 a2 k v3 S = some S' → Fr (inM 999999 LX1_look_3) S S' := by
  intro k
  induction k with
  | zero =>
    intro v3 S hf
    cases hf
  | succ k ih =>
    intro v3 S hf
    unfold fX1_look_10 at hf
    obtain ⟨-, hf⟩ := grd_ex hf
    by_cases hc : (S.1 85 3) ≤ v3
    · rw [if_pos hc] at hf
      cases hf
      exact (Fr.rfl (inM 999999 LX1_look_3) _)
    · rw [if_neg hc] at hf
      exact (Fr.rfl (inM 999999 LX1_look_3) _).trans (rX1_look_21_3 ih _ _ _ _ hf)
theorem rX1_look_0_3 {a2 : Nat} {S' : mT} {S : mT} (hf : fX1_look 3 a2 S = some S') : Fr (inM 999999 LX1_look_3) S S' := by
  unfold fX1_look at hf
  obtain ⟨-, hf⟩ := grd_ex hf
  obtain ⟨S1, eS1, hf⟩ := bnd_ex hf
  have F : Fr (inM 999999 LX1_look_3) S S1 := by
    rw [eS1]
    exact Fr.sI (Fr.rfl (inM 999999 LX1_look_3) _) rfl
  exact F.trans (rX1_look_10_3 _ _ _ hf)
theorem rX1_look_3 {a2 : Nat} {S S' : mT} (hf : fX1_look 3 a2 S = some S') : Fr (inM 999999 LX1_look_3) S S' := rX1_look_0_3 hf
abbrev LX1_look_19 : List (Nat × Nat × Option Nat) := [(999999, 999999, none), (27, 27, none), (30, 30, none), (34, 34, none), (85, 85, some 3), (87, 91, none)]
theorem rX1_look_59_19 {a2 : Nat} {S' : mT} {rc10 : Int32 → mT → Option (mT)} (Hrc10 : ∀ (v3 : Int32) (S : mT), rc10 v3 S = some S' → Fr (inM 999999 LX1_look_19) S S') {rc21 : Int32 → Int32 → mT → Option (mT)} (Hrc21 : ∀ (v3 : Int32) (v4 : Int32) (S : mT), rc21 v3 v4 S = some S' → Fr (inM 999999 LX1_look_19) S S') {v3 : Int32} {v4 : Int32} {s0 : Int32} {s1 : Int32} {S : mT} (hf : fX1_look_59 19 a2 rc10 rc21 v3 v4 s0 s1 S = some S') : Fr (inM 999999 LX1_look_19) S S' := by
  unfold fX1_look_59 at hf
  obtain ⟨-, hf⟩ := grd_ex hf
  obtain ⟨S5, eS5, hf⟩ := bnd_ex hf
  have F : Fr (inM 999999 LX1_look_19) S S5 := by
    rw [eS5]
    exact Fr.sI (Fr.rfl (inM 999999 LX1_look_19) _) (inM_row 87 91 (rr_86 _) rfl rfl)
  obtain ⟨x6, -, hf⟩ := bnd_ex hf
  exact F.trans (Hrc21 _ _ _ hf)
theorem rX1_look_21_19 {a2 : Nat} {S' : mT} {rc10 : Int32 → mT → Option (mT)} (Hrc10 : ∀ (v3 : Int32) (S : mT), rc10 v3 S = some S' → Fr (inM 999999 LX1_look_19) S S') : ∀ (k : Nat) (v3 : Int32) (v4 : Int32) (S : mT), fX1_look_21 19 a2 rc10 k v3 v4 S = some S' → Fr (inM 999999 LX1_look_19) S S' := by
  intro k
  induction k with
  | zero =>
    intro v3 v4 S hf
    cases hf
  | succ k ih =>
    intro v3 v4 S hf
    unfold fX1_look_21 at hf
    by_cases hc : (7 : Int32) < v4
    · rw [if_pos hc] at hf
      obtain ⟨x2, -, hf⟩ := bnd_ex hf
      exact (Fr.rfl (inM 999999 LX1_look_19) _).trans (Hrc10 _ _ hf)
    · rw [if_neg hc] at hf
      obtain ⟨-, hf⟩ := grd_ex hf
      obtain ⟨-, hf⟩ := grd_ex hf
      by_cases hc : (S.1 a2 (mIx ((0 : Int32) + v3))) < v4
      · rw [if_pos hc] at hf
        exact (Fr.rfl (inM 999999 LX1_look_19) _).trans (rX1_look_59_19 Hrc10 ih hf)
      · rw [if_neg hc] at hf
        obtain ⟨x4, S3, hq, hf⟩ := bndC_ex hf
        have F := (Fr.rfl (inM 999999 LX1_look_19) _).trans ((rX1_taxHiding_19 hq).mono rfl (fun _ => rfl))
        exact F.trans (rX1_look_59_19 Hrc10 ih hf)
theorem rX1_look_10_19 {a2 : Nat} {S' : mT} : ∀ (k : Nat) (v3 : Int32) (S : mT), fX1_look_10 19 a2 k v3 S = some S' → Fr (inM 999999 LX1_look_19) S S' := by
  intro k
  induction k with
  | zero =>
    intro v3 S hf
    cases hf
  | succ k ih =>
    intro v3 S hf
    unfold fX1_look_10 at hf
    obtain ⟨-, hf⟩ := grd_ex hf
    by_cases hc : (S.1 85 3) ≤ v3
    · rw [if_pos hc] at hf
      cases hf
      exact (Fr.rfl (inM 999999 LX1_look_19) _)
    · rw [if_neg hc] at hf
      exact (Fr.rfl (inM 999999 LX1_look_19) _).trans (rX1_look_21_19 ih _ _ _ _ hf)
theorem rX1_look_0_19 {a2 : Nat} {S' : mT} {S : mT} (hf : fX1_look 19 a2 S = some S') : Fr (inM 999999 LX1_look_19) S S' := by
  unfold fX1_look at hf
  obtain ⟨-, hf⟩ := grd_ex hf
  obtain ⟨S1, eS1, hf⟩ := bnd_ex hf
  have F : Fr (inM 999999 LX1_look_19) S S1 := by
    rw [eS1]
    exact Fr.sI (Fr.rfl (inM 999999 LX1_look_19) _) rfl
  exact F.trans (rX1_look_10_19 _ _ _ hf)
theorem rX1_look_19 {a2 : Nat} {S S' : mT} (hf : fX1_look 19 a2 S = some S') : Fr (inM 999999 LX1_look_19) S S' := rX1_look_0_19 hf
abbrev LX11_least_f : List (Nat × Nat × Option Nat) := [(999999, 999999, none), (11, 11, none), (14, 14, none), (18, 18, none), (85, 85, some 3), (87, 91, none)]
theorem rX11_least_0_f {S' : mT} {r : Int32} {S : mT} (hf : fX11_least false S = some (r, S')) : Fr (inM 999999 LX11_least_f) S S' := by
  unfold fX11_least at hf
  obtain ⟨-, hf⟩ := grd_ex hf
  obtain ⟨S1, hq, hf⟩ := bndV_ex hf
  have F := (Fr.rfl (inM 999999 LX11_least_f) _).trans ((rX1_look_3 hq).mono rfl (fun _ => rfl))
  obtain ⟨-, hf⟩ := grd_ex hf
  obtain ⟨x3, S2, hq, hf⟩ := bndC_ex hf
  have F := F.trans ((rX1_leastTax hq).mono rfl (fun _ => rfl))
  cases hf
  exact F
theorem rX11_least_f {S S' : mT} {r : Int32} (hf : fX11_least false S = some (r, S')) : Fr (inM 999999 LX11_least_f) S S' := rX11_least_0_f hf
abbrev LX11_least_t : List (Nat × Nat × Option Nat) := [(999999, 999999, none), (27, 27, none), (30, 30, none), (34, 34, none), (85, 85, some 3), (87, 91, none)]
theorem rX11_least_0_t {S' : mT} {r : Int32} {S : mT} (hf : fX11_least true S = some (r, S')) : Fr (inM 999999 LX11_least_t) S S' := by
  unfold fX11_least at hf
  obtain ⟨-, hf⟩ := grd_ex hf
  obtain ⟨S1, hq, hf⟩ := bndV_ex hf
  have F := (Fr.rfl (inM 999999 LX11_least_t) _).trans ((rX1_look_19 hq).mono rfl (fun _ => rfl))
  obtain ⟨-, hf⟩ := grd_ex hf
  obtain ⟨x3, S2, hq, hf⟩ := bndC_ex hf
  have F := F.trans ((rX1_leastTax hq).mono rfl (fun _ => rfl))
  cases hf
  exact F
theorem rX11_least_t {S S' : mT} {r : Int32} (hf : fX11_least true S = some (r, S')) : Fr (inM 999999 LX11_least_t) S S' := rX11_least_0_t hf
abbrev LX1_firstThatFits : List (Nat × Nat × Option Nat) := [(999999, 999999, none)]
theorem rX1_firstThatFits_52 {S' : mT} {r : Int32} {v3 : Int32} {S : mT} (hf : fX1_firstThatFits_52 v3 S = some (r, S')) : Fr (inM 999999 LX1_firstThatFits) S S' := by
  unfold fX1_firstThatFits_52 at hf
  obtain ⟨x2, -, hf⟩ := bnd_ex hf
  cases hf
  exact (Fr.rfl (inM 999999 LX1_firstThatFits) _)
theorem rX1_firstThatFits_3 {S' : mT} {r : Int32} : ∀ (k : Nat) (v1 : Int32) (v2 : Int32) (v3 : Int32) (v4 : Int32) (S : mT), fX1_firstThatFits_3 k v1 v2 v3 v4 S = some (r, S') → Fr (inM 999999 LX1_firstThatFits) S S' := by
  intro k
  induction k with
  | zero =>
    intro v1 v2 v3 v4 S hf
    cases hf
  | succ k ih =>
    intro v1 v2 v3 v4 S hf
    unfold fX1_firstThatFits_3 at hf
    by_cases hc : (7 : Int32) ≤ v4
    · rw [if_pos hc] at hf
      exact (Fr.rfl (inM 999999 LX1_firstThatFits) _).trans (rX1_firstThatFits_52 hf)
    · rw [if_neg hc] at hf
      by_cases hc : v3 ≤ v4
      · rw [if_pos hc] at hf
        exact (Fr.rfl (inM 999999 LX1_firstThatFits) _).trans (rX1_firstThatFits_52 hf)
      · rw [if_neg hc] at hf
        obtain ⟨-, hf⟩ := grd_ex hf
        obtain ⟨-, hf⟩ := grd_ex hf
        by_cases hc : v2 < ((S.1 (rowR 86 (mIx v1)) (mIx v4)) + (S.1 (rowR 92 (mIx (v1 + (1 : Int32)))) (mIx (v3 - v4))))
        · rw [if_pos hc] at hf
          obtain ⟨x1, -, hf⟩ := bnd_ex hf
          exact (Fr.rfl (inM 999999 LX1_firstThatFits) _).trans (ih _ _ _ _ _ hf)
        · rw [if_neg hc] at hf
          cases hf
          exact (Fr.rfl (inM 999999 LX1_firstThatFits) _)
theorem rX1_firstThatFits_0 {S' : mT} {r : Int32} {v1 : Int32} {v2 : Int32} {v3 : Int32} {S : mT} (hf : fX1_firstThatFits v1 v2 v3 S = some (r, S')) : Fr (inM 999999 LX1_firstThatFits) S S' := by
  unfold fX1_firstThatFits at hf
  exact (Fr.rfl (inM 999999 LX1_firstThatFits) _).trans (rX1_firstThatFits_3 _ _ _ _ _ _ hf)
theorem rX1_firstThatFits {v1 : Int32} {v2 : Int32} {v3 : Int32} {S S' : mT} {r : Int32} (hf : fX1_firstThatFits v1 v2 v3 S = some (r, S')) : Fr (inM 999999 LX1_firstThatFits) S S' := rX1_firstThatFits_0 hf
abbrev LX1_pickFirst : List (Nat × Nat × Option Nat) := [(999999, 999999, none), (99, 99, none)]
theorem rX1_pickFirst_8 {S' : mT} : ∀ (k : Nat) (v3 : Int32) (v4 : Int32) (v5 : Int32) (S : mT), fX1_pickFirst_8 k v3 v4 v5 S = some S' → Fr (inM 999999 LX1_pickFirst) S S' := by
  intro k
  induction k with
  | zero =>
    intro v3 v4 v5 S hf
    cases hf
  | succ k ih =>
    intro v3 v4 v5 S hf
    unfold fX1_pickFirst_8 at hf
    obtain ⟨-, hf⟩ := grd_ex hf
    by_cases hc : (S.1 85 3) ≤ v5
    · rw [if_pos hc] at hf
      cases hf
      exact (Fr.rfl (inM 999999 LX1_pickFirst) _)
    · rw [if_neg hc] at hf
      obtain ⟨x2, S1, hq, hf⟩ := bndC_ex hf
      have F := (Fr.rfl (inM 999999 LX1_pickFirst) _).trans ((rX1_firstThatFits hq).mono rfl (fun _ => rfl))
      obtain ⟨-, hf⟩ := grd_ex hf
      obtain ⟨S3, eS3, hf⟩ := bnd_ex hf
      have F : Fr (inM 999999 LX1_pickFirst) S S3 := by
        rw [eS3]
        exact Fr.sI F rfl
      obtain ⟨-, hf⟩ := grd_ex hf
      obtain ⟨x4, -, hf⟩ := bnd_ex hf
      obtain ⟨x5, -, hf⟩ := bnd_ex hf
      obtain ⟨x6, -, hf⟩ := bnd_ex hf
      exact F.trans (ih _ _ _ _ hf)
theorem rX1_pickFirst_0 {S' : mT} {v1 : Int32} {v2 : Int32} {S : mT} (hf : fX1_pickFirst v1 v2 S = some S') : Fr (inM 999999 LX1_pickFirst) S S' := by
  unfold fX1_pickFirst at hf
  exact (Fr.rfl (inM 999999 LX1_pickFirst) _).trans (rX1_pickFirst_8 _ _ _ _ _ hf)
theorem rX1_pickFirst {v1 : Int32} {v2 : Int32} {S S' : mT} (hf : fX1_pickFirst v1 v2 S = some S') : Fr (inM 999999 LX1_pickFirst) S S' := rX1_pickFirst_0 hf
abbrev LX1_cheapestFrom : List (Nat × Nat × Option Nat) := [(999999, 999999, none)]
theorem rX1_cheapestFrom_53 {S' : mT} {r : Int32} {v3 : Int32} {S : mT} (hf : fX1_cheapestFrom_53 v3 S = some (r, S')) : Fr (inM 999999 LX1_cheapestFrom) S S' := by
  unfold fX1_cheapestFrom_53 at hf
  cases hf
  exact (Fr.rfl (inM 999999 LX1_cheapestFrom) _)
theorem rX1_cheapestFrom_6 {S' : mT} {r : Int32} : ∀ (k : Nat) (v1 : Int32) (v2 : Int32) (v3 : Int32) (v4 : Int32) (S : mT), fX1_cheapestFrom_6 k v1 v2 v3 v4 S = some (r, S') → Fr (inM 999999 LX1_cheapestFrom) S S' := by
  intro k
  induction k with
  | zero =>
    intro v1 v2 v3 v4 S hf
    cases hf
  | succ k ih =>
    intro v1 v2 v3 v4 S hf
    unfold fX1_cheapestFrom_6 at hf
    by_cases hc : (7 : Int32) < v4
    · rw [if_pos hc] at hf
      exact (Fr.rfl (inM 999999 LX1_cheapestFrom) _).trans (rX1_cheapestFrom_53 hf)
    · rw [if_neg hc] at hf
      by_cases hc : v2 < v4
      · rw [if_pos hc] at hf
        exact (Fr.rfl (inM 999999 LX1_cheapestFrom) _).trans (rX1_cheapestFrom_53 hf)
      · rw [if_neg hc] at hf
        obtain ⟨-, hf⟩ := grd_ex hf
        obtain ⟨-, hf⟩ := grd_ex hf
        obtain ⟨x1, -, hf⟩ := bnd_ex hf
        obtain ⟨x2, -, hf⟩ := bnd_ex hf
        exact (Fr.rfl (inM 999999 LX1_cheapestFrom) _).trans (ih _ _ _ _ _ hf)
theorem rX1_cheapestFrom_0 {S' : mT} {r : Int32} {v1 : Int32} {v2 : Int32} {S : mT} (hf : fX1_cheapestFrom v1 v2 S = some (r, S')) : Fr (inM 999999 LX1_cheapestFrom) S S' := by
  unfold fX1_cheapestFrom at hf
  exact (Fr.rfl (inM 999999 LX1_cheapestFrom) _).trans (rX1_cheapestFrom_6 _ _ _ _ _ _ hf)
theorem rX1_cheapestFrom {v1 : Int32} {v2 : Int32} {S S' : mT} {r : Int32} (hf : fX1_cheapestFrom v1 v2 S = some (r, S')) : Fr (inM 999999 LX1_cheapestFrom) S S' := rX1_cheapestFrom_0 hf
abbrev LX1_weighFromTheEnd : List (Nat × Nat × Option Nat) := [(999999, 999999, none), (93, 98, none)]
theorem rX1_weighFromTheEnd_39 {S' : mT} {rc33 : Int32 → mT → Option (mT)} (Hrc33 : ∀ (v1 : Int32) (S : mT), rc33 v1 S = some S' → Fr (inM 999999 LX1_weighFromTheEnd) S S') : ∀ (k : Nat) (v1 : Int32) (v2 : Int32) (S : mT), fX1_weighFromTheEnd_39 rc33 k v1 v2 S = some S' → Fr (inM 999999 LX1_weighFromTheEnd) S S' := by
  intro k
  induction k with
  | zero =>
    intro v1 v2 S hf
    cases hf
  | succ k ih =>
    intro v1 v2 S hf
    unfold fX1_weighFromTheEnd_39 at hf
    by_cases hc : (35 : Int32) < v2
    · rw [if_pos hc] at hf
      obtain ⟨x4, -, hf⟩ := bnd_ex hf
      exact (Fr.rfl (inM 999999 LX1_weighFromTheEnd) _).trans (Hrc33 _ _ hf)
    · rw [if_neg hc] at hf
      obtain ⟨-, hf⟩ := grd_ex hf
      obtain ⟨x6, S5, hq, hf⟩ := bndC_ex hf
      have F := (Fr.rfl (inM 999999 LX1_weighFromTheEnd) _).trans ((rX1_cheapestFrom hq).mono rfl (fun _ => rfl))
      obtain ⟨-, hf⟩ := grd_ex hf
      obtain ⟨S7, eS7, hf⟩ := bnd_ex hf
      have F : Fr (inM 999999 LX1_weighFromTheEnd) S S7 := by
        rw [eS7]
        exact Fr.sI F (inM_row 93 98 (rr_92 _) rfl rfl)
      obtain ⟨x8, -, hf⟩ := bnd_ex hf
      exact F.trans (ih _ _ _ hf)
theorem rX1_weighFromTheEnd_33 {S' : mT} : ∀ (k : Nat) (v1 : Int32) (S : mT), fX1_weighFromTheEnd_33 k v1 S = some S' → Fr (inM 999999 LX1_weighFromTheEnd) S S' := by
  intro k
  induction k with
  | zero =>
    intro v1 S hf
    cases hf
  | succ k ih =>
    intro v1 S hf
    unfold fX1_weighFromTheEnd_33 at hf
    by_cases hc : v1 < 0
    · rw [if_pos hc] at hf
      cases hf
      exact (Fr.rfl (inM 999999 LX1_weighFromTheEnd) _)
    · rw [if_neg hc] at hf
      exact (Fr.rfl (inM 999999 LX1_weighFromTheEnd) _).trans (rX1_weighFromTheEnd_39 ih _ _ _ _ hf)
theorem rX1_weighFromTheEnd_0 {S' : mT} {S : mT} (hf : fX1_weighFromTheEnd S = some S') : Fr (inM 999999 LX1_weighFromTheEnd) S S' := by
  unfold fX1_weighFromTheEnd at hf
  obtain ⟨-, hf⟩ := grd_ex hf
  obtain ⟨S1, hq, hf⟩ := bndV_ex hf
  have F := (Fr.rfl (inM 999999 LX1_weighFromTheEnd) _).trans ((rJ7_fill_53178 hq).mono rfl (fun _ => (inM_row 93 98 (rr_92 _) rfl rfl)))
  obtain ⟨-, hf⟩ := grd_ex hf
  obtain ⟨S2, eS2, hf⟩ := bnd_ex hf
  have F : Fr (inM 999999 LX1_weighFromTheEnd) S S2 := by
    rw [eS2]
    exact Fr.sI F (inM_row 93 98 (rr_92 _) rfl rfl)
  obtain ⟨-, hf⟩ := grd_ex hf
  obtain ⟨x3, -, hf⟩ := bnd_ex hf
  exact F.trans (rX1_weighFromTheEnd_33 _ _ _ hf)
theorem rX1_weighFromTheEnd {S S' : mT} (hf : fX1_weighFromTheEnd S = some S') : Fr (inM 999999 LX1_weighFromTheEnd) S S' := rX1_weighFromTheEnd_0 hf
abbrev LX1_choose : List (Nat × Nat × Option Nat) := [(999999, 999999, none), (93, 98, none), (99, 99, none)]
theorem rX1_choose_6 {S' : mT} {r : Int32} : ∀ (k : Nat) (v1 : Int32) (v2 : Int32) (S : mT), fX1_choose_6 k v1 v2 S = some (r, S') → Fr (inM 999999 LX1_choose) S S' := by
  intro k
  induction k with
  | zero =>
    intro v1 v2 S hf
    cases hf
  | succ k ih =>
    intro v1 v2 S hf
    unfold fX1_choose_6 at hf
    by_cases hc : (35 : Int32) < v2
    · rw [if_pos hc] at hf
      cases hf
      exact (Fr.rfl (inM 999999 LX1_choose) _)
    · rw [if_neg hc] at hf
      obtain ⟨-, hf⟩ := grd_ex hf
      by_cases hc : v1 < (S.1 (rowR 92 (mIx (0 : Int32))) (mIx v2))
      · rw [if_pos hc] at hf
        obtain ⟨x2, -, hf⟩ := bnd_ex hf
        exact (Fr.rfl (inM 999999 LX1_choose) _).trans (ih _ _ _ hf)
      · rw [if_neg hc] at hf
        obtain ⟨S3, hq, hf⟩ := bndV_ex hf
        have F := (Fr.rfl (inM 999999 LX1_choose) _).trans ((rX1_pickFirst hq).mono rfl (fun _ => rfl))
        cases hf
        exact F
theorem rX1_choose_0 {S' : mT} {r : Int32} {v1 : Int32} {S : mT} (hf : fX1_choose v1 S = some (r, S')) : Fr (inM 999999 LX1_choose) S S' := by
  unfold fX1_choose at hf
  obtain ⟨S1, hq, hf⟩ := bndV_ex hf
  have F := (Fr.rfl (inM 999999 LX1_choose) _).trans ((rX1_weighFromTheEnd hq).mono rfl (fun _ => rfl))
  exact F.trans (rX1_choose_6 _ _ _ _ hf)
theorem rX1_choose {v1 : Int32} {S S' : mT} {r : Int32} (hf : fX1_choose v1 S = some (r, S')) : Fr (inM 999999 LX1_choose) S S' := rX1_choose_0 hf
abbrev LX11_leave_f : List (Nat × Nat × Option Nat) := [(999999, 999999, none), (0, 0, some 13), (11, 11, none), (14, 14, none), (18, 18, none), (85, 85, some 3), (87, 91, none), (93, 98, none), (99, 99, none), (186, 186, none)]
theorem rX11_leave_65_f {S' : mT} {r : Int32} {v2 : Int32} {S : mT} (hf : fX11_leave_65 false v2 S = some (r, S')) : Fr (inM 999999 LX11_leave_f) S S' := by
  unfold fX11_leave_65 at hf
  cases hf
  exact (Fr.rfl (inM 999999 LX11_leave_f) _)
theorem rX11_leave_0_f {S' : mT} {r : Int32} {v1 : Int32} {S : mT} (hf : fX11_leave false v1 S = some (r, S')) : Fr (inM 999999 LX11_leave_f) S S' := by
  unfold fX11_leave at hf
  obtain ⟨-, hf⟩ := grd_ex hf
  obtain ⟨S1, eS1, hf⟩ := bnd_ex hf
  have F : Fr (inM 999999 LX11_leave_f) S S1 := by
    rw [eS1]
    exact Fr.sI (Fr.rfl (inM 999999 LX11_leave_f) _) rfl
  obtain ⟨x3, S2, hq, hf⟩ := bndC_ex hf
  have F := F.trans ((rX11_isWithin hq).mono rfl (fun _ => rfl))
  by_cases hc : x3 = 0
  · rw [if_pos hc] at hf
    cases hf
    exact F
  · rw [if_neg hc] at hf
    obtain ⟨-, hf⟩ := grd_ex hf
    obtain ⟨S4, hq, hf⟩ := bndV_ex hf
    have F := F.trans ((rX1_look_3 hq).mono rfl (fun _ => rfl))
    obtain ⟨-, hf⟩ := grd_ex hf
    obtain ⟨x6, S5, hq, hf⟩ := bndC_ex hf
    have F := F.trans ((rX1_choose hq).mono rfl (fun _ => rfl))
    by_cases hc : x6 = (-1 : Int32)
    · rw [if_pos hc] at hf
      exact F.trans (rX11_leave_65_f hf)
    · rw [if_neg hc] at hf
      obtain ⟨-, hf⟩ := grd_ex hf
      obtain ⟨S7, hq, hf⟩ := bndV_ex hf
      have F := F.trans ((rX11_lay hq).mono rfl (fun _ => rfl))
      exact F.trans (rX11_leave_65_f hf)
theorem rX11_leave_f {v1 : Int32} {S S' : mT} {r : Int32} (hf : fX11_leave false v1 S = some (r, S')) : Fr (inM 999999 LX11_leave_f) S S' := rX11_leave_0_f hf
abbrev LX11_leave_t : List (Nat × Nat × Option Nat) := [(999999, 999999, none), (0, 0, some 13), (27, 27, none), (30, 30, none), (34, 34, none), (85, 85, some 3), (87, 91, none), (93, 98, none), (99, 99, none), (186, 186, none)]
theorem rX11_leave_65_t {S' : mT} {r : Int32} {v2 : Int32} {S : mT} (hf : fX11_leave_65 true v2 S = some (r, S')) : Fr (inM 999999 LX11_leave_t) S S' := by
  unfold fX11_leave_65 at hf
  cases hf
  exact (Fr.rfl (inM 999999 LX11_leave_t) _)
theorem rX11_leave_0_t {S' : mT} {r : Int32} {v1 : Int32} {S : mT} (hf : fX11_leave true v1 S = some (r, S')) : Fr (inM 999999 LX11_leave_t) S S' := by
  unfold fX11_leave at hf
  obtain ⟨-, hf⟩ := grd_ex hf
  obtain ⟨S1, eS1, hf⟩ := bnd_ex hf
  have F : Fr (inM 999999 LX11_leave_t) S S1 := by
    rw [eS1]
    exact Fr.sI (Fr.rfl (inM 999999 LX11_leave_t) _) rfl
  obtain ⟨x3, S2, hq, hf⟩ := bndC_ex hf
  have F := F.trans ((rX11_isWithin hq).mono rfl (fun _ => rfl))
  by_cases hc : x3 = 0
  · rw [if_pos hc] at hf
    cases hf
    exact F
  · rw [if_neg hc] at hf
    obtain ⟨-, hf⟩ := grd_ex hf
    obtain ⟨S4, hq, hf⟩ := bndV_ex hf
    have F := F.trans ((rX1_look_19 hq).mono rfl (fun _ => rfl))
    obtain ⟨-, hf⟩ := grd_ex hf
    obtain ⟨x6, S5, hq, hf⟩ := bndC_ex hf
    have F := F.trans ((rX1_choose hq).mono rfl (fun _ => rfl))
    by_cases hc : x6 = (-1 : Int32)
    · rw [if_pos hc] at hf
      exact F.trans (rX11_leave_65_t hf)
    · rw [if_neg hc] at hf
      obtain ⟨-, hf⟩ := grd_ex hf
      obtain ⟨S7, hq, hf⟩ := bndV_ex hf
      have F := F.trans ((rX11_lay hq).mono rfl (fun _ => rfl))
      exact F.trans (rX11_leave_65_t hf)
theorem rX11_leave_t {v1 : Int32} {S S' : mT} {r : Int32} (hf : fX11_leave true v1 S = some (r, S')) : Fr (inM 999999 LX11_leave_t) S S' := rX11_leave_0_t hf
abbrev LX3_leastAgainst : List (Nat × Nat × Option Nat) := [(999999, 999999, none)]
theorem rX3_leastAgainst_47 {S' : mT} {r : Int32} {v3 : Int32} {S : mT} (hf : fX3_leastAgainst_47 v3 S = some (r, S')) : Fr (inM 999999 LX3_leastAgainst) S S' := by
  unfold fX3_leastAgainst_47 at hf
  cases hf
  exact (Fr.rfl (inM 999999 LX3_leastAgainst) _)
theorem rX3_leastAgainst_14 {S' : mT} {r : Int32} : ∀ (k : Nat) (v1 : Int32) (v2 : Int32) (v3 : Int32) (v4 : Int32) (S : mT), fX3_leastAgainst_14 k v1 v2 v3 v4 S = some (r, S') → Fr (inM 999999 LX3_leastAgainst) S S' := by
  intro k
  induction k with
  | zero =>
    intro v1 v2 v3 v4 S hf
    cases hf
  | succ k ih =>
    intro v1 v2 v3 v4 S hf
    unfold fX3_leastAgainst_14 at hf
    by_cases hc : v2 < v4
    · rw [if_pos hc] at hf
      exact (Fr.rfl (inM 999999 LX3_leastAgainst) _).trans (rX3_leastAgainst_47 hf)
    · rw [if_neg hc] at hf
      by_cases hc : (35 : Int32) < v4
      · rw [if_pos hc] at hf
        exact (Fr.rfl (inM 999999 LX3_leastAgainst) _).trans (rX3_leastAgainst_47 hf)
      · rw [if_neg hc] at hf
        obtain ⟨-, hf⟩ := grd_ex hf
        obtain ⟨x4, -, hf⟩ := bnd_ex hf
        obtain ⟨x5, -, hf⟩ := bnd_ex hf
        exact (Fr.rfl (inM 999999 LX3_leastAgainst) _).trans (ih _ _ _ _ _ hf)
theorem rX3_leastAgainst_0 {S' : mT} {r : Int32} {v1 : Int32} {S : mT} (hf : fX3_leastAgainst v1 S = some (r, S')) : Fr (inM 999999 LX3_leastAgainst) S S' := by
  unfold fX3_leastAgainst at hf
  obtain ⟨x2, S1, hq, hf⟩ := bndC_ex hf
  have F := (Fr.rfl (inM 999999 LX3_leastAgainst) _).trans ((rJ6_bitCount_0f7a4 hq).mono rfl (fun _ => rfl))
  obtain ⟨x3, -, hf⟩ := bnd_ex hf
  exact F.trans (rX3_leastAgainst_14 _ _ _ _ _ _ hf)
theorem rX3_leastAgainst {v1 : Int32} {S S' : mT} {r : Int32} (hf : fX3_leastAgainst v1 S = some (r, S')) : Fr (inM 999999 LX3_leastAgainst) S S' := rX3_leastAgainst_0 hf
abbrev LX3_countOwed : List (Nat × Nat × Option Nat) := [(999999, 999999, none), (183, 183, none)]
theorem rX3_countOwed_37 {S' : mT} {rc17 : Int32 → mT → Option (mT)} (Hrc17 : ∀ (v1 : Int32) (S : mT), rc17 v1 S = some S' → Fr (inM 999999 LX3_countOwed) S S') : ∀ (k : Nat) (v1 : Int32) (v2 : Int32) (S : mT), fX3_countOwed_37 rc17 k v1 v2 S = some S' → Fr (inM 999999 LX3_countOwed) S S' := by
  intro k
  induction k with
  | zero =>
    intro v1 v2 S hf
    cases hf
  | succ k ih =>
    intro v1 v2 S hf
    unfold fX3_countOwed_37 at hf
    obtain ⟨-, hf⟩ := grd_ex hf
    by_cases hc : (S.1 182 (mIx v1)) ≤ v2
    · rw [if_pos hc] at hf
      obtain ⟨x4, -, hf⟩ := bnd_ex hf
      exact (Fr.rfl (inM 999999 LX3_countOwed) _).trans (Hrc17 _ _ hf)
    · rw [if_neg hc] at hf
      obtain ⟨-, hf⟩ := grd_ex hf
      obtain ⟨-, hf⟩ := grd_ex hf
      obtain ⟨x6, S5, hq, hf⟩ := bndC_ex hf
      have F := (Fr.rfl (inM 999999 LX3_countOwed) _).trans ((rX3_leastAgainst hq).mono rfl (fun _ => rfl))
      obtain ⟨-, hf⟩ := grd_ex hf
      obtain ⟨S7, eS7, hf⟩ := bnd_ex hf
      have F : Fr (inM 999999 LX3_countOwed) S S7 := by
        rw [eS7]
        exact Fr.sI F rfl
      obtain ⟨x8, -, hf⟩ := bnd_ex hf
      exact F.trans (ih _ _ _ hf)
theorem rX3_countOwed_17 {S' : mT} : ∀ (k : Nat) (v1 : Int32) (S : mT), fX3_countOwed_17 k v1 S = some S' → Fr (inM 999999 LX3_countOwed) S S' := by
  intro k
  induction k with
  | zero =>
    intro v1 S hf
    cases hf
  | succ k ih =>
    intro v1 S hf
    unfold fX3_countOwed_17 at hf
    by_cases hc : v1 < 0
    · rw [if_pos hc] at hf
      cases hf
      exact (Fr.rfl (inM 999999 LX3_countOwed) _)
    · rw [if_neg hc] at hf
      obtain ⟨-, hf⟩ := grd_ex hf
      obtain ⟨S3, eS3, hf⟩ := bnd_ex hf
      have F : Fr (inM 999999 LX3_countOwed) S S3 := by
        rw [eS3]
        exact Fr.sI (Fr.rfl (inM 999999 LX3_countOwed) _) rfl
      exact F.trans (rX3_countOwed_37 ih _ _ _ _ hf)
theorem rX3_countOwed_0 {S' : mT} {S : mT} (hf : fX3_countOwed S = some S') : Fr (inM 999999 LX3_countOwed) S S' := by
  unfold fX3_countOwed at hf
  obtain ⟨-, hf⟩ := grd_ex hf
  obtain ⟨S1, eS1, hf⟩ := bnd_ex hf
  have F : Fr (inM 999999 LX3_countOwed) S S1 := by
    rw [eS1]
    exact Fr.sI (Fr.rfl (inM 999999 LX3_countOwed) _) rfl
  obtain ⟨-, hf⟩ := grd_ex hf
  obtain ⟨x2, -, hf⟩ := bnd_ex hf
  exact F.trans (rX3_countOwed_17 _ _ _ hf)
theorem rX3_countOwed {S S' : mT} (hf : fX3_countOwed S = some S') : Fr (inM 999999 LX3_countOwed) S S' := rX3_countOwed_0 hf
abbrev LX3_againstWith : List (Nat × Nat × Option Nat) := [(999999, 999999, none)]
theorem rX3_againstWith_5 {S' : mT} {r : Int32} : ∀ (k : Nat) (v1 : Int32) (v2 : Int32) (v3 : Int32) (v4 : Int32) (S : mT), fX3_againstWith_5 k v1 v2 v3 v4 S = some (r, S') → Fr (inM 999999 LX3_againstWith) S S' := by
  intro k
  induction k with
  | zero =>
    intro v1 v2 v3 v4 S hf
    cases hf
  | succ k ih =>
    intro v1 v2 v3 v4 S hf
    unfold fX3_againstWith_5 at hf
    obtain ⟨-, hf⟩ := grd_ex hf
    by_cases hc : (S.1 182 (mIx v1)) ≤ v4
    · rw [if_pos hc] at hf
      cases hf
      exact (Fr.rfl (inM 999999 LX3_againstWith) _)
    · rw [if_neg hc] at hf
      obtain ⟨-, hf⟩ := grd_ex hf
      obtain ⟨x1, -, hf⟩ := bnd_ex hf
      obtain ⟨-, hf⟩ := grd_ex hf
      obtain ⟨-, hf⟩ := grd_ex hf
      obtain ⟨x2, -, hf⟩ := bnd_ex hf
      obtain ⟨x3, -, hf⟩ := bnd_ex hf
      exact (Fr.rfl (inM 999999 LX3_againstWith) _).trans (ih _ _ _ _ _ hf)
theorem rX3_againstWith_0 {S' : mT} {r : Int32} {v1 : Int32} {v2 : Int32} {S : mT} (hf : fX3_againstWith v1 v2 S = some (r, S')) : Fr (inM 999999 LX3_againstWith) S S' := by
  unfold fX3_againstWith at hf
  exact (Fr.rfl (inM 999999 LX3_againstWith) _).trans (rX3_againstWith_5 _ _ _ _ _ _ hf)
theorem rX3_againstWith {v1 : Int32} {v2 : Int32} {S S' : mT} {r : Int32} (hf : fX3_againstWith v1 v2 S = some (r, S')) : Fr (inM 999999 LX3_againstWith) S S' := rX3_againstWith_0 hf
abbrev LX3_searchFrom : List (Nat × Nat × Option Nat) := [(999999, 999999, none), (140, 140, some 5), (175, 175, none), (184, 184, none), (185, 185, none)]
theorem rX3_searchFrom_110 {self : Int32 → Int32 → mT → Option (mT)} (Hself : ∀ {v1 : Int32} {v2 : Int32} {S S' : mT}, self v1 v2 S = some S' → Fr (inM 999999 LX3_searchFrom) S S') {S' : mT} {rc49 : Int32 → Int32 → Int32 → mT → Option (mT)} (Hrc49 : ∀ (v1 : Int32) (v2 : Int32) (v3 : Int32) (S : mT), rc49 v1 v2 v3 S = some S' → Fr (inM 999999 LX3_searchFrom) S S') {v1 : Int32} {v2 : Int32} {v3 : Int32} {S : mT} (hf : fX3_searchFrom_110 self rc49 v1 v2 v3 S = some S') : Fr (inM 999999 LX3_searchFrom) S S' := by
  unfold fX3_searchFrom_110 at hf
  obtain ⟨x8, -, hf⟩ := bnd_ex hf
  exact (Fr.rfl (inM 999999 LX3_searchFrom) _).trans (Hrc49 _ _ _ _ hf)
theorem rX3_searchFrom_49 {self : Int32 → Int32 → mT → Option (mT)} (Hself : ∀ {v1 : Int32} {v2 : Int32} {S S' : mT}, self v1 v2 S = some S' → Fr (inM 999999 LX3_searchFrom) S S') {S' : mT} : ∀ (k : Nat) (v1 : Int32) (v2 : Int32) (v3 : Int32) (S : mT), fX3_searchFrom_49 self k v1 v2 v3 S = some S' → Fr (inM 999999 LX3_searchFrom) S S' := by
  intro k
  induction k with
  | zero =>
    intro v1 v2 v3 S hf
    cases hf
  | succ k ih =>
    intro v1 v2 v3 S hf
    unfold fX3_searchFrom_49 at hf
    by_cases hc : (7 : Int32) < v3
    · rw [if_pos hc] at hf
      cases hf
      exact (Fr.rfl (inM 999999 LX3_searchFrom) _)
    · rw [if_neg hc] at hf
      obtain ⟨x4, S3, hq, hf⟩ := bndC_ex hf
      have F := (Fr.rfl (inM 999999 LX3_searchFrom) _).trans ((rX3_againstWith hq).mono rfl (fun _ => rfl))
      obtain ⟨-, hf⟩ := grd_ex hf
      obtain ⟨S5, eS5, hf⟩ := bnd_ex hf
      have F : Fr (inM 999999 LX3_searchFrom) S S5 := by
        rw [eS5]
        exact Fr.sI F rfl
      obtain ⟨-, hf⟩ := grd_ex hf
      obtain ⟨-, hf⟩ := grd_ex hf
      by_cases hc : (S5.1 140 5) ≤ ((v2 + x4) + (S5.1 183 (mIx (v1 + (1 : Int32)))))
      · rw [if_pos hc] at hf
        exact F.trans (rX3_searchFrom_110 Hself ih hf)
      · rw [if_neg hc] at hf
        obtain ⟨-, hf⟩ := grd_ex hf
        obtain ⟨S6, hq, hf⟩ := bndV_ex hf
        have F := F.trans ((rX9_setHeads_174 hq).mono rfl (fun _ => rfl))
        obtain ⟨S7, hq, hf⟩ := bndV_ex hf
        have F := F.trans (Hself hq)
        exact F.trans (rX3_searchFrom_110 Hself ih hf)
theorem rX3_searchFrom_0 {self : Int32 → Int32 → mT → Option (mT)} (Hself : ∀ {v1 : Int32} {v2 : Int32} {S S' : mT}, self v1 v2 S = some S' → Fr (inM 999999 LX3_searchFrom) S S') {S' : mT} {v1 : Int32} {v2 : Int32} {S : mT} (hf : fX3_searchFrom_0 self v1 v2 S = some S') : Fr (inM 999999 LX3_searchFrom) S S' := by
  unfold fX3_searchFrom_0 at hf
  obtain ⟨-, hf⟩ := grd_ex hf
  by_cases hc : (v2 + (S.1 183 (mIx v1))) < (S.1 140 5)
  · rw [if_pos hc] at hf
    obtain ⟨-, hf⟩ := grd_ex hf
    by_cases hc : v1 < (S.1 140 6)
    · rw [if_pos hc] at hf
      exact (Fr.rfl (inM 999999 LX3_searchFrom) _).trans (rX3_searchFrom_49 Hself _ _ _ _ _ hf)
    · rw [if_neg hc] at hf
      obtain ⟨-, hf⟩ := grd_ex hf
      obtain ⟨S1, eS1, hf⟩ := bnd_ex hf
      have F : Fr (inM 999999 LX3_searchFrom) S S1 := by
        rw [eS1]
        exact Fr.sI (Fr.rfl (inM 999999 LX3_searchFrom) _) rfl
      obtain ⟨-, hf⟩ := grd_ex hf
      obtain ⟨S2, eS2, hf⟩ := bnd_ex hf
      have F : Fr (inM 999999 LX3_searchFrom) S S2 := by
        rw [eS2]
        exact Fr.sC F (fun _ => rfl)
      cases hf
      exact F
  · rw [if_neg hc] at hf
    cases hf
    exact (Fr.rfl (inM 999999 LX3_searchFrom) _)
theorem rX3_searchFrom : ∀ (d : Nat) {v1 : Int32} {v2 : Int32} {S S' : mT} (hf : fX3_searchFrom d v1 v2 S = some S'), Fr (inM 999999 LX3_searchFrom) S S' := by
  intro d
  induction d with
  | zero =>
    intro v1 v2 S S' hf
    cases hf
  | succ d ih =>
    intro v1 v2 S S' hf
    exact rX3_searchFrom_0 ih hf
abbrev LX3_takeReports : List (Nat × Nat × Option Nat) := [(999999, 999999, none), (142, 173, none)]
theorem rX3_takeReports_85 {S' : mT} {r : Int32} {rc4 : Int32 → Int32 → mT → Option (Int32 × mT)} (Hrc4 : ∀ (v2 : Int32) (v3 : Int32) (S : mT), rc4 v2 v3 S = some (r, S') → Fr (inM 999999 LX3_takeReports) S S') {rc42 : Int32 → Int32 → Int32 → Int32 → mT → Option (Int32 × mT)} (Hrc42 : ∀ (v2 : Int32) (v3 : Int32) (v4 : Int32) (v5 : Int32) (S : mT), rc42 v2 v3 v4 v5 S = some (r, S') → Fr (inM 999999 LX3_takeReports) S S') {v2 : Int32} {v3 : Int32} {v4 : Int32} {v5 : Int32} {S : mT} (hf : fX3_takeReports_85 rc4 rc42 v2 v3 v4 v5 S = some (r, S')) : Fr (inM 999999 LX3_takeReports) S S' := by
  unfold fX3_takeReports_85 at hf
  obtain ⟨x5, -, hf⟩ := bnd_ex hf
  exact (Fr.rfl (inM 999999 LX3_takeReports) _).trans (Hrc42 _ _ _ _ _ hf)
theorem rX3_takeReports_71 {S' : mT} {r : Int32} {rc4 : Int32 → Int32 → mT → Option (Int32 × mT)} (Hrc4 : ∀ (v2 : Int32) (v3 : Int32) (S : mT), rc4 v2 v3 S = some (r, S') → Fr (inM 999999 LX3_takeReports) S S') {rc42 : Int32 → Int32 → Int32 → Int32 → mT → Option (Int32 × mT)} (Hrc42 : ∀ (v2 : Int32) (v3 : Int32) (v4 : Int32) (v5 : Int32) (S : mT), rc42 v2 v3 v4 v5 S = some (r, S') → Fr (inM 999999 LX3_takeReports) S S') {v2 : Int32} {v3 : Int32} {v4 : Int32} {v5 : Int32} {S : mT} (hf : fX3_takeReports_71 rc4 rc42 v2 v3 v4 v5 S = some (r, S')) : Fr (inM 999999 LX3_takeReports) S S' := by
  unfold fX3_takeReports_71 at hf
  obtain ⟨-, hf⟩ := grd_ex hf
  obtain ⟨S4, eS4, hf⟩ := bnd_ex hf
  have F : Fr (inM 999999 LX3_takeReports) S S4 := by
    rw [eS4]
    exact Fr.sI (Fr.rfl (inM 999999 LX3_takeReports) _) (inM_row 142 173 (rr_141 _) rfl rfl)
  exact F.trans (rX3_takeReports_85 Hrc4 Hrc42 hf)
theorem rX3_takeReports_91 {S' : mT} {r : Int32} {rc4 : Int32 → Int32 → mT → Option (Int32 × mT)} (Hrc4 : ∀ (v2 : Int32) (v3 : Int32) (S : mT), rc4 v2 v3 S = some (r, S') → Fr (inM 999999 LX3_takeReports) S S') {v2 : Int32} {v3 : Int32} {S : mT} (hf : fX3_takeReports_91 rc4 v2 v3 S = some (r, S')) : Fr (inM 999999 LX3_takeReports) S S' := by
  unfold fX3_takeReports_91 at hf
  obtain ⟨x3, -, hf⟩ := bnd_ex hf
  exact (Fr.rfl (inM 999999 LX3_takeReports) _).trans (Hrc4 _ _ _ hf)
theorem rX3_takeReports_42 {S' : mT} {r : Int32} {rc4 : Int32 → Int32 → mT → Option (Int32 × mT)} (Hrc4 : ∀ (v2 : Int32) (v3 : Int32) (S : mT), rc4 v2 v3 S = some (r, S') → Fr (inM 999999 LX3_takeReports) S S') : ∀ (k : Nat) (v2 : Int32) (v3 : Int32) (v4 : Int32) (v5 : Int32) (S : mT), fX3_takeReports_42 rc4 k v2 v3 v4 v5 S = some (r, S') → Fr (inM 999999 LX3_takeReports) S S' := by
  intro k
  induction k with
  | zero =>
    intro v2 v3 v4 v5 S hf
    cases hf
  | succ k ih =>
    intro v2 v3 v4 v5 S hf
    unfold fX3_takeReports_42 at hf
    by_cases hc : (35 : Int32) < v5
    · rw [if_pos hc] at hf
      exact (Fr.rfl (inM 999999 LX3_takeReports) _).trans (rX3_takeReports_91 Hrc4 hf)
    · rw [if_neg hc] at hf
      obtain ⟨-, hf⟩ := grd_ex hf
      by_cases hc : v5 < (S.1 116 (mIx v3))
      · rw [if_pos hc] at hf
        exact (Fr.rfl (inM 999999 LX3_takeReports) _).trans (rX3_takeReports_71 Hrc4 ih hf)
      · rw [if_neg hc] at hf
        obtain ⟨-, hf⟩ := grd_ex hf
        by_cases hc : v5 ≤ (S.1 117 (mIx v3))
        · rw [if_pos hc] at hf
          exact (Fr.rfl (inM 999999 LX3_takeReports) _).trans (rX3_takeReports_85 Hrc4 ih hf)
        · rw [if_neg hc] at hf
          exact (Fr.rfl (inM 999999 LX3_takeReports) _).trans (rX3_takeReports_71 Hrc4 ih hf)
theorem rX3_takeReports_4 {S' : mT} {r : Int32} : ∀ (k : Nat) (v2 : Int32) (v3 : Int32) (S : mT), fX3_takeReports_4 k v2 v3 S = some (r, S') → Fr (inM 999999 LX3_takeReports) S S' := by
  intro k
  induction k with
  | zero =>
    intro v2 v3 S hf
    cases hf
  | succ k ih =>
    intro v2 v3 S hf
    unfold fX3_takeReports_4 at hf
    obtain ⟨-, hf⟩ := grd_ex hf
    by_cases hc : (S.1 114 5) ≤ v3
    · rw [if_pos hc] at hf
      cases hf
      exact (Fr.rfl (inM 999999 LX3_takeReports) _)
    · rw [if_neg hc] at hf
      obtain ⟨-, hf⟩ := grd_ex hf
      by_cases hc : (((S.1 140 7) >>> (v3 &&& 31)) &&& (1 : Int32)) = (1 : Int32)
      · rw [if_pos hc] at hf
        obtain ⟨-, hf⟩ := grd_ex hf
        obtain ⟨x1, -, hf⟩ := bnd_ex hf
        obtain ⟨x2, -, hf⟩ := bnd_ex hf
        exact (Fr.rfl (inM 999999 LX3_takeReports) _).trans (rX3_takeReports_42 ih _ _ _ _ _ _ hf)
      · rw [if_neg hc] at hf
        exact (Fr.rfl (inM 999999 LX3_takeReports) _).trans (rX3_takeReports_91 ih hf)
theorem rX3_takeReports_0 {S' : mT} {r : Int32} {S : mT} (hf : fX3_takeReports S = some (r, S')) : Fr (inM 999999 LX3_takeReports) S S' := by
  unfold fX3_takeReports at hf
  exact (Fr.rfl (inM 999999 LX3_takeReports) _).trans (rX3_takeReports_4 _ _ _ _ hf)
theorem rX3_takeReports {S S' : mT} {r : Int32} (hf : fX3_takeReports S = some (r, S')) : Fr (inM 999999 LX3_takeReports) S S' := rX3_takeReports_0 hf
abbrev LX3_learn : List (Nat × Nat × Option Nat) := [(999999, 999999, none), (140, 140, some 5), (140, 140, some 6), (140, 140, some 7), (140, 140, some 8), (142, 173, none), (175, 175, none), (177, 181, none), (182, 182, none), (183, 183, none), (184, 184, none), (185, 185, none)]
theorem rX3_learn_42 {S' : mT} : ∀ (k : Nat) (v4 : Int32) (S : mT), fX3_learn_42 k v4 S = some S' → Fr (inM 999999 LX3_learn) S S' := by
  intro k
  induction k with
  | zero =>
    intro v4 S hf
    cases hf
  | succ k ih =>
    intro v4 S hf
    unfold fX3_learn_42 at hf
    by_cases hc : (32 : Int32) ≤ v4
    · rw [if_pos hc] at hf
      obtain ⟨-, hf⟩ := grd_ex hf
      obtain ⟨x5, S4, hq, hf⟩ := bndC_ex hf
      have F := (Fr.rfl (inM 999999 LX3_learn) _).trans ((rX3_takeReports hq).mono rfl (fun _ => rfl))
      obtain ⟨-, hf⟩ := grd_ex hf
      obtain ⟨x7, S6, hq, hf⟩ := bndC_ex hf
      have F := F.trans ((rX9_list_174 hq).mono rfl (fun _ => rfl))
      obtain ⟨S8, hq, hf⟩ := bndV_ex hf
      have F := F.trans ((rX3_countOwed hq).mono rfl (fun _ => rfl))
      obtain ⟨-, hf⟩ := grd_ex hf
      obtain ⟨x10, S9, hq, hf⟩ := bndC_ex hf
      have F := F.trans ((rJ6_bitCount_0f7a4 hq).mono rfl (fun _ => rfl))
      obtain ⟨-, hf⟩ := grd_ex hf
      obtain ⟨S11, eS11, hf⟩ := bnd_ex hf
      have F : Fr (inM 999999 LX3_learn) S S11 := by
        rw [eS11]
        exact Fr.sI F rfl
      obtain ⟨S12, hq, hf⟩ := bndV_ex hf
      have F := F.trans ((rX3_searchFrom 16 hq).mono rfl (fun _ => rfl))
      cases hf
      exact F
    · rw [if_neg hc] at hf
      obtain ⟨-, hf⟩ := grd_ex hf
      obtain ⟨S13, hq, hf⟩ := bndV_ex hf
      have F := (Fr.rfl (inM 999999 LX3_learn) _).trans ((rJ7_fill_53178 hq).mono rfl (fun _ => (inM_row 142 173 (rr_141 _) rfl rfl)))
      obtain ⟨x14, -, hf⟩ := bnd_ex hf
      exact F.trans (ih _ _ hf)
theorem rX3_learn_24 {S' : mT} {v2 : Int32} {v3 : Int32} {S : mT} (hf : fX3_learn_24 v2 v3 S = some S') : Fr (inM 999999 LX3_learn) S S' := by
  unfold fX3_learn_24 at hf
  obtain ⟨-, hf⟩ := grd_ex hf
  obtain ⟨S1, eS1, hf⟩ := bnd_ex hf
  have F : Fr (inM 999999 LX3_learn) S S1 := by
    rw [eS1]
    exact Fr.sI (Fr.rfl (inM 999999 LX3_learn) _) rfl
  obtain ⟨-, hf⟩ := grd_ex hf
  obtain ⟨S2, eS2, hf⟩ := bnd_ex hf
  have F : Fr (inM 999999 LX3_learn) S S2 := by
    rw [eS2]
    exact Fr.sI F rfl
  obtain ⟨-, hf⟩ := grd_ex hf
  obtain ⟨S3, eS3, hf⟩ := bnd_ex hf
  have F : Fr (inM 999999 LX3_learn) S S3 := by
    rw [eS3]
    exact Fr.sI F rfl
  exact F.trans (rX3_learn_42 _ _ _ hf)
theorem rX3_learn_0 {S' : mT} {v2 : Int32} {v3 : Int32} {S : mT} (hf : fX3_learn v2 v3 S = some S') : Fr (inM 999999 LX3_learn) S S' := by
  unfold fX3_learn at hf
  obtain ⟨-, hf⟩ := grd_ex hf
  by_cases hc : (S.1 140 8) = 0
  · rw [if_pos hc] at hf
    exact (Fr.rfl (inM 999999 LX3_learn) _).trans (rX3_learn_24 hf)
  · rw [if_neg hc] at hf
    obtain ⟨-, hf⟩ := grd_ex hf
    by_cases hc : (S.1 140 7) = v2
    · rw [if_pos hc] at hf
      obtain ⟨-, hf⟩ := grd_ex hf
      by_cases hc : (S.1 140 6) = v3
      · rw [if_pos hc] at hf
        cases hf
        exact (Fr.rfl (inM 999999 LX3_learn) _)
      · rw [if_neg hc] at hf
        exact (Fr.rfl (inM 999999 LX3_learn) _).trans (rX3_learn_24 hf)
    · rw [if_neg hc] at hf
      exact (Fr.rfl (inM 999999 LX3_learn) _).trans (rX3_learn_24 hf)
theorem rX3_learn {v2 : Int32} {v3 : Int32} {S S' : mT} (hf : fX3_learn v2 v3 S = some S') : Fr (inM 999999 LX3_learn) S S' := rX3_learn_0 hf
abbrev LX11_liars_f : List (Nat × Nat × Option Nat) := [(999999, 999999, none), (0, 0, some 13), (140, 140, some 5), (140, 140, some 6), (140, 140, some 7), (140, 140, some 8), (142, 173, none), (175, 175, none), (177, 181, none), (182, 182, none), (183, 183, none), (184, 184, none), (185, 185, none), (186, 186, none)]
theorem rX11_liars_0_f {S' : mT} {r : Int32} {v1 : Int32} {S : mT} (hf : fX11_liars false v1 S = some (r, S')) : Fr (inM 999999 LX11_liars_f) S S' := by
  unfold fX11_liars at hf
  obtain ⟨-, hf⟩ := grd_ex hf
  obtain ⟨x2, S1, hq, hf⟩ := bndC_ex hf
  have F := (Fr.rfl (inM 999999 LX11_liars_f) _).trans ((rX5_countingAt hq).mono rfl (fun _ => rfl))
  obtain ⟨-, hf⟩ := grd_ex hf
  obtain ⟨S3, hq, hf⟩ := bndV_ex hf
  have F := F.trans ((rX3_learn hq).mono rfl (fun _ => rfl))
  obtain ⟨-, hf⟩ := grd_ex hf
  obtain ⟨S4, hq, hf⟩ := bndV_ex hf
  have F := F.trans ((rX11_lay hq).mono rfl (fun _ => rfl))
  obtain ⟨-, hf⟩ := grd_ex hf
  cases hf
  exact F
theorem rX11_liars_f {v1 : Int32} {S S' : mT} {r : Int32} (hf : fX11_liars false v1 S = some (r, S')) : Fr (inM 999999 LX11_liars_f) S S' := rX11_liars_0_f hf
abbrev LX11_liars_t : List (Nat × Nat × Option Nat) := [(999999, 999999, none), (0, 0, some 13), (140, 140, some 5), (140, 140, some 6), (140, 140, some 7), (140, 140, some 8), (142, 173, none), (175, 175, none), (177, 181, none), (182, 182, none), (183, 183, none), (184, 184, none), (185, 185, none), (186, 186, none)]
theorem rX11_liars_0_t {S' : mT} {r : Int32} {v1 : Int32} {S : mT} (hf : fX11_liars true v1 S = some (r, S')) : Fr (inM 999999 LX11_liars_t) S S' := by
  unfold fX11_liars at hf
  obtain ⟨-, hf⟩ := grd_ex hf
  obtain ⟨x2, S1, hq, hf⟩ := bndC_ex hf
  have F := (Fr.rfl (inM 999999 LX11_liars_t) _).trans ((rX5_countingAt hq).mono rfl (fun _ => rfl))
  obtain ⟨-, hf⟩ := grd_ex hf
  obtain ⟨S3, hq, hf⟩ := bndV_ex hf
  have F := F.trans ((rX3_learn hq).mono rfl (fun _ => rfl))
  obtain ⟨-, hf⟩ := grd_ex hf
  obtain ⟨S4, hq, hf⟩ := bndV_ex hf
  have F := F.trans ((rX11_lay hq).mono rfl (fun _ => rfl))
  obtain ⟨-, hf⟩ := grd_ex hf
  cases hf
  exact F
theorem rX11_liars_t {v1 : Int32} {S S' : mT} {r : Int32} (hf : fX11_liars true v1 S = some (r, S')) : Fr (inM 999999 LX11_liars_t) S S' := rX11_liars_0_t hf
abbrev LX11_lies : List (Nat × Nat × Option Nat) := [(999999, 999999, none)]
theorem rX11_lies_22 {S' : mT} {r : Int32} {s0 : Int32} {S : mT} (hf : fX11_lies_22 s0 S = some (r, S')) : Fr (inM 999999 LX11_lies) S S' := by
  unfold fX11_lies_22 at hf
  cases hf
  exact (Fr.rfl (inM 999999 LX11_lies) _)
theorem rX11_lies_21 {S' : mT} {r : Int32} {S : mT} (hf : fX11_lies_21 S = some (r, S')) : Fr (inM 999999 LX11_lies) S S' := by
  unfold fX11_lies_21 at hf
  exact (Fr.rfl (inM 999999 LX11_lies) _).trans (rX11_lies_22 hf)
theorem rX11_lies_0 {S' : mT} {r : Int32} {v1 : Int32} {S : mT} (hf : fX11_lies v1 S = some (r, S')) : Fr (inM 999999 LX11_lies) S S' := by
  unfold fX11_lies at hf
  by_cases hc : v1 < 0
  · rw [if_pos hc] at hf
    exact (Fr.rfl (inM 999999 LX11_lies) _).trans (rX11_lies_21 hf)
  · rw [if_neg hc] at hf
    obtain ⟨-, hf⟩ := grd_ex hf
    by_cases hc : (S.1 0 13) ≤ v1
    · rw [if_pos hc] at hf
      exact (Fr.rfl (inM 999999 LX11_lies) _).trans (rX11_lies_21 hf)
    · rw [if_neg hc] at hf
      obtain ⟨-, hf⟩ := grd_ex hf
      exact (Fr.rfl (inM 999999 LX11_lies) _).trans (rX11_lies_22 hf)
theorem rX11_lies {v1 : Int32} {S S' : mT} {r : Int32} (hf : fX11_lies v1 S = some (r, S')) : Fr (inM 999999 LX11_lies) S S' := rX11_lies_0 hf
abbrev LX7_greatestRest : List (Nat × Nat × Option Nat) := [(999999, 999999, none)]
theorem rX7_greatestRest_29 {S' : mT} {r : Int32} {rc4 : Int32 → Int32 → mT → Option (Int32 × mT)} (Hrc4 : ∀ (v1 : Int32) (v2 : Int32) (S : mT), rc4 v1 v2 S = some (r, S') → Fr (inM 999999 LX7_greatestRest) S S') {v1 : Int32} {v2 : Int32} {S : mT} (hf : fX7_greatestRest_29 rc4 v1 v2 S = some (r, S')) : Fr (inM 999999 LX7_greatestRest) S S' := by
  unfold fX7_greatestRest_29 at hf
  obtain ⟨x1, -, hf⟩ := bnd_ex hf
  exact (Fr.rfl (inM 999999 LX7_greatestRest) _).trans (Hrc4 _ _ _ hf)
theorem rX7_greatestRest_4 {S' : mT} {r : Int32} : ∀ (k : Nat) (v1 : Int32) (v2 : Int32) (S : mT), fX7_greatestRest_4 k v1 v2 S = some (r, S') → Fr (inM 999999 LX7_greatestRest) S S' := by
  intro k
  induction k with
  | zero =>
    intro v1 v2 S hf
    cases hf
  | succ k ih =>
    intro v1 v2 S hf
    unfold fX7_greatestRest_4 at hf
    obtain ⟨-, hf⟩ := grd_ex hf
    by_cases hc : (S.1 109 4) ≤ v2
    · rw [if_pos hc] at hf
      cases hf
      exact (Fr.rfl (inM 999999 LX7_greatestRest) _)
    · rw [if_neg hc] at hf
      obtain ⟨-, hf⟩ := grd_ex hf
      by_cases hc : (S.1 112 (mIx v2)) ≤ (S.1 112 (mIx v1))
      · rw [if_pos hc] at hf
        exact (Fr.rfl (inM 999999 LX7_greatestRest) _).trans (rX7_greatestRest_29 ih hf)
      · rw [if_neg hc] at hf
        exact (Fr.rfl (inM 999999 LX7_greatestRest) _).trans (rX7_greatestRest_29 ih hf)
theorem rX7_greatestRest_0 {S' : mT} {r : Int32} {S : mT} (hf : fX7_greatestRest S = some (r, S')) : Fr (inM 999999 LX7_greatestRest) S S' := by
  unfold fX7_greatestRest at hf
  exact (Fr.rfl (inM 999999 LX7_greatestRest) _).trans (rX7_greatestRest_4 _ _ _ _ hf)
theorem rX7_greatestRest {S S' : mT} {r : Int32} (hf : fX7_greatestRest S = some (r, S')) : Fr (inM 999999 LX7_greatestRest) S S' := rX7_greatestRest_0 hf
abbrev LX7_shareByRests : List (Nat × Nat × Option Nat) := [(999999, 999999, none), (111, 111, none), (112, 112, none)]
theorem rX7_shareByRests_113 {S' : mT} {S : mT} (hf : fX7_shareByRests_113 S = some S') : Fr (inM 999999 LX7_shareByRests) S S' := by
  unfold fX7_shareByRests_113 at hf
  cases hf
  exact (Fr.rfl (inM 999999 LX7_shareByRests) _)
theorem rX7_shareByRests_70 {S' : mT} : ∀ (k : Nat) (v3 : Int32) (v4 : Int32) (S : mT), fX7_shareByRests_70 k v3 v4 S = some S' → Fr (inM 999999 LX7_shareByRests) S S' := by
  intro k
  induction k with
  | zero =>
    intro v3 v4 S hf
    cases hf
  | succ k ih =>
    intro v3 v4 S hf
    unfold fX7_shareByRests_70 at hf
    by_cases hc : v3 ≤ v4
    · rw [if_pos hc] at hf
      exact (Fr.rfl (inM 999999 LX7_shareByRests) _).trans (rX7_shareByRests_113 hf)
    · rw [if_neg hc] at hf
      by_cases hc : (5 : Int32) ≤ v4
      · rw [if_pos hc] at hf
        exact (Fr.rfl (inM 999999 LX7_shareByRests) _).trans (rX7_shareByRests_113 hf)
      · rw [if_neg hc] at hf
        obtain ⟨x7, S6, hq, hf⟩ := bndC_ex hf
        have F := (Fr.rfl (inM 999999 LX7_shareByRests) _).trans ((rX7_greatestRest hq).mono rfl (fun _ => rfl))
        obtain ⟨-, hf⟩ := grd_ex hf
        obtain ⟨S8, eS8, hf⟩ := bnd_ex hf
        have F : Fr (inM 999999 LX7_shareByRests) S S8 := by
          rw [eS8]
          exact Fr.sI F rfl
        obtain ⟨-, hf⟩ := grd_ex hf
        obtain ⟨S9, eS9, hf⟩ := bnd_ex hf
        have F : Fr (inM 999999 LX7_shareByRests) S S9 := by
          rw [eS9]
          exact Fr.sI F rfl
        obtain ⟨x10, -, hf⟩ := bnd_ex hf
        exact F.trans (ih _ _ _ hf)
theorem rX7_shareByRests_67 {S' : mT} {v3 : Int32} {S : mT} (hf : fX7_shareByRests_67 v3 S = some S') : Fr (inM 999999 LX7_shareByRests) S S' := by
  unfold fX7_shareByRests_67 at hf
  exact (Fr.rfl (inM 999999 LX7_shareByRests) _).trans (rX7_shareByRests_70 _ _ _ _ hf)
theorem rX7_shareByRests_5 {S' : mT} : ∀ (k : Nat) (v1 : Int32) (v2 : Int32) (v3 : Int32) (v4 : Int32) (S : mT), fX7_shareByRests_5 k v1 v2 v3 v4 S = some S' → Fr (inM 999999 LX7_shareByRests) S S' := by
  intro k
  induction k with
  | zero =>
    intro v1 v2 v3 v4 S hf
    cases hf
  | succ k ih =>
    intro v1 v2 v3 v4 S hf
    unfold fX7_shareByRests_5 at hf
    obtain ⟨-, hf⟩ := grd_ex hf
    by_cases hc : (S.1 109 4) ≤ v4
    · rw [if_pos hc] at hf
      exact (Fr.rfl (inM 999999 LX7_shareByRests) _).trans (rX7_shareByRests_67 hf)
    · rw [if_neg hc] at hf
      by_cases hc : v2 ≤ 0
      · rw [if_pos hc] at hf
        exact (Fr.rfl (inM 999999 LX7_shareByRests) _).trans (rX7_shareByRests_67 hf)
      · rw [if_neg hc] at hf
        obtain ⟨-, hf⟩ := grd_ex hf
        obtain ⟨x1, -, hf⟩ := bnd_ex hf
        obtain ⟨-, hf⟩ := grd_ex hf
        obtain ⟨S2, eS2, hf⟩ := bnd_ex hf
        have F : Fr (inM 999999 LX7_shareByRests) S S2 := by
          rw [eS2]
          exact Fr.sI (Fr.rfl (inM 999999 LX7_shareByRests) _) rfl
        obtain ⟨-, hf⟩ := grd_ex hf
        obtain ⟨S3, eS3, hf⟩ := bnd_ex hf
        have F : Fr (inM 999999 LX7_shareByRests) S S3 := by
          rw [eS3]
          exact Fr.sI F rfl
        obtain ⟨-, hf⟩ := grd_ex hf
        obtain ⟨x4, -, hf⟩ := bnd_ex hf
        obtain ⟨x5, -, hf⟩ := bnd_ex hf
        exact F.trans (ih _ _ _ _ _ hf)
theorem rX7_shareByRests_0 {S' : mT} {v1 : Int32} {v2 : Int32} {S : mT} (hf : fX7_shareByRests v1 v2 S = some S') : Fr (inM 999999 LX7_shareByRests) S S' := by
  unfold fX7_shareByRests at hf
  exact (Fr.rfl (inM 999999 LX7_shareByRests) _).trans (rX7_shareByRests_5 _ _ _ _ _ _ hf)
theorem rX7_shareByRests {v1 : Int32} {v2 : Int32} {S S' : mT} (hf : fX7_shareByRests v1 v2 S = some S') : Fr (inM 999999 LX7_shareByRests) S S' := rX7_shareByRests_0 hf
abbrev LX7_shareOneByOne : List (Nat × Nat × Option Nat) := [(999999, 999999, none), (111, 111, none)]
theorem rX7_shareOneByOne_59 {S' : mT} {rc2 : Int32 → Int32 → mT → Option (mT)} (Hrc2 : ∀ (v1 : Int32) (v2 : Int32) (S : mT), rc2 v1 v2 S = some S' → Fr (inM 999999 LX7_shareOneByOne) S S') {rc12 : Int32 → Int32 → Int32 → Int32 → mT → Option (mT)} (Hrc12 : ∀ (v1 : Int32) (v2 : Int32) (v3 : Int32) (v4 : Int32) (S : mT), rc12 v1 v2 v3 v4 S = some S' → Fr (inM 999999 LX7_shareOneByOne) S S') {v1 : Int32} {v2 : Int32} {v3 : Int32} {v4 : Int32} {S : mT} (hf : fX7_shareOneByOne_59 rc2 rc12 v1 v2 v3 v4 S = some S') : Fr (inM 999999 LX7_shareOneByOne) S S' := by
  unfold fX7_shareOneByOne_59 at hf
  obtain ⟨x3, -, hf⟩ := bnd_ex hf
  exact (Fr.rfl (inM 999999 LX7_shareOneByOne) _).trans (Hrc12 _ _ _ _ _ hf)
theorem rX7_shareOneByOne_12 {S' : mT} {rc2 : Int32 → Int32 → mT → Option (mT)} (Hrc2 : ∀ (v1 : Int32) (v2 : Int32) (S : mT), rc2 v1 v2 S = some S' → Fr (inM 999999 LX7_shareOneByOne) S S') : ∀ (k : Nat) (v1 : Int32) (v2 : Int32) (v3 : Int32) (v4 : Int32) (S : mT), fX7_shareOneByOne_12 rc2 k v1 v2 v3 v4 S = some S' → Fr (inM 999999 LX7_shareOneByOne) S S' := by
  intro k
  induction k with
  | zero =>
    intro v1 v2 v3 v4 S hf
    cases hf
  | succ k ih =>
    intro v1 v2 v3 v4 S hf
    unfold fX7_shareOneByOne_12 at hf
    obtain ⟨-, hf⟩ := grd_ex hf
    by_cases hc : (S.1 109 4) ≤ v4
    · rw [if_pos hc] at hf
      obtain ⟨-, hf⟩ := grd_ex hf
      obtain ⟨S1, eS1, hf⟩ := bnd_ex hf
      have F : Fr (inM 999999 LX7_shareOneByOne) S S1 := by
        rw [eS1]
        exact Fr.sI (Fr.rfl (inM 999999 LX7_shareOneByOne) _) rfl
      obtain ⟨x2, -, hf⟩ := bnd_ex hf
      exact F.trans (Hrc2 _ _ _ hf)
    · rw [if_neg hc] at hf
      obtain ⟨-, hf⟩ := grd_ex hf
      obtain ⟨-, hf⟩ := grd_ex hf
      by_cases hc : ((S.1 110 (mIx v4)) * ((S.1 111 (mIx v3)) + (1 : Int32))) ≤ ((S.1 110 (mIx v3)) * ((S.1 111 (mIx v4)) + (1 : Int32)))
      · rw [if_pos hc] at hf
        exact (Fr.rfl (inM 999999 LX7_shareOneByOne) _).trans (rX7_shareOneByOne_59 Hrc2 ih hf)
      · rw [if_neg hc] at hf
        exact (Fr.rfl (inM 999999 LX7_shareOneByOne) _).trans (rX7_shareOneByOne_59 Hrc2 ih hf)
theorem rX7_shareOneByOne_2 {S' : mT} : ∀ (k : Nat) (v1 : Int32) (v2 : Int32) (S : mT), fX7_shareOneByOne_2 k v1 v2 S = some S' → Fr (inM 999999 LX7_shareOneByOne) S S' := by
  intro k
  induction k with
  | zero =>
    intro v1 v2 S hf
    cases hf
  | succ k ih =>
    intro v1 v2 S hf
    unfold fX7_shareOneByOne_2 at hf
    by_cases hc : v1 ≤ v2
    · rw [if_pos hc] at hf
      cases hf
      exact (Fr.rfl (inM 999999 LX7_shareOneByOne) _)
    · rw [if_neg hc] at hf
      exact (Fr.rfl (inM 999999 LX7_shareOneByOne) _).trans (rX7_shareOneByOne_12 ih _ _ _ _ _ _ hf)
theorem rX7_shareOneByOne_0 {S' : mT} {v1 : Int32} {S : mT} (hf : fX7_shareOneByOne v1 S = some S') : Fr (inM 999999 LX7_shareOneByOne) S S' := by
  unfold fX7_shareOneByOne at hf
  exact (Fr.rfl (inM 999999 LX7_shareOneByOne) _).trans (rX7_shareOneByOne_2 _ _ _ _ hf)
theorem rX7_shareOneByOne {v1 : Int32} {S S' : mT} (hf : fX7_shareOneByOne v1 S = some S') : Fr (inM 999999 LX7_shareOneByOne) S S' := rX7_shareOneByOne_0 hf
abbrev LX7_share : List (Nat × Nat × Option Nat) := [(999999, 999999, none), (111, 111, none), (112, 112, none)]
theorem rX7_share_61 {S' : mT} {S : mT} (hf : fX7_share_61 S = some S') : Fr (inM 999999 LX7_share) S S' := by
  unfold fX7_share_61 at hf
  cases hf
  exact (Fr.rfl (inM 999999 LX7_share) _)
theorem rX7_share_5 {S' : mT} : ∀ (k : Nat) (v1 : Int32) (v2 : Int32) (v3 : Int32) (v4 : Int32) (S : mT), fX7_share_5 k v1 v2 v3 v4 S = some S' → Fr (inM 999999 LX7_share) S S' := by
  intro k
  induction k with
  | zero =>
    intro v1 v2 v3 v4 S hf
    cases hf
  | succ k ih =>
    intro v1 v2 v3 v4 S hf
    unfold fX7_share_5 at hf
    obtain ⟨-, hf⟩ := grd_ex hf
    by_cases hc : (S.1 109 4) ≤ v4
    · rw [if_pos hc] at hf
      by_cases hc : v3 = 0
      · rw [if_pos hc] at hf
        cases hf
        exact (Fr.rfl (inM 999999 LX7_share) _)
      · rw [if_neg hc] at hf
        by_cases hc : v2 = 0
        · rw [if_pos hc] at hf
          obtain ⟨S1, hq, hf⟩ := bndV_ex hf
          have F := (Fr.rfl (inM 999999 LX7_share) _).trans ((rX7_shareByRests hq).mono rfl (fun _ => rfl))
          exact F.trans (rX7_share_61 hf)
        · rw [if_neg hc] at hf
          obtain ⟨S2, hq, hf⟩ := bndV_ex hf
          have F := (Fr.rfl (inM 999999 LX7_share) _).trans ((rX7_shareOneByOne hq).mono rfl (fun _ => rfl))
          exact F.trans (rX7_share_61 hf)
    · rw [if_neg hc] at hf
      obtain ⟨-, hf⟩ := grd_ex hf
      obtain ⟨x3, -, hf⟩ := bnd_ex hf
      obtain ⟨-, hf⟩ := grd_ex hf
      obtain ⟨S4, eS4, hf⟩ := bnd_ex hf
      have F : Fr (inM 999999 LX7_share) S S4 := by
        rw [eS4]
        exact Fr.sI (Fr.rfl (inM 999999 LX7_share) _) rfl
      obtain ⟨x5, -, hf⟩ := bnd_ex hf
      exact F.trans (ih _ _ _ _ _ hf)
theorem rX7_share_0 {S' : mT} {v1 : Int32} {v2 : Int32} {S : mT} (hf : fX7_share v1 v2 S = some S') : Fr (inM 999999 LX7_share) S S' := by
  unfold fX7_share at hf
  exact (Fr.rfl (inM 999999 LX7_share) _).trans (rX7_share_5 _ _ _ _ _ _ hf)
theorem rX7_share {v1 : Int32} {v2 : Int32} {S S' : mT} (hf : fX7_share v1 v2 S = some S') : Fr (inM 999999 LX7_share) S S' := rX7_share_0 hf
abbrev LX7_firstLoser : List (Nat × Nat × Option Nat) := [(999999, 999999, none), (111, 111, none), (112, 112, none), (113, 113, none)]
theorem rX7_firstLoser_33 {S' : mT} {r : Int32} : ∀ (k : Nat) (v2 : Int32) (S : mT), fX7_firstLoser_33 k v2 S = some (r, S') → Fr (inM 999999 LX7_firstLoser) S S' := by
  intro k
  induction k with
  | zero =>
    intro v2 S hf
    cases hf
  | succ k ih =>
    intro v2 S hf
    unfold fX7_firstLoser_33 at hf
    obtain ⟨-, hf⟩ := grd_ex hf
    by_cases hc : (S.1 109 4) ≤ v2
    · rw [if_pos hc] at hf
      cases hf
      exact (Fr.rfl (inM 999999 LX7_firstLoser) _)
    · rw [if_neg hc] at hf
      obtain ⟨-, hf⟩ := grd_ex hf
      by_cases hc : (S.1 113 (mIx v2)) ≤ (S.1 111 (mIx v2))
      · rw [if_pos hc] at hf
        obtain ⟨x4, -, hf⟩ := bnd_ex hf
        exact (Fr.rfl (inM 999999 LX7_firstLoser) _).trans (ih _ _ hf)
      · rw [if_neg hc] at hf
        cases hf
        exact (Fr.rfl (inM 999999 LX7_firstLoser) _)
theorem rX7_firstLoser_0 {S' : mT} {r : Int32} {v1 : Int32} {S : mT} (hf : fX7_firstLoser v1 S = some (r, S')) : Fr (inM 999999 LX7_firstLoser) S S' := by
  unfold fX7_firstLoser at hf
  obtain ⟨S1, hq, hf⟩ := bndV_ex hf
  have F := (Fr.rfl (inM 999999 LX7_firstLoser) _).trans ((rX7_share hq).mono rfl (fun _ => rfl))
  obtain ⟨-, hf⟩ := grd_ex hf
  obtain ⟨S2, eS2, hf⟩ := bnd_ex hf
  have F : Fr (inM 999999 LX7_firstLoser) S S2 := by
    rw [eS2]
    exact Fr.sC F (fun _ => rfl)
  obtain ⟨S3, hq, hf⟩ := bndV_ex hf
  have F := F.trans ((rX7_share hq).mono rfl (fun _ => rfl))
  exact F.trans (rX7_firstLoser_33 _ _ _ hf)
theorem rX7_firstLoser {v1 : Int32} {S S' : mT} {r : Int32} (hf : fX7_firstLoser v1 S = some (r, S')) : Fr (inM 999999 LX7_firstLoser) S S' := rX7_firstLoser_0 hf
abbrev LX7_look : List (Nat × Nat × Option Nat) := [(999999, 999999, none), (109, 109, some 4), (110, 110, none)]
theorem rX7_look_0 {a1 : Nat} {S' : mT} {v2 : Int32} {S : mT} (hf : fX7_look a1 v2 S = some S') : Fr (inM 999999 LX7_look) S S' := by
  unfold fX7_look at hf
  obtain ⟨-, hf⟩ := grd_ex hf
  obtain ⟨S1, eS1, hf⟩ := bnd_ex hf
  have F : Fr (inM 999999 LX7_look) S S1 := by
    rw [eS1]
    exact Fr.sI (Fr.rfl (inM 999999 LX7_look) _) rfl
  obtain ⟨-, hf⟩ := grd_ex hf
  obtain ⟨S2, eS2, hf⟩ := bnd_ex hf
  have F : Fr (inM 999999 LX7_look) S S2 := by
    rw [eS2]
    exact Fr.sC F (fun _ => rfl)
  cases hf
  exact F
theorem rX7_look {a1 : Nat} {v2 : Int32} {S S' : mT} (hf : fX7_look a1 v2 S = some S') : Fr (inM 999999 LX7_look) S S' := rX7_look_0 hf
abbrev LX11_loss_f : List (Nat × Nat × Option Nat) := [(999999, 999999, none), (109, 109, some 4), (110, 110, none), (111, 111, none), (112, 112, none), (113, 113, none)]
theorem rX11_loss_60_f {S' : mT} {r : Int32} {s0 : Int32} {S : mT} (hf : fX11_loss_60 false s0 S = some (r, S')) : Fr (inM 999999 LX11_loss_f) S S' := by
  unfold fX11_loss_60 at hf
  cases hf
  exact (Fr.rfl (inM 999999 LX11_loss_f) _)
theorem rX11_loss_31_f {S' : mT} {r : Int32} : ∀ (k : Nat) (v1 : Int32) (v2 : Int32) (S : mT), fX11_loss_31 false k v1 v2 S = some (r, S') → Fr (inM 999999 LX11_loss_f) S S' := by
  intro k
  induction k with
  | zero =>
    intro v1 v2 S hf
    cases hf
  | succ k ih =>
    intro v1 v2 S hf
    unfold fX11_loss_31 at hf
    by_cases hc : (20 : Int32) < v2
    · rw [if_pos hc] at hf
      cases hf
      exact (Fr.rfl (inM 999999 LX11_loss_f) _)
    · rw [if_neg hc] at hf
      obtain ⟨-, hf⟩ := grd_ex hf
      obtain ⟨x5, S4, hq, hf⟩ := bndC_ex hf
      have F := (Fr.rfl (inM 999999 LX11_loss_f) _).trans ((rX7_firstLoser hq).mono rfl (fun _ => rfl))
      by_cases hc : x5 = (-1 : Int32)
      · rw [if_pos hc] at hf
        obtain ⟨x6, -, hf⟩ := bnd_ex hf
        exact F.trans (ih _ _ _ hf)
      · rw [if_neg hc] at hf
        by_cases hc : v1 = 0
        · rw [if_pos hc] at hf
          exact F.trans (rX11_loss_60_f hf)
        · rw [if_neg hc] at hf
          exact F.trans (rX11_loss_60_f hf)
theorem rX11_loss_0_f {S' : mT} {r : Int32} {v1 : Int32} {S : mT} (hf : fX11_loss false v1 S = some (r, S')) : Fr (inM 999999 LX11_loss_f) S S' := by
  unfold fX11_loss at hf
  obtain ⟨x2, S1, hq, hf⟩ := bndC_ex hf
  have F := (Fr.rfl (inM 999999 LX11_loss_f) _).trans ((rX11_isWithin hq).mono rfl (fun _ => rfl))
  by_cases hc : x2 = 0
  · rw [if_pos hc] at hf
    cases hf
    exact F
  · rw [if_neg hc] at hf
    obtain ⟨-, hf⟩ := grd_ex hf
    obtain ⟨S3, hq, hf⟩ := bndV_ex hf
    have F := F.trans ((rX7_look hq).mono rfl (fun _ => rfl))
    exact F.trans (rX11_loss_31_f _ _ _ _ hf)
theorem rX11_loss_f {v1 : Int32} {S S' : mT} {r : Int32} (hf : fX11_loss false v1 S = some (r, S')) : Fr (inM 999999 LX11_loss_f) S S' := rX11_loss_0_f hf
abbrev LX11_loss_t : List (Nat × Nat × Option Nat) := [(999999, 999999, none), (109, 109, some 4), (110, 110, none), (111, 111, none), (112, 112, none), (113, 113, none)]
theorem rX11_loss_60_t {S' : mT} {r : Int32} {s0 : Int32} {S : mT} (hf : fX11_loss_60 true s0 S = some (r, S')) : Fr (inM 999999 LX11_loss_t) S S' := by
  unfold fX11_loss_60 at hf
  cases hf
  exact (Fr.rfl (inM 999999 LX11_loss_t) _)
theorem rX11_loss_31_t {S' : mT} {r : Int32} : ∀ (k : Nat) (v1 : Int32) (v2 : Int32) (S : mT), fX11_loss_31 true k v1 v2 S = some (r, S') → Fr (inM 999999 LX11_loss_t) S S' := by
  intro k
  induction k with
  | zero =>
    intro v1 v2 S hf
    cases hf
  | succ k ih =>
    intro v1 v2 S hf
    unfold fX11_loss_31 at hf
    by_cases hc : (20 : Int32) < v2
    · rw [if_pos hc] at hf
      cases hf
      exact (Fr.rfl (inM 999999 LX11_loss_t) _)
    · rw [if_neg hc] at hf
      obtain ⟨-, hf⟩ := grd_ex hf
      obtain ⟨x5, S4, hq, hf⟩ := bndC_ex hf
      have F := (Fr.rfl (inM 999999 LX11_loss_t) _).trans ((rX7_firstLoser hq).mono rfl (fun _ => rfl))
      by_cases hc : x5 = (-1 : Int32)
      · rw [if_pos hc] at hf
        obtain ⟨x6, -, hf⟩ := bnd_ex hf
        exact F.trans (ih _ _ _ hf)
      · rw [if_neg hc] at hf
        by_cases hc : v1 = 0
        · rw [if_pos hc] at hf
          exact F.trans (rX11_loss_60_t hf)
        · rw [if_neg hc] at hf
          exact F.trans (rX11_loss_60_t hf)
theorem rX11_loss_0_t {S' : mT} {r : Int32} {v1 : Int32} {S : mT} (hf : fX11_loss true v1 S = some (r, S')) : Fr (inM 999999 LX11_loss_t) S S' := by
  unfold fX11_loss at hf
  obtain ⟨x2, S1, hq, hf⟩ := bndC_ex hf
  have F := (Fr.rfl (inM 999999 LX11_loss_t) _).trans ((rX11_isWithin hq).mono rfl (fun _ => rfl))
  by_cases hc : x2 = 0
  · rw [if_pos hc] at hf
    cases hf
    exact F
  · rw [if_neg hc] at hf
    obtain ⟨-, hf⟩ := grd_ex hf
    obtain ⟨S3, hq, hf⟩ := bndV_ex hf
    have F := F.trans ((rX7_look hq).mono rfl (fun _ => rfl))
    exact F.trans (rX11_loss_31_t _ _ _ _ hf)
theorem rX11_loss_t {v1 : Int32} {S S' : mT} {r : Int32} (hf : fX11_loss true v1 S = some (r, S')) : Fr (inM 999999 LX11_loss_t) S S' := rX11_loss_0_t hf
abbrev LX11_marks : List (Nat × Nat × Option Nat) := [(999999, 999999, none)]
theorem rX11_marks_20 {S' : mT} {r : Int32} {S : mT} (hf : fX11_marks_20 S = some (r, S')) : Fr (inM 999999 LX11_marks) S S' := by
  unfold fX11_marks_20 at hf
  cases hf
  exact (Fr.rfl (inM 999999 LX11_marks) _)
theorem rX11_marks_36 {S' : mT} {r : Int32} {S : mT} (hf : fX11_marks_36 S = some (r, S')) : Fr (inM 999999 LX11_marks) S S' := by
  unfold fX11_marks_36 at hf
  cases hf
  exact (Fr.rfl (inM 999999 LX11_marks) _)
theorem rX11_marks_83 {S' : mT} {r : Int32} {v5 : Int32} {S : mT} (hf : fX11_marks_83 v5 S = some (r, S')) : Fr (inM 999999 LX11_marks) S S' := by
  unfold fX11_marks_83 at hf
  cases hf
  exact (Fr.rfl (inM 999999 LX11_marks) _)
theorem rX11_marks_55 {S' : mT} {r : Int32} : ∀ (k : Nat) (v1 : Int32) (v2 : Int32) (v3 : Int32) (v5 : Int32) (v6 : Int32) (S : mT), fX11_marks_55 k v1 v2 v3 v5 v6 S = some (r, S') → Fr (inM 999999 LX11_marks) S S' := by
  intro k
  induction k with
  | zero =>
    intro v1 v2 v3 v5 v6 S hf
    cases hf
  | succ k ih =>
    intro v1 v2 v3 v5 v6 S hf
    unfold fX11_marks_55 at hf
    by_cases hc : (200 : Int32) < v6
    · rw [if_pos hc] at hf
      exact (Fr.rfl (inM 999999 LX11_marks) _).trans (rX11_marks_83 hf)
    · rw [if_neg hc] at hf
      by_cases hc : (v1 * v2) ≤ (v6 * v3)
      · rw [if_pos hc] at hf
        exact (Fr.rfl (inM 999999 LX11_marks) _).trans (rX11_marks_83 hf)
      · rw [if_neg hc] at hf
        obtain ⟨x7, -, hf⟩ := bnd_ex hf
        exact (Fr.rfl (inM 999999 LX11_marks) _).trans (ih _ _ _ _ _ _ hf)
theorem rX11_marks_0 {S' : mT} {r : Int32} {v1 : Int32} {v2 : Int32} {v3 : Int32} {S : mT} (hf : fX11_marks v1 v2 v3 S = some (r, S')) : Fr (inM 999999 LX11_marks) S S' := by
  unfold fX11_marks at hf
  obtain ⟨x2, S1, hq, hf⟩ := bndC_ex hf
  have F := (Fr.rfl (inM 999999 LX11_marks) _).trans ((rX11_isWithin hq).mono rfl (fun _ => rfl))
  by_cases hc : x2 = 0
  · rw [if_pos hc] at hf
    exact F.trans (rX11_marks_20 hf)
  · rw [if_neg hc] at hf
    obtain ⟨x4, S3, hq, hf⟩ := bndC_ex hf
    have F := F.trans ((rX11_isWithin hq).mono rfl (fun _ => rfl))
    by_cases hc : x4 = 0
    · rw [if_pos hc] at hf
      exact F.trans (rX11_marks_20 hf)
    · rw [if_neg hc] at hf
      by_cases hc : v3 < 0
      · rw [if_pos hc] at hf
        exact F.trans (rX11_marks_36 hf)
      · rw [if_neg hc] at hf
        by_cases hc : v1 < v3
        · rw [if_pos hc] at hf
          exact F.trans (rX11_marks_36 hf)
        · rw [if_neg hc] at hf
          by_cases hc : v3 ≤ v2
          · rw [if_pos hc] at hf
            obtain ⟨x5, -, hf⟩ := bnd_ex hf
            obtain ⟨x6, -, hf⟩ := bnd_ex hf
            exact F.trans (rX11_marks_55 _ _ _ _ _ _ _ hf)
          · rw [if_neg hc] at hf
            exact F.trans (rX11_marks_36 hf)
theorem rX11_marks {v1 : Int32} {v2 : Int32} {v3 : Int32} {S S' : mT} {r : Int32} (hf : fX11_marks v1 v2 v3 S = some (r, S')) : Fr (inM 999999 LX11_marks) S S' := rX11_marks_0 hf
abbrev LX11_missed_f : List (Nat × Nat × Option Nat) := [(999999, 999999, none)]
theorem rX11_missed_49_f {S' : mT} {r : Int32} {rc14 : Int32 → Int32 → Int32 → Int32 → mT → Option (Int32 × mT)} (Hrc14 : ∀ (v1 : Int32) (v2 : Int32) (v3 : Int32) (v4 : Int32) (S : mT), rc14 v1 v2 v3 v4 S = some (r, S') → Fr (inM 999999 LX11_missed_f) S S') {v1 : Int32} {v2 : Int32} {v3 : Int32} {v4 : Int32} {S : mT} (hf : fX11_missed_49 false rc14 v1 v2 v3 v4 S = some (r, S')) : Fr (inM 999999 LX11_missed_f) S S' := by
  unfold fX11_missed_49 at hf
  obtain ⟨x4, -, hf⟩ := bnd_ex hf
  exact (Fr.rfl (inM 999999 LX11_missed_f) _).trans (Hrc14 _ _ _ _ _ hf)
theorem rX11_missed_14_f {S' : mT} {r : Int32} : ∀ (k : Nat) (v1 : Int32) (v2 : Int32) (v3 : Int32) (v4 : Int32) (S : mT), fX11_missed_14 false k v1 v2 v3 v4 S = some (r, S') → Fr (inM 999999 LX11_missed_f) S S' := by
  intro k
  induction k with
  | zero =>
    intro v1 v2 v3 v4 S hf
    cases hf
  | succ k ih =>
    intro v1 v2 v3 v4 S hf
    unfold fX11_missed_14 at hf
    obtain ⟨-, hf⟩ := grd_ex hf
    by_cases hc : (S.1 (shU false) 9) ≤ v4
    · rw [if_pos hc] at hf
      cases hf
      exact (Fr.rfl (inM 999999 LX11_missed_f) _)
    · rw [if_neg hc] at hf
      obtain ⟨-, hf⟩ := grd_ex hf
      by_cases hc : (v2 - (S.1 35 (mIx ((10 : Int32) + v4)))) = v1
      · rw [if_pos hc] at hf
        obtain ⟨x3, -, hf⟩ := bnd_ex hf
        exact (Fr.rfl (inM 999999 LX11_missed_f) _).trans (rX11_missed_49_f ih hf)
      · rw [if_neg hc] at hf
        exact (Fr.rfl (inM 999999 LX11_missed_f) _).trans (rX11_missed_49_f ih hf)
theorem rX11_missed_0_f {S' : mT} {r : Int32} {v1 : Int32} {S : mT} (hf : fX11_missed false v1 S = some (r, S')) : Fr (inM 999999 LX11_missed_f) S S' := by
  unfold fX11_missed at hf
  obtain ⟨-, hf⟩ := grd_ex hf
  obtain ⟨x2, S1, hq, hf⟩ := bndC_ex hf
  have F := (Fr.rfl (inM 999999 LX11_missed_f) _).trans ((rX11_allBowls_f hq).mono rfl (fun _ => rfl))
  exact F.trans (rX11_missed_14_f _ _ _ _ _ _ hf)
theorem rX11_missed_f {v1 : Int32} {S S' : mT} {r : Int32} (hf : fX11_missed false v1 S = some (r, S')) : Fr (inM 999999 LX11_missed_f) S S' := rX11_missed_0_f hf
abbrev LX11_missed_t : List (Nat × Nat × Option Nat) := [(999999, 999999, none)]
theorem rX11_missed_49_t {S' : mT} {r : Int32} {rc14 : Int32 → Int32 → Int32 → Int32 → mT → Option (Int32 × mT)} (Hrc14 : ∀ (v1 : Int32) (v2 : Int32) (v3 : Int32) (v4 : Int32) (S : mT), rc14 v1 v2 v3 v4 S = some (r, S') → Fr (inM 999999 LX11_missed_t) S S') {v1 : Int32} {v2 : Int32} {v3 : Int32} {v4 : Int32} {S : mT} (hf : fX11_missed_49 true rc14 v1 v2 v3 v4 S = some (r, S')) : Fr (inM 999999 LX11_missed_t) S S' := by
  unfold fX11_missed_49 at hf
  obtain ⟨x4, -, hf⟩ := bnd_ex hf
  exact (Fr.rfl (inM 999999 LX11_missed_t) _).trans (Hrc14 _ _ _ _ _ hf)
theorem rX11_missed_14_t {S' : mT} {r : Int32} : ∀ (k : Nat) (v1 : Int32) (v2 : Int32) (v3 : Int32) (v4 : Int32) (S : mT), fX11_missed_14 true k v1 v2 v3 v4 S = some (r, S') → Fr (inM 999999 LX11_missed_t) S S' := by
  intro k
  induction k with
  | zero =>
    intro v1 v2 v3 v4 S hf
    cases hf
  | succ k ih =>
    intro v1 v2 v3 v4 S hf
    unfold fX11_missed_14 at hf
    obtain ⟨-, hf⟩ := grd_ex hf
    by_cases hc : (S.1 (shU true) 9) ≤ v4
    · rw [if_pos hc] at hf
      cases hf
      exact (Fr.rfl (inM 999999 LX11_missed_t) _)
    · rw [if_neg hc] at hf
      obtain ⟨-, hf⟩ := grd_ex hf
      by_cases hc : (v2 - (S.1 35 (mIx ((10 : Int32) + v4)))) = v1
      · rw [if_pos hc] at hf
        obtain ⟨x3, -, hf⟩ := bnd_ex hf
        exact (Fr.rfl (inM 999999 LX11_missed_t) _).trans (rX11_missed_49_t ih hf)
      · rw [if_neg hc] at hf
        exact (Fr.rfl (inM 999999 LX11_missed_t) _).trans (rX11_missed_49_t ih hf)
theorem rX11_missed_0_t {S' : mT} {r : Int32} {v1 : Int32} {S : mT} (hf : fX11_missed true v1 S = some (r, S')) : Fr (inM 999999 LX11_missed_t) S S' := by
  unfold fX11_missed at hf
  obtain ⟨-, hf⟩ := grd_ex hf
  obtain ⟨x2, S1, hq, hf⟩ := bndC_ex hf
  have F := (Fr.rfl (inM 999999 LX11_missed_t) _).trans ((rX11_allBowls_t hq).mono rfl (fun _ => rfl))
  exact F.trans (rX11_missed_14_t _ _ _ _ _ _ hf)
theorem rX11_missed_t {v1 : Int32} {S S' : mT} {r : Int32} (hf : fX11_missed true v1 S = some (r, S')) : Fr (inM 999999 LX11_missed_t) S S' := rX11_missed_0_t hf
abbrev LX11_moves_f : List (Nat × Nat × Option Nat) := [(999999, 999999, none), (35, 35, none), (37, 37, some 3), (37, 37, some 4), (37, 37, some 5), (39, 79, none)]
theorem rX11_moves_21_f {S' : mT} {r : Int32} {S : mT} (hf : fX11_moves_21 false S = some (r, S')) : Fr (inM 999999 LX11_moves_f) S S' := by
  unfold fX11_moves_21 at hf
  cases hf
  exact (Fr.rfl (inM 999999 LX11_moves_f) _)
theorem rX11_moves_47_f {S' : mT} {r : Int32} {S : mT} (hf : fX11_moves_47 false S = some (r, S')) : Fr (inM 999999 LX11_moves_f) S S' := by
  unfold fX11_moves_47 at hf
  cases hf
  exact (Fr.rfl (inM 999999 LX11_moves_f) _)
theorem rX11_moves_0_f {S' : mT} {r : Int32} {v1 : Int32} {v2 : Int32} {S : mT} (hf : fX11_moves false v1 v2 S = some (r, S')) : Fr (inM 999999 LX11_moves_f) S S' := by
  unfold fX11_moves at hf
  obtain ⟨x2, S1, hq, hf⟩ := bndC_ex hf
  have F := (Fr.rfl (inM 999999 LX11_moves_f) _).trans ((rX11_isHouse_f hq).mono rfl (fun _ => rfl))
  by_cases hc : x2 = 0
  · rw [if_pos hc] at hf
    exact F.trans (rX11_moves_21_f hf)
  · rw [if_neg hc] at hf
    obtain ⟨x4, S3, hq, hf⟩ := bndC_ex hf
    have F := F.trans ((rX11_isHouse_f hq).mono rfl (fun _ => rfl))
    by_cases hc : x4 = 0
    · rw [if_pos hc] at hf
      exact F.trans (rX11_moves_21_f hf)
    · rw [if_neg hc] at hf
      by_cases hc : v1 = v2
      · rw [if_pos hc] at hf
        exact F.trans (rX11_moves_21_f hf)
      · rw [if_neg hc] at hf
        obtain ⟨-, hf⟩ := grd_ex hf
        by_cases hc : (S3.1 35 (mIx ((0 : Int32) + v1))) ≤ 0
        · rw [if_pos hc] at hf
          exact F.trans (rX11_moves_47_f hf)
        · rw [if_neg hc] at hf
          obtain ⟨-, hf⟩ := grd_ex hf
          by_cases hc : (S3.1 35 (mIx ((0 : Int32) + v2))) < (7 : Int32)
          · rw [if_pos hc] at hf
            obtain ⟨S5, hq, hf⟩ := bndV_ex hf
            have F := F.trans ((rX11_leaveOne hq).mono rfl (fun _ => rfl))
            obtain ⟨-, hf⟩ := grd_ex hf
            obtain ⟨S6, eS6, hf⟩ := bnd_ex hf
            have F : Fr (inM 999999 LX11_moves_f) S S6 := by
              rw [eS6]
              exact Fr.sI F rfl
            obtain ⟨-, hf⟩ := grd_ex hf
            obtain ⟨S7, hq, hf⟩ := bndV_ex hf
            have F := F.trans ((rX2_keep hq).mono rfl (fun _ => rfl))
            obtain ⟨-, hf⟩ := grd_ex hf
            cases hf
            exact F
          · rw [if_neg hc] at hf
            exact F.trans (rX11_moves_47_f hf)
theorem rX11_moves_f {v1 : Int32} {v2 : Int32} {S S' : mT} {r : Int32} (hf : fX11_moves false v1 v2 S = some (r, S')) : Fr (inM 999999 LX11_moves_f) S S' := rX11_moves_0_f hf
abbrev LX11_moves_t : List (Nat × Nat × Option Nat) := [(999999, 999999, none), (35, 35, none), (37, 37, some 3), (37, 37, some 4), (37, 37, some 5), (39, 79, none)]
theorem rX11_moves_21_t {S' : mT} {r : Int32} {S : mT} (hf : fX11_moves_21 true S = some (r, S')) : Fr (inM 999999 LX11_moves_t) S S' := by
  unfold fX11_moves_21 at hf
  cases hf
  exact (Fr.rfl (inM 999999 LX11_moves_t) _)
theorem rX11_moves_47_t {S' : mT} {r : Int32} {S : mT} (hf : fX11_moves_47 true S = some (r, S')) : Fr (inM 999999 LX11_moves_t) S S' := by
  unfold fX11_moves_47 at hf
  cases hf
  exact (Fr.rfl (inM 999999 LX11_moves_t) _)
theorem rX11_moves_0_t {S' : mT} {r : Int32} {v1 : Int32} {v2 : Int32} {S : mT} (hf : fX11_moves true v1 v2 S = some (r, S')) : Fr (inM 999999 LX11_moves_t) S S' := by
  unfold fX11_moves at hf
  obtain ⟨x2, S1, hq, hf⟩ := bndC_ex hf
  have F := (Fr.rfl (inM 999999 LX11_moves_t) _).trans ((rX11_isHouse_t hq).mono rfl (fun _ => rfl))
  by_cases hc : x2 = 0
  · rw [if_pos hc] at hf
    exact F.trans (rX11_moves_21_t hf)
  · rw [if_neg hc] at hf
    obtain ⟨x4, S3, hq, hf⟩ := bndC_ex hf
    have F := F.trans ((rX11_isHouse_t hq).mono rfl (fun _ => rfl))
    by_cases hc : x4 = 0
    · rw [if_pos hc] at hf
      exact F.trans (rX11_moves_21_t hf)
    · rw [if_neg hc] at hf
      by_cases hc : v1 = v2
      · rw [if_pos hc] at hf
        exact F.trans (rX11_moves_21_t hf)
      · rw [if_neg hc] at hf
        obtain ⟨-, hf⟩ := grd_ex hf
        by_cases hc : (S3.1 35 (mIx ((0 : Int32) + v1))) ≤ 0
        · rw [if_pos hc] at hf
          exact F.trans (rX11_moves_47_t hf)
        · rw [if_neg hc] at hf
          obtain ⟨-, hf⟩ := grd_ex hf
          by_cases hc : (S3.1 35 (mIx ((0 : Int32) + v2))) < (7 : Int32)
          · rw [if_pos hc] at hf
            obtain ⟨S5, hq, hf⟩ := bndV_ex hf
            have F := F.trans ((rX11_leaveOne hq).mono rfl (fun _ => rfl))
            obtain ⟨-, hf⟩ := grd_ex hf
            obtain ⟨S6, eS6, hf⟩ := bnd_ex hf
            have F : Fr (inM 999999 LX11_moves_t) S S6 := by
              rw [eS6]
              exact Fr.sI F rfl
            obtain ⟨-, hf⟩ := grd_ex hf
            obtain ⟨S7, hq, hf⟩ := bndV_ex hf
            have F := F.trans ((rX2_keep hq).mono rfl (fun _ => rfl))
            obtain ⟨-, hf⟩ := grd_ex hf
            cases hf
            exact F
          · rw [if_neg hc] at hf
            exact F.trans (rX11_moves_47_t hf)
theorem rX11_moves_t {v1 : Int32} {v2 : Int32} {S S' : mT} {r : Int32} (hf : fX11_moves true v1 v2 S = some (r, S')) : Fr (inM 999999 LX11_moves_t) S S' := rX11_moves_0_t hf
abbrev LX6_busyWith : List (Nat × Nat × Option Nat) := [(999999, 999999, none), (104, 104, none), (105, 105, none)]
theorem rX6_busyWith_0 {S' : mT} {r : Int32} {v1 : Int32} {v2 : Int32} {S : mT} (hf : fX6_busyWith v1 v2 S = some (r, S')) : Fr (inM 999999 LX6_busyWith) S S' := by
  unfold fX6_busyWith at hf
  obtain ⟨-, hf⟩ := grd_ex hf
  obtain ⟨-, hf⟩ := grd_ex hf
  obtain ⟨x1, -, hf⟩ := bnd_ex hf
  obtain ⟨-, hf⟩ := grd_ex hf
  obtain ⟨S2, eS2, hf⟩ := bnd_ex hf
  have F : Fr (inM 999999 LX6_busyWith) S S2 := by
    rw [eS2]
    exact Fr.sI (Fr.rfl (inM 999999 LX6_busyWith) _) rfl
  obtain ⟨-, hf⟩ := grd_ex hf
  obtain ⟨-, hf⟩ := grd_ex hf
  obtain ⟨S3, eS3, hf⟩ := bnd_ex hf
  have F : Fr (inM 999999 LX6_busyWith) S S3 := by
    rw [eS3]
    exact Fr.sI F rfl
  obtain ⟨-, hf⟩ := grd_ex hf
  cases hf
  exact F
theorem rX6_busyWith {v1 : Int32} {v2 : Int32} {S S' : mT} {r : Int32} (hf : fX6_busyWith v1 v2 S = some (r, S')) : Fr (inM 999999 LX6_busyWith) S S' := rX6_busyWith_0 hf
abbrev LX6_putBack : List (Nat × Nat × Option Nat) := [(999999, 999999, none), (104, 104, none), (105, 105, none)]
theorem rX6_putBack_0 {S' : mT} {v1 : Int32} {v2 : Int32} {v3 : Int32} {S : mT} (hf : fX6_putBack v1 v2 v3 S = some S') : Fr (inM 999999 LX6_putBack) S S' := by
  unfold fX6_putBack at hf
  obtain ⟨-, hf⟩ := grd_ex hf
  obtain ⟨S1, eS1, hf⟩ := bnd_ex hf
  have F : Fr (inM 999999 LX6_putBack) S S1 := by
    rw [eS1]
    exact Fr.sI (Fr.rfl (inM 999999 LX6_putBack) _) rfl
  obtain ⟨-, hf⟩ := grd_ex hf
  obtain ⟨-, hf⟩ := grd_ex hf
  obtain ⟨S2, eS2, hf⟩ := bnd_ex hf
  have F : Fr (inM 999999 LX6_putBack) S S2 := by
    rw [eS2]
    exact Fr.sI F rfl
  cases hf
  exact F
theorem rX6_putBack {v1 : Int32} {v2 : Int32} {v3 : Int32} {S S' : mT} (hf : fX6_putBack v1 v2 v3 S = some S') : Fr (inM 999999 LX6_putBack) S S' := rX6_putBack_0 hf
abbrev LX6_soonestFrom : List (Nat × Nat × Option Nat) := [(999999, 999999, none), (104, 104, none), (105, 105, none)]
theorem rX6_soonestFrom_93 {self : Int32 → Int32 → Int32 → Int32 → mT → Option (Int32 × mT)} (Hself : ∀ {v1 : Int32} {v2 : Int32} {v3 : Int32} {v4 : Int32} {S S' : mT} {r : Int32}, self v1 v2 v3 v4 S = some (r, S') → Fr (inM 999999 LX6_soonestFrom) S S') {S' : mT} {r : Int32} {v5 : Int32} {S : mT} (hf : fX6_soonestFrom_93 self v5 S = some (r, S')) : Fr (inM 999999 LX6_soonestFrom) S S' := by
  unfold fX6_soonestFrom_93 at hf
  cases hf
  exact (Fr.rfl (inM 999999 LX6_soonestFrom) _)
theorem rX6_soonestFrom_18 {self : Int32 → Int32 → Int32 → Int32 → mT → Option (Int32 × mT)} (Hself : ∀ {v1 : Int32} {v2 : Int32} {v3 : Int32} {v4 : Int32} {S S' : mT} {r : Int32}, self v1 v2 v3 v4 S = some (r, S') → Fr (inM 999999 LX6_soonestFrom) S S') {S' : mT} {r : Int32} : ∀ (k : Nat) (v1 : Int32) (v2 : Int32) (v3 : Int32) (v4 : Int32) (v5 : Int32) (v6 : Int32) (S : mT), fX6_soonestFrom_18 self k v1 v2 v3 v4 v5 v6 S = some (r, S') → Fr (inM 999999 LX6_soonestFrom) S S' := by
  intro k
  induction k with
  | zero =>
    intro v1 v2 v3 v4 v5 v6 S hf
    cases hf
  | succ k ih =>
    intro v1 v2 v3 v4 v5 v6 S hf
    unfold fX6_soonestFrom_18 at hf
    by_cases hc : v2 < v6
    · rw [if_pos hc] at hf
      exact (Fr.rfl (inM 999999 LX6_soonestFrom) _).trans (rX6_soonestFrom_93 Hself hf)
    · rw [if_neg hc] at hf
      by_cases hc : v3 ≤ v6
      · rw [if_pos hc] at hf
        exact (Fr.rfl (inM 999999 LX6_soonestFrom) _).trans (rX6_soonestFrom_93 Hself hf)
      · rw [if_neg hc] at hf
        obtain ⟨-, hf⟩ := grd_ex hf
        obtain ⟨x1, -, hf⟩ := bnd_ex hf
        obtain ⟨x3, S2, hq, hf⟩ := bndC_ex hf
        have F := (Fr.rfl (inM 999999 LX6_soonestFrom) _).trans ((rX6_busyWith hq).mono rfl (fun _ => rfl))
        obtain ⟨x4, -, hf⟩ := bnd_ex hf
        obtain ⟨x5, -, hf⟩ := bnd_ex hf
        obtain ⟨x7, S6, hq, hf⟩ := bndC_ex hf
        have F := F.trans (Hself hq)
        obtain ⟨x8, -, hf⟩ := bnd_ex hf
        obtain ⟨S9, hq, hf⟩ := bndV_ex hf
        have F := F.trans ((rX6_putBack hq).mono rfl (fun _ => rfl))
        obtain ⟨x10, -, hf⟩ := bnd_ex hf
        exact F.trans (ih _ _ _ _ _ _ _ hf)
theorem rX6_soonestFrom_0 {self : Int32 → Int32 → Int32 → Int32 → mT → Option (Int32 × mT)} (Hself : ∀ {v1 : Int32} {v2 : Int32} {v3 : Int32} {v4 : Int32} {S S' : mT} {r : Int32}, self v1 v2 v3 v4 S = some (r, S') → Fr (inM 999999 LX6_soonestFrom) S S') {S' : mT} {r : Int32} {v1 : Int32} {v2 : Int32} {v3 : Int32} {v4 : Int32} {S : mT} (hf : fX6_soonestFrom_0 self v1 v2 v3 v4 S = some (r, S')) : Fr (inM 999999 LX6_soonestFrom) S S' := by
  unfold fX6_soonestFrom_0 at hf
  obtain ⟨-, hf⟩ := grd_ex hf
  by_cases hc : v1 < (S.1 100 8)
  · rw [if_pos hc] at hf
    exact (Fr.rfl (inM 999999 LX6_soonestFrom) _).trans (rX6_soonestFrom_18 Hself _ _ _ _ _ _ _ _ hf)
  · rw [if_neg hc] at hf
    cases hf
    exact (Fr.rfl (inM 999999 LX6_soonestFrom) _)
theorem rX6_soonestFrom : ∀ (d : Nat) {v1 : Int32} {v2 : Int32} {v3 : Int32} {v4 : Int32} {S S' : mT} {r : Int32} (hf : fX6_soonestFrom d v1 v2 v3 v4 S = some (r, S')), Fr (inM 999999 LX6_soonestFrom) S S' := by
  intro d
  induction d with
  | zero =>
    intro v1 v2 v3 v4 S S' r hf
    cases hf
  | succ d ih =>
    intro v1 v2 v3 v4 S S' r hf
    exact rX6_soonestFrom_0 ih hf
abbrev LX6_firstNoon : List (Nat × Nat × Option Nat) := [(999999, 999999, none), (104, 104, none), (105, 105, none)]
theorem rX6_firstNoon_0 {S' : mT} {r : Int32} {v1 : Int32} {S : mT} (hf : fX6_firstNoon v1 S = some (r, S')) : Fr (inM 999999 LX6_firstNoon) S S' := by
  unfold fX6_firstNoon at hf
  obtain ⟨x2, S1, hq, hf⟩ := bndC_ex hf
  have F := (Fr.rfl (inM 999999 LX6_firstNoon) _).trans ((rX6_soonestFrom 16 hq).mono rfl (fun _ => rfl))
  cases hf
  exact F
theorem rX6_firstNoon {v1 : Int32} {S S' : mT} {r : Int32} (hf : fX6_firstNoon v1 S = some (r, S')) : Fr (inM 999999 LX6_firstNoon) S S' := rX6_firstNoon_0 hf
abbrev LX11_noon_f : List (Nat × Nat × Option Nat) := [(999999, 999999, none), (100, 100, some 8), (101, 101, none), (102, 102, none), (104, 104, none), (105, 105, none)]
theorem rX11_noon_19_f {S' : mT} {r : Int32} {S : mT} (hf : fX11_noon_19 false S = some (r, S')) : Fr (inM 999999 LX11_noon_f) S S' := by
  unfold fX11_noon_19 at hf
  cases hf
  exact (Fr.rfl (inM 999999 LX11_noon_f) _)
theorem rX11_noon_0_f {S' : mT} {r : Int32} {v1 : Int32} {S : mT} (hf : fX11_noon false v1 S = some (r, S')) : Fr (inM 999999 LX11_noon_f) S S' := by
  unfold fX11_noon at hf
  obtain ⟨x2, S1, hq, hf⟩ := bndC_ex hf
  have F := (Fr.rfl (inM 999999 LX11_noon_f) _).trans ((rX11_isWithin hq).mono rfl (fun _ => rfl))
  by_cases hc : x2 = 0
  · rw [if_pos hc] at hf
    exact F.trans (rX11_noon_19_f hf)
  · rw [if_neg hc] at hf
    obtain ⟨-, hf⟩ := grd_ex hf
    by_cases hc : (S1.1 (shU false) 9) = 0
    · rw [if_pos hc] at hf
      exact F.trans (rX11_noon_19_f hf)
    · rw [if_neg hc] at hf
      obtain ⟨-, hf⟩ := grd_ex hf
      obtain ⟨S3, hq, hf⟩ := bndV_ex hf
      have F := F.trans ((rX6_look_3 hq).mono rfl (fun _ => rfl))
      obtain ⟨-, hf⟩ := grd_ex hf
      obtain ⟨x5, S4, hq, hf⟩ := bndC_ex hf
      have F := F.trans ((rX6_firstNoon hq).mono rfl (fun _ => rfl))
      cases hf
      exact F
theorem rX11_noon_f {v1 : Int32} {S S' : mT} {r : Int32} (hf : fX11_noon false v1 S = some (r, S')) : Fr (inM 999999 LX11_noon_f) S S' := rX11_noon_0_f hf
abbrev LX11_noon_t : List (Nat × Nat × Option Nat) := [(999999, 999999, none), (100, 100, some 8), (101, 101, none), (102, 102, none), (104, 104, none), (105, 105, none)]
theorem rX11_noon_19_t {S' : mT} {r : Int32} {S : mT} (hf : fX11_noon_19 true S = some (r, S')) : Fr (inM 999999 LX11_noon_t) S S' := by
  unfold fX11_noon_19 at hf
  cases hf
  exact (Fr.rfl (inM 999999 LX11_noon_t) _)
theorem rX11_noon_0_t {S' : mT} {r : Int32} {v1 : Int32} {S : mT} (hf : fX11_noon true v1 S = some (r, S')) : Fr (inM 999999 LX11_noon_t) S S' := by
  unfold fX11_noon at hf
  obtain ⟨x2, S1, hq, hf⟩ := bndC_ex hf
  have F := (Fr.rfl (inM 999999 LX11_noon_t) _).trans ((rX11_isWithin hq).mono rfl (fun _ => rfl))
  by_cases hc : x2 = 0
  · rw [if_pos hc] at hf
    exact F.trans (rX11_noon_19_t hf)
  · rw [if_neg hc] at hf
    obtain ⟨-, hf⟩ := grd_ex hf
    by_cases hc : (S1.1 (shU true) 9) = 0
    · rw [if_pos hc] at hf
      exact F.trans (rX11_noon_19_t hf)
    · rw [if_neg hc] at hf
      obtain ⟨-, hf⟩ := grd_ex hf
      obtain ⟨S3, hq, hf⟩ := bndV_ex hf
      have F := F.trans ((rX6_look_19 hq).mono rfl (fun _ => rfl))
      obtain ⟨-, hf⟩ := grd_ex hf
      obtain ⟨x5, S4, hq, hf⟩ := bndC_ex hf
      have F := F.trans ((rX6_firstNoon hq).mono rfl (fun _ => rfl))
      cases hf
      exact F
theorem rX11_noon_t {v1 : Int32} {S S' : mT} {r : Int32} (hf : fX11_noon true v1 S = some (r, S')) : Fr (inM 999999 LX11_noon_t) S S' := rX11_noon_0_t hf
abbrev LX11_odds_f : List (Nat × Nat × Option Nat) := [(999999, 999999, none), (120, 120, some 8), (120, 120, some 9), (120, 120, some 10), (120, 120, some 11), (120, 120, some 12), (120, 120, some 13), (120, 120, some 14), (122, 126, none), (127, 127, none), (128, 128, none), (130, 130, none), (132, 136, none), (137, 137, none)]
theorem rX11_odds_27_f {S' : mT} {r : Int32} {S : mT} (hf : fX11_odds_27 false S = some (r, S')) : Fr (inM 999999 LX11_odds_f) S S' := by
  unfold fX11_odds_27 at hf
  cases hf
  exact (Fr.rfl (inM 999999 LX11_odds_f) _)
theorem rX11_odds_90_f {S' : mT} {r : Int32} {v5 : Int32} {s0 : Int32} {S : mT} (hf : fX11_odds_90 false v5 s0 S = some (r, S')) : Fr (inM 999999 LX11_odds_f) S S' := by
  unfold fX11_odds_90 at hf
  obtain ⟨-, hf⟩ := grd_ex hf
  cases hf
  exact (Fr.rfl (inM 999999 LX11_odds_f) _)
theorem rX11_odds_0_f {S' : mT} {r : Int32} {v1 : Int32} {v2 : Int32} {v3 : Int32} {v4 : Int32} {S : mT} (hf : fX11_odds false v1 v2 v3 v4 S = some (r, S')) : Fr (inM 999999 LX11_odds_f) S S' := by
  unfold fX11_odds at hf
  obtain ⟨x2, S1, hq, hf⟩ := bndC_ex hf
  have F := (Fr.rfl (inM 999999 LX11_odds_f) _).trans ((rX11_isHouse_f hq).mono rfl (fun _ => rfl))
  by_cases hc : x2 = 0
  · rw [if_pos hc] at hf
    exact F.trans (rX11_odds_27_f hf)
  · rw [if_neg hc] at hf
    obtain ⟨x4, S3, hq, hf⟩ := bndC_ex hf
    have F := F.trans ((rX11_isWithin hq).mono rfl (fun _ => rfl))
    by_cases hc : x4 = 0
    · rw [if_pos hc] at hf
      exact F.trans (rX11_odds_27_f hf)
    · rw [if_neg hc] at hf
      obtain ⟨x6, S5, hq, hf⟩ := bndC_ex hf
      have F := F.trans ((rX11_isWithin hq).mono rfl (fun _ => rfl))
      by_cases hc : x6 = 0
      · rw [if_pos hc] at hf
        exact F.trans (rX11_odds_27_f hf)
      · rw [if_neg hc] at hf
        obtain ⟨S7, hq, hf⟩ := bndV_ex hf
        have F := F.trans ((rX11_learn_f hq).mono rfl (fun _ => rfl))
        obtain ⟨-, hf⟩ := grd_ex hf
        obtain ⟨x9, S8, hq, hf⟩ := bndC_ex hf
        have F := F.trans ((rX11_commonDivisor hq).mono rfl (fun _ => rfl))
        by_cases hc : x9 = 0
        · rw [if_pos hc] at hf
          cases hf
          exact F
        · rw [if_neg hc] at hf
          by_cases hc : v3 = 0
          · rw [if_pos hc] at hf
            obtain ⟨-, hf⟩ := grd_ex hf
            exact F.trans (rX11_odds_90_f hf)
          · rw [if_neg hc] at hf
            obtain ⟨-, hf⟩ := grd_ex hf
            exact F.trans (rX11_odds_90_f hf)
theorem rX11_odds_f {v1 : Int32} {v2 : Int32} {v3 : Int32} {v4 : Int32} {S S' : mT} {r : Int32} (hf : fX11_odds false v1 v2 v3 v4 S = some (r, S')) : Fr (inM 999999 LX11_odds_f) S S' := rX11_odds_0_f hf
abbrev LX11_odds_t : List (Nat × Nat × Option Nat) := [(999999, 999999, none), (120, 120, some 8), (120, 120, some 9), (120, 120, some 10), (120, 120, some 11), (120, 120, some 12), (120, 120, some 13), (120, 120, some 14), (122, 126, none), (127, 127, none), (128, 128, none), (130, 130, none), (132, 136, none), (137, 137, none)]
theorem rX11_odds_27_t {S' : mT} {r : Int32} {S : mT} (hf : fX11_odds_27 true S = some (r, S')) : Fr (inM 999999 LX11_odds_t) S S' := by
  unfold fX11_odds_27 at hf
  cases hf
  exact (Fr.rfl (inM 999999 LX11_odds_t) _)
theorem rX11_odds_90_t {S' : mT} {r : Int32} {v5 : Int32} {s0 : Int32} {S : mT} (hf : fX11_odds_90 true v5 s0 S = some (r, S')) : Fr (inM 999999 LX11_odds_t) S S' := by
  unfold fX11_odds_90 at hf
  obtain ⟨-, hf⟩ := grd_ex hf
  cases hf
  exact (Fr.rfl (inM 999999 LX11_odds_t) _)
theorem rX11_odds_0_t {S' : mT} {r : Int32} {v1 : Int32} {v2 : Int32} {v3 : Int32} {v4 : Int32} {S : mT} (hf : fX11_odds true v1 v2 v3 v4 S = some (r, S')) : Fr (inM 999999 LX11_odds_t) S S' := by
  unfold fX11_odds at hf
  obtain ⟨x2, S1, hq, hf⟩ := bndC_ex hf
  have F := (Fr.rfl (inM 999999 LX11_odds_t) _).trans ((rX11_isHouse_t hq).mono rfl (fun _ => rfl))
  by_cases hc : x2 = 0
  · rw [if_pos hc] at hf
    exact F.trans (rX11_odds_27_t hf)
  · rw [if_neg hc] at hf
    obtain ⟨x4, S3, hq, hf⟩ := bndC_ex hf
    have F := F.trans ((rX11_isWithin hq).mono rfl (fun _ => rfl))
    by_cases hc : x4 = 0
    · rw [if_pos hc] at hf
      exact F.trans (rX11_odds_27_t hf)
    · rw [if_neg hc] at hf
      obtain ⟨x6, S5, hq, hf⟩ := bndC_ex hf
      have F := F.trans ((rX11_isWithin hq).mono rfl (fun _ => rfl))
      by_cases hc : x6 = 0
      · rw [if_pos hc] at hf
        exact F.trans (rX11_odds_27_t hf)
      · rw [if_neg hc] at hf
        obtain ⟨S7, hq, hf⟩ := bndV_ex hf
        have F := F.trans ((rX11_learn_t hq).mono rfl (fun _ => rfl))
        obtain ⟨-, hf⟩ := grd_ex hf
        obtain ⟨x9, S8, hq, hf⟩ := bndC_ex hf
        have F := F.trans ((rX11_commonDivisor hq).mono rfl (fun _ => rfl))
        by_cases hc : x9 = 0
        · rw [if_pos hc] at hf
          cases hf
          exact F
        · rw [if_neg hc] at hf
          by_cases hc : v3 = 0
          · rw [if_pos hc] at hf
            obtain ⟨-, hf⟩ := grd_ex hf
            exact F.trans (rX11_odds_90_t hf)
          · rw [if_neg hc] at hf
            obtain ⟨-, hf⟩ := grd_ex hf
            exact F.trans (rX11_odds_90_t hf)
theorem rX11_odds_t {v1 : Int32} {v2 : Int32} {v3 : Int32} {v4 : Int32} {S S' : mT} {r : Int32} (hf : fX11_odds true v1 v2 v3 v4 S = some (r, S')) : Fr (inM 999999 LX11_odds_t) S S' := rX11_odds_0_t hf
abbrev LX2_emptyBoxes : List (Nat × Nat × Option Nat) := [(999999, 999999, none), (84, 84, none)]
theorem rX2_emptyBoxes_2 {S' : mT} : ∀ (k : Nat) (v1 : Int32) (S : mT), fX2_emptyBoxes_2 k v1 S = some S' → Fr (inM 999999 LX2_emptyBoxes) S S' := by
  intro k
  induction k with
  | zero =>
    intro v1 S hf
    cases hf
  | succ k ih =>
    intro v1 S hf
    unfold fX2_emptyBoxes_2 at hf
    by_cases hc : (3 : Int32) ≤ v1
    · rw [if_pos hc] at hf
      cases hf
      exact (Fr.rfl (inM 999999 LX2_emptyBoxes) _)
    · rw [if_neg hc] at hf
      obtain ⟨-, hf⟩ := grd_ex hf
      obtain ⟨S1, eS1, hf⟩ := bnd_ex hf
      have F : Fr (inM 999999 LX2_emptyBoxes) S S1 := by
        rw [eS1]
        exact Fr.sI (Fr.rfl (inM 999999 LX2_emptyBoxes) _) rfl
      obtain ⟨x2, -, hf⟩ := bnd_ex hf
      exact F.trans (ih _ _ hf)
theorem rX2_emptyBoxes_0 {S' : mT} {S : mT} (hf : fX2_emptyBoxes S = some S') : Fr (inM 999999 LX2_emptyBoxes) S S' := by
  unfold fX2_emptyBoxes at hf
  exact (Fr.rfl (inM 999999 LX2_emptyBoxes) _).trans (rX2_emptyBoxes_2 _ _ _ hf)
theorem rX2_emptyBoxes {S S' : mT} (hf : fX2_emptyBoxes S = some S') : Fr (inM 999999 LX2_emptyBoxes) S S' := rX2_emptyBoxes_0 hf
abbrev LX3_forget : List (Nat × Nat × Option Nat) := [(999999, 999999, none), (140, 140, some 8)]
theorem rX3_forget_0 {S' : mT} {S : mT} (hf : fX3_forget S = some S') : Fr (inM 999999 LX3_forget) S S' := by
  unfold fX3_forget at hf
  obtain ⟨-, hf⟩ := grd_ex hf
  obtain ⟨S1, eS1, hf⟩ := bnd_ex hf
  have F : Fr (inM 999999 LX3_forget) S S1 := by
    rw [eS1]
    exact Fr.sI (Fr.rfl (inM 999999 LX3_forget) _) rfl
  cases hf
  exact F
theorem rX3_forget {S S' : mT} (hf : fX3_forget S = some S') : Fr (inM 999999 LX3_forget) S S' := rX3_forget_0 hf
abbrev LX4_isDigitAt : List (Nat × Nat × Option Nat) := [(999999, 999999, none)]
theorem rX4_isDigitAt_35 {S' : mT} {r : Int32} {s0 : Int32} {S : mT} (hf : fX4_isDigitAt_35 s0 S = some (r, S')) : Fr (inM 999999 LX4_isDigitAt) S S' := by
  unfold fX4_isDigitAt_35 at hf
  obtain ⟨-, hf⟩ := grd_ex hf
  cases hf
  exact (Fr.rfl (inM 999999 LX4_isDigitAt) _)
theorem rX4_isDigitAt_34 {S' : mT} {r : Int32} {S : mT} (hf : fX4_isDigitAt_34 S = some (r, S')) : Fr (inM 999999 LX4_isDigitAt) S S' := by
  unfold fX4_isDigitAt_34 at hf
  exact (Fr.rfl (inM 999999 LX4_isDigitAt) _).trans (rX4_isDigitAt_35 hf)
theorem rX4_isDigitAt_0 {S' : mT} {r : Int32} {v1 : Int32} {S : mT} (hf : fX4_isDigitAt v1 S = some (r, S')) : Fr (inM 999999 LX4_isDigitAt) S S' := by
  unfold fX4_isDigitAt at hf
  obtain ⟨-, hf⟩ := grd_ex hf
  by_cases hc : (S.1 1 1) ≤ v1
  · rw [if_pos hc] at hf
    exact (Fr.rfl (inM 999999 LX4_isDigitAt) _).trans (rX4_isDigitAt_34 hf)
  · rw [if_neg hc] at hf
    obtain ⟨-, hf⟩ := grd_ex hf
    by_cases hc : (S.1 2 (mIx v1)) < (48 : Int32)
    · rw [if_pos hc] at hf
      exact (Fr.rfl (inM 999999 LX4_isDigitAt) _).trans (rX4_isDigitAt_34 hf)
    · rw [if_neg hc] at hf
      obtain ⟨-, hf⟩ := grd_ex hf
      by_cases hc : (57 : Int32) < (S.1 2 (mIx v1))
      · rw [if_pos hc] at hf
        exact (Fr.rfl (inM 999999 LX4_isDigitAt) _).trans (rX4_isDigitAt_34 hf)
      · rw [if_neg hc] at hf
        exact (Fr.rfl (inM 999999 LX4_isDigitAt) _).trans (rX4_isDigitAt_35 hf)
theorem rX4_isDigitAt {v1 : Int32} {S S' : mT} {r : Int32} (hf : fX4_isDigitAt v1 S = some (r, S')) : Fr (inM 999999 LX4_isDigitAt) S S' := rX4_isDigitAt_0 hf
abbrev LX4_isLetterAt : List (Nat × Nat × Option Nat) := [(999999, 999999, none)]
theorem rX4_isLetterAt_35 {S' : mT} {r : Int32} {s0 : Int32} {S : mT} (hf : fX4_isLetterAt_35 s0 S = some (r, S')) : Fr (inM 999999 LX4_isLetterAt) S S' := by
  unfold fX4_isLetterAt_35 at hf
  obtain ⟨-, hf⟩ := grd_ex hf
  cases hf
  exact (Fr.rfl (inM 999999 LX4_isLetterAt) _)
theorem rX4_isLetterAt_34 {S' : mT} {r : Int32} {S : mT} (hf : fX4_isLetterAt_34 S = some (r, S')) : Fr (inM 999999 LX4_isLetterAt) S S' := by
  unfold fX4_isLetterAt_34 at hf
  exact (Fr.rfl (inM 999999 LX4_isLetterAt) _).trans (rX4_isLetterAt_35 hf)
theorem rX4_isLetterAt_0 {S' : mT} {r : Int32} {v1 : Int32} {S : mT} (hf : fX4_isLetterAt v1 S = some (r, S')) : Fr (inM 999999 LX4_isLetterAt) S S' := by
  unfold fX4_isLetterAt at hf
  obtain ⟨-, hf⟩ := grd_ex hf
  by_cases hc : (S.1 1 1) ≤ v1
  · rw [if_pos hc] at hf
    exact (Fr.rfl (inM 999999 LX4_isLetterAt) _).trans (rX4_isLetterAt_34 hf)
  · rw [if_neg hc] at hf
    obtain ⟨-, hf⟩ := grd_ex hf
    by_cases hc : (S.1 2 (mIx v1)) < (97 : Int32)
    · rw [if_pos hc] at hf
      exact (Fr.rfl (inM 999999 LX4_isLetterAt) _).trans (rX4_isLetterAt_34 hf)
    · rw [if_neg hc] at hf
      obtain ⟨-, hf⟩ := grd_ex hf
      by_cases hc : (122 : Int32) < (S.1 2 (mIx v1))
      · rw [if_pos hc] at hf
        exact (Fr.rfl (inM 999999 LX4_isLetterAt) _).trans (rX4_isLetterAt_34 hf)
      · rw [if_neg hc] at hf
        exact (Fr.rfl (inM 999999 LX4_isLetterAt) _).trans (rX4_isLetterAt_35 hf)
theorem rX4_isLetterAt {v1 : Int32} {S S' : mT} {r : Int32} (hf : fX4_isLetterAt v1 S = some (r, S')) : Fr (inM 999999 LX4_isLetterAt) S S' := rX4_isLetterAt_0 hf
abbrev LX4_refuse : List (Nat × Nat × Option Nat) := [(999999, 999999, none), (1, 1, some 2), (1, 1, some 3), (1, 1, some 4)]
theorem rX4_refuse_20 {S' : mT} {S : mT} (hf : fX4_refuse_20 S = some S') : Fr (inM 999999 LX4_refuse) S S' := by
  unfold fX4_refuse_20 at hf
  obtain ⟨-, hf⟩ := grd_ex hf
  obtain ⟨S3, eS3, hf⟩ := bnd_ex hf
  have F : Fr (inM 999999 LX4_refuse) S S3 := by
    rw [eS3]
    exact Fr.sI (Fr.rfl (inM 999999 LX4_refuse) _) rfl
  cases hf
  exact F
theorem rX4_refuse_0 {S' : mT} {v1 : Int32} {S : mT} (hf : fX4_refuse v1 S = some S') : Fr (inM 999999 LX4_refuse) S S' := by
  unfold fX4_refuse at hf
  obtain ⟨-, hf⟩ := grd_ex hf
  by_cases hc : (S.1 1 2) = 0
  · rw [if_pos hc] at hf
    obtain ⟨-, hf⟩ := grd_ex hf
    obtain ⟨S1, eS1, hf⟩ := bnd_ex hf
    have F : Fr (inM 999999 LX4_refuse) S S1 := by
      rw [eS1]
      exact Fr.sI (Fr.rfl (inM 999999 LX4_refuse) _) rfl
    obtain ⟨-, hf⟩ := grd_ex hf
    obtain ⟨S2, eS2, hf⟩ := bnd_ex hf
    have F : Fr (inM 999999 LX4_refuse) S S2 := by
      rw [eS2]
      exact Fr.sI F rfl
    exact F.trans (rX4_refuse_20 hf)
  · rw [if_neg hc] at hf
    exact (Fr.rfl (inM 999999 LX4_refuse) _).trans (rX4_refuse_20 hf)
theorem rX4_refuse {v1 : Int32} {S S' : mT} (hf : fX4_refuse v1 S = some S') : Fr (inM 999999 LX4_refuse) S S' := rX4_refuse_0 hf
abbrev LX4_scanNumber : List (Nat × Nat × Option Nat) := [(999999, 999999, none), (1, 1, some 2), (1, 1, some 3), (1, 1, some 4), (1, 1, some 6), (1, 1, some 7)]
theorem rX4_scanNumber_98 {S' : mT} {S : mT} (hf : fX4_scanNumber_98 S = some S') : Fr (inM 999999 LX4_scanNumber) S S' := by
  unfold fX4_scanNumber_98 at hf
  cases hf
  exact (Fr.rfl (inM 999999 LX4_scanNumber) _)
theorem rX4_scanNumber_93 {S' : mT} {S : mT} (hf : fX4_scanNumber_93 S = some S') : Fr (inM 999999 LX4_scanNumber) S S' := by
  unfold fX4_scanNumber_93 at hf
  obtain ⟨S9, hq, hf⟩ := bndV_ex hf
  have F := (Fr.rfl (inM 999999 LX4_scanNumber) _).trans ((rX4_refuse hq).mono rfl (fun _ => rfl))
  exact F.trans (rX4_scanNumber_98 hf)
theorem rX4_scanNumber_69 {S' : mT} {S : mT} (hf : fX4_scanNumber_69 S = some S') : Fr (inM 999999 LX4_scanNumber) S S' := by
  unfold fX4_scanNumber_69 at hf
  obtain ⟨-, hf⟩ := grd_ex hf
  by_cases hc : (4 : Int32) < ((S.1 1 6) - (S.1 1 5))
  · rw [if_pos hc] at hf
    exact (Fr.rfl (inM 999999 LX4_scanNumber) _).trans (rX4_scanNumber_93 hf)
  · rw [if_neg hc] at hf
    obtain ⟨-, hf⟩ := grd_ex hf
    obtain ⟨x8, S7, hq, hf⟩ := bndC_ex hf
    have F := (Fr.rfl (inM 999999 LX4_scanNumber) _).trans ((rX4_isLetterAt hq).mono rfl (fun _ => rfl))
    by_cases hc : x8 = 0
    · rw [if_pos hc] at hf
      exact F.trans (rX4_scanNumber_98 hf)
    · rw [if_neg hc] at hf
      exact F.trans (rX4_scanNumber_93 hf)
theorem rX4_scanNumber_10 {S' : mT} : ∀ (k : Nat) (S : mT), fX4_scanNumber_10 k S = some S' → Fr (inM 999999 LX4_scanNumber) S S' := by
  intro k
  induction k with
  | zero =>
    intro S hf
    cases hf
  | succ k ih =>
    intro S hf
    unfold fX4_scanNumber_10 at hf
    obtain ⟨-, hf⟩ := grd_ex hf
    by_cases hc : (S.1 1 1) ≤ (S.1 1 6)
    · rw [if_pos hc] at hf
      exact (Fr.rfl (inM 999999 LX4_scanNumber) _).trans (rX4_scanNumber_69 hf)
    · rw [if_neg hc] at hf
      obtain ⟨-, hf⟩ := grd_ex hf
      obtain ⟨x4, S3, hq, hf⟩ := bndC_ex hf
      have F := (Fr.rfl (inM 999999 LX4_scanNumber) _).trans ((rX4_isDigitAt hq).mono rfl (fun _ => rfl))
      by_cases hc : x4 = 0
      · rw [if_pos hc] at hf
        exact F.trans (rX4_scanNumber_69 hf)
      · rw [if_neg hc] at hf
        obtain ⟨-, hf⟩ := grd_ex hf
        obtain ⟨-, hf⟩ := grd_ex hf
        obtain ⟨S5, eS5, hf⟩ := bnd_ex hf
        have F : Fr (inM 999999 LX4_scanNumber) S S5 := by
          rw [eS5]
          exact Fr.sI F rfl
        obtain ⟨-, hf⟩ := grd_ex hf
        obtain ⟨S6, eS6, hf⟩ := bnd_ex hf
        have F : Fr (inM 999999 LX4_scanNumber) S S6 := by
          rw [eS6]
          exact Fr.sI F rfl
        exact F.trans (ih _ hf)
theorem rX4_scanNumber_0 {S' : mT} {S : mT} (hf : fX4_scanNumber S = some S') : Fr (inM 999999 LX4_scanNumber) S S' := by
  unfold fX4_scanNumber at hf
  obtain ⟨-, hf⟩ := grd_ex hf
  obtain ⟨S1, eS1, hf⟩ := bnd_ex hf
  have F : Fr (inM 999999 LX4_scanNumber) S S1 := by
    rw [eS1]
    exact Fr.sI (Fr.rfl (inM 999999 LX4_scanNumber) _) rfl
  obtain ⟨-, hf⟩ := grd_ex hf
  obtain ⟨S2, eS2, hf⟩ := bnd_ex hf
  have F : Fr (inM 999999 LX4_scanNumber) S S2 := by
    rw [eS2]
    exact Fr.sI F rfl
  exact F.trans (rX4_scanNumber_10 _ _ hf)
theorem rX4_scanNumber {S S' : mT} (hf : fX4_scanNumber S = some S') : Fr (inM 999999 LX4_scanNumber) S S' := rX4_scanNumber_0 hf
abbrev LX4_scanSign : List (Nat × Nat × Option Nat) := [(999999, 999999, none), (1, 1, some 2), (1, 1, some 3), (1, 1, some 4), (1, 1, some 6), (1, 1, some 9)]
theorem rX4_scanSign_164 {S' : mT} {S : mT} (hf : fX4_scanSign_164 S = some S') : Fr (inM 999999 LX4_scanSign) S S' := by
  unfold fX4_scanSign_164 at hf
  cases hf
  exact (Fr.rfl (inM 999999 LX4_scanSign) _)
theorem rX4_scanSign_0 {S' : mT} {S : mT} (hf : fX4_scanSign S = some S') : Fr (inM 999999 LX4_scanSign) S S' := by
  unfold fX4_scanSign at hf
  obtain ⟨-, hf⟩ := grd_ex hf
  obtain ⟨S1, eS1, hf⟩ := bnd_ex hf
  have F : Fr (inM 999999 LX4_scanSign) S S1 := by
    rw [eS1]
    exact Fr.sI (Fr.rfl (inM 999999 LX4_scanSign) _) rfl
  obtain ⟨-, hf⟩ := grd_ex hf
  obtain ⟨S2, eS2, hf⟩ := bnd_ex hf
  have F : Fr (inM 999999 LX4_scanSign) S S2 := by
    rw [eS2]
    exact Fr.sI F rfl
  obtain ⟨-, hf⟩ := grd_ex hf
  obtain ⟨S3, eS3, hf⟩ := bnd_ex hf
  have F : Fr (inM 999999 LX4_scanSign) S S3 := by
    rw [eS3]
    exact Fr.sI F rfl
  obtain ⟨-, hf⟩ := grd_ex hf
  by_cases hc : (S3.1 1 9) = (37 : Int32)
  · rw [if_pos hc] at hf
    exact F.trans (rX4_scanSign_164 hf)
  · rw [if_neg hc] at hf
    by_cases hc : (S3.1 1 9) = (38 : Int32)
    · rw [if_pos hc] at hf
      obtain ⟨S19, hq, hf⟩ := bndV_ex hf
      have F := F.trans ((rX4_refuse hq).mono rfl (fun _ => rfl))
      exact F.trans (rX4_scanSign_164 hf)
    · rw [if_neg hc] at hf
      by_cases hc : (S3.1 1 9) = (39 : Int32)
      · rw [if_pos hc] at hf
        obtain ⟨S18, hq, hf⟩ := bndV_ex hf
        have F := F.trans ((rX4_refuse hq).mono rfl (fun _ => rfl))
        exact F.trans (rX4_scanSign_164 hf)
      · rw [if_neg hc] at hf
        by_cases hc : (S3.1 1 9) = (40 : Int32)
        · rw [if_pos hc] at hf
          exact F.trans (rX4_scanSign_164 hf)
        · rw [if_neg hc] at hf
          by_cases hc : (S3.1 1 9) = (41 : Int32)
          · rw [if_pos hc] at hf
            exact F.trans (rX4_scanSign_164 hf)
          · rw [if_neg hc] at hf
            by_cases hc : (S3.1 1 9) = (42 : Int32)
            · rw [if_pos hc] at hf
              exact F.trans (rX4_scanSign_164 hf)
            · rw [if_neg hc] at hf
              by_cases hc : (S3.1 1 9) = (43 : Int32)
              · rw [if_pos hc] at hf
                exact F.trans (rX4_scanSign_164 hf)
              · rw [if_neg hc] at hf
                by_cases hc : (S3.1 1 9) = (44 : Int32)
                · rw [if_pos hc] at hf
                  obtain ⟨S17, hq, hf⟩ := bndV_ex hf
                  have F := F.trans ((rX4_refuse hq).mono rfl (fun _ => rfl))
                  exact F.trans (rX4_scanSign_164 hf)
                · rw [if_neg hc] at hf
                  by_cases hc : (S3.1 1 9) = (45 : Int32)
                  · rw [if_pos hc] at hf
                    exact F.trans (rX4_scanSign_164 hf)
                  · rw [if_neg hc] at hf
                    by_cases hc : (S3.1 1 9) = (46 : Int32)
                    · rw [if_pos hc] at hf
                      obtain ⟨S16, hq, hf⟩ := bndV_ex hf
                      have F := F.trans ((rX4_refuse hq).mono rfl (fun _ => rfl))
                      exact F.trans (rX4_scanSign_164 hf)
                    · rw [if_neg hc] at hf
                      by_cases hc : (S3.1 1 9) = (47 : Int32)
                      · rw [if_pos hc] at hf
                        exact F.trans (rX4_scanSign_164 hf)
                      · rw [if_neg hc] at hf
                        by_cases hc : (S3.1 1 9) = (48 : Int32)
                        · rw [if_pos hc] at hf
                          obtain ⟨S15, hq, hf⟩ := bndV_ex hf
                          have F := F.trans ((rX4_refuse hq).mono rfl (fun _ => rfl))
                          exact F.trans (rX4_scanSign_164 hf)
                        · rw [if_neg hc] at hf
                          by_cases hc : (S3.1 1 9) = (49 : Int32)
                          · rw [if_pos hc] at hf
                            obtain ⟨S14, hq, hf⟩ := bndV_ex hf
                            have F := F.trans ((rX4_refuse hq).mono rfl (fun _ => rfl))
                            exact F.trans (rX4_scanSign_164 hf)
                          · rw [if_neg hc] at hf
                            by_cases hc : (S3.1 1 9) = (50 : Int32)
                            · rw [if_pos hc] at hf
                              obtain ⟨S13, hq, hf⟩ := bndV_ex hf
                              have F := F.trans ((rX4_refuse hq).mono rfl (fun _ => rfl))
                              exact F.trans (rX4_scanSign_164 hf)
                            · rw [if_neg hc] at hf
                              by_cases hc : (S3.1 1 9) = (51 : Int32)
                              · rw [if_pos hc] at hf
                                obtain ⟨S12, hq, hf⟩ := bndV_ex hf
                                have F := F.trans ((rX4_refuse hq).mono rfl (fun _ => rfl))
                                exact F.trans (rX4_scanSign_164 hf)
                              · rw [if_neg hc] at hf
                                by_cases hc : (S3.1 1 9) = (52 : Int32)
                                · rw [if_pos hc] at hf
                                  obtain ⟨S11, hq, hf⟩ := bndV_ex hf
                                  have F := F.trans ((rX4_refuse hq).mono rfl (fun _ => rfl))
                                  exact F.trans (rX4_scanSign_164 hf)
                                · rw [if_neg hc] at hf
                                  by_cases hc : (S3.1 1 9) = (53 : Int32)
                                  · rw [if_pos hc] at hf
                                    obtain ⟨S10, hq, hf⟩ := bndV_ex hf
                                    have F := F.trans ((rX4_refuse hq).mono rfl (fun _ => rfl))
                                    exact F.trans (rX4_scanSign_164 hf)
                                  · rw [if_neg hc] at hf
                                    by_cases hc : (S3.1 1 9) = (54 : Int32)
                                    · rw [if_pos hc] at hf
                                      obtain ⟨S9, hq, hf⟩ := bndV_ex hf
                                      have F := F.trans ((rX4_refuse hq).mono rfl (fun _ => rfl))
                                      exact F.trans (rX4_scanSign_164 hf)
                                    · rw [if_neg hc] at hf
                                      by_cases hc : (S3.1 1 9) = (55 : Int32)
                                      · rw [if_pos hc] at hf
                                        obtain ⟨S8, hq, hf⟩ := bndV_ex hf
                                        have F := F.trans ((rX4_refuse hq).mono rfl (fun _ => rfl))
                                        exact F.trans (rX4_scanSign_164 hf)
                                      · rw [if_neg hc] at hf
                                        by_cases hc : (S3.1 1 9) = (56 : Int32)
                                        · rw [if_pos hc] at hf
                                          obtain ⟨S7, hq, hf⟩ := bndV_ex hf
                                          have F := F.trans ((rX4_refuse hq).mono rfl (fun _ => rfl))
                                          exact F.trans (rX4_scanSign_164 hf)
                                        · rw [if_neg hc] at hf
                                          by_cases hc : (S3.1 1 9) = (57 : Int32)
                                          · rw [if_pos hc] at hf
                                            obtain ⟨S6, hq, hf⟩ := bndV_ex hf
                                            have F := F.trans ((rX4_refuse hq).mono rfl (fun _ => rfl))
                                            exact F.trans (rX4_scanSign_164 hf)
                                          · rw [if_neg hc] at hf
                                            by_cases hc : (S3.1 1 9) = (58 : Int32)
                                            · rw [if_pos hc] at hf
                                              obtain ⟨S5, hq, hf⟩ := bndV_ex hf
                                              have F := F.trans ((rX4_refuse hq).mono rfl (fun _ => rfl))
                                              exact F.trans (rX4_scanSign_164 hf)
                                            · rw [if_neg hc] at hf
                                              by_cases hc : (S3.1 1 9) = (59 : Int32)
                                              · rw [if_pos hc] at hf
                                                exact F.trans (rX4_scanSign_164 hf)
                                              · rw [if_neg hc] at hf
                                                by_cases hc : (S3.1 1 9) = (60 : Int32)
                                                · rw [if_pos hc] at hf
                                                  exact F.trans (rX4_scanSign_164 hf)
                                                · rw [if_neg hc] at hf
                                                  by_cases hc : (S3.1 1 9) = (61 : Int32)
                                                  · rw [if_pos hc] at hf
                                                    exact F.trans (rX4_scanSign_164 hf)
                                                  · rw [if_neg hc] at hf
                                                    by_cases hc : (S3.1 1 9) = (62 : Int32)
                                                    · rw [if_pos hc] at hf
                                                      exact F.trans (rX4_scanSign_164 hf)
                                                    · rw [if_neg hc] at hf
                                                      obtain ⟨S4, hq, hf⟩ := bndV_ex hf
                                                      have F := F.trans ((rX4_refuse hq).mono rfl (fun _ => rfl))
                                                      exact F.trans (rX4_scanSign_164 hf)
theorem rX4_scanSign {S S' : mT} (hf : fX4_scanSign S = some S') : Fr (inM 999999 LX4_scanSign) S S' := rX4_scanSign_0 hf
abbrev LX4_scanWord : List (Nat × Nat × Option Nat) := [(999999, 999999, none), (1, 1, some 2), (1, 1, some 3), (1, 1, some 4), (1, 1, some 6), (1, 1, some 8)]
theorem rX4_scanWord_92 {S' : mT} {S : mT} (hf : fX4_scanWord_92 S = some S') : Fr (inM 999999 LX4_scanWord) S S' := by
  unfold fX4_scanWord_92 at hf
  cases hf
  exact (Fr.rfl (inM 999999 LX4_scanWord) _)
theorem rX4_scanWord_73 {S' : mT} {S : mT} (hf : fX4_scanWord_73 S = some S') : Fr (inM 999999 LX4_scanWord) S S' := by
  unfold fX4_scanWord_73 at hf
  obtain ⟨-, hf⟩ := grd_ex hf
  by_cases hc : ((S.1 1 6) - (S.1 1 5)) ≤ (8 : Int32)
  · rw [if_pos hc] at hf
    exact (Fr.rfl (inM 999999 LX4_scanWord) _).trans (rX4_scanWord_92 hf)
  · rw [if_neg hc] at hf
    obtain ⟨S7, hq, hf⟩ := bndV_ex hf
    have F := (Fr.rfl (inM 999999 LX4_scanWord) _).trans ((rX4_refuse hq).mono rfl (fun _ => rfl))
    exact F.trans (rX4_scanWord_92 hf)
theorem rX4_scanWord_10 {S' : mT} : ∀ (k : Nat) (S : mT), fX4_scanWord_10 k S = some S' → Fr (inM 999999 LX4_scanWord) S S' := by
  intro k
  induction k with
  | zero =>
    intro S hf
    cases hf
  | succ k ih =>
    intro S hf
    unfold fX4_scanWord_10 at hf
    obtain ⟨-, hf⟩ := grd_ex hf
    by_cases hc : (S.1 1 1) ≤ (S.1 1 6)
    · rw [if_pos hc] at hf
      exact (Fr.rfl (inM 999999 LX4_scanWord) _).trans (rX4_scanWord_73 hf)
    · rw [if_neg hc] at hf
      obtain ⟨-, hf⟩ := grd_ex hf
      obtain ⟨x4, S3, hq, hf⟩ := bndC_ex hf
      have F := (Fr.rfl (inM 999999 LX4_scanWord) _).trans ((rX4_isLetterAt hq).mono rfl (fun _ => rfl))
      by_cases hc : x4 = 0
      · rw [if_pos hc] at hf
        exact F.trans (rX4_scanWord_73 hf)
      · rw [if_neg hc] at hf
        obtain ⟨-, hf⟩ := grd_ex hf
        obtain ⟨-, hf⟩ := grd_ex hf
        obtain ⟨S5, eS5, hf⟩ := bnd_ex hf
        have F : Fr (inM 999999 LX4_scanWord) S S5 := by
          rw [eS5]
          exact Fr.sJ F rfl
        obtain ⟨-, hf⟩ := grd_ex hf
        obtain ⟨S6, eS6, hf⟩ := bnd_ex hf
        have F : Fr (inM 999999 LX4_scanWord) S S6 := by
          rw [eS6]
          exact Fr.sI F rfl
        exact F.trans (ih _ hf)
theorem rX4_scanWord_0 {S' : mT} {S : mT} (hf : fX4_scanWord S = some S') : Fr (inM 999999 LX4_scanWord) S S' := by
  unfold fX4_scanWord at hf
  obtain ⟨-, hf⟩ := grd_ex hf
  obtain ⟨S1, eS1, hf⟩ := bnd_ex hf
  have F : Fr (inM 999999 LX4_scanWord) S S1 := by
    rw [eS1]
    exact Fr.sI (Fr.rfl (inM 999999 LX4_scanWord) _) rfl
  obtain ⟨-, hf⟩ := grd_ex hf
  obtain ⟨S2, eS2, hf⟩ := bnd_ex hf
  have F : Fr (inM 999999 LX4_scanWord) S S2 := by
    rw [eS2]
    exact Fr.sJ F rfl
  exact F.trans (rX4_scanWord_10 _ _ hf)
theorem rX4_scanWord {S S' : mT} (hf : fX4_scanWord S = some S') : Fr (inM 999999 LX4_scanWord) S S' := rX4_scanWord_0 hf
abbrev LX4_advance : List (Nat × Nat × Option Nat) := [(999999, 999999, none), (1, 1, some 2), (1, 1, some 3), (1, 1, some 4), (1, 1, some 5), (1, 1, some 6), (1, 1, some 7), (1, 1, some 8), (1, 1, some 9)]
theorem rX4_advance_47 {S' : mT} {rc8 : mT → Option (mT)} (Hrc8 : ∀ (S : mT), rc8 S = some S' → Fr (inM 999999 LX4_advance) S S') {S : mT} (hf : fX4_advance_47 rc8 S = some S') : Fr (inM 999999 LX4_advance) S S' := by
  unfold fX4_advance_47 at hf
  obtain ⟨-, hf⟩ := grd_ex hf
  obtain ⟨S10, eS10, hf⟩ := bnd_ex hf
  have F : Fr (inM 999999 LX4_advance) S S10 := by
    rw [eS10]
    exact Fr.sI (Fr.rfl (inM 999999 LX4_advance) _) rfl
  exact F.trans (Hrc8 _ hf)
theorem rX4_advance_127 {S' : mT} {S : mT} (hf : fX4_advance_127 S = some S') : Fr (inM 999999 LX4_advance) S S' := by
  unfold fX4_advance_127 at hf
  cases hf
  exact (Fr.rfl (inM 999999 LX4_advance) _)
theorem rX4_advance_60 {S' : mT} {S : mT} (hf : fX4_advance_60 S = some S') : Fr (inM 999999 LX4_advance) S S' := by
  unfold fX4_advance_60 at hf
  obtain ⟨-, hf⟩ := grd_ex hf
  obtain ⟨S1, eS1, hf⟩ := bnd_ex hf
  have F : Fr (inM 999999 LX4_advance) S S1 := by
    rw [eS1]
    exact Fr.sI (Fr.rfl (inM 999999 LX4_advance) _) rfl
  obtain ⟨-, hf⟩ := grd_ex hf
  by_cases hc : (S1.1 1 6) < (S1.1 1 1)
  · rw [if_pos hc] at hf
    obtain ⟨-, hf⟩ := grd_ex hf
    obtain ⟨x3, S2, hq, hf⟩ := bndC_ex hf
    have F := F.trans ((rX4_isLetterAt hq).mono rfl (fun _ => rfl))
    by_cases hc : x3 = 0
    · rw [if_pos hc] at hf
      obtain ⟨-, hf⟩ := grd_ex hf
      obtain ⟨x5, S4, hq, hf⟩ := bndC_ex hf
      have F := F.trans ((rX4_isDigitAt hq).mono rfl (fun _ => rfl))
      by_cases hc : x5 = 0
      · rw [if_pos hc] at hf
        obtain ⟨S6, hq, hf⟩ := bndV_ex hf
        have F := F.trans ((rX4_scanSign hq).mono rfl (fun _ => rfl))
        exact F.trans (rX4_advance_127 hf)
      · rw [if_neg hc] at hf
        obtain ⟨S7, hq, hf⟩ := bndV_ex hf
        have F := F.trans ((rX4_scanNumber hq).mono rfl (fun _ => rfl))
        exact F.trans (rX4_advance_127 hf)
    · rw [if_neg hc] at hf
      obtain ⟨S8, hq, hf⟩ := bndV_ex hf
      have F := F.trans ((rX4_scanWord hq).mono rfl (fun _ => rfl))
      exact F.trans (rX4_advance_127 hf)
  · rw [if_neg hc] at hf
    obtain ⟨-, hf⟩ := grd_ex hf
    obtain ⟨S9, eS9, hf⟩ := bnd_ex hf
    have F : Fr (inM 999999 LX4_advance) S S9 := by
      rw [eS9]
      exact Fr.sI F rfl
    exact F.trans (rX4_advance_127 hf)
theorem rX4_advance_8 {S' : mT} : ∀ (k : Nat) (S : mT), fX4_advance_8 k S = some S' → Fr (inM 999999 LX4_advance) S S' := by
  intro k
  induction k with
  | zero =>
    intro S hf
    cases hf
  | succ k ih =>
    intro S hf
    unfold fX4_advance_8 at hf
    obtain ⟨-, hf⟩ := grd_ex hf
    by_cases hc : (S.1 1 1) ≤ (S.1 1 6)
    · rw [if_pos hc] at hf
      exact (Fr.rfl (inM 999999 LX4_advance) _).trans (rX4_advance_60 hf)
    · rw [if_neg hc] at hf
      obtain ⟨-, hf⟩ := grd_ex hf
      by_cases hc : (S.1 2 (mIx (S.1 1 6))) = (32 : Int32)
      · rw [if_pos hc] at hf
        exact (Fr.rfl (inM 999999 LX4_advance) _).trans (rX4_advance_47 ih hf)
      · rw [if_neg hc] at hf
        obtain ⟨-, hf⟩ := grd_ex hf
        by_cases hc : (S.1 2 (mIx (S.1 1 6))) = (10 : Int32)
        · rw [if_pos hc] at hf
          exact (Fr.rfl (inM 999999 LX4_advance) _).trans (rX4_advance_47 ih hf)
        · rw [if_neg hc] at hf
          exact (Fr.rfl (inM 999999 LX4_advance) _).trans (rX4_advance_60 hf)
theorem rX4_advance_0 {S' : mT} {S : mT} (hf : fX4_advance S = some S') : Fr (inM 999999 LX4_advance) S S' := by
  unfold fX4_advance at hf
  obtain ⟨-, hf⟩ := grd_ex hf
  by_cases hc : (S.1 1 2) = 0
  · rw [if_pos hc] at hf
    exact (Fr.rfl (inM 999999 LX4_advance) _).trans (rX4_advance_8 _ _ hf)
  · rw [if_neg hc] at hf
    cases hf
    exact (Fr.rfl (inM 999999 LX4_advance) _)
theorem rX4_advance {S S' : mT} (hf : fX4_advance S = some S') : Fr (inM 999999 LX4_advance) S S' := rX4_advance_0 hf
end GF
