section GF
abbrev LX11_province_f : List (Nat × Nat × Option Nat) := [(999999, 999999, none), (0, 0, some 13), (1, 1, some 1), (1, 1, some 2), (1, 1, some 3), (1, 1, some 4), (1, 1, some 5), (1, 1, some 6), (1, 1, some 7), (1, 1, some 8), (1, 1, some 9), (19, 19, some 9), (19, 19, some 10), (19, 19, some 11), (20, 20, none), (21, 21, none), (22, 22, none), (23, 23, none), (24, 24, none), (25, 25, some 2), (25, 25, some 3), (25, 25, some 4), (26, 26, none), (28, 28, some 2), (28, 28, some 3), (28, 28, some 4), (29, 29, none), (31, 31, some 2), (31, 31, some 3), (31, 31, some 4), (32, 32, none), (35, 35, none), (37, 37, some 3), (37, 37, some 4), (37, 37, some 5), (39, 79, none), (84, 84, none), (114, 114, some 5), (120, 120, some 14), (140, 140, some 8)]
theorem rX11_province_0_f {S' : mT} {r : Int32} {b' : Bool} {S : mT} (hf : fX11_province false S = some (r, S', b')) : Fr (inM 999999 LX11_province_f) S S' := by
  unfold fX11_province at hf
  obtain ⟨-, hf⟩ := grd_ex hf
  obtain ⟨x2, S1, hq, hf⟩ := bndC_ex hf
  have F := (Fr.rfl (inM 999999 LX11_province_f) _).trans ((rX4_readAll_19 hq).mono rfl (fun _ => rfl))
  obtain ⟨-, hf⟩ := grd_ex hf
  obtain ⟨S3, eS3, hf⟩ := bnd_ex hf
  have F : Fr (inM 999999 LX11_province_f) S S3 := by
    rw [eS3]
    exact Fr.sI F rfl
  by_cases hc : x2 = 0
  · rw [if_pos hc] at hf
    cases hf
    exact F
  · rw [if_neg hc] at hf
    obtain ⟨-, hf⟩ := grd_ex hf
    obtain ⟨-, hf⟩ := grd_ex hf
    obtain ⟨S4, hq, hf⟩ := bndV_ex hf
    have F := F.trans ((rX8_begin_19 hq).mono rfl (fun _ => rfl))
    obtain ⟨-, hf⟩ := grd_ex hf
    obtain ⟨S5, hq, hf⟩ := bndV_ex hf
    have F := F.trans ((rX2_startFrom hq).mono rfl (fun _ => rfl))
    obtain ⟨-, hf⟩ := grd_ex hf
    obtain ⟨S6, hq, hf⟩ := bndV_ex hf
    have F := F.trans ((rX2_emptyBoxes hq).mono rfl (fun _ => rfl))
    obtain ⟨-, hf⟩ := grd_ex hf
    obtain ⟨S7, eS7, hf⟩ := bnd_ex hf
    have F : Fr (inM 999999 LX11_province_f) S S7 := by
      rw [eS7]
      exact Fr.sI F rfl
    obtain ⟨-, hf⟩ := grd_ex hf
    obtain ⟨S8, hq, hf⟩ := bndV_ex hf
    have F := F.trans ((rX10_forget hq).mono rfl (fun _ => rfl))
    obtain ⟨-, hf⟩ := grd_ex hf
    obtain ⟨S9, hq, hf⟩ := bndV_ex hf
    have F := F.trans ((rX3_forget hq).mono rfl (fun _ => rfl))
    obtain ⟨-, hf⟩ := grd_ex hf
    obtain ⟨S10, eS10, hf⟩ := bnd_ex hf
    have F : Fr (inM 999999 LX11_province_f) S S10 := by
      rw [eS10]
      exact Fr.sI F rfl
    obtain ⟨-, hf⟩ := grd_ex hf
    cases hf
    exact F
theorem rX11_province_f {S S' : mT} {r : Int32} {b' : Bool} (hf : fX11_province false S = some (r, S', b')) : Fr (inM 999999 LX11_province_f) S S' := rX11_province_0_f hf
abbrev LX11_province_t : List (Nat × Nat × Option Nat) := [(999999, 999999, none), (0, 0, some 13), (1, 1, some 1), (1, 1, some 2), (1, 1, some 3), (1, 1, some 4), (1, 1, some 5), (1, 1, some 6), (1, 1, some 7), (1, 1, some 8), (1, 1, some 9), (3, 3, some 9), (3, 3, some 10), (3, 3, some 11), (4, 4, none), (5, 5, none), (6, 6, none), (7, 7, none), (8, 8, none), (9, 9, some 2), (9, 9, some 3), (9, 9, some 4), (10, 10, none), (12, 12, some 2), (12, 12, some 3), (12, 12, some 4), (13, 13, none), (15, 15, some 2), (15, 15, some 3), (15, 15, some 4), (16, 16, none), (35, 35, none), (37, 37, some 3), (37, 37, some 4), (37, 37, some 5), (39, 79, none), (84, 84, none), (114, 114, some 5), (120, 120, some 14), (140, 140, some 8)]
theorem rX11_province_0_t {S' : mT} {r : Int32} {b' : Bool} {S : mT} (hf : fX11_province true S = some (r, S', b')) : Fr (inM 999999 LX11_province_t) S S' := by
  unfold fX11_province at hf
  obtain ⟨-, hf⟩ := grd_ex hf
  obtain ⟨x2, S1, hq, hf⟩ := bndC_ex hf
  have F := (Fr.rfl (inM 999999 LX11_province_t) _).trans ((rX4_readAll_3 hq).mono rfl (fun _ => rfl))
  obtain ⟨-, hf⟩ := grd_ex hf
  obtain ⟨S3, eS3, hf⟩ := bnd_ex hf
  have F : Fr (inM 999999 LX11_province_t) S S3 := by
    rw [eS3]
    exact Fr.sI F rfl
  by_cases hc : x2 = 0
  · rw [if_pos hc] at hf
    cases hf
    exact F
  · rw [if_neg hc] at hf
    obtain ⟨-, hf⟩ := grd_ex hf
    obtain ⟨-, hf⟩ := grd_ex hf
    obtain ⟨S4, hq, hf⟩ := bndV_ex hf
    have F := F.trans ((rX8_begin_3 hq).mono rfl (fun _ => rfl))
    obtain ⟨-, hf⟩ := grd_ex hf
    obtain ⟨S5, hq, hf⟩ := bndV_ex hf
    have F := F.trans ((rX2_startFrom hq).mono rfl (fun _ => rfl))
    obtain ⟨-, hf⟩ := grd_ex hf
    obtain ⟨S6, hq, hf⟩ := bndV_ex hf
    have F := F.trans ((rX2_emptyBoxes hq).mono rfl (fun _ => rfl))
    obtain ⟨-, hf⟩ := grd_ex hf
    obtain ⟨S7, eS7, hf⟩ := bnd_ex hf
    have F : Fr (inM 999999 LX11_province_t) S S7 := by
      rw [eS7]
      exact Fr.sI F rfl
    obtain ⟨-, hf⟩ := grd_ex hf
    obtain ⟨S8, hq, hf⟩ := bndV_ex hf
    have F := F.trans ((rX10_forget hq).mono rfl (fun _ => rfl))
    obtain ⟨-, hf⟩ := grd_ex hf
    obtain ⟨S9, hq, hf⟩ := bndV_ex hf
    have F := F.trans ((rX3_forget hq).mono rfl (fun _ => rfl))
    obtain ⟨-, hf⟩ := grd_ex hf
    obtain ⟨S10, eS10, hf⟩ := bnd_ex hf
    have F : Fr (inM 999999 LX11_province_t) S S10 := by
      rw [eS10]
      exact Fr.sI F rfl
    obtain ⟨-, hf⟩ := grd_ex hf
    cases hf
    exact F
theorem rX11_province_t {S S' : mT} {r : Int32} {b' : Bool} (hf : fX11_province true S = some (r, S', b')) : Fr (inM 999999 LX11_province_t) S S' := rX11_province_0_t hf
abbrev LX11_range_f : List (Nat × Nat × Option Nat) := [(999999, 999999, none), (120, 120, some 8), (120, 120, some 9), (120, 120, some 10), (120, 120, some 11), (120, 120, some 12), (120, 120, some 13), (120, 120, some 14), (122, 126, none), (127, 127, none), (128, 128, none), (130, 130, none), (132, 136, none), (137, 137, none)]
theorem rX11_range_17_f {S' : mT} {r : Int32} {S : mT} (hf : fX11_range_17 false S = some (r, S')) : Fr (inM 999999 LX11_range_f) S S' := by
  unfold fX11_range_17 at hf
  cases hf
  exact (Fr.rfl (inM 999999 LX11_range_f) _)
theorem rX11_range_47_f {S' : mT} {r : Int32} {s0 : Int32} {S : mT} (hf : fX11_range_47 false s0 S = some (r, S')) : Fr (inM 999999 LX11_range_f) S S' := by
  unfold fX11_range_47 at hf
  cases hf
  exact (Fr.rfl (inM 999999 LX11_range_f) _)
theorem rX11_range_0_f {S' : mT} {r : Int32} {v1 : Int32} {v2 : Int32} {v3 : Int32} {S : mT} (hf : fX11_range false v1 v2 v3 S = some (r, S')) : Fr (inM 999999 LX11_range_f) S S' := by
  unfold fX11_range at hf
  obtain ⟨x2, S1, hq, hf⟩ := bndC_ex hf
  have F := (Fr.rfl (inM 999999 LX11_range_f) _).trans ((rX11_isHouse_f hq).mono rfl (fun _ => rfl))
  by_cases hc : x2 = 0
  · rw [if_pos hc] at hf
    exact F.trans (rX11_range_17_f hf)
  · rw [if_neg hc] at hf
    obtain ⟨x4, S3, hq, hf⟩ := bndC_ex hf
    have F := F.trans ((rX11_isWithin hq).mono rfl (fun _ => rfl))
    by_cases hc : x4 = 0
    · rw [if_pos hc] at hf
      exact F.trans (rX11_range_17_f hf)
    · rw [if_neg hc] at hf
      obtain ⟨S5, hq, hf⟩ := bndV_ex hf
      have F := F.trans ((rX11_learn_f hq).mono rfl (fun _ => rfl))
      by_cases hc : v2 = 0
      · rw [if_pos hc] at hf
        obtain ⟨-, hf⟩ := grd_ex hf
        obtain ⟨x7, S6, hq, hf⟩ := bndC_ex hf
        have F := F.trans ((rX10_fewestIn hq).mono rfl (fun _ => rfl))
        exact F.trans (rX11_range_47_f hf)
      · rw [if_neg hc] at hf
        obtain ⟨-, hf⟩ := grd_ex hf
        obtain ⟨x9, S8, hq, hf⟩ := bndC_ex hf
        have F := F.trans ((rX10_mostIn hq).mono rfl (fun _ => rfl))
        exact F.trans (rX11_range_47_f hf)
theorem rX11_range_f {v1 : Int32} {v2 : Int32} {v3 : Int32} {S S' : mT} {r : Int32} (hf : fX11_range false v1 v2 v3 S = some (r, S')) : Fr (inM 999999 LX11_range_f) S S' := rX11_range_0_f hf
abbrev LX11_range_t : List (Nat × Nat × Option Nat) := [(999999, 999999, none), (120, 120, some 8), (120, 120, some 9), (120, 120, some 10), (120, 120, some 11), (120, 120, some 12), (120, 120, some 13), (120, 120, some 14), (122, 126, none), (127, 127, none), (128, 128, none), (130, 130, none), (132, 136, none), (137, 137, none)]
theorem rX11_range_17_t {S' : mT} {r : Int32} {S : mT} (hf : fX11_range_17 true S = some (r, S')) : Fr (inM 999999 LX11_range_t) S S' := by
  unfold fX11_range_17 at hf
  cases hf
  exact (Fr.rfl (inM 999999 LX11_range_t) _)
theorem rX11_range_47_t {S' : mT} {r : Int32} {s0 : Int32} {S : mT} (hf : fX11_range_47 true s0 S = some (r, S')) : Fr (inM 999999 LX11_range_t) S S' := by
  unfold fX11_range_47 at hf
  cases hf
  exact (Fr.rfl (inM 999999 LX11_range_t) _)
theorem rX11_range_0_t {S' : mT} {r : Int32} {v1 : Int32} {v2 : Int32} {v3 : Int32} {S : mT} (hf : fX11_range true v1 v2 v3 S = some (r, S')) : Fr (inM 999999 LX11_range_t) S S' := by
  unfold fX11_range at hf
  obtain ⟨x2, S1, hq, hf⟩ := bndC_ex hf
  have F := (Fr.rfl (inM 999999 LX11_range_t) _).trans ((rX11_isHouse_t hq).mono rfl (fun _ => rfl))
  by_cases hc : x2 = 0
  · rw [if_pos hc] at hf
    exact F.trans (rX11_range_17_t hf)
  · rw [if_neg hc] at hf
    obtain ⟨x4, S3, hq, hf⟩ := bndC_ex hf
    have F := F.trans ((rX11_isWithin hq).mono rfl (fun _ => rfl))
    by_cases hc : x4 = 0
    · rw [if_pos hc] at hf
      exact F.trans (rX11_range_17_t hf)
    · rw [if_neg hc] at hf
      obtain ⟨S5, hq, hf⟩ := bndV_ex hf
      have F := F.trans ((rX11_learn_t hq).mono rfl (fun _ => rfl))
      by_cases hc : v2 = 0
      · rw [if_pos hc] at hf
        obtain ⟨-, hf⟩ := grd_ex hf
        obtain ⟨x7, S6, hq, hf⟩ := bndC_ex hf
        have F := F.trans ((rX10_fewestIn hq).mono rfl (fun _ => rfl))
        exact F.trans (rX11_range_47_t hf)
      · rw [if_neg hc] at hf
        obtain ⟨-, hf⟩ := grd_ex hf
        obtain ⟨x9, S8, hq, hf⟩ := bndC_ex hf
        have F := F.trans ((rX10_mostIn hq).mono rfl (fun _ => rfl))
        exact F.trans (rX11_range_47_t hf)
theorem rX11_range_t {v1 : Int32} {v2 : Int32} {v3 : Int32} {S S' : mT} {r : Int32} (hf : fX11_range true v1 v2 v3 S = some (r, S')) : Fr (inM 999999 LX11_range_t) S S' := rX11_range_0_t hf
abbrev LX2_copyTo : List (Nat × Nat × Option Nat) := [(999999, 999999, none)]
theorem rX2_copyTo_0 {a1 : Nat} {S' : mT} {S : mT} (hf : fX2_copyTo a1 S = some S') : Fr (inM a1 LX2_copyTo) S S' := by
  unfold fX2_copyTo at hf
  obtain ⟨-, hf⟩ := grd_ex hf
  obtain ⟨-, hf⟩ := grd_ex hf
  obtain ⟨S1, eS1, hf⟩ := bnd_ex hf
  have F : Fr (inM a1 LX2_copyTo) S S1 := by
    rw [eS1]
    exact Fr.sC (Fr.rfl (inM a1 LX2_copyTo) _) (fun _ => inM_self)
  cases hf
  exact F
theorem rX2_copyTo {a1 : Nat} {S S' : mT} (hf : fX2_copyTo a1 S = some S') : Fr (inM a1 LX2_copyTo) S S' := rX2_copyTo_0 hf
abbrev LX2_stepOn : List (Nat × Nat × Option Nat) := [(999999, 999999, none), (37, 37, some 4), (37, 37, some 5)]
theorem rX2_stepOn_0 {a1 : Nat} {S' : mT} {r : Int32} {S : mT} (hf : fX2_stepOn a1 S = some (r, S')) : Fr (inM a1 LX2_stepOn) S S' := by
  unfold fX2_stepOn at hf
  obtain ⟨-, hf⟩ := grd_ex hf
  by_cases hc : 0 < (S.1 37 5)
  · rw [if_pos hc] at hf
    obtain ⟨-, hf⟩ := grd_ex hf
    obtain ⟨S1, eS1, hf⟩ := bnd_ex hf
    have F : Fr (inM a1 LX2_stepOn) S S1 := by
      rw [eS1]
      exact Fr.sI (Fr.rfl (inM a1 LX2_stepOn) _) rfl
    obtain ⟨-, hf⟩ := grd_ex hf
    obtain ⟨S2, eS2, hf⟩ := bnd_ex hf
    have F : Fr (inM a1 LX2_stepOn) S S2 := by
      rw [eS2]
      exact Fr.sI F rfl
    obtain ⟨S3, hq, hf⟩ := bndV_ex hf
    have F := F.trans ((rX2_copyTo hq).mono rfl (fun _ => inM_self))
    cases hf
    exact F
  · rw [if_neg hc] at hf
    cases hf
    exact (Fr.rfl (inM a1 LX2_stepOn) _)
theorem rX2_stepOn {a1 : Nat} {S S' : mT} {r : Int32} (hf : fX2_stepOn a1 S = some (r, S')) : Fr (inM a1 LX2_stepOn) S S' := rX2_stepOn_0 hf
abbrev LX11_redo : List (Nat × Nat × Option Nat) := [(999999, 999999, none), (35, 35, none), (37, 37, some 4), (37, 37, some 5)]
theorem rX11_redo_0 {S' : mT} {r : Int32} {S : mT} (hf : fX11_redo S = some (r, S')) : Fr (inM 999999 LX11_redo) S S' := by
  unfold fX11_redo at hf
  obtain ⟨-, hf⟩ := grd_ex hf
  obtain ⟨x2, S1, hq, hf⟩ := bndC_ex hf
  have F := (Fr.rfl (inM 999999 LX11_redo) _).trans ((rX2_stepOn hq).mono rfl (fun _ => rfl))
  obtain ⟨-, hf⟩ := grd_ex hf
  cases hf
  exact F
theorem rX11_redo {S S' : mT} {r : Int32} (hf : fX11_redo S = some (r, S')) : Fr (inM 999999 LX11_redo) S S' := rX11_redo_0 hf
abbrev LX5_add : List (Nat × Nat × Option Nat) := [(999999, 999999, none), (114, 114, some 5), (115, 115, none), (116, 116, none), (117, 117, none), (118, 118, none), (119, 119, none)]
theorem rX5_add_0 {S' : mT} {r : Int32} {v1 : Int32} {v2 : Int32} {v3 : Int32} {v4 : Int32} {S : mT} (hf : fX5_add v1 v2 v3 v4 S = some (r, S')) : Fr (inM 999999 LX5_add) S S' := by
  unfold fX5_add at hf
  obtain ⟨-, hf⟩ := grd_ex hf
  by_cases hc : (S.1 114 5) < (30 : Int32)
  · rw [if_pos hc] at hf
    obtain ⟨-, hf⟩ := grd_ex hf
    obtain ⟨S1, eS1, hf⟩ := bnd_ex hf
    have F : Fr (inM 999999 LX5_add) S S1 := by
      rw [eS1]
      exact Fr.sI (Fr.rfl (inM 999999 LX5_add) _) rfl
    obtain ⟨-, hf⟩ := grd_ex hf
    obtain ⟨S2, eS2, hf⟩ := bnd_ex hf
    have F : Fr (inM 999999 LX5_add) S S2 := by
      rw [eS2]
      exact Fr.sI F rfl
    obtain ⟨-, hf⟩ := grd_ex hf
    obtain ⟨S3, eS3, hf⟩ := bnd_ex hf
    have F : Fr (inM 999999 LX5_add) S S3 := by
      rw [eS3]
      exact Fr.sI F rfl
    obtain ⟨-, hf⟩ := grd_ex hf
    obtain ⟨S4, eS4, hf⟩ := bnd_ex hf
    have F : Fr (inM 999999 LX5_add) S S4 := by
      rw [eS4]
      exact Fr.sI F rfl
    obtain ⟨-, hf⟩ := grd_ex hf
    obtain ⟨S5, eS5, hf⟩ := bnd_ex hf
    have F : Fr (inM 999999 LX5_add) S S5 := by
      rw [eS5]
      exact Fr.sI F rfl
    obtain ⟨-, hf⟩ := grd_ex hf
    obtain ⟨S6, eS6, hf⟩ := bnd_ex hf
    have F : Fr (inM 999999 LX5_add) S S6 := by
      rw [eS6]
      exact Fr.sI F rfl
    obtain ⟨-, hf⟩ := grd_ex hf
    cases hf
    exact F
  · rw [if_neg hc] at hf
    cases hf
    exact (Fr.rfl (inM 999999 LX5_add) _)
theorem rX5_add {v1 : Int32} {v2 : Int32} {v3 : Int32} {v4 : Int32} {S S' : mT} {r : Int32} (hf : fX5_add v1 v2 v3 v4 S = some (r, S')) : Fr (inM 999999 LX5_add) S S' := rX5_add_0 hf
abbrev LX11_report_f : List (Nat × Nat × Option Nat) := [(999999, 999999, none), (114, 114, some 5), (115, 115, none), (116, 116, none), (117, 117, none), (118, 118, none), (119, 119, none)]
theorem rX11_report_41_f {S' : mT} {r : Int32} {S : mT} (hf : fX11_report_41 false S = some (r, S')) : Fr (inM 999999 LX11_report_f) S S' := by
  unfold fX11_report_41 at hf
  cases hf
  exact (Fr.rfl (inM 999999 LX11_report_f) _)
theorem rX11_report_0_f {S' : mT} {r : Int32} {v1 : Int32} {v2 : Int32} {v3 : Int32} {S : mT} (hf : fX11_report false v1 v2 v3 S = some (r, S')) : Fr (inM 999999 LX11_report_f) S S' := by
  unfold fX11_report at hf
  obtain ⟨-, hf⟩ := grd_ex hf
  obtain ⟨x2, S1, hq, hf⟩ := bndC_ex hf
  have F := (Fr.rfl (inM 999999 LX11_report_f) _).trans ((rX11_isWithin hq).mono rfl (fun _ => rfl))
  by_cases hc : x2 = 0
  · rw [if_pos hc] at hf
    cases hf
    exact F
  · rw [if_neg hc] at hf
    obtain ⟨x4, S3, hq, hf⟩ := bndC_ex hf
    have F := F.trans ((rX11_isWithin hq).mono rfl (fun _ => rfl))
    by_cases hc : x4 = 0
    · rw [if_pos hc] at hf
      exact F.trans (rX11_report_41_f hf)
    · rw [if_neg hc] at hf
      obtain ⟨x6, S5, hq, hf⟩ := bndC_ex hf
      have F := F.trans ((rX11_isWithin hq).mono rfl (fun _ => rfl))
      by_cases hc : x6 = 0
      · rw [if_pos hc] at hf
        exact F.trans (rX11_report_41_f hf)
      · rw [if_neg hc] at hf
        obtain ⟨-, hf⟩ := grd_ex hf
        obtain ⟨x8, S7, hq, hf⟩ := bndC_ex hf
        have F := F.trans ((rX5_add hq).mono rfl (fun _ => rfl))
        cases hf
        exact F
theorem rX11_report_f {v1 : Int32} {v2 : Int32} {v3 : Int32} {S S' : mT} {r : Int32} (hf : fX11_report false v1 v2 v3 S = some (r, S')) : Fr (inM 999999 LX11_report_f) S S' := rX11_report_0_f hf
abbrev LX11_report_t : List (Nat × Nat × Option Nat) := [(999999, 999999, none), (114, 114, some 5), (115, 115, none), (116, 116, none), (117, 117, none), (118, 118, none), (119, 119, none)]
theorem rX11_report_41_t {S' : mT} {r : Int32} {S : mT} (hf : fX11_report_41 true S = some (r, S')) : Fr (inM 999999 LX11_report_t) S S' := by
  unfold fX11_report_41 at hf
  cases hf
  exact (Fr.rfl (inM 999999 LX11_report_t) _)
theorem rX11_report_0_t {S' : mT} {r : Int32} {v1 : Int32} {v2 : Int32} {v3 : Int32} {S : mT} (hf : fX11_report true v1 v2 v3 S = some (r, S')) : Fr (inM 999999 LX11_report_t) S S' := by
  unfold fX11_report at hf
  obtain ⟨-, hf⟩ := grd_ex hf
  obtain ⟨x2, S1, hq, hf⟩ := bndC_ex hf
  have F := (Fr.rfl (inM 999999 LX11_report_t) _).trans ((rX11_isWithin hq).mono rfl (fun _ => rfl))
  by_cases hc : x2 = 0
  · rw [if_pos hc] at hf
    cases hf
    exact F
  · rw [if_neg hc] at hf
    obtain ⟨x4, S3, hq, hf⟩ := bndC_ex hf
    have F := F.trans ((rX11_isWithin hq).mono rfl (fun _ => rfl))
    by_cases hc : x4 = 0
    · rw [if_pos hc] at hf
      exact F.trans (rX11_report_41_t hf)
    · rw [if_neg hc] at hf
      obtain ⟨x6, S5, hq, hf⟩ := bndC_ex hf
      have F := F.trans ((rX11_isWithin hq).mono rfl (fun _ => rfl))
      by_cases hc : x6 = 0
      · rw [if_pos hc] at hf
        exact F.trans (rX11_report_41_t hf)
      · rw [if_neg hc] at hf
        obtain ⟨-, hf⟩ := grd_ex hf
        obtain ⟨x8, S7, hq, hf⟩ := bndC_ex hf
        have F := F.trans ((rX5_add hq).mono rfl (fun _ => rfl))
        cases hf
        exact F
theorem rX11_report_t {v1 : Int32} {v2 : Int32} {v3 : Int32} {S S' : mT} {r : Int32} (hf : fX11_report true v1 v2 v3 S = some (r, S')) : Fr (inM 999999 LX11_report_t) S S' := rX11_report_0_t hf
abbrev LX6_sendFrom : List (Nat × Nat × Option Nat) := [(999999, 999999, none), (103, 103, none), (104, 104, none), (105, 105, none)]
theorem rX6_sendFrom_82 {self : Int32 → Int32 → Int32 → Int32 → mT → Option (Int32 × mT)} (Hself : ∀ {v1 : Int32} {v2 : Int32} {v3 : Int32} {v4 : Int32} {S S' : mT} {r : Int32}, self v1 v2 v3 v4 S = some (r, S') → Fr (inM 999999 LX6_sendFrom) S S') {S' : mT} {r : Int32} {rc16 : Int32 → Int32 → Int32 → Int32 → Int32 → Int32 → mT → Option (Int32 × mT)} (Hrc16 : ∀ (v1 : Int32) (v2 : Int32) (v3 : Int32) (v4 : Int32) (v5 : Int32) (v6 : Int32) (S : mT), rc16 v1 v2 v3 v4 v5 v6 S = some (r, S') → Fr (inM 999999 LX6_sendFrom) S S') {v1 : Int32} {v2 : Int32} {v3 : Int32} {v4 : Int32} {v5 : Int32} {v6 : Int32} {v7 : Int32} {S : mT} (hf : fX6_sendFrom_82 self rc16 v1 v2 v3 v4 v5 v6 v7 S = some (r, S')) : Fr (inM 999999 LX6_sendFrom) S S' := by
  unfold fX6_sendFrom_82 at hf
  obtain ⟨S8, hq, hf⟩ := bndV_ex hf
  have F := (Fr.rfl (inM 999999 LX6_sendFrom) _).trans ((rX6_putBack hq).mono rfl (fun _ => rfl))
  obtain ⟨x9, -, hf⟩ := bnd_ex hf
  exact F.trans (Hrc16 _ _ _ _ _ _ _ hf)
theorem rX6_sendFrom_97 {self : Int32 → Int32 → Int32 → Int32 → mT → Option (Int32 × mT)} (Hself : ∀ {v1 : Int32} {v2 : Int32} {v3 : Int32} {v4 : Int32} {S S' : mT} {r : Int32}, self v1 v2 v3 v4 S = some (r, S') → Fr (inM 999999 LX6_sendFrom) S S') {S' : mT} {r : Int32} {v5 : Int32} {S : mT} (hf : fX6_sendFrom_97 self v5 S = some (r, S')) : Fr (inM 999999 LX6_sendFrom) S S' := by
  unfold fX6_sendFrom_97 at hf
  obtain ⟨-, hf⟩ := grd_ex hf
  cases hf
  exact (Fr.rfl (inM 999999 LX6_sendFrom) _)
theorem rX6_sendFrom_16 {self : Int32 → Int32 → Int32 → Int32 → mT → Option (Int32 × mT)} (Hself : ∀ {v1 : Int32} {v2 : Int32} {v3 : Int32} {v4 : Int32} {S S' : mT} {r : Int32}, self v1 v2 v3 v4 S = some (r, S') → Fr (inM 999999 LX6_sendFrom) S S') {S' : mT} {r : Int32} : ∀ (k : Nat) (v1 : Int32) (v2 : Int32) (v3 : Int32) (v4 : Int32) (v5 : Int32) (v6 : Int32) (S : mT), fX6_sendFrom_16 self k v1 v2 v3 v4 v5 v6 S = some (r, S') → Fr (inM 999999 LX6_sendFrom) S S' := by
  intro k
  induction k with
  | zero =>
    intro v1 v2 v3 v4 v5 v6 S hf
    cases hf
  | succ k ih =>
    intro v1 v2 v3 v4 v5 v6 S hf
    unfold fX6_sendFrom_16 at hf
    by_cases hc : v2 < v6
    · rw [if_pos hc] at hf
      exact (Fr.rfl (inM 999999 LX6_sendFrom) _).trans (rX6_sendFrom_97 Hself hf)
    · rw [if_neg hc] at hf
      by_cases hc : v3 ≤ v6
      · rw [if_pos hc] at hf
        exact (Fr.rfl (inM 999999 LX6_sendFrom) _).trans (rX6_sendFrom_97 Hself hf)
      · rw [if_neg hc] at hf
        by_cases hc : v5 = 0
        · rw [if_pos hc] at hf
          obtain ⟨-, hf⟩ := grd_ex hf
          obtain ⟨x1, -, hf⟩ := bnd_ex hf
          obtain ⟨x3, S2, hq, hf⟩ := bndC_ex hf
          have F := (Fr.rfl (inM 999999 LX6_sendFrom) _).trans ((rX6_busyWith hq).mono rfl (fun _ => rfl))
          by_cases hc : v4 < x3
          · rw [if_pos hc] at hf
            exact F.trans (rX6_sendFrom_82 Hself ih hf)
          · rw [if_neg hc] at hf
            obtain ⟨-, hf⟩ := grd_ex hf
            obtain ⟨S4, eS4, hf⟩ := bnd_ex hf
            have F : Fr (inM 999999 LX6_sendFrom) S S4 := by
              rw [eS4]
              exact Fr.sI F rfl
            obtain ⟨x5, -, hf⟩ := bnd_ex hf
            obtain ⟨x7, S6, hq, hf⟩ := bndC_ex hf
            have F := F.trans (Hself hq)
            exact F.trans (rX6_sendFrom_82 Hself ih hf)
        · rw [if_neg hc] at hf
          exact (Fr.rfl (inM 999999 LX6_sendFrom) _).trans (rX6_sendFrom_97 Hself hf)
theorem rX6_sendFrom_0 {self : Int32 → Int32 → Int32 → Int32 → mT → Option (Int32 × mT)} (Hself : ∀ {v1 : Int32} {v2 : Int32} {v3 : Int32} {v4 : Int32} {S S' : mT} {r : Int32}, self v1 v2 v3 v4 S = some (r, S') → Fr (inM 999999 LX6_sendFrom) S S') {S' : mT} {r : Int32} {v1 : Int32} {v2 : Int32} {v3 : Int32} {v4 : Int32} {S : mT} (hf : fX6_sendFrom_0 self v1 v2 v3 v4 S = some (r, S')) : Fr (inM 999999 LX6_sendFrom) S S' := by
  unfold fX6_sendFrom_0 at hf
  obtain ⟨-, hf⟩ := grd_ex hf
  by_cases hc : v1 < (S.1 100 8)
  · rw [if_pos hc] at hf
    exact (Fr.rfl (inM 999999 LX6_sendFrom) _).trans (rX6_sendFrom_16 Hself _ _ _ _ _ _ _ _ hf)
  · rw [if_neg hc] at hf
    cases hf
    exact (Fr.rfl (inM 999999 LX6_sendFrom) _)
theorem rX6_sendFrom : ∀ (d : Nat) {v1 : Int32} {v2 : Int32} {v3 : Int32} {v4 : Int32} {S S' : mT} {r : Int32} (hf : fX6_sendFrom d v1 v2 v3 v4 S = some (r, S')), Fr (inM 999999 LX6_sendFrom) S S' := by
  intro d
  induction d with
  | zero =>
    intro v1 v2 v3 v4 S S' r hf
    cases hf
  | succ d ih =>
    intro v1 v2 v3 v4 S S' r hf
    exact rX6_sendFrom_0 ih hf
abbrev LX6_fewestBy : List (Nat × Nat × Option Nat) := [(999999, 999999, none), (103, 103, none), (104, 104, none), (105, 105, none)]
theorem rX6_fewestBy_11 {S' : mT} {r : Int32} : ∀ (k : Nat) (v1 : Int32) (v2 : Int32) (S : mT), fX6_fewestBy_11 k v1 v2 S = some (r, S') → Fr (inM 999999 LX6_fewestBy) S S' := by
  intro k
  induction k with
  | zero =>
    intro v1 v2 S hf
    cases hf
  | succ k ih =>
    intro v1 v2 S hf
    unfold fX6_fewestBy_11 at hf
    obtain ⟨-, hf⟩ := grd_ex hf
    by_cases hc : (S.1 100 8) < v2
    · rw [if_pos hc] at hf
      cases hf
      exact (Fr.rfl (inM 999999 LX6_fewestBy) _)
    · rw [if_neg hc] at hf
      obtain ⟨x2, S1, hq, hf⟩ := bndC_ex hf
      have F := (Fr.rfl (inM 999999 LX6_fewestBy) _).trans ((rX6_sendFrom 16 hq).mono rfl (fun _ => rfl))
      by_cases hc : x2 = 0
      · rw [if_pos hc] at hf
        obtain ⟨x3, -, hf⟩ := bnd_ex hf
        exact F.trans (ih _ _ _ hf)
      · rw [if_neg hc] at hf
        cases hf
        exact F
theorem rX6_fewestBy_0 {S' : mT} {r : Int32} {v1 : Int32} {S : mT} (hf : fX6_fewestBy v1 S = some (r, S')) : Fr (inM 999999 LX6_fewestBy) S S' := by
  unfold fX6_fewestBy at hf
  obtain ⟨-, hf⟩ := grd_ex hf
  by_cases hc : (S.1 100 8) = 0
  · rw [if_pos hc] at hf
    cases hf
    exact (Fr.rfl (inM 999999 LX6_fewestBy) _)
  · rw [if_neg hc] at hf
    exact (Fr.rfl (inM 999999 LX6_fewestBy) _).trans (rX6_fewestBy_11 _ _ _ _ hf)
theorem rX6_fewestBy {v1 : Int32} {S S' : mT} {r : Int32} (hf : fX6_fewestBy v1 S = some (r, S')) : Fr (inM 999999 LX6_fewestBy) S S' := rX6_fewestBy_0 hf
abbrev LX11_rounds_f : List (Nat × Nat × Option Nat) := [(999999, 999999, none), (0, 0, some 13), (100, 100, some 8), (101, 101, none), (102, 102, none), (103, 103, none), (104, 104, none), (105, 105, none), (186, 186, none)]
theorem rX11_rounds_65_f {S' : mT} {r : Int32} {v2 : Int32} {S : mT} (hf : fX11_rounds_65 false v2 S = some (r, S')) : Fr (inM 999999 LX11_rounds_f) S S' := by
  unfold fX11_rounds_65 at hf
  cases hf
  exact (Fr.rfl (inM 999999 LX11_rounds_f) _)
theorem rX11_rounds_0_f {S' : mT} {r : Int32} {v1 : Int32} {S : mT} (hf : fX11_rounds false v1 S = some (r, S')) : Fr (inM 999999 LX11_rounds_f) S S' := by
  unfold fX11_rounds at hf
  obtain ⟨-, hf⟩ := grd_ex hf
  obtain ⟨S1, eS1, hf⟩ := bnd_ex hf
  have F : Fr (inM 999999 LX11_rounds_f) S S1 := by
    rw [eS1]
    exact Fr.sI (Fr.rfl (inM 999999 LX11_rounds_f) _) rfl
  obtain ⟨x3, S2, hq, hf⟩ := bndC_ex hf
  have F := F.trans ((rX11_isWithin hq).mono rfl (fun _ => rfl))
  by_cases hc : x3 = 0
  · rw [if_pos hc] at hf
    cases hf
    exact F
  · rw [if_neg hc] at hf
    obtain ⟨-, hf⟩ := grd_ex hf
    obtain ⟨S4, hq, hf⟩ := bndV_ex hf
    have F := F.trans ((rX6_look_3 hq).mono rfl (fun _ => rfl))
    obtain ⟨-, hf⟩ := grd_ex hf
    obtain ⟨x6, S5, hq, hf⟩ := bndC_ex hf
    have F := F.trans ((rX6_fewestBy hq).mono rfl (fun _ => rfl))
    by_cases hc : x6 = (-1 : Int32)
    · rw [if_pos hc] at hf
      exact F.trans (rX11_rounds_65_f hf)
    · rw [if_neg hc] at hf
      obtain ⟨-, hf⟩ := grd_ex hf
      obtain ⟨S7, hq, hf⟩ := bndV_ex hf
      have F := F.trans ((rX11_lay hq).mono rfl (fun _ => rfl))
      exact F.trans (rX11_rounds_65_f hf)
theorem rX11_rounds_f {v1 : Int32} {S S' : mT} {r : Int32} (hf : fX11_rounds false v1 S = some (r, S')) : Fr (inM 999999 LX11_rounds_f) S S' := rX11_rounds_0_f hf
abbrev LX11_rounds_t : List (Nat × Nat × Option Nat) := [(999999, 999999, none), (0, 0, some 13), (100, 100, some 8), (101, 101, none), (102, 102, none), (103, 103, none), (104, 104, none), (105, 105, none), (186, 186, none)]
theorem rX11_rounds_65_t {S' : mT} {r : Int32} {v2 : Int32} {S : mT} (hf : fX11_rounds_65 true v2 S = some (r, S')) : Fr (inM 999999 LX11_rounds_t) S S' := by
  unfold fX11_rounds_65 at hf
  cases hf
  exact (Fr.rfl (inM 999999 LX11_rounds_t) _)
theorem rX11_rounds_0_t {S' : mT} {r : Int32} {v1 : Int32} {S : mT} (hf : fX11_rounds true v1 S = some (r, S')) : Fr (inM 999999 LX11_rounds_t) S S' := by
  unfold fX11_rounds at hf
  obtain ⟨-, hf⟩ := grd_ex hf
  obtain ⟨S1, eS1, hf⟩ := bnd_ex hf
  have F : Fr (inM 999999 LX11_rounds_t) S S1 := by
    rw [eS1]
    exact Fr.sI (Fr.rfl (inM 999999 LX11_rounds_t) _) rfl
  obtain ⟨x3, S2, hq, hf⟩ := bndC_ex hf
  have F := F.trans ((rX11_isWithin hq).mono rfl (fun _ => rfl))
  by_cases hc : x3 = 0
  · rw [if_pos hc] at hf
    cases hf
    exact F
  · rw [if_neg hc] at hf
    obtain ⟨-, hf⟩ := grd_ex hf
    obtain ⟨S4, hq, hf⟩ := bndV_ex hf
    have F := F.trans ((rX6_look_19 hq).mono rfl (fun _ => rfl))
    obtain ⟨-, hf⟩ := grd_ex hf
    obtain ⟨x6, S5, hq, hf⟩ := bndC_ex hf
    have F := F.trans ((rX6_fewestBy hq).mono rfl (fun _ => rfl))
    by_cases hc : x6 = (-1 : Int32)
    · rw [if_pos hc] at hf
      exact F.trans (rX11_rounds_65_t hf)
    · rw [if_neg hc] at hf
      obtain ⟨-, hf⟩ := grd_ex hf
      obtain ⟨S7, hq, hf⟩ := bndV_ex hf
      have F := F.trans ((rX11_lay hq).mono rfl (fun _ => rfl))
      exact F.trans (rX11_rounds_65_t hf)
theorem rX11_rounds_t {v1 : Int32} {S S' : mT} {r : Int32} (hf : fX11_rounds true v1 S = some (r, S')) : Fr (inM 999999 LX11_rounds_t) S S' := rX11_rounds_0_t hf
abbrev LX11_seats_f : List (Nat × Nat × Option Nat) := [(999999, 999999, none), (109, 109, some 4), (110, 110, none), (111, 111, none), (112, 112, none)]
theorem rX11_seats_27_f {S' : mT} {r : Int32} {S : mT} (hf : fX11_seats_27 false S = some (r, S')) : Fr (inM 999999 LX11_seats_f) S S' := by
  unfold fX11_seats_27 at hf
  cases hf
  exact (Fr.rfl (inM 999999 LX11_seats_f) _)
theorem rX11_seats_0_f {S' : mT} {r : Int32} {v1 : Int32} {v2 : Int32} {v3 : Int32} {S : mT} (hf : fX11_seats false v1 v2 v3 S = some (r, S')) : Fr (inM 999999 LX11_seats_f) S S' := by
  unfold fX11_seats at hf
  obtain ⟨x2, S1, hq, hf⟩ := bndC_ex hf
  have F := (Fr.rfl (inM 999999 LX11_seats_f) _).trans ((rX11_isHouse_f hq).mono rfl (fun _ => rfl))
  by_cases hc : x2 = 0
  · rw [if_pos hc] at hf
    exact F.trans (rX11_seats_27_f hf)
  · rw [if_neg hc] at hf
    obtain ⟨x4, S3, hq, hf⟩ := bndC_ex hf
    have F := F.trans ((rX11_isWithin hq).mono rfl (fun _ => rfl))
    by_cases hc : x4 = 0
    · rw [if_pos hc] at hf
      exact F.trans (rX11_seats_27_f hf)
    · rw [if_neg hc] at hf
      obtain ⟨x6, S5, hq, hf⟩ := bndC_ex hf
      have F := F.trans ((rX11_isWithin hq).mono rfl (fun _ => rfl))
      by_cases hc : x6 = 0
      · rw [if_pos hc] at hf
        exact F.trans (rX11_seats_27_f hf)
      · rw [if_neg hc] at hf
        obtain ⟨-, hf⟩ := grd_ex hf
        obtain ⟨S7, hq, hf⟩ := bndV_ex hf
        have F := F.trans ((rX7_look hq).mono rfl (fun _ => rfl))
        obtain ⟨-, hf⟩ := grd_ex hf
        obtain ⟨S8, hq, hf⟩ := bndV_ex hf
        have F := F.trans ((rX7_share hq).mono rfl (fun _ => rfl))
        obtain ⟨-, hf⟩ := grd_ex hf
        cases hf
        exact F
theorem rX11_seats_f {v1 : Int32} {v2 : Int32} {v3 : Int32} {S S' : mT} {r : Int32} (hf : fX11_seats false v1 v2 v3 S = some (r, S')) : Fr (inM 999999 LX11_seats_f) S S' := rX11_seats_0_f hf
abbrev LX11_seats_t : List (Nat × Nat × Option Nat) := [(999999, 999999, none), (109, 109, some 4), (110, 110, none), (111, 111, none), (112, 112, none)]
theorem rX11_seats_27_t {S' : mT} {r : Int32} {S : mT} (hf : fX11_seats_27 true S = some (r, S')) : Fr (inM 999999 LX11_seats_t) S S' := by
  unfold fX11_seats_27 at hf
  cases hf
  exact (Fr.rfl (inM 999999 LX11_seats_t) _)
theorem rX11_seats_0_t {S' : mT} {r : Int32} {v1 : Int32} {v2 : Int32} {v3 : Int32} {S : mT} (hf : fX11_seats true v1 v2 v3 S = some (r, S')) : Fr (inM 999999 LX11_seats_t) S S' := by
  unfold fX11_seats at hf
  obtain ⟨x2, S1, hq, hf⟩ := bndC_ex hf
  have F := (Fr.rfl (inM 999999 LX11_seats_t) _).trans ((rX11_isHouse_t hq).mono rfl (fun _ => rfl))
  by_cases hc : x2 = 0
  · rw [if_pos hc] at hf
    exact F.trans (rX11_seats_27_t hf)
  · rw [if_neg hc] at hf
    obtain ⟨x4, S3, hq, hf⟩ := bndC_ex hf
    have F := F.trans ((rX11_isWithin hq).mono rfl (fun _ => rfl))
    by_cases hc : x4 = 0
    · rw [if_pos hc] at hf
      exact F.trans (rX11_seats_27_t hf)
    · rw [if_neg hc] at hf
      obtain ⟨x6, S5, hq, hf⟩ := bndC_ex hf
      have F := F.trans ((rX11_isWithin hq).mono rfl (fun _ => rfl))
      by_cases hc : x6 = 0
      · rw [if_pos hc] at hf
        exact F.trans (rX11_seats_27_t hf)
      · rw [if_neg hc] at hf
        obtain ⟨-, hf⟩ := grd_ex hf
        obtain ⟨S7, hq, hf⟩ := bndV_ex hf
        have F := F.trans ((rX7_look hq).mono rfl (fun _ => rfl))
        obtain ⟨-, hf⟩ := grd_ex hf
        obtain ⟨S8, hq, hf⟩ := bndV_ex hf
        have F := F.trans ((rX7_share hq).mono rfl (fun _ => rfl))
        obtain ⟨-, hf⟩ := grd_ex hf
        cases hf
        exact F
theorem rX11_seats_t {v1 : Int32} {v2 : Int32} {v3 : Int32} {S S' : mT} {r : Int32} (hf : fX11_seats true v1 v2 v3 S = some (r, S')) : Fr (inM 999999 LX11_seats_t) S S' := rX11_seats_0_t hf
abbrev LX11_steal_f : List (Nat × Nat × Option Nat) := [(999999, 999999, none), (35, 35, none), (37, 37, some 3), (37, 37, some 4), (37, 37, some 5), (39, 79, none)]
theorem rX11_steal_32_f {S' : mT} {r : Int32} {S : mT} (hf : fX11_steal_32 false S = some (r, S')) : Fr (inM 999999 LX11_steal_f) S S' := by
  unfold fX11_steal_32 at hf
  cases hf
  exact (Fr.rfl (inM 999999 LX11_steal_f) _)
theorem rX11_steal_0_f {S' : mT} {r : Int32} {v1 : Int32} {v2 : Int32} {S : mT} (hf : fX11_steal false v1 v2 S = some (r, S')) : Fr (inM 999999 LX11_steal_f) S S' := by
  unfold fX11_steal at hf
  obtain ⟨x2, S1, hq, hf⟩ := bndC_ex hf
  have F := (Fr.rfl (inM 999999 LX11_steal_f) _).trans ((rX11_isHouse_f hq).mono rfl (fun _ => rfl))
  by_cases hc : x2 = 0
  · rw [if_pos hc] at hf
    exact F.trans (rX11_steal_32_f hf)
  · rw [if_neg hc] at hf
    by_cases hc : v2 < (1 : Int32)
    · rw [if_pos hc] at hf
      exact F.trans (rX11_steal_32_f hf)
    · rw [if_neg hc] at hf
      by_cases hc : (99 : Int32) < v2
      · rw [if_pos hc] at hf
        exact F.trans (rX11_steal_32_f hf)
      · rw [if_neg hc] at hf
        obtain ⟨-, hf⟩ := grd_ex hf
        by_cases hc : v2 ≤ (S1.1 35 (mIx ((10 : Int32) + v1)))
        · rw [if_pos hc] at hf
          obtain ⟨-, hf⟩ := grd_ex hf
          obtain ⟨S3, eS3, hf⟩ := bnd_ex hf
          have F : Fr (inM 999999 LX11_steal_f) S S3 := by
            rw [eS3]
            exact Fr.sI F rfl
          obtain ⟨-, hf⟩ := grd_ex hf
          obtain ⟨S4, hq, hf⟩ := bndV_ex hf
          have F := F.trans ((rX2_keep hq).mono rfl (fun _ => rfl))
          obtain ⟨-, hf⟩ := grd_ex hf
          cases hf
          exact F
        · rw [if_neg hc] at hf
          exact F.trans (rX11_steal_32_f hf)
theorem rX11_steal_f {v1 : Int32} {v2 : Int32} {S S' : mT} {r : Int32} (hf : fX11_steal false v1 v2 S = some (r, S')) : Fr (inM 999999 LX11_steal_f) S S' := rX11_steal_0_f hf
abbrev LX11_steal_t : List (Nat × Nat × Option Nat) := [(999999, 999999, none), (35, 35, none), (37, 37, some 3), (37, 37, some 4), (37, 37, some 5), (39, 79, none)]
theorem rX11_steal_32_t {S' : mT} {r : Int32} {S : mT} (hf : fX11_steal_32 true S = some (r, S')) : Fr (inM 999999 LX11_steal_t) S S' := by
  unfold fX11_steal_32 at hf
  cases hf
  exact (Fr.rfl (inM 999999 LX11_steal_t) _)
theorem rX11_steal_0_t {S' : mT} {r : Int32} {v1 : Int32} {v2 : Int32} {S : mT} (hf : fX11_steal true v1 v2 S = some (r, S')) : Fr (inM 999999 LX11_steal_t) S S' := by
  unfold fX11_steal at hf
  obtain ⟨x2, S1, hq, hf⟩ := bndC_ex hf
  have F := (Fr.rfl (inM 999999 LX11_steal_t) _).trans ((rX11_isHouse_t hq).mono rfl (fun _ => rfl))
  by_cases hc : x2 = 0
  · rw [if_pos hc] at hf
    exact F.trans (rX11_steal_32_t hf)
  · rw [if_neg hc] at hf
    by_cases hc : v2 < (1 : Int32)
    · rw [if_pos hc] at hf
      exact F.trans (rX11_steal_32_t hf)
    · rw [if_neg hc] at hf
      by_cases hc : (99 : Int32) < v2
      · rw [if_pos hc] at hf
        exact F.trans (rX11_steal_32_t hf)
      · rw [if_neg hc] at hf
        obtain ⟨-, hf⟩ := grd_ex hf
        by_cases hc : v2 ≤ (S1.1 35 (mIx ((10 : Int32) + v1)))
        · rw [if_pos hc] at hf
          obtain ⟨-, hf⟩ := grd_ex hf
          obtain ⟨S3, eS3, hf⟩ := bnd_ex hf
          have F : Fr (inM 999999 LX11_steal_t) S S3 := by
            rw [eS3]
            exact Fr.sI F rfl
          obtain ⟨-, hf⟩ := grd_ex hf
          obtain ⟨S4, hq, hf⟩ := bndV_ex hf
          have F := F.trans ((rX2_keep hq).mono rfl (fun _ => rfl))
          obtain ⟨-, hf⟩ := grd_ex hf
          cases hf
          exact F
        · rw [if_neg hc] at hf
          exact F.trans (rX11_steal_32_t hf)
theorem rX11_steal_t {v1 : Int32} {v2 : Int32} {S S' : mT} {r : Int32} (hf : fX11_steal true v1 v2 S = some (r, S')) : Fr (inM 999999 LX11_steal_t) S S' := rX11_steal_0_t hf
abbrev LX7_isChanged : List (Nat × Nat × Option Nat) := [(999999, 999999, none)]
theorem rX7_isChanged_2 {S' : mT} {r : Int32} : ∀ (k : Nat) (v1 : Int32) (S : mT), fX7_isChanged_2 k v1 S = some (r, S') → Fr (inM 999999 LX7_isChanged) S S' := by
  intro k
  induction k with
  | zero =>
    intro v1 S hf
    cases hf
  | succ k ih =>
    intro v1 S hf
    unfold fX7_isChanged_2 at hf
    obtain ⟨-, hf⟩ := grd_ex hf
    by_cases hc : (S.1 109 4) ≤ v1
    · rw [if_pos hc] at hf
      cases hf
      exact (Fr.rfl (inM 999999 LX7_isChanged) _)
    · rw [if_neg hc] at hf
      obtain ⟨-, hf⟩ := grd_ex hf
      by_cases hc : (S.1 111 (mIx v1)) = (S.1 113 (mIx v1))
      · rw [if_pos hc] at hf
        obtain ⟨x1, -, hf⟩ := bnd_ex hf
        exact (Fr.rfl (inM 999999 LX7_isChanged) _).trans (ih _ _ hf)
      · rw [if_neg hc] at hf
        cases hf
        exact (Fr.rfl (inM 999999 LX7_isChanged) _)
theorem rX7_isChanged_0 {S' : mT} {r : Int32} {S : mT} (hf : fX7_isChanged S = some (r, S')) : Fr (inM 999999 LX7_isChanged) S S' := by
  unfold fX7_isChanged at hf
  exact (Fr.rfl (inM 999999 LX7_isChanged) _).trans (rX7_isChanged_2 _ _ _ hf)
theorem rX7_isChanged {S S' : mT} {r : Int32} (hf : fX7_isChanged S = some (r, S')) : Fr (inM 999999 LX7_isChanged) S S' := rX7_isChanged_0 hf
abbrev LX7_changedByOne : List (Nat × Nat × Option Nat) := [(999999, 999999, none), (110, 110, none), (111, 111, none), (112, 112, none), (113, 113, none)]
theorem rX7_changedByOne_79 {S' : mT} {r : Int32} {rc28 : Int32 → Int32 → Int32 → Int32 → mT → Option (Int32 × mT)} (Hrc28 : ∀ (v1 : Int32) (v2 : Int32) (v3 : Int32) (v4 : Int32) (S : mT), rc28 v1 v2 v3 v4 S = some (r, S') → Fr (inM 999999 LX7_changedByOne) S S') {v1 : Int32} {v2 : Int32} {v3 : Int32} {v4 : Int32} {S : mT} (hf : fX7_changedByOne_79 rc28 v1 v2 v3 v4 S = some (r, S')) : Fr (inM 999999 LX7_changedByOne) S S' := by
  unfold fX7_changedByOne_79 at hf
  obtain ⟨x9, -, hf⟩ := bnd_ex hf
  exact (Fr.rfl (inM 999999 LX7_changedByOne) _).trans (Hrc28 _ _ _ _ _ hf)
theorem rX7_changedByOne_28 {S' : mT} {r : Int32} : ∀ (k : Nat) (v1 : Int32) (v2 : Int32) (v3 : Int32) (v4 : Int32) (S : mT), fX7_changedByOne_28 k v1 v2 v3 v4 S = some (r, S') → Fr (inM 999999 LX7_changedByOne) S S' := by
  intro k
  induction k with
  | zero =>
    intro v1 v2 v3 v4 S hf
    cases hf
  | succ k ih =>
    intro v1 v2 v3 v4 S hf
    unfold fX7_changedByOne_28 at hf
    obtain ⟨-, hf⟩ := grd_ex hf
    by_cases hc : (S.1 109 4) ≤ v4
    · rw [if_pos hc] at hf
      cases hf
      exact (Fr.rfl (inM 999999 LX7_changedByOne) _)
    · rw [if_neg hc] at hf
      obtain ⟨-, hf⟩ := grd_ex hf
      obtain ⟨S3, eS3, hf⟩ := bnd_ex hf
      have F : Fr (inM 999999 LX7_changedByOne) S S3 := by
        rw [eS3]
        exact Fr.sI (Fr.rfl (inM 999999 LX7_changedByOne) _) rfl
      obtain ⟨S4, hq, hf⟩ := bndV_ex hf
      have F := F.trans ((rX7_share hq).mono rfl (fun _ => rfl))
      obtain ⟨-, hf⟩ := grd_ex hf
      obtain ⟨S5, eS5, hf⟩ := bnd_ex hf
      have F : Fr (inM 999999 LX7_changedByOne) S S5 := by
        rw [eS5]
        exact Fr.sI F rfl
      obtain ⟨x7, S6, hq, hf⟩ := bndC_ex hf
      have F := F.trans ((rX7_isChanged hq).mono rfl (fun _ => rfl))
      by_cases hc : x7 = 0
      · rw [if_pos hc] at hf
        exact F.trans (rX7_changedByOne_79 ih hf)
      · rw [if_neg hc] at hf
        obtain ⟨x8, -, hf⟩ := bnd_ex hf
        exact F.trans (rX7_changedByOne_79 ih hf)
theorem rX7_changedByOne_0 {S' : mT} {r : Int32} {v1 : Int32} {v2 : Int32} {S : mT} (hf : fX7_changedByOne v1 v2 S = some (r, S')) : Fr (inM 999999 LX7_changedByOne) S S' := by
  unfold fX7_changedByOne at hf
  obtain ⟨S1, hq, hf⟩ := bndV_ex hf
  have F := (Fr.rfl (inM 999999 LX7_changedByOne) _).trans ((rX7_share hq).mono rfl (fun _ => rfl))
  obtain ⟨-, hf⟩ := grd_ex hf
  obtain ⟨S2, eS2, hf⟩ := bnd_ex hf
  have F : Fr (inM 999999 LX7_changedByOne) S S2 := by
    rw [eS2]
    exact Fr.sC F (fun _ => rfl)
  exact F.trans (rX7_changedByOne_28 _ _ _ _ _ _ hf)
theorem rX7_changedByOne {v1 : Int32} {v2 : Int32} {S S' : mT} {r : Int32} (hf : fX7_changedByOne v1 v2 S = some (r, S')) : Fr (inM 999999 LX7_changedByOne) S S' := rX7_changedByOne_0 hf
abbrev LX11_stone_f : List (Nat × Nat × Option Nat) := [(999999, 999999, none), (109, 109, some 4), (110, 110, none), (111, 111, none), (112, 112, none), (113, 113, none)]
theorem rX11_stone_19_f {S' : mT} {r : Int32} {S : mT} (hf : fX11_stone_19 false S = some (r, S')) : Fr (inM 999999 LX11_stone_f) S S' := by
  unfold fX11_stone_19 at hf
  cases hf
  exact (Fr.rfl (inM 999999 LX11_stone_f) _)
theorem rX11_stone_0_f {S' : mT} {r : Int32} {v1 : Int32} {v2 : Int32} {S : mT} (hf : fX11_stone false v1 v2 S = some (r, S')) : Fr (inM 999999 LX11_stone_f) S S' := by
  unfold fX11_stone at hf
  obtain ⟨x2, S1, hq, hf⟩ := bndC_ex hf
  have F := (Fr.rfl (inM 999999 LX11_stone_f) _).trans ((rX11_isWithin hq).mono rfl (fun _ => rfl))
  by_cases hc : x2 = 0
  · rw [if_pos hc] at hf
    exact F.trans (rX11_stone_19_f hf)
  · rw [if_neg hc] at hf
    obtain ⟨x4, S3, hq, hf⟩ := bndC_ex hf
    have F := F.trans ((rX11_isWithin hq).mono rfl (fun _ => rfl))
    by_cases hc : x4 = 0
    · rw [if_pos hc] at hf
      exact F.trans (rX11_stone_19_f hf)
    · rw [if_neg hc] at hf
      obtain ⟨-, hf⟩ := grd_ex hf
      obtain ⟨S5, hq, hf⟩ := bndV_ex hf
      have F := F.trans ((rX7_look hq).mono rfl (fun _ => rfl))
      obtain ⟨-, hf⟩ := grd_ex hf
      obtain ⟨x7, S6, hq, hf⟩ := bndC_ex hf
      have F := F.trans ((rX7_changedByOne hq).mono rfl (fun _ => rfl))
      cases hf
      exact F
theorem rX11_stone_f {v1 : Int32} {v2 : Int32} {S S' : mT} {r : Int32} (hf : fX11_stone false v1 v2 S = some (r, S')) : Fr (inM 999999 LX11_stone_f) S S' := rX11_stone_0_f hf
abbrev LX11_stone_t : List (Nat × Nat × Option Nat) := [(999999, 999999, none), (109, 109, some 4), (110, 110, none), (111, 111, none), (112, 112, none), (113, 113, none)]
theorem rX11_stone_19_t {S' : mT} {r : Int32} {S : mT} (hf : fX11_stone_19 true S = some (r, S')) : Fr (inM 999999 LX11_stone_t) S S' := by
  unfold fX11_stone_19 at hf
  cases hf
  exact (Fr.rfl (inM 999999 LX11_stone_t) _)
theorem rX11_stone_0_t {S' : mT} {r : Int32} {v1 : Int32} {v2 : Int32} {S : mT} (hf : fX11_stone true v1 v2 S = some (r, S')) : Fr (inM 999999 LX11_stone_t) S S' := by
  unfold fX11_stone at hf
  obtain ⟨x2, S1, hq, hf⟩ := bndC_ex hf
  have F := (Fr.rfl (inM 999999 LX11_stone_t) _).trans ((rX11_isWithin hq).mono rfl (fun _ => rfl))
  by_cases hc : x2 = 0
  · rw [if_pos hc] at hf
    exact F.trans (rX11_stone_19_t hf)
  · rw [if_neg hc] at hf
    obtain ⟨x4, S3, hq, hf⟩ := bndC_ex hf
    have F := F.trans ((rX11_isWithin hq).mono rfl (fun _ => rfl))
    by_cases hc : x4 = 0
    · rw [if_pos hc] at hf
      exact F.trans (rX11_stone_19_t hf)
    · rw [if_neg hc] at hf
      obtain ⟨-, hf⟩ := grd_ex hf
      obtain ⟨S5, hq, hf⟩ := bndV_ex hf
      have F := F.trans ((rX7_look hq).mono rfl (fun _ => rfl))
      obtain ⟨-, hf⟩ := grd_ex hf
      obtain ⟨x7, S6, hq, hf⟩ := bndC_ex hf
      have F := F.trans ((rX7_changedByOne hq).mono rfl (fun _ => rfl))
      cases hf
      exact F
theorem rX11_stone_t {v1 : Int32} {v2 : Int32} {S S' : mT} {r : Int32} (hf : fX11_stone true v1 v2 S = some (r, S')) : Fr (inM 999999 LX11_stone_t) S S' := rX11_stone_0_t hf
abbrev LX11_summer_f : List (Nat × Nat × Option Nat) := [(999999, 999999, none), (11, 11, none), (17, 17, none), (18, 18, none), (35, 35, none), (37, 37, some 3), (37, 37, some 4), (37, 37, some 5), (39, 79, none)]
theorem rX11_summer_0_f {S' : mT} {r : Int32} {S : mT} (hf : fX11_summer false S = some (r, S')) : Fr (inM 999999 LX11_summer_f) S S' := by
  unfold fX11_summer at hf
  obtain ⟨-, hf⟩ := grd_ex hf
  by_cases hc : (S.1 35 (mIx (15 : Int32))) < (999 : Int32)
  · rw [if_pos hc] at hf
    obtain ⟨-, hf⟩ := grd_ex hf
    obtain ⟨S1, hq, hf⟩ := bndV_ex hf
    have F := (Fr.rfl (inM 999999 LX11_summer_f) _).trans ((rX8_passSummer_3 hq).mono rfl (fun _ => rfl))
    obtain ⟨-, hf⟩ := grd_ex hf
    obtain ⟨S2, hq, hf⟩ := bndV_ex hf
    have F := F.trans ((rX2_keep hq).mono rfl (fun _ => rfl))
    obtain ⟨-, hf⟩ := grd_ex hf
    obtain ⟨x4, S3, hq, hf⟩ := bndC_ex hf
    have F := F.trans ((rX11_allBowls_f hq).mono rfl (fun _ => rfl))
    cases hf
    exact F
  · rw [if_neg hc] at hf
    cases hf
    exact (Fr.rfl (inM 999999 LX11_summer_f) _)
theorem rX11_summer_f {S S' : mT} {r : Int32} (hf : fX11_summer false S = some (r, S')) : Fr (inM 999999 LX11_summer_f) S S' := rX11_summer_0_f hf
abbrev LX11_summer_t : List (Nat × Nat × Option Nat) := [(999999, 999999, none), (27, 27, none), (33, 33, none), (34, 34, none), (35, 35, none), (37, 37, some 3), (37, 37, some 4), (37, 37, some 5), (39, 79, none)]
theorem rX11_summer_0_t {S' : mT} {r : Int32} {S : mT} (hf : fX11_summer true S = some (r, S')) : Fr (inM 999999 LX11_summer_t) S S' := by
  unfold fX11_summer at hf
  obtain ⟨-, hf⟩ := grd_ex hf
  by_cases hc : (S.1 35 (mIx (15 : Int32))) < (999 : Int32)
  · rw [if_pos hc] at hf
    obtain ⟨-, hf⟩ := grd_ex hf
    obtain ⟨S1, hq, hf⟩ := bndV_ex hf
    have F := (Fr.rfl (inM 999999 LX11_summer_t) _).trans ((rX8_passSummer_19 hq).mono rfl (fun _ => rfl))
    obtain ⟨-, hf⟩ := grd_ex hf
    obtain ⟨S2, hq, hf⟩ := bndV_ex hf
    have F := F.trans ((rX2_keep hq).mono rfl (fun _ => rfl))
    obtain ⟨-, hf⟩ := grd_ex hf
    obtain ⟨x4, S3, hq, hf⟩ := bndC_ex hf
    have F := F.trans ((rX11_allBowls_t hq).mono rfl (fun _ => rfl))
    cases hf
    exact F
  · rw [if_neg hc] at hf
    cases hf
    exact (Fr.rfl (inM 999999 LX11_summer_t) _)
theorem rX11_summer_t {S S' : mT} {r : Int32} (hf : fX11_summer true S = some (r, S')) : Fr (inM 999999 LX11_summer_t) S S' := rX11_summer_0_t hf
abbrev LX11_tells_f : List (Nat × Nat × Option Nat) := [(999999, 999999, none), (120, 120, some 6), (120, 120, some 7), (120, 120, some 8), (120, 120, some 9), (120, 120, some 10), (120, 120, some 11), (120, 120, some 12), (120, 120, some 13), (120, 120, some 14), (122, 126, none), (127, 127, none), (128, 128, none), (130, 130, none), (132, 136, none), (137, 137, none), (138, 138, none), (139, 139, none)]
theorem rX11_tells_48_f {S' : mT} {r : Int32} {s0 : Int32} {S : mT} (hf : fX11_tells_48 false s0 S = some (r, S')) : Fr (inM 999999 LX11_tells_f) S S' := by
  unfold fX11_tells_48 at hf
  cases hf
  exact (Fr.rfl (inM 999999 LX11_tells_f) _)
theorem rX11_tells_0_f {S' : mT} {r : Int32} {v1 : Int32} {v2 : Int32} {S : mT} (hf : fX11_tells false v1 v2 S = some (r, S')) : Fr (inM 999999 LX11_tells_f) S S' := by
  unfold fX11_tells at hf
  obtain ⟨x2, S1, hq, hf⟩ := bndC_ex hf
  have F := (Fr.rfl (inM 999999 LX11_tells_f) _).trans ((rX11_isWithin hq).mono rfl (fun _ => rfl))
  by_cases hc : x2 = 0
  · rw [if_pos hc] at hf
    cases hf
    exact F
  · rw [if_neg hc] at hf
    obtain ⟨S3, hq, hf⟩ := bndV_ex hf
    have F := F.trans ((rX11_learn_f hq).mono rfl (fun _ => rfl))
    obtain ⟨-, hf⟩ := grd_ex hf
    by_cases hc : (S3.1 120 8) = 0
    · rw [if_pos hc] at hf
      cases hf
      exact F
    · rw [if_neg hc] at hf
      obtain ⟨-, hf⟩ := grd_ex hf
      obtain ⟨x5, S4, hq, hf⟩ := bndC_ex hf
      have F := F.trans ((rX10_tellingSet hq).mono rfl (fun _ => rfl))
      by_cases hc : v1 = 0
      · rw [if_pos hc] at hf
        obtain ⟨x7, S6, hq, hf⟩ := bndC_ex hf
        have F := F.trans ((rJ6_bitCount_0f7a4 hq).mono rfl (fun _ => rfl))
        exact F.trans (rX11_tells_48_f hf)
      · rw [if_neg hc] at hf
        exact F.trans (rX11_tells_48_f hf)
theorem rX11_tells_f {v1 : Int32} {v2 : Int32} {S S' : mT} {r : Int32} (hf : fX11_tells false v1 v2 S = some (r, S')) : Fr (inM 999999 LX11_tells_f) S S' := rX11_tells_0_f hf
abbrev LX11_tells_t : List (Nat × Nat × Option Nat) := [(999999, 999999, none), (120, 120, some 6), (120, 120, some 7), (120, 120, some 8), (120, 120, some 9), (120, 120, some 10), (120, 120, some 11), (120, 120, some 12), (120, 120, some 13), (120, 120, some 14), (122, 126, none), (127, 127, none), (128, 128, none), (130, 130, none), (132, 136, none), (137, 137, none), (138, 138, none), (139, 139, none)]
theorem rX11_tells_48_t {S' : mT} {r : Int32} {s0 : Int32} {S : mT} (hf : fX11_tells_48 true s0 S = some (r, S')) : Fr (inM 999999 LX11_tells_t) S S' := by
  unfold fX11_tells_48 at hf
  cases hf
  exact (Fr.rfl (inM 999999 LX11_tells_t) _)
theorem rX11_tells_0_t {S' : mT} {r : Int32} {v1 : Int32} {v2 : Int32} {S : mT} (hf : fX11_tells true v1 v2 S = some (r, S')) : Fr (inM 999999 LX11_tells_t) S S' := by
  unfold fX11_tells at hf
  obtain ⟨x2, S1, hq, hf⟩ := bndC_ex hf
  have F := (Fr.rfl (inM 999999 LX11_tells_t) _).trans ((rX11_isWithin hq).mono rfl (fun _ => rfl))
  by_cases hc : x2 = 0
  · rw [if_pos hc] at hf
    cases hf
    exact F
  · rw [if_neg hc] at hf
    obtain ⟨S3, hq, hf⟩ := bndV_ex hf
    have F := F.trans ((rX11_learn_t hq).mono rfl (fun _ => rfl))
    obtain ⟨-, hf⟩ := grd_ex hf
    by_cases hc : (S3.1 120 8) = 0
    · rw [if_pos hc] at hf
      cases hf
      exact F
    · rw [if_neg hc] at hf
      obtain ⟨-, hf⟩ := grd_ex hf
      obtain ⟨x5, S4, hq, hf⟩ := bndC_ex hf
      have F := F.trans ((rX10_tellingSet hq).mono rfl (fun _ => rfl))
      by_cases hc : v1 = 0
      · rw [if_pos hc] at hf
        obtain ⟨x7, S6, hq, hf⟩ := bndC_ex hf
        have F := F.trans ((rJ6_bitCount_0f7a4 hq).mono rfl (fun _ => rfl))
        exact F.trans (rX11_tells_48_t hf)
      · rw [if_neg hc] at hf
        exact F.trans (rX11_tells_48_t hf)
theorem rX11_tells_t {v1 : Int32} {v2 : Int32} {S S' : mT} {r : Int32} (hf : fX11_tells true v1 v2 S = some (r, S')) : Fr (inM 999999 LX11_tells_t) S S' := rX11_tells_0_t hf
abbrev LX11_truths_f : List (Nat × Nat × Option Nat) := [(999999, 999999, none), (120, 120, some 8), (120, 120, some 9), (120, 120, some 10), (120, 120, some 11), (120, 120, some 12), (120, 120, some 13), (120, 120, some 14), (122, 126, none), (127, 127, none), (128, 128, none), (130, 130, none), (132, 136, none), (137, 137, none)]
theorem rX11_truths_0_f {S' : mT} {r : Int32} {v1 : Int32} {S : mT} (hf : fX11_truths false v1 S = some (r, S')) : Fr (inM 999999 LX11_truths_f) S S' := by
  unfold fX11_truths at hf
  obtain ⟨S1, hq, hf⟩ := bndV_ex hf
  have F := (Fr.rfl (inM 999999 LX11_truths_f) _).trans ((rX11_learn_f hq).mono rfl (fun _ => rfl))
  obtain ⟨-, hf⟩ := grd_ex hf
  cases hf
  exact F
theorem rX11_truths_f {v1 : Int32} {S S' : mT} {r : Int32} (hf : fX11_truths false v1 S = some (r, S')) : Fr (inM 999999 LX11_truths_f) S S' := rX11_truths_0_f hf
abbrev LX11_truths_t : List (Nat × Nat × Option Nat) := [(999999, 999999, none), (120, 120, some 8), (120, 120, some 9), (120, 120, some 10), (120, 120, some 11), (120, 120, some 12), (120, 120, some 13), (120, 120, some 14), (122, 126, none), (127, 127, none), (128, 128, none), (130, 130, none), (132, 136, none), (137, 137, none)]
theorem rX11_truths_0_t {S' : mT} {r : Int32} {v1 : Int32} {S : mT} (hf : fX11_truths true v1 S = some (r, S')) : Fr (inM 999999 LX11_truths_t) S S' := by
  unfold fX11_truths at hf
  obtain ⟨S1, hq, hf⟩ := bndV_ex hf
  have F := (Fr.rfl (inM 999999 LX11_truths_t) _).trans ((rX11_learn_t hq).mono rfl (fun _ => rfl))
  obtain ⟨-, hf⟩ := grd_ex hf
  cases hf
  exact F
theorem rX11_truths_t {v1 : Int32} {S S' : mT} {r : Int32} (hf : fX11_truths true v1 S = some (r, S')) : Fr (inM 999999 LX11_truths_t) S S' := rX11_truths_0_t hf
abbrev LX2_stepBack : List (Nat × Nat × Option Nat) := [(999999, 999999, none), (37, 37, some 4), (37, 37, some 5)]
theorem rX2_stepBack_0 {a1 : Nat} {S' : mT} {r : Int32} {S : mT} (hf : fX2_stepBack a1 S = some (r, S')) : Fr (inM a1 LX2_stepBack) S S' := by
  unfold fX2_stepBack at hf
  obtain ⟨-, hf⟩ := grd_ex hf
  by_cases hc : 0 < (S.1 37 4)
  · rw [if_pos hc] at hf
    obtain ⟨-, hf⟩ := grd_ex hf
    obtain ⟨S1, eS1, hf⟩ := bnd_ex hf
    have F : Fr (inM a1 LX2_stepBack) S S1 := by
      rw [eS1]
      exact Fr.sI (Fr.rfl (inM a1 LX2_stepBack) _) rfl
    obtain ⟨-, hf⟩ := grd_ex hf
    obtain ⟨S2, eS2, hf⟩ := bnd_ex hf
    have F : Fr (inM a1 LX2_stepBack) S S2 := by
      rw [eS2]
      exact Fr.sI F rfl
    obtain ⟨S3, hq, hf⟩ := bndV_ex hf
    have F := F.trans ((rX2_copyTo hq).mono rfl (fun _ => inM_self))
    cases hf
    exact F
  · rw [if_neg hc] at hf
    cases hf
    exact (Fr.rfl (inM a1 LX2_stepBack) _)
theorem rX2_stepBack {a1 : Nat} {S S' : mT} {r : Int32} (hf : fX2_stepBack a1 S = some (r, S')) : Fr (inM a1 LX2_stepBack) S S' := rX2_stepBack_0 hf
abbrev LX11_undo : List (Nat × Nat × Option Nat) := [(999999, 999999, none), (35, 35, none), (37, 37, some 4), (37, 37, some 5)]
theorem rX11_undo_0 {S' : mT} {r : Int32} {S : mT} (hf : fX11_undo S = some (r, S')) : Fr (inM 999999 LX11_undo) S S' := by
  unfold fX11_undo at hf
  obtain ⟨-, hf⟩ := grd_ex hf
  obtain ⟨x2, S1, hq, hf⟩ := bndC_ex hf
  have F := (Fr.rfl (inM 999999 LX11_undo) _).trans ((rX2_stepBack hq).mono rfl (fun _ => rfl))
  obtain ⟨-, hf⟩ := grd_ex hf
  cases hf
  exact F
theorem rX11_undo {S S' : mT} {r : Int32} (hf : fX11_undo S = some (r, S')) : Fr (inM 999999 LX11_undo) S S' := rX11_undo_0 hf
abbrev LX5_takeBack : List (Nat × Nat × Option Nat) := [(999999, 999999, none), (119, 119, none)]
theorem rX5_takeBack_22 {S' : mT} {r : Int32} {S : mT} (hf : fX5_takeBack_22 S = some (r, S')) : Fr (inM 999999 LX5_takeBack) S S' := by
  unfold fX5_takeBack_22 at hf
  cases hf
  exact (Fr.rfl (inM 999999 LX5_takeBack) _)
theorem rX5_takeBack_0 {S' : mT} {r : Int32} {v1 : Int32} {v2 : Int32} {S : mT} (hf : fX5_takeBack v1 v2 S = some (r, S')) : Fr (inM 999999 LX5_takeBack) S S' := by
  unfold fX5_takeBack at hf
  by_cases hc : v1 < 0
  · rw [if_pos hc] at hf
    exact (Fr.rfl (inM 999999 LX5_takeBack) _).trans (rX5_takeBack_22 hf)
  · rw [if_neg hc] at hf
    obtain ⟨-, hf⟩ := grd_ex hf
    by_cases hc : (S.1 114 5) ≤ v1
    · rw [if_pos hc] at hf
      exact (Fr.rfl (inM 999999 LX5_takeBack) _).trans (rX5_takeBack_22 hf)
    · rw [if_neg hc] at hf
      obtain ⟨-, hf⟩ := grd_ex hf
      by_cases hc : (S.1 119 (mIx v1)) = (-1 : Int32)
      · rw [if_pos hc] at hf
        obtain ⟨-, hf⟩ := grd_ex hf
        obtain ⟨S1, eS1, hf⟩ := bnd_ex hf
        have F : Fr (inM 999999 LX5_takeBack) S S1 := by
          rw [eS1]
          exact Fr.sI (Fr.rfl (inM 999999 LX5_takeBack) _) rfl
        cases hf
        exact F
      · rw [if_neg hc] at hf
        exact (Fr.rfl (inM 999999 LX5_takeBack) _).trans (rX5_takeBack_22 hf)
theorem rX5_takeBack {v1 : Int32} {v2 : Int32} {S S' : mT} {r : Int32} (hf : fX5_takeBack v1 v2 S = some (r, S')) : Fr (inM 999999 LX5_takeBack) S S' := rX5_takeBack_0 hf
abbrev LX11_untell : List (Nat × Nat × Option Nat) := [(999999, 999999, none), (119, 119, none)]
theorem rX11_untell_0 {S' : mT} {r : Int32} {v1 : Int32} {S : mT} (hf : fX11_untell v1 S = some (r, S')) : Fr (inM 999999 LX11_untell) S S' := by
  unfold fX11_untell at hf
  obtain ⟨-, hf⟩ := grd_ex hf
  obtain ⟨x2, S1, hq, hf⟩ := bndC_ex hf
  have F := (Fr.rfl (inM 999999 LX11_untell) _).trans ((rX5_takeBack hq).mono rfl (fun _ => rfl))
  obtain ⟨-, hf⟩ := grd_ex hf
  cases hf
  exact F
theorem rX11_untell {v1 : Int32} {S S' : mT} {r : Int32} (hf : fX11_untell v1 S = some (r, S')) : Fr (inM 999999 LX11_untell) S S' := rX11_untell_0 hf
abbrev LX11_will_f : List (Nat × Nat × Option Nat) := [(999999, 999999, none), (11, 11, none), (17, 17, none), (18, 18, none), (36, 36, none)]
theorem rX11_will_18_f {S' : mT} {r : Int32} {S : mT} (hf : fX11_will_18 false S = some (r, S')) : Fr (inM 999999 LX11_will_f) S S' := by
  unfold fX11_will_18 at hf
  cases hf
  exact (Fr.rfl (inM 999999 LX11_will_f) _)
theorem rX11_will_0_f {S' : mT} {r : Int32} {v1 : Int32} {v2 : Int32} {S : mT} (hf : fX11_will false v1 v2 S = some (r, S')) : Fr (inM 999999 LX11_will_f) S S' := by
  unfold fX11_will at hf
  obtain ⟨x2, S1, hq, hf⟩ := bndC_ex hf
  have F := (Fr.rfl (inM 999999 LX11_will_f) _).trans ((rX11_isHouse_f hq).mono rfl (fun _ => rfl))
  by_cases hc : x2 = 0
  · rw [if_pos hc] at hf
    exact F.trans (rX11_will_18_f hf)
  · rw [if_neg hc] at hf
    obtain ⟨x4, S3, hq, hf⟩ := bndC_ex hf
    have F := F.trans ((rX11_isWithin hq).mono rfl (fun _ => rfl))
    by_cases hc : x4 = 0
    · rw [if_pos hc] at hf
      exact F.trans (rX11_will_18_f hf)
    · rw [if_neg hc] at hf
      obtain ⟨S5, hq, hf⟩ := bndV_ex hf
      have F := F.trans ((rX11_foresee_f hq).mono rfl (fun _ => rfl))
      obtain ⟨-, hf⟩ := grd_ex hf
      cases hf
      exact F
theorem rX11_will_f {v1 : Int32} {v2 : Int32} {S S' : mT} {r : Int32} (hf : fX11_will false v1 v2 S = some (r, S')) : Fr (inM 999999 LX11_will_f) S S' := rX11_will_0_f hf
abbrev LX11_will_t : List (Nat × Nat × Option Nat) := [(999999, 999999, none), (27, 27, none), (33, 33, none), (34, 34, none), (36, 36, none)]
theorem rX11_will_18_t {S' : mT} {r : Int32} {S : mT} (hf : fX11_will_18 true S = some (r, S')) : Fr (inM 999999 LX11_will_t) S S' := by
  unfold fX11_will_18 at hf
  cases hf
  exact (Fr.rfl (inM 999999 LX11_will_t) _)
theorem rX11_will_0_t {S' : mT} {r : Int32} {v1 : Int32} {v2 : Int32} {S : mT} (hf : fX11_will true v1 v2 S = some (r, S')) : Fr (inM 999999 LX11_will_t) S S' := by
  unfold fX11_will at hf
  obtain ⟨x2, S1, hq, hf⟩ := bndC_ex hf
  have F := (Fr.rfl (inM 999999 LX11_will_t) _).trans ((rX11_isHouse_t hq).mono rfl (fun _ => rfl))
  by_cases hc : x2 = 0
  · rw [if_pos hc] at hf
    exact F.trans (rX11_will_18_t hf)
  · rw [if_neg hc] at hf
    obtain ⟨x4, S3, hq, hf⟩ := bndC_ex hf
    have F := F.trans ((rX11_isWithin hq).mono rfl (fun _ => rfl))
    by_cases hc : x4 = 0
    · rw [if_pos hc] at hf
      exact F.trans (rX11_will_18_t hf)
    · rw [if_neg hc] at hf
      obtain ⟨S5, hq, hf⟩ := bndV_ex hf
      have F := F.trans ((rX11_foresee_t hq).mono rfl (fun _ => rfl))
      obtain ⟨-, hf⟩ := grd_ex hf
      cases hf
      exact F
theorem rX11_will_t {v1 : Int32} {v2 : Int32} {S S' : mT} {r : Int32} (hf : fX11_will true v1 v2 S = some (r, S')) : Fr (inM 999999 LX11_will_t) S S' := rX11_will_0_t hf
abbrev LX12_about : List (Nat × Nat × Option Nat) := [(999999, 999999, none)]
theorem rX12_about_0 {S' : mT} {r : Int32} {v1 : Int32} {S : mT} (hf : fX12_about v1 S = some (r, S')) : Fr (inM 999999 LX12_about) S S' := by
  unfold fX12_about at hf
  by_cases hc : v1 = (0 : Int32)
  · rw [if_pos hc] at hf
    obtain ⟨-, hf⟩ := grd_ex hf
    cases hf
    exact (Fr.rfl (inM 999999 LX12_about) _)
  · rw [if_neg hc] at hf
    by_cases hc : v1 = (1 : Int32)
    · rw [if_pos hc] at hf
      obtain ⟨-, hf⟩ := grd_ex hf
      cases hf
      exact (Fr.rfl (inM 999999 LX12_about) _)
    · rw [if_neg hc] at hf
      by_cases hc : v1 = (2 : Int32)
      · rw [if_pos hc] at hf
        obtain ⟨-, hf⟩ := grd_ex hf
        cases hf
        exact (Fr.rfl (inM 999999 LX12_about) _)
      · rw [if_neg hc] at hf
        by_cases hc : v1 = (3 : Int32)
        · rw [if_pos hc] at hf
          obtain ⟨-, hf⟩ := grd_ex hf
          cases hf
          exact (Fr.rfl (inM 999999 LX12_about) _)
        · rw [if_neg hc] at hf
          by_cases hc : v1 = (4 : Int32)
          · rw [if_pos hc] at hf
            obtain ⟨-, hf⟩ := grd_ex hf
            cases hf
            exact (Fr.rfl (inM 999999 LX12_about) _)
          · rw [if_neg hc] at hf
            by_cases hc : v1 = (5 : Int32)
            · rw [if_pos hc] at hf
              obtain ⟨-, hf⟩ := grd_ex hf
              cases hf
              exact (Fr.rfl (inM 999999 LX12_about) _)
            · rw [if_neg hc] at hf
              by_cases hc : v1 = (6 : Int32)
              · rw [if_pos hc] at hf
                obtain ⟨-, hf⟩ := grd_ex hf
                cases hf
                exact (Fr.rfl (inM 999999 LX12_about) _)
              · rw [if_neg hc] at hf
                by_cases hc : v1 = (7 : Int32)
                · rw [if_pos hc] at hf
                  obtain ⟨-, hf⟩ := grd_ex hf
                  cases hf
                  exact (Fr.rfl (inM 999999 LX12_about) _)
                · rw [if_neg hc] at hf
                  by_cases hc : v1 = (8 : Int32)
                  · rw [if_pos hc] at hf
                    obtain ⟨-, hf⟩ := grd_ex hf
                    cases hf
                    exact (Fr.rfl (inM 999999 LX12_about) _)
                  · rw [if_neg hc] at hf
                    by_cases hc : v1 = (9 : Int32)
                    · rw [if_pos hc] at hf
                      obtain ⟨-, hf⟩ := grd_ex hf
                      cases hf
                      exact (Fr.rfl (inM 999999 LX12_about) _)
                    · rw [if_neg hc] at hf
                      cases hf
                      exact (Fr.rfl (inM 999999 LX12_about) _)
theorem rX12_about {v1 : Int32} {S S' : mT} {r : Int32} (hf : fX12_about v1 S = some (r, S')) : Fr (inM 999999 LX12_about) S S' := rX12_about_0 hf
abbrev LX12_act : List (Nat × Nat × Option Nat) := [(999999, 999999, none), (187, 187, some 46), (187, 187, some 47), (212, 212, none)]
theorem rX12_act_51 {S' : mT} : ∀ (k : Nat) (v1 : Int32) (S : mT), fX12_act_51 k v1 S = some S' → Fr (inM 999999 LX12_act) S S' := by
  intro k
  induction k with
  | zero =>
    intro v1 S hf
    cases hf
  | succ k ih =>
    intro v1 S hf
    unfold fX12_act_51 at hf
    by_cases hc : (17 : Int32) ≤ v1
    · rw [if_pos hc] at hf
      obtain ⟨-, hf⟩ := grd_ex hf
      obtain ⟨S4, eS4, hf⟩ := bnd_ex hf
      have F : Fr (inM 999999 LX12_act) S S4 := by
        rw [eS4]
        exact Fr.sI (Fr.rfl (inM 999999 LX12_act) _) rfl
      obtain ⟨-, hf⟩ := grd_ex hf
      obtain ⟨S5, eS5, hf⟩ := bnd_ex hf
      have F : Fr (inM 999999 LX12_act) S S5 := by
        rw [eS5]
        exact Fr.sI F rfl
      cases hf
      exact F
    · rw [if_neg hc] at hf
      obtain ⟨-, hf⟩ := grd_ex hf
      obtain ⟨-, hf⟩ := grd_ex hf
      obtain ⟨S6, eS6, hf⟩ := bnd_ex hf
      have F : Fr (inM 999999 LX12_act) S S6 := by
        rw [eS6]
        exact Fr.sI (Fr.rfl (inM 999999 LX12_act) _) rfl
      obtain ⟨x7, -, hf⟩ := bnd_ex hf
      exact F.trans (ih _ _ hf)
theorem rX12_act_49 {S' : mT} {S : mT} (hf : fX12_act_49 S = some S') : Fr (inM 999999 LX12_act) S S' := by
  unfold fX12_act_49 at hf
  exact (Fr.rfl (inM 999999 LX12_act) _).trans (rX12_act_51 _ _ _ hf)
theorem rX12_act_11 {S' : mT} : ∀ (k : Nat) (v1 : Int32) (S : mT), fX12_act_11 k v1 S = some S' → Fr (inM 999999 LX12_act) S S' := by
  intro k
  induction k with
  | zero =>
    intro v1 S hf
    cases hf
  | succ k ih =>
    intro v1 S hf
    unfold fX12_act_11 at hf
    by_cases hc : (702 : Int32) ≤ v1
    · rw [if_pos hc] at hf
      obtain ⟨-, hf⟩ := grd_ex hf
      obtain ⟨S1, eS1, hf⟩ := bnd_ex hf
      have F : Fr (inM 999999 LX12_act) S S1 := by
        rw [eS1]
        exact Fr.sI (Fr.rfl (inM 999999 LX12_act) _) rfl
      exact F.trans (rX12_act_49 hf)
    · rw [if_neg hc] at hf
      obtain ⟨-, hf⟩ := grd_ex hf
      obtain ⟨S2, eS2, hf⟩ := bnd_ex hf
      have F : Fr (inM 999999 LX12_act) S S2 := by
        rw [eS2]
        exact Fr.sI (Fr.rfl (inM 999999 LX12_act) _) rfl
      obtain ⟨x3, -, hf⟩ := bnd_ex hf
      exact F.trans (ih _ _ hf)
theorem rX12_act_0 {S' : mT} {S : mT} (hf : fX12_act S = some S') : Fr (inM 999999 LX12_act) S S' := by
  unfold fX12_act at hf
  obtain ⟨-, hf⟩ := grd_ex hf
  by_cases hc : (S.1 187 46) = (40 : Int32)
  · rw [if_pos hc] at hf
    exact (Fr.rfl (inM 999999 LX12_act) _).trans (rX12_act_11 _ _ _ hf)
  · rw [if_neg hc] at hf
    exact (Fr.rfl (inM 999999 LX12_act) _).trans (rX12_act_49 hf)
theorem rX12_act {S S' : mT} (hf : fX12_act S = some S') : Fr (inM 999999 LX12_act) S S' := rX12_act_0 hf
abbrev LX12_add : List (Nat × Nat × Option Nat) := [(999999, 999999, none), (190, 190, none), (191, 191, none), (192, 192, none)]
theorem rX12_add_0 {S' : mT} {v1 : Int32} {v2 : Int32} {S : mT} (hf : fX12_add v1 v2 S = some S') : Fr (inM 999999 LX12_add) S S' := by
  unfold fX12_add at hf
  obtain ⟨-, hf⟩ := grd_ex hf
  obtain ⟨-, hf⟩ := grd_ex hf
  obtain ⟨S1, eS1, hf⟩ := bnd_ex hf
  have F : Fr (inM 999999 LX12_add) S S1 := by
    rw [eS1]
    exact Fr.sI (Fr.rfl (inM 999999 LX12_add) _) rfl
  obtain ⟨-, hf⟩ := grd_ex hf
  obtain ⟨-, hf⟩ := grd_ex hf
  obtain ⟨S2, eS2, hf⟩ := bnd_ex hf
  have F : Fr (inM 999999 LX12_add) S S2 := by
    rw [eS2]
    exact Fr.sI F rfl
  obtain ⟨-, hf⟩ := grd_ex hf
  obtain ⟨S3, eS3, hf⟩ := bnd_ex hf
  have F : Fr (inM 999999 LX12_add) S S3 := by
    rw [eS3]
    exact Fr.sI F rfl
  cases hf
  exact F
theorem rX12_add {v1 : Int32} {v2 : Int32} {S S' : mT} (hf : fX12_add v1 v2 S = some S') : Fr (inM 999999 LX12_add) S S' := rX12_add_0 hf
abbrev LX12_allBowls : List (Nat × Nat × Option Nat) := [(999999, 999999, none)]
theorem rX12_allBowls_4 {S' : mT} {r : Int32} : ∀ (k : Nat) (v1 : Int32) (v2 : Int32) (S : mT), fX12_allBowls_4 k v1 v2 S = some (r, S') → Fr (inM 999999 LX12_allBowls) S S' := by
  intro k
  induction k with
  | zero =>
    intro v1 v2 S hf
    cases hf
  | succ k ih =>
    intro v1 v2 S hf
    unfold fX12_allBowls_4 at hf
    obtain ⟨-, hf⟩ := grd_ex hf
    by_cases hc : (S.1 187 37) ≤ v2
    · rw [if_pos hc] at hf
      cases hf
      exact (Fr.rfl (inM 999999 LX12_allBowls) _)
    · rw [if_neg hc] at hf
      obtain ⟨-, hf⟩ := grd_ex hf
      obtain ⟨x1, -, hf⟩ := bnd_ex hf
      obtain ⟨x2, -, hf⟩ := bnd_ex hf
      exact (Fr.rfl (inM 999999 LX12_allBowls) _).trans (ih _ _ _ hf)
theorem rX12_allBowls_0 {S' : mT} {r : Int32} {S : mT} (hf : fX12_allBowls S = some (r, S')) : Fr (inM 999999 LX12_allBowls) S S' := by
  unfold fX12_allBowls at hf
  exact (Fr.rfl (inM 999999 LX12_allBowls) _).trans (rX12_allBowls_4 _ _ _ _ hf)
theorem rX12_allBowls {S S' : mT} {r : Int32} (hf : fX12_allBowls S = some (r, S')) : Fr (inM 999999 LX12_allBowls) S S' := rX12_allBowls_0 hf
abbrev LX12_askOf : List (Nat × Nat × Option Nat) := [(999999, 999999, none), (200, 200, none)]
theorem rX12_askOf_0 {S' : mT} {v1 : Int32} {v2 : Int32} {v3 : Int32} {v4 : Int32} {v5 : Int32} {v6 : Int32} {S : mT} (hf : fX12_askOf v1 v2 v3 v4 v5 v6 S = some S') : Fr (inM 999999 LX12_askOf) S S' := by
  unfold fX12_askOf at hf
  obtain ⟨-, hf⟩ := grd_ex hf
  obtain ⟨S1, eS1, hf⟩ := bnd_ex hf
  have F : Fr (inM 999999 LX12_askOf) S S1 := by
    rw [eS1]
    exact Fr.sI (Fr.rfl (inM 999999 LX12_askOf) _) rfl
  obtain ⟨-, hf⟩ := grd_ex hf
  obtain ⟨S2, eS2, hf⟩ := bnd_ex hf
  have F : Fr (inM 999999 LX12_askOf) S S2 := by
    rw [eS2]
    exact Fr.sI F rfl
  obtain ⟨-, hf⟩ := grd_ex hf
  obtain ⟨S3, eS3, hf⟩ := bnd_ex hf
  have F : Fr (inM 999999 LX12_askOf) S S3 := by
    rw [eS3]
    exact Fr.sI F rfl
  obtain ⟨-, hf⟩ := grd_ex hf
  obtain ⟨S4, eS4, hf⟩ := bnd_ex hf
  have F : Fr (inM 999999 LX12_askOf) S S4 := by
    rw [eS4]
    exact Fr.sI F rfl
  obtain ⟨-, hf⟩ := grd_ex hf
  obtain ⟨S5, eS5, hf⟩ := bnd_ex hf
  have F : Fr (inM 999999 LX12_askOf) S S5 := by
    rw [eS5]
    exact Fr.sI F rfl
  obtain ⟨-, hf⟩ := grd_ex hf
  obtain ⟨S6, eS6, hf⟩ := bnd_ex hf
  have F : Fr (inM 999999 LX12_askOf) S S6 := by
    rw [eS6]
    exact Fr.sI F rfl
  cases hf
  exact F
theorem rX12_askOf {v1 : Int32} {v2 : Int32} {v3 : Int32} {v4 : Int32} {v5 : Int32} {v6 : Int32} {S S' : mT} (hf : fX12_askOf v1 v2 v3 v4 v5 v6 S = some S') : Fr (inM 999999 LX12_askOf) S S' := rX12_askOf_0 hf
abbrev LX12_asked : List (Nat × Nat × Option Nat) := [(999999, 999999, none)]
theorem rX12_asked_91 {S' : mT} {r : Int32} {s0 : Int32} {S : mT} (hf : fX12_asked_91 s0 S = some (r, S')) : Fr (inM 999999 LX12_asked) S S' := by
  unfold fX12_asked_91 at hf
  cases hf
  exact (Fr.rfl (inM 999999 LX12_asked) _)
theorem rX12_asked_0 {S' : mT} {r : Int32} {S : mT} (hf : fX12_asked S = some (r, S')) : Fr (inM 999999 LX12_asked) S S' := by
  unfold fX12_asked at hf
  obtain ⟨-, hf⟩ := grd_ex hf
  by_cases hc : (S.1 187 6) = (1 : Int32)
  · rw [if_pos hc] at hf
    obtain ⟨-, hf⟩ := grd_ex hf
    by_cases hc : (lg_cmp (S.2 187 9) (448377480307 : Int64)) = 0
    · rw [if_pos hc] at hf
      cases hf
      exact (Fr.rfl (inM 999999 LX12_asked) _)
    · rw [if_neg hc] at hf
      obtain ⟨-, hf⟩ := grd_ex hf
      by_cases hc : (lg_cmp (S.2 187 9) (114801865155950 : Int64)) = 0
      · rw [if_pos hc] at hf
        cases hf
        exact (Fr.rfl (inM 999999 LX12_asked) _)
      · rw [if_neg hc] at hf
        obtain ⟨-, hf⟩ := grd_ex hf
        by_cases hc : (lg_cmp (S.2 187 9) (6971757 : Int64)) = 0
        · rw [if_pos hc] at hf
          cases hf
          exact (Fr.rfl (inM 999999 LX12_asked) _)
        · rw [if_neg hc] at hf
          obtain ⟨-, hf⟩ := grd_ex hf
          by_cases hc : (lg_cmp (S.2 187 9) (448310438260 : Int64)) = 0
          · rw [if_pos hc] at hf
            cases hf
            exact (Fr.rfl (inM 999999 LX12_asked) _)
          · rw [if_neg hc] at hf
            obtain ⟨-, hf⟩ := grd_ex hf
            by_cases hc : (lg_cmp (S.2 187 9) (126943922906483 : Int64)) = 0
            · rw [if_pos hc] at hf
              cases hf
              exact (Fr.rfl (inM 999999 LX12_asked) _)
            · rw [if_neg hc] at hf
              obtain ⟨-, hf⟩ := grd_ex hf
              by_cases hc : (lg_cmp (S.2 187 9) (2036687218 : Int64)) = 0
              · rw [if_pos hc] at hf
                exact (Fr.rfl (inM 999999 LX12_asked) _).trans (rX12_asked_91 hf)
              · rw [if_neg hc] at hf
                exact (Fr.rfl (inM 999999 LX12_asked) _).trans (rX12_asked_91 hf)
  · rw [if_neg hc] at hf
    cases hf
    exact (Fr.rfl (inM 999999 LX12_asked) _)
theorem rX12_asked {S S' : mT} {r : Int32} (hf : fX12_asked S = some (r, S')) : Fr (inM 999999 LX12_asked) S S' := rX12_asked_0 hf
abbrev LX12_isBox : List (Nat × Nat × Option Nat) := [(999999, 999999, none)]
theorem rX12_isBox_14 {S' : mT} {r : Int32} {s0 : Int32} {S : mT} (hf : fX12_isBox_14 s0 S = some (r, S')) : Fr (inM 999999 LX12_isBox) S S' := by
  unfold fX12_isBox_14 at hf
  obtain ⟨-, hf⟩ := grd_ex hf
  cases hf
  exact (Fr.rfl (inM 999999 LX12_isBox) _)
theorem rX12_isBox_13 {S' : mT} {r : Int32} {S : mT} (hf : fX12_isBox_13 S = some (r, S')) : Fr (inM 999999 LX12_isBox) S S' := by
  unfold fX12_isBox_13 at hf
  exact (Fr.rfl (inM 999999 LX12_isBox) _).trans (rX12_isBox_14 hf)
theorem rX12_isBox_0 {S' : mT} {r : Int32} {v0 : Int32} {S : mT} (hf : fX12_isBox v0 S = some (r, S')) : Fr (inM 999999 LX12_isBox) S S' := by
  unfold fX12_isBox at hf
  by_cases hc : v0 < 0
  · rw [if_pos hc] at hf
    exact (Fr.rfl (inM 999999 LX12_isBox) _).trans (rX12_isBox_13 hf)
  · rw [if_neg hc] at hf
    by_cases hc : (3 : Int32) ≤ v0
    · rw [if_pos hc] at hf
      exact (Fr.rfl (inM 999999 LX12_isBox) _).trans (rX12_isBox_13 hf)
    · rw [if_neg hc] at hf
      exact (Fr.rfl (inM 999999 LX12_isBox) _).trans (rX12_isBox_14 hf)
theorem rX12_isBox {v0 : Int32} {S S' : mT} {r : Int32} (hf : fX12_isBox v0 S = some (r, S')) : Fr (inM 999999 LX12_isBox) S S' := rX12_isBox_0 hf
abbrev LX12_back : List (Nat × Nat × Option Nat) := [(999999, 999999, none), (187, 187, some 46), (187, 187, some 47), (208, 208, none)]
theorem rX12_back_16 {S' : mT} {r : Int32} {S : mT} (hf : fX12_back_16 S = some (r, S')) : Fr (inM 999999 LX12_back) S S' := by
  unfold fX12_back_16 at hf
  cases hf
  exact (Fr.rfl (inM 999999 LX12_back) _)
theorem rX12_back_20 {S' : mT} {r : Int32} : ∀ (k : Nat) (v1 : Int32) (v2 : Int32) (S : mT), fX12_back_20 k v1 v2 S = some (r, S') → Fr (inM 999999 LX12_back) S S' := by
  intro k
  induction k with
  | zero =>
    intro v1 v2 S hf
    cases hf
  | succ k ih =>
    intro v1 v2 S hf
    unfold fX12_back_20 at hf
    by_cases hc : (17 : Int32) ≤ v2
    · rw [if_pos hc] at hf
      obtain ⟨-, hf⟩ := grd_ex hf
      obtain ⟨S3, eS3, hf⟩ := bnd_ex hf
      have F : Fr (inM 999999 LX12_back) S S3 := by
        rw [eS3]
        exact Fr.sI (Fr.rfl (inM 999999 LX12_back) _) rfl
      obtain ⟨-, hf⟩ := grd_ex hf
      obtain ⟨S4, eS4, hf⟩ := bnd_ex hf
      have F : Fr (inM 999999 LX12_back) S S4 := by
        rw [eS4]
        exact Fr.sI F rfl
      obtain ⟨-, hf⟩ := grd_ex hf
      cases hf
      exact F
    · rw [if_neg hc] at hf
      obtain ⟨-, hf⟩ := grd_ex hf
      obtain ⟨-, hf⟩ := grd_ex hf
      obtain ⟨S5, eS5, hf⟩ := bnd_ex hf
      have F : Fr (inM 999999 LX12_back) S S5 := by
        rw [eS5]
        exact Fr.sI (Fr.rfl (inM 999999 LX12_back) _) rfl
      obtain ⟨x6, -, hf⟩ := bnd_ex hf
      exact F.trans (ih _ _ _ hf)
theorem rX12_back_0 {S' : mT} {r : Int32} {v1 : Int32} {S : mT} (hf : fX12_back v1 S = some (r, S')) : Fr (inM 999999 LX12_back) S S' := by
  unfold fX12_back at hf
  obtain ⟨x2, S1, hq, hf⟩ := bndC_ex hf
  have F := (Fr.rfl (inM 999999 LX12_back) _).trans ((rX12_isBox hq).mono rfl (fun _ => rfl))
  by_cases hc : x2 = 0
  · rw [if_pos hc] at hf
    exact F.trans (rX12_back_16 hf)
  · rw [if_neg hc] at hf
    obtain ⟨-, hf⟩ := grd_ex hf
    by_cases hc : (S1.1 231 (mIx v1)) = 0
    · rw [if_pos hc] at hf
      exact F.trans (rX12_back_16 hf)
    · rw [if_neg hc] at hf
      exact F.trans (rX12_back_20 _ _ _ _ hf)
theorem rX12_back {v1 : Int32} {S S' : mT} {r : Int32} (hf : fX12_back v1 S = some (r, S')) : Fr (inM 999999 LX12_back) S S' := rX12_back_0 hf
abbrev LX12_bound : List (Nat × Nat × Option Nat) := [(999999, 999999, none)]
theorem rX12_bound_19 {S' : mT} {r : Int32} {s0 : Int32} {S : mT} (hf : fX12_bound_19 s0 S = some (r, S')) : Fr (inM 999999 LX12_bound) S S' := by
  unfold fX12_bound_19 at hf
  cases hf
  exact (Fr.rfl (inM 999999 LX12_bound) _)
theorem rX12_bound_0 {S' : mT} {r : Int32} {v0 : Int32} {v1 : Int32} {v2 : Int32} {S : mT} (hf : fX12_bound v0 v1 v2 S = some (r, S')) : Fr (inM 999999 LX12_bound) S S' := by
  unfold fX12_bound at hf
  by_cases hc : v1 ≤ v0
  · rw [if_pos hc] at hf
    by_cases hc : v0 ≤ v2
    · rw [if_pos hc] at hf
      exact (Fr.rfl (inM 999999 LX12_bound) _).trans (rX12_bound_19 hf)
    · rw [if_neg hc] at hf
      exact (Fr.rfl (inM 999999 LX12_bound) _).trans (rX12_bound_19 hf)
  · rw [if_neg hc] at hf
    exact (Fr.rfl (inM 999999 LX12_bound) _).trans (rX12_bound_19 hf)
theorem rX12_bound {v0 : Int32} {v1 : Int32} {v2 : Int32} {S S' : mT} {r : Int32} (hf : fX12_bound v0 v1 v2 S = some (r, S')) : Fr (inM 999999 LX12_bound) S S' := rX12_bound_0 hf
abbrev LX12_notMoreHidden : List (Nat × Nat × Option Nat) := [(999999, 999999, none), (210, 210, none)]
theorem rX12_notMoreHidden_35 {S' : mT} {s0 : Int32} {s1 : Int32} {S : mT} (hf : fX12_notMoreHidden_35 s0 s1 S = some S') : Fr (inM 999999 LX12_notMoreHidden) S S' := by
  unfold fX12_notMoreHidden_35 at hf
  obtain ⟨-, hf⟩ := grd_ex hf
  obtain ⟨S1, eS1, hf⟩ := bnd_ex hf
  have F : Fr (inM 999999 LX12_notMoreHidden) S S1 := by
    rw [eS1]
    exact Fr.sI (Fr.rfl (inM 999999 LX12_notMoreHidden) _) rfl
  cases hf
  exact F
theorem rX12_notMoreHidden_0 {S' : mT} {v1 : Int32} {S : mT} (hf : fX12_notMoreHidden v1 S = some S') : Fr (inM 999999 LX12_notMoreHidden) S S' := by
  unfold fX12_notMoreHidden at hf
  obtain ⟨-, hf⟩ := grd_ex hf
  obtain ⟨-, hf⟩ := grd_ex hf
  by_cases hc : (S.1 210 (mIx v1)) ≤ (S.1 209 (mIx v1))
  · rw [if_pos hc] at hf
    obtain ⟨-, hf⟩ := grd_ex hf
    exact (Fr.rfl (inM 999999 LX12_notMoreHidden) _).trans (rX12_notMoreHidden_35 hf)
  · rw [if_neg hc] at hf
    obtain ⟨-, hf⟩ := grd_ex hf
    exact (Fr.rfl (inM 999999 LX12_notMoreHidden) _).trans (rX12_notMoreHidden_35 hf)
theorem rX12_notMoreHidden {v1 : Int32} {S S' : mT} (hf : fX12_notMoreHidden v1 S = some S') : Fr (inM 999999 LX12_notMoreHidden) S S' := rX12_notMoreHidden_0 hf
abbrev LX12_truth : List (Nat × Nat × Option Nat) := [(999999, 999999, none)]
theorem rX12_truth_9 {S' : mT} {r : Int32} {s0 : Int32} {S : mT} (hf : fX12_truth_9 s0 S = some (r, S')) : Fr (inM 999999 LX12_truth) S S' := by
  unfold fX12_truth_9 at hf
  cases hf
  exact (Fr.rfl (inM 999999 LX12_truth) _)
theorem rX12_truth_0 {S' : mT} {r : Int32} {v0 : Int32} {S : mT} (hf : fX12_truth v0 S = some (r, S')) : Fr (inM 999999 LX12_truth) S S' := by
  unfold fX12_truth at hf
  by_cases hc : v0 = 0
  · rw [if_pos hc] at hf
    exact (Fr.rfl (inM 999999 LX12_truth) _).trans (rX12_truth_9 hf)
  · rw [if_neg hc] at hf
    exact (Fr.rfl (inM 999999 LX12_truth) _).trans (rX12_truth_9 hf)
theorem rX12_truth {v0 : Int32} {S S' : mT} {r : Int32} (hf : fX12_truth v0 S = some (r, S')) : Fr (inM 999999 LX12_truth) S S' := rX12_truth_0 hf
abbrev LX12_done : List (Nat × Nat × Option Nat) := [(999999, 999999, none)]
theorem rX12_done_143 {S' : mT} {r : Int32} {s0 : Int32} {S : mT} (hf : fX12_done_143 s0 S = some (r, S')) : Fr (inM 999999 LX12_done) S S' := by
  unfold fX12_done_143 at hf
  cases hf
  exact (Fr.rfl (inM 999999 LX12_done) _)
theorem rX12_done_155 {S' : mT} {r : Int32} {s0 : Int32} {S : mT} (hf : fX12_done_155 s0 S = some (r, S')) : Fr (inM 999999 LX12_done) S S' := by
  unfold fX12_done_155 at hf
  cases hf
  exact (Fr.rfl (inM 999999 LX12_done) _)
theorem rX12_done_166 {S' : mT} {r : Int32} {s0 : Int32} {S : mT} (hf : fX12_done_166 s0 S = some (r, S')) : Fr (inM 999999 LX12_done) S S' := by
  unfold fX12_done_166 at hf
  obtain ⟨x8, S7, hq, hf⟩ := bndC_ex hf
  have F := (Fr.rfl (inM 999999 LX12_done) _).trans ((rX12_truth hq).mono rfl (fun _ => rfl))
  cases hf
  exact F
theorem rX12_done_180 {S' : mT} {r : Int32} {s0 : Int32} {S : mT} (hf : fX12_done_180 s0 S = some (r, S')) : Fr (inM 999999 LX12_done) S S' := by
  unfold fX12_done_180 at hf
  obtain ⟨x4, S3, hq, hf⟩ := bndC_ex hf
  have F := (Fr.rfl (inM 999999 LX12_done) _).trans ((rX12_truth hq).mono rfl (fun _ => rfl))
  cases hf
  exact F
theorem rX12_done_194 {S' : mT} {r : Int32} {s0 : Int32} {S : mT} (hf : fX12_done_194 s0 S = some (r, S')) : Fr (inM 999999 LX12_done) S S' := by
  unfold fX12_done_194 at hf
  obtain ⟨x6, S5, hq, hf⟩ := bndC_ex hf
  have F := (Fr.rfl (inM 999999 LX12_done) _).trans ((rX12_truth hq).mono rfl (fun _ => rfl))
  cases hf
  exact F
theorem rX12_done_211 {S' : mT} {r : Int32} {s0 : Int32} {S : mT} (hf : fX12_done_211 s0 S = some (r, S')) : Fr (inM 999999 LX12_done) S S' := by
  unfold fX12_done_211 at hf
  obtain ⟨x10, S9, hq, hf⟩ := bndC_ex hf
  have F := (Fr.rfl (inM 999999 LX12_done) _).trans ((rX12_truth hq).mono rfl (fun _ => rfl))
  cases hf
  exact F
theorem rX12_done_210 {S' : mT} {r : Int32} {S : mT} (hf : fX12_done_210 S = some (r, S')) : Fr (inM 999999 LX12_done) S S' := by
  unfold fX12_done_210 at hf
  exact (Fr.rfl (inM 999999 LX12_done) _).trans (rX12_done_211 hf)
theorem rX12_done_228 {S' : mT} {r : Int32} {s0 : Int32} {S : mT} (hf : fX12_done_228 s0 S = some (r, S')) : Fr (inM 999999 LX12_done) S S' := by
  unfold fX12_done_228 at hf
  obtain ⟨x2, S1, hq, hf⟩ := bndC_ex hf
  have F := (Fr.rfl (inM 999999 LX12_done) _).trans ((rX12_truth hq).mono rfl (fun _ => rfl))
  cases hf
  exact F
theorem rX12_done_223 {S' : mT} {r : Int32} {S : mT} (hf : fX12_done_223 S = some (r, S')) : Fr (inM 999999 LX12_done) S S' := by
  unfold fX12_done_223 at hf
  exact (Fr.rfl (inM 999999 LX12_done) _).trans (rX12_done_228 hf)
theorem rX12_done_0 {S' : mT} {r : Int32} {v0 : Int32} {v1 : Int32} {v2 : Int32} {S : mT} (hf : fX12_done v0 v1 v2 S = some (r, S')) : Fr (inM 999999 LX12_done) S S' := by
  unfold fX12_done at hf
  by_cases hc : v0 = (37 : Int32)
  · rw [if_pos hc] at hf
    by_cases hc : v2 = 0
    · rw [if_pos hc] at hf
      exact (Fr.rfl (inM 999999 LX12_done) _).trans (rX12_done_155 hf)
    · rw [if_neg hc] at hf
      obtain ⟨-, hf⟩ := grd_ex hf
      exact (Fr.rfl (inM 999999 LX12_done) _).trans (rX12_done_155 hf)
  · rw [if_neg hc] at hf
    by_cases hc : v0 = (38 : Int32)
    · rw [if_pos hc] at hf
      by_cases hc : v1 = 0
      · rw [if_pos hc] at hf
        exact (Fr.rfl (inM 999999 LX12_done) _).trans (rX12_done_210 hf)
      · rw [if_neg hc] at hf
        by_cases hc : v2 = 0
        · rw [if_pos hc] at hf
          exact (Fr.rfl (inM 999999 LX12_done) _).trans (rX12_done_210 hf)
        · rw [if_neg hc] at hf
          exact (Fr.rfl (inM 999999 LX12_done) _).trans (rX12_done_211 hf)
    · rw [if_neg hc] at hf
      by_cases hc : v0 = (39 : Int32)
      · rw [if_pos hc] at hf
        by_cases hc : v1 = 0
        · rw [if_pos hc] at hf
          by_cases hc : v2 = 0
          · rw [if_pos hc] at hf
            exact (Fr.rfl (inM 999999 LX12_done) _).trans (rX12_done_228 hf)
          · rw [if_neg hc] at hf
            exact (Fr.rfl (inM 999999 LX12_done) _).trans (rX12_done_223 hf)
        · rw [if_neg hc] at hf
          exact (Fr.rfl (inM 999999 LX12_done) _).trans (rX12_done_223 hf)
      · rw [if_neg hc] at hf
        by_cases hc : v0 = (40 : Int32)
        · rw [if_pos hc] at hf
          by_cases hc : v1 = 0
          · rw [if_pos hc] at hf
            by_cases hc : v2 = 0
            · rw [if_pos hc] at hf
              exact (Fr.rfl (inM 999999 LX12_done) _).trans (rX12_done_228 hf)
            · rw [if_neg hc] at hf
              exact (Fr.rfl (inM 999999 LX12_done) _).trans (rX12_done_223 hf)
          · rw [if_neg hc] at hf
            exact (Fr.rfl (inM 999999 LX12_done) _).trans (rX12_done_223 hf)
        · rw [if_neg hc] at hf
          by_cases hc : v0 = (41 : Int32)
          · rw [if_pos hc] at hf
            by_cases hc : v1 = 0
            · rw [if_pos hc] at hf
              by_cases hc : v2 = 0
              · rw [if_pos hc] at hf
                exact (Fr.rfl (inM 999999 LX12_done) _).trans (rX12_done_228 hf)
              · rw [if_neg hc] at hf
                exact (Fr.rfl (inM 999999 LX12_done) _).trans (rX12_done_223 hf)
            · rw [if_neg hc] at hf
              exact (Fr.rfl (inM 999999 LX12_done) _).trans (rX12_done_223 hf)
          · rw [if_neg hc] at hf
            by_cases hc : v0 = (42 : Int32)
            · rw [if_pos hc] at hf
              cases hf
              exact (Fr.rfl (inM 999999 LX12_done) _)
            · rw [if_neg hc] at hf
              by_cases hc : v0 = (43 : Int32)
              · rw [if_pos hc] at hf
                cases hf
                exact (Fr.rfl (inM 999999 LX12_done) _)
              · rw [if_neg hc] at hf
                by_cases hc : v0 = (44 : Int32)
                · rw [if_pos hc] at hf
                  by_cases hc : v1 = 0
                  · rw [if_pos hc] at hf
                    by_cases hc : v2 = 0
                    · rw [if_pos hc] at hf
                      exact (Fr.rfl (inM 999999 LX12_done) _).trans (rX12_done_228 hf)
                    · rw [if_neg hc] at hf
                      exact (Fr.rfl (inM 999999 LX12_done) _).trans (rX12_done_223 hf)
                  · rw [if_neg hc] at hf
                    exact (Fr.rfl (inM 999999 LX12_done) _).trans (rX12_done_223 hf)
                · rw [if_neg hc] at hf
                  by_cases hc : v0 = (45 : Int32)
                  · rw [if_pos hc] at hf
                    cases hf
                    exact (Fr.rfl (inM 999999 LX12_done) _)
                  · rw [if_neg hc] at hf
                    by_cases hc : v0 = (46 : Int32)
                    · rw [if_pos hc] at hf
                      by_cases hc : v1 = 0
                      · rw [if_pos hc] at hf
                        by_cases hc : v2 = 0
                        · rw [if_pos hc] at hf
                          exact (Fr.rfl (inM 999999 LX12_done) _).trans (rX12_done_228 hf)
                        · rw [if_neg hc] at hf
                          exact (Fr.rfl (inM 999999 LX12_done) _).trans (rX12_done_223 hf)
                      · rw [if_neg hc] at hf
                        exact (Fr.rfl (inM 999999 LX12_done) _).trans (rX12_done_223 hf)
                    · rw [if_neg hc] at hf
                      by_cases hc : v0 = (47 : Int32)
                      · rw [if_pos hc] at hf
                        by_cases hc : v2 = 0
                        · rw [if_pos hc] at hf
                          exact (Fr.rfl (inM 999999 LX12_done) _).trans (rX12_done_143 hf)
                        · rw [if_neg hc] at hf
                          obtain ⟨-, hf⟩ := grd_ex hf
                          exact (Fr.rfl (inM 999999 LX12_done) _).trans (rX12_done_143 hf)
                      · rw [if_neg hc] at hf
                        by_cases hc : v0 = (48 : Int32)
                        · rw [if_pos hc] at hf
                          by_cases hc : v1 = 0
                          · rw [if_pos hc] at hf
                            by_cases hc : v2 = 0
                            · rw [if_pos hc] at hf
                              exact (Fr.rfl (inM 999999 LX12_done) _).trans (rX12_done_228 hf)
                            · rw [if_neg hc] at hf
                              exact (Fr.rfl (inM 999999 LX12_done) _).trans (rX12_done_223 hf)
                          · rw [if_neg hc] at hf
                            exact (Fr.rfl (inM 999999 LX12_done) _).trans (rX12_done_223 hf)
                        · rw [if_neg hc] at hf
                          by_cases hc : v0 = (49 : Int32)
                          · rw [if_pos hc] at hf
                            by_cases hc : v1 = 0
                            · rw [if_pos hc] at hf
                              by_cases hc : v2 = 0
                              · rw [if_pos hc] at hf
                                exact (Fr.rfl (inM 999999 LX12_done) _).trans (rX12_done_228 hf)
                              · rw [if_neg hc] at hf
                                exact (Fr.rfl (inM 999999 LX12_done) _).trans (rX12_done_223 hf)
                            · rw [if_neg hc] at hf
                              exact (Fr.rfl (inM 999999 LX12_done) _).trans (rX12_done_223 hf)
                          · rw [if_neg hc] at hf
                            by_cases hc : v0 = (50 : Int32)
                            · rw [if_pos hc] at hf
                              by_cases hc : v1 = 0
                              · rw [if_pos hc] at hf
                                by_cases hc : v2 = 0
                                · rw [if_pos hc] at hf
                                  exact (Fr.rfl (inM 999999 LX12_done) _).trans (rX12_done_228 hf)
                                · rw [if_neg hc] at hf
                                  exact (Fr.rfl (inM 999999 LX12_done) _).trans (rX12_done_223 hf)
                              · rw [if_neg hc] at hf
                                exact (Fr.rfl (inM 999999 LX12_done) _).trans (rX12_done_223 hf)
                            · rw [if_neg hc] at hf
                              by_cases hc : v0 = (51 : Int32)
                              · rw [if_pos hc] at hf
                                by_cases hc : v1 = 0
                                · rw [if_pos hc] at hf
                                  by_cases hc : v2 = 0
                                  · rw [if_pos hc] at hf
                                    exact (Fr.rfl (inM 999999 LX12_done) _).trans (rX12_done_228 hf)
                                  · rw [if_neg hc] at hf
                                    exact (Fr.rfl (inM 999999 LX12_done) _).trans (rX12_done_223 hf)
                                · rw [if_neg hc] at hf
                                  exact (Fr.rfl (inM 999999 LX12_done) _).trans (rX12_done_223 hf)
                              · rw [if_neg hc] at hf
                                by_cases hc : v0 = (52 : Int32)
                                · rw [if_pos hc] at hf
                                  by_cases hc : v1 = 0
                                  · rw [if_pos hc] at hf
                                    by_cases hc : v2 = 0
                                    · rw [if_pos hc] at hf
                                      exact (Fr.rfl (inM 999999 LX12_done) _).trans (rX12_done_228 hf)
                                    · rw [if_neg hc] at hf
                                      exact (Fr.rfl (inM 999999 LX12_done) _).trans (rX12_done_223 hf)
                                  · rw [if_neg hc] at hf
                                    exact (Fr.rfl (inM 999999 LX12_done) _).trans (rX12_done_223 hf)
                                · rw [if_neg hc] at hf
                                  by_cases hc : v0 = (53 : Int32)
                                  · rw [if_pos hc] at hf
                                    by_cases hc : v1 = 0
                                    · rw [if_pos hc] at hf
                                      by_cases hc : v2 = 0
                                      · rw [if_pos hc] at hf
                                        exact (Fr.rfl (inM 999999 LX12_done) _).trans (rX12_done_228 hf)
                                      · rw [if_neg hc] at hf
                                        exact (Fr.rfl (inM 999999 LX12_done) _).trans (rX12_done_223 hf)
                                    · rw [if_neg hc] at hf
                                      exact (Fr.rfl (inM 999999 LX12_done) _).trans (rX12_done_223 hf)
                                  · rw [if_neg hc] at hf
                                    by_cases hc : v0 = (54 : Int32)
                                    · rw [if_pos hc] at hf
                                      by_cases hc : v1 = 0
                                      · rw [if_pos hc] at hf
                                        by_cases hc : v2 = 0
                                        · rw [if_pos hc] at hf
                                          exact (Fr.rfl (inM 999999 LX12_done) _).trans (rX12_done_228 hf)
                                        · rw [if_neg hc] at hf
                                          exact (Fr.rfl (inM 999999 LX12_done) _).trans (rX12_done_223 hf)
                                      · rw [if_neg hc] at hf
                                        exact (Fr.rfl (inM 999999 LX12_done) _).trans (rX12_done_223 hf)
                                    · rw [if_neg hc] at hf
                                      by_cases hc : v0 = (55 : Int32)
                                      · rw [if_pos hc] at hf
                                        by_cases hc : v1 = 0
                                        · rw [if_pos hc] at hf
                                          by_cases hc : v2 = 0
                                          · rw [if_pos hc] at hf
                                            exact (Fr.rfl (inM 999999 LX12_done) _).trans (rX12_done_228 hf)
                                          · rw [if_neg hc] at hf
                                            exact (Fr.rfl (inM 999999 LX12_done) _).trans (rX12_done_223 hf)
                                        · rw [if_neg hc] at hf
                                          exact (Fr.rfl (inM 999999 LX12_done) _).trans (rX12_done_223 hf)
                                      · rw [if_neg hc] at hf
                                        by_cases hc : v0 = (56 : Int32)
                                        · rw [if_pos hc] at hf
                                          by_cases hc : v1 = 0
                                          · rw [if_pos hc] at hf
                                            by_cases hc : v2 = 0
                                            · rw [if_pos hc] at hf
                                              exact (Fr.rfl (inM 999999 LX12_done) _).trans (rX12_done_228 hf)
                                            · rw [if_neg hc] at hf
                                              exact (Fr.rfl (inM 999999 LX12_done) _).trans (rX12_done_223 hf)
                                          · rw [if_neg hc] at hf
                                            exact (Fr.rfl (inM 999999 LX12_done) _).trans (rX12_done_223 hf)
                                        · rw [if_neg hc] at hf
                                          by_cases hc : v0 = (57 : Int32)
                                          · rw [if_pos hc] at hf
                                            by_cases hc : v1 = 0
                                            · rw [if_pos hc] at hf
                                              by_cases hc : v2 = 0
                                              · rw [if_pos hc] at hf
                                                exact (Fr.rfl (inM 999999 LX12_done) _).trans (rX12_done_228 hf)
                                              · rw [if_neg hc] at hf
                                                exact (Fr.rfl (inM 999999 LX12_done) _).trans (rX12_done_223 hf)
                                            · rw [if_neg hc] at hf
                                              exact (Fr.rfl (inM 999999 LX12_done) _).trans (rX12_done_223 hf)
                                          · rw [if_neg hc] at hf
                                            by_cases hc : v0 = (58 : Int32)
                                            · rw [if_pos hc] at hf
                                              by_cases hc : v1 = 0
                                              · rw [if_pos hc] at hf
                                                by_cases hc : v2 = 0
                                                · rw [if_pos hc] at hf
                                                  exact (Fr.rfl (inM 999999 LX12_done) _).trans (rX12_done_228 hf)
                                                · rw [if_neg hc] at hf
                                                  exact (Fr.rfl (inM 999999 LX12_done) _).trans (rX12_done_223 hf)
                                              · rw [if_neg hc] at hf
                                                exact (Fr.rfl (inM 999999 LX12_done) _).trans (rX12_done_223 hf)
                                            · rw [if_neg hc] at hf
                                              by_cases hc : v0 = (59 : Int32)
                                              · rw [if_pos hc] at hf
                                                by_cases hc : v1 = 0
                                                · rw [if_pos hc] at hf
                                                  by_cases hc : v2 = 0
                                                  · rw [if_pos hc] at hf
                                                    exact (Fr.rfl (inM 999999 LX12_done) _).trans (rX12_done_228 hf)
                                                  · rw [if_neg hc] at hf
                                                    exact (Fr.rfl (inM 999999 LX12_done) _).trans (rX12_done_223 hf)
                                                · rw [if_neg hc] at hf
                                                  exact (Fr.rfl (inM 999999 LX12_done) _).trans (rX12_done_223 hf)
                                              · rw [if_neg hc] at hf
                                                by_cases hc : v0 = (60 : Int32)
                                                · rw [if_pos hc] at hf
                                                  by_cases hc : v2 ≤ v1
                                                  · rw [if_pos hc] at hf
                                                    exact (Fr.rfl (inM 999999 LX12_done) _).trans (rX12_done_166 hf)
                                                  · rw [if_neg hc] at hf
                                                    exact (Fr.rfl (inM 999999 LX12_done) _).trans (rX12_done_166 hf)
                                                · rw [if_neg hc] at hf
                                                  by_cases hc : v0 = (61 : Int32)
                                                  · rw [if_pos hc] at hf
                                                    by_cases hc : v1 = v2
                                                    · rw [if_pos hc] at hf
                                                      exact (Fr.rfl (inM 999999 LX12_done) _).trans (rX12_done_194 hf)
                                                    · rw [if_neg hc] at hf
                                                      exact (Fr.rfl (inM 999999 LX12_done) _).trans (rX12_done_194 hf)
                                                  · rw [if_neg hc] at hf
                                                    by_cases hc : v0 = (62 : Int32)
                                                    · rw [if_pos hc] at hf
                                                      by_cases hc : v1 ≤ v2
                                                      · rw [if_pos hc] at hf
                                                        exact (Fr.rfl (inM 999999 LX12_done) _).trans (rX12_done_180 hf)
                                                      · rw [if_neg hc] at hf
                                                        exact (Fr.rfl (inM 999999 LX12_done) _).trans (rX12_done_180 hf)
                                                    · rw [if_neg hc] at hf
                                                      by_cases hc : v1 = 0
                                                      · rw [if_pos hc] at hf
                                                        by_cases hc : v2 = 0
                                                        · rw [if_pos hc] at hf
                                                          exact (Fr.rfl (inM 999999 LX12_done) _).trans (rX12_done_228 hf)
                                                        · rw [if_neg hc] at hf
                                                          exact (Fr.rfl (inM 999999 LX12_done) _).trans (rX12_done_223 hf)
                                                      · rw [if_neg hc] at hf
                                                        exact (Fr.rfl (inM 999999 LX12_done) _).trans (rX12_done_223 hf)
theorem rX12_done {v0 : Int32} {v1 : Int32} {v2 : Int32} {S S' : mT} {r : Int32} (hf : fX12_done v0 v1 v2 S = some (r, S')) : Fr (inM 999999 LX12_done) S S' := rX12_done_0 hf
abbrev LX12_worked : List (Nat × Nat × Option Nat) := [(999999, 999999, none), (197, 197, none)]
theorem rX12_worked_158 {S' : mT} {r : Int32} {rc8 : Int32 → Int32 → Int32 → mT → Option (Int32 × mT)} (Hrc8 : ∀ (v1 : Int32) (v2 : Int32) (v3 : Int32) (S : mT), rc8 v1 v2 v3 S = some (r, S') → Fr (inM 999999 LX12_worked) S S') {v1 : Int32} {v2 : Int32} {v3 : Int32} {S : mT} (hf : fX12_worked_158 rc8 v1 v2 v3 S = some (r, S')) : Fr (inM 999999 LX12_worked) S S' := by
  unfold fX12_worked_158 at hf
  obtain ⟨x9, -, hf⟩ := bnd_ex hf
  exact (Fr.rfl (inM 999999 LX12_worked) _).trans (Hrc8 _ _ _ _ hf)
theorem rX12_worked_77 {S' : mT} {r : Int32} {rc8 : Int32 → Int32 → Int32 → mT → Option (Int32 × mT)} (Hrc8 : ∀ (v1 : Int32) (v2 : Int32) (v3 : Int32) (S : mT), rc8 v1 v2 v3 S = some (r, S') → Fr (inM 999999 LX12_worked) S S') {v1 : Int32} {v2 : Int32} {v3 : Int32} {s0 : Int32} {s1 : Int32} {S : mT} (hf : fX12_worked_77 rc8 v1 v2 v3 s0 s1 S = some (r, S')) : Fr (inM 999999 LX12_worked) S S' := by
  unfold fX12_worked_77 at hf
  obtain ⟨-, hf⟩ := grd_ex hf
  obtain ⟨S10, eS10, hf⟩ := bnd_ex hf
  have F : Fr (inM 999999 LX12_worked) S S10 := by
    rw [eS10]
    exact Fr.sI (Fr.rfl (inM 999999 LX12_worked) _) rfl
  obtain ⟨x11, -, hf⟩ := bnd_ex hf
  exact F.trans (rX12_worked_158 Hrc8 hf)
theorem rX12_worked_43 {S' : mT} {r : Int32} {rc8 : Int32 → Int32 → Int32 → mT → Option (Int32 × mT)} (Hrc8 : ∀ (v1 : Int32) (v2 : Int32) (v3 : Int32) (S : mT), rc8 v1 v2 v3 S = some (r, S') → Fr (inM 999999 LX12_worked) S S') {v1 : Int32} {v2 : Int32} {v3 : Int32} {S : mT} (hf : fX12_worked_43 rc8 v1 v2 v3 S = some (r, S')) : Fr (inM 999999 LX12_worked) S S' := by
  unfold fX12_worked_43 at hf
  obtain ⟨-, hf⟩ := grd_ex hf
  by_cases hc : (S.1 193 (mIx v3)) = 0
  · rw [if_pos hc] at hf
    obtain ⟨-, hf⟩ := grd_ex hf
    exact (Fr.rfl (inM 999999 LX12_worked) _).trans (rX12_worked_77 Hrc8 hf)
  · rw [if_neg hc] at hf
    obtain ⟨-, hf⟩ := grd_ex hf
    exact (Fr.rfl (inM 999999 LX12_worked) _).trans (rX12_worked_77 Hrc8 hf)
theorem rX12_worked_117 {S' : mT} {r : Int32} {rc8 : Int32 → Int32 → Int32 → mT → Option (Int32 × mT)} (Hrc8 : ∀ (v1 : Int32) (v2 : Int32) (v3 : Int32) (S : mT), rc8 v1 v2 v3 S = some (r, S') → Fr (inM 999999 LX12_worked) S S') {v1 : Int32} {v2 : Int32} {v3 : Int32} {s0 : Int32} {s1 : Int32} {S : mT} (hf : fX12_worked_117 rc8 v1 v2 v3 s0 s1 S = some (r, S')) : Fr (inM 999999 LX12_worked) S S' := by
  unfold fX12_worked_117 at hf
  obtain ⟨x7, S6, hq, hf⟩ := bndC_ex hf
  have F := (Fr.rfl (inM 999999 LX12_worked) _).trans ((rX12_truth hq).mono rfl (fun _ => rfl))
  obtain ⟨-, hf⟩ := grd_ex hf
  obtain ⟨S8, eS8, hf⟩ := bnd_ex hf
  have F : Fr (inM 999999 LX12_worked) S S8 := by
    rw [eS8]
    exact Fr.sI F rfl
  exact F.trans (rX12_worked_158 Hrc8 hf)
theorem rX12_worked_8 {S' : mT} {r : Int32} : ∀ (k : Nat) (v1 : Int32) (v2 : Int32) (v3 : Int32) (S : mT), fX12_worked_8 k v1 v2 v3 S = some (r, S') → Fr (inM 999999 LX12_worked) S S' := by
  intro k
  induction k with
  | zero =>
    intro v1 v2 v3 S hf
    cases hf
  | succ k ih =>
    intro v1 v2 v3 S hf
    unfold fX12_worked_8 at hf
    obtain ⟨-, hf⟩ := grd_ex hf
    by_cases hc : (((320 : Int32) * v1) + (S.1 195 (mIx v1))) ≤ v3
    · rw [if_pos hc] at hf
      obtain ⟨-, hf⟩ := grd_ex hf
      cases hf
      exact (Fr.rfl (inM 999999 LX12_worked) _)
    · rw [if_neg hc] at hf
      obtain ⟨-, hf⟩ := grd_ex hf
      by_cases hc : (S.1 193 (mIx v3)) = 0
      · rw [if_pos hc] at hf
        exact (Fr.rfl (inM 999999 LX12_worked) _).trans (rX12_worked_43 ih hf)
      · rw [if_neg hc] at hf
        obtain ⟨-, hf⟩ := grd_ex hf
        by_cases hc : (S.1 193 (mIx v3)) = (1 : Int32)
        · rw [if_pos hc] at hf
          exact (Fr.rfl (inM 999999 LX12_worked) _).trans (rX12_worked_43 ih hf)
        · rw [if_neg hc] at hf
          obtain ⟨-, hf⟩ := grd_ex hf
          by_cases hc : (S.1 193 (mIx v3)) = (2 : Int32)
          · rw [if_pos hc] at hf
            obtain ⟨-, hf⟩ := grd_ex hf
            obtain ⟨-, hf⟩ := grd_ex hf
            by_cases hc : (S.1 197 (mIx (v2 - (1 : Int32)))) = 0
            · rw [if_pos hc] at hf
              exact (Fr.rfl (inM 999999 LX12_worked) _).trans (rX12_worked_117 ih hf)
            · rw [if_neg hc] at hf
              exact (Fr.rfl (inM 999999 LX12_worked) _).trans (rX12_worked_117 ih hf)
          · rw [if_neg hc] at hf
            obtain ⟨x2, -, hf⟩ := bnd_ex hf
            obtain ⟨-, hf⟩ := grd_ex hf
            obtain ⟨-, hf⟩ := grd_ex hf
            obtain ⟨x4, S3, hq, hf⟩ := bndC_ex hf
            have F := (Fr.rfl (inM 999999 LX12_worked) _).trans ((rX12_done hq).mono rfl (fun _ => rfl))
            obtain ⟨-, hf⟩ := grd_ex hf
            obtain ⟨S5, eS5, hf⟩ := bnd_ex hf
            have F : Fr (inM 999999 LX12_worked) S S5 := by
              rw [eS5]
              exact Fr.sI F rfl
            exact F.trans (rX12_worked_158 ih hf)
theorem rX12_worked_0 {S' : mT} {r : Int32} {v1 : Int32} {S : mT} (hf : fX12_worked v1 S = some (r, S')) : Fr (inM 999999 LX12_worked) S S' := by
  unfold fX12_worked at hf
  obtain ⟨x1, -, hf⟩ := bnd_ex hf
  exact (Fr.rfl (inM 999999 LX12_worked) _).trans (rX12_worked_8 _ _ _ _ _ hf)
theorem rX12_worked {v1 : Int32} {S S' : mT} {r : Int32} (hf : fX12_worked v1 S = some (r, S')) : Fr (inM 999999 LX12_worked) S S' := rX12_worked_0 hf
abbrev LX12_stonesOf : List (Nat × Nat × Option Nat) := [(999999, 999999, none), (197, 197, none), (200, 200, none)]
theorem rX12_stonesOf_70 {S' : mT} {r : Int32} {s0 : Int32} {S : mT} (hf : fX12_stonesOf_70 s0 S = some (r, S')) : Fr (inM 999999 LX12_stonesOf) S S' := by
  unfold fX12_stonesOf_70 at hf
  obtain ⟨x5, S4, hq, hf⟩ := bndC_ex hf
  have F := (Fr.rfl (inM 999999 LX12_stonesOf) _).trans ((rX12_bound hq).mono rfl (fun _ => rfl))
  cases hf
  exact F
theorem rX12_stonesOf_0 {S' : mT} {r : Int32} {v1 : Int32} {S : mT} (hf : fX12_stonesOf v1 S = some (r, S')) : Fr (inM 999999 LX12_stonesOf) S S' := by
  unfold fX12_stonesOf at hf
  obtain ⟨-, hf⟩ := grd_ex hf
  obtain ⟨-, hf⟩ := grd_ex hf
  obtain ⟨S1, hq, hf⟩ := bndV_ex hf
  have F := (Fr.rfl (inM 999999 LX12_stonesOf) _).trans ((rX12_askOf hq).mono rfl (fun _ => rfl))
  obtain ⟨-, hf⟩ := grd_ex hf
  by_cases hc : (S1.1 199 (mIx (0 : Int32))) = 0
  · rw [if_pos hc] at hf
    obtain ⟨-, hf⟩ := grd_ex hf
    obtain ⟨-, hf⟩ := grd_ex hf
    exact F.trans (rX12_stonesOf_70 hf)
  · rw [if_neg hc] at hf
    obtain ⟨x3, S2, hq, hf⟩ := bndC_ex hf
    have F := F.trans ((rX12_worked hq).mono rfl (fun _ => rfl))
    exact F.trans (rX12_stonesOf_70 hf)
theorem rX12_stonesOf {v1 : Int32} {S S' : mT} {r : Int32} (hf : fX12_stonesOf v1 S = some (r, S')) : Fr (inM 999999 LX12_stonesOf) S S' := rX12_stonesOf_0 hf
abbrev LX12_goSummer : List (Nat × Nat × Option Nat) := [(999999, 999999, none), (187, 187, some 43), (187, 187, some 44), (197, 197, none), (200, 200, none), (209, 209, none), (210, 210, none), (211, 211, none)]
theorem rX12_goSummer_200 {S' : mT} {S : mT} (hf : fX12_goSummer_200 S = some S') : Fr (inM 999999 LX12_goSummer) S S' := by
  unfold fX12_goSummer_200 at hf
  obtain ⟨-, hf⟩ := grd_ex hf
  obtain ⟨S19, eS19, hf⟩ := bnd_ex hf
  have F : Fr (inM 999999 LX12_goSummer) S S19 := by
    rw [eS19]
    exact Fr.sI (Fr.rfl (inM 999999 LX12_goSummer) _) rfl
  cases hf
  exact F
theorem rX12_goSummer_104 {S' : mT} : ∀ (k : Nat) (v1 : Int32) (S : mT), fX12_goSummer_104 k v1 S = some S' → Fr (inM 999999 LX12_goSummer) S S' := by
  intro k
  induction k with
  | zero =>
    intro v1 S hf
    cases hf
  | succ k ih =>
    intro v1 S hf
    unfold fX12_goSummer_104 at hf
    obtain ⟨-, hf⟩ := grd_ex hf
    by_cases hc : (S.1 187 37) ≤ v1
    · rw [if_pos hc] at hf
      exact (Fr.rfl (inM 999999 LX12_goSummer) _).trans (rX12_goSummer_200 hf)
    · rw [if_neg hc] at hf
      obtain ⟨-, hf⟩ := grd_ex hf
      by_cases hc : (S.1 199 (mIx (2 : Int32))) = 0
      · rw [if_pos hc] at hf
        exact (Fr.rfl (inM 999999 LX12_goSummer) _).trans (rX12_goSummer_200 hf)
      · rw [if_neg hc] at hf
        obtain ⟨-, hf⟩ := grd_ex hf
        obtain ⟨-, hf⟩ := grd_ex hf
        obtain ⟨-, hf⟩ := grd_ex hf
        obtain ⟨S9, hq, hf⟩ := bndV_ex hf
        have F := (Fr.rfl (inM 999999 LX12_goSummer) _).trans ((rX12_askOf hq).mono rfl (fun _ => rfl))
        obtain ⟨-, hf⟩ := grd_ex hf
        obtain ⟨x11, S10, hq, hf⟩ := bndC_ex hf
        have F := F.trans ((rX12_worked hq).mono rfl (fun _ => rfl))
        obtain ⟨x13, S12, hq, hf⟩ := bndC_ex hf
        have F := F.trans ((rX12_bound hq).mono rfl (fun _ => rfl))
        obtain ⟨x15, S14, hq, hf⟩ := bndC_ex hf
        have F := F.trans ((rX12_bound hq).mono rfl (fun _ => rfl))
        obtain ⟨-, hf⟩ := grd_ex hf
        obtain ⟨S16, eS16, hf⟩ := bnd_ex hf
        have F : Fr (inM 999999 LX12_goSummer) S S16 := by
          rw [eS16]
          exact Fr.sI F rfl
        obtain ⟨S17, hq, hf⟩ := bndV_ex hf
        have F := F.trans ((rX12_notMoreHidden hq).mono rfl (fun _ => rfl))
        obtain ⟨x18, -, hf⟩ := bnd_ex hf
        exact F.trans (ih _ _ hf)
theorem rX12_goSummer_102 {S' : mT} {S : mT} (hf : fX12_goSummer_102 S = some S') : Fr (inM 999999 LX12_goSummer) S S' := by
  unfold fX12_goSummer_102 at hf
  exact (Fr.rfl (inM 999999 LX12_goSummer) _).trans (rX12_goSummer_104 _ _ _ hf)
theorem rX12_goSummer_100 {S' : mT} {s0 : Int32} {s1 : Int32} {s2 : Int32} {S : mT} (hf : fX12_goSummer_100 s0 s1 s2 S = some S') : Fr (inM 999999 LX12_goSummer) S S' := by
  unfold fX12_goSummer_100 at hf
  obtain ⟨-, hf⟩ := grd_ex hf
  obtain ⟨S8, eS8, hf⟩ := bnd_ex hf
  have F : Fr (inM 999999 LX12_goSummer) S S8 := by
    rw [eS8]
    exact Fr.sI (Fr.rfl (inM 999999 LX12_goSummer) _) rfl
  exact F.trans (rX12_goSummer_102 hf)
theorem rX12_goSummer_2 {S' : mT} : ∀ (k : Nat) (v1 : Int32) (S : mT), fX12_goSummer_2 k v1 S = some S' → Fr (inM 999999 LX12_goSummer) S S' := by
  intro k
  induction k with
  | zero =>
    intro v1 S hf
    cases hf
  | succ k ih =>
    intro v1 S hf
    unfold fX12_goSummer_2 at hf
    obtain ⟨-, hf⟩ := grd_ex hf
    by_cases hc : (S.1 187 37) ≤ v1
    · rw [if_pos hc] at hf
      obtain ⟨-, hf⟩ := grd_ex hf
      obtain ⟨S1, eS1, hf⟩ := bnd_ex hf
      have F : Fr (inM 999999 LX12_goSummer) S S1 := by
        rw [eS1]
        exact Fr.sI (Fr.rfl (inM 999999 LX12_goSummer) _) rfl
      obtain ⟨-, hf⟩ := grd_ex hf
      by_cases hc : (S1.1 187 37) ≤ 0
      · rw [if_pos hc] at hf
        exact F.trans (rX12_goSummer_102 hf)
      · rw [if_neg hc] at hf
        obtain ⟨-, hf⟩ := grd_ex hf
        obtain ⟨x2, -, hf⟩ := bnd_ex hf
        obtain ⟨-, hf⟩ := grd_ex hf
        obtain ⟨x3, -, hf⟩ := bnd_ex hf
        obtain ⟨-, hf⟩ := grd_ex hf
        by_cases hc : x3 ≤ (S1.1 211 (mIx x2))
        · rw [if_pos hc] at hf
          exact F.trans (rX12_goSummer_100 hf)
        · rw [if_neg hc] at hf
          obtain ⟨-, hf⟩ := grd_ex hf
          exact F.trans (rX12_goSummer_100 hf)
    · rw [if_neg hc] at hf
      obtain ⟨-, hf⟩ := grd_ex hf
      obtain ⟨x5, S4, hq, hf⟩ := bndC_ex hf
      have F := (Fr.rfl (inM 999999 LX12_goSummer) _).trans ((rX12_stonesOf hq).mono rfl (fun _ => rfl))
      obtain ⟨-, hf⟩ := grd_ex hf
      obtain ⟨S6, eS6, hf⟩ := bnd_ex hf
      have F : Fr (inM 999999 LX12_goSummer) S S6 := by
        rw [eS6]
        exact Fr.sI F rfl
      obtain ⟨x7, -, hf⟩ := bnd_ex hf
      exact F.trans (ih _ _ hf)
theorem rX12_goSummer_0 {S' : mT} {S : mT} (hf : fX12_goSummer S = some S') : Fr (inM 999999 LX12_goSummer) S S' := by
  unfold fX12_goSummer at hf
  exact (Fr.rfl (inM 999999 LX12_goSummer) _).trans (rX12_goSummer_2 _ _ _ hf)
theorem rX12_goSummer {S S' : mT} (hf : fX12_goSummer S = some S') : Fr (inM 999999 LX12_goSummer) S S' := rX12_goSummer_0 hf
abbrev LX12_load : List (Nat × Nat × Option Nat) := [(999999, 999999, none), (187, 187, some 43), (187, 187, some 44), (209, 209, none), (210, 210, none), (211, 211, none)]
theorem rX12_load_2 {S' : mT} : ∀ (k : Nat) (v1 : Int32) (S : mT), fX12_load_2 k v1 S = some S' → Fr (inM 999999 LX12_load) S S' := by
  intro k
  induction k with
  | zero =>
    intro v1 S hf
    cases hf
  | succ k ih =>
    intro v1 S hf
    unfold fX12_load_2 at hf
    by_cases hc : (5 : Int32) ≤ v1
    · rw [if_pos hc] at hf
      obtain ⟨-, hf⟩ := grd_ex hf
      obtain ⟨S1, eS1, hf⟩ := bnd_ex hf
      have F : Fr (inM 999999 LX12_load) S S1 := by
        rw [eS1]
        exact Fr.sI (Fr.rfl (inM 999999 LX12_load) _) rfl
      obtain ⟨-, hf⟩ := grd_ex hf
      obtain ⟨S2, eS2, hf⟩ := bnd_ex hf
      have F : Fr (inM 999999 LX12_load) S S2 := by
        rw [eS2]
        exact Fr.sI F rfl
      cases hf
      exact F
    · rw [if_neg hc] at hf
      obtain ⟨-, hf⟩ := grd_ex hf
      obtain ⟨S3, eS3, hf⟩ := bnd_ex hf
      have F : Fr (inM 999999 LX12_load) S S3 := by
        rw [eS3]
        exact Fr.sI (Fr.rfl (inM 999999 LX12_load) _) rfl
      obtain ⟨-, hf⟩ := grd_ex hf
      obtain ⟨S4, eS4, hf⟩ := bnd_ex hf
      have F : Fr (inM 999999 LX12_load) S S4 := by
        rw [eS4]
        exact Fr.sI F rfl
      obtain ⟨-, hf⟩ := grd_ex hf
      obtain ⟨S5, eS5, hf⟩ := bnd_ex hf
      have F : Fr (inM 999999 LX12_load) S S5 := by
        rw [eS5]
        exact Fr.sI F rfl
      obtain ⟨x6, -, hf⟩ := bnd_ex hf
      exact F.trans (ih _ _ hf)
theorem rX12_load_0 {S' : mT} {S : mT} (hf : fX12_load S = some S') : Fr (inM 999999 LX12_load) S S' := by
  unfold fX12_load at hf
  exact (Fr.rfl (inM 999999 LX12_load) _).trans (rX12_load_2 _ _ _ hf)
theorem rX12_load {S S' : mT} (hf : fX12_load S = some S') : Fr (inM 999999 LX12_load) S S' := rX12_load_0 hf
abbrev LX12_goFar : List (Nat × Nat × Option Nat) := [(999999, 999999, none), (187, 187, some 43), (187, 187, some 44), (197, 197, none), (200, 200, none), (209, 209, none), (210, 210, none), (211, 211, none)]
theorem rX12_goFar_6 {S' : mT} : ∀ (k : Nat) (v1 : Int32) (v2 : Int32) (S : mT), fX12_goFar_6 k v1 v2 S = some S' → Fr (inM 999999 LX12_goFar) S S' := by
  intro k
  induction k with
  | zero =>
    intro v1 v2 S hf
    cases hf
  | succ k ih =>
    intro v1 v2 S hf
    unfold fX12_goFar_6 at hf
    by_cases hc : v1 ≤ v2
    · rw [if_pos hc] at hf
      cases hf
      exact (Fr.rfl (inM 999999 LX12_goFar) _)
    · rw [if_neg hc] at hf
      obtain ⟨S2, hq, hf⟩ := bndV_ex hf
      have F := (Fr.rfl (inM 999999 LX12_goFar) _).trans ((rX12_goSummer hq).mono rfl (fun _ => rfl))
      obtain ⟨x3, -, hf⟩ := bnd_ex hf
      exact F.trans (ih _ _ _ hf)
theorem rX12_goFar_0 {S' : mT} {v1 : Int32} {S : mT} (hf : fX12_goFar v1 S = some S') : Fr (inM 999999 LX12_goFar) S S' := by
  unfold fX12_goFar at hf
  obtain ⟨S1, hq, hf⟩ := bndV_ex hf
  have F := (Fr.rfl (inM 999999 LX12_goFar) _).trans ((rX12_load hq).mono rfl (fun _ => rfl))
  exact F.trans (rX12_goFar_6 _ _ _ _ hf)
theorem rX12_goFar {v1 : Int32} {S S' : mT} (hf : fX12_goFar v1 S = some S') : Fr (inM 999999 LX12_goFar) S S' := rX12_goFar_0 hf
abbrev LX12_isIn : List (Nat × Nat × Option Nat) := [(999999, 999999, none)]
theorem rX12_isIn_15 {S' : mT} {r : Int32} {s0 : Int32} {S : mT} (hf : fX12_isIn_15 s0 S = some (r, S')) : Fr (inM 999999 LX12_isIn) S S' := by
  unfold fX12_isIn_15 at hf
  obtain ⟨-, hf⟩ := grd_ex hf
  cases hf
  exact (Fr.rfl (inM 999999 LX12_isIn) _)
theorem rX12_isIn_14 {S' : mT} {r : Int32} {S : mT} (hf : fX12_isIn_14 S = some (r, S')) : Fr (inM 999999 LX12_isIn) S S' := by
  unfold fX12_isIn_14 at hf
  exact (Fr.rfl (inM 999999 LX12_isIn) _).trans (rX12_isIn_15 hf)
theorem rX12_isIn_0 {S' : mT} {r : Int32} {v0 : Int32} {v1 : Int32} {v2 : Int32} {S : mT} (hf : fX12_isIn v0 v1 v2 S = some (r, S')) : Fr (inM 999999 LX12_isIn) S S' := by
  unfold fX12_isIn at hf
  by_cases hc : v0 < v1
  · rw [if_pos hc] at hf
    exact (Fr.rfl (inM 999999 LX12_isIn) _).trans (rX12_isIn_14 hf)
  · rw [if_neg hc] at hf
    by_cases hc : v2 < v0
    · rw [if_pos hc] at hf
      exact (Fr.rfl (inM 999999 LX12_isIn) _).trans (rX12_isIn_14 hf)
    · rw [if_neg hc] at hf
      exact (Fr.rfl (inM 999999 LX12_isIn) _).trans (rX12_isIn_15 hf)
theorem rX12_isIn {v0 : Int32} {v1 : Int32} {v2 : Int32} {S S' : mT} {r : Int32} (hf : fX12_isIn v0 v1 v2 S = some (r, S')) : Fr (inM 999999 LX12_isIn) S S' := rX12_isIn_0 hf
abbrev LX12_bowls : List (Nat × Nat × Option Nat) := [(999999, 999999, none), (187, 187, some 43), (187, 187, some 44), (197, 197, none), (200, 200, none), (209, 209, none), (210, 210, none), (211, 211, none)]
theorem rX12_bowls_0 {S' : mT} {r : Int32} {v1 : Int32} {S : mT} (hf : fX12_bowls v1 S = some (r, S')) : Fr (inM 999999 LX12_bowls) S S' := by
  unfold fX12_bowls at hf
  obtain ⟨x2, S1, hq, hf⟩ := bndC_ex hf
  have F := (Fr.rfl (inM 999999 LX12_bowls) _).trans ((rX12_isIn hq).mono rfl (fun _ => rfl))
  by_cases hc : x2 = 0
  · rw [if_pos hc] at hf
    cases hf
    exact F
  · rw [if_neg hc] at hf
    obtain ⟨S3, hq, hf⟩ := bndV_ex hf
    have F := F.trans ((rX12_goFar hq).mono rfl (fun _ => rfl))
    obtain ⟨x5, S4, hq, hf⟩ := bndC_ex hf
    have F := F.trans ((rX12_allBowls hq).mono rfl (fun _ => rfl))
    cases hf
    exact F
theorem rX12_bowls {v1 : Int32} {S S' : mT} {r : Int32} (hf : fX12_bowls v1 S = some (r, S')) : Fr (inM 999999 LX12_bowls) S S' := rX12_bowls_0 hf
abbrev LX12_layRoad : List (Nat × Nat × Option Nat) := [(999999, 999999, none), (220, 220, none)]
theorem rX12_layRoad_63 {S' : mT} {rc2 : Int32 → mT → Option (mT)} (Hrc2 : ∀ (v1 : Int32) (S : mT), rc2 v1 S = some S' → Fr (inM 999999 LX12_layRoad) S S') {rc14 : Int32 → Int32 → Int32 → mT → Option (mT)} (Hrc14 : ∀ (v1 : Int32) (v2 : Int32) (v3 : Int32) (S : mT), rc14 v1 v2 v3 S = some S' → Fr (inM 999999 LX12_layRoad) S S') {v1 : Int32} {v3 : Int32} {s0 : Int32} {s1 : Int32} {S : mT} (hf : fX12_layRoad_63 rc2 rc14 v1 v3 s0 s1 S = some S') : Fr (inM 999999 LX12_layRoad) S S' := by
  unfold fX12_layRoad_63 at hf
  obtain ⟨x4, S3, hq, hf⟩ := bndC_ex hf
  have F := (Fr.rfl (inM 999999 LX12_layRoad) _).trans ((rX12_truth hq).mono rfl (fun _ => rfl))
  obtain ⟨x5, -, hf⟩ := bnd_ex hf
  obtain ⟨x6, -, hf⟩ := bnd_ex hf
  exact F.trans (Hrc14 _ _ _ _ hf)
theorem rX12_layRoad_58 {S' : mT} {rc2 : Int32 → mT → Option (mT)} (Hrc2 : ∀ (v1 : Int32) (S : mT), rc2 v1 S = some S' → Fr (inM 999999 LX12_layRoad) S S') {rc14 : Int32 → Int32 → Int32 → mT → Option (mT)} (Hrc14 : ∀ (v1 : Int32) (v2 : Int32) (v3 : Int32) (S : mT), rc14 v1 v2 v3 S = some S' → Fr (inM 999999 LX12_layRoad) S S') {v1 : Int32} {v3 : Int32} {s0 : Int32} {S : mT} (hf : fX12_layRoad_58 rc2 rc14 v1 v3 s0 S = some S') : Fr (inM 999999 LX12_layRoad) S S' := by
  unfold fX12_layRoad_58 at hf
  exact (Fr.rfl (inM 999999 LX12_layRoad) _).trans (rX12_layRoad_63 Hrc2 Hrc14 hf)
theorem rX12_layRoad_62 {S' : mT} {rc2 : Int32 → mT → Option (mT)} (Hrc2 : ∀ (v1 : Int32) (S : mT), rc2 v1 S = some S' → Fr (inM 999999 LX12_layRoad) S S') {rc14 : Int32 → Int32 → Int32 → mT → Option (mT)} (Hrc14 : ∀ (v1 : Int32) (v2 : Int32) (v3 : Int32) (S : mT), rc14 v1 v2 v3 S = some S' → Fr (inM 999999 LX12_layRoad) S S') {v1 : Int32} {v3 : Int32} {s0 : Int32} {S : mT} (hf : fX12_layRoad_62 rc2 rc14 v1 v3 s0 S = some S') : Fr (inM 999999 LX12_layRoad) S S' := by
  unfold fX12_layRoad_62 at hf
  exact (Fr.rfl (inM 999999 LX12_layRoad) _).trans (rX12_layRoad_63 Hrc2 Hrc14 hf)
theorem rX12_layRoad_14 {S' : mT} {rc2 : Int32 → mT → Option (mT)} (Hrc2 : ∀ (v1 : Int32) (S : mT), rc2 v1 S = some S' → Fr (inM 999999 LX12_layRoad) S S') : ∀ (k : Nat) (v1 : Int32) (v2 : Int32) (v3 : Int32) (S : mT), fX12_layRoad_14 rc2 k v1 v2 v3 S = some S' → Fr (inM 999999 LX12_layRoad) S S' := by
  intro k
  induction k with
  | zero =>
    intro v1 v2 v3 S hf
    cases hf
  | succ k ih =>
    intro v1 v2 v3 S hf
    unfold fX12_layRoad_14 at hf
    obtain ⟨-, hf⟩ := grd_ex hf
    by_cases hc : (S.1 187 37) ≤ v3
    · rw [if_pos hc] at hf
      obtain ⟨-, hf⟩ := grd_ex hf
      obtain ⟨S1, eS1, hf⟩ := bnd_ex hf
      have F : Fr (inM 999999 LX12_layRoad) S S1 := by
        rw [eS1]
        exact Fr.sI (Fr.rfl (inM 999999 LX12_layRoad) _) rfl
      obtain ⟨x2, -, hf⟩ := bnd_ex hf
      exact F.trans (Hrc2 _ _ hf)
    · rw [if_neg hc] at hf
      obtain ⟨-, hf⟩ := grd_ex hf
      by_cases hc : (S.1 205 (mIx v3)) < (S.1 205 (mIx v1))
      · rw [if_pos hc] at hf
        exact (Fr.rfl (inM 999999 LX12_layRoad) _).trans (rX12_layRoad_58 Hrc2 ih hf)
      · rw [if_neg hc] at hf
        obtain ⟨-, hf⟩ := grd_ex hf
        by_cases hc : (S.1 205 (mIx v3)) = (S.1 205 (mIx v1))
        · rw [if_pos hc] at hf
          by_cases hc : v1 ≤ v3
          · rw [if_pos hc] at hf
            exact (Fr.rfl (inM 999999 LX12_layRoad) _).trans (rX12_layRoad_62 Hrc2 ih hf)
          · rw [if_neg hc] at hf
            exact (Fr.rfl (inM 999999 LX12_layRoad) _).trans (rX12_layRoad_58 Hrc2 ih hf)
        · rw [if_neg hc] at hf
          exact (Fr.rfl (inM 999999 LX12_layRoad) _).trans (rX12_layRoad_62 Hrc2 ih hf)
theorem rX12_layRoad_2 {S' : mT} : ∀ (k : Nat) (v1 : Int32) (S : mT), fX12_layRoad_2 k v1 S = some S' → Fr (inM 999999 LX12_layRoad) S S' := by
  intro k
  induction k with
  | zero =>
    intro v1 S hf
    cases hf
  | succ k ih =>
    intro v1 S hf
    unfold fX12_layRoad_2 at hf
    obtain ⟨-, hf⟩ := grd_ex hf
    by_cases hc : (S.1 187 37) ≤ v1
    · rw [if_pos hc] at hf
      cases hf
      exact (Fr.rfl (inM 999999 LX12_layRoad) _)
    · rw [if_neg hc] at hf
      exact (Fr.rfl (inM 999999 LX12_layRoad) _).trans (rX12_layRoad_14 ih _ _ _ _ _ hf)
theorem rX12_layRoad_0 {S' : mT} {S : mT} (hf : fX12_layRoad S = some S') : Fr (inM 999999 LX12_layRoad) S S' := by
  unfold fX12_layRoad at hf
  exact (Fr.rfl (inM 999999 LX12_layRoad) _).trans (rX12_layRoad_2 _ _ _ hf)
theorem rX12_layRoad {S S' : mT} (hf : fX12_layRoad S = some S') : Fr (inM 999999 LX12_layRoad) S S' := rX12_layRoad_0 hf
abbrev LX12_moved : List (Nat × Nat × Option Nat) := [(999999, 999999, none)]
theorem rX12_moved_78 {S' : mT} {r : Int32} {rc14 : Int32 → Int32 → Int32 → mT → Option (Int32 × mT)} (Hrc14 : ∀ (v1 : Int32) (v2 : Int32) (v3 : Int32) (S : mT), rc14 v1 v2 v3 S = some (r, S') → Fr (inM 999999 LX12_moved) S S') {v1 : Int32} {v2 : Int32} {v3 : Int32} {S : mT} (hf : fX12_moved_78 rc14 v1 v2 v3 S = some (r, S')) : Fr (inM 999999 LX12_moved) S S' := by
  unfold fX12_moved_78 at hf
  obtain ⟨x2, -, hf⟩ := bnd_ex hf
  exact (Fr.rfl (inM 999999 LX12_moved) _).trans (Hrc14 _ _ _ _ hf)
theorem rX12_moved_55 {S' : mT} {r : Int32} {rc14 : Int32 → Int32 → Int32 → mT → Option (Int32 × mT)} (Hrc14 : ∀ (v1 : Int32) (v2 : Int32) (v3 : Int32) (S : mT), rc14 v1 v2 v3 S = some (r, S') → Fr (inM 999999 LX12_moved) S S') {v1 : Int32} {v2 : Int32} {v3 : Int32} {S : mT} (hf : fX12_moved_55 rc14 v1 v2 v3 S = some (r, S')) : Fr (inM 999999 LX12_moved) S S' := by
  unfold fX12_moved_55 at hf
  obtain ⟨-, hf⟩ := grd_ex hf
  by_cases hc : (S.1 187 37) ≤ (v3 + (1 : Int32))
  · rw [if_pos hc] at hf
    exact (Fr.rfl (inM 999999 LX12_moved) _).trans (rX12_moved_78 Hrc14 hf)
  · rw [if_neg hc] at hf
    obtain ⟨-, hf⟩ := grd_ex hf
    obtain ⟨x3, -, hf⟩ := bnd_ex hf
    exact (Fr.rfl (inM 999999 LX12_moved) _).trans (rX12_moved_78 Hrc14 hf)
theorem rX12_moved_14 {S' : mT} {r : Int32} : ∀ (k : Nat) (v1 : Int32) (v2 : Int32) (v3 : Int32) (S : mT), fX12_moved_14 k v1 v2 v3 S = some (r, S') → Fr (inM 999999 LX12_moved) S S' := by
  intro k
  induction k with
  | zero =>
    intro v1 v2 v3 S hf
    cases hf
  | succ k ih =>
    intro v1 v2 v3 S hf
    unfold fX12_moved_14 at hf
    obtain ⟨-, hf⟩ := grd_ex hf
    by_cases hc : (S.1 187 37) ≤ v3
    · rw [if_pos hc] at hf
      cases hf
      exact (Fr.rfl (inM 999999 LX12_moved) _)
    · rw [if_neg hc] at hf
      obtain ⟨-, hf⟩ := grd_ex hf
      by_cases hc : ((v1 >>> ((S.1 220 (mIx v3)) &&& 31)) &&& (1 : Int32)) = 0
      · rw [if_pos hc] at hf
        exact (Fr.rfl (inM 999999 LX12_moved) _).trans (rX12_moved_78 ih hf)
      · rw [if_neg hc] at hf
        by_cases hc : v3 ≤ 0
        · rw [if_pos hc] at hf
          exact (Fr.rfl (inM 999999 LX12_moved) _).trans (rX12_moved_55 ih hf)
        · rw [if_neg hc] at hf
          obtain ⟨-, hf⟩ := grd_ex hf
          obtain ⟨x1, -, hf⟩ := bnd_ex hf
          exact (Fr.rfl (inM 999999 LX12_moved) _).trans (rX12_moved_55 ih hf)
theorem rX12_moved_0 {S' : mT} {r : Int32} {v1 : Int32} {S : mT} (hf : fX12_moved v1 S = some (r, S')) : Fr (inM 999999 LX12_moved) S S' := by
  unfold fX12_moved at hf
  obtain ⟨-, hf⟩ := grd_ex hf
  by_cases hc : (S.1 187 37) = (1 : Int32)
  · rw [if_pos hc] at hf
    cases hf
    exact (Fr.rfl (inM 999999 LX12_moved) _)
  · rw [if_neg hc] at hf
    exact (Fr.rfl (inM 999999 LX12_moved) _).trans (rX12_moved_14 _ _ _ _ _ hf)
theorem rX12_moved {v1 : Int32} {S S' : mT} {r : Int32} (hf : fX12_moved v1 S = some (r, S')) : Fr (inM 999999 LX12_moved) S S' := rX12_moved_0 hf
abbrev LX12_chase : List (Nat × Nat × Option Nat) := [(999999, 999999, none), (187, 187, some 51), (215, 215, none), (220, 220, none), (221, 221, none), (222, 222, none), (223, 223, none)]
theorem rX12_chase_170 {S' : mT} {r : Int32} {rc66 : Int32 → Int32 → Int32 → mT → Option (Int32 × mT)} (Hrc66 : ∀ (v1 : Int32) (v2 : Int32) (v3 : Int32) (S : mT), rc66 v1 v2 v3 S = some (r, S') → Fr (inM 999999 LX12_chase) S S') {rc83 : Int32 → Int32 → Int32 → Int32 → mT → Option (Int32 × mT)} (Hrc83 : ∀ (v1 : Int32) (v2 : Int32) (v3 : Int32) (v4 : Int32) (S : mT), rc83 v1 v2 v3 v4 S = some (r, S') → Fr (inM 999999 LX12_chase) S S') {v1 : Int32} {v2 : Int32} {v3 : Int32} {v4 : Int32} {S : mT} (hf : fX12_chase_170 rc66 rc83 v1 v2 v3 v4 S = some (r, S')) : Fr (inM 999999 LX12_chase) S S' := by
  unfold fX12_chase_170 at hf
  obtain ⟨x19, -, hf⟩ := bnd_ex hf
  exact (Fr.rfl (inM 999999 LX12_chase) _).trans (Hrc83 _ _ _ _ _ hf)
theorem rX12_chase_176 {S' : mT} {r : Int32} {rc66 : Int32 → Int32 → Int32 → mT → Option (Int32 × mT)} (Hrc66 : ∀ (v1 : Int32) (v2 : Int32) (v3 : Int32) (S : mT), rc66 v1 v2 v3 S = some (r, S') → Fr (inM 999999 LX12_chase) S S') {v1 : Int32} {v2 : Int32} {v3 : Int32} {S : mT} (hf : fX12_chase_176 rc66 v1 v2 v3 S = some (r, S')) : Fr (inM 999999 LX12_chase) S S' := by
  unfold fX12_chase_176 at hf
  obtain ⟨x18, -, hf⟩ := bnd_ex hf
  exact (Fr.rfl (inM 999999 LX12_chase) _).trans (Hrc66 _ _ _ _ hf)
theorem rX12_chase_83 {S' : mT} {r : Int32} {rc66 : Int32 → Int32 → Int32 → mT → Option (Int32 × mT)} (Hrc66 : ∀ (v1 : Int32) (v2 : Int32) (v3 : Int32) (S : mT), rc66 v1 v2 v3 S = some (r, S') → Fr (inM 999999 LX12_chase) S S') : ∀ (k : Nat) (v1 : Int32) (v2 : Int32) (v3 : Int32) (v4 : Int32) (S : mT), fX12_chase_83 rc66 k v1 v2 v3 v4 S = some (r, S') → Fr (inM 999999 LX12_chase) S S' := by
  intro k
  induction k with
  | zero =>
    intro v1 v2 v3 v4 S hf
    cases hf
  | succ k ih =>
    intro v1 v2 v3 v4 S hf
    unfold fX12_chase_83 at hf
    obtain ⟨-, hf⟩ := grd_ex hf
    by_cases hc : (S.1 187 37) ≤ v4
    · rw [if_pos hc] at hf
      exact (Fr.rfl (inM 999999 LX12_chase) _).trans (rX12_chase_176 Hrc66 hf)
    · rw [if_neg hc] at hf
      obtain ⟨-, hf⟩ := grd_ex hf
      by_cases hc : 0 ≤ (S.1 222 (mIx (0 : Int32)))
      · rw [if_pos hc] at hf
        exact (Fr.rfl (inM 999999 LX12_chase) _).trans (rX12_chase_176 Hrc66 hf)
      · rw [if_neg hc] at hf
        obtain ⟨-, hf⟩ := grd_ex hf
        obtain ⟨x8, -, hf⟩ := bnd_ex hf
        obtain ⟨x10, S9, hq, hf⟩ := bndC_ex hf
        have F := (Fr.rfl (inM 999999 LX12_chase) _).trans ((rX12_moved hq).mono rfl (fun _ => rfl))
        obtain ⟨-, hf⟩ := grd_ex hf
        by_cases hc : (S9.1 222 (mIx x10)) < 0
        · rw [if_pos hc] at hf
          obtain ⟨-, hf⟩ := grd_ex hf
          obtain ⟨S11, eS11, hf⟩ := bnd_ex hf
          have F : Fr (inM 999999 LX12_chase) S S11 := by
            rw [eS11]
            exact Fr.sI F rfl
          obtain ⟨-, hf⟩ := grd_ex hf
          obtain ⟨S12, eS12, hf⟩ := bnd_ex hf
          have F : Fr (inM 999999 LX12_chase) S S12 := by
            rw [eS12]
            exact Fr.sI F rfl
          obtain ⟨-, hf⟩ := grd_ex hf
          obtain ⟨S13, eS13, hf⟩ := bnd_ex hf
          have F : Fr (inM 999999 LX12_chase) S S13 := by
            rw [eS13]
            exact Fr.sI F rfl
          obtain ⟨x14, -, hf⟩ := bnd_ex hf
          exact F.trans (rX12_chase_170 Hrc66 ih hf)
        · rw [if_neg hc] at hf
          exact F.trans (rX12_chase_170 Hrc66 ih hf)
theorem rX12_chase_227 {S' : mT} {r : Int32} : ∀ (k : Nat) (v3 : Int32) (v4 : Int32) (v5 : Int32) (S : mT), fX12_chase_227 k v3 v4 v5 S = some (r, S') → Fr (inM 999999 LX12_chase) S S' := by
  intro k
  induction k with
  | zero =>
    intro v3 v4 v5 S hf
    cases hf
  | succ k ih =>
    intro v3 v4 v5 S hf
    unfold fX12_chase_227 at hf
    by_cases hc : v5 < 0
    · rw [if_pos hc] at hf
      obtain ⟨-, hf⟩ := grd_ex hf
      obtain ⟨S20, eS20, hf⟩ := bnd_ex hf
      have F : Fr (inM 999999 LX12_chase) S S20 := by
        rw [eS20]
        exact Fr.sI (Fr.rfl (inM 999999 LX12_chase) _) rfl
      cases hf
      exact F
    · rw [if_neg hc] at hf
      obtain ⟨-, hf⟩ := grd_ex hf
      obtain ⟨S21, eS21, hf⟩ := bnd_ex hf
      have F : Fr (inM 999999 LX12_chase) S S21 := by
        rw [eS21]
        exact Fr.sI (Fr.rfl (inM 999999 LX12_chase) _) rfl
      obtain ⟨-, hf⟩ := grd_ex hf
      obtain ⟨x22, -, hf⟩ := bnd_ex hf
      obtain ⟨x23, -, hf⟩ := bnd_ex hf
      exact F.trans (ih _ _ _ _ hf)
theorem rX12_chase_198 {S' : mT} {r : Int32} : ∀ (k : Nat) (v1 : Int32) (v3 : Int32) (v4 : Int32) (S : mT), fX12_chase_198 k v1 v3 v4 S = some (r, S') → Fr (inM 999999 LX12_chase) S S' := by
  intro k
  induction k with
  | zero =>
    intro v1 v3 v4 S hf
    cases hf
  | succ k ih =>
    intro v1 v3 v4 S hf
    unfold fX12_chase_198 at hf
    by_cases hc : v4 = v1
    · rw [if_pos hc] at hf
      obtain ⟨x15, -, hf⟩ := bnd_ex hf
      exact (Fr.rfl (inM 999999 LX12_chase) _).trans (rX12_chase_227 _ _ _ _ _ hf)
    · rw [if_neg hc] at hf
      obtain ⟨x16, -, hf⟩ := bnd_ex hf
      obtain ⟨-, hf⟩ := grd_ex hf
      obtain ⟨x17, -, hf⟩ := bnd_ex hf
      exact (Fr.rfl (inM 999999 LX12_chase) _).trans (ih _ _ _ _ hf)
theorem rX12_chase_182 {S' : mT} {r : Int32} {v1 : Int32} {S : mT} (hf : fX12_chase_182 v1 S = some (r, S')) : Fr (inM 999999 LX12_chase) S S' := by
  unfold fX12_chase_182 at hf
  obtain ⟨-, hf⟩ := grd_ex hf
  by_cases hc : 0 ≤ (S.1 222 (mIx (0 : Int32)))
  · rw [if_pos hc] at hf
    exact (Fr.rfl (inM 999999 LX12_chase) _).trans (rX12_chase_198 _ _ _ _ _ hf)
  · rw [if_neg hc] at hf
    cases hf
    exact (Fr.rfl (inM 999999 LX12_chase) _)
theorem rX12_chase_66 {S' : mT} {r : Int32} : ∀ (k : Nat) (v1 : Int32) (v2 : Int32) (v3 : Int32) (S : mT), fX12_chase_66 k v1 v2 v3 S = some (r, S') → Fr (inM 999999 LX12_chase) S S' := by
  intro k
  induction k with
  | zero =>
    intro v1 v2 v3 S hf
    cases hf
  | succ k ih =>
    intro v1 v2 v3 S hf
    unfold fX12_chase_66 at hf
    by_cases hc : v2 ≤ v3
    · rw [if_pos hc] at hf
      exact (Fr.rfl (inM 999999 LX12_chase) _).trans (rX12_chase_182 hf)
    · rw [if_neg hc] at hf
      obtain ⟨-, hf⟩ := grd_ex hf
      by_cases hc : 0 ≤ (S.1 222 (mIx (0 : Int32)))
      · rw [if_pos hc] at hf
        exact (Fr.rfl (inM 999999 LX12_chase) _).trans (rX12_chase_182 hf)
      · rw [if_neg hc] at hf
        exact (Fr.rfl (inM 999999 LX12_chase) _).trans (rX12_chase_83 ih _ _ _ _ _ _ hf)
theorem rX12_chase_29 {S' : mT} {r : Int32} : ∀ (k : Nat) (v1 : Int32) (v2 : Int32) (S : mT), fX12_chase_29 k v1 v2 S = some (r, S') → Fr (inM 999999 LX12_chase) S S' := by
  intro k
  induction k with
  | zero =>
    intro v1 v2 S hf
    cases hf
  | succ k ih =>
    intro v1 v2 S hf
    unfold fX12_chase_29 at hf
    by_cases hc : (32 : Int32) ≤ v2
    · rw [if_pos hc] at hf
      obtain ⟨-, hf⟩ := grd_ex hf
      obtain ⟨S4, eS4, hf⟩ := bnd_ex hf
      have F : Fr (inM 999999 LX12_chase) S S4 := by
        rw [eS4]
        exact Fr.sI (Fr.rfl (inM 999999 LX12_chase) _) rfl
      obtain ⟨-, hf⟩ := grd_ex hf
      obtain ⟨S5, eS5, hf⟩ := bnd_ex hf
      have F : Fr (inM 999999 LX12_chase) S S5 := by
        rw [eS5]
        exact Fr.sI F rfl
      exact F.trans (rX12_chase_66 _ _ _ _ _ hf)
    · rw [if_neg hc] at hf
      obtain ⟨-, hf⟩ := grd_ex hf
      obtain ⟨S6, eS6, hf⟩ := bnd_ex hf
      have F : Fr (inM 999999 LX12_chase) S S6 := by
        rw [eS6]
        exact Fr.sI (Fr.rfl (inM 999999 LX12_chase) _) rfl
      obtain ⟨x7, -, hf⟩ := bnd_ex hf
      exact F.trans (ih _ _ _ hf)
theorem rX12_chase_0 {S' : mT} {r : Int32} {S : mT} (hf : fX12_chase S = some (r, S')) : Fr (inM 999999 LX12_chase) S S' := by
  unfold fX12_chase at hf
  obtain ⟨-, hf⟩ := grd_ex hf
  obtain ⟨S1, eS1, hf⟩ := bnd_ex hf
  have F : Fr (inM 999999 LX12_chase) S S1 := by
    rw [eS1]
    exact Fr.sI (Fr.rfl (inM 999999 LX12_chase) _) rfl
  obtain ⟨-, hf⟩ := grd_ex hf
  by_cases hc : (S1.1 187 37) = 0
  · rw [if_pos hc] at hf
    cases hf
    exact F
  · rw [if_neg hc] at hf
    obtain ⟨S2, hq, hf⟩ := bndV_ex hf
    have F := F.trans ((rX12_layRoad hq).mono rfl (fun _ => rfl))
    obtain ⟨-, hf⟩ := grd_ex hf
    obtain ⟨x3, -, hf⟩ := bnd_ex hf
    exact F.trans (rX12_chase_29 _ _ _ _ hf)
theorem rX12_chase {S S' : mT} {r : Int32} (hf : fX12_chase S = some (r, S')) : Fr (inM 999999 LX12_chase) S S' := rX12_chase_0 hf
abbrev LX12_tight : List (Nat × Nat × Option Nat) := [(999999, 999999, none)]
theorem rX12_tight_0 {S' : mT} {r : Int32} {v0 : Int32} {S : mT} (hf : fX12_tight v0 S = some (r, S')) : Fr (inM 999999 LX12_tight) S S' := by
  unfold fX12_tight at hf
  by_cases hc : (21 : Int) = v0.toInt
  · rw [if_pos hc] at hf
    cases hf
    exact (Fr.rfl (inM 999999 LX12_tight) _)
  · rw [if_neg hc] at hf
    by_cases hc : (38 : Int) = v0.toInt
    · rw [if_pos hc] at hf
      cases hf
      exact (Fr.rfl (inM 999999 LX12_tight) _)
    · rw [if_neg hc] at hf
      by_cases hc : (43 : Int) = v0.toInt
      · rw [if_pos hc] at hf
        cases hf
        exact (Fr.rfl (inM 999999 LX12_tight) _)
      · rw [if_neg hc] at hf
        by_cases hc : (45 : Int) = v0.toInt
        · rw [if_pos hc] at hf
          cases hf
          exact (Fr.rfl (inM 999999 LX12_tight) _)
        · rw [if_neg hc] at hf
          by_cases hc : (60 : Int) = v0.toInt
          · rw [if_pos hc] at hf
            cases hf
            exact (Fr.rfl (inM 999999 LX12_tight) _)
          · rw [if_neg hc] at hf
            by_cases hc : (61 : Int) = v0.toInt
            · rw [if_pos hc] at hf
              cases hf
              exact (Fr.rfl (inM 999999 LX12_tight) _)
            · rw [if_neg hc] at hf
              by_cases hc : (62 : Int) = v0.toInt
              · rw [if_pos hc] at hf
                cases hf
                exact (Fr.rfl (inM 999999 LX12_tight) _)
              · rw [if_neg hc] at hf
                by_cases hc : (124 : Int) = v0.toInt
                · rw [if_pos hc] at hf
                  cases hf
                  exact (Fr.rfl (inM 999999 LX12_tight) _)
                · rw [if_neg hc] at hf
                  cases hf
                  exact (Fr.rfl (inM 999999 LX12_tight) _)
theorem rX12_tight {v0 : Int32} {S S' : mT} {r : Int32} (hf : fX12_tight v0 S = some (r, S')) : Fr (inM 999999 LX12_tight) S S' := rX12_tight_0 hf
abbrev LX12_close : List (Nat × Nat × Option Nat) := [(999999, 999999, none), (187, 187, some 22), (187, 187, some 26), (190, 190, none), (191, 191, none), (192, 192, none)]
theorem rX12_close_101 {S' : mT} {S : mT} (hf : fX12_close_101 S = some S') : Fr (inM 999999 LX12_close) S S' := by
  unfold fX12_close_101 at hf
  cases hf
  exact (Fr.rfl (inM 999999 LX12_close) _)
theorem rX12_close_0 {S' : mT} : ∀ (k : Nat) (v1 : Int32) (S : mT), fX12_close_0 k v1 S = some S' → Fr (inM 999999 LX12_close) S S' := by
  intro k
  induction k with
  | zero =>
    intro v1 S hf
    cases hf
  | succ k ih =>
    intro v1 S hf
    unfold fX12_close_0 at hf
    obtain ⟨-, hf⟩ := grd_ex hf
    by_cases hc : (S.1 187 22) ≤ 0
    · rw [if_pos hc] at hf
      exact (Fr.rfl (inM 999999 LX12_close) _).trans (rX12_close_101 hf)
    · rw [if_neg hc] at hf
      obtain ⟨-, hf⟩ := grd_ex hf
      by_cases hc : (S.1 196 (mIx ((S.1 187 22) - (1 : Int32)))) = (20 : Int32)
      · rw [if_pos hc] at hf
        exact (Fr.rfl (inM 999999 LX12_close) _).trans (rX12_close_101 hf)
      · rw [if_neg hc] at hf
        obtain ⟨-, hf⟩ := grd_ex hf
        obtain ⟨x2, S1, hq, hf⟩ := bndC_ex hf
        have F := (Fr.rfl (inM 999999 LX12_close) _).trans ((rX12_tight hq).mono rfl (fun _ => rfl))
        by_cases hc : x2 < v1
        · rw [if_pos hc] at hf
          exact F.trans (rX12_close_101 hf)
        · rw [if_neg hc] at hf
          obtain ⟨-, hf⟩ := grd_ex hf
          obtain ⟨S3, eS3, hf⟩ := bnd_ex hf
          have F : Fr (inM 999999 LX12_close) S S3 := by
            rw [eS3]
            exact Fr.sI F rfl
          obtain ⟨-, hf⟩ := grd_ex hf
          by_cases hc : (S3.1 196 (mIx (S3.1 187 22))) = (21 : Int32)
          · rw [if_pos hc] at hf
            obtain ⟨S4, hq, hf⟩ := bndV_ex hf
            have F := F.trans ((rX12_add hq).mono rfl (fun _ => rfl))
            obtain ⟨-, hf⟩ := grd_ex hf
            obtain ⟨S5, eS5, hf⟩ := bnd_ex hf
            have F : Fr (inM 999999 LX12_close) S S5 := by
              rw [eS5]
              exact Fr.sI F rfl
            exact F.trans (ih _ _ hf)
          · rw [if_neg hc] at hf
            obtain ⟨-, hf⟩ := grd_ex hf
            obtain ⟨S6, hq, hf⟩ := bndV_ex hf
            have F := F.trans ((rX12_add hq).mono rfl (fun _ => rfl))
            exact F.trans (ih _ _ hf)
theorem rX12_close {v1 : Int32} {S S' : mT} (hf : fX12_close v1 S = some S') : Fr (inM 999999 LX12_close) S S' := rX12_close_0 _ _ _ hf
abbrev LX12_isHouse : List (Nat × Nat × Option Nat) := [(999999, 999999, none)]
theorem rX12_isHouse_0 {S' : mT} {r : Int32} {v1 : Int32} {S : mT} (hf : fX12_isHouse v1 S = some (r, S')) : Fr (inM 999999 LX12_isHouse) S S' := by
  unfold fX12_isHouse at hf
  obtain ⟨-, hf⟩ := grd_ex hf
  obtain ⟨x2, S1, hq, hf⟩ := bndC_ex hf
  have F := (Fr.rfl (inM 999999 LX12_isHouse) _).trans ((rX12_isIn hq).mono rfl (fun _ => rfl))
  obtain ⟨-, hf⟩ := grd_ex hf
  cases hf
  exact F
theorem rX12_isHouse {v1 : Int32} {S S' : mT} {r : Int32} (hf : fX12_isHouse v1 S = some (r, S')) : Fr (inM 999999 LX12_isHouse) S S' := rX12_isHouse_0 hf
abbrev LX12_comes : List (Nat × Nat × Option Nat) := [(999999, 999999, none), (187, 187, some 46), (187, 187, some 47), (208, 208, none), (212, 212, none)]
theorem rX12_comes_19 {S' : mT} {r : Int32} {S : mT} (hf : fX12_comes_19 S = some (r, S')) : Fr (inM 999999 LX12_comes) S S' := by
  unfold fX12_comes_19 at hf
  cases hf
  exact (Fr.rfl (inM 999999 LX12_comes) _)
theorem rX12_comes_0 {S' : mT} {r : Int32} {v1 : Int32} {S : mT} (hf : fX12_comes v1 S = some (r, S')) : Fr (inM 999999 LX12_comes) S S' := by
  unfold fX12_comes at hf
  obtain ⟨x2, S1, hq, hf⟩ := bndC_ex hf
  have F := (Fr.rfl (inM 999999 LX12_comes) _).trans ((rX12_isHouse hq).mono rfl (fun _ => rfl))
  by_cases hc : x2 = 0
  · rw [if_pos hc] at hf
    exact F.trans (rX12_comes_19 hf)
  · rw [if_neg hc] at hf
    obtain ⟨-, hf⟩ := grd_ex hf
    by_cases hc : (S1.1 208 (mIx v1)) = (7 : Int32)
    · rw [if_pos hc] at hf
      exact F.trans (rX12_comes_19 hf)
    · rw [if_neg hc] at hf
      obtain ⟨S3, hq, hf⟩ := bndV_ex hf
      have F := F.trans ((rX12_act hq).mono rfl (fun _ => rfl))
      obtain ⟨-, hf⟩ := grd_ex hf
      obtain ⟨S4, eS4, hf⟩ := bnd_ex hf
      have F : Fr (inM 999999 LX12_comes) S S4 := by
        rw [eS4]
        exact Fr.sI F rfl
      obtain ⟨-, hf⟩ := grd_ex hf
      cases hf
      exact F
theorem rX12_comes {v1 : Int32} {S S' : mT} {r : Int32} (hf : fX12_comes v1 S = some (r, S')) : Fr (inM 999999 LX12_comes) S S' := rX12_comes_0 hf
abbrev LX12_common : List (Nat × Nat × Option Nat) := [(999999, 999999, none)]
theorem rX12_common_4 {S' : mT} {r : Int32} : ∀ (k : Nat) (v2 : Int32) (v3 : Int32) (S : mT), fX12_common_4 k v2 v3 S = some (r, S') → Fr (inM 999999 LX12_common) S S' := by
  intro k
  induction k with
  | zero =>
    intro v2 v3 S hf
    cases hf
  | succ k ih =>
    intro v2 v3 S hf
    unfold fX12_common_4 at hf
    by_cases hc : v3 ≤ 0
    · rw [if_pos hc] at hf
      cases hf
      exact (Fr.rfl (inM 999999 LX12_common) _)
    · rw [if_neg hc] at hf
      obtain ⟨-, hf⟩ := grd_ex hf
      obtain ⟨x1, -, hf⟩ := bnd_ex hf
      exact (Fr.rfl (inM 999999 LX12_common) _).trans (ih _ _ _ hf)
theorem rX12_common_0 {S' : mT} {r : Int32} {v0 : Int32} {v1 : Int32} {S : mT} (hf : fX12_common v0 v1 S = some (r, S')) : Fr (inM 999999 LX12_common) S S' := by
  unfold fX12_common at hf
  exact (Fr.rfl (inM 999999 LX12_common) _).trans (rX12_common_4 _ _ _ _ hf)
theorem rX12_common {v0 : Int32} {v1 : Int32} {S S' : mT} {r : Int32} (hf : fX12_common v0 v1 S = some (r, S')) : Fr (inM 999999 LX12_common) S S' := rX12_common_0 hf
abbrev LX12_countUnit : List (Nat × Nat × Option Nat) := [(999999, 999999, none), (187, 187, some 23), (187, 187, some 25)]
theorem rX12_countUnit_0 {S' : mT} {S : mT} (hf : fX12_countUnit S = some S') : Fr (inM 999999 LX12_countUnit) S S' := by
  unfold fX12_countUnit at hf
  obtain ⟨-, hf⟩ := grd_ex hf
  obtain ⟨S1, eS1, hf⟩ := bnd_ex hf
  have F : Fr (inM 999999 LX12_countUnit) S S1 := by
    rw [eS1]
    exact Fr.sI (Fr.rfl (inM 999999 LX12_countUnit) _) rfl
  obtain ⟨-, hf⟩ := grd_ex hf
  obtain ⟨S2, eS2, hf⟩ := bnd_ex hf
  have F : Fr (inM 999999 LX12_countUnit) S S2 := by
    rw [eS2]
    exact Fr.sI F rfl
  cases hf
  exact F
theorem rX12_countUnit {S S' : mT} (hf : fX12_countUnit S = some S') : Fr (inM 999999 LX12_countUnit) S S' := rX12_countUnit_0 hf
abbrev LX12_countersRows : List (Nat × Nat × Option Nat) := [(999999, 999999, none)]
theorem rX12_countersRows_4 {S' : mT} {r : Int32} : ∀ (k : Nat) (v1 : Int32) (v2 : Int32) (S : mT), fX12_countersRows_4 k v1 v2 S = some (r, S') → Fr (inM 999999 LX12_countersRows) S S' := by
  intro k
  induction k with
  | zero =>
    intro v1 v2 S hf
    cases hf
  | succ k ih =>
    intro v1 v2 S hf
    unfold fX12_countersRows_4 at hf
    obtain ⟨-, hf⟩ := grd_ex hf
    by_cases hc : (S.1 187 37) ≤ v2
    · rw [if_pos hc] at hf
      cases hf
      exact (Fr.rfl (inM 999999 LX12_countersRows) _)
    · rw [if_neg hc] at hf
      obtain ⟨x1, -, hf⟩ := bnd_ex hf
      obtain ⟨x2, -, hf⟩ := bnd_ex hf
      exact (Fr.rfl (inM 999999 LX12_countersRows) _).trans (ih _ _ _ hf)
theorem rX12_countersRows_0 {S' : mT} {r : Int32} {S : mT} (hf : fX12_countersRows S = some (r, S')) : Fr (inM 999999 LX12_countersRows) S S' := by
  unfold fX12_countersRows at hf
  exact (Fr.rfl (inM 999999 LX12_countersRows) _).trans (rX12_countersRows_4 _ _ _ _ hf)
theorem rX12_countersRows {S S' : mT} {r : Int32} (hf : fX12_countersRows S = some (r, S')) : Fr (inM 999999 LX12_countersRows) S S' := rX12_countersRows_0 hf
abbrev LX12_doneAt : List (Nat × Nat × Option Nat) := [(999999, 999999, none)]
theorem rX12_doneAt_78 {S' : mT} {r : Int32} {rc4 : Int32 → Int32 → mT → Option (Int32 × mT)} (Hrc4 : ∀ (v1 : Int32) (v2 : Int32) (S : mT), rc4 v1 v2 S = some (r, S') → Fr (inM 999999 LX12_doneAt) S S') {rc17 : Int32 → Int32 → Int32 → Int32 → Int32 → mT → Option (Int32 × mT)} (Hrc17 : ∀ (v1 : Int32) (v2 : Int32) (v3 : Int32) (v4 : Int32) (v5 : Int32) (S : mT), rc17 v1 v2 v3 v4 v5 S = some (r, S') → Fr (inM 999999 LX12_doneAt) S S') {v1 : Int32} {v2 : Int32} {v3 : Int32} {v4 : Int32} {v5 : Int32} {S : mT} (hf : fX12_doneAt_78 rc4 rc17 v1 v2 v3 v4 v5 S = some (r, S')) : Fr (inM 999999 LX12_doneAt) S S' := by
  unfold fX12_doneAt_78 at hf
  obtain ⟨x3, -, hf⟩ := bnd_ex hf
  exact (Fr.rfl (inM 999999 LX12_doneAt) _).trans (Hrc17 _ _ _ _ _ _ hf)
theorem rX12_doneAt_62 {S' : mT} {r : Int32} {rc4 : Int32 → Int32 → mT → Option (Int32 × mT)} (Hrc4 : ∀ (v1 : Int32) (v2 : Int32) (S : mT), rc4 v1 v2 S = some (r, S') → Fr (inM 999999 LX12_doneAt) S S') {rc17 : Int32 → Int32 → Int32 → Int32 → Int32 → mT → Option (Int32 × mT)} (Hrc17 : ∀ (v1 : Int32) (v2 : Int32) (v3 : Int32) (v4 : Int32) (v5 : Int32) (S : mT), rc17 v1 v2 v3 v4 v5 S = some (r, S') → Fr (inM 999999 LX12_doneAt) S S') {v1 : Int32} {v2 : Int32} {v4 : Int32} {v5 : Int32} {s0 : Int32} {S : mT} (hf : fX12_doneAt_62 rc4 rc17 v1 v2 v4 v5 s0 S = some (r, S')) : Fr (inM 999999 LX12_doneAt) S S' := by
  unfold fX12_doneAt_62 at hf
  obtain ⟨-, hf⟩ := grd_ex hf
  obtain ⟨x2, -, hf⟩ := bnd_ex hf
  exact (Fr.rfl (inM 999999 LX12_doneAt) _).trans (rX12_doneAt_78 Hrc4 Hrc17 hf)
theorem rX12_doneAt_100 {S' : mT} {r : Int32} {rc4 : Int32 → Int32 → mT → Option (Int32 × mT)} (Hrc4 : ∀ (v1 : Int32) (v2 : Int32) (S : mT), rc4 v1 v2 S = some (r, S') → Fr (inM 999999 LX12_doneAt) S S') {v2 : Int32} {s0 : Int32} {S : mT} (hf : fX12_doneAt_100 rc4 v2 s0 S = some (r, S')) : Fr (inM 999999 LX12_doneAt) S S' := by
  unfold fX12_doneAt_100 at hf
  obtain ⟨x1, -, hf⟩ := bnd_ex hf
  exact (Fr.rfl (inM 999999 LX12_doneAt) _).trans (Hrc4 _ _ _ hf)
theorem rX12_doneAt_17 {S' : mT} {r : Int32} {rc4 : Int32 → Int32 → mT → Option (Int32 × mT)} (Hrc4 : ∀ (v1 : Int32) (v2 : Int32) (S : mT), rc4 v1 v2 S = some (r, S') → Fr (inM 999999 LX12_doneAt) S S') : ∀ (k : Nat) (v1 : Int32) (v2 : Int32) (v3 : Int32) (v4 : Int32) (v5 : Int32) (S : mT), fX12_doneAt_17 rc4 k v1 v2 v3 v4 v5 S = some (r, S') → Fr (inM 999999 LX12_doneAt) S S' := by
  intro k
  induction k with
  | zero =>
    intro v1 v2 v3 v4 v5 S hf
    cases hf
  | succ k ih =>
    intro v1 v2 v3 v4 v5 S hf
    unfold fX12_doneAt_17 at hf
    obtain ⟨-, hf⟩ := grd_ex hf
    by_cases hc : (S.1 187 37) ≤ v5
    · rw [if_pos hc] at hf
      by_cases hc : (v3 + v4) ≤ v1
      · rw [if_pos hc] at hf
        exact (Fr.rfl (inM 999999 LX12_doneAt) _).trans (rX12_doneAt_100 Hrc4 hf)
      · rw [if_neg hc] at hf
        exact (Fr.rfl (inM 999999 LX12_doneAt) _).trans (rX12_doneAt_100 Hrc4 hf)
    · rw [if_neg hc] at hf
      obtain ⟨-, hf⟩ := grd_ex hf
      by_cases hc : (S.1 216 (mIx v5)) = v2
      · rw [if_pos hc] at hf
        obtain ⟨-, hf⟩ := grd_ex hf
        by_cases hc : (S.1 205 (mIx v5)) ≤ v3
        · rw [if_pos hc] at hf
          exact (Fr.rfl (inM 999999 LX12_doneAt) _).trans (rX12_doneAt_62 Hrc4 ih hf)
        · rw [if_neg hc] at hf
          obtain ⟨-, hf⟩ := grd_ex hf
          exact (Fr.rfl (inM 999999 LX12_doneAt) _).trans (rX12_doneAt_62 Hrc4 ih hf)
      · rw [if_neg hc] at hf
        exact (Fr.rfl (inM 999999 LX12_doneAt) _).trans (rX12_doneAt_78 Hrc4 ih hf)
theorem rX12_doneAt_4 {S' : mT} {r : Int32} : ∀ (k : Nat) (v1 : Int32) (v2 : Int32) (S : mT), fX12_doneAt_4 k v1 v2 S = some (r, S') → Fr (inM 999999 LX12_doneAt) S S' := by
  intro k
  induction k with
  | zero =>
    intro v1 v2 S hf
    cases hf
  | succ k ih =>
    intro v1 v2 S hf
    unfold fX12_doneAt_4 at hf
    by_cases hc : (5 : Int32) ≤ v2
    · rw [if_pos hc] at hf
      cases hf
      exact (Fr.rfl (inM 999999 LX12_doneAt) _)
    · rw [if_neg hc] at hf
      exact (Fr.rfl (inM 999999 LX12_doneAt) _).trans (rX12_doneAt_17 ih _ _ _ _ _ _ _ hf)
theorem rX12_doneAt_0 {S' : mT} {r : Int32} {S : mT} (hf : fX12_doneAt S = some (r, S')) : Fr (inM 999999 LX12_doneAt) S S' := by
  unfold fX12_doneAt at hf
  exact (Fr.rfl (inM 999999 LX12_doneAt) _).trans (rX12_doneAt_4 _ _ _ _ hf)
theorem rX12_doneAt {S S' : mT} {r : Int32} (hf : fX12_doneAt S = some (r, S')) : Fr (inM 999999 LX12_doneAt) S S' := rX12_doneAt_0 hf
abbrev LX12_without : List (Nat × Nat × Option Nat) := [(999999, 999999, none), (187, 187, some 43), (187, 187, some 44), (209, 209, none), (210, 210, none), (211, 211, none)]
theorem rX12_without_42 {S' : mT} {r : Int32} {rc9 : Int32 → Int32 → Int32 → Int32 → mT → Option (Int32 × mT)} (Hrc9 : ∀ (v1 : Int32) (v2 : Int32) (v3 : Int32) (v4 : Int32) (S : mT), rc9 v1 v2 v3 v4 S = some (r, S') → Fr (inM 999999 LX12_without) S S') {v1 : Int32} {v2 : Int32} {v4 : Int32} {s0 : Int32} {s1 : Int32} {S : mT} (hf : fX12_without_42 rc9 v1 v2 v4 s0 s1 S = some (r, S')) : Fr (inM 999999 LX12_without) S S' := by
  unfold fX12_without_42 at hf
  obtain ⟨x5, S4, hq, hf⟩ := bndC_ex hf
  have F := (Fr.rfl (inM 999999 LX12_without) _).trans ((rX12_truth hq).mono rfl (fun _ => rfl))
  obtain ⟨x6, -, hf⟩ := bnd_ex hf
  obtain ⟨x7, -, hf⟩ := bnd_ex hf
  exact F.trans (Hrc9 _ _ _ _ _ hf)
theorem rX12_without_9 {S' : mT} {r : Int32} : ∀ (k : Nat) (v1 : Int32) (v2 : Int32) (v3 : Int32) (v4 : Int32) (S : mT), fX12_without_9 k v1 v2 v3 v4 S = some (r, S') → Fr (inM 999999 LX12_without) S S' := by
  intro k
  induction k with
  | zero =>
    intro v1 v2 v3 v4 S hf
    cases hf
  | succ k ih =>
    intro v1 v2 v3 v4 S hf
    unfold fX12_without_9 at hf
    obtain ⟨-, hf⟩ := grd_ex hf
    by_cases hc : (S.1 187 37) ≤ v4
    · rw [if_pos hc] at hf
      cases hf
      exact (Fr.rfl (inM 999999 LX12_without) _)
    · rw [if_neg hc] at hf
      obtain ⟨x3, S2, hq, hf⟩ := bndC_ex hf
      have F := (Fr.rfl (inM 999999 LX12_without) _).trans ((rX12_allBowls hq).mono rfl (fun _ => rfl))
      obtain ⟨-, hf⟩ := grd_ex hf
      by_cases hc : (x3 + (v2 * (S2.1 211 (mIx v4)))) = v1
      · rw [if_pos hc] at hf
        exact F.trans (rX12_without_42 ih hf)
      · rw [if_neg hc] at hf
        exact F.trans (rX12_without_42 ih hf)
theorem rX12_without_0 {S' : mT} {r : Int32} {v1 : Int32} {v2 : Int32} {S : mT} (hf : fX12_without v1 v2 S = some (r, S')) : Fr (inM 999999 LX12_without) S S' := by
  unfold fX12_without at hf
  obtain ⟨S1, hq, hf⟩ := bndV_ex hf
  have F := (Fr.rfl (inM 999999 LX12_without) _).trans ((rX12_load hq).mono rfl (fun _ => rfl))
  exact F.trans (rX12_without_9 _ _ _ _ _ _ hf)
theorem rX12_without {v1 : Int32} {v2 : Int32} {S S' : mT} {r : Int32} (hf : fX12_without v1 v2 S = some (r, S')) : Fr (inM 999999 LX12_without) S S' := rX12_without_0 hf
abbrev LX12_doubled : List (Nat × Nat × Option Nat) := [(999999, 999999, none), (187, 187, some 43), (187, 187, some 44), (209, 209, none), (210, 210, none), (211, 211, none)]
theorem rX12_doubled_0 {S' : mT} {r : Int32} {v1 : Int32} {S : mT} (hf : fX12_doubled v1 S = some (r, S')) : Fr (inM 999999 LX12_doubled) S S' := by
  unfold fX12_doubled at hf
  obtain ⟨x2, S1, hq, hf⟩ := bndC_ex hf
  have F := (Fr.rfl (inM 999999 LX12_doubled) _).trans ((rX12_without hq).mono rfl (fun _ => rfl))
  cases hf
  exact F
theorem rX12_doubled {v1 : Int32} {S S' : mT} {r : Int32} (hf : fX12_doubled v1 S = some (r, S')) : Fr (inM 999999 LX12_doubled) S S' := rX12_doubled_0 hf
abbrev LX12_taxOf : List (Nat × Nat × Option Nat) := [(999999, 999999, none), (197, 197, none), (200, 200, none)]
theorem rX12_taxOf_36 {S' : mT} {r : Int32} {s0 : Int32} {S : mT} (hf : fX12_taxOf_36 s0 S = some (r, S')) : Fr (inM 999999 LX12_taxOf) S S' := by
  unfold fX12_taxOf_36 at hf
  obtain ⟨x5, S4, hq, hf⟩ := bndC_ex hf
  have F := (Fr.rfl (inM 999999 LX12_taxOf) _).trans ((rX12_bound hq).mono rfl (fun _ => rfl))
  cases hf
  exact F
theorem rX12_taxOf_0 {S' : mT} {r : Int32} {v1 : Int32} {v2 : Int32} {S : mT} (hf : fX12_taxOf v1 v2 S = some (r, S')) : Fr (inM 999999 LX12_taxOf) S S' := by
  unfold fX12_taxOf at hf
  obtain ⟨-, hf⟩ := grd_ex hf
  obtain ⟨-, hf⟩ := grd_ex hf
  obtain ⟨S1, hq, hf⟩ := bndV_ex hf
  have F := (Fr.rfl (inM 999999 LX12_taxOf) _).trans ((rX12_askOf hq).mono rfl (fun _ => rfl))
  obtain ⟨-, hf⟩ := grd_ex hf
  by_cases hc : (S1.1 199 (mIx (1 : Int32))) = 0
  · rw [if_pos hc] at hf
    exact F.trans (rX12_taxOf_36 hf)
  · rw [if_neg hc] at hf
    obtain ⟨x3, S2, hq, hf⟩ := bndC_ex hf
    have F := F.trans ((rX12_worked hq).mono rfl (fun _ => rfl))
    exact F.trans (rX12_taxOf_36 hf)
theorem rX12_taxOf {v1 : Int32} {v2 : Int32} {S S' : mT} {r : Int32} (hf : fX12_taxOf v1 v2 S = some (r, S')) : Fr (inM 999999 LX12_taxOf) S S' := rX12_taxOf_0 hf
abbrev LX12_partOf : List (Nat × Nat × Option Nat) := [(999999, 999999, none), (197, 197, none), (200, 200, none)]
theorem rX12_partOf_0 {S' : mT} {r : Int32} {v1 : Int32} {v2 : Int32} {S : mT} (hf : fX12_partOf v1 v2 S = some (r, S')) : Fr (inM 999999 LX12_partOf) S S' := by
  unfold fX12_partOf at hf
  by_cases hc : v2 = (0 : Int32)
  · rw [if_pos hc] at hf
    obtain ⟨-, hf⟩ := grd_ex hf
    cases hf
    exact (Fr.rfl (inM 999999 LX12_partOf) _)
  · rw [if_neg hc] at hf
    by_cases hc : v2 = (1 : Int32)
    · rw [if_pos hc] at hf
      obtain ⟨-, hf⟩ := grd_ex hf
      cases hf
      exact (Fr.rfl (inM 999999 LX12_partOf) _)
    · rw [if_neg hc] at hf
      by_cases hc : v2 = (2 : Int32)
      · rw [if_pos hc] at hf
        obtain ⟨-, hf⟩ := grd_ex hf
        cases hf
        exact (Fr.rfl (inM 999999 LX12_partOf) _)
      · rw [if_neg hc] at hf
        by_cases hc : v2 = (3 : Int32)
        · rw [if_pos hc] at hf
          obtain ⟨x8, S7, hq, hf⟩ := bndC_ex hf
          have F := (Fr.rfl (inM 999999 LX12_partOf) _).trans ((rX12_stonesOf hq).mono rfl (fun _ => rfl))
          cases hf
          exact F
        · rw [if_neg hc] at hf
          by_cases hc : v2 = (4 : Int32)
          · rw [if_pos hc] at hf
            obtain ⟨-, hf⟩ := grd_ex hf
            obtain ⟨x6, S5, hq, hf⟩ := bndC_ex hf
            have F := (Fr.rfl (inM 999999 LX12_partOf) _).trans ((rX12_taxOf hq).mono rfl (fun _ => rfl))
            cases hf
            exact F
          · rw [if_neg hc] at hf
            obtain ⟨x2, S1, hq, hf⟩ := bndC_ex hf
            have F := (Fr.rfl (inM 999999 LX12_partOf) _).trans ((rX12_stonesOf hq).mono rfl (fun _ => rfl))
            obtain ⟨x4, S3, hq, hf⟩ := bndC_ex hf
            have F := F.trans ((rX12_taxOf hq).mono rfl (fun _ => rfl))
            cases hf
            exact F
theorem rX12_partOf {v1 : Int32} {v2 : Int32} {S S' : mT} {r : Int32} (hf : fX12_partOf v1 v2 S = some (r, S')) : Fr (inM 999999 LX12_partOf) S S' := rX12_partOf_0 hf
abbrev LX12_sum : List (Nat × Nat × Option Nat) := [(999999, 999999, none), (187, 187, some 43), (187, 187, some 44), (197, 197, none), (200, 200, none), (209, 209, none), (210, 210, none), (211, 211, none)]
theorem rX12_sum_19 {S' : mT} {r : Int32} : ∀ (k : Nat) (v1 : Int32) (v2 : Int32) (v3 : Int32) (S : mT), fX12_sum_19 k v1 v2 v3 S = some (r, S') → Fr (inM 999999 LX12_sum) S S' := by
  intro k
  induction k with
  | zero =>
    intro v1 v2 v3 S hf
    cases hf
  | succ k ih =>
    intro v1 v2 v3 S hf
    unfold fX12_sum_19 at hf
    obtain ⟨-, hf⟩ := grd_ex hf
    by_cases hc : (S.1 187 37) ≤ v3
    · rw [if_pos hc] at hf
      cases hf
      exact (Fr.rfl (inM 999999 LX12_sum) _)
    · rw [if_neg hc] at hf
      obtain ⟨x5, S4, hq, hf⟩ := bndC_ex hf
      have F := (Fr.rfl (inM 999999 LX12_sum) _).trans ((rX12_partOf hq).mono rfl (fun _ => rfl))
      obtain ⟨x6, -, hf⟩ := bnd_ex hf
      obtain ⟨x7, -, hf⟩ := bnd_ex hf
      exact F.trans (ih _ _ _ _ hf)
theorem rX12_sum_0 {S' : mT} {r : Int32} {v1 : Int32} {S : mT} (hf : fX12_sum v1 S = some (r, S')) : Fr (inM 999999 LX12_sum) S S' := by
  unfold fX12_sum at hf
  obtain ⟨x2, S1, hq, hf⟩ := bndC_ex hf
  have F := (Fr.rfl (inM 999999 LX12_sum) _).trans ((rX12_isIn hq).mono rfl (fun _ => rfl))
  by_cases hc : x2 = 0
  · rw [if_pos hc] at hf
    cases hf
    exact F
  · rw [if_neg hc] at hf
    obtain ⟨S3, hq, hf⟩ := bndV_ex hf
    have F := F.trans ((rX12_load hq).mono rfl (fun _ => rfl))
    exact F.trans (rX12_sum_19 _ _ _ _ _ hf)
theorem rX12_sum {v1 : Int32} {S S' : mT} {r : Int32} (hf : fX12_sum v1 S = some (r, S')) : Fr (inM 999999 LX12_sum) S S' := rX12_sum_0 hf
abbrev LX12_draft : List (Nat × Nat × Option Nat) := [(999999, 999999, none), (187, 187, some 43), (187, 187, some 44), (197, 197, none), (200, 200, none), (209, 209, none), (210, 210, none), (211, 211, none)]
theorem rX12_draft_27 {S' : mT} {r : Int32} {S : mT} (hf : fX12_draft_27 S = some (r, S')) : Fr (inM 999999 LX12_draft) S S' := by
  unfold fX12_draft_27 at hf
  cases hf
  exact (Fr.rfl (inM 999999 LX12_draft) _)
theorem rX12_draft_79 {S' : mT} {r : Int32} {rc35 : Int32 → Int32 → Int32 → mT → Option (Int32 × mT)} (Hrc35 : ∀ (v1 : Int32) (v2 : Int32) (v3 : Int32) (S : mT), rc35 v1 v2 v3 S = some (r, S') → Fr (inM 999999 LX12_draft) S S') {rc46 : Int32 → Int32 → Int32 → Int32 → Int32 → mT → Option (Int32 × mT)} (Hrc46 : ∀ (v1 : Int32) (v2 : Int32) (v3 : Int32) (v4 : Int32) (v5 : Int32) (S : mT), rc46 v1 v2 v3 v4 v5 S = some (r, S') → Fr (inM 999999 LX12_draft) S S') {v1 : Int32} {v2 : Int32} {v3 : Int32} {v5 : Int32} {s0 : Int32} {S : mT} (hf : fX12_draft_79 rc35 rc46 v1 v2 v3 v5 s0 S = some (r, S')) : Fr (inM 999999 LX12_draft) S S' := by
  unfold fX12_draft_79 at hf
  obtain ⟨x10, -, hf⟩ := bnd_ex hf
  exact (Fr.rfl (inM 999999 LX12_draft) _).trans (Hrc46 _ _ _ _ _ _ hf)
theorem rX12_draft_46 {S' : mT} {r : Int32} {rc35 : Int32 → Int32 → Int32 → mT → Option (Int32 × mT)} (Hrc35 : ∀ (v1 : Int32) (v2 : Int32) (v3 : Int32) (S : mT), rc35 v1 v2 v3 S = some (r, S') → Fr (inM 999999 LX12_draft) S S') : ∀ (k : Nat) (v1 : Int32) (v2 : Int32) (v3 : Int32) (v4 : Int32) (v5 : Int32) (S : mT), fX12_draft_46 rc35 k v1 v2 v3 v4 v5 S = some (r, S') → Fr (inM 999999 LX12_draft) S S' := by
  intro k
  induction k with
  | zero =>
    intro v1 v2 v3 v4 v5 S hf
    cases hf
  | succ k ih =>
    intro v1 v2 v3 v4 v5 S hf
    unfold fX12_draft_46 at hf
    obtain ⟨-, hf⟩ := grd_ex hf
    by_cases hc : (S.1 187 37) ≤ v5
    · rw [if_pos hc] at hf
      obtain ⟨-, hf⟩ := grd_ex hf
      obtain ⟨S8, eS8, hf⟩ := bnd_ex hf
      have F : Fr (inM 999999 LX12_draft) S S8 := by
        rw [eS8]
        exact Fr.sI (Fr.rfl (inM 999999 LX12_draft) _) rfl
      obtain ⟨x9, -, hf⟩ := bnd_ex hf
      exact F.trans (Hrc35 _ _ _ _ hf)
    · rw [if_neg hc] at hf
      obtain ⟨-, hf⟩ := grd_ex hf
      by_cases hc : (S.1 209 (mIx v5)) ≤ (S.1 209 (mIx v4))
      · rw [if_pos hc] at hf
        exact (Fr.rfl (inM 999999 LX12_draft) _).trans (rX12_draft_79 Hrc35 ih hf)
      · rw [if_neg hc] at hf
        exact (Fr.rfl (inM 999999 LX12_draft) _).trans (rX12_draft_79 Hrc35 ih hf)
theorem rX12_draft_35 {S' : mT} {r : Int32} : ∀ (k : Nat) (v1 : Int32) (v2 : Int32) (v3 : Int32) (S : mT), fX12_draft_35 k v1 v2 v3 S = some (r, S') → Fr (inM 999999 LX12_draft) S S' := by
  intro k
  induction k with
  | zero =>
    intro v1 v2 v3 S hf
    cases hf
  | succ k ih =>
    intro v1 v2 v3 S hf
    unfold fX12_draft_35 at hf
    by_cases hc : v2 ≤ v3
    · rw [if_pos hc] at hf
      obtain ⟨-, hf⟩ := grd_ex hf
      cases hf
      exact (Fr.rfl (inM 999999 LX12_draft) _)
    · rw [if_neg hc] at hf
      exact (Fr.rfl (inM 999999 LX12_draft) _).trans (rX12_draft_46 ih _ _ _ _ _ _ _ hf)
theorem rX12_draft_0 {S' : mT} {r : Int32} {v1 : Int32} {v2 : Int32} {S : mT} (hf : fX12_draft v1 v2 S = some (r, S')) : Fr (inM 999999 LX12_draft) S S' := by
  unfold fX12_draft at hf
  obtain ⟨x2, S1, hq, hf⟩ := bndC_ex hf
  have F := (Fr.rfl (inM 999999 LX12_draft) _).trans ((rX12_isHouse hq).mono rfl (fun _ => rfl))
  by_cases hc : x2 = 0
  · rw [if_pos hc] at hf
    exact F.trans (rX12_draft_27 hf)
  · rw [if_neg hc] at hf
    obtain ⟨x4, S3, hq, hf⟩ := bndC_ex hf
    have F := F.trans ((rX12_isIn hq).mono rfl (fun _ => rfl))
    by_cases hc : x4 = 0
    · rw [if_pos hc] at hf
      exact F.trans (rX12_draft_27 hf)
    · rw [if_neg hc] at hf
      obtain ⟨x6, S5, hq, hf⟩ := bndC_ex hf
      have F := F.trans ((rX12_sum hq).mono rfl (fun _ => rfl))
      by_cases hc : v2 ≤ x6
      · rw [if_pos hc] at hf
        obtain ⟨S7, hq, hf⟩ := bndV_ex hf
        have F := F.trans ((rX12_load hq).mono rfl (fun _ => rfl))
        exact F.trans (rX12_draft_35 _ _ _ _ _ hf)
      · rw [if_neg hc] at hf
        exact F.trans (rX12_draft_27 hf)
theorem rX12_draft {v1 : Int32} {v2 : Int32} {S S' : mT} {r : Int32} (hf : fX12_draft v1 v2 S = some (r, S')) : Fr (inM 999999 LX12_draft) S S' := rX12_draft_0 hf
abbrev LX12_end : List (Nat × Nat × Option Nat) := [(999999, 999999, none), (187, 187, some 1)]
theorem rX12_end_12 {S' : mT} {r : Int32} {S : mT} (hf : fX12_end_12 S = some (r, S')) : Fr (inM 999999 LX12_end) S S' := by
  unfold fX12_end_12 at hf
  cases hf
  exact (Fr.rfl (inM 999999 LX12_end) _)
theorem rX12_end_0 {S' : mT} {r : Int32} {v1 : Int32} {S : mT} (hf : fX12_end v1 S = some (r, S')) : Fr (inM 999999 LX12_end) S S' := by
  unfold fX12_end at hf
  by_cases hc : v1 < 0
  · rw [if_pos hc] at hf
    exact (Fr.rfl (inM 999999 LX12_end) _).trans (rX12_end_12 hf)
  · rw [if_neg hc] at hf
    obtain ⟨-, hf⟩ := grd_ex hf
    by_cases hc : v1 ≤ (S.1 187 1)
    · rw [if_pos hc] at hf
      obtain ⟨-, hf⟩ := grd_ex hf
      obtain ⟨S1, eS1, hf⟩ := bnd_ex hf
      have F : Fr (inM 999999 LX12_end) S S1 := by
        rw [eS1]
        exact Fr.sI (Fr.rfl (inM 999999 LX12_end) _) rfl
      cases hf
      exact F
    · rw [if_neg hc] at hf
      exact (Fr.rfl (inM 999999 LX12_end) _).trans (rX12_end_12 hf)
theorem rX12_end {v1 : Int32} {S S' : mT} {r : Int32} (hf : fX12_end v1 S = some (r, S')) : Fr (inM 999999 LX12_end) S S' := rX12_end_0 hf
abbrev LX12_exchange : List (Nat × Nat × Option Nat) := [(999999, 999999, none), (208, 208, none), (212, 212, none)]
theorem rX12_exchange_2 {S' : mT} : ∀ (k : Nat) (v1 : Int32) (v2 : Int32) (S : mT), fX12_exchange_2 k v1 v2 S = some S' → Fr (inM 999999 LX12_exchange) S S' := by
  intro k
  induction k with
  | zero =>
    intro v1 v2 S hf
    cases hf
  | succ k ih =>
    intro v1 v2 S hf
    unfold fX12_exchange_2 at hf
    by_cases hc : (17 : Int32) ≤ v2
    · rw [if_pos hc] at hf
      cases hf
      exact (Fr.rfl (inM 999999 LX12_exchange) _)
    · rw [if_neg hc] at hf
      obtain ⟨-, hf⟩ := grd_ex hf
      obtain ⟨x1, -, hf⟩ := bnd_ex hf
      obtain ⟨-, hf⟩ := grd_ex hf
      obtain ⟨S2, eS2, hf⟩ := bnd_ex hf
      have F : Fr (inM 999999 LX12_exchange) S S2 := by
        rw [eS2]
        exact Fr.sI (Fr.rfl (inM 999999 LX12_exchange) _) rfl
      obtain ⟨-, hf⟩ := grd_ex hf
      obtain ⟨S3, eS3, hf⟩ := bnd_ex hf
      have F : Fr (inM 999999 LX12_exchange) S S3 := by
        rw [eS3]
        exact Fr.sI F rfl
      obtain ⟨x4, -, hf⟩ := bnd_ex hf
      exact F.trans (ih _ _ _ hf)
theorem rX12_exchange_0 {S' : mT} {v1 : Int32} {S : mT} (hf : fX12_exchange v1 S = some S') : Fr (inM 999999 LX12_exchange) S S' := by
  unfold fX12_exchange at hf
  exact (Fr.rfl (inM 999999 LX12_exchange) _).trans (rX12_exchange_2 _ _ _ _ hf)
theorem rX12_exchange {v1 : Int32} {S S' : mT} (hf : fX12_exchange v1 S = some S') : Fr (inM 999999 LX12_exchange) S S' := rX12_exchange_0 hf
abbrev LX12_falses : List (Nat × Nat × Option Nat) := [(999999, 999999, none)]
theorem rX12_falses_36 {S' : mT} {r : Int32} {rc4 : Int32 → Int32 → mT → Option (Int32 × mT)} (Hrc4 : ∀ (v1 : Int32) (v2 : Int32) (S : mT), rc4 v1 v2 S = some (r, S') → Fr (inM 999999 LX12_falses) S S') {v2 : Int32} {s0 : Int32} {s1 : Int32} {S : mT} (hf : fX12_falses_36 rc4 v2 s0 s1 S = some (r, S')) : Fr (inM 999999 LX12_falses) S S' := by
  unfold fX12_falses_36 at hf
  obtain ⟨x2, S1, hq, hf⟩ := bndC_ex hf
  have F := (Fr.rfl (inM 999999 LX12_falses) _).trans ((rX12_truth hq).mono rfl (fun _ => rfl))
  obtain ⟨x3, -, hf⟩ := bnd_ex hf
  obtain ⟨x4, -, hf⟩ := bnd_ex hf
  exact F.trans (Hrc4 _ _ _ hf)
theorem rX12_falses_4 {S' : mT} {r : Int32} : ∀ (k : Nat) (v1 : Int32) (v2 : Int32) (S : mT), fX12_falses_4 k v1 v2 S = some (r, S') → Fr (inM 999999 LX12_falses) S S' := by
  intro k
  induction k with
  | zero =>
    intro v1 v2 S hf
    cases hf
  | succ k ih =>
    intro v1 v2 S hf
    unfold fX12_falses_4 at hf
    obtain ⟨-, hf⟩ := grd_ex hf
    by_cases hc : (S.1 187 37) ≤ v2
    · rw [if_pos hc] at hf
      cases hf
      exact (Fr.rfl (inM 999999 LX12_falses) _)
    · rw [if_neg hc] at hf
      obtain ⟨-, hf⟩ := grd_ex hf
      obtain ⟨-, hf⟩ := grd_ex hf
      by_cases hc : (S.1 208 (mIx ((10 : Int32) + v2))) = (S.1 208 (mIx v2))
      · rw [if_pos hc] at hf
        exact (Fr.rfl (inM 999999 LX12_falses) _).trans (rX12_falses_36 ih hf)
      · rw [if_neg hc] at hf
        exact (Fr.rfl (inM 999999 LX12_falses) _).trans (rX12_falses_36 ih hf)
theorem rX12_falses_0 {S' : mT} {r : Int32} {S : mT} (hf : fX12_falses S = some (r, S')) : Fr (inM 999999 LX12_falses) S S' := by
  unfold fX12_falses at hf
  exact (Fr.rfl (inM 999999 LX12_falses) _).trans (rX12_falses_4 _ _ _ _ hf)
theorem rX12_falses {S S' : mT} {r : Int32} (hf : fX12_falses S = some (r, S')) : Fr (inM 999999 LX12_falses) S S' := rX12_falses_0 hf
abbrev LX12_fault : List (Nat × Nat × Option Nat) := [(999999, 999999, none)]
theorem rX12_fault_24 {S' : mT} {r : Int32} {s0 : Int32} {S : mT} (hf : fX12_fault_24 s0 S = some (r, S')) : Fr (inM 999999 LX12_fault) S S' := by
  unfold fX12_fault_24 at hf
  cases hf
  exact (Fr.rfl (inM 999999 LX12_fault) _)
theorem rX12_fault_0 {S' : mT} {r : Int32} {v1 : Int32} {S : mT} (hf : fX12_fault v1 S = some (r, S')) : Fr (inM 999999 LX12_fault) S S' := by
  unfold fX12_fault at hf
  by_cases hc : v1 = 0
  · rw [if_pos hc] at hf
    obtain ⟨-, hf⟩ := grd_ex hf
    exact (Fr.rfl (inM 999999 LX12_fault) _).trans (rX12_fault_24 hf)
  · rw [if_neg hc] at hf
    by_cases hc : v1 = (1 : Int32)
    · rw [if_pos hc] at hf
      obtain ⟨-, hf⟩ := grd_ex hf
      exact (Fr.rfl (inM 999999 LX12_fault) _).trans (rX12_fault_24 hf)
    · rw [if_neg hc] at hf
      exact (Fr.rfl (inM 999999 LX12_fault) _).trans (rX12_fault_24 hf)
theorem rX12_fault {v1 : Int32} {S S' : mT} {r : Int32} (hf : fX12_fault v1 S = some (r, S')) : Fr (inM 999999 LX12_fault) S S' := rX12_fault_0 hf
abbrev LX12_four : List (Nat × Nat × Option Nat) := [(999999, 999999, none), (187, 187, some 1), (188, 188, none)]
theorem rX12_four_3 {S' : mT} : ∀ (k : Nat) (v1 : Int32) (v2 : Int32) (S : mT), fX12_four_3 k v1 v2 S = some S' → Fr (inM 999999 LX12_four) S S' := by
  intro k
  induction k with
  | zero =>
    intro v1 v2 S hf
    cases hf
  | succ k ih =>
    intro v1 v2 S hf
    unfold fX12_four_3 at hf
    by_cases hc : v2 < 0
    · rw [if_pos hc] at hf
      cases hf
      exact (Fr.rfl (inM 999999 LX12_four) _)
    · rw [if_neg hc] at hf
      obtain ⟨-, hf⟩ := grd_ex hf
      obtain ⟨S1, eS1, hf⟩ := bnd_ex hf
      have F : Fr (inM 999999 LX12_four) S S1 := by
        rw [eS1]
        exact Fr.sI (Fr.rfl (inM 999999 LX12_four) _) rfl
      obtain ⟨-, hf⟩ := grd_ex hf
      obtain ⟨S2, eS2, hf⟩ := bnd_ex hf
      have F : Fr (inM 999999 LX12_four) S S2 := by
        rw [eS2]
        exact Fr.sI F rfl
      obtain ⟨x3, -, hf⟩ := bnd_ex hf
      exact F.trans (ih _ _ _ hf)
theorem rX12_four_0 {S' : mT} {v1 : Int32} {S : mT} (hf : fX12_four v1 S = some S') : Fr (inM 999999 LX12_four) S S' := by
  unfold fX12_four at hf
  exact (Fr.rfl (inM 999999 LX12_four) _).trans (rX12_four_3 _ _ _ _ hf)
theorem rX12_four {v1 : Int32} {S S' : mT} (hf : fX12_four v1 S = some S') : Fr (inM 999999 LX12_four) S S' := rX12_four_0 hf
abbrev LX12_feed : List (Nat × Nat × Option Nat) := [(999999, 999999, none), (187, 187, some 1), (188, 188, none)]
theorem rX12_feed_0 {S' : mT} {r : Int32} {v1 : Int32} {v2 : Int32} {v3 : Int32} {v4 : Int32} {v5 : Int32} {S : mT} (hf : fX12_feed v1 v2 v3 v4 v5 S = some (r, S')) : Fr (inM 999999 LX12_feed) S S' := by
  unfold fX12_feed at hf
  obtain ⟨-, hf⟩ := grd_ex hf
  by_cases hc : ((S.1 187 1) + (20 : Int32)) ≤ (1600 : Int32)
  · rw [if_pos hc] at hf
    obtain ⟨S1, hq, hf⟩ := bndV_ex hf
    have F := (Fr.rfl (inM 999999 LX12_feed) _).trans ((rX12_four hq).mono rfl (fun _ => rfl))
    obtain ⟨S2, hq, hf⟩ := bndV_ex hf
    have F := F.trans ((rX12_four hq).mono rfl (fun _ => rfl))
    obtain ⟨S3, hq, hf⟩ := bndV_ex hf
    have F := F.trans ((rX12_four hq).mono rfl (fun _ => rfl))
    obtain ⟨S4, hq, hf⟩ := bndV_ex hf
    have F := F.trans ((rX12_four hq).mono rfl (fun _ => rfl))
    obtain ⟨S5, hq, hf⟩ := bndV_ex hf
    have F := F.trans ((rX12_four hq).mono rfl (fun _ => rfl))
    obtain ⟨-, hf⟩ := grd_ex hf
    cases hf
    exact F
  · rw [if_neg hc] at hf
    cases hf
    exact (Fr.rfl (inM 999999 LX12_feed) _)
theorem rX12_feed {v1 : Int32} {v2 : Int32} {v3 : Int32} {v4 : Int32} {v5 : Int32} {S S' : mT} {r : Int32} (hf : fX12_feed v1 v2 v3 v4 v5 S = some (r, S')) : Fr (inM 999999 LX12_feed) S S' := rX12_feed_0 hf
abbrev LX12_find : List (Nat × Nat × Option Nat) := [(999999, 999999, none)]
theorem rX12_find_31 {S' : mT} {r : Int32} {rc4 : Int32 → Int32 → mT → Option (Int32 × mT)} (Hrc4 : ∀ (v1 : Int32) (v2 : Int32) (S : mT), rc4 v1 v2 S = some (r, S') → Fr (inM 999999 LX12_find) S S') {v2 : Int32} {s0 : Int32} {S : mT} (hf : fX12_find_31 rc4 v2 s0 S = some (r, S')) : Fr (inM 999999 LX12_find) S S' := by
  unfold fX12_find_31 at hf
  obtain ⟨x1, -, hf⟩ := bnd_ex hf
  exact (Fr.rfl (inM 999999 LX12_find) _).trans (Hrc4 _ _ _ hf)
theorem rX12_find_4 {S' : mT} {r : Int32} : ∀ (k : Nat) (v1 : Int32) (v2 : Int32) (S : mT), fX12_find_4 k v1 v2 S = some (r, S') → Fr (inM 999999 LX12_find) S S' := by
  intro k
  induction k with
  | zero =>
    intro v1 v2 S hf
    cases hf
  | succ k ih =>
    intro v1 v2 S hf
    unfold fX12_find_4 at hf
    obtain ⟨-, hf⟩ := grd_ex hf
    by_cases hc : (S.1 187 35) ≤ v2
    · rw [if_pos hc] at hf
      cases hf
      exact (Fr.rfl (inM 999999 LX12_find) _)
    · rw [if_neg hc] at hf
      obtain ⟨-, hf⟩ := grd_ex hf
      by_cases hc : (lg_cmp (S.2 189 (mIx v2)) (S.2 187 9)) = 0
      · rw [if_pos hc] at hf
        exact (Fr.rfl (inM 999999 LX12_find) _).trans (rX12_find_31 ih hf)
      · rw [if_neg hc] at hf
        exact (Fr.rfl (inM 999999 LX12_find) _).trans (rX12_find_31 ih hf)
theorem rX12_find_0 {S' : mT} {r : Int32} {S : mT} (hf : fX12_find S = some (r, S')) : Fr (inM 999999 LX12_find) S S' := by
  unfold fX12_find at hf
  exact (Fr.rfl (inM 999999 LX12_find) _).trans (rX12_find_4 _ _ _ _ hf)
theorem rX12_find {S S' : mT} {r : Int32} (hf : fX12_find S = some (r, S')) : Fr (inM 999999 LX12_find) S S' := rX12_find_0 hf
abbrev LX12_hasBracket : List (Nat × Nat × Option Nat) := [(999999, 999999, none)]
theorem rX12_hasBracket_32 {S' : mT} {r : Int32} {rc4 : Int32 → Int32 → mT → Option (Int32 × mT)} (Hrc4 : ∀ (v1 : Int32) (v2 : Int32) (S : mT), rc4 v1 v2 S = some (r, S') → Fr (inM 999999 LX12_hasBracket) S S') {v2 : Int32} {s0 : Int32} {S : mT} (hf : fX12_hasBracket_32 rc4 v2 s0 S = some (r, S')) : Fr (inM 999999 LX12_hasBracket) S S' := by
  unfold fX12_hasBracket_32 at hf
  obtain ⟨x1, -, hf⟩ := bnd_ex hf
  exact (Fr.rfl (inM 999999 LX12_hasBracket) _).trans (Hrc4 _ _ _ hf)
theorem rX12_hasBracket_27 {S' : mT} {r : Int32} {rc4 : Int32 → Int32 → mT → Option (Int32 × mT)} (Hrc4 : ∀ (v1 : Int32) (v2 : Int32) (S : mT), rc4 v1 v2 S = some (r, S') → Fr (inM 999999 LX12_hasBracket) S S') {v2 : Int32} {S : mT} (hf : fX12_hasBracket_27 rc4 v2 S = some (r, S')) : Fr (inM 999999 LX12_hasBracket) S S' := by
  unfold fX12_hasBracket_27 at hf
  exact (Fr.rfl (inM 999999 LX12_hasBracket) _).trans (rX12_hasBracket_32 Hrc4 hf)
theorem rX12_hasBracket_4 {S' : mT} {r : Int32} : ∀ (k : Nat) (v1 : Int32) (v2 : Int32) (S : mT), fX12_hasBracket_4 k v1 v2 S = some (r, S') → Fr (inM 999999 LX12_hasBracket) S S' := by
  intro k
  induction k with
  | zero =>
    intro v1 v2 S hf
    cases hf
  | succ k ih =>
    intro v1 v2 S hf
    unfold fX12_hasBracket_4 at hf
    obtain ⟨-, hf⟩ := grd_ex hf
    by_cases hc : (S.1 187 22) ≤ v2
    · rw [if_pos hc] at hf
      obtain ⟨-, hf⟩ := grd_ex hf
      cases hf
      exact (Fr.rfl (inM 999999 LX12_hasBracket) _)
    · rw [if_neg hc] at hf
      by_cases hc : v1 = 0
      · rw [if_pos hc] at hf
        obtain ⟨-, hf⟩ := grd_ex hf
        by_cases hc : (S.1 196 (mIx v2)) = (20 : Int32)
        · rw [if_pos hc] at hf
          exact (Fr.rfl (inM 999999 LX12_hasBracket) _).trans (rX12_hasBracket_27 ih hf)
        · rw [if_neg hc] at hf
          exact (Fr.rfl (inM 999999 LX12_hasBracket) _).trans (rX12_hasBracket_32 ih hf)
      · rw [if_neg hc] at hf
        exact (Fr.rfl (inM 999999 LX12_hasBracket) _).trans (rX12_hasBracket_27 ih hf)
theorem rX12_hasBracket_0 {S' : mT} {r : Int32} {S : mT} (hf : fX12_hasBracket S = some (r, S')) : Fr (inM 999999 LX12_hasBracket) S S' := by
  unfold fX12_hasBracket at hf
  exact (Fr.rfl (inM 999999 LX12_hasBracket) _).trans (rX12_hasBracket_4 _ _ _ _ hf)
theorem rX12_hasBracket {S S' : mT} {r : Int32} (hf : fX12_hasBracket S = some (r, S')) : Fr (inM 999999 LX12_hasBracket) S S' := rX12_hasBracket_0 hf
abbrev LX12_hasRelation : List (Nat × Nat × Option Nat) := [(999999, 999999, none)]
theorem rX12_hasRelation_74 {S' : mT} {r : Int32} {s0 : Int32} {S : mT} (hf : fX12_hasRelation_74 s0 S = some (r, S')) : Fr (inM 999999 LX12_hasRelation) S S' := by
  unfold fX12_hasRelation_74 at hf
  obtain ⟨-, hf⟩ := grd_ex hf
  cases hf
  exact (Fr.rfl (inM 999999 LX12_hasRelation) _)
theorem rX12_hasRelation_73 {S' : mT} {r : Int32} {S : mT} (hf : fX12_hasRelation_73 S = some (r, S')) : Fr (inM 999999 LX12_hasRelation) S S' := by
  unfold fX12_hasRelation_73 at hf
  exact (Fr.rfl (inM 999999 LX12_hasRelation) _).trans (rX12_hasRelation_74 hf)
theorem rX12_hasRelation_41 {S' : mT} {r : Int32} {v1 : Int32} {S : mT} (hf : fX12_hasRelation_41 v1 S = some (r, S')) : Fr (inM 999999 LX12_hasRelation) S S' := by
  unfold fX12_hasRelation_41 at hf
  by_cases hc : v1 < 0
  · rw [if_pos hc] at hf
    exact (Fr.rfl (inM 999999 LX12_hasRelation) _).trans (rX12_hasRelation_73 hf)
  · rw [if_neg hc] at hf
    obtain ⟨-, hf⟩ := grd_ex hf
    by_cases hc : (S.1 196 (mIx v1)) = (20 : Int32)
    · rw [if_pos hc] at hf
      exact (Fr.rfl (inM 999999 LX12_hasRelation) _).trans (rX12_hasRelation_73 hf)
    · rw [if_neg hc] at hf
      obtain ⟨-, hf⟩ := grd_ex hf
      obtain ⟨x6, S5, hq, hf⟩ := bndC_ex hf
      have F := (Fr.rfl (inM 999999 LX12_hasRelation) _).trans ((rX12_tight hq).mono rfl (fun _ => rfl))
      by_cases hc : x6 = (4 : Int32)
      · rw [if_pos hc] at hf
        exact F.trans (rX12_hasRelation_74 hf)
      · rw [if_neg hc] at hf
        exact F.trans (rX12_hasRelation_73 hf)
theorem rX12_hasRelation_7 {S' : mT} {r : Int32} : ∀ (k : Nat) (v1 : Int32) (S : mT), fX12_hasRelation_7 k v1 S = some (r, S') → Fr (inM 999999 LX12_hasRelation) S S' := by
  intro k
  induction k with
  | zero =>
    intro v1 S hf
    cases hf
  | succ k ih =>
    intro v1 S hf
    unfold fX12_hasRelation_7 at hf
    by_cases hc : v1 < 0
    · rw [if_pos hc] at hf
      exact (Fr.rfl (inM 999999 LX12_hasRelation) _).trans (rX12_hasRelation_41 hf)
    · rw [if_neg hc] at hf
      obtain ⟨-, hf⟩ := grd_ex hf
      by_cases hc : (S.1 196 (mIx v1)) = (20 : Int32)
      · rw [if_pos hc] at hf
        exact (Fr.rfl (inM 999999 LX12_hasRelation) _).trans (rX12_hasRelation_41 hf)
      · rw [if_neg hc] at hf
        obtain ⟨-, hf⟩ := grd_ex hf
        obtain ⟨x3, S2, hq, hf⟩ := bndC_ex hf
        have F := (Fr.rfl (inM 999999 LX12_hasRelation) _).trans ((rX12_tight hq).mono rfl (fun _ => rfl))
        by_cases hc : x3 ≤ (4 : Int32)
        · rw [if_pos hc] at hf
          exact F.trans (rX12_hasRelation_41 hf)
        · rw [if_neg hc] at hf
          obtain ⟨x4, -, hf⟩ := bnd_ex hf
          exact F.trans (ih _ _ hf)
theorem rX12_hasRelation_0 {S' : mT} {r : Int32} {S : mT} (hf : fX12_hasRelation S = some (r, S')) : Fr (inM 999999 LX12_hasRelation) S S' := by
  unfold fX12_hasRelation at hf
  obtain ⟨-, hf⟩ := grd_ex hf
  obtain ⟨x1, -, hf⟩ := bnd_ex hf
  exact (Fr.rfl (inM 999999 LX12_hasRelation) _).trans (rX12_hasRelation_7 _ _ _ hf)
theorem rX12_hasRelation {S S' : mT} {r : Int32} (hf : fX12_hasRelation S = some (r, S')) : Fr (inM 999999 LX12_hasRelation) S S' := rX12_hasRelation_0 hf
abbrev LX12_isWord : List (Nat × Nat × Option Nat) := [(999999, 999999, none)]
theorem rX12_isWord_22 {S' : mT} {r : Int32} {s0 : Int32} {S : mT} (hf : fX12_isWord_22 s0 S = some (r, S')) : Fr (inM 999999 LX12_isWord) S S' := by
  unfold fX12_isWord_22 at hf
  obtain ⟨-, hf⟩ := grd_ex hf
  cases hf
  exact (Fr.rfl (inM 999999 LX12_isWord) _)
theorem rX12_isWord_21 {S' : mT} {r : Int32} {S : mT} (hf : fX12_isWord_21 S = some (r, S')) : Fr (inM 999999 LX12_isWord) S S' := by
  unfold fX12_isWord_21 at hf
  exact (Fr.rfl (inM 999999 LX12_isWord) _).trans (rX12_isWord_22 hf)
theorem rX12_isWord_0 {S' : mT} {r : Int32} {v1 : Int64} {S : mT} (hf : fX12_isWord v1 S = some (r, S')) : Fr (inM 999999 LX12_isWord) S S' := by
  unfold fX12_isWord at hf
  obtain ⟨-, hf⟩ := grd_ex hf
  by_cases hc : (S.1 187 6) = (1 : Int32)
  · rw [if_pos hc] at hf
    obtain ⟨-, hf⟩ := grd_ex hf
    by_cases hc : (lg_cmp (S.2 187 9) v1) = 0
    · rw [if_pos hc] at hf
      exact (Fr.rfl (inM 999999 LX12_isWord) _).trans (rX12_isWord_22 hf)
    · rw [if_neg hc] at hf
      exact (Fr.rfl (inM 999999 LX12_isWord) _).trans (rX12_isWord_21 hf)
  · rw [if_neg hc] at hf
    exact (Fr.rfl (inM 999999 LX12_isWord) _).trans (rX12_isWord_21 hf)
theorem rX12_isWord {v1 : Int64} {S S' : mT} {r : Int32} (hf : fX12_isWord v1 S = some (r, S')) : Fr (inM 999999 LX12_isWord) S S' := rX12_isWord_0 hf
abbrev LX12_sign : List (Nat × Nat × Option Nat) := [(999999, 999999, none)]
theorem rX12_sign_106 {S' : mT} {r : Int32} {s0 : Int32} {S : mT} (hf : fX12_sign_106 s0 S = some (r, S')) : Fr (inM 999999 LX12_sign) S S' := by
  unfold fX12_sign_106 at hf
  cases hf
  exact (Fr.rfl (inM 999999 LX12_sign) _)
theorem rX12_sign_98 {S' : mT} {r : Int32} {S : mT} (hf : fX12_sign_98 S = some (r, S')) : Fr (inM 999999 LX12_sign) S S' := by
  unfold fX12_sign_98 at hf
  obtain ⟨-, hf⟩ := grd_ex hf
  exact (Fr.rfl (inM 999999 LX12_sign) _).trans (rX12_sign_106 hf)
theorem rX12_sign_0 {S' : mT} {r : Int32} {S : mT} (hf : fX12_sign S = some (r, S')) : Fr (inM 999999 LX12_sign) S S' := by
  unfold fX12_sign at hf
  obtain ⟨x2, S1, hq, hf⟩ := bndC_ex hf
  have F := (Fr.rfl (inM 999999 LX12_sign) _).trans ((rX12_isWord hq).mono rfl (fun _ => rfl))
  by_cases hc : x2 = 0
  · rw [if_pos hc] at hf
    obtain ⟨x4, S3, hq, hf⟩ := bndC_ex hf
    have F := F.trans ((rX12_isWord hq).mono rfl (fun _ => rfl))
    by_cases hc : x4 = 0
    · rw [if_pos hc] at hf
      obtain ⟨-, hf⟩ := grd_ex hf
      by_cases hc : (S3.1 187 6) = (60 : Int32)
      · rw [if_pos hc] at hf
        exact F.trans (rX12_sign_98 hf)
      · rw [if_neg hc] at hf
        obtain ⟨-, hf⟩ := grd_ex hf
        by_cases hc : (S3.1 187 6) = (62 : Int32)
        · rw [if_pos hc] at hf
          exact F.trans (rX12_sign_98 hf)
        · rw [if_neg hc] at hf
          obtain ⟨-, hf⟩ := grd_ex hf
          by_cases hc : (S3.1 187 6) = (61 : Int32)
          · rw [if_pos hc] at hf
            exact F.trans (rX12_sign_98 hf)
          · rw [if_neg hc] at hf
            obtain ⟨-, hf⟩ := grd_ex hf
            by_cases hc : (S3.1 187 6) = (43 : Int32)
            · rw [if_pos hc] at hf
              exact F.trans (rX12_sign_98 hf)
            · rw [if_neg hc] at hf
              obtain ⟨-, hf⟩ := grd_ex hf
              by_cases hc : (S3.1 187 6) = (45 : Int32)
              · rw [if_pos hc] at hf
                exact F.trans (rX12_sign_98 hf)
              · rw [if_neg hc] at hf
                obtain ⟨-, hf⟩ := grd_ex hf
                by_cases hc : (S3.1 187 6) = (42 : Int32)
                · rw [if_pos hc] at hf
                  exact F.trans (rX12_sign_98 hf)
                · rw [if_neg hc] at hf
                  obtain ⟨-, hf⟩ := grd_ex hf
                  by_cases hc : (S3.1 187 6) = (47 : Int32)
                  · rw [if_pos hc] at hf
                    exact F.trans (rX12_sign_98 hf)
                  · rw [if_neg hc] at hf
                    obtain ⟨-, hf⟩ := grd_ex hf
                    by_cases hc : (S3.1 187 6) = (37 : Int32)
                    · rw [if_pos hc] at hf
                      exact F.trans (rX12_sign_98 hf)
                    · rw [if_neg hc] at hf
                      exact F.trans (rX12_sign_106 hf)
    · rw [if_neg hc] at hf
      cases hf
      exact F
  · rw [if_neg hc] at hf
    cases hf
    exact F
theorem rX12_sign {S S' : mT} {r : Int32} (hf : fX12_sign S = some (r, S')) : Fr (inM 999999 LX12_sign) S S' := rX12_sign_0 hf
abbrev LX12_here : List (Nat × Nat × Option Nat) := [(999999, 999999, none)]
theorem rX12_here_28 {S' : mT} {r : Int32} {s0 : Int32} {S : mT} (hf : fX12_here_28 s0 S = some (r, S')) : Fr (inM 999999 LX12_here) S S' := by
  unfold fX12_here_28 at hf
  cases hf
  exact (Fr.rfl (inM 999999 LX12_here) _)
theorem rX12_here_0 {S' : mT} {r : Int32} {v1 : Int32} {S : mT} (hf : fX12_here v1 S = some (r, S')) : Fr (inM 999999 LX12_here) S S' := by
  unfold fX12_here at hf
  obtain ⟨-, hf⟩ := grd_ex hf
  by_cases hc : (S.1 187 5) ≤ ((S.1 187 4) + v1)
  · rw [if_pos hc] at hf
    exact (Fr.rfl (inM 999999 LX12_here) _).trans (rX12_here_28 hf)
  · rw [if_neg hc] at hf
    obtain ⟨-, hf⟩ := grd_ex hf
    exact (Fr.rfl (inM 999999 LX12_here) _).trans (rX12_here_28 hf)
theorem rX12_here {v1 : Int32} {S S' : mT} {r : Int32} (hf : fX12_here v1 S = some (r, S')) : Fr (inM 999999 LX12_here) S S' := rX12_here_0 hf
abbrev LX12_isDigit : List (Nat × Nat × Option Nat) := [(999999, 999999, none)]
theorem rX12_isDigit_17 {S' : mT} {r : Int32} {s0 : Int32} {S : mT} (hf : fX12_isDigit_17 s0 S = some (r, S')) : Fr (inM 999999 LX12_isDigit) S S' := by
  unfold fX12_isDigit_17 at hf
  obtain ⟨-, hf⟩ := grd_ex hf
  cases hf
  exact (Fr.rfl (inM 999999 LX12_isDigit) _)
theorem rX12_isDigit_16 {S' : mT} {r : Int32} {S : mT} (hf : fX12_isDigit_16 S = some (r, S')) : Fr (inM 999999 LX12_isDigit) S S' := by
  unfold fX12_isDigit_16 at hf
  exact (Fr.rfl (inM 999999 LX12_isDigit) _).trans (rX12_isDigit_17 hf)
theorem rX12_isDigit_0 {S' : mT} {r : Int32} {v0 : Int32} {S : mT} (hf : fX12_isDigit v0 S = some (r, S')) : Fr (inM 999999 LX12_isDigit) S S' := by
  unfold fX12_isDigit at hf
  by_cases hc : v0 < (48 : Int32)
  · rw [if_pos hc] at hf
    exact (Fr.rfl (inM 999999 LX12_isDigit) _).trans (rX12_isDigit_16 hf)
  · rw [if_neg hc] at hf
    by_cases hc : (57 : Int32) < v0
    · rw [if_pos hc] at hf
      exact (Fr.rfl (inM 999999 LX12_isDigit) _).trans (rX12_isDigit_16 hf)
    · rw [if_neg hc] at hf
      exact (Fr.rfl (inM 999999 LX12_isDigit) _).trans (rX12_isDigit_17 hf)
theorem rX12_isDigit {v0 : Int32} {S S' : mT} {r : Int32} (hf : fX12_isDigit v0 S = some (r, S')) : Fr (inM 999999 LX12_isDigit) S S' := rX12_isDigit_0 hf
abbrev LX12_isLetter : List (Nat × Nat × Option Nat) := [(999999, 999999, none)]
theorem rX12_isLetter_17 {S' : mT} {r : Int32} {s0 : Int32} {S : mT} (hf : fX12_isLetter_17 s0 S = some (r, S')) : Fr (inM 999999 LX12_isLetter) S S' := by
  unfold fX12_isLetter_17 at hf
  obtain ⟨-, hf⟩ := grd_ex hf
  cases hf
  exact (Fr.rfl (inM 999999 LX12_isLetter) _)
theorem rX12_isLetter_16 {S' : mT} {r : Int32} {S : mT} (hf : fX12_isLetter_16 S = some (r, S')) : Fr (inM 999999 LX12_isLetter) S S' := by
  unfold fX12_isLetter_16 at hf
  exact (Fr.rfl (inM 999999 LX12_isLetter) _).trans (rX12_isLetter_17 hf)
theorem rX12_isLetter_0 {S' : mT} {r : Int32} {v0 : Int32} {S : mT} (hf : fX12_isLetter v0 S = some (r, S')) : Fr (inM 999999 LX12_isLetter) S S' := by
  unfold fX12_isLetter at hf
  by_cases hc : v0 < (97 : Int32)
  · rw [if_pos hc] at hf
    exact (Fr.rfl (inM 999999 LX12_isLetter) _).trans (rX12_isLetter_16 hf)
  · rw [if_neg hc] at hf
    by_cases hc : (122 : Int32) < v0
    · rw [if_pos hc] at hf
      exact (Fr.rfl (inM 999999 LX12_isLetter) _).trans (rX12_isLetter_16 hf)
    · rw [if_neg hc] at hf
      exact (Fr.rfl (inM 999999 LX12_isLetter) _).trans (rX12_isLetter_17 hf)
theorem rX12_isLetter {v0 : Int32} {S S' : mT} {r : Int32} (hf : fX12_isLetter v0 S = some (r, S')) : Fr (inM 999999 LX12_isLetter) S S' := rX12_isLetter_0 hf
abbrev LX12_isSign : List (Nat × Nat × Option Nat) := [(999999, 999999, none)]
theorem rX12_isSign_71 {S' : mT} {r : Int32} {s0 : Int32} {S : mT} (hf : fX12_isSign_71 s0 S = some (r, S')) : Fr (inM 999999 LX12_isSign) S S' := by
  unfold fX12_isSign_71 at hf
  obtain ⟨-, hf⟩ := grd_ex hf
  cases hf
  exact (Fr.rfl (inM 999999 LX12_isSign) _)
theorem rX12_isSign_66 {S' : mT} {r : Int32} {S : mT} (hf : fX12_isSign_66 S = some (r, S')) : Fr (inM 999999 LX12_isSign) S S' := by
  unfold fX12_isSign_66 at hf
  exact (Fr.rfl (inM 999999 LX12_isSign) _).trans (rX12_isSign_71 hf)
theorem rX12_isSign_0 {S' : mT} {r : Int32} {v0 : Int32} {S : mT} (hf : fX12_isSign v0 S = some (r, S')) : Fr (inM 999999 LX12_isSign) S S' := by
  unfold fX12_isSign at hf
  by_cases hc : v0 = (59 : Int32)
  · rw [if_pos hc] at hf
    exact (Fr.rfl (inM 999999 LX12_isSign) _).trans (rX12_isSign_66 hf)
  · rw [if_neg hc] at hf
    by_cases hc : v0 = (40 : Int32)
    · rw [if_pos hc] at hf
      exact (Fr.rfl (inM 999999 LX12_isSign) _).trans (rX12_isSign_66 hf)
    · rw [if_neg hc] at hf
      by_cases hc : v0 = (41 : Int32)
      · rw [if_pos hc] at hf
        exact (Fr.rfl (inM 999999 LX12_isSign) _).trans (rX12_isSign_66 hf)
      · rw [if_neg hc] at hf
        by_cases hc : v0 = (60 : Int32)
        · rw [if_pos hc] at hf
          exact (Fr.rfl (inM 999999 LX12_isSign) _).trans (rX12_isSign_66 hf)
        · rw [if_neg hc] at hf
          by_cases hc : v0 = (62 : Int32)
          · rw [if_pos hc] at hf
            exact (Fr.rfl (inM 999999 LX12_isSign) _).trans (rX12_isSign_66 hf)
          · rw [if_neg hc] at hf
            by_cases hc : v0 = (61 : Int32)
            · rw [if_pos hc] at hf
              exact (Fr.rfl (inM 999999 LX12_isSign) _).trans (rX12_isSign_66 hf)
            · rw [if_neg hc] at hf
              by_cases hc : v0 = (43 : Int32)
              · rw [if_pos hc] at hf
                exact (Fr.rfl (inM 999999 LX12_isSign) _).trans (rX12_isSign_66 hf)
              · rw [if_neg hc] at hf
                by_cases hc : v0 = (45 : Int32)
                · rw [if_pos hc] at hf
                  exact (Fr.rfl (inM 999999 LX12_isSign) _).trans (rX12_isSign_66 hf)
                · rw [if_neg hc] at hf
                  by_cases hc : v0 = (42 : Int32)
                  · rw [if_pos hc] at hf
                    exact (Fr.rfl (inM 999999 LX12_isSign) _).trans (rX12_isSign_66 hf)
                  · rw [if_neg hc] at hf
                    by_cases hc : v0 = (47 : Int32)
                    · rw [if_pos hc] at hf
                      exact (Fr.rfl (inM 999999 LX12_isSign) _).trans (rX12_isSign_66 hf)
                    · rw [if_neg hc] at hf
                      by_cases hc : v0 = (37 : Int32)
                      · rw [if_pos hc] at hf
                        exact (Fr.rfl (inM 999999 LX12_isSign) _).trans (rX12_isSign_66 hf)
                      · rw [if_neg hc] at hf
                        exact (Fr.rfl (inM 999999 LX12_isSign) _).trans (rX12_isSign_71 hf)
theorem rX12_isSign {v0 : Int32} {S S' : mT} {r : Int32} (hf : fX12_isSign v0 S = some (r, S')) : Fr (inM 999999 LX12_isSign) S S' := rX12_isSign_0 hf
abbrev LX12_token : List (Nat × Nat × Option Nat) := [(999999, 999999, none), (187, 187, some 4), (187, 187, some 6), (187, 187, some 7), (187, 187, some 8), (187, 187, some 9)]
theorem rX12_token_20 {S' : mT} {rc0 : mT → Option (mT)} (Hrc0 : ∀ (S : mT), rc0 S = some S' → Fr (inM 999999 LX12_token) S S') {S : mT} (hf : fX12_token_20 rc0 S = some S') : Fr (inM 999999 LX12_token) S S' := by
  unfold fX12_token_20 at hf
  obtain ⟨-, hf⟩ := grd_ex hf
  obtain ⟨S17, eS17, hf⟩ := bnd_ex hf
  have F : Fr (inM 999999 LX12_token) S S17 := by
    rw [eS17]
    exact Fr.sI (Fr.rfl (inM 999999 LX12_token) _) rfl
  exact F.trans (Hrc0 _ hf)
theorem rX12_token_113 {S' : mT} {rc78 : Int32 → mT → Option (mT)} (Hrc78 : ∀ (v2 : Int32) (S : mT), rc78 v2 S = some S' → Fr (inM 999999 LX12_token) S S') {v2 : Int32} {S : mT} (hf : fX12_token_113 rc78 v2 S = some S') : Fr (inM 999999 LX12_token) S S' := by
  unfold fX12_token_113 at hf
  obtain ⟨x41, -, hf⟩ := bnd_ex hf
  exact (Fr.rfl (inM 999999 LX12_token) _).trans (Hrc78 _ _ hf)
theorem rX12_token_250 {S' : mT} {S : mT} (hf : fX12_token_250 S = some S') : Fr (inM 999999 LX12_token) S S' := by
  unfold fX12_token_250 at hf
  cases hf
  exact (Fr.rfl (inM 999999 LX12_token) _)
theorem rX12_token_232 {S' : mT} {v2 : Int32} {S : mT} (hf : fX12_token_232 v2 S = some S') : Fr (inM 999999 LX12_token) S S' := by
  unfold fX12_token_232 at hf
  obtain ⟨-, hf⟩ := grd_ex hf
  by_cases hc : (S.1 187 6) = (3 : Int32)
  · rw [if_pos hc] at hf
    exact (Fr.rfl (inM 999999 LX12_token) _).trans (rX12_token_250 hf)
  · rw [if_neg hc] at hf
    obtain ⟨-, hf⟩ := grd_ex hf
    obtain ⟨S37, eS37, hf⟩ := bnd_ex hf
    have F : Fr (inM 999999 LX12_token) S S37 := by
      rw [eS37]
      exact Fr.sI (Fr.rfl (inM 999999 LX12_token) _) rfl
    exact F.trans (rX12_token_250 hf)
theorem rX12_token_131 {S' : mT} {v2 : Int32} {s0 : Int32} {S : mT} (hf : fX12_token_131 v2 s0 S = some S') : Fr (inM 999999 LX12_token) S S' := by
  unfold fX12_token_131 at hf
  obtain ⟨-, hf⟩ := grd_ex hf
  obtain ⟨S40, eS40, hf⟩ := bnd_ex hf
  have F : Fr (inM 999999 LX12_token) S S40 := by
    rw [eS40]
    exact Fr.sI (Fr.rfl (inM 999999 LX12_token) _) rfl
  exact F.trans (rX12_token_232 hf)
theorem rX12_token_78 {S' : mT} : ∀ (k : Nat) (v2 : Int32) (S : mT), fX12_token_78 k v2 S = some S' → Fr (inM 999999 LX12_token) S S' := by
  intro k
  induction k with
  | zero =>
    intro v2 S hf
    cases hf
  | succ k ih =>
    intro v2 S hf
    unfold fX12_token_78 at hf
    obtain ⟨x31, S30, hq, hf⟩ := bndC_ex hf
    have F := (Fr.rfl (inM 999999 LX12_token) _).trans ((rX12_here hq).mono rfl (fun _ => rfl))
    obtain ⟨x33, S32, hq, hf⟩ := bndC_ex hf
    have F := F.trans ((rX12_isLetter hq).mono rfl (fun _ => rfl))
    by_cases hc : x33 = 0
    · rw [if_pos hc] at hf
      by_cases hc : v2 ≤ (8 : Int32)
      · rw [if_pos hc] at hf
        exact F.trans (rX12_token_131 hf)
      · rw [if_neg hc] at hf
        exact F.trans (rX12_token_131 hf)
    · rw [if_neg hc] at hf
      by_cases hc : (8 : Int32) ≤ v2
      · rw [if_pos hc] at hf
        exact F.trans (rX12_token_113 ih hf)
      · rw [if_neg hc] at hf
        obtain ⟨-, hf⟩ := grd_ex hf
        obtain ⟨x35, S34, hq, hf⟩ := bndC_ex hf
        have F := F.trans ((rX12_here hq).mono rfl (fun _ => rfl))
        obtain ⟨-, hf⟩ := grd_ex hf
        obtain ⟨S36, eS36, hf⟩ := bnd_ex hf
        have F : Fr (inM 999999 LX12_token) S S36 := by
          rw [eS36]
          exact Fr.sJ F rfl
        exact F.trans (rX12_token_113 ih hf)
theorem rX12_token_180 {S' : mT} {rc144 : Int32 → mT → Option (mT)} (Hrc144 : ∀ (v2 : Int32) (S : mT), rc144 v2 S = some S' → Fr (inM 999999 LX12_token) S S') {v2 : Int32} {S : mT} (hf : fX12_token_180 rc144 v2 S = some S') : Fr (inM 999999 LX12_token) S S' := by
  unfold fX12_token_180 at hf
  obtain ⟨x39, -, hf⟩ := bnd_ex hf
  exact (Fr.rfl (inM 999999 LX12_token) _).trans (Hrc144 _ _ hf)
theorem rX12_token_208 {S' : mT} {v2 : Int32} {s0 : Int32} {S : mT} (hf : fX12_token_208 v2 s0 S = some S') : Fr (inM 999999 LX12_token) S S' := by
  unfold fX12_token_208 at hf
  obtain ⟨-, hf⟩ := grd_ex hf
  obtain ⟨S38, eS38, hf⟩ := bnd_ex hf
  have F : Fr (inM 999999 LX12_token) S S38 := by
    rw [eS38]
    exact Fr.sI (Fr.rfl (inM 999999 LX12_token) _) rfl
  exact F.trans (rX12_token_232 hf)
theorem rX12_token_203 {S' : mT} {v2 : Int32} {S : mT} (hf : fX12_token_203 v2 S = some S') : Fr (inM 999999 LX12_token) S S' := by
  unfold fX12_token_203 at hf
  exact (Fr.rfl (inM 999999 LX12_token) _).trans (rX12_token_208 hf)
theorem rX12_token_144 {S' : mT} : ∀ (k : Nat) (v2 : Int32) (S : mT), fX12_token_144 k v2 S = some S' → Fr (inM 999999 LX12_token) S S' := by
  intro k
  induction k with
  | zero =>
    intro v2 S hf
    cases hf
  | succ k ih =>
    intro v2 S hf
    unfold fX12_token_144 at hf
    obtain ⟨x20, S19, hq, hf⟩ := bndC_ex hf
    have F := (Fr.rfl (inM 999999 LX12_token) _).trans ((rX12_here hq).mono rfl (fun _ => rfl))
    obtain ⟨x22, S21, hq, hf⟩ := bndC_ex hf
    have F := F.trans ((rX12_isDigit hq).mono rfl (fun _ => rfl))
    by_cases hc : x22 = 0
    · rw [if_pos hc] at hf
      by_cases hc : (4 : Int32) < v2
      · rw [if_pos hc] at hf
        exact F.trans (rX12_token_203 hf)
      · rw [if_neg hc] at hf
        obtain ⟨x24, S23, hq, hf⟩ := bndC_ex hf
        have F := F.trans ((rX12_here hq).mono rfl (fun _ => rfl))
        obtain ⟨x26, S25, hq, hf⟩ := bndC_ex hf
        have F := F.trans ((rX12_isLetter hq).mono rfl (fun _ => rfl))
        by_cases hc : x26 = 0
        · rw [if_pos hc] at hf
          exact F.trans (rX12_token_208 hf)
        · rw [if_neg hc] at hf
          exact F.trans (rX12_token_203 hf)
    · rw [if_neg hc] at hf
      by_cases hc : (4 : Int32) ≤ v2
      · rw [if_pos hc] at hf
        exact F.trans (rX12_token_180 ih hf)
      · rw [if_neg hc] at hf
        obtain ⟨-, hf⟩ := grd_ex hf
        obtain ⟨x28, S27, hq, hf⟩ := bndC_ex hf
        have F := F.trans ((rX12_here hq).mono rfl (fun _ => rfl))
        obtain ⟨-, hf⟩ := grd_ex hf
        obtain ⟨S29, eS29, hf⟩ := bnd_ex hf
        have F : Fr (inM 999999 LX12_token) S S29 := by
          rw [eS29]
          exact Fr.sI F rfl
        exact F.trans (rX12_token_180 ih hf)
theorem rX12_token_229 {S' : mT} {v2 : Int32} {s0 : Int32} {S : mT} (hf : fX12_token_229 v2 s0 S = some S') : Fr (inM 999999 LX12_token) S S' := by
  unfold fX12_token_229 at hf
  obtain ⟨-, hf⟩ := grd_ex hf
  obtain ⟨S18, eS18, hf⟩ := bnd_ex hf
  have F : Fr (inM 999999 LX12_token) S S18 := by
    rw [eS18]
    exact Fr.sI (Fr.rfl (inM 999999 LX12_token) _) rfl
  exact F.trans (rX12_token_232 hf)
theorem rX12_token_0 {S' : mT} : ∀ (k : Nat) (S : mT), fX12_token_0 k S = some S' → Fr (inM 999999 LX12_token) S S' := by
  intro k
  induction k with
  | zero =>
    intro S hf
    cases hf
  | succ k ih =>
    intro S hf
    unfold fX12_token_0 at hf
    obtain ⟨x2, S1, hq, hf⟩ := bndC_ex hf
    have F := (Fr.rfl (inM 999999 LX12_token) _).trans ((rX12_here hq).mono rfl (fun _ => rfl))
    by_cases hc : x2 = (32 : Int32)
    · rw [if_pos hc] at hf
      exact F.trans (rX12_token_20 ih hf)
    · rw [if_neg hc] at hf
      obtain ⟨x4, S3, hq, hf⟩ := bndC_ex hf
      have F := F.trans ((rX12_here hq).mono rfl (fun _ => rfl))
      by_cases hc : x4 = (10 : Int32)
      · rw [if_pos hc] at hf
        exact F.trans (rX12_token_20 ih hf)
      · rw [if_neg hc] at hf
        obtain ⟨-, hf⟩ := grd_ex hf
        obtain ⟨S5, eS5, hf⟩ := bnd_ex hf
        have F : Fr (inM 999999 LX12_token) S S5 := by
          rw [eS5]
          exact Fr.sI F rfl
        obtain ⟨x7, S6, hq, hf⟩ := bndC_ex hf
        have F := F.trans ((rX12_here hq).mono rfl (fun _ => rfl))
        obtain ⟨-, hf⟩ := grd_ex hf
        obtain ⟨S8, eS8, hf⟩ := bnd_ex hf
        have F : Fr (inM 999999 LX12_token) S S8 := by
          rw [eS8]
          exact Fr.sJ F rfl
        obtain ⟨-, hf⟩ := grd_ex hf
        obtain ⟨S9, eS9, hf⟩ := bnd_ex hf
        have F : Fr (inM 999999 LX12_token) S S9 := by
          rw [eS9]
          exact Fr.sI F rfl
        by_cases hc : 0 ≤ x7
        · rw [if_pos hc] at hf
          obtain ⟨x11, S10, hq, hf⟩ := bndC_ex hf
          have F := F.trans ((rX12_isLetter hq).mono rfl (fun _ => rfl))
          by_cases hc : x11 = 0
          · rw [if_pos hc] at hf
            obtain ⟨x13, S12, hq, hf⟩ := bndC_ex hf
            have F := F.trans ((rX12_isDigit hq).mono rfl (fun _ => rfl))
            by_cases hc : x13 = 0
            · rw [if_pos hc] at hf
              obtain ⟨x15, S14, hq, hf⟩ := bndC_ex hf
              have F := F.trans ((rX12_isSign hq).mono rfl (fun _ => rfl))
              by_cases hc : x15 = 0
              · rw [if_pos hc] at hf
                exact F.trans (rX12_token_229 hf)
              · rw [if_neg hc] at hf
                exact F.trans (rX12_token_229 hf)
            · rw [if_neg hc] at hf
              exact F.trans (rX12_token_144 _ _ _ hf)
          · rw [if_neg hc] at hf
            exact F.trans (rX12_token_78 _ _ _ hf)
        · rw [if_neg hc] at hf
          obtain ⟨-, hf⟩ := grd_ex hf
          obtain ⟨S16, eS16, hf⟩ := bnd_ex hf
          have F : Fr (inM 999999 LX12_token) S S16 := by
            rw [eS16]
            exact Fr.sI F rfl
          exact F.trans (rX12_token_232 hf)
theorem rX12_token {S S' : mT} (hf : fX12_token S = some S') : Fr (inM 999999 LX12_token) S S' := rX12_token_0 _ _ hf
abbrev LX12_isFull : List (Nat × Nat × Option Nat) := [(999999, 999999, none)]
theorem rX12_isFull_23 {S' : mT} {r : Int32} {s0 : Int32} {S : mT} (hf : fX12_isFull_23 s0 S = some (r, S')) : Fr (inM 999999 LX12_isFull) S S' := by
  unfold fX12_isFull_23 at hf
  obtain ⟨-, hf⟩ := grd_ex hf
  cases hf
  exact (Fr.rfl (inM 999999 LX12_isFull) _)
theorem rX12_isFull_18 {S' : mT} {r : Int32} {S : mT} (hf : fX12_isFull_18 S = some (r, S')) : Fr (inM 999999 LX12_isFull) S S' := by
  unfold fX12_isFull_18 at hf
  exact (Fr.rfl (inM 999999 LX12_isFull) _).trans (rX12_isFull_23 hf)
theorem rX12_isFull_0 {S' : mT} {r : Int32} {S : mT} (hf : fX12_isFull S = some (r, S')) : Fr (inM 999999 LX12_isFull) S S' := by
  unfold fX12_isFull at hf
  obtain ⟨-, hf⟩ := grd_ex hf
  by_cases hc : (S.1 187 23) = (90 : Int32)
  · rw [if_pos hc] at hf
    exact (Fr.rfl (inM 999999 LX12_isFull) _).trans (rX12_isFull_18 hf)
  · rw [if_neg hc] at hf
    obtain ⟨-, hf⟩ := grd_ex hf
    by_cases hc : (S.1 187 25) = (30 : Int32)
    · rw [if_pos hc] at hf
      exact (Fr.rfl (inM 999999 LX12_isFull) _).trans (rX12_isFull_18 hf)
    · rw [if_neg hc] at hf
      exact (Fr.rfl (inM 999999 LX12_isFull) _).trans (rX12_isFull_23 hf)
theorem rX12_isFull {S S' : mT} {r : Int32} (hf : fX12_isFull S = some (r, S')) : Fr (inM 999999 LX12_isFull) S S' := rX12_isFull_0 hf
abbrev LX12_mayNot : List (Nat × Nat × Option Nat) := [(999999, 999999, none)]
theorem rX12_mayNot_46 {S' : mT} {r : Int32} {s0 : Int32} {S : mT} (hf : fX12_mayNot_46 s0 S = some (r, S')) : Fr (inM 999999 LX12_mayNot) S S' := by
  unfold fX12_mayNot_46 at hf
  obtain ⟨-, hf⟩ := grd_ex hf
  cases hf
  exact (Fr.rfl (inM 999999 LX12_mayNot) _)
theorem rX12_mayNot_41 {S' : mT} {r : Int32} {S : mT} (hf : fX12_mayNot_41 S = some (r, S')) : Fr (inM 999999 LX12_mayNot) S S' := by
  unfold fX12_mayNot_41 at hf
  exact (Fr.rfl (inM 999999 LX12_mayNot) _).trans (rX12_mayNot_46 hf)
theorem rX12_mayNot_0 {S' : mT} {r : Int32} {S : mT} (hf : fX12_mayNot S = some (r, S')) : Fr (inM 999999 LX12_mayNot) S S' := by
  unfold fX12_mayNot at hf
  obtain ⟨-, hf⟩ := grd_ex hf
  by_cases hc : (S.1 187 22) = 0
  · rw [if_pos hc] at hf
    exact (Fr.rfl (inM 999999 LX12_mayNot) _).trans (rX12_mayNot_41 hf)
  · rw [if_neg hc] at hf
    obtain ⟨-, hf⟩ := grd_ex hf
    by_cases hc : (S.1 196 (mIx ((S.1 187 22) - (1 : Int32)))) = (20 : Int32)
    · rw [if_pos hc] at hf
      exact (Fr.rfl (inM 999999 LX12_mayNot) _).trans (rX12_mayNot_41 hf)
    · rw [if_neg hc] at hf
      obtain ⟨-, hf⟩ := grd_ex hf
      obtain ⟨x2, S1, hq, hf⟩ := bndC_ex hf
      have F := (Fr.rfl (inM 999999 LX12_mayNot) _).trans ((rX12_tight hq).mono rfl (fun _ => rfl))
      by_cases hc : (4 : Int32) ≤ x2
      · rw [if_pos hc] at hf
        exact F.trans (rX12_mayNot_46 hf)
      · rw [if_neg hc] at hf
        exact F.trans (rX12_mayNot_41 hf)
theorem rX12_mayNot {S S' : mT} {r : Int32} (hf : fX12_mayNot S = some (r, S')) : Fr (inM 999999 LX12_mayNot) S S' := rX12_mayNot_0 hf
abbrev LX12_openUp : List (Nat × Nat × Option Nat) := [(999999, 999999, none), (187, 187, some 4), (187, 187, some 6), (187, 187, some 7), (187, 187, some 8), (187, 187, some 9), (187, 187, some 22), (187, 187, some 26), (196, 196, none)]
theorem rX12_openUp_41 {S' : mT} {S : mT} (hf : fX12_openUp_41 S = some S') : Fr (inM 999999 LX12_openUp) S S' := by
  unfold fX12_openUp_41 at hf
  cases hf
  exact (Fr.rfl (inM 999999 LX12_openUp) _)
theorem rX12_openUp_0 {S' : mT} {v1 : Int32} {S : mT} (hf : fX12_openUp v1 S = some S') : Fr (inM 999999 LX12_openUp) S S' := by
  unfold fX12_openUp at hf
  obtain ⟨-, hf⟩ := grd_ex hf
  obtain ⟨S1, eS1, hf⟩ := bnd_ex hf
  have F : Fr (inM 999999 LX12_openUp) S S1 := by
    rw [eS1]
    exact Fr.sI (Fr.rfl (inM 999999 LX12_openUp) _) rfl
  obtain ⟨-, hf⟩ := grd_ex hf
  obtain ⟨S2, eS2, hf⟩ := bnd_ex hf
  have F : Fr (inM 999999 LX12_openUp) S S2 := by
    rw [eS2]
    exact Fr.sI F rfl
  obtain ⟨-, hf⟩ := grd_ex hf
  obtain ⟨S3, eS3, hf⟩ := bnd_ex hf
  have F : Fr (inM 999999 LX12_openUp) S S3 := by
    rw [eS3]
    exact Fr.sI F rfl
  obtain ⟨-, hf⟩ := grd_ex hf
  by_cases hc : (S3.1 187 2) = 0
  · rw [if_pos hc] at hf
    obtain ⟨S4, hq, hf⟩ := bndV_ex hf
    have F := F.trans ((rX12_token hq).mono rfl (fun _ => rfl))
    exact F.trans (rX12_openUp_41 hf)
  · rw [if_neg hc] at hf
    exact F.trans (rX12_openUp_41 hf)
theorem rX12_openUp {v1 : Int32} {S S' : mT} (hf : fX12_openUp v1 S = some S') : Fr (inM 999999 LX12_openUp) S S' := rX12_openUp_0 hf
abbrev LX12_wrong : List (Nat × Nat × Option Nat) := [(999999, 999999, none), (187, 187, some 2), (187, 187, some 3)]
theorem rX12_wrong_22 {S' : mT} {s0 : Int32} {S : mT} (hf : fX12_wrong_22 s0 S = some S') : Fr (inM 999999 LX12_wrong) S S' := by
  unfold fX12_wrong_22 at hf
  obtain ⟨-, hf⟩ := grd_ex hf
  obtain ⟨S1, eS1, hf⟩ := bnd_ex hf
  have F : Fr (inM 999999 LX12_wrong) S S1 := by
    rw [eS1]
    exact Fr.sI (Fr.rfl (inM 999999 LX12_wrong) _) rfl
  obtain ⟨-, hf⟩ := grd_ex hf
  obtain ⟨S2, eS2, hf⟩ := bnd_ex hf
  have F : Fr (inM 999999 LX12_wrong) S S2 := by
    rw [eS2]
    exact Fr.sI F rfl
  cases hf
  exact F
theorem rX12_wrong_0 {S' : mT} {v1 : Int32} {S : mT} (hf : fX12_wrong v1 S = some S') : Fr (inM 999999 LX12_wrong) S S' := by
  unfold fX12_wrong at hf
  obtain ⟨-, hf⟩ := grd_ex hf
  by_cases hc : (S.1 187 2) ≤ 0
  · rw [if_pos hc] at hf
    obtain ⟨-, hf⟩ := grd_ex hf
    by_cases hc : (S.1 187 6) = (3 : Int32)
    · rw [if_pos hc] at hf
      exact (Fr.rfl (inM 999999 LX12_wrong) _).trans (rX12_wrong_22 hf)
    · rw [if_neg hc] at hf
      exact (Fr.rfl (inM 999999 LX12_wrong) _).trans (rX12_wrong_22 hf)
  · rw [if_neg hc] at hf
    cases hf
    exact (Fr.rfl (inM 999999 LX12_wrong) _)
theorem rX12_wrong {v1 : Int32} {S S' : mT} (hf : fX12_wrong v1 S = some S') : Fr (inM 999999 LX12_wrong) S S' := rX12_wrong_0 hf
end GF
