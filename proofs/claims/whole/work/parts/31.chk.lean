/-! The checks of the cells. -/
theorem kO_of {r c : Nat} (h : sT r = .inl c) (hr : Nat.blt r 233 = true) : kO r c = true := by
  unfold kO kAO
  rw [h, hr]
  show Nat.beq c c = true
  exact Nat.beq_refl c
theorem kI_of {r n : Nat} (h : sT r = .inr (.int, n)) (hr : Nat.blt r 233 = true) (x : Int32) : kI r x = mIn x n := by
  unfold kI kAI
  rw [h, hr]
  rfl
theorem kJ_of {r n : Nat} (h : sT r = .inr (.long, n)) (hr : Nat.blt r 233 = true) (x : Int32) : kJ r x = mIn x n := by
  unfold kJ kAJ
  rw [h, hr]
  rfl
theorem kB_of1 {r n : Nat} (h : sT r = .inr (.byte, n)) (hr : Nat.blt r 233 = true) (x : Int32) : kB r x = mIn x n := by
  unfold kB kAB
  rw [h, hr]
  rfl
theorem kB_of2 {r n : Nat} (h : sT r = .inr (.boolean, n)) (hr : Nat.blt r 233 = true) (x : Int32) : kB r x = mIn x n := by
  unfold kB kAB
  rw [h, hr]
  rfl
theorem kR_of {r n : Nat} (h : sT r = .inr (.array .int, n)) (hr : Nat.blt r 233 = true) (x : Int32) : kR r x = mIn x n := by
  unfold kR kAR
  rw [h, hr]
  rfl
theorem kN_of1 {r n : Nat} (h : sT r = .inr (.byte, n)) (x : Int32) : kN r x = vp_nar .byte x := by
  unfold kN kNar
  rw [h]
theorem kN_of2 {r n : Nat} (h : sT r = .inr (.boolean, n)) (x : Int32) : kN r x = vp_nar .boolean x := by
  unfold kN kNar
  rw [h]
theorem kL_of {r n : Nat} (h : sT r = .inr (.int, n)) (hr : Nat.blt r 233 = true) : kAL 233 (sT r) r = true := by
  unfold kAL
  rw [h, hr]
  rfl
theorem kC_of {a d n m : Nat} (h : sT a = .inr (.int, n)) (ha : Nat.blt a 233 = true) (h2 : sT d = .inr (.int, m)) (hd : Nat.blt d 233 = true) (sp dp k : Int32) : kC a d sp dp k = cpOk n m sp dp k := by
  unfold kC
  rw [kL_of h ha, kL_of h2 hd, h, h2]
  rfl
theorem blt_of {a n : Nat} (h : a < n) : Nat.blt a n = true := Nat.ble_eq_true_of_le h
theorem kO_0 : kO 0 11 = true := kO_of (by decide +kernel) (by decide +kernel)
theorem kO_1 : kO 1 4 = true := kO_of (by decide +kernel) (by decide +kernel)
theorem kB_2 (x : Int32) : kB 2 x = mIn x 1600 := kB_of1 (by decide +kernel) (by decide +kernel) x
theorem kN_2 (x : Int32) : kN 2 x = vp_nar .byte x := kN_of1 (n := 1600) (by decide +kernel) x
theorem kO_3 : kO 3 8 = true := kO_of (by decide +kernel) (by decide +kernel)
theorem kJ_4 (x : Int32) : kJ 4 x = mIn x 5 := kJ_of (by decide +kernel) (by decide +kernel) x
theorem s_5 : sT 5 = .inr (.int, 5) := by decide +kernel
theorem kI_5 (x : Int32) : kI 5 x = mIn x 5 := kI_of s_5 (by decide +kernel) x
theorem s_6 : sT 6 = .inr (.int, 5) := by decide +kernel
theorem kI_6 (x : Int32) : kI 6 x = mIn x 5 := kI_of s_6 (by decide +kernel) x
theorem s_7 : sT 7 = .inr (.int, 5) := by decide +kernel
theorem kI_7 (x : Int32) : kI 7 x = mIn x 5 := kI_of s_7 (by decide +kernel) x
theorem s_8 : sT 8 = .inr (.int, 5) := by decide +kernel
theorem kI_8 (x : Int32) : kI 8 x = mIn x 5 := kI_of s_8 (by decide +kernel) x
theorem kO_9 : kO 9 0 = true := kO_of (by decide +kernel) (by decide +kernel)
theorem s_10 : sT 10 = .inr (.int, 280) := by decide +kernel
theorem kI_10 (x : Int32) : kI 10 x = mIn x 280 := kI_of s_10 (by decide +kernel) x
theorem s_11 : sT 11 = .inr (.int, 30) := by decide +kernel
theorem kI_11 (x : Int32) : kI 11 x = mIn x 30 := kI_of s_11 (by decide +kernel) x
theorem kO_12 : kO 12 0 = true := kO_of (by decide +kernel) (by decide +kernel)
theorem s_13 : sT 13 = .inr (.int, 280) := by decide +kernel
theorem kI_13 (x : Int32) : kI 13 x = mIn x 280 := kI_of s_13 (by decide +kernel) x
theorem s_14 : sT 14 = .inr (.int, 30) := by decide +kernel
theorem kI_14 (x : Int32) : kI 14 x = mIn x 30 := kI_of s_14 (by decide +kernel) x
theorem kO_15 : kO 15 0 = true := kO_of (by decide +kernel) (by decide +kernel)
theorem s_16 : sT 16 = .inr (.int, 280) := by decide +kernel
theorem kI_16 (x : Int32) : kI 16 x = mIn x 280 := kI_of s_16 (by decide +kernel) x
theorem s_17 : sT 17 = .inr (.int, 30) := by decide +kernel
theorem kI_17 (x : Int32) : kI 17 x = mIn x 30 := kI_of s_17 (by decide +kernel) x
theorem s_18 : sT 18 = .inr (.int, 6) := by decide +kernel
theorem kI_18 (x : Int32) : kI 18 x = mIn x 6 := kI_of s_18 (by decide +kernel) x
theorem kO_19 : kO 19 8 = true := kO_of (by decide +kernel) (by decide +kernel)
theorem kJ_20 (x : Int32) : kJ 20 x = mIn x 5 := kJ_of (by decide +kernel) (by decide +kernel) x
theorem s_21 : sT 21 = .inr (.int, 5) := by decide +kernel
theorem kI_21 (x : Int32) : kI 21 x = mIn x 5 := kI_of s_21 (by decide +kernel) x
theorem s_22 : sT 22 = .inr (.int, 5) := by decide +kernel
theorem kI_22 (x : Int32) : kI 22 x = mIn x 5 := kI_of s_22 (by decide +kernel) x
theorem s_23 : sT 23 = .inr (.int, 5) := by decide +kernel
theorem kI_23 (x : Int32) : kI 23 x = mIn x 5 := kI_of s_23 (by decide +kernel) x
theorem s_24 : sT 24 = .inr (.int, 5) := by decide +kernel
theorem kI_24 (x : Int32) : kI 24 x = mIn x 5 := kI_of s_24 (by decide +kernel) x
theorem kO_25 : kO 25 0 = true := kO_of (by decide +kernel) (by decide +kernel)
theorem s_26 : sT 26 = .inr (.int, 280) := by decide +kernel
theorem kI_26 (x : Int32) : kI 26 x = mIn x 280 := kI_of s_26 (by decide +kernel) x
theorem s_27 : sT 27 = .inr (.int, 30) := by decide +kernel
theorem kI_27 (x : Int32) : kI 27 x = mIn x 30 := kI_of s_27 (by decide +kernel) x
theorem kO_28 : kO 28 0 = true := kO_of (by decide +kernel) (by decide +kernel)
theorem s_29 : sT 29 = .inr (.int, 280) := by decide +kernel
theorem kI_29 (x : Int32) : kI 29 x = mIn x 280 := kI_of s_29 (by decide +kernel) x
theorem s_30 : sT 30 = .inr (.int, 30) := by decide +kernel
theorem kI_30 (x : Int32) : kI 30 x = mIn x 30 := kI_of s_30 (by decide +kernel) x
theorem kO_31 : kO 31 0 = true := kO_of (by decide +kernel) (by decide +kernel)
theorem s_32 : sT 32 = .inr (.int, 280) := by decide +kernel
theorem kI_32 (x : Int32) : kI 32 x = mIn x 280 := kI_of s_32 (by decide +kernel) x
theorem s_33 : sT 33 = .inr (.int, 30) := by decide +kernel
theorem kI_33 (x : Int32) : kI 33 x = mIn x 30 := kI_of s_33 (by decide +kernel) x
theorem s_34 : sT 34 = .inr (.int, 6) := by decide +kernel
theorem kI_34 (x : Int32) : kI 34 x = mIn x 6 := kI_of s_34 (by decide +kernel) x
theorem s_35 : sT 35 = .inr (.int, 17) := by decide +kernel
theorem kI_35 (x : Int32) : kI 35 x = mIn x 17 := kI_of s_35 (by decide +kernel) x
theorem s_36 : sT 36 = .inr (.int, 17) := by decide +kernel
theorem kI_36 (x : Int32) : kI 36 x = mIn x 17 := kI_of s_36 (by decide +kernel) x
theorem kO_37 : kO 37 2 = true := kO_of (by decide +kernel) (by decide +kernel)
theorem kR_38 (x : Int32) : kR 38 x = mIn x 41 := kR_of (by decide +kernel) (by decide +kernel) x
theorem rw_38 {j : Nat} (h : j < 41) : rowR 38 j = 39 + j := by
  have e : rowR 38 j = cond (Nat.blt j 41) (39 + j) NUL := rfl
  rw [e, show Nat.blt j 41 = true from Nat.ble_eq_true_of_le h]
  rfl
theorem st_38 : ∀ j, j < 41 → sT (39 + j) = .inr (.int, 17) := by decide +kernel
theorem ki_38 {j : Nat} (h : j < 41) (x : Int32) : kI (39 + j) x = mIn x 17 := kI_of (st_38 j h) (blt_of (by omega)) x
theorem s_39 : sT 39 = .inr (.int, 17) := by decide +kernel
theorem kI_39 (x : Int32) : kI 39 x = mIn x 17 := kI_of s_39 (by decide +kernel) x
theorem s_40 : sT 40 = .inr (.int, 17) := by decide +kernel
theorem kI_40 (x : Int32) : kI 40 x = mIn x 17 := kI_of s_40 (by decide +kernel) x
theorem s_41 : sT 41 = .inr (.int, 17) := by decide +kernel
theorem kI_41 (x : Int32) : kI 41 x = mIn x 17 := kI_of s_41 (by decide +kernel) x
theorem s_42 : sT 42 = .inr (.int, 17) := by decide +kernel
theorem kI_42 (x : Int32) : kI 42 x = mIn x 17 := kI_of s_42 (by decide +kernel) x
theorem s_43 : sT 43 = .inr (.int, 17) := by decide +kernel
theorem kI_43 (x : Int32) : kI 43 x = mIn x 17 := kI_of s_43 (by decide +kernel) x
theorem s_44 : sT 44 = .inr (.int, 17) := by decide +kernel
theorem kI_44 (x : Int32) : kI 44 x = mIn x 17 := kI_of s_44 (by decide +kernel) x
theorem s_45 : sT 45 = .inr (.int, 17) := by decide +kernel
theorem kI_45 (x : Int32) : kI 45 x = mIn x 17 := kI_of s_45 (by decide +kernel) x
theorem s_46 : sT 46 = .inr (.int, 17) := by decide +kernel
theorem kI_46 (x : Int32) : kI 46 x = mIn x 17 := kI_of s_46 (by decide +kernel) x
theorem s_47 : sT 47 = .inr (.int, 17) := by decide +kernel
theorem kI_47 (x : Int32) : kI 47 x = mIn x 17 := kI_of s_47 (by decide +kernel) x
theorem s_48 : sT 48 = .inr (.int, 17) := by decide +kernel
theorem kI_48 (x : Int32) : kI 48 x = mIn x 17 := kI_of s_48 (by decide +kernel) x
theorem s_49 : sT 49 = .inr (.int, 17) := by decide +kernel
theorem kI_49 (x : Int32) : kI 49 x = mIn x 17 := kI_of s_49 (by decide +kernel) x
theorem s_50 : sT 50 = .inr (.int, 17) := by decide +kernel
theorem kI_50 (x : Int32) : kI 50 x = mIn x 17 := kI_of s_50 (by decide +kernel) x
theorem s_51 : sT 51 = .inr (.int, 17) := by decide +kernel
theorem kI_51 (x : Int32) : kI 51 x = mIn x 17 := kI_of s_51 (by decide +kernel) x
theorem s_52 : sT 52 = .inr (.int, 17) := by decide +kernel
theorem kI_52 (x : Int32) : kI 52 x = mIn x 17 := kI_of s_52 (by decide +kernel) x
theorem s_53 : sT 53 = .inr (.int, 17) := by decide +kernel
theorem kI_53 (x : Int32) : kI 53 x = mIn x 17 := kI_of s_53 (by decide +kernel) x
theorem s_54 : sT 54 = .inr (.int, 17) := by decide +kernel
theorem kI_54 (x : Int32) : kI 54 x = mIn x 17 := kI_of s_54 (by decide +kernel) x
theorem s_55 : sT 55 = .inr (.int, 17) := by decide +kernel
theorem kI_55 (x : Int32) : kI 55 x = mIn x 17 := kI_of s_55 (by decide +kernel) x
theorem s_56 : sT 56 = .inr (.int, 17) := by decide +kernel
theorem kI_56 (x : Int32) : kI 56 x = mIn x 17 := kI_of s_56 (by decide +kernel) x
theorem s_57 : sT 57 = .inr (.int, 17) := by decide +kernel
theorem kI_57 (x : Int32) : kI 57 x = mIn x 17 := kI_of s_57 (by decide +kernel) x
theorem s_58 : sT 58 = .inr (.int, 17) := by decide +kernel
theorem kI_58 (x : Int32) : kI 58 x = mIn x 17 := kI_of s_58 (by decide +kernel) x
theorem s_59 : sT 59 = .inr (.int, 17) := by decide +kernel
theorem kI_59 (x : Int32) : kI 59 x = mIn x 17 := kI_of s_59 (by decide +kernel) x
theorem s_60 : sT 60 = .inr (.int, 17) := by decide +kernel
theorem kI_60 (x : Int32) : kI 60 x = mIn x 17 := kI_of s_60 (by decide +kernel) x
theorem s_61 : sT 61 = .inr (.int, 17) := by decide +kernel
theorem kI_61 (x : Int32) : kI 61 x = mIn x 17 := kI_of s_61 (by decide +kernel) x
theorem s_62 : sT 62 = .inr (.int, 17) := by decide +kernel
theorem kI_62 (x : Int32) : kI 62 x = mIn x 17 := kI_of s_62 (by decide +kernel) x
theorem s_63 : sT 63 = .inr (.int, 17) := by decide +kernel
theorem kI_63 (x : Int32) : kI 63 x = mIn x 17 := kI_of s_63 (by decide +kernel) x
theorem s_64 : sT 64 = .inr (.int, 17) := by decide +kernel
theorem kI_64 (x : Int32) : kI 64 x = mIn x 17 := kI_of s_64 (by decide +kernel) x
theorem s_65 : sT 65 = .inr (.int, 17) := by decide +kernel
theorem kI_65 (x : Int32) : kI 65 x = mIn x 17 := kI_of s_65 (by decide +kernel) x
theorem s_66 : sT 66 = .inr (.int, 17) := by decide +kernel
theorem kI_66 (x : Int32) : kI 66 x = mIn x 17 := kI_of s_66 (by decide +kernel) x
theorem s_67 : sT 67 = .inr (.int, 17) := by decide +kernel
theorem kI_67 (x : Int32) : kI 67 x = mIn x 17 := kI_of s_67 (by decide +kernel) x
theorem s_68 : sT 68 = .inr (.int, 17) := by decide +kernel
theorem kI_68 (x : Int32) : kI 68 x = mIn x 17 := kI_of s_68 (by decide +kernel) x
theorem s_69 : sT 69 = .inr (.int, 17) := by decide +kernel
theorem kI_69 (x : Int32) : kI 69 x = mIn x 17 := kI_of s_69 (by decide +kernel) x
theorem s_70 : sT 70 = .inr (.int, 17) := by decide +kernel
theorem kI_70 (x : Int32) : kI 70 x = mIn x 17 := kI_of s_70 (by decide +kernel) x
theorem s_71 : sT 71 = .inr (.int, 17) := by decide +kernel
theorem kI_71 (x : Int32) : kI 71 x = mIn x 17 := kI_of s_71 (by decide +kernel) x
theorem s_72 : sT 72 = .inr (.int, 17) := by decide +kernel
theorem kI_72 (x : Int32) : kI 72 x = mIn x 17 := kI_of s_72 (by decide +kernel) x
theorem s_73 : sT 73 = .inr (.int, 17) := by decide +kernel
theorem kI_73 (x : Int32) : kI 73 x = mIn x 17 := kI_of s_73 (by decide +kernel) x
theorem s_74 : sT 74 = .inr (.int, 17) := by decide +kernel
theorem kI_74 (x : Int32) : kI 74 x = mIn x 17 := kI_of s_74 (by decide +kernel) x
theorem s_75 : sT 75 = .inr (.int, 17) := by decide +kernel
theorem kI_75 (x : Int32) : kI 75 x = mIn x 17 := kI_of s_75 (by decide +kernel) x
theorem s_76 : sT 76 = .inr (.int, 17) := by decide +kernel
theorem kI_76 (x : Int32) : kI 76 x = mIn x 17 := kI_of s_76 (by decide +kernel) x
theorem s_77 : sT 77 = .inr (.int, 17) := by decide +kernel
theorem kI_77 (x : Int32) : kI 77 x = mIn x 17 := kI_of s_77 (by decide +kernel) x
theorem s_78 : sT 78 = .inr (.int, 17) := by decide +kernel
theorem kI_78 (x : Int32) : kI 78 x = mIn x 17 := kI_of s_78 (by decide +kernel) x
theorem s_79 : sT 79 = .inr (.int, 17) := by decide +kernel
theorem kI_79 (x : Int32) : kI 79 x = mIn x 17 := kI_of s_79 (by decide +kernel) x
theorem kR_80 (x : Int32) : kR 80 x = mIn x 3 := kR_of (by decide +kernel) (by decide +kernel) x
theorem rw_80 {j : Nat} (h : j < 3) : rowR 80 j = 81 + j := by
  have e : rowR 80 j = cond (Nat.blt j 3) (81 + j) NUL := rfl
  rw [e, show Nat.blt j 3 = true from Nat.ble_eq_true_of_le h]
  rfl
theorem st_80 : ∀ j, j < 3 → sT (81 + j) = .inr (.int, 17) := by decide +kernel
theorem ki_80 {j : Nat} (h : j < 3) (x : Int32) : kI (81 + j) x = mIn x 17 := kI_of (st_80 j h) (blt_of (by omega)) x
theorem s_81 : sT 81 = .inr (.int, 17) := by decide +kernel
theorem kI_81 (x : Int32) : kI 81 x = mIn x 17 := kI_of s_81 (by decide +kernel) x
theorem s_82 : sT 82 = .inr (.int, 17) := by decide +kernel
theorem kI_82 (x : Int32) : kI 82 x = mIn x 17 := kI_of s_82 (by decide +kernel) x
theorem s_83 : sT 83 = .inr (.int, 17) := by decide +kernel
theorem kI_83 (x : Int32) : kI 83 x = mIn x 17 := kI_of s_83 (by decide +kernel) x
theorem kB_84 (x : Int32) : kB 84 x = mIn x 3 := kB_of2 (by decide +kernel) (by decide +kernel) x
theorem kN_84 (x : Int32) : kN 84 x = vp_nar .boolean x := kN_of2 (n := 3) (by decide +kernel) x
theorem kO_85 : kO 85 1 = true := kO_of (by decide +kernel) (by decide +kernel)
theorem kR_86 (x : Int32) : kR 86 x = mIn x 5 := kR_of (by decide +kernel) (by decide +kernel) x
theorem rw_86 {j : Nat} (h : j < 5) : rowR 86 j = 87 + j := by
  have e : rowR 86 j = cond (Nat.blt j 5) (87 + j) NUL := rfl
  rw [e, show Nat.blt j 5 = true from Nat.ble_eq_true_of_le h]
  rfl
theorem st_86 : ∀ j, j < 5 → sT (87 + j) = .inr (.int, 8) := by decide +kernel
theorem ki_86 {j : Nat} (h : j < 5) (x : Int32) : kI (87 + j) x = mIn x 8 := kI_of (st_86 j h) (blt_of (by omega)) x
theorem s_87 : sT 87 = .inr (.int, 8) := by decide +kernel
theorem kI_87 (x : Int32) : kI 87 x = mIn x 8 := kI_of s_87 (by decide +kernel) x
theorem s_88 : sT 88 = .inr (.int, 8) := by decide +kernel
theorem kI_88 (x : Int32) : kI 88 x = mIn x 8 := kI_of s_88 (by decide +kernel) x
theorem s_89 : sT 89 = .inr (.int, 8) := by decide +kernel
theorem kI_89 (x : Int32) : kI 89 x = mIn x 8 := kI_of s_89 (by decide +kernel) x
theorem s_90 : sT 90 = .inr (.int, 8) := by decide +kernel
theorem kI_90 (x : Int32) : kI 90 x = mIn x 8 := kI_of s_90 (by decide +kernel) x
theorem s_91 : sT 91 = .inr (.int, 8) := by decide +kernel
theorem kI_91 (x : Int32) : kI 91 x = mIn x 8 := kI_of s_91 (by decide +kernel) x
theorem kR_92 (x : Int32) : kR 92 x = mIn x 6 := kR_of (by decide +kernel) (by decide +kernel) x
theorem rw_92 {j : Nat} (h : j < 6) : rowR 92 j = 93 + j := by
  have e : rowR 92 j = cond (Nat.blt j 6) (93 + j) NUL := rfl
  rw [e, show Nat.blt j 6 = true from Nat.ble_eq_true_of_le h]
  rfl
theorem st_92 : ∀ j, j < 6 → sT (93 + j) = .inr (.int, 36) := by decide +kernel
theorem ki_92 {j : Nat} (h : j < 6) (x : Int32) : kI (93 + j) x = mIn x 36 := kI_of (st_92 j h) (blt_of (by omega)) x
theorem s_93 : sT 93 = .inr (.int, 36) := by decide +kernel
theorem kI_93 (x : Int32) : kI 93 x = mIn x 36 := kI_of s_93 (by decide +kernel) x
theorem s_94 : sT 94 = .inr (.int, 36) := by decide +kernel
theorem kI_94 (x : Int32) : kI 94 x = mIn x 36 := kI_of s_94 (by decide +kernel) x
theorem s_95 : sT 95 = .inr (.int, 36) := by decide +kernel
theorem kI_95 (x : Int32) : kI 95 x = mIn x 36 := kI_of s_95 (by decide +kernel) x
theorem s_96 : sT 96 = .inr (.int, 36) := by decide +kernel
theorem kI_96 (x : Int32) : kI 96 x = mIn x 36 := kI_of s_96 (by decide +kernel) x
theorem s_97 : sT 97 = .inr (.int, 36) := by decide +kernel
theorem kI_97 (x : Int32) : kI 97 x = mIn x 36 := kI_of s_97 (by decide +kernel) x
theorem s_98 : sT 98 = .inr (.int, 36) := by decide +kernel
theorem kI_98 (x : Int32) : kI 98 x = mIn x 36 := kI_of s_98 (by decide +kernel) x
theorem s_99 : sT 99 = .inr (.int, 5) := by decide +kernel
theorem kI_99 (x : Int32) : kI 99 x = mIn x 5 := kI_of s_99 (by decide +kernel) x
theorem kO_100 : kO 100 6 = true := kO_of (by decide +kernel) (by decide +kernel)
theorem s_101 : sT 101 = .inr (.int, 5) := by decide +kernel
theorem kI_101 (x : Int32) : kI 101 x = mIn x 5 := kI_of s_101 (by decide +kernel) x
theorem s_102 : sT 102 = .inr (.int, 5) := by decide +kernel
theorem kI_102 (x : Int32) : kI 102 x = mIn x 5 := kI_of s_102 (by decide +kernel) x
theorem s_103 : sT 103 = .inr (.int, 5) := by decide +kernel
theorem kI_103 (x : Int32) : kI 103 x = mIn x 5 := kI_of s_103 (by decide +kernel) x
theorem s_104 : sT 104 = .inr (.int, 5) := by decide +kernel
theorem kI_104 (x : Int32) : kI 104 x = mIn x 5 := kI_of s_104 (by decide +kernel) x
theorem s_105 : sT 105 = .inr (.int, 5) := by decide +kernel
theorem kI_105 (x : Int32) : kI 105 x = mIn x 5 := kI_of s_105 (by decide +kernel) x
theorem s_106 : sT 106 = .inr (.int, 5) := by decide +kernel
theorem kI_106 (x : Int32) : kI 106 x = mIn x 5 := kI_of s_106 (by decide +kernel) x
theorem s_107 : sT 107 = .inr (.int, 32) := by decide +kernel
theorem kI_107 (x : Int32) : kI 107 x = mIn x 32 := kI_of s_107 (by decide +kernel) x
theorem s_108 : sT 108 = .inr (.int, 8) := by decide +kernel
theorem kI_108 (x : Int32) : kI 108 x = mIn x 8 := kI_of s_108 (by decide +kernel) x
theorem kO_109 : kO 109 7 = true := kO_of (by decide +kernel) (by decide +kernel)
theorem s_110 : sT 110 = .inr (.int, 5) := by decide +kernel
theorem kI_110 (x : Int32) : kI 110 x = mIn x 5 := kI_of s_110 (by decide +kernel) x
theorem s_111 : sT 111 = .inr (.int, 5) := by decide +kernel
theorem kI_111 (x : Int32) : kI 111 x = mIn x 5 := kI_of s_111 (by decide +kernel) x
theorem s_112 : sT 112 = .inr (.int, 5) := by decide +kernel
theorem kI_112 (x : Int32) : kI 112 x = mIn x 5 := kI_of s_112 (by decide +kernel) x
theorem s_113 : sT 113 = .inr (.int, 5) := by decide +kernel
theorem kI_113 (x : Int32) : kI 113 x = mIn x 5 := kI_of s_113 (by decide +kernel) x
theorem kO_114 : kO 114 5 = true := kO_of (by decide +kernel) (by decide +kernel)
theorem s_115 : sT 115 = .inr (.int, 30) := by decide +kernel
theorem kI_115 (x : Int32) : kI 115 x = mIn x 30 := kI_of s_115 (by decide +kernel) x
theorem s_116 : sT 116 = .inr (.int, 30) := by decide +kernel
theorem kI_116 (x : Int32) : kI 116 x = mIn x 30 := kI_of s_116 (by decide +kernel) x
theorem s_117 : sT 117 = .inr (.int, 30) := by decide +kernel
theorem kI_117 (x : Int32) : kI 117 x = mIn x 30 := kI_of s_117 (by decide +kernel) x
theorem s_118 : sT 118 = .inr (.int, 30) := by decide +kernel
theorem kI_118 (x : Int32) : kI 118 x = mIn x 30 := kI_of s_118 (by decide +kernel) x
theorem s_119 : sT 119 = .inr (.int, 30) := by decide +kernel
theorem kI_119 (x : Int32) : kI 119 x = mIn x 30 := kI_of s_119 (by decide +kernel) x
theorem kO_120 : kO 120 10 = true := kO_of (by decide +kernel) (by decide +kernel)
theorem kR_121 (x : Int32) : kR 121 x = mIn x 5 := kR_of (by decide +kernel) (by decide +kernel) x
theorem rw_121 {j : Nat} (h : j < 5) : rowR 121 j = 122 + j := by
  have e : rowR 121 j = cond (Nat.blt j 5) (122 + j) NUL := rfl
  rw [e, show Nat.blt j 5 = true from Nat.ble_eq_true_of_le h]
  rfl
theorem st_121 : ∀ j, j < 5 → sT (122 + j) = .inr (.int, 8) := by decide +kernel
theorem ki_121 {j : Nat} (h : j < 5) (x : Int32) : kI (122 + j) x = mIn x 8 := kI_of (st_121 j h) (blt_of (by omega)) x
theorem s_122 : sT 122 = .inr (.int, 8) := by decide +kernel
theorem kI_122 (x : Int32) : kI 122 x = mIn x 8 := kI_of s_122 (by decide +kernel) x
theorem s_123 : sT 123 = .inr (.int, 8) := by decide +kernel
theorem kI_123 (x : Int32) : kI 123 x = mIn x 8 := kI_of s_123 (by decide +kernel) x
theorem s_124 : sT 124 = .inr (.int, 8) := by decide +kernel
theorem kI_124 (x : Int32) : kI 124 x = mIn x 8 := kI_of s_124 (by decide +kernel) x
theorem s_125 : sT 125 = .inr (.int, 8) := by decide +kernel
theorem kI_125 (x : Int32) : kI 125 x = mIn x 8 := kI_of s_125 (by decide +kernel) x
theorem s_126 : sT 126 = .inr (.int, 8) := by decide +kernel
theorem kI_126 (x : Int32) : kI 126 x = mIn x 8 := kI_of s_126 (by decide +kernel) x
theorem s_127 : sT 127 = .inr (.int, 32) := by decide +kernel
theorem kI_127 (x : Int32) : kI 127 x = mIn x 32 := kI_of s_127 (by decide +kernel) x
theorem s_128 : sT 128 = .inr (.int, 32) := by decide +kernel
theorem kI_128 (x : Int32) : kI 128 x = mIn x 32 := kI_of s_128 (by decide +kernel) x
theorem kO_129 : kO 129 9 = true := kO_of (by decide +kernel) (by decide +kernel)
theorem s_130 : sT 130 = .inr (.int, 32) := by decide +kernel
theorem kI_130 (x : Int32) : kI 130 x = mIn x 32 := kI_of s_130 (by decide +kernel) x
theorem kR_131 (x : Int32) : kR 131 x = mIn x 5 := kR_of (by decide +kernel) (by decide +kernel) x
theorem rw_131 {j : Nat} (h : j < 5) : rowR 131 j = 132 + j := by
  have e : rowR 131 j = cond (Nat.blt j 5) (132 + j) NUL := rfl
  rw [e, show Nat.blt j 5 = true from Nat.ble_eq_true_of_le h]
  rfl
theorem st_131 : ∀ j, j < 5 → sT (132 + j) = .inr (.int, 16) := by decide +kernel
theorem ki_131 {j : Nat} (h : j < 5) (x : Int32) : kI (132 + j) x = mIn x 16 := kI_of (st_131 j h) (blt_of (by omega)) x
theorem s_132 : sT 132 = .inr (.int, 16) := by decide +kernel
theorem kI_132 (x : Int32) : kI 132 x = mIn x 16 := kI_of s_132 (by decide +kernel) x
theorem s_133 : sT 133 = .inr (.int, 16) := by decide +kernel
theorem kI_133 (x : Int32) : kI 133 x = mIn x 16 := kI_of s_133 (by decide +kernel) x
theorem s_134 : sT 134 = .inr (.int, 16) := by decide +kernel
theorem kI_134 (x : Int32) : kI 134 x = mIn x 16 := kI_of s_134 (by decide +kernel) x
theorem s_135 : sT 135 = .inr (.int, 16) := by decide +kernel
theorem kI_135 (x : Int32) : kI 135 x = mIn x 16 := kI_of s_135 (by decide +kernel) x
theorem s_136 : sT 136 = .inr (.int, 16) := by decide +kernel
theorem kI_136 (x : Int32) : kI 136 x = mIn x 16 := kI_of s_136 (by decide +kernel) x
theorem s_137 : sT 137 = .inr (.int, 5) := by decide +kernel
theorem kI_137 (x : Int32) : kI 137 x = mIn x 5 := kI_of s_137 (by decide +kernel) x
theorem s_138 : sT 138 = .inr (.int, 4096) := by decide +kernel
theorem kI_138 (x : Int32) : kI 138 x = mIn x 4096 := kI_of s_138 (by decide +kernel) x
theorem s_139 : sT 139 = .inr (.int, 4096) := by decide +kernel
theorem kI_139 (x : Int32) : kI 139 x = mIn x 4096 := kI_of s_139 (by decide +kernel) x
theorem kO_140 : kO 140 3 = true := kO_of (by decide +kernel) (by decide +kernel)
theorem kR_141 (x : Int32) : kR 141 x = mIn x 32 := kR_of (by decide +kernel) (by decide +kernel) x
theorem rw_141 {j : Nat} (h : j < 32) : rowR 141 j = 142 + j := by
  have e : rowR 141 j = cond (Nat.blt j 32) (142 + j) NUL := rfl
  rw [e, show Nat.blt j 32 = true from Nat.ble_eq_true_of_le h]
  rfl
theorem st_141 : ∀ j, j < 32 → sT (142 + j) = .inr (.int, 36) := by decide +kernel
theorem ki_141 {j : Nat} (h : j < 32) (x : Int32) : kI (142 + j) x = mIn x 36 := kI_of (st_141 j h) (blt_of (by omega)) x
theorem s_142 : sT 142 = .inr (.int, 36) := by decide +kernel
theorem kI_142 (x : Int32) : kI 142 x = mIn x 36 := kI_of s_142 (by decide +kernel) x
theorem s_143 : sT 143 = .inr (.int, 36) := by decide +kernel
theorem kI_143 (x : Int32) : kI 143 x = mIn x 36 := kI_of s_143 (by decide +kernel) x
theorem s_144 : sT 144 = .inr (.int, 36) := by decide +kernel
theorem kI_144 (x : Int32) : kI 144 x = mIn x 36 := kI_of s_144 (by decide +kernel) x
theorem s_145 : sT 145 = .inr (.int, 36) := by decide +kernel
theorem kI_145 (x : Int32) : kI 145 x = mIn x 36 := kI_of s_145 (by decide +kernel) x
theorem s_146 : sT 146 = .inr (.int, 36) := by decide +kernel
theorem kI_146 (x : Int32) : kI 146 x = mIn x 36 := kI_of s_146 (by decide +kernel) x
theorem s_147 : sT 147 = .inr (.int, 36) := by decide +kernel
theorem kI_147 (x : Int32) : kI 147 x = mIn x 36 := kI_of s_147 (by decide +kernel) x
theorem s_148 : sT 148 = .inr (.int, 36) := by decide +kernel
theorem kI_148 (x : Int32) : kI 148 x = mIn x 36 := kI_of s_148 (by decide +kernel) x
theorem s_149 : sT 149 = .inr (.int, 36) := by decide +kernel
theorem kI_149 (x : Int32) : kI 149 x = mIn x 36 := kI_of s_149 (by decide +kernel) x
theorem s_150 : sT 150 = .inr (.int, 36) := by decide +kernel
theorem kI_150 (x : Int32) : kI 150 x = mIn x 36 := kI_of s_150 (by decide +kernel) x
theorem s_151 : sT 151 = .inr (.int, 36) := by decide +kernel
theorem kI_151 (x : Int32) : kI 151 x = mIn x 36 := kI_of s_151 (by decide +kernel) x
theorem s_152 : sT 152 = .inr (.int, 36) := by decide +kernel
theorem kI_152 (x : Int32) : kI 152 x = mIn x 36 := kI_of s_152 (by decide +kernel) x
theorem s_153 : sT 153 = .inr (.int, 36) := by decide +kernel
theorem kI_153 (x : Int32) : kI 153 x = mIn x 36 := kI_of s_153 (by decide +kernel) x
theorem s_154 : sT 154 = .inr (.int, 36) := by decide +kernel
theorem kI_154 (x : Int32) : kI 154 x = mIn x 36 := kI_of s_154 (by decide +kernel) x
theorem s_155 : sT 155 = .inr (.int, 36) := by decide +kernel
theorem kI_155 (x : Int32) : kI 155 x = mIn x 36 := kI_of s_155 (by decide +kernel) x
theorem s_156 : sT 156 = .inr (.int, 36) := by decide +kernel
theorem kI_156 (x : Int32) : kI 156 x = mIn x 36 := kI_of s_156 (by decide +kernel) x
theorem s_157 : sT 157 = .inr (.int, 36) := by decide +kernel
theorem kI_157 (x : Int32) : kI 157 x = mIn x 36 := kI_of s_157 (by decide +kernel) x
theorem s_158 : sT 158 = .inr (.int, 36) := by decide +kernel
theorem kI_158 (x : Int32) : kI 158 x = mIn x 36 := kI_of s_158 (by decide +kernel) x
theorem s_159 : sT 159 = .inr (.int, 36) := by decide +kernel
theorem kI_159 (x : Int32) : kI 159 x = mIn x 36 := kI_of s_159 (by decide +kernel) x
theorem s_160 : sT 160 = .inr (.int, 36) := by decide +kernel
theorem kI_160 (x : Int32) : kI 160 x = mIn x 36 := kI_of s_160 (by decide +kernel) x
theorem s_161 : sT 161 = .inr (.int, 36) := by decide +kernel
theorem kI_161 (x : Int32) : kI 161 x = mIn x 36 := kI_of s_161 (by decide +kernel) x
theorem s_162 : sT 162 = .inr (.int, 36) := by decide +kernel
theorem kI_162 (x : Int32) : kI 162 x = mIn x 36 := kI_of s_162 (by decide +kernel) x
theorem s_163 : sT 163 = .inr (.int, 36) := by decide +kernel
theorem kI_163 (x : Int32) : kI 163 x = mIn x 36 := kI_of s_163 (by decide +kernel) x
theorem s_164 : sT 164 = .inr (.int, 36) := by decide +kernel
theorem kI_164 (x : Int32) : kI 164 x = mIn x 36 := kI_of s_164 (by decide +kernel) x
theorem s_165 : sT 165 = .inr (.int, 36) := by decide +kernel
theorem kI_165 (x : Int32) : kI 165 x = mIn x 36 := kI_of s_165 (by decide +kernel) x
theorem s_166 : sT 166 = .inr (.int, 36) := by decide +kernel
theorem kI_166 (x : Int32) : kI 166 x = mIn x 36 := kI_of s_166 (by decide +kernel) x
theorem s_167 : sT 167 = .inr (.int, 36) := by decide +kernel
theorem kI_167 (x : Int32) : kI 167 x = mIn x 36 := kI_of s_167 (by decide +kernel) x
theorem s_168 : sT 168 = .inr (.int, 36) := by decide +kernel
theorem kI_168 (x : Int32) : kI 168 x = mIn x 36 := kI_of s_168 (by decide +kernel) x
theorem s_169 : sT 169 = .inr (.int, 36) := by decide +kernel
theorem kI_169 (x : Int32) : kI 169 x = mIn x 36 := kI_of s_169 (by decide +kernel) x
theorem s_170 : sT 170 = .inr (.int, 36) := by decide +kernel
theorem kI_170 (x : Int32) : kI 170 x = mIn x 36 := kI_of s_170 (by decide +kernel) x
theorem s_171 : sT 171 = .inr (.int, 36) := by decide +kernel
theorem kI_171 (x : Int32) : kI 171 x = mIn x 36 := kI_of s_171 (by decide +kernel) x
theorem s_172 : sT 172 = .inr (.int, 36) := by decide +kernel
theorem kI_172 (x : Int32) : kI 172 x = mIn x 36 := kI_of s_172 (by decide +kernel) x
theorem s_173 : sT 173 = .inr (.int, 36) := by decide +kernel
theorem kI_173 (x : Int32) : kI 173 x = mIn x 36 := kI_of s_173 (by decide +kernel) x
theorem kO_174 : kO 174 9 = true := kO_of (by decide +kernel) (by decide +kernel)
theorem s_175 : sT 175 = .inr (.int, 32) := by decide +kernel
theorem kI_175 (x : Int32) : kI 175 x = mIn x 32 := kI_of s_175 (by decide +kernel) x
theorem kR_176 (x : Int32) : kR 176 x = mIn x 5 := kR_of (by decide +kernel) (by decide +kernel) x
theorem rw_176 {j : Nat} (h : j < 5) : rowR 176 j = 177 + j := by
  have e : rowR 176 j = cond (Nat.blt j 5) (177 + j) NUL := rfl
  rw [e, show Nat.blt j 5 = true from Nat.ble_eq_true_of_le h]
  rfl
theorem st_176 : ∀ j, j < 5 → sT (177 + j) = .inr (.int, 16) := by decide +kernel
theorem ki_176 {j : Nat} (h : j < 5) (x : Int32) : kI (177 + j) x = mIn x 16 := kI_of (st_176 j h) (blt_of (by omega)) x
theorem s_177 : sT 177 = .inr (.int, 16) := by decide +kernel
theorem kI_177 (x : Int32) : kI 177 x = mIn x 16 := kI_of s_177 (by decide +kernel) x
theorem s_178 : sT 178 = .inr (.int, 16) := by decide +kernel
theorem kI_178 (x : Int32) : kI 178 x = mIn x 16 := kI_of s_178 (by decide +kernel) x
theorem s_179 : sT 179 = .inr (.int, 16) := by decide +kernel
theorem kI_179 (x : Int32) : kI 179 x = mIn x 16 := kI_of s_179 (by decide +kernel) x
theorem s_180 : sT 180 = .inr (.int, 16) := by decide +kernel
theorem kI_180 (x : Int32) : kI 180 x = mIn x 16 := kI_of s_180 (by decide +kernel) x
theorem s_181 : sT 181 = .inr (.int, 16) := by decide +kernel
theorem kI_181 (x : Int32) : kI 181 x = mIn x 16 := kI_of s_181 (by decide +kernel) x
theorem s_182 : sT 182 = .inr (.int, 5) := by decide +kernel
theorem kI_182 (x : Int32) : kI 182 x = mIn x 5 := kI_of s_182 (by decide +kernel) x
theorem s_183 : sT 183 = .inr (.int, 6) := by decide +kernel
theorem kI_183 (x : Int32) : kI 183 x = mIn x 6 := kI_of s_183 (by decide +kernel) x
theorem s_184 : sT 184 = .inr (.int, 5) := by decide +kernel
theorem kI_184 (x : Int32) : kI 184 x = mIn x 5 := kI_of s_184 (by decide +kernel) x
theorem s_185 : sT 185 = .inr (.int, 5) := by decide +kernel
theorem kI_185 (x : Int32) : kI 185 x = mIn x 5 := kI_of s_185 (by decide +kernel) x
theorem s_186 : sT 186 = .inr (.int, 8) := by decide +kernel
theorem kI_186 (x : Int32) : kI 186 x = mIn x 8 := kI_of s_186 (by decide +kernel) x
theorem kO_187 : kO 187 12 = true := kO_of (by decide +kernel) (by decide +kernel)
theorem s_188 : sT 188 = .inr (.int, 1600) := by decide +kernel
theorem kI_188 (x : Int32) : kI 188 x = mIn x 1600 := kI_of s_188 (by decide +kernel) x
theorem kJ_189 (x : Int32) : kJ 189 x = mIn x 5 := kJ_of (by decide +kernel) (by decide +kernel) x
theorem s_190 : sT 190 = .inr (.int, 960) := by decide +kernel
theorem kI_190 (x : Int32) : kI 190 x = mIn x 960 := kI_of s_190 (by decide +kernel) x
theorem s_191 : sT 191 = .inr (.int, 960) := by decide +kernel
theorem kI_191 (x : Int32) : kI 191 x = mIn x 960 := kI_of s_191 (by decide +kernel) x
theorem s_192 : sT 192 = .inr (.int, 3) := by decide +kernel
theorem kI_192 (x : Int32) : kI 192 x = mIn x 3 := kI_of s_192 (by decide +kernel) x
theorem s_193 : sT 193 = .inr (.int, 960) := by decide +kernel
theorem kI_193 (x : Int32) : kI 193 x = mIn x 960 := kI_of s_193 (by decide +kernel) x
theorem s_194 : sT 194 = .inr (.int, 960) := by decide +kernel
theorem kI_194 (x : Int32) : kI 194 x = mIn x 960 := kI_of s_194 (by decide +kernel) x
theorem s_195 : sT 195 = .inr (.int, 3) := by decide +kernel
theorem kI_195 (x : Int32) : kI 195 x = mIn x 3 := kI_of s_195 (by decide +kernel) x
theorem s_196 : sT 196 = .inr (.int, 160) := by decide +kernel
theorem kI_196 (x : Int32) : kI 196 x = mIn x 160 := kI_of s_196 (by decide +kernel) x
theorem s_197 : sT 197 = .inr (.int, 64) := by decide +kernel
theorem kI_197 (x : Int32) : kI 197 x = mIn x 64 := kI_of s_197 (by decide +kernel) x
theorem kB_198 (x : Int32) : kB 198 x = mIn x 3 := kB_of2 (by decide +kernel) (by decide +kernel) x
theorem kN_198 (x : Int32) : kN 198 x = vp_nar .boolean x := kN_of2 (n := 3) (by decide +kernel) x
theorem kB_199 (x : Int32) : kB 199 x = mIn x 3 := kB_of2 (by decide +kernel) (by decide +kernel) x
theorem kN_199 (x : Int32) : kN 199 x = vp_nar .boolean x := kN_of2 (n := 3) (by decide +kernel) x
theorem s_200 : sT 200 = .inr (.int, 6) := by decide +kernel
theorem kI_200 (x : Int32) : kI 200 x = mIn x 6 := kI_of s_200 (by decide +kernel) x
theorem s_201 : sT 201 = .inr (.int, 5) := by decide +kernel
theorem kI_201 (x : Int32) : kI 201 x = mIn x 5 := kI_of s_201 (by decide +kernel) x
theorem s_202 : sT 202 = .inr (.int, 5) := by decide +kernel
theorem kI_202 (x : Int32) : kI 202 x = mIn x 5 := kI_of s_202 (by decide +kernel) x
theorem s_203 : sT 203 = .inr (.int, 5) := by decide +kernel
theorem kI_203 (x : Int32) : kI 203 x = mIn x 5 := kI_of s_203 (by decide +kernel) x
theorem s_204 : sT 204 = .inr (.int, 5) := by decide +kernel
theorem kI_204 (x : Int32) : kI 204 x = mIn x 5 := kI_of s_204 (by decide +kernel) x
theorem s_205 : sT 205 = .inr (.int, 5) := by decide +kernel
theorem kI_205 (x : Int32) : kI 205 x = mIn x 5 := kI_of s_205 (by decide +kernel) x
theorem s_206 : sT 206 = .inr (.int, 5) := by decide +kernel
theorem kI_206 (x : Int32) : kI 206 x = mIn x 5 := kI_of s_206 (by decide +kernel) x
theorem s_207 : sT 207 = .inr (.int, 5) := by decide +kernel
theorem kI_207 (x : Int32) : kI 207 x = mIn x 5 := kI_of s_207 (by decide +kernel) x
theorem s_208 : sT 208 = .inr (.int, 18) := by decide +kernel
theorem kI_208 (x : Int32) : kI 208 x = mIn x 18 := kI_of s_208 (by decide +kernel) x
theorem s_209 : sT 209 = .inr (.int, 5) := by decide +kernel
theorem kI_209 (x : Int32) : kI 209 x = mIn x 5 := kI_of s_209 (by decide +kernel) x
theorem s_210 : sT 210 = .inr (.int, 5) := by decide +kernel
theorem kI_210 (x : Int32) : kI 210 x = mIn x 5 := kI_of s_210 (by decide +kernel) x
theorem s_211 : sT 211 = .inr (.int, 5) := by decide +kernel
theorem kI_211 (x : Int32) : kI 211 x = mIn x 5 := kI_of s_211 (by decide +kernel) x
theorem s_212 : sT 212 = .inr (.int, 720) := by decide +kernel
theorem kI_212 (x : Int32) : kI 212 x = mIn x 720 := kI_of s_212 (by decide +kernel) x
theorem s_213 : sT 213 = .inr (.int, 40) := by decide +kernel
theorem kI_213 (x : Int32) : kI 213 x = mIn x 40 := kI_of s_213 (by decide +kernel) x
theorem s_214 : sT 214 = .inr (.int, 5) := by decide +kernel
theorem kI_214 (x : Int32) : kI 214 x = mIn x 5 := kI_of s_214 (by decide +kernel) x
theorem s_215 : sT 215 = .inr (.int, 16) := by decide +kernel
theorem kI_215 (x : Int32) : kI 215 x = mIn x 16 := kI_of s_215 (by decide +kernel) x
theorem s_216 : sT 216 = .inr (.int, 5) := by decide +kernel
theorem kI_216 (x : Int32) : kI 216 x = mIn x 5 := kI_of s_216 (by decide +kernel) x
theorem s_217 : sT 217 = .inr (.int, 5) := by decide +kernel
theorem kI_217 (x : Int32) : kI 217 x = mIn x 5 := kI_of s_217 (by decide +kernel) x
theorem s_218 : sT 218 = .inr (.int, 5) := by decide +kernel
theorem kI_218 (x : Int32) : kI 218 x = mIn x 5 := kI_of s_218 (by decide +kernel) x
theorem s_219 : sT 219 = .inr (.int, 5) := by decide +kernel
theorem kI_219 (x : Int32) : kI 219 x = mIn x 5 := kI_of s_219 (by decide +kernel) x
theorem s_220 : sT 220 = .inr (.int, 5) := by decide +kernel
theorem kI_220 (x : Int32) : kI 220 x = mIn x 5 := kI_of s_220 (by decide +kernel) x
theorem s_221 : sT 221 = .inr (.int, 32) := by decide +kernel
theorem kI_221 (x : Int32) : kI 221 x = mIn x 32 := kI_of s_221 (by decide +kernel) x
theorem s_222 : sT 222 = .inr (.int, 32) := by decide +kernel
theorem kI_222 (x : Int32) : kI 222 x = mIn x 32 := kI_of s_222 (by decide +kernel) x
theorem s_223 : sT 223 = .inr (.int, 32) := by decide +kernel
theorem kI_223 (x : Int32) : kI 223 x = mIn x 32 := kI_of s_223 (by decide +kernel) x
theorem s_224 : sT 224 = .inr (.int, 30) := by decide +kernel
theorem kI_224 (x : Int32) : kI 224 x = mIn x 30 := kI_of s_224 (by decide +kernel) x
theorem s_225 : sT 225 = .inr (.int, 30) := by decide +kernel
theorem kI_225 (x : Int32) : kI 225 x = mIn x 30 := kI_of s_225 (by decide +kernel) x
theorem s_226 : sT 226 = .inr (.int, 30) := by decide +kernel
theorem kI_226 (x : Int32) : kI 226 x = mIn x 30 := kI_of s_226 (by decide +kernel) x
theorem s_227 : sT 227 = .inr (.int, 30) := by decide +kernel
theorem kI_227 (x : Int32) : kI 227 x = mIn x 30 := kI_of s_227 (by decide +kernel) x
theorem s_228 : sT 228 = .inr (.int, 30) := by decide +kernel
theorem kI_228 (x : Int32) : kI 228 x = mIn x 30 := kI_of s_228 (by decide +kernel) x
theorem s_229 : sT 229 = .inr (.int, 40) := by decide +kernel
theorem kI_229 (x : Int32) : kI 229 x = mIn x 40 := kI_of s_229 (by decide +kernel) x
theorem kB_230 (x : Int32) : kB 230 x = mIn x 32768 := kB_of2 (by decide +kernel) (by decide +kernel) x
theorem kN_230 (x : Int32) : kN 230 x = vp_nar .boolean x := kN_of2 (n := 32768) (by decide +kernel) x
theorem kB_231 (x : Int32) : kB 231 x = mIn x 3 := kB_of2 (by decide +kernel) (by decide +kernel) x
theorem kN_231 (x : Int32) : kN 231 x = vp_nar .boolean x := kN_of2 (n := 3) (by decide +kernel) x
theorem s_232 : sT 232 = .inr (.int, 54) := by decide +kernel
theorem kI_232 (x : Int32) : kI 232 x = mIn x 54 := kI_of s_232 (by decide +kernel) x
