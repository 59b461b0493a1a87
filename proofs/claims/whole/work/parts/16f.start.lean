/-! THE LAW'S START: what the Statement gives, as the small machine needs it. -/
def zTm (i : Nat) : Term := Term.string RX4 (mSt.getD i (0, "")).1
def zF : List Cond := flatC (Jvm.Cond.and given_1 narrow_1)
set_option maxRecDepth 100000 in
theorem zF_ex : ∀ i, i < 15 → Cond.exactly (zTm i) "java/lang/String" ∈ zF := by decide +kernel
set_option maxRecDepth 100000 in
theorem zF_co : ∀ i, i < 15 → Cond.eq (.field (zTm i) "java/lang/String" "coder" "B") (.int 0) ∈ zF := by decide +kernel
set_option maxRecDepth 100000 in
theorem zF_ar : ∀ i, i < 15 → Cond.arrayOf (.field (zTm i) "java/lang/String" "value" "[B") .byte ∈ zF := by decide +kernel
set_option maxRecDepth 100000 in
theorem zF_le : ∀ i, i < 15 → Cond.eq (.length (.field (zTm i) "java/lang/String" "value" "[B")) (.int (Int32.ofNat (mStL.getD i 0))) ∈ zF := by decide +kernel
set_option maxRecDepth 100000 in
theorem zF_el : ∀ i, i < 15 → ∀ j, j < mStL.getD i 0 → Cond.eq (.elem (.field (zTm i) "java/lang/String" "value" "[B") (.int (Int32.ofNat j))) (.int ((mStB.getD i []).getD j 0)) ∈ zF := by decide +kernel
theorem zn_0_1 : Cond.not (Cond.eq (zTm 0) (zTm 1)) ∈ zF := List.mem_of_getElem? (i := 24) rfl
theorem zn_0_2 : Cond.not (Cond.eq (zTm 0) (zTm 2)) ∈ zF := List.mem_of_getElem? (i := 34) rfl
theorem zn_0_3 : Cond.not (Cond.eq (zTm 0) (zTm 3)) ∈ zF := List.mem_of_getElem? (i := 43) rfl
theorem zn_0_4 : Cond.not (Cond.eq (zTm 0) (zTm 4)) ∈ zF := List.mem_of_getElem? (i := 55) rfl
theorem zn_0_5 : Cond.not (Cond.eq (zTm 0) (zTm 5)) ∈ zF := List.mem_of_getElem? (i := 67) rfl
theorem zn_0_6 : Cond.not (Cond.eq (zTm 0) (zTm 6)) ∈ zF := List.mem_of_getElem? (i := 79) rfl
theorem zn_0_7 : Cond.not (Cond.eq (zTm 0) (zTm 7)) ∈ zF := List.mem_of_getElem? (i := 93) rfl
theorem zn_0_8 : Cond.not (Cond.eq (zTm 0) (zTm 8)) ∈ zF := List.mem_of_getElem? (i := 108) rfl
theorem zn_0_9 : Cond.not (Cond.eq (zTm 0) (zTm 9)) ∈ zF := List.mem_of_getElem? (i := 122) rfl
theorem zn_0_10 : Cond.not (Cond.eq (zTm 0) (zTm 10)) ∈ zF := List.mem_of_getElem? (i := 138) rfl
theorem zn_0_11 : Cond.not (Cond.eq (zTm 0) (zTm 11)) ∈ zF := List.mem_of_getElem? (i := 155) rfl
theorem zn_0_12 : Cond.not (Cond.eq (zTm 0) (zTm 12)) ∈ zF := List.mem_of_getElem? (i := 176) rfl
theorem zn_0_13 : Cond.not (Cond.eq (zTm 0) (zTm 13)) ∈ zF := List.mem_of_getElem? (i := 198) rfl
theorem zn_0_14 : Cond.not (Cond.eq (zTm 0) (zTm 14)) ∈ zF := List.mem_of_getElem? (i := 219) rfl
theorem zn_1_2 : Cond.not (Cond.eq (zTm 1) (zTm 2)) ∈ zF := List.mem_of_getElem? (i := 35) rfl
theorem zn_1_3 : Cond.not (Cond.eq (zTm 1) (zTm 3)) ∈ zF := List.mem_of_getElem? (i := 44) rfl
theorem zn_1_4 : Cond.not (Cond.eq (zTm 1) (zTm 4)) ∈ zF := List.mem_of_getElem? (i := 56) rfl
theorem zn_1_5 : Cond.not (Cond.eq (zTm 1) (zTm 5)) ∈ zF := List.mem_of_getElem? (i := 68) rfl
theorem zn_1_6 : Cond.not (Cond.eq (zTm 1) (zTm 6)) ∈ zF := List.mem_of_getElem? (i := 80) rfl
theorem zn_1_7 : Cond.not (Cond.eq (zTm 1) (zTm 7)) ∈ zF := List.mem_of_getElem? (i := 94) rfl
theorem zn_1_8 : Cond.not (Cond.eq (zTm 1) (zTm 8)) ∈ zF := List.mem_of_getElem? (i := 109) rfl
theorem zn_1_9 : Cond.not (Cond.eq (zTm 1) (zTm 9)) ∈ zF := List.mem_of_getElem? (i := 123) rfl
theorem zn_1_10 : Cond.not (Cond.eq (zTm 1) (zTm 10)) ∈ zF := List.mem_of_getElem? (i := 139) rfl
theorem zn_1_11 : Cond.not (Cond.eq (zTm 1) (zTm 11)) ∈ zF := List.mem_of_getElem? (i := 156) rfl
theorem zn_1_12 : Cond.not (Cond.eq (zTm 1) (zTm 12)) ∈ zF := List.mem_of_getElem? (i := 177) rfl
theorem zn_1_13 : Cond.not (Cond.eq (zTm 1) (zTm 13)) ∈ zF := List.mem_of_getElem? (i := 199) rfl
theorem zn_1_14 : Cond.not (Cond.eq (zTm 1) (zTm 14)) ∈ zF := List.mem_of_getElem? (i := 220) rfl
theorem zn_2_3 : Cond.not (Cond.eq (zTm 2) (zTm 3)) ∈ zF := List.mem_of_getElem? (i := 45) rfl
theorem zn_2_4 : Cond.not (Cond.eq (zTm 2) (zTm 4)) ∈ zF := List.mem_of_getElem? (i := 57) rfl
theorem zn_2_5 : Cond.not (Cond.eq (zTm 2) (zTm 5)) ∈ zF := List.mem_of_getElem? (i := 69) rfl
theorem zn_2_6 : Cond.not (Cond.eq (zTm 2) (zTm 6)) ∈ zF := List.mem_of_getElem? (i := 81) rfl
theorem zn_2_7 : Cond.not (Cond.eq (zTm 2) (zTm 7)) ∈ zF := List.mem_of_getElem? (i := 95) rfl
theorem zn_2_8 : Cond.not (Cond.eq (zTm 2) (zTm 8)) ∈ zF := List.mem_of_getElem? (i := 110) rfl
theorem zn_2_9 : Cond.not (Cond.eq (zTm 2) (zTm 9)) ∈ zF := List.mem_of_getElem? (i := 124) rfl
theorem zn_2_10 : Cond.not (Cond.eq (zTm 2) (zTm 10)) ∈ zF := List.mem_of_getElem? (i := 140) rfl
theorem zn_2_11 : Cond.not (Cond.eq (zTm 2) (zTm 11)) ∈ zF := List.mem_of_getElem? (i := 157) rfl
theorem zn_2_12 : Cond.not (Cond.eq (zTm 2) (zTm 12)) ∈ zF := List.mem_of_getElem? (i := 178) rfl
theorem zn_2_13 : Cond.not (Cond.eq (zTm 2) (zTm 13)) ∈ zF := List.mem_of_getElem? (i := 200) rfl
theorem zn_2_14 : Cond.not (Cond.eq (zTm 2) (zTm 14)) ∈ zF := List.mem_of_getElem? (i := 221) rfl
theorem zn_3_4 : Cond.not (Cond.eq (zTm 3) (zTm 4)) ∈ zF := List.mem_of_getElem? (i := 58) rfl
theorem zn_3_5 : Cond.not (Cond.eq (zTm 3) (zTm 5)) ∈ zF := List.mem_of_getElem? (i := 70) rfl
theorem zn_3_6 : Cond.not (Cond.eq (zTm 3) (zTm 6)) ∈ zF := List.mem_of_getElem? (i := 82) rfl
theorem zn_3_7 : Cond.not (Cond.eq (zTm 3) (zTm 7)) ∈ zF := List.mem_of_getElem? (i := 96) rfl
theorem zn_3_8 : Cond.not (Cond.eq (zTm 3) (zTm 8)) ∈ zF := List.mem_of_getElem? (i := 111) rfl
theorem zn_3_9 : Cond.not (Cond.eq (zTm 3) (zTm 9)) ∈ zF := List.mem_of_getElem? (i := 125) rfl
theorem zn_3_10 : Cond.not (Cond.eq (zTm 3) (zTm 10)) ∈ zF := List.mem_of_getElem? (i := 141) rfl
theorem zn_3_11 : Cond.not (Cond.eq (zTm 3) (zTm 11)) ∈ zF := List.mem_of_getElem? (i := 158) rfl
theorem zn_3_12 : Cond.not (Cond.eq (zTm 3) (zTm 12)) ∈ zF := List.mem_of_getElem? (i := 179) rfl
theorem zn_3_13 : Cond.not (Cond.eq (zTm 3) (zTm 13)) ∈ zF := List.mem_of_getElem? (i := 201) rfl
theorem zn_3_14 : Cond.not (Cond.eq (zTm 3) (zTm 14)) ∈ zF := List.mem_of_getElem? (i := 222) rfl
theorem zn_4_5 : Cond.not (Cond.eq (zTm 4) (zTm 5)) ∈ zF := List.mem_of_getElem? (i := 71) rfl
theorem zn_4_6 : Cond.not (Cond.eq (zTm 4) (zTm 6)) ∈ zF := List.mem_of_getElem? (i := 83) rfl
theorem zn_4_7 : Cond.not (Cond.eq (zTm 4) (zTm 7)) ∈ zF := List.mem_of_getElem? (i := 97) rfl
theorem zn_4_8 : Cond.not (Cond.eq (zTm 4) (zTm 8)) ∈ zF := List.mem_of_getElem? (i := 112) rfl
theorem zn_4_9 : Cond.not (Cond.eq (zTm 4) (zTm 9)) ∈ zF := List.mem_of_getElem? (i := 126) rfl
theorem zn_4_10 : Cond.not (Cond.eq (zTm 4) (zTm 10)) ∈ zF := List.mem_of_getElem? (i := 142) rfl
theorem zn_4_11 : Cond.not (Cond.eq (zTm 4) (zTm 11)) ∈ zF := List.mem_of_getElem? (i := 159) rfl
theorem zn_4_12 : Cond.not (Cond.eq (zTm 4) (zTm 12)) ∈ zF := List.mem_of_getElem? (i := 180) rfl
theorem zn_4_13 : Cond.not (Cond.eq (zTm 4) (zTm 13)) ∈ zF := List.mem_of_getElem? (i := 202) rfl
theorem zn_4_14 : Cond.not (Cond.eq (zTm 4) (zTm 14)) ∈ zF := List.mem_of_getElem? (i := 223) rfl
theorem zn_5_6 : Cond.not (Cond.eq (zTm 5) (zTm 6)) ∈ zF := List.mem_of_getElem? (i := 84) rfl
theorem zn_5_7 : Cond.not (Cond.eq (zTm 5) (zTm 7)) ∈ zF := List.mem_of_getElem? (i := 98) rfl
theorem zn_5_8 : Cond.not (Cond.eq (zTm 5) (zTm 8)) ∈ zF := List.mem_of_getElem? (i := 113) rfl
theorem zn_5_9 : Cond.not (Cond.eq (zTm 5) (zTm 9)) ∈ zF := List.mem_of_getElem? (i := 127) rfl
theorem zn_5_10 : Cond.not (Cond.eq (zTm 5) (zTm 10)) ∈ zF := List.mem_of_getElem? (i := 143) rfl
theorem zn_5_11 : Cond.not (Cond.eq (zTm 5) (zTm 11)) ∈ zF := List.mem_of_getElem? (i := 160) rfl
theorem zn_5_12 : Cond.not (Cond.eq (zTm 5) (zTm 12)) ∈ zF := List.mem_of_getElem? (i := 181) rfl
theorem zn_5_13 : Cond.not (Cond.eq (zTm 5) (zTm 13)) ∈ zF := List.mem_of_getElem? (i := 203) rfl
theorem zn_5_14 : Cond.not (Cond.eq (zTm 5) (zTm 14)) ∈ zF := List.mem_of_getElem? (i := 224) rfl
theorem zn_6_7 : Cond.not (Cond.eq (zTm 6) (zTm 7)) ∈ zF := List.mem_of_getElem? (i := 99) rfl
theorem zn_6_8 : Cond.not (Cond.eq (zTm 6) (zTm 8)) ∈ zF := List.mem_of_getElem? (i := 114) rfl
theorem zn_6_9 : Cond.not (Cond.eq (zTm 6) (zTm 9)) ∈ zF := List.mem_of_getElem? (i := 128) rfl
theorem zn_6_10 : Cond.not (Cond.eq (zTm 6) (zTm 10)) ∈ zF := List.mem_of_getElem? (i := 144) rfl
theorem zn_6_11 : Cond.not (Cond.eq (zTm 6) (zTm 11)) ∈ zF := List.mem_of_getElem? (i := 161) rfl
theorem zn_6_12 : Cond.not (Cond.eq (zTm 6) (zTm 12)) ∈ zF := List.mem_of_getElem? (i := 182) rfl
theorem zn_6_13 : Cond.not (Cond.eq (zTm 6) (zTm 13)) ∈ zF := List.mem_of_getElem? (i := 204) rfl
theorem zn_6_14 : Cond.not (Cond.eq (zTm 6) (zTm 14)) ∈ zF := List.mem_of_getElem? (i := 225) rfl
theorem zn_7_8 : Cond.not (Cond.eq (zTm 7) (zTm 8)) ∈ zF := List.mem_of_getElem? (i := 115) rfl
theorem zn_7_9 : Cond.not (Cond.eq (zTm 7) (zTm 9)) ∈ zF := List.mem_of_getElem? (i := 129) rfl
theorem zn_7_10 : Cond.not (Cond.eq (zTm 7) (zTm 10)) ∈ zF := List.mem_of_getElem? (i := 145) rfl
theorem zn_7_11 : Cond.not (Cond.eq (zTm 7) (zTm 11)) ∈ zF := List.mem_of_getElem? (i := 162) rfl
theorem zn_7_12 : Cond.not (Cond.eq (zTm 7) (zTm 12)) ∈ zF := List.mem_of_getElem? (i := 183) rfl
theorem zn_7_13 : Cond.not (Cond.eq (zTm 7) (zTm 13)) ∈ zF := List.mem_of_getElem? (i := 205) rfl
theorem zn_7_14 : Cond.not (Cond.eq (zTm 7) (zTm 14)) ∈ zF := List.mem_of_getElem? (i := 226) rfl
theorem zn_8_9 : Cond.not (Cond.eq (zTm 8) (zTm 9)) ∈ zF := List.mem_of_getElem? (i := 130) rfl
theorem zn_8_10 : Cond.not (Cond.eq (zTm 8) (zTm 10)) ∈ zF := List.mem_of_getElem? (i := 146) rfl
theorem zn_8_11 : Cond.not (Cond.eq (zTm 8) (zTm 11)) ∈ zF := List.mem_of_getElem? (i := 163) rfl
theorem zn_8_12 : Cond.not (Cond.eq (zTm 8) (zTm 12)) ∈ zF := List.mem_of_getElem? (i := 184) rfl
theorem zn_8_13 : Cond.not (Cond.eq (zTm 8) (zTm 13)) ∈ zF := List.mem_of_getElem? (i := 206) rfl
theorem zn_8_14 : Cond.not (Cond.eq (zTm 8) (zTm 14)) ∈ zF := List.mem_of_getElem? (i := 227) rfl
theorem zn_9_10 : Cond.not (Cond.eq (zTm 9) (zTm 10)) ∈ zF := List.mem_of_getElem? (i := 147) rfl
theorem zn_9_11 : Cond.not (Cond.eq (zTm 9) (zTm 11)) ∈ zF := List.mem_of_getElem? (i := 164) rfl
theorem zn_9_12 : Cond.not (Cond.eq (zTm 9) (zTm 12)) ∈ zF := List.mem_of_getElem? (i := 185) rfl
theorem zn_9_13 : Cond.not (Cond.eq (zTm 9) (zTm 13)) ∈ zF := List.mem_of_getElem? (i := 207) rfl
theorem zn_9_14 : Cond.not (Cond.eq (zTm 9) (zTm 14)) ∈ zF := List.mem_of_getElem? (i := 228) rfl
theorem zn_10_11 : Cond.not (Cond.eq (zTm 10) (zTm 11)) ∈ zF := List.mem_of_getElem? (i := 165) rfl
theorem zn_10_12 : Cond.not (Cond.eq (zTm 10) (zTm 12)) ∈ zF := List.mem_of_getElem? (i := 186) rfl
theorem zn_10_13 : Cond.not (Cond.eq (zTm 10) (zTm 13)) ∈ zF := List.mem_of_getElem? (i := 208) rfl
theorem zn_10_14 : Cond.not (Cond.eq (zTm 10) (zTm 14)) ∈ zF := List.mem_of_getElem? (i := 229) rfl
theorem zn_11_12 : Cond.not (Cond.eq (zTm 11) (zTm 12)) ∈ zF := List.mem_of_getElem? (i := 187) rfl
theorem zn_11_13 : Cond.not (Cond.eq (zTm 11) (zTm 13)) ∈ zF := List.mem_of_getElem? (i := 209) rfl
theorem zn_11_14 : Cond.not (Cond.eq (zTm 11) (zTm 14)) ∈ zF := List.mem_of_getElem? (i := 230) rfl
theorem zn_12_13 : Cond.not (Cond.eq (zTm 12) (zTm 13)) ∈ zF := List.mem_of_getElem? (i := 210) rfl
theorem zn_12_14 : Cond.not (Cond.eq (zTm 12) (zTm 14)) ∈ zF := List.mem_of_getElem? (i := 231) rfl
theorem zn_13_14 : Cond.not (Cond.eq (zTm 13) (zTm 14)) ∈ zF := List.mem_of_getElem? (i := 232) rfl
theorem zF_ne0 : ∀ j, j < 15 → 0 ≠ j → Cond.not (Cond.eq (zTm 0) (zTm j)) ∈ zF ∨ Cond.not (Cond.eq (zTm j) (zTm 0)) ∈ zF := by
  intro j hj hne
  match j, hj, hne with
  | 0, _, h => exact absurd rfl h
  | 1, _, _ => exact Or.inl zn_0_1
  | 2, _, _ => exact Or.inl zn_0_2
  | 3, _, _ => exact Or.inl zn_0_3
  | 4, _, _ => exact Or.inl zn_0_4
  | 5, _, _ => exact Or.inl zn_0_5
  | 6, _, _ => exact Or.inl zn_0_6
  | 7, _, _ => exact Or.inl zn_0_7
  | 8, _, _ => exact Or.inl zn_0_8
  | 9, _, _ => exact Or.inl zn_0_9
  | 10, _, _ => exact Or.inl zn_0_10
  | 11, _, _ => exact Or.inl zn_0_11
  | 12, _, _ => exact Or.inl zn_0_12
  | 13, _, _ => exact Or.inl zn_0_13
  | 14, _, _ => exact Or.inl zn_0_14
  | j + 15, hj, _ => exact absurd hj (by omega)
theorem zF_ne1 : ∀ j, j < 15 → 1 ≠ j → Cond.not (Cond.eq (zTm 1) (zTm j)) ∈ zF ∨ Cond.not (Cond.eq (zTm j) (zTm 1)) ∈ zF := by
  intro j hj hne
  match j, hj, hne with
  | 0, _, _ => exact Or.inr zn_0_1
  | 1, _, h => exact absurd rfl h
  | 2, _, _ => exact Or.inl zn_1_2
  | 3, _, _ => exact Or.inl zn_1_3
  | 4, _, _ => exact Or.inl zn_1_4
  | 5, _, _ => exact Or.inl zn_1_5
  | 6, _, _ => exact Or.inl zn_1_6
  | 7, _, _ => exact Or.inl zn_1_7
  | 8, _, _ => exact Or.inl zn_1_8
  | 9, _, _ => exact Or.inl zn_1_9
  | 10, _, _ => exact Or.inl zn_1_10
  | 11, _, _ => exact Or.inl zn_1_11
  | 12, _, _ => exact Or.inl zn_1_12
  | 13, _, _ => exact Or.inl zn_1_13
  | 14, _, _ => exact Or.inl zn_1_14
  | j + 15, hj, _ => exact absurd hj (by omega)
theorem zF_ne2 : ∀ j, j < 15 → 2 ≠ j → Cond.not (Cond.eq (zTm 2) (zTm j)) ∈ zF ∨ Cond.not (Cond.eq (zTm j) (zTm 2)) ∈ zF := by
  intro j hj hne
  match j, hj, hne with
  | 0, _, _ => exact Or.inr zn_0_2
  | 1, _, _ => exact Or.inr zn_1_2
  | 2, _, h => exact absurd rfl h
  | 3, _, _ => exact Or.inl zn_2_3
  | 4, _, _ => exact Or.inl zn_2_4
  | 5, _, _ => exact Or.inl zn_2_5
  | 6, _, _ => exact Or.inl zn_2_6
  | 7, _, _ => exact Or.inl zn_2_7
  | 8, _, _ => exact Or.inl zn_2_8
  | 9, _, _ => exact Or.inl zn_2_9
  | 10, _, _ => exact Or.inl zn_2_10
  | 11, _, _ => exact Or.inl zn_2_11
  | 12, _, _ => exact Or.inl zn_2_12
  | 13, _, _ => exact Or.inl zn_2_13
  | 14, _, _ => exact Or.inl zn_2_14
  | j + 15, hj, _ => exact absurd hj (by omega)
theorem zF_ne3 : ∀ j, j < 15 → 3 ≠ j → Cond.not (Cond.eq (zTm 3) (zTm j)) ∈ zF ∨ Cond.not (Cond.eq (zTm j) (zTm 3)) ∈ zF := by
  intro j hj hne
  match j, hj, hne with
  | 0, _, _ => exact Or.inr zn_0_3
  | 1, _, _ => exact Or.inr zn_1_3
  | 2, _, _ => exact Or.inr zn_2_3
  | 3, _, h => exact absurd rfl h
  | 4, _, _ => exact Or.inl zn_3_4
  | 5, _, _ => exact Or.inl zn_3_5
  | 6, _, _ => exact Or.inl zn_3_6
  | 7, _, _ => exact Or.inl zn_3_7
  | 8, _, _ => exact Or.inl zn_3_8
  | 9, _, _ => exact Or.inl zn_3_9
  | 10, _, _ => exact Or.inl zn_3_10
  | 11, _, _ => exact Or.inl zn_3_11
  | 12, _, _ => exact Or.inl zn_3_12
  | 13, _, _ => exact Or.inl zn_3_13
  | 14, _, _ => exact Or.inl zn_3_14
  | j + 15, hj, _ => exact absurd hj (by omega)
theorem zF_ne4 : ∀ j, j < 15 → 4 ≠ j → Cond.not (Cond.eq (zTm 4) (zTm j)) ∈ zF ∨ Cond.not (Cond.eq (zTm j) (zTm 4)) ∈ zF := by
  intro j hj hne
  match j, hj, hne with
  | 0, _, _ => exact Or.inr zn_0_4
  | 1, _, _ => exact Or.inr zn_1_4
  | 2, _, _ => exact Or.inr zn_2_4
  | 3, _, _ => exact Or.inr zn_3_4
  | 4, _, h => exact absurd rfl h
  | 5, _, _ => exact Or.inl zn_4_5
  | 6, _, _ => exact Or.inl zn_4_6
  | 7, _, _ => exact Or.inl zn_4_7
  | 8, _, _ => exact Or.inl zn_4_8
  | 9, _, _ => exact Or.inl zn_4_9
  | 10, _, _ => exact Or.inl zn_4_10
  | 11, _, _ => exact Or.inl zn_4_11
  | 12, _, _ => exact Or.inl zn_4_12
  | 13, _, _ => exact Or.inl zn_4_13
  | 14, _, _ => exact Or.inl zn_4_14
  | j + 15, hj, _ => exact absurd hj (by omega)
theorem zF_ne5 : ∀ j, j < 15 → 5 ≠ j → Cond.not (Cond.eq (zTm 5) (zTm j)) ∈ zF ∨ Cond.not (Cond.eq (zTm j) (zTm 5)) ∈ zF := by
  intro j hj hne
  match j, hj, hne with
  | 0, _, _ => exact Or.inr zn_0_5
  | 1, _, _ => exact Or.inr zn_1_5
  | 2, _, _ => exact Or.inr zn_2_5
  | 3, _, _ => exact Or.inr zn_3_5
  | 4, _, _ => exact Or.inr zn_4_5
  | 5, _, h => exact absurd rfl h
  | 6, _, _ => exact Or.inl zn_5_6
  | 7, _, _ => exact Or.inl zn_5_7
  | 8, _, _ => exact Or.inl zn_5_8
  | 9, _, _ => exact Or.inl zn_5_9
  | 10, _, _ => exact Or.inl zn_5_10
  | 11, _, _ => exact Or.inl zn_5_11
  | 12, _, _ => exact Or.inl zn_5_12
  | 13, _, _ => exact Or.inl zn_5_13
  | 14, _, _ => exact Or.inl zn_5_14
  | j + 15, hj, _ => exact absurd hj (by omega)
theorem zF_ne6 : ∀ j, j < 15 → 6 ≠ j → Cond.not (Cond.eq (zTm 6) (zTm j)) ∈ zF ∨ Cond.not (Cond.eq (zTm j) (zTm 6)) ∈ zF := by
  intro j hj hne
  match j, hj, hne with
  | 0, _, _ => exact Or.inr zn_0_6
  | 1, _, _ => exact Or.inr zn_1_6
  | 2, _, _ => exact Or.inr zn_2_6
  | 3, _, _ => exact Or.inr zn_3_6
  | 4, _, _ => exact Or.inr zn_4_6
  | 5, _, _ => exact Or.inr zn_5_6
  | 6, _, h => exact absurd rfl h
  | 7, _, _ => exact Or.inl zn_6_7
  | 8, _, _ => exact Or.inl zn_6_8
  | 9, _, _ => exact Or.inl zn_6_9
  | 10, _, _ => exact Or.inl zn_6_10
  | 11, _, _ => exact Or.inl zn_6_11
  | 12, _, _ => exact Or.inl zn_6_12
  | 13, _, _ => exact Or.inl zn_6_13
  | 14, _, _ => exact Or.inl zn_6_14
  | j + 15, hj, _ => exact absurd hj (by omega)
theorem zF_ne7 : ∀ j, j < 15 → 7 ≠ j → Cond.not (Cond.eq (zTm 7) (zTm j)) ∈ zF ∨ Cond.not (Cond.eq (zTm j) (zTm 7)) ∈ zF := by
  intro j hj hne
  match j, hj, hne with
  | 0, _, _ => exact Or.inr zn_0_7
  | 1, _, _ => exact Or.inr zn_1_7
  | 2, _, _ => exact Or.inr zn_2_7
  | 3, _, _ => exact Or.inr zn_3_7
  | 4, _, _ => exact Or.inr zn_4_7
  | 5, _, _ => exact Or.inr zn_5_7
  | 6, _, _ => exact Or.inr zn_6_7
  | 7, _, h => exact absurd rfl h
  | 8, _, _ => exact Or.inl zn_7_8
  | 9, _, _ => exact Or.inl zn_7_9
  | 10, _, _ => exact Or.inl zn_7_10
  | 11, _, _ => exact Or.inl zn_7_11
  | 12, _, _ => exact Or.inl zn_7_12
  | 13, _, _ => exact Or.inl zn_7_13
  | 14, _, _ => exact Or.inl zn_7_14
  | j + 15, hj, _ => exact absurd hj (by omega)
theorem zF_ne8 : ∀ j, j < 15 → 8 ≠ j → Cond.not (Cond.eq (zTm 8) (zTm j)) ∈ zF ∨ Cond.not (Cond.eq (zTm j) (zTm 8)) ∈ zF := by
  intro j hj hne
  match j, hj, hne with
  | 0, _, _ => exact Or.inr zn_0_8
  | 1, _, _ => exact Or.inr zn_1_8
  | 2, _, _ => exact Or.inr zn_2_8
  | 3, _, _ => exact Or.inr zn_3_8
  | 4, _, _ => exact Or.inr zn_4_8
  | 5, _, _ => exact Or.inr zn_5_8
  | 6, _, _ => exact Or.inr zn_6_8
  | 7, _, _ => exact Or.inr zn_7_8
  | 8, _, h => exact absurd rfl h
  | 9, _, _ => exact Or.inl zn_8_9
  | 10, _, _ => exact Or.inl zn_8_10
  | 11, _, _ => exact Or.inl zn_8_11
  | 12, _, _ => exact Or.inl zn_8_12
  | 13, _, _ => exact Or.inl zn_8_13
  | 14, _, _ => exact Or.inl zn_8_14
  | j + 15, hj, _ => exact absurd hj (by omega)
theorem zF_ne9 : ∀ j, j < 15 → 9 ≠ j → Cond.not (Cond.eq (zTm 9) (zTm j)) ∈ zF ∨ Cond.not (Cond.eq (zTm j) (zTm 9)) ∈ zF := by
  intro j hj hne
  match j, hj, hne with
  | 0, _, _ => exact Or.inr zn_0_9
  | 1, _, _ => exact Or.inr zn_1_9
  | 2, _, _ => exact Or.inr zn_2_9
  | 3, _, _ => exact Or.inr zn_3_9
  | 4, _, _ => exact Or.inr zn_4_9
  | 5, _, _ => exact Or.inr zn_5_9
  | 6, _, _ => exact Or.inr zn_6_9
  | 7, _, _ => exact Or.inr zn_7_9
  | 8, _, _ => exact Or.inr zn_8_9
  | 9, _, h => exact absurd rfl h
  | 10, _, _ => exact Or.inl zn_9_10
  | 11, _, _ => exact Or.inl zn_9_11
  | 12, _, _ => exact Or.inl zn_9_12
  | 13, _, _ => exact Or.inl zn_9_13
  | 14, _, _ => exact Or.inl zn_9_14
  | j + 15, hj, _ => exact absurd hj (by omega)
theorem zF_ne10 : ∀ j, j < 15 → 10 ≠ j → Cond.not (Cond.eq (zTm 10) (zTm j)) ∈ zF ∨ Cond.not (Cond.eq (zTm j) (zTm 10)) ∈ zF := by
  intro j hj hne
  match j, hj, hne with
  | 0, _, _ => exact Or.inr zn_0_10
  | 1, _, _ => exact Or.inr zn_1_10
  | 2, _, _ => exact Or.inr zn_2_10
  | 3, _, _ => exact Or.inr zn_3_10
  | 4, _, _ => exact Or.inr zn_4_10
  | 5, _, _ => exact Or.inr zn_5_10
  | 6, _, _ => exact Or.inr zn_6_10
  | 7, _, _ => exact Or.inr zn_7_10
  | 8, _, _ => exact Or.inr zn_8_10
  | 9, _, _ => exact Or.inr zn_9_10
  | 10, _, h => exact absurd rfl h
  | 11, _, _ => exact Or.inl zn_10_11
  | 12, _, _ => exact Or.inl zn_10_12
  | 13, _, _ => exact Or.inl zn_10_13
  | 14, _, _ => exact Or.inl zn_10_14
  | j + 15, hj, _ => exact absurd hj (by omega)
theorem zF_ne11 : ∀ j, j < 15 → 11 ≠ j → Cond.not (Cond.eq (zTm 11) (zTm j)) ∈ zF ∨ Cond.not (Cond.eq (zTm j) (zTm 11)) ∈ zF := by
  intro j hj hne
  match j, hj, hne with
  | 0, _, _ => exact Or.inr zn_0_11
  | 1, _, _ => exact Or.inr zn_1_11
  | 2, _, _ => exact Or.inr zn_2_11
  | 3, _, _ => exact Or.inr zn_3_11
  | 4, _, _ => exact Or.inr zn_4_11
  | 5, _, _ => exact Or.inr zn_5_11
  | 6, _, _ => exact Or.inr zn_6_11
  | 7, _, _ => exact Or.inr zn_7_11
  | 8, _, _ => exact Or.inr zn_8_11
  | 9, _, _ => exact Or.inr zn_9_11
  | 10, _, _ => exact Or.inr zn_10_11
  | 11, _, h => exact absurd rfl h
  | 12, _, _ => exact Or.inl zn_11_12
  | 13, _, _ => exact Or.inl zn_11_13
  | 14, _, _ => exact Or.inl zn_11_14
  | j + 15, hj, _ => exact absurd hj (by omega)
theorem zF_ne12 : ∀ j, j < 15 → 12 ≠ j → Cond.not (Cond.eq (zTm 12) (zTm j)) ∈ zF ∨ Cond.not (Cond.eq (zTm j) (zTm 12)) ∈ zF := by
  intro j hj hne
  match j, hj, hne with
  | 0, _, _ => exact Or.inr zn_0_12
  | 1, _, _ => exact Or.inr zn_1_12
  | 2, _, _ => exact Or.inr zn_2_12
  | 3, _, _ => exact Or.inr zn_3_12
  | 4, _, _ => exact Or.inr zn_4_12
  | 5, _, _ => exact Or.inr zn_5_12
  | 6, _, _ => exact Or.inr zn_6_12
  | 7, _, _ => exact Or.inr zn_7_12
  | 8, _, _ => exact Or.inr zn_8_12
  | 9, _, _ => exact Or.inr zn_9_12
  | 10, _, _ => exact Or.inr zn_10_12
  | 11, _, _ => exact Or.inr zn_11_12
  | 12, _, h => exact absurd rfl h
  | 13, _, _ => exact Or.inl zn_12_13
  | 14, _, _ => exact Or.inl zn_12_14
  | j + 15, hj, _ => exact absurd hj (by omega)
theorem zF_ne13 : ∀ j, j < 15 → 13 ≠ j → Cond.not (Cond.eq (zTm 13) (zTm j)) ∈ zF ∨ Cond.not (Cond.eq (zTm j) (zTm 13)) ∈ zF := by
  intro j hj hne
  match j, hj, hne with
  | 0, _, _ => exact Or.inr zn_0_13
  | 1, _, _ => exact Or.inr zn_1_13
  | 2, _, _ => exact Or.inr zn_2_13
  | 3, _, _ => exact Or.inr zn_3_13
  | 4, _, _ => exact Or.inr zn_4_13
  | 5, _, _ => exact Or.inr zn_5_13
  | 6, _, _ => exact Or.inr zn_6_13
  | 7, _, _ => exact Or.inr zn_7_13
  | 8, _, _ => exact Or.inr zn_8_13
  | 9, _, _ => exact Or.inr zn_9_13
  | 10, _, _ => exact Or.inr zn_10_13
  | 11, _, _ => exact Or.inr zn_11_13
  | 12, _, _ => exact Or.inr zn_12_13
  | 13, _, h => exact absurd rfl h
  | 14, _, _ => exact Or.inl zn_13_14
  | j + 15, hj, _ => exact absurd hj (by omega)
theorem zF_ne14 : ∀ j, j < 15 → 14 ≠ j → Cond.not (Cond.eq (zTm 14) (zTm j)) ∈ zF ∨ Cond.not (Cond.eq (zTm j) (zTm 14)) ∈ zF := by
  intro j hj hne
  match j, hj, hne with
  | 0, _, _ => exact Or.inr zn_0_14
  | 1, _, _ => exact Or.inr zn_1_14
  | 2, _, _ => exact Or.inr zn_2_14
  | 3, _, _ => exact Or.inr zn_3_14
  | 4, _, _ => exact Or.inr zn_4_14
  | 5, _, _ => exact Or.inr zn_5_14
  | 6, _, _ => exact Or.inr zn_6_14
  | 7, _, _ => exact Or.inr zn_7_14
  | 8, _, _ => exact Or.inr zn_8_14
  | 9, _, _ => exact Or.inr zn_9_14
  | 10, _, _ => exact Or.inr zn_10_14
  | 11, _, _ => exact Or.inr zn_11_14
  | 12, _, _ => exact Or.inr zn_12_14
  | 13, _, _ => exact Or.inr zn_13_14
  | 14, _, h => exact absurd rfl h
  | j + 15, hj, _ => exact absurd hj (by omega)
theorem zF_ne : ∀ i, i < 15 → ∀ j, j < 15 → i ≠ j → Cond.not (Cond.eq (zTm i) (zTm j)) ∈ zF ∨ Cond.not (Cond.eq (zTm j) (zTm i)) ∈ zF := by
  intro i hi
  match i, hi with
  | 0, _ => exact zF_ne0
  | 1, _ => exact zF_ne1
  | 2, _ => exact zF_ne2
  | 3, _ => exact zF_ne3
  | 4, _ => exact zF_ne4
  | 5, _ => exact zF_ne5
  | 6, _ => exact zF_ne6
  | 7, _ => exact zF_ne7
  | 8, _ => exact zF_ne8
  | 9, _ => exact zF_ne9
  | 10, _ => exact zF_ne10
  | 11, _ => exact zF_ne11
  | 12, _ => exact zF_ne12
  | 13, _ => exact zF_ne13
  | 14, _ => exact zF_ne14
  | i + 15, hi => exact absurd hi (by omega)
set_option maxRecDepth 100000 in
theorem zF_cs : Cond.eq (.static "java/lang/String" "COMPACT_STRINGS" "Z") (.int 1) ∈ zF := by decide +kernel
set_option maxRecDepth 100000 in
theorem zF_fm : Cond.isRef (.static "jdk/internal/util/Preconditions" "SIOOBE_FORMATTER" "Ljava/util/function/BiFunction;") ∈ zF := by decide +kernel
set_option maxRecDepth 100000 in
theorem zT_sr : ∀ j, j < 15 → Cond.stringRef RX4 (mSt.getD j (0, "")).1 (mSt.getD j (0, "")).2 ∈ lw_tbl := by decide +kernel
set_option maxRecDepth 100000 in
theorem zT_ns : ∀ q ∈ mNs, Cond.methodLinkNest q.1 q.2.1 q.2.2.1 q.2.2.2 ∈ lw_tbl := by decide +kernel
set_option maxRecDepth 100000 in
theorem zT_ao : Cond.arrayOver (.array .int) ∈ lw_tbl := by decide +kernel
set_option maxRecDepth 100000 in
theorem zT_ac : Cond.arrayClass .int ∈ lw_tbl ∧ Cond.arrayClass .byte ∈ lw_tbl ∧ Cond.arrayClass .boolean ∈ lw_tbl ∧ Cond.arrayClass .long ∈ lw_tbl := by decide +kernel
set_option maxRecDepth 100000 in
theorem zT_st : Cond.laysStatic "java/lang/String" "COMPACT_STRINGS" "Z" ∈ lw_tbl ∧ Cond.initialized "java/lang/String" ∈ lw_tbl ∧ Cond.laysStatic "jdk/internal/util/Preconditions" "SIOOBE_FORMATTER" "Ljava/util/function/BiFunction;" ∈ lw_tbl ∧ Cond.initialized "jdk/internal/util/Preconditions" ∈ lw_tbl := by decide +kernel
theorem zArr {args : Array Value} {s : State} {ty : FieldType} (h : (Cond.arrayClass ty).before args s = true) (hn : ∀ C, ty ≠ .object C) : ∃ cA, ArrOfT s cA ty ∧ va_RA s cA ty := by
  obtain ⟨cA, kA, comp, h1, h2, h3⟩ := Cond.arrayClass_spec h
  refine ⟨cA, fun n z => ⟨fun k h => (by cases h), kA, h2, comp, h3⟩, ?_⟩
  cases ty with
  | object C => exact absurd rfl (hn C)
  | _ => exact h1
theorem mAO_arr {s : State} (h : mAO s) : ∃ cA, ArrOfT s cA (.array .int) ∧ va_RA s cA (.array .int) := by
  unfold mAO Cond.before Cond.holds at h
  simp only [Cond.value, beq_iff_eq] at h
  cases hc : s.vm.findClass (FieldType.array .int).toString with
  | none => simp [hc] at h
  | some comp =>
    simp only [hc, Option.bind_some, Option.bind_eq_some_iff, Option.map_eq_some_iff] at h
    obtain ⟨c, h2, k, h3, h4⟩ := h
    cases hk : k.kind with
    | array cm ty =>
      rw [hk] at h4
      simp only [Bool.and_eq_true, decide_eq_true_eq] at h4
      obtain ⟨e1, e2⟩ := h4
      subst e1
      exact ⟨c, fun n z => ⟨fun k h => (by cases h), k, h3, cm, hk⟩, e2⟩
    | _ => rw [hk] at h4; cases h4
theorem mCl_inst {a : Nat} {r : vw_C} (h : vwCl[a]? = some r) : Cond.instantiable r.1 r.2.2 ∈ mTb := by
  match a, h with
  | 0, h => cases h; exact ls_RX0
  | 1, h => cases h; exact ls_RX1
  | 2, h => cases h; exact ls_RX2
  | 3, h => cases h; exact ls_RX3
  | 4, h => cases h; exact ls_RX4
  | 5, h => cases h; exact ls_RX5
  | 6, h => cases h; exact ls_RX6
  | 7, h => cases h; exact ls_RX7
  | 8, h => cases h; exact ls_RX8
  | 9, h => cases h; exact ls_RX9
  | 10, h => cases h; exact ls_RX10
  | 11, h => cases h; exact ls_RX11
  | 12, h => cases h; exact ls_RX12
  | n + 13, h => cases h
set_option maxRecDepth 100000 in
theorem mStart {p : Program} {s : State} {m : MethodId} {meth : Method} {c : Code} {b L : Nat} {xs : Nat → Int32} (C0 : lw_At p s m meth c b L xs) : ∃ G : mG, G.1 = s.heap.size ∧ G.2.1 300 = b ∧ mCx p room_1 s m #[Value.ref b] meth c G cL_law RL 4 false 233 54500 0 0 := by
  obtain ⟨hx, hb, hr, hml, hown, hts, hX, hbl, hlocks, hgv⟩ := C0
  have hs := flat_of_before _ hgv
  have hA0 : ∀ a : Nat, a < s.heap.size → ¬ (fun q : Nat => s.heap.size ≤ q) a := fun a h => Nat.not_le.mpr h
  obtain ⟨adK, adV, hS, hE⟩ := vk_Sof (args := #[Value.ref b]) (s := s) (N := 15) (tm := zTm) (len := mStL) (byt := mStB) (A := fun q : Nat => s.heap.size ≤ q) (by decide +kernel) (fun i hi => hs _ (zF_ex i hi)) (fun i hi => hs _ (zF_co i hi)) (fun i hi => hs _ (zF_ar i hi)) (fun i hi => hs _ (zF_le i hi)) (fun i hi j hj => hs _ (zF_el i hi j hj)) (fun i j hi hj hij => (zF_ne i hi j hj hij).elim (fun h => Or.inl (hs _ h)) (fun h => Or.inr (hs _ h))) hA0
  have hZ1 := va_Zof (A := fun q : Nat => s.heap.size ≤ q) (hts _ zT_st.1) (hts _ zT_st.2.1) (va_eqi (hs _ zF_cs)) hA0
  obtain ⟨fv, hf1, hf2⟩ := Cond.isRef_spec (hs _ zF_fm)
  have hZ2 := va_Zof (A := fun q : Nat => s.heap.size ≤ q) (hts _ zT_st.2.2.1) (hts _ zT_st.2.2.2) hf1 hA0
  have hao : mAO s := hts _ zT_ao
  obtain ⟨cI, aI⟩ := zArr (hts _ zT_ac.1) (fun C h => by cases h)
  obtain ⟨cB, aB⟩ := zArr (hts _ zT_ac.2.1) (fun C h => by cases h)
  obtain ⟨cZ, aZ⟩ := zArr (hts _ zT_ac.2.2.1) (fun C h => by cases h)
  obtain ⟨cJ, aJ⟩ := zArr (hts _ zT_ac.2.2.2) (fun C h => by cases h)
  obtain ⟨cR, aR⟩ := mAO_arr hao
  have hk : ∀ a : Nat, ∃ q : ClassId × (Nat → Nat), ∀ r, vwCl[a]? = some r → u_Kn s r.1 r.2.1 r.2.2 q.1 q.2 := by
    intro a
    cases e : vwCl[a]? with
    | none => exact ⟨(0, fun _ => 0), fun r h => by cases h⟩
    | some r =>
      obtain ⟨cC, iS, h⟩ := u_known (C := r.1) (T := r.2.1) (N := r.2.2) (n := r.2.2) (ws := mTb) (fun w hw => hts w (mTb_in hw)) (mCl_in e) (hts _ (mTb_in (mCl_inst e)))
      exact ⟨(cC, iS), fun r' h' => by cases h'; exact h⟩
  obtain ⟨D, hD⟩ := Classical.axiomOfChoice hk
  have hT : ∀ (k : Nat) (q : ClassId × FieldType), ([(cI, .int), (cB, .byte), (cZ, .boolean), (cJ, .long), (cR, .array .int)] : List (ClassId × FieldType))[k]? = some q → ArrOfT s q.1 q.2 ∧ va_RA s q.1 q.2 := by
    intro k q hq
    match k, hq with
    | 0, hq => cases hq; exact aI
    | 1, hq => cases hq; exact aB
    | 2, hq => cases hq; exact aZ
    | 3, hq => cases hq; exact aJ
    | 4, hq => cases hq; exact aR
    | k + 5, hq => simp at hq
  let ft : Nat := match fv with
    | .ref a => a
    | _ => 0
  let ad : Nat → Nat := fun j => if j < 15 then adK j else if j < 115 then adV (j - 100) else if j = 200 then ft else b
  let ac : FieldType → ClassId := fun ty => match ty with
    | .int => cI
    | .byte => cB
    | .boolean => cZ
    | .long => cJ
    | _ => cR
  let G : mG := (s.heap.size, ad, adV, (fun k => (D k).1, fun k => (D k).2), ac)
  refine ⟨G, rfl, rfl, hx, hb, hml, hown, fun w hw => hts w (mTb_in hw), ⟨fun k q hq => hD k q hq, ?_⟩, rfl, ⟨?_, ?_, fun q hq => hts _ (zT_ns q hq), hao, hZ1, ?_, ?_⟩, ⟨by decide, by decide, by decide⟩, ⟨by decide, by decide⟩, fun z => by cases z⟩
  · exact hT
  · intro j q hq
    have hj : j < 15 := (List.getElem?_eq_some_iff.mp hq).1
    have e1 : mSt.getD j (0, "") = q := by rw [List.getD, hq]; rfl
    have h1 := zT_sr j hj
    have h2 := hE j hj
    unfold zTm at h2
    rw [e1] at h1 h2
    have e2 : G.2.1 j = adK j := if_pos hj
    rw [e2]
    exact vk_R.of (hts _ h1) h2
  · have hS1 : vk_S 15 mStL mStB G.2.1 G.2.2.1 (mA G) s s.heap := by
      refine ⟨fun i hi => ?_, fun i j hi hj e => ?_⟩
      · have e2 : G.2.1 i = adK i := if_pos hi
        rw [e2]
        exact hS.1 i hi
      · have e2 : G.2.1 i = adK i := if_pos hi
        have e3 : G.2.1 j = adK j := if_pos hj
        rw [e2, e3] at e
        exact hS.2 i j hi hj e
    exact hS1
  · cases fv with
    | ref a =>
      refine ⟨900200, Or.inr rfl, ?_⟩
      exact hZ2
    | null =>
      refine ⟨NUL, Or.inl rfl, ?_⟩
      exact hZ2
    | _ => cases hf2
  · intro j hj
    show (if 100 + j < 15 then adK (100 + j) else if 100 + j < 115 then adV (100 + j - 100) else if 100 + j = 200 then ft else b) = adV j
    rw [if_neg (by omega), if_pos (by omega), Nat.add_sub_cancel_left]
