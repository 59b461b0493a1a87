/-! LAWS WORKED OUT. -/
def tI (p : Prop) [Decidable p] : Int32 := if p then 1 else 0
def jn (s x y : Int32) : Int32 :=
  if s = 43 then x + y else if s = 45 then x - y else if s = 42 then x * y
  else if s = 47 then (if y = 0 then 0 else x / y) else if s = 37 then (if y = 0 then 0 else x - x / y * y)
  else if s = 60 then tI (x < y) else if s = 62 then tI (y < x) else if s = 61 then tI (x = y)
  else if s = 38 then tI (x ≠ 0 ∧ y ≠ 0) else tI (x ≠ 0 ∨ y ≠ 0)
def isOp (x : Nat) : Prop := x = 43 ∨ x = 45 ∨ x = 42 ∨ x = 47 ∨ x = 37 ∨ x = 60 ∨ x = 62 ∨ x = 61 ∨ x = 38 ∨ x = 124
theorem s_join {s : Nat} (hs : isOp s) (x y : Int32) (S : mT) : fX0_join (nI s) x y S = some (jn (nI s) x y, S) := by
  rcases hs with rfl | rfl | rfl | rfl | rfl | rfl | rfl | rfl | rfl | rfl
  · rfl
  · rfl
  · rfl
  · show (if y = 0 then fX0_join_143 (0 : Int32) S else grd (decide (¬ y = 0) && true) (fX0_join_143 (x / y) S)) = some (if y = 0 then 0 else x / y, S)
    by_cases h : y = 0
    · rw [if_pos h, if_pos h]; rfl
    · rw [if_neg h, if_neg h]; simp [h, g_t, b_d, b_c, b_v, Bool.and_true, Bool.and_self, Bool.true_and, fX0_join_143]
  · show (if y = 0 then fX0_join_155 (0 : Int32) S else grd (decide (¬ y = 0) && true) (fX0_join_155 (x - x / y * y) S)) = some (if y = 0 then 0 else x - x / y * y, S)
    by_cases h : y = 0
    · rw [if_pos h, if_pos h]; rfl
    · rw [if_neg h, if_neg h]; simp [h, g_t, b_d, b_c, b_v, Bool.and_true, Bool.and_self, Bool.true_and, fX0_join_155]
  · show fX0_join (60 : Int32) x y S = some (tI (x < y), S)
    by_cases h : x < y
    · simp [fX0_join, tI, h, fX0_join_166, Int32.not_le.mpr h]
    · simp [fX0_join, tI, h, fX0_join_166, Int32.not_lt.mp h]
  · show fX0_join (62 : Int32) x y S = some (tI (y < x), S)
    by_cases h : y < x
    · simp [fX0_join, tI, h, fX0_join_177, Int32.not_le.mpr h]
    · simp [fX0_join, tI, h, fX0_join_177, Int32.not_lt.mp h]
  · show fX0_join (61 : Int32) x y S = some (tI (x = y), S)
    by_cases h : x = y
    · simp [fX0_join, tI, h, fX0_join_188]
    · simp [fX0_join, tI, h, fX0_join_188]
  · show fX0_join (38 : Int32) x y S = some (tI (x ≠ 0 ∧ y ≠ 0), S)
    by_cases h : x = 0
    · simp [fX0_join, tI, h, fX0_join_201, fX0_join_202]
    · by_cases h2 : y = 0
      · simp [fX0_join, tI, h, h2, fX0_join_201, fX0_join_202]
      · simp [fX0_join, tI, h, h2, fX0_join_201, fX0_join_202]
  · show fX0_join (124 : Int32) x y S = some (tI (x ≠ 0 ∨ y ≠ 0), S)
    by_cases h : x = 0
    · by_cases h2 : y = 0
      · simp [fX0_join, tI, h, h2, fX0_join_211, fX0_join_216]
      · simp [fX0_join, tI, h, h2, fX0_join_211, fX0_join_216]
    · simp [fX0_join, tI, h, fX0_join_211, fX0_join_216]
theorem s_done {s : Nat} (hs : isOp s) (x y : Int32) (S : mT) : fX12_done (nI s) x y S = some (jn (nI s) x y, S) := by
  rcases hs with rfl | rfl | rfl | rfl | rfl | rfl | rfl | rfl | rfl | rfl
  · rfl
  · rfl
  · rfl
  · show (if y = 0 then fX12_done_143 (0 : Int32) S else grd (decide (¬ y = 0) && true) (fX12_done_143 (x / y) S)) = some (if y = 0 then 0 else x / y, S)
    by_cases h : y = 0
    · rw [if_pos h, if_pos h]; rfl
    · rw [if_neg h, if_neg h]; simp [h, g_t, b_d, b_c, b_v, Bool.and_true, Bool.and_self, Bool.true_and, fX12_done_143]
  · show (if y = 0 then fX12_done_155 (0 : Int32) S else grd (decide (¬ y = 0) && true) (fX12_done_155 (x - x / y * y) S)) = some (if y = 0 then 0 else x - x / y * y, S)
    by_cases h : y = 0
    · rw [if_pos h, if_pos h]; rfl
    · rw [if_neg h, if_neg h]; simp [h, g_t, b_d, b_c, b_v, Bool.and_true, Bool.and_self, Bool.true_and, fX12_done_155]
  · show fX12_done (60 : Int32) x y S = some (tI (x < y), S)
    by_cases h : x < y
    · simp [fX12_done, tI, h, fX12_done_166, s_truth, g_t, b_d, b_c, b_v, Bool.and_true, Bool.and_self, Bool.true_and, Int32.not_le.mpr h]
    · simp [fX12_done, tI, h, fX12_done_166, s_truth, g_t, b_d, b_c, b_v, Bool.and_true, Bool.and_self, Bool.true_and, Int32.not_lt.mp h]
  · show fX12_done (62 : Int32) x y S = some (tI (y < x), S)
    by_cases h : y < x
    · simp [fX12_done, tI, h, fX12_done_180, s_truth, g_t, b_d, b_c, b_v, Bool.and_true, Bool.and_self, Bool.true_and, Int32.not_le.mpr h]
    · simp [fX12_done, tI, h, fX12_done_180, s_truth, g_t, b_d, b_c, b_v, Bool.and_true, Bool.and_self, Bool.true_and, Int32.not_lt.mp h]
  · show fX12_done (61 : Int32) x y S = some (tI (x = y), S)
    by_cases h : x = y
    · simp [fX12_done, tI, h, fX12_done_194, s_truth, g_t, b_d, b_c, b_v, Bool.and_true, Bool.and_self, Bool.true_and]
    · simp [fX12_done, tI, h, fX12_done_194, s_truth, g_t, b_d, b_c, b_v, Bool.and_true, Bool.and_self, Bool.true_and]
  · show fX12_done (38 : Int32) x y S = some (tI (x ≠ 0 ∧ y ≠ 0), S)
    by_cases h : x = 0
    · simp [fX12_done, tI, h, fX12_done_210, fX12_done_211, s_truth, g_t, b_d, b_c, b_v, Bool.and_true, Bool.and_self, Bool.true_and]
    · by_cases h2 : y = 0
      · simp [fX12_done, tI, h, h2, fX12_done_210, fX12_done_211, s_truth, g_t, b_d, b_c, b_v, Bool.and_true, Bool.and_self, Bool.true_and]
      · simp [fX12_done, tI, h, h2, fX12_done_210, fX12_done_211, s_truth, g_t, b_d, b_c, b_v, Bool.and_true, Bool.and_self, Bool.true_and]
  · show fX12_done (124 : Int32) x y S = some (tI (x ≠ 0 ∨ y ≠ 0), S)
    by_cases h : x = 0
    · by_cases h2 : y = 0
      · simp [fX12_done, tI, h, h2, fX12_done_223, fX12_done_228, s_truth, g_t, b_d, b_c, b_v, Bool.and_true, Bool.and_self, Bool.true_and]
      · simp [fX12_done, tI, h, h2, fX12_done_223, fX12_done_228, s_truth, g_t, b_d, b_c, b_v, Bool.and_true, Bool.and_self, Bool.true_and]
    · simp [fX12_done, tI, h, fX12_done_223, fX12_done_228, s_truth, g_t, b_d, b_c, b_v, Bool.and_true, Bool.and_self, Bool.true_and]
/-- the values that lie there behind i pieces -/
def evs (st ar as : Nat → Int32) : Nat → Nat → Int32
  | 0 => fun _ => 0
  | i + 1 => fun j =>
    if st i = 0 then (if j = dpt st i then ar i else evs st ar as i j)
    else if st i = 1 then (if j = dpt st i then as (mIx (ar i)) else evs st ar as i j)
    else if st i = 2 then (if j = dpt st i - 1 then (if evs st ar as i (dpt st i - 1) = 0 then 1 else 0) else evs st ar as i j)
    else (if j = dpt st i - 2 then jn (ar i) (evs st ar as i (dpt st i - 2)) (evs st ar as i (dpt st i - 1)) else evs st ar as i j)
theorem dpt_le {st : Nat → Int32} : ∀ i, dpt st i ≤ i
  | 0 => Nat.le_refl _
  | i + 1 => by
    have := dpt_le (st := st) i
    unfold dpt
    split
    · omega
    · split
      · omega
      · omega
theorem dpt30 {st : Nat → Int32} {len : Nat} (h : wfp st len) : ∀ i, i ≤ len → dpt st i ≤ 30
  | 0, _ => by simp [dpt]
  | i + 1, hi => by
    have h1 := dpt30 h i (by omega)
    have h2 := (h.1 i (by omega)).1
    unfold dpt
    split
    · rename_i c
      have := h2 c
      omega
    · split
      · omega
      · omega
section
variable {a0 a1 : Nat} {st ar as : Nat → Int32} {len : Nat}
theorem s_leaf0 {x : Nat} (hx : x < 10000) (S : mT) : fX0_leaf a1 (nI x) S = some (nI x, S) := by
  have e : ¬ (0 : Int32) ≤ nI x - 10000 := by
    have h1 : (0 : Int32) ≤ nI x := (xLe (a := 0) (by omega) (by omega)).mpr (by omega)
    have h2 : nI x ≤ (9999 : Int32) := (xLe (b := 9999) (by omega) (by omega)).mpr (by omega)
    generalize nI x = y at h1 h2
    lia
  unfold fX0_leaf
  simp only [b_d, if_neg e]
theorem s_leaf1 {x : Nat} (hx : x < 6) (hs : sT a1 = .inr (.int, 6)) (ha : Nat.blt a1 233 = true) (S : mT) : fX0_leaf a1 (nI (10000 + x)) S = some (S.1 a1 x, S) := by
  have e0 : nI (10000 + x) - (10000 : Int32) = nI x := by
    rw [show (10000 : Int32) = nI 10000 from rfl, xS (by omega)]
    exact congrArg nI (by omega)
  unfold fX0_leaf fX0_leaf_25
  rw [e0, kL_of hs ha, hs]
  have c1 : (0 : Int32) ≤ nI x := (xLe (a := 0) (by omega) (by omega)).mpr (by omega)
  have c2 : ¬ nI 6 ≤ nI x := fun h => by have := (xLe (by omega) (by omega)).mp h; omega
  simp only [b_d, if_pos c1, Bool.and_true, g_t]
  rw [show Int32.ofNat (kLen (.inr (.int, 6))) = nI 6 from rfl, if_neg c2, kI_of hs ha, xIn hx (by omega), xIx (by omega)]
  rfl
theorem s_work4 (hl : len ≤ 280) (k0 : kO a0 0 = true) (k1 : ∀ x, kI (a0 + 1) x = mIn x 280) (k2 : ∀ x, kI (a0 + 2) x = mIn x 30) (hs : sT a1 = .inr (.int, 6)) (ha : Nat.blt a1 233 = true) (hne : a1 ≠ a0 + 2) (wf : wfp st len) : ∀ (m i k : Nat) (S : mT), i + m = len → m < k → S.1 a0 2 = nI len → (∀ j, j < len → pcOk (S.1 (a0 + 1) j) (st j) (ar j)) → (∀ j, j < 6 → S.1 a1 j = as j) → (∀ j, j < dpt st i → S.1 (a0 + 2) j = evs st ar as i j) → ∃ S', fX0_work_4 a0 a1 k (nI (dpt st i)) (nI i) S = some (evs st ar as len 0, S') ∧ ∀ a j, a ≠ a0 + 2 → S'.1 a j = S.1 a j
  | 0, i, k, S, hi, hk, e1, e2, e3, e4 => by
    obtain ⟨k', rfl⟩ := up1 hk
    have hi : i = len := by omega
    subst hi
    have hd := wf.2
    refine ⟨S, ?_, fun a j _ => rfl⟩
    unfold fX0_work_4 fX0_work_152
    rw [k0, hd, e1]
    have e5 := e4 0 (by omega)
    simp (disch := omega) [g_t, b_d, b_c, b_v, Bool.and_true, Bool.and_self, Bool.true_and, xL, xN1, nI_add, xM, xS, xP, xIx, xIn, xLe, xLt, xEq, xDv, k2, e5]
  | m + 1, i, k, S, hi, hk, e1, e2, e3, e4 => by
    obtain ⟨k', rfl⟩ := up1 hk
    have hp := e2 i (by omega)
    have hw := wf.1 i (by omega)
    have hd := dpt30 wf i (by omega)
    have hc : ¬ len ≤ i := by omega
    have IH := fun S' => s_work4 hl k0 k1 k2 hs ha hne wf m (i + 1) k' S' (by omega) (by omega)
    have n1 : a0 ≠ a0 + 2 := by omega
    have n2 : a0 + 1 ≠ a0 + 2 := by omega
    rcases hp with ⟨c, x, hx, ea, ec⟩ | ⟨c, x, hx, ea, ec⟩ | ⟨c, ec⟩ | ⟨c, x, hx, ea, ec⟩
    · have hd1 := hw.1 (Or.inl c)
      have d1 : dpt st (i + 1) = dpt st i + 1 := by simp [dpt, c]
      obtain ⟨S', f1, f2⟩ := IH (sI S (a0 + 2) (dpt st i) (nI x)) (by rw [sI_rd, if_neg (by omega)]; exact e1) (fun j hj => by rw [sI_rd, if_neg (by omega)]; exact e2 j hj) (fun j hj => by rw [sI_rd, if_neg (by omega)]; exact e3 j hj) (fun j hj => by
        rw [sI_rd]
        simp only [evs, c, if_true, true_and]
        by_cases q : j = dpt st i
        · rw [if_pos q, if_pos q, ea]
        · rw [if_neg q, if_neg q]
          exact e4 j (by omega))
      refine ⟨S', ?_, fun a j g => by rw [f2 a j g, sI_rd, if_neg (by omega)]⟩
      rw [← f1, d1]
      have c1 : ¬ 20000 ≤ x := by omega
      have c2 : ¬ 30 ≤ dpt st i := by omega
      simp (disch := omega) [fX0_work_4, fX0_work_130, g_t, b_d, b_c, b_v, Bool.and_true, Bool.and_self, Bool.true_and, xL, xN1, nI_add, xM, xS, xP, xIx, xIn, xLe, xLt, xEq, xDv, k0, k1, k2, e1, hc, ec, c1, c2, s_leaf0]
    · have hd1 := hw.1 (Or.inr c)
      have d1 : dpt st (i + 1) = dpt st i + 1 := by simp [dpt, c]
      have hs1 : ¬ st i = 0 := by rw [c]; decide
      obtain ⟨S', f1, f2⟩ := IH (sI S (a0 + 2) (dpt st i) (as x)) (by rw [sI_rd, if_neg (by omega)]; exact e1) (fun j hj => by rw [sI_rd, if_neg (by omega)]; exact e2 j hj) (fun j hj => by rw [sI_rd, if_neg (by omega)]; exact e3 j hj) (fun j hj => by
        rw [sI_rd]
        simp only [evs, if_neg hs1, if_pos c, true_and]
        by_cases q : j = dpt st i
        · rw [if_pos q, if_pos q, ea, xIx (by omega)]
        · rw [if_neg q, if_neg q]
          exact e4 j (by omega))
      refine ⟨S', ?_, fun a j g => by rw [f2 a j g, sI_rd, if_neg (by omega)]⟩
      rw [← f1, d1]
      have c1 : ¬ 20000 ≤ 10000 + x := by omega
      have c2 : ¬ 30 ≤ dpt st i := by omega
      simp (disch := omega) [fX0_work_4, fX0_work_130, g_t, b_d, b_c, b_v, Bool.and_true, Bool.and_self, Bool.true_and, xL, xN1, nI_add, xM, xS, xP, xIx, xIn, xLe, xLt, xEq, xDv, k0, k1, k2, e1, hc, ec, c1, c2, s_leaf1 hx hs ha, e3 x hx]
    · have hd1 := hw.2.1 c
      have hs0 : ¬ st i = 0 := by rw [c]; decide
      have hs1 : ¬ st i = 1 := by rw [c]; decide
      have d1 : dpt st (i + 1) = dpt st i := by simp [dpt, c]
      obtain ⟨S', f1, f2⟩ := IH (sI S (a0 + 2) (dpt st i - 1) (if evs st ar as i (dpt st i - 1) = 0 then 1 else 0)) (by rw [sI_rd, if_neg (by omega)]; exact e1) (fun j hj => by rw [sI_rd, if_neg (by omega)]; exact e2 j hj) (fun j hj => by rw [sI_rd, if_neg (by omega)]; exact e3 j hj) (fun j hj => by
        rw [sI_rd]
        simp only [evs, if_neg hs0, if_neg hs1, if_pos c, true_and]
        by_cases q : j = dpt st i - 1
        · rw [if_pos q, if_pos q]
        · rw [if_neg q, if_neg q]
          exact e4 j (by omega))
      refine ⟨S', ?_, fun a j g => by rw [f2 a j g, sI_rd, if_neg (by omega)]⟩
      rw [← f1, d1]
      have c2 : ¬ dpt st i ≤ 0 := by omega
      have e5 := e4 (dpt st i - 1) (by omega)
      by_cases c3 : evs st ar as i (dpt st i - 1) = 0
      · simp (disch := omega) [fX0_work_4, fX0_work_130, fX0_work_87, g_t, b_d, b_c, b_v, Bool.and_true, Bool.and_self, Bool.true_and, xL, nI_add, xS, xIx, xIn, xLe, k0, k1, k2, e1, hc, ec, c2, e5, c3]
      · have c3' : ¬ evs st ar as i (dpt st i - 1) = nI 0 := c3
        simp (disch := omega) [fX0_work_4, fX0_work_130, fX0_work_87, g_t, b_d, b_c, b_v, Bool.and_true, Bool.and_self, Bool.true_and, xL, nI_add, xS, xIx, xIn, xLe, k0, k1, k2, e1, hc, ec, c2, e5, c3']
    · have hd1 := hw.2.2 c
      have hs0 : ¬ st i = 0 := by rw [c]; decide
      have hs1 : ¬ st i = 1 := by rw [c]; decide
      have hs2 : ¬ st i = 2 := by rw [c]; decide
      have d1 : dpt st (i + 1) = dpt st i - 1 := by simp [dpt, c]
      have hx2 : ¬ 20000 + x = 20033 := by omega
      have hx3 : x < 200 := by omega
      obtain ⟨S', f1, f2⟩ := IH (sI S (a0 + 2) (dpt st i - 2) (jn (ar i) (evs st ar as i (dpt st i - 2)) (evs st ar as i (dpt st i - 1)))) (by rw [sI_rd, if_neg (by omega)]; exact e1) (fun j hj => by rw [sI_rd, if_neg (by omega)]; exact e2 j hj) (fun j hj => by rw [sI_rd, if_neg (by omega)]; exact e3 j hj) (fun j hj => by
        rw [sI_rd]
        simp only [evs, if_neg hs0, if_neg hs1, if_neg hs2, true_and]
        by_cases q : j = dpt st i - 2
        · rw [if_pos q, if_pos q]
        · rw [if_neg q, if_neg q]
          exact e4 j (by omega))
      refine ⟨S', ?_, fun a j g => by rw [f2 a j g, sI_rd, if_neg (by omega)]⟩
      rw [← f1, d1]
      have c2 : ¬ dpt st i ≤ 1 := by omega
      have e5 := e4 (dpt st i - 1) (by omega)
      have e6 := e4 (dpt st i - 2) (by omega)
      have e7 : dpt st i - 1 - 1 = dpt st i - 2 := by omega
      simp (disch := omega) [fX0_work_4, fX0_work_130, g_t, b_d, b_c, b_v, Bool.and_true, Bool.and_self, Bool.true_and, xL, xN1, nI_add, xM, xS, xP, xIx, xIn, xLe, xLt, xEq, xDv, k0, k1, k2, e1, hc, ec, ea, c2, e5, e6, e7, hx2, s_join hx]
theorem s_work (hl : len ≤ 280) (k0 : kO a0 0 = true) (k1 : ∀ x, kI (a0 + 1) x = mIn x 280) (k2 : ∀ x, kI (a0 + 2) x = mIn x 30) (hs : sT a1 = .inr (.int, 6)) (ha : Nat.blt a1 233 = true) (hne : a1 ≠ a0 + 2) (wf : wfp st len) {S : mT} (e1 : S.1 a0 2 = nI len) (e2 : ∀ j, j < len → pcOk (S.1 (a0 + 1) j) (st j) (ar j)) (e3 : ∀ j, j < 6 → S.1 a1 j = as j) : ∃ S', fX0_work a0 a1 S = some (evs st ar as len 0, S') ∧ ∀ a j, a ≠ a0 + 2 → S'.1 a j = S.1 a j :=
  s_work4 hl k0 k1 k2 hs ha hne wf len 0 mK S (by omega) (by have := mK_gt; omega) e1 e2 e3 (fun j hj => by simp [dpt] at hj)
theorem s_worked8 {f : Nat} (hf : f < 3) (hl : len ≤ 280) (wf : wfp st len) : ∀ (m i k : Nat) (S : mT) (cr : Nat → Int32), i + m = len → m < k → S.1 195 f = nI len → (∀ j, j < len → S.1 193 (320 * f + j) = st j ∧ S.1 194 (320 * f + j) = ar j ∧ pcOk (cr j) (st j) (ar j)) → (∀ j, j < 6 → S.1 200 j = as j) → (∀ j, j < dpt st i → S.1 197 j = evs st ar as i j) → ∃ S', fX12_worked_8 k (nI f) (nI (dpt st i)) (nI (320 * f + i)) S = some (evs st ar as len 0, S') ∧ ∀ a j, a ≠ 197 → S'.1 a j = S.1 a j
  | 0, i, k, S, cr, hi, hk, e1, e2, e3, e4 => by
    obtain ⟨k', rfl⟩ := up1 hk
    have hi : i = len := by omega
    subst hi
    have hd := wf.2
    refine ⟨S, ?_, fun a j _ => rfl⟩
    have e5 := e4 0 (by omega)
    rw [hd]
    simp (disch := omega) [fX12_worked_8, kO_187, kI_195, kI_197, kI_193, kI_194, fX12_worked_43, kI_200, fX12_worked_77, fX12_worked_158, fX12_worked_117, g_t, b_d, b_c, b_v, Bool.and_true, Bool.and_self, Bool.true_and, xL, xN1, nI_add, xM, xS, xP, xIx, xIn, xLe, xLt, xEq, xDv, e1, e5]
  | m + 1, i, k, S, cr, hi, hk, e1, e2, e3, e4 => by
    obtain ⟨k', rfl⟩ := up1 hk
    obtain ⟨es, ea', hp⟩ := e2 i (by omega)
    have hw := wf.1 i (by omega)
    have hd := dpt30 wf i (by omega)
    have hc : ¬ 320 * f + len ≤ 320 * f + i := by omega
    have IH := fun S' => s_worked8 hf hl wf m (i + 1) k' S' cr (by omega) (by omega)
    rcases hp with ⟨c, x, hx, ea, ec⟩ | ⟨c, x, hx, ea, ec⟩ | ⟨c, ec⟩ | ⟨c, x, hx, ea, ec⟩
    · have hd1 := hw.1 (Or.inl c)
      have d1 : dpt st (i + 1) = dpt st i + 1 := by simp [dpt, c]
      have es' : S.1 193 (320 * f + i) = nI 0 := es.trans c
      obtain ⟨S', f1, f2⟩ := IH (sI S 197 (dpt st i) (nI x)) (by rw [sI_rd, if_neg (by omega)]; exact e1) (fun j hj => by rw [sI_rd, if_neg (by omega), sI_rd, if_neg (by omega)]; exact e2 j hj) (fun j hj => by rw [sI_rd, if_neg (by omega)]; exact e3 j hj) (fun j hj => by
        rw [sI_rd]
        simp only [evs, c, if_true, true_and]
        by_cases q : j = dpt st i
        · rw [if_pos q, if_pos q, ea]
        · rw [if_neg q, if_neg q]
          exact e4 j (by omega))
      refine ⟨S', ?_, fun a j g => by rw [f2 a j g, sI_rd, if_neg (by omega)]⟩
      rw [← f1, d1]
      simp (disch := omega) [fX12_worked_8, kO_187, kI_195, kI_197, kI_193, kI_194, fX12_worked_43, kI_200, fX12_worked_77, fX12_worked_158, fX12_worked_117, g_t, b_d, b_c, b_v, Bool.and_true, Bool.and_self, Bool.true_and, xL, xN1, nI_add, xM, xS, xP, xIx, xIn, xLe, xLt, xEq, xDv, e1, hc, es', ea', ea, Nat.add_assoc]
    · have hd1 := hw.1 (Or.inr c)
      have d1 : dpt st (i + 1) = dpt st i + 1 := by simp [dpt, c]
      have hs1 : ¬ st i = 0 := by rw [c]; decide
      have es' : S.1 193 (320 * f + i) = nI 1 := es.trans c
      obtain ⟨S', f1, f2⟩ := IH (sI S 197 (dpt st i) (as x)) (by rw [sI_rd, if_neg (by omega)]; exact e1) (fun j hj => by rw [sI_rd, if_neg (by omega), sI_rd, if_neg (by omega)]; exact e2 j hj) (fun j hj => by rw [sI_rd, if_neg (by omega)]; exact e3 j hj) (fun j hj => by
        rw [sI_rd]
        simp only [evs, if_neg hs1, if_pos c, true_and]
        by_cases q : j = dpt st i
        · rw [if_pos q, if_pos q, ea, xIx (by omega)]
        · rw [if_neg q, if_neg q]
          exact e4 j (by omega))
      refine ⟨S', ?_, fun a j g => by rw [f2 a j g, sI_rd, if_neg (by omega)]⟩
      rw [← f1, d1]
      simp (disch := omega) [fX12_worked_8, kO_187, kI_195, kI_197, kI_193, kI_194, fX12_worked_43, kI_200, fX12_worked_77, fX12_worked_158, fX12_worked_117, g_t, b_d, b_c, b_v, Bool.and_true, Bool.and_self, Bool.true_and, xL, xN1, nI_add, xM, xS, xP, xIx, xIn, xLe, xLt, xEq, xDv, e1, hc, es', ea', ea, e3 x hx, Nat.add_assoc]
    · have hd1 := hw.2.1 c
      have hs0 : ¬ st i = 0 := by rw [c]; decide
      have hs1 : ¬ st i = 1 := by rw [c]; decide
      have d1 : dpt st (i + 1) = dpt st i := by simp [dpt, c]
      have es' : S.1 193 (320 * f + i) = nI 2 := es.trans c
      obtain ⟨S', f1, f2⟩ := IH (sI S 197 (dpt st i - 1) (if evs st ar as i (dpt st i - 1) = 0 then 1 else 0)) (by rw [sI_rd, if_neg (by omega)]; exact e1) (fun j hj => by rw [sI_rd, if_neg (by omega), sI_rd, if_neg (by omega)]; exact e2 j hj) (fun j hj => by rw [sI_rd, if_neg (by omega)]; exact e3 j hj) (fun j hj => by
        rw [sI_rd]
        simp only [evs, if_neg hs0, if_neg hs1, if_pos c, true_and]
        by_cases q : j = dpt st i - 1
        · rw [if_pos q, if_pos q]
        · rw [if_neg q, if_neg q]
          exact e4 j (by omega))
      refine ⟨S', ?_, fun a j g => by rw [f2 a j g, sI_rd, if_neg (by omega)]⟩
      rw [← f1, d1]
      have e5 := e4 (dpt st i - 1) (by omega)
      by_cases c3 : evs st ar as i (dpt st i - 1) = 0
      · have c3' : evs st ar as i (dpt st i - 1) = nI 0 := c3
        simp (disch := omega) [fX12_worked_8, kO_187, kI_195, kI_197, kI_193, kI_194, fX12_worked_43, kI_200, fX12_worked_77, fX12_worked_158, fX12_worked_117, g_t, b_d, b_c, b_v, Bool.and_true, Bool.and_self, Bool.true_and, xL, xN1, nI_add, xM, xS, xP, xIx, xIn, xLe, xLt, xEq, xDv, s_truth, e1, hc, es', e5, c3', Nat.add_assoc]
      · have c3' : ¬ evs st ar as i (dpt st i - 1) = nI 0 := c3
        simp (disch := omega) [fX12_worked_8, kO_187, kI_195, kI_197, kI_193, kI_194, fX12_worked_43, kI_200, fX12_worked_77, fX12_worked_158, fX12_worked_117, g_t, b_d, b_c, b_v, Bool.and_true, Bool.and_self, Bool.true_and, xL, xN1, nI_add, xM, xS, xP, xIx, xIn, xLe, xLt, xEq, xDv, s_truth, e1, hc, es', e5, c3', Nat.add_assoc]
    · have hd1 := hw.2.2 c
      have hs0 : ¬ st i = 0 := by rw [c]; decide
      have hs1 : ¬ st i = 1 := by rw [c]; decide
      have hs2 : ¬ st i = 2 := by rw [c]; decide
      have d1 : dpt st (i + 1) = dpt st i - 1 := by simp [dpt, c]
      have es' : S.1 193 (320 * f + i) = nI 3 := es.trans c
      obtain ⟨S', f1, f2⟩ := IH (sI S 197 (dpt st i - 2) (jn (ar i) (evs st ar as i (dpt st i - 2)) (evs st ar as i (dpt st i - 1)))) (by rw [sI_rd, if_neg (by omega)]; exact e1) (fun j hj => by rw [sI_rd, if_neg (by omega), sI_rd, if_neg (by omega)]; exact e2 j hj) (fun j hj => by rw [sI_rd, if_neg (by omega)]; exact e3 j hj) (fun j hj => by
        rw [sI_rd]
        simp only [evs, if_neg hs0, if_neg hs1, if_neg hs2, true_and]
        by_cases q : j = dpt st i - 2
        · rw [if_pos q, if_pos q]
        · rw [if_neg q, if_neg q]
          exact e4 j (by omega))
      refine ⟨S', ?_, fun a j g => by rw [f2 a j g, sI_rd, if_neg (by omega)]⟩
      rw [← f1, d1]
      have e5 := e4 (dpt st i - 1) (by omega)
      have e6 := e4 (dpt st i - 2) (by omega)
      have e7 : dpt st i - 1 - 1 = dpt st i - 2 := by omega
      simp (disch := omega) [fX12_worked_8, kO_187, kI_195, kI_197, kI_193, kI_194, fX12_worked_43, kI_200, fX12_worked_77, fX12_worked_158, fX12_worked_117, g_t, b_d, b_c, b_v, Bool.and_true, Bool.and_self, Bool.true_and, xL, xN1, nI_add, xM, xS, xP, xIx, xIn, xLe, xLt, xEq, xDv, e1, hc, es', ea', ea, e5, e6, e7, s_done hx, Nat.add_assoc]
theorem s_worked {f : Nat} (hf : f < 3) (hl : len ≤ 280) (wf : wfp st len) {S : mT} {cr : Nat → Int32} (e1 : S.1 195 f = nI len) (e2 : ∀ j, j < len → S.1 193 (320 * f + j) = st j ∧ S.1 194 (320 * f + j) = ar j ∧ pcOk (cr j) (st j) (ar j)) (e3 : ∀ j, j < 6 → S.1 200 j = as j) : ∃ S', fX12_worked (nI f) S = some (evs st ar as len 0, S') ∧ ∀ a j, a ≠ 197 → S'.1 a j = S.1 a j := by
  obtain ⟨S', h1, h2⟩ := s_worked8 hf hl wf len 0 mK S cr (by omega) (by have := mK_gt; omega) e1 e2 e3 (fun j hj => by simp [dpt] at hj)
  refine ⟨S', ?_, h2⟩
  rw [← h1]
  unfold fX12_worked
  rw [b_d, show (320 : Int32) = nI 320 from rfl, xM]
  rfl
end
