/-! STONES AND TAXES of both. -/
def fv (S : mT) (f : Nat) (as : Nat → Int32) : Int32 := evs (fun i => S.1 193 (320 * f + i)) (fun i => S.1 194 (320 * f + i)) as (mIx (S.1 195 f)) 0
def as6 (a b c d e g : Int32) : Nat → Int32 := fun j => if j = 0 then a else if j = 1 then b else if j = 2 then c else if j = 3 then d else if j = 4 then e else g
def stP (S : mT) (x y j q yr : Int32) : Int32 := lim (if S.1 199 0 = 0 then x - y + q else fv S 0 (as6 x y j q 0 yr)) 0 99
def txP (S : mT) (st j yr : Int32) : Int32 := lim (if S.1 199 1 = 0 then st else fv S 1 (as6 0 0 j 0 st yr)) 0 999
def grP (S : mT) (x y j q st yr : Int32) : Int32 := lim (x + lim (fv S 2 (as6 x y j q st yr)) (-3) 3) 0 7
/-- the laws' cells are the same -/
def lawEq (S S' : mT) : Prop := S'.1 193 = S.1 193 ∧ S'.1 194 = S.1 194 ∧ S'.1 195 = S.1 195 ∧ S'.1 199 = S.1 199
theorem lawEq_of {S S' : mT} (h : ∀ a j, (a = 193 ∨ a = 194 ∨ a = 195 ∨ a = 199) → S'.1 a j = S.1 a j) : lawEq S S' := ⟨funext fun j => h 193 j (by omega), funext fun j => h 194 j (by omega), funext fun j => h 195 j (by omega), funext fun j => h 199 j (by omega)⟩
theorem fv_eq {S S' : mT} (h : lawEq S S') (f : Nat) (as : Nat → Int32) : fv S' f as = fv S f as := by
  unfold fv
  rw [h.1, h.2.1, h.2.2.1]
theorem stP_eq {S S' : mT} (h : lawEq S S') (x y j q yr : Int32) : stP S' x y j q yr = stP S x y j q yr := by
  unfold stP
  rw [fv_eq h, h.2.2.2]
theorem txP_eq {S S' : mT} (h : lawEq S S') (st j yr : Int32) : txP S' st j yr = txP S st j yr := by
  unfold txP
  rw [fv_eq h, h.2.2.2]
theorem grP_eq {S S' : mT} (h : lawEq S S') (x y j q st yr : Int32) : grP S' x y j q st yr = grP S x y j q st yr := by
  unfold grP
  rw [fv_eq h]
theorem lim_n {v : Int32} {lo hi : Nat} (h : lo ≤ hi) (hh : hi < 2000000) : ∃ w, lo ≤ w ∧ w ≤ hi ∧ lim v (nI lo) (nI hi) = nI w := by
  unfold lim
  by_cases c : v < nI lo
  · exact ⟨lo, by omega, h, by rw [if_pos c]⟩
  · rw [if_neg c]
    by_cases c2 : nI hi < v
    · exact ⟨hi, h, by omega, by rw [if_pos c2]⟩
    · rw [if_neg c2]
      rcases v_cases lo hi h hh v with q | q | ⟨w, q1, q2, q3⟩
      · exact absurd q c
      · exact absurd q c2
      · exact ⟨w, q1, q2, q3⟩
theorem stP_n (S : mT) (x y j q yr : Int32) : ∃ w, w ≤ 99 ∧ stP S x y j q yr = nI w := by
  obtain ⟨w, _, h, e⟩ := lim_n (lo := 0) (hi := 99) (v := if S.1 199 0 = 0 then x - y + q else fv S 0 (as6 x y j q 0 yr)) (by omega) (by omega)
  exact ⟨w, h, e⟩
theorem txP_n (S : mT) (st j yr : Int32) : ∃ w, w ≤ 999 ∧ txP S st j yr = nI w := by
  obtain ⟨w, _, h, e⟩ := lim_n (lo := 0) (hi := 999) (v := if S.1 199 1 = 0 then st else fv S 1 (as6 0 0 j 0 st yr)) (by omega) (by omega)
  exact ⟨w, h, e⟩
theorem grP_n (S : mT) (x y j q st yr : Int32) : ∃ w, w ≤ 7 ∧ grP S x y j q st yr = nI w := by
  obtain ⟨w, _, h, e⟩ := lim_n (lo := 0) (hi := 7) (v := x + lim (fv S 2 (as6 x y j q st yr)) (-3) 3) (by omega) (by omega)
  exact ⟨w, h, e⟩
theorem kF (b : Bool) {f : Nat} (hf : f < 3) : kO (shU b + 6 + 3 * f) 0 = true ∧ (∀ x, kI (shU b + 6 + 3 * f + 1) x = mIn x 280) ∧ (∀ x, kI (shU b + 6 + 3 * f + 2) x = mIn x 30) ∧ sT (shU b + 15) = .inr (.int, 6) ∧ Nat.blt (shU b + 15) 233 = true := by
  rcases (by omega : f = 0 ∨ f = 1 ∨ f = 2) with rfl | rfl | rfl
  · cases b
    · exact ⟨by decide +kernel, kI_10, kI_11, by decide +kernel, by decide +kernel⟩
    · exact ⟨by decide +kernel, kI_26, kI_27, by decide +kernel, by decide +kernel⟩
  · cases b
    · exact ⟨by decide +kernel, kI_13, kI_14, by decide +kernel, by decide +kernel⟩
    · exact ⟨by decide +kernel, kI_29, kI_30, by decide +kernel, by decide +kernel⟩
  · cases b
    · exact ⟨by decide +kernel, kI_16, kI_17, by decide +kernel, by decide +kernel⟩
    · exact ⟨by decide +kernel, kI_32, kI_33, by decide +kernel, by decide +kernel⟩
theorem c_form {b : Bool} {f : Nat} (hf : f < 3) {S : mT} (hF : rForm (shU b) f S) (told : ¬ S.1 199 f = 0) {as : Nat → Int32} (e3 : ∀ j, j < 6 → S.1 (shU b + 15) j = as j) : ∃ S', fX0_work (shU b + 6 + 3 * f) (shU b + 15) S = some (fv S f as, S') ∧ ∀ a j, a ≠ shU b + 8 + 3 * f → S'.1 a j = S.1 a j := by
  rcases hF with ⟨_, h⟩ | ⟨_, _, len, hl, h1, h2, wf, h3⟩
  · exact absurd h told
  · obtain ⟨q1, q2, q3, q4, q5⟩ := kF b hf
    obtain ⟨S', g1, g2⟩ := s_work (a0 := shU b + 6 + 3 * f) (a1 := shU b + 15) (as := as) hl q1 q2 q3 q4 q5 (by omega) wf h1 (fun j hj => by rw [show shU b + 6 + 3 * f + 1 = shU b + 7 + 3 * f by omega]; exact h3 j hj) e3
    refine ⟨S', ?_, fun a j g => g2 a j (by omega)⟩
    rw [g1]
    unfold fv
    rw [h2, xIx (by omega)]
theorem m_form {u f : Nat} (hf : f < 3) {S : mT} (hF : rForm u f S) (told : ¬ S.1 199 f = 0) {as : Nat → Int32} (e3 : ∀ j, j < 6 → S.1 200 j = as j) : ∃ S', fX12_worked (nI f) S = some (fv S f as, S') ∧ ∀ a j, a ≠ 197 → S'.1 a j = S.1 a j := by
  rcases hF with ⟨_, h⟩ | ⟨_, _, len, hl, h1, h2, wf, h3⟩
  · exact absurd h told
  · obtain ⟨S', g1, g2⟩ := s_worked (as := as) (cr := S.1 (u + 7 + 3 * f)) hf hl wf h2 (fun j hj => ⟨rfl, rfl, h3 j hj⟩) e3
    refine ⟨S', ?_, g2⟩
    rw [g1]
    unfold fv
    rw [h2, xIx (by omega)]
theorem s_setV (b : Bool) (v1 v2 v3 v4 v5 v6 : Int32) (S : mT) : ∃ S', fX8_setValues (shU b) v1 v2 v3 v4 v5 v6 S = some S' ∧ (∀ j, j < 6 → S'.1 (shU b + 15) j = as6 v1 v2 v3 v4 v5 v6 j) ∧ ∀ a j, a ≠ shU b + 15 → S'.1 a j = S.1 a j := by
  refine ⟨sI (sI (sI (sI (sI (sI S (shU b + 15) 0 v1) (shU b + 15) 1 v2) (shU b + 15) 2 v3) (shU b + 15) 3 v4) (shU b + 15) 4 v5) (shU b + 15) 5 v6, ?_, fun j hj => ?_, fun a j g => ?_⟩
  · simp (disch := omega) [fX8_setValues, kO_u, kI_u15, g_t, b_d, b_c, b_v, Bool.and_true, Bool.and_self, Bool.true_and, xL, xN1, nI_add, xM, xS, xP, xIx, xIn, xLe, xLt, xEq, xDv]
  · simp only [sI_rd, true_and, as6]
    rcases (by omega : j = 0 ∨ j = 1 ∨ j = 2 ∨ j = 3 ∨ j = 4 ∨ j = 5) with rfl | rfl | rfl | rfl | rfl | rfl <;> simp
  · simp [sI_rd, g]
theorem s_askOf (v1 v2 v3 v4 v5 v6 : Int32) (S : mT) : ∃ S', fX12_askOf v1 v2 v3 v4 v5 v6 S = some S' ∧ (∀ j, j < 6 → S'.1 200 j = as6 v1 v2 v3 v4 v5 v6 j) ∧ ∀ a j, a ≠ 200 → S'.1 a j = S.1 a j := by
  refine ⟨sI (sI (sI (sI (sI (sI S 200 0 v1) 200 1 v2) 200 2 v3) 200 3 v4) 200 4 v5) 200 5 v6, ?_, fun j hj => ?_, fun a j g => ?_⟩
  · simp (disch := omega) [fX12_askOf, kO_187, kI_200, g_t, b_d, b_c, b_v, Bool.and_true, Bool.and_self, Bool.true_and, xL, xN1, nI_add, xM, xS, xP, xIx, xIn, xLe, xLt, xEq, xDv]
  · simp only [sI_rd, true_and, as6]
    rcases (by omega : j = 0 ∨ j = 1 ∨ j = 2 ∨ j = 3 ∨ j = 4 ∨ j = 5) with rfl | rfl | rfl | rfl | rfl | rfl <;> simp
  · simp [sI_rd, g]
/-- the laws as both have them -/
def rLaws (u : Nat) (S : mT) : Prop := rForm u 0 S ∧ rForm u 1 S ∧ rForm u 2 S
theorem rLaws_fr {u : Nat} {S S' : mT} (h : ∀ a j, (a = u + 7 ∨ a = u + 10 ∨ a = u + 13 ∨ a = 193 ∨ a = 194 ∨ a = 195 ∨ a = 199 ∨ a = u + 6 ∨ a = u + 9 ∨ a = u + 12) → S'.1 a j = S.1 a j) (g : rLaws u S) : rLaws u S' := by
  have key : ∀ f, f < 3 → agr (supForm u f) S S' := fun f hf => ⟨fun a q w => funext fun j => h a j (by omega), fun a q w => funext fun j => h a j (by omega), fun a q w => funext fun j => h a j (by omega), fun a q w => funext fun j => h a j (by omega), fun a q w => funext fun j => h a j (by omega), h _ _ (by omega), h _ _ (by omega), trivial⟩
  exact ⟨rForm_fr (key 0 (by omega)) g.1, rForm_fr (key 1 (by omega)) g.2.1, rForm_fr (key 2 (by omega)) g.2.2⟩
theorem told_eq {u f : Nat} {S : mT} (h : rForm u f S) : S.1 (u + 6 + 3 * f) 4 = S.1 199 f := by
  rcases h with ⟨a, b⟩ | ⟨a, b, _⟩
  · rw [a, b]
  · rw [a, b]
theorem i15 : mIn (15 : Int32) 17 = true := rfl
theorem j15 : mIx (15 : Int32) = 15 := rfl
theorem uNe {b : Bool} {a : Nat} (h : 35 ≤ a) : a ≠ shU b + 15 ∧ a ≠ shU b + 8 ∧ a ≠ shU b + 11 ∧ a ≠ shU b + 14 := by
  cases b <;> simp only [shU, cond] <;> omega
section
variable {b : Bool} {S : mT}
theorem c_stonesH (hF : rLaws (shU b) S) {a1 h : Nat} (ka : ∀ x, kI a1 x = mIn x 17) (na : a1 ≠ shU b + 15) (hh : h < 5) (hid : Int32) : ∃ S', fX8_stonesHiding (shU b) a1 (nI h) hid S = some (stP S (S.1 a1 h) hid (S.1 (shU b + 4) h) (S.1 (shU b + 5) h) (S.1 a1 15), S') ∧ ∀ a j, a ≠ shU b + 15 → a ≠ shU b + 8 → S'.1 a j = S.1 a j := by
  have e0 : S.1 (shU b + 6) 4 = S.1 199 0 := told_eq hF.1
  by_cases c : S.1 199 0 = 0
  · refine ⟨S, ?_, fun a j _ _ => rfl⟩
    have e1 : S.1 (shU b + 6) 4 = 0 := e0.trans c
    have e2 : (0 : Int32) + nI h = nI h := by rw [Int32.zero_add]
    unfold fX8_stonesHiding stP
    rw [if_pos c]
    simp (disch := omega) only [e2, ka, kO_u6, kO_u, kI_u5, xIn, xIx, if_pos e1, g_t, b_d, b_c, b_v, Bool.and_true, Bool.and_self, Bool.true_and]
    rw [s_limited _ (by decide)]
    rfl
  · have e1 : ¬ S.1 (shU b + 6) 4 = 0 := by rw [e0]; exact c
    have e2 : (0 : Int32) + nI h = nI h := by rw [Int32.zero_add]
    obtain ⟨S4, s1, s2, s3⟩ := s_setV b (S.1 a1 h) hid (S.1 (shU b + 4) h) (S.1 (shU b + 5) h) 0 (S.1 a1 15) S
    have hF4 : rLaws (shU b) S4 := rLaws_fr (fun a j g => s3 a j (by rcases b with _ | _ <;> simp only [shU, cond] at g ⊢ <;> omega)) hF
    have h199 : S4.1 199 0 = S.1 199 0 := s3 _ _ (by cases b <;> simp [shU])
    obtain ⟨S5, w1, w2⟩ := c_form (b := b) (f := 0) (by omega) hF4.1 (by rw [h199]; exact c) s2
    refine ⟨S5, ?_, fun a j g1 g2 => by rw [w2 a j (by omega), s3 a j g1]⟩
    have el : lawEq S S4 := lawEq_of (fun a j g => s3 a j (by rcases b with _ | _ <;> simp only [shU, cond] <;> omega))
    unfold fX8_stonesHiding stP
    rw [if_neg c]
    have w1' : fX0_work (shU b + 6) (shU b + 15) S4 = _ := w1
    simp (disch := omega) only [e2, ka, kO_u6, kO_u, kI_u5, kI_u4, xIn, xIx, if_neg e1, g_t, b_d, b_c, b_v, Bool.and_true, Bool.and_self, Bool.true_and, i15, j15, s1, w1', fv_eq el]
    rw [s_limited _ (by decide)]
    rfl
theorem c_stones (hF : rLaws (shU b) S) {a1 h : Nat} (ka : ∀ x, kI a1 x = mIn x 17) (na : a1 ≠ shU b + 15) (hh : h < 5) : ∃ S', fX8_stonesOf (shU b) a1 (nI h) S = some (stP S (S.1 a1 h) (S.1 a1 (5 + h)) (S.1 (shU b + 4) h) (S.1 (shU b + 5) h) (S.1 a1 15), S') ∧ ∀ a j, a ≠ shU b + 15 → a ≠ shU b + 8 → S'.1 a j = S.1 a j := by
  obtain ⟨S', h1, h2⟩ := c_stonesH hF ka na hh (S.1 a1 (5 + h))
  refine ⟨S', ?_, h2⟩
  have e5 : (5 : Int32) + nI h = nI (5 + h) := nI_add 5 h
  unfold fX8_stonesOf
  simp (disch := omega) only [e5, ka, xIn, xIx, h1, g_t, b_d, b_c, b_v, Bool.and_true, Bool.and_self, Bool.true_and]
theorem c_tax (hF : rLaws (shU b) S) {h : Nat} (hh : h < 5) (st yr : Int32) : ∃ S', fX8_taxOf (shU b) st (nI h) yr S = some (txP S st (S.1 (shU b + 4) h) yr, S') ∧ ∀ a j, a ≠ shU b + 15 → a ≠ shU b + 11 → S'.1 a j = S.1 a j := by
  have e0 : S.1 (shU b + 9) 4 = S.1 199 1 := told_eq hF.2.1
  by_cases c : S.1 199 1 = 0
  · refine ⟨S, ?_, fun a j _ _ => rfl⟩
    have e1 : S.1 (shU b + 9) 4 = 0 := e0.trans c
    unfold fX8_taxOf txP
    rw [if_pos c]
    simp (disch := omega) only [kO_u9, kO_u, if_pos e1, g_t, b_d, b_c, b_v, Bool.and_true, Bool.and_self, Bool.true_and]
    rw [s_limited _ (by decide)]
    rfl
  · have e1 : ¬ S.1 (shU b + 9) 4 = 0 := by rw [e0]; exact c
    obtain ⟨S4, s1, s2, s3⟩ := s_setV b 0 0 (S.1 (shU b + 4) h) 0 st yr S
    have hF4 : rLaws (shU b) S4 := rLaws_fr (fun a j g => s3 a j (by rcases b with _ | _ <;> simp only [shU, cond] at g ⊢ <;> omega)) hF
    have h199 : S4.1 199 1 = S.1 199 1 := s3 _ _ (by cases b <;> simp [shU])
    obtain ⟨S5, w1, w2⟩ := c_form (b := b) (f := 1) (by omega) hF4.2.1 (by rw [h199]; exact c) s2
    refine ⟨S5, ?_, fun a j g1 g2 => by rw [w2 a j (by omega), s3 a j g1]⟩
    have el : lawEq S S4 := lawEq_of (fun a j g => s3 a j (by rcases b with _ | _ <;> simp only [shU, cond] <;> omega))
    unfold fX8_taxOf txP
    rw [if_neg c]
    have w1' : fX0_work (shU b + 9) (shU b + 15) S4 = _ := w1
    simp (disch := omega) only [kO_u9, kO_u, kI_u4, xIn, xIx, if_neg e1, g_t, b_d, b_c, b_v, Bool.and_true, Bool.and_self, Bool.true_and, s1, w1', fv_eq el]
    rw [s_limited _ (by decide)]
    rfl
theorem m_stones {u : Nat} (hF : rLaws u S) (hu : u < 100) {h : Nat} (hh : h < 5) : ∃ S', fX12_stonesOf (nI h) S = some (stP S (S.1 209 h) (S.1 210 h) (S.1 206 h) (S.1 207 h) (S.1 187 43), S') ∧ ∀ a j, a ≠ 200 → a ≠ 197 → S'.1 a j = S.1 a j := by
  obtain ⟨S4, s1, s2, s3⟩ := s_askOf (S.1 209 h) (S.1 210 h) (S.1 206 h) (S.1 207 h) 0 (S.1 187 43) S
  have hF4 : rLaws u S4 := rLaws_fr (fun a j g => s3 a j (by omega)) hF
  have el : lawEq S S4 := lawEq_of (fun a j g => s3 a j (by omega))
  have h199 : S4.1 199 0 = S.1 199 0 := s3 _ _ (by omega)
  have i0 : mIx (0 : Int32) = 0 := rfl
  have z0 : mIn (0 : Int32) 3 = true := rfl
  by_cases c : S.1 199 0 = 0
  · refine ⟨S4, ?_, fun a j g1 _ => s3 a j g1⟩
    have c' : S4.1 199 0 = 0 := h199.trans c
    unfold stP
    rw [if_pos c]
    simp (disch := omega) only [fX12_stonesOf, kO_187, kI_210, kI_209, kI_207, kI_206, kB_199, fX12_stonesOf_70, xIn, xIx, g_t, b_d, b_c, b_v, Bool.and_true, Bool.and_self, Bool.true_and, s1, i0, z0, if_pos c', s_bound, s3 209 h (by omega), s3 210 h (by omega), s3 207 h (by omega)]
  · have c' : ¬ S4.1 199 0 = 0 := by rw [h199]; exact c
    obtain ⟨S5, w1, w2⟩ := m_form (f := 0) (by omega) hF4.1 c' s2
    have w1' : fX12_worked (0 : Int32) S4 = _ := w1
    refine ⟨S5, ?_, fun a j g1 g2 => by rw [w2 a j g2, s3 a j g1]⟩
    unfold stP
    rw [if_neg c]
    simp (disch := omega) only [fX12_stonesOf, kO_187, kI_210, kI_209, kI_207, kI_206, kB_199, fX12_stonesOf_70, xIn, xIx, g_t, b_d, b_c, b_v, Bool.and_true, Bool.and_self, Bool.true_and, s1, i0, z0, if_neg c', w1', fv_eq el, s_bound]
theorem m_tax {u : Nat} (hF : rLaws u S) (hu : u < 100) {h : Nat} (hh : h < 5) (st : Int32) : ∃ S', fX12_taxOf (nI h) st S = some (txP S st (S.1 206 h) (S.1 187 43), S') ∧ ∀ a j, a ≠ 200 → a ≠ 197 → S'.1 a j = S.1 a j := by
  obtain ⟨S4, s1, s2, s3⟩ := s_askOf 0 0 (S.1 206 h) 0 st (S.1 187 43) S
  have hF4 : rLaws u S4 := rLaws_fr (fun a j g => s3 a j (by omega)) hF
  have el : lawEq S S4 := lawEq_of (fun a j g => s3 a j (by omega))
  have h199 : S4.1 199 1 = S.1 199 1 := s3 _ _ (by omega)
  have i0 : mIx (1 : Int32) = 1 := rfl
  have z0 : mIn (1 : Int32) 3 = true := rfl
  by_cases c : S.1 199 1 = 0
  · refine ⟨S4, ?_, fun a j g1 _ => s3 a j g1⟩
    have c' : S4.1 199 1 = 0 := h199.trans c
    unfold txP
    rw [if_pos c]
    simp (disch := omega) only [fX12_taxOf, kO_187, kI_206, kB_199, fX12_taxOf_36, xIn, xIx, g_t, b_d, b_c, b_v, Bool.and_true, Bool.and_self, Bool.true_and, s1, i0, z0, if_pos c', s_bound]
  · have c' : ¬ S4.1 199 1 = 0 := by rw [h199]; exact c
    obtain ⟨S5, w1, w2⟩ := m_form (f := 1) (by omega) hF4.2.1 c' s2
    have w1' : fX12_worked (1 : Int32) S4 = _ := w1
    refine ⟨S5, ?_, fun a j g1 g2 => by rw [w2 a j g2, s3 a j g1]⟩
    unfold txP
    rw [if_neg c]
    simp (disch := omega) only [fX12_taxOf, kO_187, kI_206, kB_199, fX12_taxOf_36, xIn, xIx, g_t, b_d, b_c, b_v, Bool.and_true, Bool.and_self, Bool.true_and, s1, i0, z0, if_neg c', w1', fv_eq el, s_bound]
end
