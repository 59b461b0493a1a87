/-! PROVINCE: the class's tokens. -/
theorem chT {α : Type} {p q0 : Int32} {X A R : α} {b : Bool} (h : X = if b = true then A else R) : (if p = q0 then A else X) = if (if p = q0 then true else b) = true then A else R := by
  by_cases c : p = q0
  · simp [c]
  · simp [c, h]
theorem chF {α : Type} {p q0 : Int32} {X A R : α} {b : Bool} (h : X = if b = true then A else R) : (if p = q0 then R else X) = if (if p = q0 then false else b) = true then A else R := by
  by_cases c : p = q0
  · simp [c]
  · simp [c, h]
theorem ch0 {α : Type} {A R : α} : R = if false = true then A else R := by simp
def sgC (v : Int32) : Bool := if v = (37 : Int32) then true else if v = (38 : Int32) then false else if v = (39 : Int32) then false else if v = (40 : Int32) then true else if v = (41 : Int32) then true else if v = (42 : Int32) then true else if v = (43 : Int32) then true else if v = (44 : Int32) then false else if v = (45 : Int32) then true else if v = (46 : Int32) then false else if v = (47 : Int32) then true else if v = (48 : Int32) then false else if v = (49 : Int32) then false else if v = (50 : Int32) then false else if v = (51 : Int32) then false else if v = (52 : Int32) then false else if v = (53 : Int32) then false else if v = (54 : Int32) then false else if v = (55 : Int32) then false else if v = (56 : Int32) then false else if v = (57 : Int32) then false else if v = (58 : Int32) then false else if v = (59 : Int32) then true else if v = (60 : Int32) then true else if v = (61 : Int32) then true else if v = (62 : Int32) then true else false
theorem sgC_ch {α : Type} (v : Int32) (A R : α) : (if v = (37 : Int32) then A else if v = (38 : Int32) then R else if v = (39 : Int32) then R else if v = (40 : Int32) then A else if v = (41 : Int32) then A else if v = (42 : Int32) then A else if v = (43 : Int32) then A else if v = (44 : Int32) then R else if v = (45 : Int32) then A else if v = (46 : Int32) then R else if v = (47 : Int32) then A else if v = (48 : Int32) then R else if v = (49 : Int32) then R else if v = (50 : Int32) then R else if v = (51 : Int32) then R else if v = (52 : Int32) then R else if v = (53 : Int32) then R else if v = (54 : Int32) then R else if v = (55 : Int32) then R else if v = (56 : Int32) then R else if v = (57 : Int32) then R else if v = (58 : Int32) then R else if v = (59 : Int32) then A else if v = (60 : Int32) then A else if v = (61 : Int32) then A else if v = (62 : Int32) then A else R) = if sgC v = true then A else R := chT (chF (chF (chT (chT (chT (chT (chF (chT (chF (chT (chF (chF (chF (chF (chF (chF (chF (chF (chF (chF (chF (chT (chT (chT (chT (ch0))))))))))))))))))))))))))
theorem sgC_n : ∀ c, c < 256 → sgC (nI c) = sB c := by decide +kernel
section
variable {T : Nat → Nat} {t : Nat}
def cT (T : Nat → Nat) (t p : Nat) (C : mT) : Prop := C.1 1 2 = nI 0 ∧ tkN T t p ≠ 4 ∧ C.1 1 4 = nI (tkN T t p) ∧ C.1 1 5 = nI (tbN T t p) ∧ C.1 1 6 = nI (txN T t p) ∧ (tkN T t p = 1 → C.2 1 8 = Int64.ofNat (w5N T (tbN T t p) (txN T t p - tbN T t p))) ∧ (tkN T t p = 2 → C.1 1 7 = nI (nvN T (tbN T t p) (txN T t p - tbN T t p))) ∧ (tkN T t p = 3 → C.1 1 9 = nI (T (tbN T t p)))
def cO (T : Nat → Nat) (t p : Nat) (C : mT) : Prop := cT T t p C ∨ (tkN T t p = 4 ∧ cD 1 (tbN T t p) C)
theorem c_sw (ht : t ≤ 1600) (hT : ∀ k, k < t → T k < 256) {b e : Nat} (he : e ≤ t) (hl : ∀ i, b ≤ i → i < e → i < t ∧ lB (T i) = true) (hne : ¬ (e < t ∧ lB (T e) = true)) : ∀ (m i k : Nat) (C : mT), i + m = e → m < k → b ≤ i → tpC T t C → C.1 1 6 = nI i → C.2 1 8 = Int64.ofNat (w5N T b (i - b)) → ∃ C', fX4_scanWord_10 k C = fX4_scanWord_73 C' ∧ C'.1 1 6 = nI e ∧ C'.2 1 8 = Int64.ofNat (w5N T b (e - b)) ∧ (∀ j, j ≠ 6 → C'.1 1 j = C.1 1 j) ∧ fR C C'
  | 0, i, k, C, hi, hk, hb, h, e6, e8 => by
    obtain ⟨k', rfl⟩ := up1 hk
    have hi : i = e := by omega
    subst hi
    refine ⟨C, ?_, e6, e8, fun _ _ => rfl, fR.rf C⟩
    have il := c_isL ht hT h (i := i) (by omega)
    rw [if_neg hne] at il
    by_cases c : t ≤ i
    · have c' : nI t ≤ nI i := (xLe (by omega) (by omega)).mpr c
      simp only [fX4_scanWord_10, kO_1, g_t, b_d, b_c, b_v, Bool.and_true, Bool.and_self, Bool.true_and, h.1, e6, if_pos c']
    · have c' : ¬ nI t ≤ nI i := fun z => c ((xLe (by omega) (by omega)).mp z)
      simp only [fX4_scanWord_10, kO_1, g_t, b_d, b_c, b_v, Bool.and_true, Bool.and_self, Bool.true_and, h.1, e6, if_neg c', il, if_true]
  | m + 1, i, k, C, hi, hk, hb, h, e6, e8 => by
    obtain ⟨k', rfl⟩ := up1 hk
    obtain ⟨l1, l2⟩ := hl i hb (by omega)
    have c' : ¬ nI t ≤ nI i := fun z => by have := (xLe (by omega) (by omega)).mp z; omega
    have il := c_isL ht hT h (i := i) (by omega)
    rw [if_pos ⟨l1, l2⟩] at il
    have t1 : ¬ (1 : Int32) = 0 := by decide
    have bw := (by_w (T i) (hT i l1) l2).1
    have o1 : nI i + (1 : Int32) = nI (i + 1) := nI_add i 1
    have en : Int64.ofNat (w5N T b (i - b)) * (32 : Int64) + Int64.ofNat (T i - 96) = Int64.ofNat (w5N T b (i + 1 - b)) := by
      rw [show i + 1 - b = (i - b) + 1 by omega]
      show _ = Int64.ofNat (w5N T b (i - b) * 32 + (T (b + (i - b)) - 96))
      rw [show b + (i - b) = i by omega, Int64.ofNat_add, Int64.ofNat_mul]
      rfl
    have e6' : ∀ v, (sJ C 1 8 v).1 1 6 = nI i := fun v => by rw [sJ_1]; exact e6
    have f1 : fR C (sI (sJ C 1 8 (Int64.ofNat (w5N T b (i + 1 - b)))) 1 6 (nI (i + 1))) := ((fR.rf C).sJ _).sI (by omega) _
    obtain ⟨C', r1, r2, r3, r4, r5⟩ := c_sw ht hT he hl hne m (i + 1) k' (sI (sJ C 1 8 (Int64.ofNat (w5N T b (i + 1 - b)))) 1 6 (nI (i + 1))) (by omega) (by omega) (by omega) (f1.tp h) (by rw [sI_eq]) (by rw [sI_2, sJ_eq])
    refine ⟨C', ?_, r2, r3, fun j hj => by rw [r4 j hj, sI_ne (by omega), sJ_1], f1.tr r5⟩
    rw [← r1]
    simp (disch := omega) only [fX4_scanWord_10, kO_1, kB_2, g_t, b_d, b_c, b_v, Bool.and_true, Bool.and_self, Bool.true_and, h.1, e6, if_neg c', il, if_neg t1, xIx, xIn, h.2 i l1, bw, e8, en, e6', o1]
theorem c_sn (ht : t ≤ 1600) (hT : ∀ k, k < t → T k < 256) {b e : Nat} (he : e ≤ t) (hl : ∀ i, b ≤ i → i < e → i < t ∧ dB (T i) = true) (hne : ¬ (e < t ∧ dB (T e) = true)) : ∀ (m i k : Nat) (C : mT), i + m = e → m < k → b ≤ i → tpC T t C → C.1 1 6 = nI i → C.1 1 7 = nI (nvN T b (i - b)) → ∃ C', fX4_scanNumber_10 k C = fX4_scanNumber_69 C' ∧ C'.1 1 6 = nI e ∧ C'.1 1 7 = nI (nvN T b (e - b)) ∧ (∀ j, j ≠ 6 → j ≠ 7 → C'.1 1 j = C.1 1 j) ∧ fR C C'
  | 0, i, k, C, hi, hk, hb, h, e6, e8 => by
    obtain ⟨k', rfl⟩ := up1 hk
    have hi : i = e := by omega
    subst hi
    refine ⟨C, ?_, e6, e8, fun _ _ _ => rfl, fR.rf C⟩
    have il := c_isD ht hT h (i := i) (by omega)
    rw [if_neg hne] at il
    by_cases c : t ≤ i
    · have c' : nI t ≤ nI i := (xLe (by omega) (by omega)).mpr c
      simp only [fX4_scanNumber_10, kO_1, g_t, b_d, b_c, b_v, Bool.and_true, Bool.and_self, Bool.true_and, h.1, e6, if_pos c']
    · have c' : ¬ nI t ≤ nI i := fun z => c ((xLe (by omega) (by omega)).mp z)
      simp only [fX4_scanNumber_10, kO_1, g_t, b_d, b_c, b_v, Bool.and_true, Bool.and_self, Bool.true_and, h.1, e6, if_neg c', il, if_true]
  | m + 1, i, k, C, hi, hk, hb, h, e6, e8 => by
    obtain ⟨k', rfl⟩ := up1 hk
    obtain ⟨l1, l2⟩ := hl i hb (by omega)
    have c' : ¬ nI t ≤ nI i := fun z => by have := (xLe (by omega) (by omega)).mp z; omega
    have il := c_isD ht hT h (i := i) (by omega)
    rw [if_pos ⟨l1, l2⟩] at il
    have t1 : ¬ (1 : Int32) = 0 := by decide
    have bw := (by_n (T i) (hT i l1) l2).1
    have o1 : nI i + (1 : Int32) = nI (i + 1) := nI_add i 1
    have en : nI (nvN T b (i - b)) * (10 : Int32) + nI (T i - 48) = nI (nvN T b (i + 1 - b)) := by
      rw [show i + 1 - b = (i - b) + 1 by omega]
      show _ = nI (nvN T b (i - b) * 10 + (T (b + (i - b)) - 48))
      rw [show b + (i - b) = i by omega, show (10 : Int32) = nI 10 from rfl, xM, nI_add]
    have e6' : ∀ v, (sI C 1 7 v).1 1 6 = nI i := fun v => by rw [sI_ne (by omega)]; exact e6
    have f1 : fR C (sI (sI C 1 7 (nI (nvN T b (i + 1 - b)))) 1 6 (nI (i + 1))) := ((fR.rf C).sI (by omega) _).sI (by omega) _
    obtain ⟨C', r1, r2, r3, r4, r5⟩ := c_sn ht hT he hl hne m (i + 1) k' (sI (sI C 1 7 (nI (nvN T b (i + 1 - b)))) 1 6 (nI (i + 1))) (by omega) (by omega) (by omega) (f1.tp h) (by rw [sI_eq]) (by rw [sI_ne (by omega), sI_eq])
    refine ⟨C', ?_, r2, r3, fun j hj hj2 => by rw [r4 j hj hj2, sI_ne (by omega), sI_ne (by omega)], f1.tr r5⟩
    rw [← r1]
    simp (disch := omega) only [fX4_scanNumber_10, kO_1, kB_2, g_t, b_d, b_c, b_v, Bool.and_true, Bool.and_self, Bool.true_and, h.1, e6, if_neg c', il, if_neg t1, xIx, xIn, h.2 i l1, bw, e8, en, e6', o1]
theorem c_bl (ht : t ≤ 1600) (hT : ∀ k, k < t → T k < 256) {p b : Nat} (he : b ≤ t) (hl : ∀ i, p ≤ i → i < b → i < t ∧ bB (T i) = true) (hne : ¬ (b < t ∧ bB (T b) = true)) : ∀ (m i k : Nat) (C : mT), i + m = b → m < k → p ≤ i → tpC T t C → C.1 1 6 = nI i → ∃ C', fX4_advance_8 k C = fX4_advance_60 C' ∧ C'.1 1 6 = nI b ∧ (∀ j, j ≠ 6 → C'.1 1 j = C.1 1 j) ∧ fR C C'
  | 0, i, k, C, hi, hk, hb, h, e6 => by
    obtain ⟨k', rfl⟩ := up1 hk
    have hi : i = b := by omega
    subst hi
    refine ⟨C, ?_, e6, fun _ _ => rfl, fR.rf C⟩
    by_cases c : t ≤ i
    · have c' : nI t ≤ nI i := (xLe (by omega) (by omega)).mpr c
      simp only [fX4_advance_8, kO_1, g_t, b_d, b_c, b_v, Bool.and_true, Bool.and_self, Bool.true_and, h.1, e6, if_pos c']
    · have c' : ¬ nI t ≤ nI i := fun z => c ((xLe (by omega) (by omega)).mp z)
      have d0 : ¬ (byI (T i) = 32 ∨ byI (T i) = 10) := fun z => hne ⟨by omega, (by_B (T i) (hT i (by omega))).mp z⟩
      have d1 : ¬ byI (T i) = 32 := fun z => d0 (Or.inl z)
      have d2 : ¬ byI (T i) = 10 := fun z => d0 (Or.inr z)
      simp (disch := omega) only [fX4_advance_8, kO_1, kB_2, g_t, b_d, b_c, b_v, Bool.and_true, Bool.and_self, Bool.true_and, h.1, e6, if_neg c', xIx, xIn, h.2 i (by omega), if_neg d1, if_neg d2]
  | m + 1, i, k, C, hi, hk, hb, h, e6 => by
    obtain ⟨k', rfl⟩ := up1 hk
    obtain ⟨l1, l2⟩ := hl i hb (by omega)
    have c' : ¬ nI t ≤ nI i := fun z => by have := (xLe (by omega) (by omega)).mp z; omega
    have o1 : nI i + (1 : Int32) = nI (i + 1) := nI_add i 1
    have f1 : fR C (sI C 1 6 (nI (i + 1))) := (fR.rf C).sI (by omega) _
    obtain ⟨C', r1, r2, r3, r4⟩ := c_bl ht hT he hl hne m (i + 1) k' (sI C 1 6 (nI (i + 1))) (by omega) (by omega) (by omega) (f1.tp h) (by rw [sI_eq])
    refine ⟨C', ?_, r2, fun j hj => by rw [r3 j hj, sI_ne (by omega)], f1.tr r4⟩
    rw [← r1]
    by_cases d1 : byI (T i) = 32
    · simp (disch := omega) only [fX4_advance_8, fX4_advance_47, kO_1, kB_2, g_t, b_d, b_c, b_v, Bool.and_true, Bool.and_self, Bool.true_and, h.1, e6, if_neg c', xIx, xIn, h.2 i l1, if_pos d1, o1]
    · have d2 : byI (T i) = 10 := by
        rcases (by_B (T i) (hT i l1)).mpr l2 with z | z
        · exact absurd z d1
        · exact z
      simp (disch := omega) only [fX4_advance_8, fX4_advance_47, kO_1, kB_2, g_t, b_d, b_c, b_v, Bool.and_true, Bool.and_self, Bool.true_and, h.1, e6, if_neg c', xIx, xIn, h.2 i l1, if_neg d1, if_pos d2, o1]
theorem c_adv (ht : t ≤ 1600) (hT : ∀ k, k < t → T k < 256) {p : Nat} (hp : p ≤ t) {C : mT} (h : tpC T t C) (h2 : C.1 1 2 = nI 0) (e6 : C.1 1 6 = nI p) : ∃ C', fX4_advance C = some C' ∧ cO T t p C' ∧ fR C C' := by
  obtain ⟨b1, b2, b3⟩ := rn_sp bB T t p
  have bl := rn_le (P := bB) (T := T) hp
  have c2 : C.1 1 2 = 0 := h2
  obtain ⟨C1, r1, r2, r3, r4⟩ := c_bl ht hT bl b2 b3 (rnN bB T t p - p) p mK C (by omega) (by have := mK_gt; omega) (Nat.le_refl _) h e6
  have hst : fX4_advance C = fX4_advance_60 C1 := by
    rw [← r1]
    simp only [fX4_advance, kO_1, g_t, b_d, b_c, b_v, Bool.and_true, Bool.and_self, Bool.true_and, if_pos c2]
  rw [hst]
  have eb : rnN bB T t p = tbN T t p := rfl
  rw [eb] at r2 bl
  obtain ⟨D, hD⟩ : ∃ D, sI C1 1 5 (nI (tbN T t p)) = D := ⟨_, rfl⟩
  have fD : fR C D := by rw [← hD]; exact r4.sI (by omega) _
  have tD := fD.tp h
  have d2 : D.1 1 2 = nI 0 := by rw [← hD, sI_ne (by omega), r3 _ (by omega)]; exact h2
  have d5 : D.1 1 5 = nI (tbN T t p) := by rw [← hD, sI_eq]
  have d6 : D.1 1 6 = nI (tbN T t p) := by rw [← hD, sI_ne (by omega)]; exact r2
  have hrun : fX4_advance_60 C1 = (if nI (tbN T t p) < nI t then bndC (fX4_isLetterAt (nI (tbN T t p)) D) fun x3 S2 => if x3 = 0 then grd (kO 1 4 && true) <| bndC (fX4_isDigitAt (S2.1 1 6) S2) fun x5 S4 => if x5 = 0 then bndV (fX4_scanSign S4) fun S6 => fX4_advance_127 S6 else bndV (fX4_scanNumber S4) fun S7 => fX4_advance_127 S7 else bndV (fX4_scanWord S2) fun S8 => fX4_advance_127 S8 else fX4_advance_127 (sI D 1 4 (0 : Int32))) := by
    simp only [fX4_advance_60, kO_1, g_t, b_d, b_c, b_v, Bool.and_true, Bool.and_self, Bool.true_and, r2, hD, d6, tD.1]
  rw [hrun]
  have il := c_isL ht hT tD (i := tbN T t p) (by omega)
  have id' := c_isD ht hT tD (i := tbN T t p) (by omega)
  have t1 : ¬ (1 : Int32) = 0 := by decide
  by_cases c1 : t ≤ tbN T t p
  · have ek : tkN T t p = 0 := by unfold tkN; rw [if_pos c1]
    have ex : txN T t p = tbN T t p := by unfold txN; rw [if_pos c1]
    have c1' : ¬ nI (tbN T t p) < nI t := fun z => by have := (xLt (by omega) (by omega)).mp z; omega
    rw [if_neg c1']
    exact ⟨_, rfl, Or.inl ⟨by rw [sI_ne (by omega)]; exact d2, by omega, by rw [sI_eq, ek]; rfl, by rw [sI_ne (by omega)]; exact d5, by rw [sI_ne (by omega), ex]; exact d6, fun z => by omega, fun z => by omega, fun z => by omega⟩, fD.sI (by omega) _⟩
  have c1' : nI (tbN T t p) < nI t := (xLt (by omega) (by omega)).mpr (by omega)
  rw [if_pos c1']
  by_cases c3 : lB (T (tbN T t p)) = true
  · rw [if_pos ⟨by omega, c3⟩] at il
    obtain ⟨e1, e2, e3⟩ := rn_sp lB T t (tbN T t p)
    have el := rn_le (P := lB) (T := T) bl
    have ex : txN T t p = rnN lB T t (tbN T t p) := by unfold txN; rw [if_neg c1, if_pos c3]
    have fE : fR C (sJ (sI D 1 4 (nI 1)) 1 8 (Int64.ofNat 0)) := (fD.sI (by omega) _).sJ _
    obtain ⟨E, s1, s2, s3, s4, s5⟩ := c_sw ht hT el e2 e3 (rnN lB T t (tbN T t p) - tbN T t p) (tbN T t p) mK (sJ (sI D 1 4 (nI 1)) 1 8 (Int64.ofNat 0)) (by omega) (by have := mK_gt; omega) (Nat.le_refl _) (fE.tp h) (by rw [sJ_1, sI_ne (by omega)]; exact d6) (by rw [sJ_eq, Nat.sub_self]; rfl)
    have g2 : E.1 1 2 = nI 0 := by rw [s4 _ (by omega), sJ_1, sI_ne (by omega)]; exact d2
    have g4 : E.1 1 4 = nI 1 := by rw [s4 _ (by omega), sJ_1, sI_eq]
    have g5 : E.1 1 5 = nI (tbN T t p) := by rw [s4 _ (by omega), sJ_1, sI_ne (by omega)]; exact d5
    have om : nI (rnN lB T t (tbN T t p)) - nI (tbN T t p) = nI (rnN lB T t (tbN T t p) - tbN T t p) := xS e1
    have sw : fX4_scanWord D = fX4_scanWord_73 E := by
      rw [← s1]
      simp only [fX4_scanWord, kO_1, g_t, b_d, b_c, b_v, Bool.and_true, Bool.and_self, Bool.true_and]
      rfl
    rw [il, b_c, if_neg t1, sw]
    by_cases c4 : rnN lB T t (tbN T t p) ≤ tbN T t p + 8
    · have ek : tkN T t p = 1 := by unfold tkN; rw [if_neg c1, if_pos c3, if_pos c4]
      have c4' : nI (rnN lB T t (tbN T t p) - tbN T t p) ≤ (8 : Int32) := (xLe (b := 8) (by omega) (by omega)).mpr (by omega)
      refine ⟨E, ?_, Or.inl ⟨g2, by omega, by rw [g4, ek], g5, by rw [s2, ex], fun _ => by rw [s3, ex], fun z => by omega, fun z => by omega⟩, fE.tr s5⟩
      simp only [fX4_scanWord_73, fX4_scanWord_92, fX4_advance_127, kO_1, g_t, b_d, b_c, b_v, Bool.and_true, Bool.and_self, Bool.true_and, s2, g5, om, if_pos c4']
    · have ek : tkN T t p = 4 := by unfold tkN; rw [if_neg c1, if_pos c3, if_neg c4]
      have c4' : ¬ nI (rnN lB T t (tbN T t p) - tbN T t p) ≤ (8 : Int32) := fun z => by have := (xLe (b := 8) (by omega) (by omega)).mp z; omega
      obtain ⟨C', q1, q2, q3⟩ := c_ref0 g2 g5 (f := 1) (by omega) (by omega)
      have q1' : fX4_refuse (1 : Int32) E = some C' := q1
      refine ⟨C', ?_, Or.inr ⟨ek, q2⟩, (fE.tr s5).tr q3⟩
      simp only [fX4_scanWord_73, fX4_scanWord_92, fX4_advance_127, kO_1, g_t, b_d, b_c, b_v, Bool.and_true, Bool.and_self, Bool.true_and, s2, g5, om, if_neg c4', q1']
  rw [if_neg (fun z => c3 z.2)] at il
  by_cases c5 : dB (T (tbN T t p)) = true
  · rw [if_pos ⟨by omega, c5⟩] at id'
    obtain ⟨e1, e2, e3⟩ := rn_sp dB T t (tbN T t p)
    have el := rn_le (P := dB) (T := T) bl
    have ex : txN T t p = rnN dB T t (tbN T t p) := by unfold txN; rw [if_neg c1, if_neg c3, if_pos c5]
    have fE : fR C (sI (sI D 1 4 (nI 2)) 1 7 (nI 0)) := (fD.sI (by omega) _).sI (by omega) _
    obtain ⟨E, s1, s2, s3, s4, s5⟩ := c_sn ht hT el e2 e3 (rnN dB T t (tbN T t p) - tbN T t p) (tbN T t p) mK (sI (sI D 1 4 (nI 2)) 1 7 (nI 0)) (by omega) (by have := mK_gt; omega) (Nat.le_refl _) (fE.tp h) (by rw [sI_ne (by omega), sI_ne (by omega)]; exact d6) (by rw [sI_eq, Nat.sub_self]; rfl)
    have g2 : E.1 1 2 = nI 0 := by rw [s4 _ (by omega) (by omega), sI_ne (by omega), sI_ne (by omega)]; exact d2
    have g4 : E.1 1 4 = nI 2 := by rw [s4 _ (by omega) (by omega), sI_ne (by omega), sI_eq]
    have g5 : E.1 1 5 = nI (tbN T t p) := by rw [s4 _ (by omega) (by omega), sI_ne (by omega), sI_ne (by omega)]; exact d5
    have om : nI (rnN dB T t (tbN T t p)) - nI (tbN T t p) = nI (rnN dB T t (tbN T t p) - tbN T t p) := xS e1
    have sn : fX4_scanNumber D = fX4_scanNumber_69 E := by
      rw [← s1]
      simp only [fX4_scanNumber, kO_1, g_t, b_d, b_c, b_v, Bool.and_true, Bool.and_self, Bool.true_and]
      rfl
    have ilE := c_isL ht hT ((fE.tr s5).tp h) (i := rnN dB T t (tbN T t p)) (by omega)
    rw [il, b_c, if_pos rfl, kO_1, Bool.and_true, g_t, d6, id', b_c, if_neg t1, sn]
    have bad : tkN T t p = 4 → (nI (rnN dB T t (tbN T t p) - tbN T t p) ≤ (4 : Int32) → rnN dB T t (tbN T t p) < t ∧ lB (T (rnN dB T t (tbN T t p))) = true) → ∃ C', (bndV (fX4_scanNumber_69 E) fun S7 => fX4_advance_127 S7) = some C' ∧ cO T t p C' ∧ fR C C' := fun ek hh => by
      obtain ⟨C', q1, q2, q3⟩ := c_ref0 g2 g5 (f := 1) (by omega) (by omega)
      have q1' : fX4_refuse (1 : Int32) E = some C' := q1
      refine ⟨C', ?_, Or.inr ⟨ek, q2⟩, (fE.tr s5).tr q3⟩
      by_cases c6 : nI (rnN dB T t (tbN T t p) - tbN T t p) ≤ (4 : Int32)
      · have c6' : ¬ (4 : Int32) < nI (rnN dB T t (tbN T t p) - tbN T t p) := Int32.not_lt.mpr c6
        rw [if_pos (hh c6)] at ilE
        simp only [fX4_scanNumber_69, fX4_scanNumber_93, fX4_scanNumber_98, fX4_advance_127, kO_1, g_t, b_d, b_c, b_v, Bool.and_true, Bool.and_self, Bool.true_and, s2, g5, om, if_neg c6', ilE, if_neg t1, q1']
      · have c6' : (4 : Int32) < nI (rnN dB T t (tbN T t p) - tbN T t p) := Int32.not_le.mp c6
        simp only [fX4_scanNumber_69, fX4_scanNumber_93, fX4_scanNumber_98, fX4_advance_127, kO_1, g_t, b_d, b_c, b_v, Bool.and_true, Bool.and_self, Bool.true_and, s2, g5, om, if_pos c6', q1']
    by_cases c4 : rnN dB T t (tbN T t p) ≤ tbN T t p + 4 ∧ ¬ (rnN dB T t (tbN T t p) < t ∧ lB (T (rnN dB T t (tbN T t p))) = true)
    · have ek : tkN T t p = 2 := by unfold tkN; rw [if_neg c1, if_neg c3, if_pos c5, if_pos c4]
      have c4' : ¬ (4 : Int32) < nI (rnN dB T t (tbN T t p) - tbN T t p) := fun z => by have := (xLt (a := 4) (by omega) (by omega)).mp z; omega
      rw [if_neg c4.2] at ilE
      refine ⟨E, ?_, Or.inl ⟨g2, by omega, by rw [g4, ek], g5, by rw [s2, ex], fun z => by omega, fun _ => by rw [s3, ex], fun z => by omega⟩, fE.tr s5⟩
      simp only [fX4_scanNumber_69, fX4_scanNumber_98, fX4_advance_127, kO_1, g_t, b_d, b_c, b_v, Bool.and_true, Bool.and_self, Bool.true_and, s2, g5, om, if_neg c4', ilE, if_true]
    · refine bad (by unfold tkN; rw [if_neg c1, if_neg c3, if_pos c5, if_neg c4]) (fun z => ?_)
      have := (xLe (b := 4) (by omega) (by omega)).mp z
      apply Classical.byContradiction
      intro y
      exact c4 ⟨by omega, y⟩
  rw [if_neg (fun z => c5 z.2)] at id'
  have hc := hT (tbN T t p) (by omega)
  obtain ⟨s1, s2⟩ := by_s (T (tbN T t p)) hc
  have ex : txN T t p = tbN T t p + 1 := by unfold txN; rw [if_neg c1, if_neg c3, if_neg c5]
  have o1 : nI (tbN T t p) + (1 : Int32) = nI (tbN T t p + 1) := nI_add _ 1
  obtain ⟨E, hE⟩ : ∃ E, sI (sI (sI D 1 4 (3 : Int32)) 1 9 (nI (T (tbN T t p)))) 1 6 (nI (tbN T t p + 1)) = E := ⟨_, rfl⟩
  have fE : fR C E := by rw [← hE]; exact ((fD.sI (by omega) _).sI (by omega) _).sI (by omega) _
  have g2 : E.1 1 2 = nI 0 := by rw [← hE, sI_ne (by omega), sI_ne (by omega), sI_ne (by omega)]; exact d2
  have g4 : E.1 1 4 = nI 3 := by rw [← hE, sI_ne (by omega), sI_ne (by omega), sI_eq]; rfl
  have g5 : E.1 1 5 = nI (tbN T t p) := by rw [← hE, sI_ne (by omega), sI_ne (by omega), sI_ne (by omega)]; exact d5
  have g6 : E.1 1 6 = nI (tbN T t p + 1) := by rw [← hE, sI_eq]
  have g9 : E.1 1 9 = nI (T (tbN T t p)) := by rw [← hE, sI_ne (by omega), sI_eq]
  have ss : fX4_scanSign D = if sgC (nI (T (tbN T t p))) = true then fX4_scanSign_164 E else bndV (fX4_refuse (1 : Int32) E) fun S4 => fX4_scanSign_164 S4 := by
    have k1 : (sI D 1 4 (3 : Int32)).1 1 6 = nI (tbN T t p) := by rw [sI_ne (by omega)]; exact d6
    have k2 : (sI D 1 4 (3 : Int32)).1 2 (tbN T t p) = byI (T (tbN T t p)) := by rw [sI_ne (by omega)]; exact tD.2 _ (by omega)
    have k3 : (sI (sI D 1 4 (3 : Int32)) 1 9 (nI (T (tbN T t p)))).1 1 6 = nI (tbN T t p) := by rw [sI_ne (by omega)]; exact k1
    rw [← sgC_ch, ← g9]
    unfold fX4_scanSign
    rw [s1] at s2
    rw [kO_1, Bool.and_true, g_t, b_d, k1, xIx (by omega), k2, s1, s2, kB_2, xIn (by omega) (by omega), Bool.and_self, Bool.and_self, Bool.and_self, Bool.and_self, g_t, b_d, k3, o1, g_t, b_d, hE, g_t]
  rw [il, b_c, if_pos rfl, kO_1, Bool.and_true, g_t, d6, id', b_c, if_pos rfl, ss, sgC_n _ hc]
  by_cases c7 : sB (T (tbN T t p)) = true
  · have ek : tkN T t p = 3 := by unfold tkN; rw [if_neg c1, if_neg c3, if_neg c5, if_pos c7]
    rw [if_pos c7]
    exact ⟨E, rfl, Or.inl ⟨g2, by omega, by rw [g4, ek], g5, by rw [g6, ex], fun z => by omega, fun z => by omega, fun _ => g9⟩, fE⟩
  · have ek : tkN T t p = 4 := by unfold tkN; rw [if_neg c1, if_neg c3, if_neg c5, if_neg c7]
    obtain ⟨C', q1, q2, q3⟩ := c_ref0 g2 g5 (f := 1) (by omega) (by omega)
    have q1' : fX4_refuse (1 : Int32) E = some C' := q1
    rw [if_neg c7, q1']
    exact ⟨C', rfl, Or.inr ⟨ek, q2⟩, fE.tr q3⟩
end
