/-! PROVINCE: tokens, as plain mathematics; the class's. -/
def lB (c : Nat) : Bool := decide (97 ≤ c) && decide (c ≤ 122)
def dB (c : Nat) : Bool := decide (48 ≤ c) && decide (c ≤ 57)
def bB (c : Nat) : Bool := decide (c = 32) || decide (c = 10)
def sB (c : Nat) : Bool := decide (c = 59) || (decide (c = 40) || (decide (c = 41) || (decide (c = 60) || (decide (c = 62) || (decide (c = 61) || (decide (c = 43) || (decide (c = 45) || (decide (c = 42) || (decide (c = 47) || decide (c = 37))))))))))
def rnF (P : Nat → Bool) (T : Nat → Nat) (t : Nat) : Nat → Nat → Nat
  | 0, p => p
  | f + 1, p => if p < t ∧ P (T p) = true then rnF P T t f (p + 1) else p
def rnN (P : Nat → Bool) (T : Nat → Nat) (t p : Nat) : Nat := rnF P T t (t - p) p
theorem rnF_sp (P : Nat → Bool) (T : Nat → Nat) (t : Nat) : ∀ f p, t - p ≤ f → p ≤ rnF P T t f p ∧ (∀ i, p ≤ i → i < rnF P T t f p → i < t ∧ P (T i) = true) ∧ ¬ (rnF P T t f p < t ∧ P (T (rnF P T t f p)) = true)
  | 0, p, h => ⟨Nat.le_refl _, fun i h1 h2 => by have h2' : i < p := h2; omega, fun z => by have z' : p < t := z.1; omega⟩
  | f + 1, p, h => by
    unfold rnF
    by_cases c : p < t ∧ P (T p) = true
    · rw [if_pos c]
      obtain ⟨a1, a2, a3⟩ := rnF_sp P T t f (p + 1) (by omega)
      refine ⟨by omega, fun i h1 h2 => ?_, a3⟩
      by_cases u : i = p
      · rw [u]
        exact c
      · exact a2 i (by omega) h2
    · rw [if_neg c]
      exact ⟨Nat.le_refl _, fun i h1 h2 => by omega, c⟩
theorem rn_sp (P : Nat → Bool) (T : Nat → Nat) (t p : Nat) : p ≤ rnN P T t p ∧ (∀ i, p ≤ i → i < rnN P T t p → i < t ∧ P (T i) = true) ∧ ¬ (rnN P T t p < t ∧ P (T (rnN P T t p)) = true) := rnF_sp P T t (t - p) p (Nat.le_refl _)
theorem rn_le {P : Nat → Bool} {T : Nat → Nat} {t p : Nat} (h : p ≤ t) : rnN P T t p ≤ t := by
  obtain ⟨a1, a2, _⟩ := rn_sp P T t p
  rcases Nat.lt_or_ge t (rnN P T t p) with u | u
  · have := (a2 t h u).1
    omega
  · exact u
/-- where the token begins, its kind (0 the end, 1 a word, 2 a number, 3 a sign, 4 none), what is behind it -/
def tbN (T : Nat → Nat) (t p : Nat) : Nat := rnN bB T t p
def tkN (T : Nat → Nat) (t p : Nat) : Nat :=
  if t ≤ tbN T t p then 0 else
  if lB (T (tbN T t p)) = true then (if rnN lB T t (tbN T t p) ≤ tbN T t p + 8 then 1 else 4) else
  if dB (T (tbN T t p)) = true then (if rnN dB T t (tbN T t p) ≤ tbN T t p + 4 ∧ ¬ (rnN dB T t (tbN T t p) < t ∧ lB (T (rnN dB T t (tbN T t p))) = true) then 2 else 4) else
  if sB (T (tbN T t p)) = true then 3 else 4
def txN (T : Nat → Nat) (t p : Nat) : Nat :=
  if t ≤ tbN T t p then tbN T t p else
  if lB (T (tbN T t p)) = true then rnN lB T t (tbN T t p) else
  if dB (T (tbN T t p)) = true then rnN dB T t (tbN T t p) else tbN T t p + 1
def w5N (T : Nat → Nat) (b : Nat) : Nat → Nat
  | 0 => 0
  | k + 1 => w5N T b k * 32 + (T (b + k) - 96)
def w8N (T : Nat → Nat) (b : Nat) : Nat → Nat
  | 0 => 0
  | k + 1 => w8N T b k * 256 + T (b + k)
def nvN (T : Nat → Nat) (b : Nat) : Nat → Nat
  | 0 => 0
  | k + 1 => nvN T b k * 10 + (T (b + k) - 48)
theorem tb_le {T : Nat → Nat} {t p : Nat} (h : p ≤ t) : p ≤ tbN T t p ∧ tbN T t p ≤ t := ⟨(rn_sp bB T t p).1, rn_le h⟩
theorem tx_le {T : Nat → Nat} {t p : Nat} (h : p ≤ t) : tbN T t p ≤ txN T t p ∧ txN T t p ≤ t ∧ (tkN T t p ≠ 0 → tbN T t p < txN T t p) := by
  obtain ⟨h1, h2⟩ := tb_le (T := T) h
  unfold txN tkN
  by_cases c1 : t ≤ tbN T t p
  · rw [if_pos c1, if_pos c1]
    exact ⟨Nat.le_refl _, h2, fun z => absurd rfl z⟩
  · rw [if_neg c1, if_neg c1]
    by_cases c2 : lB (T (tbN T t p)) = true
    · rw [if_pos c2, if_pos c2]
      obtain ⟨a1, a2, a3⟩ := rn_sp lB T t (tbN T t p)
      refine ⟨a1, rn_le h2, fun _ => ?_⟩
      rcases Nat.lt_or_ge (tbN T t p) (rnN lB T t (tbN T t p)) with u | u
      · exact u
      · have e : rnN lB T t (tbN T t p) = tbN T t p := by omega
        rw [e] at a3
        exact absurd ⟨by omega, c2⟩ a3
    · rw [if_neg c2, if_neg c2]
      by_cases c3 : dB (T (tbN T t p)) = true
      · rw [if_pos c3, if_pos c3]
        obtain ⟨a1, a2, a3⟩ := rn_sp dB T t (tbN T t p)
        refine ⟨a1, rn_le h2, fun _ => ?_⟩
        rcases Nat.lt_or_ge (tbN T t p) (rnN dB T t (tbN T t p)) with u | u
        · exact u
        · have e : rnN dB T t (tbN T t p) = tbN T t p := by omega
          rw [e] at a3
          exact absurd ⟨by omega, c3⟩ a3
      · rw [if_neg c3, if_neg c3]
        exact ⟨by omega, by omega, fun _ => by omega⟩
/-! bytes as the class has them -/
theorem by_L : ∀ c, c < 256 → ((byI c < 97 ∨ 122 < byI c) ↔ lB c = false) := by decide +kernel
theorem by_D : ∀ c, c < 256 → ((byI c < 48 ∨ 57 < byI c) ↔ dB c = false) := by decide +kernel
theorem by_B : ∀ c, c < 256 → ((byI c = 32 ∨ byI c = 10) ↔ bB c = true) := by decide +kernel
theorem by_w : ∀ c, c < 256 → lB c = true → ((byI c - (97 : Int32)) + (1 : Int32)).toInt64 = Int64.ofNat (c - 96) ∧ 97 ≤ c ∧ c ≤ 122 ∧ byI c = nI c := by decide +kernel
theorem by_n : ∀ c, c < 256 → dB c = true → byI c - (48 : Int32) = nI (c - 48) ∧ 48 ≤ c ∧ c ≤ 57 ∧ nI c - (48 : Int32) = nI (c - 48) := by decide +kernel
theorem by_s : ∀ c, c < 256 → ((byI c &&& (255 : Int32)).toUInt32 % 65536).toInt32 = nI c ∧ mFit .char (((byI c &&& (255 : Int32)).toUInt32 % 65536).toInt32) = true := by decide +kernel
section
variable {T : Nat → Nat} {t : Nat}
def tpC (T : Nat → Nat) (t : Nat) (C : mT) : Prop := C.1 1 1 = nI t ∧ ∀ k, k < t → C.1 2 k = byI (T k)
theorem tpC_fr {C C' : mT} (h : tpC T t C) (e1 : C'.1 1 1 = C.1 1 1) (e2 : ∀ k, C'.1 2 k = C.1 2 k) : tpC T t C' := ⟨e1.trans h.1, fun k hk => (e2 k).trans (h.2 k hk)⟩
theorem fb0 : mFit .boolean (0 : Int32) = true := by decide
theorem fb1 : mFit .boolean (1 : Int32) = true := by decide
theorem c_isL (ht : t ≤ 1600) (hT : ∀ k, k < t → T k < 256) {C : mT} (h : tpC T t C) {i : Nat} (hi : i ≤ 1600) : fX4_isLetterAt (nI i) C = some (if i < t ∧ lB (T i) = true then 1 else 0, C) := by
  by_cases c : i < t
  · have c' : ¬ nI t ≤ nI i := fun z => by have := (xLe (by omega) (by omega)).mp z; omega
    have e := h.2 i c
    have bl := by_L (T i) (hT i c)
    by_cases d : lB (T i) = true
    · have d0 : ¬ (byI (T i) < 97 ∨ 122 < byI (T i)) := fun z => by rw [bl.mp z] at d; cases d
      have d1 : ¬ byI (T i) < 97 := fun z => d0 (Or.inl z)
      have d2 : ¬ 122 < byI (T i) := fun z => d0 (Or.inr z)
      rw [if_pos ⟨c, d⟩]
      simp (disch := omega) only [fX4_isLetterAt, fX4_isLetterAt_35, kO_1, kB_2, g_t, b_d, b_c, b_v, Bool.and_true, Bool.and_self, Bool.true_and, h.1, if_neg c', xIx, xIn, e, if_neg d1, if_neg d2, fb1]
    · have d' : lB (T i) = false := by cases z : lB (T i); rfl; exact absurd z d
      rw [if_neg (fun z => d z.2)]
      rcases bl.mpr d' with d1 | d1
      · simp (disch := omega) only [fX4_isLetterAt, fX4_isLetterAt_34, fX4_isLetterAt_35, kO_1, kB_2, g_t, b_d, b_c, b_v, Bool.and_true, Bool.and_self, Bool.true_and, h.1, if_neg c', xIx, xIn, e, if_pos d1, fb0]
      · by_cases d2 : byI (T i) < 97
        · simp (disch := omega) only [fX4_isLetterAt, fX4_isLetterAt_34, fX4_isLetterAt_35, kO_1, kB_2, g_t, b_d, b_c, b_v, Bool.and_true, Bool.and_self, Bool.true_and, h.1, if_neg c', xIx, xIn, e, if_pos d2, fb0]
        · simp (disch := omega) only [fX4_isLetterAt, fX4_isLetterAt_34, fX4_isLetterAt_35, kO_1, kB_2, g_t, b_d, b_c, b_v, Bool.and_true, Bool.and_self, Bool.true_and, h.1, if_neg c', xIx, xIn, e, if_neg d2, if_pos d1, fb0]
  · have c' : nI t ≤ nI i := (xLe (by omega) (by omega)).mpr (by omega)
    rw [if_neg (fun z => c z.1)]
    simp only [fX4_isLetterAt, fX4_isLetterAt_34, fX4_isLetterAt_35, kO_1, g_t, b_d, b_c, b_v, Bool.and_true, Bool.and_self, Bool.true_and, h.1, if_pos c', fb0]
theorem c_isD (ht : t ≤ 1600) (hT : ∀ k, k < t → T k < 256) {C : mT} (h : tpC T t C) {i : Nat} (hi : i ≤ 1600) : fX4_isDigitAt (nI i) C = some (if i < t ∧ dB (T i) = true then 1 else 0, C) := by
  by_cases c : i < t
  · have c' : ¬ nI t ≤ nI i := fun z => by have := (xLe (by omega) (by omega)).mp z; omega
    have e := h.2 i c
    have bl := by_D (T i) (hT i c)
    by_cases d : dB (T i) = true
    · have d0 : ¬ (byI (T i) < 48 ∨ 57 < byI (T i)) := fun z => by rw [bl.mp z] at d; cases d
      have d1 : ¬ byI (T i) < 48 := fun z => d0 (Or.inl z)
      have d2 : ¬ 57 < byI (T i) := fun z => d0 (Or.inr z)
      rw [if_pos ⟨c, d⟩]
      simp (disch := omega) only [fX4_isDigitAt, fX4_isDigitAt_35, kO_1, kB_2, g_t, b_d, b_c, b_v, Bool.and_true, Bool.and_self, Bool.true_and, h.1, if_neg c', xIx, xIn, e, if_neg d1, if_neg d2, fb1]
    · have d' : dB (T i) = false := by cases z : dB (T i); rfl; exact absurd z d
      rw [if_neg (fun z => d z.2)]
      rcases bl.mpr d' with d1 | d1
      · simp (disch := omega) only [fX4_isDigitAt, fX4_isDigitAt_34, fX4_isDigitAt_35, kO_1, kB_2, g_t, b_d, b_c, b_v, Bool.and_true, Bool.and_self, Bool.true_and, h.1, if_neg c', xIx, xIn, e, if_pos d1, fb0]
      · by_cases d2 : byI (T i) < 48
        · simp (disch := omega) only [fX4_isDigitAt, fX4_isDigitAt_34, fX4_isDigitAt_35, kO_1, kB_2, g_t, b_d, b_c, b_v, Bool.and_true, Bool.and_self, Bool.true_and, h.1, if_neg c', xIx, xIn, e, if_pos d2, fb0]
        · simp (disch := omega) only [fX4_isDigitAt, fX4_isDigitAt_34, fX4_isDigitAt_35, kO_1, kB_2, g_t, b_d, b_c, b_v, Bool.and_true, Bool.and_self, Bool.true_and, h.1, if_neg c', xIx, xIn, e, if_neg d2, if_pos d1, fb0]
  · have c' : nI t ≤ nI i := (xLe (by omega) (by omega)).mpr (by omega)
    rw [if_neg (fun z => c z.1)]
    simp only [fX4_isDigitAt, fX4_isDigitAt_34, fX4_isDigitAt_35, kO_1, g_t, b_d, b_c, b_v, Bool.and_true, Bool.and_self, Bool.true_and, h.1, if_pos c', fb0]
/-- the class's reader changes only its own cells, not the tape's length -/
def fR (C C' : mT) : Prop := (∀ a j, a ≠ 1 → C'.1 a j = C.1 a j ∧ C'.2 a j = C.2 a j) ∧ C'.1 1 1 = C.1 1 1
theorem fR.rf (C : mT) : fR C C := ⟨fun _ _ _ => ⟨rfl, rfl⟩, rfl⟩
theorem fR.tr {C D E : mT} (h : fR C D) (h2 : fR D E) : fR C E := ⟨fun a j g => ⟨(h2.1 a j g).1.trans (h.1 a j g).1, (h2.1 a j g).2.trans (h.1 a j g).2⟩, h2.2.trans h.2⟩
theorem fR.sI {C D : mT} (h : fR C D) {k : Nat} (hk : k ≠ 1) (v : Int32) : fR C (sI D 1 k v) := ⟨fun a j g => ⟨by rw [sI_ne (by omega)]; exact (h.1 a j g).1, by rw [sI_2]; exact (h.1 a j g).2⟩, by rw [sI_ne (by omega)]; exact h.2⟩
theorem sJ_ne {S : mT} {a k i j : Nat} {v : Int64} (h : ¬ (i = a ∧ j = k)) : (sJ S a k v).2 i j = S.2 i j := by
  show up2 S.2 a k v i j = _
  exact up2_rd h
theorem sJ_eq {S : mT} {a k : Nat} {v : Int64} : (sJ S a k v).2 a k = v := by
  show up2 S.2 a k v a k = _
  rw [up2_at]
  unfold va_up
  rw [if_pos rfl]
theorem fR.sJ {C D : mT} (h : fR C D) {k : Nat} (v : Int64) : fR C (sJ D 1 k v) := ⟨fun a j g => ⟨by rw [sJ_1]; exact (h.1 a j g).1, by rw [sJ_ne (by omega)]; exact (h.1 a j g).2⟩, by rw [sJ_1]; exact h.2⟩
theorem fR.tp {C C' : mT} (f : fR C C') (h : tpC T t C) : tpC T t C' := tpC_fr h f.2 (fun k => (f.1 2 k (by omega)).1)
/-- a fault is told: kind, place -/
def cD (f pl : Nat) (C : mT) : Prop := 1 ≤ f ∧ f ≤ 4 ∧ C.1 1 2 = nI f ∧ C.1 1 3 = nI pl ∧ C.1 1 4 = nI 0
theorem c_ref0 {C : mT} (h2 : C.1 1 2 = nI 0) {pl f : Nat} (h5 : C.1 1 5 = nI pl) (hf : 1 ≤ f) (hf4 : f ≤ 4) : ∃ C', fX4_refuse (nI f) C = some C' ∧ cD f pl C' ∧ fR C C' := by
  have c : C.1 1 2 = 0 := h2
  have h5' : (sI C 1 2 (nI f)).1 1 5 = nI pl := by rw [sI_ne (by omega)]; exact h5
  refine ⟨sI (sI (sI C 1 2 (nI f)) 1 3 (nI pl)) 1 4 (nI 0), ?_, ⟨hf, hf4, by rw [sI_ne (by omega), sI_ne (by omega), sI_eq], by rw [sI_ne (by omega), sI_eq], by rw [sI_eq]⟩, (((fR.rf C).sI (by omega) _).sI (by omega) _).sI (by omega) _⟩
  simp only [fX4_refuse, fX4_refuse_20, kO_1, g_t, b_d, b_c, b_v, Bool.and_true, Bool.and_self, Bool.true_and, if_pos c, h5']
  rfl
theorem c_refD {C : mT} {f pl : Nat} (h : cD f pl C) (v : Int32) : ∃ C', fX4_refuse v C = some C' ∧ cD f pl C' ∧ fR C C' := by
  have c : ¬ C.1 1 2 = 0 := by
    rw [h.2.2.1]
    exact fun z => by have := (xEq (b := 0) (by have := h.2.1; omega) (by omega)).mp z; have := h.1; omega
  refine ⟨sI C 1 4 (nI 0), ?_, ⟨h.1, h.2.1, by rw [sI_ne (by omega)]; exact h.2.2.1, by rw [sI_ne (by omega)]; exact h.2.2.2.1, by rw [sI_eq]⟩, (fR.rf C).sI (by omega) _⟩
  simp only [fX4_refuse, fX4_refuse_20, kO_1, g_t, b_d, b_c, b_v, Bool.and_true, Bool.and_self, Bool.true_and, if_neg c]
  rfl
theorem c_advD {C : mT} {f pl : Nat} (h : cD f pl C) : fX4_advance C = some C := by
  have c : ¬ C.1 1 2 = 0 := by
    rw [h.2.2.1]
    exact fun z => by have := (xEq (b := 0) (by have := h.2.1; omega) (by omega)).mp z; have := h.1; omega
  simp only [fX4_advance, kO_1, g_t, b_d, b_c, b_v, Bool.and_true, Bool.and_self, Bool.true_and, if_neg c]
end
