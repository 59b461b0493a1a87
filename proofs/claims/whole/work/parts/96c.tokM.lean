/-! PROVINCE: the reference's tokens. -/
section
variable {T : Nat → Nat} {t : Nat}
def tpM (T : Nat → Nat) (t : Nat) (L : mT) : Prop := L.1 187 5 = nI t ∧ ∀ k, k < t → L.1 188 k = nI (T k)
/-- the reference's token changes only these -/
def fQ (L L' : mT) : Prop := (∀ a j, ¬ (a = 187 ∧ (j = 4 ∨ j = 6 ∨ j = 7 ∨ j = 8)) → L'.1 a j = L.1 a j) ∧ ∀ a j, ¬ (a = 187 ∧ j = 9) → L'.2 a j = L.2 a j
theorem fQ.rf (L : mT) : fQ L L := ⟨fun _ _ _ => rfl, fun _ _ _ => rfl⟩
theorem fQ.tr {C D E : mT} (h : fQ C D) (h2 : fQ D E) : fQ C E := ⟨fun a j g => (h2.1 a j g).trans (h.1 a j g), fun a j g => (h2.2 a j g).trans (h.2 a j g)⟩
theorem fQ.sI {C D : mT} (h : fQ C D) {k : Nat} (hk : k = 4 ∨ k = 6 ∨ k = 7 ∨ k = 8) (v : Int32) : fQ C (sI D 187 k v) := ⟨fun a j g => by rw [sI_ne (by omega)]; exact h.1 a j g, fun a j g => by rw [sI_2]; exact h.2 a j g⟩
theorem fQ.sJ {C D : mT} (h : fQ C D) (v : Int64) : fQ C (sJ D 187 9 v) := ⟨fun a j g => by rw [sJ_1]; exact h.1 a j g, fun a j g => by rw [sJ_ne g]; exact h.2 a j g⟩
theorem fQ.tp {C C' : mT} (f : fQ C C') (h : tpM T t C) : tpM T t C' := ⟨by rw [f.1 _ _ (by omega)]; exact h.1, fun k hk => by rw [f.1 _ _ (by omega)]; exact h.2 k hk⟩
theorem m_here (ht : t ≤ 1600) {L : mT} (h : tpM T t L) {b i : Nat} (hb : b + i ≤ 1600) (e4 : L.1 187 4 = nI b) : fX12_here (nI i) L = some (if b + i < t then nI (T (b + i)) else -1, L) := by
  have o1 : nI b + nI i = nI (b + i) := nI_add b i
  by_cases c : b + i < t
  · have c' : ¬ nI t ≤ nI (b + i) := fun z => by have := (xLe (by omega) (by omega)).mp z; omega
    rw [if_pos c]
    simp (disch := omega) only [fX12_here, fX12_here_28, kO_187, kI_188, g_t, b_d, b_c, b_v, Bool.and_true, Bool.and_self, Bool.true_and, h.1, e4, o1, if_neg c', xIx, xIn, h.2 _ c]
  · have c' : nI t ≤ nI (b + i) := (xLe (by omega) (by omega)).mpr (by omega)
    rw [if_neg c]
    simp only [fX12_here, fX12_here_28, kO_187, g_t, b_d, b_c, b_v, Bool.and_true, Bool.and_self, Bool.true_and, h.1, e4, o1, if_pos c']
/-- what is read: a byte, or -1 -/
def hrI (T : Nat → Nat) (t p : Nat) : Int32 := if p < t then nI (T p) else -1
theorem m_hL : ∀ c, c < 256 → ((nI c < 97 ∨ 122 < nI c) ↔ lB c = false) := by decide +kernel
theorem m_hD : ∀ c, c < 256 → ((nI c < 48 ∨ 57 < nI c) ↔ dB c = false) := by decide +kernel
theorem m_isL (hT : ∀ k, k < t → T k < 256) (p : Nat) (L : mT) : fX12_isLetter (hrI T t p) L = some (if p < t ∧ lB (T p) = true then 1 else 0, L) := by
  unfold hrI
  by_cases c : p < t
  · rw [if_pos c]
    have bl := m_hL (T p) (hT p c)
    by_cases d : lB (T p) = true
    · have d0 : ¬ (nI (T p) < 97 ∨ 122 < nI (T p)) := fun z => by rw [bl.mp z] at d; cases d
      have d1 : ¬ nI (T p) < 97 := fun z => d0 (Or.inl z)
      have d2 : ¬ 122 < nI (T p) := fun z => d0 (Or.inr z)
      rw [if_pos ⟨c, d⟩]
      simp only [fX12_isLetter, fX12_isLetter_17, if_neg d1, if_neg d2, fb1, g_t, b_d, b_c, b_v, Bool.and_true, Bool.and_self, Bool.true_and]
    · have d' : lB (T p) = false := by cases z : lB (T p); rfl; exact absurd z d
      rw [if_neg (fun z => d z.2)]
      by_cases d1 : nI (T p) < 97
      · simp only [fX12_isLetter, fX12_isLetter_16, fX12_isLetter_17, if_pos d1, fb0, g_t, b_d, b_c, b_v, Bool.and_true, Bool.and_self, Bool.true_and]
      · have d2 : 122 < nI (T p) := by
          rcases bl.mpr d' with z | z
          · exact absurd z d1
          · exact z
        simp only [fX12_isLetter, fX12_isLetter_16, fX12_isLetter_17, if_neg d1, if_pos d2, fb0, g_t, b_d, b_c, b_v, Bool.and_true, Bool.and_self, Bool.true_and]
  · rw [if_neg c, if_neg (fun z => c z.1)]
    have d1 : (-1 : Int32) < 97 := by decide
    simp only [fX12_isLetter, fX12_isLetter_16, fX12_isLetter_17, if_pos d1, fb0, g_t, b_d, b_c, b_v, Bool.and_true, Bool.and_self, Bool.true_and]
theorem m_isD (hT : ∀ k, k < t → T k < 256) (p : Nat) (L : mT) : fX12_isDigit (hrI T t p) L = some (if p < t ∧ dB (T p) = true then 1 else 0, L) := by
  unfold hrI
  by_cases c : p < t
  · rw [if_pos c]
    have bl := m_hD (T p) (hT p c)
    by_cases d : dB (T p) = true
    · have d0 : ¬ (nI (T p) < 48 ∨ 57 < nI (T p)) := fun z => by rw [bl.mp z] at d; cases d
      have d1 : ¬ nI (T p) < 48 := fun z => d0 (Or.inl z)
      have d2 : ¬ 57 < nI (T p) := fun z => d0 (Or.inr z)
      rw [if_pos ⟨c, d⟩]
      simp only [fX12_isDigit, fX12_isDigit_17, if_neg d1, if_neg d2, fb1, g_t, b_d, b_c, b_v, Bool.and_true, Bool.and_self, Bool.true_and]
    · have d' : dB (T p) = false := by cases z : dB (T p); rfl; exact absurd z d
      rw [if_neg (fun z => d z.2)]
      by_cases d1 : nI (T p) < 48
      · simp only [fX12_isDigit, fX12_isDigit_16, fX12_isDigit_17, if_pos d1, fb0, g_t, b_d, b_c, b_v, Bool.and_true, Bool.and_self, Bool.true_and]
      · have d2 : 57 < nI (T p) := by
          rcases bl.mpr d' with z | z
          · exact absurd z d1
          · exact z
        simp only [fX12_isDigit, fX12_isDigit_16, fX12_isDigit_17, if_neg d1, if_pos d2, fb0, g_t, b_d, b_c, b_v, Bool.and_true, Bool.and_self, Bool.true_and]
  · rw [if_neg c, if_neg (fun z => c z.1)]
    have d1 : (-1 : Int32) < 48 := by decide
    simp only [fX12_isDigit, fX12_isDigit_16, fX12_isDigit_17, if_pos d1, fb0, g_t, b_d, b_c, b_v, Bool.and_true, Bool.and_self, Bool.true_and]
theorem m_hr (ht : t ≤ 1600) {L : mT} (h : tpM T t L) {b i : Nat} (hb : b + i ≤ 1600) (e4 : L.1 187 4 = nI b) : fX12_here (nI i) L = some (hrI T t (b + i), L) := m_here ht h hb e4
/-- words of eight letters and less -/
theorem w8_lt {b : Nat} : ∀ k, (∀ i, i < k → T (b + i) ≤ 255) → w8N T b k < 256 ^ k
  | 0, _ => by show 0 < 256 ^ 0; decide
  | k + 1, h => by
    have ih := w8_lt k (fun i hi => h i (by omega))
    have := h k (by omega)
    unfold w8N
    rw [Nat.pow_succ]
    omega
theorem shl64 {a c : Nat} (ha : a < 256 ^ 7) (hc : c < 256) : (Int64.ofNat a <<< ((8 : Int32).toInt64 &&& 63)) ||| (nI c).toInt64 = Int64.ofNat (a * 256 + c) := by
  apply Int64.toBitVec.inj
  have e1 : ((8 : Int32).toInt64 &&& (63 : Int64)).toBitVec.smod 64 = 8#64 := by decide
  have e2 : ((nI c).toInt64).toBitVec = BitVec.ofNat 64 c := by
    show (BitVec.ofNat 32 c).signExtend 64 = _
    apply BitVec.eq_of_toNat_eq
    have hm : (BitVec.ofNat 32 c).msb = false := by
      rw [BitVec.msb_eq_decide]
      simp
      omega
    rw [BitVec.signExtend_eq_setWidth_of_msb_false hm, BitVec.toNat_setWidth, BitVec.toNat_ofNat, BitVec.toNat_ofNat]
    omega
  show (BitVec.ofNat 64 a <<< (((8 : Int32).toInt64 &&& (63 : Int64)).toBitVec.smod 64)) ||| ((nI c).toInt64).toBitVec = BitVec.ofNat 64 (a * 256 + c)
  rw [e1, e2, BitVec.shiftLeft_eq', show (8#64).toNat = 8 from rfl]
  have e3 : BitVec.ofNat 64 a <<< 8 = BitVec.ofNat 64 (a * 256) := by
    apply BitVec.eq_of_toNat_eq
    rw [BitVec.toNat_shiftLeft, BitVec.toNat_ofNat, BitVec.toNat_ofNat, Nat.mod_eq_of_lt (by omega : a < 2 ^ 64), Nat.shiftLeft_eq]
  rw [e3, ← BitVec.ofNat_or]
  congr 1
  have := Nat.two_pow_add_eq_or_of_lt (i := 8) (b := c) (by omega) a
  rw [Nat.mul_comm a 256, show 256 = 2 ^ 8 from rfl, this]
theorem m_tw (ht : t ≤ 1600) (hT : ∀ k, k < t → T k < 256) {b e : Nat} (he : e ≤ t) (hl : ∀ i, b ≤ i → i < e → i < t ∧ lB (T i) = true) (hne : ¬ (e < t ∧ lB (T e) = true)) : ∀ (m i k : Nat) (L : mT), b + i + m = e → m < k → tpM T t L → L.1 187 4 = nI b → L.2 187 9 = Int64.ofNat (w8N T b (min i 8)) → ∃ L', fX12_token_78 k (nI i) L = fX12_token_131 (nI (e - b)) (if e ≤ b + 8 then 1 else 3) L' ∧ L'.2 187 9 = Int64.ofNat (w8N T b (min (e - b) 8)) ∧ (∀ a j, L'.1 a j = L.1 a j) ∧ fQ L L'
  | 0, i, k, L, hi, hk, h, e4, e9 => by
    obtain ⟨k', rfl⟩ := up1 hk
    have hi' : e = b + i := by omega
    have hr := m_hr ht h (b := b) (i := i) (by omega) e4
    have il := m_isL hT (b + i) L
    rw [if_neg (by rw [← hi']; exact hne)] at il
    refine ⟨L, ?_, by rw [show e - b = i by omega]; exact e9, fun _ _ => rfl, fQ.rf L⟩
    rw [show e - b = i by omega]
    by_cases c : i ≤ 8
    · have c' : nI i ≤ (8 : Int32) := (xLe (b := 8) (by omega) (by omega)).mpr c
      rw [if_pos (by omega)]
      simp only [fX12_token_78, hr, il, g_t, b_d, b_c, b_v, Bool.and_true, Bool.and_self, Bool.true_and, if_true, if_pos c']
    · have c' : ¬ nI i ≤ (8 : Int32) := fun z => c ((xLe (b := 8) (by omega) (by omega)).mp z)
      rw [if_neg (by omega)]
      simp only [fX12_token_78, hr, il, g_t, b_d, b_c, b_v, Bool.and_true, Bool.and_self, Bool.true_and, if_true, if_neg c']
  | m + 1, i, k, L, hi, hk, h, e4, e9 => by
    obtain ⟨k', rfl⟩ := up1 hk
    obtain ⟨l1, l2⟩ := hl (b + i) (by omega) (by omega)
    have hr := m_hr ht h (b := b) (i := i) (by omega) e4
    have il := m_isL hT (b + i) L
    rw [if_pos ⟨l1, l2⟩] at il
    have t1 : ¬ (1 : Int32) = 0 := by decide
    have o1 : nI i + (1 : Int32) = nI (i + 1) := nI_add i 1
    by_cases c : 8 ≤ i
    · have c' : (8 : Int32) ≤ nI i := (xLe (a := 8) (by omega) (by omega)).mpr c
      obtain ⟨L', r1, r2, r3, r4⟩ := m_tw ht hT he hl hne m (i + 1) k' L (by omega) (by omega) h e4 (by rw [e9]; congr 2; omega)
      refine ⟨L', ?_, r2, r3, r4⟩
      rw [← r1]
      simp only [fX12_token_78, fX12_token_113, hr, il, g_t, b_d, b_c, b_v, Bool.and_true, Bool.and_self, Bool.true_and, if_neg t1, if_pos c', o1]
    · have c' : ¬ (8 : Int32) ≤ nI i := fun z => c ((xLe (a := 8) (by omega) (by omega)).mp z)
      have ehr : hrI T t (b + i) = nI (T (b + i)) := if_pos l1
      have es := shl64 (a := w8N T b i) (c := T (b + i)) (by
        have h1 := w8_lt (T := T) (b := b) i (fun j hj => by have := hT (b + j) (hl (b + j) (by omega) (by omega)).1; omega)
        exact Nat.lt_of_lt_of_le h1 (Nat.pow_le_pow_right (by omega) (by omega))) (hT _ l1)
      have e9' : L.2 187 9 = Int64.ofNat (w8N T b i) := by rw [e9]; congr 2; omega
      have f1 : fQ L (sJ L 187 9 (Int64.ofNat (w8N T b i * 256 + T (b + i)))) := (fQ.rf L).sJ _
      obtain ⟨L', r1, r2, r3, r4⟩ := m_tw ht hT he hl hne m (i + 1) k' (sJ L 187 9 (Int64.ofNat (w8N T b i * 256 + T (b + i)))) (by omega) (by omega) (f1.tp h) (by rw [sJ_1]; exact e4) (by
        rw [sJ_eq, show min (i + 1) 8 = i + 1 by omega]
        rfl)
      refine ⟨L', ?_, r2, fun a j => by rw [r3 a j, sJ_1], f1.tr r4⟩
      rw [← r1]
      rw [ehr] at hr il
      simp only [fX12_token_78, fX12_token_113, kO_187, hr, il, g_t, b_d, b_c, b_v, Bool.and_true, Bool.and_self, Bool.true_and, if_neg t1, if_neg c', e9', es, o1]
theorem m_tn (ht : t ≤ 1600) (hT : ∀ k, k < t → T k < 256) {b e : Nat} (he : e ≤ t) (hl : ∀ i, b ≤ i → i < e → i < t ∧ dB (T i) = true) (hne : ¬ (e < t ∧ dB (T e) = true)) : ∀ (m i k : Nat) (L : mT), b + i + m = e → m < k → tpM T t L → L.1 187 4 = nI b → L.1 187 8 = nI (nvN T b (min i 4)) → ∃ L', fX12_token_144 k (nI i) L = fX12_token_208 (nI (e - b)) (if e ≤ b + 4 ∧ ¬ (e < t ∧ lB (T e) = true) then 2 else 3) L' ∧ L'.1 187 8 = nI (nvN T b (min (e - b) 4)) ∧ L'.2 = L.2 ∧ (∀ a j, ¬ (a = 187 ∧ j = 8) → L'.1 a j = L.1 a j) ∧ fQ L L'
  | 0, i, k, L, hi, hk, h, e4, e8 => by
    obtain ⟨k', rfl⟩ := up1 hk
    have hi' : e = b + i := by omega
    have hr := m_hr ht h (b := b) (i := i) (by omega) e4
    have id' := m_isD hT (b + i) L
    have il := m_isL hT (b + i) L
    rw [if_neg (by rw [← hi']; exact hne)] at id'
    refine ⟨L, ?_, by rw [show e - b = i by omega]; exact e8, rfl, fun _ _ _ => rfl, fQ.rf L⟩
    rw [show e - b = i by omega]
    have t1 : ¬ (1 : Int32) = 0 := by decide
    by_cases c : 4 < i
    · have c' : (4 : Int32) < nI i := (xLt (a := 4) (by omega) (by omega)).mpr c
      rw [if_neg (by omega)]
      simp only [fX12_token_144, fX12_token_203, hr, id', g_t, b_d, b_c, b_v, Bool.and_true, Bool.and_self, Bool.true_and, if_true, if_pos c']
    · have c' : ¬ (4 : Int32) < nI i := fun z => c ((xLt (a := 4) (by omega) (by omega)).mp z)
      by_cases d : b + i < t ∧ lB (T (b + i)) = true
      · rw [if_pos d] at il
        rw [if_neg (fun z => z.2 (by rw [hi']; exact d))]
        simp only [fX12_token_144, fX12_token_203, hr, id', il, g_t, b_d, b_c, b_v, Bool.and_true, Bool.and_self, Bool.true_and, if_true, if_neg c', if_neg t1]
      · rw [if_neg d] at il
        rw [if_pos ⟨by omega, by rw [hi']; exact d⟩]
        simp only [fX12_token_144, hr, id', il, g_t, b_d, b_c, b_v, Bool.and_true, Bool.and_self, Bool.true_and, if_true, if_neg c']
  | m + 1, i, k, L, hi, hk, h, e4, e8 => by
    obtain ⟨k', rfl⟩ := up1 hk
    obtain ⟨l1, l2⟩ := hl (b + i) (by omega) (by omega)
    have hr := m_hr ht h (b := b) (i := i) (by omega) e4
    have id' := m_isD hT (b + i) L
    rw [if_pos ⟨l1, l2⟩] at id'
    have t1 : ¬ (1 : Int32) = 0 := by decide
    have o1 : nI i + (1 : Int32) = nI (i + 1) := nI_add i 1
    by_cases c : 4 ≤ i
    · have c' : (4 : Int32) ≤ nI i := (xLe (a := 4) (by omega) (by omega)).mpr c
      obtain ⟨L', r1, r2, r3, r4, r5⟩ := m_tn ht hT he hl hne m (i + 1) k' L (by omega) (by omega) h e4 (by rw [e8]; congr 2; omega)
      refine ⟨L', ?_, r2, r3, r4, r5⟩
      rw [← r1]
      simp only [fX12_token_144, fX12_token_180, hr, id', g_t, b_d, b_c, b_v, Bool.and_true, Bool.and_self, Bool.true_and, if_neg t1, if_pos c', o1]
    · have c' : ¬ (4 : Int32) ≤ nI i := fun z => c ((xLe (a := 4) (by omega) (by omega)).mp z)
      have ehr : hrI T t (b + i) = nI (T (b + i)) := if_pos l1
      have bn := by_n (T (b + i)) (hT _ l1) l2
      have e8' : L.1 187 8 = nI (nvN T b i) := by rw [e8]; congr 2; omega
      have es : (10 : Int32) * nI (nvN T b i) + nI (T (b + i)) - (48 : Int32) = nI (nvN T b i * 10 + (T (b + i) - 48)) := by
        rw [show (10 : Int32) = nI 10 from rfl, xM, nI_add, show (48 : Int32) = nI 48 from rfl, xS (by omega)]
        congr 1
        omega
      have f1 : fQ L (sI L 187 8 (nI (nvN T b i * 10 + (T (b + i) - 48)))) := (fQ.rf L).sI (by omega) _
      obtain ⟨L', r1, r2, r3, r4, r5⟩ := m_tn ht hT he hl hne m (i + 1) k' (sI L 187 8 (nI (nvN T b i * 10 + (T (b + i) - 48)))) (by omega) (by omega) (f1.tp h) (by rw [sI_ne (by omega)]; exact e4) (by
        rw [sI_eq, show min (i + 1) 4 = i + 1 by omega]
        rfl)
      refine ⟨L', ?_, r2, by rw [r3, sI_2], fun a j g => by rw [r4 a j g, sI_ne g], f1.tr r5⟩
      rw [← r1]
      rw [ehr] at hr id'
      simp only [fX12_token_144, fX12_token_180, kO_187, hr, id', g_t, b_d, b_c, b_v, Bool.and_true, Bool.and_self, Bool.true_and, if_neg t1, if_neg c', e8', es, o1]
end
section
variable {T : Nat → Nat} {t : Nat}
/-- the reference's word for a kind of token -/
def srN (T : Nat → Nat) (t p : Nat) : Nat := if tkN T t p = 3 then T (tbN T t p) else if tkN T t p = 4 then 3 else tkN T t p
def mTo (T : Nat → Nat) (t p : Nat) (L : mT) : Prop := L.1 187 2 = nI 0 ∧ L.1 187 6 = nI (srN T t p) ∧ L.1 187 7 = nI (tbN T t p) ∧ (tkN T t p ≠ 4 → L.1 187 4 = nI (txN T t p)) ∧ (tkN T t p = 1 → L.2 187 9 = Int64.ofNat (w8N T (tbN T t p) (txN T t p - tbN T t p))) ∧ (tkN T t p = 2 → L.1 187 8 = nI (nvN T (tbN T t p) (txN T t p - tbN T t p)))
theorem m_sg : ∀ c, c < 256 → ∀ L : mT, fX12_isSign (nI c) L = some (if sB c = true then 1 else 0, L) := by
  intro c hc L
  have key : (if nI c = (59 : Int32) then true else if nI c = (40 : Int32) then true else if nI c = (41 : Int32) then true else if nI c = (60 : Int32) then true else if nI c = (62 : Int32) then true else if nI c = (61 : Int32) then true else if nI c = (43 : Int32) then true else if nI c = (45 : Int32) then true else if nI c = (42 : Int32) then true else if nI c = (47 : Int32) then true else if nI c = (37 : Int32) then true else false) = sB c := by
    revert c
    decide +kernel
  rw [← key]
  have e : fX12_isSign (nI c) L = if nI c = (59 : Int32) then fX12_isSign_66 L else if nI c = (40 : Int32) then fX12_isSign_66 L else if nI c = (41 : Int32) then fX12_isSign_66 L else if nI c = (60 : Int32) then fX12_isSign_66 L else if nI c = (62 : Int32) then fX12_isSign_66 L else if nI c = (61 : Int32) then fX12_isSign_66 L else if nI c = (43 : Int32) then fX12_isSign_66 L else if nI c = (45 : Int32) then fX12_isSign_66 L else if nI c = (42 : Int32) then fX12_isSign_66 L else if nI c = (47 : Int32) then fX12_isSign_66 L else if nI c = (37 : Int32) then fX12_isSign_66 L else fX12_isSign_71 (0 : Int32) L := rfl
  rw [e, chT (chT (chT (chT (chT (chT (chT (chT (chT (chT (chT ch0))))))))))]
  have e66 : fX12_isSign_66 L = some (1, L) := by
    simp only [fX12_isSign_66, fX12_isSign_71, fb1, g_t, b_d, b_c, b_v, Bool.and_true, Bool.and_self, Bool.true_and]
  have e71 : fX12_isSign_71 (0 : Int32) L = some (0, L) := by
    simp only [fX12_isSign_71, fb0, g_t, b_d, b_c, b_v, Bool.and_true, Bool.and_self, Bool.true_and]
  rw [e66, e71]
  generalize (if nI c = (59 : Int32) then true else if nI c = (40 : Int32) then true else if nI c = (41 : Int32) then true else if nI c = (60 : Int32) then true else if nI c = (62 : Int32) then true else if nI c = (61 : Int32) then true else if nI c = (43 : Int32) then true else if nI c = (45 : Int32) then true else if nI c = (42 : Int32) then true else if nI c = (47 : Int32) then true else if nI c = (37 : Int32) then true else false) = y
  cases y
  · rfl
  · rfl
theorem m_hB : ∀ c, c < 256 → ((nI c = 32 ∨ nI c = 10) ↔ bB c = true) := by decide +kernel
/-- the token from its first byte -/
def tkM (L : mT) : Option mT := grd (kO 187 12 && (kO 187 12 && true)) <| bnd (sI L 187 7 (L.1 187 4)) fun S5 => bndC (fX12_here (0 : Int32) S5) fun x7 S6 => grd (kO 187 12 && true) <| bnd (sJ S6 187 9 (0 : Int64)) fun S8 => grd (kO 187 12 && true) <| bnd (sI S8 187 8 (0 : Int32)) fun S9 => if 0 ≤ x7 then bndC (fX12_isLetter x7 S9) fun x11 S10 => if x11 = 0 then bndC (fX12_isDigit x7 S10) fun x13 S12 => if x13 = 0 then bndC (fX12_isSign x7 S12) fun x15 S14 => if x15 = 0 then fX12_token_229 (1 : Int32) (3 : Int32) S14 else fX12_token_229 (1 : Int32) x7 S14 else fX12_token_144 mK (0 : Int32) S12 else fX12_token_78 mK (0 : Int32) S10 else grd (kO 187 12 && true) <| bnd (sI S9 187 6 (0 : Int32)) fun S16 => fX12_token_232 (0 : Int32) S16
theorem m_bl (ht : t ≤ 1600) (hT : ∀ k, k < t → T k < 256) {p b : Nat} (he : b ≤ t) (hl : ∀ i, p ≤ i → i < b → i < t ∧ bB (T i) = true) (hne : ¬ (b < t ∧ bB (T b) = true)) : ∀ (m i k : Nat) (L : mT), i + m = b → m < k → p ≤ i → tpM T t L → L.1 187 4 = nI i → ∃ L', fX12_token_0 k L = tkM L' ∧ L'.1 187 4 = nI b ∧ L'.1 187 2 = L.1 187 2 ∧ fQ L L'
  | 0, i, k, L, hi, hk, hb, h, e4 => by
    obtain ⟨k', rfl⟩ := up1 hk
    have hi : i = b := by omega
    subst hi
    refine ⟨L, ?_, e4, rfl, fQ.rf L⟩
    have hr : fX12_here (0 : Int32) L = some (hrI T t (i + 0), L) := m_hr ht h (b := i) (i := 0) (by omega) e4
    rw [Nat.add_zero] at hr
    have d0 : ¬ (hrI T t i = 32 ∨ hrI T t i = 10) := by
      unfold hrI
      by_cases c : i < t
      · rw [if_pos c]
        exact fun z => hne ⟨c, (m_hB (T i) (hT i c)).mp z⟩
      · rw [if_neg c]
        decide
    have d1 : ¬ hrI T t i = 32 := fun z => d0 (Or.inl z)
    have d2 : ¬ hrI T t i = 10 := fun z => d0 (Or.inr z)
    conv => lhs; unfold fX12_token_0
    rw [hr, b_c, if_neg d1, hr, b_c, if_neg d2]
    rfl
  | m + 1, i, k, L, hi, hk, hb, h, e4 => by
    obtain ⟨k', rfl⟩ := up1 hk
    obtain ⟨l1, l2⟩ := hl i hb (by omega)
    have hr : fX12_here (0 : Int32) L = some (hrI T t (i + 0), L) := m_hr ht h (b := i) (i := 0) (by omega) e4
    rw [Nat.add_zero, show hrI T t i = nI (T i) from if_pos l1] at hr
    have o1 : nI i + (1 : Int32) = nI (i + 1) := nI_add i 1
    have f1 : fQ L (sI L 187 4 (nI (i + 1))) := (fQ.rf L).sI (by omega) _
    obtain ⟨L', r1, r2, r3, r4⟩ := m_bl ht hT he hl hne m (i + 1) k' (sI L 187 4 (nI (i + 1))) (by omega) (by omega) (by omega) (f1.tp h) (by rw [sI_eq])
    refine ⟨L', ?_, r2, by rw [r3, sI_ne (by omega)], f1.tr r4⟩
    rw [← r1]
    have st : fX12_token_20 (fX12_token_0 k') L = fX12_token_0 k' (sI L 187 4 (nI (i + 1))) := by
      simp only [fX12_token_20, kO_187, g_t, b_d, b_c, b_v, Bool.and_true, Bool.and_self, Bool.true_and, e4, o1]
    conv => lhs; unfold fX12_token_0
    by_cases d1 : nI (T i) = 32
    · rw [hr, b_c, if_pos d1, st]
    · have d2 : nI (T i) = 10 := by
        rcases (m_hB (T i) (hT i l1)).mpr l2 with z | z
        · exact absurd z d1
        · exact z
      rw [hr, b_c, if_neg d1, hr, b_c, if_pos d2, st]
theorem m_232 {L : mT} {v b : Nat} (e4 : L.1 187 4 = nI b) {s : Nat} (hs : s < 256) : ∃ L', (grd (kO 187 12 && true) <| bnd (sI L 187 6 (nI s)) fun S => fX12_token_232 (nI v) S) = some L' ∧ L'.1 187 6 = nI s ∧ (s ≠ 3 → L'.1 187 4 = nI (b + v)) ∧ (∀ j, j ≠ 4 → j ≠ 6 → L'.1 187 j = L.1 187 j) ∧ L'.2 = L.2 ∧ fQ L L' := by
  have o1 : nI b + nI v = nI (b + v) := nI_add b v
  have e6 : (sI L 187 6 (nI s)).1 187 6 = nI s := by rw [sI_eq]
  have e4' : (sI L 187 6 (nI s)).1 187 4 = nI b := by rw [sI_ne (by omega)]; exact e4
  by_cases c : s = 3
  · have c' : nI s = (3 : Int32) := by rw [c]; rfl
    refine ⟨sI L 187 6 (nI s), ?_, e6, fun z => absurd c z, fun j h1 h2 => by rw [sI_ne (by omega)], sI_2, (fQ.rf L).sI (by omega) _⟩
    simp only [fX12_token_232, fX12_token_250, kO_187, g_t, b_d, b_c, b_v, Bool.and_true, Bool.and_self, Bool.true_and, e6, if_pos c']
  · have c' : ¬ nI s = (3 : Int32) := fun z => c ((xEq (b := 3) (by omega) (by omega)).mp z)
    refine ⟨sI (sI L 187 6 (nI s)) 187 4 (nI (b + v)), ?_, by rw [sI_ne (by omega)]; exact e6, fun _ => by rw [sI_eq], fun j h1 h2 => by rw [sI_ne (by omega), sI_ne (by omega)], by rw [sI_2, sI_2], ((fQ.rf L).sI (by omega) _).sI (by omega) _⟩
    simp only [fX12_token_232, fX12_token_250, kO_187, g_t, b_d, b_c, b_v, Bool.and_true, Bool.and_self, Bool.true_and, e6, if_neg c', e4', o1]
theorem m_tok (ht : t ≤ 1600) (hT : ∀ k, k < t → T k < 256) {p : Nat} (hp : p ≤ t) {L : mT} (h : tpM T t L) (h2 : L.1 187 2 = nI 0) (e4 : L.1 187 4 = nI p) : ∃ L', fX12_token L = some L' ∧ mTo T t p L' ∧ fQ L L' := by
  obtain ⟨b1, b2, b3⟩ := rn_sp bB T t p
  have bl := rn_le (P := bB) (T := T) hp
  obtain ⟨L1, r1, r2, r3, r4⟩ := m_bl ht hT bl b2 b3 (rnN bB T t p - p) p mK L (by omega) (by have := mK_gt; omega) (Nat.le_refl _) h e4
  have hst : fX12_token L = tkM L1 := r1
  rw [hst]
  have eb : rnN bB T t p = tbN T t p := rfl
  rw [eb] at r2 bl
  obtain ⟨D, hD⟩ : ∃ D, sI (sJ (sI L1 187 7 (nI (tbN T t p))) 187 9 (0 : Int64)) 187 8 (0 : Int32) = D := ⟨_, rfl⟩
  have fD : fQ L D := by rw [← hD]; exact ((r4.sI (by omega) _).sJ _).sI (by omega) _
  have tD := fD.tp h
  have d2 : D.1 187 2 = nI 0 := by rw [← hD, sI_ne (by omega), sJ_1, sI_ne (by omega), r3]; exact h2
  have d7 : D.1 187 7 = nI (tbN T t p) := by rw [← hD, sI_ne (by omega), sJ_1, sI_eq]
  have d4 : D.1 187 4 = nI (tbN T t p) := by rw [← hD, sI_ne (by omega), sJ_1, sI_ne (by omega)]; exact r2
  have d8 : D.1 187 8 = nI 0 := by rw [← hD, sI_eq]; rfl
  have d9 : D.2 187 9 = Int64.ofNat 0 := by rw [← hD, sI_2, sJ_eq]; rfl
  have f5 : fQ L (sI L1 187 7 (nI (tbN T t p))) := r4.sI (by omega) _
  have hr : fX12_here (0 : Int32) (sI L1 187 7 (nI (tbN T t p))) = some (hrI T t (tbN T t p + 0), sI L1 187 7 (nI (tbN T t p))) := m_hr ht (f5.tp h) (b := tbN T t p) (i := 0) (by omega) (by rw [sI_ne (by omega)]; exact r2)
  rw [Nat.add_zero] at hr
  have hrun : tkM L1 = if 0 ≤ hrI T t (tbN T t p) then bndC (fX12_isLetter (hrI T t (tbN T t p)) D) fun x11 S10 => if x11 = 0 then bndC (fX12_isDigit (hrI T t (tbN T t p)) S10) fun x13 S12 => if x13 = 0 then bndC (fX12_isSign (hrI T t (tbN T t p)) S12) fun x15 S14 => if x15 = 0 then fX12_token_229 (1 : Int32) (3 : Int32) S14 else fX12_token_229 (1 : Int32) (hrI T t (tbN T t p)) S14 else fX12_token_144 mK (0 : Int32) S12 else fX12_token_78 mK (0 : Int32) S10 else grd (kO 187 12 && true) <| bnd (sI D 187 6 (0 : Int32)) fun S16 => fX12_token_232 (0 : Int32) S16 := by
    simp only [tkM, kO_187, g_t, b_d, b_c, b_v, Bool.and_true, Bool.and_self, Bool.true_and, r2, hr, hD]
  rw [hrun]
  have il := m_isL hT (tbN T t p) D
  have id' := m_isD hT (tbN T t p) D
  have t1 : ¬ (1 : Int32) = 0 := by decide
  by_cases c1 : t ≤ tbN T t p
  · have ek : tkN T t p = 0 := by unfold tkN; rw [if_pos c1]
    have ex : txN T t p = tbN T t p := by unfold txN; rw [if_pos c1]
    have er : srN T t p = 0 := by unfold srN; rw [ek]; rfl
    have c1' : ¬ 0 ≤ hrI T t (tbN T t p) := by unfold hrI; rw [if_neg (by omega)]; decide
    rw [if_neg c1']
    obtain ⟨L', s1, s2, s3, s4, s5, s6⟩ := m_232 (v := 0) d4 (s := 0) (by omega)
    refine ⟨L', s1, ⟨by rw [s4 _ (by omega) (by omega)]; exact d2, by rw [s2, er], by rw [s4 _ (by omega) (by omega)]; exact d7, fun _ => by rw [s3 (by omega), ex]; rfl, fun z => by omega, fun z => by omega⟩, fD.tr s6⟩
  have hc := hT (tbN T t p) (by omega)
  have c1' : 0 ≤ hrI T t (tbN T t p) := by
    unfold hrI
    rw [if_pos (by omega)]
    exact (xLe (a := 0) (by omega) (by omega)).mpr (by omega)
  rw [if_pos c1']
  by_cases c3 : lB (T (tbN T t p)) = true
  · rw [if_pos ⟨by omega, c3⟩] at il
    obtain ⟨e1, e2, e3⟩ := rn_sp lB T t (tbN T t p)
    have el := rn_le (P := lB) (T := T) bl
    have ex : txN T t p = rnN lB T t (tbN T t p) := by unfold txN; rw [if_neg c1, if_pos c3]
    obtain ⟨E, s1, s2, s3, s4⟩ := m_tw ht hT el e2 e3 (rnN lB T t (tbN T t p) - tbN T t p) 0 mK D (by omega) (by have := mK_gt; omega) tD d4 (by rw [d9]; rfl)
    have s1' : fX12_token_78 mK (0 : Int32) D = _ := s1
    rw [il, b_c, if_neg t1, s1']
    by_cases c4 : rnN lB T t (tbN T t p) ≤ tbN T t p + 8
    · have ek : tkN T t p = 1 := by unfold tkN; rw [if_neg c1, if_pos c3, if_pos c4]
      have er : srN T t p = 1 := by unfold srN; rw [ek]; rfl
      rw [if_pos c4]
      obtain ⟨L', q1, q2, q3, q4, q5, q6⟩ := m_232 (L := E) (v := rnN lB T t (tbN T t p) - tbN T t p) (b := tbN T t p) (by rw [s3]; exact d4) (s := 1) (by omega)
      refine ⟨L', q1, ⟨by rw [q4 _ (by omega) (by omega), s3]; exact d2, by rw [q2, er], by rw [q4 _ (by omega) (by omega), s3]; exact d7, fun _ => by rw [q3 (by omega), ex]; congr 1; omega, fun _ => by rw [q5, s2, ex]; congr 2; omega, fun z => by omega⟩, (fD.tr s4).tr q6⟩
    · have ek : tkN T t p = 4 := by unfold tkN; rw [if_neg c1, if_pos c3, if_neg c4]
      have er : srN T t p = 3 := by unfold srN; rw [ek]; rfl
      rw [if_neg c4]
      obtain ⟨L', q1, q2, q3, q4, q5, q6⟩ := m_232 (L := E) (v := rnN lB T t (tbN T t p) - tbN T t p) (b := tbN T t p) (by rw [s3]; exact d4) (s := 3) (by omega)
      refine ⟨L', q1, ⟨by rw [q4 _ (by omega) (by omega), s3]; exact d2, by rw [q2, er], by rw [q4 _ (by omega) (by omega), s3]; exact d7, fun z => absurd ek z, fun z => by omega, fun z => by omega⟩, (fD.tr s4).tr q6⟩
  rw [if_neg (fun z => c3 z.2)] at il
  by_cases c5 : dB (T (tbN T t p)) = true
  · rw [if_pos ⟨by omega, c5⟩] at id'
    obtain ⟨e1, e2, e3⟩ := rn_sp dB T t (tbN T t p)
    have el := rn_le (P := dB) (T := T) bl
    have ex : txN T t p = rnN dB T t (tbN T t p) := by unfold txN; rw [if_neg c1, if_neg c3, if_pos c5]
    obtain ⟨E, s1, s2, s3, s4, s5⟩ := m_tn ht hT el e2 e3 (rnN dB T t (tbN T t p) - tbN T t p) 0 mK D (by omega) (by have := mK_gt; omega) tD d4 (by rw [d8]; rfl)
    have s1' : fX12_token_144 mK (0 : Int32) D = _ := s1
    rw [il, b_c, if_pos rfl, id', b_c, if_neg t1, s1']
    by_cases c4 : rnN dB T t (tbN T t p) ≤ tbN T t p + 4 ∧ ¬ (rnN dB T t (tbN T t p) < t ∧ lB (T (rnN dB T t (tbN T t p))) = true)
    · have ek : tkN T t p = 2 := by unfold tkN; rw [if_neg c1, if_neg c3, if_pos c5, if_pos c4]
      have er : srN T t p = 2 := by unfold srN; rw [ek]; rfl
      rw [if_pos c4]
      obtain ⟨L', q1, q2, q3, q4, q5, q6⟩ := m_232 (L := E) (v := rnN dB T t (tbN T t p) - tbN T t p) (b := tbN T t p) (by rw [s4 _ _ (by omega)]; exact d4) (s := 2) (by omega)
      refine ⟨L', q1, ⟨by rw [q4 _ (by omega) (by omega), s4 _ _ (by omega)]; exact d2, by rw [q2, er], by rw [q4 _ (by omega) (by omega), s4 _ _ (by omega)]; exact d7, fun _ => by rw [q3 (by omega), ex]; congr 1; omega, fun z => by omega, fun _ => by rw [q4 _ (by omega) (by omega), s2, ex]; congr 2; omega⟩, (fD.tr s5).tr q6⟩
    · have ek : tkN T t p = 4 := by unfold tkN; rw [if_neg c1, if_neg c3, if_pos c5, if_neg c4]
      have er : srN T t p = 3 := by unfold srN; rw [ek]; rfl
      rw [if_neg c4]
      obtain ⟨L', q1, q2, q3, q4, q5, q6⟩ := m_232 (L := E) (v := rnN dB T t (tbN T t p) - tbN T t p) (b := tbN T t p) (by rw [s4 _ _ (by omega)]; exact d4) (s := 3) (by omega)
      refine ⟨L', q1, ⟨by rw [q4 _ (by omega) (by omega), s4 _ _ (by omega)]; exact d2, by rw [q2, er], by rw [q4 _ (by omega) (by omega), s4 _ _ (by omega)]; exact d7, fun z => absurd ek z, fun z => by omega, fun z => by omega⟩, (fD.tr s5).tr q6⟩
  rw [if_neg (fun z => c5 z.2)] at id'
  have ehr : hrI T t (tbN T t p) = nI (T (tbN T t p)) := if_pos (by omega)
  have sg := m_sg (T (tbN T t p)) hc D
  have ex : txN T t p = tbN T t p + 1 := by unfold txN; rw [if_neg c1, if_neg c3, if_neg c5]
  rw [il, b_c, if_pos rfl, id', b_c, if_pos rfl, ehr, sg, b_c]
  by_cases c7 : sB (T (tbN T t p)) = true
  · have ek : tkN T t p = 3 := by unfold tkN; rw [if_neg c1, if_neg c3, if_neg c5, if_pos c7]
    have er : srN T t p = T (tbN T t p) := by unfold srN; rw [if_pos ek]
    have n3 : T (tbN T t p) ≠ 3 := fun z => by rw [z] at c7; exact absurd c7 (by decide)
    rw [if_pos c7, if_neg t1]
    obtain ⟨L', q1, q2, q3, q4, q5, q6⟩ := m_232 (L := D) (v := 1) d4 (s := T (tbN T t p)) hc
    refine ⟨L', q1, ⟨by rw [q4 _ (by omega) (by omega)]; exact d2, by rw [q2, er], by rw [q4 _ (by omega) (by omega)]; exact d7, fun _ => by rw [q3 n3, ex], fun z => by omega, fun z => by omega⟩, fD.tr q6⟩
  · have ek : tkN T t p = 4 := by unfold tkN; rw [if_neg c1, if_neg c3, if_neg c5, if_neg c7]
    have er : srN T t p = 3 := by unfold srN; rw [ek]; rfl
    rw [if_neg c7, if_pos rfl]
    obtain ⟨L', q1, q2, q3, q4, q5, q6⟩ := m_232 (L := D) (v := 1) d4 (s := 3) (by omega)
    refine ⟨L', q1, ⟨by rw [q4 _ (by omega) (by omega)]; exact d2, by rw [q2, er], by rw [q4 _ (by omega) (by omega)]; exact d7, fun z => absurd ek z, fun z => by omega, fun z => by omega⟩, fD.tr q6⟩
end
