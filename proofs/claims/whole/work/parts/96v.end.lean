/-! PROVINCE: a line's end; what both hold between lines. -/
section
variable {T : Nat → Nat} {t : Nat}
theorem j_end (ht : t ≤ 1600) (hT : ∀ k, k < t → T k < 256) {u p0 : Nat} {G : mT → mT → Prop} (hG : ∀ C L C' L', G C L → fR C C' → fQw L L' → G C' L') {C L : mT} (htc : tpC T t C) (htm : tpM T t L) (h : out3 T t p0 G C L) : ∃ C' L', fX4_takeSign (59 : Int32) C = some C' ∧ fX12_readLine_151 L = some L' ∧ fR C C' ∧ fQw L L' ∧ out3 T t p0 G C' L' := by
  have t1 : ¬ (1 : Int32) = 0 := by decide
  rcases h with ⟨p, h0, hp, hc, hm, hg⟩ | ⟨p, hp, h4, hc, hm⟩ | ⟨w, pl, hc, hm⟩
  · have cs := c_isS hT hc (c := 59) (by omega) (by omega)
    have e2 : L.1 187 2 = 0 := hm.1
    obtain ⟨s1, s2, s3, s4, s5, s6, s7, s8⟩ := sr_lt hT p
    have g6 := hm.2.1
    by_cases k : srN T t p = 59
    · have cs' : fX4_isSign (59 : Int32) C = some (1, C) := cs.trans (by rw [if_pos k])
      have k3 := s8 (by omega)
      have mk : nI (srN T t p) = (59 : Int32) := by rw [k]; rfl
      obtain ⟨C1, b1, b2, b3⟩ := c_next ht hT hp htc hc
      obtain ⟨L1, q1, q2, q3⟩ := m_next ht hT hp htm hm hc.2.1
      have hx := tx_le (T := T) hp
      have htb := (tb_le (T := T) hp).1
      refine ⟨C1, L1, ?_, ?_, b3, q3.qw, ?_⟩
      · simp only [fX4_takeSign, fX4_takeSign_13, cs', g_t, b_d, b_c, b_v, Bool.and_true, Bool.and_self, Bool.true_and, if_neg t1, b1]
      · simp only [fX12_readLine_151, fX12_readLine_172, fX12_readLine_183, kO_187, g_t, b_d, b_c, b_v, Bool.and_true, Bool.and_self, Bool.true_and, if_pos e2, g6, if_pos mk, q1]
      · rcases b2 with z | ⟨z1, z2⟩
        · exact Or.inl ⟨_, by omega, hx.2.1, z, q2, hG _ _ _ _ hg b3 q3.qw⟩
        · exact Or.inr (Or.inl ⟨_, hx.2.1, z1, z2, q2⟩)
    · have cs' : fX4_isSign (59 : Int32) C = some (0, C) := cs.trans (by rw [if_neg k])
      have mk : ¬ nI (srN T t p) = (59 : Int32) := fun z => k ((xEq (b := 59) (by omega) (by omega)).mp z)
      obtain ⟨C1, d1, d2, d3⟩ := c_ref0 hc.1 hc.2.2.2.1 (f := 2) (by omega) (by omega)
      have d1' : fX4_refuse (2 : Int32) C = some C1 := d1
      obtain ⟨L1, w1, w2, w3, w4⟩ := m_wr hT hm (w := 2) (by omega) (by omega)
      have w1' : fX12_wrong (2 : Int32) L = some L1 := w1
      rw [if_neg hc.2.1] at w2
      have n1 := (mD_ne w2).1
      refine ⟨C1, L1, ?_, ?_, d3, wr_qw w3 w4, Or.inr (Or.inr ⟨2, _, d2, w2⟩)⟩
      · simp only [fX4_takeSign, fX4_takeSign_13, cs', g_t, b_d, b_c, b_v, Bool.and_true, Bool.and_self, Bool.true_and, if_true, d1', c_advD d2]
      · simp only [fX12_readLine_151, fX12_readLine_172, fX12_readLine_183, kO_187, g_t, b_d, b_c, b_v, Bool.and_true, Bool.and_self, Bool.true_and, if_pos e2, g6, if_neg mk, w1', if_neg n1]
  · have e2 : L.1 187 2 = 0 := hm.1
    obtain ⟨s1, s2, s3, s4, s5, s6, s7, s8⟩ := sr_lt hT p
    have g6 := hm.2.1
    have sr3 := s3.mpr h4
    have mk : ¬ nI (srN T t p) = (59 : Int32) := by rw [sr3]; decide
    obtain ⟨C1, d1, d2, d3⟩ := c_tsD hc (59 : Int32)
    obtain ⟨L1, w1, w2, w3, w4⟩ := m_wr hT hm (w := 2) (by omega) (by omega)
    have w1' : fX12_wrong (2 : Int32) L = some L1 := w1
    rw [if_pos h4] at w2
    have n1 := (mD_ne w2).1
    refine ⟨C1, L1, ?_, ?_, d3, wr_qw w3 w4, Or.inr (Or.inr ⟨1, _, d2, w2⟩)⟩
    · exact d1
    · simp only [fX12_readLine_151, fX12_readLine_172, fX12_readLine_183, kO_187, g_t, b_d, b_c, b_v, Bool.and_true, Bool.and_self, Bool.true_and, if_pos e2, g6, if_neg mk, w1', if_neg n1]
  · have n1 := (mD_ne hm).1
    obtain ⟨C1, d1, d2, d3⟩ := c_tsD hc (59 : Int32)
    refine ⟨C1, L, ?_, ?_, d3, fQw.rf L, Or.inr (Or.inr ⟨w, pl, d2, hm⟩)⟩
    · exact d1
    · simp only [fX12_readLine_151, fX12_readLine_172, fX12_readLine_183, kO_187, g_t, b_d, b_c, b_v, Bool.and_true, Bool.and_self, Bool.true_and, if_neg n1]
/-- a law while both read: not told, or read -/
def lawR (f a1 un : Nat) (C L : mT) : Prop := ∃ nm pc, cOK a1 nm un pc C ∧ L.1 192 f = nI nm ∧ mOK f nm pc L ∧ un ≤ 30 ∧ nm ≤ 9 * un ∧ wfP pc nm ∧ dqP pc nm = 1
def lawJ (f a1 un : Nat) (C L : mT) : Prop := (C.1 a1 4 = 0 ∧ C.1 a1 2 = nI 0 ∧ C.1 a1 3 = nI 0 ∧ un = 0 ∧ L.1 198 f = 0) ∨ (C.1 a1 4 = 1 ∧ L.1 198 f = 1 ∧ lawR f a1 un C L)
def drwJ (u : Nat) (C L : mT) : Prop := (C.1 u 11 = 0 ∧ L.1 187 38 = 0 ∧ C.1 u 10 = nI 0 ∧ L.1 187 36 = nI 0) ∨ (C.1 u 11 = 1 ∧ L.1 187 38 = 1 ∧ ∃ v, v ≤ 999 ∧ C.1 u 10 = nI v ∧ L.1 187 36 = nI v)
def RJ (T : Nat → Nat) (t u : Nat) (C L : mT) : Prop := ∃ n a b c, SJ T t u n C L ∧ lawJ 0 (u + 6) a C L ∧ lawJ 1 (u + 9) b C L ∧ lawJ 2 (u + 12) c C L ∧ L.1 187 23 = nI (a + b + c) ∧ drwJ u C L
theorem lawJ_fr {f a1 un : Nat} (hf : f < 3) {C L C' L' : mT} (h : lawJ f a1 un C L) (e1 : ∀ j, j = 2 ∨ j = 3 ∨ j = 4 → C'.1 a1 j = C.1 a1 j) (e2 : ∀ j, C'.1 (a1 + 1) j = C.1 (a1 + 1) j) (e3 : L'.1 198 f = L.1 198 f) (e4 : L'.1 192 f = L.1 192 f) (e5 : ∀ i, i < 320 → L'.1 190 (320 * f + i) = L.1 190 (320 * f + i) ∧ L'.1 191 (320 * f + i) = L.1 191 (320 * f + i)) : lawJ f a1 un C' L' := by
  rcases h with ⟨h1, h2, h3, h4, h5⟩ | ⟨h1, h2, nm, pc, h3, h4, h5, h6, h7, h8, h9⟩
  · exact Or.inl ⟨by rw [e1 4 (by omega)]; exact h1, by rw [e1 2 (by omega)]; exact h2, by rw [e1 3 (by omega)]; exact h3, h4, by rw [e3]; exact h5⟩
  · exact Or.inr ⟨by rw [e1 4 (by omega)]; exact h1, by rw [e3]; exact h2, nm, pc, ⟨by rw [e1 2 (by omega)]; exact h3.1, by rw [e1 3 (by omega)]; exact h3.2.1, fun i hi => by rw [e2]; exact h3.2.2 i hi⟩, by rw [e4]; exact h4, fun i hi => by rw [(e5 i (by omega)).1, (e5 i (by omega)).2]; exact h5 i hi, h6, h7, h8, h9⟩
theorem lawJ_un {f a1 un : Nat} {C L : mT} (h : lawJ f a1 un C L) : un ≤ 30 := by
  rcases h with ⟨_, _, _, h, _⟩ | ⟨_, _, nm, pc, _, _, _, h, _⟩ <;> omega
theorem lawJ_cs {f a1 un : Nat} {C L : mT} (h : lawJ f a1 un C L) : cS a1 C := by
  rcases h with ⟨_, h2, h3, _, _⟩ | ⟨_, _, nm, pc, h3, _, _, h6, h7, _⟩
  · exact ⟨0, 0, by omega, by omega, h2, h3⟩
  · exact ⟨nm, un, by omega, h6, h3.1, h3.2.1⟩
theorem SJ_fr {u n : Nat} {C L C' L' : mT} (h : SJ T t u n C L) (e1 : C'.1 u 9 = C.1 u 9) (e2 : ∀ a j, u + 2 ≤ a → a ≤ u + 5 → C'.1 a j = C.1 a j) (e3 : ∀ j, C'.2 (u + 1) j = C.2 (u + 1) j) (e4 : L'.1 187 35 = L.1 187 35) (e5 : ∀ a j, 201 ≤ a → a ≤ 204 → L'.1 a j = L.1 a j) (e6 : ∀ j, L'.2 189 j = L.2 189 j) : SJ T t u n C' L' := by
  obtain ⟨h5, h9, h35, hN, hH⟩ := h
  refine ⟨h5, by rw [e1]; exact h9, by rw [e4]; exact h35, fun h hh => ?_, fun h hh => ?_⟩
  · obtain ⟨q, z1, z2, z3⟩ := hN h hh
    exact ⟨q, z1, by rw [e3]; exact z2, by rw [e6]; exact z3⟩
  · obtain ⟨m1, m2, m3, m4, z1, z2, z3, z4, r1, r2, r3, r4, r5, r6, r7, r8⟩ := hH h hh
    exact ⟨m1, m2, m3, m4, z1, z2, z3, z4, by rw [e2 _ _ (by omega) (by omega)]; exact r1, by rw [e5 _ _ (by omega) (by omega)]; exact r2, by rw [e2 _ _ (by omega) (by omega)]; exact r3, by rw [e5 _ _ (by omega) (by omega)]; exact r4, by rw [e2 _ _ (by omega) (by omega)]; exact r5, by rw [e5 _ _ (by omega) (by omega)]; exact r6, by rw [e2 _ _ (by omega) (by omega)]; exact r7, by rw [e5 _ _ (by omega) (by omega)]; exact r8⟩
theorem drwJ_fr {u : Nat} {C L C' L' : mT} (h : drwJ u C L) (e1 : C'.1 u 10 = C.1 u 10) (e2 : C'.1 u 11 = C.1 u 11) (e3 : L'.1 187 36 = L.1 187 36) (e4 : L'.1 187 38 = L.1 187 38) : drwJ u C' L' := by
  unfold drwJ
  rw [e1, e2, e3, e4]
  exact h
theorem RJ_rd {u : Nat} (hu : kSh u) (C L C' L' : mT) (h : RJ T t u C L) (f1 : fR C C') (f2 : fQw L L') : RJ T t u C' L' := by
  have hu7 := hu.2.2.2.2.2.2
  obtain ⟨n, a, b, c, h1, h2, h3, h4, h5, h6⟩ := h
  have eC : ∀ x j, x ≠ 1 → C'.1 x j = C.1 x j := fun x j g => (f1.1 x j g).1
  have eL : ∀ x j, x ≠ 187 → L'.1 x j = L.1 x j := fun x j g => f2.1 x j (by omega)
  exact ⟨n, a, b, c, SJ_fr h1 (eC _ _ (by omega)) (fun x j _ _ => eC _ _ (by omega)) (fun j => (f1.1 _ _ (by omega)).2) (f2.1 _ _ (by omega)) (fun x j _ _ => eL _ _ (by omega)) (fun j => f2.2 _ _ (by omega)), lawJ_fr (by omega) h2 (fun j _ => eC _ _ (by omega)) (fun j => eC _ _ (by omega)) (eL _ _ (by omega)) (eL _ _ (by omega)) (fun i _ => ⟨eL _ _ (by omega), eL _ _ (by omega)⟩), lawJ_fr (by omega) h3 (fun j _ => eC _ _ (by omega)) (fun j => eC _ _ (by omega)) (eL _ _ (by omega)) (eL _ _ (by omega)) (fun i _ => ⟨eL _ _ (by omega), eL _ _ (by omega)⟩), lawJ_fr (by omega) h4 (fun j _ => eC _ _ (by omega)) (fun j => eC _ _ (by omega)) (eL _ _ (by omega)) (eL _ _ (by omega)) (fun i _ => ⟨eL _ _ (by omega), eL _ _ (by omega)⟩), by rw [f2.1 _ _ (by omega)]; exact h5, drwJ_fr h6 (eC _ _ (by omega)) (eC _ _ (by omega)) (f2.1 _ _ (by omega)) (f2.1 _ _ (by omega))⟩
end
