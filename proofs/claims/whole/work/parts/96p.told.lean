/-! PROVINCE: a number told behind a word. -/
section
variable {T : Nat → Nat} {t : Nat}
def fQw (L L' : mT) : Prop := (∀ a j, ¬ (a = 187 ∧ (j = 2 ∨ j = 3 ∨ j = 4 ∨ j = 6 ∨ j = 7 ∨ j = 8)) → L'.1 a j = L.1 a j) ∧ ∀ a j, ¬ (a = 187 ∧ j = 9) → L'.2 a j = L.2 a j
theorem fQw.rf (L : mT) : fQw L L := ⟨fun _ _ _ => rfl, fun _ _ _ => rfl⟩
theorem fQw.tr {C D E : mT} (h : fQw C D) (h2 : fQw D E) : fQw C E := ⟨fun a j g => (h2.1 a j g).trans (h.1 a j g), fun a j g => (h2.2 a j g).trans (h.2 a j g)⟩
theorem fQ.qw {L L' : mT} (h : fQ L L') : fQw L L' := ⟨fun a j g => h.1 a j (by omega), h.2⟩
theorem wr_qw {L L' : mT} (h : ∀ a j, ¬ (a = 187 ∧ (j = 2 ∨ j = 3)) → L'.1 a j = L.1 a j) (h2 : L'.2 = L.2) : fQw L L' := ⟨fun a j g => h a j (by omega), fun a j _ => by rw [h2]⟩
theorem fQw.tp {C C' : mT} (h : fQw C C') (hp : tpM T t C) : tpM T t C' := ⟨by rw [h.1 _ _ (by omega)]; exact hp.1, fun k hk => by rw [h.1 _ _ (by omega)]; exact hp.2 k hk⟩
def bad3 (T : Nat → Nat) (t : Nat) (C L : mT) : Prop := ∃ p, p ≤ t ∧ tkN T t p = 4 ∧ cD 1 (tbN T t p) C ∧ mTo T t p L
def liv3 (T : Nat → Nat) (t p0 : Nat) (C L : mT) : Prop := ∃ p, p0 ≤ p ∧ p ≤ t ∧ cT T t p C ∧ mTo T t p L
def at3 (T : Nat → Nat) (t p0 : Nat) (C L : mT) : Prop := liv3 T t p0 C L ∨ bad3 T t C L ∨ PQ C L
theorem cO_3 {p0 p : Nat} {C L : mT} (h0 : p0 ≤ p) (hp : p ≤ t) (hc : cO T t p C) (hm : mTo T t p L) : liv3 T t p0 C L ∨ bad3 T t C L := by
  rcases hc with z | ⟨z1, z2⟩
  · exact Or.inl ⟨p, h0, hp, z, hm⟩
  · exact Or.inr ⟨p, hp, z1, z2, hm⟩
theorem c_toldD {w pl : Nat} {C : mT} (h : cD w pl C) {j : Nat} (hj : j < 15) (v : Int32) : ∃ x C', fX4_takeTold (900000 + j) v C = some (x, C') ∧ cD w pl C' ∧ fR C C' := by
  obtain ⟨C1, r1, r2, r3⟩ := c_refD h (2 : Int32)
  obtain ⟨C2, s1, s2, s3⟩ := c_refD r2 (2 : Int32)
  have k0 : ¬ nI 0 = (2 : Int32) := by decide
  refine ⟨C1.1 1 7, C2, ?_, s2, r3.tr s3⟩
  simp only [fX4_takeTold, fX4_takeTold_13, fX4_takeTold_48, c_isWD h hj, g_t, b_d, b_c, b_v, Bool.and_true, Bool.and_self, Bool.true_and, if_true, r1, c_advD r2, kO_1, r2.2.2.2.2, if_neg k0, s1, c_advD s2]
theorem m_toldD {w pl : Nat} {L : mT} (h : mD w pl L) (c : Int64) (lo hi : Int32) : fX12_told c lo hi L = some (0, L) := by
  have n2 := (mD_ne h).2
  simp only [fX12_told, fX12_want, fX12_toldNumber, kO_187, g_t, b_d, b_c, b_v, Bool.and_true, Bool.and_self, Bool.true_and, if_neg n2]
/-- no such word -/
theorem m_toldW (hT : ∀ k, k < t → T k < 256) {p j : Nat} (hp : p ≤ t) {L : mT} (hm : mTo T t p L) (hj : j < 15) (hw : wkN T t p ≠ cwN j) (lo hi : Int32) : ∃ L', fX12_told (Int64.ofNat (cwN j)) lo hi L = some (0, L') ∧ mD (if tkN T t p = 4 then 1 else 2) (tbN T t p) L' ∧ fQw L L' := by
  obtain ⟨L', w1, w2, w3, w4⟩ := m_wr hT hm (w := 2) (by omega) (by omega)
  have w1' : fX12_wrong (2 : Int32) L = some L' := w1
  have iw := (m_isW hm hj hT hp).trans (by rw [if_neg hw])
  have c : L.1 187 2 ≤ 0 := by rw [hm.1]; decide
  have n2 := (mD_ne w2).2
  refine ⟨L', ?_, w2, wr_qw w3 w4⟩
  simp only [fX12_told, fX12_want, fX12_want_28, fX12_toldNumber, kO_187, g_t, b_d, b_c, b_v, Bool.and_true, Bool.and_self, Bool.true_and, if_pos c, iw, if_true, w1', if_neg n2]
theorem j_told (ht : t ≤ 1600) (hT : ∀ k, k < t → T k < 256) {p0 j hi : Nat} (hj : j < 15) (hh : hi < 10000) {C L : mT} (htc : tpC T t C) (htm : tpM T t L) (h : at3 T t p0 C L) : ∃ x y C' L', fX4_takeTold (900000 + j) (nI hi) C = some (x, C') ∧ fX12_told (Int64.ofNat (cwN j)) (0 : Int32) (nI hi) L = some (y, L') ∧ fR C C' ∧ fQw L L' ∧ ((∃ v, v ≤ hi ∧ x = nI v ∧ y = nI v ∧ (liv3 T t (p0 + 1) C' L' ∨ bad3 T t C' L')) ∨ PQ C' L') := by
  rcases h with ⟨p, h0, hp, hc, hm⟩ | ⟨p, hp, h4, hc, hm⟩ | ⟨w, pl, hc, hm⟩
  · have t1 : ¬ (1 : Int32) = 0 := by decide
    have c : L.1 187 2 ≤ 0 := by rw [hm.1]; decide
    by_cases hw : wkN T t p = cwN j
    · have k1 := wk_tk hj hw
      have ci : fX4_isWord (900000 + j) C = some (1, C) := (c_isW ht hT hp htc hc hj).trans (by rw [if_pos hw])
      have mi := (m_isW hm hj hT hp).trans (by rw [if_pos hw])
      have hx := tx_le (T := T) hp
      have htb := (tb_le (T := T) hp).1
      have hxx := hx.2.2 (by omega)
      obtain ⟨C1, b1, b2, b3⟩ := c_next ht hT hp htc hc
      obtain ⟨L1, q1, q2, q3⟩ := m_next ht hT hp htm hm hc.2.1
      obtain ⟨p1, hp1⟩ : ∃ p1, txN T t p = p1 := ⟨_, rfl⟩
      rw [hp1] at b2 q2 hx hxx
      have g6 := q2.2.1
      have c1 : L1.1 187 2 ≤ 0 := by rw [q2.1]; decide
      obtain ⟨s1, s2, s3, s4, s5, s6, s7, s8⟩ := sr_lt hT p1
      have run : ∀ y L', fX12_toldNumber (0 : Int32) (nI hi) L1 = some (y, L') → fX12_told (Int64.ofNat (cwN j)) (0 : Int32) (nI hi) L = some (y, L') := fun y L' z => by
        simp only [fX12_told, fX12_want, fX12_want_28, kO_187, g_t, b_d, b_c, b_v, Bool.and_true, Bool.and_self, Bool.true_and, if_pos c, mi, if_neg t1, q1, z]
      have crun : ∀ x C', fX4_takeTold_13 (900000 + j) (nI hi) C = some (x, C') → fX4_takeTold (900000 + j) (nI hi) C = some (x, C') := fun x C' z => by
        simp only [fX4_takeTold, ci, g_t, b_d, b_c, b_v, Bool.and_true, Bool.and_self, Bool.true_and, if_neg t1, z]
      by_cases k2 : tkN T t p1 = 2
      · have hc1 : cT T t p1 C1 := by
          rcases b2 with z | z
          · exact z
          · omega
        have e7 := hc1.2.2.2.2.2.2.1 k2
        have e8 := q2.2.2.2.2.2 k2
        have hv := nv_lt k2
        obtain ⟨v, hv'⟩ : ∃ v, nvN T (tbN T t p1) (txN T t p1 - tbN T t p1) = v := ⟨_, rfl⟩
        rw [hv'] at e7 e8 hv
        have kk : C1.1 1 4 = (2 : Int32) := by rw [hc1.2.2.1, k2]; rfl
        have mk : nI (srN T t p1) = (2 : Int32) := by rw [s4.mpr k2]; rfl
        have n0 : ¬ nI v < 0 := nI_pos (by omega)
        by_cases cv : v ≤ hi
        · have cv' : nI v ≤ nI hi := (xLe (by omega) (by omega)).mpr cv
          obtain ⟨C2, d1, d2, d3⟩ := c_next ht hT hx.2.1 (b3.tp htc) hc1
          obtain ⟨L2, u1, u2, u3⟩ := m_next ht hT hx.2.1 (q3.qw.tp htm) q2 hc1.2.1
          have e2 : L1.1 187 2 = 0 := q2.1
          have hx1 := tx_le (T := T) hx.2.1
          have htb1 := (tb_le (T := T) hx.2.1).1
          refine ⟨nI v, nI v, C2, L2, crun _ _ ?_, run _ _ ?_, b3.tr d3, q3.qw.tr u3.qw, Or.inl ⟨v, cv, rfl, rfl, cO_3 (by omega) hx1.2.1 d2 u2⟩⟩
          · simp only [fX4_takeTold_13, fX4_takeTold_48, b1, kO_1, g_t, b_d, b_c, b_v, Bool.and_true, Bool.and_self, Bool.true_and, if_pos kk, e7, if_pos cv', d1]
          · simp only [fX12_toldNumber, fX12_toldNumber_46, fX12_toldNumber_62, kO_187, g_t, b_d, b_c, b_v, Bool.and_true, Bool.and_self, Bool.true_and, if_pos c1, g6, if_pos mk, e8, if_neg n0, if_pos cv', if_pos e2, u1]
        · have cv' : ¬ nI v ≤ nI hi := fun z => cv ((xLe (by omega) (by omega)).mp z)
          obtain ⟨C2, d1, d2, d3⟩ := c_ref0 hc1.1 hc1.2.2.2.1 (f := 4) (by omega) (by omega)
          have d1' : fX4_refuse (4 : Int32) C1 = some C2 := d1
          obtain ⟨L2, u1, u2, u3, u4⟩ := m_wr hT q2 (w := 4) (by omega) (by omega)
          have u1' : fX12_wrong (4 : Int32) L1 = some L2 := u1
          rw [if_neg (by omega)] at u2
          have n2 := (mD_ne u2).1
          refine ⟨nI v, L2.1 187 8, C2, L2, crun _ _ ?_, run _ _ ?_, b3.tr d3, q3.qw.tr (wr_qw u3 u4), Or.inr ⟨4, _, d2, u2⟩⟩
          · simp only [fX4_takeTold_13, fX4_takeTold_48, b1, kO_1, g_t, b_d, b_c, b_v, Bool.and_true, Bool.and_self, Bool.true_and, if_pos kk, e7, if_neg cv', d1', c_advD d2]
          · simp only [fX12_toldNumber, fX12_toldNumber_41, fX12_toldNumber_46, fX12_toldNumber_62, kO_187, g_t, b_d, b_c, b_v, Bool.and_true, Bool.and_self, Bool.true_and, if_pos c1, g6, if_pos mk, e8, if_neg n0, if_neg cv', u1', if_neg n2]
      · have mk : ¬ nI (srN T t p1) = (2 : Int32) := fun z => k2 (s4.mp ((xEq (b := 2) (by omega) (by omega)).mp z))
        obtain ⟨L2, u1, u2, u3, u4⟩ := m_wr hT q2 (w := 2) (by omega) (by omega)
        have u1' : fX12_wrong (2 : Int32) L1 = some L2 := u1
        have n2 := (mD_ne u2).1
        have mrun : fX12_toldNumber (0 : Int32) (nI hi) L1 = some (L2.1 187 8, L2) := by
          simp only [fX12_toldNumber, fX12_toldNumber_46, fX12_toldNumber_62, kO_187, g_t, b_d, b_c, b_v, Bool.and_true, Bool.and_self, Bool.true_and, if_pos c1, g6, if_neg mk, u1', if_neg n2]
        rcases b2 with hc1 | ⟨k4, hc1⟩
        · have kk : ¬ C1.1 1 4 = (2 : Int32) := by
            rw [hc1.2.2.1]
            exact fun z => k2 ((xEq (b := 2) (by omega) (by omega)).mp z)
          obtain ⟨C2, d1, d2, d3⟩ := c_ref0 hc1.1 hc1.2.2.2.1 (f := 2) (by omega) (by omega)
          have d1' : fX4_refuse (2 : Int32) C1 = some C2 := d1
          rw [if_neg hc1.2.1] at u2
          refine ⟨C1.1 1 7, L2.1 187 8, C2, L2, crun _ _ ?_, run _ _ mrun, b3.tr d3, q3.qw.tr (wr_qw u3 u4), Or.inr ⟨2, _, d2, u2⟩⟩
          simp only [fX4_takeTold_13, fX4_takeTold_48, b1, kO_1, g_t, b_d, b_c, b_v, Bool.and_true, Bool.and_self, Bool.true_and, if_neg kk, d1', c_advD d2]
        · have kk : ¬ C1.1 1 4 = (2 : Int32) := by
            rw [hc1.2.2.2.2]
            decide
          obtain ⟨C2, d1, d2, d3⟩ := c_refD hc1 (2 : Int32)
          rw [if_pos k4] at u2
          refine ⟨C1.1 1 7, L2.1 187 8, C2, L2, crun _ _ ?_, run _ _ mrun, b3.tr d3, q3.qw.tr (wr_qw u3 u4), Or.inr ⟨1, _, d2, u2⟩⟩
          simp only [fX4_takeTold_13, fX4_takeTold_48, b1, kO_1, g_t, b_d, b_c, b_v, Bool.and_true, Bool.and_self, Bool.true_and, if_neg kk, d1, c_advD d2]
    · have ci : fX4_isWord (900000 + j) C = some (0, C) := (c_isW ht hT hp htc hc hj).trans (by rw [if_neg hw])
      obtain ⟨L', w1, w2, w3⟩ := m_toldW hT hp hm hj hw (0 : Int32) (nI hi)
      rw [if_neg hc.2.1] at w2
      obtain ⟨C1, d1, d2, d3⟩ := c_ref0 hc.1 hc.2.2.2.1 (f := 2) (by omega) (by omega)
      have d1' : fX4_refuse (2 : Int32) C = some C1 := d1
      obtain ⟨C2, s1, s2, s3⟩ := c_refD d2 (2 : Int32)
      have k0 : ¬ nI 0 = (2 : Int32) := by decide
      refine ⟨C1.1 1 7, 0, C2, L', ?_, w1, d3.tr s3, w3, Or.inr ⟨2, _, s2, w2⟩⟩
      simp only [fX4_takeTold, fX4_takeTold_13, fX4_takeTold_48, ci, g_t, b_d, b_c, b_v, Bool.and_true, Bool.and_self, Bool.true_and, if_true, d1', c_advD d2, kO_1, d2.2.2.2.2, if_neg k0, s1, c_advD s2]
  · have w0 : wkN T t p = 0 := if_neg (by omega)
    have cj := (cw_lt j hj).1
    obtain ⟨L', w1, w2, w3⟩ := m_toldW hT hp hm hj (by omega) (0 : Int32) (nI hi)
    rw [if_pos h4] at w2
    obtain ⟨x, C', r1, r2, r3⟩ := c_toldD hc hj (nI hi)
    exact ⟨x, 0, C', L', r1, w1, r3, w3, Or.inr ⟨1, _, r2, w2⟩⟩
  · obtain ⟨x, C', r1, r2, r3⟩ := c_toldD hc hj (nI hi)
    exact ⟨x, 0, C', L, r1, m_toldD hm _ _ _, r3, fQw.rf L, Or.inr ⟨w, pl, r2, hm⟩⟩
/-- a number that may be told -/
theorem j_opt (ht : t ≤ 1600) (hT : ∀ k, k < t → T k < 256) {p0 j : Nat} (hj : j < 15) {C L : mT} (htc : tpC T t C) (htm : tpM T t L) (h : at3 T t p0 C L) : ∃ x y C' L', (bndC (fX4_isWord (900000 + j) C) fun x2 S => if x2 = 0 then some ((0 : Int32), S) else fX4_takeTold (900000 + j) (9 : Int32) S) = some (x, C') ∧ fX12_option (Int64.ofNat (cwN j)) L = some (y, L') ∧ fR C C' ∧ fQw L L' ∧ ((∃ v, v ≤ 9 ∧ x = nI v ∧ y = nI v ∧ (liv3 T t p0 C' L' ∨ bad3 T t C' L')) ∨ PQ C' L') := by
  have t1 : ¬ (1 : Int32) = 0 := by decide
  rcases id h with ⟨p, h0, hp, hc, hm⟩ | ⟨p, hp, h4, hc, hm⟩ | ⟨w, pl, hc, hm⟩
  · have e2 : L.1 187 2 = 0 := hm.1
    by_cases hw : wkN T t p = cwN j
    · have ci : fX4_isWord (900000 + j) C = some (1, C) := (c_isW ht hT hp htc hc hj).trans (by rw [if_pos hw])
      have mi := (m_isW hm hj hT hp).trans (by rw [if_pos hw])
      obtain ⟨x, y, C', L', r1, r2, r3, r4, r5⟩ := j_told ht hT hj (hi := 9) (by omega) htc htm h
      have r1' : fX4_takeTold (900000 + j) (9 : Int32) C = some (x, C') := r1
      have r2' : fX12_told (Int64.ofNat (cwN j)) (0 : Int32) (9 : Int32) L = some (y, L') := r2
      refine ⟨x, y, C', L', ?_, ?_, r3, r4, ?_⟩
      · simp only [ci, g_t, b_d, b_c, b_v, Bool.and_true, Bool.and_self, Bool.true_and, if_neg t1, r1']
      · simp only [fX12_option, fX12_option_27, kO_187, g_t, b_d, b_c, b_v, Bool.and_true, Bool.and_self, Bool.true_and, if_pos e2, mi, if_neg t1, r2']
      · rcases r5 with ⟨v, v1, v2, v3, ⟨q, q1, q2⟩ | v4⟩ | v
        · exact Or.inl ⟨v, v1, v2, v3, Or.inl ⟨q, by omega, q2⟩⟩
        · exact Or.inl ⟨v, v1, v2, v3, Or.inr v4⟩
        · exact Or.inr v
    · have ci : fX4_isWord (900000 + j) C = some (0, C) := (c_isW ht hT hp htc hc hj).trans (by rw [if_neg hw])
      have mi := (m_isW hm hj hT hp).trans (by rw [if_neg hw])
      refine ⟨0, 0, C, L, ?_, ?_, fR.rf C, fQw.rf L, Or.inl ⟨0, by omega, rfl, rfl, Or.inl ⟨p, h0, hp, hc, hm⟩⟩⟩
      · simp only [ci, g_t, b_d, b_c, b_v, Bool.and_true, Bool.and_self, Bool.true_and, if_true]
      · simp only [fX12_option, fX12_option_26, fX12_option_27, kO_187, g_t, b_d, b_c, b_v, Bool.and_true, Bool.and_self, Bool.true_and, if_pos e2, mi, if_true]
  · have e2 : L.1 187 2 = 0 := hm.1
    have w0 : wkN T t p = 0 := if_neg (by omega)
    have cj := (cw_lt j hj).1
    have mi := (m_isW hm hj hT hp).trans (by rw [if_neg (by omega)])
    refine ⟨0, 0, C, L, ?_, ?_, fR.rf C, fQw.rf L, Or.inl ⟨0, by omega, rfl, rfl, Or.inr ⟨p, hp, h4, hc, hm⟩⟩⟩
    · simp only [c_isWD hc hj, g_t, b_d, b_c, b_v, Bool.and_true, Bool.and_self, Bool.true_and, if_true]
    · simp only [fX12_option, fX12_option_26, fX12_option_27, kO_187, g_t, b_d, b_c, b_v, Bool.and_true, Bool.and_self, Bool.true_and, if_pos e2, mi, if_true]
  · have n1 := (mD_ne hm).1
    refine ⟨0, 0, C, L, ?_, ?_, fR.rf C, fQw.rf L, Or.inr ⟨w, pl, hc, hm⟩⟩
    · simp only [c_isWD hc hj, g_t, b_d, b_c, b_v, Bool.and_true, Bool.and_self, Bool.true_and, if_true]
    · simp only [fX12_option, fX12_option_26, fX12_option_27, kO_187, g_t, b_d, b_c, b_v, Bool.and_true, Bool.and_self, Bool.true_and, if_neg n1]
end
