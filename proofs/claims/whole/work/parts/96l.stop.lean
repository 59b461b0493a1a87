/-! PROVINCE: where the reference's row of a formula stops; a bracket that closes. -/
theorem nv_b {T : Nat → Nat} {b : Nat} : ∀ k, (∀ i, i < k → T (b + i) ≤ 57) → nvN T b k < 10 ^ k
  | 0, _ => by show 0 < 1; omega
  | k + 1, h => by
    have ih := nv_b k (fun i hi => h i (by omega))
    have h1 := h k (by omega)
    show nvN T b k * 10 + (T (b + k) - 48) < 10 ^ (k + 1)
    rw [Nat.pow_succ]
    omega
section
variable {T : Nat → Nat} {t f a1 U0 : Nat}
theorem nv_lt {p : Nat} (h : tkN T t p = 2) : nvN T (tbN T t p) (txN T t p - tbN T t p) < 10000 := by
  have key : txN T t p = rnN dB T t (tbN T t p) ∧ rnN dB T t (tbN T t p) ≤ tbN T t p + 4 := by
    unfold tkN at h
    unfold txN
    by_cases c1 : t ≤ tbN T t p
    · rw [if_pos c1] at h
      omega
    rw [if_neg c1] at h ⊢
    by_cases c2 : lB (T (tbN T t p)) = true
    · rw [if_pos c2] at h
      split at h <;> omega
    rw [if_neg c2] at h ⊢
    by_cases c3 : dB (T (tbN T t p)) = true
    · rw [if_pos c3] at h ⊢
      refine ⟨rfl, ?_⟩
      split at h
      · rename_i z
        exact z.1
      · omega
    rw [if_neg c3] at h
    split at h <;> omega
  obtain ⟨k1, k2⟩ := key
  obtain ⟨a1, a2, a3⟩ := rn_sp dB T t (tbN T t p)
  rw [k1]
  have h1 := nv_b (T := T) (b := tbN T t p) (rnN dB T t (tbN T t p) - tbN T t p) (fun i hi => by
    have := (a2 (tbN T t p + i) (by omega) (by omega)).2
    unfold dB at this
    rw [Bool.and_eq_true, decide_eq_true_iff, decide_eq_true_iff] at this
    omega)
  have h2 : (10 : Nat) ^ (rnN dB T t (tbN T t p) - tbN T t p) ≤ 10 ^ 4 := Nat.pow_le_pow_right (by omega) (by omega)
  have h3 : (10 : Nat) ^ 4 = 10000 := by decide
  omega
def stpN (T : Nat → Nat) (t p : Nat) (sg : Nat → Nat) (op : Nat) : Prop := sgO T t p = 0 ∨ (tghN (sgO T t p) = 4 ∧ sgO T t p < 128 ∧ hrN sg op)
theorem m_hb1 {un nm op dp m : Nat} {sg : Nat → Nat} {L : mT} (h : RS f U0 un nm op dp sg L) (ho : op ≤ 150) (hs : ∀ i, i < op → sg i < 128) (hm : m < op) (h20 : sg m = 20) : fX12_hasBracket L = some (1, L) := by
  obtain ⟨r, r1, r2⟩ := m_hb h ho hs op 0 mK 0 (by omega) (by have := mK_gt; omega) (Or.inr ⟨rfl, fun j hj => by omega⟩)
  rcases r2 with ⟨z, _⟩ | ⟨_, z⟩
  · rw [z] at r1
    exact r1
  · exact absurd h20 (z m hm)
theorem m_hb0 {un nm op dp : Nat} {sg : Nat → Nat} {L : mT} (h : RS f U0 un nm op dp sg L) (ho : op ≤ 150) (hs : ∀ i, i < op → sg i < 128) (h20 : ∀ i, i < op → sg i ≠ 20) : fX12_hasBracket L = some (0, L) := by
  obtain ⟨r, r1, r2⟩ := m_hb h ho hs op 0 mK 0 (by omega) (by have := mK_gt; omega) (Or.inr ⟨rfl, fun j hj => by omega⟩)
  rcases r2 with ⟨_, j, z1, z2⟩ | ⟨z, _⟩
  · exact absurd z2 (h20 j z1)
  · rw [z] at r1
    exact r1
theorem m_hrel {un nm op dp : Nat} {sg : Nat → Nat} {L : mT} (h : RS f U0 un nm op dp sg L) (ho : op ≤ 150) (hs : ∀ i, i < op → sg i < 128) (hh : hrN sg op) : fX12_hasRelation L = some (1, L) := by
  obtain ⟨i, i1, i2, i3, i4⟩ := hh
  have om : nI op - (1 : Int32) = nI (i + (op - 1 - i)) := by
    rw [show i + (op - 1 - i) = op - 1 by omega]
    exact xS (a := op) (b := 1) (by omega)
  have := m_hr1 h ho hs i1 i2 i3 (op - 1 - i) mK (by have := mK_gt; omega) (by omega) (fun j h1 h2 => i4 j h1 (by omega))
  simp only [fX12_hasRelation, kO_187, g_t, b_d, b_c, b_v, Bool.and_true, Bool.and_self, Bool.true_and, h.2.2.2.2.1, om, this]
theorem m_hrel0 {un nm op dp m : Nat} {sg : Nat → Nat} {L : mT} (h : RS f U0 un nm op dp sg L) (ho : op ≤ 150) (hs : ∀ i, i < op → sg i < 128) (hh : noR sg m op) : fX12_hasRelation L = some (0, L) := by
  obtain ⟨h1, h2, h3⟩ := hh
  have := m_hr0 h ho hs h2 (op - m) mK (by have := mK_gt; omega) (by omega) (fun j g1 g2 => h3 j g1 (by omega))
  rw [show m + (op - m) = op by omega] at this
  simp only [fX12_hasRelation, kO_187, g_t, b_d, b_c, b_v, Bool.and_true, Bool.and_self, Bool.true_and, h.2.2.2.2.1, this]
/-- the row stops -/
theorem m_stop (hT : ∀ k, k < t → T k < 256) {p un nm op dp : Nat} (hp : p ≤ t) {sg : Nat → Nat} {L : mT} (hm : mTo T t p L) (hR : RS f U0 un nm op dp sg L) (ho : op ≤ 150) (hs : ∀ i, i < op → sg i < 128) (hst : stpN T t p sg op) (h41 : srN T t p ≠ 41 ∨ fX12_hasBracket L = some (0, L)) (k : Nat) : fX12_formula_50 (k + 2) (1 : Int32) L = fX12_formula_177 L := by
  have t1 : ¬ (1 : Int32) = 0 := by decide
  have e2 : L.1 187 2 = 0 := hm.1
  obtain ⟨s1, s2, _⟩ := sr_lt hT p
  have e114 : fX12_formula_114 (fX12_formula_50 (k + 1)) (1 : Int32) (nI (sgO T t p)) L = fX12_formula_177 L := by
    have e0 : fX12_formula_172 (fX12_formula_50 (k + 1)) L = fX12_formula_177 L := by
      unfold fX12_formula_172 fX12_formula_174 fX12_formula_50
      rw [if_pos rfl]
    unfold fX12_formula_114
    rcases hst with z | ⟨z1, z2, z3⟩
    · rw [z, if_pos (show nI 0 = (0 : Int32) from rfl), e0]
    · have n0 : ¬ nI (sgO T t p) = 0 := fun z => by
        have := (xEq (b := 0) (by omega) (by omega)).mp z
        rw [this] at z1
        exact absurd z1 (by decide)
      have tg := m_tight z2 L
      rw [z1] at tg
      have e4 : nI 4 = (4 : Int32) := rfl
      rw [if_neg n0, tg, b_c, if_pos e4, m_hrel hR ho hs z3, b_c, if_neg t1, e0]
  conv => lhs; unfold fX12_formula_50
  rw [if_neg t1, kO_187, Bool.and_true, g_t, if_pos e2, m_sign hT hp hm, b_c, g_t, hm.2.1]
  by_cases c : srN T t p = 41
  · have c' : nI (srN T t p) = (41 : Int32) := by rw [c]; rfl
    have hb0 : fX12_hasBracket L = some (0, L) := by
      rcases h41 with z | z
      · exact absurd c z
      · exact z
    rw [if_pos c', hb0, b_c, if_pos rfl, e114]
  · have c' : ¬ nI (srN T t p) = (41 : Int32) := fun z => c ((xEq (b := 41) (by omega) (by omega)).mp z)
    rw [if_neg c', e114]
theorem m_50D {w pl k : Nat} {L : mT} (h : mD w pl L) : fX12_formula_50 (k + 1) (1 : Int32) L = some L := by
  obtain ⟨n1, n2⟩ := mD_ne h
  have t1 : ¬ (1 : Int32) = 0 := by decide
  simp only [fX12_formula_50, fX12_formula_177, fX12_formula_196, fX12_formula_208, if_neg t1, kO_187, g_t, b_d, b_c, b_v, Bool.and_true, Bool.and_self, Bool.true_and, if_neg n1]
theorem m_stopW (hT : ∀ k, k < t → T k < 256) {p un nm op dp m : Nat} (hp : p ≤ t) {sg : Nat → Nat} {L : mT} (hm : mTo T t p L) (hR : RS f U0 un nm op dp sg L) (ho : op ≤ 150) (hs : ∀ i, i < op → sg i < 128) (hst : stpN T t p sg op) (h41 : srN T t p ≠ 41) (hmo : m < op) (h20 : sg m = 20) : ∃ L', (∀ k, 1 ≤ k → fX12_formula_50 (k + 1) (1 : Int32) L = fX12_formula_50 k (1 : Int32) L') ∧ mD (if tkN T t p = 4 then 1 else 2) (tbN T t p) L' ∧ fZ f L L' := by
  obtain ⟨L', w1, w2, w3, w4⟩ := m_wr hT hm (w := 2) (by omega) (by omega)
  have w1' : fX12_wrong (2 : Int32) L = some L' := w1
  have t1 : ¬ (1 : Int32) = 0 := by decide
  have e2 : L.1 187 2 = 0 := hm.1
  have n2 := (mD_ne w2).1
  refine ⟨L', fun k hk => ?_, w2, wr_z w3 w4⟩
  obtain ⟨k', rfl⟩ : ∃ k', k = k' + 1 := ⟨k - 1, by omega⟩
  rw [m_50D w2, show k' + 1 + 1 = k' + 2 by omega, m_stop hT hp hm hR ho hs hst (Or.inl h41)]
  simp only [fX12_formula_177, fX12_formula_196, fX12_formula_208, kO_187, g_t, b_d, b_c, b_v, Bool.and_true, Bool.and_self, Bool.true_and, if_pos e2, m_hb1 hR ho hs hmo h20, if_neg t1, w1', if_neg n2]
/-- a bracket closes -/
theorem m_paren (ht : t ≤ 1600) (hT : ∀ k, k < t → T k < 256) (hf : f < 3) (hU : U0 ≤ 60) {p nm op un m e : Nat} {sg pc : Nat → Nat} {L : mT} (hp : p ≤ t) (hto : tpM T t L) (hm : mTo T t p L) (hR : RS f U0 un nm op (e + 1 + ntN sg (m + 1) (op - (m + 1))) sg L) (hO : mOK f nm pc L) (hmo : m + 1 ≤ op) (ho : op ≤ 60) (hu : un ≤ 30) (hn : nm + op ≤ 9 * un) (he : e ≤ 7) (h20 : sg m = 20) (hs0 : ∀ i, i < op → sg i < 128) (hs : ∀ i, m + 1 ≤ i → i < op → isOq (sg i)) (hpd : ∀ j, j < op - (m + 1) → pc (nm + j) = opP (sg (op - 1 - j))) (h41 : srN T t p = 41) : ∃ L1, (∀ k, fX12_formula_50 (k + 1) (1 : Int32) L = fX12_formula_50 k (1 : Int32) L1) ∧ mTo T t (txN T t p) L1 ∧ RS f U0 un (nm + (op - (m + 1))) m e sg L1 ∧ mOK f (nm + (op - (m + 1))) pc L1 ∧ fZ f L L1 := by
  obtain ⟨s1, s2, s3, s4, s5, s6, s7, s8⟩ := sr_lt hT p
  have k3 := s8 (by omega)
  obtain ⟨L2, c1, c2, c3, c4⟩ := m_close (f := f) hf (lv := 0) (m := m + 1) (e := e + 1) (by omega) hu hU (by omega) (Or.inr (Or.inl (by rw [Nat.add_sub_cancel]; exact h20))) (op - (m + 1)) nm mK L (by have := mK_gt; omega) (by omega) (by omega) (by rw [show m + 1 + (op - (m + 1)) = op by omega]; exact hR) (fun i h1 h2 => ⟨hs i h1 (by omega), by omega⟩) (fun j hj => by rw [show m + 1 + (op - (m + 1)) - 1 - j = op - 1 - j by omega]; exact hpd j hj) hO
  have c1' : fX12_close (0 : Int32) L = some L2 := c1
  obtain ⟨r1, r2, r3, r4, r5, r6, r7⟩ := id c2
  have o1 : nI (m + 1) - (1 : Int32) = nI m := xS (a := m + 1) (b := 1) (by omega)
  have o2 : nI (e + 1) - (1 : Int32) = nI e := xS (a := e + 1) (b := 1) (by omega)
  obtain ⟨D, hD⟩ : ∃ D, sI (sI L2 187 22 (nI m)) 187 26 (nI e) = D := ⟨_, rfl⟩
  have fD : fZ f L D := by rw [← hD]; exact (c4.z.s7 (by omega) _).s7 (by omega) _
  have rD : RS f U0 un (nm + (op - (m + 1))) m e sg D := by
    rw [← hD]
    exact ⟨by rw [sI_ne (by omega), sI_ne (by omega)]; exact r1, by rw [sI_ne (by omega), sI_ne (by omega)]; exact r2, by rw [sI_ne (by omega), sI_ne (by omega)]; exact r3, by rw [sI_ne (by omega), sI_ne (by omega)]; exact r4, by rw [sI_ne (by omega), sI_eq], by rw [sI_eq], fun i hi => by rw [sI_ne (by omega), sI_ne (by omega)]; exact r7 i (by omega)⟩
  have m2 : mTo T t p L2 := mTo_fr hm (fun j hj => c4.1 187 j (by omega) (by omega) (by omega) (by omega) (by omega)) c4.2.1
  have mD' : mTo T t p D := mTo_fr m2 (fun j hj => by rw [← hD, sI_ne (by omega), sI_ne (by omega)]) (by rw [← hD, sI_2, sI_2])
  obtain ⟨L1, q1, q2, q3⟩ := m_next ht hT hp (fD.tp hto) mD' (by omega)
  refine ⟨L1, fun k => ?_, q2, RS_fr rD (fun a j g => q3.1 a j (by omega)), mOK_fr c3 (fun a j g => by rw [q3.1 a j (by omega), ← hD, sI_ne (by omega), sI_ne (by omega)]), fD.tr q3.z⟩
  have e2 : L.1 187 2 = 0 := hm.1
  have e41 : nI (srN T t p) = (41 : Int32) := by rw [h41]; rfl
  have t1 : ¬ (1 : Int32) = 0 := by decide
  have e26 : (sI L2 187 22 (nI m)).1 187 26 = nI (e + 1) := by rw [sI_ne (by omega)]; exact r6
  conv => lhs; unfold fX12_formula_50
  rw [if_neg t1, kO_187, Bool.and_true, g_t, if_pos e2, m_sign hT hp hm, b_c, g_t, hm.2.1, if_pos e41, m_hb1 hR (by omega) hs0 (m := m) (by omega) h20, b_c, if_neg t1, c1', b_v]
  simp only [g_t, b_d, b_c, b_v, Bool.and_true, Bool.and_self, Bool.true_and, r5, o1, e26, o2, hD, q1, fX12_formula_174]
/-- an open bracket that may not stand -/
theorem m_u40W (hT : ∀ k, k < t → T k < 256) {p un nm m e : Nat} {sg : Nat → Nat} {L : mT} (hm : mTo T t p L) (hR : RS f U0 un nm m e sg L) (hu : un ≤ 30) (hU : U0 ≤ 60) (ho : m < 150) (he : e ≤ 7) (h40 : srN T t p = 40) (h : un = 30 ∨ e = 7) (k : Nat) : ∃ L', fX12_unit_53 (fX12_unit_2 (k + 1)) (1 : Int32) L = some L' ∧ mD 2 (tbN T t p) L' ∧ fZ f L L' := by
  obtain ⟨s1, s2, s3, s4, s5, s6, s7, s8⟩ := sr_lt hT p
  have k3 := s8 (by omega)
  obtain ⟨L1, w1, w2, w3, w4⟩ := m_wr hT hm (w := 2) (by omega) (by omega)
  rw [if_neg (by omega)] at w2
  have w1' : fX12_wrong (2 : Int32) L = some L1 := w1
  have R1 : RS f U0 un nm m e sg L1 := RS_fr hR (fun a j g => w3 a j (by omega))
  obtain ⟨L2, u1, u2, u3⟩ := m_cu R1
  have d2 : mD 2 (tbN T t p) L2 := ⟨w2.1, w2.2.1, by rw [u3.1 _ _ (by omega) (by omega) (by omega) (by omega) (by omega)]; exact w2.2.2.1, by rw [u3.1 _ _ (by omega) (by omega) (by omega) (by omega) (by omega)]; exact w2.2.2.2⟩
  obtain ⟨L3, v1, v2, v3⟩ := m_openD (f := f) d2 u2 ho (20 : Int32)
  have t1 : ¬ (1 : Int32) = 0 := by decide
  have e40 : nI (srN T t p) = (40 : Int32) := by rw [h40]; rfl
  have g6 := hm.2.1
  have r6 := hR.2.2.2.2.2.1
  have fu := m_full hR hu hU
  have e78 : fX12_unit_78 (fX12_unit_2 (k + 1)) (1 : Int32) L = some L3 := by
    simp only [fX12_unit_78, fX12_unit_83, w1', u1, v1, g_t, b_d, b_c, b_v, Bool.and_true, Bool.and_self, Bool.true_and, m_u0D v2]
  refine ⟨L3, ?_, v2, ((wr_z w3 w4).tr u3.z).tr v3⟩
  by_cases c : un = 30
  · rw [if_pos c] at fu
    simp only [fX12_unit_53, kO_187, g_t, b_d, b_c, b_v, Bool.and_true, Bool.and_self, Bool.true_and, g6, if_pos e40, fu, if_neg t1, e78]
  · rw [if_neg c] at fu
    have c6 : ¬ nI e ≤ (6 : Int32) := fun z => by have := (xLe (b := 6) (by omega) (by omega)).mp z; omega
    simp only [fX12_unit_53, kO_187, g_t, b_d, b_c, b_v, Bool.and_true, Bool.and_self, Bool.true_and, g6, if_pos e40, fu, if_true, r6, if_neg c6, e78]
/-- an open bracket -/
theorem m_u40 (ht : t ≤ 1600) (hT : ∀ k, k < t → T k < 256) {p un nm m e : Nat} (hp : p ≤ t) {sg pc : Nat → Nat} {L : mT} (hto : tpM T t L) (hm : mTo T t p L) (hR : RS f U0 un nm m e sg L) (hO : mOK f nm pc L) (hu : un < 30) (hU : U0 ≤ 60) (ho : m < 150) (he : e ≤ 6) (h40 : srN T t p = 40) (k : Nat) : ∃ L', fX12_unit_53 (fX12_unit_2 k) (1 : Int32) L = fX12_unit_2 k (1 : Int32) L' ∧ mTo T t (txN T t p) L' ∧ RS f U0 (un + 1) nm (m + 1) (e + 1) (puS sg m 20) L' ∧ mOK f nm pc L' ∧ fZ f L L' := by
  obtain ⟨s1, s2, s3, s4, s5, s6, s7, s8⟩ := sr_lt hT p
  have k3 := s8 (by omega)
  obtain ⟨L1, u1, u2, u3⟩ := m_cu hR
  have e190 : ∀ a j, a = 190 ∨ a = 191 → L1.1 a j = L.1 a j := fun a j g => by
    simp only [fX12_countUnit, kO_187, g_t, b_d, b_c, b_v, Bool.and_true, Bool.and_self, Bool.true_and, Option.some.injEq] at u1
    rw [← u1, sI_ne (by omega), sI_ne (by omega)]
  have m1 : mTo T t p L1 := mTo_fr hm (fun j hj => u3.1 187 j (by omega) (by omega) (by omega) (by omega) (by omega)) u3.2.1
  obtain ⟨L2, v1, v2, v3, v4, v5⟩ := m_open ht hT hp (u3.z.tp hto) m1 (by omega) u2 ho 20
  have v1' : fX12_openUp (20 : Int32) L1 = some L2 := v1
  have e40 : nI (srN T t p) = (40 : Int32) := by rw [h40]; rfl
  have g6 := hm.2.1
  have r6 := hR.2.2.2.2.2.1
  have fu := m_full hR (by omega) hU
  rw [if_neg (by omega)] at fu
  have c6 : nI e ≤ (6 : Int32) := (xLe (b := 6) (by omega) (by omega)).mpr he
  refine ⟨L2, ?_, v2, v3, mOK_fr hO (fun a j g => by rw [v4 a j g, e190 a j g]), u3.z.tr v5⟩
  simp only [fX12_unit_53, fX12_unit_83, kO_187, g_t, b_d, b_c, b_v, Bool.and_true, Bool.and_self, Bool.true_and, g6, if_pos e40, fu, if_true, r6, if_pos c6, u1, v1']
end
