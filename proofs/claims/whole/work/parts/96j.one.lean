/-! PROVINCE: a unit; a level over another; one with a relation. -/
section
variable {T : Nat → Nat} {t f a1 U0 : Nat}
theorem gen_lev (ht : t ≤ 1600) (hT : ∀ k, k < t → T k < 256) (hf : f < 3) (ha : kLw a1) (hU : U0 ≤ 60) {lv lvs c cs m e x un p ku nm : Nat} {sg pc : Nat → Nat} {X : Nat → (Nat → Nat) → Nat → Prop} (hlv : lv ≠ 4) (hls : lv < lvs) (hc : c + 1 = cs) (hcs : cs ≤ 5) {C L : mT} (pre : PRE T t f a1 U0 c lv p C L nm un m e x sg pc)
    (opT : Nat → Option Nat) (hop : ∀ p s, opT p = some s → isOq s ∧ s ≠ 21 ∧ tghN s = lv ∧ sgO T t p = s ∧ srN T t p ≠ 41 ∧ tkN T t p ≠ 4 ∧ tkN T t p ≠ 0)
    (sub : mT → Option mT) (SUB0 : POST T t f a1 U0 lvs X m e x un p sg ku C L (sub C))
    (SUB : ∀ p C L ku nm un x sg pc, PRE T t f a1 U0 cs lvs p C L nm un (m + 1) e x sg pc → (4 ≤ lv → ¬ mayN sg (m + 1)) → tghN (sg m) = lv → t + 3 ≤ ku + p → POST T t f a1 U0 lvs X (m + 1) e x un p sg ku C L (sub C))
    (lp : Nat → Nat → mT → Option mT) (LP : lpOK T t a1 opT sub lp) : POST T t f a1 U0 lv (fun p sg op => X p sg op ∧ opT p = none) m e x un p sg ku C L (bndV (sub C) fun S => lp mK 0 S) := by
  obtain ⟨q1, q2, q3, q4, q5, q6, q7, q8, q9, q10, q11, q12, q13, q14, q15, q16, q17⟩ := pre
  obtain ⟨j, C', L', s1, s2, s3, s4, s5, s6, s7⟩ := SUB0
  obtain ⟨K', hK⟩ : ∃ K', mK = K' + 1 := ⟨999999, rfl⟩
  rw [s1, b_v]
  rcases s7 with h | h | h
  · obtain ⟨p', nm', op, un', sg', pc', d1, d2, d3, d4, d5, d6, d7, d8, d9, d10, d11, d12, d13, d14, d15, d16, d17, d18, d19, d20⟩ := h
    exact gen_loop ht hT hf ha hU hlv hls q11 (by omega) hcs q13 q14 opT hop sub SUB lp LP (t + 1) 0 mK C' L' j s3 s4 s5 (s4.tp ha q2) (s5.tp q3) ⟨p', nm', op, un', sg', pc', by omega, by have := mK_gt; omega, by omega, d1, d2, d3, d4, d5, d6, d7, d8, d9, d10, d11, d12, d13, d14, fun i g1 g2 => ⟨(d15 i g1 g2).1, by have := (d15 i g1 g2).2; omega⟩, d16, d17, d18, d19, d20⟩
  · obtain ⟨p2, nm2, op2, un2, sg2, pc2, d1, d2, d3, d⟩ := id h
    rw [hK]
    exact ⟨j, C', L', LP.1 K' 0 C' _ _ (by omega) d3, s2, s3, s4, s5, s6, Or.inr (Or.inl h)⟩
  · obtain ⟨w, pl, d1, d2⟩ := id h
    rw [hK]
    exact ⟨j, C', L', LP.1 K' 0 C' _ _ (by omega) d1, s2, s3, s4, s5, s6, Or.inr (Or.inr h)⟩
/-- the reference: nothing that may begin a unit -/
theorem m_u0D {w pl k : Nat} {L : mT} (h : mD w pl L) (v : Int32) : fX12_unit_2 (k + 1) v L = some L := by
  obtain ⟨n1, n2⟩ := mD_ne h
  have e : fX12_unit_101 L = some L := by
    simp only [fX12_unit_101, kO_187, g_t, b_d, b_c, b_v, Bool.and_true, Bool.and_self, Bool.true_and, if_neg n2]
  by_cases c : v = 0
  · simp only [fX12_unit_2, if_pos c, e]
  · simp only [fX12_unit_2, if_neg c, kO_187, g_t, b_d, b_c, b_v, Bool.and_true, Bool.and_self, Bool.true_and, if_neg n1, e]
/-- past the nots -/
theorem m_u53 (hT : ∀ k, k < t → T k < 256) {p un nm m e k : Nat} (hp : p ≤ t) {sg : Nat → Nat} {L : mT} (hm : mTo T t p L) (hR : RS f U0 un nm m e sg L) (ho : m ≤ 150) (hs : ∀ i, i < m → sg i < 128) (hnn : wkN T t p = cwN 11 → ¬ mayN sg m) : fX12_unit_2 (k + 1) (1 : Int32) L = fX12_unit_53 (fX12_unit_2 k) (1 : Int32) L := by
  have w11 : fX12_isWord (7237492 : Int64) L = some (if wkN T t p = cwN 11 then 1 else 0, L) := by rw [cw_c.2.2.2.2.2.2.2.2.2.2.2.1]; exact m_isW hm (j := 11) (by omega) hT hp
  have t1 : ¬ (1 : Int32) = 0 := by decide
  have e2 : L.1 187 2 = 0 := hm.1
  by_cases c : wkN T t p = cwN 11
  · rw [if_pos c] at w11
    obtain ⟨r, r1, r2⟩ := m_may hR ho hs
    have r0 : r = 0 := by
      rcases r2 with ⟨_, z⟩ | ⟨z, _⟩
      · exact absurd z (hnn c)
      · exact z
    rw [r0] at r1
    simp only [fX12_unit_2, if_neg t1, kO_187, g_t, b_d, b_c, b_v, Bool.and_true, Bool.and_self, Bool.true_and, if_pos e2, w11, r1, if_true]
  · rw [if_neg c] at w11
    simp only [fX12_unit_2, if_neg t1, kO_187, g_t, b_d, b_c, b_v, Bool.and_true, Bool.and_self, Bool.true_and, if_pos e2, w11, if_true]
theorem m_uwr (hT : ∀ k, k < t → T k < 256) {p un nm m e : Nat} {sg : Nat → Nat} {L : mT} (hm : mTo T t p L) (hR : RS f U0 un nm m e sg L) (hu : un ≤ 30) (hU : U0 ≤ 60) (h : un = 30 ∨ (tkN T t p ≠ 2 ∧ askN (wkN T t p) = none)) (k : Nat) : ∃ L', fX12_unit_2 (k + 1) (0 : Int32) L = some L' ∧ mD (if tkN T t p = 4 then 1 else 2) (tbN T t p) L' ∧ fZ f L L' := by
  obtain ⟨L', w1, w2, w3, w4⟩ := m_wr hT hm (w := 2) (by omega) (by omega)
  have w1' : fX12_wrong (2 : Int32) L = some L' := w1
  have ak := m_ask hT hm
  have c : L.1 187 2 ≤ 0 := by rw [hm.1]; decide
  obtain ⟨s1, s2, s3, s4, s5, s6, s7, s8⟩ := sr_lt hT p
  have g6 := hm.2.1
  have n2 := (mD_ne w2).2
  have fu := m_full hR hu hU
  have t1 : ¬ (1 : Int32) = 0 := by decide
  have e133 : ∀ v, fX12_unit_133 v L = some L' := fun v => by
    simp only [fX12_unit_133, fX12_unit_138, w1', kO_187, g_t, b_d, b_c, b_v, Bool.and_true, Bool.and_self, Bool.true_and, if_neg n2]
  refine ⟨L', ?_, w2, wr_z w3 w4⟩
  by_cases d : tkN T t p = 2
  · have hu30 : un = 30 := by
      rcases h with z | z
      · exact z
      · exact absurd d z.1
    rw [if_pos hu30] at fu
    have d' : nI (srN T t p) = (2 : Int32) := by rw [s4.mpr d]; rfl
    simp only [fX12_unit_2, fX12_unit_101, fX12_unit_126, if_true, kO_187, g_t, b_d, b_c, b_v, Bool.and_true, Bool.and_self, Bool.true_and, if_pos c, ak, g6, if_pos d', fu, if_neg t1, e133]
  · have d' : ¬ nI (srN T t p) = (2 : Int32) := fun z => d (s4.mp ((xEq (b := 2) (by omega) (by omega)).mp z))
    cases ea : askN (wkN T t p) with
    | none =>
      have o0 : oI none < 0 := by decide
      rw [ea] at ak
      simp only [fX12_unit_2, fX12_unit_101, if_true, kO_187, g_t, b_d, b_c, b_v, Bool.and_true, Bool.and_self, Bool.true_and, if_pos c, ak, g6, if_neg d', if_pos o0, e133]
    | some y =>
      have hy := ask_lt ea
      have o0 : ¬ oI (some y) < 0 := nI_pos (by omega)
      have hu30 : un = 30 := by
        rcases h with z | z
        · exact z
        · rw [ea] at z
          cases z.2
      rw [if_pos hu30] at fu
      rw [ea] at ak
      simp only [fX12_unit_2, fX12_unit_101, fX12_unit_126, if_true, kO_187, g_t, b_d, b_c, b_v, Bool.and_true, Bool.and_self, Bool.true_and, if_pos c, ak, g6, if_neg d', if_neg o0, fu, if_neg t1, e133]
/-- an atom -/
theorem m_atom (ht : t ≤ 1600) (hT : ∀ k, k < t → T k < 256) (hf : f < 3) {p un nm m e v : Nat} (hp : p ≤ t) {sg pc : Nat → Nat} {L : mT} (hto : tpM T t L) (hm : mTo T t p L) (hR : RS f U0 un nm m e sg L) (hO : mOK f nm pc L) (hu : un < 30) (hU : U0 ≤ 60) (hn : nm < 320) (h : (tkN T t p = 2 ∧ v = nvN T (tbN T t p) (txN T t p - tbN T t p) ∧ v < 10000) ∨ ∃ y, askN (wkN T t p) = some y ∧ v = 10000 + y) (k : Nat) : ∃ L', fX12_unit_2 (k + 1) (0 : Int32) L = some L' ∧ mTo T t (txN T t p) L' ∧ RS f U0 (un + 1) (nm + 1) m e sg L' ∧ mOK f (nm + 1) (apP pc nm v) L' ∧ fZ f L L' := by
  have ak := m_ask hT hm
  have c : L.1 187 2 ≤ 0 := by rw [hm.1]; decide
  obtain ⟨s1, s2, s3, s4, s5, s6, s7, s8⟩ := sr_lt hT p
  have g6 := hm.2.1
  have fu := m_full hR (by omega) hU
  rw [if_neg (by omega)] at fu
  obtain ⟨L1, u1, u2, u3⟩ := m_cu hR
  have m1 : mTo T t p L1 := mTo_fr hm (fun j hj => u3.1 187 j (by omega) (by omega) (by omega) (by omega) (by omega)) u3.2.1
  have O1 : ∀ i, i < nm → pcOk (nI (pc i)) (L1.1 190 (320 * f + i)) (L1.1 191 (320 * f + i)) := by
    have e190 : ∀ j, L1.1 190 j = L.1 190 j ∧ L1.1 191 j = L.1 191 j := fun j => by
      simp only [fX12_countUnit, kO_187, g_t, b_d, b_c, b_v, Bool.and_true, Bool.and_self, Bool.true_and, Option.some.injEq] at u1
      rw [← u1, sI_ne (by omega), sI_ne (by omega), sI_ne (by omega), sI_ne (by omega)]
      exact ⟨rfl, rfl⟩
    intro i hi
    rw [(e190 _).1, (e190 _).2]
    exact hO i hi
  have h4 : tkN T t p ≠ 4 := by
    rcases h with z | ⟨y, z, _⟩
    · omega
    · intro d
      have ew : wkN T t p = 0 := if_neg (by omega)
      rw [ew, show askN 0 = none by decide +kernel] at z
      cases z
  have fin : ∀ s0 s1 : Int32, pcOk (nI v) s1 s0 → ∃ L', fX12_unit_172 s0 s1 L1 = some L' ∧ mTo T t (txN T t p) L' ∧ RS f U0 (un + 1) (nm + 1) m e sg L' ∧ mOK f (nm + 1) (apP pc nm v) L' ∧ fZ f L L' := fun s0 s1 hpc => by
    obtain ⟨L2, a1, a2, a3, a4, a5, a6, a7⟩ := m_add hf hn u2.1 u2.2.2.2.1 s1 s0
    have m2 : mTo T t p L2 := mTo_fr m1 (fun j hj => a6 187 j (by omega) (by omega) (by omega)) a7
    have z2 : fZ f L1 L2 := ⟨fun a j g1 g2 g3 _ _ => a6 a j g1 g2 (by omega), fun a j _ => by rw [a7], fun g i g1 g2 g3 g4 => a5 _ (by omega), fun g g1 => a6 _ _ (by omega) (by omega) (by omega)⟩
    obtain ⟨L3, q1, q2, q3⟩ := m_next ht hT hp (z2.tp (u3.z.tp hto)) m2 h4
    refine ⟨L3, ?_, q2, ?_, fun i hi => ?_, (u3.z.tr z2).tr q3.z⟩
    · simp only [fX12_unit_172, a1, q1, g_t, b_d, b_c, b_v, Bool.and_true, Bool.and_self, Bool.true_and]
    · obtain ⟨r1, r2, r3, r4, r5, r6, r7⟩ := u2
      have e : ∀ a j, a ≠ 190 → a ≠ 191 → ¬ (a = 192 ∧ j = f) → ¬ (a = 187 ∧ (j = 4 ∨ j = 6 ∨ j = 7 ∨ j = 8)) → L3.1 a j = L1.1 a j := fun a j g1 g2 g3 g4 => by rw [q3.1 a j g4, a6 a j g1 g2 g3]
      exact ⟨by rw [e _ _ (by omega) (by omega) (by omega) (by omega)]; exact r1, by rw [e _ _ (by omega) (by omega) (by omega) (by omega)]; exact r2, by rw [e _ _ (by omega) (by omega) (by omega) (by omega)]; exact r3, by rw [q3.1 _ _ (by omega)]; exact a4, by rw [e _ _ (by omega) (by omega) (by omega) (by omega)]; exact r5, by rw [e _ _ (by omega) (by omega) (by omega) (by omega)]; exact r6, fun i hi => by rw [e _ _ (by omega) (by omega) (by omega) (by omega)]; exact r7 i hi⟩
    · rw [q3.1 _ _ (by omega), q3.1 _ _ (by omega)]
      by_cases u : i = nm
      · rw [u, apP_at, a2, a3]
        exact hpc
      · rw [apP_lt (by omega), (a5 _ (by omega)).1, (a5 _ (by omega)).2]
        exact O1 i (by omega)
  have n0 : L1.1 187 2 ≤ 0 := by rw [m1.1]; decide
  have c2 : L.1 187 2 ≤ 0 := c
  rcases h with ⟨d, ev, hv⟩ | ⟨y, ey, ev⟩
  · have d' : nI (srN T t p) = (2 : Int32) := by rw [s4.mpr d]; rfl
    have ew : wkN T t p = 0 := if_neg (by omega)
    have ea : askN (wkN T t p) = none := by rw [ew]; decide +kernel
    rw [ea] at ak
    have o0 : ¬ (0 : Int32) ≤ oI none := by decide
    have e8 : L1.1 187 8 = nI v := by rw [m1.2.2.2.2.2 d, ev]
    obtain ⟨L', r1, r2⟩ := fin (nI v) 0 (Or.inl ⟨rfl, v, hv, rfl, rfl⟩)
    refine ⟨L', ?_, r2⟩
    rw [← r1]
    simp only [fX12_unit_2, fX12_unit_101, fX12_unit_126, fX12_unit_138, fX12_unit_160, if_true, kO_187, g_t, b_d, b_c, b_v, Bool.and_true, Bool.and_self, Bool.true_and, if_pos c2, ak, g6, if_pos d', fu, u1, if_neg o0, e8]
  · have hy := ask_lt ey
    have o0 : (0 : Int32) ≤ oI (some y) := (xLe (a := 0) (by omega) (by omega)).mpr (by omega)
    have o1 : ¬ oI (some y) < 0 := nI_pos (by omega)
    rw [ey] at ak
    have d : tkN T t p ≠ 2 := by
      intro d
      have ew : wkN T t p = 0 := if_neg (by omega)
      rw [ew, show askN 0 = none by decide +kernel] at ey
      cases ey
    have d' : ¬ nI (srN T t p) = (2 : Int32) := fun z => d (s4.mp ((xEq (b := 2) (by omega) (by omega)).mp z))
    obtain ⟨L', r1, r2⟩ := fin (oI (some y)) 1 (Or.inr (Or.inl ⟨rfl, y, hy, rfl, by rw [ev]⟩))
    refine ⟨L', ?_, r2⟩
    rw [← r1]
    simp only [fX12_unit_2, fX12_unit_101, fX12_unit_126, fX12_unit_138, fX12_unit_160, if_true, kO_187, g_t, b_d, b_c, b_v, Bool.and_true, Bool.and_self, Bool.true_and, if_pos c2, ak, g6, if_neg d', if_neg o1, fu, u1, if_pos o0]
end
