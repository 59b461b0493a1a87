/-! PROVINCE: a law is read by both. -/
section
variable {T : Nat → Nat} {t f a1 U0 : Nat}
/-- where both stand behind a piece: alive, at a bad token, or with a fault told -/
def fin3 (T : Nat → Nat) (t p0 : Nat) (G : mT → mT → Prop) (C L : mT) : Prop := (∃ p, p0 < p ∧ p ≤ t ∧ cT T t p C ∧ mTo T t p L ∧ G C L) ∨ (∃ p, p ≤ t ∧ tkN T t p = 4 ∧ cD 1 (tbN T t p) C ∧ mTo T t p L) ∨ PQ C L
/-- what a law's reading leaves: the class's, the reference's -/
def fKw (a1 : Nat) (C C' : mT) : Prop := (∀ a j, a ≠ 1 → a ≠ a1 + 1 → ¬ (a = a1 ∧ (j = 2 ∨ j = 3 ∨ j = 4)) → C'.1 a j = C.1 a j) ∧ (∀ a j, a ≠ 1 → C'.2 a j = C.2 a j) ∧ C'.1 1 1 = C.1 1 1
def fZw (f : Nat) (L L' : mT) : Prop := (∀ a j, a ≠ 190 → a ≠ 191 → a ≠ 192 → a ≠ 196 → ¬ (a = 198 ∧ j = f) → ¬ (a = 187 ∧ (j = 2 ∨ j = 3 ∨ j = 4 ∨ j = 6 ∨ j = 7 ∨ j = 8 ∨ j = 21 ∨ j = 22 ∨ j = 23 ∨ j = 25 ∨ j = 26)) → L'.1 a j = L.1 a j) ∧ (∀ a j, ¬ (a = 187 ∧ j = 9) → L'.2 a j = L.2 a j) ∧ (∀ g i, g ≠ f → i < 320 → f < 3 → g < 3 → L'.1 190 (320 * g + i) = L.1 190 (320 * g + i) ∧ L'.1 191 (320 * g + i) = L.1 191 (320 * g + i)) ∧ ∀ g, g ≠ f → L'.1 192 g = L.1 192 g
theorem fZ.w {L L' : mT} (h : fZ f L L') : fZw f L L' := ⟨fun a j g1 g2 g3 g4 _ g6 => h.1 a j g1 g2 g3 g4 (by omega), h.2.1, h.2.2.1, h.2.2.2⟩
theorem fZw.tr {C D E : mT} (h : fZw f C D) (h2 : fZw f D E) : fZw f C E := ⟨fun a j g1 g2 g3 g4 g5 g6 => (h2.1 a j g1 g2 g3 g4 g5 g6).trans (h.1 a j g1 g2 g3 g4 g5 g6), fun a j g => (h2.2.1 a j g).trans (h.2.1 a j g), fun g i g1 g2 g3 g4 => ⟨(h2.2.2.1 g i g1 g2 g3 g4).1.trans (h.2.2.1 g i g1 g2 g3 g4).1, (h2.2.2.1 g i g1 g2 g3 g4).2.trans (h.2.2.1 g i g1 g2 g3 g4).2⟩, fun g g1 => (h2.2.2.2 g g1).trans (h.2.2.2 g g1)⟩
theorem fZw.tp {C C' : mT} (hf : f < 3) (h : fZw f C C') (hp : tpM T t C) : tpM T t C' := ⟨by rw [h.1 _ _ (by omega) (by omega) (by omega) (by omega) (by omega) (by omega)]; exact hp.1, fun k hk => by rw [h.1 _ _ (by omega) (by omega) (by omega) (by omega) (by omega) (by omega)]; exact hp.2 k hk⟩
theorem fK.w {C C' : mT} (h : fK a1 C C') : fKw a1 C C' := ⟨fun a j g1 g2 g3 => h.1 a j g1 g2 (by omega), h.2.1, h.2.2⟩
theorem fKw.tr {C D E : mT} (h : fKw a1 C D) (h2 : fKw a1 D E) : fKw a1 C E := ⟨fun a j g1 g2 g3 => (h2.1 a j g1 g2 g3).trans (h.1 a j g1 g2 g3), fun a j g => (h2.2.1 a j g).trans (h.2.1 a j g), h2.2.2.trans h.2.2⟩
/-- the law as read -/
def gLaw (f a1 U0 : Nat) (C L : mT) : Prop := ∃ nm un pc, cOK a1 nm un pc C ∧ L.1 192 f = nI nm ∧ mOK f nm pc L ∧ L.1 187 23 = nI (U0 + un) ∧ un ≤ 30 ∧ nm ≤ 9 * un ∧ wfP pc nm ∧ dqP pc nm = 1
theorem m_exit (ht : t ≤ 1600) (hT : ∀ k, k < t → T k < 256) (hf : f < 3) (hU : U0 ≤ 60) {p nm op un : Nat} {sg pc : Nat → Nat} {L : mT} (hp : p ≤ t) (hm : mTo T t p L) (hR : RS f U0 un nm op (0 + ntN sg 0 (op - 0)) sg L) (hO : mOK f nm pc L) (ho : op ≤ 60) (hu : un ≤ 30) (hn : nm + op ≤ 280) (hs : ∀ i, i < op → isOq (sg i)) (hpd : ∀ j, j < op → pc (nm + j) = opP (sg (op - 1 - j))) (hst : stpN T t p sg op) (k : Nat) : ∃ L1, fX12_formula_50 (k + 2) (1 : Int32) L = some L1 ∧ mTo T t p L1 ∧ RS f U0 un (nm + op) 0 0 sg L1 ∧ mOK f (nm + op) pc L1 ∧ fZ f L L1 := by
  have s128 : ∀ i, i < op → sg i < 128 := fun i hi => by have := hs i hi; unfold isOq at this; omega
  have s20 : ∀ i, i < op → sg i ≠ 20 := fun i hi => by have := hs i hi; unfold isOq at this; omega
  have hb := m_hb0 hR (by omega) s128 s20
  obtain ⟨L2, c1, c2, c3, c4⟩ := m_close (f := f) hf (lv := 0) (m := 0) (e := 0) (by omega) hu hU (by omega) (Or.inl rfl) op nm mK L (by have := mK_gt; omega) (by omega) (by omega) (by rw [show 0 + op = op by omega]; exact hR) (fun i h1 h2 => ⟨hs i (by omega), by omega⟩) (fun j hj => by rw [show 0 + op - 1 - j = op - 1 - j by omega]; exact hpd j hj) hO
  have c1' : fX12_close (0 : Int32) L = some L2 := c1
  have e2 : L.1 187 2 = 0 := hm.1
  refine ⟨L2, ?_, mTo_fr hm (fun j hj => c4.1 187 j (by omega) (by omega) (by omega) (by omega) (by omega)) c4.2.1, c2, c3, c4.z⟩
  rw [m_stop hT hp hm hR (by omega) s128 hst (Or.inr hb)]
  simp only [fX12_formula_177, fX12_formula_196, fX12_formula_208, kO_187, g_t, b_d, b_c, b_v, Bool.and_true, Bool.and_self, Bool.true_and, if_pos e2, hb, if_true, c1']
theorem j_law (ht : t ≤ 1600) (hT : ∀ k, k < t → T k < 256) (hf : f < 3) (ha : kLw a1) (hU : U0 ≤ 60) {p : Nat} {C L : mT} (hp : p ≤ t) (htc : tpC T t C) (htm : tpM T t L) (hc : cT T t p C) (hm : mTo T t p L) (h0 : C.1 a1 4 = 0) (h2 : C.1 a1 2 = nI 0) (h3 : C.1 a1 3 = nI 0) (h23 : L.1 187 23 = nI U0) (hk0 : tkN T t p ≠ 0) :
    ∃ C' L', fX4_readLaw a1 C = some C' ∧ fX12_formula (nI f) L = some L' ∧ fKw a1 C C' ∧ fZw f L L' ∧ cS a1 C' ∧ C'.1 a1 4 = 1 ∧ L'.1 198 f = 1 ∧ fin3 T t p (gLaw f a1 U0) C' L' := by
  obtain ⟨k1, k2, k3, k4⟩ := id ha
  have hx := tx_le (T := T) hp
  have htb := (tb_le (T := T) hp).1
  have hxx := hx.2.2 hk0
  obtain ⟨C1, hC1⟩ : ∃ C1, sI C a1 4 (1 : Int32) = C1 := ⟨_, rfl⟩
  have fk1 : fKw a1 C C1 := by
    rw [← hC1]
    exact ⟨fun a j g1 g2 g3 => by rw [sI_ne (by omega)], fun a j _ => by rw [sI_2], by rw [sI_ne (by omega)]⟩
  have c1 : cT T t p C1 := by rw [← hC1]; exact (cT_k ha hc).1
  have tp1 : tpC T t C1 := ⟨by rw [fk1.2.2]; exact htc.1, fun k hk => by rw [fk1.1 _ _ (by omega) (by omega) (by omega)]; exact htc.2 k hk⟩
  obtain ⟨C2, b1, b2, b3⟩ := c_next ht hT hp tp1 c1
  have ok2 : cOK a1 0 0 (fun _ => 0) C2 := b3.ok ha ⟨by rw [← hC1, sI_ne (by omega)]; exact h2, by rw [← hC1, sI_ne (by omega)]; exact h3, fun i hi => by omega⟩
  have fit1 : mFit .boolean (1 : Int32) = true := by decide
  obtain ⟨L1, q1, q2, q3⟩ := m_next ht hT hp htm hm hc.2.1
  have n1 : vp_nar .boolean (1 : Int32) = 1 := by decide
  obtain ⟨L2, hL2⟩ : ∃ L2, sI (sI (sI (sI (sI (sI L1 187 21 (nI f)) 198 f (1 : Int32)) 192 f (0 : Int32)) 187 22 (0 : Int32)) 187 26 (0 : Int32)) 187 25 (0 : Int32) = L2 := ⟨_, rfl⟩
  have e2 : ∀ a j, ¬ (a = 187 ∧ (j = 21 ∨ j = 22 ∨ j = 25 ∨ j = 26)) → ¬ (a = 198 ∧ j = f) → ¬ (a = 192 ∧ j = f) → L2.1 a j = L1.1 a j := fun a j g1 g2 g3 => by
    rw [← hL2, sI_ne (by omega), sI_ne (by omega), sI_ne (by omega), sI_ne (by omega), sI_ne (by omega), sI_ne (by omega)]
  have e22 : L2.2 = L1.2 := by rw [← hL2, sI_2, sI_2, sI_2, sI_2, sI_2, sI_2]
  have m2 : mTo T t (txN T t p) L2 := mTo_fr q2 (fun j hj => e2 187 j (by omega) (by omega) (by omega)) e22
  have fz2 : fZw f L L2 := ⟨fun a j g1 g2 g3 g4 g5 g6 => by rw [e2 a j (by omega) g5 (by omega), q3.1 a j (by omega)], fun a j g => by rw [e22, q3.2 a j g], fun g i g1 _ _ _ => ⟨by rw [e2 _ _ (by omega) (by omega) (by omega), q3.1 _ _ (by omega)], by rw [e2 _ _ (by omega) (by omega) (by omega), q3.1 _ _ (by omega)]⟩, fun g g1 => by rw [e2 _ _ (by omega) (by omega) (by omega), q3.1 _ _ (by omega)]⟩
  have R2 : RS f U0 0 0 0 0 (fun _ => 0) L2 := by
    refine ⟨?_, ?_, ?_, ?_, ?_, ?_, fun i hi => by omega⟩
    · rw [← hL2, sI_ne (by omega), sI_ne (by omega), sI_ne (by omega), sI_ne (by omega), sI_ne (by omega), sI_eq]
    · rw [← hL2, sI_eq]; rfl
    · rw [e2 _ _ (by omega) (by omega) (by omega), q3.1 _ _ (by omega), h23]; rfl
    · rw [← hL2, sI_ne (by omega), sI_ne (by omega), sI_ne (by omega), sI_eq]; rfl
    · rw [← hL2, sI_ne (by omega), sI_ne (by omega), sI_eq]; rfl
    · rw [← hL2, sI_ne (by omega), sI_eq]; rfl
  have e198 : L2.1 198 f = 1 := by rw [← hL2, sI_ne (by omega), sI_ne (by omega), sI_ne (by omega), sI_ne (by omega), sI_eq]
  have run2 : fX12_formula (nI f) L = bndV (fX12_unit_2 mK (1 : Int32) L2) fun S => fX12_formula_50 mK (1 : Int32) S := by
    have a1 : (sI L1 187 21 (nI f)).1 187 21 = nI f := sI_eq
    have a2 : (sI (sI L1 187 21 (nI f)) 198 f (1 : Int32)).1 187 21 = nI f := by rw [sI_ne (by omega)]; exact a1
    simp (disch := omega) only [fX12_formula, fX12_unit, q1, kO_187, kB_198, kN_198, kI_192, g_t, b_d, b_c, b_v, Bool.and_true, Bool.and_self, Bool.true_and, a1, xIx, xIn, n1, a2, hL2]
  obtain ⟨j, C3, L3, g1, g2, g3, g4, g5, g6, g7⟩ := (L_all ht hT hf ha hU 60 0 (by omega)).1 (by omega) (txN T t p) C2 L2 mK 0 0 0 (fun _ => 0) (fun _ => 0) 0 ⟨hx.2.1, b3.tp tp1, fz2.tp hf htm, b2, m2, R2, fun i hi => by omega, ok2, by omega, by omega, by omega, by omega, Or.inl rfl, fun i hi => by omega, fun i hi => by omega, rfl, by omega⟩ (fun z => absurd z (fun y => y)) (by have := mK_gt; omega)
  have g1' : fP 60 0 a1 (0 : Int32) C2 = some C3 := g1
  have run1 : fX4_readLaw a1 C = some C3 := by
    have nN : ¬ a1 = NUL := by unfold NUL; omega
    simp only [fX4_readLaw, if_neg nN, k1, fit1, g_t, b_d, b_c, b_v, Bool.and_true, Bool.and_self, Bool.true_and, if_pos h0, hC1, b1, g1']
  have fk3 : fKw a1 C C3 := (fk1.tr b3.k.w).tr g4.w
  have c4 : C3.1 a1 4 = 1 := by
    rw [g4.1 _ _ (by omega) (by omega) (by omega), (b3.1 _ _ (by omega)).1, ← hC1, sI_eq]
  have l4 : ∀ L', fZ f L2 L' → L'.1 198 f = 1 := fun L' h => by rw [h.1 _ _ (by omega) (by omega) (by omega) (by omega) (by omega)]; exact e198
  obtain ⟨K, hK⟩ : ∃ K, mK = K + 2 + j := ⟨mK - 2 - j, by have := mK_gt; omega⟩
  have run3 : fX12_formula (nI f) L = fX12_formula_50 (K + 2) (1 : Int32) L3 := by
    rw [run2, ← g3 (K + 2) (by omega), ← hK]
  rcases g7 with h | h | h
  · obtain ⟨p2, nm2, op2, un2, sg2, pc2, d1, d2, d3, d4, d5, d6, d7, d8, d9, d10, d11, d12, d13, d14, d15, d16, d17, d18, d19, d20⟩ := h
    obtain ⟨L4, y1, y2, y3, y4, y5⟩ := m_exit ht hT hf hU d2 d5 d6 d7 d10 d12 (by omega) (fun i hi => (d15 i (by omega) hi).1) (fun j hj => d16 j (by omega)) (x_stop d20) K
    refine ⟨C3, L4, run1, run3.trans y1, fk3, fz2.tr (g5.tr y5).w, g6, c4, l4 L4 (g5.tr y5), Or.inl ⟨p2, by omega, d2, d4, y2, nm2 + op2, un2, pc2, d8, y3.2.2.2.1, y4, y3.2.2.1, d12, d13, d17, d18⟩⟩
  · obtain ⟨p2, nm2, op2, un2, sg2, pc2, d1, d2, d3, d5, d6, d7, d8, d9, d10, d11, d12, d13⟩ := h
    obtain ⟨z1, z2, z3, z4, z5, z6, z7, z8⟩ := sr_lt hT p2
    have sr3 := z3.mpr d2
    have w0 : wkN T t p2 = 0 := if_neg (by omega)
    have c9 := (cw_lt 9 (by omega)).1
    have c10 := (cw_lt 10 (by omega)).1
    have st0 : stpN T t p2 sg2 op2 := Or.inl (by unfold sgO; rw [if_neg (by omega), if_neg (by omega), if_neg (by omega)])
    obtain ⟨L4, y1, y2, y3, y4, y5⟩ := m_exit ht hT hf hU (pc := fun i => if i < nm2 then pc2 i else opP (sg2 (op2 - 1 - (i - nm2)))) d1 d5 d6 (mOK_ext d7 (fun i hi => if_pos hi)) d9 d10 d11 (fun i hi => d13 i (by omega) hi) (fun j hj => by
      show (if nm2 + j < nm2 then _ else _) = _
      rw [if_neg (by omega), show nm2 + j - nm2 = j by omega]) st0 K
    exact ⟨C3, L4, run1, run3.trans y1, fk3, fz2.tr (g5.tr y5).w, g6, c4, l4 L4 (g5.tr y5), Or.inr (Or.inl ⟨p2, d1, d2, d3, y2⟩)⟩
  · obtain ⟨w, pl, d1, d2⟩ := id h
    exact ⟨C3, L3, run1, run3.trans (m_50D d2), fk3, fz2.tr g5.w, g6, c4, l4 L3 g5, Or.inr (Or.inr h)⟩
/-- a law told twice, or none: the class refuses the line -/
theorem c_law2 (ha : kLw a1) {p : Nat} {C : mT} (h : cT T t p C) (hs : cS a1 C) (h4 : C.1 a1 4 = 1) : ∃ C', fX4_readLaw a1 C = some C' ∧ cD 2 (tbN T t p) C' ∧ cS a1 C' ∧ fKw a1 C C' := by
  obtain ⟨k1, k2, k3, k4⟩ := id ha
  have nN : ¬ a1 = NUL := by unfold NUL; omega
  obtain ⟨C1, v1, v2, v3⟩ := c_ref0 h.1 h.2.2.2.1 (f := 2) (by omega) (by omega)
  have v1' : fX4_refuse (2 : Int32) C = some C1 := v1
  have c : ¬ C.1 a1 4 = 0 := by rw [h4]; decide
  refine ⟨C1, ?_, v2, v3.cs ha hs, v3.k.w⟩
  simp only [fX4_readLaw, fX4_readLaw_11, if_neg nN, k1, g_t, b_d, b_c, b_v, Bool.and_true, Bool.and_self, Bool.true_and, if_neg c, v1']
theorem c_lawN {C C1 : mT} (v1 : fX4_refuse (2 : Int32) C = some C1) : fX4_readLaw NUL C = some C1 := by
  unfold fX4_readLaw
  rw [if_pos rfl]
  simp only [fX4_readLaw_11, v1, b_v]
end
