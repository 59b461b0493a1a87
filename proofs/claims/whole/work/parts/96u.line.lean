/-! PROVINCE: a house and the draw, whole. -/
section
variable {T : Nat → Nat} {t : Nat}
def out3 (T : Nat → Nat) (t p0 : Nat) (G : mT → mT → Prop) (C L : mT) : Prop := (∃ p', p0 < p' ∧ p' ≤ t ∧ cT T t p' C ∧ mTo T t p' L ∧ G C L) ∨ bad3 T t C L ∨ PQ C L
theorem j_house (ht : t ≤ 1600) (hT : ∀ k, k < t → T k < 256) {u n p : Nat} (hu : kSh u) (hn : n < 5) (hp : p ≤ t) {C L : mT} (htc : tpC T t C) (htm : tpM T t L) (hc : cT T t p C) (hm : mTo T t p L) (hk : tkN T t p ≠ 0) (hS : SJ T t u n C L) : ∃ C' L', fX4_readHouse u C = some C' ∧ fX12_readHouse L = some L' ∧ fH u C C' ∧ fHm L L' ∧ out3 T t p (SJ T t u (n + 1)) C' L' := by
  have hu7 := hu.2.2.2.2.2.2
  obtain ⟨h5, h9, h35, hN, hH⟩ := hS
  have hx := tx_le (T := T) hp
  have htb := (tb_le (T := T) hp).1
  have hxx := hx.2.2 hk
  obtain ⟨C1, b1, b2, b3⟩ := c_next ht hT hp htc hc
  obtain ⟨L1, q1, q2, q3⟩ := m_next ht hT hp htm hm hc.2.1
  have c5 : nI n < (5 : Int32) := (xLt (b := 5) (by omega) (by omega)).mpr hn
  have h9' : C1.1 u 9 = nI n := by rw [(b3.1 _ _ (by omega)).1]; exact h9
  have h35' : L1.1 187 35 = nI n := by rw [q3.1 _ _ (by omega)]; exact h35
  have hN' : nmJ T t u n C1 L1 := fun h hh => by
    obtain ⟨q, a1, a2, a3⟩ := hN h hh
    exact ⟨q, a1, by rw [(b3.1 _ _ (by omega)).2]; exact a2, by rw [q3.2 _ _ (by omega)]; exact a3⟩
  have crun : ∀ x4 C2 C', fX4_takeName u C1 = some (x4, C2) → cRest u x4 C2 = some C' → fX4_readHouse u C = some C' := fun x4 C2 C' e1 e2 => by
    simp only [fX4_readHouse, hu.1, g_t, b_d, b_c, b_v, Bool.and_true, Bool.and_self, Bool.true_and, h9, if_pos c5, c_rest, b1, e1, e2]
  have t1 : ¬ (1 : Int32) = 0 := by decide
  rcases j_name ht hT hu hx.2.1 (b3.tp htc) (q3.qw.tp htm) b2 q2 h5 h9' h35' hN' with ⟨C2, a1, a2, a3, a4, a5, a6, r, a7, a8⟩ | ⟨x, C2, L2, w, pl, a1, a2, a3, a4, a5, a6⟩
  · obtain ⟨L2, hL2⟩ : ∃ L2, sJ L1 189 n (L1.2 187 9) = L2 := ⟨_, rfl⟩
    have m2 : mTo T t (txN T t p) L2 := by
      obtain ⟨r1, r2, r3, r4, r5, r6⟩ := q2
      rw [← hL2]
      exact ⟨by rw [sJ_1]; exact r1, by rw [sJ_1]; exact r2, by rw [sJ_1]; exact r3, fun z => by rw [sJ_1]; exact r4 z, fun z => by rw [sJ_ne (by omega)]; exact r5 z, fun z => by rw [sJ_1]; exact r6 z⟩
    have f2 : fHm L L2 := q3.qw.hm.tr (by rw [← hL2]; exact ⟨fun a j _ _ => by rw [sJ_1], fun a j _ g => by rw [sJ_ne (by omega)]⟩)
    have hx1 := tx_le (T := T) hx.2.1
    have htb1 := (tb_le (T := T) hx.2.1).1
    have hxx1 := hx1.2.2 (by omega)
    obtain ⟨L3, d1, d2, d3⟩ := m_next ht hT hx.2.1 (f2.tp htm) m2 (by omega)
    have f3 : fHm L L3 := f2.tr d3.qw.hm
    have A3 : at3 T t (txN T t (txN T t p)) C2 L3 := by
      rcases cO_3 (Nat.le_refl _) hx1.2.1 a2 d2 with z | z
      · exact Or.inl z
      · exact Or.inr (Or.inl z)
    have fr : fR C C2 := b3.tr a3
    have e1 : ∀ a j, a ≠ 187 → L3.1 a j = L.1 a j := fun a j g => by rw [d3.1 _ _ (by omega), ← hL2, sJ_1, q3.1 _ _ (by omega)]
    have e35 : L3.1 187 35 = nI n := by rw [d3.1 _ _ (by omega), ← hL2, sJ_1]; exact h35'
    obtain ⟨C', L', y1, y2, y3, y4, y5⟩ := j_rest ht hT (q := txN T t p) hu hn (fr.tp htc) (f3.tp htm) A3 (by rw [(fr.1 _ _ (by omega)).1]; exact h9) e35 (fun h hh => by
      obtain ⟨q, z1, z2, z3⟩ := hN h hh
      exact ⟨q, z1, by rw [(fr.1 _ _ (by omega)).2]; exact z2, by rw [d3.2 _ _ (by omega), ← hL2, sJ_ne (by omega), q3.2 _ _ (by omega)]; exact z3⟩) (fun h hh => by
      obtain ⟨m1, m2, m3, m4, z1, z2, z3, z4, r1, r2, r3, r4, r5, r6, r7, r8⟩ := hH h hh
      exact ⟨m1, m2, m3, m4, z1, z2, z3, z4, by rw [(fr.1 _ _ (by omega)).1]; exact r1, by rw [e1 _ _ (by omega)]; exact r2, by rw [(fr.1 _ _ (by omega)).1]; exact r3, by rw [e1 _ _ (by omega)]; exact r4, by rw [(fr.1 _ _ (by omega)).1]; exact r5, by rw [e1 _ _ (by omega)]; exact r6, by rw [(fr.1 _ _ (by omega)).1]; exact r7, by rw [e1 _ _ (by omega)]; exact r8⟩) a4 (by rw [d3.2 _ _ (by omega), ← hL2, sJ_eq]; exact a5)
    have n0 : L1.1 187 2 ≤ 0 := by rw [q2.1]; decide
    refine ⟨C', L', crun _ _ _ a1 y1, ?_, fr.h.tr y3, f3.tr y4, ?_⟩
    · rw [← y2]
      simp (disch := omega) only [fX12_readHouse, fX12_readHouse_31, q1, a6, a7, if_neg t1, if_pos a8, kO_187, kJ_189, kI_201, kI_202, kI_203, kI_204, g_t, b_d, b_c, b_v, Bool.and_true, Bool.and_self, Bool.true_and, if_pos n0, h35', xIx, xIn, hL2, d1]
    · rcases y5 with ⟨p', z1, z2⟩ | z
      · exact Or.inl ⟨p', by omega, z2⟩
      · exact Or.inr z
  · obtain ⟨C', y1, y2, y3⟩ := c_restD hu hn (n := n) (by rw [(a2.1 _ _ (by omega)).1]; exact h9') a3 x
    refine ⟨C', L2, crun _ _ _ a1 y1, ?_, (b3.tr a2).h.tr y3, (q3.qw.tr a5).hm, Or.inr (Or.inr ⟨w, pl, y2, a4⟩)⟩
    rcases a6 with ⟨z1, z2⟩ | ⟨z1, ⟨r, z2, z3⟩, z4⟩
    · simp only [fX12_readHouse, q1, z1, g_t, b_d, b_c, b_v, Bool.and_true, Bool.and_self, Bool.true_and, if_true, z2, m_h31D a4]
    · simp only [fX12_readHouse, q1, z1, g_t, b_d, b_c, b_v, Bool.and_true, Bool.and_self, Bool.true_and, if_neg t1, z2, if_neg z3, z4, m_h31D a4]
/-- a sixth house -/
theorem c_house6 {u p : Nat} (hu : kSh u) {C : mT} (hc : cT T t p C) (h9 : C.1 u 9 = nI 5) : ∃ C', fX4_readHouse u C = some C' ∧ cD 2 (tbN T t p) C' ∧ fH u C C' := by
  have hu7 := hu.2.2.2.2.2.2
  have c5 : ¬ nI 5 < (5 : Int32) := by decide
  obtain ⟨C1, d1, d2, d3⟩ := c_ref0 hc.1 hc.2.2.2.1 (f := 2) (by omega) (by omega)
  have d1' : fX4_refuse (2 : Int32) C = some C1 := d1
  have k0 : ¬ nI 0 = (1 : Int32) := by decide
  obtain ⟨C2, s1, s2, s3⟩ := c_refD d2 (2 : Int32)
  have tn : fX4_takeName u C1 = some (C1.2 1 8, C2) := by
    simp only [fX4_takeName, fX4_takeName_20, fX4_takeName_41, kO_1, g_t, b_d, b_c, b_v, Bool.and_true, Bool.and_self, Bool.true_and, d2.2.2.2.2, if_neg k0, s1, c_advD s2]
  obtain ⟨x6, C3, a1, a2, a3⟩ := c_toldD s2 (j := 1) (by omega) (60 : Int32)
  obtain ⟨x8, C4, b1, b2, b3⟩ := c_toldD a2 (j := 2) (by omega) (7 : Int32)
  have a1' : fX4_takeTold 900001 (60 : Int32) C2 = some (x6, C3) := a1
  have b1' : fX4_takeTold 900002 (7 : Int32) C3 = some (x8, C4) := b1
  have i3 : fX4_isWord 900003 C4 = some (0, C4) := c_isWD b2 (j := 3) (by omega)
  have i4 : fX4_isWord 900004 C4 = some (0, C4) := c_isWD b2 (j := 4) (by omega)
  have fr : fR C C4 := ((d3.tr s3).tr a3).tr b3
  have h9' : C4.1 u 9 = nI 5 := by rw [(fr.1 _ _ (by omega)).1]; exact h9
  have c5' : (5 : Int32) ≤ nI 5 := by decide
  refine ⟨C4, ?_, b2, fr.h⟩
  simp only [fX4_readHouse, hu.1, g_t, b_d, b_c, b_v, Bool.and_true, Bool.and_self, Bool.true_and, h9, if_neg c5, d1', c_rest, c_advD d2, tn, cRest, a1', b1', i3, i4, if_true, fX8_addHouse, fX8_addHouse_71, h9', if_pos c5']
/-- the draw -/
theorem j_draw (ht : t ≤ 1600) (hT : ∀ k, k < t → T k < 256) {u p : Nat} (hu : kSh u) (hp : p ≤ t) {C L : mT} (htc : tpC T t C) (htm : tpM T t L) (hc : cT T t p C) (hm : mTo T t p L) (h11 : C.1 u 11 = 0) : ∃ C' L', fX4_readDraw u C = some C' ∧ (bndC (fX12_told (1685217655 : Int64) (0 : Int32) (999 : Int32) (sI L 187 38 (1 : Int32))) fun x19 S18 => some (sI S18 187 36 x19)) = some L' ∧ (∀ a j, a ≠ 1 → ¬ (a = u ∧ (j = 10 ∨ j = 11)) → C'.1 a j = C.1 a j) ∧ (∀ a j, a ≠ 1 → C'.2 a j = C.2 a j) ∧ C'.1 1 1 = C.1 1 1 ∧ C'.1 u 11 = 1 ∧ L'.1 187 38 = 1 ∧ (∀ a j, ¬ (a = 187 ∧ (j = 2 ∨ j = 3 ∨ j = 4 ∨ j = 6 ∨ j = 7 ∨ j = 8 ∨ j = 36 ∨ j = 38)) → L'.1 a j = L.1 a j) ∧ (∀ a j, ¬ (a = 187 ∧ j = 9) → L'.2 a j = L.2 a j) ∧ out3 T t p (fun C L => ∃ v, v ≤ 999 ∧ C.1 u 10 = nI v ∧ L.1 187 36 = nI v) C' L' := by
  have hu7 := hu.2.2.2.2.2.2
  obtain ⟨_, _, _, _, _, _, _, _, k8, _⟩ := cw_c
  have fit1 : mFit .boolean (1 : Int32) = true := by decide
  have e1 : ∀ j k v, (sI C u k v).1 1 j = C.1 1 j := fun j k v => by rw [sI_ne (by omega)]
  have c1 : cT T t p (sI C u 11 (1 : Int32)) := by
    obtain ⟨q1, q2, q3, q4, q5, q6, q7, q8⟩ := hc
    exact ⟨by rw [e1]; exact q1, q2, by rw [e1]; exact q3, by rw [e1]; exact q4, by rw [e1]; exact q5, fun z => by rw [sI_2]; exact q6 z, fun z => by rw [e1]; exact q7 z, fun z => by rw [e1]; exact q8 z⟩
  have tp1 : tpC T t (sI C u 11 (1 : Int32)) := ⟨by rw [e1]; exact htc.1, fun k hk => by rw [sI_ne (by omega)]; exact htc.2 k hk⟩
  have m1 : mTo T t p (sI L 187 38 (1 : Int32)) := mTo_fr hm (fun j hj => by rw [sI_ne (by omega)]) (by rw [sI_2])
  have tm1 : tpM T t (sI L 187 38 (1 : Int32)) := ⟨by rw [sI_ne (by omega)]; exact htm.1, fun k hk => by rw [sI_ne (by omega)]; exact htm.2 k hk⟩
  obtain ⟨x, y, C1, L1, a1, a2, a3, a4, a5⟩ := j_told' ht hT (j := 8) (hi := 999) (by omega) (by omega) tp1 tm1 (Or.inl ⟨p, Nat.le_refl _, hp, c1, m1⟩)
  have a1' : fX4_takeTold 900008 (999 : Int32) (sI C u 11 (1 : Int32)) = some (x, C1) := a1
  have a2' : fX12_told (1685217655 : Int64) (0 : Int32) (999 : Int32) (sI L 187 38 (1 : Int32)) = some (y, L1) := by rw [k8]; exact a2
  refine ⟨sI C1 u 10 x, sI L1 187 36 y, ?_, ?_, fun a j g1 g2 => ?_, fun a j g => ?_, ?_, ?_, ?_, fun a j g => ?_, fun a j g => ?_, ?_⟩
  · simp only [fX4_readDraw, fX4_readDraw_12, hu.1, fit1, g_t, b_d, b_c, b_v, Bool.and_true, Bool.and_self, Bool.true_and, if_pos h11, a1']
  · simp only [a2', g_t, b_d, b_c, b_v, Bool.and_true, Bool.and_self, Bool.true_and]
  · rw [sI_ne (by omega), (a3.1 _ _ g1).1, sI_ne (by omega)]
  · rw [sI_2, (a3.1 _ _ g).2, sI_2]
  · rw [sI_ne (by omega), a3.2, sI_ne (by omega)]
  · rw [sI_ne (by omega), (a3.1 _ _ (by omega)).1, sI_eq]
  · rw [sI_ne (by omega), a4.1 _ _ (by omega), sI_eq]
  · rw [sI_ne (by omega), a4.1 _ _ (by omega), sI_ne (by omega)]
  · rw [sI_2, a4.2 _ _ g, sI_2]
  · have kT : ∀ p, cT T t p C1 → cT T t p (sI C1 u 10 x) := fun p h => by
      obtain ⟨q1, q2, q3, q4, q5, q6, q7, q8⟩ := h
      exact ⟨by rw [sI_ne (by omega)]; exact q1, q2, by rw [sI_ne (by omega)]; exact q3, by rw [sI_ne (by omega)]; exact q4, by rw [sI_ne (by omega)]; exact q5, fun z => by rw [sI_2]; exact q6 z, fun z => by rw [sI_ne (by omega)]; exact q7 z, fun z => by rw [sI_ne (by omega)]; exact q8 z⟩
    have kD : ∀ w pl, cD w pl C1 → cD w pl (sI C1 u 10 x) := fun w pl h => ⟨h.1, h.2.1, by rw [sI_ne (by omega)]; exact h.2.2.1, by rw [sI_ne (by omega)]; exact h.2.2.2.1, by rw [sI_ne (by omega)]; exact h.2.2.2.2⟩
    have kM : ∀ p, mTo T t p L1 → mTo T t p (sI L1 187 36 y) := fun p h => mTo_fr h (fun j hj => by rw [sI_ne (by omega)]) (by rw [sI_2])
    rcases a5 with ⟨v, v1, v2, v3, ⟨p', g1, g2, g3, g4⟩ | ⟨p', g1, g2, g3, g4⟩⟩ | ⟨w, pl, g1, g2⟩
    · exact Or.inl ⟨p', by omega, g2, kT p' g3, kM p' g4, v, v1, by rw [sI_eq]; exact v2, by rw [sI_eq]; exact v3⟩
    · exact Or.inr (Or.inl ⟨p', g1, g2, kD _ _ g3, kM p' g4⟩)
    · exact Or.inr (Or.inr ⟨w, pl, kD _ _ g1, g2.1, g2.2.1, by rw [sI_ne (by omega)]; exact g2.2.2.1, by rw [sI_ne (by omega)]; exact g2.2.2.2⟩)
/-- a second draw -/
theorem c_draw2 {u p : Nat} (hu : kSh u) {C : mT} (hc : cT T t p C) (h11 : C.1 u 11 = 1) : ∃ C', fX4_readDraw u C = some C' ∧ cD 2 (tbN T t p) C' ∧ C'.1 1 1 = C.1 1 1 := by
  have hu7 := hu.2.2.2.2.2.2
  have fit1 : mFit .boolean (1 : Int32) = true := by decide
  have c : ¬ C.1 u 11 = 0 := by rw [h11]; decide
  obtain ⟨C1, d1, d2, d3⟩ := c_ref0 hc.1 hc.2.2.2.1 (f := 2) (by omega) (by omega)
  have d1' : fX4_refuse (2 : Int32) C = some C1 := d1
  have d4 : cD 2 (tbN T t p) (sI C1 u 11 (1 : Int32)) := ⟨d2.1, d2.2.1, by rw [sI_ne (by omega)]; exact d2.2.2.1, by rw [sI_ne (by omega)]; exact d2.2.2.2.1, by rw [sI_ne (by omega)]; exact d2.2.2.2.2⟩
  obtain ⟨x, C2, a1, a2, a3⟩ := c_toldD d4 (j := 8) (by omega) (999 : Int32)
  have a1' : fX4_takeTold 900008 (999 : Int32) (sI C1 u 11 (1 : Int32)) = some (x, C2) := a1
  refine ⟨sI C2 u 10 x, ?_, ⟨a2.1, a2.2.1, by rw [sI_ne (by omega)]; exact a2.2.2.1, by rw [sI_ne (by omega)]; exact a2.2.2.2.1, by rw [sI_ne (by omega)]; exact a2.2.2.2.2⟩, by rw [sI_ne (by omega), a3.2, sI_ne (by omega), d3.2]⟩
  simp only [fX4_readDraw, fX4_readDraw_12, hu.1, fit1, g_t, b_d, b_c, b_v, Bool.and_true, Bool.and_self, Bool.true_and, if_neg c, d1', a1']
end
