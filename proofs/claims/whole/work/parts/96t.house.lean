/-! PROVINCE: a house, to its end. -/
section
variable {T : Nat → Nat} {t : Nat}
theorem at_of {p0 : Nat} {C L : mT} {P : Prop} (h : P ∧ (liv3 T t p0 C L ∨ bad3 T t C L) ∨ PQ C L) : at3 T t p0 C L := by
  rcases h with ⟨_, h | h⟩ | h
  · exact Or.inl h
  · exact Or.inr (Or.inl h)
  · exact Or.inr (Or.inr h)
theorem at_sI {p0 a j : Nat} {v : Int32} {C L : mT} (ha : 201 ≤ a) (h : at3 T t p0 C L) : at3 T t p0 C (sI L a j v) := by
  have k : ∀ p, mTo T t p L → mTo T t p (sI L a j v) := fun p h => mTo_fr h (fun i _ => by rw [sI_ne (by omega)]) (by rw [sI_2])
  rcases h with ⟨p, h1, h2, h3, h4⟩ | ⟨p, h1, h2, h3, h4⟩ | ⟨w, pl, h1, h2⟩
  · exact Or.inl ⟨p, h1, h2, h3, k p h4⟩
  · exact Or.inr (Or.inl ⟨p, h1, h2, h3, k p h4⟩)
  · exact Or.inr (Or.inr ⟨w, pl, h1, h2.1, h2.2.1, by rw [sI_ne (by omega)]; exact h2.2.2.1, by rw [sI_ne (by omega)]; exact h2.2.2.2⟩)
theorem pq_sI {a j : Nat} {v : Int32} {C L : mT} (ha : 201 ≤ a) (h : PQ C L) : PQ C (sI L a j v) := by
  obtain ⟨w, pl, h1, h2⟩ := h
  exact ⟨w, pl, h1, h2.1, h2.2.1, by rw [sI_ne (by omega)]; exact h2.2.2.1, by rw [sI_ne (by omega)]; exact h2.2.2.2⟩
theorem hm_sI {a j : Nat} (v : Int32) (L : mT) (ha : 201 ≤ a ∧ a ≤ 204) : fHm L (sI L a j v) := ⟨fun b i _ g => by rw [sI_ne (by omega)], fun b i _ _ => by rw [sI_2]⟩
theorem fHm.tp {C C' : mT} (h : fHm C C') (hp : tpM T t C) : tpM T t C' := ⟨by rw [h.1 _ _ (by omega) (by omega)]; exact hp.1, fun k hk => by rw [h.1 _ _ (by omega) (by omega)]; exact hp.2 k hk⟩
def tl3 (T : Nat → Nat) (t p0 hi : Nat) (x y : Int32) (C L : mT) : Prop := (∃ v, v ≤ hi ∧ x = nI v ∧ y = nI v ∧ (liv3 T t p0 C L ∨ bad3 T t C L)) ∨ PQ C L
theorem j_told' (ht : t ≤ 1600) (hT : ∀ k, k < t → T k < 256) {p0 j hi : Nat} (hj : j < 15) (hh : hi < 10000) {C L : mT} (htc : tpC T t C) (htm : tpM T t L) (h : at3 T t p0 C L) : ∃ x y C' L', fX4_takeTold (900000 + j) (nI hi) C = some (x, C') ∧ fX12_told (Int64.ofNat (cwN j)) (0 : Int32) (nI hi) L = some (y, L') ∧ fR C C' ∧ fQw L L' ∧ tl3 T t (p0 + 1) hi x y C' L' := j_told ht hT hj hh htc htm h
theorem j_opt' (ht : t ≤ 1600) (hT : ∀ k, k < t → T k < 256) {p0 j : Nat} (hj : j < 15) {C L : mT} (htc : tpC T t C) (htm : tpM T t L) (h : at3 T t p0 C L) : ∃ x y C' L', (bndC (fX4_isWord (900000 + j) C) fun x2 S => if x2 = 0 then some ((0 : Int32), S) else fX4_takeTold (900000 + j) (9 : Int32) S) = some (x, C') ∧ fX12_option (Int64.ofNat (cwN j)) L = some (y, L') ∧ fR C C' ∧ fQw L L' ∧ tl3 T t p0 9 x y C' L' := j_opt ht hT hj htc htm h
theorem tl_at {p0 hi : Nat} {x y : Int32} {C L : mT} (h : tl3 T t p0 hi x y C L) : at3 T t p0 C L := by
  rcases h with ⟨v, _, _, _, z⟩ | z
  · exact at_of (P := True) (Or.inl ⟨trivial, z⟩)
  · exact Or.inr (Or.inr z)
theorem tl_v {p0 hi : Nat} {x y : Int32} {C L : mT} (h : tl3 T t p0 hi x y C L) (n : ¬ PQ C L) : ∃ v, v ≤ hi ∧ x = nI v ∧ y = nI v := by
  rcases h with ⟨v, h1, h2, h3, _⟩ | z
  · exact ⟨v, h1, h2, h3⟩
  · exact absurd z n
/-- behind the name -/
theorem j_rest (ht : t ≤ 1600) (hT : ∀ k, k < t → T k < 256) {u n p0 q : Nat} (hu : kSh u) (hn : n < 5) {C L : mT} (htc : tpC T t C) (htm : tpM T t L) (h : at3 T t p0 C L) (h9 : C.1 u 9 = nI n) (h35 : L.1 187 35 = nI n) (hN : nmJ T t u n C L) (hS : ∀ h, h < n → ∃ p d j q, p ≤ 60 ∧ d ≤ 7 ∧ j ≤ 9 ∧ q ≤ 9 ∧ C.1 (u + 2) h = nI p ∧ L.1 201 h = nI p ∧ C.1 (u + 3) h = nI d ∧ L.1 202 h = nI d ∧ C.1 (u + 4) h = nI j ∧ L.1 203 h = nI j ∧ C.1 (u + 5) h = nI q ∧ L.1 204 h = nI q) (hq : tkN T t q = 1) (h189 : L.2 189 n = Int64.ofNat (n8N T t q)) :
    ∃ C' L', cRest u (Int64.ofNat (n5N T t q)) C = some C' ∧ (bndC (fX12_told (24948 : Int64) (0 : Int32) (60 : Int32) L) fun x12 S11 => bnd (sI S11 201 n x12) fun S13 => bndC (fX12_told (448377480307 : Int64) (0 : Int32) (7 : Int32) S13) fun x15 S14 => bnd (sI S14 202 n x15) fun S16 => bndC (fX12_option (6971757 : Int64) S16) fun x18 S17 => bnd (sI S17 203 n x18) fun S19 => bndC (fX12_option (448310438260 : Int64) S19) fun x21 S20 => bnd (sI S20 204 n x21) fun S22 => if (S22.1 187 2) = 0 then bnd (sI S22 187 35 ((S22.1 187 35) + (1 : Int32))) fun S23 => fX12_readHouse_133 S23 else fX12_readHouse_133 S22) = some L' ∧ fH u C C' ∧ fHm L L' ∧ ((∃ p', p0 < p' ∧ p' ≤ t ∧ cT T t p' C' ∧ mTo T t p' L' ∧ SJ T t u (n + 1) C' L') ∨ bad3 T t C' L' ∨ PQ C' L') := by
  have hu7 := hu.2.2.2.2.2.2
  obtain ⟨_, k1, k2, k3, k4, _⟩ := cw_c
  obtain ⟨x1, y1, C1, L1, a1, a2, a3, a4, a5⟩ := j_told' ht hT (j := 1) (hi := 60) (by omega) (by omega) htc htm h
  have A1 : at3 T t (p0 + 1) C1 L1 := tl_at a5
  obtain ⟨x2, y2, C2, L2, b1, b2, b3, b4, b5⟩ := j_told' ht hT (j := 2) (hi := 7) (by omega) (by omega) (a3.tp htc) ((a4.hm.tr (hm_sI y1 L1 (a := 201) (j := n) (by omega))).tp htm) (at_sI (a := 201) (j := n) (v := y1) (by omega) A1)
  have A2 : at3 T t (p0 + 2) C2 L2 := tl_at b5
  have H2 : fHm L (sI L2 202 n y2) := (a4.hm.tr (hm_sI y1 L1 (a := 201) (j := n) (by omega))).tr (b4.hm.tr (hm_sI y2 L2 (by omega)))
  obtain ⟨x3, y3, C3, L3, c1, c2, c3, c4, c5⟩ := j_opt' ht hT (j := 3) (by omega) (b3.tp (a3.tp htc)) (H2.tp htm) (at_sI (a := 202) (j := n) (v := y2) (by omega) A2)
  have A3 : at3 T t (p0 + 2) C3 L3 := tl_at c5
  have H3 : fHm L (sI L3 203 n y3) := H2.tr (c4.hm.tr (hm_sI y3 L3 (by omega)))
  obtain ⟨x4, y4, C4, L4, d1, d2, d3, d4, d5⟩ := j_opt' ht hT (j := 4) (by omega) (c3.tp (b3.tp (a3.tp htc))) (H3.tp htm) (at_sI (a := 203) (j := n) (v := y3) (by omega) A3)
  have H4 : fHm L (sI L4 204 n y4) := H3.tr (d4.hm.tr (hm_sI y4 L4 (by omega)))
  have a1' : fX4_takeTold 900001 (60 : Int32) C = some (x1, C1) := a1
  have b1' : fX4_takeTold 900002 (7 : Int32) C1 = some (x2, C2) := b1
  have c1' : (bndC (fX4_isWord 900003 C2) fun x2 S => if x2 = 0 then some ((0 : Int32), S) else fX4_takeTold 900003 (9 : Int32) S) = some (x3, C3) := c1
  have d1' : (bndC (fX4_isWord 900004 C3) fun x2 S => if x2 = 0 then some ((0 : Int32), S) else fX4_takeTold 900004 (9 : Int32) S) = some (x4, C4) := d1
  have a2' : fX12_told (24948 : Int64) (0 : Int32) (60 : Int32) L = some (y1, L1) := by rw [k1]; exact a2
  have b2' : fX12_told (448377480307 : Int64) (0 : Int32) (7 : Int32) (sI L1 201 n y1) = some (y2, L2) := by rw [k2]; exact b2
  have c2' : fX12_option (6971757 : Int64) (sI L2 202 n y2) = some (y3, L3) := by rw [k3]; exact c2
  have d2' : fX12_option (448310438260 : Int64) (sI L3 203 n y3) = some (y4, L4) := by rw [k4]; exact d2
  have fr4 : fR C C4 := ((a3.tr b3).tr c3).tr d3
  have h9' : C4.1 u 9 = nI n := by rw [(fr4.1 _ _ (by omega)).1]; exact h9
  have ad := c_addH hu hn h9' (Int64.ofNat (n5N T t q)) x1 x2 x3 x4
  obtain ⟨C5, hC5⟩ : ∃ C5, sI (sI (sI (sI (sI (sJ C4 (u + 1) n (Int64.ofNat (n5N T t q))) (u + 2) n x1) (u + 3) n x2) (u + 4) n x3) (u + 5) n x4) u 9 (nI (n + 1)) = C5 := ⟨_, rfl⟩
  have fh5 : fH u C C5 := by rw [← hC5]; exact fr4.h.tr (addH_f (n := n) hu C4 _ x1 x2 x3 x4 (nI (n + 1)))
  rw [hC5] at ad
  have e1 : ∀ j, C5.1 1 j = C4.1 1 j := fun j => by rw [← hC5, sI_ne (by omega), sI_ne (by omega), sI_ne (by omega), sI_ne (by omega), sI_ne (by omega), sJ_1]
  have e1' : ∀ j, C5.2 1 j = C4.2 1 j := fun j => by rw [← hC5, sI_2, sI_2, sI_2, sI_2, sI_2, sJ_ne (by omega)]
  have kT : ∀ p, cT T t p C4 → cT T t p C5 := fun p h => by
    obtain ⟨q1, q2, q3, q4, q5, q6, q7, q8⟩ := h
    exact ⟨by rw [e1]; exact q1, q2, by rw [e1]; exact q3, by rw [e1]; exact q4, by rw [e1]; exact q5, fun z => by rw [e1']; exact q6 z, fun z => by rw [e1]; exact q7 z, fun z => by rw [e1]; exact q8 z⟩
  have kD : ∀ w pl, cD w pl C4 → cD w pl C5 := fun w pl h => ⟨h.1, h.2.1, by rw [e1]; exact h.2.2.1, by rw [e1]; exact h.2.2.2.1, by rw [e1]; exact h.2.2.2.2⟩
  have crun : cRest u (Int64.ofNat (n5N T t q)) C = some C5 := by
    simp only [cRest, a1', b1', c1', d1', g_t, b_d, b_c, b_v, Bool.and_true, Bool.and_self, Bool.true_and, ad]
  have o1 : nI n + (1 : Int32) = nI (n + 1) := nI_add n 1
  have f35 : (sI L4 204 n y4).1 187 35 = nI n := by
    have : L4.1 187 35 = L.1 187 35 := by
      rw [d4.1 _ _ (by omega), sI_ne (by omega), c4.1 _ _ (by omega), sI_ne (by omega), b4.1 _ _ (by omega), sI_ne (by omega), a4.1 _ _ (by omega)]
    rw [sI_ne (by omega), this]
    exact h35
  have alive : ∀ p, mTo T t p L4 → ∃ L', (bndC (fX12_told (24948 : Int64) (0 : Int32) (60 : Int32) L) fun x12 S11 => bnd (sI S11 201 n x12) fun S13 => bndC (fX12_told (448377480307 : Int64) (0 : Int32) (7 : Int32) S13) fun x15 S14 => bnd (sI S14 202 n x15) fun S16 => bndC (fX12_option (6971757 : Int64) S16) fun x18 S17 => bnd (sI S17 203 n x18) fun S19 => bndC (fX12_option (448310438260 : Int64) S19) fun x21 S20 => bnd (sI S20 204 n x21) fun S22 => if (S22.1 187 2) = 0 then bnd (sI S22 187 35 ((S22.1 187 35) + (1 : Int32))) fun S23 => fX12_readHouse_133 S23 else fX12_readHouse_133 S22) = some L' ∧ mTo T t p L' ∧ L' = sI (sI L4 204 n y4) 187 35 (nI (n + 1)) := fun p hm => by
    have e2 : (sI L4 204 n y4).1 187 2 = 0 := by rw [sI_ne (by omega)]; exact hm.1
    refine ⟨_, ?_, ?_, rfl⟩
    · simp only [a2', b2', c2', d2', g_t, b_d, b_c, b_v, Bool.and_true, Bool.and_self, Bool.true_and, if_pos e2, f35, o1, fX12_readHouse_133]
    · have mA : mTo T t p (sI L4 204 n y4) := mTo_fr hm (fun i _ => by rw [sI_ne (by omega)]) (by rw [sI_2])
      exact mTo_fr mA (fun i hi => by rw [sI_ne (by omega)]) (by rw [sI_2])
  have fh4 : ∀ v, fHm L (sI (sI L4 204 n y4) 187 35 v) := fun v => H4.tr ⟨fun b i g _ => by rw [sI_ne (by omega)], fun b i _ _ => by rw [sI_2]⟩
  rcases d5 with ⟨v4, w4, z4, z4', hh⟩ | hh
  · rcases hh with ⟨p', g1, g2, g3, g4⟩ | ⟨p', g1, g2, g3, g4⟩
    · obtain ⟨L', l1, l2, l3⟩ := alive p' g4
      have nPQ4 : ¬ PQ C4 L4 := fun ⟨w, pl, z1, z2⟩ => (mD_ne z2).1 g4.1
      have nPQ3 : ¬ PQ C3 L3 := fun z => nPQ4 (opt_PQ (j := 4) (by omega) d1 d2 (pq_sI (by omega) z))
      have nPQ2 : ¬ PQ C2 L2 := fun z => nPQ3 (opt_PQ (j := 3) (by omega) c1 c2 (pq_sI (by omega) z))
      have nPQ1 : ¬ PQ C1 L1 := fun z => nPQ2 (told_PQ (j := 2) (by omega) b1 b2 (pq_sI (by omega) z))
      obtain ⟨v1, w1, z1, z1'⟩ := tl_v a5 nPQ1
      obtain ⟨v2, w2, z2, z2'⟩ := tl_v b5 nPQ2
      obtain ⟨v3, w3, z3, z3'⟩ := tl_v c5 nPQ3
      refine ⟨C5, L', crun, l1, fh5, by rw [l3]; exact fh4 _, Or.inl ⟨p', by omega, g2, kT p' g3, l2, by omega, by rw [← hC5, sI_eq], by rw [l3, sI_eq], fun h hh => ?_, fun h hh => ?_⟩⟩
      · by_cases u1 : h = n
        · refine ⟨q, hq, ?_, ?_⟩
          · rw [u1, ← hC5, sI_2, sI_2, sI_2, sI_2, sI_2, sJ_eq]
          · rw [u1, l3, sI_2, sI_2, d4.2 _ _ (by omega), sI_2, c4.2 _ _ (by omega), sI_2, b4.2 _ _ (by omega), sI_2, a4.2 _ _ (by omega)]
            exact h189
        · obtain ⟨qq, q1, q2, q3⟩ := hN h (by omega)
          refine ⟨qq, q1, ?_, ?_⟩
          · rw [← hC5, sI_2, sI_2, sI_2, sI_2, sI_2, sJ_ne (by omega), (fr4.1 _ _ (by omega)).2]
            exact q2
          · rw [l3, sI_2, sI_2, d4.2 _ _ (by omega), sI_2, c4.2 _ _ (by omega), sI_2, b4.2 _ _ (by omega), sI_2, a4.2 _ _ (by omega)]
            exact q3
      · have eL : ∀ a i, 201 ≤ a → a ≤ 204 → L'.1 a i = (if a = 201 ∧ i = n then y1 else if a = 202 ∧ i = n then y2 else if a = 203 ∧ i = n then y3 else if a = 204 ∧ i = n then y4 else L.1 a i) := fun a i g1 g2 => by
          rw [l3, sI_ne (by omega)]
          by_cases r4 : a = 204 ∧ i = n
          · rw [if_neg (by omega), if_neg (by omega), if_neg (by omega), if_pos r4, r4.1, r4.2, sI_eq]
          rw [sI_ne r4, d4.1 _ _ (by omega)]
          by_cases r3 : a = 203 ∧ i = n
          · rw [if_neg (by omega), if_neg (by omega), if_pos r3, r3.1, r3.2, sI_eq]
          rw [sI_ne r3, c4.1 _ _ (by omega)]
          by_cases r2 : a = 202 ∧ i = n
          · rw [if_neg (by omega), if_pos r2, r2.1, r2.2, sI_eq]
          rw [sI_ne r2, b4.1 _ _ (by omega)]
          by_cases r1 : a = 201 ∧ i = n
          · rw [if_pos r1, r1.1, r1.2, sI_eq]
          rw [sI_ne r1, a4.1 _ _ (by omega), if_neg r1, if_neg r2, if_neg r3, if_neg r4]
        have eC : ∀ a, a ≠ u → ∀ i, i ≠ n → a ≠ 1 → C5.1 a i = C.1 a i := fun a ga i gi g1 => by
          rw [← hC5, sI_ne (by omega), sI_ne (by omega), sI_ne (by omega), sI_ne (by omega), sI_ne (by omega), sJ_1, (fr4.1 _ _ g1).1]
        by_cases u1 : h = n
        · refine ⟨v1, v2, v3, v4, w1, w2, w3, w4, ?_, ?_, ?_, ?_, ?_, ?_, ?_, ?_⟩
          · rw [u1, ← hC5, sI_ne (by omega), sI_ne (by omega), sI_ne (by omega), sI_ne (by omega), sI_eq]; exact z1
          · rw [u1, eL _ _ (by omega) (by omega), if_pos ⟨rfl, rfl⟩]; exact z1'
          · rw [u1, ← hC5, sI_ne (by omega), sI_ne (by omega), sI_ne (by omega), sI_eq]; exact z2
          · rw [u1, eL _ _ (by omega) (by omega), if_neg (by omega), if_pos ⟨rfl, rfl⟩]; exact z2'
          · rw [u1, ← hC5, sI_ne (by omega), sI_ne (by omega), sI_eq]; exact z3
          · rw [u1, eL _ _ (by omega) (by omega), if_neg (by omega), if_neg (by omega), if_pos ⟨rfl, rfl⟩]; exact z3'
          · rw [u1, ← hC5, sI_ne (by omega), sI_eq]; exact z4
          · rw [u1, eL _ _ (by omega) (by omega), if_neg (by omega), if_neg (by omega), if_neg (by omega), if_pos ⟨rfl, rfl⟩]; exact z4'
        · obtain ⟨m1, m2, m3, m4, q1, q2, q3, q4, r1, r2, r3, r4, r5, r6, r7, r8⟩ := hS h (by omega)
          have en : ∀ a, 201 ≤ a → a ≤ 204 → L'.1 a h = L.1 a h := fun a g1 g2 => by rw [eL a h g1 g2, if_neg (by omega), if_neg (by omega), if_neg (by omega), if_neg (by omega)]
          exact ⟨m1, m2, m3, m4, q1, q2, q3, q4, by rw [eC _ (by omega) h u1 (by omega)]; exact r1, by rw [en _ (by omega) (by omega)]; exact r2, by rw [eC _ (by omega) h u1 (by omega)]; exact r3, by rw [en _ (by omega) (by omega)]; exact r4, by rw [eC _ (by omega) h u1 (by omega)]; exact r5, by rw [en _ (by omega) (by omega)]; exact r6, by rw [eC _ (by omega) h u1 (by omega)]; exact r7, by rw [en _ (by omega) (by omega)]; exact r8⟩
    · obtain ⟨L', l1, l2, l3⟩ := alive p' g4
      exact ⟨C5, L', crun, l1, fh5, by rw [l3]; exact fh4 _, Or.inr (Or.inl ⟨p', g1, g2, kD _ _ g3, l2⟩)⟩
  · obtain ⟨w, pl, g1, g2⟩ := hh
    have n2 : ¬ (sI L4 204 n y4).1 187 2 = 0 := by rw [sI_ne (by omega)]; exact (mD_ne g2).1
    refine ⟨C5, sI L4 204 n y4, crun, ?_, fh5, H4, Or.inr (Or.inr ⟨w, pl, kD _ _ g1, g2.1, g2.2.1, by rw [sI_ne (by omega)]; exact g2.2.2.1, by rw [sI_ne (by omega)]; exact g2.2.2.2⟩)⟩
    simp only [a2', b2', c2', d2', g_t, b_d, b_c, b_v, Bool.and_true, Bool.and_self, Bool.true_and, if_neg n2, fX12_readHouse_133]
end
