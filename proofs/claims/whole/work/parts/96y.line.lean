/-! PROVINCE: a line by both. -/
section
variable {T : Nat → Nat} {t : Nat}
theorem fin_out {p0 : Nat} {G H : mT → mT → Prop} {C L : mT} (h : fin3 T t p0 G C L) (g : G C L → H C L) : out3 T t p0 H C L := by
  rcases h with ⟨p, h1, h2, h3, h4, h5⟩ | h | h
  · exact Or.inl ⟨p, h1, h2, h3, h4, g h5⟩
  · exact Or.inr (Or.inl h)
  · exact Or.inr (Or.inr h)
theorem out_out {p0 : Nat} {G H : mT → mT → Prop} {C L : mT} (h : out3 T t p0 G C L) (g : G C L → H C L) : out3 T t p0 H C L := fin_out h g
/-- a law's line -/
theorem j_lawL (ht : t ≤ 1600) (hT : ∀ k, k < t → T k < 256) {u f un U0 p : Nat} (hu : kSh u) (hf : f < 3) (ha : kLw (u + 6 + 3 * f)) (hU : U0 ≤ 60) (hp : p ≤ t) {C L : mT} (htc : tpC T t C) (htm : tpM T t L) (hc : cT T t p C) (hm : mTo T t p L) (hk : tkN T t p ≠ 0) (hl : lawJ f (u + 6 + 3 * f) un C L) (h23 : L.1 187 23 = nI (U0 + un)) : (L.1 198 f = 0 ∧ ∃ C1 L1, fX4_readLaw (u + 6 + 3 * f) C = some C1 ∧ fX12_formula (nI f) L = some L1 ∧ fKw (u + 6 + 3 * f) C C1 ∧ fZw f L L1 ∧ out3 T t p (fun C L => ∃ un, lawJ f (u + 6 + 3 * f) un C L ∧ L.1 187 23 = nI (U0 + un)) C1 L1) ∨ (L.1 198 f = 1 ∧ ∃ C1, fX4_readLaw (u + 6 + 3 * f) C = some C1 ∧ cD 2 (tbN T t p) C1 ∧ fKw (u + 6 + 3 * f) C C1) := by
  have cs := lawJ_cs hl
  rcases hl with ⟨h1, h2, h3, h4, h5⟩ | ⟨h1, h2, _⟩
  · refine Or.inl ⟨h5, ?_⟩
    obtain ⟨C1, L1, a1, a2, a3, a4, a5, a6, a7, a8⟩ := j_law ht hT hf ha hU hp htc htm hc hm h1 h2 h3 (by rw [h23, h4]; rfl) hk
    exact ⟨C1, L1, a1, a2, a3, a4, fin_out a8 (fun g => lawJ_gl a6 a7 g)⟩
  · obtain ⟨C1, a1, a2, _, a4⟩ := c_law2 ha hc cs h1
    exact Or.inr ⟨h2, C1, a1, a2, a4⟩
/-- a line but for its end, as the class reads it -/
def lnB (u : Nat) (S : mT) : Option mT := bndC (fX4_isWord 900000 S) fun x S1 => if x = 0 then (bndC (fX4_isWord 900008 S1) fun y S2 => if y = 0 then (bndC (fX4_lawNamed u S2) fun z S3 => fX4_readLaw z S3) else fX4_readDraw u S2) else fX4_readHouse u S1
theorem j_line (ht : t ≤ 1600) (hT : ∀ k, k < t → T k < 256) {u p : Nat} (hu : kSh u) (hp : p ≤ t) {C L : mT} (htc : tpC T t C) (htm : tpM T t L) (hc : cT T t p C) (hm : mTo T t p L) (hk : tkN T t p ≠ 0) (hR : RJ T t u C L) : ∃ C0 C' L', lnB u C = some C0 ∧ fX4_takeSign (59 : Int32) C0 = some C' ∧ fX12_readLine L = some L' ∧ fKl u C C' ∧ fZl L L' ∧ out3 T t p (RJ T t u) C' L' := by
  obtain ⟨ku0, ku1, ku2⟩ := kLw_u hu
  have h8 := hu.1
  obtain ⟨n, a, b, c, hs, l0, l1, l2, h23, hd⟩ := hR
  have ua := lawJ_un l0
  have ub := lawJ_un l1
  have uc := lawJ_un l2
  have t1 : ¬ (1 : Int32) = 0 := by decide
  obtain ⟨k0, k1, k2, k3, k4, k5, k6, k7, k8, _⟩ := cw_c
  have ci : ∀ j, j < 15 → fX4_isWord (900000 + j) C = some (if wkN T t p = cwN j then 1 else 0, C) := fun j hj => c_isW ht hT hp htc hc hj
  have ne : ∀ i j, i < 15 → j < 15 → i ≠ j → wkN T t p = cwN i → ¬ wkN T t p = cwN j := fun i j hi hj hij h1 h2 => hij ((cw_lt i hi).2.2 j hj (h1.symm.trans h2))
  have c0 : fX4_isWord 900000 C = some (if wkN T t p = cwN 0 then 1 else 0, C) := ci 0 (by omega)
  have c5 : fX4_isWord 900005 C = some (if wkN T t p = cwN 5 then 1 else 0, C) := ci 5 (by omega)
  have c6 : fX4_isWord 900006 C = some (if wkN T t p = cwN 6 then 1 else 0, C) := ci 6 (by omega)
  have c7 : fX4_isWord 900007 C = some (if wkN T t p = cwN 7 then 1 else 0, C) := ci 7 (by omega)
  have c8 : fX4_isWord 900008 C = some (if wkN T t p = cwN 8 then 1 else 0, C) := ci 8 (by omega)
  have m0 : fX12_isWord (448546567013 : Int64) L = some (if wkN T t p = cwN 0 then 1 else 0, L) := by rw [k0]; exact m_isW hm (j := 0) (by omega) hT hp
  have m5 : fX12_isWord (1936746868 : Int64) L = some (if wkN T t p = cwN 5 then 1 else 0, L) := by rw [k5]; exact m_isW hm (j := 5) (by omega) hT hp
  have m6 : fX12_isWord (7627128 : Int64) L = some (if wkN T t p = cwN 6 then 1 else 0, L) := by rw [k6]; exact m_isW hm (j := 6) (by omega) hT hp
  have m7 : fX12_isWord (1735552887 : Int64) L = some (if wkN T t p = cwN 7 then 1 else 0, L) := by rw [k7]; exact m_isW hm (j := 7) (by omega) hT hp
  have m8 : fX12_isWord (1685217655 : Int64) L = some (if wkN T t p = cwN 8 then 1 else 0, L) := by rw [k8]; exact m_isW hm (j := 8) (by omega) hT hp
  have b0 : mIn (0 : Int32) 3 = true := by decide
  have b1 : mIn (1 : Int32) 3 = true := by decide
  have b2 : mIn (2 : Int32) 3 = true := by decide
  have i0 : mIx (0 : Int32) = 0 := by decide
  have i1 : mIx (1 : Int32) = 1 := by decide
  have i2 : mIx (2 : Int32) = 2 := by decide
  have one0 : ¬ (1 : Int32) = 0 := by decide
  have piece : ∃ C1 L1, lnB u C = some C1 ∧ fX12_readLine L = fX12_readLine_151 L1 ∧ fKl u C C1 ∧ fZl L L1 ∧ out3 T t p (RJ T t u) C1 L1 := by
    by_cases w0 : wkN T t p = cwN 0
    · rw [if_pos w0] at c0 m0
      by_cases hn : n < 5
      · obtain ⟨C1, L1, a1, a2, a3, a4, a5⟩ := j_house ht hT hu hn hp htc htm hc hm hk hs
        have h35 : ¬ (5 : Int32) ≤ L.1 187 35 := by
          rw [hs.2.2.1]
          exact fun z => by have := (xLe (a := 5) (by omega) (by omega)).mp z; omega
        refine ⟨C1, L1, ?_, ?_, a3.kl, a4.zl, out_out a5 (fun g => RJ_house hu g l0 l1 l2 h23 hd a3 a4)⟩
        · simp only [lnB, c0, g_t, b_d, b_c, b_v, Bool.and_true, Bool.and_self, Bool.true_and, if_neg t1, a1]
        · simp only [fX12_readLine, m0, g_t, b_d, b_c, b_v, Bool.and_true, Bool.and_self, Bool.true_and, if_neg t1, kO_187, if_neg h35, a2]
      · have n5 : n = 5 := by have := hs.1; omega
        obtain ⟨C1, a1, a2, a3⟩ := c_house6 hu hc (by rw [hs.2.1, n5])
        obtain ⟨L1, f1, f2, f3⟩ := m_fall hT hp hm (fun _ => by rw [hs.2.2.1, n5]; decide) (fun z => absurd z (ne 0 5 (by omega) (by omega) (by omega) w0)) (fun z => absurd z (ne 0 6 (by omega) (by omega) (by omega) w0)) (fun z => absurd z (ne 0 7 (by omega) (by omega) (by omega) w0)) (fun z => absurd z (ne 0 8 (by omega) (by omega) (by omega) w0))
        rw [if_neg hc.2.1] at f2
        refine ⟨C1, L1, ?_, f1, a3.kl, f3.zl, Or.inr (Or.inr ⟨2, _, a2, f2⟩)⟩
        simp only [lnB, c0, g_t, b_d, b_c, b_v, Bool.and_true, Bool.and_self, Bool.true_and, if_neg t1, a1]
    rw [if_neg w0] at c0 m0
    by_cases w5 : wkN T t p = cwN 5
    · rw [if_pos w5] at c5 m5
      rw [if_neg (ne 5 8 (by omega) (by omega) (by omega) w5)] at c8
      rcases j_lawL ht hT hu (f := 0) (U0 := b + c) (by omega) ku0 (by omega) hp htc htm hc hm hk l0 (by rw [h23]; congr 1; omega) with ⟨z, C1, L1, a1, a2, a3, a4, a5⟩ | ⟨z, C1, a1, a2, a3⟩
      · have a1' : fX4_readLaw (u + 6) C = some C1 := a1
        have a2' : fX12_formula (0 : Int32) L = some L1 := a2
        refine ⟨C1, L1, ?_, ?_, a3.kl (by omega), a4.zl, out_out a5 (fun ⟨un, g1, g2⟩ => ⟨n, un, b, c, SJ_kw hu (by omega) hs a3 a4, g1, lawJ_kw hu (f := 0) (g := 1) (by omega) (by omega) (by omega) l1 a3 a4, lawJ_kw hu (f := 0) (g := 2) (by omega) (by omega) (by omega) l2 a3 a4, by rw [g2]; congr 1; omega, drwJ_kw hu (by omega) hd a3 a4⟩)⟩
        · simp only [lnB, fX4_lawNamed, c0, c5, c8, h8, g_t, b_d, b_c, b_v, Bool.and_true, Bool.and_self, Bool.true_and, if_true, if_neg t1, a1']
        · simp only [fX12_readLine, fX12_readLine_25, m0, m5, g_t, b_d, b_c, b_v, Bool.and_true, Bool.and_self, Bool.true_and, if_true, if_neg t1, kO_187, kB_198, b0, i0, if_pos z, a2']
      · have a1' : fX4_readLaw (u + 6) C = some C1 := a1
        obtain ⟨L1, f1, f2, f3⟩ := m_fall hT hp hm (fun z => absurd z w0) (fun _ => by rw [z]; exact one0) (fun z => absurd z (ne 5 6 (by omega) (by omega) (by omega) w5)) (fun z => absurd z (ne 5 7 (by omega) (by omega) (by omega) w5)) (fun z => absurd z (ne 5 8 (by omega) (by omega) (by omega) w5))
        rw [if_neg hc.2.1] at f2
        refine ⟨C1, L1, ?_, f1, a3.kl (by omega), f3.zl, Or.inr (Or.inr ⟨2, _, a2, f2⟩)⟩
        simp only [lnB, fX4_lawNamed, c0, c5, c8, h8, g_t, b_d, b_c, b_v, Bool.and_true, Bool.and_self, Bool.true_and, if_true, if_neg t1, a1']
    rw [if_neg w5] at c5 m5
    by_cases w6 : wkN T t p = cwN 6
    · rw [if_pos w6] at c6 m6
      rw [if_neg (ne 6 8 (by omega) (by omega) (by omega) w6)] at c8
      rcases j_lawL ht hT hu (f := 1) (U0 := a + c) (by omega) ku1 (by omega) hp htc htm hc hm hk l1 (by rw [h23]; congr 1; omega) with ⟨z, C1, L1, a1, a2, a3, a4, a5⟩ | ⟨z, C1, a1, a2, a3⟩
      · have a1' : fX4_readLaw (u + 9) C = some C1 := a1
        have a2' : fX12_formula (1 : Int32) L = some L1 := a2
        refine ⟨C1, L1, ?_, ?_, a3.kl (by omega), a4.zl, out_out a5 (fun ⟨un, g1, g2⟩ => ⟨n, a, un, c, SJ_kw hu (by omega) hs a3 a4, lawJ_kw hu (f := 1) (g := 0) (by omega) (by omega) (by omega) l0 a3 a4, g1, lawJ_kw hu (f := 1) (g := 2) (by omega) (by omega) (by omega) l2 a3 a4, by rw [g2]; congr 1; omega, drwJ_kw hu (by omega) hd a3 a4⟩)⟩
        · simp only [lnB, fX4_lawNamed, c0, c5, c6, c8, h8, g_t, b_d, b_c, b_v, Bool.and_true, Bool.and_self, Bool.true_and, if_true, if_neg t1, a1']
        · simp only [fX12_readLine, fX12_readLine_25, fX12_readLine_52, m0, m5, m6, g_t, b_d, b_c, b_v, Bool.and_true, Bool.and_self, Bool.true_and, if_true, if_neg t1, kO_187, kB_198, b1, i1, if_pos z, a2']
      · have a1' : fX4_readLaw (u + 9) C = some C1 := a1
        obtain ⟨L1, f1, f2, f3⟩ := m_fall hT hp hm (fun z => absurd z w0) (fun z => absurd z w5) (fun _ => by rw [z]; exact one0) (fun z => absurd z (ne 6 7 (by omega) (by omega) (by omega) w6)) (fun z => absurd z (ne 6 8 (by omega) (by omega) (by omega) w6))
        rw [if_neg hc.2.1] at f2
        refine ⟨C1, L1, ?_, f1, a3.kl (by omega), f3.zl, Or.inr (Or.inr ⟨2, _, a2, f2⟩)⟩
        simp only [lnB, fX4_lawNamed, c0, c5, c6, c8, h8, g_t, b_d, b_c, b_v, Bool.and_true, Bool.and_self, Bool.true_and, if_true, if_neg t1, a1']
    rw [if_neg w6] at c6 m6
    by_cases w7 : wkN T t p = cwN 7
    · rw [if_pos w7] at c7 m7
      rw [if_neg (ne 7 8 (by omega) (by omega) (by omega) w7)] at c8
      rcases j_lawL ht hT hu (f := 2) (U0 := a + b) (by omega) ku2 (by omega) hp htc htm hc hm hk l2 h23 with ⟨z, C1, L1, a1, a2, a3, a4, a5⟩ | ⟨z, C1, a1, a2, a3⟩
      · have a1' : fX4_readLaw (u + 12) C = some C1 := a1
        have a2' : fX12_formula (2 : Int32) L = some L1 := a2
        refine ⟨C1, L1, ?_, ?_, a3.kl (by omega), a4.zl, out_out a5 (fun ⟨un, g1, g2⟩ => ⟨n, a, b, un, SJ_kw hu (by omega) hs a3 a4, lawJ_kw hu (f := 2) (g := 0) (by omega) (by omega) (by omega) l0 a3 a4, lawJ_kw hu (f := 2) (g := 1) (by omega) (by omega) (by omega) l1 a3 a4, g1, g2, drwJ_kw hu (by omega) hd a3 a4⟩)⟩
        · simp only [lnB, fX4_lawNamed, c0, c5, c6, c7, c8, h8, g_t, b_d, b_c, b_v, Bool.and_true, Bool.and_self, Bool.true_and, if_true, if_neg t1, a1']
        · simp only [fX12_readLine, fX12_readLine_25, fX12_readLine_52, fX12_readLine_79, m0, m5, m6, m7, g_t, b_d, b_c, b_v, Bool.and_true, Bool.and_self, Bool.true_and, if_true, if_neg t1, kO_187, kB_198, b2, i2, if_pos z, a2']
      · have a1' : fX4_readLaw (u + 12) C = some C1 := a1
        obtain ⟨L1, f1, f2, f3⟩ := m_fall hT hp hm (fun z => absurd z w0) (fun z => absurd z w5) (fun z => absurd z w6) (fun _ => by rw [z]; exact one0) (fun z => absurd z (ne 7 8 (by omega) (by omega) (by omega) w7))
        rw [if_neg hc.2.1] at f2
        refine ⟨C1, L1, ?_, f1, a3.kl (by omega), f3.zl, Or.inr (Or.inr ⟨2, _, a2, f2⟩)⟩
        simp only [lnB, fX4_lawNamed, c0, c5, c6, c7, c8, h8, g_t, b_d, b_c, b_v, Bool.and_true, Bool.and_self, Bool.true_and, if_true, if_neg t1, a1']
    rw [if_neg w7] at c7 m7
    by_cases w8 : wkN T t p = cwN 8
    · rw [if_pos w8] at c8 m8
      rcases id hd with ⟨d1, d2, _, _⟩ | ⟨d1, d2, _⟩
      · obtain ⟨C1, L1, a1, a2, a3, a4, a5, a6, a7, a8, a9, a10⟩ := j_draw ht hT hu hp htc htm hc hm d1
        have fit1 : mFit .boolean (1 : Int32) = true := by decide
        refine ⟨C1, L1, ?_, ?_, ⟨fun x j g1 g2 => a3 x j g1 (by omega), fun x j g1 _ => a4 x j g1, a5⟩, ⟨fun x j _ _ _ _ g => a8 x j (by omega), fun x j g _ => a9 x j g⟩, out_out a10 (fun g => RJ_draw hu hs l0 l1 l2 h23 (Or.inr ⟨a6, a7, g⟩) a3 a4 a8 a9)⟩
        · simp only [lnB, c0, c8, g_t, b_d, b_c, b_v, Bool.and_true, Bool.and_self, Bool.true_and, if_true, if_neg t1, a1]
        · cases e : fX12_told (1685217655 : Int64) (0 : Int32) (999 : Int32) (sI L 187 38 (1 : Int32)) with
          | none =>
            rw [e] at a2
            cases a2
          | some z =>
            obtain ⟨x, S⟩ := z
            rw [e, b_c, Option.some.injEq] at a2
            simp only [fX12_readLine, fX12_readLine_25, fX12_readLine_52, fX12_readLine_79, fX12_readLine_106, m0, m5, m6, m7, m8, g_t, b_d, b_c, b_v, Bool.and_true, Bool.and_self, Bool.true_and, if_true, if_neg t1, kO_187, fit1, if_pos d2, e, a2]
      · obtain ⟨C1, a1, a2, a3⟩ := c_draw2' hu hc d1
        obtain ⟨L1, f1, f2, f3⟩ := m_fall hT hp hm (fun z => absurd z w0) (fun z => absurd z w5) (fun z => absurd z w6) (fun z => absurd z w7) (fun _ => by rw [d2]; exact one0)
        rw [if_neg hc.2.1] at f2
        refine ⟨C1, L1, ?_, f1, a3, f3.zl, Or.inr (Or.inr ⟨2, _, a2, f2⟩)⟩
        simp only [lnB, c0, c8, g_t, b_d, b_c, b_v, Bool.and_true, Bool.and_self, Bool.true_and, if_true, if_neg t1, a1]
    rw [if_neg w8] at c8 m8
    obtain ⟨C1, d1, d2, d3⟩ := c_ref0 hc.1 hc.2.2.2.1 (f := 2) (by omega) (by omega)
    have d1' : fX4_refuse (2 : Int32) C = some C1 := d1
    obtain ⟨L1, f1, f2, f3⟩ := m_fall hT hp hm (fun z => absurd z w0) (fun z => absurd z w5) (fun z => absurd z w6) (fun z => absurd z w7) (fun z => absurd z w8)
    rw [if_neg hc.2.1] at f2
    refine ⟨C1, L1, ?_, f1, d3.kl, f3.zl, Or.inr (Or.inr ⟨2, _, d2, f2⟩)⟩
    simp only [lnB, fX4_lawNamed, c0, c5, c6, c7, c8, g_t, b_d, b_c, b_v, Bool.and_true, Bool.and_self, Bool.true_and, if_true, c_lawN d1']
  obtain ⟨C1, L1, p1, p2, p3, p4, p5⟩ := piece
  obtain ⟨C2, L2, q1, q2, q3, q4, q5⟩ := j_end ht hT (u := u) (RJ_rd hu) (p3.tp hu htc) (p4.tp htm) p5
  exact ⟨C1, C2, L2, p1, q1, by rw [p2, q2], p3.tr q3.kl, p4.tr q4.zl, q5⟩
end
