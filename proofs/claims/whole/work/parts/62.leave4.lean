/-! LEAVE: the call. -/
/-- the class lays a row -/
theorem s_lay {a1 len m : Nat} (hs : sT a1 = .inr (.int, len)) (hb : Nat.blt a1 233 = true) (hl : len ≤ 8) (hm : m ≤ len) (S : mT) : ∃ S', fX11_lay a1 (nI m) S = some S' ∧ S'.1 0 13 = nI m ∧ (∀ j, j < m → S'.1 186 j = S.1 a1 j) := by
  refine ⟨sC (sI S 0 13 (nI m)) a1 186 (0 : Int32) (0 : Int32) (nI m), ?_, ?_, fun j hj => ?_⟩
  · have e13 : (sI S 0 13 (nI m)).1 0 13 = nI m := by rw [sI_rd, if_pos ⟨rfl, rfl⟩]
    have o1 : (if (8 : Int32) < nI len then (8 : Int32) else nI len) = nI len := if_neg (fun z => by have := (xLt (a := 8) (by omega) (by omega)).mp z; omega)
    have o2 : (if nI len < nI m then nI len else nI m) = nI m := if_neg (fun z => by have := (xLt (by omega) (by omega)).mp z; omega)
    have hk := kC_of hs hb s_186 (by decide +kernel) (0 : Int32) (0 : Int32) (nI m)
    rw [cpOk0 hm (by omega) (by omega)] at hk
    unfold fX11_lay
    rw [kL_of hs hb, hs]
    rw [show Int32.ofNat (kLen (.inr (.int, len))) = nI len from rfl]
    simp only [o1, o2, kO_0, g_t, b_d, b_c, b_v, Bool.and_true, Bool.and_self, Bool.true_and, e13, hk]
  · rw [sC0 (by omega), if_neg (by omega), sI_rd, if_pos ⟨rfl, rfl⟩]
  · rw [sC0 (by omega), if_pos ⟨rfl, hj⟩, sI_rd]
    have z0 : sT 0 = .inl 11 := by decide +kernel
    have : a1 ≠ 0 := fun z => by
      rw [z, z0] at hs
      cases hs
    rw [if_neg (by omega)]
section
variable {t : Nat → Nat → Nat} {n T : Nat} {C L : mT}
theorem m_le80 (hn : n ≤ 5) (rc : Int32 → Int32 → Int32 → Int32 → mT → Option (Int32 × mT)) (v1 v2 v3 v4 : Int32) : ∀ (m i k : Nat) (L : mT), i + m = n → m < k → L.1 187 37 = nI n → ∃ L', fX12_leave_80 rc k v1 v2 v3 v4 (nI i) L = rc v1 v2 v3 (v4 + 1) L' ∧ (∀ j, i ≤ j → j < n → L'.1 215 j = L.1 214 j) ∧ (∀ j, j < i → L'.1 215 j = L.1 215 j) ∧ L'.1 187 51 = nI n ∧ ∀ a j, a ≠ 215 → ¬ (a = 187 ∧ j = 51) → L'.1 a j = L.1 a j
  | 0, i, k, L, hi, hk, n2 => by
    obtain ⟨k', rfl⟩ := up1 hk
    have hi : i = n := by omega
    subst hi
    have c : nI i ≤ nI i := Int32.le_refl _
    refine ⟨sI L 187 51 (nI i), ?_, fun j _ _ => by omega, fun j _ => by rw [sI_rd, if_neg (by omega)], by rw [sI_rd, if_pos ⟨rfl, rfl⟩], fun a j _ g => by rw [sI_rd, if_neg g]⟩
    simp only [fX12_leave_80, fX12_leave_117, kO_187, g_t, b_d, b_c, b_v, Bool.and_true, Bool.and_self, Bool.true_and, n2, if_pos c]
  | m + 1, i, k, L, hi, hk, n2 => by
    obtain ⟨k', rfl⟩ := up1 hk
    obtain ⟨L', r1, r2, r3, r4, r5⟩ := m_le80 hn rc v1 v2 v3 v4 m (i + 1) k' (sI L 215 i (L.1 214 i)) (by omega) (by omega) (by rw [sI_rd, if_neg (by omega)]; exact n2)
    have c : ¬ nI n ≤ nI i := fun z => by have := (xLe (by omega) (by omega)).mp z; omega
    have o1 : nI i + (1 : Int32) = nI (i + 1) := nI_add i 1
    refine ⟨L', ?_, fun j g1 g2 => ?_, fun j g => by rw [r3 j (by omega), sI_rd, if_neg (by omega)], r4, fun a j g1 g2 => by rw [r5 a j g1 g2, sI_rd, if_neg (by omega)]⟩
    · rw [← r1]
      simp (disch := omega) only [fX12_leave_80, kO_187, kI_214, kI_215, g_t, b_d, b_c, b_v, Bool.and_true, Bool.and_self, Bool.true_and, n2, if_neg c, xIx, xIn, o1]
    · by_cases q : j = i
      · rw [r3 j (by omega), sI_rd, if_pos ⟨rfl, q⟩, q]
      · rw [r2 j (by omega) g2, sI_rd, if_neg (by omega)]
/-- what stands there when the first W rows were looked at -/
def lvO (o : Option (Nat × Nat)) : Int32 := match o with
  | none => -1
  | some (a, _) => nI a
def lvS (n : Nat) (o : Option (Nat × Nat)) (L : mT) : Prop := match o with
  | none => L.1 187 51 = nI 0
  | some (_, w) => L.1 187 51 = nI n ∧ ∀ j, j < n → L.1 215 j = nI (dg8 n w j)
theorem m_le32 (hn : n ≤ 5) (hT : T ≤ 9999) (ht : ∀ i v, t i v ≤ 999 ∨ t i v = 1000000) : ∀ (m W k : Nat) (L : mT), W + m = 8 ^ n → m < k → L.1 187 37 = nI n → (∀ i v, i < n → v < 8 → L.1 213 (8 * i + v) = mtv (t i v)) → lvS n (bst (tS t n 0) (mS n) T W) L → ∃ L', fX12_leave_32 k (nI T) (lvO (bst (tS t n 0) (mS n) T W)) (nI (8 ^ n)) (nI W) L = some (lvO (bst (tS t n 0) (mS n) T (8 ^ n)), L') ∧ lvS n (bst (tS t n 0) (mS n) T (8 ^ n)) L'
  | 0, W, k, L, hW, hk, n2, e, h => by
    obtain ⟨k', rfl⟩ := up1 hk
    have hW : W = 8 ^ n := by omega
    subst hW
    have c : nI (8 ^ n) ≤ nI (8 ^ n) := Int32.le_refl _
    exact ⟨L, by simp only [fX12_leave_32, if_pos c], h⟩
  | m + 1, W, k, L, hW, hk, n2, e, h => by
    obtain ⟨k', rfl⟩ := up1 hk
    have hp := p8 hn
    have c : ¬ nI (8 ^ n) ≤ nI W := fun z => by have := (xLe (by omega) (by omega)).mp z; omega
    obtain ⟨L1, r1, r2, r3⟩ := m_tr (w := W) hn ht (by omega) n2 e
    have n3 : L1.1 187 37 = nI n := by rw [r3 _ _ (by omega) (by omega)]; exact n2
    have e3 : ∀ i v, i < n → v < 8 → L1.1 213 (8 * i + v) = mtv (t i v) := fun i v g1 g2 => by rw [r3 _ _ (by omega) (by omega)]; exact e i v g1 g2
    have o1 : nI W + (1 : Int32) = nI (W + 1) := nI_add W 1
    have hmem := mS_le n W (by omega)
    have hh : lvS n (bst (tS t n 0) (mS n) T W) L1 := by
      generalize bst (tS t n 0) (mS n) T W = o at h ⊢
      cases o with
      | none => exact (r3 _ _ (by omega) (by omega)).trans h
      | some q => exact ⟨(r3 _ _ (by omega) (by omega)).trans h.1, fun j hj => (r3 _ _ (by omega) (by omega)).trans (h.2 j hj)⟩
    -- not taken
    have skip : bst (tS t n 0) (mS n) T (W + 1) = bst (tS t n 0) (mS n) T W → ∃ L', fX12_leave_32 k' (nI T) (lvO (bst (tS t n 0) (mS n) T W)) (nI (8 ^ n)) (nI (W + 1)) L1 = some (lvO (bst (tS t n 0) (mS n) T (8 ^ n)), L') ∧ lvS n (bst (tS t n 0) (mS n) T (8 ^ n)) L' := fun hb => by
      have := m_le32 hn hT ht m (W + 1) k' L1 (by omega) (by omega) n3 e3 (by rw [hb]; exact hh)
      rw [hb] at this
      exact this
    by_cases c1 : tS t n 0 W < 1000000
    · obtain ⟨g1, g2⟩ := r2 c1
      have hle := sfx_le (n := n) ht (w := W) (K := n) (by omega)
      rw [sfx_n (by omega)] at hle
      rw [if_pos c1] at r1
      have c2 : ¬ nI (tS t n 0 W) < (0 : Int32) := nI_pos (by omega)
      by_cases c3 : tS t n 0 W ≤ T
      · have c3' : ¬ nI T < nI (tS t n 0 W) := fun z => by have := (xLt (by omega) (by omega)).mp z; omega
        have take : bst (tS t n 0) (mS n) T (W + 1) = some (mS n W, W) → ∃ L', fX12_leave_72 (fX12_leave_32 k') (nI T) (nI (8 ^ n)) (nI W) L1 = some (lvO (bst (tS t n 0) (mS n) T (8 ^ n)), L') ∧ lvS n (bst (tS t n 0) (mS n) T (8 ^ n)) L' := fun hb => by
          obtain ⟨L2, s1, s2, s3, s4, s5⟩ := m_le80 hn (fX12_leave_32 k') (nI T) (nI (mS n W)) (nI (8 ^ n)) (nI W) n 0 mK L1 (by omega) (by have := mK_gt; omega) n3
          have := m_le32 hn hT ht m (W + 1) k' L2 (by omega) (by omega) (by rw [s5 _ _ (by omega) (by omega)]; exact n3) (fun i v q1 q2 => by rw [s5 _ _ (by omega) (by omega)]; exact e3 i v q1 q2) (by
            rw [hb]
            exact ⟨s4, fun j hj => by rw [s2 j (by omega) hj]; exact g2 j hj⟩)
          rw [hb] at this
          obtain ⟨L', t1, t2⟩ := this
          refine ⟨L', ?_, t2⟩
          rw [← t1]
          unfold fX12_leave_72
          rw [kO_187, g1]
          simp only [g_t, b_d, b_c, b_v, Bool.and_true, Bool.and_self, Bool.true_and]
          rw [show fX12_leave_80 (fX12_leave_32 k') mK (nI T) (nI (mS n W)) (nI (8 ^ n)) (nI W) (0 : Int32) L1 = _ from s1, o1]
          rfl
        cases hb : bst (tS t n 0) (mS n) T W with
        | none =>
          have hb1 : bst (tS t n 0) (mS n) T (W + 1) = some (mS n W, W) := by
            conv => lhs; unfold bst
            rw [hb]
            exact if_pos c3
          obtain ⟨L', t1, t2⟩ := take hb1
          refine ⟨L', ?_, t2⟩
          rw [← t1]
          have c4 : (-1 : Int32) < 0 := by decide
          simp only [fX12_leave_32, lvO, g_t, b_d, b_c, b_v, Bool.and_true, Bool.and_self, Bool.true_and, if_neg c, r1, if_neg c2, if_neg c3', if_pos c4]
        | some q =>
          obtain ⟨a, w⟩ := q
          have ha : a < 1000 := by
            rcases bst_spec (tS t n 0) (mS n) T W with ⟨z1, _⟩ | ⟨a', w', z1, z2, _, z4, _⟩
            · rw [hb] at z1
              cases z1
            · rw [hb] at z1
              cases z1
              have := mS_le n w (by omega)
              omega
          have c4 : ¬ nI a < (0 : Int32) := nI_pos (by omega)
          by_cases c5 : mS n W < a
          · have hb1 : bst (tS t n 0) (mS n) T (W + 1) = some (mS n W, W) := by
              conv => lhs; unfold bst
              rw [hb]
              exact if_pos ⟨c3, c5⟩
            obtain ⟨L', t1, t2⟩ := take hb1
            refine ⟨L', ?_, t2⟩
            rw [← t1]
            have c5' : nI (mS n W) < nI a := (xLt (by omega) (by omega)).mpr c5
            simp only [fX12_leave_32, lvO, g_t, b_d, b_c, b_v, Bool.and_true, Bool.and_self, Bool.true_and, if_neg c, r1, if_neg c2, if_neg c3', if_neg c4, kO_187, g1, if_pos c5']
          · have hb1 : bst (tS t n 0) (mS n) T (W + 1) = bst (tS t n 0) (mS n) T W := by
              conv => lhs; unfold bst
              rw [hb]
              exact if_neg (fun z => c5 z.2)
            obtain ⟨L', t1, t2⟩ := skip hb1
            refine ⟨L', ?_, t2⟩
            rw [hb] at t1
            rw [← t1]
            have c5' : ¬ nI (mS n W) < nI a := fun z => c5 ((xLt (by omega) (by omega)).mp z)
            simp only [fX12_leave_32, fX12_leave_117, lvO, g_t, b_d, b_c, b_v, Bool.and_true, Bool.and_self, Bool.true_and, if_neg c, r1, if_neg c2, if_neg c3', if_neg c4, kO_187, g1, if_neg c5', o1]
      · have c3' : nI T < nI (tS t n 0 W) := (xLt (by omega) (by omega)).mpr (by omega)
        have hb1 : bst (tS t n 0) (mS n) T (W + 1) = bst (tS t n 0) (mS n) T W := by
          conv => lhs; unfold bst
          cases hb : bst (tS t n 0) (mS n) T W with
          | none => exact if_neg c3
          | some q => exact if_neg (fun z => c3 z.1)
        obtain ⟨L', t1, t2⟩ := skip hb1
        refine ⟨L', ?_, t2⟩
        rw [← t1]
        simp only [fX12_leave_32, fX12_leave_117, g_t, b_d, b_c, b_v, Bool.and_true, Bool.and_self, Bool.true_and, if_neg c, r1, if_neg c2, if_pos c3', o1]
    · rw [if_neg c1] at r1
      have c2 : (-1 : Int32) < 0 := by decide
      have c3 : ¬ tS t n 0 W ≤ T := by omega
      have hb1 : bst (tS t n 0) (mS n) T (W + 1) = bst (tS t n 0) (mS n) T W := by
        conv => lhs; unfold bst
        cases hb : bst (tS t n 0) (mS n) T W with
        | none => exact if_neg c3
        | some q => exact if_neg (fun z => c3 z.1)
      obtain ⟨L', t1, t2⟩ := skip hb1
      refine ⟨L', ?_, t2⟩
      rw [← t1]
      simp only [fX12_leave_32, fX12_leave_117, g_t, b_d, b_c, b_v, Bool.and_true, Bool.and_self, Bool.true_and, if_neg c, r1, if_pos c2, o1]
end
theorem m_load2 {u n : Nat} {S T : mT} (hu : u < 100) (hA : rA u n S) (hN : rNow S) (aA : agr (supA u) S T) (aN : agr supN S T) : ∃ L, fX12_load T = some L ∧ rLd u n S L ∧ (∀ a j, a ≠ 209 → a ≠ 210 → a ≠ 211 → ¬ (a = 187 ∧ (j = 43 ∨ j = 44)) → L.1 a j = T.1 a j) := by
  obtain ⟨L, l1, l2, l3, l4, l5⟩ := s_load T
  have hA' := rA_fr aA hA
  have e208 : ∀ j, j < 17 → T.1 208 j = S.1 35 j := fun j hj => by
    have : T.1 208 = S.1 208 := agr_row aN (by simp) 208 (Nat.le_refl _) (Nat.le_refl _)
    rw [this]
    exact hN.2 j hj
  have rw1 : ∀ c, (c, c, none) ∈ supA u → T.1 c = S.1 c := fun c m => agr_row aA m c (Nat.le_refl _) (Nat.le_refl _)
  refine ⟨L, l1, ⟨fun j hj => ?_, ?_, ?_, ?_, ?_, fun j hj => ?_, ?_⟩, l5⟩
  · rw [(l2 j hj).1, (l2 j hj).2.1, (l2 j hj).2.2, e208 _ (by omega), e208 _ (by omega), e208 _ (by omega)]
    exact ⟨rfl, rfl, rfl⟩
  · rw [l3]
    exact e208 15 (by omega)
  · rw [l5 _ _ (by omega) (by omega) (by omega) (by omega)]
    exact hA'.1.2.2.1
  · exact rLaws_fr (fun a j g => l5 a j (by omega) (by omega) (by omega) (by omega)) hA'.2.2.2.1
  · exact lawEq_of fun a j g => by
      rw [l5 a j (by omega) (by omega) (by omega) (by omega)]
      rcases g with rfl | rfl | rfl | rfl
      · rw [rw1 193 (by simp)]
      · rw [rw1 194 (by simp)]
      · rw [rw1 195 (by simp)]
      · rw [rw1 199 (by simp)]
  · obtain ⟨p, q, r, _, _, _, c1, c2, c3, c4, c5, c6⟩ := hA.1.2.2.2 j hj
    rw [l5 205 j (by omega) (by omega) (by omega) (by omega), l5 206 j (by omega) (by omega) (by omega) (by omega), l5 207 j (by omega) (by omega) (by omega) (by omega), rw1 205 (by simp), rw1 206 (by simp), rw1 207 (by simp), c1, c2, c3, c4, c5, c6]
    exact ⟨rfl, rfl, rfl⟩
  · rw [l4]
    exact e208 16 (by omega)
theorem tvN_0 (S : mT) (u i w : Nat) (v : Int32) : tvN (sI S 0 13 v) u i w = tvN S u i w := by
  have h : lawEq S (sI S 0 13 v) := lawEq_of fun a j g => by rw [sI_rd, if_neg (by omega)]
  unfold tvN stV txH
  rw [stP_eq h, txP_eq h]
  simp [sI_rd]
theorem zz_leave : zH_leave Rel := by
  intro k b S v hk h
  obtain ⟨n, hA, hN, hBx, hC, hT, hL⟩ := Rel_iff.mp h
  have hn := hA.1.1
  have n1 := hA.1.2.1
  have n2 := hA.1.2.2.1
  have sh : shU b = 3 ∨ shU b = 19 := by cases b; exact Or.inl rfl; exact Or.inr rfl
  have out : wB v 0 9999 = 0 → ∃ r S1 S2, fX11_leave b v S = some (r, S1) ∧ fX12_leave v S1 = some (r, S2) ∧ Rel (k + 6) b S2 := fun e => by
    have hf1 : fX11_leave b v S = some (-1, sI S 0 13 (nI 0)) := by
      simp only [fX11_leave, kO_0, kO_85, kO_u, fX11_leave_65, g_t, b_d, b_c, b_v, Bool.and_true, Bool.and_self, Bool.true_and, s_isWithin, e, if_true]
      rfl
    have hf2 : fX12_leave v (sI S 0 13 (nI 0)) = some (-1, sI (sI S 0 13 (nI 0)) 187 51 (nI 0)) := by
      simp only [fX12_leave, kO_187, g_t, b_d, b_c, b_v, Bool.and_true, Bool.and_self, Bool.true_and, s_isIn, e, if_true]
      rfl
    exact ⟨_, _, _, hf1, hf2, Rel_nl (agr_trans (av_agr (L := cond b LX11_leave_t LX11_leave_f) (by cases b; exact rX11_leave_f hf1; exact rX11_leave_t hf1) (by cases b <;> decide +kernel)) (av_agr (rX12_leave hf2) (by cases b <;> decide +kernel))) h ⟨0, by omega, by rw [sI_rd, if_neg (by omega), sI_rd, if_pos ⟨rfl, rfl⟩], by rw [sI_rd, if_pos ⟨rfl, rfl⟩], fun i hi => by omega⟩⟩
  rcases v_cases 0 9999 (by omega) (by omega) v with c | c | ⟨T, _, hT9, rfl⟩
  · exact out (wB_lo c)
  · exact out (wB_hi c)
  · have e : wB (nI T) 0 9999 = 1 := wB_in (lo := 0) (hi := 9999) (by omega) (by omega) (by omega)
    have e' : ¬ (1 : Int32) = 0 := by decide
    have aA0 : agr (supA (shU b)) S (sI S 0 13 (nI 0)) := av_agr ((Fr.rfl (inM 999999 [(0, 0, some 13)]) S).sI (by decide)) (by cases b <;> decide +kernel)
    have hA0 : rA (shU b) n (sI S 0 13 (nI 0)) := rA_fr aA0 hA
    obtain ⟨C, c1, c2, c3, c4⟩ := c_look1 hn hA0
    simp only [tvN_0] at c4
    have htv : ∀ i w, tvN S (shU b) i w ≤ 999 ∨ tvN S (shU b) i w = 1000000 := tv_le _ _
    have htv' : ∀ i w, tvN S (shU b) i w ≤ 1000000 := fun i w => by have := htv i w; omega
    obtain ⟨C2, w1, w2, w3, w4⟩ := c_weigh (t := tvN S (shU b)) htv' hn ⟨c3, c4⟩
    have e93 : ∀ x, x ≤ 35 → C2.1 93 x = nI (ch (tvN S (shU b)) n 0 x) := fun x hx => w3 0 x (by omega) hx
    have model : ∀ S1, agr (supNL (shU b)) S S1 → ∃ L', fX12_leave (nI T) S1 = some (lvO (bst (tS (tvN S (shU b)) n 0) (mS n) T (8 ^ n)), L') ∧ lvS n (bst (tS (tvN S (shU b)) n 0) (mS n) T (8 ^ n)) L' := fun S1 a1 => by
      have a2 : agr (supNL (shU b)) S1 (sI S1 187 51 (nI 0)) := av_agr ((Fr.rfl (inM 999999 [(187, 187, some 51)]) S1).sI (by decide)) (by cases b <;> decide +kernel)
      have a3 := agr_trans a1 a2
      obtain ⟨L, l1, l2, l3⟩ := m_load2 (shU_lt b) hA hN.1 (agr_app.mp a3).1 (agr_app.mp (agr_app.mp a3).2).1
      obtain ⟨L2, t1, t2, t3, t4⟩ := m_lt (shU_lt b) hn l1 l2
      have l51 : L2.1 187 51 = nI 0 := by rw [t4 _ _ (by omega) (by omega) (by omega) (by omega), l3 _ _ (by omega) (by omega) (by omega) (by omega), sI_rd, if_pos ⟨rfl, rfl⟩]
      obtain ⟨L', r1, r2⟩ := m_le32 (T := T) hn hT9 htv (8 ^ n) 0 mK L2 (by omega) (by have := mK_gt; have := p8 hn; omega) t2 t3 l51
      refine ⟨L', ?_, r2⟩
      rw [← r1]
      have t1' : fX12_layTaxes (sI S1 187 51 (0 : Int32)) = some L2 := t1
      unfold fX12_leave
      rw [kO_187, Bool.and_true, g_t, b_d, s_isIn, b_c, e, if_neg e', t1', b_v, m_rows hn t2, b_c]
      rfl
    have r13 : ∀ (D : mT), (∀ c j, (c < 93 ∨ 98 < c) → D.1 c j = C.1 c j) → D.1 0 13 = nI 0 := fun D g => by rw [g _ _ (by omega), c2 _ _ (by omega) (by omega) (by omega) (by omega), sI_rd, if_pos ⟨rfl, rfl⟩]
    have hlook : fX11_leave b (nI T) S = bndC (fX1_choose_6 mK (nI T) (nI 0) C2) fun x6 S5 => if x6 = (-1 : Int32) then fX11_leave_65 b x6 S5 else grd (kO (shU b) 8 && (kO 0 11 && (kO 85 1 && (kO 0 11 && true)))) <| bndV (fX11_lay 99 (S5.1 (shU b) 9) S5) fun S7 => fX11_leave_65 b x6 S7 := by
      have c1' : fX1_look (shU b) 35 (sI S 0 13 (0 : Int32)) = some C := c1
      conv => lhs; unfold fX11_leave
      rw [kO_0, Bool.and_true, g_t, b_d, s_isWithin, b_c, e, if_neg e', c1']
      simp only [g_t, b_d, b_c, b_v, Bool.and_true, Bool.and_self, Bool.true_and]
      unfold fX1_choose
      rw [w1, b_v]
      rfl
    rcases leave_eq (tvN S (shU b)) hn (by omega : T < 1000000) with ⟨q1, q2⟩ | ⟨a, q1, q2, q3, q4, q5⟩
    · have hf1 : fX11_leave b (nI T) S = some (-1, C2) := by
        rw [hlook, c_chN (by omega) (ch_le (tvN S (shU b)) n 0) e93 36 0 mK (by omega) (by have := mK_gt; omega) (fun a _ h2 => q1 a h2), b_c, if_pos rfl]
        rfl
      have a1 : agr (supNL (shU b)) S C2 := av_agr (L := cond b LX11_leave_t LX11_leave_f) (by cases b; exact rX11_leave_f hf1; exact rX11_leave_t hf1) (by cases b <;> decide +kernel)
      obtain ⟨L', hf2, hs⟩ := model C2 a1
      rw [q2] at hf2 hs
      have a9 : agr [(186, 186, none), (0, 0, some 13)] C2 L' := av_agr (rX12_leave hf2) (by decide +kernel)
      exact ⟨_, _, _, hf1, hf2, Rel_nl (agr_trans (av_agr (L := cond b LX11_leave_t LX11_leave_f) (by cases b; exact rX11_leave_f hf1; exact rX11_leave_t hf1) (by cases b <;> decide +kernel)) (av_agr (rX12_leave hf2) (by cases b <;> decide +kernel))) h ⟨0, by omega, by rw [a9.2.1]; exact r13 C2 w4, hs, fun i hi => by omega⟩⟩
    · have hex := (ch_iff (tvN S (shU b)) (by omega : T < 1000000) n 0 a T (by omega)).mp q2
      obtain ⟨C3, p1, p2, p3, p4⟩ := c_pick (t := tvN S (shU b)) htv' hn n 0 a T mK C2 (by omega) (by have := mK_gt; omega) q1 (by omega) hex w2 w3
      have p1' : fX1_pickFirst (nI T) (nI a) C2 = some C3 := p1
      have n9 : C3.1 (shU b) 9 = nI n := by rw [p4 _ _ (by omega), w4 _ _ (by omega), c2 _ _ (by omega) (by omega) (by omega) (by omega)]; exact hA0.1.2.1
      obtain ⟨C4, y1, y2, y3⟩ := s_lay (a1 := 99) s_99 (by decide +kernel) (by omega) hn C3
      have hf1 : fX11_leave b (nI T) S = some (nI a, C4) := by
        have c9 : ¬ nI a = (-1 : Int32) := fun z => by
          have hh : (nI a = nM) = False := nM_eq (by omega)
          exact (hh ▸ z : False)
        rw [hlook, c_chS (by omega) (ch_le (tvN S (shU b)) n 0) e93 q1 q2 a 0 mK (by omega) (by have := mK_gt; omega) (fun a' _ h2 => q3 a' h2), p1', b_v, b_c, if_neg c9, kO_u, kO_0, kO_85, n9, y1]
        rfl
      have a1 : agr (supNL (shU b)) S C4 := av_agr (L := cond b LX11_leave_t LX11_leave_f) (by cases b; exact rX11_leave_f hf1; exact rX11_leave_t hf1) (by cases b <;> decide +kernel)
      obtain ⟨L', hf2, hs⟩ := model C4 a1
      rw [q5] at hf2 hs
      have a9 : agr [(186, 186, none), (0, 0, some 13)] C4 L' := av_agr (rX12_leave hf2) (by decide +kernel)
      have e186 : L'.1 186 = C4.1 186 := a9.1 186 (Nat.le_refl _) (Nat.le_refl _)
      refine ⟨_, _, _, hf1, hf2, Rel_nl (agr_trans (av_agr (L := cond b LX11_leave_t LX11_leave_f) (by cases b; exact rX11_leave_f hf1; exact rX11_leave_t hf1) (by cases b <;> decide +kernel)) (av_agr (rX12_leave hf2) (by cases b <;> decide +kernel))) h ⟨n, by omega, by rw [a9.2.1]; exact y2, hs.1, fun i hi => ?_⟩⟩
      rw [e186, y3 i hi, hs.2 i hi]
      have := p2 i hi
      rw [Nat.zero_add] at this
      exact this
