/-! THE TABLE OF TAXES by how many are hidden. -/
theorem yLe {a b : Nat} (ha : a < 2000000000) (hb : b < 2000000000) : nI a ≤ nI b ↔ a ≤ b := nI_leI (by omega) (by omega)
theorem yLt {a b : Nat} (ha : a < 2000000000) (hb : b < 2000000000) : nI a < nI b ↔ a < b := nI_ltI (by omega) (by omega)
def stV (S : mT) (u i v : Nat) : Int32 := stP S (S.1 35 i) (nI v) (S.1 (u + 4) i) (S.1 (u + 5) i) (S.1 35 15)
def tvN (S : mT) (u i v : Nat) : Nat := if S.1 35 i < nI v then 1000000 else if S.1 (u + 4) i ≤ stV S u i v then mIx (txH S u i (stV S u i v)) else 1000000
theorem tv_cases (S : mT) (u i v : Nat) : (tvN S u i v = 1000000 ∧ (S.1 35 i < nI v ∨ ¬ S.1 (u + 4) i ≤ stV S u i v)) ∨ (tvN S u i v ≤ 999 ∧ ¬ S.1 35 i < nI v ∧ S.1 (u + 4) i ≤ stV S u i v ∧ txH S u i (stV S u i v) = nI (tvN S u i v)) := by
  unfold tvN
  by_cases c : S.1 35 i < nI v
  · exact Or.inl ⟨if_pos c, Or.inl c⟩
  · rw [if_neg c]
    by_cases c2 : S.1 (u + 4) i ≤ stV S u i v
    · rw [if_pos c2]
      obtain ⟨w, hw, e⟩ := txP_n S (stV S u i v) (S.1 (u + 4) i) (S.1 35 15)
      have e' : txH S u i (stV S u i v) = nI w := e
      rw [e', xIx (by omega)]
      exact Or.inr ⟨hw, c, c2, rfl⟩
    · rw [if_neg c2]
      exact Or.inl ⟨rfl, Or.inr c2⟩
def cFr2 (b : Bool) (C C' : mT) : Prop := ∀ a j, a ≠ shU b + 15 → a ≠ shU b + 8 → a ≠ shU b + 11 → (a < 85 ∨ 99 < a) → C'.1 a j = C.1 a j
section
variable {b : Bool} {n : Nat} {S C : mT}
theorem cFr2.r (b : Bool) (C : mT) : cFr2 b C C := fun _ _ _ _ _ _ => rfl
theorem cFr2.tr {C D E : mT} (h : cFr2 b C D) (h2 : cFr2 b D E) : cFr2 b C E := fun a j g1 g2 g3 g4 => (h2 a j g1 g2 g3 g4).trans (h a j g1 g2 g3 g4)
theorem cFr2.sI {C D : mT} {c k : Nat} {v : Int32} (h : cFr2 b C D) (hc : 85 ≤ c ∧ c ≤ 99) : cFr2 b C (sI D c k v) := fun a j g1 g2 g3 g4 => by rw [sI_rd, if_neg (by omega)]; exact h a j g1 g2 g3 g4
theorem cSt_fr2 {C C' : mT} (f : cFr2 b C C') (h : cSt b n S C) : cSt b n S C' := by
  have sh : shU b = 3 ∨ shU b = 19 := by cases b; exact Or.inl rfl; exact Or.inr rfl
  obtain ⟨h1, h2, h3, h4⟩ := h
  refine ⟨rLaws_fr (fun a j g => f a j (by omega) (by omega) (by omega) (by omega)) h1, h2.trans (lawEq_of fun a j g => f a j (by omega) (by omega) (by omega) (by omega)), fun j => ?_, ?_⟩
  · rw [f _ _ (by omega) (by omega) (by omega) (by omega), f _ _ (by omega) (by omega) (by omega) (by omega)]
    exact h3 j
  · rw [f _ _ (by omega) (by omega) (by omega) (by omega)]
    exact h4
theorem cFr2.at35 {C C' : mT} (f : cFr2 b C C') (j : Nat) : C'.1 35 j = C.1 35 j := f 35 j (by cases b <;> decide) (by cases b <;> decide) (by cases b <;> decide) (by omega)
theorem c_taxH (hS : cSt b n S C) (h35 : ∀ j, C.1 35 j = S.1 35 j) {i v : Nat} (hi : i < 5) (hc : ¬ S.1 35 i < nI v) : ∃ C', fX1_taxHiding (shU b) 35 (nI i) (nI v) C = some (nI (tvN S (shU b) i v), C') ∧ cEq (shU b) C C' := by
  have sh : shU b = 3 ∨ shU b = 19 := by cases b; exact Or.inl rfl; exact Or.inr rfl
  obtain ⟨C1, s1, s2⟩ := c_stonesH hS.1 kI_35 (by cases b <;> decide) hi (nI v)
  have es : stP C (C.1 35 i) (nI v) (C.1 (shU b + 4) i) (C.1 (shU b + 5) i) (C.1 35 15) = stV S (shU b) i v := by
    rw [stP_eq hS.2.1, h35, h35, (hS.2.2.1 i).1, (hS.2.2.1 i).2]
    rfl
  rw [es] at s1
  have f0 : cEq (shU b) C C1 := fun a j g1 g2 _ => s2 a j g1 g2
  have f1 : cFr2 b C C1 := fun a j g1 g2 _ _ => s2 a j g1 g2
  have hS1 := cSt_fr2 f1 hS
  have e4 : C1.1 (shU b + 4) i = S.1 (shU b + 4) i := (hS1.2.2.1 i).1
  have e15 : C1.1 35 15 = S.1 35 15 := by rw [f1.at35, h35]
  rcases tv_cases S (shU b) i v with ⟨et, hq⟩ | ⟨ht, _, c2, et⟩
  · have c2 : ¬ S.1 (shU b + 4) i ≤ stV S (shU b) i v := by
      rcases hq with q | q
      · exact absurd q hc
      · exact q
    refine ⟨C1, ?_, f0⟩
    rw [et]
    simp (disch := omega) only [fX1_taxHiding, fX1_taxHiding_36, kO_u, kI_u4, g_t, b_d, b_c, b_v, Bool.and_true, Bool.and_self, Bool.true_and, s1, xIx, xIn, e4, if_neg c2]
    rfl
  · obtain ⟨C2, t1, t2⟩ := c_tax hS1.1 hi (stV S (shU b) i v) (C1.1 35 15)
    have et2 : txP C1 (stV S (shU b) i v) (C1.1 (shU b + 4) i) (C1.1 35 15) = nI (tvN S (shU b) i v) := by
      rw [txP_eq hS1.2.1, e4, e15]
      exact et
    rw [et2] at t1
    refine ⟨C2, ?_, f0.tr (fun a j g1 _ g3 => t2 a j g1 g3)⟩
    simp (disch := omega) only [fX1_taxHiding, fX1_taxHiding_36, kO_u, kI_u4, kI_35, g_t, b_d, b_c, b_v, Bool.and_true, Bool.and_self, Bool.true_and, s1, xIx, xIn, e4, if_pos c2, i15, j15, t1]
theorem c_lk21 {i : Nat} (hi : i < 5) (rc : Int32 → mT → Option mT) : ∀ (m v k : Nat) (C : mT), v + m = 8 → m < k → cSt b n S C → (∀ j, C.1 35 j = S.1 35 j) → (∀ w, w < v → C.1 (87 + i) w = nI (tvN S (shU b) i w)) → ∃ C', fX1_look_21 (shU b) 35 rc k (nI i) (nI v) C = rc (nI (i + 1)) C' ∧ cFr2 b C C' ∧ (∀ w, w < 8 → C'.1 (87 + i) w = nI (tvN S (shU b) i w)) ∧ ∀ a j, 85 ≤ a → a ≤ 99 → a ≠ 87 + i → C'.1 a j = C.1 a j
  | 0, v, k, C, hv, hk, hS, h35, e => by
    obtain ⟨k', rfl⟩ := up1 hk
    have hv : v = 8 := by omega
    subst hv
    have c : (7 : Int32) < nI 8 := by decide
    have o1 : nI i + (1 : Int32) = nI (i + 1) := nI_add i 1
    exact ⟨C, by simp only [fX1_look_21, if_pos c, g_t, b_d, b_c, b_v, Bool.and_true, Bool.and_self, Bool.true_and, o1], cFr2.r b C, e, fun _ _ _ _ _ => rfl⟩
  | m + 1, v, k, C, hv, hk, hS, h35, e => by
    obtain ⟨k', rfl⟩ := up1 hk
    have sh : shU b = 3 ∨ shU b = 19 := by cases b; exact Or.inl rfl; exact Or.inr rfl
    have c : ¬ (7 : Int32) < nI v := fun z => by have := (xLt (a := 7) (by omega) (by omega)).mp z; omega
    have o1 : nI v + (1 : Int32) = nI (v + 1) := nI_add v 1
    have z0 : (0 : Int32) + nI i = nI i := Int32.zero_add _
    have hgo : ∀ C1, cFr2 b C C1 → (∀ a j, 85 ≤ a → a ≤ 99 → C1.1 a j = C.1 a j) → ∃ C', fX1_look_21 (shU b) 35 rc k' (nI i) (nI (v + 1)) (sI C1 (87 + i) v (nI (tvN S (shU b) i v))) = rc (nI (i + 1)) C' ∧ cFr2 b C C' ∧ (∀ w, w < 8 → C'.1 (87 + i) w = nI (tvN S (shU b) i w)) ∧ ∀ a j, 85 ≤ a → a ≤ 99 → a ≠ 87 + i → C'.1 a j = C.1 a j := fun C1 f1 g1 => by
      have f2 : cFr2 b C (sI C1 (87 + i) v (nI (tvN S (shU b) i v))) := f1.sI (by omega)
      obtain ⟨C', r1, r2, r3, r4⟩ := c_lk21 hi rc m (v + 1) k' (sI C1 (87 + i) v (nI (tvN S (shU b) i v))) (by omega) (by omega) (cSt_fr2 f2 hS) (fun j => by rw [f2.at35, h35]) (fun w hw => by
        rw [sI_rd]
        by_cases q : w = v
        · rw [if_pos ⟨rfl, q⟩, q]
        · rw [if_neg (by omega), g1 _ _ (by omega) (by omega)]
          exact e w (by omega))
      exact ⟨C', r1, f2.tr r2, r3, fun a j q1 q2 q3 => by rw [r4 a j q1 q2 q3, sI_rd, if_neg (by omega), g1 a j q1 q2]⟩
    by_cases c1 : S.1 35 i < nI v
    · obtain ⟨C', r1, r2, r3, r4⟩ := hgo C (cFr2.r b C) (fun _ _ _ _ => rfl)
      refine ⟨C', ?_, r2, r3, r4⟩
      have et : tvN S (shU b) i v = 1000000 := if_pos c1
      have c1' : C.1 35 i < nI v := by rw [h35]; exact c1
      rw [← r1, et]
      simp (disch := omega) only [fX1_look_21, fX1_look_59, if_neg c, kO_85, kR_86, kI_35, g_t, b_d, b_c, b_v, Bool.and_true, Bool.and_self, Bool.true_and, z0, xIx, xIn, if_pos c1', rw_86, ki_86, o1]
      rfl
    · obtain ⟨C1, t1, t2⟩ := c_taxH (v := v) hS h35 hi c1
      have g1 : ∀ a j, 85 ≤ a → a ≤ 99 → C1.1 a j = C.1 a j := fun a j q1 q2 => t2 a j (by omega) (by omega) (by omega)
      obtain ⟨C', r1, r2, r3, r4⟩ := hgo C1 (fun a j q1 q2 q3 _ => t2 a j q1 q2 q3) g1
      refine ⟨C', ?_, r2, r3, r4⟩
      have c1' : ¬ C.1 35 i < nI v := by rw [h35]; exact c1
      rw [← r1]
      simp (disch := omega) only [fX1_look_21, fX1_look_59, if_neg c, kO_85, kR_86, kI_35, g_t, b_d, b_c, b_v, Bool.and_true, Bool.and_self, Bool.true_and, z0, xIx, xIn, if_neg c1', t1, rw_86, ki_86, o1]
theorem c_lk10 : ∀ (m i k : Nat) (C : mT), n ≤ 5 → i + m = n → m < k → cSt b n S C → (∀ j, C.1 35 j = S.1 35 j) → C.1 85 3 = nI n → (∀ i' w, i' < i → w < 8 → C.1 (87 + i') w = nI (tvN S (shU b) i' w)) → ∃ C', fX1_look_10 (shU b) 35 k (nI i) C = some C' ∧ cFr2 b C C' ∧ C'.1 85 3 = nI n ∧ (∀ i' w, i' < n → w < 8 → C'.1 (87 + i') w = nI (tvN S (shU b) i' w))
  | 0, i, k, C, hn, hi, hk, hS, h35, h85, e => by
    obtain ⟨k', rfl⟩ := up1 hk
    have hi : i = n := by omega
    subst hi
    have c : nI i ≤ nI i := Int32.le_refl _
    exact ⟨C, by simp only [fX1_look_10, kO_85, g_t, b_d, b_c, b_v, Bool.and_true, Bool.and_self, Bool.true_and, h85, if_pos c], cFr2.r b C, h85, e⟩
  | m + 1, i, k, C, hn, hi, hk, hS, h35, h85, e => by
    obtain ⟨k', rfl⟩ := up1 hk
    have c : ¬ nI n ≤ nI i := fun z => by have := (xLe (by omega) (by omega)).mp z; omega
    obtain ⟨C1, r1, r2, r3, r4⟩ := c_lk21 (b := b) (n := n) (S := S) (i := i) (by omega) (fX1_look_10 (shU b) 35 k') 8 0 mK C (by omega) (by have := mK_gt; omega) hS h35 (fun w hw => by omega)
    obtain ⟨C', t1, t2, t3, t4⟩ := c_lk10 m (i + 1) k' C1 hn (by omega) (by omega) (cSt_fr2 r2 hS) (fun j => by rw [r2.at35, h35]) (by rw [r4 _ _ (by omega) (by omega) (by omega)]; exact h85) (fun i' w h1 h2 => by
      by_cases q : i' = i
      · rw [q]
        exact r3 w h2
      · rw [r4 _ _ (by omega) (by omega) (by omega)]
        exact e i' w (by omega) h2)
    refine ⟨C', ?_, r2.tr t2, t3, t4⟩
    rw [← t1, ← r1]
    conv => lhs; unfold fX1_look_10
    rw [kO_85, h85, if_neg c, Bool.and_true, g_t]
    rfl
theorem c_look1 (hn : n ≤ 5) (hA : rA (shU b) n S) : ∃ C', fX1_look (shU b) 35 S = some C' ∧ cFr2 b S C' ∧ C'.1 85 3 = nI n ∧ (∀ i' w, i' < n → w < 8 → C'.1 (87 + i') w = nI (tvN S (shU b) i' w)) := by
  have f0 : cFr2 b S (sI S 85 3 (nI n)) := (cFr2.r b S).sI (by omega)
  obtain ⟨C', r1, r2, r3, r4⟩ := c_lk10 (b := b) (S := S) n 0 mK (sI S 85 3 (nI n)) hn (by omega) (by have := mK_gt; omega) (cSt_fr2 f0 (cSt_of hA)) (fun j => f0.at35 j) (by rw [sI_rd, if_pos ⟨rfl, rfl⟩]) (fun _ _ h _ => by omega)
  refine ⟨C', ?_, f0.tr r2, r3, r4⟩
  rw [← r1]
  unfold fX1_look
  rw [kO_85, kO_u, hA.1.2.1]
  simp only [g_t, b_d, b_c, b_v, Bool.and_true, Bool.and_self, Bool.true_and]
  rfl
end
/-! the reference's table -/
def mtv (t : Nat) : Int32 := if t = 1000000 then -nI 1 else nI t
def mTx (u n : Nat) (S L : mT) : Prop := mLs u n S L ∧ (∀ j, j < 5 → L.1 209 j = S.1 35 j) ∧ L.1 187 43 = S.1 35 15
section
variable {u n : Nat} {S L : mT}
theorem mTx_fr {L' : mT} (hu : u < 100) (f : ∀ a j, a ≠ 200 → a ≠ 197 → a ≠ 210 → a ≠ 213 → L'.1 a j = L.1 a j) (h : mTx u n S L) : mTx u n S L' := by
  obtain ⟨⟨h1, h2, h3, h4⟩, h5, h6⟩ := h
  refine ⟨⟨rLaws_fr (fun a j g => f a j (by omega) (by omega) (by omega) (by omega)) h1, h2.trans (lawEq_of fun a j g => f a j (by omega) (by omega) (by omega) (by omega)), fun j hj => ?_, ?_⟩, fun j hj => ?_, ?_⟩
  · rw [f _ _ (by omega) (by omega) (by omega) (by omega), f _ _ (by omega) (by omega) (by omega) (by omega)]
    exact h3 j hj
  · rw [f _ _ (by omega) (by omega) (by omega) (by omega)]
    exact h4
  · rw [f _ _ (by omega) (by omega) (by omega) (by omega)]
    exact h5 j hj
  · rw [f _ _ (by omega) (by omega) (by omega) (by omega)]
    exact h6
theorem m_stv (hu : u < 100) (h : mTx u n S L) {i v : Nat} (hi : i < n) (hn : n ≤ 5) (e : L.1 210 i = nI v) : ∃ L', fX12_stonesOf (nI i) L = some (stV S u i v, L') ∧ ∀ a j, a ≠ 200 → a ≠ 197 → L'.1 a j = L.1 a j := by
  obtain ⟨L', h1, h2⟩ := m_stones (h := i) h.1.1 hu (by omega)
  refine ⟨L', ?_, h2⟩
  rw [h1, stP_eq h.1.2.1, h.2.1 i (by omega), e, h.2.2, (h.1.2.2.1 i hi).1, (h.1.2.2.1 i hi).2]
  rfl
theorem m_txv (hu : u < 100) (h : mTx u n S L) {i : Nat} (hi : i < n) (hn : n ≤ 5) (st : Int32) : ∃ L', fX12_taxOf (nI i) st L = some (txH S u i st, L') ∧ ∀ a j, a ≠ 200 → a ≠ 197 → L'.1 a j = L.1 a j := by
  obtain ⟨L', h1, h2⟩ := m_tax (h := i) h.1.1 hu (by omega) st
  refine ⟨L', ?_, h2⟩
  rw [h1, txP_eq h.1.2.1, h.2.2, (h.1.2.2.1 i hi).1]
  rfl
theorem m_lt16 (hu : u < 100) (hn : n ≤ 5) {i : Nat} (hi : i < n) (rc : Int32 → mT → Option mT) : ∀ (m v k : Nat) (L : mT), v + m = 8 → m < k → mTx u n S L → (∀ w, w < v → L.1 213 (8 * i + w) = mtv (tvN S u i w)) → ∃ L', fX12_layTaxes_16 rc k (nI i) (nI v) L = rc (nI (i + 1)) L' ∧ (∀ a j, a ≠ 200 → a ≠ 197 → a ≠ 210 → a ≠ 213 → L'.1 a j = L.1 a j) ∧ (∀ w, w < 8 → L'.1 213 (8 * i + w) = mtv (tvN S u i w)) ∧ ∀ j, j < 8 * i → L'.1 213 j = L.1 213 j
  | 0, v, k, L, hv, hk, h, e => by
    obtain ⟨k', rfl⟩ := up1 hk
    have hv : v = 8 := by omega
    subst hv
    have c : (7 : Int32) < nI 8 := by decide
    have o1 : nI i + (1 : Int32) = nI (i + 1) := nI_add i 1
    exact ⟨L, by simp only [fX12_layTaxes_16, if_pos c, g_t, b_d, b_c, b_v, Bool.and_true, Bool.and_self, Bool.true_and, o1], fun _ _ _ _ _ _ => rfl, e, fun _ _ => rfl⟩
  | m + 1, v, k, L, hv, hk, h, e => by
    obtain ⟨k', rfl⟩ := up1 hk
    have c : ¬ nI 7 < nI v := fun z => by have := (xLt (by omega) (by omega)).mp z; omega
    have f0 : ∀ a j, a ≠ 200 → a ≠ 197 → a ≠ 210 → a ≠ 213 → (sI L 210 i (nI v)).1 a j = L.1 a j := fun a j _ _ g _ => by rw [sI_rd, if_neg (by omega)]
    have h0 := mTx_fr hu f0 h
    have e0 : (sI L 210 i (nI v)).1 210 i = nI v := by rw [sI_rd, if_pos ⟨rfl, rfl⟩]
    have e9 : (sI L 210 i (nI v)).1 209 i = S.1 35 i := h0.2.1 i (by omega)
    have o1 : nI v + nI 1 = nI (v + 1) := nI_add v 1
    have o8 : nI 8 * nI i + nI v = nI (8 * i + v) := by rw [xM, nI_add]
    have hgo : ∀ L1, (∀ a j, a ≠ 200 → a ≠ 197 → a ≠ 210 → L1.1 a j = L.1 a j) → ∃ L', fX12_layTaxes_16 rc k' (nI i) (nI (v + 1)) (sI L1 213 (8 * i + v) (mtv (tvN S u i v))) = rc (nI (i + 1)) L' ∧ (∀ a j, a ≠ 200 → a ≠ 197 → a ≠ 210 → a ≠ 213 → L'.1 a j = L.1 a j) ∧ (∀ w, w < 8 → L'.1 213 (8 * i + w) = mtv (tvN S u i w)) ∧ ∀ j, j < 8 * i → L'.1 213 j = L.1 213 j := fun L1 g1 => by
      have f2 : ∀ a j, a ≠ 200 → a ≠ 197 → a ≠ 210 → a ≠ 213 → (sI L1 213 (8 * i + v) (mtv (tvN S u i v))).1 a j = L.1 a j := fun a j q1 q2 q3 q4 => by rw [sI_rd, if_neg (by omega), g1 a j q1 q2 q3]
      obtain ⟨L', r1, r2, r3, r4⟩ := m_lt16 hu hn hi rc m (v + 1) k' (sI L1 213 (8 * i + v) (mtv (tvN S u i v))) (by omega) (by omega) (mTx_fr hu f2 h) (fun w hw => by
        rw [sI_rd]
        by_cases q : w = v
        · rw [if_pos ⟨rfl, by omega⟩, q]
        · rw [if_neg (by omega), g1 _ _ (by omega) (by omega) (by omega)]
          exact e w (by omega))
      exact ⟨L', r1, fun a j q1 q2 q3 q4 => by rw [r2 a j q1 q2 q3 q4, f2 a j q1 q2 q3 q4], r3, fun j hj => by rw [r4 j hj, sI_rd, if_neg (by omega), g1 _ _ (by omega) (by omega) (by omega)]⟩
    by_cases c1 : S.1 35 i < nI v
    · obtain ⟨L', r1, r2, r3, r4⟩ := hgo (sI L 210 i (nI v)) (fun a j _ _ g => by rw [sI_rd, if_neg (by omega)])
      refine ⟨L', ?_, r2, r3, r4⟩
      have et : mtv (tvN S u i v) = -nI 1 := by
        have ht0 : tvN S u i v = 1000000 := if_pos c1
        unfold mtv
        rw [if_pos ht0]
      rw [← r1, et]
      simp (disch := omega) only [fX12_layTaxes_16, fX12_layTaxes_57, fX12_layTaxes_71, g_t, b_d, b_c, b_v, Bool.and_true, Bool.and_self, Bool.true_and, xL, if_neg c, kO_187, kI_209, kI_210, kI_213, xIx, xIn, e9, if_pos c1, o8, o1]
    · obtain ⟨L1, s1, s2⟩ := m_stv hu h0 hi hn e0
      have h1 := mTx_fr hu (fun a j q1 q2 _ _ => s2 a j q1 q2) h0
      have e6 : L1.1 206 i = S.1 (u + 4) i := (h1.1.2.2.1 i hi).1
      have e1 : L1.1 210 i = nI v := by rw [s2 _ _ (by omega) (by omega)]; exact e0
      rcases tv_cases S u i v with ⟨et, hq⟩ | ⟨ht, _, c2, et⟩
      · have c2 : ¬ S.1 (u + 4) i ≤ stV S u i v := by
          rcases hq with q | q
          · exact absurd q c1
          · exact q
        obtain ⟨L', r1, r2, r3, r4⟩ := hgo L1 (fun a j q1 q2 q3 => by rw [s2 a j q1 q2, sI_rd, if_neg (by omega)])
        refine ⟨L', ?_, r2, r3, r4⟩
        have et' : mtv (tvN S u i v) = -nI 1 := if_pos et
        have c3 : ¬ nI 1 = nI 0 := by decide
        rw [← r1, et']
        simp (disch := omega) only [fX12_layTaxes_16, fX12_layTaxes_57, fX12_layTaxes_71, fX12_shows, fX12_shows_19, g_t, b_d, b_c, b_v, Bool.and_true, Bool.and_self, Bool.true_and, xL, if_neg c, kO_187, kI_206, kI_209, kI_210, kI_213, xIx, xIn, e9, if_neg c1, s1, e6, if_neg c2, mFit1, if_neg c3, o8, o1]
      · obtain ⟨L2, t1, t2⟩ := m_stv hu h1 hi hn e1
        have h2 := mTx_fr hu (fun a j q1 q2 _ _ => t2 a j q1 q2) h1
        obtain ⟨L3, w1, w2⟩ := m_txv hu h2 hi hn (stV S u i v)
        rw [et] at w1
        obtain ⟨L', r1, r2, r3, r4⟩ := hgo L3 (fun a j q1 q2 q3 => by rw [w2 a j q1 q2, t2 a j q1 q2, s2 a j q1 q2, sI_rd, if_neg (by omega)])
        refine ⟨L', ?_, r2, r3, r4⟩
        have et' : mtv (tvN S u i v) = nI (tvN S u i v) := if_neg (by omega)
        rw [← r1, et']
        simp (disch := omega) only [fX12_layTaxes_16, fX12_layTaxes_71, fX12_shows, fX12_shows_19, g_t, b_d, b_c, b_v, Bool.and_true, Bool.and_self, Bool.true_and, xL, if_neg c, kO_187, kI_206, kI_209, kI_210, kI_213, xIx, xIn, e9, if_neg c1, s1, e6, if_pos c2, mFit0, if_true, t1, w1, o8, o1]
theorem m_lt6 (hu : u < 100) (hn : n ≤ 5) : ∀ (m i k : Nat) (L : mT), i + m = n → m < k → mTx u n S L → (∀ i' w, i' < i → w < 8 → L.1 213 (8 * i' + w) = mtv (tvN S u i' w)) → ∃ L', fX12_layTaxes_6 k (nI i) L = some L' ∧ (∀ a j, a ≠ 200 → a ≠ 197 → a ≠ 210 → a ≠ 213 → L'.1 a j = L.1 a j) ∧ (∀ i' w, i' < n → w < 8 → L'.1 213 (8 * i' + w) = mtv (tvN S u i' w))
  | 0, i, k, L, hi, hk, h, e => by
    obtain ⟨k', rfl⟩ := up1 hk
    have hi : i = n := by omega
    subst hi
    have c : nI i ≤ nI i := Int32.le_refl _
    exact ⟨L, by simp only [fX12_layTaxes_6, kO_187, g_t, b_d, b_c, b_v, Bool.and_true, Bool.and_self, Bool.true_and, h.1.2.2.2, if_pos c], fun _ _ _ _ _ _ => rfl, e⟩
  | m + 1, i, k, L, hi, hk, h, e => by
    obtain ⟨k', rfl⟩ := up1 hk
    have c : ¬ nI n ≤ nI i := fun z => by have := (xLe (by omega) (by omega)).mp z; omega
    obtain ⟨L1, r1, r2, r3, r4⟩ := m_lt16 (S := S) hu hn (i := i) (by omega) (fX12_layTaxes_6 k') 8 0 mK L (by omega) (by have := mK_gt; omega) h (fun w hw => by omega)
    obtain ⟨L', t1, t2, t3⟩ := m_lt6 hu hn m (i + 1) k' L1 (by omega) (by omega) (mTx_fr hu r2 h) (fun i' w h1 h2 => by
      by_cases q : i' = i
      · rw [q]
        exact r3 w h2
      · rw [r4 _ (by omega)]
        exact e i' w (by omega) h2)
    refine ⟨L', ?_, fun a j q1 q2 q3 q4 => by rw [t2 a j q1 q2 q3 q4, r2 a j q1 q2 q3 q4], t3⟩
    rw [← t1, ← r1]
    conv => lhs; unfold fX12_layTaxes_6
    rw [kO_187, h.1.2.2.2, if_neg c, Bool.and_true, g_t]
    rfl
theorem m_lt {T : mT} (hu : u < 100) (hn : n ≤ 5) (hl : fX12_load T = some L) (h : rLd u n S L) : ∃ L', fX12_layTaxes T = some L' ∧ L'.1 187 37 = nI n ∧ (∀ i' w, i' < n → w < 8 → L'.1 213 (8 * i' + w) = mtv (tvN S u i' w)) ∧ (∀ a j, a ≠ 200 → a ≠ 197 → a ≠ 210 → a ≠ 213 → L'.1 a j = L.1 a j) := by
  have h0 : mTx u n S L := ⟨(rLd_rM h).1, fun j hj => (h.1 j hj).1, h.2.1⟩
  obtain ⟨L', r1, r2, r3⟩ := m_lt6 hu hn n 0 mK L (by omega) (by have := mK_gt; omega) h0 (fun _ _ h _ => by omega)
  refine ⟨L', ?_, by rw [r2 _ _ (by omega) (by omega) (by omega) (by omega)]; exact h.2.2.1, r3, r2⟩
  rw [← r1]
  unfold fX12_layTaxes
  rw [hl, b_v]
  rfl
end
