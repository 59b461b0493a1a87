/-! SUMS over the houses: sum, falses, missed, doubled, draft; marks. -/
def sm (f : Nat → Int32) : Nat → Int32
  | 0 => 0
  | i + 1 => sm f i + f i
section
variable {b : Bool} {n : Nat} {S C : mT}
theorem s_sumOf4 (hn : n ≤ 5) (n1 : S.1 (shU b) 9 = nI n) (hF : rLaws (shU b) S) {w : Nat} (hw : w < 10) : ∀ (m i k : Nat) (C : mT), i + m = n → m < k → cEq (shU b) S C → ∃ C', fX11_sumOf_4 b k (nI w) (sm (fun i => hv S (shU b) i w) i) (nI i) C = some (sm (fun i => hv S (shU b) i w) n, C') ∧ cEq (shU b) S C'
  | 0, i, k, C, hi, hk, h => by
    obtain ⟨k', rfl⟩ := up1 hk
    have hi : i = n := by omega
    subst hi
    have n2 : C.1 (shU b) 9 = nI i := (h.u0 9).trans n1
    exact ⟨C, by simp (disch := omega) [fX11_sumOf_4, kO_0, kO_u, g_t, b_d, b_c, b_v, Bool.and_true, Bool.and_self, Bool.true_and, n2, xLe], h⟩
  | m + 1, i, k, C, hi, hk, h => by
    obtain ⟨k', rfl⟩ := up1 hk
    have n2 : C.1 (shU b) 9 = nI n := (h.u0 9).trans n1
    obtain ⟨C1, e1, e2⟩ := c_house hn n1 hF h (i := i) (by omega) hw
    obtain ⟨C2, e3, e4⟩ := s_sumOf4 hn n1 hF hw m (i + 1) k' C1 (by omega) (by omega) e2
    refine ⟨C2, ?_, e4⟩
    rw [← e3]
    have c : ¬ n ≤ i := by omega
    simp (disch := omega) [fX11_sumOf_4, kO_0, kO_u, g_t, b_d, b_c, b_v, Bool.and_true, Bool.and_self, Bool.true_and, xL, xN1, nI_add, xM, xS, xP, xIx, xIn, xLe, xLt, xEq, xDv, n2, c, e1, sm]
theorem s_sumOf (hn : n ≤ 5) (n1 : S.1 (shU b) 9 = nI n) (hF : rLaws (shU b) S) (h : cEq (shU b) S C) {w : Nat} (hw : w < 10) : ∃ C', fX11_sumOf b (nI w) C = some (sm (fun i => hv S (shU b) i w) n, C') ∧ cEq (shU b) S C' :=
  s_sumOf4 hn n1 hF hw n 0 mK C (by omega) (by have := mK_gt; omega) h
def wS (w : Nat) : Nat := if w = 0 then 1 else if w = 1 then 2 else if w = 2 then 3 else if w = 3 then 6 else if w = 4 then 8 else 9
theorem wS_lt (w : Nat) : wS w < 10 := by
  unfold wS
  repeat' split
  all_goals omega
theorem c_sum (hn : n ≤ 5) (n1 : S.1 (shU b) 9 = nI n) (hF : rLaws (shU b) S) (h : cEq (shU b) S C) {w : Nat} (hw : w < 6) : ∃ C', fX11_sum b (nI w) C = some (sm (fun i => hv S (shU b) i (wS w)) n, C') ∧ cEq (shU b) S C' := by
  obtain ⟨C', h1, h2⟩ := s_sumOf hn n1 hF h (wS_lt w)
  refine ⟨C', ?_, h2⟩
  rcases (by omega : w = 0 ∨ w = 1 ∨ w = 2 ∨ w = 3 ∨ w = 4 ∨ w = 5) with rfl | rfl | rfl | rfl | rfl | rfl
  · simp (disch := omega) [fX11_sum, g_t, b_d, b_c, b_v, Bool.and_true, Bool.and_self, Bool.true_and, xL, xN1, nI_add, xM, xS, xP, xIx, xIn, xLe, xLt, xEq, xDv]
    simp only [wS] at h1 ⊢
    simp at h1 ⊢
    rw [h1]
    rfl
  · simp (disch := omega) [fX11_sum, g_t, b_d, b_c, b_v, Bool.and_true, Bool.and_self, Bool.true_and, xL, xN1, nI_add, xM, xS, xP, xIx, xIn, xLe, xLt, xEq, xDv]
    simp only [wS] at h1 ⊢
    simp at h1 ⊢
    rw [h1]
    rfl
  · simp (disch := omega) [fX11_sum, g_t, b_d, b_c, b_v, Bool.and_true, Bool.and_self, Bool.true_and, xL, xN1, nI_add, xM, xS, xP, xIx, xIn, xLe, xLt, xEq, xDv]
    simp only [wS] at h1 ⊢
    simp at h1 ⊢
    rw [h1]
    rfl
  · simp (disch := omega) [fX11_sum, g_t, b_d, b_c, b_v, Bool.and_true, Bool.and_self, Bool.true_and, xL, xN1, nI_add, xM, xS, xP, xIx, xIn, xLe, xLt, xEq, xDv]
    simp only [wS] at h1 ⊢
    simp at h1 ⊢
    rw [h1]
    rfl
  · simp (disch := omega) [fX11_sum, g_t, b_d, b_c, b_v, Bool.and_true, Bool.and_self, Bool.true_and, xL, xN1, nI_add, xM, xS, xP, xIx, xIn, xLe, xLt, xEq, xDv]
    simp only [wS] at h1 ⊢
    simp at h1 ⊢
    rw [h1]
    rfl
  · simp (disch := omega) [fX11_sum, g_t, b_d, b_c, b_v, Bool.and_true, Bool.and_self, Bool.true_and, xL, xN1, nI_add, xM, xS, xP, xIx, xIn, xLe, xLt, xEq, xDv]
    simp only [wS] at h1 ⊢
    simp at h1 ⊢
    rw [h1]
    rfl
end
section
variable {u n : Nat} {S L : mT}
theorem m_part (hu : u < 100) (hn : n ≤ 5) (h : rLd u n S L) {i w : Nat} (hi : i < n) (hw : w < 6) : ∃ L', fX12_partOf (nI i) (nI w) L = some (hv S u i (wS w), L') ∧ rLd u n S L' ∧ ∀ a j, a ≠ 200 → a ≠ 197 → L'.1 a j = L.1 a j := by
  obtain ⟨c9, c10, c11⟩ := h.1 i (by omega)
  rcases (by omega : w = 0 ∨ w = 1 ∨ w = 2 ∨ w = 3 ∨ w = 4 ∨ w = 5) with rfl | rfl | rfl | rfl | rfl | rfl
  · exact ⟨L, by simp (disch := omega) [fX12_partOf, kO_187, kI_209, kI_210, kI_211, g_t, b_d, b_c, b_v, Bool.and_true, Bool.and_self, Bool.true_and, xL, xN1, nI_add, xM, xS, xP, xIx, xIn, xLe, xLt, xEq, xDv, hv, wS, c9], h, fun _ _ _ _ => rfl⟩
  · exact ⟨L, by simp (disch := omega) [fX12_partOf, kO_187, kI_209, kI_210, kI_211, g_t, b_d, b_c, b_v, Bool.and_true, Bool.and_self, Bool.true_and, xL, xN1, nI_add, xM, xS, xP, xIx, xIn, xLe, xLt, xEq, xDv, hv, wS, c10], h, fun _ _ _ _ => rfl⟩
  · exact ⟨L, by simp (disch := omega) [fX12_partOf, kO_187, kI_209, kI_210, kI_211, g_t, b_d, b_c, b_v, Bool.and_true, Bool.and_self, Bool.true_and, xL, xN1, nI_add, xM, xS, xP, xIx, xIn, xLe, xLt, xEq, xDv, hv, wS, c11], h, fun _ _ _ _ => rfl⟩
  · obtain ⟨L', e1, e2, e5⟩ := ml_st hu h hi hn
    exact ⟨L', by simp (disch := omega) [fX12_partOf, kO_187, kI_209, kI_210, kI_211, g_t, b_d, b_c, b_v, Bool.and_true, Bool.and_self, Bool.true_and, xL, xN1, nI_add, xM, xS, xP, xIx, xIn, xLe, xLt, xEq, xDv, hv, wS, e1], e2, e5⟩
  · obtain ⟨L', e1, e2, e5⟩ := ml_tx hu h hi hn (S.1 35 (10 + i))
    exact ⟨L', by simp (disch := omega) [fX12_partOf, kO_187, kI_209, kI_210, kI_211, g_t, b_d, b_c, b_v, Bool.and_true, Bool.and_self, Bool.true_and, xL, xN1, nI_add, xM, xS, xP, xIx, xIn, xLe, xLt, xEq, xDv, hv, wS, c11, e1], e2, e5⟩
  · obtain ⟨L', e1, e2, e5⟩ := ml_st hu h hi hn
    obtain ⟨L2, e3, e4, e6⟩ := ml_tx hu e2 hi hn (stH S u i)
    exact ⟨L2, by simp (disch := omega) [fX12_partOf, kO_187, kI_209, kI_210, kI_211, g_t, b_d, b_c, b_v, Bool.and_true, Bool.and_self, Bool.true_and, xL, xN1, nI_add, xM, xS, xP, xIx, xIn, xLe, xLt, xEq, xDv, hv, wS, e1, e3], e4, fun a j g1 g2 => by rw [e6 a j g1 g2, e5 a j g1 g2]⟩
theorem s_sum19 (hu : u < 100) (hn : n ≤ 5) {w : Nat} (hw : w < 6) : ∀ (m i k : Nat) (L : mT), i + m = n → m < k → rLd u n S L → ∃ L', fX12_sum_19 k (nI w) (sm (fun i => hv S u i (wS w)) i) (nI i) L = some (sm (fun i => hv S u i (wS w)) n, L')
  | 0, i, k, L, hi, hk, h => by
    obtain ⟨k', rfl⟩ := up1 hk
    have hi : i = n := by omega
    subst hi
    have n2 := h.2.2.1
    exact ⟨L, by simp (disch := omega) [fX12_sum_19, kO_187, g_t, b_d, b_c, b_v, Bool.and_true, Bool.and_self, Bool.true_and, n2, xLe]⟩
  | m + 1, i, k, L, hi, hk, h => by
    obtain ⟨k', rfl⟩ := up1 hk
    have n2 := h.2.2.1
    obtain ⟨L1, e1, e2, _⟩ := m_part hu hn h (i := i) (by omega) hw
    obtain ⟨L2, e3⟩ := s_sum19 hu hn hw m (i + 1) k' L1 (by omega) (by omega) e2
    refine ⟨L2, ?_⟩
    rw [← e3]
    have c : ¬ n ≤ i := by omega
    simp (disch := omega) [fX12_sum_19, kO_187, g_t, b_d, b_c, b_v, Bool.and_true, Bool.and_self, Bool.true_and, xL, xN1, nI_add, xM, xS, xP, xIx, xIn, xLe, xLt, xEq, xDv, n2, c, e1, sm]
theorem m_sum {T : mT} (hu : u < 100) (hn : n ≤ 5) (hl : fX12_load T = some L) (h : rLd u n S L) {w : Nat} (hw : w < 6) : ∃ L', fX12_sum (nI w) T = some (sm (fun i => hv S u i (wS w)) n, L') := by
  obtain ⟨L', h1⟩ := s_sum19 hu hn hw n 0 mK L (by omega) (by have := mK_gt; omega) h
  refine ⟨L', ?_⟩
  have e : wB (nI w) 0 5 = 1 := wB_in (lo := 0) (hi := 5) (by omega) (by omega) (by omega)
  rw [← h1]
  unfold fX12_sum
  rw [s_isIn, b_c, e, if_neg (by decide), hl, b_v]
  rfl
end
theorem zz_sum : zH_sum Rel := by
  intro k b S v hk h
  obtain ⟨n, hA, hN, hBx, hC, hT, hL⟩ := Rel_iff.mp h
  have hn := hA.1.1
  have n1 := hA.1.2.1
  rcases v_cases 0 5 (by omega) (by omega) v with c | c | ⟨w, _, hw, rfl⟩
  · have e : wB v 0 5 = 0 := wB_lo c
    have q : ∀ w, w < 6 → ¬ v = nI w := fun w hw e => by subst e; have := (xLt (by omega) (by omega)).mp c; omega
    refine ⟨-1, S, S, ?_, ?_, Rel_up h⟩
    · have q0 : ¬ v = 0 := q 0 (by omega)
      have q1 : ¬ v = 1 := q 1 (by omega)
      have q2 : ¬ v = 2 := q 2 (by omega)
      have q3 : ¬ v = 3 := q 3 (by omega)
      have q4 : ¬ v = 4 := q 4 (by omega)
      have q5 : ¬ v = 5 := q 5 (by omega)
      simp [fX11_sum, q0, q1, q2, q3, q4, q5]
    · simp [fX12_sum, g_t, b_d, b_c, b_v, Bool.and_true, Bool.and_self, Bool.true_and, s_isIn, e]
  · have e : wB v 0 5 = 0 := wB_hi c
    have q : ∀ w, w < 6 → ¬ v = nI w := fun w hw e => by subst e; have := (xLt (by omega) (by omega)).mp c; omega
    refine ⟨-1, S, S, ?_, ?_, Rel_up h⟩
    · have q0 : ¬ v = 0 := q 0 (by omega)
      have q1 : ¬ v = 1 := q 1 (by omega)
      have q2 : ¬ v = 2 := q 2 (by omega)
      have q3 : ¬ v = 3 := q 3 (by omega)
      have q4 : ¬ v = 4 := q 4 (by omega)
      have q5 : ¬ v = 5 := q 5 (by omega)
      simp [fX11_sum, q0, q1, q2, q3, q4, q5]
    · simp [fX12_sum, g_t, b_d, b_c, b_v, Bool.and_true, Bool.and_self, Bool.true_and, s_isIn, e]
  · obtain ⟨C, hf1, hc⟩ := c_sum hn n1 hA.2.2.2.1 (cEq.rfl' _ S) (w := w) (by omega)
    have a1 : agr (supAll (shU b)) S C := av_agr (L := cond b LX11_sum_t LX11_sum_f) (by cases b; exact rX11_sum_f hf1; exact rX11_sum_t hf1) (by cases b <;> decide +kernel)
    obtain ⟨L, l1, l2, _⟩ := m_load (shU_lt b) hA hN.1 a1
    obtain ⟨L', hf2⟩ := m_sum (shU_lt b) hn l1 l2 (w := w) (by omega)
    exact ⟨_, _, _, hf1, hf2, Rel_fr (agr_trans (av_agr (L := cond b LX11_sum_t LX11_sum_f) (by cases b; exact rX11_sum_f hf1; exact rX11_sum_t hf1) (by cases b <;> decide +kernel)) (av_agr (rX12_sum hf2) (by cases b <;> decide +kernel))) h⟩
/-! falses, missed, doubled -/
def bt (p : Nat → Prop) [DecidablePred p] : Nat → Int32
  | 0 => 0
  | i + 1 => if p i then bt p i ||| ((1 : Int32) <<< (nI i &&& 31)) else bt p i
section
variable {b : Bool} {n : Nat} {S : mT}
theorem s_fal4 (hn : n ≤ 5) (n1 : S.1 (shU b) 9 = nI n) : ∀ (m i k : Nat), i + m = n → m < k → fX11_falses_4 b k (bt (fun j => ¬ S.1 35 (10 + j) = S.1 35 j) i) (nI i) S = some (bt (fun j => ¬ S.1 35 (10 + j) = S.1 35 j) n, S)
  | 0, i, k, hi, hk => by
    obtain ⟨k', rfl⟩ := up1 hk
    have hi : i = n := by omega
    subst hi
    simp (disch := omega) [fX11_falses_4, kO_0, kI_35, kO_u, fX11_falses_41, g_t, b_d, b_c, b_v, Bool.and_true, Bool.and_self, Bool.true_and, n1, xLe]
  | m + 1, i, k, hi, hk => by
    obtain ⟨k', rfl⟩ := up1 hk
    rw [← s_fal4 hn n1 m (i + 1) k' (by omega) (by omega)]
    have c : ¬ n ≤ i := by omega
    by_cases q : S.1 35 (10 + i) = S.1 35 i
    · simp (disch := omega) [fX11_falses_4, kO_0, kI_35, kO_u, fX11_falses_41, g_t, b_d, b_c, b_v, Bool.and_true, Bool.and_self, Bool.true_and, xL, xN1, nI_add, xM, xS, xP, xIx, xIn, xLe, xLt, xEq, xDv, n1, c, bt, q]
    · simp (disch := omega) [fX11_falses_4, kO_0, kI_35, kO_u, fX11_falses_41, g_t, b_d, b_c, b_v, Bool.and_true, Bool.and_self, Bool.true_and, xL, xN1, nI_add, xM, xS, xP, xIx, xIn, xLe, xLt, xEq, xDv, n1, c, bt, q]
theorem or0 (x : Int32) : x ||| nI 0 = x := Int32.or_zero
theorem or0' (x : Int32) : x ||| 0 = x := Int32.or_zero
theorem s_falM (hn : n ≤ 5) (n2 : S.1 187 37 = nI n) : ∀ (m i k : Nat), i + m = n → m < k → fX12_falses_4 k (bt (fun j => ¬ S.1 208 (10 + j) = S.1 208 j) i) (nI i) S = some (bt (fun j => ¬ S.1 208 (10 + j) = S.1 208 j) n, S)
  | 0, i, k, hi, hk => by
    obtain ⟨k', rfl⟩ := up1 hk
    have hi : i = n := by omega
    subst hi
    simp (disch := omega) [fX12_falses_4, kO_187, kI_208, fX12_falses_36, g_t, b_d, b_c, b_v, Bool.and_true, Bool.and_self, Bool.true_and, n2, xLe]
  | m + 1, i, k, hi, hk => by
    obtain ⟨k', rfl⟩ := up1 hk
    rw [← s_falM hn n2 m (i + 1) k' (by omega) (by omega)]
    have c : ¬ n ≤ i := by omega
    have z : ((nI 0 : Int32) <<< (nI i &&& nI 31)) = 0 := Int32.zero_shiftLeft
    by_cases q : S.1 208 (10 + i) = S.1 208 i
    · simp (disch := omega) [fX12_falses_4, kO_187, kI_208, fX12_falses_36, g_t, b_d, b_c, b_v, Bool.and_true, Bool.and_self, Bool.true_and, xL, xN1, nI_add, xM, xS, xP, xIx, xIn, xLe, xLt, xEq, xDv, n2, c, bt, q, s_truth, z, or0, or0']
    · simp (disch := omega) [fX12_falses_4, kO_187, kI_208, fX12_falses_36, g_t, b_d, b_c, b_v, Bool.and_true, Bool.and_self, Bool.true_and, xL, xN1, nI_add, xM, xS, xP, xIx, xIn, xLe, xLt, xEq, xDv, n2, c, bt, q, s_truth, z, or0, or0']
end
theorem bt_congr {p q : Nat → Prop} [DecidablePred p] [DecidablePred q] : ∀ {n : Nat}, (∀ i, i < n → (p i ↔ q i)) → bt p n = bt q n
  | 0, _ => rfl
  | n + 1, h => by
    unfold bt
    rw [bt_congr (n := n) (fun i hi => h i (by omega))]
    by_cases c : p n
    · rw [if_pos c, if_pos ((h n (by omega)).mp c)]
    · rw [if_neg c, if_neg (fun q => c ((h n (by omega)).mpr q))]
theorem zz_falses : zH_falses Rel := by
  intro k b S hk h
  obtain ⟨n, hA, hN, hBx, hC, hT, hL⟩ := Rel_iff.mp h
  have hn := hA.1.1
  refine ⟨_, S, S, s_fal4 hn hA.1.2.1 n 0 mK (by omega) (by have := mK_gt; omega), ?_, Rel_up h⟩
  rw [show bt (fun j => ¬ S.1 35 (10 + j) = S.1 35 j) n = bt (fun j => ¬ S.1 208 (10 + j) = S.1 208 j) n from bt_congr fun i hi => by rw [hN.1.2 _ (by omega), hN.1.2 _ (by omega)]]
  exact s_falM hn hA.1.2.2.1 n 0 mK (by omega) (by have := mK_gt; omega)
