/-! TRUTHS: both, as one call. -/
section
variable {n r : Nat} {st lo hi : Nat → Nat} {c b : Nat → Bool}
theorem lcR_up (h : ∀ j, r ≤ j → j < 30 → c j = false) : ∀ d, r + d ≤ 30 → lcR c b (r + d) = lcR c b r
  | 0, _ => rfl
  | d + 1, hd => by
    have ih := lcR_up h d (by omega)
    show (if (c (r + d) && b (r + d)) = true then lcR c b (r + d) + 1 else lcR c b (r + d)) = _
    rw [h (r + d) (by omega) (by omega), Bool.false_and, if_neg (by decide), ih]
theorem lwS_up (h : ∀ j, r ≤ j → j < 30 → c j = false) (s : Nat) : ∀ d, r + d ≤ 30 → lwS c st lo (r + d) s = lwS c st lo r s
  | 0, _ => rfl
  | d + 1, hd => by
    have ih := lwS_up h s d (by omega)
    show (if c (r + d) = true ∧ st (r + d) = s then max (lwS c st lo (r + d) s) (lo (r + d)) else lwS c st lo (r + d) s) = _
    rw [h (r + d) (by omega) (by omega), if_neg (fun z => by cases z.1), ih]
theorem hgS_up (h : ∀ j, r ≤ j → j < 30 → c j = false) (s : Nat) : ∀ d, r + d ≤ 30 → hgS c st hi (r + d) s = hgS c st hi r s
  | 0, _ => rfl
  | d + 1, hd => by
    have ih := hgS_up h s d (by omega)
    show (if c (r + d) = true ∧ st (r + d) = s then min (hi (r + d)) (hgS c st hi (r + d) s) else hgS c st hi (r + d) s) = _
    rw [h (r + d) (by omega) (by omega), if_neg (fun z => by cases z.1), ih]
theorem tdS_up (h : ∀ j, r ≤ j → j < 30 → c j = false) (s : Nat) : ∀ d, r + d ≤ 30 → tdS c st (r + d) s = tdS c st r s
  | 0, _ => rfl
  | d + 1, hd => by
    have ih := tdS_up h s d (by omega)
    show (tdS c st (r + d) s || (c (r + d) && decide (st (r + d) = s))) = _
    rw [h (r + d) (by omega) (by omega), Bool.false_and, Bool.or_false, ih]
theorem lcW_30 (hr : r ≤ 30) (h : ∀ j, r ≤ j → j < 30 → c j = false) : lcW n 30 st lo hi c = lcW n r st lo hi c := by
  funext w
  unfold lcW
  have := lcR_up (b := fun j => bad n w (st j) (lo j) (hi j)) h (30 - r) (by omega)
  rw [show r + (30 - r) = 30 by omega] at this
  exact this
theorem tru_30 (hr : r ≤ 30) (h : ∀ j, r ≤ j → j < 30 → c j = false) : tru n 30 st lo hi c = tru n r st lo hi c := by
  funext w
  unfold tru
  rw [lcW_30 hr h]
theorem tdS_30 (hr : r ≤ 30) (h : ∀ j, r ≤ j → j < 30 → c j = false) : tdS c st 30 = tdS c st r := by
  funext s
  have := tdS_up (st := st) h s (30 - r) (by omega)
  rw [show r + (30 - r) = 30 by omega] at this
  exact this
theorem ctx_30 (hr : r ≤ 30) (h : ∀ j, r ≤ j → j < 30 → c j = false) {C : mT} (H : ctx n r st lo hi c C) : ctx n 30 st lo hi c C := by
  have e2 : lwS c st lo 30 = lwS c st lo r := by
    funext s
    have := lwS_up (st := st) (lo := lo) h s (30 - r) (by omega)
    rw [show r + (30 - r) = 30 by omega] at this
    exact this
  have e3 : hgS c st hi 30 = hgS c st hi r := by
    funext s
    have := hgS_up (st := st) (hi := hi) h s (30 - r) (by omega)
    rw [show r + (30 - r) = 30 by omega] at this
    exact this
  unfold ctx at H ⊢
  rw [tdS_30 hr h, e2, e3]
  exact H
end
/-- the reports of both -/
theorem rep_of {n : Nat} {S : mT} (hn : n ≤ 5) (h : rRep n S) : ∃ r, r ≤ 30 ∧ cRp r (rsS S) (rlS S) (rhS S) S ∧ (∀ j, j < r → 1 ≤ rsS S j ∧ rsS S j < 2 ^ n ∧ rlS S j ≤ 35 ∧ rhS S j ≤ 35) ∧ S.1 187 66 = nI r ∧ ∀ j, j < r → S.1 224 j = nI (rsS S j) ∧ S.1 225 j = nI (rlS S j) ∧ S.1 226 j = nI (rhS S j) ∧ S.1 227 j = S.1 118 j ∧ S.1 228 j = S.1 119 j ∧ (S.1 119 j = -1 ∨ ∃ v, v ≤ 100000 ∧ S.1 119 j = nI v) := by
  obtain ⟨r, h1, h2, h3, h4⟩ := h
  have hp := p32 hn
  have key : ∀ j, j < r → (1 ≤ rsS S j ∧ rsS S j < 2 ^ n ∧ rlS S j ≤ 35 ∧ rhS S j ≤ 35) ∧ (S.1 115 j = nI (rsS S j) ∧ S.1 116 j = nI (rlS S j) ∧ S.1 117 j = nI (rhS S j)) ∧ S.1 224 j = nI (rsS S j) ∧ S.1 225 j = nI (rlS S j) ∧ S.1 226 j = nI (rhS S j) ∧ S.1 227 j = S.1 118 j ∧ S.1 228 j = S.1 119 j ∧ (S.1 119 j = -1 ∨ ∃ v, v ≤ 100000 ∧ S.1 119 j = nI v) := fun j hj => by
    obtain ⟨a, l, g, t, q1, q2, q3, q4, q5, w1, w2, w3, w4, w5, w6, w7, w8, w9, w10⟩ := h4 j hj
    have ea : rsS S j = a := by unfold rsS; rw [w1]; exact xIx (by omega)
    have el : rlS S j = l := by unfold rlS; rw [w3]; exact xIx (by omega)
    have eg : rhS S j = g := by unfold rhS; rw [w5]; exact xIx (by omega)
    rw [ea, el, eg]
    exact ⟨⟨q1, q2, by omega, q4⟩, ⟨w1, w3, w5⟩, w2, w4, w6, w8.trans w7.symm, w9, w10⟩
  exact ⟨r, h1, ⟨h2, fun j hj => (key j hj).2.1⟩, fun j hj => (key j hj).1, h3, fun j hj => (key j hj).2.2⟩
theorem cj_eq {S L : mT} {v : Int32} {j : Nat} (h1 : L.1 227 j = S.1 118 j) (h2 : L.1 228 j = S.1 119 j) (h3 : S.1 119 j = -1 ∨ ∃ v, v ≤ 100000 ∧ S.1 119 j = nI v) : cjM v L j = cjC v S j := by
  unfold cjM cjC
  rw [h1, h2]
  congr 2
  rcases h3 with q | ⟨x, hx, q⟩
  · rw [q]
    decide
  · rw [q, decide_eq_decide]
    have a1 : ¬ nI x < 0 := nI_pos (by omega)
    have a2 : ¬ nI x = -1 := fun z => by
      have hh : (nI x = nM) = False := nM_eq (by omega)
      exact (hh ▸ z : False)
    exact ⟨fun z => absurd z a1, fun z => absurd z a2⟩
theorem Rel_nr {k n : Nat} {b : Bool} {S S' : mT} (hA : rA (shU b) n S) (hN : rN S) (hB : rBox S) (hT : rTime S) (hL : rLie S) (a : agr (supA (shU b) ++ (supN ++ (supBox ++ (supTime ++ supLie)))) S S') (c : rC k n S') : Rel (k + 6) b S' := by
  obtain ⟨a1, a⟩ := agr_app.mp a
  obtain ⟨a2, a⟩ := agr_app.mp a
  obtain ⟨a3, a⟩ := agr_app.mp a
  obtain ⟨a5, a6⟩ := agr_app.mp a
  exact Rel_iff.mpr ⟨n, rA_fr a1 hA, rN_fr a2 hN, rBox_fr a3 hB, rC_up c, rTime_fr a5 hT, rLie_fr a6 hL⟩
/-- what the caches of truths say of both -/
theorem t_both {k n : Nat} {b : Bool} {S : mT} (hn : n ≤ 5) (n1 : S.1 (shU b) 9 = nI n) (hC : rC k n S) (v : Int32) : ∃ C, fX11_learn b v S = some C ∧ rC k n C ∧ tVal n C ∧ C.1 120 14 = 1 ∧ (∀ a j, (a < 120 ∨ 137 < a) → C.1 a j = S.1 a j) ∧ C.1 120 7 = S.1 120 7 ∧ ∀ L : mT, L.1 187 37 = nI n → L.1 187 66 = S.1 187 66 → (∀ a, 224 ≤ a → a ≤ 228 → L.1 a = S.1 a) → (∃ L', fX12_layTruths v L = some L' ∧ mTl n (tP n C) (8 ^ n) L' ∧ ∀ a j, a ≠ 229 → ¬ (a = 187 ∧ j = 69) → L'.1 a j = L.1 a j) ∧ ∀ w, w < 8 ^ n → fX12_liarsOf (nI w) v (nI 0) L = some (nI (if tP n C w = true then 0 else 1), L) := by
  obtain ⟨hR, hTr, hLi⟩ := hC
  obtain ⟨r, hr, hcr, hst, hmr, hmj⟩ := rep_of hn hR
  have sh : shU b = 3 ∨ shU b = 19 := by cases b; exact Or.inl rfl; exact Or.inr rfl
  have hp := p32 hn
  obtain ⟨t, k1, k2⟩ := c_ct hr hcr.1 v
  have htc : ∀ j, j < r → bI t j = cjC v S j := fun j hj => by rw [k2 j (by omega)]; simp [hj]
  have htf : ∀ j, r ≤ j → j < 30 → bI t j = false := fun j h1 h2 => by
    rw [k2 j (by omega), decide_eq_false (by omega : ¬ j < r), Bool.false_and]
  have main : ∃ C, fX10_learn t (nI n) S = some C ∧ C.1 120 14 = 1 ∧ C.1 120 10 = t ∧ tVal n C ∧ C.1 130 0 = nI 0 ∧ C.1 120 7 = S.1 120 7 ∧ ∀ a j, (a < 120 ∨ 137 < a) → C.1 a j = S.1 a j := by
    have new : ∃ C, fX10_learn_24 t (nI n) S = some C ∧ C.1 120 14 = 1 ∧ C.1 120 10 = t ∧ tVal n C ∧ C.1 130 0 = nI 0 ∧ C.1 120 7 = S.1 120 7 ∧ ∀ a j, (a < 120 ∨ 137 < a) → C.1 a j = S.1 a j := by
      obtain ⟨C, u1, u2, u3, u4, u5, u6, u7, u8, u9, u10, u11⟩ := c_ln24 hn hr hst hcr hTr.2.2.1 t
      refine ⟨C, u1, u2, u3, ?_, u9, u10, u11⟩
      have e1 : rsS C = rsS S := by funext j; unfold rsS; rw [u11 _ _ (by omega)]
      have e2 : rlS C = rlS S := by funext j; unfold rlS; rw [u11 _ _ (by omega)]
      have e3 : rhS C = rhS S := by funext j; unfold rhS; rw [u11 _ _ (by omega)]
      have et : tP n C = tru n r (rsS S) (rlS S) (rhS S) (bI t) := by
        unfold tP
        rw [e1, e2, e3, u3, tru_30 hr htf]
      refine ⟨fun j hj q => ?_, u4, by rw [et]; exact u6, fun h v h1 h2 => by rw [et]; exact u7 h v h1 h2, ?_, Or.inl u5⟩
      · rw [u11 _ _ (by omega), hcr.1]
        rw [u3, k2 j hj] at q
        rw [Bool.and_eq_true, decide_eq_true_iff] at q
        exact (xLt (by omega) (by omega)).mpr q.1
      · rw [e1, e2, e3, u3]
        exact ctx_30 hr htf u8
    rcases hTr.1 with q | q
    · obtain ⟨C, u1, u⟩ := new
      refine ⟨C, ?_, u⟩
      unfold fX10_learn
      rw [kO_120, Bool.and_true, g_t, q, if_pos rfl]
      exact u1
    · have q0 : ¬ S.1 120 14 = 0 := by rw [q]; decide
      have hV := hTr.2.2.2 q
      by_cases q1 : S.1 120 10 = t
      · refine ⟨S, ?_, q, q1, hV, hTr.2.2.1, rfl, fun _ _ _ => rfl⟩
        unfold fX10_learn
        rw [kO_120, Bool.and_true, g_t, if_neg q0, g_t, if_pos q1, g_t, if_pos hV.2.1]
      · obtain ⟨C, u1, u⟩ := new
        refine ⟨C, ?_, u⟩
        unfold fX10_learn
        rw [kO_120, Bool.and_true, g_t, if_neg q0, g_t, if_neg q1]
        exact u1
  obtain ⟨C, u1, u2, u3, u4, u5, u6, u7⟩ := main
  have a15 : ∀ a, 115 ≤ a → a ≤ 119 → C.1 a = S.1 a := fun a h1 h2 => funext fun j => u7 a j (by omega)
  refine ⟨C, ?_, ⟨rRep_fr ⟨a15, fun a h1 h2 => funext fun j => u7 a j (by omega), u7 _ _ (by omega), u7 _ _ (by omega), trivial⟩ hR, ⟨Or.inr u2, ?_, u5, fun _ => u4⟩, rLia_rp (fun a h1 h2 => funext fun j => u7 a j (by omega)) (repEq_of (fun a h1 h2 => a15 a h1 (by omega)) (u7 _ _ (by omega))) hLi⟩, u4, u2, u7, u6, fun L l1 l2 l3 => ?_⟩
  · unfold fX11_learn
    rw [kO_0, kO_u, k1]
    simp only [g_t, b_d, b_c, b_v, Bool.and_true, Bool.and_self, Bool.true_and, n1, u1]
  · obtain ⟨s0, w1, w2, w3⟩ := hTr.2.1
    exact ⟨s0, w1, u6.trans w2, fun i hi => by rw [u7 _ _ (by omega)]; exact w3 i hi⟩
  · have hmp : mRp n r (rsS S) (rlS S) (rhS S) L := ⟨l1, l2.trans hmr, fun j hj => by
      obtain ⟨z1, z2, z3, _⟩ := hmj j hj
      rw [l3 224 (by omega) (by omega), l3 225 (by omega) (by omega), l3 226 (by omega) (by omega)]
      exact ⟨z1, z2, z3⟩⟩
    have hst' : ∀ j, j < r → rsS S j < 32 ∧ rlS S j ≤ 35 ∧ rhS S j ≤ 35 := fun j hj => by
      obtain ⟨a1, a2, a3, a4⟩ := hst j hj
      exact ⟨by omega, a3, a4⟩
    have e1 : rsS C = rsS S := by funext j; unfold rsS; rw [u7 _ _ (by omega)]
    have e2 : rlS C = rlS S := by funext j; unfold rlS; rw [u7 _ _ (by omega)]
    have e3 : rhS C = rhS S := by funext j; unfold rhS; rw [u7 _ _ (by omega)]
    have ew : lcW n r (rsS S) (rlS S) (rhS S) (cjM v L) = lcW n r (rsS S) (rlS S) (rhS S) (bI t) := lcW_ext fun j hj => ⟨by
      obtain ⟨_, _, _, z4, z5, z6⟩ := hmj j hj
      rw [htc j hj]
      exact cj_eq (by rw [l3 227 (by omega) (by omega)]; exact z4) (by rw [l3 228 (by omega) (by omega)]; exact z5) z6, fun _ => ⟨rfl, rfl, rfl⟩⟩
    have et : tru n r (rsS S) (rlS S) (rhS S) (cjM v L) = tP n C := by
      unfold tP
      rw [e1, e2, e3, u3, tru_30 hr htf]
      funext w
      unfold tru
      rw [ew]
    refine ⟨?_, fun w hw => ?_⟩
    · rw [← et]
      exact m_ly hn hr hst' hmp v
    · rw [m_lo hn hr hst' hmp hw v (en := 0) (by omega), ← et]
      unfold tru
      by_cases q : lcW n r (rsS S) (rlS S) (rhS S) (cjM v L) w = 0
      · rw [q, if_pos (by decide)]
        rfl
      · rw [if_neg (by rw [decide_eq_true_iff]; exact q), Nat.min_eq_right (by omega)]
theorem zz_truths : zH_truths Rel := by
  intro k b S v hk h
  obtain ⟨n, hA, hN, hBx, hC, hT, hL⟩ := Rel_iff.mp h
  have hn := hA.1.1
  obtain ⟨C, c1, cC, cT, _, cf, _, cm⟩ := t_both hn hA.1.2.1 hC v
  have hf1 : fX11_truths b v S = some (nI (cN (tP n C) (8 ^ n)), C) := by
    unfold fX11_truths
    rw [c1, kO_120, kO_0, b_v, cT.2.2.1]
    rfl
  obtain ⟨L', l1, l2, l3⟩ := (cm C (by rw [cf _ _ (by omega)]; exact hA.1.2.2.1) (cf _ _ (by omega)) (fun a h1 h2 => funext fun j => cf a j (by omega))).1
  have hf2 : fX12_truths v C = some (nI (cN (tP n C) (8 ^ n)), L') := by
    unfold fX12_truths
    rw [l1, kO_187, b_v, l2.1]
    rfl
  exact ⟨_, _, _, hf1, hf2, Rel_nr hA hN hBx hT hL (agr_trans (av_agr (L := cond b LX11_truths_t LX11_truths_f) (by cases b; exact rX11_truths_f hf1; exact rX11_truths_t hf1) (by cases b <;> decide +kernel)) (av_agr (rX12_truths hf2) (by cases b <;> decide +kernel))) (rC_fr hn (av_agr (rX12_truths hf2) (by decide +kernel)) cC)⟩
