/-! LIARS: both. -/
theorem c_ll42 : ∀ (m i k : Nat) (C : mT), i + m = 32 → m < k → ∃ C', (∀ k0, fX3_learn_42 k (nI i) C = fX3_learn_42 (k0 + 1) (nI 32) C') ∧ (∀ s x, i ≤ s → s < 32 → x < 36 → C'.1 (142 + s) x = nI 0) ∧ (∀ s x, s < i → C'.1 (142 + s) x = C.1 (142 + s) x) ∧ ∀ a j, (a < 142 ∨ 173 < a) → C'.1 a j = C.1 a j
  | 0, i, k, C, hi, hk => by
    obtain ⟨k', rfl⟩ := up1 hk
    have hi : i = 32 := by omega
    subst hi
    have c : (32 : Int32) ≤ nI 32 := by decide
    exact ⟨C, fun k0 => by simp only [fX3_learn_42, if_pos c], fun s x h1 h2 _ => by omega, fun _ _ _ => rfl, fun _ _ _ => rfl⟩
  | m + 1, i, k, C, hi, hk => by
    obtain ⟨k', rfl⟩ := up1 hk
    have c : ¬ (32 : Int32) ≤ nI i := fun y => by have := (xLe (a := 32) (by omega) (by omega)).mp y; omega
    have o1 : nI i + (1 : Int32) = nI (i + 1) := nI_add i 1
    obtain ⟨C1, f1, f2, f3⟩ := s_fill (st_141 i (by omega)) (blt_of (by omega)) (by omega) (0 : Int32) C
    obtain ⟨C', r1, r2, r3, r4⟩ := c_ll42 m (i + 1) k' C1 (by omega) (by omega)
    refine ⟨C', fun k0 => ?_, fun s x h1 h2 h3 => ?_, fun s x hs => by rw [r3 s x (by omega), f3 _ _ (by omega)], fun a j g => by rw [r4 a j g, f3 _ _ (by omega)]⟩
    · rw [← r1 k0]
      conv => lhs; unfold fX3_learn_42
      rw [if_neg c]
      simp (disch := omega) only [kR_141, kO_140, g_t, b_d, b_c, b_v, Bool.and_true, Bool.and_self, Bool.true_and, xIx, xIn, rw_141, f1, o1]
    · by_cases q : s = i
      · rw [q, r3 i x (by omega)]
        exact f2 x h3
      · exact r2 s x (by omega) h2 h3
section
variable {n r : Nat} {st lo hi : Nat → Nat}
theorem c_l24 (hn : n ≤ 5) (hr : r ≤ 30) (hst : ∀ j, j < r → 1 ≤ st j ∧ st j < 2 ^ n ∧ lo j ≤ 35 ∧ hi j ≤ 35) {S : mT} (h : cRp r st lo hi S) (h0 : S.1 175 0 = nI 0) {t : Int32} (htb : ∀ x, 30 ≤ x → x < 32 → bI t x = false) : ∃ C', fX3_learn_24 t (nI n) S = some C' ∧ C'.1 140 8 = 1 ∧ C'.1 140 7 = t ∧ C'.1 140 6 = nI n ∧ (∃ w, isFew n (lcW n r st lo hi (bI t)) w ∧ C'.1 140 5 = nI (lcW n r st lo hi (bI t) w) ∧ ∀ h, h < n → C'.1 185 h = nI (dg8 n w h)) ∧ C'.1 175 0 = nI 0 ∧ ∀ a j, (a < 140 ∨ 185 < a) → C'.1 a j = S.1 a j := by
  have hp := p32 hn
  have hst' : ∀ j, j < r → st j < 32 ∧ lo j ≤ 35 ∧ hi j ≤ 35 := fun j hj => by
    obtain ⟨a1, a2, a3, a4⟩ := hst j hj
    exact ⟨by omega, a3, a4⟩
  obtain ⟨a, ha, rfl, hab⟩ := t_nat htb
  have ep : pcN a 32 = pcN a 30 := pcN_top (a := a) (k := 30) ha 2
  have hpl := pcN_le a 30
  have hf : lcW n r st lo hi (bI (nI a)) = aN r st lo hi (bI (nI a)) n := by
    funext w
    exact lc_aN w r (fun j hj => (hst j hj).2.1)
  have hlt : ∀ w, w < 8 ^ n → aN r st lo hi (bI (nI a)) n w < pcN a 32 + 1 := fun w _ => by
    rw [← hf]
    have h1 := lc_pc (a := a) (c := bI (nI a)) (b := fun j => bad n w (st j) (lo j) (hi j)) (fun j hj => (hab j).mpr hj) r
    have h2 := pcN_mono a (i := r) (30 - r)
    rw [show r + (30 - r) = 30 by omega] at h2
    show lcR _ _ _ < _
    omega
  generalize ht : nI a = t at *
  generalize hS3 : sI (sI (sI S 140 8 (1 : Int32)) 140 7 t) 140 6 (nI n) = S3
  have e3 : ∀ a j, a ≠ 140 → S3.1 a j = S.1 a j := fun a j g => by rw [← hS3, sI_ne (by omega), sI_ne (by omega), sI_ne (by omega)]
  have e3a : S3.1 140 8 = 1 := by rw [← hS3, sI_ne (by omega), sI_ne (by omega), sI_eq]
  have e3b : S3.1 140 7 = t := by rw [← hS3, sI_ne (by omega), sI_eq]
  have e3c : S3.1 140 6 = nI n := by rw [← hS3, sI_eq]
  obtain ⟨C1, m1, m2, _, m4⟩ := c_ll42 32 0 mK S3 (by omega) (by have := mK_gt; omega)
  have em : C1.1 140 7 = t := by rw [m4 _ _ (by omega)]; exact e3b
  obtain ⟨t', C2, r1, r2, r3, r4⟩ := c_ta4 hr hst' r 0 mK 0 C1 (by omega) (by have := mK_gt; omega) ⟨by rw [m4 _ _ (by omega), e3 _ _ (by omega)]; exact h.1, fun j hj => by
    rw [m4 _ _ (by omega), e3 _ _ (by omega), m4 _ _ (by omega), e3 _ _ (by omega), m4 _ _ (by omega), e3 _ _ (by omega)]
    exact h.2 j hj⟩ (fun s x hs hx => by rw [m2 s x (by omega) hs hx]; rfl) (fun x _ => by rw [bI_0]; rfl)
  rw [em] at r2 r3
  have e2 : ∀ a j, (a < 142 ∨ 173 < a) → C2.1 a j = S3.1 a j := fun a j q => by rw [r4 a j q, m4 a j q]
  obtain ⟨C3, l1, l2, l3⟩ := c_ls5 kLs174 (td := tdS (bI t) st r) r3 hn n 0 mK C2 (by omega) (by have := mK_gt; omega) (fun h' hh => absurd hh (Nat.not_lt_zero _))
  have e36 : C3.1 140 6 = nI n := by rw [l3 _ _ (by omega), e2 _ _ (by omega)]; exact e3c
  obtain ⟨C4, k1, k2, k3⟩ := c_ow17 (st := st) (lo := lo) (hi := hi) (c := bI t) hn hr n mK (sI C3 183 n (nI 0)) (Nat.le_refl _) (by have := mK_gt; omega) (fun s x hs hx => by rw [sI_ne (by omega), l3 _ _ (by omega)]; exact r2 s x hs hx) (fun h' hh => ⟨by rw [sI_ne (by omega)]; exact (l2 h' hh).1, fun y hy hy2 => by rw [sI_ne (by omega)]; exact (l2 h' hh).2 y hy hy2⟩) (fun i hi hi2 => by
    have : i = n := by omega
    subst this
    rw [sI_eq, Nat.sub_self]
    rfl)
  have e4 : ∀ a j, a ≠ 183 → C4.1 a j = C3.1 a j := fun a j q => by rw [k3 a j q, sI_ne (by omega)]
  have e47 : C4.1 140 7 = t := by rw [e4 _ _ (by omega), l3 _ _ (by omega), e2 _ _ (by omega)]; exact e3b
  generalize hD : sI C4 140 5 (nI (pcN a 32 + 1)) = D
  have eD : ∀ a j, ¬ (a = 140 ∧ j = 5) → D.1 a j = C4.1 a j := fun a j q => by rw [← hD, sI_ne q]
  have eD5 : D.1 140 5 = nI (pcN a 32 + 1) := by rw [← hD, sI_eq]
  have cD : lcx n r st lo hi (bI t) D := ⟨fun s x hs hx => by
    rw [eD _ _ (by omega), e4 _ _ (by omega), l3 _ _ (by omega)]
    exact r2 s x hs hx, fun h' hh => ⟨by rw [eD _ _ (by omega), e4 _ _ (by omega)]; exact (l2 h' hh).1, fun y hy hy2 => by rw [eD _ _ (by omega), e4 _ _ (by omega)]; exact (l2 h' hh).2 y hy hy2⟩, fun i hi => by rw [eD _ _ (by omega)]; exact k2 i hi, by rw [eD _ _ (by omega), e4 _ _ (by omega)]; exact e36⟩
  have h0D : D.1 175 0 = nI 0 := by rw [eD _ _ (by omega), e4 _ _ (by omega), l3 _ _ (by omega), e2 _ _ (by omega), e3 _ _ (by omega)]; exact h0
  have a0 : aN r st lo hi (bI t) 0 0 = 0 := by
    show 0 + agS (bI t) st lo hi r 0 0 = 0
    rw [agS_0 r (fun z => by
      obtain ⟨j, hj, _, hs⟩ := (tdS_iff r).mp z
      have := (hst j hj).1
      omega)]
  obtain ⟨C', F', s1, s2, s3, _, s5, s6, s7⟩ := c_sf hn hr hlt (by omega) n 0 16 0 D (pcN a 32 + 1) (by omega) (by omega) (by decide) cD (fun x hx => by
    rw [Nat.pow_zero] at hx
    have : x = 0 := by omega
    subst this
    exact h0D) (fun i hi => absurd hi (Nat.not_lt_zero _)) eD5 (Nat.le_refl _) (Or.inl ⟨Nat.zero_mul _, rfl⟩)
  rw [a0] at s1
  have eE : ∀ j, j ≠ 5 → C'.1 140 j = S3.1 140 j := fun j q => by rw [s2 _ _ (by omega) (by omega) (by omega) (by omega), eD _ _ (by omega), e4 _ _ (by omega), l3 _ _ (by omega), e2 _ _ (by omega)]
  refine ⟨C', ?_, by rw [eE _ (by omega)]; exact e3a, by rw [eE _ (by omega)]; exact e3b, by rw [eE _ (by omega)]; exact e3c, ?_, by rw [s3 0 (by decide)]; exact h0D, fun a j q => by rw [s2 _ _ (by omega) (by omega) (by omega) (by omega), eD _ _ (by omega), e4 _ _ (by omega), l3 _ _ (by omega), e2 _ _ (by omega), e3 _ _ (by omega)]⟩
  · have hfit : mFit .boolean (1 : Int32) = true := by decide
    have c32 : (32 : Int32) ≤ nI 32 := by decide
    have m1' : fX3_learn_42 mK (0 : Int32) S3 = fX3_learn_42 (0 + 1) (nI 32) C1 := m1 0
    have r1' : fX3_takeReports C1 = some (t', C2) := r1
    have e26 : C2.1 140 6 = nI n := by rw [e2 _ _ (by omega)]; exact e3c
    have l1' : fX9_list 174 t' (nI n) C2 = some (nI (ffN (tdS (bI t) st r) n), C3) := l1
    have ob : nI n - (1 : Int32) = nI n + (-1 : Int32) := Int32.sub_eq_add_neg _ _
    have k1' : fX3_countOwed C3 = some C4 := by
      have e6' : (sI C3 183 n (nI 0)).1 140 6 = nI n := by rw [sI_ne (by omega)]; exact e36
      have e6'' : (sI C3 183 n (0 : Int32)).1 140 6 = nI n := e6'
      have k1'' : fX3_countOwed_17 mK (nI n + (-1 : Int32)) (sI C3 183 n (0 : Int32)) = some C4 := k1
      unfold fX3_countOwed
      simp (disch := omega) only [kO_140, kI_183, g_t, b_d, b_c, b_v, Bool.and_true, Bool.and_self, Bool.true_and, e36, xIx, xIn, e6'', ob, k1'']
    have bc : fJ6_bitCount_0f7a4 t C4 = some (nI (pcN a 32), C4) := by
      rw [← ht]
      exact s_bc ha C4
    have o1 : nI (pcN a 32) + (1 : Int32) = nI (pcN a 32 + 1) := nI_add _ 1
    have s1' : fX3_searchFrom 16 (0 : Int32) (0 : Int32) D = some C' := s1
    unfold fX3_learn_24
    rw [hfit, kO_140]
    simp only [g_t, b_d, b_c, b_v, Bool.and_true, Bool.and_self, Bool.true_and, hS3, m1']
    unfold fX3_learn_42
    rw [if_pos c32, kO_140]
    simp only [g_t, b_d, b_c, b_v, Bool.and_true, Bool.and_self, Bool.true_and, r1', e26, l1', k1', e47, bc, o1, hD, s1']
  · rcases s7 with ⟨z, _⟩ | ⟨w, w1, w2, w3, w4, w5⟩
    · have : 0 < 8 ^ n := Nat.pow_pos (by omega)
      omega
    · rw [Nat.zero_add, Nat.one_mul] at w1 w4
      rw [hf]
      refine ⟨w, ⟨w1, fun x hx => ?_, fun x hx => ?_⟩, by rw [s5, w2], w5⟩
      · rw [← w2]
        exact w3 x hx
      · rw [← w2]
        exact w4 x hx
end
/-- what the cache of liars says of both -/
theorem l_both {k n : Nat} {S : mT} (hn : n ≤ 5) (hC : rC k n S) (v : Int32) : ∃ t C, fX5_countingAt v S = some (t, S) ∧ fX3_learn t (nI n) S = some C ∧ rC k n C ∧ lVal n C ∧ (∀ a j, (a < 140 ∨ 185 < a) → C.1 a j = S.1 a j) ∧ ∀ L : mT, L.1 187 37 = nI n → L.1 187 66 = S.1 187 66 → (∀ a, 224 ≤ a → a ≤ 228 → L.1 a = S.1 a) → ∀ w, w < 8 ^ n → ∀ en, en ≤ 31 → fX12_liarsOf (nI w) v (nI en) L = some (nI (min (lW n C w) (en + 1)), L) := by
  obtain ⟨hR, hTr, hLi⟩ := hC
  obtain ⟨r, hr, hcr, hst, hmr, hmj⟩ := rep_of hn hR
  have hp := p32 hn
  obtain ⟨t, k1, k2⟩ := c_ct hr hcr.1 v
  have htc : ∀ j, j < r → bI t j = cjC v S j := fun j hj => by rw [k2 j (by omega)]; simp [hj]
  have htf : ∀ j, r ≤ j → j < 32 → bI t j = false := fun j h1 h2 => by
    rw [k2 j (by omega), decide_eq_false (by omega : ¬ j < r), Bool.false_and]
  have htf' : ∀ j, r ≤ j → j < 30 → bI t j = false := fun j h1 h2 => htf j h1 (by omega)
  have main : ∃ C, fX3_learn t (nI n) S = some C ∧ C.1 140 8 = 1 ∧ C.1 140 7 = t ∧ lVal n C ∧ C.1 175 0 = nI 0 ∧ ∀ a j, (a < 140 ∨ 185 < a) → C.1 a j = S.1 a j := by
    have new : ∃ C, fX3_learn_24 t (nI n) S = some C ∧ C.1 140 8 = 1 ∧ C.1 140 7 = t ∧ lVal n C ∧ C.1 175 0 = nI 0 ∧ ∀ a j, (a < 140 ∨ 185 < a) → C.1 a j = S.1 a j := by
      obtain ⟨C, u1, u2, u3, u4, ⟨w, u5, u6, u7⟩, u8, u9⟩ := c_l24 hn hr hst hcr hLi.2.1 (t := t) (fun x h1 h2 => htf x (by omega) h2)
      refine ⟨C, u1, u2, u3, ?_, u8, u9⟩
      have e1 : rsS C = rsS S := by funext j; unfold rsS; rw [u9 _ _ (by omega)]
      have e2 : rlS C = rlS S := by funext j; unfold rlS; rw [u9 _ _ (by omega)]
      have e3 : rhS C = rhS S := by funext j; unfold rhS; rw [u9 _ _ (by omega)]
      have et : lW n C = lcW n r (rsS S) (rlS S) (rhS S) (bI t) := by
        unfold lW
        rw [e1, e2, e3, u3, lcW_30 hr htf']
      refine ⟨fun j hj q => ?_, u4, w, by rw [et]; exact u5, by rw [et]; exact u6, u7⟩
      rw [u9 _ _ (by omega), hcr.1]
      rw [u3, k2 j hj] at q
      rw [Bool.and_eq_true, decide_eq_true_iff] at q
      exact (xLt (by omega) (by omega)).mpr q.1
    rcases hLi.1 with q | q
    · obtain ⟨C, u1, u⟩ := new
      refine ⟨C, ?_, u⟩
      unfold fX3_learn
      rw [kO_140, Bool.and_true, g_t, q, if_pos rfl]
      exact u1
    · have q0 : ¬ S.1 140 8 = 0 := by rw [q]; decide
      have hV := hLi.2.2 q
      by_cases q1 : S.1 140 7 = t
      · refine ⟨S, ?_, q, q1, hV, hLi.2.1, fun _ _ _ => rfl⟩
        unfold fX3_learn
        rw [kO_140, Bool.and_true, g_t, if_neg q0, g_t, if_pos q1, g_t, if_pos hV.2.1]
      · obtain ⟨C, u1, u⟩ := new
        refine ⟨C, ?_, u⟩
        unfold fX3_learn
        rw [kO_140, Bool.and_true, g_t, if_neg q0, g_t, if_neg q1]
        exact u1
  obtain ⟨C, u1, u2, u3, u4, u5, u7⟩ := main
  have a15 : ∀ a, 115 ≤ a → a ≤ 119 → C.1 a = S.1 a := fun a h1 h2 => funext fun j => u7 a j (by omega)
  refine ⟨t, C, k1, u1, ⟨rRep_fr ⟨a15, fun a h1 h2 => funext fun j => u7 a j (by omega), u7 _ _ (by omega), u7 _ _ (by omega), trivial⟩ hR, rTru_rp hn (fun a h1 h2 => funext fun j => u7 a j (by omega)) (repEq_of (fun a h1 h2 => a15 a h1 (by omega)) (u7 _ _ (by omega))) hTr, ⟨Or.inr u2, u5, fun _ => u4⟩⟩, u4, u7, fun L l1 l2 l3 w hw en hen => ?_⟩
  have hmp : mRp n r (rsS S) (rlS S) (rhS S) L := ⟨l1, l2.trans hmr, fun j hj => by
    obtain ⟨z1, z2, z3, _⟩ := hmj j hj
    rw [l3 224 (by omega) (by omega), l3 225 (by omega) (by omega), l3 226 (by omega) (by omega)]
    exact ⟨z1, z2, z3⟩⟩
  have hst' : ∀ j, j < r → rsS S j < 32 ∧ rlS S j ≤ 35 ∧ rhS S j ≤ 35 := fun j hj => by
    obtain ⟨a1, a2, a3, a4⟩ := hst j hj
    exact ⟨by omega, a3, a4⟩
  have e1 : rsS C = rsS S := by funext j; unfold rsS; rw [u7 _ _ (by omega)]
  have e2 : rlS C = rlS S := by funext j; unfold rlS; rw [u7 _ _ (by omega)]
  have e3 : rhS C = rhS S := by funext j; unfold rhS; rw [u7 _ _ (by omega)]
  have ew : lcW n r (rsS S) (rlS S) (rhS S) (cjM v L) = lW n C := by
    unfold lW
    rw [e1, e2, e3, u3, lcW_30 hr htf']
    exact lcW_ext fun j hj => ⟨by
      obtain ⟨_, _, _, z4, z5, z6⟩ := hmj j hj
      rw [htc j hj]
      exact cj_eq (by rw [l3 227 (by omega) (by omega)]; exact z4) (by rw [l3 228 (by omega) (by omega)]; exact z5) z6, fun _ => ⟨rfl, rfl, rfl⟩⟩
  rw [m_lo hn hr hst' hmp hw v hen, ew]
section
variable {n : Nat} {f : Nat → Nat} {L : mT} {v : Int32}
theorem m_li14 (hn : n ≤ 5) (hl : ∀ w, w < 8 ^ n → ∀ en, en ≤ 31 → fX12_liarsOf (nI w) v (nI en) L = some (nI (min (f w) (en + 1)), L)) (hf : ∀ w, f w ≤ 30) : ∀ (m W k F B : Nat), W + m = 8 ^ n → m < k → F ≤ 31 → ((W = 0 ∧ F = 31 ∧ B = 0) ∨ (B < W ∧ F = f B ∧ (∀ x, x < B → F < f x) ∧ ∀ x, x < W → F ≤ f x)) → ∃ w, isFew n f w ∧ fX12_liars_14 k v (nI F) (nI B) (nI (8 ^ n)) (nI W) L = fX12_liars_55 mK (nI (f w)) (nI w) (0 : Int32) L
  | 0, W, k, F, B, hW, hk, hF, H => by
    obtain ⟨k', rfl⟩ := up1 hk
    have hW : W = 8 ^ n := by omega
    subst hW
    have c : nI (8 ^ n) ≤ nI (8 ^ n) := Int32.le_refl _
    rcases H with ⟨h1, _⟩ | ⟨h1, h2, h3, h4⟩
    · have : 0 < 8 ^ n := Nat.pow_pos (by omega)
      omega
    · exact ⟨B, ⟨h1, fun x hx => by rw [← h2]; exact h3 x hx, fun x hx => by rw [← h2]; exact h4 x hx⟩, by simp only [fX12_liars_14, if_pos c, h2]⟩
  | m + 1, W, k, F, B, hW, hk, hF, H => by
    obtain ⟨k', rfl⟩ := up1 hk
    have hp := p8 hn
    have c : ¬ nI (8 ^ n) ≤ nI W := fun y => by have := (xLe (by omega) (by omega)).mp y; omega
    have o1 : nI W + (1 : Int32) = nI (W + 1) := nI_add W 1
    have h1 := hl W (by omega) F hF
    have h2 := hf W
    by_cases q : f W < F
    · have em : min (f W) (F + 1) = f W := by omega
      have q' : nI (f W) < nI F := (xLt (by omega) (by omega)).mpr q
      rw [em] at h1
      obtain ⟨w, w1, w2⟩ := m_li14 hn hl hf m (W + 1) k' (f W) W (by omega) (by omega) (by omega) (Or.inr ⟨by omega, rfl, fun x hx => by
        rcases H with ⟨z, _⟩ | ⟨_, _, _, z⟩
        · omega
        · have := z x hx
          omega, fun x hx => by
        by_cases y : x = W
        · rw [y]
          exact Nat.le_refl _
        · rcases H with ⟨z, _⟩ | ⟨_, _, _, z⟩
          · omega
          · have := z x (by omega)
            omega⟩)
      refine ⟨w, w1, ?_⟩
      rw [← w2]
      simp only [fX12_liars_14, fX12_liars_46, if_neg c, h1, g_t, b_d, b_c, b_v, Bool.and_true, Bool.and_self, Bool.true_and, if_pos q', o1]
    · have q' : ¬ nI (min (f W) (F + 1)) < nI F := fun y => by have := (xLt (by omega) (by omega)).mp y; omega
      obtain ⟨w, w1, w2⟩ := m_li14 hn hl hf m (W + 1) k' F B (by omega) (by omega) hF (by
        rcases H with ⟨z, z2, _⟩ | ⟨z1, z2, z3, z4⟩
        · omega
        · refine Or.inr ⟨by omega, z2, z3, fun x hx => ?_⟩
          by_cases y : x = W
          · rw [y]
            omega
          · exact z4 x (by omega))
      refine ⟨w, w1, ?_⟩
      rw [← w2]
      simp only [fX12_liars_14, fX12_liars_46, if_neg c, h1, g_t, b_d, b_c, b_v, Bool.and_true, Bool.and_self, Bool.true_and, if_neg q', o1]
theorem m_li55 (hn : n ≤ 5) {w : Nat} (hw : w < 8 ^ n) (F : Int32) : ∀ (m i k : Nat) (L : mT), i + m = n → m < k → L.1 187 37 = nI n → ∃ L', fX12_liars_55 k F (nI w) (nI i) L = some (F, L') ∧ (∀ j, i ≤ j → j < n → L'.1 215 j = nI (dg8 n w j)) ∧ (∀ j, j < i → L'.1 215 j = L.1 215 j) ∧ L'.1 187 51 = nI n ∧ ∀ a j, a ≠ 215 → ¬ (a = 187 ∧ j = 51) → L'.1 a j = L.1 a j
  | 0, i, k, L, hi, hk, n2 => by
    obtain ⟨k', rfl⟩ := up1 hk
    have hi : i = n := by omega
    subst hi
    have c : nI i ≤ nI i := Int32.le_refl _
    exact ⟨sI L 187 51 (nI i), by simp only [fX12_liars_55, kO_187, g_t, b_d, b_c, b_v, Bool.and_true, Bool.and_self, Bool.true_and, n2, if_pos c], fun j h1 h2 => by omega, fun j _ => by rw [sI_ne (by omega)], by rw [sI_eq], fun a j g1 g2 => by rw [sI_ne g2]⟩
  | m + 1, i, k, L, hi, hk, n2 => by
    obtain ⟨k', rfl⟩ := up1 hk
    have c : ¬ nI n ≤ nI i := fun y => by have := (xLe (by omega) (by omega)).mp y; omega
    have o1 : nI i + (1 : Int32) = nI (i + 1) := nI_add i 1
    have hh := s_head hn n2 hw (h := i) (by omega)
    obtain ⟨L', r1, r2, r3, r4, r5⟩ := m_li55 hn hw F m (i + 1) k' (sI L 215 i (nI (dg8 n w i))) (by omega) (by omega) (by rw [sI_ne (by omega)]; exact n2)
    refine ⟨L', ?_, fun j h1 h2 => ?_, fun j hj => by rw [r3 j (by omega), sI_ne (by omega)], r4, fun a j g1 g2 => by rw [r5 a j g1 g2, sI_ne (by omega)]⟩
    · rw [← r1]
      simp (disch := omega) only [fX12_liars_55, kO_187, kI_215, g_t, b_d, b_c, b_v, Bool.and_true, Bool.and_self, Bool.true_and, n2, if_neg c, hh, xIx, xIn, o1]
    · by_cases q : j = i
      · subst q
        rw [r3 j (by omega), sI_eq]
      · exact r2 j (by omega) h2
end
theorem few_uniq {n : Nat} {f : Nat → Nat} {w w' : Nat} (h : isFew n f w) (h' : isFew n f w') : w = w' := by
  rcases Nat.lt_trichotomy w w' with q | q | q
  · have h1 := h'.2.1 w q
    have h2 := h.2.2 w' h'.1
    omega
  · exact q
  · have h1 := h.2.1 w' q
    have h2 := h'.2.2 w h.1
    omega
theorem s_lay2 {a1 len m : Nat} (hs : sT a1 = .inr (.int, len)) (hb : Nat.blt a1 233 = true) (hl : len ≤ 8) (hm : m ≤ len) (h0 : a1 ≠ 0) (S : mT) : ∃ S', fX11_lay a1 (nI m) S = some S' ∧ S'.1 0 13 = nI m ∧ (∀ j, j < m → S'.1 186 j = S.1 a1 j) ∧ ∀ a j, a ≠ 186 → ¬ (a = 0 ∧ j = 13) → S'.1 a j = S.1 a j := by
  refine ⟨sC (sI S 0 13 (nI m)) a1 186 (0 : Int32) (0 : Int32) (nI m), ?_, ?_, fun j hj => ?_, fun a j g1 g2 => ?_⟩
  · have e13 : (sI S 0 13 (nI m)).1 0 13 = nI m := by rw [sI_rd, if_pos ⟨rfl, rfl⟩]
    have o1 : (if (8 : Int32) < nI len then (8 : Int32) else nI len) = nI len := if_neg (fun z => by have := (xLt (a := 8) (by omega) (by omega)).mp z; omega)
    have o2 : (if nI len < nI m then nI len else nI m) = nI m := if_neg (fun z => by have := (xLt (by omega) (by omega)).mp z; omega)
    have hk := kC_of hs hb s_186 (by decide +kernel) (0 : Int32) (0 : Int32) (nI m)
    rw [cpOk0 hm (by omega) (by omega)] at hk
    unfold fX11_lay
    rw [kL_of hs hb, hs]
    rw [show Int32.ofNat (kLen (.inr (.int, len))) = nI len from rfl]
    simp only [o1, o2, kO_0, g_t, b_d, b_c, b_v, Bool.and_true, Bool.and_self, Bool.true_and, e13, hk]
  · rw [sC0 (by omega), if_neg (by omega), sI_rd, if_pos ⟨rfl, rfl⟩]
  · rw [sC0 (by omega), if_pos ⟨rfl, hj⟩, sI_ne (by omega)]
  · rw [sC0 (by omega), if_neg (by omega), sI_ne g2]
theorem Rel_nrl {k n : Nat} {b : Bool} {S S' : mT} (hA : rA (shU b) n S) (hN : rN S) (hB : rBox S) (hT : rTime S) (a : agr (supA (shU b) ++ (supN ++ (supBox ++ supTime))) S S') (c : rC k n S') (l : rLie S') : Rel (k + 6) b S' := by
  obtain ⟨a1, a⟩ := agr_app.mp a
  obtain ⟨a2, a⟩ := agr_app.mp a
  obtain ⟨a3, a5⟩ := agr_app.mp a
  exact Rel_iff.mpr ⟨n, rA_fr a1 hA, rN_fr a2 hN, rBox_fr a3 hB, rC_up c, rTime_fr a5 hT, l⟩
theorem lcW_le (n r : Nat) (st lo hi : Nat → Nat) (c : Nat → Bool) (w : Nat) : lcW n r st lo hi c w ≤ r := lcR_le _ _ _
theorem zz_liars : zH_liars Rel := by
  intro k b S v hk h
  obtain ⟨n, hA, hN, hBx, hC, hT, hL⟩ := Rel_iff.mp h
  have hn := hA.1.1
  have n1 := hA.1.2.1
  have n2 := hA.1.2.2.1
  have sh : shU b = 3 ∨ shU b = 19 := by cases b; exact Or.inl rfl; exact Or.inr rfl
  obtain ⟨t, C, c0, c1, cC, cV, cf, cm⟩ := l_both hn hC v
  obtain ⟨_, _, w, w1, w2, w3⟩ := cV
  have n1C : C.1 (shU b) 9 = nI n := by rw [cf _ _ (by omega)]; exact n1
  obtain ⟨C2, y1, y2, y3, y4⟩ := s_lay2 (a1 := 185) s_185 (by decide +kernel) (by omega) hn (by omega) C
  have hf1 : fX11_liars b v S = some (nI (lW n C w), C2) := by
    have y5 : C2.1 140 5 = nI (lW n C w) := by rw [y4 _ _ (by omega) (by omega)]; exact w2
    unfold fX11_liars
    rw [kO_0, c0]
    simp only [kO_u, kO_140, g_t, b_d, b_c, b_v, Bool.and_true, Bool.and_self, Bool.true_and, n1, c1, n1C, y1, y5]
  have fC2 : ∀ a j, a ≠ 0 → a ≠ 186 → (a < 140 ∨ 185 < a) → C2.1 a j = S.1 a j := fun a j g1 g2 g3 => by rw [y4 a j g2 (by omega), cf a j g3]
  have n2C : C2.1 187 37 = nI n := by rw [fC2 _ _ (by omega) (by omega) (by omega)]; exact n2
  have hlo := cm C2 n2C (fC2 _ _ (by omega) (by omega) (by omega)) (fun a h1 h2 => funext fun j => fC2 a j (by omega) (by omega) (by omega))
  obtain ⟨w', v1, v2⟩ := m_li14 (f := lW n C) hn hlo (fun x => lcW_le _ _ _ _ _ _ _) (8 ^ n) 0 mK 31 0 (by omega) (by have := mK_gt; have := p8 hn; omega) (by omega) (Or.inl ⟨rfl, rfl, rfl⟩)
  have ew := few_uniq w1 v1
  subst ew
  obtain ⟨L', r1, r2, _, r4, r5⟩ := m_li55 hn w1.1 (nI (lW n C w)) n 0 mK C2 (by omega) (by have := mK_gt; omega) n2C
  have hf2 : fX12_liars v C2 = some (nI (lW n C w), L') := by
    unfold fX12_liars
    rw [m_rows hn n2C, b_c]
    exact v2.trans r1
  have aR : agr supR C C2 := by
    have z : ∀ a, a ≠ 0 → a ≠ 186 → C2.1 a = C.1 a := fun a g1 g2 => funext fun j => y4 a j g2 (by omega)
    exact ⟨fun a _ _ => z a (by omega) (by omega), fun a _ _ => z a (by omega) (by omega), y4 _ _ (by omega) (by omega), y4 _ _ (by omega) (by omega), fun a _ _ => z a (by omega) (by omega), fun a _ _ => z a (by omega) (by omega), y4 _ _ (by omega) (by omega), fun a _ _ => z a (by omega) (by omega), fun a _ _ => z a (by omega) (by omega), y4 _ _ (by omega) (by omega), trivial⟩
  refine ⟨_, _, _, hf1, hf2, Rel_nrl hA hN hBx hT (agr_trans (av_agr (L := cond b LX11_liars_t LX11_liars_f) (by cases b; exact rX11_liars_f hf1; exact rX11_liars_t hf1) (by cases b <;> decide +kernel)) (av_agr (rX12_liars hf2) (by cases b <;> decide +kernel))) (rC_fr hn (av_agr (rX12_liars hf2) (by decide +kernel)) (rC_fr hn aR cC)) ⟨n, by omega, ?_, r4, fun i hi => ?_⟩⟩
  · rw [r5 _ _ (by omega) (by omega)]
    exact y2
  · rw [r5 _ _ (by omega) (by omega), y3 i hi, w3 i hi, r2 i (by omega) hi]
