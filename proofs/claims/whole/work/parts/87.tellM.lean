/-! TELLS: the reference. -/
def okL (n : Nat) (S L : mT) : Prop := L.1 187 37 = nI n ∧ L.1 187 66 = S.1 187 66 ∧ ∀ a, 224 ≤ a → a ≤ 228 → L.1 a = S.1 a
theorem okL_fr {n : Nat} {S L L' : mT} (h : okL n S L) (f : ∀ a j, a ≠ 230 → L'.1 a j = L.1 a j) : okL n S L' := ⟨by rw [f _ _ (by omega)]; exact h.1, by rw [f _ _ (by omega)]; exact h.2.1, fun a h1 h2 => (funext fun j => f a j (by omega) : L'.1 a = L.1 a).trans (h.2.2 a h1 h2)⟩
theorem kN230_1 : kN 230 (1 : Int32) = 1 := by rw [kN_230]; rfl
theorem kN230_0 : kN 230 (0 : Int32) = 0 := by rw [kN_230]; rfl
section
variable {n : Nat} {P : Nat → Bool} {S : mT} {v : Int32}
theorem m_ta66 (hn : n ≤ 5) {s w : Nat} (hs : s < 32) (hw : w < 8 ^ n) {L : mT} (n2 : L.1 187 37 = nI n) (V3 : Int32) (rc : Int32 → Int32 → Int32 → Int32 → Int32 → mT → Option (Int32 × mT)) : ∀ (m i k : Nat), i + m = n → m < k → fX12_tellsAll_66 rc k (nI s) v V3 (nI w) (nI (owN n w s i)) (nI i) L = rc (nI s) v V3 (if L.1 230 (owN n w s n) = 0 then 1 else 0) (nI (w + 1)) (sI L 230 (owN n w s n) 1)
  | 0, i, k, hi, hk => by
    obtain ⟨k', rfl⟩ := up1 hk
    have hi : i = n := by omega
    subst hi
    have c : nI i ≤ nI i := Int32.le_refl _
    have hp := p8 hn
    have hl := owN_le i w s i
    have o1 : nI w + (1 : Int32) = nI (w + 1) := nI_add w 1
    by_cases q : L.1 230 (owN i w s i) = 0
    · rw [if_pos q]
      simp (disch := omega) only [fX12_tellsAll_66, fX12_tellsAll_126, fX12_tellsAll_136, kO_187, kB_230, kN230_1, g_t, b_d, b_c, b_v, Bool.and_true, Bool.and_self, Bool.true_and, n2, if_pos c, xIx, xIn, if_pos q, o1]
    · rw [if_neg q]
      simp (disch := omega) only [fX12_tellsAll_66, fX12_tellsAll_126, fX12_tellsAll_136, kO_187, kB_230, kN230_1, g_t, b_d, b_c, b_v, Bool.and_true, Bool.and_self, Bool.true_and, n2, if_pos c, xIx, xIn, if_neg q, o1]
  | m + 1, i, k, hi, hk => by
    obtain ⟨k', rfl⟩ := up1 hk
    have c : ¬ nI n ≤ nI i := fun y => by have := (xLe (by omega) (by omega)).mp y; omega
    have o1 : nI i + (1 : Int32) = nI (i + 1) := nI_add i 1
    have hb := bit_n (a := s) (h := i) (by omega) (by omega)
    have e1 : nI n - (1 : Int32) - nI i = nI (n - 1 - i) := by rw [show (1 : Int32) = nI 1 from rfl, xS (by omega), xS (by omega)]
    have e2 : (3 : Int32) * nI (n - 1 - i) = nI (3 * (n - 1 - i)) := xM 3 _
    have e3 := zD_n (a := owN n w s i) (k := 3 * (n - 1 - i)) (by omega)
    rw [← m_ta66 hn hs hw n2 V3 rc m (i + 1) k' (by omega) (by omega)]
    by_cases q : s / 2 ^ i % 2 = 0
    · have q' : nI (s / 2 ^ i % 2) = 0 := by rw [q]; rfl
      have es : owN n w s (i + 1) = zD (owN n w s i) (3 * (n - 1 - i)) := if_pos q
      rw [es]
      simp only [fX12_tellsAll_66, fX12_tellsAll_105, kO_187, g_t, b_d, b_c, b_v, Bool.and_true, Bool.and_self, Bool.true_and, n2, if_neg c, hb, if_pos q', e1, e2, e3, o1]
    · have q' : ¬ nI (s / 2 ^ i % 2) = 0 := fun y => q ((xEq (b := 0) (by omega) (by omega)).mp y)
      have es : owN n w s (i + 1) = owN n w s i := if_neg q
      rw [es]
      simp only [fX12_tellsAll_66, fX12_tellsAll_105, kO_187, g_t, b_d, b_c, b_v, Bool.and_true, Bool.and_self, Bool.true_and, n2, if_neg c, hb, if_neg q', o1]
theorem m_ta34 (hn : n ≤ 5) {s : Nat} (hs : s < 32) (hl : ∀ L, okL n S L → ∀ w, w < 8 ^ n → fX12_liarsOf (nI w) v (nI 0) L = some (nI (if P w = true then 0 else 1), L)) : ∀ (m W k : Nat) (L : mT), W + m = 8 ^ n → m < k → okL n S L → (∀ y, y < 8 ^ n → (L.1 230 y = 1 ∧ ∃ w, w < W ∧ P w = true ∧ owN n w s n = y) ∨ (L.1 230 y = 0 ∧ ∀ w, w < W → P w = true → owN n w s n ≠ y)) → injW P (fun w => owN n w s n) W → ∃ r L', fX12_tellsAll_34 k (nI s) v (nI (8 ^ n)) (1 : Int32) (nI W) L = some (r, L') ∧ ((r = 1 ∧ injW P (fun w => owN n w s n) (8 ^ n)) ∨ (r = 0 ∧ ¬ injW P (fun w => owN n w s n) (8 ^ n))) ∧ ∀ a j, a ≠ 230 → L'.1 a j = L.1 a j
  | 0, W, k, L, hW, hk, h, hse, hi => by
    obtain ⟨k', rfl⟩ := up1 hk
    have hW : W = 8 ^ n := by omega
    subst hW
    have c : nI (8 ^ n) ≤ nI (8 ^ n) := Int32.le_refl _
    have f1 : mFit .boolean (1 : Int32) = true := by decide
    exact ⟨1, L, by simp only [fX12_tellsAll_34, fX12_tellsAll_142, if_pos c, f1, g_t, b_d, b_c, b_v, Bool.and_true, Bool.and_self, Bool.true_and], Or.inl ⟨rfl, hi⟩, fun _ _ _ => rfl⟩
  | m + 1, W, k, L, hW, hk, h, hse, hi => by
    obtain ⟨k', rfl⟩ := up1 hk
    have hp := p8 hn
    have c : ¬ nI (8 ^ n) ≤ nI W := fun y => by have := (xLe (by omega) (by omega)).mp y; omega
    have c1 : ¬ (1 : Int32) = 0 := by decide
    have o1 : nI W + (1 : Int32) = nI (W + 1) := nI_add W 1
    have h1 := hl L h W (by omega)
    have h1' : fX12_liarsOf (nI W) v (0 : Int32) L = _ := h1
    by_cases q : P W = true
    · have z0 : nI (if P W = true then 0 else 1) ≤ 0 := by rw [if_pos q]; decide
      have ho := owN_le n W s n
      have st := m_ta66 (v := v) hn hs (w := W) (by omega) h.1 (nI (8 ^ n)) (fX12_tellsAll_34 k') n 0 mK (by omega) (by have := mK_gt; omega)
      have st' : fX12_tellsAll_66 (fX12_tellsAll_34 k') mK (nI s) v (nI (8 ^ n)) (nI W) (nI W) (0 : Int32) L = _ := st
      have st0 : fX12_tellsAll_34 (k' + 1) (nI s) v (nI (8 ^ n)) (1 : Int32) (nI W) L = fX12_tellsAll_34 k' (nI s) v (nI (8 ^ n)) (if L.1 230 (owN n W s n) = 0 then 1 else 0) (nI (W + 1)) (sI L 230 (owN n W s n) 1) := by
        rw [← st']
        simp only [fX12_tellsAll_34, if_neg c, if_neg c1, h1', g_t, b_d, b_c, b_v, Bool.and_true, Bool.and_self, Bool.true_and, if_pos z0]
      rw [st0]
      rcases hse (owN n W s n) (by omega) with ⟨y1, w, y2, y3, y4⟩ | ⟨y1, y2⟩
      · have y0 : ¬ L.1 230 (owN n W s n) = 0 := by rw [y1]; decide
        rw [if_neg y0]
        obtain ⟨k'', rfl⟩ : ∃ k'', k' = k'' + 1 := ⟨k' - 1, by omega⟩
        have f0 : mFit .boolean (0 : Int32) = true := by decide
        refine ⟨0, sI L 230 (owN n W s n) 1, ?_, Or.inr ⟨rfl, fun H => ?_⟩, fun a j g => by rw [sI_ne (by omega)]⟩
        · by_cases c2 : nI (8 ^ n) ≤ nI (W + 1)
          · simp only [fX12_tellsAll_34, fX12_tellsAll_142, if_pos c2, f0, g_t, b_d, b_c, b_v, Bool.and_true, Bool.and_self, Bool.true_and]
          · simp only [fX12_tellsAll_34, fX12_tellsAll_142, if_neg c2, if_true, f0, g_t, b_d, b_c, b_v, Bool.and_true, Bool.and_self, Bool.true_and]
        · have := H w W (by omega) (by omega) y3 q y4
          omega
      · rw [if_pos y1]
        obtain ⟨r, L', r1, r2, r3⟩ := m_ta34 hn hs hl m (W + 1) k' (sI L 230 (owN n W s n) 1) (by omega) (by omega) (okL_fr h (fun a j g => by rw [sI_ne (by omega)])) (fun y hy => by
          by_cases e : y = owN n W s n
          · subst e
            exact Or.inl ⟨by rw [sI_eq], W, by omega, q, rfl⟩
          · rcases hse y hy with ⟨z1, w, z2, z3, z4⟩ | ⟨z1, z2⟩
            · exact Or.inl ⟨by rw [sI_ne (by omega)]; exact z1, w, by omega, z3, z4⟩
            · exact Or.inr ⟨by rw [sI_ne (by omega)]; exact z1, fun w hw hP => by
                by_cases u : w = W
                · rw [u]
                  exact fun z => e z.symm
                · exact z2 w (by omega) hP⟩) (fun w w' a1 a2 p1 p2 e => by
          by_cases u : w = W
          · by_cases u' : w' = W
            · rw [u, u']
            · subst u
              exact absurd e.symm (y2 w' (by omega) p2)
          · by_cases u' : w' = W
            · subst u'
              exact absurd e (y2 w (by omega) p1)
            · exact hi w w' (by omega) (by omega) p1 p2 e)
        exact ⟨r, L', r1, r2, fun a j g => by rw [r3 a j g, sI_ne (by omega)]⟩
    · have z0 : ¬ nI (if P W = true then 0 else 1) ≤ 0 := by rw [if_neg q]; decide
      obtain ⟨r, L', r1, r2, r3⟩ := m_ta34 hn hs hl m (W + 1) k' L (by omega) (by omega) h (fun y hy => by
        rcases hse y hy with ⟨z1, w, z2, z3, z4⟩ | ⟨z1, z2⟩
        · exact Or.inl ⟨z1, w, by omega, z3, z4⟩
        · exact Or.inr ⟨z1, fun w hw hP => by
            by_cases u : w = W
            · rw [u] at hP
              exact absurd hP q
            · exact z2 w (by omega) hP⟩) (fun w w' a1 a2 p1 p2 e => by
        by_cases u : w = W
        · rw [u] at p1
          exact absurd p1 q
        · by_cases u' : w' = W
          · rw [u'] at p2
            exact absurd p2 q
          · exact hi w w' (by omega) (by omega) p1 p2 e)
      refine ⟨r, L', ?_, r2, r3⟩
      rw [← r1]
      simp only [fX12_tellsAll_34, fX12_tellsAll_136, if_neg c, if_neg c1, h1', g_t, b_d, b_c, b_v, Bool.and_true, Bool.and_self, Bool.true_and, if_neg z0, o1]
theorem m_ta8 (hn : n ≤ 5) (v1 : Int32) : ∀ (m i k : Nat) (L : mT), i + m = 8 ^ n → m < k → ∃ L', fX12_tellsAll_8 k v1 v (nI (8 ^ n)) (nI i) L = fX12_tellsAll_34 mK v1 v (nI (8 ^ n)) (1 : Int32) (0 : Int32) L' ∧ (∀ y, i ≤ y → y < 8 ^ n → L'.1 230 y = 0) ∧ (∀ y, y < i → L'.1 230 y = L.1 230 y) ∧ ∀ a j, a ≠ 230 → L'.1 a j = L.1 a j
  | 0, i, k, L, hi, hk => by
    obtain ⟨k', rfl⟩ := up1 hk
    have hi : i = 8 ^ n := by omega
    subst hi
    have c : nI (8 ^ n) ≤ nI (8 ^ n) := Int32.le_refl _
    exact ⟨L, by simp only [fX12_tellsAll_8, if_pos c], fun y h1 h2 => by omega, fun _ _ => rfl, fun _ _ _ => rfl⟩
  | m + 1, i, k, L, hi, hk => by
    obtain ⟨k', rfl⟩ := up1 hk
    have hp := p8 hn
    have c : ¬ nI (8 ^ n) ≤ nI i := fun y => by have := (xLe (by omega) (by omega)).mp y; omega
    have o1 : nI i + (1 : Int32) = nI (i + 1) := nI_add i 1
    obtain ⟨L', r1, r2, r3, r4⟩ := m_ta8 hn v1 m (i + 1) k' (sI L 230 i 0) (by omega) (by omega)
    refine ⟨L', ?_, fun y h1 h2 => ?_, fun y hy => by rw [r3 y (by omega), sI_ne (by omega)], fun a j g => by rw [r4 a j g, sI_ne (by omega)]⟩
    · rw [← r1]
      simp (disch := omega) only [fX12_tellsAll_8, if_neg c, kO_187, kB_230, kN230_0, g_t, b_d, b_c, b_v, Bool.and_true, Bool.and_self, Bool.true_and, xIx, xIn, o1]
    · by_cases q : y = i
      · subst q
        rw [r3 y (by omega), sI_eq]
      · exact r2 y (by omega) h2
theorem m_tall (hn : n ≤ 5) {s : Nat} (hs : s < 32) (hl : ∀ L, okL n S L → ∀ w, w < 8 ^ n → fX12_liarsOf (nI w) v (nI 0) L = some (nI (if P w = true then 0 else 1), L)) {L : mT} (h : okL n S L) : ∃ r L', fX12_tellsAll (nI s) v L = some (r, L') ∧ ((r = 1 ∧ apt n P s) ∨ (r = 0 ∧ ¬ apt n P s)) ∧ ∀ a j, a ≠ 230 → L'.1 a j = L.1 a j := by
  have hp := p8 hn
  obtain ⟨L1, f1, f2, _, f4⟩ := m_ta8 (v := v) hn (nI s) (8 ^ n) 0 mK L (by omega) (by have := mK_gt; omega)
  obtain ⟨r, L', r1, r2, r3⟩ := m_ta34 hn hs hl (8 ^ n) 0 mK L1 (by omega) (by have := mK_gt; omega) (okL_fr h f4) (fun y hy => Or.inr ⟨f2 y (by omega) hy, fun w hw => absurd hw (Nat.not_lt_zero _)⟩) (fun w w' hw => absurd hw (Nat.not_lt_zero _))
  refine ⟨r, L', ?_, by rw [apt_ow hn]; exact r2, fun a j g => by rw [r3 a j g, f4 a j g]⟩
  have f1' : fX12_tellsAll_8 mK (nI s) v (nI (8 ^ n)) (0 : Int32) L = _ := f1
  have r1' : fX12_tellsAll_34 mK (nI s) v (nI (8 ^ n)) (1 : Int32) (0 : Int32) L1 = _ := r1
  unfold fX12_tellsAll
  rw [m_rows hn h.1, b_c, f1', r1']
theorem m_mem4 {s : Nat} (hs : s < 32) {L : mT} : ∀ (m i k : Nat), i + m = 5 → m < k → fX12_membersOf_4 k (nI s) (nI (pcN s i)) (nI i) L = some (nI (pcN s 5), L)
  | 0, i, k, hi, hk => by
    obtain ⟨k', rfl⟩ := up1 hk
    have hi : i = 5 := by omega
    subst hi
    have c : (5 : Int32) ≤ nI 5 := by decide
    simp only [fX12_membersOf_4, if_pos c]
  | m + 1, i, k, hi, hk => by
    obtain ⟨k', rfl⟩ := up1 hk
    have c : ¬ (5 : Int32) ≤ nI i := fun y => by have := (xLe (a := 5) (by omega) (by omega)).mp y; omega
    have o1 : nI i + (1 : Int32) = nI (i + 1) := nI_add i 1
    have hb := bit_n (a := s) (h := i) (by omega) (by omega)
    have o2 : nI (pcN s i) + nI (s / 2 ^ i % 2) = nI (pcN s (i + 1)) := nI_add _ _
    rw [← m_mem4 hs m (i + 1) k' (by omega) (by omega)]
    simp only [fX12_membersOf_4, if_neg c, hb, g_t, b_d, b_c, b_v, Bool.and_true, Bool.and_self, Bool.true_and, o1, o2]
theorem m_mem {s : Nat} (hs : s < 32) (L : mT) : fX12_membersOf (nI s) L = some (nI (pcN s 5), L) := m_mem4 hs 5 0 mK (by omega) (by have := mK_gt; omega)
theorem m_te37 (hn : n ≤ 5) (w : Int32) (hl : ∀ L, okL n S L → ∀ w, w < 8 ^ n → fX12_liarsOf (nI w) v (nI 0) L = some (nI (if P w = true then 0 else 1), L)) : ∀ (m s k b : Nat) (L : mT), s + m = 2 ^ n → m < k → okL n S L → b < 2 ^ n → apt n P b → (∀ s', s' < s → apt n P s' → pcN b 5 < pcN s' 5 ∨ (pcN b 5 = pcN s' 5 ∧ b ≤ s')) → ∃ T L', isTell n P T ∧ fX12_tells_37 k w v (nI b) (nI s) L = some (if w = 0 then nI (pcN T 5) else nI T, L')
  | 0, s, k, b, L, hs, hk, h, hb, ha, hi => by
    obtain ⟨k', rfl⟩ := up1 hk
    have hs : s = 2 ^ n := by omega
    subst hs
    have hp := p32 hn
    have c : nI (2 ^ n) ≤ nI (2 ^ n) := Int32.le_refl _
    refine ⟨b, L, ⟨hb, ha, hi⟩, ?_⟩
    by_cases q : w = 0
    · simp only [fX12_tells_37, fX12_tells_109, kO_187, g_t, b_d, b_c, b_v, Bool.and_true, Bool.and_self, Bool.true_and, h.1, shl1 n (by omega), if_pos c, if_pos q, m_mem (s := b) (by omega)]
    · simp only [fX12_tells_37, fX12_tells_109, kO_187, g_t, b_d, b_c, b_v, Bool.and_true, Bool.and_self, Bool.true_and, h.1, shl1 n (by omega), if_pos c, if_neg q]
  | m + 1, s, k, b, L, hs, hk, h, hb, ha, hi => by
    obtain ⟨k', rfl⟩ := up1 hk
    have hp := p32 hn
    have c : ¬ nI (2 ^ n) ≤ nI s := fun y => by have := (xLe (by omega) (by omega)).mp y; omega
    have o1 : nI s + (1 : Int32) = nI (s + 1) := nI_add s 1
    have m1 := m_mem (s := s) (by omega) L
    have m2 := m_mem (s := b) (by omega) L
    have l1 := pcN_le s 5
    have l2 := pcN_le b 5
    have skip : (apt n P s → pcN b 5 < pcN s 5 ∨ (pcN b 5 = pcN s 5 ∧ b ≤ s)) → ∀ L1, okL n S L1 → ∃ T L', isTell n P T ∧ fX12_tells_91 (fX12_tells_37 k') w v (nI b) (nI s) L1 = some (if w = 0 then nI (pcN T 5) else nI T, L') := fun e L1 h1 => by
      obtain ⟨T, L', r1, r2⟩ := m_te37 hn w hl m (s + 1) k' b L1 (by omega) (by omega) h1 hb ha (fun s' hs' ha' => by
        by_cases u : s' = s
        · rw [u] at ha' ⊢
          exact e ha'
        · exact hi s' (by omega) ha')
      refine ⟨T, L', r1, ?_⟩
      rw [← r2]
      simp only [fX12_tells_91, g_t, b_d, b_c, b_v, Bool.and_true, Bool.and_self, Bool.true_and, o1]
    have take : (pcN s 5 < pcN b 5 ∨ (pcN s 5 = pcN b 5 ∧ s < b)) → ∃ T L', isTell n P T ∧ fX12_tells_78 (fX12_tells_37 k') w v (nI b) (nI s) L = some (if w = 0 then nI (pcN T 5) else nI T, L') := fun e => by
      obtain ⟨r, L1, t1, t2, t3⟩ := m_tall hn (s := s) (by omega) hl h
      have h1 := okL_fr h t3
      rcases t2 with ⟨z, za⟩ | ⟨z, za⟩
      · subst z
        obtain ⟨T, L', r1, r2⟩ := m_te37 hn w hl m (s + 1) k' s L1 (by omega) (by omega) h1 (by omega) za (fun s' hs' ha' => by
          by_cases u : s' = s
          · rw [u]
            exact Or.inr ⟨rfl, Nat.le_refl _⟩
          · have := hi s' (by omega) ha'
            omega)
        refine ⟨T, L', r1, ?_⟩
        rw [← r2]
        simp only [fX12_tells_78, fX12_tells_91, t1, g_t, b_d, b_c, b_v, Bool.and_true, Bool.and_self, Bool.true_and, if_neg (by decide : ¬ (1 : Int32) = 0), o1]
      · subst z
        obtain ⟨T, L', r1, r2⟩ := skip (fun y => absurd y za) L1 h1
        refine ⟨T, L', r1, ?_⟩
        rw [← r2]
        simp only [fX12_tells_78, t1, g_t, b_d, b_c, b_v, Bool.and_true, Bool.and_self, Bool.true_and, if_true]
    by_cases q1 : pcN s 5 < pcN b 5
    · have q1' : nI (pcN s 5) < nI (pcN b 5) := (xLt (by omega) (by omega)).mpr q1
      obtain ⟨T, L', r1, r2⟩ := take (Or.inl q1)
      refine ⟨T, L', r1, ?_⟩
      rw [← r2]
      simp only [fX12_tells_37, kO_187, g_t, b_d, b_c, b_v, Bool.and_true, Bool.and_self, Bool.true_and, h.1, shl1 n (by omega), if_neg c, m1, m2, if_pos q1']
    · have q1' : ¬ nI (pcN s 5) < nI (pcN b 5) := fun y => q1 ((xLt (by omega) (by omega)).mp y)
      by_cases q2 : pcN s 5 = pcN b 5
      · have q2' : nI (pcN s 5) = nI (pcN b 5) := congrArg nI q2
        by_cases q3 : b ≤ s
        · have q3' : nI b ≤ nI s := (xLe (by omega) (by omega)).mpr q3
          obtain ⟨T, L', r1, r2⟩ := skip (fun _ => Or.inr ⟨q2.symm, q3⟩) L h
          refine ⟨T, L', r1, ?_⟩
          rw [← r2]
          simp only [fX12_tells_37, kO_187, g_t, b_d, b_c, b_v, Bool.and_true, Bool.and_self, Bool.true_and, h.1, shl1 n (by omega), if_neg c, m1, m2, if_neg q1', if_pos q2', if_pos q3']
        · have q3' : ¬ nI b ≤ nI s := fun y => q3 ((xLe (by omega) (by omega)).mp y)
          obtain ⟨T, L', r1, r2⟩ := take (Or.inr ⟨q2, by omega⟩)
          refine ⟨T, L', r1, ?_⟩
          rw [← r2]
          simp only [fX12_tells_37, kO_187, g_t, b_d, b_c, b_v, Bool.and_true, Bool.and_self, Bool.true_and, h.1, shl1 n (by omega), if_neg c, m1, m2, if_neg q1', if_pos q2', if_neg q3']
      · have q2' : ¬ nI (pcN s 5) = nI (pcN b 5) := fun y => q2 ((xEq (by omega) (by omega)).mp y)
        obtain ⟨T, L', r1, r2⟩ := skip (fun _ => Or.inl (by omega)) L h
        refine ⟨T, L', r1, ?_⟩
        rw [← r2]
        simp only [fX12_tells_37, kO_187, g_t, b_d, b_c, b_v, Bool.and_true, Bool.and_self, Bool.true_and, h.1, shl1 n (by omega), if_neg c, m1, m2, if_neg q1', if_neg q2']
end
