/-! TELLS: the class looks for the set. -/
section
variable {n : Nat} {P : Nat → Bool}
theorem pc_5 {s : Nat} (hn : n ≤ 5) (hs : s < 2 ^ n) : pcN s n = pcN s 5 := by
  have := pcN_top hs (5 - n)
  rw [show n + (5 - n) = 5 by omega] at this
  exact this.symm
theorem c_po5 (hn : n ≤ 5) {s w : Nat} (hs : s < 2 ^ n - 1) {C : mT} (e9 : C.1 120 9 = nI n) : ∀ (m i k : Nat), i + m = n → m < k → fX10_partOf_5 k (nI (cdS n w n)) (nI s) (nI (ptN n w s i)) (nI i) C = some (nI (ptN n w s n), C)
  | 0, i, k, hi, hk => by
    obtain ⟨k', rfl⟩ := up1 hk
    have hi : i = n := by omega
    subst hi
    have c : nI i ≤ nI i := Int32.le_refl _
    have h1 := ptN_lt i w s i
    have h2 := pc_les i hn s hs
    have h3 : 8 ^ pcN s i ≤ 8 ^ 4 := Nat.pow_le_pow_right (by omega) (by omega)
    have e : nI (ptN i w s i) &&& (4095 : Int32) = nI (ptN i w s i) := by
      rw [show (4095 : Int32) = nI 4095 from rfl, nI_and]
      congr 1
      have := Nat.and_two_pow_sub_one_eq_mod (ptN i w s i) 12
      rw [show 2 ^ 12 - 1 = 4095 from rfl] at this
      rw [this]
      exact Nat.mod_eq_of_lt (by omega)
    simp only [fX10_partOf_5, kO_120, g_t, b_d, b_c, b_v, Bool.and_true, Bool.and_self, Bool.true_and, e9, if_pos c, e]
  | m + 1, i, k, hi, hk => by
    obtain ⟨k', rfl⟩ := up1 hk
    have hp := p32 hn
    have c : ¬ nI n ≤ nI i := fun y => by have := (xLe (by omega) (by omega)).mp y; omega
    have o1 : nI i + (1 : Int32) = nI (i + 1) := nI_add i 1
    have hb := bit_eq (a := s) (h := i) (by omega) (by omega)
    have h1 := ptN_lt n w s i
    have h2 := pc_les n hn s hs
    have h4 := pcN_mono s (i := i) (n - i)
    rw [show i + (n - i) = n by omega] at h4
    have h3 : 8 ^ pcN s i ≤ 8 ^ 4 := Nat.pow_le_pow_right (by omega) (by omega)
    have h5 := cdS_lt n w n
    have h6 := p8 hn
    have e1 : (3 : Int32) * nI i = nI (3 * i) := xM 3 i
    have e2 : nI (cdS n w n) >>> (nI (3 * i) &&& 31) &&& (7 : Int32) = nI (dg8 n w i) := by
      rw [shr_n (by omega) (by omega), and7_n, e83, cdS_dg n (by omega)]
    have e3 : nI (ptN n w s i) <<< ((3 : Int32) &&& 31) = nI (ptN n w s i * 2 ^ 3) := shl_n (k := 3) (by omega) (by omega)
    have e4 : nI (ptN n w s i * 2 ^ 3) ||| nI (dg8 n w i) = nI (ptN n w s i * 2 ^ 3 + dg8 n w i) := or_add' (dg_lt n w i)
    rw [← c_po5 hn hs (w := w) e9 m (i + 1) k' (by omega) (by omega)]
    by_cases q : s / 2 ^ i % 2 = 1
    · have q' := hb.mpr q
      have es : ptN n w s (i + 1) = ptN n w s i * 2 ^ 3 + dg8 n w i := if_pos q
      rw [es]
      simp only [fX10_partOf_5, fX10_partOf_38, kO_120, g_t, b_d, b_c, b_v, Bool.and_true, Bool.and_self, Bool.true_and, e9, if_neg c, if_pos q', e1, e2, e3, e4, o1]
    · have q' : ¬ _ := fun y => q (hb.mp y)
      have es : ptN n w s (i + 1) = ptN n w s i := if_neg q
      rw [es]
      simp only [fX10_partOf_5, fX10_partOf_38, kO_120, g_t, b_d, b_c, b_v, Bool.and_true, Bool.and_self, Bool.true_and, e9, if_neg c, if_neg q', o1]
theorem c_ta12 (hn : n ≤ 5) {s sp : Nat} (hs : s < 2 ^ n - 1) (hsp : sp ≤ 1000000) (hcap : cN P (8 ^ n) ≤ 4096) : ∀ (m W k : Nat) (C : mT), W + m = 8 ^ n → m < k → C.1 120 9 = nI n → gK n P (8 ^ n) C → C.1 120 7 = nI sp → (∀ y, y < 4096 → (C.1 139 y = nI sp ∧ ∃ w, w < W ∧ P w = true ∧ ptN n w s n = y) ∨ (∃ x, x < sp ∧ C.1 139 y = nI x ∧ ∀ w, w < W → P w = true → ptN n w s n ≠ y)) → injW P (fun w => ptN n w s n) W → ∃ r C', fX10_tellsApart_12 k (nI s) (nI (cN P W)) C = some (r, C') ∧ ((r = 1 ∧ injW P (fun w => ptN n w s n) (8 ^ n)) ∨ (r = 0 ∧ ¬ injW P (fun w => ptN n w s n) (8 ^ n))) ∧ (∀ y, y < 4096 → ∃ x, x ≤ sp ∧ C'.1 139 y = nI x) ∧ ∀ a j, a ≠ 139 → C'.1 a j = C.1 a j
  | 0, W, k, C, hW, hk, e9, hg, e7, hse, hi => by
    obtain ⟨k', rfl⟩ := up1 hk
    have hW : W = 8 ^ n := by omega
    subst hW
    have c : nI (cN P (8 ^ n)) ≤ nI (cN P (8 ^ n)) := Int32.le_refl _
    exact ⟨1, C, by simp only [fX10_tellsApart_12, kO_120, g_t, b_d, b_c, b_v, Bool.and_true, Bool.and_self, Bool.true_and, hg.1, if_pos c], Or.inl ⟨rfl, hi⟩, fun y hy => by
      rcases hse y hy with ⟨z, _⟩ | ⟨x, z1, z2, _⟩
      · exact ⟨sp, Nat.le_refl _, z⟩
      · exact ⟨x, by omega, z2⟩, fun _ _ _ => rfl⟩
  | m + 1, W, k, C, hW, hk, e9, hg, e7, hse, hi => by
    obtain ⟨k', rfl⟩ := up1 hk
    have hp := p8 hn
    by_cases q : P W = true
    · have hcl := cN_lt P (a := W) (b := 8 ^ n) q (by omega)
      have c : ¬ nI (cN P (8 ^ n)) ≤ nI (cN P W) := fun y => by have := (xLe (by omega) (by omega)).mp y; omega
      have o1 : nI (cN P W) + (1 : Int32) = nI (cN P W + 1) := nI_add _ 1
      have ec : cN P (W + 1) = cN P W + 1 := if_pos q
      have e138 := hg.2 W (by omega) q
      have hpo : fX10_partOf (nI (cdS n W n)) (nI s) C = some (nI (ptN n W s n), C) := c_po5 hn hs (w := W) e9 n 0 mK (by omega) (by have := mK_gt; omega)
      have hlt : ptN n W s n < 4096 := by
        have h1 := ptN_lt n W s n
        have h2 := pc_les n hn s hs
        have h3 : 8 ^ pcN s n ≤ 8 ^ 4 := Nat.pow_le_pow_right (by omega) (by omega)
        omega
      rcases hse (ptN n W s n) hlt with ⟨y1, w, y2, y3, y4⟩ | ⟨x, y1, y2, y3⟩
      · refine ⟨0, C, ?_, Or.inr ⟨rfl, fun H => ?_⟩, fun y hy => ?_, fun _ _ _ => rfl⟩
        · simp (disch := omega) only [fX10_tellsApart_12, kO_120, kI_138, kI_139, g_t, b_d, b_c, b_v, Bool.and_true, Bool.and_self, Bool.true_and, hg.1, if_neg c, xIx, xIn, e138, hpo, y1, e7, if_true]
        · have := H w W (by omega) (by omega) y3 q y4
          omega
        · rcases hse y hy with ⟨z, _⟩ | ⟨x, z1, z2, _⟩
          · exact ⟨sp, Nat.le_refl _, z⟩
          · exact ⟨x, by omega, z2⟩
      · have c2 : ¬ nI x = nI sp := fun z => by have := (xEq (by omega) (by omega)).mp z; omega
        obtain ⟨r, C', r1, r2, r3, r4⟩ := c_ta12 hn hs hsp hcap m (W + 1) k' (sI C 139 (ptN n W s n) (nI sp)) (by omega) (by omega) (by rw [sI_ne (by omega)]; exact e9) ⟨by rw [sI_ne (by omega)]; exact hg.1, fun w hw hP => by rw [sI_ne (by omega)]; exact hg.2 w hw hP⟩ (by rw [sI_ne (by omega)]; exact e7) (fun y hy => by
          by_cases e : y = ptN n W s n
          · subst e
            exact Or.inl ⟨by rw [sI_eq], W, by omega, q, rfl⟩
          · rcases hse y hy with ⟨z1, w, z2, z3, z4⟩ | ⟨x', z1, z2, z3⟩
            · exact Or.inl ⟨by rw [sI_ne (by omega)]; exact z1, w, by omega, z3, z4⟩
            · exact Or.inr ⟨x', z1, by rw [sI_ne (by omega)]; exact z2, fun w hw hP => by
                by_cases u : w = W
                · rw [u]
                  exact fun z => e z.symm
                · exact z3 w (by omega) hP⟩) (fun w w' a1 a2 p1 p2 e => by
          by_cases u : w = W
          · by_cases u' : w' = W
            · rw [u, u']
            · subst u
              exact absurd e.symm (y3 w' (by omega) p2)
          · by_cases u' : w' = W
            · subst u'
              exact absurd e (y3 w (by omega) p1)
            · exact hi w w' (by omega) (by omega) p1 p2 e)
        refine ⟨r, C', ?_, r2, r3, fun a j g => by rw [r4 a j g, sI_ne (by omega)]⟩
        rw [← r1, ec]
        simp (disch := omega) only [fX10_tellsApart_12, kO_120, kI_138, kI_139, g_t, b_d, b_c, b_v, Bool.and_true, Bool.and_self, Bool.true_and, hg.1, if_neg c, xIx, xIn, e138, hpo, y2, e7, if_neg c2, o1]
    · have ec : cN P (W + 1) = cN P W := if_neg q
      obtain ⟨r, C', r1, r2, r3, r4⟩ := c_ta12 hn hs hsp hcap m (W + 1) (k' + 1) C (by omega) (by omega) e9 hg e7 (fun y hy => by
        rcases hse y hy with ⟨z1, w, z2, z3, z4⟩ | ⟨x', z1, z2, z3⟩
        · exact Or.inl ⟨z1, w, by omega, z3, z4⟩
        · exact Or.inr ⟨x', z1, z2, fun w hw hP => by
            by_cases u : w = W
            · rw [u] at hP
              exact absurd hP q
            · exact z3 w (by omega) hP⟩) (fun w w' a1 a2 p1 p2 e => by
        by_cases u : w = W
        · rw [u] at p1
          exact absurd p1 q
        · by_cases u' : w' = W
          · rw [u'] at p2
            exact absurd p2 q
          · exact hi w w' (by omega) (by omega) p1 p2 e)
      rw [ec] at r1
      exact ⟨r, C', r1, r2, r3, r4⟩
/-- the state in the search -/
def okS (n : Nat) (P : Nat → Bool) (sp : Nat) (C : mT) : Prop := C.1 120 9 = nI n ∧ C.1 120 8 = nI (cN P (8 ^ n)) ∧ gK n P (8 ^ n) C ∧ C.1 120 7 = nI sp ∧ ∀ y, y < 4096 → ∃ x, x ≤ sp ∧ C.1 139 y = nI x
def fS (C C' : mT) : Prop := ∀ a j, a ≠ 139 → ¬ (a = 120 ∧ j = 7) → C'.1 a j = C.1 a j
theorem c_ta (hn : n ≤ 5) {s sp : Nat} (hs : s < 2 ^ n - 1) (hsp : sp < 1000000) (hcap : cN P (8 ^ n) ≤ 4096) {C : mT} (h : okS n P sp C) : ∃ r C', fX10_tellsApart (nI s) C = some (r, C') ∧ ((r = 1 ∧ apt n P s) ∨ (r = 0 ∧ ¬ apt n P s)) ∧ okS n P (sp + 1) C' ∧ fS C C' := by
  obtain ⟨h1, h2, h3, h4, h5⟩ := h
  have o1 : nI sp + (1 : Int32) = nI (sp + 1) := nI_add sp 1
  have hp := p8 hn
  obtain ⟨r, C', r1, r2, r3, r4⟩ := c_ta12 (P := P) hn hs (sp := sp + 1) (by omega) hcap (8 ^ n) 0 mK (sI C 120 7 (nI (sp + 1))) (by omega) (by have := mK_gt; omega) (by rw [sI_ne (by omega)]; exact h1) ⟨by rw [sI_ne (by omega)]; exact h3.1, fun w hw hP => by rw [sI_ne (by omega)]; exact h3.2 w hw hP⟩ (by rw [sI_eq]) (fun y hy => by
    obtain ⟨x, x1, x2⟩ := h5 y hy
    exact Or.inr ⟨x, by omega, by rw [sI_ne (by omega)]; exact x2, fun w hw => absurd hw (Nat.not_lt_zero _)⟩) (fun w w' hw => absurd hw (Nat.not_lt_zero _))
  have fr : fS C C' := fun a j g1 g2 => by rw [r4 a j g1, sI_ne g2]
  refine ⟨r, C', ?_, by rw [apt_pt]; exact r2, ⟨by rw [fr _ _ (by omega) (by omega)]; exact h1, by rw [fr _ _ (by omega) (by omega)]; exact h2, ⟨by rw [fr _ _ (by omega) (by omega)]; exact h3.1, fun w hw hP => by rw [fr _ _ (by omega) (by omega)]; exact h3.2 w hw hP⟩, by rw [r4 _ _ (by omega), sI_eq], r3⟩, fr⟩
  have r1' : fX10_tellsApart_12 mK (nI s) (0 : Int32) (sI C 120 7 (nI (sp + 1))) = some (r, C') := r1
  unfold fX10_tellsApart
  simp only [kO_120, g_t, b_d, b_c, b_v, Bool.and_true, Bool.and_self, Bool.true_and, h4, o1, r1']
def rS (n : Nat) (P : Nat → Bool) (M : Nat) (x : Option (Int32 × mT)) (C : mT) : Prop := ∃ T C' sp, x = some (nI T, C') ∧ isTell n P T ∧ sp ≤ M ∧ okS n P sp C' ∧ fS C C'
theorem rS_tr {M M' : Nat} {x : Option (Int32 × mT)} {C C1 : mT} (f : fS C C1) (hM : M ≤ M') (h : rS n P M x C1) : rS n P M' x C := by
  obtain ⟨T, C', sp, h1, h2, h3, h4, h5⟩ := h
  exact ⟨T, C', sp, h1, h2, by omega, h4, fun a j g1 g2 => (h5 a j g1 g2).trans (f a j g1 g2)⟩
theorem c_ft58 (hn : n ≤ 5) {z M : Nat} (hz : z < n) (hcap : cN P (8 ^ n) ≤ 4096) (rc : Int32 → Int32 → mT → Option (Int32 × mT)) {N : Nat} (hN : N < 1000000) (cont : ∀ (C1 : mT) (sp : Nat), okS n P sp C1 → sp ≤ N → (∀ s', s' < 2 ^ n → apt n P s' → z + 1 ≤ pcN s' 5) → rS n P M (rc (nI (2 ^ n - 1)) (nI (z + 1)) C1) C1) (hNM : N ≤ M) : ∀ (m s k sp : Nat) (C : mT), s + m = 2 ^ n - 1 → m < k → okS n P sp C → sp + m ≤ N → (∀ s', s' < 2 ^ n → apt n P s' → z ≤ pcN s' 5 ∧ (pcN s' 5 = z → s ≤ s')) → rS n P M (fX10_findTelling_58 rc k (nI (2 ^ n - 1)) (nI z) (nI s) C) C
  | 0, s, k, sp, C, hs, hk, h, hsp, hi => by
    obtain ⟨k', rfl⟩ := up1 hk
    have hp := p32 hn
    have hs : s = 2 ^ n - 1 := by omega
    subst hs
    have c : nI (2 ^ n - 1) ≤ nI (2 ^ n - 1) := Int32.le_refl _
    have o1 : nI z + (1 : Int32) = nI (z + 1) := nI_add z 1
    have := cont C sp h (by omega) (fun s' h1 h2 => by
      obtain ⟨i1, i2⟩ := hi s' h1 h2
      by_cases q : pcN s' 5 = z
      · have := i2 q
        have e : s' = 2 ^ n - 1 := by omega
        rw [e, pc_all n hn] at q
        omega
      · omega)
    simp only [fX10_findTelling_58, fX10_findTelling_99, if_pos c, g_t, b_d, b_c, b_v, Bool.and_true, Bool.and_self, Bool.true_and, o1]
    exact this
  | m + 1, s, k, sp, C, hs, hk, h, hsp, hi => by
    obtain ⟨k', rfl⟩ := up1 hk
    have hp := p32 hn
    have c : ¬ nI (2 ^ n - 1) ≤ nI s := fun y => by have := (xLe (by omega) (by omega)).mp y; omega
    have o1 : nI z + (1 : Int32) = nI (z + 1) := nI_add z 1
    have o2 : nI s + (1 : Int32) = nI (s + 1) := nI_add s 1
    have o3 : (3 : Int32) * nI z = nI (3 * z) := xM 3 z
    have h8 : 8 ^ z ≤ 8 ^ 5 := Nat.pow_le_pow_right (by omega) (by omega)
    by_cases q1 : 8 ^ z < cN P (8 ^ n)
    · have q1' : nI (8 ^ z) < nI (cN P (8 ^ n)) := (xLt (by omega) (by omega)).mpr q1
      have := cont C sp h (by omega) (fun s' h1 h2 => by
        have i1 := (hi s' h1 h2).1
        by_cases q : pcN s' 5 = z
        · have := apt_le h2
          rw [pc_5 hn h1, q] at this
          omega
        · omega)
      simp only [fX10_findTelling_58, fX10_findTelling_99, if_neg c, kO_120, g_t, b_d, b_c, b_v, Bool.and_true, Bool.and_self, Bool.true_and, o3, shl8 z (by omega), h.2.1, if_pos q1', o1]
      exact this
    · have q1' : ¬ nI (8 ^ z) < nI (cN P (8 ^ n)) := fun y => q1 ((xLt (by omega) (by omega)).mp y)
      have bc := s_bc (a := s) (by omega) C
      have e32 : pcN s 32 = pcN s 5 := pcN_top (a := s) (k := 5) (by omega) 27
      rw [e32] at bc
      have l1 := pcN_le s 5
      have nxt : ∀ (C1 : mT) (sp1 : Nat), okS n P sp1 C1 → sp1 ≤ sp + 1 → (apt n P s → pcN s 5 ≠ z) → rS n P M (fX10_findTelling_93 rc (fX10_findTelling_58 rc k') (nI (2 ^ n - 1)) (nI z) (nI s) C1) C1 := fun C1 sp1 h1 h2 h3 => by
        have := c_ft58 hn hz hcap rc hN cont hNM m (s + 1) k' sp1 C1 (by omega) (by omega) h1 (by omega) (fun s' a1 a2 => by
          obtain ⟨i1, i2⟩ := hi s' a1 a2
          refine ⟨i1, fun q => ?_⟩
          have := i2 q
          by_cases u : s' = s
          · rw [u] at a2 q
            exact absurd q (h3 a2)
          · omega)
        simp only [fX10_findTelling_93, g_t, b_d, b_c, b_v, Bool.and_true, Bool.and_self, Bool.true_and, o2]
        exact this
      by_cases q2 : pcN s 5 = z
      · have q2' : nI (pcN s 5) = nI z := congrArg nI q2
        obtain ⟨r, C1, t1, t2, t3, t4⟩ := c_ta (P := P) hn (s := s) (sp := sp) (by omega) (by omega) hcap h
        rcases t2 with ⟨e, ea⟩ | ⟨e, ea⟩
        · subst e
          refine ⟨s, C1, sp + 1, ?_, ⟨by omega, ea, fun s' a1 a2 => ?_⟩, by omega, t3, t4⟩
          · simp only [fX10_findTelling_58, if_neg c, kO_120, g_t, b_d, b_c, b_v, Bool.and_true, Bool.and_self, Bool.true_and, o3, shl8 z (by omega), h.2.1, if_neg q1', bc, if_pos q2', t1, if_neg (by decide : ¬ (1 : Int32) = 0)]
          · obtain ⟨i1, i2⟩ := hi s' a1 a2
            by_cases u : pcN s' 5 = z
            · have := i2 u
              omega
            · omega
        · subst e
          have := rS_tr t4 (Nat.le_refl _) (nxt C1 (sp + 1) t3 (by omega) (fun y => absurd y ea))
          simp only [fX10_findTelling_58, if_neg c, kO_120, g_t, b_d, b_c, b_v, Bool.and_true, Bool.and_self, Bool.true_and, o3, shl8 z (by omega), h.2.1, if_neg q1', bc, if_pos q2', t1, if_true]
          exact this
      · have q2' : ¬ nI (pcN s 5) = nI z := fun y => q2 ((xEq (by omega) (by omega)).mp y)
        have := nxt C sp h (by omega) (fun _ => q2)
        simp only [fX10_findTelling_58, if_neg c, kO_120, g_t, b_d, b_c, b_v, Bool.and_true, Bool.and_self, Bool.true_and, o3, shl8 z (by omega), h.2.1, if_neg q1', bc, if_neg q2']
        exact this
theorem tell_all (hn : n ≤ 5) (h : ∀ s', s' < 2 ^ n → apt n P s' → n ≤ pcN s' 5) : isTell n P (2 ^ n - 1) := by
  have hp1 : 1 ≤ 2 ^ n := Nat.one_le_two_pow
  refine ⟨by omega, apt_all hn P, fun s' h1 h2 => ?_⟩
  have h3 := h s' h1 h2
  by_cases q : s' < 2 ^ n - 1
  · have := (pc_les n hn s' q).1
    omega
  · rw [show s' = 2 ^ n - 1 by omega]
    exact Or.inr ⟨rfl, Nat.le_refl _⟩
theorem c_ft48 (hn : n ≤ 5) (hcap : cN P (8 ^ n) ≤ 4096) : ∀ (m z k sp : Nat) (C : mT), z + m = n → m < k → okS n P sp C → sp ≤ 900000 + 31 * z → (∀ s', s' < 2 ^ n → apt n P s' → z ≤ pcN s' 5) → rS n P (sp + 31 * m) (fX10_findTelling_48 k (nI (2 ^ n - 1)) (nI z) C) C
  | 0, z, k, sp, C, hz, hk, h, hsp, hi => by
    obtain ⟨k', rfl⟩ := up1 hk
    have hz : z = n := by omega
    subst hz
    have c : nI z ≤ nI z := Int32.le_refl _
    refine ⟨2 ^ z - 1, C, sp, ?_, tell_all hn hi, by omega, h, fun _ _ _ _ => rfl⟩
    simp only [fX10_findTelling_48, kO_120, g_t, b_d, b_c, b_v, Bool.and_true, Bool.and_self, Bool.true_and, h.1, if_pos c]
  | m + 1, z, k, sp, C, hz, hk, h, hsp, hi => by
    obtain ⟨k', rfl⟩ := up1 hk
    have hp := p32 hn
    have c : ¬ nI n ≤ nI z := fun y => by have := (xLe (by omega) (by omega)).mp y; omega
    have := c_ft58 (P := P) hn (z := z) (M := sp + 31 * (m + 1)) (by omega) hcap (fX10_findTelling_48 k') (N := sp + 31) (by omega) (fun C1 sp1 a1 a2 a3 => rS_tr (fun _ _ _ _ => rfl) (by omega) (c_ft48 hn hcap m (z + 1) k' sp1 C1 (by omega) (by omega) a1 (by omega) a3)) (by omega) (2 ^ n - 1) 0 mK sp C (by omega) (by have := mK_gt; omega) h (by omega) (fun s' a1 a2 => ⟨hi s' a1 a2, fun _ => Nat.zero_le _⟩)
    have this' : rS n P (sp + 31 * (m + 1)) (fX10_findTelling_58 (fX10_findTelling_48 k') mK (nI (2 ^ n - 1)) (nI z) (0 : Int32) C) C := this
    simp only [fX10_findTelling_48, kO_120, g_t, b_d, b_c, b_v, Bool.and_true, Bool.and_self, Bool.true_and, h.1, if_neg c]
    exact this'
end
section
variable {n r : Nat} {st lo hi : Nat → Nat} {c : Nat → Bool}
def fF (C C' : mT) : Prop := ∀ a j, a ≠ 130 → a ≠ 138 → a ≠ 139 → ¬ (a = 120 ∧ j = 6) → ¬ (a = 120 ∧ j = 7) → C'.1 a j = C.1 a j
theorem c_find (hn : n ≤ 5) (hst : ∀ j, j < r → c j = true → 1 ≤ st j ∧ st j < 2 ^ n) (hst' : ∀ j, j < r → st j < 32 ∧ lo j ≤ 35 ∧ hi j ≤ 35) {C : mT} {sp : Nat} (hsp : sp ≤ 900000) (hx : ctx n r st lo hi c C) (e9 : C.1 120 9 = nI n) (e8 : C.1 120 8 = nI (cN (tru n r st lo hi c) (8 ^ n))) (e7 : C.1 120 7 = nI sp) (h0 : C.1 130 0 = nI 0) (hs : ∀ y, y < 4096 → ∃ x, x ≤ sp ∧ C.1 139 y = nI x) : ∃ T C' sp', fX10_findTelling C = some (nI T, C') ∧ isTell n (tru n r st lo hi c) T ∧ sp' ≤ sp + 155 ∧ C'.1 120 7 = nI sp' ∧ (∀ y, y < 4096 → ∃ x, x ≤ sp' ∧ C'.1 139 y = nI x) ∧ C'.1 130 0 = nI 0 ∧ fF C C' := by
  have hp := p32 hn
  have hp1 : 1 ≤ 2 ^ n := Nat.one_le_two_pow
  have ol : (1 : Int32) <<< (nI n &&& 31) - (1 : Int32) = nI (2 ^ n - 1) := by rw [shl1 n (by omega)]; exact xS (a := 2 ^ n) (b := 1) hp1
  have hle := tl_le hn (tru n r st lo hi c)
  have al : (∀ s', s' < 2 ^ n → apt n (tru n r st lo hi c) s' → n ≤ pcN s' 5) → ∃ T C' sp', (some (nI (2 ^ n - 1), C) : Option (Int32 × mT)) = some (nI T, C') ∧ isTell n (tru n r st lo hi c) T ∧ sp' ≤ sp + 155 ∧ C'.1 120 7 = nI sp' ∧ (∀ y, y < 4096 → ∃ x, x ≤ sp' ∧ C'.1 139 y = nI x) ∧ C'.1 130 0 = nI 0 ∧ fF C C' := fun H => ⟨_, C, sp, rfl, tell_all hn H, by omega, e7, hs, h0, fun _ _ _ _ _ _ _ => rfl⟩
  by_cases z : n = 0
  · have z' : nI n = 0 := by rw [z]; rfl
    have hf : fX10_findTelling C = some (nI (2 ^ n - 1), C) := by
      unfold fX10_findTelling fX10_findTelling_33
      rw [kO_120, e9, ol]
      simp only [g_t, b_d, b_c, b_v, Bool.and_true, Bool.and_self, Bool.true_and, if_pos z']
    rw [hf]
    exact al (fun s' _ _ => by omega)
  · have z' : ¬ nI n = 0 := fun y => z ((xEq (b := 0) (by omega) (by omega)).mp y)
    have o1 : nI n - (1 : Int32) = nI (n - 1) := xS (a := n) (b := 1) (by omega)
    have o3 : (3 : Int32) * nI (n - 1) = nI (3 * (n - 1)) := xM 3 _
    have h8 : 8 ^ (n - 1) ≤ 8 ^ 4 := Nat.pow_le_pow_right (by omega) (by omega)
    by_cases q : cN (tru n r st lo hi c) (8 ^ n) ≤ 8 ^ (n - 1)
    · have q' : nI (cN (tru n r st lo hi c) (8 ^ n)) ≤ nI (8 ^ (n - 1)) := (xLe (by omega) (by omega)).mpr q
      have hcap : cN (tru n r st lo hi c) (8 ^ n) ≤ 4096 := by omega
      obtain ⟨C3, g1, g2, g3, g4⟩ := c_ga hn hst' (fun j hj hc => (hst j hj hc).2) hcap n 0 16 0 (sI C 120 6 (nI 0)) (by omega) (by omega) (by decide) (fun j hj hc hs' => by have := (hst j hj hc).1; rw [Nat.pow_zero] at hs'; omega) (ctx_G hn hx (fun a j _ _ g => by rw [sI_ne g])) (by rw [sI_ne (by omega)]; exact e9) (fun _ x hx' => by
        rw [Nat.pow_zero] at hx'
        have : x = 0 := by omega
        subst this
        rw [sI_ne (by omega)]
        exact h0) ⟨by rw [sI_eq, Nat.zero_mul]; rfl, fun w hw => by rw [Nat.zero_mul] at hw; exact absurd hw (Nat.not_lt_zero _)⟩
      rw [Nat.zero_add, Nat.one_mul] at g4
      have f3 : ∀ a j, a ≠ 130 → a ≠ 138 → ¬ (a = 120 ∧ j = 6) → C3.1 a j = C.1 a j := fun a j h1 h2 h3 => by rw [g2 a j h1 h2 h3, sI_ne h3]
      obtain ⟨T, C', sp', r1, r2, r3, r4, r5⟩ := c_ft48 (P := tru n r st lo hi c) hn hcap n 0 mK sp C3 (by omega) (by have := mK_gt; omega) ⟨by rw [f3 _ _ (by omega) (by omega) (by omega)]; exact e9, by rw [f3 _ _ (by omega) (by omega) (by omega)]; exact e8, g4, by rw [f3 _ _ (by omega) (by omega) (by omega)]; exact e7, fun y hy => by rw [f3 _ _ (by omega) (by omega) (by omega)]; exact hs y hy⟩ (by omega) (fun _ _ _ => Nat.zero_le _)
      have r1' : fX10_findTelling_48 mK (nI (2 ^ n - 1)) (0 : Int32) C3 = some (nI T, C') := r1
      have g1' : fX10_gatherFrom 16 (0 : Int32) (0 : Int32) (sI C 120 6 (0 : Int32)) = some C3 := g1
      refine ⟨T, C', sp', ?_, r2, by omega, r4.2.2.2.1, r4.2.2.2.2, ?_, fun a j h1 h2 h3 h4 h5 => by rw [r5 a j h3 h5, f3 a j h1 h2 h4]⟩
      · unfold fX10_findTelling
        rw [kO_120, e9, ol, e8]
        simp only [g_t, b_d, b_c, b_v, Bool.and_true, Bool.and_self, Bool.true_and, if_neg z', o1, o3, shl8 (n - 1) (by omega), if_pos q', g1', r1']
      · rw [r5 _ _ (by omega) (by omega), g3 0 (by decide), sI_ne (by omega)]
        exact h0
    · have q' : ¬ nI (cN (tru n r st lo hi c) (8 ^ n)) ≤ nI (8 ^ (n - 1)) := fun y => q ((xLe (by omega) (by omega)).mp y)
      have hf : fX10_findTelling C = some (nI (2 ^ n - 1), C) := by
        unfold fX10_findTelling fX10_findTelling_33
        rw [kO_120, e9, ol, e8]
        simp only [g_t, b_d, b_c, b_v, Bool.and_true, Bool.and_self, Bool.true_and, if_neg z', o1, o3, shl8 (n - 1) (by omega), if_neg q']
      rw [hf]
      refine al (fun s' h1 h2 => ?_)
      have h3 := apt_le h2
      rw [pc_5 hn h1] at h3
      rcases Nat.lt_or_ge (pcN s' 5) n with y | y
      · have : 8 ^ pcN s' 5 ≤ 8 ^ (n - 1) := Nat.pow_le_pow_right (by omega) (by omega)
        omega
      · exact y
end
theorem Rel_nr6 {k n : Nat} {b : Bool} {S S' : mT} (hA : rA (shU b) n S) (hN : rN S) (hB : rBox S) (hT : rTime S) (hL : rLie S) (a : agr (supA (shU b) ++ (supN ++ (supBox ++ (supTime ++ supLie)))) S S') (c : rC (k + 6) n S') : Rel (k + 6) b S' := by
  obtain ⟨a1, a⟩ := agr_app.mp a
  obtain ⟨a2, a⟩ := agr_app.mp a
  obtain ⟨a3, a⟩ := agr_app.mp a
  obtain ⟨a5, a6⟩ := agr_app.mp a
  exact Rel_iff.mpr ⟨n, rA_fr a1 hA, rN_fr a2 hN, rBox_fr a3 hB, c, rTime_fr a5 hT, rLie_fr a6 hL⟩
theorem tVal_tl {n T : Nat} {C C' : mT} (hn : n ≤ 5) (h : tVal n C) (hT : isTell n (tP n C) T) (f : ∀ a j, a ≠ 130 → a ≠ 138 → a ≠ 139 → ¬ (a = 120 ∧ j = 6) → ¬ (a = 120 ∧ j = 7) → ¬ (a = 120 ∧ j = 11) → C'.1 a j = C.1 a j) (e : C'.1 120 11 = nI T) : tVal n C' := by
  obtain ⟨h1, h2, h3, h4, h5, h6⟩ := h
  have e1 : rsS C' = rsS C := by funext j; unfold rsS; rw [f _ _ (by omega) (by omega) (by omega) (by omega) (by omega) (by omega)]
  have e2 : rlS C' = rlS C := by funext j; unfold rlS; rw [f _ _ (by omega) (by omega) (by omega) (by omega) (by omega) (by omega)]
  have e3 : rhS C' = rhS C := by funext j; unfold rhS; rw [f _ _ (by omega) (by omega) (by omega) (by omega) (by omega) (by omega)]
  have e4 : C'.1 120 10 = C.1 120 10 := f _ _ (by omega) (by omega) (by omega) (by omega) (by omega) (by omega)
  have et : tP n C' = tP n C := by
    unfold tP
    rw [e1, e2, e3, e4]
  refine ⟨fun j hj q => ?_, by rw [f _ _ (by omega) (by omega) (by omega) (by omega) (by omega) (by omega)]; exact h2, by rw [et, f _ _ (by omega) (by omega) (by omega) (by omega) (by omega) (by omega)]; exact h3, fun h v hh hv => by rw [et, f _ _ (by omega) (by omega) (by omega) (by omega) (by omega) (by omega)]; exact h4 h v hh hv, ?_, Or.inr ⟨T, e, by rw [et]; exact hT⟩⟩
  · rw [e4] at q
    rw [f _ _ (by omega) (by omega) (by omega) (by omega) (by omega) (by omega)]
    exact h1 j hj q
  · rw [e1, e2, e3, e4]
    exact ctx_mv hn h5 (f _ _ (by omega) (by omega) (by omega) (by omega) (by omega) (by omega)) (f _ _ (by omega) (by omega) (by omega) (by omega) (by omega) (by omega)) (fun a j a1 a2 a3 => f _ _ (by omega) (by omega) (by omega) (by omega) (by omega) (by omega))
/-- the set, and what is kept of it -/
theorem c_tel {k n : Nat} (hk : k ≤ 3066) {C : mT} (hn : n ≤ 5) (hC : rC k n C) (hV : tVal n C) (h14 : C.1 120 14 = 1) : ∃ T C', fX10_tellingSet C = some (nI T, C') ∧ isTell n (tP n C) T ∧ rC (k + 6) n C' ∧ ∀ a j, (a < 120 ∨ 139 < a) → C'.1 a j = C.1 a j := by
  obtain ⟨hR, hTr, hLi⟩ := hC
  obtain ⟨r, hr, hcr, hst, hmr, hmj⟩ := rep_of hn hR
  have hp := p32 hn
  rcases hV.2.2.2.2.2 with q | ⟨T, q1, q2⟩
  · obtain ⟨sp, s1, s2, s3⟩ := hTr.2.1
    have hjr : ∀ j, j < 30 → bI (C.1 120 10) j = true → j < r := fun j hj hc => by
      have := hV.1 j (by omega) hc
      rw [hcr.1] at this
      exact (xLt (by omega) (by omega)).mp this
    -- beyond the reports no bit counts: take bounded functions there
    have ext : ∀ j, j < 30 → (fun j => bI (C.1 120 10) j) j = bI (C.1 120 10) j ∧ (bI (C.1 120 10) j = true → (fun j => if j < r then rsS C j else 0) j = rsS C j ∧ (fun j => if j < r then rlS C j else 0) j = rlS C j ∧ (fun j => if j < r then rhS C j else 0) j = rhS C j) := fun j hj => ⟨rfl, fun hc => by
      have := hjr j hj hc
      exact ⟨if_pos this, if_pos this, if_pos this⟩⟩
    have et : tru n 30 (fun j => if j < r then rsS C j else 0) (fun j => if j < r then rlS C j else 0) (fun j => if j < r then rhS C j else 0) (bI (C.1 120 10)) = tP n C := by
      funext w
      unfold tP tru
      rw [lcW_ext ext]
    have hx : ctx n 30 (fun j => if j < r then rsS C j else 0) (fun j => if j < r then rlS C j else 0) (fun j => if j < r then rhS C j else 0) (bI (C.1 120 10)) C := by
      rw [ctx_ext ext]
      exact hV.2.2.2.2.1
    obtain ⟨T, C1, sp', f1, f2, f3, f4, f5, f6, f7⟩ := c_find (r := 30) hn (fun j hj hc => by
      have hjr' := hjr j hj hc
      obtain ⟨a1, a2, _⟩ := hst j hjr'
      simp only [if_pos hjr']
      exact ⟨a1, a2⟩) (fun j hj => by
      by_cases y : j < r
      · obtain ⟨a1, a2, a3, a4⟩ := hst j y
        simp only [if_pos y]
        exact ⟨by omega, a3, a4⟩
      · simp only [if_neg y]
        exact ⟨by omega, by omega, by omega⟩) (sp := sp) (by omega) hx hV.2.1 (by rw [et]; exact hV.2.2.1) s2 hTr.2.2.1 s3
    rw [et] at f2
    have fr : ∀ a j, a ≠ 130 → a ≠ 138 → a ≠ 139 → ¬ (a = 120 ∧ j = 6) → ¬ (a = 120 ∧ j = 7) → ¬ (a = 120 ∧ j = 11) → (sI C1 120 11 (nI T)).1 a j = C.1 a j := fun a j g1 g2 g3 g4 g5 g6 => by rw [sI_ne g6]; exact f7 a j g1 g2 g3 g4 g5
    have out : ∀ a j, (a < 120 ∨ 139 < a) → (sI C1 120 11 (nI T)).1 a j = C.1 a j := fun a j g => fr a j (by omega) (by omega) (by omega) (by omega) (by omega) (by omega)
    refine ⟨T, sI C1 120 11 (nI T), ?_, f2, ⟨rRep_fr ⟨fun a h1 h2 => funext fun j => out a j (by omega), fun a h1 h2 => funext fun j => out a j (by omega), out _ _ (by omega), out _ _ (by omega), trivial⟩ hR, ⟨Or.inr (by rw [fr _ _ (by omega) (by omega) (by omega) (by omega) (by omega) (by omega)]; exact h14), ⟨sp', by omega, by rw [sI_ne (by omega)]; exact f4, fun i hi => by rw [sI_ne (by omega)]; exact f5 i hi⟩, by rw [sI_ne (by omega)]; exact f6, fun _ => tVal_tl hn hV f2 fr (by rw [sI_eq])⟩, rLia_rp (fun a h1 h2 => funext fun j => out a j (by omega)) (repEq_of (fun a h1 h2 => funext fun j => out a j (by omega)) (out _ _ (by omega))) hLi⟩, out⟩
    unfold fX10_tellingSet fX10_tellingSet_16
    rw [kO_120, if_pos q, f1]
    simp only [g_t, b_d, b_c, b_v, Bool.and_true, Bool.and_self, Bool.true_and, sI_eq]
  · have q0 : ¬ C.1 120 11 = (-1 : Int32) := by
      rw [q1]
      have := q2.1
      exact nI_ne1 (by omega)
    refine ⟨T, C, ?_, q2, rC_up ⟨hR, hTr, hLi⟩, fun _ _ _ => rfl⟩
    unfold fX10_tellingSet fX10_tellingSet_16
    rw [kO_120, if_neg q0, q1]
    rfl
theorem zz_tells : zH_tells Rel := by
  intro k b S v2 v hk h
  obtain ⟨n, hA, hN, hBx, hC, hT, hL⟩ := Rel_iff.mp h
  have hn := hA.1.1
  have n1 := hA.1.2.1
  have n2 := hA.1.2.2.1
  have hp := p32 hn
  have hp1 : 1 ≤ 2 ^ n := Nat.one_le_two_pow
  have out : wB v2 0 1 = 0 → ∃ r S1 S2, fX11_tells b v2 v S = some (r, S1) ∧ fX12_tells v2 v S1 = some (r, S2) ∧ Rel (k + 6) b S2 := fun e =>
    ⟨-1, S, S, by simp [fX11_tells, kO_120, kO_0, fX11_tells_48, g_t, b_d, b_c, b_v, Bool.and_true, Bool.and_self, Bool.true_and, s_isWithin, e], by simp [fX12_tells, kO_187, g_t, b_d, b_c, b_v, Bool.and_true, Bool.and_self, Bool.true_and, s_isIn, e], Rel_up h⟩
  rcases v_cases 0 1 (by omega) (by omega) v2 with c | c | ⟨w, _, hw, rfl⟩
  · exact out (wB_lo c)
  · exact out (wB_hi c)
  have e1 : wB (nI w) 0 1 = 1 := wB_in (lo := 0) (hi := 1) (by omega) (by omega) (by omega)
  obtain ⟨C, c1, cC, cT, c14, cf, _, cm⟩ := t_both hn n1 hC v
  have e8 := cT.2.2.1
  have hle := tl_le hn (tP n C)
  have ol : (1 : Int32) <<< (nI n &&& 31) - (1 : Int32) = nI (2 ^ n - 1) := by rw [shl1 n (by omega)]; exact xS (a := 2 ^ n) (b := 1) hp1
  by_cases t0 : cN (tP n C) (8 ^ n) = 0
  · obtain ⟨L', l1, l2, l3⟩ := (cm C (by rw [cf _ _ (by omega)]; exact n2) (cf _ _ (by omega)) (fun a h1 h2 => funext fun j => cf a j (by omega))).1
    have t1 : C.1 120 8 = 0 := by rw [e8, t0]; rfl
    have t2 : L'.1 187 69 = 0 := by rw [l2.1, t0]; rfl
    have hf1 : fX11_tells b (nI w) v S = some (-1, C) := by
      unfold fX11_tells
      rw [s_isWithin, b_c, e1, if_neg (by decide), c1, b_v, kO_120, kO_0, if_pos t1]
      rfl
    have hf2 : fX12_tells (nI w) v C = some (-1, L') := by
      unfold fX12_tells
      rw [s_isIn, b_c, e1, if_neg (by decide), l1, b_v, kO_187, if_pos t2]
      rfl
    exact ⟨_, _, _, hf1, hf2, Rel_nr hA hN hBx hT hL (agr_trans (av_agr (L := cond b LX11_tells_t LX11_tells_f) (by cases b; exact rX11_tells_f hf1; exact rX11_tells_t hf1) (by cases b <;> decide +kernel)) (av_agr (rX12_tells hf2) (by cases b <;> decide +kernel))) (rC_fr hn (av_agr (rX12_tells hf2) (by decide +kernel)) cC)⟩
  · have t1 : ¬ C.1 120 8 = 0 := by
      rw [e8]
      exact fun q => t0 ((xEq (b := 0) (by omega) (by omega)).mp q)
    obtain ⟨T, C2, d1, d2, d3, d4⟩ := c_tel hk hn cC cT c14
    have hT32 := d2.1
    have ePc : pcN T 32 = pcN T 5 := pcN_top (a := T) (k := 5) (by omega) 27
    have bc := s_bc (a := T) (by omega) C2
    rw [ePc] at bc
    have hf1 : fX11_tells b (nI w) v S = some (if nI w = 0 then nI (pcN T 5) else nI T, C2) := by
      unfold fX11_tells
      rw [s_isWithin, b_c, e1, if_neg (by decide), c1, b_v, kO_120, kO_0, if_neg t1, d1]
      by_cases q : nI w = 0
      · rw [if_pos q, b_c, if_pos q, bc]
        rfl
      · rw [if_neg q, b_c, if_neg q]
        rfl
    have f2 : ∀ a j, (a < 120 ∨ 139 < a) → C2.1 a j = S.1 a j := fun a j g => by rw [d4 a j g, cf a j (by omega)]
    have ok2 : okL n S C2 := ⟨by rw [f2 _ _ (by omega)]; exact n2, f2 _ _ (by omega), fun a h1 h2 => funext fun j => f2 a j (by omega)⟩
    obtain ⟨L', l1, l2, l3⟩ := (cm C2 ok2.1 ok2.2.1 ok2.2.2).1
    have okL' : okL n S L' := ⟨by rw [l3 _ _ (by omega) (by omega)]; exact ok2.1, by rw [l3 _ _ (by omega) (by omega)]; exact ok2.2.1, fun a h1 h2 => (funext fun j => l3 a j (by omega) (by omega) : L'.1 a = C2.1 a).trans (ok2.2.2 a h1 h2)⟩
    have t2 : ¬ L'.1 187 69 = 0 := by
      rw [l2.1]
      exact fun q => t0 ((xEq (b := 0) (by omega) (by omega)).mp q)
    obtain ⟨T', L2, u1, u2⟩ := m_te37 (P := tP n C) (S := S) (v := v) hn (nI w) (fun L hL x hx => (cm L hL.1 hL.2.1 hL.2.2).2 x hx) (2 ^ n) 0 mK (2 ^ n - 1) L' (by omega) (by have := mK_gt; omega) okL' (by omega) (apt_all hn _) (fun s' hs' => absurd hs' (Nat.not_lt_zero _))
    have eT := tell_uniq d2 u1
    subst eT
    have u2' : fX12_tells_37 mK (nI w) v (nI (2 ^ n - 1)) (0 : Int32) L' = _ := u2
    have hf2 : fX12_tells (nI w) v C2 = some (if nI w = 0 then nI (pcN T 5) else nI T, L2) := by
      unfold fX12_tells
      rw [s_isIn, b_c, e1, if_neg (by decide), l1, b_v, kO_187, if_neg t2, okL'.1, ol, Bool.and_true, g_t, g_t, b_d, u2']
    exact ⟨_, _, _, hf1, hf2, Rel_nr6 hA hN hBx hT hL (agr_trans (av_agr (L := cond b LX11_tells_t LX11_tells_f) (by cases b; exact rX11_tells_f hf1; exact rX11_tells_t hf1) (by cases b <;> decide +kernel)) (av_agr (rX12_tells hf2) (by cases b <;> decide +kernel))) (rC_fr hn (av_agr (rX12_tells hf2) (by decide +kernel)) d3)⟩
