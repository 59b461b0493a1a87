/-! CHASE: the reference's search. -/
section
variable {q : Nat → Nat} {n : Nat}
/-- what was found: the sets in their order, the words that lead to them -/
def bq (q : Nat → Nat) (n Fr last : Nat) (L : mT) (Q cd pi ln : Nat → Nat) : Prop := 1 ≤ last ∧ Q 0 = 2 ^ n - 1 ∧ cd 0 = 1 ∧ ln 0 = 0 ∧
  (∀ i, i < last → Q i < 2 ^ n ∧ L.1 223 i = nI (Q i) ∧ vN n (ln i) (cd i) ∧ tgN (nxN q n) (2 ^ n - 1) (ln i) (cd i) = Q i) ∧
  (∀ i, 0 < i → i < last → pi i < i ∧ cd i / 8 = cd (pi i) ∧ ln i = ln (pi i) + 1 ∧ L.1 222 (Q i) = nI (cd i % 8) ∧ L.1 221 (Q i) = nI (Q (pi i))) ∧
  L.1 222 (2 ^ n - 1) = nI 5 ∧ (∀ s, s < 2 ^ n → (∀ i, i < last → Q i ≠ s) → L.1 222 s = -1) ∧
  (∀ i j, i < j → j < last → cd i < cd j) ∧ (∀ i j, i < last → j < last → Q i = Q j → i = j) ∧
  (∀ i, i < last → cd i < Fr) ∧ (∀ i, i < last → ∀ g, g < n → 8 * cd i + g < Fr → ∃ j, j < last ∧ Q j = nxN q n (Q i) g ∧ cd j ≤ 8 * cd i + g)
theorem bq_min {Fr last : Nat} {L : mT} {Q cd pi ln : Nat → Nat} (h : bq q n Fr last L Q cd pi ln) : ∀ l c, vN n l c → c < Fr → ∃ j, j < last ∧ Q j = tgN (nxN q n) (2 ^ n - 1) l c ∧ cd j ≤ c
  | 0, c, hv, _ => by
    have hv' : c = 1 := hv
    exact ⟨0, by have := h.1; omega, h.2.1, by have := h.2.2.1; omega⟩
  | l + 1, c, hv, hc => by
    obtain ⟨i, i1, i2, i3⟩ := bq_min h l (c / 8) hv.1 (by omega)
    obtain ⟨j, j1, j2, j3⟩ := h.2.2.2.2.2.2.2.2.2.2.2 i i1 (c % 8) hv.2 (by omega)
    refine ⟨j, j1, ?_, by omega⟩
    rw [j2, i2]
    rfl
theorem bq_cl {Fr last : Nat} {L : mT} {Q cd pi ln : Nat → Nat} (h : bq q n Fr last L Q cd pi ln) (hcl : ∀ i, i < last → 8 * cd i + n ≤ Fr) : ∀ l c, vN n l c → ∃ j, j < last ∧ Q j = tgN (nxN q n) (2 ^ n - 1) l c
  | 0, c, hv => ⟨0, by have := h.1; omega, h.2.1⟩
  | l + 1, c, hv => by
    obtain ⟨i, i1, i2⟩ := bq_cl h hcl l (c / 8) hv.1
    have hh := hv.2
    obtain ⟨j, j1, j2, j3⟩ := h.2.2.2.2.2.2.2.2.2.2.2 i i1 (c % 8) hv.2 (by have := hcl i i1; omega)
    refine ⟨j, j1, ?_⟩
    rw [j2, i2]
    rfl
/-- there are no more than there are sets -/
theorem bq_last {Fr last : Nat} {L : mT} {Q cd pi ln : Nat → Nat} (h : bq q n Fr last L Q cd pi ln) {s : Nat} (hs : s < 2 ^ n) (hn : ∀ i, i < last → Q i ≠ s) : last + 1 ≤ 2 ^ n := by
  have hi : injW (fun _ => true) (fun i => if i < last then Q i else s) (last + 1) := fun w w' h1 h2 _ _ e => by
    simp only at e
    by_cases u : w < last
    · rw [if_pos u] at e
      by_cases u' : w' < last
      · rw [if_pos u'] at e
        exact h.2.2.2.2.2.2.2.2.2.1 w w' u u' e
      · rw [if_neg u'] at e
        exact absurd e (hn w u)
    · rw [if_neg u] at e
      by_cases u' : w' < last
      · rw [if_pos u'] at e
        exact absurd e.symm (hn w' u')
      · omega
  have h1 := cN_pg hi (2 ^ n)
  have h2 : cN (fun w => true && decide ((fun i => if i < last then Q i else s) w < 2 ^ n)) (last + 1) = cN (fun _ => true) (last + 1) := cN_congr fun w hw => by
    simp
    by_cases u : w < last
    · rw [if_pos u]
      exact (h.2.2.2.2.1 w u).1
    · rw [if_neg u]
      exact hs
  have h3 : ∀ N, cN (fun _ => true) N = N := fun N => by
    induction N with
    | zero => rfl
    | succ N ih =>
      show (if true = true then cN (fun _ => true) N + 1 else _) = _
      rw [if_pos rfl, ih]
  rw [h2, h3] at h1
  exact h1
/-- the frontier goes on -/
theorem bq_up {Fr Fr' last : Nat} {L : mT} {Q cd pi ln : Nat → Nat} (h : bq q n Fr last L Q cd pi ln) (hle : Fr ≤ Fr') (hh : ∀ i, i < last → ∀ g, g < n → 8 * cd i + g < Fr' → 8 * cd i + g < Fr ∨ ∃ j, j < last ∧ Q j = nxN q n (Q i) g ∧ cd j ≤ 8 * cd i + g) : bq q n Fr' last L Q cd pi ln := by
  obtain ⟨a1, a2, a3, a4, a5, a6, a7, a8, a9, a10, a11, a12⟩ := h
  refine ⟨a1, a2, a3, a4, a5, a6, a7, a8, a9, a10, fun i hi => by have := a11 i hi; omega, fun i hi g hg hl => ?_⟩
  rcases hh i hi g hg hl with z | z
  · exact a12 i hi g hg z
  · exact z
theorem m_ch83 (hn : n ≤ 5) {k : Nat} {ck : Nat} (rc : Int32 → Int32 → Int32 → mT → Option (Int32 × mT)) : ∀ (m h fu last : Nat) (L : mT) (Q cd pi ln : Nat → Nat), h + m = n → m < fu → k < last → cd k = ck → okRo q n L → bq q n (8 * ck + h) last L Q cd pi ln → ∃ Fr' last' L' Q' cd' pi' ln', fX12_chase_83 rc fu (nI (2 ^ n - 1)) (nI last) (nI k) (nI h) L = rc (nI (2 ^ n - 1)) (nI last') (nI (k + 1)) L' ∧ okRo q n L' ∧ bq q n Fr' last' L' Q' cd' pi' ln' ∧ k < last' ∧ cd' k = ck ∧ (Fr' = 8 * ck + n ∨ 0 ≤ L'.1 222 0)
  | 0, h, fu, last, L, Q, cd, pi, ln, hh, hf, hk, hck, hR, hb => by
    obtain ⟨f', rfl⟩ := up1 hf
    have hh : h = n := by omega
    subst hh
    have c : nI h ≤ nI h := Int32.le_refl _
    have o1 : nI k + (1 : Int32) = nI (k + 1) := nI_add k 1
    exact ⟨_, last, L, Q, cd, pi, ln, by simp only [fX12_chase_83, fX12_chase_176, kO_187, g_t, b_d, b_c, b_v, Bool.and_true, Bool.and_self, Bool.true_and, hR.1, if_pos c, o1], hR, hb, hk, hck, Or.inl rfl⟩
  | m + 1, h, fu, last, L, Q, cd, pi, ln, hh, hf, hk, hck, hR, hb => by
    obtain ⟨f', rfl⟩ := up1 hf
    have hp := p32 hn
    have hp1 : 1 ≤ 2 ^ n := Nat.one_le_two_pow
    have c : ¬ nI n ≤ nI h := fun y => by have := (xLe (by omega) (by omega)).mp y; omega
    have ok1 : nI k + (1 : Int32) = nI (k + 1) := nI_add k 1
    have oh1 : nI h + (1 : Int32) = nI (h + 1) := nI_add h 1
    have m0 : mIx (0 : Int32) = 0 := rfl
    have k0 : mIn (0 : Int32) 32 = true := by decide
    obtain ⟨a1, a2, a3, a4, a5, a6, a7, a8, a9, a10, a11, a12⟩ := id hb
    by_cases z : 0 ≤ L.1 222 0
    · exact ⟨_, last, L, Q, cd, pi, ln, by simp only [fX12_chase_83, fX12_chase_176, kO_187, kI_222, k0, m0, g_t, b_d, b_c, b_v, Bool.and_true, Bool.and_self, Bool.true_and, hR.1, if_neg c, if_pos z, ok1], hR, hb, hk, hck, Or.inr z⟩
    · obtain ⟨q1, q2, q3, q4⟩ := a5 k hk
      have hck1 : 1 ≤ ck := by
        have h1 := (vN_rg _ _ q3).1
        have h2 : 0 < 8 ^ ln k := Nat.pow_pos (by omega)
        omega
      -- the queue holds no more than 32
      have hl32 : last ≤ 2 ^ n := by
        rcases Nat.lt_or_ge (2 ^ n) last with u | u
        · have : ∀ N, cN (fun _ => true) N = N := fun N => by
            induction N with
            | zero => rfl
            | succ N ih =>
              show (if true = true then cN (fun _ => true) N + 1 else _) = _
              rw [if_pos rfl, ih]
          have h1 := cN_pg (P := fun _ => true) (f := Q) (N := last) (fun w w' h1 h2 _ _ e => a10 w w' h1 h2 e) (2 ^ n)
          have h2 : cN (fun w => true && decide (Q w < 2 ^ n)) last = cN (fun _ => true) last := cN_congr fun w hw => by
            simp
            exact (a5 w hw).1
          rw [h2, this] at h1
          omega
        · exact u
      have ocl := clN_n (s := Q k) (h := h) (by omega)
      have mv := m_mv hn hR q1 (g := h) (by omega)
      have hnl := nxN_lt (q := q) hn (Q k) (h := h) (by omega)
      by_cases e : ∃ i, i < last ∧ Q i = nxN q n (Q k) h
      · obtain ⟨i, i1, i2⟩ := e
        have nneg : ¬ L.1 222 (nxN q n (Q k) h) < 0 := by
          rw [← i2]
          by_cases u : i = 0
          · rw [u, a2, a7]
            decide
          · rw [(a6 i (by omega) i1).2.2.2.1]
            exact nI_pos (by omega)
        have hcd : cd i < 8 * ck + h := a11 i i1
        obtain ⟨Fr', last', L', Q', cd', pi', ln', r1, r2⟩ := m_ch83 hn rc m (h + 1) f' last L Q cd pi ln (by omega) (by omega) hk hck hR (bq_up hb (by omega) (fun i' hi' g hg hlt => by
          by_cases u : 8 * cd i' + g < 8 * ck + h
          · exact Or.inl u
          · right
            have e1 : cd i' = ck := by omega
            have e2 : g = h := by omega
            have e3 : i' = k := by
              rcases Nat.lt_trichotomy i' k with y | y | y
              · have := a9 i' k y hk
                omega
              · exact y
              · have := a9 k i' y hi'
                omega
            subst e3
            subst e2
            exact ⟨i, i1, i2, by omega⟩))
        refine ⟨Fr', last', L', Q', cd', pi', ln', ?_, r2⟩
        rw [← r1]
        simp (disch := omega) only [fX12_chase_83, fX12_chase_170, kO_187, kI_222, kI_223, k0, m0, g_t, b_d, b_c, b_v, Bool.and_true, Bool.and_self, Bool.true_and, hR.1, if_neg c, if_neg z, xIx, xIn, q2, ocl, mv, if_neg nneg, oh1]
      · have hne : ∀ i, i < last → Q i ≠ nxN q n (Q k) h := fun i hi e' => e ⟨i, hi, e'⟩
        have hneg : L.1 222 (nxN q n (Q k) h) < 0 := by
          rw [a8 _ hnl hne]
          decide
        have hl2 := bq_last hb hnl hne
        have ol : nI last + (1 : Int32) = nI (last + 1) := nI_add last 1
        generalize hs' : nxN q n (Q k) h = s' at *
        generalize hL2 : sI (sI (sI L 221 s' (nI (Q k))) 222 s' (nI h)) 223 last (nI s') = L2
        have fr : ∀ a j, a ≠ 221 → a ≠ 222 → a ≠ 223 → L2.1 a j = L.1 a j := fun a j g1 g2 g3 => by rw [← hL2, sI_ne (by omega), sI_ne (by omega), sI_ne (by omega)]
        have f221 : ∀ j, j ≠ s' → L2.1 221 j = L.1 221 j := fun j g => by rw [← hL2, sI_ne (by omega), sI_ne (by omega), sI_ne (by omega)]
        have f222 : ∀ j, j ≠ s' → L2.1 222 j = L.1 222 j := fun j g => by rw [← hL2, sI_ne (by omega), sI_ne (by omega), sI_ne (by omega)]
        have f223 : ∀ j, j ≠ last → L2.1 223 j = L.1 223 j := fun j g => by rw [← hL2, sI_ne (by omega), sI_ne (by omega), sI_ne (by omega)]
        have e221 : L2.1 221 s' = nI (Q k) := by rw [← hL2, sI_ne (by omega), sI_ne (by omega), sI_eq]
        have e222 : L2.1 222 s' = nI h := by rw [← hL2, sI_ne (by omega), sI_eq]
        have e223 : L2.1 223 last = nI s' := by rw [← hL2, sI_eq]
        have hR2 : okRo q n L2 := ⟨by rw [fr _ _ (by omega) (by omega) (by omega)]; exact hR.1, fun x hx => by rw [fr _ _ (by omega) (by omega) (by omega)]; exact hR.2 x hx⟩
        have hq0 : 2 ^ n - 1 ≠ s' := by
          have := hne 0 (by omega)
          rw [a2] at this
          exact this
        have nb : bq q n (8 * ck + (h + 1)) (last + 1) L2 (fun i => if i = last then s' else Q i) (fun i => if i = last then 8 * ck + h else cd i) (fun i => if i = last then k else pi i) (fun i => if i = last then ln k + 1 else ln i) := by
          refine ⟨by omega, ?_, ?_, ?_, fun i hi => ?_, fun i h0 hi => ?_, ?_, fun s hs hns => ?_, fun i j hij hj => ?_, fun i j hi hj hij => ?_, fun i hi => ?_, fun i hi g hg hlt => ?_⟩
          · simp only [if_neg (by omega : ¬ 0 = last)]
            exact a2
          · simp only [if_neg (by omega : ¬ 0 = last)]
            exact a3
          · simp only [if_neg (by omega : ¬ 0 = last)]
            exact a4
          · by_cases u : i = last
            · subst u
              simp only [if_true]
              refine ⟨hnl, e223, ⟨?_, ?_⟩, ?_⟩
              · rw [show (8 * ck + h) / 8 = ck by omega, ← hck]
                exact q3
              · omega
              · show nxN q n (tgN _ _ (ln k) ((8 * ck + h) / 8)) ((8 * ck + h) % 8) = s'
                rw [show (8 * ck + h) / 8 = ck by omega, show (8 * ck + h) % 8 = h by omega, ← hck, q4]
                exact hs'
            · simp only [if_neg u]
              rw [f223 i u]
              exact a5 i (by omega)
          · by_cases u : i = last
            · subst u
              simp only [if_true, if_neg (by omega : ¬ k = i)]
              refine ⟨hk, by omega, trivial, ?_, e221⟩
              rw [e222, show (8 * ck + h) % 8 = h by omega]
            · obtain ⟨b1, b2, b3, b4, b5⟩ := a6 i h0 (by omega)
              simp only [if_neg u, if_neg (by omega : ¬ pi i = last)]
              rw [f222 _ (hne i (by omega)), f221 _ (hne i (by omega))]
              exact ⟨b1, b2, b3, b4, b5⟩
          · rw [f222 _ hq0]
            exact a7
          · have h1 := hns last (by omega)
            simp only [if_true] at h1
            rw [f222 _ (fun y => h1 y.symm)]
            refine a8 s hs fun i hi => ?_
            have := hns i (by omega)
            simp only [if_neg (by omega : ¬ i = last)] at this
            exact this
          · by_cases u : j = last
            · subst u
              simp only [if_true, if_neg (by omega : ¬ i = j)]
              have := a11 i (by omega)
              omega
            · simp only [if_neg u, if_neg (by omega : ¬ i = last)]
              exact a9 i j hij (by omega)
          · by_cases u : i = last
            · by_cases v : j = last
              · omega
              · simp only [if_pos u, if_neg v] at hij
                exact absurd hij.symm (hne j (by omega))
            · by_cases v : j = last
              · simp only [if_neg u, if_pos v] at hij
                exact absurd hij (hne i (by omega))
              · simp only [if_neg u, if_neg v] at hij
                exact a10 i j (by omega) (by omega) hij
          · by_cases u : i = last
            · simp only [if_pos u]
              omega
            · simp only [if_neg u]
              have := a11 i (by omega)
              omega
          · by_cases u : i = last
            · simp only [if_pos u] at hlt
              omega
            · simp only [if_neg u] at hlt ⊢
              by_cases v : 8 * cd i + g < 8 * ck + h
              · obtain ⟨j, j1, j2, j3⟩ := a12 i (by omega) g hg v
                exact ⟨j, by omega, by simp only [if_neg (by omega : ¬ j = last)]; exact j2, by simp only [if_neg (by omega : ¬ j = last)]; exact j3⟩
              · have e1 : cd i = ck := by omega
                have e2 : g = h := by omega
                have e3 : i = k := by
                  rcases Nat.lt_trichotomy i k with y | y | y
                  · have := a9 i k y hk
                    omega
                  · exact y
                  · have := a9 k i y (by omega)
                    omega
                subst e3
                subst e2
                exact ⟨last, by omega, by simp only [if_true]; exact hs'.symm, by simp only [if_true]; omega⟩
        obtain ⟨Fr', last', L', Q', cd', pi', ln', r1, r2⟩ := m_ch83 (k := k) (ck := ck) hn rc m (h + 1) f' (last + 1) L2 (fun i => if i = last then s' else Q i) (fun i => if i = last then 8 * ck + h else cd i) (fun i => if i = last then k else pi i) (fun i => if i = last then ln k + 1 else ln i) (by omega) (by omega) (by omega) (by simp only [if_neg (by omega : ¬ k = last)]; exact hck) hR2 nb
        refine ⟨Fr', last', L', Q', cd', pi', ln', ?_, r2⟩
        rw [← r1, ← hL2]
        simp (disch := omega) only [fX12_chase_83, fX12_chase_170, kO_187, kI_221, kI_222, kI_223, k0, m0, g_t, b_d, b_c, b_v, Bool.and_true, Bool.and_self, Bool.true_and, hR.1, if_neg c, if_neg z, xIx, xIn, q2, ocl, mv, if_pos hneg, ol, oh1]
theorem m_ch66 (hn : n ≤ 5) {N X : Nat} (hX : lstW q n N X) : ∀ (m k fu Fr last : Nat) (L : mT) (Q cd pi ln : Nat → Nat), k + m = 40 → m < fu → okRo q n L → bq q n Fr last L Q cd pi ln → (0 ≤ L.1 222 0 ∨ (k < last ∧ Fr = 8 * cd k) ∨ (k = last ∧ ∀ i, i < last → 8 * cd i + n ≤ Fr)) → ∃ Fr' last' L' Q' cd' pi' ln', fX12_chase_66 fu (nI (2 ^ n - 1)) (nI last) (nI k) L = fX12_chase_182 (nI (2 ^ n - 1)) L' ∧ bq q n Fr' last' L' Q' cd' pi' ln' ∧ ∃ z, z < last' ∧ Q' z = 0
  | 0, k, fu, Fr, last, L, Q, cd, pi, ln, hk, hf, hR, hb, hc => by
    obtain ⟨f', rfl⟩ := up1 hf
    have hp := p32 hn
    have hp1 : 1 ≤ 2 ^ n := Nat.one_le_two_pow
    obtain ⟨a1, a2, a3, a4, a5, a6, a7, a8, a9, a10, a11, a12⟩ := id hb
    have hl32 : last ≤ 2 ^ n := by
      have : ∀ N, cN (fun _ => true) N = N := fun N => by
        induction N with
        | zero => rfl
        | succ N ih =>
          show (if true = true then cN (fun _ => true) N + 1 else _) = _
          rw [if_pos rfl, ih]
      have h1 := cN_pg (P := fun _ => true) (f := Q) (N := last) (fun w w' h1 h2 _ _ e => a10 w w' h1 h2 e) (2 ^ n)
      have h2 : cN (fun w => true && decide (Q w < 2 ^ n)) last = cN (fun _ => true) last := cN_congr fun w hw => by
        simp
        exact (a5 w hw).1
      rw [h2, this] at h1
      exact h1
    have c : nI last ≤ nI k := (xLe (by omega) (by omega)).mpr (by omega)
    have found : ∃ z, z < last ∧ Q z = 0 := by
      rcases hc with h | ⟨h, _⟩ | ⟨h, _⟩
      · apply Classical.byContradiction
        intro H
        have := a8 0 (by omega) (fun i hi e => H ⟨i, hi, e⟩)
        rw [this] at h
        exact absurd h (by decide)
      · omega
      · omega
    exact ⟨Fr, last, L, Q, cd, pi, ln, by simp only [fX12_chase_66, if_pos c], hb, found⟩
  | m + 1, k, fu, Fr, last, L, Q, cd, pi, ln, hk, hf, hR, hb, hc => by
    obtain ⟨f', rfl⟩ := up1 hf
    have hp := p32 hn
    have hp1 : 1 ≤ 2 ^ n := Nat.one_le_two_pow
    have m0 : mIx (0 : Int32) = 0 := rfl
    have k0 : mIn (0 : Int32) 32 = true := by decide
    obtain ⟨a1, a2, a3, a4, a5, a6, a7, a8, a9, a10, a11, a12⟩ := id hb
    have hl32 : last ≤ 2 ^ n := by
      have : ∀ N, cN (fun _ => true) N = N := fun N => by
        induction N with
        | zero => rfl
        | succ N ih =>
          show (if true = true then cN (fun _ => true) N + 1 else _) = _
          rw [if_pos rfl, ih]
      have h1 := cN_pg (P := fun _ => true) (f := Q) (N := last) (fun w w' h1 h2 _ _ e => a10 w w' h1 h2 e) (2 ^ n)
      have h2 : cN (fun w => true && decide (Q w < 2 ^ n)) last = cN (fun _ => true) last := cN_congr fun w hw => by
        simp
        exact (a5 w hw).1
      rw [h2, this] at h1
      exact h1
    have fnd : 0 ≤ L.1 222 0 → ∃ z, z < last ∧ Q z = 0 := fun h => by
      apply Classical.byContradiction
      intro H
      have := a8 0 (by omega) (fun i hi e => H ⟨i, hi, e⟩)
      rw [this] at h
      exact absurd h (by decide)
    by_cases u : last ≤ k
    · have u' : nI last ≤ nI k := (xLe (by omega) (by omega)).mpr u
      have found : ∃ z, z < last ∧ Q z = 0 := by
        rcases hc with h | ⟨h, _⟩ | ⟨_, h⟩
        · exact fnd h
        · omega
        · obtain ⟨j, j1, j2⟩ := bq_cl hb h N X hX.2.1
          exact ⟨j, j1, by rw [j2]; exact hX.2.2.1⟩
      exact ⟨Fr, last, L, Q, cd, pi, ln, by simp only [fX12_chase_66, if_pos u'], hb, found⟩
    · have u' : ¬ nI last ≤ nI k := fun z => u ((xLe (by omega) (by omega)).mp z)
      by_cases z : 0 ≤ L.1 222 0
      · exact ⟨Fr, last, L, Q, cd, pi, ln, by simp only [fX12_chase_66, if_neg u', kO_187, kI_222, k0, m0, g_t, b_d, b_c, b_v, Bool.and_true, Bool.and_self, Bool.true_and, if_pos z], hb, fnd z⟩
      · have hFr : Fr = 8 * cd k := by
          rcases hc with h | ⟨_, h⟩ | ⟨h, _⟩
          · exact absurd h z
          · exact h
          · omega
        obtain ⟨Fr1, last1, L1, Q1, cd1, pi1, ln1, r1, r2, r3, r4, r5, r6⟩ := m_ch83 (q := q) hn (k := k) (ck := cd k) (fX12_chase_66 f') n 0 mK last L Q cd pi ln (by omega) (by have := mK_gt; omega) (by omega) rfl hR (by rw [Nat.add_zero, ← hFr]; exact hb)
        obtain ⟨b1, b2, b3, b4, b5, b6, b7, b8, b9, b10, b11, b12⟩ := id r3
        have nxt : ∃ Fr2, bq q n Fr2 last1 L1 Q1 cd1 pi1 ln1 ∧ (0 ≤ L1.1 222 0 ∨ (k + 1 < last1 ∧ Fr2 = 8 * cd1 (k + 1)) ∨ (k + 1 = last1 ∧ ∀ i, i < last1 → 8 * cd1 i + n ≤ Fr2)) := by
          rcases r6 with e | e
          · by_cases v : k + 1 < last1
            · have h1 := b9 k (k + 1) (by omega) v
              refine ⟨8 * cd1 (k + 1), bq_up r3 (by omega) (fun i hi g hg hlt => ?_), Or.inr (Or.inl ⟨v, rfl⟩)⟩
              left
              have h2 : cd1 i ≤ cd1 k := by
                rcases Nat.lt_trichotomy i k with y | y | y
                · have := b9 i k y (by omega)
                  omega
                · rw [y]
                  exact Nat.le_refl _
                · rcases Nat.lt_trichotomy i (k + 1) with w | w | w
                  · omega
                  · rw [w] at hlt
                    omega
                  · have := b9 (k + 1) i w hi
                    omega
              omega
            · refine ⟨Fr1, r3, Or.inr (Or.inr ⟨by omega, fun i hi => ?_⟩)⟩
              have h2 : cd1 i ≤ cd1 k := by
                rcases Nat.lt_trichotomy i k with y | y | y
                · have := b9 i k y (by omega)
                  omega
                · rw [y]
                  exact Nat.le_refl _
                · omega
              omega
          · exact ⟨Fr1, r3, Or.inl e⟩
        obtain ⟨Fr2, n1, n2⟩ := nxt
        obtain ⟨Fr', last', L', Q', cd', pi', ln', s1, s2⟩ := m_ch66 hn hX m (k + 1) f' Fr2 last1 L1 Q1 cd1 pi1 ln1 (by omega) (by omega) r2 n1 n2
        refine ⟨Fr', last', L', Q', cd', pi', ln', ?_, s2⟩
        rw [← s1, ← r1]
        have : fX12_chase_66 (f' + 1) (nI (2 ^ n - 1)) (nI last) (nI k) L = fX12_chase_83 (fX12_chase_66 f') mK (nI (2 ^ n - 1)) (nI last) (nI k) (0 : Int32) L := by simp only [fX12_chase_66, if_neg u', kO_187, kI_222, k0, m0, g_t, b_d, b_c, b_v, Bool.and_true, Bool.and_self, Bool.true_and, if_neg z]
        rw [this]
        rfl
theorem m_ch198 (hn : n ≤ 5) {Fr last : Nat} {L : mT} {Q cd pi ln : Nat → Nat} (h : bq q n Fr last L Q cd pi ln) : ∀ (i : Nat) (c fu : Nat), i < fu → i < last → fX12_chase_198 fu (nI (2 ^ n - 1)) (nI c) (nI (Q i)) L = fX12_chase_227 mK (nI (c + ln i)) (0 : Int32) (nI (c + ln i) + (-1 : Int32)) L := by
  intro i
  induction i using Nat.strongRecOn with
  | _ i ih =>
    intro c fu hf hi
    obtain ⟨f', rfl⟩ := up1 hf
    have hp := p32 hn
    obtain ⟨a1, a2, a3, a4, a5, a6, a7, a8, a9, a10, a11, a12⟩ := h
    have ob : ∀ x, nI x - (1 : Int32) = nI x + (-1 : Int32) := fun x => Int32.sub_eq_add_neg _ _
    by_cases u : i = 0
    · subst u
      have e : nI (Q 0) = nI (2 ^ n - 1) := by rw [a2]
      have e0 : c + ln 0 = c := by rw [a4]; rfl
      rw [e0]
      simp only [fX12_chase_198, if_pos e, g_t, b_d, b_c, b_v, Bool.and_true, Bool.and_self, Bool.true_and, ob]
    · obtain ⟨b1, b2, b3, b4, b5⟩ := a6 i (by omega) hi
      have hq := (a5 i hi).1
      have e : ¬ nI (Q i) = nI (2 ^ n - 1) := fun z => by
        have := (xEq (by omega) (by omega)).mp z
        have := a10 i 0 hi (by omega) (by omega)
        omega
      have o1 : nI c + (1 : Int32) = nI (c + 1) := nI_add c 1
      have i1 := ih (pi i) b1 (c + 1) f' (by omega) (by omega)
      rw [show c + 1 + ln (pi i) = c + ln i by omega] at i1
      rw [← i1]
      simp (disch := omega) only [fX12_chase_198, if_neg e, kO_187, kI_221, g_t, b_d, b_c, b_v, Bool.and_true, Bool.and_self, Bool.true_and, xIx, xIn, b5, o1]
theorem m_ch227 (hn : n ≤ 5) {last : Nat} {Q cd pi ln : Nat → Nat} (hQ : ∀ i, i < last → Q i < 2 ^ n) (h0 : ln 0 = 0) {N : Nat} : ∀ (l i fu : Nat) (L : mT), ln i = l → l ≤ 8 → i < last → l < fu → (∀ i, 0 < i → i < last → pi i < i ∧ cd i / 8 = cd (pi i) ∧ ln i = ln (pi i) + 1 ∧ L.1 222 (Q i) = nI (cd i % 8) ∧ L.1 221 (Q i) = nI (Q (pi i))) → ∃ L', fX12_chase_227 fu (nI N) (nI (Q i)) (nI l + (-1 : Int32)) L = some (nI N, L') ∧ (∀ j, j < l → L'.1 215 j = nI (cd i / 8 ^ (l - 1 - j) % 8)) ∧ (∀ j, l ≤ j → L'.1 215 j = L.1 215 j) ∧ L'.1 187 51 = nI N ∧ ∀ a j, a ≠ 215 → ¬ (a = 187 ∧ j = 51) → L'.1 a j = L.1 a j
  | 0, i, fu, L, hl, h8, hi, hf, hH => by
    obtain ⟨f', rfl⟩ := up1 hf
    have c : nI 0 + (-1 : Int32) < 0 := by decide
    exact ⟨sI L 187 51 (nI N), by simp only [fX12_chase_227, if_pos c, kO_187, g_t, b_d, b_c, b_v, Bool.and_true, Bool.and_self, Bool.true_and], fun j hj => absurd hj (Nat.not_lt_zero _), fun j _ => by rw [sI_ne (by omega)], by rw [sI_eq], fun a j g1 g2 => by rw [sI_ne g2]⟩
  | l + 1, i, fu, L, hl, h8, hi, hf, hH => by
    obtain ⟨f', rfl⟩ := up1 hf
    have hp := p32 hn
    have hi0 : 0 < i := by
      rcases Nat.eq_zero_or_pos i with u | u
      · rw [u] at hl
        omega
      · exact u
    obtain ⟨b1, b2, b3, b4, b5⟩ := hH i hi0 hi
    have hq := hQ i hi
    have om : nI (l + 1) + (-1 : Int32) = nI l := xP (a := l + 1) (by omega)
    have c : ¬ nI l < 0 := nI_pos (by omega)
    obtain ⟨L', r1, r2, r3, r4, r5⟩ := m_ch227 hn hQ h0 (N := N) l (pi i) f' (sI L 215 l (nI (cd i % 8))) (by omega) (by omega) (by omega) (by omega) (fun i' g1 g2 => by
      obtain ⟨d1, d2, d3, d4, d5⟩ := hH i' g1 g2
      exact ⟨d1, d2, d3, by rw [sI_ne (by omega)]; exact d4, by rw [sI_ne (by omega)]; exact d5⟩)
    refine ⟨L', ?_, fun j hj => ?_, fun j hj => by rw [r3 j (by omega), sI_ne (by omega)], r4, fun a j g1 g2 => by rw [r5 a j g1 g2, sI_ne (by omega)]⟩
    · have e5 : (sI L 215 l (nI (cd i % 8))).1 221 (Q i) = nI (Q (pi i)) := by rw [sI_ne (by omega)]; exact b5
      rw [om, ← r1]
      simp (disch := omega) only [fX12_chase_227, if_neg c, kO_187, kI_215, kI_221, kI_222, g_t, b_d, b_c, b_v, Bool.and_true, Bool.and_self, Bool.true_and, xIx, xIn, b4, e5]
    · by_cases u : j = l
      · subst u
        rw [r3 j (Nat.le_refl _), sI_eq, show j + 1 - 1 - j = 0 by omega, Nat.pow_zero, Nat.div_one]
      · rw [r2 j (by omega), ← b2, Nat.div_div_eq_div_mul, show 8 ^ (l + 1 - 1 - j) = 8 * 8 ^ (l - 1 - j) by rw [show l + 1 - 1 - j = (l - 1 - j) + 1 by omega, Nat.pow_succ, Nat.mul_comm]]
theorem m_ch29 : ∀ (m i k : Nat) (L : mT) (A : Nat), i + m = 32 → m < k → A < 32 → ∃ L', fX12_chase_29 k (nI A) (nI i) L = fX12_chase_66 mK (nI A) (1 : Int32) (0 : Int32) L' ∧ (∀ s, i ≤ s → s < 32 → s ≠ A → L'.1 222 s = -1) ∧ (∀ s, s < i → s ≠ A → L'.1 222 s = L.1 222 s) ∧ L'.1 222 A = nI 5 ∧ L'.1 223 0 = nI A ∧ ∀ a j, a ≠ 222 → a ≠ 223 → L'.1 a j = L.1 a j
  | 0, i, k, L, A, hi, hk, hA => by
    obtain ⟨k', rfl⟩ := up1 hk
    have hi : i = 32 := by omega
    subst hi
    have c : (32 : Int32) ≤ nI 32 := by decide
    have m0 : mIx (0 : Int32) = 0 := rfl
    have k0 : mIn (0 : Int32) 32 = true := by decide
    refine ⟨sI (sI L 222 A (nI 5)) 223 0 (nI A), ?_, fun s h1 h2 => by omega, fun s _ h2 => by rw [sI_ne (by omega), sI_ne (by omega)], by rw [sI_ne (by omega), sI_eq], by rw [sI_eq], fun a j g1 g2 => by rw [sI_ne (by omega), sI_ne (by omega)]⟩
    simp (disch := omega) only [fX12_chase_29, if_pos c, kO_187, kI_222, kI_223, k0, m0, g_t, b_d, b_c, b_v, Bool.and_true, Bool.and_self, Bool.true_and, xIx, xIn]
    rfl
  | m + 1, i, k, L, A, hi, hk, hA => by
    obtain ⟨k', rfl⟩ := up1 hk
    have c : ¬ (32 : Int32) ≤ nI i := fun y => by have := (xLe (a := 32) (by omega) (by omega)).mp y; omega
    have o1 : nI i + (1 : Int32) = nI (i + 1) := nI_add i 1
    obtain ⟨L', r1, r2, r3, r4, r5, r6⟩ := m_ch29 m (i + 1) k' (sI L 222 i (-1)) A (by omega) (by omega) hA
    refine ⟨L', ?_, fun s h1 h2 h3 => ?_, fun s h1 h2 => by rw [r3 s (by omega) h2, sI_ne (by omega)], r4, r5, fun a j g1 g2 => by rw [r6 a j g1 g2, sI_ne (by omega)]⟩
    · rw [← r1]
      simp (disch := omega) only [fX12_chase_29, if_neg c, kO_187, kI_222, g_t, b_d, b_c, b_v, Bool.and_true, Bool.and_self, Bool.true_and, xIx, xIn, o1]
    · by_cases u : s = i
      · subst u
        rw [r3 s (by omega) h3, sI_eq]
      · exact r2 s (by omega) h2 h3
end
theorem zz_chase : zH_chase Rel := by
  intro k b S hk h
  obtain ⟨n, hA, hN, hBx, hC, hT, hL⟩ := Rel_iff.mp h
  have hn := hA.1.1
  have n1 := hA.1.2.1
  have n2 := hA.1.2.2.1
  have hp := p32 hn
  have hp1 : 1 ≤ 2 ^ n := Nat.one_le_two_pow
  have sh : shU b = 3 ∨ shU b = 19 := by cases b; exact Or.inl rfl; exact Or.inr rfl
  have ol : (1 : Int32) <<< (nI n &&& 31) - (1 : Int32) = nI (2 ^ n - 1) := by rw [shl1 n (by omega)]; exact xS (a := 2 ^ n) (b := 1) hp1
  have n1' : (sI S 0 13 (nI 0)).1 (shU b) 9 = nI n := by rw [sI_ne (by omega)]; exact n1
  by_cases z0 : n = 0
  · have s1 : (sI S 0 13 (0 : Int32)).1 (shU b) 9 = 0 := by
      show (sI S 0 13 (nI 0)).1 (shU b) 9 = 0
      rw [n1', z0]
      rfl
    have hf1 : fX11_chase b S = some (-1, sI S 0 13 (nI 0)) := by
      unfold fX11_chase
      rw [kO_0, kO_u, Bool.and_true, g_t, b_d, if_pos s1]
      rfl
    have s2 : (sI (sI S 0 13 (nI 0)) 187 51 (0 : Int32)).1 187 37 = 0 := by
      rw [sI_ne (by omega), sI_ne (by omega), n2, z0]
      rfl
    have hf2 : fX12_chase (sI S 0 13 (nI 0)) = some (-1, sI (sI S 0 13 (nI 0)) 187 51 (nI 0)) := by
      unfold fX12_chase
      rw [kO_187, Bool.and_true, g_t, b_d, if_pos s2]
      rfl
    exact ⟨_, _, _, hf1, hf2, Rel_nl (agr_trans (av_agr (L := cond b LX11_chase_t LX11_chase_f) (by cases b; exact rX11_chase_f hf1; exact rX11_chase_t hf1) (by cases b <;> decide +kernel)) (av_agr (rX12_chase hf2) (by cases b <;> decide +kernel))) h ⟨0, by omega, by rw [sI_ne (by omega), sI_eq], by rw [sI_eq], fun i hi => by omega⟩⟩
  have hn0 : ¬ nI n = 0 := fun z => z0 ((xEq (b := 0) (by omega) (by omega)).mp z)
  obtain ⟨q, z, hpq, hpz⟩ := pzN hA hN.1
  have hq : ∀ x, x < n → q x ≤ 60 := fun x hx => (hpq x hx).1
  obtain ⟨C, l1, l2, l3, l4⟩ := c_look6 (b := b) (S := sI S 0 13 (nI 0)) hn n1' (fun j hj => by rw [sI_ne (by omega), sI_ne (by omega)]; exact (hpz j hj).1)
  obtain ⟨N, X, C2, p1, p2, p3⟩ := c_plan (q := q) hn hq (rc_8 hn (by omega)) (C := C) ⟨l2.1, fun x hx => (l2.2.1 x hx).1⟩
  have hN8 := p2.1
  obtain ⟨C3, y1, y2, y3, y4⟩ := s_lay2 (a1 := 108) s_108 (by decide +kernel) (by omega) hN8 (by omega) C2
  have hf1 : fX11_chase b S = some (nI N, C3) := by
    have s1 : ¬ (sI S 0 13 (0 : Int32)).1 (shU b) 9 = 0 := by
      show ¬ (sI S 0 13 (nI 0)).1 (shU b) 9 = 0
      rw [n1']
      exact hn0
    have l1' : fX6_look (shU b) 35 (sI S 0 13 (0 : Int32)) = some C := l1
    unfold fX11_chase
    rw [kO_0, kO_u, Bool.and_true, g_t, b_d, if_neg s1, l1']
    simp only [kO_100, g_t, b_d, b_c, b_v, Bool.and_true, Bool.and_self, Bool.true_and, p1, y1]
  have a1 : agr (supNL (shU b)) S C3 := av_agr (L := cond b LX11_chase_t LX11_chase_f) (by cases b; exact rX11_chase_f hf1; exact rX11_chase_t hf1) (by cases b <;> decide +kernel)
  have a2 : agr (supNL (shU b)) C3 (sI C3 187 51 (nI 0)) := av_agr ((Fr.rfl (inM 999999 [(187, 187, some 51)]) C3).sI (by decide)) (by cases b <;> decide +kernel)
  have a3 := agr_trans a1 a2
  have hm := mRd_of hA hN.1 hpz (agr_app.mp a3).1 (agr_app.mp (agr_app.mp a3).2).1
  obtain ⟨L1, r1, r2, r3⟩ := m_lr2 (q := q) hn hq n 0 mK (sI C3 187 51 (nI 0)) (by omega) (by have := mK_gt; omega) hm.1 (fun x hx => (hm.2 x hx).1) (fun y hy => absurd hy (Nat.not_lt_zero _))
  have n2L : L1.1 187 37 = nI n := by rw [r3 _ _ (by omega)]; exact hm.1
  obtain ⟨L2, t1, t2, _, t4, t5, t6⟩ := m_ch29 32 0 mK L1 (2 ^ n - 1) (by omega) (by have := mK_gt; omega) (by omega)
  have hR : okRo q n L2 := ⟨by rw [t6 _ _ (by omega) (by omega)]; exact n2L, fun x hx => by rw [t6 _ _ (by omega) (by omega)]; exact r2 x hx⟩
  obtain ⟨Fr, last, L3, Q, cd, pi, ln, u1, u2, zz, u3, u4⟩ := m_ch66 (q := q) hn p2 40 0 mK 8 1 L2 (fun _ => 2 ^ n - 1) (fun _ => 1) (fun _ => 0) (fun _ => 0) (by omega) (by have := mK_gt; omega) hR ⟨by omega, rfl, rfl, rfl, fun i hi => ⟨by show 2 ^ n - 1 < 2 ^ n; omega, by rw [show i = 0 by omega]; exact t5, rfl, rfl⟩, fun i h0 hi => by omega, t4, fun s hs hne => t2 s (by omega) (by omega) (fun e => hne 0 (by omega) e.symm), fun i j hij hj => by omega, fun i j hi hj _ => by omega, fun i hi => by show 1 < 8; omega, fun i hi g hg hlt => by have hlt' : 8 * 1 + g < 8 := hlt; omega⟩ (Or.inr (Or.inl ⟨by omega, rfl⟩))
  obtain ⟨b1, b2, b3, b4, b5, b6, b7, b8, b9, b10, b11, b12⟩ := id u2
  -- the word is the least
  have hv := (b5 zz u3).2.2
  have e1 : X ≤ cd zz := p2.2.2.2 (ln zz) (cd zz) hv.1 (by rw [hv.2]; exact u4)
  have e2 : cd zz ≤ X := by
    by_cases w : X < Fr
    · obtain ⟨j, j1, j2, j3⟩ := bq_min u2 N X p2.2.1 w
      rw [p2.2.2.1] at j2
      rw [b10 zz j u3 j1 (by omega)]
      exact j3
    · have := b11 zz u3
      omega
  have ecd : cd zz = X := by omega
  have eln : ln zz = N := by
    have := hv.1
    rw [ecd] at this
    exact vN_len this p2.2.1
  have hz0 : zz ≠ 0 := fun e => by
    rw [e, b2] at u4
    have : 2 ^ 1 ≤ 2 ^ n := Nat.pow_le_pow_right (by omega) (by omega)
    omega
  have pos : 0 ≤ L3.1 222 0 := by
    have := (b6 zz (by omega) u3).2.2.2.1
    rw [u4] at this
    rw [this]
    exact (xLe (a := 0) (by omega) (by omega)).mpr (by omega)
  have hl32 : zz < 32 := by
    have h1 := cN_pg (P := fun _ => true) (f := Q) (N := last) (fun w w' h1 h2 _ _ e => b10 w w' h1 h2 e) (2 ^ n)
    have h2 : cN (fun w => true && decide (Q w < 2 ^ n)) last = cN (fun _ => true) last := cN_congr fun w hw => by
      simp
      exact (b5 w hw).1
    have h3 : ∀ N, cN (fun _ => true) N = N := fun N => by
      induction N with
      | zero => rfl
      | succ N ih =>
        show (if true = true then cN (fun _ => true) N + 1 else _) = _
        rw [if_pos rfl, ih]
    rw [h2, h3] at h1
    omega
  have w1 := m_ch198 hn u2 zz 0 mK (by have := mK_gt; omega) u3
  rw [u4, eln, Nat.zero_add] at w1
  obtain ⟨L4, x1, x2, _, x4, x5⟩ := m_ch227 hn (fun i hi => (b5 i hi).1) b4 (N := N) N zz mK L3 eln hN8 u3 (by have := mK_gt; omega) b6
  rw [u4] at x1
  have hf2 : fX12_chase C3 = some (nI N, L4) := by
    have m0 : mIx (0 : Int32) = 0 := rfl
    have k0 : mIn (0 : Int32) 32 = true := by decide
    have r1' : fX12_layRoad (sI C3 187 51 (0 : Int32)) = some L1 := r1
    have s2 : ¬ (sI C3 187 51 (0 : Int32)).1 187 37 = 0 := by
      show ¬ (sI C3 187 51 (nI 0)).1 187 37 = 0
      rw [hm.1]
      exact hn0
    have t1' : fX12_chase_29 mK (nI (2 ^ n - 1)) (0 : Int32) L1 = _ := t1
    have u1' : fX12_chase_66 mK (nI (2 ^ n - 1)) (1 : Int32) (0 : Int32) L2 = _ := u1
    have w1' : fX12_chase_198 mK (nI (2 ^ n - 1)) (0 : Int32) (0 : Int32) L3 = _ := w1
    have x1' : fX12_chase_227 mK (nI N) (0 : Int32) (nI N + (-1 : Int32)) L3 = _ := x1
    unfold fX12_chase
    rw [kO_187, Bool.and_true, g_t, b_d, g_t, if_neg s2, r1', b_v, g_t, n2L, ol, b_d, t1', u1']
    unfold fX12_chase_182
    rw [kI_222, k0, kO_187, m0, if_pos pos, w1', x1']
    rfl
  have a9 : agr [(186, 186, none), (0, 0, some 13)] C3 L4 := av_agr (rX12_chase hf2) (by decide +kernel)
  have e186 : L4.1 186 = C3.1 186 := a9.1 186 (Nat.le_refl _) (Nat.le_refl _)
  refine ⟨_, _, _, hf1, hf2, Rel_nl (agr_trans (av_agr (L := cond b LX11_chase_t LX11_chase_f) (by cases b; exact rX11_chase_f hf1; exact rX11_chase_t hf1) (by cases b <;> decide +kernel)) (av_agr (rX12_chase hf2) (by cases b <;> decide +kernel))) h ⟨N, hN8, by rw [a9.2.1]; exact y2, x4, fun i hi => ?_⟩⟩
  rw [e186, y3 i hi, p3 i hi, x2 i hi, ecd]
