/-! LIARS: the search. -/
def qF (n : Nat) (f : Nat → Nat) (F0 W F : Nat) (C : mT) : Prop := (W = 0 ∧ F = F0) ∨ ∃ w, w < W ∧ F = f w ∧ (∀ x, x < w → F < f x) ∧ (∀ x, x < W → F ≤ f x) ∧ ∀ i, i < n → C.1 185 i = nI (dg8 n w i)
section
variable {n F0 : Nat} {f : Nat → Nat} {C C' : mT}
theorem qF_skip {W K F : Nat} (hK : 0 < K) (hlt : ∀ x, x < W + K → f x < F0) (h : ∀ x, x < K → F ≤ f (W + x)) (H : qF n f F0 W F C) : qF n f F0 (W + K) F C := by
  rcases H with ⟨h1, h2⟩ | ⟨w, h1, h2, h3, h4, h5⟩
  · have a1 := h 0 hK
    have a2 := hlt (W + 0) (by omega)
    omega
  · refine Or.inr ⟨w, by omega, h2, h3, fun x hx => ?_, h5⟩
    by_cases q : x < W
    · exact h4 x q
    · have := h (x - W) (by omega)
      rw [show W + (x - W) = x by omega] at this
      exact this
theorem qF_take {W F : Nat} (h : f W < F) (H : qF n f F0 W F C) (hr : ∀ i, i < n → C'.1 185 i = nI (dg8 n W i)) : qF n f F0 (W + 1) (f W) C' := by
  refine Or.inr ⟨W, by omega, rfl, fun x hx => ?_, fun x hx => ?_, hr⟩
  · rcases H with ⟨h1, _⟩ | ⟨w, _, _, _, h4, _⟩
    · omega
    · have := h4 x hx
      omega
  · by_cases q : x = W
    · rw [q]
      exact Nat.le_refl _
    · rcases H with ⟨h1, _⟩ | ⟨w, _, _, _, h4, _⟩
      · omega
      · have := h4 x (by omega)
        omega
theorem qF_fr {W F : Nat} (e : ∀ i, i < n → C'.1 185 i = C.1 185 i) (H : qF n f F0 W F C) : qF n f F0 W F C' := by
  rcases H with h | ⟨w, h1, h2, h3, h4, h5⟩
  · exact Or.inl h
  · exact Or.inr ⟨w, h1, h2, h3, h4, fun i hi => by rw [e i hi]; exact h5 i hi⟩
end
section
variable {n r : Nat} {st lo hi : Nat → Nat} {c : Nat → Bool}
def lcx (n r : Nat) (st lo hi : Nat → Nat) (c : Nat → Bool) (C : mT) : Prop := (∀ s x, s < 32 → x < 36 → C.1 (142 + s) x = nI (agS c st lo hi r s x)) ∧ (∀ h, h < n → lsO (tdS c st r) h (2 ^ h) 174 C) ∧ (∀ i, i ≤ n → C.1 183 i = nI (owD (tdS c st r) (lmS r st lo hi c) n (n - i))) ∧ C.1 140 6 = nI n
def fL (C C' : mT) : Prop := ∀ a j, a ≠ 175 → a ≠ 184 → a ≠ 185 → ¬ (a = 140 ∧ j = 5) → C'.1 a j = C.1 a j
theorem fL.rf (C : mT) : fL C C := fun _ _ _ _ _ _ => rfl
theorem fL.tr {C D E : mT} (h : fL C D) (h2 : fL D E) : fL C E := fun a j g1 g2 g3 g4 => (h2 a j g1 g2 g3 g4).trans (h a j g1 g2 g3 g4)
theorem lcx_fr (hn : n ≤ 5) {C C' : mT} (h : lcx n r st lo hi c C) (f : fL C C') : lcx n r st lo hi c C' := by
  obtain ⟨h1, h2, h3, h4⟩ := h
  refine ⟨fun s x hs hx => by rw [f _ _ (by omega) (by omega) (by omega) (by omega)]; exact h1 s x hs hx, fun h hh => ?_, fun i hi => by rw [f _ _ (by omega) (by omega) (by omega) (by omega)]; exact h3 i hi, by rw [f _ _ (by omega) (by omega) (by omega) (by omega)]; exact h4⟩
  obtain ⟨u1, u2⟩ := h2 h hh
  exact ⟨by rw [f _ _ (by omega) (by omega) (by omega) (by omega)]; exact u1, fun x hx hx2 => by rw [f _ _ (by omega) (by omega) (by omega) (by omega)]; exact u2 x hx hx2⟩
def hdL (h p : Nat) (C : mT) : Prop := ∀ x, x < 2 ^ h → C.1 175 x = nI (sSet h p x h)
def trL (h p : Nat) (C : mT) : Prop := ∀ i, i < h → C.1 184 i = nI (dg8 h p i)
theorem c_aw5 (hr : r ≤ 30) {h v : Nat} (hh : h < 5) (hv : v < 8) {g : Nat → Nat} (hg : ∀ x, x < 2 ^ h → g x ≤ 28) {C : mT} (e : ∀ s x, s < 32 → x < 36 → C.1 (142 + s) x = nI (agS c st lo hi r s x)) (e2 : ∀ x, x < 2 ^ h → C.1 175 x = nI (g x)) (H : lsO (tdS c st r) h (2 ^ h) 174 C) : ∀ (m x k : Nat), x + m = 2 ^ h → m < k → fX3_againstWith_5 k (nI h) (nI v) (nI (sN (fun x => agS c st lo hi r (x + 2 ^ h) (g x + v)) x)) (nI (cN (fun x => tdS c st r (x + 2 ^ h)) x)) C = some (nI (sN (fun x => agS c st lo hi r (x + 2 ^ h) (g x + v)) (2 ^ h)), C)
  | 0, x, k, hx, hk => by
    obtain ⟨k', rfl⟩ := up1 hk
    have hx : x = 2 ^ h := by omega
    subst hx
    have e8 : C.1 182 h = nI (cN (fun x => tdS c st r (x + 2 ^ h)) (2 ^ h)) := H.1
    have c0 : nI (cN (fun x => tdS c st r (x + 2 ^ h)) (2 ^ h)) ≤ nI (cN (fun x => tdS c st r (x + 2 ^ h)) (2 ^ h)) := Int32.le_refl _
    simp (disch := omega) only [fX3_againstWith_5, kO_174, kO_140, kI_182, g_t, b_d, b_c, b_v, Bool.and_true, Bool.and_self, Bool.true_and, xIx, xIn, e8, if_pos c0]
  | m + 1, x, k, hx, hk => by
    obtain ⟨k', rfl⟩ := up1 hk
    have hp := p2 hh
    have e8 : C.1 182 h = nI (cN (fun x => tdS c st r (x + 2 ^ h)) (2 ^ h)) := H.1
    have hc1 := cN_le (fun x => tdS c st r (x + 2 ^ h)) (2 ^ h)
    obtain ⟨op, hlt⟩ := or_pow hh (x := x) (by omega)
    have es : sN (fun x => agS c st lo hi r (x + 2 ^ h) (g x + v)) (x + 1) = sN (fun x => agS c st lo hi r (x + 2 ^ h) (g x + v)) x + agS c st lo hi r (x + 2 ^ h) (g x + v) := rfl
    by_cases q : tdS c st r (x + 2 ^ h) = true
    · have ec : cN (fun x => tdS c st r (x + 2 ^ h)) (x + 1) = cN (fun x => tdS c st r (x + 2 ^ h)) x + 1 := if_pos q
      have hc := cN_lt (fun x => tdS c st r (x + 2 ^ h)) (a := x) (b := 2 ^ h) q (by omega)
      have c0 : ¬ nI (cN (fun x => tdS c st r (x + 2 ^ h)) (2 ^ h)) ≤ nI (cN (fun x => tdS c st r (x + 2 ^ h)) x) := fun y => by have := (xLe (by omega) (by omega)).mp y; omega
      have er : C.1 (177 + h) (cN (fun x => tdS c st r (x + 2 ^ h)) x) = nI x := H.2 x (by omega) q
      have o1 : nI (cN (fun x => tdS c st r (x + 2 ^ h)) x) + (1 : Int32) = nI (cN (fun x => tdS c st r (x + 2 ^ h)) x + 1) := nI_add _ 1
      have h3 := hg x (by omega)
      rw [← c_aw5 hr hh hv hg e e2 H m (x + 1) k' (by omega) (by omega), ec, es]
      simp (disch := omega) only [fX3_againstWith_5, kO_174, kO_140, kI_182, kI_175, kR_176, rw_176, ki_176, kR_141, rw_141, ki_141, g_t, b_d, b_c, b_v, Bool.and_true, Bool.and_self, Bool.true_and, xIx, xIn, e8, if_neg c0, er, op, e2 x (by omega), nI_add, e (x + 2 ^ h) (g x + v) hlt (by omega), o1]
    · have ec : cN (fun x => tdS c st r (x + 2 ^ h)) (x + 1) = cN (fun x => tdS c st r (x + 2 ^ h)) x := if_neg q
      rw [agS_0 r q] at es
      have es' : sN (fun x => agS c st lo hi r (x + 2 ^ h) (g x + v)) (x + 1) = sN (fun x => agS c st lo hi r (x + 2 ^ h) (g x + v)) x := es
      rw [← c_aw5 hr hh hv hg e e2 H m (x + 1) (k' + 1) (by omega) (by omega), ec, es']
theorem blk_le {h m p v : Nat} (hn : n = h + 1 + m) (hp : p < 8 ^ h) (hv : v < 8) : (p * 8 + v) * 8 ^ m + 8 ^ m ≤ 8 ^ n := by
  have h1 : p * 8 + v + 1 ≤ 8 ^ (h + 1) := by
    rw [Nat.pow_succ]
    omega
  have h2 := Nat.mul_le_mul_right (8 ^ m) h1
  rw [← Nat.pow_add, ← hn, Nat.add_mul _ 1, Nat.one_mul] at h2
  exact h2
theorem c_sf49 (hn5 : n ≤ 5) (hr : r ≤ 30) {h m p F0 : Nat} (hn : n = h + 1 + m) (hp : p < 8 ^ h) (hlt : ∀ w, w < 8 ^ n → aN r st lo hi c n w < F0) (hF0 : F0 ≤ 31) (self : Int32 → Int32 → mT → Option mT)
    (IH : ∀ v, v < 8 → ∀ (C : mT) (F : Nat), lcx n r st lo hi c C → hdL (h + 1) (p * 8 + v) C → trL (h + 1) (p * 8 + v) C → C.1 140 5 = nI F → F ≤ F0 → qF n (aN r st lo hi c n) F0 ((p * 8 + v) * 8 ^ m) F C → ∃ C' F', self (nI (h + 1)) (nI (aN r st lo hi c (h + 1) (p * 8 + v))) C = some C' ∧ fL C C' ∧ (∀ x, x < 2 ^ (h + 1) → C'.1 175 x = C.1 175 x) ∧ (∀ i, i < h + 1 → C'.1 184 i = C.1 184 i) ∧ C'.1 140 5 = nI F' ∧ F' ≤ F0 ∧ qF n (aN r st lo hi c n) F0 ((p * 8 + v + 1) * 8 ^ m) F' C') :
    ∀ (q v k : Nat) (C : mT) (F : Nat), v + q = 8 → q < k → lcx n r st lo hi c C → hdL h p C → trL h p C → C.1 140 5 = nI F → F ≤ F0 → qF n (aN r st lo hi c n) F0 ((p * 8 + v) * 8 ^ m) F C → ∃ C' F', fX3_searchFrom_49 self k (nI h) (nI (aN r st lo hi c h p)) (nI v) C = some C' ∧ fL C C' ∧ (∀ x, x < 2 ^ h → C'.1 175 x = C.1 175 x) ∧ (∀ i, i < h → C'.1 184 i = C.1 184 i) ∧ C'.1 140 5 = nI F' ∧ F' ≤ F0 ∧ qF n (aN r st lo hi c n) F0 ((p * 8 + 8) * 8 ^ m) F' C'
  | 0, v, k, C, F, hv, hk, hx, hd, ht, e5, hF, hq => by
    obtain ⟨k', rfl⟩ := up1 hk
    have hv : v = 8 := by omega
    subst hv
    have c0 : (7 : Int32) < nI 8 := by decide
    exact ⟨C, F, by simp only [fX3_searchFrom_49, if_pos c0], fL.rf C, fun _ _ => rfl, fun _ _ => rfl, e5, hF, hq⟩
  | q + 1, v, k, C, F, hv, hk, hx, hd, ht, e5, hF, hq => by
    obtain ⟨k', rfl⟩ := up1 hk
    have hv8 : v < 8 := by omega
    have c0 : ¬ (7 : Int32) < nI v := fun z => by have := (xLt (a := 7) (by omega) (by omega)).mp z; omega
    have o1 : nI v + (1 : Int32) = nI (v + 1) := nI_add v 1
    have oh : nI h + (1 : Int32) = nI (h + 1) := nI_add h 1
    have hg : ∀ x, x < 2 ^ h → sSet h p x h ≤ 28 := fun x _ => by
      have := sSet_le h p x h
      omega
    have hp2 := p2 (h := h) (by omega)
    have aw : fX3_againstWith (nI h) (nI v) C = some (nI (sN (fun x => agS c st lo hi r (x + 2 ^ h) (sSet h p x h + v)) (2 ^ h)), C) := c_aw5 hr (h := h) (v := v) (by omega) hv8 (g := fun x => sSet h p x h) hg hx.1 hd (hx.2.1 h (by omega)) (2 ^ h) 0 mK (by omega) (by have := mK_gt; omega)
    have ech := aN_ch (r := r) (st := st) (lo := lo) (hi := hi) (c := c) (h := h) (p := p) (v := v) hv8
    have hb1 := aN_le (r := r) (st := st) (lo := lo) (hi := hi) (c := c) hr (h := h + 1) (p := p * 8 + v) (by omega)
    have hob := owD_le (td := tdS c st r) (lm := lmS r st lo hi c) hn5 (fun s => mnA_30 _ _) m (by omega)
    have eow : C.1 183 (h + 1) = nI (owD (tdS c st r) (lmS r st lo hi c) n m) := by
      rw [hx.2.2.1 (h + 1) (by omega), show n - (h + 1) = m by omega]
    have hle := blk_le (n := n) (h := h) (m := m) (p := p) (v := v) hn hp hv8
    have enx : (p * 8 + v) * 8 ^ m + 8 ^ m = (p * 8 + (v + 1)) * 8 ^ m := by
      rw [← Nat.add_assoc, Nat.add_mul (p * 8 + v) 1, Nat.one_mul]
    generalize hC5 : sI C 184 h (nI v) = C5
    have f5 : fL C C5 := fun a j g1 g2 _ _ => by rw [← hC5, sI_ne (by omega)]
    have e55 : C5.1 140 5 = nI F := by rw [← hC5, sI_ne (by omega)]; exact e5
    have e5w : C5.1 183 (h + 1) = nI (owD (tdS c st r) (lmS r st lo hi c) n m) := by rw [← hC5, sI_ne (by omega)]; exact eow
    have h175 : ∀ x, C5.1 175 x = C.1 175 x := fun x => by rw [← hC5, sI_ne (by omega)]
    have h184 : ∀ i, i < h → C5.1 184 i = C.1 184 i := fun i hi => by rw [← hC5, sI_ne (by omega)]
    have h185 : ∀ i, C5.1 185 i = C.1 185 i := fun i => by rw [← hC5, sI_ne (by omega)]
    have t5 : trL (h + 1) (p * 8 + v) C5 := fun i hi => by
      by_cases z : i = h
      · subst z
        rw [dg8_last hv8, ← hC5, sI_eq]
      · rw [dg8_child hv8 (by omega), h184 i (by omega)]
        exact ht i (by omega)
    have lowb := fun y (hy : y < 8 ^ m) => ow_low (r := r) (st := st) (lo := lo) (hi := hi) (c := c) hn5 m (h + 1) (p * 8 + v) y hn hy
    rw [ech] at lowb hb1
    -- go on with the next
    have fin : ∀ (C7 : mT) (F7 : Nat), fL C C7 → (∀ x, x < 2 ^ h → C7.1 175 x = C.1 175 x) → (∀ i, i < h → C7.1 184 i = C.1 184 i) → C7.1 140 5 = nI F7 → F7 ≤ F0 → qF n (aN r st lo hi c n) F0 ((p * 8 + (v + 1)) * 8 ^ m) F7 C7 → ∃ C' F', fX3_searchFrom_110 self (fX3_searchFrom_49 self k') (nI h) (nI (aN r st lo hi c h p)) (nI v) C7 = some C' ∧ fL C C' ∧ (∀ x, x < 2 ^ h → C'.1 175 x = C.1 175 x) ∧ (∀ i, i < h → C'.1 184 i = C.1 184 i) ∧ C'.1 140 5 = nI F' ∧ F' ≤ F0 ∧ qF n (aN r st lo hi c n) F0 ((p * 8 + 8) * 8 ^ m) F' C' := fun C7 F7 g1 g2 g3 g4 g5 g6 => by
      obtain ⟨C', F', r1, r2, r3, r4, r5⟩ := c_sf49 hn5 hr hn hp hlt hF0 self IH q (v + 1) k' C7 F7 (by omega) (by omega) (lcx_fr hn5 hx g1) (fun x hx => by rw [g2 x hx]; exact hd x hx) (fun i hi => by rw [g3 i hi]; exact ht i hi) g4 g5 g6
      refine ⟨C', F', ?_, g1.tr r2, fun x hx => by rw [r3 x hx, g2 x hx], fun i hi => by rw [r4 i hi, g3 i hi], r5⟩
      rw [← r1]
      simp only [fX3_searchFrom_110, g_t, b_d, b_c, b_v, Bool.and_true, Bool.and_self, Bool.true_and, o1]
    have o2 : nI (aN r st lo hi c h p) + nI (sN (fun x => agS c st lo hi r (x + 2 ^ h) (sSet h p x h + v)) (2 ^ h)) = nI (aN r st lo hi c h p + sN (fun x => agS c st lo hi r (x + 2 ^ h) (sSet h p x h + v)) (2 ^ h)) := nI_add _ _
    have o3 := nI_add (aN r st lo hi c h p + sN (fun x => agS c st lo hi r (x + 2 ^ h) (sSet h p x h + v)) (2 ^ h)) (owD (tdS c st r) (lmS r st lo hi c) n m)
    by_cases z : F ≤ aN r st lo hi c h p + sN (fun x => agS c st lo hi r (x + 2 ^ h) (sSet h p x h + v)) (2 ^ h) + owD (tdS c st r) (lmS r st lo hi c) n m
    · have z' : nI F ≤ nI (aN r st lo hi c h p + sN (fun x => agS c st lo hi r (x + 2 ^ h) (sSet h p x h + v)) (2 ^ h) + owD (tdS c st r) (lmS r st lo hi c) n m) := (xLe (by omega) (by omega)).mpr z
      obtain ⟨C', F', r1, r2⟩ := fin C5 F f5 (fun x _ => h175 x) h184 e55 hF (by
        rw [← enx]
        exact qF_fr (fun i _ => h185 i) (qF_skip (Nat.pow_pos (by omega)) (fun x hx => hlt x (by omega)) (fun x hx => Nat.le_trans z (lowb x hx)) hq))
      refine ⟨C', F', ?_, r2⟩
      rw [← r1]
      simp (disch := omega) only [fX3_searchFrom_49, if_neg c0, aw, kO_140, kI_184, kI_183, g_t, b_d, b_c, b_v, Bool.and_true, Bool.and_self, Bool.true_and, oh, xIx, xIn, hC5, e55, e5w, o2, o3, if_pos z']
    · have z' : ¬ nI F ≤ nI (aN r st lo hi c h p + sN (fun x => agS c st lo hi r (x + 2 ^ h) (sSet h p x h + v)) (2 ^ h) + owD (tdS c st r) (lmS r st lo hi c) n m) := fun y => z ((xLe (by omega) (by omega)).mp y)
      obtain ⟨C6, s1, s2, s3, s4⟩ := c_sh2 (g := fun x => sSet h p x h) (h := h) kLs174 (by omega) (v := v) (2 ^ h) 0 mK C5 (by omega) (by have := mK_gt; omega) (fun y hy => by rw [h175 y]; exact hd y hy)
      have s1' : fX9_setHeads 174 (nI h) (nI v) C5 = some C6 := s1
      have f6 : fL C C6 := f5.tr fun a j g1 _ _ _ => s4 a j g1
      have hd6 : hdL (h + 1) (p * 8 + v) C6 := fun x hx => by
        rw [Nat.pow_succ] at hx
        by_cases y : x < 2 ^ h
        · rw [(sSet_ch hv8 y).1]
          exact (s3 x (by omega)).trans ((h175 x).trans (hd x y))
        · obtain ⟨x', hx'⟩ : ∃ x', x = x' + 2 ^ h := ⟨x - 2 ^ h, by omega⟩
          rw [hx', (sSet_ch hv8 (by omega)).2]
          exact s2 x' (by omega) (by omega)
      obtain ⟨C7, F7, t1, t2, t3, t4, t5', t6, t7⟩ := IH v hv8 C6 F (lcx_fr hn5 hx f6) hd6 (fun i hi => by rw [s4 _ _ (by omega)]; exact t5 i hi) (by rw [s4 _ _ (by omega)]; exact e55) hF (qF_fr (fun i _ => by rw [s4 _ _ (by omega), h185 i]) hq)
      rw [ech] at t1
      obtain ⟨C', F', r1, r2⟩ := fin C7 F7 (f6.tr t2) (fun x hx => by rw [t3 x (by rw [Nat.pow_succ]; omega), s3 x (by omega), h175 x]) (fun i hi => by rw [t4 i (by omega), s4 _ _ (by omega), h184 i hi]) t5' t6 (by rw [← Nat.add_assoc]; exact t7)
      refine ⟨C', F', ?_, r2⟩
      rw [← r1]
      simp (disch := omega) only [fX3_searchFrom_49, if_neg c0, aw, kO_140, kI_184, kI_183, g_t, b_d, b_c, b_v, Bool.and_true, Bool.and_self, Bool.true_and, oh, xIx, xIn, hC5, e55, e5w, o2, o3, if_neg z', s1', t1]
theorem c_sf (hn5 : n ≤ 5) (hr : r ≤ 30) {F0 : Nat} (hlt : ∀ w, w < 8 ^ n → aN r st lo hi c n w < F0) (hF0 : F0 ≤ 31) : ∀ (m h dd p : Nat) (C : mT) (F : Nat), n = h + m → m < dd → p < 8 ^ h → lcx n r st lo hi c C → hdL h p C → trL h p C → C.1 140 5 = nI F → F ≤ F0 → qF n (aN r st lo hi c n) F0 (p * 8 ^ m) F C → ∃ C' F', fX3_searchFrom dd (nI h) (nI (aN r st lo hi c h p)) C = some C' ∧ fL C C' ∧ (∀ x, x < 2 ^ h → C'.1 175 x = C.1 175 x) ∧ (∀ i, i < h → C'.1 184 i = C.1 184 i) ∧ C'.1 140 5 = nI F' ∧ F' ≤ F0 ∧ qF n (aN r st lo hi c n) F0 ((p + 1) * 8 ^ m) F' C'
  | m, h, 0, p, C, F, hn, hd0, hp, hx, hd, ht, e5, hF, hq => by omega
  | m, h, d' + 1, p, C, F, hn, hd0, hp, hx, hd, ht, e5, hF, hq => by
    have hb1 := aN_le (r := r) (st := st) (lo := lo) (hi := hi) (c := c) hr (h := h) (p := p) (by omega)
    have hob := owD_le (td := tdS c st r) (lm := lmS r st lo hi c) hn5 (fun s => mnA_30 _ _) m (by omega)
    have eow : C.1 183 h = nI (owD (tdS c st r) (lmS r st lo hi c) n m) := by
      rw [hx.2.2.1 h (by omega), show n - h = m by omega]
    have e6 := hx.2.2.2
    have o3 := nI_add (aN r st lo hi c h p) (owD (tdS c st r) (lmS r st lo hi c) n m)
    have e8 : (p + 1) * 8 ^ m = p * 8 ^ m + 8 ^ m := by rw [Nat.add_mul, Nat.one_mul]
    have hle : p * 8 ^ m + 8 ^ m ≤ 8 ^ n := by
      have h2 := Nat.mul_le_mul_right (8 ^ m) (show p + 1 ≤ 8 ^ h from hp)
      rw [← Nat.pow_add, ← hn, e8] at h2
      exact h2
    by_cases z : aN r st lo hi c h p + owD (tdS c st r) (lmS r st lo hi c) n m < F
    · have z' : nI (aN r st lo hi c h p + owD (tdS c st r) (lmS r st lo hi c) n m) < nI F := (xLt (by omega) (by omega)).mpr z
      by_cases y : m = 0
      · subst y
        have hnh : n = h := by omega
        subst hnh
        have c1 : ¬ nI n < nI n := Int32.lt_irrefl
        have hk := kC_of s_184 (by decide +kernel) s_185 (by decide +kernel) (0 : Int32) (0 : Int32) (nI n)
        rw [cpOk0 (by omega) (by omega) (by omega)] at hk
        generalize hC' : sC (sI C 140 5 (nI (aN r st lo hi c n p))) 184 185 (0 : Int32) (0 : Int32) (nI n) = C'
        have rd : ∀ a j, a ≠ 185 → C'.1 a j = (sI C 140 5 (nI (aN r st lo hi c n p))).1 a j := fun a j g => by rw [← hC', sC0 (by omega), if_neg (by omega)]
        have e66 : (sI C 140 5 (nI (aN r st lo hi c n p))).1 140 6 = nI n := by rw [sI_ne (by omega)]; exact e6
        refine ⟨C', aN r st lo hi c n p, ?_, fun a j g1 g2 g3 g4 => by rw [rd a j g3, sI_ne g4], fun x _ => by rw [rd _ _ (by omega), sI_ne (by omega)], fun i _ => by rw [rd _ _ (by omega), sI_ne (by omega)], by rw [rd _ _ (by omega), sI_eq], by omega, ?_⟩
        · simp (disch := omega) only [fX3_searchFrom, fX3_searchFrom_0, kO_140, kI_183, g_t, b_d, b_c, b_v, Bool.and_true, Bool.and_self, Bool.true_and, xIx, xIn, eow, e5, o3, if_pos z', e6, if_neg c1, e66, hk, hC']
        · rw [Nat.pow_zero, Nat.mul_one]
          rw [Nat.pow_zero, Nat.mul_one] at hq
          refine qF_take (by omega) hq (fun i hi => ?_)
          rw [← hC', sC0 (by omega), if_pos ⟨rfl, hi⟩, sI_ne (by omega)]
          exact ht i hi
      · obtain ⟨m', rfl⟩ : ∃ m', m = m' + 1 := ⟨m - 1, by omega⟩
        have c1 : nI h < nI n := (xLt (by omega) (by omega)).mpr (by omega)
        have e88 : p * 8 ^ (m' + 1) = (p * 8 + 0) * 8 ^ m' := by rw [Nat.pow_succ, Nat.add_zero, Nat.mul_assoc, Nat.mul_comm (8 ^ m') 8]
        have e89 : (p + 1) * 8 ^ (m' + 1) = (p * 8 + 8) * 8 ^ m' := by rw [Nat.pow_succ, Nat.mul_comm (8 ^ m') 8, ← Nat.mul_assoc, Nat.add_mul, Nat.one_mul]
        obtain ⟨C', F', r1, r2⟩ := c_sf49 (st := st) (lo := lo) (hi := hi) (c := c) hn5 hr (h := h) (m := m') (p := p) (by omega) hp hlt hF0 (fX3_searchFrom d') (fun v hv C F i1 i2 i3 i4 i5 i6 => c_sf hn5 hr hlt hF0 m' (h + 1) d' (p * 8 + v) C F (by omega) (by omega) (by rw [Nat.pow_succ]; omega) i1 i2 i3 i4 i5 i6) 8 0 mK C F (by omega) (by have := mK_gt; omega) hx hd ht e5 hF (by rw [← e88]; exact hq)
        refine ⟨C', F', ?_, by rw [e89]; exact r2⟩
        have r1' : fX3_searchFrom_49 (fX3_searchFrom d') mK (nI h) (nI (aN r st lo hi c h p)) (0 : Int32) C = some C' := r1
        simp (disch := omega) only [fX3_searchFrom, fX3_searchFrom_0, kO_140, kI_183, g_t, b_d, b_c, b_v, Bool.and_true, Bool.and_self, Bool.true_and, xIx, xIn, eow, e5, o3, if_pos z', e6, if_pos c1, r1']
    · have z' : ¬ nI (aN r st lo hi c h p + owD (tdS c st r) (lmS r st lo hi c) n m) < nI F := fun y => z ((xLt (by omega) (by omega)).mp y)
      refine ⟨C, F, ?_, fL.rf C, fun _ _ => rfl, fun _ _ => rfl, e5, hF, ?_⟩
      · simp (disch := omega) only [fX3_searchFrom, fX3_searchFrom_0, kO_140, kI_183, g_t, b_d, b_c, b_v, Bool.and_true, Bool.and_self, Bool.true_and, xIx, xIn, eow, e5, o3, if_neg z']
      · rw [e8]
        exact qF_skip (Nat.pow_pos (by omega)) (fun x hx => hlt x (by omega)) (fun x hx => by have := ow_low (r := r) (st := st) (lo := lo) (hi := hi) (c := c) hn5 m h p x hn hx; omega) hq
end
