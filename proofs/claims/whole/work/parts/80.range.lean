/-! RANGE, KNOCK, ODDS. -/
theorem nI_ne1 {x : Nat} (h : x < 2000000) : ¬ nI x = (-1 : Int32) := fun z => by
  have hh : (nI x = nM) = False := nM_eq h
  exact (hh ▸ z : False)
def fwI (f : Nat → Nat) : Nat → Nat → Int32
  | 0, _ => -1
  | m + 1, i => if 0 < f i then nI i else fwI f m (i + 1)
def mdI (f : Nat → Nat) : Nat → Int32
  | 0 => -1
  | i + 1 => if 0 < f i then nI i else mdI f i
def msI (f : Nat → Nat) : Nat → Nat → Int32 → Int32
  | 0, _, b => b
  | m + 1, i, b => msI f m (i + 1) (if 0 < f i then nI i else b)
theorem ms_md (f : Nat → Nat) : ∀ m i, msI f m i (mdI f i) = mdI f (i + m)
  | 0, _ => rfl
  | m + 1, i => by
    show msI f m (i + 1) (mdI f (i + 1)) = _
    rw [ms_md f m (i + 1), show i + 1 + m = i + (m + 1) by omega]
section
variable {f : Nat → Nat} {h : Nat} {C L : mT}
theorem c_few (hh : h < 5) (hf : ∀ v, f v ≤ 32768) (e : ∀ v, v < 8 → C.1 (122 + h) v = nI (f v)) : ∀ (m i k : Nat), i + m = 8 → m < k → fX10_fewestIn_2 k (nI h) (nI i) C = some (fwI f m i, C)
  | 0, i, k, hi, hk => by
    obtain ⟨k', rfl⟩ := up1 hk
    have hi : i = 8 := by omega
    subst hi
    have c : (7 : Int32) < nI 8 := by decide
    simp only [fX10_fewestIn_2, if_pos c, fwI]
  | m + 1, i, k, hi, hk => by
    obtain ⟨k', rfl⟩ := up1 hk
    have c : ¬ (7 : Int32) < nI i := fun z => by have := (xLt (a := 7) (by omega) (by omega)).mp z; omega
    have o1 : nI i + (1 : Int32) = nI (i + 1) := nI_add i 1
    have hb := hf i
    by_cases q : 0 < f i
    · have q' : ¬ nI (f i) ≤ 0 := fun z => by have := (xLe (b := 0) (by omega) (by omega)).mp z; omega
      simp (disch := omega) only [fX10_fewestIn_2, if_neg c, kR_121, kO_120, g_t, b_d, b_c, b_v, Bool.and_true, Bool.and_self, Bool.true_and, xIx, xIn, rw_121, ki_121, e i (by omega), if_neg q', fwI, if_pos q]
    · have q' : nI (f i) ≤ 0 := (xLe (b := 0) (by omega) (by omega)).mpr (by omega)
      have ih := c_few hh hf e m (i + 1) k' (by omega) (by omega)
      simp (disch := omega) only [fX10_fewestIn_2, if_neg c, kR_121, kO_120, g_t, b_d, b_c, b_v, Bool.and_true, Bool.and_self, Bool.true_and, xIx, xIn, rw_121, ki_121, e i (by omega), if_pos q', fwI, if_neg q, o1, ih]
theorem c_most (hh : h < 5) (hf : ∀ v, f v ≤ 32768) (e : ∀ v, v < 8 → C.1 (122 + h) v = nI (f v)) : ∀ (i k : Nat), i ≤ 8 → i < k → fX10_mostIn_3 k (nI h) (nI i + (-1 : Int32)) C = some (mdI f i, C)
  | 0, k, hi, hk => by
    obtain ⟨k', rfl⟩ := up1 hk
    have c : nI 0 + (-1 : Int32) < 0 := by decide
    simp only [fX10_mostIn_3, if_pos c, mdI]
  | i + 1, k, hi, hk => by
    obtain ⟨k', rfl⟩ := up1 hk
    have o1 : nI (i + 1) + (-1 : Int32) = nI i := xP (a := i + 1) (by omega)
    have c : ¬ nI i < 0 := nI_pos (by omega)
    have hb := hf i
    rw [o1]
    by_cases q : 0 < f i
    · have q' : ¬ nI (f i) ≤ 0 := fun z => by have := (xLe (b := 0) (by omega) (by omega)).mp z; omega
      simp (disch := omega) only [fX10_mostIn_3, if_neg c, kR_121, kO_120, g_t, b_d, b_c, b_v, Bool.and_true, Bool.and_self, Bool.true_and, xIx, xIn, rw_121, ki_121, e i (by omega), if_neg q', mdI, if_pos q]
    · have q' : nI (f i) ≤ 0 := (xLe (b := 0) (by omega) (by omega)).mpr (by omega)
      have ih := c_most hh hf e i k' (by omega) (by omega)
      simp (disch := omega) only [fX10_mostIn_3, if_neg c, kR_121, kO_120, g_t, b_d, b_c, b_v, Bool.and_true, Bool.and_self, Bool.true_and, xIx, xIn, rw_121, ki_121, e i (by omega), if_pos q', mdI, if_neg q, ih]
theorem m_rg (hh : h < 5) (hf : ∀ v, f v ≤ 32768) (e : ∀ v, v < 8 → L.1 229 (8 * h + v) = nI (f v)) (w : Int32) : ∀ (m i k : Nat) (x y : Int32), i + m = 8 → m < k → (x = -1 ∨ ∃ z, z < 8 ∧ x = nI z) → fX12_range_33 k (nI h) w x y (nI i) L = some (if w = 0 then (if x = -1 then fwI f m i else x) else msI f m i y, L)
  | 0, i, k, x, y, hi, hk, hx => by
    obtain ⟨k', rfl⟩ := up1 hk
    have hi : i = 8 := by omega
    subst hi
    have c : (7 : Int32) < nI 8 := by decide
    by_cases q : w = 0
    · simp only [fX12_range_33, fX12_range_93, if_pos c, if_pos q, fwI]
      rcases hx with hx | ⟨z, hz, hx⟩
      · rw [hx, if_pos rfl]
      · rw [if_neg (by rw [hx]; exact nI_ne1 (by omega))]
    · simp only [fX12_range_33, fX12_range_93, if_pos c, if_neg q, msI]
  | m + 1, i, k, x, y, hi, hk, hx => by
    obtain ⟨k', rfl⟩ := up1 hk
    have c : ¬ (7 : Int32) < nI i := fun z => by have := (xLt (a := 7) (by omega) (by omega)).mp z; omega
    have o1 : nI i + (1 : Int32) = nI (i + 1) := nI_add i 1
    have o2 : (8 : Int32) * nI h + nI i = nI (8 * h + i) := by rw [show (8 : Int32) = nI 8 from rfl, xM, nI_add]
    have hb := hf i
    by_cases q : 0 < f i
    · have q' : ¬ nI (f i) = 0 := fun z => by have := (xEq (b := 0) (by omega) (by omega)).mp z; omega
      have ni : ¬ nI i = (-1 : Int32) := fun z => by
        have hh : (nI i = nM) = False := nM_eq (by omega)
        exact (hh ▸ z : False)
      rcases hx with hx | ⟨z, hz, hx⟩
      · have hx0 : ¬ (0 : Int32) ≤ x := by rw [hx]; decide
        have ih := m_rg hh hf e w m (i + 1) k' (nI i) (nI i) (by omega) (by omega) (Or.inr ⟨i, by omega, rfl⟩)
        rw [if_neg ni] at ih
        simp (disch := omega) only [fX12_range_33, fX12_range_70, fX12_range_76, if_neg c, kI_229, kO_187, g_t, b_d, b_c, b_v, Bool.and_true, Bool.and_self, Bool.true_and, o2, xIx, xIn, e i (by omega), if_neg q', if_neg hx0, o1, ih, if_pos hx, fwI, msI, if_pos q]
      · have hx0 : (0 : Int32) ≤ x := by rw [hx]; exact (xLe (a := 0) (by omega) (by omega)).mpr (by omega)
        have nx : ¬ x = (-1 : Int32) := by
          rw [hx]
          exact nI_ne1 (by omega)
        have ih := m_rg hh hf e w m (i + 1) k' x (nI i) (by omega) (by omega) (Or.inr ⟨z, hz, hx⟩)
        rw [if_neg nx] at ih
        simp (disch := omega) only [fX12_range_33, fX12_range_70, fX12_range_76, if_neg c, kI_229, kO_187, g_t, b_d, b_c, b_v, Bool.and_true, Bool.and_self, Bool.true_and, o2, xIx, xIn, e i (by omega), if_neg q', if_pos hx0, o1, ih, if_neg nx, msI, if_pos q]
    · have q' : nI (f i) = 0 := by rw [show f i = 0 by omega]; rfl
      have ih := m_rg hh hf e w m (i + 1) k' x y (by omega) (by omega) hx
      simp (disch := omega) only [fX12_range_33, fX12_range_76, if_neg c, kI_229, kO_187, g_t, b_d, b_c, b_v, Bool.and_true, Bool.and_self, Bool.true_and, o2, xIx, xIn, e i (by omega), if_pos q', o1, ih, fwI, msI, if_neg q]
end
theorem tl_le {n : Nat} (hn : n ≤ 5) (P : Nat → Bool) : cN P (8 ^ n) ≤ 32768 := Nat.le_trans (cN_le _ _) (p8 hn)
theorem zz_range : zH_range Rel := by
  intro k b S v1 v2 v hk h
  obtain ⟨n, hA, hN, hBx, hC, hT, hL⟩ := Rel_iff.mp h
  have hn := hA.1.1
  have n1 := hA.1.2.1
  have n2 := hA.1.2.2.1
  rcases h_cases n (by omega) v1 with ⟨i, hi, rfl⟩ | hv
  · have out : wB v2 0 1 = 0 → ∃ r S1 S2, fX11_range b (nI i) v2 v S = some (r, S1) ∧ fX12_range (nI i) v2 v S1 = some (r, S2) ∧ Rel (k + 6) b S2 := fun e =>
      ⟨-1, S, S, by simp (disch := omega) [fX11_range, kO_0, fX11_range_17, fX11_range_47, g_t, b_d, b_c, b_v, Bool.and_true, Bool.and_self, Bool.true_and, s_isHouseC n1, hB_in, s_isWithin, e], by simp (disch := omega) [fX12_range, fX12_range_17, g_t, b_d, b_c, b_v, Bool.and_true, Bool.and_self, Bool.true_and, s_isHouseM hn n2, hB_in, s_isIn, e], Rel_up h⟩
    rcases v_cases 0 1 (by omega) (by omega) v2 with c | c | ⟨w, _, hw, rfl⟩
    · exact out (wB_lo c)
    · exact out (wB_hi c)
    have e1 : wB (nI w) 0 1 = 1 := wB_in (lo := 0) (hi := 1) (by omega) (by omega) (by omega)
    obtain ⟨C, c1, cC, cT, _, cf, _, cm⟩ := t_both hn n1 hC v
    obtain ⟨L', l1, l2, l3⟩ := (cm C (by rw [cf _ _ (by omega)]; exact n2) (cf _ _ (by omega)) (fun a h1 h2 => funext fun j => cf a j (by omega))).1
    have hf := fun x => tl_le hn (truH n (tP n C) i x)
    have eC := fun x (hx : x < 8) => cT.2.2.2.1 i x hi hx
    have eL := fun x (hx : x < 8) => l2.2 i x hi hx
    have hm := m_rg (f := fun x => cN (truH n (tP n C) i x) (8 ^ n)) (h := i) (L := L') (by omega) hf eL (nI w) 8 0 mK (-1) (-1) (by omega) (by have := mK_gt; omega) (Or.inl rfl)
    have hm' : fX12_range_33 mK (nI i) (nI w) (-1) (-1) (0 : Int32) L' = _ := hm
    have n2C : C.1 187 37 = nI n := by rw [cf _ _ (by omega)]; exact n2
    have hf2 : fX12_range (nI i) (nI w) v C = some (if nI w = 0 then fwI (fun x => cN (truH n (tP n C) i x) (8 ^ n)) 8 0 else mdI (fun x => cN (truH n (tP n C) i x) (8 ^ n)) 8, L') := by
      unfold fX12_range
      rw [s_isHouseM hn n2C, b_c, hB_in hi hn, if_neg (by decide), s_isIn, b_c, e1, if_neg (by decide), l1, b_v, hm', if_pos rfl]
      have := ms_md (fun x => cN (truH n (tP n C) i x) (8 ^ n)) 8 0
      rw [show msI (fun x => cN (truH n (tP n C) i x) (8 ^ n)) 8 0 (-1) = mdI (fun x => cN (truH n (tP n C) i x) (8 ^ n)) 8 from this]
    have hf1 : fX11_range b (nI i) (nI w) v S = some (if nI w = 0 then fwI (fun x => cN (truH n (tP n C) i x) (8 ^ n)) 8 0 else mdI (fun x => cN (truH n (tP n C) i x) (8 ^ n)) 8, C) := by
      unfold fX11_range
      rw [s_isHouseC n1, b_c, hB_in hi hn, if_neg (by decide), s_isWithin, b_c, e1, if_neg (by decide), c1, b_v]
      have x1 : fX10_fewestIn (nI i) C = _ := c_few (f := fun x => cN (truH n (tP n C) i x) (8 ^ n)) (h := i) (C := C) (by omega) hf eC 8 0 mK (by omega) (by have := mK_gt; omega)
      have x2 : fX10_mostIn (nI i) C = _ := c_most (f := fun x => cN (truH n (tP n C) i x) (8 ^ n)) (h := i) (C := C) (by omega) hf eC 8 mK (by omega) (by have := mK_gt; omega)
      by_cases q : nI w = 0
      · rw [if_pos q, if_pos q, kO_0, x1]
        rfl
      · rw [if_neg q, if_neg q, kO_0, x2]
        rfl
    exact ⟨_, _, _, hf1, hf2, Rel_nr hA hN hBx hT hL (agr_trans (av_agr (L := cond b LX11_range_t LX11_range_f) (by cases b; exact rX11_range_f hf1; exact rX11_range_t hf1) (by cases b <;> decide +kernel)) (av_agr (rX12_range hf2) (by cases b <;> decide +kernel))) (rC_fr hn (av_agr (rX12_range hf2) (by decide +kernel)) cC)⟩
  · refine ⟨-1, S, S, ?_, ?_, Rel_up h⟩
    · simp [fX11_range, kO_0, fX11_range_17, fX11_range_47, g_t, b_d, b_c, b_v, Bool.and_true, Bool.and_self, Bool.true_and, s_isHouseC n1, hB_out hv]
    · simp [fX12_range, fX12_range_17, g_t, b_d, b_c, b_v, Bool.and_true, Bool.and_self, Bool.true_and, s_isHouseM hn n2, hB_out hv]
/-! the most of a house -/
def mxF (f : Nat → Nat) : Nat → Nat
  | 0 => 0
  | v + 1 => max (mxF f v) (f v)
theorem mxF_le {f : Nat → Nat} (hf : ∀ v, f v ≤ 32768) : ∀ v, mxF f v ≤ 32768
  | 0 => Nat.zero_le _
  | v + 1 => by
    have h1 := mxF_le hf v
    have h2 := hf v
    unfold mxF
    omega
section
variable {f : Nat → Nat} {h : Nat} {C L : mT}
theorem c_left (hh : h < 5) (hf : ∀ v, f v ≤ 32768) (e : ∀ v, v < 8 → C.1 (122 + h) v = nI (f v)) : ∀ (m i k : Nat), i + m = 8 → m < k → fX10_leftBySeeing_4 k (nI h) (nI (mxF f i)) (nI i) C = some (nI (mxF f 8), C)
  | 0, i, k, hi, hk => by
    obtain ⟨k', rfl⟩ := up1 hk
    have hi : i = 8 := by omega
    subst hi
    have c : (7 : Int32) < nI 8 := by decide
    simp only [fX10_leftBySeeing_4, if_pos c]
  | m + 1, i, k, hi, hk => by
    obtain ⟨k', rfl⟩ := up1 hk
    have c : ¬ (7 : Int32) < nI i := fun z => by have := (xLt (a := 7) (by omega) (by omega)).mp z; omega
    have o1 : nI i + (1 : Int32) = nI (i + 1) := nI_add i 1
    have hb := hf i
    have hb2 := mxF_le hf i
    have om : (if nI (mxF f i) < nI (f i) then nI (f i) else nI (mxF f i)) = nI (mxF f (i + 1)) := by
      show _ = nI (max (mxF f i) (f i))
      by_cases y : mxF f i < f i
      · rw [if_pos ((xLt (by omega) (by omega)).mpr y)]
        exact congrArg nI (by omega)
      · rw [if_neg (fun z => y ((xLt (by omega) (by omega)).mp z))]
        exact congrArg nI (by omega)
    have ih := c_left hh hf e m (i + 1) k' (by omega) (by omega)
    simp (disch := omega) only [fX10_leftBySeeing_4, if_neg c, kR_121, kO_120, g_t, b_d, b_c, b_v, Bool.and_true, Bool.and_self, Bool.true_and, xIx, xIn, rw_121, ki_121, e i (by omega), om, o1, ih]
theorem m_most (hh : h < 5) (hf : ∀ v, f v ≤ 32768) (e : ∀ v, v < 8 → L.1 229 (8 * h + v) = nI (f v)) : ∀ (m i k : Nat), i + m = 8 → m < k → fX12_mostOf_4 k (nI h) (nI (mxF f i)) (nI i) L = some (nI (mxF f 8), L)
  | 0, i, k, hi, hk => by
    obtain ⟨k', rfl⟩ := up1 hk
    have hi : i = 8 := by omega
    subst hi
    have c : (7 : Int32) < nI 8 := by decide
    simp only [fX12_mostOf_4, if_pos c]
  | m + 1, i, k, hi, hk => by
    obtain ⟨k', rfl⟩ := up1 hk
    have c : ¬ (7 : Int32) < nI i := fun z => by have := (xLt (a := 7) (by omega) (by omega)).mp z; omega
    have o1 : nI i + (1 : Int32) = nI (i + 1) := nI_add i 1
    have o2 : (8 : Int32) * nI h + nI i = nI (8 * h + i) := by rw [show (8 : Int32) = nI 8 from rfl, xM, nI_add]
    have hb := hf i
    have hb2 := mxF_le hf i
    have ih := m_most hh hf e m (i + 1) k' (by omega) (by omega)
    by_cases y : f i ≤ mxF f i
    · have y' : nI (f i) ≤ nI (mxF f i) := (xLe (by omega) (by omega)).mpr y
      have em : mxF f (i + 1) = mxF f i := by show max _ _ = _; omega
      rw [em] at ih
      simp (disch := omega) only [fX12_mostOf_4, fX12_mostOf_40, if_neg c, kI_229, kO_187, g_t, b_d, b_c, b_v, Bool.and_true, Bool.and_self, Bool.true_and, o2, xIx, xIn, e i (by omega), if_pos y', o1, ih]
    · have y' : ¬ nI (f i) ≤ nI (mxF f i) := fun z => y ((xLe (by omega) (by omega)).mp z)
      have em : mxF f (i + 1) = f i := by show max _ _ = _; omega
      rw [em] at ih
      simp (disch := omega) only [fX12_mostOf_4, fX12_mostOf_40, if_neg c, kI_229, kO_187, g_t, b_d, b_c, b_v, Bool.and_true, Bool.and_self, Bool.true_and, o2, xIx, xIn, e i (by omega), if_neg y', o1, ih]
end
def bsF (g : Nat → Nat) : Nat → Nat → Nat → Nat
  | 0, _, b => b
  | m + 1, h, b => bsF g m (h + 1) (if g h < g b then h else b)
theorem bsF_lt (g : Nat → Nat) {n : Nat} : ∀ m h b, h + m ≤ n → b < n → bsF g m h b < n
  | 0, _, _, _, hb => hb
  | m + 1, h, b, hm, hb => bsF_lt g m (h + 1) _ (by omega) (by split <;> omega)
section
variable {g : Nat → Nat} {n : Nat} {C L : mT}
theorem c_best (hn : n ≤ 5) (hg : ∀ x, g x ≤ 32768) (e9 : C.1 120 9 = nI n) (e : ∀ h, h < n → fX10_leftBySeeing (nI h) C = some (nI (g h), C)) : ∀ (m h b k : Nat), h + m = n → m < k → b < n → fX10_bestToSee_4 k (nI b) (nI h) C = some (nI (bsF g m h b), C)
  | 0, h, b, k, hh, hk, hb => by
    obtain ⟨k', rfl⟩ := up1 hk
    have hh : h = n := by omega
    subst hh
    have c : nI h ≤ nI h := Int32.le_refl _
    simp only [fX10_bestToSee_4, kO_120, g_t, b_d, b_c, b_v, Bool.and_true, Bool.and_self, Bool.true_and, e9, if_pos c, bsF]
  | m + 1, h, b, k, hh, hk, hb => by
    obtain ⟨k', rfl⟩ := up1 hk
    have c : ¬ nI n ≤ nI h := fun y => by have := (xLe (by omega) (by omega)).mp y; omega
    have o1 : nI h + (1 : Int32) = nI (h + 1) := nI_add h 1
    have h1 := hg h
    have h2 := hg b
    by_cases q : g h < g b
    · have q' : ¬ nI (g b) ≤ nI (g h) := fun z => by have := (xLe (by omega) (by omega)).mp z; omega
      have ih := c_best hn hg e9 e m (h + 1) h k' (by omega) (by omega) (by omega)
      simp only [fX10_bestToSee_4, fX10_bestToSee_27, kO_120, g_t, b_d, b_c, b_v, Bool.and_true, Bool.and_self, Bool.true_and, e9, if_neg c, e h (by omega), e b hb, if_neg q', o1, ih, bsF, if_pos q]
    · have q' : nI (g b) ≤ nI (g h) := (xLe (by omega) (by omega)).mpr (by omega)
      have ih := c_best hn hg e9 e m (h + 1) b k' (by omega) (by omega) hb
      simp only [fX10_bestToSee_4, fX10_bestToSee_27, kO_120, g_t, b_d, b_c, b_v, Bool.and_true, Bool.and_self, Bool.true_and, e9, if_neg c, e h (by omega), e b hb, if_pos q', o1, ih, bsF, if_neg q]
theorem m_best (hn : n ≤ 5) (hg : ∀ x, g x ≤ 32768) (e9 : L.1 187 37 = nI n) (e : ∀ h, h < n → fX12_mostOf (nI h) L = some (nI (g h), L)) (w : Int32) : ∀ (m h b k : Nat), h + m = n → m < k → b < n → fX12_knock_37 k w (nI b) (nI h) L = some (if w = 0 then nI (bsF g m h b) else nI (g (bsF g m h b)), L)
  | 0, h, b, k, hh, hk, hb => by
    obtain ⟨k', rfl⟩ := up1 hk
    have hh : h = n := by omega
    subst hh
    have c : nI h ≤ nI h := Int32.le_refl _
    by_cases q : w = 0
    · simp only [fX12_knock_37, fX12_knock_86, kO_187, g_t, b_d, b_c, b_v, Bool.and_true, Bool.and_self, Bool.true_and, e9, if_pos c, bsF, if_pos q]
    · simp only [fX12_knock_37, fX12_knock_86, kO_187, g_t, b_d, b_c, b_v, Bool.and_true, Bool.and_self, Bool.true_and, e9, if_pos c, bsF, if_neg q, e b hb]
  | m + 1, h, b, k, hh, hk, hb => by
    obtain ⟨k', rfl⟩ := up1 hk
    have c : ¬ nI n ≤ nI h := fun y => by have := (xLe (by omega) (by omega)).mp y; omega
    have o1 : nI h + (1 : Int32) = nI (h + 1) := nI_add h 1
    have h1 := hg h
    have h2 := hg b
    by_cases q : g h < g b
    · have q' : ¬ nI (g b) ≤ nI (g h) := fun z => by have := (xLe (by omega) (by omega)).mp z; omega
      have ih := m_best hn hg e9 e w m (h + 1) h k' (by omega) (by omega) (by omega)
      simp only [fX12_knock_37, fX12_knock_66, kO_187, g_t, b_d, b_c, b_v, Bool.and_true, Bool.and_self, Bool.true_and, e9, if_neg c, e h (by omega), e b hb, if_neg q', o1, ih, bsF, if_pos q]
    · have q' : nI (g b) ≤ nI (g h) := (xLe (by omega) (by omega)).mpr (by omega)
      have ih := m_best hn hg e9 e w m (h + 1) b k' (by omega) (by omega) hb
      simp only [fX12_knock_37, fX12_knock_66, kO_187, g_t, b_d, b_c, b_v, Bool.and_true, Bool.and_self, Bool.true_and, e9, if_neg c, e h (by omega), e b hb, if_pos q', o1, ih, bsF, if_neg q]
end
theorem zz_knock : zH_knock Rel := by
  intro k b S v2 v hk h
  obtain ⟨n, hA, hN, hBx, hC, hT, hL⟩ := Rel_iff.mp h
  have hn := hA.1.1
  have n1 := hA.1.2.1
  have n2 := hA.1.2.2.1
  have out : wB v2 0 1 = 0 → ∃ r S1 S2, fX11_knock b v2 v S = some (r, S1) ∧ fX12_knock v2 v S1 = some (r, S2) ∧ Rel (k + 6) b S2 := fun e =>
    ⟨-1, S, S, by simp [fX11_knock, kO_0, kO_120, kO_u, fX11_knock_19, fX11_knock_62, g_t, b_d, b_c, b_v, Bool.and_true, Bool.and_self, Bool.true_and, s_isWithin, e], by simp [fX12_knock, kO_187, fX12_knock_16, g_t, b_d, b_c, b_v, Bool.and_true, Bool.and_self, Bool.true_and, s_isIn, e], Rel_up h⟩
  rcases v_cases 0 1 (by omega) (by omega) v2 with c | c | ⟨w, _, hw, rfl⟩
  · exact out (wB_lo c)
  · exact out (wB_hi c)
  have e1 : wB (nI w) 0 1 = 1 := wB_in (lo := 0) (hi := 1) (by omega) (by omega) (by omega)
  by_cases z0 : n = 0
  · have s1 : S.1 (shU b) 9 = 0 := by rw [n1, z0]; rfl
    have s2 : S.1 187 37 = 0 := by rw [n2, z0]; rfl
    refine ⟨-1, S, S, ?_, ?_, Rel_up h⟩
    · unfold fX11_knock
      rw [s_isWithin, b_c, e1, if_neg (by decide), kO_u, kO_0, if_pos s1]
      rfl
    · unfold fX12_knock
      rw [s_isIn, b_c, e1, if_neg (by decide), kO_187, if_pos s2]
      rfl
  have s1 : ¬ S.1 (shU b) 9 = 0 := by
    rw [n1]
    exact fun q => z0 ((xEq (b := 0) (by omega) (by omega)).mp q)
  obtain ⟨C, c1, cC, cT, _, cf, _, cm⟩ := t_both hn n1 hC v
  obtain ⟨L', l1, l2, l3⟩ := (cm C (by rw [cf _ _ (by omega)]; exact n2) (cf _ _ (by omega)) (fun a h1 h2 => funext fun j => cf a j (by omega))).1
  have n2C : C.1 187 37 = nI n := by rw [cf _ _ (by omega)]; exact n2
  have s2 : ¬ C.1 187 37 = 0 := by
    rw [n2C]
    exact fun q => z0 ((xEq (b := 0) (by omega) (by omega)).mp q)
  have e8 := cT.2.2.1
  have hle := tl_le hn (tP n C)
  have sh : shU b = 3 ∨ shU b = 19 := by cases b; exact Or.inl rfl; exact Or.inr rfl
  have key : ∃ r, fX11_knock b (nI w) v S = some (r, C) ∧ fX12_knock (nI w) v C = some (r, L') := by
    by_cases t0 : cN (tP n C) (8 ^ n) = 0
    · have t1 : C.1 120 8 = 0 := by rw [e8, t0]; rfl
      have t2 : L'.1 187 69 = 0 := by rw [l2.1, t0]; rfl
      refine ⟨-1, ?_, ?_⟩
      · unfold fX11_knock
        rw [s_isWithin, b_c, e1, if_neg (by decide), kO_u, kO_0, if_neg s1, c1, b_v, kO_120, if_pos t1]
        rfl
      · unfold fX12_knock
        rw [s_isIn, b_c, e1, if_neg (by decide), kO_187, if_neg s2, l1, b_v, if_pos t2]
        rfl
    · have t1 : ¬ C.1 120 8 = 0 := by
        rw [e8]
        exact fun q => t0 ((xEq (b := 0) (by omega) (by omega)).mp q)
      have t2 : ¬ L'.1 187 69 = 0 := by
        rw [l2.1]
        exact fun q => t0 ((xEq (b := 0) (by omega) (by omega)).mp q)
      have hfl : ∀ x, mxF (fun y => cN (truH n (tP n C) x y) (8 ^ n)) 8 ≤ 32768 := fun x => mxF_le (fun y => tl_le hn _) 8
      have xc : ∀ x, x < n → fX10_leftBySeeing (nI x) C = some (nI (mxF (fun y => cN (truH n (tP n C) x y) (8 ^ n)) 8), C) := fun x hx => c_left (f := fun y => cN (truH n (tP n C) x y) (8 ^ n)) (by omega) (fun y => tl_le hn _) (fun y hy => cT.2.2.2.1 x y hx hy) 8 0 mK (by omega) (by have := mK_gt; omega)
      have xm : ∀ x, x < n → fX12_mostOf (nI x) L' = some (nI (mxF (fun y => cN (truH n (tP n C) x y) (8 ^ n)) 8), L') := fun x hx => m_most (f := fun y => cN (truH n (tP n C) x y) (8 ^ n)) (by omega) (fun y => tl_le hn _) (fun y hy => l2.2 x y hx hy) 8 0 mK (by omega) (by have := mK_gt; omega)
      have n2L : L'.1 187 37 = nI n := by rw [l3 _ _ (by omega) (by omega)]; exact n2C
      have yc := c_best (g := fun x => mxF (fun y => cN (truH n (tP n C) x y) (8 ^ n)) 8) hn hfl cT.2.1 xc (n - 1) 1 0 mK (by omega) (by have := mK_gt; omega) (by omega)
      have ym := m_best (g := fun x => mxF (fun y => cN (truH n (tP n C) x y) (8 ^ n)) 8) hn hfl n2L xm (nI w) (n - 1) 1 0 mK (by omega) (by have := mK_gt; omega) (by omega)
      have hbs := bsF_lt (fun x => mxF (fun y => cN (truH n (tP n C) x y) (8 ^ n)) 8) (n := n) (n - 1) 1 0 (by omega) (by omega)
      have yc' : fX10_bestToSee C = _ := yc
      have ym' : fX12_knock_37 mK (nI w) (0 : Int32) (1 : Int32) L' = _ := ym
      refine ⟨if nI w = 0 then nI (bsF (fun x => mxF (fun y => cN (truH n (tP n C) x y) (8 ^ n)) 8) (n - 1) 1 0) else nI (mxF (fun y => cN (truH n (tP n C) (bsF (fun x => mxF (fun y => cN (truH n (tP n C) x y) (8 ^ n)) 8) (n - 1) 1 0) y) (8 ^ n)) 8), ?_, ?_⟩
      rotate_left
      · unfold fX12_knock
        rw [s_isIn, b_c, e1, if_neg (by decide), kO_187, if_neg s2, l1, b_v, if_neg t2, ym']
        rfl
      · unfold fX11_knock
        rw [s_isWithin, b_c, e1, if_neg (by decide), kO_u, kO_0, if_neg s1, c1, b_v, kO_120, if_neg t1, yc', b_c]
        by_cases q : nI w = 0
        · rw [if_pos q, if_pos q]
          rfl
        · rw [if_neg q, if_neg q, xc _ hbs]
          rfl
  obtain ⟨r, hf1, hf2⟩ := key
  exact ⟨_, _, _, hf1, hf2, Rel_nr hA hN hBx hT hL (agr_trans (av_agr (L := cond b LX11_knock_t LX11_knock_f) (by cases b; exact rX11_knock_f hf1; exact rX11_knock_t hf1) (by cases b <;> decide +kernel)) (av_agr (rX12_knock hf2) (by cases b <;> decide +kernel))) (rC_fr hn (av_agr (rX12_knock hf2) (by decide +kernel)) cC)⟩
/-! the greatest that divides both -/
theorem gcd_st (a b : Nat) : Nat.gcd a b = Nat.gcd b (a % b) := by rw [Nat.gcd_comm a b, Nat.gcd_rec, Nat.gcd_comm]
theorem m_com {L : mT} : ∀ (b a k : Nat), b < k → a ≤ 40000 → b ≤ 40000 → fX12_common_4 k (nI a) (nI b) L = some (nI (Nat.gcd a b), L) := by
  intro b
  induction b using Nat.strongRecOn with
  | _ b ih =>
    intro a k hk ha hb
    obtain ⟨k', rfl⟩ := up1 hk
    by_cases q : b = 0
    · subst q
      have c : nI 0 ≤ 0 := by decide
      simp only [fX12_common_4, if_pos c, Nat.gcd_zero_right]
    · have c : ¬ nI b ≤ 0 := fun z => by have := (xLe (b := 0) (by omega) (by omega)).mp z; omega
      have c0 : ¬ nI b = 0 := fun z => by have := (xEq (b := 0) (by omega) (by omega)).mp z; omega
      have hm : a % b < b := Nat.mod_lt _ (by omega)
      have d : decide (¬ nI b = 0) = true := decide_eq_true c0
      have i1 := ih (a % b) hm b k' (by omega) (by omega) (by omega)
      rw [gcd_st a b, ← i1]
      simp only [fX12_common_4, if_neg c, d, g_t, b_d, b_c, b_v, Bool.and_true, Bool.and_self, Bool.true_and, xMd (a := a) (b := b) (by omega) (by omega)]
theorem md2 {a b : Nat} (h : 0 < a) (hab : a < b) : 2 * (b % a) < b := by
  have h1 := Nat.mod_lt b h
  have h2 := Nat.div_add_mod b a
  have h3 : 1 ≤ b / a := (Nat.le_div_iff_mul_le h).mpr (by omega)
  have h4 : a * 1 ≤ a * (b / a) := Nat.mul_le_mul_left a h3
  omega
theorem c_com {C : mT} : ∀ (j a b i k : Nat), b < 2 ^ j → i + 2 * j ≤ 64 → 2 * j < k → a ≤ 40000 → b ≤ 40000 → fX11_commonDivisor_7 k (nI a) (nI b) (nI i) C = some (nI (Nat.gcd a b), C)
  | 0, a, b, i, k, hb, hi, hk, ha, hb2 => by
    obtain ⟨k', rfl⟩ := up1 hk
    have hb0 : b = 0 := by rw [Nat.pow_zero] at hb; omega
    subst hb0
    have c : nI 0 = (0 : Int32) := rfl
    by_cases q : 64 ≤ i
    · have q' : (64 : Int32) ≤ nI i := (xLe (a := 64) (by omega) (by omega)).mpr q
      simp only [fX11_commonDivisor_7, fX11_commonDivisor_34, if_pos q', Nat.gcd_zero_right]
    · have q' : ¬ (64 : Int32) ≤ nI i := fun z => q ((xLe (a := 64) (by omega) (by omega)).mp z)
      simp only [fX11_commonDivisor_7, fX11_commonDivisor_34, if_neg q', if_pos c, Nat.gcd_zero_right]
  | j + 1, a, b, i, k, hb, hi, hk, ha, hb2 => by
    obtain ⟨k', rfl⟩ := up1 hk
    have q' : ¬ (64 : Int32) ≤ nI i := fun z => by have := (xLe (a := 64) (by omega) (by omega)).mp z; omega
    have o1 : nI i + (1 : Int32) = nI (i + 1) := nI_add i 1
    by_cases q : b = 0
    · subst q
      have c : nI 0 = (0 : Int32) := rfl
      simp only [fX11_commonDivisor_7, fX11_commonDivisor_34, if_neg q', if_pos c, Nat.gcd_zero_right]
    · have c0 : ¬ nI b = 0 := fun z => by have := (xEq (b := 0) (by omega) (by omega)).mp z; omega
      have hm : a % b < b := Nat.mod_lt _ (by omega)
      have d : decide (¬ nI b = 0) = true := decide_eq_true c0
      have st : fX11_commonDivisor_7 (k' + 1) (nI a) (nI b) (nI i) C = fX11_commonDivisor_7 k' (nI b) (nI (a % b)) (nI (i + 1)) C := by
        simp only [fX11_commonDivisor_7, if_neg q', if_neg c0, d, g_t, b_d, b_c, b_v, Bool.and_true, Bool.and_self, Bool.true_and, xMd (a := a) (b := b) (by omega) (by omega), o1]
      rw [gcd_st a b, st]
      obtain ⟨k'', rfl⟩ : ∃ k'', k' = k'' + 1 := ⟨k' - 1, by omega⟩
      have q2 : ¬ (64 : Int32) ≤ nI (i + 1) := fun z => by have := (xLe (a := 64) (by omega) (by omega)).mp z; omega
      have o2 : nI (i + 1) + (1 : Int32) = nI (i + 2) := nI_add (i + 1) 1
      generalize hr : a % b = r at *
      by_cases z : r = 0
      · subst z
        have c : nI 0 = (0 : Int32) := rfl
        simp only [fX11_commonDivisor_7, fX11_commonDivisor_34, if_neg q2, if_pos c, Nat.gcd_zero_right]
      · have c1 : ¬ nI r = 0 := fun z' => by have := (xEq (b := 0) (by omega) (by omega)).mp z'; omega
        have d1 : decide (¬ nI r = 0) = true := decide_eq_true c1
        have h2 := md2 (a := r) (b := b) (by omega) hm
        rw [Nat.pow_succ] at hb
        have ih := c_com (C := C) j r (b % r) (i + 2) k'' (by omega) (by omega) (by omega) (by omega) (by omega)
        rw [gcd_st b r, ← ih]
        simp only [fX11_commonDivisor_7, if_neg q2, if_neg c1, d1, g_t, b_d, b_c, b_v, Bool.and_true, Bool.and_self, Bool.true_and, xMd (a := b) (b := r) (by omega) (by omega), o2]
theorem cN_sub {P Q : Nat → Bool} (h : ∀ w, P w = true → Q w = true) : ∀ w, cN P w ≤ cN Q w
  | 0 => Nat.le_refl _
  | w + 1 => by
    have ih := cN_sub h w
    unfold cN
    by_cases q : P w = true
    · rw [if_pos q, if_pos (h w q)]
      omega
    · rw [if_neg q]
      split
      · omega
      · exact ih
theorem zz_odds : zH_odds Rel := by
  intro k b S v1 v2 v3 v hk h
  obtain ⟨n, hA, hN, hBx, hC, hT, hL⟩ := Rel_iff.mp h
  have hn := hA.1.1
  have n1 := hA.1.2.1
  have n2 := hA.1.2.2.1
  rcases h_cases n (by omega) v1 with ⟨i, hi, rfl⟩ | hv
  · have out2 : wB v2 0 7 = 0 → ∃ r S1 S2, fX11_odds b (nI i) v2 v3 v S = some (r, S1) ∧ fX12_odds (nI i) v2 v3 v S1 = some (r, S2) ∧ Rel (k + 6) b S2 := fun e =>
      ⟨-1, S, S, by simp (disch := omega) [fX11_odds, kO_120, kO_0, kR_121, fX11_odds_27, fX11_odds_90, g_t, b_d, b_c, b_v, Bool.and_true, Bool.and_self, Bool.true_and, s_isHouseC n1, hB_in, s_isWithin, e], by simp (disch := omega) [fX12_odds, kO_187, kI_229, fX12_odds_27, fX12_odds_87, g_t, b_d, b_c, b_v, Bool.and_true, Bool.and_self, Bool.true_and, s_isHouseM hn n2, hB_in, s_isIn, e], Rel_up h⟩
    rcases v_cases 0 7 (by omega) (by omega) v2 with c | c | ⟨y, _, hy, rfl⟩
    · exact out2 (wB_lo c)
    · exact out2 (wB_hi c)
    have e0 : wB (nI y) 0 7 = 1 := wB_in (lo := 0) (hi := 7) (by omega) (by omega) (by omega)
    have out : wB v3 0 1 = 0 → ∃ r S1 S2, fX11_odds b (nI i) (nI y) v3 v S = some (r, S1) ∧ fX12_odds (nI i) (nI y) v3 v S1 = some (r, S2) ∧ Rel (k + 6) b S2 := fun e =>
      ⟨-1, S, S, by simp (disch := omega) [fX11_odds, kO_120, kO_0, kR_121, fX11_odds_27, fX11_odds_90, g_t, b_d, b_c, b_v, Bool.and_true, Bool.and_self, Bool.true_and, s_isHouseC n1, hB_in, s_isWithin, e, e0], by simp (disch := omega) [fX12_odds, kO_187, kI_229, fX12_odds_27, fX12_odds_87, g_t, b_d, b_c, b_v, Bool.and_true, Bool.and_self, Bool.true_and, s_isHouseM hn n2, hB_in, s_isIn, e, e0], Rel_up h⟩
    rcases v_cases 0 1 (by omega) (by omega) v3 with c | c | ⟨w, _, hw, rfl⟩
    · exact out (wB_lo c)
    · exact out (wB_hi c)
    have e1 : wB (nI w) 0 1 = 1 := wB_in (lo := 0) (hi := 1) (by omega) (by omega) (by omega)
    obtain ⟨C, c1, cC, cT, _, cf, _, cm⟩ := t_both hn n1 hC v
    obtain ⟨L', l1, l2, l3⟩ := (cm C (by rw [cf _ _ (by omega)]; exact n2) (cf _ _ (by omega)) (fun a h1 h2 => funext fun j => cf a j (by omega))).1
    have n2C : C.1 187 37 = nI n := by rw [cf _ _ (by omega)]; exact n2
    have e8 := cT.2.2.1
    have eC := cT.2.2.2.1 i y hi (by omega)
    have eL := l2.2 i y hi (by omega)
    have eL8 := l2.1
    have hle := tl_le hn (tP n C)
    have hle2 := tl_le hn (truH n (tP n C) i y)
    have hsub : cN (truH n (tP n C) i y) (8 ^ n) ≤ cN (tP n C) (8 ^ n) := cN_sub (fun x hx => by unfold truH at hx; rw [Bool.and_eq_true] at hx; exact hx.1) _
    generalize cN (truH n (tP n C) i y) (8 ^ n) = U at *
    generalize cN (tP n C) (8 ^ n) = T at *
    have o2 : (8 : Int32) * nI i + nI y = nI (8 * i + y) := by rw [show (8 : Int32) = nI 8 from rfl, xM, nI_add]
    have xc : fX11_commonDivisor (nI T) (nI U) C = _ := c_com (C := C) 16 T U 0 mK (by omega) (by omega) (by have := mK_gt; omega) (by omega) (by omega)
    have xm : fX12_common (nI T) (nI U) L' = _ := m_com (L := L') U T mK (by have := mK_gt; omega) (by omega) (by omega)
    have hg : Nat.gcd T U ≤ 40000 := by
      rcases Nat.eq_zero_or_pos T with z | z
      · rw [z, Nat.gcd_zero_left]
        omega
      · have := Nat.gcd_le_left U z
        omega
    have key : ∃ r, fX11_odds b (nI i) (nI y) (nI w) v S = some (r, C) ∧ fX12_odds (nI i) (nI y) (nI w) v C = some (r, L') := by
      have hs1 : fX11_odds b (nI i) (nI y) (nI w) v S = (if nI (Nat.gcd T U) = 0 then some ((-1 : Int32), C) else if nI w = 0 then fX11_odds_90 b (nI (Nat.gcd T U)) (nI U) C else fX11_odds_90 b (nI (Nat.gcd T U)) (nI T) C) := by
        unfold fX11_odds
        rw [s_isHouseC n1, b_c, hB_in hi hn, if_neg (by decide), s_isWithin, b_c, e0, if_neg (by decide), s_isWithin, b_c, e1, if_neg (by decide), c1, b_v]
        simp (disch := omega) only [kR_121, kO_120, kO_0, g_t, b_d, b_c, b_v, Bool.and_true, Bool.and_self, Bool.true_and, xIx, xIn, rw_121, ki_121, eC, e8, xc]
      have hs2 : fX12_odds (nI i) (nI y) (nI w) v C = (if nI T = 0 then some ((-1 : Int32), L') else bndC (fX12_common (nI T) (nI U) L') fun x10 S9 => if nI w = 0 then grd (decide (¬ x10 = 0) && true) <| fX12_odds_87 (nI U / x10) S9 else grd (decide (¬ x10 = 0) && (kO 187 12 && true)) <| fX12_odds_87 ((S9.1 187 69) / x10) S9) := by
        unfold fX12_odds
        rw [s_isHouseM hn n2C, b_c, hB_in hi hn, if_neg (by decide), s_isIn, b_c, e0, if_neg (by decide), s_isIn, b_c, e1, if_neg (by decide), l1, b_v, kO_187, eL8]
        simp (disch := omega) only [kI_229, g_t, b_d, b_c, b_v, Bool.and_true, Bool.and_self, Bool.true_and, o2, xIx, xIn, eL]
      rw [hs1, hs2]
      by_cases t0 : T = 0
      · have u0 : U = 0 := by omega
        refine ⟨-1, ?_, ?_⟩
        · rw [t0, u0, if_pos (by decide)]
        · rw [t0, if_pos (by decide)]
      · have g0 : 0 < Nat.gcd T U := Nat.gcd_pos_of_pos_left U (by omega)
        have c0 : ¬ nI (Nat.gcd T U) = 0 := fun z => by have := (xEq (b := 0) (by omega) (by omega)).mp z; omega
        have c2 : ¬ nI T = 0 := fun z => t0 ((xEq (b := 0) (by omega) (by omega)).mp z)
        have d1 : decide (¬ nI (Nat.gcd T U) = 0) = true := decide_eq_true c0
        rw [if_neg c0, if_neg c2, xm, b_c, d1, kO_187]
        by_cases q : nI w = 0
        · refine ⟨nI U / nI (Nat.gcd T U), ?_, ?_⟩
          · rw [if_pos q]
            unfold fX11_odds_90
            rw [d1]
            rfl
          · rw [if_pos q]
            rfl
        · refine ⟨nI T / nI (Nat.gcd T U), ?_, ?_⟩
          · rw [if_neg q]
            unfold fX11_odds_90
            rw [d1]
            rfl
          · rw [if_neg q, eL8]
            rfl
    obtain ⟨r, hf1, hf2⟩ := key
    exact ⟨_, _, _, hf1, hf2, Rel_nr hA hN hBx hT hL (agr_trans (av_agr (L := cond b LX11_odds_t LX11_odds_f) (by cases b; exact rX11_odds_f hf1; exact rX11_odds_t hf1) (by cases b <;> decide +kernel)) (av_agr (rX12_odds hf2) (by cases b <;> decide +kernel))) (rC_fr hn (av_agr (rX12_odds hf2) (by decide +kernel)) cC)⟩
  · refine ⟨-1, S, S, ?_, ?_, Rel_up h⟩
    · simp [fX11_odds, kO_120, kO_0, kR_121, fX11_odds_27, fX11_odds_90, g_t, b_d, b_c, b_v, Bool.and_true, Bool.and_self, Bool.true_and, s_isHouseC n1, hB_out hv]
    · simp [fX12_odds, kO_187, kI_229, fX12_odds_27, fX12_odds_87, g_t, b_d, b_c, b_v, Bool.and_true, Bool.and_self, Bool.true_and, s_isHouseM hn n2, hB_out hv]
