/-! PROVINCE: a unit. -/
def xU : Nat → (Nat → Nat) → Nat → Prop := fun _ _ _ => True
def xTm (T : Nat → Nat) (t : Nat) : Nat → (Nat → Nat) → Nat → Prop := fun p sg op => xU p sg op ∧ oTm T t p = none
def xSm (T : Nat → Nat) (t : Nat) : Nat → (Nat → Nat) → Nat → Prop := fun p sg op => xTm T t p sg op ∧ oSm T t p = none
def xOn (T : Nat → Nat) (t : Nat) : Nat → (Nat → Nat) → Nat → Prop := fun p sg op => xSm T t p sg op ∧ ((srN T t p = 60 ∨ srN T t p = 61 ∨ srN T t p = 62) → hrN sg op)
def xBo (T : Nat → Nat) (t : Nat) : Nat → (Nat → Nat) → Nat → Prop := fun p sg op => xOn T t p sg op ∧ oBo T t p = none
def xEi (T : Nat → Nat) (t : Nat) : Nat → (Nat → Nat) → Nat → Prop := fun p sg op => xBo T t p sg op ∧ oEi T t p = none
section
variable {T : Nat → Nat} {t f a1 U0 : Nat}
theorem x_stop {p op : Nat} {sg : Nat → Nat} (h : xEi T t p sg op) : stpN T t p sg op := by
  obtain ⟨⟨⟨⟨⟨_, h1⟩, h2⟩, h3⟩, h4⟩, h5⟩ := h
  unfold oTm at h1
  unfold oSm at h2
  unfold oBo at h4
  unfold oEi at h5
  unfold stpN sgO
  by_cases c1 : wkN T t p = cwN 10
  · rw [if_pos c1] at h4
    cases h4
  by_cases c2 : wkN T t p = cwN 9
  · rw [if_pos c2] at h5
    cases h5
  by_cases c3 : srN T t p = 42 ∨ srN T t p = 47 ∨ srN T t p = 37
  · rw [if_pos c3] at h1
    cases h1
  by_cases c4 : srN T t p = 43 ∨ srN T t p = 45
  · rw [if_pos c4] at h2
    cases h2
  rw [if_neg c1, if_neg c2]
  by_cases c5 : srN T t p = 60 ∨ srN T t p = 61 ∨ srN T t p = 62
  · rw [if_pos (by omega)]
    refine Or.inr ⟨?_, by omega, h3 c5⟩
    unfold tghN
    rw [if_neg (by omega), if_neg (by omega), if_neg (by omega), if_pos c5]
  · rw [if_neg (by omega)]
    exact Or.inl rfl
theorem u_end {p0 p nm un m e x un0 j : Nat} {sg0 sg pc : Nat → Nat} {C L : mT} (ho : cO T t p C) (hm : mTo T t p L) (hR : RS f U0 un nm m e sg L) (hO : mOK f nm pc L) (hc : cOK a1 nm un pc C) (h60 : m ≤ 60) (hu0 : un0 < un) (hu : un ≤ 30) (hn : nm + m ≤ 9 * un) (hs : ∀ i, i < m → sg i = sg0 i) (hw : wfP pc nm) (hd : dqP pc nm = x + 1) (hx : x + 1 ≤ un) (hp0 : p0 < p) (hp : p ≤ t) (hj : j + p0 ≤ p) : PL T t f a1 U0 7 xU m e x un0 p0 sg0 j C L ∨ PB T t f U0 m e sg0 C L ∨ PQ C L := by
  have z : e + ntN sg m (m - m) = e := by rw [Nat.sub_self]; rfl
  have y : nm + (m - m) = nm := by omega
  rcases ho with ho | ⟨ho, hd4⟩
  · refine Or.inl ⟨p, nm, m, un, sg, pc, hp0, hp, hj, ho, hm, by rw [z]; exact hR, hO, by rw [y]; exact hc, Nat.le_refl _, h60, hu0, hu, hn, hs, fun i h1 h2 => by omega, fun j hj => by omega, by rw [y]; exact hw, by rw [y]; exact hd, hx, trivial⟩
  · exact Or.inr (Or.inl ⟨p, nm, m, un, sg, pc, hp, ho, hd4, hm, by rw [z]; exact hR, hO, Nat.le_refl _, h60, hu, by omega, hs, fun i h1 h2 => by omega⟩)
theorem u_dead {lv m e x un p ku w pl : Nat} {sg : Nat → Nat} {X : Nat → (Nat → Nat) → Nat → Prop} {C L C' L' : mT} {run : Option mT} (hp : p ≤ t) (h1 : run = some C') (h2 : fX12_unit_2 ku (1 : Int32) L = some L') (h3 : cD w pl C') (h4 : mD w pl L') (h5 : fK a1 C C') (h6 : fZ f L L') (h7 : cS a1 C') : POST T t f a1 U0 lv X m e x un p sg ku C L run :=
  ⟨0, C', L', h1, by omega, fun k _ => by rw [h2, b_v]; rfl, h5, h6, h7, Or.inr (Or.inr ⟨w, pl, h3, h4⟩)⟩
theorem L_unit (ht : t ≤ 1600) (hT : ∀ k, k < t → T k < 256) (hf : f < 3) (ha : kLw a1) (hU : U0 ≤ 60) {d e m x un p ku nm : Nat} {sg pc : Nat → Nat} {C L : mT} (hd : 6 * (7 - e) ≤ d)
    (IH : e ≤ 6 → ∀ p C L ku nm un x sg pc m, PRE T t f a1 U0 0 1 p C L nm un m (e + 1) x sg pc → t + 3 ≤ ku + p → POST T t f a1 U0 1 (xEi T t) m (e + 1) x un p sg ku C L (fP d 0 a1 (nI (e + 1)) C))
    (pre : PRE T t f a1 U0 5 7 p C L nm un m e x sg pc) (nn : wkN T t p = cwN 11 → ¬ mayN sg m) (hk : t + 3 ≤ ku + p) : POST T t f a1 U0 7 xU m e x un p sg ku C L (fP (d + 1) 5 a1 (nI e) C) := by
  obtain ⟨q1, q2, q3, q4, q5, q6, q7, q8, q9, q10, q11, q12, q13, q14, q15, q16, q17⟩ := pre
  obtain ⟨k, rfl⟩ : ∃ k, ku = k + 2 := ⟨ku - 2, by omega⟩
  have e53 : fX12_unit_2 (k + 2) (1 : Int32) L = fX12_unit_53 (fX12_unit_2 (k + 1)) (1 : Int32) L := m_u53 hT q1 q5 q6 (by omega) q14 nn
  obtain ⟨k1, k2, k3, k4⟩ := id ha
  have cs0 : cS a1 C := ⟨nm, un, by omega, q9, q8.1, q8.2.1⟩
  obtain ⟨s1, s2, s3, s4, s5, s6, s7, s8⟩ := sr_lt hT p
  have n40 : srN T t p ≠ 40 → fX12_unit_53 (fX12_unit_2 (k + 1)) (1 : Int32) L = fX12_unit_2 (k + 1) (0 : Int32) L := fun z => by
    have z' : ¬ nI (srN T t p) = (40 : Int32) := fun y => z ((xEq (b := 40) (by omega) (by omega)).mp y)
    simp only [fX12_unit_53, kO_187, g_t, b_d, b_c, b_v, Bool.and_true, Bool.and_self, Bool.true_and, q5.2.1, if_neg z']
  have hx := tx_le (T := T) q1
  have htb := (tb_le (T := T) q1).1
  have t1 : ¬ (1 : Int32) = 0 := by decide
  show POST T t f a1 U0 7 xU m e x un p sg (k + 2) C L (fX4_readUnit_0 a1 (fP d) (nI e) C)
  rcases q4 with hc | ⟨h4, hc⟩
  · have k4' := hc.2.1
    by_cases u30 : un = 30
    · have c' : ¬ nI un < (30 : Int32) := fun z => by have := (xLt (b := 30) (by omega) (by omega)).mp z; omega
      obtain ⟨C1, r1, r2, r3⟩ := c_ref0 hc.1 hc.2.2.2.1 (f := 2) (by omega) (by omega)
      have r1' : fX4_refuse (2 : Int32) C = some C1 := r1
      have run : fX4_readUnit_0 a1 (fP d) (nI e) C = some C1 := by
        simp only [fX4_readUnit_0, k1, g_t, b_d, b_c, b_v, Bool.and_true, Bool.and_self, Bool.true_and, q8.2.1, if_neg c', r1']
      by_cases c40 : srN T t p = 40
      · obtain ⟨L', w1, w2, w3⟩ := m_u40W hT q5 q6 q9 hU (by omega) q11 c40 (Or.inl u30) k
        exact u_dead q1 run (e53.trans w1) r2 w2 r3.k w3 (r3.cs ha cs0)
      · obtain ⟨L', w1, w2, w3⟩ := m_uwr hT q5 q6 q9 hU (Or.inl u30) k
        rw [if_neg k4'] at w2
        exact u_dead q1 run ((e53.trans (n40 c40)).trans w1) r2 w2 r3.k w3 (r3.cs ha cs0)
    have hu : un < 30 := by omega
    have c' : nI un < (30 : Int32) := (xLt (b := 30) (by omega) (by omega)).mpr hu
    have o1 : nI un + (1 : Int32) = nI (un + 1) := nI_add un 1
    obtain ⟨C1, hC1⟩ : ∃ C1, sI C a1 3 (nI (un + 1)) = C1 := ⟨_, rfl⟩
    have hc1 : cT T t p C1 := by rw [← hC1]; exact (cT_k ha hc).1
    have fk1 : fK a1 C C1 := by
      rw [← hC1]
      exact ⟨fun a j g1 g2 g3 => by rw [sI_ne (by omega)], fun a j _ => by rw [sI_2], by rw [sI_ne (by omega)]⟩
    have tp1 := fk1.tp ha q2
    have ok1 : cOK a1 nm (un + 1) pc C1 := by
      rw [← hC1]
      exact ⟨by rw [sI_ne (by omega)]; exact q8.1, by rw [sI_eq], fun i hi => by rw [sI_ne (by omega)]; exact q8.2.2 i hi⟩
    have cs1 : cS a1 C1 := ⟨nm, un + 1, by omega, by omega, ok1.1, ok1.2.1⟩
    have vn := c_vn ht hT q1 tp1 hc1
    have atom : ∀ v, v < 20000 → ((tkN T t p = 2 ∧ v = nvN T (tbN T t p) (txN T t p - tbN T t p) ∧ v < 10000) ∨ ∃ y, askN (wkN T t p) = some y ∧ v = 10000 + y) → srN T t p ≠ 40 → tkN T t p ≠ 0 → (∀ C2 C3, fX0_add a1 (nI v) C1 = some C2 → fX4_advance C2 = some C3 → fX4_readUnit_0 a1 (fP d) (nI e) C = some C3) → POST T t f a1 U0 7 xU m e x un p sg (k + 2) C L (fX4_readUnit_0 a1 (fP d) (nI e) C) := fun v hv hh c40 h0 hrun => by
      obtain ⟨L', w1, w2, w3, w4, w5⟩ := m_atom ht hT hf q1 q3 q5 q6 q7 hu hU (by omega) hh k
      obtain ⟨C2, a1', a2, a3, a4, _⟩ := c_addK (T := T) (t := t) ha (len := nm) (by omega) ok1 v
      obtain ⟨C3, b1, b2, b3⟩ := c_next ht hT q1 (a3.tp ha tp1) (a4 p hc1)
      have ok3 : cOK a1 (nm + 1) (un + 1) (apP pc nm v) C3 := b3.ok ha a2
      have hxx := hx.2.2 h0
      refine ⟨0, C3, L', hrun C2 C3 a1' b1, by omega, fun k' _ => by rw [e53, n40 c40, w1, b_v]; rfl, (fk1.tr a3).tr b3.k, w5, ⟨nm + 1, un + 1, by omega, by omega, ok3.1, ok3.2.1⟩, u_end b2 w2 w3 w4 ok3 (by omega) (by omega) (by omega) (by omega) (fun _ _ => rfl) (wf_ap q15 ⟨fun _ => by omega, fun z => by omega, fun z => by omega⟩) ?_ (by omega) (by omega) hx.2.1 (by omega)⟩
      rw [dq_ap, if_pos hv, q16]
    by_cases c2 : tkN T t p = 2
    · have ew : wkN T t p = 0 := if_neg (by omega)
      have ea : askN (wkN T t p) = none := by rw [ew]; decide +kernel
      have hv := nv_lt c2
      have e4 : C1.1 1 4 = (2 : Int32) := by rw [hc1.2.2.1, c2]; rfl
      have e7 := hc1.2.2.2.2.2.2.1 c2
      refine atom (nvN T (tbN T t p) (txN T t p - tbN T t p)) (by omega) (Or.inl ⟨c2, rfl, hv⟩) (fun z => by have := s8 (by omega); omega) (by omega) (fun C2 C3 g1 g2 => ?_)
      rw [ea] at vn
      simp only [fX4_readUnit_0, fX4_readUnit_115, k1, kO_1, g_t, b_d, b_c, b_v, Bool.and_true, Bool.and_self, Bool.true_and, q8.2.1, if_pos c', o1, hC1, vn, if_pos e4, e7, g1, g2]
    have e4 : ¬ C1.1 1 4 = (2 : Int32) := by
      rw [hc1.2.2.1]
      exact fun z => c2 ((xEq (b := 2) (by omega) (by omega)).mp z)
    cases ea : askN (wkN T t p) with
    | some y =>
      have hy := ask_lt ea
      have n1 : ∀ y, y < 6 → ¬ oI (some y) = (-1 : Int32) := by decide
      have n1' := n1 y hy
      have o2 : (10000 : Int32) + oI (some y) = nI (10000 + y) := nI_add 10000 y
      have k1' : tkN T t p = 1 := by
        apply Classical.byContradiction
        intro z
        have e : wkN T t p = 0 := if_neg z
        rw [e, show askN 0 = none by decide +kernel] at ea
        cases ea
      refine atom (10000 + y) (by omega) (Or.inr ⟨y, ea, rfl⟩) (fun z => by have := s8 (by omega); omega) (by omega) (fun C2 C3 g1 g2 => ?_)
      rw [ea] at vn
      simp only [fX4_readUnit_0, fX4_readUnit_115, k1, kO_1, g_t, b_d, b_c, b_v, Bool.and_true, Bool.and_self, Bool.true_and, q8.2.1, if_pos c', o1, hC1, vn, if_neg e4, if_neg n1', o2, g1, g2]
    | none =>
      rw [ea] at vn
      have n1 : oI none = (-1 : Int32) := by decide
      have sg40 : fX4_isSign (40 : Int32) C1 = some (if srN T t p = 40 then 1 else 0, C1) := c_isS hT hc1 (c := 40) (by omega) (by omega)
      obtain ⟨C2, r1, r2, r3⟩ := c_ref0 hc1.1 hc1.2.2.2.1 (f := 2) (by omega) (by omega)
      have r1' : fX4_refuse (2 : Int32) C1 = some C2 := r1
      by_cases c40 : srN T t p = 40
      · rw [if_pos c40] at sg40
        by_cases e7 : e = 7
        · have c6 : (6 : Int32) < nI e := (xLt (a := 6) (by omega) (by omega)).mpr (by omega)
          obtain ⟨L', w1, w2, w3⟩ := m_u40W hT q5 q6 q9 hU (by omega) q11 c40 (Or.inr e7) k
          have run : fX4_readUnit_0 a1 (fP d) (nI e) C = some C2 := by
            simp only [fX4_readUnit_0, fX4_readUnit_110, fX4_readUnit_115, k1, kO_1, g_t, b_d, b_c, b_v, Bool.and_true, Bool.and_self, Bool.true_and, q8.2.1, if_pos c', o1, hC1, vn, if_neg e4, if_pos n1, sg40, if_neg t1, if_pos c6, r1']
          exact u_dead q1 run (e53.trans w1) r2 w2 (fk1.tr r3.k) w3 (r3.cs ha cs1)
        have c6 : ¬ (6 : Int32) < nI e := fun z => by have := (xLt (a := 6) (by omega) (by omega)).mp z; omega
        have k3' := s8 (by omega)
        have hxx := hx.2.2 (by omega)
        have o3 : nI e + (1 : Int32) = nI (e + 1) := nI_add e 1
        obtain ⟨L1, w1, w2, w3, w4, w5⟩ := m_u40 ht hT q1 q3 q5 q6 q7 hu hU (by omega) (by omega) c40 (k + 1)
        obtain ⟨C3, b1, b2, b3⟩ := c_next ht hT q1 tp1 hc1
        have pm : puS sg m 20 m = 20 := if_pos rfl
        have hs1 : ∀ i, i < m + 1 → puS sg m 20 i < 128 := fun i hi => by
          unfold puS
          by_cases u : i = m
          · rw [if_pos u]
            omega
          · rw [if_neg u]
            exact q14 i (by omega)
        obtain ⟨j, C4, L4, g1, g2, g3, g4, g5, g6, g7⟩ := IH (by omega) (txN T t p) C3 L1 (k + 1) nm (un + 1) x (puS sg m 20) pc (m + 1) ⟨hx.2.1, b3.tp tp1, w5.tp q3, b2, w2, w3, w4, b3.ok ha ok1, by omega, by omega, by omega, by omega, Or.inr (Or.inl (by rw [Nat.add_sub_cancel]; exact pm)), hs1, q15, q16, by omega⟩ (by omega)
        have run : ∀ C5, fX4_takeSign (41 : Int32) C4 = some C5 → fX4_readUnit_0 a1 (fP d) (nI e) C = some C5 := fun C5 z => by
          simp only [fX4_readUnit_0, fX4_readUnit_115, k1, kO_1, g_t, b_d, b_c, b_v, Bool.and_true, Bool.and_self, Bool.true_and, q8.2.1, if_pos c', o1, hC1, vn, if_neg e4, if_pos n1, sg40, if_neg t1, if_neg c6, b1, o3, g1, z]
        have hrun : ∀ k', 1 ≤ k' → (bndV (fX12_unit_2 (k + 2) (1 : Int32) L) fun S => fX12_formula_50 (k' + j) (1 : Int32) S) = fX12_formula_50 k' (1 : Int32) L4 := fun k' hk' => by
          rw [e53, w1]
          exact g3 k' hk'
        have fk4 : fK a1 C C4 := (fk1.tr b3.k).tr g4
        have fz4 : fZ f L L4 := w5.tr g5
        have tp4 : tpC T t C4 := fk4.tp ha q2
        rcases g7 with h | h | h
        · obtain ⟨p2, nm2, op2, un2, sg2, pc2, d1, d2, d3, d4, d5, d6, d7, d8, d9, d10, d11, d12, d13, d14, d15, d16, d17, d18, d19, d20⟩ := h
          have em : sg2 m = 20 := by rw [d14 m (by omega)]; exact pm
          have s2lt : ∀ i, i < op2 → sg2 i < 128 := fun i hi => by
            by_cases u : i < m + 1
            · rw [d14 i u]
              exact hs1 i u
            · have := (d15 i (by omega) hi).1
              unfold isOq at this
              omega
          by_cases c41 : srN T t p2 = 41
          · have sg41 : fX4_isSign (41 : Int32) C4 = some (1, C4) := (c_isS hT d4 (c := 41) (by omega) (by omega)).trans (by rw [if_pos c41])
            obtain ⟨C5, v1, v2, v3⟩ := c_next ht hT d2 tp4 d4
            have ts : fX4_takeSign (41 : Int32) C4 = some C5 := by
              simp only [fX4_takeSign, fX4_takeSign_13, sg41, g_t, b_d, b_c, b_v, Bool.and_true, Bool.and_self, Bool.true_and, if_neg t1, v1]
            obtain ⟨L5, y1, y2, y3, y4, y5⟩ := m_paren ht hT hf hU (m := m) (e := e) d2 (fz4.tp q3) d5 d6 d7 d9 d10 d12 d13 (by omega) em s2lt (fun i h1 h2 => (d15 i h1 h2).1) d16 c41
            have hx2 := tx_le (T := T) d2
            have htb2 := (tb_le (T := T) d2).1
            have hk2 : tkN T t p2 ≠ 0 := by
              have := (sr_lt hT p2).2.2.2.2.2.2.2 (by omega)
              omega
            have hxx2 := hx2.2.2 hk2
            refine ⟨j + 1, C5, L5, run C5 ts, by omega, fun k' hk' => ?_, fk4.tr v3.k, fz4.tr y5, v3.cs ha g6, u_end v2 y2 y3 y4 (v3.ok ha d8) (by omega) (by omega) d12 (by omega) (fun i hi => ?_) d17 d18 d19 (by omega) hx2.2.1 (by omega)⟩
            · rw [← y1 k', ← hrun (k' + 1) (by omega), show k' + (j + 1) = k' + 1 + j by omega]
            · rw [d14 i (by omega)]
              unfold puS
              rw [if_neg (by omega)]
          · have sg41 : fX4_isSign (41 : Int32) C4 = some (0, C4) := (c_isS hT d4 (c := 41) (by omega) (by omega)).trans (by rw [if_neg c41])
            obtain ⟨C5, v1, v2, v3⟩ := c_ref0 d4.1 d4.2.2.2.1 (f := 2) (by omega) (by omega)
            have v1' : fX4_refuse (2 : Int32) C4 = some C5 := v1
            have ts : fX4_takeSign (41 : Int32) C4 = some C5 := by
              simp only [fX4_takeSign, fX4_takeSign_13, sg41, g_t, b_d, b_c, b_v, Bool.and_true, Bool.and_self, Bool.true_and, if_true, v1', c_advD v2]
            obtain ⟨L5, y1, y2, y3⟩ := m_stopW hT d2 d5 d6 (by omega) s2lt (x_stop d20) c41 (m := m) (by omega) em
            rw [if_neg d4.2.1] at y2
            refine ⟨j + 1, C5, L5, run C5 ts, by omega, fun k' hk' => ?_, fk4.tr v3.k, fz4.tr y3, v3.cs ha g6, Or.inr (Or.inr ⟨2, _, v2, y2⟩)⟩
            rw [← y1 k' hk', ← hrun (k' + 1) (by omega), show k' + (j + 1) = k' + 1 + j by omega]
        · obtain ⟨p2, nm2, op2, un2, sg2, pc2, d1, d2, d3, d5, d6, d7, d8, d9, d10, d11, d12, d13⟩ := h
          have em : sg2 m = 20 := by rw [d12 m (by omega)]; exact pm
          have s2lt : ∀ i, i < op2 → sg2 i < 128 := fun i hi => by
            by_cases u : i < m + 1
            · rw [d12 i u]
              exact hs1 i u
            · have := d13 i (by omega) hi
              unfold isOq at this
              omega
          obtain ⟨z1, z2, z3, z4, z5, z6, z7, z8⟩ := sr_lt hT p2
          have sr3 := z3.mpr d2
          have w0 : wkN T t p2 = 0 := if_neg (by omega)
          have c9 := (cw_lt 9 (by omega)).1
          have c10 := (cw_lt 10 (by omega)).1
          have st0 : stpN T t p2 sg2 op2 := Or.inl (by unfold sgO; rw [if_neg (by omega), if_neg (by omega), if_neg (by omega)])
          obtain ⟨C5, v1, v2, v3⟩ := c_tsD d3 (41 : Int32)
          obtain ⟨L5, y1, y2, y3⟩ := m_stopW hT d1 d5 d6 (by omega) s2lt st0 (by omega) (m := m) (by omega) em
          rw [if_pos d2] at y2
          refine ⟨j + 1, C5, L5, run C5 v1, by omega, fun k' hk' => ?_, fk4.tr v3.k, fz4.tr y3, v3.cs ha g6, Or.inr (Or.inr ⟨1, _, v2, y2⟩)⟩
          rw [← y1 k' hk', ← hrun (k' + 1) (by omega), show k' + (j + 1) = k' + 1 + j by omega]
        · obtain ⟨w, pl, d1, d2⟩ := h
          obtain ⟨C5, v1, v2, v3⟩ := c_tsD d1 (41 : Int32)
          exact ⟨j, C5, L4, run C5 v1, by omega, hrun, fk4.tr v3.k, fz4, v3.cs ha g6, Or.inr (Or.inr ⟨w, pl, v2, d2⟩)⟩
      · rw [if_neg c40] at sg40
        obtain ⟨L', w1, w2, w3⟩ := m_uwr hT q5 q6 q9 hU (Or.inr ⟨c2, ea⟩) k
        rw [if_neg k4'] at w2
        have run : fX4_readUnit_0 a1 (fP d) (nI e) C = some C2 := by
          simp only [fX4_readUnit_0, fX4_readUnit_110, fX4_readUnit_115, k1, kO_1, g_t, b_d, b_c, b_v, Bool.and_true, Bool.and_self, Bool.true_and, q8.2.1, if_pos c', o1, hC1, vn, if_neg e4, if_pos n1, sg40, if_true, r1']
        exact u_dead q1 run ((e53.trans (n40 c40)).trans w1) r2 w2 (fk1.tr r3.k) w3 (r3.cs ha cs1)
  · obtain ⟨C1, r1, r2, r3, r4⟩ := c_dead ha (d + 1) 5 e C _ _ (by omega) (by omega) q11 hc cs0
    have r1' : fX4_readUnit_0 a1 (fP d) (nI e) C = some C1 := r1
    have sr3 := s3.mpr h4
    have w0 : wkN T t p = 0 := if_neg (by omega)
    obtain ⟨L', w1, w2, w3⟩ := m_uwr hT q5 q6 q9 hU (Or.inr ⟨by omega, by rw [w0]; decide +kernel⟩) k
    rw [if_pos h4] at w2
    exact u_dead q1 r1' ((e53.trans (n40 (by omega))).trans w1) r2 w2 r4 w3 r3
end
