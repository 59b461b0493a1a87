/-! PROVINCE: one with a relation or a not; all the levels. -/
section
variable {T : Nat → Nat} {t f a1 U0 : Nat}
theorem up_add (ha : kLw a1) {s lv lvs e e' x x' m un0 un1 p0 p1 j j' : Nat} {sg0 sg1 : Nat → Nat} {X X' : Nat → (Nat → Nat) → Nat → Prop} {C L : mT} (hs : isOq s) (he : e' = e + if s = 21 then 1 else 0) (hx : x' = x + if s = 21 then 0 else 1) (h1 : sg1 m = s) (h0 : ∀ i, i < m → sg1 i = sg0 i) (hl : lv ≤ tghN s) (hll : lv ≤ lvs) (hu : un0 ≤ un1) (hp : p0 ≤ p1) (hj : j' + p0 ≤ j + p1) (hX : ∀ p sg op, m < op → sg m = s → (∀ i, m + 1 ≤ i → i < op → isOq (sg i) ∧ lvs ≤ tghN (sg i)) → X p sg op → X' p sg op) (hcs : cS a1 C)
    (h : PL T t f a1 U0 lvs X (m + 1) e' x' un1 p1 sg1 j C L ∨ PB T t f U0 (m + 1) e' sg1 C L ∨ PQ C L) : ∃ C', fX0_add a1 (nI (opP s)) C = some C' ∧ fK a1 C C' ∧ cS a1 C' ∧ (PL T t f a1 U0 lv X' m e x un0 p0 sg0 j' C' L ∨ PB T t f U0 m e sg0 C' L ∨ PQ C' L) := by
  have edp : ∀ (sg : Nat → Nat) (op : Nat), m + 1 ≤ op → sg m = s → e + ntN sg m (op - m) = e' + ntN sg (m + 1) (op - (m + 1)) := fun sg op h1 h2 => by
    rw [show op - m = (op - (m + 1)) + 1 by omega, nt_hd, h2, he]
    omega
  rcases h with h | h | h
  · obtain ⟨p2, nm2, op2, un2, sg2, pc2, d1, d2, d3, d4, d5, d6, d7, d8, d9, d10, d11, d12, d13, d14, d15, d16, d17, d18, d19, d20⟩ := h
    obtain ⟨C3, e1, e2, e3, e4, _⟩ := c_addK (T := T) (t := t) ha (len := nm2 + (op2 - (m + 1))) (by omega) d8 (opP s)
    have em : sg2 m = s := by rw [d14 m (by omega)]; exact h1
    have elen : nm2 + (op2 - (m + 1)) + 1 = nm2 + (op2 - m) := by omega
    rw [elen] at e2
    refine ⟨C3, e1, e3, ⟨_, _, by omega, d12, e2.1, e2.2.1⟩, Or.inl ⟨p2, nm2, op2, un2, sg2, apP pc2 (nm2 + (op2 - (m + 1))) (opP s), by omega, d2, by omega, e4 p2 d4, d5, by rw [edp sg2 op2 d9 em]; exact d6, mOK_ext d7 (fun i hi => apP_lt (by omega)), e2, by omega, d10, by omega, d12, d13, fun i hi => by rw [d14 i (by omega), h0 i hi], fun i g1 g2 => ?_, fun jj hjj => ?_, ?_, ?_, ?_, hX p2 sg2 op2 (by omega) em d15 d20⟩⟩
    · by_cases u : i = m
      · rw [u, em]
        exact ⟨hs, hl⟩
      · obtain ⟨v1, v2⟩ := d15 i (by omega) g2
        exact ⟨v1, by omega⟩
    · by_cases u : jj = op2 - (m + 1)
      · rw [u, apP_at, show op2 - 1 - (op2 - (m + 1)) = m by omega, em]
      · rw [apP_lt (by omega)]
        exact d16 jj (by omega)
    · rw [← elen]
      refine wf_ap d17 ?_
      unfold opP
      by_cases c : s = 21
      · rw [if_pos c]
        exact ⟨fun z => by omega, fun z => by omega, fun _ z => absurd rfl z⟩
      · rw [if_neg c] at hx ⊢
        exact ⟨fun z => by omega, fun z => by unfold isOq at hs; omega, fun _ _ => ⟨by omega, by unfold isOq at hs; omega⟩⟩
    · rw [← elen, dq_ap, d18]
      unfold opP
      by_cases c : s = 21
      · rw [if_pos c] at hx ⊢
        rw [if_neg (by omega), if_pos rfl]
        omega
      · rw [if_neg c] at hx ⊢
        rw [if_neg (by omega), if_neg (by unfold isOq at hs; omega)]
        omega
    · omega
  · obtain ⟨C3, e1, e2, e3, e4⟩ := c_addS ha hcs (nI (opP s))
    obtain ⟨p', nm, op, un, sg, pc, b1, b2, b3, b4, b5, b6, b7, b8, b9, b10, b11, b12⟩ := h
    have em : sg m = s := by rw [b11 m (by omega)]; exact h1
    refine ⟨C3, e1, e3, e2, Or.inr (Or.inl ⟨p', nm, op, un, sg, pc, b1, b2, e4 _ _ b3, b4, by rw [edp sg op b7 em]; exact b5, b6, by omega, b8, b9, b10, fun i hi => by rw [b11 i (by omega), h0 i hi], fun i g1 g2 => ?_⟩)⟩
    by_cases u : i = m
    · rw [u, em]
      exact hs
    · exact b12 i (by omega) g2
  · obtain ⟨C3, e1, e2, e3, e4⟩ := c_addS ha hcs (nI (opP s))
    obtain ⟨w, pl, d1, d2⟩ := h
    exact ⟨C3, e1, e3, e2, Or.inr (Or.inr ⟨w, pl, e4 _ _ d1, d2⟩)⟩
theorem PRE_up {c c' lv lv' p nm un m e x : Nat} {sg pc : Nat → Nat} {C L : mT} (hc : c ≤ c') (hl : lv ≤ lv') (h : PRE T t f a1 U0 c lv p C L nm un m e x sg pc) : PRE T t f a1 U0 c' lv' p C L nm un m e x sg pc := by
  obtain ⟨q1, q2, q3, q4, q5, q6, q7, q8, q9, q10, q11, q12, q13, q14, q15, q16, q17⟩ := h
  refine ⟨q1, q2, q3, q4, q5, q6, q7, q8, q9, q10, q11, by omega, ?_, q14, q15, q16, q17⟩
  rcases q13 with z | z | ⟨z1, z2⟩
  · exact Or.inl z
  · exact Or.inr (Or.inl z)
  · exact Or.inr (Or.inr ⟨by omega, z2⟩)
def LV (T : Nat → Nat) (t f a1 U0 c lvb lv : Nat) (X : Nat → (Nat → Nat) → Nat → Prop) (nn : Prop) (d idx e : Nat) : Prop := ∀ p C L ku nm un x sg pc m, PRE T t f a1 U0 c lvb p C L nm un m e x sg pc → (nn → wkN T t p = cwN 11 → ¬ mayN sg m) → t + 3 ≤ ku + p → POST T t f a1 U0 lv X m e x un p sg ku C L (fP d idx a1 (nI e) C)
theorem L_one (ht : t ≤ 1600) (hT : ∀ k, k < t → T k < 256) (hf : f < 3) (ha : kLw a1) (hU : U0 ≤ 60) {d e : Nat} (IHs : LV T t f a1 U0 3 5 5 (xSm T t) True d 3 e) (IHo : e ≤ 6 → LV T t f a1 U0 2 4 3 (xOn T t) False d 2 (e + 1)) : LV T t f a1 U0 2 4 3 (xOn T t) False (d + 1) 2 e := fun p C L ku nm un x sg pc m pre _ hk => by
  obtain ⟨q1, q2, q3, q4, q5, q6, q7, q8, q9, q10, q11, q12, q13, q14, q15, q16, q17⟩ := id pre
  obtain ⟨k, rfl⟩ : ∃ k, ku = k + 2 := ⟨ku - 2, by omega⟩
  have cs0 : cS a1 C := ⟨nm, un, by omega, q9, q8.1, q8.2.1⟩
  have t1 : ¬ (1 : Int32) = 0 := by decide
  have hx := tx_le (T := T) q1
  have htb := (tb_le (T := T) q1).1
  show POST T t f a1 U0 3 (xOn T t) m e x un p sg (k + 2) C L (fX4_readOne_0 a1 (fP d) (nI e) C)
  by_cases c11 : wkN T t p = cwN 11
  · have k1 := wk_tk (by omega) c11
    have hxx := hx.2.2 (by omega)
    have hc : cT T t p C := by
      rcases q4 with z | z
      · exact z
      · omega
    have w1 : fX4_isWord 900011 C = some (1, C) := (c_isW ht hT q1 q2 hc (j := 11) (by omega)).trans (by rw [if_pos c11])
    have w11 : fX12_isWord (7237492 : Int64) L = some (1, L) := by
      rw [cw_c.2.2.2.2.2.2.2.2.2.2.2.1]
      exact (m_isW q5 (j := 11) (by omega) hT q1).trans (by rw [if_pos c11])
    obtain ⟨r, r1, r2⟩ := m_may q6 (by omega) q14
    have r0 : r = 1 := by
      rcases r2 with ⟨z, _⟩ | ⟨_, z⟩
      · exact z
      · refine absurd ?_ z
        rcases q13 with y | y | y
        · exact Or.inl y
        · exact Or.inr (Or.inl y)
        · exact Or.inr (Or.inr y.1)
    rw [r0] at r1
    have e2 : L.1 187 2 = 0 := q5.1
    have r6 := q6.2.2.2.2.2.1
    by_cases e7 : e = 7
    · have c6 : ¬ nI e ≤ (6 : Int32) := fun z => by have := (xLe (b := 6) (by omega) (by omega)).mp z; omega
      obtain ⟨C2, v1, v2, v3⟩ := c_ref0 hc.1 hc.2.2.2.1 (f := 2) (by omega) (by omega)
      have v1' : fX4_refuse (2 : Int32) C = some C2 := v1
      have run : fX4_readOne_0 a1 (fP d) (nI e) C = some C2 := by
        simp only [fX4_readOne_0, w1, g_t, b_d, b_c, b_v, Bool.and_true, Bool.and_self, Bool.true_and, if_neg t1, if_neg c6, v1']
      obtain ⟨L1, u1, u2, u3, u4⟩ := m_wr hT q5 (w := 2) (by omega) (by omega)
      rw [if_neg (by omega)] at u2
      have u1' : fX12_wrong (2 : Int32) L = some L1 := u1
      have R1 : RS f U0 un nm m e sg L1 := RS_fr q6 (fun a j g => u3 a j (by omega))
      obtain ⟨L3, y1, y2, y3⟩ := m_openD (f := f) u2 R1 (by omega) (21 : Int32)
      refine u_dead q1 run (L' := L3) ?_ v2 y2 v3.k ((wr_z u3 u4).tr y3) (v3.cs ha cs0)
      conv => lhs; unfold fX12_unit_2
      simp only [fX12_unit_44, if_neg t1, kO_187, g_t, b_d, b_c, b_v, Bool.and_true, Bool.and_self, Bool.true_and, if_pos e2, w11, r1, r6, if_neg c6, u1', y1, m_u0D y2]
    · have c6 : nI e ≤ (6 : Int32) := (xLe (b := 6) (by omega) (by omega)).mpr (by omega)
      have o3 : nI e + (1 : Int32) = nI (e + 1) := nI_add e 1
      obtain ⟨L1, v1, v2, v3, v4, v5⟩ := m_open ht hT q1 q3 q5 (by omega) q6 (by omega) 21
      have v1' : fX12_openUp (21 : Int32) L = some L1 := v1
      obtain ⟨C1, b1, b2, b3⟩ := c_next ht hT q1 q2 hc
      have pm : puS sg m 21 m = 21 := if_pos rfl
      have hs1 : ∀ i, i < m + 1 → puS sg m 21 i < 128 := fun i hi => by
        unfold puS
        by_cases u : i = m
        · rw [if_pos u]
          omega
        · rw [if_neg u]
          exact q14 i (by omega)
      have tg21 : tghN 21 = 3 := by decide
      obtain ⟨j, C4, L4, g1, g2, g3, g4, g5, g6, g7⟩ := IHo (by omega) (txN T t p) C1 L1 (k + 1) nm un x (puS sg m 21) pc (m + 1) ⟨hx.2.1, b3.tp q2, v5.tp q3, b2, v2, v3, mOK_fr q7 v4, b3.ok ha q8, q9, by omega, by omega, by omega, Or.inr (Or.inr (by rw [Nat.add_sub_cancel, pm, tg21]; omega)), hs1, q15, q16, q17⟩ (fun z => absurd z (fun y => y)) (by omega)
      have is21 : isOq 21 := Or.inl rfl
      obtain ⟨C5, y1, y2, y3, y4⟩ := up_add (lv := 3) (x := x) (e := e) (un0 := un) (p0 := p) (j' := j) (sg0 := sg) (X' := xOn T t) ha is21 rfl rfl pm (fun i hi => by unfold puS; rw [if_neg (by omega)]) (by omega) (by omega) (Nat.le_refl _) (by omega) (by omega) (fun _ _ _ _ _ _ z => z) g6 g7
      have y1' : fX0_add a1 (20033 : Int32) C4 = some C5 := y1
      refine ⟨j, C5, L4, ?_, by omega, fun k' hk' => ?_, (b3.k.tr g4).tr y2, v5.tr g5, y3, y4⟩
      · simp only [fX4_readOne_0, w1, g_t, b_d, b_c, b_v, Bool.and_true, Bool.and_self, Bool.true_and, if_neg t1, if_pos c6, b1, o3, g1, y1']
      · rw [← g3 k' hk']
        have : fX12_unit_2 (k + 2) (1 : Int32) L = fX12_unit_2 (k + 1) (1 : Int32) L1 := by
          conv => lhs; unfold fX12_unit_2
          simp only [fX12_unit_44, if_neg t1, kO_187, g_t, b_d, b_c, b_v, Bool.and_true, Bool.and_self, Bool.true_and, if_pos e2, w11, r1, r6, if_pos c6, v1']
        rw [this]
  · have w1 : fX4_isWord 900011 C = some (0, C) := by
      rcases q4 with z | ⟨_, z⟩
      · exact (c_isW ht hT q1 q2 z (j := 11) (by omega)).trans (by rw [if_neg c11])
      · exact c_isWD z (j := 11) (by omega)
    obtain ⟨j, C1, L1, g1, g2, g3, g4, g5, g6, g7⟩ := IHs p C L (k + 2) nm un x sg pc m (PRE_up (by omega) (by omega) pre) (fun _ z => absurd z c11) hk
    have tp1 := g4.tp ha q2
    rcases g7 with h | h | h
    · obtain ⟨p2, nm2, op2, un2, sg2, pc2, d1, d2, d3, d4, d5, d6, d7, d8, d9, d10, d11, d12, d13, d14, d15, d16, d17, d18, d19, d20⟩ := h
      have a60 : fX4_isSign (60 : Int32) C1 = some (if srN T t p2 = 60 then 1 else 0, C1) := c_isS hT d4 (c := 60) (by omega) (by omega)
      have a62 : fX4_isSign (62 : Int32) C1 = some (if srN T t p2 = 62 then 1 else 0, C1) := c_isS hT d4 (c := 62) (by omega) (by omega)
      have a61 : fX4_isSign (61 : Int32) C1 = some (if srN T t p2 = 61 then 1 else 0, C1) := c_isS hT d4 (c := 61) (by omega) (by omega)
      by_cases cr : srN T t p2 = 60 ∨ srN T t p2 = 61 ∨ srN T t p2 = 62
      · obtain ⟨s, hs⟩ : ∃ s, srN T t p2 = s := ⟨_, rfl⟩
        have k3 := (sr_lt hT p2).2.2.2.2.2.2.2 (by omega)
        have w0 : wkN T t p2 = 0 := if_neg (by omega)
        have c9 := (cw_lt 9 (by omega)).1
        have c10 := (cw_lt 10 (by omega)).1
        have e9 := c_sgv hT d4 (by omega)
        rw [hs] at e9 cr
        have run74 : fX4_readOne_0 a1 (fP d) (nI e) C = fX4_readOne_74 a1 (fP d) (nI e) C1 := by
          rw [hs] at a60 a62 a61
          by_cases z1 : s = 60
          · rw [if_pos z1] at a60
            simp only [fX4_readOne_0, w1, g_t, b_d, b_c, b_v, Bool.and_true, Bool.and_self, Bool.true_and, if_true, g1, a60, if_neg t1]
          · rw [if_neg z1] at a60
            by_cases z2 : s = 62
            · rw [if_pos z2] at a62
              simp only [fX4_readOne_0, w1, g_t, b_d, b_c, b_v, Bool.and_true, Bool.and_self, Bool.true_and, if_true, g1, a60, a62, if_neg t1]
            · rw [if_neg z2] at a62
              rw [if_pos (by omega)] at a61
              simp only [fX4_readOne_0, w1, g_t, b_d, b_c, b_v, Bool.and_true, Bool.and_self, Bool.true_and, if_true, g1, a60, a62, a61, if_neg t1]
        have hsq : isOq s := by unfold isOq; omega
        have ht4 : tghN s = 4 := by
          unfold tghN
          rw [if_neg (by omega), if_neg (by omega), if_neg (by omega), if_pos cr]
        have hso : sgO T t p2 = s := by
          unfold sgO
          rw [if_neg (by omega), if_neg (by omega), if_pos (by omega)]
          exact hs
        have s2lt : ∀ i, i < op2 → sg2 i < 128 := fun i hi => by
          by_cases u : i < m
          · rw [d14 i u]
            exact q14 i u
          · have := (d15 i (by omega) hi).1
            unfold isOq at this
            omega
        have hbm : m = 0 ∨ sg2 (m - 1) = 20 ∨ (tghN (sg2 (m - 1)) < 4 ∧ sg2 (m - 1) < 128) := by
          by_cases m0 : m = 0
          · exact Or.inl m0
          · rw [d14 (m - 1) (by omega)]
            exact q13
        have nor : noR sg2 m op2 := ⟨d9, by
          rcases hbm with z | z | z
          · exact Or.inl z
          · exact Or.inr (Or.inl z)
          · exact Or.inr (Or.inr z.1), fun i h1 h2 => by
          obtain ⟨v1, v2⟩ := d15 i h1 h2
          exact ⟨by unfold isOq at v1; omega, v2⟩⟩
        obtain ⟨L2, r1, r2, r3, r4, r5⟩ := m_opst ht hT hf hU (lv := 4) (m := m) (e := e) d2 (g5.tp q3) (by omega) d5 d6 d7 d9 d10 d12 d13 q11 hbm (fun i h1 h2 => ⟨(d15 i h1 h2).1, by have := (d15 i h1 h2).2; omega⟩) d16 hso hsq ht4 (fun _ => m_hrel0 d6 (by omega) s2lt nor) (by omega)
        obtain ⟨C2, b1, b2, b3⟩ := c_next ht hT d2 tp1 d4
        have hx2 := tx_le (T := T) d2
        have htb2 := (tb_le (T := T) d2).1
        have hxx2 := hx2.2.2 (by omega)
        have pm : puS sg2 m s m = s := if_pos rfl
        have hs1 : ∀ i, i < m + 1 → puS sg2 m s i < 128 := fun i hi => by
          unfold puS
          by_cases u : i = m
          · rw [if_pos u]
            omega
          · rw [if_neg u, d14 i (by omega)]
            exact q14 i (by omega)
        obtain ⟨j2, C4, L4, y1, y2, y3, y4, y5, y6, y7⟩ := IHs (txN T t p2) C2 L2 mK (nm2 + (op2 - m)) un2 (x + 1) (puS sg2 m s) pc2 (m + 1) ⟨hx2.2.1, b3.tp tp1, r5.tp (g5.tp q3), b2, r2, r3, r4, b3.ok ha d8, d12, by omega, q11, by omega, Or.inr (Or.inr (by rw [Nat.add_sub_cancel, pm, ht4]; omega)), hs1, d17, d18, d19⟩ (fun _ _ z => by
          rcases z with z | z | z
          · omega
          · rw [Nat.add_sub_cancel, pm] at z
            omega
          · rw [Nat.add_sub_cancel, pm, ht4] at z
            omega) (by have := mK_gt; omega)
        have n21 : s ≠ 21 := by omega
        obtain ⟨C5, z1, z2, z3, z4⟩ := up_add (lv := 3) (x := x) (e := e) (un0 := un) (p0 := p) (j' := j + 1 + j2) (sg0 := sg) (X' := xOn T t) ha hsq (by rw [if_neg n21]; rfl) (by rw [if_neg n21]) pm (fun i hi => by unfold puS; rw [if_neg (by omega)]; exact d14 i hi) (by omega) (by omega) (by omega) (by omega) (by omega) (fun p sg op h1 h2 h3 z => ⟨z, fun _ => ⟨m, h1, by omega, by rw [h2]; exact ht4, fun i g1 g2 => by
          obtain ⟨v1, v2⟩ := h3 i (by omega) g2
          exact ⟨by unfold isOq at v1; omega, v2⟩⟩⟩) y6 y7
        have eop : opP s = 20000 + s := if_neg n21
        rw [eop] at z1
        have o1 : (20000 : Int32) + nI s = nI (20000 + s) := nI_add 20000 s
        refine ⟨j + 1 + j2, C5, L4, ?_, by omega, fun k' hk' => ?_, ((g4.tr b3.k).tr y4).tr z2, (g5.tr r5).tr y5, z3, z4⟩
        · rw [run74]
          simp only [fX4_readOne_74, fX4_readOne_98, kO_1, g_t, b_d, b_c, b_v, Bool.and_true, Bool.and_self, Bool.true_and, e9, b1, y1, o1, z1]
        · rw [← y3 k' hk', ← r1 (k' + j2), ← g3 (k' + j2 + 1) (by omega), show k' + (j + 1 + j2) = k' + j2 + 1 + j by omega]
      · rw [if_neg (by omega)] at a60 a62 a61
        refine ⟨j, C1, L1, ?_, g2, g3, g4, g5, g6, Or.inl ⟨p2, nm2, op2, un2, sg2, pc2, d1, d2, d3, d4, d5, d6, d7, d8, d9, d10, d11, d12, d13, d14, fun i h1 h2 => ⟨(d15 i h1 h2).1, by have := (d15 i h1 h2).2; omega⟩, d16, d17, d18, d19, d20, fun z => absurd z cr⟩⟩
        simp only [fX4_readOne_0, fX4_readOne_98, w1, g_t, b_d, b_c, b_v, Bool.and_true, Bool.and_self, Bool.true_and, if_true, g1, a60, a62, a61]
    · obtain ⟨p2, nm2, op2, un2, sg2, pc2, d1, d2, d3, dd⟩ := id h
      refine ⟨j, C1, L1, ?_, g2, g3, g4, g5, g6, Or.inr (Or.inl h)⟩
      simp only [fX4_readOne_0, fX4_readOne_98, w1, g_t, b_d, b_c, b_v, Bool.and_true, Bool.and_self, Bool.true_and, if_true, g1, c_isSD d3]
    · obtain ⟨w, pl, d1, d2⟩ := id h
      refine ⟨j, C1, L1, ?_, g2, g3, g4, g5, g6, Or.inr (Or.inr h)⟩
      simp only [fX4_readOne_0, fX4_readOne_98, w1, g_t, b_d, b_c, b_v, Bool.and_true, Bool.and_self, Bool.true_and, if_true, g1, c_isSD d1]
theorem L_all (ht : t ≤ 1600) (hT : ∀ k, k < t → T k < 256) (hf : f < 3) (ha : kLw a1) (hU : U0 ≤ 60) : ∀ d e, e ≤ 7 → (6 * (7 - e) + 6 ≤ d → LV T t f a1 U0 0 1 1 (xEi T t) False d 0 e) ∧ (6 * (7 - e) + 5 ≤ d → LV T t f a1 U0 1 2 2 (xBo T t) False d 1 e) ∧ (6 * (7 - e) + 4 ≤ d → LV T t f a1 U0 2 4 3 (xOn T t) False d 2 e) ∧ (6 * (7 - e) + 3 ≤ d → LV T t f a1 U0 3 5 5 (xSm T t) True d 3 e) ∧ (6 * (7 - e) + 2 ≤ d → LV T t f a1 U0 4 6 6 (xTm T t) True d 4 e) ∧ (6 * (7 - e) + 1 ≤ d → LV T t f a1 U0 5 7 7 xU True d 5 e)
  | 0, e, he => ⟨fun h => by omega, fun h => by omega, fun h => by omega, fun h => by omega, fun h => by omega, fun h => by omega⟩
  | d + 1, e, he => by
    have ih := L_all ht hT hf ha hU d
    refine ⟨fun h => ?_, fun h => ?_, fun h => ?_, fun h => ?_, fun h => ?_, fun h => ?_⟩
    · have s := (ih e he).2.1 (by omega)
      exact fun p C L ku nm un x sg pc m pre _ hk => gen_lev ht hT hf ha hU (lv := 1) (lvs := 2) (cs := 1) (by omega) (by omega) rfl (by omega) pre (oEi T t) (op_ei hT) (fP d 1 a1 (nI e)) (s p C L ku nm un x sg pc m (PRE_up (by omega) (by omega) pre) (fun z => absurd z (fun y => y)) hk) (fun p C L ku nm un x sg pc pr _ _ hk => s p C L ku nm un x sg pc (m + 1) pr (fun z => absurd z (fun y => y)) hk) (fun k i => fX4_readEither_8 a1 (fP d) k (nI e) (nI i)) (lp_either ht hT d e)
    · have s := (ih e he).2.2.1 (by omega)
      exact fun p C L ku nm un x sg pc m pre _ hk => gen_lev ht hT hf ha hU (lv := 2) (lvs := 3) (cs := 2) (by omega) (by omega) rfl (by omega) pre (oBo T t) (op_bo hT) (fP d 2 a1 (nI e)) (s p C L ku nm un x sg pc m (PRE_up (by omega) (by omega) pre) (fun z => absurd z (fun y => y)) hk) (fun p C L ku nm un x sg pc pr _ _ hk => s p C L ku nm un x sg pc (m + 1) (PRE_up (by omega) (by omega) pr) (fun z => absurd z (fun y => y)) hk) (fun k i => fX4_readBoth_8 a1 (fP d) k (nI e) (nI i)) (lp_both ht hT d e)
    · exact L_one ht hT hf ha hU ((ih e he).2.2.2.1 (by omega)) (fun h6 => (ih (e + 1) (by omega)).2.2.1 (by omega))
    · have s := (ih e he).2.2.2.2.1 (by omega)
      exact fun p C L ku nm un x sg pc m pre nn hk => gen_lev ht hT hf ha hU (lv := 5) (lvs := 6) (cs := 4) (by omega) (by omega) rfl (by omega) pre (oSm T t) (op_sm hT) (fP d 4 a1 (nI e)) (s p C L ku nm un x sg pc m (PRE_up (by omega) (by omega) pre) nn hk) (fun p C L ku nm un x sg pc pr n2 _ hk => s p C L ku nm un x sg pc (m + 1) pr (fun _ _ => n2 (by omega)) hk) (fun k i => fX4_readSum_8 a1 (fP d) k (nI e) (nI i)) (lp_sum ht hT d e)
    · have s := (ih e he).2.2.2.2.2 (by omega)
      exact fun p C L ku nm un x sg pc m pre nn hk => gen_lev ht hT hf ha hU (lv := 6) (lvs := 7) (cs := 5) (by omega) (by omega) rfl (by omega) pre (oTm T t) (op_tm hT) (fP d 5 a1 (nI e)) (s p C L ku nm un x sg pc m (PRE_up (by omega) (by omega) pre) nn hk) (fun p C L ku nm un x sg pc pr n2 _ hk => s p C L ku nm un x sg pc (m + 1) pr (fun _ _ => n2 (by omega)) hk) (fun k i => fX4_readTerm_8 a1 (fP d) k (nI e) (nI i)) (lp_term ht hT d e)
    · exact fun p C L ku nm un x sg pc m pre nn hk => L_unit ht hT hf ha hU (by omega) (fun h6 p C L ku nm un x sg pc m pr hk => (ih (e + 1) (by omega)).1 (by omega) p C L ku nm un x sg pc m pr (fun z => absurd z (fun y => y)) hk) pre (nn trivial) hk
end
