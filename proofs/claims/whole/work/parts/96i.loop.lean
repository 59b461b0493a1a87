/-! PROVINCE: a level that is a row of operands with operators between. -/
section
variable {T : Nat → Nat} {t f a1 U0 : Nat}
/-- what the class's loop does at a token -/
def lpOK (T : Nat → Nat) (t a1 : Nat) (opT : Nat → Option Nat) (sub : mT → Option mT) (lp : Nat → Nat → mT → Option mT) : Prop :=
  (∀ k i C w pl, i ≤ 1600 → cD w pl C → lp (k + 1) i C = some C) ∧
  (∀ k i C p, i ≤ p → p ≤ t → tpC T t C → cT T t p C → opT p = none → lp (k + 1) i C = some C) ∧
  (∀ k i C p s, i ≤ p → p ≤ t → tpC T t C → cT T t p C → opT p = some s → lp (k + 1) i C = bndV (fX4_advance C) fun S => bndV (sub S) fun S => bndV (fX0_add a1 (nI (20000 + s)) S) fun S => lp k (i + 1) S)
theorem PB_up {m e : Nat} {sg0 sg1 : Nat → Nat} {C L : mT} {s : Nat} (hs : isOq s) (h21 : s ≠ 21) (h1 : sg1 m = s) (h0 : ∀ i, i < m → sg1 i = sg0 i) (h : PB T t f U0 (m + 1) e sg1 C L) : PB T t f U0 m e sg0 C L := by
  obtain ⟨p', nm, op, un, sg, pc, a1, a2, a3, a4, a5, a6, a7, a8, a9, a10, a11, a12⟩ := h
  have em : sg m = s := by rw [a11 m (by omega)]; exact h1
  refine ⟨p', nm, op, un, sg, pc, a1, a2, a3, a4, ?_, a6, by omega, a8, a9, a10, fun i hi => by rw [a11 i (by omega), h0 i hi], fun i g1 g2 => ?_⟩
  · have : e + ntN sg m (op - m) = e + ntN sg (m + 1) (op - (m + 1)) := by
      rw [show op - m = (op - (m + 1)) + 1 by omega, nt_hd, em, if_neg h21]
      omega
    rw [this]
    exact a5
  · by_cases u : i = m
    · rw [u, em]
      exact hs
    · exact a12 i (by omega) g2
theorem gen_loop (ht : t ≤ 1600) (hT : ∀ k, k < t → T k < 256) (hf : f < 3) (ha : kLw a1) (hU : U0 ≤ 60) {lv lvs cs m e x un0 p0 ku : Nat} {sg0 : Nat → Nat} {X : Nat → (Nat → Nat) → Nat → Prop} (hlv : lv ≠ 4) (hls : lv < lvs) (he : e ≤ 7) (hm : m + 1 ≤ 6 * e + cs) (hcs : cs ≤ 5)
    (hb : m = 0 ∨ sg0 (m - 1) = 20 ∨ (tghN (sg0 (m - 1)) < lv ∧ sg0 (m - 1) < 128)) (hs0 : ∀ i, i < m → sg0 i < 128)
    (opT : Nat → Option Nat) (hop : ∀ p s, opT p = some s → isOq s ∧ s ≠ 21 ∧ tghN s = lv ∧ sgO T t p = s ∧ srN T t p ≠ 41 ∧ tkN T t p ≠ 4 ∧ tkN T t p ≠ 0)
    (sub : mT → Option mT)
    (SUB : ∀ p C L ku nm un x sg pc, PRE T t f a1 U0 cs lvs p C L nm un (m + 1) e x sg pc → (4 ≤ lv → ¬ mayN sg (m + 1)) → tghN (sg m) = lv → t + 3 ≤ ku + p → POST T t f a1 U0 lvs X (m + 1) e x un p sg ku C L (sub C))
    (lp : Nat → Nat → mT → Option mT) (LP : lpOK T t a1 opT sub lp) {C0 L0 : mT} :
    ∀ (w i k : Nat) (C L : mT) (j : Nat), (∀ k, 1 ≤ k → (bndV (fX12_unit_2 ku (1 : Int32) L0) fun S => fX12_formula_50 (k + j) (1 : Int32) S) = fX12_formula_50 k (1 : Int32) L) → fK a1 C0 C → fZ f L0 L → tpC T t C → tpM T t L → (∃ p' nm op un sg pc, t - p' < w ∧ w ≤ k ∧ i ≤ p' ∧ p0 < p' ∧ p' ≤ t ∧ j + p0 ≤ p' ∧ cT T t p' C ∧ mTo T t p' L ∧ RS f U0 un nm op (e + ntN sg m (op - m)) sg L ∧ mOK f nm pc L ∧ cOK a1 (nm + (op - m)) un pc C ∧ m ≤ op ∧ op ≤ 60 ∧ un0 < un ∧ un ≤ 30 ∧ nm + op ≤ 9 * un ∧ (∀ i, i < m → sg i = sg0 i) ∧ (∀ i, m ≤ i → i < op → isOq (sg i) ∧ lv ≤ tghN (sg i)) ∧ (∀ j, j < op - m → pc (nm + j) = opP (sg (op - 1 - j))) ∧ wfP pc (nm + (op - m)) ∧ dqP pc (nm + (op - m)) = x + 1 ∧ x + 1 ≤ un ∧ X p' sg op) →
    POST T t f a1 U0 lv (fun p sg op => X p sg op ∧ opT p = none) m e x un0 p0 sg0 ku C0 L0 (lp k i C)
  | 0, i, k, C, L, j, hrun, hk, hz, hc, hl, h => by
    obtain ⟨p', nm, op, un, sg, pc, q, _⟩ := h
    omega
  | w + 1, i, k, C, L, j, hrun, hk, hz, hc, hl, h => by
    obtain ⟨p', nm, op, un, sg, pc, b1, b2, b3, b4, b5, b6, b7, b8, b9, b10, b11, b12, b13, b14, b15, b16, b17, b18, b19, b20, b21, b22, b23⟩ := h
    obtain ⟨k', rfl⟩ : ∃ k', k = k' + 1 := ⟨k - 1, by omega⟩
    cases hop' : opT p' with
    | none =>
      refine ⟨j, C, L, LP.2.1 k' i C p' b3 b5 hc b7 hop', by omega, hrun, hk, hz, ⟨_, _, by omega, b15, b11.1, b11.2.1⟩, Or.inl ⟨p', nm, op, un, sg, pc, b4, b5, b6, b7, b8, b9, b10, b11, b12, b13, b14, b15, b16, b17, b18, b19, b20, b21, b22, b23, hop'⟩⟩
    | some s =>
      obtain ⟨o1, o2, o3, o4, o5, o6, o7⟩ := hop p' s hop'
      have hx := tx_le (T := T) b5
      have htb := (tb_le (T := T) b5).1
      have hxx := hx.2.2 o7
      have hbm : m = 0 ∨ sg (m - 1) = 20 ∨ (tghN (sg (m - 1)) < lv ∧ sg (m - 1) < 128) := by
        by_cases m0 : m = 0
        · exact Or.inl m0
        · rw [b17 (m - 1) (by omega)]
          exact hb
      obtain ⟨L1, r1, r2, r3, r4, r5⟩ := m_opst ht hT hf hU (lv := lv) (m := m) (e := e) b5 hl o6 b8 b9 b10 b12 b13 b15 b16 he hbm b18 b19 o4 o1 o3 (fun z => absurd z hlv) o5
      obtain ⟨C1, c1, c2, c3⟩ := c_next ht hT b5 hc b7
      have hs1 : ∀ i, i < m + 1 → puS sg m s i < 128 := fun i hi => by
        unfold puS
        by_cases u : i = m
        · rw [if_pos u]
          unfold isOq at o1
          omega
        · rw [if_neg u, b17 i (by omega)]
          exact hs0 i (by omega)
      have pm : puS sg m s m = s := if_pos rfl
      have pre : PRE T t f a1 U0 cs lvs (txN T t p') C1 L1 (nm + (op - m)) un (m + 1) e (x + 1) (puS sg m s) pc := ⟨hx.2.1, c3.tp hc, r5.tp hl, c2, r2, r3, r4, c3.ok ha b11, b15, by omega, he, hm, Or.inr (Or.inr ⟨by rw [Nat.add_sub_cancel, pm, o3]; exact hls, by rw [Nat.add_sub_cancel, pm]; unfold isOq at o1; omega⟩), hs1, b20, b21, b22⟩
      obtain ⟨j2, C2, L2, s1, s2, s3, s4, s5, s6, s7⟩ := SUB (txN T t p') C1 L1 mK (nm + (op - m)) un (x + 1) (puS sg m s) pc pre (fun h4 z => by
        rcases z with z | z | z
        · omega
        · rw [Nat.add_sub_cancel, pm] at z
          unfold isOq at o1
          omega
        · rw [Nat.add_sub_cancel, pm, o3] at z
          omega) (by rw [pm]; exact o3) (by have := mK_gt; omega)
      have hrun2 : ∀ k, 1 ≤ k → (bndV (fX12_unit_2 ku (1 : Int32) L0) fun S => fX12_formula_50 (k + (j + 1 + j2)) (1 : Int32) S) = fX12_formula_50 k (1 : Int32) L2 := fun k hk1 => by
        rw [← s3 k hk1, ← r1 (k + j2), ← hrun (k + j2 + 1) (by omega)]
        rw [show k + (j + 1 + j2) = k + j2 + 1 + j by omega]
      have hk2 : fK a1 C0 C2 := (hk.tr c3.k).tr s4
      have hz2 : fZ f L0 L2 := (hz.tr r5).tr s5
      have hlp : ∀ C3, fX0_add a1 (nI (20000 + s)) C2 = some C3 → lp (k' + 1) i C = lp k' (i + 1) C3 := fun C3 e3 => by
        rw [LP.2.2 k' i C p' s b3 b5 hc b7 hop', c1, b_v, s1, b_v, e3, b_v]
      have h1600 : tbN T t p' < t := by
        rcases Nat.lt_or_ge (tbN T t p') t with u | u
        · exact u
        · omega
      rcases s7 with h | h | h
      · obtain ⟨p2, nm2, op2, un2, sg2, pc2, d1, d2, d3, d4, d5, d6, d7, d8, d9, d10, d11, d12, d13, d14, d15, d16, d17, d18, d19, d20⟩ := h
        obtain ⟨C3, e1, e2, e3, e4, _⟩ := c_addK (T := T) (t := t) ha (len := nm2 + (op2 - (m + 1))) (by omega) d8 (20000 + s)
        have em : sg2 m = s := by rw [d14 m (by omega)]; exact pm
        rw [hlp C3 e1]
        have elen : nm2 + (op2 - (m + 1)) + 1 = nm2 + (op2 - m) := by omega
        rw [elen] at e2
        have edp : e + ntN sg2 m (op2 - m) = e + ntN sg2 (m + 1) (op2 - (m + 1)) := by
          rw [show op2 - m = (op2 - (m + 1)) + 1 by omega, nt_hd, em, if_neg o2]
          omega
        have nv1 : ¬ 20000 + s < 20000 := by omega
        have nv2 : 20000 + s ≠ 20033 := by unfold isOq at o1; omega
        refine gen_loop ht hT hf ha hU hlv hls he hm hcs hb hs0 opT hop sub SUB lp LP w (i + 1) k' C3 L2 (j + 1 + j2) hrun2 (hk2.tr e3) hz2 (e3.tp ha (s4.tp ha (c3.tp hc))) (s5.tp (r5.tp hl)) ⟨p2, nm2, op2, un2, sg2, apP pc2 (nm2 + (op2 - (m + 1))) (20000 + s), by omega, by omega, by omega, by omega, d2, by omega, e4 p2 d4, d5, by rw [edp]; exact d6, mOK_ext d7 (fun i hi => apP_lt (by omega)), e2, by omega, d10, by omega, d12, d13, fun i hi => ?_, fun i g1 g2 => ?_, fun jj hjj => ?_, ?_, ?_, by omega, d20⟩
        · rw [d14 i (by omega)]
          unfold puS
          rw [if_neg (by omega)]
          exact b17 i hi
        · by_cases u : i = m
          · rw [u, em]
            exact ⟨o1, by omega⟩
          · obtain ⟨v1, v2⟩ := d15 i (by omega) g2
            exact ⟨v1, by omega⟩
        · by_cases u : jj = op2 - (m + 1)
          · rw [u, apP_at, show op2 - 1 - (op2 - (m + 1)) = m by omega, em]
            unfold opP
            rw [if_neg o2]
          · rw [apP_lt (by omega)]
            exact d16 jj (by omega)
        · rw [← elen]
          exact wf_ap d17 ⟨fun z => absurd z nv1, fun z => absurd z nv2, fun _ _ => ⟨by omega, by unfold isOq at o1; omega⟩⟩
        · rw [← elen, dq_ap, if_neg nv1, if_neg nv2, d18]
          omega
      · obtain ⟨C3, e1, e2, e3, e4⟩ := c_addS ha s6 (nI (20000 + s))
        obtain ⟨p2, nm2, op2, un2, sg2, pc2, d1, d2, d3, d⟩ := id h
        rw [hlp C3 e1]
        obtain ⟨k'', rfl⟩ : ∃ k'', k' = k'' + 1 := ⟨k' - 1, by omega⟩
        refine ⟨j + 1 + j2, C3, L2, LP.1 k'' (i + 1) C3 _ _ (by omega) (e4 _ _ d3), by omega, hrun2, hk2.tr e3, hz2, e2, Or.inr (Or.inl (PB_up (s := s) o1 o2 (sg1 := puS sg m s) pm (fun i hi => by unfold puS; rw [if_neg (by omega)]; exact b17 i hi) ⟨p2, nm2, op2, un2, sg2, pc2, d1, d2, e4 _ _ d3, d⟩))⟩
      · obtain ⟨C3, e1, e2, e3, e4⟩ := c_addS ha s6 (nI (20000 + s))
        obtain ⟨w2, pl, d1, d2⟩ := h
        rw [hlp C3 e1]
        obtain ⟨k'', rfl⟩ : ∃ k'', k' = k'' + 1 := ⟨k' - 1, by omega⟩
        exact ⟨j + 1 + j2, C3, L2, LP.1 k'' (i + 1) C3 _ _ (by omega) (e4 _ _ d1), by omega, hrun2, hk2.tr e3, hz2, e2, Or.inr (Or.inr ⟨w2, pl, e4 _ _ d1, d2⟩)⟩
end
