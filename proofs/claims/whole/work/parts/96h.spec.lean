/-! PROVINCE: what a level of a formula does in both. -/
def dqP (pc : Nat → Nat) : Nat → Nat
  | 0 => 0
  | i + 1 => if pc i < 20000 then dqP pc i + 1 else if pc i = 20033 then dqP pc i else dqP pc i - 1
def wfP (pc : Nat → Nat) (len : Nat) : Prop := ∀ i, i < len → (pc i < 20000 → dqP pc i < 30) ∧ (pc i = 20033 → 1 ≤ dqP pc i) ∧ (20000 ≤ pc i → pc i ≠ 20033 → 2 ≤ dqP pc i ∧ pc i < 30000)
theorem dq_ext {pc pc' : Nat → Nat} : ∀ {n : Nat}, (∀ i, i < n → pc' i = pc i) → dqP pc' n = dqP pc n
  | 0, _ => rfl
  | n + 1, h => by
    unfold dqP
    rw [dq_ext (n := n) (fun i hi => h i (by omega)), h n (by omega)]
theorem wf_ext {pc pc' : Nat → Nat} {n : Nat} (h : ∀ i, i < n → pc' i = pc i) (w : wfP pc n) : wfP pc' n := fun i hi => by
  rw [h i hi, dq_ext (fun j hj => h j (by omega))]
  exact w i hi
def apP (pc : Nat → Nat) (n v : Nat) (i : Nat) : Nat := if i = n then v else pc i
theorem apP_lt {pc : Nat → Nat} {n v i : Nat} (h : i < n) : apP pc n v i = pc i := if_neg (by omega)
theorem apP_at (pc : Nat → Nat) (n v : Nat) : apP pc n v n = v := if_pos rfl
theorem wf_ap {pc : Nat → Nat} {n v : Nat} (w : wfP pc n) (h : (v < 20000 → dqP pc n < 30) ∧ (v = 20033 → 1 ≤ dqP pc n) ∧ (20000 ≤ v → v ≠ 20033 → 2 ≤ dqP pc n ∧ v < 30000)) : wfP (apP pc n v) (n + 1) := fun i hi => by
  by_cases u : i = n
  · subst u
    rw [apP_at, dq_ext (fun j hj => apP_lt hj)]
    exact h
  · rw [apP_lt (by omega), dq_ext (fun j hj => apP_lt (by omega))]
    exact w i (by omega)
theorem dq_ap (pc : Nat → Nat) (n v : Nat) : dqP (apP pc n v) (n + 1) = if v < 20000 then dqP pc n + 1 else if v = 20033 then dqP pc n else dqP pc n - 1 := by
  show (if apP pc n v n < 20000 then dqP (apP pc n v) n + 1 else if apP pc n v n = 20033 then dqP (apP pc n v) n else dqP (apP pc n v) n - 1) = _
  rw [apP_at, dq_ext (fun j hj => apP_lt hj)]
theorem mOK_ext {f nm : Nat} {pc pc' : Nat → Nat} {L : mT} (h : mOK f nm pc L) (e : ∀ i, i < nm → pc' i = pc i) : mOK f nm pc' L := fun i hi => by rw [e i hi]; exact h i hi
section
variable {T : Nat → Nat} {t f a1 U0 : Nat}
def PRE (T : Nat → Nat) (t f a1 U0 c lvb p : Nat) (C L : mT) (nm un m e x : Nat) (sg pc : Nat → Nat) : Prop :=
  p ≤ t ∧ tpC T t C ∧ tpM T t L ∧ cO T t p C ∧ mTo T t p L ∧ RS f U0 un nm m e sg L ∧ mOK f nm pc L ∧ cOK a1 nm un pc C ∧ un ≤ 30 ∧ nm + m ≤ 9 * un + 1 + e ∧ e ≤ 7 ∧ m ≤ 6 * e + c ∧ (m = 0 ∨ sg (m - 1) = 20 ∨ (tghN (sg (m - 1)) < lvb ∧ sg (m - 1) < 128)) ∧ (∀ i, i < m → sg i < 128) ∧ wfP pc nm ∧ dqP pc nm = x ∧ x ≤ un
def PL (T : Nat → Nat) (t f a1 U0 lv : Nat) (X : Nat → (Nat → Nat) → Nat → Prop) (m e x un0 p0 : Nat) (sg0 : Nat → Nat) (j : Nat) (C' L' : mT) : Prop :=
  ∃ p' nm op un sg pc, p0 < p' ∧ p' ≤ t ∧ j + p0 ≤ p' ∧ cT T t p' C' ∧ mTo T t p' L' ∧ RS f U0 un nm op (e + ntN sg m (op - m)) sg L' ∧ mOK f nm pc L' ∧ cOK a1 (nm + (op - m)) un pc C' ∧ m ≤ op ∧ op ≤ 60 ∧ un0 < un ∧ un ≤ 30 ∧ nm + op ≤ 9 * un ∧ (∀ i, i < m → sg i = sg0 i) ∧ (∀ i, m ≤ i → i < op → isOq (sg i) ∧ lv ≤ tghN (sg i)) ∧ (∀ j, j < op - m → pc (nm + j) = opP (sg (op - 1 - j))) ∧ wfP pc (nm + (op - m)) ∧ dqP pc (nm + (op - m)) = x + 1 ∧ x + 1 ≤ un ∧ X p' sg op
def PB (T : Nat → Nat) (t f U0 m e : Nat) (sg0 : Nat → Nat) (C' L' : mT) : Prop :=
  ∃ p' nm op un sg pc, p' ≤ t ∧ tkN T t p' = 4 ∧ cD 1 (tbN T t p') C' ∧ mTo T t p' L' ∧ RS f U0 un nm op (e + ntN sg m (op - m)) sg L' ∧ mOK f nm pc L' ∧ m ≤ op ∧ op ≤ 60 ∧ un ≤ 30 ∧ nm + op ≤ 280 ∧ (∀ i, i < m → sg i = sg0 i) ∧ ∀ i, m ≤ i → i < op → isOq (sg i)
def PQ (C' L' : mT) : Prop := ∃ w pl, cD w pl C' ∧ mD w pl L'
def POST (T : Nat → Nat) (t f a1 U0 lv : Nat) (X : Nat → (Nat → Nat) → Nat → Prop) (m e x un0 p0 : Nat) (sg0 : Nat → Nat) (ku : Nat) (C L : mT) (run : Option mT) : Prop :=
  ∃ j C' L', run = some C' ∧ j + p0 ≤ t + 1 ∧ (∀ k, 1 ≤ k → (bndV (fX12_unit_2 ku (1 : Int32) L) fun S => fX12_formula_50 (k + j) (1 : Int32) S) = fX12_formula_50 k (1 : Int32) L') ∧ fK a1 C C' ∧ fZ f L L' ∧ cS a1 C' ∧ (PL T t f a1 U0 lv X m e x un0 p0 sg0 j C' L' ∨ PB T t f U0 m e sg0 C' L' ∨ PQ C' L')
/-- the sign between two operands -/
def sgO (T : Nat → Nat) (t p : Nat) : Nat := if wkN T t p = cwN 10 then 38 else if wkN T t p = cwN 9 then 124 else if srN T t p = 60 ∨ srN T t p = 62 ∨ srN T t p = 61 ∨ srN T t p = 43 ∨ srN T t p = 45 ∨ srN T t p = 42 ∨ srN T t p = 47 ∨ srN T t p = 37 then srN T t p else 0
theorem m_sign (hT : ∀ k, k < t → T k < 256) {p : Nat} (hp : p ≤ t) {L : mT} (hm : mTo T t p L) : fX12_sign L = some (nI (sgO T t p), L) := by
  have w10 : fX12_isWord (6385252 : Int64) L = some (if wkN T t p = cwN 10 then 1 else 0, L) := by rw [cw_c.2.2.2.2.2.2.2.2.2.2.1]; exact m_isW hm (j := 10) (by omega) hT hp
  have w9 : fX12_isWord (28530 : Int64) L = some (if wkN T t p = cwN 9 then 1 else 0, L) := by rw [cw_c.2.2.2.2.2.2.2.2.2.1]; exact m_isW hm (j := 9) (by omega) hT hp
  obtain ⟨s1, s2, s3, s4, s5, s6, s7, s8⟩ := sr_lt hT p
  have g6 := hm.2.1
  have t1 : ¬ (1 : Int32) = 0 := by decide
  unfold sgO
  by_cases d10 : wkN T t p = cwN 10
  · rw [if_pos d10] at w10 ⊢
    simp only [fX12_sign, w10, g_t, b_d, b_c, b_v, Bool.and_true, Bool.and_self, Bool.true_and, if_neg t1]
    rfl
  rw [if_neg d10] at w10 ⊢
  by_cases d9 : wkN T t p = cwN 9
  · rw [if_pos d9] at w9 ⊢
    simp only [fX12_sign, w10, w9, g_t, b_d, b_c, b_v, Bool.and_true, Bool.and_self, Bool.true_and, if_true, if_neg t1]
    rfl
  rw [if_neg d9] at w9 ⊢
  have ne : ∀ c, c < 256 → (nI (srN T t p) = nI c ↔ srN T t p = c) := fun c hc => xEq (by omega) (by omega)
  have n60 := ne 60 (by omega)
  have n62 := ne 62 (by omega)
  have n61 := ne 61 (by omega)
  have n43 := ne 43 (by omega)
  have n45 := ne 45 (by omega)
  have n42 := ne 42 (by omega)
  have n47 := ne 47 (by omega)
  have n37 := ne 37 (by omega)
  have run : fX12_sign L = if nI (srN T t p) = nI 60 then some (nI (srN T t p), L) else if nI (srN T t p) = nI 62 then some (nI (srN T t p), L) else if nI (srN T t p) = nI 61 then some (nI (srN T t p), L) else if nI (srN T t p) = nI 43 then some (nI (srN T t p), L) else if nI (srN T t p) = nI 45 then some (nI (srN T t p), L) else if nI (srN T t p) = nI 42 then some (nI (srN T t p), L) else if nI (srN T t p) = nI 47 then some (nI (srN T t p), L) else if nI (srN T t p) = nI 37 then some (nI (srN T t p), L) else some (0, L) := by
    simp only [fX12_sign, fX12_sign_98, fX12_sign_106, w10, w9, kO_187, g_t, b_d, b_c, b_v, Bool.and_true, Bool.and_self, Bool.true_and, if_true, g6]
    rfl
  rw [run]
  by_cases e1 : srN T t p = 60
  · rw [if_pos (n60.mpr e1), if_pos (by omega)]
  rw [if_neg (fun z => e1 (n60.mp z))]
  by_cases e2 : srN T t p = 62
  · rw [if_pos (n62.mpr e2), if_pos (by omega)]
  rw [if_neg (fun z => e2 (n62.mp z))]
  by_cases e3 : srN T t p = 61
  · rw [if_pos (n61.mpr e3), if_pos (by omega)]
  rw [if_neg (fun z => e3 (n61.mp z))]
  by_cases e4 : srN T t p = 43
  · rw [if_pos (n43.mpr e4), if_pos (by omega)]
  rw [if_neg (fun z => e4 (n43.mp z))]
  by_cases e5 : srN T t p = 45
  · rw [if_pos (n45.mpr e5), if_pos (by omega)]
  rw [if_neg (fun z => e5 (n45.mp z))]
  by_cases e6 : srN T t p = 42
  · rw [if_pos (n42.mpr e6), if_pos (by omega)]
  rw [if_neg (fun z => e6 (n42.mp z))]
  by_cases e7 : srN T t p = 47
  · rw [if_pos (n47.mpr e7), if_pos (by omega)]
  rw [if_neg (fun z => e7 (n47.mp z))]
  by_cases e8 : srN T t p = 37
  · rw [if_pos (n37.mpr e8), if_pos (by omega)]
  rw [if_neg (fun z => e8 (n37.mp z)), if_neg (by omega)]
  rfl
theorem nt_ext {sg sg' : Nat → Nat} {m : Nat} : ∀ d, (∀ i, m ≤ i → i < m + d → sg' i = sg i) → ntN sg' m d = ntN sg m d
  | 0, _ => rfl
  | d + 1, h => by
    show ntN sg' m d + (if sg' (m + d) = 21 then 1 else 0) = ntN sg m d + (if sg (m + d) = 21 then 1 else 0)
    rw [nt_ext d (fun i h1 h2 => h i h1 (by omega)), h (m + d) (by omega) (by omega)]
theorem nt_hd {sg : Nat → Nat} {m : Nat} : ∀ d, ntN sg m (d + 1) = (if sg m = 21 then 1 else 0) + ntN sg (m + 1) d
  | 0 => by
    show 0 + (if sg (m + 0) = 21 then 1 else 0) = _ + 0
    rw [Nat.add_zero m]
    omega
  | d + 1 => by
    have ih := nt_hd (sg := sg) (m := m) d
    show ntN sg m (d + 1) + (if sg (m + (d + 1)) = 21 then 1 else 0) = _ + (ntN sg (m + 1) d + if sg (m + 1 + d) = 21 then 1 else 0)
    rw [ih, show m + (d + 1) = m + 1 + d by omega]
    omega
/-- an operator: what waits and binds as tight is closed, it is laid on the stack, the next operand begins -/
theorem m_opst (ht : t ≤ 1600) (hT : ∀ k, k < t → T k < 256) (hf : f < 3) (hU : U0 ≤ 60) {lv p nm op un m e : Nat} {sg pc : Nat → Nat} {L : mT} (hp : p ≤ t) (hto : tpM T t L) (h4 : tkN T t p ≠ 4) (hm : mTo T t p L) (hR : RS f U0 un nm op (e + ntN sg m (op - m)) sg L) (hO : mOK f nm pc L) (hmo : m ≤ op) (ho : op ≤ 60) (hu : un ≤ 30) (hn : nm + op ≤ 9 * un) (he : e ≤ 7) (hb : m = 0 ∨ sg (m - 1) = 20 ∨ (tghN (sg (m - 1)) < lv ∧ sg (m - 1) < 128)) (hs : ∀ i, m ≤ i → i < op → isOq (sg i) ∧ lv ≤ tghN (sg i)) (hpd : ∀ j, j < op - m → pc (nm + j) = opP (sg (op - 1 - j))) {s : Nat} (hso : sgO T t p = s) (hsq : isOq s) (ht4 : tghN s = lv) (hrel : lv = 4 → fX12_hasRelation L = some (0, L)) (h41 : srN T t p ≠ 41) : ∃ L1, (∀ k, fX12_formula_50 (k + 1) (1 : Int32) L = bndV (fX12_unit_2 mK (1 : Int32) L1) fun S => fX12_formula_50 k (1 : Int32) S) ∧ mTo T t (txN T t p) L1 ∧ RS f U0 un (nm + (op - m)) (m + 1) e (puS sg m s) L1 ∧ mOK f (nm + (op - m)) pc L1 ∧ fZ f L L1 := by
  have hs128 : s < 128 := by unfold isOq at hsq; omega
  have tr := tgh_rg s
  obtain ⟨s1, s2, _⟩ := sr_lt hT p
  obtain ⟨L2, c1, c2, c3, c4⟩ := m_close (f := f) hf (lv := lv) (e := e) (by omega) hu hU (by omega) hb (op - m) nm mK L (by have := mK_gt; omega) (by omega) (by omega) (by rw [show m + (op - m) = op by omega]; exact hR) (fun i h1 h2 => hs i h1 (by omega)) (fun j hj => by rw [show m + (op - m) - 1 - j = op - 1 - j by omega]; exact hpd j hj) hO
  have c1' : fX12_close (nI lv) L = some L2 := c1
  obtain ⟨r1, r2, r3, r4, r5, r6, r7⟩ := id c2
  obtain ⟨D, hD⟩ : ∃ D, sI (sI L2 196 m (nI s)) 187 22 (nI (m + 1)) = D := ⟨_, rfl⟩
  have fD : fZ f L D := by rw [← hD]; exact (c4.z.s6 _ _).s7 (by omega) _
  have rD : RS f U0 un (nm + (op - m)) (m + 1) e (puS sg m s) D := by
    have := m_push c2 s e
    refine RS_fr this (fun a j g => ?_)
    rw [← hD]
    by_cases w : a = 187 ∧ j = 26
    · rw [w.1, w.2, sI_eq, sI_ne (by omega), sI_ne (by omega)]
      exact r6
    · rw [sI_ne (S := sI (sI L2 196 m (nI s)) 187 22 (nI (m + 1))) w]
  have m2 : mTo T t p L2 := mTo_fr hm (fun j hj => c4.1 187 j (by omega) (by omega) (by omega) (by omega) (by omega)) c4.2.1
  have mD' : mTo T t p D := mTo_fr m2 (fun j hj => by rw [← hD, sI_ne (by omega), sI_ne (by omega)]) (by rw [← hD, sI_2, sI_2])
  obtain ⟨L1, q1, q2, q3⟩ := m_next ht hT hp (fD.tp hto) mD' h4
  refine ⟨L1, fun k => ?_, q2, RS_fr rD (fun a j g => q3.1 a j (by omega)), mOK_fr c3 (fun a j g => by rw [q3.1 a j (by omega), ← hD, sI_ne (by omega), sI_ne (by omega)]), fD.tr q3.z⟩
  have sg1 := m_sign hT hp hm
  rw [hso] at sg1
  have e2 : L.1 187 2 = 0 := hm.1
  have e41 : ¬ nI (srN T t p) = (41 : Int32) := fun z => h41 ((xEq (b := 41) (by omega) (by omega)).mp z)
  have s0 : ¬ nI s = 0 := fun z => by have := (xEq (b := 0) (by omega) (by omega)).mp z; unfold isOq at hsq; omega
  have t1 : ¬ (1 : Int32) = 0 := by decide
  have tg := m_tight hs128 L
  rw [ht4] at tg
  have o1 : nI m + (1 : Int32) = nI (m + 1) := nI_add m 1
  have e22 : (sI L2 196 m (nI s)).1 187 22 = nI m := by rw [sI_ne (by omega)]; exact r5
  have run133 : fX12_formula_133 (fX12_formula_50 k) (1 : Int32) (nI s) L = bndV (fX12_unit_2 mK (1 : Int32) L1) fun S => fX12_formula_50 k (1 : Int32) S := by
    simp (disch := omega) only [fX12_formula_133, fX12_formula_174, tg, g_t, b_d, b_c, b_v, Bool.and_true, Bool.and_self, Bool.true_and, c1', kO_187, kI_196, r5, xIx, xIn, e22, o1, hD, q1]
    rfl
  conv => lhs; unfold fX12_formula_50
  rw [if_neg t1, kO_187, Bool.and_true, g_t, if_pos e2, sg1, b_c, g_t, hm.2.1, if_neg e41]
  unfold fX12_formula_114
  rw [if_neg s0, tg, b_c]
  by_cases w : lv = 4
  · have w' : nI lv = (4 : Int32) := by rw [w]; rfl
    rw [if_pos w', hrel w, b_c, if_pos rfl, run133]
  · have w' : ¬ nI lv = (4 : Int32) := fun z => w ((xEq (b := 4) (by omega) (by omega)).mp z)
    rw [if_neg w', run133]
end
