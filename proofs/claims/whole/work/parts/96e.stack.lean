/-! PROVINCE: the reference's stack of operators. -/
def tghN (s : Nat) : Nat := if s = 124 then 1 else if s = 38 then 2 else if s = 21 then 3 else if s = 60 ∨ s = 61 ∨ s = 62 then 4 else if s = 43 ∨ s = 45 then 5 else 6
def tgI (v : Int32) : Int32 := if (21 : Int) = v.toInt then 3 else if (38 : Int) = v.toInt then 2 else if (43 : Int) = v.toInt then 5 else if (45 : Int) = v.toInt then 5 else if (60 : Int) = v.toInt then 4 else if (61 : Int) = v.toInt then 4 else if (62 : Int) = v.toInt then 4 else if (124 : Int) = v.toInt then 1 else 6
theorem tgI_n : ∀ s, s < 128 → tgI (nI s) = nI (tghN s) := by decide +kernel
theorem m_ti (v : Int32) (L : mT) : fX12_tight v L = some (tgI v, L) := by
  unfold fX12_tight tgI
  repeat' split
  all_goals rfl
theorem m_tight {s : Nat} (hs : s < 128) (L : mT) : fX12_tight (nI s) L = some (nI (tghN s), L) := by rw [m_ti, tgI_n s hs]
theorem tgh_rg (s : Nat) : 1 ≤ tghN s ∧ tghN s ≤ 6 := by
  unfold tghN
  repeat' split
  all_goals omega
/-- a law's piece as the class writes it -/
def opP (s : Nat) : Nat := if s = 21 then 20033 else 20000 + s
/-- an entry of the stack that is no bracket -/
def isOq (s : Nat) : Prop := s = 21 ∨ s = 43 ∨ s = 45 ∨ s = 42 ∨ s = 47 ∨ s = 37 ∨ s = 60 ∨ s = 62 ∨ s = 61 ∨ s = 38 ∨ s = 124
section
variable {f : Nat}
def RS (f U0 un nm op dp : Nat) (sg : Nat → Nat) (L : mT) : Prop := L.1 187 21 = nI f ∧ L.1 187 25 = nI un ∧ L.1 187 23 = nI (U0 + un) ∧ L.1 192 f = nI nm ∧ L.1 187 22 = nI op ∧ L.1 187 26 = nI dp ∧ ∀ i, i < op → L.1 196 i = nI (sg i)
def mOK (f nm : Nat) (pc : Nat → Nat) (L : mT) : Prop := ∀ i, i < nm → pcOk (nI (pc i)) (L.1 190 (320 * f + i)) (L.1 191 (320 * f + i))
/-- the token's cells, and all that a formula doesn't touch -/
def fF2 (L L' : mT) : Prop := (∀ a j, a ≠ 190 → a ≠ 191 → a ≠ 192 → a ≠ 196 → ¬ (a = 187 ∧ (j = 22 ∨ j = 23 ∨ j = 25 ∨ j = 26)) → L'.1 a j = L.1 a j) ∧ L'.2 = L.2 ∧ (∀ g i, g ≠ f → i < 320 → f < 3 → g < 3 → L'.1 190 (320 * g + i) = L.1 190 (320 * g + i) ∧ L'.1 191 (320 * g + i) = L.1 191 (320 * g + i)) ∧ ∀ g, g ≠ f → L'.1 192 g = L.1 192 g
theorem fF2.rf (L : mT) : fF2 (f := f) L L := ⟨fun _ _ _ _ _ _ _ => rfl, rfl, fun _ _ _ _ _ _ => ⟨rfl, rfl⟩, fun _ _ => rfl⟩
theorem fF2.tr {C D E : mT} (h : fF2 (f := f) C D) (h2 : fF2 (f := f) D E) : fF2 (f := f) C E := ⟨fun a j g1 g2 g3 g4 g5 => (h2.1 a j g1 g2 g3 g4 g5).trans (h.1 a j g1 g2 g3 g4 g5), h2.2.1.trans h.2.1, fun g i g1 g2 g3 g4 => ⟨(h2.2.2.1 g i g1 g2 g3 g4).1.trans (h.2.2.1 g i g1 g2 g3 g4).1, (h2.2.2.1 g i g1 g2 g3 g4).2.trans (h.2.2.1 g i g1 g2 g3 g4).2⟩, fun g g1 => (h2.2.2.2 g g1).trans (h.2.2.2 g g1)⟩
theorem m_add (hf : f < 3) {nm : Nat} (hn : nm < 320) {L : mT} (e21 : L.1 187 21 = nI f) (e : L.1 192 f = nI nm) (v1 v2 : Int32) : ∃ L', fX12_add v1 v2 L = some L' ∧ L'.1 190 (320 * f + nm) = v1 ∧ L'.1 191 (320 * f + nm) = v2 ∧ L'.1 192 f = nI (nm + 1) ∧ (∀ j, j ≠ 320 * f + nm → L'.1 190 j = L.1 190 j ∧ L'.1 191 j = L.1 191 j) ∧ (∀ a j, a ≠ 190 → a ≠ 191 → ¬ (a = 192 ∧ j = f) → L'.1 a j = L.1 a j) ∧ L'.2 = L.2 := by
  have o1 : (320 : Int32) * nI f + nI nm = nI (320 * f + nm) := by rw [show (320 : Int32) = nI 320 from rfl, xM, nI_add]
  have o2 : nI nm + (1 : Int32) = nI (nm + 1) := nI_add nm 1
  refine ⟨sI (sI (sI L 190 (320 * f + nm) v1) 191 (320 * f + nm) v2) 192 f (nI (nm + 1)), ?_, by rw [sI_ne (by omega), sI_ne (by omega), sI_eq], by rw [sI_ne (by omega), sI_eq], by rw [sI_eq], fun j hj => ⟨by rw [sI_ne (by omega), sI_ne (by omega), sI_ne (by omega)], by rw [sI_ne (by omega), sI_ne (by omega), sI_ne (by omega)]⟩, fun a j g1 g2 g3 => by rw [sI_ne g3, sI_ne (by omega), sI_ne (by omega)], by rw [sI_2, sI_2, sI_2]⟩
  have a1 : ∀ x, (sI L 190 (320 * f + nm) x).1 187 21 = nI f := fun x => by rw [sI_ne (by omega)]; exact e21
  have a2 : ∀ x, (sI L 190 (320 * f + nm) x).1 192 f = nI nm := fun x => by rw [sI_ne (by omega)]; exact e
  have a3 : ∀ x y, (sI (sI L 190 (320 * f + nm) x) 191 (320 * f + nm) y).1 187 21 = nI f := fun x y => by rw [sI_ne (by omega)]; exact a1 x
  have a4 : ∀ x y, (sI (sI L 190 (320 * f + nm) x) 191 (320 * f + nm) y).1 192 f = nI nm := fun x y => by rw [sI_ne (by omega)]; exact a2 x
  unfold fX12_add
  simp (disch := omega) only [kO_187, kI_190, kI_191, kI_192, g_t, b_d, b_c, b_v, Bool.and_true, Bool.and_self, Bool.true_and, e21, e, xIx, xIn, o1, a1, a2, a3, a4, o2]
/-- how many of the entries are nots -/
def ntN (sg : Nat → Nat) (m : Nat) : Nat → Nat
  | 0 => 0
  | d + 1 => ntN sg m d + if sg (m + d) = 21 then 1 else 0
theorem m_close (hf : f < 3) {U0 un m lv e : Nat} {sg pc : Nat → Nat} (hlv : lv ≤ 7) (hu : un ≤ 30) (hU : U0 ≤ 60) (he : e ≤ 1000) (hb : m = 0 ∨ sg (m - 1) = 20 ∨ (tghN (sg (m - 1)) < lv ∧ sg (m - 1) < 128)) : ∀ (d nm k : Nat) (L : mT), d < k → nm + d ≤ 310 → m + d ≤ 150 → RS f U0 un nm (m + d) (e + ntN sg m d) sg L → (∀ i, m ≤ i → i < m + d → isOq (sg i) ∧ lv ≤ tghN (sg i)) → (∀ j, j < d → pc (nm + j) = opP (sg (m + d - 1 - j))) → mOK f nm pc L → ∃ L', fX12_close_0 k (nI lv) L = some L' ∧ RS f U0 un (nm + d) m e sg L' ∧ mOK f (nm + d) pc L' ∧ fF2 (f := f) L L'
  | 0, nm, k, L, hk, hn, hm, hR, hp, hc, hO => by
    obtain ⟨k', rfl⟩ := up1 hk
    obtain ⟨r1, r2, r3, r4, r5, r6, r7⟩ := id hR
    rw [Nat.add_zero] at r5 r7
    have e6 : L.1 187 26 = nI e := r6
    refine ⟨L, ?_, ⟨r1, r2, r3, r4, r5, e6, r7⟩, hO, fF2.rf L⟩
    by_cases c : m = 0
    · have c' : nI m ≤ 0 := by rw [c]; decide
      simp only [fX12_close_0, fX12_close_101, kO_187, g_t, b_d, b_c, b_v, Bool.and_true, Bool.and_self, Bool.true_and, r5, if_pos c']
    · have c' : ¬ nI m ≤ 0 := fun z => by have := (xLe (b := 0) (by omega) (by omega)).mp z; omega
      have om : nI m - (1 : Int32) = nI (m - 1) := xS (a := m) (b := 1) (by omega)
      have es := r7 (m - 1) (by omega)
      rcases hb with u | u | ⟨u, u2⟩
      · exact absurd u c
      · have u' : nI (sg (m - 1)) = (20 : Int32) := by rw [u]; rfl
        simp (disch := omega) only [fX12_close_0, fX12_close_101, kO_187, kI_196, g_t, b_d, b_c, b_v, Bool.and_true, Bool.and_self, Bool.true_and, r5, if_neg c', om, xIx, xIn, es, if_pos u']
      · by_cases v : sg (m - 1) = 20
        · have u' : nI (sg (m - 1)) = (20 : Int32) := by rw [v]; rfl
          simp (disch := omega) only [fX12_close_0, fX12_close_101, kO_187, kI_196, g_t, b_d, b_c, b_v, Bool.and_true, Bool.and_self, Bool.true_and, r5, if_neg c', om, xIx, xIn, es, if_pos u']
        · have u' : ¬ nI (sg (m - 1)) = (20 : Int32) := fun z => v ((xEq (b := 20) (by omega) (by omega)).mp z)
          have tr := tgh_rg (sg (m - 1))
          have u3 : nI (tghN (sg (m - 1))) < nI lv := (xLt (by omega) (by omega)).mpr u
          simp (disch := omega) only [fX12_close_0, fX12_close_101, kO_187, kI_196, g_t, b_d, b_c, b_v, Bool.and_true, Bool.and_self, Bool.true_and, r5, if_neg c', om, xIx, xIn, es, if_neg u', m_tight u2, if_pos u3]
  | d + 1, nm, k, L, hk, hn, hm, hR, hp, hc, hO => by
    obtain ⟨k', rfl⟩ := up1 hk
    obtain ⟨r1, r2, r3, r4, r5, r6, r7⟩ := id hR
    obtain ⟨p1, p2⟩ := hp (m + d) (by omega) (by omega)
    have hs : sg (m + d) < 128 := by unfold isOq at p1; omega
    have hs20 : sg (m + d) ≠ 20 := by unfold isOq at p1; omega
    have es := r7 (m + d) (by omega)
    have c' : ¬ nI (m + (d + 1)) ≤ 0 := fun z => by have := (xLe (b := 0) (by omega) (by omega)).mp z; omega
    have om : nI (m + (d + 1)) - (1 : Int32) = nI (m + d) := xS (a := m + (d + 1)) (b := 1) (by omega)
    have u' : ¬ nI (sg (m + d)) = (20 : Int32) := fun z => hs20 ((xEq (b := 20) (by omega) (by omega)).mp z)
    have tr := tgh_rg (sg (m + d))
    have u3 : ¬ nI (tghN (sg (m + d))) < nI lv := fun z => by have := (xLt (by omega) (by omega)).mp z; omega
    have k22 : (sI L 187 22 (nI (m + d))).1 187 22 = nI (m + d) := by rw [sI_eq]
    have k196 : (sI L 187 22 (nI (m + d))).1 196 (m + d) = nI (sg (m + d)) := by rw [sI_ne (by omega)]; exact es
    have hpc0 : pc nm = opP (sg (m + d)) := by
      have := hc 0 (by omega)
      rw [Nat.add_zero, show m + (d + 1) - 1 - 0 = m + d by omega] at this
      exact this
    have nx : ∀ L1 : mT, RS f U0 un (nm + 1) (m + d) (e + ntN sg m d) sg L1 → mOK f (nm + 1) pc L1 → fF2 (f := f) L L1 → ∃ L', fX12_close_0 k' (nI lv) L1 = some L' ∧ RS f U0 un (nm + (d + 1)) m e sg L' ∧ mOK f (nm + (d + 1)) pc L' ∧ fF2 (f := f) L L' := fun L1 h1 h2 h3 => by
      obtain ⟨L', q1, q2, q3, q4⟩ := m_close hf hlv hu hU he hb d (nm + 1) k' L1 (by omega) (by omega) (by omega) h1 (fun i g1 g2 => hp i g1 (by omega)) (fun j hj => by
        have := hc (j + 1) (by omega)
        rw [show nm + (j + 1) = nm + 1 + j by omega, show m + (d + 1) - 1 - (j + 1) = m + d - 1 - j by omega] at this
        exact this) h2
      rw [show nm + 1 + d = nm + (d + 1) by omega] at q2 q3
      exact ⟨L', q1, q2, q3, h3.tr q4⟩
    by_cases n21 : sg (m + d) = 21
    · have n21' : nI (sg (m + d)) = (21 : Int32) := by rw [n21]; rfl
      obtain ⟨L1, a1, a2, a3, a4, a5, a6, a7⟩ := m_add hf (nm := nm) (by omega) (L := sI L 187 22 (nI (m + d))) (by rw [sI_ne (by omega)]; exact r1) (by rw [sI_ne (by omega)]; exact r4) (2 : Int32) (0 : Int32)
      have e26 : L1.1 187 26 = nI (e + ntN sg m (d + 1)) := by rw [a6 _ _ (by omega) (by omega) (by omega), sI_ne (by omega)]; exact r6
      have et : e + ntN sg m (d + 1) = e + ntN sg m d + 1 := by
        show e + (ntN sg m d + if sg (m + d) = 21 then 1 else 0) = _
        rw [if_pos n21]
        omega
      rw [et] at e26
      have hnt : ∀ x, ntN sg m x ≤ x := fun x => by
        induction x with
        | zero => exact Nat.le_refl _
        | succ x ih =>
          show ntN sg m x + (if sg (m + x) = 21 then 1 else 0) ≤ _
          split <;> omega
      have o26 : nI (e + ntN sg m d + 1) - (1 : Int32) = nI (e + ntN sg m d) := xS (a := e + ntN sg m d + 1) (b := 1) (by omega)
      have fr : ∀ a j, a ≠ 190 → a ≠ 191 → a ≠ 192 → ¬ (a = 187 ∧ (j = 22 ∨ j = 26)) → (sI L1 187 26 (nI (e + ntN sg m d))).1 a j = L.1 a j := fun a j g1 g2 g3 g4 => by rw [sI_ne (by omega), a6 a j g1 g2 (by omega), sI_ne (by omega)]
      obtain ⟨L', q1, q2⟩ := nx (sI L1 187 26 (nI (e + ntN sg m d))) ⟨by rw [fr _ _ (by omega) (by omega) (by omega) (by omega)]; exact r1, by rw [fr _ _ (by omega) (by omega) (by omega) (by omega)]; exact r2, by rw [fr _ _ (by omega) (by omega) (by omega) (by omega)]; exact r3, by rw [sI_ne (by omega)]; exact a4, by rw [sI_ne (by omega), a6 _ _ (by omega) (by omega) (by omega), sI_eq], by rw [sI_eq], fun i hi => by rw [fr _ _ (by omega) (by omega) (by omega) (by omega)]; exact r7 i (by omega)⟩ (fun i hi => by
        rw [sI_ne (by omega), sI_ne (by omega)]
        by_cases w : i = nm
        · rw [w, a2, a3, hpc0, n21]
          exact Or.inr (Or.inr (Or.inl ⟨rfl, rfl⟩))
        · rw [(a5 _ (by omega)).1, (a5 _ (by omega)).2, sI_ne (by omega), sI_ne (by omega)]
          exact hO i (by omega)) ⟨fun a j g1 g2 g3 g4 g5 => fr a j g1 g2 g3 (by omega), by rw [sI_2, a7, sI_2], fun g i g1 g2 g3 g4 => ⟨by rw [sI_ne (by omega), (a5 _ (by omega)).1, sI_ne (by omega)], by rw [sI_ne (by omega), (a5 _ (by omega)).2, sI_ne (by omega)]⟩, fun g g1 => by rw [sI_ne (by omega), a6 _ _ (by omega) (by omega) (by omega), sI_ne (by omega)]⟩
      refine ⟨L', ?_, q2⟩
      rw [← q1]
      simp (disch := omega) only [fX12_close_0, kO_187, kI_196, g_t, b_d, b_c, b_v, Bool.and_true, Bool.and_self, Bool.true_and, r5, if_neg c', om, xIx, xIn, es, if_neg u', m_tight hs, if_neg u3, k22, k196, if_pos n21', a1, e26, o26]
    · have n21' : ¬ nI (sg (m + d)) = (21 : Int32) := fun z => n21 ((xEq (b := 21) (by omega) (by omega)).mp z)
      obtain ⟨L1, a1, a2, a3, a4, a5, a6, a7⟩ := m_add hf (nm := nm) (by omega) (L := sI L 187 22 (nI (m + d))) (by rw [sI_ne (by omega)]; exact r1) (by rw [sI_ne (by omega)]; exact r4) (3 : Int32) (nI (sg (m + d)))
      have et : ntN sg m (d + 1) = ntN sg m d := by
        show (ntN sg m d + if sg (m + d) = 21 then 1 else 0) = _
        rw [if_neg n21]
        rfl
      have fr : ∀ a j, a ≠ 190 → a ≠ 191 → a ≠ 192 → ¬ (a = 187 ∧ j = 22) → L1.1 a j = L.1 a j := fun a j g1 g2 g3 g4 => by rw [a6 a j g1 g2 (by omega), sI_ne (by omega)]
      rw [et] at r6
      obtain ⟨L', q1, q2⟩ := nx L1 ⟨by rw [fr _ _ (by omega) (by omega) (by omega) (by omega)]; exact r1, by rw [fr _ _ (by omega) (by omega) (by omega) (by omega)]; exact r2, by rw [fr _ _ (by omega) (by omega) (by omega) (by omega)]; exact r3, a4, by rw [a6 _ _ (by omega) (by omega) (by omega), sI_eq], by rw [fr _ _ (by omega) (by omega) (by omega) (by omega)]; exact r6, fun i hi => by rw [fr _ _ (by omega) (by omega) (by omega) (by omega)]; exact r7 i (by omega)⟩ (fun i hi => by
        by_cases w : i = nm
        · rw [w, a2, a3, hpc0]
          unfold isOq at p1
          exact Or.inr (Or.inr (Or.inr ⟨rfl, sg (m + d), by omega, rfl, by unfold opP; rw [if_neg n21]⟩))
        · rw [(a5 _ (by omega)).1, (a5 _ (by omega)).2, sI_ne (by omega), sI_ne (by omega)]
          exact hO i (by omega)) ⟨fun a j g1 g2 g3 g4 g5 => fr a j g1 g2 g3 (by omega), by rw [a7, sI_2], fun g i g1 g2 g3 g4 => ⟨by rw [(a5 _ (by omega)).1, sI_ne (by omega)], by rw [(a5 _ (by omega)).2, sI_ne (by omega)]⟩, fun g g1 => by rw [a6 _ _ (by omega) (by omega) (by omega), sI_ne (by omega)]⟩
      refine ⟨L', ?_, q2⟩
      rw [← q1]
      simp (disch := omega) only [fX12_close_0, kO_187, kI_196, g_t, b_d, b_c, b_v, Bool.and_true, Bool.and_self, Bool.true_and, r5, if_neg c', om, xIx, xIn, es, if_neg u', m_tight hs, if_neg u3, k22, k196, if_neg n21', a1]
theorem m_hb {U0 un nm op dp : Nat} {sg : Nat → Nat} {L : mT} (h : RS f U0 un nm op dp sg L) (ho : op ≤ 150) (hs : ∀ i, i < op → sg i < 128) : ∀ (m i k : Nat) (v : Int32), i + m = op → m < k → ((v = 1 ∧ ∃ j, j < i ∧ sg j = 20) ∨ (v = 0 ∧ ∀ j, j < i → sg j ≠ 20)) → ∃ r, fX12_hasBracket_4 k v (nI i) L = some (r, L) ∧ ((r = 1 ∧ ∃ j, j < op ∧ sg j = 20) ∨ (r = 0 ∧ ∀ j, j < op → sg j ≠ 20))
  | 0, i, k, v, hi, hk, hv => by
    obtain ⟨k', rfl⟩ := up1 hk
    have hi : i = op := by omega
    subst hi
    have c : nI i ≤ nI i := Int32.le_refl _
    have e := h.2.2.2.2.1
    rcases hv with ⟨e1, e2⟩ | ⟨e1, e2⟩
    · subst e1
      exact ⟨1, by simp only [fX12_hasBracket_4, kO_187, g_t, b_d, b_c, b_v, Bool.and_true, Bool.and_self, Bool.true_and, e, if_pos c, fb1], Or.inl ⟨rfl, e2⟩⟩
    · subst e1
      exact ⟨0, by simp only [fX12_hasBracket_4, kO_187, g_t, b_d, b_c, b_v, Bool.and_true, Bool.and_self, Bool.true_and, e, if_pos c, fb0], Or.inr ⟨rfl, e2⟩⟩
  | m + 1, i, k, v, hi, hk, hv => by
    obtain ⟨k', rfl⟩ := up1 hk
    have c : ¬ nI op ≤ nI i := fun y => by have := (xLe (by omega) (by omega)).mp y; omega
    have e := h.2.2.2.2.1
    have es := h.2.2.2.2.2.2 i (by omega)
    have hsi := hs i (by omega)
    have o1 : nI i + (1 : Int32) = nI (i + 1) := nI_add i 1
    have t1 : ¬ (1 : Int32) = 0 := by decide
    rcases hv with ⟨e1, j, e2, e3⟩ | ⟨e1, e2⟩
    · subst e1
      obtain ⟨r, r1, r2⟩ := m_hb h ho hs m (i + 1) k' 1 (by omega) (by omega) (Or.inl ⟨rfl, j, by omega, e3⟩)
      refine ⟨r, ?_, r2⟩
      rw [← r1]
      simp only [fX12_hasBracket_4, fX12_hasBracket_27, fX12_hasBracket_32, kO_187, g_t, b_d, b_c, b_v, Bool.and_true, Bool.and_self, Bool.true_and, e, if_neg c, if_neg t1, o1]
    · subst e1
      by_cases d : sg i = 20
      · have d' : nI (sg i) = (20 : Int32) := by rw [d]; rfl
        obtain ⟨r, r1, r2⟩ := m_hb h ho hs m (i + 1) k' 1 (by omega) (by omega) (Or.inl ⟨rfl, i, by omega, d⟩)
        refine ⟨r, ?_, r2⟩
        rw [← r1]
        simp (disch := omega) only [fX12_hasBracket_4, fX12_hasBracket_27, fX12_hasBracket_32, kO_187, kI_196, g_t, b_d, b_c, b_v, Bool.and_true, Bool.and_self, Bool.true_and, e, if_neg c, if_true, xIx, xIn, es, if_pos d', o1]
      · have d' : ¬ nI (sg i) = (20 : Int32) := fun z => d ((xEq (b := 20) (by omega) (by omega)).mp z)
        obtain ⟨r, r1, r2⟩ := m_hb h ho hs m (i + 1) k' 0 (by omega) (by omega) (Or.inr ⟨rfl, fun j hj => by
          by_cases w : j = i
          · rw [w]
            exact d
          · exact e2 j (by omega)⟩)
        refine ⟨r, ?_, r2⟩
        rw [← r1]
        simp (disch := omega) only [fX12_hasBracket_4, fX12_hasBracket_32, kO_187, kI_196, g_t, b_d, b_c, b_v, Bool.and_true, Bool.and_self, Bool.true_and, e, if_neg c, if_true, xIx, xIn, es, if_neg d', o1]
/-- a relation waits: above it only what binds tighter -/
def hrN (sg : Nat → Nat) (op : Nat) : Prop := ∃ i, i < op ∧ sg i ≠ 20 ∧ tghN (sg i) = 4 ∧ ∀ j, i < j → j < op → sg j ≠ 20 ∧ 5 ≤ tghN (sg j)
def noR (sg : Nat → Nat) (m op : Nat) : Prop := m ≤ op ∧ (m = 0 ∨ sg (m - 1) = 20 ∨ tghN (sg (m - 1)) < 4) ∧ ∀ j, m ≤ j → j < op → sg j ≠ 20 ∧ 5 ≤ tghN (sg j)
theorem m_hr1 {U0 un nm op dp : Nat} {sg : Nat → Nat} {L : mT} (h : RS f U0 un nm op dp sg L) (ho : op ≤ 150) (hs : ∀ i, i < op → sg i < 128) {i : Nat} (hi : i < op) (h20 : sg i ≠ 20) (h4 : tghN (sg i) = 4) : ∀ (d k : Nat), d < k → i + d < op → (∀ j, i < j → j ≤ i + d → sg j ≠ 20 ∧ 5 ≤ tghN (sg j)) → fX12_hasRelation_7 k (nI (i + d)) L = some (1, L)
  | 0, k, hk, hid, hj => by
    obtain ⟨k', rfl⟩ := up1 hk
    show fX12_hasRelation_7 (k' + 1) (nI i) L = _
    have c : ¬ nI i < 0 := nI_pos (by omega)
    have es := h.2.2.2.2.2.2 i hi
    have hsi := hs i hi
    have d' : ¬ nI (sg i) = (20 : Int32) := fun z => h20 ((xEq (b := 20) (by omega) (by omega)).mp z)
    have c4 : nI (tghN (sg i)) ≤ (4 : Int32) := by rw [h4]; decide
    have c5 : nI (tghN (sg i)) = (4 : Int32) := by rw [h4]; rfl
    simp (disch := omega) only [fX12_hasRelation_7, fX12_hasRelation_41, fX12_hasRelation_74, if_neg c, kO_187, kI_196, g_t, b_d, b_c, b_v, Bool.and_true, Bool.and_self, Bool.true_and, xIx, xIn, es, if_neg d', m_tight hsi, if_pos c4, if_pos c5, fb1]
  | d + 1, k, hk, hid, hj => by
    obtain ⟨k', rfl⟩ := up1 hk
    have c : ¬ nI (i + (d + 1)) < 0 := nI_pos (by omega)
    have es := h.2.2.2.2.2.2 (i + (d + 1)) hid
    have hsi := hs (i + (d + 1)) hid
    obtain ⟨q1, q2⟩ := hj (i + (d + 1)) (by omega) (by omega)
    have d' : ¬ nI (sg (i + (d + 1))) = (20 : Int32) := fun z => q1 ((xEq (b := 20) (by omega) (by omega)).mp z)
    have tr := tgh_rg (sg (i + (d + 1)))
    have c4 : ¬ nI (tghN (sg (i + (d + 1)))) ≤ (4 : Int32) := fun z => by have := (xLe (b := 4) (by omega) (by omega)).mp z; omega
    have om : nI (i + (d + 1)) + (-1 : Int32) = nI (i + d) := xP (a := i + (d + 1)) (by omega)
    rw [← m_hr1 h ho hs hi h20 h4 d k' (by omega) (by omega) (fun j g1 g2 => hj j g1 (by omega))]
    simp (disch := omega) only [fX12_hasRelation_7, if_neg c, kO_187, kI_196, g_t, b_d, b_c, b_v, Bool.and_true, Bool.and_self, Bool.true_and, xIx, xIn, es, if_neg d', m_tight hsi, if_neg c4, om]
theorem m_hr0 {U0 un nm op dp m : Nat} {sg : Nat → Nat} {L : mT} (h : RS f U0 un nm op dp sg L) (ho : op ≤ 150) (hs : ∀ i, i < op → sg i < 128) (hb : m = 0 ∨ sg (m - 1) = 20 ∨ tghN (sg (m - 1)) < 4) : ∀ (d k : Nat), d < k → m + d ≤ op → (∀ j, m ≤ j → j < m + d → sg j ≠ 20 ∧ 5 ≤ tghN (sg j)) → fX12_hasRelation_7 k (nI (m + d) - (1 : Int32)) L = some (0, L)
  | 0, k, hk, hid, hj => by
    obtain ⟨k', rfl⟩ := up1 hk
    show fX12_hasRelation_7 (k' + 1) (nI m - (1 : Int32)) L = _
    by_cases m0 : m = 0
    · have c : nI m - (1 : Int32) < 0 := by rw [m0]; decide
      simp only [fX12_hasRelation_7, fX12_hasRelation_41, fX12_hasRelation_73, fX12_hasRelation_74, if_pos c, fb0, g_t, b_d, b_c, b_v, Bool.and_true, Bool.and_self, Bool.true_and]
    · have om : nI m - (1 : Int32) = nI (m - 1) := xS (a := m) (b := 1) (by omega)
      have c : ¬ nI (m - 1) < 0 := nI_pos (by omega)
      have es := h.2.2.2.2.2.2 (m - 1) (by omega)
      have hsi := hs (m - 1) (by omega)
      rw [om]
      by_cases d : sg (m - 1) = 20
      · have d' : nI (sg (m - 1)) = (20 : Int32) := by rw [d]; rfl
        simp (disch := omega) only [fX12_hasRelation_7, fX12_hasRelation_41, fX12_hasRelation_73, fX12_hasRelation_74, if_neg c, kO_187, kI_196, g_t, b_d, b_c, b_v, Bool.and_true, Bool.and_self, Bool.true_and, xIx, xIn, es, if_pos d', fb0]
      · have d' : ¬ nI (sg (m - 1)) = (20 : Int32) := fun z => d ((xEq (b := 20) (by omega) (by omega)).mp z)
        have u : tghN (sg (m - 1)) < 4 := by
          rcases hb with u | u | u
          · exact absurd u m0
          · exact absurd u d
          · exact u
        have c4 : nI (tghN (sg (m - 1))) ≤ (4 : Int32) := (xLe (b := 4) (by omega) (by omega)).mpr (by omega)
        have c5 : ¬ nI (tghN (sg (m - 1))) = (4 : Int32) := fun z => by have := (xEq (b := 4) (by omega) (by omega)).mp z; omega
        simp (disch := omega) only [fX12_hasRelation_7, fX12_hasRelation_41, fX12_hasRelation_73, fX12_hasRelation_74, if_neg c, kO_187, kI_196, g_t, b_d, b_c, b_v, Bool.and_true, Bool.and_self, Bool.true_and, xIx, xIn, es, if_neg d', m_tight hsi, if_pos c4, if_neg c5, fb0]
  | d + 1, k, hk, hid, hj => by
    obtain ⟨k', rfl⟩ := up1 hk
    have o0 : nI (m + (d + 1)) - (1 : Int32) = nI (m + d) := xS (a := m + (d + 1)) (b := 1) (by omega)
    have o1 : nI (m + d) + (-1 : Int32) = nI (m + d) - (1 : Int32) := (Int32.sub_eq_add_neg _ _).symm
    have c : ¬ nI (m + d) < 0 := nI_pos (by omega)
    have es := h.2.2.2.2.2.2 (m + d) (by omega)
    have hsi := hs (m + d) (by omega)
    obtain ⟨q1, q2⟩ := hj (m + d) (by omega) (by omega)
    have d' : ¬ nI (sg (m + d)) = (20 : Int32) := fun z => q1 ((xEq (b := 20) (by omega) (by omega)).mp z)
    have tr := tgh_rg (sg (m + d))
    have c4 : ¬ nI (tghN (sg (m + d))) ≤ (4 : Int32) := fun z => by have := (xLe (b := 4) (by omega) (by omega)).mp z; omega
    rw [o0, ← m_hr0 h ho hs hb d k' (by omega) (by omega) (fun j g1 g2 => hj j g1 (by omega)), ← o1]
    conv => lhs; unfold fX12_hasRelation_7
    simp (disch := omega) only [if_neg c, kO_187, kI_196, g_t, b_d, b_c, b_v, Bool.and_true, Bool.and_self, Bool.true_and, xIx, xIn, es, if_neg d', m_tight hsi, if_neg c4]
end
