/-! PROVINCE: the reference's units. -/
section
variable {T : Nat → Nat} {t : Nat} {f : Nat}
theorem RS_fr {U0 un nm op dp : Nat} {sg : Nat → Nat} {L L' : mT} (h : RS f U0 un nm op dp sg L) (e : ∀ a j, (a = 187 ∧ (j = 21 ∨ j = 22 ∨ j = 23 ∨ j = 25 ∨ j = 26)) ∨ a = 192 ∨ a = 196 → L'.1 a j = L.1 a j) : RS f U0 un nm op dp sg L' := by
  obtain ⟨r1, r2, r3, r4, r5, r6, r7⟩ := h
  exact ⟨by rw [e _ _ (by omega)]; exact r1, by rw [e _ _ (by omega)]; exact r2, by rw [e _ _ (by omega)]; exact r3, by rw [e _ _ (by omega)]; exact r4, by rw [e _ _ (by omega)]; exact r5, by rw [e _ _ (by omega)]; exact r6, fun i hi => by rw [e _ _ (by omega)]; exact r7 i hi⟩
theorem mOK_fr {nm : Nat} {pc : Nat → Nat} {L L' : mT} (h : mOK f nm pc L) (e : ∀ a j, a = 190 ∨ a = 191 → L'.1 a j = L.1 a j) : mOK f nm pc L' := fun i hi => by rw [e _ _ (by omega), e _ _ (by omega)]; exact h i hi
theorem mTo_fr {p : Nat} {L L' : mT} (h : mTo T t p L) (e : ∀ j, j = 2 ∨ j = 4 ∨ j = 6 ∨ j = 7 ∨ j = 8 → L'.1 187 j = L.1 187 j) (e2 : L'.2 = L.2) : mTo T t p L' := by
  obtain ⟨r1, r2, r3, r4, r5, r6⟩ := h
  exact ⟨by rw [e _ (by omega)]; exact r1, by rw [e _ (by omega)]; exact r2, by rw [e _ (by omega)]; exact r3, fun z => by rw [e _ (by omega)]; exact r4 z, fun z => by rw [e2]; exact r5 z, fun z => by rw [e _ (by omega)]; exact r6 z⟩
theorem m_next (ht : t ≤ 1600) (hT : ∀ k, k < t → T k < 256) {p : Nat} (hp : p ≤ t) {L : mT} (h : tpM T t L) (hm : mTo T t p L) (h4 : tkN T t p ≠ 4) : ∃ L', fX12_token L = some L' ∧ mTo T t (txN T t p) L' ∧ fQ L L' := m_tok ht hT (tx_le hp).2.1 h hm.1 (hm.2.2.2.1 h4)
theorem c_next (ht : t ≤ 1600) (hT : ∀ k, k < t → T k < 256) {p : Nat} (hp : p ≤ t) {C : mT} (h : tpC T t C) (hm : cT T t p C) : ∃ C', fX4_advance C = some C' ∧ cO T t (txN T t p) C' ∧ fR C C' := c_adv ht hT (tx_le hp).2.1 h hm.1 hm.2.2.2.2.1
def puS (sg : Nat → Nat) (op s : Nat) (i : Nat) : Nat := if i = op then s else sg i
/-- an entry is laid on the stack -/
theorem m_push {U0 un nm op dp : Nat} {sg : Nat → Nat} {L : mT} (h : RS f U0 un nm op dp sg L) (s dp' : Nat) : RS f U0 un nm (op + 1) dp' (puS sg op s) (sI (sI (sI L 196 op (nI s)) 187 22 (nI (op + 1))) 187 26 (nI dp')) := by
  obtain ⟨r1, r2, r3, r4, r5, r6, r7⟩ := h
  refine ⟨by rw [sI_ne (by omega), sI_ne (by omega), sI_ne (by omega)]; exact r1, by rw [sI_ne (by omega), sI_ne (by omega), sI_ne (by omega)]; exact r2, by rw [sI_ne (by omega), sI_ne (by omega), sI_ne (by omega)]; exact r3, by rw [sI_ne (by omega), sI_ne (by omega), sI_ne (by omega)]; exact r4, by rw [sI_ne (by omega), sI_eq], by rw [sI_eq], fun i hi => ?_⟩
  rw [sI_ne (by omega), sI_ne (by omega)]
  unfold puS
  by_cases u : i = op
  · subst u
    rw [if_pos rfl, sI_eq]
  · rw [if_neg u, sI_ne (by omega)]
    exact r7 i (by omega)
theorem m_open (ht : t ≤ 1600) (hT : ∀ k, k < t → T k < 256) {p : Nat} (hp : p ≤ t) {U0 un nm op dp : Nat} {sg : Nat → Nat} {L : mT} (hto : tpM T t L) (hm : mTo T t p L) (h4 : tkN T t p ≠ 4) (h : RS f U0 un nm op dp sg L) (ho : op < 150) (s : Nat) : ∃ L', fX12_openUp (nI s) L = some L' ∧ mTo T t (txN T t p) L' ∧ RS f U0 un nm (op + 1) (dp + 1) (puS sg op s) L' ∧ (∀ a j, a = 190 ∨ a = 191 → L'.1 a j = L.1 a j) ∧ fZ f L L' := by
  obtain ⟨r1, r2, r3, r4, r5, r6, r7⟩ := id h
  have o1 : nI op + (1 : Int32) = nI (op + 1) := nI_add op 1
  have o2 : nI dp + (1 : Int32) = nI (dp + 1) := nI_add dp 1
  have e22 : ∀ v, (sI L 196 op v).1 187 22 = nI op := fun v => by rw [sI_ne (by omega)]; exact r5
  have e26 : ∀ v w, (sI (sI L 196 op v) 187 22 w).1 187 26 = nI dp := fun v w => by rw [sI_ne (by omega), sI_ne (by omega)]; exact r6
  obtain ⟨D, hD⟩ : ∃ D, sI (sI (sI L 196 op (nI s)) 187 22 (nI (op + 1))) 187 26 (nI (dp + 1)) = D := ⟨_, rfl⟩
  have fD : fZ f L D := by rw [← hD]; exact (((fZ.rf f L).s6 _ _).s7 (by omega) _).s7 (by omega) _
  have rD : RS f U0 un nm (op + 1) (dp + 1) (puS sg op s) D := by rw [← hD]; exact m_push h s _
  have mD' : mTo T t p D := mTo_fr hm (fun j hj => by rw [← hD, sI_ne (by omega), sI_ne (by omega), sI_ne (by omega)]) (by rw [← hD, sI_2, sI_2, sI_2])
  have d2 : D.1 187 2 = 0 := mD'.1
  obtain ⟨L', q1, q2, q3⟩ := m_next ht hT hp (fD.tp hto) mD' h4
  refine ⟨L', ?_, q2, RS_fr rD (fun a j g => q3.1 a j (by omega)), fun a j g => by rw [q3.1 a j (by omega), ← hD, sI_ne (by omega), sI_ne (by omega), sI_ne (by omega)], fD.tr q3.z⟩
  simp (disch := omega) only [fX12_openUp, fX12_openUp_41, kO_187, kI_196, g_t, b_d, b_c, b_v, Bool.and_true, Bool.and_self, Bool.true_and, r5, xIx, xIn, e22, o1, e26, o2, hD, if_pos d2, q1]
theorem m_openD {U0 un nm op dp w pl : Nat} {sg : Nat → Nat} {L : mT} (hd : mD w pl L) (h : RS f U0 un nm op dp sg L) (ho : op < 150) (v : Int32) : ∃ L', fX12_openUp v L = some L' ∧ mD w pl L' ∧ fZ f L L' := by
  obtain ⟨r1, r2, r3, r4, r5, r6, r7⟩ := id h
  have e22 : (sI L 196 op v).1 187 22 = nI op := by rw [sI_ne (by omega)]; exact r5
  have n2 : ¬ (sI (sI (sI L 196 op v) 187 22 (nI op + 1)) 187 26 ((sI (sI L 196 op v) 187 22 (nI op + 1)).1 187 26 + 1)).1 187 2 = 0 := by
    rw [sI_ne (by omega), sI_ne (by omega), sI_ne (by omega)]
    exact (mD_ne hd).1
  refine ⟨sI (sI (sI L 196 op v) 187 22 (nI op + 1)) 187 26 ((sI (sI L 196 op v) 187 22 (nI op + 1)).1 187 26 + 1), ?_, ⟨hd.1, hd.2.1, by rw [sI_ne (by omega), sI_ne (by omega), sI_ne (by omega)]; exact hd.2.2.1, by rw [sI_ne (by omega), sI_ne (by omega), sI_ne (by omega)]; exact hd.2.2.2⟩, (((fZ.rf f L).s6 _ _).s7 (by omega) _).s7 (by omega) _⟩
  simp (disch := omega) only [fX12_openUp, fX12_openUp_41, kO_187, kI_196, g_t, b_d, b_c, b_v, Bool.and_true, Bool.and_self, Bool.true_and, r5, xIx, xIn, e22, if_neg n2]
theorem m_cu {U0 un nm op dp : Nat} {sg : Nat → Nat} {L : mT} (h : RS f U0 un nm op dp sg L) : ∃ L', fX12_countUnit L = some L' ∧ RS f U0 (un + 1) nm op dp sg L' ∧ fF2 (f := f) L L' := by
  obtain ⟨r1, r2, r3, r4, r5, r6, r7⟩ := id h
  have o1 : nI (U0 + un) + (1 : Int32) = nI (U0 + (un + 1)) := nI_add (U0 + un) 1
  have o2 : nI un + (1 : Int32) = nI (un + 1) := nI_add un 1
  have e25 : ∀ v, (sI L 187 23 v).1 187 25 = nI un := fun v => by rw [sI_ne (by omega)]; exact r2
  refine ⟨sI (sI L 187 23 (nI (U0 + (un + 1)))) 187 25 (nI (un + 1)), ?_, ⟨by rw [sI_ne (by omega), sI_ne (by omega)]; exact r1, by rw [sI_eq], by rw [sI_ne (by omega), sI_eq], by rw [sI_ne (by omega), sI_ne (by omega)]; exact r4, by rw [sI_ne (by omega), sI_ne (by omega)]; exact r5, by rw [sI_ne (by omega), sI_ne (by omega)]; exact r6, fun i hi => by rw [sI_ne (by omega), sI_ne (by omega)]; exact r7 i hi⟩, ⟨fun a j g1 g2 g3 g4 g5 => by rw [sI_ne (by omega), sI_ne (by omega)], by rw [sI_2, sI_2], fun g i _ _ _ _ => ⟨by rw [sI_ne (by omega), sI_ne (by omega)], by rw [sI_ne (by omega), sI_ne (by omega)]⟩, fun g _ => by rw [sI_ne (by omega), sI_ne (by omega)]⟩⟩
  simp only [fX12_countUnit, kO_187, g_t, b_d, b_c, b_v, Bool.and_true, Bool.and_self, Bool.true_and, r3, o1, e25, o2]
theorem m_full {U0 un nm op dp : Nat} {sg : Nat → Nat} {L : mT} (h : RS f U0 un nm op dp sg L) (hu : un ≤ 30) (hU : U0 ≤ 60) : fX12_isFull L = some (if un = 30 then 1 else 0, L) := by
  obtain ⟨r1, r2, r3, r4, r5, r6, r7⟩ := id h
  by_cases c : U0 + un = 90
  · have c' : nI (U0 + un) = (90 : Int32) := by rw [c]; rfl
    rw [if_pos (by omega)]
    simp only [fX12_isFull, fX12_isFull_18, fX12_isFull_23, kO_187, g_t, b_d, b_c, b_v, Bool.and_true, Bool.and_self, Bool.true_and, r3, if_pos c', fb1]
  · have c' : ¬ nI (U0 + un) = (90 : Int32) := fun z => c ((xEq (b := 90) (by omega) (by omega)).mp z)
    by_cases d : un = 30
    · have d' : nI un = (30 : Int32) := by rw [d]; rfl
      rw [if_pos d]
      simp only [fX12_isFull, fX12_isFull_18, fX12_isFull_23, kO_187, g_t, b_d, b_c, b_v, Bool.and_true, Bool.and_self, Bool.true_and, r3, if_neg c', r2, if_pos d', fb1]
    · have d' : ¬ nI un = (30 : Int32) := fun z => d ((xEq (b := 30) (by omega) (by omega)).mp z)
      rw [if_neg d]
      simp only [fX12_isFull, fX12_isFull_23, kO_187, g_t, b_d, b_c, b_v, Bool.and_true, Bool.and_self, Bool.true_and, r3, if_neg c', r2, if_neg d', fb0]
/-- may a not stand here -/
def mayN (sg : Nat → Nat) (m : Nat) : Prop := m = 0 ∨ sg (m - 1) = 20 ∨ tghN (sg (m - 1)) < 4
theorem m_may {U0 un nm op dp : Nat} {sg : Nat → Nat} {L : mT} (h : RS f U0 un nm op dp sg L) (ho : op ≤ 150) (hs : ∀ i, i < op → sg i < 128) : ∃ r, fX12_mayNot L = some (r, L) ∧ ((r = 1 ∧ mayN sg op) ∨ (r = 0 ∧ ¬ mayN sg op)) := by
  obtain ⟨r1, r2, r3, r4, r5, r6, r7⟩ := id h
  by_cases c : op = 0
  · have c' : nI op = 0 := by rw [c]; rfl
    exact ⟨1, by simp only [fX12_mayNot, fX12_mayNot_41, fX12_mayNot_46, kO_187, g_t, b_d, b_c, b_v, Bool.and_true, Bool.and_self, Bool.true_and, r5, if_pos c', fb1], Or.inl ⟨rfl, Or.inl c⟩⟩
  · have c' : ¬ nI op = 0 := fun z => c ((xEq (b := 0) (by omega) (by omega)).mp z)
    have om : nI op - (1 : Int32) = nI (op - 1) := xS (a := op) (b := 1) (by omega)
    have es := r7 (op - 1) (by omega)
    have hsi := hs (op - 1) (by omega)
    by_cases d : sg (op - 1) = 20
    · have d' : nI (sg (op - 1)) = (20 : Int32) := by rw [d]; rfl
      exact ⟨1, by simp (disch := omega) only [fX12_mayNot, fX12_mayNot_41, fX12_mayNot_46, kO_187, kI_196, g_t, b_d, b_c, b_v, Bool.and_true, Bool.and_self, Bool.true_and, r5, if_neg c', om, xIx, xIn, es, if_pos d', fb1], Or.inl ⟨rfl, Or.inr (Or.inl d)⟩⟩
    · have d' : ¬ nI (sg (op - 1)) = (20 : Int32) := fun z => d ((xEq (b := 20) (by omega) (by omega)).mp z)
      have tr := tgh_rg (sg (op - 1))
      by_cases w : 4 ≤ tghN (sg (op - 1))
      · have w' : (4 : Int32) ≤ nI (tghN (sg (op - 1))) := (xLe (a := 4) (by omega) (by omega)).mpr w
        exact ⟨0, by simp (disch := omega) only [fX12_mayNot, fX12_mayNot_46, kO_187, kI_196, g_t, b_d, b_c, b_v, Bool.and_true, Bool.and_self, Bool.true_and, r5, if_neg c', om, xIx, xIn, es, if_neg d', m_tight hsi, if_pos w', fb0], Or.inr ⟨rfl, fun z => by
          rcases z with z | z | z
          · exact c z
          · exact d z
          · omega⟩⟩
      · have w' : ¬ (4 : Int32) ≤ nI (tghN (sg (op - 1))) := fun z => w ((xLe (a := 4) (by omega) (by omega)).mp z)
        exact ⟨1, by simp (disch := omega) only [fX12_mayNot, fX12_mayNot_41, fX12_mayNot_46, kO_187, kI_196, g_t, b_d, b_c, b_v, Bool.and_true, Bool.and_self, Bool.true_and, r5, if_neg c', om, xIx, xIn, es, if_neg d', m_tight hsi, if_neg w', fb1], Or.inl ⟨rfl, Or.inr (Or.inr (by omega))⟩⟩
/-- which of the values a word asks for -/
def askN (w : Nat) : Option Nat := if w = cwN 2 then some 0 else if w = cwN 12 then some 1 else if w = cwN 3 then some 2 else if w = cwN 4 then some 3 else if w = cwN 13 then some 4 else if w = cwN 14 then some 5 else none
theorem ask_lt {w x : Nat} (h : askN w = some x) : x < 6 := by
  unfold askN at h
  repeat' split at h
  all_goals first | (simp at h; omega) | simp at h
theorem m_ask (hT : ∀ k, k < t → T k < 256) {p : Nat} {L : mT} (hm : mTo T t p L) : fX12_asked L = some (oI (askN (wkN T t p)), L) := by
  obtain ⟨g2, g6, g7, g4, g9, g8⟩ := id hm
  obtain ⟨s1, s2, s3, s4, s5, s6, s7, s8⟩ := sr_lt hT p
  obtain ⟨_, _, k2, k3, k4, _, _, _, _, _, _, _, k12, k13, k14⟩ := cw_c
  by_cases c : tkN T t p = 1
  · have c' : nI (srN T t p) = (1 : Int32) := by rw [s5.mpr c]; rfl
    have e9 := g9 c
    have ew : wkN T t p = w8N T (tbN T t p) (txN T t p - tbN T t p) := if_pos c
    rw [← ew] at e9
    have hw := wk_63 (T := T) (t := t) p
    have key : ∀ j, j < 15 → (lg_cmp (Int64.ofNat (wkN T t p)) (Int64.ofNat (cwN j)) = 0 ↔ wkN T t p = cwN j) := fun j hj => (lg0 _ _).trans (J_inj hw (cw_lt j hj).2.1)
    unfold askN
    by_cases d2 : wkN T t p = cwN 2
    · rw [if_pos d2]
      simp only [fX12_asked, kO_187, g_t, b_d, b_c, b_v, Bool.and_true, Bool.and_self, Bool.true_and, g6, if_pos c', e9, k2, if_pos ((key 2 (by omega)).mpr d2)]
      rfl
    rw [if_neg d2]
    have n2 : ¬ lg_cmp (Int64.ofNat (wkN T t p)) (Int64.ofNat (cwN 2)) = 0 := fun z => d2 ((key 2 (by omega)).mp z)
    by_cases d12 : wkN T t p = cwN 12
    · rw [if_pos d12]
      simp only [fX12_asked, kO_187, g_t, b_d, b_c, b_v, Bool.and_true, Bool.and_self, Bool.true_and, g6, if_pos c', e9, k2, if_neg n2, k12, if_pos ((key 12 (by omega)).mpr d12)]
      rfl
    rw [if_neg d12]
    have n12 : ¬ lg_cmp (Int64.ofNat (wkN T t p)) (Int64.ofNat (cwN 12)) = 0 := fun z => d12 ((key 12 (by omega)).mp z)
    by_cases d3 : wkN T t p = cwN 3
    · rw [if_pos d3]
      simp only [fX12_asked, kO_187, g_t, b_d, b_c, b_v, Bool.and_true, Bool.and_self, Bool.true_and, g6, if_pos c', e9, k2, if_neg n2, k12, if_neg n12, k3, if_pos ((key 3 (by omega)).mpr d3)]
      rfl
    rw [if_neg d3]
    have n3 : ¬ lg_cmp (Int64.ofNat (wkN T t p)) (Int64.ofNat (cwN 3)) = 0 := fun z => d3 ((key 3 (by omega)).mp z)
    by_cases d4 : wkN T t p = cwN 4
    · rw [if_pos d4]
      simp only [fX12_asked, kO_187, g_t, b_d, b_c, b_v, Bool.and_true, Bool.and_self, Bool.true_and, g6, if_pos c', e9, k2, if_neg n2, k12, if_neg n12, k3, if_neg n3, k4, if_pos ((key 4 (by omega)).mpr d4)]
      rfl
    rw [if_neg d4]
    have n4 : ¬ lg_cmp (Int64.ofNat (wkN T t p)) (Int64.ofNat (cwN 4)) = 0 := fun z => d4 ((key 4 (by omega)).mp z)
    by_cases d13 : wkN T t p = cwN 13
    · rw [if_pos d13]
      simp only [fX12_asked, kO_187, g_t, b_d, b_c, b_v, Bool.and_true, Bool.and_self, Bool.true_and, g6, if_pos c', e9, k2, if_neg n2, k12, if_neg n12, k3, if_neg n3, k4, if_neg n4, k13, if_pos ((key 13 (by omega)).mpr d13)]
      rfl
    rw [if_neg d13]
    have n13 : ¬ lg_cmp (Int64.ofNat (wkN T t p)) (Int64.ofNat (cwN 13)) = 0 := fun z => d13 ((key 13 (by omega)).mp z)
    by_cases d14 : wkN T t p = cwN 14
    · rw [if_pos d14]
      simp only [fX12_asked, fX12_asked_91, kO_187, g_t, b_d, b_c, b_v, Bool.and_true, Bool.and_self, Bool.true_and, g6, if_pos c', e9, k2, if_neg n2, k12, if_neg n12, k3, if_neg n3, k4, if_neg n4, k13, if_neg n13, k14, if_pos ((key 14 (by omega)).mpr d14)]
      rfl
    rw [if_neg d14]
    have n14 : ¬ lg_cmp (Int64.ofNat (wkN T t p)) (Int64.ofNat (cwN 14)) = 0 := fun z => d14 ((key 14 (by omega)).mp z)
    simp only [fX12_asked, fX12_asked_91, kO_187, g_t, b_d, b_c, b_v, Bool.and_true, Bool.and_self, Bool.true_and, g6, if_pos c', e9, k2, if_neg n2, k12, if_neg n12, k3, if_neg n3, k4, if_neg n4, k13, if_neg n13, k14, if_neg n14]
    rfl
  · have c' : ¬ nI (srN T t p) = (1 : Int32) := fun z => c (s5.mp ((xEq (b := 1) (by omega) (by omega)).mp z))
    have ew : wkN T t p = 0 := if_neg c
    have ea : askN 0 = none := by decide +kernel
    rw [ew, ea]
    simp only [fX12_asked, kO_187, g_t, b_d, b_c, b_v, Bool.and_true, Bool.and_self, Bool.true_and, g6, if_neg c']
    rfl
theorem c_vn (ht : t ≤ 1600) (hT : ∀ k, k < t → T k < 256) {p : Nat} (hp : p ≤ t) {C : mT} (h : tpC T t C) (hc : cT T t p C) : fX4_valueNamed C = some (oI (askN (wkN T t p)), C) := by
  have a := fun j (hj : j < 15) => c_isW ht hT hp h hc hj
  have a2 : fX4_isWord 900002 C = _ := a 2 (by omega)
  have a12 : fX4_isWord 900012 C = _ := a 12 (by omega)
  have a3 : fX4_isWord 900003 C = _ := a 3 (by omega)
  have a4 : fX4_isWord 900004 C = _ := a 4 (by omega)
  have a13 : fX4_isWord 900013 C = _ := a 13 (by omega)
  have a14 : fX4_isWord 900014 C = _ := a 14 (by omega)
  have t1 : ¬ (1 : Int32) = 0 := by decide
  unfold askN
  by_cases d2 : wkN T t p = cwN 2
  · rw [if_pos d2] at a2 ⊢
    simp only [fX4_valueNamed, a2, g_t, b_d, b_c, b_v, Bool.and_true, Bool.and_self, Bool.true_and, if_neg t1]
    rfl
  rw [if_neg d2] at a2 ⊢
  by_cases d12 : wkN T t p = cwN 12
  · rw [if_pos d12] at a12 ⊢
    simp only [fX4_valueNamed, a2, a12, g_t, b_d, b_c, b_v, Bool.and_true, Bool.and_self, Bool.true_and, if_true, if_neg t1]
    rfl
  rw [if_neg d12] at a12 ⊢
  by_cases d3 : wkN T t p = cwN 3
  · rw [if_pos d3] at a3 ⊢
    simp only [fX4_valueNamed, a2, a12, a3, g_t, b_d, b_c, b_v, Bool.and_true, Bool.and_self, Bool.true_and, if_true, if_neg t1]
    rfl
  rw [if_neg d3] at a3 ⊢
  by_cases d4 : wkN T t p = cwN 4
  · rw [if_pos d4] at a4 ⊢
    simp only [fX4_valueNamed, a2, a12, a3, a4, g_t, b_d, b_c, b_v, Bool.and_true, Bool.and_self, Bool.true_and, if_true, if_neg t1]
    rfl
  rw [if_neg d4] at a4 ⊢
  by_cases d13 : wkN T t p = cwN 13
  · rw [if_pos d13] at a13 ⊢
    simp only [fX4_valueNamed, a2, a12, a3, a4, a13, g_t, b_d, b_c, b_v, Bool.and_true, Bool.and_self, Bool.true_and, if_true, if_neg t1]
    rfl
  rw [if_neg d13] at a13 ⊢
  by_cases d14 : wkN T t p = cwN 14
  · rw [if_pos d14] at a14 ⊢
    simp only [fX4_valueNamed, fX4_valueNamed_69, a2, a12, a3, a4, a13, a14, g_t, b_d, b_c, b_v, Bool.and_true, Bool.and_self, Bool.true_and, if_true, if_neg t1]
    rfl
  rw [if_neg d14] at a14 ⊢
  simp only [fX4_valueNamed, fX4_valueNamed_69, a2, a12, a3, a4, a13, a14, g_t, b_d, b_c, b_v, Bool.and_true, Bool.and_self, Bool.true_and, if_true]
  rfl
end
