/-! loss; the three calls -/
theorem cpOk0 {la ld n : Nat} (h1 : n ≤ la) (h2 : n ≤ ld) (hn : n < 100000) : cpOk la ld (0 : Int32) (0 : Int32) (nI n) = true := by
  unfold cpOk
  rw [show mIx (0 : Int32) = 0 from rfl, xIx hn]
  have a2 : ¬ (0 : Int32) < (0 : Int32) := by decide
  have a3 : ¬ nI n < (0 : Int32) := nI_pos (by omega)
  have a4 : 0 + n ≤ la := by omega
  have a5 : 0 + n ≤ ld := by omega
  simp only [a2, a3, a4, a5, decide_true, decide_false, Bool.not_false, Bool.and_true]
theorem sC0 {S : mT} {a d i j n : Nat} (hn : n < 100000) : (sC S a d (0 : Int32) (0 : Int32) (nI n)).1 i j = if i = d ∧ j < n then S.1 a j else S.1 i j := by
  rw [sC_rd, show mIx (0 : Int32) = 0 from rfl, xIx hn]
  by_cases h : i = d
  · subst h
    by_cases h2 : j < n
    · simp [h2]
    · simp [h2]
  · simp [h]
/-- the first that has less -/
def lsF (f g : Nat → Int32) : Nat → Nat → Nat
  | 0, i => i
  | m + 1, i => if g i ≤ f i then lsF f g m (i + 1) else i
theorem lsF_congr {f g f' g' : Nat → Int32} {n : Nat} (h : ∀ i, i < n → f i = f' i ∧ g i = g' i) : ∀ {m i : Nat}, i + m = n → lsF f g m i = lsF f' g' m i
  | 0, i, _ => rfl
  | m + 1, i, hi => by
    unfold lsF
    rw [(h i (by omega)).1, (h i (by omega)).2, lsF_congr h (m := m) (i := i + 1) (by omega)]
theorem lsF_le {f g : Nat → Int32} : ∀ {m i : Nat}, lsF f g m i ≤ i + m
  | 0, i => Nat.le_refl _
  | m + 1, i => by
    unfold lsF
    split
    · have := lsF_le (f := f) (g := g) (m := m) (i := i + 1)
      omega
    · omega
def lossR (B : Nat → Nat) (n w : Nat) : Nat → Nat → Int32
  | 0, _ => -1
  | m + 1, N => if lsF (gS B n N 0) (gS B n (N - 1) 0) n 0 = n then lossR B n w m (N + 1) else if w = 0 then nI N else nI (lsF (gS B n N 0) (gS B n (N - 1) 0) n 0)
section
variable {B : Nat → Nat} {n N : Nat} {S C L : mT}
theorem s_fl33 (hn : n ≤ 5) (n1 : C.1 109 4 = nI n) : ∀ (m i k : Nat), i + m = n → m < k → fX7_firstLoser_33 k (nI i) C = some (if lsF (C.1 111) (C.1 113) m i = n then -1 else nI (lsF (C.1 111) (C.1 113) m i), C)
  | 0, i, k, hi, hk => by
    obtain ⟨k', rfl⟩ := up1 hk
    have hi : i = n := by omega
    subst hi
    have c : nI i ≤ nI i := Int32.le_refl _
    simp only [fX7_firstLoser_33, kO_109, g_t, b_d, b_c, b_v, Bool.and_true, Bool.and_self, Bool.true_and, n1, if_pos c, lsF, if_true]
  | m + 1, i, k, hi, hk => by
    obtain ⟨k', rfl⟩ := up1 hk
    have c : ¬ nI n ≤ nI i := fun z => by have := (xLe (by omega) (by omega)).mp z; omega
    by_cases q : C.1 113 i ≤ C.1 111 i
    · have o1 : nI i + (1 : Int32) = nI (i + 1) := nI_add i 1
      have e : lsF (C.1 111) (C.1 113) (m + 1) i = lsF (C.1 111) (C.1 113) m (i + 1) := by
        conv => lhs; unfold lsF
        rw [if_pos q]
      rw [e, ← s_fl33 hn n1 m (i + 1) k' (by omega) (by omega)]
      simp (disch := omega) only [fX7_firstLoser_33, kO_109, kI_111, kI_113, g_t, b_d, b_c, b_v, Bool.and_true, Bool.and_self, Bool.true_and, n1, if_neg c, xIx, xIn, if_pos q, o1]
    · have e : lsF (C.1 111) (C.1 113) (m + 1) i = i := by
        conv => lhs; unfold lsF
        rw [if_neg q]
      rw [e, if_neg (by omega)]
      simp (disch := omega) only [fX7_firstLoser_33, kO_109, kI_111, kI_113, g_t, b_d, b_c, b_v, Bool.and_true, Bool.and_self, Bool.true_and, n1, if_neg c, xIx, xIn, if_neg q]
theorem c_fl (hn : n ≤ 5) (hB : ∀ j, j < n → B j ≤ 99) (hN1 : 2 ≤ N) (hN : N ≤ 20) (n1 : C.1 109 4 = nI n) (e : ∀ j, j < n → C.1 110 j = nI (B j)) : ∃ C', fX7_firstLoser (nI N) C = some (if lsF (gS B n N 0) (gS B n (N - 1) 0) n 0 = n then -1 else nI (lsF (gS B n N 0) (gS B n (N - 1) 0) n 0), C') ∧ C'.1 109 4 = nI n ∧ ∀ j, j < n → C'.1 110 j = nI (B j) := by
  have hB' : ∀ j, j < n → B j ≤ 100 := fun j hj => by have := hB j hj; omega
  obtain ⟨C1, s1, s2, s3⟩ := c_share (N := N - 1) (law := 0) hn hB' (by omega) (by omega) n1 e
  have n2 : C1.1 109 4 = nI n := by rw [s3 _ _ (by omega) (by omega)]; exact n1
  have f2 : ∀ a j, a ≠ 113 → (sC C1 111 113 (0 : Int32) (0 : Int32) (nI n)).1 a j = C1.1 a j := fun a j g => by rw [sC0 (by omega), if_neg (by omega)]
  obtain ⟨C3, t1, t2, t3⟩ := c_share (N := N) (law := 0) (C := sC C1 111 113 (0 : Int32) (0 : Int32) (nI n)) hn hB' (by omega) (by omega) (by rw [f2 _ _ (by omega)]; exact n2) (fun j hj => by rw [f2 _ _ (by omega), s3 _ _ (by omega) (by omega)]; exact e j hj)
  have n3 : C3.1 109 4 = nI n := by rw [t3 _ _ (by omega) (by omega), f2 _ _ (by omega)]; exact n2
  have r := s_fl33 hn n3 n 0 mK (by omega) (by have := mK_gt; omega)
  rw [lsF_congr (f' := gS B n N 0) (g' := gS B n (N - 1) 0) (n := n) (fun i hi => ⟨t2 i hi, by rw [t3 _ _ (by omega) (by omega), sC0 (by omega), if_pos ⟨rfl, hi⟩]; exact s2 i hi⟩) (by omega)] at r
  refine ⟨C3, ?_, n3, fun j hj => by rw [t3 _ _ (by omega) (by omega), f2 _ _ (by omega), s3 _ _ (by omega) (by omega)]; exact e j hj⟩
  rw [← r]
  have o : nI N - (1 : Int32) = nI (N - 1) := xS (b := 1) (by omega)
  have t1' : fX7_share (nI N) (0 : Int32) (sC C1 111 113 (0 : Int32) (0 : Int32) (nI n)) = some C3 := t1
  have s1' : fX7_share (nI (N - 1)) (0 : Int32) C = some C1 := s1
  have hk := kC_of s_111 (by decide +kernel) s_113 (by decide +kernel) (0 : Int32) (0 : Int32) (nI n)
  rw [cpOk0 (by omega) (by omega) (by omega)] at hk
  unfold fX7_firstLoser
  rw [o, s1', b_v, n2, hk, kO_109]
  simp only [g_t, b_d, b_c, b_v, Bool.and_true, Bool.and_self, Bool.true_and]
  rw [t1', b_v]
  rfl
theorem c_loss (hn : n ≤ 5) (hB : ∀ j, j < n → B j ≤ 99) (b : Bool) {w : Nat} (hw : w < 2) : ∀ (m N k : Nat) (C : mT), 2 ≤ N → N + m = 21 → m < k → C.1 109 4 = nI n → (∀ j, j < n → C.1 110 j = nI (B j)) → ∃ C', fX11_loss_31 b k (nI w) (nI N) C = some (lossR B n w m N, C')
  | 0, N, k, C, h2, hi, hk, n1, e => by
    obtain ⟨k', rfl⟩ := up1 hk
    have hi : N = 21 := by omega
    subst hi
    have c : (20 : Int32) < nI 21 := by decide
    exact ⟨C, by simp only [fX11_loss_31, if_pos c, lossR]⟩
  | m + 1, N, k, C, h2, hi, hk, n1, e => by
    obtain ⟨k', rfl⟩ := up1 hk
    obtain ⟨C1, r1, r2, r3⟩ := c_fl hn hB h2 (by omega) n1 e
    have c : ¬ (20 : Int32) < nI N := fun z => by have := (xLt (a := 20) (by omega) (by omega)).mp z; omega
    unfold lossR
    by_cases q : lsF (gS B n N 0) (gS B n (N - 1) 0) n 0 = n
    · rw [if_pos q] at r1 ⊢
      obtain ⟨C', t1⟩ := c_loss hn hB b hw m (N + 1) k' C1 (by omega) (by omega) (by omega) r2 r3
      refine ⟨C', ?_⟩
      rw [← t1]
      have o : nI N + (1 : Int32) = nI (N + 1) := nI_add N 1
      simp only [fX11_loss_31, if_neg c, kO_0, g_t, b_d, b_c, b_v, Bool.and_true, Bool.and_self, Bool.true_and, r1, if_true, o]
    · have hle := lsF_le (f := gS B n N 0) (g := gS B n (N - 1) 0) (m := n) (i := 0)
      rw [if_neg q] at r1 ⊢
      generalize lsF (gS B n N 0) (gS B n (N - 1) 0) n 0 = x at *
      have c2 : ¬ nI x = (-1 : Int32) := fun z => by
        have h : (nI x = nM) = False := nM_eq (by omega)
        exact (h ▸ z : False)
      refine ⟨C1, ?_⟩
      by_cases hw0 : w = 0
      · have c3 : nI w = (0 : Int32) := by rw [hw0]; rfl
        rw [if_pos hw0]
        simp only [fX11_loss_31, fX11_loss_60, if_neg c, kO_0, g_t, b_d, b_c, b_v, Bool.and_true, Bool.and_self, Bool.true_and, r1, if_neg c2, if_pos c3]
      · have c3 : ¬ nI w = (0 : Int32) := fun z => hw0 ((xEq (b := 0) (by omega) (by omega)).mp z)
        rw [if_neg hw0]
        simp only [fX11_loss_31, fX11_loss_60, if_neg c, kO_0, g_t, b_d, b_c, b_v, Bool.and_true, Bool.and_self, Bool.true_and, r1, if_neg c2, if_neg c3]
theorem m_l41 (hn : n ≤ 5) (n2 : L.1 187 37 = nI n) {w : Nat} (hw : w < 2) (hN : N < 100) (rc : Int32 → Int32 → mT → Option (Int32 × mT)) : ∀ (m i k : Nat), i + m = n → m < k → fX12_loss_41 rc k (nI w) (nI N) (nI i) L = if lsF (L.1 217) (L.1 219) m i = n then rc (nI w) (nI (N + 1)) L else some (if w = 0 then nI N else nI (lsF (L.1 217) (L.1 219) m i), L)
  | 0, i, k, hi, hk => by
    obtain ⟨k', rfl⟩ := up1 hk
    have hi : i = n := by omega
    subst hi
    have c : nI i ≤ nI i := Int32.le_refl _
    have o : nI N + (1 : Int32) = nI (N + 1) := nI_add N 1
    simp only [fX12_loss_41, kO_187, g_t, b_d, b_c, b_v, Bool.and_true, Bool.and_self, Bool.true_and, n2, if_pos c, lsF, if_true, o]
  | m + 1, i, k, hi, hk => by
    obtain ⟨k', rfl⟩ := up1 hk
    have c : ¬ nI n ≤ nI i := fun z => by have := (xLe (by omega) (by omega)).mp z; omega
    by_cases q : L.1 219 i ≤ L.1 217 i
    · have o1 : nI i + (1 : Int32) = nI (i + 1) := nI_add i 1
      have e : lsF (L.1 217) (L.1 219) (m + 1) i = lsF (L.1 217) (L.1 219) m (i + 1) := by
        conv => lhs; unfold lsF
        rw [if_pos q]
      rw [e, ← m_l41 hn n2 hw hN rc m (i + 1) k' (by omega) (by omega)]
      simp (disch := omega) only [fX12_loss_41, kO_187, kI_217, kI_219, g_t, b_d, b_c, b_v, Bool.and_true, Bool.and_self, Bool.true_and, n2, if_neg c, xIx, xIn, if_pos q, o1]
    · have e : lsF (L.1 217) (L.1 219) (m + 1) i = i := by
        conv => lhs; unfold lsF
        rw [if_neg q]
      rw [e, if_neg (by omega)]
      by_cases hw0 : w = 0
      · have c3 : nI w = (0 : Int32) := by rw [hw0]; rfl
        rw [if_pos hw0]
        simp (disch := omega) only [fX12_loss_41, fX12_loss_73, kO_187, kI_217, kI_219, g_t, b_d, b_c, b_v, Bool.and_true, Bool.and_self, Bool.true_and, n2, if_neg c, xIx, xIn, if_neg q, if_pos c3]
      · have c3 : ¬ nI w = (0 : Int32) := fun z => hw0 ((xEq (b := 0) (by omega) (by omega)).mp z)
        rw [if_neg hw0]
        simp (disch := omega) only [fX12_loss_41, fX12_loss_73, kO_187, kI_217, kI_219, g_t, b_d, b_c, b_v, Bool.and_true, Bool.and_self, Bool.true_and, n2, if_neg c, xIx, xIn, if_neg q, if_neg c3]
theorem m_loss (hn : n ≤ 5) (hB : ∀ j, j < n → B j ≤ 99) {w : Nat} (hw : w < 2) : ∀ (m N k : Nat) (L : mT), 2 ≤ N → N + m = 21 → m < k → L.1 187 37 = nI n → (∀ j, j < n → L.1 211 j = nI (B j) ∧ L.1 217 j = gS B n (N - 1) 0 j) → ∃ L', fX12_loss_23 k (nI w) (nI N) L = some (lossR B n w m N, L')
  | 0, N, k, L, h2, hi, hk, n1, e => by
    obtain ⟨k', rfl⟩ := up1 hk
    have hi : N = 21 := by omega
    subst hi
    have c : (20 : Int32) < nI 21 := by decide
    exact ⟨L, by simp only [fX12_loss_23, if_pos c, lossR]⟩
  | m + 1, N, k, L, h2, hi, hk, n1, e => by
    obtain ⟨k', rfl⟩ := up1 hk
    have hB' : ∀ j, j < n → B j ≤ 100 := fun j hj => by have := hB j hj; omega
    have c : ¬ (20 : Int32) < nI N := fun z => by have := (xLt (a := 20) (by omega) (by omega)).mp z; omega
    obtain ⟨L1, k1, k2, k3⟩ := s_ks L
    obtain ⟨L2, s1, s2, s3⟩ := m_lay (N := N) (law := 0) (L := L1) hn hB' (by omega) (by omega) (by rw [k3 _ _ (by omega)]; exact n1) (fun j hj => by rw [k3 _ _ (by omega)]; exact (e j hj).1)
    have n3 : L2.1 187 37 = nI n := by rw [s3 _ _ (by omega) (by omega), k3 _ _ (by omega)]; exact n1
    have s1' : fX12_laySeats (nI N) (0 : Int32) L1 = some L2 := s1
    have st := m_l41 (N := N) hn n3 hw (by omega) (fX12_loss_23 k') n 0 mK (by omega) (by have := mK_gt; omega)
    rw [lsF_congr (f' := gS B n N 0) (g' := gS B n (N - 1) 0) (n := n) (fun i hi => ⟨s2 i hi, by rw [s3 _ _ (by omega) (by omega), k2 i (by omega)]; exact (e i hi).2⟩) (by omega)] at st
    have st0 : fX12_loss_23 (k' + 1) (nI w) (nI N) L = fX12_loss_41 (fX12_loss_23 k') mK (nI w) (nI N) (nI 0) L2 := by
      conv => lhs; unfold fX12_loss_23
      rw [if_neg c, k1, b_v, s1', b_v]
      rfl
    unfold lossR
    rw [st0, st]
    by_cases q : lsF (gS B n N 0) (gS B n (N - 1) 0) n 0 = n
    · rw [if_pos q, if_pos q]
      exact m_loss hn hB hw m (N + 1) k' L2 (by omega) (by omega) (by omega) n3 (fun j hj => ⟨by rw [s3 _ _ (by omega) (by omega), k3 _ _ (by omega)]; exact (e j hj).1, s2 j hj⟩)
    · rw [if_neg q, if_neg q]
      exact ⟨L2, rfl⟩
end
/-- the bowls as numbers -/
theorem bowlN {f : Nat → Int32} (h : okRow f) : ∃ B : Nat → Nat, ∀ j, j < 5 → B j ≤ 99 ∧ f (10 + j) = nI (B j) := by
  refine ⟨fun j => mIx (f (10 + j)), fun j hj => ?_⟩
  obtain ⟨_, _, z, _, _, hz, _, _, ez⟩ := h.1 j hj
  show mIx (f (10 + j)) ≤ 99 ∧ f (10 + j) = nI (mIx (f (10 + j)))
  rw [ez, xIx (by omega)]
  exact ⟨hz, rfl⟩
theorem zz_seats : zH_seats Rel := by
  intro k b S v v2 v3 hk h
  obtain ⟨n, hA, hN, hBx, hC, hT, hL⟩ := Rel_iff.mp h
  have hn := hA.1.1
  have n1 := hA.1.2.1
  have n2 := hA.1.2.2.1
  rcases h_cases n (by omega) v with ⟨i, hi, rfl⟩ | hv
  · rcases v_cases 1 20 (by omega) (by omega) v2 with c | c | ⟨N, hN1, hN2, rfl⟩
    · have e : wB v2 1 20 = 0 := wB_lo c
      exact ⟨-1, S, S, by simp (disch := omega) [fX11_seats, kO_0, kO_109, kI_111, kO_u, fX11_seats_27, g_t, b_d, b_c, b_v, Bool.and_true, Bool.and_self, Bool.true_and, s_isHouseC n1, hB_in, s_isWithin, e], by simp (disch := omega) [fX12_seats, kO_187, kI_217, fX12_seats_27, g_t, b_d, b_c, b_v, Bool.and_true, Bool.and_self, Bool.true_and, s_isHouseM hn n2, hB_in, s_isIn, e], Rel_up h⟩
    · have e : wB v2 1 20 = 0 := wB_hi c
      exact ⟨-1, S, S, by simp (disch := omega) [fX11_seats, kO_0, kO_109, kI_111, kO_u, fX11_seats_27, g_t, b_d, b_c, b_v, Bool.and_true, Bool.and_self, Bool.true_and, s_isHouseC n1, hB_in, s_isWithin, e], by simp (disch := omega) [fX12_seats, kO_187, kI_217, fX12_seats_27, g_t, b_d, b_c, b_v, Bool.and_true, Bool.and_self, Bool.true_and, s_isHouseM hn n2, hB_in, s_isIn, e], Rel_up h⟩
    have e1 : wB (nI N) 1 20 = 1 := wB_in (lo := 1) (hi := 20) (by omega) (by omega) (by omega)
    rcases v_cases 0 1 (by omega) (by omega) v3 with c | c | ⟨w, _, hw, rfl⟩
    · have e : wB v3 0 1 = 0 := wB_lo c
      exact ⟨-1, S, S, by simp (disch := omega) [fX11_seats, kO_0, kO_109, kI_111, kO_u, fX11_seats_27, g_t, b_d, b_c, b_v, Bool.and_true, Bool.and_self, Bool.true_and, s_isHouseC n1, hB_in, s_isWithin, e, e1], by simp (disch := omega) [fX12_seats, kO_187, kI_217, fX12_seats_27, g_t, b_d, b_c, b_v, Bool.and_true, Bool.and_self, Bool.true_and, s_isHouseM hn n2, hB_in, s_isIn, e, e1], Rel_up h⟩
    · have e : wB v3 0 1 = 0 := wB_hi c
      exact ⟨-1, S, S, by simp (disch := omega) [fX11_seats, kO_0, kO_109, kI_111, kO_u, fX11_seats_27, g_t, b_d, b_c, b_v, Bool.and_true, Bool.and_self, Bool.true_and, s_isHouseC n1, hB_in, s_isWithin, e, e1], by simp (disch := omega) [fX12_seats, kO_187, kI_217, fX12_seats_27, g_t, b_d, b_c, b_v, Bool.and_true, Bool.and_self, Bool.true_and, s_isHouseM hn n2, hB_in, s_isIn, e, e1], Rel_up h⟩
    have e2 : wB (nI w) 0 1 = 1 := wB_in (lo := 0) (hi := 1) (by omega) (by omega) (by omega)
    obtain ⟨B, hB⟩ := bowlN hN.1.1
    obtain ⟨C1, l1, l2, l3, l4⟩ := c_look7 hn S
    obtain ⟨C2, s1, s2, s3⟩ := c_share (B := B) (N := N) (law := w) (C := C1) hn (fun j hj => by have := (hB j (by omega)).1; omega) hN2 (by omega) l2 (fun j hj => by rw [l3 j hj]; exact (hB j (by omega)).2)
    have hf1 : fX11_seats b (nI i) (nI N) (nI w) S = some (gS B n N w i, C2) := by
      have e5 := s2 i hi
      unfold fX11_seats
      rw [s_isHouseC n1, b_c, hB_in hi hn, if_neg (by decide), s_isWithin, b_c, e1, if_neg (by decide), s_isWithin, b_c, e2, if_neg (by decide)]
      simp (disch := omega) only [kO_u, kO_0, kO_109, kI_111, g_t, b_d, b_c, b_v, Bool.and_true, Bool.and_self, Bool.true_and, n1, l1, s1, xIx, xIn, e5]
    have a1 : agr (supAll (shU b)) S C2 := av_agr (L := cond b LX11_seats_t LX11_seats_f) (by cases b; exact rX11_seats_f hf1; exact rX11_seats_t hf1) (by cases b <;> decide +kernel)
    have hA2 := rA_fr (agr_app.mp a1).1 hA
    obtain ⟨L, m1, m2, _⟩ := m_load (shU_lt b) hA hN.1 a1
    obtain ⟨L2, t1, t2, t3⟩ := m_lay (B := B) (N := N) (law := w) (L := L) hn (fun j hj => by have := (hB j (by omega)).1; omega) hN2 (by omega) m2.2.2.1 (fun j hj => by rw [(m2.1 j (by omega)).2.2]; exact (hB j (by omega)).2)
    have hf2 : fX12_seats (nI i) (nI N) (nI w) C2 = some (gS B n N w i, L2) := by
      have e5 := t2 i hi
      unfold fX12_seats
      rw [s_isHouseM hn hA2.1.2.2.1, b_c, hB_in hi hn, if_neg (by decide), s_isIn, b_c, e1, if_neg (by decide), s_isIn, b_c, e2, if_neg (by decide)]
      simp (disch := omega) only [kO_187, kI_217, g_t, b_d, b_c, b_v, Bool.and_true, Bool.and_self, Bool.true_and, m1, t1, xIx, xIn, e5]
    exact ⟨_, _, _, hf1, hf2, Rel_fr (agr_trans (av_agr (L := cond b LX11_seats_t LX11_seats_f) (by cases b; exact rX11_seats_f hf1; exact rX11_seats_t hf1) (by cases b <;> decide +kernel)) (av_agr (rX12_seats hf2) (by cases b <;> decide +kernel))) h⟩
  · refine ⟨-1, S, S, ?_, ?_, Rel_up h⟩
    · simp [fX11_seats, kO_0, kO_109, kI_111, kO_u, fX11_seats_27, g_t, b_d, b_c, b_v, Bool.and_true, Bool.and_self, Bool.true_and, s_isHouseC n1, hB_out hv]
    · simp [fX12_seats, kO_187, kI_217, fX12_seats_27, g_t, b_d, b_c, b_v, Bool.and_true, Bool.and_self, Bool.true_and, s_isHouseM hn n2, hB_out hv]
theorem zz_stone : zH_stone Rel := by
  intro k b S v2 v3 hk h
  obtain ⟨n, hA, hN, hBx, hC, hT, hL⟩ := Rel_iff.mp h
  have hn := hA.1.1
  have n1 := hA.1.2.1
  rcases v_cases 1 20 (by omega) (by omega) v2 with c | c | ⟨N, hN1, hN2, rfl⟩
  · have e : wB v2 1 20 = 0 := wB_lo c
    exact ⟨-1, S, S, by simp (disch := omega) [fX11_stone, kO_0, kO_u, fX11_stone_19, g_t, b_d, b_c, b_v, Bool.and_true, Bool.and_self, Bool.true_and, s_isWithin, e], by simp (disch := omega) [fX12_stone, fX12_stone_19, g_t, b_d, b_c, b_v, Bool.and_true, Bool.and_self, Bool.true_and, s_isIn, e], Rel_up h⟩
  · have e : wB v2 1 20 = 0 := wB_hi c
    exact ⟨-1, S, S, by simp (disch := omega) [fX11_stone, kO_0, kO_u, fX11_stone_19, g_t, b_d, b_c, b_v, Bool.and_true, Bool.and_self, Bool.true_and, s_isWithin, e], by simp (disch := omega) [fX12_stone, fX12_stone_19, g_t, b_d, b_c, b_v, Bool.and_true, Bool.and_self, Bool.true_and, s_isIn, e], Rel_up h⟩
  have e1 : wB (nI N) 1 20 = 1 := wB_in (lo := 1) (hi := 20) (by omega) (by omega) (by omega)
  rcases v_cases 0 1 (by omega) (by omega) v3 with c | c | ⟨w, _, hw, rfl⟩
  · have e : wB v3 0 1 = 0 := wB_lo c
    exact ⟨-1, S, S, by simp (disch := omega) [fX11_stone, kO_0, kO_u, fX11_stone_19, g_t, b_d, b_c, b_v, Bool.and_true, Bool.and_self, Bool.true_and, s_isWithin, e, e1], by simp (disch := omega) [fX12_stone, fX12_stone_19, g_t, b_d, b_c, b_v, Bool.and_true, Bool.and_self, Bool.true_and, s_isIn, e, e1], Rel_up h⟩
  · have e : wB v3 0 1 = 0 := wB_hi c
    exact ⟨-1, S, S, by simp (disch := omega) [fX11_stone, kO_0, kO_u, fX11_stone_19, g_t, b_d, b_c, b_v, Bool.and_true, Bool.and_self, Bool.true_and, s_isWithin, e, e1], by simp (disch := omega) [fX12_stone, fX12_stone_19, g_t, b_d, b_c, b_v, Bool.and_true, Bool.and_self, Bool.true_and, s_isIn, e, e1], Rel_up h⟩
  have e2 : wB (nI w) 0 1 = 1 := wB_in (lo := 0) (hi := 1) (by omega) (by omega) (by omega)
  obtain ⟨B, hB⟩ := bowlN hN.1.1
  have hB1 : ∀ j, j < n → B j ≤ 99 := fun j hj => (hB j (by omega)).1
  have hB2 : ∀ j, j < n → B j ≤ 100 := fun j hj => by have := hB1 j hj; omega
  obtain ⟨C1, l1, l2, l3, l4⟩ := c_look7 hn S
  obtain ⟨C2, s1, s2, s3⟩ := c_share (B := B) (N := N) (law := w) (C := C1) hn hB2 hN2 (by omega) l2 (fun j hj => by rw [l3 j hj]; exact (hB j (by omega)).2)
  have n3 : C2.1 109 4 = nI n := by rw [s3 _ _ (by omega) (by omega)]; exact l2
  obtain ⟨C3, r1⟩ := c_cbo (N := N) (law := w) hn hB1 hN2 (by omega) n 0 mK (sC C2 111 113 (0 : Int32) (0 : Int32) (nI n)) (by omega) (by have := mK_gt; omega) (by rw [sC0 (by omega), if_neg (by omega)]; exact n3) (fun j hj => ⟨by rw [sC0 (by omega), if_neg (by omega), s3 _ _ (by omega) (by omega), l3 j hj]; exact (hB j (by omega)).2, by rw [sC0 (by omega), if_pos ⟨rfl, hj⟩]; exact s2 j hj⟩)
  have hf1 : fX11_stone b (nI N) (nI w) S = some (bt (fun h => stB B n N w h = true) n, C3) := by
    rw [← r1]
    have hk := kC_of s_111 (by decide +kernel) s_113 (by decide +kernel) (0 : Int32) (0 : Int32) (nI n)
    rw [cpOk0 (by omega) (by omega) (by omega)] at hk
    have cb : fX7_changedByOne (nI N) (nI w) C1 = fX7_changedByOne_28 mK (nI N) (nI w) (nI 0) (nI 0) (sC C2 111 113 (0 : Int32) (0 : Int32) (nI n)) := by
      unfold fX7_changedByOne
      rw [s1, b_v, n3, hk, kO_109]
      simp only [g_t, b_d, b_c, b_v, Bool.and_true, Bool.and_self, Bool.true_and]
      rfl
    have r1' : fX7_changedByOne_28 mK (nI N) (nI w) (nI 0) (nI 0) (sC C2 111 113 (0 : Int32) (0 : Int32) (nI n)) = _ := r1
    unfold fX11_stone
    rw [s_isWithin, b_c, e1, if_neg (by decide), s_isWithin, b_c, e2, if_neg (by decide)]
    simp (disch := omega) only [kO_u, kO_0, g_t, b_d, b_c, b_v, Bool.and_true, Bool.and_self, Bool.true_and, n1, l1, cb, r1', r1]
  have a1 : agr (supAll (shU b)) S C3 := av_agr (L := cond b LX11_stone_t LX11_stone_f) (by cases b; exact rX11_stone_f hf1; exact rX11_stone_t hf1) (by cases b <;> decide +kernel)
  obtain ⟨L, m1, m2, _⟩ := m_load (shU_lt b) hA hN.1 a1
  obtain ⟨L2, t1, t2, t3⟩ := m_lay (B := B) (N := N) (law := w) (L := L) hn hB2 hN2 (by omega) m2.2.2.1 (fun j hj => by rw [(m2.1 j (by omega)).2.2]; exact (hB j (by omega)).2)
  obtain ⟨L3, u1, u2, u3⟩ := s_ks L2
  obtain ⟨L4, w1⟩ := m_st40 (N := N) (law := w) hn hB1 hN2 (by omega) n 0 mK L3 (by omega) (by have := mK_gt; omega) (by rw [u3 _ _ (by omega), t3 _ _ (by omega) (by omega)]; exact m2.2.2.1) (fun j hj => ⟨by rw [u3 _ _ (by omega), t3 _ _ (by omega) (by omega), (m2.1 j (by omega)).2.2]; exact (hB j (by omega)).2, by rw [u2 j (by omega)]; exact t2 j hj⟩)
  have hf2 : fX12_stone (nI N) (nI w) C3 = some (bt (fun h => stB B n N w h = true) n, L4) := by
    rw [← w1]
    unfold fX12_stone
    rw [s_isIn, b_c, e1, if_neg (by decide), s_isIn, b_c, e2, if_neg (by decide), m1, b_v, t1, b_v, u1, b_v]
    rfl
  exact ⟨_, _, _, hf1, hf2, Rel_fr (agr_trans (av_agr (L := cond b LX11_stone_t LX11_stone_f) (by cases b; exact rX11_stone_f hf1; exact rX11_stone_t hf1) (by cases b <;> decide +kernel)) (av_agr (rX12_stone hf2) (by cases b <;> decide +kernel))) h⟩
theorem zz_loss : zH_loss Rel := by
  intro k b S v3 hk h
  obtain ⟨n, hA, hN, hBx, hC, hT, hL⟩ := Rel_iff.mp h
  have hn := hA.1.1
  have n1 := hA.1.2.1
  rcases v_cases 0 1 (by omega) (by omega) v3 with c | c | ⟨w, _, hw, rfl⟩
  · have e : wB v3 0 1 = 0 := wB_lo c
    exact ⟨-1, S, S, by simp (disch := omega) [fX11_loss, kO_0, kO_u, g_t, b_d, b_c, b_v, Bool.and_true, Bool.and_self, Bool.true_and, s_isWithin, e], by simp (disch := omega) [fX12_loss, g_t, b_d, b_c, b_v, Bool.and_true, Bool.and_self, Bool.true_and, s_isIn, e], Rel_up h⟩
  · have e : wB v3 0 1 = 0 := wB_hi c
    exact ⟨-1, S, S, by simp (disch := omega) [fX11_loss, kO_0, kO_u, g_t, b_d, b_c, b_v, Bool.and_true, Bool.and_self, Bool.true_and, s_isWithin, e], by simp (disch := omega) [fX12_loss, g_t, b_d, b_c, b_v, Bool.and_true, Bool.and_self, Bool.true_and, s_isIn, e], Rel_up h⟩
  have e2 : wB (nI w) 0 1 = 1 := wB_in (lo := 0) (hi := 1) (by omega) (by omega) (by omega)
  obtain ⟨B, hB⟩ := bowlN hN.1.1
  have hB1 : ∀ j, j < n → B j ≤ 99 := fun j hj => (hB j (by omega)).1
  have hB2 : ∀ j, j < n → B j ≤ 100 := fun j hj => by have := hB1 j hj; omega
  obtain ⟨C1, l1, l2, l3, l4⟩ := c_look7 hn S
  obtain ⟨C2, r1⟩ := c_loss hn hB1 b (w := w) (by omega) 19 2 mK C1 (by omega) (by omega) (by have := mK_gt; omega) l2 (fun j hj => by rw [l3 j hj]; exact (hB j (by omega)).2)
  have hf1 : fX11_loss b (nI w) S = some (lossR B n w 19 2, C2) := by
    rw [← r1]
    unfold fX11_loss
    rw [s_isWithin, b_c, e2, if_neg (by decide), kO_u, kO_0, n1, l1]
    simp only [g_t, b_d, b_c, b_v, Bool.and_true, Bool.and_self, Bool.true_and]
    rfl
  have a1 : agr (supAll (shU b)) S C2 := av_agr (L := cond b LX11_loss_t LX11_loss_f) (by cases b; exact rX11_loss_f hf1; exact rX11_loss_t hf1) (by cases b <;> decide +kernel)
  obtain ⟨L, m1, m2, _⟩ := m_load (shU_lt b) hA hN.1 a1
  obtain ⟨L2, t1, t2, t3⟩ := m_lay (B := B) (N := 1) (law := 0) (L := L) hn hB2 (by omega) (by omega) m2.2.2.1 (fun j hj => by rw [(m2.1 j (by omega)).2.2]; exact (hB j (by omega)).2)
  have t1' : fX12_laySeats (1 : Int32) (0 : Int32) L = some L2 := t1
  obtain ⟨L3, w1⟩ := m_loss hn hB1 (w := w) (by omega) 19 2 mK L2 (by omega) (by omega) (by have := mK_gt; omega) (by rw [t3 _ _ (by omega) (by omega)]; exact m2.2.2.1) (fun j hj => ⟨by rw [t3 _ _ (by omega) (by omega), (m2.1 j (by omega)).2.2]; exact (hB j (by omega)).2, t2 j hj⟩)
  have hf2 : fX12_loss (nI w) C2 = some (lossR B n w 19 2, L3) := by
    rw [← w1]
    unfold fX12_loss
    rw [s_isIn, b_c, e2, if_neg (by decide), m1, b_v, t1', b_v]
    rfl
  exact ⟨_, _, _, hf1, hf2, Rel_fr (agr_trans (av_agr (L := cond b LX11_loss_t LX11_loss_f) (by cases b; exact rX11_loss_f hf1; exact rX11_loss_t hf1) (by cases b <;> decide +kernel)) (av_agr (rX12_loss hf2) (by cases b <;> decide +kernel))) h⟩
