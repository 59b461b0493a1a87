/-! rounds, noon: the calls -/
section
variable {p z : Nat → Nat} {n : Nat} {C L : mT}
theorem c_fb11 (hn : n ≤ 5) (hp : ∀ j, j < n → p j ≤ 60 ∧ z j ≤ 99) {T : Nat} (hT : T ≤ 999) : ∀ (m N k : Nat) (C : mT), N + m = n + 1 → m < k → cRd p z n (fun _ => 0) (fun _ => 0) C → (∀ N', N ≤ N' → fsB (Qb p z N' T n 0 0 (fun _ => 0) (fun _ => 0)) 0 (5 ^ n) = none) → ∃ C', fX6_fewestBy_11 k (nI T) (nI N) C = some (-1, C') ∧ ∀ a j, (a < 103 ∨ 105 < a) → C'.1 a j = C.1 a j
  | 0, N, k, C, hN, hk, h, hno => by
    obtain ⟨k', rfl⟩ := up1 hk
    have c : nI n < nI N := (xLt (by omega) (by omega)).mpr (by omega)
    exact ⟨C, by simp only [fX6_fewestBy_11, kO_100, g_t, b_d, b_c, b_v, Bool.and_true, Bool.and_self, Bool.true_and, h.1, if_pos c], fun _ _ _ => rfl⟩
  | m + 1, N, k, C, hN, hk, h, hno => by
    obtain ⟨k', rfl⟩ := up1 hk
    have c : ¬ nI n < nI N := fun q => by have := (xLt (by omega) (by omega)).mp q; omega
    obtain ⟨C1, r1, r2, r3, r4, r5⟩ := c_send (N := N) (T := T) hn hp (by omega) hT n 0 0 16 (fun _ => 0) (fun _ => 0) C (by omega) (by omega) (Nat.le_refl _) (fun k _ => ⟨Nat.zero_le _, Nat.zero_le _⟩) h
    rw [hno N (Nat.le_refl _)] at r1
    obtain ⟨C', s1, s2⟩ := c_fb11 hn hp hT m (N + 1) k' C1 (by omega) (by omega) r2 (fun N' h' => hno N' (by omega))
    refine ⟨C', ?_, fun a j g => by rw [s2 a j g, r5 a j g]⟩
    have o1 : nI N + (1 : Int32) = nI (N + 1) := nI_add N 1
    have r1' : fX6_sendFrom 16 (0 : Int32) (0 : Int32) (nI N) (nI T) C = some (nI 0, C1) := r1
    have c0 : nI 0 = (0 : Int32) := rfl
    rw [← s1]
    simp only [fX6_fewestBy_11, kO_100, g_t, b_d, b_c, b_v, Bool.and_true, Bool.and_self, Bool.true_and, h.1, if_neg c, r1', if_pos c0, o1]
theorem c_fb11s (hn : n ≤ 5) (hp : ∀ j, j < n → p j ≤ 60 ∧ z j ≤ 99) {T a w : Nat} (hT : T ≤ 999) (ha : a ≤ n) (hs : fsB (Qb p z a T n 0 0 (fun _ => 0) (fun _ => 0)) 0 (5 ^ n) = some w) : ∀ (m N k : Nat) (C : mT), N + m = a → m < k → cRd p z n (fun _ => 0) (fun _ => 0) C → (∀ N', N' < a → fsB (Qb p z N' T n 0 0 (fun _ => 0) (fun _ => 0)) 0 (5 ^ n) = none) → ∃ C', fX6_fewestBy_11 k (nI T) (nI N) C = some (nI a, C') ∧ (∀ j, j < n → C'.1 103 j = nI (dg5 n w j)) ∧ ∀ a j, (a < 103 ∨ 105 < a) → C'.1 a j = C.1 a j
  | 0, N, k, C, hN, hk, h, hno => by
    obtain ⟨k', rfl⟩ := up1 hk
    have hN : N = a := by omega
    subst hN
    have c : ¬ nI n < nI N := fun q => by have := (xLt (by omega) (by omega)).mp q; omega
    obtain ⟨C1, r1, r2, r3, r4, r5⟩ := c_send (N := N) (T := T) hn hp (by omega) hT n 0 0 16 (fun _ => 0) (fun _ => 0) C (by omega) (by omega) (Nat.le_refl _) (fun k _ => ⟨Nat.zero_le _, Nat.zero_le _⟩) h
    rw [hs] at r1
    refine ⟨C1, ?_, fun j hj => by have := r3 w hs j hj; rw [Nat.zero_add] at this; exact this, r5⟩
    have r1' : fX6_sendFrom 16 (0 : Int32) (0 : Int32) (nI N) (nI T) C = some (nI 1, C1) := r1
    have c0 : ¬ nI 1 = (0 : Int32) := by decide
    simp only [fX6_fewestBy_11, kO_100, g_t, b_d, b_c, b_v, Bool.and_true, Bool.and_self, Bool.true_and, h.1, if_neg c, r1', if_neg c0]
  | m + 1, N, k, C, hN, hk, h, hno => by
    obtain ⟨k', rfl⟩ := up1 hk
    have c : ¬ nI n < nI N := fun q => by have := (xLt (by omega) (by omega)).mp q; omega
    obtain ⟨C1, r1, r2, r3, r4, r5⟩ := c_send (N := N) (T := T) hn hp (by omega) hT n 0 0 16 (fun _ => 0) (fun _ => 0) C (by omega) (by omega) (Nat.le_refl _) (fun k _ => ⟨Nat.zero_le _, Nat.zero_le _⟩) h
    rw [hno N (by omega)] at r1
    obtain ⟨C', s1, s2, s3⟩ := c_fb11s hn hp hT ha hs m (N + 1) k' C1 (by omega) (by omega) r2 hno
    refine ⟨C', ?_, s2, fun a j g => by rw [s3 a j g, r5 a j g]⟩
    have o1 : nI N + (1 : Int32) = nI (N + 1) := nI_add N 1
    have r1' : fX6_sendFrom 16 (0 : Int32) (0 : Int32) (nI N) (nI T) C = some (nI 0, C1) := r1
    have c0 : nI 0 = (0 : Int32) := rfl
    rw [← s1]
    simp only [fX6_fewestBy_11, kO_100, g_t, b_d, b_c, b_v, Bool.and_true, Bool.and_self, Bool.true_and, h.1, if_neg c, r1', if_pos c0, o1]
/-- noon: the best of the first W plans -/
def nnO (x : Nat) : Int32 := if x = 1000000 then -1 else nI x
theorem m_n28 (hn : n ≤ 5) (hp : ∀ j, j < n → p j ≤ 60 ∧ z j ≤ 99) {N : Nat} (hN : N ≤ 5) : ∀ (m W k : Nat) (L : mT), W + m = 5 ^ n → m < k → mRd p z n L → (mnB (fun w => if gW n w ≤ N then fW p z n w else 1000000) 0 W ≤ 999 ∨ mnB (fun w => if gW n w ≤ N then fW p z n w else 1000000) 0 W = 1000000) → ∃ L', fX12_noon_28 k (nI N) (nnO (mnB (fun w => if gW n w ≤ N then fW p z n w else 1000000) 0 W)) (nI (5 ^ n)) (nI W) L = some (nnO (mnB (fun w => if gW n w ≤ N then fW p z n w else 1000000) 0 (5 ^ n)), L')
  | 0, W, k, L, hW, hk, h, hb => by
    obtain ⟨k', rfl⟩ := up1 hk
    have hW : W = 5 ^ n := by omega
    subst hW
    have c : nI (5 ^ n) ≤ nI (5 ^ n) := Int32.le_refl _
    exact ⟨L, by simp only [fX12_noon_28, if_pos c]⟩
  | m + 1, W, k, L, hW, hk, h, hb => by
    obtain ⟨k', rfl⟩ := up1 hk
    have hp5 := p5 hn
    have c : ¬ nI (5 ^ n) ≤ nI W := fun z => by have := (xLe (by omega) (by omega)).mp z; omega
    obtain ⟨L1, r1, r2, r3, r4⟩ := m_lc (w := W) hn h.1 (by omega)
    have h1 : mRd p z n L1 := ⟨by rw [r4 _ _ (by omega)]; exact h.1, fun j hj => by rw [r4 _ _ (by omega), r4 _ _ (by omega)]; exact h.2 j hj⟩
    have o1 : nI W + (1 : Int32) = nI (W + 1) := nI_add W 1
    have hf := fW_eq (p := p) (z := z) (n := n) (w := W) (by omega) (lm_le hn hp _)
    have hlm := lm_le hn hp (dg5 n W)
    have em : mnB (fun w => if gW n w ≤ N then fW p z n w else 1000000) 0 (W + 1) = min (mnB (fun w => if gW n w ≤ N then fW p z n w else 1000000) 0 W) (if gW n W ≤ N then fW p z n W else 1000000) := by
      show min _ ((fun w => if gW n w ≤ N then fW p z n w else 1000000) (0 + W)) = _
      rw [Nat.zero_add]
    by_cases hv : vdD (dg5 n W) n
    · have ru := r1 hv
      have ef := hf.1 hv
      have hu : gW n W ≤ n := vdD_us hv
      have c2 : ¬ nI (gW n W) < (0 : Int32) := nI_pos (by omega)
      by_cases c3 : gW n W ≤ N
      · have c3' : nI (gW n W) ≤ nI N := (xLe (by omega) (by omega)).mpr c3
        have hd := m_done hn hp h1 (dg5_lt n W) r3
        rw [if_pos c3, ef] at em
        have ih := m_n28 hn hp hN m (W + 1) k' L1 (by omega) (by omega) h1 (by rw [em]; omega)
        rw [em] at ih
        generalize mnB (fun w => if gW n w ≤ N then fW p z n w else 1000000) 0 W = x at hb ih ⊢
        obtain ⟨L', t1⟩ := ih
        refine ⟨L', ?_⟩
        rw [← t1]
        by_cases q : x = 1000000
        · have ex : nnO x = -1 := if_pos q
          have ey : nnO (min x (lmD p z (dg5 n W) n)) = nI (lmD p z (dg5 n W) n) := by
            unfold nnO
            rw [if_neg (by omega)]
            exact congrArg nI (by omega)
          have c4 : (-1 : Int32) < 0 := by decide
          rw [ex, ey]
          simp only [fX12_noon_28, fX12_noon_72, fX12_noon_78, fX12_noon_79, g_t, b_d, b_c, b_v, Bool.and_true, Bool.and_self, Bool.true_and, if_neg c, ru, if_neg c2, if_pos c3', hd, if_pos c4, o1]
        · have ex : nnO x = nI x := if_neg q
          have c4 : ¬ nI x < (0 : Int32) := nI_pos (by omega)
          rw [ex]
          by_cases y : x ≤ lmD p z (dg5 n W) n
          · have y' : nI x ≤ nI (lmD p z (dg5 n W) n) := (xLe (by omega) (by omega)).mpr y
            have ey : nnO (min x (lmD p z (dg5 n W) n)) = nI x := by
              unfold nnO
              rw [if_neg (by omega)]
              exact congrArg nI (by omega)
            rw [ey]
            simp only [fX12_noon_28, fX12_noon_78, fX12_noon_79, g_t, b_d, b_c, b_v, Bool.and_true, Bool.and_self, Bool.true_and, if_neg c, ru, if_neg c2, if_pos c3', hd, if_neg c4, if_pos y', o1]
          · have y' : ¬ nI x ≤ nI (lmD p z (dg5 n W) n) := fun s => y ((xLe (by omega) (by omega)).mp s)
            have ey : nnO (min x (lmD p z (dg5 n W) n)) = nI (lmD p z (dg5 n W) n) := by
              unfold nnO
              rw [if_neg (by omega)]
              exact congrArg nI (by omega)
            rw [ey]
            simp only [fX12_noon_28, fX12_noon_72, fX12_noon_78, fX12_noon_79, g_t, b_d, b_c, b_v, Bool.and_true, Bool.and_self, Bool.true_and, if_neg c, ru, if_neg c2, if_pos c3', hd, if_neg c4, if_neg y', o1]
      · have c3' : ¬ nI (gW n W) ≤ nI N := fun s => c3 ((xLe (by omega) (by omega)).mp s)
        rw [if_neg c3] at em
        have e' : mnB (fun w => if gW n w ≤ N then fW p z n w else 1000000) 0 (W + 1) = mnB (fun w => if gW n w ≤ N then fW p z n w else 1000000) 0 W := by omega
        obtain ⟨L', t1⟩ := m_n28 hn hp hN m (W + 1) k' L1 (by omega) (by omega) h1 (by rw [e']; exact hb)
        rw [e'] at t1
        refine ⟨L', ?_⟩
        rw [← t1]
        simp only [fX12_noon_28, fX12_noon_79, g_t, b_d, b_c, b_v, Bool.and_true, Bool.and_self, Bool.true_and, if_neg c, ru, if_neg c2, if_neg c3', o1]
    · have ru := r2 hv
      have ef := hf.2 hv
      have c2 : (-1 : Int32) < 0 := by decide
      have e' : mnB (fun w => if gW n w ≤ N then fW p z n w else 1000000) 0 (W + 1) = mnB (fun w => if gW n w ≤ N then fW p z n w else 1000000) 0 W := by
        rw [em]
        have := mnB_le (fun w => if gW n w ≤ N then fW p z n w else 1000000) 0 W
        split
        · omega
        · omega
      obtain ⟨L', t1⟩ := m_n28 hn hp hN m (W + 1) k' L1 (by omega) (by omega) h1 (by rw [e']; exact hb)
      rw [e'] at t1
      refine ⟨L', ?_⟩
      rw [← t1]
      simp only [fX12_noon_28, fX12_noon_79, g_t, b_d, b_c, b_v, Bool.and_true, Bool.and_self, Bool.true_and, if_neg c, ru, if_pos c2, o1]
end
theorem mnB_congr {h h' : Nat → Nat} {lo : Nat} : ∀ {k : Nat}, (∀ x, x < k → h (lo + x) = h' (lo + x)) → mnB h lo k = mnB h' lo k
  | 0, _ => rfl
  | k + 1, hh => by
    unfold mnB
    rw [mnB_congr (k := k) (fun x hx => hh x (by omega)), hh k (by omega)]
/-- places and bowls as numbers -/
theorem pzN {b : Bool} {n : Nat} {S : mT} (hA : rA (shU b) n S) (hN : rNow S) : ∃ p z : Nat → Nat, (∀ j, j < n → p j ≤ 60 ∧ z j ≤ 99) ∧ ∀ j, j < n → (S.1 (shU b + 2) j = nI (p j) ∧ S.1 35 (10 + j) = nI (z j)) ∧ S.1 205 j = nI (p j) := by
  have hn := hA.1.1
  refine ⟨fun j => mIx (S.1 (shU b + 2) j), fun j => mIx (S.1 35 (10 + j)), fun j hj => ?_, fun j hj => ?_⟩
  · obtain ⟨p, _, _, hp, _, _, e1, e2, _⟩ := hA.1.2.2.2 j hj
    obtain ⟨_, _, z, _, _, hz, _, _, ez⟩ := hN.1.1 j (by omega)
    show mIx (S.1 (shU b + 2) j) ≤ 60 ∧ mIx (S.1 35 (10 + j)) ≤ 99
    rw [e1, ez, xIx (by omega), xIx (by omega)]
    exact ⟨hp, hz⟩
  · obtain ⟨p, _, _, hp, _, _, e1, e2, _⟩ := hA.1.2.2.2 j hj
    obtain ⟨_, _, z, _, _, hz, _, _, ez⟩ := hN.1.1 j (by omega)
    show (S.1 (shU b + 2) j = nI (mIx (S.1 (shU b + 2) j)) ∧ S.1 35 (10 + j) = nI (mIx (S.1 35 (10 + j)))) ∧ S.1 205 j = nI (mIx (S.1 (shU b + 2) j))
    rw [e1, e2, ez, xIx (by omega), xIx (by omega)]
    exact ⟨⟨rfl, rfl⟩, rfl⟩
theorem mRd_of {b : Bool} {n : Nat} {S T : mT} {p z : Nat → Nat} (hA : rA (shU b) n S) (hN : rNow S) (hpz : ∀ j, j < n → (S.1 (shU b + 2) j = nI (p j) ∧ S.1 35 (10 + j) = nI (z j)) ∧ S.1 205 j = nI (p j)) (aA : agr (supA (shU b)) S T) (aN : agr supN S T) : mRd p z n T := by
  have hn := hA.1.1
  have hA' := rA_fr aA hA
  have e208 : T.1 208 = S.1 208 := agr_row aN (by simp) 208 (Nat.le_refl _) (Nat.le_refl _)
  have e205 : T.1 205 = S.1 205 := agr_row aA (by simp) 205 (Nat.le_refl _) (Nat.le_refl _)
  refine ⟨hA'.1.2.2.1, fun j hj => ?_⟩
  rw [e205, e208, hN.2 _ (by omega)]
  exact ⟨(hpz j hj).2, (hpz j hj).1.2⟩
theorem zz_noon : zH_noon Rel := by
  intro k b S v hk h
  obtain ⟨n, hA, hN, hBx, hC, hT, hL⟩ := Rel_iff.mp h
  have hn := hA.1.1
  have n1 := hA.1.2.1
  have n2 := hA.1.2.2.1
  have b0 : ∀ N, N ≤ 5 → (wB (nI N) 1 5 = 1 ↔ 1 ≤ N) := fun N hN => by
    constructor
    · intro e
      rcases Nat.eq_zero_or_pos N with q | q
      · subst q
        exact absurd e (by decide)
      · exact q
    · exact fun q => wB_in (lo := 1) (hi := 5) q hN (by omega)
  by_cases h0 : n = 0
  · have c0 : nI n = (0 : Int32) := by rw [h0]; rfl
    refine ⟨-1, S, S, ?_, ?_, Rel_up h⟩
    · unfold fX11_noon fX11_noon_19
      rw [s_isWithin, b_c]
      split
      · rfl
      · rw [kO_u, kO_0, n1, if_pos c0]
        rfl
    · unfold fX12_noon fX12_noon_16
      rw [kO_187, n2, if_pos c0]
      rfl
  have c0 : ¬ nI n = (0 : Int32) := fun q => h0 ((xEq (b := 0) (by omega) (by omega)).mp q)
  have out : wB v 1 5 = 0 → ∃ r S1 S2, fX11_noon b v S = some (r, S1) ∧ fX12_noon v S1 = some (r, S2) ∧ Rel (k + 6) b S2 := fun e => ⟨-1, S, S, by
    unfold fX11_noon fX11_noon_19
    rw [s_isWithin, b_c, if_pos e], by
    unfold fX12_noon fX12_noon_16
    rw [kO_187, n2, if_neg c0, s_isIn]
    simp only [g_t, b_d, b_c, b_v, Bool.and_true, Bool.and_self, Bool.true_and, if_pos e], Rel_up h⟩
  rcases v_cases 1 5 (by omega) (by omega) v with c | c | ⟨N, hN1, hN2, rfl⟩
  · exact out (wB_lo c)
  · exact out (wB_hi c)
  have e : wB (nI N) 1 5 = 1 := (b0 N hN2).mpr hN1
  have e1 : ¬ (1 : Int32) = 0 := by decide
  obtain ⟨p, z, hp, hpz⟩ := pzN hA hN.1
  obtain ⟨C, l1, l2, l3, l4⟩ := c_look6 (b := b) hn n1 (fun j hj => (hpz j hj).1)
  obtain ⟨C2, r1, r2⟩ := c_soon (N := N) hn hp hN2 n 0 0 0 16 (fun _ => 0) (fun _ => 0) C (by omega) (by omega) (Nat.le_refl _) (by omega) (fun k _ => ⟨Nat.zero_le _, Nat.zero_le _⟩) l2
  have em : mnB (Hb p z N n 0 0 (fun _ => 0) (fun _ => 0) 0) 0 (5 ^ n) = mnB (fun w => if gW n w ≤ N then fW p z n w else 1000000) 0 (5 ^ n) := mnB_congr fun x hx => by
    rw [Nat.zero_add]
    exact Hb_fg hn hp hx
  rw [em] at r1
  have hz : mnB (fun w => if gW n w ≤ N then fW p z n w else 1000000) 0 (5 ^ n) ≤ 999 := by
    have hpos : 0 < 5 ^ n := Nat.pow_pos (by omega)
    have hd0 : ∀ j, dg5 n 0 j = 0 := fun j => by
      unfold dg5
      rw [Nat.zero_div]
    have hv : vdD (dg5 n 0) n := fun j _ => by
      rw [hd0]
      exact Nat.zero_le _
    have hu : gW n 0 ≤ N := (usD_le n).mpr fun j _ => by
      rw [hd0]
      omega
    have hf := (fW_eq (p := p) (z := z) hpos (lm_le hn hp _)).1 hv
    have hlm := lm_le hn hp (dg5 n 0)
    have := mnB_add (fun w => if gW n w ≤ N then fW p z n w else 1000000) 0 1 (5 ^ n - 1)
    rw [show 1 + (5 ^ n - 1) = 5 ^ n by omega] at this
    have e1 : mnB (fun w => if gW n w ≤ N then fW p z n w else 1000000) 0 1 = min 1000000 (if gW n 0 ≤ N then fW p z n 0 else 1000000) := rfl
    rw [e1, if_pos hu, hf] at this
    omega
  have r1' : fX6_soonestFrom 16 (0 : Int32) (0 : Int32) (nI N) (0 : Int32) C = _ := r1
  have hf1 : fX11_noon b (nI N) S = some (nnO (mnB (fun w => if gW n w ≤ N then fW p z n w else 1000000) 0 (5 ^ n)), C2) := by
    have en : nnO (mnB (fun w => if gW n w ≤ N then fW p z n w else 1000000) 0 (5 ^ n)) = nI (mnB (fun w => if gW n w ≤ N then fW p z n w else 1000000) 0 (5 ^ n)) := if_neg (by omega)
    rw [en]
    unfold fX11_noon fX6_firstNoon
    rw [s_isWithin, b_c, e, if_neg e1, kO_u, kO_0, n1, if_neg c0]
    simp only [g_t, b_d, b_c, b_v, Bool.and_true, Bool.and_self, Bool.true_and]
    rw [l1, b_v, r1', b_c, b_c]
  have a1 : agr (supAll (shU b)) S C2 := av_agr (L := cond b LX11_noon_t LX11_noon_f) (by cases b; exact rX11_noon_f hf1; exact rX11_noon_t hf1) (by cases b <;> decide +kernel)
  have hm := mRd_of hA hN.1 hpz (agr_app.mp a1).1 (agr_app.mp (agr_app.mp a1).2).1
  obtain ⟨L', t1⟩ := m_n28 (N := N) hn hp hN2 (5 ^ n) 0 mK C2 (by omega) (by have := mK_gt; have := p5 hn; omega) hm (Or.inr rfl)
  have hf2 : fX12_noon (nI N) C2 = some (nnO (mnB (fun w => if gW n w ≤ N then fW p z n w else 1000000) 0 (5 ^ n)), L') := by
    rw [← t1]
    unfold fX12_noon
    rw [kO_187, hm.1, if_neg c0, s_isIn]
    simp only [g_t, b_d, b_c, b_v, Bool.and_true, Bool.and_self, Bool.true_and]
    rw [e, if_neg e1, m_cr hn hm.1, b_c]
    rfl
  exact ⟨_, _, _, hf1, hf2, Rel_fr (agr_trans (av_agr (L := cond b LX11_noon_t LX11_noon_f) (by cases b; exact rX11_noon_f hf1; exact rX11_noon_t hf1) (by cases b <;> decide +kernel)) (av_agr (rX12_noon hf2) (by cases b <;> decide +kernel))) h⟩
theorem zz_rounds : zH_rounds Rel := by
  intro k b S v hk h
  obtain ⟨n, hA, hN, hBx, hC, hT, hL⟩ := Rel_iff.mp h
  have hn := hA.1.1
  have n1 := hA.1.2.1
  have sh : shU b = 3 ∨ shU b = 19 := by cases b; exact Or.inl rfl; exact Or.inr rfl
  have out : wB v 0 999 = 0 → ∃ r S1 S2, fX11_rounds b v S = some (r, S1) ∧ fX12_rounds v S1 = some (r, S2) ∧ Rel (k + 6) b S2 := fun e => by
    have hf1 : fX11_rounds b v S = some (-1, sI S 0 13 (nI 0)) := by
      simp only [fX11_rounds, kO_0, kO_100, kO_u, fX11_rounds_65, g_t, b_d, b_c, b_v, Bool.and_true, Bool.and_self, Bool.true_and, s_isWithin, e, if_true]
      rfl
    have hf2 : fX12_rounds v (sI S 0 13 (nI 0)) = some (-1, sI (sI S 0 13 (nI 0)) 187 51 (nI 0)) := by
      simp only [fX12_rounds, kO_187, g_t, b_d, b_c, b_v, Bool.and_true, Bool.and_self, Bool.true_and, s_isIn, e, if_true]
      rfl
    exact ⟨_, _, _, hf1, hf2, Rel_nl (agr_trans (av_agr (L := cond b LX11_rounds_t LX11_rounds_f) (by cases b; exact rX11_rounds_f hf1; exact rX11_rounds_t hf1) (by cases b <;> decide +kernel)) (av_agr (rX12_rounds hf2) (by cases b <;> decide +kernel))) h ⟨0, by omega, by rw [sI_rd, if_neg (by omega), sI_rd, if_pos ⟨rfl, rfl⟩], by rw [sI_rd, if_pos ⟨rfl, rfl⟩], fun i hi => by omega⟩⟩
  rcases v_cases 0 999 (by omega) (by omega) v with c | c | ⟨T, _, hT9, rfl⟩
  · exact out (wB_lo c)
  · exact out (wB_hi c)
  have e : wB (nI T) 0 999 = 1 := wB_in (lo := 0) (hi := 999) (by omega) (by omega) (by omega)
  have e' : ¬ (1 : Int32) = 0 := by decide
  obtain ⟨p, z, hp, hpz⟩ := pzN hA hN.1
  have n1' : (sI S 0 13 (nI 0)).1 (shU b) 9 = nI n := by rw [sI_rd, if_neg (by omega)]; exact n1
  obtain ⟨C, l1, l2, l3, l4⟩ := c_look6 (b := b) (S := sI S 0 13 (nI 0)) hn n1' (fun j hj => by rw [sI_rd, if_neg (by omega), sI_rd, if_neg (by omega)]; exact (hpz j hj).1)
  rw [sI_rd, if_pos ⟨rfl, rfl⟩] at l4
  have hlook : fX11_rounds b (nI T) S = bndC (fX6_fewestBy (nI T) C) fun x6 S5 => if x6 = (-1 : Int32) then fX11_rounds_65 b x6 S5 else grd (kO (shU b) 8 && (kO 0 11 && (kO 100 6 && (kO 0 11 && true)))) <| bndV (fX11_lay 103 (S5.1 (shU b) 9) S5) fun S7 => fX11_rounds_65 b x6 S7 := by
    have l1' : fX6_look (shU b) 35 (sI S 0 13 (0 : Int32)) = some C := l1
    conv => lhs; unfold fX11_rounds
    rw [kO_0, Bool.and_true, g_t, b_d, s_isWithin, b_c, e, if_neg e', l1']
    simp only [g_t, b_d, b_c, b_v, Bool.and_true, Bool.and_self, Bool.true_and]
  have model : ∀ S1, agr (supNL (shU b)) S S1 → ∃ L', fX12_rounds (nI T) S1 = some (lvO (bst (fW p z n) (gW n) T (5 ^ n)), L') ∧ lvS5 n (bst (fW p z n) (gW n) T (5 ^ n)) L' := fun S1 a1 => by
    have a2 : agr (supNL (shU b)) S1 (sI S1 187 51 (nI 0)) := av_agr ((Fr.rfl (inM 999999 [(187, 187, some 51)]) S1).sI (by decide)) (by cases b <;> decide +kernel)
    have a3 := agr_trans a1 a2
    have hm := mRd_of hA hN.1 hpz (agr_app.mp a3).1 (agr_app.mp (agr_app.mp a3).2).1
    obtain ⟨L', r1, r2⟩ := m_r28 (T := T) hn hp hT9 (5 ^ n) 0 mK (sI S1 187 51 (nI 0)) (by omega) (by have := mK_gt; have := p5 hn; omega) hm (by
      show (sI S1 187 51 (nI 0)).1 187 51 = nI 0
      rw [sI_rd, if_pos ⟨rfl, rfl⟩])
    refine ⟨L', ?_, r2⟩
    rw [← r1]
    have hcr : fX12_countersRows (sI S1 187 51 (0 : Int32)) = some (nI (5 ^ n), sI S1 187 51 (nI 0)) := m_cr hn hm.1
    unfold fX12_rounds
    rw [kO_187, Bool.and_true, g_t, b_d, s_isIn, b_c, e, if_neg e', hcr, b_c]
    rfl
  by_cases h0 : n = 0
  · subst h0
    have hb : bst (fW p z 0) (gW 0) T (5 ^ 0) = some (0, 0) := by
      have : fW p z 0 0 = 0 := rfl
      show (if fW p z 0 0 ≤ T then some (gW 0 0, 0) else none) = _
      rw [this, if_pos (Nat.zero_le _)]
      rfl
    have hf : fX6_fewestBy (nI T) C = some (0, C) := by
      unfold fX6_fewestBy
      rw [kO_100, l2.1]
      rfl
    obtain ⟨C4, y1, y2, y3⟩ := s_lay (a1 := 103) s_103 (by decide +kernel) (by omega) (Nat.zero_le 5) C
    have hf1 : fX11_rounds b (nI T) S = some (nI 0, C4) := by
      have c9 : ¬ (0 : Int32) = -1 := by decide
      rw [hlook, hf, b_c, if_neg c9, kO_u, kO_0, kO_100, l3, y1]
      rfl
    have a1 : agr (supNL (shU b)) S C4 := av_agr (L := cond b LX11_rounds_t LX11_rounds_f) (by cases b; exact rX11_rounds_f hf1; exact rX11_rounds_t hf1) (by cases b <;> decide +kernel)
    obtain ⟨L', hf2, hs⟩ := model C4 a1
    rw [hb] at hf2 hs
    have a9 : agr [(186, 186, none), (0, 0, some 13)] C4 L' := av_agr (rX12_rounds hf2) (by decide +kernel)
    exact ⟨_, _, _, hf1, hf2, Rel_nl (agr_trans (av_agr (L := cond b LX11_rounds_t LX11_rounds_f) (by cases b; exact rX11_rounds_f hf1; exact rX11_rounds_t hf1) (by cases b <;> decide +kernel)) (av_agr (rX12_rounds hf2) (by cases b <;> decide +kernel))) h ⟨0, by omega, by rw [a9.2.1]; exact y2, hs.1, fun i hi => by omega⟩⟩
  have c0 : ¬ nI n = (0 : Int32) := fun q => h0 ((xEq (b := 0) (by omega) (by omega)).mp q)
  have hfew : fX6_fewestBy (nI T) C = fX6_fewestBy_11 mK (nI T) (nI 1) C := by
    conv => lhs; unfold fX6_fewestBy
    rw [kO_100, l2.1, if_neg c0, Bool.and_true, g_t]
    rfl
  rcases rounds_eq (T := T) hn (by omega : 0 < n) hp hT9 with ⟨q1, q2⟩ | ⟨a, w, q1, q2, q3, q4, q5⟩
  · obtain ⟨C2, s1, s2⟩ := c_fb11 hn hp hT9 n 1 mK C (by omega) (by have := mK_gt; omega) l2 (fun N' _ => q2 N')
    have hf1 : fX11_rounds b (nI T) S = some (-1, C2) := by
      rw [hlook, hfew, s1, b_c, if_pos rfl]
      rfl
    have a1 : agr (supNL (shU b)) S C2 := av_agr (L := cond b LX11_rounds_t LX11_rounds_f) (by cases b; exact rX11_rounds_f hf1; exact rX11_rounds_t hf1) (by cases b <;> decide +kernel)
    obtain ⟨L', hf2, hs⟩ := model C2 a1
    rw [q1] at hf2 hs
    have a9 : agr [(186, 186, none), (0, 0, some 13)] C2 L' := av_agr (rX12_rounds hf2) (by decide +kernel)
    exact ⟨_, _, _, hf1, hf2, Rel_nl (agr_trans (av_agr (L := cond b LX11_rounds_t LX11_rounds_f) (by cases b; exact rX11_rounds_f hf1; exact rX11_rounds_t hf1) (by cases b <;> decide +kernel)) (av_agr (rX12_rounds hf2) (by cases b <;> decide +kernel))) h ⟨0, by omega, by rw [a9.2.1, s2 _ _ (by omega)]; exact l4, hs, fun i hi => by omega⟩⟩
  · obtain ⟨C2, s1, s2, s3⟩ := c_fb11s hn hp hT9 q3 q5 (a - 1) 1 mK C (by omega) (by have := mK_gt; omega) l2 q4
    have n9 : C2.1 (shU b) 9 = nI n := by rw [s3 _ _ (by omega)]; exact l3
    obtain ⟨C4, y1, y2, y3⟩ := s_lay (a1 := 103) s_103 (by decide +kernel) (by omega) hn C2
    have hf1 : fX11_rounds b (nI T) S = some (nI a, C4) := by
      have c9 : ¬ nI a = (-1 : Int32) := fun z => by
        have hh : (nI a = nM) = False := nM_eq (by omega)
        exact (hh ▸ z : False)
      rw [hlook, hfew, s1, b_c, if_neg c9, kO_u, kO_0, kO_100, n9, y1]
      rfl
    have a1 : agr (supNL (shU b)) S C4 := av_agr (L := cond b LX11_rounds_t LX11_rounds_f) (by cases b; exact rX11_rounds_f hf1; exact rX11_rounds_t hf1) (by cases b <;> decide +kernel)
    obtain ⟨L', hf2, hs⟩ := model C4 a1
    rw [q1] at hf2 hs
    have a9 : agr [(186, 186, none), (0, 0, some 13)] C4 L' := av_agr (rX12_rounds hf2) (by decide +kernel)
    have e186 : L'.1 186 = C4.1 186 := a9.1 186 (Nat.le_refl _) (Nat.le_refl _)
    refine ⟨_, _, _, hf1, hf2, Rel_nl (agr_trans (av_agr (L := cond b LX11_rounds_t LX11_rounds_f) (by cases b; exact rX11_rounds_f hf1; exact rX11_rounds_t hf1) (by cases b <;> decide +kernel)) (av_agr (rX12_rounds hf2) (by cases b <;> decide +kernel))) h ⟨n, by omega, by rw [a9.2.1]; exact y2, hs.1, fun i hi => ?_⟩⟩
    rw [e186, y3 i hi, hs.2 i hi]
    exact s2 i hi
