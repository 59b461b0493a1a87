/-! PROVINCE: both answers are one. -/
/-- a province that both take -/
theorem Rel_yes {k n : Nat} {b : Bool} {T : Nat → Nat} {t : Nat} {S D S1 L2 : mT} (h : Rel k b S) (hn : n ≤ 5) (h9 : D.1 (shU (!b)) 9 = nI n) (a3 : fKl (shU (!b)) S D)
    (p35 : ∀ j, j < 17 → S1.1 35 j = if j = 16 then D.1 (shU (!b)) 10 else if j < n then D.1 (shU (!b) + 3) j else 0) (p39 : ∀ j, j < 17 → S1.1 39 j = S1.1 35 j) (p37 : S1.1 37 3 = nI 0 ∧ S1.1 37 4 = nI 0 ∧ S1.1 37 5 = nI 0) (p84 : ∀ x, x < 3 → S1.1 84 x = 0) (p114 : S1.1 114 5 = 0) (p120 : S1.1 120 14 = 0) (p140 : S1.1 140 8 = 0) (p0 : S1.1 0 13 = 0) (p11 : S1.1 1 1 = 0)
    (pf : ∀ a j, a ≠ 35 → a ≠ 39 → a ≠ 84 → ¬ (a = 37 ∧ (j = 3 ∨ j = 4 ∨ j = 5)) → ¬ (a = 114 ∧ j = 5) → ¬ (a = 120 ∧ j = 14) → ¬ (a = 140 ∧ j = 8) → ¬ (a = 0 ∧ j = 13) → ¬ (a = 1 ∧ j = 1) → S1.1 a j = D.1 a j)
    (hd2 : D.1 1 2 = nI 0) (kp : ∀ a j, (¬ (190 ≤ a ∧ a ≤ 192) ∧ a ≠ 196 ∧ a ≠ 198 ∧ ¬ (201 ≤ a ∧ a ≤ 204) ∧ ¬ (a = 187 ∧ (j = 1 ∨ j = 2 ∨ j = 3 ∨ j = 4 ∨ j = 5 ∨ j = 6 ∨ j = 7 ∨ j = 8 ∨ j = 21 ∨ j = 22 ∨ j = 23 ∨ j = 25 ∨ j = 26 ∨ j = 35 ∨ j = 36 ∨ j = 38))) → L2.1 a j = S1.1 a j) (l1 : L2.1 187 1 = 0) (l2 : L2.1 187 2 = nI 0) (l3 : L2.1 187 3 = -1) (R : RJ T t (shU (!b)) D L2) : ∃ F, fX12_province_31 mK (0 : Int32) (sI (sI L2 187 37 (L2.1 187 35)) 187 24 (L2.1 187 23)) = some (nI n, F) ∧ Rel (k + 6) (!b) F := by
  have hsh : (shU b = 3 ∧ shU (!b) = 19) ∨ (shU b = 19 ∧ shU (!b) = 3) := by cases b; exact Or.inl ⟨rfl, rfl⟩; exact Or.inr ⟨rfl, rfl⟩
  obtain ⟨n0, _, _, _, ⟨_, ⟨_, ⟨st, st1, st2, st3⟩, h130, _⟩, ⟨_, h175, _⟩⟩, ⟨tm, tm1, tm2, tm3⟩, _⟩ := Rel_iff.mp h
  obtain ⟨n', ua, ub, uc, ⟨_, hn9', h35, _, hH⟩, J0, J1, J2, h23, hd⟩ := R
  have hnn : n' = n := by
    have z := hn9'.symm.trans h9
    exact (xEq (by omega) (by omega)).mp z
  rw [hnn] at h35 hH
  have J0' : lawJ 0 (shU (!b) + 6 + 3 * 0) ua D L2 := J0
  have J1' : lawJ 1 (shU (!b) + 6 + 3 * 1) ub D L2 := J1
  have J2' : lawJ 2 (shU (!b) + 6 + 3 * 2) uc D L2 := J2
  obtain ⟨b0, n0', Q0⟩ := lawJ_fl J0'
  obtain ⟨b1, n1', Q1⟩ := lawJ_fl J1'
  obtain ⟨b2, n2', Q2⟩ := lawJ_fl J2'
  obtain ⟨v, hv, d10, l36⟩ : ∃ v, v ≤ 999 ∧ D.1 (shU (!b)) 10 = nI v ∧ L2.1 187 36 = nI v := by
    rcases hd with ⟨_, _, z1, z2⟩ | ⟨_, _, v, z0, z1, z2⟩
    · exact ⟨0, by omega, z1, z2⟩
    · exact ⟨v, z0, z1, z2⟩
  obtain ⟨L3, hL3⟩ : ∃ L3, sI (sI L2 187 37 (L2.1 187 35)) 187 24 (L2.1 187 23) = L3 := ⟨_, rfl⟩
  have e3 : ∀ a j, ¬ (a = 187 ∧ (j = 37 ∨ j = 24)) → L3.1 a j = L2.1 a j := fun a j g => by rw [← hL3, sI_ne (by omega), sI_ne (by omega)]
  have e37 : L3.1 187 37 = nI n := by rw [← hL3, sI_ne (by omega), sI_eq]; exact h35
  have e24 : L3.1 187 24 = nI (ua + ub + uc) := by rw [← hL3, sI_eq]; exact h23
  obtain ⟨F, r1, r2, r3, r4, r5, r6, r7, r8, r9, r10, r11⟩ := m_pcopy hn (b := fun f => if f = 0 then b0 else if f = 1 then b1 else b2) (len := fun f => if f = 0 then n0' else if f = 1 then n1' else n2') (S := L3) (fun f hf => by
    rw [e3 _ _ (by omega), e3 _ _ (by omega)]
    obtain rfl | rfl | rfl : f = 0 ∨ f = 1 ∨ f = 2 := by omega
    · exact ⟨Q0.1, Q0.2.1, Q0.2.2.1, Q0.2.2.2.1, Q0.2.2.2.2.1⟩
    · exact ⟨Q1.1, Q1.2.1, Q1.2.2.1, Q1.2.2.2.1, Q1.2.2.2.2.1⟩
    · exact ⟨Q2.1, Q2.2.1, Q2.2.2.1, Q2.2.2.2.1, Q2.2.2.2.2.1⟩) e37
  have k0 : F.1 199 0 = nI b0 ∧ F.1 195 0 = nI n0' ∧ ∀ j, j < n0' → F.1 193 (320 * 0 + j) = L3.1 190 (320 * 0 + j) ∧ F.1 194 (320 * 0 + j) = L3.1 191 (320 * 0 + j) := r2 0 (by omega)
  have k1 : F.1 199 1 = nI b1 ∧ F.1 195 1 = nI n1' ∧ ∀ j, j < n1' → F.1 193 (320 * 1 + j) = L3.1 190 (320 * 1 + j) ∧ F.1 194 (320 * 1 + j) = L3.1 191 (320 * 1 + j) := r2 1 (by omega)
  have k2 : F.1 199 2 = nI b2 ∧ F.1 195 2 = nI n2' ∧ ∀ j, j < n2' → F.1 193 (320 * 2 + j) = L3.1 190 (320 * 2 + j) ∧ F.1 194 (320 * 2 + j) = L3.1 191 (320 * 2 + j) := r2 2 (by omega)
  refine ⟨F, by rw [hL3]; exact r1, ?_⟩
  have eF : ∀ a j, a < 187 → F.1 a j = S1.1 a j := fun a j g => by rw [r11 _ _ (by omega) (by omega) (by omega) (by omega) (by omega), e3 _ _ (by omega), kp _ _ (by omega)]
  have eD : ∀ a j, a < 187 → a ≠ 35 → a ≠ 39 → a ≠ 84 → ¬ (a = 37 ∧ (j = 3 ∨ j = 4 ∨ j = 5)) → ¬ (a = 114 ∧ j = 5) → ¬ (a = 120 ∧ j = 14) → ¬ (a = 140 ∧ j = 8) → ¬ (a = 0 ∧ j = 13) → ¬ (a = 1 ∧ j = 1) → F.1 a j = D.1 a j := fun a j g0 g1 g2 g3 g4 g5 g6 g7 g8 g9 => by rw [eF a j g0, pf a j g1 g2 g3 g4 g5 g6 g7 g8 g9]
  have eU : ∀ a j, shU (!b) ≤ a → a ≤ shU (!b) + 15 → F.1 a j = D.1 a j := fun a j g1 g2 => eD a j (by omega) (by omega) (by omega) (by omega) (by omega) (by omega) (by omega) (by omega) (by omega) (by omega)
  have f35 : ∀ j, j < 17 → F.1 35 j = if j = 16 then nI v else if j < n then D.1 (shU (!b) + 3) j else 0 := fun j hj => by rw [eF _ _ (by omega), p35 j hj, d10]
  have z35 : ∀ j, n ≤ j → j < 16 → F.1 35 j = nI 0 := fun j g1 g2 => by rw [f35 j (by omega), if_neg (by omega), if_neg (by omega)]; rfl
  have row : okRow (F.1 35) := by
    refine ⟨fun h hh => ?_, 0, v, by omega, hv, z35 _ (by omega) (by omega), ?_⟩
    · by_cases c : h < n
      · obtain ⟨p, d, j, q, z1, z2, z3, z4, y1, y2, y3, y4, y5, y6, y7, y8⟩ := hH h c
        exact ⟨d, 0, 0, z2, by omega, by omega, by rw [f35 h (by omega), if_neg (by omega), if_pos c]; exact y3, z35 _ (by omega) (by omega), z35 _ (by omega) (by omega)⟩
      · exact ⟨0, 0, 0, by omega, by omega, by omega, z35 _ (by omega) (by omega), z35 _ (by omega) (by omega), z35 _ (by omega) (by omega)⟩
    · rw [f35 16 (by omega), if_pos rfl]
  have row39 : ∀ j, j < 17 → F.1 39 j = F.1 35 j := fun j hj => by rw [eF _ _ (by omega), eF _ _ (by omega)]; exact p39 j hj
  refine Rel_iff.mpr ⟨n, ⟨⟨hn, ?_, ?_, fun h hh => ?_⟩, ⟨0, by omega, ?_, ?_, fun j hj => by omega⟩, ⟨0, by omega, ?_, ?_, ?_⟩, ⟨?_, ?_, ?_⟩, ⟨ua, ub, uc, Q0.2.2.2.2.2.2.1, Q1.2.2.2.2.2.2.1, Q2.2.2.2.2.2.2.1, ?_, ?_, ?_, ?_⟩⟩, ⟨⟨row, fun j hj => ?_⟩, ⟨0, 0, 0, by omega, by omega, ?_, ?_, ?_, r6, r7, fun j hj => ?_, fun j hj => ?_, fun j hj => by omega, fun j hj hj2 => by omega⟩⟩, fun x hx => Or.inl ⟨?_, r10 x hx⟩, ⟨⟨0, by omega, ?_, r8, fun j hj => by omega⟩, ⟨Or.inl ?_, ⟨st, by omega, ?_, fun i hi => ?_⟩, ?_, fun q => ?_⟩, ⟨Or.inl ?_, ?_, fun q => ?_⟩⟩, ⟨tm, tm1, ?_, ?_⟩, ⟨0, by omega, ?_, r9, fun i hi => by omega⟩⟩
  · rw [eU _ _ (by omega) (by omega)]; exact h9
  · rw [r11 _ _ (by omega) (by omega) (by omega) (by omega) (by omega)]; exact e37
  · obtain ⟨p, d, j, q, z1, z2, z3, z4, y1, y2, y3, y4, y5, y6, y7, y8⟩ := hH h hh
    obtain ⟨x1, x2, x3, _⟩ := r3 h (by omega)
    refine ⟨p, j, q, z1, z3, z4, ?_, ?_, ?_, ?_, ?_, ?_⟩
    · rw [eU _ _ (by omega) (by omega)]; exact y1
    · rw [x1, e3 _ _ (by omega)]; exact y2
    · rw [eU _ _ (by omega) (by omega)]; exact y5
    · rw [x2, e3 _ _ (by omega)]; exact y6
    · rw [eU _ _ (by omega) (by omega)]; exact y7
    · rw [x3, e3 _ _ (by omega)]; exact y8
  · rw [eF _ _ (by omega)]; exact p11
  · rw [r11 _ _ (by omega) (by omega) (by omega) (by omega) (by omega), e3 _ _ (by omega)]; exact l1
  · rw [eD _ _ (by omega) (by omega) (by omega) (by omega) (by omega) (by omega) (by omega) (by omega) (by omega) (by omega)]; exact hd2
  · rw [r11 _ _ (by omega) (by omega) (by omega) (by omega) (by omega), e3 _ _ (by omega)]; exact l2
  · rw [r11 _ _ (by omega) (by omega) (by omega) (by omega) (by omega), e3 _ _ (by omega), if_pos rfl]; exact l3
  · exact form_of Q0 (eU _ _ (by omega) (by omega)) (eU _ _ (by omega) (by omega)) (fun i => eU _ _ (by omega) (by omega)) k0.1 k0.2.1 (fun j hj => by rw [← e3 190 _ (by omega), ← e3 191 _ (by omega)]; exact k0.2.2 j hj)
  · exact form_of Q1 (eU _ _ (by omega) (by omega)) (eU _ _ (by omega) (by omega)) (fun i => eU _ _ (by omega) (by omega)) k1.1 k1.2.1 (fun j hj => by rw [← e3 190 _ (by omega), ← e3 191 _ (by omega)]; exact k1.2.2 j hj)
  · exact form_of Q2 (eU _ _ (by omega) (by omega)) (eU _ _ (by omega) (by omega)) (fun i => eU _ _ (by omega) (by omega)) k2.1 k2.2.1 (fun j hj => by rw [← e3 190 _ (by omega), ← e3 191 _ (by omega)]; exact k2.2.2 j hj)
  · rw [eU _ _ (by omega) (by omega)]; exact Q0.2.2.2.2.2.1
  · rw [eU _ _ (by omega) (by omega)]; exact Q1.2.2.2.2.2.1
  · rw [eU _ _ (by omega) (by omega)]; exact Q2.2.2.2.2.2.1
  · rw [r11 _ _ (by omega) (by omega) (by omega) (by omega) (by omega)]; exact e24
  · by_cases c5 : j < 5
    · obtain ⟨_, _, _, x4⟩ := r3 j c5
      rw [x4, f35 j hj, if_neg (show ¬ j = 16 by omega)]
      by_cases c : j < n
      · obtain ⟨p, d, j', q, z1, z2, z3, z4, y1, y2, y3, y4, y5, y6, y7, y8⟩ := hH j c
        rw [if_pos c, if_pos c, e3 _ _ (by omega), y3, y4]
      · rw [if_neg c, if_neg c]
    · by_cases c16 : j = 16
      · subst c16
        rw [r5, f35 16 hj, if_pos rfl, e3 _ _ (by omega)]
        exact l36
      · rw [r4 j (by omega) (by omega), z35 j (by omega) (by omega)]
        rfl
  · rw [eF _ _ (by omega)]; exact p37.1
  · rw [eF _ _ (by omega)]; exact p37.2.1
  · rw [eF _ _ (by omega)]; exact p37.2.2
  · have e : j = 0 := by omega
    subst e
    exact okRow_eq row39 row
  · exact row39 j hj
  · rw [eF _ _ (by omega)]; exact p84 x hx
  · rw [eF _ _ (by omega)]; exact p114
  · rw [eF _ _ (by omega)]; exact p120
  · rw [eD _ _ (by omega) (by omega) (by omega) (by omega) (by omega) (by omega) (by omega) (by omega) (by omega) (by omega), a3.1 _ _ (by omega) (by omega)]; exact st2
  · rw [eD _ _ (by omega) (by omega) (by omega) (by omega) (by omega) (by omega) (by omega) (by omega) (by omega) (by omega), a3.1 _ _ (by omega) (by omega)]; exact st3 i hi
  · rw [eD _ _ (by omega) (by omega) (by omega) (by omega) (by omega) (by omega) (by omega) (by omega) (by omega) (by omega), a3.1 _ _ (by omega) (by omega)]; exact h130
  · rw [eF _ _ (by omega), p120] at q
    exact absurd q (by decide)
  · rw [eF _ _ (by omega)]; exact p140
  · rw [eD _ _ (by omega) (by omega) (by omega) (by omega) (by omega) (by omega) (by omega) (by omega) (by omega) (by omega), a3.1 _ _ (by omega) (by omega)]; exact h175
  · rw [eF _ _ (by omega), p140] at q
    exact absurd q (by decide)
  · rw [eD _ _ (by omega) (by omega) (by omega) (by omega) (by omega) (by omega) (by omega) (by omega) (by omega) (by omega), a3.1 _ _ (by omega) (by omega)]; exact tm2
  · rw [r11 _ _ (by omega) (by omega) (by omega) (by omega) (by omega), e3 _ _ (by omega), kp _ _ (by omega), pf _ _ (by omega) (by omega) (by omega) (by omega) (by omega) (by omega) (by omega) (by omega) (by omega), a3.1 _ _ (by omega) (by omega)]; exact tm3
  · rw [eF _ _ (by omega)]; exact p0
theorem zz_province : zH_province Rel := by
  intro k b S hk h
  obtain ⟨t, ht, t1, t2, t3⟩ : rTape S := by
    obtain ⟨_, hA, _⟩ := Rel_iff.mp h
    exact hA.2.1
  obtain ⟨T, hT0⟩ : ∃ T : Nat → Nat, ∀ k, k < t → T k < 256 ∧ S.1 188 k = nI (T k) ∧ S.1 2 k = byI (T k) := ⟨fun k => mIx (S.1 188 k), fun k hk => by
    obtain ⟨c, c1, c2, c3⟩ := t3 k hk
    show mIx (S.1 188 k) < 256 ∧ S.1 188 k = nI (mIx (S.1 188 k)) ∧ S.1 2 k = byI (mIx (S.1 188 k))
    rw [c2, xIx (by omega)]
    exact ⟨c1, rfl, c3⟩⟩
  have hT : ∀ k, k < t → T k < 256 := fun k hk => (hT0 k hk).1
  have htc : tpC T t S := ⟨t1, fun k hk => (hT0 k hk).2.2⟩
  have hu := kSh_b (!b)
  have hu7 := hu.2.2.2.2.2.2
  obtain ⟨r, D, X0, X1, a1, _, a3, _, a5, _⟩ := j_read ht hT hu htc t2 (fun k hk => (hT0 k hk).2.1)
  have again : ∀ S1 : mT, S1.1 187 1 = nI t → (∀ k, k < t → S1.1 188 k = nI (T k)) → ∃ L2, fX12_readAll S1 = some L2 ∧ endA T t (shU (!b)) r D L2 ∧ L2.1 187 1 = 0 ∧ (L2.1 187 2 = 0 → L2.1 187 3 = -1) ∧ ∀ a j, (¬ (190 ≤ a ∧ a ≤ 192) ∧ a ≠ 196 ∧ a ≠ 198 ∧ ¬ (201 ≤ a ∧ a ≤ 204) ∧ ¬ (a = 187 ∧ (j = 1 ∨ j = 2 ∨ j = 3 ∨ j = 4 ∨ j = 5 ∨ j = 6 ∨ j = 7 ∨ j = 8 ∨ j = 21 ∨ j = 22 ∨ j = 23 ∨ j = 25 ∨ j = 26 ∨ j = 35 ∨ j = 36 ∨ j = 38))) → L2.1 a j = S1.1 a j := fun S1 g1 g2 => by
    obtain ⟨r', D', L0, L2, b1, b2, b3, b4, b5, b6, b7, b8, b9, b10⟩ := j_read ht hT hu htc g1 g2
    rw [a1] at b1
    cases b1
    exact ⟨L2, b2, b5, by rw [b4.1 _ _ (by omega) (by omega) (by omega) (by omega) (by omega)]; exact b6, b7, m_keep b4 b8 b9⟩
  have ok : ∀ X : mT, endA T t (shU (!b)) r D X → (r = 1 ∧ D.1 1 2 = nI 0 ∧ X.1 187 2 = nI 0 ∧ RJ T t (shU (!b)) D X) ∨ (r = 0 ∧ PQ D X) := fun X z => z
  by_cases cr : r = 0
  · subst cr
    have hp := c_provN a1
    have s1 : ∀ a j, a ≠ 1 → (a < shU (!b) ∨ shU (!b) + 15 < a) → (sI D 1 1 (0 : Int32)).1 a j = S.1 a j := fun a j g1 g2 => by rw [sI_ne (by omega), a3.1 a j g1 g2]
    obtain ⟨L2, q1, q2, q3, q4, q5⟩ := again (sI D 1 1 (0 : Int32)) (by rw [s1 _ _ (by omega) (by omega)]; exact t2) (fun k hk => by rw [s1 _ _ (by omega) (by omega)]; exact (hT0 k hk).2.1)
    rcases ok L2 q2 with ⟨z, _⟩ | ⟨_, w, pl, c, m⟩
    · exact absurd z (by decide)
    · obtain ⟨w1, w4, c2, c3, c4⟩ := c
      obtain ⟨_, _, m2, m3⟩ := m
      have nz : ¬ L2.1 187 2 ≤ 0 := by
        rw [m2]
        exact fun z => by have := (xLe (b := 0) (by omega) (by omega)).mp z; omega
      refine ⟨-1, b, _, L2, hp, ?_, Rel_no h ⟨0, by omega, ?_, q3, fun j hj => by omega⟩ ⟨w, w4, ?_, m2, ?_⟩ fun a j g => ?_⟩
      · simp only [fX12_province, q1, g_t, b_d, b_c, b_v, Bool.and_true, Bool.and_self, Bool.true_and, kO_187, if_neg nz]
      · rw [q5 _ _ (by omega), sI_eq]; rfl
      · rw [q5 _ _ (by omega), sI_ne (by omega)]; exact c2
      · rw [if_neg (by omega), m3, q5 1 3 (by omega), sI_ne (by omega), c3]
      · rw [q5 _ _ (by omega)]
        exact s1 _ _ (by omega) (by omega)
  · rcases ok X1 a5 with ⟨z, d2, _, R⟩ | ⟨z, _⟩
    · subst z
      obtain ⟨n, _, _, _, ⟨hn, h9, _⟩, _⟩ := R
      obtain ⟨S1, p1, p35, p39, p37, p84, p114, p120, p140, p0, p11, pf⟩ := c_prov hn a1 h9
      have s1 : ∀ a j, 187 ≤ a → S1.1 a j = S.1 a j := fun a j g => by rw [pf _ _ (by omega) (by omega) (by omega) (by omega) (by omega) (by omega) (by omega) (by omega) (by omega), a3.1 _ _ (by omega) (by omega)]
      obtain ⟨L2, q1, q2, q3, q4, q5⟩ := again S1 (by rw [s1 _ _ (by omega)]; exact t2) (fun k hk => by rw [s1 _ _ (by omega)]; exact (hT0 k hk).2.1)
      rcases ok L2 q2 with ⟨_, _, l2, R2⟩ | ⟨z, _⟩
      · have nz : L2.1 187 2 ≤ 0 := by rw [l2]; decide
        obtain ⟨F, f1, f2⟩ := Rel_yes h hn h9 a3 p35 p39 p37 p84 p114 p120 p140 p0 p11 pf d2 q5 q3 l2 (q4 l2) R2
        have rd : (sI L2 187 37 (L2.1 187 35)).1 187 23 = L2.1 187 23 := sI_ne (by omega)
        refine ⟨nI n, !b, S1, F, p1, ?_, f2⟩
        simp only [fX12_province, q1, g_t, b_d, b_c, b_v, Bool.and_true, Bool.and_self, Bool.true_and, kO_187, if_pos nz, rd, f1]
      · exact absurd z (by decide)
    · exact absurd z cr
