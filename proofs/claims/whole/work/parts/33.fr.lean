/-! FRAMES of the relation's pieces. -/
abbrev tL := List (Nat × Nat × Option Nat)
def agr : tL → mT → mT → Prop
  | [], _, _ => True
  | (lo, hi, none) :: L, S, S' => (∀ a, lo ≤ a → a ≤ hi → S'.1 a = S.1 a) ∧ agr L S S'
  | (lo, _, some k) :: L, S, S' => S'.1 lo k = S.1 lo k ∧ agr L S S'
theorem agr_rfl : ∀ (L : tL) (S : mT), agr L S S
  | [], _ => trivial
  | (_, _, none) :: L, S => ⟨fun _ _ _ => rfl, agr_rfl L S⟩
  | (_, _, some _) :: L, S => ⟨rfl, agr_rfl L S⟩
theorem agr_trans : ∀ {L : tL} {S S1 S2 : mT}, agr L S S1 → agr L S1 S2 → agr L S S2
  | [], _, _, _, _, _ => trivial
  | (_, _, none) :: _, _, _, _, h, h2 => ⟨fun a q w => (h2.1 a q w).trans (h.1 a q w), agr_trans h.2 h2.2⟩
  | (_, _, some _) :: _, _, _, _, h, h2 => ⟨h2.1.trans h.1, agr_trans h.2 h2.2⟩
theorem agr_app : ∀ {L M : tL} {S S' : mT}, agr (L ++ M) S S' ↔ agr L S S' ∧ agr M S S'
  | [], _, _, _ => ⟨fun h => ⟨trivial, h⟩, fun h => h.2⟩
  | (_, _, none) :: _, _, _, _ => ⟨fun h => ⟨⟨h.1, (agr_app.mp h.2).1⟩, (agr_app.mp h.2).2⟩, fun h => ⟨h.1.1, agr_app.mpr ⟨h.1.2, h.2⟩⟩⟩
  | (_, _, some _) :: _, _, _, _ => ⟨fun h => ⟨⟨h.1, (agr_app.mp h.2).1⟩, (agr_app.mp h.2).2⟩, fun h => ⟨h.1.1, agr_app.mpr ⟨h.1.2, h.2⟩⟩⟩
def offR (L : tL) (lo hi : Nat) : Bool := L.all (fun p => Nat.ble (p.2.1 + 1) lo || Nat.ble (hi + 1) p.1)
def av (L : tL) : tL → Bool
  | [] => true
  | (lo, hi, none) :: M => (offR L lo hi && Nat.ble hi 900) && av L M
  | (lo, _, some k) :: M => (!(inM 999999 L lo k)) && av L M
theorem offR_in : ∀ {L : tL} {lo hi a : Nat}, offR L lo hi = true → lo ≤ a → a ≤ hi → ∀ k, inL L a k = false
  | [], _, _, _, _, _, _, _ => rfl
  | (x, y, o) :: L, lo, hi, a, h, h1, h2, k => by
    have h3 : ((Nat.ble (y + 1) lo || Nat.ble (hi + 1) x) && offR L lo hi) = true := h
    rw [Bool.and_eq_true, Bool.or_eq_true] at h3
    show (((Nat.ble x a && Nat.ble a y) && inE o k) || inL L a k) = false
    rw [offR_in h3.2 h1 h2 k, Bool.or_false]
    rcases h3.1 with h4 | h4
    · have h5 := Nat.le_of_ble_eq_true h4
      have h6 : Nat.ble a y = false := by
        cases e : Nat.ble a y with
        | false => rfl
        | true =>
          have := Nat.le_of_ble_eq_true e
          omega
      rw [h6, Bool.and_false, Bool.false_and]
    · have h5 := Nat.le_of_ble_eq_true h4
      have h6 : Nat.ble x a = false := by
        cases e : Nat.ble x a with
        | false => rfl
        | true =>
          have := Nat.le_of_ble_eq_true e
          omega
      rw [h6, Bool.false_and, Bool.false_and]
theorem av_agr {L : tL} {S S' : mT} (F : Fr (inM 999999 L) S S') : ∀ {M : tL}, av L M = true → agr M S S'
  | [], _ => trivial
  | (lo, hi, none) :: M, h => by
    have h2 : ((offR L lo hi && Nat.ble hi 900) && av L M) = true := h
    rw [Bool.and_eq_true, Bool.and_eq_true] at h2
    refine ⟨fun a q w => funext fun k => (F a k ?_).1, av_agr F h2.2⟩
    unfold inM
    rw [offR_in h2.1.1 q w k, Bool.false_or]
    cases e : Nat.beq a 999999 with
    | false => rfl
    | true =>
      have := Nat.eq_of_beq_eq_true e
      have := Nat.le_of_ble_eq_true h2.1.2
      omega
  | (lo, _, some k) :: M, h => by
    have h2 : ((!(inM 999999 L lo k)) && av L M) = true := h
    rw [Bool.and_eq_true, Bool.not_eq_true'] at h2
    exact ⟨(F lo k h2.1).1, av_agr F h2.2⟩
/-- a row, a cell of what agrees -/
theorem agr_row : ∀ {L : tL} {S S' : mT} {lo hi : Nat}, agr L S S' → (lo, hi, none) ∈ L → ∀ a, lo ≤ a → a ≤ hi → S'.1 a = S.1 a
  | (x, y, none) :: L, S, S', lo, hi, h, m, a, q, w => by
    rcases List.mem_cons.mp m with e | e
    · cases e
      exact h.1 a q w
    · exact agr_row h.2 e a q w
  | (x, y, some j) :: L, S, S', lo, hi, h, m, a, q, w => by
    rcases List.mem_cons.mp m with e | e
    · cases e
    · exact agr_row h.2 e a q w
abbrev supTape : tL := [(2, 2, none), (188, 188, none), (1, 1, some 1), (187, 187, some 1)]
abbrev supFault : tL := [(1, 1, some 2), (1, 1, some 3), (187, 187, some 2), (187, 187, some 3)]
abbrev supSheet (u : Nat) : tL := [(u + 2, u + 2, none), (u + 4, u + 4, none), (u + 5, u + 5, none), (205, 205, none), (206, 206, none), (207, 207, none), (u, u, some 9), (187, 187, some 37)]
abbrev supForm (u f : Nat) : tL := [(u + 7 + 3 * f, u + 7 + 3 * f, none), (193, 193, none), (194, 194, none), (195, 195, none), (199, 199, none), (u + 6 + 3 * f, u + 6 + 3 * f, some 2), (u + 6 + 3 * f, u + 6 + 3 * f, some 4)]
abbrev supUnits (u : Nat) : tL := [(u + 6, u + 6, some 3), (u + 9, u + 9, some 3), (u + 12, u + 12, some 3), (187, 187, some 24)]
abbrev supNow : tL := [(35, 35, none), (208, 208, none)]
abbrev supHist : tL := [(35, 35, none), (39, 79, none), (212, 212, none), (37, 37, some 3), (37, 37, some 4), (37, 37, some 5), (187, 187, some 46), (187, 187, some 47)]
abbrev supBox : tL := [(81, 83, none), (84, 84, none), (231, 231, none), (232, 232, none)]
abbrev supRep : tL := [(115, 119, none), (224, 228, none), (114, 114, some 5), (187, 187, some 66)]
abbrev supTime : tL := [(0, 0, some 14), (187, 187, some 67)]
abbrev supLie : tL := [(186, 186, none), (215, 215, none), (0, 0, some 13), (187, 187, some 51)]
abbrev supTru : tL := [(120, 139, none), (115, 117, none), (114, 114, some 5)]
abbrev supLia : tL := [(140, 185, none), (115, 117, none), (114, 114, some 5)]
/-- all but now and the acts; but the lying; but the reports -/
abbrev supA (u : Nat) : tL := supSheet u ++ (supTape ++ (supFault ++ (supForm u 0 ++ (supForm u 1 ++ (supForm u 2 ++ supUnits u)))))
abbrev supN : tL := supNow ++ supHist
abbrev supR : tL := supRep ++ (supTru ++ supLia)
section
variable {S S' : mT}
theorem rTape_fr (a : agr supTape S S') (h : rTape S) : rTape S' := by
  obtain ⟨a1, a2, a3, a4, _⟩ := a
  unfold rTape at h ⊢
  rw [a1 2 (by omega) (by omega), a2 188 (by omega) (by omega), a3, a4]
  exact h
theorem rFault_fr (a : agr supFault S S') (h : rFault S) : rFault S' := by
  obtain ⟨a1, a2, a3, a4, _⟩ := a
  unfold rFault at h ⊢
  rw [a1, a2, a3, a4]
  exact h
theorem rSheet_fr {u n : Nat} (a : agr (supSheet u) S S') (h : rSheet u n S) : rSheet u n S' := by
  obtain ⟨a1, a2, a3, a4, a5, a6, a7, a8, _⟩ := a
  unfold rSheet at h ⊢
  rw [a1 _ (Nat.le_refl _) (Nat.le_refl _), a2 _ (Nat.le_refl _) (Nat.le_refl _), a3 _ (Nat.le_refl _) (Nat.le_refl _), a4 _ (Nat.le_refl _) (Nat.le_refl _), a5 _ (Nat.le_refl _) (Nat.le_refl _), a6 _ (Nat.le_refl _) (Nat.le_refl _), a7, a8]
  exact h
theorem rForm_fr {u f : Nat} (a : agr (supForm u f) S S') (h : rForm u f S) : rForm u f S' := by
  obtain ⟨a1, a2, a3, a4, a5, a6, a7, _⟩ := a
  unfold rForm at h ⊢
  rw [a1 _ (Nat.le_refl _) (Nat.le_refl _), a2 _ (Nat.le_refl _) (Nat.le_refl _), a3 _ (Nat.le_refl _) (Nat.le_refl _), a4 _ (Nat.le_refl _) (Nat.le_refl _), a5 _ (Nat.le_refl _) (Nat.le_refl _), a6, a7]
  exact h
theorem rUnits_fr {u : Nat} (a : agr (supUnits u) S S') (h : rUnits u S) : rUnits u S' := by
  obtain ⟨a1, a2, a3, a4, _⟩ := a
  unfold rUnits at h ⊢
  rw [a1, a2, a3, a4]
  exact h
theorem rNow_fr (a : agr supNow S S') (h : rNow S) : rNow S' := by
  obtain ⟨a1, a2, _⟩ := a
  unfold rNow at h ⊢
  rw [a1 _ (Nat.le_refl _) (Nat.le_refl _), a2 _ (Nat.le_refl _) (Nat.le_refl _)]
  exact h
theorem rHist_fr (a : agr supHist S S') (h : rHist S) : rHist S' := by
  obtain ⟨a0, eh, a1, a2, a3, a4, a5, a6, _⟩ := a
  obtain ⟨o, bh, ah, q1, q2, q3, q4, q5, q6, q7, q8, q9, q10, q11⟩ := h
  have e : ∀ m, S'.1 (39 + m % 41) = S.1 (39 + m % 41) := fun m => eh _ (by omega) (by omega)
  have e212 := a1 212 (Nat.le_refl _) (Nat.le_refl _)
  have e35 := a0 35 (Nat.le_refl _) (Nat.le_refl _)
  refine ⟨o, bh, ah, q1, q2, a2.trans q3, a3.trans q4, a4.trans q5, a5.trans q6, a6.trans q7, fun j hj => ?_, fun k hk => ?_, fun j hj k hk => ?_, fun j hj hj2 k hk => ?_⟩
  · rw [e]
    exact q8 j hj
  · rw [e, e35]
    exact q9 k hk
  · rw [e, e212]
    exact q10 j hj k hk
  · rw [e, e212]
    exact q11 j hj hj2 k hk
theorem rBox_fr (a : agr supBox S S') (h : rBox S) : rBox S' := by
  obtain ⟨a1, a2, a3, a4, _⟩ := a
  intro x hx
  rw [a1 (81 + x) (by omega) (by omega), a2 _ (Nat.le_refl _) (Nat.le_refl _), a3 _ (Nat.le_refl _) (Nat.le_refl _), a4 _ (Nat.le_refl _) (Nat.le_refl _)]
  exact h x hx
theorem rRep_fr {n : Nat} (a : agr supRep S S') (h : rRep n S) : rRep n S' := by
  obtain ⟨a1, a2, a3, a4, _⟩ := a
  unfold rRep at h ⊢
  rw [a1 115 (by omega) (by omega), a1 116 (by omega) (by omega), a1 117 (by omega) (by omega), a1 118 (by omega) (by omega), a1 119 (by omega) (by omega), a2 224 (by omega) (by omega), a2 225 (by omega) (by omega), a2 226 (by omega) (by omega), a2 227 (by omega) (by omega), a2 228 (by omega) (by omega), a3, a4]
  exact h
theorem rTime_fr (a : agr supTime S S') (h : rTime S) : rTime S' := by
  obtain ⟨a1, a2, _⟩ := a
  unfold rTime at h ⊢
  rw [a1, a2]
  exact h
theorem rLie_fr (a : agr supLie S S') (h : rLie S) : rLie S' := by
  obtain ⟨a1, a2, a3, a4, _⟩ := a
  unfold rLie at h ⊢
  rw [a1 _ (Nat.le_refl _) (Nat.le_refl _), a2 _ (Nat.le_refl _) (Nat.le_refl _), a3, a4]
  exact h
theorem lcR_ext {c b c' b' : Nat → Bool} : ∀ {r : Nat}, (∀ j, j < r → c' j = c j ∧ (c j = true → b' j = b j)) → lcR c' b' r = lcR c b r
  | 0, _ => rfl
  | r + 1, h => by
    obtain ⟨h1, h2⟩ := h r (by omega)
    unfold lcR
    rw [lcR_ext (r := r) (fun j hj => h j (by omega)), h1]
    cases q : c r
    · rfl
    · rw [h2 q]
theorem lcW_ext {n r : Nat} {st lo hi st' lo' hi' : Nat → Nat} {c c' : Nat → Bool} (h : ∀ j, j < r → c' j = c j ∧ (c j = true → st' j = st j ∧ lo' j = lo j ∧ hi' j = hi j)) : lcW n r st' lo' hi' c' = lcW n r st lo hi c := by
  funext w
  unfold lcW
  exact lcR_ext fun j hj => ⟨(h j hj).1, fun q => by
    obtain ⟨h1, h2, h3⟩ := (h j hj).2 q
    show bad n w (st' j) (lo' j) (hi' j) = bad n w (st j) (lo j) (hi j)
    rw [h1, h2, h3]⟩
theorem lwS_ext {st lo st' lo' : Nat → Nat} {c c' : Nat → Bool} : ∀ {r : Nat}, (∀ j, j < r → c' j = c j ∧ (c j = true → st' j = st j ∧ lo' j = lo j)) → lwS c' st' lo' r = lwS c st lo r
  | 0, _ => rfl
  | r + 1, h => by
    funext s
    obtain ⟨h1, h2⟩ := h r (by omega)
    unfold lwS
    rw [lwS_ext (r := r) (fun j hj => h j (by omega)), h1]
    cases q : c r
    · simp
    · rw [(h2 q).1, (h2 q).2]
theorem hgS_ext {st hi st' hi' : Nat → Nat} {c c' : Nat → Bool} : ∀ {r : Nat}, (∀ j, j < r → c' j = c j ∧ (c j = true → st' j = st j ∧ hi' j = hi j)) → hgS c' st' hi' r = hgS c st hi r
  | 0, _ => rfl
  | r + 1, h => by
    funext s
    obtain ⟨h1, h2⟩ := h r (by omega)
    unfold hgS
    rw [hgS_ext (r := r) (fun j hj => h j (by omega)), h1]
    cases q : c r
    · simp
    · rw [(h2 q).1, (h2 q).2]
theorem tdS_ext {st st' : Nat → Nat} {c c' : Nat → Bool} : ∀ {r : Nat}, (∀ j, j < r → c' j = c j ∧ (c j = true → st' j = st j)) → tdS c' st' r = tdS c st r
  | 0, _ => rfl
  | r + 1, h => by
    funext s
    obtain ⟨h1, h2⟩ := h r (by omega)
    unfold tdS
    rw [tdS_ext (r := r) (fun j hj => h j (by omega)), h1]
    cases q : c r
    · rfl
    · rw [h2 q]
theorem ctx_ext {n r : Nat} {st lo hi st' lo' hi' : Nat → Nat} {c c' : Nat → Bool} (h : ∀ j, j < r → c' j = c j ∧ (c j = true → st' j = st j ∧ lo' j = lo j ∧ hi' j = hi j)) {C : mT} : ctx n r st' lo' hi' c' C = ctx n r st lo hi c C := by
  unfold ctx
  rw [tdS_ext fun j hj => ⟨(h j hj).1, fun q => ((h j hj).2 q).1⟩, lwS_ext fun j hj => ⟨(h j hj).1, fun q => ⟨((h j hj).2 q).1, ((h j hj).2 q).2.1⟩⟩, hgS_ext fun j hj => ⟨(h j hj).1, fun q => ⟨((h j hj).2 q).1, ((h j hj).2 q).2.2⟩⟩]
theorem ctx_row {n r : Nat} {st lo hi : Nat → Nat} {c : Nat → Bool} (hn : n ≤ 5) (e : ∀ a, 120 ≤ a → a ≤ 139 → S'.1 a = S.1 a) (h : ctx n r st lo hi c S) : ctx n r st lo hi c S' := by
  obtain ⟨h1, h2, h3, h4⟩ := h
  refine ⟨by rw [e 120 (by omega) (by omega)]; exact h1, by rw [e 120 (by omega) (by omega)]; exact h2, fun s hs => by rw [e 127 (by omega) (by omega), e 128 (by omega) (by omega)]; exact h3 s hs, fun h hh => ?_⟩
  obtain ⟨u1, u2⟩ := h4 h hh
  exact ⟨by rw [e (129 + 8) (by omega) (by omega)]; exact u1, fun x hx hx2 => by rw [e (129 + 3 + h) (by omega) (by omega)]; exact u2 x hx hx2⟩
/-- the reports that there were are the same -/
def repEq (S S' : mT) : Prop := S.1 114 5 ≤ S'.1 114 5 ∧ ∀ j, nI j < S.1 114 5 → S'.1 115 j = S.1 115 j ∧ S'.1 116 j = S.1 116 j ∧ S'.1 117 j = S.1 117 j
theorem tVal_rp {n : Nat} (hn : n ≤ 5) (e : ∀ a, 120 ≤ a → a ≤ 139 → S'.1 a = S.1 a) (g : repEq S S') (h : tVal n S) : tVal n S' := by
  obtain ⟨h1, h2, h3, h4, h5, h6⟩ := h
  have e0 := e 120 (by omega) (by omega)
  have x : ∀ j, j < 30 → bI (S'.1 120 10) j = bI (S.1 120 10) j ∧ (bI (S.1 120 10) j = true → rsS S' j = rsS S j ∧ rlS S' j = rlS S j ∧ rhS S' j = rhS S j) := fun j hj => ⟨by rw [e0], fun q => by
    obtain ⟨q1, q2, q3⟩ := g.2 j (h1 j (by omega) q)
    unfold rsS rlS rhS
    rw [q1, q2, q3]
    exact ⟨rfl, rfl, rfl⟩⟩
  have et : tP n S' = tP n S := by
    funext w
    unfold tP tru
    rw [lcW_ext x]
  refine ⟨fun j hj q => ?_, by rw [e0]; exact h2, by rw [e0, et]; exact h3, fun h v hh hv => by rw [e _ (by omega) (by omega), et]; exact h4 h v hh hv, ?_, by rw [e0, et]; exact h6⟩
  · rw [e0] at q
    exact Int32.lt_of_lt_of_le (h1 j hj q) g.1
  · rw [ctx_ext x]
    exact ctx_row hn e h5
theorem lVal_rp {n : Nat} (e : ∀ a, 140 ≤ a → a ≤ 185 → S'.1 a = S.1 a) (g : repEq S S') (h : lVal n S) : lVal n S' := by
  obtain ⟨h1, h2, w, h3, h4, h5⟩ := h
  have e0 := e 140 (by omega) (by omega)
  have x : ∀ j, j < 30 → bI (S'.1 140 7) j = bI (S.1 140 7) j ∧ (bI (S.1 140 7) j = true → rsS S' j = rsS S j ∧ rlS S' j = rlS S j ∧ rhS S' j = rhS S j) := fun j hj => ⟨by rw [e0], fun q => by
    obtain ⟨q1, q2, q3⟩ := g.2 j (h1 j (by omega) q)
    unfold rsS rlS rhS
    rw [q1, q2, q3]
    exact ⟨rfl, rfl, rfl⟩⟩
  have et : lW n S' = lW n S := lcW_ext x
  refine ⟨fun j hj q => ?_, by rw [e0]; exact h2, w, by rw [et]; exact h3, by rw [e0, et]; exact h4, fun h hh => by rw [e 185 (by omega) (by omega)]; exact h5 h hh⟩
  rw [e0] at q
  exact Int32.lt_of_lt_of_le (h1 j hj q) g.1
theorem rTru_rp {k n : Nat} (hn : n ≤ 5) (e : ∀ a, 120 ≤ a → a ≤ 139 → S'.1 a = S.1 a) (g : repEq S S') (h : rTru k n S) : rTru k n S' := by
  obtain ⟨h1, h2, h0, h3⟩ := h
  refine ⟨by rw [e 120 (by omega) (by omega)]; exact h1, by rw [e 120 (by omega) (by omega), e 139 (by omega) (by omega)]; exact h2, by rw [e 130 (by omega) (by omega)]; exact h0, fun q => tVal_rp hn e g (h3 ?_)⟩
  rw [e 120 (by omega) (by omega)] at q
  exact q
theorem rLia_rp {n : Nat} (e : ∀ a, 140 ≤ a → a ≤ 185 → S'.1 a = S.1 a) (g : repEq S S') (h : rLia n S) : rLia n S' := by
  obtain ⟨h1, h0, h3⟩ := h
  refine ⟨by rw [e 140 (by omega) (by omega)]; exact h1, by rw [e 175 (by omega) (by omega)]; exact h0, fun q => lVal_rp e g (h3 ?_)⟩
  rw [e 140 (by omega) (by omega)] at q
  exact q
theorem repEq_of (a2 : ∀ a, 115 ≤ a → a ≤ 117 → S'.1 a = S.1 a) (a3 : S'.1 114 5 = S.1 114 5) : repEq S S' := ⟨by rw [a3]; exact Int32.le_refl _, fun j _ => by rw [a2 115 (by omega) (by omega), a2 116 (by omega) (by omega), a2 117 (by omega) (by omega)]; exact ⟨rfl, rfl, rfl⟩⟩
theorem rTru_fr {k n : Nat} (hn : n ≤ 5) (a : agr supTru S S') (h : rTru k n S) : rTru k n S' := by
  obtain ⟨a1, a2, a3, _⟩ := a
  exact rTru_rp hn a1 (repEq_of a2 a3) h
theorem rTru_up {k n : Nat} (h : rTru k n S) : rTru (k + 6) n S := by
  obtain ⟨h1, ⟨st, h2, h3, h4⟩, h5⟩ := h
  exact ⟨h1, ⟨st, by omega, h3, h4⟩, h5⟩
theorem rLia_fr {n : Nat} (a : agr supLia S S') (h : rLia n S) : rLia n S' := by
  obtain ⟨a1, a2, a3, _⟩ := a
  exact rLia_rp a1 (repEq_of a2 a3) h
theorem Rel_up {k : Nat} {b : Bool} (h : Rel k b S) : Rel (k + 6) b S := by
  obtain ⟨n, h1, h2, h3, h4, h5, h6, h7, h8, h9, h10, h11, h12, h13⟩ := h
  exact ⟨n, h1, h2, h3, h4, h5, h6, h7, h8, h9, h10, h11, rTru_up h12, h13⟩
/-- the sheet's pieces, the tape and the fault -/
def rA (u n : Nat) (S : mT) : Prop := rSheet u n S ∧ rTape S ∧ rFault S ∧ (rForm u 0 S ∧ rForm u 1 S ∧ rForm u 2 S) ∧ rUnits u S
theorem rA_fr {u n : Nat} (a : agr (supA u) S S') (h : rA u n S) : rA u n S' := by
  obtain ⟨h1, h2, h3, ⟨f0, f1, f2⟩, h5⟩ := h
  obtain ⟨a1, a⟩ := agr_app.mp a
  obtain ⟨a2, a⟩ := agr_app.mp a
  obtain ⟨a3, a⟩ := agr_app.mp a
  obtain ⟨a4, a⟩ := agr_app.mp a
  obtain ⟨a5, a⟩ := agr_app.mp a
  obtain ⟨a6, a7⟩ := agr_app.mp a
  exact ⟨rSheet_fr a1 h1, rTape_fr a2 h2, rFault_fr a3 h3, ⟨rForm_fr a4 f0, rForm_fr a5 f1, rForm_fr a6 f2⟩, rUnits_fr a7 h5⟩
/-- the reports and the two caches -/
def rC (k n : Nat) (S : mT) : Prop := rRep n S ∧ rTru k n S ∧ rLia n S
theorem rC_fr {k n : Nat} (hn : n ≤ 5) (a : agr supR S S') (h : rC k n S) : rC k n S' := by
  obtain ⟨h1, h2, h3⟩ := h
  obtain ⟨a1, a⟩ := agr_app.mp a
  obtain ⟨a2, a3⟩ := agr_app.mp a
  exact ⟨rRep_fr a1 h1, rTru_fr hn a2 h2, rLia_fr a3 h3⟩
def rN (S : mT) : Prop := rNow S ∧ rHist S
theorem rN_fr (a : agr supN S S') (h : rN S) : rN S' := ⟨rNow_fr (agr_app.mp a).1 h.1, rHist_fr (agr_app.mp a).2 h.2⟩
theorem rC_up {k n : Nat} (h : rC k n S) : rC (k + 6) n S := ⟨h.1, rTru_up h.2.1, h.2.2⟩
theorem Rel_iff {k : Nat} {b : Bool} : Rel k b S ↔ ∃ n, rA (shU b) n S ∧ rN S ∧ rBox S ∧ rC k n S ∧ rTime S ∧ rLie S := by
  constructor
  · rintro ⟨n, h1, h2, h3, h4, h5, h6, h7, h8, h9, h10, h11, h12, h13⟩
    exact ⟨n, ⟨h1, h2, h3, h4, h5⟩, ⟨h6, h7⟩, h8, ⟨h9, h12, h13⟩, h10, h11⟩
  · rintro ⟨n, ⟨h1, h2, h3, h4, h5⟩, ⟨h6, h7⟩, h8, ⟨h9, h12, h13⟩, h10, h11⟩
    exact ⟨n, h1, h2, h3, h4, h5, h6, h7, h8, h9, h10, h11, h12, h13⟩
/-- all -/
abbrev supAll (u : Nat) : tL := supA u ++ (supN ++ (supBox ++ (supR ++ (supTime ++ supLie))))
/-- all but the lying ones -/
abbrev supNL (u : Nat) : tL := supA u ++ (supN ++ (supBox ++ (supR ++ supTime)))
/-- all but now and the acts -/
abbrev supNN (u : Nat) : tL := supA u ++ (supBox ++ (supR ++ (supTime ++ supLie)))
theorem Rel_fr {k : Nat} {b : Bool} (a : agr (supAll (shU b)) S S') (h : Rel k b S) : Rel (k + 6) b S' := by
  obtain ⟨n, h1, h2, h3, h4, h5, h6⟩ := Rel_iff.mp h
  obtain ⟨a1, a⟩ := agr_app.mp a
  obtain ⟨a2, a⟩ := agr_app.mp a
  obtain ⟨a3, a⟩ := agr_app.mp a
  obtain ⟨a4, a⟩ := agr_app.mp a
  obtain ⟨a5, a6⟩ := agr_app.mp a
  exact Rel_iff.mpr ⟨n, rA_fr a1 h1, rN_fr a2 h2, rBox_fr a3 h3, rC_up (rC_fr h1.1.1 a4 h4), rTime_fr a5 h5, rLie_fr a6 h6⟩
theorem Rel_nl {k : Nat} {b : Bool} (a : agr (supNL (shU b)) S S') (h : Rel k b S) (l : rLie S') : Rel (k + 6) b S' := by
  obtain ⟨n, h1, h2, h3, h4, h5, h6⟩ := Rel_iff.mp h
  obtain ⟨a1, a⟩ := agr_app.mp a
  obtain ⟨a2, a⟩ := agr_app.mp a
  obtain ⟨a3, a⟩ := agr_app.mp a
  obtain ⟨a4, a5⟩ := agr_app.mp a
  exact Rel_iff.mpr ⟨n, rA_fr a1 h1, rN_fr a2 h2, rBox_fr a3 h3, rC_up (rC_fr h1.1.1 a4 h4), rTime_fr a5 h5, l⟩
theorem Rel_nn {k : Nat} {b : Bool} (a : agr (supNN (shU b)) S S') (h : Rel k b S) (l : rN S') : Rel (k + 6) b S' := by
  obtain ⟨n, h1, h2, h3, h4, h5, h6⟩ := Rel_iff.mp h
  obtain ⟨a1, a⟩ := agr_app.mp a
  obtain ⟨a3, a⟩ := agr_app.mp a
  obtain ⟨a4, a⟩ := agr_app.mp a
  obtain ⟨a5, a6⟩ := agr_app.mp a
  exact Rel_iff.mpr ⟨n, rA_fr a1 h1, l, rBox_fr a3 h3, rC_up (rC_fr h1.1.1 a4 h4), rTime_fr a5 h5, rLie_fr a6 h6⟩
end
