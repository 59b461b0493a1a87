/-! PROVINCE: the call. -/
theorem pk_of {pc : Nat} (h : pc < 30000) {s a : Int32} (o : pcOk (nI pc) s a) : ((s = 0 ∨ s = 1) ∧ pc < 20000) ∨ (s = 2 ∧ pc = 20033) ∨ (s = 3 ∧ 20000 ≤ pc ∧ pc ≠ 20033) := by
  rcases o with ⟨h1, x, hx, _, e⟩ | ⟨h1, x, hx, _, e⟩ | ⟨h1, e⟩ | ⟨h1, x, hx, _, e⟩
  · have := (xEq (by omega) (by omega)).mp e
    exact Or.inl ⟨Or.inl h1, by omega⟩
  · have := (xEq (by omega) (by omega)).mp e
    exact Or.inl ⟨Or.inr h1, by omega⟩
  · have := (xEq (by omega) (by omega)).mp e
    exact Or.inr (Or.inl ⟨h1, this⟩)
  · have := (xEq (by omega) (by omega)).mp e
    exact Or.inr (Or.inr ⟨h1, by omega, by omega⟩)
section
variable {pc : Nat → Nat} {s a : Nat → Int32} {len : Nat}
theorem wf_pk (w : wfP pc len) (o : ∀ i, i < len → pcOk (nI (pc i)) (s i) (a i)) {i : Nat} (hi : i < len) : ((s i = 0 ∨ s i = 1) ∧ pc i < 20000) ∨ (s i = 2 ∧ pc i = 20033) ∨ (s i = 3 ∧ 20000 ≤ pc i ∧ pc i ≠ 20033) := by
  refine pk_of ?_ (o i hi)
  obtain ⟨_, _, w3⟩ := w i hi
  by_cases c1 : pc i < 20000
  · omega
  by_cases c2 : pc i = 20033
  · omega
  exact (w3 (by omega) c2).2
theorem dpt_dq (w : wfP pc len) (o : ∀ i, i < len → pcOk (nI (pc i)) (s i) (a i)) : ∀ i, i ≤ len → dpt s i = dqP pc i
  | 0, _ => rfl
  | i + 1, hi => by
    have e := dpt_dq w o i (by omega)
    have n1 : ¬ ((2 : Int32) = 0 ∨ (2 : Int32) = 1) := by decide
    have n2 : ¬ ((3 : Int32) = 0 ∨ (3 : Int32) = 1) := by decide
    have n3 : ¬ ((3 : Int32) = 2) := by decide
    unfold dpt dqP
    rw [e]
    rcases wf_pk w o (i := i) (by omega) with ⟨k1, k2⟩ | ⟨k1, k2⟩ | ⟨k1, k2, k3⟩
    · rw [if_pos k1, if_pos k2]
    · rw [k1, if_neg n1, if_pos rfl, if_neg (by omega), if_pos k2]
    · rw [k1, if_neg n2, if_neg n3, if_neg (by omega), if_neg k3]
theorem wfp_of (w : wfP pc len) (o : ∀ i, i < len → pcOk (nI (pc i)) (s i) (a i)) (d : dqP pc len = 1) : wfp s len := by
  refine ⟨fun i hi => ?_, (dpt_dq w o len (Nat.le_refl _)).trans d⟩
  rw [dpt_dq w o i (by omega)]
  obtain ⟨w1, w2, w3⟩ := w i hi
  rcases wf_pk w o hi with ⟨k1 | k1, k2⟩ | ⟨k1, k2⟩ | ⟨k1, k2, k3⟩
  · rw [k1]
    exact ⟨fun _ => w1 k2, fun z => absurd z (by decide), fun z => absurd z (by decide)⟩
  · rw [k1]
    exact ⟨fun _ => w1 k2, fun z => absurd z (by decide), fun z => absurd z (by decide)⟩
  · rw [k1]
    exact ⟨fun z => absurd z (by decide), fun _ => w2 k2, fun z => absurd z (by decide)⟩
  · rw [k1]
    exact ⟨fun z => absurd z (by decide), fun z => absurd z (by decide), fun _ => (w3 k2 k3).1⟩
theorem dpt_ext {s' : Nat → Int32} : ∀ {n : Nat}, (∀ i, i < n → s' i = s i) → dpt s' n = dpt s n
  | 0, _ => rfl
  | n + 1, h => by
    unfold dpt
    rw [dpt_ext (n := n) (fun i hi => h i (by omega)), h n (by omega)]
theorem wfp_ext {s' : Nat → Int32} (h : ∀ i, i < len → s' i = s i) (w : wfp s len) : wfp s' len := by
  refine ⟨fun i hi => ?_, (dpt_ext h).trans w.2⟩
  rw [dpt_ext (fun j hj => h j (by omega)), h i hi]
  exact w.1 i hi
end
/-- what is told of a law once it is read -/
def flJ (f a1 un b len : Nat) (C L : mT) : Prop := b ≤ 1 ∧ len ≤ 280 ∧ L.1 198 f = nI b ∧ (b = 1 → L.1 192 f = nI len) ∧ (b = 0 → len = 0) ∧ C.1 a1 3 = nI un ∧ un ≤ 30 ∧ C.1 a1 4 = nI b ∧ (b = 1 → C.1 a1 2 = nI len ∧ wfp (fun i => L.1 190 (320 * f + i)) len ∧ ∀ i, i < len → pcOk (C.1 (a1 + 1) i) (L.1 190 (320 * f + i)) (L.1 191 (320 * f + i)))
theorem lawJ_fl {f a1 un : Nat} {C L : mT} (h : lawJ f a1 un C L) : ∃ b len, flJ f a1 un b len C L := by
  rcases h with ⟨h1, h2, h3, h4, h5⟩ | ⟨h1, h2, nm, pc, h3, h4, h5, h6, h7, h8, h9⟩
  · exact ⟨0, 0, by omega, by omega, h5, fun z => by omega, fun _ => rfl, by rw [h4]; exact h3, by omega, h1, fun z => by omega⟩
  · exact ⟨1, nm, by omega, by omega, h2, fun _ => h4, fun z => by omega, h3.2.1, h6, h1, fun _ => ⟨h3.1, wfp_of (a := fun i => L.1 191 (320 * f + i)) h8 h5 h9, fun i hi => by rw [h3.2.2 i hi]; exact h5 i hi⟩⟩
theorem form_of {u f b len un : Nat} {D L F : mT} (h : flJ f (u + 6 + 3 * f) un b len D L) (e4 : F.1 (u + 6 + 3 * f) 4 = D.1 (u + 6 + 3 * f) 4) (e2 : F.1 (u + 6 + 3 * f) 2 = D.1 (u + 6 + 3 * f) 2) (e7 : ∀ i, F.1 (u + 7 + 3 * f) i = D.1 (u + 7 + 3 * f) i) (e199 : F.1 199 f = nI b) (e195 : F.1 195 f = nI len) (e193 : ∀ j, j < len → F.1 193 (320 * f + j) = L.1 190 (320 * f + j) ∧ F.1 194 (320 * f + j) = L.1 191 (320 * f + j)) : rForm u f F := by
  obtain ⟨h1, h2, h3, h4, h5, h6, h7, h8, h9⟩ := h
  obtain rfl | rfl : b = 0 ∨ b = 1 := by omega
  · exact Or.inl ⟨e4.trans h8, e199⟩
  · obtain ⟨k1, k2, k3⟩ := h9 rfl
    refine Or.inr ⟨e4.trans h8, e199, len, h2, e2.trans k1, e195, wfp_ext (fun i hi => (e193 i hi).1) k2, fun i hi => ?_⟩
    rw [(e193 i hi).1, (e193 i hi).2, e7, show u + 7 + 3 * f = u + 6 + 3 * f + 1 by omega]
    exact k3 i hi
theorem agAll {lo hi : Nat} {L : tL} {S S' : mT} (h : ∀ a, lo ≤ a → a ≤ hi → ∀ j, S'.1 a j = S.1 a j) (r : agr L S S') : agr ((lo, hi, none) :: L) S S' := And.intro (fun a g1 g2 => funext (h a g1 g2)) r
theorem agOne {lo hi k : Nat} {L : tL} {S S' : mT} (h : S'.1 lo k = S.1 lo k) (r : agr L S S') : agr ((lo, hi, some k) :: L) S S' := And.intro h r
/-- a province that is refused: all stays but the tape and the fault -/
theorem Rel_no {k : Nat} {b : Bool} {S S' : mT} (h : Rel k b S) (hT : rTape S') (hF : rFault S') (fr : ∀ a j, (a ≠ 1 ∧ (a < shU (!b) ∨ shU (!b) + 15 < a) ∧ ¬ (190 ≤ a ∧ a ≤ 192) ∧ a ≠ 196 ∧ a ≠ 198 ∧ ¬ (201 ≤ a ∧ a ≤ 204) ∧ ¬ (a = 187 ∧ (j = 1 ∨ j = 2 ∨ j = 3 ∨ j = 4 ∨ j = 5 ∨ j = 6 ∨ j = 7 ∨ j = 8 ∨ j = 21 ∨ j = 22 ∨ j = 23 ∨ j = 25 ∨ j = 26 ∨ j = 35 ∨ j = 36 ∨ j = 38))) → S'.1 a j = S.1 a j) : Rel (k + 6) b S' := by
  have hsh : (shU b = 3 ∧ shU (!b) = 19) ∨ (shU b = 19 ∧ shU (!b) = 3) := by cases b; exact Or.inl ⟨rfl, rfl⟩; exact Or.inr ⟨rfl, rfl⟩
  obtain ⟨n, ⟨h1, _, _, ⟨f0, f1, f2⟩, h5⟩, ⟨g1, g2⟩, g3, ⟨c1, c2, c3⟩, g5, g6⟩ := Rel_iff.mp h
  exact Rel_iff.mpr ⟨n, ⟨rSheet_fr (by repeat' first | exact trivial | refine agAll (fun a g1 g2 j => fr a j (by omega)) ?_ | refine agOne (fr _ _ (by omega)) ?_) h1, hT, hF, ⟨rForm_fr (by repeat' first | exact trivial | refine agAll (fun a g1 g2 j => fr a j (by omega)) ?_ | refine agOne (fr _ _ (by omega)) ?_) f0, rForm_fr (by repeat' first | exact trivial | refine agAll (fun a g1 g2 j => fr a j (by omega)) ?_ | refine agOne (fr _ _ (by omega)) ?_) f1, rForm_fr (by repeat' first | exact trivial | refine agAll (fun a g1 g2 j => fr a j (by omega)) ?_ | refine agOne (fr _ _ (by omega)) ?_) f2⟩, rUnits_fr (by repeat' first | exact trivial | refine agAll (fun a g1 g2 j => fr a j (by omega)) ?_ | refine agOne (fr _ _ (by omega)) ?_) h5⟩, ⟨rNow_fr (by repeat' first | exact trivial | refine agAll (fun a g1 g2 j => fr a j (by omega)) ?_ | refine agOne (fr _ _ (by omega)) ?_) g1, rHist_fr (by repeat' first | exact trivial | refine agAll (fun a g1 g2 j => fr a j (by omega)) ?_ | refine agOne (fr _ _ (by omega)) ?_) g2⟩, rBox_fr (by repeat' first | exact trivial | refine agAll (fun a g1 g2 j => fr a j (by omega)) ?_ | refine agOne (fr _ _ (by omega)) ?_) g3, rC_up ⟨rRep_fr (by repeat' first | exact trivial | refine agAll (fun a g1 g2 j => fr a j (by omega)) ?_ | refine agOne (fr _ _ (by omega)) ?_) c1, rTru_fr h1.1 (by repeat' first | exact trivial | refine agAll (fun a g1 g2 j => fr a j (by omega)) ?_ | refine agOne (fr _ _ (by omega)) ?_) c2, rLia_fr (by repeat' first | exact trivial | refine agAll (fun a g1 g2 j => fr a j (by omega)) ?_ | refine agOne (fr _ _ (by omega)) ?_) c3⟩, rTime_fr (by repeat' first | exact trivial | refine agAll (fun a g1 g2 j => fr a j (by omega)) ?_ | refine agOne (fr _ _ (by omega)) ?_) g5, rLie_fr (by repeat' first | exact trivial | refine agAll (fun a g1 g2 j => fr a j (by omega)) ?_ | refine agOne (fr _ _ (by omega)) ?_) g6⟩
/-- the reference's cells from S1 to L2 -/
theorem m_keep {S1 L0 L2 : mT} (q2 : fZl L0 L2) (q6 : ∀ a j, a ≠ 187 → a ≠ 198 → L0.1 a j = S1.1 a j) (q7 : ∀ j, j ≠ 1 → j ≠ 2 → j ≠ 3 → j ≠ 4 → j ≠ 5 → j ≠ 23 → j ≠ 35 → j ≠ 36 → j ≠ 38 → L0.1 187 j = S1.1 187 j) (a j : Nat) (g : ¬ (190 ≤ a ∧ a ≤ 192) ∧ a ≠ 196 ∧ a ≠ 198 ∧ ¬ (201 ≤ a ∧ a ≤ 204) ∧ ¬ (a = 187 ∧ (j = 1 ∨ j = 2 ∨ j = 3 ∨ j = 4 ∨ j = 5 ∨ j = 6 ∨ j = 7 ∨ j = 8 ∨ j = 21 ∨ j = 22 ∨ j = 23 ∨ j = 25 ∨ j = 26 ∨ j = 35 ∨ j = 36 ∨ j = 38))) : L2.1 a j = S1.1 a j := by
  obtain ⟨g1, g2, g3, g4, g5⟩ := g
  rw [q2.1 a j g1 g2 g3 g4 (by omega)]
  by_cases e : a = 187
  · subst e
    exact q7 j (by omega) (by omega) (by omega) (by omega) (by omega) (by omega) (by omega) (by omega) (by omega)
  · exact q6 a j e g3
