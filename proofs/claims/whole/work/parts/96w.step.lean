/-! PROVINCE: what both hold, behind each kind of line. -/
theorem kLw_9 : kLw 9 := ⟨kO_9, kI_10, by omega, by omega⟩
theorem kLw_12 : kLw 12 := ⟨kO_12, kI_13, by omega, by omega⟩
theorem kLw_15 : kLw 15 := ⟨kO_15, kI_16, by omega, by omega⟩
theorem kLw_25 : kLw 25 := ⟨kO_25, kI_26, by omega, by omega⟩
theorem kLw_28 : kLw 28 := ⟨kO_28, kI_29, by omega, by omega⟩
theorem kLw_31 : kLw 31 := ⟨kO_31, kI_32, by omega, by omega⟩
theorem kLw_u {u : Nat} (hu : kSh u) : kLw (u + 6) ∧ kLw (u + 9) ∧ kLw (u + 12) := by
  rcases hu.2.2.2.2.2.2 with z | z
  · subst z
    exact ⟨kLw_9, kLw_12, kLw_15⟩
  · subst z
    exact ⟨kLw_25, kLw_28, kLw_31⟩
section
variable {T : Nat → Nat} {t : Nat}
theorem RJ_house {u n a b c : Nat} (hu : kSh u) {C L C' L' : mT} (hs : SJ T t u (n + 1) C' L') (h2 : lawJ 0 (u + 6) a C L) (h3 : lawJ 1 (u + 9) b C L) (h4 : lawJ 2 (u + 12) c C L) (h5 : L.1 187 23 = nI (a + b + c)) (h6 : drwJ u C L) (f1 : fH u C C') (f2 : fHm L L') : RJ T t u C' L' := by
  have hu7 := hu.2.2.2.2.2.2
  have eC : ∀ x j, x ≠ 1 → x ≠ u → ¬ (u + 2 ≤ x ∧ x ≤ u + 5) → C'.1 x j = C.1 x j := fun x j g1 g2 g3 => f1.1 x j g1 (by omega) (by omega) (by omega) (by omega) (by omega)
  have eL : ∀ x j, x ≠ 187 → ¬ (201 ≤ x ∧ x ≤ 204) → L'.1 x j = L.1 x j := fun x j g1 g2 => f2.1 x j (by omega) g2
  exact ⟨n + 1, a, b, c, hs, lawJ_fr (by omega) h2 (fun j _ => eC _ _ (by omega) (by omega) (by omega)) (fun j => eC _ _ (by omega) (by omega) (by omega)) (eL _ _ (by omega) (by omega)) (eL _ _ (by omega) (by omega)) (fun i _ => ⟨eL _ _ (by omega) (by omega), eL _ _ (by omega) (by omega)⟩), lawJ_fr (by omega) h3 (fun j _ => eC _ _ (by omega) (by omega) (by omega)) (fun j => eC _ _ (by omega) (by omega) (by omega)) (eL _ _ (by omega) (by omega)) (eL _ _ (by omega) (by omega)) (fun i _ => ⟨eL _ _ (by omega) (by omega), eL _ _ (by omega) (by omega)⟩), lawJ_fr (by omega) h4 (fun j _ => eC _ _ (by omega) (by omega) (by omega)) (fun j => eC _ _ (by omega) (by omega) (by omega)) (eL _ _ (by omega) (by omega)) (eL _ _ (by omega) (by omega)) (fun i _ => ⟨eL _ _ (by omega) (by omega), eL _ _ (by omega) (by omega)⟩), by rw [f2.1 _ _ (by omega) (by omega)]; exact h5, drwJ_fr h6 (f1.1 _ _ (by omega) (by omega) (by omega) (by omega) (by omega) (by omega)) (f1.1 _ _ (by omega) (by omega) (by omega) (by omega) (by omega) (by omega)) (f2.1 _ _ (by omega) (by omega)) (f2.1 _ _ (by omega) (by omega))⟩
/-- a law that another law's reading leaves -/
theorem lawJ_kw {u f g un : Nat} (hu : kSh u) (hf : f < 3) (hg : g < 3) (hfg : g ≠ f) {C L C' L' : mT} (h : lawJ g (u + 6 + 3 * g) un C L) (f1 : fKw (u + 6 + 3 * f) C C') (f2 : fZw f L L') : lawJ g (u + 6 + 3 * g) un C' L' := by
  have hu7 := hu.2.2.2.2.2.2
  exact lawJ_fr hg h (fun j _ => f1.1 _ _ (by omega) (by omega) (by omega)) (fun j => f1.1 _ _ (by omega) (by omega) (by omega)) (f2.1 _ _ (by omega) (by omega) (by omega) (by omega) (by omega) (by omega)) (f2.2.2.2 g hfg) (fun i hi => f2.2.2.1 g i hfg hi hf hg)
theorem lawJ_gl {f a1 U0 : Nat} {C L : mT} (h4 : C.1 a1 4 = 1) (h198 : L.1 198 f = 1) (h : gLaw f a1 U0 C L) : ∃ un, lawJ f a1 un C L ∧ L.1 187 23 = nI (U0 + un) := by
  obtain ⟨nm, un, pc, h1, h2, h3, h4', h5, h6, h7, h8⟩ := h
  exact ⟨un, Or.inr ⟨h4, h198, nm, pc, h1, h2, h3, h5, h6, h7, h8⟩, h4'⟩
theorem SJ_kw {u f n : Nat} (hu : kSh u) (hf : f < 3) {C L C' L' : mT} (h : SJ T t u n C L) (f1 : fKw (u + 6 + 3 * f) C C') (f2 : fZw f L L') : SJ T t u n C' L' := by
  have hu7 := hu.2.2.2.2.2.2
  exact SJ_fr h (f1.1 _ _ (by omega) (by omega) (by omega)) (fun x j g1 g2 => f1.1 _ _ (by omega) (by omega) (by omega)) (fun j => f1.2.1 _ _ (by omega)) (f2.1 _ _ (by omega) (by omega) (by omega) (by omega) (by omega) (by omega)) (fun x j g1 g2 => f2.1 _ _ (by omega) (by omega) (by omega) (by omega) (by omega) (by omega)) (fun j => f2.2.1 _ _ (by omega))
theorem drwJ_kw {u f : Nat} (hu : kSh u) (hf : f < 3) {C L C' L' : mT} (h : drwJ u C L) (f1 : fKw (u + 6 + 3 * f) C C') (f2 : fZw f L L') : drwJ u C' L' := by
  have hu7 := hu.2.2.2.2.2.2
  exact drwJ_fr h (f1.1 _ _ (by omega) (by omega) (by omega)) (f1.1 _ _ (by omega) (by omega) (by omega)) (f2.1 _ _ (by omega) (by omega) (by omega) (by omega) (by omega) (by omega)) (f2.1 _ _ (by omega) (by omega) (by omega) (by omega) (by omega) (by omega))
theorem RJ_draw {u n a b c : Nat} (hu : kSh u) {C L C' L' : mT} (hs : SJ T t u n C L) (h2 : lawJ 0 (u + 6) a C L) (h3 : lawJ 1 (u + 9) b C L) (h4 : lawJ 2 (u + 12) c C L) (h5 : L.1 187 23 = nI (a + b + c)) (h6 : drwJ u C' L') (f1 : ∀ x j, x ≠ 1 → ¬ (x = u ∧ (j = 10 ∨ j = 11)) → C'.1 x j = C.1 x j) (f2 : ∀ x j, x ≠ 1 → C'.2 x j = C.2 x j) (f3 : ∀ x j, ¬ (x = 187 ∧ (j = 2 ∨ j = 3 ∨ j = 4 ∨ j = 6 ∨ j = 7 ∨ j = 8 ∨ j = 36 ∨ j = 38)) → L'.1 x j = L.1 x j) (f4 : ∀ x j, ¬ (x = 187 ∧ j = 9) → L'.2 x j = L.2 x j) : RJ T t u C' L' := by
  have hu7 := hu.2.2.2.2.2.2
  exact ⟨n, a, b, c, SJ_fr hs (f1 _ _ (by omega) (by omega)) (fun x j _ _ => f1 _ _ (by omega) (by omega)) (fun j => f2 _ _ (by omega)) (f3 _ _ (by omega)) (fun x j _ _ => f3 _ _ (by omega)) (fun j => f4 _ _ (by omega)), lawJ_fr (by omega) h2 (fun j _ => f1 _ _ (by omega) (by omega)) (fun j => f1 _ _ (by omega) (by omega)) (f3 _ _ (by omega)) (f3 _ _ (by omega)) (fun i _ => ⟨f3 _ _ (by omega), f3 _ _ (by omega)⟩), lawJ_fr (by omega) h3 (fun j _ => f1 _ _ (by omega) (by omega)) (fun j => f1 _ _ (by omega) (by omega)) (f3 _ _ (by omega)) (f3 _ _ (by omega)) (fun i _ => ⟨f3 _ _ (by omega), f3 _ _ (by omega)⟩), lawJ_fr (by omega) h4 (fun j _ => f1 _ _ (by omega) (by omega)) (fun j => f1 _ _ (by omega) (by omega)) (f3 _ _ (by omega)) (f3 _ _ (by omega)) (fun i _ => ⟨f3 _ _ (by omega), f3 _ _ (by omega)⟩), by rw [f3 _ _ (by omega)]; exact h5, h6⟩
end
