/-! Plans: what both make of a number. -/
def fsD (p D : Nat → Nat) : Nat → Nat → Nat
  | 0 => fun _ => 0
  | i + 1 => fU (fsD p D i) (D i) (p i)
def gsD (z D : Nat → Nat) : Nat → Nat → Nat
  | 0 => fun _ => 0
  | i + 1 => gU (gsD z D i) (D i) (z i)
def usD (D : Nat → Nat) : Nat → Nat
  | 0 => 0
  | i + 1 => max (usD D i) (D i + 1)
def byD (p z D : Nat → Nat) (j : Nat) : Nat := fsD p D (j + 1) (D j) + gsD z D (j + 1) (D j)
def lmD (p z D : Nat → Nat) : Nat → Nat
  | 0 => 0
  | i + 1 => max (lmD p z D i) (byD p z D i)
def M5 (f g : Nat → Nat) : Nat := max (max (max (max (f 0 + g 0) (f 1 + g 1)) (f 2 + g 2)) (f 3 + g 3)) (f 4 + g 4)
theorem M5_up {f g : Nat → Nat} {d x y : Nat} (hd : d < 5) : M5 (fU f d x) (gU g d y) = max (M5 f g) (fU f d x d + gU g d y d) := by
  unfold M5 fU gU
  rcases (by omega : d = 0 ∨ d = 1 ∨ d = 2 ∨ d = 3 ∨ d = 4) with rfl | rfl | rfl | rfl | rfl <;> simp <;> omega
theorem lmD_M5 {p z D : Nat → Nat} (hD : ∀ i, D i < 5) : ∀ i, lmD p z D i = M5 (fsD p D i) (gsD z D i)
  | 0 => rfl
  | i + 1 => by
    show max (lmD p z D i) (byD p z D i) = M5 (fU (fsD p D i) (D i) (p i)) (gU (gsD z D i) (D i) (z i))
    rw [M5_up (hD i), lmD_M5 hD i]
    rfl
theorem lmD_le {p z D : Nat → Nat} {T : Nat} : ∀ n, lmD p z D n ≤ T ↔ ∀ j, j < n → byD p z D j ≤ T
  | 0 => ⟨fun _ j hj => absurd hj (Nat.not_lt_zero _), fun _ => Nat.zero_le _⟩
  | n + 1 => by
    have ih := lmD_le (p := p) (z := z) (D := D) (T := T) n
    unfold lmD
    constructor
    · intro h j hj
      by_cases q : j = n
      · rw [q]
        omega
      · exact ih.mp (by omega) j (by omega)
    · intro h
      have h1 := ih.mpr (fun j hj => h j (by omega))
      have h2 := h n (by omega)
      omega
theorem usD_le {D : Nat → Nat} {N : Nat} : ∀ n, usD D n ≤ N ↔ ∀ j, j < n → D j < N
  | 0 => ⟨fun _ j hj => absurd hj (Nat.not_lt_zero _), fun _ => Nat.zero_le _⟩
  | n + 1 => by
    have ih := usD_le (D := D) (N := N) n
    unfold usD
    constructor
    · intro h j hj
      by_cases q : j = n
      · rw [q]
        omega
      · exact ih.mp (by omega) j (by omega)
    · intro h
      have h1 := ih.mpr (fun j hj => h j (by omega))
      have h2 := h n (by omega)
      omega
def vdD (D : Nat → Nat) (n : Nat) : Prop := ∀ j, j < n → D j ≤ usD D j
theorem vdD_us {D : Nat → Nat} : ∀ {n : Nat}, vdD D n → usD D n ≤ n
  | 0, _ => Nat.le_refl _
  | n + 1, h => by
    have h1 := vdD_us (D := D) (n := n) (fun j hj => h j (by omega))
    have h2 := h n (by omega)
    unfold usD
    omega
theorem md5 (w K : Nat) : w % 5 ^ (K + 1) / 5 ^ K = w / 5 ^ K % 5 ∧ w % 5 ^ (K + 1) % 5 ^ K = w % 5 ^ K := by
  rw [Nat.pow_succ]
  constructor
  · exact Nat.mod_mul_right_div_self _ _ _
  · exact Nat.mod_mul_right_mod _ _ _
section
variable {p z : Nat → Nat} {n N T w : Nat}
theorem Qb_iff : ∀ (m i : Nat), i + m = n → (Qb p z N T m i (usD (dg5 n w) i) (fsD p (dg5 n w) i) (gsD z (dg5 n w) i) (w % 5 ^ m) = true ↔ ∀ j, i ≤ j → j < n → dg5 n w j ≤ usD (dg5 n w) j ∧ dg5 n w j < N ∧ byD p z (dg5 n w) j ≤ T)
  | 0, i, hi => ⟨fun _ j h1 h2 => by omega, fun _ => rfl⟩
  | m + 1, i, hi => by
    have ed : w / 5 ^ m % 5 = dg5 n w i := by
      unfold dg5
      rw [show n - 1 - i = m by omega]
    have ih := Qb_iff m (i + 1) (by omega)
    unfold Qb
    rw [(md5 w m).1, (md5 w m).2, ed]
    rw [Bool.and_eq_true, Bool.and_eq_true, Bool.and_eq_true, decide_eq_true_iff, decide_eq_true_iff, decide_eq_true_iff]
    constructor
    · rintro ⟨⟨⟨a1, a2⟩, a3⟩, a4⟩ j h1 h2
      by_cases q : j = i
      · rw [q]
        exact ⟨a1, a2, a3⟩
      · exact ih.mp a4 j (by omega) h2
    · intro h
      obtain ⟨a1, a2, a3⟩ := h i (Nat.le_refl _) (by omega)
      exact ⟨⟨⟨a1, a2⟩, a3⟩, ih.mpr fun j h1 h2 => h j (by omega) h2⟩
theorem Hb_eq : ∀ (m i : Nat), i + m = n → ((∀ j, i ≤ j → j < n → dg5 n w j ≤ usD (dg5 n w) j ∧ dg5 n w j < N) → Hb p z N m i (usD (dg5 n w) i) (fsD p (dg5 n w) i) (gsD z (dg5 n w) i) (lmD p z (dg5 n w) i) (w % 5 ^ m) = lmD p z (dg5 n w) n) ∧ ((¬ ∀ j, i ≤ j → j < n → dg5 n w j ≤ usD (dg5 n w) j ∧ dg5 n w j < N) → Hb p z N m i (usD (dg5 n w) i) (fsD p (dg5 n w) i) (gsD z (dg5 n w) i) (lmD p z (dg5 n w) i) (w % 5 ^ m) = 1000000)
  | 0, i, hi => by
    have hi : i = n := by omega
    subst hi
    exact ⟨fun _ => rfl, fun h => absurd (fun j h1 h2 => by omega) h⟩
  | m + 1, i, hi => by
    have ed : w / 5 ^ m % 5 = dg5 n w i := by
      unfold dg5
      rw [show n - 1 - i = m by omega]
    obtain ⟨ih1, ih2⟩ := Hb_eq m (i + 1) (by omega)
    unfold Hb
    rw [(md5 w m).1, (md5 w m).2, ed]
    constructor
    · intro h
      rw [if_pos (h i (Nat.le_refl _) (by omega))]
      exact ih1 fun j h1 h2 => h j (by omega) h2
    · intro h
      by_cases c : dg5 n w i ≤ usD (dg5 n w) i ∧ dg5 n w i < N
      · rw [if_pos c]
        refine ih2 fun hh => h fun j h1 h2 => ?_
        by_cases q : j = i
        · rw [q]
          exact c
        · exact hh j (by omega) h2
      · rw [if_neg c]
/-- when a plan is done (or never), how many it takes -/
def fW (p z : Nat → Nat) (n w : Nat) : Nat := mnB (fun _ => Hb p z 5 n 0 0 (fun _ => 0) (fun _ => 0) 0 w) 0 1
def gW (n w : Nat) : Nat := usD (dg5 n w) n
theorem dg5_lt (n w j : Nat) : dg5 n w j < 5 := Nat.mod_lt _ (by omega)
theorem fW_eq (hw : w < 5 ^ n) (hle : lmD p z (dg5 n w) n ≤ 999) : (vdD (dg5 n w) n → fW p z n w = lmD p z (dg5 n w) n) ∧ (¬ vdD (dg5 n w) n → fW p z n w = 1000000) := by
  obtain ⟨h1, h2⟩ := Hb_eq (p := p) (z := z) (N := 5) (w := w) n 0 (Nat.zero_add n)
  rw [Nat.mod_eq_of_lt hw] at h1 h2
  constructor
  · intro h
    have e := h1 fun j _ hj => ⟨h j hj, dg5_lt _ _ _⟩
    show min 1000000 (Hb p z 5 n 0 0 (fun _ => 0) (fun _ => 0) 0 w) = _
    have e' : Hb p z 5 n 0 0 (fun _ => 0) (fun _ => 0) 0 w = lmD p z (dg5 n w) n := e
    omega
  · intro h
    have e := h2 fun hh => h fun j hj => (hh j (Nat.zero_le _) hj).1
    have e' : Hb p z 5 n 0 0 (fun _ => 0) (fun _ => 0) 0 w = 1000000 := e
    show min 1000000 (Hb p z 5 n 0 0 (fun _ => 0) (fun _ => 0) 0 w) = _
    omega
theorem by_le (hp : ∀ j, j < n → p j ≤ 60 ∧ z j ≤ 99) (D : Nat → Nat) : ∀ i, i ≤ n → ∀ k, fsD p D i k ≤ 60 ∧ gsD z D i k ≤ 99 * i
  | 0, _, k => ⟨Nat.zero_le _, Nat.zero_le _⟩
  | i + 1, hi, k => by
    obtain ⟨h1, h2⟩ := by_le hp D i (by omega) k
    obtain ⟨h3, h4⟩ := hp i (by omega)
    show fU (fsD p D i) (D i) (p i) k ≤ 60 ∧ gU (gsD z D i) (D i) (z i) k ≤ 99 * (i + 1)
    unfold fU gU
    split
    · omega
    · omega
theorem lm_le (hn : n ≤ 5) (hp : ∀ j, j < n → p j ≤ 60 ∧ z j ≤ 99) (D : Nat → Nat) : lmD p z D n ≤ 999 := by
  rw [lmD_le]
  intro j hj
  obtain ⟨h1, h2⟩ := by_le hp D (j + 1) (by omega) (D j)
  unfold byD
  omega
theorem Qb_fg (hn : n ≤ 5) (hp : ∀ j, j < n → p j ≤ 60 ∧ z j ≤ 99) (hT : T ≤ 999) (hw : w < 5 ^ n) : Qb p z N T n 0 0 (fun _ => 0) (fun _ => 0) w = true ↔ fW p z n w ≤ T ∧ gW n w ≤ N := by
  have h := Qb_iff (p := p) (z := z) (N := N) (T := T) (w := w) n 0 (Nat.zero_add n)
  rw [Nat.mod_eq_of_lt hw] at h
  have h' : Qb p z N T n 0 0 (fun _ => 0) (fun _ => 0) w = true ↔ _ := h
  rw [h']
  have hf := fW_eq (p := p) (z := z) hw (lm_le hn hp _)
  constructor
  · intro hh
    have hv : vdD (dg5 n w) n := fun j hj => (hh j (Nat.zero_le _) hj).1
    refine ⟨?_, (usD_le n).mpr fun j hj => (hh j (Nat.zero_le _) hj).2.1⟩
    rw [hf.1 hv, lmD_le]
    exact fun j hj => (hh j (Nat.zero_le _) hj).2.2
  · rintro ⟨h1, h2⟩ j _ hj
    have hv : vdD (dg5 n w) n := Classical.byContradiction fun hv => by
      have := hf.2 hv
      omega
    rw [hf.1 hv] at h1
    exact ⟨hv j hj, (usD_le n).mp h2 j hj, (lmD_le n).mp h1 j hj⟩
theorem Hb_fg (hn : n ≤ 5) (hp : ∀ j, j < n → p j ≤ 60 ∧ z j ≤ 99) (hw : w < 5 ^ n) : Hb p z N n 0 0 (fun _ => 0) (fun _ => 0) 0 w = if gW n w ≤ N then fW p z n w else 1000000 := by
  obtain ⟨h1, h2⟩ := Hb_eq (p := p) (z := z) (N := N) (w := w) n 0 (Nat.zero_add n)
  rw [Nat.mod_eq_of_lt hw] at h1 h2
  have hf := fW_eq (p := p) (z := z) hw (lm_le hn hp _)
  have hu : gW n w ≤ N ↔ _ := usD_le (D := dg5 n w) (N := N) n
  by_cases c : ∀ j, 0 ≤ j → j < n → dg5 n w j ≤ usD (dg5 n w) j ∧ dg5 n w j < N
  · have e := h1 c
    have e' : Hb p z N n 0 0 (fun _ => 0) (fun _ => 0) 0 w = lmD p z (dg5 n w) n := e
    rw [e', if_pos (hu.mpr fun j hj => (c j (Nat.zero_le _) hj).2), hf.1 fun j hj => (c j (Nat.zero_le _) hj).1]
  · have e := h2 c
    have e' : Hb p z N n 0 0 (fun _ => 0) (fun _ => 0) 0 w = 1000000 := e
    rw [e']
    by_cases c2 : gW n w ≤ N
    · rw [if_pos c2, hf.2 fun hv => c fun j _ hj => ⟨hv j hj, hu.mp c2 j hj⟩]
    · rw [if_neg c2]
/-- the class's way to the first plan -/
theorem rounds_eq (hn : n ≤ 5) (h0 : 0 < n) (hp : ∀ j, j < n → p j ≤ 60 ∧ z j ≤ 99) (hT : T ≤ 999) : (bst (fW p z n) (gW n) T (5 ^ n) = none ∧ ∀ N, fsB (Qb p z N T n 0 0 (fun _ => 0) (fun _ => 0)) 0 (5 ^ n) = none) ∨ ∃ a w, bst (fW p z n) (gW n) T (5 ^ n) = some (a, w) ∧ 1 ≤ a ∧ a ≤ n ∧ (∀ N, N < a → fsB (Qb p z N T n 0 0 (fun _ => 0) (fun _ => 0)) 0 (5 ^ n) = none) ∧ fsB (Qb p z a T n 0 0 (fun _ => 0) (fun _ => 0)) 0 (5 ^ n) = some w := by
  have qf : ∀ N w, w < 5 ^ n → ¬ (fW p z n w ≤ T ∧ gW n w ≤ N) → Qb p z N T n 0 0 (fun _ => 0) (fun _ => 0) w = false := fun N w hw hh => by
    cases hq : Qb p z N T n 0 0 (fun _ => 0) (fun _ => 0) w
    · rfl
    · exact absurd ((Qb_fg hn hp hT hw).mp hq) hh
  rcases bst_spec (fW p z n) (gW n) T (5 ^ n) with ⟨h1, h2⟩ | ⟨a, w, h1, h2, h3, h4, h5, h6⟩
  · refine Or.inl ⟨h1, fun N => fsB_none fun x hx => ?_⟩
    rw [Nat.zero_add]
    exact qf N x hx fun z => h2 x hx z.1
  · refine Or.inr ⟨a, w, h1, ?_, ?_, fun N hN => fsB_none fun x hx => ?_, ?_⟩
    · rw [← h4]
      show 1 ≤ usD (dg5 n w) n
      obtain ⟨n', rfl⟩ : ∃ n', n = n' + 1 := ⟨n - 1, by omega⟩
      unfold usD
      omega
    · have hf := fW_eq (p := p) (z := z) h2 (lm_le hn hp _)
      have hv : vdD (dg5 n w) n := Classical.byContradiction fun hv => by
        have := hf.2 hv
        omega
      rw [← h4]
      exact vdD_us hv
    · rw [Nat.zero_add]
      refine qf N x hx fun y => ?_
      have := h5 x hx y.1
      omega
    · rcases fsB_spec (Qb p z a T n 0 0 (fun _ => 0) (fun _ => 0)) 0 (5 ^ n) with ⟨y1, y2⟩ | ⟨x, y1, y2, y3, y4⟩
      · have := y2 w h2
        rw [Nat.zero_add] at this
        rw [(Qb_fg hn hp hT h2).mpr ⟨h3, by omega⟩] at this
        cases this
      · rw [Nat.zero_add] at y2 y3
        have hx := (Qb_fg hn hp hT y1).mp y3
        rw [y2]
        have e : x = w := by
          rcases Nat.lt_trichotomy x w with q | q | q
          · have := h6 x q hx.1
            omega
          · exact q
          · have := y4 w q
            rw [Nat.zero_add, (Qb_fg hn hp hT h2).mpr ⟨h3, by omega⟩] at this
            cases this
        rw [e]
end
