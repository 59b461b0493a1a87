/-! TRUTHS: countFrom. -/
theorem ffN_le (td : Nat → Bool) : ∀ n, ffN td n ≤ n
  | 0 => Nat.le_refl _
  | n + 1 => by
    have := ffN_le td n
    unfold ffN
    split
    · omega
    · omega
theorem ffN_lt {td : Nat → Bool} : ∀ {n s : Nat}, td s = true → 1 ≤ s → s < 2 ^ n → s < 2 ^ ffN td n
  | 0, s, _, h1, h2 => by
    rw [Nat.pow_zero] at h2
    omega
  | n + 1, s, ht, h1, h2 => by
    unfold ffN
    by_cases q : s < 2 ^ n
    · have ih := ffN_lt ht h1 q
      split
      · exact ih
      · exact h2
    · have hx : td (s - 2 ^ n + 2 ^ n) = true := by
        rw [Nat.sub_add_cancel (by omega)]
        exact ht
      rw [Nat.pow_succ] at h2
      have := cN_lt (fun x => td (x + 2 ^ n)) (a := s - 2 ^ n) (b := 2 ^ n) hx (by omega)
      rw [if_neg (by omega), Nat.pow_succ]
      exact h2
section
variable {n r : Nat} {st lo hi : Nat → Nat} {c : Nat → Bool}
def fT (C C' : mT) : Prop := ∀ a j, a ≠ 130 → (a < 122 ∨ 126 < a) → C'.1 a j = C.1 a j
theorem fT.rf (C : mT) : fT C C := fun _ _ _ _ => rfl
theorem fT.tr {C D E : mT} (h : fT C D) (h2 : fT D E) : fT C E := fun a j g1 g2 => (h2 a j g1 g2).trans (h a j g1 g2)
theorem ctx_fr {C C' : mT} (hn : n ≤ 5) (h : ctx n r st lo hi c C) (f : fT C C') : ctx n r st lo hi c C' := by
  obtain ⟨h1, h2, h3, h4⟩ := h
  refine ⟨by rw [f _ _ (by omega) (by omega)]; exact h1, by rw [f _ _ (by omega) (by omega)]; exact h2, fun s hs => by rw [f _ _ (by omega) (by omega), f _ _ (by omega) (by omega)]; exact h3 s hs, fun h hh => ?_⟩
  obtain ⟨u1, u2⟩ := h4 h hh
  exact ⟨by rw [f _ _ (by omega) (by omega)]; exact u1, fun x hx hx2 => by rw [f _ _ (by omega) (by omega)]; exact u2 x hx hx2⟩
theorem blk_no (hst : ∀ j, j < r → st j < 32 ∧ lo j ≤ 35 ∧ hi j ≤ 35) {h m p v : Nat} (hn : n = h + 1 + m) (hh : h < 5) (V : ∀ v', v ≤ v' → v' < 8 → ¬ okV r st lo hi c h p v') {x : Nat} (hx : x < (8 - v) * 8 ^ m) : tru n r st lo hi c ((p * 8 + v) * 8 ^ m + x) = false := by
  have h0 : 0 < 8 ^ m := Nat.pow_pos (by omega)
  have hv8 : v < 8 := by
    rcases Nat.lt_or_ge v 8 with q | q
    · exact q
    · rw [show 8 - v = 0 by omega, Nat.zero_mul] at hx
      omega
  have hq : x / 8 ^ m < 8 - v := (Nat.div_lt_iff_lt_mul h0).mpr hx
  have hm : x % 8 ^ m < 8 ^ m := Nat.mod_lt _ h0
  have e : (p * 8 + v) * 8 ^ m + x = (p * 8 + (v + x / 8 ^ m)) * 8 ^ m + x % 8 ^ m := by
    have := Nat.div_add_mod x (8 ^ m)
    rw [Nat.mul_comm] at this
    rw [← Nat.add_assoc, Nat.add_mul (p * 8 + v)]
    omega
  rw [e]
  generalize x / 8 ^ m = y at hq ⊢
  exact okV_no hst hn hh (by omega) hm (V _ (by omega) (by omega))
theorem truH_no {P : Nat → Bool} {h' x w : Nat} (hP : P w = false) : truH n P h' x w = false := by
  unfold truH
  rw [hP, Bool.false_and]
/-- heads of the sets of the houses before -/
def hdO (h p : Nat) (C : mT) : Prop := ∀ x, x < 2 ^ h → C.1 130 x = nI (sSet h p x h)
theorem c_cf23 (hn5 : n ≤ 5) (hr : r ≤ 30) (hst : ∀ j, j < r → st j < 32 ∧ lo j ≤ 35 ∧ hi j ≤ 35) (hff : ∀ j, j < r → c j = true → st j < 2 ^ ffN (tdS c st r) n) {h m p : Nat} (hn : n = h + 1 + m) (hhf : h < ffN (tdS c st r) n) (hok : okP r st lo hi c h p) {low : Nat} {top : Int32} (htop : top ≤ nI 7) (hokV : ∀ v, v < 8 → (okV r st lo hi c h p v ↔ low ≤ v ∧ nI v ≤ top)) (self : Int32 → mT → Option (Int32 × mT))
    (IH : h + 1 < ffN (tdS c st r) n → ∀ v, v < 8 → ∀ C, ctx n r st lo hi c C → hdO (h + 1) (p * 8 + v) C → okP r st lo hi c (h + 1) (p * 8 + v) → ∃ C', self (nI (h + 1)) C = some (nI (cB (tru n r st lo hi c) ((p * 8 + v) * 8 ^ m) (8 ^ m)), C') ∧ fT C C' ∧ (∀ x, x < 2 ^ (h + 1) → C'.1 130 x = C.1 130 x) ∧ (∀ h' x, h' < ffN (tdS c st r) n → x < 8 → C'.1 (122 + h') x = if h + 1 ≤ h' then C.1 (122 + h') x + nI (cB (truH n (tru n r st lo hi c) h' x) ((p * 8 + v) * 8 ^ m) (8 ^ m)) else C.1 (122 + h') x)) :
    ∀ (q v k : Nat) (C : mT), v + q = 8 → q < k → low ≤ v → ctx n r st lo hi c C → hdO h p C → ∃ C', fX10_countFrom_23 self k (nI h) (nI (cB (tru n r st lo hi c) (p * 8 * 8 ^ m) (v * 8 ^ m))) top (nI v) C = some (nI (cB (tru n r st lo hi c) (p * 8 * 8 ^ m) (8 * 8 ^ m)), C') ∧ fT C C' ∧ (∀ x, x < 2 ^ h → C'.1 130 x = C.1 130 x) ∧ (∀ h' x, h' < ffN (tdS c st r) n → x < 8 → C'.1 (122 + h') x = if h ≤ h' then C.1 (122 + h') x + nI (cB (truH n (tru n r st lo hi c) h' x) ((p * 8 + v) * 8 ^ m) ((8 - v) * 8 ^ m)) else C.1 (122 + h') x) := by
  have hfn := ffN_le (tdS c st r) n
  have h0 : 0 < 8 ^ m := Nat.pow_pos (by omega)
  have ebl : ∀ v, p * 8 * 8 ^ m + v * 8 ^ m = (p * 8 + v) * 8 ^ m := fun v => (Nat.add_mul _ _ _).symm
  have stop : ∀ v k C, v ≤ 8 → top < nI v → 0 < k → (∀ v', v ≤ v' → v' < 8 → ¬ okV r st lo hi c h p v') → ∃ C', fX10_countFrom_23 self k (nI h) (nI (cB (tru n r st lo hi c) (p * 8 * 8 ^ m) (v * 8 ^ m))) top (nI v) C = some (nI (cB (tru n r st lo hi c) (p * 8 * 8 ^ m) (8 * 8 ^ m)), C') ∧ fT C C' ∧ (∀ x, x < 2 ^ h → C'.1 130 x = C.1 130 x) ∧ (∀ h' x, h' < ffN (tdS c st r) n → x < 8 → C'.1 (122 + h') x = if h ≤ h' then C.1 (122 + h') x + nI (cB (truH n (tru n r st lo hi c) h' x) ((p * 8 + v) * 8 ^ m) ((8 - v) * 8 ^ m)) else C.1 (122 + h') x) := fun v k C hv8 hlt hk V => by
    obtain ⟨k', rfl⟩ := up1 hk
    have hno : ∀ x, x < (8 - v) * 8 ^ m → tru n r st lo hi c ((p * 8 + v) * 8 ^ m + x) = false := fun x hx => blk_no hst hn (by omega) V hx
    have e8 : 8 * 8 ^ m = v * 8 ^ m + (8 - v) * 8 ^ m := by
      rw [← Nat.add_mul]
      congr 1
      omega
    refine ⟨C, ?_, fT.rf C, fun _ _ => rfl, fun h' x h1 h2 => ?_⟩
    · rw [e8, cB_add, ebl, cB_no hno]
      simp only [fX10_countFrom_23, if_pos hlt, Nat.add_zero]
    · rw [cB_no fun y hy => truH_no (hno y hy)]
      split
      · exact (Int32.add_zero _).symm
      · rfl
  intro q
  induction q with
  | zero =>
    intro v k C hv hk hlow hctx hhd
    have hv : v = 8 := by omega
    subst hv
    exact stop 8 k C (Nat.le_refl _) (Int32.lt_of_le_of_lt htop (by decide)) (by omega) (fun v' h1 h2 => by omega)
  | succ q ih =>
    intro v k C hv hk hlow hctx hhd
    have hv8 : v < 8 := by omega
    by_cases ct : top < nI v
    · refine stop v k C (by omega) ct (by omega) (fun v' h1 h2 hV => ?_)
      have := ((hokV v' h2).mp hV).2
      exact Int32.lt_irrefl (Int32.lt_of_lt_of_le ct (Int32.le_trans ((xLe (by omega) (by omega)).mpr h1) this))
    have hV : okV r st lo hi c h p v := (hokV v hv8).mpr ⟨hlow, Int32.not_lt.mp ct⟩
    have hok' := okP_ch hst (by omega) hv8 hok hV
    obtain ⟨k', rfl⟩ := up1 hk
    have ov : nI v + (1 : Int32) = nI (v + 1) := nI_add v 1
    have oh : nI h + (1 : Int32) = nI (h + 1) := nI_add h 1
    have hdig : ∀ y, y < 8 ^ m → dg8 n ((p * 8 + v) * 8 ^ m + y) h = v := fun y hy => by
      rw [hn, dg8_pre (h := h + 1) (m := m) hy (by omega), dg8_last hv8]
    have hT1 : cB (truH n (tru n r st lo hi c) h v) ((p * 8 + v) * 8 ^ m) (8 ^ m) = cB (tru n r st lo hi c) ((p * 8 + v) * 8 ^ m) (8 ^ m) := cB_congr fun y hy => by
      unfold truH
      rw [hdig y hy]
      simp
    have hT2 : ∀ x, x ≠ v → cB (truH n (tru n r st lo hi c) h x) ((p * 8 + v) * 8 ^ m) (8 ^ m) = 0 := fun x hx => cB_no fun y hy => by
      unfold truH
      rw [hdig y hy]
      simp [Ne.symm hx]
    have enx : (p * 8 + v) * 8 ^ m + 8 ^ m = (p * 8 + (v + 1)) * 8 ^ m := by
      rw [← Nat.add_assoc, Nat.add_mul (p * 8 + v) 1, Nat.one_mul]
    have esp : (8 - v) * 8 ^ m = 8 ^ m + (8 - (v + 1)) * 8 ^ m := by
      rw [show 8 - v = 1 + (8 - (v + 1)) by omega, Nat.add_mul, Nat.one_mul]
    have ecc : cB (tru n r st lo hi c) (p * 8 * 8 ^ m) ((v + 1) * 8 ^ m) = cB (tru n r st lo hi c) (p * 8 * 8 ^ m) (v * 8 ^ m) + cB (tru n r st lo hi c) ((p * 8 + v) * 8 ^ m) (8 ^ m) := by
      rw [Nat.add_mul v 1, Nat.one_mul, cB_add, ebl]
    have etr : ∀ h' x, cB (truH n (tru n r st lo hi c) h' x) ((p * 8 + v) * 8 ^ m) ((8 - v) * 8 ^ m) = cB (truH n (tru n r st lo hi c) h' x) ((p * 8 + v) * 8 ^ m) (8 ^ m) + cB (truH n (tru n r st lo hi c) h' x) ((p * 8 + (v + 1)) * 8 ^ m) ((8 - (v + 1)) * 8 ^ m) := fun h' x => by rw [esp, cB_add, enx]
    -- found is added
    have fin : ∀ C7, fT C C7 → (∀ x, x < 2 ^ h → C7.1 130 x = C.1 130 x) → (∀ h' x, h' < ffN (tdS c st r) n → x < 8 → C7.1 (122 + h') x = if h + 1 ≤ h' then C.1 (122 + h') x + nI (cB (truH n (tru n r st lo hi c) h' x) ((p * 8 + v) * 8 ^ m) (8 ^ m)) else C.1 (122 + h') x) → ∃ C', fX10_countFrom_65 self (fX10_countFrom_23 self k') (nI h) (nI (cB (tru n r st lo hi c) (p * 8 * 8 ^ m) (v * 8 ^ m))) top (nI v) (nI (cB (tru n r st lo hi c) ((p * 8 + v) * 8 ^ m) (8 ^ m))) C7 = some (nI (cB (tru n r st lo hi c) (p * 8 * 8 ^ m) (8 * 8 ^ m)), C') ∧ fT C C' ∧ (∀ x, x < 2 ^ h → C'.1 130 x = C.1 130 x) ∧ (∀ h' x, h' < ffN (tdS c st r) n → x < 8 → C'.1 (122 + h') x = if h ≤ h' then C.1 (122 + h') x + nI (cB (truH n (tru n r st lo hi c) h' x) ((p * 8 + v) * 8 ^ m) ((8 - v) * 8 ^ m)) else C.1 (122 + h') x) := fun C7 f7 d7 t7 => by
      have f9 : fT C (sI C7 (122 + h) v (C7.1 (122 + h) v + nI (cB (tru n r st lo hi c) ((p * 8 + v) * 8 ^ m) (8 ^ m)))) := fun a j g1 g2 => by rw [sI_rd, if_neg (by omega)]; exact f7 a j g1 g2
      have d9 : ∀ x, x < 2 ^ h → (sI C7 (122 + h) v (C7.1 (122 + h) v + nI (cB (tru n r st lo hi c) ((p * 8 + v) * 8 ^ m) (8 ^ m)))).1 130 x = C.1 130 x := fun x hx => by rw [sI_rd, if_neg (by omega)]; exact d7 x hx
      obtain ⟨C', r1, r2, r3, r4⟩ := ih (v + 1) k' (sI C7 (122 + h) v (C7.1 (122 + h) v + nI (cB (tru n r st lo hi c) ((p * 8 + v) * 8 ^ m) (8 ^ m)))) (by omega) (by omega) (by omega) (ctx_fr hn5 hctx f9) (fun x hx => by rw [d9 x hx]; exact hhd x hx)
      refine ⟨C', ?_, f9.tr r2, fun x hx => by rw [r3 x hx, d9 x hx], fun h' x h1 h2 => ?_⟩
      · rw [← r1, ecc, ← nI_add]
        simp (disch := omega) only [fX10_countFrom_65, rw_121, ki_121, g_t, b_d, b_c, b_v, Bool.and_true, Bool.and_self, Bool.true_and, xIx, xIn, ov]
      · rw [r4 h' x h1 h2, sI_rd, t7 h' x h1 h2, etr h' x]
        by_cases y : h ≤ h'
        · rw [if_pos y, if_pos y]
          by_cases z : h' = h
          · subst z
            by_cases u : x = v
            · subst u
              rw [if_pos ⟨rfl, rfl⟩, t7 h' x h1 h2, if_neg (by omega), hT1, Int32.add_assoc, nI_add]
            · rw [if_neg (by omega), if_neg (by omega), hT2 x u, Nat.zero_add]
          · rw [if_neg (by omega), if_pos (by omega), Int32.add_assoc, nI_add]
        · rw [if_neg y, if_neg y, if_neg (by omega), if_neg (by omega)]
    have ct' : ¬ top < nI v := ct
    have x1 := hctx.1
    have x2 := hctx.2.1
    by_cases cf : ffN (tdS c st r) n ≤ h + 1
    · have cf' : nI (ffN (tdS c st r) n) ≤ nI (h + 1) := (xLe (by omega) (by omega)).mpr cf
      have ef : ffN (tdS c st r) n = h + 1 := by omega
      have ea : cB (tru n r st lo hi c) ((p * 8 + v) * 8 ^ m) (8 ^ m) = 8 ^ m := cB_all fun y hy => okP_all (h := h + 1) (m := m) hn hy hok' (by rw [← ef]; exact hff)
      obtain ⟨C', r1, r2⟩ := fin C (fT.rf C) (fun _ _ => rfl) (fun h' x h1 h2 => by rw [if_neg (by omega)])
      refine ⟨C', ?_, r2⟩
      have x2' : C.1 120 13 = nI (8 ^ m) := by
        rw [x2, ef, hn]
        exact congrArg (fun z => nI (8 ^ z)) (by omega)
      rw [← r1, ea]
      simp only [fX10_countFrom_23, if_neg ct', kO_120, g_t, b_d, b_c, b_v, Bool.and_true, Bool.and_self, Bool.true_and, x2', x1, oh, if_pos cf']
    · have cf' : ¬ nI (ffN (tdS c st r) n) ≤ nI (h + 1) := fun y => cf ((xLe (by omega) (by omega)).mp y)
      obtain ⟨C6, s1, s2, s3, s4⟩ := c_sh2 (g := fun x => sSet h p x h) (h := h) kLs129 (by omega) (v := v) (2 ^ h) 0 mK C (by omega) (by have := mK_gt; have := p2 (h := h) (by omega); omega) hhd
      have s1' : fX9_setHeads 129 (nI h) (nI v) C = some C6 := s1
      have f6 : fT C C6 := fun a j g1 _ => s4 a j g1
      have hd6 : hdO (h + 1) (p * 8 + v) C6 := fun x hx => by
        rw [Nat.pow_succ] at hx
        by_cases y : x < 2 ^ h
        · rw [(sSet_ch hv8 y).1]
          exact (s3 x (by omega)).trans (hhd x y)
        · obtain ⟨x', hx'⟩ : ∃ x', x = x' + 2 ^ h := ⟨x - 2 ^ h, by omega⟩
          rw [hx', (sSet_ch hv8 (by omega)).2]
          exact s2 x' (by omega) (by omega)
      obtain ⟨C7, t1, t2, t3, t4⟩ := IH (by omega) v hv8 C6 (ctx_fr hn5 hctx f6) hd6 hok'
      obtain ⟨C', r1, r2⟩ := fin C7 (f6.tr t2) (fun x hx => by rw [t3 x (by rw [Nat.pow_succ]; omega)]; exact s3 x (by omega)) (fun h' x h1 h2 => by rw [t4 h' x h1 h2, s4 _ _ (by omega)])
      refine ⟨C', ?_, r2⟩
      rw [← r1]
      simp only [fX10_countFrom_23, if_neg ct', kO_120, g_t, b_d, b_c, b_v, Bool.and_true, Bool.and_self, Bool.true_and, x1, oh, if_neg cf', s1', t1]
theorem c_cf (hn5 : n ≤ 5) (hr : r ≤ 30) (hst : ∀ j, j < r → st j < 32 ∧ lo j ≤ 35 ∧ hi j ≤ 35) (hff : ∀ j, j < r → c j = true → st j < 2 ^ ffN (tdS c st r) n) : ∀ (m h dd p : Nat) (C : mT), n = h + 1 + m → m < dd → h < ffN (tdS c st r) n → okP r st lo hi c h p → ctx n r st lo hi c C → hdO h p C → ∃ C', fX10_countFrom dd (nI h) C = some (nI (cB (tru n r st lo hi c) (p * 8 ^ (m + 1)) (8 ^ (m + 1))), C') ∧ fT C C' ∧ (∀ x, x < 2 ^ h → C'.1 130 x = C.1 130 x) ∧ (∀ h' x, h' < ffN (tdS c st r) n → x < 8 → C'.1 (122 + h') x = if h ≤ h' then C.1 (122 + h') x + nI (cB (truH n (tru n r st lo hi c) h' x) (p * 8 ^ (m + 1)) (8 ^ (m + 1))) else C.1 (122 + h') x)
  | m, h, 0, p, C, hn, hd, hhf, hok, hctx, hhd => by omega
  | m, h, d' + 1, p, C, hn, hd, hhf, hok, hctx, hhd => by
    have hfn := ffN_le (tdS c st r) n
    have hgx : ∀ x, x < 2 ^ h → sSet h p x h ≤ 35 := fun x _ => by
      have := sSet_le h p x h
      omega
    have hlw : ∀ s, lwS c st lo r s ≤ 35 := fun s => lwS_le s fun j hj => (hst j hj).2.1
    have hhg : ∀ s, hgS c st hi r s ≤ 35 := fun s => hgS_le c st hi s r
    have H := hctx.2.2.2 h (by omega)
    have hp2 := p2 (h := h) (by omega)
    have hL := c_low4 (td := tdS c st r) (lw := lwS c st lo r) (g := fun x => sSet h p x h) (h := h) (C := C) (by omega) hlw hgx (fun s hs => (hctx.2.2.1 s hs).1) hhd H (2 ^ h) 0 mK (by omega) (by have := mK_gt; omega)
    have hH := c_high5 (td := tdS c st r) (hg := hgS c st hi r) (g := fun x => sSet h p x h) (h := h) (C := C) (by omega) hhg hgx (fun s hs => (hctx.2.2.1 s hs).2) hhd H (2 ^ h) 0 mK (by omega) (by have := mK_gt; omega)
    have hL' : fX10_lowest (nI h) C = _ := hL
    have hH' : fX10_highest (nI h) C = _ := hH
    have hokV : ∀ v, v < 8 → (okV r st lo hi c h p v ↔ lwF (tdS c st r) (lwS c st lo r) (fun x => sSet h p x h) h (2 ^ h) ≤ v ∧ nI v ≤ hgF (tdS c st r) (hgS c st hi r) (fun x => sSet h p x h) h (2 ^ h)) := fun v hv => by
      rw [lwF_iff, hgF_iff hhg hgx hv (2 ^ h) (Nat.le_refl _)]
      unfold okV
      exact ⟨fun z => ⟨fun x h1 h2 => (z x h1 h2).1, fun x h1 h2 => (z x h1 h2).2⟩, fun z x h1 h2 => ⟨z.1 x h1 h2, z.2 x h1 h2⟩⟩
    have hlow := lwF_le (td := tdS c st r) (g := fun x => sSet h p x h) (h := h) hlw (2 ^ h)
    have htop := hgF_7 (td := tdS c st r) (hg := hgS c st hi r) (g := fun x => sSet h p x h) (h := h) (2 ^ h)
    generalize lwF (tdS c st r) (lwS c st lo r) (fun x => sSet h p x h) h (2 ^ h) = low at hL' hokV hlow
    generalize hgF (tdS c st r) (hgS c st hi r) (fun x => sSet h p x h) h (2 ^ h) = top at hH' hokV htop
    have e8 : p * 8 ^ (m + 1) = p * 8 * 8 ^ m := by rw [Nat.pow_succ, Nat.mul_assoc, Nat.mul_comm (8 ^ m) 8]
    have e88 : 8 ^ (m + 1) = 8 * 8 ^ m := by rw [Nat.pow_succ, Nat.mul_comm]
    have hstart : fX10_countFrom (d' + 1) (nI h) C = fX10_countFrom_23 (fX10_countFrom d') mK (nI h) (nI 0) top (nI low) C := by
      have hk : kR 121 (nI h) = true := by rw [kR_121]; exact xIn (by omega) (by omega)
      simp only [fX10_countFrom, fX10_countFrom_0, hk, kO_120, g_t, b_d, b_c, b_v, Bool.and_true, Bool.and_self, Bool.true_and, hH', hL']
      rfl
    have main := c_cf23 hn5 hr hst hff hn hhf hok htop hokV (fX10_countFrom d') (fun hf v hv C hc hd' hp' => by
      obtain ⟨m', rfl⟩ : ∃ m', m = m' + 1 := ⟨m - 1, by omega⟩
      exact c_cf hn5 hr hst hff m' (h + 1) d' (p * 8 + v) C (by omega) (by omega) hf hp' hc hd')
    rw [hstart]
    by_cases q : low ≤ 8
    · obtain ⟨C', r1, r2, r3, r4⟩ := main (8 - low) low mK C (by omega) (by have := mK_gt; omega) (Nat.le_refl _) hctx hhd
      have hno : ∀ x, x < low * 8 ^ m → tru n r st lo hi c (p * 8 * 8 ^ m + x) = false := fun x hx => by
        have h0 : 0 < 8 ^ m := Nat.pow_pos (by omega)
        have hq : x / 8 ^ m < low := (Nat.div_lt_iff_lt_mul h0).mpr hx
        have e : p * 8 * 8 ^ m + x = (p * 8 + x / 8 ^ m) * 8 ^ m + x % 8 ^ m := by
          have := Nat.div_add_mod x (8 ^ m)
          rw [Nat.mul_comm] at this
          rw [Nat.add_mul]
          omega
        rw [e]
        have hm0 : x % 8 ^ m < 8 ^ m := Nat.mod_lt _ h0
        generalize x / 8 ^ m = y at hq ⊢
        exact okV_no hst hn (by omega) (by omega) hm0 (fun hV => by have := ((hokV _ (by omega)).mp hV).1; omega)
      rw [cB_no hno] at r1
      refine ⟨C', by rw [r1, e8, e88], r2, r3, fun h' x h1 h2 => ?_⟩
      rw [r4 h' x h1 h2, e8, e88]
      have et : cB (truH n (tru n r st lo hi c) h' x) (p * 8 * 8 ^ m) (8 * 8 ^ m) = cB (truH n (tru n r st lo hi c) h' x) ((p * 8 + low) * 8 ^ m) ((8 - low) * 8 ^ m) := by
        have e : 8 * 8 ^ m = low * 8 ^ m + (8 - low) * 8 ^ m := by
          rw [← Nat.add_mul]
          congr 1
          omega
        rw [e, cB_add, cB_no fun y hy => truH_no (hno y hy), Nat.zero_add, ← Nat.add_mul]
      rw [et]
    · obtain ⟨K', hK⟩ : ∃ K', mK = K' + 1 := ⟨999999, rfl⟩
      have hno : ∀ x, x < 8 * 8 ^ m → tru n r st lo hi c (p * 8 * 8 ^ m + x) = false := fun x hx => by
        have := blk_no (v := 0) (p := p) hst hn (by omega) (fun v' _ h2 hV => by have := ((hokV v' h2).mp hV).1; omega) (x := x) (by rw [Nat.sub_zero]; exact hx)
        rw [Nat.add_zero] at this
        exact this
      have ct : top < nI low := Int32.lt_of_le_of_lt htop ((xLt (by omega) (by omega)).mpr (by omega))
      refine ⟨C, ?_, fT.rf C, fun _ _ => rfl, fun h' x h1 h2 => ?_⟩
      · rw [e8, e88, cB_no hno, hK]
        simp only [fX10_countFrom_23, if_pos ct]
      · rw [e8, e88, cB_no fun y hy => truH_no (hno y hy)]
        split
        · exact (Int32.add_zero _).symm
        · rfl
end
