/-! TELLS: the class gathers the rows. -/
theorem shl_n {a k : Nat} (ha : a * 2 ^ k < 2147483648) (hk : k < 32) : nI a <<< (nI k &&& 31) = nI (a * 2 ^ k) := by
  apply Int32.toBitVec.inj
  show BitVec.ofNat 32 a <<< ((nI k &&& (31 : Int32)).toBitVec.smod 32) = BitVec.ofNat 32 (a * 2 ^ k)
  rw [sm32 k hk, BitVec.shiftLeft_eq', BitVec.toNat_ofNat, Nat.mod_eq_of_lt (by omega : k < 2 ^ 32)]
  apply BitVec.eq_of_toNat_eq
  have h1 : a * 1 ≤ a * 2 ^ k := Nat.mul_le_mul_left a Nat.one_le_two_pow
  rw [BitVec.toNat_shiftLeft, BitVec.toNat_ofNat, BitVec.toNat_ofNat, Nat.mod_eq_of_lt (by omega : a < 2 ^ 32), Nat.shiftLeft_eq]
theorem or_add {a b k : Nat} (ha : a < 2 ^ k) : nI a ||| nI (b * 2 ^ k) = nI (a + b * 2 ^ k) := by
  rw [nI_or]
  congr 1
  have := Nat.two_pow_add_eq_or_of_lt ha b
  rw [Nat.or_comm, Nat.mul_comm b, ← this, Nat.add_comm]
theorem or_add' {a b k : Nat} (ha : a < 2 ^ k) : nI (b * 2 ^ k) ||| nI a = nI (b * 2 ^ k + a) := by
  rw [nI_or]
  congr 1
  have := Nat.two_pow_add_eq_or_of_lt ha b
  rw [Nat.mul_comm b, ← this]
theorem e83 (h : Nat) : 2 ^ (3 * h) = 8 ^ h := by rw [Nat.pow_mul]
def cdS (n w : Nat) : Nat → Nat
  | 0 => 0
  | i + 1 => cdS n w i + dg8 n w i * 8 ^ i
theorem cdS_lt (n w : Nat) : ∀ i, cdS n w i < 8 ^ i
  | 0 => by show 0 < 8 ^ 0; decide
  | i + 1 => by
    have ih := cdS_lt n w i
    have hd := dg_lt n w i
    have : dg8 n w i * 8 ^ i ≤ 7 * 8 ^ i := Nat.mul_le_mul_right _ (by omega)
    unfold cdS
    rw [Nat.pow_succ]
    omega
theorem cdS_ch {h p v : Nat} (hv : v < 8) : cdS (h + 1) (p * 8 + v) (h + 1) = cdS h p h + v * 8 ^ h := by
  have key : ∀ i, i ≤ h → cdS (h + 1) (p * 8 + v) i = cdS h p i := by
    intro i
    induction i with
    | zero => intro _; rfl
    | succ i ih =>
      intro hi
      show cdS (h + 1) (p * 8 + v) i + dg8 (h + 1) (p * 8 + v) i * 8 ^ i = cdS h p i + dg8 h p i * 8 ^ i
      rw [ih (by omega), dg8_child hv (by omega)]
  show cdS (h + 1) (p * 8 + v) h + dg8 (h + 1) (p * 8 + v) h * 8 ^ h = _
  rw [key h (Nat.le_refl _), dg8_last hv]
theorem cdS_dg {n w h : Nat} : ∀ k, h < k → cdS n w k / 8 ^ h % 8 = dg8 n w h
  | 0, hh => absurd hh (Nat.not_lt_zero _)
  | k + 1, hh => by
    have h0 : 0 < 8 ^ h := Nat.pow_pos (by omega)
    unfold cdS
    by_cases q : h = k
    · subst q
      have hd := dg_lt n w h
      rw [Nat.add_mul_div_right _ _ h0, Nat.div_eq_of_lt (cdS_lt n w h), Nat.zero_add, Nat.mod_eq_of_lt hd]
    · have ih := cdS_dg (n := n) (w := w) (h := h) k (by omega)
      have e : dg8 n w k * 8 ^ k = dg8 n w k * 8 ^ (k - h - 1) * 8 * 8 ^ h := by
        rw [Nat.mul_assoc, Nat.mul_assoc, Nat.mul_comm 8 (8 ^ h), ← Nat.pow_succ, ← Nat.pow_add]
        congr 2
        omega
      rw [e, Nat.add_mul_div_right _ _ h0, Nat.add_mul_mod_self_right, ih]
theorem ffN_fr {td : Nat → Bool} {h : Nat} : ∀ {n : Nat}, ffN td n ≤ h → h < n → cN (fun x => td (x + 2 ^ h)) (2 ^ h) = 0
  | 0, _, h2 => absurd h2 (Nat.not_lt_zero _)
  | n + 1, h1, h2 => by
    unfold ffN at h1
    by_cases q : cN (fun x => td (x + 2 ^ n)) (2 ^ n) = 0
    · rw [if_pos q] at h1
      by_cases y : h = n
      · rw [y]
        exact q
      · exact ffN_fr h1 (by omega)
    · rw [if_neg q] at h1
      omega
theorem cN_sk {P : Nat → Bool} {W : Nat} : ∀ {K : Nat}, (∀ x, x < K → P (W + x) = false) → cN P (W + K) = cN P W
  | 0, _ => rfl
  | K + 1, h => by
    show (if P (W + K) = true then cN P (W + K) + 1 else cN P (W + K)) = _
    rw [h K (by omega), if_neg (by decide)]
    exact cN_sk fun x hx => h x (by omega)
def gK (n : Nat) (P : Nat → Bool) (W : Nat) (C : mT) : Prop := C.1 120 6 = nI (cN P W) ∧ ∀ w, w < W → P w = true → C.1 138 (cN P w) = nI (cdS n w n)
theorem gK_sk {n : Nat} {P : Nat → Bool} {W K : Nat} {C : mT} (h : ∀ x, x < K → P (W + x) = false) (H : gK n P W C) : gK n P (W + K) C := ⟨by rw [cN_sk h]; exact H.1, fun w hw hP => by
  by_cases q : w < W
  · exact H.2 w q hP
  · have := h (w - W) (by omega)
    rw [show W + (w - W) = w by omega, hP] at this
    cases this⟩
def fG (C C' : mT) : Prop := ∀ a j, a ≠ 130 → a ≠ 138 → ¬ (a = 120 ∧ j = 6) → C'.1 a j = C.1 a j
theorem fG.rf (C : mT) : fG C C := fun _ _ _ _ _ => rfl
theorem fG.tr {C D E : mT} (h : fG C D) (h2 : fG D E) : fG C E := fun a j g1 g2 g3 => (h2 a j g1 g2 g3).trans (h a j g1 g2 g3)
section
variable {n r : Nat} {st lo hi : Nat → Nat} {c : Nat → Bool}
theorem ctx_G {C C' : mT} (hn : n ≤ 5) (h : ctx n r st lo hi c C) (f : fG C C') : ctx n r st lo hi c C' := ctx_mv hn h (f _ _ (by omega) (by omega) (by omega)) (f _ _ (by omega) (by omega) (by omega)) (fun a j h1 h2 h3 => f a j h3 (by omega) (by omega))
theorem c_lh (hn5 : n ≤ 5) (hst : ∀ j, j < r → st j < 32 ∧ lo j ≤ 35 ∧ hi j ≤ 35) {h p : Nat} (hh : h < n) {C : mT} (hx : ctx n r st lo hi c C) (hd : h < ffN (tdS c st r) n → hdO h p C) : ∃ low top, fX10_lowest (nI h) C = some (nI low, C) ∧ fX10_highest (nI h) C = some (top, C) ∧ low ≤ 35 ∧ top ≤ nI 7 ∧ ∀ v, v < 8 → (okV r st lo hi c h p v ↔ low ≤ v ∧ nI v ≤ top) := by
  have H := hx.2.2.2 h hh
  have hp2 := p2 (h := h) (by omega)
  by_cases q : h < ffN (tdS c st r) n
  · have hhd := hd q
    have hgx : ∀ x, x < 2 ^ h → sSet h p x h ≤ 35 := fun x _ => by
      have := sSet_le h p x h
      omega
    have hlw : ∀ s, lwS c st lo r s ≤ 35 := fun s => lwS_le s fun j hj => (hst j hj).2.1
    have hhg : ∀ s, hgS c st hi r s ≤ 35 := fun s => hgS_le c st hi s r
    have hL := c_low4 (td := tdS c st r) (lw := lwS c st lo r) (g := fun x => sSet h p x h) (h := h) (C := C) (by omega) hlw hgx (fun s hs => (hx.2.2.1 s hs).1) hhd H (2 ^ h) 0 mK (by omega) (by have := mK_gt; omega)
    have hH := c_high5 (td := tdS c st r) (hg := hgS c st hi r) (g := fun x => sSet h p x h) (h := h) (C := C) (by omega) hhg hgx (fun s hs => (hx.2.2.1 s hs).2) hhd H (2 ^ h) 0 mK (by omega) (by have := mK_gt; omega)
    refine ⟨_, _, hL, hH, lwF_le hlw _, hgF_7 _, fun v hv => ?_⟩
    rw [lwF_iff, hgF_iff hhg hgx hv (2 ^ h) (Nat.le_refl _)]
    unfold okV
    exact ⟨fun z => ⟨fun x h1 h2 => (z x h1 h2).1, fun x h1 h2 => (z x h1 h2).2⟩, fun z x h1 h2 => ⟨z.1 x h1 h2, z.2 x h1 h2⟩⟩
  · have h0 := ffN_fr (td := tdS c st r) (h := h) (n := n) (by omega) hh
    have e8 : C.1 137 h = nI 0 := by
      have := H.1
      rw [h0] at this
      exact this
    have c0 : nI 0 ≤ (0 : Int32) := by decide
    obtain ⟨K', hK⟩ : ∃ K', mK = K' + 1 := ⟨999999, rfl⟩
    refine ⟨0, nI 7, ?_, ?_, by omega, Int32.le_refl _, fun v hv => ⟨fun _ => ⟨Nat.zero_le _, (xLe (by omega) (by omega)).mpr (by omega)⟩, fun _ x hx1 ht => ?_⟩⟩
    · unfold fX10_lowest
      rw [hK]
      simp (disch := omega) only [fX10_lowest_4, kO_129, kO_120, kI_137, g_t, b_d, b_c, b_v, Bool.and_true, Bool.and_self, Bool.true_and, xIx, xIn, e8, if_pos c0]
      rfl
    · unfold fX10_highest
      rw [hK]
      simp (disch := omega) only [fX10_highest_5, kO_129, kO_120, kI_137, g_t, b_d, b_c, b_v, Bool.and_true, Bool.and_self, Bool.true_and, xIx, xIn, e8, if_pos c0]
      rfl
    · have := cN_lt (fun x => tdS c st r (x + 2 ^ h)) (a := x) (b := 2 ^ h) ht hx1
      omega
theorem c_ga52 (hn5 : n ≤ 5) (hst : ∀ j, j < r → st j < 32 ∧ lo j ≤ 35 ∧ hi j ≤ 35) {h m p : Nat} (hn : n = h + 1 + m) (hok : okP r st lo hi c h p) {low : Nat} {top : Int32} (htop : top ≤ nI 7) (hokV : ∀ v, v < 8 → (okV r st lo hi c h p v ↔ low ≤ v ∧ nI v ≤ top)) (self : Int32 → Int32 → mT → Option mT)
    (IH : ∀ v, v < 8 → ∀ C, ctx n r st lo hi c C → C.1 120 9 = nI n → (h + 1 < ffN (tdS c st r) n → hdO (h + 1) (p * 8 + v) C) → okP r st lo hi c (h + 1) (p * 8 + v) → gK n (tru n r st lo hi c) ((p * 8 + v) * 8 ^ m) C → ∃ C', self (nI (h + 1)) (nI (cdS (h + 1) (p * 8 + v) (h + 1))) C = some C' ∧ fG C C' ∧ (∀ x, x < 2 ^ (h + 1) → C'.1 130 x = C.1 130 x) ∧ gK n (tru n r st lo hi c) ((p * 8 + v + 1) * 8 ^ m) C') :
    ∀ (q v k : Nat) (C : mT), v + q = 8 → q < k → low ≤ v → ctx n r st lo hi c C → C.1 120 9 = nI n → (h < ffN (tdS c st r) n → hdO h p C) → gK n (tru n r st lo hi c) ((p * 8 + v) * 8 ^ m) C → ∃ C', fX10_gatherFrom_52 self k (nI h) (nI (cdS h p h)) top (nI v) C = some C' ∧ fG C C' ∧ (∀ x, x < 2 ^ h → C'.1 130 x = C.1 130 x) ∧ gK n (tru n r st lo hi c) ((p * 8 + 8) * 8 ^ m) C'
  | 0, v, k, C, hv, hk, hlv, hx, e9, hd, hg => by
    obtain ⟨k', rfl⟩ := up1 hk
    have hv : v = 8 := by omega
    subst hv
    have c0 : top < nI 8 := Int32.lt_of_le_of_lt htop (by decide)
    exact ⟨C, by simp only [fX10_gatherFrom_52, if_pos c0], fG.rf C, fun _ _ => rfl, hg⟩
  | q + 1, v, k, C, hv, hk, hlv, hx, e9, hd, hg => by
    obtain ⟨k', rfl⟩ := up1 hk
    have hv8 : v < 8 := by omega
    have o1 : nI v + (1 : Int32) = nI (v + 1) := nI_add v 1
    have oh : nI h + (1 : Int32) = nI (h + 1) := nI_add h 1
    have o3 : (3 : Int32) * nI h = nI (3 * h) := xM 3 h
    by_cases ct : top < nI v
    · refine ⟨C, by simp only [fX10_gatherFrom_52, if_pos ct], fG.rf C, fun _ _ => rfl, ?_⟩
      have hno : ∀ x, x < (8 - v) * 8 ^ m → tru n r st lo hi c ((p * 8 + v) * 8 ^ m + x) = false := fun x hx => blk_no (p := p) hst hn (by omega) (fun v' h1 h2 hV => by
        have := ((hokV v' h2).mp hV).2
        have h3 := Int32.lt_of_lt_of_le ct ((xLe (by omega) (by omega)).mpr h1)
        exact absurd (Int32.lt_of_lt_of_le h3 this) Int32.lt_irrefl) hx
      have := gK_sk hno hg
      rw [← Nat.add_mul, show p * 8 + v + (8 - v) = p * 8 + 8 by omega] at this
      exact this
    · have hle : nI v ≤ top := Int32.not_lt.mp ct
      have hV := (hokV v hv8).mpr ⟨hlv, hle⟩
      have hok' := okP_ch hst (by omega) hv8 hok hV
      have ecd := cdS_ch (h := h) (p := p) hv8
      have hcl := cdS_lt h p h
      have hp8 : v * 2 ^ (3 * h) < 2147483648 := by
        rw [e83]
        have h1 : 8 ^ h ≤ 8 ^ 4 := Nat.pow_le_pow_right (by omega) (by omega)
        have h2 : v * 8 ^ h ≤ 7 * 8 ^ 4 := Nat.mul_le_mul (by omega) h1
        omega
      have oor : nI (cdS h p h) ||| (nI v <<< (nI (3 * h) &&& 31)) = nI (cdS (h + 1) (p * 8 + v) (h + 1)) := by
        rw [shl_n hp8 (by omega), or_add (by rw [e83]; exact hcl), e83, ecd]
      -- one more, then the next
      have fin : ∀ C6, fG C C6 → (∀ x, x < 2 ^ h → C6.1 130 x = C.1 130 x) → (h + 1 < ffN (tdS c st r) n → hdO (h + 1) (p * 8 + v) C6) → gK n (tru n r st lo hi c) ((p * 8 + v) * 8 ^ m) C6 → ∃ C', fX10_gatherFrom_78 self (fX10_gatherFrom_52 self k') (nI h) (nI (cdS h p h)) top (nI v) C6 = some C' ∧ fG C C' ∧ (∀ x, x < 2 ^ h → C'.1 130 x = C.1 130 x) ∧ gK n (tru n r st lo hi c) ((p * 8 + 8) * 8 ^ m) C' := fun C6 f6 d6 hd6 g6 => by
        obtain ⟨C7, t1, t2, t3, t4⟩ := IH v hv8 C6 (ctx_G hn5 hx f6) (by rw [f6 _ _ (by omega) (by omega) (by omega)]; exact e9) hd6 hok' g6
        have f7 := f6.tr t2
        have d7 : ∀ x, x < 2 ^ h → C7.1 130 x = C.1 130 x := fun x hx => by rw [t3 x (by rw [Nat.pow_succ]; omega), d6 x hx]
        obtain ⟨C', r1, r2, r3, r4⟩ := c_ga52 hn5 hst hn hok htop hokV self IH q (v + 1) k' C7 (by omega) (by omega) (by omega) (ctx_G hn5 hx f7) (by rw [f7 _ _ (by omega) (by omega) (by omega)]; exact e9) (fun y x hx => by rw [d7 x hx]; exact hd y x hx) (by rw [← Nat.add_assoc]; exact t4)
        refine ⟨C', ?_, f7.tr r2, fun x hx => by rw [r3 x hx, d7 x hx], r4⟩
        rw [← r1]
        simp only [fX10_gatherFrom_78, oh, o3, oor, t1, g_t, b_d, b_c, b_v, Bool.and_true, Bool.and_self, Bool.true_and, o1]
      by_cases cf : ffN (tdS c st r) n ≤ h + 1
      · have cf' : nI (ffN (tdS c st r) n) ≤ nI (h + 1) := (xLe (by have := ffN_le (tdS c st r) n; omega) (by omega)).mpr cf
        obtain ⟨C', r1, r2⟩ := fin C (fG.rf C) (fun _ _ => rfl) (fun y => by omega) hg
        refine ⟨C', ?_, r2⟩
        rw [← r1]
        simp only [fX10_gatherFrom_52, if_neg ct, kO_120, g_t, b_d, b_c, b_v, Bool.and_true, Bool.and_self, Bool.true_and, hx.1, oh, if_pos cf']
      · have cf' : ¬ nI (ffN (tdS c st r) n) ≤ nI (h + 1) := fun y => cf ((xLe (by have := ffN_le (tdS c st r) n; omega) (by omega)).mp y)
        have hhd := hd (by omega)
        obtain ⟨C6, s1, s2, s3, s4⟩ := c_sh2 (g := fun x => sSet h p x h) (h := h) kLs129 (by omega) (v := v) (2 ^ h) 0 mK C (by omega) (by have := mK_gt; have := p2 (h := h) (by omega); omega) hhd
        have s1' : fX9_setHeads 129 (nI h) (nI v) C = some C6 := s1
        obtain ⟨C', r1, r2⟩ := fin C6 (fun a j g1 _ _ => s4 a j g1) (fun x hx => s3 x (by omega)) (fun _ x hx => by
          rw [Nat.pow_succ] at hx
          by_cases y : x < 2 ^ h
          · rw [(sSet_ch hv8 y).1]
            exact (s3 x (by omega)).trans (hhd x y)
          · obtain ⟨x', hx'⟩ : ∃ x', x = x' + 2 ^ h := ⟨x - 2 ^ h, by omega⟩
            rw [hx', (sSet_ch hv8 (by omega)).2]
            exact s2 x' (by omega) (by omega)) ⟨by rw [s4 _ _ (by omega)]; exact hg.1, fun w hw hP => by rw [s4 _ _ (by omega)]; exact hg.2 w hw hP⟩
        refine ⟨C', ?_, r2⟩
        rw [← r1]
        simp only [fX10_gatherFrom_52, if_neg ct, kO_120, g_t, b_d, b_c, b_v, Bool.and_true, Bool.and_self, Bool.true_and, hx.1, oh, if_neg cf', s1']
theorem c_ga (hn5 : n ≤ 5) (hst : ∀ j, j < r → st j < 32 ∧ lo j ≤ 35 ∧ hi j ≤ 35) (hsn : ∀ j, j < r → c j = true → st j < 2 ^ n) (hcap : cN (tru n r st lo hi c) (8 ^ n) ≤ 4096) : ∀ (m h dd p : Nat) (C : mT), n = h + m → m < dd → p < 8 ^ h → okP r st lo hi c h p → ctx n r st lo hi c C → C.1 120 9 = nI n → (h < ffN (tdS c st r) n → hdO h p C) → gK n (tru n r st lo hi c) (p * 8 ^ m) C → ∃ C', fX10_gatherFrom dd (nI h) (nI (cdS h p h)) C = some C' ∧ fG C C' ∧ (∀ x, x < 2 ^ h → C'.1 130 x = C.1 130 x) ∧ gK n (tru n r st lo hi c) ((p + 1) * 8 ^ m) C'
  | m, h, 0, p, C, hn, hdd, hp, hok, hx, e9, hd, hg => by omega
  | 0, h, d' + 1, p, C, hn, hdd, hp, hok, hx, e9, hd, hg => by
    have hnh : n = h := by omega
    subst hnh
    have c1 : ¬ nI n < nI n := Int32.lt_irrefl
    have hP : tru n r st lo hi c p = true := by
      have := (tru_pre (n := n) (r := r) (st := st) (lo := lo) (hi := hi) (c := c) (h := n) (m := 0) (p := p) (y := 0) (by omega) (by decide) hsn).mpr hok
      rw [Nat.pow_zero, Nat.mul_one] at this
      exact this
    have hcl := cN_lt (tru n r st lo hi c) hP hp
    rw [Nat.pow_zero, Nat.mul_one] at hg ⊢
    have c2 : ¬ (4096 : Int32) ≤ nI (cN (tru n r st lo hi c) p) := fun y => by have := (xLe (a := 4096) (by omega) (by omega)).mp y; omega
    have o1 : nI (cN (tru n r st lo hi c) p) + (1 : Int32) = nI (cN (tru n r st lo hi c) p + 1) := nI_add _ 1
    have e6 := hg.1
    have ec : cN (tru n r st lo hi c) (p + 1) = cN (tru n r st lo hi c) p + 1 := if_pos hP
    refine ⟨sI (sI C 138 (cN (tru n r st lo hi c) p) (nI (cdS n p n))) 120 6 (nI (cN (tru n r st lo hi c) p + 1)), ?_, fun a j g1 g2 g3 => by rw [sI_ne g3, sI_ne (by omega)], fun x _ => by rw [sI_ne (by omega), sI_ne (by omega)], by rw [sI_eq, ec], fun w hw hPw => ?_⟩
    · simp (disch := omega) only [fX10_gatherFrom, fX10_gatherFrom_0, fX10_gatherFrom_38, kO_120, kI_138, g_t, b_d, b_c, b_v, Bool.and_true, Bool.and_self, Bool.true_and, e9, if_neg c1, e6, if_neg c2, xIx, xIn, sI_ne, o1]
    · by_cases q : w = p
      · subst q
        rw [sI_ne (by omega), sI_eq]
      · have := cN_lt (tru n r st lo hi c) (a := w) (b := p) hPw (by omega)
        rw [sI_ne (by omega), sI_ne (by omega)]
        exact hg.2 w (by omega) hPw
  | m + 1, h, d' + 1, p, C, hn, hdd, hp, hok, hx, e9, hd, hg => by
    have c1 : nI h < nI n := (xLt (by omega) (by omega)).mpr (by omega)
    obtain ⟨low, top, l1, l2, l3, l4, l5⟩ := c_lh (p := p) hn5 hst (h := h) (by omega) hx hd
    have main := c_ga52 hn5 hst (h := h) (m := m) (p := p) (by omega) hok l4 l5 (fX10_gatherFrom d') (fun v hv C i1 i2 i3 i4 i5 => c_ga hn5 hst hsn hcap m (h + 1) d' (p * 8 + v) C (by omega) (by omega) (by rw [Nat.pow_succ]; omega) i4 i1 i2 i3 i5)
    have e8 : p * 8 ^ (m + 1) = p * 8 * 8 ^ m := by rw [Nat.pow_succ, Nat.mul_assoc, Nat.mul_comm (8 ^ m) 8]
    have e89 : (p + 1) * 8 ^ (m + 1) = (p * 8 + 8) * 8 ^ m := by rw [Nat.pow_succ, Nat.mul_comm (8 ^ m) 8, ← Nat.mul_assoc, Nat.add_mul, Nat.one_mul]
    rw [e8] at hg
    have hstart : fX10_gatherFrom (d' + 1) (nI h) (nI (cdS h p h)) C = fX10_gatherFrom_52 (fX10_gatherFrom d') mK (nI h) (nI (cdS h p h)) top (nI low) C := by
      simp only [fX10_gatherFrom, fX10_gatherFrom_0, kO_120, g_t, b_d, b_c, b_v, Bool.and_true, Bool.and_self, Bool.true_and, e9, if_pos c1, l1, l2]
    rw [hstart, e89]
    by_cases q : low ≤ 8
    · have hno : ∀ x, x < low * 8 ^ m → tru n r st lo hi c (p * 8 * 8 ^ m + x) = false := fun x hx => by
        have h0 : 0 < 8 ^ m := Nat.pow_pos (by omega)
        have hq : x / 8 ^ m < low := (Nat.div_lt_iff_lt_mul h0).mpr hx
        have e : p * 8 * 8 ^ m + x = (p * 8 + x / 8 ^ m) * 8 ^ m + x % 8 ^ m := by
          have := Nat.div_add_mod x (8 ^ m)
          rw [Nat.mul_comm] at this
          rw [Nat.add_mul]
          omega
        rw [e]
        have hm0 : x % 8 ^ m < 8 ^ m := Nat.mod_lt _ h0
        generalize x / 8 ^ m = y at hq ⊢
        exact okV_no (h := h) (p := p) (v := y) hst (by omega) (by omega) (by omega) hm0 (fun hV => by have := ((l5 y (by omega)).mp hV).1; omega)
      have hg' := gK_sk hno hg
      rw [← Nat.add_mul] at hg'
      exact main (8 - low) low mK C (by omega) (by have := mK_gt; omega) (Nat.le_refl _) hx e9 hd hg'
    · have ct : top < nI low := Int32.lt_of_le_of_lt l4 ((xLt (by omega) (by omega)).mpr (by omega))
      have hno : ∀ x, x < 8 * 8 ^ m → tru n r st lo hi c (p * 8 * 8 ^ m + x) = false := fun x hx => by
        have := blk_no (v := 0) (p := p) (n := n) (h := h) (m := m) (c := c) hst (by omega) (by omega) (fun v' _ h2 hV => by have := ((l5 v' h2).mp hV).1; omega) (x := x) (by rw [Nat.sub_zero]; exact hx)
        rw [Nat.add_zero] at this
        exact this
      obtain ⟨K', hK⟩ : ∃ K', mK = K' + 1 := ⟨999999, rfl⟩
      have hg' := gK_sk hno hg
      rw [← Nat.add_mul] at hg'
      refine ⟨C, ?_, fG.rf C, fun _ _ => rfl, hg'⟩
      rw [hK]
      simp only [fX10_gatherFrom_52, if_pos ct]
end
