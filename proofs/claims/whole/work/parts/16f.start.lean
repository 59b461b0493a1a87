/-! THE LAW'S START: what the Statement gives, as the small machine needs it. -/
def zTm (i : Nat) : Term := Term.string RX4 (mSt.getD i (0, "")).1
def zF : List Cond := flatC (Jvm.Cond.and given_1 narrow_1)
set_option maxRecDepth 100000 in
theorem zF_ex : ∀ i, i < 15 → Cond.exactly (zTm i) "java/lang/String" ∈ zF := by decide +kernel
set_option maxRecDepth 100000 in
theorem zF_co : ∀ i, i < 15 → Cond.eq (.field (zTm i) "java/lang/String" "coder" "B") (.int 0) ∈ zF := by decide +kernel
set_option maxRecDepth 100000 in
theorem zF_ar : ∀ i, i < 15 → Cond.arrayOf (.field (zTm i) "java/lang/String" "value" "[B") .byte ∈ zF := by decide +kernel
set_option maxRecDepth 100000 in
theorem zF_le : ∀ i, i < 15 → Cond.eq (.length (.field (zTm i) "java/lang/String" "value" "[B")) (.int (Int32.ofNat (mStL.getD i 0))) ∈ zF := by decide +kernel
set_option maxRecDepth 100000 in
theorem zF_el : ∀ i, i < 15 → ∀ j, j < mStL.getD i 0 → Cond.eq (.elem (.field (zTm i) "java/lang/String" "value" "[B") (.int (Int32.ofNat j))) (.int ((mStB.getD i []).getD j 0)) ∈ zF := by decide +kernel
set_option maxRecDepth 100000 in
theorem zF_ne : ∀ i, i < 15 → ∀ j, j < 15 → i ≠ j → Cond.not (Cond.eq (zTm i) (zTm j)) ∈ zF ∨ Cond.not (Cond.eq (zTm j) (zTm i)) ∈ zF := by decide +kernel
set_option maxRecDepth 100000 in
theorem zF_cs : Cond.eq (.static "java/lang/String" "COMPACT_STRINGS" "Z") (.int 1) ∈ zF := by decide +kernel
set_option maxRecDepth 100000 in
theorem zF_fm : Cond.isRef (.static "jdk/internal/util/Preconditions" "SIOOBE_FORMATTER" "Ljava/util/function/BiFunction;") ∈ zF := by decide +kernel
set_option maxRecDepth 100000 in
theorem zT_sr : ∀ j, j < 15 → Cond.stringRef RX4 (mSt.getD j (0, "")).1 (mSt.getD j (0, "")).2 ∈ lw_tbl := by decide +kernel
set_option maxRecDepth 100000 in
theorem zT_ns : ∀ q ∈ mNs, Cond.methodLinkNest q.1 q.2.1 q.2.2.1 q.2.2.2 ∈ lw_tbl := by decide +kernel
set_option maxRecDepth 100000 in
theorem zT_ao : Cond.arrayOver (.array .int) ∈ lw_tbl := by decide +kernel
set_option maxRecDepth 100000 in
theorem zT_ac : Cond.arrayClass .int ∈ lw_tbl ∧ Cond.arrayClass .byte ∈ lw_tbl ∧ Cond.arrayClass .boolean ∈ lw_tbl ∧ Cond.arrayClass .long ∈ lw_tbl := by decide +kernel
set_option maxRecDepth 100000 in
theorem zT_st : Cond.laysStatic "java/lang/String" "COMPACT_STRINGS" "Z" ∈ lw_tbl ∧ Cond.initialized "java/lang/String" ∈ lw_tbl ∧ Cond.laysStatic "jdk/internal/util/Preconditions" "SIOOBE_FORMATTER" "Ljava/util/function/BiFunction;" ∈ lw_tbl ∧ Cond.initialized "jdk/internal/util/Preconditions" ∈ lw_tbl := by decide +kernel
theorem zArr {args : Array Value} {s : State} {ty : FieldType} (h : (Cond.arrayClass ty).before args s = true) (hn : ∀ C, ty ≠ .object C) : ∃ cA, ArrOfT s cA ty ∧ va_RA s cA ty := by
  obtain ⟨cA, kA, comp, h1, h2, h3⟩ := Cond.arrayClass_spec h
  refine ⟨cA, fun n z => ⟨fun k h => (by cases h), kA, h2, comp, h3⟩, ?_⟩
  cases ty with
  | object C => exact absurd rfl (hn C)
  | _ => exact h1
theorem mAO_arr {s : State} (h : mAO s) : ∃ cA, ArrOfT s cA (.array .int) ∧ va_RA s cA (.array .int) := by
  unfold mAO Cond.before Cond.holds at h
  simp only [Cond.value, beq_iff_eq] at h
  cases hc : s.vm.findClass (FieldType.array .int).toString with
  | none => simp [hc] at h
  | some comp =>
    simp only [hc, Option.bind_some, Option.bind_eq_some_iff, Option.map_eq_some_iff] at h
    obtain ⟨c, h2, k, h3, h4⟩ := h
    cases hk : k.kind with
    | array cm ty =>
      rw [hk] at h4
      simp only [Bool.and_eq_true, decide_eq_true_eq] at h4
      obtain ⟨e1, e2⟩ := h4
      subst e1
      exact ⟨c, fun n z => ⟨fun k h => (by cases h), k, h3, cm, hk⟩, e2⟩
    | _ => rw [hk] at h4; cases h4
theorem mCl_inst {a : Nat} {r : vw_C} (h : vwCl[a]? = some r) : Cond.instantiable r.1 r.2.2 ∈ mTb := by
  match a, h with
  | 0, h => cases h; exact ls_RX0
  | 1, h => cases h; exact ls_RX1
  | 2, h => cases h; exact ls_RX2
  | 3, h => cases h; exact ls_RX3
  | 4, h => cases h; exact ls_RX4
  | 5, h => cases h; exact ls_RX5
  | 6, h => cases h; exact ls_RX6
  | 7, h => cases h; exact ls_RX7
  | 8, h => cases h; exact ls_RX8
  | 9, h => cases h; exact ls_RX9
  | 10, h => cases h; exact ls_RX10
  | 11, h => cases h; exact ls_RX11
  | 12, h => cases h; exact ls_RX12
  | n + 13, h => cases h
set_option maxRecDepth 100000 in
theorem mStart {p : Program} {s : State} {m : MethodId} {meth : Method} {c : Code} {b L : Nat} {xs : Nat → Int32} (C0 : lw_At p s m meth c b L xs) : ∃ G : mG, G.1 = s.heap.size ∧ G.2.1 300 = b ∧ mCx p room_1 s m #[Value.ref b] meth c G cL_law RL 4 false 233 54500 0 0 := by
  obtain ⟨hx, hb, hr, hml, hown, hts, hX, hbl, hlocks, hgv⟩ := C0
  have hs := flat_of_before _ hgv
  have hA0 : ∀ a : Nat, a < s.heap.size → ¬ (fun q : Nat => s.heap.size ≤ q) a := fun a h => Nat.not_le.mpr h
  obtain ⟨adK, adV, hS, hE⟩ := vk_Sof (args := #[Value.ref b]) (s := s) (N := 15) (tm := zTm) (len := mStL) (byt := mStB) (A := fun q : Nat => s.heap.size ≤ q) (by decide +kernel) (fun i hi => hs _ (zF_ex i hi)) (fun i hi => hs _ (zF_co i hi)) (fun i hi => hs _ (zF_ar i hi)) (fun i hi => hs _ (zF_le i hi)) (fun i hi j hj => hs _ (zF_el i hi j hj)) (fun i j hi hj hij => (zF_ne i hi j hj hij).elim (fun h => Or.inl (hs _ h)) (fun h => Or.inr (hs _ h))) hA0
  have hZ1 := va_Zof (A := fun q : Nat => s.heap.size ≤ q) (hts _ zT_st.1) (hts _ zT_st.2.1) (va_eqi (hs _ zF_cs)) hA0
  obtain ⟨fv, hf1, hf2⟩ := Cond.isRef_spec (hs _ zF_fm)
  have hZ2 := va_Zof (A := fun q : Nat => s.heap.size ≤ q) (hts _ zT_st.2.2.1) (hts _ zT_st.2.2.2) hf1 hA0
  have hao : mAO s := hts _ zT_ao
  obtain ⟨cI, aI⟩ := zArr (hts _ zT_ac.1) (fun C h => by cases h)
  obtain ⟨cB, aB⟩ := zArr (hts _ zT_ac.2.1) (fun C h => by cases h)
  obtain ⟨cZ, aZ⟩ := zArr (hts _ zT_ac.2.2.1) (fun C h => by cases h)
  obtain ⟨cJ, aJ⟩ := zArr (hts _ zT_ac.2.2.2) (fun C h => by cases h)
  obtain ⟨cR, aR⟩ := mAO_arr hao
  have hk : ∀ a : Nat, ∃ q : ClassId × (Nat → Nat), ∀ r, vwCl[a]? = some r → u_Kn s r.1 r.2.1 r.2.2 q.1 q.2 := by
    intro a
    cases e : vwCl[a]? with
    | none => exact ⟨(0, fun _ => 0), fun r h => by cases h⟩
    | some r =>
      obtain ⟨cC, iS, h⟩ := u_known (C := r.1) (T := r.2.1) (N := r.2.2) (n := r.2.2) (ws := mTb) (fun w hw => hts w (mTb_in hw)) (mCl_in e) (hts _ (mTb_in (mCl_inst e)))
      exact ⟨(cC, iS), fun r' h' => by cases h'; exact h⟩
  obtain ⟨D, hD⟩ := Classical.axiomOfChoice hk
  let ft : Nat := match fv with
    | .ref a => a
    | _ => 0
  let ad : Nat → Nat := fun j => if j < 15 then adK j else if j < 115 then adV (j - 100) else if j = 200 then ft else b
  let ac : FieldType → ClassId := fun ty => match ty with
    | .int => cI
    | .byte => cB
    | .boolean => cZ
    | .long => cJ
    | _ => cR
  let G : mG := (s.heap.size, ad, adV, (fun k => (D k).1, fun k => (D k).2), ac)
  refine ⟨G, rfl, rfl, hx, hb, hml, hown, fun w hw => hts w (mTb_in hw), ⟨fun k q hq => hD k q hq, ?_⟩, rfl, ⟨?_, ?_, fun q hq => hts _ (zT_ns q hq), hao, hZ1, ?_, ?_⟩, ⟨by decide, by decide, by decide⟩, ⟨by decide, by decide⟩, fun z => by cases z⟩
  · intro k q hq
    match k, hq with
    | 0, hq => cases hq; exact aI
    | 1, hq => cases hq; exact aB
    | 2, hq => cases hq; exact aZ
    | 3, hq => cases hq; exact aJ
    | 4, hq => cases hq; exact aR
    | k + 5, hq => simp at hq
  · intro j q hq
    have hj : j < 15 := (List.getElem?_eq_some_iff.mp hq).1
    have e1 : mSt.getD j (0, "") = q := by rw [List.getD, hq]; rfl
    have h1 := zT_sr j hj
    have h2 := hE j hj
    unfold zTm at h2
    rw [e1] at h1 h2
    have e2 : G.2.1 j = adK j := if_pos hj
    rw [e2]
    exact vk_R.of (hts _ h1) h2
  · have hS1 : vk_S 15 mStL mStB G.2.1 G.2.2.1 (mA G) s s.heap := by
      refine ⟨fun i hi => ?_, fun i j hi hj e => ?_⟩
      · have e2 : G.2.1 i = adK i := if_pos hi
        rw [e2]
        exact hS.1 i hi
      · have e2 : G.2.1 i = adK i := if_pos hi
        have e3 : G.2.1 j = adK j := if_pos hj
        rw [e2, e3] at e
        exact hS.2 i j hi hj e
    exact hS1
  · cases fv with
    | ref a =>
      refine ⟨900200, Or.inr rfl, ?_⟩
      exact hZ2
    | null =>
      refine ⟨NUL, Or.inl rfl, ?_⟩
      exact hZ2
    | _ => cases hf2
  · intro j hj
    show (if 100 + j < 15 then adK (100 + j) else if 100 + j < 115 then adV (100 + j - 100) else if 100 + j = 200 then ft else b) = adV j
    rw [if_neg (by omega), if_pos (by omega), Nat.add_sub_cancel_left]
