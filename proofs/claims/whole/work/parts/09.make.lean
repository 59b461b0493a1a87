/-! THE STEPS THAT MAKE CELLS. -/
section SM
variable {p : Program} {l : Launch} {e : Env} {R : Room} {s : State} {m : MethodId} {args : Array Value} {below : List Frame} {meth : Method} {c : Code} {Q : State → Prop} {cc : ByteArray} {own : String} {G : mG} {nL n0 w0 nM wM : Nat} {fin : Bool}
theorem mRo_NUL : va_rf (mRo G NUL) = .null := by
  unfold mRo
  rw [if_pos rfl]
  rfl
theorem mFv_new {h : mHp} {i k : Nat} {ty : FieldType} (hi : hI h i k = 0) (hj : hJ h i k = 0) (hr : hR h i k = NUL) (h1 : ty ≠ .float) (h2 : ty ≠ .double) : defaultValue ty = mFv G h i k ty := by
  cases ty with
  | float => exact absurd rfl h1
  | double => exact absurd rfl h2
  | long => show Value.long 0 = Value.long (hJ h i k); rw [hj]
  | object n => show Value.null = va_rf (mRo G (hR h i k)); rw [hr, mRo_NUL]
  | array t => show Value.null = va_rf (mRo G (hR h i k)); rw [hr, mRo_NUL]
  | _ => show Value.int 0 = Value.int (hI h i k); rw [hi]
theorem so_new (C : mCx p R s m args meth c G cc own nL fin nM wM n0 w0) {i pc a : Nat} {ok ok' : Bool} {L t : List Value} {h : mHp} (hd : decode cc pc = .ok (.new i, 3)) (he : ∃ r0 : vw_C, vwCl[a]? = some r0 ∧ Cond.classLink own i r0.1 ∈ mTb ∧ Cond.instantiable r0.1 r0.2.2 ∈ mTb ∧ Cond.initialized r0.1 ∈ mTb) (hn : hN h + 1 ≤ nM) (hm : hW h + mNf a ≤ wM)
    (k : mW p l e R s m args below meth c G nL n0 w0 Q (ok', pc + 3, L, .ref (hN h) :: t, newO h a (mNf a))) : mW p l e R s m args below meth c G nL n0 w0 Q (ok, pc, L, t, h) := by
  obtain ⟨r0, hc, g1, g2, g3⟩ := he
  have hA := mA_ge C
  obtain ⟨hx, hcb, hml, hown, hts, hK, hsz, hX, hnm, hfr, hfin⟩ := C
  intro H locs ls hw hQ hv h0 h1
  have h0 : n0 ≤ hN h := h0
  have h1 : w0 ≤ hW h := h1
  have hnf := mCl_nf hc
  refine W_sz fun hz => ?_
  have hsz2 : H.size = G.1 + hN h := mWd_sz hw hsz hz h0 hQ.1
  have hKn := hK.1 a _ hc
  refine W.newcK hx hcb hown (hts _ g1) (hts _ g2) (hts _ g3) rfl hd (by show hN h - n0 + 1 ≤ R.cells; omega) (by show hW h - w0 + r0.2.2 ≤ R.slots; omega) hKn.2.1 hsz2 fun H1 kC hkC e1 z1 o1 => ?_
  have hk : ∀ (k : Nat) (x : Nat × va_E), (mWs G h)[k]? = some x → H1[x.1]? = H[x.1]? := fun k x hx => o1 x.1 (by have := (hw.1 k x hx).lt; omega)
  have hS1 : hS (newO h a (mNf a)) (hN h) = .inl a := mup_at
  have hpush : mWs G h ++ [(G.1 + hN h, mEl G (newO h a (mNf a)) (hN h))] = mWs G (newO h a (mNf a)) := mWs_push rfl rfl (fun j hj => mEl_eq (mup_ne (by omega)) (mup_ne (by omega)) (mup_ne (by omega)) (mup_ne (by omega)))
  have hP1 : va_P G.2.2.2.1 vwCl (mWs G (newO h a (mNf a))) H1 := by
    rw [← hpush]
    refine (hw.1.kept hk).app (fun k x hx => ?_)
    have hz0 : k < 1 := (List.getElem?_eq_some_iff.mp hx).1
    rw [show k = 0 by omega] at hx
    cases hx
    rw [mEl_O hS1]
    refine ⟨_, hc, (u_born (mTy a) hts (mCl_in hc) hKn hkC e1 (mCl_ty hc)).to (fun j hj => ?_)⟩
    have hj2 : j < mNf a := by rw [hnf]; exact hj
    have hnf2 := mTy_nf0 a (mCl_lt hc) j hj2
    show defaultValue (mTy a j) = (List.getD _ j .null)
    rw [List.getD, mFs_get hj2]
    exact mFv_new (by show (va_up h.1 (hN h) (fun _ => 0)) (hN h) j = 0; rw [mup_at]) (by show (va_up h.2.1 (hN h) (fun _ => 0)) (hN h) j = 0; rw [mup_at]) (by show (va_up h.2.2.1 (hN h) (fun _ => NUL)) (hN h) j = NUL; rw [mup_at]) hnf2.1 hnf2.2
  have k1 := k H1 locs ls ⟨hP1, by show hN h + 1 ≤ 900000; omega⟩ ⟨by have := hQ.1; omega, fun x h3 h4 => (o1 x (by have := hQ.1; omega)).trans (hQ.2.1 x h3 h4), hQ.2.2⟩ hv (by show n0 ≤ hN h + 1; omega) (by show w0 ≤ hW h + mNf a; omega)
  have k2 : W p l e R s m args below meth c H1 locs (hN h + 1 - n0) (hW h + mNf a - w0) Q (F0 m (pc + 3) ls (mCv G (.ref (hN h)) :: t.map (mCv G))) := k1
  rw [mCv_ref (by omega), hnf] at k2
  have e5 : hN h - n0 + 1 = hN h + 1 - n0 := by omega
  have e6 : hW h - w0 + r0.2.2 = hW h + r0.2.2 - w0 := by omega
  show W p l e R s m args below meth c H1 locs (hN h - n0 + 1) (hW h - w0 + r0.2.2) Q (F0 m (pc + 3) ls (.ref (G.1 + hN h) :: t.map (mCv G)))
  rw [e5, e6]
  exact k2
theorem mK_arr (hK : va_K G.2.2.2.1 vwCl (mTys G) s) (ty : ArrayType) {cA : ClassId} (hb : newarray.typeOf ty = .int ∨ newarray.typeOf ty = .byte ∨ newarray.typeOf ty = .boolean ∨ newarray.typeOf ty = .long) (h : s.vm.findClass ("[" ++ (newarray.typeOf ty).toString) = some cA) : cA = G.2.2.2.2 (newarray.typeOf ty) := by
  rcases hb with e | e | e | e <;> rw [e] at h ⊢
  · exact Option.some.inj (h.symm.trans (hK.2 0 _ rfl).2)
  · exact Option.some.inj (h.symm.trans (hK.2 1 _ rfl).2)
  · exact Option.some.inj (h.symm.trans (hK.2 2 _ rfl).2)
  · exact Option.some.inj (h.symm.trans (hK.2 3 _ rfl).2)
theorem so_newa (C : mCx p R s m args meth c G cc own nL fin nM wM n0 w0) {pc : Nat} {ty : ArrayType} {n : Int32} {ok ok' : Bool} {L t : List Value} {h : mHp} (hd : decode cc pc = .ok (.newarray ty, 2)) (he : Cond.arrayClass (newarray.typeOf ty) ∈ mTb) (hty : newarray.typeOf ty = .int ∨ newarray.typeOf ty = .byte ∨ newarray.typeOf ty = .boolean ∨ newarray.typeOf ty = .long) (hn0 : ¬ n < 0) (hn1 : mIx n ≤ 60000000) (hn : hN h + 1 ≤ nM) (hm : hW h + mIx n ≤ wM)
    (k : mW p l e R s m args below meth c G nL n0 w0 Q (ok', pc + 2, L, .ref (hN h) :: t, newA h (newarray.typeOf ty) (mIx n))) : mW p l e R s m args below meth c G nL n0 w0 Q (ok, pc, L, .int n :: t, h) := by
  have hA := mA_ge C
  obtain ⟨hx, hcb, hml, hown, hts, hK, hsz, hX, hnm, hfr, hfin⟩ := C
  intro H locs ls hw hQ hv h0 h1
  have h0 : n0 ≤ hN h := h0
  have h1 : w0 ≤ hW h := h1
  refine W_sz fun hz => ?_
  have hsz2 : H.size = G.1 + hN h := mWd_sz hw hsz hz h0 hQ.1
  refine va_newaK hx hcb (hts _ he) rfl hd rfl hn0 (N := mIx n) rfl (by rcases hty with e | e | e | e <;> rw [e] <;> (show mIx n * _ ≤ _; simp only [componentBytes]; omega)) (by show hN h - n0 + 1 ≤ R.cells; omega) (by show hW h - w0 + mIx n ≤ R.slots; omega) hsz2 fun H1 cA e1 z1 o1 hAr hNm => ?_
  have hcA := mK_arr hK ty hty hNm
  subst hcA
  have hk : ∀ (k : Nat) (x : Nat × va_E), (mWs G h)[k]? = some x → H1[x.1]? = H[x.1]? := fun k x hx => o1 x.1 (by have := (hw.1 k x hx).lt; omega)
  have hS1 : hS (newA h (newarray.typeOf ty) (mIx n)) (hN h) = .inr (newarray.typeOf ty, mIx n) := mup_at
  have hpush : mWs G h ++ [(G.1 + hN h, mEl G (newA h (newarray.typeOf ty) (mIx n)) (hN h))] = mWs G (newA h (newarray.typeOf ty) (mIx n)) := mWs_push rfl rfl (fun j hj => mEl_eq (mup_ne (by omega)) (mup_ne (by omega)) (mup_ne (by omega)) (mup_ne (by omega)))
  have eI : hI (newA h (newarray.typeOf ty) (mIx n)) (hN h) = fun _ => 0 := mup_at
  have eJ : hJ (newA h (newarray.typeOf ty) (mIx n)) (hN h) = fun _ => 0 := mup_at
  have hP1 : va_P G.2.2.2.1 vwCl (mWs G (newA h (newarray.typeOf ty) (mIx n))) H1 := by
    rw [← hpush]
    refine (hw.1.kept hk).app (fun k x hx => ?_)
    have hz0 : k < 1 := (List.getElem?_eq_some_iff.mp hx).1
    rw [show k = 0 by omega] at hx
    cases hx
    rw [mEl_A hS1]
    show H1[G.1 + hN h]? = some (vp_cell (G.2.2.2.2 (newarray.typeOf ty)) (mAr G (newA h (newarray.typeOf ty) (mIx n)) (hN h) (mIx n) (newarray.typeOf ty)))
    rw [e1]
    have gen : ∀ ft : FieldType, (ft = .int ∨ ft = .byte ∨ ft = .boolean ∨ ft = .long) → ∀ h' : mHp, hI h' (hN h) = (fun _ => 0) → hJ h' (hN h) = (fun _ => 0) → arrV (G.2.2.2.2 ft) (mIx n) (fun _ => defaultValue ft) = vp_cell (G.2.2.2.2 ft) (mAr G h' (hN h) (mIx n) ft) := by
      intro ft hft h' q1 q2
      rcases hft with rfl | rfl | rfl | rfl
      · show _ = arrV _ _ (fun j => .int (hI h' (hN h) j)); rw [q1]; rfl
      · show _ = arrV _ _ (fun j => .int (hI h' (hN h) j)); rw [q1]; rfl
      · show _ = arrV _ _ (fun j => .int (hI h' (hN h) j)); rw [q1]; rfl
      · show _ = arrV _ _ (fun j => .long (hJ h' (hN h) j)); rw [q2]; rfl
    rw [gen _ hty _ eI eJ]
  have k1 := k H1 locs ls ⟨hP1, by show hN h + 1 ≤ 900000; omega⟩ ⟨by have := hQ.1; omega, fun x h3 h4 => (o1 x (by have := hQ.1; omega)).trans (hQ.2.1 x h3 h4), hQ.2.2⟩ hv (by show n0 ≤ hN h + 1; omega) (by show w0 ≤ hW h + mIx n; omega)
  have k2 : W p l e R s m args below meth c H1 locs (hN h + 1 - n0) (hW h + mIx n - w0) Q (F0 m (pc + 2) ls (mCv G (.ref (hN h)) :: t.map (mCv G))) := k1
  rw [mCv_ref (by omega)] at k2
  have e5 : hN h - n0 + 1 = hN h + 1 - n0 := by omega
  have e6 : hW h - w0 + mIx n = hW h + mIx n - w0 := by omega
  show W p l e R s m args below meth c H1 locs (hN h - n0 + 1) (hW h - w0 + mIx n) Q (F0 m (pc + 2) ls (.ref (G.1 + hN h) :: t.map (mCv G)))
  rw [e5, e6]
  exact k2
theorem mr_outer (c : ClassId) (N h0 : Nat) : ∀ i : Nat, Jvm.Free.Multi.outerC c N h0 i = arrV c N (fun j => va_rf (if j < i then some (h0 + 1 + j) else none))
  | 0 => by
    show ({ cls := c, slots := Array.replicate N .null, vm := .none } : Cell) = _
    rw [arrV_new]
    refine congrArg (arrV c N) (funext fun j => ?_)
    simp [va_rf]
  | i + 1 => by
    show (Jvm.Free.Multi.outerC c N h0 i).setSlot i (.ref (h0 + 1 + i)) = _
    rw [mr_outer c N h0 i, arrV_store]
    refine congrArg (arrV c N) (funext fun j => ?_)
    by_cases e : j = i
    · subst e
      simp [updV, va_rf]
    · by_cases h : j < i
      · simp [updV, e, h, Nat.lt_succ_of_lt h]
      · simp [updV, e, h, show ¬ j < i + 1 by omega]
theorem mw_tbl2 : Cond.arrayClass .int ∈ mTb := by decide +kernel
theorem mw_str1 : "[" ++ (FieldType.array .int).toString = "[[I" := by decide
theorem mw_str2 : (FieldType.array .int).toString = "[" ++ FieldType.int.toString := by decide
theorem so_mna (C : mCx p R s m args meth c G cc own nL fin nM wM n0 w0) {i pc : Nat} {n k : Int32} {ok ok' : Bool} {L t : List Value} {h : mHp} (hd : decode cc pc = .ok (.multianewarray i 2, 4)) (he : Cond.classLink own i "[[I" ∈ mTb) (hn0 : ¬ n < 0) (hk0 : ¬ k < 0) (hn1 : mIx n ≤ 60000000) (hk1 : mIx k ≤ 60000000) (hn : hN h + 1 + mIx n ≤ nM) (hm : hW h + mIx n + mIx n * mIx k ≤ wM)
    (kk : mW p l e R s m args below meth c G nL n0 w0 Q (ok', pc + 4, L, .ref (hN h) :: t, newM h (mIx n) (mIx k))) : mW p l e R s m args below meth c G nL n0 w0 Q (ok, pc, L, .int k :: .int n :: t, h) := by
  obtain ⟨hx, hcb, hml, hown, hts, hK, hsz, hX, hnm, hfr, hfin⟩ := C
  intro H locs ls hw hQ hv h0 h1
  have h0 : n0 ≤ hN h := h0
  have h1 : w0 ≤ hW h := h1
  refine W_sz fun hz => ?_
  have hsz2 : H.size = G.1 + hN h := mWd_sz hw hsz hz h0 hQ.1
  intro T hT Xs
  have Xs : Stand p l e R s m args below meth c T locs (hN h - n0) (hW h - w0) := Xs
  obtain ⟨vm₁, cA, comp, -, fA, fC, hO, -, X', step⟩ := Xs.multianewarray2F (ty := .int) hx hown (by rw [mw_str1]; exact hts _ he) (mAO_use hX.2.2.2.1) (hts _ mw_tbl2) (g := F0 m pc ls (.int k :: .int n :: t.map (mCv G))) rfl (by rw [hcb]; exact hd) rfl hn0 hk0 (by show mIx n * 4 ≤ _; omega) (by show mIx k * 4 ≤ _; omega) (by show mIx k ≤ _; omega) rfl rfl (by show hN h - n0 + (1 + mIx n) ≤ R.cells; omega) (by show hW h - w0 + (mIx n + mIx n * mIx k) ≤ R.slots; omega)
  have eA : cA = G.2.2.2.2 (.array .int) := Option.some.inj (fA.symm.trans (hK.2 4 _ rfl).2)
  have eC : comp = G.2.2.2.2 .int := by
    rw [mw_str2] at fC
    exact Option.some.inj (fC.symm.trans (hK.2 0 _ rfl).2)
  subst eA
  subst eC
  generalize hF : Jvm.Free.Multi.fill (T.setVm vm₁) (G.2.2.2.2 (.array .int)) (G.2.2.2.2 .int) n.toNatClampNeg k.toNatClampNeg (defaultValue .int) n.toNatClampNeg = F at X' step
  have hTh : (T.setVm vm₁).heap = H := hT
  obtain ⟨f1, f2, -, -⟩ := Jvm.Free.Multi.fill_facts (T.setVm vm₁) (G.2.2.2.2 (.array .int)) (G.2.2.2.2 .int) n.toNatClampNeg k.toNatClampNeg (defaultValue .int) n.toNatClampNeg
  rw [hF, hTh] at f1 f2
  have hold : ∀ x : Nat, x < H.size → F.heap[x]? = H[x]? := fun x hx => by
    have := Jvm.Free.Multi.fill_old (T.setVm vm₁) (G.2.2.2.2 (.array .int)) (G.2.2.2.2 .int) n.toNatClampNeg k.toNatClampNeg (defaultValue .int) (a := x) (by rw [hTh]; exact hx) n.toNatClampNeg
    rw [hF, hTh] at this
    exact this
  have hrow : ∀ j : Nat, j < mIx n → F.heap[H.size + 1 + j]? = some (arrV (G.2.2.2.2 .int) (mIx k) (fun _ => .int 0)) := fun j hj => by
    have := Jvm.Free.Multi.fill_inner (T.setVm vm₁) (G.2.2.2.2 (.array .int)) (G.2.2.2.2 .int) n.toNatClampNeg k.toNatClampNeg (defaultValue .int) n.toNatClampNeg j hj
    rw [hF, hTh] at this
    rw [this]
    show some ({ cls := _, slots := Array.replicate _ _, vm := .none } : Cell) = _
    rw [arrV_new]
    rfl
  rw [mr_outer] at f2
  have hP1 : va_P G.2.2.2.1 vwCl (mWs G (newM h (mIx n) (mIx k))) F.heap := by
    intro j q hj
    have hjl : j < hN h + 1 + mIx n := by
      have := (List.getElem?_eq_some_iff.mp hj).1
      rw [mWs_len] at this
      exact this
    rw [mWs_get (h := newM h (mIx n) (mIx k)) hjl] at hj
    cases hj
    by_cases c1 : j < hN h
    · have e1 : mEl G (newM h (mIx n) (mIx k)) j = mEl G h j := mEl_eq (if_neg (by omega)) (if_neg (by omega)) (if_neg (by omega)) (if_neg (by omega))
      rw [e1]
      exact (hw.1 j _ (mWs_get c1)).kept (hold _ (by show G.1 + j < H.size; omega))
    · by_cases c2 : j = hN h
      · subst c2
        have e1 : hS (newM h (mIx n) (mIx k)) (hN h) = .inr (.array .int, mIx n) := (if_pos (Nat.le_refl _)).trans (if_pos rfl)
        have e2 : hR (newM h (mIx n) (mIx k)) (hN h) = fun j => if j < mIx n then hN h + 1 + j else NUL := (if_pos (Nat.le_refl _)).trans (if_pos rfl)
        rw [mEl_A e1]
        show F.heap[G.1 + hN h]? = some (arrV (G.2.2.2.2 (.array .int)) (mIx n) (fun j => va_rf (mRo G (hR (newM h (mIx n) (mIx k)) (hN h) j))))
        rw [← hsz2, f2, e2]
        refine congrArg (fun z => some (arrV _ _ z)) (funext fun j => ?_)
        show va_rf (if j < mIx n then some (H.size + 1 + j) else none) = va_rf (mRo G (if j < mIx n then hN h + 1 + j else NUL))
        by_cases c3 : j < mIx n
        · rw [if_pos c3, if_pos c3]
          unfold mRo mAd NUL
          rw [if_neg (by omega), if_pos (by omega)]
          rw [show H.size + 1 + j = G.1 + (hN h + 1 + j) by omega]
        · rw [if_neg c3, if_neg c3, mRo_NUL]
          rfl
      · have e1 : hS (newM h (mIx n) (mIx k)) j = .inr (.int, mIx k) := (if_pos (by omega)).trans (if_neg c2)
        have e2 : hI (newM h (mIx n) (mIx k)) j = fun _ => 0 := if_pos (by omega)
        rw [mEl_A e1]
        show F.heap[G.1 + j]? = some (arrV (G.2.2.2.2 .int) (mIx k) (fun a => .int (hI (newM h (mIx n) (mIx k)) j a)))
        rw [e2, show G.1 + j = H.size + 1 + (j - hN h - 1) by omega, hrow _ (by omega)]
  have k1 := kk F.heap locs ls ⟨hP1, by show hN h + 1 + mIx n ≤ 900000; omega⟩ ⟨by rw [f1]; have := hQ.1; omega, fun x h3 h4 => (hold x (by have := hQ.1; omega)).trans (hQ.2.1 x h3 h4), hQ.2.2⟩ hv (by show n0 ≤ hN h + 1 + mIx n; omega) (by show w0 ≤ hW h + mIx n + mIx n * mIx k; omega)
  have k2 : W p l e R s m args below meth c F.heap locs (hN h + 1 + mIx n - n0) (hW h + mIx n + mIx n * mIx k - w0) Q (F0 m (pc + 4) ls (mCv G (.ref (hN h)) :: t.map (mCv G))) := k1
  rw [mCv_ref (by omega), show hN h + 1 + mIx n - n0 = hN h - n0 + 1 + mIx n by omega, show hW h + mIx n + mIx n * mIx k - w0 = hW h - w0 + mIx n + mIx n * mIx k by omega] at k2
  obtain ⟨tt, a1, b1⟩ := k2 F rfl X'
  refine ⟨tt, step tt ?_, b1⟩
  rw [show T.heap.size = G.1 + hN h by rw [hT]; exact hsz2]
  exact a1
end SM
