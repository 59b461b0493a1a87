/-! THE STEPS THAT READ AND WRITE CELLS. -/
theorem mFs_set {G : mG} {h h' : mHp} {r c b : Nat} {v : Value} (hv : mFv G h' r b (mTy c b) = v) (ho : ∀ k, k ≠ b → mFv G h' r k (mTy c k) = mFv G h r k (mTy c k)) : ((List.range (mNf c)).map (fun k => mFv G h r k (mTy c k))).set b v = (List.range (mNf c)).map (fun k => mFv G h' r k (mTy c k)) := by
  apply List.ext_getElem?
  intro k
  by_cases hk : k < mNf c
  · rw [mFs_get hk]
    by_cases e : k = b
    · subst e
      rw [List.getElem?_set_self (by simpa using hk), hv]
    · rw [List.getElem?_set_ne (Ne.symm e), mFs_get hk, ho k e]
  · rw [List.getElem?_eq_none (by simp; omega), List.getElem?_eq_none (by simp; omega)]
theorem mup_ne {α : Type} {f : Nat → α} {k j : Nat} {v : α} (h : j ≠ k) : va_up f k v j = f j := by
  unfold va_up
  rw [if_neg h]
theorem mup_at {α : Type} {f : Nat → α} {k : Nat} {v : α} : va_up f k v k = v := by
  unfold va_up
  rw [if_pos rfl]
theorem mFv_putI {G : mG} {h : mHp} {r k b : Nat} {x : Int32} {ty : FieldType} (hk : k ≠ b) : mFv G (putI h r b x) r k ty = mFv G h r k ty := by
  have e : hI (putI h r b x) r k = hI h r k := by
    show up2 h.1 r b x r k = h.1 r k
    rw [up2_at, mup_ne hk]
  cases ty <;> first | rfl | (show Value.int (hI (putI h r b x) r k) = Value.int (hI h r k); rw [e])
theorem mFv_putJ {G : mG} {h : mHp} {r k b : Nat} {x : Int64} {ty : FieldType} (hk : k ≠ b) : mFv G (putJ h r b x) r k ty = mFv G h r k ty := by
  have e : hJ (putJ h r b x) r k = hJ h r k := by
    show up2 h.2.1 r b x r k = h.2.1 r k
    rw [up2_at, mup_ne hk]
  cases ty <;> first | rfl | (show Value.long (hJ (putJ h r b x) r k) = Value.long (hJ h r k); rw [e])
theorem mFv_putR {G : mG} {h : mHp} {r k b x : Nat} {ty : FieldType} (hk : k ≠ b) : mFv G (putR h r b x) r k ty = mFv G h r k ty := by
  have e : hR (putR h r b x) r k = hR h r k := by
    show up2 h.2.2.1 r b x r k = h.2.2.1 r k
    rw [up2_at, mup_ne hk]
  cases ty <;> first | rfl | (show va_rf (mRo G (hR (putR h r b x) r k)) = va_rf (mRo G (hR h r k)); rw [e])
/-- a put: the heap then, and that the value fits -/
def mPF (G : mG) (h : mHp) (r c b : Nat) (v : Value) (h' : mHp) : Prop :=
    hN h' = hN h ∧ hW h' = hW h ∧ narrow (mTy c b) (mCv G v) = mCv G v ∧ fits (mTy c b) (mCv G v) = true ∧
    mEl G h' r = .inr (c, ((List.range (mNf c)).map (fun k => mFv G h r k (mTy c k))).set b (mCv G v)) ∧ ∀ j, j ≠ r → mEl G h' j = mEl G h j
theorem mPF_key {G : mG} {h h' : mHp} {r c b : Nat} {v : Value} (hs : hS h r = .inl c) (e1 : hS h' r = hS h r) (e2 : mFv G h' r b (mTy c b) = mCv G v) (e3 : ∀ k, k ≠ b → mFv G h' r k (mTy c k) = mFv G h r k (mTy c k)) : mEl G h' r = .inr (c, ((List.range (mNf c)).map (fun k => mFv G h r k (mTy c k))).set b (mCv G v)) := by
  rw [mEl_O (e1.trans hs), mFs_set e2 e3]
theorem mPF_I {G : mG} {h : mHp} {r c b : Nat} {x : Int32} {ty : FieldType} (ht : mTy c b = ty) (hty : ty = .int ∨ ty = .boolean ∨ ty = .char) (hs : hS h r = .inl c) (hf : mFit ty x = true) : mPF G h r c b (.int x) (putI h r b x) := by
  have eI : hI (putI h r b x) r b = x := by
    show up2 h.1 r b x r b = x
    rw [up2_at, mup_at]
  have e2 : mFv G (putI h r b x) r b (mTy c b) = mCv G (.int x) := by
    rw [ht]
    rcases hty with rfl | rfl | rfl <;> (show Value.int (hI (putI h r b x) r b) = _; rw [eI]; rfl)
  have e3 : narrow (mTy c b) (.int x) = .int x ∧ fits (mTy c b) (.int x) = true := by
    rw [ht]
    rcases hty with rfl | rfl | rfl
    · exact ⟨rfl, rfl⟩
    · have z1 : x = 0 ∨ x = 1 := of_decide_eq_true hf
      rcases z1 with rfl | rfl <;> decide
    · have z1 : (decide (narrow .char (.int x) = .int x) && fits .char (.int x)) = true := hf
      rw [Bool.and_eq_true] at z1
      exact ⟨of_decide_eq_true z1.1, z1.2⟩
  exact ⟨rfl, rfl, e3.1, e3.2, mPF_key hs rfl e2 (fun k hk => mFv_putI hk), fun j hj => mEl_putI hj⟩
theorem mPF_J {G : mG} {h : mHp} {r c b : Nat} {x : Int64} (ht : mTy c b = .long) (hs : hS h r = .inl c) : mPF G h r c b (.long x) (putJ h r b x) := by
  have eJ : hJ (putJ h r b x) r b = x := by
    show up2 h.2.1 r b x r b = x
    rw [up2_at, mup_at]
  have e2 : mFv G (putJ h r b x) r b (mTy c b) = mCv G (.long x) := by
    rw [ht]
    show Value.long (hJ (putJ h r b x) r b) = _
    rw [eJ]; rfl
  exact ⟨rfl, rfl, by rw [ht]; rfl, by rw [ht]; rfl, mPF_key hs rfl e2 (fun k hk => mFv_putJ hk), fun j hj => mEl_putJ hj⟩
theorem mPF_R {G : mG} {h : mHp} {r c b x : Nat} (ht : (∃ n, mTy c b = .object n) ∨ ∃ t, mTy c b = .array t) (hs : hS h r = .inl c) : mPF G h r c b (.ref x) (putR h r b x) := by
  have eR : hR (putR h r b x) r b = x := by
    show up2 h.2.2.1 r b x r b = x
    rw [up2_at, mup_at]
  have e2 : mFv G (putR h r b x) r b (mTy c b) = mCv G (.ref x) := by
    rcases ht with ⟨n, ht⟩ | ⟨t, ht⟩ <;> (rw [ht]; show va_rf (mRo G (hR (putR h r b x) r b)) = _; rw [eR]; rfl)
  have fr : narrow (mTy c b) (mCv G (.ref x)) = mCv G (.ref x) ∧ fits (mTy c b) (mCv G (.ref x)) = true := by
    show narrow (mTy c b) (va_rf (mRo G x)) = va_rf (mRo G x) ∧ fits (mTy c b) (va_rf (mRo G x)) = true
    rcases ht with ⟨n, ht⟩ | ⟨t, ht⟩ <;> rw [ht] <;> cases mRo G x <;> exact ⟨rfl, rfl⟩
  exact ⟨rfl, rfl, fr.1, fr.2, mPF_key hs rfl e2 (fun k hk => mFv_putR hk), fun j hj => mEl_putR hj⟩
section SH
variable {p : Program} {l : Launch} {e : Env} {R : Room} {s : State} {m : MethodId} {args : Array Value} {below : List Frame} {meth : Method} {c : Code} {Q : State → Prop} {cc : ByteArray} {own : String} {G : mG} {nL n0 w0 nM wM : Nat} {fin : Bool}
theorem so_get (C : mCx p R s m args meth c G cc own nL fin nM wM n0 w0) {i pc a b r : Nat} {ok ok' : Bool} {L t : List Value} {h : mHp} (hd : decode cc pc = .ok (.getfield i, 3)) (he : ∃ r0 : vw_C, vwCl[a]? = some r0 ∧ Cond.fieldLink own i (r0.2.1 b).1 (r0.2.1 b).2.1 (r0.2.1 b).2.2.1 ∈ mTb) (hr : r < hN h) (hs : hS h r = .inl a) (hb : b < mNf a)
    (k : mW p l e R s m args below meth c G nL n0 w0 Q (ok', pc + 3, L, mGet a h r b (mTy a b) :: t, h)) : mW p l e R s m args below meth c G nL n0 w0 Q (ok, pc, L, .ref r :: t, h) := by
  obtain ⟨r0, hc, hlk⟩ := he
  obtain ⟨hx, hcb, hml, hown, hts, hK, hsz, hX, hnm, hfr, hfin⟩ := C
  intro H locs ls hw hS hv h0 h1
  have hr9 : r < 900000 := Nat.lt_of_lt_of_le hr hw.2
  show W p l e R s m args below meth c H locs _ _ Q (F0 m pc ls (mCv G (.ref r) :: t.map (mCv G)))
  rw [mCv_ref hr9]
  refine va_get (D := G.2.2.2.1) (ci := a) (C := r0.1) (T := r0.2.1) (N := r0.2.2) (v := mFv G h r b (mTy a b)) hx hcb hts (mCl_in hc) hown hK hw.1 r (by rw [mWs_get hr, mEl_O hs]) hc b (by rw [← mCl_nf hc]; exact hb) (hts _ hlk) (fun _ z => z) (mFs_get hb) hd ?_
  have k1 := k H locs ls hw hS hv h0 h1
  rw [← mCv_get (a := a)]
  exact k1
theorem so_put (C : mCx p R s m args meth c G cc own nL fin nM wM n0 w0) {i pc a b r : Nat} {ok ok' : Bool} {L t : List Value} {h : mHp} {v : Value} (hd : decode cc pc = .ok (.putfield i, 3)) (he : ∃ r0 : vw_C, vwCl[a]? = some r0 ∧ Cond.fieldLink own i (r0.2.1 b).1 (r0.2.1 b).2.1 (r0.2.1 b).2.2.1 ∈ mTb ∧ (mFin a b = true → (r0.2.1 b).1 = own)) (hr : r < hN h) (hs : hS h r = .inl a) (hb : b < mNf a) (hf : (!(mFin a b) || fin) = true) {h' : mHp} (hp : mPF G h r a b v h')
    (k : mW p l e R s m args below meth c G nL n0 w0 Q (ok', pc + 3, L, t, h')) : mW p l e R s m args below meth c G nL n0 w0 Q (ok, pc, L, v :: .ref r :: t, h) := by
  obtain ⟨r0, hc, hlk, hownf⟩ := he
  obtain ⟨hx, hcb, hml, hown, hts, hK, hsz, hX, hnm, hfr, hfin⟩ := C
  intro H locs ls hw hS hv h0 h1
  have hr9 : r < 900000 := Nat.lt_of_lt_of_le hr hw.2
  obtain ⟨e1, e2, e3, e4, e5, e6⟩ := hp
  show W p l e R s m args below meth c H locs _ _ Q (F0 m pc ls (mCv G v :: mCv G (.ref r) :: t.map (mCv G)))
  rw [mCv_ref hr9]
  have hbn : b < r0.2.2 := by rw [← mCl_nf hc]; exact hb
  have hset : (mWs G h).set r (G.1 + r, .inr (a, ((List.range (mNf a)).map (fun k => mFv G h r k (mTy a k))).set b (mCv G v))) = mWs G h' := mWs_set e1 hr e5 (fun j _ hj => e6 j hj)
  have go : ∀ (H1 : Heap) (locs1 : List Loc), va_P G.2.2.2.1 vwCl ((mWs G h).set r (G.1 + r, .inr (a, ((List.range (mNf a)).map (fun k => mFv G h r k (mTy a k))).set b (mCv G v)))) H1 → va_D (mA G) ((mWs G h).set r (G.1 + r, .inr (a, ((List.range (mNf a)).map (fun k => mFv G h r k (mTy a k))).set b (mCv G v)))) → va_S (mA G) s.heap H1 locs1 → W p l e R s m args below meth c H1 locs1 (hN h - n0) (hW h - w0) Q (F0 m (pc + 3) ls (t.map (mCv G))) := by
    intro H1 locs1 hP1 _ hS1
    rw [hset] at hP1
    have k1 := k H1 locs1 ls ⟨hP1, by rw [e1]; exact hw.2⟩ hS1 hv (by show n0 ≤ hN _; rw [e1]; exact h0) (by show w0 ≤ hW _; rw [e2]; exact h1)
    have k2 : W p l e R s m args below meth c H1 locs1 (hN h' - n0) (hW h' - w0) Q (F0 m (pc + 3) ls (t.map (mCv G))) := k1
    rw [e1, e2] at k2
    exact k2
  by_cases hfi : mFin a b = true
  · have hft : fin = true := by rw [hfi] at hf; simpa using hf
    exact va_putF (D := G.2.2.2.1) (ci := a) (v := mCv G v) (ty := mTy a b) (C := r0.1) (T := r0.2.1) (N := r0.2.2) hx hcb hts (mCl_in hc) (mTy a) (mCl_ty hc) (mCl_nm hc) hown hK hw.1 mWs_D hS r (by rw [mWs_get hr, mEl_O hs]) hc b hbn (hts _ hlk) (fun _ z => z) (by rw [← mCl_fin hc]; exact hfi) (hfin hft) (hownf hfi) (mCl_ty hc b hbn) e3 e4 (by simpa using hb) hd go
  · exact va_put (D := G.2.2.2.1) (ci := a) (v := mCv G v) (ty := mTy a b) (C := r0.1) (T := r0.2.1) (N := r0.2.2) hx hcb hts (mCl_in hc) (mTy a) (mCl_ty hc) (mCl_nm hc) hown hK hw.1 mWs_D hS r (by rw [mWs_get hr, mEl_O hs]) hc b hbn (hts _ hlk) (fun _ z => z) (by rw [← mCl_fin hc]; simpa using hfi) (mCl_ty hc b hbn) e3 e4 (by simpa using hb) hd go
/-- a read of an array -/
theorem so_iald (C : mCx p R s m args meth c G cc own nL fin nM wM n0 w0) {pc r n : Nat} {i : Int32} {ok ok' : Bool} {L t : List Value} {h : mHp} (hd : decode cc pc = .ok (.iaload, 1)) (hr : r < hN h) (hs : hS h r = .inr (.int, n)) (hi : vp_in i n)
    (k : mW p l e R s m args below meth c G nL n0 w0 Q (ok', pc + 1, L, .int (hI h r (mIx i)) :: t, h)) : mW p l e R s m args below meth c G nL n0 w0 Q (ok, pc, L, .int i :: .ref r :: t, h) := by
  obtain ⟨hx, hcb, hml, hown, hts, hK, hsz, hX, hnm, hfr, hfin⟩ := C
  intro H locs ls hw hS hv h0 h1
  show W p l e R s m args below meth c H locs _ _ Q (F0 m pc ls (.int i :: mCv G (.ref r) :: t.map (mCv G)))
  rw [mCv_ref (Nat.lt_of_lt_of_le hr hw.2)]
  exact va_iald hx hcb hK hw.1 r 0 (by rw [mWs_get hr, mEl_A hs]; rfl) rfl hi hd (k H locs ls hw hS hv h0 h1)
theorem so_bald (C : mCx p R s m args meth c G cc own nL fin nM wM n0 w0) {pc r n : Nat} {i : Int32} {ok ok' : Bool} {L t : List Value} {h : mHp} (hd : decode cc pc = .ok (.baload, 1)) (hr : r < hN h) (hs : hS h r = .inr (.byte, n) ∨ hS h r = .inr (.boolean, n)) (hi : vp_in i n)
    (k : mW p l e R s m args below meth c G nL n0 w0 Q (ok', pc + 1, L, .int (hI h r (mIx i)) :: t, h)) : mW p l e R s m args below meth c G nL n0 w0 Q (ok, pc, L, .int i :: .ref r :: t, h) := by
  obtain ⟨hx, hcb, hml, hown, hts, hK, hsz, hX, hnm, hfr, hfin⟩ := C
  intro H locs ls hw hS hv h0 h1
  show W p l e R s m args below meth c H locs _ _ Q (F0 m pc ls (.int i :: mCv G (.ref r) :: t.map (mCv G)))
  rw [mCv_ref (Nat.lt_of_lt_of_le hr hw.2)]
  rcases hs with hs | hs
  · exact va_bald hx hcb hK hw.1 r 1 (by rw [mWs_get hr, mEl_A hs]; rfl) rfl hi hd (k H locs ls hw hS hv h0 h1)
  · exact va_zald hx hcb hK hw.1 r 2 (by rw [mWs_get hr, mEl_A hs]; rfl) rfl hi hd (k H locs ls hw hS hv h0 h1)
theorem so_lald (C : mCx p R s m args meth c G cc own nL fin nM wM n0 w0) {pc r n : Nat} {i : Int32} {ok ok' : Bool} {L t : List Value} {h : mHp} (hd : decode cc pc = .ok (.laload, 1)) (hr : r < hN h) (hs : hS h r = .inr (.long, n)) (hi : vp_in i n)
    (k : mW p l e R s m args below meth c G nL n0 w0 Q (ok', pc + 1, L, .long (hJ h r (mIx i)) :: t, h)) : mW p l e R s m args below meth c G nL n0 w0 Q (ok, pc, L, .int i :: .ref r :: t, h) := by
  obtain ⟨hx, hcb, hml, hown, hts, hK, hsz, hX, hnm, hfr, hfin⟩ := C
  intro H locs ls hw hS hv h0 h1
  show W p l e R s m args below meth c H locs _ _ Q (F0 m pc ls (.int i :: mCv G (.ref r) :: t.map (mCv G)))
  rw [mCv_ref (Nat.lt_of_lt_of_le hr hw.2)]
  exact va_lald hx hcb hK hw.1 r 3 (by rw [mWs_get hr, mEl_A hs]; rfl) rfl hi hd (k H locs ls hw hS hv h0 h1)
theorem so_aald (C : mCx p R s m args meth c G cc own nL fin nM wM n0 w0) {pc r n : Nat} {i : Int32} {ok ok' : Bool} {L t : List Value} {h : mHp} (hd : decode cc pc = .ok (.aaload, 1)) (hr : r < hN h) (hs : hS h r = .inr (.array .int, n)) (hi : vp_in i n)
    (k : mW p l e R s m args below meth c G nL n0 w0 Q (ok', pc + 1, L, .ref (hR h r (mIx i)) :: t, h)) : mW p l e R s m args below meth c G nL n0 w0 Q (ok, pc, L, .int i :: .ref r :: t, h) := by
  obtain ⟨hx, hcb, hml, hown, hts, hK, hsz, hX, hnm, hfr, hfin⟩ := C
  intro H locs ls hw hS hv h0 h1
  show W p l e R s m args below meth c H locs _ _ Q (F0 m pc ls (.int i :: mCv G (.ref r) :: t.map (mCv G)))
  rw [mCv_ref (Nat.lt_of_lt_of_le hr hw.2)]
  have hlt : i.toNatClampNeg < n := Nat.not_le.mp fun q => hi (Or.inr q)
  have ha : (mWs G h)[r]? = some (G.1 + r, .inl (G.2.2.2.2 (.array .int), n, .inr (.inr (.inr (.inr (fun k => mRo G (hR h r k))))))) := by rw [mWs_get hr, mEl_A hs]; rfl
  exact W.aald (v := va_rf (mRo G (hR h r (mIx i)))) (ty := .array .int) hx hcb (hw.1 r _ ha) ((hK.2 4 _ rfl).1 n (fun j => va_rf (mRo G (hR h r j)))) rfl (fun q => by cases q) (by show ¬ (i < 0 ∨ (arrV _ _ _).slots.size ≤ _); rw [arrV_size]; exact hi) (by show (arrV _ _ _).slots[_]? = _; rw [arrV_read _ _ hlt]; rfl) rfl rfl hd (k H locs ls hw hS hv h0 h1)
theorem so_alen (C : mCx p R s m args meth c G cc own nL fin nM wM n0 w0) {pc r n : Nat} {ok ok' : Bool} {L t : List Value} {h : mHp} (hd : decode cc pc = .ok (.arraylength, 1)) (hr : r < hN h) (hs : hS h r = .inr (.int, n))
    (k : mW p l e R s m args below meth c G nL n0 w0 Q (ok', pc + 1, L, .int (Int32.ofNat n) :: t, h)) : mW p l e R s m args below meth c G nL n0 w0 Q (ok, pc, L, .ref r :: t, h) := by
  obtain ⟨hx, hcb, hml, hown, hts, hK, hsz, hX, hnm, hfr, hfin⟩ := C
  intro H locs ls hw hS hv h0 h1
  show W p l e R s m args below meth c H locs _ _ Q (F0 m pc ls (mCv G (.ref r) :: t.map (mCv G)))
  rw [mCv_ref (Nat.lt_of_lt_of_le hr hw.2)]
  exact va_alen (x := mAr G h r n .int) (v := Int32.ofNat n) hx hcb hK hw.1 r 0 (by rw [mWs_get hr, mEl_A hs]) rfl rfl hd (k H locs ls hw hS hv h0 h1)
/-- a write of an int array -/
theorem so_iast (C : mCx p R s m args meth c G cc own nL fin nM wM n0 w0) {pc r n : Nat} {i x : Int32} {ok ok' : Bool} {L t : List Value} {h : mHp} (hd : decode cc pc = .ok (.iastore, 1)) (hr : r < hN h) (hs : hS h r = .inr (.int, n)) (hi : vp_in i n)
    (k : mW p l e R s m args below meth c G nL n0 w0 Q (ok', pc + 1, L, t, putI h r (mIx i) x)) : mW p l e R s m args below meth c G nL n0 w0 Q (ok, pc, L, .int x :: .int i :: .ref r :: t, h) := by
  obtain ⟨hx, hcb, hml, hown, hts, hK, hsz, hX, hnm, hfr, hfin⟩ := C
  intro H locs ls hw hS hv h0 h1
  show W p l e R s m args below meth c H locs _ _ Q (F0 m pc ls (.int x :: .int i :: mCv G (.ref r) :: t.map (mCv G)))
  rw [mCv_ref (Nat.lt_of_lt_of_le hr hw.2)]
  have hset : (mWs G h).set r (G.1 + r, .inl (G.2.2.2.2 .int, n, .inl (upd (hI h r) (mIx i) x))) = mWs G (putI h r (mIx i) x) := mWs_set rfl hr (by
    rw [mEl_A (h := putI h r (mIx i) x) (n := n) (ty := .int) hs]
    show Sum.inl (_, n, Sum.inl (hI (putI h r (mIx i) x) r)) = _
    rw [show hI (putI h r (mIx i) x) r = va_up (hI h r) (mIx i) x from up2_at]
    rfl) (fun j _ hj => mEl_putI hj)
  refine va_iast hx hcb hK hw.1 mWs_D hS r 0 (cA := G.2.2.2.2 .int) (n := n) (f := hI h r) (by rw [mWs_get hr, mEl_A hs]; rfl) rfl hi hd fun H1 locs1 hP1 _ hS1 => ?_
  rw [show i.toNatClampNeg = mIx i from rfl, hset] at hP1
  exact k H1 locs1 ls ⟨hP1, hw.2⟩ hS1 hv h0 h1
theorem so_bast (C : mCx p R s m args meth c G cc own nL fin nM wM n0 w0) {pc r n : Nat} {i x : Int32} {ok ok' : Bool} {L t : List Value} {h : mHp} (hd : decode cc pc = .ok (.bastore, 1)) (hr : r < hN h) (hs : hS h r = .inr (.byte, n) ∨ hS h r = .inr (.boolean, n)) (hi : vp_in i n)
    (k : mW p l e R s m args below meth c G nL n0 w0 Q (ok', pc + 1, L, t, putI h r (mIx i) (mNar h r x))) : mW p l e R s m args below meth c G nL n0 w0 Q (ok, pc, L, .int x :: .int i :: .ref r :: t, h) := by
  obtain ⟨hx, hcb, hml, hown, hts, hK, hsz, hX, hnm, hfr, hfin⟩ := C
  intro H locs ls hw hS hv h0 h1
  show W p l e R s m args below meth c H locs _ _ Q (F0 m pc ls (.int x :: .int i :: mCv G (.ref r) :: t.map (mCv G)))
  rw [mCv_ref (Nat.lt_of_lt_of_le hr hw.2)]
  rcases hs with hs | hs
  · have en : mNar h r x = vp_nar .byte x := by unfold mNar; rw [hs]; rfl
    rw [en] at k
    have hset : (mWs G h).set r (G.1 + r, .inl (G.2.2.2.2 .byte, n, .inl (upd (hI h r) (mIx i) (vp_nar .byte x)))) = mWs G (putI h r (mIx i) (vp_nar .byte x)) := mWs_set rfl hr (by
      rw [mEl_A (h := putI h r (mIx i) (vp_nar .byte x)) (n := n) (ty := .byte) hs]
      show Sum.inl (_, n, Sum.inl (hI (putI h r (mIx i) (vp_nar .byte x)) r)) = _
      rw [show hI (putI h r (mIx i) (vp_nar .byte x)) r = va_up (hI h r) (mIx i) (vp_nar .byte x) from up2_at]
      rfl) (fun j _ hj => mEl_putI hj)
    refine va_bast hx hcb hK hw.1 mWs_D hS r 1 (cA := G.2.2.2.2 .byte) (n := n) (f := hI h r) (by rw [mWs_get hr, mEl_A hs]; rfl) rfl hi hd fun H1 locs1 hP1 _ hS1 => ?_
    rw [show i.toNatClampNeg = mIx i from rfl, hset] at hP1
    exact k H1 locs1 ls ⟨hP1, hw.2⟩ hS1 hv h0 h1
  · have en : mNar h r x = vp_nar .boolean x := by unfold mNar; rw [hs]; rfl
    rw [en] at k
    have hset : (mWs G h).set r (G.1 + r, .inl (G.2.2.2.2 .boolean, n, .inl (upd (hI h r) (mIx i) (vp_nar .boolean x)))) = mWs G (putI h r (mIx i) (vp_nar .boolean x)) := mWs_set rfl hr (by
      rw [mEl_A (h := putI h r (mIx i) (vp_nar .boolean x)) (n := n) (ty := .boolean) hs]
      show Sum.inl (_, n, Sum.inl (hI (putI h r (mIx i) (vp_nar .boolean x)) r)) = _
      rw [show hI (putI h r (mIx i) (vp_nar .boolean x)) r = va_up (hI h r) (mIx i) (vp_nar .boolean x) from up2_at]
      rfl) (fun j _ hj => mEl_putI hj)
    refine va_zast hx hcb hK hw.1 mWs_D hS r 2 (cA := G.2.2.2.2 .boolean) (n := n) (f := hI h r) (by rw [mWs_get hr, mEl_A hs]; rfl) rfl hi hd fun H1 locs1 hP1 _ hS1 => ?_
    rw [show i.toNatClampNeg = mIx i from rfl, hset] at hP1
    exact k H1 locs1 ls ⟨hP1, hw.2⟩ hS1 hv h0 h1
theorem so_last (C : mCx p R s m args meth c G cc own nL fin nM wM n0 w0) {pc r n : Nat} {i : Int32} {x : Int64} {ok ok' : Bool} {L t : List Value} {h : mHp} (hd : decode cc pc = .ok (.lastore, 1)) (hr : r < hN h) (hs : hS h r = .inr (.long, n)) (hi : vp_in i n)
    (k : mW p l e R s m args below meth c G nL n0 w0 Q (ok', pc + 1, L, t, putJ h r (mIx i) x)) : mW p l e R s m args below meth c G nL n0 w0 Q (ok, pc, L, .long x :: .int i :: .ref r :: t, h) := by
  obtain ⟨hx, hcb, hml, hown, hts, hK, hsz, hX, hnm, hfr, hfin⟩ := C
  intro H locs ls hw hS hv h0 h1
  show W p l e R s m args below meth c H locs _ _ Q (F0 m pc ls (.long x :: .int i :: mCv G (.ref r) :: t.map (mCv G)))
  rw [mCv_ref (Nat.lt_of_lt_of_le hr hw.2)]
  have hset : (mWs G h).set r (G.1 + r, .inl (G.2.2.2.2 .long, n, .inr (.inl (vp_updL (hJ h r) (mIx i) x)))) = mWs G (putJ h r (mIx i) x) := mWs_set rfl hr (by
    rw [mEl_A (h := putJ h r (mIx i) x) (n := n) (ty := .long) hs]
    show Sum.inl (_, n, Sum.inr (Sum.inl (hJ (putJ h r (mIx i) x) r))) = _
    rw [show hJ (putJ h r (mIx i) x) r = va_up (hJ h r) (mIx i) x from up2_at]
    rfl) (fun j _ hj => mEl_putJ hj)
  refine va_last hx hcb hK hw.1 mWs_D hS r 3 (cA := G.2.2.2.2 .long) (n := n) (f := hJ h r) (by rw [mWs_get hr, mEl_A hs]; rfl) rfl hi hd fun H1 locs1 hP1 _ hS1 => ?_
  rw [show i.toNatClampNeg = mIx i from rfl, hset] at hP1
  exact k H1 locs1 ls ⟨hP1, hw.2⟩ hS1 hv h0 h1
theorem mw_native : nativeFrameWords "java/lang/System" "arraycopy" 5 + 11 + 8 ≤ 100 := by decide
theorem mw_tbl1 : Cond.native arraycopyName ∈ mTb ∧ Cond.static arraycopyName ∈ mTb ∧ Cond.initialized "java/lang/System" ∈ mTb := by decide +kernel
theorem mCv_cats {t : List Value} : ((t.map (mCv G)).map fun v => v.category) = t.map fun v => v.category := by
  rw [List.map_map]
  apply List.map_congr_left
  intro v _
  exact mCv_cat v
theorem so_copy (C : mCx p R s m args meth c G cc own nL fin nM wM n0 w0) {i pc a d : Nat} {sp dp n : Int32} {ok ok' : Bool} {L : List Value} {h : mHp} (hd : decode cc pc = .ok (.invokestatic i, 3)) (he : Cond.methodLink own i arraycopyName ∈ mTb) (hc : chC h a d sp dp n = true)
    (k : mW p l e R s m args below meth c G nL n0 w0 Q (ok', pc + 3, L, [], cpyI h a d sp dp n)) : mW p l e R s m args below meth c G nL n0 w0 Q (ok, pc, L, [.int n, .int dp, .ref d, .int sp, .ref a], h) := by
  obtain ⟨hx, hcb, hml, hown, hts, hK, hsz, hX, hnm, hfr, hfin⟩ := C
  intro H locs ls hw hS hv h0 h1
  unfold chC cpOk at hc
  simp only [Bool.and_eq_true, Bool.not_eq_true', decide_eq_true_eq, decide_eq_false_iff_not] at hc
  obtain ⟨⟨c1, c2⟩, ⟨⟨c3, c4⟩, c5⟩, c6, c7⟩ := hc
  obtain ⟨ha, sa⟩ := chL_ok c1
  obtain ⟨hdn, sd⟩ := chL_ok c2
  show W p l e R s m args below meth c H locs _ _ Q (F0 m pc ls (.int n :: .int dp :: mCv G (.ref d) :: .int sp :: mCv G (.ref a) :: []))
  rw [mCv_ref (Nat.lt_of_lt_of_le ha hw.2), mCv_ref (Nat.lt_of_lt_of_le hdn hw.2)]
  have hset : (mWs G h).set d (G.1 + d, .inl (G.2.2.2.2 .int, mLen h d, .inl (va_cpy (hI h a) (hI h d) (mIx sp) (mIx dp) (mIx n)))) = mWs G (cpyI h a d sp dp n) := mWs_set rfl hdn (by
    rw [mEl_A (h := cpyI h a d sp dp n) (n := mLen h d) (ty := .int) sd]
    show Sum.inl (_, mLen h d, Sum.inl (hI (cpyI h a d sp dp n) d)) = _
    rw [show hI (cpyI h a d sp dp n) d = va_cpy (hI h a) (hI h d) (mIx sp) (mIx dp) (mIx n) from mup_at]) (fun j _ hj => mEl_eq rfl (mup_ne hj) rfl rfl)
  refine va_copyi (ty := .int) hx hcb (by rw [hml]; exact hv.1.symm) hown (hts _ he) (hts _ mw_tbl1.1) (hts _ mw_tbl1.2.1) (hts _ mw_tbl1.2.2) hK hw.1 mWs_D hS a d 0 0 (n0 := mLen h a) (n1 := mLen h d) (f := hI h a) (g := hI h d) (by rw [mWs_get ha, mEl_A sa]; rfl) (by rw [mWs_get hdn, mEl_A sd]; rfl) rfl rfl rfl c3 c4 c5 c6 c7 (fun _ _ => rfl) hfr.1 (by show 0 + _ ≤ R.locals; have := mw_native; omega) hd fun H1 locs1 hP1 _ hS1 => ?_
  have hP2 : va_P G.2.2.2.1 vwCl ((mWs G h).set d (G.1 + d, .inl (G.2.2.2.2 .int, mLen h d, .inl (va_cpy (hI h a) (hI h d) (mIx sp) (mIx dp) (mIx n))))) H1 := hP1
  rw [hset] at hP2
  exact k H1 locs1 ls ⟨hP2, hw.2⟩ hS1 hv h0 h1
end SH
