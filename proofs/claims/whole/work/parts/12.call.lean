/-! CONTRACTS: entry, returns, calls. -/
/-- a method: its name, code, locals, what it returns -/
abbrev mM : Type := MethodName × ByteArray × Nat × Option FieldType
def mWo (M : mM) : Cond := .code M.1 M.2.1 M.2.2.1 M.2.2.2
def mPre (G : mG) (h : mHp) (U : State) : Prop := mWd G h U.heap ∧ U.heap.size = G.1 + hN h ∧ va_K G.2.2.2.1 vwCl (mTys G) U ∧ mX G U U.heap
def mPost (G : mG) (h' : mHp) (r : Option Value) : Array Value → State → Outcome → State → Prop := fun _ st oc t => oc = .returned (r.map (mCv G)) ∧ mWd G h' t.heap ∧ va_F (mA G) st t
def mRm (d : Nat) (h h' : mHp) : Room := { frames := d, cells := hN h' - hN h, slots := hW h' - hW h, locals := 100 * d }
/-- CONTRACT: called with vs in the heap h, M returns r, and the heap is h' then; d: how deep its calls go -/
def mMet (l : Launch) (M : mM) (d : Nat) (vs : List Value) (h : mHp) (r : Option Value) (h' : mHp) : Prop :=
  hN h ≤ hN h' ∧ hW h ≤ hW h' ∧ ∀ G : mG, Met l M.1 (mWo M :: mTb) (mRm d h h') (va_Pc (vs.map (mCv G)) (mPre G h)) (mPost G h' r) (hN h' - hN h) (hW h' - hW h) (mA G)
theorem mX_warm {G : mG} {s U : State} (hW : s.WarmedH U.vm) {H : Heap} (h : mX G s H) : mX G U H := by
  obtain ⟨h1, h2, h3, h4, h5, ⟨f, hf, h6⟩, h7⟩ := h
  exact ⟨fun j q hq => (h1 j q hq).warm hW, h2.moved hW.alike, fun q hq => va_Nw.warmM hW (h3 q hq), mAO_moved hW.alike h4, h5.moved hW.alike, ⟨f, hf, h6.moved hW.alike⟩, h7⟩
theorem mX_same {G : mG} {s U : State} (hv : U.vm = s.vm) {H : Heap} (h : mX G s H) : mX G U H := by
  obtain ⟨h1, h2, h3, h4, h5, ⟨f, hf, h6⟩, h7⟩ := h
  have ha : s.vm.Alike U.vm := by rw [hv]; exact Vm.Alike.refl s.vm
  exact ⟨fun j q hq => (h1 j q hq).same hv, h2.moved ha, fun q hq => (h3 q hq).same rfl hv.symm, mAO_moved ha h4, h5.moved ha, ⟨f, hf, h6.moved ha⟩, h7⟩
theorem mX_kept {G : mG} {s : State} {H H1 : Heap} (h : mX G s H) (hq : ∀ a : Nat, a < H.size → ¬ mA G a → H1[a]? = H[a]?) : mX G s H1 := by
  obtain ⟨h1, h2, h3, h4, h5, ⟨f, hf, h6⟩, h7⟩ := h
  exact ⟨h1, h2.kept hq, h3, h4, h5.kept hq, ⟨f, hf, h6.kept hq⟩, h7⟩
theorem mPre_blind {G : mG} {h : mHp} {vs : List Value} : FrameBlind (va_Pc vs (mPre G h)) := by
  intro a U g mk q
  obtain ⟨q0, q1, q2, q3, q4⟩ := q
  exact ⟨q0, q1, q2, va_K.moved (u := U) (U := U.calling g mk a) (Vm.Alike.refl U.vm) q3, mX_same rfl q4⟩
/-- the locals at the entry -/
def mEx : List Value → List Value
  | [] => []
  | .long x :: vs => .long x :: .retAddr 0 :: mEx vs
  | v :: vs => v :: mEx vs
def mL0 (nL : Nat) (vs : List Value) : List Value := mEx vs ++ List.replicate (nL - (mEx vs).length) (.retAddr 0)
/-- no value that isn't one of ours -/
def mPl (vs : List Value) : Bool := vs.all (fun v => match v with
  | .int _ => true
  | .long _ => true
  | .ref _ => true
  | _ => false)
theorem mEx_args {G : mG} : ∀ (vs : List Value) (i j : Nat) (v : Value), mPl vs = true → (mEx vs)[j]? = some v → (∀ n, v ≠ .retAddr n) → (i + j, mCv G v) ∈ lv_args i (vs.map (mCv G))
  | [], i, j, v, _, h, _ => by simp [mEx] at h
  | w :: vs, i, j, v, hp, h, hn => by
    have hp2 : mPl vs = true := by
      unfold mPl at hp ⊢
      rw [List.all_cons, Bool.and_eq_true] at hp
      exact hp.2
    cases w with
    | long x =>
      have h2 : (Value.long x :: .retAddr 0 :: mEx vs)[j]? = some v := h
      match j, h2 with
      | 0, h2 =>
        cases h2
        exact List.mem_cons_self
      | 1, h2 =>
        have h3 : Value.retAddr 0 = v := by simpa using h2
        exact absurd h3.symm (hn 0)
      | j + 2, h2 =>
        have h3 : (mEx vs)[j]? = some v := by simpa using h2
        have := mEx_args (G := G) vs (i + 2) j v hp2 h3 hn
        rw [show i + (j + 2) = i + 2 + j by omega]
        exact List.mem_cons_of_mem _ this
    | int x =>
      have h2 : (Value.int x :: mEx vs)[j]? = some v := h
      match j, h2 with
      | 0, h2 =>
        cases h2
        exact List.mem_cons_self
      | j + 1, h2 =>
        have h3 : (mEx vs)[j]? = some v := by simpa using h2
        have := mEx_args (G := G) vs (i + 1) j v hp2 h3 hn
        rw [show i + (j + 1) = i + 1 + j by omega]
        exact List.mem_cons_of_mem _ this
    | ref x =>
      have h2 : (Value.ref x :: mEx vs)[j]? = some v := h
      match j, h2 with
      | 0, h2 =>
        cases h2
        exact List.mem_cons_self
      | j + 1, h2 =>
        have h3 : (mEx vs)[j]? = some v := by simpa using h2
        have := mEx_args (G := G) vs (i + 1) j v hp2 h3 hn
        rw [show i + (j + 1) = i + 1 + j by omega]
        refine List.mem_cons_of_mem _ ?_
        rw [if_neg (by rw [mCv_cat]; show ¬ (1 : Nat) = 2; decide)]
        exact this
    | float x => cases hp
    | double x => cases hp
    | null => cases hp
    | retAddr x => cases hp
theorem mEx_len {G : mG} : ∀ (vs : List Value), mPl vs = true → (lg_sl (vs.map (mCv G))).length = (mEx vs).length
  | [], _ => rfl
  | w :: vs, hp => by
    have hp2 : mPl vs = true := by
      unfold mPl at hp ⊢
      rw [List.all_cons, Bool.and_eq_true] at hp
      exact hp.2
    have ih := mEx_len (G := G) vs hp2
    have hc : lg_sl ((w :: vs).map (mCv G)) = (if (mCv G w).category = 2 then [.val (mCv G w), .second] else [.val (mCv G w)]) ++ lg_sl (vs.map (mCv G)) := by
      unfold lg_sl
      rw [List.map_cons, List.flatMap_cons]
    rw [hc, List.length_append, ih, mCv_cat]
    cases w with
    | long x => show 2 + _ = (Value.long x :: .retAddr 0 :: mEx vs).length; simp; omega
    | int x => show 1 + _ = (Value.int x :: mEx vs).length; simp; omega
    | ref x => show 1 + _ = (Value.ref x :: mEx vs).length; simp; omega
    | float x => cases hp
    | double x => cases hp
    | null => cases hp
    | retAddr x => cases hp
theorem mL0_has {G : mG} {ls : Array Slot} {nL : Nat} {vs : List Value} (hp : mPl vs = true) (h : lv_has ls nL (lv_args 0 (vs.map (mCv G)))) : lv_has ls nL (mLv G (mL0 nL vs)) := by
  refine ⟨h.1, h.2.1, fun q hq => ?_⟩
  obtain ⟨v, h1, h2, h3, h4⟩ := mLv_mem.mp hq
  have h5 : (mL0 nL vs)[q.1]? = some v := by
    rw [List.getD, List.getElem?_eq_getElem h1] at h2
    rw [List.getElem?_eq_getElem h1]
    exact congrArg some h2
  have h6 : (mEx vs)[q.1]? = some v := by
    unfold mL0 at h5
    by_cases c : q.1 < (mEx vs).length
    · rw [List.getElem?_append_left c] at h5
      exact h5
    · rw [List.getElem?_append_right (by omega)] at h5
      have := List.mem_of_getElem? h5
      have h7 := List.eq_of_mem_replicate this
      exact absurd h7 (h3 0)
  have h8 := mEx_args (G := G) vs 0 q.1 v hp h6 h3
  rw [Nat.zero_add] at h8
  have h9 : q = (q.1, mCv G v) := by
    obtain ⟨a, b⟩ := q
    simp only at h4
    rw [h4]
  rw [h9]
  exact h.2.2 _ h8
/-- THE ENTRY -/
theorem mMet_of {l : Launch} {M : mM} {d : Nat} {vs : List Value} {h h' : mHp} {r : Option Value} (fin : Bool) (hy : plainName M.1.cls = true) (hfin : fin = true → M.1.name = "<init>") (hd : 1 ≤ d) (hp : mPl vs = true) (hl : (mEx vs).length ≤ M.2.2.1) (hn : hN h ≤ hN h') (hw : hW h ≤ hW h') (h9 : hN h' ≤ 900000)
    (body : ∀ (p : Program) (e : Env) (s : State) (m : MethodId) (args : Array Value) (below : List Frame) (meth : Method) (c : Code) (G : mG), mCx p (mRm d h h') s m args meth c G M.2.1 M.1.cls M.2.2.1 fin (hN h') (hW h') (hN h) (hW h) → meth.sig.returnType = M.2.2.2 → meth.locks = false →
      mW p l e (mRm d h h') s m args below meth c G M.2.2.1 (hN h) (hW h) (MQ below (mPost G h' r) args s (hN h' - hN h) (hW h' - hW h) (mA G)) (true, 0, mL0 M.2.2.1 vs, [], h)) : mMet l M d vs h r h' := by
  refine ⟨hn, hw, fun G => ?_⟩
  refine Met.ofW (cc := M.2.1) (maxL := M.2.2.1) (ret := M.2.2.2) hy rfl ?_
  intro p e s m args below meth c s₁ B hml hv
  obtain ⟨rfl, hP, hsz, hK, hX⟩ := hv
  have hts := atoms_spec (ws := mWo M :: mTb) B.pre
  have hown : s.vm.findClass M.1.cls = some m.cls := findClass_of_methodNamed B.named
  have hnm : meth.name = M.1.name := (name_of_methodNamed B.named B.method).1
  have hl2 : (lg_sl (vs.map (mCv G))).length ≤ M.2.2.1 := by rw [mEx_len vs hp]; exact hl
  have hls := lv_entry (vs.map (mCv G)) hl2
  rw [lg_entry_eq]
  have k := body p e s m (vs.map (mCv G)).toArray below meth c G ⟨B.exec, B.bytes, hml, hown, fun w hw => hts w (List.mem_cons_of_mem _ hw), hK, hsz, hX, ⟨by show hN h' ≤ hN h + (hN h' - hN h); omega, by show hW h' ≤ hW h + (hW h' - hW h); omega, h9⟩, ⟨hd, by show 100 ≤ 100 * d; omega⟩, fun z => hnm.trans (hfin z)⟩ B.returns B.notSynchronized
  have k1 := k s.heap [] _ hP va_S.rf (mL0_has hp hls) (Nat.le_refl _) (Nat.le_refl _)
  have k2 : W p l e (mRm d h h') s m (vs.map (mCv G)).toArray below meth c s.heap [] (hN h - hN h) (hW h - hW h) (MQ below (mPost G h' r) (vs.map (mCv G)).toArray s (hN h' - hN h) (hW h' - hW h) (mA G)) (F0 m 0 _ []) := k1
  rw [Nat.sub_self, Nat.sub_self] at k2
  exact k2
section SC
variable {p : Program} {l : Launch} {e : Env} {R : Room} {s : State} {m : MethodId} {args : Array Value} {below : List Frame} {meth : Method} {c : Code} {Q : State → Prop} {cc : ByteArray} {own : String} {G : mG} {nL n0 w0 nM wM : Nat} {fin : Bool}
/-! returns -/
theorem mret_i (C : mCx p R s m args meth c G cc own nL fin nM wM n0 w0) (hr : meth.sig.returnType = some .int) (hk : meth.locks = false) {pc : Nat} {ok : Bool} {L : List Value} {h : mHp} {v : Int32} (hd : decode cc pc = .ok (.ireturn, 1)) :
    mW p l e R s m args below meth c G nL n0 w0 (MQ below (mPost G h (some (.int v))) args s (hN h - n0) (hW h - w0) (mA G)) (ok, pc, L, [.int v], h) := by
  intro H locs ls hw hQ hv h0 h1
  exact W.iret (v := v) C.1 C.2.1 hr (fun t ht _ => ⟨rfl, by rw [ht]; exact hw, hQ.F ht⟩) hQ.2.2 hd hk
theorem mret_z (C : mCx p R s m args meth c G cc own nL fin nM wM n0 w0) {ty : FieldType} (hr : meth.sig.returnType = some ty) (hk : meth.locks = false) {pc : Nat} {ok : Bool} {L : List Value} {h : mHp} {v : Int32} (hn : narrow ty (.int v) = .int v) (hd : decode cc pc = .ok (.ireturn, 1)) :
    mW p l e R s m args below meth c G nL n0 w0 (MQ below (mPost G h (some (.int v))) args s (hN h - n0) (hW h - w0) (mA G)) (ok, pc, L, [.int v], h) := by
  intro H locs ls hw hQ hv h0 h1
  exact W.zret (v := v) C.1 C.2.1 hr hn (fun t ht _ => ⟨rfl, by rw [ht]; exact hw, hQ.F ht⟩) hQ.2.2 hd hk
theorem mret_l (C : mCx p R s m args meth c G cc own nL fin nM wM n0 w0) (hr : meth.sig.returnType = some .long) (hk : meth.locks = false) {pc : Nat} {ok : Bool} {L : List Value} {h : mHp} {v : Int64} (hd : decode cc pc = .ok (.lreturn, 1)) :
    mW p l e R s m args below meth c G nL n0 w0 (MQ below (mPost G h (some (.long v))) args s (hN h - n0) (hW h - w0) (mA G)) (ok, pc, L, [.long v], h) := by
  intro H locs ls hw hQ hv h0 h1
  exact W.lret (v := v) C.1 C.2.1 hr (fun t ht _ => ⟨rfl, by rw [ht]; exact hw, hQ.F ht⟩) hQ.2.2 hd hk
theorem mret_v (C : mCx p R s m args meth c G cc own nL fin nM wM n0 w0) (hr : meth.sig.returnType = none) (hk : meth.locks = false) {pc : Nat} {ok : Bool} {L : List Value} {h : mHp} (hd : decode cc pc = .ok (.return_, 1)) :
    mW p l e R s m args below meth c G nL n0 w0 (MQ below (mPost G h none) args s (hN h - n0) (hW h - w0) (mA G)) (ok, pc, L, [], h) := by
  intro H locs ls hw hQ hv h0 h1
  exact W.vret C.1 C.2.1 hr (fun t ht _ => ⟨rfl, by rw [ht]; exact hw, hQ.F ht⟩) hQ.2.2 hd hk
theorem mret_r (C : mCx p R s m args meth c G cc own nL fin nM wM n0 w0) {rt : String} (hr : meth.sig.returnType = some (.object rt)) (hk : meth.locks = false) {pc : Nat} {ok : Bool} {L : List Value} {h : mHp} {v : Nat} (hd : decode cc pc = .ok (.areturn, 1)) :
    mW p l e R s m args below meth c G nL n0 w0 (MQ below (mPost G h (some (.ref v))) args s (hN h - n0) (hW h - w0) (mA G)) (ok, pc, L, [.ref v], h) := by
  intro H locs ls hw hQ hv h0 h1
  have hv2 : mCv G (.ref v) = .null ∨ ∃ a, mCv G (.ref v) = .ref a := by
    show va_rf (mRo G v) = .null ∨ ∃ a, va_rf (mRo G v) = .ref a
    cases mRo G v with
    | none => exact Or.inl rfl
    | some a => exact Or.inr ⟨a, rfl⟩
  exact W.aret (v := mCv G (.ref v)) C.1 C.2.1 hr (Or.inl ⟨rt, rfl⟩) hv2 (fun t ht _ => ⟨rfl, by rw [ht]; exact hw, hQ.F ht⟩) hQ.2.2 hd hk
/-! calls -/
theorem mrun_go {H : Heap} {locs : List Loc} {cells slots mc ms pc : Nat} {ls : Array Slot} {st0 rest : List Value} {h' : mHp} {r : Option Value} {a : Array Value} (hr : va_Run p l e R s m args below meth c H locs cells slots mc ms (F0 m pc ls st0) rest (mPost G h' r a) (mA G)) (hS : va_S (mA G) s.heap H locs)
    (kk : ∀ (H1 : Heap) (locs1 : List Loc), mWd G h' H1 → va_S (mA G) s.heap H1 locs1 → W p l e R s m args below meth c H1 locs1 (cells + mc) (slots + ms) Q (F0 m (pc + 3) ls ((r.map (mCv G)).toList ++ rest))) : W p l e R s m args below meth c H locs cells slots Q (F0 m pc ls st0) := by
  intro T hT X
  obtain ⟨v, st₀, t, T', L, h0, X', hL, e1, e2, ⟨hv, hb, hz, hk⟩, st⟩ := hr T hT X
  cases hv
  rw [h0] at hz hk
  obtain ⟨t2, a1, b1⟩ := kk T'.heap (locs ++ L) (by rw [e1]; exact hb)
    ⟨Nat.le_trans hS.1 (by rw [e1]; exact hz), fun q h1 h2 => by rw [e1, hk q (Nat.lt_of_lt_of_le h1 hS.1) h2]; exact hS.2.1 q h1 h2, fun q hq => by
      rcases List.mem_append.mp hq with h | h
      · exact hS.2.2 q h
      · exact hL q h⟩ T' rfl X'
  exact ⟨t2, st t2 a1, b1⟩
/-- the words of a call: 0 virtual, 1 static, 2 a nest mate's static, 3 a constructor, 4 a nest mate's constructor -/
def mLk (kd : Nat) (own : String) (i : Nat) (M : mM) (n : Nat) : Prop :=
  (M.1.cls ≠ "java/lang/invoke/MethodHandle" ∧ M.1.cls ≠ "java/lang/invoke/VarHandle" ∧ (parseMethodDescriptor M.1.desc).map (fun d => d.parameters.length) = some n) ∧ mWo M ∈ mTb ∧ Cond.initialized M.1.cls ∈ mTb ∧
  (match kd with
    | 0 => Cond.methodLink own i M.1 ∈ mTb ∧ Cond.instanceMethod M.1 ∈ mTb ∧ Cond.selects M.1.cls M.1 M.1 ∈ mTb
    | 1 => Cond.methodLink own i M.1 ∈ mTb ∧ Cond.static M.1 ∈ mTb
    | 2 => (∃ h, (own, i, M.1, h) ∈ mNs) ∧ Cond.static M.1 ∈ mTb
    | 3 => Cond.methodLink own i M.1 ∈ mTb ∧ Cond.instanceMethod M.1 ∈ mTb ∧ M.1.name = "<init>" ∧ M.2.2.2 = none
    | _ => (∃ h, (own, i, M.1, h) ∈ mNs) ∧ Cond.instanceMethod M.1 ∈ mTb ∧ M.1.name = "<init>" ∧ M.2.2.2 = none)
theorem mGood {M : mM} (h : mWo M ∈ mTb) : GoodIn mTb (mWo M :: mTb) := fun w hw => by
  rcases List.mem_cons.mp hw with rfl | hw
  · exact ⟨h, mTb_good _ h⟩
  · exact ⟨hw, mTb_good _ hw⟩
theorem mPre_call (C : mCx p R s m args meth c G cc own nL fin nM wM n0 w0) {H : Heap} {locs : List Loc} {h : mHp} {vs : List Value} (hw : mWd G h H) (hS : va_S (mA G) s.heap H locs) (hz : H.size = G.1 + hN h) : ∀ U : State, U.heap = H → s.WarmedH U.vm → va_Pc (vs.map (mCv G)) (mPre G h) (vs.map (mCv G)).toArray U := by
  intro U hU hW
  refine ⟨rfl, by rw [hU]; exact hw, by rw [hU]; exact hz, C.2.2.2.2.2.1.moved hW.alike, ?_⟩
  rw [hU]
  exact mX_warm hW (mX_kept C.2.2.2.2.2.2.2.1 hS.2.1)
theorem mcall {kd i n pc d : Nat} {M : mM} (C : mCx p R s m args meth c G cc own nL fin nM wM n0 w0) (hk : mLk kd own i M n) {ok ok' : Bool} {L vs rest : List Value} {h h' : mHp} {r : Option Value} (hM : mMet l M d vs h r h')
    (hd : match kd with | 0 => decode cc pc = .ok (.invokevirtual i, 3) | 1 => decode cc pc = .ok (.invokestatic i, 3) | 2 => decode cc pc = .ok (.invokestatic i, 3) | _ => decode cc pc = .ok (.invokespecial i, 3))
    (hv : match kd with | 0 => ∃ a vs', vs = .ref a :: vs' ∧ vs'.length = n ∧ a < hN h ∧ ∃ ci r0, hS h a = .inl ci ∧ vwCl[ci]? = some r0 ∧ r0.1 = M.1.cls | 1 => vs.length = n | 2 => vs.length = n | _ => ∃ a vs', vs = .ref a :: vs' ∧ vs'.length = n ∧ a < hN h)
    (hf : d + 1 ≤ R.frames) (hlo : 19 + M.2.2.1 + 100 * d ≤ R.locals) (hnM : hN h' ≤ nM) (hwM : hW h' ≤ wM) (hcat : (rest.map fun v => v.category).sum ≤ 8)
    (k : mW p l e R s m args below meth c G nL n0 w0 Q (ok', pc + 3, L, r.toList ++ rest, h')) : mW p l e R s m args below meth c G nL n0 w0 Q (ok, pc, L, vs.reverse ++ rest, h) := by
  intro H locs ls hw hQ hl h0 h1
  have h0 : n0 ≤ hN h := h0
  have h1 : w0 ≤ hW h := h1
  refine W_sz fun hz => ?_
  have hsz2 : H.size = G.1 + hN h := mWd_sz hw C.2.2.2.2.2.2.1 hz h0 hQ.1
  have hpre := mPre_call (vs := vs) C hw hQ hsz2
  obtain ⟨m1, m2, hMet⟩ := hM
  have hG := hMet G
  obtain ⟨hx, hb, hml, hown, hts, hK, hsz, hX, ⟨hnm1, hnm2, hnm3⟩, hfr, hfin⟩ := C
  obtain ⟨kd1, kd2, kd3, kd4⟩ := hk
  have hR : (mRm d h h').frames + 1 ≤ R.frames ∧ 8 + (M.2.2.1 + 11) + (mRm d h h').locals ≤ R.locals := ⟨hf, by show 8 + (M.2.2.1 + 11) + 100 * d ≤ R.locals; omega⟩
  have hroom : hN h - n0 + (hN h' - hN h) ≤ R.cells ∧ hW h - w0 + (hW h' - hW h) ≤ R.slots := ⟨by omega, by omega⟩
  have hcat2 : 2 * (F0 m pc ls ((vs.reverse ++ rest).map (mCv G))).monitorRoom + ((rest.map (mCv G)).map fun v => v.category).sum ≤ 8 := lv_room (by rw [mCv_cats]; exact hcat)
  have fx : CallFix p m c cc nL s args mTb own := ⟨hx, hb, hml, hown, hts⟩
  have go : ∀ a : Array Value, va_Run p l e R s m args below meth c H locs (hN h - n0) (hW h - w0) (hN h' - hN h) (hW h' - hW h) (F0 m pc ls ((vs.reverse ++ rest).map (mCv G))) (rest.map (mCv G)) (mPost G h' r a) (mA G) → W p l e R s m args below meth c H locs (hN h - n0) (hW h - w0) Q (F0 m pc ls ((vs.reverse ++ rest).map (mCv G))) := by
    intro a hrun
    refine mrun_go hrun hQ fun H1 locs1 hw1 hQ1 => ?_
    have k1 := k H1 locs1 ls hw1 hQ1 hl (Nat.le_trans h0 m1) (Nat.le_trans h1 m2)
    have k2 : W p l e R s m args below meth c H1 locs1 (hN h' - n0) (hW h' - w0) Q (F0 m (pc + 3) ls ((r.toList ++ rest).map (mCv G))) := k1
    rw [show hN h - n0 + (hN h' - hN h) = hN h' - n0 by omega, show hW h - w0 + (hW h' - hW h) = hW h' - w0 by omega]
    have e9 : (r.toList ++ rest).map (mCv G) = (r.map (mCv G)).toList ++ rest.map (mCv G) := by
      cases r <;> rfl
    rw [e9] at k2
    exact k2
  have hlsz : ls.size = nL := hl.1
  match kd, kd4, hd, hv with
  | 0, ⟨q1, q2, q3⟩, hd, ⟨a, vs', e1, e2, e3, ci, r0, e4, e5, e6⟩ =>
    subst e1
    have ea : (mCv G (.ref a)) = .ref (G.1 + a) := mCv_ref (Nat.lt_of_lt_of_le e3 hw.2)
    have hpre2 : ∀ U : State, U.heap = H → s.WarmedH U.vm → va_Pc ((Value.ref a :: vs').map (mCv G)) (mPre G h) (Value.ref (G.1 + a) :: vs'.map (mCv G)).toArray U := by
      rw [← ea]; exact hpre
    refine go _ (va_runV (As := vs'.map (mCv G)) (rest := rest.map (mCv G)) (b := G.1 + a) (C := M.1.cls) fx hG ⟨callB_of n hts (mGood kd2) rfl rfl rfl (hts _ kd3) (hts _ q1) kd1 hR, hts _ q2, hts _ q3⟩ ⟨mPre_blind, ?_, hpre2⟩ rfl (by rw [List.length_map]; exact e2) hlsz ?_ hcat2 hd hroom)
    · have := va_recv hK hw.1 (q0 := a) (ci := ci) e5 (by rw [mWs_get e3, mEl_O e4])
      rw [e6] at this
      exact this
    · show ((Value.ref a :: vs').reverse ++ rest).map (mCv G) = _
      rw [List.map_append, List.map_reverse, List.map_cons, List.reverse_cons, List.append_assoc, ea]
      rfl
  | 1, ⟨q1, q2⟩, hd, hv =>
    refine go _ (va_runS (As := vs.map (mCv G)) (rest := rest.map (mCv G)) fx hG ⟨callB_of n hts (mGood kd2) rfl rfl rfl (hts _ kd3) (hts _ q1) kd1 hR, hts _ q2⟩ ⟨mPre_blind, hpre⟩ rfl (by rw [List.length_map]; exact hv) hlsz ?_ hcat2 hd hroom)
    show (vs.reverse ++ rest).map (mCv G) = _
    rw [List.map_append, List.map_reverse]
  | 2, ⟨⟨ho, q1⟩, q2⟩, hd, hv =>
    refine go _ (va_runSN (As := vs.map (mCv G)) (rest := rest.map (mCv G)) (host := ho) fx hG ⟨va_cnB n hts (mGood kd2) rfl rfl rfl (hX.2.2.1 _ q1) (hts _ kd3) kd1 hR, hts _ q2, trivial⟩ ⟨mPre_blind, hpre⟩ rfl (by rw [List.length_map]; exact hv) hlsz ?_ hcat2 hd hroom)
    show (vs.reverse ++ rest).map (mCv G) = _
    rw [List.map_append, List.map_reverse]
  | 3, ⟨q1, q2, q3, q4⟩, hd, ⟨a, vs', e1, e2, e3⟩ =>
    subst e1
    obtain ⟨y, bc, ml, rt⟩ := M
    simp only at q4
    subst q4
    have ea : (mCv G (.ref a)) = .ref (G.1 + a) := mCv_ref (Nat.lt_of_lt_of_le e3 hw.2)
    have hpre2 : ∀ U : State, U.heap = H → s.WarmedH U.vm → va_Pc ((Value.ref a :: vs').map (mCv G)) (mPre G h) (Value.ref (G.1 + a) :: vs'.map (mCv G)).toArray U := by
      rw [← ea]; exact hpre
    refine go _ (va_runI (As := vs'.map (mCv G)) (rest := rest.map (mCv G)) (b := G.1 + a) fx hG ⟨callB_of n hts (mGood kd2) rfl rfl rfl (hts _ kd3) (hts _ q1) kd1 hR, q3, hts _ q2⟩ ⟨mPre_blind, hpre2⟩ rfl (by rw [List.length_map]; exact e2) hlsz ?_ hcat2 hd hroom)
    show ((Value.ref a :: vs').reverse ++ rest).map (mCv G) = _
    rw [List.map_append, List.map_reverse, List.map_cons, List.reverse_cons, List.append_assoc, ea]
    rfl
  | n4 + 4, ⟨⟨ho, q1⟩, q2, q3, q4⟩, hd, ⟨a, vs', e1, e2, e3⟩ =>
    subst e1
    obtain ⟨y, bc, ml, rt⟩ := M
    simp only at q4
    subst q4
    have ea : (mCv G (.ref a)) = .ref (G.1 + a) := mCv_ref (Nat.lt_of_lt_of_le e3 hw.2)
    have hpre2 : ∀ U : State, U.heap = H → s.WarmedH U.vm → va_Pc ((Value.ref a :: vs').map (mCv G)) (mPre G h) (Value.ref (G.1 + a) :: vs'.map (mCv G)).toArray U := by
      rw [← ea]; exact hpre
    refine go _ (va_runIN (As := vs'.map (mCv G)) (rest := rest.map (mCv G)) (b := G.1 + a) (host := ho) fx hG ⟨va_cnB n hts (mGood kd2) rfl rfl rfl (hX.2.2.1 _ q1) (hts _ kd3) kd1 hR, q3, hts _ q2⟩ ⟨mPre_blind, hpre2⟩ rfl (by rw [List.length_map]; exact e2) hlsz ?_ hcat2 hd hroom)
    show ((Value.ref a :: vs').reverse ++ rest).map (mCv G) = _
    rw [List.map_append, List.map_reverse, List.map_cons, List.reverse_cons, List.append_assoc, ea]
    rfl
end SC
