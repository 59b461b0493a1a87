/-! String.length and String.charAt over the String constants. References from 900000 on are the constants, from 900100 on their bytes. -/
def strN (r : Nat) : Nat := mStL.getD (r - 900000) 0
def strL (r : Nat) : Int32 := Int32.ofNat (strN r)
def strC (r : Nat) (i : Int32) : Int32 := (mStB.getD (r - 900000) []).getD (mIx i) 0
theorem dJ0_length_8abf5_0 : decode cJ0_length_8abf5 0 = .ok (.aload_n 0, 1) := by decide +kernel
theorem dJ0_length_8abf5_1 : decode cJ0_length_8abf5 1 = .ok (.getfield 9, 3) := by decide +kernel
theorem dJ0_length_8abf5_4 : decode cJ0_length_8abf5 4 = .ok (.arraylength, 1) := by decide +kernel
theorem dJ0_length_8abf5_5 : decode cJ0_length_8abf5 5 = .ok (.aload_n 0, 1) := by decide +kernel
theorem dJ0_length_8abf5_6 : decode cJ0_length_8abf5 6 = .ok (.invokevirtual 335, 3) := by decide +kernel
theorem dJ0_length_8abf5_9 : decode cJ0_length_8abf5 9 = .ok (.ishr, 1) := by decide +kernel
theorem dJ0_length_8abf5_10 : decode cJ0_length_8abf5 10 = .ok (.ireturn, 1) := by decide +kernel
theorem dJ0_coder_7d493_0 : decode cJ0_coder_7d493 0 = .ok (.getstatic 38, 3) := by decide +kernel
theorem dJ0_coder_7d493_3 : decode cJ0_coder_7d493 3 = .ok (.ifCond .eq 10, 3) := by decide +kernel
theorem dJ0_coder_7d493_6 : decode cJ0_coder_7d493 6 = .ok (.aload_n 0, 1) := by decide +kernel
theorem dJ0_coder_7d493_7 : decode cJ0_coder_7d493 7 = .ok (.getfield 15, 3) := by decide +kernel
theorem dJ0_coder_7d493_10 : decode cJ0_coder_7d493 10 = .ok (.goto 4, 3) := by decide +kernel
theorem dJ0_coder_7d493_13 : decode cJ0_coder_7d493 13 = .ok (.iconst 1, 1) := by decide +kernel
theorem dJ0_coder_7d493_14 : decode cJ0_coder_7d493 14 = .ok (.ireturn, 1) := by decide +kernel
theorem dJ0_charAt_5068e_0 : decode cJ0_charAt_5068e 0 = .ok (.aload_n 0, 1) := by decide +kernel
theorem dJ0_charAt_5068e_1 : decode cJ0_charAt_5068e 1 = .ok (.invokevirtual 492, 3) := by decide +kernel
theorem dJ0_charAt_5068e_4 : decode cJ0_charAt_5068e 4 = .ok (.ifCond .eq 12, 3) := by decide +kernel
theorem dJ0_charAt_5068e_7 : decode cJ0_charAt_5068e 7 = .ok (.aload_n 0, 1) := by decide +kernel
theorem dJ0_charAt_5068e_8 : decode cJ0_charAt_5068e 8 = .ok (.getfield 9, 3) := by decide +kernel
theorem dJ0_charAt_5068e_11 : decode cJ0_charAt_5068e 11 = .ok (.iload_n 1, 1) := by decide +kernel
theorem dJ0_charAt_5068e_12 : decode cJ0_charAt_5068e 12 = .ok (.invokestatic 495, 3) := by decide +kernel
theorem dJ0_charAt_5068e_15 : decode cJ0_charAt_5068e 15 = .ok (.ireturn, 1) := by decide +kernel
theorem dJ0_charAt_5068e_16 : decode cJ0_charAt_5068e 16 = .ok (.aload_n 0, 1) := by decide +kernel
theorem dJ0_charAt_5068e_17 : decode cJ0_charAt_5068e 17 = .ok (.getfield 9, 3) := by decide +kernel
theorem dJ0_charAt_5068e_20 : decode cJ0_charAt_5068e 20 = .ok (.iload_n 1, 1) := by decide +kernel
theorem dJ0_charAt_5068e_21 : decode cJ0_charAt_5068e 21 = .ok (.invokestatic 498, 3) := by decide +kernel
theorem dJ0_charAt_5068e_24 : decode cJ0_charAt_5068e 24 = .ok (.ireturn, 1) := by decide +kernel
theorem dJ0_isLatin1_aae02_0 : decode cJ0_isLatin1_aae02 0 = .ok (.getstatic 38, 3) := by decide +kernel
theorem dJ0_isLatin1_aae02_3 : decode cJ0_isLatin1_aae02 3 = .ok (.ifCond .eq 14, 3) := by decide +kernel
theorem dJ0_isLatin1_aae02_6 : decode cJ0_isLatin1_aae02 6 = .ok (.aload_n 0, 1) := by decide +kernel
theorem dJ0_isLatin1_aae02_7 : decode cJ0_isLatin1_aae02 7 = .ok (.getfield 15, 3) := by decide +kernel
theorem dJ0_isLatin1_aae02_10 : decode cJ0_isLatin1_aae02 10 = .ok (.ifCond .ne 7, 3) := by decide +kernel
theorem dJ0_isLatin1_aae02_13 : decode cJ0_isLatin1_aae02 13 = .ok (.iconst 1, 1) := by decide +kernel
theorem dJ0_isLatin1_aae02_14 : decode cJ0_isLatin1_aae02 14 = .ok (.goto 4, 3) := by decide +kernel
theorem dJ0_isLatin1_aae02_17 : decode cJ0_isLatin1_aae02 17 = .ok (.iconst 0, 1) := by decide +kernel
theorem dJ0_isLatin1_aae02_18 : decode cJ0_isLatin1_aae02 18 = .ok (.ireturn, 1) := by decide +kernel
theorem dJ1_charAt_3b067_0 : decode cJ1_charAt_3b067 0 = .ok (.iload_n 1, 1) := by decide +kernel
theorem dJ1_charAt_3b067_1 : decode cJ1_charAt_3b067 1 = .ok (.aload_n 0, 1) := by decide +kernel
theorem dJ1_charAt_3b067_2 : decode cJ1_charAt_3b067 2 = .ok (.arraylength, 1) := by decide +kernel
theorem dJ1_charAt_3b067_3 : decode cJ1_charAt_3b067 3 = .ok (.invokestatic 9, 3) := by decide +kernel
theorem dJ1_charAt_3b067_6 : decode cJ1_charAt_3b067 6 = .ok (.aload_n 0, 1) := by decide +kernel
theorem dJ1_charAt_3b067_7 : decode cJ1_charAt_3b067 7 = .ok (.iload_n 1, 1) := by decide +kernel
theorem dJ1_charAt_3b067_8 : decode cJ1_charAt_3b067 8 = .ok (.baload, 1) := by decide +kernel
theorem dJ1_charAt_3b067_9 : decode cJ1_charAt_3b067 9 = .ok (.sipush 255, 3) := by decide +kernel
theorem dJ1_charAt_3b067_12 : decode cJ1_charAt_3b067 12 = .ok (.iand, 1) := by decide +kernel
theorem dJ1_charAt_3b067_13 : decode cJ1_charAt_3b067 13 = .ok (.i2c, 1) := by decide +kernel
theorem dJ1_charAt_3b067_14 : decode cJ1_charAt_3b067 14 = .ok (.ireturn, 1) := by decide +kernel
theorem dJ0_checkIndex_df160_0 : decode cJ0_checkIndex_df160 0 = .ok (.iload_n 0, 1) := by decide +kernel
theorem dJ0_checkIndex_df160_1 : decode cJ0_checkIndex_df160 1 = .ok (.iload_n 1, 1) := by decide +kernel
theorem dJ0_checkIndex_df160_2 : decode cJ0_checkIndex_df160 2 = .ok (.getstatic 1053, 3) := by decide +kernel
theorem dJ0_checkIndex_df160_5 : decode cJ0_checkIndex_df160 5 = .ok (.invokestatic 1059, 3) := by decide +kernel
theorem dJ0_checkIndex_df160_8 : decode cJ0_checkIndex_df160 8 = .ok (.pop, 1) := by decide +kernel
theorem dJ0_checkIndex_df160_9 : decode cJ0_checkIndex_df160 9 = .ok (.return_, 1) := by decide +kernel
theorem dJ3_checkIndex_8e157_0 : decode cJ3_checkIndex_8e157 0 = .ok (.iload_n 0, 1) := by decide +kernel
theorem dJ3_checkIndex_8e157_1 : decode cJ3_checkIndex_8e157 1 = .ok (.ifCond .lt 8, 3) := by decide +kernel
theorem dJ3_checkIndex_8e157_4 : decode cJ3_checkIndex_8e157 4 = .ok (.iload_n 0, 1) := by decide +kernel
theorem dJ3_checkIndex_8e157_5 : decode cJ3_checkIndex_8e157 5 = .ok (.iload_n 1, 1) := by decide +kernel
theorem dJ3_checkIndex_8e157_6 : decode cJ3_checkIndex_8e157 6 = .ok (.if_icmp .lt 10, 3) := by decide +kernel
theorem dJ3_checkIndex_8e157_9 : decode cJ3_checkIndex_8e157 9 = .ok (.aload_n 2, 1) := by decide +kernel
theorem dJ3_checkIndex_8e157_10 : decode cJ3_checkIndex_8e157 10 = .ok (.iload_n 0, 1) := by decide +kernel
theorem dJ3_checkIndex_8e157_11 : decode cJ3_checkIndex_8e157 11 = .ok (.iload_n 1, 1) := by decide +kernel
theorem dJ3_checkIndex_8e157_16 : decode cJ3_checkIndex_8e157 16 = .ok (.iload_n 0, 1) := by decide +kernel
theorem dJ3_checkIndex_8e157_17 : decode cJ3_checkIndex_8e157 17 = .ok (.ireturn, 1) := by decide +kernel
def mJ0_length_8abf5 : mM := (yJ0_length_8abf5, cJ0_length_8abf5, 1, (some .int))
def mJ0_coder_7d493 : mM := (yJ0_coder_7d493, cJ0_coder_7d493, 1, (some .byte))
def mJ0_charAt_5068e : mM := (yJ0_charAt_5068e, cJ0_charAt_5068e, 2, (some .char))
def mJ0_isLatin1_aae02 : mM := (yJ0_isLatin1_aae02, cJ0_isLatin1_aae02, 1, (some .boolean))
def mJ1_charAt_3b067 : mM := (yJ1_charAt_3b067, cJ1_charAt_3b067, 2, (some .char))
def mJ0_checkIndex_df160 : mM := (yJ0_checkIndex_df160, cJ0_checkIndex_df160, 2, none)
def mJ3_checkIndex_8e157 : mM := (yJ3_checkIndex_8e157, cJ3_checkIndex_8e157, 3, (some .int))
set_option maxRecDepth 100000 in
theorem lk_len : mLk 0 RX4 177 mJ0_length_8abf5 0 := by
  refine ⟨⟨by decide, by decide, by decide +kernel⟩, ?_, ?_, ?_, ?_, ?_⟩ <;> decide +kernel
set_option maxRecDepth 100000 in
theorem lk_chr : mLk 0 RX4 184 mJ0_charAt_5068e 1 := by
  refine ⟨⟨by decide, by decide, by decide +kernel⟩, ?_, ?_, ?_, ?_, ?_⟩ <;> decide +kernel
set_option maxRecDepth 100000 in
theorem lk_cod : mLk 0 RJ0 335 mJ0_coder_7d493 0 := by
  refine ⟨⟨by decide, by decide, by decide +kernel⟩, ?_, ?_, ?_, ?_, ?_⟩ <;> decide +kernel
set_option maxRecDepth 100000 in
theorem lk_lat : mLk 0 RJ0 492 mJ0_isLatin1_aae02 0 := by
  refine ⟨⟨by decide, by decide, by decide +kernel⟩, ?_, ?_, ?_, ?_, ?_⟩ <;> decide +kernel
set_option maxRecDepth 100000 in
theorem lk_ch1 : mLk 1 RJ0 495 mJ1_charAt_3b067 2 := by
  refine ⟨⟨by decide, by decide, by decide +kernel⟩, ?_, ?_, ?_, ?_⟩ <;> decide +kernel
set_option maxRecDepth 100000 in
theorem lk_ck0 : mLk 1 RJ1 9 mJ0_checkIndex_df160 2 := by
  refine ⟨⟨by decide, by decide, by decide +kernel⟩, ?_, ?_, ?_, ?_⟩ <;> decide +kernel
set_option maxRecDepth 100000 in
theorem lk_ck3 : mLk 1 RJ0 1059 mJ3_checkIndex_8e157 3 := by
  refine ⟨⟨by decide, by decide, by decide +kernel⟩, ?_, ?_, ?_, ?_⟩ <;> decide +kernel
set_option maxRecDepth 100000 in
theorem lx_str : Cond.fieldLink RJ0 9 "java/lang/String" "value" "[B" ∈ mTb ∧ Cond.fieldLink RJ0 15 "java/lang/String" "coder" "B" ∈ mTb ∧ Cond.fieldLink RJ0 38 "java/lang/String" "COMPACT_STRINGS" "Z" ∈ mTb ∧ Cond.fieldLink RJ0 1053 "jdk/internal/util/Preconditions" "SIOOBE_FORMATTER" "Ljava/util/function/BiFunction;" ∈ mTb := by decide +kernel
theorem str_shr : ∀ j, j < 15 → (Int32.ofNat (mStL.getD j 0)) >>> ((0 : Int32) &&& 31) = Int32.ofNat (mStL.getD j 0) := by decide +kernel
theorem str_chr : ∀ j, j < 15 → ∀ k, k < mStL.getD j 0 → (((mStB.getD j []).getD k 0 &&& 255).toUInt32 % 65536).toInt32 = (mStB.getD j []).getD k 0 ∧ narrow .char (.int ((mStB.getD j []).getD k 0)) = .int ((mStB.getD j []).getD k 0) := by decide +kernel
section SS
variable {p : Program} {l : Launch} {e : Env} {R : Room} {s : State} {m : MethodId} {args : Array Value} {below : List Frame} {meth : Method} {c : Code} {Q : State → Prop} {cc : ByteArray} {own : String} {G : mG} {nL n0 w0 nM wM : Nat} {fin : Bool}
theorem mCv_x {a : Nat} (h : a < 99999) : mCv G (.ref (900000 + a)) = .ref (G.2.1 a) := by
  show va_rf (mRo G (900000 + a)) = _
  unfold mRo mAd NUL
  rw [if_neg (by omega), if_neg (by omega), Nat.add_sub_cancel_left]
  rfl
theorem ss_cs (C : mCx p R s m args meth c G cc RJ0 nL fin nM wM n0 w0) {pc : Nat} {ok ok' : Bool} {L t : List Value} {h : mHp} (hd : decode cc pc = .ok (.getstatic 38, 3))
    (k : mW p l e R s m args below meth c G nL n0 w0 Q (ok', pc + 3, L, .int 1 :: t, h)) : mW p l e R s m args below meth c G nL n0 w0 Q (ok, pc, L, t, h) := by
  obtain ⟨hx, hcb, hml, hown, hts, hK, hsz, hX, hnm, hfr, hfin⟩ := C
  intro H locs ls hw hQ hv h0 h1
  exact va_gets hx hcb hX.2.2.2.2.1 hQ hown (hts _ lx_str.2.2.1) (fun _ z => z) hd (k H locs ls hw hQ hv h0 h1)
theorem ss_fm (C : mCx p R s m args meth c G cc RJ0 nL fin nM wM n0 w0) {pc : Nat} {ok ok' : Bool} {L t : List Value} {h : mHp} (hd : decode cc pc = .ok (.getstatic 1053, 3))
    (k : ∀ f : Nat, (f = NUL ∨ f = 900200) → mW p l e R s m args below meth c G nL n0 w0 Q (ok', pc + 3, L, .ref f :: t, h)) : mW p l e R s m args below meth c G nL n0 w0 Q (ok, pc, L, t, h) := by
  obtain ⟨hx, hcb, hml, hown, hts, hK, hsz, hX, hnm, hfr, hfin⟩ := C
  intro H locs ls hw hQ hv h0 h1
  obtain ⟨f, hf, hZ⟩ := hX.2.2.2.2.2.1
  exact va_gets hx hcb hZ hQ hown (hts _ lx_str.2.2.2) (fun _ z => z) hd (k f hf H locs ls hw hQ hv h0 h1)
theorem ss_cod (C : mCx p R s m args meth c G cc RJ0 nL fin nM wM n0 w0) {pc j : Nat} (hj : j < 15) {ok ok' : Bool} {L t : List Value} {h : mHp} (hd : decode cc pc = .ok (.getfield 15, 3))
    (k : mW p l e R s m args below meth c G nL n0 w0 Q (ok', pc + 3, L, .int 0 :: t, h)) : mW p l e R s m args below meth c G nL n0 w0 Q (ok, pc, L, .ref (900000 + j) :: t, h) := by
  obtain ⟨hx, hcb, hml, hown, hts, hK, hsz, hX, hnm, hfr, hfin⟩ := C
  intro H locs ls hw hQ hv h0 h1
  show W p l e R s m args below meth c H locs _ _ Q (F0 m pc ls (mCv G (.ref (900000 + j)) :: t.map (mCv G)))
  rw [mCv_x (by omega)]
  exact vk_getf hx hcb (hX.2.1.1 j hj).2.1 hQ hown (hts _ lx_str.2.1) (fun _ z => z) hd (k H locs ls hw hQ hv h0 h1)
theorem ss_val (C : mCx p R s m args meth c G cc RJ0 nL fin nM wM n0 w0) {pc j : Nat} (hj : j < 15) {ok ok' : Bool} {L t : List Value} {h : mHp} (hd : decode cc pc = .ok (.getfield 9, 3))
    (k : mW p l e R s m args below meth c G nL n0 w0 Q (ok', pc + 3, L, .ref (900000 + (100 + j)) :: t, h)) : mW p l e R s m args below meth c G nL n0 w0 Q (ok, pc, L, .ref (900000 + j) :: t, h) := by
  obtain ⟨hx, hcb, hml, hown, hts, hK, hsz, hX, hnm, hfr, hfin⟩ := C
  intro H locs ls hw hQ hv h0 h1
  show W p l e R s m args below meth c H locs _ _ Q (F0 m pc ls (mCv G (.ref (900000 + j)) :: t.map (mCv G)))
  rw [mCv_x (by omega)]
  have k1 := k H locs ls hw hQ hv h0 h1
  have k2 : W p l e R s m args below meth c H locs (hN h - n0) (hW h - w0) Q (F0 m (pc + 3) ls (mCv G (.ref (900000 + (100 + j))) :: t.map (mCv G))) := k1
  rw [mCv_x (by omega), hX.2.2.2.2.2.2 j hj] at k2
  exact vk_getf hx hcb (hX.2.1.1 j hj).2.2.1 hQ hown (hts _ lx_str.1) (fun _ z => z) hd k2
theorem ss_len (C : mCx p R s m args meth c G cc own nL fin nM wM n0 w0) {pc j : Nat} (hj : j < 15) {ok ok' : Bool} {L t : List Value} {h : mHp} (hd : decode cc pc = .ok (.arraylength, 1))
    (k : mW p l e R s m args below meth c G nL n0 w0 Q (ok', pc + 1, L, .int (Int32.ofNat (mStL.getD j 0)) :: t, h)) : mW p l e R s m args below meth c G nL n0 w0 Q (ok, pc, L, .ref (900000 + (100 + j)) :: t, h) := by
  obtain ⟨hx, hcb, hml, hown, hts, hK, hsz, hX, hnm, hfr, hfin⟩ := C
  intro H locs ls hw hQ hv h0 h1
  show W p l e R s m args below meth c H locs _ _ Q (F0 m pc ls (mCv G (.ref (900000 + (100 + j))) :: t.map (mCv G)))
  rw [mCv_x (by omega), hX.2.2.2.2.2.2 j hj]
  exact va_tlen hx hcb (hX.2.1.1 j hj).2.2.2 hQ rfl hd (k H locs ls hw hQ hv h0 h1)
theorem ss_bal (C : mCx p R s m args meth c G cc own nL fin nM wM n0 w0) {pc j : Nat} (hj : j < 15) {i : Int32} (hi : vp_in i (mStL.getD j 0)) {ok ok' : Bool} {L t : List Value} {h : mHp} (hd : decode cc pc = .ok (.baload, 1))
    (k : mW p l e R s m args below meth c G nL n0 w0 Q (ok', pc + 1, L, .int ((mStB.getD j []).getD (mIx i) 0) :: t, h)) : mW p l e R s m args below meth c G nL n0 w0 Q (ok, pc, L, .int i :: .ref (900000 + (100 + j)) :: t, h) := by
  obtain ⟨hx, hcb, hml, hown, hts, hK, hsz, hX, hnm, hfr, hfin⟩ := C
  intro H locs ls hw hQ hv h0 h1
  show W p l e R s m args below meth c H locs _ _ Q (F0 m pc ls (.int i :: mCv G (.ref (900000 + (100 + j))) :: t.map (mCv G)))
  rw [mCv_x (by omega), hX.2.2.2.2.2.2 j hj]
  exact va_tb hx hcb (hX.2.1.1 j hj).2.2.2 hQ hi rfl hd (k H locs ls hw hQ hv h0 h1)
/-- a call on a String constant -/
theorem mcallS {i n pc d : Nat} {M : mM} (C : mCx p R s m args meth c G cc own nL fin nM wM n0 w0) (hk : mLk 0 own i M n) (hcls : M.1.cls = "java/lang/String") {j : Nat} (hj : j < 15) {ok ok' : Bool} {L vs' rest : List Value} {h : mHp} {r : Option Value} (hM : mMet l M d (.ref (900000 + j) :: vs') h r h)
    (hd : decode cc pc = .ok (.invokevirtual i, 3)) (hv : vs'.length = n)
    (hf : d + 1 ≤ R.frames) (hlo : 19 + M.2.2.1 + 100 * d ≤ R.locals) (hnM : hN h ≤ nM) (hwM : hW h ≤ wM) (hcat : (rest.map fun v => v.category).sum ≤ 8)
    (k : mW p l e R s m args below meth c G nL n0 w0 Q (ok', pc + 3, L, r.toList ++ rest, h)) : mW p l e R s m args below meth c G nL n0 w0 Q (ok, pc, L, vs'.reverse ++ (.ref (900000 + j) :: rest), h) := by
  intro H locs ls hw hQ hl h0 h1
  have h0 : n0 ≤ hN h := h0
  have h1 : w0 ≤ hW h := h1
  refine W_sz fun hz => ?_
  have hsz2 : H.size = G.1 + hN h := mWd_sz hw C.2.2.2.2.2.2.1 hz h0 hQ.1
  have hpre := mPre_call (vs := .ref (900000 + j) :: vs') C hw hQ hsz2
  obtain ⟨m1, m2, hMet⟩ := hM
  have hG := hMet G
  obtain ⟨hx, hb, hml, hown, hts, hK, hsz, hX, ⟨hnm1, hnm2, hnm3⟩, hfr, hfin⟩ := C
  obtain ⟨kd1, kd2, kd3, q1, q2, q3⟩ := hk
  have hR : (mRm d h h).frames + 1 ≤ R.frames ∧ 8 + (M.2.2.1 + 11) + (mRm d h h).locals ≤ R.locals := ⟨hf, by show 8 + (M.2.2.1 + 11) + 100 * d ≤ R.locals; omega⟩
  have ea : (mCv G (.ref (900000 + j))) = .ref (G.2.1 j) := mCv_x (by omega)
  have hpre2 : ∀ U : State, U.heap = H → s.WarmedH U.vm → va_Pc ((Value.ref (900000 + j) :: vs').map (mCv G)) (mPre G h) (Value.ref (G.2.1 j) :: vs'.map (mCv G)).toArray U := by
    rw [← ea]; exact hpre
  have hrecv := vk_recv hX.2.1 hj hQ
  have hrun := va_runV (p := p) (l := l) (e := e) (R := R) (below := below) (meth := meth) (locs := locs) (cells := hN h - n0) (slots := hW h - w0) (g := F0 m pc ls ((vs'.reverse ++ (.ref (900000 + j) :: rest)).map (mCv G))) (As := vs'.map (mCv G)) (rest := rest.map (mCv G)) (b := G.2.1 j) (C := M.1.cls) (Ts := mTb) (nL := nL) ⟨hx, hb, hml, hown, hts⟩ hG ⟨callB_of n hts (mGood kd2) rfl rfl rfl (hts _ kd3) (hts _ q1) kd1 hR, hts _ q2, hts _ q3⟩ ⟨mPre_blind, by rw [hcls]; exact hrecv, hpre2⟩ rfl (by rw [List.length_map]; exact hv) hl.1 (by
      show (vs'.reverse ++ (.ref (900000 + j) :: rest)).map (mCv G) = _
      rw [List.map_append, List.map_reverse, List.map_cons, ea]) (lv_room (by rw [mCv_cats]; exact hcat)) hd ⟨by omega, by omega⟩
  refine mrun_go hrun hQ fun H1 locs1 hw1 hQ1 => ?_
  have k1 := k H1 locs1 ls hw1 hQ1 hl h0 h1
  have k2 : W p l e R s m args below meth c H1 locs1 (hN h - n0) (hW h - w0) Q (F0 m (pc + 3) ls ((r.toList ++ rest).map (mCv G))) := k1
  rw [show hN h - n0 + (hN h - hN h) = hN h - n0 by omega, show hW h - w0 + (hW h - hW h) = hW h - w0 by omega]
  have e9 : (r.toList ++ rest).map (mCv G) = (r.map (mCv G)).toList ++ rest.map (mCv G) := by
    cases r <;> rfl
  rw [e9] at k2
  exact k2
end SS
section SU
variable {l : Launch} {h : mHp}
/-- coder(): 0 -/
theorem q_cod (h9 : hN h ≤ 900000) {j : Nat} (hj : j < 15) : mMet l mJ0_coder_7d493 1 [.ref (900000 + j)] h (some (.int 0)) h := by
  refine mMet_of false (by decide) (fun z => by cases z) (by decide) rfl (Nat.le_of_ble_eq_true rfl) (Nat.le_refl _) (Nat.le_refl _) h9 (fun p e s m args below meth c G C hr hk => ?_)
  refine ss_cs C (ok' := true) dJ0_coder_7d493_0 ?_
  refine mst_ok (q := (3, .ifCond .eq 10, 3, 0, 0)) C dJ0_coder_7d493_3 rfl rfl trivial rfl rfl ?_
  show mW p l e _ s m args below meth c G 1 _ _ _ (true, 6, [.ref (900000 + j)], [], h)
  refine mst_ok (q := (6, .aload_n 0, 1, 0, 0)) C dJ0_coder_7d493_6 rfl rfl trivial rfl rfl ?_
  refine ss_cod C hj (ok' := true) dJ0_coder_7d493_7 ?_
  refine mst_ok (q := (10, .goto 4, 3, 0, 0)) C dJ0_coder_7d493_10 rfl rfl trivial rfl rfl ?_
  exact mret_z C hr hk (by decide) dJ0_coder_7d493_14
/-- isLatin1(): true -/
theorem q_lat (h9 : hN h ≤ 900000) {j : Nat} (hj : j < 15) : mMet l mJ0_isLatin1_aae02 1 [.ref (900000 + j)] h (some (.int 1)) h := by
  refine mMet_of false (by decide) (fun z => by cases z) (by decide) rfl (Nat.le_of_ble_eq_true rfl) (Nat.le_refl _) (Nat.le_refl _) h9 (fun p e s m args below meth c G C hr hk => ?_)
  refine ss_cs C (ok' := true) dJ0_isLatin1_aae02_0 ?_
  refine mst_ok (q := (3, .ifCond .eq 14, 3, 0, 0)) C dJ0_isLatin1_aae02_3 rfl rfl trivial rfl rfl ?_
  show mW p l e _ s m args below meth c G 1 _ _ _ (true, 6, [.ref (900000 + j)], [], h)
  refine mst_ok (q := (6, .aload_n 0, 1, 0, 0)) C dJ0_isLatin1_aae02_6 rfl rfl trivial rfl rfl ?_
  refine ss_cod C hj (ok' := true) dJ0_isLatin1_aae02_7 ?_
  refine mst_ok (q := (10, .ifCond .ne 7, 3, 0, 0)) C dJ0_isLatin1_aae02_10 rfl rfl trivial rfl rfl ?_
  show mW p l e _ s m args below meth c G 1 _ _ _ (true, 13, [.ref (900000 + j)], [], h)
  refine mst_ok (q := (13, .iconst 1, 1, 0, 0)) C dJ0_isLatin1_aae02_13 rfl rfl trivial rfl rfl ?_
  refine mst_ok (q := (14, .goto 4, 3, 0, 0)) C dJ0_isLatin1_aae02_14 rfl rfl trivial rfl rfl ?_
  exact mret_z C hr hk (by decide) dJ0_isLatin1_aae02_18
/-- length() -/
theorem q_len (h9 : hN h ≤ 900000) {j : Nat} (hj : j < 15) : mMet l mJ0_length_8abf5 2 [.ref (900000 + j)] h (some (.int (Int32.ofNat (mStL.getD j 0)))) h := by
  refine mMet_of false (by decide) (fun z => by cases z) (by decide) rfl (Nat.le_of_ble_eq_true rfl) (Nat.le_refl _) (Nat.le_refl _) h9 (fun p e s m args below meth c G C hr hk => ?_)
  refine mst_ok (q := (0, .aload_n 0, 1, 0, 0)) C dJ0_length_8abf5_0 rfl rfl trivial rfl rfl ?_
  refine ss_val C hj (ok' := true) dJ0_length_8abf5_1 ?_
  refine ss_len C hj (ok' := true) dJ0_length_8abf5_4 ?_
  refine mst_ok (q := (5, .aload_n 0, 1, 0, 0)) C dJ0_length_8abf5_5 rfl rfl trivial rfl rfl ?_
  refine mcallS (vs' := []) (rest := [.int (Int32.ofNat (mStL.getD j 0))]) (ok' := true) C lk_cod rfl hj (q_cod h9 hj) dJ0_length_8abf5_6 rfl (Nat.le_of_ble_eq_true rfl) (Nat.le_of_ble_eq_true rfl) (Nat.le_refl _) (Nat.le_refl _) (Nat.le_of_ble_eq_true rfl) ?_
  refine mst_ok (q := (9, .ishr, 1, 0, 0)) C dJ0_length_8abf5_9 rfl rfl trivial rfl rfl ?_
  show mW p l e _ s m args below meth c G 1 _ _ _ (true, 10, [.ref (900000 + j)], [.int ((Int32.ofNat (mStL.getD j 0)) >>> ((0 : Int32) &&& 31))], h)
  rw [str_shr j hj]
  exact mret_i C hr hk dJ0_length_8abf5_10
theorem q_ck3 (h9 : hN h ≤ 900000) {i n : Int32} {f : Nat} (h1 : ¬ i < 0) (h2 : i < n) : mMet l mJ3_checkIndex_8e157 1 [.int i, .int n, .ref f] h (some (.int i)) h := by
  refine mMet_of false (by decide) (fun z => by cases z) (by decide) rfl (Nat.le_of_ble_eq_true rfl) (Nat.le_refl _) (Nat.le_refl _) h9 (fun p e s m args below meth c G C hr hk => ?_)
  refine mst_ok (q := (0, .iload_n 0, 1, 0, 0)) C dJ3_checkIndex_8e157_0 rfl rfl trivial rfl rfl ?_
  refine mst_ok (q := (1, .ifCond .lt 8, 3, 0, 0)) C dJ3_checkIndex_8e157_1 rfl rfl trivial rfl rfl ?_
  show mW p l e _ s m args below meth c G 3 _ _ _ (true, (if i < 0 then 9 else 4), [.int i, .int n, .ref f], [], h)
  rw [if_neg h1]
  refine mst_ok (q := (4, .iload_n 0, 1, 0, 0)) C dJ3_checkIndex_8e157_4 rfl rfl trivial rfl rfl ?_
  refine mst_ok (q := (5, .iload_n 1, 1, 0, 0)) C dJ3_checkIndex_8e157_5 rfl rfl trivial rfl rfl ?_
  refine mst_ok (q := (6, .if_icmp .lt 10, 3, 0, 0)) C dJ3_checkIndex_8e157_6 rfl rfl trivial rfl rfl ?_
  show mW p l e _ s m args below meth c G 3 _ _ _ (true, (if i < n then 16 else 9), [.int i, .int n, .ref f], [], h)
  rw [if_pos h2]
  refine mst_ok (q := (16, .iload_n 0, 1, 0, 0)) C dJ3_checkIndex_8e157_16 rfl rfl trivial rfl rfl ?_
  exact mret_i C hr hk dJ3_checkIndex_8e157_17
theorem q_ck0 (h9 : hN h ≤ 900000) {i n : Int32} (h1 : ¬ i < 0) (h2 : i < n) : mMet l mJ0_checkIndex_df160 2 [.int i, .int n] h none h := by
  refine mMet_of false (by decide) (fun z => by cases z) (by decide) rfl (Nat.le_of_ble_eq_true rfl) (Nat.le_refl _) (Nat.le_refl _) h9 (fun p e s m args below meth c G C hr hk => ?_)
  refine mst_ok (q := (0, .iload_n 0, 1, 0, 0)) C dJ0_checkIndex_df160_0 rfl rfl trivial rfl rfl ?_
  refine mst_ok (q := (1, .iload_n 1, 1, 0, 0)) C dJ0_checkIndex_df160_1 rfl rfl trivial rfl rfl ?_
  refine ss_fm C (ok' := true) dJ0_checkIndex_df160_2 (fun f hf => ?_)
  refine mcall (kd := 1) (vs := [.int i, .int n, .ref f]) (rest := []) (r := some (.int i)) (h' := h) (ok' := true) C lk_ck3 (q_ck3 h9 h1 h2) dJ0_checkIndex_df160_5 rfl (Nat.le_of_ble_eq_true rfl) (Nat.le_of_ble_eq_true rfl) (Nat.le_refl _) (Nat.le_refl _) (Nat.le_of_ble_eq_true rfl) ?_
  refine mst_ok (q := (8, .pop, 1, 0, 0)) C dJ0_checkIndex_df160_8 rfl rfl trivial rfl rfl ?_
  exact mret_v C hr hk dJ0_checkIndex_df160_9
theorem q_ch1 (h9 : hN h ≤ 900000) {j : Nat} (hj : j < 15) {i : Int32} (h1 : ¬ i < 0) (h2 : i < Int32.ofNat (mStL.getD j 0)) (hi : vp_in i (mStL.getD j 0)) : mMet l mJ1_charAt_3b067 3 [.ref (900000 + (100 + j)), .int i] h (some (.int ((mStB.getD j []).getD (mIx i) 0))) h := by
  have hch := str_chr j hj (mIx i) (Nat.not_le.mp fun q => hi (Or.inr q))
  refine mMet_of false (by decide) (fun z => by cases z) (by decide) rfl (Nat.le_of_ble_eq_true rfl) (Nat.le_refl _) (Nat.le_refl _) h9 (fun p e s m args below meth c G C hr hk => ?_)
  refine mst_ok (q := (0, .iload_n 1, 1, 0, 0)) C dJ1_charAt_3b067_0 rfl rfl trivial rfl rfl ?_
  refine mst_ok (q := (1, .aload_n 0, 1, 0, 0)) C dJ1_charAt_3b067_1 rfl rfl trivial rfl rfl ?_
  refine ss_len C hj (ok' := true) dJ1_charAt_3b067_2 ?_
  refine mcall (kd := 1) (vs := [.int i, .int (Int32.ofNat (mStL.getD j 0))]) (rest := []) (r := none) (h' := h) (ok' := true) C lk_ck0 (q_ck0 h9 h1 h2) dJ1_charAt_3b067_3 rfl (Nat.le_of_ble_eq_true rfl) (Nat.le_of_ble_eq_true rfl) (Nat.le_refl _) (Nat.le_refl _) (Nat.le_of_ble_eq_true rfl) ?_
  refine mst_ok (q := (6, .aload_n 0, 1, 0, 0)) C dJ1_charAt_3b067_6 rfl rfl trivial rfl rfl ?_
  refine mst_ok (q := (7, .iload_n 1, 1, 0, 0)) C dJ1_charAt_3b067_7 rfl rfl trivial rfl rfl ?_
  refine ss_bal C hj hi (ok' := true) dJ1_charAt_3b067_8 ?_
  refine mst_ok (q := (9, .sipush 255, 3, 0, 0)) C dJ1_charAt_3b067_9 rfl rfl trivial rfl rfl ?_
  refine mst_ok (q := (12, .iand, 1, 0, 0)) C dJ1_charAt_3b067_12 rfl rfl trivial rfl rfl ?_
  refine mst_ok (q := (13, .i2c, 1, 0, 0)) C dJ1_charAt_3b067_13 rfl rfl trivial rfl rfl ?_
  show mW p l e _ s m args below meth c G 2 _ _ _ (true, 14, [.ref (900000 + (100 + j)), .int i], [.int (((mStB.getD j []).getD (mIx i) 0 &&& 255).toUInt32 % 65536).toInt32], h)
  rw [hch.1]
  exact mret_z C hr hk hch.2 dJ1_charAt_3b067_14
theorem q_chr (h9 : hN h ≤ 900000) {j : Nat} (hj : j < 15) {i : Int32} (h1 : ¬ i < 0) (h2 : i < Int32.ofNat (mStL.getD j 0)) (hi : vp_in i (mStL.getD j 0)) : mMet l mJ0_charAt_5068e 4 [.ref (900000 + j), .int i] h (some (.int ((mStB.getD j []).getD (mIx i) 0))) h := by
  have hch := str_chr j hj (mIx i) (Nat.not_le.mp fun q => hi (Or.inr q))
  refine mMet_of false (by decide) (fun z => by cases z) (by decide) rfl (Nat.le_of_ble_eq_true rfl) (Nat.le_refl _) (Nat.le_refl _) h9 (fun p e s m args below meth c G C hr hk => ?_)
  refine mst_ok (q := (0, .aload_n 0, 1, 0, 0)) C dJ0_charAt_5068e_0 rfl rfl trivial rfl rfl ?_
  refine mcallS (vs' := []) (rest := []) (ok' := true) C lk_lat rfl hj (q_lat h9 hj) dJ0_charAt_5068e_1 rfl (Nat.le_of_ble_eq_true rfl) (Nat.le_of_ble_eq_true rfl) (Nat.le_refl _) (Nat.le_refl _) (Nat.le_of_ble_eq_true rfl) ?_
  refine mst_ok (q := (4, .ifCond .eq 12, 3, 0, 0)) C dJ0_charAt_5068e_4 rfl rfl trivial rfl rfl ?_
  show mW p l e _ s m args below meth c G 2 _ _ _ (true, 7, [.ref (900000 + j), .int i], [], h)
  refine mst_ok (q := (7, .aload_n 0, 1, 0, 0)) C dJ0_charAt_5068e_7 rfl rfl trivial rfl rfl ?_
  refine ss_val C hj (ok' := true) dJ0_charAt_5068e_8 ?_
  refine mst_ok (q := (11, .iload_n 1, 1, 0, 0)) C dJ0_charAt_5068e_11 rfl rfl trivial rfl rfl ?_
  refine mcall (kd := 1) (vs := [.ref (900000 + (100 + j)), .int i]) (rest := []) (r := some (.int ((mStB.getD j []).getD (mIx i) 0))) (h' := h) (ok' := true) C lk_ch1 (q_ch1 h9 hj h1 h2 hi) dJ0_charAt_5068e_12 rfl (Nat.le_of_ble_eq_true rfl) (Nat.le_of_ble_eq_true rfl) (Nat.le_refl _) (Nat.le_refl _) (Nat.le_of_ble_eq_true rfl) ?_
  exact mret_z C hr hk hch.2 dJ0_charAt_5068e_15
end SU
section SV
variable {p : Program} {l : Launch} {e : Env} {R : Room} {s : State} {m : MethodId} {args : Array Value} {below : List Frame} {meth : Method} {c : Code} {Q : State → Prop} {cc : ByteArray} {G : mG} {nL n0 w0 nM wM : Nat} {fin : Bool}
theorem so_slen {j : Nat} (C : mCx p R s m args meth c G cc RX4 nL fin nM wM n0 w0) {pc : Nat} {ok ok' : Bool} {L t : List Value} {h : mHp} (hd : decode cc pc = .ok (.invokevirtual 177, 3)) (hj : j < 15) (hcat : (t.map fun v => v.category).sum ≤ 8) (hn : hN h ≤ nM) (hm : hW h ≤ wM) (hf : 3 ≤ R.frames) (hlo : 300 ≤ R.locals)
    (k : mW p l e R s m args below meth c G nL n0 w0 Q (ok', pc + 3, L, .int (strL (900000 + j)) :: t, h)) : mW p l e R s m args below meth c G nL n0 w0 Q (ok, pc, L, .ref (900000 + j) :: t, h) := by
  have e1 : strL (900000 + j) = Int32.ofNat (mStL.getD j 0) := by unfold strL strN; rw [Nat.add_sub_cancel_left]
  rw [e1] at k
  have h9 : hN h ≤ 900000 := Nat.le_trans hn C.2.2.2.2.2.2.2.2.1.2.2
  exact mcallS (vs' := []) (rest := t) (r := some (.int (Int32.ofNat (mStL.getD j 0)))) C lk_len rfl hj (q_len h9 hj) hd rfl hf (by show 19 + 1 + 100 * 2 ≤ R.locals; omega) hn hm hcat k
theorem so_schr {j : Nat} (C : mCx p R s m args meth c G cc RX4 nL fin nM wM n0 w0) {pc : Nat} {ok ok' : Bool} {L t : List Value} {h : mHp} {i : Int32} (hd : decode cc pc = .ok (.invokevirtual 184, 3)) (hj : j < 15) (hcat : (t.map fun v => v.category).sum ≤ 8) (hn : hN h ≤ nM) (hm : hW h ≤ wM) (hf : 5 ≤ R.frames) (hlo : 500 ≤ R.locals) (hi : (mIn i (strN (900000 + j)) && true) = true)
    (k : mW p l e R s m args below meth c G nL n0 w0 Q (ok', pc + 3, L, .int (strC (900000 + j) i) :: t, h)) : mW p l e R s m args below meth c G nL n0 w0 Q (ok, pc, L, .int i :: .ref (900000 + j) :: t, h) := by
  have e1 : strC (900000 + j) i = (mStB.getD j []).getD (mIx i) 0 := by unfold strC; rw [Nat.add_sub_cancel_left]
  have e2 : strN (900000 + j) = mStL.getD j 0 := by unfold strN; rw [Nat.add_sub_cancel_left]
  rw [e1] at k
  rw [e2, Bool.and_true] at hi
  have h9 : hN h ≤ 900000 := Nat.le_trans hn C.2.2.2.2.2.2.2.2.1.2.2
  have hin := mIn_in hi
  have g1 : ¬ i < 0 := fun z => hin (Or.inl z)
  have hsm : ∀ j, j < 15 → mStL.getD j 0 < 100 := by decide
  obtain ⟨n, hn2, rfl⟩ := vp_in_of hin (by have := hsm j hj; omega)
  have g2 : nI n < Int32.ofNat (mStL.getD j 0) := nI_lt hn2 (by have := hsm j hj; omega)
  exact mcallS (vs' := [.int (nI n)]) (rest := t) (r := some (.int ((mStB.getD j []).getD (mIx (nI n)) 0))) C lk_chr rfl hj (q_chr h9 hj g1 g2 hin) hd rfl hf (by show 19 + 2 + 100 * 4 ≤ R.locals; omega) hn hm hcat k
end SV
