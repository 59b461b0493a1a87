/-! ANY ROW; A STRETCH OF ROWS. -/
set_option maxRecDepth 100000 in
theorem mw_obj : Cond.instanceMethod objectInit ∈ mTb ∧ Cond.code objectInit ⟨#[0xb1]⟩ 1 none ∈ mTb := by decide +kernel
section SD
variable {p : Program} {l : Launch} {e : Env} {R : Room} {s : State} {m : MethodId} {args : Array Value} {below : List Frame} {meth : Method} {c : Code} {Q : State → Prop} {cc : ByteArray} {own : String} {G : mG} {nL n0 w0 nM wM : Nat} {fin : Bool}
set_option maxHeartbeats 4000000 in
theorem mst_ok (C : mCx p R s m args meth c G cc own nL fin nM wM n0 w0) {q : mI} (hd : decode cc q.1 = .ok (q.2.1, q.2.2.1)) (hlen : mLok q = true) (hsta : mSta nL fin q = true) (he : mEnt own q) {f : mC} (hpc : f.2.1 = q.1) (hok : (mst nL fin nM wM q f).1 = true)
    (k : mW p l e R s m args below meth c G nL n0 w0 Q (mst nL fin nM wM q f)) : mW p l e R s m args below meth c G nL n0 w0 Q f := by
  obtain ⟨pc, ins, len, a, b⟩ := q
  obtain ⟨ok, pc0, L, st, h⟩ := f
  simp only at hpc hd
  subst hpc
  have hx := C.1
  have hb := C.2.1
  have hown := C.2.2.2.1
  have hts := C.2.2.2.2.1
  cases ins
  case iconst n =>
    obtain rfl : len = 1 := by simpa [mLok, mIl] using hlen
    intro H locs ls hw hQ hv h0 h1
    exact lv_iconst hx hb hd rfl (k H locs ls hw hQ hv h0 h1)
  case bipush n =>
    obtain rfl : len = 2 := by simpa [mLok, mIl] using hlen
    intro H locs ls hw hQ hv h0 h1
    exact lv_bipush hx hb hd rfl (k H locs ls hw hQ hv h0 h1)
  case sipush n =>
    obtain rfl : len = 3 := by simpa [mLok, mIl] using hlen
    intro H locs ls hw hQ hv h0 h1
    exact lv_sipush hx hb hd rfl (k H locs ls hw hQ hv h0 h1)
  case lconst n =>
    obtain rfl : len = 1 := by simpa [mLok, mIl] using hlen
    intro H locs ls hw hQ hv h0 h1
    exact lv_lconst hx hb hd rfl (k H locs ls hw hQ hv h0 h1)
  case ldc i =>
    obtain rfl : len = 2 := by simpa [mLok, mIl] using hlen
    by_cases hb0 : b = 0
    · subst hb0
      intro H locs ls hw hQ hv h0 h1
      exact lv_ldc hx hb hown (hts _ he) hd (k H locs ls hw hQ hv h0 h1)
    · have he2 : own = RX4 ∧ ∃ tx, mSt[a]? = some (i, tx) := by
        have he3 : (if b = 0 then Cond.constant own i (Int32.ofNat a) ∈ mTb else own = RX4 ∧ ∃ tx, mSt[a]? = some (i, tx)) := he
        rw [if_neg hb0] at he3
        exact he3
      obtain ⟨ho, tx, hst⟩ := he2
      have ek : mst nL fin nM wM (pc0, .ldc i, 2, a, b) (ok, pc0, L, st, h) = (ok, pc0 + 2, L, .ref (900000 + a) :: st, h) := if_neg hb0
      rw [ek] at k
      intro H locs ls hw hQ hv h0 h1
      have hal : a < 15 := (List.getElem?_eq_some_iff.mp hst).1
      have k1 := k H locs ls hw hQ hv h0 h1
      have k2 : W p l e R s m args below meth c H locs (hN h - n0) (hW h - w0) Q (F0 m (pc0 + 2) ls (mCv G (.ref (900000 + a)) :: st.map (mCv G))) := k1
      have ec : mCv G (.ref (900000 + a)) = .ref (G.2.1 a) := by
        show va_rf (mRo G (900000 + a)) = _
        unfold mRo mAd NUL
        rw [if_neg (by omega), if_neg (by omega), Nat.add_sub_cancel_left]
        rfl
      rw [ec] at k2
      have hR4 := C.2.2.2.2.2.2.2.1.1 a _ hst
      rw [← ho] at hR4
      exact va_ldcS hx hb hown hR4 hd k2
  case ldc_w i =>
    obtain rfl : len = 3 := by simpa [mLok, mIl] using hlen
    intro H locs ls hw hQ hv h0 h1
    exact lv_ldcw hx hb hown (hts _ he) hd (k H locs ls hw hQ hv h0 h1)
  case ldc2_w i =>
    obtain rfl : len = 3 := by simpa [mLok, mIl] using hlen
    intro H locs ls hw hQ hv h0 h1
    exact lv_ldc2 hx hb hown (hts _ he) hd (k H locs ls hw hQ hv h0 h1)
  case iload i =>
    obtain rfl : len = 2 := by simpa [mLok, mIl] using hlen
    exact so_ld hok k (fun _ x H locs cells slots ls rest hl kk => lv_iload hx hb hd hl kk) (fun z => by cases z) (fun z => by cases z)
  case iload_n i =>
    obtain rfl : len = 1 := by simpa [mLok, mIl] using hlen
    exact so_ld hok k (fun _ x H locs cells slots ls rest hl kk => lv_iload_n hx hb hd rfl hl kk) (fun z => by cases z) (fun z => by cases z)
  case aload i =>
    obtain rfl : len = 2 := by simpa [mLok, mIl] using hlen
    exact so_ld hok k (fun z => by cases z) (fun _ x H locs cells slots ls rest hl kk => so_aload hx hb hd hl kk) (fun z => by cases z)
  case aload_n i =>
    obtain rfl : len = 1 := by simpa [mLok, mIl] using hlen
    exact so_ld hok k (fun z => by cases z) (fun _ x H locs cells slots ls rest hl kk => so_aload_n hx hb hd hl kk) (fun z => by cases z)
  case lload i =>
    obtain rfl : len = 2 := by simpa [mLok, mIl] using hlen
    exact so_ld hok k (fun z => by cases z) (fun z => by cases z) (fun _ x H locs cells slots ls rest hl kk => lv_lload hx hb hd hl kk)
  case lload_n i =>
    obtain rfl : len = 1 := by simpa [mLok, mIl] using hlen
    exact so_ld hok k (fun z => by cases z) (fun z => by cases z) (fun _ x H locs cells slots ls rest hl kk => lv_lload_n hx hb hd rfl hl kk)
  case istore i =>
    obtain rfl : len = 2 := by simpa [mLok, mIl] using hlen
    exact so_sto (of_decide_eq_true hsta) (fun z => by cases z) hok k (fun _ hn x H locs cells slots ls rest lv hl kk => lv_istore hx hb hd hl hn rfl kk) (fun z => by cases z) (fun z => by cases z)
  case istore_n i =>
    obtain rfl : len = 1 := by simpa [mLok, mIl] using hlen
    exact so_sto (of_decide_eq_true hsta) (fun z => by cases z) hok k (fun _ hn x H locs cells slots ls rest lv hl kk => lv_istore_n hx hb hd rfl hl hn rfl kk) (fun z => by cases z) (fun z => by cases z)
  case astore i =>
    obtain rfl : len = 2 := by simpa [mLok, mIl] using hlen
    exact so_sto (of_decide_eq_true hsta) (fun z => by cases z) hok k (fun z => by cases z) (fun _ hn x H locs cells slots ls rest lv hl kk => so_astore hx hb hd hn hl kk) (fun z => by cases z)
  case astore_n i =>
    obtain rfl : len = 1 := by simpa [mLok, mIl] using hlen
    exact so_sto (of_decide_eq_true hsta) (fun z => by cases z) hok k (fun z => by cases z) (fun _ hn x H locs cells slots ls rest lv hl kk => so_astore_n hx hb hd hn hl kk) (fun z => by cases z)
  case lstore i =>
    obtain rfl : len = 2 := by simpa [mLok, mIl] using hlen
    exact so_sto (Nat.lt_of_succ_lt (of_decide_eq_true hsta)) (fun _ => of_decide_eq_true hsta) hok k (fun z => by cases z) (fun z => by cases z) (fun _ hn x H locs cells slots ls rest lv hl kk => lv_lstore hx hb hd hl hn rfl kk)
  case lstore_n i =>
    obtain rfl : len = 1 := by simpa [mLok, mIl] using hlen
    exact so_sto (Nat.lt_of_succ_lt (of_decide_eq_true hsta)) (fun _ => of_decide_eq_true hsta) hok k (fun z => by cases z) (fun z => by cases z) (fun _ hn x H locs cells slots ls rest lv hl kk => lv_lstore_n hx hb hd rfl hl hn rfl kk)
  case iinc i n =>
    obtain rfl : len = 3 := by simpa [mLok, mIl] using hlen
    have hok2 : (match L.getD i (.retAddr 0) with
      | .int x => ((ok, pc0 + 3, (mFix L i).set i (.int (x + Int32.ofInt n)), st, h) : mC)
      | _ => mBad h).1 = true := hok
    have k2 : mW p l e R s m args below meth c G nL n0 w0 Q (match L.getD i (.retAddr 0) with
      | .int x => ((ok, pc0 + 3, (mFix L i).set i (.int (x + Int32.ofInt n)), st, h) : mC)
      | _ => mBad h) := k
    split at hok2
    · rename_i x ex
      rw [ex] at k2
      intro H locs ls hw hQ hv h0 h1
      have hil : i < L.length := by
        rcases Nat.lt_or_ge i L.length with z | z
        · exact z
        · rw [show L.getD i (.retAddr 0) = .retAddr 0 by simp [List.getD, List.getElem?_eq_none z]] at ex
          cases ex
      have hmem : (i, Value.int x) ∈ mLv G L := mLv_mem.mpr ⟨.int x, hil, ex, (fun n z => by cases z), rfl⟩
      obtain ⟨kx, hkx⟩ := List.getElem?_of_mem hmem
      exact lv_iinc hx hb hd hv hkx rfl (of_decide_eq_true hsta) rfl (fun ls' hl' => k2 H locs ls' hw hQ (mLv_set (v := .int (x + Int32.ofInt n)) hl') h0 h1)
    · cases hok2
  case dup =>
    obtain rfl : len = 1 := by simpa [mLok, mIl] using hlen
    have hok2 : (c_dup nL fin nM wM pc0 a b ok L st h).1 = true := hok
    have k2 : mW p l e R s m args below meth c G nL n0 w0 Q (c_dup nL fin nM wM pc0 a b ok L st h) := k
    unfold c_dup at hok2 k2
    split at hok2
    · intro H locs ls hw hQ hv h0 h1
      exact lv_dup hx hb hd (by rw [mCv_cat]; rfl) (k2 H locs ls hw hQ hv h0 h1)
    · intro H locs ls hw hQ hv h0 h1
      exact lv_dup hx hb hd (by rw [mCv_cat]; rfl) (k2 H locs ls hw hQ hv h0 h1)
    · cases hok2
  case pop =>
    obtain rfl : len = 1 := by simpa [mLok, mIl] using hlen
    have hok2 : (c_pop nL fin nM wM pc0 a b ok L st h).1 = true := hok
    have k2 : mW p l e R s m args below meth c G nL n0 w0 Q (c_pop nL fin nM wM pc0 a b ok L st h) := k
    unfold c_pop at hok2 k2
    split at hok2
    · intro H locs ls hw hQ hv h0 h1
      exact lv_pop hx hb hd (by rw [mCv_cat]; rfl) (k2 H locs ls hw hQ hv h0 h1)
    · intro H locs ls hw hQ hv h0 h1
      exact lv_pop hx hb hd (by rw [mCv_cat]; rfl) (k2 H locs ls hw hQ hv h0 h1)
    · cases hok2
  case dup2 =>
    obtain rfl : len = 1 := by simpa [mLok, mIl] using hlen
    have hok2 : (c_dup2 nL fin nM wM pc0 a b ok L st h).1 = true := hok
    have k2 : mW p l e R s m args below meth c G nL n0 w0 Q (c_dup2 nL fin nM wM pc0 a b ok L st h) := k
    unfold c_dup2 at hok2 k2
    split at hok2
    · intro H locs ls hw hQ hv h0 h1
      exact lv_dup2_11 hx hb hd (by rw [mCv_cat]; rfl) (by rw [mCv_cat]; rfl) (k2 H locs ls hw hQ hv h0 h1)
    · cases hok2
  case idiv =>
    obtain rfl : len = 1 := by simpa [mLok, mIl] using hlen
    obtain ⟨y, x, r, rfl⟩ := mU2_ok (st := st) hok rfl
    have hok2 : (decide (¬ y = 0) && ok) = true := hok
    simp only [Bool.and_eq_true, decide_eq_true_eq] at hok2
    intro H locs ls hw hQ hv h0 h1
    exact lv_idiv hx hb hd hok2.1 (k H locs ls hw hQ hv h0 h1)
  case irem =>
    obtain rfl : len = 1 := by simpa [mLok, mIl] using hlen
    obtain ⟨y, x, r, rfl⟩ := mU2_ok (st := st) hok rfl
    have hok2 : (decide (¬ y = 0) && ok) = true := hok
    simp only [Bool.and_eq_true, decide_eq_true_eq] at hok2
    intro H locs ls hw hQ hv h0 h1
    exact lv_irem hx hb hd hok2.1 (k H locs ls hw hQ hv h0 h1)
  case iadd =>
    obtain rfl : len = 1 := by simpa [mLok, mIl] using hlen
    obtain ⟨y, x, r, rfl⟩ := mU2_ok (st := st) hok rfl
    intro H locs ls hw hQ hv h0 h1
    exact lv_iadd hx hb hd (k H locs ls hw hQ hv h0 h1)
  case isub =>
    obtain rfl : len = 1 := by simpa [mLok, mIl] using hlen
    obtain ⟨y, x, r, rfl⟩ := mU2_ok (st := st) hok rfl
    intro H locs ls hw hQ hv h0 h1
    exact lv_isub hx hb hd (k H locs ls hw hQ hv h0 h1)
  case imul =>
    obtain rfl : len = 1 := by simpa [mLok, mIl] using hlen
    obtain ⟨y, x, r, rfl⟩ := mU2_ok (st := st) hok rfl
    intro H locs ls hw hQ hv h0 h1
    exact lv_imul hx hb hd (k H locs ls hw hQ hv h0 h1)
  case iand =>
    obtain rfl : len = 1 := by simpa [mLok, mIl] using hlen
    obtain ⟨y, x, r, rfl⟩ := mU2_ok (st := st) hok rfl
    intro H locs ls hw hQ hv h0 h1
    exact lv_iand hx hb hd (k H locs ls hw hQ hv h0 h1)
  case ior =>
    obtain rfl : len = 1 := by simpa [mLok, mIl] using hlen
    obtain ⟨y, x, r, rfl⟩ := mU2_ok (st := st) hok rfl
    intro H locs ls hw hQ hv h0 h1
    exact lv_ior hx hb hd (k H locs ls hw hQ hv h0 h1)
  case ixor =>
    obtain rfl : len = 1 := by simpa [mLok, mIl] using hlen
    obtain ⟨y, x, r, rfl⟩ := mU2_ok (st := st) hok rfl
    intro H locs ls hw hQ hv h0 h1
    exact lv_ixor hx hb hd (k H locs ls hw hQ hv h0 h1)
  case ishl =>
    obtain rfl : len = 1 := by simpa [mLok, mIl] using hlen
    obtain ⟨y, x, r, rfl⟩ := mU2_ok (st := st) hok rfl
    intro H locs ls hw hQ hv h0 h1
    exact lv_ishl hx hb hd (k H locs ls hw hQ hv h0 h1)
  case ishr =>
    obtain rfl : len = 1 := by simpa [mLok, mIl] using hlen
    obtain ⟨y, x, r, rfl⟩ := mU2_ok (st := st) hok rfl
    intro H locs ls hw hQ hv h0 h1
    exact lv_ishr hx hb hd (k H locs ls hw hQ hv h0 h1)
  case ladd =>
    obtain rfl : len = 1 := by simpa [mLok, mIl] using hlen
    obtain ⟨y, x, r, rfl⟩ := mUll_ok (st := st) hok rfl
    intro H locs ls hw hQ hv h0 h1
    exact lv_ladd hx hb hd (k H locs ls hw hQ hv h0 h1)
  case lmul =>
    obtain rfl : len = 1 := by simpa [mLok, mIl] using hlen
    obtain ⟨y, x, r, rfl⟩ := mUll_ok (st := st) hok rfl
    intro H locs ls hw hQ hv h0 h1
    exact lv_lmul hx hb hd (k H locs ls hw hQ hv h0 h1)
  case lor =>
    obtain rfl : len = 1 := by simpa [mLok, mIl] using hlen
    obtain ⟨y, x, r, rfl⟩ := mUll_ok (st := st) hok rfl
    intro H locs ls hw hQ hv h0 h1
    exact lv_lor hx hb hd (k H locs ls hw hQ hv h0 h1)
  case lcmp =>
    obtain rfl : len = 1 := by simpa [mLok, mIl] using hlen
    obtain ⟨y, x, r, rfl⟩ := mUll_ok (st := st) hok rfl
    intro H locs ls hw hQ hv h0 h1
    exact W.lcmp hx hb hd (k H locs ls hw hQ hv h0 h1)
  case i2l =>
    obtain rfl : len = 1 := by simpa [mLok, mIl] using hlen
    obtain ⟨x, r, rfl⟩ := mU1_ok (st := st) hok rfl
    intro H locs ls hw hQ hv h0 h1
    exact lv_i2l hx hb hd rfl (k H locs ls hw hQ hv h0 h1)
  case i2b =>
    obtain rfl : len = 1 := by simpa [mLok, mIl] using hlen
    obtain ⟨x, r, rfl⟩ := mU1_ok (st := st) hok rfl
    intro H locs ls hw hQ hv h0 h1
    exact lv_i2b hx hb hd rfl (k H locs ls hw hQ hv h0 h1)
  case i2c =>
    obtain rfl : len = 1 := by simpa [mLok, mIl] using hlen
    obtain ⟨x, r, rfl⟩ := mU1_ok (st := st) hok rfl
    intro H locs ls hw hQ hv h0 h1
    exact lv_i2c hx hb hd rfl (k H locs ls hw hQ hv h0 h1)
  case iushr =>
    obtain rfl : len = 1 := by simpa [mLok, mIl] using hlen
    obtain ⟨y, x, r, rfl⟩ := mU2_ok (st := st) hok rfl
    intro H locs ls hw hQ hv h0 h1
    exact lv_iushr hx hb hd rfl (k H locs ls hw hQ hv h0 h1)
  case lshl =>
    obtain rfl : len = 1 := by simpa [mLok, mIl] using hlen
    obtain ⟨y, r, rfl⟩ := mU1_ok (st := st) hok rfl
    obtain ⟨x, r, rfl⟩ := mUl_ok (st := r) (bad := mBad h) hok rfl
    intro H locs ls hw hQ hv h0 h1
    exact lv_lshl hx hb hd rfl (k H locs ls hw hQ hv h0 h1)
  case goto off =>
    obtain rfl : len = 3 := by simpa [mLok, mIl] using hlen
    intro H locs ls hw hQ hv h0 h1
    exact lv_goto hx hb hd (mTk_ok hsta) (k H locs ls hw hQ hv h0 h1)
  case if_icmp cnd off =>
    obtain rfl : len = 3 := by simpa [mLok, mIl] using hlen
    obtain ⟨y, x, r, rfl⟩ := mU2_ok (st := st) hok rfl
    intro H locs ls hw hQ hv h0 h1
    exact so_icmp hx hb hd (mTk_ok hsta) (k H locs ls hw hQ hv h0 h1)
  case ifCond cnd off =>
    obtain rfl : len = 3 := by simpa [mLok, mIl] using hlen
    obtain ⟨x, r, rfl⟩ := mU1_ok (st := st) hok rfl
    intro H locs ls hw hQ hv h0 h1
    exact so_icnd hx hb hd (mTk_ok hsta) (k H locs ls hw hQ hv h0 h1)
  case aconst_null =>
    obtain rfl : len = 1 := by simpa [mLok, mIl] using hlen
    intro H locs ls hw hQ hv h0 h1
    have k1 := k H locs ls hw hQ hv h0 h1
    have ec : mCv G (.ref NUL) = .null := by
      show va_rf (mRo G NUL) = _
      unfold mRo
      rw [if_pos rfl]
      rfl
    have k2 : W p l e R s m args below meth c H locs (hN h - n0) (hW h - w0) Q (F0 m (pc0 + 1) ls (mCv G (.ref NUL) :: st.map (mCv G))) := k1
    rw [ec] at k2
    exact lv_null hx hb hd k2
  case ifnull off =>
    obtain rfl : len = 3 := by simpa [mLok, mIl] using hlen
    obtain ⟨x, r, rfl⟩ := mUr_ok (st := st) hok rfl
    intro H locs ls hw hQ hv h0 h1
    exact so_ifnull hx hb hd (mTk_ok hsta) (k H locs ls hw hQ hv h0 h1)
  case tableswitch d lo hi os =>
    obtain ⟨x, r, rfl⟩ := mU1_ok (st := st) hok rfl
    have hok2 : ((d :: os.toList).all (fun o => mTk pc0 o) && (decide (hi - lo + 1 = (os.toList.length : Int)) && decide (-2147483648 ≤ lo ∧ hi ≤ 2147483647))) = true := hsta
    simp only [Bool.and_eq_true, decide_eq_true_eq] at hok2
    obtain ⟨g1, g2, g3⟩ := hok2
    rw [List.all_eq_true] at g1
    intro H locs ls hw hQ hv h0 h1
    have k1 := k H locs ls hw hQ hv h0 h1
    have k2 : W p l e R s m args below meth c H locs (hN h - n0) (hW h - w0) Q (F0 m (mTab pc0 os.toList lo d x) ls (r.map (mCv G))) := k1
    by_cases hin : x.toInt < lo ∨ hi < x.toInt
    · rw [mTab_out os.toList lo g3.1 (by omega) (by omega)] at k2
      exact lv_tableOut hx hb hd hin (mTk_ok (g1 d List.mem_cons_self)) k2
    · obtain ⟨o, q1, q2⟩ := mTab_in (pc := pc0) (d := d) (x := x) os.toList lo g3.1 (by omega) (by omega) (by omega)
      rw [q2] at k2
      exact lv_tableIn hx hb hd (by omega) (by omega) (by rw [← Array.getElem?_toList]; exact q1) (mTk_ok (g1 o (List.mem_cons_of_mem _ (List.mem_of_getElem? q1)))) k2
  case lookupswitch d ps =>
    obtain ⟨x, r, rfl⟩ := mU1_ok (st := st) hok rfl
    have hok2 : ((d :: ps.toList.map (fun q => q.2)).all (fun o => mTk pc0 o) && (ps.toList.zip (ps.toList.drop 1)).all (fun (a, next) => a.1 < next.1)) = true := hsta
    rw [Bool.and_eq_true, List.all_eq_true] at hok2
    intro H locs ls hw hQ hv h0 h1
    obtain ⟨g1, g2⟩ := mLkp_eq (pc := pc0) (d := d) (x := x) ps.toList
    have k1 := k H locs ls hw hQ hv h0 h1
    have k2 : W p l e R s m args below meth c H locs (hN h - n0) (hW h - w0) Q (F0 m (mLkp pc0 ps.toList d x) ls (r.map (mCv G))) := k1
    rw [g1] at k2
    refine lv_lookup hx hb hd hok2.2 rfl (mTk_ok (hok2.1 _ ?_)) k2
    rcases g2 with g2 | g2
    · rw [g2]; exact List.mem_cons_self
    · exact List.mem_cons_of_mem _ g2
  case getfield i =>
    obtain rfl : len = 3 := by simpa [mLok, mIl] using hlen
    obtain ⟨r, t, rfl⟩ := mUr_ok (st := st) hok rfl
    have hok2 : (chO h r a && ok) = true := hok
    rw [Bool.and_eq_true] at hok2
    obtain ⟨g1, g2⟩ := chO_ok hok2.1
    exact so_get C hd he g1 g2 (of_decide_eq_true hsta) k
  case putfield i =>
    obtain rfl : len = 3 := by simpa [mLok, mIl] using hlen
    obtain ⟨v, r, t, rfl⟩ := mUvr_ok (st := st) hok rfl
    have hsta2 : (decide (b < mNf a) && (!(mFin a b) || fin)) = true := hsta
    rw [Bool.and_eq_true] at hsta2
    have hbn := of_decide_eq_true hsta2.1
    have hok2 : (mPutB (mTy a b) v ok pc0 L t h r a b).1 = true := hok
    have k2 : mW p l e R s m args below meth c G nL n0 w0 Q (mPutB (mTy a b) v ok pc0 L t h r a b) := k
    unfold mPutB at hok2 k2
    split at hok2
    · rename_i x ht
      rw [ht] at k2
      rw [Bool.and_eq_true] at hok2
      obtain ⟨g1, g2⟩ := chO_ok hok2.1
      exact so_put C hd he g1 g2 hbn hsta2.2 (mPF_I ht (Or.inl rfl) g2 rfl) k2
    · rename_i x ht
      rw [ht] at k2
      rw [Bool.and_eq_true, Bool.and_eq_true] at hok2
      obtain ⟨g1, g2⟩ := chO_ok hok2.2.1
      exact so_put C hd he g1 g2 hbn hsta2.2 (mPF_I ht (Or.inr (Or.inl rfl)) g2 hok2.1) k2
    · rename_i x ht
      rw [ht] at k2
      rw [Bool.and_eq_true, Bool.and_eq_true] at hok2
      obtain ⟨g1, g2⟩ := chO_ok hok2.2.1
      exact so_put C hd he g1 g2 hbn hsta2.2 (mPF_I ht (Or.inr (Or.inr rfl)) g2 hok2.1) k2
    · rename_i x ht
      rw [ht] at k2
      rw [Bool.and_eq_true] at hok2
      obtain ⟨g1, g2⟩ := chO_ok hok2.1
      exact so_put C hd he g1 g2 hbn hsta2.2 (mPF_J ht g2) k2
    · rename_i n x ht
      rw [ht] at k2
      rw [Bool.and_eq_true] at hok2
      obtain ⟨g1, g2⟩ := chO_ok hok2.1
      exact so_put C hd he g1 g2 hbn hsta2.2 (mPF_R (Or.inl ⟨_, ht⟩) g2) k2
    · rename_i n x ht
      rw [ht] at k2
      rw [Bool.and_eq_true] at hok2
      obtain ⟨g1, g2⟩ := chO_ok hok2.1
      exact so_put C hd he g1 g2 hbn hsta2.2 (mPF_R (Or.inr ⟨_, ht⟩) g2) k2
    · cases hok2
  case iaload =>
    obtain rfl : len = 1 := by simpa [mLok, mIl] using hlen
    obtain ⟨i, r, t, rfl⟩ := mUir_ok (st := st) hok rfl
    have hok2 : (chI h r i && ok) = true := hok
    rw [Bool.and_eq_true] at hok2
    obtain ⟨g1, n, g2, g3⟩ := chI_ok hok2.1
    exact so_iald C hd g1 g2 g3 k
  case baload =>
    obtain rfl : len = 1 := by simpa [mLok, mIl] using hlen
    obtain ⟨i, r, t, rfl⟩ := mUir_ok (st := st) hok rfl
    have hok2 : (chB h r i && ok) = true := hok
    rw [Bool.and_eq_true] at hok2
    obtain ⟨g1, n, g2, g3⟩ := chB_ok hok2.1
    exact so_bald C hd g1 g2 g3 k
  case laload =>
    obtain rfl : len = 1 := by simpa [mLok, mIl] using hlen
    obtain ⟨i, r, t, rfl⟩ := mUir_ok (st := st) hok rfl
    have hok2 : (chJ h r i && ok) = true := hok
    rw [Bool.and_eq_true] at hok2
    obtain ⟨g1, n, g2, g3⟩ := chJ_ok hok2.1
    exact so_lald C hd g1 g2 g3 k
  case aaload =>
    obtain rfl : len = 1 := by simpa [mLok, mIl] using hlen
    obtain ⟨i, r, t, rfl⟩ := mUir_ok (st := st) hok rfl
    have hok2 : (chR h r i && ok) = true := hok
    rw [Bool.and_eq_true] at hok2
    obtain ⟨g1, n, g2, g3⟩ := chR_ok hok2.1
    exact so_aald C hd g1 g2 g3 k
  case iastore =>
    obtain rfl : len = 1 := by simpa [mLok, mIl] using hlen
    obtain ⟨v, i, r, t, rfl⟩ := mUxir_ok (st := st) hok rfl
    cases v with
    | int x =>
      have hok2 : (chI h r i && ok) = true := hok
      rw [Bool.and_eq_true] at hok2
      obtain ⟨g1, n, g2, g3⟩ := chI_ok hok2.1
      exact so_iast C hd g1 g2 g3 k
    | _ => cases hok
  case bastore =>
    obtain rfl : len = 1 := by simpa [mLok, mIl] using hlen
    obtain ⟨v, i, r, t, rfl⟩ := mUxir_ok (st := st) hok rfl
    cases v with
    | int x =>
      have hok2 : (chB h r i && ok) = true := hok
      rw [Bool.and_eq_true] at hok2
      obtain ⟨g1, n, g2, g3⟩ := chB_ok hok2.1
      exact so_bast C hd g1 g2 g3 k
    | _ => cases hok
  case lastore =>
    obtain rfl : len = 1 := by simpa [mLok, mIl] using hlen
    obtain ⟨v, i, r, t, rfl⟩ := mUxir_ok (st := st) hok rfl
    cases v with
    | long x =>
      have hok2 : (chJ h r i && ok) = true := hok
      rw [Bool.and_eq_true] at hok2
      obtain ⟨g1, n, g2, g3⟩ := chJ_ok hok2.1
      exact so_last C hd g1 g2 g3 k
    | _ => cases hok
  case arraylength =>
    obtain rfl : len = 1 := by simpa [mLok, mIl] using hlen
    obtain ⟨r, t, rfl⟩ := mUr_ok (st := st) hok rfl
    have hok2 : (chL h r && ok) = true := hok
    rw [Bool.and_eq_true] at hok2
    obtain ⟨g1, g2⟩ := chL_ok hok2.1
    exact so_alen C hd g1 g2 k
  case invokestatic i =>
    obtain rfl : len = 3 := by simpa [mLok, mIl] using hlen
    have hok2 : (c_invokestatic nL fin nM wM pc0 a b ok L st h).1 = true := hok
    have k2 : mW p l e R s m args below meth c G nL n0 w0 Q (c_invokestatic nL fin nM wM pc0 a b ok L st h) := k
    unfold c_invokestatic at hok2 k2
    cases hb7 : Nat.beq b 7777
    · rw [hb7] at hok2
      cases hok2
    · rw [hb7] at hok2 k2
      simp only [cond_true] at hok2 k2
      split at hok2
      · rw [Bool.and_eq_true] at hok2
        exact so_copy C hd (he (Nat.eq_of_beq_eq_true hb7)) hok2.1 k2
      · cases hok2
  case invokespecial i =>
    obtain rfl : len = 3 := by simpa [mLok, mIl] using hlen
    have hok2 : (c_invokespecial nL fin nM wM pc0 a b ok L st h).1 = true := hok
    have k2 : mW p l e R s m args below meth c G nL n0 w0 Q (c_invokespecial nL fin nM wM pc0 a b ok L st h) := k
    unfold c_invokespecial at hok2 k2
    cases hb8 : Nat.beq b 8888
    · rw [hb8] at hok2
      cases hok2
    · rw [hb8] at hok2 k2
      simp only [cond_true] at hok2 k2
      split at hok2
      · rename_i r
        rw [Bool.and_eq_true] at hok2
        intro H locs ls hw hQ hv h0 h1
        show W p l e R s m args below meth c H locs _ _ Q (F0 m pc0 ls (mCv G (.ref r) :: []))
        rw [mCv_ref (Nat.lt_of_lt_of_le (Nat.blt_eq.mp hok2.1) hw.2)]
        exact W.objInit hx hb hown (hts _ (he (Nat.eq_of_beq_eq_true hb8))) (hts _ mw_obj.1) (hts _ mw_obj.2) rfl (by rw [C.2.2.1]; exact hv.1) rfl hd C.2.2.2.2.2.2.2.2.2.1.1 (by show 2 * 0 + 0 + 12 ≤ R.locals; have := C.2.2.2.2.2.2.2.2.2.1.2; omega) (k2 H locs ls hw hQ hv h0 h1)
      · cases hok2
  case newarray ty =>
    obtain rfl : len = 2 := by simpa [mLok, mIl] using hlen
    obtain ⟨n, r, rfl⟩ := mU1_ok (st := st) hok rfl
    have hok2 : (!(decide (n < 0)) && (decide (mIx n ≤ 60000000) && (decide (hN h + 1 ≤ nM) && (decide (hW h + mIx n ≤ wM) && ok)))) = true := hok
    simp only [Bool.and_eq_true, Bool.not_eq_true', decide_eq_true_eq, decide_eq_false_iff_not] at hok2
    exact so_newa C hd he.1 he.2 hok2.1 hok2.2.1 hok2.2.2.1 hok2.2.2.2.1 k
  case new i =>
    obtain rfl : len = 3 := by simpa [mLok, mIl] using hlen
    have hok2 : (decide (hN h + 1 ≤ nM) && (decide (hW h + mNf a ≤ wM) && ok)) = true := hok
    simp only [Bool.and_eq_true, decide_eq_true_eq] at hok2
    exact so_new C hd he hok2.1 hok2.2.1 k
  case multianewarray i d =>
    obtain rfl : len = 4 := by simpa [mLok, mIl] using hlen
    obtain ⟨kk, n, r, rfl⟩ := mU2_ok (st := st) hok rfl
    have hok2 : (decide (d = 2) && (!(decide (n < 0)) && (!(decide (kk < 0)) && (decide (mIx n ≤ 60000000) && (decide (mIx kk ≤ 60000000) && (decide (hN h + 1 + mIx n ≤ nM) && (decide (hW h + mIx n + mIx n * mIx kk ≤ wM) && ok))))))) = true := hok
    simp only [Bool.and_eq_true, Bool.not_eq_true', decide_eq_true_eq, decide_eq_false_iff_not] at hok2
    obtain ⟨q0, q1, q2, q3, q4, q5, q6, -⟩ := hok2
    subst q0
    exact so_mna C hd he q1 q2 q3 q4 q5 q6 k
  all_goals cases hok
end SD
