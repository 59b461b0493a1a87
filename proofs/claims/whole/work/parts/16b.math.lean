/-! Math.max, Math.min: rules of their own (the model has them apart). -/
set_option maxRecDepth 100000 in
theorem mw_math : (Cond.static Lib.Math.max.name ∈ mTb ∧ Cond.code Lib.Math.max.name Lib.Math.max.code 2 (some .int) ∈ mTb) ∧ (Cond.static Lib.Math.min.name ∈ mTb ∧ Cond.code Lib.Math.min.name Lib.Math.min.code 2 (some .int) ∈ mTb) ∧ Cond.initialized "java/lang/Math" ∈ mTb := by decide +kernel
section SQ
variable {p : Program} {l : Launch} {e : Env} {R : Room} {s : State} {m : MethodId} {args : Array Value} {below : List Frame} {meth : Method} {c : Code} {Q : State → Prop} {cc : ByteArray} {own : String} {G : mG} {nL n0 w0 nM wM : Nat} {fin : Bool}
theorem so_max (C : mCx p R s m args meth c G cc own nL fin nM wM n0 w0) {i pc : Nat} {x y : Int32} {ok ok' : Bool} {L t : List Value} {h : mHp} (hd : decode cc pc = .ok (.invokestatic i, 3)) (he : Cond.methodLink own i Lib.Math.max.name ∈ mTb) (hcat : (t.map fun v => v.category).sum ≤ 8) (hn : hN h ≤ nM) (hm : hW h ≤ wM)
    (k : mW p l e R s m args below meth c G nL n0 w0 Q (ok', pc + 3, L, .int (if x < y then y else x) :: t, h)) : mW p l e R s m args below meth c G nL n0 w0 Q (ok, pc, L, .int y :: .int x :: t, h) := by
  obtain ⟨hx, hcb, hml, hown, hts, hK, hsz, hX, hnm, hfr, hfin⟩ := C
  intro H locs ls hw hQ hv h0 h1
  have h0 : n0 ≤ hN h := h0
  have h1 : w0 ≤ hW h := h1
  exact va_mmax hx hcb (by rw [hml]; exact hv.1.symm) hown (hts _ he) (hts _ mw_math.1.1) (hts _ mw_math.2.2) (hts _ mw_math.1.2) hfr.1 (by rw [mCv_cats]; omega) (by show hN h - n0 ≤ R.cells; omega) (by show hW h - w0 ≤ R.slots; omega) hd (k H locs ls hw hQ hv h0 h1)
theorem so_min (C : mCx p R s m args meth c G cc own nL fin nM wM n0 w0) {i pc : Nat} {x y : Int32} {ok ok' : Bool} {L t : List Value} {h : mHp} (hd : decode cc pc = .ok (.invokestatic i, 3)) (he : Cond.methodLink own i Lib.Math.min.name ∈ mTb) (hcat : (t.map fun v => v.category).sum ≤ 8) (hn : hN h ≤ nM) (hm : hW h ≤ wM)
    (k : mW p l e R s m args below meth c G nL n0 w0 Q (ok', pc + 3, L, .int (if y < x then y else x) :: t, h)) : mW p l e R s m args below meth c G nL n0 w0 Q (ok, pc, L, .int y :: .int x :: t, h) := by
  obtain ⟨hx, hcb, hml, hown, hts, hK, hsz, hX, hnm, hfr, hfin⟩ := C
  intro H locs ls hw hQ hv h0 h1
  have h0 : n0 ≤ hN h := h0
  have h1 : w0 ≤ hW h := h1
  exact va_mmin hx hcb (by rw [hml]; exact hv.1.symm) hown (hts _ he) (hts _ mw_math.2.1.1) (hts _ mw_math.2.2) (hts _ mw_math.2.1.2) hfr.1 (by rw [mCv_cats]; omega) (by show hN h - n0 ≤ R.cells; omega) (by show hW h - w0 ≤ R.slots; omega) hd (k H locs ls hw hQ hv h0 h1)
end SQ
