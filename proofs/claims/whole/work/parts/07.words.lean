/-! the words of the classes' fields are among the tables' -/
set_option maxRecDepth 100000 in
theorem uwX0 : ∀ w ∈ u_ws RX0 TX0 5, w ∈ mTb := by decide +kernel
set_option maxRecDepth 100000 in
theorem uwX1 : ∀ w ∈ u_ws RX1 TX1 4, w ∈ mTb := by decide +kernel
set_option maxRecDepth 100000 in
theorem uwX2 : ∀ w ∈ u_ws RX2 TX2 6, w ∈ mTb := by decide +kernel
set_option maxRecDepth 100000 in
theorem uwX3 : ∀ w ∈ u_ws RX3 TX3 9, w ∈ mTb := by decide +kernel
set_option maxRecDepth 100000 in
theorem uwX4 : ∀ w ∈ u_ws RX4 TX4 10, w ∈ mTb := by decide +kernel
set_option maxRecDepth 100000 in
theorem uwX5 : ∀ w ∈ u_ws RX5 TX5 6, w ∈ mTb := by decide +kernel
set_option maxRecDepth 100000 in
theorem uwX6 : ∀ w ∈ u_ws RX6 TX6 9, w ∈ mTb := by decide +kernel
set_option maxRecDepth 100000 in
theorem uwX7 : ∀ w ∈ u_ws RX7 TX7 5, w ∈ mTb := by decide +kernel
set_option maxRecDepth 100000 in
theorem uwX8 : ∀ w ∈ u_ws RX8 TX8 12, w ∈ mTb := by decide +kernel
set_option maxRecDepth 100000 in
theorem uwX9 : ∀ w ∈ u_ws RX9 TX9 3, w ∈ mTb := by decide +kernel
set_option maxRecDepth 100000 in
theorem uwX10 : ∀ w ∈ u_ws RX10 TX10 15, w ∈ mTb := by decide +kernel
set_option maxRecDepth 100000 in
theorem uwX11 : ∀ w ∈ u_ws RX11 TX11 15, w ∈ mTb := by decide +kernel
set_option maxRecDepth 100000 in
theorem uwX12 : ∀ w ∈ u_ws RX12 TX12 73, w ∈ mTb := by decide +kernel
theorem mCl_in {a : Nat} {r : vw_C} (h : vwCl[a]? = some r) : ∀ w ∈ u_ws r.1 r.2.1 r.2.2, w ∈ mTb := by
  match a, h with
  | 0, h => cases h; exact uwX0
  | 1, h => cases h; exact uwX1
  | 2, h => cases h; exact uwX2
  | 3, h => cases h; exact uwX3
  | 4, h => cases h; exact uwX4
  | 5, h => cases h; exact uwX5
  | 6, h => cases h; exact uwX6
  | 7, h => cases h; exact uwX7
  | 8, h => cases h; exact uwX8
  | 9, h => cases h; exact uwX9
  | 10, h => cases h; exact uwX10
  | 11, h => cases h; exact uwX11
  | 12, h => cases h; exact uwX12
  | n + 13, h => cases h
set_option maxRecDepth 100000 in
theorem mTy_nf0 : ∀ a, a < 13 → ∀ k, k < mNf a → (mTy a k ≠ .float ∧ mTy a k ≠ .double) := by decide +kernel
theorem mCl_lt {a : Nat} {r : vw_C} (h : vwCl[a]? = some r) : a < 13 := by
  have := (List.getElem?_eq_some_iff.mp h).1
  exact this
