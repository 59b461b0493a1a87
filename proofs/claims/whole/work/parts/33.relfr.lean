/-- the relation doesn't look at the other cells -/
theorem Rel_fr {k : Nat} {b : Bool} {S S' : mT} (h : Rel k b S) (F : Fr (inM 999999 (scr b)) S S') : Rel k b S' := by
  obtain ⟨n, h1, h2, h3, ⟨f0, f1, f2⟩, h5, h6, h7, h8, h9, h10, h11, h12, h13⟩ := h
  have e2 : S'.1 2 = S.1 2 := F.row (by cases b <;> rfl) (by omega)
  have e188 : S'.1 188 = S.1 188 := F.row (by cases b <;> rfl) (by omega)
  have e205 : S'.1 205 = S.1 205 := F.row (by cases b <;> rfl) (by omega)
  have e206 : S'.1 206 = S.1 206 := F.row (by cases b <;> rfl) (by omega)
  have e207 : S'.1 207 = S.1 207 := F.row (by cases b <;> rfl) (by omega)
  have e195 : S'.1 195 = S.1 195 := F.row (by cases b <;> rfl) (by omega)
  have e193 : S'.1 193 = S.1 193 := F.row (by cases b <;> rfl) (by omega)
  have e194 : S'.1 194 = S.1 194 := F.row (by cases b <;> rfl) (by omega)
  have e199 : S'.1 199 = S.1 199 := F.row (by cases b <;> rfl) (by omega)
  have e35 : S'.1 35 = S.1 35 := F.row (by cases b <;> rfl) (by omega)
  have e208 : S'.1 208 = S.1 208 := F.row (by cases b <;> rfl) (by omega)
  have e212 : S'.1 212 = S.1 212 := F.row (by cases b <;> rfl) (by omega)
  have e84 : S'.1 84 = S.1 84 := F.row (by cases b <;> rfl) (by omega)
  have e231 : S'.1 231 = S.1 231 := F.row (by cases b <;> rfl) (by omega)
  have e232 : S'.1 232 = S.1 232 := F.row (by cases b <;> rfl) (by omega)
  have e115 : S'.1 115 = S.1 115 := F.row (by cases b <;> rfl) (by omega)
  have e116 : S'.1 116 = S.1 116 := F.row (by cases b <;> rfl) (by omega)
  have e117 : S'.1 117 = S.1 117 := F.row (by cases b <;> rfl) (by omega)
  have e118 : S'.1 118 = S.1 118 := F.row (by cases b <;> rfl) (by omega)
  have e119 : S'.1 119 = S.1 119 := F.row (by cases b <;> rfl) (by omega)
  have e224 : S'.1 224 = S.1 224 := F.row (by cases b <;> rfl) (by omega)
  have e225 : S'.1 225 = S.1 225 := F.row (by cases b <;> rfl) (by omega)
  have e226 : S'.1 226 = S.1 226 := F.row (by cases b <;> rfl) (by omega)
  have e227 : S'.1 227 = S.1 227 := F.row (by cases b <;> rfl) (by omega)
  have e228 : S'.1 228 = S.1 228 := F.row (by cases b <;> rfl) (by omega)
  have e186 : S'.1 186 = S.1 186 := F.row (by cases b <;> rfl) (by omega)
  have e215 : S'.1 215 = S.1 215 := F.row (by cases b <;> rfl) (by omega)
  have e139 : S'.1 139 = S.1 139 := F.row (by cases b <;> rfl) (by omega)
  have e1_1 : S'.1 1 1 = S.1 1 1 := F.at 1 1 (by cases b <;> rfl)
  have e187_1 : S'.1 187 1 = S.1 187 1 := F.at 187 1 (by cases b <;> rfl)
  have e1_2 : S'.1 1 2 = S.1 1 2 := F.at 1 2 (by cases b <;> rfl)
  have e187_2 : S'.1 187 2 = S.1 187 2 := F.at 187 2 (by cases b <;> rfl)
  have e187_3 : S'.1 187 3 = S.1 187 3 := F.at 187 3 (by cases b <;> rfl)
  have e1_3 : S'.1 1 3 = S.1 1 3 := F.at 1 3 (by cases b <;> rfl)
  have e187_37 : S'.1 187 37 = S.1 187 37 := F.at 187 37 (by cases b <;> rfl)
  have e187_24 : S'.1 187 24 = S.1 187 24 := F.at 187 24 (by cases b <;> rfl)
  have e37_3 : S'.1 37 3 = S.1 37 3 := F.at 37 3 (by cases b <;> rfl)
  have e37_4 : S'.1 37 4 = S.1 37 4 := F.at 37 4 (by cases b <;> rfl)
  have e37_5 : S'.1 37 5 = S.1 37 5 := F.at 37 5 (by cases b <;> rfl)
  have e187_46 : S'.1 187 46 = S.1 187 46 := F.at 187 46 (by cases b <;> rfl)
  have e187_47 : S'.1 187 47 = S.1 187 47 := F.at 187 47 (by cases b <;> rfl)
  have e114_5 : S'.1 114 5 = S.1 114 5 := F.at 114 5 (by cases b <;> rfl)
  have e187_66 : S'.1 187 66 = S.1 187 66 := F.at 187 66 (by cases b <;> rfl)
  have e0_14 : S'.1 0 14 = S.1 0 14 := F.at 0 14 (by cases b <;> rfl)
  have e187_67 : S'.1 187 67 = S.1 187 67 := F.at 187 67 (by cases b <;> rfl)
  have e0_13 : S'.1 0 13 = S.1 0 13 := F.at 0 13 (by cases b <;> rfl)
  have e187_51 : S'.1 187 51 = S.1 187 51 := F.at 187 51 (by cases b <;> rfl)
  have e120_14 : S'.1 120 14 = S.1 120 14 := F.at 120 14 (by cases b <;> rfl)
  have e120_7 : S'.1 120 7 = S.1 120 7 := F.at 120 7 (by cases b <;> rfl)
  have e140_8 : S'.1 140 8 = S.1 140 8 := F.at 140 8 (by cases b <;> rfl)
  have u2 : S'.1 (shU b + 2) = S.1 (shU b + 2) := F.row (by cases b <;> rfl) (by cases b <;> decide)
  have u4 : S'.1 (shU b + 4) = S.1 (shU b + 4) := F.row (by cases b <;> rfl) (by cases b <;> decide)
  have u5 : S'.1 (shU b + 5) = S.1 (shU b + 5) := F.row (by cases b <;> rfl) (by cases b <;> decide)
  have u7 : S'.1 (shU b + 7) = S.1 (shU b + 7) := F.row (by cases b <;> rfl) (by cases b <;> decide)
  have u10 : S'.1 (shU b + 10) = S.1 (shU b + 10) := F.row (by cases b <;> rfl) (by cases b <;> decide)
  have u13 : S'.1 (shU b + 13) = S.1 (shU b + 13) := F.row (by cases b <;> rfl) (by cases b <;> decide)
  have u0_9 : S'.1 (shU b) 9 = S.1 (shU b) 9 := F.at _ _ (by cases b <;> rfl)
  have u6_2 : S'.1 (shU b + 6) 2 = S.1 (shU b + 6) 2 := F.at _ _ (by cases b <;> rfl)
  have u6_3 : S'.1 (shU b + 6) 3 = S.1 (shU b + 6) 3 := F.at _ _ (by cases b <;> rfl)
  have u6_4 : S'.1 (shU b + 6) 4 = S.1 (shU b + 6) 4 := F.at _ _ (by cases b <;> rfl)
  have u9_2 : S'.1 (shU b + 9) 2 = S.1 (shU b + 9) 2 := F.at _ _ (by cases b <;> rfl)
  have u9_3 : S'.1 (shU b + 9) 3 = S.1 (shU b + 9) 3 := F.at _ _ (by cases b <;> rfl)
  have u9_4 : S'.1 (shU b + 9) 4 = S.1 (shU b + 9) 4 := F.at _ _ (by cases b <;> rfl)
  have u12_2 : S'.1 (shU b + 12) 2 = S.1 (shU b + 12) 2 := F.at _ _ (by cases b <;> rfl)
  have u12_3 : S'.1 (shU b + 12) 3 = S.1 (shU b + 12) 3 := F.at _ _ (by cases b <;> rfl)
  have u12_4 : S'.1 (shU b + 12) 4 = S.1 (shU b + 12) 4 := F.at _ _ (by cases b <;> rfl)
  have eh : ∀ m, m < 41 → S'.1 (39 + m) = S.1 (39 + m) := fun m hm => F.rows (lo := 39) (n := 41) (by cases b <;> decide) (by omega) hm
  have eb : ∀ m, m < 3 → S'.1 (81 + m) = S.1 (81 + m) := fun m hm => F.rows (lo := 81) (n := 3) (by cases b <;> decide) (by omega) hm
  refine ⟨n, ?_, ?_, ?_, ⟨?_, ?_, ?_⟩, ?_, ?_, ?_, ?_, ?_, ?_, ?_, ?_, ?_⟩
  · unfold rSheet at h1 ⊢
    simp only [u0_9, e187_37, u2, e205, u4, e206, u5, e207]
    exact h1
  · unfold rTape at h2 ⊢
    simp only [e1_1, e187_1, e188, e2]
    exact h2
  · unfold rFault at h3 ⊢
    simp only [e1_2, e187_2, e187_3, e1_3]
    exact h3
  · unfold rForm at f0 ⊢
    simp only [Nat.mul_zero, Nat.add_zero, u6_2, u6_4, u7, e199, e195, e193, e194] at f0 ⊢
    exact f0
  · unfold rForm at f1 ⊢
    simp only [Nat.mul_one, Nat.add_assoc, Nat.reduceAdd, u9_2, u9_4, u10, e199, e195, e193, e194] at f1 ⊢
    exact f1
  · unfold rForm at f2 ⊢
    simp only [Nat.reduceMul, Nat.add_assoc, Nat.reduceAdd, u12_2, u12_4, u13, e199, e195, e193, e194] at f2 ⊢
    exact f2
  · unfold rUnits at h5 ⊢
    simp only [u6_3, u9_3, u12_3, e187_24]
    exact h5
  · unfold rNow at h6 ⊢
    rw [e35, e208]
    exact h6
  · obtain ⟨o, bh, ah, q1, q2, q3, q4, q5, q6, q7, q8, q9, q10, q11⟩ := h7
    refine ⟨o, bh, ah, q1, q2, e37_3.trans q3, e37_4.trans q4, e37_5.trans q5, e187_46.trans q6, e187_47.trans q7, fun j hj => ?_, fun k hk => ?_, fun j hj k hk => ?_, fun j hj hj2 k hk => ?_⟩
    · rw [eh _ (Nat.mod_lt _ (by omega))]
      exact q8 j hj
    · rw [eh _ (Nat.mod_lt _ (by omega)), e35]
      exact q9 k hk
    · rw [eh _ (Nat.mod_lt _ (by omega)), e212]
      exact q10 j hj k hk
    · rw [eh _ (Nat.mod_lt _ (by omega)), e212]
      exact q11 j hj hj2 k hk
  · intro x hx
    rw [e84, e231, e232, eb x hx]
    exact h8 x hx
  · unfold rRep at h9 ⊢
    simp only [e114_5, e187_66, e115, e116, e117, e118, e119, e224, e225, e226, e227, e228]
    exact h9
  · unfold rTime at h10 ⊢
    simp only [e0_14, e187_67]
    exact h10
  · unfold rLie at h11 ⊢
    simp only [e0_13, e187_51, e186, e215]
    exact h11
  · unfold rTru at h12 ⊢
    simp only [e120_14, e120_7, e139]
    exact h12
  · unfold rLia at h13 ⊢
    simp only [e140_8]
    exact h13
