/-! the class's own small methods -/
theorem in_n {a b c : Nat} (h1 : a ≤ b) (h2 : b ≤ c) (hc : c < 2147483648) : nI a ≤ nI b ∧ nI b ≤ nI c := ⟨nI_le h1 (by omega), nI_le h2 hc⟩
theorem in_m {a b : Nat} (h1 : a < b) (hb : b < 1073741824) : nI 0 ≤ nI a ∧ nI a ≤ nI b - nI 1 := by
  refine ⟨nI_le (by omega) (by omega), ?_⟩
  rw [pk_sub (by omega)]; exact nI_le (by omega) (by omega)
