/-! the class's own small methods -/
theorem in_n {a b c : Nat} (h1 : a ≤ b) (h2 : b ≤ c) (hc : c < 2147483648) : nI a ≤ nI b ∧ nI b ≤ nI c := ⟨nI_le h1 (by omega), nI_le h2 hc⟩
theorem in_m {a b : Nat} (h1 : a < b) (hb : b < 1073741824) : nI 0 ≤ nI a ∧ nI a ≤ nI b - nI 1 := by
  refine ⟨nI_le (by omega) (by omega), ?_⟩
  rw [pk_sub (by omega)]; exact nI_le (by omega) (by omega)
def lfI : Nat → Int32
  | 0 => -5000
  | _ => 0
def mfI : Nat → Int32
  | 0 => 5000
  | 1 => 1000
  | _ => 100000
theorem lf_at {w : Nat} (h : w < 3) : lfT (nI w).toNatClampNeg = .int (lfI w) := by
  rw [nI_clamp (by omega)]
  rcases (show w = 0 ∨ w = 1 ∨ w = 2 by omega) with rfl | rfl | rfl <;> rfl
theorem mf_at {w : Nat} (h : w < 3) : mfT (nI w).toNatClampNeg = .int (mfI w) := by
  rw [nI_clamp (by omega)]
  rcases (show w = 0 ∨ w = 1 ∨ w = 2 by omega) with rfl | rfl | rfl <;> rfl
theorem nar01 {x : Int32} (h : x = 0 ∨ x = 1) : vp_nar .boolean x = x := by rcases h with rfl | rfl <;> decide
