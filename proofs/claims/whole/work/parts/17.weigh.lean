/-! what an hour's sets give -/
theorem nI_nm1 {a : Nat} (h : a < 2147483648) : ¬ nI a = -1 := by
  intro q
  have h1 := congrArg Int32.toInt q
  rw [nI_toInt h] at h1
  have : (-1 : Int32).toInt = -1 := by decide
  omega
def oI : Option Nat → Int32
  | none => -1
  | some n => nI n
/-- the sets with machine kk, the first i of them: the others' and v -/
def wmI (h kk v : Nat) (H0 : Nat → Nat) (i : Nat) (HE : Nat → Nat) : Prop := (∀ x, x < i → HE (h * 8 + 2 ^ kk + x) = H0 (h * 8 + x) + v) ∧ ∀ j, (j < h * 8 + 2 ^ kk ∨ h * 8 + 2 ^ kk + i ≤ j) → HE j = H0 j
theorem wmI_next {h kk v i : Nat} {H0 HE : Nat → Nat} (hI : wmI h kk v H0 i HE) (hi : i < 2 ^ kk) : wmI h kk v H0 (i + 1) (va_up HE (2 ^ kk + (h * 8 + i)) (HE (h * 8 + i) + v)) := by
  obtain ⟨h1, h2⟩ := hI
  refine ⟨fun x hx => ?_, fun j hj => ?_⟩
  · rcases Nat.lt_or_ge x i with q | q
    · rw [va_up_ne _ _ (by omega)]; exact h1 x q
    · rw [show x = i by omega, show h * 8 + 2 ^ kk + i = 2 ^ kk + (h * 8 + i) by omega, va_up_self, h2 _ (by omega)]
  · rw [va_up_ne _ _ (by omega)]; exact h2 j (by omega)
theorem o_cases {α : Type} (x : Option α) : x = none ∨ ∃ v, x = some v := by cases x; exact Or.inl rfl; exact Or.inr ⟨_, rfl⟩
