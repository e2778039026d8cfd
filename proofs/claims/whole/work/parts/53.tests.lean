/-! tests that were answered by yes: the numbers -/
theorem nI_T {n : Nat} (h : n < 2147483648) : (nI n).toInt = (n : Int) := Int32.toInt_ofNat_of_lt h
theorem in_of {a c : Nat} {v : Int32} (hc : c < 2147483648) (h : nI a ≤ v ∧ v ≤ nI c) (ha : a ≤ c := by omega) : ∃ k, k ≤ c ∧ a ≤ k ∧ v = nI k := by
  obtain ⟨h1, h2⟩ := h
  have ea : (nI a).toInt = (a : Int) := nI_T (by omega)
  have ec : (nI c).toInt = (c : Int) := nI_T hc
  rw [Int32.le_iff_toInt_le, ea] at h1
  rw [Int32.le_iff_toInt_le, ec] at h2
  refine ⟨v.toInt.toNat, by omega, by omega, ?_⟩
  apply Int32.toInt_inj.mp
  rw [nI_T (by omega)]
  omega
theorem im_c {cn : Nat} {u : Int32} (hc : cn ≤ 3) (h : nI 0 ≤ u ∧ u ≤ nI cn - nI 1) : nI 0 ≤ u ∧ u < nI cn := by
  refine ⟨h.1, ?_⟩
  rcases Nat.eq_zero_or_pos cn with h0 | h0
  · subst h0
    have h1 := Int32.le_trans h.1 h.2
    exact absurd h1 (by decide)
  · have h2 := h.2
    rw [pk_sub (by omega)] at h2
    have e1 : (nI (cn - 1)).toInt = ((cn - 1 : Nat) : Int) := nI_T (by omega)
    have e2 : (nI cn).toInt = (cn : Int) := nI_T (by omega)
    rw [Int32.le_iff_toInt_le, e1] at h2
    rw [Int32.lt_iff_toInt_lt, e2]
    omega
theorem hr_v {h v : Int32} {wn : Nat} (hwn : wn ≤ 2) (h1 : nI 0 ≤ h ∧ h ≤ nI 35) (h2 : lfI wn ≤ v ∧ v ≤ mfI wn) : (nI 0 ≤ h ∧ h ≤ nI 35) ∧ ((nI wn = 0 ∧ ((-5000) ≤ v ∧ v ≤ nI 5000)) ∨ (nI wn = nI 1 ∧ (nI 0 ≤ v ∧ v ≤ nI 1000)) ∨ (nI wn = nI 2 ∧ (nI 0 ≤ v ∧ v ≤ nI 100000))) := by
  refine ⟨h1, ?_⟩
  rcases (show wn = 0 ∨ wn = 1 ∨ wn = 2 by omega) with e | e | e <;> subst e
  · exact Or.inl ⟨rfl, h2⟩
  · exact Or.inr (Or.inl ⟨rfl, h2⟩)
  · exact Or.inr (Or.inr ⟨rfl, h2⟩)
