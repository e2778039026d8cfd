/-! starts of a machine in a plan; the cents of a set's starts -/
def bfA (S : Nat → Nat) (b0 : Nat) : Nat → Nat
  | 0 => b0
  | i + 1 => S i
def csA (S : Nat → Nat) (b0 kk : Nat) : Nat → Nat
  | 0 => 0
  | i + 1 => csA S b0 kk i + (dif (S i) (bfA S b0 i) / 2 ^ kk &&& 1)
theorem csA_le {S : Nat → Nat} {b0 kk : Nat} : ∀ i, csA S b0 kk i ≤ i
  | 0 => Nat.le_refl 0
  | i + 1 => by
    have h1 := csA_le (S := S) (b0 := b0) (kk := kk) i
    have h2 : (dif (S i) (bfA S b0 i) / 2 ^ kk &&& 1) < 2 := by rw [and1]; omega
    show csA S b0 kk i + _ ≤ i + 1
    omega
def sxI (kk v : Nat) (X0 : Nat → Nat) (i : Nat) (SX : Nat → Nat) : Prop := (∀ x, x < i → SX (2 ^ kk + x) = X0 x + v) ∧ ∀ j, (j < 2 ^ kk ∨ 2 ^ kk + i ≤ j) → SX j = X0 j
theorem sxI_next {kk v i : Nat} {X0 SX : Nat → Nat} (h : sxI kk v X0 i SX) (hi : i < 2 ^ kk) : sxI kk v X0 (i + 1) (va_up SX (2 ^ kk + i) (SX i + v)) := by
  refine ⟨fun x hx => ?_, fun j hj => ?_⟩
  · rcases Nat.lt_or_ge x i with q | q
    · rw [va_up_ne _ _ (by omega)]; exact h.1 x q
    · rw [show x = i by omega, va_up_self, h.2 _ (by omega)]
  · rw [va_up_ne _ _ (by omega)]; exact h.2 j (by omega)
