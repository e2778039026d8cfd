/-! an hour's sets, machine by machine -/
def abA (g : Nat → Option Nat) : Nat → Nat
  | 0 => 0
  | k + 1 => abA g k ||| (if g k = none then 0 else 2 ^ k)
def smA (g : Nat → Option Nat) : Nat → Nat → Nat
  | 0, _ => 0
  | k + 1, x => if x < 2 ^ k then smA g k x else smA g k (x - 2 ^ k) + (g k).getD 0
theorem smA_le {g : Nat → Option Nat} (hg : ∀ k v, g k = some v → v ≤ 100000) : ∀ k x, smA g k x ≤ 100000 * k
  | 0, x => by show 0 ≤ _; omega
  | k + 1, x => by
    show (if x < 2 ^ k then smA g k x else smA g k (x - 2 ^ k) + (g k).getD 0) ≤ _
    have h1 := smA_le hg k x
    have h2 := smA_le hg k (x - 2 ^ k)
    have h3 : (g k).getD 0 ≤ 100000 := by
      cases h : g k with
      | none => simp
      | some v => exact hg k v h
    split <;> omega
theorem abA_lt {g : Nat → Option Nat} {k : Nat} (hk : k ≤ 3) : abA g k < 8 := by
  rcases (show k = 0 ∨ k = 1 ∨ k = 2 ∨ k = 3 by omega) with rfl | rfl | rfl | rfl
  · show 0 < 8; omega
  · show (0 ||| _) < 8; split <;> decide
  · show ((0 ||| _) ||| _) < 8; split <;> split <;> decide
  · show (((0 ||| _) ||| _) ||| _) < 8; split <;> split <;> split <;> decide
/-- the row of hour h, its first i machines -/
def rwI (g : Nat → Option Nat) (h : Nat) (H0 : Nat → Nat) (i : Nat) (HE : Nat → Nat) : Prop := (∀ x, x < 2 ^ i → HE (h * 8 + x) = smA g i x) ∧ (∀ j, (j < h * 8 ∨ h * 8 + 8 ≤ j) → HE j = H0 j) ∧ ∀ j, HE j ≤ zbd j
theorem p2_le {i : Nat} (hi : i < 3) : 2 ^ i + 2 ^ i ≤ 8 := by
  rcases (show i = 0 ∨ i = 1 ∨ i = 2 by omega) with rfl | rfl | rfl <;> decide
theorem rwI_next {g : Nat → Option Nat} {h i : Nat} {H0 HE U : Nat → Nat} (hi : i < 3) (hg : ∀ k v, g k = some v → v ≤ 100000) (hI : rwI g h H0 i HE) (hu : wmI h i ((g i).getD 0) HE (2 ^ i) U) : rwI g h H0 (i + 1) U := by
  obtain ⟨h1, h2, h3⟩ := hI
  obtain ⟨u1, u2⟩ := hu
  have hp := p2_le hi
  have e : 2 ^ (i + 1) = 2 ^ i + 2 ^ i := by rw [Nat.pow_succ]; omega
  have hG : (g i).getD 0 ≤ 100000 := by
    cases h : g i with
    | none => simp
    | some v => exact hg i v h
  refine ⟨fun x hx => ?_, fun j hj => ?_, fun j => ?_⟩
  · show U (h * 8 + x) = (if x < 2 ^ i then smA g i x else smA g i (x - 2 ^ i) + (g i).getD 0)
    by_cases q : x < 2 ^ i
    · rw [if_pos q, u2 _ (by omega)]; exact h1 x q
    · rw [if_neg q, ← h1 (x - 2 ^ i) (by omega), ← u1 (x - 2 ^ i) (by omega)]; congr 1; omega
  · rw [u2 _ (by omega)]; exact h2 j hj
  · by_cases q : h * 8 + 2 ^ i ≤ j ∧ j < h * 8 + 2 ^ i + 2 ^ i
    · obtain ⟨x, rfl⟩ : ∃ x, j = h * 8 + 2 ^ i + x := ⟨j - (h * 8 + 2 ^ i), by omega⟩
      rw [u1 x (by omega), h1 x (by omega)]
      have h4 := smA_le hg i x
      have h5 : 0 < 2 ^ i := Nat.pow_pos (by omega)
      unfold zbd
      rw [if_neg (by omega)]
      omega
    · rw [u2 _ (by omega)]; exact h3 j
def weI (g q : Nat → Option Nat) (h : Nat) (A0 H0 P0 : Nat → Nat) (i : Nat) (AB HE PO : Nat → Nat) : Prop := (AB h = abA g i ∧ ∀ j, j ≠ h → AB j = A0 j) ∧ rwI g h H0 i HE ∧ rwI q h P0 i PO
theorem weI_next {g q : Nat → Option Nat} {h i : Nat} {A0 H0 P0 AB HE PO U V W : Nat → Nat} (hi : i < 3) (hg : ∀ k v, g k = some v → v ≤ 100000) (hq : ∀ k v, q k = some v → v ≤ 100000) (hI : weI g q h A0 H0 P0 i AB HE PO) (h1 : U = va_up AB h (AB h ||| (if g i = none then 0 else 2 ^ i))) (h2 : wmI h i ((g i).getD 0) HE (2 ^ i) V) (h3 : wmI h i ((q i).getD 0) PO (2 ^ i) W) : weI g q h A0 H0 P0 (i + 1) U V W := by
  refine ⟨⟨?_, fun j hj => ?_⟩, rwI_next hi hg hI.2.1 h2, rwI_next hi hq hI.2.2 h3⟩
  · rw [h1, va_up_self, hI.1.1]; rfl
  · rw [h1, va_up_ne _ _ hj]; exact hI.1.2 j hj
/-- what machine k gives at a warmth, by its map -/
def giI (F G P : Nat → Int32) (z : Nat) (x : Int32) (a b : Option Nat) : Prop := (∀ i, lnAt F z x i → lnRes F G z x 0 i = oI a) ∧ (∀ i, lnAt F z x i → lnRes F P z x 1 i = oI b) ∧ (a = none ↔ b = none) ∧ (∀ v, a = some v → v ≤ 100000) ∧ ∀ v, b = some v → v ≤ 100000
theorem cnO_le {OU : Nat → Int32} {h : Nat} {a : Option Nat} (hb : ∀ v, a = some v → v ≤ 100000) : ∀ v, cnO OU h a = some v → v ≤ 100000 := by
  intro v hv; unfold cnO at hv; split at hv; exact hb v hv; cases hv
theorem rwI_0 {g : Nat → Option Nat} {h : Nat} {H0 : Nat → Nat} (hb : ∀ j, H0 j ≤ zbd j) : rwI g h H0 0 H0 := by
  refine ⟨fun x hx => ?_, fun j hj => rfl, hb⟩
  have h1 := hb (h * 8)
  unfold zbd at h1
  rw [if_pos (by omega)] at h1
  rw [show x = 0 by simpa using hx, Nat.add_zero]
  show H0 (h * 8) = 0
  omega
theorem weI_0 {g q : Nat → Option Nat} {h : Nat} {A0 H0 P0 : Nat → Nat} (hb : ∀ j, H0 j ≤ zbd j) (hc : ∀ j, P0 j ≤ zbd j) : weI g q h A0 H0 P0 0 (va_up A0 h 0) H0 P0 :=
  ⟨⟨va_up_self _ _ _, fun j hj => va_up_ne _ _ hj⟩, rwI_0 hb, rwI_0 hc⟩
