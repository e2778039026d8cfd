/-! numbers: facts out of branches -/
section HELP
variable {a b : Nat}
theorem yeq (c : nI a = nI b) (ha : a < 2147483648) (hb : b < 2147483648) : a = b := (nI_eq ha hb).mp c
theorem yne (c : ¬ nI a = nI b) (_ : a < 2147483648) (_ : b < 2147483648) : a ≠ b := fun h => c (by rw [h])
theorem ylt (c : nI a < nI b) (ha : a < 2147483648) (hb : b < 2147483648) : a < b := (nI_ltI ha hb).mp c
theorem yge (c : nI b ≤ nI a) (ha : a < 2147483648) (hb : b < 2147483648) : b ≤ a := (nI_leI hb ha).mp c
theorem ygt (c : nI b < nI a) (ha : a < 2147483648) (hb : b < 2147483648) : b < a := (nI_ltI hb ha).mp c
theorem yle (c : nI a ≤ nI b) (ha : a < 2147483648) (hb : b < 2147483648) : a ≤ b := (nI_leI ha hb).mp c
theorem yeqN (c : ¬ ¬ nI a = nI b) (ha : a < 2147483648) (hb : b < 2147483648) : a = b := (nI_eq ha hb).mp (Classical.not_not.mp c)
theorem yneN (c : ¬ nI a = nI b) (_ : a < 2147483648) (_ : b < 2147483648) : a ≠ b := fun h => c (by rw [h])
theorem yltN (c : ¬ nI b ≤ nI a) (ha : a < 2147483648) (hb : b < 2147483648) : a < b := Nat.not_le.mp fun h => c ((nI_leI hb ha).mpr h)
theorem ygeN (c : ¬ nI a < nI b) (ha : a < 2147483648) (hb : b < 2147483648) : b ≤ a := Nat.not_lt.mp fun h => c ((nI_ltI ha hb).mpr h)
theorem ygtN (c : ¬ nI a ≤ nI b) (ha : a < 2147483648) (hb : b < 2147483648) : b < a := Nat.not_le.mp fun h => c ((nI_leI ha hb).mpr h)
theorem yleN (c : ¬ nI b < nI a) (ha : a < 2147483648) (hb : b < 2147483648) : a ≤ b := Nat.not_lt.mp fun h => c ((nI_ltI hb ha).mpr h)
theorem yeq0 (c : nI a = 0) (ha : a < 2147483648) (_ : (0 : Nat) < 2147483648) : a = 0 := yeq (b := 0) c ha (by omega)
theorem yne0 (c : ¬ nI a = 0) (ha : a < 2147483648) (_ : (0 : Nat) < 2147483648) : a ≠ 0 := yne (b := 0) c ha (by omega)
theorem ylt0 (c : nI a < 0) (ha : a < 2147483648) (_ : (0 : Nat) < 2147483648) : a < 0 := ylt (b := 0) c ha (by omega)
theorem yge0 (c : 0 ≤ nI a) (ha : a < 2147483648) (_ : (0 : Nat) < 2147483648) : 0 ≤ a := yge (b := 0) c ha (by omega)
theorem ygt0 (c : 0 < nI a) (ha : a < 2147483648) (_ : (0 : Nat) < 2147483648) : 0 < a := ygt (b := 0) c ha (by omega)
theorem yle0 (c : nI a ≤ 0) (ha : a < 2147483648) (_ : (0 : Nat) < 2147483648) : a ≤ 0 := yle (b := 0) c ha (by omega)
theorem yeqN0 (c : ¬ ¬ nI a = 0) (ha : a < 2147483648) (_ : (0 : Nat) < 2147483648) : a = 0 := yeqN (b := 0) c ha (by omega)
theorem yneN0 (c : ¬ nI a = 0) (ha : a < 2147483648) (_ : (0 : Nat) < 2147483648) : a ≠ 0 := yne (b := 0) c ha (by omega)
theorem yltN0 (c : ¬ 0 ≤ nI a) (ha : a < 2147483648) (_ : (0 : Nat) < 2147483648) : a < 0 := yltN (b := 0) c ha (by omega)
theorem ygeN0 (c : ¬ nI a < 0) (ha : a < 2147483648) (_ : (0 : Nat) < 2147483648) : 0 ≤ a := ygeN (b := 0) c ha (by omega)
theorem ygtN0 (c : ¬ nI a ≤ 0) (ha : a < 2147483648) (_ : (0 : Nat) < 2147483648) : 0 < a := ygtN (b := 0) c ha (by omega)
theorem yleN0 (c : ¬ 0 < nI a) (ha : a < 2147483648) (_ : (0 : Nat) < 2147483648) : a ≤ 0 := yleN (b := 0) c ha (by omega)
theorem nI_dec (d : Nat) (h : d ≤ a) : nI a + Int32.ofInt (-(d : Int)) = nI (a - d) := by
  have e : Int32.ofInt (-(d : Int)) = - nI d := by rw [Int32.ofInt_neg]; rfl
  rw [e, ← Int32.sub_eq_add_neg]; exact pk_sub h
end HELP
/-- the arrays' classes by number: 0 int, 1 long, 2 boolean, 3 Machine, 4 int[] -/
abbrev tyU (k : Nat → ClassId) : List (ClassId × FieldType) := [(k 0, .int), (k 1, .long), (k 2, .boolean), (k 3, .object "HeatMachines$Machine"), (k 4, .array .int)]
abbrev gU (D : va_G) (k : Nat → ClassId) : kG := (D, tyU k)
/-- the room of a method d calls deep that makes c cells of s slots -/
abbrev rU (d c s : Nat) : Room := { frames := d, cells := c, slots := s, locals := 32 * d }
