/-! costs: a number of eighths, or none -/
def oL : Option Nat → Int64
  | none => -1
  | some n => lN n
theorem oL_none {x : Option Nat} (hx : ∀ n, x = some n → n < 1125899906842624) : lg_cmp (oL x) (-1) = 0 ↔ x = none := by
  cases x with
  | none => simp [oL]; decide
  | some n =>
    have h := hx n rfl
    have h1 : (lN n).toInt = n := pk_lT (by omega)
    have h2 : (-1 : Int64) < lN n := by rw [Int64.lt_iff_toInt_lt, h1]; have : (-1 : Int64).toInt = -1 := by decide
                                        omega
    simp only [oL, lg_cmp, gt_iff_lt, if_pos h2]
    simp
theorem oL_some {x : Option Nat} (hx : ∀ n, x = some n → n < 1125899906842624) (h : ¬ lg_cmp (oL x) (-1) = 0) : ∃ v, x = some v ∧ v < 1125899906842624 := by
  cases x with
  | none => exact absurd ((oL_none hx).mpr rfl) h
  | some n => exact ⟨n, rfl, hx n rfl⟩
theorem lg_ge {a b : Nat} (ha : a < 9223372036854775808) (hb : b < 9223372036854775808) : 0 ≤ lg_cmp (lN a) (lN b) ↔ b ≤ a := by
  rw [lg_cmp_ge]; exact pk_lLE hb ha
/-- sets: what is in a and not in b; the next part of a set -/
def dif (a b : Nat) : Nat := a &&& (7 - b)
def nxp (a b : Nat) : Nat := ((a + 8 - b) % 8) &&& b
theorem dif_eq : ∀ a : Nat, a < 8 → ∀ b : Nat, b < 8 → nI a &&& (nI b ^^^ (-1)) = nI (dif a b) := by decide
theorem nxp_eq : ∀ a : Nat, a < 8 → ∀ b : Nat, b < 8 → (nI a - nI b) &&& nI b = nI (nxp a b) := by decide
theorem dif_lt : ∀ a : Nat, a < 8 → ∀ b : Nat, b < 8 → dif a b < 8 := by decide
theorem nxp_lt : ∀ a : Nat, a < 8 → ∀ b : Nat, b < 8 → nxp a b < 8 := by decide
theorem or_lt : ∀ a : Nat, a < 8 → ∀ b : Nat, b < 8 → a ||| b < 8 := by decide
theorem an_lt : ∀ a : Nat, a < 8 → ∀ b : Nat, b < 8 → a &&& b < 8 := by decide
theorem bc_p : ∀ a : Nat, a < 8 → bcN a < 4 ∧ (2 ^ bcN a = 1 ∨ 2 ^ bcN a = 2 ∨ 2 ^ bcN a = 4 ∨ 2 ^ bcN a = 8) := by decide
def prt (fr : Nat) : Nat → Nat
  | 0 => 0
  | i + 1 => nxp (prt fr i) fr
theorem prt_lt {fr : Nat} (h : fr < 8) : ∀ i, prt fr i < 8
  | 0 => by show 0 < 8; omega
  | i + 1 => nxp_lt _ (prt_lt h i) _ h
def omin : Option Nat → Option Nat → Option Nat
  | none, y => y
  | some a, none => some a
  | some a, some b => if b < a then some b else some a
/-- the least of the choices over the first i parts -/
def bcF (ch : Nat → Option Nat) (mu fr : Nat) : Nat → Option Nat
  | 0 => none
  | i + 1 => omin (bcF ch mu fr i) (ch (mu ||| prt fr i))
/-- a set as a choice -/
def chO (HE AF PO SX RB FP FN : Nat → Nat) (BE : Nat → Option Nat) (h fr st : Nat) : Option Nat :=
  if HE (h * 8 + st) < FN h then none else (BE ((h + 1) * 512 + AF (fr * 8 + st))).map fun v => (v / 8 + (PO (h * 8 + st) * FP h + SX (dif st (RB fr)))) * 8 + st
/-- the empty set gives nothing, any set at most so much -/
def zbd (j : Nat) : Nat := if j % 8 = 0 then 0 else 300000
theorem zbd_le {H : Nat → Nat} (h : ∀ j, H j ≤ zbd j) : ∀ j, H j ≤ 300000 := by
  intro j
  have h1 := h j
  unfold zbd at h1
  split at h1 <;> omega
/-- the bounds of what the planner holds -/
def pB (AB HE PO SX FP FN RB MR MP AF : Nat → Nat) : Prop := (∀ j, AB j < 8) ∧ (∀ j, HE j ≤ zbd j) ∧ (∀ j, PO j ≤ zbd j) ∧ (∀ j, SX j ≤ 300000) ∧ (∀ j, FP j ≤ 1000) ∧ (∀ j, FN j ≤ 100000) ∧ (∀ j, RB j < 8) ∧ (∀ j, MR j < 8) ∧ (∀ j, MP j < 8) ∧ ∀ j, AF j < 512
theorem chO_lt {HE AF PO SX RB FP FN : Nat → Nat} {BE : Nat → Option Nat} {h fr st B : Nat} (hP : ∀ j, PO j ≤ 300000) (hS : ∀ j, SX j ≤ 300000) (hF : ∀ j, FP j ≤ 1000) (hs : st < 8) (hB : ∀ j v, BE ((h + 1) * 512 + j) = some v → v < B) : ∀ v, chO HE AF PO SX RB FP FN BE h fr st = some v → v < B + 2402400008 := by
  intro v hv
  unfold chO at hv
  split at hv
  · cases hv
  · cases hb : BE ((h + 1) * 512 + AF (fr * 8 + st)) with
    | none => rw [hb] at hv; cases hv
    | some w =>
      rw [hb] at hv
      have h1 := hB _ _ hb
      have h2 : PO (h * 8 + st) * FP h ≤ 300000 * 1000 := Nat.mul_le_mul (hP _) (hF _)
      have h3 := hS (dif st (RB fr))
      cases hv
      show (w / 8 + (PO (h * 8 + st) * FP h + SX (dif st (RB fr)))) * 8 + st < _
      omega
theorem updO (R : Nat → Option Nat) (i : Nat) (v : Option Nat) : vp_updL (fun j => oL (R j)) i (oL v) = fun j => oL (va_up R i v j) := by
  funext j
  unfold vp_updL va_up
  split <;> rfl
