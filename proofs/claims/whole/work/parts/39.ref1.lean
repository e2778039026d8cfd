/-! the reference's hours: what a machine may do, what is behind, what it costs -/
theorem oI_none {x : Option Nat} (hb : ∀ v, x = some v → v ≤ 100000) : oI x = -1 ↔ x.isSome = false := by
  cases x with
  | none => exact ⟨fun _ => rfl, fun _ => rfl⟩
  | some v =>
    have := hb v rfl
    exact ⟨fun h => absurd h (nI_nm1 (by omega)), fun h => by cases h⟩
theorem oI_some {x : Option Nat} (h : x.isSome = true) : oI x = nI (x.getD 0) := by cases x; cases h; rfl
/-- what machine k may do: g what it gives, s its stand, o whether it is to run -/
def alR (g : Option Nat) (a b s : Nat) (o : Bool) : Bool := if g.isSome then (if o then !decide (s < 4 ∧ s % 4 + 1 < b) else !decide (4 ≤ s ∧ s % 4 + 1 < a)) else !o
def gdR (g : Nat → Option Nat) (lr lp : Nat → Nat) (st x : Nat) : Nat → Bool
  | 0 => true
  | k + 1 => gdR g lr lp st x k && alR (g k) (lr k) (lp k) (dg st k) (on x k)
def hsR (g : Nat → Option Nat) (x : Nat) : Nat → Nat
  | 0 => 0
  | k + 1 => hsR g x k + (if on x k && (g k).isSome then (g k).getD 0 else 0)
def mayR (g : Nat → Option Nat) (lr lp : Nat → Nat) (cn nd st x : Nat) : Bool := gdR g lr lp st x cn && decide (nd ≤ hsR g x cn)
def sdA (s : Nat) (o : Bool) : Nat := (let t := if decide (4 ≤ s) == o then s % 4 + 1 else 0; if 3 < t then 3 else t) + (if o then 4 else 0)
def bhR (st x : Nat) : Nat → Nat
  | 0 => 0
  | k + 1 => bhR st x k + sdA (dg st k) (on x k) * 8 ^ k
def ctR (q : Nat → Option Nat) (ce : Nat → Nat) (pr st x : Nat) : Nat → Nat
  | 0 => 0
  | k + 1 => ctR q ce pr st x k + (if on x k then (q k).getD 0 * pr else 0) + (if on x k && decide (dg st k < 4) then ce k else 0)
theorem sdA_lt (s : Nat) (o : Bool) : sdA s o < 8 := by
  unfold sdA; dsimp only; repeat' split
  all_goals omega
theorem bhR_lt (st x : Nat) : ∀ k, bhR st x k < 8 ^ k
  | 0 => by show 0 < 1; omega
  | k + 1 => by
    have h1 := bhR_lt st x k
    have h2 := sdA_lt (dg st k) (on x k)
    have h3 : sdA (dg st k) (on x k) * 8 ^ k ≤ 7 * 8 ^ k := Nat.mul_le_mul_right _ (by omega)
    show bhR st x k + _ < 8 ^ (k + 1)
    rw [Nat.pow_succ]; omega
theorem hsR_le {g : Nat → Option Nat} (hb : ∀ k v, g k = some v → v ≤ 100000) (x : Nat) : ∀ k, hsR g x k ≤ 100000 * k
  | 0 => Nat.le_refl 0
  | k + 1 => by
    have h1 := hsR_le hb x k
    have h2 : (g k).getD 0 ≤ 100000 := by
      cases h : g k with
      | none => simp
      | some v => exact hb k v h
    show hsR g x k + _ ≤ _
    split <;> omega
/-- what look leaves behind: the first i machines -/
def lkI (IO : Nat → Int32) (h : Nat) (gh gp : Nat → Option Nat) (i : Nat) (HN PN : Nat → Int32) : Prop := ∀ k, k < i → HN k = oI (cnO (fun j => IO (36 * k + j)) h (gh k)) ∧ PN k = oI (gp k)
theorem lkI_next {IO : Nat → Int32} {h i : Nat} {gh gp : Nat → Option Nat} {HN PN : Nat → Int32} {u v : Int32} (hI : lkI IO h gh gp i HN PN) (hu : u = oI (cnO (fun j => IO (36 * i + j)) h (gh i))) (hv : v = oI (gp i)) : lkI IO h gh gp (i + 1) (upd HN i u) (upd PN i v) := by
  intro k hk
  rcases Nat.lt_or_ge k i with q | q
  · rw [pk_un (by omega), pk_un (by omega)]; exact hI k q
  · obtain rfl : k = i := by omega
    rw [pk_us, pk_us]; exact ⟨hu, hv⟩
/-- the map of machine k gives gh, gp at warmth x -/
def gmR (RW : Nat → Nat) (RO RH RP : Nat → Int32) (x : Int32) (k : Nat) (a b : Option Nat) : Prop := (∀ r, gvR (fun j => RO (8 * k + j)) (fun j => if (0 : Int32) = 0 then RH (8 * k + j) else RP (8 * k + j)) (RW k) x 0 r → r = oI a) ∧ ∀ r, gvR (fun j => RO (8 * k + j)) (fun j => if (1 : Int32) = 0 then RH (8 * k + j) else RP (8 * k + j)) (RW k) x 1 r → r = oI b
