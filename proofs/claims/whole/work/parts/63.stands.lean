/-! the class's digits out of the reference's stands; which sets may run -/
def cl (a b s : Nat) : Nat := if 4 ≤ s then 4 + (a - (s - 3)) else b - (s + 1)
def KA (lr lp : Nat → Nat) (s : Nat) : Nat → Nat
  | 0 => 0
  | k + 1 => KA lr lp s k + cl (lr k) (lp k) (dg s k) * 8 ^ k
theorem cl_lt {a b s : Nat} (ha : a ≤ 4) (hb : b ≤ 4) : cl a b s < 8 := by unfold cl; split <;> omega
theorem cl_ran {a b s : Nat} (hb : b ≤ 4) : 4 ≤ cl a b s ↔ 4 ≤ s := by unfold cl; split <;> omega
theorem cl_step {a b s : Nat} (ha : 1 ≤ a ∧ a ≤ 4) (hb : 1 ≤ b ∧ b ≤ 4) (hs : s < 8) (o : Bool) : dgAfter a b (cl a b s) o = cl a b (sdA s o) := by
  have key : ∀ a, a < 5 → ∀ b, b < 5 → ∀ s, s < 8 → ∀ o : Bool, 1 ≤ a → 1 ≤ b → dgAfter a b (cl a b s) o = cl a b (sdA s o) := by decide +kernel
  exact key a (by omega) b (by omega) s hs o ha.1 hb.1
theorem KA_lt {lr lp : Nat → Nat} (h : ∀ k, lr k ≤ 4 ∧ lp k ≤ 4) (s : Nat) : ∀ k, KA lr lp s k < 8 ^ k
  | 0 => by simp [KA]
  | k + 1 => by
    have h1 := KA_lt h s k
    have h2 : cl (lr k) (lp k) (dg s k) < 8 := cl_lt (h k).1 (h k).2
    have h3 : cl (lr k) (lp k) (dg s k) * 8 ^ k ≤ 7 * 8 ^ k := Nat.mul_le_mul_right _ (by omega)
    show KA lr lp s k + _ < 8 ^ (k + 1)
    rw [Nat.pow_succ]; omega
theorem KA_dg {lr lp : Nat → Nat} (h : ∀ k, lr k ≤ 4 ∧ lp k ≤ 4) (s : Nat) : ∀ c k, k < c → dg (KA lr lp s c) k = cl (lr k) (lp k) (dg s k)
  | 0, k, hk => by omega
  | c + 1, k, hk => by
    show dg (KA lr lp s c + cl (lr c) (lp c) (dg s c) * 8 ^ c) k = _
    rcases Nat.lt_or_ge k c with q | q
    · rw [dg_low (KA_lt h s c) q]; exact KA_dg h s c k q
    · rw [show k = c by omega, dg_top (KA_lt h s c) (cl_lt (h c).1 (h c).2)]
theorem bhR_dg (s x : Nat) : ∀ c k, k < c → dg (bhR s x c) k = sdA (dg s k) (on x k)
  | 0, k, hk => by omega
  | c + 1, k, hk => by
    show dg (bhR s x c + sdA (dg s c) (on x c) * 8 ^ c) k = _
    rcases Nat.lt_or_ge k c with q | q
    · rw [dg_low (bhR_lt s x c) q]; exact bhR_dg s x c k q
    · rw [show k = c by omega, dg_top (bhR_lt s x c) (sdA_lt _ _)]
theorem KA_next {lr lp : Nat → Nat} {cn s x : Nat} (hc : cn ≤ 3) (h : ∀ k, lr k ≤ 4 ∧ lp k ≤ 4) (h1 : ∀ k, k < cn → 1 ≤ lr k ∧ 1 ≤ lp k) : ∀ c, c ≤ cn → KA lr lp (bhR s x 3) c = nxA lr lp (KA lr lp s cn) x c
  | 0, _ => rfl
  | c + 1, hcn => by
    show KA lr lp (bhR s x 3) c + cl (lr c) (lp c) (dg (bhR s x 3) c) * 8 ^ c = nxA lr lp (KA lr lp s cn) x c + dgAfter (lr c) (lp c) (dg (KA lr lp s cn) c) (on x c) * 8 ^ c
    rw [KA_next hc h h1 c (by omega), KA_dg h s cn c (by omega), bhR_dg s x 3 c (by omega), cl_step ⟨(h1 c (by omega)).1, (h c).1⟩ ⟨(h1 c (by omega)).2, (h c).2⟩ (dg_lt _ _)]
/-- bits -/
def bts (f : Nat → Bool) : Nat → Nat
  | 0 => 0
  | k + 1 => bts f k ||| (if f k then 2 ^ k else 0)
def mk3 (a b c : Bool) : Nat → Bool := fun k => match k with
  | 0 => a
  | 1 => b
  | _ => c
theorem bts_3 (f : Nat → Bool) {c : Nat} (hc : c ≤ 3) : bts f c = bts (mk3 (f 0) (f 1) (f 2)) c := by
  rcases (show c = 0 ∨ c = 1 ∨ c = 2 ∨ c = 3 by omega) with rfl | rfl | rfl | rfl <;> rfl
theorem abA_b (g : Nat → Option Nat) : ∀ c, abA g c = bts (fun k => (g k).isSome) c
  | 0 => rfl
  | c + 1 => by
    show abA g c ||| _ = bts _ c ||| _
    rw [abA_b g c]
    cases h : g c <;> simp [h]
theorem rbA_b (st : Nat) : ∀ c, rbA st c = bts (fun k => decide (4 ≤ dg st k)) c
  | 0 => rfl
  | c + 1 => by
    show rbA st c ||| _ = bts _ c ||| _
    rw [rbA_b st c]
    simp only [decide_eq_true_eq]
theorem mrA_b (st : Nat) : ∀ c, mrA st c = bts (fun k => decide (4 ≤ dg st k ∧ dg st k ≠ 4)) c
  | 0 => rfl
  | c + 1 => by
    show mrA st c ||| _ = bts _ c ||| _
    rw [mrA_b st c]
    simp only [decide_eq_true_eq]
theorem mpA_b (st : Nat) : ∀ c, mpA st c = bts (fun k => decide (¬ 4 ≤ dg st k ∧ dg st k ≠ 0)) c
  | 0 => rfl
  | c + 1 => by
    show mpA st c ||| _ = bts _ c ||| _
    rw [mpA_b st c]
    simp only [decide_eq_true_eq]
def alB (a r p o : Bool) : Bool := if a then (if o then !p else !r) else !o
/-- the sets that the class tries -/
def tryB (mu fe x : Nat) : Bool := (List.range (2 ^ bcN fe)).any fun i => decide (x = mu ||| prt fe i)
set_option maxRecDepth 100000 in
theorem try_all : ∀ A0 A1 A2 R0 R1 R2 P0 P1 P2 : Bool, (List.range 4).all (fun c => (List.range 8).all (fun x => (!(R0 && P0) && !(R1 && P1) && !(R2 && P2)) == false ||
    (tryB (bts (mk3 R0 R1 R2) c &&& bts (mk3 A0 A1 A2) c) (dif (dif (bts (mk3 A0 A1 A2) c) (bts (mk3 R0 R1 R2) c &&& bts (mk3 A0 A1 A2) c)) (bts (mk3 P0 P1 P2) c)) x ==
      (decide (x < 2 ^ c) && (List.range c).all (fun k => alB (mk3 A0 A1 A2 k) (mk3 R0 R1 R2 k) (mk3 P0 P1 P2 k) (on x k)))))) = true := by decide +kernel
