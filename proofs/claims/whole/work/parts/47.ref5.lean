/-! the reference: hours pass -/
theorem may_g {g : Nat → Option Nat} {lr lp : Nat → Nat} {cn nd st x : Nat} (hm : mayR g lr lp cn nd st x = true) : ∀ k, k < cn → on x k = true → (g k).isSome = true := by
  have h1 : gdR g lr lp st x cn = true := (Bool.and_eq_true_iff.mp hm).1
  clear hm
  induction cn with
  | zero => intro k hk; omega
  | succ n ih =>
    intro k hk ho
    have h2 := Bool.and_eq_true_iff.mp (show (gdR g lr lp st x n && alR (g n) (lr n) (lp n) (dg st n) (on x n)) = true from h1)
    rcases Nat.lt_or_ge k n with q | q
    · exact ih h2.1 k q ho
    · obtain rfl : k = n := by omega
      have h3 := h2.2
      unfold alR at h3
      cases hg : (g k).isSome with
      | true => rfl
      | false => rw [hg, ho] at h3; simp at h3
theorem lsP_cons (PA : Nat → Nat) : ∀ (T ov : Nat), lsP PA ov (T + 1) = PA ov :: lsP PA (ov + 1) T
  | 0, _ => rfl
  | T + 1, ov => by
    show lsP PA ov (T + 1) ++ [PA (ov + (T + 1))] = PA ov :: (lsP PA (ov + 1) T ++ [PA (ov + 1 + T)])
    rw [lsP_cons PA T ov, show ov + (T + 1) = ov + 1 + T by omega]; rfl
theorem toN_at (S : Nat → Int64) (a b c d j : Nat) : toN S a b c d j = if j = 3 then S 3 + lN d else if j = 2 then S 2 + lN c else if j = 1 then S 1 + lN b else if j = 0 then S 0 + lN a else S j := by
  unfold toN vp_updL
  split <;> simp_all
theorem toN_0 (S : Nat → Int64) (a : Nat) : vp_updL S 0 (S 0 + lN a) = toN S a 0 0 0 := by
  funext j
  rw [toN_at]; unfold vp_updL
  have e : lN 0 = 0 := rfl
  rw [e, Int64.add_zero, Int64.add_zero, Int64.add_zero]
  repeat' split
  all_goals first | rfl | simp_all
theorem toN_1 (S : Nat → Int64) (a b c d x : Nat) : vp_updL (toN S a b c d) 1 (toN S a b c d 1 + lN x) = toN S a (b + x) c d := by
  funext j
  rw [toN_at S a (b + x)]; unfold vp_updL; rw [toN_at, toN_at]
  by_cases h : j = 1
  · subst h; simp [← lN_add, Int64.add_assoc]
  · rw [if_neg h]; simp [h]
theorem toN_2 (S : Nat → Int64) (a b c d x : Nat) : vp_updL (toN S a b c d) 2 (toN S a b c d 2 + lN x) = toN S a b (c + x) d := by
  funext j
  rw [toN_at S a b (c + x)]; unfold vp_updL; rw [toN_at, toN_at]
  by_cases h : j = 2
  · subst h; simp [← lN_add, Int64.add_assoc]
  · rw [if_neg h]; simp [h]
theorem toN_3 (S : Nat → Int64) (a b c d x : Nat) : vp_updL (toN S a b c d) 3 (toN S a b c d 3 + lN x) = toN S a b c (d + x) := by
  funext j
  rw [toN_at S a b c (d + x)]; unfold vp_updL; rw [toN_at, toN_at]
  by_cases h : j = 3
  · subst h; simp [← lN_add, Int64.add_assoc]
  · rw [if_neg h]; simp [h]
/-- j hours have passed: the stand, the sums, what ran -/
def rnR (may : Nat → Nat → Nat → Bool) (nx : Nat → Nat → Nat) (co : Nat → Nat → Nat → Nat) (B : Nat) (he : Nat → Nat → Nat) (nd : Nat → Nat) (pw : Nat → Nat → Nat) (ov sn : Nat) (SU : Nat → Int64) (RN : Nat → Int32) : Nat → Nat → (Nat → Int64) → (Nat → Int32) → Prop
  | 0, s, S, N => s = sn ∧ S = SU ∧ N = RN
  | j + 1, s, S, N => ∃ s0 S0 N0 x xs, rnR may nx co B he nd pw ov sn SU RN j s0 S0 N0 ∧ ov + j < 36 ∧ isB may nx co B (ov + j) s0 (36 - (ov + j)) (x :: xs) ∧ s = nx s0 x ∧ S = toN S0 (co (ov + j) s0 x) (he (ov + j) x) (nd (ov + j)) (pw (ov + j) x) ∧ N = upd N0 (ov + j) (nI x)
abbrev rnS : Type := Nat × Nat × (Nat → Int64) × (Nat → Int32) × fdS
abbrev rJ (u : rnS) : Nat := u.1
abbrev rS (u : rnS) : Nat := u.2.1
abbrev rU_ (u : rnS) : Nat → Int64 := u.2.2.1
abbrev rN (u : rnS) : Nat → Int32 := u.2.2.2.1
abbrev rW (u : rnS) : fdS := u.2.2.2.2
