/-! the reference: a plan that is known -/
abbrev fdS : Type := hmS × (Nat → Nat) × Int64 × Nat × Nat
abbrev fV (u : fdS) : hmS := u.1
abbrev fPA (u : fdS) : Nat → Nat := u.2.1
abbrev fC (u : fdS) : Int64 := u.2.2.1
abbrev fK (u : fdS) : Nat := u.2.2.2.1
abbrev fF (u : fdS) : Nat := u.2.2.2.2
def fdI (may : Nat → Nat → Nat → Bool) (nx : Nat → Nat → Nat) (co : Nat → Nat → Nat → Nat) (B ov sn : Nat) (u : fdS) : Prop :=
  gbI (uKX (fV u)) (uCX (fV u)) (uWY (fV u)) ∧ fK u ≤ 1 ∧ fF u ≤ 1 ∧ (fK u = 1 → srP may nx co B ov sn (nI (fF u)) (fPA u) (fC u))
theorem n01 {a : Nat} (h : a ≤ 1) : nI a = 0 ∨ nI a = 1 := by
  rcases (show a = 0 ∨ a = 1 by omega) with rfl | rfl
  · exact Or.inl rfl
  · exact Or.inr rfl
section SR
variable {may : Nat → Nat → Nat → Bool} {nx : Nat → Nat → Nat} {co : Nat → Nat → Nat → Nat} {B ov sn : Nat}
theorem sr_1 {f : Nat} {PA : Nat → Nat} {cst : Int64} (h : srP may nx co B ov sn (nI f) PA cst) (hf : f = 1) : isB may nx co B ov sn (36 - ov) (lsP PA ov (36 - ov)) ∧ cst = lN (coL nx co ov sn (lsP PA ov (36 - ov))) := by
  subst hf
  rcases h with ⟨_, a, b⟩ | ⟨q, _⟩
  · exact ⟨a, b⟩
  · exact absurd q (by decide)
theorem sr_0 {f : Nat} {PA : Nat → Nat} {cst : Int64} (h : srP may nx co B ov sn (nI f) PA cst) (hf : f = 0) : ∀ ys : List Nat, ys.length = 36 - ov → ¬ okL may nx B ov sn ys := by
  subst hf
  rcases h with ⟨q, _⟩ | ⟨_, b⟩
  · exact absurd q (by decide)
  · exact b
theorem lsP_mem {PA : Nat → Nat} {ov i : Nat} : ∀ {T : Nat}, i < T → PA (ov + i) ∈ lsP PA ov T
  | 0, h => by omega
  | T + 1, h => by
    show PA (ov + i) ∈ lsP PA ov T ++ [PA (ov + T)]
    rcases Nat.lt_or_ge i T with q | q
    · exact List.mem_append_left _ (lsP_mem q)
    · rw [show i = T by omega]; exact List.mem_append_right _ (List.mem_singleton.mpr rfl)
theorem isB_lt {T i : Nat} {PA : Nat → Nat} (hB : B ≤ 8) (h : isB may nx co B ov sn T (lsP PA ov T)) (hi : i < T) : PA (ov + i) < 8 := okL_all hB h.2.1 _ (lsP_mem hi)
end SR
/-- starts of machine kk in the plan -/
def stB (PA : Nat → Nat) (kk : Nat) (b0 : Bool) (ov : Nat) : Nat → Bool
  | 0 => b0
  | t + 1 => on (PA (ov + t)) kk
def stC (PA : Nat → Nat) (kk : Nat) (b0 : Bool) (ov : Nat) : Nat → Nat
  | 0 => 0
  | t + 1 => stC PA kk b0 ov t + (if on (PA (ov + t)) kk && !stB PA kk b0 ov t then 1 else 0)
theorem stC_le (PA : Nat → Nat) (kk : Nat) (b0 : Bool) (ov : Nat) : ∀ t, stC PA kk b0 ov t ≤ t
  | 0 => Nat.le_refl 0
  | t + 1 => by have := stC_le PA kk b0 ov t; show stC PA kk b0 ov t + _ ≤ _; split <;> omega
