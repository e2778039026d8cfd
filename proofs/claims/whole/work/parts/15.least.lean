/-! the least of several choices -/
theorem bc_step {CH LS : Option Nat} (h1 : ∀ v, CH = some v → v < 1125899906842624) (h2 : ∀ v, LS = some v → v < 1125899906842624) :
    (lg_cmp (oL CH) (-1) = 0 → omin LS CH = LS) ∧ (¬ lg_cmp (oL CH) (-1) = 0 → lg_cmp (oL LS) (-1) = 0 → omin LS CH = CH) ∧
    (¬ lg_cmp (oL CH) (-1) = 0 → ¬ lg_cmp (oL LS) (-1) = 0 → 0 ≤ lg_cmp (oL CH) (oL LS) → omin LS CH = LS) ∧ (¬ lg_cmp (oL CH) (-1) = 0 → ¬ lg_cmp (oL LS) (-1) = 0 → ¬ 0 ≤ lg_cmp (oL CH) (oL LS) → omin LS CH = CH) := by
  rw [oL_none h1, oL_none h2]
  cases CH with
  | none => cases LS <;> simp [omin]
  | some a =>
    cases LS with
    | none => simp [omin]
    | some b =>
      have ha := h1 a rfl
      have hb := h2 b rfl
      rw [show oL (some a) = lN a from rfl, show oL (some b) = lN b from rfl, lg_ge (by omega) (by omega)]
      simp only [omin]
      refine ⟨by simp, by simp, fun _ _ h => by rw [if_neg (by omega)], fun _ _ h => by rw [if_pos (by omega)]⟩
theorem omin_lt {x y : Option Nat} {C : Nat} (h1 : ∀ v, x = some v → v < C) (h2 : ∀ v, y = some v → v < C) : ∀ v, omin x y = some v → v < C := by
  intro v hv
  cases x with
  | none => exact h2 v (by simpa [omin] using hv)
  | some a => cases y with
    | none => exact h1 v (by simpa [omin] using hv)
    | some b =>
      simp only [omin] at hv
      split at hv
      · cases hv; exact h2 _ rfl
      · cases hv; exact h1 _ rfl
theorem bcF_lt {ch : Nat → Option Nat} {mu fe C : Nat} (h : ∀ i v, ch (mu ||| prt fe i) = some v → v < C) : ∀ i v, bcF ch mu fe i = some v → v < C
  | 0, v, hv => by cases hv
  | i + 1, v, hv => omin_lt (bcF_lt h i) (h i) v hv
/-- the sets that may be: what must run, what may -/
def muO (AB MR : Nat → Nat) (h fr : Nat) : Nat := MR fr &&& AB h
def feO (AB MR MP : Nat → Nat) (h fr : Nat) : Nat := dif (dif (AB h) (muO AB MR h fr)) (MP fr)
def bO (AB HE PO SX FP FN RB MR MP AF : Nat → Nat) (BE : Nat → Option Nat) (h fr : Nat) : Option Nat :=
  bcF (chO HE AF PO SX RB FP FN BE h fr) (muO AB MR h fr) (feO AB MR MP h fr) (2 ^ bcN (feO AB MR MP h fr))
theorem bO_congr {AB HE PO SX FP FN RB MR MP AF : Nat → Nat} {BE BE0 : Nat → Option Nat} {h fr : Nat} (e : ∀ j, BE ((h + 1) * 512 + j) = BE0 ((h + 1) * 512 + j)) : bO AB HE PO SX FP FN RB MR MP AF BE h fr = bO AB HE PO SX FP FN RB MR MP AF BE0 h fr := by
  have : chO HE AF PO SX RB FP FN BE h fr = chO HE AF PO SX RB FP FN BE0 h fr := by
    funext st; unfold chO; rw [e]
  unfold bO; rw [this]
theorem bO_lt {AB HE PO SX FP FN RB MR MP AF : Nat → Nat} {BE : Nat → Option Nat} {h fr B : Nat} (hB : pB AB HE PO SX FP FN RB MR MP AF) (hb : ∀ j v, BE ((h + 1) * 512 + j) = some v → v < B) : ∀ v, bO AB HE PO SX FP FN RB MR MP AF BE h fr = some v → v < B + 2402400008 := by
  obtain ⟨bAB, bHE, bPO, bSX, bFP, bFN, bRB, bMR, bMP, bAF⟩ := hB
  have h1 : muO AB MR h fr < 8 := an_lt _ (bMR _) _ (bAB _)
  have h2 : feO AB MR MP h fr < 8 := dif_lt _ (dif_lt _ (bAB _) _ h1) _ (bMP _)
  exact bcF_lt (fun i v hv => chO_lt (zbd_le bPO) bSX bFP (or_lt _ h1 _ (prt_lt h2 i)) hb v hv) _
/-- the states below i of hour h are filled in -/
def fiI (V : Nat → Option Nat) (h : Nat) (R : Nat → Nat) (BE0 : Nat → Option Nat) (i : Nat) (BE : Nat → Option Nat) : Prop :=
  (∀ j, j < i → BE (h * 512 + R j) = V (R j)) ∧ (∀ x, (x < h * 512 ∨ h * 512 + 512 ≤ x) → BE x = BE0 x) ∧ ∀ x, BE x = BE0 x ∨ ∃ st, BE x = V st
theorem fiI_next {V : Nat → Option Nat} {h i : Nat} {R : Nat → Nat} {BE0 BE : Nat → Option Nat} (hI : fiI V h R BE0 i BE) (hR : R i < 512) (hRj : ∀ j, R j < 512) : fiI V h R BE0 (i + 1) (va_up BE (h * 512 + R i) (V (R i))) := by
  obtain ⟨h1, h2, h3⟩ := hI
  refine ⟨fun j hj => ?_, fun x hx => ?_, fun x => ?_⟩
  · by_cases e : R j = R i
    · rw [e, va_up_self]
    · rw [va_up_ne _ _ (by omega)]
      exact h1 j (by rcases Nat.lt_or_ge j i with q | q; exact q; exact absurd (by rw [show j = i by omega]) e)
  · rw [va_up_ne _ _ (by have := hR; omega)]; exact h2 x hx
  · by_cases e : x = h * 512 + R i
    · rw [e, va_up_self]; exact Or.inr ⟨_, rfl⟩
    · rw [va_up_ne _ _ e]; exact h3 x
