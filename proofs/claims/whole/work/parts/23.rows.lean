/-! the hours from one on are as they should be -/
def roP (g q : Nat → Nat → Option Nat) (cn h : Nat) (AB HE PO : Nat → Nat) : Prop := AB h = abA (g h) cn ∧ (∀ x, x < 2 ^ cn → HE (h * 8 + x) = smA (g h) cn x) ∧ ∀ x, x < 2 ^ cn → PO (h * 8 + x) = smA (q h) cn x
def rowsP (g q : Nat → Nat → Option Nat) (lr lp sc : Nat → Nat) (cn : Nat) (FP FN : Nat → Nat) (lo ov : Nat) (AB HE PO : Nat → Nat) (BE : Nat → Option Nat) : Prop := ∀ h, lo ≤ h → ov ≤ h → h < 36 → roP g q cn h AB HE PO ∧ ∀ st, RelS lr lp cn st → BE (h * 512 + st) = Vp g q lr lp sc cn FP FN (36 - h) st
/-- what is known of machines and states -/
def stP (lr lp sc : Nat → Nat) (cn n : Nat) (R RB MR MP AF SX : Nat → Nat) : Prop := cn ≤ 3 ∧ n ≤ 512 ∧ (∀ j, lr j ≤ 4 ∧ lp j ≤ 4) ∧ (∀ j, j < cn → 1 ≤ lr j ∧ 1 ≤ lp j) ∧ (∀ j, R j < 512) ∧ (∀ j, j < n → RelS lr lp cn (R j)) ∧ (∀ st, RelS lr lp cn st → ∃ j, j < n ∧ R j = st) ∧ stOk lr lp cn n R RB MR MP AF ∧ ∀ x, x < 2 ^ cn → SX x = smA (fun k => some (sc k)) cn x
theorem p2cn {cn : Nat} (h : cn ≤ 3) : 2 ^ cn ≤ 8 ∧ 8 ^ cn ≤ 512 := by
  rcases (show cn = 0 ∨ cn = 1 ∨ cn = 2 ∨ cn = 3 by omega) with h | h | h | h <;> subst h <;> decide
theorem RelS_lt {lr lp : Nat → Nat} {cn st : Nat} (hc : cn ≤ 3) (h : RelS lr lp cn st) : st < 512 := by
  have := (p2cn hc).2; have := h.1; omega
theorem row_step {g q : Nat → Nat → Option Nat} {lr lp sc FP FN : Nat → Nat} {cn n h ov : Nat} {R RB MR MP AF SX AB HE PO AB' HE' PO' : Nat → Nat} {BE BE' : Nat → Option Nat} (hs : stP lr lp sc cn n R RB MR MP AF SX) (hh : h < 36)
    (hrow : rowsP g q lr lp sc cn FP FN (h + 1) ov AB HE PO BE) (hov : ov ≤ h) (h36 : ∀ st, st < 512 → BE (36 * 512 + st) = some 0) (hw : weI (g h) (q h) h AB HE PO cn AB' HE' PO') (hf : fiI (bO AB' HE' PO' SX FP FN RB MR MP AF BE h) h R BE n BE') : rowsP g q lr lp sc cn FP FN h ov AB' HE' PO' BE' := by
  obtain ⟨hc, hn, hlr, hlp, hR, hRr, hRs, hok, hSX⟩ := hs
  have hp := p2cn hc
  intro h' h1 h2 h3
  rcases Nat.lt_or_ge h h' with z | z
  · obtain ⟨⟨r1, r2, r3⟩, r4⟩ := hrow h' (by omega) h2 h3
    refine ⟨⟨(hw.1.2 h' (by omega)).trans r1, fun x hx => (hw.2.1.2.1 _ (by omega)).trans (r2 x hx), fun x hx => (hw.2.2.2.1 _ (by omega)).trans (r3 x hx)⟩, fun st hst => ?_⟩
    have := RelS_lt hc hst
    rw [hf.2.1 _ (by omega)]; exact r4 st hst
  · have e : h' = h := by omega
    subst e
    refine ⟨⟨hw.1.1, hw.2.1.1, hw.2.2.1⟩, fun st hst => ?_⟩
    obtain ⟨j, hj, rfl⟩ := hRs st hst
    obtain ⟨o1, o2, o3, o4⟩ := hok j hj
    rw [hf.1 j hj]
    rw [bO_pure (g := g h') (q := q h') (Vn := Vp g q lr lp sc cn FP FN (35 - h')) (lr := lr) (lp := lp) (sc := sc) (cn := cn) o1 o2 o3 o4 hw.1.1 hw.2.1.1 hw.2.2.1 hSX ?_]
    · rw [show 36 - h' = (35 - h') + 1 by omega]
      show _ = bPu (g (35 - (35 - h'))) (q (35 - (35 - h'))) lr lp sc cn (FP (35 - (35 - h'))) (FN (35 - (35 - h'))) _ _
      rw [show 35 - (35 - h') = h' by omega]
    · intro x hx
      have hnx := RelS_next (x := x) hlr hlp (hRr j hj)
      by_cases z2 : h' + 1 < 36
      · rw [(hrow (h' + 1) (by omega) (by omega) z2).2 _ hnx]; congr 1; omega
      · rw [show h' + 1 = 36 by omega, h36 _ (RelS_lt hc hnx), show 35 - h' = 0 by omega]; rfl
theorem pB_step {AB HE PO SX FP FN RB MR MP AF AB' HE' PO' : Nat → Nat} {g q : Nat → Option Nat} {h cn : Nat} (hc : cn ≤ 3) (hB : pB AB HE PO SX FP FN RB MR MP AF) (hw : weI g q h AB HE PO cn AB' HE' PO') : pB AB' HE' PO' SX FP FN RB MR MP AF := by
  obtain ⟨b1, b2, b3, b4⟩ := hB
  refine ⟨fun j => ?_, hw.2.1.2.2, hw.2.2.2.2, b4⟩
  by_cases e : j = h
  · rw [e, hw.1.1]; exact abA_lt hc
  · rw [hw.1.2 j e]; exact b1 j
theorem bcF_mem {ch : Nat → Option Nat} {mu fe v : Nat} : ∀ i, bcF ch mu fe i = some v → ∃ x, x < i ∧ ch (mu ||| prt fe x) = some v
  | 0, h => by cases h
  | i + 1, h => by
    have key : bcF ch mu fe i = some v ∨ ch (mu ||| prt fe i) = some v := by
      have h' : omin (bcF ch mu fe i) (ch (mu ||| prt fe i)) = some v := h
      cases h1 : bcF ch mu fe i with
      | none => rw [h1] at h'; exact Or.inr h'
      | some a => cases h2 : ch (mu ||| prt fe i) with
        | none => rw [h1, h2] at h'; exact Or.inl h'
        | some b =>
          rw [h1, h2] at h'
          simp only [omin] at h'
          split at h'
          · exact Or.inr h'
          · exact Or.inl h'
    rcases key with k | k
    · obtain ⟨x, h1, h2⟩ := bcF_mem i k; exact ⟨x, by omega, h2⟩
    · exact ⟨i, by omega, k⟩
theorem Vp_step {g q : Nat → Nat → Option Nat} {lr lp sc FP FN : Nat → Nat} {cn t st v : Nat} (hc : cn ≤ 3) (h : Vp g q lr lp sc cn FP FN (t + 1) st = some v) : v % 8 < 2 ^ cn ∧ ∃ w, Vp g q lr lp sc cn FP FN t (nxA lr lp st (v % 8) cn) = some w := by
  obtain ⟨i, -, h1⟩ := bcF_mem _ h
  have l1 : muP (g (35 - t)) cn st < 2 ^ cn := and_lt2 abA_lt2
  have l2 : feP (g (35 - t)) cn st < 2 ^ cn := and_lt2' (and_lt2' abA_lt2)
  have hx : muP (g (35 - t)) cn st ||| prt (feP (g (35 - t)) cn st) i < 2 ^ cn := Nat.or_lt_two_pow l1 (prt_lt2 l2 i)
  generalize muP (g (35 - t)) cn st ||| prt (feP (g (35 - t)) cn st) i = x at hx h1
  unfold chP at h1
  have hp := (p2cn hc).1
  split at h1
  · cases h1
  · cases hv : Vp g q lr lp sc cn FP FN t (nxA lr lp st x cn) with
    | none => rw [hv] at h1; cases h1
    | some w =>
      rw [hv] at h1
      have h2 := Option.some.inj h1
      have h3 : v % 8 = x := by rw [← h2]; show ((_ + _) * 8 + x) % 8 = x; omega
      rw [h3]; exact ⟨hx, w, hv⟩
/-- the plan goes on to its end -/
theorem lay_ok {g q : Nat → Nat → Option Nat} {lr lp sc FP FN : Nat → Nat} {cn n ov sta : Nat} {R RB MR MP AF SX AB HE PO : Nat → Nat} {BE : Nat → Option Nat} (hs : stP lr lp sc cn n R RB MR MP AF SX) (hrow : rowsP g q lr lp sc cn FP FN 0 ov AB HE PO BE) (h36 : ∀ st, st < 512 → BE (36 * 512 + st) = some 0) (hsta : RelS lr lp cn sta) (hne : ¬ BE (ov * 512 + sta) = none) :
    ∀ i, ov + i ≤ 36 → RelS lr lp cn (pst BE AF ov sta i) ∧ ∃ v, BE ((ov + i) * 512 + pst BE AF ov sta i) = some v
  | 0, _ => ⟨hsta, Option.ne_none_iff_exists'.mp hne⟩
  | i + 1, hi => by
    obtain ⟨h1, v, hv⟩ := lay_ok hs hrow h36 hsta hne i (by omega)
    obtain ⟨hc, hn, hlr, hlp, hR, hRr, hRs, hok, hSX⟩ := hs
    have hV := (hrow (ov + i) (by omega) (by omega) (by omega)).2 _ h1
    rw [hv, show 36 - (ov + i) = (35 - (ov + i)) + 1 by omega] at hV
    obtain ⟨hx, w, hw⟩ := Vp_step hc hV.symm
    obtain ⟨j, hj, hRj⟩ := hRs _ h1
    have e : pst BE AF ov sta (i + 1) = nxA lr lp (pst BE AF ov sta i) (v % 8) cn := by
      show AF (pst BE AF ov sta i * 8 + (BE ((ov + i) * 512 + pst BE AF ov sta i)).getD 0 % 8) = _
      rw [hv]; show AF (pst BE AF ov sta i * 8 + v % 8) = _
      rw [← hRj]; exact (hok j hj).2.2.2 _ hx
    have hrel : RelS lr lp cn (pst BE AF ov sta (i + 1)) := by rw [e]; exact RelS_next hlr hlp h1
    refine ⟨hrel, ?_⟩
    by_cases z : ov + (i + 1) < 36
    · rw [(hrow (ov + (i + 1)) (by omega) (by omega) z).2 _ hrel, e, show 36 - (ov + (i + 1)) = 35 - (ov + i) by omega]; exact ⟨w, hw⟩
    · rw [show ov + (i + 1) = 36 by omega]; exact ⟨0, h36 _ (RelS_lt hc hrel)⟩
/-- the plan lies in the sets from hour ov on -/
def laid (BE : Nat → Option Nat) (AF : Nat → Nat) (ov sta : Nat) (SE : Nat → Int32) : Prop := (¬ BE (ov * 512 + sta) = none ∧ ∀ x, ov + x < 36 → SE (ov + x) = nI (pset BE AF ov sta x)) ∨ (BE (ov * 512 + sta) = none ∧ ∀ x, ov + x < 36 → SE (ov + x) = -1)
/-- all that the planner's arrays keep to: hours from stl on are right, and with stl = 0 the plan is laid -/
def plP (g q : Nat → Nat → Option Nat) (lr lp sc : Nat → Nat) (cn n ov sta stl : Nat) (FP FN R RB MR MP AF SX AB HE PO : Nat → Nat) (BE : Nat → Option Nat) (SE : Nat → Int32) : Prop :=
  stP lr lp sc cn n R RB MR MP AF SX ∧ pB AB HE PO SX FP FN RB MR MP AF ∧ bBd BE ∧ (∀ st, st < 512 → BE (36 * 512 + st) = some 0) ∧ rowsP g q lr lp sc cn FP FN stl ov AB HE PO BE ∧ ov ≤ 36 ∧ stl ≤ 36 ∧ RelS lr lp cn sta ∧ (stl = 0 → laid BE AF ov sta SE)
theorem hm1 {x ov : Nat} (hx : x ≤ 36) (ho : ov ≤ 36) : nI x - 1 < nI ov ↔ x ≤ ov := by
  rw [Int32.lt_iff_toInt_lt, nI_toInt (by omega), show (1 : Int32) = nI 1 from rfl, pk_sub_toInt (by omega) (by omega)]
  omega
