/-! the same, without arrays: what the hours from one on cost at least, by the state before it -/
def chP (g q : Nat → Option Nat) (lr lp sc : Nat → Nat) (cn pr nd : Nat) (Vn : Nat → Option Nat) (st x : Nat) : Option Nat :=
  if smA g cn x < nd then none else (Vn (nxA lr lp st x cn)).map fun v => (v / 8 + (smA q cn x * pr + smA (fun k => some (sc k)) cn (dif x (rbA st cn)))) * 8 + x
def muP (g : Nat → Option Nat) (cn st : Nat) : Nat := mrA st cn &&& abA g cn
def feP (g : Nat → Option Nat) (cn st : Nat) : Nat := dif (dif (abA g cn) (muP g cn st)) (mpA st cn)
def bPu (g q : Nat → Option Nat) (lr lp sc : Nat → Nat) (cn pr nd : Nat) (Vn : Nat → Option Nat) (st : Nat) : Option Nat :=
  bcF (chP g q lr lp sc cn pr nd Vn st) (muP g cn st) (feP g cn st) (2 ^ bcN (feP g cn st))
/-- t hours are left -/
def Vp (g q : Nat → Nat → Option Nat) (lr lp sc : Nat → Nat) (cn : Nat) (FP FN : Nat → Nat) : Nat → Nat → Option Nat
  | 0, _ => some 0
  | t + 1, st => bPu (g (35 - t)) (q (35 - t)) lr lp sc cn (FP (35 - t)) (FN (35 - t)) (Vp g q lr lp sc cn FP FN t) st
/-- the states that there are -/
def RelS (lr lp : Nat → Nat) (cn st : Nat) : Prop := st < 8 ^ cn ∧ ∀ k, k < cn → rch (lr k) (lp k) (dg st k)
theorem rch_after {a b d : Nat} {o : Bool} (ha : 1 ≤ a) (hb : 1 ≤ b) (ha4 : a ≤ 4) (hb4 : b ≤ 4) (h : rch a b d) : rch a b (dgAfter a b d o) := by
  unfold rch dgAfter at *
  cases o <;> grind
theorem nxA_dg {lr lp : Nat → Nat} (h : ∀ k, lr k ≤ 4 ∧ lp k ≤ 4) (st x : Nat) : ∀ c k, k < c → dg (nxA lr lp st x c) k = dgAfter (lr k) (lp k) (dg st k) (on x k)
  | 0, k, hk => by omega
  | c + 1, k, hk => by
    show dg (nxA lr lp st x c + dgAfter (lr c) (lp c) (dg st c) (on x c) * 8 ^ c) k = _
    rcases Nat.lt_or_ge k c with q | q
    · rw [dg_low (nxA_lt h st x c) q]; exact nxA_dg h st x c k q
    · rw [show k = c by omega, dg_top (nxA_lt h st x c) (dgAfter_lt (dg_lt _ _) (h c).1 (h c).2)]
theorem RelS_next {lr lp : Nat → Nat} {cn st x : Nat} (h : ∀ k, lr k ≤ 4 ∧ lp k ≤ 4) (h1 : ∀ k, k < cn → 1 ≤ lr k ∧ 1 ≤ lp k) (hs : RelS lr lp cn st) : RelS lr lp cn (nxA lr lp st x cn) :=
  ⟨nxA_lt h st x cn, fun k hk => by rw [nxA_dg h st x cn k hk]; exact rch_after (h1 k hk).1 (h1 k hk).2 (h k).1 (h k).2 (hs.2 k hk)⟩
theorem abA_lt2 {g : Nat → Option Nat} : ∀ {k : Nat}, abA g k < 2 ^ k
  | 0 => by show 0 < 1; omega
  | k + 1 => by
    have h1 := abA_lt2 (g := g) (k := k)
    have e : 2 ^ (k + 1) = 2 ^ k + 2 ^ k := by rw [Nat.pow_succ]; omega
    refine Nat.or_lt_two_pow (by omega) ?_
    have h2 : 0 < 2 ^ k := Nat.pow_pos (by omega)
    split <;> omega
theorem and_lt2 {a b k : Nat} (h : b < 2 ^ k) : a &&& b < 2 ^ k := Nat.and_lt_two_pow a h
theorem and_lt2' {a b k : Nat} (h : a < 2 ^ k) : a &&& b < 2 ^ k := by rw [Nat.and_comm]; exact and_lt2 h
theorem prt_lt2 {fr k : Nat} (h : fr < 2 ^ k) : ∀ i, prt fr i < 2 ^ k
  | 0 => Nat.pow_pos (by omega)
  | i + 1 => and_lt2 h
theorem bcF_congr {ch ch' : Nat → Option Nat} {mu fe : Nat} (h : ∀ i, ch (mu ||| prt fe i) = ch' (mu ||| prt fe i)) : ∀ i, bcF ch mu fe i = bcF ch' mu fe i
  | 0 => rfl
  | i + 1 => by show omin _ _ = omin _ _; rw [bcF_congr h i, h i]
/-- the arrays' best choice is the pure one -/
theorem bO_pure {AB HE PO SX FP FN RB MR MP AF : Nat → Nat} {BE : Nat → Option Nat} {h st cn : Nat} {g q : Nat → Option Nat} {lr lp sc : Nat → Nat} {Vn : Nat → Option Nat} (hb : RB st = rbA st cn) (hmr : MR st = mrA st cn) (hmp : MP st = mpA st cn) (ha : ∀ x, x < 2 ^ cn → AF (st * 8 + x) = nxA lr lp st x cn)
    (hA : AB h = abA g cn) (hH : ∀ x, x < 2 ^ cn → HE (h * 8 + x) = smA g cn x) (hP : ∀ x, x < 2 ^ cn → PO (h * 8 + x) = smA q cn x) (hS : ∀ x, x < 2 ^ cn → SX x = smA (fun k => some (sc k)) cn x) (hV : ∀ x, x < 2 ^ cn → BE ((h + 1) * 512 + nxA lr lp st x cn) = Vn (nxA lr lp st x cn)) :
    bO AB HE PO SX FP FN RB MR MP AF BE h st = bPu g q lr lp sc cn (FP h) (FN h) Vn st := by
  have e1 : muO AB MR h st = muP g cn st := by unfold muO muP; rw [hmr, hA]
  have e2 : feO AB MR MP h st = feP g cn st := by unfold feO feP; rw [e1, hA, hmp]
  have l1 : muP g cn st < 2 ^ cn := and_lt2 abA_lt2
  have l2 : feP g cn st < 2 ^ cn := and_lt2' (and_lt2' abA_lt2)
  unfold bO bPu
  rw [e1, e2]
  refine bcF_congr (fun i => ?_) _
  have hx : muP g cn st ||| prt (feP g cn st) i < 2 ^ cn := Nat.or_lt_two_pow l1 (prt_lt2 l2 i)
  generalize muP g cn st ||| prt (feP g cn st) i = x at hx ⊢
  unfold chO chP
  rw [hH x hx, ha x hx, hV x hx, hP x hx, hb, hS (dif x (rbA st cn)) (and_lt2' hx)]
/-- the bounds of costs, hour by hour -/
def bBd (BE : Nat → Option Nat) : Prop := ∀ x v, BE x = some v → v ≤ (36 - x / 512) * 2402400008
theorem bBd_row {BE : Nat → Option Nat} (h : bBd BE) {r : Nat} : ∀ j v, BE (r * 512 + j) = some v → v < (36 - r) * 2402400008 + 1 := by
  intro j v hv
  have h1 := h _ v hv
  have h2 : 36 - (r * 512 + j) / 512 ≤ 36 - r := by omega
  have h3 : (36 - (r * 512 + j) / 512) * 2402400008 ≤ (36 - r) * 2402400008 := Nat.mul_le_mul_right _ h2
  omega
theorem bBd_1 {BE : Nat → Option Nat} (h : bBd BE) : ∀ x v, BE x = some v → v < 1000000000000 := by
  intro x v hv
  have h1 := h x v hv
  have h3 : (36 - x / 512) * 2402400008 ≤ 36 * 2402400008 := Nat.mul_le_mul_right _ (by omega)
  omega
theorem bBd_fill {AB HE PO SX FP FN RB MR MP AF R : Nat → Nat} {BE U : Nat → Option Nat} {h n : Nat} (hh : h < 36) (hB : pB AB HE PO SX FP FN RB MR MP AF) (hb : bBd BE) (hf : fiI (bO AB HE PO SX FP FN RB MR MP AF BE h) h R BE n U) : bBd U := by
  intro x v hv
  by_cases q : x < h * 512 ∨ h * 512 + 512 ≤ x
  · rw [hf.2.1 x q] at hv; exact hb x v hv
  · rcases hf.2.2 x with e | ⟨st, e⟩
    · rw [e] at hv; exact hb x v hv
    · rw [e] at hv
      have h1 := bO_lt hB (bBd_row hb (r := h + 1)) v hv
      rw [show x / 512 = h by omega]
      have h2 : (36 - (h + 1)) * 2402400008 + 2402400008 = (36 - h) * 2402400008 := by
        rw [show 36 - h = (36 - (h + 1)) + 1 by omega, Nat.add_mul]
      omega
/-- the best plan's states and sets, read off the arrays -/
def pst (BE : Nat → Option Nat) (AF : Nat → Nat) (ov sta : Nat) : Nat → Nat
  | 0 => sta
  | i + 1 => AF (pst BE AF ov sta i * 8 + (BE ((ov + i) * 512 + pst BE AF ov sta i)).getD 0 % 8)
def pset (BE : Nat → Option Nat) (AF : Nat → Nat) (ov sta i : Nat) : Nat := (BE ((ov + i) * 512 + pst BE AF ov sta i)).getD 0 % 8
def lyI (BE : Nat → Option Nat) (AF : Nat → Nat) (ov sta : Nat) (S0 : Nat → Int32) (i : Nat) (SE : Nat → Int32) : Prop := (∀ x, x < i → SE (ov + x) = nI (pset BE AF ov sta x)) ∧ ∀ j, (j < ov ∨ ov + i ≤ j) → SE j = S0 j
def lnI (ov : Nat) (S0 : Nat → Int32) (i : Nat) (SE : Nat → Int32) : Prop := (∀ x, x < i → SE (ov + x) = -1) ∧ ∀ j, (j < ov ∨ ov + i ≤ j) → SE j = S0 j
theorem lyI_next {BE : Nat → Option Nat} {AF : Nat → Nat} {ov sta i : Nat} {S0 SE : Nat → Int32} (h : lyI BE AF ov sta S0 i SE) : lyI BE AF ov sta S0 (i + 1) (upd SE (ov + i) (nI (pset BE AF ov sta i))) := by
  refine ⟨fun x hx => ?_, fun j hj => ?_⟩
  · rcases Nat.lt_or_ge x i with q | q
    · rw [pk_un (by omega)]; exact h.1 x q
    · rw [show x = i by omega, pk_us]
  · rw [pk_un (by omega)]; exact h.2 j (by omega)
theorem lnI_next {ov i : Nat} {S0 SE : Nat → Int32} (h : lnI ov S0 i SE) : lnI ov S0 (i + 1) (upd SE (ov + i) (-1)) := by
  refine ⟨fun x hx => ?_, fun j hj => ?_⟩
  · rcases Nat.lt_or_ge x i with q | q
    · rw [pk_un (by omega)]; exact h.1 x q
    · rw [show x = i by omega, pk_us]
  · rw [pk_un (by omega)]; exact h.2 j (by omega)
