/-! one hour more of the reference's search -/
theorem lg_c3 {a b : Nat} (ha : a < 9223372036854775808) (hb : b < 9223372036854775808) : (a < b ∧ lg_cmp (lN a) (lN b) = -1) ∨ (a = b ∧ lg_cmp (lN a) (lN b) = 0) ∨ (b < a ∧ lg_cmp (lN a) (lN b) = 1) := by
  have ea : (lN a).toInt = (a : Int) := pk_lT ha
  have eb : (lN b).toInt = (b : Int) := pk_lT hb
  rcases Nat.lt_trichotomy a b with h | h | h
  · left; refine ⟨h, ?_⟩
    unfold lg_cmp
    grind [Int64.lt_iff_toInt_lt, Int64.toInt_inj]
  · right; left; subst h; refine ⟨rfl, ?_⟩
    unfold lg_cmp
    grind [Int64.lt_iff_toInt_lt, Int64.toInt_inj]
  · right; right; refine ⟨h, ?_⟩
    unfold lg_cmp
    grind [Int64.lt_iff_toInt_lt, Int64.toInt_inj]
section CQ
variable {a b : Nat}
theorem cq_lt (c : lg_cmp (lN a) (lN b) < 0) (ha : a < 9223372036854775808) (hb : b < 9223372036854775808) : a < b := by
  rcases lg_c3 ha hb with ⟨h, e⟩ | ⟨h, e⟩ | ⟨h, e⟩ <;> rw [e] at c
  · exact h
  · exact absurd c (by decide)
  · exact absurd c (by decide)
theorem cq_ltN (c : ¬ lg_cmp (lN a) (lN b) < 0) (ha : a < 9223372036854775808) (hb : b < 9223372036854775808) : b ≤ a := by
  rcases lg_c3 ha hb with ⟨h, e⟩ | ⟨h, e⟩ | ⟨h, e⟩ <;> rw [e] at c
  · exact absurd (by decide) c
  · omega
  · omega
theorem cq_ne (c : ¬ lg_cmp (lN a) (lN b) = 0) (ha : a < 9223372036854775808) (hb : b < 9223372036854775808) : a ≠ b := by
  rcases lg_c3 ha hb with ⟨h, e⟩ | ⟨h, e⟩ | ⟨h, e⟩ <;> rw [e] at c
  · omega
  · exact absurd rfl c
  · omega
theorem cq_neN (c : lg_cmp (lN a) (lN b) = 0) (ha : a < 9223372036854775808) (hb : b < 9223372036854775808) : a = b := by
  rcases lg_c3 ha hb with ⟨h, e⟩ | ⟨h, e⟩ | ⟨h, e⟩ <;> rw [e] at c
  · exact absurd c (by decide)
  · exact h
  · exact absurd c (by decide)
end CQ
theorem ctR_le {q : Nat → Option Nat} {ce : Nat → Nat} {pr st x : Nat} (hq : ∀ k v, q k = some v → v ≤ 100000) (hc : ∀ k, ce k ≤ 100000) (hp : pr ≤ 1000) : ∀ k, ctR q ce pr st x k ≤ 100100000 * k
  | 0 => Nat.le_refl 0
  | k + 1 => by
    have h1 := ctR_le (st := st) (x := x) hq hc hp k
    have h2 : (q k).getD 0 ≤ 100000 := by
      cases h : q k with
      | none => simp
      | some v => exact hq k v h
    have h3 : (q k).getD 0 * pr ≤ 100000 * 1000 := Nat.mul_le_mul h2 hp
    have h4 := hc k
    show ctR q ce pr st x k + _ + _ ≤ _
    split <;> split <;> omega
abbrev hmS : Type := (Nat → Int32) × (Nat → Int32) × (Nat → Bool) × (Nat → Nat) × (Nat → Nat) × (Nat → Bool) × (Nat → Nat) × (Nat → Nat) × (Nat → Nat) × (Nat → Bool) × (Nat → Nat)
abbrev uHN (u : hmS) : Nat → Int32 := u.1
abbrev uPN (u : hmS) : Nat → Int32 := u.2.1
abbrev uTH (u : hmS) : Nat → Bool := u.2.2.1
abbrev uCO (u : hmS) : Nat → Nat := u.2.2.2.1
abbrev uRK (u : hmS) : Nat → Nat := u.2.2.2.2.1
abbrev uTX (u : hmS) : Nat → Bool := u.2.2.2.2.2.1
abbrev uCX (u : hmS) : Nat → Nat := u.2.2.2.2.2.2.1
abbrev uKX (u : hmS) : Nat → Nat := u.2.2.2.2.2.2.2.1
abbrev uWY (u : hmS) : Nat → Nat := u.2.2.2.2.2.2.2.2.1
abbrev uSE (u : hmS) : Nat → Bool := u.2.2.2.2.2.2.2.2.2.1
abbrev uPL (u : hmS) : Nat → Nat := u.2.2.2.2.2.2.2.2.2.2
/-- the pairs of a state and a set below i are weighed -/
def hmI (may : Nat → Nat → Bool) (nx co : Nat → Nat → Nat) (B : Nat) (TH : Nat → Bool) (CO RK : Nat → Nat) (h : Nat) (W0 : Nat → Nat) (i : Nat) (TX : Nat → Bool) (CX KX WY : Nat → Nat) : Prop :=
  (∀ to, to < 512 → (TX to = false ∧ ∀ s x, 8 * s + x < i → x < B → TH s = true → may s x = true → nx s x ≠ to) ∨
    (TX to = true ∧ ∃ s x, 8 * s + x < i ∧ x < B ∧ TH s = true ∧ may s x = true ∧ nx s x = to ∧ CX to = CO s + co s x ∧ KX to = 8 * RK s + x ∧ WY (512 * h + to) = 8 * s + x ∧
      ∀ s' x', 8 * s' + x' < i → x' < B → TH s' = true → may s' x' = true → nx s' x' = to → CX to < CO s' + co s' x' ∨ (CX to = CO s' + co s' x' ∧ KX to ≤ 8 * RK s' + x'))) ∧
  ∀ j, (j < 512 * h ∨ 512 * h + 512 ≤ j) → WY j = W0 j
section HMI
variable {may : Nat → Nat → Bool} {nx co : Nat → Nat → Nat} {B : Nat} {TH : Nat → Bool} {CO RK : Nat → Nat} {h : Nat} {W0 : Nat → Nat} {i : Nat} {TX : Nat → Bool} {CX KX WY : Nat → Nat}
theorem hmI_skip {i' : Nat} (hI : hmI may nx co B TH CO RK h W0 i TX CX KX WY) (hi : i ≤ i') (hn : ∀ s x, i ≤ 8 * s + x → 8 * s + x < i' → x < B → TH s = true → may s x = true → False) : hmI may nx co B TH CO RK h W0 i' TX CX KX WY := by
  refine ⟨fun to hto => ?_, hI.2⟩
  rcases hI.1 to hto with ⟨h1, h2⟩ | ⟨h1, s, x, h2, h3, h4, h5, h6, h7, h8, h9, h10⟩
  · refine Or.inl ⟨h1, fun s x a b c d => ?_⟩
    rcases Nat.lt_or_ge (8 * s + x) i with q | q
    · exact h2 s x q b c d
    · exact absurd (hn s x q a b c d) id
  · refine Or.inr ⟨h1, s, x, by omega, h3, h4, h5, h6, h7, h8, h9, fun s' x' a b c d e => ?_⟩
    rcases Nat.lt_or_ge (8 * s' + x') i with q | q
    · exact h10 s' x' q b c d e
    · exact absurd (hn s' x' q a b c d) id
theorem hmI_up {s x : Nat} (hI : hmI may nx co B TH CO RK h W0 (8 * s + x) TX CX KX WY) (hx : x < B) (hB : B ≤ 8) (hth : TH s = true) (hmy : may s x = true) (hto : nx s x < 512)
    (hbet : TX (nx s x) = true → CO s + co s x < CX (nx s x) ∨ (CO s + co s x = CX (nx s x) ∧ 8 * RK s + x < KX (nx s x))) :
    hmI may nx co B TH CO RK h W0 (8 * s + (x + 1)) (va_up TX (nx s x) true) (va_up CX (nx s x) (CO s + co s x)) (va_up KX (nx s x) (8 * RK s + x)) (va_up WY (512 * h + nx s x) (8 * s + x)) := by
  refine ⟨fun to ht => ?_, fun j hj => ?_⟩
  · by_cases e : to = nx s x
    · subst e
      rw [va_up_self, va_up_self, va_up_self, va_up_self]
      refine Or.inr ⟨rfl, s, x, by omega, hx, hth, hmy, rfl, rfl, rfl, rfl, fun s' x' a b c d e => ?_⟩
      rcases Nat.lt_or_ge (8 * s' + x') (8 * s + x) with q | q
      · rcases hI.1 _ ht with ⟨h1, h2⟩ | ⟨h1, s0, x0, h2, h3, h4, h5, h6, h7, h8, h9, h10⟩
        · exact absurd e (h2 s' x' q b c d)
        · have k1 := hbet h1
          have k2 := h10 s' x' q b c d e
          omega
      · have e1 : s' = s := by omega
        have e2 : x' = x := by omega
        subst e1 e2
        exact Or.inr ⟨rfl, Nat.le_refl _⟩
    · rw [va_up_ne _ _ e, va_up_ne _ _ e, va_up_ne _ _ e, va_up_ne _ _ (show 512 * h + to ≠ 512 * h + nx s x by omega)]
      have key : ∀ s' x', 8 * s' + x' < 8 * s + (x + 1) → x' < B → nx s' x' = to → 8 * s' + x' < 8 * s + x := by
        intro s' x' a b c
        rcases Nat.lt_or_ge (8 * s' + x') (8 * s + x) with q | q
        · exact q
        · have e1 : s' = s := by omega
          have e2 : x' = x := by omega
          subst e1 e2
          exact absurd c.symm e
      rcases hI.1 to ht with ⟨h1, h2⟩ | ⟨h1, s0, x0, h2, h3, h4, h5, h6, h7, h8, h9, h10⟩
      · exact Or.inl ⟨h1, fun s' x' a b c d f => h2 s' x' (key s' x' a b f) b c d f⟩
      · exact Or.inr ⟨h1, s0, x0, by omega, h3, h4, h5, h6, h7, h8, h9, fun s' x' a b c d f => h10 s' x' (key s' x' a b f) b c d f⟩
  · rw [va_up_ne _ _ (by omega)]; exact hI.2 j hj
theorem hmI_no {s x : Nat} (hI : hmI may nx co B TH CO RK h W0 (8 * s + x) TX CX KX WY) (hx : x < B) (hB : B ≤ 8) (hto : nx s x < 512) (hT : may s x = true → TX (nx s x) = true)
    (hnb : may s x = true → CX (nx s x) < CO s + co s x ∨ (CX (nx s x) = CO s + co s x ∧ KX (nx s x) ≤ 8 * RK s + x)) :
    hmI may nx co B TH CO RK h W0 (8 * s + (x + 1)) TX CX KX WY := by
  refine ⟨fun to ht => ?_, hI.2⟩
  have key : ∀ s' x', 8 * s' + x' < 8 * s + (x + 1) → x' < B → ¬ (s' = s ∧ x' = x) → 8 * s' + x' < 8 * s + x := by
    intro s' x' a b c
    rcases Nat.lt_or_ge (8 * s' + x') (8 * s + x) with q | q
    · exact q
    · exact absurd ⟨by omega, by omega⟩ c
  rcases hI.1 to ht with ⟨h1, h2⟩ | ⟨h1, s0, x0, h2, h3, h4, h5, h6, h7, h8, h9, h10⟩
  · refine Or.inl ⟨h1, fun s' x' a b c d f => ?_⟩
    by_cases e : s' = s ∧ x' = x
    · obtain ⟨rfl, rfl⟩ := e
      rw [← f, hT d] at h1; cases h1
    · exact h2 s' x' (key s' x' a b e) b c d f
  · refine Or.inr ⟨h1, s0, x0, by omega, h3, h4, h5, h6, h7, h8, h9, fun s' x' a b c d f => ?_⟩
    by_cases e : s' = s ∧ x' = x
    · obtain ⟨rfl, rfl⟩ := e
      subst f; exact hnb d
    · exact h10 s' x' (key s' x' a b e) b c d f
end HMI
/-- the keys of the first i states are seen -/
def snI (TX : Nat → Bool) (KX : Nat → Nat) (i : Nat) (SE : Nat → Bool) : Prop := ∀ k, k < 4096 → (SE k = true ↔ ∃ s, s < i ∧ TX s = true ∧ KX s = k)
theorem snI_up {TX : Nat → Bool} {KX : Nat → Nat} {i : Nat} {SE : Nat → Bool} (h : snI TX KX i SE) (ht : TX i = true) : snI TX KX (i + 1) (va_up SE (KX i) true) := by
  intro k hk
  by_cases e : k = KX i
  · rw [e, va_up_self]; exact ⟨fun _ => ⟨i, by omega, ht, rfl⟩, fun _ => rfl⟩
  · rw [va_up_ne _ _ e, h k hk]
    constructor
    · rintro ⟨s, a, b, c⟩; exact ⟨s, by omega, b, c⟩
    · rintro ⟨s, a, b, c⟩
      refine ⟨s, ?_, b, c⟩
      rcases Nat.lt_or_ge s i with q | q
      · exact q
      · rw [show s = i by omega] at c; exact absurd c.symm e
theorem snI_no {TX : Nat → Bool} {KX : Nat → Nat} {i : Nat} {SE : Nat → Bool} (h : snI TX KX i SE) (ht : TX i = false) : snI TX KX (i + 1) SE := by
  intro k hk
  rw [h k hk]
  constructor
  · rintro ⟨s, a, b, c⟩; exact ⟨s, by omega, b, c⟩
  · rintro ⟨s, a, b, c⟩
    refine ⟨s, ?_, b, c⟩
    rcases Nat.lt_or_ge s i with q | q
    · exact q
    · rw [show s = i by omega, ht] at b; cases b
def ctB (p : Nat → Bool) : Nat → Nat
  | 0 => 0
  | k + 1 => ctB p k + (if p k then 1 else 0)
theorem ctB_le (p : Nat → Bool) : ∀ k, ctB p k ≤ k
  | 0 => Nat.le_refl 0
  | k + 1 => by have := ctB_le p k; show ctB p k + _ ≤ _; split <;> omega
def hmP (may : Nat → Nat → Bool) (nx co : Nat → Nat → Nat) (B : Nat) (TH : Nat → Bool) (CO RK : Nat → Nat) (h : Nat) (W0 : Nat → Nat) (u : hmS) : Prop :=
  hmI may nx co B TH CO RK h W0 4096 (uTX u) (uCX u) (uKX u) (uWY u) ∧ (∀ j, j < 512 → (uTH u) j = (uTX u) j ∧ (uCO u) j = (uCX u) j ∧ (uRK u) j = (if (uTX u) j then ctB (uSE u) ((uKX u) j) else 0)) ∧ snI (uTX u) (uKX u) 512 (uSE u) ∧ (∀ j, (uKX u) j < 4096) ∧ (∀ j, (uCX u) j ≤ 10810800000) ∧ ∀ j, (uWY u) j < 4096
def hm7 (TX : Nat → Bool) (CX KX PL : Nat → Nat) (i : Nat) (TH : Nat → Bool) (CO RK : Nat → Nat) : Prop := ∀ j, j < i → TH j = TX j ∧ CO j = CX j ∧ RK j = (if TX j then PL (KX j) else 0)
theorem hm7_next {TX : Nat → Bool} {CX KX PL : Nat → Nat} {i : Nat} {TH : Nat → Bool} {CO RK : Nat → Nat} {v : Nat} (hI : hm7 TX CX KX PL i TH CO RK) (hv : v = (if TX i then PL (KX i) else 0)) : hm7 TX CX KX PL (i + 1) (va_up TH i (TX i)) (va_up CO i (CX i)) (va_up RK i v) := by
  intro j hj
  by_cases e : j = i
  · rw [e, va_up_self, va_up_self, va_up_self]; exact ⟨rfl, rfl, hv⟩
  · rw [va_up_ne _ _ e, va_up_ne _ _ e, va_up_ne _ _ e]; exact hI j (by omega)
theorem gd_on {g : Nat → Option Nat} {lr lp : Nat → Nat} {st x : Nat} : ∀ {c k : Nat}, gdR g lr lp st x c = true → k < c → on x k = true → (g k).isSome = true
  | 0, k, _, hk, _ => by omega
  | c + 1, k, h, hk, ho => by
    simp only [gdR, Bool.and_eq_true] at h
    rcases Nat.lt_or_ge k c with q | q
    · exact gd_on h.1 q ho
    · obtain rfl : k = c := by omega
      have h2 := h.2
      unfold alR at h2
      cases hs : (g k).isSome
      · rw [hs, ho] at h2; simp at h2
      · rfl
theorem may_on {gh gp : Nat → Option Nat} {IO : Nat → Int32} {h nd : Nat} {lr lp : Nat → Nat} {cn st x : Nat} (hns : ∀ k, gh k = none ↔ gp k = none) (hm : mayR (fun k => cnO (fun j => IO (36 * k + j)) h (gh k)) lr lp cn nd st x = true) : ∀ k, k < cn → on x k = true → (gp k).isSome = true := by
  intro k hk ho
  unfold mayR at hm
  simp only [Bool.and_eq_true] at hm
  have h1 := gd_on hm.1 hk ho
  cases h2 : gp k with
  | some v => rfl
  | none =>
    have h3 := (hns k).mpr h2
    unfold cnO at h1
    rw [h3] at h1
    split at h1 <;> cases h1
theorem cn_le {gh : Nat → Option Nat} {IO : Nat → Int32} {h : Nat} (hgb : ∀ k v, gh k = some v → v ≤ 100000) : ∀ k v, cnO (fun j => IO (36 * k + j)) h (gh k) = some v → v ≤ 100000 := fun k => cnO_le (hgb k)
