/-! which states there are -/
def rch (a b d : Nat) : Prop := if 4 ≤ d then d < 4 + a else d < b
noncomputable def rk1 (a b d : Nat) : Nat := @ite _ (1 ≤ d ∧ rch a b d) (Classical.propDecidable _) 1 0
/-- how many digits from 1 on and below d can be reached -/
noncomputable def rkN (a b : Nat) : Nat → Nat
  | 0 => 0
  | d + 1 => rkN a b d + rk1 a b d
theorem rk1_le (a b d : Nat) : rk1 a b d ≤ 1 := by unfold rk1; split <;> omega
theorem rk1_y {a b d : Nat} (h1 : 1 ≤ d) (h : rch a b d) : rk1 a b d = 1 := by unfold rk1; rw [if_pos ⟨h1, h⟩]
theorem rk1_n {a b d : Nat} (h : ¬ rch a b d) : rk1 a b d = 0 := by unfold rk1; rw [if_neg (fun q => h q.2)]
theorem rkN_mono {a b d : Nat} : ∀ {x : Nat}, d ≤ x → rkN a b d ≤ rkN a b x
  | 0, h => by rw [show d = 0 by omega]; exact Nat.le_refl _
  | x + 1, h => by
    rcases Nat.lt_or_ge x d with q | q
    · rw [show d = x + 1 by omega]; exact Nat.le_refl _
    · exact Nat.le_trans (rkN_mono q) (by show _ ≤ rkN a b x + _; omega)
theorem rkN_le {a b : Nat} : ∀ d, rkN a b (d + 1) ≤ d
  | 0 => by show 0 + rk1 a b 0 ≤ 0; unfold rk1; rw [if_neg (by omega)]; omega
  | d + 1 => by
    have h1 := rkN_le (a := a) (b := b) d
    have h2 := rk1_le a b (d + 1)
    show rkN a b (d + 1) + rk1 a b (d + 1) ≤ d + 1
    omega
/-- the place of digit d's state over the i-th state that was there -/
noncomputable def pos (a b n0 d i : Nat) : Nat := n0 * (1 + rkN a b d) + i
theorem pos_lt {a b n0 d x i j : Nat} (hd : 1 ≤ d) (h : d < x) (hr : rch a b d) (hi : i < n0) : pos a b n0 d i < pos a b n0 x j := by
  have h1 : rkN a b (d + 1) = rkN a b d + 1 := by show rkN a b d + rk1 a b d = _; rw [rk1_y hd hr]
  have h2 := rkN_mono (a := a) (b := b) (show d + 1 ≤ x by omega)
  have h3 : n0 * (1 + rkN a b d + 1) ≤ n0 * (1 + rkN a b x) := Nat.mul_le_mul_left _ (by omega)
  unfold pos
  rw [Nat.mul_add n0 (1 + rkN a b d) 1] at h3
  omega
theorem pos_512 {a b n0 d i : Nat} (hn : n0 ≤ 64) (hd : d < 8) (hi : i < n0) : pos a b n0 d i < 512 := by
  have h1 : rkN a b d ≤ 6 := by
    rcases Nat.eq_zero_or_pos d with h | h
    · subst h; show 0 ≤ 6; omega
    · have := rkN_le (a := a) (b := b) (d - 1)
      rw [show d - 1 + 1 = d by omega] at this; omega
  have h2 : n0 * (1 + rkN a b d) ≤ n0 * 7 := Nat.mul_le_mul_left _ (by omega)
  unfold pos; omega
def exI (n0 kk a b : Nat) (R0 : Nat → Nat) (d i n : Nat) (R : Nat → Nat) : Prop :=
  ((rch a b d ∧ n = pos a b n0 d i) ∨ (¬ rch a b d ∧ n = pos a b n0 d 0)) ∧ (∀ j, j < n0 → R j = R0 j) ∧
  (∀ x y, 1 ≤ x → (x < d ∧ y < n0 ∨ x = d ∧ y < i) → rch a b x → R (pos a b n0 x y) = R0 y + x * 8 ^ kk) ∧
  (∀ j, j < n → ∃ y x, y < n0 ∧ x < 8 ∧ (x = 0 ∨ rch a b x) ∧ R j = R0 y + x * 8 ^ kk)
theorem exI_0 {n0 kk a b : Nat} {R0 : Nat → Nat} : exI n0 kk a b R0 1 0 n0 R0 := by
  have h1 : rkN a b 1 = 0 := by show 0 + rk1 a b 0 = 0; unfold rk1; rw [if_neg (by omega)]
  have h2 : pos a b n0 1 0 = n0 := by unfold pos; rw [h1]; omega
  refine ⟨?_, fun j _ => rfl, fun x y h1 h => by omega, fun j hj => ⟨j, 0, hj, by omega, Or.inl rfl, by omega⟩⟩
  rcases Classical.em (rch a b 1) with h | h
  · exact Or.inl ⟨h, h2.symm⟩
  · exact Or.inr ⟨h, h2.symm⟩
theorem exI_add {n0 kk a b d i n : Nat} {R0 R : Nat → Nat} (h : exI n0 kk a b R0 d i n R) (hd : 1 ≤ d) (hd8 : d < 8) (hi : i < n0) (hr : rch a b d) : exI n0 kk a b R0 d (i + 1) (n + 1) (va_up R n (R0 i + d * 8 ^ kk)) := by
  obtain ⟨h1, h2, h3, h4⟩ := h
  have hn : n = pos a b n0 d i := by rcases h1 with ⟨-, q⟩ | ⟨q, -⟩; exact q; exact absurd hr q
  have hp : n0 ≤ n := by rw [hn]; unfold pos; rw [Nat.mul_add]; omega
  refine ⟨Or.inl ⟨hr, by rw [hn]; unfold pos; omega⟩, fun j hj => ?_, fun x y hx hxy hrx => ?_, fun j hj => ?_⟩
  · rw [va_up_ne _ _ (by omega)]; exact h2 j hj
  · rcases hxy with ⟨q1, q2⟩ | ⟨q1, q2⟩
    · have := pos_lt (j := i) hx q1 hrx q2
      rw [va_up_ne _ _ (by omega)]; exact h3 x y hx (Or.inl ⟨q1, q2⟩) hrx
    · subst q1
      rcases Nat.lt_or_ge y i with q | q
      · rw [va_up_ne _ _ (by rw [hn]; unfold pos; omega)]; exact h3 x y hx (Or.inr ⟨rfl, q⟩) hrx
      · rw [show y = i by omega, hn, va_up_self]
  · rcases Nat.lt_or_ge j n with q | q
    · rw [va_up_ne _ _ (by omega)]; exact h4 j q
    · rw [show j = n by omega, va_up_self]; exact ⟨i, d, hi, hd8, Or.inr hr, rfl⟩
theorem exI_skip {n0 kk a b d i n : Nat} {R0 R : Nat → Nat} (h : exI n0 kk a b R0 d i n R) (hr : ¬ rch a b d) : exI n0 kk a b R0 d (i + 1) n R := by
  obtain ⟨h1, h2, h3, h4⟩ := h
  refine ⟨Or.inr ?_, h2, fun x y hx hxy hrx => ?_, h4⟩
  · rcases h1 with ⟨q, -⟩ | q; exact absurd q hr; exact q
  · rcases hxy with q | ⟨q1, q2⟩
    · exact h3 x y hx (Or.inl q) hrx
    · subst q1; exact absurd hrx hr
theorem exI_next {n0 kk a b d n : Nat} {R0 R : Nat → Nat} (h : exI n0 kk a b R0 d n0 n R) (hd : 1 ≤ d) : exI n0 kk a b R0 (d + 1) 0 n R := by
  obtain ⟨h1, h2, h3, h4⟩ := h
  have e : n = pos a b n0 (d + 1) 0 := by
    unfold pos
    show n = n0 * (1 + (rkN a b d + rk1 a b d)) + 0
    rcases h1 with ⟨q, hn⟩ | ⟨q, hn⟩
    · rw [rk1_y hd q, hn]; unfold pos; rw [← Nat.add_assoc 1, Nat.mul_add n0 (1 + rkN a b d) 1]; omega
    · rw [rk1_n q, hn]; rfl
  refine ⟨?_, h2, fun x y hx hxy hrx => ?_, h4⟩
  · rcases Classical.em (rch a b (d + 1)) with q | q
    · exact Or.inl ⟨q, e⟩
    · exact Or.inr ⟨q, e⟩
  · rcases hxy with ⟨q1, q2⟩ | ⟨q1, q2⟩
    · rcases Nat.lt_or_ge x d with q | q
      · exact h3 x y hx (Or.inl ⟨q, q2⟩) hrx
      · exact h3 x y hx (Or.inr ⟨by omega, q2⟩) hrx
    · omega
/-- the states that there are, filled in -/
def stOk (lr lp : Nat → Nat) (cn n : Nat) (R RB MR MP AF : Nat → Nat) : Prop := ∀ j, j < n → RB (R j) = rbA (R j) cn ∧ MR (R j) = mrA (R j) cn ∧ MP (R j) = mpA (R j) cn ∧ ∀ x, x < 2 ^ cn → AF (R j * 8 + x) = nxA lr lp (R j) x cn
theorem stOk_next {lr lp : Nat → Nat} {cn n : Nat} {R RB MR MP AF RB' MR' MP' AF' : Nat → Nat} (hc : cn ≤ 3) (h : stOk lr lp cn n R RB MR MP AF) (hb : bdI (R n) RB MR MP cn RB' MR' MP') (hf : flI lr lp cn (R n) AF (2 ^ cn) AF') : stOk lr lp cn (n + 1) R RB' MR' MP' AF' := by
  have hpc : 2 ^ cn ≤ 8 := by rcases (show cn = 0 ∨ cn = 1 ∨ cn = 2 ∨ cn = 3 by omega) with h | h | h | h <;> subst h <;> simp
  intro j hj
  obtain ⟨b1, b2, b3, b4⟩ := hb
  rcases Classical.em (R j = R n) with e | e
  · rw [e]; exact ⟨b1, b2, b3, fun x hx => hf.1 x hx⟩
  · have hjn : j < n := by rcases Nat.lt_or_ge j n with q | q; exact q; exact absurd (by rw [show j = n by omega]) e
    obtain ⟨c1, c2, c3, c4⟩ := h j hjn
    obtain ⟨d1, d2, d3⟩ := b4 _ e
    refine ⟨d1.trans c1, d2.trans c2, d3.trans c3, fun x hx => ?_⟩
    rw [hf.2 _ (by omega)]
    exact c4 x hx
theorem exI_lt {n0 kk a b d i n : Nat} {R0 R : Nat → Nat} (h : exI n0 kk a b R0 d i n R) (hn : n0 ≤ 64) (hd : d < 8) (hi : i < n0) : n < 512 := by
  rcases h.1 with ⟨-, q⟩ | ⟨-, q⟩
  · rw [q]; exact pos_512 hn hd hi
  · rw [q]; exact pos_512 hn hd (by omega)
theorem exI_le {n0 kk a b d i n : Nat} {R0 R : Nat → Nat} (h : exI n0 kk a b R0 d i n R) (hn : n0 ≤ 64) (hd : d ≤ 8) (hi : i = 0 ∨ (i ≤ n0 ∧ d < 8)) : n ≤ 512 := by
  have h1 : rkN a b d ≤ d - 1 := by
    rcases Nat.eq_zero_or_pos d with h | h
    · subst h; show 0 ≤ 0 - 1; omega
    · have := rkN_le (a := a) (b := b) (d - 1)
      rw [show d - 1 + 1 = d by omega] at this; omega
  have h2 : n0 * (1 + rkN a b d) ≤ n0 * (1 + (d - 1)) := Nat.mul_le_mul_left _ (by omega)
  have h3 : n0 * (1 + (d - 1)) ≤ 64 * (1 + (d - 1)) := Nat.mul_le_mul_right _ hn
  rcases h.1 with ⟨-, q⟩ | ⟨-, q⟩ <;> rw [q] <;> unfold pos <;> omega
theorem exI_st {n0 kk a b d i n : Nat} {R0 R : Nat → Nat} (h : exI n0 kk a b R0 d i n R) (hR : ∀ j, j < n0 → R0 j < 8 ^ kk) (hk : kk < 3) {j : Nat} (hj : j < n) : R j < 512 := by
  obtain ⟨y, x, hy, hx, -, e⟩ := h.2.2.2 j hj
  have h1 := hR y hy
  have h2 : x * 8 ^ kk ≤ 7 * 8 ^ kk := Nat.mul_le_mul_right _ (by omega)
  have h3 : 8 ^ kk = 1 ∨ 8 ^ kk = 8 ∨ 8 ^ kk = 64 := by rcases (show kk = 0 ∨ kk = 1 ∨ kk = 2 by omega) with h | h | h <;> subst h <;> simp
  omega
/-! bounds of all that the states' arrays hold -/
theorem rbA_lt2 (st : Nat) : ∀ k, rbA st k < 2 ^ k ∧ mrA st k < 2 ^ k ∧ mpA st k < 2 ^ k
  | 0 => by refine ⟨?_, ?_, ?_⟩ <;> (show 0 < 1; omega)
  | k + 1 => by
    obtain ⟨h1, h2, h3⟩ := rbA_lt2 st k
    have e : 2 ^ (k + 1) = 2 ^ k + 2 ^ k := by rw [Nat.pow_succ]; omega
    have h0 : 0 < 2 ^ k := Nat.pow_pos (by omega)
    refine ⟨Nat.or_lt_two_pow (by omega) ?_, Nat.or_lt_two_pow (by omega) ?_, Nat.or_lt_two_pow (by omega) ?_⟩ <;> split <;> omega
def bxR (RB MR MP AF : Nat → Nat) : Prop := (∀ j, RB j < 8) ∧ (∀ j, MR j < 8) ∧ (∀ j, MP j < 8) ∧ ∀ j, AF j < 512
def bxI (R RB MR MP AF : Nat → Nat) : Prop := (∀ j, R j < 512) ∧ bxR RB MR MP AF
theorem bxR_next {lr lp : Nat → Nat} {cn st : Nat} {RB MR MP AF RB' MR' MP' AF' : Nat → Nat} (hc : cn ≤ 3) (hlr : ∀ j, lr j ≤ 4 ∧ lp j ≤ 4) (h : bxR RB MR MP AF) (hb : bdI st RB MR MP cn RB' MR' MP') (hf : flI lr lp cn st AF (2 ^ cn) AF') : bxR RB' MR' MP' AF' := by
  obtain ⟨h1, h2, h3, h4⟩ := h
  obtain ⟨b1, b2, b3, b4⟩ := hb
  have hp : 2 ^ cn ≤ 8 ∧ 8 ^ cn ≤ 512 := by rcases (show cn = 0 ∨ cn = 1 ∨ cn = 2 ∨ cn = 3 by omega) with h | h | h | h <;> subst h <;> decide
  obtain ⟨r1, r2, r3⟩ := rbA_lt2 st cn
  refine ⟨fun j => ?_, fun j => ?_, fun j => ?_, fun j => ?_⟩
  · by_cases e : j = st
    · rw [e, b1]; omega
    · rw [(b4 j e).1]; exact h1 j
  · by_cases e : j = st
    · rw [e, b2]; omega
    · rw [(b4 j e).2.1]; exact h2 j
  · by_cases e : j = st
    · rw [e, b3]; omega
    · rw [(b4 j e).2.2]; exact h3 j
  · by_cases e : j < st * 8 ∨ st * 8 + 2 ^ cn ≤ j
    · rw [hf.2 j e]; exact h4 j
    · have e2 : j = st * 8 + (j - st * 8) := by omega
      rw [e2, hf.1 (j - st * 8) (by omega)]
      have := nxA_lt hlr st (j - st * 8) cn
      omega
theorem bxR_R {R : Nat → Nat} {kk n d v : Nat} (h : ∀ j, R j < 512) (hk : kk < 3) (hd : d < 8) (hv : v < 8 ^ kk) : ∀ j, va_up R n (v + d * 8 ^ kk) j < 512 := by
  intro j
  by_cases e : j = n
  · rw [e, va_up_self]
    have h3 : 8 ^ kk = 1 ∨ 8 ^ kk = 8 ∨ 8 ^ kk = 64 := by rcases (show kk = 0 ∨ kk = 1 ∨ kk = 2 by omega) with h | h | h <;> subst h <;> simp
    have h2 : d * 8 ^ kk ≤ 7 * 8 ^ kk := Nat.mul_le_mul_right _ (by omega)
    omega
  · rw [va_up_ne _ _ e]; exact h j
