/-! lines: between two places; the values -/
theorem flo {x y : Int64} (hx : -2305843009213693952 ≤ x.toInt ∧ x.toInt ≤ 2305843009213693952) (hy : 0 < y.toInt) : (fD x y).toInt * y.toInt ≤ x.toInt ∧ x.toInt < (fD x y).toInt * y.toInt + y.toInt := by
  rw [← qt_0 hx hy]
  obtain ⟨e1, e2, e3⟩ := dv_T hx hy
  have hd : x.toInt.tmod y.toInt = x.toInt - x.toInt.tdiv y.toInt * y.toInt := by have := Int.tmod_add_mul_tdiv x.toInt y.toInt; rw [Int.mul_comm] at this; omega
  have hl := Int.tmod_lt_of_pos x.toInt hy
  have hn := Int.tmod_lt_of_pos (-x.toInt) hy
  rw [Int.neg_tmod] at hn
  have hq : (x.toInt.tdiv y.toInt).natAbs ≤ x.toInt.natAbs := by rw [Int.natAbs_tdiv]; exact Nat.div_le_self _ _
  unfold qtD
  rw [if_pos rfl]
  have c1 := lg_n0 (x - x / y * y)
  rw [e3] at c1
  by_cases h : 0 ≤ x.toInt.tmod y.toInt
  · rw [if_pos (c1.mpr h), e1]; omega
  · have h1 : (1 : Int64).toInt = 1 := by decide
    rw [if_neg (fun q => h (c1.mp q)), Int64.toInt_sub, e1, h1, b64 (by omega) (by omega), Int.sub_mul, Int.one_mul]; omega
theorem rng {D d Y q : Int} (h1 : 0 < d) (h2 : d < Y) (h3 : q * Y ≤ D * d) (h4 : D * d < q * Y + Y) : (0 ≤ D → 0 ≤ q ∧ q ≤ D) ∧ (D ≤ 0 → D ≤ q ∧ q ≤ 0) := by
  have e : q * Y + Y = (q + 1) * Y := by rw [Int.add_mul, Int.one_mul]
  rw [e] at h4
  refine ⟨fun h => ⟨?_, ?_⟩, fun h => ⟨?_, ?_⟩⟩
  · have h5 : 0 ≤ D * d := Int.mul_nonneg h (by omega)
    have h6 : 0 < (q + 1) * Y := by omega
    rcases Int.lt_or_le q 0 with z | z
    · have := Int.mul_le_mul_of_nonneg_right (show q + 1 ≤ 0 by omega) (show 0 ≤ Y by omega)
      rw [Int.zero_mul] at this; omega
    · exact z
  · have h5 : D * d ≤ D * Y := Int.mul_le_mul_of_nonneg_left (by omega) h
    exact Int.le_of_mul_le_mul_right (show q * Y ≤ D * Y by omega) (by omega)
  · have h5 : D * Y ≤ D * d := by
      have := Int.mul_le_mul_of_nonneg_left (show d ≤ Y by omega) (show 0 ≤ -D by omega)
      rw [Int.neg_mul, Int.neg_mul] at this; omega
    have := Int.lt_of_mul_lt_mul_right (show D * Y < (q + 1) * Y by omega) (show 0 ≤ Y by omega)
    omega
  · have h5 : D * d ≤ 0 := by
      have := Int.mul_nonneg (show 0 ≤ -D by omega) (show 0 ≤ d by omega)
      rw [Int.neg_mul] at this; omega
    rcases Int.lt_or_le 0 q with z | z
    · have := Int.mul_pos z (show 0 < Y by omega); omega
    · exact z
/-- a line: rising warmths, values from 0 to M -/
def lnG (F G : Nat → Int32) (z : Nat) (M : Int) : Prop := (∀ i, i + 1 < z → (F i).toInt < (F (i + 1)).toInt) ∧ (∀ i, i < z → -5000 ≤ (F i).toInt ∧ (F i).toInt ≤ 5000) ∧ (∀ i, i < z → 0 ≤ (G i).toInt ∧ (G i).toInt ≤ M) ∧ M ≤ 100000
theorem sub_T {a b : Int32} (h : -2147483648 ≤ a.toInt - b.toInt ∧ a.toInt - b.toInt < 2147483648) : (a - b).toInt = a.toInt - b.toInt := by rw [Int32.toInt_sub]; exact b32 h.1 h.2
theorem l2i_T {a : Int64} (h : -2147483648 ≤ a.toInt ∧ a.toInt < 2147483648) : a.toInt32.toInt = a.toInt := by
  rw [Int64.toInt_toInt32]; exact b32 h.1 h.2
theorem l2i_add (a : Int32) (q : Int64) : (a.toInt64 + q).toInt32 = a + q.toInt32 := by
  rw [Int64.toInt32_add, Int32.toInt32_toInt64]
theorem btw {F G : Nat → Int32} {z j : Nat} {M : Int} {x up : Int32} (hG : lnG F G z M) (hj : j + 1 < z) (h1 : F j < x) (h2 : x < F (j + 1)) (hu : up = 0 ∨ up = 1) : lnBetw F G j x up = gvB F G j x up ∧ 0 ≤ (lnBetw F G j x up).toInt ∧ (lnBetw F G j x up).toInt ≤ M := by
  obtain ⟨g1, g2, g3, g4⟩ := hG
  rw [Int32.lt_iff_toInt_lt] at h1 h2
  have a1 := g2 j (by omega)
  have a2 := g2 (j + 1) hj
  have a3 := g3 j (by omega)
  have a4 := g3 (j + 1) hj
  have s1 : (F (j + 1) - F j).toInt = (F (j + 1)).toInt - (F j).toInt := sub_T (by omega)
  have s2 : (G (j + 1) - G j).toInt = (G (j + 1)).toInt - (G j).toInt := sub_T (by omega)
  have s3 : (x - F j).toInt = x.toInt - (F j).toInt := sub_T (by omega)
  have hpos : 0 < F (j + 1) - F j := by rw [Int32.lt_iff_toInt_lt, s1]; have : (0 : Int32).toInt = 0 := by decide
                                        omega
  have hy : 0 < (F (j + 1) - F j).toInt64.toInt := by rw [Int32.toInt_toInt64, s1]; omega
  have hyv : (F (j + 1) - F j).toInt64.toInt = (F (j + 1)).toInt - (F j).toInt := by rw [Int32.toInt_toInt64, s1]
  have hbd : -1000000000 ≤ ((G (j + 1)).toInt - (G j).toInt) * (x.toInt - (F j).toInt) ∧ ((G (j + 1)).toInt - (G j).toInt) * (x.toInt - (F j).toInt) ≤ 1000000000 := by
    have hd : 0 ≤ x.toInt - (F j).toInt := by omega
    have q1 := Int.mul_le_mul_of_nonneg_right (show (G (j + 1)).toInt - (G j).toInt ≤ 100000 by omega) hd
    have q2 := Int.mul_le_mul_of_nonneg_right (show -100000 ≤ (G (j + 1)).toInt - (G j).toInt by omega) hd
    omega
  have hr : (lnRise F G j x).toInt = ((G (j + 1)).toInt - (G j).toInt) * (x.toInt - (F j).toInt) := by
    unfold lnRise
    rw [Int64.toInt_mul, Int32.toInt_toInt64, Int32.toInt_toInt64, s2, s3]
    exact b64 (by omega) (by omega)
  unfold lnBetw gvB
  rw [if_pos hpos, l2i_add]
  have hrx : -2305843009213693952 ≤ (lnRise F G j x).toInt ∧ (lnRise F G j x).toInt ≤ 2305843009213693952 := by omega
  rcases hu with rfl | rfl
  · have f := flo hrx hy
    rw [hr, hyv] at f
    have r := rng (by omega) (by omega) f.1 f.2
    rw [if_pos rfl, show (G (j + 1) - G j).toInt64 * (x - F j).toInt64 = lnRise F G j x from rfl, qt_0 hrx hy]
    refine ⟨rfl, ?_⟩
    generalize (fD (lnRise F G j x) (F (j + 1) - F j).toInt64) = q at r ⊢
    have hq : -100000 ≤ q.toInt ∧ q.toInt ≤ 100000 := by
      rcases Int.le_total 0 ((G (j + 1)).toInt - (G j).toInt) with z | z
      · have := r.1 z; omega
      · have := r.2 z; omega
    have hv : (G j + q.toInt32).toInt = (G j).toInt + q.toInt := by
      rw [Int32.toInt_add, l2i_T (by omega)]; exact b32 (by omega) (by omega)
    rw [hv]
    rcases Int.le_total 0 ((G (j + 1)).toInt - (G j).toInt) with z | z
    · have := r.1 z; omega
    · have := r.2 z; omega
  · have hn : (-lnRise F G j x).toInt = (-((G (j + 1)).toInt - (G j).toInt)) * (x.toInt - (F j).toInt) := by
      rw [Int64.toInt_neg, hr, Int.neg_mul]; exact b64 (by omega) (by omega)
    have f := flo (x := -lnRise F G j x) (y := (F (j + 1) - F j).toInt64) (by rw [hn, Int.neg_mul]; omega) hy
    rw [hn, hyv] at f
    have r := rng (by omega) (by omega) f.1 f.2
    rw [if_neg (show ¬ (1 : Int32) = 0 by decide), show (G (j + 1) - G j).toInt64 * (x - F j).toInt64 = lnRise F G j x from rfl, qt_1 hrx hy]
    refine ⟨rfl, ?_⟩
    generalize (fD (-lnRise F G j x) (F (j + 1) - F j).toInt64) = q at r ⊢
    have hq : -100000 ≤ q.toInt ∧ q.toInt ≤ 100000 := by
      rcases Int.le_total 0 (-((G (j + 1)).toInt - (G j).toInt)) with z | z
      · have := r.1 z; omega
      · have := r.2 z; omega
    have hnq : (-q).toInt = -q.toInt := by rw [Int64.toInt_neg]; exact b64 (by omega) (by omega)
    have hv : (G j + (-q).toInt32).toInt = (G j).toInt - q.toInt := by
      rw [Int32.toInt_add, l2i_T (by omega), hnq]; exact b32 (by omega) (by omega)
    rw [hv]
    rcases Int.le_total 0 (-((G (j + 1)).toInt - (G j).toInt)) with z | z
    · have := r.1 z; omega
    · have := r.2 z; omega
theorem lnG_lt {F G : Nat → Int32} {z : Nat} {M : Int} (hG : lnG F G z M) {i : Nat} : ∀ {j : Nat}, i < j → j < z → (F i).toInt < (F j).toInt
  | 0, h, _ => by omega
  | j + 1, h, hz => by
    have h1 := hG.1 j hz
    rcases Nat.lt_or_ge i j with q | q
    · have := lnG_lt hG q (show j < z by omega); omega
    · rw [show i = j by omega]; exact h1
theorem lnAt_one {F : Nat → Int32} {z i j : Nat} {x : Int32} (h1 : lnAt F z x i) (h2 : lnAt F z x j) : i = j := by
  obtain ⟨a1, a2, a3⟩ := h1
  obtain ⟨b1, b2, b3⟩ := h2
  rcases Nat.lt_trichotomy i j with h | h | h
  · exact absurd (b2 i h) (a3 (by omega))
  · exact h
  · exact absurd (a2 j h) (b3 (by omega))
theorem lnAt_ex (F : Nat → Int32) (x : Int32) : ∀ z, ∃ i, lnAt F z x i
  | 0 => ⟨0, Nat.le_refl 0, fun j h => by omega, fun h => by omega⟩
  | z + 1 => by
    obtain ⟨i, h1, h2, h3⟩ := lnAt_ex F x z
    rcases Nat.lt_or_ge i z with q | q
    · exact ⟨i, by omega, h2, fun _ => h3 q⟩
    · have e : i = z := by omega
      subst e
      by_cases h : F i < x
      · exact ⟨i + 1, by omega, fun j hj => by rcases Nat.lt_or_ge j i with w | w; exact h2 j w; rw [show j = i by omega]; exact h, fun h => by omega⟩
      · exact ⟨i, by omega, h2, fun _ => h⟩
/-- the reference's value is the class's -/
theorem gv_ln {F G : Nat → Int32} {z i : Nat} {M : Int} {x up r : Int32} (hG : lnG F G z M) (hu : up = 0 ∨ up = 1) (hi : lnAt F z x i) (h : gvR F G z x up r) : r = lnRes F G z x up i := by
  obtain ⟨h1, h2, h3⟩ := hi
  have lt : ∀ a b : Int32, a < b ↔ a.toInt < b.toInt := fun a b => Int32.lt_iff_toInt_lt
  unfold lnRes
  rcases h with ⟨j, hj, e, hr⟩ | ⟨j, hj, e1, e2, hr⟩ | ⟨hr, hn⟩
  · have hij : i = j := by
      rcases Nat.lt_trichotomy i j with q | q | q
      · have := lnG_lt hG q hj
        exact absurd ((lt _ _).mpr (by rw [← e]; exact this)) (h3 (by omega))
      · exact q
      · have := (lt _ _).mp (h2 j q); rw [e] at this; omega
    subst hij
    rw [if_neg, if_pos e]; exact hr
    rintro (q | ⟨q, q2⟩)
    · omega
    · subst q; exact q2 e
  · have hij : i = j + 1 := by
      rcases Nat.lt_trichotomy i (j + 1) with q | q | q
      · have h4 := h3 (by omega)
        rw [lt] at h4 e1
        rcases Nat.lt_or_ge i j with w | w
        · have := lnG_lt hG w (by omega); omega
        · rw [show i = j by omega] at h4; omega
      · exact q
      · have := (lt _ _).mp (h2 _ q); rw [lt] at e2; omega
    subst hij
    rw [if_neg, if_neg, hr]
    · exact (btw hG hj e1 e2 hu).1.symm
    · intro q; rw [q, lt] at e2; omega
    · rintro (q | ⟨q, -⟩) <;> omega
  · rw [if_pos, hr]
    by_cases q : i = z
    · exact Or.inl q
    · have hiz : i < z := by omega
      have h4 := h3 hiz
      have h5 := hn i hiz
      right
      by_cases q0 : i = 0
      · subst q0; exact ⟨rfl, h5.1⟩
      · exfalso
        have h6 := h2 (i - 1) (by omega)
        have h7 := (hn (i - 1) (by omega)).2
        rw [show i - 1 + 1 = i by omega] at h7
        apply h7
        refine ⟨hiz, h6, ?_⟩
        rw [lt] at h4 ⊢
        have : ¬ (F i).toInt = x.toInt := fun z => h5.1 (Int32.toInt_inj.mp z)
        omega
/-- a value as a number, or none -/
def vO (r : Int32) : Option Nat := if r = -1 then none else some r.toInt.toNat
noncomputable def lnX (F : Nat → Int32) (z : Nat) (x : Int32) : Nat := Classical.epsilon (lnAt F z x)
theorem lnX_at (F : Nat → Int32) (z : Nat) (x : Int32) : lnAt F z x (lnX F z x) := Classical.epsilon_spec (lnAt_ex F x z)
noncomputable def gvO (F G : Nat → Int32) (z : Nat) (x up : Int32) : Option Nat := vO (lnRes F G z x up (lnX F z x))
theorem res_ok {F G : Nat → Int32} {z i : Nat} {M : Int} {x up : Int32} (hG : lnG F G z M) (hu : up = 0 ∨ up = 1) (hi : lnAt F z x i) : ((i = z ∨ (i = 0 ∧ ¬ F 0 = x)) ∧ lnRes F G z x up i = -1) ∨ (¬ (i = z ∨ (i = 0 ∧ ¬ F 0 = x)) ∧ 0 ≤ (lnRes F G z x up i).toInt ∧ (lnRes F G z x up i).toInt ≤ M) := by
  obtain ⟨h1, h2, h3⟩ := hi
  unfold lnRes
  by_cases h : i = z ∨ (i = 0 ∧ ¬ F 0 = x)
  · rw [if_pos h]; exact Or.inl ⟨h, rfl⟩
  · rw [if_neg h]
    refine Or.inr ⟨h, ?_⟩
    have hiz : i < z := by omega
    by_cases e : F i = x
    · rw [if_pos e]; exact hG.2.2.1 i hiz
    · rw [if_neg e]
      have h0 : 0 < i := by
        rcases Nat.eq_zero_or_pos i with q | q
        · exact absurd (Or.inr ⟨q, by rw [← q]; exact e⟩) h
        · exact q
      have h4 := h2 (i - 1) (by omega)
      have h5 : x < F i := by
        have q := h3 hiz
        rw [Int32.lt_iff_toInt_lt] at q ⊢
        have : ¬ (F i).toInt = x.toInt := fun z => e (Int32.toInt_inj.mp z)
        omega
      have := btw (j := i - 1) hG (by omega) h4 (by rw [show i - 1 + 1 = i by omega]; exact h5) hu
      exact this.2
theorem oI_vO {r : Int32} (h : r = -1 ∨ 0 ≤ r.toInt) : oI (vO r) = r := by
  unfold vO
  rcases h with h | h
  · rw [if_pos h]; exact h.symm
  · have hn : ¬ r = -1 := by intro q; rw [q] at h; exact absurd h (by decide)
    rw [if_neg hn]
    show nI r.toInt.toNat = r
    apply Int32.toInt_inj.mp
    have := r.toInt_lt
    rw [nI_T (by omega)]; omega
theorem giI_of {F G P : Nat → Int32} {z : Nat} {x : Int32} (hG : lnG F G z 100000) (hP : lnG F P z 100000) : giI F G P z x (gvO F G z x 0) (gvO F P z x 1) := by
  have hx := lnX_at F z x
  have r0 := res_ok (up := 0) hG (Or.inl rfl) hx
  have r1 := res_ok (up := 1) hP (Or.inr rfl) hx
  have o0 : oI (gvO F G z x 0) = lnRes F G z x 0 (lnX F z x) := oI_vO (by rcases r0 with ⟨-, q⟩ | ⟨-, q, -⟩; exact Or.inl q; exact Or.inr q)
  have o1 : oI (gvO F P z x 1) = lnRes F P z x 1 (lnX F z x) := oI_vO (by rcases r1 with ⟨-, q⟩ | ⟨-, q, -⟩; exact Or.inl q; exact Or.inr q)
  have nb : ∀ {r : Int32}, 0 ≤ r.toInt → ¬ r = -1 := fun h q => by rw [q] at h; exact absurd h (by decide)
  refine ⟨fun i hi => ?_, fun i hi => ?_, ?_, fun v hv => ?_, fun v hv => ?_⟩
  · rw [lnAt_one hi hx]; exact o0.symm
  · rw [lnAt_one hi hx]; exact o1.symm
  · unfold gvO vO
    rcases r0 with ⟨a, q⟩ | ⟨a, q, -⟩ <;> rcases r1 with ⟨b, w⟩ | ⟨b, w, -⟩
    · rw [if_pos q, if_pos w]
    · exact absurd a b
    · exact absurd b a
    · rw [if_neg (nb q), if_neg (nb w)]; simp
  · unfold gvO vO at hv
    rcases r0 with ⟨a, q⟩ | ⟨a, q, q2⟩
    · rw [if_pos q] at hv; cases hv
    · rw [if_neg (nb q)] at hv; cases hv; omega
  · unfold gvO vO at hv
    rcases r1 with ⟨a, q⟩ | ⟨a, q, q2⟩
    · rw [if_pos q] at hv; cases hv
    · rw [if_neg (nb q)] at hv; cases hv; omega
