/-! lines: the class's and the reference's values at a warmth are one -/
theorem lg_3 (x y : Int64) : (y.toInt < x.toInt ∧ lg_cmp x y = 1) ∨ (x = y ∧ lg_cmp x y = 0) ∨ (x.toInt < y.toInt ∧ lg_cmp x y = -1) := by
  unfold lg_cmp
  by_cases h1 : x > y
  · exact Or.inl ⟨Int64.lt_iff_toInt_lt.mp h1, if_pos h1⟩
  · rw [if_neg h1]
    by_cases h2 : x = y
    · exact Or.inr (Or.inl ⟨h2, if_pos h2⟩)
    · rw [if_neg h2]
      refine Or.inr (Or.inr ⟨?_, rfl⟩)
      have h3 : ¬ y.toInt < x.toInt := fun h => h1 (Int64.lt_iff_toInt_lt.mpr h)
      have h4 : ¬ x.toInt = y.toInt := fun h => h2 (Int64.toInt_inj.mp h)
      omega
theorem z64 : (0 : Int64).toInt = 0 := by decide
theorem lg_n0 (x : Int64) : 0 ≤ lg_cmp x 0 ↔ 0 ≤ x.toInt := by
  rcases lg_3 x 0 with ⟨h, e⟩ | ⟨h, e⟩ | ⟨h, e⟩ <;> rw [e] <;> (try rw [z64] at h)
  · exact ⟨fun _ => by omega, fun _ => by decide⟩
  · subst h; exact ⟨fun _ => by decide, fun _ => by decide⟩
  · exact ⟨fun q => absurd q (by decide), fun q => by omega⟩
theorem lg_p0 (x : Int64) : lg_cmp x 0 ≤ 0 ↔ x.toInt ≤ 0 := by
  rcases lg_3 x 0 with ⟨h, e⟩ | ⟨h, e⟩ | ⟨h, e⟩ <;> rw [e] <;> (try rw [z64] at h)
  · exact ⟨fun q => absurd q (by decide), fun q => by omega⟩
  · subst h; exact ⟨fun _ => by decide, fun _ => by decide⟩
  · exact ⟨fun _ => by omega, fun _ => by decide⟩
theorem lg_e0 (x y : Int64) : lg_cmp x y = 0 ↔ x.toInt = y.toInt := by
  rcases lg_3 x y with ⟨h, e⟩ | ⟨h, e⟩ | ⟨h, e⟩ <;> rw [e]
  · exact ⟨fun q => absurd q (by decide), fun q => by omega⟩
  · exact ⟨fun _ => by rw [h], fun _ => rfl⟩
  · exact ⟨fun q => absurd q (by decide), fun q => by omega⟩
theorem b64 {x : Int} (h1 : -9223372036854775808 ≤ x) (h2 : x < 9223372036854775808) : x.bmod (2 ^ 64) = x := by
  apply Int.bmod_eq_of_le <;> omega
theorem b32 {x : Int} (h1 : -2147483648 ≤ x) (h2 : x < 2147483648) : x.bmod (2 ^ 32) = x := by
  apply Int.bmod_eq_of_le <;> omega
theorem xor_neg (x y : Int64) (hy : 0 ≤ y.toInt) : (x ^^^ y).toInt < 0 ↔ x.toInt < 0 := by
  have h1 : ∀ z : Int64, z.toBitVec.msb = decide (z.toInt < 0) := fun z => BitVec.msb_eq_toInt
  have h2 : (x ^^^ y).toBitVec.msb = (x.toBitVec.msb ^^ y.toBitVec.msb) := by
    rw [Int64.toBitVec_xor, BitVec.msb_xor]
  rw [h1, h1, h1, decide_eq_false (by omega : ¬ y.toInt < 0), Bool.xor_false] at h2
  exact ⟨fun h => of_decide_eq_true (h2 ▸ decide_eq_true h), fun h => of_decide_eq_true (h2.symm ▸ decide_eq_true h)⟩
/-- division, in numbers -/
theorem dv_T {x y : Int64} (hx : -2305843009213693952 ≤ x.toInt ∧ x.toInt ≤ 2305843009213693952) (hy : 0 < y.toInt) : (x / y).toInt = x.toInt.tdiv y.toInt ∧ (x / y * y).toInt = x.toInt.tdiv y.toInt * y.toInt ∧ (x - x / y * y).toInt = x.toInt.tmod y.toInt := by
  generalize hX : x.toInt = X at hx ⊢
  generalize hY : y.toInt = Y at hy ⊢
  have hb : X.natAbs ≤ 2305843009213693952 := by omega
  have hq : (X.tdiv Y).natAbs ≤ X.natAbs := by rw [Int.natAbs_tdiv]; exact Nat.div_le_self _ _
  have hm : X.tmod Y = X - X.tdiv Y * Y := by have := Int.tmod_add_mul_tdiv X Y; rw [Int.mul_comm] at this; omega
  have hr : (X.tmod Y).natAbs ≤ X.natAbs := by rw [Int.natAbs_tmod]; exact Nat.mod_le _ _
  have e1 : (x / y).toInt = X.tdiv Y := by rw [Int64.toInt_div, hX, hY]; exact b64 (by omega) (by omega)
  have e2 : (x / y * y).toInt = X.tdiv Y * Y := by
    rw [Int64.toInt_mul, e1, hY]
    have : X.tdiv Y * Y = X - X.tmod Y := by omega
    rw [this]; exact b64 (by omega) (by omega)
  refine ⟨e1, e2, ?_⟩
  rw [Int64.toInt_sub, e2, hX, ← hm]
  exact b64 (by omega) (by omega)
theorem md_sgn {X Y : Int} (hY : 0 < Y) : (0 ≤ X → 0 ≤ X.tmod Y) ∧ (X ≤ 0 → X.tmod Y ≤ 0) := by
  refine ⟨fun h => Int.tmod_nonneg _ h, fun h => ?_⟩
  have h1 := Int.tmod_nonneg (a := -X) Y (by omega)
  rw [Int.neg_tmod] at h1
  omega
theorem qt_0 {x y : Int64} (hx : -2305843009213693952 ≤ x.toInt ∧ x.toInt ≤ 2305843009213693952) (hy : 0 < y.toInt) : qtD x y 0 = fD x y := by
  obtain ⟨e1, e2, e3⟩ := dv_T hx hy
  have hm := md_sgn (X := x.toInt) hy
  have hd : x.toInt.tmod y.toInt = x.toInt - x.toInt.tdiv y.toInt * y.toInt := by have := Int.tmod_add_mul_tdiv x.toInt y.toInt; rw [Int.mul_comm] at this; omega
  unfold qtD fD
  rw [if_pos rfl]
  have c1 := lg_n0 (x - x / y * y)
  have c2 := lg_n0 (x ^^^ y)
  have c3 := lg_e0 (x / y * y) x
  rw [e3] at c1
  rw [e2] at c3
  have hxr := xor_neg x y (by omega)
  by_cases h : 0 ≤ x.toInt.tmod y.toInt
  · rw [if_pos (c1.mpr h), if_neg]
    rintro ⟨h1, h2⟩
    rw [c2] at h1; rw [c3] at h2
    have := hxr.mp (by omega)
    omega
  · rw [if_neg (fun q => h (c1.mp q)), if_pos]
    rw [c2, c3]
    have h3 : x.toInt < 0 := by
      rcases Int.lt_or_le x.toInt 0 with q | q
      · exact q
      · exact absurd (hm.1 q) h
    exact ⟨by have := hxr.mpr h3; omega, by omega⟩
theorem qt_1 {x y : Int64} (hx : -2305843009213693952 ≤ x.toInt ∧ x.toInt ≤ 2305843009213693952) (hy : 0 < y.toInt) : qtD x y 1 = -fD (-x) y := by
  obtain ⟨e1, e2, e3⟩ := dv_T hx hy
  have hn : (-x).toInt = -x.toInt := by rw [Int64.toInt_neg]; exact b64 (by omega) (by omega)
  obtain ⟨n1, n2, n3⟩ := dv_T (x := -x) (y := y) (by omega) hy
  rw [hn, Int.neg_tdiv] at n1
  rw [hn, Int.neg_tdiv] at n2
  have hm := md_sgn (X := x.toInt) hy
  have hd : x.toInt.tmod y.toInt = x.toInt - x.toInt.tdiv y.toInt * y.toInt := by have := Int.tmod_add_mul_tdiv x.toInt y.toInt; rw [Int.mul_comm] at this; omega
  have en : (-x) / y = -(x / y) := by
    apply Int64.toInt_inj.mp
    have hq : (x.toInt.tdiv y.toInt).natAbs ≤ x.toInt.natAbs := by rw [Int.natAbs_tdiv]; exact Nat.div_le_self _ _
    rw [n1, Int64.toInt_neg, e1]; exact (b64 (by omega) (by omega)).symm
  unfold qtD fD
  rw [if_neg (show ¬ (1 : Int32) = 0 by decide)]
  have c1 := lg_p0 (x - x / y * y)
  have c2 := lg_n0 (-x ^^^ y)
  have c3 := lg_e0 (-x / y * y) (-x)
  rw [e3] at c1
  rw [n2, hn] at c3
  have hxr := xor_neg (-x) y (by omega)
  rw [hn] at hxr
  have hnm : -x.toInt.tdiv y.toInt * y.toInt = -(x.toInt.tdiv y.toInt * y.toInt) := Int.neg_mul _ _
  by_cases h : x.toInt.tmod y.toInt ≤ 0
  · rw [if_pos (c1.mpr h), if_neg, en, Int64.neg_neg]
    rintro ⟨h1, h2⟩
    rw [c2] at h1; rw [c3] at h2
    have := hxr.mp (by omega)
    omega
  · rw [if_neg (fun q => h (c1.mp q)), if_pos]
    · rw [en]
      apply Int64.toInt_inj.mp
      have hq : (x.toInt.tdiv y.toInt).natAbs ≤ x.toInt.natAbs := by rw [Int.natAbs_tdiv]; exact Nat.div_le_self _ _
      have h1 : (1 : Int64).toInt = 1 := by decide
      have a1 : (x / y + 1).toInt = x.toInt.tdiv y.toInt + 1 := by rw [Int64.toInt_add, e1, h1]; exact b64 (by omega) (by omega)
      have a2 : (-(x / y)).toInt = -x.toInt.tdiv y.toInt := by rw [Int64.toInt_neg, e1]; exact b64 (by omega) (by omega)
      have a3 : (-(x / y) - 1).toInt = -x.toInt.tdiv y.toInt - 1 := by rw [Int64.toInt_sub, a2, h1]; exact b64 (by omega) (by omega)
      rw [a1, Int64.toInt_neg, a3, b64 (by omega) (by omega)]
      omega
    · rw [c2, c3]
      have h3 : 0 < x.toInt := by
        rcases Int.lt_or_le 0 x.toInt with q | q
        · exact q
        · exact absurd (hm.2 q) h
      exact ⟨by have := hxr.mpr (by omega); omega, by omega⟩
