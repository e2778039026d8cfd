/-! the curve, the fall -/
theorem cv_ln {F G : Nat → Int32} {z i : Nat} {M : Int} {x r : Int32} (hG : lnG F G z M) (hz : 0 < z) (hi : lnAt F z (lnHold F z x) i) (h : cvR F G z x r) : r = lnRes F G z (lnHold F z x) 0 i := by
  have lt : ∀ a b : Int32, a < b ↔ a.toInt < b.toInt := fun a b => Int32.lt_iff_toInt_lt
  have le : ∀ a b : Int32, a ≤ b ↔ a.toInt ≤ b.toInt := fun a b => Int32.le_iff_toInt_le
  have mono : ∀ a b, a ≤ b → b < z → (F a).toInt ≤ (F b).toInt := fun a b h1 h2 => by
    rcases Nat.lt_or_ge a b with q | q
    · have := lnG_lt hG q h2; omega
    · rw [show a = b by omega]; omega
  refine gv_ln hG (Or.inl rfl) hi ?_
  rcases h with ⟨h, -⟩ | ⟨j, hj, h1, h2, h3⟩
  · omega
  · have m0 := mono 0 j (by omega) hj
    have m1 := mono j (z - 1) (by omega) (by omega)
    rcases h3 with ⟨h3, hr⟩ | ⟨h3, hr⟩
    · refine Or.inl ⟨j, hj, ?_, hr⟩
      apply Int32.toInt_inj.mp
      unfold lnHold
      have key : ∀ y : Int32, y = (if x < F 0 then F 0 else x) → (F j).toInt = (if F (z - 1) < y then F (z - 1) else y).toInt := by
        intro y hy
        have hy' : (x.toInt < (F 0).toInt ∧ y.toInt = (F 0).toInt) ∨ (¬ x.toInt < (F 0).toInt ∧ y.toInt = x.toInt) := by
          by_cases q : x < F 0
          · rw [if_pos q] at hy; rw [hy]; exact Or.inl ⟨(lt _ _).mp q, rfl⟩
          · rw [if_neg q] at hy; rw [hy]; exact Or.inr ⟨fun w => q ((lt _ _).mpr w), rfl⟩
        have hout : ((F (z - 1)).toInt < y.toInt ∧ (if F (z - 1) < y then F (z - 1) else y).toInt = (F (z - 1)).toInt) ∨ (¬ (F (z - 1)).toInt < y.toInt ∧ (if F (z - 1) < y then F (z - 1) else y).toInt = y.toInt) := by
          by_cases q : F (z - 1) < y
          · rw [if_pos q]; exact Or.inl ⟨(lt _ _).mp q, rfl⟩
          · rw [if_neg q]; exact Or.inr ⟨fun w => q ((lt _ _).mpr w), rfl⟩
        have hjx : 0 < j → (F j).toInt ≤ x.toInt := fun w => (le _ _).mp (h2 w)
        rcases h3 with h3 | h3
        · rw [le] at h3
          rcases Nat.eq_zero_or_pos j with w | w
          · rw [w] at h3 m1 ⊢; omega
          · have := hjx w; omega
        · have e : z - 1 = j := by omega
          rw [e] at hout ⊢
          rcases Nat.eq_zero_or_pos j with w | w
          · rw [w] at hout ⊢; omega
          · have := hjx w; omega
      exact key _ rfl
    · have q1 : ¬ x.toInt ≤ (F j).toInt := fun w => h3 (Or.inl ((le _ _).mpr w))
      have q2 : j + 1 < z := by
        rcases Nat.lt_or_ge (j + 1) z with w | w
        · exact w
        · exact absurd (Or.inr (by omega)) h3
      have q3 := h1 (j + 1) (by omega) q2
      rw [le] at q3
      have m2 := mono (j + 1) (z - 1) (by omega) (by omega)
      have e : lnHold F z x = x := by
        unfold lnHold
        rw [if_neg (show ¬ x < F 0 by rw [lt]; omega), if_neg (show ¬ F (z - 1) < x by rw [lt]; omega)]
      rw [e]
      exact Or.inr (Or.inl ⟨j, q2, (lt _ _).mpr (by omega), (lt _ _).mpr (by omega), hr⟩)
theorem fall_same (F G : Nat → Int32) (z h : Nat) : ∀ i, bhFall F G z h i = fallR F G z h i
  | 0 => rfl
  | i + 1 => by
    have ih := fall_same F G z h i
    unfold bhFall fallR
    rw [ih]
    by_cases q : z = 0
    · rw [if_pos q]
      have e : bhNum F z (h - i) = 0 := by unfold bhNum bhLast; rw [if_neg (by omega), if_pos q]
      have e2 : fallR F G z h i = 0 := fallR_0 q i
      rw [e, e2, show (0 : Int32).toInt64 = 0 from rfl, Int64.mul_zero, Int64.add_zero]
    · rw [if_neg q]
      have e : bhNum F z (h - i) = (if h - i < z then F (h - i) else F (z - 1)) := by unfold bhNum bhLast; rw [if_neg q]
      rw [e]
