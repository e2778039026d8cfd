/-! hours pass -/
theorem pst_shift (BE : Nat → Option Nat) (AF : Nat → Nat) (ov sta : Nat) : ∀ i, pst BE AF (ov + 1) (pst BE AF ov sta 1) i = pst BE AF ov sta (i + 1)
  | 0 => rfl
  | i + 1 => by
    show AF (pst BE AF (ov + 1) (pst BE AF ov sta 1) i * 8 + (BE ((ov + 1 + i) * 512 + pst BE AF (ov + 1) (pst BE AF ov sta 1) i)).getD 0 % 8) = AF (pst BE AF ov sta (i + 1) * 8 + (BE ((ov + (i + 1)) * 512 + pst BE AF ov sta (i + 1))).getD 0 % 8)
    rw [pst_shift BE AF ov sta i, show ov + 1 + i = ov + (i + 1) by omega]
theorem pset_shift (BE : Nat → Option Nat) (AF : Nat → Nat) (ov sta i : Nat) : pset BE AF (ov + 1) (pst BE AF ov sta 1) i = pset BE AF ov sta (i + 1) := by
  unfold pset
  rw [pst_shift, show ov + 1 + i = ov + (i + 1) by omega]
theorem pst_add (BE : Nat → Option Nat) (AF : Nat → Nat) (ov sta : Nat) : ∀ j i, pst BE AF (ov + j) (pst BE AF ov sta j) i = pst BE AF ov sta (j + i)
  | 0, i => by rw [Nat.zero_add]; rfl
  | j + 1, i => by
    have h := pst_add BE AF ov sta j 1
    rw [← h, show ov + (j + 1) = (ov + j) + 1 by omega, pst_shift, pst_add BE AF ov sta j (i + 1), show j + 1 + i = j + (i + 1) by omega]
/-- the hour that passes: what was told, and the set that ran -/
def toN (TO : Nat → Int64) (a b c d : Nat) : Nat → Int64 := vp_updL (vp_updL (vp_updL (vp_updL TO 0 (TO 0 + lN a)) 1 (TO 1 + lN b)) 2 (TO 2 + lN c)) 3 (TO 3 + lN d)
theorem plP_next {g q : Nat → Nat → Option Nat} {lr lp sc : Nat → Nat} {cn n ov sta : Nat} {FP FN R RB MR MP AF SX AB HE PO : Nat → Nat} {BE : Nat → Option Nat} {SE : Nat → Int32} (h : plP g q lr lp sc cn n ov sta 0 FP FN R RB MR MP AF SX AB HE PO BE SE) (hov : ov < 36) (hne : ¬ BE (ov * 512 + sta) = none) :
    plP g q lr lp sc cn n (ov + 1) (pst BE AF ov sta 1) 0 FP FN R RB MR MP AF SX AB HE PO BE SE ∧ ¬ BE ((ov + 1) * 512 + pst BE AF ov sta 1) = none := by
  obtain ⟨h1, h2, h3, h4, h5, h6, h7, h8, h9⟩ := h
  obtain ⟨k1, v, k2⟩ := lay_ok h1 h5 h4 h8 hne 1 (by omega)
  have hn : ¬ BE ((ov + 1) * 512 + pst BE AF ov sta 1) = none := by rw [k2]; simp
  refine ⟨⟨h1, h2, h3, h4, fun h a b c => h5 h a (by omega) c, by omega, h7, k1, fun _ => Or.inl ⟨hn, fun x hx => ?_⟩⟩, hn⟩
  rcases h9 rfl with ⟨_, w⟩ | ⟨w, _⟩
  · rw [pset_shift, show ov + 1 + x = ov + (x + 1) by omega]; exact w (x + 1) (by omega)
  · exact absurd w hne
theorem plP_add {g q : Nat → Nat → Option Nat} {lr lp sc : Nat → Nat} {cn n ov sta : Nat} {FP FN R RB MR MP AF SX AB HE PO : Nat → Nat} {BE : Nat → Option Nat} {SE : Nat → Int32} (h : plP g q lr lp sc cn n ov sta 0 FP FN R RB MR MP AF SX AB HE PO BE SE) (hne : ¬ BE (ov * 512 + sta) = none) :
    ∀ j, ov + j ≤ 36 → plP g q lr lp sc cn n (ov + j) (pst BE AF ov sta j) 0 FP FN R RB MR MP AF SX AB HE PO BE SE ∧ ¬ BE ((ov + j) * 512 + pst BE AF ov sta j) = none
  | 0, _ => ⟨h, hne⟩
  | j + 1, hj => by
    obtain ⟨a, b⟩ := plP_add h hne j (by omega)
    have := plP_next a (by omega) b
    rw [pst_add] at this
    exact this
def rsR (BE : Nat → Option Nat) (AF : Nat → Nat) (ov sta : Nat) (RS : Nat → Int32) : Nat → Nat → Int32
  | 0 => RS
  | j + 1 => upd (rsR BE AF ov sta RS j) (ov + j) (nI (pset BE AF ov sta j))
def toR (BE : Nat → Option Nat) (AF HE PO SX FP FN RB : Nat → Nat) (ov sta : Nat) (TO : Nat → Int64) : Nat → Nat → Int64
  | 0 => TO
  | j + 1 => toN (toR BE AF HE PO SX FP FN RB ov sta TO j) (PO ((ov + j) * 8 + pset BE AF ov sta j) * FP (ov + j) + SX (dif (pset BE AF ov sta j) (RB (pst BE AF ov sta j)))) (HE ((ov + j) * 8 + pset BE AF ov sta j)) (FN (ov + j)) (PO ((ov + j) * 8 + pset BE AF ov sta j))
