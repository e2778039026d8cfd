/-! the reference: pure words -/
def bI (b : Bool) : Int32 := if b then 1 else 0
theorem bI_0 {b : Bool} : bI b = 0 ↔ b = false := by cases b <;> decide
theorem bI_1 {b : Bool} : bI b = 1 ↔ b = true := by cases b <;> decide
theorem bI_or (b : Bool) : bI b = 0 ∨ bI b = 1 := by cases b <;> decide
theorem im_n {a b : Nat} (h1 : a < b) (hb : b < 1073741824) : nI 0 ≤ nI a ∧ nI a < nI b := ⟨nI_le (by omega) (by omega), (nI_ltI (by omega) (by omega)).mpr h1⟩
def qtD (x y : Int64) (up : Int32) : Int64 := if up = 0 then (if 0 ≤ lg_cmp (x - x / y * y) 0 then x / y else x / y - 1) else (if lg_cmp (x - x / y * y) 0 ≤ 0 then x / y else x / y + 1)
/-- what the map gives between place j and the next -/
def gvB (F G : Nat → Int32) (j : Nat) (x up : Int32) : Int32 := ((G j).toInt64 + qtD ((G (j + 1) - G j).toInt64 * (x - F j).toInt64) (F (j + 1) - F j).toInt64 up).toInt32
/-- none of the first n places decides -/
def gvN (F : Nat → Int32) (z : Nat) (x : Int32) (n : Nat) : Prop := ∀ i, i < n → ¬ F i = x ∧ ¬ (i + 1 < z ∧ F i < x ∧ x < F (i + 1))
def gvR (F G : Nat → Int32) (z : Nat) (x up r : Int32) : Prop := (∃ j, j < z ∧ F j = x ∧ r = G j) ∨ (∃ j, j + 1 < z ∧ F j < x ∧ x < F (j + 1) ∧ r = gvB F G j x up) ∨ (r = -1 ∧ gvN F z x z)
theorem updLn (R : Nat → Nat) (i v : Nat) : vp_updL (fun j => lN (R j)) i (lN v) = fun j => lN (va_up R i v j) := by
  funext j
  unfold vp_updL va_up
  split <;> rfl
theorem updB (R : Nat → Bool) (i : Nat) (v : Bool) : upd (fun j => bI (R j)) i (bI v) = fun j => bI (va_up R i v j) := by
  funext j
  unfold upd va_up
  split <;> rfl
theorem sub_ne {a b x : Int32} (h1 : ¬ x ≤ a) (h2 : ¬ b ≤ x) : ¬ (b - a).toInt64 = 0 := by
  intro q
  have h3 := congrArg Int64.toInt q
  rw [Int32.toInt_toInt64] at h3
  have h4 : b - a = 0 := Int32.toInt_inj.mp h3
  have h5 : b = a := by
    have := congrArg (· + a) h4
    simpa using this
  subst h5
  rw [Int32.le_iff_toInt_le] at h1 h2
  omega
theorem upd_same (F : Nat → Int32) (i : Nat) : upd F i (F i) = F := by
  funext j; unfold upd; split
  · rename_i h; rw [h]
  · rfl
theorem va_same {α : Type} (F : Nat → α) (i : Nat) : va_up F i (F i) = F := by
  funext j; unfold va_up; split
  · rename_i h; rw [h]
  · rfl
def fallR (GR LO : Nat → Int32) (tb h : Nat) : Nat → Int64
  | 0 => 0
  | i + 1 => if tb = 0 then 0 else fallR GR LO tb h i + (LO i - (if i = 0 then 0 else LO (i - 1))).toInt64 * (if h - i < tb then GR (h - i) else GR (tb - 1)).toInt64
theorem fallR_0 {GR LO : Nat → Int32} {tb h : Nat} (hz : tb = 0) : ∀ i, fallR GR LO tb h i = 0
  | 0 => rfl
  | i + 1 => by unfold fallR; rw [if_pos hz]
def cvR (CA CW : Nat → Int32) (z : Nat) (x r : Int32) : Prop := (z = 0 ∧ r = -1) ∨ ∃ j, j < z ∧ (∀ i, j < i → i < z → ¬ CA i ≤ x) ∧ (0 < j → CA j ≤ x) ∧ ((x ≤ CA j ∨ j + 1 = z) ∧ r = CW j ∨ ¬ (x ≤ CA j ∨ j + 1 = z) ∧ r = gvB CA CW j x 0)
theorem bI_t {b : Bool} (h : ¬ bI b = 0) : b = true := by cases b; exact absurd rfl h; rfl
theorem bI_e {a b : Bool} (h : bI a = bI b) : (a == b) = true := by revert h; cases a <;> cases b <;> decide
theorem bI_ne {a b : Bool} (h : ¬ bI a = bI b) : (a == b) = false := by revert h; cases a <;> cases b <;> decide
/-- two ways that meet -/
theorem b_mg {p : Program} {l : Launch} {e : Env} {R : Room} {s : State} {m : MethodId} {args : Array Value} {below : List Frame} {meth : Method} {c : Code} {H : Heap} {locs : List Loc} {cells slots : Nat} {Q : State → Prop} {pc pc' : Nat} {ls : Array Slot} {st st' : List Value}
    (k1 : W p l e R s m args below meth c H locs cells slots Q (F0 m pc' ls st')) (k2 : W p l e R s m args below meth c H locs cells slots Q (F0 m pc' ls st') → W p l e R s m args below meth c H locs cells slots Q (F0 m pc ls st)) : W p l e R s m args below meth c H locs cells slots Q (F0 m pc ls st) := k2 k1
