/-! numbers: facts out of branches -/
section HELP
variable {a b : Nat}
theorem yeq (c : nI a = nI b) (ha : a < 2147483648) (hb : b < 2147483648) : a = b := (nI_eq ha hb).mp c
theorem yne (c : ¬ nI a = nI b) (_ : a < 2147483648) (_ : b < 2147483648) : a ≠ b := fun h => c (by rw [h])
theorem ylt (c : nI a < nI b) (ha : a < 2147483648) (hb : b < 2147483648) : a < b := (nI_ltI ha hb).mp c
theorem yge (c : nI b ≤ nI a) (ha : a < 2147483648) (hb : b < 2147483648) : b ≤ a := (nI_leI hb ha).mp c
theorem ygt (c : nI b < nI a) (ha : a < 2147483648) (hb : b < 2147483648) : b < a := (nI_ltI hb ha).mp c
theorem yle (c : nI a ≤ nI b) (ha : a < 2147483648) (hb : b < 2147483648) : a ≤ b := (nI_leI ha hb).mp c
theorem yeqN (c : ¬ ¬ nI a = nI b) (ha : a < 2147483648) (hb : b < 2147483648) : a = b := (nI_eq ha hb).mp (Classical.not_not.mp c)
theorem yneN (c : ¬ nI a = nI b) (_ : a < 2147483648) (_ : b < 2147483648) : a ≠ b := fun h => c (by rw [h])
theorem yltN (c : ¬ nI b ≤ nI a) (ha : a < 2147483648) (hb : b < 2147483648) : a < b := Nat.not_le.mp fun h => c ((nI_leI hb ha).mpr h)
theorem ygeN (c : ¬ nI a < nI b) (ha : a < 2147483648) (hb : b < 2147483648) : b ≤ a := Nat.not_lt.mp fun h => c ((nI_ltI ha hb).mpr h)
theorem ygtN (c : ¬ nI a ≤ nI b) (ha : a < 2147483648) (hb : b < 2147483648) : b < a := Nat.not_le.mp fun h => c ((nI_leI ha hb).mpr h)
theorem yleN (c : ¬ nI b < nI a) (ha : a < 2147483648) (hb : b < 2147483648) : a ≤ b := Nat.not_lt.mp fun h => c ((nI_ltI hb ha).mpr h)
theorem yeq0 (c : nI a = 0) (ha : a < 2147483648) (_ : (0 : Nat) < 2147483648) : a = 0 := yeq (b := 0) c ha (by omega)
theorem yne0 (c : ¬ nI a = 0) (ha : a < 2147483648) (_ : (0 : Nat) < 2147483648) : a ≠ 0 := yne (b := 0) c ha (by omega)
theorem ylt0 (c : nI a < 0) (ha : a < 2147483648) (_ : (0 : Nat) < 2147483648) : a < 0 := ylt (b := 0) c ha (by omega)
theorem yge0 (c : 0 ≤ nI a) (ha : a < 2147483648) (_ : (0 : Nat) < 2147483648) : 0 ≤ a := yge (b := 0) c ha (by omega)
theorem ygt0 (c : 0 < nI a) (ha : a < 2147483648) (_ : (0 : Nat) < 2147483648) : 0 < a := ygt (b := 0) c ha (by omega)
theorem yle0 (c : nI a ≤ 0) (ha : a < 2147483648) (_ : (0 : Nat) < 2147483648) : a ≤ 0 := yle (b := 0) c ha (by omega)
theorem yeqN0 (c : ¬ ¬ nI a = 0) (ha : a < 2147483648) (_ : (0 : Nat) < 2147483648) : a = 0 := yeqN (b := 0) c ha (by omega)
theorem yneN0 (c : ¬ nI a = 0) (ha : a < 2147483648) (_ : (0 : Nat) < 2147483648) : a ≠ 0 := yne (b := 0) c ha (by omega)
theorem yltN0 (c : ¬ 0 ≤ nI a) (ha : a < 2147483648) (_ : (0 : Nat) < 2147483648) : a < 0 := yltN (b := 0) c ha (by omega)
theorem ygeN0 (c : ¬ nI a < 0) (ha : a < 2147483648) (_ : (0 : Nat) < 2147483648) : 0 ≤ a := ygeN (b := 0) c ha (by omega)
theorem ygtN0 (c : ¬ nI a ≤ 0) (ha : a < 2147483648) (_ : (0 : Nat) < 2147483648) : 0 < a := ygtN (b := 0) c ha (by omega)
theorem yleN0 (c : ¬ 0 < nI a) (ha : a < 2147483648) (_ : (0 : Nat) < 2147483648) : a ≤ 0 := yleN (b := 0) c ha (by omega)
theorem nI_dec (d : Nat) (h : d ≤ a) : nI a + Int32.ofInt (-(d : Int)) = nI (a - d) := by
  have e : Int32.ofInt (-(d : Int)) = - nI d := by rw [Int32.ofInt_neg]; rfl
  rw [e, ← Int32.sub_eq_add_neg]; exact pk_sub h
end HELP
/-- the arrays' classes by number: 0 int, 1 long, 2 boolean, 3 Machine, 4 int[] -/
abbrev tyU (k : Nat → ClassId) : List (ClassId × FieldType) := [(k 0, .int), (k 1, .long), (k 2, .boolean), (k 3, .object "HeatMachines$Machine"), (k 4, .array .int)]
abbrev gU (D : va_G) (k : Nat → ClassId) : kG := (D, tyU k)
/-- the room of a method d calls deep that makes c cells of s slots -/
abbrev rU (d c s : Nat) : Room := { frames := d, cells := c, slots := s, locals := 32 * d }
theorem gS2 {Ts : List Cond} (hT : ∀ w ∈ ut, w ∈ Ts) {y : MethodName} {b : ByteArray} {n i : Nat} {r : Option FieldType} {own : String} (h : Cond.code y b n r ∈ ut) (h1 : Cond.methodLink own i y ∈ ut) (h2 : Cond.static y ∈ ut) (h3 : Cond.initialized y.cls ∈ ut) : GoodIn Ts (va_wsS own i y (uw y b n r)) :=
  gd_app hT (by intro w hw; simp only [List.mem_cons, List.not_mem_nil, or_false] at hw; rcases hw with rfl | rfl | rfl <;> assumption) (uw_good hT h)
theorem l_ne0 {x : Int32} (h : 0 < x) : ¬ x.toInt64 = 0 := by
  intro q
  have h1 := congrArg Int64.toInt q
  rw [Int32.toInt_toInt64] at h1
  rw [Int32.lt_iff_toInt_lt] at h
  have h0 : (0 : Int32).toInt = 0 := by decide
  have h2 : (0 : Int64).toInt = 0 := by decide
  omega
/-- a method's start, of a class some of whose members the machine has of its own -/
theorem b_startF {l : Launch} {g : kG} {ws : va_W} {cc : ByteArray} {ret : Option FieldType} {y : MethodName} {maxL mc ms sz : Nat} {ws' : List Cond} {rm : Room} {av : List Value} {Qc : (Nat → Prop) → Array Value → State → Outcome → State → Prop} (hy : plainFor y = true) (hlen : (lg_sl av).length ≤ maxL)
    (body : ∀ (p : Program) (e : Env) (s : State) (m : MethodId) (below : List Frame) (meth : Method) (c : Code) (A : Nat → Prop), bM p s m av.toArray meth c y.cls cc maxL ret (.code y cc maxL ret :: ws') → (meth.name = y.name) → bW g A s s.heap [] ws → ∀ ls : Array Slot, lv_has ls maxL (lv_args 0 av) →
      W p l e rm s m av.toArray below meth c s.heap [] 0 0 (MQ below (Qc A) av.toArray s mc ms A) (F0 m 0 ls [])) :
    Met l y (.code y cc maxL ret :: ws') rm (va_Pc av (bP g ws sz)) (Qc (va_A ws sz)) mc ms (va_A ws sz) := by
  refine va_MetF (cc := cc) (maxL := maxL) (ret := ret) hy rfl ?_
  intro p e s m args below meth c s₁ B hml hv
  obtain ⟨rfl, hsz, hP, hK, hD0, hZ⟩ := hv
  subst hsz
  have hl := lv_entry av (n := maxL) hlen
  rw [lg_entry_eq]
  exact body p e s m below meth c _ ⟨B.exec, B.bytes, B.returns, hml, findClass_of_methodNamed B.named, atoms_spec (ws := .code y cc maxL ret :: ws') B.pre, B.notSynchronized⟩ (name_of_methodNamed B.named B.method).1
    ⟨hP, hD0.self, va_S.rf, hK, fun q h => Or.inr h, hZ⟩ _ hl
