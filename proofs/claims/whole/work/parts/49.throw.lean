/-! THROWS: a method that makes an exception and throws it; a call that lets it through. -/
abbrev sT : String := "java/lang/Throwable"
abbrev sIA : String := "java/lang/IllegalArgumentException"
abbrev sIS : String := "java/lang/IllegalStateException"
abbrev eNm : List String := ["java/lang/RuntimeException", "java/lang/Exception"]
/-- a static of Throwable that holds a reference or null, its cell out of reach -/
def bS (n d : String) (A : Nat → Prop) (U : State) (H : Heap) : Prop :=
  ∃ (c : ClassId) (k : Class) (i : Nat) (f : Field) (a : Nat) (cell : Cell) (v : Value), U.vm.findClass sT = some c ∧ U.fieldFound? sT n d = some (c, k, i, f) ∧ f.isStatic = true ∧ k.statics = some a ∧ H[a]? = some cell ∧ cell.vm.isStatics = true ∧ cell.cls = c ∧ f.slot < cell.slots.size ∧ k.staticTypes[f.slot]? = some f.type ∧ cell.slots[f.slot]? = some v ∧ (v = .null ∨ ∃ x, v = .ref x) ∧ ¬ A a
theorem bS.moved {n d : String} {A : Nat → Prop} {u U : State} {H : Heap} (hvm : u.vm.Alike U.vm) (h : bS n d A u H) : bS n d A U H := by
  obtain ⟨c, k, i, f, a, cell, v, h0, h1, h2, h3, h4, h5, h6, h7, h8, h9⟩ := h
  obtain ⟨k', hi', he⟩ := State.fieldFound?_setVm hvm h1
  exact ⟨c, k', i, f, a, cell, v, by rw [hvm.findClass]; exact h0, hi', h2, by rw [he]; exact h3, h4, h5, h6, h7, by rw [he]; exact h8, h9⟩
theorem bS.kept {n d : String} {A : Nat → Prop} {U : State} {H H1 : Heap} (h : bS n d A U H) (hq : ∀ a : Nat, a < H.size → ¬ A a → H1[a]? = H[a]?) : bS n d A U H1 := by
  obtain ⟨c, k, i, f, a, cell, v, h0, h1, h2, h3, h4, h5, h6, h7, h8, h9, h10, h11⟩ := h
  exact ⟨c, k, i, f, a, cell, v, h0, h1, h2, h3, by rw [hq a (Array.getElem?_eq_some_iff.mp h4).1 h11]; exact h4, h5, h6, h7, h8, h9, h10, h11⟩
theorem bS.narrow {n d : String} {A B : Nat → Prop} {U : State} {H : Heap} (h : bS n d A U H) (hAB : ∀ q, B q → A q) : bS n d B U H := by
  obtain ⟨c, k, i, f, a, cell, v, h0, h1, h2, h3, h4, h5, h6, h7, h8, h9, h10, h11⟩ := h
  exact ⟨c, k, i, f, a, cell, v, h0, h1, h2, h3, h4, h5, h6, h7, h8, h9, h10, fun z => h11 (hAB a z)⟩
theorem bS.lays {n d : String} {A : Nat → Prop} {args : Array Value} {U : State} (h : bS n d A U U.heap) : (Cond.laysStatic sT n d).before args U = true := by
  obtain ⟨c, k, i, f, a, cell, v, h0, h1, h2, h3, h4, h5, h6, h7, h8, h9, h10, h11⟩ := h
  simp [Cond.before, Cond.holds, Cond.value, h0, h1, h2, h3, h4, h5, h6, h7, h8]
theorem bS.isR {n d : String} {A : Nat → Prop} {args : Array Value} {U : State} (h : bS n d A U U.heap) : (Cond.isRef (.static sT n d)).before args U = true := by
  obtain ⟨c, k, i, f, a, cell, v, h0, h1, h2, h3, h4, h5, h6, h7, h8, h9, h10, h11⟩ := h
  have e : (Term.static sT n d).eval args U none [] U = some v := by
    simp [Term.eval, State.fieldNamed?, h1, h2, h3, h4, h5, h9]
  rcases h10 with rfl | ⟨x, rfl⟩ <;> simp [Cond.before, Cond.holds, Cond.value, e]
/-- arrays of arrays of ints -/
def bG (U : State) : Prop := ∃ (c comp cc : ClassId) (k kc : Class), U.vm.findClass "[[I" = some c ∧ U.vm.findClass "[I" = some comp ∧ U.vm.classes[c]? = some k ∧ k.kind = .array comp (.array .int) ∧ U.vm.classes[comp]? = some kc ∧ kc.kind = .array cc .int
theorem bG.moved {u U : State} (hvm : u.vm.Alike U.vm) (h : bG u) : bG U := by
  obtain ⟨c, comp, cc, k, kc, h1, h2, h3, h4, h5, h6⟩ := h
  obtain ⟨k', hk', he⟩ := hvm.2.2 _ _ h3
  obtain ⟨kc', hkc', hec⟩ := hvm.2.2 _ _ h5
  exact ⟨c, comp, cc, k', kc', by rw [hvm.findClass]; exact h1, by rw [hvm.findClass]; exact h2, hk', by rw [he]; exact h4, hkc', by rw [hec]; exact h6⟩
/-- what throws ask beside the good words -/
def bE (A : Nat → Prop) (U : State) (H : Heap) : Prop :=
  bS "UNASSIGNED_STACK" "[Ljava/lang/StackTraceElement;" A U H ∧ bS "SUPPRESSED_SENTINEL" "Ljava/util/List;" A U H ∧
  (va_Nw (.declares (Bundle.initS "java/lang/RuntimeException")) U ∧ va_Nw (.declares (Bundle.initS "java/lang/Exception")) U ∧ va_Nw (.declares (Bundle.initS sT)) U) ∧
  (va_Nw (.castable sIA sIA) U ∧ va_Nw (.castable sIS sIS) U ∧ ¬ va_Nw (.castable sIS sIA) U) ∧
  (∃ a, vk_R "HeatMachines" 183 "a number is out of its bounds" a U) ∧ (∃ a, vk_R "HeatMachines" 190 "not in this state" a U) ∧ bG U
theorem bE.kept {A : Nat → Prop} {U : State} {H H1 : Heap} (h : bE A U H) (hq : ∀ a : Nat, a < H.size → ¬ A a → H1[a]? = H[a]?) : bE A U H1 := ⟨h.1.kept hq, h.2.1.kept hq, h.2.2⟩
theorem bE.narrow {A B : Nat → Prop} {U : State} {H : Heap} (h : bE A U H) (hAB : ∀ q, B q → A q) : bE B U H := ⟨h.1.narrow hAB, h.2.1.narrow hAB, h.2.2⟩
theorem nC_warm {C T : String} {s U : State} (hW : s.WarmedH U.vm) (h : ¬ va_Nw (.castable C T) s) : ¬ va_Nw (.castable C T) U := by
  intro q
  apply h
  have q1 : (Cond.castable C T).before #[] (s.setVm U.vm) = true := va_tabs rfl (rfl : U.vm = (s.setVm U.vm).vm) q
  rw [Cond.castable_setVm hW.alike] at q1
  exact q1
theorem bE.warm {A : Nat → Prop} {s U : State} {H : Heap} (hW : s.WarmedH U.vm) (h : bE A s H) : bE A U H := by
  obtain ⟨h1, h2, ⟨h3, h4, h5⟩, ⟨h6, h7, h8⟩, ⟨a, h9⟩, ⟨b, h10⟩, h11⟩ := h
  exact ⟨h1.moved hW.alike, h2.moved hW.alike, ⟨va_Nw.warmD hW h3, va_Nw.warmD hW h4, va_Nw.warmD hW h5⟩, ⟨va_Nw.warmC hW h6, va_Nw.warmC hW h7, nC_warm hW h8⟩, ⟨a, vk_R.warm hW h9⟩, ⟨b, vk_R.warm hW h10⟩, h11.moved hW.alike⟩
theorem bE.same {A : Nat → Prop} {s U : State} {H : Heap} (hv : s.vm = U.vm) (h : bE A s H) : bE A U H := h.warm (by rw [← hv]; exact State.WarmedH.refl s)
/-- the words of a throw that are no good words -/
def eX (X : String) : List Cond := [.laysStatic sT "UNASSIGNED_STACK" "[Ljava/lang/StackTraceElement;", .laysStatic sT "SUPPRESSED_SENTINEL" "Ljava/util/List;", .isRef (.static sT "UNASSIGNED_STACK" "[Ljava/lang/StackTraceElement;"), .isRef (.static sT "SUPPRESSED_SENTINEL" "Ljava/util/List;"), .declares (Bundle.initS "java/lang/RuntimeException"), .declares (Bundle.initS "java/lang/Exception"), .declares (Bundle.initS sT), .castable X X]
set_option maxRecDepth 100000 in
theorem eA_all : (Bundle.ownAtoms "HeatMachines" 185 sIA eNm).all (fun w => (goodWord w && decide (w ∈ lw_tbl)) || decide (w ∈ eX sIA)) = true := by decide +kernel
set_option maxRecDepth 100000 in
theorem eS_all : (Bundle.ownAtoms "HeatMachines" 192 sIS eNm).all (fun w => (goodWord w && decide (w ∈ lw_tbl)) || decide (w ∈ eX sIS)) = true := by decide +kernel
theorem eX_of {A : Nat → Prop} {args : Array Value} {s : State} (hE : bE A s s.heap) {X : String} (hX : X = sIA ∨ X = sIS) : ∀ w ∈ eX X, w.before args s = true := by
  obtain ⟨h1, h2, ⟨h3, h4, h5⟩, ⟨h6, h7, -⟩, -⟩ := hE
  intro w hw
  simp only [eX, List.mem_cons, List.not_mem_nil, or_false] at hw
  rcases hw with rfl | rfl | rfl | rfl | rfl | rfl | rfl | rfl
  · exact h1.lays
  · exact h2.lays
  · exact h1.isR
  · exact h2.isR
  · exact va_Nw.use rfl h3
  · exact va_Nw.use rfl h4
  · exact va_Nw.use rfl h5
  · rcases hX with rfl | rfl
    · exact va_Nw.use rfl h6
    · exact va_Nw.use rfl h7
theorem eat {ic : Nat} {X : String} (hX : X = sIA ∨ X = sIS) (hall : (Bundle.ownAtoms "HeatMachines" ic X eNm).all (fun w => (goodWord w && decide (w ∈ lw_tbl)) || decide (w ∈ eX X)) = true) {A : Nat → Prop} {args : Array Value} {s : State} (hts : ∀ w ∈ ut, w.before args s = true) (hE : bE A s s.heap) : ∀ w ∈ Bundle.ownAtoms "HeatMachines" ic X eNm, w.before args s = true := by
  intro w hw
  have h := List.all_eq_true.mp hall w hw
  simp only [Bool.or_eq_true, Bool.and_eq_true, decide_eq_true_eq] at h
  rcases h with h | h
  · exact hts w (ut_of h.2 h.1)
  · exact eX_of hE hX w h
/-- the end of a method that throws -/
def fT (first : State) (o : Outcome) (t : State) (L : List Loc) (k n : Nat) : Prop := (∃ x, o = .threw x) ∧ first.WarmedH t.vm ∧ first.sameButNew ({ t with vm := first.vm } : State) L k n
def MetT (l : Launch) (y : MethodName) (ws : List Cond) (rm : Room) (Pc : Array Value → State → Prop) (Qc : Array Value → State → Outcome → State → Prop) (mc ms : Nat) (free : Addr → Prop) : Prop :=
  MetFree l y (headSpec ws rm) Pc (fun _ _ _ _ _ => True) (fun a st o t => Qc a st o t ∧ ∃ L, fT st o t L mc ms ∧ ∀ q ∈ L, free q.base)
def MQT (below : List Frame) (Qc : Array Value → State → Outcome → State → Prop) (a : Array Value) (s : State) (mc ms : Nat) (free : Addr → Prop) : State → Prop := fun t =>
  ∃ o, t.status = .running ∧ Ended t below o ∧ Qc a s o t ∧ ∃ L, fT s o t L mc ms ∧ ∀ q ∈ L, free q.base
def bQt (E : String) (B : State → Prop) (A : Nat → Prop) : Array Value → State → Outcome → State → Prop := fun _ st oc t => (∃ (x : Nat) (ce : Cell), oc = .threw x ∧ st.heap.size ≤ x ∧ t.heap[x]? = some ce ∧ ce.vm.isStatics = false ∧ t.vm.findClass E = some ce.cls ∧ B t) ∧ va_F A st t
def bPE (g : kG) (ws : va_W) (sz : Nat) (U : State) : Prop := bP g ws sz U ∧ bE (va_A ws sz) U U.heap
section THROW
variable {p : Program} {l : Launch} {e : Env} {R : Room} {s : State} {m : MethodId} {args : Array Value} {below : List Frame} {meth : Method} {c : Code} {H : Heap} {locs : List Loc} {cells slots : Nat} {Q : State → Prop}
variable {g : kG} {A : Nat → Prop} {ws wc wr w1 : va_W} {own : String} {cc : ByteArray} {nL : Nat} {ret : Option FieldType} {Ts : List Cond} {pc : Nat} {ls : Array Slot} {rest : List Value}
theorem MetT.ofW {y : MethodName} {ws ws' : List Cond} {rm : Room} {Pc : Array Value → State → Prop} {Qc : Array Value → State → Outcome → State → Prop} {mc ms : Nat} {free : Addr → Prop} {cc : ByteArray} {maxL : Nat} {ret : Option FieldType}
    (hy : plainName y.cls = true) (hw : ws = Cond.code y cc maxL ret :: ws')
    (body : ∀ p e s m args below meth c s₁, BodyLoose p l y (headSpec ws rm) cc maxL ret e s m args below meth c s₁ → c.maxLocals = maxL → c.exceptionTable.isEmpty = true → Pc args s →
      W p l e (headSpec ws rm).room s m args below meth c s.heap [] 0 0 (MQT below Qc args s mc ms free) (entryFrame m args maxL)) : MetT l y ws rm Pc Qc mc ms free := by
  refine MetFree.of_bodyS (code := cc) (maxLocals := maxL) (ret := ret) hy ?_ ?_
  · intro args s m h hn
    obtain ⟨meth, c, h1, h2, h3, h4, h5, h6, -, -⟩ := Cond.code_spec hn (atoms_spec (ws := ws) h _ (by rw [hw]; exact List.mem_cons_self))
    exact ⟨meth, c, h1, h2, h3, h4, h5, h6⟩
  · intro p e s m args below meth c s₁ B hml hP _
    have hh0 : s₁.heap = s.heap := by rw [B.state]; rfl
    have hnh := B.noHandlers (atoms_spec (ws := ws) B.pre _ (by rw [hw]; exact List.mem_cons_self))
    obtain ⟨t, a1, o, b1, b2, b3⟩ := body p e s m args below meth c s₁ B hml hnh hP s₁ hh0 (Stand.of_body B)
    exact ⟨t, o, a1, b1, b2, ⟨b3.1, b3.2⟩⟩
theorem b_startT {y : MethodName} {maxL mc ms sz : Nat} {ws' : List Cond} {rm : Room} {av : List Value} {Qc : (Nat → Prop) → Array Value → State → Outcome → State → Prop} (hy : plainName y.cls = true) (hlen : (lg_sl av).length ≤ maxL)
    (body : ∀ (p : Program) (e : Env) (s : State) (m : MethodId) (below : List Frame) (meth : Method) (c : Code) (A : Nat → Prop), bM p s m av.toArray meth c y.cls cc maxL ret (.code y cc maxL ret :: ws') → c.exceptionTable.isEmpty = true → bE A s s.heap → bW g A s s.heap [] ws → ∀ ls : Array Slot, lv_has ls maxL (lv_args 0 av) →
      W p l e rm s m av.toArray below meth c s.heap [] 0 0 (MQT below (Qc A) av.toArray s mc ms A) (F0 m 0 ls [])) :
    MetT l y (.code y cc maxL ret :: ws') rm (va_Pc av (bPE g ws sz)) (Qc (va_A ws sz)) mc ms (va_A ws sz) := by
  refine MetT.ofW (cc := cc) (maxL := maxL) (ret := ret) hy rfl ?_
  intro p e s m args below meth c s₁ B hml hnh hv
  obtain ⟨rfl, ⟨hsz, hP, hK, hD0, hZ⟩, hE⟩ := hv
  subst hsz
  have hl := lv_entry av (n := maxL) hlen
  rw [lg_entry_eq]
  exact body p e s m below meth c _ ⟨B.exec, B.bytes, B.returns, hml, findClass_of_methodNamed B.named, atoms_spec (ws := .code y cc maxL ret :: ws') B.pre, B.notSynchronized⟩ hnh hE
    ⟨hP, hD0.self, va_S.rf, hK, fun q h => Or.inr h, hZ⟩ _ hl
theorem va_P.keptAll {D : va_G} {H1 : Heap} (hP : va_P D classes ws H) (hk : ∀ q : Nat, q < H.size → H1[q]? = H[q]?) : va_P D classes ws H1 := fun k q hq => (hP k q hq).kept (hk q.1 (hP k q hq).lt)
/-- an exception made and thrown -/
theorem b_throw {X : String} {ic ik is sa : Nat} {tx : String} (htr : l.stackTraces = false) (hm : bM p s m args meth c "HeatMachines" cc nL ret Ts) (hT : ∀ w ∈ ut, w ∈ Ts) (hnh : c.exceptionTable.isEmpty = true) (hE : bE A s s.heap) (hw : bW g A s s.heap [] ws) (hX : X = sIA ∨ X = sIS)
    (hall : (Bundle.ownAtoms "HeatMachines" ic X eNm).all (fun w => (goodWord w && decide (w ∈ lw_tbl)) || decide (w ∈ eX X)) = true) (hfit : Bundle.fit X = true)
    (hkl : Cond.classLink "HeatMachines" ik X ∈ ut) (hins : Cond.instantiable X 6 ∈ ut) (hini : Cond.initialized X ∈ ut) (hstr : vk_R "HeatMachines" is tx sa s)
    (hsz : ls.size = nL) (hF : 6 ≤ R.frames ∧ 90 ≤ R.locals ∧ 1 ≤ R.cells ∧ 6 ≤ R.slots)
    (d0 : decode cc pc = .ok (.new ik, 3)) (d3 : decode cc (pc + 3) = .ok (.dup, 1)) (d4 : decode cc (pc + 3 + 1) = .ok (.ldc is, 2)) (d6 : decode cc (pc + 3 + 1 + 2) = .ok (.invokespecial ic, 3)) (d9 : decode cc (pc + 3 + 1 + 2 + 3) = .ok (.athrow, 1)) :
    W p l e R s m args below meth c s.heap [] 0 0 (MQT below (bQt X (bQ g A ws) A) args s 1 6 A) (F0 m pc ls []) := by
  obtain ⟨hx, hb, hr, hml, hown, hts, hlk⟩ := hm
  have hu : ∀ w ∈ ut, w.before args s = true := fun w h => hts w (hT w h)
  refine W.newc (n := 6) hx hb hown (hu _ hkl) (hu _ hins) (hu _ hini) rfl d0 (by omega) (by omega) (fun cC kC h1 h2 h3 h4 => ?_)
  refine lv_dup hx hb d3 rfl ?_
  refine va_ldcS hx hb hown hstr d4 ?_
  intro T hTh Y
  have htr' : e.platform.stackTraces = false := by rw [Y.admits.platform]; exact htr
  obtain ⟨U, st, hrun, hend, hW, hsame, ce, hce, hoc⟩ := Y.ctorThrowS hx htr' (own := "HeatMachines") (cls := X) (names := eNm) (ic := ic) hown hfit (by decide +kernel) (eat hX hall hu hE) (fun x hx => by cases hx) (a := s.heap.size) h1 h2 (by rw [hTh]; simp) (Nat.le_refl _) (msg := .ref sa) rfl (g := F0 m (pc + 3 + 1 + 2) ls [.ref sa, .ref s.heap.size, .ref s.heap.size]) rfl (hsz.trans hml.symm) rfl rfl (rest := []) rfl (by rw [hb]; exact d6) (by rw [hb]; exact d9) (fun x hx => by rw [Array.isEmpty_iff.mp hnh] at hx; cases hx) (by show 2 + 3 < R.frames; omega) (by show 2 * 0 + 1 + (13 * (2 + 1) + 42) ≤ R.locals; omega) hlk
  have hk : ∀ q : Nat, q < s.heap.size → U.heap[q]? = s.heap[q]? := fun q hq => by
    obtain ⟨cl, hcl⟩ : ∃ cl, s.heap[q]? = some cl := ⟨_, Array.getElem?_eq_getElem hq⟩
    rw [hcl]; exact State.sameButNew.old_cell hsame hcl
  refine ⟨U, st, .threw s.heap.size, hrun, hend, ⟨⟨s.heap.size, ce, rfl, Nat.le_refl _, hce, by rw [hoc.vm]; rfl, by rw [hW.alike.findClass]; exact hoc.cls, va_P.keptAll hw.1 hk, va_K.moved hW.alike hw.2.2.2.1, hw.2.1⟩, hsame.2.1, fun q hq _ => hk q hq⟩, [], ⟨⟨_, rfl⟩, hW, hsame⟩, fun q hq => by cases hq⟩
end THROW
