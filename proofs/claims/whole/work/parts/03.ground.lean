/-! THE GROUND: one list of words for every method, one picture of a world, a method's start, ends and calls in one row each. -/
/-- the good words of the tables: every method's list is its own code, then these -/
def ut : List Cond := lw_tbl.filter goodWord
def uw (y : MethodName) (b : ByteArray) (n : Nat) (r : Option FieldType) : List Cond := .code y b n r :: ut
theorem ut_of {w : Cond} (h : w ∈ lw_tbl) (g : goodWord w = true) : w ∈ ut := List.mem_filter.mpr ⟨h, g⟩
theorem ut_in {w : Cond} (h : w ∈ ut) : w ∈ lw_tbl := (List.mem_filter.mp h).1
theorem uw_of {y : MethodName} {b : ByteArray} {n : Nat} {r : Option FieldType} : ∀ w ∈ ut, w ∈ uw y b n r := fun _ h => List.mem_cons_of_mem _ h
theorem ut_good {Ts : List Cond} (hT : ∀ w ∈ ut, w ∈ Ts) : GoodIn Ts ut := fun w h => ⟨hT w h, good_of_word (List.mem_filter.mp h).2⟩
theorem uw_good {Ts : List Cond} (hT : ∀ w ∈ ut, w ∈ Ts) {y : MethodName} {b : ByteArray} {n : Nat} {r : Option FieldType} (h : Cond.code y b n r ∈ ut) : GoodIn Ts (uw y b n r) := by
  intro w hw
  rcases List.mem_cons.mp hw with rfl | hw
  · exact ut_good hT _ h
  · exact ut_good hT w hw
theorem gd_app {Ts l : List Cond} {ws : List Cond} (hT : ∀ w ∈ ut, w ∈ Ts) (hl : ∀ w ∈ l, w ∈ ut) (h : GoodIn Ts ws) : GoodIn Ts (l ++ ws) := by
  intro w hw
  rcases List.mem_append.mp hw with hw | hw
  · exact ut_good hT w (hl w hw)
  · exact h w hw
theorem gV {Ts : List Cond} (hT : ∀ w ∈ ut, w ∈ Ts) {y : MethodName} {b : ByteArray} {n i : Nat} {r : Option FieldType} {own C : String} (h : Cond.code y b n r ∈ ut) (h1 : Cond.methodLink own i y ∈ ut) (h2 : Cond.instanceMethod y ∈ ut) (h3 : Cond.selects C y y ∈ ut) (h4 : Cond.initialized C ∈ ut) : GoodIn Ts (wsV own i C y (uw y b n r)) :=
  gd_app hT (by intro w hw; simp only [List.mem_cons, List.not_mem_nil, or_false] at hw; rcases hw with rfl | rfl | rfl | rfl <;> assumption) (uw_good hT h)
theorem gS {Ts : List Cond} (hT : ∀ w ∈ ut, w ∈ Ts) {y : MethodName} {b : ByteArray} {n i : Nat} {r : Option FieldType} {own : String} (h : Cond.code y b n r ∈ ut) (h1 : Cond.methodLink own i y ∈ ut) (h2 : Cond.static y ∈ ut) (h3 : Cond.initialized own ∈ ut) : GoodIn Ts (wsS own i y (uw y b n r)) :=
  gd_app hT (by intro w hw; simp only [List.mem_cons, List.not_mem_nil, or_false] at hw; rcases hw with rfl | rfl | rfl <;> assumption) (uw_good hT h)
theorem mu {w : Cond} (i : Nat) (h : tables_1[i]? = some w) (g : goodWord w = true) : w ∈ ut := ut_of (List.mem_append_right _ (List.mem_of_getElem? h)) g
theorem mp {w : Cond} (i : Nat) (h : (k2_sels lw_privs)[i]? = some w) (g : goodWord w = true) : w ∈ ut := ut_of (List.mem_append_left _ (List.mem_of_getElem? h)) g
theorem u_sub {C : String} {T : u_T} {N : Nat} (h : (u_ws C T N).all (fun w => goodWord w && decide (w ∈ tables_1)) = true) : ∀ w ∈ u_ws C T N, w ∈ ut := by
  intro w hw
  have h1 := List.all_eq_true.mp h w hw
  simp only [Bool.and_eq_true, decide_eq_true_eq] at h1
  exact ut_of (List.mem_append_right _ h1.2) h1.1
/-- links between nest mates: no good words, but they stay under warmer tables -/
def isN : Cond → Bool
  | .fieldLinkNest .. => true
  | .methodLinkNest .. => true
  | _ => false
def un : List Cond := tables_1.filter isN
def bN (U : State) : Prop := ∀ w ∈ un, va_Nw w U
theorem bN.warm {s U : State} (hW : s.WarmedH U.vm) (h : bN s) : bN U := by
  intro w hw
  have hi := (List.mem_filter.mp hw).2
  cases w <;> first | exact va_Nw.warmF hW (h _ hw) | exact va_Nw.warmM hW (h _ hw) | (exact absurd hi (by simp [isN]))
theorem mn {w : Cond} (i : Nat) (h : tables_1[i]? = some w) (g : isN w = true) : w ∈ un := List.mem_filter.mpr ⟨List.mem_of_getElem? h, g⟩
/-- what the start gives beside the words: nest mates' links, arrays of references, tables that nobody writes -/
def lfT : Nat → Value := fun j => match j with
  | 0 => .int (-5000)
  | _ => .int 0
def mfT : Nat → Value := fun j => match j with
  | 0 => .int 5000
  | 1 => .int 1000
  | _ => .int 100000
def bT (n : String) (f : Nat → Value) (A : Nat → Prop) (U : State) (H : Heap) : Prop := ∃ t : Nat, va_Z "HeatMachines" n "[I" (.ref t) A U H ∧ va_T .int t 3 f A U H
def bZ (A : Nat → Prop) (U : State) (H : Heap) : Prop := bN U ∧ va_AO "HeatMachines$Machine" U ∧ bT "LEAST_FACT" lfT A U H ∧ bT "MOST_FACT" mfT A U H
theorem bT.kept {n : String} {f : Nat → Value} {A : Nat → Prop} {U : State} {H H1 : Heap} (h : bT n f A U H) (hq : ∀ a : Nat, a < H.size → ¬ A a → H1[a]? = H[a]?) : bT n f A U H1 := by
  obtain ⟨t, a, b⟩ := h
  exact ⟨t, a.kept hq, b.kept hq⟩
theorem bT.narrow {n : String} {f : Nat → Value} {A B : Nat → Prop} {U : State} {H : Heap} (h : bT n f A U H) (hAB : ∀ q, B q → A q) : bT n f B U H := by
  obtain ⟨t, a, b⟩ := h
  exact ⟨t, a.narrow hAB, b.narrow hAB⟩
theorem bT.moved {n : String} {f : Nat → Value} {A : Nat → Prop} {u U : State} {H : Heap} (hvm : u.vm.Alike U.vm) (h : bT n f A u H) : bT n f A U H := by
  obtain ⟨t, a, b⟩ := h
  exact ⟨t, va_Z.moved hvm a, va_T.moved hvm b⟩
theorem bZ.kept {A : Nat → Prop} {U : State} {H H1 : Heap} (h : bZ A U H) (hq : ∀ a : Nat, a < H.size → ¬ A a → H1[a]? = H[a]?) : bZ A U H1 := ⟨h.1, h.2.1, h.2.2.1.kept hq, h.2.2.2.kept hq⟩
theorem bZ.narrow {A B : Nat → Prop} {U : State} {H : Heap} (h : bZ A U H) (hAB : ∀ q, B q → A q) : bZ B U H := ⟨h.1, h.2.1, h.2.2.1.narrow hAB, h.2.2.2.narrow hAB⟩
theorem bZ.warm {A : Nat → Prop} {s U : State} {H : Heap} (hW : s.WarmedH U.vm) (h : bZ A s H) : bZ A U H := ⟨h.1.warm hW, h.2.1.moved hW.alike, h.2.2.1.moved hW.alike, h.2.2.2.moved hW.alike⟩
theorem bZ.same {A : Nat → Prop} {s U : State} {H : Heap} (hv : s.vm = U.vm) (h : bZ A s H) : bZ A U H := h.warm (by rw [← hv]; exact State.WarmedH.refl s)
/-- the classes' numbers, the arrays' classes -/
abbrev kG : Type := va_G × List (ClassId × FieldType)
def bP (g : kG) (ws : va_W) (sz : Nat) (U : State) : Prop := U.heap.size = sz ∧ va_P g.1 classes ws U.heap ∧ va_K g.1 classes g.2 U ∧ va_D (fun _ => True) ws ∧ bZ (va_A ws sz) U U.heap
def bQ (g : kG) (A : Nat → Prop) (ws : va_W) (t : State) : Prop := va_P g.1 classes ws t.heap ∧ va_K g.1 classes g.2 t ∧ va_D A ws
/-- what a walk has of its method -/
def bM (p : Program) (s : State) (m : MethodId) (args : Array Value) (meth : Method) (c : Code) (own : String) (cc : ByteArray) (nL : Nat) (ret : Option FieldType) (Ts : List Cond) : Prop :=
  p.tables.exec = Jvm.exec ∧ c.code = cc ∧ meth.sig.returnType = ret ∧ c.maxLocals = nL ∧ s.vm.findClass own = some m.cls ∧ (∀ w ∈ Ts, w.before args s = true) ∧ meth.locks = false
/-- where a walk stands: the world, what may have changed -/
def bW (g : kG) (A : Nat → Prop) (s : State) (H : Heap) (locs : List Loc) (ws : va_W) : Prop :=
  va_P g.1 classes ws H ∧ va_D A ws ∧ va_S A s.heap H locs ∧ va_K g.1 classes g.2 s ∧ (∀ q, s.heap.size ≤ q → A q) ∧ bZ A s s.heap
theorem bW.sub {g : kG} {A : Nat → Prop} {s : State} {H : Heap} {locs : List Loc} {ws ws' : va_W} (h : bW g A s H locs ws) (is : List Nat) (hn : va_nd is = true) (hs : is.map (fun i => ws[i]?) = ws'.map some) : bW g A s H locs ws' := by
  refine ⟨h.1.sub is ?_, h.2.1.sub is hn hs, h.2.2⟩
  have : ∀ (is : List Nat) (ws' : va_W), is.map (fun i => ws[i]?) = ws'.map some → is.filterMap (fun i => ws[i]?) = ws' := by
    intro is
    induction is with
    | nil => intro ws' h; cases ws' with
      | nil => rfl
      | cons a l => cases h
    | cons i is ih => intro ws' h; cases ws' with
      | nil => cases h
      | cons a l =>
        simp only [List.map_cons, List.cons.injEq] at h
        rw [List.filterMap_cons, h.1, ih l h.2]
  exact this is ws' hs
section BASE
variable {p : Program} {l : Launch} {e : Env} {R : Room} {s : State} {m : MethodId} {args : Array Value} {below : List Frame} {meth : Method} {c : Code} {H : Heap} {locs : List Loc} {cells slots : Nat} {Q : State → Prop}
variable {g : kG} {A : Nat → Prop} {ws wc wr w1 : va_W} {own : String} {cc : ByteArray} {nL : Nat} {ret : Option FieldType} {Ts : List Cond} {pc : Nat} {ls : Array Slot} {rest : List Value}
/-- a method's start -/
theorem b_start {y : MethodName} {maxL mc ms sz : Nat} {ws' : List Cond} {rm : Room} {av : List Value} {Qc : (Nat → Prop) → Array Value → State → Outcome → State → Prop} (hy : plainName y.cls = true) (hlen : (lg_sl av).length ≤ maxL)
    (body : ∀ (p : Program) (e : Env) (s : State) (m : MethodId) (below : List Frame) (meth : Method) (c : Code) (A : Nat → Prop), bM p s m av.toArray meth c y.cls cc maxL ret (.code y cc maxL ret :: ws') → (meth.name = y.name) → bW g A s s.heap [] ws → ∀ ls : Array Slot, lv_has ls maxL (lv_args 0 av) →
      W p l e rm s m av.toArray below meth c s.heap [] 0 0 (MQ below (Qc A) av.toArray s mc ms A) (F0 m 0 ls [])) :
    Met l y (.code y cc maxL ret :: ws') rm (va_Pc av (bP g ws sz)) (Qc (va_A ws sz)) mc ms (va_A ws sz) := by
  refine Met.ofW (cc := cc) (maxL := maxL) (ret := ret) hy rfl ?_
  intro p e s m args below meth c s₁ B hml hv
  obtain ⟨rfl, hsz, hP, hK, hD0, hZ⟩ := hv
  subst hsz
  have hl := lv_entry av (n := maxL) hlen
  rw [lg_entry_eq]
  exact body p e s m below meth c _ ⟨B.exec, B.bytes, B.returns, hml, findClass_of_methodNamed B.named, atoms_spec (ws := .code y cc maxL ret :: ws') B.pre, B.notSynchronized⟩ (name_of_methodNamed B.named B.method).1
    ⟨hP, hD0.self, va_S.rf, hK, fun q h => Or.inr h, hZ⟩ _ hl
/-- the ends -/
theorem b_iret {S : Type} {post : Int32 → S → Prop} {w' : S → va_W} {v : Int32} (u : S) (hm : bM p s m args meth c own cc nL (some .int) Ts) (hw : bW g A s H locs (w' u)) (hp : post v u) (hdg : decode cc pc = .ok (.ireturn, 1)) :
    W p l e R s m args below meth c H locs cells slots (MQ below (va_Qi post (fun u => bQ g A (w' u)) A) args s cells slots A) (F0 m pc ls [.int v]) :=
  W.iret hm.1 hm.2.1 hm.2.2.1 (fun t ht hW => ⟨⟨v, u, rfl, hp, by rw [ht]; exact hw.1, va_K.moved hW.alike hw.2.2.2.1, hw.2.1⟩, hw.2.2.1.F ht⟩) hw.2.2.1.2.2 hdg hm.2.2.2.2.2.2
theorem b_zret {S : Type} {post : Int32 → S → Prop} {w' : S → va_W} {v : Int32} (u : S) (hm : bM p s m args meth c own cc nL (some .boolean) Ts) (hw : bW g A s H locs (w' u)) (hn : v = 0 ∨ v = 1) (hp : post v u) (hdg : decode cc pc = .ok (.ireturn, 1)) :
    W p l e R s m args below meth c H locs cells slots (MQ below (va_Qi post (fun u => bQ g A (w' u)) A) args s cells slots A) (F0 m pc ls [.int v]) :=
  W.zret hm.1 hm.2.1 hm.2.2.1 (by rcases hn with rfl | rfl <;> decide) (fun t ht hW => ⟨⟨v, u, rfl, hp, by rw [ht]; exact hw.1, va_K.moved hW.alike hw.2.2.2.1, hw.2.1⟩, hw.2.2.1.F ht⟩) hw.2.2.1.2.2 hdg hm.2.2.2.2.2.2
theorem b_lret {S : Type} {post : Int64 → S → Prop} {w' : S → va_W} {v : Int64} (u : S) (hm : bM p s m args meth c own cc nL (some .long) Ts) (hw : bW g A s H locs (w' u)) (hp : post v u) (hdg : decode cc pc = .ok (.lreturn, 1)) :
    W p l e R s m args below meth c H locs cells slots (MQ below (va_Ql post (fun u => bQ g A (w' u)) A) args s cells slots A) (F0 m pc ls [.long v]) :=
  W.lret hm.1 hm.2.1 hm.2.2.1 (fun t ht hW => ⟨⟨v, u, rfl, hp, by rw [ht]; exact hw.1, va_K.moved hW.alike hw.2.2.2.1, hw.2.1⟩, hw.2.2.1.F ht⟩) hw.2.2.1.2.2 hdg hm.2.2.2.2.2.2
theorem b_vret {S : Type} {post : S → Prop} {w' : S → va_W} (u : S) (hm : bM p s m args meth c own cc nL none Ts) (hw : bW g A s H locs (w' u)) (hp : post u) (hdg : decode cc pc = .ok (.return_, 1)) :
    W p l e R s m args below meth c H locs cells slots (MQ below (va_Qv post (fun u => bQ g A (w' u)) A) args s cells slots A) (F0 m pc ls []) :=
  W.vret hm.1 hm.2.1 hm.2.2.1 (fun t ht hW => ⟨⟨u, rfl, hp, by rw [ht]; exact hw.1, va_K.moved hW.alike hw.2.2.2.1, hw.2.1⟩, hw.2.2.1.F ht⟩) hw.2.2.1.2.2 hdg hm.2.2.2.2.2.2
/-- behind a call -/
theorem b_back {t : State} {H1 : Heap} {locs1 : List Loc} (hw : bW g A s H locs ws) (isC isR : List Nat) (hC : isC.map (fun i => ws[i]?) = wc.map some) (hR : isR.map (fun i => ws[i]?) = wr.map some) (hn : va_nd isR = true) (hdis : ∀ i ∈ isR, i ∉ isC)
    (ht : t.heap = H1) (hB : bQ g (va_A wc H.size) w1 t) (hk : ∀ q : Nat, q < H.size → ¬ va_A wc H.size q → H1[q]? = H[q]?) (hS : va_S A s.heap H1 locs1) : bW g A s H1 locs1 (wr ++ w1) := by
  obtain ⟨hP, hD, hS0, hK, hA, hZ⟩ := hw
  obtain ⟨hP1, hK1, hD1⟩ := hB
  rw [ht] at hP1
  obtain ⟨a, b⟩ := va_join hP hD isC isR hC hR hn hdis hk (va_free hD hS0 hA isC hC) hP1 hD1
  exact ⟨a, b, hS, hK, hA, hZ⟩
theorem b_blind {av : List Value} {sz : Nat} : FrameBlind (va_Pc av (bP g wc sz)) := fun a U g' mk q => by
  obtain ⟨q0, q1, qP, qK, qD, qZ⟩ := q
  exact ⟨q0, q1, qP, va_K.moved (u := U) (U := U.calling g' mk a) (Vm.Alike.refl U.vm) qK, qD, bZ.same (s := U) (U := U.calling g' mk a) rfl qZ⟩
theorem b_pre {av : List Value} (hw : bW g A s H locs ws) (isC : List Nat) (hnC : va_nd isC = true) (hC : isC.map (fun i => ws[i]?) = wc.map some) : ∀ U : State, U.heap = H → s.WarmedH U.vm → va_Pc av (bP g wc H.size) av.toArray U := by
  intro U hU hW
  have hF := va_free hw.2.1 hw.2.2.1 hw.2.2.2.2.1 isC hC
  have hS := hw.2.2.1
  have hZ := hw.2.2.2.2.2
  obtain ⟨hP, hD, -, hK, -⟩ := hw.sub isC hnC hC
  exact ⟨rfl, by rw [hU], by rw [hU]; exact hP, va_K.moved hW.alike hK, hD.weaken (fun _ _ _ _ => trivial), by rw [hU]; exact ((hZ.kept hS.2.1).narrow hF).warm hW⟩
/-- what a call of an instance's method asks: words and room -/
abbrev bCV (R : Room) (s : State) (args : Array Value) (own C : String) (index : Nat) (y : MethodName) (bytes : ByteArray) (maxL : Nat) (r : Option FieldType) (rm : Room) (n : Nat) : Prop := CallW R s args own C index y bytes maxL r (uw y bytes maxL r) rm rm.cells rm.slots n
abbrev bCS (R : Room) (s : State) (args : Array Value) (own : String) (index : Nat) (y : MethodName) (bytes : ByteArray) (maxL : Nat) (r : Option FieldType) (rm : Room) (n : Nat) : Prop := CallB R s args own index y bytes maxL r (uw y bytes maxL r) rm rm.cells rm.slots n ∧ (Cond.static y).before args s = true
section CALLS
variable {y : MethodName} {bytes : ByteArray} {maxL n index : Nat} {r : Option FieldType} {rm : Room} {C : String} {b ci q0 : Nat} {T : u_T} {N : Nat} {fs : List Value} {As st0 : List Value} {Qc : Array Value → State → Outcome → State → Prop}
theorem b_runV (hm : bM p s m args meth c own cc nL ret Ts) (hw : bW g A s H locs ws) (cw : bCV R s args own C index y bytes maxL r rm n) (hM : Met l y (uw y bytes maxL r) rm (va_Pc (.ref b :: As) (bP g wc H.size)) Qc rm.cells rm.slots (va_A wc H.size))
    (isC : List Nat) (hnC : va_nd isC = true) (hC : isC.map (fun i => ws[i]?) = wc.map some) (he : ws[q0]? = some (b, .inr (ci, fs))) (hc : classes[ci]? = some (C, T, N))
    (hn : As.length = n) (hsz : ls.size = nL) (hst : st0 = As.reverse ++ .ref b :: rest) (hr8 : (rest.map fun v => v.category).sum ≤ 8) (hdg : decode cc pc = .ok (.invokevirtual index, 3)) (hf : cells + rm.cells ≤ R.cells ∧ slots + rm.slots ≤ R.slots) :
    va_Run p l e R s m args below meth c H locs cells slots rm.cells rm.slots (F0 m pc ls st0) rest (Qc (Value.ref b :: As).toArray) (va_A wc H.size) :=
  va_runV (Ts := Ts) ⟨hm.1, hm.2.1, hm.2.2.2.1, hm.2.2.2.2.1, hm.2.2.2.2.2.1⟩ hM cw ⟨b_blind, va_recv hw.2.2.2.1 hw.1 hc he, b_pre hw isC hnC hC⟩ rfl hn hsz hst (lv_room hr8) hdg hf
theorem b_runS (hm : bM p s m args meth c own cc nL ret Ts) (hw : bW g A s H locs ws) (cw : bCS R s args own index y bytes maxL r rm n) (hM : Met l y (uw y bytes maxL r) rm (va_Pc As (bP g wc H.size)) Qc rm.cells rm.slots (va_A wc H.size))
    (isC : List Nat) (hnC : va_nd isC = true) (hC : isC.map (fun i => ws[i]?) = wc.map some)
    (hn : As.length = n) (hsz : ls.size = nL) (hst : st0 = As.reverse ++ rest) (hr8 : (rest.map fun v => v.category).sum ≤ 8) (hdg : decode cc pc = .ok (.invokestatic index, 3)) (hf : cells + rm.cells ≤ R.cells ∧ slots + rm.slots ≤ R.slots) :
    va_Run p l e R s m args below meth c H locs cells slots rm.cells rm.slots (F0 m pc ls st0) rest (Qc As.toArray) (va_A wc H.size) :=
  va_runS (Ts := Ts) ⟨hm.1, hm.2.1, hm.2.2.2.1, hm.2.2.2.2.1, hm.2.2.2.2.2.1⟩ hM cw ⟨b_blind, b_pre hw isC hnC hC⟩ rfl hn hsz hst (lv_room hr8) hdg hf
end CALLS
section GO
variable {mc ms : Nat} {a : Array Value} {st0 : List Value} {S : Type} {w' : S → va_W}
theorem b_goi {post : Int32 → S → Prop} (hr : va_Run p l e R s m args below meth c H locs cells slots mc ms (F0 m pc ls st0) rest (va_Qi post (fun u => bQ g (va_A wc H.size) (w' u)) (va_A wc H.size) a) (va_A wc H.size)) (hw : bW g A s H locs ws)
    (isC isR : List Nat) (hC : isC.map (fun i => ws[i]?) = wc.map some) (hR : isR.map (fun i => ws[i]?) = wr.map some) (hn : va_nd isR = true) (hdis : ∀ i ∈ isR, i ∉ isC)
    (kk : ∀ (r : Int32) (u : S) (H1 : Heap) (locs1 : List Loc), post r u → bW g A s H1 locs1 (wr ++ w' u) → W p l e R s m args below meth c H1 locs1 (cells + mc) (slots + ms) Q (F0 m (pc + 3) ls (.int r :: rest))) : W p l e R s m args below meth c H locs cells slots Q (F0 m pc ls st0) := by
  have hF := va_free hw.2.1 hw.2.2.1 hw.2.2.2.2.1 isC hC
  exact va_calli hr hw.2.2.1 (fun q _ h => hF q h) hF (fun r u t H1 locs1 ht _ hp hB _ hk hS => kk r u H1 locs1 hp (b_back hw isC isR hC hR hn hdis ht hB hk hS))
theorem b_gol {post : Int64 → S → Prop} (hr : va_Run p l e R s m args below meth c H locs cells slots mc ms (F0 m pc ls st0) rest (va_Ql post (fun u => bQ g (va_A wc H.size) (w' u)) (va_A wc H.size) a) (va_A wc H.size)) (hw : bW g A s H locs ws)
    (isC isR : List Nat) (hC : isC.map (fun i => ws[i]?) = wc.map some) (hR : isR.map (fun i => ws[i]?) = wr.map some) (hn : va_nd isR = true) (hdis : ∀ i ∈ isR, i ∉ isC)
    (kk : ∀ (r : Int64) (u : S) (H1 : Heap) (locs1 : List Loc), post r u → bW g A s H1 locs1 (wr ++ w' u) → W p l e R s m args below meth c H1 locs1 (cells + mc) (slots + ms) Q (F0 m (pc + 3) ls (.long r :: rest))) : W p l e R s m args below meth c H locs cells slots Q (F0 m pc ls st0) := by
  have hF := va_free hw.2.1 hw.2.2.1 hw.2.2.2.2.1 isC hC
  exact va_calll hr hw.2.2.1 (fun q _ h => hF q h) hF (fun r u t H1 locs1 ht _ hp hB _ hk hS => kk r u H1 locs1 hp (b_back hw isC isR hC hR hn hdis ht hB hk hS))
theorem b_gov {post : S → Prop} (hr : va_Run p l e R s m args below meth c H locs cells slots mc ms (F0 m pc ls st0) rest (va_Qv post (fun u => bQ g (va_A wc H.size) (w' u)) (va_A wc H.size) a) (va_A wc H.size)) (hw : bW g A s H locs ws)
    (isC isR : List Nat) (hC : isC.map (fun i => ws[i]?) = wc.map some) (hR : isR.map (fun i => ws[i]?) = wr.map some) (hn : va_nd isR = true) (hdis : ∀ i ∈ isR, i ∉ isC)
    (kk : ∀ (u : S) (H1 : Heap) (locs1 : List Loc), post u → bW g A s H1 locs1 (wr ++ w' u) → W p l e R s m args below meth c H1 locs1 (cells + mc) (slots + ms) Q (F0 m (pc + 3) ls rest)) : W p l e R s m args below meth c H locs cells slots Q (F0 m pc ls st0) := by
  have hF := va_free hw.2.1 hw.2.2.1 hw.2.2.2.2.1 isC hC
  exact va_callv hr hw.2.2.1 (fun q _ h => hF q h) hF (fun u t H1 locs1 ht _ hp hB _ hk hS => kk u H1 locs1 hp (b_back hw isC isR hC hR hn hdis ht hB hk hS))
end GO
/-- the value on top, written otherwise -/
theorem b_ti {x y : Int32} (h : x = y) (k : W p l e R s m args below meth c H locs cells slots Q (F0 m pc ls (.int y :: rest))) : W p l e R s m args below meth c H locs cells slots Q (F0 m pc ls (.int x :: rest)) := h ▸ k
theorem b_tl {x y : Int64} (h : x = y) (k : W p l e R s m args below meth c H locs cells slots Q (F0 m pc ls (.long y :: rest))) : W p l e R s m args below meth c H locs cells slots Q (F0 m pc ls (.long x :: rest)) := h ▸ k
theorem b_tr {x : Value} {y : Nat} (h : x = .ref y) (k : W p l e R s m args below meth c H locs cells slots Q (F0 m pc ls (.ref y :: rest))) : W p l e R s m args below meth c H locs cells slots Q (F0 m pc ls (x :: rest)) := h ▸ k
/-- cells -/
theorem b_get {T : u_T} {C : String} {a N ci index : Nat} (hm : bM p s m args meth c own cc nL ret Ts) (hw : bW g A s H locs ws) (q0 : Nat) {fs : List Value} (he : ws[q0]? = some (a, .inr (ci, fs))) (hc : classes[ci]? = some (C, T, N)) (hin : ∀ w ∈ u_ws C T N, w ∈ Ts) (k : Nat) (hk : k < N) (hlink : Cond.fieldLink own index (T k).1 (T k).2.1 (T k).2.2.1 ∈ Ts) {v : Value} (hv : fs[k]? = some v) (hdg : decode cc pc = .ok (.getfield index, 3))
    (kk : W p l e R s m args below meth c H locs cells slots Q (F0 m (pc + 3) ls (v :: rest))) : W p l e R s m args below meth c H locs cells slots Q (F0 m pc ls (.ref a :: rest)) :=
  va_get hm.1 hm.2.1 hm.2.2.2.2.2.1 hin hm.2.2.2.2.1 hw.2.2.2.1 hw.1 q0 he hc k hk (hm.2.2.2.2.2.1 _ hlink) (fun _ h => h) hv hdg kk
theorem b_put {T : u_T} {C : String} {a N ci index : Nat} (hm : bM p s m args meth c own cc nL ret Ts) (hw : bW g A s H locs ws) (q0 : Nat) {fs : List Value} (he : ws[q0]? = some (a, .inr (ci, fs))) (hc : classes[ci]? = some (C, T, N)) (hin : ∀ w ∈ u_ws C T N, w ∈ Ts) (ty0 : Nat → FieldType) (hty : ∀ k, k < N → parseFieldDescriptor (T k).2.2.1 = some (ty0 k)) (hnm : ∀ a, a < N → ∀ b, b < N → a ≠ b → (T a).2.1 ≠ (T b).2.1) (k : Nat) (hk : k < N) (hlink : Cond.fieldLink own index (T k).1 (T k).2.1 (T k).2.2.1 ∈ Ts) (hfin : (T k).2.2.2 = false) {v : Value} (hn : narrow (ty0 k) v = v) (hfit : fits (ty0 k) v = true) (hl : k < fs.length) (hdg : decode cc pc = .ok (.putfield index, 3))
    {w1 : va_W} (hw1 : ws.set q0 (a, .inr (ci, fs.set k v)) = w1) (kk : ∀ (H1 : Heap) (locs1 : List Loc), bW g A s H1 locs1 w1 → W p l e R s m args below meth c H1 locs1 cells slots Q (F0 m (pc + 3) ls rest)) : W p l e R s m args below meth c H locs cells slots Q (F0 m pc ls (v :: .ref a :: rest)) :=
  va_put hm.1 hm.2.1 hm.2.2.2.2.2.1 hin ty0 hty hnm hm.2.2.2.2.1 hw.2.2.2.1 hw.1 hw.2.1 hw.2.2.1 q0 he hc k hk (hm.2.2.2.2.2.1 _ hlink) (fun _ h => h) hfin (hty k hk) hn hfit hl hdg (fun H1 locs1 a b c => kk H1 locs1 (by subst hw1; exact ⟨a, b, c, hw.2.2.2⟩))
theorem b_putF {T : u_T} {C : String} {a N ci index : Nat} (hm : bM p s m args meth c own cc nL ret Ts) (hnm0 : meth.name = "<init>") (hw : bW g A s H locs ws) (q0 : Nat) {fs : List Value} (he : ws[q0]? = some (a, .inr (ci, fs))) (hc : classes[ci]? = some (C, T, N)) (hin : ∀ w ∈ u_ws C T N, w ∈ Ts) (ty0 : Nat → FieldType) (hty : ∀ k, k < N → parseFieldDescriptor (T k).2.2.1 = some (ty0 k)) (hnm : ∀ a, a < N → ∀ b, b < N → a ≠ b → (T a).2.1 ≠ (T b).2.1) (k : Nat) (hk : k < N) (hlink : Cond.fieldLink own index (T k).1 (T k).2.1 (T k).2.2.1 ∈ Ts) (hfin : (T k).2.2.2 = true) (hdecl : (T k).1 = own) {v : Value} (hn : narrow (ty0 k) v = v) (hfit : fits (ty0 k) v = true) (hl : k < fs.length) (hdg : decode cc pc = .ok (.putfield index, 3))
    {w1 : va_W} (hw1 : ws.set q0 (a, .inr (ci, fs.set k v)) = w1) (kk : ∀ (H1 : Heap) (locs1 : List Loc), bW g A s H1 locs1 w1 → W p l e R s m args below meth c H1 locs1 cells slots Q (F0 m (pc + 3) ls rest)) : W p l e R s m args below meth c H locs cells slots Q (F0 m pc ls (v :: .ref a :: rest)) :=
  va_putF hm.1 hm.2.1 hm.2.2.2.2.2.1 hin ty0 hty hnm hm.2.2.2.2.1 hw.2.2.2.1 hw.1 hw.2.1 hw.2.2.1 q0 he hc k hk (hm.2.2.2.2.2.1 _ hlink) (fun _ h => h) hfin hnm0 hdecl (hty k hk) hn hfit hl hdg (fun H1 locs1 a b c => kk H1 locs1 (by subst hw1; exact ⟨a, b, c, hw.2.2.2⟩))
theorem b_getN {T : u_T} {C host : String} {a N ci index : Nat} (hm : bM p s m args meth c own cc nL ret Ts) (hw : bW g A s H locs ws) (q0 : Nat) {fs : List Value} (he : ws[q0]? = some (a, .inr (ci, fs))) (hc : classes[ci]? = some (C, T, N)) (hin : ∀ w ∈ u_ws C T N, w ∈ Ts) (k : Nat) (hk : k < N) (hlink : Cond.fieldLinkNest own index (T k).1 (T k).2.1 (T k).2.2.1 host ∈ un) {v : Value} (hv : fs[k]? = some v) (hdg : decode cc pc = .ok (.getfield index, 3))
    (kk : W p l e R s m args below meth c H locs cells slots Q (F0 m (pc + 3) ls (v :: rest))) : W p l e R s m args below meth c H locs cells slots Q (F0 m pc ls (.ref a :: rest)) :=
  va_getN hm.1 hm.2.1 hm.2.2.2.2.2.1 hin hm.2.2.2.2.1 hw.2.2.2.1 hw.1 q0 he hc k hk (va_Nw.use rfl (hw.2.2.2.2.2.1 _ hlink)) (fun _ h => h) hv hdg kk
theorem b_putN {T : u_T} {C host : String} {a N ci index : Nat} (hm : bM p s m args meth c own cc nL ret Ts) (hw : bW g A s H locs ws) (q0 : Nat) {fs : List Value} (he : ws[q0]? = some (a, .inr (ci, fs))) (hc : classes[ci]? = some (C, T, N)) (hin : ∀ w ∈ u_ws C T N, w ∈ Ts) (ty0 : Nat → FieldType) (hty : ∀ k, k < N → parseFieldDescriptor (T k).2.2.1 = some (ty0 k)) (hnm : ∀ a, a < N → ∀ b, b < N → a ≠ b → (T a).2.1 ≠ (T b).2.1) (k : Nat) (hk : k < N) (hlink : Cond.fieldLinkNest own index (T k).1 (T k).2.1 (T k).2.2.1 host ∈ un) (hfin : (T k).2.2.2 = false) {v : Value} (hn : narrow (ty0 k) v = v) (hfit : fits (ty0 k) v = true) (hl : k < fs.length) (hdg : decode cc pc = .ok (.putfield index, 3))
    {w1 : va_W} (hw1 : ws.set q0 (a, .inr (ci, fs.set k v)) = w1) (kk : ∀ (H1 : Heap) (locs1 : List Loc), bW g A s H1 locs1 w1 → W p l e R s m args below meth c H1 locs1 cells slots Q (F0 m (pc + 3) ls rest)) : W p l e R s m args below meth c H locs cells slots Q (F0 m pc ls (v :: .ref a :: rest)) :=
  va_putN hm.1 hm.2.1 hm.2.2.2.2.2.1 hin ty0 hty hnm hm.2.2.2.2.1 hw.2.2.2.1 hw.1 hw.2.1 hw.2.2.1 q0 he hc k hk (va_Nw.use rfl (hw.2.2.2.2.2.1 _ hlink)) (fun _ h => h) hfin (hty k hk) hn hfit hl hdg (fun H1 locs1 a b c => kk H1 locs1 (by subst hw1; exact ⟨a, b, c, hw.2.2.2⟩))
theorem b_iald {a : Nat} (hm : bM p s m args meth c own cc nL ret Ts) (hw : bW g A s H locs ws) (q0 t0 : Nat) {cA : ClassId} {n : Nat} {f : Nat → Int32} (ha : ws[q0]? = some (a, .inl (cA, n, .inl f))) (ht : g.2[t0]? = some (cA, .int)) {i : Nat} (hi : i < n) (hn : n < 2147483648) (hdg : decode cc pc = .ok (.iaload, 1))
    (kk : W p l e R s m args below meth c H locs cells slots Q (F0 m (pc + 1) ls (.int (f i) :: rest))) : W p l e R s m args below meth c H locs cells slots Q (F0 m pc ls (.int (nI i) :: .ref a :: rest)) := by
  refine va_iald hm.1 hm.2.1 hw.2.2.2.1 hw.1 q0 t0 ha ht (vp_in_nI hi hn) hdg ?_
  rw [nI_clamp (by omega)]; exact kk
theorem b_zald {a : Nat} (hm : bM p s m args meth c own cc nL ret Ts) (hw : bW g A s H locs ws) (q0 t0 : Nat) {cA : ClassId} {n : Nat} {f : Nat → Int32} (ha : ws[q0]? = some (a, .inl (cA, n, .inl f))) (ht : g.2[t0]? = some (cA, .boolean)) {i : Nat} (hi : i < n) (hn : n < 2147483648) (hdg : decode cc pc = .ok (.baload, 1))
    (kk : W p l e R s m args below meth c H locs cells slots Q (F0 m (pc + 1) ls (.int (f i) :: rest))) : W p l e R s m args below meth c H locs cells slots Q (F0 m pc ls (.int (nI i) :: .ref a :: rest)) := by
  refine va_zald hm.1 hm.2.1 hw.2.2.2.1 hw.1 q0 t0 ha ht (vp_in_nI hi hn) hdg ?_
  rw [nI_clamp (by omega)]; exact kk
theorem b_lald {a : Nat} (hm : bM p s m args meth c own cc nL ret Ts) (hw : bW g A s H locs ws) (q0 t0 : Nat) {cA : ClassId} {n : Nat} {f : Nat → Int64} (ha : ws[q0]? = some (a, .inl (cA, n, .inr (.inl f)))) (ht : g.2[t0]? = some (cA, .long)) {i : Nat} (hi : i < n) (hn : n < 2147483648) (hdg : decode cc pc = .ok (.laload, 1))
    (kk : W p l e R s m args below meth c H locs cells slots Q (F0 m (pc + 1) ls (.long (f i) :: rest))) : W p l e R s m args below meth c H locs cells slots Q (F0 m pc ls (.int (nI i) :: .ref a :: rest)) := by
  refine va_lald hm.1 hm.2.1 hw.2.2.2.1 hw.1 q0 t0 ha ht (vp_in_nI hi hn) hdg ?_
  rw [nI_clamp (by omega)]; exact kk
theorem b_iast {a : Nat} (hm : bM p s m args meth c own cc nL ret Ts) (hw : bW g A s H locs ws) (q0 t0 : Nat) {cA : ClassId} {n : Nat} {f : Nat → Int32} (ha : ws[q0]? = some (a, .inl (cA, n, .inl f))) (ht : g.2[t0]? = some (cA, .int)) {i : Nat} {x : Int32} (hi : i < n) (hn : n < 2147483648) (hdg : decode cc pc = .ok (.iastore, 1))
    {w1 : va_W} (hw1 : ws.set q0 (a, .inl (cA, n, .inl (upd f i x))) = w1) (kk : ∀ (H1 : Heap) (locs1 : List Loc), bW g A s H1 locs1 w1 → W p l e R s m args below meth c H1 locs1 cells slots Q (F0 m (pc + 1) ls rest)) : W p l e R s m args below meth c H locs cells slots Q (F0 m pc ls (.int x :: .int (nI i) :: .ref a :: rest)) := by
  refine va_iast hm.1 hm.2.1 hw.2.2.2.1 hw.1 hw.2.1 hw.2.2.1 q0 t0 ha ht (vp_in_nI hi hn) hdg (fun H1 locs1 a b c => ?_)
  rw [nI_clamp (by omega)] at a b
  subst hw1
  exact kk H1 locs1 ⟨a, b, c, hw.2.2.2⟩
theorem b_last {a : Nat} (hm : bM p s m args meth c own cc nL ret Ts) (hw : bW g A s H locs ws) (q0 t0 : Nat) {cA : ClassId} {n : Nat} {f : Nat → Int64} (ha : ws[q0]? = some (a, .inl (cA, n, .inr (.inl f)))) (ht : g.2[t0]? = some (cA, .long)) {i : Nat} {x : Int64} (hi : i < n) (hn : n < 2147483648) (hdg : decode cc pc = .ok (.lastore, 1))
    {w1 : va_W} (hw1 : ws.set q0 (a, .inl (cA, n, .inr (.inl (vp_updL f i x)))) = w1) (kk : ∀ (H1 : Heap) (locs1 : List Loc), bW g A s H1 locs1 w1 → W p l e R s m args below meth c H1 locs1 cells slots Q (F0 m (pc + 1) ls rest)) : W p l e R s m args below meth c H locs cells slots Q (F0 m pc ls (.long x :: .int (nI i) :: .ref a :: rest)) := by
  refine va_last hm.1 hm.2.1 hw.2.2.2.1 hw.1 hw.2.1 hw.2.2.1 q0 t0 ha ht (vp_in_nI hi hn) hdg (fun H1 locs1 a b c => ?_)
  rw [nI_clamp (by omega)] at a b
  subst hw1
  exact kk H1 locs1 ⟨a, b, c, hw.2.2.2⟩
theorem b_zast {a : Nat} (hm : bM p s m args meth c own cc nL ret Ts) (hw : bW g A s H locs ws) (q0 t0 : Nat) {cA : ClassId} {n : Nat} {f : Nat → Int32} (ha : ws[q0]? = some (a, .inl (cA, n, .inl f))) (ht : g.2[t0]? = some (cA, .boolean)) {i : Nat} {x : Int32} (hx : vp_nar .boolean x = x) (hi : i < n) (hn : n < 2147483648) (hdg : decode cc pc = .ok (.bastore, 1))
    {w1 : va_W} (hw1 : ws.set q0 (a, .inl (cA, n, .inl (upd f i x))) = w1) (kk : ∀ (H1 : Heap) (locs1 : List Loc), bW g A s H1 locs1 w1 → W p l e R s m args below meth c H1 locs1 cells slots Q (F0 m (pc + 1) ls rest)) : W p l e R s m args below meth c H locs cells slots Q (F0 m pc ls (.int x :: .int (nI i) :: .ref a :: rest)) := by
  refine va_zast hm.1 hm.2.1 hw.2.2.2.1 hw.1 hw.2.1 hw.2.2.1 q0 t0 ha ht (vp_in_nI hi hn) hdg (fun H1 locs1 a b c => ?_)
  rw [nI_clamp (by omega), hx] at a b
  subst hw1
  exact kk H1 locs1 ⟨a, b, c, hw.2.2.2⟩
theorem b_alen {a : Nat} (hm : bM p s m args meth c own cc nL ret Ts) (hw : bW g A s H locs ws) (q0 t0 : Nat) {cA : ClassId} {x : vp_A} (ha : ws[q0]? = some (a, .inl (cA, x))) {ty : FieldType} (ht : g.2[t0]? = some (cA, ty)) (hdg : decode cc pc = .ok (.arraylength, 1))
    (kk : W p l e R s m args below meth c H locs cells slots Q (F0 m (pc + 1) ls (.int (nI x.1) :: rest))) : W p l e R s m args below meth c H locs cells slots Q (F0 m pc ls (.ref a :: rest)) :=
  va_alen hm.1 hm.2.1 hw.2.2.2.1 hw.1 q0 t0 ha ht rfl hdg kk
end BASE
