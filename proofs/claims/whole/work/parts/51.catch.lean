/-! THROWS: caught by a row of the caller's own table, whose class may not have been resolved yet; methods with such tables. -/
/-- the search finds a handler, and leaves these tables -/
def tFin (e : Env) (s : State) (f : JFrame) (a : Addr) (h : Handler) (vm' : Vm) : Prop := ∀ (Q : Handler → Bool → List Action → State → Prop) (E : Control → List Action → State → Prop) (d : Bool) (acts : List Action), Sem.wp (findHandler f a) Q E e d acts s ↔ Q h d acts (s.setVm vm')
section CATCH
variable {e : Env} {s : State} {f : JFrame} {a : Addr}
theorem t_row {Q : Handler → Bool → List Action → State → Prop} {E : Control → List Action → State → Prop} {d : Bool} {acts : List Action} {x : ExceptionTableEntry} {t : List ExceptionTableEntry} {c : ClassId} {cell : Cell} (hx : covers x f.pc = true) (h0 : x.catchType ≠ 0) (hl : s.vm.ClassLinks e.platform f.method.cls x.catchType c) (hcell : s.heap[a]? = some cell) (hobj : cell.vm.isStatics = false)
    (hk : ∃ k, s.vm.classes[cell.cls]? = some k) (hc : ∃ k, s.vm.classes[c]? = some k) :
    Sem.wp (findHandler.go f a (x :: t)) Q E e d acts s ↔ if s.vm.assignable cell.cls c = true then Q (.found x.handlerPc) d acts (s.setVm (s.vm.noted f.method.cls x.catchType (.cls c))) else Sem.wp (findHandler.go f a t) Q E e d acts (s.setVm (s.vm.noted f.method.cls x.catchType (.cls c))) := by
  simp only [covers] at hx
  obtain ⟨ha, ht⟩ := (resolveClass_links e.toSetting hl).op (op := VmOp.resolveClass f.method.cls x.catchType) rfl
  have hal : s.vm.Alike (s.vm.noted f.method.cls x.catchType (.cls c)) := (Vm.Alike.refl s.vm).noted _ _ _
  obtain ⟨k1, hk1⟩ := hk
  obtain ⟨k2, hk2⟩ := hc
  obtain ⟨k3, hk3, -⟩ := hal.2.2 _ _ hk1
  obtain ⟨k4, hk4, -⟩ := hal.2.2 _ _ hk2
  have hob : ∀ k, cell.vm ≠ .statics k := VmData.ne_statics_of hobj
  cases hfit : s.vm.assignable cell.cls c with
  | true =>
    have hf' : (s.vm.noted f.method.cls x.catchType (.cls c)).assignable cell.cls c = true := by rw [hal.assignable]; exact hfit
    simp [findHandler.go, hx, h0, ha, ht, hcell, hob, hk3, hk4, hf', VmOp.dirties, VmOp.acts]
  | false =>
    have hf' : (s.vm.noted f.method.cls x.catchType (.cls c)).assignable cell.cls c = false := by rw [hal.assignable]; exact hfit
    simp [findHandler.go, hx, h0, ha, ht, hcell, hob, hk3, hk4, hf', VmOp.dirties, VmOp.acts]
theorem t_stepC {r : List Frame} {pc : Nat} {vm' : Vm} (hf : tFin e s f a (.found pc) vm') : (stepThrowing e s a (.java f :: r)).Is ((s.setVm vm').setFrames (.java { f with pc := pc, stack := [.ref a] } :: r)) [] := by
  simp only [stepThrowing, searchFrame, vmDo]
  generalize hr : Sem.go _ e false [] s = res
  obtain ⟨as, rfl, ha⟩ := Sem.eq_ok_of hr (a := Handler.found pc) (s' := s.setVm vm') (acts' := []) (by simp [hf _ _ _ _])
  exact ⟨rfl, ha⟩
theorem t_caught {tb : Tables} {g : JFrame} {c : Code} {below : List Frame} {target : State} (h : At s g.method c below) {pc : Nat} {vm' : Vm} (hf : tFin e ((s.setTop g).pushFrame (.throwing a)) g a (.found pc) vm') (hrest : Steps tb e below ((s.setVm vm').setTop { g with pc := pc, stack := [.ref a] }) target) : Steps tb e below ((s.setTop g).pushFrame (.throwing a)) target := by
  obtain ⟨hgo, hw⟩ := h.throwing a
  refine Steps.head hgo hw ?_
  rw [stepThread_throwing (frames_entered h.top _), (t_stepC (s := (s.setTop g).pushFrame (.throwing a)) hf).1]
  obtain ⟨g₀, hg⟩ := Option.isSome_iff_exists.mp h.top
  obtain ⟨r, hr⟩ := State.topJava?_eq_some.mp hg
  have hr' : (s.setVm vm').frames = .java g₀ :: r := hr
  have hh : ∀ (u : State) (F G : List Frame), ((u.setFrames F).setVm vm').setFrames G = (u.setVm vm').setFrames G := fun u F G => by
    have h1 : (u.setFrames F).setVm vm' = (u.setVm vm').setFrames F := rfl
    rw [h1, State.setFrames_setFrames]
  rw [State.setTop_of_frames _ hr'] at hrest
  rw [hr, List.tail_cons, State.pushFrame, hh, State.setTop_of_frames _ hr, hh]
  exact hrest
end CATCH
section CAT
variable {p : Program} {l : Launch} {e : Env} {R : Room} {s : State} {m : MethodId} {args : Array Value} {below : List Frame} {meth : Method} {c : Code} {H : Heap} {locs : List Loc} {cells slots : Nat} {Q : State → Prop}
variable {g : kG} {A : Nat → Prop} {ws wc wr w1 : va_W} {own : String} {cc : ByteArray} {nL : Nat} {ret : Option FieldType} {Ts : List Cond} {pc : Nat} {ls : Array Slot} {rest As st0 : List Value}
/-- a row that the walk's own words link: what it leaves -/
theorem t_lnk9 {T : State} {x : ExceptionTableEntry} {name : String} {vm0 : Vm} (X : Stand p l e R s m args below meth c T locs cells slots) (hown : s.vm.findClass own = some m.cls) (hlink : (Cond.classLink own x.catchType name).before args s = true) (hW : s.WarmedH vm0) :
    ∃ cT, s.vm.findClass name = some cT ∧ vm0.ClassLinks e.platform m.cls x.catchType cT ∧ s.WarmedH (vm0.noted m.cls x.catchType (.cls cT)) ∧ ∃ k, vm0.classes[cT]? = some k := by
  have hpl : e.platform.magicAccessors = ({} : Platform).magicAccessors := by rw [X.admits.platform]
  obtain ⟨cT, hcT, hcl⟩ := Cond.classLink_spec hown hlink e.platform hpl
  obtain ⟨dk, _, _, kt, hd, _, _, _, _, hkt, _, hopen⟩ := hcl.here
  obtain ⟨kt', hkt', -⟩ := hW.alike.2.2 _ _ hkt
  exact ⟨cT, hcT, hW.classLinks hcl, hW.noted hd hopen (State.rightAt_cls hcl), kt', hkt'⟩
/-- the throw of a callee, the world behind it -/
theorem t_come {E : String} {mc ms : Nat} {Qa : State → Outcome → State → Prop} (hw : bW g A s H locs ws) (isC isR : List Nat) (hC : isC.map (fun i => ws[i]?) = wc.map some) (hR : isR.map (fun i => ws[i]?) = wr.map some) (hn : va_nd isR = true) (hdis : ∀ i ∈ isR, i ∉ isC)
    (hr : tRun p l e R s m args below meth c H locs cells slots mc ms (F0 m pc ls st0) rest Qa (va_A wc H.size)) (hQ : ∀ st oc t, Qa st oc t → bQt E (bQ g (va_A wc H.size) w1) (va_A wc H.size) #[] st oc t) {T : State} (hT : T.heap = H) (X : Stand p l e R s m args below meth c T locs cells slots) :
    ∃ (x : Nat) (T' : State) (locs1 : List Loc) (ce : Cell), Stand p l e R s m args below meth c T' locs1 (cells + mc) (slots + ms) ∧ bW g A s T'.heap locs1 (wr ++ w1) ∧ T'.heap[x]? = some ce ∧ ce.vm.isStatics = false ∧ s.vm.findClass E = some ce.cls ∧ Steps p.tables e below (T.setTop (F0 m pc ls st0)) ((T'.setTop (F0 m pc ls rest)).pushFrame (.throwing x)) := by
  obtain ⟨x, st₀, t, T', L, h0, X', hL, e1, e2, hq, st⟩ := hr T hT X
  obtain ⟨⟨x', ce, hx', hxs, hce, hcv, hcc, hB⟩, hz, hk⟩ := hQ _ _ _ hq
  cases hx'
  rw [h0] at hxs hz hk
  have hF := va_free hw.2.1 hw.2.2.1 hw.2.2.2.2.1 isC hC
  have hS := hw.2.2.1
  have hS' : va_S A s.heap T'.heap (locs ++ L) := ⟨Nat.le_trans hS.1 (by rw [e1]; exact hz), fun q h1 h2 => by rw [e1, hk q (Nat.lt_of_lt_of_le h1 hS.1) (fun z => h2 (hF q z))]; exact hS.2.1 q h1 h2, fun q hq => by
      rcases List.mem_append.mp hq with h | h
      · exact hS.2.2 q h
      · exact hF _ (hL q h)⟩
  refine ⟨x, T', locs ++ L, ce, X', b_back hw isC isR hC hR hn hdis e1.symm hB (fun q h1 h2 => by rw [e1]; exact hk q h1 h2) hS', by rw [e1]; exact hce, hcv, ?_, st⟩
  rw [← X'.warmed.alike.findClass, e2]; exact hcc
/-- caught by the first row -/
theorem b_cat1 {E : String} {mc ms : Nat} {Qa : State → Outcome → State → Prop} {x1 : ExceptionTableEntry} {rs : List ExceptionTableEntry} (hm : bM p s m args meth c own cc nL ret Ts) (hw : bW g A s H locs ws) (isC isR : List Nat) (hC : isC.map (fun i => ws[i]?) = wc.map some) (hR : isR.map (fun i => ws[i]?) = wr.map some) (hn : va_nd isR = true) (hdis : ∀ i ∈ isR, i ∉ isC)
    (hr : tRun p l e R s m args below meth c H locs cells slots mc ms (F0 m pc ls st0) rest Qa (va_A wc H.size)) (hQ : ∀ st oc t, Qa st oc t → bQt E (bQ g (va_A wc H.size) w1) (va_A wc H.size) #[] st oc t)
    (htab : c.exceptionTable.toList = x1 :: rs) (hx : covers x1 pc = true) (h0 : x1.catchType ≠ 0) (hlink : Cond.classLink own x1.catchType E ∈ Ts) (hcast : va_Nw (.castable E E) s)
    (kk : ∀ (x : Nat) (H1 : Heap) (locs1 : List Loc), bW g A s H1 locs1 (wr ++ w1) → W p l e R s m args below meth c H1 locs1 (cells + mc) (slots + ms) Q (F0 m x1.handlerPc ls [.ref x])) : W p l e R s m args below meth c H locs cells slots Q (F0 m pc ls st0) := by
  intro T hT X
  obtain ⟨x, T', locs1, ce, X', hb, hce, hcv, hcc, st⟩ := t_come hw isC isR hC hR hn hdis hr hQ hT X
  obtain ⟨cT, hcT, hcl, hW1, hk1⟩ := t_lnk9 X' hm.2.2.2.2.1 (hm.2.2.2.2.2.1 _ hlink) X'.warmed
  obtain ⟨c3, c4, hc3, hc4, hasg⟩ := Cond.castable_spec (args := #[]) (first := s) (o := none) (s := s) (idx := []) hcast
  cases hcc.symm.trans hcT
  cases hcc.symm.trans hc3
  cases hcc.symm.trans hc4
  have hfit : T'.vm.assignable ce.cls ce.cls = true := by rw [X'.warmed.alike.assignable]; exact hasg
  have hfin : tFin e ((T'.setTop (F0 m pc ls rest)).pushFrame (.throwing x)) (F0 m pc ls rest) x (.found x1.handlerPc) (T'.vm.noted m.cls x1.catchType (.cls ce.cls)) := by
    intro Q' E' d acts
    rw [W.findHandler_eq (s := (T'.setTop (F0 m pc ls rest)).pushFrame (.throwing x)) (f := F0 m pc ls rest) X'.method' X'.code, htab, t_row (e := e) (f := F0 m pc ls rest) (s := (T'.setTop (F0 m pc ls rest)).pushFrame (.throwing x)) hx h0 hcl hce hcv hk1 hk1]
    exact iff_of_eq (if_pos (show ((T'.setTop (F0 m pc ls rest)).pushFrame (.throwing x)).vm.assignable ce.cls ce.cls = true from hfit))
  obtain ⟨t, a1, b1⟩ := kk x T'.heap locs1 hb (T'.setVm (T'.vm.noted m.cls x1.catchType (.cls ce.cls))) rfl (X'.noted hW1)
  exact ⟨t, st.trans (t_caught X'.here hfin a1), b1⟩
/-- passed by the first row, caught by the second -/
theorem b_cat2 {E E1 : String} {mc ms : Nat} {Qa : State → Outcome → State → Prop} {x1 x2 : ExceptionTableEntry} {rs : List ExceptionTableEntry} (hm : bM p s m args meth c own cc nL ret Ts) (hw : bW g A s H locs ws) (isC isR : List Nat) (hC : isC.map (fun i => ws[i]?) = wc.map some) (hR : isR.map (fun i => ws[i]?) = wr.map some) (hn : va_nd isR = true) (hdis : ∀ i ∈ isR, i ∉ isC)
    (hr : tRun p l e R s m args below meth c H locs cells slots mc ms (F0 m pc ls st0) rest Qa (va_A wc H.size)) (hQ : ∀ st oc t, Qa st oc t → bQt E (bQ g (va_A wc H.size) w1) (va_A wc H.size) #[] st oc t)
    (htab : c.exceptionTable.toList = x1 :: x2 :: rs) (hx : covers x1 pc = true) (h0 : x1.catchType ≠ 0) (hlink : Cond.classLink own x1.catchType E1 ∈ Ts) (hnot : ¬ va_Nw (.castable E E1) s) (hx2 : covers x2 pc = true) (h02 : x2.catchType ≠ 0) (hlink2 : Cond.classLink own x2.catchType E ∈ Ts) (hcast : va_Nw (.castable E E) s)
    (kk : ∀ (x : Nat) (H1 : Heap) (locs1 : List Loc), bW g A s H1 locs1 (wr ++ w1) → W p l e R s m args below meth c H1 locs1 (cells + mc) (slots + ms) Q (F0 m x2.handlerPc ls [.ref x])) : W p l e R s m args below meth c H locs cells slots Q (F0 m pc ls st0) := by
  intro T hT X
  obtain ⟨x, T', locs1, ce, X', hb, hce, hcv, hcc, st⟩ := t_come hw isC isR hC hR hn hdis hr hQ hT X
  obtain ⟨c1, hc1, hcl1, hW1, hk1⟩ := t_lnk9 X' hm.2.2.2.2.1 (hm.2.2.2.2.2.1 _ hlink) X'.warmed
  obtain ⟨cT, hcT, hcl, hW2, hk2⟩ := t_lnk9 X' hm.2.2.2.2.1 (hm.2.2.2.2.2.1 _ hlink2) hW1
  obtain ⟨c3, c4, hc3, hc4, hasg⟩ := Cond.castable_spec (args := #[]) (first := s) (o := none) (s := s) (idx := []) hcast
  cases hcc.symm.trans hcT
  cases hcc.symm.trans hc3
  cases hcc.symm.trans hc4
  have hfit : (T'.vm.noted m.cls x1.catchType (.cls c1)).assignable ce.cls ce.cls = true := by rw [hW1.alike.assignable]; exact hasg
  have hno : ¬ T'.vm.assignable ce.cls c1 = true := by
    rw [X'.warmed.alike.assignable]
    intro q
    apply hnot
    show (Cond.castable E E1).before #[] s = true
    simp [Cond.before, Cond.holds, Cond.value, hcc, hc1, q]
  obtain ⟨ke, hke⟩ : ∃ k, T'.vm.classes[ce.cls]? = some k := by
    obtain ⟨k0, hk0⟩ := Vm.classAt_of_findClass hcc
    obtain ⟨k', hk', -⟩ := X'.warmed.alike.2.2 _ _ hk0
    exact ⟨k', hk'⟩
  have hfin : tFin e ((T'.setTop (F0 m pc ls rest)).pushFrame (.throwing x)) (F0 m pc ls rest) x (.found x2.handlerPc) ((T'.vm.noted m.cls x1.catchType (.cls c1)).noted m.cls x2.catchType (.cls ce.cls)) := by
    intro Q' E' d acts
    rw [W.findHandler_eq (s := (T'.setTop (F0 m pc ls rest)).pushFrame (.throwing x)) (f := F0 m pc ls rest) X'.method' X'.code, htab, t_row (e := e) (f := F0 m pc ls rest) (s := (T'.setTop (F0 m pc ls rest)).pushFrame (.throwing x)) hx h0 hcl1 hce hcv ⟨ke, hke⟩ hk1, if_neg (show ¬ ((T'.setTop (F0 m pc ls rest)).pushFrame (.throwing x)).vm.assignable ce.cls c1 = true from hno)]
    rw [show ((T'.setTop (F0 m pc ls rest)).pushFrame (.throwing x)).setVm (((T'.setTop (F0 m pc ls rest)).pushFrame (.throwing x)).vm.noted (F0 m pc ls rest).method.cls x1.catchType (.cls c1)) = ((T'.setTop (F0 m pc ls rest)).pushFrame (.throwing x)).setVm (T'.vm.noted m.cls x1.catchType (.cls c1)) from rfl,
      t_row (e := e) (f := F0 m pc ls rest) (s := ((T'.setTop (F0 m pc ls rest)).pushFrame (.throwing x)).setVm (T'.vm.noted m.cls x1.catchType (.cls c1))) hx2 h02 hcl hce hcv hk2 hk2]
    exact iff_of_eq (if_pos (show (((T'.setTop (F0 m pc ls rest)).pushFrame (.throwing x)).setVm (T'.vm.noted m.cls x1.catchType (.cls c1))).vm.assignable ce.cls ce.cls = true from hfit))
  obtain ⟨t, a1, b1⟩ := kk x T'.heap locs1 hb (T'.setVm ((T'.vm.noted m.cls x1.catchType (.cls c1)).noted m.cls x2.catchType (.cls ce.cls))) rfl (X'.noted hW2)
  exact ⟨t, st.trans (t_caught X'.here hfin a1), b1⟩
end CAT
