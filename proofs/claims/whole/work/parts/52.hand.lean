/-! METHODS WITH HANDLERS: their start, and calls of them -/
def uwh (y : MethodName) (b : ByteArray) (n : Nat) (r : Option FieldType) (hs : List (Nat × Nat × Nat × Nat)) : List Cond := .codeWith y b n r hs :: ut
theorem uwh_of {y : MethodName} {b : ByteArray} {n : Nat} {r : Option FieldType} {hs : List (Nat × Nat × Nat × Nat)} : ∀ w ∈ ut, w ∈ uwh y b n r hs := fun _ h => List.mem_cons_of_mem _ h
abbrev tE (q : Nat × Nat × Nat × Nat) : ExceptionTableEntry := ⟨q.1, q.2.1, q.2.2.1, q.2.2.2⟩
theorem tE_eq : ∀ {l : List ExceptionTableEntry} {hs : List (Nat × Nat × Nat × Nat)}, l.map (fun h => (h.startPc, h.endPc, h.handlerPc, h.catchType)) = hs → l = hs.map tE
  | [], _, h => by subst h; rfl
  | x :: l, _, h => by
    subst h
    show x :: l = tE (x.startPc, x.endPc, x.handlerPc, x.catchType) :: (l.map (fun h => (h.startPc, h.endPc, h.handlerPc, h.catchType))).map tE
    rw [← tE_eq (l := l) rfl]
section HAND
variable {p : Program} {l : Launch} {e : Env} {R : Room} {s : State} {m : MethodId} {args : Array Value} {below : List Frame} {meth : Method} {c : Code} {H : Heap} {locs : List Loc} {cells slots : Nat} {Q : State → Prop}
variable {g : kG} {A : Nat → Prop} {ws wc wr w1 : va_W} {own : String} {cc : ByteArray} {nL : Nat} {ret : Option FieldType} {Ts : List Cond} {pc : Nat} {ls : Array Slot} {rest As st0 : List Value}
theorem b_startH {y : MethodName} {maxL mc ms sz : Nat} {hs : List (Nat × Nat × Nat × Nat)} {rm : Room} {av : List Value} {Qc : (Nat → Prop) → Array Value → State → Outcome → State → Prop} (hy : plainName y.cls = true) (hlen : (lg_sl av).length ≤ maxL)
    (body : ∀ (p : Program) (e : Env) (s : State) (m : MethodId) (below : List Frame) (meth : Method) (c : Code) (A : Nat → Prop), bM p s m av.toArray meth c y.cls cc maxL ret (uwh y cc maxL ret hs) → c.exceptionTable.toList = hs.map tE → bE A s s.heap → bW g A s s.heap [] ws → ∀ ls : Array Slot, lv_has ls maxL (lv_args 0 av) →
      W p l e rm s m av.toArray below meth c s.heap [] 0 0 (MQ below (Qc A) av.toArray s mc ms A) (F0 m 0 ls [])) :
    Met l y (uwh y cc maxL ret hs) rm (va_Pc av (bPE g ws sz)) (Qc (va_A ws sz)) mc ms (va_A ws sz) := by
  have key : ∀ (args : Array Value) (s : State) (m : MethodId), (headSpec (uwh y cc maxL ret hs) rm).pre.before args s = true → s.methodNamed? y = some m → ∃ meth c, s.vm.method? m = some meth ∧ meth.code = some c ∧ c.code = cc ∧ c.maxLocals = maxL ∧ meth.sig.returnType = ret ∧ meth.locks = false ∧ c.exceptionTable.toList = hs.map tE := by
    intro args s m h hn
    obtain ⟨m', meth, c, h0, h1, h2, h3, h4, h5, h6, h7, -⟩ := Cond.codeWith_spec (atoms_spec (ws := uwh y cc maxL ret hs) h _ List.mem_cons_self)
    cases hn.symm.trans h0
    exact ⟨meth, c, h1, h2, h3, h4, h6, h7, tE_eq h5⟩
  refine MetFree.of_bodyS (code := cc) (maxLocals := maxL) (ret := ret) hy (fun args s m h hn => by obtain ⟨meth, c, h1, h2, h3, h4, h5, h6, -⟩ := key args s m h hn; exact ⟨meth, c, h1, h2, h3, h4, h5, h6⟩) ?_
  intro p e s m args below meth c s₁ B hml hv _
  obtain ⟨rfl, ⟨hsz, hP, hK, hD0, hZ⟩, hE⟩ := hv
  subst hsz
  have X0 := Stand.of_body B
  obtain ⟨meth', c', q1, q2, -, -, -, -, htab⟩ := key _ s m B.pre B.named
  cases X0.method.symm.trans q1
  cases X0.code.symm.trans q2
  have hh0 : s₁.heap = s.heap := by rw [B.state]; rfl
  have hl := lv_entry av (n := maxL) hlen
  obtain ⟨t, a1, o, b1, b2, b3⟩ := body p e s m below meth c _ ⟨B.exec, B.bytes, B.returns, hml, findClass_of_methodNamed B.named, atoms_spec (ws := uwh y cc maxL ret hs) B.pre, B.notSynchronized⟩ htab hE
    ⟨hP, hD0.self, va_S.rf, hK, fun q h => Or.inr h, hZ⟩ _ hl s₁ hh0 X0
  refine ⟨t, o, ?_, b1, b2, ⟨b3.1, b3.2⟩⟩
  rw [lg_entry_eq]
  exact a1
theorem b_runSH {y : MethodName} {bytes : ByteArray} {maxL n index : Nat} {r : Option FieldType} {hs : List (Nat × Nat × Nat × Nat)} {rm : Room} {Qc : Array Value → State → Outcome → State → Prop} (hm : bM p s m args meth c own cc nL ret Ts) (hT : ∀ w ∈ ut, w ∈ Ts) (hE : bE A s s.heap) (hw : bW g A s H locs ws) (hM : Met l y (uwh y bytes maxL r hs) rm (va_Pc As (bPE g wc H.size)) Qc rm.cells rm.slots (va_A wc H.size))
    (hcw : Cond.codeWith y bytes maxL r hs ∈ ut) (hlk : Cond.methodLink own index y ∈ ut) (hstt : Cond.static y ∈ ut) (hini : Cond.initialized y.cls ∈ ut) (hd : y.cls ≠ "java/lang/invoke/MethodHandle" ∧ y.cls ≠ "java/lang/invoke/VarHandle" ∧ (parseMethodDescriptor y.desc).map (fun d => d.parameters.length) = some n) (hR : rm.frames + 1 ≤ R.frames ∧ 8 + (maxL + 11) + rm.locals ≤ R.locals)
    (isC : List Nat) (hnC : va_nd isC = true) (hC : isC.map (fun i => ws[i]?) = wc.map some) (hn : As.length = n) (hsz : ls.size = nL) (hst : st0 = As.reverse ++ rest) (hr8 : (rest.map fun v => v.category).sum ≤ 8) (hdg : decode cc pc = .ok (.invokestatic index, 3)) (hf : cells + rm.cells ≤ R.cells ∧ slots + rm.slots ≤ R.slots) :
    va_Run p l e R s m args below meth c H locs cells slots rm.cells rm.slots (F0 m pc ls st0) rest (Qc As.toArray) (va_A wc H.size) := by
  obtain ⟨hx, hb, -, hml, ho, hts, -⟩ := hm
  have hu : ∀ w ∈ ut, w.before args s = true := fun w h => hts w (hT w h)
  have hua : ∀ w ∈ ut, ∀ (a' : Array Value) (U : State), s.WarmedH U.vm → w.before a' U = true := fun w h a' U hW => word_at hW (good_of_word (List.mem_filter.mp h).2) (hu w h)
  have hws : ∀ w ∈ uwh y bytes maxL r hs, ∀ (a' : Array Value) (U : State), s.WarmedH U.vm → w.before a' U = true := fun w h => by
    rcases List.mem_cons.mp h with rfl | h
    · exact hua _ hcw
    · exact hua _ h
  have hK : Back l R p e below s args y 3 8 (PreOf R rm.cells rm.slots (va_Pc As (bPE g wc H.size))) (PostOf Qc rm.cells rm.slots (va_A wc H.size)) := by
    refine Back.of_freeWith (S := headSpec (uwh y bytes maxL r hs) rm) (P := va_Pc As (bPE g wc H.size)) (K := fun _ _ _ _ _ => True) (Q := fun a st o t => Qc a st o t ∧ ∃ L, FrameEnd st o t L rm.cells rm.slots ∧ ∀ q ∈ L, va_A wc H.size q.base) (bytes := bytes) (maxL := maxL) (ret := r) (handlers := hs)
      (E := fun a st o t L k n => k = rm.cells ∧ n = rm.slots ∧ ∀ q ∈ L, va_A wc H.size q.base) hM hR.1 hR.2 ?_ ?_ (fun _ _ _ _ _ _ _ _ _ => trivial) ?_ ?_
    · intro m meth c A a X hp
      exact ⟨atoms_intro fun w hw => hws w hw _ _ X.warmed, hws _ List.mem_cons_self _ _ X.warmed, hua _ hini _ _ X.warmed, hp.1, hp.2.1⟩
    · intro m meth c A a g mk X hp
      exact b_blindE _ _ _ _ hp.2.2
    · intro a st o t ⟨hq, L, hF, hL⟩
      exact ⟨L, rm.cells, rm.slots, hF, rfl, rfl, hL⟩
    · intro m meth c A a g mk v t L k n X hp hq hF ⟨e1, e2, hL⟩
      subst e1; subst e2
      exact ⟨g, mk, t, L, rfl, rfl, hq.1, rfl, hL, rfl, rfl⟩
  intro T hTh X
  obtain ⟨mk, methM, cM, hnamed, hmethM, -, -, -, -, -, -, hsigM⟩ := Cond.codeWith_spec (hu _ hcw)
  have hstatic : methM.isStatic = true := Cond.static_spec hnamed hmethM (hu _ hstt)
  obtain ⟨kP, hkP, -⟩ := className_of_methodNamed hnamed
  have hinitP : kP.init = .initialized := Cond.initialized_spec (findClass_of_methodNamed hnamed) hkP (hu _ hini)
  have hlen : As.length = methM.sig.parameters.length := by
    have h2 := hd.2.2
    rw [hsigM] at h2
    exact hn.trans (Option.some.inj h2).symm
  obtain ⟨vm₁, X₁, hstep₁⟩ := X.invokestatic hx ho (hu _ hlk) hnamed hmethM hstatic hkP hinitP ⟨hd.1, hd.2.1⟩ (g := F0 m pc ls st0) rfl (argsL := As) (rest := rest) hlen hst (by rw [hb]; exact hdg)
  obtain ⟨v, ⟨U', l2, c2, s2⟩, X', ⟨g', mk', t, L, e1, e2, hq, h1, hL, h2, h3⟩, hsteps⟩ := hK m meth c ⟨T.setVm vm₁, locs, cells, slots⟩ (F0 m pc ls rest) (.invokestatic index) mk As.toArray X₁ rfl (hsz.trans hml.symm) (by rw [hb]; exact hdg) (lv_room hr8) (X₁.named hnamed) ⟨hf.1, hf.2, b_preE hw hE isC hnC hC (T.setVm vm₁) hTh X₁.warmed⟩
  dsimp only [Pt.U, Pt.locs, Pt.cells, Pt.slots] at X' e1 e2 h1 h2 h3 hsteps
  subst h1; subst h2; subst h3
  exact ⟨v, (T.setVm vm₁).calling g' mk' As.toArray, t, U', L, hTh, X', hL, e1, e2, hq, fun target h => hstep₁ _ fun acts => by rw [doInvoke_state]; exact hsteps.trans h⟩
end HAND
