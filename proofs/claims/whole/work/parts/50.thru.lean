/-! THROWS: a call whose callee throws -/
section THRU
variable {p : Program} {l : Launch} {e : Env} {R : Room} {s : State} {m : MethodId} {args : Array Value} {below : List Frame} {meth : Method} {c : Code} {H : Heap} {locs : List Loc} {cells slots : Nat} {Q : State → Prop}
variable {y : MethodName} {bytes : ByteArray} {maxL n index : Nat} {r : Option FieldType} {rm : Room} {ys : List Cond} {Pc : Array Value → State → Prop} {Qc : Array Value → State → Outcome → State → Prop} {free : Addr → Prop}
/-- the callee is invoked, and throws: the note over the caller's frame -/
theorem t_inv {T : State} {mk : MethodId} {a : Array Value} {g : JFrame} {ig : Instr} {len : Nat} (X : Stand p l e R s m args below meth c T locs cells slots) (hM : MetT l y ys rm Pc Qc rm.cells rm.slots free) (hg : g.method = m) (hsize : g.locals.size = c.maxLocals) (hdg : decode c.code g.pc = .ok (ig, len))
    (hW : 2 * g.monitorRoom + (g.stack.map fun v => v.category).sum ≤ 8) (hn : T.methodNamed? y = some mk) (hframes : rm.frames + 1 ≤ R.frames) (hlocals : 8 + (maxL + 11) + rm.locals ≤ R.locals)
    (h1 : (headSpec ys rm).pre.before a T = true) (h2 : (Cond.code y bytes maxL r).before a T = true) (h3 : (Cond.initialized y.cls).before a T = true) (h4 : cells + rm.cells ≤ R.cells) (h5 : slots + rm.slots ≤ R.slots) (hP : Pc a (T.calling g mk a)) :
    ∃ (x : Nat) (t T' : State) (L : List Loc), Qc a (T.calling g mk a) (.threw x) t ∧ (∀ q ∈ L, free q.base) ∧ T'.heap = t.heap ∧ T'.vm = t.vm ∧ Stand p l e R s m args below meth c T' (locs ++ L) (cells + rm.cells) (slots + rm.slots) ∧
      Steps p.tables e below (doInvoke e (T.setTop g) [] mk a).1 ((T'.setTop g).pushFrame (.throwing x)) := by
  obtain ⟨methY, cY, hmY, hcY, -, hlY, -, -, -, -⟩ := Cond.code_spec hn h2
  obtain ⟨kY, hkY, -⟩ := className_of_methodNamed hn
  have hinitY : kY.init = .initialized := Cond.initialized_spec (findClass_of_methodNamed hn) hkY h3
  have h : At T g.method c below := by rw [hg]; exact X.here
  have happ : (headSpec ys rm).appliesLoose y e.platform (T.calling g mk a) = true :=
    Spec.appliesLoose_calling (g := g) h hdg hn hkY hinitY (X.room_calling (g := g) (R' := rm) hsize hmY hcY hframes (by rw [hlY]; omega) h4 h5) h1
  obtain ⟨mid, hmid⟩ := h.above
  have hfr : (T.setTop g).frames = (.java g :: mid) ++ below := by rw [State.frames_setTop' g h.top, hmid]; rfl
  obtain ⟨o, s₂, hsteps, -, hend, hq⟩ := Steps.callFree hM p X.admits X.cas X.clock (acts := []) hfr happ hP trivial
  obtain ⟨hq1, L, ⟨⟨x, rfl⟩, hW₂, e2, q2, q3, q4, q5, q6⟩, hL⟩ := hq
  have hend : s₂.frames = .throwing x :: (T.setTop g).frames := hend
  rw [State.frames_setTop' g h.top] at hend
  have e3 : s₂ = ({ (T.calling g mk a).setFrames s₂.frames with heap := s₂.heap, slotsUsed := s₂.slotsUsed } : State).setVm s₂.vm := by
    have : s₂ = ({ s₂ with vm := (T.calling g mk a).vm } : State).setVm s₂.vm := rfl
    rw [show ({ s₂ with vm := (T.calling g mk a).vm } : State) = _ from e2] at this
    exact this
  have hW' : T.WarmedH s₂.vm := hW₂
  obtain ⟨g₀, hg0⟩ := Option.isSome_iff_exists.mp h.top
  obtain ⟨r0, hr⟩ := State.topJava?_eq_some.mp hg0
  have hr' : (({ T with heap := s₂.heap, slotsUsed := s₂.slotsUsed } : State).setVm s₂.vm).frames = .java g₀ :: r0 := hr
  have hs₂ : s₂ = ((({ T with heap := s₂.heap, slotsUsed := s₂.slotsUsed } : State).setVm s₂.vm).setTop g).pushFrame (.throwing x) := by
    refine e3.trans ?_
    rw [hend, State.calling_eq h.top, State.setFrames_setFrames, State.pushFrame, State.frames_setTop _ hr', State.setTop_of_frames _ hr', State.setFrames_setFrames, hr]
    rfl
  have hsame : T.sameButNew ({ T with heap := s₂.heap, slotsUsed := s₂.slotsUsed } : State) L rm.cells rm.slots := by
    refine ⟨?_, q2, q3, q4, q5, q6⟩
    obtain ⟨t, ht, -⟩ := State.frames_cons hr
    show ({ T with heap := s₂.heap, slotsUsed := s₂.slotsUsed } : State) = { T.setFrames T.frames with heap := s₂.heap, slotsUsed := s₂.slotsUsed }
    rw [State.setFrames_self ht]
  subst hg
  refine ⟨x, s₂, (({ T with heap := s₂.heap, slotsUsed := s₂.slotsUsed } : State).setVm s₂.vm), L, hq1, hL, rfl, rfl,
    ⟨X.admits, X.cas, X.clock, X.frames, X.room, X.hears, X.method, X.code, (X.here.setHeapUsed s₂.heap s₂.slotsUsed).setVm hW'.alike, X.tail, State.WarmedH.trans X.warmed hW', X.limits, X.bytes, X.same.trans (hsame.setVm s.vm)⟩, ?_⟩
  rw [← hs₂]
  exact hsteps
/-- a call, in a walk: the callee throws -/
def tRun (p : Program) (l : Launch) (e : Env) (R : Room) (s : State) (m : MethodId) (args : Array Value) (below : List Frame) (meth : Method) (c : Code) (H : Heap) (locs : List Loc) (cells slots mc ms : Nat) (g : JFrame) (rest : List Value) (Qa : State → Outcome → State → Prop) (free : Addr → Prop) : Prop :=
  ∀ T : State, T.heap = H → Stand p l e R s m args below meth c T locs cells slots → ∃ (x : Nat) (st₀ t T' : State) (L : List Loc), st₀.heap = H ∧ Stand p l e R s m args below meth c T' (locs ++ L) (cells + mc) (slots + ms) ∧ (∀ q ∈ L, free q.base) ∧ T'.heap = t.heap ∧ T'.vm = t.vm ∧ Qa st₀ (.threw x) t ∧
    Steps p.tables e below (T.setTop g) ((T'.setTop { g with stack := rest }).pushFrame (.throwing x))
variable {g : kG} {A : Nat → Prop} {ws wc wr w1 : va_W} {own : String} {cc : ByteArray} {nL : Nat} {ret : Option FieldType} {Ts : List Cond} {pc : Nat} {ls : Array Slot} {rest As st0 : List Value}
theorem t_runS (hm : bM p s m args meth c own cc nL ret Ts) (hM : MetT l y (uw y bytes maxL r) rm Pc Qc rm.cells rm.slots free) (cw : bCS R s args own index y bytes maxL r rm n) (hp : PreS s H Pc As)
    (hn : As.length = n) (hsz : ls.size = nL) (hst : st0 = As.reverse ++ rest) (hr8 : (rest.map fun v => v.category).sum ≤ 8) (hdg : decode cc pc = .ok (.invokestatic index, 3)) (hf : cells + rm.cells ≤ R.cells ∧ slots + rm.slots ≤ R.slots) :
    tRun p l e R s m args below meth c H locs cells slots rm.cells rm.slots (F0 m pc ls st0) rest (Qc As.toArray) free := by
  obtain ⟨⟨-, -, hfr, hlo, hws, hcw, hcode, hini, hy, hlen, hl⟩, hstt⟩ := cw
  obtain ⟨hx, hb, -, hml, ho, -, -⟩ := hm
  intro T hT X
  obtain ⟨mk, hnamed⟩ := Cond.code_named hcode
  obtain ⟨methM, cM, hmethM, -, -, -, -, -, -, hsigM⟩ := Cond.code_spec hnamed hcode
  have hstatic : methM.isStatic = true := Cond.static_spec hnamed hmethM hstt
  obtain ⟨kP, hkP, -⟩ := className_of_methodNamed hnamed
  have hinitP : kP.init = .initialized := Cond.initialized_spec (findClass_of_methodNamed hnamed) hkP hini
  obtain ⟨vm₁, X₁, hstep₁⟩ := X.invokestatic hx ho hl hnamed hmethM hstatic hkP hinitP hy (g := F0 m pc ls st0) rfl (argsL := As) (rest := rest) (hn.trans (hlen _ hsigM)) hst (by rw [hb]; exact hdg)
  have hwa : ∀ w ∈ uw y bytes maxL r, w.before As.toArray (T.setVm vm₁) = true := fun w hw => hws w hw _ _ X₁.warmed
  obtain ⟨x, t, T', L, hq, hL, e1, e2, X', st⟩ := t_inv X₁ hM (g := F0 m pc ls rest) rfl (hsz.trans hml.symm) (ig := .invokestatic index) (len := 3) (by rw [hb]; exact hdg) (lv_room hr8) (X₁.named hnamed) hfr hlo (atoms_intro hwa) (hwa _ hcw)
    (word_at X₁.warmed (Or.inl (by first | rfl | simp [Cond.onTables, Cond.keeps, Cond.steady])) hini) hf.1 hf.2 (hp.1 _ _ _ _ (hp.2 (T.setVm vm₁) hT X₁.warmed))
  exact ⟨x, (T.setVm vm₁).calling (F0 m pc ls rest) mk As.toArray, t, T', L, hT, X', hL, e1, e2, hq, hstep₁ _ fun acts => by rw [doInvoke_state]; exact st⟩
theorem t_runV {C : String} {b ci q0 N : Nat} {T : u_T} {fs : List Value} (hm : bM p s m args meth c own cc nL ret Ts) (hw : bW g A s H locs ws) (hM : MetT l y (uw y bytes maxL r) rm Pc Qc rm.cells rm.slots free) (cw : bCV R s args own C index y bytes maxL r rm n) (hp : PreS s H Pc (.ref b :: As)) (he : ws[q0]? = some (b, .inr (ci, fs))) (hc : classes[ci]? = some (C, T, N))
    (hn : As.length = n) (hsz : ls.size = nL) (hst : st0 = As.reverse ++ .ref b :: rest) (hr8 : (rest.map fun v => v.category).sum ≤ 8) (hdg : decode cc pc = .ok (.invokevirtual index, 3)) (hf : cells + rm.cells ≤ R.cells ∧ slots + rm.slots ≤ R.slots) :
    tRun p l e R s m args below meth c H locs cells slots rm.cells rm.slots (F0 m pc ls st0) rest (Qc (Value.ref b :: As).toArray) free := by
  obtain ⟨⟨-, -, hfr, hlo, hws, hcw, hcode, hini, hy, hlen, hl⟩, hinst, hsel⟩ := cw
  obtain ⟨cellB, hcB, hoB, hclB⟩ := va_recv hw.2.2.2.1 hw.1 hc he
  obtain ⟨hx, hb, -, hml, ho, -, -⟩ := hm
  intro T hT X
  obtain ⟨mk, methM, hnamed, hmethM, hstM, habM⟩ := Cond.instanceMethod_spec hinst
  obtain ⟨methM', cM, hmethM', -, -, -, -, -, -, hsigM⟩ := Cond.code_spec hnamed hcode
  cases hmethM.symm.trans hmethM'
  obtain ⟨c2, r2, m2, q1, q2, q3, q4, kP, hkP, hkPi⟩ := Cond.selects_spec hsel
  cases hclB.symm.trans q1
  cases (State.methodFound?_of_named hnamed hy).symm.trans q2
  cases hnamed.symm.trans q3
  have hselP : selectMethod e.platform s.vm cellB.cls mk = .method mk := by rw [Launch.admits_selectMethod X.admits]; exact q4
  obtain ⟨vm₁, X₁, hstep₁⟩ := X.invokevirtual hx ho hl hnamed hmethM hstM hkP hkPi hy (a := b) (cell := cellB) (by rw [hT]; exact hcB)
    (fun z h => by rw [h] at hoB; cases hoB) hselP hmethM habM hkP hkPi (g := F0 m pc ls st0) rfl (argsL := As) (rest := rest) (hn.trans (hlen _ hsigM)) hst (by rw [hb]; exact hdg)
  have hwa : ∀ w ∈ uw y bytes maxL r, w.before (Value.ref b :: As).toArray (T.setVm vm₁) = true := fun w hw => hws w hw _ _ X₁.warmed
  obtain ⟨x, t, T', L, hq, hL, e1, e2, X', st⟩ := t_inv X₁ hM (g := F0 m pc ls rest) rfl (hsz.trans hml.symm) (ig := .invokevirtual index) (len := 3) (by rw [hb]; exact hdg) (lv_room hr8) (X₁.named hnamed) hfr hlo (atoms_intro hwa) (hwa _ hcw)
    (word_at X₁.warmed (Or.inl (by first | rfl | simp [Cond.onTables, Cond.keeps, Cond.steady])) hini) hf.1 hf.2 (hp.1 _ _ _ _ (hp.2 (T.setVm vm₁) hT X₁.warmed))
  exact ⟨x, (T.setVm vm₁).calling (F0 m pc ls rest) mk (Value.ref b :: As).toArray, t, T', L, hT, X', hL, e1, e2, hq, hstep₁ _ fun acts => by rw [doInvoke_state]; exact st⟩
/-- what a throwing callee asks -/
theorem b_blindE {av : List Value} {sz : Nat} : FrameBlind (va_Pc av (bPE g wc sz)) := fun a U g' mk q => by
  obtain ⟨q0, q1, qE⟩ := q
  obtain ⟨_, q1⟩ := b_blind (g := g) (wc := wc) (sz := sz) (av := av) a U g' mk ⟨q0, q1⟩
  exact ⟨q0, q1, bE.same (s := U) (U := U.calling g' mk a) rfl qE⟩
theorem b_preE {av : List Value} (hw : bW g A s H locs ws) (hE : bE A s s.heap) (isC : List Nat) (hnC : va_nd isC = true) (hC : isC.map (fun i => ws[i]?) = wc.map some) : ∀ U : State, U.heap = H → s.WarmedH U.vm → va_Pc av (bPE g wc H.size) av.toArray U := by
  intro U hU hW
  have hF := va_free hw.2.1 hw.2.2.1 hw.2.2.2.2.1 isC hC
  have hS := hw.2.2.1
  obtain ⟨h0, h1⟩ := b_pre (av := av) hw isC hnC hC U hU hW
  exact ⟨h0, h1, by rw [hU]; exact ((hE.kept hS.2.1).narrow hF).warm hW⟩
/-- a throw goes through a method without handlers: the world stays -/
theorem b_thru {E : String} {mc ms mc' ms' : Nat} {w2 : va_W} {Qa : State → Outcome → State → Prop} (hm : bM p s m args meth c own cc nL ret Ts) (hnh : c.exceptionTable.isEmpty = true) (hw : bW g A s H locs ws) (isC isR : List Nat) (hC : isC.map (fun i => ws[i]?) = wc.map some) (hR : isR.map (fun i => ws[i]?) = wr.map some) (hn : va_nd isR = true) (hdis : ∀ i ∈ isR, i ∉ isC)
    (hr : tRun p l e R s m args below meth c H locs cells slots mc ms (F0 m pc ls st0) rest Qa (va_A wc H.size)) (hQ : ∀ st oc t, Qa st oc t → bQt E (bQ g (va_A wc H.size) w1) (va_A wc H.size) #[] st oc t) (hmc : cells + mc = mc') (hms : slots + ms = ms') (hw2 : wr ++ w1 = w2) :
    W p l e R s m args below meth c H locs cells slots (MQT below (bQt E (bQ g A w2) A) args s mc' ms' A) (F0 m pc ls st0) := by
  subst hmc hms hw2
  intro T hT X
  obtain ⟨x, st₀, t, T', L, h0, X', hL, e1, e2, hq, st⟩ := hr T hT X
  obtain ⟨⟨x', ce, hx', hxs, hce, hcv, hcc, hB⟩, hz, hk⟩ := hQ _ _ _ hq
  cases hx'
  rw [h0] at hxs hz hk
  have hF := va_free hw.2.1 hw.2.2.1 hw.2.2.2.2.1 isC hC
  have hS := hw.2.2.1
  have hS' : va_S A s.heap T'.heap (locs ++ L) := ⟨Nat.le_trans hS.1 (by rw [e1]; exact hz), fun q h1 h2 => by rw [e1, hk q (Nat.lt_of_lt_of_le h1 hS.1) (fun z => h2 (hF q z))]; exact hS.2.1 q h1 h2, fun q hq => by
      rcases List.mem_append.mp hq with h | h
      · exact hS.2.2 q h
      · exact hF _ (hL q h)⟩
  have hb := b_back hw isC isR hC hR hn hdis e1.symm hB (fun q h1 h2 => by rw [e1]; exact hk q h1 h2) hS'
  obtain ⟨l1, l2, l3, l4, l5⟩ := X'.leaveThrown x (g := F0 m pc ls rest) rfl rfl rfl (fun z hz => by rw [Array.isEmpty_iff.mp hnh] at hz; cases hz) hm.2.2.2.2.2.2
  refine ⟨T'.setFrames (.throwing x :: below), st.trans l1, .threw x, l2, l3, ⟨⟨x, ce, rfl, Nat.le_trans hS.1 hxs, by show T'.heap[x]? = _; rw [e1]; exact hce, hcv, by show T'.vm.findClass E = _; rw [e2]; exact hcc, hb.1, va_K.moved l4.alike hb.2.2.2.1, hb.2.1⟩, hS'.F rfl⟩, locs ++ L, ⟨⟨_, rfl⟩, l4, l5⟩, hS'.2.2⟩
end THRU
