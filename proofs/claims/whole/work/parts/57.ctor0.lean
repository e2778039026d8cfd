/-! constructors that ask for what throws ask -/
section CT
variable {p : Program} {l : Launch} {e : Env} {R : Room} {s : State} {m : MethodId} {args : Array Value} {below : List Frame} {meth : Method} {c : Code} {H : Heap} {locs : List Loc} {cells slots : Nat} {Q : State → Prop}
variable {g : kG} {A : Nat → Prop} {ws wc wr w1 : va_W} {own : String} {cc : ByteArray} {nL : Nat} {ret : Option FieldType} {Ts : List Cond} {pc : Nat} {ls : Array Slot} {rest : List Value}
theorem b_startE {y : MethodName} {maxL mc ms sz : Nat} {ws' : List Cond} {rm : Room} {av : List Value} {Qc : (Nat → Prop) → Array Value → State → Outcome → State → Prop} (hy : plainName y.cls = true) (hlen : (lg_sl av).length ≤ maxL)
    (body : ∀ (p : Program) (e : Env) (s : State) (m : MethodId) (below : List Frame) (meth : Method) (c : Code) (A : Nat → Prop), bM p s m av.toArray meth c y.cls cc maxL ret (.code y cc maxL ret :: ws') → (meth.name = y.name) → bE A s s.heap → bW g A s s.heap [] ws → ∀ ls : Array Slot, lv_has ls maxL (lv_args 0 av) →
      W p l e rm s m av.toArray below meth c s.heap [] 0 0 (MQ below (Qc A) av.toArray s mc ms A) (F0 m 0 ls [])) :
    Met l y (.code y cc maxL ret :: ws') rm (va_Pc av (bPE g ws sz)) (Qc (va_A ws sz)) mc ms (va_A ws sz) := by
  refine Met.ofW (cc := cc) (maxL := maxL) (ret := ret) hy rfl ?_
  intro p e s m args below meth c s₁ B hml hv
  obtain ⟨rfl, ⟨hsz, hP, hK, hD0, hZ⟩, hE⟩ := hv
  subst hsz
  have hl := lv_entry av (n := maxL) hlen
  rw [lg_entry_eq]
  exact body p e s m below meth c _ ⟨B.exec, B.bytes, B.returns, hml, findClass_of_methodNamed B.named, atoms_spec (ws := .code y cc maxL ret :: ws') B.pre, B.notSynchronized⟩ (name_of_methodNamed B.named B.method).1 hE
    ⟨hP, hD0.self, va_S.rf, hK, fun q h => Or.inr h, hZ⟩ _ hl
variable {y : MethodName} {bytes : ByteArray} {maxL n index b : Nat} {rm : Room} {As st0 : List Value} {Qc : Array Value → State → Outcome → State → Prop}
theorem b_runIE (hm : bM p s m args meth c own cc nL ret Ts) (hw : bW g A s H locs ws) (hE : bE A s s.heap) (cw : CallB R s args own index y bytes maxL none (uw y bytes maxL none) rm rm.cells rm.slots n ∧ y.name = "<init>" ∧ (Cond.instanceMethod y).before args s = true) (hM : Met l y (uw y bytes maxL none) rm (va_Pc (.ref b :: As) (bPE g wc H.size)) Qc rm.cells rm.slots (va_A wc H.size))
    (isC : List Nat) (hnC : va_nd isC = true) (hC : isC.map (fun i => ws[i]?) = wc.map some) (hn : As.length = n) (hsz : ls.size = nL) (hst : st0 = As.reverse ++ .ref b :: rest) (hr8 : (rest.map fun v => v.category).sum ≤ 8) (hdg : decode cc pc = .ok (.invokespecial index, 3)) (hf : cells + rm.cells ≤ R.cells ∧ slots + rm.slots ≤ R.slots) :
    va_Run p l e R s m args below meth c H locs cells slots rm.cells rm.slots (F0 m pc ls st0) rest (Qc (Value.ref b :: As).toArray) (va_A wc H.size) :=
  va_runI (Ts := Ts) ⟨hm.1, hm.2.1, hm.2.2.2.1, hm.2.2.2.2.1, hm.2.2.2.2.2.1⟩ hM cw ⟨b_blindE, b_preE hw hE isC hnC hC⟩ rfl hn hsz hst (lv_room hr8) hdg hf
theorem b_runINE {host : String} (hm : bM p s m args meth c own cc nL ret Ts) (hw : bW g A s H locs ws) (hE : bE A s s.heap) (cw : va_CN R s args own index y host bytes maxL none (uw y bytes maxL none) rm rm.cells rm.slots n ∧ y.name = "<init>" ∧ (Cond.instanceMethod y).before args s = true) (hM : Met l y (uw y bytes maxL none) rm (va_Pc (.ref b :: As) (bPE g wc H.size)) Qc rm.cells rm.slots (va_A wc H.size))
    (isC : List Nat) (hnC : va_nd isC = true) (hC : isC.map (fun i => ws[i]?) = wc.map some) (hn : As.length = n) (hsz : ls.size = nL) (hst : st0 = As.reverse ++ .ref b :: rest) (hr8 : (rest.map fun v => v.category).sum ≤ 8) (hdg : decode cc pc = .ok (.invokespecial index, 3)) (hf : cells + rm.cells ≤ R.cells ∧ slots + rm.slots ≤ R.slots) :
    va_Run p l e R s m args below meth c H locs cells slots rm.cells rm.slots (F0 m pc ls st0) rest (Qc (Value.ref b :: As).toArray) (va_A wc H.size) :=
  va_runIN (Ts := Ts) ⟨hm.1, hm.2.1, hm.2.2.2.1, hm.2.2.2.2.1, hm.2.2.2.2.2.1⟩ hM cw ⟨b_blindE, b_preE hw hE isC hnC hC⟩ rfl hn hsz hst (lv_room hr8) hdg hf
end CT
def f10 (i : Nat) : Nat → Nat := fun j => if j < i then 10 else 0
theorem f10_up (i : Nat) : va_up (f10 i) i 10 = f10 (i + 1) := by
  funext j
  by_cases h : j = i
  · subst h; rw [va_up_self]; unfold f10; rw [if_pos (by omega)]
  · rw [va_up_ne _ _ h]; unfold f10
    by_cases q : j < i
    · rw [if_pos q, if_pos (by omega)]
    · rw [if_neg q, if_neg (by omega)]
theorem f10_0 : f10 0 = fun _ => 0 := by funext j; unfold f10; rw [if_neg (by omega)]
theorem mAd_3 (a b c : Nat) : va_up (va_up (va_up (fun _ => none) 0 (some a)) 1 (some b)) 2 (some c) = mAd a b c := by
  funext j
  match j with
  | 0 => rfl
  | 1 => rfl
  | 2 => rfl
  | n + 3 => rw [va_up_ne _ _ (by omega), va_up_ne _ _ (by omega), va_up_ne _ _ (by omega)]; rfl
