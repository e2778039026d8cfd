/-! what is made: objects, arrays; constructors' calls -/
theorem nI_nn {n : Nat} (h : n < 2147483648) : ¬ nI n < 0 := by
  intro q
  rw [Int32.lt_iff_toInt_lt, nI_T h] at q
  have h0 : (0 : Int32).toInt = 0 := by decide
  omega
section NEW
variable {p : Program} {l : Launch} {e : Env} {R : Room} {s : State} {m : MethodId} {args : Array Value} {below : List Frame} {meth : Method} {c : Code} {H : Heap} {locs : List Loc} {cells slots : Nat} {Q : State → Prop}
variable {g : kG} {A : Nat → Prop} {ws wc wr w1 : va_W} {own : String} {cc : ByteArray} {nL : Nat} {ret : Option FieldType} {Ts : List Cond} {pc : Nat} {ls : Array Slot} {rest : List Value}
theorem b_sup {idx a : Nat} (hm : bM p s m args meth c own cc nL ret Ts) (hT : ∀ w ∈ ut, w ∈ Ts) (hlink : Cond.methodLink own idx y_Ob_init ∈ ut) (hsz : ls.size = nL) (hr8 : (rest.map fun v => v.category).sum ≤ 8) (hd : decode cc pc = .ok (.invokespecial idx, 3)) (hR : 1 ≤ R.frames ∧ 20 ≤ R.locals)
    (kk : W p l e R s m args below meth c H locs cells slots Q (F0 m (pc + 3) ls rest)) : W p l e R s m args below meth c H locs cells slots Q (F0 m pc ls (.ref a :: rest)) :=
  W.objInit hm.1 hm.2.1 hm.2.2.2.2.1 (hm.2.2.2.2.2.1 _ (hT _ hlink)) (hm.2.2.2.2.2.1 _ (hT _ k_22)) (hm.2.2.2.2.2.1 _ (hT _ k_23)) rfl (hsz.trans hm.2.2.2.1.symm) rfl hd hR.1 (by have h9 := lv_room (m := m) (pc := pc) (ls := ls) (rest := rest) hr8; show 2 * 0 + (rest.map fun v => v.category).sum + 12 ≤ R.locals; omega) kk
theorem b_new {T : u_T} {C : String} {N ci index : Nat} (hm : bM p s m args meth c own cc nL ret Ts) (hw : bW g A s H locs ws) (hin : ∀ w ∈ u_ws C T N, w ∈ Ts) (ty0 : Nat → FieldType) (hty : ∀ k, k < N → parseFieldDescriptor (T k).2.2.1 = some (ty0 k)) (hcl : Cond.classLink own index C ∈ Ts) (hinst : Cond.instantiable C N ∈ Ts) (hini : Cond.initialized C ∈ Ts) (hc : classes[ci]? = some (C, T, N)) (fs : List Value) (hfs : ∀ j, j < N → defaultValue (ty0 j) = vp_V fs j) (hcells : cells + 1 ≤ R.cells) (hslots : slots + N ≤ R.slots) (hdg : decode cc pc = .ok (.new index, 3))
    (kk : ∀ (q : Nat) (H1 : Heap), bW g A s H1 locs (ws ++ [(q, .inr (ci, fs))]) → W p l e R s m args below meth c H1 locs (cells + 1) (slots + N) Q (F0 m (pc + 3) ls (.ref q :: rest))) : W p l e R s m args below meth c H locs cells slots Q (F0 m pc ls rest) :=
  va_new hm.1 hm.2.1 hm.2.2.2.2.2.1 hin ty0 hty hm.2.2.2.2.1 (hm.2.2.2.2.2.1 _ hcl) (hm.2.2.2.2.2.1 _ hinst) (hm.2.2.2.2.2.1 _ hini) hw.2.2.2.1 hw.1 hw.2.1 hw.2.2.1 hw.2.2.2.2.1 hc hfs hcells hslots hdg (fun q H1 a b d => kk q H1 ⟨a, b, d, hw.2.2.2⟩)
/-- an array of numbers: its class is the world's -/
theorem b_newa {atype : ArrayType} {cA : ClassId} {ty : FieldType} {N' : Nat} (t0 : Nat) {a0 : vp_A} (hm : bM p s m args meth c own cc nL ret Ts) (hw : bW g A s H locs ws) (harr : Cond.arrayClass (newarray.typeOf atype) ∈ Ts) (hty : newarray.typeOf atype = ty) (ht : g.2[t0]? = some (cA, ty)) (hra : ∀ c', va_RA s c' ty → s.vm.findClass ("[" ++ ty.toString) = some c') (ha : vp_cell cA a0 = arrV cA N' (fun _ => defaultValue ty)) (hN : N' < 2147483648) (hbytes : N' * componentBytes ty ≤ 536870912) (hcells : cells + 1 ≤ R.cells) (hslots : slots + N' ≤ R.slots) (hdg : decode cc pc = .ok (.newarray atype, 2))
    (kk : ∀ (q : Nat) (H1 : Heap), bW g A s H1 locs (ws ++ [(q, .inl (cA, a0))]) → W p l e R s m args below meth c H1 locs (cells + 1) (slots + N') Q (F0 m (pc + 2) ls (.ref q :: rest))) : W p l e R s m args below meth c H locs cells slots Q (F0 m pc ls (.int (nI N') :: rest)) := by
  subst hty
  obtain ⟨hP, hD, hS, hK, hA, hZ⟩ := hw
  refine va_newaK hm.1 hm.2.1 (hm.2.2.2.2.2.1 _ harr) rfl hdg rfl (nI_nn hN) (nI_clamp hN) hbytes hcells hslots rfl fun H1 cB e1 z1 o1 hAr hNm => ?_
  have hcc := hra _ (hK.2 t0 _ ht).2
  cases hNm.symm.trans hcc
  have hk : ∀ (k : Nat) (x : Nat × va_E), ws[k]? = some x → H1[x.1]? = H[x.1]? := fun k x hx => o1 x.1 ((hP k x hx).lt)
  refine kk H.size H1 ⟨(hP.kept hk).app (fun k x hx => ?_), hD.push hP rfl (hA _ hS.1), ⟨Nat.le_trans hS.1 (by omega), fun x h1 h2 => (o1 x (Nat.lt_of_lt_of_le h1 hS.1)).trans (hS.2.1 x h1 h2), hS.2.2⟩, hK, hA, hZ⟩
  have hz : k < 1 := (List.getElem?_eq_some_iff.mp hx).1
  rw [show k = 0 by omega] at hx
  cases hx
  show H1[H.size]? = some (vp_cell _ _)
  rw [ha]
  exact e1
/-- an array of machines -/
theorem b_newq {C : String} {cA : ClassId} {index N' : Nat} (t0 : Nat) (hm : bM p s m args meth c own cc nL ret Ts) (hw : bW g A s H locs ws) (hcl : Cond.classLink own index C ∈ Ts) (hover : va_AO C s) (ht : g.2[t0]? = some (cA, .object C)) (hN : N' < 2147483648) (hbytes : N' * 4 ≤ 536870912) (hcells : cells + 1 ≤ R.cells) (hslots : slots + N' ≤ R.slots) (hdg : decode cc pc = .ok (.anewarray index, 3))
    (kk : ∀ (q : Nat) (H1 : Heap), bW g A s H1 locs (ws ++ [(q, .inl (cA, N', .inr (.inr (.inr (.inr (fun _ => none))))))]) → W p l e R s m args below meth c H1 locs (cells + 1) (slots + N') Q (F0 m (pc + 3) ls (.ref q :: rest))) : W p l e R s m args below meth c H locs cells slots Q (F0 m pc ls (.int (nI N') :: rest)) := by
  obtain ⟨hP, hD, hS, hK, hA, hZ⟩ := hw
  refine va_newq hm.1 hm.2.1 hm.2.2.2.2.1 (hm.2.2.2.2.2.1 _ hcl) hover hK hP hD hS hA (nI_nn hN) (nI_clamp hN) hbytes hcells hslots hdg (fun q cB H1 hK1 hP1 hD1 hS1 => ?_)
  obtain ⟨kA, comp, -, -, -, h4⟩ := (hK.2 t0 _ ht).2
  obtain ⟨kB, comp', -, -, -, h5⟩ := (hK1.2 g.2.length (cB, .object C) (by rw [List.getElem?_append_right (Nat.le_refl _), Nat.sub_self]; rfl)).2
  cases h5.symm.trans h4
  exact kk q H1 ⟨hP1, hD1, hS1, hK, hA, hZ⟩
theorem b_aast {r : vw_C} {cA : ClassId} {a v n i : Nat} {vs : List Value} {f : Nat → Option Nat} (hm : bM p s m args meth c own cc nL ret Ts) (hw : bW g A s H locs ws) (q0 t0 qk ci : Nat) (ha : ws[q0]? = some (a, .inl (cA, n, .inr (.inr (.inr (.inr f)))))) (ht : g.2[t0]? = some (cA, .object r.1)) (hv : ws[qk]? = some (v, .inr (ci, vs))) (hc : classes[ci]? = some r) (hi : i < n) (hn : n < 2147483648) (hdg : decode cc pc = .ok (.aastore, 1))
    {w1 : va_W} (hw1 : ws.set q0 (a, .inl (cA, n, .inr (.inr (.inr (.inr (va_up f i (some v))))))) = w1) (kk : ∀ (H1 : Heap) (locs1 : List Loc), bW g A s H1 locs1 w1 → W p l e R s m args below meth c H1 locs1 cells slots Q (F0 m (pc + 1) ls rest)) : W p l e R s m args below meth c H locs cells slots Q (F0 m pc ls (.ref v :: .int (nI i) :: .ref a :: rest)) := by
  refine va_astq hm.1 hm.2.1 hw.2.2.2.1 hw.1 hw.2.1 hw.2.2.1 q0 t0 qk ci ha ht hv hc (vp_in_nI hi hn) hdg (fun H1 locs1 a b c => ?_)
  rw [nI_clamp (by omega)] at a b
  subst hw1
  exact kk H1 locs1 ⟨a, b, c, hw.2.2.2⟩
variable {y : MethodName} {bytes : ByteArray} {maxL n index b : Nat} {rm : Room} {As st0 : List Value} {Qc : Array Value → State → Outcome → State → Prop}
theorem b_runI (hm : bM p s m args meth c own cc nL ret Ts) (hw : bW g A s H locs ws) (cw : CallB R s args own index y bytes maxL none (uw y bytes maxL none) rm rm.cells rm.slots n ∧ y.name = "<init>" ∧ (Cond.instanceMethod y).before args s = true) (hM : Met l y (uw y bytes maxL none) rm (va_Pc (.ref b :: As) (bP g wc H.size)) Qc rm.cells rm.slots (va_A wc H.size))
    (isC : List Nat) (hnC : va_nd isC = true) (hC : isC.map (fun i => ws[i]?) = wc.map some) (hn : As.length = n) (hsz : ls.size = nL) (hst : st0 = As.reverse ++ .ref b :: rest) (hr8 : (rest.map fun v => v.category).sum ≤ 8) (hdg : decode cc pc = .ok (.invokespecial index, 3)) (hf : cells + rm.cells ≤ R.cells ∧ slots + rm.slots ≤ R.slots) :
    va_Run p l e R s m args below meth c H locs cells slots rm.cells rm.slots (F0 m pc ls st0) rest (Qc (Value.ref b :: As).toArray) (va_A wc H.size) :=
  va_runI (Ts := Ts) ⟨hm.1, hm.2.1, hm.2.2.2.1, hm.2.2.2.2.1, hm.2.2.2.2.2.1⟩ hM cw ⟨b_blind, b_pre hw isC hnC hC⟩ rfl hn hsz hst (lv_room hr8) hdg hf
theorem b_runIN {host : String} (hm : bM p s m args meth c own cc nL ret Ts) (hw : bW g A s H locs ws) (cw : va_CN R s args own index y host bytes maxL none (uw y bytes maxL none) rm rm.cells rm.slots n ∧ y.name = "<init>" ∧ (Cond.instanceMethod y).before args s = true) (hM : Met l y (uw y bytes maxL none) rm (va_Pc (.ref b :: As) (bP g wc H.size)) Qc rm.cells rm.slots (va_A wc H.size))
    (isC : List Nat) (hnC : va_nd isC = true) (hC : isC.map (fun i => ws[i]?) = wc.map some) (hn : As.length = n) (hsz : ls.size = nL) (hst : st0 = As.reverse ++ .ref b :: rest) (hr8 : (rest.map fun v => v.category).sum ≤ 8) (hdg : decode cc pc = .ok (.invokespecial index, 3)) (hf : cells + rm.cells ≤ R.cells ∧ slots + rm.slots ≤ R.slots) :
    va_Run p l e R s m args below meth c H locs cells slots rm.cells rm.slots (F0 m pc ls st0) rest (Qc (Value.ref b :: As).toArray) (va_A wc H.size) :=
  va_runIN (Ts := Ts) ⟨hm.1, hm.2.1, hm.2.2.2.1, hm.2.2.2.2.1, hm.2.2.2.2.2.1⟩ hM cw ⟨b_blind, b_pre hw isC hnC hC⟩ rfl hn hsz hst (lv_room hr8) hdg hf
end NEW
