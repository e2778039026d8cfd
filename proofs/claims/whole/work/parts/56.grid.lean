/-! an array of three arrays of 36 ints, made at once -/
def mO (c : ClassId) (h i : Nat) : Cell := arrV c 3 (fun j => if j < i then .ref (h + 1 + j) else .null)
def mI (c : ClassId) : Cell := arrV c 36 (fun _ => .int 0)
def mS (s : State) (c comp : ClassId) : Nat → State
  | 0 => s.pushCell (mO c s.heap.size 0)
  | i + 1 => ((mS s c comp i).pushCell (mI comp)).setCell s.heap.size (mO c s.heap.size (i + 1))
theorem mO_next (c : ClassId) (h i : Nat) : (mO c h i).setSlot i (.ref (h + 1 + i)) = mO c h (i + 1) := by
  unfold mO
  rw [arrV_store]
  congr 1
  funext j
  unfold updV
  by_cases e : j = i
  · subst e; rw [if_pos rfl, if_pos (by omega)]
  · rw [if_neg e]
    show (if j < i then Value.ref (h + 1 + j) else Value.null) = _
    by_cases hj : j < i
    · rw [if_pos hj, if_pos (by omega)]
    · rw [if_neg hj, if_neg (by omega)]
theorem mO_size (c : ClassId) (h i : Nat) : (mO c h i).slots.size = 3 := by simp [mO, arrV]
theorem mI_size (c : ClassId) : (mI c).slots.size = 36 := by simp [mI, arrV]
theorem mS_facts (s : State) (c comp : ClassId) : ∀ i, (mS s c comp i).heap.size = s.heap.size + 1 + i ∧ (mS s c comp i).heap[s.heap.size]? = some (mO c s.heap.size i) ∧ (mS s c comp i).vm = s.vm ∧ (mS s c comp i).slotsUsed = s.slotsUsed + 3 + i * 36 ∧ (∀ a, a < s.heap.size → (mS s c comp i).heap[a]? = s.heap[a]?) ∧ ∀ j, j < i → (mS s c comp i).heap[s.heap.size + 1 + j]? = some (mI comp)
  | 0 => ⟨by simp [mS], by simp [mS], rfl, by simp [mS, mO_size], fun a ha => State.heap_pushCell_of_lt _ _ ha, fun j h => absurd h (by omega)⟩
  | i + 1 => by
    obtain ⟨h1, h2, h3, h4, h5, h6⟩ := mS_facts s c comp i
    have hlt : s.heap.size < (mS s c comp i).heap.size := by omega
    have hb' : ((mS s c comp i).pushCell (mI comp)).heap[s.heap.size]? = some (mO c s.heap.size i) := by rw [State.heap_pushCell_of_lt (h := hlt)]; exact h2
    refine ⟨?_, State.heap_setCell_self hb', by simp [mS, h3], ?_, fun a ha => ?_, fun j hj => ?_⟩
    · simp [mS, State.setCell, h1]; omega
    · simp [mS, h4, mI_size, Nat.succ_mul]; omega
    · show (((mS s c comp i).pushCell (mI comp)).setCell s.heap.size _).heap[a]? = _
      rw [State.heap_setCell_other (Nat.ne_of_gt ha), State.heap_pushCell_of_lt (h := show a < (mS s c comp i).heap.size by omega)]
      exact h5 a ha
    · show (((mS s c comp i).pushCell (mI comp)).setCell s.heap.size _).heap[s.heap.size + 1 + j]? = _
      rw [State.heap_setCell_other (show s.heap.size ≠ s.heap.size + 1 + j by omega)]
      rcases Nat.lt_or_ge j i with q | q
      · rw [State.heap_pushCell_of_lt (h := show s.heap.size + 1 + j < (mS s c comp i).heap.size by omega)]; exact h6 j q
      · rw [show s.heap.size + 1 + j = (mS s c comp i).heap.size by omega]; simp
theorem mS_setTop (s : State) (f : JFrame) (c comp : ClassId) : ∀ i, mS (s.setTop f) c comp i = (mS s c comp i).setTop f
  | 0 => rfl
  | i + 1 => by simp only [mS, mS_setTop s f c comp i, State.heap_setTop, State.pushCell_setTop, State.setCell_setTop]
section GRID
variable {E : Control → List Action → State → Prop} {e : Env} {d : Bool} {acts : List Action} {s : State}
theorem m_arr {c comp : ClassId} {k : Class} {type : FieldType} {len : Nat} {init : Value} (hk : s.vm.classes[c]? = some k) (hkind : k.kind = .array comp type) (hlimit : ¬ len > e.platform.arrayLengthLimit) (hheap : ¬ len * componentBytes type > e.platform.maxHeapBytes) (hfit : fits type init = true) (hdef : init.isDefault = true) {Q : Addr → Bool → List Action → State → Prop}
    (h1 : s.heap.size < e.platform.maxCells) (h2 : s.slotsUsed + len ≤ e.platform.maxSlots) (hq : Q s.heap.size d acts (s.pushCell (arrV c len (fun _ => init)))) : Sem.wp (Jvm.newArray c len init) Q E e d acts s := by
  rw [← arrV_new] at hq
  have hfits : ∀ i v, (Array.replicate len init)[i]? = some v → s.fitsSlot c .none i v = true := by
    intro i v hv
    simp only [Array.getElem?_replicate] at hv
    split at hv
    · cases hv; simp [State.fitsSlot, State.slotType?, hk, hkind, hfit]
    · cases hv
  have hda : allocActs (Array.replicate len init) s.heap.size acts = acts := by
    unfold allocActs
    rw [if_pos (by rw [Array.all_replicate]; split <;> simp [hdef])]
  simp only [Jvm.newArray, Jvm.arrayFits, Sem.wp_bind', W.ask, W.ite, hlimit, if_false, Sem.wp_pure', W.theClass, hk, hkind, hheap, W.alloc, W.stop, Option.some.injEq, exists_eq_left', Array.size_replicate, hda]
  rw [if_neg (by omega)]
  exact ⟨h1, h2, hfits, hq⟩
theorem m_make {c comp cc : ClassId} {k kc : Class} (hk : s.vm.classes[c]? = some k) (hkind : k.kind = .array comp (.array .int)) (hkc : s.vm.classes[comp]? = some kc) (hkindc : kc.kind = .array cc .int)
    (hl : ¬ 36 > e.platform.arrayLengthLimit) (hh : ¬ 36 * 4 > e.platform.maxHeapBytes) (hc : s.heap.size + 4 ≤ e.platform.maxCells) (hs : s.slotsUsed + 111 ≤ e.platform.maxSlots)
    {Q : Addr → Bool → List Action → State → Prop} (hq : ∀ d' acts', Q s.heap.size d' acts' (mS s c comp 3)) : Sem.wp (Op.multianewarray.make c [nI 3, nI 36]) Q E e d acts s := by
  rw [Op.multianewarray.make]
  simp only [Sem.wp_bind', W.ite, show ¬ nI 3 < 0 from by decide, if_false, Sem.wp_pure', W.theClass, hk, hkind, Option.some.injEq, exists_eq_left']
  refine m_arr hk hkind (by show ¬ 3 > _; omega) (by show ¬ 3 * 4 > _; omega) rfl rfl (by omega) (by show s.slotsUsed + 3 ≤ _; omega) ?_
  have e0 : arrV c (nI 3).toNatClampNeg (fun _ => Value.null) = mO c s.heap.size 0 := by
    show arrV c 3 _ = arrV c 3 _
    congr 1
  rw [e0]
  simp only [show ([nI 36].find? (· < 0)) = none from by decide]
  rw [ite_self, Sem.wp_bind', Std.Legacy.Range.forIn_eq_forIn_range']
  show Sem.wp (forIn (List.range' 0 3 1) PUnit.unit _) _ E e d acts _
  refine wp_forIn_inv (fun rest s' => ∃ i, i ≤ 3 ∧ rest = List.range' i (3 - i) ∧ s' = mS s c comp i) _ _ ⟨0, Nat.zero_le _, rfl, rfl⟩ ?_ ?_
  · rintro x rest s' d' acts' Q' ⟨i, hi, hl9, rfl⟩ hnext
    have hlt : i < 3 := by
      rcases Nat.lt_or_ge i 3 with h | h
      · exact h
      · rw [show 3 - i = 0 by omega] at hl9; simp at hl9
    obtain ⟨rfl, hrest⟩ : x = i ∧ rest = List.range' (i + 1) (3 - (i + 1)) := by
      rw [show 3 - i = (3 - (i + 1)) + 1 by omega, List.range'_succ] at hl9
      exact ⟨(List.cons.inj hl9).1, (List.cons.inj hl9).2⟩
    obtain ⟨f1, f2, f3, f4, -, -⟩ := mS_facts s c comp x
    simp only [Sem.wp_bind']
    rw [Op.multianewarray.make]
    simp only [Sem.wp_bind', W.ite, show ¬ nI 36 < 0 from by decide, if_false, Sem.wp_pure', W.theClass, f3, hkc, hkindc, Option.some.injEq, exists_eq_left']
    refine m_arr (by rw [f3]; exact hkc) hkindc hl hh rfl rfl (by rw [f1]; omega) (by rw [f4]; show _ + 36 ≤ _; omega) ?_
    have hlt0 : s.heap.size < (mS s c comp x).heap.size := by omega
    simp only [Sem.wp_bind', W.writeLoc, Sem.wp_pure']
    refine ⟨mO c s.heap.size x, by rw [State.heap_pushCell_of_lt (h := hlt0)]; exact f2, by simp [mO, arrV], by rw [mO_size]; exact hlt, ?_, hnext _ _ _ ⟨x + 1, hlt, hrest, ?_⟩⟩
    · show State.fitsSlot _ c .none _ _ = true
      simp [State.fitsSlot, State.slotType?, f3, hk, hkind, fits]
    · rw [f1, mO_next]; rfl
  · rintro s' d' acts' ⟨i, hi, hl9, rfl⟩
    have hiN : i = 3 := by
      rcases Nat.lt_or_ge i 3 with h | h
      · rw [show 3 - i = (3 - (i + 1)) + 1 by omega, List.range'_succ] at hl9; cases hl9
      · omega
    subst hiN
    simp only [Sem.wp_pure']
    exact hq _ _
end GRID
theorem arrV_ext {c : ClassId} {n : Nat} {f g : Nat → Value} (h : ∀ j, j < n → f j = g j) : arrV c n f = arrV c n g := by
  unfold arrV
  congr 1
  apply Array.ext
  · simp
  · intro j h1 h2
    simp only [Array.getElem_ofFn]
    exact h j (by simpa using h1)
section MUL
variable {p : Program} {l : Launch} {e : Env} {R : Room} {s : State} {m : MethodId} {args : Array Value} {below : List Frame} {meth : Method} {c : Code} {H : Heap} {locs : List Loc} {cells slots : Nat} {Q : State → Prop}
variable {g : kG} {A : Nat → Prop} {ws : va_W} {own : String} {cc : ByteArray} {nL : Nat} {ret : Option FieldType} {Ts : List Cond} {pc : Nat} {ls : Array Slot} {rest : List Value}
theorem m_filled {T : State} (X : Stand p l e R s m args below meth c T locs cells slots) (cA comp : ClassId) : ∀ i, Stand p l e R s m args below meth c (mS T cA comp i) (locs ++ (List.range i).map fun j => ⟨T.heap.size, j⟩) (cells + 1 + i) (slots + 3 + i * 36)
  | 0 => by
    have h := X.pushed (mO cA T.heap.size 0)
    rw [mO_size] at h
    simpa [mS] using h
  | i + 1 => by
    have Xi := m_filled X cA comp i
    obtain ⟨f1, f2, -⟩ := mS_facts T cA comp i
    have hcell : ((mS T cA comp i).pushCell (mI comp)).heap[T.heap.size]? = some (mO cA T.heap.size i) := by rw [State.heap_pushCell_of_lt (h := show T.heap.size < (mS T cA comp i).heap.size by omega)]; exact f2
    have h := (Xi.pushed (mI comp)).stored hcell i (.ref (T.heap.size + 1 + i))
    rw [mI_size, mO_next] at h
    have e2 : (locs ++ (List.range (i + 1)).map fun j => (⟨T.heap.size, j⟩ : Loc)) = (locs ++ (List.range i).map fun j => (⟨T.heap.size, j⟩ : Loc)) ++ [⟨T.heap.size, i⟩] := by simp [List.range_succ, List.append_assoc]
    rw [e2, show slots + 3 + (i + 1) * 36 = slots + 3 + i * 36 + 36 by omega]
    exact h
theorem b_mul {cA cB : ClassId} {index : Nat} (hm : bM p s m args meth c own cc nL ret Ts) (hw : bW g A s H locs ws) (hcl : Cond.classLink own index "[[I" ∈ Ts) (hG : bG s) (ht0 : g.2[0]? = some (cA, .int)) (ht4 : g.2[4]? = some (cB, .array .int)) (hcells : cells + 4 ≤ R.cells) (hslots : slots + 111 ≤ R.slots) (hdg : decode cc pc = .ok (.multianewarray index 2, 4))
    (kk : ∀ (q f1 f2 f3 : Nat) (H1 : Heap), bW g A s H1 locs (ws ++ [(q, .inl (cB, 3, .inr (.inr (.inr (.inr (mAd f1 f2 f3)))))), (f1, .inl (cA, 36, .inl (fun _ => 0))), (f2, .inl (cA, 36, .inl (fun _ => 0))), (f3, .inl (cA, 36, .inl (fun _ => 0)))]) → W p l e R s m args below meth c H1 locs (cells + 4) (slots + 111) Q (F0 m (pc + 4) ls (.ref q :: rest))) : W p l e R s m args below meth c H locs cells slots Q (F0 m pc ls (.int (nI 36) :: .int (nI 3) :: rest)) := by
  intro T hT X
  obtain ⟨hP, hD, hS, hK, hA, hZ⟩ := hw
  obtain ⟨hx, hb, -, -, hown, hts, -⟩ := hm
  have hpl : e.platform.magicAccessors = ({} : Platform).magicAccessors := by rw [X.admits.platform]
  obtain ⟨c0, comp, cc0, k, kc, hfc, hfi, hk, hkind, hkc, hkindc⟩ := hG
  have e4 : s.vm.findClass ("[" ++ (FieldType.array .int).toString) = some cB := (hK.2 4 _ ht4).2
  have e0 : s.vm.findClass ("[" ++ (FieldType.int).toString) = some cA := (hK.2 0 _ ht0).2
  cases hfc.symm.trans e4
  cases hfi.symm.trans e0
  obtain ⟨c1, hc1, hcl1⟩ := Cond.classLink_spec hown (hts _ hcl) e.platform hpl
  cases hfc.symm.trans hc1
  obtain ⟨hg₁, hwarm₁, hready₁⟩ := State.classEntry (e := e) X.warmed hcl1
  generalize T.vm.noted m.cls index (.cls cB) = vm₁ at hg₁ hwarm₁ hready₁
  obtain ⟨k₁, hk₁, he₁⟩ := hwarm₁.alike.2.2 _ _ hk
  obtain ⟨kc₁, hkc₁, hec₁⟩ := hwarm₁.alike.2.2 _ _ hkc
  have X₁ := X.noted hwarm₁
  obtain ⟨hr1, hr2⟩ := X.roomAbove (a := 4) (b := 111) hcells hslots
  obtain ⟨z1, z2, z3, z4, z5, z6⟩ := mS_facts (T.setVm vm₁) cB cA 3
  have hsz : (T.setVm vm₁).heap.size = H.size := by show T.heap.size = _; rw [hT]
  have hhp : ∀ a : Nat, (T.setVm vm₁).heap[a]? = H[a]? := fun a => by show T.heap[a]? = _; rw [hT]
  rw [hsz] at z1 z2 z5 z6
  have hold : ∀ a : Nat, a < H.size → (mS (T.setVm vm₁) cB cA 3).heap[a]? = H[a]? := fun a ha => (z5 a ha).trans (hhp a)
  have XF := m_filled X₁ cB cA 3
  have XG : Stand p l e R s m args below meth c (mS (T.setVm vm₁) cB cA 3) locs (cells + 4) (slots + 111) := by
    have h1 := Stand.forget XF (fun y hy => by
      obtain ⟨j, -, rfl⟩ := List.mem_map.mp hy
      show s.heap.size ≤ (T.setVm vm₁).heap.size
      rw [hsz]; exact hS.1)
    exact h1
  have hDq : ∀ x ∈ [H.size, H.size + 1, H.size + 2, H.size + 3], A x := fun x hx => hA x (by have := hS.1; simp only [List.mem_cons, List.not_mem_nil, or_false] at hx; omega)
  have hW1 : bW g A s (mS (T.setVm vm₁) cB cA 3).heap locs (ws ++ [(H.size, .inl (cB, 3, .inr (.inr (.inr (.inr (mAd (H.size + 1) (H.size + 2) (H.size + 3))))))), (H.size + 1, .inl (cA, 36, .inl (fun _ => 0))), (H.size + 2, .inl (cA, 36, .inl (fun _ => 0))), (H.size + 3, .inl (cA, 36, .inl (fun _ => 0)))]) := by
    refine ⟨(hP.kept (fun k x hx => hold x.1 ((hP k x hx).lt))).app (fun k x hx => ?_), ⟨?_, ?_⟩, ⟨Nat.le_trans hS.1 (by omega), fun x h1 h2 => (hold x (Nat.lt_of_lt_of_le h1 hS.1)).trans (hS.2.1 x h1 h2), hS.2.2⟩, hK, hA, hZ⟩
    · match k, hx with
      | 0, hx =>
        cases hx
        show (mS (T.setVm vm₁) cB cA 3).heap[H.size]? = some (vp_cell _ _)
        rw [z2, vp_cell_q]
        exact congrArg some (arrV_ext (fun j hj => by
          rw [if_pos hj]
          rcases (show j = 0 ∨ j = 1 ∨ j = 2 by omega) with rfl | rfl | rfl <;> rfl))
      | 1, hx => cases hx; exact z6 0 (by omega)
      | 2, hx => cases hx; exact z6 1 (by omega)
      | 3, hx => cases hx; exact z6 2 (by omega)
      | n + 4, hx => simp at hx
    · intro i j x y hxi hyj hxy
      have hl : ∀ (i : Nat) (x : Nat × va_E), (ws ++ [(H.size, .inl (cB, 3, .inr (.inr (.inr (.inr (mAd (H.size + 1) (H.size + 2) (H.size + 3))))))), (H.size + 1, .inl (cA, 36, .inl (fun _ => 0))), (H.size + 2, .inl (cA, 36, .inl (fun _ => 0))), (H.size + 3, .inl (cA, 36, .inl (fun _ => 0)))])[i]? = some x → (i < ws.length ∧ ws[i]? = some x ∧ x.1 < H.size) ∨ (ws.length ≤ i ∧ x.1 = H.size + (i - ws.length)) := by
        intro i x hx
        rcases Nat.lt_or_ge i ws.length with q | q
        · rw [List.getElem?_append_left q] at hx
          exact Or.inl ⟨q, hx, (hP i x hx).lt⟩
        · rw [List.getElem?_append_right q] at hx
          refine Or.inr ⟨q, ?_⟩
          generalize i - ws.length = r at hx
          match r, hx with
          | 0, hx => cases hx; rfl
          | 1, hx => cases hx; rfl
          | 2, hx => cases hx; rfl
          | 3, hx => cases hx; rfl
          | n + 4, hx => simp at hx
      rcases hl i x hxi with ⟨a1, a2, a3⟩ | ⟨a1, a2⟩ <;> rcases hl j y hyj with ⟨b1, b2, b3⟩ | ⟨b1, b2⟩
      · exact hD.1 i j x y a2 b2 hxy
      · omega
      · omega
      · omega
    · intro i x hx
      rcases Nat.lt_or_ge i ws.length with q | q
      · rw [List.getElem?_append_left q] at hx
        exact hD.2 i x hx
      · rw [List.getElem?_append_right q] at hx
        generalize i - ws.length = r at hx
        match r, hx with
        | 0, hx => cases hx; exact hDq _ (by simp)
        | 1, hx => cases hx; exact hDq _ (by simp)
        | 2, hx => cases hx; exact hDq _ (by simp)
        | 3, hx => cases hx; exact hDq _ (by simp)
        | n + 4, hx => simp at hx
  obtain ⟨t, a1, b1⟩ := kk H.size (H.size + 1) (H.size + 2) (H.size + 3) _ hW1 _ rfl XG
  refine ⟨t, ?_, b1⟩
  have hl1 : ¬ 36 > e.platform.arrayLengthLimit := by rw [Launch.admits_arrayLengthLimit X.admits]; omega
  have hh1 : ¬ 36 * 4 > e.platform.maxHeapBytes := by rw [Launch.admits_maxHeapBytes X.admits]; omega
  jvm_step X.here [hx, hb, hdg]
  simp only [Op.multianewarray.sem, Sem.wp_bind', W.resolveClassAt_links (State.method?_setTop (F0 m pc ls (.int (nI 36) :: .int (nI 3) :: rest)) X.here.top) hg₁]
  rw [W.popN, if_neg (by decide)]
  refine ⟨F0 m pc ls (.int (nI 36) :: .int (nI 3) :: rest), State.topJava?_setTop' (s := T.setVm vm₁) _ X.here.top, [.int (nI 3), .int (nI 36)], rest, rfl, rfl, ?_⟩
  simp only [List.mapM_cons, List.mapM_nil, Sem.wp_bind', Sem.wp_pure']
  refine m_make (k := k₁) (kc := kc₁) (comp := cA) (cc := cc0) hk₁ (by rw [he₁]; exact hkind) hkc₁ (by rw [hec₁]; exact hkindc) hl1 hh1 (by show T.heap.size + 4 ≤ _; omega) (by show T.slotsUsed + 111 ≤ _; omega) (fun d' acts' => ?_)
  have eS : ((T.setTop (F0 m pc ls (.int (nI 36) :: .int (nI 3) :: rest))).setVm vm₁).setTop { F0 m pc ls (.int (nI 36) :: .int (nI 3) :: rest) with stack := rest } = (T.setVm vm₁).setTop (F0 m pc ls rest) := by
    show ((T.setVm vm₁).setTop _).setTop _ = _
    rw [State.setTop_setTop]
  rw [eS, mS_setTop]
  simp only [Sem.wp_bind', W.mark, W.pushRef, State.topJava?_setTop' _ XF.here.top, Option.some.injEq, exists_eq_left', State.setTop_setTop, State.heap_setTop]
  intro acts
  simp [jvm, XF.here.top]
  rw [show T.heap.size = H.size from hsz]
  exact a1
end MUL
