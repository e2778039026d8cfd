/-! an array of three arrays of 36 ints, made at once -/
def mO (c : ClassId) (h i : Nat) : Cell := arrV c 3 (fun j => if j < i then .ref (h + 1 + j) else .null)
def mI (c : ClassId) : Cell := arrV c 36 (fun _ => .int 0)
def mS (s : State) (c comp : ClassId) : Nat → State
  | 0 => s.pushCell (mO c s.heap.size 0)
  | i + 1 => ((mS s c comp i).pushCell (mI comp)).setCell s.heap.size (mO c s.heap.size (i + 1))
theorem mO_next (c : ClassId) (h i : Nat) : (mO c h i).setSlot i (.ref (h + 1 + i)) = mO c h (i + 1) := by
  unfold mO
  rw [arrV_store]
  congr 1
  funext j
  unfold updV
  by_cases e : j = i
  · subst e; rw [if_pos rfl, if_pos (by omega)]
  · rw [if_neg e]
    show (if j < i then Value.ref (h + 1 + j) else Value.null) = _
    by_cases hj : j < i
    · rw [if_pos hj, if_pos (by omega)]
    · rw [if_neg hj, if_neg (by omega)]
theorem mO_size (c : ClassId) (h i : Nat) : (mO c h i).slots.size = 3 := by simp [mO, arrV]
theorem mI_size (c : ClassId) : (mI c).slots.size = 36 := by simp [mI, arrV]
theorem mS_facts (s : State) (c comp : ClassId) : ∀ i, (mS s c comp i).heap.size = s.heap.size + 1 + i ∧ (mS s c comp i).heap[s.heap.size]? = some (mO c s.heap.size i) ∧ (mS s c comp i).vm = s.vm ∧ (mS s c comp i).slotsUsed = s.slotsUsed + 3 + i * 36 ∧ (∀ a, a < s.heap.size → (mS s c comp i).heap[a]? = s.heap[a]?) ∧ ∀ j, j < i → (mS s c comp i).heap[s.heap.size + 1 + j]? = some (mI comp)
  | 0 => ⟨by simp [mS], by simp [mS], rfl, by simp [mS, mO_size], fun a ha => State.heap_pushCell_of_lt _ _ ha, fun j h => absurd h (by omega)⟩
  | i + 1 => by
    obtain ⟨h1, h2, h3, h4, h5, h6⟩ := mS_facts s c comp i
    have hlt : s.heap.size < (mS s c comp i).heap.size := by omega
    have hb' : ((mS s c comp i).pushCell (mI comp)).heap[s.heap.size]? = some (mO c s.heap.size i) := by rw [State.heap_pushCell_of_lt (h := hlt)]; exact h2
    refine ⟨?_, State.heap_setCell_self hb', by simp [mS, h3], ?_, fun a ha => ?_, fun j hj => ?_⟩
    · simp [mS, State.setCell, h1]; omega
    · simp [mS, h4, mI_size, Nat.succ_mul]; omega
    · show (((mS s c comp i).pushCell (mI comp)).setCell s.heap.size _).heap[a]? = _
      rw [State.heap_setCell_other (Nat.ne_of_gt ha), State.heap_pushCell_of_lt (h := show a < (mS s c comp i).heap.size by omega)]
      exact h5 a ha
    · show (((mS s c comp i).pushCell (mI comp)).setCell s.heap.size _).heap[s.heap.size + 1 + j]? = _
      rw [State.heap_setCell_other (show s.heap.size ≠ s.heap.size + 1 + j by omega)]
      rcases Nat.lt_or_ge j i with q | q
      · rw [State.heap_pushCell_of_lt (h := show s.heap.size + 1 + j < (mS s c comp i).heap.size by omega)]; exact h6 j q
      · rw [show s.heap.size + 1 + j = (mS s c comp i).heap.size by omega]; simp
theorem mS_setTop (s : State) (f : JFrame) (c comp : ClassId) : ∀ i, mS (s.setTop f) c comp i = (mS s c comp i).setTop f
  | 0 => rfl
  | i + 1 => by simp only [mS, mS_setTop s f c comp i, State.heap_setTop, State.pushCell_setTop, State.setCell_setTop]
section GRID
variable {E : Control → List Action → State → Prop} {e : Env} {d : Bool} {acts : List Action} {s : State}
theorem m_arr {c comp : ClassId} {k : Class} {type : FieldType} {len : Nat} {init : Value} (hk : s.vm.classes[c]? = some k) (hkind : k.kind = .array comp type) (hlimit : ¬ len > e.platform.arrayLengthLimit) (hheap : ¬ len * componentBytes type > e.platform.maxHeapBytes) (hfit : fits type init = true) (hdef : init.isDefault = true) {Q : Addr → Bool → List Action → State → Prop}
    (h1 : s.heap.size < e.platform.maxCells) (h2 : s.slotsUsed + len ≤ e.platform.maxSlots) (hq : Q s.heap.size d acts (s.pushCell (arrV c len (fun _ => init)))) : Sem.wp (Jvm.newArray c len init) Q E e d acts s := by
  rw [← arrV_new] at hq
  have hfits : ∀ i v, (Array.replicate len init)[i]? = some v → s.fitsSlot c .none i v = true := by
    intro i v hv
    simp only [Array.getElem?_replicate] at hv
    split at hv
    · cases hv; simp [State.fitsSlot, State.slotType?, hk, hkind, hfit]
    · cases hv
  have hda : allocActs (Array.replicate len init) s.heap.size acts = acts := by
    unfold allocActs
    rw [if_pos (by rw [Array.all_replicate]; split <;> simp [hdef])]
  simp only [Jvm.newArray, Jvm.arrayFits, Sem.wp_bind', W.ask, W.ite, hlimit, if_false, Sem.wp_pure', W.theClass, hk, hkind, hheap, W.alloc, W.stop, Option.some.injEq, exists_eq_left', Array.size_replicate, hda]
  rw [if_neg (by omega)]
  exact ⟨h1, h2, hfits, hq⟩
theorem m_make {c comp cc : ClassId} {k kc : Class} (hk : s.vm.classes[c]? = some k) (hkind : k.kind = .array comp (.array .int)) (hkc : s.vm.classes[comp]? = some kc) (hkindc : kc.kind = .array cc .int)
    (hl : ¬ 36 > e.platform.arrayLengthLimit) (hh : ¬ 36 * 4 > e.platform.maxHeapBytes) (hc : s.heap.size + 4 ≤ e.platform.maxCells) (hs : s.slotsUsed + 111 ≤ e.platform.maxSlots)
    {Q : Addr → Bool → List Action → State → Prop} (hq : ∀ d' acts', Q s.heap.size d' acts' (mS s c comp 3)) : Sem.wp (Op.multianewarray.make c [nI 3, nI 36]) Q E e d acts s := by
  rw [Op.multianewarray.make]
  simp only [Sem.wp_bind', W.ite, show ¬ nI 3 < 0 from by decide, if_false, Sem.wp_pure', W.theClass, hk, hkind, Option.some.injEq, exists_eq_left']
  refine m_arr hk hkind (by show ¬ 3 > _; omega) (by show ¬ 3 * 4 > _; omega) rfl rfl (by omega) (by show s.slotsUsed + 3 ≤ _; omega) ?_
  have e0 : arrV c (nI 3).toNatClampNeg (fun _ => Value.null) = mO c s.heap.size 0 := by
    show arrV c 3 _ = arrV c 3 _
    congr 1
  rw [e0]
  simp only [show ([nI 36].find? (· < 0)) = none from by decide]
  rw [ite_self, Sem.wp_bind', Std.Legacy.Range.forIn_eq_forIn_range']
  show Sem.wp (forIn (List.range' 0 3 1) PUnit.unit _) _ E e d acts _
  refine wp_forIn_inv (fun rest s' => ∃ i, i ≤ 3 ∧ rest = List.range' i (3 - i) ∧ s' = mS s c comp i) _ _ ⟨0, Nat.zero_le _, rfl, rfl⟩ ?_ ?_
  · rintro x rest s' d' acts' Q' ⟨i, hi, hl9, rfl⟩ hnext
    have hlt : i < 3 := by
      rcases Nat.lt_or_ge i 3 with h | h
      · exact h
      · rw [show 3 - i = 0 by omega] at hl9; simp at hl9
    obtain ⟨rfl, hrest⟩ : x = i ∧ rest = List.range' (i + 1) (3 - (i + 1)) := by
      rw [show 3 - i = (3 - (i + 1)) + 1 by omega, List.range'_succ] at hl9
      exact ⟨(List.cons.inj hl9).1, (List.cons.inj hl9).2⟩
    obtain ⟨f1, f2, f3, f4, -, -⟩ := mS_facts s c comp x
    simp only [Sem.wp_bind']
    rw [Op.multianewarray.make]
    simp only [Sem.wp_bind', W.ite, show ¬ nI 36 < 0 from by decide, if_false, Sem.wp_pure', W.theClass, f3, hkc, hkindc, Option.some.injEq, exists_eq_left']
    refine m_arr (by rw [f3]; exact hkc) hkindc hl hh rfl rfl (by rw [f1]; omega) (by rw [f4]; show _ + 36 ≤ _; omega) ?_
    have hlt0 : s.heap.size < (mS s c comp x).heap.size := by omega
    simp only [Sem.wp_bind', W.writeLoc, Sem.wp_pure']
    refine ⟨mO c s.heap.size x, by rw [State.heap_pushCell_of_lt (h := hlt0)]; exact f2, by simp [mO, arrV], by rw [mO_size]; exact hlt, ?_, hnext _ _ _ ⟨x + 1, hlt, hrest, ?_⟩⟩
    · show State.fitsSlot _ c .none _ _ = true
      simp [State.fitsSlot, State.slotType?, f3, hk, hkind, fits]
    · rw [f1, mO_next]; rfl
  · rintro s' d' acts' ⟨i, hi, hl9, rfl⟩
    have hiN : i = 3 := by
      rcases Nat.lt_or_ge i 3 with h | h
      · rw [show 3 - i = (3 - (i + 1)) + 1 by omega, List.range'_succ] at hl9; cases hl9
      · omega
    subst hiN
    simp only [Sem.wp_pure']
    exact hq _ _
end GRID
