/-! a machine is weighed for an hour; an hour is weighed -/

/-- whether it can run, and what it gives then -/
def cnO (OU : Nat → Int32) (h : Nat) (g : Option Nat) : Option Nat := if OU h = 0 then g else none

set_option maxHeartbeats 4000000 in
set_option maxRecDepth 100000 in
theorem lp_Pl_weighM {l : Launch} {D : va_G} {k : Nat → ClassId} {pl se ab he po sx be ho ma fa f0 f1 f2 sa ov sta stl cn mq hq pq oq hw_ hv_ pw_ pv_ z lk pk sk : Nat} {FO F G P OU : Nat → Int32} {MA : Nat → Option Nat} {AB0 HE0 PO0 : Nat → Nat} {h kk : Nat} {gh gp : Option Nat} {AB : Nat → Nat} (hh : h < 36) (hk : kk < 3) (hmk : MA kk = some mq) (hz : z ≤ 8) (hgh : ∀ i, lnAt F z (FO h) i → lnRes F G z (FO h) 0 i = oI gh) (hgp : ∀ i, lnAt F z (FO h) i → lnRes F P z (FO h) 1 i = oI gp) (hgg : gh = none ↔ gp = none) (bgh : ∀ v, gh = some v → v ≤ 100000) (bgp : ∀ v, gp = some v → v ≤ 100000) (boH : ∀ j, HE0 j ≤ 300000) (boP : ∀ j, PO0 j ≤ 300000) {hv pv : Nat} (ehv : hv = (cnO OU h gh).getD 0) (epv : pv = (cnO OU h gp).getD 0) (eAB : AB = va_up AB0 h (AB0 h ||| (if (cnO OU h gh) = none then 0 else 2 ^ kk))) (bhv : hv ≤ 100000) (bpv : pv ≤ 100000) {p : Program} {e : Env} {s : State} {m : MethodId} {below : List Frame} {meth : Method} {c : Code} {A : Nat → Prop} (hm : bM p s m (([.ref pl, .int (nI h), .int (nI kk)] : List Value).toArray) meth c "HeatMachines$Planner" b_Pl_weighMachine 11 none (uw y_Pl_weighMachine b_Pl_weighMachine 11 none)) (hnm : meth.name = "weighMachine") :
    ∀ (f : Nat) (i : Nat) (HE PO : Nat → Nat), 2 ^ kk + 1 ≤ i + f → i ≤ 2 ^ kk → wmI h kk hv HE0 i HE → wmI h kk pv PO0 i PO → ∀ (H : Heap) (locs : List Loc) (ls : Array Slot), bW (gU D k) A s H locs [(pl, .inr (4, [.ref ho, .ref sa, .int (nI ov), .int (nI sta), .int (nI stl), .ref se, .ref ab, .ref he, .ref po, .ref sx, .ref be])), (ab, .inl (k 0, 36, .inl (fun j => nI (AB j)))), (he, .inl (k 0, 288, .inl (fun j => nI (HE j)))), (po, .inl (k 0, 288, .inl (fun j => nI (PO j)))), (ho, .inr (1, [.ref ma, .int (nI cn), .ref fa])), (ma, .inl (k 3, 3, .inr (.inr (.inr (.inr MA))))), (fa, .inl (k 4, 3, .inr (.inr (.inr (.inr (mAd f0 f1 f2)))))), (f0, .inl (k 0, 36, .inl FO)), (mq, .inr (3, [.int (nI lk), .int (nI pk), .int (nI sk), .ref hq, .ref pq, .ref oq])), (hq, .inr (2, [.ref hw_, .ref hv_, .int (nI z)])), (hw_, .inl (k 0, 8, .inl F)), (hv_, .inl (k 0, 8, .inl G)), (pq, .inr (2, [.ref pw_, .ref pv_, .int (nI z)])), (pw_, .inl (k 0, 8, .inl F)), (pv_, .inl (k 0, 8, .inl P)), (oq, .inl (k 2, 36, .inl OU))] → lv_has ls 11 [(10, .int (nI (h * 8 + i))), (9, .int (nI (2 ^ kk))), (8, .int (nI pv)), (7, .int (nI hv)), (0, .ref pl), (1, .int (nI h))] → W p l e (rU 3 0 0) s m (([.ref pl, .int (nI h), .int (nI kk)] : List Value).toArray) below meth c H locs 0 0 (MQ below (va_Qv (fun (u : (Nat → Nat) × (Nat → Nat) × (Nat → Nat)) => u.1 = va_up AB0 h (AB0 h ||| (if (cnO OU h gh) = none then 0 else 2 ^ kk)) ∧ wmI h kk ((cnO OU h gh).getD 0) HE0 (2 ^ kk) u.2.1 ∧ wmI h kk ((cnO OU h gp).getD 0) PO0 (2 ^ kk) u.2.2) (fun u => bQ (gU D k) A ([(pl, .inr (4, [.ref ho, .ref sa, .int (nI ov), .int (nI sta), .int (nI stl), .ref se, .ref ab, .ref he, .ref po, .ref sx, .ref be])), (ab, .inl (k 0, 36, .inl (fun j => nI (u.1 j)))), (he, .inl (k 0, 288, .inl (fun j => nI (u.2.1 j)))), (po, .inl (k 0, 288, .inl (fun j => nI (u.2.2 j)))), (ho, .inr (1, [.ref ma, .int (nI cn), .ref fa])), (ma, .inl (k 3, 3, .inr (.inr (.inr (.inr MA))))), (fa, .inl (k 4, 3, .inr (.inr (.inr (.inr (mAd f0 f1 f2)))))), (f0, .inl (k 0, 36, .inl FO)), (mq, .inr (3, [.int (nI lk), .int (nI pk), .int (nI sk), .ref hq, .ref pq, .ref oq])), (hq, .inr (2, [.ref hw_, .ref hv_, .int (nI z)])), (hw_, .inl (k 0, 8, .inl F)), (hv_, .inl (k 0, 8, .inl G)), (pq, .inr (2, [.ref pw_, .ref pv_, .int (nI z)])), (pw_, .inl (k 0, 8, .inl F)), (pv_, .inl (k 0, 8, .inl P)), (oq, .inl (k 2, 36, .inl OU))])) A) (([.ref pl, .int (nI h), .int (nI kk)] : List Value).toArray) s (rU 3 0 0).cells (rU 3 0 0).slots A) (F0 m 126 ls []) := by
  have hx := hm.1
  have hb := hm.2.1
  have hown := hm.2.2.2.2.1
  have hts := hm.2.2.2.2.2.1
  intro f
  induction f with
  | zero => intro i HE PO hf hi hI hJ; exfalso; omega
  | succ f ih =>
    intro i HE PO hf hi hI hJ H locs ls hw hl
    have hp3 := p3 hk
    refine lv_iload hx hb d_Pl_weighMachine_126 (lv_at hl 0 rfl) ?_
    refine lv_iload_n hx hb d_Pl_weighMachine_128 rfl (lv_at hl 5 rfl) ?_
    refine lv_bipush (v := nI 8) hx hb d_Pl_weighMachine_129 (by decide) ?_
    refine lv_imul hx hb d_Pl_weighMachine_131 ?_
    refine b_ti (pk_mul h 8) ?_
    refine lv_iload hx hb d_Pl_weighMachine_132 (lv_at hl 1 rfl) ?_
    refine lv_iadd hx hb d_Pl_weighMachine_134 ?_
    refine b_ti (nI_add (h * 8) (2 ^ kk)) ?_
    refine lv_icmp_ge (tgt := 184) hx hb d_Pl_weighMachine_135 (by decide) (fun c_135_0 => ?_) (fun c_135_0 => ?_)
    · skip
      have h_135_0 : (h * 8 + (2 ^ kk)) ≤ (h * 8 + i) := yge c_135_0 (by omega) (by omega)
      exact b_vret (post := fun (u : (Nat → Nat) × (Nat → Nat) × (Nat → Nat)) => u.1 = va_up AB0 h (AB0 h ||| (if (cnO OU h gh) = none then 0 else 2 ^ kk)) ∧ wmI h kk ((cnO OU h gh).getD 0) HE0 (2 ^ kk) u.2.1 ∧ wmI h kk ((cnO OU h gp).getD 0) PO0 (2 ^ kk) u.2.2) (w' := fun u => [(pl, .inr (4, [.ref ho, .ref sa, .int (nI ov), .int (nI sta), .int (nI stl), .ref se, .ref ab, .ref he, .ref po, .ref sx, .ref be])), (ab, .inl (k 0, 36, .inl (fun j => nI (u.1 j)))), (he, .inl (k 0, 288, .inl (fun j => nI (u.2.1 j)))), (po, .inl (k 0, 288, .inl (fun j => nI (u.2.2 j)))), (ho, .inr (1, [.ref ma, .int (nI cn), .ref fa])), (ma, .inl (k 3, 3, .inr (.inr (.inr (.inr MA))))), (fa, .inl (k 4, 3, .inr (.inr (.inr (.inr (mAd f0 f1 f2)))))), (f0, .inl (k 0, 36, .inl FO)), (mq, .inr (3, [.int (nI lk), .int (nI pk), .int (nI sk), .ref hq, .ref pq, .ref oq])), (hq, .inr (2, [.ref hw_, .ref hv_, .int (nI z)])), (hw_, .inl (k 0, 8, .inl F)), (hv_, .inl (k 0, 8, .inl G)), (pq, .inr (2, [.ref pw_, .ref pv_, .int (nI z)])), (pw_, .inl (k 0, 8, .inl F)), (pv_, .inl (k 0, 8, .inl P)), (oq, .inl (k 2, 36, .inl OU))]) (AB, HE, PO) hm hw (⟨eAB, by have e : i = 2 ^ kk := (by omega); rw [← ehv, ← e]; exact hI, by have e : i = 2 ^ kk := (by omega); rw [← epv, ← e]; exact hJ⟩) d_Pl_weighMachine_184
    · skip
      have h_135_0 : (h * 8 + i) < (h * 8 + (2 ^ kk)) := yltN c_135_0 (by omega) (by omega)
      have b1 : HE (h * 8 + i) ≤ 300000 := by rw [hI.2 _ (by omega)]; exact boH _
      have b2 : PO (h * 8 + i) ≤ 300000 := by rw [hJ.2 _ (by omega)]; exact boP _
      refine lv_aload_n hx hb d_Pl_weighMachine_138 rfl (lv_at hl 4 rfl) ?_
      refine b_get (T := F_Pl) hm hw 0 rfl rfl (fun w h => uw_of w (u_Pl w h)) 7 (by decide) (uw_of _ k_156) rfl d_Pl_weighMachine_139 ?_
      refine lv_iload hx hb d_Pl_weighMachine_142 (lv_at hl 1 rfl) ?_
      refine lv_iload hx hb d_Pl_weighMachine_144 (lv_at hl 0 rfl) ?_
      refine lv_iadd hx hb d_Pl_weighMachine_146 ?_
      refine b_ti (nI_add (2 ^ kk) (h * 8 + i)) ?_
      refine lv_aload_n hx hb d_Pl_weighMachine_147 rfl (lv_at hl 4 rfl) ?_
      refine b_get (T := F_Pl) hm hw 0 rfl rfl (fun w h => uw_of w (u_Pl w h)) 7 (by decide) (uw_of _ k_156) rfl d_Pl_weighMachine_148 ?_
      refine lv_iload hx hb d_Pl_weighMachine_151 (lv_at hl 0 rfl) ?_
      refine b_iald (i := h * 8 + i) hm hw 2 0 rfl rfl (by omega) (by omega) d_Pl_weighMachine_153 ?_
      refine b_ti (show (fun j => nI (HE j)) (h * 8 + i) = nI (HE (h * 8 + i)) from rfl) ?_
      refine lv_iload hx hb d_Pl_weighMachine_154 (lv_at hl 3 rfl) ?_
      refine lv_iadd hx hb d_Pl_weighMachine_156 ?_
      refine b_ti (nI_add (HE (h * 8 + i)) hv) ?_
      refine b_iast (i := 2 ^ kk + (h * 8 + i)) hm hw 2 0 rfl rfl (by omega) (by omega) d_Pl_weighMachine_157 (w1 := [(pl, .inr (4, [.ref ho, .ref sa, .int (nI ov), .int (nI sta), .int (nI stl), .ref se, .ref ab, .ref he, .ref po, .ref sx, .ref be])), (ab, .inl (k 0, 36, .inl (fun j => nI (AB j)))), (he, .inl (k 0, 288, .inl (fun j => nI ((va_up HE (2 ^ kk + (h * 8 + i)) (HE (h * 8 + i) + hv)) j)))), (po, .inl (k 0, 288, .inl (fun j => nI (PO j)))), (ho, .inr (1, [.ref ma, .int (nI cn), .ref fa])), (ma, .inl (k 3, 3, .inr (.inr (.inr (.inr MA))))), (fa, .inl (k 4, 3, .inr (.inr (.inr (.inr (mAd f0 f1 f2)))))), (f0, .inl (k 0, 36, .inl FO)), (mq, .inr (3, [.int (nI lk), .int (nI pk), .int (nI sk), .ref hq, .ref pq, .ref oq])), (hq, .inr (2, [.ref hw_, .ref hv_, .int (nI z)])), (hw_, .inl (k 0, 8, .inl F)), (hv_, .inl (k 0, 8, .inl G)), (pq, .inr (2, [.ref pw_, .ref pv_, .int (nI z)])), (pw_, .inl (k 0, 8, .inl F)), (pv_, .inl (k 0, 8, .inl P)), (oq, .inl (k 2, 36, .inl OU))]) (by rw [updN]; rfl) (fun H locs hw => ?_)
      refine lv_aload_n hx hb d_Pl_weighMachine_158 rfl (lv_at hl 4 rfl) ?_
      refine b_get (T := F_Pl) hm hw 0 rfl rfl (fun w h => uw_of w (u_Pl w h)) 8 (by decide) (uw_of _ k_157) rfl d_Pl_weighMachine_159 ?_
      refine lv_iload hx hb d_Pl_weighMachine_162 (lv_at hl 1 rfl) ?_
      refine lv_iload hx hb d_Pl_weighMachine_164 (lv_at hl 0 rfl) ?_
      refine lv_iadd hx hb d_Pl_weighMachine_166 ?_
      refine b_ti (nI_add (2 ^ kk) (h * 8 + i)) ?_
      refine lv_aload_n hx hb d_Pl_weighMachine_167 rfl (lv_at hl 4 rfl) ?_
      refine b_get (T := F_Pl) hm hw 0 rfl rfl (fun w h => uw_of w (u_Pl w h)) 8 (by decide) (uw_of _ k_157) rfl d_Pl_weighMachine_168 ?_
      refine lv_iload hx hb d_Pl_weighMachine_171 (lv_at hl 0 rfl) ?_
      refine b_iald (i := h * 8 + i) hm hw 3 0 rfl rfl (by omega) (by omega) d_Pl_weighMachine_173 ?_
      refine b_ti (show (fun j => nI (PO j)) (h * 8 + i) = nI (PO (h * 8 + i)) from rfl) ?_
      refine lv_iload hx hb d_Pl_weighMachine_174 (lv_at hl 2 rfl) ?_
      refine lv_iadd hx hb d_Pl_weighMachine_176 ?_
      refine b_ti (nI_add (PO (h * 8 + i)) pv) ?_
      refine b_iast (i := 2 ^ kk + (h * 8 + i)) hm hw 3 0 rfl rfl (by omega) (by omega) d_Pl_weighMachine_177 (w1 := [(pl, .inr (4, [.ref ho, .ref sa, .int (nI ov), .int (nI sta), .int (nI stl), .ref se, .ref ab, .ref he, .ref po, .ref sx, .ref be])), (ab, .inl (k 0, 36, .inl (fun j => nI (AB j)))), (he, .inl (k 0, 288, .inl (fun j => nI ((va_up HE (2 ^ kk + (h * 8 + i)) (HE (h * 8 + i) + hv)) j)))), (po, .inl (k 0, 288, .inl (fun j => nI ((va_up PO (2 ^ kk + (h * 8 + i)) (PO (h * 8 + i) + pv)) j)))), (ho, .inr (1, [.ref ma, .int (nI cn), .ref fa])), (ma, .inl (k 3, 3, .inr (.inr (.inr (.inr MA))))), (fa, .inl (k 4, 3, .inr (.inr (.inr (.inr (mAd f0 f1 f2)))))), (f0, .inl (k 0, 36, .inl FO)), (mq, .inr (3, [.int (nI lk), .int (nI pk), .int (nI sk), .ref hq, .ref pq, .ref oq])), (hq, .inr (2, [.ref hw_, .ref hv_, .int (nI z)])), (hw_, .inl (k 0, 8, .inl F)), (hv_, .inl (k 0, 8, .inl G)), (pq, .inr (2, [.ref pw_, .ref pv_, .int (nI z)])), (pw_, .inl (k 0, 8, .inl F)), (pv_, .inl (k 0, 8, .inl P)), (oq, .inl (k 2, 36, .inl OU))]) (by rw [updN]; rfl) (fun H locs hw => ?_)
      refine lv_iinc (v := nI (h * 8 + i + 1)) (lv' := [(10, .int (nI (h * 8 + i + 1))), (9, .int (nI (2 ^ kk))), (8, .int (nI pv)), (7, .int (nI hv)), (0, .ref pl), (1, .int (nI h))]) hx hb d_Pl_weighMachine_178 hl (k := 0) rfl (nI_add (h * 8 + i) 1) (by decide) rfl (fun ls hl => ?_)
      refine lv_goto (tgt := 126) hx hb d_Pl_weighMachine_181 (by decide) ?_
      have hp3 := p3 hk
      exact ih (i + 1) _ _ (by omega) (by omega) (wmI_next hI (by omega)) (wmI_next hJ (by omega)) H locs ls hw (lv_sub hl [0, 1, 2, 3, 4, 5] rfl)

set_option maxHeartbeats 4000000 in
set_option maxRecDepth 100000 in
theorem c_Pl_weighMachine (l : Launch) (D : va_G) (k : Nat → ClassId) (sz : Nat) (pl se ab he po sx be ho ma fa f0 f1 f2 sa ov sta stl cn mq hq pq oq hw_ hv_ pw_ pv_ z lk pk sk : Nat) (FO F G P OU : Nat → Int32) (MA : Nat → Option Nat) (AB0 HE0 PO0 : Nat → Nat) (h kk : Nat) (gh gp : Option Nat) (hh : h < 36) (hk : kk < 3) (hmk : MA kk = some mq) (hz : z ≤ 8) (hgh : ∀ i, lnAt F z (FO h) i → lnRes F G z (FO h) 0 i = oI gh) (hgp : ∀ i, lnAt F z (FO h) i → lnRes F P z (FO h) 1 i = oI gp) (hgg : gh = none ↔ gp = none) (bgh : ∀ v, gh = some v → v ≤ 100000) (bgp : ∀ v, gp = some v → v ≤ 100000) (boH : ∀ j, HE0 j ≤ 300000) (boP : ∀ j, PO0 j ≤ 300000) : Met l y_Pl_weighMachine (uw y_Pl_weighMachine b_Pl_weighMachine 11 none) (rU 3 0 0) (va_Pc [.ref pl, .int (nI h), .int (nI kk)] (bP (gU D k) [(pl, .inr (4, [.ref ho, .ref sa, .int (nI ov), .int (nI sta), .int (nI stl), .ref se, .ref ab, .ref he, .ref po, .ref sx, .ref be])), (ab, .inl (k 0, 36, .inl (fun j => nI (AB0 j)))), (he, .inl (k 0, 288, .inl (fun j => nI (HE0 j)))), (po, .inl (k 0, 288, .inl (fun j => nI (PO0 j)))), (ho, .inr (1, [.ref ma, .int (nI cn), .ref fa])), (ma, .inl (k 3, 3, .inr (.inr (.inr (.inr MA))))), (fa, .inl (k 4, 3, .inr (.inr (.inr (.inr (mAd f0 f1 f2)))))), (f0, .inl (k 0, 36, .inl FO)), (mq, .inr (3, [.int (nI lk), .int (nI pk), .int (nI sk), .ref hq, .ref pq, .ref oq])), (hq, .inr (2, [.ref hw_, .ref hv_, .int (nI z)])), (hw_, .inl (k 0, 8, .inl F)), (hv_, .inl (k 0, 8, .inl G)), (pq, .inr (2, [.ref pw_, .ref pv_, .int (nI z)])), (pw_, .inl (k 0, 8, .inl F)), (pv_, .inl (k 0, 8, .inl P)), (oq, .inl (k 2, 36, .inl OU))] sz)) (va_Qv (fun (u : (Nat → Nat) × (Nat → Nat) × (Nat → Nat)) => u.1 = va_up AB0 h (AB0 h ||| (if (cnO OU h gh) = none then 0 else 2 ^ kk)) ∧ wmI h kk ((cnO OU h gh).getD 0) HE0 (2 ^ kk) u.2.1 ∧ wmI h kk ((cnO OU h gp).getD 0) PO0 (2 ^ kk) u.2.2) (fun u => bQ (gU D k) (va_A [(pl, .inr (4, [.ref ho, .ref sa, .int (nI ov), .int (nI sta), .int (nI stl), .ref se, .ref ab, .ref he, .ref po, .ref sx, .ref be])), (ab, .inl (k 0, 36, .inl (fun j => nI (AB0 j)))), (he, .inl (k 0, 288, .inl (fun j => nI (HE0 j)))), (po, .inl (k 0, 288, .inl (fun j => nI (PO0 j)))), (ho, .inr (1, [.ref ma, .int (nI cn), .ref fa])), (ma, .inl (k 3, 3, .inr (.inr (.inr (.inr MA))))), (fa, .inl (k 4, 3, .inr (.inr (.inr (.inr (mAd f0 f1 f2)))))), (f0, .inl (k 0, 36, .inl FO)), (mq, .inr (3, [.int (nI lk), .int (nI pk), .int (nI sk), .ref hq, .ref pq, .ref oq])), (hq, .inr (2, [.ref hw_, .ref hv_, .int (nI z)])), (hw_, .inl (k 0, 8, .inl F)), (hv_, .inl (k 0, 8, .inl G)), (pq, .inr (2, [.ref pw_, .ref pv_, .int (nI z)])), (pw_, .inl (k 0, 8, .inl F)), (pv_, .inl (k 0, 8, .inl P)), (oq, .inl (k 2, 36, .inl OU))] sz) ([(pl, .inr (4, [.ref ho, .ref sa, .int (nI ov), .int (nI sta), .int (nI stl), .ref se, .ref ab, .ref he, .ref po, .ref sx, .ref be])), (ab, .inl (k 0, 36, .inl (fun j => nI (u.1 j)))), (he, .inl (k 0, 288, .inl (fun j => nI (u.2.1 j)))), (po, .inl (k 0, 288, .inl (fun j => nI (u.2.2 j)))), (ho, .inr (1, [.ref ma, .int (nI cn), .ref fa])), (ma, .inl (k 3, 3, .inr (.inr (.inr (.inr MA))))), (fa, .inl (k 4, 3, .inr (.inr (.inr (.inr (mAd f0 f1 f2)))))), (f0, .inl (k 0, 36, .inl FO)), (mq, .inr (3, [.int (nI lk), .int (nI pk), .int (nI sk), .ref hq, .ref pq, .ref oq])), (hq, .inr (2, [.ref hw_, .ref hv_, .int (nI z)])), (hw_, .inl (k 0, 8, .inl F)), (hv_, .inl (k 0, 8, .inl G)), (pq, .inr (2, [.ref pw_, .ref pv_, .int (nI z)])), (pw_, .inl (k 0, 8, .inl F)), (pv_, .inl (k 0, 8, .inl P)), (oq, .inl (k 2, 36, .inl OU))])) (va_A [(pl, .inr (4, [.ref ho, .ref sa, .int (nI ov), .int (nI sta), .int (nI stl), .ref se, .ref ab, .ref he, .ref po, .ref sx, .ref be])), (ab, .inl (k 0, 36, .inl (fun j => nI (AB0 j)))), (he, .inl (k 0, 288, .inl (fun j => nI (HE0 j)))), (po, .inl (k 0, 288, .inl (fun j => nI (PO0 j)))), (ho, .inr (1, [.ref ma, .int (nI cn), .ref fa])), (ma, .inl (k 3, 3, .inr (.inr (.inr (.inr MA))))), (fa, .inl (k 4, 3, .inr (.inr (.inr (.inr (mAd f0 f1 f2)))))), (f0, .inl (k 0, 36, .inl FO)), (mq, .inr (3, [.int (nI lk), .int (nI pk), .int (nI sk), .ref hq, .ref pq, .ref oq])), (hq, .inr (2, [.ref hw_, .ref hv_, .int (nI z)])), (hw_, .inl (k 0, 8, .inl F)), (hv_, .inl (k 0, 8, .inl G)), (pq, .inr (2, [.ref pw_, .ref pv_, .int (nI z)])), (pw_, .inl (k 0, 8, .inl F)), (pv_, .inl (k 0, 8, .inl P)), (oq, .inl (k 2, 36, .inl OU))] sz)) (rU 3 0 0).cells (rU 3 0 0).slots (va_A [(pl, .inr (4, [.ref ho, .ref sa, .int (nI ov), .int (nI sta), .int (nI stl), .ref se, .ref ab, .ref he, .ref po, .ref sx, .ref be])), (ab, .inl (k 0, 36, .inl (fun j => nI (AB0 j)))), (he, .inl (k 0, 288, .inl (fun j => nI (HE0 j)))), (po, .inl (k 0, 288, .inl (fun j => nI (PO0 j)))), (ho, .inr (1, [.ref ma, .int (nI cn), .ref fa])), (ma, .inl (k 3, 3, .inr (.inr (.inr (.inr MA))))), (fa, .inl (k 4, 3, .inr (.inr (.inr (.inr (mAd f0 f1 f2)))))), (f0, .inl (k 0, 36, .inl FO)), (mq, .inr (3, [.int (nI lk), .int (nI pk), .int (nI sk), .ref hq, .ref pq, .ref oq])), (hq, .inr (2, [.ref hw_, .ref hv_, .int (nI z)])), (hw_, .inl (k 0, 8, .inl F)), (hv_, .inl (k 0, 8, .inl G)), (pq, .inr (2, [.ref pw_, .ref pv_, .int (nI z)])), (pw_, .inl (k 0, 8, .inl F)), (pv_, .inl (k 0, 8, .inl P)), (oq, .inl (k 2, 36, .inl OU))] sz) := by
  refine b_start (Qc := fun A => va_Qv (fun (u : (Nat → Nat) × (Nat → Nat) × (Nat → Nat)) => u.1 = va_up AB0 h (AB0 h ||| (if (cnO OU h gh) = none then 0 else 2 ^ kk)) ∧ wmI h kk ((cnO OU h gh).getD 0) HE0 (2 ^ kk) u.2.1 ∧ wmI h kk ((cnO OU h gp).getD 0) PO0 (2 ^ kk) u.2.2) (fun u => bQ (gU D k) A ([(pl, .inr (4, [.ref ho, .ref sa, .int (nI ov), .int (nI sta), .int (nI stl), .ref se, .ref ab, .ref he, .ref po, .ref sx, .ref be])), (ab, .inl (k 0, 36, .inl (fun j => nI (u.1 j)))), (he, .inl (k 0, 288, .inl (fun j => nI (u.2.1 j)))), (po, .inl (k 0, 288, .inl (fun j => nI (u.2.2 j)))), (ho, .inr (1, [.ref ma, .int (nI cn), .ref fa])), (ma, .inl (k 3, 3, .inr (.inr (.inr (.inr MA))))), (fa, .inl (k 4, 3, .inr (.inr (.inr (.inr (mAd f0 f1 f2)))))), (f0, .inl (k 0, 36, .inl FO)), (mq, .inr (3, [.int (nI lk), .int (nI pk), .int (nI sk), .ref hq, .ref pq, .ref oq])), (hq, .inr (2, [.ref hw_, .ref hv_, .int (nI z)])), (hw_, .inl (k 0, 8, .inl F)), (hv_, .inl (k 0, 8, .inl G)), (pq, .inr (2, [.ref pw_, .ref pv_, .int (nI z)])), (pw_, .inl (k 0, 8, .inl F)), (pv_, .inl (k 0, 8, .inl P)), (oq, .inl (k 2, 36, .inl OU))])) A) (by decide +kernel) (Nat.le_of_ble_eq_true rfl) ?_
  intro p e s m below meth c A hm hnm hw ls hl
  have hl : lv_has ls 11 [(0, .ref pl), (1, .int (nI h)), (2, .int (nI kk))] := hl
  have hx := hm.1
  have hb := hm.2.1
  have hown := hm.2.2.2.2.1
  have hts := hm.2.2.2.2.2.1
  have hp3 := p3 hk
  refine lv_aload_n hx hb d_Pl_weighMachine_0 rfl (lv_at hl 0 rfl) ?_
  refine b_get (T := F_Pl) hm hw 0 rfl rfl (fun w h => uw_of w (u_Pl w h)) 0 (by decide) (uw_of _ k_145) rfl d_Pl_weighMachine_1 ?_
  refine b_getN (T := F_Ho) hm hw 4 rfl rfl (fun w h => uw_of w (u_Ho w h)) 0 (by decide) (k_98) rfl d_Pl_weighMachine_4 ?_
  refine lv_iload_n hx hb d_Pl_weighMachine_7 rfl (lv_at hl 2 rfl) ?_
  refine b_aald (i := kk) (v := mq) hm hw 5 3 rfl rfl rfl (by omega) (by omega) (hmk) d_Pl_weighMachine_8 ?_
  refine lv_astore_n (lv' := [(3, .ref mq), (0, .ref pl), (1, .int (nI h)), (2, .int (nI kk))]) hx hb d_Pl_weighMachine_9 rfl hl (by decide) rfl (fun ls hl => ?_)
  refine lv_aload_n hx hb d_Pl_weighMachine_10 rfl (lv_at hl 1 rfl) ?_
  refine b_get (T := F_Pl) hm hw 0 rfl rfl (fun w h => uw_of w (u_Pl w h)) 0 (by decide) (uw_of _ k_145) rfl d_Pl_weighMachine_11 ?_
  refine b_getN (T := F_Ho) hm hw 4 rfl rfl (fun w h => uw_of w (u_Ho w h)) 2 (by decide) (k_106) rfl d_Pl_weighMachine_14 ?_
  refine lv_iconst (v := nI 0) hx hb d_Pl_weighMachine_17 (by decide) ?_
  refine b_aald (i := 0) (v := f0) hm hw 6 4 rfl rfl rfl (by omega) (by omega) (rfl) d_Pl_weighMachine_18 ?_
  refine lv_iload_n hx hb d_Pl_weighMachine_19 rfl (lv_at hl 2 rfl) ?_
  refine b_iald (i := h) hm hw 7 0 rfl rfl (by omega) (by omega) d_Pl_weighMachine_20 ?_
  refine lv_istore (lv' := [(4, .int (FO h)), (3, .ref mq), (0, .ref pl), (1, .int (nI h)), (2, .int (nI kk))]) hx hb d_Pl_weighMachine_21  hl (by decide) rfl (fun ls hl => ?_)
  refine lv_aload_n hx hb d_Pl_weighMachine_23 rfl (lv_at hl 1 rfl) ?_
  refine b_getN (T := F_Mc) hm hw 8 rfl rfl (fun w h => uw_of w (u_Mc w h)) 5 (by decide) (k_81) rfl d_Pl_weighMachine_24 ?_
  refine lv_iload_n hx hb d_Pl_weighMachine_27 rfl (lv_at hl 3 rfl) ?_
  refine b_zald (i := h) hm hw 15 2 rfl rfl (by omega) (by omega) d_Pl_weighMachine_28 ?_
  refine lv_if_eq (tgt := 36) hx hb d_Pl_weighMachine_29 (by decide) (fun c_29_0 => ?_) (fun c_29_0 => ?_)
  · skip
    refine lv_aload_n hx hb d_Pl_weighMachine_36 rfl (lv_at hl 1 rfl) ?_
    refine b_getN (T := F_Mc) hm hw 8 rfl rfl (fun w h => uw_of w (u_Mc w h)) 3 (by decide) (k_75) rfl d_Pl_weighMachine_37 ?_
    refine lv_iload hx hb d_Pl_weighMachine_40 (lv_at hl 0 rfl) ?_
    refine lv_iconst (v := nI 0) hx hb d_Pl_weighMachine_42 (by decide) ?_
    refine b_goi (wr := [(pl, .inr (4, [.ref ho, .ref sa, .int (nI ov), .int (nI sta), .int (nI stl), .ref se, .ref ab, .ref he, .ref po, .ref sx, .ref be])), (ab, .inl (k 0, 36, .inl (fun j => nI (AB0 j)))), (he, .inl (k 0, 288, .inl (fun j => nI (HE0 j)))), (po, .inl (k 0, 288, .inl (fun j => nI (PO0 j)))), (ho, .inr (1, [.ref ma, .int (nI cn), .ref fa])), (ma, .inl (k 3, 3, .inr (.inr (.inr (.inr MA))))), (fa, .inl (k 4, 3, .inr (.inr (.inr (.inr (mAd f0 f1 f2)))))), (f0, .inl (k 0, 36, .inl FO)), (mq, .inr (3, [.int (nI lk), .int (nI pk), .int (nI sk), .ref hq, .ref pq, .ref oq])), (pq, .inr (2, [.ref pw_, .ref pv_, .int (nI z)])), (pw_, .inl (k 0, 8, .inl F)), (pv_, .inl (k 0, 8, .inl P)), (oq, .inl (k 2, 36, .inl OU))]) (b_runV (wc := [(hq, .inr (2, [.ref hw_, .ref hv_, .int (nI z)])), (hw_, .inl (k 0, 8, .inl F)), (hv_, .inl (k 0, 8, .inl G))]) (As := [.int (FO h), .int 0]) (rest := []) (q0 := 9) hm hw (cwV 2 hts (gV uw_of k_242 k_239 k_240 (k_241) k_5) rfl rfl rfl (by decide +kernel) ⟨by decide, by decide⟩) (c_Ln_valueAt l D k _ hq hw_ hv_ 8 F G z (FO h) 0 hz (by omega)) [9, 10, 11] (by decide) rfl rfl rfl rfl hl.1 rfl (Nat.le_of_ble_eq_true rfl) d_Pl_weighMachine_43 ⟨by decide, by decide⟩) hw [9, 10, 11] [0, 1, 2, 3, 4, 5, 6, 7, 8, 12, 13, 14, 15] rfl rfl (by decide) (by decide) (fun r _ H locs hp hw => ?_)
    have hw : bW (gU D k) A s H locs [(pl, .inr (4, [.ref ho, .ref sa, .int (nI ov), .int (nI sta), .int (nI stl), .ref se, .ref ab, .ref he, .ref po, .ref sx, .ref be])), (ab, .inl (k 0, 36, .inl (fun j => nI (AB0 j)))), (he, .inl (k 0, 288, .inl (fun j => nI (HE0 j)))), (po, .inl (k 0, 288, .inl (fun j => nI (PO0 j)))), (ho, .inr (1, [.ref ma, .int (nI cn), .ref fa])), (ma, .inl (k 3, 3, .inr (.inr (.inr (.inr MA))))), (fa, .inl (k 4, 3, .inr (.inr (.inr (.inr (mAd f0 f1 f2)))))), (f0, .inl (k 0, 36, .inl FO)), (mq, .inr (3, [.int (nI lk), .int (nI pk), .int (nI sk), .ref hq, .ref pq, .ref oq])), (hq, .inr (2, [.ref hw_, .ref hv_, .int (nI z)])), (hw_, .inl (k 0, 8, .inl F)), (hv_, .inl (k 0, 8, .inl G)), (pq, .inr (2, [.ref pw_, .ref pv_, .int (nI z)])), (pw_, .inl (k 0, 8, .inl F)), (pv_, .inl (k 0, 8, .inl P)), (oq, .inl (k 2, 36, .inl OU))] := hw.sub [0, 1, 2, 3, 4, 5, 6, 7, 8, 13, 14, 15, 9, 10, 11, 12] (by decide) rfl
    obtain ⟨i0, hat, hr⟩ := hp
    have hr2 : r = oI gh := hr.trans (hgh i0 hat)
    rcases o_cases gh with hG | ⟨v, hG⟩
    · skip
      refine b_ti (y := -1) (by rw [hr2, hG]; rfl) ?_
      refine lv_istore (lv' := [(5, .int (-1)), (4, .int (FO h)), (3, .ref mq), (0, .ref pl), (1, .int (nI h)), (2, .int (nI kk))]) hx hb d_Pl_weighMachine_46  hl (by decide) rfl (fun ls hl => ?_)
      refine lv_iload hx hb d_Pl_weighMachine_48 (lv_at hl 0 rfl) ?_
      refine lv_iconst (v := (-1)) hx hb d_Pl_weighMachine_50 (by decide) ?_
      refine lv_icmp_eq (tgt := 58) hx hb d_Pl_weighMachine_51 (by decide) (fun c_51_1 => ?_) (fun c_51_1 => ?_)
      · skip
        refine lv_iconst (v := nI 0) hx hb d_Pl_weighMachine_58 (by decide) ?_
        refine lv_istore (lv' := [(6, .int (nI 0)), (5, .int (-1)), (4, .int (FO h)), (3, .ref mq), (0, .ref pl), (1, .int (nI h)), (2, .int (nI kk))]) hx hb d_Pl_weighMachine_59  hl (by decide) rfl (fun ls hl => ?_)
        refine lv_iload hx hb d_Pl_weighMachine_61 (lv_at hl 0 rfl) ?_
        refine lv_if_eq (tgt := 71) hx hb d_Pl_weighMachine_63 (by decide) (fun c_63_2 => ?_) (fun c_63_2 => ?_)
        · skip
          refine lv_iconst (v := nI 0) hx hb d_Pl_weighMachine_71 (by decide) ?_
          refine lv_istore (lv' := [(7, .int (nI 0)), (6, .int (nI 0)), (5, .int (-1)), (4, .int (FO h)), (3, .ref mq), (0, .ref pl), (1, .int (nI h)), (2, .int (nI kk))]) hx hb d_Pl_weighMachine_72  hl (by decide) rfl (fun ls hl => ?_)
          refine lv_iload hx hb d_Pl_weighMachine_74 (lv_at hl 1 rfl) ?_
          refine lv_if_eq (tgt := 92) hx hb d_Pl_weighMachine_76 (by decide) (fun c_76_3 => ?_) (fun c_76_3 => ?_)
          · skip
            refine lv_iconst (v := nI 0) hx hb d_Pl_weighMachine_92 (by decide) ?_
            refine lv_istore (lv' := [(8, .int (nI 0)), (7, .int (nI 0)), (6, .int (nI 0)), (5, .int (-1)), (4, .int (FO h)), (3, .ref mq), (0, .ref pl), (1, .int (nI h)), (2, .int (nI kk))]) hx hb d_Pl_weighMachine_93  hl (by decide) rfl (fun ls hl => ?_)
            refine lv_iconst (v := nI 1) hx hb d_Pl_weighMachine_95 (by decide) ?_
            refine lv_iload_n hx hb d_Pl_weighMachine_96 rfl (lv_at hl 8 rfl) ?_
            refine lv_ishl hx hb d_Pl_weighMachine_97 ?_
            refine b_ti (nI_shl (a := 1) (b := kk) (by omega) (by omega)) ?_
            refine b_ti (y := nI (2 ^ kk)) (by rw [Nat.one_mul]) ?_
            refine lv_istore (lv' := [(9, .int (nI (2 ^ kk))), (8, .int (nI 0)), (7, .int (nI 0)), (6, .int (nI 0)), (5, .int (-1)), (4, .int (FO h)), (3, .ref mq), (0, .ref pl), (1, .int (nI h)), (2, .int (nI kk))]) hx hb d_Pl_weighMachine_98  hl (by decide) rfl (fun ls hl => ?_)
            refine lv_aload_n hx hb d_Pl_weighMachine_100 rfl (lv_at hl 7 rfl) ?_
            refine b_get (T := F_Pl) hm hw 0 rfl rfl (fun w h => uw_of w (u_Pl w h)) 6 (by decide) (uw_of _ k_155) rfl d_Pl_weighMachine_101 ?_
            refine lv_iload_n hx hb d_Pl_weighMachine_104 rfl (lv_at hl 8 rfl) ?_
            refine lv_dup2_11 hx hb d_Pl_weighMachine_105 rfl rfl ?_
            refine b_iald (i := h) hm hw 1 0 rfl rfl (by omega) (by omega) d_Pl_weighMachine_106 ?_
            refine b_ti (show (fun j => nI (AB0 j)) h = nI (AB0 h) from rfl) ?_
            refine lv_iload hx hb d_Pl_weighMachine_107 (lv_at hl 3 rfl) ?_
            refine lv_if_eq (tgt := 117) hx hb d_Pl_weighMachine_109 (by decide) (fun c_109_4 => ?_) (fun c_109_4 => ?_)
            · skip
              refine lv_iconst (v := nI 0) hx hb d_Pl_weighMachine_117 (by decide) ?_
              refine lv_ior hx hb d_Pl_weighMachine_118 ?_
              refine b_ti (nI_or (AB0 h) 0) ?_
              refine b_iast (i := h) hm hw 1 0 rfl rfl (by omega) (by omega) d_Pl_weighMachine_119 (w1 := [(pl, .inr (4, [.ref ho, .ref sa, .int (nI ov), .int (nI sta), .int (nI stl), .ref se, .ref ab, .ref he, .ref po, .ref sx, .ref be])), (ab, .inl (k 0, 36, .inl (fun j => nI ((va_up AB0 h ((AB0 h) ||| 0)) j)))), (he, .inl (k 0, 288, .inl (fun j => nI (HE0 j)))), (po, .inl (k 0, 288, .inl (fun j => nI (PO0 j)))), (ho, .inr (1, [.ref ma, .int (nI cn), .ref fa])), (ma, .inl (k 3, 3, .inr (.inr (.inr (.inr MA))))), (fa, .inl (k 4, 3, .inr (.inr (.inr (.inr (mAd f0 f1 f2)))))), (f0, .inl (k 0, 36, .inl FO)), (mq, .inr (3, [.int (nI lk), .int (nI pk), .int (nI sk), .ref hq, .ref pq, .ref oq])), (hq, .inr (2, [.ref hw_, .ref hv_, .int (nI z)])), (hw_, .inl (k 0, 8, .inl F)), (hv_, .inl (k 0, 8, .inl G)), (pq, .inr (2, [.ref pw_, .ref pv_, .int (nI z)])), (pw_, .inl (k 0, 8, .inl F)), (pv_, .inl (k 0, 8, .inl P)), (oq, .inl (k 2, 36, .inl OU))]) (by rw [updN]; rfl) (fun H locs hw => ?_)
              refine lv_iload_n hx hb d_Pl_weighMachine_120 rfl (lv_at hl 8 rfl) ?_
              refine lv_bipush (v := nI 8) hx hb d_Pl_weighMachine_121 (by decide) ?_
              refine lv_imul hx hb d_Pl_weighMachine_123 ?_
              refine b_ti (pk_mul h 8) ?_
              refine lv_istore (lv' := [(10, .int (nI (h * 8))), (9, .int (nI (2 ^ kk))), (8, .int (nI 0)), (7, .int (nI 0)), (6, .int (nI 0)), (5, .int (-1)), (4, .int (FO h)), (3, .ref mq), (0, .ref pl), (1, .int (nI h)), (2, .int (nI kk))]) hx hb d_Pl_weighMachine_124  hl (by decide) rfl (fun ls hl => ?_)
              have eH : cnO OU h gh = none := by unfold cnO; first | (rw [if_neg (by assumption)]; done) | (rw [if_pos (by assumption), hG]; done)
              have eP : cnO OU h gp = none := by unfold cnO; first | (rw [if_neg (by assumption)]; done) | (rw [if_pos (by assumption), hgg.mp hG]; done)
              exact lp_Pl_weighM (AB0 := AB0) hh hk hmk hz hgh hgp hgg bgh bgp boH boP (by rw [eH]; rfl) (by rw [eP]; rfl) (by rw [eH, if_pos rfl]) (by omega) (by omega) hm hnm (2 ^ kk + 1) 0 HE0 PO0 (by omega) (by omega) ⟨fun x h => absurd h (by omega), fun j _ => rfl⟩ ⟨fun x h => absurd h (by omega), fun j _ => rfl⟩ _ _ ls hw (lv_sub hl [0, 1, 2, 3, 8, 9] rfl)
            · skip
              exact absurd c_109_4 (by decide)
          · skip
            exact absurd c_76_3 (by decide)
        · skip
          exact absurd c_63_2 (by decide)
      · skip
        exact absurd rfl c_51_1
    · skip
      have hvb := bgh v hG
      refine b_ti (y := nI v) (by rw [hr2, hG]; rfl) ?_
      refine lv_istore (lv' := [(5, .int (nI v)), (4, .int (FO h)), (3, .ref mq), (0, .ref pl), (1, .int (nI h)), (2, .int (nI kk))]) hx hb d_Pl_weighMachine_46  hl (by decide) rfl (fun ls hl => ?_)
      refine lv_iload hx hb d_Pl_weighMachine_48 (lv_at hl 0 rfl) ?_
      refine lv_iconst (v := (-1)) hx hb d_Pl_weighMachine_50 (by decide) ?_
      refine lv_icmp_eq (tgt := 58) hx hb d_Pl_weighMachine_51 (by decide) (fun c_51_5 => ?_) (fun c_51_5 => ?_)
      · skip
        exact absurd c_51_5 (nI_nm1 (by omega))
      · skip
        refine lv_iconst (v := nI 1) hx hb d_Pl_weighMachine_54 (by decide) ?_
        refine lv_goto (tgt := 59) hx hb d_Pl_weighMachine_55 (by decide) ?_
        refine lv_istore (lv' := [(6, .int (nI 1)), (5, .int (nI v)), (4, .int (FO h)), (3, .ref mq), (0, .ref pl), (1, .int (nI h)), (2, .int (nI kk))]) hx hb d_Pl_weighMachine_59  hl (by decide) rfl (fun ls hl => ?_)
        refine lv_iload hx hb d_Pl_weighMachine_61 (lv_at hl 0 rfl) ?_
        refine lv_if_eq (tgt := 71) hx hb d_Pl_weighMachine_63 (by decide) (fun c_63_6 => ?_) (fun c_63_6 => ?_)
        · skip
          exact absurd c_63_6 (by decide)
        · skip
          refine lv_iload hx hb d_Pl_weighMachine_66 (lv_at hl 1 rfl) ?_
          refine lv_goto (tgt := 72) hx hb d_Pl_weighMachine_68 (by decide) ?_
          refine lv_istore (lv' := [(7, .int (nI v)), (6, .int (nI 1)), (5, .int (nI v)), (4, .int (FO h)), (3, .ref mq), (0, .ref pl), (1, .int (nI h)), (2, .int (nI kk))]) hx hb d_Pl_weighMachine_72  hl (by decide) rfl (fun ls hl => ?_)
          refine lv_iload hx hb d_Pl_weighMachine_74 (lv_at hl 1 rfl) ?_
          refine lv_if_eq (tgt := 92) hx hb d_Pl_weighMachine_76 (by decide) (fun c_76_7 => ?_) (fun c_76_7 => ?_)
          · skip
            exact absurd c_76_7 (by decide)
          · skip
            refine lv_aload_n hx hb d_Pl_weighMachine_79 rfl (lv_at hl 4 rfl) ?_
            refine b_getN (T := F_Mc) hm hw 8 rfl rfl (fun w h => uw_of w (u_Mc w h)) 4 (by decide) (k_78) rfl d_Pl_weighMachine_80 ?_
            refine lv_iload hx hb d_Pl_weighMachine_83 (lv_at hl 3 rfl) ?_
            refine lv_iconst (v := nI 1) hx hb d_Pl_weighMachine_85 (by decide) ?_
            refine b_goi (wr := [(pl, .inr (4, [.ref ho, .ref sa, .int (nI ov), .int (nI sta), .int (nI stl), .ref se, .ref ab, .ref he, .ref po, .ref sx, .ref be])), (ab, .inl (k 0, 36, .inl (fun j => nI (AB0 j)))), (he, .inl (k 0, 288, .inl (fun j => nI (HE0 j)))), (po, .inl (k 0, 288, .inl (fun j => nI (PO0 j)))), (ho, .inr (1, [.ref ma, .int (nI cn), .ref fa])), (ma, .inl (k 3, 3, .inr (.inr (.inr (.inr MA))))), (fa, .inl (k 4, 3, .inr (.inr (.inr (.inr (mAd f0 f1 f2)))))), (f0, .inl (k 0, 36, .inl FO)), (mq, .inr (3, [.int (nI lk), .int (nI pk), .int (nI sk), .ref hq, .ref pq, .ref oq])), (hq, .inr (2, [.ref hw_, .ref hv_, .int (nI z)])), (hw_, .inl (k 0, 8, .inl F)), (hv_, .inl (k 0, 8, .inl G)), (oq, .inl (k 2, 36, .inl OU))]) (b_runV (wc := [(pq, .inr (2, [.ref pw_, .ref pv_, .int (nI z)])), (pw_, .inl (k 0, 8, .inl F)), (pv_, .inl (k 0, 8, .inl P))]) (As := [.int (FO h), .int 1]) (rest := []) (q0 := 12) hm hw (cwV 2 hts (gV uw_of k_242 k_239 k_240 (k_241) k_5) rfl rfl rfl (by decide +kernel) ⟨by decide, by decide⟩) (c_Ln_valueAt l D k _ pq pw_ pv_ 8 F P z (FO h) 1 hz (by omega)) [12, 13, 14] (by decide) rfl rfl rfl rfl hl.1 rfl (Nat.le_of_ble_eq_true rfl) d_Pl_weighMachine_86 ⟨by decide, by decide⟩) hw [12, 13, 14] [0, 1, 2, 3, 4, 5, 6, 7, 8, 9, 10, 11, 15] rfl rfl (by decide) (by decide) (fun r _ H locs hp hw => ?_)
            have hw : bW (gU D k) A s H locs [(pl, .inr (4, [.ref ho, .ref sa, .int (nI ov), .int (nI sta), .int (nI stl), .ref se, .ref ab, .ref he, .ref po, .ref sx, .ref be])), (ab, .inl (k 0, 36, .inl (fun j => nI (AB0 j)))), (he, .inl (k 0, 288, .inl (fun j => nI (HE0 j)))), (po, .inl (k 0, 288, .inl (fun j => nI (PO0 j)))), (ho, .inr (1, [.ref ma, .int (nI cn), .ref fa])), (ma, .inl (k 3, 3, .inr (.inr (.inr (.inr MA))))), (fa, .inl (k 4, 3, .inr (.inr (.inr (.inr (mAd f0 f1 f2)))))), (f0, .inl (k 0, 36, .inl FO)), (mq, .inr (3, [.int (nI lk), .int (nI pk), .int (nI sk), .ref hq, .ref pq, .ref oq])), (hq, .inr (2, [.ref hw_, .ref hv_, .int (nI z)])), (hw_, .inl (k 0, 8, .inl F)), (hv_, .inl (k 0, 8, .inl G)), (pq, .inr (2, [.ref pw_, .ref pv_, .int (nI z)])), (pw_, .inl (k 0, 8, .inl F)), (pv_, .inl (k 0, 8, .inl P)), (oq, .inl (k 2, 36, .inl OU))] := hw.sub [0, 1, 2, 3, 4, 5, 6, 7, 8, 9, 10, 11, 13, 14, 15, 12] (by decide) rfl
            obtain ⟨i0, hat, hr⟩ := hp
            have hr2 : r = oI gp := hr.trans (hgp i0 hat)
            obtain ⟨w, hW⟩ : ∃ w, gp = some w := Option.ne_none_iff_exists'.mp (fun q => by rw [hgg.mpr q] at hG; cases hG)
            have hwb := bgp w hW
            refine b_ti (y := nI w) (by rw [hr2, hW]; rfl) ?_
            refine lv_goto (tgt := 93) hx hb d_Pl_weighMachine_89 (by decide) ?_
            refine lv_istore (lv' := [(8, .int (nI w)), (7, .int (nI v)), (6, .int (nI 1)), (5, .int (nI v)), (4, .int (FO h)), (3, .ref mq), (0, .ref pl), (1, .int (nI h)), (2, .int (nI kk))]) hx hb d_Pl_weighMachine_93  hl (by decide) rfl (fun ls hl => ?_)
            refine lv_iconst (v := nI 1) hx hb d_Pl_weighMachine_95 (by decide) ?_
            refine lv_iload_n hx hb d_Pl_weighMachine_96 rfl (lv_at hl 8 rfl) ?_
            refine lv_ishl hx hb d_Pl_weighMachine_97 ?_
            refine b_ti (nI_shl (a := 1) (b := kk) (by omega) (by omega)) ?_
            refine b_ti (y := nI (2 ^ kk)) (by rw [Nat.one_mul]) ?_
            refine lv_istore (lv' := [(9, .int (nI (2 ^ kk))), (8, .int (nI w)), (7, .int (nI v)), (6, .int (nI 1)), (5, .int (nI v)), (4, .int (FO h)), (3, .ref mq), (0, .ref pl), (1, .int (nI h)), (2, .int (nI kk))]) hx hb d_Pl_weighMachine_98  hl (by decide) rfl (fun ls hl => ?_)
            refine lv_aload_n hx hb d_Pl_weighMachine_100 rfl (lv_at hl 7 rfl) ?_
            refine b_get (T := F_Pl) hm hw 0 rfl rfl (fun w h => uw_of w (u_Pl w h)) 6 (by decide) (uw_of _ k_155) rfl d_Pl_weighMachine_101 ?_
            refine lv_iload_n hx hb d_Pl_weighMachine_104 rfl (lv_at hl 8 rfl) ?_
            refine lv_dup2_11 hx hb d_Pl_weighMachine_105 rfl rfl ?_
            refine b_iald (i := h) hm hw 1 0 rfl rfl (by omega) (by omega) d_Pl_weighMachine_106 ?_
            refine b_ti (show (fun j => nI (AB0 j)) h = nI (AB0 h) from rfl) ?_
            refine lv_iload hx hb d_Pl_weighMachine_107 (lv_at hl 3 rfl) ?_
            refine lv_if_eq (tgt := 117) hx hb d_Pl_weighMachine_109 (by decide) (fun c_109_8 => ?_) (fun c_109_8 => ?_)
            · skip
              exact absurd c_109_8 (by decide)
            · skip
              refine lv_iload hx hb d_Pl_weighMachine_112 (lv_at hl 0 rfl) ?_
              refine lv_goto (tgt := 118) hx hb d_Pl_weighMachine_114 (by decide) ?_
              refine lv_ior hx hb d_Pl_weighMachine_118 ?_
              refine b_ti (nI_or (AB0 h) (2 ^ kk)) ?_
              refine b_iast (i := h) hm hw 1 0 rfl rfl (by omega) (by omega) d_Pl_weighMachine_119 (w1 := [(pl, .inr (4, [.ref ho, .ref sa, .int (nI ov), .int (nI sta), .int (nI stl), .ref se, .ref ab, .ref he, .ref po, .ref sx, .ref be])), (ab, .inl (k 0, 36, .inl (fun j => nI ((va_up AB0 h ((AB0 h) ||| (2 ^ kk))) j)))), (he, .inl (k 0, 288, .inl (fun j => nI (HE0 j)))), (po, .inl (k 0, 288, .inl (fun j => nI (PO0 j)))), (ho, .inr (1, [.ref ma, .int (nI cn), .ref fa])), (ma, .inl (k 3, 3, .inr (.inr (.inr (.inr MA))))), (fa, .inl (k 4, 3, .inr (.inr (.inr (.inr (mAd f0 f1 f2)))))), (f0, .inl (k 0, 36, .inl FO)), (mq, .inr (3, [.int (nI lk), .int (nI pk), .int (nI sk), .ref hq, .ref pq, .ref oq])), (hq, .inr (2, [.ref hw_, .ref hv_, .int (nI z)])), (hw_, .inl (k 0, 8, .inl F)), (hv_, .inl (k 0, 8, .inl G)), (pq, .inr (2, [.ref pw_, .ref pv_, .int (nI z)])), (pw_, .inl (k 0, 8, .inl F)), (pv_, .inl (k 0, 8, .inl P)), (oq, .inl (k 2, 36, .inl OU))]) (by rw [updN]; rfl) (fun H locs hw => ?_)
              refine lv_iload_n hx hb d_Pl_weighMachine_120 rfl (lv_at hl 8 rfl) ?_
              refine lv_bipush (v := nI 8) hx hb d_Pl_weighMachine_121 (by decide) ?_
              refine lv_imul hx hb d_Pl_weighMachine_123 ?_
              refine b_ti (pk_mul h 8) ?_
              refine lv_istore (lv' := [(10, .int (nI (h * 8))), (9, .int (nI (2 ^ kk))), (8, .int (nI w)), (7, .int (nI v)), (6, .int (nI 1)), (5, .int (nI v)), (4, .int (FO h)), (3, .ref mq), (0, .ref pl), (1, .int (nI h)), (2, .int (nI kk))]) hx hb d_Pl_weighMachine_124  hl (by decide) rfl (fun ls hl => ?_)
              have eH : cnO OU h gh = some v := by unfold cnO; rw [if_pos (by assumption), hG]
              have eP : cnO OU h gp = some w := by unfold cnO; rw [if_pos (by assumption), hW]
              exact lp_Pl_weighM (AB0 := AB0) hh hk hmk hz hgh hgp hgg bgh bgp boH boP (by rw [eH]; rfl) (by rw [eP]; rfl) (by rw [eH, if_neg (by simp)]) hvb hwb hm hnm (2 ^ kk + 1) 0 HE0 PO0 (by omega) (by omega) ⟨fun x h => absurd h (by omega), fun j _ => rfl⟩ ⟨fun x h => absurd h (by omega), fun j _ => rfl⟩ _ _ ls hw (lv_sub hl [0, 1, 2, 3, 8, 9] rfl)
  · skip
    refine lv_iconst (v := (-1)) hx hb d_Pl_weighMachine_32 (by decide) ?_
    refine lv_goto (tgt := 46) hx hb d_Pl_weighMachine_33 (by decide) ?_
    refine lv_istore (lv' := [(5, .int (-1)), (4, .int (FO h)), (3, .ref mq), (0, .ref pl), (1, .int (nI h)), (2, .int (nI kk))]) hx hb d_Pl_weighMachine_46  hl (by decide) rfl (fun ls hl => ?_)
    refine lv_iload hx hb d_Pl_weighMachine_48 (lv_at hl 0 rfl) ?_
    refine lv_iconst (v := (-1)) hx hb d_Pl_weighMachine_50 (by decide) ?_
    refine lv_icmp_eq (tgt := 58) hx hb d_Pl_weighMachine_51 (by decide) (fun c_51_9 => ?_) (fun c_51_9 => ?_)
    · skip
      refine lv_iconst (v := nI 0) hx hb d_Pl_weighMachine_58 (by decide) ?_
      refine lv_istore (lv' := [(6, .int (nI 0)), (5, .int (-1)), (4, .int (FO h)), (3, .ref mq), (0, .ref pl), (1, .int (nI h)), (2, .int (nI kk))]) hx hb d_Pl_weighMachine_59  hl (by decide) rfl (fun ls hl => ?_)
      refine lv_iload hx hb d_Pl_weighMachine_61 (lv_at hl 0 rfl) ?_
      refine lv_if_eq (tgt := 71) hx hb d_Pl_weighMachine_63 (by decide) (fun c_63_10 => ?_) (fun c_63_10 => ?_)
      · skip
        refine lv_iconst (v := nI 0) hx hb d_Pl_weighMachine_71 (by decide) ?_
        refine lv_istore (lv' := [(7, .int (nI 0)), (6, .int (nI 0)), (5, .int (-1)), (4, .int (FO h)), (3, .ref mq), (0, .ref pl), (1, .int (nI h)), (2, .int (nI kk))]) hx hb d_Pl_weighMachine_72  hl (by decide) rfl (fun ls hl => ?_)
        refine lv_iload hx hb d_Pl_weighMachine_74 (lv_at hl 1 rfl) ?_
        refine lv_if_eq (tgt := 92) hx hb d_Pl_weighMachine_76 (by decide) (fun c_76_11 => ?_) (fun c_76_11 => ?_)
        · skip
          refine lv_iconst (v := nI 0) hx hb d_Pl_weighMachine_92 (by decide) ?_
          refine lv_istore (lv' := [(8, .int (nI 0)), (7, .int (nI 0)), (6, .int (nI 0)), (5, .int (-1)), (4, .int (FO h)), (3, .ref mq), (0, .ref pl), (1, .int (nI h)), (2, .int (nI kk))]) hx hb d_Pl_weighMachine_93  hl (by decide) rfl (fun ls hl => ?_)
          refine lv_iconst (v := nI 1) hx hb d_Pl_weighMachine_95 (by decide) ?_
          refine lv_iload_n hx hb d_Pl_weighMachine_96 rfl (lv_at hl 8 rfl) ?_
          refine lv_ishl hx hb d_Pl_weighMachine_97 ?_
          refine b_ti (nI_shl (a := 1) (b := kk) (by omega) (by omega)) ?_
          refine b_ti (y := nI (2 ^ kk)) (by rw [Nat.one_mul]) ?_
          refine lv_istore (lv' := [(9, .int (nI (2 ^ kk))), (8, .int (nI 0)), (7, .int (nI 0)), (6, .int (nI 0)), (5, .int (-1)), (4, .int (FO h)), (3, .ref mq), (0, .ref pl), (1, .int (nI h)), (2, .int (nI kk))]) hx hb d_Pl_weighMachine_98  hl (by decide) rfl (fun ls hl => ?_)
          refine lv_aload_n hx hb d_Pl_weighMachine_100 rfl (lv_at hl 7 rfl) ?_
          refine b_get (T := F_Pl) hm hw 0 rfl rfl (fun w h => uw_of w (u_Pl w h)) 6 (by decide) (uw_of _ k_155) rfl d_Pl_weighMachine_101 ?_
          refine lv_iload_n hx hb d_Pl_weighMachine_104 rfl (lv_at hl 8 rfl) ?_
          refine lv_dup2_11 hx hb d_Pl_weighMachine_105 rfl rfl ?_
          refine b_iald (i := h) hm hw 1 0 rfl rfl (by omega) (by omega) d_Pl_weighMachine_106 ?_
          refine b_ti (show (fun j => nI (AB0 j)) h = nI (AB0 h) from rfl) ?_
          refine lv_iload hx hb d_Pl_weighMachine_107 (lv_at hl 3 rfl) ?_
          refine lv_if_eq (tgt := 117) hx hb d_Pl_weighMachine_109 (by decide) (fun c_109_12 => ?_) (fun c_109_12 => ?_)
          · skip
            refine lv_iconst (v := nI 0) hx hb d_Pl_weighMachine_117 (by decide) ?_
            refine lv_ior hx hb d_Pl_weighMachine_118 ?_
            refine b_ti (nI_or (AB0 h) 0) ?_
            refine b_iast (i := h) hm hw 1 0 rfl rfl (by omega) (by omega) d_Pl_weighMachine_119 (w1 := [(pl, .inr (4, [.ref ho, .ref sa, .int (nI ov), .int (nI sta), .int (nI stl), .ref se, .ref ab, .ref he, .ref po, .ref sx, .ref be])), (ab, .inl (k 0, 36, .inl (fun j => nI ((va_up AB0 h ((AB0 h) ||| 0)) j)))), (he, .inl (k 0, 288, .inl (fun j => nI (HE0 j)))), (po, .inl (k 0, 288, .inl (fun j => nI (PO0 j)))), (ho, .inr (1, [.ref ma, .int (nI cn), .ref fa])), (ma, .inl (k 3, 3, .inr (.inr (.inr (.inr MA))))), (fa, .inl (k 4, 3, .inr (.inr (.inr (.inr (mAd f0 f1 f2)))))), (f0, .inl (k 0, 36, .inl FO)), (mq, .inr (3, [.int (nI lk), .int (nI pk), .int (nI sk), .ref hq, .ref pq, .ref oq])), (hq, .inr (2, [.ref hw_, .ref hv_, .int (nI z)])), (hw_, .inl (k 0, 8, .inl F)), (hv_, .inl (k 0, 8, .inl G)), (pq, .inr (2, [.ref pw_, .ref pv_, .int (nI z)])), (pw_, .inl (k 0, 8, .inl F)), (pv_, .inl (k 0, 8, .inl P)), (oq, .inl (k 2, 36, .inl OU))]) (by rw [updN]; rfl) (fun H locs hw => ?_)
            refine lv_iload_n hx hb d_Pl_weighMachine_120 rfl (lv_at hl 8 rfl) ?_
            refine lv_bipush (v := nI 8) hx hb d_Pl_weighMachine_121 (by decide) ?_
            refine lv_imul hx hb d_Pl_weighMachine_123 ?_
            refine b_ti (pk_mul h 8) ?_
            refine lv_istore (lv' := [(10, .int (nI (h * 8))), (9, .int (nI (2 ^ kk))), (8, .int (nI 0)), (7, .int (nI 0)), (6, .int (nI 0)), (5, .int (-1)), (4, .int (FO h)), (3, .ref mq), (0, .ref pl), (1, .int (nI h)), (2, .int (nI kk))]) hx hb d_Pl_weighMachine_124  hl (by decide) rfl (fun ls hl => ?_)
            have eH : cnO OU h gh = none := by unfold cnO; first | (rw [if_neg (by assumption)]; done) | (rw [if_pos (by assumption), hG]; done)
            have eP : cnO OU h gp = none := by unfold cnO; first | (rw [if_neg (by assumption)]; done) | (rw [if_pos (by assumption), hgg.mp hG]; done)
            exact lp_Pl_weighM (AB0 := AB0) hh hk hmk hz hgh hgp hgg bgh bgp boH boP (by rw [eH]; rfl) (by rw [eP]; rfl) (by rw [eH, if_pos rfl]) (by omega) (by omega) hm hnm (2 ^ kk + 1) 0 HE0 PO0 (by omega) (by omega) ⟨fun x h => absurd h (by omega), fun j _ => rfl⟩ ⟨fun x h => absurd h (by omega), fun j _ => rfl⟩ _ _ ls hw (lv_sub hl [0, 1, 2, 3, 8, 9] rfl)
          · skip
            exact absurd c_109_12 (by decide)
        · skip
          exact absurd c_76_11 (by decide)
      · skip
        exact absurd c_63_10 (by decide)
    · skip
      exact absurd rfl c_51_9
