/-! the reference: its small methods, its maps -/

def mdL (za : Nat → Nat) (th cn ov sn kn fd : Nat) (cst : Int64) (co tb : Nat) : List Value := .int (nI th) :: .int (nI cn) :: .ref (za 2) :: .ref (za 3) :: .ref (za 4) :: .ref (za 5) :: .ref (za 6) :: .ref (za 7) :: .ref (za 8) :: .ref (za 9) :: .ref (za 10) :: .ref (za 11) :: .ref (za 12) :: .int (nI ov) :: .ref (za 14) :: .ref (za 15) :: .int (nI sn) :: .ref (za 17) :: .ref (za 18) :: .ref (za 19) :: .ref (za 20) :: .ref (za 21) :: .ref (za 22) :: .ref (za 23) :: .ref (za 24) :: .ref (za 25) :: .ref (za 26) :: .ref (za 27) :: .int (nI kn) :: .int (nI fd) :: .ref (za 30) :: .long cst :: .int (nI co) :: .ref (za 33) :: .ref (za 34) :: .int (nI tb) :: .ref (za 36) :: .ref (za 37) :: []

set_option maxHeartbeats 4000000 in
set_option maxRecDepth 100000 in
theorem c_Md_in (l : Launch) (D : va_G) (k : Nat → ClassId) (sz : Nat) (v a b : Int32) : Met l y_Md_in (uw y_Md_in b_Md_in 3 (some .boolean)) (rU 0 0 0) (va_Pc [.int v, .int a, .int b] (bP (gU D k) [] sz)) (va_Qi (fun (r : Int32) (_ : Unit) => (r = 1 ∧ (a ≤ v ∧ v ≤ b)) ∨ (r = 0 ∧ ¬ (a ≤ v ∧ v ≤ b))) (fun u => bQ (gU D k) (va_A [] sz) ([])) (va_A [] sz)) (rU 0 0 0).cells (rU 0 0 0).slots (va_A [] sz) := by
  refine b_start (y := y_Md_in) (maxL := 3) (ret := (some .boolean)) (cc := b_Md_in) (ws' := ut) (rm := rU 0 0 0) (av := [.int v, .int a, .int b]) (g := gU D k) (ws := []) (sz := sz) (Qc := fun A => va_Qi (fun (r : Int32) (_ : Unit) => (r = 1 ∧ (a ≤ v ∧ v ≤ b)) ∨ (r = 0 ∧ ¬ (a ≤ v ∧ v ≤ b))) (fun u => bQ (gU D k) A ([])) A) (by decide +kernel) (Nat.le_of_ble_eq_true rfl) ?_
  intro p e s m below meth c A hm hnm hw ls hl
  have hl : lv_has ls 3 [(0, .int v), (1, .int a), (2, .int b)] := hl
  have hx := hm.1
  have hb := hm.2.1
  have hown := hm.2.2.2.2.1
  have hts := hm.2.2.2.2.2.1
  refine lv_iload_n hx hb d_Md_in_0 rfl (lv_at hl 0 rfl) ?_
  refine lv_iload_n hx hb d_Md_in_1 rfl (lv_at hl 1 rfl) ?_
  refine lv_icmp_lt (tgt := 14) hx hb d_Md_in_2 (by decide) (fun c_2_0 => ?_) (fun c_2_0 => ?_)
  · skip
    refine lv_iconst (v := nI 0) hx hb d_Md_in_14 (by decide) ?_
    exact b_zret () hm hw (Or.inl rfl) (Or.inr ⟨rfl, by grind⟩) d_Md_in_15
  · skip
    refine lv_iload_n hx hb d_Md_in_5 rfl (lv_at hl 0 rfl) ?_
    refine lv_iload_n hx hb d_Md_in_6 rfl (lv_at hl 2 rfl) ?_
    refine lv_icmp_gt (tgt := 14) hx hb d_Md_in_7 (by decide) (fun c_7_1 => ?_) (fun c_7_1 => ?_)
    · skip
      refine lv_iconst (v := nI 0) hx hb d_Md_in_14 (by decide) ?_
      exact b_zret () hm hw (Or.inl rfl) (Or.inr ⟨rfl, by grind⟩) d_Md_in_15
    · skip
      refine lv_iconst (v := nI 1) hx hb d_Md_in_10 (by decide) ?_
      refine lv_goto (tgt := 15) hx hb d_Md_in_11 (by decide) ?_
      exact b_zret () hm hw (Or.inr rfl) (Or.inl ⟨rfl, by grind⟩) d_Md_in_15

set_option maxHeartbeats 4000000 in
set_option maxRecDepth 100000 in
theorem c_Md_isMachine (l : Launch) (D : va_G) (k : Nat → ClassId) (sz : Nat) (md : Nat) (za : Nat → Nat) (th cn ov sn kn fd : Nat) (cst : Int64) (co tb : Nat) (v : Int32) : Met l y_Md_isMachine (uw y_Md_isMachine b_Md_isMachine 2 (some .boolean)) (rU 0 0 0) (va_Pc [.ref md, .int v] (bP (gU D k) [(md, .inr (7, mdL za th cn ov sn kn fd cst co tb))] sz)) (va_Qi (fun (r : Int32) (_ : Unit) => (r = 1 ∧ (nI 0 ≤ v ∧ v < nI cn)) ∨ (r = 0 ∧ ¬ (nI 0 ≤ v ∧ v < nI cn))) (fun u => bQ (gU D k) (va_A [(md, .inr (7, mdL za th cn ov sn kn fd cst co tb))] sz) ([(md, .inr (7, mdL za th cn ov sn kn fd cst co tb))])) (va_A [(md, .inr (7, mdL za th cn ov sn kn fd cst co tb))] sz)) (rU 0 0 0).cells (rU 0 0 0).slots (va_A [(md, .inr (7, mdL za th cn ov sn kn fd cst co tb))] sz) := by
  refine b_start (y := y_Md_isMachine) (maxL := 2) (ret := (some .boolean)) (cc := b_Md_isMachine) (ws' := ut) (rm := rU 0 0 0) (av := [.ref md, .int v]) (g := gU D k) (ws := [(md, .inr (7, mdL za th cn ov sn kn fd cst co tb))]) (sz := sz) (Qc := fun A => va_Qi (fun (r : Int32) (_ : Unit) => (r = 1 ∧ (nI 0 ≤ v ∧ v < nI cn)) ∨ (r = 0 ∧ ¬ (nI 0 ≤ v ∧ v < nI cn))) (fun u => bQ (gU D k) A ([(md, .inr (7, mdL za th cn ov sn kn fd cst co tb))])) A) (by decide +kernel) (Nat.le_of_ble_eq_true rfl) ?_
  intro p e s m below meth c A hm hnm hw ls hl
  have hl : lv_has ls 2 [(0, .ref md), (1, .int v)] := hl
  have hx := hm.1
  have hb := hm.2.1
  have hown := hm.2.2.2.2.1
  have hts := hm.2.2.2.2.2.1
  refine lv_iload_n hx hb d_Md_isMachine_0 rfl (lv_at hl 1 rfl) ?_
  refine lv_if_lt (tgt := 16) hx hb d_Md_isMachine_1 (by decide) (fun c_1_0 => ?_) (fun c_1_0 => ?_)
  · skip
    refine lv_iconst (v := nI 0) hx hb d_Md_isMachine_16 (by decide) ?_
    exact b_zret () hm hw (Or.inl rfl) (Or.inr ⟨rfl, by rw [show nI 0 = 0 from rfl]; grind⟩) d_Md_isMachine_17
  · skip
    refine lv_iload_n hx hb d_Md_isMachine_4 rfl (lv_at hl 1 rfl) ?_
    refine lv_aload_n hx hb d_Md_isMachine_5 rfl (lv_at hl 0 rfl) ?_
    refine b_get (T := F_Md) hm hw 0 rfl rfl (fun w h => uw_of w (u_Md w h)) 1 (by decide) (uw_of _ k_609) rfl d_Md_isMachine_6 ?_
    refine lv_icmp_ge (tgt := 16) hx hb d_Md_isMachine_9 (by decide) (fun c_9_1 => ?_) (fun c_9_1 => ?_)
    · skip
      refine lv_iconst (v := nI 0) hx hb d_Md_isMachine_16 (by decide) ?_
      exact b_zret () hm hw (Or.inl rfl) (Or.inr ⟨rfl, by rw [show nI 0 = 0 from rfl]; grind⟩) d_Md_isMachine_17
    · skip
      refine lv_iconst (v := nI 1) hx hb d_Md_isMachine_12 (by decide) ?_
      refine lv_goto (tgt := 17) hx hb d_Md_isMachine_13 (by decide) ?_
      exact b_zret () hm hw (Or.inr rfl) (Or.inl ⟨rfl, by rw [show nI 0 = 0 from rfl]; grind⟩) d_Md_isMachine_17

set_option maxHeartbeats 4000000 in
set_option maxRecDepth 100000 in
theorem c_Md_thrown (l : Launch) (D : va_G) (k : Nat → ClassId) (sz : Nat) (md : Nat) (za : Nat → Nat) (th cn ov sn kn fd : Nat) (cst : Int64) (co tb : Nat) : Met l y_Md_thrown (uw y_Md_thrown b_Md_thrown 1 (some .int)) (rU 0 0 0) (va_Pc [.ref md] (bP (gU D k) [(md, .inr (7, mdL za th cn ov sn kn fd cst co tb))] sz)) (va_Qi (fun (r : Int32) (_ : Unit) => r = nI th) (fun u => bQ (gU D k) (va_A [(md, .inr (7, mdL za th cn ov sn kn fd cst co tb))] sz) ([(md, .inr (7, mdL za th cn ov sn kn fd cst co tb))])) (va_A [(md, .inr (7, mdL za th cn ov sn kn fd cst co tb))] sz)) (rU 0 0 0).cells (rU 0 0 0).slots (va_A [(md, .inr (7, mdL za th cn ov sn kn fd cst co tb))] sz) := by
  refine b_start (y := y_Md_thrown) (maxL := 1) (ret := (some .int)) (cc := b_Md_thrown) (ws' := ut) (rm := rU 0 0 0) (av := [.ref md]) (g := gU D k) (ws := [(md, .inr (7, mdL za th cn ov sn kn fd cst co tb))]) (sz := sz) (Qc := fun A => va_Qi (fun (r : Int32) (_ : Unit) => r = nI th) (fun u => bQ (gU D k) A ([(md, .inr (7, mdL za th cn ov sn kn fd cst co tb))])) A) (by decide +kernel) (Nat.le_of_ble_eq_true rfl) ?_
  intro p e s m below meth c A hm hnm hw ls hl
  have hl : lv_has ls 1 [(0, .ref md)] := hl
  have hx := hm.1
  have hb := hm.2.1
  have hown := hm.2.2.2.2.1
  have hts := hm.2.2.2.2.2.1
  refine lv_aload_n hx hb d_Md_thrown_0 rfl (lv_at hl 0 rfl) ?_
  refine b_get (T := F_Md) hm hw 0 rfl rfl (fun w h => uw_of w (u_Md w h)) 0 (by decide) (uw_of _ k_608) rfl d_Md_thrown_1 ?_
  exact b_iret () hm hw rfl d_Md_thrown_4

set_option maxHeartbeats 4000000 in
set_option maxRecDepth 100000 in
theorem c_Md_standOf (l : Launch) (D : va_G) (k : Nat → ClassId) (sz : Nat) (st kk : Nat) (hs : st < 2147483648) (hk : kk < 3) : Met l y_Md_standOf (uw y_Md_standOf b_Md_standOf 2 (some .int)) (rU 0 0 0) (va_Pc [.int (nI st), .int (nI kk)] (bP (gU D k) [] sz)) (va_Qi (fun (r : Int32) (_ : Unit) => r = nI (dg st kk)) (fun u => bQ (gU D k) (va_A [] sz) ([])) (va_A [] sz)) (rU 0 0 0).cells (rU 0 0 0).slots (va_A [] sz) := by
  refine b_start (y := y_Md_standOf) (maxL := 2) (ret := (some .int)) (cc := b_Md_standOf) (ws' := ut) (rm := rU 0 0 0) (av := [.int (nI st), .int (nI kk)]) (g := gU D k) (ws := []) (sz := sz) (Qc := fun A => va_Qi (fun (r : Int32) (_ : Unit) => r = nI (dg st kk)) (fun u => bQ (gU D k) A ([])) A) (by decide +kernel) (Nat.le_of_ble_eq_true rfl) ?_
  intro p e s m below meth c A hm hnm hw ls hl
  have hl : lv_has ls 2 [(0, .int (nI st)), (1, .int (nI kk))] := hl
  have hx := hm.1
  have hb := hm.2.1
  have hown := hm.2.2.2.2.1
  have hts := hm.2.2.2.2.2.1
  refine lv_iload_n hx hb d_Md_standOf_0 rfl (lv_at hl 0 rfl) ?_
  refine lv_iconst (v := nI 3) hx hb d_Md_standOf_1 (by decide) ?_
  refine lv_iload_n hx hb d_Md_standOf_2 rfl (lv_at hl 1 rfl) ?_
  refine lv_imul hx hb d_Md_standOf_3 ?_
  refine b_ti (pk_mul 3 kk) ?_
  refine lv_ishr hx hb d_Md_standOf_4 ?_
  refine b_ti (nI_shr (a := st) (b := 3 * kk) (by omega) (by omega)) ?_
  refine lv_bipush (v := nI 7) hx hb d_Md_standOf_5 (by decide) ?_
  refine lv_iand hx hb d_Md_standOf_7 ?_
  refine b_ti (nI_and (st / 2 ^ (3 * kk)) 7) ?_
  exact b_iret () hm hw (by rw [dg_eq]) d_Md_standOf_8

set_option maxHeartbeats 4000000 in
set_option maxRecDepth 100000 in
theorem c_Md_runs (l : Launch) (D : va_G) (k : Nat → ClassId) (sz : Nat) (set kk : Nat) (hs : set < 2147483648) (hk : kk < 3) : Met l y_Md_runs (uw y_Md_runs b_Md_runs 2 (some .boolean)) (rU 0 0 0) (va_Pc [.int (nI set), .int (nI kk)] (bP (gU D k) [] sz)) (va_Qi (fun (r : Int32) (_ : Unit) => r = bI (on set kk)) (fun u => bQ (gU D k) (va_A [] sz) ([])) (va_A [] sz)) (rU 0 0 0).cells (rU 0 0 0).slots (va_A [] sz) := by
  refine b_start (y := y_Md_runs) (maxL := 2) (ret := (some .boolean)) (cc := b_Md_runs) (ws' := ut) (rm := rU 0 0 0) (av := [.int (nI set), .int (nI kk)]) (g := gU D k) (ws := []) (sz := sz) (Qc := fun A => va_Qi (fun (r : Int32) (_ : Unit) => r = bI (on set kk)) (fun u => bQ (gU D k) A ([])) A) (by decide +kernel) (Nat.le_of_ble_eq_true rfl) ?_
  intro p e s m below meth c A hm hnm hw ls hl
  have hl : lv_has ls 2 [(0, .int (nI set)), (1, .int (nI kk))] := hl
  have hx := hm.1
  have hb := hm.2.1
  have hown := hm.2.2.2.2.1
  have hts := hm.2.2.2.2.2.1
  refine lv_iload_n hx hb d_Md_runs_0 rfl (lv_at hl 0 rfl) ?_
  refine lv_iload_n hx hb d_Md_runs_1 rfl (lv_at hl 1 rfl) ?_
  refine lv_ishr hx hb d_Md_runs_2 ?_
  refine b_ti (nI_shr (a := set) (b := kk) (by omega) (by omega)) ?_
  refine lv_iconst (v := nI 1) hx hb d_Md_runs_3 (by decide) ?_
  have hb1 : (set / 2 ^ kk) &&& 1 < 2 := by rw [and1]; omega
  refine lv_iand hx hb d_Md_runs_4 ?_
  refine b_ti (nI_and (set / 2 ^ kk) 1) ?_
  refine lv_iconst (v := nI 1) hx hb d_Md_runs_5 (by decide) ?_
  refine lv_icmp_ne (tgt := 13) hx hb d_Md_runs_6 (by decide) (fun c_6_0 => ?_) (fun c_6_0 => ?_)
  · skip
    have h_6_0 : ((set / 2 ^ kk) &&& 1) ≠ 1 := yne c_6_0 (by omega) (by omega)
    refine lv_iconst (v := nI 0) hx hb d_Md_runs_13 (by decide) ?_
    exact b_zret () hm hw (Or.inl rfl) (by rw [on_eq (by omega)]; rfl) d_Md_runs_14
  · skip
    have h_6_0 : ((set / 2 ^ kk) &&& 1) = 1 := yeq c_6_0 (by omega) (by omega)
    refine lv_iconst (v := nI 1) hx hb d_Md_runs_9 (by decide) ?_
    refine lv_goto (tgt := 14) hx hb d_Md_runs_10 (by decide) ?_
    exact b_zret () hm hw (Or.inr rfl) (by rw [on_ne (by omega)]; rfl) d_Md_runs_14

set_option maxHeartbeats 4000000 in
set_option maxRecDepth 100000 in
theorem c_Md_quotient (l : Launch) (D : va_G) (k : Nat → ClassId) (sz : Nat) (x y : Int64) (up : Int32) (hy : ¬ y = 0) : Met l y_Md_quotient (uw y_Md_quotient b_Md_quotient 9 (some .long)) (rU 0 0 0) (va_Pc [.long x, .long y, .int up] (bP (gU D k) [] sz)) (va_Ql (fun (r : Int64) (_ : Unit) => r = qtD x y up) (fun u => bQ (gU D k) (va_A [] sz) ([])) (va_A [] sz)) (rU 0 0 0).cells (rU 0 0 0).slots (va_A [] sz) := by
  refine b_start (y := y_Md_quotient) (maxL := 9) (ret := (some .long)) (cc := b_Md_quotient) (ws' := ut) (rm := rU 0 0 0) (av := [.long x, .long y, .int up]) (g := gU D k) (ws := []) (sz := sz) (Qc := fun A => va_Ql (fun (r : Int64) (_ : Unit) => r = qtD x y up) (fun u => bQ (gU D k) A ([])) A) (by decide +kernel) (Nat.le_of_ble_eq_true rfl) ?_
  intro p e s m below meth c A hm hnm hw ls hl
  have hl : lv_has ls 9 [(0, .long x), (2, .long y), (4, .int up)] := hl
  have hx := hm.1
  have hb := hm.2.1
  have hown := hm.2.2.2.2.1
  have hts := hm.2.2.2.2.2.1
  refine lv_lload_n hx hb d_Md_quotient_0 rfl (lv_at hl 0 rfl) ?_
  refine lv_lload_n hx hb d_Md_quotient_1 rfl (lv_at hl 1 rfl) ?_
  refine lv_ldiv hx hb d_Md_quotient_2 (by first | assumption | decide) ?_
  refine lv_lstore (lv' := [(5, .long (x / y)), (0, .long x), (2, .long y), (4, .int up)]) hx hb d_Md_quotient_3  hl (by decide) rfl (fun ls hl => ?_)
  refine lv_lload_n hx hb d_Md_quotient_5 rfl (lv_at hl 1 rfl) ?_
  refine lv_lload_n hx hb d_Md_quotient_6 rfl (lv_at hl 2 rfl) ?_
  refine lv_lrem hx hb d_Md_quotient_7 (by first | assumption | decide) ?_
  refine lv_lstore (lv' := [(7, .long (x - x / y * y)), (5, .long (x / y)), (0, .long x), (2, .long y), (4, .int up)]) hx hb d_Md_quotient_8  hl (by decide) rfl (fun ls hl => ?_)
  refine lv_iload hx hb d_Md_quotient_10 (lv_at hl 4 rfl) ?_
  refine lv_if_eq (tgt := 34) hx hb d_Md_quotient_12 (by decide) (fun c_12_0 => ?_) (fun c_12_0 => ?_)
  · skip
    refine lv_lload hx hb d_Md_quotient_34 (lv_at hl 0 rfl) ?_
    refine lv_lconst (v := 0) hx hb d_Md_quotient_36 (by decide) ?_
    refine W.lcmp hx hb d_Md_quotient_37 ?_
    refine lv_if_ge (tgt := 48) hx hb d_Md_quotient_38 (by decide) (fun c_38_1 => ?_) (fun c_38_1 => ?_)
    · skip
      refine lv_lload hx hb d_Md_quotient_48 (lv_at hl 1 rfl) ?_
      exact b_lret () hm hw (by unfold qtD; grind) d_Md_quotient_50
    · skip
      refine lv_lload hx hb d_Md_quotient_41 (lv_at hl 1 rfl) ?_
      refine lv_lconst (v := 1) hx hb d_Md_quotient_43 (by decide) ?_
      refine lv_lsub hx hb d_Md_quotient_44 ?_
      refine lv_goto (tgt := 50) hx hb d_Md_quotient_45 (by decide) ?_
      exact b_lret () hm hw (by unfold qtD; grind) d_Md_quotient_50
  · skip
    refine lv_lload hx hb d_Md_quotient_15 (lv_at hl 0 rfl) ?_
    refine lv_lconst (v := 0) hx hb d_Md_quotient_17 (by decide) ?_
    refine W.lcmp hx hb d_Md_quotient_18 ?_
    refine lv_if_le (tgt := 29) hx hb d_Md_quotient_19 (by decide) (fun c_19_2 => ?_) (fun c_19_2 => ?_)
    · skip
      refine lv_lload hx hb d_Md_quotient_29 (lv_at hl 1 rfl) ?_
      refine lv_goto (tgt := 50) hx hb d_Md_quotient_31 (by decide) ?_
      exact b_lret () hm hw (by unfold qtD; grind) d_Md_quotient_50
    · skip
      refine lv_lload hx hb d_Md_quotient_22 (lv_at hl 1 rfl) ?_
      refine lv_lconst (v := 1) hx hb d_Md_quotient_24 (by decide) ?_
      refine lv_ladd hx hb d_Md_quotient_25 ?_
      refine lv_goto (tgt := 50) hx hb d_Md_quotient_26 (by decide) ?_
      exact b_lret () hm hw (by unfold qtD; grind) d_Md_quotient_50

set_option maxHeartbeats 4000000 in
set_option maxRecDepth 100000 in
theorem lp_Md_given {l : Launch} {D : va_G} {k : Nat → ClassId} {md : Nat} {za : Nat → Nat} {th cn ov sn kn fd : Nat} {cst : Int64} {co tb : Nat} {RW : Nat → Nat} {RO : Nat → Int32} {RH : Nat → Int32} {RP : Nat → Int32} {mm : Nat} {x up : Int32} (hmm : mm < 3) (hr8 : RW mm ≤ 8) {p : Program} {e : Env} {s : State} {m : MethodId} {below : List Frame} {meth : Method} {c : Code} {A : Nat → Prop} (hm : bM p s m (([.ref md, .int (nI mm), .int x, .int up] : List Value).toArray) meth c "HeatMachinesModel" b_Md_given 7 (some .int) (uw y_Md_given b_Md_given 7 (some .int))) (hnm : meth.name = "given") :
    ∀ (f : Nat) (j : Nat), RW mm + 1 ≤ j + f → j ≤ RW mm → gvN (fun j => RO (8 * mm + j)) (RW mm) x j → ∀ (H : Heap) (locs : List Loc) (ls : Array Slot), bW (gU D k) A s H locs [(md, .inr (7, mdL za th cn ov sn kn fd cst co tb)), (za 5, .inl (k 0, 3, .inl (fun j => nI (RW j)))), (za 6, .inl (k 0, 24, .inl RO)), (za 7, .inl (k 0, 24, .inl RH)), (za 8, .inl (k 0, 24, .inl RP))] → lv_has ls 7 [(4, .int (nI (8 * mm + j))), (0, .ref md), (1, .int (nI mm)), (2, .int x), (3, .int up)] → W p l e (rU 1 0 0) s m (([.ref md, .int (nI mm), .int x, .int up] : List Value).toArray) below meth c H locs 0 0 (MQ below (va_Qi (fun (r : Int32) (_ : Unit) => gvR (fun j => RO (8 * mm + j)) (fun j => if up = 0 then RH (8 * mm + j) else RP (8 * mm + j)) (RW mm) x up r) (fun u => bQ (gU D k) A ([(md, .inr (7, mdL za th cn ov sn kn fd cst co tb)), (za 5, .inl (k 0, 3, .inl (fun j => nI (RW j)))), (za 6, .inl (k 0, 24, .inl RO)), (za 7, .inl (k 0, 24, .inl RH)), (za 8, .inl (k 0, 24, .inl RP))])) A) (([.ref md, .int (nI mm), .int x, .int up] : List Value).toArray) s (rU 1 0 0).cells (rU 1 0 0).slots A) (F0 m 6 ls []) := by
  have hx := hm.1
  have hb := hm.2.1
  have hown := hm.2.2.2.2.1
  have hts := hm.2.2.2.2.2.1
  intro f
  induction f with
  | zero => intro j hf hj hN; exfalso; omega
  | succ f ih =>
    intro j hf hj hN H locs ls hw hl
    refine lv_iload hx hb d_Md_given_6 (lv_at hl 0 rfl) ?_
    refine lv_bipush (v := nI 8) hx hb d_Md_given_8 (by decide) ?_
    refine lv_iload_n hx hb d_Md_given_10 rfl (lv_at hl 2 rfl) ?_
    refine lv_imul hx hb d_Md_given_11 ?_
    refine b_ti (pk_mul 8 mm) ?_
    refine lv_aload_n hx hb d_Md_given_12 rfl (lv_at hl 1 rfl) ?_
    refine b_get (T := F_Md) hm hw 0 rfl rfl (fun w h => uw_of w (u_Md w h)) 5 (by decide) (uw_of _ k_613) rfl d_Md_given_13 ?_
    refine lv_iload_n hx hb d_Md_given_16 rfl (lv_at hl 2 rfl) ?_
    refine b_iald (i := mm) hm hw 1 0 rfl rfl (by omega) (by omega) d_Md_given_17 ?_
    refine b_ti (show (fun j => nI (RW j)) mm = nI (RW mm) from rfl) ?_
    refine lv_iadd hx hb d_Md_given_18 ?_
    refine b_ti (nI_add (8 * mm) (RW mm)) ?_
    refine lv_icmp_ge (tgt := 179) hx hb d_Md_given_19 (by decide) (fun c_19_0 => ?_) (fun c_19_0 => ?_)
    · skip
      have h_19_0 : (8 * mm + (RW mm)) ≤ (8 * mm + j) := yge c_19_0 (by omega) (by omega)
      refine lv_iconst (v := (-1)) hx hb d_Md_given_179 (by decide) ?_
      exact b_iret () hm hw (by unfold gvR gvB; simp only [Nat.add_assoc] at *; grind) d_Md_given_180
    · skip
      have h_19_0 : (8 * mm + j) < (8 * mm + (RW mm)) := yltN c_19_0 (by omega) (by omega)
      refine lv_iload_n hx hb d_Md_given_22 rfl (lv_at hl 4 rfl) ?_
      refine lv_if_eq (tgt := 36) hx hb d_Md_given_23 (by decide) (fun c_23_1 => ?_) (fun c_23_1 => ?_)
      · skip
        refine lv_aload_n hx hb d_Md_given_36 rfl (lv_at hl 1 rfl) ?_
        refine b_get (T := F_Md) hm hw 0 rfl rfl (fun w h => uw_of w (u_Md w h)) 7 (by decide) (uw_of _ k_615) rfl d_Md_given_37 ?_
        refine lv_iload hx hb d_Md_given_40 (lv_at hl 0 rfl) ?_
        refine b_iald (i := 8 * mm + j) hm hw 3 0 rfl rfl (by omega) (by omega) d_Md_given_42 ?_
        refine lv_istore (lv' := [(5, .int (RH (8 * mm + j))), (4, .int (nI (8 * mm + j))), (0, .ref md), (1, .int (nI mm)), (2, .int x), (3, .int up)]) hx hb d_Md_given_43  hl (by decide) rfl (fun ls hl => ?_)
        refine lv_aload_n hx hb d_Md_given_45 rfl (lv_at hl 2 rfl) ?_
        refine b_get (T := F_Md) hm hw 0 rfl rfl (fun w h => uw_of w (u_Md w h)) 6 (by decide) (uw_of _ k_614) rfl d_Md_given_46 ?_
        refine lv_iload hx hb d_Md_given_49 (lv_at hl 1 rfl) ?_
        refine b_iald (i := 8 * mm + j) hm hw 2 0 rfl rfl (by omega) (by omega) d_Md_given_51 ?_
        refine lv_iload_n hx hb d_Md_given_52 rfl (lv_at hl 4 rfl) ?_
        refine lv_icmp_ne (tgt := 59) hx hb d_Md_given_53 (by decide) (fun c_53_2 => ?_) (fun c_53_2 => ?_)
        · skip
          refine lv_iload hx hb d_Md_given_59 (lv_at hl 1 rfl) ?_
          refine lv_iconst (v := nI 1) hx hb d_Md_given_61 (by decide) ?_
          refine lv_iadd hx hb d_Md_given_62 ?_
          refine b_ti (nI_add (8 * mm + j) 1) ?_
          refine lv_bipush (v := nI 8) hx hb d_Md_given_63 (by decide) ?_
          refine lv_iload_n hx hb d_Md_given_65 rfl (lv_at hl 3 rfl) ?_
          refine lv_imul hx hb d_Md_given_66 ?_
          refine b_ti (pk_mul 8 mm) ?_
          refine lv_aload_n hx hb d_Md_given_67 rfl (lv_at hl 2 rfl) ?_
          refine b_get (T := F_Md) hm hw 0 rfl rfl (fun w h => uw_of w (u_Md w h)) 5 (by decide) (uw_of _ k_613) rfl d_Md_given_68 ?_
          refine lv_iload_n hx hb d_Md_given_71 rfl (lv_at hl 3 rfl) ?_
          refine b_iald (i := mm) hm hw 1 0 rfl rfl (by omega) (by omega) d_Md_given_72 ?_
          refine b_ti (show (fun j => nI (RW j)) mm = nI (RW mm) from rfl) ?_
          refine lv_iadd hx hb d_Md_given_73 ?_
          refine b_ti (nI_add (8 * mm) (RW mm)) ?_
          refine lv_icmp_ge (tgt := 173) hx hb d_Md_given_74 (by decide) (fun c_74_3 => ?_) (fun c_74_3 => ?_)
          · skip
            have h_74_3 : (8 * mm + (RW mm)) ≤ (8 * mm + j + 1) := yge c_74_3 (by omega) (by omega)
            refine lv_iinc (v := nI (8 * mm + j + 1)) (lv' := [(4, .int (nI (8 * mm + j + 1))), (5, .int (RH (8 * mm + j))), (0, .ref md), (1, .int (nI mm)), (2, .int x), (3, .int up)]) hx hb d_Md_given_173 hl (k := 1) rfl (nI_add (8 * mm + j) 1) (by decide) rfl (fun ls hl => ?_)
            refine lv_goto (tgt := 6) hx hb d_Md_given_176 (by decide) ?_
            exact ih (j + 1) (by omega) (by omega) (by unfold gvN at hN ⊢; intro i hi; rcases Nat.lt_or_ge i j with q | q; exact hN i q; obtain rfl : i = j := (by omega); simp only [Nat.add_assoc] at *; grind) H locs ls hw (lv_sub hl [0, 2, 3, 4, 5] rfl)
          · skip
            have h_74_3 : (8 * mm + j + 1) < (8 * mm + (RW mm)) := yltN c_74_3 (by omega) (by omega)
            refine lv_iload_n hx hb d_Md_given_77 rfl (lv_at hl 4 rfl) ?_
            refine lv_aload_n hx hb d_Md_given_78 rfl (lv_at hl 2 rfl) ?_
            refine b_get (T := F_Md) hm hw 0 rfl rfl (fun w h => uw_of w (u_Md w h)) 6 (by decide) (uw_of _ k_614) rfl d_Md_given_79 ?_
            refine lv_iload hx hb d_Md_given_82 (lv_at hl 1 rfl) ?_
            refine b_iald (i := 8 * mm + j) hm hw 2 0 rfl rfl (by omega) (by omega) d_Md_given_84 ?_
            refine lv_icmp_le (tgt := 173) hx hb d_Md_given_85 (by decide) (fun c_85_4 => ?_) (fun c_85_4 => ?_)
            · skip
              refine lv_iinc (v := nI (8 * mm + j + 1)) (lv' := [(4, .int (nI (8 * mm + j + 1))), (5, .int (RH (8 * mm + j))), (0, .ref md), (1, .int (nI mm)), (2, .int x), (3, .int up)]) hx hb d_Md_given_173 hl (k := 1) rfl (nI_add (8 * mm + j) 1) (by decide) rfl (fun ls hl => ?_)
              refine lv_goto (tgt := 6) hx hb d_Md_given_176 (by decide) ?_
              exact ih (j + 1) (by omega) (by omega) (by unfold gvN at hN ⊢; intro i hi; rcases Nat.lt_or_ge i j with q | q; exact hN i q; obtain rfl : i = j := (by omega); simp only [Nat.add_assoc] at *; grind) H locs ls hw (lv_sub hl [0, 2, 3, 4, 5] rfl)
            · skip
              refine lv_iload_n hx hb d_Md_given_88 rfl (lv_at hl 4 rfl) ?_
              refine lv_aload_n hx hb d_Md_given_89 rfl (lv_at hl 2 rfl) ?_
              refine b_get (T := F_Md) hm hw 0 rfl rfl (fun w h => uw_of w (u_Md w h)) 6 (by decide) (uw_of _ k_614) rfl d_Md_given_90 ?_
              refine lv_iload hx hb d_Md_given_93 (lv_at hl 1 rfl) ?_
              refine lv_iconst (v := nI 1) hx hb d_Md_given_95 (by decide) ?_
              refine lv_iadd hx hb d_Md_given_96 ?_
              refine b_ti (nI_add (8 * mm + j) 1) ?_
              refine b_iald (i := 8 * mm + j + 1) hm hw 2 0 rfl rfl (by omega) (by omega) d_Md_given_97 ?_
              refine lv_icmp_ge (tgt := 173) hx hb d_Md_given_98 (by decide) (fun c_98_5 => ?_) (fun c_98_5 => ?_)
              · skip
                refine lv_iinc (v := nI (8 * mm + j + 1)) (lv' := [(4, .int (nI (8 * mm + j + 1))), (5, .int (RH (8 * mm + j))), (0, .ref md), (1, .int (nI mm)), (2, .int x), (3, .int up)]) hx hb d_Md_given_173 hl (k := 1) rfl (nI_add (8 * mm + j) 1) (by decide) rfl (fun ls hl => ?_)
                refine lv_goto (tgt := 6) hx hb d_Md_given_176 (by decide) ?_
                exact ih (j + 1) (by omega) (by omega) (by unfold gvN at hN ⊢; intro i hi; rcases Nat.lt_or_ge i j with q | q; exact hN i q; obtain rfl : i = j := (by omega); simp only [Nat.add_assoc] at *; grind) H locs ls hw (lv_sub hl [0, 2, 3, 4, 5] rfl)
              · skip
                refine lv_iload_n hx hb d_Md_given_101 rfl (lv_at hl 5 rfl) ?_
                refine lv_if_eq (tgt := 117) hx hb d_Md_given_102 (by decide) (fun c_102_6 => ?_) (fun c_102_6 => ?_)
                · skip
                  refine lv_aload_n hx hb d_Md_given_117 rfl (lv_at hl 2 rfl) ?_
                  refine b_get (T := F_Md) hm hw 0 rfl rfl (fun w h => uw_of w (u_Md w h)) 7 (by decide) (uw_of _ k_615) rfl d_Md_given_118 ?_
                  refine lv_iload hx hb d_Md_given_121 (lv_at hl 1 rfl) ?_
                  refine lv_iconst (v := nI 1) hx hb d_Md_given_123 (by decide) ?_
                  refine lv_iadd hx hb d_Md_given_124 ?_
                  refine b_ti (nI_add (8 * mm + j) 1) ?_
                  refine b_iald (i := 8 * mm + j + 1) hm hw 3 0 rfl rfl (by omega) (by omega) d_Md_given_125 ?_
                  refine lv_istore (lv' := [(6, .int (RH (8 * mm + j + 1))), (5, .int (RH (8 * mm + j))), (4, .int (nI (8 * mm + j))), (0, .ref md), (1, .int (nI mm)), (2, .int x), (3, .int up)]) hx hb d_Md_given_126  hl (by decide) rfl (fun ls hl => ?_)
                  refine lv_iload hx hb d_Md_given_128 (lv_at hl 1 rfl) ?_
                  refine lv_i2l (v := (RH (8 * mm + j)).toInt64) hx hb d_Md_given_130 rfl ?_
                  refine lv_iload hx hb d_Md_given_131 (lv_at hl 0 rfl) ?_
                  refine lv_iload hx hb d_Md_given_133 (lv_at hl 1 rfl) ?_
                  refine lv_isub hx hb d_Md_given_135 ?_
                  refine lv_i2l (v := ((RH (8 * mm + j + 1)) - (RH (8 * mm + j))).toInt64) hx hb d_Md_given_136 rfl ?_
                  refine lv_iload_n hx hb d_Md_given_137 rfl (lv_at hl 5 rfl) ?_
                  refine lv_aload_n hx hb d_Md_given_138 rfl (lv_at hl 3 rfl) ?_
                  refine b_get (T := F_Md) hm hw 0 rfl rfl (fun w h => uw_of w (u_Md w h)) 6 (by decide) (uw_of _ k_614) rfl d_Md_given_139 ?_
                  refine lv_iload hx hb d_Md_given_142 (lv_at hl 2 rfl) ?_
                  refine b_iald (i := 8 * mm + j) hm hw 2 0 rfl rfl (by omega) (by omega) d_Md_given_144 ?_
                  refine lv_isub hx hb d_Md_given_145 ?_
                  refine lv_i2l (v := (x - (RO (8 * mm + j))).toInt64) hx hb d_Md_given_146 rfl ?_
                  refine lv_lmul hx hb d_Md_given_147 ?_
                  refine lv_aload_n hx hb d_Md_given_148 rfl (lv_at hl 3 rfl) ?_
                  refine b_get (T := F_Md) hm hw 0 rfl rfl (fun w h => uw_of w (u_Md w h)) 6 (by decide) (uw_of _ k_614) rfl d_Md_given_149 ?_
                  refine lv_iload hx hb d_Md_given_152 (lv_at hl 2 rfl) ?_
                  refine lv_iconst (v := nI 1) hx hb d_Md_given_154 (by decide) ?_
                  refine lv_iadd hx hb d_Md_given_155 ?_
                  refine b_ti (nI_add (8 * mm + j) 1) ?_
                  refine b_iald (i := 8 * mm + j + 1) hm hw 2 0 rfl rfl (by omega) (by omega) d_Md_given_156 ?_
                  refine lv_aload_n hx hb d_Md_given_157 rfl (lv_at hl 3 rfl) ?_
                  refine b_get (T := F_Md) hm hw 0 rfl rfl (fun w h => uw_of w (u_Md w h)) 6 (by decide) (uw_of _ k_614) rfl d_Md_given_158 ?_
                  refine lv_iload hx hb d_Md_given_161 (lv_at hl 2 rfl) ?_
                  refine b_iald (i := 8 * mm + j) hm hw 2 0 rfl rfl (by omega) (by omega) d_Md_given_163 ?_
                  refine lv_isub hx hb d_Md_given_164 ?_
                  refine lv_i2l (v := ((RO (8 * mm + j + 1)) - (RO (8 * mm + j))).toInt64) hx hb d_Md_given_165 rfl ?_
                  refine lv_iload_n hx hb d_Md_given_166 rfl (lv_at hl 6 rfl) ?_
                  refine b_gol (wr := [(md, .inr (7, mdL za th cn ov sn kn fd cst co tb)), (za 5, .inl (k 0, 3, .inl (fun j => nI (RW j)))), (za 6, .inl (k 0, 24, .inl RO)), (za 7, .inl (k 0, 24, .inl RH)), (za 8, .inl (k 0, 24, .inl RP))]) (b_runS (wc := []) (As := [.long ((((RH (8 * mm + j + 1)) - (RH (8 * mm + j))).toInt64) * ((x - (RO (8 * mm + j))).toInt64)), .long (((RO (8 * mm + j + 1)) - (RO (8 * mm + j))).toInt64), .int up]) (rest := [.long ((RH (8 * mm + j)).toInt64)]) hm hw (va_cwS 3 hts (gS2 uw_of k_761 k_759 k_760 k_9) rfl rfl rfl (by decide +kernel) ⟨by decide, by decide⟩) (c_Md_quotient l D k _ ((((RH (8 * mm + j + 1)) - (RH (8 * mm + j))).toInt64) * ((x - (RO (8 * mm + j))).toInt64)) (((RO (8 * mm + j + 1)) - (RO (8 * mm + j))).toInt64) up (sub_ne (by assumption) (by assumption))) [] (by decide) rfl rfl hl.1 rfl (Nat.le_of_ble_eq_true rfl) d_Md_given_167 ⟨by decide, by decide⟩) hw [] [0, 1, 2, 3, 4] rfl rfl (by decide) (by decide) (fun r167 _ H locs hp hw => ?_)
                  have hw : bW (gU D k) A s H locs [(md, .inr (7, mdL za th cn ov sn kn fd cst co tb)), (za 5, .inl (k 0, 3, .inl (fun j => nI (RW j)))), (za 6, .inl (k 0, 24, .inl RO)), (za 7, .inl (k 0, 24, .inl RH)), (za 8, .inl (k 0, 24, .inl RP))] := hw.sub [0, 1, 2, 3, 4] (by decide) rfl
                  refine lv_ladd hx hb d_Md_given_170 ?_
                  refine lv_l2i (v := (((RH (8 * mm + j)).toInt64) + r167).toInt32) hx hb d_Md_given_171 rfl ?_
                  exact b_iret () hm hw (by unfold gvR gvB; simp only [Nat.add_assoc] at *; grind) d_Md_given_172
                · skip
                  refine lv_aload_n hx hb d_Md_given_105 rfl (lv_at hl 2 rfl) ?_
                  refine b_get (T := F_Md) hm hw 0 rfl rfl (fun w h => uw_of w (u_Md w h)) 8 (by decide) (uw_of _ k_616) rfl d_Md_given_106 ?_
                  refine lv_iload hx hb d_Md_given_109 (lv_at hl 1 rfl) ?_
                  refine lv_iconst (v := nI 1) hx hb d_Md_given_111 (by decide) ?_
                  refine lv_iadd hx hb d_Md_given_112 ?_
                  refine b_ti (nI_add (8 * mm + j) 1) ?_
                  refine b_iald (i := 8 * mm + j + 1) hm hw 4 0 rfl rfl (by omega) (by omega) d_Md_given_113 ?_
                  refine lv_goto (tgt := 126) hx hb d_Md_given_114 (by decide) ?_
                  refine lv_istore (lv' := [(6, .int (RP (8 * mm + j + 1))), (5, .int (RH (8 * mm + j))), (4, .int (nI (8 * mm + j))), (0, .ref md), (1, .int (nI mm)), (2, .int x), (3, .int up)]) hx hb d_Md_given_126  hl (by decide) rfl (fun ls hl => ?_)
                  refine lv_iload hx hb d_Md_given_128 (lv_at hl 1 rfl) ?_
                  refine lv_i2l (v := (RH (8 * mm + j)).toInt64) hx hb d_Md_given_130 rfl ?_
                  refine lv_iload hx hb d_Md_given_131 (lv_at hl 0 rfl) ?_
                  refine lv_iload hx hb d_Md_given_133 (lv_at hl 1 rfl) ?_
                  refine lv_isub hx hb d_Md_given_135 ?_
                  refine lv_i2l (v := ((RP (8 * mm + j + 1)) - (RH (8 * mm + j))).toInt64) hx hb d_Md_given_136 rfl ?_
                  refine lv_iload_n hx hb d_Md_given_137 rfl (lv_at hl 5 rfl) ?_
                  refine lv_aload_n hx hb d_Md_given_138 rfl (lv_at hl 3 rfl) ?_
                  refine b_get (T := F_Md) hm hw 0 rfl rfl (fun w h => uw_of w (u_Md w h)) 6 (by decide) (uw_of _ k_614) rfl d_Md_given_139 ?_
                  refine lv_iload hx hb d_Md_given_142 (lv_at hl 2 rfl) ?_
                  refine b_iald (i := 8 * mm + j) hm hw 2 0 rfl rfl (by omega) (by omega) d_Md_given_144 ?_
                  refine lv_isub hx hb d_Md_given_145 ?_
                  refine lv_i2l (v := (x - (RO (8 * mm + j))).toInt64) hx hb d_Md_given_146 rfl ?_
                  refine lv_lmul hx hb d_Md_given_147 ?_
                  refine lv_aload_n hx hb d_Md_given_148 rfl (lv_at hl 3 rfl) ?_
                  refine b_get (T := F_Md) hm hw 0 rfl rfl (fun w h => uw_of w (u_Md w h)) 6 (by decide) (uw_of _ k_614) rfl d_Md_given_149 ?_
                  refine lv_iload hx hb d_Md_given_152 (lv_at hl 2 rfl) ?_
                  refine lv_iconst (v := nI 1) hx hb d_Md_given_154 (by decide) ?_
                  refine lv_iadd hx hb d_Md_given_155 ?_
                  refine b_ti (nI_add (8 * mm + j) 1) ?_
                  refine b_iald (i := 8 * mm + j + 1) hm hw 2 0 rfl rfl (by omega) (by omega) d_Md_given_156 ?_
                  refine lv_aload_n hx hb d_Md_given_157 rfl (lv_at hl 3 rfl) ?_
                  refine b_get (T := F_Md) hm hw 0 rfl rfl (fun w h => uw_of w (u_Md w h)) 6 (by decide) (uw_of _ k_614) rfl d_Md_given_158 ?_
                  refine lv_iload hx hb d_Md_given_161 (lv_at hl 2 rfl) ?_
                  refine b_iald (i := 8 * mm + j) hm hw 2 0 rfl rfl (by omega) (by omega) d_Md_given_163 ?_
                  refine lv_isub hx hb d_Md_given_164 ?_
                  refine lv_i2l (v := ((RO (8 * mm + j + 1)) - (RO (8 * mm + j))).toInt64) hx hb d_Md_given_165 rfl ?_
                  refine lv_iload_n hx hb d_Md_given_166 rfl (lv_at hl 6 rfl) ?_
                  refine b_gol (wr := [(md, .inr (7, mdL za th cn ov sn kn fd cst co tb)), (za 5, .inl (k 0, 3, .inl (fun j => nI (RW j)))), (za 6, .inl (k 0, 24, .inl RO)), (za 7, .inl (k 0, 24, .inl RH)), (za 8, .inl (k 0, 24, .inl RP))]) (b_runS (wc := []) (As := [.long ((((RP (8 * mm + j + 1)) - (RH (8 * mm + j))).toInt64) * ((x - (RO (8 * mm + j))).toInt64)), .long (((RO (8 * mm + j + 1)) - (RO (8 * mm + j))).toInt64), .int up]) (rest := [.long ((RH (8 * mm + j)).toInt64)]) hm hw (va_cwS 3 hts (gS2 uw_of k_761 k_759 k_760 k_9) rfl rfl rfl (by decide +kernel) ⟨by decide, by decide⟩) (c_Md_quotient l D k _ ((((RP (8 * mm + j + 1)) - (RH (8 * mm + j))).toInt64) * ((x - (RO (8 * mm + j))).toInt64)) (((RO (8 * mm + j + 1)) - (RO (8 * mm + j))).toInt64) up (sub_ne (by assumption) (by assumption))) [] (by decide) rfl rfl hl.1 rfl (Nat.le_of_ble_eq_true rfl) d_Md_given_167 ⟨by decide, by decide⟩) hw [] [0, 1, 2, 3, 4] rfl rfl (by decide) (by decide) (fun r167 _ H locs hp hw => ?_)
                  have hw : bW (gU D k) A s H locs [(md, .inr (7, mdL za th cn ov sn kn fd cst co tb)), (za 5, .inl (k 0, 3, .inl (fun j => nI (RW j)))), (za 6, .inl (k 0, 24, .inl RO)), (za 7, .inl (k 0, 24, .inl RH)), (za 8, .inl (k 0, 24, .inl RP))] := hw.sub [0, 1, 2, 3, 4] (by decide) rfl
                  refine lv_ladd hx hb d_Md_given_170 ?_
                  refine lv_l2i (v := (((RH (8 * mm + j)).toInt64) + r167).toInt32) hx hb d_Md_given_171 rfl ?_
                  exact b_iret () hm hw (by unfold gvR gvB; simp only [Nat.add_assoc] at *; grind) d_Md_given_172
        · skip
          refine lv_iload hx hb d_Md_given_56 (lv_at hl 0 rfl) ?_
          exact b_iret () hm hw (by unfold gvR gvB; simp only [Nat.add_assoc] at *; grind) d_Md_given_58
      · skip
        refine lv_aload_n hx hb d_Md_given_26 rfl (lv_at hl 1 rfl) ?_
        refine b_get (T := F_Md) hm hw 0 rfl rfl (fun w h => uw_of w (u_Md w h)) 8 (by decide) (uw_of _ k_616) rfl d_Md_given_27 ?_
        refine lv_iload hx hb d_Md_given_30 (lv_at hl 0 rfl) ?_
        refine b_iald (i := 8 * mm + j) hm hw 4 0 rfl rfl (by omega) (by omega) d_Md_given_32 ?_
        refine lv_goto (tgt := 43) hx hb d_Md_given_33 (by decide) ?_
        refine lv_istore (lv' := [(5, .int (RP (8 * mm + j))), (4, .int (nI (8 * mm + j))), (0, .ref md), (1, .int (nI mm)), (2, .int x), (3, .int up)]) hx hb d_Md_given_43  hl (by decide) rfl (fun ls hl => ?_)
        refine lv_aload_n hx hb d_Md_given_45 rfl (lv_at hl 2 rfl) ?_
        refine b_get (T := F_Md) hm hw 0 rfl rfl (fun w h => uw_of w (u_Md w h)) 6 (by decide) (uw_of _ k_614) rfl d_Md_given_46 ?_
        refine lv_iload hx hb d_Md_given_49 (lv_at hl 1 rfl) ?_
        refine b_iald (i := 8 * mm + j) hm hw 2 0 rfl rfl (by omega) (by omega) d_Md_given_51 ?_
        refine lv_iload_n hx hb d_Md_given_52 rfl (lv_at hl 4 rfl) ?_
        refine lv_icmp_ne (tgt := 59) hx hb d_Md_given_53 (by decide) (fun c_53_7 => ?_) (fun c_53_7 => ?_)
        · skip
          refine lv_iload hx hb d_Md_given_59 (lv_at hl 1 rfl) ?_
          refine lv_iconst (v := nI 1) hx hb d_Md_given_61 (by decide) ?_
          refine lv_iadd hx hb d_Md_given_62 ?_
          refine b_ti (nI_add (8 * mm + j) 1) ?_
          refine lv_bipush (v := nI 8) hx hb d_Md_given_63 (by decide) ?_
          refine lv_iload_n hx hb d_Md_given_65 rfl (lv_at hl 3 rfl) ?_
          refine lv_imul hx hb d_Md_given_66 ?_
          refine b_ti (pk_mul 8 mm) ?_
          refine lv_aload_n hx hb d_Md_given_67 rfl (lv_at hl 2 rfl) ?_
          refine b_get (T := F_Md) hm hw 0 rfl rfl (fun w h => uw_of w (u_Md w h)) 5 (by decide) (uw_of _ k_613) rfl d_Md_given_68 ?_
          refine lv_iload_n hx hb d_Md_given_71 rfl (lv_at hl 3 rfl) ?_
          refine b_iald (i := mm) hm hw 1 0 rfl rfl (by omega) (by omega) d_Md_given_72 ?_
          refine b_ti (show (fun j => nI (RW j)) mm = nI (RW mm) from rfl) ?_
          refine lv_iadd hx hb d_Md_given_73 ?_
          refine b_ti (nI_add (8 * mm) (RW mm)) ?_
          refine lv_icmp_ge (tgt := 173) hx hb d_Md_given_74 (by decide) (fun c_74_8 => ?_) (fun c_74_8 => ?_)
          · skip
            have h_74_8 : (8 * mm + (RW mm)) ≤ (8 * mm + j + 1) := yge c_74_8 (by omega) (by omega)
            refine lv_iinc (v := nI (8 * mm + j + 1)) (lv' := [(4, .int (nI (8 * mm + j + 1))), (5, .int (RP (8 * mm + j))), (0, .ref md), (1, .int (nI mm)), (2, .int x), (3, .int up)]) hx hb d_Md_given_173 hl (k := 1) rfl (nI_add (8 * mm + j) 1) (by decide) rfl (fun ls hl => ?_)
            refine lv_goto (tgt := 6) hx hb d_Md_given_176 (by decide) ?_
            exact ih (j + 1) (by omega) (by omega) (by unfold gvN at hN ⊢; intro i hi; rcases Nat.lt_or_ge i j with q | q; exact hN i q; obtain rfl : i = j := (by omega); simp only [Nat.add_assoc] at *; grind) H locs ls hw (lv_sub hl [0, 2, 3, 4, 5] rfl)
          · skip
            have h_74_8 : (8 * mm + j + 1) < (8 * mm + (RW mm)) := yltN c_74_8 (by omega) (by omega)
            refine lv_iload_n hx hb d_Md_given_77 rfl (lv_at hl 4 rfl) ?_
            refine lv_aload_n hx hb d_Md_given_78 rfl (lv_at hl 2 rfl) ?_
            refine b_get (T := F_Md) hm hw 0 rfl rfl (fun w h => uw_of w (u_Md w h)) 6 (by decide) (uw_of _ k_614) rfl d_Md_given_79 ?_
            refine lv_iload hx hb d_Md_given_82 (lv_at hl 1 rfl) ?_
            refine b_iald (i := 8 * mm + j) hm hw 2 0 rfl rfl (by omega) (by omega) d_Md_given_84 ?_
            refine lv_icmp_le (tgt := 173) hx hb d_Md_given_85 (by decide) (fun c_85_9 => ?_) (fun c_85_9 => ?_)
            · skip
              refine lv_iinc (v := nI (8 * mm + j + 1)) (lv' := [(4, .int (nI (8 * mm + j + 1))), (5, .int (RP (8 * mm + j))), (0, .ref md), (1, .int (nI mm)), (2, .int x), (3, .int up)]) hx hb d_Md_given_173 hl (k := 1) rfl (nI_add (8 * mm + j) 1) (by decide) rfl (fun ls hl => ?_)
              refine lv_goto (tgt := 6) hx hb d_Md_given_176 (by decide) ?_
              exact ih (j + 1) (by omega) (by omega) (by unfold gvN at hN ⊢; intro i hi; rcases Nat.lt_or_ge i j with q | q; exact hN i q; obtain rfl : i = j := (by omega); simp only [Nat.add_assoc] at *; grind) H locs ls hw (lv_sub hl [0, 2, 3, 4, 5] rfl)
            · skip
              refine lv_iload_n hx hb d_Md_given_88 rfl (lv_at hl 4 rfl) ?_
              refine lv_aload_n hx hb d_Md_given_89 rfl (lv_at hl 2 rfl) ?_
              refine b_get (T := F_Md) hm hw 0 rfl rfl (fun w h => uw_of w (u_Md w h)) 6 (by decide) (uw_of _ k_614) rfl d_Md_given_90 ?_
              refine lv_iload hx hb d_Md_given_93 (lv_at hl 1 rfl) ?_
              refine lv_iconst (v := nI 1) hx hb d_Md_given_95 (by decide) ?_
              refine lv_iadd hx hb d_Md_given_96 ?_
              refine b_ti (nI_add (8 * mm + j) 1) ?_
              refine b_iald (i := 8 * mm + j + 1) hm hw 2 0 rfl rfl (by omega) (by omega) d_Md_given_97 ?_
              refine lv_icmp_ge (tgt := 173) hx hb d_Md_given_98 (by decide) (fun c_98_10 => ?_) (fun c_98_10 => ?_)
              · skip
                refine lv_iinc (v := nI (8 * mm + j + 1)) (lv' := [(4, .int (nI (8 * mm + j + 1))), (5, .int (RP (8 * mm + j))), (0, .ref md), (1, .int (nI mm)), (2, .int x), (3, .int up)]) hx hb d_Md_given_173 hl (k := 1) rfl (nI_add (8 * mm + j) 1) (by decide) rfl (fun ls hl => ?_)
                refine lv_goto (tgt := 6) hx hb d_Md_given_176 (by decide) ?_
                exact ih (j + 1) (by omega) (by omega) (by unfold gvN at hN ⊢; intro i hi; rcases Nat.lt_or_ge i j with q | q; exact hN i q; obtain rfl : i = j := (by omega); simp only [Nat.add_assoc] at *; grind) H locs ls hw (lv_sub hl [0, 2, 3, 4, 5] rfl)
              · skip
                refine lv_iload_n hx hb d_Md_given_101 rfl (lv_at hl 5 rfl) ?_
                refine lv_if_eq (tgt := 117) hx hb d_Md_given_102 (by decide) (fun c_102_11 => ?_) (fun c_102_11 => ?_)
                · skip
                  refine lv_aload_n hx hb d_Md_given_117 rfl (lv_at hl 2 rfl) ?_
                  refine b_get (T := F_Md) hm hw 0 rfl rfl (fun w h => uw_of w (u_Md w h)) 7 (by decide) (uw_of _ k_615) rfl d_Md_given_118 ?_
                  refine lv_iload hx hb d_Md_given_121 (lv_at hl 1 rfl) ?_
                  refine lv_iconst (v := nI 1) hx hb d_Md_given_123 (by decide) ?_
                  refine lv_iadd hx hb d_Md_given_124 ?_
                  refine b_ti (nI_add (8 * mm + j) 1) ?_
                  refine b_iald (i := 8 * mm + j + 1) hm hw 3 0 rfl rfl (by omega) (by omega) d_Md_given_125 ?_
                  refine lv_istore (lv' := [(6, .int (RH (8 * mm + j + 1))), (5, .int (RP (8 * mm + j))), (4, .int (nI (8 * mm + j))), (0, .ref md), (1, .int (nI mm)), (2, .int x), (3, .int up)]) hx hb d_Md_given_126  hl (by decide) rfl (fun ls hl => ?_)
                  refine lv_iload hx hb d_Md_given_128 (lv_at hl 1 rfl) ?_
                  refine lv_i2l (v := (RP (8 * mm + j)).toInt64) hx hb d_Md_given_130 rfl ?_
                  refine lv_iload hx hb d_Md_given_131 (lv_at hl 0 rfl) ?_
                  refine lv_iload hx hb d_Md_given_133 (lv_at hl 1 rfl) ?_
                  refine lv_isub hx hb d_Md_given_135 ?_
                  refine lv_i2l (v := ((RH (8 * mm + j + 1)) - (RP (8 * mm + j))).toInt64) hx hb d_Md_given_136 rfl ?_
                  refine lv_iload_n hx hb d_Md_given_137 rfl (lv_at hl 5 rfl) ?_
                  refine lv_aload_n hx hb d_Md_given_138 rfl (lv_at hl 3 rfl) ?_
                  refine b_get (T := F_Md) hm hw 0 rfl rfl (fun w h => uw_of w (u_Md w h)) 6 (by decide) (uw_of _ k_614) rfl d_Md_given_139 ?_
                  refine lv_iload hx hb d_Md_given_142 (lv_at hl 2 rfl) ?_
                  refine b_iald (i := 8 * mm + j) hm hw 2 0 rfl rfl (by omega) (by omega) d_Md_given_144 ?_
                  refine lv_isub hx hb d_Md_given_145 ?_
                  refine lv_i2l (v := (x - (RO (8 * mm + j))).toInt64) hx hb d_Md_given_146 rfl ?_
                  refine lv_lmul hx hb d_Md_given_147 ?_
                  refine lv_aload_n hx hb d_Md_given_148 rfl (lv_at hl 3 rfl) ?_
                  refine b_get (T := F_Md) hm hw 0 rfl rfl (fun w h => uw_of w (u_Md w h)) 6 (by decide) (uw_of _ k_614) rfl d_Md_given_149 ?_
                  refine lv_iload hx hb d_Md_given_152 (lv_at hl 2 rfl) ?_
                  refine lv_iconst (v := nI 1) hx hb d_Md_given_154 (by decide) ?_
                  refine lv_iadd hx hb d_Md_given_155 ?_
                  refine b_ti (nI_add (8 * mm + j) 1) ?_
                  refine b_iald (i := 8 * mm + j + 1) hm hw 2 0 rfl rfl (by omega) (by omega) d_Md_given_156 ?_
                  refine lv_aload_n hx hb d_Md_given_157 rfl (lv_at hl 3 rfl) ?_
                  refine b_get (T := F_Md) hm hw 0 rfl rfl (fun w h => uw_of w (u_Md w h)) 6 (by decide) (uw_of _ k_614) rfl d_Md_given_158 ?_
                  refine lv_iload hx hb d_Md_given_161 (lv_at hl 2 rfl) ?_
                  refine b_iald (i := 8 * mm + j) hm hw 2 0 rfl rfl (by omega) (by omega) d_Md_given_163 ?_
                  refine lv_isub hx hb d_Md_given_164 ?_
                  refine lv_i2l (v := ((RO (8 * mm + j + 1)) - (RO (8 * mm + j))).toInt64) hx hb d_Md_given_165 rfl ?_
                  refine lv_iload_n hx hb d_Md_given_166 rfl (lv_at hl 6 rfl) ?_
                  refine b_gol (wr := [(md, .inr (7, mdL za th cn ov sn kn fd cst co tb)), (za 5, .inl (k 0, 3, .inl (fun j => nI (RW j)))), (za 6, .inl (k 0, 24, .inl RO)), (za 7, .inl (k 0, 24, .inl RH)), (za 8, .inl (k 0, 24, .inl RP))]) (b_runS (wc := []) (As := [.long ((((RH (8 * mm + j + 1)) - (RP (8 * mm + j))).toInt64) * ((x - (RO (8 * mm + j))).toInt64)), .long (((RO (8 * mm + j + 1)) - (RO (8 * mm + j))).toInt64), .int up]) (rest := [.long ((RP (8 * mm + j)).toInt64)]) hm hw (va_cwS 3 hts (gS2 uw_of k_761 k_759 k_760 k_9) rfl rfl rfl (by decide +kernel) ⟨by decide, by decide⟩) (c_Md_quotient l D k _ ((((RH (8 * mm + j + 1)) - (RP (8 * mm + j))).toInt64) * ((x - (RO (8 * mm + j))).toInt64)) (((RO (8 * mm + j + 1)) - (RO (8 * mm + j))).toInt64) up (sub_ne (by assumption) (by assumption))) [] (by decide) rfl rfl hl.1 rfl (Nat.le_of_ble_eq_true rfl) d_Md_given_167 ⟨by decide, by decide⟩) hw [] [0, 1, 2, 3, 4] rfl rfl (by decide) (by decide) (fun r167 _ H locs hp hw => ?_)
                  have hw : bW (gU D k) A s H locs [(md, .inr (7, mdL za th cn ov sn kn fd cst co tb)), (za 5, .inl (k 0, 3, .inl (fun j => nI (RW j)))), (za 6, .inl (k 0, 24, .inl RO)), (za 7, .inl (k 0, 24, .inl RH)), (za 8, .inl (k 0, 24, .inl RP))] := hw.sub [0, 1, 2, 3, 4] (by decide) rfl
                  refine lv_ladd hx hb d_Md_given_170 ?_
                  refine lv_l2i (v := (((RP (8 * mm + j)).toInt64) + r167).toInt32) hx hb d_Md_given_171 rfl ?_
                  exact b_iret () hm hw (by unfold gvR gvB; simp only [Nat.add_assoc] at *; grind) d_Md_given_172
                · skip
                  refine lv_aload_n hx hb d_Md_given_105 rfl (lv_at hl 2 rfl) ?_
                  refine b_get (T := F_Md) hm hw 0 rfl rfl (fun w h => uw_of w (u_Md w h)) 8 (by decide) (uw_of _ k_616) rfl d_Md_given_106 ?_
                  refine lv_iload hx hb d_Md_given_109 (lv_at hl 1 rfl) ?_
                  refine lv_iconst (v := nI 1) hx hb d_Md_given_111 (by decide) ?_
                  refine lv_iadd hx hb d_Md_given_112 ?_
                  refine b_ti (nI_add (8 * mm + j) 1) ?_
                  refine b_iald (i := 8 * mm + j + 1) hm hw 4 0 rfl rfl (by omega) (by omega) d_Md_given_113 ?_
                  refine lv_goto (tgt := 126) hx hb d_Md_given_114 (by decide) ?_
                  refine lv_istore (lv' := [(6, .int (RP (8 * mm + j + 1))), (5, .int (RP (8 * mm + j))), (4, .int (nI (8 * mm + j))), (0, .ref md), (1, .int (nI mm)), (2, .int x), (3, .int up)]) hx hb d_Md_given_126  hl (by decide) rfl (fun ls hl => ?_)
                  refine lv_iload hx hb d_Md_given_128 (lv_at hl 1 rfl) ?_
                  refine lv_i2l (v := (RP (8 * mm + j)).toInt64) hx hb d_Md_given_130 rfl ?_
                  refine lv_iload hx hb d_Md_given_131 (lv_at hl 0 rfl) ?_
                  refine lv_iload hx hb d_Md_given_133 (lv_at hl 1 rfl) ?_
                  refine lv_isub hx hb d_Md_given_135 ?_
                  refine lv_i2l (v := ((RP (8 * mm + j + 1)) - (RP (8 * mm + j))).toInt64) hx hb d_Md_given_136 rfl ?_
                  refine lv_iload_n hx hb d_Md_given_137 rfl (lv_at hl 5 rfl) ?_
                  refine lv_aload_n hx hb d_Md_given_138 rfl (lv_at hl 3 rfl) ?_
                  refine b_get (T := F_Md) hm hw 0 rfl rfl (fun w h => uw_of w (u_Md w h)) 6 (by decide) (uw_of _ k_614) rfl d_Md_given_139 ?_
                  refine lv_iload hx hb d_Md_given_142 (lv_at hl 2 rfl) ?_
                  refine b_iald (i := 8 * mm + j) hm hw 2 0 rfl rfl (by omega) (by omega) d_Md_given_144 ?_
                  refine lv_isub hx hb d_Md_given_145 ?_
                  refine lv_i2l (v := (x - (RO (8 * mm + j))).toInt64) hx hb d_Md_given_146 rfl ?_
                  refine lv_lmul hx hb d_Md_given_147 ?_
                  refine lv_aload_n hx hb d_Md_given_148 rfl (lv_at hl 3 rfl) ?_
                  refine b_get (T := F_Md) hm hw 0 rfl rfl (fun w h => uw_of w (u_Md w h)) 6 (by decide) (uw_of _ k_614) rfl d_Md_given_149 ?_
                  refine lv_iload hx hb d_Md_given_152 (lv_at hl 2 rfl) ?_
                  refine lv_iconst (v := nI 1) hx hb d_Md_given_154 (by decide) ?_
                  refine lv_iadd hx hb d_Md_given_155 ?_
                  refine b_ti (nI_add (8 * mm + j) 1) ?_
                  refine b_iald (i := 8 * mm + j + 1) hm hw 2 0 rfl rfl (by omega) (by omega) d_Md_given_156 ?_
                  refine lv_aload_n hx hb d_Md_given_157 rfl (lv_at hl 3 rfl) ?_
                  refine b_get (T := F_Md) hm hw 0 rfl rfl (fun w h => uw_of w (u_Md w h)) 6 (by decide) (uw_of _ k_614) rfl d_Md_given_158 ?_
                  refine lv_iload hx hb d_Md_given_161 (lv_at hl 2 rfl) ?_
                  refine b_iald (i := 8 * mm + j) hm hw 2 0 rfl rfl (by omega) (by omega) d_Md_given_163 ?_
                  refine lv_isub hx hb d_Md_given_164 ?_
                  refine lv_i2l (v := ((RO (8 * mm + j + 1)) - (RO (8 * mm + j))).toInt64) hx hb d_Md_given_165 rfl ?_
                  refine lv_iload_n hx hb d_Md_given_166 rfl (lv_at hl 6 rfl) ?_
                  refine b_gol (wr := [(md, .inr (7, mdL za th cn ov sn kn fd cst co tb)), (za 5, .inl (k 0, 3, .inl (fun j => nI (RW j)))), (za 6, .inl (k 0, 24, .inl RO)), (za 7, .inl (k 0, 24, .inl RH)), (za 8, .inl (k 0, 24, .inl RP))]) (b_runS (wc := []) (As := [.long ((((RP (8 * mm + j + 1)) - (RP (8 * mm + j))).toInt64) * ((x - (RO (8 * mm + j))).toInt64)), .long (((RO (8 * mm + j + 1)) - (RO (8 * mm + j))).toInt64), .int up]) (rest := [.long ((RP (8 * mm + j)).toInt64)]) hm hw (va_cwS 3 hts (gS2 uw_of k_761 k_759 k_760 k_9) rfl rfl rfl (by decide +kernel) ⟨by decide, by decide⟩) (c_Md_quotient l D k _ ((((RP (8 * mm + j + 1)) - (RP (8 * mm + j))).toInt64) * ((x - (RO (8 * mm + j))).toInt64)) (((RO (8 * mm + j + 1)) - (RO (8 * mm + j))).toInt64) up (sub_ne (by assumption) (by assumption))) [] (by decide) rfl rfl hl.1 rfl (Nat.le_of_ble_eq_true rfl) d_Md_given_167 ⟨by decide, by decide⟩) hw [] [0, 1, 2, 3, 4] rfl rfl (by decide) (by decide) (fun r167 _ H locs hp hw => ?_)
                  have hw : bW (gU D k) A s H locs [(md, .inr (7, mdL za th cn ov sn kn fd cst co tb)), (za 5, .inl (k 0, 3, .inl (fun j => nI (RW j)))), (za 6, .inl (k 0, 24, .inl RO)), (za 7, .inl (k 0, 24, .inl RH)), (za 8, .inl (k 0, 24, .inl RP))] := hw.sub [0, 1, 2, 3, 4] (by decide) rfl
                  refine lv_ladd hx hb d_Md_given_170 ?_
                  refine lv_l2i (v := (((RP (8 * mm + j)).toInt64) + r167).toInt32) hx hb d_Md_given_171 rfl ?_
                  exact b_iret () hm hw (by unfold gvR gvB; simp only [Nat.add_assoc] at *; grind) d_Md_given_172
        · skip
          refine lv_iload hx hb d_Md_given_56 (lv_at hl 0 rfl) ?_
          exact b_iret () hm hw (by unfold gvR gvB; simp only [Nat.add_assoc] at *; grind) d_Md_given_58

set_option maxHeartbeats 4000000 in
set_option maxRecDepth 100000 in
theorem c_Md_given (l : Launch) (D : va_G) (k : Nat → ClassId) (sz : Nat) (md : Nat) (za : Nat → Nat) (th cn ov sn kn fd : Nat) (cst : Int64) (co tb : Nat) (RW : Nat → Nat) (RO : Nat → Int32) (RH : Nat → Int32) (RP : Nat → Int32) (mm : Nat) (x up : Int32) (hmm : mm < 3) (hr8 : RW mm ≤ 8) : Met l y_Md_given (uw y_Md_given b_Md_given 7 (some .int)) (rU 1 0 0) (va_Pc [.ref md, .int (nI mm), .int x, .int up] (bP (gU D k) [(md, .inr (7, mdL za th cn ov sn kn fd cst co tb)), (za 5, .inl (k 0, 3, .inl (fun j => nI (RW j)))), (za 6, .inl (k 0, 24, .inl RO)), (za 7, .inl (k 0, 24, .inl RH)), (za 8, .inl (k 0, 24, .inl RP))] sz)) (va_Qi (fun (r : Int32) (_ : Unit) => gvR (fun j => RO (8 * mm + j)) (fun j => if up = 0 then RH (8 * mm + j) else RP (8 * mm + j)) (RW mm) x up r) (fun u => bQ (gU D k) (va_A [(md, .inr (7, mdL za th cn ov sn kn fd cst co tb)), (za 5, .inl (k 0, 3, .inl (fun j => nI (RW j)))), (za 6, .inl (k 0, 24, .inl RO)), (za 7, .inl (k 0, 24, .inl RH)), (za 8, .inl (k 0, 24, .inl RP))] sz) ([(md, .inr (7, mdL za th cn ov sn kn fd cst co tb)), (za 5, .inl (k 0, 3, .inl (fun j => nI (RW j)))), (za 6, .inl (k 0, 24, .inl RO)), (za 7, .inl (k 0, 24, .inl RH)), (za 8, .inl (k 0, 24, .inl RP))])) (va_A [(md, .inr (7, mdL za th cn ov sn kn fd cst co tb)), (za 5, .inl (k 0, 3, .inl (fun j => nI (RW j)))), (za 6, .inl (k 0, 24, .inl RO)), (za 7, .inl (k 0, 24, .inl RH)), (za 8, .inl (k 0, 24, .inl RP))] sz)) (rU 1 0 0).cells (rU 1 0 0).slots (va_A [(md, .inr (7, mdL za th cn ov sn kn fd cst co tb)), (za 5, .inl (k 0, 3, .inl (fun j => nI (RW j)))), (za 6, .inl (k 0, 24, .inl RO)), (za 7, .inl (k 0, 24, .inl RH)), (za 8, .inl (k 0, 24, .inl RP))] sz) := by
  refine b_start (y := y_Md_given) (maxL := 7) (ret := (some .int)) (cc := b_Md_given) (ws' := ut) (rm := rU 1 0 0) (av := [.ref md, .int (nI mm), .int x, .int up]) (g := gU D k) (ws := [(md, .inr (7, mdL za th cn ov sn kn fd cst co tb)), (za 5, .inl (k 0, 3, .inl (fun j => nI (RW j)))), (za 6, .inl (k 0, 24, .inl RO)), (za 7, .inl (k 0, 24, .inl RH)), (za 8, .inl (k 0, 24, .inl RP))]) (sz := sz) (Qc := fun A => va_Qi (fun (r : Int32) (_ : Unit) => gvR (fun j => RO (8 * mm + j)) (fun j => if up = 0 then RH (8 * mm + j) else RP (8 * mm + j)) (RW mm) x up r) (fun u => bQ (gU D k) A ([(md, .inr (7, mdL za th cn ov sn kn fd cst co tb)), (za 5, .inl (k 0, 3, .inl (fun j => nI (RW j)))), (za 6, .inl (k 0, 24, .inl RO)), (za 7, .inl (k 0, 24, .inl RH)), (za 8, .inl (k 0, 24, .inl RP))])) A) (by decide +kernel) (Nat.le_of_ble_eq_true rfl) ?_
  intro p e s m below meth c A hm hnm hw ls hl
  have hl : lv_has ls 7 [(0, .ref md), (1, .int (nI mm)), (2, .int x), (3, .int up)] := hl
  have hx := hm.1
  have hb := hm.2.1
  have hown := hm.2.2.2.2.1
  have hts := hm.2.2.2.2.2.1
  refine lv_bipush (v := nI 8) hx hb d_Md_given_0 (by decide) ?_
  refine lv_iload_n hx hb d_Md_given_2 rfl (lv_at hl 1 rfl) ?_
  refine lv_imul hx hb d_Md_given_3 ?_
  refine b_ti (pk_mul 8 mm) ?_
  refine lv_istore (lv' := [(4, .int (nI (8 * mm))), (0, .ref md), (1, .int (nI mm)), (2, .int x), (3, .int up)]) hx hb d_Md_given_4  hl (by decide) rfl (fun ls hl => ?_)
  exact lp_Md_given hmm hr8 hm hnm (RW mm + 1) 0 (by omega) (by omega) (fun i h => absurd h (by omega)) _ _ ls hw (lv_sub hl [0, 1, 2, 3, 4] rfl)
