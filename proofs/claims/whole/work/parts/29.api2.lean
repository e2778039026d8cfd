/-! the calls that no plan needs, where they return -/

set_option maxHeartbeats 4000000 in
set_option maxRecDepth 100000 in
theorem c_HM_ran (l : Launch) (D : va_G) (k : Nat → ClassId) (sz : Nat) (x0 ho pl rs to wt bo se ab he po sx be sa ov sta stl h : Nat) (RS : Nat → Int32) (hh : h < 36) (hov : ov ≤ 36) : Met l y_HM_ran (uw y_HM_ran b_HM_ran 2 (some .int)) (rU 2 0 0) (va_Pc [.ref x0, .int (nI h)] (bP (gU D k) [(x0, .inr (6, [.ref pl, .ref ho, .ref rs, .ref to, .ref wt, .ref bo])), (pl, .inr (4, [.ref ho, .ref sa, .int (nI ov), .int (nI sta), .int (nI stl), .ref se, .ref ab, .ref he, .ref po, .ref sx, .ref be])), (rs, .inl (k 0, 36, .inl RS))] sz)) (va_Qi (fun (r : Int32) (_ : Unit) => r = (if h < ov then RS h else -1)) (fun u => bQ (gU D k) (va_A [(x0, .inr (6, [.ref pl, .ref ho, .ref rs, .ref to, .ref wt, .ref bo])), (pl, .inr (4, [.ref ho, .ref sa, .int (nI ov), .int (nI sta), .int (nI stl), .ref se, .ref ab, .ref he, .ref po, .ref sx, .ref be])), (rs, .inl (k 0, 36, .inl RS))] sz) ([(x0, .inr (6, [.ref pl, .ref ho, .ref rs, .ref to, .ref wt, .ref bo])), (pl, .inr (4, [.ref ho, .ref sa, .int (nI ov), .int (nI sta), .int (nI stl), .ref se, .ref ab, .ref he, .ref po, .ref sx, .ref be])), (rs, .inl (k 0, 36, .inl RS))])) (va_A [(x0, .inr (6, [.ref pl, .ref ho, .ref rs, .ref to, .ref wt, .ref bo])), (pl, .inr (4, [.ref ho, .ref sa, .int (nI ov), .int (nI sta), .int (nI stl), .ref se, .ref ab, .ref he, .ref po, .ref sx, .ref be])), (rs, .inl (k 0, 36, .inl RS))] sz)) (rU 2 0 0).cells (rU 2 0 0).slots (va_A [(x0, .inr (6, [.ref pl, .ref ho, .ref rs, .ref to, .ref wt, .ref bo])), (pl, .inr (4, [.ref ho, .ref sa, .int (nI ov), .int (nI sta), .int (nI stl), .ref se, .ref ab, .ref he, .ref po, .ref sx, .ref be])), (rs, .inl (k 0, 36, .inl RS))] sz) := by
  refine b_start (Qc := fun A => va_Qi (fun (r : Int32) (_ : Unit) => r = (if h < ov then RS h else -1)) (fun u => bQ (gU D k) A ([(x0, .inr (6, [.ref pl, .ref ho, .ref rs, .ref to, .ref wt, .ref bo])), (pl, .inr (4, [.ref ho, .ref sa, .int (nI ov), .int (nI sta), .int (nI stl), .ref se, .ref ab, .ref he, .ref po, .ref sx, .ref be])), (rs, .inl (k 0, 36, .inl RS))])) A) (by decide +kernel) (Nat.le_of_ble_eq_true rfl) ?_
  intro p e s m below meth c A hm hnm hw ls hl
  have hl : lv_has ls 2 [(0, .ref x0), (1, .int (nI h))] := hl
  have hx := hm.1
  have hb := hm.2.1
  have hown := hm.2.2.2.2.1
  have hts := hm.2.2.2.2.2.1
  refine lv_iload_n hx hb d_HM_ran_0 rfl (lv_at hl 1 rfl) ?_
  refine b_goi (wr := [(x0, .inr (6, [.ref pl, .ref ho, .ref rs, .ref to, .ref wt, .ref bo])), (pl, .inr (4, [.ref ho, .ref sa, .int (nI ov), .int (nI sta), .int (nI stl), .ref se, .ref ab, .ref he, .ref po, .ref sx, .ref be])), (rs, .inl (k 0, 36, .inl RS))]) (b_runS (wc := []) (As := [.int (nI h)]) (rest := []) hm hw (va_cwS 1 hts (gS2 uw_of k_465 k_463 k_464 k_1) rfl rfl rfl (by decide +kernel) ⟨by decide, by decide⟩) (c_HM_isHour l D k _ (nI h)) [] (by decide) rfl rfl hl.1 rfl (Nat.le_of_ble_eq_true rfl) d_HM_ran_1 ⟨by decide, by decide⟩) hw [] [0, 1, 2] rfl rfl (by decide) (by decide) (fun r _ H locs hp hw => ?_)
  have hw : bW (gU D k) A s H locs [(x0, .inr (6, [.ref pl, .ref ho, .ref rs, .ref to, .ref wt, .ref bo])), (pl, .inr (4, [.ref ho, .ref sa, .int (nI ov), .int (nI sta), .int (nI stl), .ref se, .ref ab, .ref he, .ref po, .ref sx, .ref be])), (rs, .inl (k 0, 36, .inl RS))] := hw.sub [0, 1, 2] (by decide) rfl
  have hr : r = 1 := by rcases hp with ⟨q, _⟩ | ⟨_, q⟩; exact q; exact absurd (in_n (by omega) (by omega) (by omega)) q
  refine b_ti (y := nI 1) hr ?_
  refine b_gov (wr := [(x0, .inr (6, [.ref pl, .ref ho, .ref rs, .ref to, .ref wt, .ref bo])), (pl, .inr (4, [.ref ho, .ref sa, .int (nI ov), .int (nI sta), .int (nI stl), .ref se, .ref ab, .ref he, .ref po, .ref sx, .ref be])), (rs, .inl (k 0, 36, .inl RS))]) (b_runS (wc := []) (As := [.int (nI 1)]) (rest := []) hm hw (va_cwS 1 hts (gS2 uw_of k_301 k_299 k_300 k_1) rfl rfl rfl (by decide +kernel) ⟨by decide, by decide⟩) (c_HM_requireArgument l D k _ ) [] (by decide) rfl rfl hl.1 rfl (Nat.le_of_ble_eq_true rfl) d_HM_ran_4 ⟨by decide, by decide⟩) hw [] [0, 1, 2] rfl rfl (by decide) (by decide) (fun _ H locs _ hw => ?_)
  have hw : bW (gU D k) A s H locs [(x0, .inr (6, [.ref pl, .ref ho, .ref rs, .ref to, .ref wt, .ref bo])), (pl, .inr (4, [.ref ho, .ref sa, .int (nI ov), .int (nI sta), .int (nI stl), .ref se, .ref ab, .ref he, .ref po, .ref sx, .ref be])), (rs, .inl (k 0, 36, .inl RS))] := hw.sub [0, 1, 2] (by decide) rfl
  refine lv_iload_n hx hb d_HM_ran_7 rfl (lv_at hl 1 rfl) ?_
  refine lv_aload_n hx hb d_HM_ran_8 rfl (lv_at hl 0 rfl) ?_
  refine b_get (T := F_HM) hm hw 0 rfl rfl (fun w h => uw_of w (u_HM w h)) 0 (by decide) (uw_of _ k_204) rfl d_HM_ran_9 ?_
  refine b_getN (T := F_Pl) hm hw 1 rfl rfl (fun w h => uw_of w (u_Pl w h)) 2 (by decide) (k_149) rfl d_HM_ran_12 ?_
  refine lv_icmp_ge (tgt := 27) hx hb d_HM_ran_15 (by decide) (fun c_15_0 => ?_) (fun c_15_0 => ?_)
  · skip
    have h_15_0 : ov ≤ h := yge c_15_0 (by omega) (by omega)
    refine lv_iconst (v := (-1)) hx hb d_HM_ran_27 (by decide) ?_
    exact b_iret () hm hw (by first | (rw [if_pos (by omega)]; done) | (rw [if_neg (by omega)]; done)) d_HM_ran_28
  · skip
    have h_15_0 : h < ov := yltN c_15_0 (by omega) (by omega)
    refine lv_aload_n hx hb d_HM_ran_18 rfl (lv_at hl 0 rfl) ?_
    refine b_get (T := F_HM) hm hw 0 rfl rfl (fun w h => uw_of w (u_HM w h)) 2 (by decide) (uw_of _ k_206) rfl d_HM_ran_19 ?_
    refine lv_iload_n hx hb d_HM_ran_22 rfl (lv_at hl 1 rfl) ?_
    refine b_iald (i := h) hm hw 2 0 rfl rfl (by omega) (by omega) d_HM_ran_23 ?_
    refine lv_goto (tgt := 28) hx hb d_HM_ran_24 (by decide) ?_
    exact b_iret () hm hw (by first | (rw [if_pos (by omega)]; done) | (rw [if_neg (by omega)]; done)) d_HM_ran_28

set_option maxHeartbeats 4000000 in
set_option maxRecDepth 100000 in
theorem c_HM_told (l : Launch) (D : va_G) (k : Nat → ClassId) (sz : Nat) (x0 ho pl rs to wt bo w : Nat) (TO : Nat → Int64) (hw4 : w < 4) : Met l y_HM_told (uw y_HM_told b_HM_told 2 (some .long)) (rU 2 0 0) (va_Pc [.ref x0, .int (nI w)] (bP (gU D k) [(x0, .inr (6, [.ref pl, .ref ho, .ref rs, .ref to, .ref wt, .ref bo])), (to, .inl (k 1, 4, .inr (.inl TO)))] sz)) (va_Ql (fun (r : Int64) (_ : Unit) => r = TO w) (fun u => bQ (gU D k) (va_A [(x0, .inr (6, [.ref pl, .ref ho, .ref rs, .ref to, .ref wt, .ref bo])), (to, .inl (k 1, 4, .inr (.inl TO)))] sz) ([(x0, .inr (6, [.ref pl, .ref ho, .ref rs, .ref to, .ref wt, .ref bo])), (to, .inl (k 1, 4, .inr (.inl TO)))])) (va_A [(x0, .inr (6, [.ref pl, .ref ho, .ref rs, .ref to, .ref wt, .ref bo])), (to, .inl (k 1, 4, .inr (.inl TO)))] sz)) (rU 2 0 0).cells (rU 2 0 0).slots (va_A [(x0, .inr (6, [.ref pl, .ref ho, .ref rs, .ref to, .ref wt, .ref bo])), (to, .inl (k 1, 4, .inr (.inl TO)))] sz) := by
  refine b_start (Qc := fun A => va_Ql (fun (r : Int64) (_ : Unit) => r = TO w) (fun u => bQ (gU D k) A ([(x0, .inr (6, [.ref pl, .ref ho, .ref rs, .ref to, .ref wt, .ref bo])), (to, .inl (k 1, 4, .inr (.inl TO)))])) A) (by decide +kernel) (Nat.le_of_ble_eq_true rfl) ?_
  intro p e s m below meth c A hm hnm hw ls hl
  have hl : lv_has ls 2 [(0, .ref x0), (1, .int (nI w))] := hl
  have hx := hm.1
  have hb := hm.2.1
  have hown := hm.2.2.2.2.1
  have hts := hm.2.2.2.2.2.1
  refine lv_iload_n hx hb d_HM_told_0 rfl (lv_at hl 1 rfl) ?_
  refine lv_iconst (v := nI 0) hx hb d_HM_told_1 (by decide) ?_
  refine lv_iconst (v := nI 3) hx hb d_HM_told_2 (by decide) ?_
  refine b_goi (wr := [(x0, .inr (6, [.ref pl, .ref ho, .ref rs, .ref to, .ref wt, .ref bo])), (to, .inl (k 1, 4, .inr (.inl TO)))]) (b_runS (wc := []) (As := [.int (nI w), .int (nI 0), .int (nI 3)]) (rest := []) hm hw (va_cwS 3 hts (gS2 uw_of k_297 k_295 k_296 k_1) rfl rfl rfl (by decide +kernel) ⟨by decide, by decide⟩) (c_HM_isWithin l D k _ (nI w) (nI 0) (nI 3)) [] (by decide) rfl rfl hl.1 rfl (Nat.le_of_ble_eq_true rfl) d_HM_told_3 ⟨by decide, by decide⟩) hw [] [0, 1] rfl rfl (by decide) (by decide) (fun r _ H locs hp hw => ?_)
  have hw : bW (gU D k) A s H locs [(x0, .inr (6, [.ref pl, .ref ho, .ref rs, .ref to, .ref wt, .ref bo])), (to, .inl (k 1, 4, .inr (.inl TO)))] := hw.sub [0, 1] (by decide) rfl
  have hr : r = 1 := by rcases hp with ⟨q, _⟩ | ⟨_, q⟩; exact q; exact absurd (in_n (by omega) (by omega) (by omega)) q
  refine b_ti (y := nI 1) hr ?_
  refine b_gov (wr := [(x0, .inr (6, [.ref pl, .ref ho, .ref rs, .ref to, .ref wt, .ref bo])), (to, .inl (k 1, 4, .inr (.inl TO)))]) (b_runS (wc := []) (As := [.int (nI 1)]) (rest := []) hm hw (va_cwS 1 hts (gS2 uw_of k_301 k_299 k_300 k_1) rfl rfl rfl (by decide +kernel) ⟨by decide, by decide⟩) (c_HM_requireArgument l D k _ ) [] (by decide) rfl rfl hl.1 rfl (Nat.le_of_ble_eq_true rfl) d_HM_told_6 ⟨by decide, by decide⟩) hw [] [0, 1] rfl rfl (by decide) (by decide) (fun _ H locs _ hw => ?_)
  have hw : bW (gU D k) A s H locs [(x0, .inr (6, [.ref pl, .ref ho, .ref rs, .ref to, .ref wt, .ref bo])), (to, .inl (k 1, 4, .inr (.inl TO)))] := hw.sub [0, 1] (by decide) rfl
  refine lv_aload_n hx hb d_HM_told_9 rfl (lv_at hl 0 rfl) ?_
  refine b_get (T := F_HM) hm hw 0 rfl rfl (fun w h => uw_of w (u_HM w h)) 3 (by decide) (uw_of _ k_207) rfl d_HM_told_10 ?_
  refine lv_iload_n hx hb d_HM_told_13 rfl (lv_at hl 1 rfl) ?_
  refine b_lald (i := w) hm hw 1 1 rfl rfl (by omega) (by omega) d_HM_told_14 ?_
  exact b_lret () hm hw rfl d_HM_told_15

set_option maxHeartbeats 4000000 in
set_option maxRecDepth 100000 in
theorem c_HM_curve (l : Launch) (D : va_G) (k : Nat → ClassId) (sz : Nat) (x0 ho pl rs to wt bo wtw wtv wz : Nat) (WF WG : Nat → Int32) (v : Int32) (hz : wz ≤ 6) (hv : (-5000) ≤ v ∧ v ≤ nI 5000) : Met l y_HM_curve (uw y_HM_curve b_HM_curve 2 (some .int)) (rU 4 0 0) (va_Pc [.ref x0, .int v] (bP (gU D k) [(x0, .inr (6, [.ref pl, .ref ho, .ref rs, .ref to, .ref wt, .ref bo])), (wt, .inr (2, [.ref wtw, .ref wtv, .int (nI wz)])), (wtw, .inl (k 0, 6, .inl WF)), (wtv, .inl (k 0, 6, .inl WG))] sz)) (va_Qi (fun (r : Int32) (_ : Unit) => (wz = 0 ∧ r = -1) ∨ (0 < wz ∧ ∃ i, lnAt WF wz (lnHold WF wz v) i ∧ r = lnRes WF WG wz (lnHold WF wz v) 0 i)) (fun u => bQ (gU D k) (va_A [(x0, .inr (6, [.ref pl, .ref ho, .ref rs, .ref to, .ref wt, .ref bo])), (wt, .inr (2, [.ref wtw, .ref wtv, .int (nI wz)])), (wtw, .inl (k 0, 6, .inl WF)), (wtv, .inl (k 0, 6, .inl WG))] sz) ([(x0, .inr (6, [.ref pl, .ref ho, .ref rs, .ref to, .ref wt, .ref bo])), (wt, .inr (2, [.ref wtw, .ref wtv, .int (nI wz)])), (wtw, .inl (k 0, 6, .inl WF)), (wtv, .inl (k 0, 6, .inl WG))])) (va_A [(x0, .inr (6, [.ref pl, .ref ho, .ref rs, .ref to, .ref wt, .ref bo])), (wt, .inr (2, [.ref wtw, .ref wtv, .int (nI wz)])), (wtw, .inl (k 0, 6, .inl WF)), (wtv, .inl (k 0, 6, .inl WG))] sz)) (rU 4 0 0).cells (rU 4 0 0).slots (va_A [(x0, .inr (6, [.ref pl, .ref ho, .ref rs, .ref to, .ref wt, .ref bo])), (wt, .inr (2, [.ref wtw, .ref wtv, .int (nI wz)])), (wtw, .inl (k 0, 6, .inl WF)), (wtv, .inl (k 0, 6, .inl WG))] sz) := by
  refine b_start (Qc := fun A => va_Qi (fun (r : Int32) (_ : Unit) => (wz = 0 ∧ r = -1) ∨ (0 < wz ∧ ∃ i, lnAt WF wz (lnHold WF wz v) i ∧ r = lnRes WF WG wz (lnHold WF wz v) 0 i)) (fun u => bQ (gU D k) A ([(x0, .inr (6, [.ref pl, .ref ho, .ref rs, .ref to, .ref wt, .ref bo])), (wt, .inr (2, [.ref wtw, .ref wtv, .int (nI wz)])), (wtw, .inl (k 0, 6, .inl WF)), (wtv, .inl (k 0, 6, .inl WG))])) A) (by decide +kernel) (Nat.le_of_ble_eq_true rfl) ?_
  intro p e s m below meth c A hm hnm hw ls hl
  have hl : lv_has ls 2 [(0, .ref x0), (1, .int v)] := hl
  have hx := hm.1
  have hb := hm.2.1
  have hown := hm.2.2.2.2.1
  have hts := hm.2.2.2.2.2.1
  refine lv_iload_n hx hb d_HM_curve_0 rfl (lv_at hl 1 rfl) ?_
  refine b_goi (wr := [(x0, .inr (6, [.ref pl, .ref ho, .ref rs, .ref to, .ref wt, .ref bo])), (wt, .inr (2, [.ref wtw, .ref wtv, .int (nI wz)])), (wtw, .inl (k 0, 6, .inl WF)), (wtv, .inl (k 0, 6, .inl WG))]) (b_runS (wc := []) (As := [.int v]) (rest := []) hm hw (va_cwS 1 hts (gS2 uw_of k_445 k_443 k_444 k_1) rfl rfl rfl (by decide +kernel) ⟨by decide, by decide⟩) (c_HM_isWarmth l D k _ v) [] (by decide) rfl rfl hl.1 rfl (Nat.le_of_ble_eq_true rfl) d_HM_curve_1 ⟨by decide, by decide⟩) hw [] [0, 1, 2, 3] rfl rfl (by decide) (by decide) (fun r _ H locs hp hw => ?_)
  have hw : bW (gU D k) A s H locs [(x0, .inr (6, [.ref pl, .ref ho, .ref rs, .ref to, .ref wt, .ref bo])), (wt, .inr (2, [.ref wtw, .ref wtv, .int (nI wz)])), (wtw, .inl (k 0, 6, .inl WF)), (wtv, .inl (k 0, 6, .inl WG))] := hw.sub [0, 1, 2, 3] (by decide) rfl
  have hr : r = 1 := by rcases hp with ⟨q, _⟩ | ⟨_, q⟩; exact q; exact absurd (hv) q
  refine b_ti (y := nI 1) hr ?_
  refine b_gov (wr := [(x0, .inr (6, [.ref pl, .ref ho, .ref rs, .ref to, .ref wt, .ref bo])), (wt, .inr (2, [.ref wtw, .ref wtv, .int (nI wz)])), (wtw, .inl (k 0, 6, .inl WF)), (wtv, .inl (k 0, 6, .inl WG))]) (b_runS (wc := []) (As := [.int (nI 1)]) (rest := []) hm hw (va_cwS 1 hts (gS2 uw_of k_301 k_299 k_300 k_1) rfl rfl rfl (by decide +kernel) ⟨by decide, by decide⟩) (c_HM_requireArgument l D k _ ) [] (by decide) rfl rfl hl.1 rfl (Nat.le_of_ble_eq_true rfl) d_HM_curve_4 ⟨by decide, by decide⟩) hw [] [0, 1, 2, 3] rfl rfl (by decide) (by decide) (fun _ H locs _ hw => ?_)
  have hw : bW (gU D k) A s H locs [(x0, .inr (6, [.ref pl, .ref ho, .ref rs, .ref to, .ref wt, .ref bo])), (wt, .inr (2, [.ref wtw, .ref wtv, .int (nI wz)])), (wtw, .inl (k 0, 6, .inl WF)), (wtv, .inl (k 0, 6, .inl WG))] := hw.sub [0, 1, 2, 3] (by decide) rfl
  refine lv_aload_n hx hb d_HM_curve_7 rfl (lv_at hl 0 rfl) ?_
  refine b_get (T := F_HM) hm hw 0 rfl rfl (fun w h => uw_of w (u_HM w h)) 4 (by decide) (uw_of _ k_208) rfl d_HM_curve_8 ?_
  refine lv_iload_n hx hb d_HM_curve_11 rfl (lv_at hl 1 rfl) ?_
  refine b_goi (wr := [(x0, .inr (6, [.ref pl, .ref ho, .ref rs, .ref to, .ref wt, .ref bo]))]) (b_runV (wc := [(wt, .inr (2, [.ref wtw, .ref wtv, .int (nI wz)])), (wtw, .inl (k 0, 6, .inl WF)), (wtv, .inl (k 0, 6, .inl WG))]) (As := [.int v]) (rest := []) (q0 := 1) hm hw (cwV 1 hts (gV uw_of k_559 k_556 k_557 (k_558) k_5) rfl rfl rfl (by decide +kernel) ⟨by decide, by decide⟩) (c_Ln_heldValueAt l D k _ wt wtw wtv 6 WF WG wz v hz (by omega)) [1, 2, 3] (by decide) rfl rfl rfl rfl hl.1 rfl (Nat.le_of_ble_eq_true rfl) d_HM_curve_12 ⟨by decide, by decide⟩) hw [1, 2, 3] [0] rfl rfl (by decide) (by decide) (fun r _ H locs hq hw => ?_)
  have hw : bW (gU D k) A s H locs [(x0, .inr (6, [.ref pl, .ref ho, .ref rs, .ref to, .ref wt, .ref bo])), (wt, .inr (2, [.ref wtw, .ref wtv, .int (nI wz)])), (wtw, .inl (k 0, 6, .inl WF)), (wtv, .inl (k 0, 6, .inl WG))] := hw.sub [0, 1, 2, 3] (by decide) rfl
  exact b_iret () hm hw hq d_HM_curve_15

set_option maxHeartbeats 4000000 in
set_option maxRecDepth 100000 in
theorem c_HM_corner (l : Launch) (D : va_G) (k : Nat → ClassId) (sz : Nat) (x0 ho pl rs to wt bo wtw wtv wz : Nat) (WF WG : Nat → Int32) (v y : Int32) (hz : wz ≤ 6) (hv : (-5000) ≤ v ∧ v ≤ nI 5000) (hy : nI 0 ≤ y ∧ y ≤ nI 10000) (hroom : lnRoom 6 WF wz v) : Met l y_HM_corner (uw y_HM_corner b_HM_corner 3 (some .int)) (rU 2 0 0) (va_Pc [.ref x0, .int v, .int y] (bP (gU D k) [(x0, .inr (6, [.ref pl, .ref ho, .ref rs, .ref to, .ref wt, .ref bo])), (wt, .inr (2, [.ref wtw, .ref wtv, .int (nI wz)])), (wtw, .inl (k 0, 6, .inl WF)), (wtv, .inl (k 0, 6, .inl WG))] sz)) (va_Qi (fun (r : Int32) (_ : Unit) => r = nI (wz + 1)) (fun u => bQ (gU D k) (va_A [(x0, .inr (6, [.ref pl, .ref ho, .ref rs, .ref to, .ref wt, .ref bo])), (wt, .inr (2, [.ref wtw, .ref wtv, .int (nI wz)])), (wtw, .inl (k 0, 6, .inl WF)), (wtv, .inl (k 0, 6, .inl WG))] sz) ([(x0, .inr (6, [.ref pl, .ref ho, .ref rs, .ref to, .ref wt, .ref bo])), (wt, .inr (2, [.ref wtw, .ref wtv, .int (nI (wz + 1))])), (wtw, .inl (k 0, 6, .inl (upd WF wz v))), (wtv, .inl (k 0, 6, .inl (upd WG wz y)))])) (va_A [(x0, .inr (6, [.ref pl, .ref ho, .ref rs, .ref to, .ref wt, .ref bo])), (wt, .inr (2, [.ref wtw, .ref wtv, .int (nI wz)])), (wtw, .inl (k 0, 6, .inl WF)), (wtv, .inl (k 0, 6, .inl WG))] sz)) (rU 2 0 0).cells (rU 2 0 0).slots (va_A [(x0, .inr (6, [.ref pl, .ref ho, .ref rs, .ref to, .ref wt, .ref bo])), (wt, .inr (2, [.ref wtw, .ref wtv, .int (nI wz)])), (wtw, .inl (k 0, 6, .inl WF)), (wtv, .inl (k 0, 6, .inl WG))] sz) := by
  refine b_start (Qc := fun A => va_Qi (fun (r : Int32) (_ : Unit) => r = nI (wz + 1)) (fun u => bQ (gU D k) A ([(x0, .inr (6, [.ref pl, .ref ho, .ref rs, .ref to, .ref wt, .ref bo])), (wt, .inr (2, [.ref wtw, .ref wtv, .int (nI (wz + 1))])), (wtw, .inl (k 0, 6, .inl (upd WF wz v))), (wtv, .inl (k 0, 6, .inl (upd WG wz y)))])) A) (by decide +kernel) (Nat.le_of_ble_eq_true rfl) ?_
  intro p e s m below meth c A hm hnm hw ls hl
  have hl : lv_has ls 3 [(0, .ref x0), (1, .int v), (2, .int y)] := hl
  have hx := hm.1
  have hb := hm.2.1
  have hown := hm.2.2.2.2.1
  have hts := hm.2.2.2.2.2.1
  refine lv_iload_n hx hb d_HM_corner_0 rfl (lv_at hl 1 rfl) ?_
  refine b_goi (wr := [(x0, .inr (6, [.ref pl, .ref ho, .ref rs, .ref to, .ref wt, .ref bo])), (wt, .inr (2, [.ref wtw, .ref wtv, .int (nI wz)])), (wtw, .inl (k 0, 6, .inl WF)), (wtv, .inl (k 0, 6, .inl WG))]) (b_runS (wc := []) (As := [.int v]) (rest := []) hm hw (va_cwS 1 hts (gS2 uw_of k_445 k_443 k_444 k_1) rfl rfl rfl (by decide +kernel) ⟨by decide, by decide⟩) (c_HM_isWarmth l D k _ v) [] (by decide) rfl rfl hl.1 rfl (Nat.le_of_ble_eq_true rfl) d_HM_corner_1 ⟨by decide, by decide⟩) hw [] [0, 1, 2, 3] rfl rfl (by decide) (by decide) (fun r _ H locs hp hw => ?_)
  have hw : bW (gU D k) A s H locs [(x0, .inr (6, [.ref pl, .ref ho, .ref rs, .ref to, .ref wt, .ref bo])), (wt, .inr (2, [.ref wtw, .ref wtv, .int (nI wz)])), (wtw, .inl (k 0, 6, .inl WF)), (wtv, .inl (k 0, 6, .inl WG))] := hw.sub [0, 1, 2, 3] (by decide) rfl
  have hr : r = 1 := by rcases hp with ⟨q, _⟩ | ⟨_, q⟩; exact q; exact absurd (hv) q
  refine b_ti (y := nI 1) hr ?_
  refine lv_if_eq (tgt := 22) hx hb d_HM_corner_4 (by decide) (fun c_4_0 => ?_) (fun c_4_0 => ?_)
  · skip
    exact absurd c_4_0 (by decide)
  · skip
    refine lv_iload_n hx hb d_HM_corner_7 rfl (lv_at hl 2 rfl) ?_
    refine lv_iconst (v := nI 0) hx hb d_HM_corner_8 (by decide) ?_
    refine lv_sipush (v := nI 10000) hx hb d_HM_corner_9 (by decide) ?_
    refine b_goi (wr := [(x0, .inr (6, [.ref pl, .ref ho, .ref rs, .ref to, .ref wt, .ref bo])), (wt, .inr (2, [.ref wtw, .ref wtv, .int (nI wz)])), (wtw, .inl (k 0, 6, .inl WF)), (wtv, .inl (k 0, 6, .inl WG))]) (b_runS (wc := []) (As := [.int y, .int (nI 0), .int (nI 10000)]) (rest := []) hm hw (va_cwS 3 hts (gS2 uw_of k_297 k_295 k_296 k_1) rfl rfl rfl (by decide +kernel) ⟨by decide, by decide⟩) (c_HM_isWithin l D k _ y (nI 0) (nI 10000)) [] (by decide) rfl rfl hl.1 rfl (Nat.le_of_ble_eq_true rfl) d_HM_corner_12 ⟨by decide, by decide⟩) hw [] [0, 1, 2, 3] rfl rfl (by decide) (by decide) (fun r _ H locs hp hw => ?_)
    have hw : bW (gU D k) A s H locs [(x0, .inr (6, [.ref pl, .ref ho, .ref rs, .ref to, .ref wt, .ref bo])), (wt, .inr (2, [.ref wtw, .ref wtv, .int (nI wz)])), (wtw, .inl (k 0, 6, .inl WF)), (wtv, .inl (k 0, 6, .inl WG))] := hw.sub [0, 1, 2, 3] (by decide) rfl
    have hr : r = 1 := by rcases hp with ⟨q, _⟩ | ⟨_, q⟩; exact q; exact absurd (hy) q
    refine b_ti (y := nI 1) hr ?_
    refine lv_if_eq (tgt := 22) hx hb d_HM_corner_15 (by decide) (fun c_15_1 => ?_) (fun c_15_1 => ?_)
    · skip
      exact absurd c_15_1 (by decide)
    · skip
      refine lv_iconst (v := nI 1) hx hb d_HM_corner_18 (by decide) ?_
      refine lv_goto (tgt := 23) hx hb d_HM_corner_19 (by decide) ?_
      refine b_gov (wr := [(x0, .inr (6, [.ref pl, .ref ho, .ref rs, .ref to, .ref wt, .ref bo])), (wt, .inr (2, [.ref wtw, .ref wtv, .int (nI wz)])), (wtw, .inl (k 0, 6, .inl WF)), (wtv, .inl (k 0, 6, .inl WG))]) (b_runS (wc := []) (As := [.int (nI 1)]) (rest := []) hm hw (va_cwS 1 hts (gS2 uw_of k_301 k_299 k_300 k_1) rfl rfl rfl (by decide +kernel) ⟨by decide, by decide⟩) (c_HM_requireArgument l D k _ ) [] (by decide) rfl rfl hl.1 rfl (Nat.le_of_ble_eq_true rfl) d_HM_corner_23 ⟨by decide, by decide⟩) hw [] [0, 1, 2, 3] rfl rfl (by decide) (by decide) (fun _ H locs _ hw => ?_)
      have hw : bW (gU D k) A s H locs [(x0, .inr (6, [.ref pl, .ref ho, .ref rs, .ref to, .ref wt, .ref bo])), (wt, .inr (2, [.ref wtw, .ref wtv, .int (nI wz)])), (wtw, .inl (k 0, 6, .inl WF)), (wtv, .inl (k 0, 6, .inl WG))] := hw.sub [0, 1, 2, 3] (by decide) rfl
      refine lv_aload_n hx hb d_HM_corner_26 rfl (lv_at hl 0 rfl) ?_
      refine b_get (T := F_HM) hm hw 0 rfl rfl (fun w h => uw_of w (u_HM w h)) 4 (by decide) (uw_of _ k_208) rfl d_HM_corner_27 ?_
      refine lv_iload_n hx hb d_HM_corner_30 rfl (lv_at hl 1 rfl) ?_
      refine b_goi (wr := [(x0, .inr (6, [.ref pl, .ref ho, .ref rs, .ref to, .ref wt, .ref bo]))]) (b_runV (wc := [(wt, .inr (2, [.ref wtw, .ref wtv, .int (nI wz)])), (wtw, .inl (k 0, 6, .inl WF)), (wtv, .inl (k 0, 6, .inl WG))]) (As := [.int v]) (rest := []) (q0 := 1) hm hw (cwV 1 hts (gV uw_of k_449 k_446 k_447 (k_448) k_5) rfl rfl rfl (by decide +kernel) ⟨by decide, by decide⟩) (c_Ln_hasRoomAt l D k _ wt wtw wtv 6 WF WG wz v hz (by omega)) [1, 2, 3] (by decide) rfl rfl rfl rfl hl.1 rfl (Nat.le_of_ble_eq_true rfl) d_HM_corner_31 ⟨by decide, by decide⟩) hw [1, 2, 3] [0] rfl rfl (by decide) (by decide) (fun r _ H locs hp hw => ?_)
      have hw : bW (gU D k) A s H locs [(x0, .inr (6, [.ref pl, .ref ho, .ref rs, .ref to, .ref wt, .ref bo])), (wt, .inr (2, [.ref wtw, .ref wtv, .int (nI wz)])), (wtw, .inl (k 0, 6, .inl WF)), (wtv, .inl (k 0, 6, .inl WG))] := hw.sub [0, 1, 2, 3] (by decide) rfl
      have hr : r = 1 := by rcases hp with ⟨q, _⟩ | ⟨_, q⟩; exact q; exact absurd hroom q
      refine b_ti (y := nI 1) hr ?_
      refine b_gov (wr := [(x0, .inr (6, [.ref pl, .ref ho, .ref rs, .ref to, .ref wt, .ref bo])), (wt, .inr (2, [.ref wtw, .ref wtv, .int (nI wz)])), (wtw, .inl (k 0, 6, .inl WF)), (wtv, .inl (k 0, 6, .inl WG))]) (b_runS (wc := []) (As := [.int (nI 1)]) (rest := []) hm hw (va_cwS 1 hts (gS2 uw_of k_371 k_369 k_370 k_1) rfl rfl rfl (by decide +kernel) ⟨by decide, by decide⟩) (c_HM_requireState l D k _ ) [] (by decide) rfl rfl hl.1 rfl (Nat.le_of_ble_eq_true rfl) d_HM_corner_34 ⟨by decide, by decide⟩) hw [] [0, 1, 2, 3] rfl rfl (by decide) (by decide) (fun _ H locs _ hw => ?_)
      have hw : bW (gU D k) A s H locs [(x0, .inr (6, [.ref pl, .ref ho, .ref rs, .ref to, .ref wt, .ref bo])), (wt, .inr (2, [.ref wtw, .ref wtv, .int (nI wz)])), (wtw, .inl (k 0, 6, .inl WF)), (wtv, .inl (k 0, 6, .inl WG))] := hw.sub [0, 1, 2, 3] (by decide) rfl
      refine lv_aload_n hx hb d_HM_corner_37 rfl (lv_at hl 0 rfl) ?_
      refine b_get (T := F_HM) hm hw 0 rfl rfl (fun w h => uw_of w (u_HM w h)) 4 (by decide) (uw_of _ k_208) rfl d_HM_corner_38 ?_
      refine lv_iload_n hx hb d_HM_corner_41 rfl (lv_at hl 1 rfl) ?_
      refine lv_iload_n hx hb d_HM_corner_42 rfl (lv_at hl 2 rfl) ?_
      refine b_gov (wr := [(x0, .inr (6, [.ref pl, .ref ho, .ref rs, .ref to, .ref wt, .ref bo]))]) (b_runV (wc := [(wt, .inr (2, [.ref wtw, .ref wtv, .int (nI wz)])), (wtw, .inl (k 0, 6, .inl WF)), (wtv, .inl (k 0, 6, .inl WG))]) (As := [.int v, .int y]) (rest := []) (q0 := 1) hm hw (cwV 2 hts (gV uw_of k_453 k_450 k_451 (k_452) k_5) rfl rfl rfl (by decide +kernel) ⟨by decide, by decide⟩) (c_Ln_add l D k _ wt wtw wtv 6 WF WG wz v y hz (by omega) hroom) [1, 2, 3] (by decide) rfl rfl rfl rfl hl.1 rfl (Nat.le_of_ble_eq_true rfl) d_HM_corner_43 ⟨by decide, by decide⟩) hw [1, 2, 3] [0] rfl rfl (by decide) (by decide) (fun _ H locs _ hw => ?_)
      have hw : bW (gU D k) A s H locs [(x0, .inr (6, [.ref pl, .ref ho, .ref rs, .ref to, .ref wt, .ref bo])), (wt, .inr (2, [.ref wtw, .ref wtv, .int (nI (wz + 1))])), (wtw, .inl (k 0, 6, .inl (upd WF wz v))), (wtv, .inl (k 0, 6, .inl (upd WG wz y)))] := hw.sub [0, 1, 2, 3] (by decide) rfl
      refine lv_aload_n hx hb d_HM_corner_46 rfl (lv_at hl 0 rfl) ?_
      refine b_get (T := F_HM) hm hw 0 rfl rfl (fun w h => uw_of w (u_HM w h)) 4 (by decide) (uw_of _ k_208) rfl d_HM_corner_47 ?_
      refine b_getN (T := F_Ln) hm hw 1 rfl rfl (fun w h => uw_of w (u_Ln w h)) 2 (by decide) (k_57) rfl d_HM_corner_50 ?_
      exact b_iret (w' := fun _ => [(x0, .inr (6, [.ref pl, .ref ho, .ref rs, .ref to, .ref wt, .ref bo])), (wt, .inr (2, [.ref wtw, .ref wtv, .int (nI (wz + 1))])), (wtw, .inl (k 0, 6, .inl (upd WF wz v))), (wtv, .inl (k 0, 6, .inl (upd WG wz y)))]) () hm hw rfl d_HM_corner_53

set_option maxHeartbeats 4000000 in
set_option maxRecDepth 100000 in
theorem c_HM_ground (l : Launch) (D : va_G) (k : Nat → ClassId) (sz : Nat) (x0 ho pl rs to wt bo bow bov bz : Nat) (BF BG : Nat → Int32) (v : Int32) (hz : bz < 36) (hv : bhLast BF bz ≤ v ∧ v ≤ nI 1000) : Met l y_HM_ground (uw y_HM_ground b_HM_ground 2 (some .int)) (rU 2 0 0) (va_Pc [.ref x0, .int v] (bP (gU D k) [(x0, .inr (6, [.ref pl, .ref ho, .ref rs, .ref to, .ref wt, .ref bo])), (bo, .inr (0, [.ref bow, .int (nI bz), .ref bov])), (bow, .inl (k 0, 36, .inl BF)), (bov, .inl (k 0, 36, .inl BG))] sz)) (va_Qi (fun (r : Int32) (_ : Unit) => r = nI (bz + 1)) (fun u => bQ (gU D k) (va_A [(x0, .inr (6, [.ref pl, .ref ho, .ref rs, .ref to, .ref wt, .ref bo])), (bo, .inr (0, [.ref bow, .int (nI bz), .ref bov])), (bow, .inl (k 0, 36, .inl BF)), (bov, .inl (k 0, 36, .inl BG))] sz) ([(x0, .inr (6, [.ref pl, .ref ho, .ref rs, .ref to, .ref wt, .ref bo])), (bo, .inr (0, [.ref bow, .int (nI (bz + 1)), .ref bov])), (bow, .inl (k 0, 36, .inl (upd BF bz v))), (bov, .inl (k 0, 36, .inl BG))])) (va_A [(x0, .inr (6, [.ref pl, .ref ho, .ref rs, .ref to, .ref wt, .ref bo])), (bo, .inr (0, [.ref bow, .int (nI bz), .ref bov])), (bow, .inl (k 0, 36, .inl BF)), (bov, .inl (k 0, 36, .inl BG))] sz)) (rU 2 0 0).cells (rU 2 0 0).slots (va_A [(x0, .inr (6, [.ref pl, .ref ho, .ref rs, .ref to, .ref wt, .ref bo])), (bo, .inr (0, [.ref bow, .int (nI bz), .ref bov])), (bow, .inl (k 0, 36, .inl BF)), (bov, .inl (k 0, 36, .inl BG))] sz) := by
  refine b_start (Qc := fun A => va_Qi (fun (r : Int32) (_ : Unit) => r = nI (bz + 1)) (fun u => bQ (gU D k) A ([(x0, .inr (6, [.ref pl, .ref ho, .ref rs, .ref to, .ref wt, .ref bo])), (bo, .inr (0, [.ref bow, .int (nI (bz + 1)), .ref bov])), (bow, .inl (k 0, 36, .inl (upd BF bz v))), (bov, .inl (k 0, 36, .inl BG))])) A) (by decide +kernel) (Nat.le_of_ble_eq_true rfl) ?_
  intro p e s m below meth c A hm hnm hw ls hl
  have hl : lv_has ls 2 [(0, .ref x0), (1, .int v)] := hl
  have hx := hm.1
  have hb := hm.2.1
  have hown := hm.2.2.2.2.1
  have hts := hm.2.2.2.2.2.1
  refine lv_iload_n hx hb d_HM_ground_0 rfl (lv_at hl 1 rfl) ?_
  refine lv_aload_n hx hb d_HM_ground_1 rfl (lv_at hl 0 rfl) ?_
  refine b_get (T := F_HM) hm hw 0 rfl rfl (fun w h => uw_of w (u_HM w h)) 5 (by decide) (uw_of _ k_209) rfl d_HM_ground_2 ?_
  refine b_goi (wr := [(x0, .inr (6, [.ref pl, .ref ho, .ref rs, .ref to, .ref wt, .ref bo]))]) (b_runV (wc := [(bo, .inr (0, [.ref bow, .int (nI bz), .ref bov])), (bow, .inl (k 0, 36, .inl BF)), (bov, .inl (k 0, 36, .inl BG))]) (As := []) (rest := [.int v]) (q0 := 1) hm hw (cwV 0 hts (gV uw_of k_574 k_571 k_572 (k_573) k_8) rfl rfl rfl (by decide +kernel) ⟨by decide, by decide⟩) (c_Bh_lastNumber l D k _ bo bow bov BF BG bz (by omega)) [1, 2, 3] (by decide) rfl rfl rfl rfl hl.1 rfl (Nat.le_of_ble_eq_true rfl) d_HM_ground_5 ⟨by decide, by decide⟩) hw [1, 2, 3] [0] rfl rfl (by decide) (by decide) (fun r5 _ H locs hl5 hw => ?_)
  have hw : bW (gU D k) A s H locs [(x0, .inr (6, [.ref pl, .ref ho, .ref rs, .ref to, .ref wt, .ref bo])), (bo, .inr (0, [.ref bow, .int (nI bz), .ref bov])), (bow, .inl (k 0, 36, .inl BF)), (bov, .inl (k 0, 36, .inl BG))] := hw.sub [0, 1, 2, 3] (by decide) rfl
  refine lv_sipush (v := nI 1000) hx hb d_HM_ground_8 (by decide) ?_
  refine b_goi (wr := [(x0, .inr (6, [.ref pl, .ref ho, .ref rs, .ref to, .ref wt, .ref bo])), (bo, .inr (0, [.ref bow, .int (nI bz), .ref bov])), (bow, .inl (k 0, 36, .inl BF)), (bov, .inl (k 0, 36, .inl BG))]) (b_runS (wc := []) (As := [.int v, .int r5, .int (nI 1000)]) (rest := []) hm hw (va_cwS 3 hts (gS2 uw_of k_297 k_295 k_296 k_1) rfl rfl rfl (by decide +kernel) ⟨by decide, by decide⟩) (c_HM_isWithin l D k _ v r5 (nI 1000)) [] (by decide) rfl rfl hl.1 rfl (Nat.le_of_ble_eq_true rfl) d_HM_ground_11 ⟨by decide, by decide⟩) hw [] [0, 1, 2, 3] rfl rfl (by decide) (by decide) (fun r _ H locs hp hw => ?_)
  have hw : bW (gU D k) A s H locs [(x0, .inr (6, [.ref pl, .ref ho, .ref rs, .ref to, .ref wt, .ref bo])), (bo, .inr (0, [.ref bow, .int (nI bz), .ref bov])), (bow, .inl (k 0, 36, .inl BF)), (bov, .inl (k 0, 36, .inl BG))] := hw.sub [0, 1, 2, 3] (by decide) rfl
  have hr : r = 1 := by rcases hp with ⟨q, _⟩ | ⟨_, q⟩; exact q; exact absurd (by rw [hl5]; exact hv) q
  refine b_ti (y := nI 1) hr ?_
  refine b_gov (wr := [(x0, .inr (6, [.ref pl, .ref ho, .ref rs, .ref to, .ref wt, .ref bo])), (bo, .inr (0, [.ref bow, .int (nI bz), .ref bov])), (bow, .inl (k 0, 36, .inl BF)), (bov, .inl (k 0, 36, .inl BG))]) (b_runS (wc := []) (As := [.int (nI 1)]) (rest := []) hm hw (va_cwS 1 hts (gS2 uw_of k_301 k_299 k_300 k_1) rfl rfl rfl (by decide +kernel) ⟨by decide, by decide⟩) (c_HM_requireArgument l D k _ ) [] (by decide) rfl rfl hl.1 rfl (Nat.le_of_ble_eq_true rfl) d_HM_ground_14 ⟨by decide, by decide⟩) hw [] [0, 1, 2, 3] rfl rfl (by decide) (by decide) (fun _ H locs _ hw => ?_)
  have hw : bW (gU D k) A s H locs [(x0, .inr (6, [.ref pl, .ref ho, .ref rs, .ref to, .ref wt, .ref bo])), (bo, .inr (0, [.ref bow, .int (nI bz), .ref bov])), (bow, .inl (k 0, 36, .inl BF)), (bov, .inl (k 0, 36, .inl BG))] := hw.sub [0, 1, 2, 3] (by decide) rfl
  refine lv_aload_n hx hb d_HM_ground_17 rfl (lv_at hl 0 rfl) ?_
  refine b_get (T := F_HM) hm hw 0 rfl rfl (fun w h => uw_of w (u_HM w h)) 5 (by decide) (uw_of _ k_209) rfl d_HM_ground_18 ?_
  refine b_getN (T := F_Bh) hm hw 1 rfl rfl (fun w h => uw_of w (u_Bh w h)) 1 (by decide) (k_194) rfl d_HM_ground_21 ?_
  refine lv_bipush (v := nI 36) hx hb d_HM_ground_24 (by decide) ?_
  refine lv_icmp_ge (tgt := 33) hx hb d_HM_ground_26 (by decide) (fun c_26_0 => ?_) (fun c_26_0 => ?_)
  · skip
    have h_26_0 : 36 ≤ bz := yge c_26_0 (by omega) (by omega)
    exfalso; omega
  · skip
    have h_26_0 : bz < 36 := yltN c_26_0 (by omega) (by omega)
    refine lv_iconst (v := nI 1) hx hb d_HM_ground_29 (by decide) ?_
    refine lv_goto (tgt := 34) hx hb d_HM_ground_30 (by decide) ?_
    refine b_gov (wr := [(x0, .inr (6, [.ref pl, .ref ho, .ref rs, .ref to, .ref wt, .ref bo])), (bo, .inr (0, [.ref bow, .int (nI bz), .ref bov])), (bow, .inl (k 0, 36, .inl BF)), (bov, .inl (k 0, 36, .inl BG))]) (b_runS (wc := []) (As := [.int (nI 1)]) (rest := []) hm hw (va_cwS 1 hts (gS2 uw_of k_371 k_369 k_370 k_1) rfl rfl rfl (by decide +kernel) ⟨by decide, by decide⟩) (c_HM_requireState l D k _ ) [] (by decide) rfl rfl hl.1 rfl (Nat.le_of_ble_eq_true rfl) d_HM_ground_34 ⟨by decide, by decide⟩) hw [] [0, 1, 2, 3] rfl rfl (by decide) (by decide) (fun _ H locs _ hw => ?_)
    have hw : bW (gU D k) A s H locs [(x0, .inr (6, [.ref pl, .ref ho, .ref rs, .ref to, .ref wt, .ref bo])), (bo, .inr (0, [.ref bow, .int (nI bz), .ref bov])), (bow, .inl (k 0, 36, .inl BF)), (bov, .inl (k 0, 36, .inl BG))] := hw.sub [0, 1, 2, 3] (by decide) rfl
    refine lv_aload_n hx hb d_HM_ground_37 rfl (lv_at hl 0 rfl) ?_
    refine b_get (T := F_HM) hm hw 0 rfl rfl (fun w h => uw_of w (u_HM w h)) 5 (by decide) (uw_of _ k_209) rfl d_HM_ground_38 ?_
    refine lv_iload_n hx hb d_HM_ground_41 rfl (lv_at hl 1 rfl) ?_
    refine b_gov (wr := [(x0, .inr (6, [.ref pl, .ref ho, .ref rs, .ref to, .ref wt, .ref bo]))]) (b_runV (wc := [(bo, .inr (0, [.ref bow, .int (nI bz), .ref bov])), (bow, .inl (k 0, 36, .inl BF)), (bov, .inl (k 0, 36, .inl BG))]) (As := [.int v]) (rest := []) (q0 := 1) hm hw (cwV 1 hts (gV uw_of k_578 k_575 k_576 (k_577) k_8) rfl rfl rfl (by decide +kernel) ⟨by decide, by decide⟩) (c_Bh_add l D k _ bo bow bov BF BG bz v hz) [1, 2, 3] (by decide) rfl rfl rfl rfl hl.1 rfl (Nat.le_of_ble_eq_true rfl) d_HM_ground_42 ⟨by decide, by decide⟩) hw [1, 2, 3] [0] rfl rfl (by decide) (by decide) (fun _ H locs _ hw => ?_)
    have hw : bW (gU D k) A s H locs [(x0, .inr (6, [.ref pl, .ref ho, .ref rs, .ref to, .ref wt, .ref bo])), (bo, .inr (0, [.ref bow, .int (nI (bz + 1)), .ref bov])), (bow, .inl (k 0, 36, .inl (upd BF bz v))), (bov, .inl (k 0, 36, .inl BG))] := hw.sub [0, 1, 2, 3] (by decide) rfl
    refine lv_aload_n hx hb d_HM_ground_45 rfl (lv_at hl 0 rfl) ?_
    refine b_get (T := F_HM) hm hw 0 rfl rfl (fun w h => uw_of w (u_HM w h)) 5 (by decide) (uw_of _ k_209) rfl d_HM_ground_46 ?_
    refine b_getN (T := F_Bh) hm hw 1 rfl rfl (fun w h => uw_of w (u_Bh w h)) 1 (by decide) (k_194) rfl d_HM_ground_49 ?_
    exact b_iret (w' := fun _ => [(x0, .inr (6, [.ref pl, .ref ho, .ref rs, .ref to, .ref wt, .ref bo])), (bo, .inr (0, [.ref bow, .int (nI (bz + 1)), .ref bov])), (bow, .inl (k 0, 36, .inl (upd BF bz v))), (bov, .inl (k 0, 36, .inl BG))]) () hm hw rfl d_HM_ground_52

set_option maxHeartbeats 4000000 in
set_option maxRecDepth 100000 in
theorem c_HM_load (l : Launch) (D : va_G) (k : Nat → ClassId) (sz : Nat) (x0 ho pl rs to wt bo bow bov bz h : Nat) (BF BG : Nat → Int32) (v : Int32) (hh : h < 36) (hv : (-1000) ≤ v ∧ v ≤ nI 1000) : Met l y_HM_load (uw y_HM_load b_HM_load 4 (some .int)) (rU 2 0 0) (va_Pc [.ref x0, .int (nI h), .int v] (bP (gU D k) [(x0, .inr (6, [.ref pl, .ref ho, .ref rs, .ref to, .ref wt, .ref bo])), (bo, .inr (0, [.ref bow, .int (nI bz), .ref bov])), (bow, .inl (k 0, 36, .inl BF)), (bov, .inl (k 0, 36, .inl BG))] sz)) (va_Qi (fun (r : Int32) (_ : Unit) => r = BG h) (fun u => bQ (gU D k) (va_A [(x0, .inr (6, [.ref pl, .ref ho, .ref rs, .ref to, .ref wt, .ref bo])), (bo, .inr (0, [.ref bow, .int (nI bz), .ref bov])), (bow, .inl (k 0, 36, .inl BF)), (bov, .inl (k 0, 36, .inl BG))] sz) ([(x0, .inr (6, [.ref pl, .ref ho, .ref rs, .ref to, .ref wt, .ref bo])), (bo, .inr (0, [.ref bow, .int (nI bz), .ref bov])), (bow, .inl (k 0, 36, .inl BF)), (bov, .inl (k 0, 36, .inl (upd BG h v)))])) (va_A [(x0, .inr (6, [.ref pl, .ref ho, .ref rs, .ref to, .ref wt, .ref bo])), (bo, .inr (0, [.ref bow, .int (nI bz), .ref bov])), (bow, .inl (k 0, 36, .inl BF)), (bov, .inl (k 0, 36, .inl BG))] sz)) (rU 2 0 0).cells (rU 2 0 0).slots (va_A [(x0, .inr (6, [.ref pl, .ref ho, .ref rs, .ref to, .ref wt, .ref bo])), (bo, .inr (0, [.ref bow, .int (nI bz), .ref bov])), (bow, .inl (k 0, 36, .inl BF)), (bov, .inl (k 0, 36, .inl BG))] sz) := by
  refine b_start (Qc := fun A => va_Qi (fun (r : Int32) (_ : Unit) => r = BG h) (fun u => bQ (gU D k) A ([(x0, .inr (6, [.ref pl, .ref ho, .ref rs, .ref to, .ref wt, .ref bo])), (bo, .inr (0, [.ref bow, .int (nI bz), .ref bov])), (bow, .inl (k 0, 36, .inl BF)), (bov, .inl (k 0, 36, .inl (upd BG h v)))])) A) (by decide +kernel) (Nat.le_of_ble_eq_true rfl) ?_
  intro p e s m below meth c A hm hnm hw ls hl
  have hl : lv_has ls 4 [(0, .ref x0), (1, .int (nI h)), (2, .int v)] := hl
  have hx := hm.1
  have hb := hm.2.1
  have hown := hm.2.2.2.2.1
  have hts := hm.2.2.2.2.2.1
  refine lv_iload_n hx hb d_HM_load_0 rfl (lv_at hl 1 rfl) ?_
  refine b_goi (wr := [(x0, .inr (6, [.ref pl, .ref ho, .ref rs, .ref to, .ref wt, .ref bo])), (bo, .inr (0, [.ref bow, .int (nI bz), .ref bov])), (bow, .inl (k 0, 36, .inl BF)), (bov, .inl (k 0, 36, .inl BG))]) (b_runS (wc := []) (As := [.int (nI h)]) (rest := []) hm hw (va_cwS 1 hts (gS2 uw_of k_465 k_463 k_464 k_1) rfl rfl rfl (by decide +kernel) ⟨by decide, by decide⟩) (c_HM_isHour l D k _ (nI h)) [] (by decide) rfl rfl hl.1 rfl (Nat.le_of_ble_eq_true rfl) d_HM_load_1 ⟨by decide, by decide⟩) hw [] [0, 1, 2, 3] rfl rfl (by decide) (by decide) (fun r _ H locs hp hw => ?_)
  have hw : bW (gU D k) A s H locs [(x0, .inr (6, [.ref pl, .ref ho, .ref rs, .ref to, .ref wt, .ref bo])), (bo, .inr (0, [.ref bow, .int (nI bz), .ref bov])), (bow, .inl (k 0, 36, .inl BF)), (bov, .inl (k 0, 36, .inl BG))] := hw.sub [0, 1, 2, 3] (by decide) rfl
  have hr : r = 1 := by rcases hp with ⟨q, _⟩ | ⟨_, q⟩; exact q; exact absurd (in_n (by omega) (by omega) (by omega)) q
  refine b_ti (y := nI 1) hr ?_
  refine lv_if_eq (tgt := 24) hx hb d_HM_load_4 (by decide) (fun c_4_0 => ?_) (fun c_4_0 => ?_)
  · skip
    exact absurd c_4_0 (by decide)
  · skip
    refine lv_iload_n hx hb d_HM_load_7 rfl (lv_at hl 2 rfl) ?_
    refine lv_sipush (v := (-1000)) hx hb d_HM_load_8 (by decide) ?_
    refine lv_sipush (v := nI 1000) hx hb d_HM_load_11 (by decide) ?_
    refine b_goi (wr := [(x0, .inr (6, [.ref pl, .ref ho, .ref rs, .ref to, .ref wt, .ref bo])), (bo, .inr (0, [.ref bow, .int (nI bz), .ref bov])), (bow, .inl (k 0, 36, .inl BF)), (bov, .inl (k 0, 36, .inl BG))]) (b_runS (wc := []) (As := [.int v, .int (-1000), .int (nI 1000)]) (rest := []) hm hw (va_cwS 3 hts (gS2 uw_of k_297 k_295 k_296 k_1) rfl rfl rfl (by decide +kernel) ⟨by decide, by decide⟩) (c_HM_isWithin l D k _ v (-1000) (nI 1000)) [] (by decide) rfl rfl hl.1 rfl (Nat.le_of_ble_eq_true rfl) d_HM_load_14 ⟨by decide, by decide⟩) hw [] [0, 1, 2, 3] rfl rfl (by decide) (by decide) (fun r _ H locs hp hw => ?_)
    have hw : bW (gU D k) A s H locs [(x0, .inr (6, [.ref pl, .ref ho, .ref rs, .ref to, .ref wt, .ref bo])), (bo, .inr (0, [.ref bow, .int (nI bz), .ref bov])), (bow, .inl (k 0, 36, .inl BF)), (bov, .inl (k 0, 36, .inl BG))] := hw.sub [0, 1, 2, 3] (by decide) rfl
    have hr : r = 1 := by rcases hp with ⟨q, _⟩ | ⟨_, q⟩; exact q; exact absurd (hv) q
    refine b_ti (y := nI 1) hr ?_
    refine lv_if_eq (tgt := 24) hx hb d_HM_load_17 (by decide) (fun c_17_1 => ?_) (fun c_17_1 => ?_)
    · skip
      exact absurd c_17_1 (by decide)
    · skip
      refine lv_iconst (v := nI 1) hx hb d_HM_load_20 (by decide) ?_
      refine lv_goto (tgt := 25) hx hb d_HM_load_21 (by decide) ?_
      refine b_gov (wr := [(x0, .inr (6, [.ref pl, .ref ho, .ref rs, .ref to, .ref wt, .ref bo])), (bo, .inr (0, [.ref bow, .int (nI bz), .ref bov])), (bow, .inl (k 0, 36, .inl BF)), (bov, .inl (k 0, 36, .inl BG))]) (b_runS (wc := []) (As := [.int (nI 1)]) (rest := []) hm hw (va_cwS 1 hts (gS2 uw_of k_301 k_299 k_300 k_1) rfl rfl rfl (by decide +kernel) ⟨by decide, by decide⟩) (c_HM_requireArgument l D k _ ) [] (by decide) rfl rfl hl.1 rfl (Nat.le_of_ble_eq_true rfl) d_HM_load_25 ⟨by decide, by decide⟩) hw [] [0, 1, 2, 3] rfl rfl (by decide) (by decide) (fun _ H locs _ hw => ?_)
      have hw : bW (gU D k) A s H locs [(x0, .inr (6, [.ref pl, .ref ho, .ref rs, .ref to, .ref wt, .ref bo])), (bo, .inr (0, [.ref bow, .int (nI bz), .ref bov])), (bow, .inl (k 0, 36, .inl BF)), (bov, .inl (k 0, 36, .inl BG))] := hw.sub [0, 1, 2, 3] (by decide) rfl
      refine lv_aload_n hx hb d_HM_load_28 rfl (lv_at hl 0 rfl) ?_
      refine b_get (T := F_HM) hm hw 0 rfl rfl (fun w h => uw_of w (u_HM w h)) 5 (by decide) (uw_of _ k_209) rfl d_HM_load_29 ?_
      refine b_getN (T := F_Bh) hm hw 1 rfl rfl (fun w h => uw_of w (u_Bh w h)) 2 (by decide) (k_196) rfl d_HM_load_32 ?_
      refine lv_iload_n hx hb d_HM_load_35 rfl (lv_at hl 1 rfl) ?_
      refine b_iald (i := h) hm hw 3 0 rfl rfl (by omega) (by omega) d_HM_load_36 ?_
      refine lv_istore_n (lv' := [(3, .int (BG h)), (0, .ref x0), (1, .int (nI h)), (2, .int v)]) hx hb d_HM_load_37 rfl hl (by decide) rfl (fun ls hl => ?_)
      refine lv_aload_n hx hb d_HM_load_38 rfl (lv_at hl 1 rfl) ?_
      refine b_get (T := F_HM) hm hw 0 rfl rfl (fun w h => uw_of w (u_HM w h)) 5 (by decide) (uw_of _ k_209) rfl d_HM_load_39 ?_
      refine b_getN (T := F_Bh) hm hw 1 rfl rfl (fun w h => uw_of w (u_Bh w h)) 2 (by decide) (k_196) rfl d_HM_load_42 ?_
      refine lv_iload_n hx hb d_HM_load_45 rfl (lv_at hl 2 rfl) ?_
      refine lv_iload_n hx hb d_HM_load_46 rfl (lv_at hl 3 rfl) ?_
      refine b_iast (i := h) hm hw 3 0 rfl rfl (by omega) (by omega) d_HM_load_47 (w1 := [(x0, .inr (6, [.ref pl, .ref ho, .ref rs, .ref to, .ref wt, .ref bo])), (bo, .inr (0, [.ref bow, .int (nI bz), .ref bov])), (bow, .inl (k 0, 36, .inl BF)), (bov, .inl (k 0, 36, .inl (upd BG h v)))]) rfl (fun H locs hw => ?_)
      refine lv_iload_n hx hb d_HM_load_48 rfl (lv_at hl 0 rfl) ?_
      exact b_iret (w' := fun _ => [(x0, .inr (6, [.ref pl, .ref ho, .ref rs, .ref to, .ref wt, .ref bo])), (bo, .inr (0, [.ref bow, .int (nI bz), .ref bov])), (bow, .inl (k 0, 36, .inl BF)), (bov, .inl (k 0, 36, .inl (upd BG h v)))]) () hm hw rfl d_HM_load_49

set_option maxHeartbeats 4000000 in
set_option maxRecDepth 100000 in
theorem c_HM_fall (l : Launch) (D : va_G) (k : Nat → ClassId) (sz : Nat) (x0 ho pl rs to wt bo bow bov bz h : Nat) (BF BG : Nat → Int32) (hh : h < 36) (hz : bz ≤ 36) : Met l y_HM_fall (uw y_HM_fall b_HM_fall 2 (some .long)) (rU 3 0 0) (va_Pc [.ref x0, .int (nI h)] (bP (gU D k) [(x0, .inr (6, [.ref pl, .ref ho, .ref rs, .ref to, .ref wt, .ref bo])), (bo, .inr (0, [.ref bow, .int (nI bz), .ref bov])), (bow, .inl (k 0, 36, .inl BF)), (bov, .inl (k 0, 36, .inl BG))] sz)) (va_Ql (fun (r : Int64) (_ : Unit) => r = bhFall BF BG bz h (h + 1)) (fun u => bQ (gU D k) (va_A [(x0, .inr (6, [.ref pl, .ref ho, .ref rs, .ref to, .ref wt, .ref bo])), (bo, .inr (0, [.ref bow, .int (nI bz), .ref bov])), (bow, .inl (k 0, 36, .inl BF)), (bov, .inl (k 0, 36, .inl BG))] sz) ([(x0, .inr (6, [.ref pl, .ref ho, .ref rs, .ref to, .ref wt, .ref bo])), (bo, .inr (0, [.ref bow, .int (nI bz), .ref bov])), (bow, .inl (k 0, 36, .inl BF)), (bov, .inl (k 0, 36, .inl BG))])) (va_A [(x0, .inr (6, [.ref pl, .ref ho, .ref rs, .ref to, .ref wt, .ref bo])), (bo, .inr (0, [.ref bow, .int (nI bz), .ref bov])), (bow, .inl (k 0, 36, .inl BF)), (bov, .inl (k 0, 36, .inl BG))] sz)) (rU 3 0 0).cells (rU 3 0 0).slots (va_A [(x0, .inr (6, [.ref pl, .ref ho, .ref rs, .ref to, .ref wt, .ref bo])), (bo, .inr (0, [.ref bow, .int (nI bz), .ref bov])), (bow, .inl (k 0, 36, .inl BF)), (bov, .inl (k 0, 36, .inl BG))] sz) := by
  refine b_start (Qc := fun A => va_Ql (fun (r : Int64) (_ : Unit) => r = bhFall BF BG bz h (h + 1)) (fun u => bQ (gU D k) A ([(x0, .inr (6, [.ref pl, .ref ho, .ref rs, .ref to, .ref wt, .ref bo])), (bo, .inr (0, [.ref bow, .int (nI bz), .ref bov])), (bow, .inl (k 0, 36, .inl BF)), (bov, .inl (k 0, 36, .inl BG))])) A) (by decide +kernel) (Nat.le_of_ble_eq_true rfl) ?_
  intro p e s m below meth c A hm hnm hw ls hl
  have hl : lv_has ls 2 [(0, .ref x0), (1, .int (nI h))] := hl
  have hx := hm.1
  have hb := hm.2.1
  have hown := hm.2.2.2.2.1
  have hts := hm.2.2.2.2.2.1
  refine lv_iload_n hx hb d_HM_fall_0 rfl (lv_at hl 1 rfl) ?_
  refine b_goi (wr := [(x0, .inr (6, [.ref pl, .ref ho, .ref rs, .ref to, .ref wt, .ref bo])), (bo, .inr (0, [.ref bow, .int (nI bz), .ref bov])), (bow, .inl (k 0, 36, .inl BF)), (bov, .inl (k 0, 36, .inl BG))]) (b_runS (wc := []) (As := [.int (nI h)]) (rest := []) hm hw (va_cwS 1 hts (gS2 uw_of k_465 k_463 k_464 k_1) rfl rfl rfl (by decide +kernel) ⟨by decide, by decide⟩) (c_HM_isHour l D k _ (nI h)) [] (by decide) rfl rfl hl.1 rfl (Nat.le_of_ble_eq_true rfl) d_HM_fall_1 ⟨by decide, by decide⟩) hw [] [0, 1, 2, 3] rfl rfl (by decide) (by decide) (fun r _ H locs hp hw => ?_)
  have hw : bW (gU D k) A s H locs [(x0, .inr (6, [.ref pl, .ref ho, .ref rs, .ref to, .ref wt, .ref bo])), (bo, .inr (0, [.ref bow, .int (nI bz), .ref bov])), (bow, .inl (k 0, 36, .inl BF)), (bov, .inl (k 0, 36, .inl BG))] := hw.sub [0, 1, 2, 3] (by decide) rfl
  have hr : r = 1 := by rcases hp with ⟨q, _⟩ | ⟨_, q⟩; exact q; exact absurd (in_n (by omega) (by omega) (by omega)) q
  refine b_ti (y := nI 1) hr ?_
  refine b_gov (wr := [(x0, .inr (6, [.ref pl, .ref ho, .ref rs, .ref to, .ref wt, .ref bo])), (bo, .inr (0, [.ref bow, .int (nI bz), .ref bov])), (bow, .inl (k 0, 36, .inl BF)), (bov, .inl (k 0, 36, .inl BG))]) (b_runS (wc := []) (As := [.int (nI 1)]) (rest := []) hm hw (va_cwS 1 hts (gS2 uw_of k_301 k_299 k_300 k_1) rfl rfl rfl (by decide +kernel) ⟨by decide, by decide⟩) (c_HM_requireArgument l D k _ ) [] (by decide) rfl rfl hl.1 rfl (Nat.le_of_ble_eq_true rfl) d_HM_fall_4 ⟨by decide, by decide⟩) hw [] [0, 1, 2, 3] rfl rfl (by decide) (by decide) (fun _ H locs _ hw => ?_)
  have hw : bW (gU D k) A s H locs [(x0, .inr (6, [.ref pl, .ref ho, .ref rs, .ref to, .ref wt, .ref bo])), (bo, .inr (0, [.ref bow, .int (nI bz), .ref bov])), (bow, .inl (k 0, 36, .inl BF)), (bov, .inl (k 0, 36, .inl BG))] := hw.sub [0, 1, 2, 3] (by decide) rfl
  refine lv_aload_n hx hb d_HM_fall_7 rfl (lv_at hl 0 rfl) ?_
  refine b_get (T := F_HM) hm hw 0 rfl rfl (fun w h => uw_of w (u_HM w h)) 5 (by decide) (uw_of _ k_209) rfl d_HM_fall_8 ?_
  refine lv_iload_n hx hb d_HM_fall_11 rfl (lv_at hl 1 rfl) ?_
  refine b_gol (wr := [(x0, .inr (6, [.ref pl, .ref ho, .ref rs, .ref to, .ref wt, .ref bo]))]) (b_runV (wc := [(bo, .inr (0, [.ref bow, .int (nI bz), .ref bov])), (bow, .inl (k 0, 36, .inl BF)), (bov, .inl (k 0, 36, .inl BG))]) (As := [.int (nI h)]) (rest := []) (q0 := 1) hm hw (cwV 1 hts (gV uw_of k_596 k_593 k_594 (k_595) k_8) rfl rfl rfl (by decide +kernel) ⟨by decide, by decide⟩) (c_Bh_fallIn l D k _ bo bow bov BF BG bz h hz hh) [1, 2, 3] (by decide) rfl rfl rfl rfl hl.1 rfl (Nat.le_of_ble_eq_true rfl) d_HM_fall_12 ⟨by decide, by decide⟩) hw [1, 2, 3] [0] rfl rfl (by decide) (by decide) (fun r _ H locs hq hw => ?_)
  have hw : bW (gU D k) A s H locs [(x0, .inr (6, [.ref pl, .ref ho, .ref rs, .ref to, .ref wt, .ref bo])), (bo, .inr (0, [.ref bow, .int (nI bz), .ref bov])), (bow, .inl (k 0, 36, .inl BF)), (bov, .inl (k 0, 36, .inl BG))] := hw.sub [0, 1, 2, 3] (by decide) rfl
  exact b_lret () hm hw hq d_HM_fall_15
