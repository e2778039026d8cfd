/-! the planner: small methods, a set as a choice, the best choice -/

set_option maxHeartbeats 4000000 in
set_option maxRecDepth 100000 in
theorem c_Pl_forgetUpTo (l : Launch) (D : va_G) (k : Nat → ClassId) (sz : Nat) (pl se ab he po sx be ho sa ov sta stl h : Nat) (hh : h < 36) (hs : stl ≤ 36) : Met l y_Pl_forgetUpTo (uw y_Pl_forgetUpTo b_Pl_forgetUpTo 2 none) (rU 1 0 0) (va_Pc [.ref pl, .int (nI h)] (bP (gU D k) [(pl, .inr (4, [.ref ho, .ref sa, .int (nI ov), .int (nI sta), .int (nI stl), .ref se, .ref ab, .ref he, .ref po, .ref sx, .ref be]))] sz)) (va_Qv (fun (_ : Unit) => True) (fun u => bQ (gU D k) (va_A [(pl, .inr (4, [.ref ho, .ref sa, .int (nI ov), .int (nI sta), .int (nI stl), .ref se, .ref ab, .ref he, .ref po, .ref sx, .ref be]))] sz) ([(pl, .inr (4, [.ref ho, .ref sa, .int (nI ov), .int (nI sta), .int (nI (if stl < h + 1 then h + 1 else stl)), .ref se, .ref ab, .ref he, .ref po, .ref sx, .ref be]))])) (va_A [(pl, .inr (4, [.ref ho, .ref sa, .int (nI ov), .int (nI sta), .int (nI stl), .ref se, .ref ab, .ref he, .ref po, .ref sx, .ref be]))] sz)) (rU 1 0 0).cells (rU 1 0 0).slots (va_A [(pl, .inr (4, [.ref ho, .ref sa, .int (nI ov), .int (nI sta), .int (nI stl), .ref se, .ref ab, .ref he, .ref po, .ref sx, .ref be]))] sz) := by
  refine b_start (Qc := fun A => va_Qv (fun (_ : Unit) => True) (fun u => bQ (gU D k) A ([(pl, .inr (4, [.ref ho, .ref sa, .int (nI ov), .int (nI sta), .int (nI (if stl < h + 1 then h + 1 else stl)), .ref se, .ref ab, .ref he, .ref po, .ref sx, .ref be]))])) A) (by decide +kernel) (Nat.le_of_ble_eq_true rfl) ?_
  intro p e s m below meth c A hm hnm hw ls hl
  have hl : lv_has ls 2 [(0, .ref pl), (1, .int (nI h))] := hl
  have hx := hm.1
  have hb := hm.2.1
  have hown := hm.2.2.2.2.1
  have hts := hm.2.2.2.2.2.1
  refine lv_aload_n hx hb d_Pl_forgetUpTo_0 rfl (lv_at hl 0 rfl) ?_
  refine lv_aload_n hx hb d_Pl_forgetUpTo_1 rfl (lv_at hl 0 rfl) ?_
  refine b_get (T := F_Pl) hm hw 0 rfl rfl (fun w h => uw_of w (u_Pl w h)) 4 (by decide) (uw_of _ k_152) rfl d_Pl_forgetUpTo_2 ?_
  refine lv_iload_n hx hb d_Pl_forgetUpTo_5 rfl (lv_at hl 1 rfl) ?_
  refine lv_iconst (v := nI 1) hx hb d_Pl_forgetUpTo_6 (by decide) ?_
  refine lv_iadd hx hb d_Pl_forgetUpTo_7 ?_
  refine b_ti (nI_add h 1) ?_
  refine b_goi (wr := [(pl, .inr (4, [.ref ho, .ref sa, .int (nI ov), .int (nI sta), .int (nI stl), .ref se, .ref ab, .ref he, .ref po, .ref sx, .ref be]))]) (b_runS (wc := []) (As := [.int (nI stl), .int (nI (h + 1))]) (rest := [.ref pl]) hm hw (va_cwS 2 hts (gS2 uw_of k_53 k_431 k_52 k_6) rfl rfl rfl (by decide +kernel) ⟨by decide, by decide⟩) (c_Ma_max l D k _ (nI stl) (nI (h + 1))) [] (by decide) rfl rfl hl.1 rfl (Nat.le_of_ble_eq_true rfl) d_Pl_forgetUpTo_8 ⟨by decide, by decide⟩) hw [] [0] rfl rfl (by decide) (by decide) (fun r _ H locs hp hw => ?_)
  have hw : bW (gU D k) A s H locs [(pl, .inr (4, [.ref ho, .ref sa, .int (nI ov), .int (nI sta), .int (nI stl), .ref se, .ref ab, .ref he, .ref po, .ref sx, .ref be]))] := hw.sub [0] (by decide) rfl
  refine b_ti (show r = nI (if stl < h + 1 then h + 1 else stl) by rw [hp]; by_cases q : stl < h + 1; rw [if_pos q, if_pos ((nI_ltI (by omega) (by omega)).mpr q)]; rw [if_neg q, if_neg (fun z => q ((nI_ltI (by omega) (by omega)).mp z))]) ?_
  refine b_put (T := F_Pl) hm hw 0 rfl rfl (fun w h => uw_of w (u_Pl w h)) t_Pl t_Pl_ok n_Pl 4 (by decide) (uw_of _ k_152) rfl rfl rfl (Nat.le_of_ble_eq_true rfl) d_Pl_forgetUpTo_11 (w1 := [(pl, .inr (4, [.ref ho, .ref sa, .int (nI ov), .int (nI sta), .int (nI (if stl < h + 1 then h + 1 else stl)), .ref se, .ref ab, .ref he, .ref po, .ref sx, .ref be]))]) rfl (fun H locs hw => ?_)
  exact b_vret (post := fun (_ : Unit) => True) (w' := fun u => [(pl, .inr (4, [.ref ho, .ref sa, .int (nI ov), .int (nI sta), .int (nI (if stl < h + 1 then h + 1 else stl)), .ref se, .ref ab, .ref he, .ref po, .ref sx, .ref be]))]) () hm hw (trivial) d_Pl_forgetUpTo_14

set_option maxHeartbeats 4000000 in
set_option maxRecDepth 100000 in
theorem c_Pl_hasPlan (l : Launch) (D : va_G) (k : Nat → ClassId) (sz : Nat) (pl se ab he po sx be ho sa ov sta stl : Nat) (BE : Nat → Option Nat) (hov : ov ≤ 36) (hsta : sta < 512) (bBE : ∀ j v, BE j = some v → v < 1125899906842624) : Met l y_Pl_hasPlan (uw y_Pl_hasPlan b_Pl_hasPlan 1 (some .boolean)) (rU 0 0 0) (va_Pc [.ref pl] (bP (gU D k) [(pl, .inr (4, [.ref ho, .ref sa, .int (nI ov), .int (nI sta), .int (nI stl), .ref se, .ref ab, .ref he, .ref po, .ref sx, .ref be])), (be, .inl (k 1, 18944, .inr (.inl (fun j => oL (BE j)))))] sz)) (va_Qi (fun (r : Int32) (_ : Unit) => (r = 1 ∧ ¬ BE (ov * 512 + sta) = none) ∨ (r = 0 ∧ BE (ov * 512 + sta) = none)) (fun u => bQ (gU D k) (va_A [(pl, .inr (4, [.ref ho, .ref sa, .int (nI ov), .int (nI sta), .int (nI stl), .ref se, .ref ab, .ref he, .ref po, .ref sx, .ref be])), (be, .inl (k 1, 18944, .inr (.inl (fun j => oL (BE j)))))] sz) ([(pl, .inr (4, [.ref ho, .ref sa, .int (nI ov), .int (nI sta), .int (nI stl), .ref se, .ref ab, .ref he, .ref po, .ref sx, .ref be])), (be, .inl (k 1, 18944, .inr (.inl (fun j => oL (BE j)))))])) (va_A [(pl, .inr (4, [.ref ho, .ref sa, .int (nI ov), .int (nI sta), .int (nI stl), .ref se, .ref ab, .ref he, .ref po, .ref sx, .ref be])), (be, .inl (k 1, 18944, .inr (.inl (fun j => oL (BE j)))))] sz)) (rU 0 0 0).cells (rU 0 0 0).slots (va_A [(pl, .inr (4, [.ref ho, .ref sa, .int (nI ov), .int (nI sta), .int (nI stl), .ref se, .ref ab, .ref he, .ref po, .ref sx, .ref be])), (be, .inl (k 1, 18944, .inr (.inl (fun j => oL (BE j)))))] sz) := by
  refine b_start (Qc := fun A => va_Qi (fun (r : Int32) (_ : Unit) => (r = 1 ∧ ¬ BE (ov * 512 + sta) = none) ∨ (r = 0 ∧ BE (ov * 512 + sta) = none)) (fun u => bQ (gU D k) A ([(pl, .inr (4, [.ref ho, .ref sa, .int (nI ov), .int (nI sta), .int (nI stl), .ref se, .ref ab, .ref he, .ref po, .ref sx, .ref be])), (be, .inl (k 1, 18944, .inr (.inl (fun j => oL (BE j)))))])) A) (by decide +kernel) (Nat.le_of_ble_eq_true rfl) ?_
  intro p e s m below meth c A hm hnm hw ls hl
  have hl : lv_has ls 1 [(0, .ref pl)] := hl
  have hx := hm.1
  have hb := hm.2.1
  have hown := hm.2.2.2.2.1
  have hts := hm.2.2.2.2.2.1
  refine lv_aload_n hx hb d_Pl_hasPlan_0 rfl (lv_at hl 0 rfl) ?_
  refine b_get (T := F_Pl) hm hw 0 rfl rfl (fun w h => uw_of w (u_Pl w h)) 10 (by decide) (uw_of _ k_159) rfl d_Pl_hasPlan_1 ?_
  refine lv_aload_n hx hb d_Pl_hasPlan_4 rfl (lv_at hl 0 rfl) ?_
  refine b_get (T := F_Pl) hm hw 0 rfl rfl (fun w h => uw_of w (u_Pl w h)) 2 (by decide) (uw_of _ k_148) rfl d_Pl_hasPlan_5 ?_
  refine lv_sipush (v := nI 512) hx hb d_Pl_hasPlan_8 (by decide) ?_
  refine lv_imul hx hb d_Pl_hasPlan_11 ?_
  refine b_ti (pk_mul ov 512) ?_
  refine lv_aload_n hx hb d_Pl_hasPlan_12 rfl (lv_at hl 0 rfl) ?_
  refine b_get (T := F_Pl) hm hw 0 rfl rfl (fun w h => uw_of w (u_Pl w h)) 3 (by decide) (uw_of _ k_150) rfl d_Pl_hasPlan_13 ?_
  refine lv_iadd hx hb d_Pl_hasPlan_16 ?_
  refine b_ti (nI_add (ov * 512) sta) ?_
  refine b_lald (i := ov * 512 + sta) hm hw 1 1 rfl rfl (by omega) (by omega) d_Pl_hasPlan_17 ?_
  refine b_tl (show (fun j => oL (BE j)) (ov * 512 + sta) = oL (BE (ov * 512 + sta)) from rfl) ?_
  refine lv_ldc2 (v := (-1)) hx hb hown (hts _ (uw_of _ k_264)) d_Pl_hasPlan_18 ?_
  refine W.lcmp hx hb d_Pl_hasPlan_21 ?_
  have hon := oL_none (x := BE (ov * 512 + sta)) (fun v hv => bBE _ v hv)
  refine lv_if_eq (tgt := 29) hx hb d_Pl_hasPlan_22 (by decide) (fun c_22_0 => ?_) (fun c_22_0 => ?_)
  · skip
    refine lv_iconst (v := nI 0) hx hb d_Pl_hasPlan_29 (by decide) ?_
    exact b_zret () hm hw (Or.inl rfl) (Or.inr ⟨rfl, by grind⟩) d_Pl_hasPlan_30
  · skip
    refine lv_iconst (v := nI 1) hx hb d_Pl_hasPlan_25 (by decide) ?_
    refine lv_goto (tgt := 30) hx hb d_Pl_hasPlan_26 (by decide) ?_
    exact b_zret () hm hw (Or.inr rfl) (Or.inl ⟨rfl, by grind⟩) d_Pl_hasPlan_30

set_option maxHeartbeats 4000000 in
set_option maxRecDepth 100000 in
theorem c_Pl_leastCents (l : Launch) (D : va_G) (k : Nat → ClassId) (sz : Nat) (pl se ab he po sx be ho sa ov sta stl : Nat) (BE : Nat → Option Nat) (hov : ov ≤ 36) (hsta : sta < 512) (bBE : ∀ j v, BE j = some v → v < 1125899906842624) : Met l y_Pl_leastCents (uw y_Pl_leastCents b_Pl_leastCents 1 (some .long)) (rU 1 0 0) (va_Pc [.ref pl] (bP (gU D k) [(pl, .inr (4, [.ref ho, .ref sa, .int (nI ov), .int (nI sta), .int (nI stl), .ref se, .ref ab, .ref he, .ref po, .ref sx, .ref be])), (be, .inl (k 1, 18944, .inr (.inl (fun j => oL (BE j)))))] sz)) (va_Ql (fun (r : Int64) (_ : Unit) => r = oL ((BE (ov * 512 + sta)).map (· / 8))) (fun u => bQ (gU D k) (va_A [(pl, .inr (4, [.ref ho, .ref sa, .int (nI ov), .int (nI sta), .int (nI stl), .ref se, .ref ab, .ref he, .ref po, .ref sx, .ref be])), (be, .inl (k 1, 18944, .inr (.inl (fun j => oL (BE j)))))] sz) ([(pl, .inr (4, [.ref ho, .ref sa, .int (nI ov), .int (nI sta), .int (nI stl), .ref se, .ref ab, .ref he, .ref po, .ref sx, .ref be])), (be, .inl (k 1, 18944, .inr (.inl (fun j => oL (BE j)))))])) (va_A [(pl, .inr (4, [.ref ho, .ref sa, .int (nI ov), .int (nI sta), .int (nI stl), .ref se, .ref ab, .ref he, .ref po, .ref sx, .ref be])), (be, .inl (k 1, 18944, .inr (.inl (fun j => oL (BE j)))))] sz)) (rU 1 0 0).cells (rU 1 0 0).slots (va_A [(pl, .inr (4, [.ref ho, .ref sa, .int (nI ov), .int (nI sta), .int (nI stl), .ref se, .ref ab, .ref he, .ref po, .ref sx, .ref be])), (be, .inl (k 1, 18944, .inr (.inl (fun j => oL (BE j)))))] sz) := by
  refine b_start (Qc := fun A => va_Ql (fun (r : Int64) (_ : Unit) => r = oL ((BE (ov * 512 + sta)).map (· / 8))) (fun u => bQ (gU D k) A ([(pl, .inr (4, [.ref ho, .ref sa, .int (nI ov), .int (nI sta), .int (nI stl), .ref se, .ref ab, .ref he, .ref po, .ref sx, .ref be])), (be, .inl (k 1, 18944, .inr (.inl (fun j => oL (BE j)))))])) A) (by decide +kernel) (Nat.le_of_ble_eq_true rfl) ?_
  intro p e s m below meth c A hm hnm hw ls hl
  have hl : lv_has ls 1 [(0, .ref pl)] := hl
  have hx := hm.1
  have hb := hm.2.1
  have hown := hm.2.2.2.2.1
  have hts := hm.2.2.2.2.2.1
  refine lv_aload_n hx hb d_Pl_leastCents_0 rfl (lv_at hl 0 rfl) ?_
  refine b_goi (wr := []) (b_runV (wc := [(pl, .inr (4, [.ref ho, .ref sa, .int (nI ov), .int (nI sta), .int (nI stl), .ref se, .ref ab, .ref he, .ref po, .ref sx, .ref be])), (be, .inl (k 1, 18944, .inr (.inl (fun j => oL (BE j)))))]) (As := []) (rest := []) (q0 := 0) hm hw (cwV 0 hts (gV uw_of k_281 k_278 k_279 (k_280) k_2) rfl rfl rfl (by decide +kernel) ⟨by decide, by decide⟩) (c_Pl_hasPlan l D k _ pl se ab he po sx be ho sa ov sta stl BE hov hsta bBE) [0, 1] (by decide) rfl rfl rfl rfl hl.1 rfl (Nat.le_of_ble_eq_true rfl) d_Pl_leastCents_1 ⟨by decide, by decide⟩) hw [0, 1] [] rfl rfl (by decide) (by decide) (fun r _ H locs hp hw => ?_)
  have hw : bW (gU D k) A s H locs [(pl, .inr (4, [.ref ho, .ref sa, .int (nI ov), .int (nI sta), .int (nI stl), .ref se, .ref ab, .ref he, .ref po, .ref sx, .ref be])), (be, .inl (k 1, 18944, .inr (.inl (fun j => oL (BE j)))))] := hw.sub [0, 1] (by decide) rfl
  refine lv_if_eq (tgt := 32) hx hb d_Pl_leastCents_4 (by decide) (fun c_4_0 => ?_) (fun c_4_0 => ?_)
  · skip
    have hv : BE (ov * 512 + sta) = none := by grind
    refine lv_ldc2 (v := (-1)) hx hb hown (hts _ (uw_of _ k_264)) d_Pl_leastCents_32 ?_
    exact b_lret () hm hw (by rw [hv]; rfl) d_Pl_leastCents_35
  · skip
    obtain ⟨v, hv⟩ : ∃ v, BE (ov * 512 + sta) = some v := Option.ne_none_iff_exists'.mp (by grind)
    have hvb := bBE _ _ hv
    refine lv_aload_n hx hb d_Pl_leastCents_7 rfl (lv_at hl 0 rfl) ?_
    refine b_get (T := F_Pl) hm hw 0 rfl rfl (fun w h => uw_of w (u_Pl w h)) 10 (by decide) (uw_of _ k_159) rfl d_Pl_leastCents_8 ?_
    refine lv_aload_n hx hb d_Pl_leastCents_11 rfl (lv_at hl 0 rfl) ?_
    refine b_get (T := F_Pl) hm hw 0 rfl rfl (fun w h => uw_of w (u_Pl w h)) 2 (by decide) (uw_of _ k_148) rfl d_Pl_leastCents_12 ?_
    refine lv_sipush (v := nI 512) hx hb d_Pl_leastCents_15 (by decide) ?_
    refine lv_imul hx hb d_Pl_leastCents_18 ?_
    refine b_ti (pk_mul ov 512) ?_
    refine lv_aload_n hx hb d_Pl_leastCents_19 rfl (lv_at hl 0 rfl) ?_
    refine b_get (T := F_Pl) hm hw 0 rfl rfl (fun w h => uw_of w (u_Pl w h)) 3 (by decide) (uw_of _ k_150) rfl d_Pl_leastCents_20 ?_
    refine lv_iadd hx hb d_Pl_leastCents_23 ?_
    refine b_ti (nI_add (ov * 512) sta) ?_
    refine b_lald (i := ov * 512 + sta) hm hw 1 1 rfl rfl (by omega) (by omega) d_Pl_leastCents_24 ?_
    refine b_tl (show (fun j => oL (BE j)) (ov * 512 + sta) = oL (BE (ov * 512 + sta)) from rfl) ?_
    refine b_tl (y := lN v) (by rw [hv]; rfl) ?_
    refine lv_ldc2 (v := 8) hx hb hown (hts _ (uw_of _ k_269)) d_Pl_leastCents_25 ?_
    refine b_tl (show (8 : Int64) = lN 8 from rfl) ?_
    refine lv_ldiv hx hb d_Pl_leastCents_28 (by first | assumption | decide) ?_
    refine b_tl (pk_lDiv (a := v) (b := 8) (by omega) (by omega) (by omega)) ?_
    refine lv_goto (tgt := 35) hx hb d_Pl_leastCents_29 (by decide) ?_
    exact b_lret () hm hw (by rw [hv]; rfl) d_Pl_leastCents_35

set_option maxHeartbeats 4000000 in
set_option maxRecDepth 100000 in
theorem c_Pl_heatOf (l : Launch) (D : va_G) (k : Nat → ClassId) (sz : Nat) (pl se ab he po sx be ho sa ov sta stl : Nat) (HE : Nat → Nat) (h st : Nat) (hh : h < 36) (hs : st < 8) : Met l y_Pl_heatOf (uw y_Pl_heatOf b_Pl_heatOf 3 (some .int)) (rU 0 0 0) (va_Pc [.ref pl, .int (nI h), .int (nI st)] (bP (gU D k) [(pl, .inr (4, [.ref ho, .ref sa, .int (nI ov), .int (nI sta), .int (nI stl), .ref se, .ref ab, .ref he, .ref po, .ref sx, .ref be])), (he, .inl (k 0, 288, .inl (fun j => nI (HE j))))] sz)) (va_Qi (fun (r : Int32) (_ : Unit) => r = nI (HE (h * 8 + st))) (fun u => bQ (gU D k) (va_A [(pl, .inr (4, [.ref ho, .ref sa, .int (nI ov), .int (nI sta), .int (nI stl), .ref se, .ref ab, .ref he, .ref po, .ref sx, .ref be])), (he, .inl (k 0, 288, .inl (fun j => nI (HE j))))] sz) ([(pl, .inr (4, [.ref ho, .ref sa, .int (nI ov), .int (nI sta), .int (nI stl), .ref se, .ref ab, .ref he, .ref po, .ref sx, .ref be])), (he, .inl (k 0, 288, .inl (fun j => nI (HE j))))])) (va_A [(pl, .inr (4, [.ref ho, .ref sa, .int (nI ov), .int (nI sta), .int (nI stl), .ref se, .ref ab, .ref he, .ref po, .ref sx, .ref be])), (he, .inl (k 0, 288, .inl (fun j => nI (HE j))))] sz)) (rU 0 0 0).cells (rU 0 0 0).slots (va_A [(pl, .inr (4, [.ref ho, .ref sa, .int (nI ov), .int (nI sta), .int (nI stl), .ref se, .ref ab, .ref he, .ref po, .ref sx, .ref be])), (he, .inl (k 0, 288, .inl (fun j => nI (HE j))))] sz) := by
  refine b_start (Qc := fun A => va_Qi (fun (r : Int32) (_ : Unit) => r = nI (HE (h * 8 + st))) (fun u => bQ (gU D k) A ([(pl, .inr (4, [.ref ho, .ref sa, .int (nI ov), .int (nI sta), .int (nI stl), .ref se, .ref ab, .ref he, .ref po, .ref sx, .ref be])), (he, .inl (k 0, 288, .inl (fun j => nI (HE j))))])) A) (by decide +kernel) (Nat.le_of_ble_eq_true rfl) ?_
  intro p e s m below meth c A hm hnm hw ls hl
  have hl : lv_has ls 3 [(0, .ref pl), (1, .int (nI h)), (2, .int (nI st))] := hl
  have hx := hm.1
  have hb := hm.2.1
  have hown := hm.2.2.2.2.1
  have hts := hm.2.2.2.2.2.1
  refine lv_aload_n hx hb d_Pl_heatOf_0 rfl (lv_at hl 0 rfl) ?_
  refine b_get (T := F_Pl) hm hw 0 rfl rfl (fun w h => uw_of w (u_Pl w h)) 7 (by decide) (uw_of _ k_156) rfl d_Pl_heatOf_1 ?_
  refine lv_iload_n hx hb d_Pl_heatOf_4 rfl (lv_at hl 1 rfl) ?_
  refine lv_bipush (v := nI 8) hx hb d_Pl_heatOf_5 (by decide) ?_
  refine lv_imul hx hb d_Pl_heatOf_7 ?_
  refine b_ti (pk_mul h 8) ?_
  refine lv_iload_n hx hb d_Pl_heatOf_8 rfl (lv_at hl 2 rfl) ?_
  refine lv_iadd hx hb d_Pl_heatOf_9 ?_
  refine b_ti (nI_add (h * 8) st) ?_
  refine b_iald (i := h * 8 + st) hm hw 1 0 rfl rfl (by omega) (by omega) d_Pl_heatOf_10 ?_
  refine b_ti (show (fun j => nI (HE j)) (h * 8 + st) = nI (HE (h * 8 + st)) from rfl) ?_
  exact b_iret () hm hw rfl d_Pl_heatOf_11

set_option maxHeartbeats 4000000 in
set_option maxRecDepth 100000 in
theorem c_Pl_powerOf (l : Launch) (D : va_G) (k : Nat → ClassId) (sz : Nat) (pl se ab he po sx be ho sa ov sta stl : Nat) (PO : Nat → Nat) (h st : Nat) (hh : h < 36) (hs : st < 8) : Met l y_Pl_powerOf (uw y_Pl_powerOf b_Pl_powerOf 3 (some .int)) (rU 0 0 0) (va_Pc [.ref pl, .int (nI h), .int (nI st)] (bP (gU D k) [(pl, .inr (4, [.ref ho, .ref sa, .int (nI ov), .int (nI sta), .int (nI stl), .ref se, .ref ab, .ref he, .ref po, .ref sx, .ref be])), (po, .inl (k 0, 288, .inl (fun j => nI (PO j))))] sz)) (va_Qi (fun (r : Int32) (_ : Unit) => r = nI (PO (h * 8 + st))) (fun u => bQ (gU D k) (va_A [(pl, .inr (4, [.ref ho, .ref sa, .int (nI ov), .int (nI sta), .int (nI stl), .ref se, .ref ab, .ref he, .ref po, .ref sx, .ref be])), (po, .inl (k 0, 288, .inl (fun j => nI (PO j))))] sz) ([(pl, .inr (4, [.ref ho, .ref sa, .int (nI ov), .int (nI sta), .int (nI stl), .ref se, .ref ab, .ref he, .ref po, .ref sx, .ref be])), (po, .inl (k 0, 288, .inl (fun j => nI (PO j))))])) (va_A [(pl, .inr (4, [.ref ho, .ref sa, .int (nI ov), .int (nI sta), .int (nI stl), .ref se, .ref ab, .ref he, .ref po, .ref sx, .ref be])), (po, .inl (k 0, 288, .inl (fun j => nI (PO j))))] sz)) (rU 0 0 0).cells (rU 0 0 0).slots (va_A [(pl, .inr (4, [.ref ho, .ref sa, .int (nI ov), .int (nI sta), .int (nI stl), .ref se, .ref ab, .ref he, .ref po, .ref sx, .ref be])), (po, .inl (k 0, 288, .inl (fun j => nI (PO j))))] sz) := by
  refine b_start (Qc := fun A => va_Qi (fun (r : Int32) (_ : Unit) => r = nI (PO (h * 8 + st))) (fun u => bQ (gU D k) A ([(pl, .inr (4, [.ref ho, .ref sa, .int (nI ov), .int (nI sta), .int (nI stl), .ref se, .ref ab, .ref he, .ref po, .ref sx, .ref be])), (po, .inl (k 0, 288, .inl (fun j => nI (PO j))))])) A) (by decide +kernel) (Nat.le_of_ble_eq_true rfl) ?_
  intro p e s m below meth c A hm hnm hw ls hl
  have hl : lv_has ls 3 [(0, .ref pl), (1, .int (nI h)), (2, .int (nI st))] := hl
  have hx := hm.1
  have hb := hm.2.1
  have hown := hm.2.2.2.2.1
  have hts := hm.2.2.2.2.2.1
  refine lv_aload_n hx hb d_Pl_powerOf_0 rfl (lv_at hl 0 rfl) ?_
  refine b_get (T := F_Pl) hm hw 0 rfl rfl (fun w h => uw_of w (u_Pl w h)) 8 (by decide) (uw_of _ k_157) rfl d_Pl_powerOf_1 ?_
  refine lv_iload_n hx hb d_Pl_powerOf_4 rfl (lv_at hl 1 rfl) ?_
  refine lv_bipush (v := nI 8) hx hb d_Pl_powerOf_5 (by decide) ?_
  refine lv_imul hx hb d_Pl_powerOf_7 ?_
  refine b_ti (pk_mul h 8) ?_
  refine lv_iload_n hx hb d_Pl_powerOf_8 rfl (lv_at hl 2 rfl) ?_
  refine lv_iadd hx hb d_Pl_powerOf_9 ?_
  refine b_ti (nI_add (h * 8) st) ?_
  refine b_iald (i := h * 8 + st) hm hw 1 0 rfl rfl (by omega) (by omega) d_Pl_powerOf_10 ?_
  refine b_ti (show (fun j => nI (PO j)) (h * 8 + st) = nI (PO (h * 8 + st)) from rfl) ?_
  exact b_iret () hm hw rfl d_Pl_powerOf_11

set_option maxHeartbeats 4000000 in
set_option maxRecDepth 100000 in
theorem c_Pl_centsOf (l : Launch) (D : va_G) (k : Nat → ClassId) (sz : Nat) (pl se ab he po sx be ho ma fa f0 f1 f2 sa rc rb mr mpp af ov sta stl cn n : Nat) (SE FO : Nat → Int32) (BE : Nat → Option Nat) (AB HE PO SX FP FN R RB MR MP AF : Nat → Nat) (hB : pB AB HE PO SX FP FN RB MR MP AF) (h fr st : Nat) (hh : h < 36) (hf : fr < 512) (hs : st < 8) : Met l y_Pl_centsOf (uw y_Pl_centsOf b_Pl_centsOf 4 (some .long)) (rU 0 0 0) (va_Pc [.ref pl, .int (nI h), .int (nI fr), .int (nI st)] (bP (gU D k) [(pl, .inr (4, [.ref ho, .ref sa, .int (nI ov), .int (nI sta), .int (nI stl), .ref se, .ref ab, .ref he, .ref po, .ref sx, .ref be])), (se, .inl (k 0, 36, .inl SE)), (ab, .inl (k 0, 36, .inl (fun j => nI (AB j)))), (he, .inl (k 0, 288, .inl (fun j => nI (HE j)))), (po, .inl (k 0, 288, .inl (fun j => nI (PO j)))), (sx, .inl (k 0, 8, .inl (fun j => nI (SX j)))), (be, .inl (k 1, 18944, .inr (.inl (fun j => oL (BE j))))), (ho, .inr (1, [.ref ma, .int (nI cn), .ref fa])), (fa, .inl (k 4, 3, .inr (.inr (.inr (.inr (mAd f0 f1 f2)))))), (f0, .inl (k 0, 36, .inl FO)), (f1, .inl (k 0, 36, .inl (fun j => nI (FP j)))), (f2, .inl (k 0, 36, .inl (fun j => nI (FN j)))), (sa, .inr (5, [.ref rc, .int (nI n), .ref rb, .ref mr, .ref mpp, .ref af])), (rc, .inl (k 0, 512, .inl (fun j => nI (R j)))), (rb, .inl (k 0, 512, .inl (fun j => nI (RB j)))), (mr, .inl (k 0, 512, .inl (fun j => nI (MR j)))), (mpp, .inl (k 0, 512, .inl (fun j => nI (MP j)))), (af, .inl (k 0, 4096, .inl (fun j => nI (AF j))))] sz)) (va_Ql (fun (r : Int64) (_ : Unit) => r = lN (PO (h * 8 + st) * FP h + SX (dif st (RB fr)))) (fun u => bQ (gU D k) (va_A [(pl, .inr (4, [.ref ho, .ref sa, .int (nI ov), .int (nI sta), .int (nI stl), .ref se, .ref ab, .ref he, .ref po, .ref sx, .ref be])), (se, .inl (k 0, 36, .inl SE)), (ab, .inl (k 0, 36, .inl (fun j => nI (AB j)))), (he, .inl (k 0, 288, .inl (fun j => nI (HE j)))), (po, .inl (k 0, 288, .inl (fun j => nI (PO j)))), (sx, .inl (k 0, 8, .inl (fun j => nI (SX j)))), (be, .inl (k 1, 18944, .inr (.inl (fun j => oL (BE j))))), (ho, .inr (1, [.ref ma, .int (nI cn), .ref fa])), (fa, .inl (k 4, 3, .inr (.inr (.inr (.inr (mAd f0 f1 f2)))))), (f0, .inl (k 0, 36, .inl FO)), (f1, .inl (k 0, 36, .inl (fun j => nI (FP j)))), (f2, .inl (k 0, 36, .inl (fun j => nI (FN j)))), (sa, .inr (5, [.ref rc, .int (nI n), .ref rb, .ref mr, .ref mpp, .ref af])), (rc, .inl (k 0, 512, .inl (fun j => nI (R j)))), (rb, .inl (k 0, 512, .inl (fun j => nI (RB j)))), (mr, .inl (k 0, 512, .inl (fun j => nI (MR j)))), (mpp, .inl (k 0, 512, .inl (fun j => nI (MP j)))), (af, .inl (k 0, 4096, .inl (fun j => nI (AF j))))] sz) ([(pl, .inr (4, [.ref ho, .ref sa, .int (nI ov), .int (nI sta), .int (nI stl), .ref se, .ref ab, .ref he, .ref po, .ref sx, .ref be])), (se, .inl (k 0, 36, .inl SE)), (ab, .inl (k 0, 36, .inl (fun j => nI (AB j)))), (he, .inl (k 0, 288, .inl (fun j => nI (HE j)))), (po, .inl (k 0, 288, .inl (fun j => nI (PO j)))), (sx, .inl (k 0, 8, .inl (fun j => nI (SX j)))), (be, .inl (k 1, 18944, .inr (.inl (fun j => oL (BE j))))), (ho, .inr (1, [.ref ma, .int (nI cn), .ref fa])), (fa, .inl (k 4, 3, .inr (.inr (.inr (.inr (mAd f0 f1 f2)))))), (f0, .inl (k 0, 36, .inl FO)), (f1, .inl (k 0, 36, .inl (fun j => nI (FP j)))), (f2, .inl (k 0, 36, .inl (fun j => nI (FN j)))), (sa, .inr (5, [.ref rc, .int (nI n), .ref rb, .ref mr, .ref mpp, .ref af])), (rc, .inl (k 0, 512, .inl (fun j => nI (R j)))), (rb, .inl (k 0, 512, .inl (fun j => nI (RB j)))), (mr, .inl (k 0, 512, .inl (fun j => nI (MR j)))), (mpp, .inl (k 0, 512, .inl (fun j => nI (MP j)))), (af, .inl (k 0, 4096, .inl (fun j => nI (AF j))))])) (va_A [(pl, .inr (4, [.ref ho, .ref sa, .int (nI ov), .int (nI sta), .int (nI stl), .ref se, .ref ab, .ref he, .ref po, .ref sx, .ref be])), (se, .inl (k 0, 36, .inl SE)), (ab, .inl (k 0, 36, .inl (fun j => nI (AB j)))), (he, .inl (k 0, 288, .inl (fun j => nI (HE j)))), (po, .inl (k 0, 288, .inl (fun j => nI (PO j)))), (sx, .inl (k 0, 8, .inl (fun j => nI (SX j)))), (be, .inl (k 1, 18944, .inr (.inl (fun j => oL (BE j))))), (ho, .inr (1, [.ref ma, .int (nI cn), .ref fa])), (fa, .inl (k 4, 3, .inr (.inr (.inr (.inr (mAd f0 f1 f2)))))), (f0, .inl (k 0, 36, .inl FO)), (f1, .inl (k 0, 36, .inl (fun j => nI (FP j)))), (f2, .inl (k 0, 36, .inl (fun j => nI (FN j)))), (sa, .inr (5, [.ref rc, .int (nI n), .ref rb, .ref mr, .ref mpp, .ref af])), (rc, .inl (k 0, 512, .inl (fun j => nI (R j)))), (rb, .inl (k 0, 512, .inl (fun j => nI (RB j)))), (mr, .inl (k 0, 512, .inl (fun j => nI (MR j)))), (mpp, .inl (k 0, 512, .inl (fun j => nI (MP j)))), (af, .inl (k 0, 4096, .inl (fun j => nI (AF j))))] sz)) (rU 0 0 0).cells (rU 0 0 0).slots (va_A [(pl, .inr (4, [.ref ho, .ref sa, .int (nI ov), .int (nI sta), .int (nI stl), .ref se, .ref ab, .ref he, .ref po, .ref sx, .ref be])), (se, .inl (k 0, 36, .inl SE)), (ab, .inl (k 0, 36, .inl (fun j => nI (AB j)))), (he, .inl (k 0, 288, .inl (fun j => nI (HE j)))), (po, .inl (k 0, 288, .inl (fun j => nI (PO j)))), (sx, .inl (k 0, 8, .inl (fun j => nI (SX j)))), (be, .inl (k 1, 18944, .inr (.inl (fun j => oL (BE j))))), (ho, .inr (1, [.ref ma, .int (nI cn), .ref fa])), (fa, .inl (k 4, 3, .inr (.inr (.inr (.inr (mAd f0 f1 f2)))))), (f0, .inl (k 0, 36, .inl FO)), (f1, .inl (k 0, 36, .inl (fun j => nI (FP j)))), (f2, .inl (k 0, 36, .inl (fun j => nI (FN j)))), (sa, .inr (5, [.ref rc, .int (nI n), .ref rb, .ref mr, .ref mpp, .ref af])), (rc, .inl (k 0, 512, .inl (fun j => nI (R j)))), (rb, .inl (k 0, 512, .inl (fun j => nI (RB j)))), (mr, .inl (k 0, 512, .inl (fun j => nI (MR j)))), (mpp, .inl (k 0, 512, .inl (fun j => nI (MP j)))), (af, .inl (k 0, 4096, .inl (fun j => nI (AF j))))] sz) := by
  refine b_start (Qc := fun A => va_Ql (fun (r : Int64) (_ : Unit) => r = lN (PO (h * 8 + st) * FP h + SX (dif st (RB fr)))) (fun u => bQ (gU D k) A ([(pl, .inr (4, [.ref ho, .ref sa, .int (nI ov), .int (nI sta), .int (nI stl), .ref se, .ref ab, .ref he, .ref po, .ref sx, .ref be])), (se, .inl (k 0, 36, .inl SE)), (ab, .inl (k 0, 36, .inl (fun j => nI (AB j)))), (he, .inl (k 0, 288, .inl (fun j => nI (HE j)))), (po, .inl (k 0, 288, .inl (fun j => nI (PO j)))), (sx, .inl (k 0, 8, .inl (fun j => nI (SX j)))), (be, .inl (k 1, 18944, .inr (.inl (fun j => oL (BE j))))), (ho, .inr (1, [.ref ma, .int (nI cn), .ref fa])), (fa, .inl (k 4, 3, .inr (.inr (.inr (.inr (mAd f0 f1 f2)))))), (f0, .inl (k 0, 36, .inl FO)), (f1, .inl (k 0, 36, .inl (fun j => nI (FP j)))), (f2, .inl (k 0, 36, .inl (fun j => nI (FN j)))), (sa, .inr (5, [.ref rc, .int (nI n), .ref rb, .ref mr, .ref mpp, .ref af])), (rc, .inl (k 0, 512, .inl (fun j => nI (R j)))), (rb, .inl (k 0, 512, .inl (fun j => nI (RB j)))), (mr, .inl (k 0, 512, .inl (fun j => nI (MR j)))), (mpp, .inl (k 0, 512, .inl (fun j => nI (MP j)))), (af, .inl (k 0, 4096, .inl (fun j => nI (AF j))))])) A) (by decide +kernel) (Nat.le_of_ble_eq_true rfl) ?_
  intro p e s m below meth c A hm hnm hw ls hl
  have hl : lv_has ls 4 [(0, .ref pl), (1, .int (nI h)), (2, .int (nI fr)), (3, .int (nI st))] := hl
  have hx := hm.1
  have hb := hm.2.1
  have hown := hm.2.2.2.2.1
  have hts := hm.2.2.2.2.2.1
  obtain ⟨bAB, bHEz, bPOz, bSX, bFP, bFN, bRB, bMR, bMP, bAF⟩ := id hB; have bHE := zbd_le bHEz; have bPO := zbd_le bPOz
  have b1 := bPO (h * 8 + st)
  have b2 := bFP h
  have b3 := bRB fr
  have b4 := dif_lt st hs _ b3
  have b5 := bSX (dif st (RB fr))
  refine lv_aload_n hx hb d_Pl_centsOf_0 rfl (lv_at hl 0 rfl) ?_
  refine b_get (T := F_Pl) hm hw 0 rfl rfl (fun w h => uw_of w (u_Pl w h)) 8 (by decide) (uw_of _ k_157) rfl d_Pl_centsOf_1 ?_
  refine lv_iload_n hx hb d_Pl_centsOf_4 rfl (lv_at hl 1 rfl) ?_
  refine lv_bipush (v := nI 8) hx hb d_Pl_centsOf_5 (by decide) ?_
  refine lv_imul hx hb d_Pl_centsOf_7 ?_
  refine b_ti (pk_mul h 8) ?_
  refine lv_iload_n hx hb d_Pl_centsOf_8 rfl (lv_at hl 3 rfl) ?_
  refine lv_iadd hx hb d_Pl_centsOf_9 ?_
  refine b_ti (nI_add (h * 8) st) ?_
  refine b_iald (i := h * 8 + st) hm hw 4 0 rfl rfl (by omega) (by omega) d_Pl_centsOf_10 ?_
  refine b_ti (show (fun j => nI (PO j)) (h * 8 + st) = nI (PO (h * 8 + st)) from rfl) ?_
  refine lv_i2l (v := lN (PO (h * 8 + st))) hx hb d_Pl_centsOf_11 (nI_l (by omega)) ?_
  refine lv_aload_n hx hb d_Pl_centsOf_12 rfl (lv_at hl 0 rfl) ?_
  refine b_get (T := F_Pl) hm hw 0 rfl rfl (fun w h => uw_of w (u_Pl w h)) 0 (by decide) (uw_of _ k_145) rfl d_Pl_centsOf_13 ?_
  refine b_getN (T := F_Ho) hm hw 7 rfl rfl (fun w h => uw_of w (u_Ho w h)) 2 (by decide) (k_106) rfl d_Pl_centsOf_16 ?_
  refine lv_iconst (v := nI 1) hx hb d_Pl_centsOf_19 (by decide) ?_
  refine b_aald (i := 1) (v := f1) hm hw 8 4 rfl rfl rfl (by omega) (by omega) (rfl) d_Pl_centsOf_20 ?_
  refine lv_iload_n hx hb d_Pl_centsOf_21 rfl (lv_at hl 1 rfl) ?_
  refine b_iald (i := h) hm hw 10 0 rfl rfl (by omega) (by omega) d_Pl_centsOf_22 ?_
  refine b_ti (show (fun j => nI (FP j)) h = nI (FP h) from rfl) ?_
  refine lv_i2l (v := lN (FP h)) hx hb d_Pl_centsOf_23 (nI_l (by omega)) ?_
  refine lv_lmul hx hb d_Pl_centsOf_24 ?_
  refine b_tl (lN_mul (PO (h * 8 + st)) (FP h)) ?_
  refine lv_aload_n hx hb d_Pl_centsOf_25 rfl (lv_at hl 0 rfl) ?_
  refine b_get (T := F_Pl) hm hw 0 rfl rfl (fun w h => uw_of w (u_Pl w h)) 9 (by decide) (uw_of _ k_158) rfl d_Pl_centsOf_26 ?_
  refine lv_iload_n hx hb d_Pl_centsOf_29 rfl (lv_at hl 3 rfl) ?_
  refine lv_aload_n hx hb d_Pl_centsOf_30 rfl (lv_at hl 0 rfl) ?_
  refine b_get (T := F_Pl) hm hw 0 rfl rfl (fun w h => uw_of w (u_Pl w h)) 1 (by decide) (uw_of _ k_147) rfl d_Pl_centsOf_31 ?_
  refine b_getN (T := F_Sa) hm hw 12 rfl rfl (fun w h => uw_of w (u_Sa w h)) 2 (by decide) (k_125) rfl d_Pl_centsOf_34 ?_
  refine lv_iload_n hx hb d_Pl_centsOf_37 rfl (lv_at hl 2 rfl) ?_
  refine b_iald (i := fr) hm hw 14 0 rfl rfl (by omega) (by omega) d_Pl_centsOf_38 ?_
  refine b_ti (show (fun j => nI (RB j)) fr = nI (RB fr) from rfl) ?_
  refine lv_iconst (v := (-1)) hx hb d_Pl_centsOf_39 (by decide) ?_
  refine lv_ixor hx hb d_Pl_centsOf_40 ?_
  refine lv_iand hx hb d_Pl_centsOf_41 ?_
  refine b_ti (y := nI (dif st (RB fr))) (dif_eq st hs _ b3) ?_
  refine b_iald (i := dif st (RB fr)) hm hw 5 0 rfl rfl (by omega) (by omega) d_Pl_centsOf_42 ?_
  refine b_ti (show (fun j => nI (SX j)) (dif st (RB fr)) = nI (SX (dif st (RB fr))) from rfl) ?_
  refine lv_i2l (v := lN (SX (dif st (RB fr)))) hx hb d_Pl_centsOf_43 (nI_l (by omega)) ?_
  refine lv_ladd hx hb d_Pl_centsOf_44 ?_
  refine b_tl (lN_add ((PO (h * 8 + st)) * (FP h)) (SX (dif st (RB fr)))) ?_
  exact b_lret () hm hw rfl d_Pl_centsOf_45

set_option maxHeartbeats 4000000 in
set_option maxRecDepth 100000 in
theorem c_Pl_choiceOf (l : Launch) (D : va_G) (k : Nat → ClassId) (sz : Nat) (pl se ab he po sx be ho ma fa f0 f1 f2 sa rc rb mr mpp af ov sta stl cn n : Nat) (SE FO : Nat → Int32) (BE : Nat → Option Nat) (AB HE PO SX FP FN R RB MR MP AF : Nat → Nat) (hB : pB AB HE PO SX FP FN RB MR MP AF) (h fr st : Nat) (hh : h < 36) (hf : fr < 512) (hs : st < 8) (bBE : ∀ j v, BE ((h + 1) * 512 + j) = some v → v < 1125899906842624) : Met l y_Pl_choiceOf (uw y_Pl_choiceOf b_Pl_choiceOf 6 (some .long)) (rU 1 0 0) (va_Pc [.ref pl, .int (nI h), .int (nI fr), .int (nI st)] (bP (gU D k) [(pl, .inr (4, [.ref ho, .ref sa, .int (nI ov), .int (nI sta), .int (nI stl), .ref se, .ref ab, .ref he, .ref po, .ref sx, .ref be])), (se, .inl (k 0, 36, .inl SE)), (ab, .inl (k 0, 36, .inl (fun j => nI (AB j)))), (he, .inl (k 0, 288, .inl (fun j => nI (HE j)))), (po, .inl (k 0, 288, .inl (fun j => nI (PO j)))), (sx, .inl (k 0, 8, .inl (fun j => nI (SX j)))), (be, .inl (k 1, 18944, .inr (.inl (fun j => oL (BE j))))), (ho, .inr (1, [.ref ma, .int (nI cn), .ref fa])), (fa, .inl (k 4, 3, .inr (.inr (.inr (.inr (mAd f0 f1 f2)))))), (f0, .inl (k 0, 36, .inl FO)), (f1, .inl (k 0, 36, .inl (fun j => nI (FP j)))), (f2, .inl (k 0, 36, .inl (fun j => nI (FN j)))), (sa, .inr (5, [.ref rc, .int (nI n), .ref rb, .ref mr, .ref mpp, .ref af])), (rc, .inl (k 0, 512, .inl (fun j => nI (R j)))), (rb, .inl (k 0, 512, .inl (fun j => nI (RB j)))), (mr, .inl (k 0, 512, .inl (fun j => nI (MR j)))), (mpp, .inl (k 0, 512, .inl (fun j => nI (MP j)))), (af, .inl (k 0, 4096, .inl (fun j => nI (AF j))))] sz)) (va_Ql (fun (r : Int64) (_ : Unit) => r = oL (chO HE AF PO SX RB FP FN BE h fr st)) (fun u => bQ (gU D k) (va_A [(pl, .inr (4, [.ref ho, .ref sa, .int (nI ov), .int (nI sta), .int (nI stl), .ref se, .ref ab, .ref he, .ref po, .ref sx, .ref be])), (se, .inl (k 0, 36, .inl SE)), (ab, .inl (k 0, 36, .inl (fun j => nI (AB j)))), (he, .inl (k 0, 288, .inl (fun j => nI (HE j)))), (po, .inl (k 0, 288, .inl (fun j => nI (PO j)))), (sx, .inl (k 0, 8, .inl (fun j => nI (SX j)))), (be, .inl (k 1, 18944, .inr (.inl (fun j => oL (BE j))))), (ho, .inr (1, [.ref ma, .int (nI cn), .ref fa])), (fa, .inl (k 4, 3, .inr (.inr (.inr (.inr (mAd f0 f1 f2)))))), (f0, .inl (k 0, 36, .inl FO)), (f1, .inl (k 0, 36, .inl (fun j => nI (FP j)))), (f2, .inl (k 0, 36, .inl (fun j => nI (FN j)))), (sa, .inr (5, [.ref rc, .int (nI n), .ref rb, .ref mr, .ref mpp, .ref af])), (rc, .inl (k 0, 512, .inl (fun j => nI (R j)))), (rb, .inl (k 0, 512, .inl (fun j => nI (RB j)))), (mr, .inl (k 0, 512, .inl (fun j => nI (MR j)))), (mpp, .inl (k 0, 512, .inl (fun j => nI (MP j)))), (af, .inl (k 0, 4096, .inl (fun j => nI (AF j))))] sz) ([(pl, .inr (4, [.ref ho, .ref sa, .int (nI ov), .int (nI sta), .int (nI stl), .ref se, .ref ab, .ref he, .ref po, .ref sx, .ref be])), (se, .inl (k 0, 36, .inl SE)), (ab, .inl (k 0, 36, .inl (fun j => nI (AB j)))), (he, .inl (k 0, 288, .inl (fun j => nI (HE j)))), (po, .inl (k 0, 288, .inl (fun j => nI (PO j)))), (sx, .inl (k 0, 8, .inl (fun j => nI (SX j)))), (be, .inl (k 1, 18944, .inr (.inl (fun j => oL (BE j))))), (ho, .inr (1, [.ref ma, .int (nI cn), .ref fa])), (fa, .inl (k 4, 3, .inr (.inr (.inr (.inr (mAd f0 f1 f2)))))), (f0, .inl (k 0, 36, .inl FO)), (f1, .inl (k 0, 36, .inl (fun j => nI (FP j)))), (f2, .inl (k 0, 36, .inl (fun j => nI (FN j)))), (sa, .inr (5, [.ref rc, .int (nI n), .ref rb, .ref mr, .ref mpp, .ref af])), (rc, .inl (k 0, 512, .inl (fun j => nI (R j)))), (rb, .inl (k 0, 512, .inl (fun j => nI (RB j)))), (mr, .inl (k 0, 512, .inl (fun j => nI (MR j)))), (mpp, .inl (k 0, 512, .inl (fun j => nI (MP j)))), (af, .inl (k 0, 4096, .inl (fun j => nI (AF j))))])) (va_A [(pl, .inr (4, [.ref ho, .ref sa, .int (nI ov), .int (nI sta), .int (nI stl), .ref se, .ref ab, .ref he, .ref po, .ref sx, .ref be])), (se, .inl (k 0, 36, .inl SE)), (ab, .inl (k 0, 36, .inl (fun j => nI (AB j)))), (he, .inl (k 0, 288, .inl (fun j => nI (HE j)))), (po, .inl (k 0, 288, .inl (fun j => nI (PO j)))), (sx, .inl (k 0, 8, .inl (fun j => nI (SX j)))), (be, .inl (k 1, 18944, .inr (.inl (fun j => oL (BE j))))), (ho, .inr (1, [.ref ma, .int (nI cn), .ref fa])), (fa, .inl (k 4, 3, .inr (.inr (.inr (.inr (mAd f0 f1 f2)))))), (f0, .inl (k 0, 36, .inl FO)), (f1, .inl (k 0, 36, .inl (fun j => nI (FP j)))), (f2, .inl (k 0, 36, .inl (fun j => nI (FN j)))), (sa, .inr (5, [.ref rc, .int (nI n), .ref rb, .ref mr, .ref mpp, .ref af])), (rc, .inl (k 0, 512, .inl (fun j => nI (R j)))), (rb, .inl (k 0, 512, .inl (fun j => nI (RB j)))), (mr, .inl (k 0, 512, .inl (fun j => nI (MR j)))), (mpp, .inl (k 0, 512, .inl (fun j => nI (MP j)))), (af, .inl (k 0, 4096, .inl (fun j => nI (AF j))))] sz)) (rU 1 0 0).cells (rU 1 0 0).slots (va_A [(pl, .inr (4, [.ref ho, .ref sa, .int (nI ov), .int (nI sta), .int (nI stl), .ref se, .ref ab, .ref he, .ref po, .ref sx, .ref be])), (se, .inl (k 0, 36, .inl SE)), (ab, .inl (k 0, 36, .inl (fun j => nI (AB j)))), (he, .inl (k 0, 288, .inl (fun j => nI (HE j)))), (po, .inl (k 0, 288, .inl (fun j => nI (PO j)))), (sx, .inl (k 0, 8, .inl (fun j => nI (SX j)))), (be, .inl (k 1, 18944, .inr (.inl (fun j => oL (BE j))))), (ho, .inr (1, [.ref ma, .int (nI cn), .ref fa])), (fa, .inl (k 4, 3, .inr (.inr (.inr (.inr (mAd f0 f1 f2)))))), (f0, .inl (k 0, 36, .inl FO)), (f1, .inl (k 0, 36, .inl (fun j => nI (FP j)))), (f2, .inl (k 0, 36, .inl (fun j => nI (FN j)))), (sa, .inr (5, [.ref rc, .int (nI n), .ref rb, .ref mr, .ref mpp, .ref af])), (rc, .inl (k 0, 512, .inl (fun j => nI (R j)))), (rb, .inl (k 0, 512, .inl (fun j => nI (RB j)))), (mr, .inl (k 0, 512, .inl (fun j => nI (MR j)))), (mpp, .inl (k 0, 512, .inl (fun j => nI (MP j)))), (af, .inl (k 0, 4096, .inl (fun j => nI (AF j))))] sz) := by
  refine b_start (Qc := fun A => va_Ql (fun (r : Int64) (_ : Unit) => r = oL (chO HE AF PO SX RB FP FN BE h fr st)) (fun u => bQ (gU D k) A ([(pl, .inr (4, [.ref ho, .ref sa, .int (nI ov), .int (nI sta), .int (nI stl), .ref se, .ref ab, .ref he, .ref po, .ref sx, .ref be])), (se, .inl (k 0, 36, .inl SE)), (ab, .inl (k 0, 36, .inl (fun j => nI (AB j)))), (he, .inl (k 0, 288, .inl (fun j => nI (HE j)))), (po, .inl (k 0, 288, .inl (fun j => nI (PO j)))), (sx, .inl (k 0, 8, .inl (fun j => nI (SX j)))), (be, .inl (k 1, 18944, .inr (.inl (fun j => oL (BE j))))), (ho, .inr (1, [.ref ma, .int (nI cn), .ref fa])), (fa, .inl (k 4, 3, .inr (.inr (.inr (.inr (mAd f0 f1 f2)))))), (f0, .inl (k 0, 36, .inl FO)), (f1, .inl (k 0, 36, .inl (fun j => nI (FP j)))), (f2, .inl (k 0, 36, .inl (fun j => nI (FN j)))), (sa, .inr (5, [.ref rc, .int (nI n), .ref rb, .ref mr, .ref mpp, .ref af])), (rc, .inl (k 0, 512, .inl (fun j => nI (R j)))), (rb, .inl (k 0, 512, .inl (fun j => nI (RB j)))), (mr, .inl (k 0, 512, .inl (fun j => nI (MR j)))), (mpp, .inl (k 0, 512, .inl (fun j => nI (MP j)))), (af, .inl (k 0, 4096, .inl (fun j => nI (AF j))))])) A) (by decide +kernel) (Nat.le_of_ble_eq_true rfl) ?_
  intro p e s m below meth c A hm hnm hw ls hl
  have hl : lv_has ls 6 [(0, .ref pl), (1, .int (nI h)), (2, .int (nI fr)), (3, .int (nI st))] := hl
  have hx := hm.1
  have hb := hm.2.1
  have hown := hm.2.2.2.2.1
  have hts := hm.2.2.2.2.2.1
  obtain ⟨bAB, bHEz, bPOz, bSX, bFP, bFN, bRB, bMR, bMP, bAF⟩ := id hB; have bHE := zbd_le bHEz; have bPO := zbd_le bPOz
  have b1 := bPO (h * 8 + st)
  have b2 := bFP h
  have b3 := bHE (h * 8 + st)
  have b4 := bFN h
  have b5 := bAF (fr * 8 + st)
  have b6 := bSX (dif st (RB fr))
  refine lv_aload_n hx hb d_Pl_choiceOf_0 rfl (lv_at hl 0 rfl) ?_
  refine b_get (T := F_Pl) hm hw 0 rfl rfl (fun w h => uw_of w (u_Pl w h)) 7 (by decide) (uw_of _ k_156) rfl d_Pl_choiceOf_1 ?_
  refine lv_iload_n hx hb d_Pl_choiceOf_4 rfl (lv_at hl 1 rfl) ?_
  refine lv_bipush (v := nI 8) hx hb d_Pl_choiceOf_5 (by decide) ?_
  refine lv_imul hx hb d_Pl_choiceOf_7 ?_
  refine b_ti (pk_mul h 8) ?_
  refine lv_iload_n hx hb d_Pl_choiceOf_8 rfl (lv_at hl 3 rfl) ?_
  refine lv_iadd hx hb d_Pl_choiceOf_9 ?_
  refine b_ti (nI_add (h * 8) st) ?_
  refine b_iald (i := h * 8 + st) hm hw 3 0 rfl rfl (by omega) (by omega) d_Pl_choiceOf_10 ?_
  refine b_ti (show (fun j => nI (HE j)) (h * 8 + st) = nI (HE (h * 8 + st)) from rfl) ?_
  refine lv_aload_n hx hb d_Pl_choiceOf_11 rfl (lv_at hl 0 rfl) ?_
  refine b_get (T := F_Pl) hm hw 0 rfl rfl (fun w h => uw_of w (u_Pl w h)) 0 (by decide) (uw_of _ k_145) rfl d_Pl_choiceOf_12 ?_
  refine b_getN (T := F_Ho) hm hw 7 rfl rfl (fun w h => uw_of w (u_Ho w h)) 2 (by decide) (k_106) rfl d_Pl_choiceOf_15 ?_
  refine lv_iconst (v := nI 2) hx hb d_Pl_choiceOf_18 (by decide) ?_
  refine b_aald (i := 2) (v := f2) hm hw 8 4 rfl rfl rfl (by omega) (by omega) (rfl) d_Pl_choiceOf_19 ?_
  refine lv_iload_n hx hb d_Pl_choiceOf_20 rfl (lv_at hl 1 rfl) ?_
  refine b_iald (i := h) hm hw 11 0 rfl rfl (by omega) (by omega) d_Pl_choiceOf_21 ?_
  refine b_ti (show (fun j => nI (FN j)) h = nI (FN h) from rfl) ?_
  refine lv_icmp_ge (tgt := 29) hx hb d_Pl_choiceOf_22 (by decide) (fun c_22_0 => ?_) (fun c_22_0 => ?_)
  · skip
    have h_22_0 : (FN h) ≤ (HE (h * 8 + st)) := yge c_22_0 (by omega) (by omega)
    refine lv_aload_n hx hb d_Pl_choiceOf_29 rfl (lv_at hl 0 rfl) ?_
    refine b_get (T := F_Pl) hm hw 0 rfl rfl (fun w h => uw_of w (u_Pl w h)) 10 (by decide) (uw_of _ k_159) rfl d_Pl_choiceOf_30 ?_
    refine lv_iload_n hx hb d_Pl_choiceOf_33 rfl (lv_at hl 1 rfl) ?_
    refine lv_iconst (v := nI 1) hx hb d_Pl_choiceOf_34 (by decide) ?_
    refine lv_iadd hx hb d_Pl_choiceOf_35 ?_
    refine b_ti (nI_add h 1) ?_
    refine lv_sipush (v := nI 512) hx hb d_Pl_choiceOf_36 (by decide) ?_
    refine lv_imul hx hb d_Pl_choiceOf_39 ?_
    refine b_ti (pk_mul (h + 1) 512) ?_
    refine lv_aload_n hx hb d_Pl_choiceOf_40 rfl (lv_at hl 0 rfl) ?_
    refine b_get (T := F_Pl) hm hw 0 rfl rfl (fun w h => uw_of w (u_Pl w h)) 1 (by decide) (uw_of _ k_147) rfl d_Pl_choiceOf_41 ?_
    refine b_getN (T := F_Sa) hm hw 12 rfl rfl (fun w h => uw_of w (u_Sa w h)) 5 (by decide) (k_131) rfl d_Pl_choiceOf_44 ?_
    refine lv_iload_n hx hb d_Pl_choiceOf_47 rfl (lv_at hl 2 rfl) ?_
    refine lv_bipush (v := nI 8) hx hb d_Pl_choiceOf_48 (by decide) ?_
    refine lv_imul hx hb d_Pl_choiceOf_50 ?_
    refine b_ti (pk_mul fr 8) ?_
    refine lv_iload_n hx hb d_Pl_choiceOf_51 rfl (lv_at hl 3 rfl) ?_
    refine lv_iadd hx hb d_Pl_choiceOf_52 ?_
    refine b_ti (nI_add (fr * 8) st) ?_
    refine b_iald (i := fr * 8 + st) hm hw 17 0 rfl rfl (by omega) (by omega) d_Pl_choiceOf_53 ?_
    refine b_ti (show (fun j => nI (AF j)) (fr * 8 + st) = nI (AF (fr * 8 + st)) from rfl) ?_
    refine lv_iadd hx hb d_Pl_choiceOf_54 ?_
    refine b_ti (nI_add ((h + 1) * 512) (AF (fr * 8 + st))) ?_
    refine b_lald (i := (h + 1) * 512 + (AF (fr * 8 + st))) hm hw 6 1 rfl rfl (by omega) (by omega) d_Pl_choiceOf_55 ?_
    refine b_tl (show (fun j => oL (BE j)) ((h + 1) * 512 + (AF (fr * 8 + st))) = oL (BE ((h + 1) * 512 + (AF (fr * 8 + st)))) from rfl) ?_
    refine lv_lstore (lv' := [(4, .long (oL (BE ((h + 1) * 512 + (AF (fr * 8 + st)))))), (0, .ref pl), (1, .int (nI h)), (2, .int (nI fr)), (3, .int (nI st))]) hx hb d_Pl_choiceOf_56  hl (by decide) rfl (fun ls hl => ?_)
    refine lv_lload hx hb d_Pl_choiceOf_58 (lv_at hl 0 rfl) ?_
    refine lv_ldc2 (v := (-1)) hx hb hown (hts _ (uw_of _ k_264)) d_Pl_choiceOf_60 ?_
    refine W.lcmp hx hb d_Pl_choiceOf_63 ?_
    have hon := oL_none (x := BE ((h + 1) * 512 + AF (fr * 8 + st))) (fun v hv => bBE _ v hv)
    refine lv_if_ne (tgt := 73) hx hb d_Pl_choiceOf_64 (by decide) (fun c_64_1 => ?_) (fun c_64_1 => ?_)
    · skip
      obtain ⟨v, hv, hvb⟩ := oL_some (x := BE ((h + 1) * 512 + AF (fr * 8 + st))) (fun v hv => bBE _ v hv) (by assumption)
      refine lv_lload hx hb d_Pl_choiceOf_73 (lv_at hl 0 rfl) ?_
      refine b_tl (y := lN v) (by rw [hv]; rfl) ?_
      refine lv_ldc2 (v := 8) hx hb hown (hts _ (uw_of _ k_269)) d_Pl_choiceOf_75 ?_
      refine b_tl (show (8 : Int64) = lN 8 from rfl) ?_
      refine lv_ldiv hx hb d_Pl_choiceOf_78 (by first | assumption | decide) ?_
      refine b_tl (pk_lDiv (a := v) (b := 8) (by omega) (by omega) (by omega)) ?_
      refine lv_aload_n hx hb d_Pl_choiceOf_79 rfl (lv_at hl 1 rfl) ?_
      refine lv_iload_n hx hb d_Pl_choiceOf_80 rfl (lv_at hl 2 rfl) ?_
      refine lv_iload_n hx hb d_Pl_choiceOf_81 rfl (lv_at hl 3 rfl) ?_
      refine lv_iload_n hx hb d_Pl_choiceOf_82 rfl (lv_at hl 4 rfl) ?_
      refine b_gol (wr := []) (b_runV (wc := [(pl, .inr (4, [.ref ho, .ref sa, .int (nI ov), .int (nI sta), .int (nI stl), .ref se, .ref ab, .ref he, .ref po, .ref sx, .ref be])), (se, .inl (k 0, 36, .inl SE)), (ab, .inl (k 0, 36, .inl (fun j => nI (AB j)))), (he, .inl (k 0, 288, .inl (fun j => nI (HE j)))), (po, .inl (k 0, 288, .inl (fun j => nI (PO j)))), (sx, .inl (k 0, 8, .inl (fun j => nI (SX j)))), (be, .inl (k 1, 18944, .inr (.inl (fun j => oL (BE j))))), (ho, .inr (1, [.ref ma, .int (nI cn), .ref fa])), (fa, .inl (k 4, 3, .inr (.inr (.inr (.inr (mAd f0 f1 f2)))))), (f0, .inl (k 0, 36, .inl FO)), (f1, .inl (k 0, 36, .inl (fun j => nI (FP j)))), (f2, .inl (k 0, 36, .inl (fun j => nI (FN j)))), (sa, .inr (5, [.ref rc, .int (nI n), .ref rb, .ref mr, .ref mpp, .ref af])), (rc, .inl (k 0, 512, .inl (fun j => nI (R j)))), (rb, .inl (k 0, 512, .inl (fun j => nI (RB j)))), (mr, .inl (k 0, 512, .inl (fun j => nI (MR j)))), (mpp, .inl (k 0, 512, .inl (fun j => nI (MP j)))), (af, .inl (k 0, 4096, .inl (fun j => nI (AF j))))]) (As := [.int (nI h), .int (nI fr), .int (nI st)]) (rest := [.long (lN (v / 8))]) (q0 := 0) hm hw (cwV 3 hts (gV uw_of k_273 k_270 k_271 (k_272) k_2) rfl rfl rfl (by decide +kernel) ⟨by decide, by decide⟩) (c_Pl_centsOf l D k _ pl se ab he po sx be ho ma fa f0 f1 f2 sa rc rb mr mpp af ov sta stl cn n SE FO BE AB HE PO SX FP FN R RB MR MP AF hB h fr st hh hf hs) [0, 1, 2, 3, 4, 5, 6, 7, 8, 9, 10, 11, 12, 13, 14, 15, 16, 17] (by decide) rfl rfl rfl rfl hl.1 rfl (Nat.le_of_ble_eq_true rfl) d_Pl_choiceOf_83 ⟨by decide, by decide⟩) hw [0, 1, 2, 3, 4, 5, 6, 7, 8, 9, 10, 11, 12, 13, 14, 15, 16, 17] [] rfl rfl (by decide) (by decide) (fun r _ H locs hp hw => ?_)
      have hw : bW (gU D k) A s H locs [(pl, .inr (4, [.ref ho, .ref sa, .int (nI ov), .int (nI sta), .int (nI stl), .ref se, .ref ab, .ref he, .ref po, .ref sx, .ref be])), (se, .inl (k 0, 36, .inl SE)), (ab, .inl (k 0, 36, .inl (fun j => nI (AB j)))), (he, .inl (k 0, 288, .inl (fun j => nI (HE j)))), (po, .inl (k 0, 288, .inl (fun j => nI (PO j)))), (sx, .inl (k 0, 8, .inl (fun j => nI (SX j)))), (be, .inl (k 1, 18944, .inr (.inl (fun j => oL (BE j))))), (ho, .inr (1, [.ref ma, .int (nI cn), .ref fa])), (fa, .inl (k 4, 3, .inr (.inr (.inr (.inr (mAd f0 f1 f2)))))), (f0, .inl (k 0, 36, .inl FO)), (f1, .inl (k 0, 36, .inl (fun j => nI (FP j)))), (f2, .inl (k 0, 36, .inl (fun j => nI (FN j)))), (sa, .inr (5, [.ref rc, .int (nI n), .ref rb, .ref mr, .ref mpp, .ref af])), (rc, .inl (k 0, 512, .inl (fun j => nI (R j)))), (rb, .inl (k 0, 512, .inl (fun j => nI (RB j)))), (mr, .inl (k 0, 512, .inl (fun j => nI (MR j)))), (mpp, .inl (k 0, 512, .inl (fun j => nI (MP j)))), (af, .inl (k 0, 4096, .inl (fun j => nI (AF j))))] := hw.sub [0, 1, 2, 3, 4, 5, 6, 7, 8, 9, 10, 11, 12, 13, 14, 15, 16, 17] (by decide) rfl
      refine b_tl hp ?_
      refine lv_ladd hx hb d_Pl_choiceOf_86 ?_
      refine b_tl (lN_add (v / 8) (PO (h * 8 + st) * FP h + SX (dif st (RB fr)))) ?_
      refine lv_ldc2 (v := 8) hx hb hown (hts _ (uw_of _ k_269)) d_Pl_choiceOf_87 ?_
      refine b_tl (show (8 : Int64) = lN 8 from rfl) ?_
      refine lv_lmul hx hb d_Pl_choiceOf_90 ?_
      refine b_tl (lN_mul ((v / 8) + (PO (h * 8 + st) * FP h + SX (dif st (RB fr)))) 8) ?_
      refine lv_iload_n hx hb d_Pl_choiceOf_91 rfl (lv_at hl 4 rfl) ?_
      refine lv_i2l (v := lN st) hx hb d_Pl_choiceOf_92 (nI_l (by omega)) ?_
      refine lv_ladd hx hb d_Pl_choiceOf_93 ?_
      refine b_tl (lN_add (((v / 8) + (PO (h * 8 + st) * FP h + SX (dif st (RB fr)))) * 8) st) ?_
      exact b_lret () hm hw (by unfold chO; rw [if_neg (by omega), hv]; rfl) d_Pl_choiceOf_94
    · skip
      refine lv_ldc2 (v := (-1)) hx hb hown (hts _ (uw_of _ k_264)) d_Pl_choiceOf_67 ?_
      refine lv_goto (tgt := 94) hx hb d_Pl_choiceOf_70 (by decide) ?_
      exact b_lret () hm hw (by unfold chO; rw [if_neg (by omega), hon.mp (by assumption)]; rfl) d_Pl_choiceOf_94
  · skip
    have h_22_0 : (HE (h * 8 + st)) < (FN h) := yltN c_22_0 (by omega) (by omega)
    refine lv_ldc2 (v := (-1)) hx hb hown (hts _ (uw_of _ k_264)) d_Pl_choiceOf_25 ?_
    exact b_lret () hm hw (by unfold chO; rw [if_pos (by omega)]; rfl) d_Pl_choiceOf_28
