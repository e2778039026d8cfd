/-! the class: refused calls -/

theorem ct_HM_requireArgument (l : Launch) (htr : l.stackTraces = false) (D : va_G) (k : Nat → ClassId) (sz : Nat) : MetT l y_HM_requireArgument (uw y_HM_requireArgument b_HM_requireArgument 1 none) (rU 6 1 6) (va_Pc [.int (nI 0)] (bPE (gU D k) [] sz)) (bQt sIA (bQ (gU D k) (va_A [] sz) []) (va_A [] sz)) 1 6 (va_A [] sz) := by
  refine b_startT (y := y_HM_requireArgument) (maxL := 1) (ret := none) (cc := b_HM_requireArgument) (ws' := ut) (rm := rU 6 1 6) (av := [.int (nI 0)]) (g := gU D k) (ws := []) (sz := sz) (Qc := fun A => bQt sIA (bQ (gU D k) A []) A) (by decide +kernel) (Nat.le_of_ble_eq_true rfl) ?_
  intro p e s m below meth c A hm hnh hE hw ls hl
  have hl : lv_has ls 1 [(0, .int (nI 0))] := hl
  have hx := hm.1
  have hb := hm.2.1
  refine lv_iload_n hx hb d_HM_requireArgument_0 rfl (lv_at hl 0 rfl) ?_
  refine lv_if_ne (tgt := 14) hx hb d_HM_requireArgument_1 (by decide) (fun c1 => ?_) (fun c1 => ?_)
  · exact absurd rfl c1
  · obtain ⟨sa, hs⟩ := hE.2.2.2.2.1
    exact b_throw htr hm (fun w h => uw_of w h) hnh hE hw (Or.inl rfl) eA_all (by decide +kernel) k_302 k_303 k_13 hs hl.1 ⟨by decide, by decide, by decide, by decide⟩ d_HM_requireArgument_4 d_HM_requireArgument_7 d_HM_requireArgument_8 d_HM_requireArgument_10 d_HM_requireArgument_13

theorem ct_HM_requireState (l : Launch) (htr : l.stackTraces = false) (D : va_G) (k : Nat → ClassId) (sz : Nat) : MetT l y_HM_requireState (uw y_HM_requireState b_HM_requireState 1 none) (rU 6 1 6) (va_Pc [.int (nI 0)] (bPE (gU D k) [] sz)) (bQt sIS (bQ (gU D k) (va_A [] sz) []) (va_A [] sz)) 1 6 (va_A [] sz) := by
  refine b_startT (y := y_HM_requireState) (maxL := 1) (ret := none) (cc := b_HM_requireState) (ws' := ut) (rm := rU 6 1 6) (av := [.int (nI 0)]) (g := gU D k) (ws := []) (sz := sz) (Qc := fun A => bQt sIS (bQ (gU D k) A []) A) (by decide +kernel) (Nat.le_of_ble_eq_true rfl) ?_
  intro p e s m below meth c A hm hnh hE hw ls hl
  have hl : lv_has ls 1 [(0, .int (nI 0))] := hl
  have hx := hm.1
  have hb := hm.2.1
  refine lv_iload_n hx hb d_HM_requireState_0 rfl (lv_at hl 0 rfl) ?_
  refine lv_if_ne (tgt := 14) hx hb d_HM_requireState_1 (by decide) (fun c1 => ?_) (fun c1 => ?_)
  · exact absurd rfl c1
  · obtain ⟨sa, hs⟩ := hE.2.2.2.2.2.1
    exact b_throw htr hm (fun w h => uw_of w h) hnh hE hw (Or.inr rfl) eS_all (by decide +kernel) k_372 k_373 k_14 hs hl.1 ⟨by decide, by decide, by decide, by decide⟩ d_HM_requireState_4 d_HM_requireState_7 d_HM_requireState_8 d_HM_requireState_10 d_HM_requireState_13

set_option maxHeartbeats 4000000 in
set_option maxRecDepth 100000 in
theorem ct_HM_machine1 (l : Launch) (htr : l.stackTraces = false) (D : va_G) (k : Nat → ClassId) (sz : Nat) (x0 ho pl rs to wt bo : Nat) (a b q : Int32) (hv9 : ¬ ((nI 1 ≤ a ∧ a ≤ nI 4) ∧ (nI 1 ≤ b ∧ b ≤ nI 4) ∧ (nI 0 ≤ q ∧ q ≤ nI 100000))) : MetT l y_HM_machine (uw y_HM_machine b_HM_machine 5 (some .int)) (rU 7 1 6) (va_Pc [.ref x0, .int a, .int b, .int q] (bPE (gU D k) [(x0, .inr (6, [.ref pl, .ref ho, .ref rs, .ref to, .ref wt, .ref bo]))] sz)) (bQt sIA (bQ (gU D k) (va_A [(x0, .inr (6, [.ref pl, .ref ho, .ref rs, .ref to, .ref wt, .ref bo]))] sz) [(x0, .inr (6, [.ref pl, .ref ho, .ref rs, .ref to, .ref wt, .ref bo]))]) (va_A [(x0, .inr (6, [.ref pl, .ref ho, .ref rs, .ref to, .ref wt, .ref bo]))] sz)) 1 6 (va_A [(x0, .inr (6, [.ref pl, .ref ho, .ref rs, .ref to, .ref wt, .ref bo]))] sz) := by
  refine b_startT (y := y_HM_machine) (maxL := 5) (ret := (some .int)) (cc := b_HM_machine) (ws' := ut) (rm := rU 7 1 6) (av := [.ref x0, .int a, .int b, .int q]) (g := gU D k) (ws := [(x0, .inr (6, [.ref pl, .ref ho, .ref rs, .ref to, .ref wt, .ref bo]))]) (sz := sz) (Qc := fun A => bQt sIA (bQ (gU D k) A [(x0, .inr (6, [.ref pl, .ref ho, .ref rs, .ref to, .ref wt, .ref bo]))]) A) (by decide +kernel) (Nat.le_of_ble_eq_true rfl) ?_
  intro p e s m below meth c A hm hnh hE hw ls hl
  have hl : lv_has ls 5 [(0, .ref x0), (1, .int a), (2, .int b), (3, .int q)] := hl
  have hx := hm.1
  have hb := hm.2.1
  have hown := hm.2.2.2.2.1
  have hts := hm.2.2.2.2.2.1
  refine lv_iload_n hx hb d_HM_machine_0 rfl (lv_at hl 1 rfl) ?_
  refine lv_iconst (v := nI 1) hx hb d_HM_machine_1 (by decide) ?_
  refine lv_iconst (v := nI 4) hx hb d_HM_machine_2 (by decide) ?_
  refine b_goi (wr := [(x0, .inr (6, [.ref pl, .ref ho, .ref rs, .ref to, .ref wt, .ref bo]))]) (b_runS (wc := []) (As := [.int a, .int (nI 1), .int (nI 4)]) (rest := []) hm hw (va_cwS 3 hts (gS2 uw_of k_297 k_295 k_296 k_1) rfl rfl rfl (by decide +kernel) ⟨by decide, by decide⟩) (c_HM_isWithin l D k _ a (nI 1) (nI 4)) [] (by decide) rfl rfl hl.1 rfl (Nat.le_of_ble_eq_true rfl) d_HM_machine_3 ⟨by decide, by decide⟩) hw [] [0] rfl rfl (by decide) (by decide) (fun r3 _ H locs hp3 hw => ?_)
  have hw : bW (gU D k) A s H locs [(x0, .inr (6, [.ref pl, .ref ho, .ref rs, .ref to, .ref wt, .ref bo]))] := hw.sub [0] (by decide) rfl
  rcases hp3 with ⟨hr3, hp3⟩ | ⟨hr3, hp3⟩
  · skip
    refine b_ti (y := nI 1) hr3 ?_
    refine lv_if_eq (tgt := 32) hx hb d_HM_machine_6 (by decide) (fun c_6_0 => ?_) (fun c_6_0 => ?_)
    · skip
      exact absurd c_6_0 (by decide)
    · skip
      refine lv_iload_n hx hb d_HM_machine_9 rfl (lv_at hl 2 rfl) ?_
      refine lv_iconst (v := nI 1) hx hb d_HM_machine_10 (by decide) ?_
      refine lv_iconst (v := nI 4) hx hb d_HM_machine_11 (by decide) ?_
      refine b_goi (wr := [(x0, .inr (6, [.ref pl, .ref ho, .ref rs, .ref to, .ref wt, .ref bo]))]) (b_runS (wc := []) (As := [.int b, .int (nI 1), .int (nI 4)]) (rest := []) hm hw (va_cwS 3 hts (gS2 uw_of k_297 k_295 k_296 k_1) rfl rfl rfl (by decide +kernel) ⟨by decide, by decide⟩) (c_HM_isWithin l D k _ b (nI 1) (nI 4)) [] (by decide) rfl rfl hl.1 rfl (Nat.le_of_ble_eq_true rfl) d_HM_machine_12 ⟨by decide, by decide⟩) hw [] [0] rfl rfl (by decide) (by decide) (fun r12 _ H locs hp12 hw => ?_)
      have hw : bW (gU D k) A s H locs [(x0, .inr (6, [.ref pl, .ref ho, .ref rs, .ref to, .ref wt, .ref bo]))] := hw.sub [0] (by decide) rfl
      rcases hp12 with ⟨hr12, hp12⟩ | ⟨hr12, hp12⟩
      · skip
        refine b_ti (y := nI 1) hr12 ?_
        refine lv_if_eq (tgt := 32) hx hb d_HM_machine_15 (by decide) (fun c_15_1 => ?_) (fun c_15_1 => ?_)
        · skip
          exact absurd c_15_1 (by decide)
        · skip
          refine lv_iload_n hx hb d_HM_machine_18 rfl (lv_at hl 3 rfl) ?_
          refine lv_iconst (v := nI 0) hx hb d_HM_machine_19 (by decide) ?_
          refine lv_ldc (v := 100000) hx hb hown (hts _ (uw_of _ k_298)) d_HM_machine_20 ?_
          refine b_ti (show (100000 : Int32) = nI 100000 from rfl) ?_
          refine b_goi (wr := [(x0, .inr (6, [.ref pl, .ref ho, .ref rs, .ref to, .ref wt, .ref bo]))]) (b_runS (wc := []) (As := [.int q, .int (nI 0), .int (nI 100000)]) (rest := []) hm hw (va_cwS 3 hts (gS2 uw_of k_297 k_295 k_296 k_1) rfl rfl rfl (by decide +kernel) ⟨by decide, by decide⟩) (c_HM_isWithin l D k _ q (nI 0) (nI 100000)) [] (by decide) rfl rfl hl.1 rfl (Nat.le_of_ble_eq_true rfl) d_HM_machine_22 ⟨by decide, by decide⟩) hw [] [0] rfl rfl (by decide) (by decide) (fun r22 _ H locs hp22 hw => ?_)
          have hw : bW (gU D k) A s H locs [(x0, .inr (6, [.ref pl, .ref ho, .ref rs, .ref to, .ref wt, .ref bo]))] := hw.sub [0] (by decide) rfl
          rcases hp22 with ⟨hr22, hp22⟩ | ⟨hr22, hp22⟩
          · skip
            refine b_ti (y := nI 1) hr22 ?_
            refine lv_if_eq (tgt := 32) hx hb d_HM_machine_25 (by decide) (fun c_25_2 => ?_) (fun c_25_2 => ?_)
            · skip
              exact absurd c_25_2 (by decide)
            · skip
              refine lv_iconst (v := nI 1) hx hb d_HM_machine_28 (by decide) ?_
              refine lv_goto (tgt := 33) hx hb d_HM_machine_29 (by decide) ?_
              exact absurd ⟨hp3, hp12, hp22⟩ hv9
          · skip
            refine b_ti (y := nI 0) hr22 ?_
            refine lv_if_eq (tgt := 32) hx hb d_HM_machine_25 (by decide) (fun c_25_3 => ?_) (fun c_25_3 => ?_)
            · skip
              refine lv_iconst (v := nI 0) hx hb d_HM_machine_32 (by decide) ?_
              exact b_thru (wc := []) (wr := [(x0, .inr (6, [.ref pl, .ref ho, .ref rs, .ref to, .ref wt, .ref bo]))]) (w1 := []) hm hnh hw [] [0] rfl rfl (by decide) (by decide) (t_runS (As := [.int (nI 0)]) (rest := []) hm (ct_HM_requireArgument l htr D k _) (va_cwS 1 hts (gS2 uw_of k_301 k_299 k_300 k_1) rfl rfl rfl (by decide +kernel) ⟨by decide, by decide⟩) ⟨b_blindE, b_preE hw hE [] (by decide) rfl⟩ rfl hl.1 rfl (Nat.le_of_ble_eq_true rfl) d_HM_machine_33 ⟨by decide, by decide⟩) (fun _ _ _ h => h) rfl rfl rfl
            · skip
              exact absurd c_25_3 (by decide)
      · skip
        refine b_ti (y := nI 0) hr12 ?_
        refine lv_if_eq (tgt := 32) hx hb d_HM_machine_15 (by decide) (fun c_15_4 => ?_) (fun c_15_4 => ?_)
        · skip
          refine lv_iconst (v := nI 0) hx hb d_HM_machine_32 (by decide) ?_
          exact b_thru (wc := []) (wr := [(x0, .inr (6, [.ref pl, .ref ho, .ref rs, .ref to, .ref wt, .ref bo]))]) (w1 := []) hm hnh hw [] [0] rfl rfl (by decide) (by decide) (t_runS (As := [.int (nI 0)]) (rest := []) hm (ct_HM_requireArgument l htr D k _) (va_cwS 1 hts (gS2 uw_of k_301 k_299 k_300 k_1) rfl rfl rfl (by decide +kernel) ⟨by decide, by decide⟩) ⟨b_blindE, b_preE hw hE [] (by decide) rfl⟩ rfl hl.1 rfl (Nat.le_of_ble_eq_true rfl) d_HM_machine_33 ⟨by decide, by decide⟩) (fun _ _ _ h => h) rfl rfl rfl
        · skip
          exact absurd c_15_4 (by decide)
  · skip
    refine b_ti (y := nI 0) hr3 ?_
    refine lv_if_eq (tgt := 32) hx hb d_HM_machine_6 (by decide) (fun c_6_5 => ?_) (fun c_6_5 => ?_)
    · skip
      refine lv_iconst (v := nI 0) hx hb d_HM_machine_32 (by decide) ?_
      exact b_thru (wc := []) (wr := [(x0, .inr (6, [.ref pl, .ref ho, .ref rs, .ref to, .ref wt, .ref bo]))]) (w1 := []) hm hnh hw [] [0] rfl rfl (by decide) (by decide) (t_runS (As := [.int (nI 0)]) (rest := []) hm (ct_HM_requireArgument l htr D k _) (va_cwS 1 hts (gS2 uw_of k_301 k_299 k_300 k_1) rfl rfl rfl (by decide +kernel) ⟨by decide, by decide⟩) ⟨b_blindE, b_preE hw hE [] (by decide) rfl⟩ rfl hl.1 rfl (Nat.le_of_ble_eq_true rfl) d_HM_machine_33 ⟨by decide, by decide⟩) (fun _ _ _ h => h) rfl rfl rfl
    · skip
      exact absurd c_6_5 (by decide)

set_option maxHeartbeats 4000000 in
set_option maxRecDepth 100000 in
theorem ct_HM_machine2 (l : Launch) (htr : l.stackTraces = false) (D : va_G) (k : Nat → ClassId) (sz : Nat) (x0 ho pl rs to wt bo ma fa cn se ab he po sx be sa ov sta stl a b q : Nat) (ha : 1 ≤ a ∧ a ≤ 4) (hb9 : 1 ≤ b ∧ b ≤ 4) (hq9 : q ≤ 100000) (hc : cn ≤ 3) (hov : ov ≤ 36) (hs9 : cn = 3 ∨ 0 < ov) : MetT l y_HM_machine (uw y_HM_machine b_HM_machine 5 (some .int)) (rU 7 1 6) (va_Pc [.ref x0, .int (nI a), .int (nI b), .int (nI q)] (bPE (gU D k) [(x0, .inr (6, [.ref pl, .ref ho, .ref rs, .ref to, .ref wt, .ref bo])), (ho, .inr (1, [.ref ma, .int (nI cn), .ref fa])), (pl, .inr (4, [.ref ho, .ref sa, .int (nI ov), .int (nI sta), .int (nI stl), .ref se, .ref ab, .ref he, .ref po, .ref sx, .ref be]))] sz)) (bQt sIS (bQ (gU D k) (va_A [(x0, .inr (6, [.ref pl, .ref ho, .ref rs, .ref to, .ref wt, .ref bo])), (ho, .inr (1, [.ref ma, .int (nI cn), .ref fa])), (pl, .inr (4, [.ref ho, .ref sa, .int (nI ov), .int (nI sta), .int (nI stl), .ref se, .ref ab, .ref he, .ref po, .ref sx, .ref be]))] sz) [(x0, .inr (6, [.ref pl, .ref ho, .ref rs, .ref to, .ref wt, .ref bo])), (ho, .inr (1, [.ref ma, .int (nI cn), .ref fa])), (pl, .inr (4, [.ref ho, .ref sa, .int (nI ov), .int (nI sta), .int (nI stl), .ref se, .ref ab, .ref he, .ref po, .ref sx, .ref be]))]) (va_A [(x0, .inr (6, [.ref pl, .ref ho, .ref rs, .ref to, .ref wt, .ref bo])), (ho, .inr (1, [.ref ma, .int (nI cn), .ref fa])), (pl, .inr (4, [.ref ho, .ref sa, .int (nI ov), .int (nI sta), .int (nI stl), .ref se, .ref ab, .ref he, .ref po, .ref sx, .ref be]))] sz)) 1 6 (va_A [(x0, .inr (6, [.ref pl, .ref ho, .ref rs, .ref to, .ref wt, .ref bo])), (ho, .inr (1, [.ref ma, .int (nI cn), .ref fa])), (pl, .inr (4, [.ref ho, .ref sa, .int (nI ov), .int (nI sta), .int (nI stl), .ref se, .ref ab, .ref he, .ref po, .ref sx, .ref be]))] sz) := by
  refine b_startT (y := y_HM_machine) (maxL := 5) (ret := (some .int)) (cc := b_HM_machine) (ws' := ut) (rm := rU 7 1 6) (av := [.ref x0, .int (nI a), .int (nI b), .int (nI q)]) (g := gU D k) (ws := [(x0, .inr (6, [.ref pl, .ref ho, .ref rs, .ref to, .ref wt, .ref bo])), (ho, .inr (1, [.ref ma, .int (nI cn), .ref fa])), (pl, .inr (4, [.ref ho, .ref sa, .int (nI ov), .int (nI sta), .int (nI stl), .ref se, .ref ab, .ref he, .ref po, .ref sx, .ref be]))]) (sz := sz) (Qc := fun A => bQt sIS (bQ (gU D k) A [(x0, .inr (6, [.ref pl, .ref ho, .ref rs, .ref to, .ref wt, .ref bo])), (ho, .inr (1, [.ref ma, .int (nI cn), .ref fa])), (pl, .inr (4, [.ref ho, .ref sa, .int (nI ov), .int (nI sta), .int (nI stl), .ref se, .ref ab, .ref he, .ref po, .ref sx, .ref be]))]) A) (by decide +kernel) (Nat.le_of_ble_eq_true rfl) ?_
  intro p e s m below meth c A hm hnh hE hw ls hl
  have hl : lv_has ls 5 [(0, .ref x0), (1, .int (nI a)), (2, .int (nI b)), (3, .int (nI q))] := hl
  have hx := hm.1
  have hb := hm.2.1
  have hown := hm.2.2.2.2.1
  have hts := hm.2.2.2.2.2.1
  refine lv_iload_n hx hb d_HM_machine_0 rfl (lv_at hl 1 rfl) ?_
  refine lv_iconst (v := nI 1) hx hb d_HM_machine_1 (by decide) ?_
  refine lv_iconst (v := nI 4) hx hb d_HM_machine_2 (by decide) ?_
  refine b_goi (wr := [(x0, .inr (6, [.ref pl, .ref ho, .ref rs, .ref to, .ref wt, .ref bo])), (ho, .inr (1, [.ref ma, .int (nI cn), .ref fa])), (pl, .inr (4, [.ref ho, .ref sa, .int (nI ov), .int (nI sta), .int (nI stl), .ref se, .ref ab, .ref he, .ref po, .ref sx, .ref be]))]) (b_runS (wc := []) (As := [.int (nI a), .int (nI 1), .int (nI 4)]) (rest := []) hm hw (va_cwS 3 hts (gS2 uw_of k_297 k_295 k_296 k_1) rfl rfl rfl (by decide +kernel) ⟨by decide, by decide⟩) (c_HM_isWithin l D k _ (nI a) (nI 1) (nI 4)) [] (by decide) rfl rfl hl.1 rfl (Nat.le_of_ble_eq_true rfl) d_HM_machine_3 ⟨by decide, by decide⟩) hw [] [0, 1, 2] rfl rfl (by decide) (by decide) (fun r3 _ H locs hp3 hw => ?_)
  have hw : bW (gU D k) A s H locs [(x0, .inr (6, [.ref pl, .ref ho, .ref rs, .ref to, .ref wt, .ref bo])), (ho, .inr (1, [.ref ma, .int (nI cn), .ref fa])), (pl, .inr (4, [.ref ho, .ref sa, .int (nI ov), .int (nI sta), .int (nI stl), .ref se, .ref ab, .ref he, .ref po, .ref sx, .ref be]))] := hw.sub [0, 1, 2] (by decide) rfl
  have hr3 : r3 = 1 := by rcases hp3 with ⟨q, _⟩ | ⟨_, q⟩; exact q; exact absurd (in_n (by omega) (by omega) (by omega)) q
  refine b_ti (y := nI 1) hr3 ?_
  refine lv_if_eq (tgt := 32) hx hb d_HM_machine_6 (by decide) (fun c_6_0 => ?_) (fun c_6_0 => ?_)
  · skip
    exact absurd c_6_0 (by decide)
  · skip
    refine lv_iload_n hx hb d_HM_machine_9 rfl (lv_at hl 2 rfl) ?_
    refine lv_iconst (v := nI 1) hx hb d_HM_machine_10 (by decide) ?_
    refine lv_iconst (v := nI 4) hx hb d_HM_machine_11 (by decide) ?_
    refine b_goi (wr := [(x0, .inr (6, [.ref pl, .ref ho, .ref rs, .ref to, .ref wt, .ref bo])), (ho, .inr (1, [.ref ma, .int (nI cn), .ref fa])), (pl, .inr (4, [.ref ho, .ref sa, .int (nI ov), .int (nI sta), .int (nI stl), .ref se, .ref ab, .ref he, .ref po, .ref sx, .ref be]))]) (b_runS (wc := []) (As := [.int (nI b), .int (nI 1), .int (nI 4)]) (rest := []) hm hw (va_cwS 3 hts (gS2 uw_of k_297 k_295 k_296 k_1) rfl rfl rfl (by decide +kernel) ⟨by decide, by decide⟩) (c_HM_isWithin l D k _ (nI b) (nI 1) (nI 4)) [] (by decide) rfl rfl hl.1 rfl (Nat.le_of_ble_eq_true rfl) d_HM_machine_12 ⟨by decide, by decide⟩) hw [] [0, 1, 2] rfl rfl (by decide) (by decide) (fun r12 _ H locs hp12 hw => ?_)
    have hw : bW (gU D k) A s H locs [(x0, .inr (6, [.ref pl, .ref ho, .ref rs, .ref to, .ref wt, .ref bo])), (ho, .inr (1, [.ref ma, .int (nI cn), .ref fa])), (pl, .inr (4, [.ref ho, .ref sa, .int (nI ov), .int (nI sta), .int (nI stl), .ref se, .ref ab, .ref he, .ref po, .ref sx, .ref be]))] := hw.sub [0, 1, 2] (by decide) rfl
    have hr12 : r12 = 1 := by rcases hp12 with ⟨q, _⟩ | ⟨_, q⟩; exact q; exact absurd (in_n (by omega) (by omega) (by omega)) q
    refine b_ti (y := nI 1) hr12 ?_
    refine lv_if_eq (tgt := 32) hx hb d_HM_machine_15 (by decide) (fun c_15_1 => ?_) (fun c_15_1 => ?_)
    · skip
      exact absurd c_15_1 (by decide)
    · skip
      refine lv_iload_n hx hb d_HM_machine_18 rfl (lv_at hl 3 rfl) ?_
      refine lv_iconst (v := nI 0) hx hb d_HM_machine_19 (by decide) ?_
      refine lv_ldc (v := 100000) hx hb hown (hts _ (uw_of _ k_298)) d_HM_machine_20 ?_
      refine b_ti (show (100000 : Int32) = nI 100000 from rfl) ?_
      refine b_goi (wr := [(x0, .inr (6, [.ref pl, .ref ho, .ref rs, .ref to, .ref wt, .ref bo])), (ho, .inr (1, [.ref ma, .int (nI cn), .ref fa])), (pl, .inr (4, [.ref ho, .ref sa, .int (nI ov), .int (nI sta), .int (nI stl), .ref se, .ref ab, .ref he, .ref po, .ref sx, .ref be]))]) (b_runS (wc := []) (As := [.int (nI q), .int (nI 0), .int (nI 100000)]) (rest := []) hm hw (va_cwS 3 hts (gS2 uw_of k_297 k_295 k_296 k_1) rfl rfl rfl (by decide +kernel) ⟨by decide, by decide⟩) (c_HM_isWithin l D k _ (nI q) (nI 0) (nI 100000)) [] (by decide) rfl rfl hl.1 rfl (Nat.le_of_ble_eq_true rfl) d_HM_machine_22 ⟨by decide, by decide⟩) hw [] [0, 1, 2] rfl rfl (by decide) (by decide) (fun r22 _ H locs hp22 hw => ?_)
      have hw : bW (gU D k) A s H locs [(x0, .inr (6, [.ref pl, .ref ho, .ref rs, .ref to, .ref wt, .ref bo])), (ho, .inr (1, [.ref ma, .int (nI cn), .ref fa])), (pl, .inr (4, [.ref ho, .ref sa, .int (nI ov), .int (nI sta), .int (nI stl), .ref se, .ref ab, .ref he, .ref po, .ref sx, .ref be]))] := hw.sub [0, 1, 2] (by decide) rfl
      have hr22 : r22 = 1 := by rcases hp22 with ⟨q, _⟩ | ⟨_, q⟩; exact q; exact absurd (in_n (by omega) (by omega) (by omega)) q
      refine b_ti (y := nI 1) hr22 ?_
      refine lv_if_eq (tgt := 32) hx hb d_HM_machine_25 (by decide) (fun c_25_2 => ?_) (fun c_25_2 => ?_)
      · skip
        exact absurd c_25_2 (by decide)
      · skip
        refine lv_iconst (v := nI 1) hx hb d_HM_machine_28 (by decide) ?_
        refine lv_goto (tgt := 33) hx hb d_HM_machine_29 (by decide) ?_
        refine b_gov (wr := [(x0, .inr (6, [.ref pl, .ref ho, .ref rs, .ref to, .ref wt, .ref bo])), (ho, .inr (1, [.ref ma, .int (nI cn), .ref fa])), (pl, .inr (4, [.ref ho, .ref sa, .int (nI ov), .int (nI sta), .int (nI stl), .ref se, .ref ab, .ref he, .ref po, .ref sx, .ref be]))]) (b_runS (wc := []) (As := [.int (nI 1)]) (rest := []) hm hw (va_cwS 1 hts (gS2 uw_of k_301 k_299 k_300 k_1) rfl rfl rfl (by decide +kernel) ⟨by decide, by decide⟩) (c_HM_requireArgument l D k _ ) [] (by decide) rfl rfl hl.1 rfl (Nat.le_of_ble_eq_true rfl) d_HM_machine_33 ⟨by decide, by decide⟩) hw [] [0, 1, 2] rfl rfl (by decide) (by decide) (fun _ H locs _ hw => ?_)
        have hw : bW (gU D k) A s H locs [(x0, .inr (6, [.ref pl, .ref ho, .ref rs, .ref to, .ref wt, .ref bo])), (ho, .inr (1, [.ref ma, .int (nI cn), .ref fa])), (pl, .inr (4, [.ref ho, .ref sa, .int (nI ov), .int (nI sta), .int (nI stl), .ref se, .ref ab, .ref he, .ref po, .ref sx, .ref be]))] := hw.sub [0, 1, 2] (by decide) rfl
        refine lv_aload_n hx hb d_HM_machine_36 rfl (lv_at hl 0 rfl) ?_
        refine b_get (T := F_HM) hm hw 0 rfl rfl (fun w h => uw_of w (u_HM w h)) 1 (by decide) (uw_of _ k_205) rfl d_HM_machine_37 ?_
        refine b_getN (T := F_Ho) hm hw 1 rfl rfl (fun w h => uw_of w (u_Ho w h)) 1 (by decide) (k_101) rfl d_HM_machine_40 ?_
        refine lv_iconst (v := nI 3) hx hb d_HM_machine_43 (by decide) ?_
        refine lv_icmp_ge (tgt := 61) hx hb d_HM_machine_44 (by decide) (fun c_44_3 => ?_) (fun c_44_3 => ?_)
        · skip
          have h_44_3 : 3 ≤ cn := yge c_44_3 (by omega) (by omega)
          refine lv_iconst (v := nI 0) hx hb d_HM_machine_61 (by decide) ?_
          exact b_thru (wc := []) (wr := [(x0, .inr (6, [.ref pl, .ref ho, .ref rs, .ref to, .ref wt, .ref bo])), (ho, .inr (1, [.ref ma, .int (nI cn), .ref fa])), (pl, .inr (4, [.ref ho, .ref sa, .int (nI ov), .int (nI sta), .int (nI stl), .ref se, .ref ab, .ref he, .ref po, .ref sx, .ref be]))]) (w1 := []) hm hnh hw [] [0, 1, 2] rfl rfl (by decide) (by decide) (t_runS (As := [.int (nI 0)]) (rest := []) hm (ct_HM_requireState l htr D k _) (va_cwS 1 hts (gS2 uw_of k_371 k_369 k_370 k_1) rfl rfl rfl (by decide +kernel) ⟨by decide, by decide⟩) ⟨b_blindE, b_preE hw hE [] (by decide) rfl⟩ rfl hl.1 rfl (Nat.le_of_ble_eq_true rfl) d_HM_machine_62 ⟨by decide, by decide⟩) (fun _ _ _ h => h) rfl rfl rfl
        · skip
          have h_44_3 : cn < 3 := yltN c_44_3 (by omega) (by omega)
          refine lv_aload_n hx hb d_HM_machine_47 rfl (lv_at hl 0 rfl) ?_
          refine b_get (T := F_HM) hm hw 0 rfl rfl (fun w h => uw_of w (u_HM w h)) 0 (by decide) (uw_of _ k_204) rfl d_HM_machine_48 ?_
          refine b_getN (T := F_Pl) hm hw 2 rfl rfl (fun w h => uw_of w (u_Pl w h)) 2 (by decide) (k_149) rfl d_HM_machine_51 ?_
          refine lv_if_ne (tgt := 61) hx hb d_HM_machine_54 (by decide) (fun c_54_4 => ?_) (fun c_54_4 => ?_)
          · skip
            have h_54_4 : ov ≠ 0 := yne0 c_54_4 (by omega) (by omega)
            refine lv_iconst (v := nI 0) hx hb d_HM_machine_61 (by decide) ?_
            exact b_thru (wc := []) (wr := [(x0, .inr (6, [.ref pl, .ref ho, .ref rs, .ref to, .ref wt, .ref bo])), (ho, .inr (1, [.ref ma, .int (nI cn), .ref fa])), (pl, .inr (4, [.ref ho, .ref sa, .int (nI ov), .int (nI sta), .int (nI stl), .ref se, .ref ab, .ref he, .ref po, .ref sx, .ref be]))]) (w1 := []) hm hnh hw [] [0, 1, 2] rfl rfl (by decide) (by decide) (t_runS (As := [.int (nI 0)]) (rest := []) hm (ct_HM_requireState l htr D k _) (va_cwS 1 hts (gS2 uw_of k_371 k_369 k_370 k_1) rfl rfl rfl (by decide +kernel) ⟨by decide, by decide⟩) ⟨b_blindE, b_preE hw hE [] (by decide) rfl⟩ rfl hl.1 rfl (Nat.le_of_ble_eq_true rfl) d_HM_machine_62 ⟨by decide, by decide⟩) (fun _ _ _ h => h) rfl rfl rfl
          · skip
            have h_54_4 : ov = 0 := yeq0 c_54_4 (by omega) (by omega)
            refine lv_iconst (v := nI 1) hx hb d_HM_machine_57 (by decide) ?_
            refine lv_goto (tgt := 62) hx hb d_HM_machine_58 (by decide) ?_
            exfalso; omega

set_option maxHeartbeats 4000000 in
set_option maxRecDepth 100000 in
theorem ct_HM_row1 (l : Launch) (htr : l.stackTraces = false) (D : va_G) (k : Nat → ClassId) (sz : Nat) (x0 ho pl rs to wt bo ma fa cn : Nat) (hc : cn ≤ 3) (u0 v y q : Int32) (hv9 : ¬ ((nI 0 ≤ u0 ∧ u0 < nI cn) ∧ ((-5000) ≤ v ∧ v ≤ nI 5000) ∧ (nI 0 ≤ y ∧ y ≤ nI 100000) ∧ (nI 0 ≤ q ∧ q ≤ nI 100000))) : MetT l y_HM_row (uw y_HM_row b_HM_row 6 (some .int)) (rU 7 1 6) (va_Pc [.ref x0, .int u0, .int v, .int y, .int q] (bPE (gU D k) [(x0, .inr (6, [.ref pl, .ref ho, .ref rs, .ref to, .ref wt, .ref bo])), (ho, .inr (1, [.ref ma, .int (nI cn), .ref fa]))] sz)) (bQt sIA (bQ (gU D k) (va_A [(x0, .inr (6, [.ref pl, .ref ho, .ref rs, .ref to, .ref wt, .ref bo])), (ho, .inr (1, [.ref ma, .int (nI cn), .ref fa]))] sz) [(x0, .inr (6, [.ref pl, .ref ho, .ref rs, .ref to, .ref wt, .ref bo])), (ho, .inr (1, [.ref ma, .int (nI cn), .ref fa]))]) (va_A [(x0, .inr (6, [.ref pl, .ref ho, .ref rs, .ref to, .ref wt, .ref bo])), (ho, .inr (1, [.ref ma, .int (nI cn), .ref fa]))] sz)) 1 6 (va_A [(x0, .inr (6, [.ref pl, .ref ho, .ref rs, .ref to, .ref wt, .ref bo])), (ho, .inr (1, [.ref ma, .int (nI cn), .ref fa]))] sz) := by
  refine b_startT (y := y_HM_row) (maxL := 6) (ret := (some .int)) (cc := b_HM_row) (ws' := ut) (rm := rU 7 1 6) (av := [.ref x0, .int u0, .int v, .int y, .int q]) (g := gU D k) (ws := [(x0, .inr (6, [.ref pl, .ref ho, .ref rs, .ref to, .ref wt, .ref bo])), (ho, .inr (1, [.ref ma, .int (nI cn), .ref fa]))]) (sz := sz) (Qc := fun A => bQt sIA (bQ (gU D k) A [(x0, .inr (6, [.ref pl, .ref ho, .ref rs, .ref to, .ref wt, .ref bo])), (ho, .inr (1, [.ref ma, .int (nI cn), .ref fa]))]) A) (by decide +kernel) (Nat.le_of_ble_eq_true rfl) ?_
  intro p e s m below meth c A hm hnh hE hw ls hl
  have hl : lv_has ls 6 [(0, .ref x0), (1, .int u0), (2, .int v), (3, .int y), (4, .int q)] := hl
  have hx := hm.1
  have hb := hm.2.1
  have hown := hm.2.2.2.2.1
  have hts := hm.2.2.2.2.2.1
  refine lv_aload_n hx hb d_HM_row_0 rfl (lv_at hl 0 rfl) ?_
  refine lv_iload_n hx hb d_HM_row_1 rfl (lv_at hl 1 rfl) ?_
  refine b_goi (wr := []) (b_runV (wc := [(x0, .inr (6, [.ref pl, .ref ho, .ref rs, .ref to, .ref wt, .ref bo])), (ho, .inr (1, [.ref ma, .int (nI cn), .ref fa]))]) (As := [.int u0]) (rest := []) (q0 := 0) hm hw (cwV 1 hts (gV uw_of k_442 k_439 k_441 (mp 10 rfl rfl) k_1) rfl rfl rfl (by decide +kernel) ⟨by decide, by decide⟩) (c_HM_isMachine l D k _ x0 ho pl rs to wt bo ma fa cn u0) [0, 1] (by decide) rfl rfl rfl rfl hl.1 rfl (Nat.le_of_ble_eq_true rfl) d_HM_row_2 ⟨by decide, by decide⟩) hw [0, 1] [] rfl rfl (by decide) (by decide) (fun r2 _ H locs hp2 hw => ?_)
  have hw : bW (gU D k) A s H locs [(x0, .inr (6, [.ref pl, .ref ho, .ref rs, .ref to, .ref wt, .ref bo])), (ho, .inr (1, [.ref ma, .int (nI cn), .ref fa]))] := hw.sub [0, 1] (by decide) rfl
  rcases hp2 with ⟨hr2, hp2⟩ | ⟨hr2, hp2⟩
  · skip
    refine b_ti (y := nI 1) hr2 ?_
    refine lv_if_eq (tgt := 40) hx hb d_HM_row_5 (by decide) (fun c_5_0 => ?_) (fun c_5_0 => ?_)
    · skip
      exact absurd c_5_0 (by decide)
    · skip
      refine lv_iload_n hx hb d_HM_row_8 rfl (lv_at hl 2 rfl) ?_
      refine b_goi (wr := [(x0, .inr (6, [.ref pl, .ref ho, .ref rs, .ref to, .ref wt, .ref bo])), (ho, .inr (1, [.ref ma, .int (nI cn), .ref fa]))]) (b_runS (wc := []) (As := [.int v]) (rest := []) hm hw (va_cwS 1 hts (gS2 uw_of k_445 k_443 k_444 k_1) rfl rfl rfl (by decide +kernel) ⟨by decide, by decide⟩) (c_HM_isWarmth l D k _ v) [] (by decide) rfl rfl hl.1 rfl (Nat.le_of_ble_eq_true rfl) d_HM_row_9 ⟨by decide, by decide⟩) hw [] [0, 1] rfl rfl (by decide) (by decide) (fun r9 _ H locs hp9 hw => ?_)
      have hw : bW (gU D k) A s H locs [(x0, .inr (6, [.ref pl, .ref ho, .ref rs, .ref to, .ref wt, .ref bo])), (ho, .inr (1, [.ref ma, .int (nI cn), .ref fa]))] := hw.sub [0, 1] (by decide) rfl
      rcases hp9 with ⟨hr9, hp9⟩ | ⟨hr9, hp9⟩
      · skip
        refine b_ti (y := nI 1) hr9 ?_
        refine lv_if_eq (tgt := 40) hx hb d_HM_row_12 (by decide) (fun c_12_1 => ?_) (fun c_12_1 => ?_)
        · skip
          exact absurd c_12_1 (by decide)
        · skip
          refine lv_iload_n hx hb d_HM_row_15 rfl (lv_at hl 3 rfl) ?_
          refine lv_iconst (v := nI 0) hx hb d_HM_row_16 (by decide) ?_
          refine lv_ldc (v := 100000) hx hb hown (hts _ (uw_of _ k_298)) d_HM_row_17 ?_
          refine b_ti (show (100000 : Int32) = nI 100000 from rfl) ?_
          refine b_goi (wr := [(x0, .inr (6, [.ref pl, .ref ho, .ref rs, .ref to, .ref wt, .ref bo])), (ho, .inr (1, [.ref ma, .int (nI cn), .ref fa]))]) (b_runS (wc := []) (As := [.int y, .int (nI 0), .int (nI 100000)]) (rest := []) hm hw (va_cwS 3 hts (gS2 uw_of k_297 k_295 k_296 k_1) rfl rfl rfl (by decide +kernel) ⟨by decide, by decide⟩) (c_HM_isWithin l D k _ y (nI 0) (nI 100000)) [] (by decide) rfl rfl hl.1 rfl (Nat.le_of_ble_eq_true rfl) d_HM_row_19 ⟨by decide, by decide⟩) hw [] [0, 1] rfl rfl (by decide) (by decide) (fun r19 _ H locs hp19 hw => ?_)
          have hw : bW (gU D k) A s H locs [(x0, .inr (6, [.ref pl, .ref ho, .ref rs, .ref to, .ref wt, .ref bo])), (ho, .inr (1, [.ref ma, .int (nI cn), .ref fa]))] := hw.sub [0, 1] (by decide) rfl
          rcases hp19 with ⟨hr19, hp19⟩ | ⟨hr19, hp19⟩
          · skip
            refine b_ti (y := nI 1) hr19 ?_
            refine lv_if_eq (tgt := 40) hx hb d_HM_row_22 (by decide) (fun c_22_2 => ?_) (fun c_22_2 => ?_)
            · skip
              exact absurd c_22_2 (by decide)
            · skip
              refine lv_iload hx hb d_HM_row_25 (lv_at hl 4 rfl) ?_
              refine lv_iconst (v := nI 0) hx hb d_HM_row_27 (by decide) ?_
              refine lv_ldc (v := 100000) hx hb hown (hts _ (uw_of _ k_298)) d_HM_row_28 ?_
              refine b_ti (show (100000 : Int32) = nI 100000 from rfl) ?_
              refine b_goi (wr := [(x0, .inr (6, [.ref pl, .ref ho, .ref rs, .ref to, .ref wt, .ref bo])), (ho, .inr (1, [.ref ma, .int (nI cn), .ref fa]))]) (b_runS (wc := []) (As := [.int q, .int (nI 0), .int (nI 100000)]) (rest := []) hm hw (va_cwS 3 hts (gS2 uw_of k_297 k_295 k_296 k_1) rfl rfl rfl (by decide +kernel) ⟨by decide, by decide⟩) (c_HM_isWithin l D k _ q (nI 0) (nI 100000)) [] (by decide) rfl rfl hl.1 rfl (Nat.le_of_ble_eq_true rfl) d_HM_row_30 ⟨by decide, by decide⟩) hw [] [0, 1] rfl rfl (by decide) (by decide) (fun r30 _ H locs hp30 hw => ?_)
              have hw : bW (gU D k) A s H locs [(x0, .inr (6, [.ref pl, .ref ho, .ref rs, .ref to, .ref wt, .ref bo])), (ho, .inr (1, [.ref ma, .int (nI cn), .ref fa]))] := hw.sub [0, 1] (by decide) rfl
              rcases hp30 with ⟨hr30, hp30⟩ | ⟨hr30, hp30⟩
              · skip
                refine b_ti (y := nI 1) hr30 ?_
                refine lv_if_eq (tgt := 40) hx hb d_HM_row_33 (by decide) (fun c_33_3 => ?_) (fun c_33_3 => ?_)
                · skip
                  exact absurd c_33_3 (by decide)
                · skip
                  refine lv_iconst (v := nI 1) hx hb d_HM_row_36 (by decide) ?_
                  refine lv_goto (tgt := 41) hx hb d_HM_row_37 (by decide) ?_
                  exact absurd ⟨im_c hc hp2, hp9, hp19, hp30⟩ hv9
              · skip
                refine b_ti (y := nI 0) hr30 ?_
                refine lv_if_eq (tgt := 40) hx hb d_HM_row_33 (by decide) (fun c_33_4 => ?_) (fun c_33_4 => ?_)
                · skip
                  refine lv_iconst (v := nI 0) hx hb d_HM_row_40 (by decide) ?_
                  exact b_thru (wc := []) (wr := [(x0, .inr (6, [.ref pl, .ref ho, .ref rs, .ref to, .ref wt, .ref bo])), (ho, .inr (1, [.ref ma, .int (nI cn), .ref fa]))]) (w1 := []) hm hnh hw [] [0, 1] rfl rfl (by decide) (by decide) (t_runS (As := [.int (nI 0)]) (rest := []) hm (ct_HM_requireArgument l htr D k _) (va_cwS 1 hts (gS2 uw_of k_301 k_299 k_300 k_1) rfl rfl rfl (by decide +kernel) ⟨by decide, by decide⟩) ⟨b_blindE, b_preE hw hE [] (by decide) rfl⟩ rfl hl.1 rfl (Nat.le_of_ble_eq_true rfl) d_HM_row_41 ⟨by decide, by decide⟩) (fun _ _ _ h => h) rfl rfl rfl
                · skip
                  exact absurd c_33_4 (by decide)
          · skip
            refine b_ti (y := nI 0) hr19 ?_
            refine lv_if_eq (tgt := 40) hx hb d_HM_row_22 (by decide) (fun c_22_5 => ?_) (fun c_22_5 => ?_)
            · skip
              refine lv_iconst (v := nI 0) hx hb d_HM_row_40 (by decide) ?_
              exact b_thru (wc := []) (wr := [(x0, .inr (6, [.ref pl, .ref ho, .ref rs, .ref to, .ref wt, .ref bo])), (ho, .inr (1, [.ref ma, .int (nI cn), .ref fa]))]) (w1 := []) hm hnh hw [] [0, 1] rfl rfl (by decide) (by decide) (t_runS (As := [.int (nI 0)]) (rest := []) hm (ct_HM_requireArgument l htr D k _) (va_cwS 1 hts (gS2 uw_of k_301 k_299 k_300 k_1) rfl rfl rfl (by decide +kernel) ⟨by decide, by decide⟩) ⟨b_blindE, b_preE hw hE [] (by decide) rfl⟩ rfl hl.1 rfl (Nat.le_of_ble_eq_true rfl) d_HM_row_41 ⟨by decide, by decide⟩) (fun _ _ _ h => h) rfl rfl rfl
            · skip
              exact absurd c_22_5 (by decide)
      · skip
        refine b_ti (y := nI 0) hr9 ?_
        refine lv_if_eq (tgt := 40) hx hb d_HM_row_12 (by decide) (fun c_12_6 => ?_) (fun c_12_6 => ?_)
        · skip
          refine lv_iconst (v := nI 0) hx hb d_HM_row_40 (by decide) ?_
          exact b_thru (wc := []) (wr := [(x0, .inr (6, [.ref pl, .ref ho, .ref rs, .ref to, .ref wt, .ref bo])), (ho, .inr (1, [.ref ma, .int (nI cn), .ref fa]))]) (w1 := []) hm hnh hw [] [0, 1] rfl rfl (by decide) (by decide) (t_runS (As := [.int (nI 0)]) (rest := []) hm (ct_HM_requireArgument l htr D k _) (va_cwS 1 hts (gS2 uw_of k_301 k_299 k_300 k_1) rfl rfl rfl (by decide +kernel) ⟨by decide, by decide⟩) ⟨b_blindE, b_preE hw hE [] (by decide) rfl⟩ rfl hl.1 rfl (Nat.le_of_ble_eq_true rfl) d_HM_row_41 ⟨by decide, by decide⟩) (fun _ _ _ h => h) rfl rfl rfl
        · skip
          exact absurd c_12_6 (by decide)
  · skip
    refine b_ti (y := nI 0) hr2 ?_
    refine lv_if_eq (tgt := 40) hx hb d_HM_row_5 (by decide) (fun c_5_7 => ?_) (fun c_5_7 => ?_)
    · skip
      refine lv_iconst (v := nI 0) hx hb d_HM_row_40 (by decide) ?_
      exact b_thru (wc := []) (wr := [(x0, .inr (6, [.ref pl, .ref ho, .ref rs, .ref to, .ref wt, .ref bo])), (ho, .inr (1, [.ref ma, .int (nI cn), .ref fa]))]) (w1 := []) hm hnh hw [] [0, 1] rfl rfl (by decide) (by decide) (t_runS (As := [.int (nI 0)]) (rest := []) hm (ct_HM_requireArgument l htr D k _) (va_cwS 1 hts (gS2 uw_of k_301 k_299 k_300 k_1) rfl rfl rfl (by decide +kernel) ⟨by decide, by decide⟩) ⟨b_blindE, b_preE hw hE [] (by decide) rfl⟩ rfl hl.1 rfl (Nat.le_of_ble_eq_true rfl) d_HM_row_41 ⟨by decide, by decide⟩) (fun _ _ _ h => h) rfl rfl rfl
    · skip
      exact absurd c_5_7 (by decide)

set_option maxHeartbeats 4000000 in
set_option maxRecDepth 100000 in
theorem ct_HM_row2 (l : Launch) (htr : l.stackTraces = false) (D : va_G) (k : Nat → ClassId) (sz : Nat) (x0 ho pl rs to wt bo ma fa cn : Nat) (m0 m1 m2 : Nat) (lr lp sc hq ha hv pq pa pv oq zz : Nat → Nat) (LF LG LP OU : Nat → Nat → Int32) (kk : Nat) (v y q : Int32) (hc : cn ≤ 3) (hk : kk < cn) (hz : ∀ j, zz j ≤ 8) (hv9 : ((-5000) ≤ v ∧ v ≤ nI 5000)) (hy : (nI 0 ≤ y ∧ y ≤ nI 100000)) (hq9 : (nI 0 ≤ q ∧ q ≤ nI 100000)) (hs9 : ¬ lnRoom 8 (LF kk) (zz kk) v) : MetT l y_HM_row (uw y_HM_row b_HM_row 6 (some .int)) (rU 7 1 6) (va_Pc [.ref x0, .int (nI kk), .int v, .int y, .int q] (bPE (gU D k) [(x0, .inr (6, [.ref pl, .ref ho, .ref rs, .ref to, .ref wt, .ref bo])), (ho, .inr (1, [.ref ma, .int (nI cn), .ref fa])), (ma, .inl (k 3, 3, .inr (.inr (.inr (.inr (mAd m0 m1 m2)))))), (m0, .inr (3, [.int (nI (lr 0)), .int (nI (lp 0)), .int (nI (sc 0)), .ref (hq 0), .ref (pq 0), .ref (oq 0)])), (hq 0, .inr (2, [.ref (ha 0), .ref (hv 0), .int (nI (zz 0))])), (ha 0, .inl (k 0, 8, .inl (LF 0))), (hv 0, .inl (k 0, 8, .inl (LG 0))), (pq 0, .inr (2, [.ref (pa 0), .ref (pv 0), .int (nI (zz 0))])), (pa 0, .inl (k 0, 8, .inl (LF 0))), (pv 0, .inl (k 0, 8, .inl (LP 0))), (oq 0, .inl (k 2, 36, .inl (OU 0))), (m1, .inr (3, [.int (nI (lr 1)), .int (nI (lp 1)), .int (nI (sc 1)), .ref (hq 1), .ref (pq 1), .ref (oq 1)])), (hq 1, .inr (2, [.ref (ha 1), .ref (hv 1), .int (nI (zz 1))])), (ha 1, .inl (k 0, 8, .inl (LF 1))), (hv 1, .inl (k 0, 8, .inl (LG 1))), (pq 1, .inr (2, [.ref (pa 1), .ref (pv 1), .int (nI (zz 1))])), (pa 1, .inl (k 0, 8, .inl (LF 1))), (pv 1, .inl (k 0, 8, .inl (LP 1))), (oq 1, .inl (k 2, 36, .inl (OU 1))), (m2, .inr (3, [.int (nI (lr 2)), .int (nI (lp 2)), .int (nI (sc 2)), .ref (hq 2), .ref (pq 2), .ref (oq 2)])), (hq 2, .inr (2, [.ref (ha 2), .ref (hv 2), .int (nI (zz 2))])), (ha 2, .inl (k 0, 8, .inl (LF 2))), (hv 2, .inl (k 0, 8, .inl (LG 2))), (pq 2, .inr (2, [.ref (pa 2), .ref (pv 2), .int (nI (zz 2))])), (pa 2, .inl (k 0, 8, .inl (LF 2))), (pv 2, .inl (k 0, 8, .inl (LP 2))), (oq 2, .inl (k 2, 36, .inl (OU 2)))] sz)) (bQt sIS (bQ (gU D k) (va_A [(x0, .inr (6, [.ref pl, .ref ho, .ref rs, .ref to, .ref wt, .ref bo])), (ho, .inr (1, [.ref ma, .int (nI cn), .ref fa])), (ma, .inl (k 3, 3, .inr (.inr (.inr (.inr (mAd m0 m1 m2)))))), (m0, .inr (3, [.int (nI (lr 0)), .int (nI (lp 0)), .int (nI (sc 0)), .ref (hq 0), .ref (pq 0), .ref (oq 0)])), (hq 0, .inr (2, [.ref (ha 0), .ref (hv 0), .int (nI (zz 0))])), (ha 0, .inl (k 0, 8, .inl (LF 0))), (hv 0, .inl (k 0, 8, .inl (LG 0))), (pq 0, .inr (2, [.ref (pa 0), .ref (pv 0), .int (nI (zz 0))])), (pa 0, .inl (k 0, 8, .inl (LF 0))), (pv 0, .inl (k 0, 8, .inl (LP 0))), (oq 0, .inl (k 2, 36, .inl (OU 0))), (m1, .inr (3, [.int (nI (lr 1)), .int (nI (lp 1)), .int (nI (sc 1)), .ref (hq 1), .ref (pq 1), .ref (oq 1)])), (hq 1, .inr (2, [.ref (ha 1), .ref (hv 1), .int (nI (zz 1))])), (ha 1, .inl (k 0, 8, .inl (LF 1))), (hv 1, .inl (k 0, 8, .inl (LG 1))), (pq 1, .inr (2, [.ref (pa 1), .ref (pv 1), .int (nI (zz 1))])), (pa 1, .inl (k 0, 8, .inl (LF 1))), (pv 1, .inl (k 0, 8, .inl (LP 1))), (oq 1, .inl (k 2, 36, .inl (OU 1))), (m2, .inr (3, [.int (nI (lr 2)), .int (nI (lp 2)), .int (nI (sc 2)), .ref (hq 2), .ref (pq 2), .ref (oq 2)])), (hq 2, .inr (2, [.ref (ha 2), .ref (hv 2), .int (nI (zz 2))])), (ha 2, .inl (k 0, 8, .inl (LF 2))), (hv 2, .inl (k 0, 8, .inl (LG 2))), (pq 2, .inr (2, [.ref (pa 2), .ref (pv 2), .int (nI (zz 2))])), (pa 2, .inl (k 0, 8, .inl (LF 2))), (pv 2, .inl (k 0, 8, .inl (LP 2))), (oq 2, .inl (k 2, 36, .inl (OU 2)))] sz) [(x0, .inr (6, [.ref pl, .ref ho, .ref rs, .ref to, .ref wt, .ref bo])), (ho, .inr (1, [.ref ma, .int (nI cn), .ref fa])), (ma, .inl (k 3, 3, .inr (.inr (.inr (.inr (mAd m0 m1 m2)))))), (m0, .inr (3, [.int (nI (lr 0)), .int (nI (lp 0)), .int (nI (sc 0)), .ref (hq 0), .ref (pq 0), .ref (oq 0)])), (hq 0, .inr (2, [.ref (ha 0), .ref (hv 0), .int (nI (zz 0))])), (ha 0, .inl (k 0, 8, .inl (LF 0))), (hv 0, .inl (k 0, 8, .inl (LG 0))), (pq 0, .inr (2, [.ref (pa 0), .ref (pv 0), .int (nI (zz 0))])), (pa 0, .inl (k 0, 8, .inl (LF 0))), (pv 0, .inl (k 0, 8, .inl (LP 0))), (oq 0, .inl (k 2, 36, .inl (OU 0))), (m1, .inr (3, [.int (nI (lr 1)), .int (nI (lp 1)), .int (nI (sc 1)), .ref (hq 1), .ref (pq 1), .ref (oq 1)])), (hq 1, .inr (2, [.ref (ha 1), .ref (hv 1), .int (nI (zz 1))])), (ha 1, .inl (k 0, 8, .inl (LF 1))), (hv 1, .inl (k 0, 8, .inl (LG 1))), (pq 1, .inr (2, [.ref (pa 1), .ref (pv 1), .int (nI (zz 1))])), (pa 1, .inl (k 0, 8, .inl (LF 1))), (pv 1, .inl (k 0, 8, .inl (LP 1))), (oq 1, .inl (k 2, 36, .inl (OU 1))), (m2, .inr (3, [.int (nI (lr 2)), .int (nI (lp 2)), .int (nI (sc 2)), .ref (hq 2), .ref (pq 2), .ref (oq 2)])), (hq 2, .inr (2, [.ref (ha 2), .ref (hv 2), .int (nI (zz 2))])), (ha 2, .inl (k 0, 8, .inl (LF 2))), (hv 2, .inl (k 0, 8, .inl (LG 2))), (pq 2, .inr (2, [.ref (pa 2), .ref (pv 2), .int (nI (zz 2))])), (pa 2, .inl (k 0, 8, .inl (LF 2))), (pv 2, .inl (k 0, 8, .inl (LP 2))), (oq 2, .inl (k 2, 36, .inl (OU 2)))]) (va_A [(x0, .inr (6, [.ref pl, .ref ho, .ref rs, .ref to, .ref wt, .ref bo])), (ho, .inr (1, [.ref ma, .int (nI cn), .ref fa])), (ma, .inl (k 3, 3, .inr (.inr (.inr (.inr (mAd m0 m1 m2)))))), (m0, .inr (3, [.int (nI (lr 0)), .int (nI (lp 0)), .int (nI (sc 0)), .ref (hq 0), .ref (pq 0), .ref (oq 0)])), (hq 0, .inr (2, [.ref (ha 0), .ref (hv 0), .int (nI (zz 0))])), (ha 0, .inl (k 0, 8, .inl (LF 0))), (hv 0, .inl (k 0, 8, .inl (LG 0))), (pq 0, .inr (2, [.ref (pa 0), .ref (pv 0), .int (nI (zz 0))])), (pa 0, .inl (k 0, 8, .inl (LF 0))), (pv 0, .inl (k 0, 8, .inl (LP 0))), (oq 0, .inl (k 2, 36, .inl (OU 0))), (m1, .inr (3, [.int (nI (lr 1)), .int (nI (lp 1)), .int (nI (sc 1)), .ref (hq 1), .ref (pq 1), .ref (oq 1)])), (hq 1, .inr (2, [.ref (ha 1), .ref (hv 1), .int (nI (zz 1))])), (ha 1, .inl (k 0, 8, .inl (LF 1))), (hv 1, .inl (k 0, 8, .inl (LG 1))), (pq 1, .inr (2, [.ref (pa 1), .ref (pv 1), .int (nI (zz 1))])), (pa 1, .inl (k 0, 8, .inl (LF 1))), (pv 1, .inl (k 0, 8, .inl (LP 1))), (oq 1, .inl (k 2, 36, .inl (OU 1))), (m2, .inr (3, [.int (nI (lr 2)), .int (nI (lp 2)), .int (nI (sc 2)), .ref (hq 2), .ref (pq 2), .ref (oq 2)])), (hq 2, .inr (2, [.ref (ha 2), .ref (hv 2), .int (nI (zz 2))])), (ha 2, .inl (k 0, 8, .inl (LF 2))), (hv 2, .inl (k 0, 8, .inl (LG 2))), (pq 2, .inr (2, [.ref (pa 2), .ref (pv 2), .int (nI (zz 2))])), (pa 2, .inl (k 0, 8, .inl (LF 2))), (pv 2, .inl (k 0, 8, .inl (LP 2))), (oq 2, .inl (k 2, 36, .inl (OU 2)))] sz)) 1 6 (va_A [(x0, .inr (6, [.ref pl, .ref ho, .ref rs, .ref to, .ref wt, .ref bo])), (ho, .inr (1, [.ref ma, .int (nI cn), .ref fa])), (ma, .inl (k 3, 3, .inr (.inr (.inr (.inr (mAd m0 m1 m2)))))), (m0, .inr (3, [.int (nI (lr 0)), .int (nI (lp 0)), .int (nI (sc 0)), .ref (hq 0), .ref (pq 0), .ref (oq 0)])), (hq 0, .inr (2, [.ref (ha 0), .ref (hv 0), .int (nI (zz 0))])), (ha 0, .inl (k 0, 8, .inl (LF 0))), (hv 0, .inl (k 0, 8, .inl (LG 0))), (pq 0, .inr (2, [.ref (pa 0), .ref (pv 0), .int (nI (zz 0))])), (pa 0, .inl (k 0, 8, .inl (LF 0))), (pv 0, .inl (k 0, 8, .inl (LP 0))), (oq 0, .inl (k 2, 36, .inl (OU 0))), (m1, .inr (3, [.int (nI (lr 1)), .int (nI (lp 1)), .int (nI (sc 1)), .ref (hq 1), .ref (pq 1), .ref (oq 1)])), (hq 1, .inr (2, [.ref (ha 1), .ref (hv 1), .int (nI (zz 1))])), (ha 1, .inl (k 0, 8, .inl (LF 1))), (hv 1, .inl (k 0, 8, .inl (LG 1))), (pq 1, .inr (2, [.ref (pa 1), .ref (pv 1), .int (nI (zz 1))])), (pa 1, .inl (k 0, 8, .inl (LF 1))), (pv 1, .inl (k 0, 8, .inl (LP 1))), (oq 1, .inl (k 2, 36, .inl (OU 1))), (m2, .inr (3, [.int (nI (lr 2)), .int (nI (lp 2)), .int (nI (sc 2)), .ref (hq 2), .ref (pq 2), .ref (oq 2)])), (hq 2, .inr (2, [.ref (ha 2), .ref (hv 2), .int (nI (zz 2))])), (ha 2, .inl (k 0, 8, .inl (LF 2))), (hv 2, .inl (k 0, 8, .inl (LG 2))), (pq 2, .inr (2, [.ref (pa 2), .ref (pv 2), .int (nI (zz 2))])), (pa 2, .inl (k 0, 8, .inl (LF 2))), (pv 2, .inl (k 0, 8, .inl (LP 2))), (oq 2, .inl (k 2, 36, .inl (OU 2)))] sz) := by
  refine b_startT (y := y_HM_row) (maxL := 6) (ret := (some .int)) (cc := b_HM_row) (ws' := ut) (rm := rU 7 1 6) (av := [.ref x0, .int (nI kk), .int v, .int y, .int q]) (g := gU D k) (ws := [(x0, .inr (6, [.ref pl, .ref ho, .ref rs, .ref to, .ref wt, .ref bo])), (ho, .inr (1, [.ref ma, .int (nI cn), .ref fa])), (ma, .inl (k 3, 3, .inr (.inr (.inr (.inr (mAd m0 m1 m2)))))), (m0, .inr (3, [.int (nI (lr 0)), .int (nI (lp 0)), .int (nI (sc 0)), .ref (hq 0), .ref (pq 0), .ref (oq 0)])), (hq 0, .inr (2, [.ref (ha 0), .ref (hv 0), .int (nI (zz 0))])), (ha 0, .inl (k 0, 8, .inl (LF 0))), (hv 0, .inl (k 0, 8, .inl (LG 0))), (pq 0, .inr (2, [.ref (pa 0), .ref (pv 0), .int (nI (zz 0))])), (pa 0, .inl (k 0, 8, .inl (LF 0))), (pv 0, .inl (k 0, 8, .inl (LP 0))), (oq 0, .inl (k 2, 36, .inl (OU 0))), (m1, .inr (3, [.int (nI (lr 1)), .int (nI (lp 1)), .int (nI (sc 1)), .ref (hq 1), .ref (pq 1), .ref (oq 1)])), (hq 1, .inr (2, [.ref (ha 1), .ref (hv 1), .int (nI (zz 1))])), (ha 1, .inl (k 0, 8, .inl (LF 1))), (hv 1, .inl (k 0, 8, .inl (LG 1))), (pq 1, .inr (2, [.ref (pa 1), .ref (pv 1), .int (nI (zz 1))])), (pa 1, .inl (k 0, 8, .inl (LF 1))), (pv 1, .inl (k 0, 8, .inl (LP 1))), (oq 1, .inl (k 2, 36, .inl (OU 1))), (m2, .inr (3, [.int (nI (lr 2)), .int (nI (lp 2)), .int (nI (sc 2)), .ref (hq 2), .ref (pq 2), .ref (oq 2)])), (hq 2, .inr (2, [.ref (ha 2), .ref (hv 2), .int (nI (zz 2))])), (ha 2, .inl (k 0, 8, .inl (LF 2))), (hv 2, .inl (k 0, 8, .inl (LG 2))), (pq 2, .inr (2, [.ref (pa 2), .ref (pv 2), .int (nI (zz 2))])), (pa 2, .inl (k 0, 8, .inl (LF 2))), (pv 2, .inl (k 0, 8, .inl (LP 2))), (oq 2, .inl (k 2, 36, .inl (OU 2)))]) (sz := sz) (Qc := fun A => bQt sIS (bQ (gU D k) A [(x0, .inr (6, [.ref pl, .ref ho, .ref rs, .ref to, .ref wt, .ref bo])), (ho, .inr (1, [.ref ma, .int (nI cn), .ref fa])), (ma, .inl (k 3, 3, .inr (.inr (.inr (.inr (mAd m0 m1 m2)))))), (m0, .inr (3, [.int (nI (lr 0)), .int (nI (lp 0)), .int (nI (sc 0)), .ref (hq 0), .ref (pq 0), .ref (oq 0)])), (hq 0, .inr (2, [.ref (ha 0), .ref (hv 0), .int (nI (zz 0))])), (ha 0, .inl (k 0, 8, .inl (LF 0))), (hv 0, .inl (k 0, 8, .inl (LG 0))), (pq 0, .inr (2, [.ref (pa 0), .ref (pv 0), .int (nI (zz 0))])), (pa 0, .inl (k 0, 8, .inl (LF 0))), (pv 0, .inl (k 0, 8, .inl (LP 0))), (oq 0, .inl (k 2, 36, .inl (OU 0))), (m1, .inr (3, [.int (nI (lr 1)), .int (nI (lp 1)), .int (nI (sc 1)), .ref (hq 1), .ref (pq 1), .ref (oq 1)])), (hq 1, .inr (2, [.ref (ha 1), .ref (hv 1), .int (nI (zz 1))])), (ha 1, .inl (k 0, 8, .inl (LF 1))), (hv 1, .inl (k 0, 8, .inl (LG 1))), (pq 1, .inr (2, [.ref (pa 1), .ref (pv 1), .int (nI (zz 1))])), (pa 1, .inl (k 0, 8, .inl (LF 1))), (pv 1, .inl (k 0, 8, .inl (LP 1))), (oq 1, .inl (k 2, 36, .inl (OU 1))), (m2, .inr (3, [.int (nI (lr 2)), .int (nI (lp 2)), .int (nI (sc 2)), .ref (hq 2), .ref (pq 2), .ref (oq 2)])), (hq 2, .inr (2, [.ref (ha 2), .ref (hv 2), .int (nI (zz 2))])), (ha 2, .inl (k 0, 8, .inl (LF 2))), (hv 2, .inl (k 0, 8, .inl (LG 2))), (pq 2, .inr (2, [.ref (pa 2), .ref (pv 2), .int (nI (zz 2))])), (pa 2, .inl (k 0, 8, .inl (LF 2))), (pv 2, .inl (k 0, 8, .inl (LP 2))), (oq 2, .inl (k 2, 36, .inl (OU 2)))]) A) (by decide +kernel) (Nat.le_of_ble_eq_true rfl) ?_
  intro p e s m below meth c A hm hnh hE hw ls hl
  have hl : lv_has ls 6 [(0, .ref x0), (1, .int (nI kk)), (2, .int v), (3, .int y), (4, .int q)] := hl
  have hx := hm.1
  have hb := hm.2.1
  have hown := hm.2.2.2.2.1
  have hts := hm.2.2.2.2.2.1
  refine lv_aload_n hx hb d_HM_row_0 rfl (lv_at hl 0 rfl) ?_
  refine lv_iload_n hx hb d_HM_row_1 rfl (lv_at hl 1 rfl) ?_
  refine b_goi (wr := [(ma, .inl (k 3, 3, .inr (.inr (.inr (.inr (mAd m0 m1 m2)))))), (m0, .inr (3, [.int (nI (lr 0)), .int (nI (lp 0)), .int (nI (sc 0)), .ref (hq 0), .ref (pq 0), .ref (oq 0)])), (hq 0, .inr (2, [.ref (ha 0), .ref (hv 0), .int (nI (zz 0))])), (ha 0, .inl (k 0, 8, .inl (LF 0))), (hv 0, .inl (k 0, 8, .inl (LG 0))), (pq 0, .inr (2, [.ref (pa 0), .ref (pv 0), .int (nI (zz 0))])), (pa 0, .inl (k 0, 8, .inl (LF 0))), (pv 0, .inl (k 0, 8, .inl (LP 0))), (oq 0, .inl (k 2, 36, .inl (OU 0))), (m1, .inr (3, [.int (nI (lr 1)), .int (nI (lp 1)), .int (nI (sc 1)), .ref (hq 1), .ref (pq 1), .ref (oq 1)])), (hq 1, .inr (2, [.ref (ha 1), .ref (hv 1), .int (nI (zz 1))])), (ha 1, .inl (k 0, 8, .inl (LF 1))), (hv 1, .inl (k 0, 8, .inl (LG 1))), (pq 1, .inr (2, [.ref (pa 1), .ref (pv 1), .int (nI (zz 1))])), (pa 1, .inl (k 0, 8, .inl (LF 1))), (pv 1, .inl (k 0, 8, .inl (LP 1))), (oq 1, .inl (k 2, 36, .inl (OU 1))), (m2, .inr (3, [.int (nI (lr 2)), .int (nI (lp 2)), .int (nI (sc 2)), .ref (hq 2), .ref (pq 2), .ref (oq 2)])), (hq 2, .inr (2, [.ref (ha 2), .ref (hv 2), .int (nI (zz 2))])), (ha 2, .inl (k 0, 8, .inl (LF 2))), (hv 2, .inl (k 0, 8, .inl (LG 2))), (pq 2, .inr (2, [.ref (pa 2), .ref (pv 2), .int (nI (zz 2))])), (pa 2, .inl (k 0, 8, .inl (LF 2))), (pv 2, .inl (k 0, 8, .inl (LP 2))), (oq 2, .inl (k 2, 36, .inl (OU 2)))]) (b_runV (wc := [(x0, .inr (6, [.ref pl, .ref ho, .ref rs, .ref to, .ref wt, .ref bo])), (ho, .inr (1, [.ref ma, .int (nI cn), .ref fa]))]) (As := [.int (nI kk)]) (rest := []) (q0 := 0) hm hw (cwV 1 hts (gV uw_of k_442 k_439 k_441 (mp 10 rfl rfl) k_1) rfl rfl rfl (by decide +kernel) ⟨by decide, by decide⟩) (c_HM_isMachine l D k _ x0 ho pl rs to wt bo ma fa cn (nI kk)) [0, 1] (by decide) rfl rfl rfl rfl hl.1 rfl (Nat.le_of_ble_eq_true rfl) d_HM_row_2 ⟨by decide, by decide⟩) hw [0, 1] [2, 3, 4, 5, 6, 7, 8, 9, 10, 11, 12, 13, 14, 15, 16, 17, 18, 19, 20, 21, 22, 23, 24, 25, 26] rfl rfl (by decide) (by decide) (fun r2 _ H locs hp2 hw => ?_)
  have hw : bW (gU D k) A s H locs [(x0, .inr (6, [.ref pl, .ref ho, .ref rs, .ref to, .ref wt, .ref bo])), (ho, .inr (1, [.ref ma, .int (nI cn), .ref fa])), (ma, .inl (k 3, 3, .inr (.inr (.inr (.inr (mAd m0 m1 m2)))))), (m0, .inr (3, [.int (nI (lr 0)), .int (nI (lp 0)), .int (nI (sc 0)), .ref (hq 0), .ref (pq 0), .ref (oq 0)])), (hq 0, .inr (2, [.ref (ha 0), .ref (hv 0), .int (nI (zz 0))])), (ha 0, .inl (k 0, 8, .inl (LF 0))), (hv 0, .inl (k 0, 8, .inl (LG 0))), (pq 0, .inr (2, [.ref (pa 0), .ref (pv 0), .int (nI (zz 0))])), (pa 0, .inl (k 0, 8, .inl (LF 0))), (pv 0, .inl (k 0, 8, .inl (LP 0))), (oq 0, .inl (k 2, 36, .inl (OU 0))), (m1, .inr (3, [.int (nI (lr 1)), .int (nI (lp 1)), .int (nI (sc 1)), .ref (hq 1), .ref (pq 1), .ref (oq 1)])), (hq 1, .inr (2, [.ref (ha 1), .ref (hv 1), .int (nI (zz 1))])), (ha 1, .inl (k 0, 8, .inl (LF 1))), (hv 1, .inl (k 0, 8, .inl (LG 1))), (pq 1, .inr (2, [.ref (pa 1), .ref (pv 1), .int (nI (zz 1))])), (pa 1, .inl (k 0, 8, .inl (LF 1))), (pv 1, .inl (k 0, 8, .inl (LP 1))), (oq 1, .inl (k 2, 36, .inl (OU 1))), (m2, .inr (3, [.int (nI (lr 2)), .int (nI (lp 2)), .int (nI (sc 2)), .ref (hq 2), .ref (pq 2), .ref (oq 2)])), (hq 2, .inr (2, [.ref (ha 2), .ref (hv 2), .int (nI (zz 2))])), (ha 2, .inl (k 0, 8, .inl (LF 2))), (hv 2, .inl (k 0, 8, .inl (LG 2))), (pq 2, .inr (2, [.ref (pa 2), .ref (pv 2), .int (nI (zz 2))])), (pa 2, .inl (k 0, 8, .inl (LF 2))), (pv 2, .inl (k 0, 8, .inl (LP 2))), (oq 2, .inl (k 2, 36, .inl (OU 2)))] := hw.sub [25, 26, 0, 1, 2, 3, 4, 5, 6, 7, 8, 9, 10, 11, 12, 13, 14, 15, 16, 17, 18, 19, 20, 21, 22, 23, 24] (by decide) rfl
  have hr2 : r2 = 1 := by rcases hp2 with ⟨q, _⟩ | ⟨_, q⟩; exact q; exact absurd (in_m (by omega) (by omega)) q
  refine b_ti (y := nI 1) hr2 ?_
  refine lv_if_eq (tgt := 40) hx hb d_HM_row_5 (by decide) (fun c_5_0 => ?_) (fun c_5_0 => ?_)
  · skip
    exact absurd c_5_0 (by decide)
  · skip
    refine lv_iload_n hx hb d_HM_row_8 rfl (lv_at hl 2 rfl) ?_
    refine b_goi (wr := [(x0, .inr (6, [.ref pl, .ref ho, .ref rs, .ref to, .ref wt, .ref bo])), (ho, .inr (1, [.ref ma, .int (nI cn), .ref fa])), (ma, .inl (k 3, 3, .inr (.inr (.inr (.inr (mAd m0 m1 m2)))))), (m0, .inr (3, [.int (nI (lr 0)), .int (nI (lp 0)), .int (nI (sc 0)), .ref (hq 0), .ref (pq 0), .ref (oq 0)])), (hq 0, .inr (2, [.ref (ha 0), .ref (hv 0), .int (nI (zz 0))])), (ha 0, .inl (k 0, 8, .inl (LF 0))), (hv 0, .inl (k 0, 8, .inl (LG 0))), (pq 0, .inr (2, [.ref (pa 0), .ref (pv 0), .int (nI (zz 0))])), (pa 0, .inl (k 0, 8, .inl (LF 0))), (pv 0, .inl (k 0, 8, .inl (LP 0))), (oq 0, .inl (k 2, 36, .inl (OU 0))), (m1, .inr (3, [.int (nI (lr 1)), .int (nI (lp 1)), .int (nI (sc 1)), .ref (hq 1), .ref (pq 1), .ref (oq 1)])), (hq 1, .inr (2, [.ref (ha 1), .ref (hv 1), .int (nI (zz 1))])), (ha 1, .inl (k 0, 8, .inl (LF 1))), (hv 1, .inl (k 0, 8, .inl (LG 1))), (pq 1, .inr (2, [.ref (pa 1), .ref (pv 1), .int (nI (zz 1))])), (pa 1, .inl (k 0, 8, .inl (LF 1))), (pv 1, .inl (k 0, 8, .inl (LP 1))), (oq 1, .inl (k 2, 36, .inl (OU 1))), (m2, .inr (3, [.int (nI (lr 2)), .int (nI (lp 2)), .int (nI (sc 2)), .ref (hq 2), .ref (pq 2), .ref (oq 2)])), (hq 2, .inr (2, [.ref (ha 2), .ref (hv 2), .int (nI (zz 2))])), (ha 2, .inl (k 0, 8, .inl (LF 2))), (hv 2, .inl (k 0, 8, .inl (LG 2))), (pq 2, .inr (2, [.ref (pa 2), .ref (pv 2), .int (nI (zz 2))])), (pa 2, .inl (k 0, 8, .inl (LF 2))), (pv 2, .inl (k 0, 8, .inl (LP 2))), (oq 2, .inl (k 2, 36, .inl (OU 2)))]) (b_runS (wc := []) (As := [.int v]) (rest := []) hm hw (va_cwS 1 hts (gS2 uw_of k_445 k_443 k_444 k_1) rfl rfl rfl (by decide +kernel) ⟨by decide, by decide⟩) (c_HM_isWarmth l D k _ v) [] (by decide) rfl rfl hl.1 rfl (Nat.le_of_ble_eq_true rfl) d_HM_row_9 ⟨by decide, by decide⟩) hw [] [0, 1, 2, 3, 4, 5, 6, 7, 8, 9, 10, 11, 12, 13, 14, 15, 16, 17, 18, 19, 20, 21, 22, 23, 24, 25, 26] rfl rfl (by decide) (by decide) (fun r9 _ H locs hp9 hw => ?_)
    have hw : bW (gU D k) A s H locs [(x0, .inr (6, [.ref pl, .ref ho, .ref rs, .ref to, .ref wt, .ref bo])), (ho, .inr (1, [.ref ma, .int (nI cn), .ref fa])), (ma, .inl (k 3, 3, .inr (.inr (.inr (.inr (mAd m0 m1 m2)))))), (m0, .inr (3, [.int (nI (lr 0)), .int (nI (lp 0)), .int (nI (sc 0)), .ref (hq 0), .ref (pq 0), .ref (oq 0)])), (hq 0, .inr (2, [.ref (ha 0), .ref (hv 0), .int (nI (zz 0))])), (ha 0, .inl (k 0, 8, .inl (LF 0))), (hv 0, .inl (k 0, 8, .inl (LG 0))), (pq 0, .inr (2, [.ref (pa 0), .ref (pv 0), .int (nI (zz 0))])), (pa 0, .inl (k 0, 8, .inl (LF 0))), (pv 0, .inl (k 0, 8, .inl (LP 0))), (oq 0, .inl (k 2, 36, .inl (OU 0))), (m1, .inr (3, [.int (nI (lr 1)), .int (nI (lp 1)), .int (nI (sc 1)), .ref (hq 1), .ref (pq 1), .ref (oq 1)])), (hq 1, .inr (2, [.ref (ha 1), .ref (hv 1), .int (nI (zz 1))])), (ha 1, .inl (k 0, 8, .inl (LF 1))), (hv 1, .inl (k 0, 8, .inl (LG 1))), (pq 1, .inr (2, [.ref (pa 1), .ref (pv 1), .int (nI (zz 1))])), (pa 1, .inl (k 0, 8, .inl (LF 1))), (pv 1, .inl (k 0, 8, .inl (LP 1))), (oq 1, .inl (k 2, 36, .inl (OU 1))), (m2, .inr (3, [.int (nI (lr 2)), .int (nI (lp 2)), .int (nI (sc 2)), .ref (hq 2), .ref (pq 2), .ref (oq 2)])), (hq 2, .inr (2, [.ref (ha 2), .ref (hv 2), .int (nI (zz 2))])), (ha 2, .inl (k 0, 8, .inl (LF 2))), (hv 2, .inl (k 0, 8, .inl (LG 2))), (pq 2, .inr (2, [.ref (pa 2), .ref (pv 2), .int (nI (zz 2))])), (pa 2, .inl (k 0, 8, .inl (LF 2))), (pv 2, .inl (k 0, 8, .inl (LP 2))), (oq 2, .inl (k 2, 36, .inl (OU 2)))] := hw.sub [0, 1, 2, 3, 4, 5, 6, 7, 8, 9, 10, 11, 12, 13, 14, 15, 16, 17, 18, 19, 20, 21, 22, 23, 24, 25, 26] (by decide) rfl
    have hr9 : r9 = 1 := by rcases hp9 with ⟨q, _⟩ | ⟨_, q⟩; exact q; exact absurd (hv9) q
    refine b_ti (y := nI 1) hr9 ?_
    refine lv_if_eq (tgt := 40) hx hb d_HM_row_12 (by decide) (fun c_12_1 => ?_) (fun c_12_1 => ?_)
    · skip
      exact absurd c_12_1 (by decide)
    · skip
      refine lv_iload_n hx hb d_HM_row_15 rfl (lv_at hl 3 rfl) ?_
      refine lv_iconst (v := nI 0) hx hb d_HM_row_16 (by decide) ?_
      refine lv_ldc (v := 100000) hx hb hown (hts _ (uw_of _ k_298)) d_HM_row_17 ?_
      refine b_ti (show (100000 : Int32) = nI 100000 from rfl) ?_
      refine b_goi (wr := [(x0, .inr (6, [.ref pl, .ref ho, .ref rs, .ref to, .ref wt, .ref bo])), (ho, .inr (1, [.ref ma, .int (nI cn), .ref fa])), (ma, .inl (k 3, 3, .inr (.inr (.inr (.inr (mAd m0 m1 m2)))))), (m0, .inr (3, [.int (nI (lr 0)), .int (nI (lp 0)), .int (nI (sc 0)), .ref (hq 0), .ref (pq 0), .ref (oq 0)])), (hq 0, .inr (2, [.ref (ha 0), .ref (hv 0), .int (nI (zz 0))])), (ha 0, .inl (k 0, 8, .inl (LF 0))), (hv 0, .inl (k 0, 8, .inl (LG 0))), (pq 0, .inr (2, [.ref (pa 0), .ref (pv 0), .int (nI (zz 0))])), (pa 0, .inl (k 0, 8, .inl (LF 0))), (pv 0, .inl (k 0, 8, .inl (LP 0))), (oq 0, .inl (k 2, 36, .inl (OU 0))), (m1, .inr (3, [.int (nI (lr 1)), .int (nI (lp 1)), .int (nI (sc 1)), .ref (hq 1), .ref (pq 1), .ref (oq 1)])), (hq 1, .inr (2, [.ref (ha 1), .ref (hv 1), .int (nI (zz 1))])), (ha 1, .inl (k 0, 8, .inl (LF 1))), (hv 1, .inl (k 0, 8, .inl (LG 1))), (pq 1, .inr (2, [.ref (pa 1), .ref (pv 1), .int (nI (zz 1))])), (pa 1, .inl (k 0, 8, .inl (LF 1))), (pv 1, .inl (k 0, 8, .inl (LP 1))), (oq 1, .inl (k 2, 36, .inl (OU 1))), (m2, .inr (3, [.int (nI (lr 2)), .int (nI (lp 2)), .int (nI (sc 2)), .ref (hq 2), .ref (pq 2), .ref (oq 2)])), (hq 2, .inr (2, [.ref (ha 2), .ref (hv 2), .int (nI (zz 2))])), (ha 2, .inl (k 0, 8, .inl (LF 2))), (hv 2, .inl (k 0, 8, .inl (LG 2))), (pq 2, .inr (2, [.ref (pa 2), .ref (pv 2), .int (nI (zz 2))])), (pa 2, .inl (k 0, 8, .inl (LF 2))), (pv 2, .inl (k 0, 8, .inl (LP 2))), (oq 2, .inl (k 2, 36, .inl (OU 2)))]) (b_runS (wc := []) (As := [.int y, .int (nI 0), .int (nI 100000)]) (rest := []) hm hw (va_cwS 3 hts (gS2 uw_of k_297 k_295 k_296 k_1) rfl rfl rfl (by decide +kernel) ⟨by decide, by decide⟩) (c_HM_isWithin l D k _ y (nI 0) (nI 100000)) [] (by decide) rfl rfl hl.1 rfl (Nat.le_of_ble_eq_true rfl) d_HM_row_19 ⟨by decide, by decide⟩) hw [] [0, 1, 2, 3, 4, 5, 6, 7, 8, 9, 10, 11, 12, 13, 14, 15, 16, 17, 18, 19, 20, 21, 22, 23, 24, 25, 26] rfl rfl (by decide) (by decide) (fun r19 _ H locs hp19 hw => ?_)
      have hw : bW (gU D k) A s H locs [(x0, .inr (6, [.ref pl, .ref ho, .ref rs, .ref to, .ref wt, .ref bo])), (ho, .inr (1, [.ref ma, .int (nI cn), .ref fa])), (ma, .inl (k 3, 3, .inr (.inr (.inr (.inr (mAd m0 m1 m2)))))), (m0, .inr (3, [.int (nI (lr 0)), .int (nI (lp 0)), .int (nI (sc 0)), .ref (hq 0), .ref (pq 0), .ref (oq 0)])), (hq 0, .inr (2, [.ref (ha 0), .ref (hv 0), .int (nI (zz 0))])), (ha 0, .inl (k 0, 8, .inl (LF 0))), (hv 0, .inl (k 0, 8, .inl (LG 0))), (pq 0, .inr (2, [.ref (pa 0), .ref (pv 0), .int (nI (zz 0))])), (pa 0, .inl (k 0, 8, .inl (LF 0))), (pv 0, .inl (k 0, 8, .inl (LP 0))), (oq 0, .inl (k 2, 36, .inl (OU 0))), (m1, .inr (3, [.int (nI (lr 1)), .int (nI (lp 1)), .int (nI (sc 1)), .ref (hq 1), .ref (pq 1), .ref (oq 1)])), (hq 1, .inr (2, [.ref (ha 1), .ref (hv 1), .int (nI (zz 1))])), (ha 1, .inl (k 0, 8, .inl (LF 1))), (hv 1, .inl (k 0, 8, .inl (LG 1))), (pq 1, .inr (2, [.ref (pa 1), .ref (pv 1), .int (nI (zz 1))])), (pa 1, .inl (k 0, 8, .inl (LF 1))), (pv 1, .inl (k 0, 8, .inl (LP 1))), (oq 1, .inl (k 2, 36, .inl (OU 1))), (m2, .inr (3, [.int (nI (lr 2)), .int (nI (lp 2)), .int (nI (sc 2)), .ref (hq 2), .ref (pq 2), .ref (oq 2)])), (hq 2, .inr (2, [.ref (ha 2), .ref (hv 2), .int (nI (zz 2))])), (ha 2, .inl (k 0, 8, .inl (LF 2))), (hv 2, .inl (k 0, 8, .inl (LG 2))), (pq 2, .inr (2, [.ref (pa 2), .ref (pv 2), .int (nI (zz 2))])), (pa 2, .inl (k 0, 8, .inl (LF 2))), (pv 2, .inl (k 0, 8, .inl (LP 2))), (oq 2, .inl (k 2, 36, .inl (OU 2)))] := hw.sub [0, 1, 2, 3, 4, 5, 6, 7, 8, 9, 10, 11, 12, 13, 14, 15, 16, 17, 18, 19, 20, 21, 22, 23, 24, 25, 26] (by decide) rfl
      have hr19 : r19 = 1 := by rcases hp19 with ⟨q, _⟩ | ⟨_, q⟩; exact q; exact absurd (hy) q
      refine b_ti (y := nI 1) hr19 ?_
      refine lv_if_eq (tgt := 40) hx hb d_HM_row_22 (by decide) (fun c_22_2 => ?_) (fun c_22_2 => ?_)
      · skip
        exact absurd c_22_2 (by decide)
      · skip
        refine lv_iload hx hb d_HM_row_25 (lv_at hl 4 rfl) ?_
        refine lv_iconst (v := nI 0) hx hb d_HM_row_27 (by decide) ?_
        refine lv_ldc (v := 100000) hx hb hown (hts _ (uw_of _ k_298)) d_HM_row_28 ?_
        refine b_ti (show (100000 : Int32) = nI 100000 from rfl) ?_
        refine b_goi (wr := [(x0, .inr (6, [.ref pl, .ref ho, .ref rs, .ref to, .ref wt, .ref bo])), (ho, .inr (1, [.ref ma, .int (nI cn), .ref fa])), (ma, .inl (k 3, 3, .inr (.inr (.inr (.inr (mAd m0 m1 m2)))))), (m0, .inr (3, [.int (nI (lr 0)), .int (nI (lp 0)), .int (nI (sc 0)), .ref (hq 0), .ref (pq 0), .ref (oq 0)])), (hq 0, .inr (2, [.ref (ha 0), .ref (hv 0), .int (nI (zz 0))])), (ha 0, .inl (k 0, 8, .inl (LF 0))), (hv 0, .inl (k 0, 8, .inl (LG 0))), (pq 0, .inr (2, [.ref (pa 0), .ref (pv 0), .int (nI (zz 0))])), (pa 0, .inl (k 0, 8, .inl (LF 0))), (pv 0, .inl (k 0, 8, .inl (LP 0))), (oq 0, .inl (k 2, 36, .inl (OU 0))), (m1, .inr (3, [.int (nI (lr 1)), .int (nI (lp 1)), .int (nI (sc 1)), .ref (hq 1), .ref (pq 1), .ref (oq 1)])), (hq 1, .inr (2, [.ref (ha 1), .ref (hv 1), .int (nI (zz 1))])), (ha 1, .inl (k 0, 8, .inl (LF 1))), (hv 1, .inl (k 0, 8, .inl (LG 1))), (pq 1, .inr (2, [.ref (pa 1), .ref (pv 1), .int (nI (zz 1))])), (pa 1, .inl (k 0, 8, .inl (LF 1))), (pv 1, .inl (k 0, 8, .inl (LP 1))), (oq 1, .inl (k 2, 36, .inl (OU 1))), (m2, .inr (3, [.int (nI (lr 2)), .int (nI (lp 2)), .int (nI (sc 2)), .ref (hq 2), .ref (pq 2), .ref (oq 2)])), (hq 2, .inr (2, [.ref (ha 2), .ref (hv 2), .int (nI (zz 2))])), (ha 2, .inl (k 0, 8, .inl (LF 2))), (hv 2, .inl (k 0, 8, .inl (LG 2))), (pq 2, .inr (2, [.ref (pa 2), .ref (pv 2), .int (nI (zz 2))])), (pa 2, .inl (k 0, 8, .inl (LF 2))), (pv 2, .inl (k 0, 8, .inl (LP 2))), (oq 2, .inl (k 2, 36, .inl (OU 2)))]) (b_runS (wc := []) (As := [.int q, .int (nI 0), .int (nI 100000)]) (rest := []) hm hw (va_cwS 3 hts (gS2 uw_of k_297 k_295 k_296 k_1) rfl rfl rfl (by decide +kernel) ⟨by decide, by decide⟩) (c_HM_isWithin l D k _ q (nI 0) (nI 100000)) [] (by decide) rfl rfl hl.1 rfl (Nat.le_of_ble_eq_true rfl) d_HM_row_30 ⟨by decide, by decide⟩) hw [] [0, 1, 2, 3, 4, 5, 6, 7, 8, 9, 10, 11, 12, 13, 14, 15, 16, 17, 18, 19, 20, 21, 22, 23, 24, 25, 26] rfl rfl (by decide) (by decide) (fun r30 _ H locs hp30 hw => ?_)
        have hw : bW (gU D k) A s H locs [(x0, .inr (6, [.ref pl, .ref ho, .ref rs, .ref to, .ref wt, .ref bo])), (ho, .inr (1, [.ref ma, .int (nI cn), .ref fa])), (ma, .inl (k 3, 3, .inr (.inr (.inr (.inr (mAd m0 m1 m2)))))), (m0, .inr (3, [.int (nI (lr 0)), .int (nI (lp 0)), .int (nI (sc 0)), .ref (hq 0), .ref (pq 0), .ref (oq 0)])), (hq 0, .inr (2, [.ref (ha 0), .ref (hv 0), .int (nI (zz 0))])), (ha 0, .inl (k 0, 8, .inl (LF 0))), (hv 0, .inl (k 0, 8, .inl (LG 0))), (pq 0, .inr (2, [.ref (pa 0), .ref (pv 0), .int (nI (zz 0))])), (pa 0, .inl (k 0, 8, .inl (LF 0))), (pv 0, .inl (k 0, 8, .inl (LP 0))), (oq 0, .inl (k 2, 36, .inl (OU 0))), (m1, .inr (3, [.int (nI (lr 1)), .int (nI (lp 1)), .int (nI (sc 1)), .ref (hq 1), .ref (pq 1), .ref (oq 1)])), (hq 1, .inr (2, [.ref (ha 1), .ref (hv 1), .int (nI (zz 1))])), (ha 1, .inl (k 0, 8, .inl (LF 1))), (hv 1, .inl (k 0, 8, .inl (LG 1))), (pq 1, .inr (2, [.ref (pa 1), .ref (pv 1), .int (nI (zz 1))])), (pa 1, .inl (k 0, 8, .inl (LF 1))), (pv 1, .inl (k 0, 8, .inl (LP 1))), (oq 1, .inl (k 2, 36, .inl (OU 1))), (m2, .inr (3, [.int (nI (lr 2)), .int (nI (lp 2)), .int (nI (sc 2)), .ref (hq 2), .ref (pq 2), .ref (oq 2)])), (hq 2, .inr (2, [.ref (ha 2), .ref (hv 2), .int (nI (zz 2))])), (ha 2, .inl (k 0, 8, .inl (LF 2))), (hv 2, .inl (k 0, 8, .inl (LG 2))), (pq 2, .inr (2, [.ref (pa 2), .ref (pv 2), .int (nI (zz 2))])), (pa 2, .inl (k 0, 8, .inl (LF 2))), (pv 2, .inl (k 0, 8, .inl (LP 2))), (oq 2, .inl (k 2, 36, .inl (OU 2)))] := hw.sub [0, 1, 2, 3, 4, 5, 6, 7, 8, 9, 10, 11, 12, 13, 14, 15, 16, 17, 18, 19, 20, 21, 22, 23, 24, 25, 26] (by decide) rfl
        have hr30 : r30 = 1 := by rcases hp30 with ⟨q, _⟩ | ⟨_, q⟩; exact q; exact absurd (hq9) q
        refine b_ti (y := nI 1) hr30 ?_
        refine lv_if_eq (tgt := 40) hx hb d_HM_row_33 (by decide) (fun c_33_3 => ?_) (fun c_33_3 => ?_)
        · skip
          exact absurd c_33_3 (by decide)
        · skip
          refine lv_iconst (v := nI 1) hx hb d_HM_row_36 (by decide) ?_
          refine lv_goto (tgt := 41) hx hb d_HM_row_37 (by decide) ?_
          refine b_gov (wr := [(x0, .inr (6, [.ref pl, .ref ho, .ref rs, .ref to, .ref wt, .ref bo])), (ho, .inr (1, [.ref ma, .int (nI cn), .ref fa])), (ma, .inl (k 3, 3, .inr (.inr (.inr (.inr (mAd m0 m1 m2)))))), (m0, .inr (3, [.int (nI (lr 0)), .int (nI (lp 0)), .int (nI (sc 0)), .ref (hq 0), .ref (pq 0), .ref (oq 0)])), (hq 0, .inr (2, [.ref (ha 0), .ref (hv 0), .int (nI (zz 0))])), (ha 0, .inl (k 0, 8, .inl (LF 0))), (hv 0, .inl (k 0, 8, .inl (LG 0))), (pq 0, .inr (2, [.ref (pa 0), .ref (pv 0), .int (nI (zz 0))])), (pa 0, .inl (k 0, 8, .inl (LF 0))), (pv 0, .inl (k 0, 8, .inl (LP 0))), (oq 0, .inl (k 2, 36, .inl (OU 0))), (m1, .inr (3, [.int (nI (lr 1)), .int (nI (lp 1)), .int (nI (sc 1)), .ref (hq 1), .ref (pq 1), .ref (oq 1)])), (hq 1, .inr (2, [.ref (ha 1), .ref (hv 1), .int (nI (zz 1))])), (ha 1, .inl (k 0, 8, .inl (LF 1))), (hv 1, .inl (k 0, 8, .inl (LG 1))), (pq 1, .inr (2, [.ref (pa 1), .ref (pv 1), .int (nI (zz 1))])), (pa 1, .inl (k 0, 8, .inl (LF 1))), (pv 1, .inl (k 0, 8, .inl (LP 1))), (oq 1, .inl (k 2, 36, .inl (OU 1))), (m2, .inr (3, [.int (nI (lr 2)), .int (nI (lp 2)), .int (nI (sc 2)), .ref (hq 2), .ref (pq 2), .ref (oq 2)])), (hq 2, .inr (2, [.ref (ha 2), .ref (hv 2), .int (nI (zz 2))])), (ha 2, .inl (k 0, 8, .inl (LF 2))), (hv 2, .inl (k 0, 8, .inl (LG 2))), (pq 2, .inr (2, [.ref (pa 2), .ref (pv 2), .int (nI (zz 2))])), (pa 2, .inl (k 0, 8, .inl (LF 2))), (pv 2, .inl (k 0, 8, .inl (LP 2))), (oq 2, .inl (k 2, 36, .inl (OU 2)))]) (b_runS (wc := []) (As := [.int (nI 1)]) (rest := []) hm hw (va_cwS 1 hts (gS2 uw_of k_301 k_299 k_300 k_1) rfl rfl rfl (by decide +kernel) ⟨by decide, by decide⟩) (c_HM_requireArgument l D k _ ) [] (by decide) rfl rfl hl.1 rfl (Nat.le_of_ble_eq_true rfl) d_HM_row_41 ⟨by decide, by decide⟩) hw [] [0, 1, 2, 3, 4, 5, 6, 7, 8, 9, 10, 11, 12, 13, 14, 15, 16, 17, 18, 19, 20, 21, 22, 23, 24, 25, 26] rfl rfl (by decide) (by decide) (fun _ H locs _ hw => ?_)
          have hw : bW (gU D k) A s H locs [(x0, .inr (6, [.ref pl, .ref ho, .ref rs, .ref to, .ref wt, .ref bo])), (ho, .inr (1, [.ref ma, .int (nI cn), .ref fa])), (ma, .inl (k 3, 3, .inr (.inr (.inr (.inr (mAd m0 m1 m2)))))), (m0, .inr (3, [.int (nI (lr 0)), .int (nI (lp 0)), .int (nI (sc 0)), .ref (hq 0), .ref (pq 0), .ref (oq 0)])), (hq 0, .inr (2, [.ref (ha 0), .ref (hv 0), .int (nI (zz 0))])), (ha 0, .inl (k 0, 8, .inl (LF 0))), (hv 0, .inl (k 0, 8, .inl (LG 0))), (pq 0, .inr (2, [.ref (pa 0), .ref (pv 0), .int (nI (zz 0))])), (pa 0, .inl (k 0, 8, .inl (LF 0))), (pv 0, .inl (k 0, 8, .inl (LP 0))), (oq 0, .inl (k 2, 36, .inl (OU 0))), (m1, .inr (3, [.int (nI (lr 1)), .int (nI (lp 1)), .int (nI (sc 1)), .ref (hq 1), .ref (pq 1), .ref (oq 1)])), (hq 1, .inr (2, [.ref (ha 1), .ref (hv 1), .int (nI (zz 1))])), (ha 1, .inl (k 0, 8, .inl (LF 1))), (hv 1, .inl (k 0, 8, .inl (LG 1))), (pq 1, .inr (2, [.ref (pa 1), .ref (pv 1), .int (nI (zz 1))])), (pa 1, .inl (k 0, 8, .inl (LF 1))), (pv 1, .inl (k 0, 8, .inl (LP 1))), (oq 1, .inl (k 2, 36, .inl (OU 1))), (m2, .inr (3, [.int (nI (lr 2)), .int (nI (lp 2)), .int (nI (sc 2)), .ref (hq 2), .ref (pq 2), .ref (oq 2)])), (hq 2, .inr (2, [.ref (ha 2), .ref (hv 2), .int (nI (zz 2))])), (ha 2, .inl (k 0, 8, .inl (LF 2))), (hv 2, .inl (k 0, 8, .inl (LG 2))), (pq 2, .inr (2, [.ref (pa 2), .ref (pv 2), .int (nI (zz 2))])), (pa 2, .inl (k 0, 8, .inl (LF 2))), (pv 2, .inl (k 0, 8, .inl (LP 2))), (oq 2, .inl (k 2, 36, .inl (OU 2)))] := hw.sub [0, 1, 2, 3, 4, 5, 6, 7, 8, 9, 10, 11, 12, 13, 14, 15, 16, 17, 18, 19, 20, 21, 22, 23, 24, 25, 26] (by decide) rfl
          refine lv_aload_n hx hb d_HM_row_44 rfl (lv_at hl 0 rfl) ?_
          refine b_get (T := F_HM) hm hw 0 rfl rfl (fun w h => uw_of w (u_HM w h)) 1 (by decide) (uw_of _ k_205) rfl d_HM_row_45 ?_
          refine b_getN (T := F_Ho) hm hw 1 rfl rfl (fun w h => uw_of w (u_Ho w h)) 0 (by decide) (k_99) rfl d_HM_row_48 ?_
          refine lv_iload_n hx hb d_HM_row_51 rfl (lv_at hl 1 rfl) ?_
          rcases (show kk = 0 ∨ kk = 1 ∨ kk = 2 by omega) with hi0 | hi0 | hi0
          · skip
            refine b_aald (i := kk) (v := m0) hm hw 2 3 rfl rfl rfl (by omega) (by omega) (by rw [hi0]; rfl) d_HM_row_52 ?_
            refine lv_astore (lv' := [(5, .ref m0), (0, .ref x0), (1, .int (nI kk)), (2, .int v), (3, .int y), (4, .int q)]) hx hb d_HM_row_53  hl (by decide) rfl (fun ls hl => ?_)
            refine lv_aload hx hb d_HM_row_55 (lv_at hl 0 rfl) ?_
            refine b_getN (T := F_Mc) hm hw 3 rfl rfl (fun w h => uw_of w (u_Mc w h)) 3 (by decide) (k_74) rfl d_HM_row_57 ?_
            refine lv_iload_n hx hb d_HM_row_60 rfl (lv_at hl 3 rfl) ?_
            have hs9 : ¬ lnRoom 8 (LF 0) (zz 0) v := by rw [hi0] at hs9; exact hs9
            refine b_goi (wr := [(x0, .inr (6, [.ref pl, .ref ho, .ref rs, .ref to, .ref wt, .ref bo])), (ho, .inr (1, [.ref ma, .int (nI cn), .ref fa])), (ma, .inl (k 3, 3, .inr (.inr (.inr (.inr (mAd m0 m1 m2)))))), (m0, .inr (3, [.int (nI (lr 0)), .int (nI (lp 0)), .int (nI (sc 0)), .ref (hq 0), .ref (pq 0), .ref (oq 0)])), (pq 0, .inr (2, [.ref (pa 0), .ref (pv 0), .int (nI (zz 0))])), (pa 0, .inl (k 0, 8, .inl (LF 0))), (pv 0, .inl (k 0, 8, .inl (LP 0))), (oq 0, .inl (k 2, 36, .inl (OU 0))), (m1, .inr (3, [.int (nI (lr 1)), .int (nI (lp 1)), .int (nI (sc 1)), .ref (hq 1), .ref (pq 1), .ref (oq 1)])), (hq 1, .inr (2, [.ref (ha 1), .ref (hv 1), .int (nI (zz 1))])), (ha 1, .inl (k 0, 8, .inl (LF 1))), (hv 1, .inl (k 0, 8, .inl (LG 1))), (pq 1, .inr (2, [.ref (pa 1), .ref (pv 1), .int (nI (zz 1))])), (pa 1, .inl (k 0, 8, .inl (LF 1))), (pv 1, .inl (k 0, 8, .inl (LP 1))), (oq 1, .inl (k 2, 36, .inl (OU 1))), (m2, .inr (3, [.int (nI (lr 2)), .int (nI (lp 2)), .int (nI (sc 2)), .ref (hq 2), .ref (pq 2), .ref (oq 2)])), (hq 2, .inr (2, [.ref (ha 2), .ref (hv 2), .int (nI (zz 2))])), (ha 2, .inl (k 0, 8, .inl (LF 2))), (hv 2, .inl (k 0, 8, .inl (LG 2))), (pq 2, .inr (2, [.ref (pa 2), .ref (pv 2), .int (nI (zz 2))])), (pa 2, .inl (k 0, 8, .inl (LF 2))), (pv 2, .inl (k 0, 8, .inl (LP 2))), (oq 2, .inl (k 2, 36, .inl (OU 2)))]) (b_runV (wc := [(hq 0, .inr (2, [.ref (ha 0), .ref (hv 0), .int (nI (zz 0))])), (ha 0, .inl (k 0, 8, .inl (LF 0))), (hv 0, .inl (k 0, 8, .inl (LG 0)))]) (As := [.int v]) (rest := []) (q0 := 4) hm hw (cwV 1 hts (gV uw_of k_449 k_446 k_447 (k_448) k_5) rfl rfl rfl (by decide +kernel) ⟨by decide, by decide⟩) (c_Ln_hasRoomAt l D k _ (hq 0) (ha 0) (hv 0) 8 (LF 0) (LG 0) (zz 0) v (hz 0) (by omega)) [4, 5, 6] (by decide) rfl rfl rfl rfl hl.1 rfl (Nat.le_of_ble_eq_true rfl) d_HM_row_61 ⟨by decide, by decide⟩) hw [4, 5, 6] [0, 1, 2, 3, 7, 8, 9, 10, 11, 12, 13, 14, 15, 16, 17, 18, 19, 20, 21, 22, 23, 24, 25, 26] rfl rfl (by decide) (by decide) (fun r61 _ H locs hp61 hw => ?_)
            have hw : bW (gU D k) A s H locs [(x0, .inr (6, [.ref pl, .ref ho, .ref rs, .ref to, .ref wt, .ref bo])), (ho, .inr (1, [.ref ma, .int (nI cn), .ref fa])), (ma, .inl (k 3, 3, .inr (.inr (.inr (.inr (mAd m0 m1 m2)))))), (m0, .inr (3, [.int (nI (lr 0)), .int (nI (lp 0)), .int (nI (sc 0)), .ref (hq 0), .ref (pq 0), .ref (oq 0)])), (hq 0, .inr (2, [.ref (ha 0), .ref (hv 0), .int (nI (zz 0))])), (ha 0, .inl (k 0, 8, .inl (LF 0))), (hv 0, .inl (k 0, 8, .inl (LG 0))), (pq 0, .inr (2, [.ref (pa 0), .ref (pv 0), .int (nI (zz 0))])), (pa 0, .inl (k 0, 8, .inl (LF 0))), (pv 0, .inl (k 0, 8, .inl (LP 0))), (oq 0, .inl (k 2, 36, .inl (OU 0))), (m1, .inr (3, [.int (nI (lr 1)), .int (nI (lp 1)), .int (nI (sc 1)), .ref (hq 1), .ref (pq 1), .ref (oq 1)])), (hq 1, .inr (2, [.ref (ha 1), .ref (hv 1), .int (nI (zz 1))])), (ha 1, .inl (k 0, 8, .inl (LF 1))), (hv 1, .inl (k 0, 8, .inl (LG 1))), (pq 1, .inr (2, [.ref (pa 1), .ref (pv 1), .int (nI (zz 1))])), (pa 1, .inl (k 0, 8, .inl (LF 1))), (pv 1, .inl (k 0, 8, .inl (LP 1))), (oq 1, .inl (k 2, 36, .inl (OU 1))), (m2, .inr (3, [.int (nI (lr 2)), .int (nI (lp 2)), .int (nI (sc 2)), .ref (hq 2), .ref (pq 2), .ref (oq 2)])), (hq 2, .inr (2, [.ref (ha 2), .ref (hv 2), .int (nI (zz 2))])), (ha 2, .inl (k 0, 8, .inl (LF 2))), (hv 2, .inl (k 0, 8, .inl (LG 2))), (pq 2, .inr (2, [.ref (pa 2), .ref (pv 2), .int (nI (zz 2))])), (pa 2, .inl (k 0, 8, .inl (LF 2))), (pv 2, .inl (k 0, 8, .inl (LP 2))), (oq 2, .inl (k 2, 36, .inl (OU 2)))] := hw.sub [0, 1, 2, 3, 24, 25, 26, 4, 5, 6, 7, 8, 9, 10, 11, 12, 13, 14, 15, 16, 17, 18, 19, 20, 21, 22, 23] (by decide) rfl
            have hr61 : r61 = 0 := by rcases hp61 with ⟨_, q⟩ | ⟨q, _⟩; exact absurd q hs9; exact q
            refine b_ti (y := nI 0) hr61 ?_
            exact b_thru (wc := []) (wr := [(x0, .inr (6, [.ref pl, .ref ho, .ref rs, .ref to, .ref wt, .ref bo])), (ho, .inr (1, [.ref ma, .int (nI cn), .ref fa])), (ma, .inl (k 3, 3, .inr (.inr (.inr (.inr (mAd m0 m1 m2)))))), (m0, .inr (3, [.int (nI (lr 0)), .int (nI (lp 0)), .int (nI (sc 0)), .ref (hq 0), .ref (pq 0), .ref (oq 0)])), (hq 0, .inr (2, [.ref (ha 0), .ref (hv 0), .int (nI (zz 0))])), (ha 0, .inl (k 0, 8, .inl (LF 0))), (hv 0, .inl (k 0, 8, .inl (LG 0))), (pq 0, .inr (2, [.ref (pa 0), .ref (pv 0), .int (nI (zz 0))])), (pa 0, .inl (k 0, 8, .inl (LF 0))), (pv 0, .inl (k 0, 8, .inl (LP 0))), (oq 0, .inl (k 2, 36, .inl (OU 0))), (m1, .inr (3, [.int (nI (lr 1)), .int (nI (lp 1)), .int (nI (sc 1)), .ref (hq 1), .ref (pq 1), .ref (oq 1)])), (hq 1, .inr (2, [.ref (ha 1), .ref (hv 1), .int (nI (zz 1))])), (ha 1, .inl (k 0, 8, .inl (LF 1))), (hv 1, .inl (k 0, 8, .inl (LG 1))), (pq 1, .inr (2, [.ref (pa 1), .ref (pv 1), .int (nI (zz 1))])), (pa 1, .inl (k 0, 8, .inl (LF 1))), (pv 1, .inl (k 0, 8, .inl (LP 1))), (oq 1, .inl (k 2, 36, .inl (OU 1))), (m2, .inr (3, [.int (nI (lr 2)), .int (nI (lp 2)), .int (nI (sc 2)), .ref (hq 2), .ref (pq 2), .ref (oq 2)])), (hq 2, .inr (2, [.ref (ha 2), .ref (hv 2), .int (nI (zz 2))])), (ha 2, .inl (k 0, 8, .inl (LF 2))), (hv 2, .inl (k 0, 8, .inl (LG 2))), (pq 2, .inr (2, [.ref (pa 2), .ref (pv 2), .int (nI (zz 2))])), (pa 2, .inl (k 0, 8, .inl (LF 2))), (pv 2, .inl (k 0, 8, .inl (LP 2))), (oq 2, .inl (k 2, 36, .inl (OU 2)))]) (w1 := []) hm hnh hw [] [0, 1, 2, 3, 4, 5, 6, 7, 8, 9, 10, 11, 12, 13, 14, 15, 16, 17, 18, 19, 20, 21, 22, 23, 24, 25, 26] rfl rfl (by decide) (by decide) (t_runS (As := [.int (nI 0)]) (rest := []) hm (ct_HM_requireState l htr D k _) (va_cwS 1 hts (gS2 uw_of k_371 k_369 k_370 k_1) rfl rfl rfl (by decide +kernel) ⟨by decide, by decide⟩) ⟨b_blindE, b_preE hw hE [] (by decide) rfl⟩ rfl hl.1 rfl (Nat.le_of_ble_eq_true rfl) d_HM_row_64 ⟨by decide, by decide⟩) (fun _ _ _ h => h) rfl rfl rfl
          · skip
            refine b_aald (i := kk) (v := m1) hm hw 2 3 rfl rfl rfl (by omega) (by omega) (by rw [hi0]; rfl) d_HM_row_52 ?_
            refine lv_astore (lv' := [(5, .ref m1), (0, .ref x0), (1, .int (nI kk)), (2, .int v), (3, .int y), (4, .int q)]) hx hb d_HM_row_53  hl (by decide) rfl (fun ls hl => ?_)
            refine lv_aload hx hb d_HM_row_55 (lv_at hl 0 rfl) ?_
            refine b_getN (T := F_Mc) hm hw 11 rfl rfl (fun w h => uw_of w (u_Mc w h)) 3 (by decide) (k_74) rfl d_HM_row_57 ?_
            refine lv_iload_n hx hb d_HM_row_60 rfl (lv_at hl 3 rfl) ?_
            have hs9 : ¬ lnRoom 8 (LF 1) (zz 1) v := by rw [hi0] at hs9; exact hs9
            refine b_goi (wr := [(x0, .inr (6, [.ref pl, .ref ho, .ref rs, .ref to, .ref wt, .ref bo])), (ho, .inr (1, [.ref ma, .int (nI cn), .ref fa])), (ma, .inl (k 3, 3, .inr (.inr (.inr (.inr (mAd m0 m1 m2)))))), (m0, .inr (3, [.int (nI (lr 0)), .int (nI (lp 0)), .int (nI (sc 0)), .ref (hq 0), .ref (pq 0), .ref (oq 0)])), (hq 0, .inr (2, [.ref (ha 0), .ref (hv 0), .int (nI (zz 0))])), (ha 0, .inl (k 0, 8, .inl (LF 0))), (hv 0, .inl (k 0, 8, .inl (LG 0))), (pq 0, .inr (2, [.ref (pa 0), .ref (pv 0), .int (nI (zz 0))])), (pa 0, .inl (k 0, 8, .inl (LF 0))), (pv 0, .inl (k 0, 8, .inl (LP 0))), (oq 0, .inl (k 2, 36, .inl (OU 0))), (m1, .inr (3, [.int (nI (lr 1)), .int (nI (lp 1)), .int (nI (sc 1)), .ref (hq 1), .ref (pq 1), .ref (oq 1)])), (pq 1, .inr (2, [.ref (pa 1), .ref (pv 1), .int (nI (zz 1))])), (pa 1, .inl (k 0, 8, .inl (LF 1))), (pv 1, .inl (k 0, 8, .inl (LP 1))), (oq 1, .inl (k 2, 36, .inl (OU 1))), (m2, .inr (3, [.int (nI (lr 2)), .int (nI (lp 2)), .int (nI (sc 2)), .ref (hq 2), .ref (pq 2), .ref (oq 2)])), (hq 2, .inr (2, [.ref (ha 2), .ref (hv 2), .int (nI (zz 2))])), (ha 2, .inl (k 0, 8, .inl (LF 2))), (hv 2, .inl (k 0, 8, .inl (LG 2))), (pq 2, .inr (2, [.ref (pa 2), .ref (pv 2), .int (nI (zz 2))])), (pa 2, .inl (k 0, 8, .inl (LF 2))), (pv 2, .inl (k 0, 8, .inl (LP 2))), (oq 2, .inl (k 2, 36, .inl (OU 2)))]) (b_runV (wc := [(hq 1, .inr (2, [.ref (ha 1), .ref (hv 1), .int (nI (zz 1))])), (ha 1, .inl (k 0, 8, .inl (LF 1))), (hv 1, .inl (k 0, 8, .inl (LG 1)))]) (As := [.int v]) (rest := []) (q0 := 12) hm hw (cwV 1 hts (gV uw_of k_449 k_446 k_447 (k_448) k_5) rfl rfl rfl (by decide +kernel) ⟨by decide, by decide⟩) (c_Ln_hasRoomAt l D k _ (hq 1) (ha 1) (hv 1) 8 (LF 1) (LG 1) (zz 1) v (hz 1) (by omega)) [12, 13, 14] (by decide) rfl rfl rfl rfl hl.1 rfl (Nat.le_of_ble_eq_true rfl) d_HM_row_61 ⟨by decide, by decide⟩) hw [12, 13, 14] [0, 1, 2, 3, 4, 5, 6, 7, 8, 9, 10, 11, 15, 16, 17, 18, 19, 20, 21, 22, 23, 24, 25, 26] rfl rfl (by decide) (by decide) (fun r61 _ H locs hp61 hw => ?_)
            have hw : bW (gU D k) A s H locs [(x0, .inr (6, [.ref pl, .ref ho, .ref rs, .ref to, .ref wt, .ref bo])), (ho, .inr (1, [.ref ma, .int (nI cn), .ref fa])), (ma, .inl (k 3, 3, .inr (.inr (.inr (.inr (mAd m0 m1 m2)))))), (m0, .inr (3, [.int (nI (lr 0)), .int (nI (lp 0)), .int (nI (sc 0)), .ref (hq 0), .ref (pq 0), .ref (oq 0)])), (hq 0, .inr (2, [.ref (ha 0), .ref (hv 0), .int (nI (zz 0))])), (ha 0, .inl (k 0, 8, .inl (LF 0))), (hv 0, .inl (k 0, 8, .inl (LG 0))), (pq 0, .inr (2, [.ref (pa 0), .ref (pv 0), .int (nI (zz 0))])), (pa 0, .inl (k 0, 8, .inl (LF 0))), (pv 0, .inl (k 0, 8, .inl (LP 0))), (oq 0, .inl (k 2, 36, .inl (OU 0))), (m1, .inr (3, [.int (nI (lr 1)), .int (nI (lp 1)), .int (nI (sc 1)), .ref (hq 1), .ref (pq 1), .ref (oq 1)])), (hq 1, .inr (2, [.ref (ha 1), .ref (hv 1), .int (nI (zz 1))])), (ha 1, .inl (k 0, 8, .inl (LF 1))), (hv 1, .inl (k 0, 8, .inl (LG 1))), (pq 1, .inr (2, [.ref (pa 1), .ref (pv 1), .int (nI (zz 1))])), (pa 1, .inl (k 0, 8, .inl (LF 1))), (pv 1, .inl (k 0, 8, .inl (LP 1))), (oq 1, .inl (k 2, 36, .inl (OU 1))), (m2, .inr (3, [.int (nI (lr 2)), .int (nI (lp 2)), .int (nI (sc 2)), .ref (hq 2), .ref (pq 2), .ref (oq 2)])), (hq 2, .inr (2, [.ref (ha 2), .ref (hv 2), .int (nI (zz 2))])), (ha 2, .inl (k 0, 8, .inl (LF 2))), (hv 2, .inl (k 0, 8, .inl (LG 2))), (pq 2, .inr (2, [.ref (pa 2), .ref (pv 2), .int (nI (zz 2))])), (pa 2, .inl (k 0, 8, .inl (LF 2))), (pv 2, .inl (k 0, 8, .inl (LP 2))), (oq 2, .inl (k 2, 36, .inl (OU 2)))] := hw.sub [0, 1, 2, 3, 4, 5, 6, 7, 8, 9, 10, 11, 24, 25, 26, 12, 13, 14, 15, 16, 17, 18, 19, 20, 21, 22, 23] (by decide) rfl
            have hr61 : r61 = 0 := by rcases hp61 with ⟨_, q⟩ | ⟨q, _⟩; exact absurd q hs9; exact q
            refine b_ti (y := nI 0) hr61 ?_
            exact b_thru (wc := []) (wr := [(x0, .inr (6, [.ref pl, .ref ho, .ref rs, .ref to, .ref wt, .ref bo])), (ho, .inr (1, [.ref ma, .int (nI cn), .ref fa])), (ma, .inl (k 3, 3, .inr (.inr (.inr (.inr (mAd m0 m1 m2)))))), (m0, .inr (3, [.int (nI (lr 0)), .int (nI (lp 0)), .int (nI (sc 0)), .ref (hq 0), .ref (pq 0), .ref (oq 0)])), (hq 0, .inr (2, [.ref (ha 0), .ref (hv 0), .int (nI (zz 0))])), (ha 0, .inl (k 0, 8, .inl (LF 0))), (hv 0, .inl (k 0, 8, .inl (LG 0))), (pq 0, .inr (2, [.ref (pa 0), .ref (pv 0), .int (nI (zz 0))])), (pa 0, .inl (k 0, 8, .inl (LF 0))), (pv 0, .inl (k 0, 8, .inl (LP 0))), (oq 0, .inl (k 2, 36, .inl (OU 0))), (m1, .inr (3, [.int (nI (lr 1)), .int (nI (lp 1)), .int (nI (sc 1)), .ref (hq 1), .ref (pq 1), .ref (oq 1)])), (hq 1, .inr (2, [.ref (ha 1), .ref (hv 1), .int (nI (zz 1))])), (ha 1, .inl (k 0, 8, .inl (LF 1))), (hv 1, .inl (k 0, 8, .inl (LG 1))), (pq 1, .inr (2, [.ref (pa 1), .ref (pv 1), .int (nI (zz 1))])), (pa 1, .inl (k 0, 8, .inl (LF 1))), (pv 1, .inl (k 0, 8, .inl (LP 1))), (oq 1, .inl (k 2, 36, .inl (OU 1))), (m2, .inr (3, [.int (nI (lr 2)), .int (nI (lp 2)), .int (nI (sc 2)), .ref (hq 2), .ref (pq 2), .ref (oq 2)])), (hq 2, .inr (2, [.ref (ha 2), .ref (hv 2), .int (nI (zz 2))])), (ha 2, .inl (k 0, 8, .inl (LF 2))), (hv 2, .inl (k 0, 8, .inl (LG 2))), (pq 2, .inr (2, [.ref (pa 2), .ref (pv 2), .int (nI (zz 2))])), (pa 2, .inl (k 0, 8, .inl (LF 2))), (pv 2, .inl (k 0, 8, .inl (LP 2))), (oq 2, .inl (k 2, 36, .inl (OU 2)))]) (w1 := []) hm hnh hw [] [0, 1, 2, 3, 4, 5, 6, 7, 8, 9, 10, 11, 12, 13, 14, 15, 16, 17, 18, 19, 20, 21, 22, 23, 24, 25, 26] rfl rfl (by decide) (by decide) (t_runS (As := [.int (nI 0)]) (rest := []) hm (ct_HM_requireState l htr D k _) (va_cwS 1 hts (gS2 uw_of k_371 k_369 k_370 k_1) rfl rfl rfl (by decide +kernel) ⟨by decide, by decide⟩) ⟨b_blindE, b_preE hw hE [] (by decide) rfl⟩ rfl hl.1 rfl (Nat.le_of_ble_eq_true rfl) d_HM_row_64 ⟨by decide, by decide⟩) (fun _ _ _ h => h) rfl rfl rfl
          · skip
            refine b_aald (i := kk) (v := m2) hm hw 2 3 rfl rfl rfl (by omega) (by omega) (by rw [hi0]; rfl) d_HM_row_52 ?_
            refine lv_astore (lv' := [(5, .ref m2), (0, .ref x0), (1, .int (nI kk)), (2, .int v), (3, .int y), (4, .int q)]) hx hb d_HM_row_53  hl (by decide) rfl (fun ls hl => ?_)
            refine lv_aload hx hb d_HM_row_55 (lv_at hl 0 rfl) ?_
            refine b_getN (T := F_Mc) hm hw 19 rfl rfl (fun w h => uw_of w (u_Mc w h)) 3 (by decide) (k_74) rfl d_HM_row_57 ?_
            refine lv_iload_n hx hb d_HM_row_60 rfl (lv_at hl 3 rfl) ?_
            have hs9 : ¬ lnRoom 8 (LF 2) (zz 2) v := by rw [hi0] at hs9; exact hs9
            refine b_goi (wr := [(x0, .inr (6, [.ref pl, .ref ho, .ref rs, .ref to, .ref wt, .ref bo])), (ho, .inr (1, [.ref ma, .int (nI cn), .ref fa])), (ma, .inl (k 3, 3, .inr (.inr (.inr (.inr (mAd m0 m1 m2)))))), (m0, .inr (3, [.int (nI (lr 0)), .int (nI (lp 0)), .int (nI (sc 0)), .ref (hq 0), .ref (pq 0), .ref (oq 0)])), (hq 0, .inr (2, [.ref (ha 0), .ref (hv 0), .int (nI (zz 0))])), (ha 0, .inl (k 0, 8, .inl (LF 0))), (hv 0, .inl (k 0, 8, .inl (LG 0))), (pq 0, .inr (2, [.ref (pa 0), .ref (pv 0), .int (nI (zz 0))])), (pa 0, .inl (k 0, 8, .inl (LF 0))), (pv 0, .inl (k 0, 8, .inl (LP 0))), (oq 0, .inl (k 2, 36, .inl (OU 0))), (m1, .inr (3, [.int (nI (lr 1)), .int (nI (lp 1)), .int (nI (sc 1)), .ref (hq 1), .ref (pq 1), .ref (oq 1)])), (hq 1, .inr (2, [.ref (ha 1), .ref (hv 1), .int (nI (zz 1))])), (ha 1, .inl (k 0, 8, .inl (LF 1))), (hv 1, .inl (k 0, 8, .inl (LG 1))), (pq 1, .inr (2, [.ref (pa 1), .ref (pv 1), .int (nI (zz 1))])), (pa 1, .inl (k 0, 8, .inl (LF 1))), (pv 1, .inl (k 0, 8, .inl (LP 1))), (oq 1, .inl (k 2, 36, .inl (OU 1))), (m2, .inr (3, [.int (nI (lr 2)), .int (nI (lp 2)), .int (nI (sc 2)), .ref (hq 2), .ref (pq 2), .ref (oq 2)])), (pq 2, .inr (2, [.ref (pa 2), .ref (pv 2), .int (nI (zz 2))])), (pa 2, .inl (k 0, 8, .inl (LF 2))), (pv 2, .inl (k 0, 8, .inl (LP 2))), (oq 2, .inl (k 2, 36, .inl (OU 2)))]) (b_runV (wc := [(hq 2, .inr (2, [.ref (ha 2), .ref (hv 2), .int (nI (zz 2))])), (ha 2, .inl (k 0, 8, .inl (LF 2))), (hv 2, .inl (k 0, 8, .inl (LG 2)))]) (As := [.int v]) (rest := []) (q0 := 20) hm hw (cwV 1 hts (gV uw_of k_449 k_446 k_447 (k_448) k_5) rfl rfl rfl (by decide +kernel) ⟨by decide, by decide⟩) (c_Ln_hasRoomAt l D k _ (hq 2) (ha 2) (hv 2) 8 (LF 2) (LG 2) (zz 2) v (hz 2) (by omega)) [20, 21, 22] (by decide) rfl rfl rfl rfl hl.1 rfl (Nat.le_of_ble_eq_true rfl) d_HM_row_61 ⟨by decide, by decide⟩) hw [20, 21, 22] [0, 1, 2, 3, 4, 5, 6, 7, 8, 9, 10, 11, 12, 13, 14, 15, 16, 17, 18, 19, 23, 24, 25, 26] rfl rfl (by decide) (by decide) (fun r61 _ H locs hp61 hw => ?_)
            have hw : bW (gU D k) A s H locs [(x0, .inr (6, [.ref pl, .ref ho, .ref rs, .ref to, .ref wt, .ref bo])), (ho, .inr (1, [.ref ma, .int (nI cn), .ref fa])), (ma, .inl (k 3, 3, .inr (.inr (.inr (.inr (mAd m0 m1 m2)))))), (m0, .inr (3, [.int (nI (lr 0)), .int (nI (lp 0)), .int (nI (sc 0)), .ref (hq 0), .ref (pq 0), .ref (oq 0)])), (hq 0, .inr (2, [.ref (ha 0), .ref (hv 0), .int (nI (zz 0))])), (ha 0, .inl (k 0, 8, .inl (LF 0))), (hv 0, .inl (k 0, 8, .inl (LG 0))), (pq 0, .inr (2, [.ref (pa 0), .ref (pv 0), .int (nI (zz 0))])), (pa 0, .inl (k 0, 8, .inl (LF 0))), (pv 0, .inl (k 0, 8, .inl (LP 0))), (oq 0, .inl (k 2, 36, .inl (OU 0))), (m1, .inr (3, [.int (nI (lr 1)), .int (nI (lp 1)), .int (nI (sc 1)), .ref (hq 1), .ref (pq 1), .ref (oq 1)])), (hq 1, .inr (2, [.ref (ha 1), .ref (hv 1), .int (nI (zz 1))])), (ha 1, .inl (k 0, 8, .inl (LF 1))), (hv 1, .inl (k 0, 8, .inl (LG 1))), (pq 1, .inr (2, [.ref (pa 1), .ref (pv 1), .int (nI (zz 1))])), (pa 1, .inl (k 0, 8, .inl (LF 1))), (pv 1, .inl (k 0, 8, .inl (LP 1))), (oq 1, .inl (k 2, 36, .inl (OU 1))), (m2, .inr (3, [.int (nI (lr 2)), .int (nI (lp 2)), .int (nI (sc 2)), .ref (hq 2), .ref (pq 2), .ref (oq 2)])), (hq 2, .inr (2, [.ref (ha 2), .ref (hv 2), .int (nI (zz 2))])), (ha 2, .inl (k 0, 8, .inl (LF 2))), (hv 2, .inl (k 0, 8, .inl (LG 2))), (pq 2, .inr (2, [.ref (pa 2), .ref (pv 2), .int (nI (zz 2))])), (pa 2, .inl (k 0, 8, .inl (LF 2))), (pv 2, .inl (k 0, 8, .inl (LP 2))), (oq 2, .inl (k 2, 36, .inl (OU 2)))] := hw.sub [0, 1, 2, 3, 4, 5, 6, 7, 8, 9, 10, 11, 12, 13, 14, 15, 16, 17, 18, 19, 24, 25, 26, 20, 21, 22, 23] (by decide) rfl
            have hr61 : r61 = 0 := by rcases hp61 with ⟨_, q⟩ | ⟨q, _⟩; exact absurd q hs9; exact q
            refine b_ti (y := nI 0) hr61 ?_
            exact b_thru (wc := []) (wr := [(x0, .inr (6, [.ref pl, .ref ho, .ref rs, .ref to, .ref wt, .ref bo])), (ho, .inr (1, [.ref ma, .int (nI cn), .ref fa])), (ma, .inl (k 3, 3, .inr (.inr (.inr (.inr (mAd m0 m1 m2)))))), (m0, .inr (3, [.int (nI (lr 0)), .int (nI (lp 0)), .int (nI (sc 0)), .ref (hq 0), .ref (pq 0), .ref (oq 0)])), (hq 0, .inr (2, [.ref (ha 0), .ref (hv 0), .int (nI (zz 0))])), (ha 0, .inl (k 0, 8, .inl (LF 0))), (hv 0, .inl (k 0, 8, .inl (LG 0))), (pq 0, .inr (2, [.ref (pa 0), .ref (pv 0), .int (nI (zz 0))])), (pa 0, .inl (k 0, 8, .inl (LF 0))), (pv 0, .inl (k 0, 8, .inl (LP 0))), (oq 0, .inl (k 2, 36, .inl (OU 0))), (m1, .inr (3, [.int (nI (lr 1)), .int (nI (lp 1)), .int (nI (sc 1)), .ref (hq 1), .ref (pq 1), .ref (oq 1)])), (hq 1, .inr (2, [.ref (ha 1), .ref (hv 1), .int (nI (zz 1))])), (ha 1, .inl (k 0, 8, .inl (LF 1))), (hv 1, .inl (k 0, 8, .inl (LG 1))), (pq 1, .inr (2, [.ref (pa 1), .ref (pv 1), .int (nI (zz 1))])), (pa 1, .inl (k 0, 8, .inl (LF 1))), (pv 1, .inl (k 0, 8, .inl (LP 1))), (oq 1, .inl (k 2, 36, .inl (OU 1))), (m2, .inr (3, [.int (nI (lr 2)), .int (nI (lp 2)), .int (nI (sc 2)), .ref (hq 2), .ref (pq 2), .ref (oq 2)])), (hq 2, .inr (2, [.ref (ha 2), .ref (hv 2), .int (nI (zz 2))])), (ha 2, .inl (k 0, 8, .inl (LF 2))), (hv 2, .inl (k 0, 8, .inl (LG 2))), (pq 2, .inr (2, [.ref (pa 2), .ref (pv 2), .int (nI (zz 2))])), (pa 2, .inl (k 0, 8, .inl (LF 2))), (pv 2, .inl (k 0, 8, .inl (LP 2))), (oq 2, .inl (k 2, 36, .inl (OU 2)))]) (w1 := []) hm hnh hw [] [0, 1, 2, 3, 4, 5, 6, 7, 8, 9, 10, 11, 12, 13, 14, 15, 16, 17, 18, 19, 20, 21, 22, 23, 24, 25, 26] rfl rfl (by decide) (by decide) (t_runS (As := [.int (nI 0)]) (rest := []) hm (ct_HM_requireState l htr D k _) (va_cwS 1 hts (gS2 uw_of k_371 k_369 k_370 k_1) rfl rfl rfl (by decide +kernel) ⟨by decide, by decide⟩) ⟨b_blindE, b_preE hw hE [] (by decide) rfl⟩ rfl hl.1 rfl (Nat.le_of_ble_eq_true rfl) d_HM_row_64 ⟨by decide, by decide⟩) (fun _ _ _ h => h) rfl rfl rfl

set_option maxHeartbeats 4000000 in
set_option maxRecDepth 100000 in
theorem ct_HM_hour1 (l : Launch) (htr : l.stackTraces = false) (D : va_G) (k : Nat → ClassId) (sz : Nat) (x0 ho pl rs to wt bo : Nat) (h w v : Int32) (hv9 : ¬ ((nI 0 ≤ h ∧ h ≤ nI 35) ∧ ((w = 0 ∧ ((-5000) ≤ v ∧ v ≤ nI 5000)) ∨ (w = nI 1 ∧ (nI 0 ≤ v ∧ v ≤ nI 1000)) ∨ (w = nI 2 ∧ (nI 0 ≤ v ∧ v ≤ nI 100000))))) : MetT l y_HM_hour (uw y_HM_hour b_HM_hour 5 (some .int)) (rU 7 1 6) (va_Pc [.ref x0, .int h, .int w, .int v] (bPE (gU D k) [(x0, .inr (6, [.ref pl, .ref ho, .ref rs, .ref to, .ref wt, .ref bo]))] sz)) (bQt sIA (bQ (gU D k) (va_A [(x0, .inr (6, [.ref pl, .ref ho, .ref rs, .ref to, .ref wt, .ref bo]))] sz) [(x0, .inr (6, [.ref pl, .ref ho, .ref rs, .ref to, .ref wt, .ref bo]))]) (va_A [(x0, .inr (6, [.ref pl, .ref ho, .ref rs, .ref to, .ref wt, .ref bo]))] sz)) 1 6 (va_A [(x0, .inr (6, [.ref pl, .ref ho, .ref rs, .ref to, .ref wt, .ref bo]))] sz) := by
  refine b_startT (y := y_HM_hour) (maxL := 5) (ret := (some .int)) (cc := b_HM_hour) (ws' := ut) (rm := rU 7 1 6) (av := [.ref x0, .int h, .int w, .int v]) (g := gU D k) (ws := [(x0, .inr (6, [.ref pl, .ref ho, .ref rs, .ref to, .ref wt, .ref bo]))]) (sz := sz) (Qc := fun A => bQt sIA (bQ (gU D k) A [(x0, .inr (6, [.ref pl, .ref ho, .ref rs, .ref to, .ref wt, .ref bo]))]) A) (by decide +kernel) (Nat.le_of_ble_eq_true rfl) ?_
  intro p e s m below meth c A hm hnh hE hw ls hl
  have hl : lv_has ls 5 [(0, .ref x0), (1, .int h), (2, .int w), (3, .int v)] := hl
  have hx := hm.1
  have hb := hm.2.1
  have hown := hm.2.2.2.2.1
  have hts := hm.2.2.2.2.2.1
  refine lv_iload_n hx hb d_HM_hour_0 rfl (lv_at hl 1 rfl) ?_
  refine b_goi (wr := [(x0, .inr (6, [.ref pl, .ref ho, .ref rs, .ref to, .ref wt, .ref bo]))]) (b_runS (wc := []) (As := [.int h]) (rest := []) hm hw (va_cwS 1 hts (gS2 uw_of k_465 k_463 k_464 k_1) rfl rfl rfl (by decide +kernel) ⟨by decide, by decide⟩) (c_HM_isHour l D k _ h) [] (by decide) rfl rfl hl.1 rfl (Nat.le_of_ble_eq_true rfl) d_HM_hour_1 ⟨by decide, by decide⟩) hw [] [0] rfl rfl (by decide) (by decide) (fun r1 _ H locs hp1 hw => ?_)
  have hw : bW (gU D k) A s H locs [(x0, .inr (6, [.ref pl, .ref ho, .ref rs, .ref to, .ref wt, .ref bo]))] := hw.sub [0] (by decide) rfl
  rcases hp1 with ⟨hr1, hp1⟩ | ⟨hr1, hp1⟩
  · skip
    refine b_ti (y := nI 1) hr1 ?_
    refine lv_if_eq (tgt := 37) hx hb d_HM_hour_4 (by decide) (fun c_4_0 => ?_) (fun c_4_0 => ?_)
    · skip
      exact absurd c_4_0 (by decide)
    · skip
      refine lv_iload_n hx hb d_HM_hour_7 rfl (lv_at hl 2 rfl) ?_
      refine lv_iconst (v := nI 0) hx hb d_HM_hour_8 (by decide) ?_
      refine lv_iconst (v := nI 2) hx hb d_HM_hour_9 (by decide) ?_
      refine b_goi (wr := [(x0, .inr (6, [.ref pl, .ref ho, .ref rs, .ref to, .ref wt, .ref bo]))]) (b_runS (wc := []) (As := [.int w, .int (nI 0), .int (nI 2)]) (rest := []) hm hw (va_cwS 3 hts (gS2 uw_of k_297 k_295 k_296 k_1) rfl rfl rfl (by decide +kernel) ⟨by decide, by decide⟩) (c_HM_isWithin l D k _ w (nI 0) (nI 2)) [] (by decide) rfl rfl hl.1 rfl (Nat.le_of_ble_eq_true rfl) d_HM_hour_10 ⟨by decide, by decide⟩) hw [] [0] rfl rfl (by decide) (by decide) (fun r10 _ H locs hp10 hw => ?_)
      have hw : bW (gU D k) A s H locs [(x0, .inr (6, [.ref pl, .ref ho, .ref rs, .ref to, .ref wt, .ref bo]))] := hw.sub [0] (by decide) rfl
      rcases hp10 with ⟨hr10, hp10⟩ | ⟨hr10, hp10⟩
      · skip
        refine b_ti (y := nI 1) hr10 ?_
        obtain ⟨wn, hwn, -, rfl⟩ := in_of (c := 2) (by omega) hp10
        refine lv_if_eq (tgt := 37) hx hb d_HM_hour_13 (by decide) (fun c_13_1 => ?_) (fun c_13_1 => ?_)
        · skip
          exact absurd c_13_1 (by decide)
        · skip
          refine lv_iload_n hx hb d_HM_hour_16 rfl (lv_at hl 3 rfl) ?_
          obtain ⟨tl, hZtl, hTtl⟩ := hw.2.2.2.2.2.2.2.1
          refine va_gets hx hb hZtl hw.2.2.1 hown (hts _ (uw_of _ k_466)) (fun _ h => h) d_HM_hour_17 ?_
          refine lv_iload_n hx hb d_HM_hour_20 rfl (lv_at hl 2 rfl) ?_
          refine va_ti hx hb hTtl hw.2.2.1 (vp_in_nI (n := wn) (N := 3) (by omega) (by omega)) (lf_at (w := wn) (by omega)) d_HM_hour_21 ?_
          obtain ⟨tm, hZtm, hTtm⟩ := hw.2.2.2.2.2.2.2.2
          refine va_gets hx hb hZtm hw.2.2.1 hown (hts _ (uw_of _ k_468)) (fun _ h => h) d_HM_hour_22 ?_
          refine lv_iload_n hx hb d_HM_hour_25 rfl (lv_at hl 2 rfl) ?_
          refine va_ti hx hb hTtm hw.2.2.1 (vp_in_nI (n := wn) (N := 3) (by omega) (by omega)) (mf_at (w := wn) (by omega)) d_HM_hour_26 ?_
          refine b_goi (wr := [(x0, .inr (6, [.ref pl, .ref ho, .ref rs, .ref to, .ref wt, .ref bo]))]) (b_runS (wc := []) (As := [.int v, .int (lfI wn), .int (mfI wn)]) (rest := []) hm hw (va_cwS 3 hts (gS2 uw_of k_297 k_295 k_296 k_1) rfl rfl rfl (by decide +kernel) ⟨by decide, by decide⟩) (c_HM_isWithin l D k _ v (lfI wn) (mfI wn)) [] (by decide) rfl rfl hl.1 rfl (Nat.le_of_ble_eq_true rfl) d_HM_hour_27 ⟨by decide, by decide⟩) hw [] [0] rfl rfl (by decide) (by decide) (fun r27 _ H locs hp27 hw => ?_)
          have hw : bW (gU D k) A s H locs [(x0, .inr (6, [.ref pl, .ref ho, .ref rs, .ref to, .ref wt, .ref bo]))] := hw.sub [0] (by decide) rfl
          rcases hp27 with ⟨hr27, hp27⟩ | ⟨hr27, hp27⟩
          · skip
            refine b_ti (y := nI 1) hr27 ?_
            refine lv_if_eq (tgt := 37) hx hb d_HM_hour_30 (by decide) (fun c_30_2 => ?_) (fun c_30_2 => ?_)
            · skip
              exact absurd c_30_2 (by decide)
            · skip
              refine lv_iconst (v := nI 1) hx hb d_HM_hour_33 (by decide) ?_
              refine lv_goto (tgt := 38) hx hb d_HM_hour_34 (by decide) ?_
              exact absurd (hr_v hwn hp1 hp27) hv9
          · skip
            refine b_ti (y := nI 0) hr27 ?_
            refine lv_if_eq (tgt := 37) hx hb d_HM_hour_30 (by decide) (fun c_30_3 => ?_) (fun c_30_3 => ?_)
            · skip
              refine lv_iconst (v := nI 0) hx hb d_HM_hour_37 (by decide) ?_
              exact b_thru (wc := []) (wr := [(x0, .inr (6, [.ref pl, .ref ho, .ref rs, .ref to, .ref wt, .ref bo]))]) (w1 := []) hm hnh hw [] [0] rfl rfl (by decide) (by decide) (t_runS (As := [.int (nI 0)]) (rest := []) hm (ct_HM_requireArgument l htr D k _) (va_cwS 1 hts (gS2 uw_of k_301 k_299 k_300 k_1) rfl rfl rfl (by decide +kernel) ⟨by decide, by decide⟩) ⟨b_blindE, b_preE hw hE [] (by decide) rfl⟩ rfl hl.1 rfl (Nat.le_of_ble_eq_true rfl) d_HM_hour_38 ⟨by decide, by decide⟩) (fun _ _ _ h => h) rfl rfl rfl
            · skip
              exact absurd c_30_3 (by decide)
      · skip
        refine b_ti (y := nI 0) hr10 ?_
        refine lv_if_eq (tgt := 37) hx hb d_HM_hour_13 (by decide) (fun c_13_4 => ?_) (fun c_13_4 => ?_)
        · skip
          refine lv_iconst (v := nI 0) hx hb d_HM_hour_37 (by decide) ?_
          exact b_thru (wc := []) (wr := [(x0, .inr (6, [.ref pl, .ref ho, .ref rs, .ref to, .ref wt, .ref bo]))]) (w1 := []) hm hnh hw [] [0] rfl rfl (by decide) (by decide) (t_runS (As := [.int (nI 0)]) (rest := []) hm (ct_HM_requireArgument l htr D k _) (va_cwS 1 hts (gS2 uw_of k_301 k_299 k_300 k_1) rfl rfl rfl (by decide +kernel) ⟨by decide, by decide⟩) ⟨b_blindE, b_preE hw hE [] (by decide) rfl⟩ rfl hl.1 rfl (Nat.le_of_ble_eq_true rfl) d_HM_hour_38 ⟨by decide, by decide⟩) (fun _ _ _ h => h) rfl rfl rfl
        · skip
          exact absurd c_13_4 (by decide)
  · skip
    refine b_ti (y := nI 0) hr1 ?_
    refine lv_if_eq (tgt := 37) hx hb d_HM_hour_4 (by decide) (fun c_4_5 => ?_) (fun c_4_5 => ?_)
    · skip
      refine lv_iconst (v := nI 0) hx hb d_HM_hour_37 (by decide) ?_
      exact b_thru (wc := []) (wr := [(x0, .inr (6, [.ref pl, .ref ho, .ref rs, .ref to, .ref wt, .ref bo]))]) (w1 := []) hm hnh hw [] [0] rfl rfl (by decide) (by decide) (t_runS (As := [.int (nI 0)]) (rest := []) hm (ct_HM_requireArgument l htr D k _) (va_cwS 1 hts (gS2 uw_of k_301 k_299 k_300 k_1) rfl rfl rfl (by decide +kernel) ⟨by decide, by decide⟩) ⟨b_blindE, b_preE hw hE [] (by decide) rfl⟩ rfl hl.1 rfl (Nat.le_of_ble_eq_true rfl) d_HM_hour_38 ⟨by decide, by decide⟩) (fun _ _ _ h => h) rfl rfl rfl
    · skip
      exact absurd c_4_5 (by decide)

set_option maxHeartbeats 4000000 in
set_option maxRecDepth 100000 in
theorem ct_HM_hour20 (l : Launch) (htr : l.stackTraces = false) (D : va_G) (k : Nat → ClassId) (sz : Nat) (x0 ho pl rs to wt bo se ab he po sx be sa ov sta stl h : Nat) (v : Int32) (hv9 : lfI 0 ≤ v ∧ v ≤ mfI 0) (hh : h < 36) (hov : h < ov) (ho36 : ov ≤ 36) : MetT l y_HM_hour (uw y_HM_hour b_HM_hour 5 (some .int)) (rU 7 1 6) (va_Pc [.ref x0, .int (nI h), .int (nI 0), .int v] (bPE (gU D k) [(x0, .inr (6, [.ref pl, .ref ho, .ref rs, .ref to, .ref wt, .ref bo])), (pl, .inr (4, [.ref ho, .ref sa, .int (nI ov), .int (nI sta), .int (nI stl), .ref se, .ref ab, .ref he, .ref po, .ref sx, .ref be]))] sz)) (bQt sIS (bQ (gU D k) (va_A [(x0, .inr (6, [.ref pl, .ref ho, .ref rs, .ref to, .ref wt, .ref bo])), (pl, .inr (4, [.ref ho, .ref sa, .int (nI ov), .int (nI sta), .int (nI stl), .ref se, .ref ab, .ref he, .ref po, .ref sx, .ref be]))] sz) [(x0, .inr (6, [.ref pl, .ref ho, .ref rs, .ref to, .ref wt, .ref bo])), (pl, .inr (4, [.ref ho, .ref sa, .int (nI ov), .int (nI sta), .int (nI stl), .ref se, .ref ab, .ref he, .ref po, .ref sx, .ref be]))]) (va_A [(x0, .inr (6, [.ref pl, .ref ho, .ref rs, .ref to, .ref wt, .ref bo])), (pl, .inr (4, [.ref ho, .ref sa, .int (nI ov), .int (nI sta), .int (nI stl), .ref se, .ref ab, .ref he, .ref po, .ref sx, .ref be]))] sz)) 1 6 (va_A [(x0, .inr (6, [.ref pl, .ref ho, .ref rs, .ref to, .ref wt, .ref bo])), (pl, .inr (4, [.ref ho, .ref sa, .int (nI ov), .int (nI sta), .int (nI stl), .ref se, .ref ab, .ref he, .ref po, .ref sx, .ref be]))] sz) := by
  refine b_startT (y := y_HM_hour) (maxL := 5) (ret := (some .int)) (cc := b_HM_hour) (ws' := ut) (rm := rU 7 1 6) (av := [.ref x0, .int (nI h), .int (nI 0), .int v]) (g := gU D k) (ws := [(x0, .inr (6, [.ref pl, .ref ho, .ref rs, .ref to, .ref wt, .ref bo])), (pl, .inr (4, [.ref ho, .ref sa, .int (nI ov), .int (nI sta), .int (nI stl), .ref se, .ref ab, .ref he, .ref po, .ref sx, .ref be]))]) (sz := sz) (Qc := fun A => bQt sIS (bQ (gU D k) A [(x0, .inr (6, [.ref pl, .ref ho, .ref rs, .ref to, .ref wt, .ref bo])), (pl, .inr (4, [.ref ho, .ref sa, .int (nI ov), .int (nI sta), .int (nI stl), .ref se, .ref ab, .ref he, .ref po, .ref sx, .ref be]))]) A) (by decide +kernel) (Nat.le_of_ble_eq_true rfl) ?_
  intro p e s m below meth c A hm hnh hE hw ls hl
  have hl : lv_has ls 5 [(0, .ref x0), (1, .int (nI h)), (2, .int (nI 0)), (3, .int v)] := hl
  have hx := hm.1
  have hb := hm.2.1
  have hown := hm.2.2.2.2.1
  have hts := hm.2.2.2.2.2.1
  refine lv_iload_n hx hb d_HM_hour_0 rfl (lv_at hl 1 rfl) ?_
  refine b_goi (wr := [(x0, .inr (6, [.ref pl, .ref ho, .ref rs, .ref to, .ref wt, .ref bo])), (pl, .inr (4, [.ref ho, .ref sa, .int (nI ov), .int (nI sta), .int (nI stl), .ref se, .ref ab, .ref he, .ref po, .ref sx, .ref be]))]) (b_runS (wc := []) (As := [.int (nI h)]) (rest := []) hm hw (va_cwS 1 hts (gS2 uw_of k_465 k_463 k_464 k_1) rfl rfl rfl (by decide +kernel) ⟨by decide, by decide⟩) (c_HM_isHour l D k _ (nI h)) [] (by decide) rfl rfl hl.1 rfl (Nat.le_of_ble_eq_true rfl) d_HM_hour_1 ⟨by decide, by decide⟩) hw [] [0, 1] rfl rfl (by decide) (by decide) (fun r1 _ H locs hp1 hw => ?_)
  have hw : bW (gU D k) A s H locs [(x0, .inr (6, [.ref pl, .ref ho, .ref rs, .ref to, .ref wt, .ref bo])), (pl, .inr (4, [.ref ho, .ref sa, .int (nI ov), .int (nI sta), .int (nI stl), .ref se, .ref ab, .ref he, .ref po, .ref sx, .ref be]))] := hw.sub [0, 1] (by decide) rfl
  have hr1 : r1 = 1 := by rcases hp1 with ⟨q, _⟩ | ⟨_, q⟩; exact q; exact absurd (in_n (by omega) (by omega) (by omega)) q
  refine b_ti (y := nI 1) hr1 ?_
  refine lv_if_eq (tgt := 37) hx hb d_HM_hour_4 (by decide) (fun c_4_0 => ?_) (fun c_4_0 => ?_)
  · skip
    exact absurd c_4_0 (by decide)
  · skip
    refine lv_iload_n hx hb d_HM_hour_7 rfl (lv_at hl 2 rfl) ?_
    refine lv_iconst (v := nI 0) hx hb d_HM_hour_8 (by decide) ?_
    refine lv_iconst (v := nI 2) hx hb d_HM_hour_9 (by decide) ?_
    refine b_goi (wr := [(x0, .inr (6, [.ref pl, .ref ho, .ref rs, .ref to, .ref wt, .ref bo])), (pl, .inr (4, [.ref ho, .ref sa, .int (nI ov), .int (nI sta), .int (nI stl), .ref se, .ref ab, .ref he, .ref po, .ref sx, .ref be]))]) (b_runS (wc := []) (As := [.int (nI 0), .int (nI 0), .int (nI 2)]) (rest := []) hm hw (va_cwS 3 hts (gS2 uw_of k_297 k_295 k_296 k_1) rfl rfl rfl (by decide +kernel) ⟨by decide, by decide⟩) (c_HM_isWithin l D k _ (nI 0) (nI 0) (nI 2)) [] (by decide) rfl rfl hl.1 rfl (Nat.le_of_ble_eq_true rfl) d_HM_hour_10 ⟨by decide, by decide⟩) hw [] [0, 1] rfl rfl (by decide) (by decide) (fun r10 _ H locs hp10 hw => ?_)
    have hw : bW (gU D k) A s H locs [(x0, .inr (6, [.ref pl, .ref ho, .ref rs, .ref to, .ref wt, .ref bo])), (pl, .inr (4, [.ref ho, .ref sa, .int (nI ov), .int (nI sta), .int (nI stl), .ref se, .ref ab, .ref he, .ref po, .ref sx, .ref be]))] := hw.sub [0, 1] (by decide) rfl
    have hr10 : r10 = 1 := by rcases hp10 with ⟨q, _⟩ | ⟨_, q⟩; exact q; exact absurd (in_n (by omega) (by omega) (by omega)) q
    refine b_ti (y := nI 1) hr10 ?_
    refine lv_if_eq (tgt := 37) hx hb d_HM_hour_13 (by decide) (fun c_13_1 => ?_) (fun c_13_1 => ?_)
    · skip
      exact absurd c_13_1 (by decide)
    · skip
      refine lv_iload_n hx hb d_HM_hour_16 rfl (lv_at hl 3 rfl) ?_
      obtain ⟨tl, hZtl, hTtl⟩ := hw.2.2.2.2.2.2.2.1
      refine va_gets hx hb hZtl hw.2.2.1 hown (hts _ (uw_of _ k_466)) (fun _ h => h) d_HM_hour_17 ?_
      refine lv_iload_n hx hb d_HM_hour_20 rfl (lv_at hl 2 rfl) ?_
      refine va_ti hx hb hTtl hw.2.2.1 (vp_in_nI (n := 0) (N := 3) (by omega) (by omega)) (lf_at (w := 0) (by omega)) d_HM_hour_21 ?_
      obtain ⟨tm, hZtm, hTtm⟩ := hw.2.2.2.2.2.2.2.2
      refine va_gets hx hb hZtm hw.2.2.1 hown (hts _ (uw_of _ k_468)) (fun _ h => h) d_HM_hour_22 ?_
      refine lv_iload_n hx hb d_HM_hour_25 rfl (lv_at hl 2 rfl) ?_
      refine va_ti hx hb hTtm hw.2.2.1 (vp_in_nI (n := 0) (N := 3) (by omega) (by omega)) (mf_at (w := 0) (by omega)) d_HM_hour_26 ?_
      refine b_goi (wr := [(x0, .inr (6, [.ref pl, .ref ho, .ref rs, .ref to, .ref wt, .ref bo])), (pl, .inr (4, [.ref ho, .ref sa, .int (nI ov), .int (nI sta), .int (nI stl), .ref se, .ref ab, .ref he, .ref po, .ref sx, .ref be]))]) (b_runS (wc := []) (As := [.int v, .int (lfI 0), .int (mfI 0)]) (rest := []) hm hw (va_cwS 3 hts (gS2 uw_of k_297 k_295 k_296 k_1) rfl rfl rfl (by decide +kernel) ⟨by decide, by decide⟩) (c_HM_isWithin l D k _ v (lfI 0) (mfI 0)) [] (by decide) rfl rfl hl.1 rfl (Nat.le_of_ble_eq_true rfl) d_HM_hour_27 ⟨by decide, by decide⟩) hw [] [0, 1] rfl rfl (by decide) (by decide) (fun r27 _ H locs hp27 hw => ?_)
      have hw : bW (gU D k) A s H locs [(x0, .inr (6, [.ref pl, .ref ho, .ref rs, .ref to, .ref wt, .ref bo])), (pl, .inr (4, [.ref ho, .ref sa, .int (nI ov), .int (nI sta), .int (nI stl), .ref se, .ref ab, .ref he, .ref po, .ref sx, .ref be]))] := hw.sub [0, 1] (by decide) rfl
      have hr27 : r27 = 1 := by rcases hp27 with ⟨q, _⟩ | ⟨_, q⟩; exact q; exact absurd (hv9) q
      refine b_ti (y := nI 1) hr27 ?_
      refine lv_if_eq (tgt := 37) hx hb d_HM_hour_30 (by decide) (fun c_30_2 => ?_) (fun c_30_2 => ?_)
      · skip
        exact absurd c_30_2 (by decide)
      · skip
        refine lv_iconst (v := nI 1) hx hb d_HM_hour_33 (by decide) ?_
        refine lv_goto (tgt := 38) hx hb d_HM_hour_34 (by decide) ?_
        refine b_gov (wr := [(x0, .inr (6, [.ref pl, .ref ho, .ref rs, .ref to, .ref wt, .ref bo])), (pl, .inr (4, [.ref ho, .ref sa, .int (nI ov), .int (nI sta), .int (nI stl), .ref se, .ref ab, .ref he, .ref po, .ref sx, .ref be]))]) (b_runS (wc := []) (As := [.int (nI 1)]) (rest := []) hm hw (va_cwS 1 hts (gS2 uw_of k_301 k_299 k_300 k_1) rfl rfl rfl (by decide +kernel) ⟨by decide, by decide⟩) (c_HM_requireArgument l D k _ ) [] (by decide) rfl rfl hl.1 rfl (Nat.le_of_ble_eq_true rfl) d_HM_hour_38 ⟨by decide, by decide⟩) hw [] [0, 1] rfl rfl (by decide) (by decide) (fun _ H locs _ hw => ?_)
        have hw : bW (gU D k) A s H locs [(x0, .inr (6, [.ref pl, .ref ho, .ref rs, .ref to, .ref wt, .ref bo])), (pl, .inr (4, [.ref ho, .ref sa, .int (nI ov), .int (nI sta), .int (nI stl), .ref se, .ref ab, .ref he, .ref po, .ref sx, .ref be]))] := hw.sub [0, 1] (by decide) rfl
        refine lv_iload_n hx hb d_HM_hour_41 rfl (lv_at hl 1 rfl) ?_
        refine lv_aload_n hx hb d_HM_hour_42 rfl (lv_at hl 0 rfl) ?_
        refine b_get (T := F_HM) hm hw 0 rfl rfl (fun w h => uw_of w (u_HM w h)) 0 (by decide) (uw_of _ k_204) rfl d_HM_hour_43 ?_
        refine b_getN (T := F_Pl) hm hw 1 rfl rfl (fun w h => uw_of w (u_Pl w h)) 2 (by decide) (k_149) rfl d_HM_hour_46 ?_
        refine lv_icmp_lt (tgt := 56) hx hb d_HM_hour_49 (by decide) (fun c_49_3 => ?_) (fun c_49_3 => ?_)
        · skip
          have h_49_3 : h < ov := ylt c_49_3 (by omega) (by omega)
          refine lv_iconst (v := nI 0) hx hb d_HM_hour_56 (by decide) ?_
          exact b_thru (wc := []) (wr := [(x0, .inr (6, [.ref pl, .ref ho, .ref rs, .ref to, .ref wt, .ref bo])), (pl, .inr (4, [.ref ho, .ref sa, .int (nI ov), .int (nI sta), .int (nI stl), .ref se, .ref ab, .ref he, .ref po, .ref sx, .ref be]))]) (w1 := []) hm hnh hw [] [0, 1] rfl rfl (by decide) (by decide) (t_runS (As := [.int (nI 0)]) (rest := []) hm (ct_HM_requireState l htr D k _) (va_cwS 1 hts (gS2 uw_of k_371 k_369 k_370 k_1) rfl rfl rfl (by decide +kernel) ⟨by decide, by decide⟩) ⟨b_blindE, b_preE hw hE [] (by decide) rfl⟩ rfl hl.1 rfl (Nat.le_of_ble_eq_true rfl) d_HM_hour_57 ⟨by decide, by decide⟩) (fun _ _ _ h => h) rfl rfl rfl
        · skip
          have h_49_3 : ov ≤ h := ygeN c_49_3 (by omega) (by omega)
          refine lv_iconst (v := nI 1) hx hb d_HM_hour_52 (by decide) ?_
          refine lv_goto (tgt := 57) hx hb d_HM_hour_53 (by decide) ?_
          exfalso; omega

set_option maxHeartbeats 4000000 in
set_option maxRecDepth 100000 in
theorem ct_HM_hour21 (l : Launch) (htr : l.stackTraces = false) (D : va_G) (k : Nat → ClassId) (sz : Nat) (x0 ho pl rs to wt bo se ab he po sx be sa ov sta stl h : Nat) (y : Nat) (hy : y ≤ 1000) (hh : h < 36) (hov : h < ov) (ho36 : ov ≤ 36) : MetT l y_HM_hour (uw y_HM_hour b_HM_hour 5 (some .int)) (rU 7 1 6) (va_Pc [.ref x0, .int (nI h), .int (nI 1), .int (nI y)] (bPE (gU D k) [(x0, .inr (6, [.ref pl, .ref ho, .ref rs, .ref to, .ref wt, .ref bo])), (pl, .inr (4, [.ref ho, .ref sa, .int (nI ov), .int (nI sta), .int (nI stl), .ref se, .ref ab, .ref he, .ref po, .ref sx, .ref be]))] sz)) (bQt sIS (bQ (gU D k) (va_A [(x0, .inr (6, [.ref pl, .ref ho, .ref rs, .ref to, .ref wt, .ref bo])), (pl, .inr (4, [.ref ho, .ref sa, .int (nI ov), .int (nI sta), .int (nI stl), .ref se, .ref ab, .ref he, .ref po, .ref sx, .ref be]))] sz) [(x0, .inr (6, [.ref pl, .ref ho, .ref rs, .ref to, .ref wt, .ref bo])), (pl, .inr (4, [.ref ho, .ref sa, .int (nI ov), .int (nI sta), .int (nI stl), .ref se, .ref ab, .ref he, .ref po, .ref sx, .ref be]))]) (va_A [(x0, .inr (6, [.ref pl, .ref ho, .ref rs, .ref to, .ref wt, .ref bo])), (pl, .inr (4, [.ref ho, .ref sa, .int (nI ov), .int (nI sta), .int (nI stl), .ref se, .ref ab, .ref he, .ref po, .ref sx, .ref be]))] sz)) 1 6 (va_A [(x0, .inr (6, [.ref pl, .ref ho, .ref rs, .ref to, .ref wt, .ref bo])), (pl, .inr (4, [.ref ho, .ref sa, .int (nI ov), .int (nI sta), .int (nI stl), .ref se, .ref ab, .ref he, .ref po, .ref sx, .ref be]))] sz) := by
  refine b_startT (y := y_HM_hour) (maxL := 5) (ret := (some .int)) (cc := b_HM_hour) (ws' := ut) (rm := rU 7 1 6) (av := [.ref x0, .int (nI h), .int (nI 1), .int (nI y)]) (g := gU D k) (ws := [(x0, .inr (6, [.ref pl, .ref ho, .ref rs, .ref to, .ref wt, .ref bo])), (pl, .inr (4, [.ref ho, .ref sa, .int (nI ov), .int (nI sta), .int (nI stl), .ref se, .ref ab, .ref he, .ref po, .ref sx, .ref be]))]) (sz := sz) (Qc := fun A => bQt sIS (bQ (gU D k) A [(x0, .inr (6, [.ref pl, .ref ho, .ref rs, .ref to, .ref wt, .ref bo])), (pl, .inr (4, [.ref ho, .ref sa, .int (nI ov), .int (nI sta), .int (nI stl), .ref se, .ref ab, .ref he, .ref po, .ref sx, .ref be]))]) A) (by decide +kernel) (Nat.le_of_ble_eq_true rfl) ?_
  intro p e s m below meth c A hm hnh hE hw ls hl
  have hl : lv_has ls 5 [(0, .ref x0), (1, .int (nI h)), (2, .int (nI 1)), (3, .int (nI y))] := hl
  have hx := hm.1
  have hb := hm.2.1
  have hown := hm.2.2.2.2.1
  have hts := hm.2.2.2.2.2.1
  refine lv_iload_n hx hb d_HM_hour_0 rfl (lv_at hl 1 rfl) ?_
  refine b_goi (wr := [(x0, .inr (6, [.ref pl, .ref ho, .ref rs, .ref to, .ref wt, .ref bo])), (pl, .inr (4, [.ref ho, .ref sa, .int (nI ov), .int (nI sta), .int (nI stl), .ref se, .ref ab, .ref he, .ref po, .ref sx, .ref be]))]) (b_runS (wc := []) (As := [.int (nI h)]) (rest := []) hm hw (va_cwS 1 hts (gS2 uw_of k_465 k_463 k_464 k_1) rfl rfl rfl (by decide +kernel) ⟨by decide, by decide⟩) (c_HM_isHour l D k _ (nI h)) [] (by decide) rfl rfl hl.1 rfl (Nat.le_of_ble_eq_true rfl) d_HM_hour_1 ⟨by decide, by decide⟩) hw [] [0, 1] rfl rfl (by decide) (by decide) (fun r1 _ H locs hp1 hw => ?_)
  have hw : bW (gU D k) A s H locs [(x0, .inr (6, [.ref pl, .ref ho, .ref rs, .ref to, .ref wt, .ref bo])), (pl, .inr (4, [.ref ho, .ref sa, .int (nI ov), .int (nI sta), .int (nI stl), .ref se, .ref ab, .ref he, .ref po, .ref sx, .ref be]))] := hw.sub [0, 1] (by decide) rfl
  have hr1 : r1 = 1 := by rcases hp1 with ⟨q, _⟩ | ⟨_, q⟩; exact q; exact absurd (in_n (by omega) (by omega) (by omega)) q
  refine b_ti (y := nI 1) hr1 ?_
  refine lv_if_eq (tgt := 37) hx hb d_HM_hour_4 (by decide) (fun c_4_0 => ?_) (fun c_4_0 => ?_)
  · skip
    exact absurd c_4_0 (by decide)
  · skip
    refine lv_iload_n hx hb d_HM_hour_7 rfl (lv_at hl 2 rfl) ?_
    refine lv_iconst (v := nI 0) hx hb d_HM_hour_8 (by decide) ?_
    refine lv_iconst (v := nI 2) hx hb d_HM_hour_9 (by decide) ?_
    refine b_goi (wr := [(x0, .inr (6, [.ref pl, .ref ho, .ref rs, .ref to, .ref wt, .ref bo])), (pl, .inr (4, [.ref ho, .ref sa, .int (nI ov), .int (nI sta), .int (nI stl), .ref se, .ref ab, .ref he, .ref po, .ref sx, .ref be]))]) (b_runS (wc := []) (As := [.int (nI 1), .int (nI 0), .int (nI 2)]) (rest := []) hm hw (va_cwS 3 hts (gS2 uw_of k_297 k_295 k_296 k_1) rfl rfl rfl (by decide +kernel) ⟨by decide, by decide⟩) (c_HM_isWithin l D k _ (nI 1) (nI 0) (nI 2)) [] (by decide) rfl rfl hl.1 rfl (Nat.le_of_ble_eq_true rfl) d_HM_hour_10 ⟨by decide, by decide⟩) hw [] [0, 1] rfl rfl (by decide) (by decide) (fun r10 _ H locs hp10 hw => ?_)
    have hw : bW (gU D k) A s H locs [(x0, .inr (6, [.ref pl, .ref ho, .ref rs, .ref to, .ref wt, .ref bo])), (pl, .inr (4, [.ref ho, .ref sa, .int (nI ov), .int (nI sta), .int (nI stl), .ref se, .ref ab, .ref he, .ref po, .ref sx, .ref be]))] := hw.sub [0, 1] (by decide) rfl
    have hr10 : r10 = 1 := by rcases hp10 with ⟨q, _⟩ | ⟨_, q⟩; exact q; exact absurd (in_n (by omega) (by omega) (by omega)) q
    refine b_ti (y := nI 1) hr10 ?_
    refine lv_if_eq (tgt := 37) hx hb d_HM_hour_13 (by decide) (fun c_13_1 => ?_) (fun c_13_1 => ?_)
    · skip
      exact absurd c_13_1 (by decide)
    · skip
      refine lv_iload_n hx hb d_HM_hour_16 rfl (lv_at hl 3 rfl) ?_
      obtain ⟨tl, hZtl, hTtl⟩ := hw.2.2.2.2.2.2.2.1
      refine va_gets hx hb hZtl hw.2.2.1 hown (hts _ (uw_of _ k_466)) (fun _ h => h) d_HM_hour_17 ?_
      refine lv_iload_n hx hb d_HM_hour_20 rfl (lv_at hl 2 rfl) ?_
      refine va_ti hx hb hTtl hw.2.2.1 (vp_in_nI (n := 1) (N := 3) (by omega) (by omega)) (lf_at (w := 1) (by omega)) d_HM_hour_21 ?_
      obtain ⟨tm, hZtm, hTtm⟩ := hw.2.2.2.2.2.2.2.2
      refine va_gets hx hb hZtm hw.2.2.1 hown (hts _ (uw_of _ k_468)) (fun _ h => h) d_HM_hour_22 ?_
      refine lv_iload_n hx hb d_HM_hour_25 rfl (lv_at hl 2 rfl) ?_
      refine va_ti hx hb hTtm hw.2.2.1 (vp_in_nI (n := 1) (N := 3) (by omega) (by omega)) (mf_at (w := 1) (by omega)) d_HM_hour_26 ?_
      refine b_goi (wr := [(x0, .inr (6, [.ref pl, .ref ho, .ref rs, .ref to, .ref wt, .ref bo])), (pl, .inr (4, [.ref ho, .ref sa, .int (nI ov), .int (nI sta), .int (nI stl), .ref se, .ref ab, .ref he, .ref po, .ref sx, .ref be]))]) (b_runS (wc := []) (As := [.int (nI y), .int (lfI 1), .int (mfI 1)]) (rest := []) hm hw (va_cwS 3 hts (gS2 uw_of k_297 k_295 k_296 k_1) rfl rfl rfl (by decide +kernel) ⟨by decide, by decide⟩) (c_HM_isWithin l D k _ (nI y) (lfI 1) (mfI 1)) [] (by decide) rfl rfl hl.1 rfl (Nat.le_of_ble_eq_true rfl) d_HM_hour_27 ⟨by decide, by decide⟩) hw [] [0, 1] rfl rfl (by decide) (by decide) (fun r27 _ H locs hp27 hw => ?_)
      have hw : bW (gU D k) A s H locs [(x0, .inr (6, [.ref pl, .ref ho, .ref rs, .ref to, .ref wt, .ref bo])), (pl, .inr (4, [.ref ho, .ref sa, .int (nI ov), .int (nI sta), .int (nI stl), .ref se, .ref ab, .ref he, .ref po, .ref sx, .ref be]))] := hw.sub [0, 1] (by decide) rfl
      have hr27 : r27 = 1 := by rcases hp27 with ⟨q, _⟩ | ⟨_, q⟩; exact q; exact absurd (in_n (a := 0) (c := 1000) (by omega) (by omega) (by omega)) q
      refine b_ti (y := nI 1) hr27 ?_
      refine lv_if_eq (tgt := 37) hx hb d_HM_hour_30 (by decide) (fun c_30_2 => ?_) (fun c_30_2 => ?_)
      · skip
        exact absurd c_30_2 (by decide)
      · skip
        refine lv_iconst (v := nI 1) hx hb d_HM_hour_33 (by decide) ?_
        refine lv_goto (tgt := 38) hx hb d_HM_hour_34 (by decide) ?_
        refine b_gov (wr := [(x0, .inr (6, [.ref pl, .ref ho, .ref rs, .ref to, .ref wt, .ref bo])), (pl, .inr (4, [.ref ho, .ref sa, .int (nI ov), .int (nI sta), .int (nI stl), .ref se, .ref ab, .ref he, .ref po, .ref sx, .ref be]))]) (b_runS (wc := []) (As := [.int (nI 1)]) (rest := []) hm hw (va_cwS 1 hts (gS2 uw_of k_301 k_299 k_300 k_1) rfl rfl rfl (by decide +kernel) ⟨by decide, by decide⟩) (c_HM_requireArgument l D k _ ) [] (by decide) rfl rfl hl.1 rfl (Nat.le_of_ble_eq_true rfl) d_HM_hour_38 ⟨by decide, by decide⟩) hw [] [0, 1] rfl rfl (by decide) (by decide) (fun _ H locs _ hw => ?_)
        have hw : bW (gU D k) A s H locs [(x0, .inr (6, [.ref pl, .ref ho, .ref rs, .ref to, .ref wt, .ref bo])), (pl, .inr (4, [.ref ho, .ref sa, .int (nI ov), .int (nI sta), .int (nI stl), .ref se, .ref ab, .ref he, .ref po, .ref sx, .ref be]))] := hw.sub [0, 1] (by decide) rfl
        refine lv_iload_n hx hb d_HM_hour_41 rfl (lv_at hl 1 rfl) ?_
        refine lv_aload_n hx hb d_HM_hour_42 rfl (lv_at hl 0 rfl) ?_
        refine b_get (T := F_HM) hm hw 0 rfl rfl (fun w h => uw_of w (u_HM w h)) 0 (by decide) (uw_of _ k_204) rfl d_HM_hour_43 ?_
        refine b_getN (T := F_Pl) hm hw 1 rfl rfl (fun w h => uw_of w (u_Pl w h)) 2 (by decide) (k_149) rfl d_HM_hour_46 ?_
        refine lv_icmp_lt (tgt := 56) hx hb d_HM_hour_49 (by decide) (fun c_49_3 => ?_) (fun c_49_3 => ?_)
        · skip
          have h_49_3 : h < ov := ylt c_49_3 (by omega) (by omega)
          refine lv_iconst (v := nI 0) hx hb d_HM_hour_56 (by decide) ?_
          exact b_thru (wc := []) (wr := [(x0, .inr (6, [.ref pl, .ref ho, .ref rs, .ref to, .ref wt, .ref bo])), (pl, .inr (4, [.ref ho, .ref sa, .int (nI ov), .int (nI sta), .int (nI stl), .ref se, .ref ab, .ref he, .ref po, .ref sx, .ref be]))]) (w1 := []) hm hnh hw [] [0, 1] rfl rfl (by decide) (by decide) (t_runS (As := [.int (nI 0)]) (rest := []) hm (ct_HM_requireState l htr D k _) (va_cwS 1 hts (gS2 uw_of k_371 k_369 k_370 k_1) rfl rfl rfl (by decide +kernel) ⟨by decide, by decide⟩) ⟨b_blindE, b_preE hw hE [] (by decide) rfl⟩ rfl hl.1 rfl (Nat.le_of_ble_eq_true rfl) d_HM_hour_57 ⟨by decide, by decide⟩) (fun _ _ _ h => h) rfl rfl rfl
        · skip
          have h_49_3 : ov ≤ h := ygeN c_49_3 (by omega) (by omega)
          refine lv_iconst (v := nI 1) hx hb d_HM_hour_52 (by decide) ?_
          refine lv_goto (tgt := 57) hx hb d_HM_hour_53 (by decide) ?_
          exfalso; omega

set_option maxHeartbeats 4000000 in
set_option maxRecDepth 100000 in
theorem ct_HM_hour22 (l : Launch) (htr : l.stackTraces = false) (D : va_G) (k : Nat → ClassId) (sz : Nat) (x0 ho pl rs to wt bo se ab he po sx be sa ov sta stl h : Nat) (y : Nat) (hy : y ≤ 100000) (hh : h < 36) (hov : h < ov) (ho36 : ov ≤ 36) : MetT l y_HM_hour (uw y_HM_hour b_HM_hour 5 (some .int)) (rU 7 1 6) (va_Pc [.ref x0, .int (nI h), .int (nI 2), .int (nI y)] (bPE (gU D k) [(x0, .inr (6, [.ref pl, .ref ho, .ref rs, .ref to, .ref wt, .ref bo])), (pl, .inr (4, [.ref ho, .ref sa, .int (nI ov), .int (nI sta), .int (nI stl), .ref se, .ref ab, .ref he, .ref po, .ref sx, .ref be]))] sz)) (bQt sIS (bQ (gU D k) (va_A [(x0, .inr (6, [.ref pl, .ref ho, .ref rs, .ref to, .ref wt, .ref bo])), (pl, .inr (4, [.ref ho, .ref sa, .int (nI ov), .int (nI sta), .int (nI stl), .ref se, .ref ab, .ref he, .ref po, .ref sx, .ref be]))] sz) [(x0, .inr (6, [.ref pl, .ref ho, .ref rs, .ref to, .ref wt, .ref bo])), (pl, .inr (4, [.ref ho, .ref sa, .int (nI ov), .int (nI sta), .int (nI stl), .ref se, .ref ab, .ref he, .ref po, .ref sx, .ref be]))]) (va_A [(x0, .inr (6, [.ref pl, .ref ho, .ref rs, .ref to, .ref wt, .ref bo])), (pl, .inr (4, [.ref ho, .ref sa, .int (nI ov), .int (nI sta), .int (nI stl), .ref se, .ref ab, .ref he, .ref po, .ref sx, .ref be]))] sz)) 1 6 (va_A [(x0, .inr (6, [.ref pl, .ref ho, .ref rs, .ref to, .ref wt, .ref bo])), (pl, .inr (4, [.ref ho, .ref sa, .int (nI ov), .int (nI sta), .int (nI stl), .ref se, .ref ab, .ref he, .ref po, .ref sx, .ref be]))] sz) := by
  refine b_startT (y := y_HM_hour) (maxL := 5) (ret := (some .int)) (cc := b_HM_hour) (ws' := ut) (rm := rU 7 1 6) (av := [.ref x0, .int (nI h), .int (nI 2), .int (nI y)]) (g := gU D k) (ws := [(x0, .inr (6, [.ref pl, .ref ho, .ref rs, .ref to, .ref wt, .ref bo])), (pl, .inr (4, [.ref ho, .ref sa, .int (nI ov), .int (nI sta), .int (nI stl), .ref se, .ref ab, .ref he, .ref po, .ref sx, .ref be]))]) (sz := sz) (Qc := fun A => bQt sIS (bQ (gU D k) A [(x0, .inr (6, [.ref pl, .ref ho, .ref rs, .ref to, .ref wt, .ref bo])), (pl, .inr (4, [.ref ho, .ref sa, .int (nI ov), .int (nI sta), .int (nI stl), .ref se, .ref ab, .ref he, .ref po, .ref sx, .ref be]))]) A) (by decide +kernel) (Nat.le_of_ble_eq_true rfl) ?_
  intro p e s m below meth c A hm hnh hE hw ls hl
  have hl : lv_has ls 5 [(0, .ref x0), (1, .int (nI h)), (2, .int (nI 2)), (3, .int (nI y))] := hl
  have hx := hm.1
  have hb := hm.2.1
  have hown := hm.2.2.2.2.1
  have hts := hm.2.2.2.2.2.1
  refine lv_iload_n hx hb d_HM_hour_0 rfl (lv_at hl 1 rfl) ?_
  refine b_goi (wr := [(x0, .inr (6, [.ref pl, .ref ho, .ref rs, .ref to, .ref wt, .ref bo])), (pl, .inr (4, [.ref ho, .ref sa, .int (nI ov), .int (nI sta), .int (nI stl), .ref se, .ref ab, .ref he, .ref po, .ref sx, .ref be]))]) (b_runS (wc := []) (As := [.int (nI h)]) (rest := []) hm hw (va_cwS 1 hts (gS2 uw_of k_465 k_463 k_464 k_1) rfl rfl rfl (by decide +kernel) ⟨by decide, by decide⟩) (c_HM_isHour l D k _ (nI h)) [] (by decide) rfl rfl hl.1 rfl (Nat.le_of_ble_eq_true rfl) d_HM_hour_1 ⟨by decide, by decide⟩) hw [] [0, 1] rfl rfl (by decide) (by decide) (fun r1 _ H locs hp1 hw => ?_)
  have hw : bW (gU D k) A s H locs [(x0, .inr (6, [.ref pl, .ref ho, .ref rs, .ref to, .ref wt, .ref bo])), (pl, .inr (4, [.ref ho, .ref sa, .int (nI ov), .int (nI sta), .int (nI stl), .ref se, .ref ab, .ref he, .ref po, .ref sx, .ref be]))] := hw.sub [0, 1] (by decide) rfl
  have hr1 : r1 = 1 := by rcases hp1 with ⟨q, _⟩ | ⟨_, q⟩; exact q; exact absurd (in_n (by omega) (by omega) (by omega)) q
  refine b_ti (y := nI 1) hr1 ?_
  refine lv_if_eq (tgt := 37) hx hb d_HM_hour_4 (by decide) (fun c_4_0 => ?_) (fun c_4_0 => ?_)
  · skip
    exact absurd c_4_0 (by decide)
  · skip
    refine lv_iload_n hx hb d_HM_hour_7 rfl (lv_at hl 2 rfl) ?_
    refine lv_iconst (v := nI 0) hx hb d_HM_hour_8 (by decide) ?_
    refine lv_iconst (v := nI 2) hx hb d_HM_hour_9 (by decide) ?_
    refine b_goi (wr := [(x0, .inr (6, [.ref pl, .ref ho, .ref rs, .ref to, .ref wt, .ref bo])), (pl, .inr (4, [.ref ho, .ref sa, .int (nI ov), .int (nI sta), .int (nI stl), .ref se, .ref ab, .ref he, .ref po, .ref sx, .ref be]))]) (b_runS (wc := []) (As := [.int (nI 2), .int (nI 0), .int (nI 2)]) (rest := []) hm hw (va_cwS 3 hts (gS2 uw_of k_297 k_295 k_296 k_1) rfl rfl rfl (by decide +kernel) ⟨by decide, by decide⟩) (c_HM_isWithin l D k _ (nI 2) (nI 0) (nI 2)) [] (by decide) rfl rfl hl.1 rfl (Nat.le_of_ble_eq_true rfl) d_HM_hour_10 ⟨by decide, by decide⟩) hw [] [0, 1] rfl rfl (by decide) (by decide) (fun r10 _ H locs hp10 hw => ?_)
    have hw : bW (gU D k) A s H locs [(x0, .inr (6, [.ref pl, .ref ho, .ref rs, .ref to, .ref wt, .ref bo])), (pl, .inr (4, [.ref ho, .ref sa, .int (nI ov), .int (nI sta), .int (nI stl), .ref se, .ref ab, .ref he, .ref po, .ref sx, .ref be]))] := hw.sub [0, 1] (by decide) rfl
    have hr10 : r10 = 1 := by rcases hp10 with ⟨q, _⟩ | ⟨_, q⟩; exact q; exact absurd (in_n (by omega) (by omega) (by omega)) q
    refine b_ti (y := nI 1) hr10 ?_
    refine lv_if_eq (tgt := 37) hx hb d_HM_hour_13 (by decide) (fun c_13_1 => ?_) (fun c_13_1 => ?_)
    · skip
      exact absurd c_13_1 (by decide)
    · skip
      refine lv_iload_n hx hb d_HM_hour_16 rfl (lv_at hl 3 rfl) ?_
      obtain ⟨tl, hZtl, hTtl⟩ := hw.2.2.2.2.2.2.2.1
      refine va_gets hx hb hZtl hw.2.2.1 hown (hts _ (uw_of _ k_466)) (fun _ h => h) d_HM_hour_17 ?_
      refine lv_iload_n hx hb d_HM_hour_20 rfl (lv_at hl 2 rfl) ?_
      refine va_ti hx hb hTtl hw.2.2.1 (vp_in_nI (n := 2) (N := 3) (by omega) (by omega)) (lf_at (w := 2) (by omega)) d_HM_hour_21 ?_
      obtain ⟨tm, hZtm, hTtm⟩ := hw.2.2.2.2.2.2.2.2
      refine va_gets hx hb hZtm hw.2.2.1 hown (hts _ (uw_of _ k_468)) (fun _ h => h) d_HM_hour_22 ?_
      refine lv_iload_n hx hb d_HM_hour_25 rfl (lv_at hl 2 rfl) ?_
      refine va_ti hx hb hTtm hw.2.2.1 (vp_in_nI (n := 2) (N := 3) (by omega) (by omega)) (mf_at (w := 2) (by omega)) d_HM_hour_26 ?_
      refine b_goi (wr := [(x0, .inr (6, [.ref pl, .ref ho, .ref rs, .ref to, .ref wt, .ref bo])), (pl, .inr (4, [.ref ho, .ref sa, .int (nI ov), .int (nI sta), .int (nI stl), .ref se, .ref ab, .ref he, .ref po, .ref sx, .ref be]))]) (b_runS (wc := []) (As := [.int (nI y), .int (lfI 2), .int (mfI 2)]) (rest := []) hm hw (va_cwS 3 hts (gS2 uw_of k_297 k_295 k_296 k_1) rfl rfl rfl (by decide +kernel) ⟨by decide, by decide⟩) (c_HM_isWithin l D k _ (nI y) (lfI 2) (mfI 2)) [] (by decide) rfl rfl hl.1 rfl (Nat.le_of_ble_eq_true rfl) d_HM_hour_27 ⟨by decide, by decide⟩) hw [] [0, 1] rfl rfl (by decide) (by decide) (fun r27 _ H locs hp27 hw => ?_)
      have hw : bW (gU D k) A s H locs [(x0, .inr (6, [.ref pl, .ref ho, .ref rs, .ref to, .ref wt, .ref bo])), (pl, .inr (4, [.ref ho, .ref sa, .int (nI ov), .int (nI sta), .int (nI stl), .ref se, .ref ab, .ref he, .ref po, .ref sx, .ref be]))] := hw.sub [0, 1] (by decide) rfl
      have hr27 : r27 = 1 := by rcases hp27 with ⟨q, _⟩ | ⟨_, q⟩; exact q; exact absurd (in_n (a := 0) (c := 100000) (by omega) (by omega) (by omega)) q
      refine b_ti (y := nI 1) hr27 ?_
      refine lv_if_eq (tgt := 37) hx hb d_HM_hour_30 (by decide) (fun c_30_2 => ?_) (fun c_30_2 => ?_)
      · skip
        exact absurd c_30_2 (by decide)
      · skip
        refine lv_iconst (v := nI 1) hx hb d_HM_hour_33 (by decide) ?_
        refine lv_goto (tgt := 38) hx hb d_HM_hour_34 (by decide) ?_
        refine b_gov (wr := [(x0, .inr (6, [.ref pl, .ref ho, .ref rs, .ref to, .ref wt, .ref bo])), (pl, .inr (4, [.ref ho, .ref sa, .int (nI ov), .int (nI sta), .int (nI stl), .ref se, .ref ab, .ref he, .ref po, .ref sx, .ref be]))]) (b_runS (wc := []) (As := [.int (nI 1)]) (rest := []) hm hw (va_cwS 1 hts (gS2 uw_of k_301 k_299 k_300 k_1) rfl rfl rfl (by decide +kernel) ⟨by decide, by decide⟩) (c_HM_requireArgument l D k _ ) [] (by decide) rfl rfl hl.1 rfl (Nat.le_of_ble_eq_true rfl) d_HM_hour_38 ⟨by decide, by decide⟩) hw [] [0, 1] rfl rfl (by decide) (by decide) (fun _ H locs _ hw => ?_)
        have hw : bW (gU D k) A s H locs [(x0, .inr (6, [.ref pl, .ref ho, .ref rs, .ref to, .ref wt, .ref bo])), (pl, .inr (4, [.ref ho, .ref sa, .int (nI ov), .int (nI sta), .int (nI stl), .ref se, .ref ab, .ref he, .ref po, .ref sx, .ref be]))] := hw.sub [0, 1] (by decide) rfl
        refine lv_iload_n hx hb d_HM_hour_41 rfl (lv_at hl 1 rfl) ?_
        refine lv_aload_n hx hb d_HM_hour_42 rfl (lv_at hl 0 rfl) ?_
        refine b_get (T := F_HM) hm hw 0 rfl rfl (fun w h => uw_of w (u_HM w h)) 0 (by decide) (uw_of _ k_204) rfl d_HM_hour_43 ?_
        refine b_getN (T := F_Pl) hm hw 1 rfl rfl (fun w h => uw_of w (u_Pl w h)) 2 (by decide) (k_149) rfl d_HM_hour_46 ?_
        refine lv_icmp_lt (tgt := 56) hx hb d_HM_hour_49 (by decide) (fun c_49_3 => ?_) (fun c_49_3 => ?_)
        · skip
          have h_49_3 : h < ov := ylt c_49_3 (by omega) (by omega)
          refine lv_iconst (v := nI 0) hx hb d_HM_hour_56 (by decide) ?_
          exact b_thru (wc := []) (wr := [(x0, .inr (6, [.ref pl, .ref ho, .ref rs, .ref to, .ref wt, .ref bo])), (pl, .inr (4, [.ref ho, .ref sa, .int (nI ov), .int (nI sta), .int (nI stl), .ref se, .ref ab, .ref he, .ref po, .ref sx, .ref be]))]) (w1 := []) hm hnh hw [] [0, 1] rfl rfl (by decide) (by decide) (t_runS (As := [.int (nI 0)]) (rest := []) hm (ct_HM_requireState l htr D k _) (va_cwS 1 hts (gS2 uw_of k_371 k_369 k_370 k_1) rfl rfl rfl (by decide +kernel) ⟨by decide, by decide⟩) ⟨b_blindE, b_preE hw hE [] (by decide) rfl⟩ rfl hl.1 rfl (Nat.le_of_ble_eq_true rfl) d_HM_hour_57 ⟨by decide, by decide⟩) (fun _ _ _ h => h) rfl rfl rfl
        · skip
          have h_49_3 : ov ≤ h := ygeN c_49_3 (by omega) (by omega)
          refine lv_iconst (v := nI 1) hx hb d_HM_hour_52 (by decide) ?_
          refine lv_goto (tgt := 57) hx hb d_HM_hour_53 (by decide) ?_
          exfalso; omega

set_option maxHeartbeats 4000000 in
set_option maxRecDepth 100000 in
theorem ct_HM_out1 (l : Launch) (htr : l.stackTraces = false) (D : va_G) (k : Nat → ClassId) (sz : Nat) (x0 ho pl rs to wt bo ma fa cn : Nat) (hc : cn ≤ 3) (u0 h is : Int32) (hv9 : ¬ ((nI 0 ≤ u0 ∧ u0 < nI cn) ∧ (nI 0 ≤ h ∧ h ≤ nI 35))) : MetT l y_HM_out (uw y_HM_out b_HM_out 6 (some .boolean)) (rU 7 1 6) (va_Pc [.ref x0, .int u0, .int h, .int is] (bPE (gU D k) [(x0, .inr (6, [.ref pl, .ref ho, .ref rs, .ref to, .ref wt, .ref bo])), (ho, .inr (1, [.ref ma, .int (nI cn), .ref fa]))] sz)) (bQt sIA (bQ (gU D k) (va_A [(x0, .inr (6, [.ref pl, .ref ho, .ref rs, .ref to, .ref wt, .ref bo])), (ho, .inr (1, [.ref ma, .int (nI cn), .ref fa]))] sz) [(x0, .inr (6, [.ref pl, .ref ho, .ref rs, .ref to, .ref wt, .ref bo])), (ho, .inr (1, [.ref ma, .int (nI cn), .ref fa]))]) (va_A [(x0, .inr (6, [.ref pl, .ref ho, .ref rs, .ref to, .ref wt, .ref bo])), (ho, .inr (1, [.ref ma, .int (nI cn), .ref fa]))] sz)) 1 6 (va_A [(x0, .inr (6, [.ref pl, .ref ho, .ref rs, .ref to, .ref wt, .ref bo])), (ho, .inr (1, [.ref ma, .int (nI cn), .ref fa]))] sz) := by
  refine b_startT (y := y_HM_out) (maxL := 6) (ret := (some .boolean)) (cc := b_HM_out) (ws' := ut) (rm := rU 7 1 6) (av := [.ref x0, .int u0, .int h, .int is]) (g := gU D k) (ws := [(x0, .inr (6, [.ref pl, .ref ho, .ref rs, .ref to, .ref wt, .ref bo])), (ho, .inr (1, [.ref ma, .int (nI cn), .ref fa]))]) (sz := sz) (Qc := fun A => bQt sIA (bQ (gU D k) A [(x0, .inr (6, [.ref pl, .ref ho, .ref rs, .ref to, .ref wt, .ref bo])), (ho, .inr (1, [.ref ma, .int (nI cn), .ref fa]))]) A) (by decide +kernel) (Nat.le_of_ble_eq_true rfl) ?_
  intro p e s m below meth c A hm hnh hE hw ls hl
  have hl : lv_has ls 6 [(0, .ref x0), (1, .int u0), (2, .int h), (3, .int is)] := hl
  have hx := hm.1
  have hb := hm.2.1
  have hown := hm.2.2.2.2.1
  have hts := hm.2.2.2.2.2.1
  refine lv_aload_n hx hb d_HM_out_0 rfl (lv_at hl 0 rfl) ?_
  refine lv_iload_n hx hb d_HM_out_1 rfl (lv_at hl 1 rfl) ?_
  refine b_goi (wr := []) (b_runV (wc := [(x0, .inr (6, [.ref pl, .ref ho, .ref rs, .ref to, .ref wt, .ref bo])), (ho, .inr (1, [.ref ma, .int (nI cn), .ref fa]))]) (As := [.int u0]) (rest := []) (q0 := 0) hm hw (cwV 1 hts (gV uw_of k_442 k_439 k_441 (mp 10 rfl rfl) k_1) rfl rfl rfl (by decide +kernel) ⟨by decide, by decide⟩) (c_HM_isMachine l D k _ x0 ho pl rs to wt bo ma fa cn u0) [0, 1] (by decide) rfl rfl rfl rfl hl.1 rfl (Nat.le_of_ble_eq_true rfl) d_HM_out_2 ⟨by decide, by decide⟩) hw [0, 1] [] rfl rfl (by decide) (by decide) (fun r2 _ H locs hp2 hw => ?_)
  have hw : bW (gU D k) A s H locs [(x0, .inr (6, [.ref pl, .ref ho, .ref rs, .ref to, .ref wt, .ref bo])), (ho, .inr (1, [.ref ma, .int (nI cn), .ref fa]))] := hw.sub [0, 1] (by decide) rfl
  rcases hp2 with ⟨hr2, hp2⟩ | ⟨hr2, hp2⟩
  · skip
    refine b_ti (y := nI 1) hr2 ?_
    refine lv_if_eq (tgt := 19) hx hb d_HM_out_5 (by decide) (fun c_5_0 => ?_) (fun c_5_0 => ?_)
    · skip
      exact absurd c_5_0 (by decide)
    · skip
      refine lv_iload_n hx hb d_HM_out_8 rfl (lv_at hl 2 rfl) ?_
      refine b_goi (wr := [(x0, .inr (6, [.ref pl, .ref ho, .ref rs, .ref to, .ref wt, .ref bo])), (ho, .inr (1, [.ref ma, .int (nI cn), .ref fa]))]) (b_runS (wc := []) (As := [.int h]) (rest := []) hm hw (va_cwS 1 hts (gS2 uw_of k_465 k_463 k_464 k_1) rfl rfl rfl (by decide +kernel) ⟨by decide, by decide⟩) (c_HM_isHour l D k _ h) [] (by decide) rfl rfl hl.1 rfl (Nat.le_of_ble_eq_true rfl) d_HM_out_9 ⟨by decide, by decide⟩) hw [] [0, 1] rfl rfl (by decide) (by decide) (fun r9 _ H locs hp9 hw => ?_)
      have hw : bW (gU D k) A s H locs [(x0, .inr (6, [.ref pl, .ref ho, .ref rs, .ref to, .ref wt, .ref bo])), (ho, .inr (1, [.ref ma, .int (nI cn), .ref fa]))] := hw.sub [0, 1] (by decide) rfl
      rcases hp9 with ⟨hr9, hp9⟩ | ⟨hr9, hp9⟩
      · skip
        refine b_ti (y := nI 1) hr9 ?_
        refine lv_if_eq (tgt := 19) hx hb d_HM_out_12 (by decide) (fun c_12_1 => ?_) (fun c_12_1 => ?_)
        · skip
          exact absurd c_12_1 (by decide)
        · skip
          refine lv_iconst (v := nI 1) hx hb d_HM_out_15 (by decide) ?_
          refine lv_goto (tgt := 20) hx hb d_HM_out_16 (by decide) ?_
          exact absurd ⟨im_c hc hp2, hp9⟩ hv9
      · skip
        refine b_ti (y := nI 0) hr9 ?_
        refine lv_if_eq (tgt := 19) hx hb d_HM_out_12 (by decide) (fun c_12_2 => ?_) (fun c_12_2 => ?_)
        · skip
          refine lv_iconst (v := nI 0) hx hb d_HM_out_19 (by decide) ?_
          exact b_thru (wc := []) (wr := [(x0, .inr (6, [.ref pl, .ref ho, .ref rs, .ref to, .ref wt, .ref bo])), (ho, .inr (1, [.ref ma, .int (nI cn), .ref fa]))]) (w1 := []) hm hnh hw [] [0, 1] rfl rfl (by decide) (by decide) (t_runS (As := [.int (nI 0)]) (rest := []) hm (ct_HM_requireArgument l htr D k _) (va_cwS 1 hts (gS2 uw_of k_301 k_299 k_300 k_1) rfl rfl rfl (by decide +kernel) ⟨by decide, by decide⟩) ⟨b_blindE, b_preE hw hE [] (by decide) rfl⟩ rfl hl.1 rfl (Nat.le_of_ble_eq_true rfl) d_HM_out_20 ⟨by decide, by decide⟩) (fun _ _ _ h => h) rfl rfl rfl
        · skip
          exact absurd c_12_2 (by decide)
  · skip
    refine b_ti (y := nI 0) hr2 ?_
    refine lv_if_eq (tgt := 19) hx hb d_HM_out_5 (by decide) (fun c_5_3 => ?_) (fun c_5_3 => ?_)
    · skip
      refine lv_iconst (v := nI 0) hx hb d_HM_out_19 (by decide) ?_
      exact b_thru (wc := []) (wr := [(x0, .inr (6, [.ref pl, .ref ho, .ref rs, .ref to, .ref wt, .ref bo])), (ho, .inr (1, [.ref ma, .int (nI cn), .ref fa]))]) (w1 := []) hm hnh hw [] [0, 1] rfl rfl (by decide) (by decide) (t_runS (As := [.int (nI 0)]) (rest := []) hm (ct_HM_requireArgument l htr D k _) (va_cwS 1 hts (gS2 uw_of k_301 k_299 k_300 k_1) rfl rfl rfl (by decide +kernel) ⟨by decide, by decide⟩) ⟨b_blindE, b_preE hw hE [] (by decide) rfl⟩ rfl hl.1 rfl (Nat.le_of_ble_eq_true rfl) d_HM_out_20 ⟨by decide, by decide⟩) (fun _ _ _ h => h) rfl rfl rfl
    · skip
      exact absurd c_5_3 (by decide)

set_option maxHeartbeats 4000000 in
set_option maxRecDepth 100000 in
theorem ct_HM_out2 (l : Launch) (htr : l.stackTraces = false) (D : va_G) (k : Nat → ClassId) (sz : Nat) (x0 ho pl rs to wt bo ma fa cn se ab he po sx be sa ov sta stl kk h : Nat) (is : Int32) (hc : cn ≤ 3) (hk : kk < cn) (hh : h < 36) (hov : h < ov) (ho36 : ov ≤ 36) : MetT l y_HM_out (uw y_HM_out b_HM_out 6 (some .boolean)) (rU 7 1 6) (va_Pc [.ref x0, .int (nI kk), .int (nI h), .int is] (bPE (gU D k) [(x0, .inr (6, [.ref pl, .ref ho, .ref rs, .ref to, .ref wt, .ref bo])), (ho, .inr (1, [.ref ma, .int (nI cn), .ref fa])), (pl, .inr (4, [.ref ho, .ref sa, .int (nI ov), .int (nI sta), .int (nI stl), .ref se, .ref ab, .ref he, .ref po, .ref sx, .ref be]))] sz)) (bQt sIS (bQ (gU D k) (va_A [(x0, .inr (6, [.ref pl, .ref ho, .ref rs, .ref to, .ref wt, .ref bo])), (ho, .inr (1, [.ref ma, .int (nI cn), .ref fa])), (pl, .inr (4, [.ref ho, .ref sa, .int (nI ov), .int (nI sta), .int (nI stl), .ref se, .ref ab, .ref he, .ref po, .ref sx, .ref be]))] sz) [(x0, .inr (6, [.ref pl, .ref ho, .ref rs, .ref to, .ref wt, .ref bo])), (ho, .inr (1, [.ref ma, .int (nI cn), .ref fa])), (pl, .inr (4, [.ref ho, .ref sa, .int (nI ov), .int (nI sta), .int (nI stl), .ref se, .ref ab, .ref he, .ref po, .ref sx, .ref be]))]) (va_A [(x0, .inr (6, [.ref pl, .ref ho, .ref rs, .ref to, .ref wt, .ref bo])), (ho, .inr (1, [.ref ma, .int (nI cn), .ref fa])), (pl, .inr (4, [.ref ho, .ref sa, .int (nI ov), .int (nI sta), .int (nI stl), .ref se, .ref ab, .ref he, .ref po, .ref sx, .ref be]))] sz)) 1 6 (va_A [(x0, .inr (6, [.ref pl, .ref ho, .ref rs, .ref to, .ref wt, .ref bo])), (ho, .inr (1, [.ref ma, .int (nI cn), .ref fa])), (pl, .inr (4, [.ref ho, .ref sa, .int (nI ov), .int (nI sta), .int (nI stl), .ref se, .ref ab, .ref he, .ref po, .ref sx, .ref be]))] sz) := by
  refine b_startT (y := y_HM_out) (maxL := 6) (ret := (some .boolean)) (cc := b_HM_out) (ws' := ut) (rm := rU 7 1 6) (av := [.ref x0, .int (nI kk), .int (nI h), .int is]) (g := gU D k) (ws := [(x0, .inr (6, [.ref pl, .ref ho, .ref rs, .ref to, .ref wt, .ref bo])), (ho, .inr (1, [.ref ma, .int (nI cn), .ref fa])), (pl, .inr (4, [.ref ho, .ref sa, .int (nI ov), .int (nI sta), .int (nI stl), .ref se, .ref ab, .ref he, .ref po, .ref sx, .ref be]))]) (sz := sz) (Qc := fun A => bQt sIS (bQ (gU D k) A [(x0, .inr (6, [.ref pl, .ref ho, .ref rs, .ref to, .ref wt, .ref bo])), (ho, .inr (1, [.ref ma, .int (nI cn), .ref fa])), (pl, .inr (4, [.ref ho, .ref sa, .int (nI ov), .int (nI sta), .int (nI stl), .ref se, .ref ab, .ref he, .ref po, .ref sx, .ref be]))]) A) (by decide +kernel) (Nat.le_of_ble_eq_true rfl) ?_
  intro p e s m below meth c A hm hnh hE hw ls hl
  have hl : lv_has ls 6 [(0, .ref x0), (1, .int (nI kk)), (2, .int (nI h)), (3, .int is)] := hl
  have hx := hm.1
  have hb := hm.2.1
  have hown := hm.2.2.2.2.1
  have hts := hm.2.2.2.2.2.1
  refine lv_aload_n hx hb d_HM_out_0 rfl (lv_at hl 0 rfl) ?_
  refine lv_iload_n hx hb d_HM_out_1 rfl (lv_at hl 1 rfl) ?_
  refine b_goi (wr := [(pl, .inr (4, [.ref ho, .ref sa, .int (nI ov), .int (nI sta), .int (nI stl), .ref se, .ref ab, .ref he, .ref po, .ref sx, .ref be]))]) (b_runV (wc := [(x0, .inr (6, [.ref pl, .ref ho, .ref rs, .ref to, .ref wt, .ref bo])), (ho, .inr (1, [.ref ma, .int (nI cn), .ref fa]))]) (As := [.int (nI kk)]) (rest := []) (q0 := 0) hm hw (cwV 1 hts (gV uw_of k_442 k_439 k_441 (mp 10 rfl rfl) k_1) rfl rfl rfl (by decide +kernel) ⟨by decide, by decide⟩) (c_HM_isMachine l D k _ x0 ho pl rs to wt bo ma fa cn (nI kk)) [0, 1] (by decide) rfl rfl rfl rfl hl.1 rfl (Nat.le_of_ble_eq_true rfl) d_HM_out_2 ⟨by decide, by decide⟩) hw [0, 1] [2] rfl rfl (by decide) (by decide) (fun r2 _ H locs hp2 hw => ?_)
  have hw : bW (gU D k) A s H locs [(x0, .inr (6, [.ref pl, .ref ho, .ref rs, .ref to, .ref wt, .ref bo])), (ho, .inr (1, [.ref ma, .int (nI cn), .ref fa])), (pl, .inr (4, [.ref ho, .ref sa, .int (nI ov), .int (nI sta), .int (nI stl), .ref se, .ref ab, .ref he, .ref po, .ref sx, .ref be]))] := hw.sub [1, 2, 0] (by decide) rfl
  have hr2 : r2 = 1 := by rcases hp2 with ⟨q, _⟩ | ⟨_, q⟩; exact q; exact absurd (in_m (by omega) (by omega)) q
  refine b_ti (y := nI 1) hr2 ?_
  refine lv_if_eq (tgt := 19) hx hb d_HM_out_5 (by decide) (fun c_5_0 => ?_) (fun c_5_0 => ?_)
  · skip
    exact absurd c_5_0 (by decide)
  · skip
    refine lv_iload_n hx hb d_HM_out_8 rfl (lv_at hl 2 rfl) ?_
    refine b_goi (wr := [(x0, .inr (6, [.ref pl, .ref ho, .ref rs, .ref to, .ref wt, .ref bo])), (ho, .inr (1, [.ref ma, .int (nI cn), .ref fa])), (pl, .inr (4, [.ref ho, .ref sa, .int (nI ov), .int (nI sta), .int (nI stl), .ref se, .ref ab, .ref he, .ref po, .ref sx, .ref be]))]) (b_runS (wc := []) (As := [.int (nI h)]) (rest := []) hm hw (va_cwS 1 hts (gS2 uw_of k_465 k_463 k_464 k_1) rfl rfl rfl (by decide +kernel) ⟨by decide, by decide⟩) (c_HM_isHour l D k _ (nI h)) [] (by decide) rfl rfl hl.1 rfl (Nat.le_of_ble_eq_true rfl) d_HM_out_9 ⟨by decide, by decide⟩) hw [] [0, 1, 2] rfl rfl (by decide) (by decide) (fun r9 _ H locs hp9 hw => ?_)
    have hw : bW (gU D k) A s H locs [(x0, .inr (6, [.ref pl, .ref ho, .ref rs, .ref to, .ref wt, .ref bo])), (ho, .inr (1, [.ref ma, .int (nI cn), .ref fa])), (pl, .inr (4, [.ref ho, .ref sa, .int (nI ov), .int (nI sta), .int (nI stl), .ref se, .ref ab, .ref he, .ref po, .ref sx, .ref be]))] := hw.sub [0, 1, 2] (by decide) rfl
    have hr9 : r9 = 1 := by rcases hp9 with ⟨q, _⟩ | ⟨_, q⟩; exact q; exact absurd (in_n (by omega) (by omega) (by omega)) q
    refine b_ti (y := nI 1) hr9 ?_
    refine lv_if_eq (tgt := 19) hx hb d_HM_out_12 (by decide) (fun c_12_1 => ?_) (fun c_12_1 => ?_)
    · skip
      exact absurd c_12_1 (by decide)
    · skip
      refine lv_iconst (v := nI 1) hx hb d_HM_out_15 (by decide) ?_
      refine lv_goto (tgt := 20) hx hb d_HM_out_16 (by decide) ?_
      refine b_gov (wr := [(x0, .inr (6, [.ref pl, .ref ho, .ref rs, .ref to, .ref wt, .ref bo])), (ho, .inr (1, [.ref ma, .int (nI cn), .ref fa])), (pl, .inr (4, [.ref ho, .ref sa, .int (nI ov), .int (nI sta), .int (nI stl), .ref se, .ref ab, .ref he, .ref po, .ref sx, .ref be]))]) (b_runS (wc := []) (As := [.int (nI 1)]) (rest := []) hm hw (va_cwS 1 hts (gS2 uw_of k_301 k_299 k_300 k_1) rfl rfl rfl (by decide +kernel) ⟨by decide, by decide⟩) (c_HM_requireArgument l D k _ ) [] (by decide) rfl rfl hl.1 rfl (Nat.le_of_ble_eq_true rfl) d_HM_out_20 ⟨by decide, by decide⟩) hw [] [0, 1, 2] rfl rfl (by decide) (by decide) (fun _ H locs _ hw => ?_)
      have hw : bW (gU D k) A s H locs [(x0, .inr (6, [.ref pl, .ref ho, .ref rs, .ref to, .ref wt, .ref bo])), (ho, .inr (1, [.ref ma, .int (nI cn), .ref fa])), (pl, .inr (4, [.ref ho, .ref sa, .int (nI ov), .int (nI sta), .int (nI stl), .ref se, .ref ab, .ref he, .ref po, .ref sx, .ref be]))] := hw.sub [0, 1, 2] (by decide) rfl
      refine lv_iload_n hx hb d_HM_out_23 rfl (lv_at hl 2 rfl) ?_
      refine lv_aload_n hx hb d_HM_out_24 rfl (lv_at hl 0 rfl) ?_
      refine b_get (T := F_HM) hm hw 0 rfl rfl (fun w h => uw_of w (u_HM w h)) 0 (by decide) (uw_of _ k_204) rfl d_HM_out_25 ?_
      refine b_getN (T := F_Pl) hm hw 2 rfl rfl (fun w h => uw_of w (u_Pl w h)) 2 (by decide) (k_149) rfl d_HM_out_28 ?_
      refine lv_icmp_lt (tgt := 38) hx hb d_HM_out_31 (by decide) (fun c_31_2 => ?_) (fun c_31_2 => ?_)
      · skip
        have h_31_2 : h < ov := ylt c_31_2 (by omega) (by omega)
        refine lv_iconst (v := nI 0) hx hb d_HM_out_38 (by decide) ?_
        exact b_thru (wc := []) (wr := [(x0, .inr (6, [.ref pl, .ref ho, .ref rs, .ref to, .ref wt, .ref bo])), (ho, .inr (1, [.ref ma, .int (nI cn), .ref fa])), (pl, .inr (4, [.ref ho, .ref sa, .int (nI ov), .int (nI sta), .int (nI stl), .ref se, .ref ab, .ref he, .ref po, .ref sx, .ref be]))]) (w1 := []) hm hnh hw [] [0, 1, 2] rfl rfl (by decide) (by decide) (t_runS (As := [.int (nI 0)]) (rest := []) hm (ct_HM_requireState l htr D k _) (va_cwS 1 hts (gS2 uw_of k_371 k_369 k_370 k_1) rfl rfl rfl (by decide +kernel) ⟨by decide, by decide⟩) ⟨b_blindE, b_preE hw hE [] (by decide) rfl⟩ rfl hl.1 rfl (Nat.le_of_ble_eq_true rfl) d_HM_out_39 ⟨by decide, by decide⟩) (fun _ _ _ h => h) rfl rfl rfl
      · skip
        have h_31_2 : ov ≤ h := ygeN c_31_2 (by omega) (by omega)
        refine lv_iconst (v := nI 1) hx hb d_HM_out_34 (by decide) ?_
        refine lv_goto (tgt := 39) hx hb d_HM_out_35 (by decide) ?_
        exfalso; omega

set_option maxHeartbeats 4000000 in
set_option maxRecDepth 100000 in
theorem ct_HM_gives1 (l : Launch) (htr : l.stackTraces = false) (D : va_G) (k : Nat → ClassId) (sz : Nat) (x0 ho pl rs to wt bo ma fa cn : Nat) (hc : cn ≤ 3) (u0 v w : Int32) (hv9 : ¬ ((nI 0 ≤ u0 ∧ u0 < nI cn) ∧ ((-5000) ≤ v ∧ v ≤ nI 5000) ∧ (nI 0 ≤ w ∧ w ≤ nI 1))) : MetT l y_HM_gives (uw y_HM_gives b_HM_gives 5 (some .int)) (rU 7 1 6) (va_Pc [.ref x0, .int u0, .int v, .int w] (bPE (gU D k) [(x0, .inr (6, [.ref pl, .ref ho, .ref rs, .ref to, .ref wt, .ref bo])), (ho, .inr (1, [.ref ma, .int (nI cn), .ref fa]))] sz)) (bQt sIA (bQ (gU D k) (va_A [(x0, .inr (6, [.ref pl, .ref ho, .ref rs, .ref to, .ref wt, .ref bo])), (ho, .inr (1, [.ref ma, .int (nI cn), .ref fa]))] sz) [(x0, .inr (6, [.ref pl, .ref ho, .ref rs, .ref to, .ref wt, .ref bo])), (ho, .inr (1, [.ref ma, .int (nI cn), .ref fa]))]) (va_A [(x0, .inr (6, [.ref pl, .ref ho, .ref rs, .ref to, .ref wt, .ref bo])), (ho, .inr (1, [.ref ma, .int (nI cn), .ref fa]))] sz)) 1 6 (va_A [(x0, .inr (6, [.ref pl, .ref ho, .ref rs, .ref to, .ref wt, .ref bo])), (ho, .inr (1, [.ref ma, .int (nI cn), .ref fa]))] sz) := by
  refine b_startT (y := y_HM_gives) (maxL := 5) (ret := (some .int)) (cc := b_HM_gives) (ws' := ut) (rm := rU 7 1 6) (av := [.ref x0, .int u0, .int v, .int w]) (g := gU D k) (ws := [(x0, .inr (6, [.ref pl, .ref ho, .ref rs, .ref to, .ref wt, .ref bo])), (ho, .inr (1, [.ref ma, .int (nI cn), .ref fa]))]) (sz := sz) (Qc := fun A => bQt sIA (bQ (gU D k) A [(x0, .inr (6, [.ref pl, .ref ho, .ref rs, .ref to, .ref wt, .ref bo])), (ho, .inr (1, [.ref ma, .int (nI cn), .ref fa]))]) A) (by decide +kernel) (Nat.le_of_ble_eq_true rfl) ?_
  intro p e s m below meth c A hm hnh hE hw ls hl
  have hl : lv_has ls 5 [(0, .ref x0), (1, .int u0), (2, .int v), (3, .int w)] := hl
  have hx := hm.1
  have hb := hm.2.1
  have hown := hm.2.2.2.2.1
  have hts := hm.2.2.2.2.2.1
  refine lv_aload_n hx hb d_HM_gives_0 rfl (lv_at hl 0 rfl) ?_
  refine lv_iload_n hx hb d_HM_gives_1 rfl (lv_at hl 1 rfl) ?_
  refine b_goi (wr := []) (b_runV (wc := [(x0, .inr (6, [.ref pl, .ref ho, .ref rs, .ref to, .ref wt, .ref bo])), (ho, .inr (1, [.ref ma, .int (nI cn), .ref fa]))]) (As := [.int u0]) (rest := []) (q0 := 0) hm hw (cwV 1 hts (gV uw_of k_442 k_439 k_441 (mp 10 rfl rfl) k_1) rfl rfl rfl (by decide +kernel) ⟨by decide, by decide⟩) (c_HM_isMachine l D k _ x0 ho pl rs to wt bo ma fa cn u0) [0, 1] (by decide) rfl rfl rfl rfl hl.1 rfl (Nat.le_of_ble_eq_true rfl) d_HM_gives_2 ⟨by decide, by decide⟩) hw [0, 1] [] rfl rfl (by decide) (by decide) (fun r2 _ H locs hp2 hw => ?_)
  have hw : bW (gU D k) A s H locs [(x0, .inr (6, [.ref pl, .ref ho, .ref rs, .ref to, .ref wt, .ref bo])), (ho, .inr (1, [.ref ma, .int (nI cn), .ref fa]))] := hw.sub [0, 1] (by decide) rfl
  rcases hp2 with ⟨hr2, hp2⟩ | ⟨hr2, hp2⟩
  · skip
    refine b_ti (y := nI 1) hr2 ?_
    refine lv_if_eq (tgt := 28) hx hb d_HM_gives_5 (by decide) (fun c_5_0 => ?_) (fun c_5_0 => ?_)
    · skip
      exact absurd c_5_0 (by decide)
    · skip
      refine lv_iload_n hx hb d_HM_gives_8 rfl (lv_at hl 2 rfl) ?_
      refine b_goi (wr := [(x0, .inr (6, [.ref pl, .ref ho, .ref rs, .ref to, .ref wt, .ref bo])), (ho, .inr (1, [.ref ma, .int (nI cn), .ref fa]))]) (b_runS (wc := []) (As := [.int v]) (rest := []) hm hw (va_cwS 1 hts (gS2 uw_of k_445 k_443 k_444 k_1) rfl rfl rfl (by decide +kernel) ⟨by decide, by decide⟩) (c_HM_isWarmth l D k _ v) [] (by decide) rfl rfl hl.1 rfl (Nat.le_of_ble_eq_true rfl) d_HM_gives_9 ⟨by decide, by decide⟩) hw [] [0, 1] rfl rfl (by decide) (by decide) (fun r9 _ H locs hp9 hw => ?_)
      have hw : bW (gU D k) A s H locs [(x0, .inr (6, [.ref pl, .ref ho, .ref rs, .ref to, .ref wt, .ref bo])), (ho, .inr (1, [.ref ma, .int (nI cn), .ref fa]))] := hw.sub [0, 1] (by decide) rfl
      rcases hp9 with ⟨hr9, hp9⟩ | ⟨hr9, hp9⟩
      · skip
        refine b_ti (y := nI 1) hr9 ?_
        refine lv_if_eq (tgt := 28) hx hb d_HM_gives_12 (by decide) (fun c_12_1 => ?_) (fun c_12_1 => ?_)
        · skip
          exact absurd c_12_1 (by decide)
        · skip
          refine lv_iload_n hx hb d_HM_gives_15 rfl (lv_at hl 3 rfl) ?_
          refine lv_iconst (v := nI 0) hx hb d_HM_gives_16 (by decide) ?_
          refine lv_iconst (v := nI 1) hx hb d_HM_gives_17 (by decide) ?_
          refine b_goi (wr := [(x0, .inr (6, [.ref pl, .ref ho, .ref rs, .ref to, .ref wt, .ref bo])), (ho, .inr (1, [.ref ma, .int (nI cn), .ref fa]))]) (b_runS (wc := []) (As := [.int w, .int (nI 0), .int (nI 1)]) (rest := []) hm hw (va_cwS 3 hts (gS2 uw_of k_297 k_295 k_296 k_1) rfl rfl rfl (by decide +kernel) ⟨by decide, by decide⟩) (c_HM_isWithin l D k _ w (nI 0) (nI 1)) [] (by decide) rfl rfl hl.1 rfl (Nat.le_of_ble_eq_true rfl) d_HM_gives_18 ⟨by decide, by decide⟩) hw [] [0, 1] rfl rfl (by decide) (by decide) (fun r18 _ H locs hp18 hw => ?_)
          have hw : bW (gU D k) A s H locs [(x0, .inr (6, [.ref pl, .ref ho, .ref rs, .ref to, .ref wt, .ref bo])), (ho, .inr (1, [.ref ma, .int (nI cn), .ref fa]))] := hw.sub [0, 1] (by decide) rfl
          rcases hp18 with ⟨hr18, hp18⟩ | ⟨hr18, hp18⟩
          · skip
            refine b_ti (y := nI 1) hr18 ?_
            refine lv_if_eq (tgt := 28) hx hb d_HM_gives_21 (by decide) (fun c_21_2 => ?_) (fun c_21_2 => ?_)
            · skip
              exact absurd c_21_2 (by decide)
            · skip
              refine lv_iconst (v := nI 1) hx hb d_HM_gives_24 (by decide) ?_
              refine lv_goto (tgt := 29) hx hb d_HM_gives_25 (by decide) ?_
              exact absurd ⟨im_c hc hp2, hp9, hp18⟩ hv9
          · skip
            refine b_ti (y := nI 0) hr18 ?_
            refine lv_if_eq (tgt := 28) hx hb d_HM_gives_21 (by decide) (fun c_21_3 => ?_) (fun c_21_3 => ?_)
            · skip
              refine lv_iconst (v := nI 0) hx hb d_HM_gives_28 (by decide) ?_
              exact b_thru (wc := []) (wr := [(x0, .inr (6, [.ref pl, .ref ho, .ref rs, .ref to, .ref wt, .ref bo])), (ho, .inr (1, [.ref ma, .int (nI cn), .ref fa]))]) (w1 := []) hm hnh hw [] [0, 1] rfl rfl (by decide) (by decide) (t_runS (As := [.int (nI 0)]) (rest := []) hm (ct_HM_requireArgument l htr D k _) (va_cwS 1 hts (gS2 uw_of k_301 k_299 k_300 k_1) rfl rfl rfl (by decide +kernel) ⟨by decide, by decide⟩) ⟨b_blindE, b_preE hw hE [] (by decide) rfl⟩ rfl hl.1 rfl (Nat.le_of_ble_eq_true rfl) d_HM_gives_29 ⟨by decide, by decide⟩) (fun _ _ _ h => h) rfl rfl rfl
            · skip
              exact absurd c_21_3 (by decide)
      · skip
        refine b_ti (y := nI 0) hr9 ?_
        refine lv_if_eq (tgt := 28) hx hb d_HM_gives_12 (by decide) (fun c_12_4 => ?_) (fun c_12_4 => ?_)
        · skip
          refine lv_iconst (v := nI 0) hx hb d_HM_gives_28 (by decide) ?_
          exact b_thru (wc := []) (wr := [(x0, .inr (6, [.ref pl, .ref ho, .ref rs, .ref to, .ref wt, .ref bo])), (ho, .inr (1, [.ref ma, .int (nI cn), .ref fa]))]) (w1 := []) hm hnh hw [] [0, 1] rfl rfl (by decide) (by decide) (t_runS (As := [.int (nI 0)]) (rest := []) hm (ct_HM_requireArgument l htr D k _) (va_cwS 1 hts (gS2 uw_of k_301 k_299 k_300 k_1) rfl rfl rfl (by decide +kernel) ⟨by decide, by decide⟩) ⟨b_blindE, b_preE hw hE [] (by decide) rfl⟩ rfl hl.1 rfl (Nat.le_of_ble_eq_true rfl) d_HM_gives_29 ⟨by decide, by decide⟩) (fun _ _ _ h => h) rfl rfl rfl
        · skip
          exact absurd c_12_4 (by decide)
  · skip
    refine b_ti (y := nI 0) hr2 ?_
    refine lv_if_eq (tgt := 28) hx hb d_HM_gives_5 (by decide) (fun c_5_5 => ?_) (fun c_5_5 => ?_)
    · skip
      refine lv_iconst (v := nI 0) hx hb d_HM_gives_28 (by decide) ?_
      exact b_thru (wc := []) (wr := [(x0, .inr (6, [.ref pl, .ref ho, .ref rs, .ref to, .ref wt, .ref bo])), (ho, .inr (1, [.ref ma, .int (nI cn), .ref fa]))]) (w1 := []) hm hnh hw [] [0, 1] rfl rfl (by decide) (by decide) (t_runS (As := [.int (nI 0)]) (rest := []) hm (ct_HM_requireArgument l htr D k _) (va_cwS 1 hts (gS2 uw_of k_301 k_299 k_300 k_1) rfl rfl rfl (by decide +kernel) ⟨by decide, by decide⟩) ⟨b_blindE, b_preE hw hE [] (by decide) rfl⟩ rfl hl.1 rfl (Nat.le_of_ble_eq_true rfl) d_HM_gives_29 ⟨by decide, by decide⟩) (fun _ _ _ h => h) rfl rfl rfl
    · skip
      exact absurd c_5_5 (by decide)

set_option maxHeartbeats 4000000 in
set_option maxRecDepth 100000 in
theorem ct_HM_planned1 (l : Launch) (htr : l.stackTraces = false) (D : va_G) (k : Nat → ClassId) (sz : Nat) (x0 ho pl rs to wt bo : Nat) (h : Int32) (hv9 : ¬ (nI 0 ≤ h ∧ h ≤ nI 35)) : MetT l y_HM_planned (uw y_HM_planned b_HM_planned 2 (some .int)) (rU 7 1 6) (va_Pc [.ref x0, .int h] (bPE (gU D k) [(x0, .inr (6, [.ref pl, .ref ho, .ref rs, .ref to, .ref wt, .ref bo]))] sz)) (bQt sIA (bQ (gU D k) (va_A [(x0, .inr (6, [.ref pl, .ref ho, .ref rs, .ref to, .ref wt, .ref bo]))] sz) [(x0, .inr (6, [.ref pl, .ref ho, .ref rs, .ref to, .ref wt, .ref bo]))]) (va_A [(x0, .inr (6, [.ref pl, .ref ho, .ref rs, .ref to, .ref wt, .ref bo]))] sz)) 1 6 (va_A [(x0, .inr (6, [.ref pl, .ref ho, .ref rs, .ref to, .ref wt, .ref bo]))] sz) := by
  refine b_startT (y := y_HM_planned) (maxL := 2) (ret := (some .int)) (cc := b_HM_planned) (ws' := ut) (rm := rU 7 1 6) (av := [.ref x0, .int h]) (g := gU D k) (ws := [(x0, .inr (6, [.ref pl, .ref ho, .ref rs, .ref to, .ref wt, .ref bo]))]) (sz := sz) (Qc := fun A => bQt sIA (bQ (gU D k) A [(x0, .inr (6, [.ref pl, .ref ho, .ref rs, .ref to, .ref wt, .ref bo]))]) A) (by decide +kernel) (Nat.le_of_ble_eq_true rfl) ?_
  intro p e s m below meth c A hm hnh hE hw ls hl
  have hl : lv_has ls 2 [(0, .ref x0), (1, .int h)] := hl
  have hx := hm.1
  have hb := hm.2.1
  have hown := hm.2.2.2.2.1
  have hts := hm.2.2.2.2.2.1
  refine lv_iload_n hx hb d_HM_planned_0 rfl (lv_at hl 1 rfl) ?_
  refine b_goi (wr := [(x0, .inr (6, [.ref pl, .ref ho, .ref rs, .ref to, .ref wt, .ref bo]))]) (b_runS (wc := []) (As := [.int h]) (rest := []) hm hw (va_cwS 1 hts (gS2 uw_of k_465 k_463 k_464 k_1) rfl rfl rfl (by decide +kernel) ⟨by decide, by decide⟩) (c_HM_isHour l D k _ h) [] (by decide) rfl rfl hl.1 rfl (Nat.le_of_ble_eq_true rfl) d_HM_planned_1 ⟨by decide, by decide⟩) hw [] [0] rfl rfl (by decide) (by decide) (fun r1 _ H locs hp1 hw => ?_)
  have hw : bW (gU D k) A s H locs [(x0, .inr (6, [.ref pl, .ref ho, .ref rs, .ref to, .ref wt, .ref bo]))] := hw.sub [0] (by decide) rfl
  rcases hp1 with ⟨hr1, hp1⟩ | ⟨hr1, hp1⟩
  · skip
    refine b_ti (y := nI 1) hr1 ?_
    exact absurd hp1 hv9
  · skip
    refine b_ti (y := nI 0) hr1 ?_
    exact b_thru (wc := []) (wr := [(x0, .inr (6, [.ref pl, .ref ho, .ref rs, .ref to, .ref wt, .ref bo]))]) (w1 := []) hm hnh hw [] [0] rfl rfl (by decide) (by decide) (t_runS (As := [.int (nI 0)]) (rest := []) hm (ct_HM_requireArgument l htr D k _) (va_cwS 1 hts (gS2 uw_of k_301 k_299 k_300 k_1) rfl rfl rfl (by decide +kernel) ⟨by decide, by decide⟩) ⟨b_blindE, b_preE hw hE [] (by decide) rfl⟩ rfl hl.1 rfl (Nat.le_of_ble_eq_true rfl) d_HM_planned_4 ⟨by decide, by decide⟩) (fun _ _ _ h => h) rfl rfl rfl

set_option maxHeartbeats 4000000 in
set_option maxRecDepth 100000 in
theorem ct_HM_starts1 (l : Launch) (htr : l.stackTraces = false) (D : va_G) (k : Nat → ClassId) (sz : Nat) (x0 ho pl rs to wt bo ma fa cn : Nat) (hc : cn ≤ 3) (u0 : Int32) (hv9 : ¬ (nI 0 ≤ u0 ∧ u0 < nI cn)) : MetT l y_HM_starts (uw y_HM_starts b_HM_starts 2 (some .int)) (rU 7 1 6) (va_Pc [.ref x0, .int u0] (bPE (gU D k) [(x0, .inr (6, [.ref pl, .ref ho, .ref rs, .ref to, .ref wt, .ref bo])), (ho, .inr (1, [.ref ma, .int (nI cn), .ref fa]))] sz)) (bQt sIA (bQ (gU D k) (va_A [(x0, .inr (6, [.ref pl, .ref ho, .ref rs, .ref to, .ref wt, .ref bo])), (ho, .inr (1, [.ref ma, .int (nI cn), .ref fa]))] sz) [(x0, .inr (6, [.ref pl, .ref ho, .ref rs, .ref to, .ref wt, .ref bo])), (ho, .inr (1, [.ref ma, .int (nI cn), .ref fa]))]) (va_A [(x0, .inr (6, [.ref pl, .ref ho, .ref rs, .ref to, .ref wt, .ref bo])), (ho, .inr (1, [.ref ma, .int (nI cn), .ref fa]))] sz)) 1 6 (va_A [(x0, .inr (6, [.ref pl, .ref ho, .ref rs, .ref to, .ref wt, .ref bo])), (ho, .inr (1, [.ref ma, .int (nI cn), .ref fa]))] sz) := by
  refine b_startT (y := y_HM_starts) (maxL := 2) (ret := (some .int)) (cc := b_HM_starts) (ws' := ut) (rm := rU 7 1 6) (av := [.ref x0, .int u0]) (g := gU D k) (ws := [(x0, .inr (6, [.ref pl, .ref ho, .ref rs, .ref to, .ref wt, .ref bo])), (ho, .inr (1, [.ref ma, .int (nI cn), .ref fa]))]) (sz := sz) (Qc := fun A => bQt sIA (bQ (gU D k) A [(x0, .inr (6, [.ref pl, .ref ho, .ref rs, .ref to, .ref wt, .ref bo])), (ho, .inr (1, [.ref ma, .int (nI cn), .ref fa]))]) A) (by decide +kernel) (Nat.le_of_ble_eq_true rfl) ?_
  intro p e s m below meth c A hm hnh hE hw ls hl
  have hl : lv_has ls 2 [(0, .ref x0), (1, .int u0)] := hl
  have hx := hm.1
  have hb := hm.2.1
  have hown := hm.2.2.2.2.1
  have hts := hm.2.2.2.2.2.1
  refine lv_aload_n hx hb d_HM_starts_0 rfl (lv_at hl 0 rfl) ?_
  refine lv_iload_n hx hb d_HM_starts_1 rfl (lv_at hl 1 rfl) ?_
  refine b_goi (wr := []) (b_runV (wc := [(x0, .inr (6, [.ref pl, .ref ho, .ref rs, .ref to, .ref wt, .ref bo])), (ho, .inr (1, [.ref ma, .int (nI cn), .ref fa]))]) (As := [.int u0]) (rest := []) (q0 := 0) hm hw (cwV 1 hts (gV uw_of k_442 k_439 k_441 (mp 10 rfl rfl) k_1) rfl rfl rfl (by decide +kernel) ⟨by decide, by decide⟩) (c_HM_isMachine l D k _ x0 ho pl rs to wt bo ma fa cn u0) [0, 1] (by decide) rfl rfl rfl rfl hl.1 rfl (Nat.le_of_ble_eq_true rfl) d_HM_starts_2 ⟨by decide, by decide⟩) hw [0, 1] [] rfl rfl (by decide) (by decide) (fun r2 _ H locs hp2 hw => ?_)
  have hw : bW (gU D k) A s H locs [(x0, .inr (6, [.ref pl, .ref ho, .ref rs, .ref to, .ref wt, .ref bo])), (ho, .inr (1, [.ref ma, .int (nI cn), .ref fa]))] := hw.sub [0, 1] (by decide) rfl
  rcases hp2 with ⟨hr2, hp2⟩ | ⟨hr2, hp2⟩
  · skip
    refine b_ti (y := nI 1) hr2 ?_
    exact absurd (im_c hc hp2) hv9
  · skip
    refine b_ti (y := nI 0) hr2 ?_
    exact b_thru (wc := []) (wr := [(x0, .inr (6, [.ref pl, .ref ho, .ref rs, .ref to, .ref wt, .ref bo])), (ho, .inr (1, [.ref ma, .int (nI cn), .ref fa]))]) (w1 := []) hm hnh hw [] [0, 1] rfl rfl (by decide) (by decide) (t_runS (As := [.int (nI 0)]) (rest := []) hm (ct_HM_requireArgument l htr D k _) (va_cwS 1 hts (gS2 uw_of k_301 k_299 k_300 k_1) rfl rfl rfl (by decide +kernel) ⟨by decide, by decide⟩) ⟨b_blindE, b_preE hw hE [] (by decide) rfl⟩ rfl hl.1 rfl (Nat.le_of_ble_eq_true rfl) d_HM_starts_5 ⟨by decide, by decide⟩) (fun _ _ _ h => h) rfl rfl rfl

set_option maxHeartbeats 4000000 in
set_option maxRecDepth 100000 in
theorem ct_HM_run1 (l : Launch) (htr : l.stackTraces = false) (D : va_G) (k : Nat → ClassId) (sz : Nat) (x0 ho pl rs to wt bo : Nat) (nn : Int32) (hv9 : ¬ (nI 1 ≤ nn ∧ nn ≤ nI 36)) : MetT l y_HM_run (uw y_HM_run b_HM_run 3 (some .int)) (rU 7 1 6) (va_Pc [.ref x0, .int nn] (bPE (gU D k) [(x0, .inr (6, [.ref pl, .ref ho, .ref rs, .ref to, .ref wt, .ref bo]))] sz)) (bQt sIA (bQ (gU D k) (va_A [(x0, .inr (6, [.ref pl, .ref ho, .ref rs, .ref to, .ref wt, .ref bo]))] sz) [(x0, .inr (6, [.ref pl, .ref ho, .ref rs, .ref to, .ref wt, .ref bo]))]) (va_A [(x0, .inr (6, [.ref pl, .ref ho, .ref rs, .ref to, .ref wt, .ref bo]))] sz)) 1 6 (va_A [(x0, .inr (6, [.ref pl, .ref ho, .ref rs, .ref to, .ref wt, .ref bo]))] sz) := by
  refine b_startT (y := y_HM_run) (maxL := 3) (ret := (some .int)) (cc := b_HM_run) (ws' := ut) (rm := rU 7 1 6) (av := [.ref x0, .int nn]) (g := gU D k) (ws := [(x0, .inr (6, [.ref pl, .ref ho, .ref rs, .ref to, .ref wt, .ref bo]))]) (sz := sz) (Qc := fun A => bQt sIA (bQ (gU D k) A [(x0, .inr (6, [.ref pl, .ref ho, .ref rs, .ref to, .ref wt, .ref bo]))]) A) (by decide +kernel) (Nat.le_of_ble_eq_true rfl) ?_
  intro p e s m below meth c A hm hnh hE hw ls hl
  have hl : lv_has ls 3 [(0, .ref x0), (1, .int nn)] := hl
  have hx := hm.1
  have hb := hm.2.1
  have hown := hm.2.2.2.2.1
  have hts := hm.2.2.2.2.2.1
  refine lv_iload_n hx hb d_HM_run_0 rfl (lv_at hl 1 rfl) ?_
  refine lv_iconst (v := nI 1) hx hb d_HM_run_1 (by decide) ?_
  refine lv_bipush (v := nI 36) hx hb d_HM_run_2 (by decide) ?_
  refine b_goi (wr := [(x0, .inr (6, [.ref pl, .ref ho, .ref rs, .ref to, .ref wt, .ref bo]))]) (b_runS (wc := []) (As := [.int nn, .int (nI 1), .int (nI 36)]) (rest := []) hm hw (va_cwS 3 hts (gS2 uw_of k_297 k_295 k_296 k_1) rfl rfl rfl (by decide +kernel) ⟨by decide, by decide⟩) (c_HM_isWithin l D k _ nn (nI 1) (nI 36)) [] (by decide) rfl rfl hl.1 rfl (Nat.le_of_ble_eq_true rfl) d_HM_run_4 ⟨by decide, by decide⟩) hw [] [0] rfl rfl (by decide) (by decide) (fun r4 _ H locs hp4 hw => ?_)
  have hw : bW (gU D k) A s H locs [(x0, .inr (6, [.ref pl, .ref ho, .ref rs, .ref to, .ref wt, .ref bo]))] := hw.sub [0] (by decide) rfl
  rcases hp4 with ⟨hr4, hp4⟩ | ⟨hr4, hp4⟩
  · skip
    refine b_ti (y := nI 1) hr4 ?_
    exact absurd hp4 hv9
  · skip
    refine b_ti (y := nI 0) hr4 ?_
    exact b_thru (wc := []) (wr := [(x0, .inr (6, [.ref pl, .ref ho, .ref rs, .ref to, .ref wt, .ref bo]))]) (w1 := []) hm hnh hw [] [0] rfl rfl (by decide) (by decide) (t_runS (As := [.int (nI 0)]) (rest := []) hm (ct_HM_requireArgument l htr D k _) (va_cwS 1 hts (gS2 uw_of k_301 k_299 k_300 k_1) rfl rfl rfl (by decide +kernel) ⟨by decide, by decide⟩) ⟨b_blindE, b_preE hw hE [] (by decide) rfl⟩ rfl hl.1 rfl (Nat.le_of_ble_eq_true rfl) d_HM_run_7 ⟨by decide, by decide⟩) (fun _ _ _ h => h) rfl rfl rfl

set_option maxHeartbeats 4000000 in
set_option maxRecDepth 100000 in
theorem ct_HM_ran1 (l : Launch) (htr : l.stackTraces = false) (D : va_G) (k : Nat → ClassId) (sz : Nat) (x0 ho pl rs to wt bo : Nat) (h : Int32) (hv9 : ¬ (nI 0 ≤ h ∧ h ≤ nI 35)) : MetT l y_HM_ran (uw y_HM_ran b_HM_ran 2 (some .int)) (rU 7 1 6) (va_Pc [.ref x0, .int h] (bPE (gU D k) [(x0, .inr (6, [.ref pl, .ref ho, .ref rs, .ref to, .ref wt, .ref bo]))] sz)) (bQt sIA (bQ (gU D k) (va_A [(x0, .inr (6, [.ref pl, .ref ho, .ref rs, .ref to, .ref wt, .ref bo]))] sz) [(x0, .inr (6, [.ref pl, .ref ho, .ref rs, .ref to, .ref wt, .ref bo]))]) (va_A [(x0, .inr (6, [.ref pl, .ref ho, .ref rs, .ref to, .ref wt, .ref bo]))] sz)) 1 6 (va_A [(x0, .inr (6, [.ref pl, .ref ho, .ref rs, .ref to, .ref wt, .ref bo]))] sz) := by
  refine b_startT (y := y_HM_ran) (maxL := 2) (ret := (some .int)) (cc := b_HM_ran) (ws' := ut) (rm := rU 7 1 6) (av := [.ref x0, .int h]) (g := gU D k) (ws := [(x0, .inr (6, [.ref pl, .ref ho, .ref rs, .ref to, .ref wt, .ref bo]))]) (sz := sz) (Qc := fun A => bQt sIA (bQ (gU D k) A [(x0, .inr (6, [.ref pl, .ref ho, .ref rs, .ref to, .ref wt, .ref bo]))]) A) (by decide +kernel) (Nat.le_of_ble_eq_true rfl) ?_
  intro p e s m below meth c A hm hnh hE hw ls hl
  have hl : lv_has ls 2 [(0, .ref x0), (1, .int h)] := hl
  have hx := hm.1
  have hb := hm.2.1
  have hown := hm.2.2.2.2.1
  have hts := hm.2.2.2.2.2.1
  refine lv_iload_n hx hb d_HM_ran_0 rfl (lv_at hl 1 rfl) ?_
  refine b_goi (wr := [(x0, .inr (6, [.ref pl, .ref ho, .ref rs, .ref to, .ref wt, .ref bo]))]) (b_runS (wc := []) (As := [.int h]) (rest := []) hm hw (va_cwS 1 hts (gS2 uw_of k_465 k_463 k_464 k_1) rfl rfl rfl (by decide +kernel) ⟨by decide, by decide⟩) (c_HM_isHour l D k _ h) [] (by decide) rfl rfl hl.1 rfl (Nat.le_of_ble_eq_true rfl) d_HM_ran_1 ⟨by decide, by decide⟩) hw [] [0] rfl rfl (by decide) (by decide) (fun r1 _ H locs hp1 hw => ?_)
  have hw : bW (gU D k) A s H locs [(x0, .inr (6, [.ref pl, .ref ho, .ref rs, .ref to, .ref wt, .ref bo]))] := hw.sub [0] (by decide) rfl
  rcases hp1 with ⟨hr1, hp1⟩ | ⟨hr1, hp1⟩
  · skip
    refine b_ti (y := nI 1) hr1 ?_
    exact absurd hp1 hv9
  · skip
    refine b_ti (y := nI 0) hr1 ?_
    exact b_thru (wc := []) (wr := [(x0, .inr (6, [.ref pl, .ref ho, .ref rs, .ref to, .ref wt, .ref bo]))]) (w1 := []) hm hnh hw [] [0] rfl rfl (by decide) (by decide) (t_runS (As := [.int (nI 0)]) (rest := []) hm (ct_HM_requireArgument l htr D k _) (va_cwS 1 hts (gS2 uw_of k_301 k_299 k_300 k_1) rfl rfl rfl (by decide +kernel) ⟨by decide, by decide⟩) ⟨b_blindE, b_preE hw hE [] (by decide) rfl⟩ rfl hl.1 rfl (Nat.le_of_ble_eq_true rfl) d_HM_ran_4 ⟨by decide, by decide⟩) (fun _ _ _ h => h) rfl rfl rfl

set_option maxHeartbeats 4000000 in
set_option maxRecDepth 100000 in
theorem ct_HM_told1 (l : Launch) (htr : l.stackTraces = false) (D : va_G) (k : Nat → ClassId) (sz : Nat) (x0 ho pl rs to wt bo : Nat) (h : Int32) (hv9 : ¬ (nI 0 ≤ h ∧ h ≤ nI 3)) : MetT l y_HM_told (uw y_HM_told b_HM_told 2 (some .long)) (rU 7 1 6) (va_Pc [.ref x0, .int h] (bPE (gU D k) [(x0, .inr (6, [.ref pl, .ref ho, .ref rs, .ref to, .ref wt, .ref bo]))] sz)) (bQt sIA (bQ (gU D k) (va_A [(x0, .inr (6, [.ref pl, .ref ho, .ref rs, .ref to, .ref wt, .ref bo]))] sz) [(x0, .inr (6, [.ref pl, .ref ho, .ref rs, .ref to, .ref wt, .ref bo]))]) (va_A [(x0, .inr (6, [.ref pl, .ref ho, .ref rs, .ref to, .ref wt, .ref bo]))] sz)) 1 6 (va_A [(x0, .inr (6, [.ref pl, .ref ho, .ref rs, .ref to, .ref wt, .ref bo]))] sz) := by
  refine b_startT (y := y_HM_told) (maxL := 2) (ret := (some .long)) (cc := b_HM_told) (ws' := ut) (rm := rU 7 1 6) (av := [.ref x0, .int h]) (g := gU D k) (ws := [(x0, .inr (6, [.ref pl, .ref ho, .ref rs, .ref to, .ref wt, .ref bo]))]) (sz := sz) (Qc := fun A => bQt sIA (bQ (gU D k) A [(x0, .inr (6, [.ref pl, .ref ho, .ref rs, .ref to, .ref wt, .ref bo]))]) A) (by decide +kernel) (Nat.le_of_ble_eq_true rfl) ?_
  intro p e s m below meth c A hm hnh hE hw ls hl
  have hl : lv_has ls 2 [(0, .ref x0), (1, .int h)] := hl
  have hx := hm.1
  have hb := hm.2.1
  have hown := hm.2.2.2.2.1
  have hts := hm.2.2.2.2.2.1
  refine lv_iload_n hx hb d_HM_told_0 rfl (lv_at hl 1 rfl) ?_
  refine lv_iconst (v := nI 0) hx hb d_HM_told_1 (by decide) ?_
  refine lv_iconst (v := nI 3) hx hb d_HM_told_2 (by decide) ?_
  refine b_goi (wr := [(x0, .inr (6, [.ref pl, .ref ho, .ref rs, .ref to, .ref wt, .ref bo]))]) (b_runS (wc := []) (As := [.int h, .int (nI 0), .int (nI 3)]) (rest := []) hm hw (va_cwS 3 hts (gS2 uw_of k_297 k_295 k_296 k_1) rfl rfl rfl (by decide +kernel) ⟨by decide, by decide⟩) (c_HM_isWithin l D k _ h (nI 0) (nI 3)) [] (by decide) rfl rfl hl.1 rfl (Nat.le_of_ble_eq_true rfl) d_HM_told_3 ⟨by decide, by decide⟩) hw [] [0] rfl rfl (by decide) (by decide) (fun r3 _ H locs hp3 hw => ?_)
  have hw : bW (gU D k) A s H locs [(x0, .inr (6, [.ref pl, .ref ho, .ref rs, .ref to, .ref wt, .ref bo]))] := hw.sub [0] (by decide) rfl
  rcases hp3 with ⟨hr3, hp3⟩ | ⟨hr3, hp3⟩
  · skip
    refine b_ti (y := nI 1) hr3 ?_
    exact absurd hp3 hv9
  · skip
    refine b_ti (y := nI 0) hr3 ?_
    exact b_thru (wc := []) (wr := [(x0, .inr (6, [.ref pl, .ref ho, .ref rs, .ref to, .ref wt, .ref bo]))]) (w1 := []) hm hnh hw [] [0] rfl rfl (by decide) (by decide) (t_runS (As := [.int (nI 0)]) (rest := []) hm (ct_HM_requireArgument l htr D k _) (va_cwS 1 hts (gS2 uw_of k_301 k_299 k_300 k_1) rfl rfl rfl (by decide +kernel) ⟨by decide, by decide⟩) ⟨b_blindE, b_preE hw hE [] (by decide) rfl⟩ rfl hl.1 rfl (Nat.le_of_ble_eq_true rfl) d_HM_told_6 ⟨by decide, by decide⟩) (fun _ _ _ h => h) rfl rfl rfl

set_option maxHeartbeats 4000000 in
set_option maxRecDepth 100000 in
theorem ct_HM_corner1 (l : Launch) (htr : l.stackTraces = false) (D : va_G) (k : Nat → ClassId) (sz : Nat) (x0 ho pl rs to wt bo : Nat) (v y : Int32) (hv9 : ¬ (((-5000) ≤ v ∧ v ≤ nI 5000) ∧ (nI 0 ≤ y ∧ y ≤ nI 10000))) : MetT l y_HM_corner (uw y_HM_corner b_HM_corner 3 (some .int)) (rU 7 1 6) (va_Pc [.ref x0, .int v, .int y] (bPE (gU D k) [(x0, .inr (6, [.ref pl, .ref ho, .ref rs, .ref to, .ref wt, .ref bo]))] sz)) (bQt sIA (bQ (gU D k) (va_A [(x0, .inr (6, [.ref pl, .ref ho, .ref rs, .ref to, .ref wt, .ref bo]))] sz) [(x0, .inr (6, [.ref pl, .ref ho, .ref rs, .ref to, .ref wt, .ref bo]))]) (va_A [(x0, .inr (6, [.ref pl, .ref ho, .ref rs, .ref to, .ref wt, .ref bo]))] sz)) 1 6 (va_A [(x0, .inr (6, [.ref pl, .ref ho, .ref rs, .ref to, .ref wt, .ref bo]))] sz) := by
  refine b_startT (y := y_HM_corner) (maxL := 3) (ret := (some .int)) (cc := b_HM_corner) (ws' := ut) (rm := rU 7 1 6) (av := [.ref x0, .int v, .int y]) (g := gU D k) (ws := [(x0, .inr (6, [.ref pl, .ref ho, .ref rs, .ref to, .ref wt, .ref bo]))]) (sz := sz) (Qc := fun A => bQt sIA (bQ (gU D k) A [(x0, .inr (6, [.ref pl, .ref ho, .ref rs, .ref to, .ref wt, .ref bo]))]) A) (by decide +kernel) (Nat.le_of_ble_eq_true rfl) ?_
  intro p e s m below meth c A hm hnh hE hw ls hl
  have hl : lv_has ls 3 [(0, .ref x0), (1, .int v), (2, .int y)] := hl
  have hx := hm.1
  have hb := hm.2.1
  have hown := hm.2.2.2.2.1
  have hts := hm.2.2.2.2.2.1
  refine lv_iload_n hx hb d_HM_corner_0 rfl (lv_at hl 1 rfl) ?_
  refine b_goi (wr := [(x0, .inr (6, [.ref pl, .ref ho, .ref rs, .ref to, .ref wt, .ref bo]))]) (b_runS (wc := []) (As := [.int v]) (rest := []) hm hw (va_cwS 1 hts (gS2 uw_of k_445 k_443 k_444 k_1) rfl rfl rfl (by decide +kernel) ⟨by decide, by decide⟩) (c_HM_isWarmth l D k _ v) [] (by decide) rfl rfl hl.1 rfl (Nat.le_of_ble_eq_true rfl) d_HM_corner_1 ⟨by decide, by decide⟩) hw [] [0] rfl rfl (by decide) (by decide) (fun r1 _ H locs hp1 hw => ?_)
  have hw : bW (gU D k) A s H locs [(x0, .inr (6, [.ref pl, .ref ho, .ref rs, .ref to, .ref wt, .ref bo]))] := hw.sub [0] (by decide) rfl
  rcases hp1 with ⟨hr1, hp1⟩ | ⟨hr1, hp1⟩
  · skip
    refine b_ti (y := nI 1) hr1 ?_
    refine lv_if_eq (tgt := 22) hx hb d_HM_corner_4 (by decide) (fun c_4_0 => ?_) (fun c_4_0 => ?_)
    · skip
      exact absurd c_4_0 (by decide)
    · skip
      refine lv_iload_n hx hb d_HM_corner_7 rfl (lv_at hl 2 rfl) ?_
      refine lv_iconst (v := nI 0) hx hb d_HM_corner_8 (by decide) ?_
      refine lv_sipush (v := nI 10000) hx hb d_HM_corner_9 (by decide) ?_
      refine b_goi (wr := [(x0, .inr (6, [.ref pl, .ref ho, .ref rs, .ref to, .ref wt, .ref bo]))]) (b_runS (wc := []) (As := [.int y, .int (nI 0), .int (nI 10000)]) (rest := []) hm hw (va_cwS 3 hts (gS2 uw_of k_297 k_295 k_296 k_1) rfl rfl rfl (by decide +kernel) ⟨by decide, by decide⟩) (c_HM_isWithin l D k _ y (nI 0) (nI 10000)) [] (by decide) rfl rfl hl.1 rfl (Nat.le_of_ble_eq_true rfl) d_HM_corner_12 ⟨by decide, by decide⟩) hw [] [0] rfl rfl (by decide) (by decide) (fun r12 _ H locs hp12 hw => ?_)
      have hw : bW (gU D k) A s H locs [(x0, .inr (6, [.ref pl, .ref ho, .ref rs, .ref to, .ref wt, .ref bo]))] := hw.sub [0] (by decide) rfl
      rcases hp12 with ⟨hr12, hp12⟩ | ⟨hr12, hp12⟩
      · skip
        refine b_ti (y := nI 1) hr12 ?_
        refine lv_if_eq (tgt := 22) hx hb d_HM_corner_15 (by decide) (fun c_15_1 => ?_) (fun c_15_1 => ?_)
        · skip
          exact absurd c_15_1 (by decide)
        · skip
          refine lv_iconst (v := nI 1) hx hb d_HM_corner_18 (by decide) ?_
          refine lv_goto (tgt := 23) hx hb d_HM_corner_19 (by decide) ?_
          exact absurd ⟨hp1, hp12⟩ hv9
      · skip
        refine b_ti (y := nI 0) hr12 ?_
        refine lv_if_eq (tgt := 22) hx hb d_HM_corner_15 (by decide) (fun c_15_2 => ?_) (fun c_15_2 => ?_)
        · skip
          refine lv_iconst (v := nI 0) hx hb d_HM_corner_22 (by decide) ?_
          exact b_thru (wc := []) (wr := [(x0, .inr (6, [.ref pl, .ref ho, .ref rs, .ref to, .ref wt, .ref bo]))]) (w1 := []) hm hnh hw [] [0] rfl rfl (by decide) (by decide) (t_runS (As := [.int (nI 0)]) (rest := []) hm (ct_HM_requireArgument l htr D k _) (va_cwS 1 hts (gS2 uw_of k_301 k_299 k_300 k_1) rfl rfl rfl (by decide +kernel) ⟨by decide, by decide⟩) ⟨b_blindE, b_preE hw hE [] (by decide) rfl⟩ rfl hl.1 rfl (Nat.le_of_ble_eq_true rfl) d_HM_corner_23 ⟨by decide, by decide⟩) (fun _ _ _ h => h) rfl rfl rfl
        · skip
          exact absurd c_15_2 (by decide)
  · skip
    refine b_ti (y := nI 0) hr1 ?_
    refine lv_if_eq (tgt := 22) hx hb d_HM_corner_4 (by decide) (fun c_4_3 => ?_) (fun c_4_3 => ?_)
    · skip
      refine lv_iconst (v := nI 0) hx hb d_HM_corner_22 (by decide) ?_
      exact b_thru (wc := []) (wr := [(x0, .inr (6, [.ref pl, .ref ho, .ref rs, .ref to, .ref wt, .ref bo]))]) (w1 := []) hm hnh hw [] [0] rfl rfl (by decide) (by decide) (t_runS (As := [.int (nI 0)]) (rest := []) hm (ct_HM_requireArgument l htr D k _) (va_cwS 1 hts (gS2 uw_of k_301 k_299 k_300 k_1) rfl rfl rfl (by decide +kernel) ⟨by decide, by decide⟩) ⟨b_blindE, b_preE hw hE [] (by decide) rfl⟩ rfl hl.1 rfl (Nat.le_of_ble_eq_true rfl) d_HM_corner_23 ⟨by decide, by decide⟩) (fun _ _ _ h => h) rfl rfl rfl
    · skip
      exact absurd c_4_3 (by decide)

set_option maxHeartbeats 4000000 in
set_option maxRecDepth 100000 in
theorem ct_HM_corner2 (l : Launch) (htr : l.stackTraces = false) (D : va_G) (k : Nat → ClassId) (sz : Nat) (x0 ho pl rs to wt bo wtw wtv wz : Nat) (WF WG : Nat → Int32) (v y : Int32) (hz : wz ≤ 6) (hv9 : ((-5000) ≤ v ∧ v ≤ nI 5000)) (hy : (nI 0 ≤ y ∧ y ≤ nI 10000)) (hs9 : ¬ lnRoom 6 WF wz v) : MetT l y_HM_corner (uw y_HM_corner b_HM_corner 3 (some .int)) (rU 7 1 6) (va_Pc [.ref x0, .int v, .int y] (bPE (gU D k) [(x0, .inr (6, [.ref pl, .ref ho, .ref rs, .ref to, .ref wt, .ref bo])), (wt, .inr (2, [.ref wtw, .ref wtv, .int (nI wz)])), (wtw, .inl (k 0, 6, .inl WF)), (wtv, .inl (k 0, 6, .inl WG))] sz)) (bQt sIS (bQ (gU D k) (va_A [(x0, .inr (6, [.ref pl, .ref ho, .ref rs, .ref to, .ref wt, .ref bo])), (wt, .inr (2, [.ref wtw, .ref wtv, .int (nI wz)])), (wtw, .inl (k 0, 6, .inl WF)), (wtv, .inl (k 0, 6, .inl WG))] sz) [(x0, .inr (6, [.ref pl, .ref ho, .ref rs, .ref to, .ref wt, .ref bo])), (wt, .inr (2, [.ref wtw, .ref wtv, .int (nI wz)])), (wtw, .inl (k 0, 6, .inl WF)), (wtv, .inl (k 0, 6, .inl WG))]) (va_A [(x0, .inr (6, [.ref pl, .ref ho, .ref rs, .ref to, .ref wt, .ref bo])), (wt, .inr (2, [.ref wtw, .ref wtv, .int (nI wz)])), (wtw, .inl (k 0, 6, .inl WF)), (wtv, .inl (k 0, 6, .inl WG))] sz)) 1 6 (va_A [(x0, .inr (6, [.ref pl, .ref ho, .ref rs, .ref to, .ref wt, .ref bo])), (wt, .inr (2, [.ref wtw, .ref wtv, .int (nI wz)])), (wtw, .inl (k 0, 6, .inl WF)), (wtv, .inl (k 0, 6, .inl WG))] sz) := by
  refine b_startT (y := y_HM_corner) (maxL := 3) (ret := (some .int)) (cc := b_HM_corner) (ws' := ut) (rm := rU 7 1 6) (av := [.ref x0, .int v, .int y]) (g := gU D k) (ws := [(x0, .inr (6, [.ref pl, .ref ho, .ref rs, .ref to, .ref wt, .ref bo])), (wt, .inr (2, [.ref wtw, .ref wtv, .int (nI wz)])), (wtw, .inl (k 0, 6, .inl WF)), (wtv, .inl (k 0, 6, .inl WG))]) (sz := sz) (Qc := fun A => bQt sIS (bQ (gU D k) A [(x0, .inr (6, [.ref pl, .ref ho, .ref rs, .ref to, .ref wt, .ref bo])), (wt, .inr (2, [.ref wtw, .ref wtv, .int (nI wz)])), (wtw, .inl (k 0, 6, .inl WF)), (wtv, .inl (k 0, 6, .inl WG))]) A) (by decide +kernel) (Nat.le_of_ble_eq_true rfl) ?_
  intro p e s m below meth c A hm hnh hE hw ls hl
  have hl : lv_has ls 3 [(0, .ref x0), (1, .int v), (2, .int y)] := hl
  have hx := hm.1
  have hb := hm.2.1
  have hown := hm.2.2.2.2.1
  have hts := hm.2.2.2.2.2.1
  refine lv_iload_n hx hb d_HM_corner_0 rfl (lv_at hl 1 rfl) ?_
  refine b_goi (wr := [(x0, .inr (6, [.ref pl, .ref ho, .ref rs, .ref to, .ref wt, .ref bo])), (wt, .inr (2, [.ref wtw, .ref wtv, .int (nI wz)])), (wtw, .inl (k 0, 6, .inl WF)), (wtv, .inl (k 0, 6, .inl WG))]) (b_runS (wc := []) (As := [.int v]) (rest := []) hm hw (va_cwS 1 hts (gS2 uw_of k_445 k_443 k_444 k_1) rfl rfl rfl (by decide +kernel) ⟨by decide, by decide⟩) (c_HM_isWarmth l D k _ v) [] (by decide) rfl rfl hl.1 rfl (Nat.le_of_ble_eq_true rfl) d_HM_corner_1 ⟨by decide, by decide⟩) hw [] [0, 1, 2, 3] rfl rfl (by decide) (by decide) (fun r1 _ H locs hp1 hw => ?_)
  have hw : bW (gU D k) A s H locs [(x0, .inr (6, [.ref pl, .ref ho, .ref rs, .ref to, .ref wt, .ref bo])), (wt, .inr (2, [.ref wtw, .ref wtv, .int (nI wz)])), (wtw, .inl (k 0, 6, .inl WF)), (wtv, .inl (k 0, 6, .inl WG))] := hw.sub [0, 1, 2, 3] (by decide) rfl
  have hr1 : r1 = 1 := by rcases hp1 with ⟨q, _⟩ | ⟨_, q⟩; exact q; exact absurd (hv9) q
  refine b_ti (y := nI 1) hr1 ?_
  refine lv_if_eq (tgt := 22) hx hb d_HM_corner_4 (by decide) (fun c_4_0 => ?_) (fun c_4_0 => ?_)
  · skip
    exact absurd c_4_0 (by decide)
  · skip
    refine lv_iload_n hx hb d_HM_corner_7 rfl (lv_at hl 2 rfl) ?_
    refine lv_iconst (v := nI 0) hx hb d_HM_corner_8 (by decide) ?_
    refine lv_sipush (v := nI 10000) hx hb d_HM_corner_9 (by decide) ?_
    refine b_goi (wr := [(x0, .inr (6, [.ref pl, .ref ho, .ref rs, .ref to, .ref wt, .ref bo])), (wt, .inr (2, [.ref wtw, .ref wtv, .int (nI wz)])), (wtw, .inl (k 0, 6, .inl WF)), (wtv, .inl (k 0, 6, .inl WG))]) (b_runS (wc := []) (As := [.int y, .int (nI 0), .int (nI 10000)]) (rest := []) hm hw (va_cwS 3 hts (gS2 uw_of k_297 k_295 k_296 k_1) rfl rfl rfl (by decide +kernel) ⟨by decide, by decide⟩) (c_HM_isWithin l D k _ y (nI 0) (nI 10000)) [] (by decide) rfl rfl hl.1 rfl (Nat.le_of_ble_eq_true rfl) d_HM_corner_12 ⟨by decide, by decide⟩) hw [] [0, 1, 2, 3] rfl rfl (by decide) (by decide) (fun r12 _ H locs hp12 hw => ?_)
    have hw : bW (gU D k) A s H locs [(x0, .inr (6, [.ref pl, .ref ho, .ref rs, .ref to, .ref wt, .ref bo])), (wt, .inr (2, [.ref wtw, .ref wtv, .int (nI wz)])), (wtw, .inl (k 0, 6, .inl WF)), (wtv, .inl (k 0, 6, .inl WG))] := hw.sub [0, 1, 2, 3] (by decide) rfl
    have hr12 : r12 = 1 := by rcases hp12 with ⟨q, _⟩ | ⟨_, q⟩; exact q; exact absurd (hy) q
    refine b_ti (y := nI 1) hr12 ?_
    refine lv_if_eq (tgt := 22) hx hb d_HM_corner_15 (by decide) (fun c_15_1 => ?_) (fun c_15_1 => ?_)
    · skip
      exact absurd c_15_1 (by decide)
    · skip
      refine lv_iconst (v := nI 1) hx hb d_HM_corner_18 (by decide) ?_
      refine lv_goto (tgt := 23) hx hb d_HM_corner_19 (by decide) ?_
      refine b_gov (wr := [(x0, .inr (6, [.ref pl, .ref ho, .ref rs, .ref to, .ref wt, .ref bo])), (wt, .inr (2, [.ref wtw, .ref wtv, .int (nI wz)])), (wtw, .inl (k 0, 6, .inl WF)), (wtv, .inl (k 0, 6, .inl WG))]) (b_runS (wc := []) (As := [.int (nI 1)]) (rest := []) hm hw (va_cwS 1 hts (gS2 uw_of k_301 k_299 k_300 k_1) rfl rfl rfl (by decide +kernel) ⟨by decide, by decide⟩) (c_HM_requireArgument l D k _ ) [] (by decide) rfl rfl hl.1 rfl (Nat.le_of_ble_eq_true rfl) d_HM_corner_23 ⟨by decide, by decide⟩) hw [] [0, 1, 2, 3] rfl rfl (by decide) (by decide) (fun _ H locs _ hw => ?_)
      have hw : bW (gU D k) A s H locs [(x0, .inr (6, [.ref pl, .ref ho, .ref rs, .ref to, .ref wt, .ref bo])), (wt, .inr (2, [.ref wtw, .ref wtv, .int (nI wz)])), (wtw, .inl (k 0, 6, .inl WF)), (wtv, .inl (k 0, 6, .inl WG))] := hw.sub [0, 1, 2, 3] (by decide) rfl
      refine lv_aload_n hx hb d_HM_corner_26 rfl (lv_at hl 0 rfl) ?_
      refine b_get (T := F_HM) hm hw 0 rfl rfl (fun w h => uw_of w (u_HM w h)) 4 (by decide) (uw_of _ k_208) rfl d_HM_corner_27 ?_
      refine lv_iload_n hx hb d_HM_corner_30 rfl (lv_at hl 1 rfl) ?_
      refine b_goi (wr := [(x0, .inr (6, [.ref pl, .ref ho, .ref rs, .ref to, .ref wt, .ref bo]))]) (b_runV (wc := [(wt, .inr (2, [.ref wtw, .ref wtv, .int (nI wz)])), (wtw, .inl (k 0, 6, .inl WF)), (wtv, .inl (k 0, 6, .inl WG))]) (As := [.int v]) (rest := []) (q0 := 1) hm hw (cwV 1 hts (gV uw_of k_449 k_446 k_447 (k_448) k_5) rfl rfl rfl (by decide +kernel) ⟨by decide, by decide⟩) (c_Ln_hasRoomAt l D k _ wt wtw wtv 6 WF WG wz v hz (by omega)) [1, 2, 3] (by decide) rfl rfl rfl rfl hl.1 rfl (Nat.le_of_ble_eq_true rfl) d_HM_corner_31 ⟨by decide, by decide⟩) hw [1, 2, 3] [0] rfl rfl (by decide) (by decide) (fun r31 _ H locs hp31 hw => ?_)
      have hw : bW (gU D k) A s H locs [(x0, .inr (6, [.ref pl, .ref ho, .ref rs, .ref to, .ref wt, .ref bo])), (wt, .inr (2, [.ref wtw, .ref wtv, .int (nI wz)])), (wtw, .inl (k 0, 6, .inl WF)), (wtv, .inl (k 0, 6, .inl WG))] := hw.sub [0, 1, 2, 3] (by decide) rfl
      have hr31 : r31 = 0 := by rcases hp31 with ⟨_, q⟩ | ⟨q, _⟩; exact absurd q hs9; exact q
      refine b_ti (y := nI 0) hr31 ?_
      exact b_thru (wc := []) (wr := [(x0, .inr (6, [.ref pl, .ref ho, .ref rs, .ref to, .ref wt, .ref bo])), (wt, .inr (2, [.ref wtw, .ref wtv, .int (nI wz)])), (wtw, .inl (k 0, 6, .inl WF)), (wtv, .inl (k 0, 6, .inl WG))]) (w1 := []) hm hnh hw [] [0, 1, 2, 3] rfl rfl (by decide) (by decide) (t_runS (As := [.int (nI 0)]) (rest := []) hm (ct_HM_requireState l htr D k _) (va_cwS 1 hts (gS2 uw_of k_371 k_369 k_370 k_1) rfl rfl rfl (by decide +kernel) ⟨by decide, by decide⟩) ⟨b_blindE, b_preE hw hE [] (by decide) rfl⟩ rfl hl.1 rfl (Nat.le_of_ble_eq_true rfl) d_HM_corner_34 ⟨by decide, by decide⟩) (fun _ _ _ h => h) rfl rfl rfl

set_option maxHeartbeats 4000000 in
set_option maxRecDepth 100000 in
theorem ct_HM_curve1 (l : Launch) (htr : l.stackTraces = false) (D : va_G) (k : Nat → ClassId) (sz : Nat) (x0 ho pl rs to wt bo : Nat) (v : Int32) (hv9 : ¬ ((-5000) ≤ v ∧ v ≤ nI 5000)) : MetT l y_HM_curve (uw y_HM_curve b_HM_curve 2 (some .int)) (rU 7 1 6) (va_Pc [.ref x0, .int v] (bPE (gU D k) [(x0, .inr (6, [.ref pl, .ref ho, .ref rs, .ref to, .ref wt, .ref bo]))] sz)) (bQt sIA (bQ (gU D k) (va_A [(x0, .inr (6, [.ref pl, .ref ho, .ref rs, .ref to, .ref wt, .ref bo]))] sz) [(x0, .inr (6, [.ref pl, .ref ho, .ref rs, .ref to, .ref wt, .ref bo]))]) (va_A [(x0, .inr (6, [.ref pl, .ref ho, .ref rs, .ref to, .ref wt, .ref bo]))] sz)) 1 6 (va_A [(x0, .inr (6, [.ref pl, .ref ho, .ref rs, .ref to, .ref wt, .ref bo]))] sz) := by
  refine b_startT (y := y_HM_curve) (maxL := 2) (ret := (some .int)) (cc := b_HM_curve) (ws' := ut) (rm := rU 7 1 6) (av := [.ref x0, .int v]) (g := gU D k) (ws := [(x0, .inr (6, [.ref pl, .ref ho, .ref rs, .ref to, .ref wt, .ref bo]))]) (sz := sz) (Qc := fun A => bQt sIA (bQ (gU D k) A [(x0, .inr (6, [.ref pl, .ref ho, .ref rs, .ref to, .ref wt, .ref bo]))]) A) (by decide +kernel) (Nat.le_of_ble_eq_true rfl) ?_
  intro p e s m below meth c A hm hnh hE hw ls hl
  have hl : lv_has ls 2 [(0, .ref x0), (1, .int v)] := hl
  have hx := hm.1
  have hb := hm.2.1
  have hown := hm.2.2.2.2.1
  have hts := hm.2.2.2.2.2.1
  refine lv_iload_n hx hb d_HM_curve_0 rfl (lv_at hl 1 rfl) ?_
  refine b_goi (wr := [(x0, .inr (6, [.ref pl, .ref ho, .ref rs, .ref to, .ref wt, .ref bo]))]) (b_runS (wc := []) (As := [.int v]) (rest := []) hm hw (va_cwS 1 hts (gS2 uw_of k_445 k_443 k_444 k_1) rfl rfl rfl (by decide +kernel) ⟨by decide, by decide⟩) (c_HM_isWarmth l D k _ v) [] (by decide) rfl rfl hl.1 rfl (Nat.le_of_ble_eq_true rfl) d_HM_curve_1 ⟨by decide, by decide⟩) hw [] [0] rfl rfl (by decide) (by decide) (fun r1 _ H locs hp1 hw => ?_)
  have hw : bW (gU D k) A s H locs [(x0, .inr (6, [.ref pl, .ref ho, .ref rs, .ref to, .ref wt, .ref bo]))] := hw.sub [0] (by decide) rfl
  rcases hp1 with ⟨hr1, hp1⟩ | ⟨hr1, hp1⟩
  · skip
    refine b_ti (y := nI 1) hr1 ?_
    exact absurd hp1 hv9
  · skip
    refine b_ti (y := nI 0) hr1 ?_
    exact b_thru (wc := []) (wr := [(x0, .inr (6, [.ref pl, .ref ho, .ref rs, .ref to, .ref wt, .ref bo]))]) (w1 := []) hm hnh hw [] [0] rfl rfl (by decide) (by decide) (t_runS (As := [.int (nI 0)]) (rest := []) hm (ct_HM_requireArgument l htr D k _) (va_cwS 1 hts (gS2 uw_of k_301 k_299 k_300 k_1) rfl rfl rfl (by decide +kernel) ⟨by decide, by decide⟩) ⟨b_blindE, b_preE hw hE [] (by decide) rfl⟩ rfl hl.1 rfl (Nat.le_of_ble_eq_true rfl) d_HM_curve_4 ⟨by decide, by decide⟩) (fun _ _ _ h => h) rfl rfl rfl

set_option maxHeartbeats 4000000 in
set_option maxRecDepth 100000 in
theorem ct_HM_ground1 (l : Launch) (htr : l.stackTraces = false) (D : va_G) (k : Nat → ClassId) (sz : Nat) (x0 ho pl rs to wt bo bow bov bz : Nat) (BF BG : Nat → Int32) (v : Int32) (hz : bz ≤ 36) (hv9 : ¬ (bhLast BF bz ≤ v ∧ v ≤ nI 1000)) : MetT l y_HM_ground (uw y_HM_ground b_HM_ground 2 (some .int)) (rU 7 1 6) (va_Pc [.ref x0, .int v] (bPE (gU D k) [(x0, .inr (6, [.ref pl, .ref ho, .ref rs, .ref to, .ref wt, .ref bo])), (bo, .inr (0, [.ref bow, .int (nI bz), .ref bov])), (bow, .inl (k 0, 36, .inl BF)), (bov, .inl (k 0, 36, .inl BG))] sz)) (bQt sIA (bQ (gU D k) (va_A [(x0, .inr (6, [.ref pl, .ref ho, .ref rs, .ref to, .ref wt, .ref bo])), (bo, .inr (0, [.ref bow, .int (nI bz), .ref bov])), (bow, .inl (k 0, 36, .inl BF)), (bov, .inl (k 0, 36, .inl BG))] sz) [(x0, .inr (6, [.ref pl, .ref ho, .ref rs, .ref to, .ref wt, .ref bo])), (bo, .inr (0, [.ref bow, .int (nI bz), .ref bov])), (bow, .inl (k 0, 36, .inl BF)), (bov, .inl (k 0, 36, .inl BG))]) (va_A [(x0, .inr (6, [.ref pl, .ref ho, .ref rs, .ref to, .ref wt, .ref bo])), (bo, .inr (0, [.ref bow, .int (nI bz), .ref bov])), (bow, .inl (k 0, 36, .inl BF)), (bov, .inl (k 0, 36, .inl BG))] sz)) 1 6 (va_A [(x0, .inr (6, [.ref pl, .ref ho, .ref rs, .ref to, .ref wt, .ref bo])), (bo, .inr (0, [.ref bow, .int (nI bz), .ref bov])), (bow, .inl (k 0, 36, .inl BF)), (bov, .inl (k 0, 36, .inl BG))] sz) := by
  refine b_startT (y := y_HM_ground) (maxL := 2) (ret := (some .int)) (cc := b_HM_ground) (ws' := ut) (rm := rU 7 1 6) (av := [.ref x0, .int v]) (g := gU D k) (ws := [(x0, .inr (6, [.ref pl, .ref ho, .ref rs, .ref to, .ref wt, .ref bo])), (bo, .inr (0, [.ref bow, .int (nI bz), .ref bov])), (bow, .inl (k 0, 36, .inl BF)), (bov, .inl (k 0, 36, .inl BG))]) (sz := sz) (Qc := fun A => bQt sIA (bQ (gU D k) A [(x0, .inr (6, [.ref pl, .ref ho, .ref rs, .ref to, .ref wt, .ref bo])), (bo, .inr (0, [.ref bow, .int (nI bz), .ref bov])), (bow, .inl (k 0, 36, .inl BF)), (bov, .inl (k 0, 36, .inl BG))]) A) (by decide +kernel) (Nat.le_of_ble_eq_true rfl) ?_
  intro p e s m below meth c A hm hnh hE hw ls hl
  have hl : lv_has ls 2 [(0, .ref x0), (1, .int v)] := hl
  have hx := hm.1
  have hb := hm.2.1
  have hown := hm.2.2.2.2.1
  have hts := hm.2.2.2.2.2.1
  refine lv_iload_n hx hb d_HM_ground_0 rfl (lv_at hl 1 rfl) ?_
  refine lv_aload_n hx hb d_HM_ground_1 rfl (lv_at hl 0 rfl) ?_
  refine b_get (T := F_HM) hm hw 0 rfl rfl (fun w h => uw_of w (u_HM w h)) 5 (by decide) (uw_of _ k_209) rfl d_HM_ground_2 ?_
  refine b_goi (wr := [(x0, .inr (6, [.ref pl, .ref ho, .ref rs, .ref to, .ref wt, .ref bo]))]) (b_runV (wc := [(bo, .inr (0, [.ref bow, .int (nI bz), .ref bov])), (bow, .inl (k 0, 36, .inl BF)), (bov, .inl (k 0, 36, .inl BG))]) (As := []) (rest := [.int v]) (q0 := 1) hm hw (cwV 0 hts (gV uw_of k_574 k_571 k_572 (k_573) k_8) rfl rfl rfl (by decide +kernel) ⟨by decide, by decide⟩) (c_Bh_lastNumber l D k _ bo bow bov BF BG bz (by omega)) [1, 2, 3] (by decide) rfl rfl rfl rfl hl.1 rfl (Nat.le_of_ble_eq_true rfl) d_HM_ground_5 ⟨by decide, by decide⟩) hw [1, 2, 3] [0] rfl rfl (by decide) (by decide) (fun r5 _ H locs hl5 hw => ?_)
  have hw : bW (gU D k) A s H locs [(x0, .inr (6, [.ref pl, .ref ho, .ref rs, .ref to, .ref wt, .ref bo])), (bo, .inr (0, [.ref bow, .int (nI bz), .ref bov])), (bow, .inl (k 0, 36, .inl BF)), (bov, .inl (k 0, 36, .inl BG))] := hw.sub [0, 1, 2, 3] (by decide) rfl
  refine lv_sipush (v := nI 1000) hx hb d_HM_ground_8 (by decide) ?_
  refine b_goi (wr := [(x0, .inr (6, [.ref pl, .ref ho, .ref rs, .ref to, .ref wt, .ref bo])), (bo, .inr (0, [.ref bow, .int (nI bz), .ref bov])), (bow, .inl (k 0, 36, .inl BF)), (bov, .inl (k 0, 36, .inl BG))]) (b_runS (wc := []) (As := [.int v, .int r5, .int (nI 1000)]) (rest := []) hm hw (va_cwS 3 hts (gS2 uw_of k_297 k_295 k_296 k_1) rfl rfl rfl (by decide +kernel) ⟨by decide, by decide⟩) (c_HM_isWithin l D k _ v r5 (nI 1000)) [] (by decide) rfl rfl hl.1 rfl (Nat.le_of_ble_eq_true rfl) d_HM_ground_11 ⟨by decide, by decide⟩) hw [] [0, 1, 2, 3] rfl rfl (by decide) (by decide) (fun r11 _ H locs hp11 hw => ?_)
  have hw : bW (gU D k) A s H locs [(x0, .inr (6, [.ref pl, .ref ho, .ref rs, .ref to, .ref wt, .ref bo])), (bo, .inr (0, [.ref bow, .int (nI bz), .ref bov])), (bow, .inl (k 0, 36, .inl BF)), (bov, .inl (k 0, 36, .inl BG))] := hw.sub [0, 1, 2, 3] (by decide) rfl
  rcases hp11 with ⟨hr11, hp11⟩ | ⟨hr11, hp11⟩
  · skip
    refine b_ti (y := nI 1) hr11 ?_
    exact absurd (hl5 ▸ hp11) hv9
  · skip
    refine b_ti (y := nI 0) hr11 ?_
    exact b_thru (wc := []) (wr := [(x0, .inr (6, [.ref pl, .ref ho, .ref rs, .ref to, .ref wt, .ref bo])), (bo, .inr (0, [.ref bow, .int (nI bz), .ref bov])), (bow, .inl (k 0, 36, .inl BF)), (bov, .inl (k 0, 36, .inl BG))]) (w1 := []) hm hnh hw [] [0, 1, 2, 3] rfl rfl (by decide) (by decide) (t_runS (As := [.int (nI 0)]) (rest := []) hm (ct_HM_requireArgument l htr D k _) (va_cwS 1 hts (gS2 uw_of k_301 k_299 k_300 k_1) rfl rfl rfl (by decide +kernel) ⟨by decide, by decide⟩) ⟨b_blindE, b_preE hw hE [] (by decide) rfl⟩ rfl hl.1 rfl (Nat.le_of_ble_eq_true rfl) d_HM_ground_14 ⟨by decide, by decide⟩) (fun _ _ _ h => h) rfl rfl rfl

set_option maxHeartbeats 4000000 in
set_option maxRecDepth 100000 in
theorem ct_HM_ground2 (l : Launch) (htr : l.stackTraces = false) (D : va_G) (k : Nat → ClassId) (sz : Nat) (x0 ho pl rs to wt bo bow bov bz : Nat) (BF BG : Nat → Int32) (v : Int32) (hz : bz ≤ 36) (hv9 : bhLast BF bz ≤ v ∧ v ≤ nI 1000) (hs9 : bz = 36) : MetT l y_HM_ground (uw y_HM_ground b_HM_ground 2 (some .int)) (rU 7 1 6) (va_Pc [.ref x0, .int v] (bPE (gU D k) [(x0, .inr (6, [.ref pl, .ref ho, .ref rs, .ref to, .ref wt, .ref bo])), (bo, .inr (0, [.ref bow, .int (nI bz), .ref bov])), (bow, .inl (k 0, 36, .inl BF)), (bov, .inl (k 0, 36, .inl BG))] sz)) (bQt sIS (bQ (gU D k) (va_A [(x0, .inr (6, [.ref pl, .ref ho, .ref rs, .ref to, .ref wt, .ref bo])), (bo, .inr (0, [.ref bow, .int (nI bz), .ref bov])), (bow, .inl (k 0, 36, .inl BF)), (bov, .inl (k 0, 36, .inl BG))] sz) [(x0, .inr (6, [.ref pl, .ref ho, .ref rs, .ref to, .ref wt, .ref bo])), (bo, .inr (0, [.ref bow, .int (nI bz), .ref bov])), (bow, .inl (k 0, 36, .inl BF)), (bov, .inl (k 0, 36, .inl BG))]) (va_A [(x0, .inr (6, [.ref pl, .ref ho, .ref rs, .ref to, .ref wt, .ref bo])), (bo, .inr (0, [.ref bow, .int (nI bz), .ref bov])), (bow, .inl (k 0, 36, .inl BF)), (bov, .inl (k 0, 36, .inl BG))] sz)) 1 6 (va_A [(x0, .inr (6, [.ref pl, .ref ho, .ref rs, .ref to, .ref wt, .ref bo])), (bo, .inr (0, [.ref bow, .int (nI bz), .ref bov])), (bow, .inl (k 0, 36, .inl BF)), (bov, .inl (k 0, 36, .inl BG))] sz) := by
  refine b_startT (y := y_HM_ground) (maxL := 2) (ret := (some .int)) (cc := b_HM_ground) (ws' := ut) (rm := rU 7 1 6) (av := [.ref x0, .int v]) (g := gU D k) (ws := [(x0, .inr (6, [.ref pl, .ref ho, .ref rs, .ref to, .ref wt, .ref bo])), (bo, .inr (0, [.ref bow, .int (nI bz), .ref bov])), (bow, .inl (k 0, 36, .inl BF)), (bov, .inl (k 0, 36, .inl BG))]) (sz := sz) (Qc := fun A => bQt sIS (bQ (gU D k) A [(x0, .inr (6, [.ref pl, .ref ho, .ref rs, .ref to, .ref wt, .ref bo])), (bo, .inr (0, [.ref bow, .int (nI bz), .ref bov])), (bow, .inl (k 0, 36, .inl BF)), (bov, .inl (k 0, 36, .inl BG))]) A) (by decide +kernel) (Nat.le_of_ble_eq_true rfl) ?_
  intro p e s m below meth c A hm hnh hE hw ls hl
  have hl : lv_has ls 2 [(0, .ref x0), (1, .int v)] := hl
  have hx := hm.1
  have hb := hm.2.1
  have hown := hm.2.2.2.2.1
  have hts := hm.2.2.2.2.2.1
  refine lv_iload_n hx hb d_HM_ground_0 rfl (lv_at hl 1 rfl) ?_
  refine lv_aload_n hx hb d_HM_ground_1 rfl (lv_at hl 0 rfl) ?_
  refine b_get (T := F_HM) hm hw 0 rfl rfl (fun w h => uw_of w (u_HM w h)) 5 (by decide) (uw_of _ k_209) rfl d_HM_ground_2 ?_
  refine b_goi (wr := [(x0, .inr (6, [.ref pl, .ref ho, .ref rs, .ref to, .ref wt, .ref bo]))]) (b_runV (wc := [(bo, .inr (0, [.ref bow, .int (nI bz), .ref bov])), (bow, .inl (k 0, 36, .inl BF)), (bov, .inl (k 0, 36, .inl BG))]) (As := []) (rest := [.int v]) (q0 := 1) hm hw (cwV 0 hts (gV uw_of k_574 k_571 k_572 (k_573) k_8) rfl rfl rfl (by decide +kernel) ⟨by decide, by decide⟩) (c_Bh_lastNumber l D k _ bo bow bov BF BG bz (by omega)) [1, 2, 3] (by decide) rfl rfl rfl rfl hl.1 rfl (Nat.le_of_ble_eq_true rfl) d_HM_ground_5 ⟨by decide, by decide⟩) hw [1, 2, 3] [0] rfl rfl (by decide) (by decide) (fun r5 _ H locs hl5 hw => ?_)
  have hw : bW (gU D k) A s H locs [(x0, .inr (6, [.ref pl, .ref ho, .ref rs, .ref to, .ref wt, .ref bo])), (bo, .inr (0, [.ref bow, .int (nI bz), .ref bov])), (bow, .inl (k 0, 36, .inl BF)), (bov, .inl (k 0, 36, .inl BG))] := hw.sub [0, 1, 2, 3] (by decide) rfl
  refine lv_sipush (v := nI 1000) hx hb d_HM_ground_8 (by decide) ?_
  refine b_goi (wr := [(x0, .inr (6, [.ref pl, .ref ho, .ref rs, .ref to, .ref wt, .ref bo])), (bo, .inr (0, [.ref bow, .int (nI bz), .ref bov])), (bow, .inl (k 0, 36, .inl BF)), (bov, .inl (k 0, 36, .inl BG))]) (b_runS (wc := []) (As := [.int v, .int r5, .int (nI 1000)]) (rest := []) hm hw (va_cwS 3 hts (gS2 uw_of k_297 k_295 k_296 k_1) rfl rfl rfl (by decide +kernel) ⟨by decide, by decide⟩) (c_HM_isWithin l D k _ v r5 (nI 1000)) [] (by decide) rfl rfl hl.1 rfl (Nat.le_of_ble_eq_true rfl) d_HM_ground_11 ⟨by decide, by decide⟩) hw [] [0, 1, 2, 3] rfl rfl (by decide) (by decide) (fun r11 _ H locs hp11 hw => ?_)
  have hw : bW (gU D k) A s H locs [(x0, .inr (6, [.ref pl, .ref ho, .ref rs, .ref to, .ref wt, .ref bo])), (bo, .inr (0, [.ref bow, .int (nI bz), .ref bov])), (bow, .inl (k 0, 36, .inl BF)), (bov, .inl (k 0, 36, .inl BG))] := hw.sub [0, 1, 2, 3] (by decide) rfl
  have hr11 : r11 = 1 := by rcases hp11 with ⟨q, _⟩ | ⟨_, q⟩; exact q; exact absurd (by rw [hl5]; exact hv9) q
  refine b_ti (y := nI 1) hr11 ?_
  refine b_gov (wr := [(x0, .inr (6, [.ref pl, .ref ho, .ref rs, .ref to, .ref wt, .ref bo])), (bo, .inr (0, [.ref bow, .int (nI bz), .ref bov])), (bow, .inl (k 0, 36, .inl BF)), (bov, .inl (k 0, 36, .inl BG))]) (b_runS (wc := []) (As := [.int (nI 1)]) (rest := []) hm hw (va_cwS 1 hts (gS2 uw_of k_301 k_299 k_300 k_1) rfl rfl rfl (by decide +kernel) ⟨by decide, by decide⟩) (c_HM_requireArgument l D k _ ) [] (by decide) rfl rfl hl.1 rfl (Nat.le_of_ble_eq_true rfl) d_HM_ground_14 ⟨by decide, by decide⟩) hw [] [0, 1, 2, 3] rfl rfl (by decide) (by decide) (fun _ H locs _ hw => ?_)
  have hw : bW (gU D k) A s H locs [(x0, .inr (6, [.ref pl, .ref ho, .ref rs, .ref to, .ref wt, .ref bo])), (bo, .inr (0, [.ref bow, .int (nI bz), .ref bov])), (bow, .inl (k 0, 36, .inl BF)), (bov, .inl (k 0, 36, .inl BG))] := hw.sub [0, 1, 2, 3] (by decide) rfl
  refine lv_aload_n hx hb d_HM_ground_17 rfl (lv_at hl 0 rfl) ?_
  refine b_get (T := F_HM) hm hw 0 rfl rfl (fun w h => uw_of w (u_HM w h)) 5 (by decide) (uw_of _ k_209) rfl d_HM_ground_18 ?_
  refine b_getN (T := F_Bh) hm hw 1 rfl rfl (fun w h => uw_of w (u_Bh w h)) 1 (by decide) (k_194) rfl d_HM_ground_21 ?_
  refine lv_bipush (v := nI 36) hx hb d_HM_ground_24 (by decide) ?_
  refine lv_icmp_ge (tgt := 33) hx hb d_HM_ground_26 (by decide) (fun c_26_0 => ?_) (fun c_26_0 => ?_)
  · skip
    have h_26_0 : 36 ≤ bz := yge c_26_0 (by omega) (by omega)
    refine lv_iconst (v := nI 0) hx hb d_HM_ground_33 (by decide) ?_
    exact b_thru (wc := []) (wr := [(x0, .inr (6, [.ref pl, .ref ho, .ref rs, .ref to, .ref wt, .ref bo])), (bo, .inr (0, [.ref bow, .int (nI bz), .ref bov])), (bow, .inl (k 0, 36, .inl BF)), (bov, .inl (k 0, 36, .inl BG))]) (w1 := []) hm hnh hw [] [0, 1, 2, 3] rfl rfl (by decide) (by decide) (t_runS (As := [.int (nI 0)]) (rest := []) hm (ct_HM_requireState l htr D k _) (va_cwS 1 hts (gS2 uw_of k_371 k_369 k_370 k_1) rfl rfl rfl (by decide +kernel) ⟨by decide, by decide⟩) ⟨b_blindE, b_preE hw hE [] (by decide) rfl⟩ rfl hl.1 rfl (Nat.le_of_ble_eq_true rfl) d_HM_ground_34 ⟨by decide, by decide⟩) (fun _ _ _ h => h) rfl rfl rfl
  · skip
    have h_26_0 : bz < 36 := yltN c_26_0 (by omega) (by omega)
    refine lv_iconst (v := nI 1) hx hb d_HM_ground_29 (by decide) ?_
    refine lv_goto (tgt := 34) hx hb d_HM_ground_30 (by decide) ?_
    exfalso; omega

set_option maxHeartbeats 4000000 in
set_option maxRecDepth 100000 in
theorem ct_HM_load1 (l : Launch) (htr : l.stackTraces = false) (D : va_G) (k : Nat → ClassId) (sz : Nat) (x0 ho pl rs to wt bo : Nat) (h v : Int32) (hv9 : ¬ ((nI 0 ≤ h ∧ h ≤ nI 35) ∧ ((-1000) ≤ v ∧ v ≤ nI 1000))) : MetT l y_HM_load (uw y_HM_load b_HM_load 4 (some .int)) (rU 7 1 6) (va_Pc [.ref x0, .int h, .int v] (bPE (gU D k) [(x0, .inr (6, [.ref pl, .ref ho, .ref rs, .ref to, .ref wt, .ref bo]))] sz)) (bQt sIA (bQ (gU D k) (va_A [(x0, .inr (6, [.ref pl, .ref ho, .ref rs, .ref to, .ref wt, .ref bo]))] sz) [(x0, .inr (6, [.ref pl, .ref ho, .ref rs, .ref to, .ref wt, .ref bo]))]) (va_A [(x0, .inr (6, [.ref pl, .ref ho, .ref rs, .ref to, .ref wt, .ref bo]))] sz)) 1 6 (va_A [(x0, .inr (6, [.ref pl, .ref ho, .ref rs, .ref to, .ref wt, .ref bo]))] sz) := by
  refine b_startT (y := y_HM_load) (maxL := 4) (ret := (some .int)) (cc := b_HM_load) (ws' := ut) (rm := rU 7 1 6) (av := [.ref x0, .int h, .int v]) (g := gU D k) (ws := [(x0, .inr (6, [.ref pl, .ref ho, .ref rs, .ref to, .ref wt, .ref bo]))]) (sz := sz) (Qc := fun A => bQt sIA (bQ (gU D k) A [(x0, .inr (6, [.ref pl, .ref ho, .ref rs, .ref to, .ref wt, .ref bo]))]) A) (by decide +kernel) (Nat.le_of_ble_eq_true rfl) ?_
  intro p e s m below meth c A hm hnh hE hw ls hl
  have hl : lv_has ls 4 [(0, .ref x0), (1, .int h), (2, .int v)] := hl
  have hx := hm.1
  have hb := hm.2.1
  have hown := hm.2.2.2.2.1
  have hts := hm.2.2.2.2.2.1
  refine lv_iload_n hx hb d_HM_load_0 rfl (lv_at hl 1 rfl) ?_
  refine b_goi (wr := [(x0, .inr (6, [.ref pl, .ref ho, .ref rs, .ref to, .ref wt, .ref bo]))]) (b_runS (wc := []) (As := [.int h]) (rest := []) hm hw (va_cwS 1 hts (gS2 uw_of k_465 k_463 k_464 k_1) rfl rfl rfl (by decide +kernel) ⟨by decide, by decide⟩) (c_HM_isHour l D k _ h) [] (by decide) rfl rfl hl.1 rfl (Nat.le_of_ble_eq_true rfl) d_HM_load_1 ⟨by decide, by decide⟩) hw [] [0] rfl rfl (by decide) (by decide) (fun r1 _ H locs hp1 hw => ?_)
  have hw : bW (gU D k) A s H locs [(x0, .inr (6, [.ref pl, .ref ho, .ref rs, .ref to, .ref wt, .ref bo]))] := hw.sub [0] (by decide) rfl
  rcases hp1 with ⟨hr1, hp1⟩ | ⟨hr1, hp1⟩
  · skip
    refine b_ti (y := nI 1) hr1 ?_
    refine lv_if_eq (tgt := 24) hx hb d_HM_load_4 (by decide) (fun c_4_0 => ?_) (fun c_4_0 => ?_)
    · skip
      exact absurd c_4_0 (by decide)
    · skip
      refine lv_iload_n hx hb d_HM_load_7 rfl (lv_at hl 2 rfl) ?_
      refine lv_sipush (v := (-1000)) hx hb d_HM_load_8 (by decide) ?_
      refine lv_sipush (v := nI 1000) hx hb d_HM_load_11 (by decide) ?_
      refine b_goi (wr := [(x0, .inr (6, [.ref pl, .ref ho, .ref rs, .ref to, .ref wt, .ref bo]))]) (b_runS (wc := []) (As := [.int v, .int (-1000), .int (nI 1000)]) (rest := []) hm hw (va_cwS 3 hts (gS2 uw_of k_297 k_295 k_296 k_1) rfl rfl rfl (by decide +kernel) ⟨by decide, by decide⟩) (c_HM_isWithin l D k _ v (-1000) (nI 1000)) [] (by decide) rfl rfl hl.1 rfl (Nat.le_of_ble_eq_true rfl) d_HM_load_14 ⟨by decide, by decide⟩) hw [] [0] rfl rfl (by decide) (by decide) (fun r14 _ H locs hp14 hw => ?_)
      have hw : bW (gU D k) A s H locs [(x0, .inr (6, [.ref pl, .ref ho, .ref rs, .ref to, .ref wt, .ref bo]))] := hw.sub [0] (by decide) rfl
      rcases hp14 with ⟨hr14, hp14⟩ | ⟨hr14, hp14⟩
      · skip
        refine b_ti (y := nI 1) hr14 ?_
        refine lv_if_eq (tgt := 24) hx hb d_HM_load_17 (by decide) (fun c_17_1 => ?_) (fun c_17_1 => ?_)
        · skip
          exact absurd c_17_1 (by decide)
        · skip
          refine lv_iconst (v := nI 1) hx hb d_HM_load_20 (by decide) ?_
          refine lv_goto (tgt := 25) hx hb d_HM_load_21 (by decide) ?_
          exact absurd ⟨hp1, hp14⟩ hv9
      · skip
        refine b_ti (y := nI 0) hr14 ?_
        refine lv_if_eq (tgt := 24) hx hb d_HM_load_17 (by decide) (fun c_17_2 => ?_) (fun c_17_2 => ?_)
        · skip
          refine lv_iconst (v := nI 0) hx hb d_HM_load_24 (by decide) ?_
          exact b_thru (wc := []) (wr := [(x0, .inr (6, [.ref pl, .ref ho, .ref rs, .ref to, .ref wt, .ref bo]))]) (w1 := []) hm hnh hw [] [0] rfl rfl (by decide) (by decide) (t_runS (As := [.int (nI 0)]) (rest := []) hm (ct_HM_requireArgument l htr D k _) (va_cwS 1 hts (gS2 uw_of k_301 k_299 k_300 k_1) rfl rfl rfl (by decide +kernel) ⟨by decide, by decide⟩) ⟨b_blindE, b_preE hw hE [] (by decide) rfl⟩ rfl hl.1 rfl (Nat.le_of_ble_eq_true rfl) d_HM_load_25 ⟨by decide, by decide⟩) (fun _ _ _ h => h) rfl rfl rfl
        · skip
          exact absurd c_17_2 (by decide)
  · skip
    refine b_ti (y := nI 0) hr1 ?_
    refine lv_if_eq (tgt := 24) hx hb d_HM_load_4 (by decide) (fun c_4_3 => ?_) (fun c_4_3 => ?_)
    · skip
      refine lv_iconst (v := nI 0) hx hb d_HM_load_24 (by decide) ?_
      exact b_thru (wc := []) (wr := [(x0, .inr (6, [.ref pl, .ref ho, .ref rs, .ref to, .ref wt, .ref bo]))]) (w1 := []) hm hnh hw [] [0] rfl rfl (by decide) (by decide) (t_runS (As := [.int (nI 0)]) (rest := []) hm (ct_HM_requireArgument l htr D k _) (va_cwS 1 hts (gS2 uw_of k_301 k_299 k_300 k_1) rfl rfl rfl (by decide +kernel) ⟨by decide, by decide⟩) ⟨b_blindE, b_preE hw hE [] (by decide) rfl⟩ rfl hl.1 rfl (Nat.le_of_ble_eq_true rfl) d_HM_load_25 ⟨by decide, by decide⟩) (fun _ _ _ h => h) rfl rfl rfl
    · skip
      exact absurd c_4_3 (by decide)

set_option maxHeartbeats 4000000 in
set_option maxRecDepth 100000 in
theorem ct_HM_fall1 (l : Launch) (htr : l.stackTraces = false) (D : va_G) (k : Nat → ClassId) (sz : Nat) (x0 ho pl rs to wt bo : Nat) (h : Int32) (hv9 : ¬ (nI 0 ≤ h ∧ h ≤ nI 35)) : MetT l y_HM_fall (uw y_HM_fall b_HM_fall 2 (some .long)) (rU 7 1 6) (va_Pc [.ref x0, .int h] (bPE (gU D k) [(x0, .inr (6, [.ref pl, .ref ho, .ref rs, .ref to, .ref wt, .ref bo]))] sz)) (bQt sIA (bQ (gU D k) (va_A [(x0, .inr (6, [.ref pl, .ref ho, .ref rs, .ref to, .ref wt, .ref bo]))] sz) [(x0, .inr (6, [.ref pl, .ref ho, .ref rs, .ref to, .ref wt, .ref bo]))]) (va_A [(x0, .inr (6, [.ref pl, .ref ho, .ref rs, .ref to, .ref wt, .ref bo]))] sz)) 1 6 (va_A [(x0, .inr (6, [.ref pl, .ref ho, .ref rs, .ref to, .ref wt, .ref bo]))] sz) := by
  refine b_startT (y := y_HM_fall) (maxL := 2) (ret := (some .long)) (cc := b_HM_fall) (ws' := ut) (rm := rU 7 1 6) (av := [.ref x0, .int h]) (g := gU D k) (ws := [(x0, .inr (6, [.ref pl, .ref ho, .ref rs, .ref to, .ref wt, .ref bo]))]) (sz := sz) (Qc := fun A => bQt sIA (bQ (gU D k) A [(x0, .inr (6, [.ref pl, .ref ho, .ref rs, .ref to, .ref wt, .ref bo]))]) A) (by decide +kernel) (Nat.le_of_ble_eq_true rfl) ?_
  intro p e s m below meth c A hm hnh hE hw ls hl
  have hl : lv_has ls 2 [(0, .ref x0), (1, .int h)] := hl
  have hx := hm.1
  have hb := hm.2.1
  have hown := hm.2.2.2.2.1
  have hts := hm.2.2.2.2.2.1
  refine lv_iload_n hx hb d_HM_fall_0 rfl (lv_at hl 1 rfl) ?_
  refine b_goi (wr := [(x0, .inr (6, [.ref pl, .ref ho, .ref rs, .ref to, .ref wt, .ref bo]))]) (b_runS (wc := []) (As := [.int h]) (rest := []) hm hw (va_cwS 1 hts (gS2 uw_of k_465 k_463 k_464 k_1) rfl rfl rfl (by decide +kernel) ⟨by decide, by decide⟩) (c_HM_isHour l D k _ h) [] (by decide) rfl rfl hl.1 rfl (Nat.le_of_ble_eq_true rfl) d_HM_fall_1 ⟨by decide, by decide⟩) hw [] [0] rfl rfl (by decide) (by decide) (fun r1 _ H locs hp1 hw => ?_)
  have hw : bW (gU D k) A s H locs [(x0, .inr (6, [.ref pl, .ref ho, .ref rs, .ref to, .ref wt, .ref bo]))] := hw.sub [0] (by decide) rfl
  rcases hp1 with ⟨hr1, hp1⟩ | ⟨hr1, hp1⟩
  · skip
    refine b_ti (y := nI 1) hr1 ?_
    exact absurd hp1 hv9
  · skip
    refine b_ti (y := nI 0) hr1 ?_
    exact b_thru (wc := []) (wr := [(x0, .inr (6, [.ref pl, .ref ho, .ref rs, .ref to, .ref wt, .ref bo]))]) (w1 := []) hm hnh hw [] [0] rfl rfl (by decide) (by decide) (t_runS (As := [.int (nI 0)]) (rest := []) hm (ct_HM_requireArgument l htr D k _) (va_cwS 1 hts (gS2 uw_of k_301 k_299 k_300 k_1) rfl rfl rfl (by decide +kernel) ⟨by decide, by decide⟩) ⟨b_blindE, b_preE hw hE [] (by decide) rfl⟩ rfl hl.1 rfl (Nat.le_of_ble_eq_true rfl) d_HM_fall_4 ⟨by decide, by decide⟩) (fun _ _ _ h => h) rfl rfl rfl
