/-! the reference: the calls that no plan needs -/

set_option maxHeartbeats 4000000 in
set_option maxRecDepth 100000 in
theorem c_Md_machine_t1 (l : Launch) (D : va_G) (k : Nat → ClassId) (sz : Nat) (md : Nat) (za : Nat → Nat) (th cn ov sn kn fd : Nat) (cst : Int64) (co tb : Nat) (a b q : Int32) (hv9 : ¬ ((nI 1 ≤ a ∧ a ≤ nI 4) ∧ (nI 1 ≤ b ∧ b ≤ nI 4) ∧ (nI 0 ≤ q ∧ q ≤ nI 100000))) : Met l y_Md_machine (uw y_Md_machine b_Md_machine 4 (some .int)) (rU 1 0 0) (va_Pc [.ref md, .int a, .int b, .int q] (bP (gU D k) [(md, .inr (7, mdL za th cn ov sn kn fd cst co tb))] sz)) (va_Qi (fun (r : Int32) (_ : Unit) => r = 0) (fun u => bQ (gU D k) (va_A [(md, .inr (7, mdL za th cn ov sn kn fd cst co tb))] sz) ([(md, .inr (7, mdL za 1 cn ov sn kn fd cst co tb))])) (va_A [(md, .inr (7, mdL za th cn ov sn kn fd cst co tb))] sz)) (rU 1 0 0).cells (rU 1 0 0).slots (va_A [(md, .inr (7, mdL za th cn ov sn kn fd cst co tb))] sz) := by
  refine b_start (y := y_Md_machine) (maxL := 4) (ret := (some .int)) (cc := b_Md_machine) (ws' := ut) (rm := rU 1 0 0) (av := [.ref md, .int a, .int b, .int q]) (g := gU D k) (ws := [(md, .inr (7, mdL za th cn ov sn kn fd cst co tb))]) (sz := sz) (Qc := fun A => va_Qi (fun (r : Int32) (_ : Unit) => r = 0) (fun u => bQ (gU D k) A ([(md, .inr (7, mdL za 1 cn ov sn kn fd cst co tb))])) A) (by decide +kernel) (Nat.le_of_ble_eq_true rfl) ?_
  intro p e s m below meth c A hm hnm hw ls hl
  have hl : lv_has ls 4 [(0, .ref md), (1, .int a), (2, .int b), (3, .int q)] := hl
  have hx := hm.1
  have hb := hm.2.1
  have hown := hm.2.2.2.2.1
  have hts := hm.2.2.2.2.2.1
  refine lv_aload_n hx hb d_Md_machine_0 rfl (lv_at hl 0 rfl) ?_
  refine lv_iload_n hx hb d_Md_machine_1 rfl (lv_at hl 1 rfl) ?_
  refine lv_iconst (v := nI 1) hx hb d_Md_machine_2 (by decide) ?_
  refine lv_iconst (v := nI 4) hx hb d_Md_machine_3 (by decide) ?_
  refine b_goi (wr := [(md, .inr (7, mdL za th cn ov sn kn fd cst co tb))]) (b_runS (wc := []) (As := [.int a, .int (nI 1), .int (nI 4)]) (rest := [.ref md]) hm hw (va_cwS 3 hts (gS2 uw_of k_733 k_731 k_732 k_9) rfl rfl rfl (by decide +kernel) ⟨by decide, by decide⟩) (c_Md_in l D k _ a (nI 1) (nI 4)) [] (by decide) rfl rfl hl.1 rfl (Nat.le_of_ble_eq_true rfl) d_Md_machine_4 ⟨by decide, by decide⟩) hw [] [0] rfl rfl (by decide) (by decide) (fun r4 _ H locs hp4 hw => ?_)
  have hw : bW (gU D k) A s H locs [(md, .inr (7, mdL za th cn ov sn kn fd cst co tb))] := hw.sub [0] (by decide) rfl
  rcases hp4 with ⟨hr4, hp4⟩ | ⟨hr4, hp4⟩
  · skip
    refine b_ti (y := nI 1) hr4 ?_
    refine lv_if_eq (tgt := 29) hx hb d_Md_machine_7 (by decide) (fun c_7_0 => ?_) (fun c_7_0 => ?_)
    · skip
      exact absurd c_7_0 (by decide)
    · skip
      refine lv_iload_n hx hb d_Md_machine_10 rfl (lv_at hl 2 rfl) ?_
      refine lv_iconst (v := nI 1) hx hb d_Md_machine_11 (by decide) ?_
      refine lv_iconst (v := nI 4) hx hb d_Md_machine_12 (by decide) ?_
      refine b_goi (wr := [(md, .inr (7, mdL za th cn ov sn kn fd cst co tb))]) (b_runS (wc := []) (As := [.int b, .int (nI 1), .int (nI 4)]) (rest := [.ref md]) hm hw (va_cwS 3 hts (gS2 uw_of k_733 k_731 k_732 k_9) rfl rfl rfl (by decide +kernel) ⟨by decide, by decide⟩) (c_Md_in l D k _ b (nI 1) (nI 4)) [] (by decide) rfl rfl hl.1 rfl (Nat.le_of_ble_eq_true rfl) d_Md_machine_13 ⟨by decide, by decide⟩) hw [] [0] rfl rfl (by decide) (by decide) (fun r13 _ H locs hp13 hw => ?_)
      have hw : bW (gU D k) A s H locs [(md, .inr (7, mdL za th cn ov sn kn fd cst co tb))] := hw.sub [0] (by decide) rfl
      rcases hp13 with ⟨hr13, hp13⟩ | ⟨hr13, hp13⟩
      · skip
        refine b_ti (y := nI 1) hr13 ?_
        refine lv_if_eq (tgt := 29) hx hb d_Md_machine_16 (by decide) (fun c_16_1 => ?_) (fun c_16_1 => ?_)
        · skip
          exact absurd c_16_1 (by decide)
        · skip
          refine lv_iload_n hx hb d_Md_machine_19 rfl (lv_at hl 3 rfl) ?_
          refine lv_iconst (v := nI 0) hx hb d_Md_machine_20 (by decide) ?_
          refine lv_ldc (v := 100000) hx hb hown (hts _ (uw_of _ k_734)) d_Md_machine_21 ?_
          refine b_ti (show (100000 : Int32) = nI 100000 from rfl) ?_
          refine b_goi (wr := [(md, .inr (7, mdL za th cn ov sn kn fd cst co tb))]) (b_runS (wc := []) (As := [.int q, .int (nI 0), .int (nI 100000)]) (rest := [.ref md]) hm hw (va_cwS 3 hts (gS2 uw_of k_733 k_731 k_732 k_9) rfl rfl rfl (by decide +kernel) ⟨by decide, by decide⟩) (c_Md_in l D k _ q (nI 0) (nI 100000)) [] (by decide) rfl rfl hl.1 rfl (Nat.le_of_ble_eq_true rfl) d_Md_machine_23 ⟨by decide, by decide⟩) hw [] [0] rfl rfl (by decide) (by decide) (fun r23 _ H locs hp23 hw => ?_)
          have hw : bW (gU D k) A s H locs [(md, .inr (7, mdL za th cn ov sn kn fd cst co tb))] := hw.sub [0] (by decide) rfl
          rcases hp23 with ⟨hr23, hp23⟩ | ⟨hr23, hp23⟩
          · skip
            refine b_ti (y := nI 1) hr23 ?_
            refine lv_if_ne (tgt := 33) hx hb d_Md_machine_26 (by decide) (fun c_26_2 => ?_) (fun c_26_2 => ?_)
            · skip
              exact absurd ⟨hp4, hp13, hp23⟩ hv9
            · skip
              exact absurd c_26_2 (by decide)
          · skip
            refine b_ti (y := nI 0) hr23 ?_
            refine lv_if_ne (tgt := 33) hx hb d_Md_machine_26 (by decide) (fun c_26_3 => ?_) (fun c_26_3 => ?_)
            · skip
              exact absurd c_26_3 (by decide)
            · skip
              refine lv_iconst (v := nI 1) hx hb d_Md_machine_29 (by decide) ?_
              refine lv_goto (tgt := 53) hx hb d_Md_machine_30 (by decide) ?_
              refine b_put (T := F_Md) hm hw 0 rfl rfl (fun w h => uw_of w (u_Md w h)) t_Md t_Md_ok n_Md 0 (by decide) (uw_of _ k_608) rfl rfl rfl (Nat.le_of_ble_eq_true rfl) d_Md_machine_53 (w1 := [(md, .inr (7, mdL za 1 cn ov sn kn fd cst co tb))]) rfl (fun H locs hw => ?_)
              refine lv_aload_n hx hb d_Md_machine_56 rfl (lv_at hl 0 rfl) ?_
              refine b_get (T := F_Md) hm hw 0 rfl rfl (fun w h => uw_of w (u_Md w h)) 0 (by decide) (uw_of _ k_608) rfl d_Md_machine_57 ?_
              refine lv_if_le (tgt := 65) hx hb d_Md_machine_60 (by decide) (fun c_60_4 => ?_) (fun c_60_4 => ?_)
              · skip
                exact absurd c_60_4 (by decide)
              · skip
                refine lv_iconst (v := nI 0) hx hb d_Md_machine_63 (by decide) ?_
                exact b_iret (post := fun (r : Int32) (_ : Unit) => r = 0) (w' := fun u => [(md, .inr (7, mdL za 1 cn ov sn kn fd cst co tb))]) () hm hw (rfl) d_Md_machine_64
      · skip
        refine b_ti (y := nI 0) hr13 ?_
        refine lv_if_eq (tgt := 29) hx hb d_Md_machine_16 (by decide) (fun c_16_5 => ?_) (fun c_16_5 => ?_)
        · skip
          refine lv_iconst (v := nI 1) hx hb d_Md_machine_29 (by decide) ?_
          refine lv_goto (tgt := 53) hx hb d_Md_machine_30 (by decide) ?_
          refine b_put (T := F_Md) hm hw 0 rfl rfl (fun w h => uw_of w (u_Md w h)) t_Md t_Md_ok n_Md 0 (by decide) (uw_of _ k_608) rfl rfl rfl (Nat.le_of_ble_eq_true rfl) d_Md_machine_53 (w1 := [(md, .inr (7, mdL za 1 cn ov sn kn fd cst co tb))]) rfl (fun H locs hw => ?_)
          refine lv_aload_n hx hb d_Md_machine_56 rfl (lv_at hl 0 rfl) ?_
          refine b_get (T := F_Md) hm hw 0 rfl rfl (fun w h => uw_of w (u_Md w h)) 0 (by decide) (uw_of _ k_608) rfl d_Md_machine_57 ?_
          refine lv_if_le (tgt := 65) hx hb d_Md_machine_60 (by decide) (fun c_60_6 => ?_) (fun c_60_6 => ?_)
          · skip
            exact absurd c_60_6 (by decide)
          · skip
            refine lv_iconst (v := nI 0) hx hb d_Md_machine_63 (by decide) ?_
            exact b_iret (post := fun (r : Int32) (_ : Unit) => r = 0) (w' := fun u => [(md, .inr (7, mdL za 1 cn ov sn kn fd cst co tb))]) () hm hw (rfl) d_Md_machine_64
        · skip
          exact absurd c_16_5 (by decide)
  · skip
    refine b_ti (y := nI 0) hr4 ?_
    refine lv_if_eq (tgt := 29) hx hb d_Md_machine_7 (by decide) (fun c_7_7 => ?_) (fun c_7_7 => ?_)
    · skip
      refine lv_iconst (v := nI 1) hx hb d_Md_machine_29 (by decide) ?_
      refine lv_goto (tgt := 53) hx hb d_Md_machine_30 (by decide) ?_
      refine b_put (T := F_Md) hm hw 0 rfl rfl (fun w h => uw_of w (u_Md w h)) t_Md t_Md_ok n_Md 0 (by decide) (uw_of _ k_608) rfl rfl rfl (Nat.le_of_ble_eq_true rfl) d_Md_machine_53 (w1 := [(md, .inr (7, mdL za 1 cn ov sn kn fd cst co tb))]) rfl (fun H locs hw => ?_)
      refine lv_aload_n hx hb d_Md_machine_56 rfl (lv_at hl 0 rfl) ?_
      refine b_get (T := F_Md) hm hw 0 rfl rfl (fun w h => uw_of w (u_Md w h)) 0 (by decide) (uw_of _ k_608) rfl d_Md_machine_57 ?_
      refine lv_if_le (tgt := 65) hx hb d_Md_machine_60 (by decide) (fun c_60_8 => ?_) (fun c_60_8 => ?_)
      · skip
        exact absurd c_60_8 (by decide)
      · skip
        refine lv_iconst (v := nI 0) hx hb d_Md_machine_63 (by decide) ?_
        exact b_iret (post := fun (r : Int32) (_ : Unit) => r = 0) (w' := fun u => [(md, .inr (7, mdL za 1 cn ov sn kn fd cst co tb))]) () hm hw (rfl) d_Md_machine_64
    · skip
      exact absurd c_7_7 (by decide)

set_option maxHeartbeats 4000000 in
set_option maxRecDepth 100000 in
theorem c_Md_machine_t2 (l : Launch) (D : va_G) (k : Nat → ClassId) (sz : Nat) (md : Nat) (za : Nat → Nat) (th cn ov sn kn fd : Nat) (cst : Int64) (co tb : Nat) (a b q : Nat) (ha : 1 ≤ a ∧ a ≤ 4) (hb9 : 1 ≤ b ∧ b ≤ 4) (hq9 : q ≤ 100000) (hc : cn ≤ 3) (hov : ov ≤ 36) (hs9 : cn = 3 ∨ 0 < ov) : Met l y_Md_machine (uw y_Md_machine b_Md_machine 4 (some .int)) (rU 1 0 0) (va_Pc [.ref md, .int (nI a), .int (nI b), .int (nI q)] (bP (gU D k) [(md, .inr (7, mdL za th cn ov sn kn fd cst co tb))] sz)) (va_Qi (fun (r : Int32) (_ : Unit) => r = 0) (fun u => bQ (gU D k) (va_A [(md, .inr (7, mdL za th cn ov sn kn fd cst co tb))] sz) ([(md, .inr (7, mdL za 2 cn ov sn kn fd cst co tb))])) (va_A [(md, .inr (7, mdL za th cn ov sn kn fd cst co tb))] sz)) (rU 1 0 0).cells (rU 1 0 0).slots (va_A [(md, .inr (7, mdL za th cn ov sn kn fd cst co tb))] sz) := by
  refine b_start (y := y_Md_machine) (maxL := 4) (ret := (some .int)) (cc := b_Md_machine) (ws' := ut) (rm := rU 1 0 0) (av := [.ref md, .int (nI a), .int (nI b), .int (nI q)]) (g := gU D k) (ws := [(md, .inr (7, mdL za th cn ov sn kn fd cst co tb))]) (sz := sz) (Qc := fun A => va_Qi (fun (r : Int32) (_ : Unit) => r = 0) (fun u => bQ (gU D k) A ([(md, .inr (7, mdL za 2 cn ov sn kn fd cst co tb))])) A) (by decide +kernel) (Nat.le_of_ble_eq_true rfl) ?_
  intro p e s m below meth c A hm hnm hw ls hl
  have hl : lv_has ls 4 [(0, .ref md), (1, .int (nI a)), (2, .int (nI b)), (3, .int (nI q))] := hl
  have hx := hm.1
  have hb := hm.2.1
  have hown := hm.2.2.2.2.1
  have hts := hm.2.2.2.2.2.1
  refine lv_aload_n hx hb d_Md_machine_0 rfl (lv_at hl 0 rfl) ?_
  refine lv_iload_n hx hb d_Md_machine_1 rfl (lv_at hl 1 rfl) ?_
  refine lv_iconst (v := nI 1) hx hb d_Md_machine_2 (by decide) ?_
  refine lv_iconst (v := nI 4) hx hb d_Md_machine_3 (by decide) ?_
  refine b_goi (wr := [(md, .inr (7, mdL za th cn ov sn kn fd cst co tb))]) (b_runS (wc := []) (As := [.int (nI a), .int (nI 1), .int (nI 4)]) (rest := [.ref md]) hm hw (va_cwS 3 hts (gS2 uw_of k_733 k_731 k_732 k_9) rfl rfl rfl (by decide +kernel) ⟨by decide, by decide⟩) (c_Md_in l D k _ (nI a) (nI 1) (nI 4)) [] (by decide) rfl rfl hl.1 rfl (Nat.le_of_ble_eq_true rfl) d_Md_machine_4 ⟨by decide, by decide⟩) hw [] [0] rfl rfl (by decide) (by decide) (fun r4 _ H locs hp4 hw => ?_)
  have hw : bW (gU D k) A s H locs [(md, .inr (7, mdL za th cn ov sn kn fd cst co tb))] := hw.sub [0] (by decide) rfl
  have hr4 : r4 = 1 := by rcases hp4 with ⟨q, _⟩ | ⟨_, q⟩; exact q; exact absurd (in_n (by omega) (by omega) (by omega)) q
  refine b_ti (y := nI 1) hr4 ?_
  refine lv_if_eq (tgt := 29) hx hb d_Md_machine_7 (by decide) (fun c_7_0 => ?_) (fun c_7_0 => ?_)
  · skip
    exact absurd c_7_0 (by decide)
  · skip
    refine lv_iload_n hx hb d_Md_machine_10 rfl (lv_at hl 2 rfl) ?_
    refine lv_iconst (v := nI 1) hx hb d_Md_machine_11 (by decide) ?_
    refine lv_iconst (v := nI 4) hx hb d_Md_machine_12 (by decide) ?_
    refine b_goi (wr := [(md, .inr (7, mdL za th cn ov sn kn fd cst co tb))]) (b_runS (wc := []) (As := [.int (nI b), .int (nI 1), .int (nI 4)]) (rest := [.ref md]) hm hw (va_cwS 3 hts (gS2 uw_of k_733 k_731 k_732 k_9) rfl rfl rfl (by decide +kernel) ⟨by decide, by decide⟩) (c_Md_in l D k _ (nI b) (nI 1) (nI 4)) [] (by decide) rfl rfl hl.1 rfl (Nat.le_of_ble_eq_true rfl) d_Md_machine_13 ⟨by decide, by decide⟩) hw [] [0] rfl rfl (by decide) (by decide) (fun r13 _ H locs hp13 hw => ?_)
    have hw : bW (gU D k) A s H locs [(md, .inr (7, mdL za th cn ov sn kn fd cst co tb))] := hw.sub [0] (by decide) rfl
    have hr13 : r13 = 1 := by rcases hp13 with ⟨q, _⟩ | ⟨_, q⟩; exact q; exact absurd (in_n (by omega) (by omega) (by omega)) q
    refine b_ti (y := nI 1) hr13 ?_
    refine lv_if_eq (tgt := 29) hx hb d_Md_machine_16 (by decide) (fun c_16_1 => ?_) (fun c_16_1 => ?_)
    · skip
      exact absurd c_16_1 (by decide)
    · skip
      refine lv_iload_n hx hb d_Md_machine_19 rfl (lv_at hl 3 rfl) ?_
      refine lv_iconst (v := nI 0) hx hb d_Md_machine_20 (by decide) ?_
      refine lv_ldc (v := 100000) hx hb hown (hts _ (uw_of _ k_734)) d_Md_machine_21 ?_
      refine b_ti (show (100000 : Int32) = nI 100000 from rfl) ?_
      refine b_goi (wr := [(md, .inr (7, mdL za th cn ov sn kn fd cst co tb))]) (b_runS (wc := []) (As := [.int (nI q), .int (nI 0), .int (nI 100000)]) (rest := [.ref md]) hm hw (va_cwS 3 hts (gS2 uw_of k_733 k_731 k_732 k_9) rfl rfl rfl (by decide +kernel) ⟨by decide, by decide⟩) (c_Md_in l D k _ (nI q) (nI 0) (nI 100000)) [] (by decide) rfl rfl hl.1 rfl (Nat.le_of_ble_eq_true rfl) d_Md_machine_23 ⟨by decide, by decide⟩) hw [] [0] rfl rfl (by decide) (by decide) (fun r23 _ H locs hp23 hw => ?_)
      have hw : bW (gU D k) A s H locs [(md, .inr (7, mdL za th cn ov sn kn fd cst co tb))] := hw.sub [0] (by decide) rfl
      have hr23 : r23 = 1 := by rcases hp23 with ⟨q, _⟩ | ⟨_, q⟩; exact q; exact absurd (in_n (by omega) (by omega) (by omega)) q
      refine b_ti (y := nI 1) hr23 ?_
      refine lv_if_ne (tgt := 33) hx hb d_Md_machine_26 (by decide) (fun c_26_2 => ?_) (fun c_26_2 => ?_)
      · skip
        refine lv_aload_n hx hb d_Md_machine_33 rfl (lv_at hl 0 rfl) ?_
        refine b_get (T := F_Md) hm hw 0 rfl rfl (fun w h => uw_of w (u_Md w h)) 1 (by decide) (uw_of _ k_609) rfl d_Md_machine_34 ?_
        refine lv_iconst (v := nI 3) hx hb d_Md_machine_37 (by decide) ?_
        refine lv_icmp_eq (tgt := 48) hx hb d_Md_machine_38 (by decide) (fun c_38_3 => ?_) (fun c_38_3 => ?_)
        · skip
          have h_38_3 : cn = 3 := yeq c_38_3 (by omega) (by omega)
          refine lv_iconst (v := nI 2) hx hb d_Md_machine_48 (by decide) ?_
          refine lv_goto (tgt := 53) hx hb d_Md_machine_49 (by decide) ?_
          refine b_put (T := F_Md) hm hw 0 rfl rfl (fun w h => uw_of w (u_Md w h)) t_Md t_Md_ok n_Md 0 (by decide) (uw_of _ k_608) rfl rfl rfl (Nat.le_of_ble_eq_true rfl) d_Md_machine_53 (w1 := [(md, .inr (7, mdL za 2 cn ov sn kn fd cst co tb))]) rfl (fun H locs hw => ?_)
          refine lv_aload_n hx hb d_Md_machine_56 rfl (lv_at hl 0 rfl) ?_
          refine b_get (T := F_Md) hm hw 0 rfl rfl (fun w h => uw_of w (u_Md w h)) 0 (by decide) (uw_of _ k_608) rfl d_Md_machine_57 ?_
          refine lv_if_le (tgt := 65) hx hb d_Md_machine_60 (by decide) (fun c_60_4 => ?_) (fun c_60_4 => ?_)
          · skip
            exact absurd c_60_4 (by decide)
          · skip
            refine lv_iconst (v := nI 0) hx hb d_Md_machine_63 (by decide) ?_
            exact b_iret (post := fun (r : Int32) (_ : Unit) => r = 0) (w' := fun u => [(md, .inr (7, mdL za 2 cn ov sn kn fd cst co tb))]) () hm hw (rfl) d_Md_machine_64
        · skip
          have h_38_3 : cn ≠ 3 := yneN c_38_3 (by omega) (by omega)
          refine lv_aload_n hx hb d_Md_machine_41 rfl (lv_at hl 0 rfl) ?_
          refine b_get (T := F_Md) hm hw 0 rfl rfl (fun w h => uw_of w (u_Md w h)) 13 (by decide) (uw_of _ k_621) rfl d_Md_machine_42 ?_
          refine lv_if_le (tgt := 52) hx hb d_Md_machine_45 (by decide) (fun c_45_5 => ?_) (fun c_45_5 => ?_)
          · skip
            have h_45_5 : ov ≤ 0 := yle0 c_45_5 (by omega) (by omega)
            exfalso; omega
          · skip
            have h_45_5 : 0 < ov := ygtN0 c_45_5 (by omega) (by omega)
            refine lv_iconst (v := nI 2) hx hb d_Md_machine_48 (by decide) ?_
            refine lv_goto (tgt := 53) hx hb d_Md_machine_49 (by decide) ?_
            refine b_put (T := F_Md) hm hw 0 rfl rfl (fun w h => uw_of w (u_Md w h)) t_Md t_Md_ok n_Md 0 (by decide) (uw_of _ k_608) rfl rfl rfl (Nat.le_of_ble_eq_true rfl) d_Md_machine_53 (w1 := [(md, .inr (7, mdL za 2 cn ov sn kn fd cst co tb))]) rfl (fun H locs hw => ?_)
            refine lv_aload_n hx hb d_Md_machine_56 rfl (lv_at hl 0 rfl) ?_
            refine b_get (T := F_Md) hm hw 0 rfl rfl (fun w h => uw_of w (u_Md w h)) 0 (by decide) (uw_of _ k_608) rfl d_Md_machine_57 ?_
            refine lv_if_le (tgt := 65) hx hb d_Md_machine_60 (by decide) (fun c_60_6 => ?_) (fun c_60_6 => ?_)
            · skip
              exact absurd c_60_6 (by decide)
            · skip
              refine lv_iconst (v := nI 0) hx hb d_Md_machine_63 (by decide) ?_
              exact b_iret (post := fun (r : Int32) (_ : Unit) => r = 0) (w' := fun u => [(md, .inr (7, mdL za 2 cn ov sn kn fd cst co tb))]) () hm hw (rfl) d_Md_machine_64
      · skip
        exact absurd c_26_2 (by decide)

set_option maxHeartbeats 4000000 in
set_option maxRecDepth 100000 in
theorem c_Md_machine (l : Launch) (D : va_G) (k : Nat → ClassId) (sz : Nat) (md : Nat) (za : Nat → Nat) (th cn ov sn kn fd : Nat) (cst : Int64) (co tb : Nat) (LR : Nat → Nat) (LP : Nat → Nat) (CE : Nat → Nat) (a b q : Nat) (ha : 1 ≤ a ∧ a ≤ 4) (hb9 : 1 ≤ b ∧ b ≤ 4) (hq9 : q ≤ 100000) (hc : cn < 3) (hov : ov = 0) : Met l y_Md_machine (uw y_Md_machine b_Md_machine 4 (some .int)) (rU 1 0 0) (va_Pc [.ref md, .int (nI a), .int (nI b), .int (nI q)] (bP (gU D k) [(md, .inr (7, mdL za th cn ov sn kn fd cst co tb)), (za 2, .inl (k 0, 3, .inl (fun j => nI (LR j)))), (za 3, .inl (k 0, 3, .inl (fun j => nI (LP j)))), (za 4, .inl (k 0, 3, .inl (fun j => nI (CE j))))] sz)) (va_Qi (fun (r : Int32) (u : Unit) => r = nI cn) (fun u => bQ (gU D k) (va_A [(md, .inr (7, mdL za th cn ov sn kn fd cst co tb)), (za 2, .inl (k 0, 3, .inl (fun j => nI (LR j)))), (za 3, .inl (k 0, 3, .inl (fun j => nI (LP j)))), (za 4, .inl (k 0, 3, .inl (fun j => nI (CE j))))] sz) ([(md, .inr (7, mdL za 0 (cn + 1) ov sn 0 fd cst co tb)), (za 2, .inl (k 0, 3, .inl (fun j => nI ((va_up LR cn a) j)))), (za 3, .inl (k 0, 3, .inl (fun j => nI ((va_up LP cn b) j)))), (za 4, .inl (k 0, 3, .inl (fun j => nI ((va_up CE cn q) j))))])) (va_A [(md, .inr (7, mdL za th cn ov sn kn fd cst co tb)), (za 2, .inl (k 0, 3, .inl (fun j => nI (LR j)))), (za 3, .inl (k 0, 3, .inl (fun j => nI (LP j)))), (za 4, .inl (k 0, 3, .inl (fun j => nI (CE j))))] sz)) (rU 1 0 0).cells (rU 1 0 0).slots (va_A [(md, .inr (7, mdL za th cn ov sn kn fd cst co tb)), (za 2, .inl (k 0, 3, .inl (fun j => nI (LR j)))), (za 3, .inl (k 0, 3, .inl (fun j => nI (LP j)))), (za 4, .inl (k 0, 3, .inl (fun j => nI (CE j))))] sz) := by
  refine b_start (y := y_Md_machine) (maxL := 4) (ret := (some .int)) (cc := b_Md_machine) (ws' := ut) (rm := rU 1 0 0) (av := [.ref md, .int (nI a), .int (nI b), .int (nI q)]) (g := gU D k) (ws := [(md, .inr (7, mdL za th cn ov sn kn fd cst co tb)), (za 2, .inl (k 0, 3, .inl (fun j => nI (LR j)))), (za 3, .inl (k 0, 3, .inl (fun j => nI (LP j)))), (za 4, .inl (k 0, 3, .inl (fun j => nI (CE j))))]) (sz := sz) (Qc := fun A => va_Qi (fun (r : Int32) (u : Unit) => r = nI cn) (fun u => bQ (gU D k) A ([(md, .inr (7, mdL za 0 (cn + 1) ov sn 0 fd cst co tb)), (za 2, .inl (k 0, 3, .inl (fun j => nI ((va_up LR cn a) j)))), (za 3, .inl (k 0, 3, .inl (fun j => nI ((va_up LP cn b) j)))), (za 4, .inl (k 0, 3, .inl (fun j => nI ((va_up CE cn q) j))))])) A) (by decide +kernel) (Nat.le_of_ble_eq_true rfl) ?_
  intro p e s m below meth c A hm hnm hw ls hl
  have hl : lv_has ls 4 [(0, .ref md), (1, .int (nI a)), (2, .int (nI b)), (3, .int (nI q))] := hl
  have hx := hm.1
  have hb := hm.2.1
  have hown := hm.2.2.2.2.1
  have hts := hm.2.2.2.2.2.1
  refine lv_aload_n hx hb d_Md_machine_0 rfl (lv_at hl 0 rfl) ?_
  refine lv_iload_n hx hb d_Md_machine_1 rfl (lv_at hl 1 rfl) ?_
  refine lv_iconst (v := nI 1) hx hb d_Md_machine_2 (by decide) ?_
  refine lv_iconst (v := nI 4) hx hb d_Md_machine_3 (by decide) ?_
  refine b_goi (wr := [(md, .inr (7, mdL za th cn ov sn kn fd cst co tb)), (za 2, .inl (k 0, 3, .inl (fun j => nI (LR j)))), (za 3, .inl (k 0, 3, .inl (fun j => nI (LP j)))), (za 4, .inl (k 0, 3, .inl (fun j => nI (CE j))))]) (b_runS (wc := []) (As := [.int (nI a), .int (nI 1), .int (nI 4)]) (rest := [.ref md]) hm hw (va_cwS 3 hts (gS2 uw_of k_733 k_731 k_732 k_9) rfl rfl rfl (by decide +kernel) ⟨by decide, by decide⟩) (c_Md_in l D k _ (nI a) (nI 1) (nI 4)) [] (by decide) rfl rfl hl.1 rfl (Nat.le_of_ble_eq_true rfl) d_Md_machine_4 ⟨by decide, by decide⟩) hw [] [0, 1, 2, 3] rfl rfl (by decide) (by decide) (fun r4 _ H locs hp4 hw => ?_)
  have hw : bW (gU D k) A s H locs [(md, .inr (7, mdL za th cn ov sn kn fd cst co tb)), (za 2, .inl (k 0, 3, .inl (fun j => nI (LR j)))), (za 3, .inl (k 0, 3, .inl (fun j => nI (LP j)))), (za 4, .inl (k 0, 3, .inl (fun j => nI (CE j))))] := hw.sub [0, 1, 2, 3] (by decide) rfl
  have hr4 : r4 = 1 := by rcases hp4 with ⟨q, _⟩ | ⟨_, q⟩; exact q; exact absurd (in_n (by omega) (by omega) (by omega)) q
  refine b_ti (y := nI 1) hr4 ?_
  refine lv_if_eq (tgt := 29) hx hb d_Md_machine_7 (by decide) (fun c_7_0 => ?_) (fun c_7_0 => ?_)
  · skip
    exact absurd c_7_0 (by decide)
  · skip
    refine lv_iload_n hx hb d_Md_machine_10 rfl (lv_at hl 2 rfl) ?_
    refine lv_iconst (v := nI 1) hx hb d_Md_machine_11 (by decide) ?_
    refine lv_iconst (v := nI 4) hx hb d_Md_machine_12 (by decide) ?_
    refine b_goi (wr := [(md, .inr (7, mdL za th cn ov sn kn fd cst co tb)), (za 2, .inl (k 0, 3, .inl (fun j => nI (LR j)))), (za 3, .inl (k 0, 3, .inl (fun j => nI (LP j)))), (za 4, .inl (k 0, 3, .inl (fun j => nI (CE j))))]) (b_runS (wc := []) (As := [.int (nI b), .int (nI 1), .int (nI 4)]) (rest := [.ref md]) hm hw (va_cwS 3 hts (gS2 uw_of k_733 k_731 k_732 k_9) rfl rfl rfl (by decide +kernel) ⟨by decide, by decide⟩) (c_Md_in l D k _ (nI b) (nI 1) (nI 4)) [] (by decide) rfl rfl hl.1 rfl (Nat.le_of_ble_eq_true rfl) d_Md_machine_13 ⟨by decide, by decide⟩) hw [] [0, 1, 2, 3] rfl rfl (by decide) (by decide) (fun r13 _ H locs hp13 hw => ?_)
    have hw : bW (gU D k) A s H locs [(md, .inr (7, mdL za th cn ov sn kn fd cst co tb)), (za 2, .inl (k 0, 3, .inl (fun j => nI (LR j)))), (za 3, .inl (k 0, 3, .inl (fun j => nI (LP j)))), (za 4, .inl (k 0, 3, .inl (fun j => nI (CE j))))] := hw.sub [0, 1, 2, 3] (by decide) rfl
    have hr13 : r13 = 1 := by rcases hp13 with ⟨q, _⟩ | ⟨_, q⟩; exact q; exact absurd (in_n (by omega) (by omega) (by omega)) q
    refine b_ti (y := nI 1) hr13 ?_
    refine lv_if_eq (tgt := 29) hx hb d_Md_machine_16 (by decide) (fun c_16_1 => ?_) (fun c_16_1 => ?_)
    · skip
      exact absurd c_16_1 (by decide)
    · skip
      refine lv_iload_n hx hb d_Md_machine_19 rfl (lv_at hl 3 rfl) ?_
      refine lv_iconst (v := nI 0) hx hb d_Md_machine_20 (by decide) ?_
      refine lv_ldc (v := 100000) hx hb hown (hts _ (uw_of _ k_734)) d_Md_machine_21 ?_
      refine b_ti (show (100000 : Int32) = nI 100000 from rfl) ?_
      refine b_goi (wr := [(md, .inr (7, mdL za th cn ov sn kn fd cst co tb)), (za 2, .inl (k 0, 3, .inl (fun j => nI (LR j)))), (za 3, .inl (k 0, 3, .inl (fun j => nI (LP j)))), (za 4, .inl (k 0, 3, .inl (fun j => nI (CE j))))]) (b_runS (wc := []) (As := [.int (nI q), .int (nI 0), .int (nI 100000)]) (rest := [.ref md]) hm hw (va_cwS 3 hts (gS2 uw_of k_733 k_731 k_732 k_9) rfl rfl rfl (by decide +kernel) ⟨by decide, by decide⟩) (c_Md_in l D k _ (nI q) (nI 0) (nI 100000)) [] (by decide) rfl rfl hl.1 rfl (Nat.le_of_ble_eq_true rfl) d_Md_machine_23 ⟨by decide, by decide⟩) hw [] [0, 1, 2, 3] rfl rfl (by decide) (by decide) (fun r23 _ H locs hp23 hw => ?_)
      have hw : bW (gU D k) A s H locs [(md, .inr (7, mdL za th cn ov sn kn fd cst co tb)), (za 2, .inl (k 0, 3, .inl (fun j => nI (LR j)))), (za 3, .inl (k 0, 3, .inl (fun j => nI (LP j)))), (za 4, .inl (k 0, 3, .inl (fun j => nI (CE j))))] := hw.sub [0, 1, 2, 3] (by decide) rfl
      have hr23 : r23 = 1 := by rcases hp23 with ⟨q, _⟩ | ⟨_, q⟩; exact q; exact absurd (in_n (by omega) (by omega) (by omega)) q
      refine b_ti (y := nI 1) hr23 ?_
      refine lv_if_ne (tgt := 33) hx hb d_Md_machine_26 (by decide) (fun c_26_2 => ?_) (fun c_26_2 => ?_)
      · skip
        refine lv_aload_n hx hb d_Md_machine_33 rfl (lv_at hl 0 rfl) ?_
        refine b_get (T := F_Md) hm hw 0 rfl rfl (fun w h => uw_of w (u_Md w h)) 1 (by decide) (uw_of _ k_609) rfl d_Md_machine_34 ?_
        refine lv_iconst (v := nI 3) hx hb d_Md_machine_37 (by decide) ?_
        refine lv_icmp_eq (tgt := 48) hx hb d_Md_machine_38 (by decide) (fun c_38_3 => ?_) (fun c_38_3 => ?_)
        · skip
          have h_38_3 : cn = 3 := yeq c_38_3 (by omega) (by omega)
          exfalso; omega
        · skip
          have h_38_3 : cn ≠ 3 := yneN c_38_3 (by omega) (by omega)
          refine lv_aload_n hx hb d_Md_machine_41 rfl (lv_at hl 0 rfl) ?_
          refine b_get (T := F_Md) hm hw 0 rfl rfl (fun w h => uw_of w (u_Md w h)) 13 (by decide) (uw_of _ k_621) rfl d_Md_machine_42 ?_
          refine lv_if_le (tgt := 52) hx hb d_Md_machine_45 (by decide) (fun c_45_4 => ?_) (fun c_45_4 => ?_)
          · skip
            have h_45_4 : ov ≤ 0 := yle0 c_45_4 (by omega) (by omega)
            refine lv_iconst (v := nI 0) hx hb d_Md_machine_52 (by decide) ?_
            refine b_put (T := F_Md) hm hw 0 rfl rfl (fun w h => uw_of w (u_Md w h)) t_Md t_Md_ok n_Md 0 (by decide) (uw_of _ k_608) rfl rfl rfl (Nat.le_of_ble_eq_true rfl) d_Md_machine_53 (w1 := [(md, .inr (7, mdL za 0 cn ov sn kn fd cst co tb)), (za 2, .inl (k 0, 3, .inl (fun j => nI (LR j)))), (za 3, .inl (k 0, 3, .inl (fun j => nI (LP j)))), (za 4, .inl (k 0, 3, .inl (fun j => nI (CE j))))]) rfl (fun H locs hw => ?_)
            refine lv_aload_n hx hb d_Md_machine_56 rfl (lv_at hl 0 rfl) ?_
            refine b_get (T := F_Md) hm hw 0 rfl rfl (fun w h => uw_of w (u_Md w h)) 0 (by decide) (uw_of _ k_608) rfl d_Md_machine_57 ?_
            refine lv_if_le (tgt := 65) hx hb d_Md_machine_60 (by decide) (fun c_60_5 => ?_) (fun c_60_5 => ?_)
            · skip
              refine lv_aload_n hx hb d_Md_machine_65 rfl (lv_at hl 0 rfl) ?_
              refine b_get (T := F_Md) hm hw 0 rfl rfl (fun w h => uw_of w (u_Md w h)) 2 (by decide) (uw_of _ k_610) rfl d_Md_machine_66 ?_
              refine lv_aload_n hx hb d_Md_machine_69 rfl (lv_at hl 0 rfl) ?_
              refine b_get (T := F_Md) hm hw 0 rfl rfl (fun w h => uw_of w (u_Md w h)) 1 (by decide) (uw_of _ k_609) rfl d_Md_machine_70 ?_
              refine lv_iload_n hx hb d_Md_machine_73 rfl (lv_at hl 1 rfl) ?_
              refine b_iast (i := cn) hm hw 1 0 rfl rfl (by omega) (by omega) d_Md_machine_74 (w1 := [(md, .inr (7, mdL za 0 cn ov sn kn fd cst co tb)), (za 2, .inl (k 0, 3, .inl (fun j => nI ((va_up LR cn a) j)))), (za 3, .inl (k 0, 3, .inl (fun j => nI (LP j)))), (za 4, .inl (k 0, 3, .inl (fun j => nI (CE j))))]) (by rw [updN]; rfl) (fun H locs hw => ?_)
              refine lv_aload_n hx hb d_Md_machine_75 rfl (lv_at hl 0 rfl) ?_
              refine b_get (T := F_Md) hm hw 0 rfl rfl (fun w h => uw_of w (u_Md w h)) 3 (by decide) (uw_of _ k_611) rfl d_Md_machine_76 ?_
              refine lv_aload_n hx hb d_Md_machine_79 rfl (lv_at hl 0 rfl) ?_
              refine b_get (T := F_Md) hm hw 0 rfl rfl (fun w h => uw_of w (u_Md w h)) 1 (by decide) (uw_of _ k_609) rfl d_Md_machine_80 ?_
              refine lv_iload_n hx hb d_Md_machine_83 rfl (lv_at hl 2 rfl) ?_
              refine b_iast (i := cn) hm hw 2 0 rfl rfl (by omega) (by omega) d_Md_machine_84 (w1 := [(md, .inr (7, mdL za 0 cn ov sn kn fd cst co tb)), (za 2, .inl (k 0, 3, .inl (fun j => nI ((va_up LR cn a) j)))), (za 3, .inl (k 0, 3, .inl (fun j => nI ((va_up LP cn b) j)))), (za 4, .inl (k 0, 3, .inl (fun j => nI (CE j))))]) (by rw [updN]; rfl) (fun H locs hw => ?_)
              refine lv_aload_n hx hb d_Md_machine_85 rfl (lv_at hl 0 rfl) ?_
              refine b_get (T := F_Md) hm hw 0 rfl rfl (fun w h => uw_of w (u_Md w h)) 4 (by decide) (uw_of _ k_612) rfl d_Md_machine_86 ?_
              refine lv_aload_n hx hb d_Md_machine_89 rfl (lv_at hl 0 rfl) ?_
              refine b_get (T := F_Md) hm hw 0 rfl rfl (fun w h => uw_of w (u_Md w h)) 1 (by decide) (uw_of _ k_609) rfl d_Md_machine_90 ?_
              refine lv_iload_n hx hb d_Md_machine_93 rfl (lv_at hl 3 rfl) ?_
              refine b_iast (i := cn) hm hw 3 0 rfl rfl (by omega) (by omega) d_Md_machine_94 (w1 := [(md, .inr (7, mdL za 0 cn ov sn kn fd cst co tb)), (za 2, .inl (k 0, 3, .inl (fun j => nI ((va_up LR cn a) j)))), (za 3, .inl (k 0, 3, .inl (fun j => nI ((va_up LP cn b) j)))), (za 4, .inl (k 0, 3, .inl (fun j => nI ((va_up CE cn q) j))))]) (by rw [updN]; rfl) (fun H locs hw => ?_)
              refine lv_aload_n hx hb d_Md_machine_95 rfl (lv_at hl 0 rfl) ?_
              refine lv_dup hx hb d_Md_machine_96 rfl ?_
              refine b_get (T := F_Md) hm hw 0 rfl rfl (fun w h => uw_of w (u_Md w h)) 1 (by decide) (uw_of _ k_609) rfl d_Md_machine_97 ?_
              refine lv_iconst (v := nI 1) hx hb d_Md_machine_100 (by decide) ?_
              refine lv_iadd hx hb d_Md_machine_101 ?_
              refine b_ti (nI_add cn 1) ?_
              refine b_put (T := F_Md) hm hw 0 rfl rfl (fun w h => uw_of w (u_Md w h)) t_Md t_Md_ok n_Md 1 (by decide) (uw_of _ k_609) rfl rfl rfl (Nat.le_of_ble_eq_true rfl) d_Md_machine_102 (w1 := [(md, .inr (7, mdL za 0 (cn + 1) ov sn kn fd cst co tb)), (za 2, .inl (k 0, 3, .inl (fun j => nI ((va_up LR cn a) j)))), (za 3, .inl (k 0, 3, .inl (fun j => nI ((va_up LP cn b) j)))), (za 4, .inl (k 0, 3, .inl (fun j => nI ((va_up CE cn q) j))))]) rfl (fun H locs hw => ?_)
              refine lv_aload_n hx hb d_Md_machine_105 rfl (lv_at hl 0 rfl) ?_
              refine lv_iconst (v := nI 0) hx hb d_Md_machine_106 (by decide) ?_
              refine b_put (T := F_Md) hm hw 0 rfl rfl (fun w h => uw_of w (u_Md w h)) t_Md t_Md_ok n_Md 28 (by decide) (uw_of _ k_636) rfl rfl rfl (Nat.le_of_ble_eq_true rfl) d_Md_machine_107 (w1 := [(md, .inr (7, mdL za 0 (cn + 1) ov sn 0 fd cst co tb)), (za 2, .inl (k 0, 3, .inl (fun j => nI ((va_up LR cn a) j)))), (za 3, .inl (k 0, 3, .inl (fun j => nI ((va_up LP cn b) j)))), (za 4, .inl (k 0, 3, .inl (fun j => nI ((va_up CE cn q) j))))]) rfl (fun H locs hw => ?_)
              refine lv_aload_n hx hb d_Md_machine_110 rfl (lv_at hl 0 rfl) ?_
              refine b_get (T := F_Md) hm hw 0 rfl rfl (fun w h => uw_of w (u_Md w h)) 1 (by decide) (uw_of _ k_609) rfl d_Md_machine_111 ?_
              refine lv_iconst (v := nI 1) hx hb d_Md_machine_114 (by decide) ?_
              refine lv_isub hx hb d_Md_machine_115 ?_
              refine b_ti (pk_sub (a := cn + 1) (b := 1) (by omega)) ?_
              refine b_ti (y := nI cn) (by congr 1) ?_
              exact b_iret (post := fun (r : Int32) (u : Unit) => r = nI cn) (w' := fun u => [(md, .inr (7, mdL za 0 (cn + 1) ov sn 0 fd cst co tb)), (za 2, .inl (k 0, 3, .inl (fun j => nI ((va_up LR cn a) j)))), (za 3, .inl (k 0, 3, .inl (fun j => nI ((va_up LP cn b) j)))), (za 4, .inl (k 0, 3, .inl (fun j => nI ((va_up CE cn q) j))))]) () hm hw (rfl) d_Md_machine_116
            · skip
              exact absurd c_60_5 (by decide)
          · skip
            have h_45_4 : 0 < ov := ygtN0 c_45_4 (by omega) (by omega)
            exfalso; omega
      · skip
        exact absurd c_26_2 (by decide)

set_option maxHeartbeats 4000000 in
set_option maxRecDepth 100000 in
theorem c_Md_row_t1 (l : Launch) (D : va_G) (k : Nat → ClassId) (sz : Nat) (md : Nat) (za : Nat → Nat) (th cn ov sn kn fd : Nat) (cst : Int64) (co tb : Nat) (u0 v y q : Int32) (hv9 : ¬ ((nI 0 ≤ u0 ∧ u0 < nI cn) ∧ ((-5000) ≤ v ∧ v ≤ nI 5000) ∧ (nI 0 ≤ y ∧ y ≤ nI 100000) ∧ (nI 0 ≤ q ∧ q ≤ nI 100000))) : Met l y_Md_row (uw y_Md_row b_Md_row 7 (some .int)) (rU 1 0 0) (va_Pc [.ref md, .int u0, .int v, .int y, .int q] (bP (gU D k) [(md, .inr (7, mdL za th cn ov sn kn fd cst co tb))] sz)) (va_Qi (fun (r : Int32) (_ : Unit) => r = 0) (fun u => bQ (gU D k) (va_A [(md, .inr (7, mdL za th cn ov sn kn fd cst co tb))] sz) ([(md, .inr (7, mdL za 1 cn ov sn kn fd cst co tb))])) (va_A [(md, .inr (7, mdL za th cn ov sn kn fd cst co tb))] sz)) (rU 1 0 0).cells (rU 1 0 0).slots (va_A [(md, .inr (7, mdL za th cn ov sn kn fd cst co tb))] sz) := by
  refine b_start (y := y_Md_row) (maxL := 7) (ret := (some .int)) (cc := b_Md_row) (ws' := ut) (rm := rU 1 0 0) (av := [.ref md, .int u0, .int v, .int y, .int q]) (g := gU D k) (ws := [(md, .inr (7, mdL za th cn ov sn kn fd cst co tb))]) (sz := sz) (Qc := fun A => va_Qi (fun (r : Int32) (_ : Unit) => r = 0) (fun u => bQ (gU D k) A ([(md, .inr (7, mdL za 1 cn ov sn kn fd cst co tb))])) A) (by decide +kernel) (Nat.le_of_ble_eq_true rfl) ?_
  intro p e s m below meth c A hm hnm hw ls hl
  have hl : lv_has ls 7 [(0, .ref md), (1, .int u0), (2, .int v), (3, .int y), (4, .int q)] := hl
  have hx := hm.1
  have hb := hm.2.1
  have hown := hm.2.2.2.2.1
  have hts := hm.2.2.2.2.2.1
  refine lv_aload_n hx hb d_Md_row_0 rfl (lv_at hl 0 rfl) ?_
  refine lv_iload_n hx hb d_Md_row_1 rfl (lv_at hl 1 rfl) ?_
  refine b_goi (wr := []) (b_runV (wc := [(md, .inr (7, mdL za th cn ov sn kn fd cst co tb))]) (As := [.int u0]) (rest := []) (q0 := 0) hm hw (cwV 1 hts (gV uw_of k_742 k_739 k_741 (mp 13 rfl rfl) k_9) rfl rfl rfl (by decide +kernel) ⟨by decide, by decide⟩) (c_Md_isMachine l D k _ md za th cn ov sn kn fd cst co tb u0) [0] (by decide) rfl rfl rfl rfl hl.1 rfl (Nat.le_of_ble_eq_true rfl) d_Md_row_2 ⟨by decide, by decide⟩) hw [0] [] rfl rfl (by decide) (by decide) (fun r2 _ H locs hp2 hw => ?_)
  have hw : bW (gU D k) A s H locs [(md, .inr (7, mdL za th cn ov sn kn fd cst co tb))] := hw.sub [0] (by decide) rfl
  rcases hp2 with ⟨hr2, hp2⟩ | ⟨hr2, hp2⟩
  · skip
    refine b_ti (y := nI 1) hr2 ?_
    refine lv_if_eq (tgt := 46) hx hb d_Md_row_5 (by decide) (fun c_5_0 => ?_) (fun c_5_0 => ?_)
    · skip
      exact absurd c_5_0 (by decide)
    · skip
      refine lv_iload_n hx hb d_Md_row_8 rfl (lv_at hl 2 rfl) ?_
      refine lv_sipush (v := (-5000)) hx hb d_Md_row_9 (by decide) ?_
      refine lv_sipush (v := nI 5000) hx hb d_Md_row_12 (by decide) ?_
      refine b_goi (wr := [(md, .inr (7, mdL za th cn ov sn kn fd cst co tb))]) (b_runS (wc := []) (As := [.int v, .int (-5000), .int (nI 5000)]) (rest := []) hm hw (va_cwS 3 hts (gS2 uw_of k_733 k_731 k_732 k_9) rfl rfl rfl (by decide +kernel) ⟨by decide, by decide⟩) (c_Md_in l D k _ v (-5000) (nI 5000)) [] (by decide) rfl rfl hl.1 rfl (Nat.le_of_ble_eq_true rfl) d_Md_row_15 ⟨by decide, by decide⟩) hw [] [0] rfl rfl (by decide) (by decide) (fun r15 _ H locs hp15 hw => ?_)
      have hw : bW (gU D k) A s H locs [(md, .inr (7, mdL za th cn ov sn kn fd cst co tb))] := hw.sub [0] (by decide) rfl
      rcases hp15 with ⟨hr15, hp15⟩ | ⟨hr15, hp15⟩
      · skip
        refine b_ti (y := nI 1) hr15 ?_
        refine lv_if_eq (tgt := 46) hx hb d_Md_row_18 (by decide) (fun c_18_1 => ?_) (fun c_18_1 => ?_)
        · skip
          exact absurd c_18_1 (by decide)
        · skip
          refine lv_iload_n hx hb d_Md_row_21 rfl (lv_at hl 3 rfl) ?_
          refine lv_iconst (v := nI 0) hx hb d_Md_row_22 (by decide) ?_
          refine lv_ldc (v := 100000) hx hb hown (hts _ (uw_of _ k_734)) d_Md_row_23 ?_
          refine b_ti (show (100000 : Int32) = nI 100000 from rfl) ?_
          refine b_goi (wr := [(md, .inr (7, mdL za th cn ov sn kn fd cst co tb))]) (b_runS (wc := []) (As := [.int y, .int (nI 0), .int (nI 100000)]) (rest := []) hm hw (va_cwS 3 hts (gS2 uw_of k_733 k_731 k_732 k_9) rfl rfl rfl (by decide +kernel) ⟨by decide, by decide⟩) (c_Md_in l D k _ y (nI 0) (nI 100000)) [] (by decide) rfl rfl hl.1 rfl (Nat.le_of_ble_eq_true rfl) d_Md_row_25 ⟨by decide, by decide⟩) hw [] [0] rfl rfl (by decide) (by decide) (fun r25 _ H locs hp25 hw => ?_)
          have hw : bW (gU D k) A s H locs [(md, .inr (7, mdL za th cn ov sn kn fd cst co tb))] := hw.sub [0] (by decide) rfl
          rcases hp25 with ⟨hr25, hp25⟩ | ⟨hr25, hp25⟩
          · skip
            refine b_ti (y := nI 1) hr25 ?_
            refine lv_if_eq (tgt := 46) hx hb d_Md_row_28 (by decide) (fun c_28_2 => ?_) (fun c_28_2 => ?_)
            · skip
              exact absurd c_28_2 (by decide)
            · skip
              refine lv_iload hx hb d_Md_row_31 (lv_at hl 4 rfl) ?_
              refine lv_iconst (v := nI 0) hx hb d_Md_row_33 (by decide) ?_
              refine lv_ldc (v := 100000) hx hb hown (hts _ (uw_of _ k_734)) d_Md_row_34 ?_
              refine b_ti (show (100000 : Int32) = nI 100000 from rfl) ?_
              refine b_goi (wr := [(md, .inr (7, mdL za th cn ov sn kn fd cst co tb))]) (b_runS (wc := []) (As := [.int q, .int (nI 0), .int (nI 100000)]) (rest := []) hm hw (va_cwS 3 hts (gS2 uw_of k_733 k_731 k_732 k_9) rfl rfl rfl (by decide +kernel) ⟨by decide, by decide⟩) (c_Md_in l D k _ q (nI 0) (nI 100000)) [] (by decide) rfl rfl hl.1 rfl (Nat.le_of_ble_eq_true rfl) d_Md_row_36 ⟨by decide, by decide⟩) hw [] [0] rfl rfl (by decide) (by decide) (fun r36 _ H locs hp36 hw => ?_)
              have hw : bW (gU D k) A s H locs [(md, .inr (7, mdL za th cn ov sn kn fd cst co tb))] := hw.sub [0] (by decide) rfl
              rcases hp36 with ⟨hr36, hp36⟩ | ⟨hr36, hp36⟩
              · skip
                refine b_ti (y := nI 1) hr36 ?_
                refine lv_if_eq (tgt := 46) hx hb d_Md_row_39 (by decide) (fun c_39_3 => ?_) (fun c_39_3 => ?_)
                · skip
                  exact absurd c_39_3 (by decide)
                · skip
                  exact absurd ⟨hp2, hp15, hp25, hp36⟩ hv9
              · skip
                refine b_ti (y := nI 0) hr36 ?_
                refine lv_if_eq (tgt := 46) hx hb d_Md_row_39 (by decide) (fun c_39_4 => ?_) (fun c_39_4 => ?_)
                · skip
                  refine lv_iconst (v := nI 0) hx hb d_Md_row_46 (by decide) ?_
                  refine lv_istore (lv' := [(5, .int (nI 0)), (0, .ref md), (1, .int u0), (2, .int v), (3, .int y), (4, .int q)]) hx hb d_Md_row_47  hl (by decide) rfl (fun ls hl => ?_)
                  refine lv_aload_n hx hb d_Md_row_49 rfl (lv_at hl 1 rfl) ?_
                  refine lv_iload hx hb d_Md_row_50 (lv_at hl 0 rfl) ?_
                  refine lv_if_ne (tgt := 59) hx hb d_Md_row_52 (by decide) (fun c_52_5 => ?_) (fun c_52_5 => ?_)
                  · skip
                    exact absurd c_52_5 (by decide)
                  · skip
                    refine lv_iconst (v := nI 1) hx hb d_Md_row_55 (by decide) ?_
                    refine lv_goto (tgt := 106) hx hb d_Md_row_56 (by decide) ?_
                    refine b_put (T := F_Md) hm hw 0 rfl rfl (fun w h => uw_of w (u_Md w h)) t_Md t_Md_ok n_Md 0 (by decide) (uw_of _ k_608) rfl rfl rfl (Nat.le_of_ble_eq_true rfl) d_Md_row_106 (w1 := [(md, .inr (7, mdL za 1 cn ov sn kn fd cst co tb))]) rfl (fun H locs hw => ?_)
                    refine lv_aload_n hx hb d_Md_row_109 rfl (lv_at hl 1 rfl) ?_
                    refine b_get (T := F_Md) hm hw 0 rfl rfl (fun w h => uw_of w (u_Md w h)) 0 (by decide) (uw_of _ k_608) rfl d_Md_row_110 ?_
                    refine lv_if_le (tgt := 118) hx hb d_Md_row_113 (by decide) (fun c_113_6 => ?_) (fun c_113_6 => ?_)
                    · skip
                      exact absurd c_113_6 (by decide)
                    · skip
                      refine lv_iconst (v := nI 0) hx hb d_Md_row_116 (by decide) ?_
                      exact b_iret (post := fun (r : Int32) (_ : Unit) => r = 0) (w' := fun u => [(md, .inr (7, mdL za 1 cn ov sn kn fd cst co tb))]) () hm hw (rfl) d_Md_row_117
                · skip
                  exact absurd c_39_4 (by decide)
          · skip
            refine b_ti (y := nI 0) hr25 ?_
            refine lv_if_eq (tgt := 46) hx hb d_Md_row_28 (by decide) (fun c_28_7 => ?_) (fun c_28_7 => ?_)
            · skip
              refine lv_iconst (v := nI 0) hx hb d_Md_row_46 (by decide) ?_
              refine lv_istore (lv' := [(5, .int (nI 0)), (0, .ref md), (1, .int u0), (2, .int v), (3, .int y), (4, .int q)]) hx hb d_Md_row_47  hl (by decide) rfl (fun ls hl => ?_)
              refine lv_aload_n hx hb d_Md_row_49 rfl (lv_at hl 1 rfl) ?_
              refine lv_iload hx hb d_Md_row_50 (lv_at hl 0 rfl) ?_
              refine lv_if_ne (tgt := 59) hx hb d_Md_row_52 (by decide) (fun c_52_8 => ?_) (fun c_52_8 => ?_)
              · skip
                exact absurd c_52_8 (by decide)
              · skip
                refine lv_iconst (v := nI 1) hx hb d_Md_row_55 (by decide) ?_
                refine lv_goto (tgt := 106) hx hb d_Md_row_56 (by decide) ?_
                refine b_put (T := F_Md) hm hw 0 rfl rfl (fun w h => uw_of w (u_Md w h)) t_Md t_Md_ok n_Md 0 (by decide) (uw_of _ k_608) rfl rfl rfl (Nat.le_of_ble_eq_true rfl) d_Md_row_106 (w1 := [(md, .inr (7, mdL za 1 cn ov sn kn fd cst co tb))]) rfl (fun H locs hw => ?_)
                refine lv_aload_n hx hb d_Md_row_109 rfl (lv_at hl 1 rfl) ?_
                refine b_get (T := F_Md) hm hw 0 rfl rfl (fun w h => uw_of w (u_Md w h)) 0 (by decide) (uw_of _ k_608) rfl d_Md_row_110 ?_
                refine lv_if_le (tgt := 118) hx hb d_Md_row_113 (by decide) (fun c_113_9 => ?_) (fun c_113_9 => ?_)
                · skip
                  exact absurd c_113_9 (by decide)
                · skip
                  refine lv_iconst (v := nI 0) hx hb d_Md_row_116 (by decide) ?_
                  exact b_iret (post := fun (r : Int32) (_ : Unit) => r = 0) (w' := fun u => [(md, .inr (7, mdL za 1 cn ov sn kn fd cst co tb))]) () hm hw (rfl) d_Md_row_117
            · skip
              exact absurd c_28_7 (by decide)
      · skip
        refine b_ti (y := nI 0) hr15 ?_
        refine lv_if_eq (tgt := 46) hx hb d_Md_row_18 (by decide) (fun c_18_10 => ?_) (fun c_18_10 => ?_)
        · skip
          refine lv_iconst (v := nI 0) hx hb d_Md_row_46 (by decide) ?_
          refine lv_istore (lv' := [(5, .int (nI 0)), (0, .ref md), (1, .int u0), (2, .int v), (3, .int y), (4, .int q)]) hx hb d_Md_row_47  hl (by decide) rfl (fun ls hl => ?_)
          refine lv_aload_n hx hb d_Md_row_49 rfl (lv_at hl 1 rfl) ?_
          refine lv_iload hx hb d_Md_row_50 (lv_at hl 0 rfl) ?_
          refine lv_if_ne (tgt := 59) hx hb d_Md_row_52 (by decide) (fun c_52_11 => ?_) (fun c_52_11 => ?_)
          · skip
            exact absurd c_52_11 (by decide)
          · skip
            refine lv_iconst (v := nI 1) hx hb d_Md_row_55 (by decide) ?_
            refine lv_goto (tgt := 106) hx hb d_Md_row_56 (by decide) ?_
            refine b_put (T := F_Md) hm hw 0 rfl rfl (fun w h => uw_of w (u_Md w h)) t_Md t_Md_ok n_Md 0 (by decide) (uw_of _ k_608) rfl rfl rfl (Nat.le_of_ble_eq_true rfl) d_Md_row_106 (w1 := [(md, .inr (7, mdL za 1 cn ov sn kn fd cst co tb))]) rfl (fun H locs hw => ?_)
            refine lv_aload_n hx hb d_Md_row_109 rfl (lv_at hl 1 rfl) ?_
            refine b_get (T := F_Md) hm hw 0 rfl rfl (fun w h => uw_of w (u_Md w h)) 0 (by decide) (uw_of _ k_608) rfl d_Md_row_110 ?_
            refine lv_if_le (tgt := 118) hx hb d_Md_row_113 (by decide) (fun c_113_12 => ?_) (fun c_113_12 => ?_)
            · skip
              exact absurd c_113_12 (by decide)
            · skip
              refine lv_iconst (v := nI 0) hx hb d_Md_row_116 (by decide) ?_
              exact b_iret (post := fun (r : Int32) (_ : Unit) => r = 0) (w' := fun u => [(md, .inr (7, mdL za 1 cn ov sn kn fd cst co tb))]) () hm hw (rfl) d_Md_row_117
        · skip
          exact absurd c_18_10 (by decide)
  · skip
    refine b_ti (y := nI 0) hr2 ?_
    refine lv_if_eq (tgt := 46) hx hb d_Md_row_5 (by decide) (fun c_5_13 => ?_) (fun c_5_13 => ?_)
    · skip
      refine lv_iconst (v := nI 0) hx hb d_Md_row_46 (by decide) ?_
      refine lv_istore (lv' := [(5, .int (nI 0)), (0, .ref md), (1, .int u0), (2, .int v), (3, .int y), (4, .int q)]) hx hb d_Md_row_47  hl (by decide) rfl (fun ls hl => ?_)
      refine lv_aload_n hx hb d_Md_row_49 rfl (lv_at hl 1 rfl) ?_
      refine lv_iload hx hb d_Md_row_50 (lv_at hl 0 rfl) ?_
      refine lv_if_ne (tgt := 59) hx hb d_Md_row_52 (by decide) (fun c_52_14 => ?_) (fun c_52_14 => ?_)
      · skip
        exact absurd c_52_14 (by decide)
      · skip
        refine lv_iconst (v := nI 1) hx hb d_Md_row_55 (by decide) ?_
        refine lv_goto (tgt := 106) hx hb d_Md_row_56 (by decide) ?_
        refine b_put (T := F_Md) hm hw 0 rfl rfl (fun w h => uw_of w (u_Md w h)) t_Md t_Md_ok n_Md 0 (by decide) (uw_of _ k_608) rfl rfl rfl (Nat.le_of_ble_eq_true rfl) d_Md_row_106 (w1 := [(md, .inr (7, mdL za 1 cn ov sn kn fd cst co tb))]) rfl (fun H locs hw => ?_)
        refine lv_aload_n hx hb d_Md_row_109 rfl (lv_at hl 1 rfl) ?_
        refine b_get (T := F_Md) hm hw 0 rfl rfl (fun w h => uw_of w (u_Md w h)) 0 (by decide) (uw_of _ k_608) rfl d_Md_row_110 ?_
        refine lv_if_le (tgt := 118) hx hb d_Md_row_113 (by decide) (fun c_113_15 => ?_) (fun c_113_15 => ?_)
        · skip
          exact absurd c_113_15 (by decide)
        · skip
          refine lv_iconst (v := nI 0) hx hb d_Md_row_116 (by decide) ?_
          exact b_iret (post := fun (r : Int32) (_ : Unit) => r = 0) (w' := fun u => [(md, .inr (7, mdL za 1 cn ov sn kn fd cst co tb))]) () hm hw (rfl) d_Md_row_117
    · skip
      exact absurd c_5_13 (by decide)

set_option maxHeartbeats 4000000 in
set_option maxRecDepth 100000 in
theorem c_Md_row_t2 (l : Launch) (D : va_G) (k : Nat → ClassId) (sz : Nat) (md : Nat) (za : Nat → Nat) (th cn ov sn kn fd : Nat) (cst : Int64) (co tb : Nat) (RW : Nat → Nat) (RO : Nat → Int32) (kk : Nat) (v y q : Int32) (hc : cn ≤ 3) (hk : kk < cn) (hr8 : RW kk ≤ 8) (hv9 : ((-5000) ≤ v ∧ v ≤ nI 5000)) (hy : (nI 0 ≤ y ∧ y ≤ nI 100000)) (hq9 : (nI 0 ≤ q ∧ q ≤ nI 100000)) (hs9 : ¬ lnRoom 8 (fun j => RO (8 * kk + j)) (RW kk) v) : Met l y_Md_row (uw y_Md_row b_Md_row 7 (some .int)) (rU 1 0 0) (va_Pc [.ref md, .int (nI kk), .int v, .int y, .int q] (bP (gU D k) [(md, .inr (7, mdL za th cn ov sn kn fd cst co tb)), (za 5, .inl (k 0, 3, .inl (fun j => nI (RW j)))), (za 6, .inl (k 0, 24, .inl RO))] sz)) (va_Qi (fun (r : Int32) (_ : Unit) => r = 0) (fun u => bQ (gU D k) (va_A [(md, .inr (7, mdL za th cn ov sn kn fd cst co tb)), (za 5, .inl (k 0, 3, .inl (fun j => nI (RW j)))), (za 6, .inl (k 0, 24, .inl RO))] sz) ([(md, .inr (7, mdL za 2 cn ov sn kn fd cst co tb)), (za 5, .inl (k 0, 3, .inl (fun j => nI (RW j)))), (za 6, .inl (k 0, 24, .inl RO))])) (va_A [(md, .inr (7, mdL za th cn ov sn kn fd cst co tb)), (za 5, .inl (k 0, 3, .inl (fun j => nI (RW j)))), (za 6, .inl (k 0, 24, .inl RO))] sz)) (rU 1 0 0).cells (rU 1 0 0).slots (va_A [(md, .inr (7, mdL za th cn ov sn kn fd cst co tb)), (za 5, .inl (k 0, 3, .inl (fun j => nI (RW j)))), (za 6, .inl (k 0, 24, .inl RO))] sz) := by
  refine b_start (y := y_Md_row) (maxL := 7) (ret := (some .int)) (cc := b_Md_row) (ws' := ut) (rm := rU 1 0 0) (av := [.ref md, .int (nI kk), .int v, .int y, .int q]) (g := gU D k) (ws := [(md, .inr (7, mdL za th cn ov sn kn fd cst co tb)), (za 5, .inl (k 0, 3, .inl (fun j => nI (RW j)))), (za 6, .inl (k 0, 24, .inl RO))]) (sz := sz) (Qc := fun A => va_Qi (fun (r : Int32) (_ : Unit) => r = 0) (fun u => bQ (gU D k) A ([(md, .inr (7, mdL za 2 cn ov sn kn fd cst co tb)), (za 5, .inl (k 0, 3, .inl (fun j => nI (RW j)))), (za 6, .inl (k 0, 24, .inl RO))])) A) (by decide +kernel) (Nat.le_of_ble_eq_true rfl) ?_
  intro p e s m below meth c A hm hnm hw ls hl
  have hl : lv_has ls 7 [(0, .ref md), (1, .int (nI kk)), (2, .int v), (3, .int y), (4, .int q)] := hl
  have hx := hm.1
  have hb := hm.2.1
  have hown := hm.2.2.2.2.1
  have hts := hm.2.2.2.2.2.1
  refine lv_aload_n hx hb d_Md_row_0 rfl (lv_at hl 0 rfl) ?_
  refine lv_iload_n hx hb d_Md_row_1 rfl (lv_at hl 1 rfl) ?_
  refine b_goi (wr := [(za 5, .inl (k 0, 3, .inl (fun j => nI (RW j)))), (za 6, .inl (k 0, 24, .inl RO))]) (b_runV (wc := [(md, .inr (7, mdL za th cn ov sn kn fd cst co tb))]) (As := [.int (nI kk)]) (rest := []) (q0 := 0) hm hw (cwV 1 hts (gV uw_of k_742 k_739 k_741 (mp 13 rfl rfl) k_9) rfl rfl rfl (by decide +kernel) ⟨by decide, by decide⟩) (c_Md_isMachine l D k _ md za th cn ov sn kn fd cst co tb (nI kk)) [0] (by decide) rfl rfl rfl rfl hl.1 rfl (Nat.le_of_ble_eq_true rfl) d_Md_row_2 ⟨by decide, by decide⟩) hw [0] [1, 2] rfl rfl (by decide) (by decide) (fun r2 _ H locs hp2 hw => ?_)
  have hw : bW (gU D k) A s H locs [(md, .inr (7, mdL za th cn ov sn kn fd cst co tb)), (za 5, .inl (k 0, 3, .inl (fun j => nI (RW j)))), (za 6, .inl (k 0, 24, .inl RO))] := hw.sub [2, 0, 1] (by decide) rfl
  have hr2 : r2 = 1 := by rcases hp2 with ⟨q, _⟩ | ⟨_, q⟩; exact q; exact absurd (im_n (by omega) (by omega)) q
  refine b_ti (y := nI 1) hr2 ?_
  refine lv_if_eq (tgt := 46) hx hb d_Md_row_5 (by decide) (fun c_5_0 => ?_) (fun c_5_0 => ?_)
  · skip
    exact absurd c_5_0 (by decide)
  · skip
    refine lv_iload_n hx hb d_Md_row_8 rfl (lv_at hl 2 rfl) ?_
    refine lv_sipush (v := (-5000)) hx hb d_Md_row_9 (by decide) ?_
    refine lv_sipush (v := nI 5000) hx hb d_Md_row_12 (by decide) ?_
    refine b_goi (wr := [(md, .inr (7, mdL za th cn ov sn kn fd cst co tb)), (za 5, .inl (k 0, 3, .inl (fun j => nI (RW j)))), (za 6, .inl (k 0, 24, .inl RO))]) (b_runS (wc := []) (As := [.int v, .int (-5000), .int (nI 5000)]) (rest := []) hm hw (va_cwS 3 hts (gS2 uw_of k_733 k_731 k_732 k_9) rfl rfl rfl (by decide +kernel) ⟨by decide, by decide⟩) (c_Md_in l D k _ v (-5000) (nI 5000)) [] (by decide) rfl rfl hl.1 rfl (Nat.le_of_ble_eq_true rfl) d_Md_row_15 ⟨by decide, by decide⟩) hw [] [0, 1, 2] rfl rfl (by decide) (by decide) (fun r15 _ H locs hp15 hw => ?_)
    have hw : bW (gU D k) A s H locs [(md, .inr (7, mdL za th cn ov sn kn fd cst co tb)), (za 5, .inl (k 0, 3, .inl (fun j => nI (RW j)))), (za 6, .inl (k 0, 24, .inl RO))] := hw.sub [0, 1, 2] (by decide) rfl
    have hr15 : r15 = 1 := by rcases hp15 with ⟨q, _⟩ | ⟨_, q⟩; exact q; exact absurd (hv9) q
    refine b_ti (y := nI 1) hr15 ?_
    refine lv_if_eq (tgt := 46) hx hb d_Md_row_18 (by decide) (fun c_18_1 => ?_) (fun c_18_1 => ?_)
    · skip
      exact absurd c_18_1 (by decide)
    · skip
      refine lv_iload_n hx hb d_Md_row_21 rfl (lv_at hl 3 rfl) ?_
      refine lv_iconst (v := nI 0) hx hb d_Md_row_22 (by decide) ?_
      refine lv_ldc (v := 100000) hx hb hown (hts _ (uw_of _ k_734)) d_Md_row_23 ?_
      refine b_ti (show (100000 : Int32) = nI 100000 from rfl) ?_
      refine b_goi (wr := [(md, .inr (7, mdL za th cn ov sn kn fd cst co tb)), (za 5, .inl (k 0, 3, .inl (fun j => nI (RW j)))), (za 6, .inl (k 0, 24, .inl RO))]) (b_runS (wc := []) (As := [.int y, .int (nI 0), .int (nI 100000)]) (rest := []) hm hw (va_cwS 3 hts (gS2 uw_of k_733 k_731 k_732 k_9) rfl rfl rfl (by decide +kernel) ⟨by decide, by decide⟩) (c_Md_in l D k _ y (nI 0) (nI 100000)) [] (by decide) rfl rfl hl.1 rfl (Nat.le_of_ble_eq_true rfl) d_Md_row_25 ⟨by decide, by decide⟩) hw [] [0, 1, 2] rfl rfl (by decide) (by decide) (fun r25 _ H locs hp25 hw => ?_)
      have hw : bW (gU D k) A s H locs [(md, .inr (7, mdL za th cn ov sn kn fd cst co tb)), (za 5, .inl (k 0, 3, .inl (fun j => nI (RW j)))), (za 6, .inl (k 0, 24, .inl RO))] := hw.sub [0, 1, 2] (by decide) rfl
      have hr25 : r25 = 1 := by rcases hp25 with ⟨q, _⟩ | ⟨_, q⟩; exact q; exact absurd (hy) q
      refine b_ti (y := nI 1) hr25 ?_
      refine lv_if_eq (tgt := 46) hx hb d_Md_row_28 (by decide) (fun c_28_2 => ?_) (fun c_28_2 => ?_)
      · skip
        exact absurd c_28_2 (by decide)
      · skip
        refine lv_iload hx hb d_Md_row_31 (lv_at hl 4 rfl) ?_
        refine lv_iconst (v := nI 0) hx hb d_Md_row_33 (by decide) ?_
        refine lv_ldc (v := 100000) hx hb hown (hts _ (uw_of _ k_734)) d_Md_row_34 ?_
        refine b_ti (show (100000 : Int32) = nI 100000 from rfl) ?_
        refine b_goi (wr := [(md, .inr (7, mdL za th cn ov sn kn fd cst co tb)), (za 5, .inl (k 0, 3, .inl (fun j => nI (RW j)))), (za 6, .inl (k 0, 24, .inl RO))]) (b_runS (wc := []) (As := [.int q, .int (nI 0), .int (nI 100000)]) (rest := []) hm hw (va_cwS 3 hts (gS2 uw_of k_733 k_731 k_732 k_9) rfl rfl rfl (by decide +kernel) ⟨by decide, by decide⟩) (c_Md_in l D k _ q (nI 0) (nI 100000)) [] (by decide) rfl rfl hl.1 rfl (Nat.le_of_ble_eq_true rfl) d_Md_row_36 ⟨by decide, by decide⟩) hw [] [0, 1, 2] rfl rfl (by decide) (by decide) (fun r36 _ H locs hp36 hw => ?_)
        have hw : bW (gU D k) A s H locs [(md, .inr (7, mdL za th cn ov sn kn fd cst co tb)), (za 5, .inl (k 0, 3, .inl (fun j => nI (RW j)))), (za 6, .inl (k 0, 24, .inl RO))] := hw.sub [0, 1, 2] (by decide) rfl
        have hr36 : r36 = 1 := by rcases hp36 with ⟨q, _⟩ | ⟨_, q⟩; exact q; exact absurd (hq9) q
        refine b_ti (y := nI 1) hr36 ?_
        refine lv_if_eq (tgt := 46) hx hb d_Md_row_39 (by decide) (fun c_39_3 => ?_) (fun c_39_3 => ?_)
        · skip
          exact absurd c_39_3 (by decide)
        · skip
          refine lv_iconst (v := nI 1) hx hb d_Md_row_42 (by decide) ?_
          refine lv_goto (tgt := 47) hx hb d_Md_row_43 (by decide) ?_
          refine lv_istore (lv' := [(5, .int (nI 1)), (0, .ref md), (1, .int (nI kk)), (2, .int v), (3, .int y), (4, .int q)]) hx hb d_Md_row_47  hl (by decide) rfl (fun ls hl => ?_)
          refine lv_aload_n hx hb d_Md_row_49 rfl (lv_at hl 1 rfl) ?_
          refine lv_iload hx hb d_Md_row_50 (lv_at hl 0 rfl) ?_
          refine lv_if_ne (tgt := 59) hx hb d_Md_row_52 (by decide) (fun c_52_4 => ?_) (fun c_52_4 => ?_)
          · skip
            refine lv_aload_n hx hb d_Md_row_59 rfl (lv_at hl 1 rfl) ?_
            refine b_get (T := F_Md) hm hw 0 rfl rfl (fun w h => uw_of w (u_Md w h)) 5 (by decide) (uw_of _ k_613) rfl d_Md_row_60 ?_
            refine lv_iload_n hx hb d_Md_row_63 rfl (lv_at hl 2 rfl) ?_
            refine b_iald (i := kk) hm hw 1 0 rfl rfl (by omega) (by omega) d_Md_row_64 ?_
            refine b_ti (show (fun j => nI (RW j)) kk = nI (RW kk) from rfl) ?_
            refine lv_bipush (v := nI 8) hx hb d_Md_row_65 (by decide) ?_
            refine lv_icmp_eq (tgt := 101) hx hb d_Md_row_67 (by decide) (fun c_67_5 => ?_) (fun c_67_5 => ?_)
            · skip
              have h_67_5 : (RW kk) = 8 := yeq c_67_5 (by omega) (by omega)
              refine lv_iconst (v := nI 2) hx hb d_Md_row_101 (by decide) ?_
              refine lv_goto (tgt := 106) hx hb d_Md_row_102 (by decide) ?_
              refine b_put (T := F_Md) hm hw 0 rfl rfl (fun w h => uw_of w (u_Md w h)) t_Md t_Md_ok n_Md 0 (by decide) (uw_of _ k_608) rfl rfl rfl (Nat.le_of_ble_eq_true rfl) d_Md_row_106 (w1 := [(md, .inr (7, mdL za 2 cn ov sn kn fd cst co tb)), (za 5, .inl (k 0, 3, .inl (fun j => nI (RW j)))), (za 6, .inl (k 0, 24, .inl RO))]) rfl (fun H locs hw => ?_)
              refine lv_aload_n hx hb d_Md_row_109 rfl (lv_at hl 1 rfl) ?_
              refine b_get (T := F_Md) hm hw 0 rfl rfl (fun w h => uw_of w (u_Md w h)) 0 (by decide) (uw_of _ k_608) rfl d_Md_row_110 ?_
              refine lv_if_le (tgt := 118) hx hb d_Md_row_113 (by decide) (fun c_113_6 => ?_) (fun c_113_6 => ?_)
              · skip
                exact absurd c_113_6 (by decide)
              · skip
                refine lv_iconst (v := nI 0) hx hb d_Md_row_116 (by decide) ?_
                exact b_iret (post := fun (r : Int32) (_ : Unit) => r = 0) (w' := fun u => [(md, .inr (7, mdL za 2 cn ov sn kn fd cst co tb)), (za 5, .inl (k 0, 3, .inl (fun j => nI (RW j)))), (za 6, .inl (k 0, 24, .inl RO))]) () hm hw (rfl) d_Md_row_117
            · skip
              have h_67_5 : (RW kk) ≠ 8 := yneN c_67_5 (by omega) (by omega)
              refine lv_aload_n hx hb d_Md_row_70 rfl (lv_at hl 1 rfl) ?_
              refine b_get (T := F_Md) hm hw 0 rfl rfl (fun w h => uw_of w (u_Md w h)) 5 (by decide) (uw_of _ k_613) rfl d_Md_row_71 ?_
              refine lv_iload_n hx hb d_Md_row_74 rfl (lv_at hl 2 rfl) ?_
              refine b_iald (i := kk) hm hw 1 0 rfl rfl (by omega) (by omega) d_Md_row_75 ?_
              refine b_ti (show (fun j => nI (RW j)) kk = nI (RW kk) from rfl) ?_
              refine lv_if_le (tgt := 105) hx hb d_Md_row_76 (by decide) (fun c_76_7 => ?_) (fun c_76_7 => ?_)
              · skip
                have h_76_7 : (RW kk) ≤ 0 := yle0 c_76_7 (by omega) (by omega)
                exact absurd (by unfold lnRoom; by_cases h0 : RW kk = 0 <;> (try rw [Nat.add_sub_assoc (by omega)] at *) <;> grind) hs9
              · skip
                have h_76_7 : 0 < (RW kk) := ygtN0 c_76_7 (by omega) (by omega)
                refine lv_iload_n hx hb d_Md_row_79 rfl (lv_at hl 3 rfl) ?_
                refine lv_aload_n hx hb d_Md_row_80 rfl (lv_at hl 1 rfl) ?_
                refine b_get (T := F_Md) hm hw 0 rfl rfl (fun w h => uw_of w (u_Md w h)) 6 (by decide) (uw_of _ k_614) rfl d_Md_row_81 ?_
                refine lv_bipush (v := nI 8) hx hb d_Md_row_84 (by decide) ?_
                refine lv_iload_n hx hb d_Md_row_86 rfl (lv_at hl 2 rfl) ?_
                refine lv_imul hx hb d_Md_row_87 ?_
                refine b_ti (pk_mul 8 kk) ?_
                refine lv_aload_n hx hb d_Md_row_88 rfl (lv_at hl 1 rfl) ?_
                refine b_get (T := F_Md) hm hw 0 rfl rfl (fun w h => uw_of w (u_Md w h)) 5 (by decide) (uw_of _ k_613) rfl d_Md_row_89 ?_
                refine lv_iload_n hx hb d_Md_row_92 rfl (lv_at hl 2 rfl) ?_
                refine b_iald (i := kk) hm hw 1 0 rfl rfl (by omega) (by omega) d_Md_row_93 ?_
                refine b_ti (show (fun j => nI (RW j)) kk = nI (RW kk) from rfl) ?_
                refine lv_iadd hx hb d_Md_row_94 ?_
                refine b_ti (nI_add (8 * kk) (RW kk)) ?_
                refine lv_iconst (v := nI 1) hx hb d_Md_row_95 (by decide) ?_
                refine lv_isub hx hb d_Md_row_96 ?_
                refine b_ti (pk_sub (a := 8 * kk + (RW kk)) (b := 1) (by omega)) ?_
                refine b_iald (i := 8 * kk + (RW kk) - 1) hm hw 2 0 rfl rfl (by omega) (by omega) d_Md_row_97 ?_
                refine lv_icmp_gt (tgt := 105) hx hb d_Md_row_98 (by decide) (fun c_98_8 => ?_) (fun c_98_8 => ?_)
                · skip
                  exact absurd (by unfold lnRoom; by_cases h0 : RW kk = 0 <;> (try rw [Nat.add_sub_assoc (by omega)] at *) <;> grind) hs9
                · skip
                  refine lv_iconst (v := nI 2) hx hb d_Md_row_101 (by decide) ?_
                  refine lv_goto (tgt := 106) hx hb d_Md_row_102 (by decide) ?_
                  refine b_put (T := F_Md) hm hw 0 rfl rfl (fun w h => uw_of w (u_Md w h)) t_Md t_Md_ok n_Md 0 (by decide) (uw_of _ k_608) rfl rfl rfl (Nat.le_of_ble_eq_true rfl) d_Md_row_106 (w1 := [(md, .inr (7, mdL za 2 cn ov sn kn fd cst co tb)), (za 5, .inl (k 0, 3, .inl (fun j => nI (RW j)))), (za 6, .inl (k 0, 24, .inl RO))]) rfl (fun H locs hw => ?_)
                  refine lv_aload_n hx hb d_Md_row_109 rfl (lv_at hl 1 rfl) ?_
                  refine b_get (T := F_Md) hm hw 0 rfl rfl (fun w h => uw_of w (u_Md w h)) 0 (by decide) (uw_of _ k_608) rfl d_Md_row_110 ?_
                  refine lv_if_le (tgt := 118) hx hb d_Md_row_113 (by decide) (fun c_113_9 => ?_) (fun c_113_9 => ?_)
                  · skip
                    exact absurd c_113_9 (by decide)
                  · skip
                    refine lv_iconst (v := nI 0) hx hb d_Md_row_116 (by decide) ?_
                    exact b_iret (post := fun (r : Int32) (_ : Unit) => r = 0) (w' := fun u => [(md, .inr (7, mdL za 2 cn ov sn kn fd cst co tb)), (za 5, .inl (k 0, 3, .inl (fun j => nI (RW j)))), (za 6, .inl (k 0, 24, .inl RO))]) () hm hw (rfl) d_Md_row_117
          · skip
            exact absurd c_52_4 (by decide)

set_option maxHeartbeats 4000000 in
set_option maxRecDepth 100000 in
theorem c_Md_row (l : Launch) (D : va_G) (k : Nat → ClassId) (sz : Nat) (md : Nat) (za : Nat → Nat) (th cn ov sn kn fd : Nat) (cst : Int64) (co tb : Nat) (RW : Nat → Nat) (RO : Nat → Int32) (RH : Nat → Int32) (RP : Nat → Int32) (kk : Nat) (v y q : Int32) (hc : cn ≤ 3) (hk : kk < cn) (hr8 : RW kk ≤ 8) (hv9 : ((-5000) ≤ v ∧ v ≤ nI 5000)) (hy : (nI 0 ≤ y ∧ y ≤ nI 100000)) (hq9 : (nI 0 ≤ q ∧ q ≤ nI 100000)) (hroom : lnRoom 8 (fun j => RO (8 * kk + j)) (RW kk) v) : Met l y_Md_row (uw y_Md_row b_Md_row 7 (some .int)) (rU 1 0 0) (va_Pc [.ref md, .int (nI kk), .int v, .int y, .int q] (bP (gU D k) [(md, .inr (7, mdL za th cn ov sn kn fd cst co tb)), (za 5, .inl (k 0, 3, .inl (fun j => nI (RW j)))), (za 6, .inl (k 0, 24, .inl RO)), (za 7, .inl (k 0, 24, .inl RH)), (za 8, .inl (k 0, 24, .inl RP))] sz)) (va_Qi (fun (r : Int32) (u : Unit) => r = nI (RW kk + 1)) (fun u => bQ (gU D k) (va_A [(md, .inr (7, mdL za th cn ov sn kn fd cst co tb)), (za 5, .inl (k 0, 3, .inl (fun j => nI (RW j)))), (za 6, .inl (k 0, 24, .inl RO)), (za 7, .inl (k 0, 24, .inl RH)), (za 8, .inl (k 0, 24, .inl RP))] sz) ([(md, .inr (7, mdL za 0 cn ov sn 0 fd cst co tb)), (za 5, .inl (k 0, 3, .inl (fun j => nI ((va_up RW kk (RW kk + 1)) j)))), (za 6, .inl (k 0, 24, .inl (upd RO (8 * kk + RW kk) v))), (za 7, .inl (k 0, 24, .inl (upd RH (8 * kk + RW kk) y))), (za 8, .inl (k 0, 24, .inl (upd RP (8 * kk + RW kk) q)))])) (va_A [(md, .inr (7, mdL za th cn ov sn kn fd cst co tb)), (za 5, .inl (k 0, 3, .inl (fun j => nI (RW j)))), (za 6, .inl (k 0, 24, .inl RO)), (za 7, .inl (k 0, 24, .inl RH)), (za 8, .inl (k 0, 24, .inl RP))] sz)) (rU 1 0 0).cells (rU 1 0 0).slots (va_A [(md, .inr (7, mdL za th cn ov sn kn fd cst co tb)), (za 5, .inl (k 0, 3, .inl (fun j => nI (RW j)))), (za 6, .inl (k 0, 24, .inl RO)), (za 7, .inl (k 0, 24, .inl RH)), (za 8, .inl (k 0, 24, .inl RP))] sz) := by
  refine b_start (y := y_Md_row) (maxL := 7) (ret := (some .int)) (cc := b_Md_row) (ws' := ut) (rm := rU 1 0 0) (av := [.ref md, .int (nI kk), .int v, .int y, .int q]) (g := gU D k) (ws := [(md, .inr (7, mdL za th cn ov sn kn fd cst co tb)), (za 5, .inl (k 0, 3, .inl (fun j => nI (RW j)))), (za 6, .inl (k 0, 24, .inl RO)), (za 7, .inl (k 0, 24, .inl RH)), (za 8, .inl (k 0, 24, .inl RP))]) (sz := sz) (Qc := fun A => va_Qi (fun (r : Int32) (u : Unit) => r = nI (RW kk + 1)) (fun u => bQ (gU D k) A ([(md, .inr (7, mdL za 0 cn ov sn 0 fd cst co tb)), (za 5, .inl (k 0, 3, .inl (fun j => nI ((va_up RW kk (RW kk + 1)) j)))), (za 6, .inl (k 0, 24, .inl (upd RO (8 * kk + RW kk) v))), (za 7, .inl (k 0, 24, .inl (upd RH (8 * kk + RW kk) y))), (za 8, .inl (k 0, 24, .inl (upd RP (8 * kk + RW kk) q)))])) A) (by decide +kernel) (Nat.le_of_ble_eq_true rfl) ?_
  intro p e s m below meth c A hm hnm hw ls hl
  have hl : lv_has ls 7 [(0, .ref md), (1, .int (nI kk)), (2, .int v), (3, .int y), (4, .int q)] := hl
  have hx := hm.1
  have hb := hm.2.1
  have hown := hm.2.2.2.2.1
  have hts := hm.2.2.2.2.2.1
  refine lv_aload_n hx hb d_Md_row_0 rfl (lv_at hl 0 rfl) ?_
  refine lv_iload_n hx hb d_Md_row_1 rfl (lv_at hl 1 rfl) ?_
  refine b_goi (wr := [(za 5, .inl (k 0, 3, .inl (fun j => nI (RW j)))), (za 6, .inl (k 0, 24, .inl RO)), (za 7, .inl (k 0, 24, .inl RH)), (za 8, .inl (k 0, 24, .inl RP))]) (b_runV (wc := [(md, .inr (7, mdL za th cn ov sn kn fd cst co tb))]) (As := [.int (nI kk)]) (rest := []) (q0 := 0) hm hw (cwV 1 hts (gV uw_of k_742 k_739 k_741 (mp 13 rfl rfl) k_9) rfl rfl rfl (by decide +kernel) ⟨by decide, by decide⟩) (c_Md_isMachine l D k _ md za th cn ov sn kn fd cst co tb (nI kk)) [0] (by decide) rfl rfl rfl rfl hl.1 rfl (Nat.le_of_ble_eq_true rfl) d_Md_row_2 ⟨by decide, by decide⟩) hw [0] [1, 2, 3, 4] rfl rfl (by decide) (by decide) (fun r2 _ H locs hp2 hw => ?_)
  have hw : bW (gU D k) A s H locs [(md, .inr (7, mdL za th cn ov sn kn fd cst co tb)), (za 5, .inl (k 0, 3, .inl (fun j => nI (RW j)))), (za 6, .inl (k 0, 24, .inl RO)), (za 7, .inl (k 0, 24, .inl RH)), (za 8, .inl (k 0, 24, .inl RP))] := hw.sub [4, 0, 1, 2, 3] (by decide) rfl
  have hr2 : r2 = 1 := by rcases hp2 with ⟨q, _⟩ | ⟨_, q⟩; exact q; exact absurd (im_n (by omega) (by omega)) q
  refine b_ti (y := nI 1) hr2 ?_
  refine lv_if_eq (tgt := 46) hx hb d_Md_row_5 (by decide) (fun c_5_0 => ?_) (fun c_5_0 => ?_)
  · skip
    exact absurd c_5_0 (by decide)
  · skip
    refine lv_iload_n hx hb d_Md_row_8 rfl (lv_at hl 2 rfl) ?_
    refine lv_sipush (v := (-5000)) hx hb d_Md_row_9 (by decide) ?_
    refine lv_sipush (v := nI 5000) hx hb d_Md_row_12 (by decide) ?_
    refine b_goi (wr := [(md, .inr (7, mdL za th cn ov sn kn fd cst co tb)), (za 5, .inl (k 0, 3, .inl (fun j => nI (RW j)))), (za 6, .inl (k 0, 24, .inl RO)), (za 7, .inl (k 0, 24, .inl RH)), (za 8, .inl (k 0, 24, .inl RP))]) (b_runS (wc := []) (As := [.int v, .int (-5000), .int (nI 5000)]) (rest := []) hm hw (va_cwS 3 hts (gS2 uw_of k_733 k_731 k_732 k_9) rfl rfl rfl (by decide +kernel) ⟨by decide, by decide⟩) (c_Md_in l D k _ v (-5000) (nI 5000)) [] (by decide) rfl rfl hl.1 rfl (Nat.le_of_ble_eq_true rfl) d_Md_row_15 ⟨by decide, by decide⟩) hw [] [0, 1, 2, 3, 4] rfl rfl (by decide) (by decide) (fun r15 _ H locs hp15 hw => ?_)
    have hw : bW (gU D k) A s H locs [(md, .inr (7, mdL za th cn ov sn kn fd cst co tb)), (za 5, .inl (k 0, 3, .inl (fun j => nI (RW j)))), (za 6, .inl (k 0, 24, .inl RO)), (za 7, .inl (k 0, 24, .inl RH)), (za 8, .inl (k 0, 24, .inl RP))] := hw.sub [0, 1, 2, 3, 4] (by decide) rfl
    have hr15 : r15 = 1 := by rcases hp15 with ⟨q, _⟩ | ⟨_, q⟩; exact q; exact absurd (hv9) q
    refine b_ti (y := nI 1) hr15 ?_
    refine lv_if_eq (tgt := 46) hx hb d_Md_row_18 (by decide) (fun c_18_1 => ?_) (fun c_18_1 => ?_)
    · skip
      exact absurd c_18_1 (by decide)
    · skip
      refine lv_iload_n hx hb d_Md_row_21 rfl (lv_at hl 3 rfl) ?_
      refine lv_iconst (v := nI 0) hx hb d_Md_row_22 (by decide) ?_
      refine lv_ldc (v := 100000) hx hb hown (hts _ (uw_of _ k_734)) d_Md_row_23 ?_
      refine b_ti (show (100000 : Int32) = nI 100000 from rfl) ?_
      refine b_goi (wr := [(md, .inr (7, mdL za th cn ov sn kn fd cst co tb)), (za 5, .inl (k 0, 3, .inl (fun j => nI (RW j)))), (za 6, .inl (k 0, 24, .inl RO)), (za 7, .inl (k 0, 24, .inl RH)), (za 8, .inl (k 0, 24, .inl RP))]) (b_runS (wc := []) (As := [.int y, .int (nI 0), .int (nI 100000)]) (rest := []) hm hw (va_cwS 3 hts (gS2 uw_of k_733 k_731 k_732 k_9) rfl rfl rfl (by decide +kernel) ⟨by decide, by decide⟩) (c_Md_in l D k _ y (nI 0) (nI 100000)) [] (by decide) rfl rfl hl.1 rfl (Nat.le_of_ble_eq_true rfl) d_Md_row_25 ⟨by decide, by decide⟩) hw [] [0, 1, 2, 3, 4] rfl rfl (by decide) (by decide) (fun r25 _ H locs hp25 hw => ?_)
      have hw : bW (gU D k) A s H locs [(md, .inr (7, mdL za th cn ov sn kn fd cst co tb)), (za 5, .inl (k 0, 3, .inl (fun j => nI (RW j)))), (za 6, .inl (k 0, 24, .inl RO)), (za 7, .inl (k 0, 24, .inl RH)), (za 8, .inl (k 0, 24, .inl RP))] := hw.sub [0, 1, 2, 3, 4] (by decide) rfl
      have hr25 : r25 = 1 := by rcases hp25 with ⟨q, _⟩ | ⟨_, q⟩; exact q; exact absurd (hy) q
      refine b_ti (y := nI 1) hr25 ?_
      refine lv_if_eq (tgt := 46) hx hb d_Md_row_28 (by decide) (fun c_28_2 => ?_) (fun c_28_2 => ?_)
      · skip
        exact absurd c_28_2 (by decide)
      · skip
        refine lv_iload hx hb d_Md_row_31 (lv_at hl 4 rfl) ?_
        refine lv_iconst (v := nI 0) hx hb d_Md_row_33 (by decide) ?_
        refine lv_ldc (v := 100000) hx hb hown (hts _ (uw_of _ k_734)) d_Md_row_34 ?_
        refine b_ti (show (100000 : Int32) = nI 100000 from rfl) ?_
        refine b_goi (wr := [(md, .inr (7, mdL za th cn ov sn kn fd cst co tb)), (za 5, .inl (k 0, 3, .inl (fun j => nI (RW j)))), (za 6, .inl (k 0, 24, .inl RO)), (za 7, .inl (k 0, 24, .inl RH)), (za 8, .inl (k 0, 24, .inl RP))]) (b_runS (wc := []) (As := [.int q, .int (nI 0), .int (nI 100000)]) (rest := []) hm hw (va_cwS 3 hts (gS2 uw_of k_733 k_731 k_732 k_9) rfl rfl rfl (by decide +kernel) ⟨by decide, by decide⟩) (c_Md_in l D k _ q (nI 0) (nI 100000)) [] (by decide) rfl rfl hl.1 rfl (Nat.le_of_ble_eq_true rfl) d_Md_row_36 ⟨by decide, by decide⟩) hw [] [0, 1, 2, 3, 4] rfl rfl (by decide) (by decide) (fun r36 _ H locs hp36 hw => ?_)
        have hw : bW (gU D k) A s H locs [(md, .inr (7, mdL za th cn ov sn kn fd cst co tb)), (za 5, .inl (k 0, 3, .inl (fun j => nI (RW j)))), (za 6, .inl (k 0, 24, .inl RO)), (za 7, .inl (k 0, 24, .inl RH)), (za 8, .inl (k 0, 24, .inl RP))] := hw.sub [0, 1, 2, 3, 4] (by decide) rfl
        have hr36 : r36 = 1 := by rcases hp36 with ⟨q, _⟩ | ⟨_, q⟩; exact q; exact absurd (hq9) q
        refine b_ti (y := nI 1) hr36 ?_
        refine lv_if_eq (tgt := 46) hx hb d_Md_row_39 (by decide) (fun c_39_3 => ?_) (fun c_39_3 => ?_)
        · skip
          exact absurd c_39_3 (by decide)
        · skip
          refine lv_iconst (v := nI 1) hx hb d_Md_row_42 (by decide) ?_
          refine lv_goto (tgt := 47) hx hb d_Md_row_43 (by decide) ?_
          refine lv_istore (lv' := [(5, .int (nI 1)), (0, .ref md), (1, .int (nI kk)), (2, .int v), (3, .int y), (4, .int q)]) hx hb d_Md_row_47  hl (by decide) rfl (fun ls hl => ?_)
          refine lv_aload_n hx hb d_Md_row_49 rfl (lv_at hl 1 rfl) ?_
          refine lv_iload hx hb d_Md_row_50 (lv_at hl 0 rfl) ?_
          refine lv_if_ne (tgt := 59) hx hb d_Md_row_52 (by decide) (fun c_52_4 => ?_) (fun c_52_4 => ?_)
          · skip
            refine lv_aload_n hx hb d_Md_row_59 rfl (lv_at hl 1 rfl) ?_
            refine b_get (T := F_Md) hm hw 0 rfl rfl (fun w h => uw_of w (u_Md w h)) 5 (by decide) (uw_of _ k_613) rfl d_Md_row_60 ?_
            refine lv_iload_n hx hb d_Md_row_63 rfl (lv_at hl 2 rfl) ?_
            refine b_iald (i := kk) hm hw 1 0 rfl rfl (by omega) (by omega) d_Md_row_64 ?_
            refine b_ti (show (fun j => nI (RW j)) kk = nI (RW kk) from rfl) ?_
            refine lv_bipush (v := nI 8) hx hb d_Md_row_65 (by decide) ?_
            refine lv_icmp_eq (tgt := 101) hx hb d_Md_row_67 (by decide) (fun c_67_5 => ?_) (fun c_67_5 => ?_)
            · skip
              have h_67_5 : (RW kk) = 8 := yeq c_67_5 (by omega) (by omega)
              exact absurd hroom (by unfold lnRoom; by_cases h0 : RW kk = 0 <;> (try rw [Nat.add_sub_assoc (by omega)] at *) <;> grind)
            · skip
              have h_67_5 : (RW kk) ≠ 8 := yneN c_67_5 (by omega) (by omega)
              refine lv_aload_n hx hb d_Md_row_70 rfl (lv_at hl 1 rfl) ?_
              refine b_get (T := F_Md) hm hw 0 rfl rfl (fun w h => uw_of w (u_Md w h)) 5 (by decide) (uw_of _ k_613) rfl d_Md_row_71 ?_
              refine lv_iload_n hx hb d_Md_row_74 rfl (lv_at hl 2 rfl) ?_
              refine b_iald (i := kk) hm hw 1 0 rfl rfl (by omega) (by omega) d_Md_row_75 ?_
              refine b_ti (show (fun j => nI (RW j)) kk = nI (RW kk) from rfl) ?_
              refine lv_if_le (tgt := 105) hx hb d_Md_row_76 (by decide) (fun c_76_6 => ?_) (fun c_76_6 => ?_)
              · skip
                have h_76_6 : (RW kk) ≤ 0 := yle0 c_76_6 (by omega) (by omega)
                refine lv_iconst (v := nI 0) hx hb d_Md_row_105 (by decide) ?_
                refine b_put (T := F_Md) hm hw 0 rfl rfl (fun w h => uw_of w (u_Md w h)) t_Md t_Md_ok n_Md 0 (by decide) (uw_of _ k_608) rfl rfl rfl (Nat.le_of_ble_eq_true rfl) d_Md_row_106 (w1 := [(md, .inr (7, mdL za 0 cn ov sn kn fd cst co tb)), (za 5, .inl (k 0, 3, .inl (fun j => nI (RW j)))), (za 6, .inl (k 0, 24, .inl RO)), (za 7, .inl (k 0, 24, .inl RH)), (za 8, .inl (k 0, 24, .inl RP))]) rfl (fun H locs hw => ?_)
                refine lv_aload_n hx hb d_Md_row_109 rfl (lv_at hl 1 rfl) ?_
                refine b_get (T := F_Md) hm hw 0 rfl rfl (fun w h => uw_of w (u_Md w h)) 0 (by decide) (uw_of _ k_608) rfl d_Md_row_110 ?_
                refine lv_if_le (tgt := 118) hx hb d_Md_row_113 (by decide) (fun c_113_7 => ?_) (fun c_113_7 => ?_)
                · skip
                  refine lv_bipush (v := nI 8) hx hb d_Md_row_118 (by decide) ?_
                  refine lv_iload_n hx hb d_Md_row_120 rfl (lv_at hl 2 rfl) ?_
                  refine lv_imul hx hb d_Md_row_121 ?_
                  refine b_ti (pk_mul 8 kk) ?_
                  refine lv_aload_n hx hb d_Md_row_122 rfl (lv_at hl 1 rfl) ?_
                  refine b_get (T := F_Md) hm hw 0 rfl rfl (fun w h => uw_of w (u_Md w h)) 5 (by decide) (uw_of _ k_613) rfl d_Md_row_123 ?_
                  refine lv_iload_n hx hb d_Md_row_126 rfl (lv_at hl 2 rfl) ?_
                  refine b_iald (i := kk) hm hw 1 0 rfl rfl (by omega) (by omega) d_Md_row_127 ?_
                  refine b_ti (show (fun j => nI (RW j)) kk = nI (RW kk) from rfl) ?_
                  refine lv_iadd hx hb d_Md_row_128 ?_
                  refine b_ti (nI_add (8 * kk) (RW kk)) ?_
                  refine lv_istore (lv' := [(6, .int (nI (8 * kk + (RW kk)))), (5, .int (nI 1)), (0, .ref md), (1, .int (nI kk)), (2, .int v), (3, .int y), (4, .int q)]) hx hb d_Md_row_129  hl (by decide) rfl (fun ls hl => ?_)
                  refine lv_aload_n hx hb d_Md_row_131 rfl (lv_at hl 2 rfl) ?_
                  refine b_get (T := F_Md) hm hw 0 rfl rfl (fun w h => uw_of w (u_Md w h)) 6 (by decide) (uw_of _ k_614) rfl d_Md_row_132 ?_
                  refine lv_iload hx hb d_Md_row_135 (lv_at hl 0 rfl) ?_
                  refine lv_iload_n hx hb d_Md_row_137 rfl (lv_at hl 4 rfl) ?_
                  refine b_iast (i := 8 * kk + (RW kk)) hm hw 2 0 rfl rfl (by omega) (by omega) d_Md_row_138 (w1 := [(md, .inr (7, mdL za 0 cn ov sn kn fd cst co tb)), (za 5, .inl (k 0, 3, .inl (fun j => nI (RW j)))), (za 6, .inl (k 0, 24, .inl (upd RO (8 * kk + (RW kk)) v))), (za 7, .inl (k 0, 24, .inl RH)), (za 8, .inl (k 0, 24, .inl RP))]) rfl (fun H locs hw => ?_)
                  refine lv_aload_n hx hb d_Md_row_139 rfl (lv_at hl 2 rfl) ?_
                  refine b_get (T := F_Md) hm hw 0 rfl rfl (fun w h => uw_of w (u_Md w h)) 7 (by decide) (uw_of _ k_615) rfl d_Md_row_140 ?_
                  refine lv_iload hx hb d_Md_row_143 (lv_at hl 0 rfl) ?_
                  refine lv_iload_n hx hb d_Md_row_145 rfl (lv_at hl 5 rfl) ?_
                  refine b_iast (i := 8 * kk + (RW kk)) hm hw 3 0 rfl rfl (by omega) (by omega) d_Md_row_146 (w1 := [(md, .inr (7, mdL za 0 cn ov sn kn fd cst co tb)), (za 5, .inl (k 0, 3, .inl (fun j => nI (RW j)))), (za 6, .inl (k 0, 24, .inl (upd RO (8 * kk + (RW kk)) v))), (za 7, .inl (k 0, 24, .inl (upd RH (8 * kk + (RW kk)) y))), (za 8, .inl (k 0, 24, .inl RP))]) rfl (fun H locs hw => ?_)
                  refine lv_aload_n hx hb d_Md_row_147 rfl (lv_at hl 2 rfl) ?_
                  refine b_get (T := F_Md) hm hw 0 rfl rfl (fun w h => uw_of w (u_Md w h)) 8 (by decide) (uw_of _ k_616) rfl d_Md_row_148 ?_
                  refine lv_iload hx hb d_Md_row_151 (lv_at hl 0 rfl) ?_
                  refine lv_iload hx hb d_Md_row_153 (lv_at hl 6 rfl) ?_
                  refine b_iast (i := 8 * kk + (RW kk)) hm hw 4 0 rfl rfl (by omega) (by omega) d_Md_row_155 (w1 := [(md, .inr (7, mdL za 0 cn ov sn kn fd cst co tb)), (za 5, .inl (k 0, 3, .inl (fun j => nI (RW j)))), (za 6, .inl (k 0, 24, .inl (upd RO (8 * kk + (RW kk)) v))), (za 7, .inl (k 0, 24, .inl (upd RH (8 * kk + (RW kk)) y))), (za 8, .inl (k 0, 24, .inl (upd RP (8 * kk + (RW kk)) q)))]) rfl (fun H locs hw => ?_)
                  refine lv_aload_n hx hb d_Md_row_156 rfl (lv_at hl 2 rfl) ?_
                  refine b_get (T := F_Md) hm hw 0 rfl rfl (fun w h => uw_of w (u_Md w h)) 5 (by decide) (uw_of _ k_613) rfl d_Md_row_157 ?_
                  refine lv_iload_n hx hb d_Md_row_160 rfl (lv_at hl 3 rfl) ?_
                  refine lv_dup2_11 hx hb d_Md_row_161 rfl rfl ?_
                  refine b_iald (i := kk) hm hw 1 0 rfl rfl (by omega) (by omega) d_Md_row_162 ?_
                  refine b_ti (show (fun j => nI (RW j)) kk = nI (RW kk) from rfl) ?_
                  refine lv_iconst (v := nI 1) hx hb d_Md_row_163 (by decide) ?_
                  refine lv_iadd hx hb d_Md_row_164 ?_
                  refine b_ti (nI_add (RW kk) 1) ?_
                  refine b_iast (i := kk) hm hw 1 0 rfl rfl (by omega) (by omega) d_Md_row_165 (w1 := [(md, .inr (7, mdL za 0 cn ov sn kn fd cst co tb)), (za 5, .inl (k 0, 3, .inl (fun j => nI ((va_up RW kk (RW kk + 1)) j)))), (za 6, .inl (k 0, 24, .inl (upd RO (8 * kk + (RW kk)) v))), (za 7, .inl (k 0, 24, .inl (upd RH (8 * kk + (RW kk)) y))), (za 8, .inl (k 0, 24, .inl (upd RP (8 * kk + (RW kk)) q)))]) (by rw [updN]; rfl) (fun H locs hw => ?_)
                  refine lv_aload_n hx hb d_Md_row_166 rfl (lv_at hl 2 rfl) ?_
                  refine lv_iconst (v := nI 0) hx hb d_Md_row_167 (by decide) ?_
                  refine b_put (T := F_Md) hm hw 0 rfl rfl (fun w h => uw_of w (u_Md w h)) t_Md t_Md_ok n_Md 28 (by decide) (uw_of _ k_636) rfl rfl rfl (Nat.le_of_ble_eq_true rfl) d_Md_row_168 (w1 := [(md, .inr (7, mdL za 0 cn ov sn 0 fd cst co tb)), (za 5, .inl (k 0, 3, .inl (fun j => nI ((va_up RW kk (RW kk + 1)) j)))), (za 6, .inl (k 0, 24, .inl (upd RO (8 * kk + (RW kk)) v))), (za 7, .inl (k 0, 24, .inl (upd RH (8 * kk + (RW kk)) y))), (za 8, .inl (k 0, 24, .inl (upd RP (8 * kk + (RW kk)) q)))]) rfl (fun H locs hw => ?_)
                  refine lv_aload_n hx hb d_Md_row_171 rfl (lv_at hl 2 rfl) ?_
                  refine b_get (T := F_Md) hm hw 0 rfl rfl (fun w h => uw_of w (u_Md w h)) 5 (by decide) (uw_of _ k_613) rfl d_Md_row_172 ?_
                  refine lv_iload_n hx hb d_Md_row_175 rfl (lv_at hl 3 rfl) ?_
                  refine b_iald (i := kk) hm hw 1 0 rfl rfl (by omega) (by omega) d_Md_row_176 ?_
                  refine b_ti (show (fun j => nI ((va_up RW kk (RW kk + 1)) j)) kk = nI ((va_up RW kk (RW kk + 1)) kk) from rfl) ?_
                  exact b_iret (post := fun (r : Int32) (u : Unit) => r = nI (RW kk + 1)) (w' := fun u => [(md, .inr (7, mdL za 0 cn ov sn 0 fd cst co tb)), (za 5, .inl (k 0, 3, .inl (fun j => nI ((va_up RW kk (RW kk + 1)) j)))), (za 6, .inl (k 0, 24, .inl (upd RO (8 * kk + RW kk) v))), (za 7, .inl (k 0, 24, .inl (upd RH (8 * kk + RW kk) y))), (za 8, .inl (k 0, 24, .inl (upd RP (8 * kk + RW kk) q)))]) () hm hw (by rw [va_up_self]) d_Md_row_177
                · skip
                  exact absurd c_113_7 (by decide)
              · skip
                have h_76_6 : 0 < (RW kk) := ygtN0 c_76_6 (by omega) (by omega)
                refine lv_iload_n hx hb d_Md_row_79 rfl (lv_at hl 3 rfl) ?_
                refine lv_aload_n hx hb d_Md_row_80 rfl (lv_at hl 1 rfl) ?_
                refine b_get (T := F_Md) hm hw 0 rfl rfl (fun w h => uw_of w (u_Md w h)) 6 (by decide) (uw_of _ k_614) rfl d_Md_row_81 ?_
                refine lv_bipush (v := nI 8) hx hb d_Md_row_84 (by decide) ?_
                refine lv_iload_n hx hb d_Md_row_86 rfl (lv_at hl 2 rfl) ?_
                refine lv_imul hx hb d_Md_row_87 ?_
                refine b_ti (pk_mul 8 kk) ?_
                refine lv_aload_n hx hb d_Md_row_88 rfl (lv_at hl 1 rfl) ?_
                refine b_get (T := F_Md) hm hw 0 rfl rfl (fun w h => uw_of w (u_Md w h)) 5 (by decide) (uw_of _ k_613) rfl d_Md_row_89 ?_
                refine lv_iload_n hx hb d_Md_row_92 rfl (lv_at hl 2 rfl) ?_
                refine b_iald (i := kk) hm hw 1 0 rfl rfl (by omega) (by omega) d_Md_row_93 ?_
                refine b_ti (show (fun j => nI (RW j)) kk = nI (RW kk) from rfl) ?_
                refine lv_iadd hx hb d_Md_row_94 ?_
                refine b_ti (nI_add (8 * kk) (RW kk)) ?_
                refine lv_iconst (v := nI 1) hx hb d_Md_row_95 (by decide) ?_
                refine lv_isub hx hb d_Md_row_96 ?_
                refine b_ti (pk_sub (a := 8 * kk + (RW kk)) (b := 1) (by omega)) ?_
                refine b_iald (i := 8 * kk + (RW kk) - 1) hm hw 2 0 rfl rfl (by omega) (by omega) d_Md_row_97 ?_
                refine lv_icmp_gt (tgt := 105) hx hb d_Md_row_98 (by decide) (fun c_98_8 => ?_) (fun c_98_8 => ?_)
                · skip
                  refine lv_iconst (v := nI 0) hx hb d_Md_row_105 (by decide) ?_
                  refine b_put (T := F_Md) hm hw 0 rfl rfl (fun w h => uw_of w (u_Md w h)) t_Md t_Md_ok n_Md 0 (by decide) (uw_of _ k_608) rfl rfl rfl (Nat.le_of_ble_eq_true rfl) d_Md_row_106 (w1 := [(md, .inr (7, mdL za 0 cn ov sn kn fd cst co tb)), (za 5, .inl (k 0, 3, .inl (fun j => nI (RW j)))), (za 6, .inl (k 0, 24, .inl RO)), (za 7, .inl (k 0, 24, .inl RH)), (za 8, .inl (k 0, 24, .inl RP))]) rfl (fun H locs hw => ?_)
                  refine lv_aload_n hx hb d_Md_row_109 rfl (lv_at hl 1 rfl) ?_
                  refine b_get (T := F_Md) hm hw 0 rfl rfl (fun w h => uw_of w (u_Md w h)) 0 (by decide) (uw_of _ k_608) rfl d_Md_row_110 ?_
                  refine lv_if_le (tgt := 118) hx hb d_Md_row_113 (by decide) (fun c_113_9 => ?_) (fun c_113_9 => ?_)
                  · skip
                    refine lv_bipush (v := nI 8) hx hb d_Md_row_118 (by decide) ?_
                    refine lv_iload_n hx hb d_Md_row_120 rfl (lv_at hl 2 rfl) ?_
                    refine lv_imul hx hb d_Md_row_121 ?_
                    refine b_ti (pk_mul 8 kk) ?_
                    refine lv_aload_n hx hb d_Md_row_122 rfl (lv_at hl 1 rfl) ?_
                    refine b_get (T := F_Md) hm hw 0 rfl rfl (fun w h => uw_of w (u_Md w h)) 5 (by decide) (uw_of _ k_613) rfl d_Md_row_123 ?_
                    refine lv_iload_n hx hb d_Md_row_126 rfl (lv_at hl 2 rfl) ?_
                    refine b_iald (i := kk) hm hw 1 0 rfl rfl (by omega) (by omega) d_Md_row_127 ?_
                    refine b_ti (show (fun j => nI (RW j)) kk = nI (RW kk) from rfl) ?_
                    refine lv_iadd hx hb d_Md_row_128 ?_
                    refine b_ti (nI_add (8 * kk) (RW kk)) ?_
                    refine lv_istore (lv' := [(6, .int (nI (8 * kk + (RW kk)))), (5, .int (nI 1)), (0, .ref md), (1, .int (nI kk)), (2, .int v), (3, .int y), (4, .int q)]) hx hb d_Md_row_129  hl (by decide) rfl (fun ls hl => ?_)
                    refine lv_aload_n hx hb d_Md_row_131 rfl (lv_at hl 2 rfl) ?_
                    refine b_get (T := F_Md) hm hw 0 rfl rfl (fun w h => uw_of w (u_Md w h)) 6 (by decide) (uw_of _ k_614) rfl d_Md_row_132 ?_
                    refine lv_iload hx hb d_Md_row_135 (lv_at hl 0 rfl) ?_
                    refine lv_iload_n hx hb d_Md_row_137 rfl (lv_at hl 4 rfl) ?_
                    refine b_iast (i := 8 * kk + (RW kk)) hm hw 2 0 rfl rfl (by omega) (by omega) d_Md_row_138 (w1 := [(md, .inr (7, mdL za 0 cn ov sn kn fd cst co tb)), (za 5, .inl (k 0, 3, .inl (fun j => nI (RW j)))), (za 6, .inl (k 0, 24, .inl (upd RO (8 * kk + (RW kk)) v))), (za 7, .inl (k 0, 24, .inl RH)), (za 8, .inl (k 0, 24, .inl RP))]) rfl (fun H locs hw => ?_)
                    refine lv_aload_n hx hb d_Md_row_139 rfl (lv_at hl 2 rfl) ?_
                    refine b_get (T := F_Md) hm hw 0 rfl rfl (fun w h => uw_of w (u_Md w h)) 7 (by decide) (uw_of _ k_615) rfl d_Md_row_140 ?_
                    refine lv_iload hx hb d_Md_row_143 (lv_at hl 0 rfl) ?_
                    refine lv_iload_n hx hb d_Md_row_145 rfl (lv_at hl 5 rfl) ?_
                    refine b_iast (i := 8 * kk + (RW kk)) hm hw 3 0 rfl rfl (by omega) (by omega) d_Md_row_146 (w1 := [(md, .inr (7, mdL za 0 cn ov sn kn fd cst co tb)), (za 5, .inl (k 0, 3, .inl (fun j => nI (RW j)))), (za 6, .inl (k 0, 24, .inl (upd RO (8 * kk + (RW kk)) v))), (za 7, .inl (k 0, 24, .inl (upd RH (8 * kk + (RW kk)) y))), (za 8, .inl (k 0, 24, .inl RP))]) rfl (fun H locs hw => ?_)
                    refine lv_aload_n hx hb d_Md_row_147 rfl (lv_at hl 2 rfl) ?_
                    refine b_get (T := F_Md) hm hw 0 rfl rfl (fun w h => uw_of w (u_Md w h)) 8 (by decide) (uw_of _ k_616) rfl d_Md_row_148 ?_
                    refine lv_iload hx hb d_Md_row_151 (lv_at hl 0 rfl) ?_
                    refine lv_iload hx hb d_Md_row_153 (lv_at hl 6 rfl) ?_
                    refine b_iast (i := 8 * kk + (RW kk)) hm hw 4 0 rfl rfl (by omega) (by omega) d_Md_row_155 (w1 := [(md, .inr (7, mdL za 0 cn ov sn kn fd cst co tb)), (za 5, .inl (k 0, 3, .inl (fun j => nI (RW j)))), (za 6, .inl (k 0, 24, .inl (upd RO (8 * kk + (RW kk)) v))), (za 7, .inl (k 0, 24, .inl (upd RH (8 * kk + (RW kk)) y))), (za 8, .inl (k 0, 24, .inl (upd RP (8 * kk + (RW kk)) q)))]) rfl (fun H locs hw => ?_)
                    refine lv_aload_n hx hb d_Md_row_156 rfl (lv_at hl 2 rfl) ?_
                    refine b_get (T := F_Md) hm hw 0 rfl rfl (fun w h => uw_of w (u_Md w h)) 5 (by decide) (uw_of _ k_613) rfl d_Md_row_157 ?_
                    refine lv_iload_n hx hb d_Md_row_160 rfl (lv_at hl 3 rfl) ?_
                    refine lv_dup2_11 hx hb d_Md_row_161 rfl rfl ?_
                    refine b_iald (i := kk) hm hw 1 0 rfl rfl (by omega) (by omega) d_Md_row_162 ?_
                    refine b_ti (show (fun j => nI (RW j)) kk = nI (RW kk) from rfl) ?_
                    refine lv_iconst (v := nI 1) hx hb d_Md_row_163 (by decide) ?_
                    refine lv_iadd hx hb d_Md_row_164 ?_
                    refine b_ti (nI_add (RW kk) 1) ?_
                    refine b_iast (i := kk) hm hw 1 0 rfl rfl (by omega) (by omega) d_Md_row_165 (w1 := [(md, .inr (7, mdL za 0 cn ov sn kn fd cst co tb)), (za 5, .inl (k 0, 3, .inl (fun j => nI ((va_up RW kk (RW kk + 1)) j)))), (za 6, .inl (k 0, 24, .inl (upd RO (8 * kk + (RW kk)) v))), (za 7, .inl (k 0, 24, .inl (upd RH (8 * kk + (RW kk)) y))), (za 8, .inl (k 0, 24, .inl (upd RP (8 * kk + (RW kk)) q)))]) (by rw [updN]; rfl) (fun H locs hw => ?_)
                    refine lv_aload_n hx hb d_Md_row_166 rfl (lv_at hl 2 rfl) ?_
                    refine lv_iconst (v := nI 0) hx hb d_Md_row_167 (by decide) ?_
                    refine b_put (T := F_Md) hm hw 0 rfl rfl (fun w h => uw_of w (u_Md w h)) t_Md t_Md_ok n_Md 28 (by decide) (uw_of _ k_636) rfl rfl rfl (Nat.le_of_ble_eq_true rfl) d_Md_row_168 (w1 := [(md, .inr (7, mdL za 0 cn ov sn 0 fd cst co tb)), (za 5, .inl (k 0, 3, .inl (fun j => nI ((va_up RW kk (RW kk + 1)) j)))), (za 6, .inl (k 0, 24, .inl (upd RO (8 * kk + (RW kk)) v))), (za 7, .inl (k 0, 24, .inl (upd RH (8 * kk + (RW kk)) y))), (za 8, .inl (k 0, 24, .inl (upd RP (8 * kk + (RW kk)) q)))]) rfl (fun H locs hw => ?_)
                    refine lv_aload_n hx hb d_Md_row_171 rfl (lv_at hl 2 rfl) ?_
                    refine b_get (T := F_Md) hm hw 0 rfl rfl (fun w h => uw_of w (u_Md w h)) 5 (by decide) (uw_of _ k_613) rfl d_Md_row_172 ?_
                    refine lv_iload_n hx hb d_Md_row_175 rfl (lv_at hl 3 rfl) ?_
                    refine b_iald (i := kk) hm hw 1 0 rfl rfl (by omega) (by omega) d_Md_row_176 ?_
                    refine b_ti (show (fun j => nI ((va_up RW kk (RW kk + 1)) j)) kk = nI ((va_up RW kk (RW kk + 1)) kk) from rfl) ?_
                    exact b_iret (post := fun (r : Int32) (u : Unit) => r = nI (RW kk + 1)) (w' := fun u => [(md, .inr (7, mdL za 0 cn ov sn 0 fd cst co tb)), (za 5, .inl (k 0, 3, .inl (fun j => nI ((va_up RW kk (RW kk + 1)) j)))), (za 6, .inl (k 0, 24, .inl (upd RO (8 * kk + RW kk) v))), (za 7, .inl (k 0, 24, .inl (upd RH (8 * kk + RW kk) y))), (za 8, .inl (k 0, 24, .inl (upd RP (8 * kk + RW kk) q)))]) () hm hw (by rw [va_up_self]) d_Md_row_177
                  · skip
                    exact absurd c_113_9 (by decide)
                · skip
                  exact absurd hroom (by unfold lnRoom; by_cases h0 : RW kk = 0 <;> (try rw [Nat.add_sub_assoc (by omega)] at *) <;> grind)
          · skip
            exact absurd c_52_4 (by decide)

set_option maxHeartbeats 4000000 in
set_option maxRecDepth 100000 in
theorem c_Md_hour_t1 (l : Launch) (D : va_G) (k : Nat → ClassId) (sz : Nat) (md : Nat) (za : Nat → Nat) (th cn ov sn kn fd : Nat) (cst : Int64) (co tb : Nat) (h w v : Int32) (hv9 : ¬ ((nI 0 ≤ h ∧ h ≤ nI 35) ∧ ((w = 0 ∧ ((-5000) ≤ v ∧ v ≤ nI 5000)) ∨ (w = nI 1 ∧ (nI 0 ≤ v ∧ v ≤ nI 1000)) ∨ (w = nI 2 ∧ (nI 0 ≤ v ∧ v ≤ nI 100000))))) : Met l y_Md_hour (uw y_Md_hour b_Md_hour 6 (some .int)) (rU 1 0 0) (va_Pc [.ref md, .int h, .int w, .int v] (bP (gU D k) [(md, .inr (7, mdL za th cn ov sn kn fd cst co tb))] sz)) (va_Qi (fun (r : Int32) (_ : Unit) => r = 0) (fun u => bQ (gU D k) (va_A [(md, .inr (7, mdL za th cn ov sn kn fd cst co tb))] sz) ([(md, .inr (7, mdL za 1 cn ov sn kn fd cst co tb))])) (va_A [(md, .inr (7, mdL za th cn ov sn kn fd cst co tb))] sz)) (rU 1 0 0).cells (rU 1 0 0).slots (va_A [(md, .inr (7, mdL za th cn ov sn kn fd cst co tb))] sz) := by
  refine b_start (y := y_Md_hour) (maxL := 6) (ret := (some .int)) (cc := b_Md_hour) (ws' := ut) (rm := rU 1 0 0) (av := [.ref md, .int h, .int w, .int v]) (g := gU D k) (ws := [(md, .inr (7, mdL za th cn ov sn kn fd cst co tb))]) (sz := sz) (Qc := fun A => va_Qi (fun (r : Int32) (_ : Unit) => r = 0) (fun u => bQ (gU D k) A ([(md, .inr (7, mdL za 1 cn ov sn kn fd cst co tb))])) A) (by decide +kernel) (Nat.le_of_ble_eq_true rfl) ?_
  intro p e s m below meth c A hm hnm hw ls hl
  have hl : lv_has ls 6 [(0, .ref md), (1, .int h), (2, .int w), (3, .int v)] := hl
  have hx := hm.1
  have hb := hm.2.1
  have hown := hm.2.2.2.2.1
  have hts := hm.2.2.2.2.2.1
  refine lv_iload_n hx hb d_Md_hour_0 rfl (lv_at hl 1 rfl) ?_
  refine lv_iconst (v := nI 0) hx hb d_Md_hour_1 (by decide) ?_
  refine lv_bipush (v := nI 35) hx hb d_Md_hour_2 (by decide) ?_
  refine b_goi (wr := [(md, .inr (7, mdL za th cn ov sn kn fd cst co tb))]) (b_runS (wc := []) (As := [.int h, .int (nI 0), .int (nI 35)]) (rest := []) hm hw (va_cwS 3 hts (gS2 uw_of k_733 k_731 k_732 k_9) rfl rfl rfl (by decide +kernel) ⟨by decide, by decide⟩) (c_Md_in l D k _ h (nI 0) (nI 35)) [] (by decide) rfl rfl hl.1 rfl (Nat.le_of_ble_eq_true rfl) d_Md_hour_4 ⟨by decide, by decide⟩) hw [] [0] rfl rfl (by decide) (by decide) (fun r4 _ H locs hp4 hw => ?_)
  have hw : bW (gU D k) A s H locs [(md, .inr (7, mdL za th cn ov sn kn fd cst co tb))] := hw.sub [0] (by decide) rfl
  rcases hp4 with ⟨hr4, hp4⟩ | ⟨hr4, hp4⟩
  · skip
    refine b_ti (y := nI 1) hr4 ?_
    refine lv_if_eq (tgt := 62) hx hb d_Md_hour_7 (by decide) (fun c_7_0 => ?_) (fun c_7_0 => ?_)
    · skip
      exact absurd c_7_0 (by decide)
    · skip
      refine lv_iload_n hx hb d_Md_hour_10 rfl (lv_at hl 2 rfl) ?_
      refine lv_if_ne (tgt := 27) hx hb d_Md_hour_11 (by decide) (fun c_11_1 => ?_) (fun c_11_1 => ?_)
      · skip
        refine lv_iload_n hx hb d_Md_hour_27 rfl (lv_at hl 2 rfl) ?_
        refine lv_iconst (v := nI 1) hx hb d_Md_hour_28 (by decide) ?_
        refine lv_icmp_ne (tgt := 43) hx hb d_Md_hour_29 (by decide) (fun c_29_2 => ?_) (fun c_29_2 => ?_)
        · skip
          refine lv_iload_n hx hb d_Md_hour_43 rfl (lv_at hl 2 rfl) ?_
          refine lv_iconst (v := nI 2) hx hb d_Md_hour_44 (by decide) ?_
          refine lv_icmp_ne (tgt := 62) hx hb d_Md_hour_45 (by decide) (fun c_45_3 => ?_) (fun c_45_3 => ?_)
          · skip
            refine lv_iconst (v := nI 0) hx hb d_Md_hour_62 (by decide) ?_
            refine lv_istore (lv' := [(4, .int (nI 0)), (0, .ref md), (1, .int h), (2, .int w), (3, .int v)]) hx hb d_Md_hour_63  hl (by decide) rfl (fun ls hl => ?_)
            refine lv_aload_n hx hb d_Md_hour_65 rfl (lv_at hl 1 rfl) ?_
            refine lv_iload hx hb d_Md_hour_66 (lv_at hl 0 rfl) ?_
            refine lv_if_ne (tgt := 75) hx hb d_Md_hour_68 (by decide) (fun c_68_4 => ?_) (fun c_68_4 => ?_)
            · skip
              exact absurd c_68_4 (by decide)
            · skip
              refine lv_iconst (v := nI 1) hx hb d_Md_hour_71 (by decide) ?_
              refine lv_goto (tgt := 88) hx hb d_Md_hour_72 (by decide) ?_
              refine b_put (T := F_Md) hm hw 0 rfl rfl (fun w h => uw_of w (u_Md w h)) t_Md t_Md_ok n_Md 0 (by decide) (uw_of _ k_608) rfl rfl rfl (Nat.le_of_ble_eq_true rfl) d_Md_hour_88 (w1 := [(md, .inr (7, mdL za 1 cn ov sn kn fd cst co tb))]) rfl (fun H locs hw => ?_)
              refine lv_aload_n hx hb d_Md_hour_91 rfl (lv_at hl 1 rfl) ?_
              refine b_get (T := F_Md) hm hw 0 rfl rfl (fun w h => uw_of w (u_Md w h)) 0 (by decide) (uw_of _ k_608) rfl d_Md_hour_92 ?_
              refine lv_if_le (tgt := 100) hx hb d_Md_hour_95 (by decide) (fun c_95_5 => ?_) (fun c_95_5 => ?_)
              · skip
                exact absurd c_95_5 (by decide)
              · skip
                refine lv_iconst (v := nI 0) hx hb d_Md_hour_98 (by decide) ?_
                exact b_iret (post := fun (r : Int32) (_ : Unit) => r = 0) (w' := fun u => [(md, .inr (7, mdL za 1 cn ov sn kn fd cst co tb))]) () hm hw (rfl) d_Md_hour_99
          · skip
            refine lv_iload_n hx hb d_Md_hour_48 rfl (lv_at hl 3 rfl) ?_
            refine lv_iconst (v := nI 0) hx hb d_Md_hour_49 (by decide) ?_
            refine lv_ldc (v := 100000) hx hb hown (hts _ (uw_of _ k_734)) d_Md_hour_50 ?_
            refine b_ti (show (100000 : Int32) = nI 100000 from rfl) ?_
            refine b_goi (wr := [(md, .inr (7, mdL za th cn ov sn kn fd cst co tb))]) (b_runS (wc := []) (As := [.int v, .int (nI 0), .int (nI 100000)]) (rest := []) hm hw (va_cwS 3 hts (gS2 uw_of k_733 k_731 k_732 k_9) rfl rfl rfl (by decide +kernel) ⟨by decide, by decide⟩) (c_Md_in l D k _ v (nI 0) (nI 100000)) [] (by decide) rfl rfl hl.1 rfl (Nat.le_of_ble_eq_true rfl) d_Md_hour_52 ⟨by decide, by decide⟩) hw [] [0] rfl rfl (by decide) (by decide) (fun r52 _ H locs hp52 hw => ?_)
            have hw : bW (gU D k) A s H locs [(md, .inr (7, mdL za th cn ov sn kn fd cst co tb))] := hw.sub [0] (by decide) rfl
            rcases hp52 with ⟨hr52, hp52⟩ | ⟨hr52, hp52⟩
            · skip
              refine b_ti (y := nI 1) hr52 ?_
              refine lv_if_eq (tgt := 62) hx hb d_Md_hour_55 (by decide) (fun c_55_6 => ?_) (fun c_55_6 => ?_)
              · skip
                exact absurd c_55_6 (by decide)
              · skip
                exact absurd ⟨hp4, Or.inr (Or.inr ⟨by assumption, hp52⟩)⟩ hv9
            · skip
              refine b_ti (y := nI 0) hr52 ?_
              refine lv_if_eq (tgt := 62) hx hb d_Md_hour_55 (by decide) (fun c_55_7 => ?_) (fun c_55_7 => ?_)
              · skip
                refine lv_iconst (v := nI 0) hx hb d_Md_hour_62 (by decide) ?_
                refine lv_istore (lv' := [(4, .int (nI 0)), (0, .ref md), (1, .int h), (2, .int w), (3, .int v)]) hx hb d_Md_hour_63  hl (by decide) rfl (fun ls hl => ?_)
                refine lv_aload_n hx hb d_Md_hour_65 rfl (lv_at hl 1 rfl) ?_
                refine lv_iload hx hb d_Md_hour_66 (lv_at hl 0 rfl) ?_
                refine lv_if_ne (tgt := 75) hx hb d_Md_hour_68 (by decide) (fun c_68_8 => ?_) (fun c_68_8 => ?_)
                · skip
                  exact absurd c_68_8 (by decide)
                · skip
                  refine lv_iconst (v := nI 1) hx hb d_Md_hour_71 (by decide) ?_
                  refine lv_goto (tgt := 88) hx hb d_Md_hour_72 (by decide) ?_
                  refine b_put (T := F_Md) hm hw 0 rfl rfl (fun w h => uw_of w (u_Md w h)) t_Md t_Md_ok n_Md 0 (by decide) (uw_of _ k_608) rfl rfl rfl (Nat.le_of_ble_eq_true rfl) d_Md_hour_88 (w1 := [(md, .inr (7, mdL za 1 cn ov sn kn fd cst co tb))]) rfl (fun H locs hw => ?_)
                  refine lv_aload_n hx hb d_Md_hour_91 rfl (lv_at hl 1 rfl) ?_
                  refine b_get (T := F_Md) hm hw 0 rfl rfl (fun w h => uw_of w (u_Md w h)) 0 (by decide) (uw_of _ k_608) rfl d_Md_hour_92 ?_
                  refine lv_if_le (tgt := 100) hx hb d_Md_hour_95 (by decide) (fun c_95_9 => ?_) (fun c_95_9 => ?_)
                  · skip
                    exact absurd c_95_9 (by decide)
                  · skip
                    refine lv_iconst (v := nI 0) hx hb d_Md_hour_98 (by decide) ?_
                    exact b_iret (post := fun (r : Int32) (_ : Unit) => r = 0) (w' := fun u => [(md, .inr (7, mdL za 1 cn ov sn kn fd cst co tb))]) () hm hw (rfl) d_Md_hour_99
              · skip
                exact absurd c_55_7 (by decide)
        · skip
          refine lv_iload_n hx hb d_Md_hour_32 rfl (lv_at hl 3 rfl) ?_
          refine lv_iconst (v := nI 0) hx hb d_Md_hour_33 (by decide) ?_
          refine lv_sipush (v := nI 1000) hx hb d_Md_hour_34 (by decide) ?_
          refine b_goi (wr := [(md, .inr (7, mdL za th cn ov sn kn fd cst co tb))]) (b_runS (wc := []) (As := [.int v, .int (nI 0), .int (nI 1000)]) (rest := []) hm hw (va_cwS 3 hts (gS2 uw_of k_733 k_731 k_732 k_9) rfl rfl rfl (by decide +kernel) ⟨by decide, by decide⟩) (c_Md_in l D k _ v (nI 0) (nI 1000)) [] (by decide) rfl rfl hl.1 rfl (Nat.le_of_ble_eq_true rfl) d_Md_hour_37 ⟨by decide, by decide⟩) hw [] [0] rfl rfl (by decide) (by decide) (fun r37 _ H locs hp37 hw => ?_)
          have hw : bW (gU D k) A s H locs [(md, .inr (7, mdL za th cn ov sn kn fd cst co tb))] := hw.sub [0] (by decide) rfl
          rcases hp37 with ⟨hr37, hp37⟩ | ⟨hr37, hp37⟩
          · skip
            refine b_ti (y := nI 1) hr37 ?_
            refine lv_if_ne (tgt := 58) hx hb d_Md_hour_40 (by decide) (fun c_40_10 => ?_) (fun c_40_10 => ?_)
            · skip
              exact absurd ⟨hp4, Or.inr (Or.inl ⟨by assumption, hp37⟩)⟩ hv9
            · skip
              exact absurd c_40_10 (by decide)
          · skip
            refine b_ti (y := nI 0) hr37 ?_
            refine lv_if_ne (tgt := 58) hx hb d_Md_hour_40 (by decide) (fun c_40_11 => ?_) (fun c_40_11 => ?_)
            · skip
              exact absurd c_40_11 (by decide)
            · skip
              refine lv_iload_n hx hb d_Md_hour_43 rfl (lv_at hl 2 rfl) ?_
              refine lv_iconst (v := nI 2) hx hb d_Md_hour_44 (by decide) ?_
              refine lv_icmp_ne (tgt := 62) hx hb d_Md_hour_45 (by decide) (fun c_45_12 => ?_) (fun c_45_12 => ?_)
              · skip
                refine lv_iconst (v := nI 0) hx hb d_Md_hour_62 (by decide) ?_
                refine lv_istore (lv' := [(4, .int (nI 0)), (0, .ref md), (1, .int h), (2, .int w), (3, .int v)]) hx hb d_Md_hour_63  hl (by decide) rfl (fun ls hl => ?_)
                refine lv_aload_n hx hb d_Md_hour_65 rfl (lv_at hl 1 rfl) ?_
                refine lv_iload hx hb d_Md_hour_66 (lv_at hl 0 rfl) ?_
                refine lv_if_ne (tgt := 75) hx hb d_Md_hour_68 (by decide) (fun c_68_13 => ?_) (fun c_68_13 => ?_)
                · skip
                  exact absurd c_68_13 (by decide)
                · skip
                  refine lv_iconst (v := nI 1) hx hb d_Md_hour_71 (by decide) ?_
                  refine lv_goto (tgt := 88) hx hb d_Md_hour_72 (by decide) ?_
                  refine b_put (T := F_Md) hm hw 0 rfl rfl (fun w h => uw_of w (u_Md w h)) t_Md t_Md_ok n_Md 0 (by decide) (uw_of _ k_608) rfl rfl rfl (Nat.le_of_ble_eq_true rfl) d_Md_hour_88 (w1 := [(md, .inr (7, mdL za 1 cn ov sn kn fd cst co tb))]) rfl (fun H locs hw => ?_)
                  refine lv_aload_n hx hb d_Md_hour_91 rfl (lv_at hl 1 rfl) ?_
                  refine b_get (T := F_Md) hm hw 0 rfl rfl (fun w h => uw_of w (u_Md w h)) 0 (by decide) (uw_of _ k_608) rfl d_Md_hour_92 ?_
                  refine lv_if_le (tgt := 100) hx hb d_Md_hour_95 (by decide) (fun c_95_14 => ?_) (fun c_95_14 => ?_)
                  · skip
                    exact absurd c_95_14 (by decide)
                  · skip
                    refine lv_iconst (v := nI 0) hx hb d_Md_hour_98 (by decide) ?_
                    exact b_iret (post := fun (r : Int32) (_ : Unit) => r = 0) (w' := fun u => [(md, .inr (7, mdL za 1 cn ov sn kn fd cst co tb))]) () hm hw (rfl) d_Md_hour_99
              · skip
                refine lv_iload_n hx hb d_Md_hour_48 rfl (lv_at hl 3 rfl) ?_
                refine lv_iconst (v := nI 0) hx hb d_Md_hour_49 (by decide) ?_
                refine lv_ldc (v := 100000) hx hb hown (hts _ (uw_of _ k_734)) d_Md_hour_50 ?_
                refine b_ti (show (100000 : Int32) = nI 100000 from rfl) ?_
                refine b_goi (wr := [(md, .inr (7, mdL za th cn ov sn kn fd cst co tb))]) (b_runS (wc := []) (As := [.int v, .int (nI 0), .int (nI 100000)]) (rest := []) hm hw (va_cwS 3 hts (gS2 uw_of k_733 k_731 k_732 k_9) rfl rfl rfl (by decide +kernel) ⟨by decide, by decide⟩) (c_Md_in l D k _ v (nI 0) (nI 100000)) [] (by decide) rfl rfl hl.1 rfl (Nat.le_of_ble_eq_true rfl) d_Md_hour_52 ⟨by decide, by decide⟩) hw [] [0] rfl rfl (by decide) (by decide) (fun r52 _ H locs hp52 hw => ?_)
                have hw : bW (gU D k) A s H locs [(md, .inr (7, mdL za th cn ov sn kn fd cst co tb))] := hw.sub [0] (by decide) rfl
                rcases hp52 with ⟨hr52, hp52⟩ | ⟨hr52, hp52⟩
                · skip
                  refine b_ti (y := nI 1) hr52 ?_
                  refine lv_if_eq (tgt := 62) hx hb d_Md_hour_55 (by decide) (fun c_55_15 => ?_) (fun c_55_15 => ?_)
                  · skip
                    exact absurd c_55_15 (by decide)
                  · skip
                    exact absurd ⟨hp4, Or.inr (Or.inr ⟨by assumption, hp52⟩)⟩ hv9
                · skip
                  refine b_ti (y := nI 0) hr52 ?_
                  refine lv_if_eq (tgt := 62) hx hb d_Md_hour_55 (by decide) (fun c_55_16 => ?_) (fun c_55_16 => ?_)
                  · skip
                    refine lv_iconst (v := nI 0) hx hb d_Md_hour_62 (by decide) ?_
                    refine lv_istore (lv' := [(4, .int (nI 0)), (0, .ref md), (1, .int h), (2, .int w), (3, .int v)]) hx hb d_Md_hour_63  hl (by decide) rfl (fun ls hl => ?_)
                    refine lv_aload_n hx hb d_Md_hour_65 rfl (lv_at hl 1 rfl) ?_
                    refine lv_iload hx hb d_Md_hour_66 (lv_at hl 0 rfl) ?_
                    refine lv_if_ne (tgt := 75) hx hb d_Md_hour_68 (by decide) (fun c_68_17 => ?_) (fun c_68_17 => ?_)
                    · skip
                      exact absurd c_68_17 (by decide)
                    · skip
                      refine lv_iconst (v := nI 1) hx hb d_Md_hour_71 (by decide) ?_
                      refine lv_goto (tgt := 88) hx hb d_Md_hour_72 (by decide) ?_
                      refine b_put (T := F_Md) hm hw 0 rfl rfl (fun w h => uw_of w (u_Md w h)) t_Md t_Md_ok n_Md 0 (by decide) (uw_of _ k_608) rfl rfl rfl (Nat.le_of_ble_eq_true rfl) d_Md_hour_88 (w1 := [(md, .inr (7, mdL za 1 cn ov sn kn fd cst co tb))]) rfl (fun H locs hw => ?_)
                      refine lv_aload_n hx hb d_Md_hour_91 rfl (lv_at hl 1 rfl) ?_
                      refine b_get (T := F_Md) hm hw 0 rfl rfl (fun w h => uw_of w (u_Md w h)) 0 (by decide) (uw_of _ k_608) rfl d_Md_hour_92 ?_
                      refine lv_if_le (tgt := 100) hx hb d_Md_hour_95 (by decide) (fun c_95_18 => ?_) (fun c_95_18 => ?_)
                      · skip
                        exact absurd c_95_18 (by decide)
                      · skip
                        refine lv_iconst (v := nI 0) hx hb d_Md_hour_98 (by decide) ?_
                        exact b_iret (post := fun (r : Int32) (_ : Unit) => r = 0) (w' := fun u => [(md, .inr (7, mdL za 1 cn ov sn kn fd cst co tb))]) () hm hw (rfl) d_Md_hour_99
                  · skip
                    exact absurd c_55_16 (by decide)
      · skip
        refine lv_iload_n hx hb d_Md_hour_14 rfl (lv_at hl 3 rfl) ?_
        refine lv_sipush (v := (-5000)) hx hb d_Md_hour_15 (by decide) ?_
        refine lv_sipush (v := nI 5000) hx hb d_Md_hour_18 (by decide) ?_
        refine b_goi (wr := [(md, .inr (7, mdL za th cn ov sn kn fd cst co tb))]) (b_runS (wc := []) (As := [.int v, .int (-5000), .int (nI 5000)]) (rest := []) hm hw (va_cwS 3 hts (gS2 uw_of k_733 k_731 k_732 k_9) rfl rfl rfl (by decide +kernel) ⟨by decide, by decide⟩) (c_Md_in l D k _ v (-5000) (nI 5000)) [] (by decide) rfl rfl hl.1 rfl (Nat.le_of_ble_eq_true rfl) d_Md_hour_21 ⟨by decide, by decide⟩) hw [] [0] rfl rfl (by decide) (by decide) (fun r21 _ H locs hp21 hw => ?_)
        have hw : bW (gU D k) A s H locs [(md, .inr (7, mdL za th cn ov sn kn fd cst co tb))] := hw.sub [0] (by decide) rfl
        rcases hp21 with ⟨hr21, hp21⟩ | ⟨hr21, hp21⟩
        · skip
          refine b_ti (y := nI 1) hr21 ?_
          refine lv_if_ne (tgt := 58) hx hb d_Md_hour_24 (by decide) (fun c_24_19 => ?_) (fun c_24_19 => ?_)
          · skip
            exact absurd ⟨hp4, Or.inl ⟨by assumption, hp21⟩⟩ hv9
          · skip
            exact absurd c_24_19 (by decide)
        · skip
          refine b_ti (y := nI 0) hr21 ?_
          refine lv_if_ne (tgt := 58) hx hb d_Md_hour_24 (by decide) (fun c_24_20 => ?_) (fun c_24_20 => ?_)
          · skip
            exact absurd c_24_20 (by decide)
          · skip
            refine lv_iload_n hx hb d_Md_hour_27 rfl (lv_at hl 2 rfl) ?_
            refine lv_iconst (v := nI 1) hx hb d_Md_hour_28 (by decide) ?_
            refine lv_icmp_ne (tgt := 43) hx hb d_Md_hour_29 (by decide) (fun c_29_21 => ?_) (fun c_29_21 => ?_)
            · skip
              refine lv_iload_n hx hb d_Md_hour_43 rfl (lv_at hl 2 rfl) ?_
              refine lv_iconst (v := nI 2) hx hb d_Md_hour_44 (by decide) ?_
              refine lv_icmp_ne (tgt := 62) hx hb d_Md_hour_45 (by decide) (fun c_45_22 => ?_) (fun c_45_22 => ?_)
              · skip
                refine lv_iconst (v := nI 0) hx hb d_Md_hour_62 (by decide) ?_
                refine lv_istore (lv' := [(4, .int (nI 0)), (0, .ref md), (1, .int h), (2, .int w), (3, .int v)]) hx hb d_Md_hour_63  hl (by decide) rfl (fun ls hl => ?_)
                refine lv_aload_n hx hb d_Md_hour_65 rfl (lv_at hl 1 rfl) ?_
                refine lv_iload hx hb d_Md_hour_66 (lv_at hl 0 rfl) ?_
                refine lv_if_ne (tgt := 75) hx hb d_Md_hour_68 (by decide) (fun c_68_23 => ?_) (fun c_68_23 => ?_)
                · skip
                  exact absurd c_68_23 (by decide)
                · skip
                  refine lv_iconst (v := nI 1) hx hb d_Md_hour_71 (by decide) ?_
                  refine lv_goto (tgt := 88) hx hb d_Md_hour_72 (by decide) ?_
                  refine b_put (T := F_Md) hm hw 0 rfl rfl (fun w h => uw_of w (u_Md w h)) t_Md t_Md_ok n_Md 0 (by decide) (uw_of _ k_608) rfl rfl rfl (Nat.le_of_ble_eq_true rfl) d_Md_hour_88 (w1 := [(md, .inr (7, mdL za 1 cn ov sn kn fd cst co tb))]) rfl (fun H locs hw => ?_)
                  refine lv_aload_n hx hb d_Md_hour_91 rfl (lv_at hl 1 rfl) ?_
                  refine b_get (T := F_Md) hm hw 0 rfl rfl (fun w h => uw_of w (u_Md w h)) 0 (by decide) (uw_of _ k_608) rfl d_Md_hour_92 ?_
                  refine lv_if_le (tgt := 100) hx hb d_Md_hour_95 (by decide) (fun c_95_24 => ?_) (fun c_95_24 => ?_)
                  · skip
                    exact absurd c_95_24 (by decide)
                  · skip
                    refine lv_iconst (v := nI 0) hx hb d_Md_hour_98 (by decide) ?_
                    exact b_iret (post := fun (r : Int32) (_ : Unit) => r = 0) (w' := fun u => [(md, .inr (7, mdL za 1 cn ov sn kn fd cst co tb))]) () hm hw (rfl) d_Md_hour_99
              · skip
                refine lv_iload_n hx hb d_Md_hour_48 rfl (lv_at hl 3 rfl) ?_
                refine lv_iconst (v := nI 0) hx hb d_Md_hour_49 (by decide) ?_
                refine lv_ldc (v := 100000) hx hb hown (hts _ (uw_of _ k_734)) d_Md_hour_50 ?_
                refine b_ti (show (100000 : Int32) = nI 100000 from rfl) ?_
                refine b_goi (wr := [(md, .inr (7, mdL za th cn ov sn kn fd cst co tb))]) (b_runS (wc := []) (As := [.int v, .int (nI 0), .int (nI 100000)]) (rest := []) hm hw (va_cwS 3 hts (gS2 uw_of k_733 k_731 k_732 k_9) rfl rfl rfl (by decide +kernel) ⟨by decide, by decide⟩) (c_Md_in l D k _ v (nI 0) (nI 100000)) [] (by decide) rfl rfl hl.1 rfl (Nat.le_of_ble_eq_true rfl) d_Md_hour_52 ⟨by decide, by decide⟩) hw [] [0] rfl rfl (by decide) (by decide) (fun r52 _ H locs hp52 hw => ?_)
                have hw : bW (gU D k) A s H locs [(md, .inr (7, mdL za th cn ov sn kn fd cst co tb))] := hw.sub [0] (by decide) rfl
                rcases hp52 with ⟨hr52, hp52⟩ | ⟨hr52, hp52⟩
                · skip
                  refine b_ti (y := nI 1) hr52 ?_
                  refine lv_if_eq (tgt := 62) hx hb d_Md_hour_55 (by decide) (fun c_55_25 => ?_) (fun c_55_25 => ?_)
                  · skip
                    exact absurd c_55_25 (by decide)
                  · skip
                    exact absurd ⟨hp4, Or.inr (Or.inr ⟨by assumption, hp52⟩)⟩ hv9
                · skip
                  refine b_ti (y := nI 0) hr52 ?_
                  refine lv_if_eq (tgt := 62) hx hb d_Md_hour_55 (by decide) (fun c_55_26 => ?_) (fun c_55_26 => ?_)
                  · skip
                    refine lv_iconst (v := nI 0) hx hb d_Md_hour_62 (by decide) ?_
                    refine lv_istore (lv' := [(4, .int (nI 0)), (0, .ref md), (1, .int h), (2, .int w), (3, .int v)]) hx hb d_Md_hour_63  hl (by decide) rfl (fun ls hl => ?_)
                    refine lv_aload_n hx hb d_Md_hour_65 rfl (lv_at hl 1 rfl) ?_
                    refine lv_iload hx hb d_Md_hour_66 (lv_at hl 0 rfl) ?_
                    refine lv_if_ne (tgt := 75) hx hb d_Md_hour_68 (by decide) (fun c_68_27 => ?_) (fun c_68_27 => ?_)
                    · skip
                      exact absurd c_68_27 (by decide)
                    · skip
                      refine lv_iconst (v := nI 1) hx hb d_Md_hour_71 (by decide) ?_
                      refine lv_goto (tgt := 88) hx hb d_Md_hour_72 (by decide) ?_
                      refine b_put (T := F_Md) hm hw 0 rfl rfl (fun w h => uw_of w (u_Md w h)) t_Md t_Md_ok n_Md 0 (by decide) (uw_of _ k_608) rfl rfl rfl (Nat.le_of_ble_eq_true rfl) d_Md_hour_88 (w1 := [(md, .inr (7, mdL za 1 cn ov sn kn fd cst co tb))]) rfl (fun H locs hw => ?_)
                      refine lv_aload_n hx hb d_Md_hour_91 rfl (lv_at hl 1 rfl) ?_
                      refine b_get (T := F_Md) hm hw 0 rfl rfl (fun w h => uw_of w (u_Md w h)) 0 (by decide) (uw_of _ k_608) rfl d_Md_hour_92 ?_
                      refine lv_if_le (tgt := 100) hx hb d_Md_hour_95 (by decide) (fun c_95_28 => ?_) (fun c_95_28 => ?_)
                      · skip
                        exact absurd c_95_28 (by decide)
                      · skip
                        refine lv_iconst (v := nI 0) hx hb d_Md_hour_98 (by decide) ?_
                        exact b_iret (post := fun (r : Int32) (_ : Unit) => r = 0) (w' := fun u => [(md, .inr (7, mdL za 1 cn ov sn kn fd cst co tb))]) () hm hw (rfl) d_Md_hour_99
                  · skip
                    exact absurd c_55_26 (by decide)
            · skip
              refine lv_iload_n hx hb d_Md_hour_32 rfl (lv_at hl 3 rfl) ?_
              refine lv_iconst (v := nI 0) hx hb d_Md_hour_33 (by decide) ?_
              refine lv_sipush (v := nI 1000) hx hb d_Md_hour_34 (by decide) ?_
              refine b_goi (wr := [(md, .inr (7, mdL za th cn ov sn kn fd cst co tb))]) (b_runS (wc := []) (As := [.int v, .int (nI 0), .int (nI 1000)]) (rest := []) hm hw (va_cwS 3 hts (gS2 uw_of k_733 k_731 k_732 k_9) rfl rfl rfl (by decide +kernel) ⟨by decide, by decide⟩) (c_Md_in l D k _ v (nI 0) (nI 1000)) [] (by decide) rfl rfl hl.1 rfl (Nat.le_of_ble_eq_true rfl) d_Md_hour_37 ⟨by decide, by decide⟩) hw [] [0] rfl rfl (by decide) (by decide) (fun r37 _ H locs hp37 hw => ?_)
              have hw : bW (gU D k) A s H locs [(md, .inr (7, mdL za th cn ov sn kn fd cst co tb))] := hw.sub [0] (by decide) rfl
              rcases hp37 with ⟨hr37, hp37⟩ | ⟨hr37, hp37⟩
              · skip
                refine b_ti (y := nI 1) hr37 ?_
                refine lv_if_ne (tgt := 58) hx hb d_Md_hour_40 (by decide) (fun c_40_29 => ?_) (fun c_40_29 => ?_)
                · skip
                  exact absurd ⟨hp4, Or.inr (Or.inl ⟨by assumption, hp37⟩)⟩ hv9
                · skip
                  exact absurd c_40_29 (by decide)
              · skip
                refine b_ti (y := nI 0) hr37 ?_
                refine lv_if_ne (tgt := 58) hx hb d_Md_hour_40 (by decide) (fun c_40_30 => ?_) (fun c_40_30 => ?_)
                · skip
                  exact absurd c_40_30 (by decide)
                · skip
                  refine lv_iload_n hx hb d_Md_hour_43 rfl (lv_at hl 2 rfl) ?_
                  refine lv_iconst (v := nI 2) hx hb d_Md_hour_44 (by decide) ?_
                  refine lv_icmp_ne (tgt := 62) hx hb d_Md_hour_45 (by decide) (fun c_45_31 => ?_) (fun c_45_31 => ?_)
                  · skip
                    refine lv_iconst (v := nI 0) hx hb d_Md_hour_62 (by decide) ?_
                    refine lv_istore (lv' := [(4, .int (nI 0)), (0, .ref md), (1, .int h), (2, .int w), (3, .int v)]) hx hb d_Md_hour_63  hl (by decide) rfl (fun ls hl => ?_)
                    refine lv_aload_n hx hb d_Md_hour_65 rfl (lv_at hl 1 rfl) ?_
                    refine lv_iload hx hb d_Md_hour_66 (lv_at hl 0 rfl) ?_
                    refine lv_if_ne (tgt := 75) hx hb d_Md_hour_68 (by decide) (fun c_68_32 => ?_) (fun c_68_32 => ?_)
                    · skip
                      exact absurd c_68_32 (by decide)
                    · skip
                      refine lv_iconst (v := nI 1) hx hb d_Md_hour_71 (by decide) ?_
                      refine lv_goto (tgt := 88) hx hb d_Md_hour_72 (by decide) ?_
                      refine b_put (T := F_Md) hm hw 0 rfl rfl (fun w h => uw_of w (u_Md w h)) t_Md t_Md_ok n_Md 0 (by decide) (uw_of _ k_608) rfl rfl rfl (Nat.le_of_ble_eq_true rfl) d_Md_hour_88 (w1 := [(md, .inr (7, mdL za 1 cn ov sn kn fd cst co tb))]) rfl (fun H locs hw => ?_)
                      refine lv_aload_n hx hb d_Md_hour_91 rfl (lv_at hl 1 rfl) ?_
                      refine b_get (T := F_Md) hm hw 0 rfl rfl (fun w h => uw_of w (u_Md w h)) 0 (by decide) (uw_of _ k_608) rfl d_Md_hour_92 ?_
                      refine lv_if_le (tgt := 100) hx hb d_Md_hour_95 (by decide) (fun c_95_33 => ?_) (fun c_95_33 => ?_)
                      · skip
                        exact absurd c_95_33 (by decide)
                      · skip
                        refine lv_iconst (v := nI 0) hx hb d_Md_hour_98 (by decide) ?_
                        exact b_iret (post := fun (r : Int32) (_ : Unit) => r = 0) (w' := fun u => [(md, .inr (7, mdL za 1 cn ov sn kn fd cst co tb))]) () hm hw (rfl) d_Md_hour_99
                  · skip
                    refine lv_iload_n hx hb d_Md_hour_48 rfl (lv_at hl 3 rfl) ?_
                    refine lv_iconst (v := nI 0) hx hb d_Md_hour_49 (by decide) ?_
                    refine lv_ldc (v := 100000) hx hb hown (hts _ (uw_of _ k_734)) d_Md_hour_50 ?_
                    refine b_ti (show (100000 : Int32) = nI 100000 from rfl) ?_
                    refine b_goi (wr := [(md, .inr (7, mdL za th cn ov sn kn fd cst co tb))]) (b_runS (wc := []) (As := [.int v, .int (nI 0), .int (nI 100000)]) (rest := []) hm hw (va_cwS 3 hts (gS2 uw_of k_733 k_731 k_732 k_9) rfl rfl rfl (by decide +kernel) ⟨by decide, by decide⟩) (c_Md_in l D k _ v (nI 0) (nI 100000)) [] (by decide) rfl rfl hl.1 rfl (Nat.le_of_ble_eq_true rfl) d_Md_hour_52 ⟨by decide, by decide⟩) hw [] [0] rfl rfl (by decide) (by decide) (fun r52 _ H locs hp52 hw => ?_)
                    have hw : bW (gU D k) A s H locs [(md, .inr (7, mdL za th cn ov sn kn fd cst co tb))] := hw.sub [0] (by decide) rfl
                    rcases hp52 with ⟨hr52, hp52⟩ | ⟨hr52, hp52⟩
                    · skip
                      refine b_ti (y := nI 1) hr52 ?_
                      refine lv_if_eq (tgt := 62) hx hb d_Md_hour_55 (by decide) (fun c_55_34 => ?_) (fun c_55_34 => ?_)
                      · skip
                        exact absurd c_55_34 (by decide)
                      · skip
                        exact absurd ⟨hp4, Or.inr (Or.inr ⟨by assumption, hp52⟩)⟩ hv9
                    · skip
                      refine b_ti (y := nI 0) hr52 ?_
                      refine lv_if_eq (tgt := 62) hx hb d_Md_hour_55 (by decide) (fun c_55_35 => ?_) (fun c_55_35 => ?_)
                      · skip
                        refine lv_iconst (v := nI 0) hx hb d_Md_hour_62 (by decide) ?_
                        refine lv_istore (lv' := [(4, .int (nI 0)), (0, .ref md), (1, .int h), (2, .int w), (3, .int v)]) hx hb d_Md_hour_63  hl (by decide) rfl (fun ls hl => ?_)
                        refine lv_aload_n hx hb d_Md_hour_65 rfl (lv_at hl 1 rfl) ?_
                        refine lv_iload hx hb d_Md_hour_66 (lv_at hl 0 rfl) ?_
                        refine lv_if_ne (tgt := 75) hx hb d_Md_hour_68 (by decide) (fun c_68_36 => ?_) (fun c_68_36 => ?_)
                        · skip
                          exact absurd c_68_36 (by decide)
                        · skip
                          refine lv_iconst (v := nI 1) hx hb d_Md_hour_71 (by decide) ?_
                          refine lv_goto (tgt := 88) hx hb d_Md_hour_72 (by decide) ?_
                          refine b_put (T := F_Md) hm hw 0 rfl rfl (fun w h => uw_of w (u_Md w h)) t_Md t_Md_ok n_Md 0 (by decide) (uw_of _ k_608) rfl rfl rfl (Nat.le_of_ble_eq_true rfl) d_Md_hour_88 (w1 := [(md, .inr (7, mdL za 1 cn ov sn kn fd cst co tb))]) rfl (fun H locs hw => ?_)
                          refine lv_aload_n hx hb d_Md_hour_91 rfl (lv_at hl 1 rfl) ?_
                          refine b_get (T := F_Md) hm hw 0 rfl rfl (fun w h => uw_of w (u_Md w h)) 0 (by decide) (uw_of _ k_608) rfl d_Md_hour_92 ?_
                          refine lv_if_le (tgt := 100) hx hb d_Md_hour_95 (by decide) (fun c_95_37 => ?_) (fun c_95_37 => ?_)
                          · skip
                            exact absurd c_95_37 (by decide)
                          · skip
                            refine lv_iconst (v := nI 0) hx hb d_Md_hour_98 (by decide) ?_
                            exact b_iret (post := fun (r : Int32) (_ : Unit) => r = 0) (w' := fun u => [(md, .inr (7, mdL za 1 cn ov sn kn fd cst co tb))]) () hm hw (rfl) d_Md_hour_99
                      · skip
                        exact absurd c_55_35 (by decide)
  · skip
    refine b_ti (y := nI 0) hr4 ?_
    refine lv_if_eq (tgt := 62) hx hb d_Md_hour_7 (by decide) (fun c_7_38 => ?_) (fun c_7_38 => ?_)
    · skip
      refine lv_iconst (v := nI 0) hx hb d_Md_hour_62 (by decide) ?_
      refine lv_istore (lv' := [(4, .int (nI 0)), (0, .ref md), (1, .int h), (2, .int w), (3, .int v)]) hx hb d_Md_hour_63  hl (by decide) rfl (fun ls hl => ?_)
      refine lv_aload_n hx hb d_Md_hour_65 rfl (lv_at hl 1 rfl) ?_
      refine lv_iload hx hb d_Md_hour_66 (lv_at hl 0 rfl) ?_
      refine lv_if_ne (tgt := 75) hx hb d_Md_hour_68 (by decide) (fun c_68_39 => ?_) (fun c_68_39 => ?_)
      · skip
        exact absurd c_68_39 (by decide)
      · skip
        refine lv_iconst (v := nI 1) hx hb d_Md_hour_71 (by decide) ?_
        refine lv_goto (tgt := 88) hx hb d_Md_hour_72 (by decide) ?_
        refine b_put (T := F_Md) hm hw 0 rfl rfl (fun w h => uw_of w (u_Md w h)) t_Md t_Md_ok n_Md 0 (by decide) (uw_of _ k_608) rfl rfl rfl (Nat.le_of_ble_eq_true rfl) d_Md_hour_88 (w1 := [(md, .inr (7, mdL za 1 cn ov sn kn fd cst co tb))]) rfl (fun H locs hw => ?_)
        refine lv_aload_n hx hb d_Md_hour_91 rfl (lv_at hl 1 rfl) ?_
        refine b_get (T := F_Md) hm hw 0 rfl rfl (fun w h => uw_of w (u_Md w h)) 0 (by decide) (uw_of _ k_608) rfl d_Md_hour_92 ?_
        refine lv_if_le (tgt := 100) hx hb d_Md_hour_95 (by decide) (fun c_95_40 => ?_) (fun c_95_40 => ?_)
        · skip
          exact absurd c_95_40 (by decide)
        · skip
          refine lv_iconst (v := nI 0) hx hb d_Md_hour_98 (by decide) ?_
          exact b_iret (post := fun (r : Int32) (_ : Unit) => r = 0) (w' := fun u => [(md, .inr (7, mdL za 1 cn ov sn kn fd cst co tb))]) () hm hw (rfl) d_Md_hour_99
    · skip
      exact absurd c_7_38 (by decide)

set_option maxHeartbeats 4000000 in
set_option maxRecDepth 100000 in
theorem c_Md_hour_t20 (l : Launch) (D : va_G) (k : Nat → ClassId) (sz : Nat) (md : Nat) (za : Nat → Nat) (th cn ov sn kn fd : Nat) (cst : Int64) (co tb : Nat) (h : Nat) (v : Int32) (hv9 : ((-5000) ≤ v ∧ v ≤ nI 5000)) (hh : h < 36) (hov : h < ov) (ho36 : ov ≤ 36) : Met l y_Md_hour (uw y_Md_hour b_Md_hour 6 (some .int)) (rU 1 0 0) (va_Pc [.ref md, .int (nI h), .int (nI 0), .int v] (bP (gU D k) [(md, .inr (7, mdL za th cn ov sn kn fd cst co tb))] sz)) (va_Qi (fun (r : Int32) (_ : Unit) => r = 0) (fun u => bQ (gU D k) (va_A [(md, .inr (7, mdL za th cn ov sn kn fd cst co tb))] sz) ([(md, .inr (7, mdL za 2 cn ov sn kn fd cst co tb))])) (va_A [(md, .inr (7, mdL za th cn ov sn kn fd cst co tb))] sz)) (rU 1 0 0).cells (rU 1 0 0).slots (va_A [(md, .inr (7, mdL za th cn ov sn kn fd cst co tb))] sz) := by
  refine b_start (y := y_Md_hour) (maxL := 6) (ret := (some .int)) (cc := b_Md_hour) (ws' := ut) (rm := rU 1 0 0) (av := [.ref md, .int (nI h), .int (nI 0), .int v]) (g := gU D k) (ws := [(md, .inr (7, mdL za th cn ov sn kn fd cst co tb))]) (sz := sz) (Qc := fun A => va_Qi (fun (r : Int32) (_ : Unit) => r = 0) (fun u => bQ (gU D k) A ([(md, .inr (7, mdL za 2 cn ov sn kn fd cst co tb))])) A) (by decide +kernel) (Nat.le_of_ble_eq_true rfl) ?_
  intro p e s m below meth c A hm hnm hw ls hl
  have hl : lv_has ls 6 [(0, .ref md), (1, .int (nI h)), (2, .int (nI 0)), (3, .int v)] := hl
  have hx := hm.1
  have hb := hm.2.1
  have hown := hm.2.2.2.2.1
  have hts := hm.2.2.2.2.2.1
  refine lv_iload_n hx hb d_Md_hour_0 rfl (lv_at hl 1 rfl) ?_
  refine lv_iconst (v := nI 0) hx hb d_Md_hour_1 (by decide) ?_
  refine lv_bipush (v := nI 35) hx hb d_Md_hour_2 (by decide) ?_
  refine b_goi (wr := [(md, .inr (7, mdL za th cn ov sn kn fd cst co tb))]) (b_runS (wc := []) (As := [.int (nI h), .int (nI 0), .int (nI 35)]) (rest := []) hm hw (va_cwS 3 hts (gS2 uw_of k_733 k_731 k_732 k_9) rfl rfl rfl (by decide +kernel) ⟨by decide, by decide⟩) (c_Md_in l D k _ (nI h) (nI 0) (nI 35)) [] (by decide) rfl rfl hl.1 rfl (Nat.le_of_ble_eq_true rfl) d_Md_hour_4 ⟨by decide, by decide⟩) hw [] [0] rfl rfl (by decide) (by decide) (fun r4 _ H locs hp4 hw => ?_)
  have hw : bW (gU D k) A s H locs [(md, .inr (7, mdL za th cn ov sn kn fd cst co tb))] := hw.sub [0] (by decide) rfl
  have hr4 : r4 = 1 := by rcases hp4 with ⟨q, _⟩ | ⟨_, q⟩; exact q; exact absurd (in_n (by omega) (by omega) (by omega)) q
  refine b_ti (y := nI 1) hr4 ?_
  refine lv_if_eq (tgt := 62) hx hb d_Md_hour_7 (by decide) (fun c_7_0 => ?_) (fun c_7_0 => ?_)
  · skip
    exact absurd c_7_0 (by decide)
  · skip
    refine lv_iload_n hx hb d_Md_hour_10 rfl (lv_at hl 2 rfl) ?_
    refine lv_if_ne (tgt := 27) hx hb d_Md_hour_11 (by decide) (fun c_11_1 => ?_) (fun c_11_1 => ?_)
    · skip
      exact absurd c_11_1 (by decide)
    · skip
      refine lv_iload_n hx hb d_Md_hour_14 rfl (lv_at hl 3 rfl) ?_
      refine lv_sipush (v := (-5000)) hx hb d_Md_hour_15 (by decide) ?_
      refine lv_sipush (v := nI 5000) hx hb d_Md_hour_18 (by decide) ?_
      refine b_goi (wr := [(md, .inr (7, mdL za th cn ov sn kn fd cst co tb))]) (b_runS (wc := []) (As := [.int v, .int (-5000), .int (nI 5000)]) (rest := []) hm hw (va_cwS 3 hts (gS2 uw_of k_733 k_731 k_732 k_9) rfl rfl rfl (by decide +kernel) ⟨by decide, by decide⟩) (c_Md_in l D k _ v (-5000) (nI 5000)) [] (by decide) rfl rfl hl.1 rfl (Nat.le_of_ble_eq_true rfl) d_Md_hour_21 ⟨by decide, by decide⟩) hw [] [0] rfl rfl (by decide) (by decide) (fun r21 _ H locs hp21 hw => ?_)
      have hw : bW (gU D k) A s H locs [(md, .inr (7, mdL za th cn ov sn kn fd cst co tb))] := hw.sub [0] (by decide) rfl
      have hr21 : r21 = 1 := by rcases hp21 with ⟨q, _⟩ | ⟨_, q⟩; exact q; exact absurd (hv9) q
      refine b_ti (y := nI 1) hr21 ?_
      refine lv_if_ne (tgt := 58) hx hb d_Md_hour_24 (by decide) (fun c_24_2 => ?_) (fun c_24_2 => ?_)
      · skip
        refine lv_iconst (v := nI 1) hx hb d_Md_hour_58 (by decide) ?_
        refine lv_goto (tgt := 63) hx hb d_Md_hour_59 (by decide) ?_
        refine lv_istore (lv' := [(4, .int (nI 1)), (0, .ref md), (1, .int (nI h)), (2, .int (nI 0)), (3, .int v)]) hx hb d_Md_hour_63  hl (by decide) rfl (fun ls hl => ?_)
        refine lv_aload_n hx hb d_Md_hour_65 rfl (lv_at hl 1 rfl) ?_
        refine lv_iload hx hb d_Md_hour_66 (lv_at hl 0 rfl) ?_
        refine lv_if_ne (tgt := 75) hx hb d_Md_hour_68 (by decide) (fun c_68_3 => ?_) (fun c_68_3 => ?_)
        · skip
          refine lv_iload_n hx hb d_Md_hour_75 rfl (lv_at hl 2 rfl) ?_
          refine lv_aload_n hx hb d_Md_hour_76 rfl (lv_at hl 1 rfl) ?_
          refine b_get (T := F_Md) hm hw 0 rfl rfl (fun w h => uw_of w (u_Md w h)) 13 (by decide) (uw_of _ k_621) rfl d_Md_hour_77 ?_
          refine lv_icmp_ge (tgt := 87) hx hb d_Md_hour_80 (by decide) (fun c_80_4 => ?_) (fun c_80_4 => ?_)
          · skip
            have h_80_4 : ov ≤ h := yge c_80_4 (by omega) (by omega)
            exfalso; omega
          · skip
            have h_80_4 : h < ov := yltN c_80_4 (by omega) (by omega)
            refine lv_iconst (v := nI 2) hx hb d_Md_hour_83 (by decide) ?_
            refine lv_goto (tgt := 88) hx hb d_Md_hour_84 (by decide) ?_
            refine b_put (T := F_Md) hm hw 0 rfl rfl (fun w h => uw_of w (u_Md w h)) t_Md t_Md_ok n_Md 0 (by decide) (uw_of _ k_608) rfl rfl rfl (Nat.le_of_ble_eq_true rfl) d_Md_hour_88 (w1 := [(md, .inr (7, mdL za 2 cn ov sn kn fd cst co tb))]) rfl (fun H locs hw => ?_)
            refine lv_aload_n hx hb d_Md_hour_91 rfl (lv_at hl 1 rfl) ?_
            refine b_get (T := F_Md) hm hw 0 rfl rfl (fun w h => uw_of w (u_Md w h)) 0 (by decide) (uw_of _ k_608) rfl d_Md_hour_92 ?_
            refine lv_if_le (tgt := 100) hx hb d_Md_hour_95 (by decide) (fun c_95_5 => ?_) (fun c_95_5 => ?_)
            · skip
              exact absurd c_95_5 (by decide)
            · skip
              refine lv_iconst (v := nI 0) hx hb d_Md_hour_98 (by decide) ?_
              exact b_iret (post := fun (r : Int32) (_ : Unit) => r = 0) (w' := fun u => [(md, .inr (7, mdL za 2 cn ov sn kn fd cst co tb))]) () hm hw (rfl) d_Md_hour_99
        · skip
          exact absurd c_68_3 (by decide)
      · skip
        exact absurd c_24_2 (by decide)

set_option maxHeartbeats 4000000 in
set_option maxRecDepth 100000 in
theorem c_Md_hour0 (l : Launch) (D : va_G) (k : Nat → ClassId) (sz : Nat) (md : Nat) (za : Nat → Nat) (th cn ov sn kn fd : Nat) (cst : Int64) (co tb : Nat) (OS : Nat → Int32) (PR : Nat → Nat) (NE : Nat → Nat) (h : Nat) (v : Int32) (hv9 : ((-5000) ≤ v ∧ v ≤ nI 5000)) (hh : h < 36) (hov : ov ≤ h) : Met l y_Md_hour (uw y_Md_hour b_Md_hour 6 (some .int)) (rU 1 0 0) (va_Pc [.ref md, .int (nI h), .int (nI 0), .int v] (bP (gU D k) [(md, .inr (7, mdL za th cn ov sn kn fd cst co tb)), (za 9, .inl (k 0, 36, .inl OS)), (za 10, .inl (k 0, 36, .inl (fun j => nI (PR j)))), (za 11, .inl (k 0, 36, .inl (fun j => nI (NE j))))] sz)) (va_Qi (fun (r : Int32) (u : Unit) => r = OS h) (fun u => bQ (gU D k) (va_A [(md, .inr (7, mdL za th cn ov sn kn fd cst co tb)), (za 9, .inl (k 0, 36, .inl OS)), (za 10, .inl (k 0, 36, .inl (fun j => nI (PR j)))), (za 11, .inl (k 0, 36, .inl (fun j => nI (NE j))))] sz) ([(md, .inr (7, mdL za 0 cn ov sn 0 fd cst co tb)), (za 9, .inl (k 0, 36, .inl (upd OS h v))), (za 10, .inl (k 0, 36, .inl (fun j => nI (PR j)))), (za 11, .inl (k 0, 36, .inl (fun j => nI (NE j))))])) (va_A [(md, .inr (7, mdL za th cn ov sn kn fd cst co tb)), (za 9, .inl (k 0, 36, .inl OS)), (za 10, .inl (k 0, 36, .inl (fun j => nI (PR j)))), (za 11, .inl (k 0, 36, .inl (fun j => nI (NE j))))] sz)) (rU 1 0 0).cells (rU 1 0 0).slots (va_A [(md, .inr (7, mdL za th cn ov sn kn fd cst co tb)), (za 9, .inl (k 0, 36, .inl OS)), (za 10, .inl (k 0, 36, .inl (fun j => nI (PR j)))), (za 11, .inl (k 0, 36, .inl (fun j => nI (NE j))))] sz) := by
  refine b_start (y := y_Md_hour) (maxL := 6) (ret := (some .int)) (cc := b_Md_hour) (ws' := ut) (rm := rU 1 0 0) (av := [.ref md, .int (nI h), .int (nI 0), .int v]) (g := gU D k) (ws := [(md, .inr (7, mdL za th cn ov sn kn fd cst co tb)), (za 9, .inl (k 0, 36, .inl OS)), (za 10, .inl (k 0, 36, .inl (fun j => nI (PR j)))), (za 11, .inl (k 0, 36, .inl (fun j => nI (NE j))))]) (sz := sz) (Qc := fun A => va_Qi (fun (r : Int32) (u : Unit) => r = OS h) (fun u => bQ (gU D k) A ([(md, .inr (7, mdL za 0 cn ov sn 0 fd cst co tb)), (za 9, .inl (k 0, 36, .inl (upd OS h v))), (za 10, .inl (k 0, 36, .inl (fun j => nI (PR j)))), (za 11, .inl (k 0, 36, .inl (fun j => nI (NE j))))])) A) (by decide +kernel) (Nat.le_of_ble_eq_true rfl) ?_
  intro p e s m below meth c A hm hnm hw ls hl
  have hl : lv_has ls 6 [(0, .ref md), (1, .int (nI h)), (2, .int (nI 0)), (3, .int v)] := hl
  have hx := hm.1
  have hb := hm.2.1
  have hown := hm.2.2.2.2.1
  have hts := hm.2.2.2.2.2.1
  refine lv_iload_n hx hb d_Md_hour_0 rfl (lv_at hl 1 rfl) ?_
  refine lv_iconst (v := nI 0) hx hb d_Md_hour_1 (by decide) ?_
  refine lv_bipush (v := nI 35) hx hb d_Md_hour_2 (by decide) ?_
  refine b_goi (wr := [(md, .inr (7, mdL za th cn ov sn kn fd cst co tb)), (za 9, .inl (k 0, 36, .inl OS)), (za 10, .inl (k 0, 36, .inl (fun j => nI (PR j)))), (za 11, .inl (k 0, 36, .inl (fun j => nI (NE j))))]) (b_runS (wc := []) (As := [.int (nI h), .int (nI 0), .int (nI 35)]) (rest := []) hm hw (va_cwS 3 hts (gS2 uw_of k_733 k_731 k_732 k_9) rfl rfl rfl (by decide +kernel) ⟨by decide, by decide⟩) (c_Md_in l D k _ (nI h) (nI 0) (nI 35)) [] (by decide) rfl rfl hl.1 rfl (Nat.le_of_ble_eq_true rfl) d_Md_hour_4 ⟨by decide, by decide⟩) hw [] [0, 1, 2, 3] rfl rfl (by decide) (by decide) (fun r4 _ H locs hp4 hw => ?_)
  have hw : bW (gU D k) A s H locs [(md, .inr (7, mdL za th cn ov sn kn fd cst co tb)), (za 9, .inl (k 0, 36, .inl OS)), (za 10, .inl (k 0, 36, .inl (fun j => nI (PR j)))), (za 11, .inl (k 0, 36, .inl (fun j => nI (NE j))))] := hw.sub [0, 1, 2, 3] (by decide) rfl
  have hr4 : r4 = 1 := by rcases hp4 with ⟨q, _⟩ | ⟨_, q⟩; exact q; exact absurd (in_n (by omega) (by omega) (by omega)) q
  refine b_ti (y := nI 1) hr4 ?_
  refine lv_if_eq (tgt := 62) hx hb d_Md_hour_7 (by decide) (fun c_7_0 => ?_) (fun c_7_0 => ?_)
  · skip
    exact absurd c_7_0 (by decide)
  · skip
    refine lv_iload_n hx hb d_Md_hour_10 rfl (lv_at hl 2 rfl) ?_
    refine lv_if_ne (tgt := 27) hx hb d_Md_hour_11 (by decide) (fun c_11_1 => ?_) (fun c_11_1 => ?_)
    · skip
      exact absurd c_11_1 (by decide)
    · skip
      refine lv_iload_n hx hb d_Md_hour_14 rfl (lv_at hl 3 rfl) ?_
      refine lv_sipush (v := (-5000)) hx hb d_Md_hour_15 (by decide) ?_
      refine lv_sipush (v := nI 5000) hx hb d_Md_hour_18 (by decide) ?_
      refine b_goi (wr := [(md, .inr (7, mdL za th cn ov sn kn fd cst co tb)), (za 9, .inl (k 0, 36, .inl OS)), (za 10, .inl (k 0, 36, .inl (fun j => nI (PR j)))), (za 11, .inl (k 0, 36, .inl (fun j => nI (NE j))))]) (b_runS (wc := []) (As := [.int v, .int (-5000), .int (nI 5000)]) (rest := []) hm hw (va_cwS 3 hts (gS2 uw_of k_733 k_731 k_732 k_9) rfl rfl rfl (by decide +kernel) ⟨by decide, by decide⟩) (c_Md_in l D k _ v (-5000) (nI 5000)) [] (by decide) rfl rfl hl.1 rfl (Nat.le_of_ble_eq_true rfl) d_Md_hour_21 ⟨by decide, by decide⟩) hw [] [0, 1, 2, 3] rfl rfl (by decide) (by decide) (fun r21 _ H locs hp21 hw => ?_)
      have hw : bW (gU D k) A s H locs [(md, .inr (7, mdL za th cn ov sn kn fd cst co tb)), (za 9, .inl (k 0, 36, .inl OS)), (za 10, .inl (k 0, 36, .inl (fun j => nI (PR j)))), (za 11, .inl (k 0, 36, .inl (fun j => nI (NE j))))] := hw.sub [0, 1, 2, 3] (by decide) rfl
      have hr21 : r21 = 1 := by rcases hp21 with ⟨q, _⟩ | ⟨_, q⟩; exact q; exact absurd (hv9) q
      refine b_ti (y := nI 1) hr21 ?_
      refine lv_if_ne (tgt := 58) hx hb d_Md_hour_24 (by decide) (fun c_24_2 => ?_) (fun c_24_2 => ?_)
      · skip
        refine lv_iconst (v := nI 1) hx hb d_Md_hour_58 (by decide) ?_
        refine lv_goto (tgt := 63) hx hb d_Md_hour_59 (by decide) ?_
        refine lv_istore (lv' := [(4, .int (nI 1)), (0, .ref md), (1, .int (nI h)), (2, .int (nI 0)), (3, .int v)]) hx hb d_Md_hour_63  hl (by decide) rfl (fun ls hl => ?_)
        refine lv_aload_n hx hb d_Md_hour_65 rfl (lv_at hl 1 rfl) ?_
        refine lv_iload hx hb d_Md_hour_66 (lv_at hl 0 rfl) ?_
        refine lv_if_ne (tgt := 75) hx hb d_Md_hour_68 (by decide) (fun c_68_3 => ?_) (fun c_68_3 => ?_)
        · skip
          refine lv_iload_n hx hb d_Md_hour_75 rfl (lv_at hl 2 rfl) ?_
          refine lv_aload_n hx hb d_Md_hour_76 rfl (lv_at hl 1 rfl) ?_
          refine b_get (T := F_Md) hm hw 0 rfl rfl (fun w h => uw_of w (u_Md w h)) 13 (by decide) (uw_of _ k_621) rfl d_Md_hour_77 ?_
          refine lv_icmp_ge (tgt := 87) hx hb d_Md_hour_80 (by decide) (fun c_80_4 => ?_) (fun c_80_4 => ?_)
          · skip
            have h_80_4 : ov ≤ h := yge c_80_4 (by omega) (by omega)
            refine lv_iconst (v := nI 0) hx hb d_Md_hour_87 (by decide) ?_
            refine b_put (T := F_Md) hm hw 0 rfl rfl (fun w h => uw_of w (u_Md w h)) t_Md t_Md_ok n_Md 0 (by decide) (uw_of _ k_608) rfl rfl rfl (Nat.le_of_ble_eq_true rfl) d_Md_hour_88 (w1 := [(md, .inr (7, mdL za 0 cn ov sn kn fd cst co tb)), (za 9, .inl (k 0, 36, .inl OS)), (za 10, .inl (k 0, 36, .inl (fun j => nI (PR j)))), (za 11, .inl (k 0, 36, .inl (fun j => nI (NE j))))]) rfl (fun H locs hw => ?_)
            refine lv_aload_n hx hb d_Md_hour_91 rfl (lv_at hl 1 rfl) ?_
            refine b_get (T := F_Md) hm hw 0 rfl rfl (fun w h => uw_of w (u_Md w h)) 0 (by decide) (uw_of _ k_608) rfl d_Md_hour_92 ?_
            refine lv_if_le (tgt := 100) hx hb d_Md_hour_95 (by decide) (fun c_95_5 => ?_) (fun c_95_5 => ?_)
            · skip
              refine lv_iload_n hx hb d_Md_hour_100 rfl (lv_at hl 3 rfl) ?_
              refine lv_if_ne (tgt := 113) hx hb d_Md_hour_101 (by decide) (fun c_101_6 => ?_) (fun c_101_6 => ?_)
              · skip
                exact absurd c_101_6 (by decide)
              · skip
                refine lv_aload_n hx hb d_Md_hour_104 rfl (lv_at hl 1 rfl) ?_
                refine b_get (T := F_Md) hm hw 0 rfl rfl (fun w h => uw_of w (u_Md w h)) 9 (by decide) (uw_of _ k_617) rfl d_Md_hour_105 ?_
                refine lv_iload_n hx hb d_Md_hour_108 rfl (lv_at hl 2 rfl) ?_
                refine b_iald (i := h) hm hw 1 0 rfl rfl (by omega) (by omega) d_Md_hour_109 ?_
                refine lv_goto (tgt := 133) hx hb d_Md_hour_110 (by decide) ?_
                refine lv_istore (lv' := [(5, .int (OS h)), (4, .int (nI 1)), (0, .ref md), (1, .int (nI h)), (2, .int (nI 0)), (3, .int v)]) hx hb d_Md_hour_133  hl (by decide) rfl (fun ls hl => ?_)
                refine lv_aload_n hx hb d_Md_hour_135 rfl (lv_at hl 2 rfl) ?_
                refine b_get (T := F_Md) hm hw 0 rfl rfl (fun w h => uw_of w (u_Md w h)) 9 (by decide) (uw_of _ k_617) rfl d_Md_hour_136 ?_
                refine lv_iload_n hx hb d_Md_hour_139 rfl (lv_at hl 3 rfl) ?_
                refine lv_iload_n hx hb d_Md_hour_140 rfl (lv_at hl 4 rfl) ?_
                refine lv_if_ne (tgt := 148) hx hb d_Md_hour_141 (by decide) (fun c_141_7 => ?_) (fun c_141_7 => ?_)
                · skip
                  exact absurd c_141_7 (by decide)
                · skip
                  refine lv_iload_n hx hb d_Md_hour_144 rfl (lv_at hl 5 rfl) ?_
                  refine lv_goto (tgt := 154) hx hb d_Md_hour_145 (by decide) ?_
                  refine b_iast (i := h) hm hw 1 0 rfl rfl (by omega) (by omega) d_Md_hour_154 (w1 := [(md, .inr (7, mdL za 0 cn ov sn kn fd cst co tb)), (za 9, .inl (k 0, 36, .inl (upd OS h v))), (za 10, .inl (k 0, 36, .inl (fun j => nI (PR j)))), (za 11, .inl (k 0, 36, .inl (fun j => nI (NE j))))]) rfl (fun H locs hw => ?_)
                  refine lv_aload_n hx hb d_Md_hour_155 rfl (lv_at hl 2 rfl) ?_
                  refine b_get (T := F_Md) hm hw 0 rfl rfl (fun w h => uw_of w (u_Md w h)) 10 (by decide) (uw_of _ k_618) rfl d_Md_hour_156 ?_
                  refine lv_iload_n hx hb d_Md_hour_159 rfl (lv_at hl 3 rfl) ?_
                  refine lv_iload_n hx hb d_Md_hour_160 rfl (lv_at hl 4 rfl) ?_
                  refine lv_iconst (v := nI 1) hx hb d_Md_hour_161 (by decide) ?_
                  refine lv_icmp_ne (tgt := 169) hx hb d_Md_hour_162 (by decide) (fun c_162_8 => ?_) (fun c_162_8 => ?_)
                  · skip
                    refine lv_aload_n hx hb d_Md_hour_169 rfl (lv_at hl 2 rfl) ?_
                    refine b_get (T := F_Md) hm hw 0 rfl rfl (fun w h => uw_of w (u_Md w h)) 10 (by decide) (uw_of _ k_618) rfl d_Md_hour_170 ?_
                    refine lv_iload_n hx hb d_Md_hour_173 rfl (lv_at hl 3 rfl) ?_
                    refine b_iald (i := h) hm hw 2 0 rfl rfl (by omega) (by omega) d_Md_hour_174 ?_
                    refine b_ti (show (fun j => nI (PR j)) h = nI (PR h) from rfl) ?_
                    refine b_iast (i := h) hm hw 2 0 rfl rfl (by omega) (by omega) d_Md_hour_175 (w1 := [(md, .inr (7, mdL za 0 cn ov sn kn fd cst co tb)), (za 9, .inl (k 0, 36, .inl (upd OS h v))), (za 10, .inl (k 0, 36, .inl (fun j => nI ((va_up PR h (PR h)) j)))), (za 11, .inl (k 0, 36, .inl (fun j => nI (NE j))))]) (by rw [updN]; rfl) (fun H locs hw => ?_)
                    refine lv_aload_n hx hb d_Md_hour_176 rfl (lv_at hl 2 rfl) ?_
                    refine b_get (T := F_Md) hm hw 0 rfl rfl (fun w h => uw_of w (u_Md w h)) 11 (by decide) (uw_of _ k_619) rfl d_Md_hour_177 ?_
                    refine lv_iload_n hx hb d_Md_hour_180 rfl (lv_at hl 3 rfl) ?_
                    refine lv_iload_n hx hb d_Md_hour_181 rfl (lv_at hl 4 rfl) ?_
                    refine lv_iconst (v := nI 2) hx hb d_Md_hour_182 (by decide) ?_
                    refine lv_icmp_ne (tgt := 190) hx hb d_Md_hour_183 (by decide) (fun c_183_9 => ?_) (fun c_183_9 => ?_)
                    · skip
                      refine lv_aload_n hx hb d_Md_hour_190 rfl (lv_at hl 2 rfl) ?_
                      refine b_get (T := F_Md) hm hw 0 rfl rfl (fun w h => uw_of w (u_Md w h)) 11 (by decide) (uw_of _ k_619) rfl d_Md_hour_191 ?_
                      refine lv_iload_n hx hb d_Md_hour_194 rfl (lv_at hl 3 rfl) ?_
                      refine b_iald (i := h) hm hw 3 0 rfl rfl (by omega) (by omega) d_Md_hour_195 ?_
                      refine b_ti (show (fun j => nI (NE j)) h = nI (NE h) from rfl) ?_
                      refine b_iast (i := h) hm hw 3 0 rfl rfl (by omega) (by omega) d_Md_hour_196 (w1 := [(md, .inr (7, mdL za 0 cn ov sn kn fd cst co tb)), (za 9, .inl (k 0, 36, .inl (upd OS h v))), (za 10, .inl (k 0, 36, .inl (fun j => nI ((va_up PR h (PR h)) j)))), (za 11, .inl (k 0, 36, .inl (fun j => nI ((va_up NE h (NE h)) j))))]) (by rw [updN]; rfl) (fun H locs hw => ?_)
                      refine lv_aload_n hx hb d_Md_hour_197 rfl (lv_at hl 2 rfl) ?_
                      refine lv_iconst (v := nI 0) hx hb d_Md_hour_198 (by decide) ?_
                      refine b_put (T := F_Md) hm hw 0 rfl rfl (fun w h => uw_of w (u_Md w h)) t_Md t_Md_ok n_Md 28 (by decide) (uw_of _ k_636) rfl rfl rfl (Nat.le_of_ble_eq_true rfl) d_Md_hour_199 (w1 := [(md, .inr (7, mdL za 0 cn ov sn 0 fd cst co tb)), (za 9, .inl (k 0, 36, .inl (upd OS h v))), (za 10, .inl (k 0, 36, .inl (fun j => nI ((va_up PR h (PR h)) j)))), (za 11, .inl (k 0, 36, .inl (fun j => nI ((va_up NE h (NE h)) j))))]) rfl (fun H locs hw => ?_)
                      refine lv_iload hx hb d_Md_hour_202 (lv_at hl 0 rfl) ?_
                      exact b_iret (post := fun (r : Int32) (u : Unit) => r = OS h) (w' := fun u => [(md, .inr (7, mdL za 0 cn ov sn 0 fd cst co tb)), (za 9, .inl (k 0, 36, .inl (upd OS h v))), (za 10, .inl (k 0, 36, .inl (fun j => nI (PR j)))), (za 11, .inl (k 0, 36, .inl (fun j => nI (NE j))))]) () hm (by simp only [upd_same, va_same] at hw; exact hw) rfl d_Md_hour_204
                    · skip
                      exact absurd c_183_9 (by decide)
                  · skip
                    exact absurd c_162_8 (by decide)
            · skip
              exact absurd c_95_5 (by decide)
          · skip
            have h_80_4 : h < ov := yltN c_80_4 (by omega) (by omega)
            exfalso; omega
        · skip
          exact absurd c_68_3 (by decide)
      · skip
        exact absurd c_24_2 (by decide)

set_option maxHeartbeats 4000000 in
set_option maxRecDepth 100000 in
theorem c_Md_hour_t21 (l : Launch) (D : va_G) (k : Nat → ClassId) (sz : Nat) (md : Nat) (za : Nat → Nat) (th cn ov sn kn fd : Nat) (cst : Int64) (co tb : Nat) (h y : Nat) (hy : y ≤ 1000) (hh : h < 36) (hov : h < ov) (ho36 : ov ≤ 36) : Met l y_Md_hour (uw y_Md_hour b_Md_hour 6 (some .int)) (rU 1 0 0) (va_Pc [.ref md, .int (nI h), .int (nI 1), .int (nI y)] (bP (gU D k) [(md, .inr (7, mdL za th cn ov sn kn fd cst co tb))] sz)) (va_Qi (fun (r : Int32) (_ : Unit) => r = 0) (fun u => bQ (gU D k) (va_A [(md, .inr (7, mdL za th cn ov sn kn fd cst co tb))] sz) ([(md, .inr (7, mdL za 2 cn ov sn kn fd cst co tb))])) (va_A [(md, .inr (7, mdL za th cn ov sn kn fd cst co tb))] sz)) (rU 1 0 0).cells (rU 1 0 0).slots (va_A [(md, .inr (7, mdL za th cn ov sn kn fd cst co tb))] sz) := by
  refine b_start (y := y_Md_hour) (maxL := 6) (ret := (some .int)) (cc := b_Md_hour) (ws' := ut) (rm := rU 1 0 0) (av := [.ref md, .int (nI h), .int (nI 1), .int (nI y)]) (g := gU D k) (ws := [(md, .inr (7, mdL za th cn ov sn kn fd cst co tb))]) (sz := sz) (Qc := fun A => va_Qi (fun (r : Int32) (_ : Unit) => r = 0) (fun u => bQ (gU D k) A ([(md, .inr (7, mdL za 2 cn ov sn kn fd cst co tb))])) A) (by decide +kernel) (Nat.le_of_ble_eq_true rfl) ?_
  intro p e s m below meth c A hm hnm hw ls hl
  have hl : lv_has ls 6 [(0, .ref md), (1, .int (nI h)), (2, .int (nI 1)), (3, .int (nI y))] := hl
  have hx := hm.1
  have hb := hm.2.1
  have hown := hm.2.2.2.2.1
  have hts := hm.2.2.2.2.2.1
  refine lv_iload_n hx hb d_Md_hour_0 rfl (lv_at hl 1 rfl) ?_
  refine lv_iconst (v := nI 0) hx hb d_Md_hour_1 (by decide) ?_
  refine lv_bipush (v := nI 35) hx hb d_Md_hour_2 (by decide) ?_
  refine b_goi (wr := [(md, .inr (7, mdL za th cn ov sn kn fd cst co tb))]) (b_runS (wc := []) (As := [.int (nI h), .int (nI 0), .int (nI 35)]) (rest := []) hm hw (va_cwS 3 hts (gS2 uw_of k_733 k_731 k_732 k_9) rfl rfl rfl (by decide +kernel) ⟨by decide, by decide⟩) (c_Md_in l D k _ (nI h) (nI 0) (nI 35)) [] (by decide) rfl rfl hl.1 rfl (Nat.le_of_ble_eq_true rfl) d_Md_hour_4 ⟨by decide, by decide⟩) hw [] [0] rfl rfl (by decide) (by decide) (fun r4 _ H locs hp4 hw => ?_)
  have hw : bW (gU D k) A s H locs [(md, .inr (7, mdL za th cn ov sn kn fd cst co tb))] := hw.sub [0] (by decide) rfl
  have hr4 : r4 = 1 := by rcases hp4 with ⟨q, _⟩ | ⟨_, q⟩; exact q; exact absurd (in_n (by omega) (by omega) (by omega)) q
  refine b_ti (y := nI 1) hr4 ?_
  refine lv_if_eq (tgt := 62) hx hb d_Md_hour_7 (by decide) (fun c_7_0 => ?_) (fun c_7_0 => ?_)
  · skip
    exact absurd c_7_0 (by decide)
  · skip
    refine lv_iload_n hx hb d_Md_hour_10 rfl (lv_at hl 2 rfl) ?_
    refine lv_if_ne (tgt := 27) hx hb d_Md_hour_11 (by decide) (fun c_11_1 => ?_) (fun c_11_1 => ?_)
    · skip
      refine lv_iload_n hx hb d_Md_hour_27 rfl (lv_at hl 2 rfl) ?_
      refine lv_iconst (v := nI 1) hx hb d_Md_hour_28 (by decide) ?_
      refine lv_icmp_ne (tgt := 43) hx hb d_Md_hour_29 (by decide) (fun c_29_2 => ?_) (fun c_29_2 => ?_)
      · skip
        exact absurd c_29_2 (by decide)
      · skip
        refine lv_iload_n hx hb d_Md_hour_32 rfl (lv_at hl 3 rfl) ?_
        refine lv_iconst (v := nI 0) hx hb d_Md_hour_33 (by decide) ?_
        refine lv_sipush (v := nI 1000) hx hb d_Md_hour_34 (by decide) ?_
        refine b_goi (wr := [(md, .inr (7, mdL za th cn ov sn kn fd cst co tb))]) (b_runS (wc := []) (As := [.int (nI y), .int (nI 0), .int (nI 1000)]) (rest := []) hm hw (va_cwS 3 hts (gS2 uw_of k_733 k_731 k_732 k_9) rfl rfl rfl (by decide +kernel) ⟨by decide, by decide⟩) (c_Md_in l D k _ (nI y) (nI 0) (nI 1000)) [] (by decide) rfl rfl hl.1 rfl (Nat.le_of_ble_eq_true rfl) d_Md_hour_37 ⟨by decide, by decide⟩) hw [] [0] rfl rfl (by decide) (by decide) (fun r37 _ H locs hp37 hw => ?_)
        have hw : bW (gU D k) A s H locs [(md, .inr (7, mdL za th cn ov sn kn fd cst co tb))] := hw.sub [0] (by decide) rfl
        have hr37 : r37 = 1 := by rcases hp37 with ⟨q, _⟩ | ⟨_, q⟩; exact q; exact absurd (in_n (by omega) (by omega) (by omega)) q
        refine b_ti (y := nI 1) hr37 ?_
        refine lv_if_ne (tgt := 58) hx hb d_Md_hour_40 (by decide) (fun c_40_3 => ?_) (fun c_40_3 => ?_)
        · skip
          refine lv_iconst (v := nI 1) hx hb d_Md_hour_58 (by decide) ?_
          refine lv_goto (tgt := 63) hx hb d_Md_hour_59 (by decide) ?_
          refine lv_istore (lv' := [(4, .int (nI 1)), (0, .ref md), (1, .int (nI h)), (2, .int (nI 1)), (3, .int (nI y))]) hx hb d_Md_hour_63  hl (by decide) rfl (fun ls hl => ?_)
          refine lv_aload_n hx hb d_Md_hour_65 rfl (lv_at hl 1 rfl) ?_
          refine lv_iload hx hb d_Md_hour_66 (lv_at hl 0 rfl) ?_
          refine lv_if_ne (tgt := 75) hx hb d_Md_hour_68 (by decide) (fun c_68_4 => ?_) (fun c_68_4 => ?_)
          · skip
            refine lv_iload_n hx hb d_Md_hour_75 rfl (lv_at hl 2 rfl) ?_
            refine lv_aload_n hx hb d_Md_hour_76 rfl (lv_at hl 1 rfl) ?_
            refine b_get (T := F_Md) hm hw 0 rfl rfl (fun w h => uw_of w (u_Md w h)) 13 (by decide) (uw_of _ k_621) rfl d_Md_hour_77 ?_
            refine lv_icmp_ge (tgt := 87) hx hb d_Md_hour_80 (by decide) (fun c_80_5 => ?_) (fun c_80_5 => ?_)
            · skip
              have h_80_5 : ov ≤ h := yge c_80_5 (by omega) (by omega)
              exfalso; omega
            · skip
              have h_80_5 : h < ov := yltN c_80_5 (by omega) (by omega)
              refine lv_iconst (v := nI 2) hx hb d_Md_hour_83 (by decide) ?_
              refine lv_goto (tgt := 88) hx hb d_Md_hour_84 (by decide) ?_
              refine b_put (T := F_Md) hm hw 0 rfl rfl (fun w h => uw_of w (u_Md w h)) t_Md t_Md_ok n_Md 0 (by decide) (uw_of _ k_608) rfl rfl rfl (Nat.le_of_ble_eq_true rfl) d_Md_hour_88 (w1 := [(md, .inr (7, mdL za 2 cn ov sn kn fd cst co tb))]) rfl (fun H locs hw => ?_)
              refine lv_aload_n hx hb d_Md_hour_91 rfl (lv_at hl 1 rfl) ?_
              refine b_get (T := F_Md) hm hw 0 rfl rfl (fun w h => uw_of w (u_Md w h)) 0 (by decide) (uw_of _ k_608) rfl d_Md_hour_92 ?_
              refine lv_if_le (tgt := 100) hx hb d_Md_hour_95 (by decide) (fun c_95_6 => ?_) (fun c_95_6 => ?_)
              · skip
                exact absurd c_95_6 (by decide)
              · skip
                refine lv_iconst (v := nI 0) hx hb d_Md_hour_98 (by decide) ?_
                exact b_iret (post := fun (r : Int32) (_ : Unit) => r = 0) (w' := fun u => [(md, .inr (7, mdL za 2 cn ov sn kn fd cst co tb))]) () hm hw (rfl) d_Md_hour_99
          · skip
            exact absurd c_68_4 (by decide)
        · skip
          exact absurd c_40_3 (by decide)
    · skip
      exact absurd c_11_1 (by decide)

set_option maxHeartbeats 4000000 in
set_option maxRecDepth 100000 in
theorem c_Md_hour1 (l : Launch) (D : va_G) (k : Nat → ClassId) (sz : Nat) (md : Nat) (za : Nat → Nat) (th cn ov sn kn fd : Nat) (cst : Int64) (co tb : Nat) (OS : Nat → Int32) (PR : Nat → Nat) (NE : Nat → Nat) (h y : Nat) (hy : y ≤ 1000) (hh : h < 36) (hov : ov ≤ h) : Met l y_Md_hour (uw y_Md_hour b_Md_hour 6 (some .int)) (rU 1 0 0) (va_Pc [.ref md, .int (nI h), .int (nI 1), .int (nI y)] (bP (gU D k) [(md, .inr (7, mdL za th cn ov sn kn fd cst co tb)), (za 9, .inl (k 0, 36, .inl OS)), (za 10, .inl (k 0, 36, .inl (fun j => nI (PR j)))), (za 11, .inl (k 0, 36, .inl (fun j => nI (NE j))))] sz)) (va_Qi (fun (r : Int32) (u : Unit) => r = nI (PR h)) (fun u => bQ (gU D k) (va_A [(md, .inr (7, mdL za th cn ov sn kn fd cst co tb)), (za 9, .inl (k 0, 36, .inl OS)), (za 10, .inl (k 0, 36, .inl (fun j => nI (PR j)))), (za 11, .inl (k 0, 36, .inl (fun j => nI (NE j))))] sz) ([(md, .inr (7, mdL za 0 cn ov sn 0 fd cst co tb)), (za 9, .inl (k 0, 36, .inl OS)), (za 10, .inl (k 0, 36, .inl (fun j => nI ((va_up PR h y) j)))), (za 11, .inl (k 0, 36, .inl (fun j => nI (NE j))))])) (va_A [(md, .inr (7, mdL za th cn ov sn kn fd cst co tb)), (za 9, .inl (k 0, 36, .inl OS)), (za 10, .inl (k 0, 36, .inl (fun j => nI (PR j)))), (za 11, .inl (k 0, 36, .inl (fun j => nI (NE j))))] sz)) (rU 1 0 0).cells (rU 1 0 0).slots (va_A [(md, .inr (7, mdL za th cn ov sn kn fd cst co tb)), (za 9, .inl (k 0, 36, .inl OS)), (za 10, .inl (k 0, 36, .inl (fun j => nI (PR j)))), (za 11, .inl (k 0, 36, .inl (fun j => nI (NE j))))] sz) := by
  refine b_start (y := y_Md_hour) (maxL := 6) (ret := (some .int)) (cc := b_Md_hour) (ws' := ut) (rm := rU 1 0 0) (av := [.ref md, .int (nI h), .int (nI 1), .int (nI y)]) (g := gU D k) (ws := [(md, .inr (7, mdL za th cn ov sn kn fd cst co tb)), (za 9, .inl (k 0, 36, .inl OS)), (za 10, .inl (k 0, 36, .inl (fun j => nI (PR j)))), (za 11, .inl (k 0, 36, .inl (fun j => nI (NE j))))]) (sz := sz) (Qc := fun A => va_Qi (fun (r : Int32) (u : Unit) => r = nI (PR h)) (fun u => bQ (gU D k) A ([(md, .inr (7, mdL za 0 cn ov sn 0 fd cst co tb)), (za 9, .inl (k 0, 36, .inl OS)), (za 10, .inl (k 0, 36, .inl (fun j => nI ((va_up PR h y) j)))), (za 11, .inl (k 0, 36, .inl (fun j => nI (NE j))))])) A) (by decide +kernel) (Nat.le_of_ble_eq_true rfl) ?_
  intro p e s m below meth c A hm hnm hw ls hl
  have hl : lv_has ls 6 [(0, .ref md), (1, .int (nI h)), (2, .int (nI 1)), (3, .int (nI y))] := hl
  have hx := hm.1
  have hb := hm.2.1
  have hown := hm.2.2.2.2.1
  have hts := hm.2.2.2.2.2.1
  refine lv_iload_n hx hb d_Md_hour_0 rfl (lv_at hl 1 rfl) ?_
  refine lv_iconst (v := nI 0) hx hb d_Md_hour_1 (by decide) ?_
  refine lv_bipush (v := nI 35) hx hb d_Md_hour_2 (by decide) ?_
  refine b_goi (wr := [(md, .inr (7, mdL za th cn ov sn kn fd cst co tb)), (za 9, .inl (k 0, 36, .inl OS)), (za 10, .inl (k 0, 36, .inl (fun j => nI (PR j)))), (za 11, .inl (k 0, 36, .inl (fun j => nI (NE j))))]) (b_runS (wc := []) (As := [.int (nI h), .int (nI 0), .int (nI 35)]) (rest := []) hm hw (va_cwS 3 hts (gS2 uw_of k_733 k_731 k_732 k_9) rfl rfl rfl (by decide +kernel) ⟨by decide, by decide⟩) (c_Md_in l D k _ (nI h) (nI 0) (nI 35)) [] (by decide) rfl rfl hl.1 rfl (Nat.le_of_ble_eq_true rfl) d_Md_hour_4 ⟨by decide, by decide⟩) hw [] [0, 1, 2, 3] rfl rfl (by decide) (by decide) (fun r4 _ H locs hp4 hw => ?_)
  have hw : bW (gU D k) A s H locs [(md, .inr (7, mdL za th cn ov sn kn fd cst co tb)), (za 9, .inl (k 0, 36, .inl OS)), (za 10, .inl (k 0, 36, .inl (fun j => nI (PR j)))), (za 11, .inl (k 0, 36, .inl (fun j => nI (NE j))))] := hw.sub [0, 1, 2, 3] (by decide) rfl
  have hr4 : r4 = 1 := by rcases hp4 with ⟨q, _⟩ | ⟨_, q⟩; exact q; exact absurd (in_n (by omega) (by omega) (by omega)) q
  refine b_ti (y := nI 1) hr4 ?_
  refine lv_if_eq (tgt := 62) hx hb d_Md_hour_7 (by decide) (fun c_7_0 => ?_) (fun c_7_0 => ?_)
  · skip
    exact absurd c_7_0 (by decide)
  · skip
    refine lv_iload_n hx hb d_Md_hour_10 rfl (lv_at hl 2 rfl) ?_
    refine lv_if_ne (tgt := 27) hx hb d_Md_hour_11 (by decide) (fun c_11_1 => ?_) (fun c_11_1 => ?_)
    · skip
      refine lv_iload_n hx hb d_Md_hour_27 rfl (lv_at hl 2 rfl) ?_
      refine lv_iconst (v := nI 1) hx hb d_Md_hour_28 (by decide) ?_
      refine lv_icmp_ne (tgt := 43) hx hb d_Md_hour_29 (by decide) (fun c_29_2 => ?_) (fun c_29_2 => ?_)
      · skip
        exact absurd c_29_2 (by decide)
      · skip
        refine lv_iload_n hx hb d_Md_hour_32 rfl (lv_at hl 3 rfl) ?_
        refine lv_iconst (v := nI 0) hx hb d_Md_hour_33 (by decide) ?_
        refine lv_sipush (v := nI 1000) hx hb d_Md_hour_34 (by decide) ?_
        refine b_goi (wr := [(md, .inr (7, mdL za th cn ov sn kn fd cst co tb)), (za 9, .inl (k 0, 36, .inl OS)), (za 10, .inl (k 0, 36, .inl (fun j => nI (PR j)))), (za 11, .inl (k 0, 36, .inl (fun j => nI (NE j))))]) (b_runS (wc := []) (As := [.int (nI y), .int (nI 0), .int (nI 1000)]) (rest := []) hm hw (va_cwS 3 hts (gS2 uw_of k_733 k_731 k_732 k_9) rfl rfl rfl (by decide +kernel) ⟨by decide, by decide⟩) (c_Md_in l D k _ (nI y) (nI 0) (nI 1000)) [] (by decide) rfl rfl hl.1 rfl (Nat.le_of_ble_eq_true rfl) d_Md_hour_37 ⟨by decide, by decide⟩) hw [] [0, 1, 2, 3] rfl rfl (by decide) (by decide) (fun r37 _ H locs hp37 hw => ?_)
        have hw : bW (gU D k) A s H locs [(md, .inr (7, mdL za th cn ov sn kn fd cst co tb)), (za 9, .inl (k 0, 36, .inl OS)), (za 10, .inl (k 0, 36, .inl (fun j => nI (PR j)))), (za 11, .inl (k 0, 36, .inl (fun j => nI (NE j))))] := hw.sub [0, 1, 2, 3] (by decide) rfl
        have hr37 : r37 = 1 := by rcases hp37 with ⟨q, _⟩ | ⟨_, q⟩; exact q; exact absurd (in_n (by omega) (by omega) (by omega)) q
        refine b_ti (y := nI 1) hr37 ?_
        refine lv_if_ne (tgt := 58) hx hb d_Md_hour_40 (by decide) (fun c_40_3 => ?_) (fun c_40_3 => ?_)
        · skip
          refine lv_iconst (v := nI 1) hx hb d_Md_hour_58 (by decide) ?_
          refine lv_goto (tgt := 63) hx hb d_Md_hour_59 (by decide) ?_
          refine lv_istore (lv' := [(4, .int (nI 1)), (0, .ref md), (1, .int (nI h)), (2, .int (nI 1)), (3, .int (nI y))]) hx hb d_Md_hour_63  hl (by decide) rfl (fun ls hl => ?_)
          refine lv_aload_n hx hb d_Md_hour_65 rfl (lv_at hl 1 rfl) ?_
          refine lv_iload hx hb d_Md_hour_66 (lv_at hl 0 rfl) ?_
          refine lv_if_ne (tgt := 75) hx hb d_Md_hour_68 (by decide) (fun c_68_4 => ?_) (fun c_68_4 => ?_)
          · skip
            refine lv_iload_n hx hb d_Md_hour_75 rfl (lv_at hl 2 rfl) ?_
            refine lv_aload_n hx hb d_Md_hour_76 rfl (lv_at hl 1 rfl) ?_
            refine b_get (T := F_Md) hm hw 0 rfl rfl (fun w h => uw_of w (u_Md w h)) 13 (by decide) (uw_of _ k_621) rfl d_Md_hour_77 ?_
            refine lv_icmp_ge (tgt := 87) hx hb d_Md_hour_80 (by decide) (fun c_80_5 => ?_) (fun c_80_5 => ?_)
            · skip
              have h_80_5 : ov ≤ h := yge c_80_5 (by omega) (by omega)
              refine lv_iconst (v := nI 0) hx hb d_Md_hour_87 (by decide) ?_
              refine b_put (T := F_Md) hm hw 0 rfl rfl (fun w h => uw_of w (u_Md w h)) t_Md t_Md_ok n_Md 0 (by decide) (uw_of _ k_608) rfl rfl rfl (Nat.le_of_ble_eq_true rfl) d_Md_hour_88 (w1 := [(md, .inr (7, mdL za 0 cn ov sn kn fd cst co tb)), (za 9, .inl (k 0, 36, .inl OS)), (za 10, .inl (k 0, 36, .inl (fun j => nI (PR j)))), (za 11, .inl (k 0, 36, .inl (fun j => nI (NE j))))]) rfl (fun H locs hw => ?_)
              refine lv_aload_n hx hb d_Md_hour_91 rfl (lv_at hl 1 rfl) ?_
              refine b_get (T := F_Md) hm hw 0 rfl rfl (fun w h => uw_of w (u_Md w h)) 0 (by decide) (uw_of _ k_608) rfl d_Md_hour_92 ?_
              refine lv_if_le (tgt := 100) hx hb d_Md_hour_95 (by decide) (fun c_95_6 => ?_) (fun c_95_6 => ?_)
              · skip
                refine lv_iload_n hx hb d_Md_hour_100 rfl (lv_at hl 3 rfl) ?_
                refine lv_if_ne (tgt := 113) hx hb d_Md_hour_101 (by decide) (fun c_101_7 => ?_) (fun c_101_7 => ?_)
                · skip
                  refine lv_iload_n hx hb d_Md_hour_113 rfl (lv_at hl 3 rfl) ?_
                  refine lv_iconst (v := nI 1) hx hb d_Md_hour_114 (by decide) ?_
                  refine lv_icmp_ne (tgt := 127) hx hb d_Md_hour_115 (by decide) (fun c_115_8 => ?_) (fun c_115_8 => ?_)
                  · skip
                    exact absurd c_115_8 (by decide)
                  · skip
                    refine lv_aload_n hx hb d_Md_hour_118 rfl (lv_at hl 1 rfl) ?_
                    refine b_get (T := F_Md) hm hw 0 rfl rfl (fun w h => uw_of w (u_Md w h)) 10 (by decide) (uw_of _ k_618) rfl d_Md_hour_119 ?_
                    refine lv_iload_n hx hb d_Md_hour_122 rfl (lv_at hl 2 rfl) ?_
                    refine b_iald (i := h) hm hw 2 0 rfl rfl (by omega) (by omega) d_Md_hour_123 ?_
                    refine b_ti (show (fun j => nI (PR j)) h = nI (PR h) from rfl) ?_
                    refine lv_goto (tgt := 133) hx hb d_Md_hour_124 (by decide) ?_
                    refine lv_istore (lv' := [(5, .int (nI (PR h))), (4, .int (nI 1)), (0, .ref md), (1, .int (nI h)), (2, .int (nI 1)), (3, .int (nI y))]) hx hb d_Md_hour_133  hl (by decide) rfl (fun ls hl => ?_)
                    refine lv_aload_n hx hb d_Md_hour_135 rfl (lv_at hl 2 rfl) ?_
                    refine b_get (T := F_Md) hm hw 0 rfl rfl (fun w h => uw_of w (u_Md w h)) 9 (by decide) (uw_of _ k_617) rfl d_Md_hour_136 ?_
                    refine lv_iload_n hx hb d_Md_hour_139 rfl (lv_at hl 3 rfl) ?_
                    refine lv_iload_n hx hb d_Md_hour_140 rfl (lv_at hl 4 rfl) ?_
                    refine lv_if_ne (tgt := 148) hx hb d_Md_hour_141 (by decide) (fun c_141_9 => ?_) (fun c_141_9 => ?_)
                    · skip
                      refine lv_aload_n hx hb d_Md_hour_148 rfl (lv_at hl 2 rfl) ?_
                      refine b_get (T := F_Md) hm hw 0 rfl rfl (fun w h => uw_of w (u_Md w h)) 9 (by decide) (uw_of _ k_617) rfl d_Md_hour_149 ?_
                      refine lv_iload_n hx hb d_Md_hour_152 rfl (lv_at hl 3 rfl) ?_
                      refine b_iald (i := h) hm hw 1 0 rfl rfl (by omega) (by omega) d_Md_hour_153 ?_
                      refine b_iast (i := h) hm hw 1 0 rfl rfl (by omega) (by omega) d_Md_hour_154 (w1 := [(md, .inr (7, mdL za 0 cn ov sn kn fd cst co tb)), (za 9, .inl (k 0, 36, .inl (upd OS h (OS h)))), (za 10, .inl (k 0, 36, .inl (fun j => nI (PR j)))), (za 11, .inl (k 0, 36, .inl (fun j => nI (NE j))))]) rfl (fun H locs hw => ?_)
                      refine lv_aload_n hx hb d_Md_hour_155 rfl (lv_at hl 2 rfl) ?_
                      refine b_get (T := F_Md) hm hw 0 rfl rfl (fun w h => uw_of w (u_Md w h)) 10 (by decide) (uw_of _ k_618) rfl d_Md_hour_156 ?_
                      refine lv_iload_n hx hb d_Md_hour_159 rfl (lv_at hl 3 rfl) ?_
                      refine lv_iload_n hx hb d_Md_hour_160 rfl (lv_at hl 4 rfl) ?_
                      refine lv_iconst (v := nI 1) hx hb d_Md_hour_161 (by decide) ?_
                      refine lv_icmp_ne (tgt := 169) hx hb d_Md_hour_162 (by decide) (fun c_162_10 => ?_) (fun c_162_10 => ?_)
                      · skip
                        exact absurd c_162_10 (by decide)
                      · skip
                        refine lv_iload_n hx hb d_Md_hour_165 rfl (lv_at hl 5 rfl) ?_
                        refine lv_goto (tgt := 175) hx hb d_Md_hour_166 (by decide) ?_
                        refine b_iast (i := h) hm hw 2 0 rfl rfl (by omega) (by omega) d_Md_hour_175 (w1 := [(md, .inr (7, mdL za 0 cn ov sn kn fd cst co tb)), (za 9, .inl (k 0, 36, .inl (upd OS h (OS h)))), (za 10, .inl (k 0, 36, .inl (fun j => nI ((va_up PR h y) j)))), (za 11, .inl (k 0, 36, .inl (fun j => nI (NE j))))]) (by rw [updN]; rfl) (fun H locs hw => ?_)
                        refine lv_aload_n hx hb d_Md_hour_176 rfl (lv_at hl 2 rfl) ?_
                        refine b_get (T := F_Md) hm hw 0 rfl rfl (fun w h => uw_of w (u_Md w h)) 11 (by decide) (uw_of _ k_619) rfl d_Md_hour_177 ?_
                        refine lv_iload_n hx hb d_Md_hour_180 rfl (lv_at hl 3 rfl) ?_
                        refine lv_iload_n hx hb d_Md_hour_181 rfl (lv_at hl 4 rfl) ?_
                        refine lv_iconst (v := nI 2) hx hb d_Md_hour_182 (by decide) ?_
                        refine lv_icmp_ne (tgt := 190) hx hb d_Md_hour_183 (by decide) (fun c_183_11 => ?_) (fun c_183_11 => ?_)
                        · skip
                          refine lv_aload_n hx hb d_Md_hour_190 rfl (lv_at hl 2 rfl) ?_
                          refine b_get (T := F_Md) hm hw 0 rfl rfl (fun w h => uw_of w (u_Md w h)) 11 (by decide) (uw_of _ k_619) rfl d_Md_hour_191 ?_
                          refine lv_iload_n hx hb d_Md_hour_194 rfl (lv_at hl 3 rfl) ?_
                          refine b_iald (i := h) hm hw 3 0 rfl rfl (by omega) (by omega) d_Md_hour_195 ?_
                          refine b_ti (show (fun j => nI (NE j)) h = nI (NE h) from rfl) ?_
                          refine b_iast (i := h) hm hw 3 0 rfl rfl (by omega) (by omega) d_Md_hour_196 (w1 := [(md, .inr (7, mdL za 0 cn ov sn kn fd cst co tb)), (za 9, .inl (k 0, 36, .inl (upd OS h (OS h)))), (za 10, .inl (k 0, 36, .inl (fun j => nI ((va_up PR h y) j)))), (za 11, .inl (k 0, 36, .inl (fun j => nI ((va_up NE h (NE h)) j))))]) (by rw [updN]; rfl) (fun H locs hw => ?_)
                          refine lv_aload_n hx hb d_Md_hour_197 rfl (lv_at hl 2 rfl) ?_
                          refine lv_iconst (v := nI 0) hx hb d_Md_hour_198 (by decide) ?_
                          refine b_put (T := F_Md) hm hw 0 rfl rfl (fun w h => uw_of w (u_Md w h)) t_Md t_Md_ok n_Md 28 (by decide) (uw_of _ k_636) rfl rfl rfl (Nat.le_of_ble_eq_true rfl) d_Md_hour_199 (w1 := [(md, .inr (7, mdL za 0 cn ov sn 0 fd cst co tb)), (za 9, .inl (k 0, 36, .inl (upd OS h (OS h)))), (za 10, .inl (k 0, 36, .inl (fun j => nI ((va_up PR h y) j)))), (za 11, .inl (k 0, 36, .inl (fun j => nI ((va_up NE h (NE h)) j))))]) rfl (fun H locs hw => ?_)
                          refine lv_iload hx hb d_Md_hour_202 (lv_at hl 0 rfl) ?_
                          exact b_iret (post := fun (r : Int32) (u : Unit) => r = nI (PR h)) (w' := fun u => [(md, .inr (7, mdL za 0 cn ov sn 0 fd cst co tb)), (za 9, .inl (k 0, 36, .inl OS)), (za 10, .inl (k 0, 36, .inl (fun j => nI ((va_up PR h y) j)))), (za 11, .inl (k 0, 36, .inl (fun j => nI (NE j))))]) () hm (by simp only [upd_same, va_same] at hw; exact hw) rfl d_Md_hour_204
                        · skip
                          exact absurd c_183_11 (by decide)
                    · skip
                      exact absurd c_141_9 (by decide)
                · skip
                  exact absurd c_101_7 (by decide)
              · skip
                exact absurd c_95_6 (by decide)
            · skip
              have h_80_5 : h < ov := yltN c_80_5 (by omega) (by omega)
              exfalso; omega
          · skip
            exact absurd c_68_4 (by decide)
        · skip
          exact absurd c_40_3 (by decide)
    · skip
      exact absurd c_11_1 (by decide)

set_option maxHeartbeats 4000000 in
set_option maxRecDepth 100000 in
theorem c_Md_hour_t22 (l : Launch) (D : va_G) (k : Nat → ClassId) (sz : Nat) (md : Nat) (za : Nat → Nat) (th cn ov sn kn fd : Nat) (cst : Int64) (co tb : Nat) (h y : Nat) (hy : y ≤ 100000) (hh : h < 36) (hov : h < ov) (ho36 : ov ≤ 36) : Met l y_Md_hour (uw y_Md_hour b_Md_hour 6 (some .int)) (rU 1 0 0) (va_Pc [.ref md, .int (nI h), .int (nI 2), .int (nI y)] (bP (gU D k) [(md, .inr (7, mdL za th cn ov sn kn fd cst co tb))] sz)) (va_Qi (fun (r : Int32) (_ : Unit) => r = 0) (fun u => bQ (gU D k) (va_A [(md, .inr (7, mdL za th cn ov sn kn fd cst co tb))] sz) ([(md, .inr (7, mdL za 2 cn ov sn kn fd cst co tb))])) (va_A [(md, .inr (7, mdL za th cn ov sn kn fd cst co tb))] sz)) (rU 1 0 0).cells (rU 1 0 0).slots (va_A [(md, .inr (7, mdL za th cn ov sn kn fd cst co tb))] sz) := by
  refine b_start (y := y_Md_hour) (maxL := 6) (ret := (some .int)) (cc := b_Md_hour) (ws' := ut) (rm := rU 1 0 0) (av := [.ref md, .int (nI h), .int (nI 2), .int (nI y)]) (g := gU D k) (ws := [(md, .inr (7, mdL za th cn ov sn kn fd cst co tb))]) (sz := sz) (Qc := fun A => va_Qi (fun (r : Int32) (_ : Unit) => r = 0) (fun u => bQ (gU D k) A ([(md, .inr (7, mdL za 2 cn ov sn kn fd cst co tb))])) A) (by decide +kernel) (Nat.le_of_ble_eq_true rfl) ?_
  intro p e s m below meth c A hm hnm hw ls hl
  have hl : lv_has ls 6 [(0, .ref md), (1, .int (nI h)), (2, .int (nI 2)), (3, .int (nI y))] := hl
  have hx := hm.1
  have hb := hm.2.1
  have hown := hm.2.2.2.2.1
  have hts := hm.2.2.2.2.2.1
  refine lv_iload_n hx hb d_Md_hour_0 rfl (lv_at hl 1 rfl) ?_
  refine lv_iconst (v := nI 0) hx hb d_Md_hour_1 (by decide) ?_
  refine lv_bipush (v := nI 35) hx hb d_Md_hour_2 (by decide) ?_
  refine b_goi (wr := [(md, .inr (7, mdL za th cn ov sn kn fd cst co tb))]) (b_runS (wc := []) (As := [.int (nI h), .int (nI 0), .int (nI 35)]) (rest := []) hm hw (va_cwS 3 hts (gS2 uw_of k_733 k_731 k_732 k_9) rfl rfl rfl (by decide +kernel) ⟨by decide, by decide⟩) (c_Md_in l D k _ (nI h) (nI 0) (nI 35)) [] (by decide) rfl rfl hl.1 rfl (Nat.le_of_ble_eq_true rfl) d_Md_hour_4 ⟨by decide, by decide⟩) hw [] [0] rfl rfl (by decide) (by decide) (fun r4 _ H locs hp4 hw => ?_)
  have hw : bW (gU D k) A s H locs [(md, .inr (7, mdL za th cn ov sn kn fd cst co tb))] := hw.sub [0] (by decide) rfl
  have hr4 : r4 = 1 := by rcases hp4 with ⟨q, _⟩ | ⟨_, q⟩; exact q; exact absurd (in_n (by omega) (by omega) (by omega)) q
  refine b_ti (y := nI 1) hr4 ?_
  refine lv_if_eq (tgt := 62) hx hb d_Md_hour_7 (by decide) (fun c_7_0 => ?_) (fun c_7_0 => ?_)
  · skip
    exact absurd c_7_0 (by decide)
  · skip
    refine lv_iload_n hx hb d_Md_hour_10 rfl (lv_at hl 2 rfl) ?_
    refine lv_if_ne (tgt := 27) hx hb d_Md_hour_11 (by decide) (fun c_11_1 => ?_) (fun c_11_1 => ?_)
    · skip
      refine lv_iload_n hx hb d_Md_hour_27 rfl (lv_at hl 2 rfl) ?_
      refine lv_iconst (v := nI 1) hx hb d_Md_hour_28 (by decide) ?_
      refine lv_icmp_ne (tgt := 43) hx hb d_Md_hour_29 (by decide) (fun c_29_2 => ?_) (fun c_29_2 => ?_)
      · skip
        refine lv_iload_n hx hb d_Md_hour_43 rfl (lv_at hl 2 rfl) ?_
        refine lv_iconst (v := nI 2) hx hb d_Md_hour_44 (by decide) ?_
        refine lv_icmp_ne (tgt := 62) hx hb d_Md_hour_45 (by decide) (fun c_45_3 => ?_) (fun c_45_3 => ?_)
        · skip
          exact absurd c_45_3 (by decide)
        · skip
          refine lv_iload_n hx hb d_Md_hour_48 rfl (lv_at hl 3 rfl) ?_
          refine lv_iconst (v := nI 0) hx hb d_Md_hour_49 (by decide) ?_
          refine lv_ldc (v := 100000) hx hb hown (hts _ (uw_of _ k_734)) d_Md_hour_50 ?_
          refine b_ti (show (100000 : Int32) = nI 100000 from rfl) ?_
          refine b_goi (wr := [(md, .inr (7, mdL za th cn ov sn kn fd cst co tb))]) (b_runS (wc := []) (As := [.int (nI y), .int (nI 0), .int (nI 100000)]) (rest := []) hm hw (va_cwS 3 hts (gS2 uw_of k_733 k_731 k_732 k_9) rfl rfl rfl (by decide +kernel) ⟨by decide, by decide⟩) (c_Md_in l D k _ (nI y) (nI 0) (nI 100000)) [] (by decide) rfl rfl hl.1 rfl (Nat.le_of_ble_eq_true rfl) d_Md_hour_52 ⟨by decide, by decide⟩) hw [] [0] rfl rfl (by decide) (by decide) (fun r52 _ H locs hp52 hw => ?_)
          have hw : bW (gU D k) A s H locs [(md, .inr (7, mdL za th cn ov sn kn fd cst co tb))] := hw.sub [0] (by decide) rfl
          have hr52 : r52 = 1 := by rcases hp52 with ⟨q, _⟩ | ⟨_, q⟩; exact q; exact absurd (in_n (by omega) (by omega) (by omega)) q
          refine b_ti (y := nI 1) hr52 ?_
          refine lv_if_eq (tgt := 62) hx hb d_Md_hour_55 (by decide) (fun c_55_4 => ?_) (fun c_55_4 => ?_)
          · skip
            exact absurd c_55_4 (by decide)
          · skip
            refine lv_iconst (v := nI 1) hx hb d_Md_hour_58 (by decide) ?_
            refine lv_goto (tgt := 63) hx hb d_Md_hour_59 (by decide) ?_
            refine lv_istore (lv' := [(4, .int (nI 1)), (0, .ref md), (1, .int (nI h)), (2, .int (nI 2)), (3, .int (nI y))]) hx hb d_Md_hour_63  hl (by decide) rfl (fun ls hl => ?_)
            refine lv_aload_n hx hb d_Md_hour_65 rfl (lv_at hl 1 rfl) ?_
            refine lv_iload hx hb d_Md_hour_66 (lv_at hl 0 rfl) ?_
            refine lv_if_ne (tgt := 75) hx hb d_Md_hour_68 (by decide) (fun c_68_5 => ?_) (fun c_68_5 => ?_)
            · skip
              refine lv_iload_n hx hb d_Md_hour_75 rfl (lv_at hl 2 rfl) ?_
              refine lv_aload_n hx hb d_Md_hour_76 rfl (lv_at hl 1 rfl) ?_
              refine b_get (T := F_Md) hm hw 0 rfl rfl (fun w h => uw_of w (u_Md w h)) 13 (by decide) (uw_of _ k_621) rfl d_Md_hour_77 ?_
              refine lv_icmp_ge (tgt := 87) hx hb d_Md_hour_80 (by decide) (fun c_80_6 => ?_) (fun c_80_6 => ?_)
              · skip
                have h_80_6 : ov ≤ h := yge c_80_6 (by omega) (by omega)
                exfalso; omega
              · skip
                have h_80_6 : h < ov := yltN c_80_6 (by omega) (by omega)
                refine lv_iconst (v := nI 2) hx hb d_Md_hour_83 (by decide) ?_
                refine lv_goto (tgt := 88) hx hb d_Md_hour_84 (by decide) ?_
                refine b_put (T := F_Md) hm hw 0 rfl rfl (fun w h => uw_of w (u_Md w h)) t_Md t_Md_ok n_Md 0 (by decide) (uw_of _ k_608) rfl rfl rfl (Nat.le_of_ble_eq_true rfl) d_Md_hour_88 (w1 := [(md, .inr (7, mdL za 2 cn ov sn kn fd cst co tb))]) rfl (fun H locs hw => ?_)
                refine lv_aload_n hx hb d_Md_hour_91 rfl (lv_at hl 1 rfl) ?_
                refine b_get (T := F_Md) hm hw 0 rfl rfl (fun w h => uw_of w (u_Md w h)) 0 (by decide) (uw_of _ k_608) rfl d_Md_hour_92 ?_
                refine lv_if_le (tgt := 100) hx hb d_Md_hour_95 (by decide) (fun c_95_7 => ?_) (fun c_95_7 => ?_)
                · skip
                  exact absurd c_95_7 (by decide)
                · skip
                  refine lv_iconst (v := nI 0) hx hb d_Md_hour_98 (by decide) ?_
                  exact b_iret (post := fun (r : Int32) (_ : Unit) => r = 0) (w' := fun u => [(md, .inr (7, mdL za 2 cn ov sn kn fd cst co tb))]) () hm hw (rfl) d_Md_hour_99
            · skip
              exact absurd c_68_5 (by decide)
      · skip
        exact absurd c_29_2 (by decide)
    · skip
      exact absurd c_11_1 (by decide)

set_option maxHeartbeats 4000000 in
set_option maxRecDepth 100000 in
theorem c_Md_hour2 (l : Launch) (D : va_G) (k : Nat → ClassId) (sz : Nat) (md : Nat) (za : Nat → Nat) (th cn ov sn kn fd : Nat) (cst : Int64) (co tb : Nat) (OS : Nat → Int32) (PR : Nat → Nat) (NE : Nat → Nat) (h y : Nat) (hy : y ≤ 100000) (hh : h < 36) (hov : ov ≤ h) : Met l y_Md_hour (uw y_Md_hour b_Md_hour 6 (some .int)) (rU 1 0 0) (va_Pc [.ref md, .int (nI h), .int (nI 2), .int (nI y)] (bP (gU D k) [(md, .inr (7, mdL za th cn ov sn kn fd cst co tb)), (za 9, .inl (k 0, 36, .inl OS)), (za 10, .inl (k 0, 36, .inl (fun j => nI (PR j)))), (za 11, .inl (k 0, 36, .inl (fun j => nI (NE j))))] sz)) (va_Qi (fun (r : Int32) (u : Unit) => r = nI (NE h)) (fun u => bQ (gU D k) (va_A [(md, .inr (7, mdL za th cn ov sn kn fd cst co tb)), (za 9, .inl (k 0, 36, .inl OS)), (za 10, .inl (k 0, 36, .inl (fun j => nI (PR j)))), (za 11, .inl (k 0, 36, .inl (fun j => nI (NE j))))] sz) ([(md, .inr (7, mdL za 0 cn ov sn 0 fd cst co tb)), (za 9, .inl (k 0, 36, .inl OS)), (za 10, .inl (k 0, 36, .inl (fun j => nI (PR j)))), (za 11, .inl (k 0, 36, .inl (fun j => nI ((va_up NE h y) j))))])) (va_A [(md, .inr (7, mdL za th cn ov sn kn fd cst co tb)), (za 9, .inl (k 0, 36, .inl OS)), (za 10, .inl (k 0, 36, .inl (fun j => nI (PR j)))), (za 11, .inl (k 0, 36, .inl (fun j => nI (NE j))))] sz)) (rU 1 0 0).cells (rU 1 0 0).slots (va_A [(md, .inr (7, mdL za th cn ov sn kn fd cst co tb)), (za 9, .inl (k 0, 36, .inl OS)), (za 10, .inl (k 0, 36, .inl (fun j => nI (PR j)))), (za 11, .inl (k 0, 36, .inl (fun j => nI (NE j))))] sz) := by
  refine b_start (y := y_Md_hour) (maxL := 6) (ret := (some .int)) (cc := b_Md_hour) (ws' := ut) (rm := rU 1 0 0) (av := [.ref md, .int (nI h), .int (nI 2), .int (nI y)]) (g := gU D k) (ws := [(md, .inr (7, mdL za th cn ov sn kn fd cst co tb)), (za 9, .inl (k 0, 36, .inl OS)), (za 10, .inl (k 0, 36, .inl (fun j => nI (PR j)))), (za 11, .inl (k 0, 36, .inl (fun j => nI (NE j))))]) (sz := sz) (Qc := fun A => va_Qi (fun (r : Int32) (u : Unit) => r = nI (NE h)) (fun u => bQ (gU D k) A ([(md, .inr (7, mdL za 0 cn ov sn 0 fd cst co tb)), (za 9, .inl (k 0, 36, .inl OS)), (za 10, .inl (k 0, 36, .inl (fun j => nI (PR j)))), (za 11, .inl (k 0, 36, .inl (fun j => nI ((va_up NE h y) j))))])) A) (by decide +kernel) (Nat.le_of_ble_eq_true rfl) ?_
  intro p e s m below meth c A hm hnm hw ls hl
  have hl : lv_has ls 6 [(0, .ref md), (1, .int (nI h)), (2, .int (nI 2)), (3, .int (nI y))] := hl
  have hx := hm.1
  have hb := hm.2.1
  have hown := hm.2.2.2.2.1
  have hts := hm.2.2.2.2.2.1
  refine lv_iload_n hx hb d_Md_hour_0 rfl (lv_at hl 1 rfl) ?_
  refine lv_iconst (v := nI 0) hx hb d_Md_hour_1 (by decide) ?_
  refine lv_bipush (v := nI 35) hx hb d_Md_hour_2 (by decide) ?_
  refine b_goi (wr := [(md, .inr (7, mdL za th cn ov sn kn fd cst co tb)), (za 9, .inl (k 0, 36, .inl OS)), (za 10, .inl (k 0, 36, .inl (fun j => nI (PR j)))), (za 11, .inl (k 0, 36, .inl (fun j => nI (NE j))))]) (b_runS (wc := []) (As := [.int (nI h), .int (nI 0), .int (nI 35)]) (rest := []) hm hw (va_cwS 3 hts (gS2 uw_of k_733 k_731 k_732 k_9) rfl rfl rfl (by decide +kernel) ⟨by decide, by decide⟩) (c_Md_in l D k _ (nI h) (nI 0) (nI 35)) [] (by decide) rfl rfl hl.1 rfl (Nat.le_of_ble_eq_true rfl) d_Md_hour_4 ⟨by decide, by decide⟩) hw [] [0, 1, 2, 3] rfl rfl (by decide) (by decide) (fun r4 _ H locs hp4 hw => ?_)
  have hw : bW (gU D k) A s H locs [(md, .inr (7, mdL za th cn ov sn kn fd cst co tb)), (za 9, .inl (k 0, 36, .inl OS)), (za 10, .inl (k 0, 36, .inl (fun j => nI (PR j)))), (za 11, .inl (k 0, 36, .inl (fun j => nI (NE j))))] := hw.sub [0, 1, 2, 3] (by decide) rfl
  have hr4 : r4 = 1 := by rcases hp4 with ⟨q, _⟩ | ⟨_, q⟩; exact q; exact absurd (in_n (by omega) (by omega) (by omega)) q
  refine b_ti (y := nI 1) hr4 ?_
  refine lv_if_eq (tgt := 62) hx hb d_Md_hour_7 (by decide) (fun c_7_0 => ?_) (fun c_7_0 => ?_)
  · skip
    exact absurd c_7_0 (by decide)
  · skip
    refine lv_iload_n hx hb d_Md_hour_10 rfl (lv_at hl 2 rfl) ?_
    refine lv_if_ne (tgt := 27) hx hb d_Md_hour_11 (by decide) (fun c_11_1 => ?_) (fun c_11_1 => ?_)
    · skip
      refine lv_iload_n hx hb d_Md_hour_27 rfl (lv_at hl 2 rfl) ?_
      refine lv_iconst (v := nI 1) hx hb d_Md_hour_28 (by decide) ?_
      refine lv_icmp_ne (tgt := 43) hx hb d_Md_hour_29 (by decide) (fun c_29_2 => ?_) (fun c_29_2 => ?_)
      · skip
        refine lv_iload_n hx hb d_Md_hour_43 rfl (lv_at hl 2 rfl) ?_
        refine lv_iconst (v := nI 2) hx hb d_Md_hour_44 (by decide) ?_
        refine lv_icmp_ne (tgt := 62) hx hb d_Md_hour_45 (by decide) (fun c_45_3 => ?_) (fun c_45_3 => ?_)
        · skip
          exact absurd c_45_3 (by decide)
        · skip
          refine lv_iload_n hx hb d_Md_hour_48 rfl (lv_at hl 3 rfl) ?_
          refine lv_iconst (v := nI 0) hx hb d_Md_hour_49 (by decide) ?_
          refine lv_ldc (v := 100000) hx hb hown (hts _ (uw_of _ k_734)) d_Md_hour_50 ?_
          refine b_ti (show (100000 : Int32) = nI 100000 from rfl) ?_
          refine b_goi (wr := [(md, .inr (7, mdL za th cn ov sn kn fd cst co tb)), (za 9, .inl (k 0, 36, .inl OS)), (za 10, .inl (k 0, 36, .inl (fun j => nI (PR j)))), (za 11, .inl (k 0, 36, .inl (fun j => nI (NE j))))]) (b_runS (wc := []) (As := [.int (nI y), .int (nI 0), .int (nI 100000)]) (rest := []) hm hw (va_cwS 3 hts (gS2 uw_of k_733 k_731 k_732 k_9) rfl rfl rfl (by decide +kernel) ⟨by decide, by decide⟩) (c_Md_in l D k _ (nI y) (nI 0) (nI 100000)) [] (by decide) rfl rfl hl.1 rfl (Nat.le_of_ble_eq_true rfl) d_Md_hour_52 ⟨by decide, by decide⟩) hw [] [0, 1, 2, 3] rfl rfl (by decide) (by decide) (fun r52 _ H locs hp52 hw => ?_)
          have hw : bW (gU D k) A s H locs [(md, .inr (7, mdL za th cn ov sn kn fd cst co tb)), (za 9, .inl (k 0, 36, .inl OS)), (za 10, .inl (k 0, 36, .inl (fun j => nI (PR j)))), (za 11, .inl (k 0, 36, .inl (fun j => nI (NE j))))] := hw.sub [0, 1, 2, 3] (by decide) rfl
          have hr52 : r52 = 1 := by rcases hp52 with ⟨q, _⟩ | ⟨_, q⟩; exact q; exact absurd (in_n (by omega) (by omega) (by omega)) q
          refine b_ti (y := nI 1) hr52 ?_
          refine lv_if_eq (tgt := 62) hx hb d_Md_hour_55 (by decide) (fun c_55_4 => ?_) (fun c_55_4 => ?_)
          · skip
            exact absurd c_55_4 (by decide)
          · skip
            refine lv_iconst (v := nI 1) hx hb d_Md_hour_58 (by decide) ?_
            refine lv_goto (tgt := 63) hx hb d_Md_hour_59 (by decide) ?_
            refine lv_istore (lv' := [(4, .int (nI 1)), (0, .ref md), (1, .int (nI h)), (2, .int (nI 2)), (3, .int (nI y))]) hx hb d_Md_hour_63  hl (by decide) rfl (fun ls hl => ?_)
            refine lv_aload_n hx hb d_Md_hour_65 rfl (lv_at hl 1 rfl) ?_
            refine lv_iload hx hb d_Md_hour_66 (lv_at hl 0 rfl) ?_
            refine lv_if_ne (tgt := 75) hx hb d_Md_hour_68 (by decide) (fun c_68_5 => ?_) (fun c_68_5 => ?_)
            · skip
              refine lv_iload_n hx hb d_Md_hour_75 rfl (lv_at hl 2 rfl) ?_
              refine lv_aload_n hx hb d_Md_hour_76 rfl (lv_at hl 1 rfl) ?_
              refine b_get (T := F_Md) hm hw 0 rfl rfl (fun w h => uw_of w (u_Md w h)) 13 (by decide) (uw_of _ k_621) rfl d_Md_hour_77 ?_
              refine lv_icmp_ge (tgt := 87) hx hb d_Md_hour_80 (by decide) (fun c_80_6 => ?_) (fun c_80_6 => ?_)
              · skip
                have h_80_6 : ov ≤ h := yge c_80_6 (by omega) (by omega)
                refine lv_iconst (v := nI 0) hx hb d_Md_hour_87 (by decide) ?_
                refine b_put (T := F_Md) hm hw 0 rfl rfl (fun w h => uw_of w (u_Md w h)) t_Md t_Md_ok n_Md 0 (by decide) (uw_of _ k_608) rfl rfl rfl (Nat.le_of_ble_eq_true rfl) d_Md_hour_88 (w1 := [(md, .inr (7, mdL za 0 cn ov sn kn fd cst co tb)), (za 9, .inl (k 0, 36, .inl OS)), (za 10, .inl (k 0, 36, .inl (fun j => nI (PR j)))), (za 11, .inl (k 0, 36, .inl (fun j => nI (NE j))))]) rfl (fun H locs hw => ?_)
                refine lv_aload_n hx hb d_Md_hour_91 rfl (lv_at hl 1 rfl) ?_
                refine b_get (T := F_Md) hm hw 0 rfl rfl (fun w h => uw_of w (u_Md w h)) 0 (by decide) (uw_of _ k_608) rfl d_Md_hour_92 ?_
                refine lv_if_le (tgt := 100) hx hb d_Md_hour_95 (by decide) (fun c_95_7 => ?_) (fun c_95_7 => ?_)
                · skip
                  refine lv_iload_n hx hb d_Md_hour_100 rfl (lv_at hl 3 rfl) ?_
                  refine lv_if_ne (tgt := 113) hx hb d_Md_hour_101 (by decide) (fun c_101_8 => ?_) (fun c_101_8 => ?_)
                  · skip
                    refine lv_iload_n hx hb d_Md_hour_113 rfl (lv_at hl 3 rfl) ?_
                    refine lv_iconst (v := nI 1) hx hb d_Md_hour_114 (by decide) ?_
                    refine lv_icmp_ne (tgt := 127) hx hb d_Md_hour_115 (by decide) (fun c_115_9 => ?_) (fun c_115_9 => ?_)
                    · skip
                      refine lv_aload_n hx hb d_Md_hour_127 rfl (lv_at hl 1 rfl) ?_
                      refine b_get (T := F_Md) hm hw 0 rfl rfl (fun w h => uw_of w (u_Md w h)) 11 (by decide) (uw_of _ k_619) rfl d_Md_hour_128 ?_
                      refine lv_iload_n hx hb d_Md_hour_131 rfl (lv_at hl 2 rfl) ?_
                      refine b_iald (i := h) hm hw 3 0 rfl rfl (by omega) (by omega) d_Md_hour_132 ?_
                      refine b_ti (show (fun j => nI (NE j)) h = nI (NE h) from rfl) ?_
                      refine lv_istore (lv' := [(5, .int (nI (NE h))), (4, .int (nI 1)), (0, .ref md), (1, .int (nI h)), (2, .int (nI 2)), (3, .int (nI y))]) hx hb d_Md_hour_133  hl (by decide) rfl (fun ls hl => ?_)
                      refine lv_aload_n hx hb d_Md_hour_135 rfl (lv_at hl 2 rfl) ?_
                      refine b_get (T := F_Md) hm hw 0 rfl rfl (fun w h => uw_of w (u_Md w h)) 9 (by decide) (uw_of _ k_617) rfl d_Md_hour_136 ?_
                      refine lv_iload_n hx hb d_Md_hour_139 rfl (lv_at hl 3 rfl) ?_
                      refine lv_iload_n hx hb d_Md_hour_140 rfl (lv_at hl 4 rfl) ?_
                      refine lv_if_ne (tgt := 148) hx hb d_Md_hour_141 (by decide) (fun c_141_10 => ?_) (fun c_141_10 => ?_)
                      · skip
                        refine lv_aload_n hx hb d_Md_hour_148 rfl (lv_at hl 2 rfl) ?_
                        refine b_get (T := F_Md) hm hw 0 rfl rfl (fun w h => uw_of w (u_Md w h)) 9 (by decide) (uw_of _ k_617) rfl d_Md_hour_149 ?_
                        refine lv_iload_n hx hb d_Md_hour_152 rfl (lv_at hl 3 rfl) ?_
                        refine b_iald (i := h) hm hw 1 0 rfl rfl (by omega) (by omega) d_Md_hour_153 ?_
                        refine b_iast (i := h) hm hw 1 0 rfl rfl (by omega) (by omega) d_Md_hour_154 (w1 := [(md, .inr (7, mdL za 0 cn ov sn kn fd cst co tb)), (za 9, .inl (k 0, 36, .inl (upd OS h (OS h)))), (za 10, .inl (k 0, 36, .inl (fun j => nI (PR j)))), (za 11, .inl (k 0, 36, .inl (fun j => nI (NE j))))]) rfl (fun H locs hw => ?_)
                        refine lv_aload_n hx hb d_Md_hour_155 rfl (lv_at hl 2 rfl) ?_
                        refine b_get (T := F_Md) hm hw 0 rfl rfl (fun w h => uw_of w (u_Md w h)) 10 (by decide) (uw_of _ k_618) rfl d_Md_hour_156 ?_
                        refine lv_iload_n hx hb d_Md_hour_159 rfl (lv_at hl 3 rfl) ?_
                        refine lv_iload_n hx hb d_Md_hour_160 rfl (lv_at hl 4 rfl) ?_
                        refine lv_iconst (v := nI 1) hx hb d_Md_hour_161 (by decide) ?_
                        refine lv_icmp_ne (tgt := 169) hx hb d_Md_hour_162 (by decide) (fun c_162_11 => ?_) (fun c_162_11 => ?_)
                        · skip
                          refine lv_aload_n hx hb d_Md_hour_169 rfl (lv_at hl 2 rfl) ?_
                          refine b_get (T := F_Md) hm hw 0 rfl rfl (fun w h => uw_of w (u_Md w h)) 10 (by decide) (uw_of _ k_618) rfl d_Md_hour_170 ?_
                          refine lv_iload_n hx hb d_Md_hour_173 rfl (lv_at hl 3 rfl) ?_
                          refine b_iald (i := h) hm hw 2 0 rfl rfl (by omega) (by omega) d_Md_hour_174 ?_
                          refine b_ti (show (fun j => nI (PR j)) h = nI (PR h) from rfl) ?_
                          refine b_iast (i := h) hm hw 2 0 rfl rfl (by omega) (by omega) d_Md_hour_175 (w1 := [(md, .inr (7, mdL za 0 cn ov sn kn fd cst co tb)), (za 9, .inl (k 0, 36, .inl (upd OS h (OS h)))), (za 10, .inl (k 0, 36, .inl (fun j => nI ((va_up PR h (PR h)) j)))), (za 11, .inl (k 0, 36, .inl (fun j => nI (NE j))))]) (by rw [updN]; rfl) (fun H locs hw => ?_)
                          refine lv_aload_n hx hb d_Md_hour_176 rfl (lv_at hl 2 rfl) ?_
                          refine b_get (T := F_Md) hm hw 0 rfl rfl (fun w h => uw_of w (u_Md w h)) 11 (by decide) (uw_of _ k_619) rfl d_Md_hour_177 ?_
                          refine lv_iload_n hx hb d_Md_hour_180 rfl (lv_at hl 3 rfl) ?_
                          refine lv_iload_n hx hb d_Md_hour_181 rfl (lv_at hl 4 rfl) ?_
                          refine lv_iconst (v := nI 2) hx hb d_Md_hour_182 (by decide) ?_
                          refine lv_icmp_ne (tgt := 190) hx hb d_Md_hour_183 (by decide) (fun c_183_12 => ?_) (fun c_183_12 => ?_)
                          · skip
                            exact absurd c_183_12 (by decide)
                          · skip
                            refine lv_iload_n hx hb d_Md_hour_186 rfl (lv_at hl 5 rfl) ?_
                            refine lv_goto (tgt := 196) hx hb d_Md_hour_187 (by decide) ?_
                            refine b_iast (i := h) hm hw 3 0 rfl rfl (by omega) (by omega) d_Md_hour_196 (w1 := [(md, .inr (7, mdL za 0 cn ov sn kn fd cst co tb)), (za 9, .inl (k 0, 36, .inl (upd OS h (OS h)))), (za 10, .inl (k 0, 36, .inl (fun j => nI ((va_up PR h (PR h)) j)))), (za 11, .inl (k 0, 36, .inl (fun j => nI ((va_up NE h y) j))))]) (by rw [updN]; rfl) (fun H locs hw => ?_)
                            refine lv_aload_n hx hb d_Md_hour_197 rfl (lv_at hl 2 rfl) ?_
                            refine lv_iconst (v := nI 0) hx hb d_Md_hour_198 (by decide) ?_
                            refine b_put (T := F_Md) hm hw 0 rfl rfl (fun w h => uw_of w (u_Md w h)) t_Md t_Md_ok n_Md 28 (by decide) (uw_of _ k_636) rfl rfl rfl (Nat.le_of_ble_eq_true rfl) d_Md_hour_199 (w1 := [(md, .inr (7, mdL za 0 cn ov sn 0 fd cst co tb)), (za 9, .inl (k 0, 36, .inl (upd OS h (OS h)))), (za 10, .inl (k 0, 36, .inl (fun j => nI ((va_up PR h (PR h)) j)))), (za 11, .inl (k 0, 36, .inl (fun j => nI ((va_up NE h y) j))))]) rfl (fun H locs hw => ?_)
                            refine lv_iload hx hb d_Md_hour_202 (lv_at hl 0 rfl) ?_
                            exact b_iret (post := fun (r : Int32) (u : Unit) => r = nI (NE h)) (w' := fun u => [(md, .inr (7, mdL za 0 cn ov sn 0 fd cst co tb)), (za 9, .inl (k 0, 36, .inl OS)), (za 10, .inl (k 0, 36, .inl (fun j => nI (PR j)))), (za 11, .inl (k 0, 36, .inl (fun j => nI ((va_up NE h y) j))))]) () hm (by simp only [upd_same, va_same] at hw; exact hw) rfl d_Md_hour_204
                        · skip
                          exact absurd c_162_11 (by decide)
                      · skip
                        exact absurd c_141_10 (by decide)
                    · skip
                      exact absurd c_115_9 (by decide)
                  · skip
                    exact absurd c_101_8 (by decide)
                · skip
                  exact absurd c_95_7 (by decide)
              · skip
                have h_80_6 : h < ov := yltN c_80_6 (by omega) (by omega)
                exfalso; omega
            · skip
              exact absurd c_68_5 (by decide)
      · skip
        exact absurd c_29_2 (by decide)
    · skip
      exact absurd c_11_1 (by decide)

set_option maxHeartbeats 4000000 in
set_option maxRecDepth 100000 in
theorem c_Md_out_t1 (l : Launch) (D : va_G) (k : Nat → ClassId) (sz : Nat) (md : Nat) (za : Nat → Nat) (th cn ov sn kn fd : Nat) (cst : Int64) (co tb : Nat) (u0 h is : Int32) (hv9 : ¬ ((nI 0 ≤ u0 ∧ u0 < nI cn) ∧ (nI 0 ≤ h ∧ h ≤ nI 35))) : Met l y_Md_out (uw y_Md_out b_Md_out 5 (some .boolean)) (rU 1 0 0) (va_Pc [.ref md, .int u0, .int h, .int is] (bP (gU D k) [(md, .inr (7, mdL za th cn ov sn kn fd cst co tb))] sz)) (va_Qi (fun (r : Int32) (_ : Unit) => r = 0) (fun u => bQ (gU D k) (va_A [(md, .inr (7, mdL za th cn ov sn kn fd cst co tb))] sz) ([(md, .inr (7, mdL za 1 cn ov sn kn fd cst co tb))])) (va_A [(md, .inr (7, mdL za th cn ov sn kn fd cst co tb))] sz)) (rU 1 0 0).cells (rU 1 0 0).slots (va_A [(md, .inr (7, mdL za th cn ov sn kn fd cst co tb))] sz) := by
  refine b_start (y := y_Md_out) (maxL := 5) (ret := (some .boolean)) (cc := b_Md_out) (ws' := ut) (rm := rU 1 0 0) (av := [.ref md, .int u0, .int h, .int is]) (g := gU D k) (ws := [(md, .inr (7, mdL za th cn ov sn kn fd cst co tb))]) (sz := sz) (Qc := fun A => va_Qi (fun (r : Int32) (_ : Unit) => r = 0) (fun u => bQ (gU D k) A ([(md, .inr (7, mdL za 1 cn ov sn kn fd cst co tb))])) A) (by decide +kernel) (Nat.le_of_ble_eq_true rfl) ?_
  intro p e s m below meth c A hm hnm hw ls hl
  have hl : lv_has ls 5 [(0, .ref md), (1, .int u0), (2, .int h), (3, .int is)] := hl
  have hx := hm.1
  have hb := hm.2.1
  have hown := hm.2.2.2.2.1
  have hts := hm.2.2.2.2.2.1
  refine lv_aload_n hx hb d_Md_out_0 rfl (lv_at hl 0 rfl) ?_
  refine lv_aload_n hx hb d_Md_out_1 rfl (lv_at hl 0 rfl) ?_
  refine lv_iload_n hx hb d_Md_out_2 rfl (lv_at hl 1 rfl) ?_
  refine b_goi (wr := []) (b_runV (wc := [(md, .inr (7, mdL za th cn ov sn kn fd cst co tb))]) (As := [.int u0]) (rest := [.ref md]) (q0 := 0) hm hw (cwV 1 hts (gV uw_of k_742 k_739 k_741 (mp 13 rfl rfl) k_9) rfl rfl rfl (by decide +kernel) ⟨by decide, by decide⟩) (c_Md_isMachine l D k _ md za th cn ov sn kn fd cst co tb u0) [0] (by decide) rfl rfl rfl rfl hl.1 rfl (Nat.le_of_ble_eq_true rfl) d_Md_out_3 ⟨by decide, by decide⟩) hw [0] [] rfl rfl (by decide) (by decide) (fun r3 _ H locs hp3 hw => ?_)
  have hw : bW (gU D k) A s H locs [(md, .inr (7, mdL za th cn ov sn kn fd cst co tb))] := hw.sub [0] (by decide) rfl
  rcases hp3 with ⟨hr3, hp3⟩ | ⟨hr3, hp3⟩
  · skip
    refine b_ti (y := nI 1) hr3 ?_
    refine lv_if_eq (tgt := 19) hx hb d_Md_out_6 (by decide) (fun c_6_0 => ?_) (fun c_6_0 => ?_)
    · skip
      exact absurd c_6_0 (by decide)
    · skip
      refine lv_iload_n hx hb d_Md_out_9 rfl (lv_at hl 2 rfl) ?_
      refine lv_iconst (v := nI 0) hx hb d_Md_out_10 (by decide) ?_
      refine lv_bipush (v := nI 35) hx hb d_Md_out_11 (by decide) ?_
      refine b_goi (wr := [(md, .inr (7, mdL za th cn ov sn kn fd cst co tb))]) (b_runS (wc := []) (As := [.int h, .int (nI 0), .int (nI 35)]) (rest := [.ref md]) hm hw (va_cwS 3 hts (gS2 uw_of k_733 k_731 k_732 k_9) rfl rfl rfl (by decide +kernel) ⟨by decide, by decide⟩) (c_Md_in l D k _ h (nI 0) (nI 35)) [] (by decide) rfl rfl hl.1 rfl (Nat.le_of_ble_eq_true rfl) d_Md_out_13 ⟨by decide, by decide⟩) hw [] [0] rfl rfl (by decide) (by decide) (fun r13 _ H locs hp13 hw => ?_)
      have hw : bW (gU D k) A s H locs [(md, .inr (7, mdL za th cn ov sn kn fd cst co tb))] := hw.sub [0] (by decide) rfl
      rcases hp13 with ⟨hr13, hp13⟩ | ⟨hr13, hp13⟩
      · skip
        refine b_ti (y := nI 1) hr13 ?_
        refine lv_if_ne (tgt := 23) hx hb d_Md_out_16 (by decide) (fun c_16_1 => ?_) (fun c_16_1 => ?_)
        · skip
          exact absurd ⟨hp3, hp13⟩ hv9
        · skip
          exact absurd c_16_1 (by decide)
      · skip
        refine b_ti (y := nI 0) hr13 ?_
        refine lv_if_ne (tgt := 23) hx hb d_Md_out_16 (by decide) (fun c_16_2 => ?_) (fun c_16_2 => ?_)
        · skip
          exact absurd c_16_2 (by decide)
        · skip
          refine lv_iconst (v := nI 1) hx hb d_Md_out_19 (by decide) ?_
          refine lv_goto (tgt := 36) hx hb d_Md_out_20 (by decide) ?_
          refine b_put (T := F_Md) hm hw 0 rfl rfl (fun w h => uw_of w (u_Md w h)) t_Md t_Md_ok n_Md 0 (by decide) (uw_of _ k_608) rfl rfl rfl (Nat.le_of_ble_eq_true rfl) d_Md_out_36 (w1 := [(md, .inr (7, mdL za 1 cn ov sn kn fd cst co tb))]) rfl (fun H locs hw => ?_)
          refine lv_aload_n hx hb d_Md_out_39 rfl (lv_at hl 0 rfl) ?_
          refine b_get (T := F_Md) hm hw 0 rfl rfl (fun w h => uw_of w (u_Md w h)) 0 (by decide) (uw_of _ k_608) rfl d_Md_out_40 ?_
          refine lv_if_le (tgt := 48) hx hb d_Md_out_43 (by decide) (fun c_43_3 => ?_) (fun c_43_3 => ?_)
          · skip
            exact absurd c_43_3 (by decide)
          · skip
            refine lv_iconst (v := nI 0) hx hb d_Md_out_46 (by decide) ?_
            exact b_zret (post := fun (r : Int32) (_ : Unit) => r = 0) (w' := fun u => [(md, .inr (7, mdL za 1 cn ov sn kn fd cst co tb))]) () hm hw (Or.inl rfl) (rfl) d_Md_out_47
  · skip
    refine b_ti (y := nI 0) hr3 ?_
    refine lv_if_eq (tgt := 19) hx hb d_Md_out_6 (by decide) (fun c_6_4 => ?_) (fun c_6_4 => ?_)
    · skip
      refine lv_iconst (v := nI 1) hx hb d_Md_out_19 (by decide) ?_
      refine lv_goto (tgt := 36) hx hb d_Md_out_20 (by decide) ?_
      refine b_put (T := F_Md) hm hw 0 rfl rfl (fun w h => uw_of w (u_Md w h)) t_Md t_Md_ok n_Md 0 (by decide) (uw_of _ k_608) rfl rfl rfl (Nat.le_of_ble_eq_true rfl) d_Md_out_36 (w1 := [(md, .inr (7, mdL za 1 cn ov sn kn fd cst co tb))]) rfl (fun H locs hw => ?_)
      refine lv_aload_n hx hb d_Md_out_39 rfl (lv_at hl 0 rfl) ?_
      refine b_get (T := F_Md) hm hw 0 rfl rfl (fun w h => uw_of w (u_Md w h)) 0 (by decide) (uw_of _ k_608) rfl d_Md_out_40 ?_
      refine lv_if_le (tgt := 48) hx hb d_Md_out_43 (by decide) (fun c_43_5 => ?_) (fun c_43_5 => ?_)
      · skip
        exact absurd c_43_5 (by decide)
      · skip
        refine lv_iconst (v := nI 0) hx hb d_Md_out_46 (by decide) ?_
        exact b_zret (post := fun (r : Int32) (_ : Unit) => r = 0) (w' := fun u => [(md, .inr (7, mdL za 1 cn ov sn kn fd cst co tb))]) () hm hw (Or.inl rfl) (rfl) d_Md_out_47
    · skip
      exact absurd c_6_4 (by decide)

set_option maxHeartbeats 4000000 in
set_option maxRecDepth 100000 in
theorem c_Md_out_t2 (l : Launch) (D : va_G) (k : Nat → ClassId) (sz : Nat) (md : Nat) (za : Nat → Nat) (th cn ov sn kn fd : Nat) (cst : Int64) (co tb : Nat) (kk h : Nat) (is : Int32) (hc : cn ≤ 3) (hk : kk < cn) (hh : h < 36) (hov : h < ov) (ho36 : ov ≤ 36) : Met l y_Md_out (uw y_Md_out b_Md_out 5 (some .boolean)) (rU 1 0 0) (va_Pc [.ref md, .int (nI kk), .int (nI h), .int is] (bP (gU D k) [(md, .inr (7, mdL za th cn ov sn kn fd cst co tb))] sz)) (va_Qi (fun (r : Int32) (_ : Unit) => r = 0) (fun u => bQ (gU D k) (va_A [(md, .inr (7, mdL za th cn ov sn kn fd cst co tb))] sz) ([(md, .inr (7, mdL za 2 cn ov sn kn fd cst co tb))])) (va_A [(md, .inr (7, mdL za th cn ov sn kn fd cst co tb))] sz)) (rU 1 0 0).cells (rU 1 0 0).slots (va_A [(md, .inr (7, mdL za th cn ov sn kn fd cst co tb))] sz) := by
  refine b_start (y := y_Md_out) (maxL := 5) (ret := (some .boolean)) (cc := b_Md_out) (ws' := ut) (rm := rU 1 0 0) (av := [.ref md, .int (nI kk), .int (nI h), .int is]) (g := gU D k) (ws := [(md, .inr (7, mdL za th cn ov sn kn fd cst co tb))]) (sz := sz) (Qc := fun A => va_Qi (fun (r : Int32) (_ : Unit) => r = 0) (fun u => bQ (gU D k) A ([(md, .inr (7, mdL za 2 cn ov sn kn fd cst co tb))])) A) (by decide +kernel) (Nat.le_of_ble_eq_true rfl) ?_
  intro p e s m below meth c A hm hnm hw ls hl
  have hl : lv_has ls 5 [(0, .ref md), (1, .int (nI kk)), (2, .int (nI h)), (3, .int is)] := hl
  have hx := hm.1
  have hb := hm.2.1
  have hown := hm.2.2.2.2.1
  have hts := hm.2.2.2.2.2.1
  refine lv_aload_n hx hb d_Md_out_0 rfl (lv_at hl 0 rfl) ?_
  refine lv_aload_n hx hb d_Md_out_1 rfl (lv_at hl 0 rfl) ?_
  refine lv_iload_n hx hb d_Md_out_2 rfl (lv_at hl 1 rfl) ?_
  refine b_goi (wr := []) (b_runV (wc := [(md, .inr (7, mdL za th cn ov sn kn fd cst co tb))]) (As := [.int (nI kk)]) (rest := [.ref md]) (q0 := 0) hm hw (cwV 1 hts (gV uw_of k_742 k_739 k_741 (mp 13 rfl rfl) k_9) rfl rfl rfl (by decide +kernel) ⟨by decide, by decide⟩) (c_Md_isMachine l D k _ md za th cn ov sn kn fd cst co tb (nI kk)) [0] (by decide) rfl rfl rfl rfl hl.1 rfl (Nat.le_of_ble_eq_true rfl) d_Md_out_3 ⟨by decide, by decide⟩) hw [0] [] rfl rfl (by decide) (by decide) (fun r3 _ H locs hp3 hw => ?_)
  have hw : bW (gU D k) A s H locs [(md, .inr (7, mdL za th cn ov sn kn fd cst co tb))] := hw.sub [0] (by decide) rfl
  have hr3 : r3 = 1 := by rcases hp3 with ⟨q, _⟩ | ⟨_, q⟩; exact q; exact absurd (im_n (by omega) (by omega)) q
  refine b_ti (y := nI 1) hr3 ?_
  refine lv_if_eq (tgt := 19) hx hb d_Md_out_6 (by decide) (fun c_6_0 => ?_) (fun c_6_0 => ?_)
  · skip
    exact absurd c_6_0 (by decide)
  · skip
    refine lv_iload_n hx hb d_Md_out_9 rfl (lv_at hl 2 rfl) ?_
    refine lv_iconst (v := nI 0) hx hb d_Md_out_10 (by decide) ?_
    refine lv_bipush (v := nI 35) hx hb d_Md_out_11 (by decide) ?_
    refine b_goi (wr := [(md, .inr (7, mdL za th cn ov sn kn fd cst co tb))]) (b_runS (wc := []) (As := [.int (nI h), .int (nI 0), .int (nI 35)]) (rest := [.ref md]) hm hw (va_cwS 3 hts (gS2 uw_of k_733 k_731 k_732 k_9) rfl rfl rfl (by decide +kernel) ⟨by decide, by decide⟩) (c_Md_in l D k _ (nI h) (nI 0) (nI 35)) [] (by decide) rfl rfl hl.1 rfl (Nat.le_of_ble_eq_true rfl) d_Md_out_13 ⟨by decide, by decide⟩) hw [] [0] rfl rfl (by decide) (by decide) (fun r13 _ H locs hp13 hw => ?_)
    have hw : bW (gU D k) A s H locs [(md, .inr (7, mdL za th cn ov sn kn fd cst co tb))] := hw.sub [0] (by decide) rfl
    have hr13 : r13 = 1 := by rcases hp13 with ⟨q, _⟩ | ⟨_, q⟩; exact q; exact absurd (in_n (by omega) (by omega) (by omega)) q
    refine b_ti (y := nI 1) hr13 ?_
    refine lv_if_ne (tgt := 23) hx hb d_Md_out_16 (by decide) (fun c_16_1 => ?_) (fun c_16_1 => ?_)
    · skip
      refine lv_iload_n hx hb d_Md_out_23 rfl (lv_at hl 2 rfl) ?_
      refine lv_aload_n hx hb d_Md_out_24 rfl (lv_at hl 0 rfl) ?_
      refine b_get (T := F_Md) hm hw 0 rfl rfl (fun w h => uw_of w (u_Md w h)) 13 (by decide) (uw_of _ k_621) rfl d_Md_out_25 ?_
      refine lv_icmp_ge (tgt := 35) hx hb d_Md_out_28 (by decide) (fun c_28_2 => ?_) (fun c_28_2 => ?_)
      · skip
        have h_28_2 : ov ≤ h := yge c_28_2 (by omega) (by omega)
        exfalso; omega
      · skip
        have h_28_2 : h < ov := yltN c_28_2 (by omega) (by omega)
        refine lv_iconst (v := nI 2) hx hb d_Md_out_31 (by decide) ?_
        refine lv_goto (tgt := 36) hx hb d_Md_out_32 (by decide) ?_
        refine b_put (T := F_Md) hm hw 0 rfl rfl (fun w h => uw_of w (u_Md w h)) t_Md t_Md_ok n_Md 0 (by decide) (uw_of _ k_608) rfl rfl rfl (Nat.le_of_ble_eq_true rfl) d_Md_out_36 (w1 := [(md, .inr (7, mdL za 2 cn ov sn kn fd cst co tb))]) rfl (fun H locs hw => ?_)
        refine lv_aload_n hx hb d_Md_out_39 rfl (lv_at hl 0 rfl) ?_
        refine b_get (T := F_Md) hm hw 0 rfl rfl (fun w h => uw_of w (u_Md w h)) 0 (by decide) (uw_of _ k_608) rfl d_Md_out_40 ?_
        refine lv_if_le (tgt := 48) hx hb d_Md_out_43 (by decide) (fun c_43_3 => ?_) (fun c_43_3 => ?_)
        · skip
          exact absurd c_43_3 (by decide)
        · skip
          refine lv_iconst (v := nI 0) hx hb d_Md_out_46 (by decide) ?_
          exact b_zret (post := fun (r : Int32) (_ : Unit) => r = 0) (w' := fun u => [(md, .inr (7, mdL za 2 cn ov sn kn fd cst co tb))]) () hm hw (Or.inl rfl) (rfl) d_Md_out_47
    · skip
      exact absurd c_16_1 (by decide)

set_option maxHeartbeats 4000000 in
set_option maxRecDepth 100000 in
theorem c_Md_out (l : Launch) (D : va_G) (k : Nat → ClassId) (sz : Nat) (md : Nat) (za : Nat → Nat) (th cn ov sn kn fd : Nat) (cst : Int64) (co tb : Nat) (IO : Nat → Int32) (kk h : Nat) (is : Int32) (hc : cn ≤ 3) (hk : kk < cn) (hh : h < 36) (hov : ov ≤ h) (his : is = 0 ∨ is = 1) (bIO : ∀ j, IO j = 0 ∨ IO j = 1) : Met l y_Md_out (uw y_Md_out b_Md_out 5 (some .boolean)) (rU 1 0 0) (va_Pc [.ref md, .int (nI kk), .int (nI h), .int is] (bP (gU D k) [(md, .inr (7, mdL za th cn ov sn kn fd cst co tb)), (za 12, .inl (k 2, 108, .inl IO))] sz)) (va_Qi (fun (r : Int32) (u : Unit) => r = IO (36 * kk + h)) (fun u => bQ (gU D k) (va_A [(md, .inr (7, mdL za th cn ov sn kn fd cst co tb)), (za 12, .inl (k 2, 108, .inl IO))] sz) ([(md, .inr (7, mdL za 0 cn ov sn 0 fd cst co tb)), (za 12, .inl (k 2, 108, .inl (upd IO (36 * kk + h) is)))])) (va_A [(md, .inr (7, mdL za th cn ov sn kn fd cst co tb)), (za 12, .inl (k 2, 108, .inl IO))] sz)) (rU 1 0 0).cells (rU 1 0 0).slots (va_A [(md, .inr (7, mdL za th cn ov sn kn fd cst co tb)), (za 12, .inl (k 2, 108, .inl IO))] sz) := by
  refine b_start (y := y_Md_out) (maxL := 5) (ret := (some .boolean)) (cc := b_Md_out) (ws' := ut) (rm := rU 1 0 0) (av := [.ref md, .int (nI kk), .int (nI h), .int is]) (g := gU D k) (ws := [(md, .inr (7, mdL za th cn ov sn kn fd cst co tb)), (za 12, .inl (k 2, 108, .inl IO))]) (sz := sz) (Qc := fun A => va_Qi (fun (r : Int32) (u : Unit) => r = IO (36 * kk + h)) (fun u => bQ (gU D k) A ([(md, .inr (7, mdL za 0 cn ov sn 0 fd cst co tb)), (za 12, .inl (k 2, 108, .inl (upd IO (36 * kk + h) is)))])) A) (by decide +kernel) (Nat.le_of_ble_eq_true rfl) ?_
  intro p e s m below meth c A hm hnm hw ls hl
  have hl : lv_has ls 5 [(0, .ref md), (1, .int (nI kk)), (2, .int (nI h)), (3, .int is)] := hl
  have hx := hm.1
  have hb := hm.2.1
  have hown := hm.2.2.2.2.1
  have hts := hm.2.2.2.2.2.1
  refine lv_aload_n hx hb d_Md_out_0 rfl (lv_at hl 0 rfl) ?_
  refine lv_aload_n hx hb d_Md_out_1 rfl (lv_at hl 0 rfl) ?_
  refine lv_iload_n hx hb d_Md_out_2 rfl (lv_at hl 1 rfl) ?_
  refine b_goi (wr := [(za 12, .inl (k 2, 108, .inl IO))]) (b_runV (wc := [(md, .inr (7, mdL za th cn ov sn kn fd cst co tb))]) (As := [.int (nI kk)]) (rest := [.ref md]) (q0 := 0) hm hw (cwV 1 hts (gV uw_of k_742 k_739 k_741 (mp 13 rfl rfl) k_9) rfl rfl rfl (by decide +kernel) ⟨by decide, by decide⟩) (c_Md_isMachine l D k _ md za th cn ov sn kn fd cst co tb (nI kk)) [0] (by decide) rfl rfl rfl rfl hl.1 rfl (Nat.le_of_ble_eq_true rfl) d_Md_out_3 ⟨by decide, by decide⟩) hw [0] [1] rfl rfl (by decide) (by decide) (fun r3 _ H locs hp3 hw => ?_)
  have hw : bW (gU D k) A s H locs [(md, .inr (7, mdL za th cn ov sn kn fd cst co tb)), (za 12, .inl (k 2, 108, .inl IO))] := hw.sub [1, 0] (by decide) rfl
  have hr3 : r3 = 1 := by rcases hp3 with ⟨q, _⟩ | ⟨_, q⟩; exact q; exact absurd (im_n (by omega) (by omega)) q
  refine b_ti (y := nI 1) hr3 ?_
  refine lv_if_eq (tgt := 19) hx hb d_Md_out_6 (by decide) (fun c_6_0 => ?_) (fun c_6_0 => ?_)
  · skip
    exact absurd c_6_0 (by decide)
  · skip
    refine lv_iload_n hx hb d_Md_out_9 rfl (lv_at hl 2 rfl) ?_
    refine lv_iconst (v := nI 0) hx hb d_Md_out_10 (by decide) ?_
    refine lv_bipush (v := nI 35) hx hb d_Md_out_11 (by decide) ?_
    refine b_goi (wr := [(md, .inr (7, mdL za th cn ov sn kn fd cst co tb)), (za 12, .inl (k 2, 108, .inl IO))]) (b_runS (wc := []) (As := [.int (nI h), .int (nI 0), .int (nI 35)]) (rest := [.ref md]) hm hw (va_cwS 3 hts (gS2 uw_of k_733 k_731 k_732 k_9) rfl rfl rfl (by decide +kernel) ⟨by decide, by decide⟩) (c_Md_in l D k _ (nI h) (nI 0) (nI 35)) [] (by decide) rfl rfl hl.1 rfl (Nat.le_of_ble_eq_true rfl) d_Md_out_13 ⟨by decide, by decide⟩) hw [] [0, 1] rfl rfl (by decide) (by decide) (fun r13 _ H locs hp13 hw => ?_)
    have hw : bW (gU D k) A s H locs [(md, .inr (7, mdL za th cn ov sn kn fd cst co tb)), (za 12, .inl (k 2, 108, .inl IO))] := hw.sub [0, 1] (by decide) rfl
    have hr13 : r13 = 1 := by rcases hp13 with ⟨q, _⟩ | ⟨_, q⟩; exact q; exact absurd (in_n (by omega) (by omega) (by omega)) q
    refine b_ti (y := nI 1) hr13 ?_
    refine lv_if_ne (tgt := 23) hx hb d_Md_out_16 (by decide) (fun c_16_1 => ?_) (fun c_16_1 => ?_)
    · skip
      refine lv_iload_n hx hb d_Md_out_23 rfl (lv_at hl 2 rfl) ?_
      refine lv_aload_n hx hb d_Md_out_24 rfl (lv_at hl 0 rfl) ?_
      refine b_get (T := F_Md) hm hw 0 rfl rfl (fun w h => uw_of w (u_Md w h)) 13 (by decide) (uw_of _ k_621) rfl d_Md_out_25 ?_
      refine lv_icmp_ge (tgt := 35) hx hb d_Md_out_28 (by decide) (fun c_28_2 => ?_) (fun c_28_2 => ?_)
      · skip
        have h_28_2 : ov ≤ h := yge c_28_2 (by omega) (by omega)
        refine lv_iconst (v := nI 0) hx hb d_Md_out_35 (by decide) ?_
        refine b_put (T := F_Md) hm hw 0 rfl rfl (fun w h => uw_of w (u_Md w h)) t_Md t_Md_ok n_Md 0 (by decide) (uw_of _ k_608) rfl rfl rfl (Nat.le_of_ble_eq_true rfl) d_Md_out_36 (w1 := [(md, .inr (7, mdL za 0 cn ov sn kn fd cst co tb)), (za 12, .inl (k 2, 108, .inl IO))]) rfl (fun H locs hw => ?_)
        refine lv_aload_n hx hb d_Md_out_39 rfl (lv_at hl 0 rfl) ?_
        refine b_get (T := F_Md) hm hw 0 rfl rfl (fun w h => uw_of w (u_Md w h)) 0 (by decide) (uw_of _ k_608) rfl d_Md_out_40 ?_
        refine lv_if_le (tgt := 48) hx hb d_Md_out_43 (by decide) (fun c_43_3 => ?_) (fun c_43_3 => ?_)
        · skip
          refine lv_aload_n hx hb d_Md_out_48 rfl (lv_at hl 0 rfl) ?_
          refine b_get (T := F_Md) hm hw 0 rfl rfl (fun w h => uw_of w (u_Md w h)) 12 (by decide) (uw_of _ k_620) rfl d_Md_out_49 ?_
          refine lv_bipush (v := nI 36) hx hb d_Md_out_52 (by decide) ?_
          refine lv_iload_n hx hb d_Md_out_54 rfl (lv_at hl 1 rfl) ?_
          refine lv_imul hx hb d_Md_out_55 ?_
          refine b_ti (pk_mul 36 kk) ?_
          refine lv_iload_n hx hb d_Md_out_56 rfl (lv_at hl 2 rfl) ?_
          refine lv_iadd hx hb d_Md_out_57 ?_
          refine b_ti (nI_add (36 * kk) h) ?_
          refine b_zald (i := 36 * kk + h) hm hw 1 2 rfl rfl (by omega) (by omega) d_Md_out_58 ?_
          refine lv_istore (lv' := [(4, .int (IO (36 * kk + h))), (0, .ref md), (1, .int (nI kk)), (2, .int (nI h)), (3, .int is)]) hx hb d_Md_out_59  hl (by decide) rfl (fun ls hl => ?_)
          refine lv_aload_n hx hb d_Md_out_61 rfl (lv_at hl 1 rfl) ?_
          refine b_get (T := F_Md) hm hw 0 rfl rfl (fun w h => uw_of w (u_Md w h)) 12 (by decide) (uw_of _ k_620) rfl d_Md_out_62 ?_
          refine lv_bipush (v := nI 36) hx hb d_Md_out_65 (by decide) ?_
          refine lv_iload_n hx hb d_Md_out_67 rfl (lv_at hl 2 rfl) ?_
          refine lv_imul hx hb d_Md_out_68 ?_
          refine b_ti (pk_mul 36 kk) ?_
          refine lv_iload_n hx hb d_Md_out_69 rfl (lv_at hl 3 rfl) ?_
          refine lv_iadd hx hb d_Md_out_70 ?_
          refine b_ti (nI_add (36 * kk) h) ?_
          refine lv_iload_n hx hb d_Md_out_71 rfl (lv_at hl 4 rfl) ?_
          refine b_zast (i := 36 * kk + h) hm hw 1 2 rfl rfl (nar01 (by first | assumption | decide)) (by omega) (by omega) d_Md_out_72 (w1 := [(md, .inr (7, mdL za 0 cn ov sn kn fd cst co tb)), (za 12, .inl (k 2, 108, .inl (upd IO (36 * kk + h) is)))]) rfl (fun H locs hw => ?_)
          refine lv_aload_n hx hb d_Md_out_73 rfl (lv_at hl 1 rfl) ?_
          refine lv_iconst (v := nI 0) hx hb d_Md_out_74 (by decide) ?_
          refine b_put (T := F_Md) hm hw 0 rfl rfl (fun w h => uw_of w (u_Md w h)) t_Md t_Md_ok n_Md 28 (by decide) (uw_of _ k_636) rfl rfl rfl (Nat.le_of_ble_eq_true rfl) d_Md_out_75 (w1 := [(md, .inr (7, mdL za 0 cn ov sn 0 fd cst co tb)), (za 12, .inl (k 2, 108, .inl (upd IO (36 * kk + h) is)))]) rfl (fun H locs hw => ?_)
          refine lv_iload hx hb d_Md_out_78 (lv_at hl 0 rfl) ?_
          exact b_zret (post := fun (r : Int32) (u : Unit) => r = IO (36 * kk + h)) (w' := fun u => [(md, .inr (7, mdL za 0 cn ov sn 0 fd cst co tb)), (za 12, .inl (k 2, 108, .inl (upd IO (36 * kk + h) is)))]) () hm hw (bIO _) (rfl) d_Md_out_80
        · skip
          exact absurd c_43_3 (by decide)
      · skip
        have h_28_2 : h < ov := yltN c_28_2 (by omega) (by omega)
        exfalso; omega
    · skip
      exact absurd c_16_1 (by decide)

set_option maxHeartbeats 4000000 in
set_option maxRecDepth 100000 in
theorem c_Md_gives_t1 (l : Launch) (D : va_G) (k : Nat → ClassId) (sz : Nat) (md : Nat) (za : Nat → Nat) (th cn ov sn kn fd : Nat) (cst : Int64) (co tb : Nat) (u0 v w : Int32) (hv9 : ¬ ((nI 0 ≤ u0 ∧ u0 < nI cn) ∧ ((-5000) ≤ v ∧ v ≤ nI 5000) ∧ (nI 0 ≤ w ∧ w ≤ nI 1))) : Met l y_Md_gives (uw y_Md_gives b_Md_gives 4 (some .int)) (rU 1 0 0) (va_Pc [.ref md, .int u0, .int v, .int w] (bP (gU D k) [(md, .inr (7, mdL za th cn ov sn kn fd cst co tb))] sz)) (va_Qi (fun (r : Int32) (_ : Unit) => r = 0) (fun u => bQ (gU D k) (va_A [(md, .inr (7, mdL za th cn ov sn kn fd cst co tb))] sz) ([(md, .inr (7, mdL za 1 cn ov sn kn fd cst co tb))])) (va_A [(md, .inr (7, mdL za th cn ov sn kn fd cst co tb))] sz)) (rU 1 0 0).cells (rU 1 0 0).slots (va_A [(md, .inr (7, mdL za th cn ov sn kn fd cst co tb))] sz) := by
  refine b_start (y := y_Md_gives) (maxL := 4) (ret := (some .int)) (cc := b_Md_gives) (ws' := ut) (rm := rU 1 0 0) (av := [.ref md, .int u0, .int v, .int w]) (g := gU D k) (ws := [(md, .inr (7, mdL za th cn ov sn kn fd cst co tb))]) (sz := sz) (Qc := fun A => va_Qi (fun (r : Int32) (_ : Unit) => r = 0) (fun u => bQ (gU D k) A ([(md, .inr (7, mdL za 1 cn ov sn kn fd cst co tb))])) A) (by decide +kernel) (Nat.le_of_ble_eq_true rfl) ?_
  intro p e s m below meth c A hm hnm hw ls hl
  have hl : lv_has ls 4 [(0, .ref md), (1, .int u0), (2, .int v), (3, .int w)] := hl
  have hx := hm.1
  have hb := hm.2.1
  have hown := hm.2.2.2.2.1
  have hts := hm.2.2.2.2.2.1
  refine lv_aload_n hx hb d_Md_gives_0 rfl (lv_at hl 0 rfl) ?_
  refine lv_aload_n hx hb d_Md_gives_1 rfl (lv_at hl 0 rfl) ?_
  refine lv_iload_n hx hb d_Md_gives_2 rfl (lv_at hl 1 rfl) ?_
  refine b_goi (wr := []) (b_runV (wc := [(md, .inr (7, mdL za th cn ov sn kn fd cst co tb))]) (As := [.int u0]) (rest := [.ref md]) (q0 := 0) hm hw (cwV 1 hts (gV uw_of k_742 k_739 k_741 (mp 13 rfl rfl) k_9) rfl rfl rfl (by decide +kernel) ⟨by decide, by decide⟩) (c_Md_isMachine l D k _ md za th cn ov sn kn fd cst co tb u0) [0] (by decide) rfl rfl rfl rfl hl.1 rfl (Nat.le_of_ble_eq_true rfl) d_Md_gives_3 ⟨by decide, by decide⟩) hw [0] [] rfl rfl (by decide) (by decide) (fun r3 _ H locs hp3 hw => ?_)
  have hw : bW (gU D k) A s H locs [(md, .inr (7, mdL za th cn ov sn kn fd cst co tb))] := hw.sub [0] (by decide) rfl
  rcases hp3 with ⟨hr3, hp3⟩ | ⟨hr3, hp3⟩
  · skip
    refine b_ti (y := nI 1) hr3 ?_
    refine lv_if_eq (tgt := 35) hx hb d_Md_gives_6 (by decide) (fun c_6_0 => ?_) (fun c_6_0 => ?_)
    · skip
      exact absurd c_6_0 (by decide)
    · skip
      refine lv_iload_n hx hb d_Md_gives_9 rfl (lv_at hl 2 rfl) ?_
      refine lv_sipush (v := (-5000)) hx hb d_Md_gives_10 (by decide) ?_
      refine lv_sipush (v := nI 5000) hx hb d_Md_gives_13 (by decide) ?_
      refine b_goi (wr := [(md, .inr (7, mdL za th cn ov sn kn fd cst co tb))]) (b_runS (wc := []) (As := [.int v, .int (-5000), .int (nI 5000)]) (rest := [.ref md]) hm hw (va_cwS 3 hts (gS2 uw_of k_733 k_731 k_732 k_9) rfl rfl rfl (by decide +kernel) ⟨by decide, by decide⟩) (c_Md_in l D k _ v (-5000) (nI 5000)) [] (by decide) rfl rfl hl.1 rfl (Nat.le_of_ble_eq_true rfl) d_Md_gives_16 ⟨by decide, by decide⟩) hw [] [0] rfl rfl (by decide) (by decide) (fun r16 _ H locs hp16 hw => ?_)
      have hw : bW (gU D k) A s H locs [(md, .inr (7, mdL za th cn ov sn kn fd cst co tb))] := hw.sub [0] (by decide) rfl
      rcases hp16 with ⟨hr16, hp16⟩ | ⟨hr16, hp16⟩
      · skip
        refine b_ti (y := nI 1) hr16 ?_
        refine lv_if_eq (tgt := 35) hx hb d_Md_gives_19 (by decide) (fun c_19_1 => ?_) (fun c_19_1 => ?_)
        · skip
          exact absurd c_19_1 (by decide)
        · skip
          refine lv_iload_n hx hb d_Md_gives_22 rfl (lv_at hl 3 rfl) ?_
          refine lv_iconst (v := nI 0) hx hb d_Md_gives_23 (by decide) ?_
          refine lv_iconst (v := nI 1) hx hb d_Md_gives_24 (by decide) ?_
          refine b_goi (wr := [(md, .inr (7, mdL za th cn ov sn kn fd cst co tb))]) (b_runS (wc := []) (As := [.int w, .int (nI 0), .int (nI 1)]) (rest := [.ref md]) hm hw (va_cwS 3 hts (gS2 uw_of k_733 k_731 k_732 k_9) rfl rfl rfl (by decide +kernel) ⟨by decide, by decide⟩) (c_Md_in l D k _ w (nI 0) (nI 1)) [] (by decide) rfl rfl hl.1 rfl (Nat.le_of_ble_eq_true rfl) d_Md_gives_25 ⟨by decide, by decide⟩) hw [] [0] rfl rfl (by decide) (by decide) (fun r25 _ H locs hp25 hw => ?_)
          have hw : bW (gU D k) A s H locs [(md, .inr (7, mdL za th cn ov sn kn fd cst co tb))] := hw.sub [0] (by decide) rfl
          rcases hp25 with ⟨hr25, hp25⟩ | ⟨hr25, hp25⟩
          · skip
            refine b_ti (y := nI 1) hr25 ?_
            refine lv_if_eq (tgt := 35) hx hb d_Md_gives_28 (by decide) (fun c_28_2 => ?_) (fun c_28_2 => ?_)
            · skip
              exact absurd c_28_2 (by decide)
            · skip
              exact absurd ⟨hp3, hp16, hp25⟩ hv9
          · skip
            refine b_ti (y := nI 0) hr25 ?_
            refine lv_if_eq (tgt := 35) hx hb d_Md_gives_28 (by decide) (fun c_28_3 => ?_) (fun c_28_3 => ?_)
            · skip
              refine lv_iconst (v := nI 1) hx hb d_Md_gives_35 (by decide) ?_
              refine b_put (T := F_Md) hm hw 0 rfl rfl (fun w h => uw_of w (u_Md w h)) t_Md t_Md_ok n_Md 0 (by decide) (uw_of _ k_608) rfl rfl rfl (Nat.le_of_ble_eq_true rfl) d_Md_gives_36 (w1 := [(md, .inr (7, mdL za 1 cn ov sn kn fd cst co tb))]) rfl (fun H locs hw => ?_)
              refine lv_aload_n hx hb d_Md_gives_39 rfl (lv_at hl 0 rfl) ?_
              refine b_get (T := F_Md) hm hw 0 rfl rfl (fun w h => uw_of w (u_Md w h)) 0 (by decide) (uw_of _ k_608) rfl d_Md_gives_40 ?_
              refine lv_if_le (tgt := 50) hx hb d_Md_gives_43 (by decide) (fun c_43_4 => ?_) (fun c_43_4 => ?_)
              · skip
                exact absurd c_43_4 (by decide)
              · skip
                refine lv_iconst (v := nI 0) hx hb d_Md_gives_46 (by decide) ?_
                refine lv_goto (tgt := 66) hx hb d_Md_gives_47 (by decide) ?_
                exact b_iret (post := fun (r : Int32) (_ : Unit) => r = 0) (w' := fun u => [(md, .inr (7, mdL za 1 cn ov sn kn fd cst co tb))]) () hm hw (rfl) d_Md_gives_66
            · skip
              exact absurd c_28_3 (by decide)
      · skip
        refine b_ti (y := nI 0) hr16 ?_
        refine lv_if_eq (tgt := 35) hx hb d_Md_gives_19 (by decide) (fun c_19_5 => ?_) (fun c_19_5 => ?_)
        · skip
          refine lv_iconst (v := nI 1) hx hb d_Md_gives_35 (by decide) ?_
          refine b_put (T := F_Md) hm hw 0 rfl rfl (fun w h => uw_of w (u_Md w h)) t_Md t_Md_ok n_Md 0 (by decide) (uw_of _ k_608) rfl rfl rfl (Nat.le_of_ble_eq_true rfl) d_Md_gives_36 (w1 := [(md, .inr (7, mdL za 1 cn ov sn kn fd cst co tb))]) rfl (fun H locs hw => ?_)
          refine lv_aload_n hx hb d_Md_gives_39 rfl (lv_at hl 0 rfl) ?_
          refine b_get (T := F_Md) hm hw 0 rfl rfl (fun w h => uw_of w (u_Md w h)) 0 (by decide) (uw_of _ k_608) rfl d_Md_gives_40 ?_
          refine lv_if_le (tgt := 50) hx hb d_Md_gives_43 (by decide) (fun c_43_6 => ?_) (fun c_43_6 => ?_)
          · skip
            exact absurd c_43_6 (by decide)
          · skip
            refine lv_iconst (v := nI 0) hx hb d_Md_gives_46 (by decide) ?_
            refine lv_goto (tgt := 66) hx hb d_Md_gives_47 (by decide) ?_
            exact b_iret (post := fun (r : Int32) (_ : Unit) => r = 0) (w' := fun u => [(md, .inr (7, mdL za 1 cn ov sn kn fd cst co tb))]) () hm hw (rfl) d_Md_gives_66
        · skip
          exact absurd c_19_5 (by decide)
  · skip
    refine b_ti (y := nI 0) hr3 ?_
    refine lv_if_eq (tgt := 35) hx hb d_Md_gives_6 (by decide) (fun c_6_7 => ?_) (fun c_6_7 => ?_)
    · skip
      refine lv_iconst (v := nI 1) hx hb d_Md_gives_35 (by decide) ?_
      refine b_put (T := F_Md) hm hw 0 rfl rfl (fun w h => uw_of w (u_Md w h)) t_Md t_Md_ok n_Md 0 (by decide) (uw_of _ k_608) rfl rfl rfl (Nat.le_of_ble_eq_true rfl) d_Md_gives_36 (w1 := [(md, .inr (7, mdL za 1 cn ov sn kn fd cst co tb))]) rfl (fun H locs hw => ?_)
      refine lv_aload_n hx hb d_Md_gives_39 rfl (lv_at hl 0 rfl) ?_
      refine b_get (T := F_Md) hm hw 0 rfl rfl (fun w h => uw_of w (u_Md w h)) 0 (by decide) (uw_of _ k_608) rfl d_Md_gives_40 ?_
      refine lv_if_le (tgt := 50) hx hb d_Md_gives_43 (by decide) (fun c_43_8 => ?_) (fun c_43_8 => ?_)
      · skip
        exact absurd c_43_8 (by decide)
      · skip
        refine lv_iconst (v := nI 0) hx hb d_Md_gives_46 (by decide) ?_
        refine lv_goto (tgt := 66) hx hb d_Md_gives_47 (by decide) ?_
        exact b_iret (post := fun (r : Int32) (_ : Unit) => r = 0) (w' := fun u => [(md, .inr (7, mdL za 1 cn ov sn kn fd cst co tb))]) () hm hw (rfl) d_Md_gives_66
    · skip
      exact absurd c_6_7 (by decide)

set_option maxHeartbeats 4000000 in
set_option maxRecDepth 100000 in
theorem c_Md_gives (l : Launch) (D : va_G) (k : Nat → ClassId) (sz : Nat) (md : Nat) (za : Nat → Nat) (th cn ov sn kn fd : Nat) (cst : Int64) (co tb : Nat) (RW : Nat → Nat) (RO : Nat → Int32) (RH : Nat → Int32) (RP : Nat → Int32) (kk w : Nat) (v : Int32) (hc : cn ≤ 3) (hk : kk < cn) (hr8 : RW kk ≤ 8) (hv9 : ((-5000) ≤ v ∧ v ≤ nI 5000)) (hw2 : w < 2) : Met l y_Md_gives (uw y_Md_gives b_Md_gives 4 (some .int)) (rU 2 0 0) (va_Pc [.ref md, .int (nI kk), .int v, .int (nI w)] (bP (gU D k) [(md, .inr (7, mdL za th cn ov sn kn fd cst co tb)), (za 5, .inl (k 0, 3, .inl (fun j => nI (RW j)))), (za 6, .inl (k 0, 24, .inl RO)), (za 7, .inl (k 0, 24, .inl RH)), (za 8, .inl (k 0, 24, .inl RP))] sz)) (va_Qi (fun (r : Int32) (u : Unit) => (w = 0 ∧ gvR (fun j => RO (8 * kk + j)) (fun j => if (0 : Int32) = 0 then RH (8 * kk + j) else RP (8 * kk + j)) (RW kk) v 0 r) ∨ (w = 1 ∧ gvR (fun j => RO (8 * kk + j)) (fun j => if (1 : Int32) = 0 then RH (8 * kk + j) else RP (8 * kk + j)) (RW kk) v 1 r)) (fun u => bQ (gU D k) (va_A [(md, .inr (7, mdL za th cn ov sn kn fd cst co tb)), (za 5, .inl (k 0, 3, .inl (fun j => nI (RW j)))), (za 6, .inl (k 0, 24, .inl RO)), (za 7, .inl (k 0, 24, .inl RH)), (za 8, .inl (k 0, 24, .inl RP))] sz) ([(md, .inr (7, mdL za 0 cn ov sn kn fd cst co tb)), (za 5, .inl (k 0, 3, .inl (fun j => nI (RW j)))), (za 6, .inl (k 0, 24, .inl RO)), (za 7, .inl (k 0, 24, .inl RH)), (za 8, .inl (k 0, 24, .inl RP))])) (va_A [(md, .inr (7, mdL za th cn ov sn kn fd cst co tb)), (za 5, .inl (k 0, 3, .inl (fun j => nI (RW j)))), (za 6, .inl (k 0, 24, .inl RO)), (za 7, .inl (k 0, 24, .inl RH)), (za 8, .inl (k 0, 24, .inl RP))] sz)) (rU 2 0 0).cells (rU 2 0 0).slots (va_A [(md, .inr (7, mdL za th cn ov sn kn fd cst co tb)), (za 5, .inl (k 0, 3, .inl (fun j => nI (RW j)))), (za 6, .inl (k 0, 24, .inl RO)), (za 7, .inl (k 0, 24, .inl RH)), (za 8, .inl (k 0, 24, .inl RP))] sz) := by
  refine b_start (y := y_Md_gives) (maxL := 4) (ret := (some .int)) (cc := b_Md_gives) (ws' := ut) (rm := rU 2 0 0) (av := [.ref md, .int (nI kk), .int v, .int (nI w)]) (g := gU D k) (ws := [(md, .inr (7, mdL za th cn ov sn kn fd cst co tb)), (za 5, .inl (k 0, 3, .inl (fun j => nI (RW j)))), (za 6, .inl (k 0, 24, .inl RO)), (za 7, .inl (k 0, 24, .inl RH)), (za 8, .inl (k 0, 24, .inl RP))]) (sz := sz) (Qc := fun A => va_Qi (fun (r : Int32) (u : Unit) => (w = 0 ∧ gvR (fun j => RO (8 * kk + j)) (fun j => if (0 : Int32) = 0 then RH (8 * kk + j) else RP (8 * kk + j)) (RW kk) v 0 r) ∨ (w = 1 ∧ gvR (fun j => RO (8 * kk + j)) (fun j => if (1 : Int32) = 0 then RH (8 * kk + j) else RP (8 * kk + j)) (RW kk) v 1 r)) (fun u => bQ (gU D k) A ([(md, .inr (7, mdL za 0 cn ov sn kn fd cst co tb)), (za 5, .inl (k 0, 3, .inl (fun j => nI (RW j)))), (za 6, .inl (k 0, 24, .inl RO)), (za 7, .inl (k 0, 24, .inl RH)), (za 8, .inl (k 0, 24, .inl RP))])) A) (by decide +kernel) (Nat.le_of_ble_eq_true rfl) ?_
  intro p e s m below meth c A hm hnm hw ls hl
  have hl : lv_has ls 4 [(0, .ref md), (1, .int (nI kk)), (2, .int v), (3, .int (nI w))] := hl
  have hx := hm.1
  have hb := hm.2.1
  have hown := hm.2.2.2.2.1
  have hts := hm.2.2.2.2.2.1
  refine lv_aload_n hx hb d_Md_gives_0 rfl (lv_at hl 0 rfl) ?_
  refine lv_aload_n hx hb d_Md_gives_1 rfl (lv_at hl 0 rfl) ?_
  refine lv_iload_n hx hb d_Md_gives_2 rfl (lv_at hl 1 rfl) ?_
  refine b_goi (wr := [(za 5, .inl (k 0, 3, .inl (fun j => nI (RW j)))), (za 6, .inl (k 0, 24, .inl RO)), (za 7, .inl (k 0, 24, .inl RH)), (za 8, .inl (k 0, 24, .inl RP))]) (b_runV (wc := [(md, .inr (7, mdL za th cn ov sn kn fd cst co tb))]) (As := [.int (nI kk)]) (rest := [.ref md]) (q0 := 0) hm hw (cwV 1 hts (gV uw_of k_742 k_739 k_741 (mp 13 rfl rfl) k_9) rfl rfl rfl (by decide +kernel) ⟨by decide, by decide⟩) (c_Md_isMachine l D k _ md za th cn ov sn kn fd cst co tb (nI kk)) [0] (by decide) rfl rfl rfl rfl hl.1 rfl (Nat.le_of_ble_eq_true rfl) d_Md_gives_3 ⟨by decide, by decide⟩) hw [0] [1, 2, 3, 4] rfl rfl (by decide) (by decide) (fun r3 _ H locs hp3 hw => ?_)
  have hw : bW (gU D k) A s H locs [(md, .inr (7, mdL za th cn ov sn kn fd cst co tb)), (za 5, .inl (k 0, 3, .inl (fun j => nI (RW j)))), (za 6, .inl (k 0, 24, .inl RO)), (za 7, .inl (k 0, 24, .inl RH)), (za 8, .inl (k 0, 24, .inl RP))] := hw.sub [4, 0, 1, 2, 3] (by decide) rfl
  have hr3 : r3 = 1 := by rcases hp3 with ⟨q, _⟩ | ⟨_, q⟩; exact q; exact absurd (im_n (by omega) (by omega)) q
  refine b_ti (y := nI 1) hr3 ?_
  refine lv_if_eq (tgt := 35) hx hb d_Md_gives_6 (by decide) (fun c_6_0 => ?_) (fun c_6_0 => ?_)
  · skip
    exact absurd c_6_0 (by decide)
  · skip
    refine lv_iload_n hx hb d_Md_gives_9 rfl (lv_at hl 2 rfl) ?_
    refine lv_sipush (v := (-5000)) hx hb d_Md_gives_10 (by decide) ?_
    refine lv_sipush (v := nI 5000) hx hb d_Md_gives_13 (by decide) ?_
    refine b_goi (wr := [(md, .inr (7, mdL za th cn ov sn kn fd cst co tb)), (za 5, .inl (k 0, 3, .inl (fun j => nI (RW j)))), (za 6, .inl (k 0, 24, .inl RO)), (za 7, .inl (k 0, 24, .inl RH)), (za 8, .inl (k 0, 24, .inl RP))]) (b_runS (wc := []) (As := [.int v, .int (-5000), .int (nI 5000)]) (rest := [.ref md]) hm hw (va_cwS 3 hts (gS2 uw_of k_733 k_731 k_732 k_9) rfl rfl rfl (by decide +kernel) ⟨by decide, by decide⟩) (c_Md_in l D k _ v (-5000) (nI 5000)) [] (by decide) rfl rfl hl.1 rfl (Nat.le_of_ble_eq_true rfl) d_Md_gives_16 ⟨by decide, by decide⟩) hw [] [0, 1, 2, 3, 4] rfl rfl (by decide) (by decide) (fun r16 _ H locs hp16 hw => ?_)
    have hw : bW (gU D k) A s H locs [(md, .inr (7, mdL za th cn ov sn kn fd cst co tb)), (za 5, .inl (k 0, 3, .inl (fun j => nI (RW j)))), (za 6, .inl (k 0, 24, .inl RO)), (za 7, .inl (k 0, 24, .inl RH)), (za 8, .inl (k 0, 24, .inl RP))] := hw.sub [0, 1, 2, 3, 4] (by decide) rfl
    have hr16 : r16 = 1 := by rcases hp16 with ⟨q, _⟩ | ⟨_, q⟩; exact q; exact absurd (hv9) q
    refine b_ti (y := nI 1) hr16 ?_
    refine lv_if_eq (tgt := 35) hx hb d_Md_gives_19 (by decide) (fun c_19_1 => ?_) (fun c_19_1 => ?_)
    · skip
      exact absurd c_19_1 (by decide)
    · skip
      refine lv_iload_n hx hb d_Md_gives_22 rfl (lv_at hl 3 rfl) ?_
      refine lv_iconst (v := nI 0) hx hb d_Md_gives_23 (by decide) ?_
      refine lv_iconst (v := nI 1) hx hb d_Md_gives_24 (by decide) ?_
      refine b_goi (wr := [(md, .inr (7, mdL za th cn ov sn kn fd cst co tb)), (za 5, .inl (k 0, 3, .inl (fun j => nI (RW j)))), (za 6, .inl (k 0, 24, .inl RO)), (za 7, .inl (k 0, 24, .inl RH)), (za 8, .inl (k 0, 24, .inl RP))]) (b_runS (wc := []) (As := [.int (nI w), .int (nI 0), .int (nI 1)]) (rest := [.ref md]) hm hw (va_cwS 3 hts (gS2 uw_of k_733 k_731 k_732 k_9) rfl rfl rfl (by decide +kernel) ⟨by decide, by decide⟩) (c_Md_in l D k _ (nI w) (nI 0) (nI 1)) [] (by decide) rfl rfl hl.1 rfl (Nat.le_of_ble_eq_true rfl) d_Md_gives_25 ⟨by decide, by decide⟩) hw [] [0, 1, 2, 3, 4] rfl rfl (by decide) (by decide) (fun r25 _ H locs hp25 hw => ?_)
      have hw : bW (gU D k) A s H locs [(md, .inr (7, mdL za th cn ov sn kn fd cst co tb)), (za 5, .inl (k 0, 3, .inl (fun j => nI (RW j)))), (za 6, .inl (k 0, 24, .inl RO)), (za 7, .inl (k 0, 24, .inl RH)), (za 8, .inl (k 0, 24, .inl RP))] := hw.sub [0, 1, 2, 3, 4] (by decide) rfl
      have hr25 : r25 = 1 := by rcases hp25 with ⟨q, _⟩ | ⟨_, q⟩; exact q; exact absurd (in_n (by omega) (by omega) (by omega)) q
      refine b_ti (y := nI 1) hr25 ?_
      refine lv_if_eq (tgt := 35) hx hb d_Md_gives_28 (by decide) (fun c_28_2 => ?_) (fun c_28_2 => ?_)
      · skip
        exact absurd c_28_2 (by decide)
      · skip
        refine lv_iconst (v := nI 0) hx hb d_Md_gives_31 (by decide) ?_
        refine lv_goto (tgt := 36) hx hb d_Md_gives_32 (by decide) ?_
        refine b_put (T := F_Md) hm hw 0 rfl rfl (fun w h => uw_of w (u_Md w h)) t_Md t_Md_ok n_Md 0 (by decide) (uw_of _ k_608) rfl rfl rfl (Nat.le_of_ble_eq_true rfl) d_Md_gives_36 (w1 := [(md, .inr (7, mdL za 0 cn ov sn kn fd cst co tb)), (za 5, .inl (k 0, 3, .inl (fun j => nI (RW j)))), (za 6, .inl (k 0, 24, .inl RO)), (za 7, .inl (k 0, 24, .inl RH)), (za 8, .inl (k 0, 24, .inl RP))]) rfl (fun H locs hw => ?_)
        refine lv_aload_n hx hb d_Md_gives_39 rfl (lv_at hl 0 rfl) ?_
        refine b_get (T := F_Md) hm hw 0 rfl rfl (fun w h => uw_of w (u_Md w h)) 0 (by decide) (uw_of _ k_608) rfl d_Md_gives_40 ?_
        refine lv_if_le (tgt := 50) hx hb d_Md_gives_43 (by decide) (fun c_43_3 => ?_) (fun c_43_3 => ?_)
        · skip
          refine lv_aload_n hx hb d_Md_gives_50 rfl (lv_at hl 0 rfl) ?_
          refine lv_iload_n hx hb d_Md_gives_51 rfl (lv_at hl 1 rfl) ?_
          refine lv_iload_n hx hb d_Md_gives_52 rfl (lv_at hl 2 rfl) ?_
          refine lv_iload_n hx hb d_Md_gives_53 rfl (lv_at hl 3 rfl) ?_
          refine lv_iconst (v := nI 1) hx hb d_Md_gives_54 (by decide) ?_
          refine lv_icmp_ne (tgt := 62) hx hb d_Md_gives_55 (by decide) (fun c_55_4 => ?_) (fun c_55_4 => ?_)
          · skip
            have h_55_4 : w ≠ 1 := yne c_55_4 (by omega) (by omega)
            refine lv_iconst (v := nI 0) hx hb d_Md_gives_62 (by decide) ?_
            refine b_goi (wr := []) (b_runV (wc := [(md, .inr (7, mdL za 0 cn ov sn kn fd cst co tb)), (za 5, .inl (k 0, 3, .inl (fun j => nI (RW j)))), (za 6, .inl (k 0, 24, .inl RO)), (za 7, .inl (k 0, 24, .inl RH)), (za 8, .inl (k 0, 24, .inl RP))]) (As := [.int (nI kk), .int v, .int 0]) (rest := []) (q0 := 0) hm hw (cwV 3 hts (gV uw_of k_758 k_755 k_757 (mp 14 rfl rfl) k_9) rfl rfl rfl (by decide +kernel) ⟨by decide, by decide⟩) (c_Md_given l D k _ md za 0 cn ov sn kn fd cst co tb RW RO RH RP kk v 0 (by omega) hr8) [0, 1, 2, 3, 4] (by decide) rfl rfl rfl rfl hl.1 rfl (Nat.le_of_ble_eq_true rfl) d_Md_gives_63 ⟨by decide, by decide⟩) hw [0, 1, 2, 3, 4] [] rfl rfl (by decide) (by decide) (fun r _ H locs hg hw => ?_)
            have hw : bW (gU D k) A s H locs [(md, .inr (7, mdL za 0 cn ov sn kn fd cst co tb)), (za 5, .inl (k 0, 3, .inl (fun j => nI (RW j)))), (za 6, .inl (k 0, 24, .inl RO)), (za 7, .inl (k 0, 24, .inl RH)), (za 8, .inl (k 0, 24, .inl RP))] := hw.sub [0, 1, 2, 3, 4] (by decide) rfl
            exact b_iret (post := fun (r : Int32) (u : Unit) => (w = 0 ∧ gvR (fun j => RO (8 * kk + j)) (fun j => if (0 : Int32) = 0 then RH (8 * kk + j) else RP (8 * kk + j)) (RW kk) v 0 r) ∨ (w = 1 ∧ gvR (fun j => RO (8 * kk + j)) (fun j => if (1 : Int32) = 0 then RH (8 * kk + j) else RP (8 * kk + j)) (RW kk) v 1 r)) (w' := fun u => [(md, .inr (7, mdL za 0 cn ov sn kn fd cst co tb)), (za 5, .inl (k 0, 3, .inl (fun j => nI (RW j)))), (za 6, .inl (k 0, 24, .inl RO)), (za 7, .inl (k 0, 24, .inl RH)), (za 8, .inl (k 0, 24, .inl RP))]) () hm hw (by first | exact Or.inl ⟨by omega, hg⟩ | exact Or.inr ⟨by omega, hg⟩) d_Md_gives_66
          · skip
            have h_55_4 : w = 1 := yeq c_55_4 (by omega) (by omega)
            refine lv_iconst (v := nI 1) hx hb d_Md_gives_58 (by decide) ?_
            refine lv_goto (tgt := 63) hx hb d_Md_gives_59 (by decide) ?_
            refine b_goi (wr := []) (b_runV (wc := [(md, .inr (7, mdL za 0 cn ov sn kn fd cst co tb)), (za 5, .inl (k 0, 3, .inl (fun j => nI (RW j)))), (za 6, .inl (k 0, 24, .inl RO)), (za 7, .inl (k 0, 24, .inl RH)), (za 8, .inl (k 0, 24, .inl RP))]) (As := [.int (nI kk), .int v, .int 1]) (rest := []) (q0 := 0) hm hw (cwV 3 hts (gV uw_of k_758 k_755 k_757 (mp 14 rfl rfl) k_9) rfl rfl rfl (by decide +kernel) ⟨by decide, by decide⟩) (c_Md_given l D k _ md za 0 cn ov sn kn fd cst co tb RW RO RH RP kk v 1 (by omega) hr8) [0, 1, 2, 3, 4] (by decide) rfl rfl rfl rfl hl.1 rfl (Nat.le_of_ble_eq_true rfl) d_Md_gives_63 ⟨by decide, by decide⟩) hw [0, 1, 2, 3, 4] [] rfl rfl (by decide) (by decide) (fun r _ H locs hg hw => ?_)
            have hw : bW (gU D k) A s H locs [(md, .inr (7, mdL za 0 cn ov sn kn fd cst co tb)), (za 5, .inl (k 0, 3, .inl (fun j => nI (RW j)))), (za 6, .inl (k 0, 24, .inl RO)), (za 7, .inl (k 0, 24, .inl RH)), (za 8, .inl (k 0, 24, .inl RP))] := hw.sub [0, 1, 2, 3, 4] (by decide) rfl
            exact b_iret (post := fun (r : Int32) (u : Unit) => (w = 0 ∧ gvR (fun j => RO (8 * kk + j)) (fun j => if (0 : Int32) = 0 then RH (8 * kk + j) else RP (8 * kk + j)) (RW kk) v 0 r) ∨ (w = 1 ∧ gvR (fun j => RO (8 * kk + j)) (fun j => if (1 : Int32) = 0 then RH (8 * kk + j) else RP (8 * kk + j)) (RW kk) v 1 r)) (w' := fun u => [(md, .inr (7, mdL za 0 cn ov sn kn fd cst co tb)), (za 5, .inl (k 0, 3, .inl (fun j => nI (RW j)))), (za 6, .inl (k 0, 24, .inl RO)), (za 7, .inl (k 0, 24, .inl RH)), (za 8, .inl (k 0, 24, .inl RP))]) () hm hw (by first | exact Or.inl ⟨by omega, hg⟩ | exact Or.inr ⟨by omega, hg⟩) d_Md_gives_66
        · skip
          exact absurd c_43_3 (by decide)

set_option maxHeartbeats 4000000 in
set_option maxRecDepth 100000 in
theorem c_Md_corner_t1 (l : Launch) (D : va_G) (k : Nat → ClassId) (sz : Nat) (md : Nat) (za : Nat → Nat) (th cn ov sn kn fd : Nat) (cst : Int64) (co tb : Nat) (v y : Int32) (hv9 : ¬ (((-5000) ≤ v ∧ v ≤ nI 5000) ∧ (nI 0 ≤ y ∧ y ≤ nI 10000))) : Met l y_Md_corner (uw y_Md_corner b_Md_corner 3 (some .int)) (rU 1 0 0) (va_Pc [.ref md, .int v, .int y] (bP (gU D k) [(md, .inr (7, mdL za th cn ov sn kn fd cst co tb))] sz)) (va_Qi (fun (r : Int32) (_ : Unit) => r = 0) (fun u => bQ (gU D k) (va_A [(md, .inr (7, mdL za th cn ov sn kn fd cst co tb))] sz) ([(md, .inr (7, mdL za 1 cn ov sn kn fd cst co tb))])) (va_A [(md, .inr (7, mdL za th cn ov sn kn fd cst co tb))] sz)) (rU 1 0 0).cells (rU 1 0 0).slots (va_A [(md, .inr (7, mdL za th cn ov sn kn fd cst co tb))] sz) := by
  refine b_start (y := y_Md_corner) (maxL := 3) (ret := (some .int)) (cc := b_Md_corner) (ws' := ut) (rm := rU 1 0 0) (av := [.ref md, .int v, .int y]) (g := gU D k) (ws := [(md, .inr (7, mdL za th cn ov sn kn fd cst co tb))]) (sz := sz) (Qc := fun A => va_Qi (fun (r : Int32) (_ : Unit) => r = 0) (fun u => bQ (gU D k) A ([(md, .inr (7, mdL za 1 cn ov sn kn fd cst co tb))])) A) (by decide +kernel) (Nat.le_of_ble_eq_true rfl) ?_
  intro p e s m below meth c A hm hnm hw ls hl
  have hl : lv_has ls 3 [(0, .ref md), (1, .int v), (2, .int y)] := hl
  have hx := hm.1
  have hb := hm.2.1
  have hown := hm.2.2.2.2.1
  have hts := hm.2.2.2.2.2.1
  refine lv_aload_n hx hb d_Md_corner_0 rfl (lv_at hl 0 rfl) ?_
  refine lv_iload_n hx hb d_Md_corner_1 rfl (lv_at hl 1 rfl) ?_
  refine lv_sipush (v := (-5000)) hx hb d_Md_corner_2 (by decide) ?_
  refine lv_sipush (v := nI 5000) hx hb d_Md_corner_5 (by decide) ?_
  refine b_goi (wr := [(md, .inr (7, mdL za th cn ov sn kn fd cst co tb))]) (b_runS (wc := []) (As := [.int v, .int (-5000), .int (nI 5000)]) (rest := [.ref md]) hm hw (va_cwS 3 hts (gS2 uw_of k_733 k_731 k_732 k_9) rfl rfl rfl (by decide +kernel) ⟨by decide, by decide⟩) (c_Md_in l D k _ v (-5000) (nI 5000)) [] (by decide) rfl rfl hl.1 rfl (Nat.le_of_ble_eq_true rfl) d_Md_corner_8 ⟨by decide, by decide⟩) hw [] [0] rfl rfl (by decide) (by decide) (fun r8 _ H locs hp8 hw => ?_)
  have hw : bW (gU D k) A s H locs [(md, .inr (7, mdL za th cn ov sn kn fd cst co tb))] := hw.sub [0] (by decide) rfl
  rcases hp8 with ⟨hr8, hp8⟩ | ⟨hr8, hp8⟩
  · skip
    refine b_ti (y := nI 1) hr8 ?_
    refine lv_if_eq (tgt := 25) hx hb d_Md_corner_11 (by decide) (fun c_11_0 => ?_) (fun c_11_0 => ?_)
    · skip
      exact absurd c_11_0 (by decide)
    · skip
      refine lv_iload_n hx hb d_Md_corner_14 rfl (lv_at hl 2 rfl) ?_
      refine lv_iconst (v := nI 0) hx hb d_Md_corner_15 (by decide) ?_
      refine lv_sipush (v := nI 10000) hx hb d_Md_corner_16 (by decide) ?_
      refine b_goi (wr := [(md, .inr (7, mdL za th cn ov sn kn fd cst co tb))]) (b_runS (wc := []) (As := [.int y, .int (nI 0), .int (nI 10000)]) (rest := [.ref md]) hm hw (va_cwS 3 hts (gS2 uw_of k_733 k_731 k_732 k_9) rfl rfl rfl (by decide +kernel) ⟨by decide, by decide⟩) (c_Md_in l D k _ y (nI 0) (nI 10000)) [] (by decide) rfl rfl hl.1 rfl (Nat.le_of_ble_eq_true rfl) d_Md_corner_19 ⟨by decide, by decide⟩) hw [] [0] rfl rfl (by decide) (by decide) (fun r19 _ H locs hp19 hw => ?_)
      have hw : bW (gU D k) A s H locs [(md, .inr (7, mdL za th cn ov sn kn fd cst co tb))] := hw.sub [0] (by decide) rfl
      rcases hp19 with ⟨hr19, hp19⟩ | ⟨hr19, hp19⟩
      · skip
        refine b_ti (y := nI 1) hr19 ?_
        refine lv_if_ne (tgt := 29) hx hb d_Md_corner_22 (by decide) (fun c_22_1 => ?_) (fun c_22_1 => ?_)
        · skip
          exact absurd ⟨hp8, hp19⟩ hv9
        · skip
          exact absurd c_22_1 (by decide)
      · skip
        refine b_ti (y := nI 0) hr19 ?_
        refine lv_if_ne (tgt := 29) hx hb d_Md_corner_22 (by decide) (fun c_22_2 => ?_) (fun c_22_2 => ?_)
        · skip
          exact absurd c_22_2 (by decide)
        · skip
          refine lv_iconst (v := nI 1) hx hb d_Md_corner_25 (by decide) ?_
          refine lv_goto (tgt := 65) hx hb d_Md_corner_26 (by decide) ?_
          refine b_put (T := F_Md) hm hw 0 rfl rfl (fun w h => uw_of w (u_Md w h)) t_Md t_Md_ok n_Md 0 (by decide) (uw_of _ k_608) rfl rfl rfl (Nat.le_of_ble_eq_true rfl) d_Md_corner_65 (w1 := [(md, .inr (7, mdL za 1 cn ov sn kn fd cst co tb))]) rfl (fun H locs hw => ?_)
          refine lv_aload_n hx hb d_Md_corner_68 rfl (lv_at hl 0 rfl) ?_
          refine b_get (T := F_Md) hm hw 0 rfl rfl (fun w h => uw_of w (u_Md w h)) 0 (by decide) (uw_of _ k_608) rfl d_Md_corner_69 ?_
          refine lv_if_le (tgt := 77) hx hb d_Md_corner_72 (by decide) (fun c_72_3 => ?_) (fun c_72_3 => ?_)
          · skip
            exact absurd c_72_3 (by decide)
          · skip
            refine lv_iconst (v := nI 0) hx hb d_Md_corner_75 (by decide) ?_
            exact b_iret (post := fun (r : Int32) (_ : Unit) => r = 0) (w' := fun u => [(md, .inr (7, mdL za 1 cn ov sn kn fd cst co tb))]) () hm hw (rfl) d_Md_corner_76
  · skip
    refine b_ti (y := nI 0) hr8 ?_
    refine lv_if_eq (tgt := 25) hx hb d_Md_corner_11 (by decide) (fun c_11_4 => ?_) (fun c_11_4 => ?_)
    · skip
      refine lv_iconst (v := nI 1) hx hb d_Md_corner_25 (by decide) ?_
      refine lv_goto (tgt := 65) hx hb d_Md_corner_26 (by decide) ?_
      refine b_put (T := F_Md) hm hw 0 rfl rfl (fun w h => uw_of w (u_Md w h)) t_Md t_Md_ok n_Md 0 (by decide) (uw_of _ k_608) rfl rfl rfl (Nat.le_of_ble_eq_true rfl) d_Md_corner_65 (w1 := [(md, .inr (7, mdL za 1 cn ov sn kn fd cst co tb))]) rfl (fun H locs hw => ?_)
      refine lv_aload_n hx hb d_Md_corner_68 rfl (lv_at hl 0 rfl) ?_
      refine b_get (T := F_Md) hm hw 0 rfl rfl (fun w h => uw_of w (u_Md w h)) 0 (by decide) (uw_of _ k_608) rfl d_Md_corner_69 ?_
      refine lv_if_le (tgt := 77) hx hb d_Md_corner_72 (by decide) (fun c_72_5 => ?_) (fun c_72_5 => ?_)
      · skip
        exact absurd c_72_5 (by decide)
      · skip
        refine lv_iconst (v := nI 0) hx hb d_Md_corner_75 (by decide) ?_
        exact b_iret (post := fun (r : Int32) (_ : Unit) => r = 0) (w' := fun u => [(md, .inr (7, mdL za 1 cn ov sn kn fd cst co tb))]) () hm hw (rfl) d_Md_corner_76
    · skip
      exact absurd c_11_4 (by decide)

set_option maxHeartbeats 4000000 in
set_option maxRecDepth 100000 in
theorem c_Md_corner_t2 (l : Launch) (D : va_G) (k : Nat → ClassId) (sz : Nat) (md : Nat) (za : Nat → Nat) (th cn ov sn kn fd : Nat) (cst : Int64) (co tb : Nat) (CA : Nat → Int32) (v y : Int32) (hz : co ≤ 6) (hv9 : ((-5000) ≤ v ∧ v ≤ nI 5000)) (hy : (nI 0 ≤ y ∧ y ≤ nI 10000)) (hs9 : ¬ lnRoom 6 CA co v) : Met l y_Md_corner (uw y_Md_corner b_Md_corner 3 (some .int)) (rU 1 0 0) (va_Pc [.ref md, .int v, .int y] (bP (gU D k) [(md, .inr (7, mdL za th cn ov sn kn fd cst co tb)), (za 33, .inl (k 0, 6, .inl CA))] sz)) (va_Qi (fun (r : Int32) (_ : Unit) => r = 0) (fun u => bQ (gU D k) (va_A [(md, .inr (7, mdL za th cn ov sn kn fd cst co tb)), (za 33, .inl (k 0, 6, .inl CA))] sz) ([(md, .inr (7, mdL za 2 cn ov sn kn fd cst co tb)), (za 33, .inl (k 0, 6, .inl CA))])) (va_A [(md, .inr (7, mdL za th cn ov sn kn fd cst co tb)), (za 33, .inl (k 0, 6, .inl CA))] sz)) (rU 1 0 0).cells (rU 1 0 0).slots (va_A [(md, .inr (7, mdL za th cn ov sn kn fd cst co tb)), (za 33, .inl (k 0, 6, .inl CA))] sz) := by
  refine b_start (y := y_Md_corner) (maxL := 3) (ret := (some .int)) (cc := b_Md_corner) (ws' := ut) (rm := rU 1 0 0) (av := [.ref md, .int v, .int y]) (g := gU D k) (ws := [(md, .inr (7, mdL za th cn ov sn kn fd cst co tb)), (za 33, .inl (k 0, 6, .inl CA))]) (sz := sz) (Qc := fun A => va_Qi (fun (r : Int32) (_ : Unit) => r = 0) (fun u => bQ (gU D k) A ([(md, .inr (7, mdL za 2 cn ov sn kn fd cst co tb)), (za 33, .inl (k 0, 6, .inl CA))])) A) (by decide +kernel) (Nat.le_of_ble_eq_true rfl) ?_
  intro p e s m below meth c A hm hnm hw ls hl
  have hl : lv_has ls 3 [(0, .ref md), (1, .int v), (2, .int y)] := hl
  have hx := hm.1
  have hb := hm.2.1
  have hown := hm.2.2.2.2.1
  have hts := hm.2.2.2.2.2.1
  refine lv_aload_n hx hb d_Md_corner_0 rfl (lv_at hl 0 rfl) ?_
  refine lv_iload_n hx hb d_Md_corner_1 rfl (lv_at hl 1 rfl) ?_
  refine lv_sipush (v := (-5000)) hx hb d_Md_corner_2 (by decide) ?_
  refine lv_sipush (v := nI 5000) hx hb d_Md_corner_5 (by decide) ?_
  refine b_goi (wr := [(md, .inr (7, mdL za th cn ov sn kn fd cst co tb)), (za 33, .inl (k 0, 6, .inl CA))]) (b_runS (wc := []) (As := [.int v, .int (-5000), .int (nI 5000)]) (rest := [.ref md]) hm hw (va_cwS 3 hts (gS2 uw_of k_733 k_731 k_732 k_9) rfl rfl rfl (by decide +kernel) ⟨by decide, by decide⟩) (c_Md_in l D k _ v (-5000) (nI 5000)) [] (by decide) rfl rfl hl.1 rfl (Nat.le_of_ble_eq_true rfl) d_Md_corner_8 ⟨by decide, by decide⟩) hw [] [0, 1] rfl rfl (by decide) (by decide) (fun r8 _ H locs hp8 hw => ?_)
  have hw : bW (gU D k) A s H locs [(md, .inr (7, mdL za th cn ov sn kn fd cst co tb)), (za 33, .inl (k 0, 6, .inl CA))] := hw.sub [0, 1] (by decide) rfl
  have hr8 : r8 = 1 := by rcases hp8 with ⟨q, _⟩ | ⟨_, q⟩; exact q; exact absurd (hv9) q
  refine b_ti (y := nI 1) hr8 ?_
  refine lv_if_eq (tgt := 25) hx hb d_Md_corner_11 (by decide) (fun c_11_0 => ?_) (fun c_11_0 => ?_)
  · skip
    exact absurd c_11_0 (by decide)
  · skip
    refine lv_iload_n hx hb d_Md_corner_14 rfl (lv_at hl 2 rfl) ?_
    refine lv_iconst (v := nI 0) hx hb d_Md_corner_15 (by decide) ?_
    refine lv_sipush (v := nI 10000) hx hb d_Md_corner_16 (by decide) ?_
    refine b_goi (wr := [(md, .inr (7, mdL za th cn ov sn kn fd cst co tb)), (za 33, .inl (k 0, 6, .inl CA))]) (b_runS (wc := []) (As := [.int y, .int (nI 0), .int (nI 10000)]) (rest := [.ref md]) hm hw (va_cwS 3 hts (gS2 uw_of k_733 k_731 k_732 k_9) rfl rfl rfl (by decide +kernel) ⟨by decide, by decide⟩) (c_Md_in l D k _ y (nI 0) (nI 10000)) [] (by decide) rfl rfl hl.1 rfl (Nat.le_of_ble_eq_true rfl) d_Md_corner_19 ⟨by decide, by decide⟩) hw [] [0, 1] rfl rfl (by decide) (by decide) (fun r19 _ H locs hp19 hw => ?_)
    have hw : bW (gU D k) A s H locs [(md, .inr (7, mdL za th cn ov sn kn fd cst co tb)), (za 33, .inl (k 0, 6, .inl CA))] := hw.sub [0, 1] (by decide) rfl
    have hr19 : r19 = 1 := by rcases hp19 with ⟨q, _⟩ | ⟨_, q⟩; exact q; exact absurd (hy) q
    refine b_ti (y := nI 1) hr19 ?_
    refine lv_if_ne (tgt := 29) hx hb d_Md_corner_22 (by decide) (fun c_22_1 => ?_) (fun c_22_1 => ?_)
    · skip
      refine lv_aload_n hx hb d_Md_corner_29 rfl (lv_at hl 0 rfl) ?_
      refine b_get (T := F_Md) hm hw 0 rfl rfl (fun w h => uw_of w (u_Md w h)) 32 (by decide) (uw_of _ k_640) rfl d_Md_corner_30 ?_
      refine lv_bipush (v := nI 6) hx hb d_Md_corner_33 (by decide) ?_
      refine lv_icmp_eq (tgt := 60) hx hb d_Md_corner_35 (by decide) (fun c_35_2 => ?_) (fun c_35_2 => ?_)
      · skip
        have h_35_2 : co = 6 := yeq c_35_2 (by omega) (by omega)
        refine lv_iconst (v := nI 2) hx hb d_Md_corner_60 (by decide) ?_
        refine lv_goto (tgt := 65) hx hb d_Md_corner_61 (by decide) ?_
        refine b_put (T := F_Md) hm hw 0 rfl rfl (fun w h => uw_of w (u_Md w h)) t_Md t_Md_ok n_Md 0 (by decide) (uw_of _ k_608) rfl rfl rfl (Nat.le_of_ble_eq_true rfl) d_Md_corner_65 (w1 := [(md, .inr (7, mdL za 2 cn ov sn kn fd cst co tb)), (za 33, .inl (k 0, 6, .inl CA))]) rfl (fun H locs hw => ?_)
        refine lv_aload_n hx hb d_Md_corner_68 rfl (lv_at hl 0 rfl) ?_
        refine b_get (T := F_Md) hm hw 0 rfl rfl (fun w h => uw_of w (u_Md w h)) 0 (by decide) (uw_of _ k_608) rfl d_Md_corner_69 ?_
        refine lv_if_le (tgt := 77) hx hb d_Md_corner_72 (by decide) (fun c_72_3 => ?_) (fun c_72_3 => ?_)
        · skip
          exact absurd c_72_3 (by decide)
        · skip
          refine lv_iconst (v := nI 0) hx hb d_Md_corner_75 (by decide) ?_
          exact b_iret (post := fun (r : Int32) (_ : Unit) => r = 0) (w' := fun u => [(md, .inr (7, mdL za 2 cn ov sn kn fd cst co tb)), (za 33, .inl (k 0, 6, .inl CA))]) () hm hw (rfl) d_Md_corner_76
      · skip
        have h_35_2 : co ≠ 6 := yneN c_35_2 (by omega) (by omega)
        refine lv_aload_n hx hb d_Md_corner_38 rfl (lv_at hl 0 rfl) ?_
        refine b_get (T := F_Md) hm hw 0 rfl rfl (fun w h => uw_of w (u_Md w h)) 32 (by decide) (uw_of _ k_640) rfl d_Md_corner_39 ?_
        refine lv_if_le (tgt := 64) hx hb d_Md_corner_42 (by decide) (fun c_42_4 => ?_) (fun c_42_4 => ?_)
        · skip
          have h_42_4 : co ≤ 0 := yle0 c_42_4 (by omega) (by omega)
          exact absurd (by unfold lnRoom; grind) hs9
        · skip
          have h_42_4 : 0 < co := ygtN0 c_42_4 (by omega) (by omega)
          refine lv_iload_n hx hb d_Md_corner_45 rfl (lv_at hl 1 rfl) ?_
          refine lv_aload_n hx hb d_Md_corner_46 rfl (lv_at hl 0 rfl) ?_
          refine b_get (T := F_Md) hm hw 0 rfl rfl (fun w h => uw_of w (u_Md w h)) 33 (by decide) (uw_of _ k_641) rfl d_Md_corner_47 ?_
          refine lv_aload_n hx hb d_Md_corner_50 rfl (lv_at hl 0 rfl) ?_
          refine b_get (T := F_Md) hm hw 0 rfl rfl (fun w h => uw_of w (u_Md w h)) 32 (by decide) (uw_of _ k_640) rfl d_Md_corner_51 ?_
          refine lv_iconst (v := nI 1) hx hb d_Md_corner_54 (by decide) ?_
          refine lv_isub hx hb d_Md_corner_55 ?_
          refine b_ti (pk_sub (a := co) (b := 1) (by omega)) ?_
          refine b_iald (i := co - 1) hm hw 1 0 rfl rfl (by omega) (by omega) d_Md_corner_56 ?_
          refine lv_icmp_gt (tgt := 64) hx hb d_Md_corner_57 (by decide) (fun c_57_5 => ?_) (fun c_57_5 => ?_)
          · skip
            exact absurd (by unfold lnRoom; grind) hs9
          · skip
            refine lv_iconst (v := nI 2) hx hb d_Md_corner_60 (by decide) ?_
            refine lv_goto (tgt := 65) hx hb d_Md_corner_61 (by decide) ?_
            refine b_put (T := F_Md) hm hw 0 rfl rfl (fun w h => uw_of w (u_Md w h)) t_Md t_Md_ok n_Md 0 (by decide) (uw_of _ k_608) rfl rfl rfl (Nat.le_of_ble_eq_true rfl) d_Md_corner_65 (w1 := [(md, .inr (7, mdL za 2 cn ov sn kn fd cst co tb)), (za 33, .inl (k 0, 6, .inl CA))]) rfl (fun H locs hw => ?_)
            refine lv_aload_n hx hb d_Md_corner_68 rfl (lv_at hl 0 rfl) ?_
            refine b_get (T := F_Md) hm hw 0 rfl rfl (fun w h => uw_of w (u_Md w h)) 0 (by decide) (uw_of _ k_608) rfl d_Md_corner_69 ?_
            refine lv_if_le (tgt := 77) hx hb d_Md_corner_72 (by decide) (fun c_72_6 => ?_) (fun c_72_6 => ?_)
            · skip
              exact absurd c_72_6 (by decide)
            · skip
              refine lv_iconst (v := nI 0) hx hb d_Md_corner_75 (by decide) ?_
              exact b_iret (post := fun (r : Int32) (_ : Unit) => r = 0) (w' := fun u => [(md, .inr (7, mdL za 2 cn ov sn kn fd cst co tb)), (za 33, .inl (k 0, 6, .inl CA))]) () hm hw (rfl) d_Md_corner_76
    · skip
      exact absurd c_22_1 (by decide)

set_option maxHeartbeats 4000000 in
set_option maxRecDepth 100000 in
theorem c_Md_corner (l : Launch) (D : va_G) (k : Nat → ClassId) (sz : Nat) (md : Nat) (za : Nat → Nat) (th cn ov sn kn fd : Nat) (cst : Int64) (co tb : Nat) (CA : Nat → Int32) (CW : Nat → Int32) (v y : Int32) (hz : co ≤ 6) (hv9 : ((-5000) ≤ v ∧ v ≤ nI 5000)) (hy : (nI 0 ≤ y ∧ y ≤ nI 10000)) (hroom : lnRoom 6 CA co v) : Met l y_Md_corner (uw y_Md_corner b_Md_corner 3 (some .int)) (rU 1 0 0) (va_Pc [.ref md, .int v, .int y] (bP (gU D k) [(md, .inr (7, mdL za th cn ov sn kn fd cst co tb)), (za 33, .inl (k 0, 6, .inl CA)), (za 34, .inl (k 0, 6, .inl CW))] sz)) (va_Qi (fun (r : Int32) (u : Unit) => r = nI (co + 1)) (fun u => bQ (gU D k) (va_A [(md, .inr (7, mdL za th cn ov sn kn fd cst co tb)), (za 33, .inl (k 0, 6, .inl CA)), (za 34, .inl (k 0, 6, .inl CW))] sz) ([(md, .inr (7, mdL za 0 cn ov sn kn fd cst (co + 1) tb)), (za 33, .inl (k 0, 6, .inl (upd CA co v))), (za 34, .inl (k 0, 6, .inl (upd CW co y)))])) (va_A [(md, .inr (7, mdL za th cn ov sn kn fd cst co tb)), (za 33, .inl (k 0, 6, .inl CA)), (za 34, .inl (k 0, 6, .inl CW))] sz)) (rU 1 0 0).cells (rU 1 0 0).slots (va_A [(md, .inr (7, mdL za th cn ov sn kn fd cst co tb)), (za 33, .inl (k 0, 6, .inl CA)), (za 34, .inl (k 0, 6, .inl CW))] sz) := by
  refine b_start (y := y_Md_corner) (maxL := 3) (ret := (some .int)) (cc := b_Md_corner) (ws' := ut) (rm := rU 1 0 0) (av := [.ref md, .int v, .int y]) (g := gU D k) (ws := [(md, .inr (7, mdL za th cn ov sn kn fd cst co tb)), (za 33, .inl (k 0, 6, .inl CA)), (za 34, .inl (k 0, 6, .inl CW))]) (sz := sz) (Qc := fun A => va_Qi (fun (r : Int32) (u : Unit) => r = nI (co + 1)) (fun u => bQ (gU D k) A ([(md, .inr (7, mdL za 0 cn ov sn kn fd cst (co + 1) tb)), (za 33, .inl (k 0, 6, .inl (upd CA co v))), (za 34, .inl (k 0, 6, .inl (upd CW co y)))])) A) (by decide +kernel) (Nat.le_of_ble_eq_true rfl) ?_
  intro p e s m below meth c A hm hnm hw ls hl
  have hl : lv_has ls 3 [(0, .ref md), (1, .int v), (2, .int y)] := hl
  have hx := hm.1
  have hb := hm.2.1
  have hown := hm.2.2.2.2.1
  have hts := hm.2.2.2.2.2.1
  refine lv_aload_n hx hb d_Md_corner_0 rfl (lv_at hl 0 rfl) ?_
  refine lv_iload_n hx hb d_Md_corner_1 rfl (lv_at hl 1 rfl) ?_
  refine lv_sipush (v := (-5000)) hx hb d_Md_corner_2 (by decide) ?_
  refine lv_sipush (v := nI 5000) hx hb d_Md_corner_5 (by decide) ?_
  refine b_goi (wr := [(md, .inr (7, mdL za th cn ov sn kn fd cst co tb)), (za 33, .inl (k 0, 6, .inl CA)), (za 34, .inl (k 0, 6, .inl CW))]) (b_runS (wc := []) (As := [.int v, .int (-5000), .int (nI 5000)]) (rest := [.ref md]) hm hw (va_cwS 3 hts (gS2 uw_of k_733 k_731 k_732 k_9) rfl rfl rfl (by decide +kernel) ⟨by decide, by decide⟩) (c_Md_in l D k _ v (-5000) (nI 5000)) [] (by decide) rfl rfl hl.1 rfl (Nat.le_of_ble_eq_true rfl) d_Md_corner_8 ⟨by decide, by decide⟩) hw [] [0, 1, 2] rfl rfl (by decide) (by decide) (fun r8 _ H locs hp8 hw => ?_)
  have hw : bW (gU D k) A s H locs [(md, .inr (7, mdL za th cn ov sn kn fd cst co tb)), (za 33, .inl (k 0, 6, .inl CA)), (za 34, .inl (k 0, 6, .inl CW))] := hw.sub [0, 1, 2] (by decide) rfl
  have hr8 : r8 = 1 := by rcases hp8 with ⟨q, _⟩ | ⟨_, q⟩; exact q; exact absurd (hv9) q
  refine b_ti (y := nI 1) hr8 ?_
  refine lv_if_eq (tgt := 25) hx hb d_Md_corner_11 (by decide) (fun c_11_0 => ?_) (fun c_11_0 => ?_)
  · skip
    exact absurd c_11_0 (by decide)
  · skip
    refine lv_iload_n hx hb d_Md_corner_14 rfl (lv_at hl 2 rfl) ?_
    refine lv_iconst (v := nI 0) hx hb d_Md_corner_15 (by decide) ?_
    refine lv_sipush (v := nI 10000) hx hb d_Md_corner_16 (by decide) ?_
    refine b_goi (wr := [(md, .inr (7, mdL za th cn ov sn kn fd cst co tb)), (za 33, .inl (k 0, 6, .inl CA)), (za 34, .inl (k 0, 6, .inl CW))]) (b_runS (wc := []) (As := [.int y, .int (nI 0), .int (nI 10000)]) (rest := [.ref md]) hm hw (va_cwS 3 hts (gS2 uw_of k_733 k_731 k_732 k_9) rfl rfl rfl (by decide +kernel) ⟨by decide, by decide⟩) (c_Md_in l D k _ y (nI 0) (nI 10000)) [] (by decide) rfl rfl hl.1 rfl (Nat.le_of_ble_eq_true rfl) d_Md_corner_19 ⟨by decide, by decide⟩) hw [] [0, 1, 2] rfl rfl (by decide) (by decide) (fun r19 _ H locs hp19 hw => ?_)
    have hw : bW (gU D k) A s H locs [(md, .inr (7, mdL za th cn ov sn kn fd cst co tb)), (za 33, .inl (k 0, 6, .inl CA)), (za 34, .inl (k 0, 6, .inl CW))] := hw.sub [0, 1, 2] (by decide) rfl
    have hr19 : r19 = 1 := by rcases hp19 with ⟨q, _⟩ | ⟨_, q⟩; exact q; exact absurd (hy) q
    refine b_ti (y := nI 1) hr19 ?_
    refine lv_if_ne (tgt := 29) hx hb d_Md_corner_22 (by decide) (fun c_22_1 => ?_) (fun c_22_1 => ?_)
    · skip
      refine lv_aload_n hx hb d_Md_corner_29 rfl (lv_at hl 0 rfl) ?_
      refine b_get (T := F_Md) hm hw 0 rfl rfl (fun w h => uw_of w (u_Md w h)) 32 (by decide) (uw_of _ k_640) rfl d_Md_corner_30 ?_
      refine lv_bipush (v := nI 6) hx hb d_Md_corner_33 (by decide) ?_
      refine lv_icmp_eq (tgt := 60) hx hb d_Md_corner_35 (by decide) (fun c_35_2 => ?_) (fun c_35_2 => ?_)
      · skip
        have h_35_2 : co = 6 := yeq c_35_2 (by omega) (by omega)
        exact absurd hroom (by unfold lnRoom; grind)
      · skip
        have h_35_2 : co ≠ 6 := yneN c_35_2 (by omega) (by omega)
        refine lv_aload_n hx hb d_Md_corner_38 rfl (lv_at hl 0 rfl) ?_
        refine b_get (T := F_Md) hm hw 0 rfl rfl (fun w h => uw_of w (u_Md w h)) 32 (by decide) (uw_of _ k_640) rfl d_Md_corner_39 ?_
        refine lv_if_le (tgt := 64) hx hb d_Md_corner_42 (by decide) (fun c_42_3 => ?_) (fun c_42_3 => ?_)
        · skip
          have h_42_3 : co ≤ 0 := yle0 c_42_3 (by omega) (by omega)
          refine lv_iconst (v := nI 0) hx hb d_Md_corner_64 (by decide) ?_
          refine b_put (T := F_Md) hm hw 0 rfl rfl (fun w h => uw_of w (u_Md w h)) t_Md t_Md_ok n_Md 0 (by decide) (uw_of _ k_608) rfl rfl rfl (Nat.le_of_ble_eq_true rfl) d_Md_corner_65 (w1 := [(md, .inr (7, mdL za 0 cn ov sn kn fd cst co tb)), (za 33, .inl (k 0, 6, .inl CA)), (za 34, .inl (k 0, 6, .inl CW))]) rfl (fun H locs hw => ?_)
          refine lv_aload_n hx hb d_Md_corner_68 rfl (lv_at hl 0 rfl) ?_
          refine b_get (T := F_Md) hm hw 0 rfl rfl (fun w h => uw_of w (u_Md w h)) 0 (by decide) (uw_of _ k_608) rfl d_Md_corner_69 ?_
          refine lv_if_le (tgt := 77) hx hb d_Md_corner_72 (by decide) (fun c_72_4 => ?_) (fun c_72_4 => ?_)
          · skip
            have hz6 : co < 6 := hroom.1
            refine lv_aload_n hx hb d_Md_corner_77 rfl (lv_at hl 0 rfl) ?_
            refine b_get (T := F_Md) hm hw 0 rfl rfl (fun w h => uw_of w (u_Md w h)) 33 (by decide) (uw_of _ k_641) rfl d_Md_corner_78 ?_
            refine lv_aload_n hx hb d_Md_corner_81 rfl (lv_at hl 0 rfl) ?_
            refine b_get (T := F_Md) hm hw 0 rfl rfl (fun w h => uw_of w (u_Md w h)) 32 (by decide) (uw_of _ k_640) rfl d_Md_corner_82 ?_
            refine lv_iload_n hx hb d_Md_corner_85 rfl (lv_at hl 1 rfl) ?_
            refine b_iast (i := co) hm hw 1 0 rfl rfl (by omega) (by omega) d_Md_corner_86 (w1 := [(md, .inr (7, mdL za 0 cn ov sn kn fd cst co tb)), (za 33, .inl (k 0, 6, .inl (upd CA co v))), (za 34, .inl (k 0, 6, .inl CW))]) rfl (fun H locs hw => ?_)
            refine lv_aload_n hx hb d_Md_corner_87 rfl (lv_at hl 0 rfl) ?_
            refine b_get (T := F_Md) hm hw 0 rfl rfl (fun w h => uw_of w (u_Md w h)) 34 (by decide) (uw_of _ k_642) rfl d_Md_corner_88 ?_
            refine lv_aload_n hx hb d_Md_corner_91 rfl (lv_at hl 0 rfl) ?_
            refine b_get (T := F_Md) hm hw 0 rfl rfl (fun w h => uw_of w (u_Md w h)) 32 (by decide) (uw_of _ k_640) rfl d_Md_corner_92 ?_
            refine lv_iload_n hx hb d_Md_corner_95 rfl (lv_at hl 2 rfl) ?_
            refine b_iast (i := co) hm hw 2 0 rfl rfl (by omega) (by omega) d_Md_corner_96 (w1 := [(md, .inr (7, mdL za 0 cn ov sn kn fd cst co tb)), (za 33, .inl (k 0, 6, .inl (upd CA co v))), (za 34, .inl (k 0, 6, .inl (upd CW co y)))]) rfl (fun H locs hw => ?_)
            refine lv_aload_n hx hb d_Md_corner_97 rfl (lv_at hl 0 rfl) ?_
            refine lv_dup hx hb d_Md_corner_98 rfl ?_
            refine b_get (T := F_Md) hm hw 0 rfl rfl (fun w h => uw_of w (u_Md w h)) 32 (by decide) (uw_of _ k_640) rfl d_Md_corner_99 ?_
            refine lv_iconst (v := nI 1) hx hb d_Md_corner_102 (by decide) ?_
            refine lv_iadd hx hb d_Md_corner_103 ?_
            refine b_ti (nI_add co 1) ?_
            refine b_put (T := F_Md) hm hw 0 rfl rfl (fun w h => uw_of w (u_Md w h)) t_Md t_Md_ok n_Md 32 (by decide) (uw_of _ k_640) rfl rfl rfl (Nat.le_of_ble_eq_true rfl) d_Md_corner_104 (w1 := [(md, .inr (7, mdL za 0 cn ov sn kn fd cst (co + 1) tb)), (za 33, .inl (k 0, 6, .inl (upd CA co v))), (za 34, .inl (k 0, 6, .inl (upd CW co y)))]) rfl (fun H locs hw => ?_)
            refine lv_aload_n hx hb d_Md_corner_107 rfl (lv_at hl 0 rfl) ?_
            refine b_get (T := F_Md) hm hw 0 rfl rfl (fun w h => uw_of w (u_Md w h)) 32 (by decide) (uw_of _ k_640) rfl d_Md_corner_108 ?_
            exact b_iret (post := fun (r : Int32) (u : Unit) => r = nI (co + 1)) (w' := fun u => [(md, .inr (7, mdL za 0 cn ov sn kn fd cst (co + 1) tb)), (za 33, .inl (k 0, 6, .inl (upd CA co v))), (za 34, .inl (k 0, 6, .inl (upd CW co y)))]) () hm hw (rfl) d_Md_corner_111
          · skip
            exact absurd c_72_4 (by decide)
        · skip
          have h_42_3 : 0 < co := ygtN0 c_42_3 (by omega) (by omega)
          refine lv_iload_n hx hb d_Md_corner_45 rfl (lv_at hl 1 rfl) ?_
          refine lv_aload_n hx hb d_Md_corner_46 rfl (lv_at hl 0 rfl) ?_
          refine b_get (T := F_Md) hm hw 0 rfl rfl (fun w h => uw_of w (u_Md w h)) 33 (by decide) (uw_of _ k_641) rfl d_Md_corner_47 ?_
          refine lv_aload_n hx hb d_Md_corner_50 rfl (lv_at hl 0 rfl) ?_
          refine b_get (T := F_Md) hm hw 0 rfl rfl (fun w h => uw_of w (u_Md w h)) 32 (by decide) (uw_of _ k_640) rfl d_Md_corner_51 ?_
          refine lv_iconst (v := nI 1) hx hb d_Md_corner_54 (by decide) ?_
          refine lv_isub hx hb d_Md_corner_55 ?_
          refine b_ti (pk_sub (a := co) (b := 1) (by omega)) ?_
          refine b_iald (i := co - 1) hm hw 1 0 rfl rfl (by omega) (by omega) d_Md_corner_56 ?_
          refine lv_icmp_gt (tgt := 64) hx hb d_Md_corner_57 (by decide) (fun c_57_5 => ?_) (fun c_57_5 => ?_)
          · skip
            refine lv_iconst (v := nI 0) hx hb d_Md_corner_64 (by decide) ?_
            refine b_put (T := F_Md) hm hw 0 rfl rfl (fun w h => uw_of w (u_Md w h)) t_Md t_Md_ok n_Md 0 (by decide) (uw_of _ k_608) rfl rfl rfl (Nat.le_of_ble_eq_true rfl) d_Md_corner_65 (w1 := [(md, .inr (7, mdL za 0 cn ov sn kn fd cst co tb)), (za 33, .inl (k 0, 6, .inl CA)), (za 34, .inl (k 0, 6, .inl CW))]) rfl (fun H locs hw => ?_)
            refine lv_aload_n hx hb d_Md_corner_68 rfl (lv_at hl 0 rfl) ?_
            refine b_get (T := F_Md) hm hw 0 rfl rfl (fun w h => uw_of w (u_Md w h)) 0 (by decide) (uw_of _ k_608) rfl d_Md_corner_69 ?_
            refine lv_if_le (tgt := 77) hx hb d_Md_corner_72 (by decide) (fun c_72_6 => ?_) (fun c_72_6 => ?_)
            · skip
              have hz6 : co < 6 := hroom.1
              refine lv_aload_n hx hb d_Md_corner_77 rfl (lv_at hl 0 rfl) ?_
              refine b_get (T := F_Md) hm hw 0 rfl rfl (fun w h => uw_of w (u_Md w h)) 33 (by decide) (uw_of _ k_641) rfl d_Md_corner_78 ?_
              refine lv_aload_n hx hb d_Md_corner_81 rfl (lv_at hl 0 rfl) ?_
              refine b_get (T := F_Md) hm hw 0 rfl rfl (fun w h => uw_of w (u_Md w h)) 32 (by decide) (uw_of _ k_640) rfl d_Md_corner_82 ?_
              refine lv_iload_n hx hb d_Md_corner_85 rfl (lv_at hl 1 rfl) ?_
              refine b_iast (i := co) hm hw 1 0 rfl rfl (by omega) (by omega) d_Md_corner_86 (w1 := [(md, .inr (7, mdL za 0 cn ov sn kn fd cst co tb)), (za 33, .inl (k 0, 6, .inl (upd CA co v))), (za 34, .inl (k 0, 6, .inl CW))]) rfl (fun H locs hw => ?_)
              refine lv_aload_n hx hb d_Md_corner_87 rfl (lv_at hl 0 rfl) ?_
              refine b_get (T := F_Md) hm hw 0 rfl rfl (fun w h => uw_of w (u_Md w h)) 34 (by decide) (uw_of _ k_642) rfl d_Md_corner_88 ?_
              refine lv_aload_n hx hb d_Md_corner_91 rfl (lv_at hl 0 rfl) ?_
              refine b_get (T := F_Md) hm hw 0 rfl rfl (fun w h => uw_of w (u_Md w h)) 32 (by decide) (uw_of _ k_640) rfl d_Md_corner_92 ?_
              refine lv_iload_n hx hb d_Md_corner_95 rfl (lv_at hl 2 rfl) ?_
              refine b_iast (i := co) hm hw 2 0 rfl rfl (by omega) (by omega) d_Md_corner_96 (w1 := [(md, .inr (7, mdL za 0 cn ov sn kn fd cst co tb)), (za 33, .inl (k 0, 6, .inl (upd CA co v))), (za 34, .inl (k 0, 6, .inl (upd CW co y)))]) rfl (fun H locs hw => ?_)
              refine lv_aload_n hx hb d_Md_corner_97 rfl (lv_at hl 0 rfl) ?_
              refine lv_dup hx hb d_Md_corner_98 rfl ?_
              refine b_get (T := F_Md) hm hw 0 rfl rfl (fun w h => uw_of w (u_Md w h)) 32 (by decide) (uw_of _ k_640) rfl d_Md_corner_99 ?_
              refine lv_iconst (v := nI 1) hx hb d_Md_corner_102 (by decide) ?_
              refine lv_iadd hx hb d_Md_corner_103 ?_
              refine b_ti (nI_add co 1) ?_
              refine b_put (T := F_Md) hm hw 0 rfl rfl (fun w h => uw_of w (u_Md w h)) t_Md t_Md_ok n_Md 32 (by decide) (uw_of _ k_640) rfl rfl rfl (Nat.le_of_ble_eq_true rfl) d_Md_corner_104 (w1 := [(md, .inr (7, mdL za 0 cn ov sn kn fd cst (co + 1) tb)), (za 33, .inl (k 0, 6, .inl (upd CA co v))), (za 34, .inl (k 0, 6, .inl (upd CW co y)))]) rfl (fun H locs hw => ?_)
              refine lv_aload_n hx hb d_Md_corner_107 rfl (lv_at hl 0 rfl) ?_
              refine b_get (T := F_Md) hm hw 0 rfl rfl (fun w h => uw_of w (u_Md w h)) 32 (by decide) (uw_of _ k_640) rfl d_Md_corner_108 ?_
              exact b_iret (post := fun (r : Int32) (u : Unit) => r = nI (co + 1)) (w' := fun u => [(md, .inr (7, mdL za 0 cn ov sn kn fd cst (co + 1) tb)), (za 33, .inl (k 0, 6, .inl (upd CA co v))), (za 34, .inl (k 0, 6, .inl (upd CW co y)))]) () hm hw (rfl) d_Md_corner_111
            · skip
              exact absurd c_72_6 (by decide)
          · skip
            exact absurd hroom (by unfold lnRoom; grind)
    · skip
      exact absurd c_22_1 (by decide)

set_option maxHeartbeats 4000000 in
set_option maxRecDepth 100000 in
theorem c_Md_ground_t1 (l : Launch) (D : va_G) (k : Nat → ClassId) (sz : Nat) (md : Nat) (za : Nat → Nat) (th cn ov sn kn fd : Nat) (cst : Int64) (co tb : Nat) (v : Int32) (GR : Nat → Int32) (hz : tb ≤ 36) (hv9 : ¬ ((nI 0 ≤ v ∧ v ≤ nI 1000) ∧ (tb = 0 ∨ GR (tb - 1) ≤ v))) : Met l y_Md_ground (uw y_Md_ground b_Md_ground 2 (some .int)) (rU 1 0 0) (va_Pc [.ref md, .int v] (bP (gU D k) [(md, .inr (7, mdL za th cn ov sn kn fd cst co tb)), (za 36, .inl (k 0, 36, .inl GR))] sz)) (va_Qi (fun (r : Int32) (_ : Unit) => r = 0) (fun u => bQ (gU D k) (va_A [(md, .inr (7, mdL za th cn ov sn kn fd cst co tb)), (za 36, .inl (k 0, 36, .inl GR))] sz) ([(md, .inr (7, mdL za 1 cn ov sn kn fd cst co tb)), (za 36, .inl (k 0, 36, .inl GR))])) (va_A [(md, .inr (7, mdL za th cn ov sn kn fd cst co tb)), (za 36, .inl (k 0, 36, .inl GR))] sz)) (rU 1 0 0).cells (rU 1 0 0).slots (va_A [(md, .inr (7, mdL za th cn ov sn kn fd cst co tb)), (za 36, .inl (k 0, 36, .inl GR))] sz) := by
  refine b_start (y := y_Md_ground) (maxL := 2) (ret := (some .int)) (cc := b_Md_ground) (ws' := ut) (rm := rU 1 0 0) (av := [.ref md, .int v]) (g := gU D k) (ws := [(md, .inr (7, mdL za th cn ov sn kn fd cst co tb)), (za 36, .inl (k 0, 36, .inl GR))]) (sz := sz) (Qc := fun A => va_Qi (fun (r : Int32) (_ : Unit) => r = 0) (fun u => bQ (gU D k) A ([(md, .inr (7, mdL za 1 cn ov sn kn fd cst co tb)), (za 36, .inl (k 0, 36, .inl GR))])) A) (by decide +kernel) (Nat.le_of_ble_eq_true rfl) ?_
  intro p e s m below meth c A hm hnm hw ls hl
  have hl : lv_has ls 2 [(0, .ref md), (1, .int v)] := hl
  have hx := hm.1
  have hb := hm.2.1
  have hown := hm.2.2.2.2.1
  have hts := hm.2.2.2.2.2.1
  refine lv_aload_n hx hb d_Md_ground_0 rfl (lv_at hl 0 rfl) ?_
  refine lv_iload_n hx hb d_Md_ground_1 rfl (lv_at hl 1 rfl) ?_
  refine lv_iconst (v := nI 0) hx hb d_Md_ground_2 (by decide) ?_
  refine lv_sipush (v := nI 1000) hx hb d_Md_ground_3 (by decide) ?_
  refine b_goi (wr := [(md, .inr (7, mdL za th cn ov sn kn fd cst co tb)), (za 36, .inl (k 0, 36, .inl GR))]) (b_runS (wc := []) (As := [.int v, .int (nI 0), .int (nI 1000)]) (rest := [.ref md]) hm hw (va_cwS 3 hts (gS2 uw_of k_733 k_731 k_732 k_9) rfl rfl rfl (by decide +kernel) ⟨by decide, by decide⟩) (c_Md_in l D k _ v (nI 0) (nI 1000)) [] (by decide) rfl rfl hl.1 rfl (Nat.le_of_ble_eq_true rfl) d_Md_ground_6 ⟨by decide, by decide⟩) hw [] [0, 1] rfl rfl (by decide) (by decide) (fun r6 _ H locs hp6 hw => ?_)
  have hw : bW (gU D k) A s H locs [(md, .inr (7, mdL za th cn ov sn kn fd cst co tb)), (za 36, .inl (k 0, 36, .inl GR))] := hw.sub [0, 1] (by decide) rfl
  rcases hp6 with ⟨hr6, hp6⟩ | ⟨hr6, hp6⟩
  · skip
    refine b_ti (y := nI 1) hr6 ?_
    refine lv_if_eq (tgt := 34) hx hb d_Md_ground_9 (by decide) (fun c_9_0 => ?_) (fun c_9_0 => ?_)
    · skip
      exact absurd c_9_0 (by decide)
    · skip
      refine lv_aload_n hx hb d_Md_ground_12 rfl (lv_at hl 0 rfl) ?_
      refine b_get (T := F_Md) hm hw 0 rfl rfl (fun w h => uw_of w (u_Md w h)) 35 (by decide) (uw_of _ k_643) rfl d_Md_ground_13 ?_
      refine lv_if_le (tgt := 38) hx hb d_Md_ground_16 (by decide) (fun c_16_1 => ?_) (fun c_16_1 => ?_)
      · skip
        have h_16_1 : tb ≤ 0 := yle0 c_16_1 (by omega) (by omega)
        exact absurd (by grind) hv9
      · skip
        have h_16_1 : 0 < tb := ygtN0 c_16_1 (by omega) (by omega)
        refine lv_iload_n hx hb d_Md_ground_19 rfl (lv_at hl 1 rfl) ?_
        refine lv_aload_n hx hb d_Md_ground_20 rfl (lv_at hl 0 rfl) ?_
        refine b_get (T := F_Md) hm hw 0 rfl rfl (fun w h => uw_of w (u_Md w h)) 36 (by decide) (uw_of _ k_644) rfl d_Md_ground_21 ?_
        refine lv_aload_n hx hb d_Md_ground_24 rfl (lv_at hl 0 rfl) ?_
        refine b_get (T := F_Md) hm hw 0 rfl rfl (fun w h => uw_of w (u_Md w h)) 35 (by decide) (uw_of _ k_643) rfl d_Md_ground_25 ?_
        refine lv_iconst (v := nI 1) hx hb d_Md_ground_28 (by decide) ?_
        refine lv_isub hx hb d_Md_ground_29 ?_
        refine b_ti (pk_sub (a := tb) (b := 1) (by omega)) ?_
        refine b_iald (i := tb - 1) hm hw 1 0 rfl rfl (by omega) (by omega) d_Md_ground_30 ?_
        refine lv_icmp_ge (tgt := 38) hx hb d_Md_ground_31 (by decide) (fun c_31_2 => ?_) (fun c_31_2 => ?_)
        · skip
          exact absurd (by grind) hv9
        · skip
          refine lv_iconst (v := nI 1) hx hb d_Md_ground_34 (by decide) ?_
          refine lv_goto (tgt := 52) hx hb d_Md_ground_35 (by decide) ?_
          refine b_put (T := F_Md) hm hw 0 rfl rfl (fun w h => uw_of w (u_Md w h)) t_Md t_Md_ok n_Md 0 (by decide) (uw_of _ k_608) rfl rfl rfl (Nat.le_of_ble_eq_true rfl) d_Md_ground_52 (w1 := [(md, .inr (7, mdL za 1 cn ov sn kn fd cst co tb)), (za 36, .inl (k 0, 36, .inl GR))]) rfl (fun H locs hw => ?_)
          refine lv_aload_n hx hb d_Md_ground_55 rfl (lv_at hl 0 rfl) ?_
          refine b_get (T := F_Md) hm hw 0 rfl rfl (fun w h => uw_of w (u_Md w h)) 0 (by decide) (uw_of _ k_608) rfl d_Md_ground_56 ?_
          refine lv_if_le (tgt := 64) hx hb d_Md_ground_59 (by decide) (fun c_59_3 => ?_) (fun c_59_3 => ?_)
          · skip
            exact absurd c_59_3 (by decide)
          · skip
            refine lv_iconst (v := nI 0) hx hb d_Md_ground_62 (by decide) ?_
            exact b_iret (post := fun (r : Int32) (_ : Unit) => r = 0) (w' := fun u => [(md, .inr (7, mdL za 1 cn ov sn kn fd cst co tb)), (za 36, .inl (k 0, 36, .inl GR))]) () hm hw (rfl) d_Md_ground_63
  · skip
    refine b_ti (y := nI 0) hr6 ?_
    refine lv_if_eq (tgt := 34) hx hb d_Md_ground_9 (by decide) (fun c_9_4 => ?_) (fun c_9_4 => ?_)
    · skip
      refine lv_iconst (v := nI 1) hx hb d_Md_ground_34 (by decide) ?_
      refine lv_goto (tgt := 52) hx hb d_Md_ground_35 (by decide) ?_
      refine b_put (T := F_Md) hm hw 0 rfl rfl (fun w h => uw_of w (u_Md w h)) t_Md t_Md_ok n_Md 0 (by decide) (uw_of _ k_608) rfl rfl rfl (Nat.le_of_ble_eq_true rfl) d_Md_ground_52 (w1 := [(md, .inr (7, mdL za 1 cn ov sn kn fd cst co tb)), (za 36, .inl (k 0, 36, .inl GR))]) rfl (fun H locs hw => ?_)
      refine lv_aload_n hx hb d_Md_ground_55 rfl (lv_at hl 0 rfl) ?_
      refine b_get (T := F_Md) hm hw 0 rfl rfl (fun w h => uw_of w (u_Md w h)) 0 (by decide) (uw_of _ k_608) rfl d_Md_ground_56 ?_
      refine lv_if_le (tgt := 64) hx hb d_Md_ground_59 (by decide) (fun c_59_5 => ?_) (fun c_59_5 => ?_)
      · skip
        exact absurd c_59_5 (by decide)
      · skip
        refine lv_iconst (v := nI 0) hx hb d_Md_ground_62 (by decide) ?_
        exact b_iret (post := fun (r : Int32) (_ : Unit) => r = 0) (w' := fun u => [(md, .inr (7, mdL za 1 cn ov sn kn fd cst co tb)), (za 36, .inl (k 0, 36, .inl GR))]) () hm hw (rfl) d_Md_ground_63
    · skip
      exact absurd c_9_4 (by decide)

set_option maxHeartbeats 4000000 in
set_option maxRecDepth 100000 in
theorem c_Md_ground_t2 (l : Launch) (D : va_G) (k : Nat → ClassId) (sz : Nat) (md : Nat) (za : Nat → Nat) (th cn ov sn kn fd : Nat) (cst : Int64) (co tb : Nat) (GR : Nat → Int32) (v : Int32) (hz : tb ≤ 36) (hv9 : (nI 0 ≤ v ∧ v ≤ nI 1000)) (hl9 : tb = 0 ∨ GR (tb - 1) ≤ v) (hs9 : tb = 36) : Met l y_Md_ground (uw y_Md_ground b_Md_ground 2 (some .int)) (rU 1 0 0) (va_Pc [.ref md, .int v] (bP (gU D k) [(md, .inr (7, mdL za th cn ov sn kn fd cst co tb)), (za 36, .inl (k 0, 36, .inl GR))] sz)) (va_Qi (fun (r : Int32) (_ : Unit) => r = 0) (fun u => bQ (gU D k) (va_A [(md, .inr (7, mdL za th cn ov sn kn fd cst co tb)), (za 36, .inl (k 0, 36, .inl GR))] sz) ([(md, .inr (7, mdL za 2 cn ov sn kn fd cst co tb)), (za 36, .inl (k 0, 36, .inl GR))])) (va_A [(md, .inr (7, mdL za th cn ov sn kn fd cst co tb)), (za 36, .inl (k 0, 36, .inl GR))] sz)) (rU 1 0 0).cells (rU 1 0 0).slots (va_A [(md, .inr (7, mdL za th cn ov sn kn fd cst co tb)), (za 36, .inl (k 0, 36, .inl GR))] sz) := by
  refine b_start (y := y_Md_ground) (maxL := 2) (ret := (some .int)) (cc := b_Md_ground) (ws' := ut) (rm := rU 1 0 0) (av := [.ref md, .int v]) (g := gU D k) (ws := [(md, .inr (7, mdL za th cn ov sn kn fd cst co tb)), (za 36, .inl (k 0, 36, .inl GR))]) (sz := sz) (Qc := fun A => va_Qi (fun (r : Int32) (_ : Unit) => r = 0) (fun u => bQ (gU D k) A ([(md, .inr (7, mdL za 2 cn ov sn kn fd cst co tb)), (za 36, .inl (k 0, 36, .inl GR))])) A) (by decide +kernel) (Nat.le_of_ble_eq_true rfl) ?_
  intro p e s m below meth c A hm hnm hw ls hl
  have hl : lv_has ls 2 [(0, .ref md), (1, .int v)] := hl
  have hx := hm.1
  have hb := hm.2.1
  have hown := hm.2.2.2.2.1
  have hts := hm.2.2.2.2.2.1
  refine lv_aload_n hx hb d_Md_ground_0 rfl (lv_at hl 0 rfl) ?_
  refine lv_iload_n hx hb d_Md_ground_1 rfl (lv_at hl 1 rfl) ?_
  refine lv_iconst (v := nI 0) hx hb d_Md_ground_2 (by decide) ?_
  refine lv_sipush (v := nI 1000) hx hb d_Md_ground_3 (by decide) ?_
  refine b_goi (wr := [(md, .inr (7, mdL za th cn ov sn kn fd cst co tb)), (za 36, .inl (k 0, 36, .inl GR))]) (b_runS (wc := []) (As := [.int v, .int (nI 0), .int (nI 1000)]) (rest := [.ref md]) hm hw (va_cwS 3 hts (gS2 uw_of k_733 k_731 k_732 k_9) rfl rfl rfl (by decide +kernel) ⟨by decide, by decide⟩) (c_Md_in l D k _ v (nI 0) (nI 1000)) [] (by decide) rfl rfl hl.1 rfl (Nat.le_of_ble_eq_true rfl) d_Md_ground_6 ⟨by decide, by decide⟩) hw [] [0, 1] rfl rfl (by decide) (by decide) (fun r6 _ H locs hp6 hw => ?_)
  have hw : bW (gU D k) A s H locs [(md, .inr (7, mdL za th cn ov sn kn fd cst co tb)), (za 36, .inl (k 0, 36, .inl GR))] := hw.sub [0, 1] (by decide) rfl
  have hr6 : r6 = 1 := by rcases hp6 with ⟨q, _⟩ | ⟨_, q⟩; exact q; exact absurd (hv9) q
  refine b_ti (y := nI 1) hr6 ?_
  refine lv_if_eq (tgt := 34) hx hb d_Md_ground_9 (by decide) (fun c_9_0 => ?_) (fun c_9_0 => ?_)
  · skip
    exact absurd c_9_0 (by decide)
  · skip
    refine lv_aload_n hx hb d_Md_ground_12 rfl (lv_at hl 0 rfl) ?_
    refine b_get (T := F_Md) hm hw 0 rfl rfl (fun w h => uw_of w (u_Md w h)) 35 (by decide) (uw_of _ k_643) rfl d_Md_ground_13 ?_
    refine lv_if_le (tgt := 38) hx hb d_Md_ground_16 (by decide) (fun c_16_1 => ?_) (fun c_16_1 => ?_)
    · skip
      have h_16_1 : tb ≤ 0 := yle0 c_16_1 (by omega) (by omega)
      refine lv_aload_n hx hb d_Md_ground_38 rfl (lv_at hl 0 rfl) ?_
      refine b_get (T := F_Md) hm hw 0 rfl rfl (fun w h => uw_of w (u_Md w h)) 35 (by decide) (uw_of _ k_643) rfl d_Md_ground_39 ?_
      refine lv_bipush (v := nI 36) hx hb d_Md_ground_42 (by decide) ?_
      refine lv_icmp_ne (tgt := 51) hx hb d_Md_ground_44 (by decide) (fun c_44_2 => ?_) (fun c_44_2 => ?_)
      · skip
        have h_44_2 : tb ≠ 36 := yne c_44_2 (by omega) (by omega)
        exfalso; omega
      · skip
        have h_44_2 : tb = 36 := yeq c_44_2 (by omega) (by omega)
        refine lv_iconst (v := nI 2) hx hb d_Md_ground_47 (by decide) ?_
        refine lv_goto (tgt := 52) hx hb d_Md_ground_48 (by decide) ?_
        refine b_put (T := F_Md) hm hw 0 rfl rfl (fun w h => uw_of w (u_Md w h)) t_Md t_Md_ok n_Md 0 (by decide) (uw_of _ k_608) rfl rfl rfl (Nat.le_of_ble_eq_true rfl) d_Md_ground_52 (w1 := [(md, .inr (7, mdL za 2 cn ov sn kn fd cst co tb)), (za 36, .inl (k 0, 36, .inl GR))]) rfl (fun H locs hw => ?_)
        refine lv_aload_n hx hb d_Md_ground_55 rfl (lv_at hl 0 rfl) ?_
        refine b_get (T := F_Md) hm hw 0 rfl rfl (fun w h => uw_of w (u_Md w h)) 0 (by decide) (uw_of _ k_608) rfl d_Md_ground_56 ?_
        refine lv_if_le (tgt := 64) hx hb d_Md_ground_59 (by decide) (fun c_59_3 => ?_) (fun c_59_3 => ?_)
        · skip
          exact absurd c_59_3 (by decide)
        · skip
          refine lv_iconst (v := nI 0) hx hb d_Md_ground_62 (by decide) ?_
          exact b_iret (post := fun (r : Int32) (_ : Unit) => r = 0) (w' := fun u => [(md, .inr (7, mdL za 2 cn ov sn kn fd cst co tb)), (za 36, .inl (k 0, 36, .inl GR))]) () hm hw (rfl) d_Md_ground_63
    · skip
      have h_16_1 : 0 < tb := ygtN0 c_16_1 (by omega) (by omega)
      refine lv_iload_n hx hb d_Md_ground_19 rfl (lv_at hl 1 rfl) ?_
      refine lv_aload_n hx hb d_Md_ground_20 rfl (lv_at hl 0 rfl) ?_
      refine b_get (T := F_Md) hm hw 0 rfl rfl (fun w h => uw_of w (u_Md w h)) 36 (by decide) (uw_of _ k_644) rfl d_Md_ground_21 ?_
      refine lv_aload_n hx hb d_Md_ground_24 rfl (lv_at hl 0 rfl) ?_
      refine b_get (T := F_Md) hm hw 0 rfl rfl (fun w h => uw_of w (u_Md w h)) 35 (by decide) (uw_of _ k_643) rfl d_Md_ground_25 ?_
      refine lv_iconst (v := nI 1) hx hb d_Md_ground_28 (by decide) ?_
      refine lv_isub hx hb d_Md_ground_29 ?_
      refine b_ti (pk_sub (a := tb) (b := 1) (by omega)) ?_
      refine b_iald (i := tb - 1) hm hw 1 0 rfl rfl (by omega) (by omega) d_Md_ground_30 ?_
      refine lv_icmp_ge (tgt := 38) hx hb d_Md_ground_31 (by decide) (fun c_31_4 => ?_) (fun c_31_4 => ?_)
      · skip
        refine lv_aload_n hx hb d_Md_ground_38 rfl (lv_at hl 0 rfl) ?_
        refine b_get (T := F_Md) hm hw 0 rfl rfl (fun w h => uw_of w (u_Md w h)) 35 (by decide) (uw_of _ k_643) rfl d_Md_ground_39 ?_
        refine lv_bipush (v := nI 36) hx hb d_Md_ground_42 (by decide) ?_
        refine lv_icmp_ne (tgt := 51) hx hb d_Md_ground_44 (by decide) (fun c_44_5 => ?_) (fun c_44_5 => ?_)
        · skip
          have h_44_5 : tb ≠ 36 := yne c_44_5 (by omega) (by omega)
          exfalso; omega
        · skip
          have h_44_5 : tb = 36 := yeq c_44_5 (by omega) (by omega)
          refine lv_iconst (v := nI 2) hx hb d_Md_ground_47 (by decide) ?_
          refine lv_goto (tgt := 52) hx hb d_Md_ground_48 (by decide) ?_
          refine b_put (T := F_Md) hm hw 0 rfl rfl (fun w h => uw_of w (u_Md w h)) t_Md t_Md_ok n_Md 0 (by decide) (uw_of _ k_608) rfl rfl rfl (Nat.le_of_ble_eq_true rfl) d_Md_ground_52 (w1 := [(md, .inr (7, mdL za 2 cn ov sn kn fd cst co tb)), (za 36, .inl (k 0, 36, .inl GR))]) rfl (fun H locs hw => ?_)
          refine lv_aload_n hx hb d_Md_ground_55 rfl (lv_at hl 0 rfl) ?_
          refine b_get (T := F_Md) hm hw 0 rfl rfl (fun w h => uw_of w (u_Md w h)) 0 (by decide) (uw_of _ k_608) rfl d_Md_ground_56 ?_
          refine lv_if_le (tgt := 64) hx hb d_Md_ground_59 (by decide) (fun c_59_6 => ?_) (fun c_59_6 => ?_)
          · skip
            exact absurd c_59_6 (by decide)
          · skip
            refine lv_iconst (v := nI 0) hx hb d_Md_ground_62 (by decide) ?_
            exact b_iret (post := fun (r : Int32) (_ : Unit) => r = 0) (w' := fun u => [(md, .inr (7, mdL za 2 cn ov sn kn fd cst co tb)), (za 36, .inl (k 0, 36, .inl GR))]) () hm hw (rfl) d_Md_ground_63
      · skip
        exfalso; rcases hl9 with q | q; omega; grind

set_option maxHeartbeats 4000000 in
set_option maxRecDepth 100000 in
theorem c_Md_ground (l : Launch) (D : va_G) (k : Nat → ClassId) (sz : Nat) (md : Nat) (za : Nat → Nat) (th cn ov sn kn fd : Nat) (cst : Int64) (co tb : Nat) (GR : Nat → Int32) (v : Int32) (hz : tb ≤ 36) (hv9 : (nI 0 ≤ v ∧ v ≤ nI 1000)) (hl9 : tb = 0 ∨ GR (tb - 1) ≤ v) (hs9 : tb < 36) : Met l y_Md_ground (uw y_Md_ground b_Md_ground 2 (some .int)) (rU 1 0 0) (va_Pc [.ref md, .int v] (bP (gU D k) [(md, .inr (7, mdL za th cn ov sn kn fd cst co tb)), (za 36, .inl (k 0, 36, .inl GR))] sz)) (va_Qi (fun (r : Int32) (u : Unit) => r = nI (tb + 1)) (fun u => bQ (gU D k) (va_A [(md, .inr (7, mdL za th cn ov sn kn fd cst co tb)), (za 36, .inl (k 0, 36, .inl GR))] sz) ([(md, .inr (7, mdL za 0 cn ov sn kn fd cst co (tb + 1))), (za 36, .inl (k 0, 36, .inl (upd GR tb v)))])) (va_A [(md, .inr (7, mdL za th cn ov sn kn fd cst co tb)), (za 36, .inl (k 0, 36, .inl GR))] sz)) (rU 1 0 0).cells (rU 1 0 0).slots (va_A [(md, .inr (7, mdL za th cn ov sn kn fd cst co tb)), (za 36, .inl (k 0, 36, .inl GR))] sz) := by
  refine b_start (y := y_Md_ground) (maxL := 2) (ret := (some .int)) (cc := b_Md_ground) (ws' := ut) (rm := rU 1 0 0) (av := [.ref md, .int v]) (g := gU D k) (ws := [(md, .inr (7, mdL za th cn ov sn kn fd cst co tb)), (za 36, .inl (k 0, 36, .inl GR))]) (sz := sz) (Qc := fun A => va_Qi (fun (r : Int32) (u : Unit) => r = nI (tb + 1)) (fun u => bQ (gU D k) A ([(md, .inr (7, mdL za 0 cn ov sn kn fd cst co (tb + 1))), (za 36, .inl (k 0, 36, .inl (upd GR tb v)))])) A) (by decide +kernel) (Nat.le_of_ble_eq_true rfl) ?_
  intro p e s m below meth c A hm hnm hw ls hl
  have hl : lv_has ls 2 [(0, .ref md), (1, .int v)] := hl
  have hx := hm.1
  have hb := hm.2.1
  have hown := hm.2.2.2.2.1
  have hts := hm.2.2.2.2.2.1
  refine lv_aload_n hx hb d_Md_ground_0 rfl (lv_at hl 0 rfl) ?_
  refine lv_iload_n hx hb d_Md_ground_1 rfl (lv_at hl 1 rfl) ?_
  refine lv_iconst (v := nI 0) hx hb d_Md_ground_2 (by decide) ?_
  refine lv_sipush (v := nI 1000) hx hb d_Md_ground_3 (by decide) ?_
  refine b_goi (wr := [(md, .inr (7, mdL za th cn ov sn kn fd cst co tb)), (za 36, .inl (k 0, 36, .inl GR))]) (b_runS (wc := []) (As := [.int v, .int (nI 0), .int (nI 1000)]) (rest := [.ref md]) hm hw (va_cwS 3 hts (gS2 uw_of k_733 k_731 k_732 k_9) rfl rfl rfl (by decide +kernel) ⟨by decide, by decide⟩) (c_Md_in l D k _ v (nI 0) (nI 1000)) [] (by decide) rfl rfl hl.1 rfl (Nat.le_of_ble_eq_true rfl) d_Md_ground_6 ⟨by decide, by decide⟩) hw [] [0, 1] rfl rfl (by decide) (by decide) (fun r6 _ H locs hp6 hw => ?_)
  have hw : bW (gU D k) A s H locs [(md, .inr (7, mdL za th cn ov sn kn fd cst co tb)), (za 36, .inl (k 0, 36, .inl GR))] := hw.sub [0, 1] (by decide) rfl
  have hr6 : r6 = 1 := by rcases hp6 with ⟨q, _⟩ | ⟨_, q⟩; exact q; exact absurd (hv9) q
  refine b_ti (y := nI 1) hr6 ?_
  refine lv_if_eq (tgt := 34) hx hb d_Md_ground_9 (by decide) (fun c_9_0 => ?_) (fun c_9_0 => ?_)
  · skip
    exact absurd c_9_0 (by decide)
  · skip
    refine lv_aload_n hx hb d_Md_ground_12 rfl (lv_at hl 0 rfl) ?_
    refine b_get (T := F_Md) hm hw 0 rfl rfl (fun w h => uw_of w (u_Md w h)) 35 (by decide) (uw_of _ k_643) rfl d_Md_ground_13 ?_
    refine lv_if_le (tgt := 38) hx hb d_Md_ground_16 (by decide) (fun c_16_1 => ?_) (fun c_16_1 => ?_)
    · skip
      have h_16_1 : tb ≤ 0 := yle0 c_16_1 (by omega) (by omega)
      refine lv_aload_n hx hb d_Md_ground_38 rfl (lv_at hl 0 rfl) ?_
      refine b_get (T := F_Md) hm hw 0 rfl rfl (fun w h => uw_of w (u_Md w h)) 35 (by decide) (uw_of _ k_643) rfl d_Md_ground_39 ?_
      refine lv_bipush (v := nI 36) hx hb d_Md_ground_42 (by decide) ?_
      refine lv_icmp_ne (tgt := 51) hx hb d_Md_ground_44 (by decide) (fun c_44_2 => ?_) (fun c_44_2 => ?_)
      · skip
        have h_44_2 : tb ≠ 36 := yne c_44_2 (by omega) (by omega)
        refine lv_iconst (v := nI 0) hx hb d_Md_ground_51 (by decide) ?_
        refine b_put (T := F_Md) hm hw 0 rfl rfl (fun w h => uw_of w (u_Md w h)) t_Md t_Md_ok n_Md 0 (by decide) (uw_of _ k_608) rfl rfl rfl (Nat.le_of_ble_eq_true rfl) d_Md_ground_52 (w1 := [(md, .inr (7, mdL za 0 cn ov sn kn fd cst co tb)), (za 36, .inl (k 0, 36, .inl GR))]) rfl (fun H locs hw => ?_)
        refine lv_aload_n hx hb d_Md_ground_55 rfl (lv_at hl 0 rfl) ?_
        refine b_get (T := F_Md) hm hw 0 rfl rfl (fun w h => uw_of w (u_Md w h)) 0 (by decide) (uw_of _ k_608) rfl d_Md_ground_56 ?_
        refine lv_if_le (tgt := 64) hx hb d_Md_ground_59 (by decide) (fun c_59_3 => ?_) (fun c_59_3 => ?_)
        · skip
          refine lv_aload_n hx hb d_Md_ground_64 rfl (lv_at hl 0 rfl) ?_
          refine b_get (T := F_Md) hm hw 0 rfl rfl (fun w h => uw_of w (u_Md w h)) 36 (by decide) (uw_of _ k_644) rfl d_Md_ground_65 ?_
          refine lv_aload_n hx hb d_Md_ground_68 rfl (lv_at hl 0 rfl) ?_
          refine b_get (T := F_Md) hm hw 0 rfl rfl (fun w h => uw_of w (u_Md w h)) 35 (by decide) (uw_of _ k_643) rfl d_Md_ground_69 ?_
          refine lv_iload_n hx hb d_Md_ground_72 rfl (lv_at hl 1 rfl) ?_
          refine b_iast (i := tb) hm hw 1 0 rfl rfl (by omega) (by omega) d_Md_ground_73 (w1 := [(md, .inr (7, mdL za 0 cn ov sn kn fd cst co tb)), (za 36, .inl (k 0, 36, .inl (upd GR tb v)))]) rfl (fun H locs hw => ?_)
          refine lv_aload_n hx hb d_Md_ground_74 rfl (lv_at hl 0 rfl) ?_
          refine lv_dup hx hb d_Md_ground_75 rfl ?_
          refine b_get (T := F_Md) hm hw 0 rfl rfl (fun w h => uw_of w (u_Md w h)) 35 (by decide) (uw_of _ k_643) rfl d_Md_ground_76 ?_
          refine lv_iconst (v := nI 1) hx hb d_Md_ground_79 (by decide) ?_
          refine lv_iadd hx hb d_Md_ground_80 ?_
          refine b_ti (nI_add tb 1) ?_
          refine b_put (T := F_Md) hm hw 0 rfl rfl (fun w h => uw_of w (u_Md w h)) t_Md t_Md_ok n_Md 35 (by decide) (uw_of _ k_643) rfl rfl rfl (Nat.le_of_ble_eq_true rfl) d_Md_ground_81 (w1 := [(md, .inr (7, mdL za 0 cn ov sn kn fd cst co (tb + 1))), (za 36, .inl (k 0, 36, .inl (upd GR tb v)))]) rfl (fun H locs hw => ?_)
          refine lv_aload_n hx hb d_Md_ground_84 rfl (lv_at hl 0 rfl) ?_
          refine b_get (T := F_Md) hm hw 0 rfl rfl (fun w h => uw_of w (u_Md w h)) 35 (by decide) (uw_of _ k_643) rfl d_Md_ground_85 ?_
          exact b_iret (post := fun (r : Int32) (u : Unit) => r = nI (tb + 1)) (w' := fun u => [(md, .inr (7, mdL za 0 cn ov sn kn fd cst co (tb + 1))), (za 36, .inl (k 0, 36, .inl (upd GR tb v)))]) () hm hw (rfl) d_Md_ground_88
        · skip
          exact absurd c_59_3 (by decide)
      · skip
        have h_44_2 : tb = 36 := yeq c_44_2 (by omega) (by omega)
        exfalso; omega
    · skip
      have h_16_1 : 0 < tb := ygtN0 c_16_1 (by omega) (by omega)
      refine lv_iload_n hx hb d_Md_ground_19 rfl (lv_at hl 1 rfl) ?_
      refine lv_aload_n hx hb d_Md_ground_20 rfl (lv_at hl 0 rfl) ?_
      refine b_get (T := F_Md) hm hw 0 rfl rfl (fun w h => uw_of w (u_Md w h)) 36 (by decide) (uw_of _ k_644) rfl d_Md_ground_21 ?_
      refine lv_aload_n hx hb d_Md_ground_24 rfl (lv_at hl 0 rfl) ?_
      refine b_get (T := F_Md) hm hw 0 rfl rfl (fun w h => uw_of w (u_Md w h)) 35 (by decide) (uw_of _ k_643) rfl d_Md_ground_25 ?_
      refine lv_iconst (v := nI 1) hx hb d_Md_ground_28 (by decide) ?_
      refine lv_isub hx hb d_Md_ground_29 ?_
      refine b_ti (pk_sub (a := tb) (b := 1) (by omega)) ?_
      refine b_iald (i := tb - 1) hm hw 1 0 rfl rfl (by omega) (by omega) d_Md_ground_30 ?_
      refine lv_icmp_ge (tgt := 38) hx hb d_Md_ground_31 (by decide) (fun c_31_4 => ?_) (fun c_31_4 => ?_)
      · skip
        refine lv_aload_n hx hb d_Md_ground_38 rfl (lv_at hl 0 rfl) ?_
        refine b_get (T := F_Md) hm hw 0 rfl rfl (fun w h => uw_of w (u_Md w h)) 35 (by decide) (uw_of _ k_643) rfl d_Md_ground_39 ?_
        refine lv_bipush (v := nI 36) hx hb d_Md_ground_42 (by decide) ?_
        refine lv_icmp_ne (tgt := 51) hx hb d_Md_ground_44 (by decide) (fun c_44_5 => ?_) (fun c_44_5 => ?_)
        · skip
          have h_44_5 : tb ≠ 36 := yne c_44_5 (by omega) (by omega)
          refine lv_iconst (v := nI 0) hx hb d_Md_ground_51 (by decide) ?_
          refine b_put (T := F_Md) hm hw 0 rfl rfl (fun w h => uw_of w (u_Md w h)) t_Md t_Md_ok n_Md 0 (by decide) (uw_of _ k_608) rfl rfl rfl (Nat.le_of_ble_eq_true rfl) d_Md_ground_52 (w1 := [(md, .inr (7, mdL za 0 cn ov sn kn fd cst co tb)), (za 36, .inl (k 0, 36, .inl GR))]) rfl (fun H locs hw => ?_)
          refine lv_aload_n hx hb d_Md_ground_55 rfl (lv_at hl 0 rfl) ?_
          refine b_get (T := F_Md) hm hw 0 rfl rfl (fun w h => uw_of w (u_Md w h)) 0 (by decide) (uw_of _ k_608) rfl d_Md_ground_56 ?_
          refine lv_if_le (tgt := 64) hx hb d_Md_ground_59 (by decide) (fun c_59_6 => ?_) (fun c_59_6 => ?_)
          · skip
            refine lv_aload_n hx hb d_Md_ground_64 rfl (lv_at hl 0 rfl) ?_
            refine b_get (T := F_Md) hm hw 0 rfl rfl (fun w h => uw_of w (u_Md w h)) 36 (by decide) (uw_of _ k_644) rfl d_Md_ground_65 ?_
            refine lv_aload_n hx hb d_Md_ground_68 rfl (lv_at hl 0 rfl) ?_
            refine b_get (T := F_Md) hm hw 0 rfl rfl (fun w h => uw_of w (u_Md w h)) 35 (by decide) (uw_of _ k_643) rfl d_Md_ground_69 ?_
            refine lv_iload_n hx hb d_Md_ground_72 rfl (lv_at hl 1 rfl) ?_
            refine b_iast (i := tb) hm hw 1 0 rfl rfl (by omega) (by omega) d_Md_ground_73 (w1 := [(md, .inr (7, mdL za 0 cn ov sn kn fd cst co tb)), (za 36, .inl (k 0, 36, .inl (upd GR tb v)))]) rfl (fun H locs hw => ?_)
            refine lv_aload_n hx hb d_Md_ground_74 rfl (lv_at hl 0 rfl) ?_
            refine lv_dup hx hb d_Md_ground_75 rfl ?_
            refine b_get (T := F_Md) hm hw 0 rfl rfl (fun w h => uw_of w (u_Md w h)) 35 (by decide) (uw_of _ k_643) rfl d_Md_ground_76 ?_
            refine lv_iconst (v := nI 1) hx hb d_Md_ground_79 (by decide) ?_
            refine lv_iadd hx hb d_Md_ground_80 ?_
            refine b_ti (nI_add tb 1) ?_
            refine b_put (T := F_Md) hm hw 0 rfl rfl (fun w h => uw_of w (u_Md w h)) t_Md t_Md_ok n_Md 35 (by decide) (uw_of _ k_643) rfl rfl rfl (Nat.le_of_ble_eq_true rfl) d_Md_ground_81 (w1 := [(md, .inr (7, mdL za 0 cn ov sn kn fd cst co (tb + 1))), (za 36, .inl (k 0, 36, .inl (upd GR tb v)))]) rfl (fun H locs hw => ?_)
            refine lv_aload_n hx hb d_Md_ground_84 rfl (lv_at hl 0 rfl) ?_
            refine b_get (T := F_Md) hm hw 0 rfl rfl (fun w h => uw_of w (u_Md w h)) 35 (by decide) (uw_of _ k_643) rfl d_Md_ground_85 ?_
            exact b_iret (post := fun (r : Int32) (u : Unit) => r = nI (tb + 1)) (w' := fun u => [(md, .inr (7, mdL za 0 cn ov sn kn fd cst co (tb + 1))), (za 36, .inl (k 0, 36, .inl (upd GR tb v)))]) () hm hw (rfl) d_Md_ground_88
          · skip
            exact absurd c_59_6 (by decide)
        · skip
          have h_44_5 : tb = 36 := yeq c_44_5 (by omega) (by omega)
          exfalso; omega
      · skip
        exfalso; rcases hl9 with q | q; omega; grind

set_option maxHeartbeats 4000000 in
set_option maxRecDepth 100000 in
theorem c_Md_load_t1 (l : Launch) (D : va_G) (k : Nat → ClassId) (sz : Nat) (md : Nat) (za : Nat → Nat) (th cn ov sn kn fd : Nat) (cst : Int64) (co tb : Nat) (h v : Int32) (hv9 : ¬ ((nI 0 ≤ h ∧ h ≤ nI 35) ∧ ((-1000) ≤ v ∧ v ≤ nI 1000))) : Met l y_Md_load (uw y_Md_load b_Md_load 4 (some .int)) (rU 1 0 0) (va_Pc [.ref md, .int h, .int v] (bP (gU D k) [(md, .inr (7, mdL za th cn ov sn kn fd cst co tb))] sz)) (va_Qi (fun (r : Int32) (_ : Unit) => r = 0) (fun u => bQ (gU D k) (va_A [(md, .inr (7, mdL za th cn ov sn kn fd cst co tb))] sz) ([(md, .inr (7, mdL za 1 cn ov sn kn fd cst co tb))])) (va_A [(md, .inr (7, mdL za th cn ov sn kn fd cst co tb))] sz)) (rU 1 0 0).cells (rU 1 0 0).slots (va_A [(md, .inr (7, mdL za th cn ov sn kn fd cst co tb))] sz) := by
  refine b_start (y := y_Md_load) (maxL := 4) (ret := (some .int)) (cc := b_Md_load) (ws' := ut) (rm := rU 1 0 0) (av := [.ref md, .int h, .int v]) (g := gU D k) (ws := [(md, .inr (7, mdL za th cn ov sn kn fd cst co tb))]) (sz := sz) (Qc := fun A => va_Qi (fun (r : Int32) (_ : Unit) => r = 0) (fun u => bQ (gU D k) A ([(md, .inr (7, mdL za 1 cn ov sn kn fd cst co tb))])) A) (by decide +kernel) (Nat.le_of_ble_eq_true rfl) ?_
  intro p e s m below meth c A hm hnm hw ls hl
  have hl : lv_has ls 4 [(0, .ref md), (1, .int h), (2, .int v)] := hl
  have hx := hm.1
  have hb := hm.2.1
  have hown := hm.2.2.2.2.1
  have hts := hm.2.2.2.2.2.1
  refine lv_aload_n hx hb d_Md_load_0 rfl (lv_at hl 0 rfl) ?_
  refine lv_iload_n hx hb d_Md_load_1 rfl (lv_at hl 1 rfl) ?_
  refine lv_iconst (v := nI 0) hx hb d_Md_load_2 (by decide) ?_
  refine lv_bipush (v := nI 35) hx hb d_Md_load_3 (by decide) ?_
  refine b_goi (wr := [(md, .inr (7, mdL za th cn ov sn kn fd cst co tb))]) (b_runS (wc := []) (As := [.int h, .int (nI 0), .int (nI 35)]) (rest := [.ref md]) hm hw (va_cwS 3 hts (gS2 uw_of k_733 k_731 k_732 k_9) rfl rfl rfl (by decide +kernel) ⟨by decide, by decide⟩) (c_Md_in l D k _ h (nI 0) (nI 35)) [] (by decide) rfl rfl hl.1 rfl (Nat.le_of_ble_eq_true rfl) d_Md_load_5 ⟨by decide, by decide⟩) hw [] [0] rfl rfl (by decide) (by decide) (fun r5 _ H locs hp5 hw => ?_)
  have hw : bW (gU D k) A s H locs [(md, .inr (7, mdL za th cn ov sn kn fd cst co tb))] := hw.sub [0] (by decide) rfl
  rcases hp5 with ⟨hr5, hp5⟩ | ⟨hr5, hp5⟩
  · skip
    refine b_ti (y := nI 1) hr5 ?_
    refine lv_if_eq (tgt := 28) hx hb d_Md_load_8 (by decide) (fun c_8_0 => ?_) (fun c_8_0 => ?_)
    · skip
      exact absurd c_8_0 (by decide)
    · skip
      refine lv_iload_n hx hb d_Md_load_11 rfl (lv_at hl 2 rfl) ?_
      refine lv_sipush (v := (-1000)) hx hb d_Md_load_12 (by decide) ?_
      refine lv_sipush (v := nI 1000) hx hb d_Md_load_15 (by decide) ?_
      refine b_goi (wr := [(md, .inr (7, mdL za th cn ov sn kn fd cst co tb))]) (b_runS (wc := []) (As := [.int v, .int (-1000), .int (nI 1000)]) (rest := [.ref md]) hm hw (va_cwS 3 hts (gS2 uw_of k_733 k_731 k_732 k_9) rfl rfl rfl (by decide +kernel) ⟨by decide, by decide⟩) (c_Md_in l D k _ v (-1000) (nI 1000)) [] (by decide) rfl rfl hl.1 rfl (Nat.le_of_ble_eq_true rfl) d_Md_load_18 ⟨by decide, by decide⟩) hw [] [0] rfl rfl (by decide) (by decide) (fun r18 _ H locs hp18 hw => ?_)
      have hw : bW (gU D k) A s H locs [(md, .inr (7, mdL za th cn ov sn kn fd cst co tb))] := hw.sub [0] (by decide) rfl
      rcases hp18 with ⟨hr18, hp18⟩ | ⟨hr18, hp18⟩
      · skip
        refine b_ti (y := nI 1) hr18 ?_
        refine lv_if_eq (tgt := 28) hx hb d_Md_load_21 (by decide) (fun c_21_1 => ?_) (fun c_21_1 => ?_)
        · skip
          exact absurd c_21_1 (by decide)
        · skip
          exact absurd ⟨hp5, hp18⟩ hv9
      · skip
        refine b_ti (y := nI 0) hr18 ?_
        refine lv_if_eq (tgt := 28) hx hb d_Md_load_21 (by decide) (fun c_21_2 => ?_) (fun c_21_2 => ?_)
        · skip
          refine lv_iconst (v := nI 1) hx hb d_Md_load_28 (by decide) ?_
          refine b_put (T := F_Md) hm hw 0 rfl rfl (fun w h => uw_of w (u_Md w h)) t_Md t_Md_ok n_Md 0 (by decide) (uw_of _ k_608) rfl rfl rfl (Nat.le_of_ble_eq_true rfl) d_Md_load_29 (w1 := [(md, .inr (7, mdL za 1 cn ov sn kn fd cst co tb))]) rfl (fun H locs hw => ?_)
          refine lv_aload_n hx hb d_Md_load_32 rfl (lv_at hl 0 rfl) ?_
          refine b_get (T := F_Md) hm hw 0 rfl rfl (fun w h => uw_of w (u_Md w h)) 0 (by decide) (uw_of _ k_608) rfl d_Md_load_33 ?_
          refine lv_if_le (tgt := 41) hx hb d_Md_load_36 (by decide) (fun c_36_3 => ?_) (fun c_36_3 => ?_)
          · skip
            exact absurd c_36_3 (by decide)
          · skip
            refine lv_iconst (v := nI 0) hx hb d_Md_load_39 (by decide) ?_
            exact b_iret (post := fun (r : Int32) (_ : Unit) => r = 0) (w' := fun u => [(md, .inr (7, mdL za 1 cn ov sn kn fd cst co tb))]) () hm hw (rfl) d_Md_load_40
        · skip
          exact absurd c_21_2 (by decide)
  · skip
    refine b_ti (y := nI 0) hr5 ?_
    refine lv_if_eq (tgt := 28) hx hb d_Md_load_8 (by decide) (fun c_8_4 => ?_) (fun c_8_4 => ?_)
    · skip
      refine lv_iconst (v := nI 1) hx hb d_Md_load_28 (by decide) ?_
      refine b_put (T := F_Md) hm hw 0 rfl rfl (fun w h => uw_of w (u_Md w h)) t_Md t_Md_ok n_Md 0 (by decide) (uw_of _ k_608) rfl rfl rfl (Nat.le_of_ble_eq_true rfl) d_Md_load_29 (w1 := [(md, .inr (7, mdL za 1 cn ov sn kn fd cst co tb))]) rfl (fun H locs hw => ?_)
      refine lv_aload_n hx hb d_Md_load_32 rfl (lv_at hl 0 rfl) ?_
      refine b_get (T := F_Md) hm hw 0 rfl rfl (fun w h => uw_of w (u_Md w h)) 0 (by decide) (uw_of _ k_608) rfl d_Md_load_33 ?_
      refine lv_if_le (tgt := 41) hx hb d_Md_load_36 (by decide) (fun c_36_5 => ?_) (fun c_36_5 => ?_)
      · skip
        exact absurd c_36_5 (by decide)
      · skip
        refine lv_iconst (v := nI 0) hx hb d_Md_load_39 (by decide) ?_
        exact b_iret (post := fun (r : Int32) (_ : Unit) => r = 0) (w' := fun u => [(md, .inr (7, mdL za 1 cn ov sn kn fd cst co tb))]) () hm hw (rfl) d_Md_load_40
    · skip
      exact absurd c_8_4 (by decide)

set_option maxHeartbeats 4000000 in
set_option maxRecDepth 100000 in
theorem c_Md_load (l : Launch) (D : va_G) (k : Nat → ClassId) (sz : Nat) (md : Nat) (za : Nat → Nat) (th cn ov sn kn fd : Nat) (cst : Int64) (co tb : Nat) (LO : Nat → Int32) (h : Nat) (v : Int32) (hh : h < 36) (hv9 : (-1000) ≤ v ∧ v ≤ nI 1000) : Met l y_Md_load (uw y_Md_load b_Md_load 4 (some .int)) (rU 1 0 0) (va_Pc [.ref md, .int (nI h), .int v] (bP (gU D k) [(md, .inr (7, mdL za th cn ov sn kn fd cst co tb)), (za 37, .inl (k 0, 36, .inl LO))] sz)) (va_Qi (fun (r : Int32) (u : Unit) => r = LO h) (fun u => bQ (gU D k) (va_A [(md, .inr (7, mdL za th cn ov sn kn fd cst co tb)), (za 37, .inl (k 0, 36, .inl LO))] sz) ([(md, .inr (7, mdL za 0 cn ov sn kn fd cst co tb)), (za 37, .inl (k 0, 36, .inl (upd LO h v)))])) (va_A [(md, .inr (7, mdL za th cn ov sn kn fd cst co tb)), (za 37, .inl (k 0, 36, .inl LO))] sz)) (rU 1 0 0).cells (rU 1 0 0).slots (va_A [(md, .inr (7, mdL za th cn ov sn kn fd cst co tb)), (za 37, .inl (k 0, 36, .inl LO))] sz) := by
  refine b_start (y := y_Md_load) (maxL := 4) (ret := (some .int)) (cc := b_Md_load) (ws' := ut) (rm := rU 1 0 0) (av := [.ref md, .int (nI h), .int v]) (g := gU D k) (ws := [(md, .inr (7, mdL za th cn ov sn kn fd cst co tb)), (za 37, .inl (k 0, 36, .inl LO))]) (sz := sz) (Qc := fun A => va_Qi (fun (r : Int32) (u : Unit) => r = LO h) (fun u => bQ (gU D k) A ([(md, .inr (7, mdL za 0 cn ov sn kn fd cst co tb)), (za 37, .inl (k 0, 36, .inl (upd LO h v)))])) A) (by decide +kernel) (Nat.le_of_ble_eq_true rfl) ?_
  intro p e s m below meth c A hm hnm hw ls hl
  have hl : lv_has ls 4 [(0, .ref md), (1, .int (nI h)), (2, .int v)] := hl
  have hx := hm.1
  have hb := hm.2.1
  have hown := hm.2.2.2.2.1
  have hts := hm.2.2.2.2.2.1
  refine lv_aload_n hx hb d_Md_load_0 rfl (lv_at hl 0 rfl) ?_
  refine lv_iload_n hx hb d_Md_load_1 rfl (lv_at hl 1 rfl) ?_
  refine lv_iconst (v := nI 0) hx hb d_Md_load_2 (by decide) ?_
  refine lv_bipush (v := nI 35) hx hb d_Md_load_3 (by decide) ?_
  refine b_goi (wr := [(md, .inr (7, mdL za th cn ov sn kn fd cst co tb)), (za 37, .inl (k 0, 36, .inl LO))]) (b_runS (wc := []) (As := [.int (nI h), .int (nI 0), .int (nI 35)]) (rest := [.ref md]) hm hw (va_cwS 3 hts (gS2 uw_of k_733 k_731 k_732 k_9) rfl rfl rfl (by decide +kernel) ⟨by decide, by decide⟩) (c_Md_in l D k _ (nI h) (nI 0) (nI 35)) [] (by decide) rfl rfl hl.1 rfl (Nat.le_of_ble_eq_true rfl) d_Md_load_5 ⟨by decide, by decide⟩) hw [] [0, 1] rfl rfl (by decide) (by decide) (fun r5 _ H locs hp5 hw => ?_)
  have hw : bW (gU D k) A s H locs [(md, .inr (7, mdL za th cn ov sn kn fd cst co tb)), (za 37, .inl (k 0, 36, .inl LO))] := hw.sub [0, 1] (by decide) rfl
  have hr5 : r5 = 1 := by rcases hp5 with ⟨q, _⟩ | ⟨_, q⟩; exact q; exact absurd (in_n (by omega) (by omega) (by omega)) q
  refine b_ti (y := nI 1) hr5 ?_
  refine lv_if_eq (tgt := 28) hx hb d_Md_load_8 (by decide) (fun c_8_0 => ?_) (fun c_8_0 => ?_)
  · skip
    exact absurd c_8_0 (by decide)
  · skip
    refine lv_iload_n hx hb d_Md_load_11 rfl (lv_at hl 2 rfl) ?_
    refine lv_sipush (v := (-1000)) hx hb d_Md_load_12 (by decide) ?_
    refine lv_sipush (v := nI 1000) hx hb d_Md_load_15 (by decide) ?_
    refine b_goi (wr := [(md, .inr (7, mdL za th cn ov sn kn fd cst co tb)), (za 37, .inl (k 0, 36, .inl LO))]) (b_runS (wc := []) (As := [.int v, .int (-1000), .int (nI 1000)]) (rest := [.ref md]) hm hw (va_cwS 3 hts (gS2 uw_of k_733 k_731 k_732 k_9) rfl rfl rfl (by decide +kernel) ⟨by decide, by decide⟩) (c_Md_in l D k _ v (-1000) (nI 1000)) [] (by decide) rfl rfl hl.1 rfl (Nat.le_of_ble_eq_true rfl) d_Md_load_18 ⟨by decide, by decide⟩) hw [] [0, 1] rfl rfl (by decide) (by decide) (fun r18 _ H locs hp18 hw => ?_)
    have hw : bW (gU D k) A s H locs [(md, .inr (7, mdL za th cn ov sn kn fd cst co tb)), (za 37, .inl (k 0, 36, .inl LO))] := hw.sub [0, 1] (by decide) rfl
    have hr18 : r18 = 1 := by rcases hp18 with ⟨q, _⟩ | ⟨_, q⟩; exact q; exact absurd (hv9) q
    refine b_ti (y := nI 1) hr18 ?_
    refine lv_if_eq (tgt := 28) hx hb d_Md_load_21 (by decide) (fun c_21_1 => ?_) (fun c_21_1 => ?_)
    · skip
      exact absurd c_21_1 (by decide)
    · skip
      refine lv_iconst (v := nI 0) hx hb d_Md_load_24 (by decide) ?_
      refine lv_goto (tgt := 29) hx hb d_Md_load_25 (by decide) ?_
      refine b_put (T := F_Md) hm hw 0 rfl rfl (fun w h => uw_of w (u_Md w h)) t_Md t_Md_ok n_Md 0 (by decide) (uw_of _ k_608) rfl rfl rfl (Nat.le_of_ble_eq_true rfl) d_Md_load_29 (w1 := [(md, .inr (7, mdL za 0 cn ov sn kn fd cst co tb)), (za 37, .inl (k 0, 36, .inl LO))]) rfl (fun H locs hw => ?_)
      refine lv_aload_n hx hb d_Md_load_32 rfl (lv_at hl 0 rfl) ?_
      refine b_get (T := F_Md) hm hw 0 rfl rfl (fun w h => uw_of w (u_Md w h)) 0 (by decide) (uw_of _ k_608) rfl d_Md_load_33 ?_
      refine lv_if_le (tgt := 41) hx hb d_Md_load_36 (by decide) (fun c_36_2 => ?_) (fun c_36_2 => ?_)
      · skip
        refine lv_aload_n hx hb d_Md_load_41 rfl (lv_at hl 0 rfl) ?_
        refine b_get (T := F_Md) hm hw 0 rfl rfl (fun w h => uw_of w (u_Md w h)) 37 (by decide) (uw_of _ k_645) rfl d_Md_load_42 ?_
        refine lv_iload_n hx hb d_Md_load_45 rfl (lv_at hl 1 rfl) ?_
        refine b_iald (i := h) hm hw 1 0 rfl rfl (by omega) (by omega) d_Md_load_46 ?_
        refine lv_istore_n (lv' := [(3, .int (LO h)), (0, .ref md), (1, .int (nI h)), (2, .int v)]) hx hb d_Md_load_47 rfl hl (by decide) rfl (fun ls hl => ?_)
        refine lv_aload_n hx hb d_Md_load_48 rfl (lv_at hl 1 rfl) ?_
        refine b_get (T := F_Md) hm hw 0 rfl rfl (fun w h => uw_of w (u_Md w h)) 37 (by decide) (uw_of _ k_645) rfl d_Md_load_49 ?_
        refine lv_iload_n hx hb d_Md_load_52 rfl (lv_at hl 2 rfl) ?_
        refine lv_iload_n hx hb d_Md_load_53 rfl (lv_at hl 3 rfl) ?_
        refine b_iast (i := h) hm hw 1 0 rfl rfl (by omega) (by omega) d_Md_load_54 (w1 := [(md, .inr (7, mdL za 0 cn ov sn kn fd cst co tb)), (za 37, .inl (k 0, 36, .inl (upd LO h v)))]) rfl (fun H locs hw => ?_)
        refine lv_iload_n hx hb d_Md_load_55 rfl (lv_at hl 0 rfl) ?_
        exact b_iret (post := fun (r : Int32) (u : Unit) => r = LO h) (w' := fun u => [(md, .inr (7, mdL za 0 cn ov sn kn fd cst co tb)), (za 37, .inl (k 0, 36, .inl (upd LO h v)))]) () hm hw (rfl) d_Md_load_56
      · skip
        exact absurd c_36_2 (by decide)

set_option maxHeartbeats 4000000 in
set_option maxRecDepth 100000 in
theorem c_Md_ran_t1 (l : Launch) (D : va_G) (k : Nat → ClassId) (sz : Nat) (md : Nat) (za : Nat → Nat) (th cn ov sn kn fd : Nat) (cst : Int64) (co tb : Nat) (h : Int32) (hv9 : ¬ (nI 0 ≤ h ∧ h ≤ nI 35)) : Met l y_Md_ran (uw y_Md_ran b_Md_ran 2 (some .int)) (rU 1 0 0) (va_Pc [.ref md, .int h] (bP (gU D k) [(md, .inr (7, mdL za th cn ov sn kn fd cst co tb))] sz)) (va_Qi (fun (r : Int32) (_ : Unit) => r = 0) (fun u => bQ (gU D k) (va_A [(md, .inr (7, mdL za th cn ov sn kn fd cst co tb))] sz) ([(md, .inr (7, mdL za 1 cn ov sn kn fd cst co tb))])) (va_A [(md, .inr (7, mdL za th cn ov sn kn fd cst co tb))] sz)) (rU 1 0 0).cells (rU 1 0 0).slots (va_A [(md, .inr (7, mdL za th cn ov sn kn fd cst co tb))] sz) := by
  refine b_start (y := y_Md_ran) (maxL := 2) (ret := (some .int)) (cc := b_Md_ran) (ws' := ut) (rm := rU 1 0 0) (av := [.ref md, .int h]) (g := gU D k) (ws := [(md, .inr (7, mdL za th cn ov sn kn fd cst co tb))]) (sz := sz) (Qc := fun A => va_Qi (fun (r : Int32) (_ : Unit) => r = 0) (fun u => bQ (gU D k) A ([(md, .inr (7, mdL za 1 cn ov sn kn fd cst co tb))])) A) (by decide +kernel) (Nat.le_of_ble_eq_true rfl) ?_
  intro p e s m below meth c A hm hnm hw ls hl
  have hl : lv_has ls 2 [(0, .ref md), (1, .int h)] := hl
  have hx := hm.1
  have hb := hm.2.1
  have hown := hm.2.2.2.2.1
  have hts := hm.2.2.2.2.2.1
  refine lv_aload_n hx hb d_Md_ran_0 rfl (lv_at hl 0 rfl) ?_
  refine lv_iload_n hx hb d_Md_ran_1 rfl (lv_at hl 1 rfl) ?_
  refine lv_iconst (v := nI 0) hx hb d_Md_ran_2 (by decide) ?_
  refine lv_bipush (v := nI 35) hx hb d_Md_ran_3 (by decide) ?_
  refine b_goi (wr := [(md, .inr (7, mdL za th cn ov sn kn fd cst co tb))]) (b_runS (wc := []) (As := [.int h, .int (nI 0), .int (nI 35)]) (rest := [.ref md]) hm hw (va_cwS 3 hts (gS2 uw_of k_733 k_731 k_732 k_9) rfl rfl rfl (by decide +kernel) ⟨by decide, by decide⟩) (c_Md_in l D k _ h (nI 0) (nI 35)) [] (by decide) rfl rfl hl.1 rfl (Nat.le_of_ble_eq_true rfl) d_Md_ran_5 ⟨by decide, by decide⟩) hw [] [0] rfl rfl (by decide) (by decide) (fun r5 _ H locs hp5 hw => ?_)
  have hw : bW (gU D k) A s H locs [(md, .inr (7, mdL za th cn ov sn kn fd cst co tb))] := hw.sub [0] (by decide) rfl
  rcases hp5 with ⟨hr5, hp5⟩ | ⟨hr5, hp5⟩
  · skip
    refine b_ti (y := nI 1) hr5 ?_
    refine lv_if_eq (tgt := 15) hx hb d_Md_ran_8 (by decide) (fun c_8_0 => ?_) (fun c_8_0 => ?_)
    · skip
      exact absurd c_8_0 (by decide)
    · skip
      exact absurd hp5 hv9
  · skip
    refine b_ti (y := nI 0) hr5 ?_
    refine lv_if_eq (tgt := 15) hx hb d_Md_ran_8 (by decide) (fun c_8_1 => ?_) (fun c_8_1 => ?_)
    · skip
      refine lv_iconst (v := nI 1) hx hb d_Md_ran_15 (by decide) ?_
      refine b_put (T := F_Md) hm hw 0 rfl rfl (fun w h => uw_of w (u_Md w h)) t_Md t_Md_ok n_Md 0 (by decide) (uw_of _ k_608) rfl rfl rfl (Nat.le_of_ble_eq_true rfl) d_Md_ran_16 (w1 := [(md, .inr (7, mdL za 1 cn ov sn kn fd cst co tb))]) rfl (fun H locs hw => ?_)
      refine lv_aload_n hx hb d_Md_ran_19 rfl (lv_at hl 0 rfl) ?_
      refine b_get (T := F_Md) hm hw 0 rfl rfl (fun w h => uw_of w (u_Md w h)) 0 (by decide) (uw_of _ k_608) rfl d_Md_ran_20 ?_
      refine lv_if_le (tgt := 28) hx hb d_Md_ran_23 (by decide) (fun c_23_2 => ?_) (fun c_23_2 => ?_)
      · skip
        exact absurd c_23_2 (by decide)
      · skip
        refine lv_iconst (v := nI 0) hx hb d_Md_ran_26 (by decide) ?_
        exact b_iret (post := fun (r : Int32) (_ : Unit) => r = 0) (w' := fun u => [(md, .inr (7, mdL za 1 cn ov sn kn fd cst co tb))]) () hm hw (rfl) d_Md_ran_27
    · skip
      exact absurd c_8_1 (by decide)

set_option maxHeartbeats 4000000 in
set_option maxRecDepth 100000 in
theorem c_Md_told_t1 (l : Launch) (D : va_G) (k : Nat → ClassId) (sz : Nat) (md : Nat) (za : Nat → Nat) (th cn ov sn kn fd : Nat) (cst : Int64) (co tb : Nat) (h : Int32) (hv9 : ¬ (nI 0 ≤ h ∧ h ≤ nI 3)) : Met l y_Md_told (uw y_Md_told b_Md_told 2 (some .long)) (rU 1 0 0) (va_Pc [.ref md, .int h] (bP (gU D k) [(md, .inr (7, mdL za th cn ov sn kn fd cst co tb))] sz)) (va_Ql (fun (r : Int64) (_ : Unit) => r = 0) (fun u => bQ (gU D k) (va_A [(md, .inr (7, mdL za th cn ov sn kn fd cst co tb))] sz) ([(md, .inr (7, mdL za 1 cn ov sn kn fd cst co tb))])) (va_A [(md, .inr (7, mdL za th cn ov sn kn fd cst co tb))] sz)) (rU 1 0 0).cells (rU 1 0 0).slots (va_A [(md, .inr (7, mdL za th cn ov sn kn fd cst co tb))] sz) := by
  refine b_start (y := y_Md_told) (maxL := 2) (ret := (some .long)) (cc := b_Md_told) (ws' := ut) (rm := rU 1 0 0) (av := [.ref md, .int h]) (g := gU D k) (ws := [(md, .inr (7, mdL za th cn ov sn kn fd cst co tb))]) (sz := sz) (Qc := fun A => va_Ql (fun (r : Int64) (_ : Unit) => r = 0) (fun u => bQ (gU D k) A ([(md, .inr (7, mdL za 1 cn ov sn kn fd cst co tb))])) A) (by decide +kernel) (Nat.le_of_ble_eq_true rfl) ?_
  intro p e s m below meth c A hm hnm hw ls hl
  have hl : lv_has ls 2 [(0, .ref md), (1, .int h)] := hl
  have hx := hm.1
  have hb := hm.2.1
  have hown := hm.2.2.2.2.1
  have hts := hm.2.2.2.2.2.1
  refine lv_aload_n hx hb d_Md_told_0 rfl (lv_at hl 0 rfl) ?_
  refine lv_iload_n hx hb d_Md_told_1 rfl (lv_at hl 1 rfl) ?_
  refine lv_iconst (v := nI 0) hx hb d_Md_told_2 (by decide) ?_
  refine lv_iconst (v := nI 3) hx hb d_Md_told_3 (by decide) ?_
  refine b_goi (wr := [(md, .inr (7, mdL za th cn ov sn kn fd cst co tb))]) (b_runS (wc := []) (As := [.int h, .int (nI 0), .int (nI 3)]) (rest := [.ref md]) hm hw (va_cwS 3 hts (gS2 uw_of k_733 k_731 k_732 k_9) rfl rfl rfl (by decide +kernel) ⟨by decide, by decide⟩) (c_Md_in l D k _ h (nI 0) (nI 3)) [] (by decide) rfl rfl hl.1 rfl (Nat.le_of_ble_eq_true rfl) d_Md_told_4 ⟨by decide, by decide⟩) hw [] [0] rfl rfl (by decide) (by decide) (fun r4 _ H locs hp4 hw => ?_)
  have hw : bW (gU D k) A s H locs [(md, .inr (7, mdL za th cn ov sn kn fd cst co tb))] := hw.sub [0] (by decide) rfl
  rcases hp4 with ⟨hr4, hp4⟩ | ⟨hr4, hp4⟩
  · skip
    refine b_ti (y := nI 1) hr4 ?_
    refine lv_if_eq (tgt := 14) hx hb d_Md_told_7 (by decide) (fun c_7_0 => ?_) (fun c_7_0 => ?_)
    · skip
      exact absurd c_7_0 (by decide)
    · skip
      exact absurd hp4 hv9
  · skip
    refine b_ti (y := nI 0) hr4 ?_
    refine lv_if_eq (tgt := 14) hx hb d_Md_told_7 (by decide) (fun c_7_1 => ?_) (fun c_7_1 => ?_)
    · skip
      refine lv_iconst (v := nI 1) hx hb d_Md_told_14 (by decide) ?_
      refine b_put (T := F_Md) hm hw 0 rfl rfl (fun w h => uw_of w (u_Md w h)) t_Md t_Md_ok n_Md 0 (by decide) (uw_of _ k_608) rfl rfl rfl (Nat.le_of_ble_eq_true rfl) d_Md_told_15 (w1 := [(md, .inr (7, mdL za 1 cn ov sn kn fd cst co tb))]) rfl (fun H locs hw => ?_)
      refine lv_aload_n hx hb d_Md_told_18 rfl (lv_at hl 0 rfl) ?_
      refine b_get (T := F_Md) hm hw 0 rfl rfl (fun w h => uw_of w (u_Md w h)) 0 (by decide) (uw_of _ k_608) rfl d_Md_told_19 ?_
      refine lv_if_le (tgt := 29) hx hb d_Md_told_22 (by decide) (fun c_22_2 => ?_) (fun c_22_2 => ?_)
      · skip
        exact absurd c_22_2 (by decide)
      · skip
        refine lv_lconst (v := 0) hx hb d_Md_told_25 (by decide) ?_
        refine lv_goto (tgt := 35) hx hb d_Md_told_26 (by decide) ?_
        exact b_lret (post := fun (r : Int64) (_ : Unit) => r = 0) (w' := fun u => [(md, .inr (7, mdL za 1 cn ov sn kn fd cst co tb))]) () hm hw (rfl) d_Md_told_35
    · skip
      exact absurd c_7_1 (by decide)

set_option maxHeartbeats 4000000 in
set_option maxRecDepth 100000 in
theorem c_Md_ran (l : Launch) (D : va_G) (k : Nat → ClassId) (sz : Nat) (md : Nat) (za : Nat → Nat) (th cn ov sn kn fd : Nat) (cst : Int64) (co tb : Nat) (RN : Nat → Int32) (h : Nat) (hh : h < 36) (hov : ov ≤ 36) : Met l y_Md_ran (uw y_Md_ran b_Md_ran 2 (some .int)) (rU 1 0 0) (va_Pc [.ref md, .int (nI h)] (bP (gU D k) [(md, .inr (7, mdL za th cn ov sn kn fd cst co tb)), (za 14, .inl (k 0, 36, .inl RN))] sz)) (va_Qi (fun (r : Int32) (u : Unit) => r = (if h < ov then RN h else -1)) (fun u => bQ (gU D k) (va_A [(md, .inr (7, mdL za th cn ov sn kn fd cst co tb)), (za 14, .inl (k 0, 36, .inl RN))] sz) ([(md, .inr (7, mdL za 0 cn ov sn kn fd cst co tb)), (za 14, .inl (k 0, 36, .inl RN))])) (va_A [(md, .inr (7, mdL za th cn ov sn kn fd cst co tb)), (za 14, .inl (k 0, 36, .inl RN))] sz)) (rU 1 0 0).cells (rU 1 0 0).slots (va_A [(md, .inr (7, mdL za th cn ov sn kn fd cst co tb)), (za 14, .inl (k 0, 36, .inl RN))] sz) := by
  refine b_start (y := y_Md_ran) (maxL := 2) (ret := (some .int)) (cc := b_Md_ran) (ws' := ut) (rm := rU 1 0 0) (av := [.ref md, .int (nI h)]) (g := gU D k) (ws := [(md, .inr (7, mdL za th cn ov sn kn fd cst co tb)), (za 14, .inl (k 0, 36, .inl RN))]) (sz := sz) (Qc := fun A => va_Qi (fun (r : Int32) (u : Unit) => r = (if h < ov then RN h else -1)) (fun u => bQ (gU D k) A ([(md, .inr (7, mdL za 0 cn ov sn kn fd cst co tb)), (za 14, .inl (k 0, 36, .inl RN))])) A) (by decide +kernel) (Nat.le_of_ble_eq_true rfl) ?_
  intro p e s m below meth c A hm hnm hw ls hl
  have hl : lv_has ls 2 [(0, .ref md), (1, .int (nI h))] := hl
  have hx := hm.1
  have hb := hm.2.1
  have hown := hm.2.2.2.2.1
  have hts := hm.2.2.2.2.2.1
  refine lv_aload_n hx hb d_Md_ran_0 rfl (lv_at hl 0 rfl) ?_
  refine lv_iload_n hx hb d_Md_ran_1 rfl (lv_at hl 1 rfl) ?_
  refine lv_iconst (v := nI 0) hx hb d_Md_ran_2 (by decide) ?_
  refine lv_bipush (v := nI 35) hx hb d_Md_ran_3 (by decide) ?_
  refine b_goi (wr := [(md, .inr (7, mdL za th cn ov sn kn fd cst co tb)), (za 14, .inl (k 0, 36, .inl RN))]) (b_runS (wc := []) (As := [.int (nI h), .int (nI 0), .int (nI 35)]) (rest := [.ref md]) hm hw (va_cwS 3 hts (gS2 uw_of k_733 k_731 k_732 k_9) rfl rfl rfl (by decide +kernel) ⟨by decide, by decide⟩) (c_Md_in l D k _ (nI h) (nI 0) (nI 35)) [] (by decide) rfl rfl hl.1 rfl (Nat.le_of_ble_eq_true rfl) d_Md_ran_5 ⟨by decide, by decide⟩) hw [] [0, 1] rfl rfl (by decide) (by decide) (fun r5 _ H locs hp5 hw => ?_)
  have hw : bW (gU D k) A s H locs [(md, .inr (7, mdL za th cn ov sn kn fd cst co tb)), (za 14, .inl (k 0, 36, .inl RN))] := hw.sub [0, 1] (by decide) rfl
  have hr5 : r5 = 1 := by rcases hp5 with ⟨q, _⟩ | ⟨_, q⟩; exact q; exact absurd (in_n (by omega) (by omega) (by omega)) q
  refine b_ti (y := nI 1) hr5 ?_
  refine lv_if_eq (tgt := 15) hx hb d_Md_ran_8 (by decide) (fun c_8_0 => ?_) (fun c_8_0 => ?_)
  · skip
    exact absurd c_8_0 (by decide)
  · skip
    refine lv_iconst (v := nI 0) hx hb d_Md_ran_11 (by decide) ?_
    refine lv_goto (tgt := 16) hx hb d_Md_ran_12 (by decide) ?_
    refine b_put (T := F_Md) hm hw 0 rfl rfl (fun w h => uw_of w (u_Md w h)) t_Md t_Md_ok n_Md 0 (by decide) (uw_of _ k_608) rfl rfl rfl (Nat.le_of_ble_eq_true rfl) d_Md_ran_16 (w1 := [(md, .inr (7, mdL za 0 cn ov sn kn fd cst co tb)), (za 14, .inl (k 0, 36, .inl RN))]) rfl (fun H locs hw => ?_)
    refine lv_aload_n hx hb d_Md_ran_19 rfl (lv_at hl 0 rfl) ?_
    refine b_get (T := F_Md) hm hw 0 rfl rfl (fun w h => uw_of w (u_Md w h)) 0 (by decide) (uw_of _ k_608) rfl d_Md_ran_20 ?_
    refine lv_if_le (tgt := 28) hx hb d_Md_ran_23 (by decide) (fun c_23_1 => ?_) (fun c_23_1 => ?_)
    · skip
      refine lv_iload_n hx hb d_Md_ran_28 rfl (lv_at hl 1 rfl) ?_
      refine lv_aload_n hx hb d_Md_ran_29 rfl (lv_at hl 0 rfl) ?_
      refine b_get (T := F_Md) hm hw 0 rfl rfl (fun w h => uw_of w (u_Md w h)) 13 (by decide) (uw_of _ k_621) rfl d_Md_ran_30 ?_
      refine lv_icmp_ge (tgt := 45) hx hb d_Md_ran_33 (by decide) (fun c_33_2 => ?_) (fun c_33_2 => ?_)
      · skip
        have h_33_2 : ov ≤ h := yge c_33_2 (by omega) (by omega)
        refine lv_iconst (v := (-1)) hx hb d_Md_ran_45 (by decide) ?_
        exact b_iret (post := fun (r : Int32) (u : Unit) => r = (if h < ov then RN h else -1)) (w' := fun u => [(md, .inr (7, mdL za 0 cn ov sn kn fd cst co tb)), (za 14, .inl (k 0, 36, .inl RN))]) () hm hw (by first | (rw [if_pos (by omega)]; done) | (rw [if_neg (by omega)]; done)) d_Md_ran_46
      · skip
        have h_33_2 : h < ov := yltN c_33_2 (by omega) (by omega)
        refine lv_aload_n hx hb d_Md_ran_36 rfl (lv_at hl 0 rfl) ?_
        refine b_get (T := F_Md) hm hw 0 rfl rfl (fun w h => uw_of w (u_Md w h)) 14 (by decide) (uw_of _ k_622) rfl d_Md_ran_37 ?_
        refine lv_iload_n hx hb d_Md_ran_40 rfl (lv_at hl 1 rfl) ?_
        refine b_iald (i := h) hm hw 1 0 rfl rfl (by omega) (by omega) d_Md_ran_41 ?_
        refine lv_goto (tgt := 46) hx hb d_Md_ran_42 (by decide) ?_
        exact b_iret (post := fun (r : Int32) (u : Unit) => r = (if h < ov then RN h else -1)) (w' := fun u => [(md, .inr (7, mdL za 0 cn ov sn kn fd cst co tb)), (za 14, .inl (k 0, 36, .inl RN))]) () hm hw (by first | (rw [if_pos (by omega)]; done) | (rw [if_neg (by omega)]; done)) d_Md_ran_46
    · skip
      exact absurd c_23_1 (by decide)

set_option maxHeartbeats 4000000 in
set_option maxRecDepth 100000 in
theorem c_Md_told (l : Launch) (D : va_G) (k : Nat → ClassId) (sz : Nat) (md : Nat) (za : Nat → Nat) (th cn ov sn kn fd : Nat) (cst : Int64) (co tb : Nat) (SU : Nat → Int64) (h : Nat) (hh : h < 4) : Met l y_Md_told (uw y_Md_told b_Md_told 2 (some .long)) (rU 1 0 0) (va_Pc [.ref md, .int (nI h)] (bP (gU D k) [(md, .inr (7, mdL za th cn ov sn kn fd cst co tb)), (za 15, .inl (k 1, 4, .inr (.inl SU)))] sz)) (va_Ql (fun (r : Int64) (u : Unit) => r = SU h) (fun u => bQ (gU D k) (va_A [(md, .inr (7, mdL za th cn ov sn kn fd cst co tb)), (za 15, .inl (k 1, 4, .inr (.inl SU)))] sz) ([(md, .inr (7, mdL za 0 cn ov sn kn fd cst co tb)), (za 15, .inl (k 1, 4, .inr (.inl SU)))])) (va_A [(md, .inr (7, mdL za th cn ov sn kn fd cst co tb)), (za 15, .inl (k 1, 4, .inr (.inl SU)))] sz)) (rU 1 0 0).cells (rU 1 0 0).slots (va_A [(md, .inr (7, mdL za th cn ov sn kn fd cst co tb)), (za 15, .inl (k 1, 4, .inr (.inl SU)))] sz) := by
  refine b_start (y := y_Md_told) (maxL := 2) (ret := (some .long)) (cc := b_Md_told) (ws' := ut) (rm := rU 1 0 0) (av := [.ref md, .int (nI h)]) (g := gU D k) (ws := [(md, .inr (7, mdL za th cn ov sn kn fd cst co tb)), (za 15, .inl (k 1, 4, .inr (.inl SU)))]) (sz := sz) (Qc := fun A => va_Ql (fun (r : Int64) (u : Unit) => r = SU h) (fun u => bQ (gU D k) A ([(md, .inr (7, mdL za 0 cn ov sn kn fd cst co tb)), (za 15, .inl (k 1, 4, .inr (.inl SU)))])) A) (by decide +kernel) (Nat.le_of_ble_eq_true rfl) ?_
  intro p e s m below meth c A hm hnm hw ls hl
  have hl : lv_has ls 2 [(0, .ref md), (1, .int (nI h))] := hl
  have hx := hm.1
  have hb := hm.2.1
  have hown := hm.2.2.2.2.1
  have hts := hm.2.2.2.2.2.1
  refine lv_aload_n hx hb d_Md_told_0 rfl (lv_at hl 0 rfl) ?_
  refine lv_iload_n hx hb d_Md_told_1 rfl (lv_at hl 1 rfl) ?_
  refine lv_iconst (v := nI 0) hx hb d_Md_told_2 (by decide) ?_
  refine lv_iconst (v := nI 3) hx hb d_Md_told_3 (by decide) ?_
  refine b_goi (wr := [(md, .inr (7, mdL za th cn ov sn kn fd cst co tb)), (za 15, .inl (k 1, 4, .inr (.inl SU)))]) (b_runS (wc := []) (As := [.int (nI h), .int (nI 0), .int (nI 3)]) (rest := [.ref md]) hm hw (va_cwS 3 hts (gS2 uw_of k_733 k_731 k_732 k_9) rfl rfl rfl (by decide +kernel) ⟨by decide, by decide⟩) (c_Md_in l D k _ (nI h) (nI 0) (nI 3)) [] (by decide) rfl rfl hl.1 rfl (Nat.le_of_ble_eq_true rfl) d_Md_told_4 ⟨by decide, by decide⟩) hw [] [0, 1] rfl rfl (by decide) (by decide) (fun r4 _ H locs hp4 hw => ?_)
  have hw : bW (gU D k) A s H locs [(md, .inr (7, mdL za th cn ov sn kn fd cst co tb)), (za 15, .inl (k 1, 4, .inr (.inl SU)))] := hw.sub [0, 1] (by decide) rfl
  have hr4 : r4 = 1 := by rcases hp4 with ⟨q, _⟩ | ⟨_, q⟩; exact q; exact absurd (in_n (by omega) (by omega) (by omega)) q
  refine b_ti (y := nI 1) hr4 ?_
  refine lv_if_eq (tgt := 14) hx hb d_Md_told_7 (by decide) (fun c_7_0 => ?_) (fun c_7_0 => ?_)
  · skip
    exact absurd c_7_0 (by decide)
  · skip
    refine lv_iconst (v := nI 0) hx hb d_Md_told_10 (by decide) ?_
    refine lv_goto (tgt := 15) hx hb d_Md_told_11 (by decide) ?_
    refine b_put (T := F_Md) hm hw 0 rfl rfl (fun w h => uw_of w (u_Md w h)) t_Md t_Md_ok n_Md 0 (by decide) (uw_of _ k_608) rfl rfl rfl (Nat.le_of_ble_eq_true rfl) d_Md_told_15 (w1 := [(md, .inr (7, mdL za 0 cn ov sn kn fd cst co tb)), (za 15, .inl (k 1, 4, .inr (.inl SU)))]) rfl (fun H locs hw => ?_)
    refine lv_aload_n hx hb d_Md_told_18 rfl (lv_at hl 0 rfl) ?_
    refine b_get (T := F_Md) hm hw 0 rfl rfl (fun w h => uw_of w (u_Md w h)) 0 (by decide) (uw_of _ k_608) rfl d_Md_told_19 ?_
    refine lv_if_le (tgt := 29) hx hb d_Md_told_22 (by decide) (fun c_22_1 => ?_) (fun c_22_1 => ?_)
    · skip
      refine lv_aload_n hx hb d_Md_told_29 rfl (lv_at hl 0 rfl) ?_
      refine b_get (T := F_Md) hm hw 0 rfl rfl (fun w h => uw_of w (u_Md w h)) 15 (by decide) (uw_of _ k_623) rfl d_Md_told_30 ?_
      refine lv_iload_n hx hb d_Md_told_33 rfl (lv_at hl 1 rfl) ?_
      refine b_lald (i := h) hm hw 1 1 rfl rfl (by omega) (by omega) d_Md_told_34 ?_
      exact b_lret (post := fun (r : Int64) (u : Unit) => r = SU h) (w' := fun u => [(md, .inr (7, mdL za 0 cn ov sn kn fd cst co tb)), (za 15, .inl (k 1, 4, .inr (.inl SU)))]) () hm hw (rfl) d_Md_told_35
    · skip
      exact absurd c_22_1 (by decide)

set_option maxHeartbeats 4000000 in
set_option maxRecDepth 100000 in
theorem c_Md_fall_t1 (l : Launch) (D : va_G) (k : Nat → ClassId) (sz : Nat) (md : Nat) (za : Nat → Nat) (th cn ov sn kn fd : Nat) (cst : Int64) (co tb : Nat) (h : Int32) (hv9 : ¬ (nI 0 ≤ h ∧ h ≤ nI 35)) : Met l y_Md_fall (uw y_Md_fall b_Md_fall 6 (some .long)) (rU 1 0 0) (va_Pc [.ref md, .int h] (bP (gU D k) [(md, .inr (7, mdL za th cn ov sn kn fd cst co tb))] sz)) (va_Ql (fun (r : Int64) (_ : Unit) => r = 0) (fun u => bQ (gU D k) (va_A [(md, .inr (7, mdL za th cn ov sn kn fd cst co tb))] sz) ([(md, .inr (7, mdL za 1 cn ov sn kn fd cst co tb))])) (va_A [(md, .inr (7, mdL za th cn ov sn kn fd cst co tb))] sz)) (rU 1 0 0).cells (rU 1 0 0).slots (va_A [(md, .inr (7, mdL za th cn ov sn kn fd cst co tb))] sz) := by
  refine b_start (y := y_Md_fall) (maxL := 6) (ret := (some .long)) (cc := b_Md_fall) (ws' := ut) (rm := rU 1 0 0) (av := [.ref md, .int h]) (g := gU D k) (ws := [(md, .inr (7, mdL za th cn ov sn kn fd cst co tb))]) (sz := sz) (Qc := fun A => va_Ql (fun (r : Int64) (_ : Unit) => r = 0) (fun u => bQ (gU D k) A ([(md, .inr (7, mdL za 1 cn ov sn kn fd cst co tb))])) A) (by decide +kernel) (Nat.le_of_ble_eq_true rfl) ?_
  intro p e s m below meth c A hm hnm hw ls hl
  have hl : lv_has ls 6 [(0, .ref md), (1, .int h)] := hl
  have hx := hm.1
  have hb := hm.2.1
  have hown := hm.2.2.2.2.1
  have hts := hm.2.2.2.2.2.1
  refine lv_aload_n hx hb d_Md_fall_0 rfl (lv_at hl 0 rfl) ?_
  refine lv_iload_n hx hb d_Md_fall_1 rfl (lv_at hl 1 rfl) ?_
  refine lv_iconst (v := nI 0) hx hb d_Md_fall_2 (by decide) ?_
  refine lv_bipush (v := nI 35) hx hb d_Md_fall_3 (by decide) ?_
  refine b_goi (wr := [(md, .inr (7, mdL za th cn ov sn kn fd cst co tb))]) (b_runS (wc := []) (As := [.int h, .int (nI 0), .int (nI 35)]) (rest := [.ref md]) hm hw (va_cwS 3 hts (gS2 uw_of k_733 k_731 k_732 k_9) rfl rfl rfl (by decide +kernel) ⟨by decide, by decide⟩) (c_Md_in l D k _ h (nI 0) (nI 35)) [] (by decide) rfl rfl hl.1 rfl (Nat.le_of_ble_eq_true rfl) d_Md_fall_5 ⟨by decide, by decide⟩) hw [] [0] rfl rfl (by decide) (by decide) (fun r5 _ H locs hp5 hw => ?_)
  have hw : bW (gU D k) A s H locs [(md, .inr (7, mdL za th cn ov sn kn fd cst co tb))] := hw.sub [0] (by decide) rfl
  rcases hp5 with ⟨hr5, hp5⟩ | ⟨hr5, hp5⟩
  · skip
    refine b_ti (y := nI 1) hr5 ?_
    refine lv_if_eq (tgt := 15) hx hb d_Md_fall_8 (by decide) (fun c_8_0 => ?_) (fun c_8_0 => ?_)
    · skip
      exact absurd c_8_0 (by decide)
    · skip
      exact absurd hp5 hv9
  · skip
    refine b_ti (y := nI 0) hr5 ?_
    refine lv_if_eq (tgt := 15) hx hb d_Md_fall_8 (by decide) (fun c_8_1 => ?_) (fun c_8_1 => ?_)
    · skip
      refine lv_iconst (v := nI 1) hx hb d_Md_fall_15 (by decide) ?_
      refine b_put (T := F_Md) hm hw 0 rfl rfl (fun w h => uw_of w (u_Md w h)) t_Md t_Md_ok n_Md 0 (by decide) (uw_of _ k_608) rfl rfl rfl (Nat.le_of_ble_eq_true rfl) d_Md_fall_16 (w1 := [(md, .inr (7, mdL za 1 cn ov sn kn fd cst co tb))]) rfl (fun H locs hw => ?_)
      refine lv_aload_n hx hb d_Md_fall_19 rfl (lv_at hl 0 rfl) ?_
      refine b_get (T := F_Md) hm hw 0 rfl rfl (fun w h => uw_of w (u_Md w h)) 0 (by decide) (uw_of _ k_608) rfl d_Md_fall_20 ?_
      refine lv_if_le (tgt := 28) hx hb d_Md_fall_23 (by decide) (fun c_23_2 => ?_) (fun c_23_2 => ?_)
      · skip
        exact absurd c_23_2 (by decide)
      · skip
        refine lv_lconst (v := 0) hx hb d_Md_fall_26 (by decide) ?_
        exact b_lret (post := fun (r : Int64) (_ : Unit) => r = 0) (w' := fun u => [(md, .inr (7, mdL za 1 cn ov sn kn fd cst co tb))]) () hm hw (rfl) d_Md_fall_27
    · skip
      exact absurd c_8_1 (by decide)

set_option maxHeartbeats 4000000 in
set_option maxRecDepth 100000 in
theorem lp_Md_fall {l : Launch} {D : va_G} {k : Nat → ClassId} {md : Nat} {za : Nat → Nat} {th cn ov sn kn fd : Nat} {cst : Int64} {co tb : Nat} {GR : Nat → Int32} {LO : Nat → Int32} {h : Nat} (hh : h < 36) (hz : tb ≤ 36) {p : Program} {e : Env} {s : State} {m : MethodId} {below : List Frame} {meth : Method} {c : Code} {A : Nat → Prop} (hm : bM p s m (([.ref md, .int (nI h)] : List Value).toArray) meth c "HeatMachinesModel" b_Md_fall 6 (some .long) (uw y_Md_fall b_Md_fall 6 (some .long))) (hnm : meth.name = "fall") :
    ∀ (f : Nat) (i : Nat) (S : Int64), h + 2 ≤ i + f → i ≤ h + 1 → S = fallR GR LO tb h i → ∀ (H : Heap) (locs : List Loc) (ls : Array Slot), bW (gU D k) A s H locs [(md, .inr (7, mdL za 0 cn ov sn kn fd cst co tb)), (za 36, .inl (k 0, 36, .inl GR)), (za 37, .inl (k 0, 36, .inl LO))] → lv_has ls 6 [(4, .int (nI i)), (2, .long S), (0, .ref md), (1, .int (nI h))] → W p l e (rU 1 0 0) s m (([.ref md, .int (nI h)] : List Value).toArray) below meth c H locs 0 0 (MQ below (va_Ql (fun (r : Int64) (u : Unit) => r = fallR GR LO tb h (h + 1)) (fun u => bQ (gU D k) A ([(md, .inr (7, mdL za 0 cn ov sn kn fd cst co tb)), (za 36, .inl (k 0, 36, .inl GR)), (za 37, .inl (k 0, 36, .inl LO))])) A) (([.ref md, .int (nI h)] : List Value).toArray) s (rU 1 0 0).cells (rU 1 0 0).slots A) (F0 m 33 ls []) := by
  have hx := hm.1
  have hb := hm.2.1
  have hown := hm.2.2.2.2.1
  have hts := hm.2.2.2.2.2.1
  intro f
  induction f with
  | zero => intro i S hf hi hS; exfalso; omega
  | succ f ih =>
    intro i S hf hi hS H locs ls hw hl
    refine lv_iload hx hb d_Md_fall_33 (lv_at hl 0 rfl) ?_
    refine lv_iload_n hx hb d_Md_fall_35 rfl (lv_at hl 3 rfl) ?_
    refine lv_icmp_gt (tgt := 122) hx hb d_Md_fall_36 (by decide) (fun c_36_0 => ?_) (fun c_36_0 => ?_)
    · skip
      have h_36_0 : h < i := ygt c_36_0 (by omega) (by omega)
      refine lv_lload_n hx hb d_Md_fall_122 rfl (lv_at hl 1 rfl) ?_
      exact b_lret (post := fun (r : Int64) (u : Unit) => r = fallR GR LO tb h (h + 1)) (w' := fun u => [(md, .inr (7, mdL za 0 cn ov sn kn fd cst co tb)), (za 36, .inl (k 0, 36, .inl GR)), (za 37, .inl (k 0, 36, .inl LO))]) () hm hw (by first | exact hS.trans (congrArg _ (show i = h + 1 by omega)) | exact hS.trans ((fallR_0 (show tb = 0 by omega) i).trans (fallR_0 (show tb = 0 by omega) (h + 1)).symm)) d_Md_fall_123
    · skip
      have h_36_0 : i ≤ h := yleN c_36_0 (by omega) (by omega)
      refine lv_aload_n hx hb d_Md_fall_39 rfl (lv_at hl 2 rfl) ?_
      refine b_get (T := F_Md) hm hw 0 rfl rfl (fun w h => uw_of w (u_Md w h)) 35 (by decide) (uw_of _ k_643) rfl d_Md_fall_40 ?_
      refine lv_if_le (tgt := 122) hx hb d_Md_fall_43 (by decide) (fun c_43_1 => ?_) (fun c_43_1 => ?_)
      · skip
        have h_43_1 : tb ≤ 0 := yle0 c_43_1 (by omega) (by omega)
        refine lv_lload_n hx hb d_Md_fall_122 rfl (lv_at hl 1 rfl) ?_
        exact b_lret (post := fun (r : Int64) (u : Unit) => r = fallR GR LO tb h (h + 1)) (w' := fun u => [(md, .inr (7, mdL za 0 cn ov sn kn fd cst co tb)), (za 36, .inl (k 0, 36, .inl GR)), (za 37, .inl (k 0, 36, .inl LO))]) () hm hw (by first | exact hS.trans (congrArg _ (show i = h + 1 by omega)) | exact hS.trans ((fallR_0 (show tb = 0 by omega) i).trans (fallR_0 (show tb = 0 by omega) (h + 1)).symm)) d_Md_fall_123
      · skip
        have h_43_1 : 0 < tb := ygtN0 c_43_1 (by omega) (by omega)
        refine lv_iload_n hx hb d_Md_fall_46 rfl (lv_at hl 3 rfl) ?_
        refine lv_iload hx hb d_Md_fall_47 (lv_at hl 0 rfl) ?_
        refine lv_isub hx hb d_Md_fall_49 ?_
        refine b_ti (pk_sub (a := h) (b := i) (by omega)) ?_
        refine lv_aload_n hx hb d_Md_fall_50 rfl (lv_at hl 2 rfl) ?_
        refine b_get (T := F_Md) hm hw 0 rfl rfl (fun w h => uw_of w (u_Md w h)) 35 (by decide) (uw_of _ k_643) rfl d_Md_fall_51 ?_
        refine lv_icmp_ge (tgt := 69) hx hb d_Md_fall_54 (by decide) (fun c_54_2 => ?_) (fun c_54_2 => ?_)
        · skip
          have h_54_2 : tb ≤ (h - i) := yge c_54_2 (by omega) (by omega)
          refine lv_aload_n hx hb d_Md_fall_69 rfl (lv_at hl 2 rfl) ?_
          refine b_get (T := F_Md) hm hw 0 rfl rfl (fun w h => uw_of w (u_Md w h)) 36 (by decide) (uw_of _ k_644) rfl d_Md_fall_70 ?_
          refine lv_aload_n hx hb d_Md_fall_73 rfl (lv_at hl 2 rfl) ?_
          refine b_get (T := F_Md) hm hw 0 rfl rfl (fun w h => uw_of w (u_Md w h)) 35 (by decide) (uw_of _ k_643) rfl d_Md_fall_74 ?_
          refine lv_iconst (v := nI 1) hx hb d_Md_fall_77 (by decide) ?_
          refine lv_isub hx hb d_Md_fall_78 ?_
          refine b_ti (pk_sub (a := tb) (b := 1) (by omega)) ?_
          refine b_iald (i := tb - 1) hm hw 1 0 rfl rfl (by omega) (by omega) d_Md_fall_79 ?_
          refine lv_istore (lv' := [(5, .int (GR (tb - 1))), (4, .int (nI i)), (2, .long S), (0, .ref md), (1, .int (nI h))]) hx hb d_Md_fall_80  hl (by decide) rfl (fun ls hl => ?_)
          refine lv_lload_n hx hb d_Md_fall_82 rfl (lv_at hl 2 rfl) ?_
          refine lv_aload_n hx hb d_Md_fall_83 rfl (lv_at hl 3 rfl) ?_
          refine b_get (T := F_Md) hm hw 0 rfl rfl (fun w h => uw_of w (u_Md w h)) 37 (by decide) (uw_of _ k_645) rfl d_Md_fall_84 ?_
          refine lv_iload hx hb d_Md_fall_87 (lv_at hl 1 rfl) ?_
          refine b_iald (i := i) hm hw 2 0 rfl rfl (by omega) (by omega) d_Md_fall_89 ?_
          refine lv_iload hx hb d_Md_fall_90 (lv_at hl 1 rfl) ?_
          refine lv_if_ne (tgt := 99) hx hb d_Md_fall_92 (by decide) (fun c_92_3 => ?_) (fun c_92_3 => ?_)
          · skip
            have h_92_3 : i ≠ 0 := yne0 c_92_3 (by omega) (by omega)
            refine lv_aload_n hx hb d_Md_fall_99 rfl (lv_at hl 3 rfl) ?_
            refine b_get (T := F_Md) hm hw 0 rfl rfl (fun w h => uw_of w (u_Md w h)) 37 (by decide) (uw_of _ k_645) rfl d_Md_fall_100 ?_
            refine lv_iload hx hb d_Md_fall_103 (lv_at hl 1 rfl) ?_
            refine lv_iconst (v := nI 1) hx hb d_Md_fall_105 (by decide) ?_
            refine lv_isub hx hb d_Md_fall_106 ?_
            refine b_ti (pk_sub (a := i) (b := 1) (by omega)) ?_
            refine b_iald (i := i - 1) hm hw 2 0 rfl rfl (by omega) (by omega) d_Md_fall_107 ?_
            refine lv_isub hx hb d_Md_fall_108 ?_
            refine lv_i2l (v := ((LO i) - (LO (i - 1))).toInt64) hx hb d_Md_fall_109 rfl ?_
            refine lv_iload hx hb d_Md_fall_110 (lv_at hl 0 rfl) ?_
            refine lv_i2l (v := (GR (tb - 1)).toInt64) hx hb d_Md_fall_112 rfl ?_
            refine lv_lmul hx hb d_Md_fall_113 ?_
            refine lv_ladd hx hb d_Md_fall_114 ?_
            refine lv_lstore_n (lv' := [(2, .long (S + ((((LO i) - (LO (i - 1))).toInt64) * ((GR (tb - 1)).toInt64)))), (5, .int (GR (tb - 1))), (4, .int (nI i)), (0, .ref md), (1, .int (nI h))]) hx hb d_Md_fall_115 rfl hl (by decide) rfl (fun ls hl => ?_)
            refine lv_iinc (v := nI (i + 1)) (lv' := [(4, .int (nI (i + 1))), (2, .long (S + ((((LO i) - (LO (i - 1))).toInt64) * ((GR (tb - 1)).toInt64)))), (5, .int (GR (tb - 1))), (0, .ref md), (1, .int (nI h))]) hx hb d_Md_fall_116 hl (k := 2) rfl (nI_add i 1) (by decide) rfl (fun ls hl => ?_)
            refine lv_goto (tgt := 33) hx hb d_Md_fall_119 (by decide) ?_
            exact ih (i + 1) _ (by omega) (by omega) (by rw [hS]; simp only [fallR]; grind) H locs ls hw (lv_sub hl [0, 1, 3, 4] rfl)
          · skip
            have h_92_3 : i = 0 := yeq0 c_92_3 (by omega) (by omega)
            refine lv_iconst (v := nI 0) hx hb d_Md_fall_95 (by decide) ?_
            refine lv_goto (tgt := 108) hx hb d_Md_fall_96 (by decide) ?_
            refine lv_isub hx hb d_Md_fall_108 ?_
            refine lv_i2l (v := ((LO i) - (nI 0)).toInt64) hx hb d_Md_fall_109 rfl ?_
            refine lv_iload hx hb d_Md_fall_110 (lv_at hl 0 rfl) ?_
            refine lv_i2l (v := (GR (tb - 1)).toInt64) hx hb d_Md_fall_112 rfl ?_
            refine lv_lmul hx hb d_Md_fall_113 ?_
            refine lv_ladd hx hb d_Md_fall_114 ?_
            refine lv_lstore_n (lv' := [(2, .long (S + ((((LO i) - (nI 0)).toInt64) * ((GR (tb - 1)).toInt64)))), (5, .int (GR (tb - 1))), (4, .int (nI i)), (0, .ref md), (1, .int (nI h))]) hx hb d_Md_fall_115 rfl hl (by decide) rfl (fun ls hl => ?_)
            refine lv_iinc (v := nI (i + 1)) (lv' := [(4, .int (nI (i + 1))), (2, .long (S + ((((LO i) - (nI 0)).toInt64) * ((GR (tb - 1)).toInt64)))), (5, .int (GR (tb - 1))), (0, .ref md), (1, .int (nI h))]) hx hb d_Md_fall_116 hl (k := 2) rfl (nI_add i 1) (by decide) rfl (fun ls hl => ?_)
            refine lv_goto (tgt := 33) hx hb d_Md_fall_119 (by decide) ?_
            exact ih (i + 1) _ (by omega) (by omega) (by rw [hS]; simp only [fallR]; grind) H locs ls hw (lv_sub hl [0, 1, 3, 4] rfl)
        · skip
          have h_54_2 : (h - i) < tb := yltN c_54_2 (by omega) (by omega)
          refine lv_aload_n hx hb d_Md_fall_57 rfl (lv_at hl 2 rfl) ?_
          refine b_get (T := F_Md) hm hw 0 rfl rfl (fun w h => uw_of w (u_Md w h)) 36 (by decide) (uw_of _ k_644) rfl d_Md_fall_58 ?_
          refine lv_iload_n hx hb d_Md_fall_61 rfl (lv_at hl 3 rfl) ?_
          refine lv_iload hx hb d_Md_fall_62 (lv_at hl 0 rfl) ?_
          refine lv_isub hx hb d_Md_fall_64 ?_
          refine b_ti (pk_sub (a := h) (b := i) (by omega)) ?_
          refine b_iald (i := h - i) hm hw 1 0 rfl rfl (by omega) (by omega) d_Md_fall_65 ?_
          refine lv_goto (tgt := 80) hx hb d_Md_fall_66 (by decide) ?_
          refine lv_istore (lv' := [(5, .int (GR (h - i))), (4, .int (nI i)), (2, .long S), (0, .ref md), (1, .int (nI h))]) hx hb d_Md_fall_80  hl (by decide) rfl (fun ls hl => ?_)
          refine lv_lload_n hx hb d_Md_fall_82 rfl (lv_at hl 2 rfl) ?_
          refine lv_aload_n hx hb d_Md_fall_83 rfl (lv_at hl 3 rfl) ?_
          refine b_get (T := F_Md) hm hw 0 rfl rfl (fun w h => uw_of w (u_Md w h)) 37 (by decide) (uw_of _ k_645) rfl d_Md_fall_84 ?_
          refine lv_iload hx hb d_Md_fall_87 (lv_at hl 1 rfl) ?_
          refine b_iald (i := i) hm hw 2 0 rfl rfl (by omega) (by omega) d_Md_fall_89 ?_
          refine lv_iload hx hb d_Md_fall_90 (lv_at hl 1 rfl) ?_
          refine lv_if_ne (tgt := 99) hx hb d_Md_fall_92 (by decide) (fun c_92_4 => ?_) (fun c_92_4 => ?_)
          · skip
            have h_92_4 : i ≠ 0 := yne0 c_92_4 (by omega) (by omega)
            refine lv_aload_n hx hb d_Md_fall_99 rfl (lv_at hl 3 rfl) ?_
            refine b_get (T := F_Md) hm hw 0 rfl rfl (fun w h => uw_of w (u_Md w h)) 37 (by decide) (uw_of _ k_645) rfl d_Md_fall_100 ?_
            refine lv_iload hx hb d_Md_fall_103 (lv_at hl 1 rfl) ?_
            refine lv_iconst (v := nI 1) hx hb d_Md_fall_105 (by decide) ?_
            refine lv_isub hx hb d_Md_fall_106 ?_
            refine b_ti (pk_sub (a := i) (b := 1) (by omega)) ?_
            refine b_iald (i := i - 1) hm hw 2 0 rfl rfl (by omega) (by omega) d_Md_fall_107 ?_
            refine lv_isub hx hb d_Md_fall_108 ?_
            refine lv_i2l (v := ((LO i) - (LO (i - 1))).toInt64) hx hb d_Md_fall_109 rfl ?_
            refine lv_iload hx hb d_Md_fall_110 (lv_at hl 0 rfl) ?_
            refine lv_i2l (v := (GR (h - i)).toInt64) hx hb d_Md_fall_112 rfl ?_
            refine lv_lmul hx hb d_Md_fall_113 ?_
            refine lv_ladd hx hb d_Md_fall_114 ?_
            refine lv_lstore_n (lv' := [(2, .long (S + ((((LO i) - (LO (i - 1))).toInt64) * ((GR (h - i)).toInt64)))), (5, .int (GR (h - i))), (4, .int (nI i)), (0, .ref md), (1, .int (nI h))]) hx hb d_Md_fall_115 rfl hl (by decide) rfl (fun ls hl => ?_)
            refine lv_iinc (v := nI (i + 1)) (lv' := [(4, .int (nI (i + 1))), (2, .long (S + ((((LO i) - (LO (i - 1))).toInt64) * ((GR (h - i)).toInt64)))), (5, .int (GR (h - i))), (0, .ref md), (1, .int (nI h))]) hx hb d_Md_fall_116 hl (k := 2) rfl (nI_add i 1) (by decide) rfl (fun ls hl => ?_)
            refine lv_goto (tgt := 33) hx hb d_Md_fall_119 (by decide) ?_
            exact ih (i + 1) _ (by omega) (by omega) (by rw [hS]; simp only [fallR]; grind) H locs ls hw (lv_sub hl [0, 1, 3, 4] rfl)
          · skip
            have h_92_4 : i = 0 := yeq0 c_92_4 (by omega) (by omega)
            refine lv_iconst (v := nI 0) hx hb d_Md_fall_95 (by decide) ?_
            refine lv_goto (tgt := 108) hx hb d_Md_fall_96 (by decide) ?_
            refine lv_isub hx hb d_Md_fall_108 ?_
            refine lv_i2l (v := ((LO i) - (nI 0)).toInt64) hx hb d_Md_fall_109 rfl ?_
            refine lv_iload hx hb d_Md_fall_110 (lv_at hl 0 rfl) ?_
            refine lv_i2l (v := (GR (h - i)).toInt64) hx hb d_Md_fall_112 rfl ?_
            refine lv_lmul hx hb d_Md_fall_113 ?_
            refine lv_ladd hx hb d_Md_fall_114 ?_
            refine lv_lstore_n (lv' := [(2, .long (S + ((((LO i) - (nI 0)).toInt64) * ((GR (h - i)).toInt64)))), (5, .int (GR (h - i))), (4, .int (nI i)), (0, .ref md), (1, .int (nI h))]) hx hb d_Md_fall_115 rfl hl (by decide) rfl (fun ls hl => ?_)
            refine lv_iinc (v := nI (i + 1)) (lv' := [(4, .int (nI (i + 1))), (2, .long (S + ((((LO i) - (nI 0)).toInt64) * ((GR (h - i)).toInt64)))), (5, .int (GR (h - i))), (0, .ref md), (1, .int (nI h))]) hx hb d_Md_fall_116 hl (k := 2) rfl (nI_add i 1) (by decide) rfl (fun ls hl => ?_)
            refine lv_goto (tgt := 33) hx hb d_Md_fall_119 (by decide) ?_
            exact ih (i + 1) _ (by omega) (by omega) (by rw [hS]; simp only [fallR]; grind) H locs ls hw (lv_sub hl [0, 1, 3, 4] rfl)

set_option maxHeartbeats 4000000 in
set_option maxRecDepth 100000 in
theorem c_Md_fall (l : Launch) (D : va_G) (k : Nat → ClassId) (sz : Nat) (md : Nat) (za : Nat → Nat) (th cn ov sn kn fd : Nat) (cst : Int64) (co tb : Nat) (GR : Nat → Int32) (LO : Nat → Int32) (h : Nat) (hh : h < 36) (hz : tb ≤ 36) : Met l y_Md_fall (uw y_Md_fall b_Md_fall 6 (some .long)) (rU 1 0 0) (va_Pc [.ref md, .int (nI h)] (bP (gU D k) [(md, .inr (7, mdL za th cn ov sn kn fd cst co tb)), (za 36, .inl (k 0, 36, .inl GR)), (za 37, .inl (k 0, 36, .inl LO))] sz)) (va_Ql (fun (r : Int64) (u : Unit) => r = fallR GR LO tb h (h + 1)) (fun u => bQ (gU D k) (va_A [(md, .inr (7, mdL za th cn ov sn kn fd cst co tb)), (za 36, .inl (k 0, 36, .inl GR)), (za 37, .inl (k 0, 36, .inl LO))] sz) ([(md, .inr (7, mdL za 0 cn ov sn kn fd cst co tb)), (za 36, .inl (k 0, 36, .inl GR)), (za 37, .inl (k 0, 36, .inl LO))])) (va_A [(md, .inr (7, mdL za th cn ov sn kn fd cst co tb)), (za 36, .inl (k 0, 36, .inl GR)), (za 37, .inl (k 0, 36, .inl LO))] sz)) (rU 1 0 0).cells (rU 1 0 0).slots (va_A [(md, .inr (7, mdL za th cn ov sn kn fd cst co tb)), (za 36, .inl (k 0, 36, .inl GR)), (za 37, .inl (k 0, 36, .inl LO))] sz) := by
  refine b_start (y := y_Md_fall) (maxL := 6) (ret := (some .long)) (cc := b_Md_fall) (ws' := ut) (rm := rU 1 0 0) (av := [.ref md, .int (nI h)]) (g := gU D k) (ws := [(md, .inr (7, mdL za th cn ov sn kn fd cst co tb)), (za 36, .inl (k 0, 36, .inl GR)), (za 37, .inl (k 0, 36, .inl LO))]) (sz := sz) (Qc := fun A => va_Ql (fun (r : Int64) (u : Unit) => r = fallR GR LO tb h (h + 1)) (fun u => bQ (gU D k) A ([(md, .inr (7, mdL za 0 cn ov sn kn fd cst co tb)), (za 36, .inl (k 0, 36, .inl GR)), (za 37, .inl (k 0, 36, .inl LO))])) A) (by decide +kernel) (Nat.le_of_ble_eq_true rfl) ?_
  intro p e s m below meth c A hm hnm hw ls hl
  have hl : lv_has ls 6 [(0, .ref md), (1, .int (nI h))] := hl
  have hx := hm.1
  have hb := hm.2.1
  have hown := hm.2.2.2.2.1
  have hts := hm.2.2.2.2.2.1
  refine lv_aload_n hx hb d_Md_fall_0 rfl (lv_at hl 0 rfl) ?_
  refine lv_iload_n hx hb d_Md_fall_1 rfl (lv_at hl 1 rfl) ?_
  refine lv_iconst (v := nI 0) hx hb d_Md_fall_2 (by decide) ?_
  refine lv_bipush (v := nI 35) hx hb d_Md_fall_3 (by decide) ?_
  refine b_goi (wr := [(md, .inr (7, mdL za th cn ov sn kn fd cst co tb)), (za 36, .inl (k 0, 36, .inl GR)), (za 37, .inl (k 0, 36, .inl LO))]) (b_runS (wc := []) (As := [.int (nI h), .int (nI 0), .int (nI 35)]) (rest := [.ref md]) hm hw (va_cwS 3 hts (gS2 uw_of k_733 k_731 k_732 k_9) rfl rfl rfl (by decide +kernel) ⟨by decide, by decide⟩) (c_Md_in l D k _ (nI h) (nI 0) (nI 35)) [] (by decide) rfl rfl hl.1 rfl (Nat.le_of_ble_eq_true rfl) d_Md_fall_5 ⟨by decide, by decide⟩) hw [] [0, 1, 2] rfl rfl (by decide) (by decide) (fun r5 _ H locs hp5 hw => ?_)
  have hw : bW (gU D k) A s H locs [(md, .inr (7, mdL za th cn ov sn kn fd cst co tb)), (za 36, .inl (k 0, 36, .inl GR)), (za 37, .inl (k 0, 36, .inl LO))] := hw.sub [0, 1, 2] (by decide) rfl
  have hr5 : r5 = 1 := by rcases hp5 with ⟨q, _⟩ | ⟨_, q⟩; exact q; exact absurd (in_n (by omega) (by omega) (by omega)) q
  refine b_ti (y := nI 1) hr5 ?_
  refine lv_if_eq (tgt := 15) hx hb d_Md_fall_8 (by decide) (fun c_8_0 => ?_) (fun c_8_0 => ?_)
  · skip
    exact absurd c_8_0 (by decide)
  · skip
    refine lv_iconst (v := nI 0) hx hb d_Md_fall_11 (by decide) ?_
    refine lv_goto (tgt := 16) hx hb d_Md_fall_12 (by decide) ?_
    refine b_put (T := F_Md) hm hw 0 rfl rfl (fun w h => uw_of w (u_Md w h)) t_Md t_Md_ok n_Md 0 (by decide) (uw_of _ k_608) rfl rfl rfl (Nat.le_of_ble_eq_true rfl) d_Md_fall_16 (w1 := [(md, .inr (7, mdL za 0 cn ov sn kn fd cst co tb)), (za 36, .inl (k 0, 36, .inl GR)), (za 37, .inl (k 0, 36, .inl LO))]) rfl (fun H locs hw => ?_)
    refine lv_aload_n hx hb d_Md_fall_19 rfl (lv_at hl 0 rfl) ?_
    refine b_get (T := F_Md) hm hw 0 rfl rfl (fun w h => uw_of w (u_Md w h)) 0 (by decide) (uw_of _ k_608) rfl d_Md_fall_20 ?_
    refine lv_if_le (tgt := 28) hx hb d_Md_fall_23 (by decide) (fun c_23_1 => ?_) (fun c_23_1 => ?_)
    · skip
      refine lv_lconst (v := 0) hx hb d_Md_fall_28 (by decide) ?_
      refine lv_lstore_n (lv' := [(2, .long 0), (0, .ref md), (1, .int (nI h))]) hx hb d_Md_fall_29 rfl hl (by decide) rfl (fun ls hl => ?_)
      refine lv_iconst (v := nI 0) hx hb d_Md_fall_30 (by decide) ?_
      refine lv_istore (lv' := [(4, .int (nI 0)), (2, .long 0), (0, .ref md), (1, .int (nI h))]) hx hb d_Md_fall_31  hl (by decide) rfl (fun ls hl => ?_)
      exact lp_Md_fall (th := 0) hh hz hm hnm (h + 2) 0 _ (by omega) (by omega) rfl _ _ ls hw (lv_sub hl [0, 1, 2, 3] rfl)
    · skip
      exact absurd c_23_1 (by decide)

set_option maxHeartbeats 4000000 in
set_option maxRecDepth 100000 in
theorem c_Md_curve_t1 (l : Launch) (D : va_G) (k : Nat → ClassId) (sz : Nat) (md : Nat) (za : Nat → Nat) (th cn ov sn kn fd : Nat) (cst : Int64) (co tb : Nat) (v : Int32) (hv9 : ¬ ((-5000) ≤ v ∧ v ≤ nI 5000)) : Met l y_Md_curve (uw y_Md_curve b_Md_curve 5 (some .int)) (rU 1 0 0) (va_Pc [.ref md, .int v] (bP (gU D k) [(md, .inr (7, mdL za th cn ov sn kn fd cst co tb))] sz)) (va_Qi (fun (r : Int32) (_ : Unit) => r = 0) (fun u => bQ (gU D k) (va_A [(md, .inr (7, mdL za th cn ov sn kn fd cst co tb))] sz) ([(md, .inr (7, mdL za 1 cn ov sn kn fd cst co tb))])) (va_A [(md, .inr (7, mdL za th cn ov sn kn fd cst co tb))] sz)) (rU 1 0 0).cells (rU 1 0 0).slots (va_A [(md, .inr (7, mdL za th cn ov sn kn fd cst co tb))] sz) := by
  refine b_start (y := y_Md_curve) (maxL := 5) (ret := (some .int)) (cc := b_Md_curve) (ws' := ut) (rm := rU 1 0 0) (av := [.ref md, .int v]) (g := gU D k) (ws := [(md, .inr (7, mdL za th cn ov sn kn fd cst co tb))]) (sz := sz) (Qc := fun A => va_Qi (fun (r : Int32) (_ : Unit) => r = 0) (fun u => bQ (gU D k) A ([(md, .inr (7, mdL za 1 cn ov sn kn fd cst co tb))])) A) (by decide +kernel) (Nat.le_of_ble_eq_true rfl) ?_
  intro p e s m below meth c A hm hnm hw ls hl
  have hl : lv_has ls 5 [(0, .ref md), (1, .int v)] := hl
  have hx := hm.1
  have hb := hm.2.1
  have hown := hm.2.2.2.2.1
  have hts := hm.2.2.2.2.2.1
  refine lv_aload_n hx hb d_Md_curve_0 rfl (lv_at hl 0 rfl) ?_
  refine lv_iload_n hx hb d_Md_curve_1 rfl (lv_at hl 1 rfl) ?_
  refine lv_sipush (v := (-5000)) hx hb d_Md_curve_2 (by decide) ?_
  refine lv_sipush (v := nI 5000) hx hb d_Md_curve_5 (by decide) ?_
  refine b_goi (wr := [(md, .inr (7, mdL za th cn ov sn kn fd cst co tb))]) (b_runS (wc := []) (As := [.int v, .int (-5000), .int (nI 5000)]) (rest := [.ref md]) hm hw (va_cwS 3 hts (gS2 uw_of k_733 k_731 k_732 k_9) rfl rfl rfl (by decide +kernel) ⟨by decide, by decide⟩) (c_Md_in l D k _ v (-5000) (nI 5000)) [] (by decide) rfl rfl hl.1 rfl (Nat.le_of_ble_eq_true rfl) d_Md_curve_8 ⟨by decide, by decide⟩) hw [] [0] rfl rfl (by decide) (by decide) (fun r8 _ H locs hp8 hw => ?_)
  have hw : bW (gU D k) A s H locs [(md, .inr (7, mdL za th cn ov sn kn fd cst co tb))] := hw.sub [0] (by decide) rfl
  rcases hp8 with ⟨hr8, hp8⟩ | ⟨hr8, hp8⟩
  · skip
    refine b_ti (y := nI 1) hr8 ?_
    refine lv_if_eq (tgt := 18) hx hb d_Md_curve_11 (by decide) (fun c_11_0 => ?_) (fun c_11_0 => ?_)
    · skip
      exact absurd c_11_0 (by decide)
    · skip
      exact absurd hp8 hv9
  · skip
    refine b_ti (y := nI 0) hr8 ?_
    refine lv_if_eq (tgt := 18) hx hb d_Md_curve_11 (by decide) (fun c_11_1 => ?_) (fun c_11_1 => ?_)
    · skip
      refine lv_iconst (v := nI 1) hx hb d_Md_curve_18 (by decide) ?_
      refine b_put (T := F_Md) hm hw 0 rfl rfl (fun w h => uw_of w (u_Md w h)) t_Md t_Md_ok n_Md 0 (by decide) (uw_of _ k_608) rfl rfl rfl (Nat.le_of_ble_eq_true rfl) d_Md_curve_19 (w1 := [(md, .inr (7, mdL za 1 cn ov sn kn fd cst co tb))]) rfl (fun H locs hw => ?_)
      refine lv_aload_n hx hb d_Md_curve_22 rfl (lv_at hl 0 rfl) ?_
      refine b_get (T := F_Md) hm hw 0 rfl rfl (fun w h => uw_of w (u_Md w h)) 0 (by decide) (uw_of _ k_608) rfl d_Md_curve_23 ?_
      refine lv_if_le (tgt := 31) hx hb d_Md_curve_26 (by decide) (fun c_26_2 => ?_) (fun c_26_2 => ?_)
      · skip
        exact absurd c_26_2 (by decide)
      · skip
        refine lv_iconst (v := nI 0) hx hb d_Md_curve_29 (by decide) ?_
        exact b_iret (post := fun (r : Int32) (_ : Unit) => r = 0) (w' := fun u => [(md, .inr (7, mdL za 1 cn ov sn kn fd cst co tb))]) () hm hw (rfl) d_Md_curve_30
    · skip
      exact absurd c_11_1 (by decide)

set_option maxHeartbeats 4000000 in
set_option maxRecDepth 100000 in
theorem lp_Md_curve {l : Launch} {D : va_G} {k : Nat → ClassId} {md : Nat} {za : Nat → Nat} {th cn ov sn kn fd : Nat} {cst : Int64} {co tb : Nat} {CA : Nat → Int32} {CW : Nat → Int32} {v : Int32} (hz : co ≤ 6) (hne : ∀ j, j + 1 < co → ¬ (CA (j + 1) - CA j).toInt64 = 0) {p : Program} {e : Env} {s : State} {m : MethodId} {below : List Frame} {meth : Method} {c : Code} {A : Nat → Prop} (hm : bM p s m (([.ref md, .int v] : List Value).toArray) meth c "HeatMachinesModel" b_Md_curve 5 (some .int) (uw y_Md_curve b_Md_curve 5 (some .int))) (hnm : meth.name = "curve") :
    ∀ (f : Nat) (j : Nat), j + 1 ≤ f → j < co → (∀ i, j < i → i < co → ¬ CA i ≤ v) → ∀ (H : Heap) (locs : List Loc) (ls : Array Slot), bW (gU D k) A s H locs [(md, .inr (7, mdL za 0 cn ov sn kn fd cst co tb)), (za 33, .inl (k 0, 6, .inl CA)), (za 34, .inl (k 0, 6, .inl CW))] → lv_has ls 5 [(2, .int (nI j)), (0, .ref md), (1, .int v)] → W p l e (rU 1 0 0) s m (([.ref md, .int v] : List Value).toArray) below meth c H locs 0 0 (MQ below (va_Qi (fun (r : Int32) (u : Unit) => cvR CA CW co v r) (fun u => bQ (gU D k) A ([(md, .inr (7, mdL za 0 cn ov sn kn fd cst co tb)), (za 33, .inl (k 0, 6, .inl CA)), (za 34, .inl (k 0, 6, .inl CW))])) A) (([.ref md, .int v] : List Value).toArray) s (rU 1 0 0).cells (rU 1 0 0).slots A) (F0 m 47 ls []) := by
  have hx := hm.1
  have hb := hm.2.1
  have hown := hm.2.2.2.2.1
  have hts := hm.2.2.2.2.2.1
  intro f
  induction f with
  | zero => intro j hf hj hN; exfalso; omega
  | succ f ih =>
    intro j hf hj hN H locs ls hw hl
    refine lv_iload_n hx hb d_Md_curve_47 rfl (lv_at hl 0 rfl) ?_
    refine lv_if_le (tgt := 67) hx hb d_Md_curve_48 (by decide) (fun c_48_0 => ?_) (fun c_48_0 => ?_)
    · skip
      have h_48_0 : j ≤ 0 := yle0 c_48_0 (by omega) (by omega)
      refine lv_iload_n hx hb d_Md_curve_67 rfl (lv_at hl 2 rfl) ?_
      refine lv_aload_n hx hb d_Md_curve_68 rfl (lv_at hl 1 rfl) ?_
      refine b_get (T := F_Md) hm hw 0 rfl rfl (fun w h => uw_of w (u_Md w h)) 33 (by decide) (uw_of _ k_641) rfl d_Md_curve_69 ?_
      refine lv_iload_n hx hb d_Md_curve_72 rfl (lv_at hl 0 rfl) ?_
      refine b_iald (i := j) hm hw 1 0 rfl rfl (by omega) (by omega) d_Md_curve_73 ?_
      refine lv_icmp_le (tgt := 87) hx hb d_Md_curve_74 (by decide) (fun c_74_1 => ?_) (fun c_74_1 => ?_)
      · skip
        refine lv_aload_n hx hb d_Md_curve_87 rfl (lv_at hl 1 rfl) ?_
        refine b_get (T := F_Md) hm hw 0 rfl rfl (fun w h => uw_of w (u_Md w h)) 34 (by decide) (uw_of _ k_642) rfl d_Md_curve_88 ?_
        refine lv_iload_n hx hb d_Md_curve_91 rfl (lv_at hl 0 rfl) ?_
        refine b_iald (i := j) hm hw 2 0 rfl rfl (by omega) (by omega) d_Md_curve_92 ?_
        exact b_iret (post := fun (r : Int32) (u : Unit) => cvR CA CW co v r) (w' := fun u => [(md, .inr (7, mdL za 0 cn ov sn kn fd cst co tb)), (za 33, .inl (k 0, 6, .inl CA)), (za 34, .inl (k 0, 6, .inl CW))]) () hm hw (by unfold cvR gvB; grind) d_Md_curve_93
      · skip
        refine lv_iload_n hx hb d_Md_curve_77 rfl (lv_at hl 0 rfl) ?_
        refine lv_aload_n hx hb d_Md_curve_78 rfl (lv_at hl 1 rfl) ?_
        refine b_get (T := F_Md) hm hw 0 rfl rfl (fun w h => uw_of w (u_Md w h)) 32 (by decide) (uw_of _ k_640) rfl d_Md_curve_79 ?_
        refine lv_iconst (v := nI 1) hx hb d_Md_curve_82 (by decide) ?_
        refine lv_isub hx hb d_Md_curve_83 ?_
        refine b_ti (pk_sub (a := co) (b := 1) (by omega)) ?_
        refine lv_icmp_ne (tgt := 94) hx hb d_Md_curve_84 (by decide) (fun c_84_2 => ?_) (fun c_84_2 => ?_)
        · skip
          have h_84_2 : j ≠ (co - 1) := yne c_84_2 (by omega) (by omega)
          refine lv_aload_n hx hb d_Md_curve_94 rfl (lv_at hl 1 rfl) ?_
          refine b_get (T := F_Md) hm hw 0 rfl rfl (fun w h => uw_of w (u_Md w h)) 34 (by decide) (uw_of _ k_642) rfl d_Md_curve_95 ?_
          refine lv_iload_n hx hb d_Md_curve_98 rfl (lv_at hl 0 rfl) ?_
          refine lv_iconst (v := nI 1) hx hb d_Md_curve_99 (by decide) ?_
          refine lv_iadd hx hb d_Md_curve_100 ?_
          refine b_ti (nI_add j 1) ?_
          refine b_iald (i := j + 1) hm hw 2 0 rfl rfl (by omega) (by omega) d_Md_curve_101 ?_
          refine lv_aload_n hx hb d_Md_curve_102 rfl (lv_at hl 1 rfl) ?_
          refine b_get (T := F_Md) hm hw 0 rfl rfl (fun w h => uw_of w (u_Md w h)) 34 (by decide) (uw_of _ k_642) rfl d_Md_curve_103 ?_
          refine lv_iload_n hx hb d_Md_curve_106 rfl (lv_at hl 0 rfl) ?_
          refine b_iald (i := j) hm hw 2 0 rfl rfl (by omega) (by omega) d_Md_curve_107 ?_
          refine lv_isub hx hb d_Md_curve_108 ?_
          refine lv_i2l (v := ((CW (j + 1)) - (CW j)).toInt64) hx hb d_Md_curve_109 rfl ?_
          refine lv_iload_n hx hb d_Md_curve_110 rfl (lv_at hl 2 rfl) ?_
          refine lv_aload_n hx hb d_Md_curve_111 rfl (lv_at hl 1 rfl) ?_
          refine b_get (T := F_Md) hm hw 0 rfl rfl (fun w h => uw_of w (u_Md w h)) 33 (by decide) (uw_of _ k_641) rfl d_Md_curve_112 ?_
          refine lv_iload_n hx hb d_Md_curve_115 rfl (lv_at hl 0 rfl) ?_
          refine b_iald (i := j) hm hw 1 0 rfl rfl (by omega) (by omega) d_Md_curve_116 ?_
          refine lv_isub hx hb d_Md_curve_117 ?_
          refine lv_i2l (v := (v - (CA j)).toInt64) hx hb d_Md_curve_118 rfl ?_
          refine lv_lmul hx hb d_Md_curve_119 ?_
          refine lv_lstore_n (lv' := [(3, .long ((((CW (j + 1)) - (CW j)).toInt64) * ((v - (CA j)).toInt64))), (2, .int (nI j)), (0, .ref md), (1, .int v)]) hx hb d_Md_curve_120 rfl hl (by decide) rfl (fun ls hl => ?_)
          refine lv_aload_n hx hb d_Md_curve_121 rfl (lv_at hl 2 rfl) ?_
          refine b_get (T := F_Md) hm hw 0 rfl rfl (fun w h => uw_of w (u_Md w h)) 34 (by decide) (uw_of _ k_642) rfl d_Md_curve_122 ?_
          refine lv_iload_n hx hb d_Md_curve_125 rfl (lv_at hl 1 rfl) ?_
          refine b_iald (i := j) hm hw 2 0 rfl rfl (by omega) (by omega) d_Md_curve_126 ?_
          refine lv_i2l (v := (CW j).toInt64) hx hb d_Md_curve_127 rfl ?_
          refine lv_lload_n hx hb d_Md_curve_128 rfl (lv_at hl 0 rfl) ?_
          refine lv_aload_n hx hb d_Md_curve_129 rfl (lv_at hl 2 rfl) ?_
          refine b_get (T := F_Md) hm hw 0 rfl rfl (fun w h => uw_of w (u_Md w h)) 33 (by decide) (uw_of _ k_641) rfl d_Md_curve_130 ?_
          refine lv_iload_n hx hb d_Md_curve_133 rfl (lv_at hl 1 rfl) ?_
          refine lv_iconst (v := nI 1) hx hb d_Md_curve_134 (by decide) ?_
          refine lv_iadd hx hb d_Md_curve_135 ?_
          refine b_ti (nI_add j 1) ?_
          refine b_iald (i := j + 1) hm hw 1 0 rfl rfl (by omega) (by omega) d_Md_curve_136 ?_
          refine lv_aload_n hx hb d_Md_curve_137 rfl (lv_at hl 2 rfl) ?_
          refine b_get (T := F_Md) hm hw 0 rfl rfl (fun w h => uw_of w (u_Md w h)) 33 (by decide) (uw_of _ k_641) rfl d_Md_curve_138 ?_
          refine lv_iload_n hx hb d_Md_curve_141 rfl (lv_at hl 1 rfl) ?_
          refine b_iald (i := j) hm hw 1 0 rfl rfl (by omega) (by omega) d_Md_curve_142 ?_
          refine lv_isub hx hb d_Md_curve_143 ?_
          refine lv_i2l (v := ((CA (j + 1)) - (CA j)).toInt64) hx hb d_Md_curve_144 rfl ?_
          refine lv_iconst (v := nI 0) hx hb d_Md_curve_145 (by decide) ?_
          refine b_gol (wr := [(md, .inr (7, mdL za 0 cn ov sn kn fd cst co tb)), (za 33, .inl (k 0, 6, .inl CA)), (za 34, .inl (k 0, 6, .inl CW))]) (b_runS (wc := []) (As := [.long ((((CW (j + 1)) - (CW j)).toInt64) * ((v - (CA j)).toInt64)), .long (((CA (j + 1)) - (CA j)).toInt64), .int 0]) (rest := [.long ((CW j).toInt64)]) hm hw (va_cwS 3 hts (gS2 uw_of k_761 k_759 k_760 k_9) rfl rfl rfl (by decide +kernel) ⟨by decide, by decide⟩) (c_Md_quotient l D k _ ((((CW (j + 1)) - (CW j)).toInt64) * ((v - (CA j)).toInt64)) (((CA (j + 1)) - (CA j)).toInt64) 0 (hne j (by omega))) [] (by decide) rfl rfl hl.1 rfl (Nat.le_of_ble_eq_true rfl) d_Md_curve_146 ⟨by decide, by decide⟩) hw [] [0, 1, 2] rfl rfl (by decide) (by decide) (fun r146 _ H locs hp hw => ?_)
          have hw : bW (gU D k) A s H locs [(md, .inr (7, mdL za 0 cn ov sn kn fd cst co tb)), (za 33, .inl (k 0, 6, .inl CA)), (za 34, .inl (k 0, 6, .inl CW))] := hw.sub [0, 1, 2] (by decide) rfl
          refine lv_ladd hx hb d_Md_curve_149 ?_
          refine lv_l2i (v := (((CW j).toInt64) + r146).toInt32) hx hb d_Md_curve_150 rfl ?_
          exact b_iret (post := fun (r : Int32) (u : Unit) => cvR CA CW co v r) (w' := fun u => [(md, .inr (7, mdL za 0 cn ov sn kn fd cst co tb)), (za 33, .inl (k 0, 6, .inl CA)), (za 34, .inl (k 0, 6, .inl CW))]) () hm hw (by unfold cvR gvB; grind) d_Md_curve_151
        · skip
          have h_84_2 : j = (co - 1) := yeq c_84_2 (by omega) (by omega)
          refine lv_aload_n hx hb d_Md_curve_87 rfl (lv_at hl 1 rfl) ?_
          refine b_get (T := F_Md) hm hw 0 rfl rfl (fun w h => uw_of w (u_Md w h)) 34 (by decide) (uw_of _ k_642) rfl d_Md_curve_88 ?_
          refine lv_iload_n hx hb d_Md_curve_91 rfl (lv_at hl 0 rfl) ?_
          refine b_iald (i := j) hm hw 2 0 rfl rfl (by omega) (by omega) d_Md_curve_92 ?_
          exact b_iret (post := fun (r : Int32) (u : Unit) => cvR CA CW co v r) (w' := fun u => [(md, .inr (7, mdL za 0 cn ov sn kn fd cst co tb)), (za 33, .inl (k 0, 6, .inl CA)), (za 34, .inl (k 0, 6, .inl CW))]) () hm hw (by unfold cvR gvB; grind) d_Md_curve_93
    · skip
      have h_48_0 : 0 < j := ygtN0 c_48_0 (by omega) (by omega)
      refine lv_aload_n hx hb d_Md_curve_51 rfl (lv_at hl 1 rfl) ?_
      refine b_get (T := F_Md) hm hw 0 rfl rfl (fun w h => uw_of w (u_Md w h)) 33 (by decide) (uw_of _ k_641) rfl d_Md_curve_52 ?_
      refine lv_iload_n hx hb d_Md_curve_55 rfl (lv_at hl 0 rfl) ?_
      refine b_iald (i := j) hm hw 1 0 rfl rfl (by omega) (by omega) d_Md_curve_56 ?_
      refine lv_iload_n hx hb d_Md_curve_57 rfl (lv_at hl 2 rfl) ?_
      refine lv_icmp_le (tgt := 67) hx hb d_Md_curve_58 (by decide) (fun c_58_3 => ?_) (fun c_58_3 => ?_)
      · skip
        refine lv_iload_n hx hb d_Md_curve_67 rfl (lv_at hl 2 rfl) ?_
        refine lv_aload_n hx hb d_Md_curve_68 rfl (lv_at hl 1 rfl) ?_
        refine b_get (T := F_Md) hm hw 0 rfl rfl (fun w h => uw_of w (u_Md w h)) 33 (by decide) (uw_of _ k_641) rfl d_Md_curve_69 ?_
        refine lv_iload_n hx hb d_Md_curve_72 rfl (lv_at hl 0 rfl) ?_
        refine b_iald (i := j) hm hw 1 0 rfl rfl (by omega) (by omega) d_Md_curve_73 ?_
        refine lv_icmp_le (tgt := 87) hx hb d_Md_curve_74 (by decide) (fun c_74_4 => ?_) (fun c_74_4 => ?_)
        · skip
          refine lv_aload_n hx hb d_Md_curve_87 rfl (lv_at hl 1 rfl) ?_
          refine b_get (T := F_Md) hm hw 0 rfl rfl (fun w h => uw_of w (u_Md w h)) 34 (by decide) (uw_of _ k_642) rfl d_Md_curve_88 ?_
          refine lv_iload_n hx hb d_Md_curve_91 rfl (lv_at hl 0 rfl) ?_
          refine b_iald (i := j) hm hw 2 0 rfl rfl (by omega) (by omega) d_Md_curve_92 ?_
          exact b_iret (post := fun (r : Int32) (u : Unit) => cvR CA CW co v r) (w' := fun u => [(md, .inr (7, mdL za 0 cn ov sn kn fd cst co tb)), (za 33, .inl (k 0, 6, .inl CA)), (za 34, .inl (k 0, 6, .inl CW))]) () hm hw (by unfold cvR gvB; grind) d_Md_curve_93
        · skip
          refine lv_iload_n hx hb d_Md_curve_77 rfl (lv_at hl 0 rfl) ?_
          refine lv_aload_n hx hb d_Md_curve_78 rfl (lv_at hl 1 rfl) ?_
          refine b_get (T := F_Md) hm hw 0 rfl rfl (fun w h => uw_of w (u_Md w h)) 32 (by decide) (uw_of _ k_640) rfl d_Md_curve_79 ?_
          refine lv_iconst (v := nI 1) hx hb d_Md_curve_82 (by decide) ?_
          refine lv_isub hx hb d_Md_curve_83 ?_
          refine b_ti (pk_sub (a := co) (b := 1) (by omega)) ?_
          refine lv_icmp_ne (tgt := 94) hx hb d_Md_curve_84 (by decide) (fun c_84_5 => ?_) (fun c_84_5 => ?_)
          · skip
            have h_84_5 : j ≠ (co - 1) := yne c_84_5 (by omega) (by omega)
            refine lv_aload_n hx hb d_Md_curve_94 rfl (lv_at hl 1 rfl) ?_
            refine b_get (T := F_Md) hm hw 0 rfl rfl (fun w h => uw_of w (u_Md w h)) 34 (by decide) (uw_of _ k_642) rfl d_Md_curve_95 ?_
            refine lv_iload_n hx hb d_Md_curve_98 rfl (lv_at hl 0 rfl) ?_
            refine lv_iconst (v := nI 1) hx hb d_Md_curve_99 (by decide) ?_
            refine lv_iadd hx hb d_Md_curve_100 ?_
            refine b_ti (nI_add j 1) ?_
            refine b_iald (i := j + 1) hm hw 2 0 rfl rfl (by omega) (by omega) d_Md_curve_101 ?_
            refine lv_aload_n hx hb d_Md_curve_102 rfl (lv_at hl 1 rfl) ?_
            refine b_get (T := F_Md) hm hw 0 rfl rfl (fun w h => uw_of w (u_Md w h)) 34 (by decide) (uw_of _ k_642) rfl d_Md_curve_103 ?_
            refine lv_iload_n hx hb d_Md_curve_106 rfl (lv_at hl 0 rfl) ?_
            refine b_iald (i := j) hm hw 2 0 rfl rfl (by omega) (by omega) d_Md_curve_107 ?_
            refine lv_isub hx hb d_Md_curve_108 ?_
            refine lv_i2l (v := ((CW (j + 1)) - (CW j)).toInt64) hx hb d_Md_curve_109 rfl ?_
            refine lv_iload_n hx hb d_Md_curve_110 rfl (lv_at hl 2 rfl) ?_
            refine lv_aload_n hx hb d_Md_curve_111 rfl (lv_at hl 1 rfl) ?_
            refine b_get (T := F_Md) hm hw 0 rfl rfl (fun w h => uw_of w (u_Md w h)) 33 (by decide) (uw_of _ k_641) rfl d_Md_curve_112 ?_
            refine lv_iload_n hx hb d_Md_curve_115 rfl (lv_at hl 0 rfl) ?_
            refine b_iald (i := j) hm hw 1 0 rfl rfl (by omega) (by omega) d_Md_curve_116 ?_
            refine lv_isub hx hb d_Md_curve_117 ?_
            refine lv_i2l (v := (v - (CA j)).toInt64) hx hb d_Md_curve_118 rfl ?_
            refine lv_lmul hx hb d_Md_curve_119 ?_
            refine lv_lstore_n (lv' := [(3, .long ((((CW (j + 1)) - (CW j)).toInt64) * ((v - (CA j)).toInt64))), (2, .int (nI j)), (0, .ref md), (1, .int v)]) hx hb d_Md_curve_120 rfl hl (by decide) rfl (fun ls hl => ?_)
            refine lv_aload_n hx hb d_Md_curve_121 rfl (lv_at hl 2 rfl) ?_
            refine b_get (T := F_Md) hm hw 0 rfl rfl (fun w h => uw_of w (u_Md w h)) 34 (by decide) (uw_of _ k_642) rfl d_Md_curve_122 ?_
            refine lv_iload_n hx hb d_Md_curve_125 rfl (lv_at hl 1 rfl) ?_
            refine b_iald (i := j) hm hw 2 0 rfl rfl (by omega) (by omega) d_Md_curve_126 ?_
            refine lv_i2l (v := (CW j).toInt64) hx hb d_Md_curve_127 rfl ?_
            refine lv_lload_n hx hb d_Md_curve_128 rfl (lv_at hl 0 rfl) ?_
            refine lv_aload_n hx hb d_Md_curve_129 rfl (lv_at hl 2 rfl) ?_
            refine b_get (T := F_Md) hm hw 0 rfl rfl (fun w h => uw_of w (u_Md w h)) 33 (by decide) (uw_of _ k_641) rfl d_Md_curve_130 ?_
            refine lv_iload_n hx hb d_Md_curve_133 rfl (lv_at hl 1 rfl) ?_
            refine lv_iconst (v := nI 1) hx hb d_Md_curve_134 (by decide) ?_
            refine lv_iadd hx hb d_Md_curve_135 ?_
            refine b_ti (nI_add j 1) ?_
            refine b_iald (i := j + 1) hm hw 1 0 rfl rfl (by omega) (by omega) d_Md_curve_136 ?_
            refine lv_aload_n hx hb d_Md_curve_137 rfl (lv_at hl 2 rfl) ?_
            refine b_get (T := F_Md) hm hw 0 rfl rfl (fun w h => uw_of w (u_Md w h)) 33 (by decide) (uw_of _ k_641) rfl d_Md_curve_138 ?_
            refine lv_iload_n hx hb d_Md_curve_141 rfl (lv_at hl 1 rfl) ?_
            refine b_iald (i := j) hm hw 1 0 rfl rfl (by omega) (by omega) d_Md_curve_142 ?_
            refine lv_isub hx hb d_Md_curve_143 ?_
            refine lv_i2l (v := ((CA (j + 1)) - (CA j)).toInt64) hx hb d_Md_curve_144 rfl ?_
            refine lv_iconst (v := nI 0) hx hb d_Md_curve_145 (by decide) ?_
            refine b_gol (wr := [(md, .inr (7, mdL za 0 cn ov sn kn fd cst co tb)), (za 33, .inl (k 0, 6, .inl CA)), (za 34, .inl (k 0, 6, .inl CW))]) (b_runS (wc := []) (As := [.long ((((CW (j + 1)) - (CW j)).toInt64) * ((v - (CA j)).toInt64)), .long (((CA (j + 1)) - (CA j)).toInt64), .int 0]) (rest := [.long ((CW j).toInt64)]) hm hw (va_cwS 3 hts (gS2 uw_of k_761 k_759 k_760 k_9) rfl rfl rfl (by decide +kernel) ⟨by decide, by decide⟩) (c_Md_quotient l D k _ ((((CW (j + 1)) - (CW j)).toInt64) * ((v - (CA j)).toInt64)) (((CA (j + 1)) - (CA j)).toInt64) 0 (hne j (by omega))) [] (by decide) rfl rfl hl.1 rfl (Nat.le_of_ble_eq_true rfl) d_Md_curve_146 ⟨by decide, by decide⟩) hw [] [0, 1, 2] rfl rfl (by decide) (by decide) (fun r146 _ H locs hp hw => ?_)
            have hw : bW (gU D k) A s H locs [(md, .inr (7, mdL za 0 cn ov sn kn fd cst co tb)), (za 33, .inl (k 0, 6, .inl CA)), (za 34, .inl (k 0, 6, .inl CW))] := hw.sub [0, 1, 2] (by decide) rfl
            refine lv_ladd hx hb d_Md_curve_149 ?_
            refine lv_l2i (v := (((CW j).toInt64) + r146).toInt32) hx hb d_Md_curve_150 rfl ?_
            exact b_iret (post := fun (r : Int32) (u : Unit) => cvR CA CW co v r) (w' := fun u => [(md, .inr (7, mdL za 0 cn ov sn kn fd cst co tb)), (za 33, .inl (k 0, 6, .inl CA)), (za 34, .inl (k 0, 6, .inl CW))]) () hm hw (by unfold cvR gvB; grind) d_Md_curve_151
          · skip
            have h_84_5 : j = (co - 1) := yeq c_84_5 (by omega) (by omega)
            refine lv_aload_n hx hb d_Md_curve_87 rfl (lv_at hl 1 rfl) ?_
            refine b_get (T := F_Md) hm hw 0 rfl rfl (fun w h => uw_of w (u_Md w h)) 34 (by decide) (uw_of _ k_642) rfl d_Md_curve_88 ?_
            refine lv_iload_n hx hb d_Md_curve_91 rfl (lv_at hl 0 rfl) ?_
            refine b_iald (i := j) hm hw 2 0 rfl rfl (by omega) (by omega) d_Md_curve_92 ?_
            exact b_iret (post := fun (r : Int32) (u : Unit) => cvR CA CW co v r) (w' := fun u => [(md, .inr (7, mdL za 0 cn ov sn kn fd cst co tb)), (za 33, .inl (k 0, 6, .inl CA)), (za 34, .inl (k 0, 6, .inl CW))]) () hm hw (by unfold cvR gvB; grind) d_Md_curve_93
      · skip
        refine lv_iinc (v := nI (j - 1)) (lv' := [(2, .int (nI (j - 1))), (0, .ref md), (1, .int v)]) hx hb d_Md_curve_61 hl (k := 0) rfl (nI_dec 1 (by omega)) (by decide) rfl (fun ls hl => ?_)
        refine lv_goto (tgt := 47) hx hb d_Md_curve_64 (by decide) ?_
        exact ih (j - 1) (by omega) (by omega) (by intro i h1 h2; rcases Nat.lt_or_ge j i with q | q; exact hN i q h2; obtain rfl : i = j := (by omega); assumption) H locs ls hw (lv_sub hl [0, 1, 2] rfl)

set_option maxHeartbeats 4000000 in
set_option maxRecDepth 100000 in
theorem c_Md_curve (l : Launch) (D : va_G) (k : Nat → ClassId) (sz : Nat) (md : Nat) (za : Nat → Nat) (th cn ov sn kn fd : Nat) (cst : Int64) (co tb : Nat) (CA : Nat → Int32) (CW : Nat → Int32) (v : Int32) (hv9 : ((-5000) ≤ v ∧ v ≤ nI 5000)) (hz : co ≤ 6) (hne : ∀ j, j + 1 < co → ¬ (CA (j + 1) - CA j).toInt64 = 0) : Met l y_Md_curve (uw y_Md_curve b_Md_curve 5 (some .int)) (rU 1 0 0) (va_Pc [.ref md, .int v] (bP (gU D k) [(md, .inr (7, mdL za th cn ov sn kn fd cst co tb)), (za 33, .inl (k 0, 6, .inl CA)), (za 34, .inl (k 0, 6, .inl CW))] sz)) (va_Qi (fun (r : Int32) (u : Unit) => cvR CA CW co v r) (fun u => bQ (gU D k) (va_A [(md, .inr (7, mdL za th cn ov sn kn fd cst co tb)), (za 33, .inl (k 0, 6, .inl CA)), (za 34, .inl (k 0, 6, .inl CW))] sz) ([(md, .inr (7, mdL za 0 cn ov sn kn fd cst co tb)), (za 33, .inl (k 0, 6, .inl CA)), (za 34, .inl (k 0, 6, .inl CW))])) (va_A [(md, .inr (7, mdL za th cn ov sn kn fd cst co tb)), (za 33, .inl (k 0, 6, .inl CA)), (za 34, .inl (k 0, 6, .inl CW))] sz)) (rU 1 0 0).cells (rU 1 0 0).slots (va_A [(md, .inr (7, mdL za th cn ov sn kn fd cst co tb)), (za 33, .inl (k 0, 6, .inl CA)), (za 34, .inl (k 0, 6, .inl CW))] sz) := by
  refine b_start (y := y_Md_curve) (maxL := 5) (ret := (some .int)) (cc := b_Md_curve) (ws' := ut) (rm := rU 1 0 0) (av := [.ref md, .int v]) (g := gU D k) (ws := [(md, .inr (7, mdL za th cn ov sn kn fd cst co tb)), (za 33, .inl (k 0, 6, .inl CA)), (za 34, .inl (k 0, 6, .inl CW))]) (sz := sz) (Qc := fun A => va_Qi (fun (r : Int32) (u : Unit) => cvR CA CW co v r) (fun u => bQ (gU D k) A ([(md, .inr (7, mdL za 0 cn ov sn kn fd cst co tb)), (za 33, .inl (k 0, 6, .inl CA)), (za 34, .inl (k 0, 6, .inl CW))])) A) (by decide +kernel) (Nat.le_of_ble_eq_true rfl) ?_
  intro p e s m below meth c A hm hnm hw ls hl
  have hl : lv_has ls 5 [(0, .ref md), (1, .int v)] := hl
  have hx := hm.1
  have hb := hm.2.1
  have hown := hm.2.2.2.2.1
  have hts := hm.2.2.2.2.2.1
  refine lv_aload_n hx hb d_Md_curve_0 rfl (lv_at hl 0 rfl) ?_
  refine lv_iload_n hx hb d_Md_curve_1 rfl (lv_at hl 1 rfl) ?_
  refine lv_sipush (v := (-5000)) hx hb d_Md_curve_2 (by decide) ?_
  refine lv_sipush (v := nI 5000) hx hb d_Md_curve_5 (by decide) ?_
  refine b_goi (wr := [(md, .inr (7, mdL za th cn ov sn kn fd cst co tb)), (za 33, .inl (k 0, 6, .inl CA)), (za 34, .inl (k 0, 6, .inl CW))]) (b_runS (wc := []) (As := [.int v, .int (-5000), .int (nI 5000)]) (rest := [.ref md]) hm hw (va_cwS 3 hts (gS2 uw_of k_733 k_731 k_732 k_9) rfl rfl rfl (by decide +kernel) ⟨by decide, by decide⟩) (c_Md_in l D k _ v (-5000) (nI 5000)) [] (by decide) rfl rfl hl.1 rfl (Nat.le_of_ble_eq_true rfl) d_Md_curve_8 ⟨by decide, by decide⟩) hw [] [0, 1, 2] rfl rfl (by decide) (by decide) (fun r8 _ H locs hp8 hw => ?_)
  have hw : bW (gU D k) A s H locs [(md, .inr (7, mdL za th cn ov sn kn fd cst co tb)), (za 33, .inl (k 0, 6, .inl CA)), (za 34, .inl (k 0, 6, .inl CW))] := hw.sub [0, 1, 2] (by decide) rfl
  have hr8 : r8 = 1 := by rcases hp8 with ⟨q, _⟩ | ⟨_, q⟩; exact q; exact absurd (hv9) q
  refine b_ti (y := nI 1) hr8 ?_
  refine lv_if_eq (tgt := 18) hx hb d_Md_curve_11 (by decide) (fun c_11_0 => ?_) (fun c_11_0 => ?_)
  · skip
    exact absurd c_11_0 (by decide)
  · skip
    refine lv_iconst (v := nI 0) hx hb d_Md_curve_14 (by decide) ?_
    refine lv_goto (tgt := 19) hx hb d_Md_curve_15 (by decide) ?_
    refine b_put (T := F_Md) hm hw 0 rfl rfl (fun w h => uw_of w (u_Md w h)) t_Md t_Md_ok n_Md 0 (by decide) (uw_of _ k_608) rfl rfl rfl (Nat.le_of_ble_eq_true rfl) d_Md_curve_19 (w1 := [(md, .inr (7, mdL za 0 cn ov sn kn fd cst co tb)), (za 33, .inl (k 0, 6, .inl CA)), (za 34, .inl (k 0, 6, .inl CW))]) rfl (fun H locs hw => ?_)
    refine lv_aload_n hx hb d_Md_curve_22 rfl (lv_at hl 0 rfl) ?_
    refine b_get (T := F_Md) hm hw 0 rfl rfl (fun w h => uw_of w (u_Md w h)) 0 (by decide) (uw_of _ k_608) rfl d_Md_curve_23 ?_
    refine lv_if_le (tgt := 31) hx hb d_Md_curve_26 (by decide) (fun c_26_1 => ?_) (fun c_26_1 => ?_)
    · skip
      refine lv_aload_n hx hb d_Md_curve_31 rfl (lv_at hl 0 rfl) ?_
      refine b_get (T := F_Md) hm hw 0 rfl rfl (fun w h => uw_of w (u_Md w h)) 32 (by decide) (uw_of _ k_640) rfl d_Md_curve_32 ?_
      refine lv_if_ne (tgt := 40) hx hb d_Md_curve_35 (by decide) (fun c_35_2 => ?_) (fun c_35_2 => ?_)
      · skip
        have h_35_2 : co ≠ 0 := yne0 c_35_2 (by omega) (by omega)
        refine lv_aload_n hx hb d_Md_curve_40 rfl (lv_at hl 0 rfl) ?_
        refine b_get (T := F_Md) hm hw 0 rfl rfl (fun w h => uw_of w (u_Md w h)) 32 (by decide) (uw_of _ k_640) rfl d_Md_curve_41 ?_
        refine lv_iconst (v := nI 1) hx hb d_Md_curve_44 (by decide) ?_
        refine lv_isub hx hb d_Md_curve_45 ?_
        refine b_ti (pk_sub (a := co) (b := 1) (by omega)) ?_
        refine lv_istore_n (lv' := [(2, .int (nI (co - 1))), (0, .ref md), (1, .int v)]) hx hb d_Md_curve_46 rfl hl (by decide) rfl (fun ls hl => ?_)
        exact lp_Md_curve (th := 0) hz hne hm hnm co (co - 1) (by omega) (by omega) (fun i h1 h2 => absurd h1 (by omega)) _ _ ls hw (lv_sub hl [0, 1, 2] rfl)
      · skip
        have h_35_2 : co = 0 := yeq0 c_35_2 (by omega) (by omega)
        refine lv_iconst (v := (-1)) hx hb d_Md_curve_38 (by decide) ?_
        exact b_iret (post := fun (r : Int32) (u : Unit) => cvR CA CW co v r) (w' := fun u => [(md, .inr (7, mdL za 0 cn ov sn kn fd cst co tb)), (za 33, .inl (k 0, 6, .inl CA)), (za 34, .inl (k 0, 6, .inl CW))]) () hm hw (Or.inl ⟨by omega, rfl⟩) d_Md_curve_39
    · skip
      exact absurd c_26_1 (by decide)
