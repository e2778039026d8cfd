/-! constructors -/

set_option maxHeartbeats 4000000 in
set_option maxRecDepth 100000 in
theorem c_Ln_init8 (l : Launch) (D : va_G) (k : Nat → ClassId) (sz : Nat) (a0 : Nat) : Met l y_Ln_init (uw y_Ln_init b_Ln_init 3 none) (rU 1 2 16) (va_Pc [.ref a0, .int (nI 8)] (bP (gU D k) [(a0, .inr (2, [.null, .null, .int (nI 0)]))] sz)) (va_Qv (fun (_ : Nat × Nat) => True) (fun u => bQ (gU D k) (va_A [(a0, .inr (2, [.null, .null, .int (nI 0)]))] sz) ([(a0, .inr (2, [.ref u.1, .ref u.2, .int (nI 0)])), (u.1, .inl (k 0, 8, .inl (fun _ => 0))), (u.2, .inl (k 0, 8, .inl (fun _ => 0)))])) (va_A [(a0, .inr (2, [.null, .null, .int (nI 0)]))] sz)) (rU 1 2 16).cells (rU 1 2 16).slots (va_A [(a0, .inr (2, [.null, .null, .int (nI 0)]))] sz) := by
  refine b_start (y := y_Ln_init) (maxL := 3) (ret := none) (cc := b_Ln_init) (ws' := ut) (rm := rU 1 2 16) (av := [.ref a0, .int (nI 8)]) (g := gU D k) (ws := [(a0, .inr (2, [.null, .null, .int (nI 0)]))]) (sz := sz) (Qc := fun A => va_Qv (fun (_ : Nat × Nat) => True) (fun u => bQ (gU D k) A ([(a0, .inr (2, [.ref u.1, .ref u.2, .int (nI 0)])), (u.1, .inl (k 0, 8, .inl (fun _ => 0))), (u.2, .inl (k 0, 8, .inl (fun _ => 0)))])) A) (by decide +kernel) (Nat.le_of_ble_eq_true rfl) ?_
  intro p e s m below meth c A hm hnm hw ls hl
  have hl : lv_has ls 3 [(0, .ref a0), (1, .int (nI 8))] := hl
  have hx := hm.1
  have hb := hm.2.1
  have hown := hm.2.2.2.2.1
  have hts := hm.2.2.2.2.2.1
  refine lv_aload_n hx hb d_Ln_init_0 rfl (lv_at hl 0 rfl) ?_
  refine b_sup hm (fun w h => uw_of w h) k_50 hl.1 (Nat.le_of_ble_eq_true rfl) d_Ln_init_1 ⟨by decide, by decide⟩ ?_
  refine lv_aload_n hx hb d_Ln_init_4 rfl (lv_at hl 0 rfl) ?_
  refine lv_iconst (v := nI 0) hx hb d_Ln_init_5 (by decide) ?_
  refine b_put (T := F_Ln) hm hw 0 rfl rfl (fun w h => uw_of w (u_Ln w h)) t_Ln t_Ln_ok n_Ln 2 (by decide) (uw_of _ k_56) rfl rfl rfl (Nat.le_of_ble_eq_true rfl) d_Ln_init_6 (w1 := [(a0, .inr (2, [.null, .null, .int (nI 0)]))]) rfl (fun H locs hw => ?_)
  refine lv_iload_n hx hb d_Ln_init_9 rfl (lv_at hl 1 rfl) ?_
  refine lv_iconst (v := nI 0) hx hb d_Ln_init_10 (by decide) ?_
  refine b_goi (wr := [(a0, .inr (2, [.null, .null, .int (nI 0)]))]) (b_runS (wc := []) (As := [.int (nI 8), .int (nI 0)]) (rest := []) hm hw (va_cwS 2 hts (gS2 uw_of k_53 k_51 k_52 k_6) rfl rfl rfl (by decide +kernel) ⟨by decide, by decide⟩) (c_Ma_max l D k _ (nI 8) (nI 0)) [] (by decide) rfl rfl hl.1 rfl (Nat.le_of_ble_eq_true rfl) d_Ln_init_11 ⟨by decide, by decide⟩) hw [] [0] rfl rfl (by decide) (by decide) (fun r _ H locs hp hw => ?_)
  have hw : bW (gU D k) A s H locs [(a0, .inr (2, [.null, .null, .int (nI 0)]))] := hw.sub [0] (by decide) rfl
  refine b_ti (y := nI 8) (hp.trans (by decide)) ?_
  refine lv_istore_n (lv' := [(2, .int (nI 8)), (0, .ref a0), (1, .int (nI 8))]) hx hb d_Ln_init_14 rfl hl (by decide) rfl (fun ls hl => ?_)
  refine lv_aload_n hx hb d_Ln_init_15 rfl (lv_at hl 1 rfl) ?_
  refine lv_iload_n hx hb d_Ln_init_16 rfl (lv_at hl 0 rfl) ?_
  refine b_newa 0 (atype := .int) (ty := .int) (cA := k 0) (N' := 8) (a0 := (8, .inl (fun _ => 0))) hm hw (uw_of _ k_65) rfl rfl (fun _ h => h) rfl (by decide) (by decide) (by decide) (by decide) d_Ln_init_17 (fun q17 H hw => ?_)
  have hw : bW (gU D k) A s H _ [(a0, .inr (2, [.null, .null, .int (nI 0)])), (q17, .inl (k 0, 8, .inl (fun _ => 0)))] := hw
  refine b_putF (T := F_Ln) hm hnm hw 0 rfl rfl (fun w h => uw_of w (u_Ln w h)) t_Ln t_Ln_ok n_Ln 0 (by decide) (uw_of _ k_54) rfl rfl rfl rfl (Nat.le_of_ble_eq_true rfl) d_Ln_init_19 (w1 := [(a0, .inr (2, [.ref q17, .null, .int (nI 0)])), (q17, .inl (k 0, 8, .inl (fun _ => 0)))]) rfl (fun H locs hw => ?_)
  refine lv_aload_n hx hb d_Ln_init_22 rfl (lv_at hl 1 rfl) ?_
  refine lv_iload_n hx hb d_Ln_init_23 rfl (lv_at hl 0 rfl) ?_
  refine b_newa 0 (atype := .int) (ty := .int) (cA := k 0) (N' := 8) (a0 := (8, .inl (fun _ => 0))) hm hw (uw_of _ k_65) rfl rfl (fun _ h => h) rfl (by decide) (by decide) (by decide) (by decide) d_Ln_init_24 (fun q24 H hw => ?_)
  have hw : bW (gU D k) A s H _ [(a0, .inr (2, [.ref q17, .null, .int (nI 0)])), (q17, .inl (k 0, 8, .inl (fun _ => 0))), (q24, .inl (k 0, 8, .inl (fun _ => 0)))] := hw
  refine b_putF (T := F_Ln) hm hnm hw 0 rfl rfl (fun w h => uw_of w (u_Ln w h)) t_Ln t_Ln_ok n_Ln 1 (by decide) (uw_of _ k_55) rfl rfl rfl rfl (Nat.le_of_ble_eq_true rfl) d_Ln_init_26 (w1 := [(a0, .inr (2, [.ref q17, .ref q24, .int (nI 0)])), (q17, .inl (k 0, 8, .inl (fun _ => 0))), (q24, .inl (k 0, 8, .inl (fun _ => 0)))]) rfl (fun H locs hw => ?_)
  exact b_vret (post := fun (_ : Nat × Nat) => True) (w' := fun u => [(a0, .inr (2, [.ref u.1, .ref u.2, .int (nI 0)])), (u.1, .inl (k 0, 8, .inl (fun _ => 0))), (u.2, .inl (k 0, 8, .inl (fun _ => 0)))]) (q17, q24) hm hw trivial d_Ln_init_29

set_option maxHeartbeats 4000000 in
set_option maxRecDepth 100000 in
theorem c_Ln_init6 (l : Launch) (D : va_G) (k : Nat → ClassId) (sz : Nat) (a0 : Nat) : Met l y_Ln_init (uw y_Ln_init b_Ln_init 3 none) (rU 1 2 12) (va_Pc [.ref a0, .int (nI 6)] (bP (gU D k) [(a0, .inr (2, [.null, .null, .int (nI 0)]))] sz)) (va_Qv (fun (_ : Nat × Nat) => True) (fun u => bQ (gU D k) (va_A [(a0, .inr (2, [.null, .null, .int (nI 0)]))] sz) ([(a0, .inr (2, [.ref u.1, .ref u.2, .int (nI 0)])), (u.1, .inl (k 0, 6, .inl (fun _ => 0))), (u.2, .inl (k 0, 6, .inl (fun _ => 0)))])) (va_A [(a0, .inr (2, [.null, .null, .int (nI 0)]))] sz)) (rU 1 2 12).cells (rU 1 2 12).slots (va_A [(a0, .inr (2, [.null, .null, .int (nI 0)]))] sz) := by
  refine b_start (y := y_Ln_init) (maxL := 3) (ret := none) (cc := b_Ln_init) (ws' := ut) (rm := rU 1 2 12) (av := [.ref a0, .int (nI 6)]) (g := gU D k) (ws := [(a0, .inr (2, [.null, .null, .int (nI 0)]))]) (sz := sz) (Qc := fun A => va_Qv (fun (_ : Nat × Nat) => True) (fun u => bQ (gU D k) A ([(a0, .inr (2, [.ref u.1, .ref u.2, .int (nI 0)])), (u.1, .inl (k 0, 6, .inl (fun _ => 0))), (u.2, .inl (k 0, 6, .inl (fun _ => 0)))])) A) (by decide +kernel) (Nat.le_of_ble_eq_true rfl) ?_
  intro p e s m below meth c A hm hnm hw ls hl
  have hl : lv_has ls 3 [(0, .ref a0), (1, .int (nI 6))] := hl
  have hx := hm.1
  have hb := hm.2.1
  have hown := hm.2.2.2.2.1
  have hts := hm.2.2.2.2.2.1
  refine lv_aload_n hx hb d_Ln_init_0 rfl (lv_at hl 0 rfl) ?_
  refine b_sup hm (fun w h => uw_of w h) k_50 hl.1 (Nat.le_of_ble_eq_true rfl) d_Ln_init_1 ⟨by decide, by decide⟩ ?_
  refine lv_aload_n hx hb d_Ln_init_4 rfl (lv_at hl 0 rfl) ?_
  refine lv_iconst (v := nI 0) hx hb d_Ln_init_5 (by decide) ?_
  refine b_put (T := F_Ln) hm hw 0 rfl rfl (fun w h => uw_of w (u_Ln w h)) t_Ln t_Ln_ok n_Ln 2 (by decide) (uw_of _ k_56) rfl rfl rfl (Nat.le_of_ble_eq_true rfl) d_Ln_init_6 (w1 := [(a0, .inr (2, [.null, .null, .int (nI 0)]))]) rfl (fun H locs hw => ?_)
  refine lv_iload_n hx hb d_Ln_init_9 rfl (lv_at hl 1 rfl) ?_
  refine lv_iconst (v := nI 0) hx hb d_Ln_init_10 (by decide) ?_
  refine b_goi (wr := [(a0, .inr (2, [.null, .null, .int (nI 0)]))]) (b_runS (wc := []) (As := [.int (nI 6), .int (nI 0)]) (rest := []) hm hw (va_cwS 2 hts (gS2 uw_of k_53 k_51 k_52 k_6) rfl rfl rfl (by decide +kernel) ⟨by decide, by decide⟩) (c_Ma_max l D k _ (nI 6) (nI 0)) [] (by decide) rfl rfl hl.1 rfl (Nat.le_of_ble_eq_true rfl) d_Ln_init_11 ⟨by decide, by decide⟩) hw [] [0] rfl rfl (by decide) (by decide) (fun r _ H locs hp hw => ?_)
  have hw : bW (gU D k) A s H locs [(a0, .inr (2, [.null, .null, .int (nI 0)]))] := hw.sub [0] (by decide) rfl
  refine b_ti (y := nI 6) (hp.trans (by decide)) ?_
  refine lv_istore_n (lv' := [(2, .int (nI 6)), (0, .ref a0), (1, .int (nI 6))]) hx hb d_Ln_init_14 rfl hl (by decide) rfl (fun ls hl => ?_)
  refine lv_aload_n hx hb d_Ln_init_15 rfl (lv_at hl 1 rfl) ?_
  refine lv_iload_n hx hb d_Ln_init_16 rfl (lv_at hl 0 rfl) ?_
  refine b_newa 0 (atype := .int) (ty := .int) (cA := k 0) (N' := 6) (a0 := (6, .inl (fun _ => 0))) hm hw (uw_of _ k_65) rfl rfl (fun _ h => h) rfl (by decide) (by decide) (by decide) (by decide) d_Ln_init_17 (fun q17 H hw => ?_)
  have hw : bW (gU D k) A s H _ [(a0, .inr (2, [.null, .null, .int (nI 0)])), (q17, .inl (k 0, 6, .inl (fun _ => 0)))] := hw
  refine b_putF (T := F_Ln) hm hnm hw 0 rfl rfl (fun w h => uw_of w (u_Ln w h)) t_Ln t_Ln_ok n_Ln 0 (by decide) (uw_of _ k_54) rfl rfl rfl rfl (Nat.le_of_ble_eq_true rfl) d_Ln_init_19 (w1 := [(a0, .inr (2, [.ref q17, .null, .int (nI 0)])), (q17, .inl (k 0, 6, .inl (fun _ => 0)))]) rfl (fun H locs hw => ?_)
  refine lv_aload_n hx hb d_Ln_init_22 rfl (lv_at hl 1 rfl) ?_
  refine lv_iload_n hx hb d_Ln_init_23 rfl (lv_at hl 0 rfl) ?_
  refine b_newa 0 (atype := .int) (ty := .int) (cA := k 0) (N' := 6) (a0 := (6, .inl (fun _ => 0))) hm hw (uw_of _ k_65) rfl rfl (fun _ h => h) rfl (by decide) (by decide) (by decide) (by decide) d_Ln_init_24 (fun q24 H hw => ?_)
  have hw : bW (gU D k) A s H _ [(a0, .inr (2, [.ref q17, .null, .int (nI 0)])), (q17, .inl (k 0, 6, .inl (fun _ => 0))), (q24, .inl (k 0, 6, .inl (fun _ => 0)))] := hw
  refine b_putF (T := F_Ln) hm hnm hw 0 rfl rfl (fun w h => uw_of w (u_Ln w h)) t_Ln t_Ln_ok n_Ln 1 (by decide) (uw_of _ k_55) rfl rfl rfl rfl (Nat.le_of_ble_eq_true rfl) d_Ln_init_26 (w1 := [(a0, .inr (2, [.ref q17, .ref q24, .int (nI 0)])), (q17, .inl (k 0, 6, .inl (fun _ => 0))), (q24, .inl (k 0, 6, .inl (fun _ => 0)))]) rfl (fun H locs hw => ?_)
  exact b_vret (post := fun (_ : Nat × Nat) => True) (w' := fun u => [(a0, .inr (2, [.ref u.1, .ref u.2, .int (nI 0)])), (u.1, .inl (k 0, 6, .inl (fun _ => 0))), (u.2, .inl (k 0, 6, .inl (fun _ => 0)))]) (q17, q24) hm hw trivial d_Ln_init_29

set_option maxHeartbeats 4000000 in
set_option maxRecDepth 100000 in
theorem c_Mc_init (l : Launch) (D : va_G) (k : Nat → ClassId) (sz : Nat) (a0 : Nat) : Met l y_Mc_init (uw y_Mc_init b_Mc_init 1 none) (rU 2 7 74) (va_Pc [.ref a0] (bP (gU D k) [(a0, .inr (3, [.int (nI 0), .int (nI 0), .int (nI 0), .null, .null, .null]))] sz)) (va_Qv (fun (_ : Nat × Nat × Nat × Nat × Nat × Nat × Nat) => True) (fun u => bQ (gU D k) (va_A [(a0, .inr (3, [.int (nI 0), .int (nI 0), .int (nI 0), .null, .null, .null]))] sz) ([(a0, .inr (3, [.int (nI 1), .int (nI 1), .int (nI 0), .ref u.1, .ref u.2.2.2.1, .ref u.2.2.2.2.2.2])), (u.1, .inr (2, [.ref u.2.1, .ref u.2.2.1, .int (nI 0)])), (u.2.1, .inl (k 0, 8, .inl (fun _ => 0))), (u.2.2.1, .inl (k 0, 8, .inl (fun _ => 0))), (u.2.2.2.1, .inr (2, [.ref u.2.2.2.2.1, .ref u.2.2.2.2.2.1, .int (nI 0)])), (u.2.2.2.2.1, .inl (k 0, 8, .inl (fun _ => 0))), (u.2.2.2.2.2.1, .inl (k 0, 8, .inl (fun _ => 0))), (u.2.2.2.2.2.2, .inl (k 2, 36, .inl (fun _ => 0)))])) (va_A [(a0, .inr (3, [.int (nI 0), .int (nI 0), .int (nI 0), .null, .null, .null]))] sz)) (rU 2 7 74).cells (rU 2 7 74).slots (va_A [(a0, .inr (3, [.int (nI 0), .int (nI 0), .int (nI 0), .null, .null, .null]))] sz) := by
  refine b_start (y := y_Mc_init) (maxL := 1) (ret := none) (cc := b_Mc_init) (ws' := ut) (rm := rU 2 7 74) (av := [.ref a0]) (g := gU D k) (ws := [(a0, .inr (3, [.int (nI 0), .int (nI 0), .int (nI 0), .null, .null, .null]))]) (sz := sz) (Qc := fun A => va_Qv (fun (_ : Nat × Nat × Nat × Nat × Nat × Nat × Nat) => True) (fun u => bQ (gU D k) A ([(a0, .inr (3, [.int (nI 1), .int (nI 1), .int (nI 0), .ref u.1, .ref u.2.2.2.1, .ref u.2.2.2.2.2.2])), (u.1, .inr (2, [.ref u.2.1, .ref u.2.2.1, .int (nI 0)])), (u.2.1, .inl (k 0, 8, .inl (fun _ => 0))), (u.2.2.1, .inl (k 0, 8, .inl (fun _ => 0))), (u.2.2.2.1, .inr (2, [.ref u.2.2.2.2.1, .ref u.2.2.2.2.2.1, .int (nI 0)])), (u.2.2.2.2.1, .inl (k 0, 8, .inl (fun _ => 0))), (u.2.2.2.2.2.1, .inl (k 0, 8, .inl (fun _ => 0))), (u.2.2.2.2.2.2, .inl (k 2, 36, .inl (fun _ => 0)))])) A) (by decide +kernel) (Nat.le_of_ble_eq_true rfl) ?_
  intro p e s m below meth c A hm hnm hw ls hl
  have hl : lv_has ls 1 [(0, .ref a0)] := hl
  have hx := hm.1
  have hb := hm.2.1
  have hown := hm.2.2.2.2.1
  have hts := hm.2.2.2.2.2.1
  refine lv_aload_n hx hb d_Mc_init_0 rfl (lv_at hl 0 rfl) ?_
  refine b_sup hm (fun w h => uw_of w h) k_44 hl.1 (Nat.le_of_ble_eq_true rfl) d_Mc_init_1 ⟨by decide, by decide⟩ ?_
  refine lv_aload_n hx hb d_Mc_init_4 rfl (lv_at hl 0 rfl) ?_
  refine lv_iconst (v := nI 1) hx hb d_Mc_init_5 (by decide) ?_
  refine b_put (T := F_Mc) hm hw 0 rfl rfl (fun w h => uw_of w (u_Mc w h)) t_Mc t_Mc_ok n_Mc 0 (by decide) (uw_of _ k_66) rfl rfl rfl (Nat.le_of_ble_eq_true rfl) d_Mc_init_6 (w1 := [(a0, .inr (3, [.int (nI 1), .int (nI 0), .int (nI 0), .null, .null, .null]))]) rfl (fun H locs hw => ?_)
  refine lv_aload_n hx hb d_Mc_init_9 rfl (lv_at hl 0 rfl) ?_
  refine lv_iconst (v := nI 1) hx hb d_Mc_init_10 (by decide) ?_
  refine b_put (T := F_Mc) hm hw 0 rfl rfl (fun w h => uw_of w (u_Mc w h)) t_Mc t_Mc_ok n_Mc 1 (by decide) (uw_of _ k_68) rfl rfl rfl (Nat.le_of_ble_eq_true rfl) d_Mc_init_11 (w1 := [(a0, .inr (3, [.int (nI 1), .int (nI 1), .int (nI 0), .null, .null, .null]))]) rfl (fun H locs hw => ?_)
  refine lv_aload_n hx hb d_Mc_init_14 rfl (lv_at hl 0 rfl) ?_
  refine lv_iconst (v := nI 0) hx hb d_Mc_init_15 (by decide) ?_
  refine b_put (T := F_Mc) hm hw 0 rfl rfl (fun w h => uw_of w (u_Mc w h)) t_Mc t_Mc_ok n_Mc 2 (by decide) (uw_of _ k_70) rfl rfl rfl (Nat.le_of_ble_eq_true rfl) d_Mc_init_16 (w1 := [(a0, .inr (3, [.int (nI 1), .int (nI 1), .int (nI 0), .null, .null, .null]))]) rfl (fun H locs hw => ?_)
  refine lv_aload_n hx hb d_Mc_init_19 rfl (lv_at hl 0 rfl) ?_
  refine b_new (T := F_Ln) (N := 3) (ci := 2) hm hw (fun w h => uw_of w (u_Ln w h)) t_Ln t_Ln_ok (uw_of _ k_45) (uw_of _ k_46) (uw_of _ k_5) rfl [.null, .null, .int (nI 0)] (by decide +kernel) (by decide) (by decide) d_Mc_init_20 (fun q20 H hw => ?_)
  have hw : bW (gU D k) A s H _ [(a0, .inr (3, [.int (nI 1), .int (nI 1), .int (nI 0), .null, .null, .null])), (q20, .inr (2, [.null, .null, .int (nI 0)]))] := hw
  refine lv_dup hx hb d_Mc_init_23 rfl ?_
  refine lv_bipush (v := nI 8) hx hb d_Mc_init_24 (by decide) ?_
  refine b_gov (wr := [(a0, .inr (3, [.int (nI 1), .int (nI 1), .int (nI 0), .null, .null, .null]))]) (b_runI (wc := [(q20, .inr (2, [.null, .null, .int (nI 0)]))]) (As := [.int (nI 8)]) (rest := [.ref q20, .ref a0]) hm hw (cwI 1 hts (uw_good (fun w h => uw_of w h) k_49) rfl rfl rfl (hts _ (uw_of _ k_5)) (hts _ (uw_of _ k_47)) (hts _ (uw_of _ k_48)) rfl (by decide +kernel) ⟨by decide, by decide⟩) (c_Ln_init8 l D k _ q20) [1] (by decide) rfl rfl hl.1 rfl (Nat.le_of_ble_eq_true rfl) d_Mc_init_26 ⟨by decide, by decide⟩) hw [1] [0] rfl rfl (by decide) (by decide) (fun u26 H locs _ hw => ?_)
  have hw : bW (gU D k) A s H _ [(a0, .inr (3, [.int (nI 1), .int (nI 1), .int (nI 0), .null, .null, .null])), (q20, .inr (2, [.ref u26.1, .ref u26.2, .int (nI 0)])), (u26.1, .inl (k 0, 8, .inl (fun _ => 0))), (u26.2, .inl (k 0, 8, .inl (fun _ => 0)))] := hw
  refine b_putF (T := F_Mc) hm hnm hw 0 rfl rfl (fun w h => uw_of w (u_Mc w h)) t_Mc t_Mc_ok n_Mc 3 (by decide) (uw_of _ k_73) rfl rfl rfl rfl (Nat.le_of_ble_eq_true rfl) d_Mc_init_29 (w1 := [(a0, .inr (3, [.int (nI 1), .int (nI 1), .int (nI 0), .ref q20, .null, .null])), (q20, .inr (2, [.ref u26.1, .ref u26.2, .int (nI 0)])), (u26.1, .inl (k 0, 8, .inl (fun _ => 0))), (u26.2, .inl (k 0, 8, .inl (fun _ => 0)))]) rfl (fun H locs hw => ?_)
  refine lv_aload_n hx hb d_Mc_init_32 rfl (lv_at hl 0 rfl) ?_
  refine b_new (T := F_Ln) (N := 3) (ci := 2) hm hw (fun w h => uw_of w (u_Ln w h)) t_Ln t_Ln_ok (uw_of _ k_45) (uw_of _ k_46) (uw_of _ k_5) rfl [.null, .null, .int (nI 0)] (by decide +kernel) (by decide) (by decide) d_Mc_init_33 (fun q33 H hw => ?_)
  have hw : bW (gU D k) A s H _ [(a0, .inr (3, [.int (nI 1), .int (nI 1), .int (nI 0), .ref q20, .null, .null])), (q20, .inr (2, [.ref u26.1, .ref u26.2, .int (nI 0)])), (u26.1, .inl (k 0, 8, .inl (fun _ => 0))), (u26.2, .inl (k 0, 8, .inl (fun _ => 0))), (q33, .inr (2, [.null, .null, .int (nI 0)]))] := hw
  refine lv_dup hx hb d_Mc_init_36 rfl ?_
  refine lv_bipush (v := nI 8) hx hb d_Mc_init_37 (by decide) ?_
  refine b_gov (wr := [(a0, .inr (3, [.int (nI 1), .int (nI 1), .int (nI 0), .ref q20, .null, .null])), (q20, .inr (2, [.ref u26.1, .ref u26.2, .int (nI 0)])), (u26.1, .inl (k 0, 8, .inl (fun _ => 0))), (u26.2, .inl (k 0, 8, .inl (fun _ => 0)))]) (b_runI (wc := [(q33, .inr (2, [.null, .null, .int (nI 0)]))]) (As := [.int (nI 8)]) (rest := [.ref q33, .ref a0]) hm hw (cwI 1 hts (uw_good (fun w h => uw_of w h) k_49) rfl rfl rfl (hts _ (uw_of _ k_5)) (hts _ (uw_of _ k_47)) (hts _ (uw_of _ k_48)) rfl (by decide +kernel) ⟨by decide, by decide⟩) (c_Ln_init8 l D k _ q33) [4] (by decide) rfl rfl hl.1 rfl (Nat.le_of_ble_eq_true rfl) d_Mc_init_39 ⟨by decide, by decide⟩) hw [4] [0, 1, 2, 3] rfl rfl (by decide) (by decide) (fun u39 H locs _ hw => ?_)
  have hw : bW (gU D k) A s H _ [(a0, .inr (3, [.int (nI 1), .int (nI 1), .int (nI 0), .ref q20, .null, .null])), (q20, .inr (2, [.ref u26.1, .ref u26.2, .int (nI 0)])), (u26.1, .inl (k 0, 8, .inl (fun _ => 0))), (u26.2, .inl (k 0, 8, .inl (fun _ => 0))), (q33, .inr (2, [.ref u39.1, .ref u39.2, .int (nI 0)])), (u39.1, .inl (k 0, 8, .inl (fun _ => 0))), (u39.2, .inl (k 0, 8, .inl (fun _ => 0)))] := hw
  refine b_putF (T := F_Mc) hm hnm hw 0 rfl rfl (fun w h => uw_of w (u_Mc w h)) t_Mc t_Mc_ok n_Mc 4 (by decide) (uw_of _ k_76) rfl rfl rfl rfl (Nat.le_of_ble_eq_true rfl) d_Mc_init_42 (w1 := [(a0, .inr (3, [.int (nI 1), .int (nI 1), .int (nI 0), .ref q20, .ref q33, .null])), (q20, .inr (2, [.ref u26.1, .ref u26.2, .int (nI 0)])), (u26.1, .inl (k 0, 8, .inl (fun _ => 0))), (u26.2, .inl (k 0, 8, .inl (fun _ => 0))), (q33, .inr (2, [.ref u39.1, .ref u39.2, .int (nI 0)])), (u39.1, .inl (k 0, 8, .inl (fun _ => 0))), (u39.2, .inl (k 0, 8, .inl (fun _ => 0)))]) rfl (fun H locs hw => ?_)
  refine lv_aload_n hx hb d_Mc_init_45 rfl (lv_at hl 0 rfl) ?_
  refine lv_bipush (v := nI 36) hx hb d_Mc_init_46 (by decide) ?_
  refine b_newa 2 (atype := .boolean) (ty := .boolean) (cA := k 2) (N' := 36) (a0 := (36, .inl (fun _ => 0))) hm hw (uw_of _ k_95) rfl rfl (fun _ h => h) rfl (by decide) (by decide) (by decide) (by decide) d_Mc_init_48 (fun q48 H hw => ?_)
  have hw : bW (gU D k) A s H _ [(a0, .inr (3, [.int (nI 1), .int (nI 1), .int (nI 0), .ref q20, .ref q33, .null])), (q20, .inr (2, [.ref u26.1, .ref u26.2, .int (nI 0)])), (u26.1, .inl (k 0, 8, .inl (fun _ => 0))), (u26.2, .inl (k 0, 8, .inl (fun _ => 0))), (q33, .inr (2, [.ref u39.1, .ref u39.2, .int (nI 0)])), (u39.1, .inl (k 0, 8, .inl (fun _ => 0))), (u39.2, .inl (k 0, 8, .inl (fun _ => 0))), (q48, .inl (k 2, 36, .inl (fun _ => 0)))] := hw
  refine b_putF (T := F_Mc) hm hnm hw 0 rfl rfl (fun w h => uw_of w (u_Mc w h)) t_Mc t_Mc_ok n_Mc 5 (by decide) (uw_of _ k_79) rfl rfl rfl rfl (Nat.le_of_ble_eq_true rfl) d_Mc_init_50 (w1 := [(a0, .inr (3, [.int (nI 1), .int (nI 1), .int (nI 0), .ref q20, .ref q33, .ref q48])), (q20, .inr (2, [.ref u26.1, .ref u26.2, .int (nI 0)])), (u26.1, .inl (k 0, 8, .inl (fun _ => 0))), (u26.2, .inl (k 0, 8, .inl (fun _ => 0))), (q33, .inr (2, [.ref u39.1, .ref u39.2, .int (nI 0)])), (u39.1, .inl (k 0, 8, .inl (fun _ => 0))), (u39.2, .inl (k 0, 8, .inl (fun _ => 0))), (q48, .inl (k 2, 36, .inl (fun _ => 0)))]) rfl (fun H locs hw => ?_)
  have hw : bW (gU D k) A s H locs [(a0, .inr (3, [.int (nI 1), .int (nI 1), .int (nI 0), .ref q20, .ref q33, .ref q48])), (q20, .inr (2, [.ref u26.1, .ref u26.2, .int (nI 0)])), (u26.1, .inl (k 0, 8, .inl (fun _ => 0))), (u26.2, .inl (k 0, 8, .inl (fun _ => 0))), (q33, .inr (2, [.ref u39.1, .ref u39.2, .int (nI 0)])), (u39.1, .inl (k 0, 8, .inl (fun _ => 0))), (u39.2, .inl (k 0, 8, .inl (fun _ => 0))), (q48, .inl (k 2, 36, .inl (fun _ => 0)))] := hw.sub [0, 1, 2, 3, 4, 5, 6, 7] (by decide) rfl
  exact b_vret (post := fun (_ : Nat × Nat × Nat × Nat × Nat × Nat × Nat) => True) (w' := fun u => [(a0, .inr (3, [.int (nI 1), .int (nI 1), .int (nI 0), .ref u.1, .ref u.2.2.2.1, .ref u.2.2.2.2.2.2])), (u.1, .inr (2, [.ref u.2.1, .ref u.2.2.1, .int (nI 0)])), (u.2.1, .inl (k 0, 8, .inl (fun _ => 0))), (u.2.2.1, .inl (k 0, 8, .inl (fun _ => 0))), (u.2.2.2.1, .inr (2, [.ref u.2.2.2.2.1, .ref u.2.2.2.2.2.1, .int (nI 0)])), (u.2.2.2.2.1, .inl (k 0, 8, .inl (fun _ => 0))), (u.2.2.2.2.2.1, .inl (k 0, 8, .inl (fun _ => 0))), (u.2.2.2.2.2.2, .inl (k 2, 36, .inl (fun _ => 0)))]) (q20, u26.1, u26.2, q33, u39.1, u39.2, q48) hm hw trivial d_Mc_init_53

set_option maxHeartbeats 4000000 in
set_option maxRecDepth 100000 in
theorem c_Sa_init (l : Launch) (D : va_G) (k : Nat → ClassId) (sz : Nat) (a0 : Nat) : Met l y_Sa_init (uw y_Sa_init b_Sa_init 1 none) (rU 1 5 6144) (va_Pc [.ref a0] (bP (gU D k) [(a0, .inr (5, [.null, .int (nI 0), .null, .null, .null, .null]))] sz)) (va_Qv (fun (_ : Nat × Nat × Nat × Nat × Nat) => True) (fun u => bQ (gU D k) (va_A [(a0, .inr (5, [.null, .int (nI 0), .null, .null, .null, .null]))] sz) ([(a0, .inr (5, [.ref u.1, .int (nI 1), .ref u.2.1, .ref u.2.2.1, .ref u.2.2.2.1, .ref u.2.2.2.2])), (u.1, .inl (k 0, 512, .inl (fun _ => 0))), (u.2.1, .inl (k 0, 512, .inl (fun _ => 0))), (u.2.2.1, .inl (k 0, 512, .inl (fun _ => 0))), (u.2.2.2.1, .inl (k 0, 512, .inl (fun _ => 0))), (u.2.2.2.2, .inl (k 0, 4096, .inl (fun _ => 0)))])) (va_A [(a0, .inr (5, [.null, .int (nI 0), .null, .null, .null, .null]))] sz)) (rU 1 5 6144).cells (rU 1 5 6144).slots (va_A [(a0, .inr (5, [.null, .int (nI 0), .null, .null, .null, .null]))] sz) := by
  refine b_start (y := y_Sa_init) (maxL := 1) (ret := none) (cc := b_Sa_init) (ws' := ut) (rm := rU 1 5 6144) (av := [.ref a0]) (g := gU D k) (ws := [(a0, .inr (5, [.null, .int (nI 0), .null, .null, .null, .null]))]) (sz := sz) (Qc := fun A => va_Qv (fun (_ : Nat × Nat × Nat × Nat × Nat) => True) (fun u => bQ (gU D k) A ([(a0, .inr (5, [.ref u.1, .int (nI 1), .ref u.2.1, .ref u.2.2.1, .ref u.2.2.2.1, .ref u.2.2.2.2])), (u.1, .inl (k 0, 512, .inl (fun _ => 0))), (u.2.1, .inl (k 0, 512, .inl (fun _ => 0))), (u.2.2.1, .inl (k 0, 512, .inl (fun _ => 0))), (u.2.2.2.1, .inl (k 0, 512, .inl (fun _ => 0))), (u.2.2.2.2, .inl (k 0, 4096, .inl (fun _ => 0)))])) A) (by decide +kernel) (Nat.le_of_ble_eq_true rfl) ?_
  intro p e s m below meth c A hm hnm hw ls hl
  have hl : lv_has ls 1 [(0, .ref a0)] := hl
  have hx := hm.1
  have hb := hm.2.1
  have hown := hm.2.2.2.2.1
  have hts := hm.2.2.2.2.2.1
  refine lv_aload_n hx hb d_Sa_init_0 rfl (lv_at hl 0 rfl) ?_
  refine b_sup hm (fun w h => uw_of w h) k_119 hl.1 (Nat.le_of_ble_eq_true rfl) d_Sa_init_1 ⟨by decide, by decide⟩ ?_
  refine lv_aload_n hx hb d_Sa_init_4 rfl (lv_at hl 0 rfl) ?_
  refine lv_sipush (v := nI 512) hx hb d_Sa_init_5 (by decide) ?_
  refine b_newa 0 (atype := .int) (ty := .int) (cA := k 0) (N' := 512) (a0 := (512, .inl (fun _ => 0))) hm hw (uw_of _ k_65) rfl rfl (fun _ h => h) rfl (by decide) (by decide) (by decide) (by decide) d_Sa_init_8 (fun q8 H hw => ?_)
  have hw : bW (gU D k) A s H _ [(a0, .inr (5, [.null, .int (nI 0), .null, .null, .null, .null])), (q8, .inl (k 0, 512, .inl (fun _ => 0)))] := hw
  refine b_putF (T := F_Sa) hm hnm hw 0 rfl rfl (fun w h => uw_of w (u_Sa w h)) t_Sa t_Sa_ok n_Sa 0 (by decide) (uw_of _ k_120) rfl rfl rfl rfl (Nat.le_of_ble_eq_true rfl) d_Sa_init_10 (w1 := [(a0, .inr (5, [.ref q8, .int (nI 0), .null, .null, .null, .null])), (q8, .inl (k 0, 512, .inl (fun _ => 0)))]) rfl (fun H locs hw => ?_)
  refine lv_aload_n hx hb d_Sa_init_13 rfl (lv_at hl 0 rfl) ?_
  refine lv_iconst (v := nI 1) hx hb d_Sa_init_14 (by decide) ?_
  refine b_put (T := F_Sa) hm hw 0 rfl rfl (fun w h => uw_of w (u_Sa w h)) t_Sa t_Sa_ok n_Sa 1 (by decide) (uw_of _ k_122) rfl rfl rfl (Nat.le_of_ble_eq_true rfl) d_Sa_init_15 (w1 := [(a0, .inr (5, [.ref q8, .int (nI 1), .null, .null, .null, .null])), (q8, .inl (k 0, 512, .inl (fun _ => 0)))]) rfl (fun H locs hw => ?_)
  refine lv_aload_n hx hb d_Sa_init_18 rfl (lv_at hl 0 rfl) ?_
  refine lv_sipush (v := nI 512) hx hb d_Sa_init_19 (by decide) ?_
  refine b_newa 0 (atype := .int) (ty := .int) (cA := k 0) (N' := 512) (a0 := (512, .inl (fun _ => 0))) hm hw (uw_of _ k_65) rfl rfl (fun _ h => h) rfl (by decide) (by decide) (by decide) (by decide) d_Sa_init_22 (fun q22 H hw => ?_)
  have hw : bW (gU D k) A s H _ [(a0, .inr (5, [.ref q8, .int (nI 1), .null, .null, .null, .null])), (q8, .inl (k 0, 512, .inl (fun _ => 0))), (q22, .inl (k 0, 512, .inl (fun _ => 0)))] := hw
  refine b_putF (T := F_Sa) hm hnm hw 0 rfl rfl (fun w h => uw_of w (u_Sa w h)) t_Sa t_Sa_ok n_Sa 2 (by decide) (uw_of _ k_124) rfl rfl rfl rfl (Nat.le_of_ble_eq_true rfl) d_Sa_init_24 (w1 := [(a0, .inr (5, [.ref q8, .int (nI 1), .ref q22, .null, .null, .null])), (q8, .inl (k 0, 512, .inl (fun _ => 0))), (q22, .inl (k 0, 512, .inl (fun _ => 0)))]) rfl (fun H locs hw => ?_)
  refine lv_aload_n hx hb d_Sa_init_27 rfl (lv_at hl 0 rfl) ?_
  refine lv_sipush (v := nI 512) hx hb d_Sa_init_28 (by decide) ?_
  refine b_newa 0 (atype := .int) (ty := .int) (cA := k 0) (N' := 512) (a0 := (512, .inl (fun _ => 0))) hm hw (uw_of _ k_65) rfl rfl (fun _ h => h) rfl (by decide) (by decide) (by decide) (by decide) d_Sa_init_31 (fun q31 H hw => ?_)
  have hw : bW (gU D k) A s H _ [(a0, .inr (5, [.ref q8, .int (nI 1), .ref q22, .null, .null, .null])), (q8, .inl (k 0, 512, .inl (fun _ => 0))), (q22, .inl (k 0, 512, .inl (fun _ => 0))), (q31, .inl (k 0, 512, .inl (fun _ => 0)))] := hw
  refine b_putF (T := F_Sa) hm hnm hw 0 rfl rfl (fun w h => uw_of w (u_Sa w h)) t_Sa t_Sa_ok n_Sa 3 (by decide) (uw_of _ k_126) rfl rfl rfl rfl (Nat.le_of_ble_eq_true rfl) d_Sa_init_33 (w1 := [(a0, .inr (5, [.ref q8, .int (nI 1), .ref q22, .ref q31, .null, .null])), (q8, .inl (k 0, 512, .inl (fun _ => 0))), (q22, .inl (k 0, 512, .inl (fun _ => 0))), (q31, .inl (k 0, 512, .inl (fun _ => 0)))]) rfl (fun H locs hw => ?_)
  refine lv_aload_n hx hb d_Sa_init_36 rfl (lv_at hl 0 rfl) ?_
  refine lv_sipush (v := nI 512) hx hb d_Sa_init_37 (by decide) ?_
  refine b_newa 0 (atype := .int) (ty := .int) (cA := k 0) (N' := 512) (a0 := (512, .inl (fun _ => 0))) hm hw (uw_of _ k_65) rfl rfl (fun _ h => h) rfl (by decide) (by decide) (by decide) (by decide) d_Sa_init_40 (fun q40 H hw => ?_)
  have hw : bW (gU D k) A s H _ [(a0, .inr (5, [.ref q8, .int (nI 1), .ref q22, .ref q31, .null, .null])), (q8, .inl (k 0, 512, .inl (fun _ => 0))), (q22, .inl (k 0, 512, .inl (fun _ => 0))), (q31, .inl (k 0, 512, .inl (fun _ => 0))), (q40, .inl (k 0, 512, .inl (fun _ => 0)))] := hw
  refine b_putF (T := F_Sa) hm hnm hw 0 rfl rfl (fun w h => uw_of w (u_Sa w h)) t_Sa t_Sa_ok n_Sa 4 (by decide) (uw_of _ k_128) rfl rfl rfl rfl (Nat.le_of_ble_eq_true rfl) d_Sa_init_42 (w1 := [(a0, .inr (5, [.ref q8, .int (nI 1), .ref q22, .ref q31, .ref q40, .null])), (q8, .inl (k 0, 512, .inl (fun _ => 0))), (q22, .inl (k 0, 512, .inl (fun _ => 0))), (q31, .inl (k 0, 512, .inl (fun _ => 0))), (q40, .inl (k 0, 512, .inl (fun _ => 0)))]) rfl (fun H locs hw => ?_)
  refine lv_aload_n hx hb d_Sa_init_45 rfl (lv_at hl 0 rfl) ?_
  refine lv_sipush (v := nI 4096) hx hb d_Sa_init_46 (by decide) ?_
  refine b_newa 0 (atype := .int) (ty := .int) (cA := k 0) (N' := 4096) (a0 := (4096, .inl (fun _ => 0))) hm hw (uw_of _ k_65) rfl rfl (fun _ h => h) rfl (by decide) (by decide) (by decide) (by decide) d_Sa_init_49 (fun q49 H hw => ?_)
  have hw : bW (gU D k) A s H _ [(a0, .inr (5, [.ref q8, .int (nI 1), .ref q22, .ref q31, .ref q40, .null])), (q8, .inl (k 0, 512, .inl (fun _ => 0))), (q22, .inl (k 0, 512, .inl (fun _ => 0))), (q31, .inl (k 0, 512, .inl (fun _ => 0))), (q40, .inl (k 0, 512, .inl (fun _ => 0))), (q49, .inl (k 0, 4096, .inl (fun _ => 0)))] := hw
  refine b_putF (T := F_Sa) hm hnm hw 0 rfl rfl (fun w h => uw_of w (u_Sa w h)) t_Sa t_Sa_ok n_Sa 5 (by decide) (uw_of _ k_130) rfl rfl rfl rfl (Nat.le_of_ble_eq_true rfl) d_Sa_init_51 (w1 := [(a0, .inr (5, [.ref q8, .int (nI 1), .ref q22, .ref q31, .ref q40, .ref q49])), (q8, .inl (k 0, 512, .inl (fun _ => 0))), (q22, .inl (k 0, 512, .inl (fun _ => 0))), (q31, .inl (k 0, 512, .inl (fun _ => 0))), (q40, .inl (k 0, 512, .inl (fun _ => 0))), (q49, .inl (k 0, 4096, .inl (fun _ => 0)))]) rfl (fun H locs hw => ?_)
  exact b_vret (post := fun (_ : Nat × Nat × Nat × Nat × Nat) => True) (w' := fun u => [(a0, .inr (5, [.ref u.1, .int (nI 1), .ref u.2.1, .ref u.2.2.1, .ref u.2.2.2.1, .ref u.2.2.2.2])), (u.1, .inl (k 0, 512, .inl (fun _ => 0))), (u.2.1, .inl (k 0, 512, .inl (fun _ => 0))), (u.2.2.1, .inl (k 0, 512, .inl (fun _ => 0))), (u.2.2.2.1, .inl (k 0, 512, .inl (fun _ => 0))), (u.2.2.2.2, .inl (k 0, 4096, .inl (fun _ => 0)))]) (q8, q22, q31, q40, q49) hm hw trivial d_Sa_init_54

set_option maxHeartbeats 4000000 in
set_option maxRecDepth 100000 in
theorem c_Bh_init (l : Launch) (D : va_G) (k : Nat → ClassId) (sz : Nat) (a0 : Nat) : Met l y_Bh_init (uw y_Bh_init b_Bh_init 1 none) (rU 1 2 72) (va_Pc [.ref a0] (bP (gU D k) [(a0, .inr (0, [.null, .int (nI 0), .null]))] sz)) (va_Qv (fun (_ : Nat × Nat) => True) (fun u => bQ (gU D k) (va_A [(a0, .inr (0, [.null, .int (nI 0), .null]))] sz) ([(a0, .inr (0, [.ref u.1, .int (nI 0), .ref u.2])), (u.1, .inl (k 0, 36, .inl (fun _ => 0))), (u.2, .inl (k 0, 36, .inl (fun _ => 0)))])) (va_A [(a0, .inr (0, [.null, .int (nI 0), .null]))] sz)) (rU 1 2 72).cells (rU 1 2 72).slots (va_A [(a0, .inr (0, [.null, .int (nI 0), .null]))] sz) := by
  refine b_start (y := y_Bh_init) (maxL := 1) (ret := none) (cc := b_Bh_init) (ws' := ut) (rm := rU 1 2 72) (av := [.ref a0]) (g := gU D k) (ws := [(a0, .inr (0, [.null, .int (nI 0), .null]))]) (sz := sz) (Qc := fun A => va_Qv (fun (_ : Nat × Nat) => True) (fun u => bQ (gU D k) A ([(a0, .inr (0, [.ref u.1, .int (nI 0), .ref u.2])), (u.1, .inl (k 0, 36, .inl (fun _ => 0))), (u.2, .inl (k 0, 36, .inl (fun _ => 0)))])) A) (by decide +kernel) (Nat.le_of_ble_eq_true rfl) ?_
  intro p e s m below meth c A hm hnm hw ls hl
  have hl : lv_has ls 1 [(0, .ref a0)] := hl
  have hx := hm.1
  have hb := hm.2.1
  have hown := hm.2.2.2.2.1
  have hts := hm.2.2.2.2.2.1
  refine lv_aload_n hx hb d_Bh_init_0 rfl (lv_at hl 0 rfl) ?_
  refine b_sup hm (fun w h => uw_of w h) k_191 hl.1 (Nat.le_of_ble_eq_true rfl) d_Bh_init_1 ⟨by decide, by decide⟩ ?_
  refine lv_aload_n hx hb d_Bh_init_4 rfl (lv_at hl 0 rfl) ?_
  refine lv_bipush (v := nI 36) hx hb d_Bh_init_5 (by decide) ?_
  refine b_newa 0 (atype := .int) (ty := .int) (cA := k 0) (N' := 36) (a0 := (36, .inl (fun _ => 0))) hm hw (uw_of _ k_65) rfl rfl (fun _ h => h) rfl (by decide) (by decide) (by decide) (by decide) d_Bh_init_7 (fun q7 H hw => ?_)
  have hw : bW (gU D k) A s H _ [(a0, .inr (0, [.null, .int (nI 0), .null])), (q7, .inl (k 0, 36, .inl (fun _ => 0)))] := hw
  refine b_putF (T := F_Bh) hm hnm hw 0 rfl rfl (fun w h => uw_of w (u_Bh w h)) t_Bh t_Bh_ok n_Bh 0 (by decide) (uw_of _ k_192) rfl rfl rfl rfl (Nat.le_of_ble_eq_true rfl) d_Bh_init_9 (w1 := [(a0, .inr (0, [.ref q7, .int (nI 0), .null])), (q7, .inl (k 0, 36, .inl (fun _ => 0)))]) rfl (fun H locs hw => ?_)
  refine lv_aload_n hx hb d_Bh_init_12 rfl (lv_at hl 0 rfl) ?_
  refine lv_iconst (v := nI 0) hx hb d_Bh_init_13 (by decide) ?_
  refine b_put (T := F_Bh) hm hw 0 rfl rfl (fun w h => uw_of w (u_Bh w h)) t_Bh t_Bh_ok n_Bh 1 (by decide) (uw_of _ k_193) rfl rfl rfl (Nat.le_of_ble_eq_true rfl) d_Bh_init_14 (w1 := [(a0, .inr (0, [.ref q7, .int (nI 0), .null])), (q7, .inl (k 0, 36, .inl (fun _ => 0)))]) rfl (fun H locs hw => ?_)
  refine lv_aload_n hx hb d_Bh_init_17 rfl (lv_at hl 0 rfl) ?_
  refine lv_bipush (v := nI 36) hx hb d_Bh_init_18 (by decide) ?_
  refine b_newa 0 (atype := .int) (ty := .int) (cA := k 0) (N' := 36) (a0 := (36, .inl (fun _ => 0))) hm hw (uw_of _ k_65) rfl rfl (fun _ h => h) rfl (by decide) (by decide) (by decide) (by decide) d_Bh_init_20 (fun q20 H hw => ?_)
  have hw : bW (gU D k) A s H _ [(a0, .inr (0, [.ref q7, .int (nI 0), .null])), (q7, .inl (k 0, 36, .inl (fun _ => 0))), (q20, .inl (k 0, 36, .inl (fun _ => 0)))] := hw
  refine b_putF (T := F_Bh) hm hnm hw 0 rfl rfl (fun w h => uw_of w (u_Bh w h)) t_Bh t_Bh_ok n_Bh 2 (by decide) (uw_of _ k_195) rfl rfl rfl rfl (Nat.le_of_ble_eq_true rfl) d_Bh_init_22 (w1 := [(a0, .inr (0, [.ref q7, .int (nI 0), .ref q20])), (q7, .inl (k 0, 36, .inl (fun _ => 0))), (q20, .inl (k 0, 36, .inl (fun _ => 0)))]) rfl (fun H locs hw => ?_)
  exact b_vret (post := fun (_ : Nat × Nat) => True) (w' := fun u => [(a0, .inr (0, [.ref u.1, .int (nI 0), .ref u.2])), (u.1, .inl (k 0, 36, .inl (fun _ => 0))), (u.2, .inl (k 0, 36, .inl (fun _ => 0)))]) (q7, q20) hm hw trivial d_Bh_init_25
