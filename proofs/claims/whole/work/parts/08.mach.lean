/-! Math.max, min; a held line; a machine's digits; the hole in the ground -/

set_option maxHeartbeats 4000000 in
set_option maxRecDepth 100000 in
theorem c_Ma_max (l : Launch) (D : va_G) (k : Nat → ClassId) (sz : Nat) (x y : Int32) : Met l y_Ma_max (uw y_Ma_max b_Ma_max 2 (some .int)) (rU 0 0 0) (va_Pc [.int x, .int y] (bP (gU D k) [] sz)) (va_Qi (fun (r : Int32) (_ : Unit) => r = if x < y then y else x) (fun u => bQ (gU D k) (va_A [] sz) ([])) (va_A [] sz)) (rU 0 0 0).cells (rU 0 0 0).slots (va_A [] sz) := by
  refine b_startF (Qc := fun A => va_Qi (fun (r : Int32) (_ : Unit) => r = if x < y then y else x) (fun u => bQ (gU D k) A ([])) A) (by decide +kernel) (Nat.le_of_ble_eq_true rfl) ?_
  intro p e s m below meth c A hm hnm hw ls hl
  have hl : lv_has ls 2 [(0, .int x), (1, .int y)] := hl
  have hx := hm.1
  have hb := hm.2.1
  have hown := hm.2.2.2.2.1
  have hts := hm.2.2.2.2.2.1
  refine lv_iload_n hx hb d_Ma_max_0 rfl (lv_at hl 0 rfl) ?_
  refine lv_iload_n hx hb d_Ma_max_1 rfl (lv_at hl 1 rfl) ?_
  refine lv_icmp_lt (tgt := 9) hx hb d_Ma_max_2 (by decide) (fun c_2_0 => ?_) (fun c_2_0 => ?_)
  · skip
    refine lv_iload_n hx hb d_Ma_max_9 rfl (lv_at hl 1 rfl) ?_
    exact b_iret () hm hw (by grind) d_Ma_max_10
  · skip
    refine lv_iload_n hx hb d_Ma_max_5 rfl (lv_at hl 0 rfl) ?_
    refine lv_goto (tgt := 10) hx hb d_Ma_max_6 (by decide) ?_
    exact b_iret () hm hw (by grind) d_Ma_max_10

set_option maxHeartbeats 4000000 in
set_option maxRecDepth 100000 in
theorem c_Ma_min (l : Launch) (D : va_G) (k : Nat → ClassId) (sz : Nat) (x y : Int32) : Met l y_Ma_min (uw y_Ma_min b_Ma_min 2 (some .int)) (rU 0 0 0) (va_Pc [.int x, .int y] (bP (gU D k) [] sz)) (va_Qi (fun (r : Int32) (_ : Unit) => r = if y < x then y else x) (fun u => bQ (gU D k) (va_A [] sz) ([])) (va_A [] sz)) (rU 0 0 0).cells (rU 0 0 0).slots (va_A [] sz) := by
  refine b_startF (Qc := fun A => va_Qi (fun (r : Int32) (_ : Unit) => r = if y < x then y else x) (fun u => bQ (gU D k) A ([])) A) (by decide +kernel) (Nat.le_of_ble_eq_true rfl) ?_
  intro p e s m below meth c A hm hnm hw ls hl
  have hl : lv_has ls 2 [(0, .int x), (1, .int y)] := hl
  have hx := hm.1
  have hb := hm.2.1
  have hown := hm.2.2.2.2.1
  have hts := hm.2.2.2.2.2.1
  refine lv_iload_n hx hb d_Ma_min_0 rfl (lv_at hl 0 rfl) ?_
  refine lv_iload_n hx hb d_Ma_min_1 rfl (lv_at hl 1 rfl) ?_
  refine lv_icmp_gt (tgt := 9) hx hb d_Ma_min_2 (by decide) (fun c_2_0 => ?_) (fun c_2_0 => ?_)
  · skip
    refine lv_iload_n hx hb d_Ma_min_9 rfl (lv_at hl 1 rfl) ?_
    exact b_iret () hm hw (by grind) d_Ma_min_10
  · skip
    refine lv_iload_n hx hb d_Ma_min_5 rfl (lv_at hl 0 rfl) ?_
    refine lv_goto (tgt := 10) hx hb d_Ma_min_6 (by decide) ?_
    exact b_iret () hm hw (by grind) d_Ma_min_10

def lnHold (F : Nat → Int32) (z : Nat) (x : Int32) : Int32 := if F (z - 1) < (if x < F 0 then F 0 else x) then F (z - 1) else (if x < F 0 then F 0 else x)

set_option maxHeartbeats 4000000 in
set_option maxRecDepth 100000 in
theorem c_Ln_heldValueAt (l : Launch) (D : va_G) (k : Nat → ClassId) (sz : Nat) (q w v n : Nat) (F G : Nat → Int32) (z : Nat) (x : Int32) (hz : z ≤ n) (hn : n < 2147483648) : Met l y_Ln_heldValueAt (uw y_Ln_heldValueAt b_Ln_heldValueAt 2 (some .int)) (rU 3 0 0) (va_Pc [.ref q, .int x] (bP (gU D k) [(q, .inr (2, [.ref w, .ref v, .int (nI z)])), (w, .inl (k 0, n, .inl F)), (v, .inl (k 0, n, .inl G))] sz)) (va_Qi (fun (r : Int32) (_ : Unit) => (z = 0 ∧ r = -1) ∨ (0 < z ∧ ∃ i, lnAt F z (lnHold F z x) i ∧ r = lnRes F G z (lnHold F z x) 0 i)) (fun u => bQ (gU D k) (va_A [(q, .inr (2, [.ref w, .ref v, .int (nI z)])), (w, .inl (k 0, n, .inl F)), (v, .inl (k 0, n, .inl G))] sz) ([(q, .inr (2, [.ref w, .ref v, .int (nI z)])), (w, .inl (k 0, n, .inl F)), (v, .inl (k 0, n, .inl G))])) (va_A [(q, .inr (2, [.ref w, .ref v, .int (nI z)])), (w, .inl (k 0, n, .inl F)), (v, .inl (k 0, n, .inl G))] sz)) (rU 3 0 0).cells (rU 3 0 0).slots (va_A [(q, .inr (2, [.ref w, .ref v, .int (nI z)])), (w, .inl (k 0, n, .inl F)), (v, .inl (k 0, n, .inl G))] sz) := by
  refine b_start (Qc := fun A => va_Qi (fun (r : Int32) (_ : Unit) => (z = 0 ∧ r = -1) ∨ (0 < z ∧ ∃ i, lnAt F z (lnHold F z x) i ∧ r = lnRes F G z (lnHold F z x) 0 i)) (fun u => bQ (gU D k) A ([(q, .inr (2, [.ref w, .ref v, .int (nI z)])), (w, .inl (k 0, n, .inl F)), (v, .inl (k 0, n, .inl G))])) A) (by decide +kernel) (Nat.le_of_ble_eq_true rfl) ?_
  intro p e s m below meth c A hm hnm hw ls hl
  have hl : lv_has ls 2 [(0, .ref q), (1, .int x)] := hl
  have hx := hm.1
  have hb := hm.2.1
  have hown := hm.2.2.2.2.1
  have hts := hm.2.2.2.2.2.1
  refine lv_aload_n hx hb d_Ln_heldValueAt_0 rfl (lv_at hl 0 rfl) ?_
  refine b_get (T := F_Ln) hm hw 0 rfl rfl (fun w h => uw_of w (u_Ln w h)) 2 (by decide) (uw_of _ k_56) rfl d_Ln_heldValueAt_1 ?_
  refine lv_if_ne (tgt := 9) hx hb d_Ln_heldValueAt_4 (by decide) (fun c_4_0 => ?_) (fun c_4_0 => ?_)
  · skip
    have h_4_0 : z ≠ 0 := yne0 c_4_0 (by omega) (by omega)
    refine lv_aload_n hx hb d_Ln_heldValueAt_9 rfl (lv_at hl 0 rfl) ?_
    refine lv_iload_n hx hb d_Ln_heldValueAt_10 rfl (lv_at hl 1 rfl) ?_
    refine lv_aload_n hx hb d_Ln_heldValueAt_11 rfl (lv_at hl 0 rfl) ?_
    refine b_get (T := F_Ln) hm hw 0 rfl rfl (fun w h => uw_of w (u_Ln w h)) 0 (by decide) (uw_of _ k_54) rfl d_Ln_heldValueAt_12 ?_
    refine lv_iconst (v := nI 0) hx hb d_Ln_heldValueAt_15 (by decide) ?_
    refine b_iald (i := 0) hm hw 1 0 rfl rfl (by omega) (by omega) d_Ln_heldValueAt_16 ?_
    refine b_goi (wr := [(q, .inr (2, [.ref w, .ref v, .int (nI z)])), (w, .inl (k 0, n, .inl F)), (v, .inl (k 0, n, .inl G))]) (b_runS (wc := []) (As := [.int x, .int (F 0)]) (rest := [.ref q]) hm hw (va_cwS 2 hts (gS2 uw_of k_53 k_51 k_52 k_6) rfl rfl rfl (by decide +kernel) ⟨by decide, by decide⟩) (c_Ma_max l D k _ x (F 0)) [] (by decide) rfl rfl hl.1 rfl (Nat.le_of_ble_eq_true rfl) d_Ln_heldValueAt_17 ⟨by decide, by decide⟩) hw [] [0, 1, 2] rfl rfl (by decide) (by decide) (fun r17 _ H locs hp17 hw => ?_)
    have hw : bW (gU D k) A s H locs [(q, .inr (2, [.ref w, .ref v, .int (nI z)])), (w, .inl (k 0, n, .inl F)), (v, .inl (k 0, n, .inl G))] := hw.sub [0, 1, 2] (by decide) rfl
    refine lv_aload_n hx hb d_Ln_heldValueAt_20 rfl (lv_at hl 0 rfl) ?_
    refine b_get (T := F_Ln) hm hw 0 rfl rfl (fun w h => uw_of w (u_Ln w h)) 0 (by decide) (uw_of _ k_54) rfl d_Ln_heldValueAt_21 ?_
    refine lv_aload_n hx hb d_Ln_heldValueAt_24 rfl (lv_at hl 0 rfl) ?_
    refine b_get (T := F_Ln) hm hw 0 rfl rfl (fun w h => uw_of w (u_Ln w h)) 2 (by decide) (uw_of _ k_56) rfl d_Ln_heldValueAt_25 ?_
    refine lv_iconst (v := nI 1) hx hb d_Ln_heldValueAt_28 (by decide) ?_
    refine lv_isub hx hb d_Ln_heldValueAt_29 ?_
    refine b_ti (pk_sub (a := z) (b := 1) (by omega)) ?_
    refine b_iald (i := z - 1) hm hw 1 0 rfl rfl (by omega) (by omega) d_Ln_heldValueAt_30 ?_
    refine b_goi (wr := [(q, .inr (2, [.ref w, .ref v, .int (nI z)])), (w, .inl (k 0, n, .inl F)), (v, .inl (k 0, n, .inl G))]) (b_runS (wc := []) (As := [.int r17, .int (F (z - 1))]) (rest := [.ref q]) hm hw (va_cwS 2 hts (gS2 uw_of k_562 k_560 k_561 k_6) rfl rfl rfl (by decide +kernel) ⟨by decide, by decide⟩) (c_Ma_min l D k _ r17 (F (z - 1))) [] (by decide) rfl rfl hl.1 rfl (Nat.le_of_ble_eq_true rfl) d_Ln_heldValueAt_31 ⟨by decide, by decide⟩) hw [] [0, 1, 2] rfl rfl (by decide) (by decide) (fun r31 _ H locs hp31 hw => ?_)
    have hw : bW (gU D k) A s H locs [(q, .inr (2, [.ref w, .ref v, .int (nI z)])), (w, .inl (k 0, n, .inl F)), (v, .inl (k 0, n, .inl G))] := hw.sub [0, 1, 2] (by decide) rfl
    refine lv_iconst (v := nI 0) hx hb d_Ln_heldValueAt_34 (by decide) ?_
    refine b_goi (wr := []) (b_runV (wc := [(q, .inr (2, [.ref w, .ref v, .int (nI z)])), (w, .inl (k 0, n, .inl F)), (v, .inl (k 0, n, .inl G))]) (As := [.int r31, .int (nI 0)]) (rest := []) (q0 := 0) hm hw (cwV 2 hts (gV uw_of k_242 k_563 k_240 (k_241) k_5) rfl rfl rfl (by decide +kernel) ⟨by decide, by decide⟩) (c_Ln_valueAt l D k _ q w v n F G z r31 (nI 0) hz hn) [0, 1, 2] (by decide) rfl rfl rfl rfl hl.1 rfl (Nat.le_of_ble_eq_true rfl) d_Ln_heldValueAt_35 ⟨by decide, by decide⟩) hw [0, 1, 2] [] rfl rfl (by decide) (by decide) (fun r _ H locs hp hw => ?_)
    have hw : bW (gU D k) A s H locs [(q, .inr (2, [.ref w, .ref v, .int (nI z)])), (w, .inl (k 0, n, .inl F)), (v, .inl (k 0, n, .inl G))] := hw.sub [0, 1, 2] (by decide) rfl
    have e31 : r31 = lnHold F z x := by rw [hp31, hp17]; rfl
    rw [e31] at hp
    exact b_iret () hm hw (Or.inr ⟨by omega, hp⟩) d_Ln_heldValueAt_38
  · skip
    have h_4_0 : z = 0 := yeq0 c_4_0 (by omega) (by omega)
    refine lv_iconst (v := (-1)) hx hb d_Ln_heldValueAt_7 (by decide) ?_
    exact b_iret () hm hw (Or.inl ⟨by omega, rfl⟩) d_Ln_heldValueAt_8

/-- the digit after one more hour -/
def dgAfter (a b d : Nat) (on : Bool) : Nat := if on = decide (4 ≤ d) then (if d ≠ 0 ∧ d ≠ 4 then d - 1 else d) else (if on then 4 + a - 1 else b - 1)

set_option maxHeartbeats 4000000 in
set_option maxRecDepth 100000 in
theorem c_Mc_hasRun (l : Launch) (D : va_G) (k : Nat → ClassId) (sz : Nat) (d : Nat) (hd : d < 8) : Met l y_Mc_hasRun (uw y_Mc_hasRun b_Mc_hasRun 1 (some .boolean)) (rU 0 0 0) (va_Pc [.int (nI d)] (bP (gU D k) [] sz)) (va_Qi (fun (r : Int32) (_ : Unit) => (r = 1 ∧ (4 ≤ d)) ∨ (r = 0 ∧ ¬ (4 ≤ d))) (fun u => bQ (gU D k) (va_A [] sz) ([])) (va_A [] sz)) (rU 0 0 0).cells (rU 0 0 0).slots (va_A [] sz) := by
  refine b_start (Qc := fun A => va_Qi (fun (r : Int32) (_ : Unit) => (r = 1 ∧ (4 ≤ d)) ∨ (r = 0 ∧ ¬ (4 ≤ d))) (fun u => bQ (gU D k) A ([])) A) (by decide +kernel) (Nat.le_of_ble_eq_true rfl) ?_
  intro p e s m below meth c A hm hnm hw ls hl
  have hl : lv_has ls 1 [(0, .int (nI d))] := hl
  have hx := hm.1
  have hb := hm.2.1
  have hown := hm.2.2.2.2.1
  have hts := hm.2.2.2.2.2.1
  refine lv_iload_n hx hb d_Mc_hasRun_0 rfl (lv_at hl 0 rfl) ?_
  refine lv_iconst (v := nI 4) hx hb d_Mc_hasRun_1 (by decide) ?_
  refine lv_icmp_lt (tgt := 9) hx hb d_Mc_hasRun_2 (by decide) (fun c_2_0 => ?_) (fun c_2_0 => ?_)
  · skip
    have h_2_0 : d < 4 := ylt c_2_0 (by omega) (by omega)
    refine lv_iconst (v := nI 0) hx hb d_Mc_hasRun_9 (by decide) ?_
    exact b_zret () hm hw (Or.inl rfl) (Or.inr ⟨rfl, by omega⟩) d_Mc_hasRun_10
  · skip
    have h_2_0 : 4 ≤ d := ygeN c_2_0 (by omega) (by omega)
    refine lv_iconst (v := nI 1) hx hb d_Mc_hasRun_5 (by decide) ?_
    refine lv_goto (tgt := 10) hx hb d_Mc_hasRun_6 (by decide) ?_
    exact b_zret () hm hw (Or.inr rfl) (Or.inl ⟨rfl, by omega⟩) d_Mc_hasRun_10

set_option maxHeartbeats 4000000 in
set_option maxRecDepth 100000 in
theorem c_Mc_isBound (l : Launch) (D : va_G) (k : Nat → ClassId) (sz : Nat) (d : Nat) (hd : d < 8) : Met l y_Mc_isBound (uw y_Mc_isBound b_Mc_isBound 1 (some .boolean)) (rU 0 0 0) (va_Pc [.int (nI d)] (bP (gU D k) [] sz)) (va_Qi (fun (r : Int32) (_ : Unit) => (r = 1 ∧ (d ≠ 0 ∧ d ≠ 4)) ∨ (r = 0 ∧ ¬ (d ≠ 0 ∧ d ≠ 4))) (fun u => bQ (gU D k) (va_A [] sz) ([])) (va_A [] sz)) (rU 0 0 0).cells (rU 0 0 0).slots (va_A [] sz) := by
  refine b_start (Qc := fun A => va_Qi (fun (r : Int32) (_ : Unit) => (r = 1 ∧ (d ≠ 0 ∧ d ≠ 4)) ∨ (r = 0 ∧ ¬ (d ≠ 0 ∧ d ≠ 4))) (fun u => bQ (gU D k) A ([])) A) (by decide +kernel) (Nat.le_of_ble_eq_true rfl) ?_
  intro p e s m below meth c A hm hnm hw ls hl
  have hl : lv_has ls 1 [(0, .int (nI d))] := hl
  have hx := hm.1
  have hb := hm.2.1
  have hown := hm.2.2.2.2.1
  have hts := hm.2.2.2.2.2.1
  refine lv_iload_n hx hb d_Mc_isBound_0 rfl (lv_at hl 0 rfl) ?_
  refine lv_if_eq (tgt := 13) hx hb d_Mc_isBound_1 (by decide) (fun c_1_0 => ?_) (fun c_1_0 => ?_)
  · skip
    have h_1_0 : d = 0 := yeq0 c_1_0 (by omega) (by omega)
    refine lv_iconst (v := nI 0) hx hb d_Mc_isBound_13 (by decide) ?_
    exact b_zret () hm hw (Or.inl rfl) (Or.inr ⟨rfl, by omega⟩) d_Mc_isBound_14
  · skip
    have h_1_0 : d ≠ 0 := yneN0 c_1_0 (by omega) (by omega)
    refine lv_iload_n hx hb d_Mc_isBound_4 rfl (lv_at hl 0 rfl) ?_
    refine lv_iconst (v := nI 4) hx hb d_Mc_isBound_5 (by decide) ?_
    refine lv_icmp_eq (tgt := 13) hx hb d_Mc_isBound_6 (by decide) (fun c_6_1 => ?_) (fun c_6_1 => ?_)
    · skip
      have h_6_1 : d = 4 := yeq c_6_1 (by omega) (by omega)
      refine lv_iconst (v := nI 0) hx hb d_Mc_isBound_13 (by decide) ?_
      exact b_zret () hm hw (Or.inl rfl) (Or.inr ⟨rfl, by omega⟩) d_Mc_isBound_14
    · skip
      have h_6_1 : d ≠ 4 := yneN c_6_1 (by omega) (by omega)
      refine lv_iconst (v := nI 1) hx hb d_Mc_isBound_9 (by decide) ?_
      refine lv_goto (tgt := 14) hx hb d_Mc_isBound_10 (by decide) ?_
      exact b_zret () hm hw (Or.inr rfl) (Or.inl ⟨rfl, by omega⟩) d_Mc_isBound_14

set_option maxHeartbeats 4000000 in
set_option maxRecDepth 100000 in
theorem c_Mc_canReach (l : Launch) (D : va_G) (k : Nat → ClassId) (sz : Nat) (q a b h pw o : Nat) (sc : Int32) (d : Nat) (hd : d < 8) (ha : a ≤ 4) (hb4 : b ≤ 4) : Met l y_Mc_canReach (uw y_Mc_canReach b_Mc_canReach 2 (some .boolean)) (rU 1 0 0) (va_Pc [.ref q, .int (nI d)] (bP (gU D k) [(q, .inr (3, [.int (nI a), .int (nI b), .int sc, .ref h, .ref pw, .ref o]))] sz)) (va_Qi (fun (r : Int32) (_ : Unit) => (r = 1 ∧ (if 4 ≤ d then d < 4 + a else d < b)) ∨ (r = 0 ∧ ¬ (if 4 ≤ d then d < 4 + a else d < b))) (fun u => bQ (gU D k) (va_A [(q, .inr (3, [.int (nI a), .int (nI b), .int sc, .ref h, .ref pw, .ref o]))] sz) ([(q, .inr (3, [.int (nI a), .int (nI b), .int sc, .ref h, .ref pw, .ref o]))])) (va_A [(q, .inr (3, [.int (nI a), .int (nI b), .int sc, .ref h, .ref pw, .ref o]))] sz)) (rU 1 0 0).cells (rU 1 0 0).slots (va_A [(q, .inr (3, [.int (nI a), .int (nI b), .int sc, .ref h, .ref pw, .ref o]))] sz) := by
  refine b_start (Qc := fun A => va_Qi (fun (r : Int32) (_ : Unit) => (r = 1 ∧ (if 4 ≤ d then d < 4 + a else d < b)) ∨ (r = 0 ∧ ¬ (if 4 ≤ d then d < 4 + a else d < b))) (fun u => bQ (gU D k) A ([(q, .inr (3, [.int (nI a), .int (nI b), .int sc, .ref h, .ref pw, .ref o]))])) A) (by decide +kernel) (Nat.le_of_ble_eq_true rfl) ?_
  intro p e s m below meth c A hm hnm hw ls hl
  have hl : lv_has ls 2 [(0, .ref q), (1, .int (nI d))] := hl
  have hx := hm.1
  have hb := hm.2.1
  have hown := hm.2.2.2.2.1
  have hts := hm.2.2.2.2.2.1
  refine lv_iload_n hx hb d_Mc_canReach_0 rfl (lv_at hl 1 rfl) ?_
  refine b_goi (wr := [(q, .inr (3, [.int (nI a), .int (nI b), .int sc, .ref h, .ref pw, .ref o]))]) (b_runS (wc := []) (As := [.int (nI d)]) (rest := []) hm hw (va_cwS 1 hts (gS2 uw_of k_406 k_404 k_405 k_4) rfl rfl rfl (by decide +kernel) ⟨by decide, by decide⟩) (c_Mc_hasRun l D k _ d hd) [] (by decide) rfl rfl hl.1 rfl (Nat.le_of_ble_eq_true rfl) d_Mc_canReach_1 ⟨by decide, by decide⟩) hw [] [0] rfl rfl (by decide) (by decide) (fun r1 _ H locs hp1 hw => ?_)
  have hw : bW (gU D k) A s H locs [(q, .inr (3, [.int (nI a), .int (nI b), .int sc, .ref h, .ref pw, .ref o]))] := hw.sub [0] (by decide) rfl
  refine lv_if_eq (tgt := 25) hx hb d_Mc_canReach_4 (by decide) (fun c_4_0 => ?_) (fun c_4_0 => ?_)
  · skip
    refine lv_iload_n hx hb d_Mc_canReach_25 rfl (lv_at hl 1 rfl) ?_
    refine lv_aload_n hx hb d_Mc_canReach_26 rfl (lv_at hl 0 rfl) ?_
    refine b_get (T := F_Mc) hm hw 0 rfl rfl (fun w h => uw_of w (u_Mc w h)) 1 (by decide) (uw_of _ k_68) rfl d_Mc_canReach_27 ?_
    refine lv_icmp_ge (tgt := 37) hx hb d_Mc_canReach_30 (by decide) (fun c_30_1 => ?_) (fun c_30_1 => ?_)
    · skip
      have h_30_1 : b ≤ d := yge c_30_1 (by omega) (by omega)
      refine lv_iconst (v := nI 0) hx hb d_Mc_canReach_37 (by decide) ?_
      exact b_zret () hm hw (Or.inl rfl) (Or.inr ⟨rfl, by grind⟩) d_Mc_canReach_38
    · skip
      have h_30_1 : d < b := yltN c_30_1 (by omega) (by omega)
      refine lv_iconst (v := nI 1) hx hb d_Mc_canReach_33 (by decide) ?_
      refine lv_goto (tgt := 38) hx hb d_Mc_canReach_34 (by decide) ?_
      exact b_zret () hm hw (Or.inr rfl) (Or.inl ⟨rfl, by grind⟩) d_Mc_canReach_38
  · skip
    refine lv_iload_n hx hb d_Mc_canReach_7 rfl (lv_at hl 1 rfl) ?_
    refine lv_iconst (v := nI 4) hx hb d_Mc_canReach_8 (by decide) ?_
    refine lv_aload_n hx hb d_Mc_canReach_9 rfl (lv_at hl 0 rfl) ?_
    refine b_get (T := F_Mc) hm hw 0 rfl rfl (fun w h => uw_of w (u_Mc w h)) 0 (by decide) (uw_of _ k_66) rfl d_Mc_canReach_10 ?_
    refine lv_iadd hx hb d_Mc_canReach_13 ?_
    refine b_ti (nI_add 4 a) ?_
    refine lv_icmp_ge (tgt := 21) hx hb d_Mc_canReach_14 (by decide) (fun c_14_2 => ?_) (fun c_14_2 => ?_)
    · skip
      have h_14_2 : (4 + a) ≤ d := yge c_14_2 (by omega) (by omega)
      refine lv_iconst (v := nI 0) hx hb d_Mc_canReach_21 (by decide) ?_
      refine lv_goto (tgt := 38) hx hb d_Mc_canReach_22 (by decide) ?_
      exact b_zret () hm hw (Or.inl rfl) (Or.inr ⟨rfl, by grind⟩) d_Mc_canReach_38
    · skip
      have h_14_2 : d < (4 + a) := yltN c_14_2 (by omega) (by omega)
      refine lv_iconst (v := nI 1) hx hb d_Mc_canReach_17 (by decide) ?_
      refine lv_goto (tgt := 38) hx hb d_Mc_canReach_18 (by decide) ?_
      exact b_zret () hm hw (Or.inr rfl) (Or.inl ⟨rfl, by grind⟩) d_Mc_canReach_38

set_option maxHeartbeats 4000000 in
set_option maxRecDepth 100000 in
theorem c_Mc_digitAfter (l : Launch) (D : va_G) (k : Nat → ClassId) (sz : Nat) (q a b h pw o : Nat) (sc : Int32) (d : Nat) (on : Bool) (hd : d < 8) (ha : a ≤ 4) (hb4 : b ≤ 4) (ha1 : 1 ≤ a) (hb1 : 1 ≤ b) : Met l y_Mc_digitAfter (uw y_Mc_digitAfter b_Mc_digitAfter 3 (some .int)) (rU 1 0 0) (va_Pc [.ref q, .int (nI d), .int (if on then 1 else 0)] (bP (gU D k) [(q, .inr (3, [.int (nI a), .int (nI b), .int sc, .ref h, .ref pw, .ref o]))] sz)) (va_Qi (fun (r : Int32) (_ : Unit) => r = nI (dgAfter a b d on)) (fun u => bQ (gU D k) (va_A [(q, .inr (3, [.int (nI a), .int (nI b), .int sc, .ref h, .ref pw, .ref o]))] sz) ([(q, .inr (3, [.int (nI a), .int (nI b), .int sc, .ref h, .ref pw, .ref o]))])) (va_A [(q, .inr (3, [.int (nI a), .int (nI b), .int sc, .ref h, .ref pw, .ref o]))] sz)) (rU 1 0 0).cells (rU 1 0 0).slots (va_A [(q, .inr (3, [.int (nI a), .int (nI b), .int sc, .ref h, .ref pw, .ref o]))] sz) := by
  refine b_start (Qc := fun A => va_Qi (fun (r : Int32) (_ : Unit) => r = nI (dgAfter a b d on)) (fun u => bQ (gU D k) A ([(q, .inr (3, [.int (nI a), .int (nI b), .int sc, .ref h, .ref pw, .ref o]))])) A) (by decide +kernel) (Nat.le_of_ble_eq_true rfl) ?_
  intro p e s m below meth c A hm hnm hw ls hl
  have hl : lv_has ls 3 [(0, .ref q), (1, .int (nI d)), (2, .int (if on then 1 else 0))] := hl
  have hx := hm.1
  have hb := hm.2.1
  have hown := hm.2.2.2.2.1
  have hts := hm.2.2.2.2.2.1
  refine lv_iload_n hx hb d_Mc_digitAfter_0 rfl (lv_at hl 2 rfl) ?_
  refine lv_iload_n hx hb d_Mc_digitAfter_1 rfl (lv_at hl 1 rfl) ?_
  refine b_goi (wr := [(q, .inr (3, [.int (nI a), .int (nI b), .int sc, .ref h, .ref pw, .ref o]))]) (b_runS (wc := []) (As := [.int (nI d)]) (rest := [.int (if on then 1 else 0)]) hm hw (va_cwS 1 hts (gS2 uw_of k_406 k_404 k_405 k_4) rfl rfl rfl (by decide +kernel) ⟨by decide, by decide⟩) (c_Mc_hasRun l D k _ d hd) [] (by decide) rfl rfl hl.1 rfl (Nat.le_of_ble_eq_true rfl) d_Mc_digitAfter_2 ⟨by decide, by decide⟩) hw [] [0] rfl rfl (by decide) (by decide) (fun r2 _ H locs hp2 hw => ?_)
  have hw : bW (gU D k) A s H locs [(q, .inr (3, [.int (nI a), .int (nI b), .int sc, .ref h, .ref pw, .ref o]))] := hw.sub [0] (by decide) rfl
  refine lv_icmp_eq (tgt := 30) hx hb d_Mc_digitAfter_5 (by decide) (fun c_5_0 => ?_) (fun c_5_0 => ?_)
  · skip
    refine lv_iload_n hx hb d_Mc_digitAfter_30 rfl (lv_at hl 1 rfl) ?_
    refine b_goi (wr := [(q, .inr (3, [.int (nI a), .int (nI b), .int sc, .ref h, .ref pw, .ref o]))]) (b_runS (wc := []) (As := [.int (nI d)]) (rest := []) hm hw (va_cwS 1 hts (gS2 uw_of k_417 k_426 k_416 k_4) rfl rfl rfl (by decide +kernel) ⟨by decide, by decide⟩) (c_Mc_isBound l D k _ d hd) [] (by decide) rfl rfl hl.1 rfl (Nat.le_of_ble_eq_true rfl) d_Mc_digitAfter_31 ⟨by decide, by decide⟩) hw [] [0] rfl rfl (by decide) (by decide) (fun r31 _ H locs hp31 hw => ?_)
    have hw : bW (gU D k) A s H locs [(q, .inr (3, [.int (nI a), .int (nI b), .int sc, .ref h, .ref pw, .ref o]))] := hw.sub [0] (by decide) rfl
    refine lv_if_eq (tgt := 43) hx hb d_Mc_digitAfter_34 (by decide) (fun c_34_1 => ?_) (fun c_34_1 => ?_)
    · skip
      refine lv_iload_n hx hb d_Mc_digitAfter_43 rfl (lv_at hl 1 rfl) ?_
      exact b_iret () hm hw (by unfold dgAfter; grind) d_Mc_digitAfter_44
    · skip
      have hd0 : d ≠ 0 ∧ d ≠ 4 := by grind
      refine lv_iload_n hx hb d_Mc_digitAfter_37 rfl (lv_at hl 1 rfl) ?_
      refine lv_iconst (v := nI 1) hx hb d_Mc_digitAfter_38 (by decide) ?_
      refine lv_isub hx hb d_Mc_digitAfter_39 ?_
      refine b_ti (pk_sub (a := d) (b := 1) (by omega)) ?_
      refine lv_goto (tgt := 44) hx hb d_Mc_digitAfter_40 (by decide) ?_
      exact b_iret () hm hw (by unfold dgAfter; grind) d_Mc_digitAfter_44
  · skip
    refine lv_iload_n hx hb d_Mc_digitAfter_8 rfl (lv_at hl 2 rfl) ?_
    refine lv_if_eq (tgt := 23) hx hb d_Mc_digitAfter_9 (by decide) (fun c_9_2 => ?_) (fun c_9_2 => ?_)
    · skip
      refine lv_aload_n hx hb d_Mc_digitAfter_23 rfl (lv_at hl 0 rfl) ?_
      refine b_get (T := F_Mc) hm hw 0 rfl rfl (fun w h => uw_of w (u_Mc w h)) 1 (by decide) (uw_of _ k_68) rfl d_Mc_digitAfter_24 ?_
      refine lv_iconst (v := nI 1) hx hb d_Mc_digitAfter_27 (by decide) ?_
      refine lv_isub hx hb d_Mc_digitAfter_28 ?_
      refine b_ti (pk_sub (a := b) (b := 1) (by omega)) ?_
      exact b_iret () hm hw (by unfold dgAfter; grind) d_Mc_digitAfter_29
    · skip
      refine lv_iconst (v := nI 4) hx hb d_Mc_digitAfter_12 (by decide) ?_
      refine lv_aload_n hx hb d_Mc_digitAfter_13 rfl (lv_at hl 0 rfl) ?_
      refine b_get (T := F_Mc) hm hw 0 rfl rfl (fun w h => uw_of w (u_Mc w h)) 0 (by decide) (uw_of _ k_66) rfl d_Mc_digitAfter_14 ?_
      refine lv_iadd hx hb d_Mc_digitAfter_17 ?_
      refine b_ti (nI_add 4 a) ?_
      refine lv_iconst (v := nI 1) hx hb d_Mc_digitAfter_18 (by decide) ?_
      refine lv_isub hx hb d_Mc_digitAfter_19 ?_
      refine b_ti (pk_sub (a := 4 + a) (b := 1) (by omega)) ?_
      refine lv_goto (tgt := 29) hx hb d_Mc_digitAfter_20 (by decide) ?_
      exact b_iret () hm hw (by unfold dgAfter; grind) d_Mc_digitAfter_29

def bhLast (F : Nat → Int32) (z : Nat) : Int32 := if z = 0 then 0 else F (z - 1)
def bhNum (F : Nat → Int32) (z j : Nat) : Int32 := if j < z then F j else bhLast F z
/-- the fall over the first i hours' steps, in hour h -/
def bhFall (F G : Nat → Int32) (z h : Nat) : Nat → Int64
  | 0 => 0
  | i + 1 => bhFall F G z h i + (G i - (if i = 0 then 0 else G (i - 1))).toInt64 * (bhNum F z (h - i)).toInt64

set_option maxHeartbeats 4000000 in
set_option maxRecDepth 100000 in
theorem c_Bh_lastNumber (l : Launch) (D : va_G) (k : Nat → ClassId) (sz : Nat) (q w v : Nat) (F G : Nat → Int32) (z : Nat) (hz : z ≤ 36) : Met l y_Bh_lastNumber (uw y_Bh_lastNumber b_Bh_lastNumber 1 (some .int)) (rU 0 0 0) (va_Pc [.ref q] (bP (gU D k) [(q, .inr (0, [.ref w, .int (nI z), .ref v])), (w, .inl (k 0, 36, .inl F)), (v, .inl (k 0, 36, .inl G))] sz)) (va_Qi (fun (r : Int32) (_ : Unit) => r = bhLast F z) (fun u => bQ (gU D k) (va_A [(q, .inr (0, [.ref w, .int (nI z), .ref v])), (w, .inl (k 0, 36, .inl F)), (v, .inl (k 0, 36, .inl G))] sz) ([(q, .inr (0, [.ref w, .int (nI z), .ref v])), (w, .inl (k 0, 36, .inl F)), (v, .inl (k 0, 36, .inl G))])) (va_A [(q, .inr (0, [.ref w, .int (nI z), .ref v])), (w, .inl (k 0, 36, .inl F)), (v, .inl (k 0, 36, .inl G))] sz)) (rU 0 0 0).cells (rU 0 0 0).slots (va_A [(q, .inr (0, [.ref w, .int (nI z), .ref v])), (w, .inl (k 0, 36, .inl F)), (v, .inl (k 0, 36, .inl G))] sz) := by
  refine b_start (Qc := fun A => va_Qi (fun (r : Int32) (_ : Unit) => r = bhLast F z) (fun u => bQ (gU D k) A ([(q, .inr (0, [.ref w, .int (nI z), .ref v])), (w, .inl (k 0, 36, .inl F)), (v, .inl (k 0, 36, .inl G))])) A) (by decide +kernel) (Nat.le_of_ble_eq_true rfl) ?_
  intro p e s m below meth c A hm hnm hw ls hl
  have hl : lv_has ls 1 [(0, .ref q)] := hl
  have hx := hm.1
  have hb := hm.2.1
  have hown := hm.2.2.2.2.1
  have hts := hm.2.2.2.2.2.1
  refine lv_aload_n hx hb d_Bh_lastNumber_0 rfl (lv_at hl 0 rfl) ?_
  refine b_get (T := F_Bh) hm hw 0 rfl rfl (fun w h => uw_of w (u_Bh w h)) 1 (by decide) (uw_of _ k_193) rfl d_Bh_lastNumber_1 ?_
  refine lv_if_ne (tgt := 11) hx hb d_Bh_lastNumber_4 (by decide) (fun c_4_0 => ?_) (fun c_4_0 => ?_)
  · skip
    have h_4_0 : z ≠ 0 := yne0 c_4_0 (by omega) (by omega)
    refine lv_aload_n hx hb d_Bh_lastNumber_11 rfl (lv_at hl 0 rfl) ?_
    refine b_get (T := F_Bh) hm hw 0 rfl rfl (fun w h => uw_of w (u_Bh w h)) 0 (by decide) (uw_of _ k_192) rfl d_Bh_lastNumber_12 ?_
    refine lv_aload_n hx hb d_Bh_lastNumber_15 rfl (lv_at hl 0 rfl) ?_
    refine b_get (T := F_Bh) hm hw 0 rfl rfl (fun w h => uw_of w (u_Bh w h)) 1 (by decide) (uw_of _ k_193) rfl d_Bh_lastNumber_16 ?_
    refine lv_iconst (v := nI 1) hx hb d_Bh_lastNumber_19 (by decide) ?_
    refine lv_isub hx hb d_Bh_lastNumber_20 ?_
    refine b_ti (pk_sub (a := z) (b := 1) (by omega)) ?_
    refine b_iald (i := z - 1) hm hw 1 0 rfl rfl (by omega) (by omega) d_Bh_lastNumber_21 ?_
    exact b_iret () hm hw (by unfold bhLast; first | (rw [if_pos (by assumption)]; rfl) | (rw [if_neg (by assumption)])) d_Bh_lastNumber_22
  · skip
    have h_4_0 : z = 0 := yeq0 c_4_0 (by omega) (by omega)
    refine lv_iconst (v := nI 0) hx hb d_Bh_lastNumber_7 (by decide) ?_
    refine lv_goto (tgt := 22) hx hb d_Bh_lastNumber_8 (by decide) ?_
    exact b_iret () hm hw (by unfold bhLast; first | (rw [if_pos (by assumption)]; rfl) | (rw [if_neg (by assumption)])) d_Bh_lastNumber_22

set_option maxHeartbeats 4000000 in
set_option maxRecDepth 100000 in
theorem c_Bh_add (l : Launch) (D : va_G) (k : Nat → ClassId) (sz : Nat) (q w v : Nat) (F G : Nat → Int32) (z : Nat) (x : Int32) (hz : z < 36) : Met l y_Bh_add (uw y_Bh_add b_Bh_add 2 none) (rU 0 0 0) (va_Pc [.ref q, .int x] (bP (gU D k) [(q, .inr (0, [.ref w, .int (nI z), .ref v])), (w, .inl (k 0, 36, .inl F)), (v, .inl (k 0, 36, .inl G))] sz)) (va_Qv (fun (_ : Unit) => True) (fun u => bQ (gU D k) (va_A [(q, .inr (0, [.ref w, .int (nI z), .ref v])), (w, .inl (k 0, 36, .inl F)), (v, .inl (k 0, 36, .inl G))] sz) ([(q, .inr (0, [.ref w, .int (nI (z + 1)), .ref v])), (w, .inl (k 0, 36, .inl (upd F z x))), (v, .inl (k 0, 36, .inl G))])) (va_A [(q, .inr (0, [.ref w, .int (nI z), .ref v])), (w, .inl (k 0, 36, .inl F)), (v, .inl (k 0, 36, .inl G))] sz)) (rU 0 0 0).cells (rU 0 0 0).slots (va_A [(q, .inr (0, [.ref w, .int (nI z), .ref v])), (w, .inl (k 0, 36, .inl F)), (v, .inl (k 0, 36, .inl G))] sz) := by
  refine b_start (Qc := fun A => va_Qv (fun (_ : Unit) => True) (fun u => bQ (gU D k) A ([(q, .inr (0, [.ref w, .int (nI (z + 1)), .ref v])), (w, .inl (k 0, 36, .inl (upd F z x))), (v, .inl (k 0, 36, .inl G))])) A) (by decide +kernel) (Nat.le_of_ble_eq_true rfl) ?_
  intro p e s m below meth c A hm hnm hw ls hl
  have hl : lv_has ls 2 [(0, .ref q), (1, .int x)] := hl
  have hx := hm.1
  have hb := hm.2.1
  have hown := hm.2.2.2.2.1
  have hts := hm.2.2.2.2.2.1
  refine lv_aload_n hx hb d_Bh_add_0 rfl (lv_at hl 0 rfl) ?_
  refine b_get (T := F_Bh) hm hw 0 rfl rfl (fun w h => uw_of w (u_Bh w h)) 1 (by decide) (uw_of _ k_193) rfl d_Bh_add_1 ?_
  refine lv_bipush (v := nI 36) hx hb d_Bh_add_4 (by decide) ?_
  refine lv_icmp_ge (tgt := 29) hx hb d_Bh_add_6 (by decide) (fun c_6_0 => ?_) (fun c_6_0 => ?_)
  · skip
    have h_6_0 : 36 ≤ z := yge c_6_0 (by omega) (by omega)
    exfalso; omega
  · skip
    have h_6_0 : z < 36 := yltN c_6_0 (by omega) (by omega)
    refine lv_aload_n hx hb d_Bh_add_9 rfl (lv_at hl 0 rfl) ?_
    refine b_get (T := F_Bh) hm hw 0 rfl rfl (fun w h => uw_of w (u_Bh w h)) 0 (by decide) (uw_of _ k_192) rfl d_Bh_add_10 ?_
    refine lv_aload_n hx hb d_Bh_add_13 rfl (lv_at hl 0 rfl) ?_
    refine b_get (T := F_Bh) hm hw 0 rfl rfl (fun w h => uw_of w (u_Bh w h)) 1 (by decide) (uw_of _ k_193) rfl d_Bh_add_14 ?_
    refine lv_iload_n hx hb d_Bh_add_17 rfl (lv_at hl 1 rfl) ?_
    refine b_iast (i := z) hm hw 1 0 rfl rfl (by omega) (by omega) d_Bh_add_18 (w1 := [(q, .inr (0, [.ref w, .int (nI z), .ref v])), (w, .inl (k 0, 36, .inl (upd F z x))), (v, .inl (k 0, 36, .inl G))]) rfl (fun H locs hw => ?_)
    refine lv_aload_n hx hb d_Bh_add_19 rfl (lv_at hl 0 rfl) ?_
    refine lv_dup hx hb d_Bh_add_20 rfl ?_
    refine b_get (T := F_Bh) hm hw 0 rfl rfl (fun w h => uw_of w (u_Bh w h)) 1 (by decide) (uw_of _ k_193) rfl d_Bh_add_21 ?_
    refine lv_iconst (v := nI 1) hx hb d_Bh_add_24 (by decide) ?_
    refine lv_iadd hx hb d_Bh_add_25 ?_
    refine b_ti (nI_add z 1) ?_
    refine b_put (T := F_Bh) hm hw 0 rfl rfl (fun w h => uw_of w (u_Bh w h)) t_Bh t_Bh_ok n_Bh 1 (by decide) (uw_of _ k_193) rfl rfl rfl (Nat.le_of_ble_eq_true rfl) d_Bh_add_26 (w1 := [(q, .inr (0, [.ref w, .int (nI (z + 1)), .ref v])), (w, .inl (k 0, 36, .inl (upd F z x))), (v, .inl (k 0, 36, .inl G))]) rfl (fun H locs hw => ?_)
    exact b_vret (w' := fun _ => [(q, .inr (0, [.ref w, .int (nI (z + 1)), .ref v])), (w, .inl (k 0, 36, .inl (upd F z x))), (v, .inl (k 0, 36, .inl G))]) () hm hw trivial d_Bh_add_29

set_option maxHeartbeats 4000000 in
set_option maxRecDepth 100000 in
theorem c_Bh_numberAfter (l : Launch) (D : va_G) (k : Nat → ClassId) (sz : Nat) (q w v : Nat) (F G : Nat → Int32) (z : Nat) (j : Nat) (hj : j < 36) (hz : z ≤ 36) : Met l y_Bh_numberAfter (uw y_Bh_numberAfter b_Bh_numberAfter 2 (some .int)) (rU 1 0 0) (va_Pc [.ref q, .int (nI j)] (bP (gU D k) [(q, .inr (0, [.ref w, .int (nI z), .ref v])), (w, .inl (k 0, 36, .inl F)), (v, .inl (k 0, 36, .inl G))] sz)) (va_Qi (fun (r : Int32) (_ : Unit) => r = bhNum F z j) (fun u => bQ (gU D k) (va_A [(q, .inr (0, [.ref w, .int (nI z), .ref v])), (w, .inl (k 0, 36, .inl F)), (v, .inl (k 0, 36, .inl G))] sz) ([(q, .inr (0, [.ref w, .int (nI z), .ref v])), (w, .inl (k 0, 36, .inl F)), (v, .inl (k 0, 36, .inl G))])) (va_A [(q, .inr (0, [.ref w, .int (nI z), .ref v])), (w, .inl (k 0, 36, .inl F)), (v, .inl (k 0, 36, .inl G))] sz)) (rU 1 0 0).cells (rU 1 0 0).slots (va_A [(q, .inr (0, [.ref w, .int (nI z), .ref v])), (w, .inl (k 0, 36, .inl F)), (v, .inl (k 0, 36, .inl G))] sz) := by
  refine b_start (Qc := fun A => va_Qi (fun (r : Int32) (_ : Unit) => r = bhNum F z j) (fun u => bQ (gU D k) A ([(q, .inr (0, [.ref w, .int (nI z), .ref v])), (w, .inl (k 0, 36, .inl F)), (v, .inl (k 0, 36, .inl G))])) A) (by decide +kernel) (Nat.le_of_ble_eq_true rfl) ?_
  intro p e s m below meth c A hm hnm hw ls hl
  have hl : lv_has ls 2 [(0, .ref q), (1, .int (nI j))] := hl
  have hx := hm.1
  have hb := hm.2.1
  have hown := hm.2.2.2.2.1
  have hts := hm.2.2.2.2.2.1
  refine lv_iload_n hx hb d_Bh_numberAfter_0 rfl (lv_at hl 1 rfl) ?_
  refine lv_aload_n hx hb d_Bh_numberAfter_1 rfl (lv_at hl 0 rfl) ?_
  refine b_get (T := F_Bh) hm hw 0 rfl rfl (fun w h => uw_of w (u_Bh w h)) 1 (by decide) (uw_of _ k_193) rfl d_Bh_numberAfter_2 ?_
  refine lv_icmp_ge (tgt := 17) hx hb d_Bh_numberAfter_5 (by decide) (fun c_5_0 => ?_) (fun c_5_0 => ?_)
  · skip
    have h_5_0 : z ≤ j := yge c_5_0 (by omega) (by omega)
    refine lv_aload_n hx hb d_Bh_numberAfter_17 rfl (lv_at hl 0 rfl) ?_
    refine b_goi (wr := []) (b_runV (wc := [(q, .inr (0, [.ref w, .int (nI z), .ref v])), (w, .inl (k 0, 36, .inl F)), (v, .inl (k 0, 36, .inl G))]) (As := []) (rest := []) (q0 := 0) hm hw (cwV 0 hts (gV uw_of k_574 k_601 k_572 (k_573) k_8) rfl rfl rfl (by decide +kernel) ⟨by decide, by decide⟩) (c_Bh_lastNumber l D k _ q w v F G z hz) [0, 1, 2] (by decide) rfl rfl rfl rfl hl.1 rfl (Nat.le_of_ble_eq_true rfl) d_Bh_numberAfter_18 ⟨by decide, by decide⟩) hw [0, 1, 2] [] rfl rfl (by decide) (by decide) (fun r _ H locs hp hw => ?_)
    have hw : bW (gU D k) A s H locs [(q, .inr (0, [.ref w, .int (nI z), .ref v])), (w, .inl (k 0, 36, .inl F)), (v, .inl (k 0, 36, .inl G))] := hw.sub [0, 1, 2] (by decide) rfl
    exact b_iret () hm hw (by unfold bhNum; grind) d_Bh_numberAfter_21
  · skip
    have h_5_0 : j < z := yltN c_5_0 (by omega) (by omega)
    refine lv_aload_n hx hb d_Bh_numberAfter_8 rfl (lv_at hl 0 rfl) ?_
    refine b_get (T := F_Bh) hm hw 0 rfl rfl (fun w h => uw_of w (u_Bh w h)) 0 (by decide) (uw_of _ k_192) rfl d_Bh_numberAfter_9 ?_
    refine lv_iload_n hx hb d_Bh_numberAfter_12 rfl (lv_at hl 1 rfl) ?_
    refine b_iald (i := j) hm hw 1 0 rfl rfl (by omega) (by omega) d_Bh_numberAfter_13 ?_
    refine lv_goto (tgt := 21) hx hb d_Bh_numberAfter_14 (by decide) ?_
    exact b_iret () hm hw (by unfold bhNum; grind) d_Bh_numberAfter_21

set_option maxHeartbeats 4000000 in
set_option maxRecDepth 100000 in
theorem lp_Bh_fallIn {l : Launch} {D : va_G} {k : Nat → ClassId} {q w v : Nat} {F G : Nat → Int32} {z h : Nat} (hz : z ≤ 36) (hh : h < 36) {p : Program} {e : Env} {s : State} {m : MethodId} {below : List Frame} {meth : Method} {c : Code} {A : Nat → Prop} (hm : bM p s m (([.ref q, .int (nI h)] : List Value).toArray) meth c "HeatMachines$Borehole" b_Bh_fallIn 6 (some .long) (uw y_Bh_fallIn b_Bh_fallIn 6 (some .long))) (hnm : meth.name = "fallIn") :
    ∀ (f : Nat) (i : Nat) (S : Int64) (B : Int32), h + 2 ≤ i + f → i ≤ h + 1 → S = bhFall F G z h i → B = (if i = 0 then 0 else G (i - 1)) → ∀ (H : Heap) (locs : List Loc) (ls : Array Slot), bW (gU D k) A s H locs [(q, .inr (0, [.ref w, .int (nI z), .ref v])), (w, .inl (k 0, 36, .inl F)), (v, .inl (k 0, 36, .inl G))] → lv_has ls 6 [(5, .int (nI i)), (4, .int B), (2, .long S), (0, .ref q), (1, .int (nI h))] → W p l e (rU 2 0 0) s m (([.ref q, .int (nI h)] : List Value).toArray) below meth c H locs 0 0 (MQ below (va_Ql (fun (r : Int64) (_ : Unit) => r = bhFall F G z h (h + 1)) (fun u => bQ (gU D k) A ([(q, .inr (0, [.ref w, .int (nI z), .ref v])), (w, .inl (k 0, 36, .inl F)), (v, .inl (k 0, 36, .inl G))])) A) (([.ref q, .int (nI h)] : List Value).toArray) s (rU 2 0 0).cells (rU 2 0 0).slots A) (F0 m 8 ls []) := by
  have hx := hm.1
  have hb := hm.2.1
  have hown := hm.2.2.2.2.1
  have hts := hm.2.2.2.2.2.1
  intro f
  induction f with
  | zero => intro i S B hf hi hS hB; exfalso; omega
  | succ f ih =>
    intro i S B hf hi hS hB H locs ls hw hl
    refine lv_iload hx hb d_Bh_fallIn_8 (lv_at hl 0 rfl) ?_
    refine lv_iload_n hx hb d_Bh_fallIn_10 rfl (lv_at hl 4 rfl) ?_
    refine lv_icmp_gt (tgt := 60) hx hb d_Bh_fallIn_11 (by decide) (fun c_11_0 => ?_) (fun c_11_0 => ?_)
    · skip
      have h_11_0 : h < i := ygt c_11_0 (by omega) (by omega)
      refine lv_lload_n hx hb d_Bh_fallIn_60 rfl (lv_at hl 2 rfl) ?_
      exact b_lret () hm hw (by rw [hS, show i = h + 1 by omega]) d_Bh_fallIn_61
    · skip
      have h_11_0 : i ≤ h := yleN c_11_0 (by omega) (by omega)
      refine lv_iload hx hb d_Bh_fallIn_14 (lv_at hl 0 rfl) ?_
      refine lv_bipush (v := nI 36) hx hb d_Bh_fallIn_16 (by decide) ?_
      refine lv_icmp_ge (tgt := 60) hx hb d_Bh_fallIn_18 (by decide) (fun c_18_1 => ?_) (fun c_18_1 => ?_)
      · skip
        have h_18_1 : 36 ≤ i := yge c_18_1 (by omega) (by omega)
        exfalso; omega
      · skip
        have h_18_1 : i < 36 := yltN c_18_1 (by omega) (by omega)
        refine lv_lload_n hx hb d_Bh_fallIn_21 rfl (lv_at hl 2 rfl) ?_
        refine lv_aload_n hx hb d_Bh_fallIn_22 rfl (lv_at hl 3 rfl) ?_
        refine b_get (T := F_Bh) hm hw 0 rfl rfl (fun w h => uw_of w (u_Bh w h)) 2 (by decide) (uw_of _ k_195) rfl d_Bh_fallIn_23 ?_
        refine lv_iload hx hb d_Bh_fallIn_26 (lv_at hl 0 rfl) ?_
        refine b_iald (i := i) hm hw 2 0 rfl rfl (by omega) (by omega) d_Bh_fallIn_28 ?_
        refine lv_iload hx hb d_Bh_fallIn_29 (lv_at hl 1 rfl) ?_
        refine lv_isub hx hb d_Bh_fallIn_31 ?_
        refine lv_i2l (v := ((G i) - B).toInt64) hx hb d_Bh_fallIn_32 rfl ?_
        refine lv_aload_n hx hb d_Bh_fallIn_33 rfl (lv_at hl 3 rfl) ?_
        refine lv_iload_n hx hb d_Bh_fallIn_34 rfl (lv_at hl 4 rfl) ?_
        refine lv_iload hx hb d_Bh_fallIn_35 (lv_at hl 0 rfl) ?_
        refine lv_isub hx hb d_Bh_fallIn_37 ?_
        refine b_ti (pk_sub (a := h) (b := i) (by omega)) ?_
        refine b_goi (wr := []) (b_runV (wc := [(q, .inr (0, [.ref w, .int (nI z), .ref v])), (w, .inl (k 0, 36, .inl F)), (v, .inl (k 0, 36, .inl G))]) (As := [.int (nI (h - i))]) (rest := [.long (((G i) - B).toInt64), .long S]) (q0 := 0) hm hw (cwV 1 hts (gV uw_of k_600 k_597 k_599 (mp 12 rfl rfl) k_8) rfl rfl rfl (by decide +kernel) ⟨by decide, by decide⟩) (c_Bh_numberAfter l D k _ q w v F G z (h - i) (by omega) hz) [0, 1, 2] (by decide) rfl rfl rfl rfl hl.1 rfl (Nat.le_of_ble_eq_true rfl) d_Bh_fallIn_38 ⟨by decide, by decide⟩) hw [0, 1, 2] [] rfl rfl (by decide) (by decide) (fun r _ H locs hp hw => ?_)
        have hw : bW (gU D k) A s H locs [(q, .inr (0, [.ref w, .int (nI z), .ref v])), (w, .inl (k 0, 36, .inl F)), (v, .inl (k 0, 36, .inl G))] := hw.sub [0, 1, 2] (by decide) rfl
        refine lv_i2l (v := r.toInt64) hx hb d_Bh_fallIn_41 rfl ?_
        refine lv_lmul hx hb d_Bh_fallIn_42 ?_
        refine lv_ladd hx hb d_Bh_fallIn_43 ?_
        refine lv_lstore_n (lv' := [(2, .long (S + ((((G i) - B).toInt64) * r.toInt64))), (5, .int (nI i)), (4, .int B), (0, .ref q), (1, .int (nI h))]) hx hb d_Bh_fallIn_44 rfl hl (by decide) rfl (fun ls hl => ?_)
        refine lv_aload_n hx hb d_Bh_fallIn_45 rfl (lv_at hl 3 rfl) ?_
        refine b_get (T := F_Bh) hm hw 0 rfl rfl (fun w h => uw_of w (u_Bh w h)) 2 (by decide) (uw_of _ k_195) rfl d_Bh_fallIn_46 ?_
        refine lv_iload hx hb d_Bh_fallIn_49 (lv_at hl 1 rfl) ?_
        refine b_iald (i := i) hm hw 2 0 rfl rfl (by omega) (by omega) d_Bh_fallIn_51 ?_
        refine lv_istore (lv' := [(4, .int (G i)), (2, .long (S + ((((G i) - B).toInt64) * r.toInt64))), (5, .int (nI i)), (0, .ref q), (1, .int (nI h))]) hx hb d_Bh_fallIn_52  hl (by decide) rfl (fun ls hl => ?_)
        refine lv_iinc (v := nI (i + 1)) (lv' := [(5, .int (nI (i + 1))), (4, .int (G i)), (2, .long (S + ((((G i) - B).toInt64) * r.toInt64))), (0, .ref q), (1, .int (nI h))]) hx hb d_Bh_fallIn_54 hl (k := 2) rfl (nI_add i 1) (by decide) rfl (fun ls hl => ?_)
        refine lv_goto (tgt := 8) hx hb d_Bh_fallIn_57 (by decide) ?_
        exact ih (i + 1) _ _ (by omega) (by omega) (by rw [hS, hB, hp]; rfl) (by simp) H locs ls hw (lv_sub hl [0, 1, 2, 3, 4] rfl)

set_option maxHeartbeats 4000000 in
set_option maxRecDepth 100000 in
theorem c_Bh_fallIn (l : Launch) (D : va_G) (k : Nat → ClassId) (sz : Nat) (q w v : Nat) (F G : Nat → Int32) (z : Nat) (h : Nat) (hz : z ≤ 36) (hh : h < 36) : Met l y_Bh_fallIn (uw y_Bh_fallIn b_Bh_fallIn 6 (some .long)) (rU 2 0 0) (va_Pc [.ref q, .int (nI h)] (bP (gU D k) [(q, .inr (0, [.ref w, .int (nI z), .ref v])), (w, .inl (k 0, 36, .inl F)), (v, .inl (k 0, 36, .inl G))] sz)) (va_Ql (fun (r : Int64) (_ : Unit) => r = bhFall F G z h (h + 1)) (fun u => bQ (gU D k) (va_A [(q, .inr (0, [.ref w, .int (nI z), .ref v])), (w, .inl (k 0, 36, .inl F)), (v, .inl (k 0, 36, .inl G))] sz) ([(q, .inr (0, [.ref w, .int (nI z), .ref v])), (w, .inl (k 0, 36, .inl F)), (v, .inl (k 0, 36, .inl G))])) (va_A [(q, .inr (0, [.ref w, .int (nI z), .ref v])), (w, .inl (k 0, 36, .inl F)), (v, .inl (k 0, 36, .inl G))] sz)) (rU 2 0 0).cells (rU 2 0 0).slots (va_A [(q, .inr (0, [.ref w, .int (nI z), .ref v])), (w, .inl (k 0, 36, .inl F)), (v, .inl (k 0, 36, .inl G))] sz) := by
  refine b_start (Qc := fun A => va_Ql (fun (r : Int64) (_ : Unit) => r = bhFall F G z h (h + 1)) (fun u => bQ (gU D k) A ([(q, .inr (0, [.ref w, .int (nI z), .ref v])), (w, .inl (k 0, 36, .inl F)), (v, .inl (k 0, 36, .inl G))])) A) (by decide +kernel) (Nat.le_of_ble_eq_true rfl) ?_
  intro p e s m below meth c A hm hnm hw ls hl
  have hl : lv_has ls 6 [(0, .ref q), (1, .int (nI h))] := hl
  have hx := hm.1
  have hb := hm.2.1
  have hown := hm.2.2.2.2.1
  have hts := hm.2.2.2.2.2.1
  refine lv_lconst (v := 0) hx hb d_Bh_fallIn_0 (by decide) ?_
  refine lv_lstore_n (lv' := [(2, .long 0), (0, .ref q), (1, .int (nI h))]) hx hb d_Bh_fallIn_1 rfl hl (by decide) rfl (fun ls hl => ?_)
  refine lv_iconst (v := nI 0) hx hb d_Bh_fallIn_2 (by decide) ?_
  refine lv_istore (lv' := [(4, .int (nI 0)), (2, .long 0), (0, .ref q), (1, .int (nI h))]) hx hb d_Bh_fallIn_3  hl (by decide) rfl (fun ls hl => ?_)
  refine lv_iconst (v := nI 0) hx hb d_Bh_fallIn_5 (by decide) ?_
  refine lv_istore (lv' := [(5, .int (nI 0)), (4, .int (nI 0)), (2, .long 0), (0, .ref q), (1, .int (nI h))]) hx hb d_Bh_fallIn_6  hl (by decide) rfl (fun ls hl => ?_)
  exact lp_Bh_fallIn hz hh hm hnm (h + 2) 0 0 (nI 0) (by omega) (by omega) rfl rfl _ _ ls hw (lv_sub hl [0, 1, 2, 3, 4] rfl)
