/-! the class: its tests, and the calls that no plan needs, where they return -/

set_option maxHeartbeats 4000000 in
set_option maxRecDepth 100000 in
theorem c_HM_isWithin (l : Launch) (D : va_G) (k : Nat → ClassId) (sz : Nat) (v a b : Int32) : Met l y_HM_isWithin (uw y_HM_isWithin b_HM_isWithin 3 (some .boolean)) (rU 0 0 0) (va_Pc [.int v, .int a, .int b] (bP (gU D k) [] sz)) (va_Qi (fun (r : Int32) (_ : Unit) => (r = 1 ∧ (a ≤ v ∧ v ≤ b)) ∨ (r = 0 ∧ ¬ (a ≤ v ∧ v ≤ b))) (fun u => bQ (gU D k) (va_A [] sz) ([])) (va_A [] sz)) (rU 0 0 0).cells (rU 0 0 0).slots (va_A [] sz) := by
  refine b_start (Qc := fun A => va_Qi (fun (r : Int32) (_ : Unit) => (r = 1 ∧ (a ≤ v ∧ v ≤ b)) ∨ (r = 0 ∧ ¬ (a ≤ v ∧ v ≤ b))) (fun u => bQ (gU D k) A ([])) A) (by decide +kernel) (Nat.le_of_ble_eq_true rfl) ?_
  intro p e s m below meth c A hm hnm hw ls hl
  have hl : lv_has ls 3 [(0, .int v), (1, .int a), (2, .int b)] := hl
  have hx := hm.1
  have hb := hm.2.1
  have hown := hm.2.2.2.2.1
  have hts := hm.2.2.2.2.2.1
  refine lv_iload_n hx hb d_HM_isWithin_0 rfl (lv_at hl 0 rfl) ?_
  refine lv_iload_n hx hb d_HM_isWithin_1 rfl (lv_at hl 1 rfl) ?_
  refine lv_icmp_lt (tgt := 14) hx hb d_HM_isWithin_2 (by decide) (fun c_2_0 => ?_) (fun c_2_0 => ?_)
  · skip
    refine lv_iconst (v := nI 0) hx hb d_HM_isWithin_14 (by decide) ?_
    exact b_zret () hm hw (Or.inl rfl) (Or.inr ⟨rfl, by grind⟩) d_HM_isWithin_15
  · skip
    refine lv_iload_n hx hb d_HM_isWithin_5 rfl (lv_at hl 0 rfl) ?_
    refine lv_iload_n hx hb d_HM_isWithin_6 rfl (lv_at hl 2 rfl) ?_
    refine lv_icmp_gt (tgt := 14) hx hb d_HM_isWithin_7 (by decide) (fun c_7_1 => ?_) (fun c_7_1 => ?_)
    · skip
      refine lv_iconst (v := nI 0) hx hb d_HM_isWithin_14 (by decide) ?_
      exact b_zret () hm hw (Or.inl rfl) (Or.inr ⟨rfl, by grind⟩) d_HM_isWithin_15
    · skip
      refine lv_iconst (v := nI 1) hx hb d_HM_isWithin_10 (by decide) ?_
      refine lv_goto (tgt := 15) hx hb d_HM_isWithin_11 (by decide) ?_
      exact b_zret () hm hw (Or.inr rfl) (Or.inl ⟨rfl, by grind⟩) d_HM_isWithin_15

set_option maxHeartbeats 4000000 in
set_option maxRecDepth 100000 in
theorem c_HM_isHour (l : Launch) (D : va_G) (k : Nat → ClassId) (sz : Nat) (v : Int32) : Met l y_HM_isHour (uw y_HM_isHour b_HM_isHour 1 (some .boolean)) (rU 1 0 0) (va_Pc [.int v] (bP (gU D k) [] sz)) (va_Qi (fun (r : Int32) (_ : Unit) => (r = 1 ∧ (nI 0 ≤ v ∧ v ≤ nI 35)) ∨ (r = 0 ∧ ¬ (nI 0 ≤ v ∧ v ≤ nI 35))) (fun u => bQ (gU D k) (va_A [] sz) ([])) (va_A [] sz)) (rU 1 0 0).cells (rU 1 0 0).slots (va_A [] sz) := by
  refine b_start (Qc := fun A => va_Qi (fun (r : Int32) (_ : Unit) => (r = 1 ∧ (nI 0 ≤ v ∧ v ≤ nI 35)) ∨ (r = 0 ∧ ¬ (nI 0 ≤ v ∧ v ≤ nI 35))) (fun u => bQ (gU D k) A ([])) A) (by decide +kernel) (Nat.le_of_ble_eq_true rfl) ?_
  intro p e s m below meth c A hm hnm hw ls hl
  have hl : lv_has ls 1 [(0, .int v)] := hl
  have hx := hm.1
  have hb := hm.2.1
  have hown := hm.2.2.2.2.1
  have hts := hm.2.2.2.2.2.1
  refine lv_iload_n hx hb d_HM_isHour_0 rfl (lv_at hl 0 rfl) ?_
  refine lv_iconst (v := nI 0) hx hb d_HM_isHour_1 (by decide) ?_
  refine lv_bipush (v := nI 35) hx hb d_HM_isHour_2 (by decide) ?_
  refine b_goi (wr := []) (b_runS (wc := []) (As := [.int v, .int (nI 0), .int (nI 35)]) (rest := []) hm hw (va_cwS 3 hts (gS2 uw_of k_297 k_295 k_296 k_1) rfl rfl rfl (by decide +kernel) ⟨by decide, by decide⟩) (c_HM_isWithin l D k _ v (nI 0) (nI 35)) [] (by decide) rfl rfl hl.1 rfl (Nat.le_of_ble_eq_true rfl) d_HM_isHour_4 ⟨by decide, by decide⟩) hw [] [] rfl rfl (by decide) (by decide) (fun r4 _ H locs hp4 hw => ?_)
  have hw : bW (gU D k) A s H locs [] := hw.sub [] (by decide) rfl
  exact b_zret () hm hw (by rcases hp4 with ⟨q, _⟩ | ⟨q, _⟩; exact Or.inr q; exact Or.inl q) hp4 d_HM_isHour_7

set_option maxHeartbeats 4000000 in
set_option maxRecDepth 100000 in
theorem c_HM_isWarmth (l : Launch) (D : va_G) (k : Nat → ClassId) (sz : Nat) (v : Int32) : Met l y_HM_isWarmth (uw y_HM_isWarmth b_HM_isWarmth 1 (some .boolean)) (rU 1 0 0) (va_Pc [.int v] (bP (gU D k) [] sz)) (va_Qi (fun (r : Int32) (_ : Unit) => (r = 1 ∧ ((-5000) ≤ v ∧ v ≤ nI 5000)) ∨ (r = 0 ∧ ¬ ((-5000) ≤ v ∧ v ≤ nI 5000))) (fun u => bQ (gU D k) (va_A [] sz) ([])) (va_A [] sz)) (rU 1 0 0).cells (rU 1 0 0).slots (va_A [] sz) := by
  refine b_start (Qc := fun A => va_Qi (fun (r : Int32) (_ : Unit) => (r = 1 ∧ ((-5000) ≤ v ∧ v ≤ nI 5000)) ∨ (r = 0 ∧ ¬ ((-5000) ≤ v ∧ v ≤ nI 5000))) (fun u => bQ (gU D k) A ([])) A) (by decide +kernel) (Nat.le_of_ble_eq_true rfl) ?_
  intro p e s m below meth c A hm hnm hw ls hl
  have hl : lv_has ls 1 [(0, .int v)] := hl
  have hx := hm.1
  have hb := hm.2.1
  have hown := hm.2.2.2.2.1
  have hts := hm.2.2.2.2.2.1
  refine lv_iload_n hx hb d_HM_isWarmth_0 rfl (lv_at hl 0 rfl) ?_
  refine lv_sipush (v := (-5000)) hx hb d_HM_isWarmth_1 (by decide) ?_
  refine lv_sipush (v := nI 5000) hx hb d_HM_isWarmth_4 (by decide) ?_
  refine b_goi (wr := []) (b_runS (wc := []) (As := [.int v, .int (-5000), .int (nI 5000)]) (rest := []) hm hw (va_cwS 3 hts (gS2 uw_of k_297 k_295 k_296 k_1) rfl rfl rfl (by decide +kernel) ⟨by decide, by decide⟩) (c_HM_isWithin l D k _ v (-5000) (nI 5000)) [] (by decide) rfl rfl hl.1 rfl (Nat.le_of_ble_eq_true rfl) d_HM_isWarmth_7 ⟨by decide, by decide⟩) hw [] [] rfl rfl (by decide) (by decide) (fun r7 _ H locs hp7 hw => ?_)
  have hw : bW (gU D k) A s H locs [] := hw.sub [] (by decide) rfl
  exact b_zret () hm hw (by rcases hp7 with ⟨q, _⟩ | ⟨q, _⟩; exact Or.inr q; exact Or.inl q) hp7 d_HM_isWarmth_10

set_option maxHeartbeats 4000000 in
set_option maxRecDepth 100000 in
theorem c_HM_isMachine (l : Launch) (D : va_G) (k : Nat → ClassId) (sz : Nat) (x0 ho pl rs to wt bo ma fa cn : Nat) (v : Int32) : Met l y_HM_isMachine (uw y_HM_isMachine b_HM_isMachine 2 (some .boolean)) (rU 1 0 0) (va_Pc [.ref x0, .int v] (bP (gU D k) [(x0, .inr (6, [.ref pl, .ref ho, .ref rs, .ref to, .ref wt, .ref bo])), (ho, .inr (1, [.ref ma, .int (nI cn), .ref fa]))] sz)) (va_Qi (fun (r : Int32) (_ : Unit) => (r = 1 ∧ (nI 0 ≤ v ∧ v ≤ nI cn - nI 1)) ∨ (r = 0 ∧ ¬ (nI 0 ≤ v ∧ v ≤ nI cn - nI 1))) (fun u => bQ (gU D k) (va_A [(x0, .inr (6, [.ref pl, .ref ho, .ref rs, .ref to, .ref wt, .ref bo])), (ho, .inr (1, [.ref ma, .int (nI cn), .ref fa]))] sz) ([(x0, .inr (6, [.ref pl, .ref ho, .ref rs, .ref to, .ref wt, .ref bo])), (ho, .inr (1, [.ref ma, .int (nI cn), .ref fa]))])) (va_A [(x0, .inr (6, [.ref pl, .ref ho, .ref rs, .ref to, .ref wt, .ref bo])), (ho, .inr (1, [.ref ma, .int (nI cn), .ref fa]))] sz)) (rU 1 0 0).cells (rU 1 0 0).slots (va_A [(x0, .inr (6, [.ref pl, .ref ho, .ref rs, .ref to, .ref wt, .ref bo])), (ho, .inr (1, [.ref ma, .int (nI cn), .ref fa]))] sz) := by
  refine b_start (Qc := fun A => va_Qi (fun (r : Int32) (_ : Unit) => (r = 1 ∧ (nI 0 ≤ v ∧ v ≤ nI cn - nI 1)) ∨ (r = 0 ∧ ¬ (nI 0 ≤ v ∧ v ≤ nI cn - nI 1))) (fun u => bQ (gU D k) A ([(x0, .inr (6, [.ref pl, .ref ho, .ref rs, .ref to, .ref wt, .ref bo])), (ho, .inr (1, [.ref ma, .int (nI cn), .ref fa]))])) A) (by decide +kernel) (Nat.le_of_ble_eq_true rfl) ?_
  intro p e s m below meth c A hm hnm hw ls hl
  have hl : lv_has ls 2 [(0, .ref x0), (1, .int v)] := hl
  have hx := hm.1
  have hb := hm.2.1
  have hown := hm.2.2.2.2.1
  have hts := hm.2.2.2.2.2.1
  refine lv_iload_n hx hb d_HM_isMachine_0 rfl (lv_at hl 1 rfl) ?_
  refine lv_iconst (v := nI 0) hx hb d_HM_isMachine_1 (by decide) ?_
  refine lv_aload_n hx hb d_HM_isMachine_2 rfl (lv_at hl 0 rfl) ?_
  refine b_get (T := F_HM) hm hw 0 rfl rfl (fun w h => uw_of w (u_HM w h)) 1 (by decide) (uw_of _ k_205) rfl d_HM_isMachine_3 ?_
  refine b_getN (T := F_Ho) hm hw 1 rfl rfl (fun w h => uw_of w (u_Ho w h)) 1 (by decide) (k_101) rfl d_HM_isMachine_6 ?_
  refine lv_iconst (v := nI 1) hx hb d_HM_isMachine_9 (by decide) ?_
  refine lv_isub hx hb d_HM_isMachine_10 ?_
  refine b_goi (wr := [(x0, .inr (6, [.ref pl, .ref ho, .ref rs, .ref to, .ref wt, .ref bo])), (ho, .inr (1, [.ref ma, .int (nI cn), .ref fa]))]) (b_runS (wc := []) (As := [.int v, .int (nI 0), .int (nI cn - nI 1)]) (rest := []) hm hw (va_cwS 3 hts (gS2 uw_of k_297 k_295 k_296 k_1) rfl rfl rfl (by decide +kernel) ⟨by decide, by decide⟩) (c_HM_isWithin l D k _ v (nI 0) (nI cn - nI 1)) [] (by decide) rfl rfl hl.1 rfl (Nat.le_of_ble_eq_true rfl) d_HM_isMachine_11 ⟨by decide, by decide⟩) hw [] [0, 1] rfl rfl (by decide) (by decide) (fun r11 _ H locs hp11 hw => ?_)
  have hw : bW (gU D k) A s H locs [(x0, .inr (6, [.ref pl, .ref ho, .ref rs, .ref to, .ref wt, .ref bo])), (ho, .inr (1, [.ref ma, .int (nI cn), .ref fa]))] := hw.sub [0, 1] (by decide) rfl
  exact b_zret () hm hw (by rcases hp11 with ⟨q, _⟩ | ⟨q, _⟩; exact Or.inr q; exact Or.inl q) hp11 d_HM_isMachine_14

set_option maxHeartbeats 4000000 in
set_option maxRecDepth 100000 in
theorem c_HM_requireArgument (l : Launch) (D : va_G) (k : Nat → ClassId) (sz : Nat)  : Met l y_HM_requireArgument (uw y_HM_requireArgument b_HM_requireArgument 1 none) (rU 0 0 0) (va_Pc [.int (nI 1)] (bP (gU D k) [] sz)) (va_Qv (fun (_ : Unit) => True) (fun u => bQ (gU D k) (va_A [] sz) ([])) (va_A [] sz)) (rU 0 0 0).cells (rU 0 0 0).slots (va_A [] sz) := by
  refine b_start (Qc := fun A => va_Qv (fun (_ : Unit) => True) (fun u => bQ (gU D k) A ([])) A) (by decide +kernel) (Nat.le_of_ble_eq_true rfl) ?_
  intro p e s m below meth c A hm hnm hw ls hl
  have hl : lv_has ls 1 [(0, .int (nI 1))] := hl
  have hx := hm.1
  have hb := hm.2.1
  have hown := hm.2.2.2.2.1
  have hts := hm.2.2.2.2.2.1
  refine lv_iload_n hx hb d_HM_requireArgument_0 rfl (lv_at hl 0 rfl) ?_
  refine lv_if_ne (tgt := 14) hx hb d_HM_requireArgument_1 (by decide) (fun c_1_0 => ?_) (fun c_1_0 => ?_)
  · skip
    exact b_vret (post := fun (_ : Unit) => True) (w' := fun u => []) () hm hw (trivial) d_HM_requireArgument_14
  · skip
    exact absurd c_1_0 (by decide)

set_option maxHeartbeats 4000000 in
set_option maxRecDepth 100000 in
theorem c_HM_requireState (l : Launch) (D : va_G) (k : Nat → ClassId) (sz : Nat)  : Met l y_HM_requireState (uw y_HM_requireState b_HM_requireState 1 none) (rU 0 0 0) (va_Pc [.int (nI 1)] (bP (gU D k) [] sz)) (va_Qv (fun (_ : Unit) => True) (fun u => bQ (gU D k) (va_A [] sz) ([])) (va_A [] sz)) (rU 0 0 0).cells (rU 0 0 0).slots (va_A [] sz) := by
  refine b_start (Qc := fun A => va_Qv (fun (_ : Unit) => True) (fun u => bQ (gU D k) A ([])) A) (by decide +kernel) (Nat.le_of_ble_eq_true rfl) ?_
  intro p e s m below meth c A hm hnm hw ls hl
  have hl : lv_has ls 1 [(0, .int (nI 1))] := hl
  have hx := hm.1
  have hb := hm.2.1
  have hown := hm.2.2.2.2.1
  have hts := hm.2.2.2.2.2.1
  refine lv_iload_n hx hb d_HM_requireState_0 rfl (lv_at hl 0 rfl) ?_
  refine lv_if_ne (tgt := 14) hx hb d_HM_requireState_1 (by decide) (fun c_1_0 => ?_) (fun c_1_0 => ?_)
  · skip
    exact b_vret (post := fun (_ : Unit) => True) (w' := fun u => []) () hm hw (trivial) d_HM_requireState_14
  · skip
    exact absurd c_1_0 (by decide)

set_option maxHeartbeats 4000000 in
set_option maxRecDepth 100000 in
theorem c_Ho_take (l : Launch) (D : va_G) (k : Nat → ClassId) (sz : Nat) (ho ma fa cn m0 m1 m2 a b q : Nat) (lr lp sc hq pq oq : Nat → Nat) (hc : cn < 3) : Met l y_Ho_take (uw y_Ho_take b_Ho_take 5 (some .int)) (rU 0 0 0) (va_Pc [.ref ho, .int (nI a), .int (nI b), .int (nI q)] (bP (gU D k) [(ho, .inr (1, [.ref ma, .int (nI cn), .ref fa])), (ma, .inl (k 3, 3, .inr (.inr (.inr (.inr (mAd m0 m1 m2)))))), (m0, .inr (3, [.int (nI (lr 0)), .int (nI (lp 0)), .int (nI (sc 0)), .ref (hq 0), .ref (pq 0), .ref (oq 0)])), (m1, .inr (3, [.int (nI (lr 1)), .int (nI (lp 1)), .int (nI (sc 1)), .ref (hq 1), .ref (pq 1), .ref (oq 1)])), (m2, .inr (3, [.int (nI (lr 2)), .int (nI (lp 2)), .int (nI (sc 2)), .ref (hq 2), .ref (pq 2), .ref (oq 2)]))] sz)) (va_Qi (fun (r : Int32) (_ : Unit) => r = nI cn) (fun u => bQ (gU D k) (va_A [(ho, .inr (1, [.ref ma, .int (nI cn), .ref fa])), (ma, .inl (k 3, 3, .inr (.inr (.inr (.inr (mAd m0 m1 m2)))))), (m0, .inr (3, [.int (nI (lr 0)), .int (nI (lp 0)), .int (nI (sc 0)), .ref (hq 0), .ref (pq 0), .ref (oq 0)])), (m1, .inr (3, [.int (nI (lr 1)), .int (nI (lp 1)), .int (nI (sc 1)), .ref (hq 1), .ref (pq 1), .ref (oq 1)])), (m2, .inr (3, [.int (nI (lr 2)), .int (nI (lp 2)), .int (nI (sc 2)), .ref (hq 2), .ref (pq 2), .ref (oq 2)]))] sz) ([(ho, .inr (1, [.ref ma, .int (nI (cn + 1)), .ref fa])), (ma, .inl (k 3, 3, .inr (.inr (.inr (.inr (mAd m0 m1 m2)))))), (m0, .inr (3, [.int (nI (va_up lr cn a 0)), .int (nI (va_up lp cn b 0)), .int (nI (va_up sc cn q 0)), .ref (hq 0), .ref (pq 0), .ref (oq 0)])), (m1, .inr (3, [.int (nI (va_up lr cn a 1)), .int (nI (va_up lp cn b 1)), .int (nI (va_up sc cn q 1)), .ref (hq 1), .ref (pq 1), .ref (oq 1)])), (m2, .inr (3, [.int (nI (va_up lr cn a 2)), .int (nI (va_up lp cn b 2)), .int (nI (va_up sc cn q 2)), .ref (hq 2), .ref (pq 2), .ref (oq 2)]))])) (va_A [(ho, .inr (1, [.ref ma, .int (nI cn), .ref fa])), (ma, .inl (k 3, 3, .inr (.inr (.inr (.inr (mAd m0 m1 m2)))))), (m0, .inr (3, [.int (nI (lr 0)), .int (nI (lp 0)), .int (nI (sc 0)), .ref (hq 0), .ref (pq 0), .ref (oq 0)])), (m1, .inr (3, [.int (nI (lr 1)), .int (nI (lp 1)), .int (nI (sc 1)), .ref (hq 1), .ref (pq 1), .ref (oq 1)])), (m2, .inr (3, [.int (nI (lr 2)), .int (nI (lp 2)), .int (nI (sc 2)), .ref (hq 2), .ref (pq 2), .ref (oq 2)]))] sz)) (rU 0 0 0).cells (rU 0 0 0).slots (va_A [(ho, .inr (1, [.ref ma, .int (nI cn), .ref fa])), (ma, .inl (k 3, 3, .inr (.inr (.inr (.inr (mAd m0 m1 m2)))))), (m0, .inr (3, [.int (nI (lr 0)), .int (nI (lp 0)), .int (nI (sc 0)), .ref (hq 0), .ref (pq 0), .ref (oq 0)])), (m1, .inr (3, [.int (nI (lr 1)), .int (nI (lp 1)), .int (nI (sc 1)), .ref (hq 1), .ref (pq 1), .ref (oq 1)])), (m2, .inr (3, [.int (nI (lr 2)), .int (nI (lp 2)), .int (nI (sc 2)), .ref (hq 2), .ref (pq 2), .ref (oq 2)]))] sz) := by
  refine b_start (Qc := fun A => va_Qi (fun (r : Int32) (_ : Unit) => r = nI cn) (fun u => bQ (gU D k) A ([(ho, .inr (1, [.ref ma, .int (nI (cn + 1)), .ref fa])), (ma, .inl (k 3, 3, .inr (.inr (.inr (.inr (mAd m0 m1 m2)))))), (m0, .inr (3, [.int (nI (va_up lr cn a 0)), .int (nI (va_up lp cn b 0)), .int (nI (va_up sc cn q 0)), .ref (hq 0), .ref (pq 0), .ref (oq 0)])), (m1, .inr (3, [.int (nI (va_up lr cn a 1)), .int (nI (va_up lp cn b 1)), .int (nI (va_up sc cn q 1)), .ref (hq 1), .ref (pq 1), .ref (oq 1)])), (m2, .inr (3, [.int (nI (va_up lr cn a 2)), .int (nI (va_up lp cn b 2)), .int (nI (va_up sc cn q 2)), .ref (hq 2), .ref (pq 2), .ref (oq 2)]))])) A) (by decide +kernel) (Nat.le_of_ble_eq_true rfl) ?_
  intro p e s m below meth c A hm hnm hw ls hl
  have hl : lv_has ls 5 [(0, .ref ho), (1, .int (nI a)), (2, .int (nI b)), (3, .int (nI q))] := hl
  have hx := hm.1
  have hb := hm.2.1
  have hown := hm.2.2.2.2.1
  have hts := hm.2.2.2.2.2.1
  refine lv_aload_n hx hb d_Ho_take_0 rfl (lv_at hl 0 rfl) ?_
  refine b_get (T := F_Ho) hm hw 0 rfl rfl (fun w h => uw_of w (u_Ho w h)) 1 (by decide) (uw_of _ k_100) rfl d_Ho_take_1 ?_
  refine lv_iconst (v := nI 3) hx hb d_Ho_take_4 (by decide) ?_
  refine lv_icmp_lt (tgt := 10) hx hb d_Ho_take_5 (by decide) (fun c_5_0 => ?_) (fun c_5_0 => ?_)
  · skip
    have h_5_0 : cn < 3 := ylt c_5_0 (by omega) (by omega)
    refine lv_aload_n hx hb d_Ho_take_10 rfl (lv_at hl 0 rfl) ?_
    refine b_get (T := F_Ho) hm hw 0 rfl rfl (fun w h => uw_of w (u_Ho w h)) 0 (by decide) (uw_of _ k_96) rfl d_Ho_take_11 ?_
    refine lv_aload_n hx hb d_Ho_take_14 rfl (lv_at hl 0 rfl) ?_
    refine b_get (T := F_Ho) hm hw 0 rfl rfl (fun w h => uw_of w (u_Ho w h)) 1 (by decide) (uw_of _ k_100) rfl d_Ho_take_15 ?_
    rcases (show cn = 0 ∨ cn = 1 ∨ cn = 2 by omega) with hi0 | hi0 | hi0
    · skip
      refine b_aald (i := cn) (v := m0) hm hw 1 3 rfl rfl rfl (by omega) (by omega) (by rw [hi0]; rfl) d_Ho_take_18 ?_
      refine lv_astore (lv' := [(4, .ref m0), (0, .ref ho), (1, .int (nI a)), (2, .int (nI b)), (3, .int (nI q))]) hx hb d_Ho_take_19  hl (by decide) rfl (fun ls hl => ?_)
      refine lv_aload hx hb d_Ho_take_21 (lv_at hl 0 rfl) ?_
      refine lv_iload_n hx hb d_Ho_take_23 rfl (lv_at hl 2 rfl) ?_
      refine b_putN (T := F_Mc) hm hw 2 rfl rfl (fun w h => uw_of w (u_Mc w h)) t_Mc t_Mc_ok n_Mc 0 (by decide) (k_67) rfl rfl rfl (Nat.le_of_ble_eq_true rfl) d_Ho_take_24 (w1 := [(ho, .inr (1, [.ref ma, .int (nI cn), .ref fa])), (ma, .inl (k 3, 3, .inr (.inr (.inr (.inr (mAd m0 m1 m2)))))), (m0, .inr (3, [.int (nI a), .int (nI (lp 0)), .int (nI (sc 0)), .ref (hq 0), .ref (pq 0), .ref (oq 0)])), (m1, .inr (3, [.int (nI (lr 1)), .int (nI (lp 1)), .int (nI (sc 1)), .ref (hq 1), .ref (pq 1), .ref (oq 1)])), (m2, .inr (3, [.int (nI (lr 2)), .int (nI (lp 2)), .int (nI (sc 2)), .ref (hq 2), .ref (pq 2), .ref (oq 2)]))]) rfl (fun H locs hw => ?_)
      refine lv_aload hx hb d_Ho_take_27 (lv_at hl 0 rfl) ?_
      refine lv_iload_n hx hb d_Ho_take_29 rfl (lv_at hl 3 rfl) ?_
      refine b_putN (T := F_Mc) hm hw 2 rfl rfl (fun w h => uw_of w (u_Mc w h)) t_Mc t_Mc_ok n_Mc 1 (by decide) (k_69) rfl rfl rfl (Nat.le_of_ble_eq_true rfl) d_Ho_take_30 (w1 := [(ho, .inr (1, [.ref ma, .int (nI cn), .ref fa])), (ma, .inl (k 3, 3, .inr (.inr (.inr (.inr (mAd m0 m1 m2)))))), (m0, .inr (3, [.int (nI a), .int (nI b), .int (nI (sc 0)), .ref (hq 0), .ref (pq 0), .ref (oq 0)])), (m1, .inr (3, [.int (nI (lr 1)), .int (nI (lp 1)), .int (nI (sc 1)), .ref (hq 1), .ref (pq 1), .ref (oq 1)])), (m2, .inr (3, [.int (nI (lr 2)), .int (nI (lp 2)), .int (nI (sc 2)), .ref (hq 2), .ref (pq 2), .ref (oq 2)]))]) rfl (fun H locs hw => ?_)
      refine lv_aload hx hb d_Ho_take_33 (lv_at hl 0 rfl) ?_
      refine lv_iload_n hx hb d_Ho_take_35 rfl (lv_at hl 4 rfl) ?_
      refine b_putN (T := F_Mc) hm hw 2 rfl rfl (fun w h => uw_of w (u_Mc w h)) t_Mc t_Mc_ok n_Mc 2 (by decide) (k_71) rfl rfl rfl (Nat.le_of_ble_eq_true rfl) d_Ho_take_36 (w1 := [(ho, .inr (1, [.ref ma, .int (nI cn), .ref fa])), (ma, .inl (k 3, 3, .inr (.inr (.inr (.inr (mAd m0 m1 m2)))))), (m0, .inr (3, [.int (nI a), .int (nI b), .int (nI q), .ref (hq 0), .ref (pq 0), .ref (oq 0)])), (m1, .inr (3, [.int (nI (lr 1)), .int (nI (lp 1)), .int (nI (sc 1)), .ref (hq 1), .ref (pq 1), .ref (oq 1)])), (m2, .inr (3, [.int (nI (lr 2)), .int (nI (lp 2)), .int (nI (sc 2)), .ref (hq 2), .ref (pq 2), .ref (oq 2)]))]) rfl (fun H locs hw => ?_)
      refine lv_aload_n hx hb d_Ho_take_39 rfl (lv_at hl 1 rfl) ?_
      refine lv_dup hx hb d_Ho_take_40 rfl ?_
      refine b_get (T := F_Ho) hm hw 0 rfl rfl (fun w h => uw_of w (u_Ho w h)) 1 (by decide) (uw_of _ k_100) rfl d_Ho_take_41 ?_
      refine lv_iconst (v := nI 1) hx hb d_Ho_take_44 (by decide) ?_
      refine lv_iadd hx hb d_Ho_take_45 ?_
      refine b_ti (nI_add cn 1) ?_
      refine b_put (T := F_Ho) hm hw 0 rfl rfl (fun w h => uw_of w (u_Ho w h)) t_Ho t_Ho_ok n_Ho 1 (by decide) (uw_of _ k_100) rfl rfl rfl (Nat.le_of_ble_eq_true rfl) d_Ho_take_46 (w1 := [(ho, .inr (1, [.ref ma, .int (nI (cn + 1)), .ref fa])), (ma, .inl (k 3, 3, .inr (.inr (.inr (.inr (mAd m0 m1 m2)))))), (m0, .inr (3, [.int (nI a), .int (nI b), .int (nI q), .ref (hq 0), .ref (pq 0), .ref (oq 0)])), (m1, .inr (3, [.int (nI (lr 1)), .int (nI (lp 1)), .int (nI (sc 1)), .ref (hq 1), .ref (pq 1), .ref (oq 1)])), (m2, .inr (3, [.int (nI (lr 2)), .int (nI (lp 2)), .int (nI (sc 2)), .ref (hq 2), .ref (pq 2), .ref (oq 2)]))]) rfl (fun H locs hw => ?_)
      refine lv_aload_n hx hb d_Ho_take_49 rfl (lv_at hl 1 rfl) ?_
      refine b_get (T := F_Ho) hm hw 0 rfl rfl (fun w h => uw_of w (u_Ho w h)) 1 (by decide) (uw_of _ k_100) rfl d_Ho_take_50 ?_
      refine lv_iconst (v := nI 1) hx hb d_Ho_take_53 (by decide) ?_
      refine lv_isub hx hb d_Ho_take_54 ?_
      refine b_ti (pk_sub (a := cn + 1) (b := 1) (by omega)) ?_
      exact b_iret (w' := fun _ => [(ho, .inr (1, [.ref ma, .int (nI (cn + 1)), .ref fa])), (ma, .inl (k 3, 3, .inr (.inr (.inr (.inr (mAd m0 m1 m2)))))), (m0, .inr (3, [.int (nI (va_up lr cn a 0)), .int (nI (va_up lp cn b 0)), .int (nI (va_up sc cn q 0)), .ref (hq 0), .ref (pq 0), .ref (oq 0)])), (m1, .inr (3, [.int (nI (va_up lr cn a 1)), .int (nI (va_up lp cn b 1)), .int (nI (va_up sc cn q 1)), .ref (hq 1), .ref (pq 1), .ref (oq 1)])), (m2, .inr (3, [.int (nI (va_up lr cn a 2)), .int (nI (va_up lp cn b 2)), .int (nI (va_up sc cn q 2)), .ref (hq 2), .ref (pq 2), .ref (oq 2)]))]) () hm (by have e := hw; subst hi0; exact e) (by congr 1) d_Ho_take_55
    · skip
      refine b_aald (i := cn) (v := m1) hm hw 1 3 rfl rfl rfl (by omega) (by omega) (by rw [hi0]; rfl) d_Ho_take_18 ?_
      refine lv_astore (lv' := [(4, .ref m1), (0, .ref ho), (1, .int (nI a)), (2, .int (nI b)), (3, .int (nI q))]) hx hb d_Ho_take_19  hl (by decide) rfl (fun ls hl => ?_)
      refine lv_aload hx hb d_Ho_take_21 (lv_at hl 0 rfl) ?_
      refine lv_iload_n hx hb d_Ho_take_23 rfl (lv_at hl 2 rfl) ?_
      refine b_putN (T := F_Mc) hm hw 3 rfl rfl (fun w h => uw_of w (u_Mc w h)) t_Mc t_Mc_ok n_Mc 0 (by decide) (k_67) rfl rfl rfl (Nat.le_of_ble_eq_true rfl) d_Ho_take_24 (w1 := [(ho, .inr (1, [.ref ma, .int (nI cn), .ref fa])), (ma, .inl (k 3, 3, .inr (.inr (.inr (.inr (mAd m0 m1 m2)))))), (m0, .inr (3, [.int (nI (lr 0)), .int (nI (lp 0)), .int (nI (sc 0)), .ref (hq 0), .ref (pq 0), .ref (oq 0)])), (m1, .inr (3, [.int (nI a), .int (nI (lp 1)), .int (nI (sc 1)), .ref (hq 1), .ref (pq 1), .ref (oq 1)])), (m2, .inr (3, [.int (nI (lr 2)), .int (nI (lp 2)), .int (nI (sc 2)), .ref (hq 2), .ref (pq 2), .ref (oq 2)]))]) rfl (fun H locs hw => ?_)
      refine lv_aload hx hb d_Ho_take_27 (lv_at hl 0 rfl) ?_
      refine lv_iload_n hx hb d_Ho_take_29 rfl (lv_at hl 3 rfl) ?_
      refine b_putN (T := F_Mc) hm hw 3 rfl rfl (fun w h => uw_of w (u_Mc w h)) t_Mc t_Mc_ok n_Mc 1 (by decide) (k_69) rfl rfl rfl (Nat.le_of_ble_eq_true rfl) d_Ho_take_30 (w1 := [(ho, .inr (1, [.ref ma, .int (nI cn), .ref fa])), (ma, .inl (k 3, 3, .inr (.inr (.inr (.inr (mAd m0 m1 m2)))))), (m0, .inr (3, [.int (nI (lr 0)), .int (nI (lp 0)), .int (nI (sc 0)), .ref (hq 0), .ref (pq 0), .ref (oq 0)])), (m1, .inr (3, [.int (nI a), .int (nI b), .int (nI (sc 1)), .ref (hq 1), .ref (pq 1), .ref (oq 1)])), (m2, .inr (3, [.int (nI (lr 2)), .int (nI (lp 2)), .int (nI (sc 2)), .ref (hq 2), .ref (pq 2), .ref (oq 2)]))]) rfl (fun H locs hw => ?_)
      refine lv_aload hx hb d_Ho_take_33 (lv_at hl 0 rfl) ?_
      refine lv_iload_n hx hb d_Ho_take_35 rfl (lv_at hl 4 rfl) ?_
      refine b_putN (T := F_Mc) hm hw 3 rfl rfl (fun w h => uw_of w (u_Mc w h)) t_Mc t_Mc_ok n_Mc 2 (by decide) (k_71) rfl rfl rfl (Nat.le_of_ble_eq_true rfl) d_Ho_take_36 (w1 := [(ho, .inr (1, [.ref ma, .int (nI cn), .ref fa])), (ma, .inl (k 3, 3, .inr (.inr (.inr (.inr (mAd m0 m1 m2)))))), (m0, .inr (3, [.int (nI (lr 0)), .int (nI (lp 0)), .int (nI (sc 0)), .ref (hq 0), .ref (pq 0), .ref (oq 0)])), (m1, .inr (3, [.int (nI a), .int (nI b), .int (nI q), .ref (hq 1), .ref (pq 1), .ref (oq 1)])), (m2, .inr (3, [.int (nI (lr 2)), .int (nI (lp 2)), .int (nI (sc 2)), .ref (hq 2), .ref (pq 2), .ref (oq 2)]))]) rfl (fun H locs hw => ?_)
      refine lv_aload_n hx hb d_Ho_take_39 rfl (lv_at hl 1 rfl) ?_
      refine lv_dup hx hb d_Ho_take_40 rfl ?_
      refine b_get (T := F_Ho) hm hw 0 rfl rfl (fun w h => uw_of w (u_Ho w h)) 1 (by decide) (uw_of _ k_100) rfl d_Ho_take_41 ?_
      refine lv_iconst (v := nI 1) hx hb d_Ho_take_44 (by decide) ?_
      refine lv_iadd hx hb d_Ho_take_45 ?_
      refine b_ti (nI_add cn 1) ?_
      refine b_put (T := F_Ho) hm hw 0 rfl rfl (fun w h => uw_of w (u_Ho w h)) t_Ho t_Ho_ok n_Ho 1 (by decide) (uw_of _ k_100) rfl rfl rfl (Nat.le_of_ble_eq_true rfl) d_Ho_take_46 (w1 := [(ho, .inr (1, [.ref ma, .int (nI (cn + 1)), .ref fa])), (ma, .inl (k 3, 3, .inr (.inr (.inr (.inr (mAd m0 m1 m2)))))), (m0, .inr (3, [.int (nI (lr 0)), .int (nI (lp 0)), .int (nI (sc 0)), .ref (hq 0), .ref (pq 0), .ref (oq 0)])), (m1, .inr (3, [.int (nI a), .int (nI b), .int (nI q), .ref (hq 1), .ref (pq 1), .ref (oq 1)])), (m2, .inr (3, [.int (nI (lr 2)), .int (nI (lp 2)), .int (nI (sc 2)), .ref (hq 2), .ref (pq 2), .ref (oq 2)]))]) rfl (fun H locs hw => ?_)
      refine lv_aload_n hx hb d_Ho_take_49 rfl (lv_at hl 1 rfl) ?_
      refine b_get (T := F_Ho) hm hw 0 rfl rfl (fun w h => uw_of w (u_Ho w h)) 1 (by decide) (uw_of _ k_100) rfl d_Ho_take_50 ?_
      refine lv_iconst (v := nI 1) hx hb d_Ho_take_53 (by decide) ?_
      refine lv_isub hx hb d_Ho_take_54 ?_
      refine b_ti (pk_sub (a := cn + 1) (b := 1) (by omega)) ?_
      exact b_iret (w' := fun _ => [(ho, .inr (1, [.ref ma, .int (nI (cn + 1)), .ref fa])), (ma, .inl (k 3, 3, .inr (.inr (.inr (.inr (mAd m0 m1 m2)))))), (m0, .inr (3, [.int (nI (va_up lr cn a 0)), .int (nI (va_up lp cn b 0)), .int (nI (va_up sc cn q 0)), .ref (hq 0), .ref (pq 0), .ref (oq 0)])), (m1, .inr (3, [.int (nI (va_up lr cn a 1)), .int (nI (va_up lp cn b 1)), .int (nI (va_up sc cn q 1)), .ref (hq 1), .ref (pq 1), .ref (oq 1)])), (m2, .inr (3, [.int (nI (va_up lr cn a 2)), .int (nI (va_up lp cn b 2)), .int (nI (va_up sc cn q 2)), .ref (hq 2), .ref (pq 2), .ref (oq 2)]))]) () hm (by have e := hw; subst hi0; exact e) (by congr 1) d_Ho_take_55
    · skip
      refine b_aald (i := cn) (v := m2) hm hw 1 3 rfl rfl rfl (by omega) (by omega) (by rw [hi0]; rfl) d_Ho_take_18 ?_
      refine lv_astore (lv' := [(4, .ref m2), (0, .ref ho), (1, .int (nI a)), (2, .int (nI b)), (3, .int (nI q))]) hx hb d_Ho_take_19  hl (by decide) rfl (fun ls hl => ?_)
      refine lv_aload hx hb d_Ho_take_21 (lv_at hl 0 rfl) ?_
      refine lv_iload_n hx hb d_Ho_take_23 rfl (lv_at hl 2 rfl) ?_
      refine b_putN (T := F_Mc) hm hw 4 rfl rfl (fun w h => uw_of w (u_Mc w h)) t_Mc t_Mc_ok n_Mc 0 (by decide) (k_67) rfl rfl rfl (Nat.le_of_ble_eq_true rfl) d_Ho_take_24 (w1 := [(ho, .inr (1, [.ref ma, .int (nI cn), .ref fa])), (ma, .inl (k 3, 3, .inr (.inr (.inr (.inr (mAd m0 m1 m2)))))), (m0, .inr (3, [.int (nI (lr 0)), .int (nI (lp 0)), .int (nI (sc 0)), .ref (hq 0), .ref (pq 0), .ref (oq 0)])), (m1, .inr (3, [.int (nI (lr 1)), .int (nI (lp 1)), .int (nI (sc 1)), .ref (hq 1), .ref (pq 1), .ref (oq 1)])), (m2, .inr (3, [.int (nI a), .int (nI (lp 2)), .int (nI (sc 2)), .ref (hq 2), .ref (pq 2), .ref (oq 2)]))]) rfl (fun H locs hw => ?_)
      refine lv_aload hx hb d_Ho_take_27 (lv_at hl 0 rfl) ?_
      refine lv_iload_n hx hb d_Ho_take_29 rfl (lv_at hl 3 rfl) ?_
      refine b_putN (T := F_Mc) hm hw 4 rfl rfl (fun w h => uw_of w (u_Mc w h)) t_Mc t_Mc_ok n_Mc 1 (by decide) (k_69) rfl rfl rfl (Nat.le_of_ble_eq_true rfl) d_Ho_take_30 (w1 := [(ho, .inr (1, [.ref ma, .int (nI cn), .ref fa])), (ma, .inl (k 3, 3, .inr (.inr (.inr (.inr (mAd m0 m1 m2)))))), (m0, .inr (3, [.int (nI (lr 0)), .int (nI (lp 0)), .int (nI (sc 0)), .ref (hq 0), .ref (pq 0), .ref (oq 0)])), (m1, .inr (3, [.int (nI (lr 1)), .int (nI (lp 1)), .int (nI (sc 1)), .ref (hq 1), .ref (pq 1), .ref (oq 1)])), (m2, .inr (3, [.int (nI a), .int (nI b), .int (nI (sc 2)), .ref (hq 2), .ref (pq 2), .ref (oq 2)]))]) rfl (fun H locs hw => ?_)
      refine lv_aload hx hb d_Ho_take_33 (lv_at hl 0 rfl) ?_
      refine lv_iload_n hx hb d_Ho_take_35 rfl (lv_at hl 4 rfl) ?_
      refine b_putN (T := F_Mc) hm hw 4 rfl rfl (fun w h => uw_of w (u_Mc w h)) t_Mc t_Mc_ok n_Mc 2 (by decide) (k_71) rfl rfl rfl (Nat.le_of_ble_eq_true rfl) d_Ho_take_36 (w1 := [(ho, .inr (1, [.ref ma, .int (nI cn), .ref fa])), (ma, .inl (k 3, 3, .inr (.inr (.inr (.inr (mAd m0 m1 m2)))))), (m0, .inr (3, [.int (nI (lr 0)), .int (nI (lp 0)), .int (nI (sc 0)), .ref (hq 0), .ref (pq 0), .ref (oq 0)])), (m1, .inr (3, [.int (nI (lr 1)), .int (nI (lp 1)), .int (nI (sc 1)), .ref (hq 1), .ref (pq 1), .ref (oq 1)])), (m2, .inr (3, [.int (nI a), .int (nI b), .int (nI q), .ref (hq 2), .ref (pq 2), .ref (oq 2)]))]) rfl (fun H locs hw => ?_)
      refine lv_aload_n hx hb d_Ho_take_39 rfl (lv_at hl 1 rfl) ?_
      refine lv_dup hx hb d_Ho_take_40 rfl ?_
      refine b_get (T := F_Ho) hm hw 0 rfl rfl (fun w h => uw_of w (u_Ho w h)) 1 (by decide) (uw_of _ k_100) rfl d_Ho_take_41 ?_
      refine lv_iconst (v := nI 1) hx hb d_Ho_take_44 (by decide) ?_
      refine lv_iadd hx hb d_Ho_take_45 ?_
      refine b_ti (nI_add cn 1) ?_
      refine b_put (T := F_Ho) hm hw 0 rfl rfl (fun w h => uw_of w (u_Ho w h)) t_Ho t_Ho_ok n_Ho 1 (by decide) (uw_of _ k_100) rfl rfl rfl (Nat.le_of_ble_eq_true rfl) d_Ho_take_46 (w1 := [(ho, .inr (1, [.ref ma, .int (nI (cn + 1)), .ref fa])), (ma, .inl (k 3, 3, .inr (.inr (.inr (.inr (mAd m0 m1 m2)))))), (m0, .inr (3, [.int (nI (lr 0)), .int (nI (lp 0)), .int (nI (sc 0)), .ref (hq 0), .ref (pq 0), .ref (oq 0)])), (m1, .inr (3, [.int (nI (lr 1)), .int (nI (lp 1)), .int (nI (sc 1)), .ref (hq 1), .ref (pq 1), .ref (oq 1)])), (m2, .inr (3, [.int (nI a), .int (nI b), .int (nI q), .ref (hq 2), .ref (pq 2), .ref (oq 2)]))]) rfl (fun H locs hw => ?_)
      refine lv_aload_n hx hb d_Ho_take_49 rfl (lv_at hl 1 rfl) ?_
      refine b_get (T := F_Ho) hm hw 0 rfl rfl (fun w h => uw_of w (u_Ho w h)) 1 (by decide) (uw_of _ k_100) rfl d_Ho_take_50 ?_
      refine lv_iconst (v := nI 1) hx hb d_Ho_take_53 (by decide) ?_
      refine lv_isub hx hb d_Ho_take_54 ?_
      refine b_ti (pk_sub (a := cn + 1) (b := 1) (by omega)) ?_
      exact b_iret (w' := fun _ => [(ho, .inr (1, [.ref ma, .int (nI (cn + 1)), .ref fa])), (ma, .inl (k 3, 3, .inr (.inr (.inr (.inr (mAd m0 m1 m2)))))), (m0, .inr (3, [.int (nI (va_up lr cn a 0)), .int (nI (va_up lp cn b 0)), .int (nI (va_up sc cn q 0)), .ref (hq 0), .ref (pq 0), .ref (oq 0)])), (m1, .inr (3, [.int (nI (va_up lr cn a 1)), .int (nI (va_up lp cn b 1)), .int (nI (va_up sc cn q 1)), .ref (hq 1), .ref (pq 1), .ref (oq 1)])), (m2, .inr (3, [.int (nI (va_up lr cn a 2)), .int (nI (va_up lp cn b 2)), .int (nI (va_up sc cn q 2)), .ref (hq 2), .ref (pq 2), .ref (oq 2)]))]) () hm (by have e := hw; subst hi0; exact e) (by congr 1) d_Ho_take_55
  · skip
    have h_5_0 : 3 ≤ cn := ygeN c_5_0 (by omega) (by omega)
    exfalso; omega
