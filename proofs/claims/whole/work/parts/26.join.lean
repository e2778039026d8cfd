/-! an hour passes; starts are counted; a machine joins -/

set_option maxHeartbeats 4000000 in
set_option maxRecDepth 100000 in
theorem c_Pl_advance (l : Launch) (D : va_G) (k : Nat → ClassId) (sz : Nat) (pl se ab he po sx be ho sa rc rb mr mpp af ov sta stl n x : Nat) (SE : Nat → Int32) (BE : Nat → Option Nat) (AF : Nat → Nat) (hov : ov < 36) (hsta : sta < 512) (bBE : ∀ j v, BE j = some v → v < 1125899906842624) (hne : ¬ BE (ov * 512 + sta) = none) (hSE : SE ov = nI x) (hx8 : x < 8) : Met l y_Pl_advance (uw y_Pl_advance b_Pl_advance 1 none) (rU 1 0 0) (va_Pc [.ref pl] (bP (gU D k) [(pl, .inr (4, [.ref ho, .ref sa, .int (nI ov), .int (nI sta), .int (nI stl), .ref se, .ref ab, .ref he, .ref po, .ref sx, .ref be])), (se, .inl (k 0, 36, .inl SE)), (be, .inl (k 1, 18944, .inr (.inl (fun j => oL (BE j))))), (sa, .inr (5, [.ref rc, .int (nI n), .ref rb, .ref mr, .ref mpp, .ref af])), (af, .inl (k 0, 4096, .inl (fun j => nI (AF j))))] sz)) (va_Qv (fun (_ : Unit) => True) (fun u => bQ (gU D k) (va_A [(pl, .inr (4, [.ref ho, .ref sa, .int (nI ov), .int (nI sta), .int (nI stl), .ref se, .ref ab, .ref he, .ref po, .ref sx, .ref be])), (se, .inl (k 0, 36, .inl SE)), (be, .inl (k 1, 18944, .inr (.inl (fun j => oL (BE j))))), (sa, .inr (5, [.ref rc, .int (nI n), .ref rb, .ref mr, .ref mpp, .ref af])), (af, .inl (k 0, 4096, .inl (fun j => nI (AF j))))] sz) ([(pl, .inr (4, [.ref ho, .ref sa, .int (nI (ov + 1)), .int (nI (AF (sta * 8 + x))), .int (nI stl), .ref se, .ref ab, .ref he, .ref po, .ref sx, .ref be])), (se, .inl (k 0, 36, .inl SE)), (be, .inl (k 1, 18944, .inr (.inl (fun j => oL (BE j))))), (sa, .inr (5, [.ref rc, .int (nI n), .ref rb, .ref mr, .ref mpp, .ref af])), (af, .inl (k 0, 4096, .inl (fun j => nI (AF j))))])) (va_A [(pl, .inr (4, [.ref ho, .ref sa, .int (nI ov), .int (nI sta), .int (nI stl), .ref se, .ref ab, .ref he, .ref po, .ref sx, .ref be])), (se, .inl (k 0, 36, .inl SE)), (be, .inl (k 1, 18944, .inr (.inl (fun j => oL (BE j))))), (sa, .inr (5, [.ref rc, .int (nI n), .ref rb, .ref mr, .ref mpp, .ref af])), (af, .inl (k 0, 4096, .inl (fun j => nI (AF j))))] sz)) (rU 1 0 0).cells (rU 1 0 0).slots (va_A [(pl, .inr (4, [.ref ho, .ref sa, .int (nI ov), .int (nI sta), .int (nI stl), .ref se, .ref ab, .ref he, .ref po, .ref sx, .ref be])), (se, .inl (k 0, 36, .inl SE)), (be, .inl (k 1, 18944, .inr (.inl (fun j => oL (BE j))))), (sa, .inr (5, [.ref rc, .int (nI n), .ref rb, .ref mr, .ref mpp, .ref af])), (af, .inl (k 0, 4096, .inl (fun j => nI (AF j))))] sz) := by
  refine b_start (Qc := fun A => va_Qv (fun (_ : Unit) => True) (fun u => bQ (gU D k) A ([(pl, .inr (4, [.ref ho, .ref sa, .int (nI (ov + 1)), .int (nI (AF (sta * 8 + x))), .int (nI stl), .ref se, .ref ab, .ref he, .ref po, .ref sx, .ref be])), (se, .inl (k 0, 36, .inl SE)), (be, .inl (k 1, 18944, .inr (.inl (fun j => oL (BE j))))), (sa, .inr (5, [.ref rc, .int (nI n), .ref rb, .ref mr, .ref mpp, .ref af])), (af, .inl (k 0, 4096, .inl (fun j => nI (AF j))))])) A) (by decide +kernel) (Nat.le_of_ble_eq_true rfl) ?_
  intro p e s m below meth c A hm hnm hw ls hl
  have hl : lv_has ls 1 [(0, .ref pl)] := hl
  have hx := hm.1
  have hb := hm.2.1
  have hown := hm.2.2.2.2.1
  have hts := hm.2.2.2.2.2.1
  refine lv_aload_n hx hb d_Pl_advance_0 rfl (lv_at hl 0 rfl) ?_
  refine b_get (T := F_Pl) hm hw 0 rfl rfl (fun w h => uw_of w (u_Pl w h)) 2 (by decide) (uw_of _ k_148) rfl d_Pl_advance_1 ?_
  refine lv_bipush (v := nI 36) hx hb d_Pl_advance_4 (by decide) ?_
  refine lv_icmp_ge (tgt := 55) hx hb d_Pl_advance_6 (by decide) (fun c_6_0 => ?_) (fun c_6_0 => ?_)
  · skip
    have h_6_0 : 36 ≤ ov := yge c_6_0 (by omega) (by omega)
    exfalso; omega
  · skip
    have h_6_0 : ov < 36 := yltN c_6_0 (by omega) (by omega)
    refine lv_aload_n hx hb d_Pl_advance_9 rfl (lv_at hl 0 rfl) ?_
    refine b_goi (wr := [(se, .inl (k 0, 36, .inl SE)), (sa, .inr (5, [.ref rc, .int (nI n), .ref rb, .ref mr, .ref mpp, .ref af])), (af, .inl (k 0, 4096, .inl (fun j => nI (AF j))))]) (b_runV (wc := [(pl, .inr (4, [.ref ho, .ref sa, .int (nI ov), .int (nI sta), .int (nI stl), .ref se, .ref ab, .ref he, .ref po, .ref sx, .ref be])), (be, .inl (k 1, 18944, .inr (.inl (fun j => oL (BE j)))))]) (As := []) (rest := []) (q0 := 0) hm hw (cwV 0 hts (gV uw_of k_281 k_278 k_279 (k_280) k_2) rfl rfl rfl (by decide +kernel) ⟨by decide, by decide⟩) (c_Pl_hasPlan l D k _ pl se ab he po sx be ho sa ov sta stl BE (by omega) hsta bBE) [0, 2] (by decide) rfl rfl rfl rfl hl.1 rfl (Nat.le_of_ble_eq_true rfl) d_Pl_advance_10 ⟨by decide, by decide⟩) hw [0, 2] [1, 3, 4] rfl rfl (by decide) (by decide) (fun r _ H locs hp hw => ?_)
    have hw : bW (gU D k) A s H locs [(pl, .inr (4, [.ref ho, .ref sa, .int (nI ov), .int (nI sta), .int (nI stl), .ref se, .ref ab, .ref he, .ref po, .ref sx, .ref be])), (se, .inl (k 0, 36, .inl SE)), (be, .inl (k 1, 18944, .inr (.inl (fun j => oL (BE j))))), (sa, .inr (5, [.ref rc, .int (nI n), .ref rb, .ref mr, .ref mpp, .ref af])), (af, .inl (k 0, 4096, .inl (fun j => nI (AF j))))] := hw.sub [3, 0, 4, 1, 2] (by decide) rfl
    refine lv_if_eq (tgt := 55) hx hb d_Pl_advance_13 (by decide) (fun c_13_1 => ?_) (fun c_13_1 => ?_)
    · skip
      exfalso; grind
    · skip
      refine lv_aload_n hx hb d_Pl_advance_16 rfl (lv_at hl 0 rfl) ?_
      refine lv_aload_n hx hb d_Pl_advance_17 rfl (lv_at hl 0 rfl) ?_
      refine b_get (T := F_Pl) hm hw 0 rfl rfl (fun w h => uw_of w (u_Pl w h)) 1 (by decide) (uw_of _ k_147) rfl d_Pl_advance_18 ?_
      refine b_getN (T := F_Sa) hm hw 3 rfl rfl (fun w h => uw_of w (u_Sa w h)) 5 (by decide) (k_131) rfl d_Pl_advance_21 ?_
      refine lv_aload_n hx hb d_Pl_advance_24 rfl (lv_at hl 0 rfl) ?_
      refine b_get (T := F_Pl) hm hw 0 rfl rfl (fun w h => uw_of w (u_Pl w h)) 3 (by decide) (uw_of _ k_150) rfl d_Pl_advance_25 ?_
      refine lv_bipush (v := nI 8) hx hb d_Pl_advance_28 (by decide) ?_
      refine lv_imul hx hb d_Pl_advance_30 ?_
      refine b_ti (pk_mul sta 8) ?_
      refine lv_aload_n hx hb d_Pl_advance_31 rfl (lv_at hl 0 rfl) ?_
      refine b_get (T := F_Pl) hm hw 0 rfl rfl (fun w h => uw_of w (u_Pl w h)) 5 (by decide) (uw_of _ k_153) rfl d_Pl_advance_32 ?_
      refine lv_aload_n hx hb d_Pl_advance_35 rfl (lv_at hl 0 rfl) ?_
      refine b_get (T := F_Pl) hm hw 0 rfl rfl (fun w h => uw_of w (u_Pl w h)) 2 (by decide) (uw_of _ k_148) rfl d_Pl_advance_36 ?_
      refine b_iald (i := ov) hm hw 1 0 rfl rfl (by omega) (by omega) d_Pl_advance_39 ?_
      refine b_ti (y := nI x) (hSE) ?_
      refine lv_iadd hx hb d_Pl_advance_40 ?_
      refine b_ti (nI_add (sta * 8) x) ?_
      refine b_iald (i := sta * 8 + x) hm hw 4 0 rfl rfl (by omega) (by omega) d_Pl_advance_41 ?_
      refine b_ti (show (fun j => nI (AF j)) (sta * 8 + x) = nI (AF (sta * 8 + x)) from rfl) ?_
      refine b_put (T := F_Pl) hm hw 0 rfl rfl (fun w h => uw_of w (u_Pl w h)) t_Pl t_Pl_ok n_Pl 3 (by decide) (uw_of _ k_150) rfl rfl rfl (Nat.le_of_ble_eq_true rfl) d_Pl_advance_42 (w1 := [(pl, .inr (4, [.ref ho, .ref sa, .int (nI ov), .int (nI (AF (sta * 8 + x))), .int (nI stl), .ref se, .ref ab, .ref he, .ref po, .ref sx, .ref be])), (se, .inl (k 0, 36, .inl SE)), (be, .inl (k 1, 18944, .inr (.inl (fun j => oL (BE j))))), (sa, .inr (5, [.ref rc, .int (nI n), .ref rb, .ref mr, .ref mpp, .ref af])), (af, .inl (k 0, 4096, .inl (fun j => nI (AF j))))]) rfl (fun H locs hw => ?_)
      refine lv_aload_n hx hb d_Pl_advance_45 rfl (lv_at hl 0 rfl) ?_
      refine lv_dup hx hb d_Pl_advance_46 rfl ?_
      refine b_get (T := F_Pl) hm hw 0 rfl rfl (fun w h => uw_of w (u_Pl w h)) 2 (by decide) (uw_of _ k_148) rfl d_Pl_advance_47 ?_
      refine lv_iconst (v := nI 1) hx hb d_Pl_advance_50 (by decide) ?_
      refine lv_iadd hx hb d_Pl_advance_51 ?_
      refine b_ti (nI_add ov 1) ?_
      refine b_put (T := F_Pl) hm hw 0 rfl rfl (fun w h => uw_of w (u_Pl w h)) t_Pl t_Pl_ok n_Pl 2 (by decide) (uw_of _ k_148) rfl rfl rfl (Nat.le_of_ble_eq_true rfl) d_Pl_advance_52 (w1 := [(pl, .inr (4, [.ref ho, .ref sa, .int (nI (ov + 1)), .int (nI (AF (sta * 8 + x))), .int (nI stl), .ref se, .ref ab, .ref he, .ref po, .ref sx, .ref be])), (se, .inl (k 0, 36, .inl SE)), (be, .inl (k 1, 18944, .inr (.inl (fun j => oL (BE j))))), (sa, .inr (5, [.ref rc, .int (nI n), .ref rb, .ref mr, .ref mpp, .ref af])), (af, .inl (k 0, 4096, .inl (fun j => nI (AF j))))]) rfl (fun H locs hw => ?_)
      exact b_vret (post := fun (_ : Unit) => True) (w' := fun u => [(pl, .inr (4, [.ref ho, .ref sa, .int (nI (ov + 1)), .int (nI (AF (sta * 8 + x))), .int (nI stl), .ref se, .ref ab, .ref he, .ref po, .ref sx, .ref be])), (se, .inl (k 0, 36, .inl SE)), (be, .inl (k 1, 18944, .inr (.inl (fun j => oL (BE j))))), (sa, .inr (5, [.ref rc, .int (nI n), .ref rb, .ref mr, .ref mpp, .ref af])), (af, .inl (k 0, 4096, .inl (fun j => nI (AF j))))]) () hm hw (trivial) d_Pl_advance_55

set_option maxHeartbeats 4000000 in
set_option maxRecDepth 100000 in
theorem lp_Pl_countStarts {l : Launch} {D : va_G} {k : Nat → ClassId} {pl se ab he po sx be ho sa rc rb mr mpp af ov sta stl n kk : Nat} {SE : Nat → Int32} {RB S : Nat → Nat} (hov : ov ≤ 36) (hsta : sta < 512) (hk : kk < 3) (bRB : ∀ j, RB j < 8) (hS : ∀ i, ov + i < 36 → SE (ov + i) = nI (S i) ∧ S i < 8) {p : Program} {e : Env} {s : State} {m : MethodId} {below : List Frame} {meth : Method} {c : Code} {A : Nat → Prop} (hm : bM p s m (([.ref pl, .int (nI kk)] : List Value).toArray) meth c "HeatMachines$Planner" b_Pl_countStarts 5 (some .int) (uw y_Pl_countStarts b_Pl_countStarts 5 (some .int))) (hnm : meth.name = "countStarts") :
    ∀ (f : Nat) (i : Nat), 37 ≤ ov + i + f → ov + i ≤ 36 → ∀ (H : Heap) (locs : List Loc) (ls : Array Slot), bW (gU D k) A s H locs [(pl, .inr (4, [.ref ho, .ref sa, .int (nI ov), .int (nI sta), .int (nI stl), .ref se, .ref ab, .ref he, .ref po, .ref sx, .ref be])), (se, .inl (k 0, 36, .inl SE)), (sa, .inr (5, [.ref rc, .int (nI n), .ref rb, .ref mr, .ref mpp, .ref af])), (rb, .inl (k 0, 512, .inl (fun j => nI (RB j))))] → lv_has ls 5 [(4, .int (nI (ov + i))), (3, .int (nI (bfA S (RB sta) i))), (2, .int (nI (csA S (RB sta) kk i))), (0, .ref pl), (1, .int (nI kk))] → W p l e (rU 0 0 0) s m (([.ref pl, .int (nI kk)] : List Value).toArray) below meth c H locs 0 0 (MQ below (va_Qi (fun (r : Int32) (_ : Unit) => r = nI (csA S (RB sta) kk (36 - ov))) (fun u => bQ (gU D k) A ([(pl, .inr (4, [.ref ho, .ref sa, .int (nI ov), .int (nI sta), .int (nI stl), .ref se, .ref ab, .ref he, .ref po, .ref sx, .ref be])), (se, .inl (k 0, 36, .inl SE)), (sa, .inr (5, [.ref rc, .int (nI n), .ref rb, .ref mr, .ref mpp, .ref af])), (rb, .inl (k 0, 512, .inl (fun j => nI (RB j))))])) A) (([.ref pl, .int (nI kk)] : List Value).toArray) s (rU 0 0 0).cells (rU 0 0 0).slots A) (F0 m 21 ls []) := by
  have hx := hm.1
  have hb := hm.2.1
  have hown := hm.2.2.2.2.1
  have hts := hm.2.2.2.2.2.1
  intro f
  induction f with
  | zero => intro i hf hi; exfalso; omega
  | succ f ih =>
    intro i hf hi H locs ls hw hl
    refine lv_iload hx hb d_Pl_countStarts_21 (lv_at hl 0 rfl) ?_
    refine lv_bipush (v := nI 36) hx hb d_Pl_countStarts_23 (by decide) ?_
    refine lv_icmp_ge (tgt := 60) hx hb d_Pl_countStarts_25 (by decide) (fun c_25_0 => ?_) (fun c_25_0 => ?_)
    · skip
      have h_25_0 : 36 ≤ (ov + i) := yge c_25_0 (by omega) (by omega)
      refine lv_iload_n hx hb d_Pl_countStarts_60 rfl (lv_at hl 2 rfl) ?_
      exact b_iret () hm hw (by rw [show i = 36 - ov by omega]) d_Pl_countStarts_61
    · skip
      have h_25_0 : (ov + i) < 36 := yltN c_25_0 (by omega) (by omega)
      obtain ⟨e1, e2⟩ := hS i (by omega)
      have hbf : bfA S (RB sta) i < 8 := by cases i with | zero => exact bRB _ | succ j => exact (hS j (by omega)).2
      have hcs := csA_le (S := S) (b0 := RB sta) (kk := kk) i
      have hdf := dif_lt _ e2 _ hbf
      refine lv_iload_n hx hb d_Pl_countStarts_28 rfl (lv_at hl 2 rfl) ?_
      refine lv_aload_n hx hb d_Pl_countStarts_29 rfl (lv_at hl 3 rfl) ?_
      refine b_get (T := F_Pl) hm hw 0 rfl rfl (fun w h => uw_of w (u_Pl w h)) 5 (by decide) (uw_of _ k_153) rfl d_Pl_countStarts_30 ?_
      refine lv_iload hx hb d_Pl_countStarts_33 (lv_at hl 0 rfl) ?_
      refine b_iald (i := ov + i) hm hw 1 0 rfl rfl (by omega) (by omega) d_Pl_countStarts_35 ?_
      refine b_ti (y := nI (S i)) (e1) ?_
      refine lv_iload_n hx hb d_Pl_countStarts_36 rfl (lv_at hl 1 rfl) ?_
      refine lv_iconst (v := (-1)) hx hb d_Pl_countStarts_37 (by decide) ?_
      refine lv_ixor hx hb d_Pl_countStarts_38 ?_
      refine lv_iand hx hb d_Pl_countStarts_39 ?_
      refine b_ti (y := nI (dif (S i) (bfA S (RB sta) i))) (dif_eq _ e2 _ hbf) ?_
      refine lv_iload_n hx hb d_Pl_countStarts_40 rfl (lv_at hl 4 rfl) ?_
      refine lv_ishr hx hb d_Pl_countStarts_41 ?_
      refine b_ti (nI_shr (a := dif (S i) (bfA S (RB sta) i)) (b := kk) (by omega) (by omega)) ?_
      refine lv_iconst (v := nI 1) hx hb d_Pl_countStarts_42 (by decide) ?_
      refine lv_iand hx hb d_Pl_countStarts_43 ?_
      refine b_ti (nI_and ((dif (S i) (bfA S (RB sta) i)) / 2 ^ kk) 1) ?_
      refine lv_iadd hx hb d_Pl_countStarts_44 ?_
      refine b_ti (nI_add (csA S (RB sta) kk i) (((dif (S i) (bfA S (RB sta) i)) / 2 ^ kk) &&& 1)) ?_
      refine lv_istore_n (lv' := [(2, .int (nI (csA S (RB sta) kk i + (((dif (S i) (bfA S (RB sta) i)) / 2 ^ kk) &&& 1)))), (4, .int (nI (ov + i))), (3, .int (nI (bfA S (RB sta) i))), (0, .ref pl), (1, .int (nI kk))]) hx hb d_Pl_countStarts_45 rfl hl (by decide) rfl (fun ls hl => ?_)
      refine lv_aload_n hx hb d_Pl_countStarts_46 rfl (lv_at hl 3 rfl) ?_
      refine b_get (T := F_Pl) hm hw 0 rfl rfl (fun w h => uw_of w (u_Pl w h)) 5 (by decide) (uw_of _ k_153) rfl d_Pl_countStarts_47 ?_
      refine lv_iload hx hb d_Pl_countStarts_50 (lv_at hl 1 rfl) ?_
      refine b_iald (i := ov + i) hm hw 1 0 rfl rfl (by omega) (by omega) d_Pl_countStarts_52 ?_
      refine b_ti (y := nI (S i)) (e1) ?_
      refine lv_istore_n (lv' := [(3, .int (nI (S i))), (2, .int (nI (csA S (RB sta) kk i + (((dif (S i) (bfA S (RB sta) i)) / 2 ^ kk) &&& 1)))), (4, .int (nI (ov + i))), (0, .ref pl), (1, .int (nI kk))]) hx hb d_Pl_countStarts_53 rfl hl (by decide) rfl (fun ls hl => ?_)
      refine lv_iinc (v := nI (ov + i + 1)) (lv' := [(4, .int (nI (ov + i + 1))), (3, .int (nI (S i))), (2, .int (nI (csA S (RB sta) kk i + (((dif (S i) (bfA S (RB sta) i)) / 2 ^ kk) &&& 1)))), (0, .ref pl), (1, .int (nI kk))]) hx hb d_Pl_countStarts_54 hl (k := 2) rfl (nI_add (ov + i) 1) (by decide) rfl (fun ls hl => ?_)
      refine lv_goto (tgt := 21) hx hb d_Pl_countStarts_57 (by decide) ?_
      exact ih (i + 1) (by omega) (by omega) H locs ls hw (lv_sub hl [0, 1, 2, 3, 4] rfl)

set_option maxHeartbeats 4000000 in
set_option maxRecDepth 100000 in
theorem c_Pl_countStarts (l : Launch) (D : va_G) (k : Nat → ClassId) (sz : Nat) (pl se ab he po sx be ho sa rc rb mr mpp af ov sta stl n kk : Nat) (SE : Nat → Int32) (RB S : Nat → Nat) (hov : ov ≤ 36) (hsta : sta < 512) (hk : kk < 3) (bRB : ∀ j, RB j < 8) (hS : ∀ i, ov + i < 36 → SE (ov + i) = nI (S i) ∧ S i < 8) : Met l y_Pl_countStarts (uw y_Pl_countStarts b_Pl_countStarts 5 (some .int)) (rU 0 0 0) (va_Pc [.ref pl, .int (nI kk)] (bP (gU D k) [(pl, .inr (4, [.ref ho, .ref sa, .int (nI ov), .int (nI sta), .int (nI stl), .ref se, .ref ab, .ref he, .ref po, .ref sx, .ref be])), (se, .inl (k 0, 36, .inl SE)), (sa, .inr (5, [.ref rc, .int (nI n), .ref rb, .ref mr, .ref mpp, .ref af])), (rb, .inl (k 0, 512, .inl (fun j => nI (RB j))))] sz)) (va_Qi (fun (r : Int32) (_ : Unit) => r = nI (csA S (RB sta) kk (36 - ov))) (fun u => bQ (gU D k) (va_A [(pl, .inr (4, [.ref ho, .ref sa, .int (nI ov), .int (nI sta), .int (nI stl), .ref se, .ref ab, .ref he, .ref po, .ref sx, .ref be])), (se, .inl (k 0, 36, .inl SE)), (sa, .inr (5, [.ref rc, .int (nI n), .ref rb, .ref mr, .ref mpp, .ref af])), (rb, .inl (k 0, 512, .inl (fun j => nI (RB j))))] sz) ([(pl, .inr (4, [.ref ho, .ref sa, .int (nI ov), .int (nI sta), .int (nI stl), .ref se, .ref ab, .ref he, .ref po, .ref sx, .ref be])), (se, .inl (k 0, 36, .inl SE)), (sa, .inr (5, [.ref rc, .int (nI n), .ref rb, .ref mr, .ref mpp, .ref af])), (rb, .inl (k 0, 512, .inl (fun j => nI (RB j))))])) (va_A [(pl, .inr (4, [.ref ho, .ref sa, .int (nI ov), .int (nI sta), .int (nI stl), .ref se, .ref ab, .ref he, .ref po, .ref sx, .ref be])), (se, .inl (k 0, 36, .inl SE)), (sa, .inr (5, [.ref rc, .int (nI n), .ref rb, .ref mr, .ref mpp, .ref af])), (rb, .inl (k 0, 512, .inl (fun j => nI (RB j))))] sz)) (rU 0 0 0).cells (rU 0 0 0).slots (va_A [(pl, .inr (4, [.ref ho, .ref sa, .int (nI ov), .int (nI sta), .int (nI stl), .ref se, .ref ab, .ref he, .ref po, .ref sx, .ref be])), (se, .inl (k 0, 36, .inl SE)), (sa, .inr (5, [.ref rc, .int (nI n), .ref rb, .ref mr, .ref mpp, .ref af])), (rb, .inl (k 0, 512, .inl (fun j => nI (RB j))))] sz) := by
  refine b_start (Qc := fun A => va_Qi (fun (r : Int32) (_ : Unit) => r = nI (csA S (RB sta) kk (36 - ov))) (fun u => bQ (gU D k) A ([(pl, .inr (4, [.ref ho, .ref sa, .int (nI ov), .int (nI sta), .int (nI stl), .ref se, .ref ab, .ref he, .ref po, .ref sx, .ref be])), (se, .inl (k 0, 36, .inl SE)), (sa, .inr (5, [.ref rc, .int (nI n), .ref rb, .ref mr, .ref mpp, .ref af])), (rb, .inl (k 0, 512, .inl (fun j => nI (RB j))))])) A) (by decide +kernel) (Nat.le_of_ble_eq_true rfl) ?_
  intro p e s m below meth c A hm hnm hw ls hl
  have hl : lv_has ls 5 [(0, .ref pl), (1, .int (nI kk))] := hl
  have hx := hm.1
  have hb := hm.2.1
  have hown := hm.2.2.2.2.1
  have hts := hm.2.2.2.2.2.1
  refine lv_iconst (v := nI 0) hx hb d_Pl_countStarts_0 (by decide) ?_
  refine lv_istore_n (lv' := [(2, .int (nI 0)), (0, .ref pl), (1, .int (nI kk))]) hx hb d_Pl_countStarts_1 rfl hl (by decide) rfl (fun ls hl => ?_)
  refine lv_aload_n hx hb d_Pl_countStarts_2 rfl (lv_at hl 1 rfl) ?_
  refine b_get (T := F_Pl) hm hw 0 rfl rfl (fun w h => uw_of w (u_Pl w h)) 1 (by decide) (uw_of _ k_147) rfl d_Pl_countStarts_3 ?_
  refine b_getN (T := F_Sa) hm hw 2 rfl rfl (fun w h => uw_of w (u_Sa w h)) 2 (by decide) (k_125) rfl d_Pl_countStarts_6 ?_
  refine lv_aload_n hx hb d_Pl_countStarts_9 rfl (lv_at hl 1 rfl) ?_
  refine b_get (T := F_Pl) hm hw 0 rfl rfl (fun w h => uw_of w (u_Pl w h)) 3 (by decide) (uw_of _ k_150) rfl d_Pl_countStarts_10 ?_
  refine b_iald (i := sta) hm hw 3 0 rfl rfl (by omega) (by omega) d_Pl_countStarts_13 ?_
  refine b_ti (show (fun j => nI (RB j)) sta = nI (RB sta) from rfl) ?_
  refine lv_istore_n (lv' := [(3, .int (nI (RB sta))), (2, .int (nI 0)), (0, .ref pl), (1, .int (nI kk))]) hx hb d_Pl_countStarts_14 rfl hl (by decide) rfl (fun ls hl => ?_)
  refine lv_aload_n hx hb d_Pl_countStarts_15 rfl (lv_at hl 2 rfl) ?_
  refine b_get (T := F_Pl) hm hw 0 rfl rfl (fun w h => uw_of w (u_Pl w h)) 2 (by decide) (uw_of _ k_148) rfl d_Pl_countStarts_16 ?_
  refine lv_istore (lv' := [(4, .int (nI ov)), (3, .int (nI (RB sta))), (2, .int (nI 0)), (0, .ref pl), (1, .int (nI kk))]) hx hb d_Pl_countStarts_19  hl (by decide) rfl (fun ls hl => ?_)
  exact lp_Pl_countStarts hov hsta hk bRB hS hm hnm 37 0 (by omega) (by omega) _ _ ls hw (lv_sub hl [0, 1, 2, 3, 4] rfl)

set_option maxHeartbeats 4000000 in
set_option maxRecDepth 100000 in
theorem lp_Pl_join {l : Launch} {D : va_G} {k : Nat → ClassId} {pl se ab he po sx be ov sta stl sa rc rb mr mpp af ho ma fa cn kk n0 m0 m1 m2 : Nat} {lr lp sc hq pq oq R0 X0 : Nat → Nat} {w : Nat × (Nat → Nat) × (Nat → Nat) × (Nat → Nat) × (Nat → Nat) × (Nat → Nat)} (hc : cn = kk + 1) (hk : kk < 3) (hlr : ∀ j, lr j ≤ 4 ∧ lp j ≤ 4) (hlp : ∀ j, j < cn → 1 ≤ lr j ∧ 1 ≤ lp j) (hn0 : n0 ≤ 64) (hR0 : ∀ j, j < n0 → R0 j < 8 ^ kk) (hstl : stl ≤ 36) (hX : ∀ j, X0 j ≤ 300000) (hsc : ∀ j, sc j ≤ 100000) (hw0 : exI n0 kk (lr kk) (lp kk) R0 8 0 w.1 w.2.1 ∧ stOk lr lp cn w.1 w.2.1 w.2.2.1 w.2.2.2.1 w.2.2.2.2.1 w.2.2.2.2.2 ∧ bxI w.2.1 w.2.2.1 w.2.2.2.1 w.2.2.2.2.1 w.2.2.2.2.2) {p : Program} {e : Env} {s : State} {m : MethodId} {below : List Frame} {meth : Method} {c : Code} {A : Nat → Prop} (hm : bM p s m (([.ref pl, .int (nI kk)] : List Value).toArray) meth c "HeatMachines$Planner" b_Pl_join 4 none (uw y_Pl_join b_Pl_join 4 none)) (hnm : meth.name = "join") :
    ∀ (f : Nat) (i : Nat) (SX : Nat → Nat), 2 ^ kk + 1 ≤ i + f → i ≤ 2 ^ kk → sxI kk (sc kk) X0 i SX → ∀ (H : Heap) (locs : List Loc) (ls : Array Slot), bW (gU D k) A s H locs [(pl, .inr (4, [.ref ho, .ref sa, .int (nI ov), .int (nI sta), .int (nI stl), .ref se, .ref ab, .ref he, .ref po, .ref sx, .ref be])), (sx, .inl (k 0, 8, .inl (fun j => nI (SX j)))), (sa, .inr (5, [.ref rc, .int (nI w.1), .ref rb, .ref mr, .ref mpp, .ref af])), (rc, .inl (k 0, 512, .inl (fun j => nI (w.2.1 j)))), (rb, .inl (k 0, 512, .inl (fun j => nI (w.2.2.1 j)))), (mr, .inl (k 0, 512, .inl (fun j => nI (w.2.2.2.1 j)))), (mpp, .inl (k 0, 512, .inl (fun j => nI (w.2.2.2.2.1 j)))), (af, .inl (k 0, 4096, .inl (fun j => nI (w.2.2.2.2.2 j)))), (ho, .inr (1, [.ref ma, .int (nI cn), .ref fa])), (ma, .inl (k 3, 3, .inr (.inr (.inr (.inr (mAd m0 m1 m2)))))), (m0, .inr (3, [.int (nI (lr 0)), .int (nI (lp 0)), .int (nI (sc 0)), .ref (hq 0), .ref (pq 0), .ref (oq 0)])), (m1, .inr (3, [.int (nI (lr 1)), .int (nI (lp 1)), .int (nI (sc 1)), .ref (hq 1), .ref (pq 1), .ref (oq 1)])), (m2, .inr (3, [.int (nI (lr 2)), .int (nI (lp 2)), .int (nI (sc 2)), .ref (hq 2), .ref (pq 2), .ref (oq 2)]))] → lv_has ls 4 [(3, .int (nI i)), (2, .int (nI (2 ^ kk))), (0, .ref pl), (1, .int (nI kk))] → W p l e (rU 4 0 0) s m (([.ref pl, .int (nI kk)] : List Value).toArray) below meth c H locs 0 0 (MQ below (va_Qv (fun (u : (Nat × (Nat → Nat) × (Nat → Nat) × (Nat → Nat) × (Nat → Nat) × (Nat → Nat)) × (Nat → Nat)) => (exI n0 kk (lr kk) (lp kk) R0 8 0 u.1.1 u.1.2.1 ∧ stOk lr lp cn u.1.1 u.1.2.1 u.1.2.2.1 u.1.2.2.2.1 u.1.2.2.2.2.1 u.1.2.2.2.2.2 ∧ bxI u.1.2.1 u.1.2.2.1 u.1.2.2.2.1 u.1.2.2.2.2.1 u.1.2.2.2.2.2) ∧ sxI kk (sc kk) X0 (2 ^ kk) u.2) (fun u => bQ (gU D k) A ([(pl, .inr (4, [.ref ho, .ref sa, .int (nI ov), .int (nI sta), .int (nI 36), .ref se, .ref ab, .ref he, .ref po, .ref sx, .ref be])), (sx, .inl (k 0, 8, .inl (fun j => nI (u.2 j)))), (sa, .inr (5, [.ref rc, .int (nI u.1.1), .ref rb, .ref mr, .ref mpp, .ref af])), (rc, .inl (k 0, 512, .inl (fun j => nI (u.1.2.1 j)))), (rb, .inl (k 0, 512, .inl (fun j => nI (u.1.2.2.1 j)))), (mr, .inl (k 0, 512, .inl (fun j => nI (u.1.2.2.2.1 j)))), (mpp, .inl (k 0, 512, .inl (fun j => nI (u.1.2.2.2.2.1 j)))), (af, .inl (k 0, 4096, .inl (fun j => nI (u.1.2.2.2.2.2 j)))), (ho, .inr (1, [.ref ma, .int (nI cn), .ref fa])), (ma, .inl (k 3, 3, .inr (.inr (.inr (.inr (mAd m0 m1 m2)))))), (m0, .inr (3, [.int (nI (lr 0)), .int (nI (lp 0)), .int (nI (sc 0)), .ref (hq 0), .ref (pq 0), .ref (oq 0)])), (m1, .inr (3, [.int (nI (lr 1)), .int (nI (lp 1)), .int (nI (sc 1)), .ref (hq 1), .ref (pq 1), .ref (oq 1)])), (m2, .inr (3, [.int (nI (lr 2)), .int (nI (lp 2)), .int (nI (sc 2)), .ref (hq 2), .ref (pq 2), .ref (oq 2)]))])) A) (([.ref pl, .int (nI kk)] : List Value).toArray) s (rU 4 0 0).cells (rU 4 0 0).slots A) (F0 m 18 ls []) := by
  have hx := hm.1
  have hb := hm.2.1
  have hown := hm.2.2.2.2.1
  have hts := hm.2.2.2.2.2.1
  intro f
  induction f with
  | zero => intro i SX hf hi hI; exfalso; omega
  | succ f ih =>
    intro i SX hf hi hI H locs ls hw hl
    have hp3 := p3 hk
    refine lv_iload_n hx hb d_Pl_join_18 rfl (lv_at hl 0 rfl) ?_
    refine lv_iload_n hx hb d_Pl_join_19 rfl (lv_at hl 1 rfl) ?_
    refine lv_icmp_ge (tgt := 56) hx hb d_Pl_join_20 (by decide) (fun c_20_0 => ?_) (fun c_20_0 => ?_)
    · skip
      have h_20_0 : (2 ^ kk) ≤ i := yge c_20_0 (by omega) (by omega)
      refine lv_aload_n hx hb d_Pl_join_56 rfl (lv_at hl 2 rfl) ?_
      refine lv_bipush (v := nI 35) hx hb d_Pl_join_57 (by decide) ?_
      refine b_gov (wr := [(sx, .inl (k 0, 8, .inl (fun j => nI (SX j)))), (sa, .inr (5, [.ref rc, .int (nI w.1), .ref rb, .ref mr, .ref mpp, .ref af])), (rc, .inl (k 0, 512, .inl (fun j => nI (w.2.1 j)))), (rb, .inl (k 0, 512, .inl (fun j => nI (w.2.2.1 j)))), (mr, .inl (k 0, 512, .inl (fun j => nI (w.2.2.2.1 j)))), (mpp, .inl (k 0, 512, .inl (fun j => nI (w.2.2.2.2.1 j)))), (af, .inl (k 0, 4096, .inl (fun j => nI (w.2.2.2.2.2 j)))), (ho, .inr (1, [.ref ma, .int (nI cn), .ref fa])), (ma, .inl (k 3, 3, .inr (.inr (.inr (.inr (mAd m0 m1 m2)))))), (m0, .inr (3, [.int (nI (lr 0)), .int (nI (lp 0)), .int (nI (sc 0)), .ref (hq 0), .ref (pq 0), .ref (oq 0)])), (m1, .inr (3, [.int (nI (lr 1)), .int (nI (lp 1)), .int (nI (sc 1)), .ref (hq 1), .ref (pq 1), .ref (oq 1)])), (m2, .inr (3, [.int (nI (lr 2)), .int (nI (lp 2)), .int (nI (sc 2)), .ref (hq 2), .ref (pq 2), .ref (oq 2)]))]) (b_runV (wc := [(pl, .inr (4, [.ref ho, .ref sa, .int (nI ov), .int (nI sta), .int (nI stl), .ref se, .ref ab, .ref he, .ref po, .ref sx, .ref be]))]) (As := [.int (nI 35)]) (rest := []) (q0 := 0) hm hw (cwV 1 hts (gV uw_of k_430 k_427 k_428 (k_429) k_2) rfl rfl rfl (by decide +kernel) ⟨by decide, by decide⟩) (c_Pl_forgetUpTo l D k _ pl se ab he po sx be ho sa ov sta stl 35 (by omega) hstl) [0] (by decide) rfl rfl rfl rfl hl.1 rfl (Nat.le_of_ble_eq_true rfl) d_Pl_join_59 ⟨by decide, by decide⟩) hw [0] [1, 2, 3, 4, 5, 6, 7, 8, 9, 10, 11, 12] rfl rfl (by decide) (by decide) (fun _ H locs _ hw => ?_)
      have hw : bW (gU D k) A s H locs [(pl, .inr (4, [.ref ho, .ref sa, .int (nI ov), .int (nI sta), .int (nI (if stl < 35 + 1 then 35 + 1 else stl)), .ref se, .ref ab, .ref he, .ref po, .ref sx, .ref be])), (sx, .inl (k 0, 8, .inl (fun j => nI (SX j)))), (sa, .inr (5, [.ref rc, .int (nI w.1), .ref rb, .ref mr, .ref mpp, .ref af])), (rc, .inl (k 0, 512, .inl (fun j => nI (w.2.1 j)))), (rb, .inl (k 0, 512, .inl (fun j => nI (w.2.2.1 j)))), (mr, .inl (k 0, 512, .inl (fun j => nI (w.2.2.2.1 j)))), (mpp, .inl (k 0, 512, .inl (fun j => nI (w.2.2.2.2.1 j)))), (af, .inl (k 0, 4096, .inl (fun j => nI (w.2.2.2.2.2 j)))), (ho, .inr (1, [.ref ma, .int (nI cn), .ref fa])), (ma, .inl (k 3, 3, .inr (.inr (.inr (.inr (mAd m0 m1 m2)))))), (m0, .inr (3, [.int (nI (lr 0)), .int (nI (lp 0)), .int (nI (sc 0)), .ref (hq 0), .ref (pq 0), .ref (oq 0)])), (m1, .inr (3, [.int (nI (lr 1)), .int (nI (lp 1)), .int (nI (sc 1)), .ref (hq 1), .ref (pq 1), .ref (oq 1)])), (m2, .inr (3, [.int (nI (lr 2)), .int (nI (lp 2)), .int (nI (sc 2)), .ref (hq 2), .ref (pq 2), .ref (oq 2)]))] := hw.sub [12, 0, 1, 2, 3, 4, 5, 6, 7, 8, 9, 10, 11] (by decide) rfl
      rw [show (if stl < 35 + 1 then 35 + 1 else stl) = 36 by split <;> omega] at hw
      exact b_vret (post := fun (u : (Nat × (Nat → Nat) × (Nat → Nat) × (Nat → Nat) × (Nat → Nat) × (Nat → Nat)) × (Nat → Nat)) => (exI n0 kk (lr kk) (lp kk) R0 8 0 u.1.1 u.1.2.1 ∧ stOk lr lp cn u.1.1 u.1.2.1 u.1.2.2.1 u.1.2.2.2.1 u.1.2.2.2.2.1 u.1.2.2.2.2.2 ∧ bxI u.1.2.1 u.1.2.2.1 u.1.2.2.2.1 u.1.2.2.2.2.1 u.1.2.2.2.2.2) ∧ sxI kk (sc kk) X0 (2 ^ kk) u.2) (w' := fun u => [(pl, .inr (4, [.ref ho, .ref sa, .int (nI ov), .int (nI sta), .int (nI 36), .ref se, .ref ab, .ref he, .ref po, .ref sx, .ref be])), (sx, .inl (k 0, 8, .inl (fun j => nI (u.2 j)))), (sa, .inr (5, [.ref rc, .int (nI u.1.1), .ref rb, .ref mr, .ref mpp, .ref af])), (rc, .inl (k 0, 512, .inl (fun j => nI (u.1.2.1 j)))), (rb, .inl (k 0, 512, .inl (fun j => nI (u.1.2.2.1 j)))), (mr, .inl (k 0, 512, .inl (fun j => nI (u.1.2.2.2.1 j)))), (mpp, .inl (k 0, 512, .inl (fun j => nI (u.1.2.2.2.2.1 j)))), (af, .inl (k 0, 4096, .inl (fun j => nI (u.1.2.2.2.2.2 j)))), (ho, .inr (1, [.ref ma, .int (nI cn), .ref fa])), (ma, .inl (k 3, 3, .inr (.inr (.inr (.inr (mAd m0 m1 m2)))))), (m0, .inr (3, [.int (nI (lr 0)), .int (nI (lp 0)), .int (nI (sc 0)), .ref (hq 0), .ref (pq 0), .ref (oq 0)])), (m1, .inr (3, [.int (nI (lr 1)), .int (nI (lp 1)), .int (nI (sc 1)), .ref (hq 1), .ref (pq 1), .ref (oq 1)])), (m2, .inr (3, [.int (nI (lr 2)), .int (nI (lp 2)), .int (nI (sc 2)), .ref (hq 2), .ref (pq 2), .ref (oq 2)]))]) (w, SX) hm hw (⟨hw0, by have e : i = 2 ^ kk := (by omega); rw [← e]; exact hI⟩) d_Pl_join_62
    · skip
      have h_20_0 : i < (2 ^ kk) := yltN c_20_0 (by omega) (by omega)
      have hSi : SX i ≤ 300000 := by rw [hI.2 _ (by omega)]; exact hX _
      have hsk := hsc kk
      refine lv_aload_n hx hb d_Pl_join_23 rfl (lv_at hl 2 rfl) ?_
      refine b_get (T := F_Pl) hm hw 0 rfl rfl (fun w h => uw_of w (u_Pl w h)) 9 (by decide) (uw_of _ k_158) rfl d_Pl_join_24 ?_
      refine lv_iload_n hx hb d_Pl_join_27 rfl (lv_at hl 1 rfl) ?_
      refine lv_iload_n hx hb d_Pl_join_28 rfl (lv_at hl 0 rfl) ?_
      refine lv_iadd hx hb d_Pl_join_29 ?_
      refine b_ti (nI_add (2 ^ kk) i) ?_
      refine lv_aload_n hx hb d_Pl_join_30 rfl (lv_at hl 2 rfl) ?_
      refine b_get (T := F_Pl) hm hw 0 rfl rfl (fun w h => uw_of w (u_Pl w h)) 9 (by decide) (uw_of _ k_158) rfl d_Pl_join_31 ?_
      refine lv_iload_n hx hb d_Pl_join_34 rfl (lv_at hl 0 rfl) ?_
      refine b_iald (i := i) hm hw 1 0 rfl rfl (by omega) (by omega) d_Pl_join_35 ?_
      refine b_ti (show (fun j => nI (SX j)) i = nI (SX i) from rfl) ?_
      refine lv_aload_n hx hb d_Pl_join_36 rfl (lv_at hl 2 rfl) ?_
      refine b_get (T := F_Pl) hm hw 0 rfl rfl (fun w h => uw_of w (u_Pl w h)) 0 (by decide) (uw_of _ k_145) rfl d_Pl_join_37 ?_
      refine b_getN (T := F_Ho) hm hw 8 rfl rfl (fun w h => uw_of w (u_Ho w h)) 0 (by decide) (k_98) rfl d_Pl_join_40 ?_
      refine lv_iload_n hx hb d_Pl_join_43 rfl (lv_at hl 3 rfl) ?_
      rcases (show kk = 0 ∨ kk = 1 ∨ kk = 2 by omega) with hi0 | hi0 | hi0
      · skip
        refine b_aald (i := kk) (v := m0) hm hw 9 3 rfl rfl rfl (by omega) (by omega) (by rw [hi0]; rfl) d_Pl_join_44 ?_
        refine b_getN (T := F_Mc) hm hw 10 rfl rfl (fun w h => uw_of w (u_Mc w h)) 2 (by decide) (k_72) rfl d_Pl_join_45 ?_
        refine b_ti (y := nI (sc kk)) (by rw [hi0]) ?_
        refine lv_iadd hx hb d_Pl_join_48 ?_
        refine b_ti (nI_add (SX i) (sc kk)) ?_
        refine b_iast (i := 2 ^ kk + i) hm hw 1 0 rfl rfl (by omega) (by omega) d_Pl_join_49 (w1 := [(pl, .inr (4, [.ref ho, .ref sa, .int (nI ov), .int (nI sta), .int (nI stl), .ref se, .ref ab, .ref he, .ref po, .ref sx, .ref be])), (sx, .inl (k 0, 8, .inl (fun j => nI ((va_up SX (2 ^ kk + i) (SX i + (sc kk))) j)))), (sa, .inr (5, [.ref rc, .int (nI w.1), .ref rb, .ref mr, .ref mpp, .ref af])), (rc, .inl (k 0, 512, .inl (fun j => nI (w.2.1 j)))), (rb, .inl (k 0, 512, .inl (fun j => nI (w.2.2.1 j)))), (mr, .inl (k 0, 512, .inl (fun j => nI (w.2.2.2.1 j)))), (mpp, .inl (k 0, 512, .inl (fun j => nI (w.2.2.2.2.1 j)))), (af, .inl (k 0, 4096, .inl (fun j => nI (w.2.2.2.2.2 j)))), (ho, .inr (1, [.ref ma, .int (nI cn), .ref fa])), (ma, .inl (k 3, 3, .inr (.inr (.inr (.inr (mAd m0 m1 m2)))))), (m0, .inr (3, [.int (nI (lr 0)), .int (nI (lp 0)), .int (nI (sc 0)), .ref (hq 0), .ref (pq 0), .ref (oq 0)])), (m1, .inr (3, [.int (nI (lr 1)), .int (nI (lp 1)), .int (nI (sc 1)), .ref (hq 1), .ref (pq 1), .ref (oq 1)])), (m2, .inr (3, [.int (nI (lr 2)), .int (nI (lp 2)), .int (nI (sc 2)), .ref (hq 2), .ref (pq 2), .ref (oq 2)]))]) (by rw [updN]; rfl) (fun H locs hw => ?_)
        refine lv_iinc (v := nI (i + 1)) (lv' := [(3, .int (nI (i + 1))), (2, .int (nI (2 ^ kk))), (0, .ref pl), (1, .int (nI kk))]) hx hb d_Pl_join_50 hl (k := 0) rfl (nI_add i 1) (by decide) rfl (fun ls hl => ?_)
        refine lv_goto (tgt := 18) hx hb d_Pl_join_53 (by decide) ?_
        have hp3 := p3 hk
        exact ih (i + 1) _ (by omega) (by omega) (sxI_next hI (by omega)) H locs ls hw (lv_sub hl [0, 1, 2, 3] rfl)
      · skip
        refine b_aald (i := kk) (v := m1) hm hw 9 3 rfl rfl rfl (by omega) (by omega) (by rw [hi0]; rfl) d_Pl_join_44 ?_
        refine b_getN (T := F_Mc) hm hw 11 rfl rfl (fun w h => uw_of w (u_Mc w h)) 2 (by decide) (k_72) rfl d_Pl_join_45 ?_
        refine b_ti (y := nI (sc kk)) (by rw [hi0]) ?_
        refine lv_iadd hx hb d_Pl_join_48 ?_
        refine b_ti (nI_add (SX i) (sc kk)) ?_
        refine b_iast (i := 2 ^ kk + i) hm hw 1 0 rfl rfl (by omega) (by omega) d_Pl_join_49 (w1 := [(pl, .inr (4, [.ref ho, .ref sa, .int (nI ov), .int (nI sta), .int (nI stl), .ref se, .ref ab, .ref he, .ref po, .ref sx, .ref be])), (sx, .inl (k 0, 8, .inl (fun j => nI ((va_up SX (2 ^ kk + i) (SX i + (sc kk))) j)))), (sa, .inr (5, [.ref rc, .int (nI w.1), .ref rb, .ref mr, .ref mpp, .ref af])), (rc, .inl (k 0, 512, .inl (fun j => nI (w.2.1 j)))), (rb, .inl (k 0, 512, .inl (fun j => nI (w.2.2.1 j)))), (mr, .inl (k 0, 512, .inl (fun j => nI (w.2.2.2.1 j)))), (mpp, .inl (k 0, 512, .inl (fun j => nI (w.2.2.2.2.1 j)))), (af, .inl (k 0, 4096, .inl (fun j => nI (w.2.2.2.2.2 j)))), (ho, .inr (1, [.ref ma, .int (nI cn), .ref fa])), (ma, .inl (k 3, 3, .inr (.inr (.inr (.inr (mAd m0 m1 m2)))))), (m0, .inr (3, [.int (nI (lr 0)), .int (nI (lp 0)), .int (nI (sc 0)), .ref (hq 0), .ref (pq 0), .ref (oq 0)])), (m1, .inr (3, [.int (nI (lr 1)), .int (nI (lp 1)), .int (nI (sc 1)), .ref (hq 1), .ref (pq 1), .ref (oq 1)])), (m2, .inr (3, [.int (nI (lr 2)), .int (nI (lp 2)), .int (nI (sc 2)), .ref (hq 2), .ref (pq 2), .ref (oq 2)]))]) (by rw [updN]; rfl) (fun H locs hw => ?_)
        refine lv_iinc (v := nI (i + 1)) (lv' := [(3, .int (nI (i + 1))), (2, .int (nI (2 ^ kk))), (0, .ref pl), (1, .int (nI kk))]) hx hb d_Pl_join_50 hl (k := 0) rfl (nI_add i 1) (by decide) rfl (fun ls hl => ?_)
        refine lv_goto (tgt := 18) hx hb d_Pl_join_53 (by decide) ?_
        have hp3 := p3 hk
        exact ih (i + 1) _ (by omega) (by omega) (sxI_next hI (by omega)) H locs ls hw (lv_sub hl [0, 1, 2, 3] rfl)
      · skip
        refine b_aald (i := kk) (v := m2) hm hw 9 3 rfl rfl rfl (by omega) (by omega) (by rw [hi0]; rfl) d_Pl_join_44 ?_
        refine b_getN (T := F_Mc) hm hw 12 rfl rfl (fun w h => uw_of w (u_Mc w h)) 2 (by decide) (k_72) rfl d_Pl_join_45 ?_
        refine b_ti (y := nI (sc kk)) (by rw [hi0]) ?_
        refine lv_iadd hx hb d_Pl_join_48 ?_
        refine b_ti (nI_add (SX i) (sc kk)) ?_
        refine b_iast (i := 2 ^ kk + i) hm hw 1 0 rfl rfl (by omega) (by omega) d_Pl_join_49 (w1 := [(pl, .inr (4, [.ref ho, .ref sa, .int (nI ov), .int (nI sta), .int (nI stl), .ref se, .ref ab, .ref he, .ref po, .ref sx, .ref be])), (sx, .inl (k 0, 8, .inl (fun j => nI ((va_up SX (2 ^ kk + i) (SX i + (sc kk))) j)))), (sa, .inr (5, [.ref rc, .int (nI w.1), .ref rb, .ref mr, .ref mpp, .ref af])), (rc, .inl (k 0, 512, .inl (fun j => nI (w.2.1 j)))), (rb, .inl (k 0, 512, .inl (fun j => nI (w.2.2.1 j)))), (mr, .inl (k 0, 512, .inl (fun j => nI (w.2.2.2.1 j)))), (mpp, .inl (k 0, 512, .inl (fun j => nI (w.2.2.2.2.1 j)))), (af, .inl (k 0, 4096, .inl (fun j => nI (w.2.2.2.2.2 j)))), (ho, .inr (1, [.ref ma, .int (nI cn), .ref fa])), (ma, .inl (k 3, 3, .inr (.inr (.inr (.inr (mAd m0 m1 m2)))))), (m0, .inr (3, [.int (nI (lr 0)), .int (nI (lp 0)), .int (nI (sc 0)), .ref (hq 0), .ref (pq 0), .ref (oq 0)])), (m1, .inr (3, [.int (nI (lr 1)), .int (nI (lp 1)), .int (nI (sc 1)), .ref (hq 1), .ref (pq 1), .ref (oq 1)])), (m2, .inr (3, [.int (nI (lr 2)), .int (nI (lp 2)), .int (nI (sc 2)), .ref (hq 2), .ref (pq 2), .ref (oq 2)]))]) (by rw [updN]; rfl) (fun H locs hw => ?_)
        refine lv_iinc (v := nI (i + 1)) (lv' := [(3, .int (nI (i + 1))), (2, .int (nI (2 ^ kk))), (0, .ref pl), (1, .int (nI kk))]) hx hb d_Pl_join_50 hl (k := 0) rfl (nI_add i 1) (by decide) rfl (fun ls hl => ?_)
        refine lv_goto (tgt := 18) hx hb d_Pl_join_53 (by decide) ?_
        have hp3 := p3 hk
        exact ih (i + 1) _ (by omega) (by omega) (sxI_next hI (by omega)) H locs ls hw (lv_sub hl [0, 1, 2, 3] rfl)

set_option maxHeartbeats 4000000 in
set_option maxRecDepth 100000 in
theorem c_Pl_join (l : Launch) (D : va_G) (k : Nat → ClassId) (sz : Nat) (pl se ab he po sx be ov sta stl sa rc rb mr mpp af ho ma fa cn kk n0 m0 m1 m2 : Nat) (lr lp sc hq pq oq R0 X0 RB MR MP AF : Nat → Nat) (hc : cn = kk + 1) (hk : kk < 3) (hlr : ∀ j, lr j ≤ 4 ∧ lp j ≤ 4) (hlp : ∀ j, j < cn → 1 ≤ lr j ∧ 1 ≤ lp j) (hn0 : n0 ≤ 64) (hR0 : ∀ j, j < n0 → R0 j < 8 ^ kk) (hstl : stl ≤ 36) (hX : ∀ j, X0 j ≤ 300000) (hsc : ∀ j, sc j ≤ 100000) (hbx : bxI R0 RB MR MP AF) : Met l y_Pl_join (uw y_Pl_join b_Pl_join 4 none) (rU 4 0 0) (va_Pc [.ref pl, .int (nI kk)] (bP (gU D k) [(pl, .inr (4, [.ref ho, .ref sa, .int (nI ov), .int (nI sta), .int (nI stl), .ref se, .ref ab, .ref he, .ref po, .ref sx, .ref be])), (sx, .inl (k 0, 8, .inl (fun j => nI (X0 j)))), (sa, .inr (5, [.ref rc, .int (nI n0), .ref rb, .ref mr, .ref mpp, .ref af])), (rc, .inl (k 0, 512, .inl (fun j => nI (R0 j)))), (rb, .inl (k 0, 512, .inl (fun j => nI (RB j)))), (mr, .inl (k 0, 512, .inl (fun j => nI (MR j)))), (mpp, .inl (k 0, 512, .inl (fun j => nI (MP j)))), (af, .inl (k 0, 4096, .inl (fun j => nI (AF j)))), (ho, .inr (1, [.ref ma, .int (nI cn), .ref fa])), (ma, .inl (k 3, 3, .inr (.inr (.inr (.inr (mAd m0 m1 m2)))))), (m0, .inr (3, [.int (nI (lr 0)), .int (nI (lp 0)), .int (nI (sc 0)), .ref (hq 0), .ref (pq 0), .ref (oq 0)])), (m1, .inr (3, [.int (nI (lr 1)), .int (nI (lp 1)), .int (nI (sc 1)), .ref (hq 1), .ref (pq 1), .ref (oq 1)])), (m2, .inr (3, [.int (nI (lr 2)), .int (nI (lp 2)), .int (nI (sc 2)), .ref (hq 2), .ref (pq 2), .ref (oq 2)]))] sz)) (va_Qv (fun (u : (Nat × (Nat → Nat) × (Nat → Nat) × (Nat → Nat) × (Nat → Nat) × (Nat → Nat)) × (Nat → Nat)) => (exI n0 kk (lr kk) (lp kk) R0 8 0 u.1.1 u.1.2.1 ∧ stOk lr lp cn u.1.1 u.1.2.1 u.1.2.2.1 u.1.2.2.2.1 u.1.2.2.2.2.1 u.1.2.2.2.2.2 ∧ bxI u.1.2.1 u.1.2.2.1 u.1.2.2.2.1 u.1.2.2.2.2.1 u.1.2.2.2.2.2) ∧ sxI kk (sc kk) X0 (2 ^ kk) u.2) (fun u => bQ (gU D k) (va_A [(pl, .inr (4, [.ref ho, .ref sa, .int (nI ov), .int (nI sta), .int (nI stl), .ref se, .ref ab, .ref he, .ref po, .ref sx, .ref be])), (sx, .inl (k 0, 8, .inl (fun j => nI (X0 j)))), (sa, .inr (5, [.ref rc, .int (nI n0), .ref rb, .ref mr, .ref mpp, .ref af])), (rc, .inl (k 0, 512, .inl (fun j => nI (R0 j)))), (rb, .inl (k 0, 512, .inl (fun j => nI (RB j)))), (mr, .inl (k 0, 512, .inl (fun j => nI (MR j)))), (mpp, .inl (k 0, 512, .inl (fun j => nI (MP j)))), (af, .inl (k 0, 4096, .inl (fun j => nI (AF j)))), (ho, .inr (1, [.ref ma, .int (nI cn), .ref fa])), (ma, .inl (k 3, 3, .inr (.inr (.inr (.inr (mAd m0 m1 m2)))))), (m0, .inr (3, [.int (nI (lr 0)), .int (nI (lp 0)), .int (nI (sc 0)), .ref (hq 0), .ref (pq 0), .ref (oq 0)])), (m1, .inr (3, [.int (nI (lr 1)), .int (nI (lp 1)), .int (nI (sc 1)), .ref (hq 1), .ref (pq 1), .ref (oq 1)])), (m2, .inr (3, [.int (nI (lr 2)), .int (nI (lp 2)), .int (nI (sc 2)), .ref (hq 2), .ref (pq 2), .ref (oq 2)]))] sz) ([(pl, .inr (4, [.ref ho, .ref sa, .int (nI ov), .int (nI sta), .int (nI 36), .ref se, .ref ab, .ref he, .ref po, .ref sx, .ref be])), (sx, .inl (k 0, 8, .inl (fun j => nI (u.2 j)))), (sa, .inr (5, [.ref rc, .int (nI u.1.1), .ref rb, .ref mr, .ref mpp, .ref af])), (rc, .inl (k 0, 512, .inl (fun j => nI (u.1.2.1 j)))), (rb, .inl (k 0, 512, .inl (fun j => nI (u.1.2.2.1 j)))), (mr, .inl (k 0, 512, .inl (fun j => nI (u.1.2.2.2.1 j)))), (mpp, .inl (k 0, 512, .inl (fun j => nI (u.1.2.2.2.2.1 j)))), (af, .inl (k 0, 4096, .inl (fun j => nI (u.1.2.2.2.2.2 j)))), (ho, .inr (1, [.ref ma, .int (nI cn), .ref fa])), (ma, .inl (k 3, 3, .inr (.inr (.inr (.inr (mAd m0 m1 m2)))))), (m0, .inr (3, [.int (nI (lr 0)), .int (nI (lp 0)), .int (nI (sc 0)), .ref (hq 0), .ref (pq 0), .ref (oq 0)])), (m1, .inr (3, [.int (nI (lr 1)), .int (nI (lp 1)), .int (nI (sc 1)), .ref (hq 1), .ref (pq 1), .ref (oq 1)])), (m2, .inr (3, [.int (nI (lr 2)), .int (nI (lp 2)), .int (nI (sc 2)), .ref (hq 2), .ref (pq 2), .ref (oq 2)]))])) (va_A [(pl, .inr (4, [.ref ho, .ref sa, .int (nI ov), .int (nI sta), .int (nI stl), .ref se, .ref ab, .ref he, .ref po, .ref sx, .ref be])), (sx, .inl (k 0, 8, .inl (fun j => nI (X0 j)))), (sa, .inr (5, [.ref rc, .int (nI n0), .ref rb, .ref mr, .ref mpp, .ref af])), (rc, .inl (k 0, 512, .inl (fun j => nI (R0 j)))), (rb, .inl (k 0, 512, .inl (fun j => nI (RB j)))), (mr, .inl (k 0, 512, .inl (fun j => nI (MR j)))), (mpp, .inl (k 0, 512, .inl (fun j => nI (MP j)))), (af, .inl (k 0, 4096, .inl (fun j => nI (AF j)))), (ho, .inr (1, [.ref ma, .int (nI cn), .ref fa])), (ma, .inl (k 3, 3, .inr (.inr (.inr (.inr (mAd m0 m1 m2)))))), (m0, .inr (3, [.int (nI (lr 0)), .int (nI (lp 0)), .int (nI (sc 0)), .ref (hq 0), .ref (pq 0), .ref (oq 0)])), (m1, .inr (3, [.int (nI (lr 1)), .int (nI (lp 1)), .int (nI (sc 1)), .ref (hq 1), .ref (pq 1), .ref (oq 1)])), (m2, .inr (3, [.int (nI (lr 2)), .int (nI (lp 2)), .int (nI (sc 2)), .ref (hq 2), .ref (pq 2), .ref (oq 2)]))] sz)) (rU 4 0 0).cells (rU 4 0 0).slots (va_A [(pl, .inr (4, [.ref ho, .ref sa, .int (nI ov), .int (nI sta), .int (nI stl), .ref se, .ref ab, .ref he, .ref po, .ref sx, .ref be])), (sx, .inl (k 0, 8, .inl (fun j => nI (X0 j)))), (sa, .inr (5, [.ref rc, .int (nI n0), .ref rb, .ref mr, .ref mpp, .ref af])), (rc, .inl (k 0, 512, .inl (fun j => nI (R0 j)))), (rb, .inl (k 0, 512, .inl (fun j => nI (RB j)))), (mr, .inl (k 0, 512, .inl (fun j => nI (MR j)))), (mpp, .inl (k 0, 512, .inl (fun j => nI (MP j)))), (af, .inl (k 0, 4096, .inl (fun j => nI (AF j)))), (ho, .inr (1, [.ref ma, .int (nI cn), .ref fa])), (ma, .inl (k 3, 3, .inr (.inr (.inr (.inr (mAd m0 m1 m2)))))), (m0, .inr (3, [.int (nI (lr 0)), .int (nI (lp 0)), .int (nI (sc 0)), .ref (hq 0), .ref (pq 0), .ref (oq 0)])), (m1, .inr (3, [.int (nI (lr 1)), .int (nI (lp 1)), .int (nI (sc 1)), .ref (hq 1), .ref (pq 1), .ref (oq 1)])), (m2, .inr (3, [.int (nI (lr 2)), .int (nI (lp 2)), .int (nI (sc 2)), .ref (hq 2), .ref (pq 2), .ref (oq 2)]))] sz) := by
  refine b_start (y := y_Pl_join) (maxL := 4) (ret := none) (cc := b_Pl_join) (ws' := ut) (rm := rU 4 0 0) (av := [.ref pl, .int (nI kk)]) (g := gU D k) (ws := [(pl, .inr (4, [.ref ho, .ref sa, .int (nI ov), .int (nI sta), .int (nI stl), .ref se, .ref ab, .ref he, .ref po, .ref sx, .ref be])), (sx, .inl (k 0, 8, .inl (fun j => nI (X0 j)))), (sa, .inr (5, [.ref rc, .int (nI n0), .ref rb, .ref mr, .ref mpp, .ref af])), (rc, .inl (k 0, 512, .inl (fun j => nI (R0 j)))), (rb, .inl (k 0, 512, .inl (fun j => nI (RB j)))), (mr, .inl (k 0, 512, .inl (fun j => nI (MR j)))), (mpp, .inl (k 0, 512, .inl (fun j => nI (MP j)))), (af, .inl (k 0, 4096, .inl (fun j => nI (AF j)))), (ho, .inr (1, [.ref ma, .int (nI cn), .ref fa])), (ma, .inl (k 3, 3, .inr (.inr (.inr (.inr (mAd m0 m1 m2)))))), (m0, .inr (3, [.int (nI (lr 0)), .int (nI (lp 0)), .int (nI (sc 0)), .ref (hq 0), .ref (pq 0), .ref (oq 0)])), (m1, .inr (3, [.int (nI (lr 1)), .int (nI (lp 1)), .int (nI (sc 1)), .ref (hq 1), .ref (pq 1), .ref (oq 1)])), (m2, .inr (3, [.int (nI (lr 2)), .int (nI (lp 2)), .int (nI (sc 2)), .ref (hq 2), .ref (pq 2), .ref (oq 2)]))]) (sz := sz) (Qc := fun A => va_Qv (fun (u : (Nat × (Nat → Nat) × (Nat → Nat) × (Nat → Nat) × (Nat → Nat) × (Nat → Nat)) × (Nat → Nat)) => (exI n0 kk (lr kk) (lp kk) R0 8 0 u.1.1 u.1.2.1 ∧ stOk lr lp cn u.1.1 u.1.2.1 u.1.2.2.1 u.1.2.2.2.1 u.1.2.2.2.2.1 u.1.2.2.2.2.2 ∧ bxI u.1.2.1 u.1.2.2.1 u.1.2.2.2.1 u.1.2.2.2.2.1 u.1.2.2.2.2.2) ∧ sxI kk (sc kk) X0 (2 ^ kk) u.2) (fun u => bQ (gU D k) A ([(pl, .inr (4, [.ref ho, .ref sa, .int (nI ov), .int (nI sta), .int (nI 36), .ref se, .ref ab, .ref he, .ref po, .ref sx, .ref be])), (sx, .inl (k 0, 8, .inl (fun j => nI (u.2 j)))), (sa, .inr (5, [.ref rc, .int (nI u.1.1), .ref rb, .ref mr, .ref mpp, .ref af])), (rc, .inl (k 0, 512, .inl (fun j => nI (u.1.2.1 j)))), (rb, .inl (k 0, 512, .inl (fun j => nI (u.1.2.2.1 j)))), (mr, .inl (k 0, 512, .inl (fun j => nI (u.1.2.2.2.1 j)))), (mpp, .inl (k 0, 512, .inl (fun j => nI (u.1.2.2.2.2.1 j)))), (af, .inl (k 0, 4096, .inl (fun j => nI (u.1.2.2.2.2.2 j)))), (ho, .inr (1, [.ref ma, .int (nI cn), .ref fa])), (ma, .inl (k 3, 3, .inr (.inr (.inr (.inr (mAd m0 m1 m2)))))), (m0, .inr (3, [.int (nI (lr 0)), .int (nI (lp 0)), .int (nI (sc 0)), .ref (hq 0), .ref (pq 0), .ref (oq 0)])), (m1, .inr (3, [.int (nI (lr 1)), .int (nI (lp 1)), .int (nI (sc 1)), .ref (hq 1), .ref (pq 1), .ref (oq 1)])), (m2, .inr (3, [.int (nI (lr 2)), .int (nI (lp 2)), .int (nI (sc 2)), .ref (hq 2), .ref (pq 2), .ref (oq 2)]))])) A) (by decide +kernel) (Nat.le_of_ble_eq_true rfl) ?_
  intro p e s m below meth c A hm hnm hw ls hl
  have hl : lv_has ls 4 [(0, .ref pl), (1, .int (nI kk))] := hl
  have hx := hm.1
  have hb := hm.2.1
  have hown := hm.2.2.2.2.1
  have hts := hm.2.2.2.2.2.1
  refine lv_aload_n hx hb d_Pl_join_0 rfl (lv_at hl 0 rfl) ?_
  refine b_get (T := F_Pl) hm hw 0 rfl rfl (fun w h => uw_of w (u_Pl w h)) 1 (by decide) (uw_of _ k_147) rfl d_Pl_join_1 ?_
  refine lv_aload_n hx hb d_Pl_join_4 rfl (lv_at hl 0 rfl) ?_
  refine b_get (T := F_Pl) hm hw 0 rfl rfl (fun w h => uw_of w (u_Pl w h)) 0 (by decide) (uw_of _ k_145) rfl d_Pl_join_5 ?_
  refine lv_iload_n hx hb d_Pl_join_8 rfl (lv_at hl 1 rfl) ?_
  refine b_gov (wr := [(pl, .inr (4, [.ref ho, .ref sa, .int (nI ov), .int (nI sta), .int (nI stl), .ref se, .ref ab, .ref he, .ref po, .ref sx, .ref be])), (sx, .inl (k 0, 8, .inl (fun j => nI (X0 j))))]) (b_runV (wc := [(sa, .inr (5, [.ref rc, .int (nI n0), .ref rb, .ref mr, .ref mpp, .ref af])), (rc, .inl (k 0, 512, .inl (fun j => nI (R0 j)))), (rb, .inl (k 0, 512, .inl (fun j => nI (RB j)))), (mr, .inl (k 0, 512, .inl (fun j => nI (MR j)))), (mpp, .inl (k 0, 512, .inl (fun j => nI (MP j)))), (af, .inl (k 0, 4096, .inl (fun j => nI (AF j)))), (ho, .inr (1, [.ref ma, .int (nI cn), .ref fa])), (ma, .inl (k 3, 3, .inr (.inr (.inr (.inr (mAd m0 m1 m2)))))), (m0, .inr (3, [.int (nI (lr 0)), .int (nI (lp 0)), .int (nI (sc 0)), .ref (hq 0), .ref (pq 0), .ref (oq 0)])), (m1, .inr (3, [.int (nI (lr 1)), .int (nI (lp 1)), .int (nI (sc 1)), .ref (hq 1), .ref (pq 1), .ref (oq 1)])), (m2, .inr (3, [.int (nI (lr 2)), .int (nI (lp 2)), .int (nI (sc 2)), .ref (hq 2), .ref (pq 2), .ref (oq 2)]))]) (As := [.ref ho, .int (nI kk)]) (rest := []) (q0 := 2) hm hw (cwV 2 hts (gV uw_of k_399 k_396 k_397 (k_398) k_7) rfl rfl rfl (by decide +kernel) ⟨by decide, by decide⟩) (c_Sa_extend l D k _ sa rc rb mr mpp af ho ma fa cn kk n0 m0 m1 m2 lr lp sc hq pq oq R0 hc hk hlr hlp hn0 hR0 RB MR MP AF hbx) [2, 3, 4, 5, 6, 7, 8, 9, 10, 11, 12] (by decide) rfl rfl rfl rfl hl.1 rfl (Nat.le_of_ble_eq_true rfl) d_Pl_join_9 ⟨by decide, by decide⟩) hw [2, 3, 4, 5, 6, 7, 8, 9, 10, 11, 12] [0, 1] rfl rfl (by decide) (by decide) (fun w H locs hw0 hw => ?_)
  have hw : bW (gU D k) A s H locs [(pl, .inr (4, [.ref ho, .ref sa, .int (nI ov), .int (nI sta), .int (nI stl), .ref se, .ref ab, .ref he, .ref po, .ref sx, .ref be])), (sx, .inl (k 0, 8, .inl (fun j => nI (X0 j)))), (sa, .inr (5, [.ref rc, .int (nI w.1), .ref rb, .ref mr, .ref mpp, .ref af])), (rc, .inl (k 0, 512, .inl (fun j => nI (w.2.1 j)))), (rb, .inl (k 0, 512, .inl (fun j => nI (w.2.2.1 j)))), (mr, .inl (k 0, 512, .inl (fun j => nI (w.2.2.2.1 j)))), (mpp, .inl (k 0, 512, .inl (fun j => nI (w.2.2.2.2.1 j)))), (af, .inl (k 0, 4096, .inl (fun j => nI (w.2.2.2.2.2 j)))), (ho, .inr (1, [.ref ma, .int (nI cn), .ref fa])), (ma, .inl (k 3, 3, .inr (.inr (.inr (.inr (mAd m0 m1 m2)))))), (m0, .inr (3, [.int (nI (lr 0)), .int (nI (lp 0)), .int (nI (sc 0)), .ref (hq 0), .ref (pq 0), .ref (oq 0)])), (m1, .inr (3, [.int (nI (lr 1)), .int (nI (lp 1)), .int (nI (sc 1)), .ref (hq 1), .ref (pq 1), .ref (oq 1)])), (m2, .inr (3, [.int (nI (lr 2)), .int (nI (lp 2)), .int (nI (sc 2)), .ref (hq 2), .ref (pq 2), .ref (oq 2)]))] := hw.sub [0, 1, 2, 3, 4, 5, 6, 7, 8, 9, 10, 11, 12] (by decide) rfl
  have hp3 := p3 hk
  refine lv_iconst (v := nI 1) hx hb d_Pl_join_12 (by decide) ?_
  refine lv_iload_n hx hb d_Pl_join_13 rfl (lv_at hl 1 rfl) ?_
  refine lv_ishl hx hb d_Pl_join_14 ?_
  refine b_ti (nI_shl (a := 1) (b := kk) (by omega) (by omega)) ?_
  refine b_ti (y := nI (2 ^ kk)) (by rw [Nat.one_mul]) ?_
  refine lv_istore_n (lv' := [(2, .int (nI (2 ^ kk))), (0, .ref pl), (1, .int (nI kk))]) hx hb d_Pl_join_15 rfl hl (by decide) rfl (fun ls hl => ?_)
  refine lv_iconst (v := nI 0) hx hb d_Pl_join_16 (by decide) ?_
  refine lv_istore_n (lv' := [(3, .int (nI 0)), (2, .int (nI (2 ^ kk))), (0, .ref pl), (1, .int (nI kk))]) hx hb d_Pl_join_17 rfl hl (by decide) rfl (fun ls hl => ?_)
  exact lp_Pl_join hc hk hlr hlp hn0 hR0 hstl hX hsc hw0 hm hnm (2 ^ kk + 1) 0 X0 (by omega) (by omega) ⟨fun x h => absurd h (by omega), fun j _ => rfl⟩ _ _ ls hw (lv_sub hl [0, 1, 2, 3] rfl)
