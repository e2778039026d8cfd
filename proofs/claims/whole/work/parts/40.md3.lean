/-! the reference: an hour -/

set_option maxHeartbeats 4000000 in
set_option maxRecDepth 100000 in
theorem lp_Md_look {l : Launch} {D : va_G} {k : Nat → ClassId} {md : Nat} {za : Nat → Nat} {th cn ov sn kn fd : Nat} {cst : Int64} {co tb : Nat} {IO : Nat → Int32} {OS : Nat → Int32} {RW : Nat → Nat} {RO : Nat → Int32} {RH : Nat → Int32} {RP : Nat → Int32} {h : Nat} {gh gp : Nat → Option Nat} (hc : cn ≤ 3) (hh : h < 36) (hr8 : ∀ k, RW k ≤ 8) (hg : ∀ k, k < cn → gmR RW RO RH RP (OS h) k (gh k) (gp k)) {p : Program} {e : Env} {s : State} {m : MethodId} {below : List Frame} {meth : Method} {c : Code} {A : Nat → Prop} (hm : bM p s m (([.ref md, .int (nI h)] : List Value).toArray) meth c "HeatMachinesModel" b_Md_look 3 none (uw y_Md_look b_Md_look 3 none)) (hnm : meth.name = "look") :
    ∀ (f : Nat) (i : Nat) (HN PN : Nat → Int32), cn + 1 ≤ i + f → i ≤ cn → lkI IO h gh gp i HN PN → ∀ (H : Heap) (locs : List Loc) (ls : Array Slot), bW (gU D k) A s H locs [(md, .inr (7, mdL za th cn ov sn kn fd cst co tb)), (za 12, .inl (k 2, 108, .inl IO)), (za 9, .inl (k 0, 36, .inl OS)), (za 5, .inl (k 0, 3, .inl (fun j => nI (RW j)))), (za 6, .inl (k 0, 24, .inl RO)), (za 7, .inl (k 0, 24, .inl RH)), (za 8, .inl (k 0, 24, .inl RP)), (za 26, .inl (k 0, 3, .inl HN)), (za 27, .inl (k 0, 3, .inl PN))] → lv_has ls 3 [(2, .int (nI i)), (0, .ref md), (1, .int (nI h))] → W p l e (rU 2 0 0) s m (([.ref md, .int (nI h)] : List Value).toArray) below meth c H locs 0 0 (MQ below (va_Qv (fun (u : (Nat → Int32) × (Nat → Int32)) => lkI IO h gh gp cn u.1 u.2) (fun u => bQ (gU D k) A ([(md, .inr (7, mdL za th cn ov sn kn fd cst co tb)), (za 12, .inl (k 2, 108, .inl IO)), (za 9, .inl (k 0, 36, .inl OS)), (za 5, .inl (k 0, 3, .inl (fun j => nI (RW j)))), (za 6, .inl (k 0, 24, .inl RO)), (za 7, .inl (k 0, 24, .inl RH)), (za 8, .inl (k 0, 24, .inl RP)), (za 26, .inl (k 0, 3, .inl u.1)), (za 27, .inl (k 0, 3, .inl u.2))])) A) (([.ref md, .int (nI h)] : List Value).toArray) s (rU 2 0 0).cells (rU 2 0 0).slots A) (F0 m 2 ls []) := by
  have hx := hm.1
  have hb := hm.2.1
  have hown := hm.2.2.2.2.1
  have hts := hm.2.2.2.2.2.1
  intro f
  induction f with
  | zero => intro i HN PN hf hi hI; exfalso; omega
  | succ f ih =>
    intro i HN PN hf hi hI H locs ls hw hl
    refine lv_iload_n hx hb d_Md_look_2 rfl (lv_at hl 0 rfl) ?_
    refine lv_aload_n hx hb d_Md_look_3 rfl (lv_at hl 1 rfl) ?_
    refine b_get (T := F_Md) hm hw 0 rfl rfl (fun w h => uw_of w (u_Md w h)) 1 (by decide) (uw_of _ k_609) rfl d_Md_look_4 ?_
    refine lv_icmp_ge (tgt := 70) hx hb d_Md_look_7 (by decide) (fun c_7_0 => ?_) (fun c_7_0 => ?_)
    · skip
      have h_7_0 : cn ≤ i := yge c_7_0 (by omega) (by omega)
      exact b_vret (post := fun (u : (Nat → Int32) × (Nat → Int32)) => lkI IO h gh gp cn u.1 u.2) (w' := fun u => [(md, .inr (7, mdL za th cn ov sn kn fd cst co tb)), (za 12, .inl (k 2, 108, .inl IO)), (za 9, .inl (k 0, 36, .inl OS)), (za 5, .inl (k 0, 3, .inl (fun j => nI (RW j)))), (za 6, .inl (k 0, 24, .inl RO)), (za 7, .inl (k 0, 24, .inl RH)), (za 8, .inl (k 0, 24, .inl RP)), (za 26, .inl (k 0, 3, .inl u.1)), (za 27, .inl (k 0, 3, .inl u.2))]) (HN, PN) hm hw (by have e : i = cn := (by omega); rw [← e]; exact hI) d_Md_look_70
    · skip
      have h_7_0 : i < cn := yltN c_7_0 (by omega) (by omega)
      refine lv_aload_n hx hb d_Md_look_10 rfl (lv_at hl 1 rfl) ?_
      refine b_get (T := F_Md) hm hw 0 rfl rfl (fun w h => uw_of w (u_Md w h)) 26 (by decide) (uw_of _ k_634) rfl d_Md_look_11 ?_
      refine lv_iload_n hx hb d_Md_look_14 rfl (lv_at hl 0 rfl) ?_
      refine lv_aload_n hx hb d_Md_look_15 rfl (lv_at hl 1 rfl) ?_
      refine b_get (T := F_Md) hm hw 0 rfl rfl (fun w h => uw_of w (u_Md w h)) 12 (by decide) (uw_of _ k_620) rfl d_Md_look_16 ?_
      refine lv_bipush (v := nI 36) hx hb d_Md_look_19 (by decide) ?_
      refine lv_iload_n hx hb d_Md_look_21 rfl (lv_at hl 0 rfl) ?_
      refine lv_imul hx hb d_Md_look_22 ?_
      refine b_ti (pk_mul 36 i) ?_
      refine lv_iload_n hx hb d_Md_look_23 rfl (lv_at hl 2 rfl) ?_
      refine lv_iadd hx hb d_Md_look_24 ?_
      refine b_ti (nI_add (36 * i) h) ?_
      refine b_zald (i := 36 * i + h) hm hw 1 2 rfl rfl (by omega) (by omega) d_Md_look_25 ?_
      refine lv_if_eq (tgt := 33) hx hb d_Md_look_26 (by decide) (fun c_26_1 => ?_) (fun c_26_1 => ?_)
      · skip
        refine lv_aload_n hx hb d_Md_look_33 rfl (lv_at hl 1 rfl) ?_
        refine lv_iload_n hx hb d_Md_look_34 rfl (lv_at hl 0 rfl) ?_
        refine lv_aload_n hx hb d_Md_look_35 rfl (lv_at hl 1 rfl) ?_
        refine b_get (T := F_Md) hm hw 0 rfl rfl (fun w h => uw_of w (u_Md w h)) 9 (by decide) (uw_of _ k_617) rfl d_Md_look_36 ?_
        refine lv_iload_n hx hb d_Md_look_39 rfl (lv_at hl 2 rfl) ?_
        refine b_iald (i := h) hm hw 2 0 rfl rfl (by omega) (by omega) d_Md_look_40 ?_
        refine lv_iconst (v := nI 0) hx hb d_Md_look_41 (by decide) ?_
        refine b_goi (wr := [(za 12, .inl (k 2, 108, .inl IO)), (za 9, .inl (k 0, 36, .inl OS)), (za 26, .inl (k 0, 3, .inl HN)), (za 27, .inl (k 0, 3, .inl PN))]) (b_runV (wc := [(md, .inr (7, mdL za th cn ov sn kn fd cst co tb)), (za 5, .inl (k 0, 3, .inl (fun j => nI (RW j)))), (za 6, .inl (k 0, 24, .inl RO)), (za 7, .inl (k 0, 24, .inl RH)), (za 8, .inl (k 0, 24, .inl RP))]) (As := [.int (nI i), .int (OS h), .int 0]) (rest := [.int (nI i), .ref (za 26)]) (q0 := 0) hm hw (cwV 3 hts (gV uw_of k_758 k_755 k_757 (mp 14 rfl rfl) k_9) rfl rfl rfl (by decide +kernel) ⟨by decide, by decide⟩) (c_Md_given l D k _ md za th cn ov sn kn fd cst co tb RW RO RH RP i (OS h) 0 (by omega) (hr8 i)) [0, 3, 4, 5, 6] (by decide) rfl rfl rfl rfl hl.1 rfl (Nat.le_of_ble_eq_true rfl) d_Md_look_42 ⟨by decide, by decide⟩) hw [0, 3, 4, 5, 6] [1, 2, 7, 8] rfl rfl (by decide) (by decide) (fun r42 _ H locs hg42 hw => ?_)
        have hw : bW (gU D k) A s H locs [(md, .inr (7, mdL za th cn ov sn kn fd cst co tb)), (za 12, .inl (k 2, 108, .inl IO)), (za 9, .inl (k 0, 36, .inl OS)), (za 5, .inl (k 0, 3, .inl (fun j => nI (RW j)))), (za 6, .inl (k 0, 24, .inl RO)), (za 7, .inl (k 0, 24, .inl RH)), (za 8, .inl (k 0, 24, .inl RP)), (za 26, .inl (k 0, 3, .inl HN)), (za 27, .inl (k 0, 3, .inl PN))] := hw.sub [4, 0, 1, 5, 6, 7, 8, 2, 3] (by decide) rfl
        refine b_iast (i := i) hm hw 7 0 rfl rfl (by omega) (by omega) d_Md_look_45 (w1 := [(md, .inr (7, mdL za th cn ov sn kn fd cst co tb)), (za 12, .inl (k 2, 108, .inl IO)), (za 9, .inl (k 0, 36, .inl OS)), (za 5, .inl (k 0, 3, .inl (fun j => nI (RW j)))), (za 6, .inl (k 0, 24, .inl RO)), (za 7, .inl (k 0, 24, .inl RH)), (za 8, .inl (k 0, 24, .inl RP)), (za 26, .inl (k 0, 3, .inl (upd HN i r42))), (za 27, .inl (k 0, 3, .inl PN))]) rfl (fun H locs hw => ?_)
        refine lv_aload_n hx hb d_Md_look_46 rfl (lv_at hl 1 rfl) ?_
        refine b_get (T := F_Md) hm hw 0 rfl rfl (fun w h => uw_of w (u_Md w h)) 27 (by decide) (uw_of _ k_635) rfl d_Md_look_47 ?_
        refine lv_iload_n hx hb d_Md_look_50 rfl (lv_at hl 0 rfl) ?_
        refine lv_aload_n hx hb d_Md_look_51 rfl (lv_at hl 1 rfl) ?_
        refine lv_iload_n hx hb d_Md_look_52 rfl (lv_at hl 0 rfl) ?_
        refine lv_aload_n hx hb d_Md_look_53 rfl (lv_at hl 1 rfl) ?_
        refine b_get (T := F_Md) hm hw 0 rfl rfl (fun w h => uw_of w (u_Md w h)) 9 (by decide) (uw_of _ k_617) rfl d_Md_look_54 ?_
        refine lv_iload_n hx hb d_Md_look_57 rfl (lv_at hl 2 rfl) ?_
        refine b_iald (i := h) hm hw 2 0 rfl rfl (by omega) (by omega) d_Md_look_58 ?_
        refine lv_iconst (v := nI 1) hx hb d_Md_look_59 (by decide) ?_
        refine b_goi (wr := [(za 12, .inl (k 2, 108, .inl IO)), (za 9, .inl (k 0, 36, .inl OS)), (za 26, .inl (k 0, 3, .inl (upd HN i r42))), (za 27, .inl (k 0, 3, .inl PN))]) (b_runV (wc := [(md, .inr (7, mdL za th cn ov sn kn fd cst co tb)), (za 5, .inl (k 0, 3, .inl (fun j => nI (RW j)))), (za 6, .inl (k 0, 24, .inl RO)), (za 7, .inl (k 0, 24, .inl RH)), (za 8, .inl (k 0, 24, .inl RP))]) (As := [.int (nI i), .int (OS h), .int 1]) (rest := [.int (nI i), .ref (za 27)]) (q0 := 0) hm hw (cwV 3 hts (gV uw_of k_758 k_755 k_757 (mp 14 rfl rfl) k_9) rfl rfl rfl (by decide +kernel) ⟨by decide, by decide⟩) (c_Md_given l D k _ md za th cn ov sn kn fd cst co tb RW RO RH RP i (OS h) 1 (by omega) (hr8 i)) [0, 3, 4, 5, 6] (by decide) rfl rfl rfl rfl hl.1 rfl (Nat.le_of_ble_eq_true rfl) d_Md_look_60 ⟨by decide, by decide⟩) hw [0, 3, 4, 5, 6] [1, 2, 7, 8] rfl rfl (by decide) (by decide) (fun r60 _ H locs hg60 hw => ?_)
        have hw : bW (gU D k) A s H locs [(md, .inr (7, mdL za th cn ov sn kn fd cst co tb)), (za 12, .inl (k 2, 108, .inl IO)), (za 9, .inl (k 0, 36, .inl OS)), (za 5, .inl (k 0, 3, .inl (fun j => nI (RW j)))), (za 6, .inl (k 0, 24, .inl RO)), (za 7, .inl (k 0, 24, .inl RH)), (za 8, .inl (k 0, 24, .inl RP)), (za 26, .inl (k 0, 3, .inl (upd HN i r42))), (za 27, .inl (k 0, 3, .inl PN))] := hw.sub [4, 0, 1, 5, 6, 7, 8, 2, 3] (by decide) rfl
        refine b_iast (i := i) hm hw 8 0 rfl rfl (by omega) (by omega) d_Md_look_63 (w1 := [(md, .inr (7, mdL za th cn ov sn kn fd cst co tb)), (za 12, .inl (k 2, 108, .inl IO)), (za 9, .inl (k 0, 36, .inl OS)), (za 5, .inl (k 0, 3, .inl (fun j => nI (RW j)))), (za 6, .inl (k 0, 24, .inl RO)), (za 7, .inl (k 0, 24, .inl RH)), (za 8, .inl (k 0, 24, .inl RP)), (za 26, .inl (k 0, 3, .inl (upd HN i r42))), (za 27, .inl (k 0, 3, .inl (upd PN i r60)))]) rfl (fun H locs hw => ?_)
        refine lv_iinc (v := nI (i + 1)) (lv' := [(2, .int (nI (i + 1))), (0, .ref md), (1, .int (nI h))]) hx hb d_Md_look_64 hl (k := 0) rfl (nI_add i 1) (by decide) rfl (fun ls hl => ?_)
        refine lv_goto (tgt := 2) hx hb d_Md_look_67 (by decide) ?_
        exact ih (i + 1) _ _ (by omega) (by omega) (lkI_next hI (by unfold cnO; rw [if_pos (by assumption)]; exact (hg i (by omega)).1 _ hg42) ((hg i (by omega)).2 _ hg60)) H locs ls hw (lv_sub hl [0, 1, 2] rfl)
      · skip
        refine lv_iconst (v := (-1)) hx hb d_Md_look_29 (by decide) ?_
        refine lv_goto (tgt := 45) hx hb d_Md_look_30 (by decide) ?_
        refine b_iast (i := i) hm hw 7 0 rfl rfl (by omega) (by omega) d_Md_look_45 (w1 := [(md, .inr (7, mdL za th cn ov sn kn fd cst co tb)), (za 12, .inl (k 2, 108, .inl IO)), (za 9, .inl (k 0, 36, .inl OS)), (za 5, .inl (k 0, 3, .inl (fun j => nI (RW j)))), (za 6, .inl (k 0, 24, .inl RO)), (za 7, .inl (k 0, 24, .inl RH)), (za 8, .inl (k 0, 24, .inl RP)), (za 26, .inl (k 0, 3, .inl (upd HN i (-1)))), (za 27, .inl (k 0, 3, .inl PN))]) rfl (fun H locs hw => ?_)
        refine lv_aload_n hx hb d_Md_look_46 rfl (lv_at hl 1 rfl) ?_
        refine b_get (T := F_Md) hm hw 0 rfl rfl (fun w h => uw_of w (u_Md w h)) 27 (by decide) (uw_of _ k_635) rfl d_Md_look_47 ?_
        refine lv_iload_n hx hb d_Md_look_50 rfl (lv_at hl 0 rfl) ?_
        refine lv_aload_n hx hb d_Md_look_51 rfl (lv_at hl 1 rfl) ?_
        refine lv_iload_n hx hb d_Md_look_52 rfl (lv_at hl 0 rfl) ?_
        refine lv_aload_n hx hb d_Md_look_53 rfl (lv_at hl 1 rfl) ?_
        refine b_get (T := F_Md) hm hw 0 rfl rfl (fun w h => uw_of w (u_Md w h)) 9 (by decide) (uw_of _ k_617) rfl d_Md_look_54 ?_
        refine lv_iload_n hx hb d_Md_look_57 rfl (lv_at hl 2 rfl) ?_
        refine b_iald (i := h) hm hw 2 0 rfl rfl (by omega) (by omega) d_Md_look_58 ?_
        refine lv_iconst (v := nI 1) hx hb d_Md_look_59 (by decide) ?_
        refine b_goi (wr := [(za 12, .inl (k 2, 108, .inl IO)), (za 9, .inl (k 0, 36, .inl OS)), (za 26, .inl (k 0, 3, .inl (upd HN i (-1)))), (za 27, .inl (k 0, 3, .inl PN))]) (b_runV (wc := [(md, .inr (7, mdL za th cn ov sn kn fd cst co tb)), (za 5, .inl (k 0, 3, .inl (fun j => nI (RW j)))), (za 6, .inl (k 0, 24, .inl RO)), (za 7, .inl (k 0, 24, .inl RH)), (za 8, .inl (k 0, 24, .inl RP))]) (As := [.int (nI i), .int (OS h), .int 1]) (rest := [.int (nI i), .ref (za 27)]) (q0 := 0) hm hw (cwV 3 hts (gV uw_of k_758 k_755 k_757 (mp 14 rfl rfl) k_9) rfl rfl rfl (by decide +kernel) ⟨by decide, by decide⟩) (c_Md_given l D k _ md za th cn ov sn kn fd cst co tb RW RO RH RP i (OS h) 1 (by omega) (hr8 i)) [0, 3, 4, 5, 6] (by decide) rfl rfl rfl rfl hl.1 rfl (Nat.le_of_ble_eq_true rfl) d_Md_look_60 ⟨by decide, by decide⟩) hw [0, 3, 4, 5, 6] [1, 2, 7, 8] rfl rfl (by decide) (by decide) (fun r60 _ H locs hg60 hw => ?_)
        have hw : bW (gU D k) A s H locs [(md, .inr (7, mdL za th cn ov sn kn fd cst co tb)), (za 12, .inl (k 2, 108, .inl IO)), (za 9, .inl (k 0, 36, .inl OS)), (za 5, .inl (k 0, 3, .inl (fun j => nI (RW j)))), (za 6, .inl (k 0, 24, .inl RO)), (za 7, .inl (k 0, 24, .inl RH)), (za 8, .inl (k 0, 24, .inl RP)), (za 26, .inl (k 0, 3, .inl (upd HN i (-1)))), (za 27, .inl (k 0, 3, .inl PN))] := hw.sub [4, 0, 1, 5, 6, 7, 8, 2, 3] (by decide) rfl
        refine b_iast (i := i) hm hw 8 0 rfl rfl (by omega) (by omega) d_Md_look_63 (w1 := [(md, .inr (7, mdL za th cn ov sn kn fd cst co tb)), (za 12, .inl (k 2, 108, .inl IO)), (za 9, .inl (k 0, 36, .inl OS)), (za 5, .inl (k 0, 3, .inl (fun j => nI (RW j)))), (za 6, .inl (k 0, 24, .inl RO)), (za 7, .inl (k 0, 24, .inl RH)), (za 8, .inl (k 0, 24, .inl RP)), (za 26, .inl (k 0, 3, .inl (upd HN i (-1)))), (za 27, .inl (k 0, 3, .inl (upd PN i r60)))]) rfl (fun H locs hw => ?_)
        refine lv_iinc (v := nI (i + 1)) (lv' := [(2, .int (nI (i + 1))), (0, .ref md), (1, .int (nI h))]) hx hb d_Md_look_64 hl (k := 0) rfl (nI_add i 1) (by decide) rfl (fun ls hl => ?_)
        refine lv_goto (tgt := 2) hx hb d_Md_look_67 (by decide) ?_
        exact ih (i + 1) _ _ (by omega) (by omega) (lkI_next hI (by unfold cnO; rw [if_neg (by assumption)]; rfl) ((hg i (by omega)).2 _ hg60)) H locs ls hw (lv_sub hl [0, 1, 2] rfl)

set_option maxHeartbeats 4000000 in
set_option maxRecDepth 100000 in
theorem c_Md_look (l : Launch) (D : va_G) (k : Nat → ClassId) (sz : Nat) (md : Nat) (za : Nat → Nat) (th cn ov sn kn fd : Nat) (cst : Int64) (co tb : Nat) (IO : Nat → Int32) (OS : Nat → Int32) (RW : Nat → Nat) (RO : Nat → Int32) (RH : Nat → Int32) (RP : Nat → Int32) (HN : Nat → Int32) (PN : Nat → Int32) (h : Nat) (gh gp : Nat → Option Nat) (hc : cn ≤ 3) (hh : h < 36) (hr8 : ∀ k, RW k ≤ 8) (hg : ∀ k, k < cn → gmR RW RO RH RP (OS h) k (gh k) (gp k)) : Met l y_Md_look (uw y_Md_look b_Md_look 3 none) (rU 2 0 0) (va_Pc [.ref md, .int (nI h)] (bP (gU D k) [(md, .inr (7, mdL za th cn ov sn kn fd cst co tb)), (za 12, .inl (k 2, 108, .inl IO)), (za 9, .inl (k 0, 36, .inl OS)), (za 5, .inl (k 0, 3, .inl (fun j => nI (RW j)))), (za 6, .inl (k 0, 24, .inl RO)), (za 7, .inl (k 0, 24, .inl RH)), (za 8, .inl (k 0, 24, .inl RP)), (za 26, .inl (k 0, 3, .inl HN)), (za 27, .inl (k 0, 3, .inl PN))] sz)) (va_Qv (fun (u : (Nat → Int32) × (Nat → Int32)) => lkI IO h gh gp cn u.1 u.2) (fun u => bQ (gU D k) (va_A [(md, .inr (7, mdL za th cn ov sn kn fd cst co tb)), (za 12, .inl (k 2, 108, .inl IO)), (za 9, .inl (k 0, 36, .inl OS)), (za 5, .inl (k 0, 3, .inl (fun j => nI (RW j)))), (za 6, .inl (k 0, 24, .inl RO)), (za 7, .inl (k 0, 24, .inl RH)), (za 8, .inl (k 0, 24, .inl RP)), (za 26, .inl (k 0, 3, .inl HN)), (za 27, .inl (k 0, 3, .inl PN))] sz) ([(md, .inr (7, mdL za th cn ov sn kn fd cst co tb)), (za 12, .inl (k 2, 108, .inl IO)), (za 9, .inl (k 0, 36, .inl OS)), (za 5, .inl (k 0, 3, .inl (fun j => nI (RW j)))), (za 6, .inl (k 0, 24, .inl RO)), (za 7, .inl (k 0, 24, .inl RH)), (za 8, .inl (k 0, 24, .inl RP)), (za 26, .inl (k 0, 3, .inl u.1)), (za 27, .inl (k 0, 3, .inl u.2))])) (va_A [(md, .inr (7, mdL za th cn ov sn kn fd cst co tb)), (za 12, .inl (k 2, 108, .inl IO)), (za 9, .inl (k 0, 36, .inl OS)), (za 5, .inl (k 0, 3, .inl (fun j => nI (RW j)))), (za 6, .inl (k 0, 24, .inl RO)), (za 7, .inl (k 0, 24, .inl RH)), (za 8, .inl (k 0, 24, .inl RP)), (za 26, .inl (k 0, 3, .inl HN)), (za 27, .inl (k 0, 3, .inl PN))] sz)) (rU 2 0 0).cells (rU 2 0 0).slots (va_A [(md, .inr (7, mdL za th cn ov sn kn fd cst co tb)), (za 12, .inl (k 2, 108, .inl IO)), (za 9, .inl (k 0, 36, .inl OS)), (za 5, .inl (k 0, 3, .inl (fun j => nI (RW j)))), (za 6, .inl (k 0, 24, .inl RO)), (za 7, .inl (k 0, 24, .inl RH)), (za 8, .inl (k 0, 24, .inl RP)), (za 26, .inl (k 0, 3, .inl HN)), (za 27, .inl (k 0, 3, .inl PN))] sz) := by
  refine b_start (y := y_Md_look) (maxL := 3) (ret := none) (cc := b_Md_look) (ws' := ut) (rm := rU 2 0 0) (av := [.ref md, .int (nI h)]) (g := gU D k) (ws := [(md, .inr (7, mdL za th cn ov sn kn fd cst co tb)), (za 12, .inl (k 2, 108, .inl IO)), (za 9, .inl (k 0, 36, .inl OS)), (za 5, .inl (k 0, 3, .inl (fun j => nI (RW j)))), (za 6, .inl (k 0, 24, .inl RO)), (za 7, .inl (k 0, 24, .inl RH)), (za 8, .inl (k 0, 24, .inl RP)), (za 26, .inl (k 0, 3, .inl HN)), (za 27, .inl (k 0, 3, .inl PN))]) (sz := sz) (Qc := fun A => va_Qv (fun (u : (Nat → Int32) × (Nat → Int32)) => lkI IO h gh gp cn u.1 u.2) (fun u => bQ (gU D k) A ([(md, .inr (7, mdL za th cn ov sn kn fd cst co tb)), (za 12, .inl (k 2, 108, .inl IO)), (za 9, .inl (k 0, 36, .inl OS)), (za 5, .inl (k 0, 3, .inl (fun j => nI (RW j)))), (za 6, .inl (k 0, 24, .inl RO)), (za 7, .inl (k 0, 24, .inl RH)), (za 8, .inl (k 0, 24, .inl RP)), (za 26, .inl (k 0, 3, .inl u.1)), (za 27, .inl (k 0, 3, .inl u.2))])) A) (by decide +kernel) (Nat.le_of_ble_eq_true rfl) ?_
  intro p e s m below meth c A hm hnm hw ls hl
  have hl : lv_has ls 3 [(0, .ref md), (1, .int (nI h))] := hl
  have hx := hm.1
  have hb := hm.2.1
  have hown := hm.2.2.2.2.1
  have hts := hm.2.2.2.2.2.1
  refine lv_iconst (v := nI 0) hx hb d_Md_look_0 (by decide) ?_
  refine lv_istore_n (lv' := [(2, .int (nI 0)), (0, .ref md), (1, .int (nI h))]) hx hb d_Md_look_1 rfl hl (by decide) rfl (fun ls hl => ?_)
  exact lp_Md_look hc hh hr8 hg hm hnm (cn + 1) 0 _ _ (by omega) (by omega) (fun k h => absurd h (by omega)) _ _ ls hw (lv_sub hl [0, 1, 2] rfl)

set_option maxHeartbeats 4000000 in
set_option maxRecDepth 100000 in
theorem lp_Md_may {l : Launch} {D : va_G} {k : Nat → ClassId} {md : Nat} {za : Nat → Nat} {th cn ov sn kn fd : Nat} {cst : Int64} {co tb : Nat} {HN : Nat → Int32} {LR : Nat → Nat} {LP : Nat → Nat} {NE : Nat → Nat} {st h x : Nat} {g : Nat → Option Nat} (hc : cn ≤ 3) (hst : st < 512) (hh : h < 36) (hx8 : x < 8) (hlr : ∀ j, LR j ≤ 4 ∧ LP j ≤ 4) (hN : NE h ≤ 100000) (hgb : ∀ k v, g k = some v → v ≤ 100000) (hHN : ∀ k, k < cn → HN k = oI (g k)) {p : Program} {e : Env} {s : State} {m : MethodId} {below : List Frame} {meth : Method} {c : Code} {A : Nat → Prop} (hm : bM p s m (([.ref md, .int (nI st), .int (nI h), .int (nI x)] : List Value).toArray) meth c "HeatMachinesModel" b_Md_may 15 (some .boolean) (uw y_Md_may b_Md_may 15 (some .boolean))) (hnm : meth.name = "may") :
    ∀ (f : Nat) (i : Nat), cn + 1 ≤ i + f → i ≤ cn → ∀ (H : Heap) (locs : List Loc) (ls : Array Slot), bW (gU D k) A s H locs [(md, .inr (7, mdL za th cn ov sn kn fd cst co tb)), (za 26, .inl (k 0, 3, .inl HN)), (za 2, .inl (k 0, 3, .inl (fun j => nI (LR j)))), (za 3, .inl (k 0, 3, .inl (fun j => nI (LP j)))), (za 11, .inl (k 0, 36, .inl (fun j => nI (NE j))))] → lv_has ls 15 [(7, .int (nI i)), (4, .int (bI (gdR g LR LP st x i))), (5, .long (lN (hsR g x i))), (0, .ref md), (1, .int (nI st)), (2, .int (nI h)), (3, .int (nI x))] → W p l e (rU 1 0 0) s m (([.ref md, .int (nI st), .int (nI h), .int (nI x)] : List Value).toArray) below meth c H locs 0 0 (MQ below (va_Qi (fun (r : Int32) (_ : Unit) => r = bI (mayR g LR LP cn (NE h) st x)) (fun u => bQ (gU D k) A ([(md, .inr (7, mdL za th cn ov sn kn fd cst co tb)), (za 26, .inl (k 0, 3, .inl HN)), (za 2, .inl (k 0, 3, .inl (fun j => nI (LR j)))), (za 3, .inl (k 0, 3, .inl (fun j => nI (LP j)))), (za 11, .inl (k 0, 36, .inl (fun j => nI (NE j))))])) A) (([.ref md, .int (nI st), .int (nI h), .int (nI x)] : List Value).toArray) s (rU 1 0 0).cells (rU 1 0 0).slots A) (F0 m 9 ls []) := by
  have hx := hm.1
  have hb := hm.2.1
  have hown := hm.2.2.2.2.1
  have hts := hm.2.2.2.2.2.1
  intro f
  induction f with
  | zero => intro i hf hi; exfalso; omega
  | succ f ih =>
    intro i hf hi H locs ls hw hl
    refine lv_iload hx hb d_Md_may_9 (lv_at hl 0 rfl) ?_
    refine lv_aload_n hx hb d_Md_may_11 rfl (lv_at hl 3 rfl) ?_
    refine b_get (T := F_Md) hm hw 0 rfl rfl (fun w h => uw_of w (u_Md w h)) 1 (by decide) (uw_of _ k_609) rfl d_Md_may_12 ?_
    refine lv_icmp_ge (tgt := 185) hx hb d_Md_may_15 (by decide) (fun c_15_0 => ?_) (fun c_15_0 => ?_)
    · skip
      have h_15_0 : cn ≤ i := yge c_15_0 (by omega) (by omega)
      refine b_mg (pc' := 208) (st' := [.int (bI (gdR g LR LP st x i && decide (NE h ≤ hsR g x i)))]) ?_ (fun kmg => ?_)
      · skip
        exact b_zret () hm hw (bI_or _) (by rw [show i = cn by omega]; rfl) d_Md_may_208
      · skip
        refine lv_iload hx hb d_Md_may_185 (lv_at hl 1 rfl) ?_
        refine lv_if_eq (tgt := 207) hx hb d_Md_may_187 (by decide) (fun c_187_1 => ?_) (fun c_187_1 => ?_)
        · skip
          have h_187_1 : (gdR g LR LP st x i) = false := bI_0.mp c_187_1
          refine lv_iconst (v := nI 0) hx hb d_Md_may_207 (by decide) ?_
          exact b_ti (x := nI 0) (y := bI (gdR g LR LP st x i && decide (NE h ≤ hsR g x i))) (congrArg bI (show false = (gdR g LR LP st x i && decide (NE h ≤ hsR g x i)) by simp [h_187_1])) kmg
        · skip
          have h_187_1 : (gdR g LR LP st x i) = true := bI_t c_187_1
          refine lv_lload hx hb d_Md_may_190 (lv_at hl 2 rfl) ?_
          have hle := hsR_le hgb x i
          refine lv_aload_n hx hb d_Md_may_192 rfl (lv_at hl 3 rfl) ?_
          refine b_get (T := F_Md) hm hw 0 rfl rfl (fun w h => uw_of w (u_Md w h)) 11 (by decide) (uw_of _ k_619) rfl d_Md_may_193 ?_
          refine lv_iload_n hx hb d_Md_may_196 rfl (lv_at hl 5 rfl) ?_
          refine b_iald (i := h) hm hw 4 0 rfl rfl (by omega) (by omega) d_Md_may_197 ?_
          refine b_ti (show (fun j => nI (NE j)) h = nI (NE h) from rfl) ?_
          refine lv_i2l (v := lN (NE h)) hx hb d_Md_may_198 (nI_l (by omega)) ?_
          refine W.lcmp hx hb d_Md_may_199 ?_
          refine lv_if_lt (tgt := 207) hx hb d_Md_may_200 (by decide) (fun c_200_2 => ?_) (fun c_200_2 => ?_)
          · skip
            refine lv_iconst (v := nI 0) hx hb d_Md_may_207 (by decide) ?_
            exact b_ti (x := nI 0) (y := bI (gdR g LR LP st x i && decide (NE h ≤ hsR g x i))) (congrArg bI (show false = (gdR g LR LP st x i && decide (NE h ≤ hsR g x i)) by rw [show decide (NE h ≤ hsR g x i) = false from decide_eq_false (fun q9 => absurd ((lg_ge (by omega) (by omega)).mpr q9) (by first | assumption | exact Int32.not_le.mpr (by assumption))), h_187_1]; rfl)) kmg
          · skip
            refine lv_iconst (v := nI 1) hx hb d_Md_may_203 (by decide) ?_
            refine lv_goto (tgt := 208) hx hb d_Md_may_204 (by decide) ?_
            exact b_ti (x := nI 1) (y := bI (gdR g LR LP st x i && decide (NE h ≤ hsR g x i))) (congrArg bI (show true = (gdR g LR LP st x i && decide (NE h ≤ hsR g x i)) by rw [show decide (NE h ≤ hsR g x i) = true from decide_eq_true ((lg_ge (by omega) (by omega)).mp (by first | exact Int32.not_lt.mp (by assumption) | assumption)), h_187_1]; rfl)) kmg
    · skip
      have h_15_0 : i < cn := yltN c_15_0 (by omega) (by omega)
      refine lv_aload_n hx hb d_Md_may_18 rfl (lv_at hl 3 rfl) ?_
      refine b_get (T := F_Md) hm hw 0 rfl rfl (fun w h => uw_of w (u_Md w h)) 26 (by decide) (uw_of _ k_634) rfl d_Md_may_19 ?_
      refine lv_iload hx hb d_Md_may_22 (lv_at hl 0 rfl) ?_
      refine b_iald (i := i) hm hw 1 0 rfl rfl (by omega) (by omega) d_Md_may_24 ?_
      refine b_ti (y := oI (g i)) (hHN i (by omega)) ?_
      refine lv_istore (lv' := [(8, .int (oI (g i))), (7, .int (nI i)), (4, .int (bI (gdR g LR LP st x i))), (5, .long (lN (hsR g x i))), (0, .ref md), (1, .int (nI st)), (2, .int (nI h)), (3, .int (nI x))]) hx hb d_Md_may_25  hl (by decide) rfl (fun ls hl => ?_)
      refine b_mg (pc' := 38) (st' := [.int (bI ((g i).isSome))]) ?_ (fun kmg => ?_)
      · skip
        refine lv_istore (lv' := [(9, .int (bI ((g i).isSome))), (8, .int (oI (g i))), (7, .int (nI i)), (4, .int (bI (gdR g LR LP st x i))), (5, .long (lN (hsR g x i))), (0, .ref md), (1, .int (nI st)), (2, .int (nI h)), (3, .int (nI x))]) hx hb d_Md_may_38  hl (by decide) rfl (fun ls hl => ?_)
        refine lv_iload_n hx hb d_Md_may_40 rfl (lv_at hl 6 rfl) ?_
        refine lv_iload hx hb d_Md_may_41 (lv_at hl 2 rfl) ?_
        refine b_goi (wr := [(md, .inr (7, mdL za th cn ov sn kn fd cst co tb)), (za 26, .inl (k 0, 3, .inl HN)), (za 2, .inl (k 0, 3, .inl (fun j => nI (LR j)))), (za 3, .inl (k 0, 3, .inl (fun j => nI (LP j)))), (za 11, .inl (k 0, 36, .inl (fun j => nI (NE j))))]) (b_runS (wc := []) (As := [.int (nI st), .int (nI i)]) (rest := []) hm hw (va_cwS 2 hts (gS2 uw_of k_788 k_786 k_787 k_9) rfl rfl rfl (by decide +kernel) ⟨by decide, by decide⟩) (c_Md_standOf l D k _ st i (by omega) (by omega)) [] (by decide) rfl rfl hl.1 rfl (Nat.le_of_ble_eq_true rfl) d_Md_may_43 ⟨by decide, by decide⟩) hw [] [0, 1, 2, 3, 4] rfl rfl (by decide) (by decide) (fun r43 _ H locs hp43 hw => ?_)
        have hw : bW (gU D k) A s H locs [(md, .inr (7, mdL za th cn ov sn kn fd cst co tb)), (za 26, .inl (k 0, 3, .inl HN)), (za 2, .inl (k 0, 3, .inl (fun j => nI (LR j)))), (za 3, .inl (k 0, 3, .inl (fun j => nI (LP j)))), (za 11, .inl (k 0, 36, .inl (fun j => nI (NE j))))] := hw.sub [0, 1, 2, 3, 4] (by decide) rfl
        refine b_ti hp43 ?_
        have hdl := dg_lt st i
        refine lv_istore (lv' := [(10, .int (nI (dg st i))), (9, .int (bI ((g i).isSome))), (8, .int (oI (g i))), (7, .int (nI i)), (4, .int (bI (gdR g LR LP st x i))), (5, .long (lN (hsR g x i))), (0, .ref md), (1, .int (nI st)), (2, .int (nI h)), (3, .int (nI x))]) hx hb d_Md_may_46  hl (by decide) rfl (fun ls hl => ?_)
        refine lv_iload hx hb d_Md_may_48 (lv_at hl 0 rfl) ?_
        refine lv_iconst (v := nI 4) hx hb d_Md_may_50 (by decide) ?_
        refine lv_irem hx hb d_Md_may_51 (by first | assumption | decide) ?_
        refine b_ti (pk_rem (a := dg st i) (d := 4) (by omega) (by omega) (by omega)) ?_
        refine lv_iconst (v := nI 1) hx hb d_Md_may_52 (by decide) ?_
        refine lv_iadd hx hb d_Md_may_53 ?_
        refine b_ti (nI_add ((dg st i) % 4) 1) ?_
        refine lv_istore (lv' := [(11, .int (nI ((dg st i) % 4 + 1))), (10, .int (nI (dg st i))), (9, .int (bI ((g i).isSome))), (8, .int (oI (g i))), (7, .int (nI i)), (4, .int (bI (gdR g LR LP st x i))), (5, .long (lN (hsR g x i))), (0, .ref md), (1, .int (nI st)), (2, .int (nI h)), (3, .int (nI x))]) hx hb d_Md_may_54  hl (by decide) rfl (fun ls hl => ?_)
        refine lv_iload_n hx hb d_Md_may_56 rfl (lv_at hl 10 rfl) ?_
        refine lv_iload hx hb d_Md_may_57 (lv_at hl 4 rfl) ?_
        refine b_goi (wr := [(md, .inr (7, mdL za th cn ov sn kn fd cst co tb)), (za 26, .inl (k 0, 3, .inl HN)), (za 2, .inl (k 0, 3, .inl (fun j => nI (LR j)))), (za 3, .inl (k 0, 3, .inl (fun j => nI (LP j)))), (za 11, .inl (k 0, 36, .inl (fun j => nI (NE j))))]) (b_runS (wc := []) (As := [.int (nI x), .int (nI i)]) (rest := []) hm hw (va_cwS 2 hts (gS2 uw_of k_791 k_789 k_790 k_9) rfl rfl rfl (by decide +kernel) ⟨by decide, by decide⟩) (c_Md_runs l D k _ x i (by omega) (by omega)) [] (by decide) rfl rfl hl.1 rfl (Nat.le_of_ble_eq_true rfl) d_Md_may_59 ⟨by decide, by decide⟩) hw [] [0, 1, 2, 3, 4] rfl rfl (by decide) (by decide) (fun r59 _ H locs hp59 hw => ?_)
        have hw : bW (gU D k) A s H locs [(md, .inr (7, mdL za th cn ov sn kn fd cst co tb)), (za 26, .inl (k 0, 3, .inl HN)), (za 2, .inl (k 0, 3, .inl (fun j => nI (LR j)))), (za 3, .inl (k 0, 3, .inl (fun j => nI (LP j)))), (za 11, .inl (k 0, 36, .inl (fun j => nI (NE j))))] := hw.sub [0, 1, 2, 3, 4] (by decide) rfl
        refine b_ti hp59 ?_
        refine lv_istore (lv' := [(12, .int (bI (on x i))), (11, .int (nI ((dg st i) % 4 + 1))), (10, .int (nI (dg st i))), (9, .int (bI ((g i).isSome))), (8, .int (oI (g i))), (7, .int (nI i)), (4, .int (bI (gdR g LR LP st x i))), (5, .long (lN (hsR g x i))), (0, .ref md), (1, .int (nI st)), (2, .int (nI h)), (3, .int (nI x))]) hx hb d_Md_may_62  hl (by decide) rfl (fun ls hl => ?_)
        have hlri := hlr i
        refine b_mg (pc' := 87) (st' := [.int (bI (decide (4 ≤ dg st i ∧ dg st i % 4 + 1 < LR i)))]) ?_ (fun kmg => ?_)
        · skip
          refine lv_istore (lv' := [(13, .int (bI (decide (4 ≤ dg st i ∧ dg st i % 4 + 1 < LR i)))), (12, .int (bI (on x i))), (11, .int (nI ((dg st i) % 4 + 1))), (10, .int (nI (dg st i))), (9, .int (bI ((g i).isSome))), (8, .int (oI (g i))), (7, .int (nI i)), (4, .int (bI (gdR g LR LP st x i))), (5, .long (lN (hsR g x i))), (0, .ref md), (1, .int (nI st)), (2, .int (nI h)), (3, .int (nI x))]) hx hb d_Md_may_87  hl (by decide) rfl (fun ls hl => ?_)
          have hlri := hlr i
          refine b_mg (pc' := 112) (st' := [.int (bI (decide (dg st i < 4 ∧ dg st i % 4 + 1 < LP i)))]) ?_ (fun kmg => ?_)
          · skip
            refine lv_istore (lv' := [(14, .int (bI (decide (dg st i < 4 ∧ dg st i % 4 + 1 < LP i)))), (13, .int (bI (decide (4 ≤ dg st i ∧ dg st i % 4 + 1 < LR i)))), (12, .int (bI (on x i))), (11, .int (nI ((dg st i) % 4 + 1))), (10, .int (nI (dg st i))), (9, .int (bI ((g i).isSome))), (8, .int (oI (g i))), (7, .int (nI i)), (4, .int (bI (gdR g LR LP st x i))), (5, .long (lN (hsR g x i))), (0, .ref md), (1, .int (nI st)), (2, .int (nI h)), (3, .int (nI x))]) hx hb d_Md_may_112  hl (by decide) rfl (fun ls hl => ?_)
            refine b_mg (pc' := 155) (st' := [.int (bI (gdR g LR LP st x i && alR (g i) (LR i) (LP i) (dg st i) (on x i)))]) ?_ (fun kmg => ?_)
            · skip
              refine lv_istore (lv' := [(4, .int (bI (gdR g LR LP st x i && alR (g i) (LR i) (LP i) (dg st i) (on x i)))), (14, .int (bI (decide (dg st i < 4 ∧ dg st i % 4 + 1 < LP i)))), (13, .int (bI (decide (4 ≤ dg st i ∧ dg st i % 4 + 1 < LR i)))), (12, .int (bI (on x i))), (11, .int (nI ((dg st i) % 4 + 1))), (10, .int (nI (dg st i))), (9, .int (bI ((g i).isSome))), (8, .int (oI (g i))), (7, .int (nI i)), (5, .long (lN (hsR g x i))), (0, .ref md), (1, .int (nI st)), (2, .int (nI h)), (3, .int (nI x))]) hx hb d_Md_may_155  hl (by decide) rfl (fun ls hl => ?_)
              refine lv_lload hx hb d_Md_may_157 (lv_at hl 9 rfl) ?_
              refine b_mg (pc' := 176) (st' := [.long (lN (if on x i && (g i).isSome then (g i).getD 0 else 0)), .long (lN (hsR g x i))]) ?_ (fun kmg => ?_)
              · skip
                refine lv_ladd hx hb d_Md_may_176 ?_
                refine b_tl (lN_add (hsR g x i) (if on x i && (g i).isSome then (g i).getD 0 else 0)) ?_
                refine lv_lstore (lv' := [(5, .long (lN ((hsR g x i) + (if on x i && (g i).isSome then (g i).getD 0 else 0)))), (4, .int (bI (gdR g LR LP st x i && alR (g i) (LR i) (LP i) (dg st i) (on x i)))), (14, .int (bI (decide (dg st i < 4 ∧ dg st i % 4 + 1 < LP i)))), (13, .int (bI (decide (4 ≤ dg st i ∧ dg st i % 4 + 1 < LR i)))), (12, .int (bI (on x i))), (11, .int (nI ((dg st i) % 4 + 1))), (10, .int (nI (dg st i))), (9, .int (bI ((g i).isSome))), (8, .int (oI (g i))), (7, .int (nI i)), (0, .ref md), (1, .int (nI st)), (2, .int (nI h)), (3, .int (nI x))]) hx hb d_Md_may_177  hl (by decide) rfl (fun ls hl => ?_)
                refine lv_iinc (v := nI (i + 1)) (lv' := [(7, .int (nI (i + 1))), (5, .long (lN ((hsR g x i) + (if on x i && (g i).isSome then (g i).getD 0 else 0)))), (4, .int (bI (gdR g LR LP st x i && alR (g i) (LR i) (LP i) (dg st i) (on x i)))), (14, .int (bI (decide (dg st i < 4 ∧ dg st i % 4 + 1 < LP i)))), (13, .int (bI (decide (4 ≤ dg st i ∧ dg st i % 4 + 1 < LR i)))), (12, .int (bI (on x i))), (11, .int (nI ((dg st i) % 4 + 1))), (10, .int (nI (dg st i))), (9, .int (bI ((g i).isSome))), (8, .int (oI (g i))), (0, .ref md), (1, .int (nI st)), (2, .int (nI h)), (3, .int (nI x))]) hx hb d_Md_may_179 hl (k := 9) rfl (nI_add i 1) (by decide) rfl (fun ls hl => ?_)
                refine lv_goto (tgt := 9) hx hb d_Md_may_182 (by decide) ?_
                exact ih (i + 1) (by omega) (by omega) H locs ls hw (lv_sub hl [0, 2, 1, 10, 11, 12, 13] rfl)
              · skip
                refine lv_iload hx hb d_Md_may_159 (lv_at hl 3 rfl) ?_
                refine lv_if_eq (tgt := 175) hx hb d_Md_may_161 (by decide) (fun c_161_3 => ?_) (fun c_161_3 => ?_)
                · skip
                  have h_161_3 : (on x i) = false := bI_0.mp c_161_3
                  refine lv_lconst (v := 0) hx hb d_Md_may_175 (by decide) ?_
                  exact b_tl (x := 0) (y := lN (if on x i && (g i).isSome then (g i).getD 0 else 0)) (show (0 : Int64) = lN (if on x i && (g i).isSome then (g i).getD 0 else 0) by rw [if_neg (by simp [h_161_3])]; rfl) kmg
                · skip
                  have h_161_3 : (on x i) = true := bI_t c_161_3
                  refine lv_iload hx hb d_Md_may_164 (lv_at hl 6 rfl) ?_
                  refine lv_if_eq (tgt := 175) hx hb d_Md_may_166 (by decide) (fun c_166_4 => ?_) (fun c_166_4 => ?_)
                  · skip
                    have h_166_4 : ((g i).isSome) = false := bI_0.mp c_166_4
                    refine lv_lconst (v := 0) hx hb d_Md_may_175 (by decide) ?_
                    exact b_tl (x := 0) (y := lN (if on x i && (g i).isSome then (g i).getD 0 else 0)) (show (0 : Int64) = lN (if on x i && (g i).isSome then (g i).getD 0 else 0) by rw [if_neg (by simp [h_161_3, h_166_4])]; rfl) kmg
                  · skip
                    have h_166_4 : ((g i).isSome) = true := bI_t c_166_4
                    refine lv_iload hx hb d_Md_may_169 (lv_at hl 7 rfl) ?_
                    refine b_ti (y := nI ((g i).getD 0)) (oI_some h_166_4) ?_
                    have hgd : (g i).getD 0 ≤ 100000 := by cases h9 : g i; simp; exact hgb i _ h9
                    refine lv_i2l (v := lN ((g i).getD 0)) hx hb d_Md_may_171 (nI_l (by omega)) ?_
                    refine lv_goto (tgt := 176) hx hb d_Md_may_172 (by decide) ?_
                    exact b_tl (x := lN ((g i).getD 0)) (y := lN (if on x i && (g i).isSome then (g i).getD 0 else 0)) (congrArg lN (by simp [h_161_3, h_166_4])) kmg
            · skip
              refine lv_iload hx hb d_Md_may_114 (lv_at hl 8 rfl) ?_
              refine lv_if_eq (tgt := 154) hx hb d_Md_may_116 (by decide) (fun c_116_5 => ?_) (fun c_116_5 => ?_)
              · skip
                have h_116_5 : (gdR g LR LP st x i) = false := bI_0.mp c_116_5
                refine lv_iconst (v := nI 0) hx hb d_Md_may_154 (by decide) ?_
                exact b_ti (x := nI 0) (y := bI (gdR g LR LP st x i && alR (g i) (LR i) (LP i) (dg st i) (on x i))) (congrArg bI (show false = (gdR g LR LP st x i && alR (g i) (LR i) (LP i) (dg st i) (on x i)) by unfold alR; simp [-decide_eq_true_eq, -decide_eq_false_iff_not, -Bool.decide_and, h_116_5])) kmg
              · skip
                have h_116_5 : (gdR g LR LP st x i) = true := bI_t c_116_5
                refine lv_iload hx hb d_Md_may_119 (lv_at hl 5 rfl) ?_
                refine lv_if_eq (tgt := 145) hx hb d_Md_may_121 (by decide) (fun c_121_6 => ?_) (fun c_121_6 => ?_)
                · skip
                  have h_121_6 : ((g i).isSome) = false := bI_0.mp c_121_6
                  refine lv_iload hx hb d_Md_may_145 (lv_at hl 2 rfl) ?_
                  refine lv_if_ne (tgt := 154) hx hb d_Md_may_147 (by decide) (fun c_147_7 => ?_) (fun c_147_7 => ?_)
                  · skip
                    have h_147_7 : (on x i) = true := bI_t c_147_7
                    refine lv_iconst (v := nI 0) hx hb d_Md_may_154 (by decide) ?_
                    exact b_ti (x := nI 0) (y := bI (gdR g LR LP st x i && alR (g i) (LR i) (LP i) (dg st i) (on x i))) (congrArg bI (show false = (gdR g LR LP st x i && alR (g i) (LR i) (LP i) (dg st i) (on x i)) by unfold alR; simp [-decide_eq_true_eq, -decide_eq_false_iff_not, -Bool.decide_and, h_116_5, h_121_6, h_147_7])) kmg
                  · skip
                    have h_147_7 : (on x i) = false := bI_0.mp c_147_7
                    refine lv_iconst (v := nI 1) hx hb d_Md_may_150 (by decide) ?_
                    refine lv_goto (tgt := 155) hx hb d_Md_may_151 (by decide) ?_
                    exact b_ti (x := nI 1) (y := bI (gdR g LR LP st x i && alR (g i) (LR i) (LP i) (dg st i) (on x i))) (congrArg bI (show true = (gdR g LR LP st x i && alR (g i) (LR i) (LP i) (dg st i) (on x i)) by unfold alR; simp [-decide_eq_true_eq, -decide_eq_false_iff_not, -Bool.decide_and, h_116_5, h_121_6, h_147_7])) kmg
                · skip
                  have h_121_6 : ((g i).isSome) = true := bI_t c_121_6
                  refine lv_iload hx hb d_Md_may_124 (lv_at hl 2 rfl) ?_
                  refine lv_if_eq (tgt := 137) hx hb d_Md_may_126 (by decide) (fun c_126_8 => ?_) (fun c_126_8 => ?_)
                  · skip
                    have h_126_8 : (on x i) = false := bI_0.mp c_126_8
                    refine lv_iload hx hb d_Md_may_137 (lv_at hl 1 rfl) ?_
                    refine lv_if_ne (tgt := 154) hx hb d_Md_may_139 (by decide) (fun c_139_9 => ?_) (fun c_139_9 => ?_)
                    · skip
                      have h_139_9 : (decide (4 ≤ dg st i ∧ dg st i % 4 + 1 < LR i)) = true := bI_t c_139_9
                      refine lv_iconst (v := nI 0) hx hb d_Md_may_154 (by decide) ?_
                      exact b_ti (x := nI 0) (y := bI (gdR g LR LP st x i && alR (g i) (LR i) (LP i) (dg st i) (on x i))) (congrArg bI (show false = (gdR g LR LP st x i && alR (g i) (LR i) (LP i) (dg st i) (on x i)) by unfold alR; simp [-decide_eq_true_eq, -decide_eq_false_iff_not, -Bool.decide_and, h_116_5, h_121_6, h_126_8, h_139_9])) kmg
                    · skip
                      have h_139_9 : (decide (4 ≤ dg st i ∧ dg st i % 4 + 1 < LR i)) = false := bI_0.mp c_139_9
                      refine lv_goto (tgt := 150) hx hb d_Md_may_142 (by decide) ?_
                      refine lv_iconst (v := nI 1) hx hb d_Md_may_150 (by decide) ?_
                      refine lv_goto (tgt := 155) hx hb d_Md_may_151 (by decide) ?_
                      exact b_ti (x := nI 1) (y := bI (gdR g LR LP st x i && alR (g i) (LR i) (LP i) (dg st i) (on x i))) (congrArg bI (show true = (gdR g LR LP st x i && alR (g i) (LR i) (LP i) (dg st i) (on x i)) by unfold alR; simp [-decide_eq_true_eq, -decide_eq_false_iff_not, -Bool.decide_and, h_116_5, h_121_6, h_126_8, h_139_9])) kmg
                  · skip
                    have h_126_8 : (on x i) = true := bI_t c_126_8
                    refine lv_iload hx hb d_Md_may_129 (lv_at hl 0 rfl) ?_
                    refine lv_if_ne (tgt := 154) hx hb d_Md_may_131 (by decide) (fun c_131_10 => ?_) (fun c_131_10 => ?_)
                    · skip
                      have h_131_10 : (decide (dg st i < 4 ∧ dg st i % 4 + 1 < LP i)) = true := bI_t c_131_10
                      refine lv_iconst (v := nI 0) hx hb d_Md_may_154 (by decide) ?_
                      exact b_ti (x := nI 0) (y := bI (gdR g LR LP st x i && alR (g i) (LR i) (LP i) (dg st i) (on x i))) (congrArg bI (show false = (gdR g LR LP st x i && alR (g i) (LR i) (LP i) (dg st i) (on x i)) by unfold alR; simp [-decide_eq_true_eq, -decide_eq_false_iff_not, -Bool.decide_and, h_116_5, h_121_6, h_126_8, h_131_10])) kmg
                    · skip
                      have h_131_10 : (decide (dg st i < 4 ∧ dg st i % 4 + 1 < LP i)) = false := bI_0.mp c_131_10
                      refine lv_goto (tgt := 150) hx hb d_Md_may_134 (by decide) ?_
                      refine lv_iconst (v := nI 1) hx hb d_Md_may_150 (by decide) ?_
                      refine lv_goto (tgt := 155) hx hb d_Md_may_151 (by decide) ?_
                      exact b_ti (x := nI 1) (y := bI (gdR g LR LP st x i && alR (g i) (LR i) (LP i) (dg st i) (on x i))) (congrArg bI (show true = (gdR g LR LP st x i && alR (g i) (LR i) (LP i) (dg st i) (on x i)) by unfold alR; simp [-decide_eq_true_eq, -decide_eq_false_iff_not, -Bool.decide_and, h_116_5, h_121_6, h_126_8, h_131_10])) kmg
          · skip
            have hlri := hlr i
            refine lv_iload hx hb d_Md_may_89 (lv_at hl 3 rfl) ?_
            refine lv_iconst (v := nI 4) hx hb d_Md_may_91 (by decide) ?_
            refine lv_icmp_ge (tgt := 111) hx hb d_Md_may_92 (by decide) (fun c_92_11 => ?_) (fun c_92_11 => ?_)
            · skip
              have h_92_11 : 4 ≤ (dg st i) := yge c_92_11 (by omega) (by omega)
              refine lv_iconst (v := nI 0) hx hb d_Md_may_111 (by decide) ?_
              exact b_ti (x := nI 0) (y := bI (decide (dg st i < 4 ∧ dg st i % 4 + 1 < LP i))) (congrArg bI (show false = (decide (dg st i < 4 ∧ dg st i % 4 + 1 < LP i)) from (decide_eq_false (by omega)).symm)) kmg
            · skip
              have h_92_11 : (dg st i) < 4 := yltN c_92_11 (by omega) (by omega)
              refine lv_iload hx hb d_Md_may_95 (lv_at hl 2 rfl) ?_
              refine lv_aload_n hx hb d_Md_may_97 rfl (lv_at hl 9 rfl) ?_
              refine b_get (T := F_Md) hm hw 0 rfl rfl (fun w h => uw_of w (u_Md w h)) 3 (by decide) (uw_of _ k_611) rfl d_Md_may_98 ?_
              refine lv_iload hx hb d_Md_may_101 (lv_at hl 6 rfl) ?_
              refine b_iald (i := i) hm hw 3 0 rfl rfl (by omega) (by omega) d_Md_may_103 ?_
              refine b_ti (show (fun j => nI (LP j)) i = nI (LP i) from rfl) ?_
              refine lv_icmp_ge (tgt := 111) hx hb d_Md_may_104 (by decide) (fun c_104_12 => ?_) (fun c_104_12 => ?_)
              · skip
                have h_104_12 : (LP i) ≤ ((dg st i) % 4 + 1) := yge c_104_12 (by omega) (by omega)
                refine lv_iconst (v := nI 0) hx hb d_Md_may_111 (by decide) ?_
                exact b_ti (x := nI 0) (y := bI (decide (dg st i < 4 ∧ dg st i % 4 + 1 < LP i))) (congrArg bI (show false = (decide (dg st i < 4 ∧ dg st i % 4 + 1 < LP i)) from (decide_eq_false (by omega)).symm)) kmg
              · skip
                have h_104_12 : ((dg st i) % 4 + 1) < (LP i) := yltN c_104_12 (by omega) (by omega)
                refine lv_iconst (v := nI 1) hx hb d_Md_may_107 (by decide) ?_
                refine lv_goto (tgt := 112) hx hb d_Md_may_108 (by decide) ?_
                exact b_ti (x := nI 1) (y := bI (decide (dg st i < 4 ∧ dg st i % 4 + 1 < LP i))) (congrArg bI (show true = (decide (dg st i < 4 ∧ dg st i % 4 + 1 < LP i)) from (decide_eq_true (by omega)).symm)) kmg
        · skip
          have hlri := hlr i
          refine lv_iload hx hb d_Md_may_64 (lv_at hl 2 rfl) ?_
          refine lv_iconst (v := nI 4) hx hb d_Md_may_66 (by decide) ?_
          refine lv_icmp_lt (tgt := 86) hx hb d_Md_may_67 (by decide) (fun c_67_13 => ?_) (fun c_67_13 => ?_)
          · skip
            have h_67_13 : (dg st i) < 4 := ylt c_67_13 (by omega) (by omega)
            refine lv_iconst (v := nI 0) hx hb d_Md_may_86 (by decide) ?_
            exact b_ti (x := nI 0) (y := bI (decide (4 ≤ dg st i ∧ dg st i % 4 + 1 < LR i))) (congrArg bI (show false = (decide (4 ≤ dg st i ∧ dg st i % 4 + 1 < LR i)) from (decide_eq_false (by omega)).symm)) kmg
          · skip
            have h_67_13 : 4 ≤ (dg st i) := ygeN c_67_13 (by omega) (by omega)
            refine lv_iload hx hb d_Md_may_70 (lv_at hl 1 rfl) ?_
            refine lv_aload_n hx hb d_Md_may_72 rfl (lv_at hl 8 rfl) ?_
            refine b_get (T := F_Md) hm hw 0 rfl rfl (fun w h => uw_of w (u_Md w h)) 2 (by decide) (uw_of _ k_610) rfl d_Md_may_73 ?_
            refine lv_iload hx hb d_Md_may_76 (lv_at hl 5 rfl) ?_
            refine b_iald (i := i) hm hw 2 0 rfl rfl (by omega) (by omega) d_Md_may_78 ?_
            refine b_ti (show (fun j => nI (LR j)) i = nI (LR i) from rfl) ?_
            refine lv_icmp_ge (tgt := 86) hx hb d_Md_may_79 (by decide) (fun c_79_14 => ?_) (fun c_79_14 => ?_)
            · skip
              have h_79_14 : (LR i) ≤ ((dg st i) % 4 + 1) := yge c_79_14 (by omega) (by omega)
              refine lv_iconst (v := nI 0) hx hb d_Md_may_86 (by decide) ?_
              exact b_ti (x := nI 0) (y := bI (decide (4 ≤ dg st i ∧ dg st i % 4 + 1 < LR i))) (congrArg bI (show false = (decide (4 ≤ dg st i ∧ dg st i % 4 + 1 < LR i)) from (decide_eq_false (by omega)).symm)) kmg
            · skip
              have h_79_14 : ((dg st i) % 4 + 1) < (LR i) := yltN c_79_14 (by omega) (by omega)
              refine lv_iconst (v := nI 1) hx hb d_Md_may_82 (by decide) ?_
              refine lv_goto (tgt := 87) hx hb d_Md_may_83 (by decide) ?_
              exact b_ti (x := nI 1) (y := bI (decide (4 ≤ dg st i ∧ dg st i % 4 + 1 < LR i))) (congrArg bI (show true = (decide (4 ≤ dg st i ∧ dg st i % 4 + 1 < LR i)) from (decide_eq_true (by omega)).symm)) kmg
      · skip
        refine lv_iload hx hb d_Md_may_27 (lv_at hl 0 rfl) ?_
        refine lv_iconst (v := (-1)) hx hb d_Md_may_29 (by decide) ?_
        refine lv_icmp_eq (tgt := 37) hx hb d_Md_may_30 (by decide) (fun c_30_15 => ?_) (fun c_30_15 => ?_)
        · skip
          refine lv_iconst (v := nI 0) hx hb d_Md_may_37 (by decide) ?_
          exact b_ti (x := nI 0) (y := bI ((g i).isSome)) (congrArg bI (show false = (g i).isSome from ((oI_none (hgb i)).mp (by assumption)).symm)) kmg
        · skip
          refine lv_iconst (v := nI 1) hx hb d_Md_may_33 (by decide) ?_
          refine lv_goto (tgt := 38) hx hb d_Md_may_34 (by decide) ?_
          exact b_ti (x := nI 1) (y := bI ((g i).isSome)) (congrArg bI (show true = (g i).isSome from (by cases h9 : (g i).isSome; exact absurd ((oI_none (hgb i)).mpr h9) (by assumption); rfl))) kmg

set_option maxHeartbeats 4000000 in
set_option maxRecDepth 100000 in
theorem c_Md_may (l : Launch) (D : va_G) (k : Nat → ClassId) (sz : Nat) (md : Nat) (za : Nat → Nat) (th cn ov sn kn fd : Nat) (cst : Int64) (co tb : Nat) (HN : Nat → Int32) (LR : Nat → Nat) (LP : Nat → Nat) (NE : Nat → Nat) (st h x : Nat) (g : Nat → Option Nat) (hc : cn ≤ 3) (hst : st < 512) (hh : h < 36) (hx8 : x < 8) (hlr : ∀ j, LR j ≤ 4 ∧ LP j ≤ 4) (hN : NE h ≤ 100000) (hgb : ∀ k v, g k = some v → v ≤ 100000) (hHN : ∀ k, k < cn → HN k = oI (g k)) : Met l y_Md_may (uw y_Md_may b_Md_may 15 (some .boolean)) (rU 1 0 0) (va_Pc [.ref md, .int (nI st), .int (nI h), .int (nI x)] (bP (gU D k) [(md, .inr (7, mdL za th cn ov sn kn fd cst co tb)), (za 26, .inl (k 0, 3, .inl HN)), (za 2, .inl (k 0, 3, .inl (fun j => nI (LR j)))), (za 3, .inl (k 0, 3, .inl (fun j => nI (LP j)))), (za 11, .inl (k 0, 36, .inl (fun j => nI (NE j))))] sz)) (va_Qi (fun (r : Int32) (_ : Unit) => r = bI (mayR g LR LP cn (NE h) st x)) (fun u => bQ (gU D k) (va_A [(md, .inr (7, mdL za th cn ov sn kn fd cst co tb)), (za 26, .inl (k 0, 3, .inl HN)), (za 2, .inl (k 0, 3, .inl (fun j => nI (LR j)))), (za 3, .inl (k 0, 3, .inl (fun j => nI (LP j)))), (za 11, .inl (k 0, 36, .inl (fun j => nI (NE j))))] sz) ([(md, .inr (7, mdL za th cn ov sn kn fd cst co tb)), (za 26, .inl (k 0, 3, .inl HN)), (za 2, .inl (k 0, 3, .inl (fun j => nI (LR j)))), (za 3, .inl (k 0, 3, .inl (fun j => nI (LP j)))), (za 11, .inl (k 0, 36, .inl (fun j => nI (NE j))))])) (va_A [(md, .inr (7, mdL za th cn ov sn kn fd cst co tb)), (za 26, .inl (k 0, 3, .inl HN)), (za 2, .inl (k 0, 3, .inl (fun j => nI (LR j)))), (za 3, .inl (k 0, 3, .inl (fun j => nI (LP j)))), (za 11, .inl (k 0, 36, .inl (fun j => nI (NE j))))] sz)) (rU 1 0 0).cells (rU 1 0 0).slots (va_A [(md, .inr (7, mdL za th cn ov sn kn fd cst co tb)), (za 26, .inl (k 0, 3, .inl HN)), (za 2, .inl (k 0, 3, .inl (fun j => nI (LR j)))), (za 3, .inl (k 0, 3, .inl (fun j => nI (LP j)))), (za 11, .inl (k 0, 36, .inl (fun j => nI (NE j))))] sz) := by
  refine b_start (y := y_Md_may) (maxL := 15) (ret := (some .boolean)) (cc := b_Md_may) (ws' := ut) (rm := rU 1 0 0) (av := [.ref md, .int (nI st), .int (nI h), .int (nI x)]) (g := gU D k) (ws := [(md, .inr (7, mdL za th cn ov sn kn fd cst co tb)), (za 26, .inl (k 0, 3, .inl HN)), (za 2, .inl (k 0, 3, .inl (fun j => nI (LR j)))), (za 3, .inl (k 0, 3, .inl (fun j => nI (LP j)))), (za 11, .inl (k 0, 36, .inl (fun j => nI (NE j))))]) (sz := sz) (Qc := fun A => va_Qi (fun (r : Int32) (_ : Unit) => r = bI (mayR g LR LP cn (NE h) st x)) (fun u => bQ (gU D k) A ([(md, .inr (7, mdL za th cn ov sn kn fd cst co tb)), (za 26, .inl (k 0, 3, .inl HN)), (za 2, .inl (k 0, 3, .inl (fun j => nI (LR j)))), (za 3, .inl (k 0, 3, .inl (fun j => nI (LP j)))), (za 11, .inl (k 0, 36, .inl (fun j => nI (NE j))))])) A) (by decide +kernel) (Nat.le_of_ble_eq_true rfl) ?_
  intro p e s m below meth c A hm hnm hw ls hl
  have hl : lv_has ls 15 [(0, .ref md), (1, .int (nI st)), (2, .int (nI h)), (3, .int (nI x))] := hl
  have hx := hm.1
  have hb := hm.2.1
  have hown := hm.2.2.2.2.1
  have hts := hm.2.2.2.2.2.1
  refine lv_iconst (v := nI 1) hx hb d_Md_may_0 (by decide) ?_
  refine lv_istore (lv' := [(4, .int (nI 1)), (0, .ref md), (1, .int (nI st)), (2, .int (nI h)), (3, .int (nI x))]) hx hb d_Md_may_1  hl (by decide) rfl (fun ls hl => ?_)
  refine lv_lconst (v := 0) hx hb d_Md_may_3 (by decide) ?_
  refine lv_lstore (lv' := [(5, .long 0), (4, .int (nI 1)), (0, .ref md), (1, .int (nI st)), (2, .int (nI h)), (3, .int (nI x))]) hx hb d_Md_may_4  hl (by decide) rfl (fun ls hl => ?_)
  refine lv_iconst (v := nI 0) hx hb d_Md_may_6 (by decide) ?_
  refine lv_istore (lv' := [(7, .int (nI 0)), (5, .long 0), (4, .int (nI 1)), (0, .ref md), (1, .int (nI st)), (2, .int (nI h)), (3, .int (nI x))]) hx hb d_Md_may_7  hl (by decide) rfl (fun ls hl => ?_)
  exact lp_Md_may hc hst hh hx8 hlr hN hgb hHN hm hnm (cn + 1) 0 (by omega) (by omega) _ _ ls hw (lv_sub hl [0, 2, 1, 3, 4, 5, 6] rfl)

set_option maxHeartbeats 4000000 in
set_option maxRecDepth 100000 in
theorem lp_Md_behind {l : Launch} {D : va_G} {k : Nat → ClassId} {md : Nat} {za : Nat → Nat} {th cn ov sn kn fd : Nat} {cst : Int64} {co tb : Nat} {st x : Nat} (hst : st < 512) (hx8 : x < 8) {p : Program} {e : Env} {s : State} {m : MethodId} {below : List Frame} {meth : Method} {c : Code} {A : Nat → Prop} (hm : bM p s m (([.ref md, .int (nI st), .int (nI x)] : List Value).toArray) meth c "HeatMachinesModel" b_Md_behind 8 (some .int) (uw y_Md_behind b_Md_behind 8 (some .int))) (hnm : meth.name = "behind") :
    ∀ (f : Nat) (i : Nat), 4 ≤ i + f → i ≤ 3 → ∀ (H : Heap) (locs : List Loc) (ls : Array Slot), bW (gU D k) A s H locs [(md, .inr (7, mdL za th cn ov sn kn fd cst co tb))] → lv_has ls 8 [(4, .int (nI i)), (3, .int (nI (bhR st x i))), (0, .ref md), (1, .int (nI st)), (2, .int (nI x))] → W p l e (rU 1 0 0) s m (([.ref md, .int (nI st), .int (nI x)] : List Value).toArray) below meth c H locs 0 0 (MQ below (va_Qi (fun (r : Int32) (_ : Unit) => r = nI (bhR st x 3)) (fun u => bQ (gU D k) A ([(md, .inr (7, mdL za th cn ov sn kn fd cst co tb))])) A) (([.ref md, .int (nI st), .int (nI x)] : List Value).toArray) s (rU 1 0 0).cells (rU 1 0 0).slots A) (F0 m 5 ls []) := by
  have hx := hm.1
  have hb := hm.2.1
  have hown := hm.2.2.2.2.1
  have hts := hm.2.2.2.2.2.1
  intro f
  induction f with
  | zero => intro i hf hi; exfalso; omega
  | succ f ih =>
    intro i hf hi H locs ls hw hl
    refine lv_iload hx hb d_Md_behind_5 (lv_at hl 0 rfl) ?_
    refine lv_iconst (v := nI 3) hx hb d_Md_behind_7 (by decide) ?_
    refine lv_icmp_ge (tgt := 108) hx hb d_Md_behind_8 (by decide) (fun c_8_0 => ?_) (fun c_8_0 => ?_)
    · skip
      have h_8_0 : 3 ≤ i := yge c_8_0 (by omega) (by omega)
      refine lv_iload_n hx hb d_Md_behind_108 rfl (lv_at hl 1 rfl) ?_
      exact b_iret () hm hw (by rw [show i = 3 by omega]) d_Md_behind_109
    · skip
      have h_8_0 : i < 3 := yltN c_8_0 (by omega) (by omega)
      refine lv_iload_n hx hb d_Md_behind_11 rfl (lv_at hl 3 rfl) ?_
      refine lv_iload hx hb d_Md_behind_12 (lv_at hl 0 rfl) ?_
      refine b_goi (wr := [(md, .inr (7, mdL za th cn ov sn kn fd cst co tb))]) (b_runS (wc := []) (As := [.int (nI st), .int (nI i)]) (rest := []) hm hw (va_cwS 2 hts (gS2 uw_of k_788 k_786 k_787 k_9) rfl rfl rfl (by decide +kernel) ⟨by decide, by decide⟩) (c_Md_standOf l D k _ st i (by omega) (by omega)) [] (by decide) rfl rfl hl.1 rfl (Nat.le_of_ble_eq_true rfl) d_Md_behind_14 ⟨by decide, by decide⟩) hw [] [0] rfl rfl (by decide) (by decide) (fun r14 _ H locs hp14 hw => ?_)
      have hw : bW (gU D k) A s H locs [(md, .inr (7, mdL za th cn ov sn kn fd cst co tb))] := hw.sub [0] (by decide) rfl
      refine b_ti hp14 ?_
      have hdl := dg_lt st i
      refine lv_istore (lv' := [(5, .int (nI (dg st i))), (4, .int (nI i)), (3, .int (nI (bhR st x i))), (0, .ref md), (1, .int (nI st)), (2, .int (nI x))]) hx hb d_Md_behind_17  hl (by decide) rfl (fun ls hl => ?_)
      refine b_mg (pc' := 30) (st' := [.int (bI (decide (4 ≤ dg st i)))]) ?_ (fun kmg => ?_)
      · skip
        refine lv_iload_n hx hb d_Md_behind_30 rfl (lv_at hl 5 rfl) ?_
        refine lv_iload hx hb d_Md_behind_31 (lv_at hl 1 rfl) ?_
        refine b_goi (wr := [(md, .inr (7, mdL za th cn ov sn kn fd cst co tb))]) (b_runS (wc := []) (As := [.int (nI x), .int (nI i)]) (rest := [.int (bI (decide (4 ≤ dg st i)))]) hm hw (va_cwS 2 hts (gS2 uw_of k_791 k_789 k_790 k_9) rfl rfl rfl (by decide +kernel) ⟨by decide, by decide⟩) (c_Md_runs l D k _ x i (by omega) (by omega)) [] (by decide) rfl rfl hl.1 rfl (Nat.le_of_ble_eq_true rfl) d_Md_behind_33 ⟨by decide, by decide⟩) hw [] [0] rfl rfl (by decide) (by decide) (fun r33 _ H locs hp33 hw => ?_)
        have hw : bW (gU D k) A s H locs [(md, .inr (7, mdL za th cn ov sn kn fd cst co tb))] := hw.sub [0] (by decide) rfl
        refine b_ti hp33 ?_
        refine b_mg (pc' := 44) (st' := [.int (bI (decide (4 ≤ dg st i) == on x i))]) ?_ (fun kmg => ?_)
        · skip
          refine lv_istore (lv' := [(6, .int (bI (decide (4 ≤ dg st i) == on x i))), (5, .int (nI (dg st i))), (4, .int (nI i)), (3, .int (nI (bhR st x i))), (0, .ref md), (1, .int (nI st)), (2, .int (nI x))]) hx hb d_Md_behind_44  hl (by decide) rfl (fun ls hl => ?_)
          refine b_mg (pc' := 61) (st' := [.int (nI (if decide (4 ≤ dg st i) == on x i then dg st i % 4 + 1 else 0))]) ?_ (fun kmg => ?_)
          · skip
            refine lv_istore (lv' := [(7, .int (nI (if decide (4 ≤ dg st i) == on x i then dg st i % 4 + 1 else 0))), (6, .int (bI (decide (4 ≤ dg st i) == on x i))), (5, .int (nI (dg st i))), (4, .int (nI i)), (3, .int (nI (bhR st x i))), (0, .ref md), (1, .int (nI st)), (2, .int (nI x))]) hx hb d_Md_behind_61  hl (by decide) rfl (fun ls hl => ?_)
            have hT1 : (if decide (4 ≤ dg st i) == on x i then dg st i % 4 + 1 else 0) ≤ 4 := by split <;> omega
            refine b_mg (pc' := 75) (st' := [.int (nI (if 3 < (if decide (4 ≤ dg st i) == on x i then dg st i % 4 + 1 else 0) then 3 else if decide (4 ≤ dg st i) == on x i then dg st i % 4 + 1 else 0))]) ?_ (fun kmg => ?_)
            · skip
              refine lv_istore (lv' := [(7, .int (nI (if 3 < (if decide (4 ≤ dg st i) == on x i then dg st i % 4 + 1 else 0) then 3 else if decide (4 ≤ dg st i) == on x i then dg st i % 4 + 1 else 0))), (6, .int (bI (decide (4 ≤ dg st i) == on x i))), (5, .int (nI (dg st i))), (4, .int (nI i)), (3, .int (nI (bhR st x i))), (0, .ref md), (1, .int (nI st)), (2, .int (nI x))]) hx hb d_Md_behind_75  hl (by decide) rfl (fun ls hl => ?_)
              refine lv_iload_n hx hb d_Md_behind_77 rfl (lv_at hl 4 rfl) ?_
              refine lv_iload hx hb d_Md_behind_78 (lv_at hl 0 rfl) ?_
              refine lv_iload_n hx hb d_Md_behind_80 rfl (lv_at hl 7 rfl) ?_
              refine lv_iload hx hb d_Md_behind_81 (lv_at hl 3 rfl) ?_
              refine b_goi (wr := [(md, .inr (7, mdL za th cn ov sn kn fd cst co tb))]) (b_runS (wc := []) (As := [.int (nI x), .int (nI i)]) (rest := [.int (nI (if 3 < (if decide (4 ≤ dg st i) == on x i then dg st i % 4 + 1 else 0) then 3 else if decide (4 ≤ dg st i) == on x i then dg st i % 4 + 1 else 0)), .int (nI (bhR st x i))]) hm hw (va_cwS 2 hts (gS2 uw_of k_791 k_789 k_790 k_9) rfl rfl rfl (by decide +kernel) ⟨by decide, by decide⟩) (c_Md_runs l D k _ x i (by omega) (by omega)) [] (by decide) rfl rfl hl.1 rfl (Nat.le_of_ble_eq_true rfl) d_Md_behind_83 ⟨by decide, by decide⟩) hw [] [0] rfl rfl (by decide) (by decide) (fun r83 _ H locs hp83 hw => ?_)
              have hw : bW (gU D k) A s H locs [(md, .inr (7, mdL za th cn ov sn kn fd cst co tb))] := hw.sub [0] (by decide) rfl
              refine b_ti hp83 ?_
              refine b_mg (pc' := 94) (st' := [.int (nI (if on x i then 4 else 0)), .int (nI (if 3 < (if decide (4 ≤ dg st i) == on x i then dg st i % 4 + 1 else 0) then 3 else if decide (4 ≤ dg st i) == on x i then dg st i % 4 + 1 else 0)), .int (nI (bhR st x i))]) ?_ (fun kmg => ?_)
              · skip
                refine lv_iadd hx hb d_Md_behind_94 ?_
                refine b_ti (nI_add (if 3 < (if decide (4 ≤ dg st i) == on x i then dg st i % 4 + 1 else 0) then 3 else if decide (4 ≤ dg st i) == on x i then dg st i % 4 + 1 else 0) (if on x i then 4 else 0)) ?_
                refine b_ti (y := nI (sdA (dg st i) (on x i))) (rfl) ?_
                have hsd := sdA_lt (dg st i) (on x i)
                refine lv_iconst (v := nI 3) hx hb d_Md_behind_95 (by decide) ?_
                refine lv_iload hx hb d_Md_behind_96 (lv_at hl 3 rfl) ?_
                have hp8 := p83 (show i < 3 by omega)
                refine lv_imul hx hb d_Md_behind_98 ?_
                refine b_ti (pk_mul 3 i) ?_
                refine lv_ishl hx hb d_Md_behind_99 ?_
                refine b_ti (nI_shl (a := sdA (dg st i) (on x i)) (b := 3 * i) (by omega) (by rcases hp8 with h | h | h <;> rw [h] <;> omega)) ?_
                refine lv_iadd hx hb d_Md_behind_100 ?_
                refine b_ti (nI_add (bhR st x i) ((sdA (dg st i) (on x i)) * 2 ^ (3 * i))) ?_
                refine b_ti (y := nI (bhR st x (i + 1))) (congrArg nI (show bhR st x i + sdA (dg st i) (on x i) * 2 ^ (3 * i) = bhR st x i + sdA (dg st i) (on x i) * 8 ^ i by rw [Nat.pow_mul])) ?_
                refine lv_istore_n (lv' := [(3, .int (nI (bhR st x (i + 1)))), (7, .int (nI (if 3 < (if decide (4 ≤ dg st i) == on x i then dg st i % 4 + 1 else 0) then 3 else if decide (4 ≤ dg st i) == on x i then dg st i % 4 + 1 else 0))), (6, .int (bI (decide (4 ≤ dg st i) == on x i))), (5, .int (nI (dg st i))), (4, .int (nI i)), (0, .ref md), (1, .int (nI st)), (2, .int (nI x))]) hx hb d_Md_behind_101 rfl hl (by decide) rfl (fun ls hl => ?_)
                refine lv_iinc (v := nI (i + 1)) (lv' := [(4, .int (nI (i + 1))), (3, .int (nI (bhR st x (i + 1)))), (7, .int (nI (if 3 < (if decide (4 ≤ dg st i) == on x i then dg st i % 4 + 1 else 0) then 3 else if decide (4 ≤ dg st i) == on x i then dg st i % 4 + 1 else 0))), (6, .int (bI (decide (4 ≤ dg st i) == on x i))), (5, .int (nI (dg st i))), (0, .ref md), (1, .int (nI st)), (2, .int (nI x))]) hx hb d_Md_behind_102 hl (k := 4) rfl (nI_add i 1) (by decide) rfl (fun ls hl => ?_)
                refine lv_goto (tgt := 5) hx hb d_Md_behind_105 (by decide) ?_
                exact ih (i + 1) (by omega) (by omega) H locs ls hw (lv_sub hl [0, 1, 5, 6, 7] rfl)
              · skip
                refine lv_if_eq (tgt := 93) hx hb d_Md_behind_86 (by decide) (fun c_86_1 => ?_) (fun c_86_1 => ?_)
                · skip
                  have h_86_1 : (on x i) = false := bI_0.mp c_86_1
                  refine lv_iconst (v := nI 0) hx hb d_Md_behind_93 (by decide) ?_
                  exact b_ti (x := nI 0) (y := nI (if on x i then 4 else 0)) (congrArg nI (show 0 = (if on x i then 4 else 0) by rw [if_neg (by simp [h_86_1])])) kmg
                · skip
                  have h_86_1 : (on x i) = true := bI_t c_86_1
                  refine lv_iconst (v := nI 4) hx hb d_Md_behind_89 (by decide) ?_
                  refine lv_goto (tgt := 94) hx hb d_Md_behind_90 (by decide) ?_
                  exact b_ti (x := nI 4) (y := nI (if on x i then 4 else 0)) (congrArg nI (show 4 = (if on x i then 4 else 0) by rw [if_pos (by simp [h_86_1])])) kmg
            · skip
              have hT1 : (if decide (4 ≤ dg st i) == on x i then dg st i % 4 + 1 else 0) ≤ 4 := by split <;> omega
              refine lv_iload hx hb d_Md_behind_63 (lv_at hl 0 rfl) ?_
              refine lv_iconst (v := nI 3) hx hb d_Md_behind_65 (by decide) ?_
              refine lv_icmp_le (tgt := 73) hx hb d_Md_behind_66 (by decide) (fun c_66_2 => ?_) (fun c_66_2 => ?_)
              · skip
                have h_66_2 : (if decide (4 ≤ dg st i) == on x i then dg st i % 4 + 1 else 0) ≤ 3 := yle c_66_2 (by omega) (by omega)
                refine lv_iload hx hb d_Md_behind_73 (lv_at hl 0 rfl) ?_
                exact b_ti (x := nI (if decide (4 ≤ dg st i) == on x i then dg st i % 4 + 1 else 0)) (y := nI (if 3 < (if decide (4 ≤ dg st i) == on x i then dg st i % 4 + 1 else 0) then 3 else if decide (4 ≤ dg st i) == on x i then dg st i % 4 + 1 else 0)) (congrArg nI (show (if decide (4 ≤ dg st i) == on x i then dg st i % 4 + 1 else 0) = (if 3 < (if decide (4 ≤ dg st i) == on x i then dg st i % 4 + 1 else 0) then 3 else if decide (4 ≤ dg st i) == on x i then dg st i % 4 + 1 else 0) from (if_neg (by omega)).symm)) kmg
              · skip
                have h_66_2 : 3 < (if decide (4 ≤ dg st i) == on x i then dg st i % 4 + 1 else 0) := ygtN c_66_2 (by omega) (by omega)
                refine lv_iconst (v := nI 3) hx hb d_Md_behind_69 (by decide) ?_
                refine lv_goto (tgt := 75) hx hb d_Md_behind_70 (by decide) ?_
                exact b_ti (x := nI 3) (y := nI (if 3 < (if decide (4 ≤ dg st i) == on x i then dg st i % 4 + 1 else 0) then 3 else if decide (4 ≤ dg st i) == on x i then dg st i % 4 + 1 else 0)) (congrArg nI (show 3 = (if 3 < (if decide (4 ≤ dg st i) == on x i then dg st i % 4 + 1 else 0) then 3 else if decide (4 ≤ dg st i) == on x i then dg st i % 4 + 1 else 0) from (if_pos (by omega)).symm)) kmg
          · skip
            refine lv_iload hx hb d_Md_behind_46 (lv_at hl 0 rfl) ?_
            refine lv_if_eq (tgt := 60) hx hb d_Md_behind_48 (by decide) (fun c_48_3 => ?_) (fun c_48_3 => ?_)
            · skip
              have h_48_3 : (decide (4 ≤ dg st i) == on x i) = false := bI_0.mp c_48_3
              refine lv_iconst (v := nI 0) hx hb d_Md_behind_60 (by decide) ?_
              exact b_ti (x := nI 0) (y := nI (if decide (4 ≤ dg st i) == on x i then dg st i % 4 + 1 else 0)) (congrArg nI (show 0 = (if decide (4 ≤ dg st i) == on x i then dg st i % 4 + 1 else 0) by rw [if_neg (by simp [-decide_eq_true_eq, -decide_eq_false_iff_not, h_48_3])])) kmg
            · skip
              have h_48_3 : (decide (4 ≤ dg st i) == on x i) = true := bI_t c_48_3
              refine lv_iload hx hb d_Md_behind_51 (lv_at hl 1 rfl) ?_
              refine lv_iconst (v := nI 4) hx hb d_Md_behind_53 (by decide) ?_
              refine lv_irem hx hb d_Md_behind_54 (by first | assumption | decide) ?_
              refine b_ti (pk_rem (a := dg st i) (d := 4) (by omega) (by omega) (by omega)) ?_
              refine lv_iconst (v := nI 1) hx hb d_Md_behind_55 (by decide) ?_
              refine lv_iadd hx hb d_Md_behind_56 ?_
              refine b_ti (nI_add ((dg st i) % 4) 1) ?_
              refine lv_goto (tgt := 61) hx hb d_Md_behind_57 (by decide) ?_
              exact b_ti (x := nI ((dg st i) % 4 + 1)) (y := nI (if decide (4 ≤ dg st i) == on x i then dg st i % 4 + 1 else 0)) (congrArg nI (show ((dg st i) % 4 + 1) = (if decide (4 ≤ dg st i) == on x i then dg st i % 4 + 1 else 0) by rw [if_pos (by simp [-decide_eq_true_eq, -decide_eq_false_iff_not, h_48_3])])) kmg
        · skip
          refine lv_icmp_ne (tgt := 43) hx hb d_Md_behind_36 (by decide) (fun c_36_4 => ?_) (fun c_36_4 => ?_)
          · skip
            have h_36_4 : ((decide (4 ≤ dg st i)) == (on x i)) = false := bI_ne c_36_4
            refine lv_iconst (v := nI 0) hx hb d_Md_behind_43 (by decide) ?_
            exact b_ti (x := nI 0) (y := bI (decide (4 ≤ dg st i) == on x i)) (congrArg bI (show false = (decide (4 ≤ dg st i) == on x i) from h_36_4.symm)) kmg
          · skip
            have h_36_4 : ((decide (4 ≤ dg st i)) == (on x i)) = true := bI_e c_36_4
            refine lv_iconst (v := nI 1) hx hb d_Md_behind_39 (by decide) ?_
            refine lv_goto (tgt := 44) hx hb d_Md_behind_40 (by decide) ?_
            exact b_ti (x := nI 1) (y := bI (decide (4 ≤ dg st i) == on x i)) (congrArg bI (show true = (decide (4 ≤ dg st i) == on x i) from h_36_4.symm)) kmg
      · skip
        refine lv_iload hx hb d_Md_behind_19 (lv_at hl 0 rfl) ?_
        refine lv_iconst (v := nI 4) hx hb d_Md_behind_21 (by decide) ?_
        refine lv_icmp_lt (tgt := 29) hx hb d_Md_behind_22 (by decide) (fun c_22_5 => ?_) (fun c_22_5 => ?_)
        · skip
          have h_22_5 : (dg st i) < 4 := ylt c_22_5 (by omega) (by omega)
          refine lv_iconst (v := nI 0) hx hb d_Md_behind_29 (by decide) ?_
          exact b_ti (x := nI 0) (y := bI (decide (4 ≤ dg st i))) (congrArg bI (show false = (decide (4 ≤ dg st i)) from (decide_eq_false (by omega)).symm)) kmg
        · skip
          have h_22_5 : 4 ≤ (dg st i) := ygeN c_22_5 (by omega) (by omega)
          refine lv_iconst (v := nI 1) hx hb d_Md_behind_25 (by decide) ?_
          refine lv_goto (tgt := 30) hx hb d_Md_behind_26 (by decide) ?_
          exact b_ti (x := nI 1) (y := bI (decide (4 ≤ dg st i))) (congrArg bI (show true = (decide (4 ≤ dg st i)) from (decide_eq_true (by omega)).symm)) kmg

set_option maxHeartbeats 4000000 in
set_option maxRecDepth 100000 in
theorem c_Md_behind (l : Launch) (D : va_G) (k : Nat → ClassId) (sz : Nat) (md : Nat) (za : Nat → Nat) (th cn ov sn kn fd : Nat) (cst : Int64) (co tb : Nat) (st x : Nat) (hst : st < 512) (hx8 : x < 8) : Met l y_Md_behind (uw y_Md_behind b_Md_behind 8 (some .int)) (rU 1 0 0) (va_Pc [.ref md, .int (nI st), .int (nI x)] (bP (gU D k) [(md, .inr (7, mdL za th cn ov sn kn fd cst co tb))] sz)) (va_Qi (fun (r : Int32) (_ : Unit) => r = nI (bhR st x 3)) (fun u => bQ (gU D k) (va_A [(md, .inr (7, mdL za th cn ov sn kn fd cst co tb))] sz) ([(md, .inr (7, mdL za th cn ov sn kn fd cst co tb))])) (va_A [(md, .inr (7, mdL za th cn ov sn kn fd cst co tb))] sz)) (rU 1 0 0).cells (rU 1 0 0).slots (va_A [(md, .inr (7, mdL za th cn ov sn kn fd cst co tb))] sz) := by
  refine b_start (y := y_Md_behind) (maxL := 8) (ret := (some .int)) (cc := b_Md_behind) (ws' := ut) (rm := rU 1 0 0) (av := [.ref md, .int (nI st), .int (nI x)]) (g := gU D k) (ws := [(md, .inr (7, mdL za th cn ov sn kn fd cst co tb))]) (sz := sz) (Qc := fun A => va_Qi (fun (r : Int32) (_ : Unit) => r = nI (bhR st x 3)) (fun u => bQ (gU D k) A ([(md, .inr (7, mdL za th cn ov sn kn fd cst co tb))])) A) (by decide +kernel) (Nat.le_of_ble_eq_true rfl) ?_
  intro p e s m below meth c A hm hnm hw ls hl
  have hl : lv_has ls 8 [(0, .ref md), (1, .int (nI st)), (2, .int (nI x))] := hl
  have hx := hm.1
  have hb := hm.2.1
  have hown := hm.2.2.2.2.1
  have hts := hm.2.2.2.2.2.1
  refine lv_iconst (v := nI 0) hx hb d_Md_behind_0 (by decide) ?_
  refine lv_istore_n (lv' := [(3, .int (nI 0)), (0, .ref md), (1, .int (nI st)), (2, .int (nI x))]) hx hb d_Md_behind_1 rfl hl (by decide) rfl (fun ls hl => ?_)
  refine lv_iconst (v := nI 0) hx hb d_Md_behind_2 (by decide) ?_
  refine lv_istore (lv' := [(4, .int (nI 0)), (3, .int (nI 0)), (0, .ref md), (1, .int (nI st)), (2, .int (nI x))]) hx hb d_Md_behind_3  hl (by decide) rfl (fun ls hl => ?_)
  exact lp_Md_behind hst hx8 hm hnm 4 0 (by omega) (by omega) _ _ ls hw (lv_sub hl [0, 1, 2, 3, 4] rfl)

set_option maxHeartbeats 4000000 in
set_option maxRecDepth 100000 in
theorem lp_Md_costOf {l : Launch} {D : va_G} {k : Nat → ClassId} {md : Nat} {za : Nat → Nat} {th cn ov sn kn fd : Nat} {cst : Int64} {co tb : Nat} {PN : Nat → Int32} {PR : Nat → Nat} {CE : Nat → Nat} {st h x : Nat} {q : Nat → Option Nat} (hc : cn ≤ 3) (hst : st < 512) (hh : h < 36) (hx8 : x < 8) (hP : PR h ≤ 1000) (hC : ∀ j, CE j ≤ 100000) (hqb : ∀ k v, q k = some v → v ≤ 100000) (hPN : ∀ k, k < cn → on x k = true → PN k = oI (q k) ∧ (q k).isSome = true) {p : Program} {e : Env} {s : State} {m : MethodId} {below : List Frame} {meth : Method} {c : Code} {A : Nat → Prop} (hm : bM p s m (([.ref md, .int (nI st), .int (nI h), .int (nI x)] : List Value).toArray) meth c "HeatMachinesModel" b_Md_costOf 8 (some .long) (uw y_Md_costOf b_Md_costOf 8 (some .long))) (hnm : meth.name = "costOf") :
    ∀ (f : Nat) (i : Nat), cn + 1 ≤ i + f → i ≤ cn → ∀ (H : Heap) (locs : List Loc) (ls : Array Slot), bW (gU D k) A s H locs [(md, .inr (7, mdL za th cn ov sn kn fd cst co tb)), (za 27, .inl (k 0, 3, .inl PN)), (za 10, .inl (k 0, 36, .inl (fun j => nI (PR j)))), (za 4, .inl (k 0, 3, .inl (fun j => nI (CE j))))] → lv_has ls 8 [(6, .int (nI i)), (4, .long (lN (ctR q CE (PR h) st x i))), (0, .ref md), (1, .int (nI st)), (2, .int (nI h)), (3, .int (nI x))] → W p l e (rU 1 0 0) s m (([.ref md, .int (nI st), .int (nI h), .int (nI x)] : List Value).toArray) below meth c H locs 0 0 (MQ below (va_Ql (fun (r : Int64) (_ : Unit) => r = lN (ctR q CE (PR h) st x cn)) (fun u => bQ (gU D k) A ([(md, .inr (7, mdL za th cn ov sn kn fd cst co tb)), (za 27, .inl (k 0, 3, .inl PN)), (za 10, .inl (k 0, 36, .inl (fun j => nI (PR j)))), (za 4, .inl (k 0, 3, .inl (fun j => nI (CE j))))])) A) (([.ref md, .int (nI st), .int (nI h), .int (nI x)] : List Value).toArray) s (rU 1 0 0).cells (rU 1 0 0).slots A) (F0 m 6 ls []) := by
  have hx := hm.1
  have hb := hm.2.1
  have hown := hm.2.2.2.2.1
  have hts := hm.2.2.2.2.2.1
  intro f
  induction f with
  | zero => intro i hf hi; exfalso; omega
  | succ f ih =>
    intro i hf hi H locs ls hw hl
    refine lv_iload hx hb d_Md_costOf_6 (lv_at hl 0 rfl) ?_
    refine lv_aload_n hx hb d_Md_costOf_8 rfl (lv_at hl 2 rfl) ?_
    refine b_get (T := F_Md) hm hw 0 rfl rfl (fun w h => uw_of w (u_Md w h)) 1 (by decide) (uw_of _ k_609) rfl d_Md_costOf_9 ?_
    refine lv_icmp_ge (tgt := 91) hx hb d_Md_costOf_12 (by decide) (fun c_12_0 => ?_) (fun c_12_0 => ?_)
    · skip
      have h_12_0 : cn ≤ i := yge c_12_0 (by omega) (by omega)
      refine lv_lload hx hb d_Md_costOf_91 (lv_at hl 1 rfl) ?_
      exact b_lret () hm hw (by rw [show i = cn by omega]) d_Md_costOf_93
    · skip
      have h_12_0 : i < cn := yltN c_12_0 (by omega) (by omega)
      refine lv_iload_n hx hb d_Md_costOf_15 rfl (lv_at hl 5 rfl) ?_
      refine lv_iload hx hb d_Md_costOf_16 (lv_at hl 0 rfl) ?_
      refine b_goi (wr := [(md, .inr (7, mdL za th cn ov sn kn fd cst co tb)), (za 27, .inl (k 0, 3, .inl PN)), (za 10, .inl (k 0, 36, .inl (fun j => nI (PR j)))), (za 4, .inl (k 0, 3, .inl (fun j => nI (CE j))))]) (b_runS (wc := []) (As := [.int (nI x), .int (nI i)]) (rest := []) hm hw (va_cwS 2 hts (gS2 uw_of k_791 k_789 k_790 k_9) rfl rfl rfl (by decide +kernel) ⟨by decide, by decide⟩) (c_Md_runs l D k _ x i (by omega) (by omega)) [] (by decide) rfl rfl hl.1 rfl (Nat.le_of_ble_eq_true rfl) d_Md_costOf_18 ⟨by decide, by decide⟩) hw [] [0, 1, 2, 3] rfl rfl (by decide) (by decide) (fun r18 _ H locs hp18 hw => ?_)
      have hw : bW (gU D k) A s H locs [(md, .inr (7, mdL za th cn ov sn kn fd cst co tb)), (za 27, .inl (k 0, 3, .inl PN)), (za 10, .inl (k 0, 36, .inl (fun j => nI (PR j)))), (za 4, .inl (k 0, 3, .inl (fun j => nI (CE j))))] := hw.sub [0, 1, 2, 3] (by decide) rfl
      refine b_ti hp18 ?_
      refine lv_istore (lv' := [(7, .int (bI (on x i))), (6, .int (nI i)), (4, .long (lN (ctR q CE (PR h) st x i))), (0, .ref md), (1, .int (nI st)), (2, .int (nI h)), (3, .int (nI x))]) hx hb d_Md_costOf_21  hl (by decide) rfl (fun ls hl => ?_)
      refine lv_lload hx hb d_Md_costOf_23 (lv_at hl 2 rfl) ?_
      refine b_mg (pc' := 50) (st' := [.long (lN (if on x i then (q i).getD 0 * PR h else 0)), .long (lN (ctR q CE (PR h) st x i))]) ?_ (fun kmg => ?_)
      · skip
        refine lv_ladd hx hb d_Md_costOf_50 ?_
        refine b_tl (lN_add (ctR q CE (PR h) st x i) (if on x i then (q i).getD 0 * PR h else 0)) ?_
        refine lv_lstore (lv' := [(4, .long (lN ((ctR q CE (PR h) st x i) + (if on x i then (q i).getD 0 * PR h else 0)))), (7, .int (bI (on x i))), (6, .int (nI i)), (0, .ref md), (1, .int (nI st)), (2, .int (nI h)), (3, .int (nI x))]) hx hb d_Md_costOf_51  hl (by decide) rfl (fun ls hl => ?_)
        refine lv_lload hx hb d_Md_costOf_53 (lv_at hl 0 rfl) ?_
        refine lv_iload hx hb d_Md_costOf_55 (lv_at hl 1 rfl) ?_
        refine lv_if_eq (tgt := 81) hx hb d_Md_costOf_57 (by decide) (fun c_57_1 => ?_) (fun c_57_1 => ?_)
        · skip
          have h_57_1 : (on x i) = false := bI_0.mp c_57_1
          refine lv_lconst (v := 0) hx hb d_Md_costOf_81 (by decide) ?_
          refine lv_ladd hx hb d_Md_costOf_82 ?_
          refine b_tl (y := lN (ctR q CE (PR h) st x (i + 1))) (show lN (ctR q CE (PR h) st x i + (if on x i then (q i).getD 0 * PR h else 0)) + 0 = lN (ctR q CE (PR h) st x i + (if on x i then (q i).getD 0 * PR h else 0) + (if on x i && decide (dg st i < 4) then CE i else 0)) by rw [show (if on x i && decide (dg st i < 4) then CE i else 0) = 0 from if_neg (by simp [h_57_1]), Nat.add_zero]; exact Int64.add_zero _) ?_
          refine lv_lstore (lv' := [(4, .long (lN (ctR q CE (PR h) st x (i + 1)))), (7, .int (bI (on x i))), (6, .int (nI i)), (0, .ref md), (1, .int (nI st)), (2, .int (nI h)), (3, .int (nI x))]) hx hb d_Md_costOf_83  hl (by decide) rfl (fun ls hl => ?_)
          refine lv_iinc (v := nI (i + 1)) (lv' := [(6, .int (nI (i + 1))), (4, .long (lN (ctR q CE (PR h) st x (i + 1)))), (7, .int (bI (on x i))), (0, .ref md), (1, .int (nI st)), (2, .int (nI h)), (3, .int (nI x))]) hx hb d_Md_costOf_85 hl (k := 2) rfl (nI_add i 1) (by decide) rfl (fun ls hl => ?_)
          refine lv_goto (tgt := 6) hx hb d_Md_costOf_88 (by decide) ?_
          exact ih (i + 1) (by omega) (by omega) H locs ls hw (lv_sub hl [0, 1, 3, 4, 5, 6] rfl)
        · skip
          have h_57_1 : (on x i) = true := bI_t c_57_1
          refine lv_iload_n hx hb d_Md_costOf_60 rfl (lv_at hl 4 rfl) ?_
          refine lv_iload hx hb d_Md_costOf_61 (lv_at hl 2 rfl) ?_
          refine b_goi (wr := [(md, .inr (7, mdL za th cn ov sn kn fd cst co tb)), (za 27, .inl (k 0, 3, .inl PN)), (za 10, .inl (k 0, 36, .inl (fun j => nI (PR j)))), (za 4, .inl (k 0, 3, .inl (fun j => nI (CE j))))]) (b_runS (wc := []) (As := [.int (nI st), .int (nI i)]) (rest := [.long (lN ((ctR q CE (PR h) st x i) + (if on x i then (q i).getD 0 * PR h else 0)))]) hm hw (va_cwS 2 hts (gS2 uw_of k_788 k_786 k_787 k_9) rfl rfl rfl (by decide +kernel) ⟨by decide, by decide⟩) (c_Md_standOf l D k _ st i (by omega) (by omega)) [] (by decide) rfl rfl hl.1 rfl (Nat.le_of_ble_eq_true rfl) d_Md_costOf_63 ⟨by decide, by decide⟩) hw [] [0, 1, 2, 3] rfl rfl (by decide) (by decide) (fun r63 _ H locs hp63 hw => ?_)
          have hw : bW (gU D k) A s H locs [(md, .inr (7, mdL za th cn ov sn kn fd cst co tb)), (za 27, .inl (k 0, 3, .inl PN)), (za 10, .inl (k 0, 36, .inl (fun j => nI (PR j)))), (za 4, .inl (k 0, 3, .inl (fun j => nI (CE j))))] := hw.sub [0, 1, 2, 3] (by decide) rfl
          refine b_ti hp63 ?_
          have hdl := dg_lt st i
          refine lv_iconst (v := nI 4) hx hb d_Md_costOf_66 (by decide) ?_
          refine lv_icmp_ge (tgt := 81) hx hb d_Md_costOf_67 (by decide) (fun c_67_2 => ?_) (fun c_67_2 => ?_)
          · skip
            have h_67_2 : 4 ≤ (dg st i) := yge c_67_2 (by omega) (by omega)
            refine lv_lconst (v := 0) hx hb d_Md_costOf_81 (by decide) ?_
            refine lv_ladd hx hb d_Md_costOf_82 ?_
            refine b_tl (y := lN (ctR q CE (PR h) st x (i + 1))) (show lN (ctR q CE (PR h) st x i + (if on x i then (q i).getD 0 * PR h else 0)) + 0 = lN (ctR q CE (PR h) st x i + (if on x i then (q i).getD 0 * PR h else 0) + (if on x i && decide (dg st i < 4) then CE i else 0)) by rw [show (if on x i && decide (dg st i < 4) then CE i else 0) = 0 from if_neg (by simp [h_57_1]; omega), Nat.add_zero]; exact Int64.add_zero _) ?_
            refine lv_lstore (lv' := [(4, .long (lN (ctR q CE (PR h) st x (i + 1)))), (7, .int (bI (on x i))), (6, .int (nI i)), (0, .ref md), (1, .int (nI st)), (2, .int (nI h)), (3, .int (nI x))]) hx hb d_Md_costOf_83  hl (by decide) rfl (fun ls hl => ?_)
            refine lv_iinc (v := nI (i + 1)) (lv' := [(6, .int (nI (i + 1))), (4, .long (lN (ctR q CE (PR h) st x (i + 1)))), (7, .int (bI (on x i))), (0, .ref md), (1, .int (nI st)), (2, .int (nI h)), (3, .int (nI x))]) hx hb d_Md_costOf_85 hl (k := 2) rfl (nI_add i 1) (by decide) rfl (fun ls hl => ?_)
            refine lv_goto (tgt := 6) hx hb d_Md_costOf_88 (by decide) ?_
            exact ih (i + 1) (by omega) (by omega) H locs ls hw (lv_sub hl [0, 1, 3, 4, 5, 6] rfl)
          · skip
            have h_67_2 : (dg st i) < 4 := yltN c_67_2 (by omega) (by omega)
            refine lv_aload_n hx hb d_Md_costOf_70 rfl (lv_at hl 3 rfl) ?_
            refine b_get (T := F_Md) hm hw 0 rfl rfl (fun w h => uw_of w (u_Md w h)) 4 (by decide) (uw_of _ k_612) rfl d_Md_costOf_71 ?_
            refine lv_iload hx hb d_Md_costOf_74 (lv_at hl 2 rfl) ?_
            refine b_iald (i := i) hm hw 3 0 rfl rfl (by omega) (by omega) d_Md_costOf_76 ?_
            refine b_ti (show (fun j => nI (CE j)) i = nI (CE i) from rfl) ?_
            have hCi := hC i
            refine lv_i2l (v := lN (CE i)) hx hb d_Md_costOf_77 (nI_l (by omega)) ?_
            refine lv_goto (tgt := 82) hx hb d_Md_costOf_78 (by decide) ?_
            refine lv_ladd hx hb d_Md_costOf_82 ?_
            refine b_tl (lN_add ((ctR q CE (PR h) st x i) + (if on x i then (q i).getD 0 * PR h else 0)) (CE i)) ?_
            refine b_tl (y := lN (ctR q CE (PR h) st x (i + 1))) (congrArg (fun z => lN (ctR q CE (PR h) st x i + (if on x i then (q i).getD 0 * PR h else 0) + z)) (show CE i = (if on x i && decide (dg st i < 4) then CE i else 0) from (if_pos (by simp [h_57_1]; omega)).symm)) ?_
            refine lv_lstore (lv' := [(4, .long (lN (ctR q CE (PR h) st x (i + 1)))), (7, .int (bI (on x i))), (6, .int (nI i)), (0, .ref md), (1, .int (nI st)), (2, .int (nI h)), (3, .int (nI x))]) hx hb d_Md_costOf_83  hl (by decide) rfl (fun ls hl => ?_)
            refine lv_iinc (v := nI (i + 1)) (lv' := [(6, .int (nI (i + 1))), (4, .long (lN (ctR q CE (PR h) st x (i + 1)))), (7, .int (bI (on x i))), (0, .ref md), (1, .int (nI st)), (2, .int (nI h)), (3, .int (nI x))]) hx hb d_Md_costOf_85 hl (k := 2) rfl (nI_add i 1) (by decide) rfl (fun ls hl => ?_)
            refine lv_goto (tgt := 6) hx hb d_Md_costOf_88 (by decide) ?_
            exact ih (i + 1) (by omega) (by omega) H locs ls hw (lv_sub hl [0, 1, 3, 4, 5, 6] rfl)
      · skip
        refine lv_iload hx hb d_Md_costOf_25 (lv_at hl 0 rfl) ?_
        refine lv_if_eq (tgt := 49) hx hb d_Md_costOf_27 (by decide) (fun c_27_3 => ?_) (fun c_27_3 => ?_)
        · skip
          have h_27_3 : (on x i) = false := bI_0.mp c_27_3
          refine lv_lconst (v := 0) hx hb d_Md_costOf_49 (by decide) ?_
          exact b_tl (x := 0) (y := lN (if on x i then (q i).getD 0 * PR h else 0)) (show (0 : Int64) = lN (if on x i then (q i).getD 0 * PR h else 0) by rw [if_neg (by simp [h_27_3])]; rfl) kmg
        · skip
          have h_27_3 : (on x i) = true := bI_t c_27_3
          refine lv_aload_n hx hb d_Md_costOf_30 rfl (lv_at hl 3 rfl) ?_
          refine b_get (T := F_Md) hm hw 0 rfl rfl (fun w h => uw_of w (u_Md w h)) 27 (by decide) (uw_of _ k_635) rfl d_Md_costOf_31 ?_
          refine lv_iload hx hb d_Md_costOf_34 (lv_at hl 1 rfl) ?_
          refine b_iald (i := i) hm hw 1 0 rfl rfl (by omega) (by omega) d_Md_costOf_36 ?_
          refine b_ti (y := nI ((q i).getD 0)) ((hPN i (by omega) h_27_3).1.trans (oI_some (hPN i (by omega) h_27_3).2)) ?_
          have hgd : (q i).getD 0 ≤ 100000 := by cases h9 : q i; simp; exact hqb i _ h9
          refine lv_i2l (v := lN ((q i).getD 0)) hx hb d_Md_costOf_37 (nI_l (by omega)) ?_
          refine lv_aload_n hx hb d_Md_costOf_38 rfl (lv_at hl 3 rfl) ?_
          refine b_get (T := F_Md) hm hw 0 rfl rfl (fun w h => uw_of w (u_Md w h)) 10 (by decide) (uw_of _ k_618) rfl d_Md_costOf_39 ?_
          refine lv_iload_n hx hb d_Md_costOf_42 rfl (lv_at hl 5 rfl) ?_
          refine b_iald (i := h) hm hw 2 0 rfl rfl (by omega) (by omega) d_Md_costOf_43 ?_
          refine b_ti (show (fun j => nI (PR j)) h = nI (PR h) from rfl) ?_
          refine lv_i2l (v := lN (PR h)) hx hb d_Md_costOf_44 (nI_l (by omega)) ?_
          refine lv_lmul hx hb d_Md_costOf_45 ?_
          refine b_tl (lN_mul ((q i).getD 0) (PR h)) ?_
          refine lv_goto (tgt := 50) hx hb d_Md_costOf_46 (by decide) ?_
          exact b_tl (x := lN (((q i).getD 0) * (PR h))) (y := lN (if on x i then (q i).getD 0 * PR h else 0)) (congrArg lN (by rw [if_pos h_27_3])) kmg

set_option maxHeartbeats 4000000 in
set_option maxRecDepth 100000 in
theorem c_Md_costOf (l : Launch) (D : va_G) (k : Nat → ClassId) (sz : Nat) (md : Nat) (za : Nat → Nat) (th cn ov sn kn fd : Nat) (cst : Int64) (co tb : Nat) (PN : Nat → Int32) (PR : Nat → Nat) (CE : Nat → Nat) (st h x : Nat) (q : Nat → Option Nat) (hc : cn ≤ 3) (hst : st < 512) (hh : h < 36) (hx8 : x < 8) (hP : PR h ≤ 1000) (hC : ∀ j, CE j ≤ 100000) (hqb : ∀ k v, q k = some v → v ≤ 100000) (hPN : ∀ k, k < cn → on x k = true → PN k = oI (q k) ∧ (q k).isSome = true) : Met l y_Md_costOf (uw y_Md_costOf b_Md_costOf 8 (some .long)) (rU 1 0 0) (va_Pc [.ref md, .int (nI st), .int (nI h), .int (nI x)] (bP (gU D k) [(md, .inr (7, mdL za th cn ov sn kn fd cst co tb)), (za 27, .inl (k 0, 3, .inl PN)), (za 10, .inl (k 0, 36, .inl (fun j => nI (PR j)))), (za 4, .inl (k 0, 3, .inl (fun j => nI (CE j))))] sz)) (va_Ql (fun (r : Int64) (_ : Unit) => r = lN (ctR q CE (PR h) st x cn)) (fun u => bQ (gU D k) (va_A [(md, .inr (7, mdL za th cn ov sn kn fd cst co tb)), (za 27, .inl (k 0, 3, .inl PN)), (za 10, .inl (k 0, 36, .inl (fun j => nI (PR j)))), (za 4, .inl (k 0, 3, .inl (fun j => nI (CE j))))] sz) ([(md, .inr (7, mdL za th cn ov sn kn fd cst co tb)), (za 27, .inl (k 0, 3, .inl PN)), (za 10, .inl (k 0, 36, .inl (fun j => nI (PR j)))), (za 4, .inl (k 0, 3, .inl (fun j => nI (CE j))))])) (va_A [(md, .inr (7, mdL za th cn ov sn kn fd cst co tb)), (za 27, .inl (k 0, 3, .inl PN)), (za 10, .inl (k 0, 36, .inl (fun j => nI (PR j)))), (za 4, .inl (k 0, 3, .inl (fun j => nI (CE j))))] sz)) (rU 1 0 0).cells (rU 1 0 0).slots (va_A [(md, .inr (7, mdL za th cn ov sn kn fd cst co tb)), (za 27, .inl (k 0, 3, .inl PN)), (za 10, .inl (k 0, 36, .inl (fun j => nI (PR j)))), (za 4, .inl (k 0, 3, .inl (fun j => nI (CE j))))] sz) := by
  refine b_start (y := y_Md_costOf) (maxL := 8) (ret := (some .long)) (cc := b_Md_costOf) (ws' := ut) (rm := rU 1 0 0) (av := [.ref md, .int (nI st), .int (nI h), .int (nI x)]) (g := gU D k) (ws := [(md, .inr (7, mdL za th cn ov sn kn fd cst co tb)), (za 27, .inl (k 0, 3, .inl PN)), (za 10, .inl (k 0, 36, .inl (fun j => nI (PR j)))), (za 4, .inl (k 0, 3, .inl (fun j => nI (CE j))))]) (sz := sz) (Qc := fun A => va_Ql (fun (r : Int64) (_ : Unit) => r = lN (ctR q CE (PR h) st x cn)) (fun u => bQ (gU D k) A ([(md, .inr (7, mdL za th cn ov sn kn fd cst co tb)), (za 27, .inl (k 0, 3, .inl PN)), (za 10, .inl (k 0, 36, .inl (fun j => nI (PR j)))), (za 4, .inl (k 0, 3, .inl (fun j => nI (CE j))))])) A) (by decide +kernel) (Nat.le_of_ble_eq_true rfl) ?_
  intro p e s m below meth c A hm hnm hw ls hl
  have hl : lv_has ls 8 [(0, .ref md), (1, .int (nI st)), (2, .int (nI h)), (3, .int (nI x))] := hl
  have hx := hm.1
  have hb := hm.2.1
  have hown := hm.2.2.2.2.1
  have hts := hm.2.2.2.2.2.1
  refine lv_lconst (v := 0) hx hb d_Md_costOf_0 (by decide) ?_
  refine lv_lstore (lv' := [(4, .long 0), (0, .ref md), (1, .int (nI st)), (2, .int (nI h)), (3, .int (nI x))]) hx hb d_Md_costOf_1  hl (by decide) rfl (fun ls hl => ?_)
  refine lv_iconst (v := nI 0) hx hb d_Md_costOf_3 (by decide) ?_
  refine lv_istore (lv' := [(6, .int (nI 0)), (4, .long 0), (0, .ref md), (1, .int (nI st)), (2, .int (nI h)), (3, .int (nI x))]) hx hb d_Md_costOf_4  hl (by decide) rfl (fun ls hl => ?_)
  exact lp_Md_costOf hc hst hh hx8 hP hC hqb hPN hm hnm (cn + 1) 0 (by omega) (by omega) _ _ ls hw (lv_sub hl [0, 1, 2, 3, 4, 5] rfl)
