/-! the law's loop -/
section LOOP
variable {l : Launch} {D : va_G} {k : Nat → ClassId} {p : Program} {e : Env} {s : State} {m : MethodId} {below : List Frame} {meth : Method} {c : Code} {A : Nat → Prop} {b L i cells slots : Nat} {xs : Nat → Int32} {Q : State → Prop} {H : Heap} {locs : List Loc} {ls : Array Slot}
variable {x0 ho pl rs to wt bo ma fa se ab he po sx be sa rc rb mr mpp af m0 m1 m2 f0 f1 f2 wtw wtv bow bov md ou : Nat} {hq ha hv pq pa pv oq za : Nat → Nat} 
theorem LST_w (h : LST D k A s H locs x0 ho pl rs to wt bo ma fa se ab he po sx be sa rc rb mr mpp af m0 m1 m2 f0 f1 f2 wtw wtv bow bov md ou hq ha hv pq pa pv oq za) : ∃ ws, bW (gU D k) A s H locs ws := by
  obtain ⟨th, cn, ov, sta, stl, n, wz, bz, sn, lr, lp, sc, zz, FP, FN, AB, HE, PO, SX, R, RB, MR, MP, AF, BE, FO, SE, WF, WG, BF, BG, RS, TO, LF, LG, LP, OU, LR, LQ, CE, RO, RH, RP, IO, w, OUT, hI, hw⟩ := h
  exact ⟨_, hw⟩
set_option maxHeartbeats 4000000 in
set_option maxRecDepth 100000 in
theorem lw_loop (h0 : LwH p l s m meth c A b L xs) (hA : ∀ q, A q → s.heap.size ≤ q) : ∀ (f t : Nat), 513 ≤ t + f → 5 * t ≤ L + 4 → ∀ (H : Heap) (locs : List Loc) (ls : Array Slot), LST D k A s H locs x0 ho pl rs to wt bo ma fa se ab he po sx be sa rc rb mr mpp af m0 m1 m2 f0 f1 f2 wtw wtv bow bov md ou hq ha hv pq pa pv oq za → lv_has ls 8 [(0, .ref b), (1, .ref x0), (2, .ref md), (3, .ref ou), (4, .int (nI (5 * t)))] →
    W p l e room_1 s m #[Value.ref b] below meth c H locs (83 + t) (56455 + 6 * t) (lw_Z below #[Value.ref b] s) (F0 m 23 ls []) := by
  have h0' := h0
  obtain ⟨hm, hE, hX, hbl, hbA, hL, htr⟩ := h0'
  have hx := hm.1
  have hb := hm.2.1
  intro f
  induction f with
  | zero => intro t hf ht; exfalso; omega
  | succ f ih =>
    intro t hf ht H locs ls hst hl
    obtain ⟨ws, hw⟩ := LST_w hst
    refine lv_iload hx hb d_Lw_law_23 (lv_at hl 4 rfl) ?_
    refine lv_aload_n hx hb d_Lw_law_25 rfl (lv_at hl 0 rfl) ?_
    refine va_slen hx hb hX hbl hbA hw.2.2.1 d_Lw_law_26 ?_
    refine b_ti (y := nI L) rfl ?_
    refine lv_iconst (v := nI 5) hx hb d_Lw_law_27 (by decide) ?_
    refine lv_isub hx hb d_Lw_law_28 ?_
    refine lv_icmp_gt (tgt := 1153) hx hb d_Lw_law_29 (by decide) (fun cc => ?_) (fun cc => ?_)
    · refine lv_iconst (v := 1) hx hb d_Lw_law_1153 (by decide) ?_
      refine va_forget (fun q hq => hA _ (hw.2.2.1.2.2 q hq)) ?_
      refine W.widen (k := 601024) (n := 7293034) (by omega) (by omega) ?_
      exact lw_ret hx hb hm.2.2.1 hm.2.2.2.2.2.2 d_Lw_law_1154
    · have hi5 : 5 * t + 5 ≤ L := le5 hL (by omega) cc
      have hf9 : 83 + t + 1 ≤ room_1.cells ∧ 56455 + 6 * t + 6 ≤ room_1.slots := ⟨by show 83 + t + 1 ≤ 601024; omega, by show 56455 + 6 * t + 6 ≤ 7293034; omega⟩
      have kx : ∀ (H : Heap) (locs : List Loc) (ls : Array Slot), LST D k A s H locs x0 ho pl rs to wt bo ma fa se ab he po sx be sa rc rb mr mpp af m0 m1 m2 f0 f1 f2 wtw wtv bow bov md ou hq ha hv pq pa pv oq za → lv_has ls 8 [(0, .ref b), (1, .ref x0), (2, .ref md), (3, .ref ou), (4, .int (nI (5 * t)))] → W p l e room_1 s m #[Value.ref b] below meth c H locs (83 + t + 1) (56455 + 6 * t + 6) (lw_Z below #[Value.ref b] s) (F0 m 1147 ls []) := by
        intro H locs ls hst hl
        refine lv_iinc (v := nI (5 * t + 5)) (lv' := [(4, .int (nI (5 * t + 5))), (0, .ref b), (1, .ref x0), (2, .ref md), (3, .ref ou)]) hx hb d_Lw_law_1147 hl (k := 4) rfl (nI_add (5 * t) 5) (by decide) rfl (fun ls hl => ?_)
        refine lv_goto (tgt := 23) hx hb d_Lw_law_1150 (by decide) ?_
        have h9 := ih (t + 1) (by omega) (by omega) H locs ls hst
        rw [show 5 * (t + 1) = 5 * t + 5 by omega, show 56455 + 6 * (t + 1) = 56455 + 6 * t + 6 by omega, show 83 + (t + 1) = 83 + t + 1 by omega] at h9
        exact h9 (lv_sub hl [1, 2, 3, 4, 0] rfl)
      refine lv_aload_n hx hb d_Lw_law_32 rfl (lv_at hl 0 rfl) ?_
      refine lv_iload hx hb d_Lw_law_33 (lv_at hl 4 rfl) ?_
      refine b_sld (j := 5 * t) hm hX hbl hbA hw (by omega) hL d_Lw_law_35 ?_
      refine lv_bipush (v := nI 15) hx hb d_Lw_law_36 (by decide) ?_
      refine lv_iand hx hb d_Lw_law_38 ?_
      obtain ⟨v, hv, ev⟩ := and15 (xs (5 * t))
      refine b_ti ev ?_
      rcases (show v = 0 ∨ v = 1 ∨ v = 2 ∨ v = 3 ∨ v = 4 ∨ v = 5 ∨ v = 6 ∨ v = 7 ∨ v = 8 ∨ v = 9 ∨ v = 10 ∨ v = 11 ∨ v = 12 ∨ v = 13 ∨ v = 14 ∨ v = 15 by omega) with rfl | rfl | rfl | rfl | rfl | rfl | rfl | rfl | rfl | rfl | rfl | rfl | rfl | rfl | rfl | rfl
      · refine lv_tableIn (off := 77) (tgt := 116) hx hb d_Lw_law_39 (by decide) (by decide) rfl (by decide) ?_
        exact K_machine h0 hi5 hf9 kx hst hl
      · refine lv_tableIn (off := 157) (tgt := 196) hx hb d_Lw_law_39 (by decide) (by decide) rfl (by decide) ?_
        exact K_row h0 hi5 hf9 kx hst hl
      · refine lv_tableIn (off := 249) (tgt := 288) hx hb d_Lw_law_39 (by decide) (by decide) rfl (by decide) ?_
        exact K_hour h0 hi5 hf9 kx hst hl
      · refine lv_tableIn (off := 329) (tgt := 368) hx hb d_Lw_law_39 (by decide) (by decide) rfl (by decide) ?_
        exact K_out h0 hi5 hf9 kx hst hl
      · refine lv_tableIn (off := 432) (tgt := 471) hx hb d_Lw_law_39 (by decide) (by decide) rfl (by decide) ?_
        exact K_gives h0 hi5 hf9 kx hst hl
      · refine lv_tableIn (off := 512) (tgt := 551) hx hb d_Lw_law_39 (by decide) (by decide) rfl (by decide) ?_
        exact K_cost h0 hi5 hf9 kx hst hl
      · refine lv_tableIn (off := 526) (tgt := 565) hx hb d_Lw_law_39 (by decide) (by decide) rfl (by decide) ?_
        exact K_planned h0 hi5 hf9 kx hst hl
      · refine lv_tableIn (off := 582) (tgt := 621) hx hb d_Lw_law_39 (by decide) (by decide) rfl (by decide) ?_
        exact K_starts h0 hi5 hf9 kx hst hl
      · refine lv_tableIn (off := 638) (tgt := 677) hx hb d_Lw_law_39 (by decide) (by decide) rfl (by decide) ?_
        exact K_run h0 hi5 hf9 kx hst hl
      · refine lv_tableIn (off := 694) (tgt := 733) hx hb d_Lw_law_39 (by decide) (by decide) rfl (by decide) ?_
        exact K_ran h0 hi5 hf9 kx hst hl
      · refine lv_tableIn (off := 750) (tgt := 789) hx hb d_Lw_law_39 (by decide) (by decide) rfl (by decide) ?_
        exact K_told h0 hi5 hf9 kx hst hl
      · refine lv_tableIn (off := 805) (tgt := 844) hx hb d_Lw_law_39 (by decide) (by decide) rfl (by decide) ?_
        exact K_corner h0 hi5 hf9 kx hst hl
      · refine lv_tableIn (off := 873) (tgt := 912) hx hb d_Lw_law_39 (by decide) (by decide) rfl (by decide) ?_
        exact K_curve h0 hi5 hf9 kx hst hl
      · refine lv_tableIn (off := 929) (tgt := 968) hx hb d_Lw_law_39 (by decide) (by decide) rfl (by decide) ?_
        exact K_ground h0 hi5 hf9 kx hst hl
      · refine lv_tableIn (off := 985) (tgt := 1024) hx hb d_Lw_law_39 (by decide) (by decide) rfl (by decide) ?_
        exact K_load h0 hi5 hf9 kx hst hl
      · refine lv_tableIn (off := 1053) (tgt := 1092) hx hb d_Lw_law_39 (by decide) (by decide) rfl (by decide) ?_
        exact K_fall h0 hi5 hf9 kx hst hl
end LOOP
