/-! the law's cases, one by one -/
section CASES
variable {l : Launch} {D : va_G} {k : Nat → ClassId} {p : Program} {e : Env} {s : State} {m : MethodId} {below : List Frame} {meth : Method} {c : Code} {A : Nat → Prop} {b L i cells slots : Nat} {xs : Nat → Int32} {Q : State → Prop} {H : Heap} {locs : List Loc} {ls : Array Slot}
variable {x0 ho pl rs to wt bo ma fa se ab he po sx be sa rc rb mr mpp af m0 m1 m2 f0 f1 f2 wtw wtv bow bov md ou : Nat} {hq ha hv pq pa pv oq za : Nat → Nat} {th cn ov sta stl n wz bz sn : Nat} {lr lp sc zz FP FN AB HE PO SX R RB MR MP AF : Nat → Nat} {BE : Nat → Option Nat} {FO SE WF WG BF BG RS : Nat → Int32} {TO : Nat → Int64} {LF LG LP OU : Nat → Nat → Int32} {LR LQ CE : Nat → Nat} {RO RH RP IO : Nat → Int32} {w : fdS} {OUT : Nat → Int64}
set_option maxHeartbeats 4000000 in
set_option maxRecDepth 100000 in
theorem L_out1 (h0 : LwH p l s m meth c A b L xs) (hi5 : i + 5 ≤ L) (hf : cells + 1 ≤ room_1.cells ∧ slots + 6 ≤ room_1.slots) (kx : ∀ (H : Heap) (locs : List Loc) (ls : Array Slot), LST D k A s H locs x0 ho pl rs to wt bo ma fa se ab he po sx be sa rc rb mr mpp af m0 m1 m2 f0 f1 f2 wtw wtv bow bov md ou hq ha hv pq pa pv oq za → lv_has ls 8 [(0, .ref b), (1, .ref x0), (2, .ref md), (3, .ref ou), (4, .int (nI i))] → W p l e room_1 s m #[Value.ref b] below meth c H locs (cells + 1) (slots + 6) Q (F0 m 1147 ls [])) (hI : lwI cn ov sta stl n wz bz lr lp sc zz FP FN AB HE PO SX R RB MR MP AF BE FO SE WF WG BF LF LG LP OU sn LR LQ CE RO RH RP IO w) (hw : bW (gU D k) A s H locs (LWW k x0 ho pl rs to wt bo ma fa se ab he po sx be sa rc rb mr mpp af m0 m1 m2 f0 f1 f2 wtw wtv bow bov md ou hq ha hv pq pa pv oq za th cn ov sta stl n wz bz sn lr lp sc zz FP FN AB HE PO SX R RB MR MP AF BE FO SE WF WG BF BG RS TO LF LG LP OU LR LQ CE RO RH RP IO w OUT)) (hl : lv_has ls 8 [(0, .ref b), (1, .ref x0), (2, .ref md), (3, .ref ou), (4, .int (nI i))]) {kk h : Nat} (hk : kk < cn) (hh : h < 36) (hov : ov ≤ h) (e3 : ¬ xs (i + 3) = 0) (e1 : xs (i + 1) = nI kk) (e2 : xs (i + 2) = nI h) : W p l e room_1 s m #[Value.ref b] below meth c H locs cells slots Q (F0 m 368 ls []) := by
  obtain ⟨hm, hE, hX, hbl, hbA, hL, htr⟩ := h0
  have hx := hm.1
  have hb := hm.2.1
  have hown := hm.2.2.2.2.1
  have hts := hm.2.2.2.2.2.1
  have y0 : cn ≤ 3 := hI.1.1
  have y1 : ov ≤ 36 := hI.2.1.2.2.2.2.2.1
  have y2 : stl ≤ 36 := hI.2.1.2.2.2.2.2.2.1
  have y3 : ∀ j, zz j ≤ 8 := fun j => (hI.2.2.2.1.1 j).2.2
  have y4 : sn < 512 := hI.1.2.1
  have y5 : ∀ j, LR j ≤ 4 ∧ LQ j ≤ 4 := fun j => (hI.2.2.2.1.2.2.2 j).1
  have y6 : ∀ j, FN j ≤ 100000 := hI.2.1.2.1.2.2.2.2.2.1
  have y7 : ∀ j, FP j ≤ 1000 := hI.2.1.2.1.2.2.2.2.1
  have y8 : ∀ j, CE j ≤ 100000 := fun j => (hI.2.2.2.1.2.2.2 j).2
  have y9 : wz ≤ 6 := hI.2.2.2.2.2.1.2
  have y10 : bz ≤ 36 := hI.2.2.2.2.2.2.1.1
  have y11 : ∀ j, lr j ≤ 4 ∧ lp j ≤ 4 := hI.2.1.1.2.2.1
  have y12 : ∀ j, j < cn → 1 ≤ lr j ∧ 1 ≤ lp j := hI.2.1.1.2.2.2.1
  have y13 : ∀ j, sc j ≤ 100000 := hI.2.2.2.1.2.1
  have y14 : ∀ j, SX j ≤ 300000 := hI.2.1.2.1.2.2.2.1
  have y15 : bxI R RB MR MP AF := hI.2.2.1
  have y16 : ∀ j, IO j = 0 ∨ IO j = 1 := hI.2.2.2.2.1.2.2.2
  have y95 : nI 1 = 0 ∨ nI 1 = 1 := Or.inr rfl
  have y96 : ∀ j, OU kk j = 0 ∨ OU kk j = 1 := hI.2.2.2.2.1.2.2.1 kk
  refine lv_aload_n hx hb d_Lw_law_368 rfl (lv_at hl 1 rfl) ?_
  refine lv_aload_n hx hb d_Lw_law_369 rfl (lv_at hl 0 rfl) ?_
  refine lv_iload hx hb d_Lw_law_370 (lv_at hl 4 rfl) ?_
  refine lv_iconst (v := nI 1) hx hb d_Lw_law_372 (by decide) ?_
  refine lv_iadd hx hb d_Lw_law_373 ?_
  refine b_ti (nI_add i 1) ?_
  refine b_sld (j := i + 1) hm hX hbl hbA hw (by omega) hL d_Lw_law_374 ?_
  refine b_ti e1 ?_
  refine lv_aload_n hx hb d_Lw_law_375 rfl (lv_at hl 0 rfl) ?_
  refine lv_iload hx hb d_Lw_law_376 (lv_at hl 4 rfl) ?_
  refine lv_iconst (v := nI 2) hx hb d_Lw_law_378 (by decide) ?_
  refine lv_iadd hx hb d_Lw_law_379 ?_
  refine b_ti (nI_add i 2) ?_
  refine b_sld (j := i + 2) hm hX hbl hbA hw (by omega) hL d_Lw_law_380 ?_
  refine b_ti e2 ?_
  refine lv_aload_n hx hb d_Lw_law_381 rfl (lv_at hl 0 rfl) ?_
  refine lv_iload hx hb d_Lw_law_382 (lv_at hl 4 rfl) ?_
  refine lv_iconst (v := nI 3) hx hb d_Lw_law_384 (by decide) ?_
  refine lv_iadd hx hb d_Lw_law_385 ?_
  refine b_ti (nI_add i 3) ?_
  refine b_sld (j := i + 3) hm hX hbl hbA hw (by omega) hL d_Lw_law_386 ?_
  refine lv_if_eq (tgt := 394) hx hb d_Lw_law_387 (by decide) (fun c_387_0 => ?_) (fun c_387_0 => ?_)
  · skip
    exact absurd c_387_0 e3
  · skip
    refine lv_iconst (v := nI 1) hx hb d_Lw_law_390 (by decide) ?_
    refine lv_goto (tgt := 395) hx hb d_Lw_law_391 (by decide) ?_
    refine lv_aload_n hx hb d_Lw_law_395 rfl (lv_at hl 3 rfl) ?_
    refine b_goi (wr := [(fa, .inl (k 4, 3, .inr (.inr (.inr (.inr (mAd f0 f1 f2)))))), (f0, .inl (k 0, 36, .inl FO)), (f1, .inl (k 0, 36, .inl (fun j => nI (FP j)))), (f2, .inl (k 0, 36, .inl (fun j => nI (FN j)))), (se, .inl (k 0, 36, .inl SE)), (ab, .inl (k 0, 36, .inl (fun j => nI (AB j)))), (he, .inl (k 0, 288, .inl (fun j => nI (HE j)))), (po, .inl (k 0, 288, .inl (fun j => nI (PO j)))), (sx, .inl (k 0, 8, .inl (fun j => nI (SX j)))), (be, .inl (k 1, 18944, .inr (.inl (fun j => oL (BE j))))), (sa, .inr (5, [.ref rc, .int (nI n), .ref rb, .ref mr, .ref mpp, .ref af])), (rc, .inl (k 0, 512, .inl (fun j => nI (R j)))), (rb, .inl (k 0, 512, .inl (fun j => nI (RB j)))), (mr, .inl (k 0, 512, .inl (fun j => nI (MR j)))), (mpp, .inl (k 0, 512, .inl (fun j => nI (MP j)))), (af, .inl (k 0, 4096, .inl (fun j => nI (AF j)))), (rs, .inl (k 0, 36, .inl RS)), (to, .inl (k 1, 4, .inr (.inl TO))), (wt, .inr (2, [.ref wtw, .ref wtv, .int (nI wz)])), (wtw, .inl (k 0, 6, .inl WF)), (wtv, .inl (k 0, 6, .inl WG)), (bo, .inr (0, [.ref bow, .int (nI bz), .ref bov])), (bow, .inl (k 0, 36, .inl BF)), (bov, .inl (k 0, 36, .inl BG)), (md, .inr (7, mdL za th cn ov sn (fK w) (fF w) (fC w) wz bz)), (za 2, .inl (k 0, 3, .inl (fun j => nI (LR j)))), (za 3, .inl (k 0, 3, .inl (fun j => nI (LQ j)))), (za 4, .inl (k 0, 3, .inl (fun j => nI (CE j)))), (za 5, .inl (k 0, 3, .inl (fun j => nI (zz j)))), (za 6, .inl (k 0, 24, .inl RO)), (za 7, .inl (k 0, 24, .inl RH)), (za 8, .inl (k 0, 24, .inl RP)), (za 9, .inl (k 0, 36, .inl FO)), (za 10, .inl (k 0, 36, .inl (fun j => nI (FP j)))), (za 11, .inl (k 0, 36, .inl (fun j => nI (FN j)))), (za 12, .inl (k 2, 108, .inl IO)), (za 14, .inl (k 0, 36, .inl RS)), (za 15, .inl (k 1, 4, .inr (.inl TO))), (za 17, .inl (k 2, 512, .inl (fun j => bI ((uTH (fV w)) j)))), (za 18, .inl (k 1, 512, .inr (.inl (fun j => lN ((uCO (fV w)) j))))), (za 19, .inl (k 0, 512, .inl (fun j => nI ((uRK (fV w)) j)))), (za 20, .inl (k 2, 512, .inl (fun j => bI ((uTX (fV w)) j)))), (za 21, .inl (k 1, 512, .inr (.inl (fun j => lN ((uCX (fV w)) j))))), (za 22, .inl (k 0, 512, .inl (fun j => nI ((uKX (fV w)) j)))), (za 23, .inl (k 0, 18432, .inl (fun j => nI ((uWY (fV w)) j)))), (za 24, .inl (k 2, 4096, .inl (fun j => bI ((uSE (fV w)) j)))), (za 25, .inl (k 0, 4096, .inl (fun j => nI ((uPL (fV w)) j)))), (za 26, .inl (k 0, 3, .inl (uHN (fV w)))), (za 27, .inl (k 0, 3, .inl (uPN (fV w)))), (za 30, .inl (k 0, 36, .inl (fun j => nI ((fPA w) j)))), (za 33, .inl (k 0, 6, .inl WF)), (za 34, .inl (k 0, 6, .inl WG)), (za 36, .inl (k 0, 36, .inl BF)), (za 37, .inl (k 0, 36, .inl BG))]) (b_runSH (n := 5) (As := [.ref x0, .int (nI kk), .int (nI h), .int (nI 1), .ref ou]) (rest := []) hm ut_T hE hw (h_out l D k _ x0 ho pl rs to wt bo ma fa cn se ab he po sx be sa ov sta stl m0 m1 m2 lr lp sc hq ha hv pq pa pv oq zz LF LG LP OU kk h (nI 1) (by assumption) (by assumption) (by assumption) (by assumption) (by assumption) (by assumption) (by assumption) ou OUT) k_472 k_470 k_471 k_0 ⟨by decide, by decide, by decide +kernel⟩ ⟨by decide, by decide⟩ [0, 31, 1, 2, 7, 8, 9, 10, 11, 12, 13, 14, 15, 16, 17, 18, 19, 20, 21, 22, 23, 24, 25, 26, 27, 28, 29, 30, 82] (by decide) rfl rfl hl.1 rfl (Nat.le_of_ble_eq_true rfl) d_Lw_law_396 ⟨by show cells + 0 ≤ room_1.cells; omega, by show slots + 0 ≤ room_1.slots; omega⟩) hw [0, 31, 1, 2, 7, 8, 9, 10, 11, 12, 13, 14, 15, 16, 17, 18, 19, 20, 21, 22, 23, 24, 25, 26, 27, 28, 29, 30, 82] [3, 4, 5, 6, 32, 33, 34, 35, 36, 37, 38, 39, 40, 41, 42, 43, 44, 45, 46, 47, 48, 49, 50, 51, 52, 53, 54, 55, 56, 57, 58, 59, 60, 61, 62, 63, 64, 65, 66, 67, 68, 69, 70, 71, 72, 73, 74, 75, 76, 77, 78, 79, 80, 81] rfl rfl (by decide) (by decide) (fun r9 u9 H locs hp9 hw => ?_)
    refine b_ti (y := nI 0) hp9.1 ?_
    have hp7 : u9.1 = OU kk h := hp9.2
    refine lv_istore (lv' := [(5, .int (nI 0)), (0, .ref b), (1, .ref x0), (2, .ref md), (3, .ref ou), (4, .int (nI i))]) hx hb d_Lw_law_399  hl (by decide) rfl (fun ls hl => ?_)
    refine lv_aload_n hx hb d_Lw_law_401 rfl (lv_at hl 3 rfl) ?_
    refine lv_aload_n hx hb d_Lw_law_402 rfl (lv_at hl 1 rfl) ?_
    refine lv_iload hx hb d_Lw_law_403 (lv_at hl 5 rfl) ?_
    refine lv_iconst (v := nI 1) hx hb d_Lw_law_405 (by decide) ?_
    refine lv_iadd hx hb d_Lw_law_406 ?_
    refine b_ti (nI_add i 1) ?_
    refine b_sld (j := i + 1) hm hX hbl hbA hw (by omega) hL d_Lw_law_407 ?_
    refine b_ti e1 ?_
    refine lv_aload_n hx hb d_Lw_law_408 rfl (lv_at hl 1 rfl) ?_
    refine lv_iload hx hb d_Lw_law_409 (lv_at hl 5 rfl) ?_
    refine lv_iconst (v := nI 2) hx hb d_Lw_law_411 (by decide) ?_
    refine lv_iadd hx hb d_Lw_law_412 ?_
    refine b_ti (nI_add i 2) ?_
    refine b_sld (j := i + 2) hm hX hbl hbA hw (by omega) hL d_Lw_law_413 ?_
    refine b_ti e2 ?_
    refine lv_aload_n hx hb d_Lw_law_414 rfl (lv_at hl 1 rfl) ?_
    refine lv_iload hx hb d_Lw_law_415 (lv_at hl 5 rfl) ?_
    refine lv_iconst (v := nI 3) hx hb d_Lw_law_417 (by decide) ?_
    refine lv_iadd hx hb d_Lw_law_418 ?_
    refine b_ti (nI_add i 3) ?_
    refine b_sld (j := i + 3) hm hX hbl hbA hw (by omega) hL d_Lw_law_419 ?_
    refine lv_if_eq (tgt := 427) hx hb d_Lw_law_420 (by decide) (fun c_420_1 => ?_) (fun c_420_1 => ?_)
    · skip
      exact absurd c_420_1 e3
    · skip
      refine lv_iconst (v := nI 1) hx hb d_Lw_law_423 (by decide) ?_
      refine lv_goto (tgt := 428) hx hb d_Lw_law_424 (by decide) ?_
      refine b_goi (wr := [(fa, .inl (k 4, 3, .inr (.inr (.inr (.inr (mAd f0 f1 f2)))))), (f0, .inl (k 0, 36, .inl FO)), (f1, .inl (k 0, 36, .inl (fun j => nI (FP j)))), (f2, .inl (k 0, 36, .inl (fun j => nI (FN j)))), (se, .inl (k 0, 36, .inl SE)), (ab, .inl (k 0, 36, .inl (fun j => nI (AB j)))), (he, .inl (k 0, 288, .inl (fun j => nI (HE j)))), (po, .inl (k 0, 288, .inl (fun j => nI (PO j)))), (sx, .inl (k 0, 8, .inl (fun j => nI (SX j)))), (be, .inl (k 1, 18944, .inr (.inl (fun j => oL (BE j))))), (sa, .inr (5, [.ref rc, .int (nI n), .ref rb, .ref mr, .ref mpp, .ref af])), (rc, .inl (k 0, 512, .inl (fun j => nI (R j)))), (rb, .inl (k 0, 512, .inl (fun j => nI (RB j)))), (mr, .inl (k 0, 512, .inl (fun j => nI (MR j)))), (mpp, .inl (k 0, 512, .inl (fun j => nI (MP j)))), (af, .inl (k 0, 4096, .inl (fun j => nI (AF j)))), (rs, .inl (k 0, 36, .inl RS)), (to, .inl (k 1, 4, .inr (.inl TO))), (wt, .inr (2, [.ref wtw, .ref wtv, .int (nI wz)])), (wtw, .inl (k 0, 6, .inl WF)), (wtv, .inl (k 0, 6, .inl WG)), (bo, .inr (0, [.ref bow, .int (nI bz), .ref bov])), (bow, .inl (k 0, 36, .inl BF)), (bov, .inl (k 0, 36, .inl BG)), (za 2, .inl (k 0, 3, .inl (fun j => nI (LR j)))), (za 3, .inl (k 0, 3, .inl (fun j => nI (LQ j)))), (za 4, .inl (k 0, 3, .inl (fun j => nI (CE j)))), (za 5, .inl (k 0, 3, .inl (fun j => nI (zz j)))), (za 6, .inl (k 0, 24, .inl RO)), (za 7, .inl (k 0, 24, .inl RH)), (za 8, .inl (k 0, 24, .inl RP)), (za 9, .inl (k 0, 36, .inl FO)), (za 10, .inl (k 0, 36, .inl (fun j => nI (FP j)))), (za 11, .inl (k 0, 36, .inl (fun j => nI (FN j)))), (za 14, .inl (k 0, 36, .inl RS)), (za 15, .inl (k 1, 4, .inr (.inl TO))), (za 17, .inl (k 2, 512, .inl (fun j => bI ((uTH (fV w)) j)))), (za 18, .inl (k 1, 512, .inr (.inl (fun j => lN ((uCO (fV w)) j))))), (za 19, .inl (k 0, 512, .inl (fun j => nI ((uRK (fV w)) j)))), (za 20, .inl (k 2, 512, .inl (fun j => bI ((uTX (fV w)) j)))), (za 21, .inl (k 1, 512, .inr (.inl (fun j => lN ((uCX (fV w)) j))))), (za 22, .inl (k 0, 512, .inl (fun j => nI ((uKX (fV w)) j)))), (za 23, .inl (k 0, 18432, .inl (fun j => nI ((uWY (fV w)) j)))), (za 24, .inl (k 2, 4096, .inl (fun j => bI ((uSE (fV w)) j)))), (za 25, .inl (k 0, 4096, .inl (fun j => nI ((uPL (fV w)) j)))), (za 26, .inl (k 0, 3, .inl (uHN (fV w)))), (za 27, .inl (k 0, 3, .inl (uPN (fV w)))), (za 30, .inl (k 0, 36, .inl (fun j => nI ((fPA w) j)))), (za 33, .inl (k 0, 6, .inl WF)), (za 34, .inl (k 0, 6, .inl WG)), (za 36, .inl (k 0, 36, .inl BF)), (za 37, .inl (k 0, 36, .inl BG)), (x0, .inr (6, [.ref pl, .ref ho, .ref rs, .ref to, .ref wt, .ref bo])), (pl, .inr (4, [.ref ho, .ref sa, .int (nI ov), .int (nI sta), .int (nI (if stl < h + 1 then h + 1 else stl)), .ref se, .ref ab, .ref he, .ref po, .ref sx, .ref be])), (ho, .inr (1, [.ref ma, .int (nI cn), .ref fa])), (ma, .inl (k 3, 3, .inr (.inr (.inr (.inr (mAd m0 m1 m2)))))), (m0, .inr (3, [.int (nI (lr 0)), .int (nI (lp 0)), .int (nI (sc 0)), .ref (hq 0), .ref (pq 0), .ref (oq 0)])), (hq 0, .inr (2, [.ref (ha 0), .ref (hv 0), .int (nI (zz 0))])), (ha 0, .inl (k 0, 8, .inl (LF 0))), (hv 0, .inl (k 0, 8, .inl (LG 0))), (pq 0, .inr (2, [.ref (pa 0), .ref (pv 0), .int (nI (zz 0))])), (pa 0, .inl (k 0, 8, .inl (LF 0))), (pv 0, .inl (k 0, 8, .inl (LP 0))), (oq 0, .inl (k 2, 36, .inl (va_up OU kk (upd (OU kk) h (nI 1)) 0))), (m1, .inr (3, [.int (nI (lr 1)), .int (nI (lp 1)), .int (nI (sc 1)), .ref (hq 1), .ref (pq 1), .ref (oq 1)])), (hq 1, .inr (2, [.ref (ha 1), .ref (hv 1), .int (nI (zz 1))])), (ha 1, .inl (k 0, 8, .inl (LF 1))), (hv 1, .inl (k 0, 8, .inl (LG 1))), (pq 1, .inr (2, [.ref (pa 1), .ref (pv 1), .int (nI (zz 1))])), (pa 1, .inl (k 0, 8, .inl (LF 1))), (pv 1, .inl (k 0, 8, .inl (LP 1))), (oq 1, .inl (k 2, 36, .inl (va_up OU kk (upd (OU kk) h (nI 1)) 1))), (m2, .inr (3, [.int (nI (lr 2)), .int (nI (lp 2)), .int (nI (sc 2)), .ref (hq 2), .ref (pq 2), .ref (oq 2)])), (hq 2, .inr (2, [.ref (ha 2), .ref (hv 2), .int (nI (zz 2))])), (ha 2, .inl (k 0, 8, .inl (LF 2))), (hv 2, .inl (k 0, 8, .inl (LG 2))), (pq 2, .inr (2, [.ref (pa 2), .ref (pv 2), .int (nI (zz 2))])), (pa 2, .inl (k 0, 8, .inl (LF 2))), (pv 2, .inl (k 0, 8, .inl (LP 2))), (oq 2, .inl (k 2, 36, .inl (va_up OU kk (upd (OU kk) h (nI 1)) 2))), (ou, .inl (k 1, 1, .inr (.inl (vp_updL OUT 0 (if u9.1 = 0 then 0 else 1)))))]) (b_runV (As := [.int (nI kk), .int (nI h), .int (nI 1)]) (rest := []) (q0 := 24) hm hw (cwV 3 hts (gV ut_T k_750 k_747 k_748 (k_749) k_9) rfl rfl rfl (by decide +kernel) ⟨by decide, by decide⟩) (c_Md_out l D k _ md za th cn ov sn (fK w) (fF w) (fC w) wz bz IO kk h (nI 1) (by assumption) (by assumption) (by assumption) (by assumption) (by assumption) (by assumption)) [24, 35] (by decide) rfl rfl rfl rfl hl.1 rfl (Nat.le_of_ble_eq_true rfl) d_Lw_law_428 ⟨by show cells + 0 + 0 ≤ room_1.cells; omega, by show slots + 0 + 0 ≤ room_1.slots; omega⟩) hw [24, 35] [0, 1, 2, 3, 4, 5, 6, 7, 8, 9, 10, 11, 12, 13, 14, 15, 16, 17, 18, 19, 20, 21, 22, 23, 25, 26, 27, 28, 29, 30, 31, 32, 33, 34, 36, 37, 38, 39, 40, 41, 42, 43, 44, 45, 46, 47, 48, 49, 50, 51, 52, 53, 54, 55, 56, 57, 58, 59, 60, 61, 62, 63, 64, 65, 66, 67, 68, 69, 70, 71, 72, 73, 74, 75, 76, 77, 78, 79, 80, 81, 82] rfl rfl (by decide) (by decide) (fun r8 u8 H locs hp8 hw => ?_)
      have hp6 : r8 = IO (36 * kk + h) := hp8
      have heq : u9.1 = r8 := hp7.trans ((hI.2.2.2.2.1.2.1 kk h (by omega) hh).symm.trans hp6.symm)
      refine lv_istore (lv' := [(6, .int r8), (5, .int (nI 0)), (0, .ref b), (1, .ref x0), (2, .ref md), (3, .ref ou), (4, .int (nI i))]) hx hb d_Lw_law_431  hl (by decide) rfl (fun ls hl => ?_)
      refine lv_aload_n hx hb d_Lw_law_433 rfl (lv_at hl 4 rfl) ?_
      refine b_goiR (b_runV (As := []) (rest := []) (q0 := 81) hm hw (cwV 0 hts (gV ut_T k_726 k_723 k_724 (k_725) k_9) rfl rfl rfl (by decide +kernel) ⟨by decide, by decide⟩) (c_Md_thrown l D k _ md za 0 cn ov sn 0 (fF w) (fC w) wz bz) [81] (by decide) rfl rfl rfl rfl hl.1 rfl (Nat.le_of_ble_eq_true rfl) d_Lw_law_434 ⟨by show cells + 0 + 0 + 0 ≤ room_1.cells; omega, by show slots + 0 + 0 + 0 ≤ room_1.slots; omega⟩) hw [81] rfl (fun r5 u5 H locs hp5 hw => ?_)
      refine b_ti (y := nI 0) hp5 ?_
      refine lv_iload hx hb d_Lw_law_437 (lv_at hl 1 rfl) ?_
      refine lv_icmp_eq (tgt := 444) hx hb d_Lw_law_439 (by decide) (fun c_439_2 => ?_) (fun c_439_2 => ?_)
      · skip
        refine lv_iload hx hb d_Lw_law_444 (lv_at hl 1 rfl) ?_
        refine lv_if_ne (tgt := 468) hx hb d_Lw_law_446 (by decide) (fun c_446_3 => ?_) (fun c_446_3 => ?_)
        · skip
          exact absurd c_446_3 (by decide)
        · skip
          refine lv_aload_n hx hb d_Lw_law_449 rfl (lv_at hl 5 rfl) ?_
          refine lv_iconst (v := nI 0) hx hb d_Lw_law_450 (by decide) ?_
          refine b_lald (i := 0) hm hw 80 1 rfl rfl (by omega) (by omega) d_Lw_law_451 ?_
          refine b_tl (y := (if u9.1 = 0 then 0 else 1)) (updL_s _ _ _) ?_
          refine lv_iload hx hb d_Lw_law_452 (lv_at hl 0 rfl) ?_
          refine lv_if_eq (tgt := 461) hx hb d_Lw_law_454 (by decide) (fun c_454_4 => ?_) (fun c_454_4 => ?_)
          · skip
            refine lv_lconst (v := 0) hx hb d_Lw_law_461 (by decide) ?_
            refine W.lcmp hx hb d_Lw_law_462 ?_
            refine lv_if_eq (tgt := 468) hx hb d_Lw_law_463 (by decide) (fun c_463_5 => ?_) (fun c_463_5 => ?_)
            · skip
              refine lv_goto (tgt := 1147) hx hb d_Lw_law_468 (by decide) ?_
              refine W.widen (k := cells + 1) (n := slots + 6) (by show cells + 0 + 0 + 0 ≤ cells + 1; omega) (by show slots + 0 + 0 + 0 ≤ slots + 6; omega) ?_
              refine kx H locs ls (LST_mk (th := 0) (cn := cn) (ov := ov) (sta := sta) (stl := if stl < h + 1 then h + 1 else stl) (n := n) (wz := wz) (bz := bz) (sn := sn) (lr := lr) (lp := lp) (sc := sc) (zz := zz) (FP := FP) (FN := FN) (AB := AB) (HE := HE) (PO := PO) (SX := SX) (R := R) (RB := RB) (MR := MR) (MP := MP) (AF := AF) (BE := BE) (FO := FO) (SE := SE) (WF := WF) (WG := WG) (BF := BF) (BG := BG) (RS := RS) (TO := TO) (LF := LF) (LG := LG) (LP := LP) (OU := va_up OU kk (upd (OU kk) h (nI 1))) (LR := LR) (LQ := LQ) (CE := CE) (RO := RO) (RH := RH) (RP := RP) (IO := upd IO (36 * kk + h) (nI 1)) (w := (w.1, w.2.1, w.2.2.1, 0, w.2.2.2.2)) (OUT := vp_updL OUT 0 (if u9.1 = 0 then 0 else 1)) (hI := lw_out hI hh hk y95) (hw.sub [52, 54, 55, 0, 1, 2, 3, 56, 57, 58, 59, 60, 61, 62, 63, 64, 65, 66, 67, 68, 69, 70, 71, 72, 73, 74, 75, 76, 77, 78, 79, 53, 4, 5, 6, 7, 8, 9, 10, 11, 12, 13, 14, 15, 16, 17, 18, 19, 20, 21, 22, 23, 81, 24, 25, 26, 27, 28, 29, 30, 31, 32, 33, 82, 34, 35, 36, 37, 38, 39, 40, 41, 42, 43, 44, 45, 46, 47, 48, 49, 50, 51, 80] (by decide) rfl)) (lv_sub hl [2, 3, 4, 5, 6] rfl)
            · skip
              first | exact absurd (out_0 heq (by assumption)) c_463_5 | exact absurd (out_1 heq (by assumption)) c_463_5
          · skip
            refine lv_lconst (v := 1) hx hb d_Lw_law_457 (by decide) ?_
            refine lv_goto (tgt := 462) hx hb d_Lw_law_458 (by decide) ?_
            refine W.lcmp hx hb d_Lw_law_462 ?_
            refine lv_if_eq (tgt := 468) hx hb d_Lw_law_463 (by decide) (fun c_463_6 => ?_) (fun c_463_6 => ?_)
            · skip
              refine lv_goto (tgt := 1147) hx hb d_Lw_law_468 (by decide) ?_
              refine W.widen (k := cells + 1) (n := slots + 6) (by show cells + 0 + 0 + 0 ≤ cells + 1; omega) (by show slots + 0 + 0 + 0 ≤ slots + 6; omega) ?_
              refine kx H locs ls (LST_mk (th := 0) (cn := cn) (ov := ov) (sta := sta) (stl := if stl < h + 1 then h + 1 else stl) (n := n) (wz := wz) (bz := bz) (sn := sn) (lr := lr) (lp := lp) (sc := sc) (zz := zz) (FP := FP) (FN := FN) (AB := AB) (HE := HE) (PO := PO) (SX := SX) (R := R) (RB := RB) (MR := MR) (MP := MP) (AF := AF) (BE := BE) (FO := FO) (SE := SE) (WF := WF) (WG := WG) (BF := BF) (BG := BG) (RS := RS) (TO := TO) (LF := LF) (LG := LG) (LP := LP) (OU := va_up OU kk (upd (OU kk) h (nI 1))) (LR := LR) (LQ := LQ) (CE := CE) (RO := RO) (RH := RH) (RP := RP) (IO := upd IO (36 * kk + h) (nI 1)) (w := (w.1, w.2.1, w.2.2.1, 0, w.2.2.2.2)) (OUT := vp_updL OUT 0 (if u9.1 = 0 then 0 else 1)) (hI := lw_out hI hh hk y95) (hw.sub [52, 54, 55, 0, 1, 2, 3, 56, 57, 58, 59, 60, 61, 62, 63, 64, 65, 66, 67, 68, 69, 70, 71, 72, 73, 74, 75, 76, 77, 78, 79, 53, 4, 5, 6, 7, 8, 9, 10, 11, 12, 13, 14, 15, 16, 17, 18, 19, 20, 21, 22, 23, 81, 24, 25, 26, 27, 28, 29, 30, 31, 32, 33, 82, 34, 35, 36, 37, 38, 39, 40, 41, 42, 43, 44, 45, 46, 47, 48, 49, 50, 51, 80] (by decide) rfl)) (lv_sub hl [2, 3, 4, 5, 6] rfl)
            · skip
              first | exact absurd (out_0 heq (by assumption)) c_463_6 | exact absurd (out_1 heq (by assumption)) c_463_6
      · skip
        exact absurd c_439_2 (by decide)

set_option maxHeartbeats 4000000 in
set_option maxRecDepth 100000 in
theorem L_out_t11 (h0 : LwH p l s m meth c A b L xs) (hi5 : i + 5 ≤ L) (hf : cells + 1 ≤ room_1.cells ∧ slots + 6 ≤ room_1.slots) (kx : ∀ (H : Heap) (locs : List Loc) (ls : Array Slot), LST D k A s H locs x0 ho pl rs to wt bo ma fa se ab he po sx be sa rc rb mr mpp af m0 m1 m2 f0 f1 f2 wtw wtv bow bov md ou hq ha hv pq pa pv oq za → lv_has ls 8 [(0, .ref b), (1, .ref x0), (2, .ref md), (3, .ref ou), (4, .int (nI i))] → W p l e room_1 s m #[Value.ref b] below meth c H locs (cells + 1) (slots + 6) Q (F0 m 1147 ls [])) (hI : lwI cn ov sta stl n wz bz lr lp sc zz FP FN AB HE PO SX R RB MR MP AF BE FO SE WF WG BF LF LG LP OU sn LR LQ CE RO RH RP IO w) (hw : bW (gU D k) A s H locs (LWW k x0 ho pl rs to wt bo ma fa se ab he po sx be sa rc rb mr mpp af m0 m1 m2 f0 f1 f2 wtw wtv bow bov md ou hq ha hv pq pa pv oq za th cn ov sta stl n wz bz sn lr lp sc zz FP FN AB HE PO SX R RB MR MP AF BE FO SE WF WG BF BG RS TO LF LG LP OU LR LQ CE RO RH RP IO w OUT)) (hl : lv_has ls 8 [(0, .ref b), (1, .ref x0), (2, .ref md), (3, .ref ou), (4, .int (nI i))]) (hv9 : ¬ ((nI 0 ≤ (xs (i + 1)) ∧ (xs (i + 1)) < nI cn) ∧ (nI 0 ≤ (xs (i + 2)) ∧ (xs (i + 2)) ≤ nI 35))) (e3 : ¬ xs (i + 3) = 0)  : W p l e room_1 s m #[Value.ref b] below meth c H locs cells slots Q (F0 m 368 ls []) := by
  obtain ⟨hm, hE, hX, hbl, hbA, hL, htr⟩ := h0
  have hx := hm.1
  have hb := hm.2.1
  have hown := hm.2.2.2.2.1
  have hts := hm.2.2.2.2.2.1
  have y0 : cn ≤ 3 := hI.1.1
  have y1 : ov ≤ 36 := hI.2.1.2.2.2.2.2.1
  have y2 : stl ≤ 36 := hI.2.1.2.2.2.2.2.2.1
  have y3 : ∀ j, zz j ≤ 8 := fun j => (hI.2.2.2.1.1 j).2.2
  have y4 : sn < 512 := hI.1.2.1
  have y5 : ∀ j, LR j ≤ 4 ∧ LQ j ≤ 4 := fun j => (hI.2.2.2.1.2.2.2 j).1
  have y6 : ∀ j, FN j ≤ 100000 := hI.2.1.2.1.2.2.2.2.2.1
  have y7 : ∀ j, FP j ≤ 1000 := hI.2.1.2.1.2.2.2.2.1
  have y8 : ∀ j, CE j ≤ 100000 := fun j => (hI.2.2.2.1.2.2.2 j).2
  have y9 : wz ≤ 6 := hI.2.2.2.2.2.1.2
  have y10 : bz ≤ 36 := hI.2.2.2.2.2.2.1.1
  have y11 : ∀ j, lr j ≤ 4 ∧ lp j ≤ 4 := hI.2.1.1.2.2.1
  have y12 : ∀ j, j < cn → 1 ≤ lr j ∧ 1 ≤ lp j := hI.2.1.1.2.2.2.1
  have y13 : ∀ j, sc j ≤ 100000 := hI.2.2.2.1.2.1
  have y14 : ∀ j, SX j ≤ 300000 := hI.2.1.2.1.2.2.2.1
  have y15 : bxI R RB MR MP AF := hI.2.2.1
  have y16 : ∀ j, IO j = 0 ∨ IO j = 1 := hI.2.2.2.2.1.2.2.2
  refine lv_aload_n hx hb d_Lw_law_368 rfl (lv_at hl 1 rfl) ?_
  refine lv_aload_n hx hb d_Lw_law_369 rfl (lv_at hl 0 rfl) ?_
  refine lv_iload hx hb d_Lw_law_370 (lv_at hl 4 rfl) ?_
  refine lv_iconst (v := nI 1) hx hb d_Lw_law_372 (by decide) ?_
  refine lv_iadd hx hb d_Lw_law_373 ?_
  refine b_ti (nI_add i 1) ?_
  refine b_sld (j := i + 1) hm hX hbl hbA hw (by omega) hL d_Lw_law_374 ?_
  refine lv_aload_n hx hb d_Lw_law_375 rfl (lv_at hl 0 rfl) ?_
  refine lv_iload hx hb d_Lw_law_376 (lv_at hl 4 rfl) ?_
  refine lv_iconst (v := nI 2) hx hb d_Lw_law_378 (by decide) ?_
  refine lv_iadd hx hb d_Lw_law_379 ?_
  refine b_ti (nI_add i 2) ?_
  refine b_sld (j := i + 2) hm hX hbl hbA hw (by omega) hL d_Lw_law_380 ?_
  refine lv_aload_n hx hb d_Lw_law_381 rfl (lv_at hl 0 rfl) ?_
  refine lv_iload hx hb d_Lw_law_382 (lv_at hl 4 rfl) ?_
  refine lv_iconst (v := nI 3) hx hb d_Lw_law_384 (by decide) ?_
  refine lv_iadd hx hb d_Lw_law_385 ?_
  refine b_ti (nI_add i 3) ?_
  refine b_sld (j := i + 3) hm hX hbl hbA hw (by omega) hL d_Lw_law_386 ?_
  refine lv_if_eq (tgt := 394) hx hb d_Lw_law_387 (by decide) (fun c_387_0 => ?_) (fun c_387_0 => ?_)
  · skip
    exact absurd c_387_0 e3
  · skip
    refine lv_iconst (v := nI 1) hx hb d_Lw_law_390 (by decide) ?_
    refine lv_goto (tgt := 395) hx hb d_Lw_law_391 (by decide) ?_
    refine lv_aload_n hx hb d_Lw_law_395 rfl (lv_at hl 3 rfl) ?_
    refine b_goi (wr := [(ma, .inl (k 3, 3, .inr (.inr (.inr (.inr (mAd m0 m1 m2)))))), (fa, .inl (k 4, 3, .inr (.inr (.inr (.inr (mAd f0 f1 f2)))))), (f0, .inl (k 0, 36, .inl FO)), (f1, .inl (k 0, 36, .inl (fun j => nI (FP j)))), (f2, .inl (k 0, 36, .inl (fun j => nI (FN j)))), (m0, .inr (3, [.int (nI (lr 0)), .int (nI (lp 0)), .int (nI (sc 0)), .ref (hq 0), .ref (pq 0), .ref (oq 0)])), (hq 0, .inr (2, [.ref (ha 0), .ref (hv 0), .int (nI (zz 0))])), (ha 0, .inl (k 0, 8, .inl (LF 0))), (hv 0, .inl (k 0, 8, .inl (LG 0))), (pq 0, .inr (2, [.ref (pa 0), .ref (pv 0), .int (nI (zz 0))])), (pa 0, .inl (k 0, 8, .inl (LF 0))), (pv 0, .inl (k 0, 8, .inl (LP 0))), (oq 0, .inl (k 2, 36, .inl (OU 0))), (m1, .inr (3, [.int (nI (lr 1)), .int (nI (lp 1)), .int (nI (sc 1)), .ref (hq 1), .ref (pq 1), .ref (oq 1)])), (hq 1, .inr (2, [.ref (ha 1), .ref (hv 1), .int (nI (zz 1))])), (ha 1, .inl (k 0, 8, .inl (LF 1))), (hv 1, .inl (k 0, 8, .inl (LG 1))), (pq 1, .inr (2, [.ref (pa 1), .ref (pv 1), .int (nI (zz 1))])), (pa 1, .inl (k 0, 8, .inl (LF 1))), (pv 1, .inl (k 0, 8, .inl (LP 1))), (oq 1, .inl (k 2, 36, .inl (OU 1))), (m2, .inr (3, [.int (nI (lr 2)), .int (nI (lp 2)), .int (nI (sc 2)), .ref (hq 2), .ref (pq 2), .ref (oq 2)])), (hq 2, .inr (2, [.ref (ha 2), .ref (hv 2), .int (nI (zz 2))])), (ha 2, .inl (k 0, 8, .inl (LF 2))), (hv 2, .inl (k 0, 8, .inl (LG 2))), (pq 2, .inr (2, [.ref (pa 2), .ref (pv 2), .int (nI (zz 2))])), (pa 2, .inl (k 0, 8, .inl (LF 2))), (pv 2, .inl (k 0, 8, .inl (LP 2))), (oq 2, .inl (k 2, 36, .inl (OU 2))), (pl, .inr (4, [.ref ho, .ref sa, .int (nI ov), .int (nI sta), .int (nI stl), .ref se, .ref ab, .ref he, .ref po, .ref sx, .ref be])), (se, .inl (k 0, 36, .inl SE)), (ab, .inl (k 0, 36, .inl (fun j => nI (AB j)))), (he, .inl (k 0, 288, .inl (fun j => nI (HE j)))), (po, .inl (k 0, 288, .inl (fun j => nI (PO j)))), (sx, .inl (k 0, 8, .inl (fun j => nI (SX j)))), (be, .inl (k 1, 18944, .inr (.inl (fun j => oL (BE j))))), (sa, .inr (5, [.ref rc, .int (nI n), .ref rb, .ref mr, .ref mpp, .ref af])), (rc, .inl (k 0, 512, .inl (fun j => nI (R j)))), (rb, .inl (k 0, 512, .inl (fun j => nI (RB j)))), (mr, .inl (k 0, 512, .inl (fun j => nI (MR j)))), (mpp, .inl (k 0, 512, .inl (fun j => nI (MP j)))), (af, .inl (k 0, 4096, .inl (fun j => nI (AF j)))), (rs, .inl (k 0, 36, .inl RS)), (to, .inl (k 1, 4, .inr (.inl TO))), (wt, .inr (2, [.ref wtw, .ref wtv, .int (nI wz)])), (wtw, .inl (k 0, 6, .inl WF)), (wtv, .inl (k 0, 6, .inl WG)), (bo, .inr (0, [.ref bow, .int (nI bz), .ref bov])), (bow, .inl (k 0, 36, .inl BF)), (bov, .inl (k 0, 36, .inl BG)), (md, .inr (7, mdL za th cn ov sn (fK w) (fF w) (fC w) wz bz)), (za 2, .inl (k 0, 3, .inl (fun j => nI (LR j)))), (za 3, .inl (k 0, 3, .inl (fun j => nI (LQ j)))), (za 4, .inl (k 0, 3, .inl (fun j => nI (CE j)))), (za 5, .inl (k 0, 3, .inl (fun j => nI (zz j)))), (za 6, .inl (k 0, 24, .inl RO)), (za 7, .inl (k 0, 24, .inl RH)), (za 8, .inl (k 0, 24, .inl RP)), (za 9, .inl (k 0, 36, .inl FO)), (za 10, .inl (k 0, 36, .inl (fun j => nI (FP j)))), (za 11, .inl (k 0, 36, .inl (fun j => nI (FN j)))), (za 12, .inl (k 2, 108, .inl IO)), (za 14, .inl (k 0, 36, .inl RS)), (za 15, .inl (k 1, 4, .inr (.inl TO))), (za 17, .inl (k 2, 512, .inl (fun j => bI ((uTH (fV w)) j)))), (za 18, .inl (k 1, 512, .inr (.inl (fun j => lN ((uCO (fV w)) j))))), (za 19, .inl (k 0, 512, .inl (fun j => nI ((uRK (fV w)) j)))), (za 20, .inl (k 2, 512, .inl (fun j => bI ((uTX (fV w)) j)))), (za 21, .inl (k 1, 512, .inr (.inl (fun j => lN ((uCX (fV w)) j))))), (za 22, .inl (k 0, 512, .inl (fun j => nI ((uKX (fV w)) j)))), (za 23, .inl (k 0, 18432, .inl (fun j => nI ((uWY (fV w)) j)))), (za 24, .inl (k 2, 4096, .inl (fun j => bI ((uSE (fV w)) j)))), (za 25, .inl (k 0, 4096, .inl (fun j => nI ((uPL (fV w)) j)))), (za 26, .inl (k 0, 3, .inl (uHN (fV w)))), (za 27, .inl (k 0, 3, .inl (uPN (fV w)))), (za 30, .inl (k 0, 36, .inl (fun j => nI ((fPA w) j)))), (za 33, .inl (k 0, 6, .inl WF)), (za 34, .inl (k 0, 6, .inl WG)), (za 36, .inl (k 0, 36, .inl BF)), (za 37, .inl (k 0, 36, .inl BG))]) (b_runSH (n := 5) (As := [.ref x0, .int (xs (i + 1)), .int (xs (i + 2)), .int (nI 1), .ref ou]) (rest := []) hm ut_T hE hw (h_out_t1 l htr D k _ x0 ho pl rs to wt bo ma fa cn (by assumption) (xs (i + 1)) (xs (i + 2)) (nI 1) (by assumption) ou OUT) k_472 k_470 k_471 k_0 ⟨by decide, by decide, by decide +kernel⟩ ⟨by decide, by decide⟩ [0, 1, 82] (by decide) rfl rfl hl.1 rfl (Nat.le_of_ble_eq_true rfl) d_Lw_law_396 ⟨by show cells + 1 ≤ room_1.cells; omega, by show slots + 6 ≤ room_1.slots; omega⟩) hw [0, 1, 82] [2, 3, 4, 5, 6, 7, 8, 9, 10, 11, 12, 13, 14, 15, 16, 17, 18, 19, 20, 21, 22, 23, 24, 25, 26, 27, 28, 29, 30, 31, 32, 33, 34, 35, 36, 37, 38, 39, 40, 41, 42, 43, 44, 45, 46, 47, 48, 49, 50, 51, 52, 53, 54, 55, 56, 57, 58, 59, 60, 61, 62, 63, 64, 65, 66, 67, 68, 69, 70, 71, 72, 73, 74, 75, 76, 77, 78, 79, 80, 81] rfl rfl (by decide) (by decide) (fun r9 u9 H locs hp9 hw => ?_)
    refine b_ti (y := nI 1) hp9 ?_
    refine lv_istore (lv' := [(5, .int (nI 1)), (0, .ref b), (1, .ref x0), (2, .ref md), (3, .ref ou), (4, .int (nI i))]) hx hb d_Lw_law_399  hl (by decide) rfl (fun ls hl => ?_)
    refine lv_aload_n hx hb d_Lw_law_401 rfl (lv_at hl 3 rfl) ?_
    refine lv_aload_n hx hb d_Lw_law_402 rfl (lv_at hl 1 rfl) ?_
    refine lv_iload hx hb d_Lw_law_403 (lv_at hl 5 rfl) ?_
    refine lv_iconst (v := nI 1) hx hb d_Lw_law_405 (by decide) ?_
    refine lv_iadd hx hb d_Lw_law_406 ?_
    refine b_ti (nI_add i 1) ?_
    refine b_sld (j := i + 1) hm hX hbl hbA hw (by omega) hL d_Lw_law_407 ?_
    refine lv_aload_n hx hb d_Lw_law_408 rfl (lv_at hl 1 rfl) ?_
    refine lv_iload hx hb d_Lw_law_409 (lv_at hl 5 rfl) ?_
    refine lv_iconst (v := nI 2) hx hb d_Lw_law_411 (by decide) ?_
    refine lv_iadd hx hb d_Lw_law_412 ?_
    refine b_ti (nI_add i 2) ?_
    refine b_sld (j := i + 2) hm hX hbl hbA hw (by omega) hL d_Lw_law_413 ?_
    refine lv_aload_n hx hb d_Lw_law_414 rfl (lv_at hl 1 rfl) ?_
    refine lv_iload hx hb d_Lw_law_415 (lv_at hl 5 rfl) ?_
    refine lv_iconst (v := nI 3) hx hb d_Lw_law_417 (by decide) ?_
    refine lv_iadd hx hb d_Lw_law_418 ?_
    refine b_ti (nI_add i 3) ?_
    refine b_sld (j := i + 3) hm hX hbl hbA hw (by omega) hL d_Lw_law_419 ?_
    refine lv_if_eq (tgt := 427) hx hb d_Lw_law_420 (by decide) (fun c_420_1 => ?_) (fun c_420_1 => ?_)
    · skip
      exact absurd c_420_1 e3
    · skip
      refine lv_iconst (v := nI 1) hx hb d_Lw_law_423 (by decide) ?_
      refine lv_goto (tgt := 428) hx hb d_Lw_law_424 (by decide) ?_
      refine b_goi (wr := [(ma, .inl (k 3, 3, .inr (.inr (.inr (.inr (mAd m0 m1 m2)))))), (fa, .inl (k 4, 3, .inr (.inr (.inr (.inr (mAd f0 f1 f2)))))), (f0, .inl (k 0, 36, .inl FO)), (f1, .inl (k 0, 36, .inl (fun j => nI (FP j)))), (f2, .inl (k 0, 36, .inl (fun j => nI (FN j)))), (m0, .inr (3, [.int (nI (lr 0)), .int (nI (lp 0)), .int (nI (sc 0)), .ref (hq 0), .ref (pq 0), .ref (oq 0)])), (hq 0, .inr (2, [.ref (ha 0), .ref (hv 0), .int (nI (zz 0))])), (ha 0, .inl (k 0, 8, .inl (LF 0))), (hv 0, .inl (k 0, 8, .inl (LG 0))), (pq 0, .inr (2, [.ref (pa 0), .ref (pv 0), .int (nI (zz 0))])), (pa 0, .inl (k 0, 8, .inl (LF 0))), (pv 0, .inl (k 0, 8, .inl (LP 0))), (oq 0, .inl (k 2, 36, .inl (OU 0))), (m1, .inr (3, [.int (nI (lr 1)), .int (nI (lp 1)), .int (nI (sc 1)), .ref (hq 1), .ref (pq 1), .ref (oq 1)])), (hq 1, .inr (2, [.ref (ha 1), .ref (hv 1), .int (nI (zz 1))])), (ha 1, .inl (k 0, 8, .inl (LF 1))), (hv 1, .inl (k 0, 8, .inl (LG 1))), (pq 1, .inr (2, [.ref (pa 1), .ref (pv 1), .int (nI (zz 1))])), (pa 1, .inl (k 0, 8, .inl (LF 1))), (pv 1, .inl (k 0, 8, .inl (LP 1))), (oq 1, .inl (k 2, 36, .inl (OU 1))), (m2, .inr (3, [.int (nI (lr 2)), .int (nI (lp 2)), .int (nI (sc 2)), .ref (hq 2), .ref (pq 2), .ref (oq 2)])), (hq 2, .inr (2, [.ref (ha 2), .ref (hv 2), .int (nI (zz 2))])), (ha 2, .inl (k 0, 8, .inl (LF 2))), (hv 2, .inl (k 0, 8, .inl (LG 2))), (pq 2, .inr (2, [.ref (pa 2), .ref (pv 2), .int (nI (zz 2))])), (pa 2, .inl (k 0, 8, .inl (LF 2))), (pv 2, .inl (k 0, 8, .inl (LP 2))), (oq 2, .inl (k 2, 36, .inl (OU 2))), (pl, .inr (4, [.ref ho, .ref sa, .int (nI ov), .int (nI sta), .int (nI stl), .ref se, .ref ab, .ref he, .ref po, .ref sx, .ref be])), (se, .inl (k 0, 36, .inl SE)), (ab, .inl (k 0, 36, .inl (fun j => nI (AB j)))), (he, .inl (k 0, 288, .inl (fun j => nI (HE j)))), (po, .inl (k 0, 288, .inl (fun j => nI (PO j)))), (sx, .inl (k 0, 8, .inl (fun j => nI (SX j)))), (be, .inl (k 1, 18944, .inr (.inl (fun j => oL (BE j))))), (sa, .inr (5, [.ref rc, .int (nI n), .ref rb, .ref mr, .ref mpp, .ref af])), (rc, .inl (k 0, 512, .inl (fun j => nI (R j)))), (rb, .inl (k 0, 512, .inl (fun j => nI (RB j)))), (mr, .inl (k 0, 512, .inl (fun j => nI (MR j)))), (mpp, .inl (k 0, 512, .inl (fun j => nI (MP j)))), (af, .inl (k 0, 4096, .inl (fun j => nI (AF j)))), (rs, .inl (k 0, 36, .inl RS)), (to, .inl (k 1, 4, .inr (.inl TO))), (wt, .inr (2, [.ref wtw, .ref wtv, .int (nI wz)])), (wtw, .inl (k 0, 6, .inl WF)), (wtv, .inl (k 0, 6, .inl WG)), (bo, .inr (0, [.ref bow, .int (nI bz), .ref bov])), (bow, .inl (k 0, 36, .inl BF)), (bov, .inl (k 0, 36, .inl BG)), (za 2, .inl (k 0, 3, .inl (fun j => nI (LR j)))), (za 3, .inl (k 0, 3, .inl (fun j => nI (LQ j)))), (za 4, .inl (k 0, 3, .inl (fun j => nI (CE j)))), (za 5, .inl (k 0, 3, .inl (fun j => nI (zz j)))), (za 6, .inl (k 0, 24, .inl RO)), (za 7, .inl (k 0, 24, .inl RH)), (za 8, .inl (k 0, 24, .inl RP)), (za 9, .inl (k 0, 36, .inl FO)), (za 10, .inl (k 0, 36, .inl (fun j => nI (FP j)))), (za 11, .inl (k 0, 36, .inl (fun j => nI (FN j)))), (za 12, .inl (k 2, 108, .inl IO)), (za 14, .inl (k 0, 36, .inl RS)), (za 15, .inl (k 1, 4, .inr (.inl TO))), (za 17, .inl (k 2, 512, .inl (fun j => bI ((uTH (fV w)) j)))), (za 18, .inl (k 1, 512, .inr (.inl (fun j => lN ((uCO (fV w)) j))))), (za 19, .inl (k 0, 512, .inl (fun j => nI ((uRK (fV w)) j)))), (za 20, .inl (k 2, 512, .inl (fun j => bI ((uTX (fV w)) j)))), (za 21, .inl (k 1, 512, .inr (.inl (fun j => lN ((uCX (fV w)) j))))), (za 22, .inl (k 0, 512, .inl (fun j => nI ((uKX (fV w)) j)))), (za 23, .inl (k 0, 18432, .inl (fun j => nI ((uWY (fV w)) j)))), (za 24, .inl (k 2, 4096, .inl (fun j => bI ((uSE (fV w)) j)))), (za 25, .inl (k 0, 4096, .inl (fun j => nI ((uPL (fV w)) j)))), (za 26, .inl (k 0, 3, .inl (uHN (fV w)))), (za 27, .inl (k 0, 3, .inl (uPN (fV w)))), (za 30, .inl (k 0, 36, .inl (fun j => nI ((fPA w) j)))), (za 33, .inl (k 0, 6, .inl WF)), (za 34, .inl (k 0, 6, .inl WG)), (za 36, .inl (k 0, 36, .inl BF)), (za 37, .inl (k 0, 36, .inl BG)), (x0, .inr (6, [.ref pl, .ref ho, .ref rs, .ref to, .ref wt, .ref bo])), (ho, .inr (1, [.ref ma, .int (nI cn), .ref fa])), (ou, .inl (k 1, 1, .inr (.inl OUT)))]) (b_runV (As := [.int (xs (i + 1)), .int (xs (i + 2)), .int (nI 1)]) (rest := []) (q0 := 50) hm hw (cwV 3 hts (gV ut_T k_750 k_747 k_748 (k_749) k_9) rfl rfl rfl (by decide +kernel) ⟨by decide, by decide⟩) (c_Md_out_t1 l D k _ md za th cn ov sn (fK w) (fF w) (fC w) wz bz (xs (i + 1)) (xs (i + 2)) (nI 1) (by assumption)) [50] (by decide) rfl rfl rfl rfl hl.1 rfl (Nat.le_of_ble_eq_true rfl) d_Lw_law_428 ⟨by show cells + 1 + 0 ≤ room_1.cells; omega, by show slots + 6 + 0 ≤ room_1.slots; omega⟩) hw [50] [0, 1, 2, 3, 4, 5, 6, 7, 8, 9, 10, 11, 12, 13, 14, 15, 16, 17, 18, 19, 20, 21, 22, 23, 24, 25, 26, 27, 28, 29, 30, 31, 32, 33, 34, 35, 36, 37, 38, 39, 40, 41, 42, 43, 44, 45, 46, 47, 48, 49, 51, 52, 53, 54, 55, 56, 57, 58, 59, 60, 61, 62, 63, 64, 65, 66, 67, 68, 69, 70, 71, 72, 73, 74, 75, 76, 77, 78, 79, 80, 81, 82] rfl rfl (by decide) (by decide) (fun r8 u8 H locs hp8 hw => ?_)
      refine lv_istore (lv' := [(6, .int r8), (5, .int (nI 1)), (0, .ref b), (1, .ref x0), (2, .ref md), (3, .ref ou), (4, .int (nI i))]) hx hb d_Lw_law_431  hl (by decide) rfl (fun ls hl => ?_)
      refine lv_aload_n hx hb d_Lw_law_433 rfl (lv_at hl 4 rfl) ?_
      refine b_goiR (b_runV (As := []) (rest := []) (q0 := 82) hm hw (cwV 0 hts (gV ut_T k_726 k_723 k_724 (k_725) k_9) rfl rfl rfl (by decide +kernel) ⟨by decide, by decide⟩) (c_Md_thrown l D k _ md za 1 cn ov sn (fK w) (fF w) (fC w) wz bz) [82] (by decide) rfl rfl rfl rfl hl.1 rfl (Nat.le_of_ble_eq_true rfl) d_Lw_law_434 ⟨by show cells + 1 + 0 + 0 ≤ room_1.cells; omega, by show slots + 6 + 0 + 0 ≤ room_1.slots; omega⟩) hw [82] rfl (fun r5 u5 H locs hp5 hw => ?_)
      refine b_ti (y := nI 1) hp5 ?_
      refine lv_iload hx hb d_Lw_law_437 (lv_at hl 1 rfl) ?_
      refine lv_icmp_eq (tgt := 444) hx hb d_Lw_law_439 (by decide) (fun c_439_2 => ?_) (fun c_439_2 => ?_)
      · skip
        refine lv_iload hx hb d_Lw_law_444 (lv_at hl 1 rfl) ?_
        refine lv_if_ne (tgt := 468) hx hb d_Lw_law_446 (by decide) (fun c_446_3 => ?_) (fun c_446_3 => ?_)
        · skip
          refine lv_goto (tgt := 1147) hx hb d_Lw_law_468 (by decide) ?_
          refine W.widen (k := cells + 1) (n := slots + 6) (by show cells + 1 + 0 + 0 ≤ cells + 1; omega) (by show slots + 6 + 0 + 0 ≤ slots + 6; omega) ?_
          refine kx H locs ls (LST_mk (th := 1) (cn := cn) (ov := ov) (sta := sta) (stl := stl) (n := n) (wz := wz) (bz := bz) (sn := sn) (lr := lr) (lp := lp) (sc := sc) (zz := zz) (FP := FP) (FN := FN) (AB := AB) (HE := HE) (PO := PO) (SX := SX) (R := R) (RB := RB) (MR := MR) (MP := MP) (AF := AF) (BE := BE) (FO := FO) (SE := SE) (WF := WF) (WG := WG) (BF := BF) (BG := BG) (RS := RS) (TO := TO) (LF := LF) (LG := LG) (LP := LP) (OU := OU) (LR := LR) (LQ := LQ) (CE := CE) (RO := RO) (RH := RH) (RP := RP) (IO := IO) (w := w) (OUT := OUT) (hI := hI) (hw.sub [79, 80, 0, 1, 2, 3, 4, 5, 6, 7, 8, 9, 10, 11, 12, 13, 14, 15, 16, 17, 18, 19, 20, 21, 22, 23, 24, 25, 26, 27, 28, 29, 30, 31, 32, 33, 34, 35, 36, 37, 38, 39, 40, 41, 42, 43, 44, 45, 46, 47, 48, 49, 82, 50, 51, 52, 53, 54, 55, 56, 57, 58, 59, 60, 61, 62, 63, 64, 65, 66, 67, 68, 69, 70, 71, 72, 73, 74, 75, 76, 77, 78, 81] (by decide) rfl)) (lv_sub hl [2, 3, 4, 5, 6] rfl)
        · skip
          exact absurd c_446_3 (by decide)
      · skip
        exact absurd c_439_2 (by decide)

set_option maxHeartbeats 4000000 in
set_option maxRecDepth 100000 in
theorem L_out_t21 (h0 : LwH p l s m meth c A b L xs) (hi5 : i + 5 ≤ L) (hf : cells + 1 ≤ room_1.cells ∧ slots + 6 ≤ room_1.slots) (kx : ∀ (H : Heap) (locs : List Loc) (ls : Array Slot), LST D k A s H locs x0 ho pl rs to wt bo ma fa se ab he po sx be sa rc rb mr mpp af m0 m1 m2 f0 f1 f2 wtw wtv bow bov md ou hq ha hv pq pa pv oq za → lv_has ls 8 [(0, .ref b), (1, .ref x0), (2, .ref md), (3, .ref ou), (4, .int (nI i))] → W p l e room_1 s m #[Value.ref b] below meth c H locs (cells + 1) (slots + 6) Q (F0 m 1147 ls [])) (hI : lwI cn ov sta stl n wz bz lr lp sc zz FP FN AB HE PO SX R RB MR MP AF BE FO SE WF WG BF LF LG LP OU sn LR LQ CE RO RH RP IO w) (hw : bW (gU D k) A s H locs (LWW k x0 ho pl rs to wt bo ma fa se ab he po sx be sa rc rb mr mpp af m0 m1 m2 f0 f1 f2 wtw wtv bow bov md ou hq ha hv pq pa pv oq za th cn ov sta stl n wz bz sn lr lp sc zz FP FN AB HE PO SX R RB MR MP AF BE FO SE WF WG BF BG RS TO LF LG LP OU LR LQ CE RO RH RP IO w OUT)) (hl : lv_has ls 8 [(0, .ref b), (1, .ref x0), (2, .ref md), (3, .ref ou), (4, .int (nI i))]) {kk h : Nat} (hk : kk < cn) (hh : h < 36) (hov : h < ov) (e3 : ¬ xs (i + 3) = 0) (e1 : xs (i + 1) = nI kk) (e2 : xs (i + 2) = nI h) : W p l e room_1 s m #[Value.ref b] below meth c H locs cells slots Q (F0 m 368 ls []) := by
  obtain ⟨hm, hE, hX, hbl, hbA, hL, htr⟩ := h0
  have hx := hm.1
  have hb := hm.2.1
  have hown := hm.2.2.2.2.1
  have hts := hm.2.2.2.2.2.1
  have y0 : cn ≤ 3 := hI.1.1
  have y1 : ov ≤ 36 := hI.2.1.2.2.2.2.2.1
  have y2 : stl ≤ 36 := hI.2.1.2.2.2.2.2.2.1
  have y3 : ∀ j, zz j ≤ 8 := fun j => (hI.2.2.2.1.1 j).2.2
  have y4 : sn < 512 := hI.1.2.1
  have y5 : ∀ j, LR j ≤ 4 ∧ LQ j ≤ 4 := fun j => (hI.2.2.2.1.2.2.2 j).1
  have y6 : ∀ j, FN j ≤ 100000 := hI.2.1.2.1.2.2.2.2.2.1
  have y7 : ∀ j, FP j ≤ 1000 := hI.2.1.2.1.2.2.2.2.1
  have y8 : ∀ j, CE j ≤ 100000 := fun j => (hI.2.2.2.1.2.2.2 j).2
  have y9 : wz ≤ 6 := hI.2.2.2.2.2.1.2
  have y10 : bz ≤ 36 := hI.2.2.2.2.2.2.1.1
  have y11 : ∀ j, lr j ≤ 4 ∧ lp j ≤ 4 := hI.2.1.1.2.2.1
  have y12 : ∀ j, j < cn → 1 ≤ lr j ∧ 1 ≤ lp j := hI.2.1.1.2.2.2.1
  have y13 : ∀ j, sc j ≤ 100000 := hI.2.2.2.1.2.1
  have y14 : ∀ j, SX j ≤ 300000 := hI.2.1.2.1.2.2.2.1
  have y15 : bxI R RB MR MP AF := hI.2.2.1
  have y16 : ∀ j, IO j = 0 ∨ IO j = 1 := hI.2.2.2.2.1.2.2.2
  refine lv_aload_n hx hb d_Lw_law_368 rfl (lv_at hl 1 rfl) ?_
  refine lv_aload_n hx hb d_Lw_law_369 rfl (lv_at hl 0 rfl) ?_
  refine lv_iload hx hb d_Lw_law_370 (lv_at hl 4 rfl) ?_
  refine lv_iconst (v := nI 1) hx hb d_Lw_law_372 (by decide) ?_
  refine lv_iadd hx hb d_Lw_law_373 ?_
  refine b_ti (nI_add i 1) ?_
  refine b_sld (j := i + 1) hm hX hbl hbA hw (by omega) hL d_Lw_law_374 ?_
  refine b_ti e1 ?_
  refine lv_aload_n hx hb d_Lw_law_375 rfl (lv_at hl 0 rfl) ?_
  refine lv_iload hx hb d_Lw_law_376 (lv_at hl 4 rfl) ?_
  refine lv_iconst (v := nI 2) hx hb d_Lw_law_378 (by decide) ?_
  refine lv_iadd hx hb d_Lw_law_379 ?_
  refine b_ti (nI_add i 2) ?_
  refine b_sld (j := i + 2) hm hX hbl hbA hw (by omega) hL d_Lw_law_380 ?_
  refine b_ti e2 ?_
  refine lv_aload_n hx hb d_Lw_law_381 rfl (lv_at hl 0 rfl) ?_
  refine lv_iload hx hb d_Lw_law_382 (lv_at hl 4 rfl) ?_
  refine lv_iconst (v := nI 3) hx hb d_Lw_law_384 (by decide) ?_
  refine lv_iadd hx hb d_Lw_law_385 ?_
  refine b_ti (nI_add i 3) ?_
  refine b_sld (j := i + 3) hm hX hbl hbA hw (by omega) hL d_Lw_law_386 ?_
  refine lv_if_eq (tgt := 394) hx hb d_Lw_law_387 (by decide) (fun c_387_0 => ?_) (fun c_387_0 => ?_)
  · skip
    exact absurd c_387_0 e3
  · skip
    refine lv_iconst (v := nI 1) hx hb d_Lw_law_390 (by decide) ?_
    refine lv_goto (tgt := 395) hx hb d_Lw_law_391 (by decide) ?_
    refine lv_aload_n hx hb d_Lw_law_395 rfl (lv_at hl 3 rfl) ?_
    refine b_goi (wr := [(ma, .inl (k 3, 3, .inr (.inr (.inr (.inr (mAd m0 m1 m2)))))), (fa, .inl (k 4, 3, .inr (.inr (.inr (.inr (mAd f0 f1 f2)))))), (f0, .inl (k 0, 36, .inl FO)), (f1, .inl (k 0, 36, .inl (fun j => nI (FP j)))), (f2, .inl (k 0, 36, .inl (fun j => nI (FN j)))), (m0, .inr (3, [.int (nI (lr 0)), .int (nI (lp 0)), .int (nI (sc 0)), .ref (hq 0), .ref (pq 0), .ref (oq 0)])), (hq 0, .inr (2, [.ref (ha 0), .ref (hv 0), .int (nI (zz 0))])), (ha 0, .inl (k 0, 8, .inl (LF 0))), (hv 0, .inl (k 0, 8, .inl (LG 0))), (pq 0, .inr (2, [.ref (pa 0), .ref (pv 0), .int (nI (zz 0))])), (pa 0, .inl (k 0, 8, .inl (LF 0))), (pv 0, .inl (k 0, 8, .inl (LP 0))), (oq 0, .inl (k 2, 36, .inl (OU 0))), (m1, .inr (3, [.int (nI (lr 1)), .int (nI (lp 1)), .int (nI (sc 1)), .ref (hq 1), .ref (pq 1), .ref (oq 1)])), (hq 1, .inr (2, [.ref (ha 1), .ref (hv 1), .int (nI (zz 1))])), (ha 1, .inl (k 0, 8, .inl (LF 1))), (hv 1, .inl (k 0, 8, .inl (LG 1))), (pq 1, .inr (2, [.ref (pa 1), .ref (pv 1), .int (nI (zz 1))])), (pa 1, .inl (k 0, 8, .inl (LF 1))), (pv 1, .inl (k 0, 8, .inl (LP 1))), (oq 1, .inl (k 2, 36, .inl (OU 1))), (m2, .inr (3, [.int (nI (lr 2)), .int (nI (lp 2)), .int (nI (sc 2)), .ref (hq 2), .ref (pq 2), .ref (oq 2)])), (hq 2, .inr (2, [.ref (ha 2), .ref (hv 2), .int (nI (zz 2))])), (ha 2, .inl (k 0, 8, .inl (LF 2))), (hv 2, .inl (k 0, 8, .inl (LG 2))), (pq 2, .inr (2, [.ref (pa 2), .ref (pv 2), .int (nI (zz 2))])), (pa 2, .inl (k 0, 8, .inl (LF 2))), (pv 2, .inl (k 0, 8, .inl (LP 2))), (oq 2, .inl (k 2, 36, .inl (OU 2))), (se, .inl (k 0, 36, .inl SE)), (ab, .inl (k 0, 36, .inl (fun j => nI (AB j)))), (he, .inl (k 0, 288, .inl (fun j => nI (HE j)))), (po, .inl (k 0, 288, .inl (fun j => nI (PO j)))), (sx, .inl (k 0, 8, .inl (fun j => nI (SX j)))), (be, .inl (k 1, 18944, .inr (.inl (fun j => oL (BE j))))), (sa, .inr (5, [.ref rc, .int (nI n), .ref rb, .ref mr, .ref mpp, .ref af])), (rc, .inl (k 0, 512, .inl (fun j => nI (R j)))), (rb, .inl (k 0, 512, .inl (fun j => nI (RB j)))), (mr, .inl (k 0, 512, .inl (fun j => nI (MR j)))), (mpp, .inl (k 0, 512, .inl (fun j => nI (MP j)))), (af, .inl (k 0, 4096, .inl (fun j => nI (AF j)))), (rs, .inl (k 0, 36, .inl RS)), (to, .inl (k 1, 4, .inr (.inl TO))), (wt, .inr (2, [.ref wtw, .ref wtv, .int (nI wz)])), (wtw, .inl (k 0, 6, .inl WF)), (wtv, .inl (k 0, 6, .inl WG)), (bo, .inr (0, [.ref bow, .int (nI bz), .ref bov])), (bow, .inl (k 0, 36, .inl BF)), (bov, .inl (k 0, 36, .inl BG)), (md, .inr (7, mdL za th cn ov sn (fK w) (fF w) (fC w) wz bz)), (za 2, .inl (k 0, 3, .inl (fun j => nI (LR j)))), (za 3, .inl (k 0, 3, .inl (fun j => nI (LQ j)))), (za 4, .inl (k 0, 3, .inl (fun j => nI (CE j)))), (za 5, .inl (k 0, 3, .inl (fun j => nI (zz j)))), (za 6, .inl (k 0, 24, .inl RO)), (za 7, .inl (k 0, 24, .inl RH)), (za 8, .inl (k 0, 24, .inl RP)), (za 9, .inl (k 0, 36, .inl FO)), (za 10, .inl (k 0, 36, .inl (fun j => nI (FP j)))), (za 11, .inl (k 0, 36, .inl (fun j => nI (FN j)))), (za 12, .inl (k 2, 108, .inl IO)), (za 14, .inl (k 0, 36, .inl RS)), (za 15, .inl (k 1, 4, .inr (.inl TO))), (za 17, .inl (k 2, 512, .inl (fun j => bI ((uTH (fV w)) j)))), (za 18, .inl (k 1, 512, .inr (.inl (fun j => lN ((uCO (fV w)) j))))), (za 19, .inl (k 0, 512, .inl (fun j => nI ((uRK (fV w)) j)))), (za 20, .inl (k 2, 512, .inl (fun j => bI ((uTX (fV w)) j)))), (za 21, .inl (k 1, 512, .inr (.inl (fun j => lN ((uCX (fV w)) j))))), (za 22, .inl (k 0, 512, .inl (fun j => nI ((uKX (fV w)) j)))), (za 23, .inl (k 0, 18432, .inl (fun j => nI ((uWY (fV w)) j)))), (za 24, .inl (k 2, 4096, .inl (fun j => bI ((uSE (fV w)) j)))), (za 25, .inl (k 0, 4096, .inl (fun j => nI ((uPL (fV w)) j)))), (za 26, .inl (k 0, 3, .inl (uHN (fV w)))), (za 27, .inl (k 0, 3, .inl (uPN (fV w)))), (za 30, .inl (k 0, 36, .inl (fun j => nI ((fPA w) j)))), (za 33, .inl (k 0, 6, .inl WF)), (za 34, .inl (k 0, 6, .inl WG)), (za 36, .inl (k 0, 36, .inl BF)), (za 37, .inl (k 0, 36, .inl BG))]) (b_runSH (n := 5) (As := [.ref x0, .int (nI kk), .int (nI h), .int (nI 1), .ref ou]) (rest := []) hm ut_T hE hw (h_out_t2 l htr D k _ x0 ho pl rs to wt bo ma fa cn se ab he po sx be sa ov sta stl kk h (nI 1) (by assumption) (by assumption) (by assumption) (by assumption) (by assumption) ou OUT) k_472 k_470 k_471 k_0 ⟨by decide, by decide, by decide +kernel⟩ ⟨by decide, by decide⟩ [0, 1, 31, 82] (by decide) rfl rfl hl.1 rfl (Nat.le_of_ble_eq_true rfl) d_Lw_law_396 ⟨by show cells + 1 ≤ room_1.cells; omega, by show slots + 6 ≤ room_1.slots; omega⟩) hw [0, 1, 31, 82] [2, 3, 4, 5, 6, 7, 8, 9, 10, 11, 12, 13, 14, 15, 16, 17, 18, 19, 20, 21, 22, 23, 24, 25, 26, 27, 28, 29, 30, 32, 33, 34, 35, 36, 37, 38, 39, 40, 41, 42, 43, 44, 45, 46, 47, 48, 49, 50, 51, 52, 53, 54, 55, 56, 57, 58, 59, 60, 61, 62, 63, 64, 65, 66, 67, 68, 69, 70, 71, 72, 73, 74, 75, 76, 77, 78, 79, 80, 81] rfl rfl (by decide) (by decide) (fun r9 u9 H locs hp9 hw => ?_)
    refine b_ti (y := nI 2) hp9 ?_
    refine lv_istore (lv' := [(5, .int (nI 2)), (0, .ref b), (1, .ref x0), (2, .ref md), (3, .ref ou), (4, .int (nI i))]) hx hb d_Lw_law_399  hl (by decide) rfl (fun ls hl => ?_)
    refine lv_aload_n hx hb d_Lw_law_401 rfl (lv_at hl 3 rfl) ?_
    refine lv_aload_n hx hb d_Lw_law_402 rfl (lv_at hl 1 rfl) ?_
    refine lv_iload hx hb d_Lw_law_403 (lv_at hl 5 rfl) ?_
    refine lv_iconst (v := nI 1) hx hb d_Lw_law_405 (by decide) ?_
    refine lv_iadd hx hb d_Lw_law_406 ?_
    refine b_ti (nI_add i 1) ?_
    refine b_sld (j := i + 1) hm hX hbl hbA hw (by omega) hL d_Lw_law_407 ?_
    refine b_ti e1 ?_
    refine lv_aload_n hx hb d_Lw_law_408 rfl (lv_at hl 1 rfl) ?_
    refine lv_iload hx hb d_Lw_law_409 (lv_at hl 5 rfl) ?_
    refine lv_iconst (v := nI 2) hx hb d_Lw_law_411 (by decide) ?_
    refine lv_iadd hx hb d_Lw_law_412 ?_
    refine b_ti (nI_add i 2) ?_
    refine b_sld (j := i + 2) hm hX hbl hbA hw (by omega) hL d_Lw_law_413 ?_
    refine b_ti e2 ?_
    refine lv_aload_n hx hb d_Lw_law_414 rfl (lv_at hl 1 rfl) ?_
    refine lv_iload hx hb d_Lw_law_415 (lv_at hl 5 rfl) ?_
    refine lv_iconst (v := nI 3) hx hb d_Lw_law_417 (by decide) ?_
    refine lv_iadd hx hb d_Lw_law_418 ?_
    refine b_ti (nI_add i 3) ?_
    refine b_sld (j := i + 3) hm hX hbl hbA hw (by omega) hL d_Lw_law_419 ?_
    refine lv_if_eq (tgt := 427) hx hb d_Lw_law_420 (by decide) (fun c_420_1 => ?_) (fun c_420_1 => ?_)
    · skip
      exact absurd c_420_1 e3
    · skip
      refine lv_iconst (v := nI 1) hx hb d_Lw_law_423 (by decide) ?_
      refine lv_goto (tgt := 428) hx hb d_Lw_law_424 (by decide) ?_
      refine b_goi (wr := [(ma, .inl (k 3, 3, .inr (.inr (.inr (.inr (mAd m0 m1 m2)))))), (fa, .inl (k 4, 3, .inr (.inr (.inr (.inr (mAd f0 f1 f2)))))), (f0, .inl (k 0, 36, .inl FO)), (f1, .inl (k 0, 36, .inl (fun j => nI (FP j)))), (f2, .inl (k 0, 36, .inl (fun j => nI (FN j)))), (m0, .inr (3, [.int (nI (lr 0)), .int (nI (lp 0)), .int (nI (sc 0)), .ref (hq 0), .ref (pq 0), .ref (oq 0)])), (hq 0, .inr (2, [.ref (ha 0), .ref (hv 0), .int (nI (zz 0))])), (ha 0, .inl (k 0, 8, .inl (LF 0))), (hv 0, .inl (k 0, 8, .inl (LG 0))), (pq 0, .inr (2, [.ref (pa 0), .ref (pv 0), .int (nI (zz 0))])), (pa 0, .inl (k 0, 8, .inl (LF 0))), (pv 0, .inl (k 0, 8, .inl (LP 0))), (oq 0, .inl (k 2, 36, .inl (OU 0))), (m1, .inr (3, [.int (nI (lr 1)), .int (nI (lp 1)), .int (nI (sc 1)), .ref (hq 1), .ref (pq 1), .ref (oq 1)])), (hq 1, .inr (2, [.ref (ha 1), .ref (hv 1), .int (nI (zz 1))])), (ha 1, .inl (k 0, 8, .inl (LF 1))), (hv 1, .inl (k 0, 8, .inl (LG 1))), (pq 1, .inr (2, [.ref (pa 1), .ref (pv 1), .int (nI (zz 1))])), (pa 1, .inl (k 0, 8, .inl (LF 1))), (pv 1, .inl (k 0, 8, .inl (LP 1))), (oq 1, .inl (k 2, 36, .inl (OU 1))), (m2, .inr (3, [.int (nI (lr 2)), .int (nI (lp 2)), .int (nI (sc 2)), .ref (hq 2), .ref (pq 2), .ref (oq 2)])), (hq 2, .inr (2, [.ref (ha 2), .ref (hv 2), .int (nI (zz 2))])), (ha 2, .inl (k 0, 8, .inl (LF 2))), (hv 2, .inl (k 0, 8, .inl (LG 2))), (pq 2, .inr (2, [.ref (pa 2), .ref (pv 2), .int (nI (zz 2))])), (pa 2, .inl (k 0, 8, .inl (LF 2))), (pv 2, .inl (k 0, 8, .inl (LP 2))), (oq 2, .inl (k 2, 36, .inl (OU 2))), (se, .inl (k 0, 36, .inl SE)), (ab, .inl (k 0, 36, .inl (fun j => nI (AB j)))), (he, .inl (k 0, 288, .inl (fun j => nI (HE j)))), (po, .inl (k 0, 288, .inl (fun j => nI (PO j)))), (sx, .inl (k 0, 8, .inl (fun j => nI (SX j)))), (be, .inl (k 1, 18944, .inr (.inl (fun j => oL (BE j))))), (sa, .inr (5, [.ref rc, .int (nI n), .ref rb, .ref mr, .ref mpp, .ref af])), (rc, .inl (k 0, 512, .inl (fun j => nI (R j)))), (rb, .inl (k 0, 512, .inl (fun j => nI (RB j)))), (mr, .inl (k 0, 512, .inl (fun j => nI (MR j)))), (mpp, .inl (k 0, 512, .inl (fun j => nI (MP j)))), (af, .inl (k 0, 4096, .inl (fun j => nI (AF j)))), (rs, .inl (k 0, 36, .inl RS)), (to, .inl (k 1, 4, .inr (.inl TO))), (wt, .inr (2, [.ref wtw, .ref wtv, .int (nI wz)])), (wtw, .inl (k 0, 6, .inl WF)), (wtv, .inl (k 0, 6, .inl WG)), (bo, .inr (0, [.ref bow, .int (nI bz), .ref bov])), (bow, .inl (k 0, 36, .inl BF)), (bov, .inl (k 0, 36, .inl BG)), (za 2, .inl (k 0, 3, .inl (fun j => nI (LR j)))), (za 3, .inl (k 0, 3, .inl (fun j => nI (LQ j)))), (za 4, .inl (k 0, 3, .inl (fun j => nI (CE j)))), (za 5, .inl (k 0, 3, .inl (fun j => nI (zz j)))), (za 6, .inl (k 0, 24, .inl RO)), (za 7, .inl (k 0, 24, .inl RH)), (za 8, .inl (k 0, 24, .inl RP)), (za 9, .inl (k 0, 36, .inl FO)), (za 10, .inl (k 0, 36, .inl (fun j => nI (FP j)))), (za 11, .inl (k 0, 36, .inl (fun j => nI (FN j)))), (za 12, .inl (k 2, 108, .inl IO)), (za 14, .inl (k 0, 36, .inl RS)), (za 15, .inl (k 1, 4, .inr (.inl TO))), (za 17, .inl (k 2, 512, .inl (fun j => bI ((uTH (fV w)) j)))), (za 18, .inl (k 1, 512, .inr (.inl (fun j => lN ((uCO (fV w)) j))))), (za 19, .inl (k 0, 512, .inl (fun j => nI ((uRK (fV w)) j)))), (za 20, .inl (k 2, 512, .inl (fun j => bI ((uTX (fV w)) j)))), (za 21, .inl (k 1, 512, .inr (.inl (fun j => lN ((uCX (fV w)) j))))), (za 22, .inl (k 0, 512, .inl (fun j => nI ((uKX (fV w)) j)))), (za 23, .inl (k 0, 18432, .inl (fun j => nI ((uWY (fV w)) j)))), (za 24, .inl (k 2, 4096, .inl (fun j => bI ((uSE (fV w)) j)))), (za 25, .inl (k 0, 4096, .inl (fun j => nI ((uPL (fV w)) j)))), (za 26, .inl (k 0, 3, .inl (uHN (fV w)))), (za 27, .inl (k 0, 3, .inl (uPN (fV w)))), (za 30, .inl (k 0, 36, .inl (fun j => nI ((fPA w) j)))), (za 33, .inl (k 0, 6, .inl WF)), (za 34, .inl (k 0, 6, .inl WG)), (za 36, .inl (k 0, 36, .inl BF)), (za 37, .inl (k 0, 36, .inl BG)), (x0, .inr (6, [.ref pl, .ref ho, .ref rs, .ref to, .ref wt, .ref bo])), (ho, .inr (1, [.ref ma, .int (nI cn), .ref fa])), (pl, .inr (4, [.ref ho, .ref sa, .int (nI ov), .int (nI sta), .int (nI stl), .ref se, .ref ab, .ref he, .ref po, .ref sx, .ref be])), (ou, .inl (k 1, 1, .inr (.inl OUT)))]) (b_runV (As := [.int (nI kk), .int (nI h), .int (nI 1)]) (rest := []) (q0 := 49) hm hw (cwV 3 hts (gV ut_T k_750 k_747 k_748 (k_749) k_9) rfl rfl rfl (by decide +kernel) ⟨by decide, by decide⟩) (c_Md_out_t2 l D k _ md za th cn ov sn (fK w) (fF w) (fC w) wz bz kk h (nI 1) (by assumption) (by assumption) (by assumption) (by assumption) (by assumption)) [49] (by decide) rfl rfl rfl rfl hl.1 rfl (Nat.le_of_ble_eq_true rfl) d_Lw_law_428 ⟨by show cells + 1 + 0 ≤ room_1.cells; omega, by show slots + 6 + 0 ≤ room_1.slots; omega⟩) hw [49] [0, 1, 2, 3, 4, 5, 6, 7, 8, 9, 10, 11, 12, 13, 14, 15, 16, 17, 18, 19, 20, 21, 22, 23, 24, 25, 26, 27, 28, 29, 30, 31, 32, 33, 34, 35, 36, 37, 38, 39, 40, 41, 42, 43, 44, 45, 46, 47, 48, 50, 51, 52, 53, 54, 55, 56, 57, 58, 59, 60, 61, 62, 63, 64, 65, 66, 67, 68, 69, 70, 71, 72, 73, 74, 75, 76, 77, 78, 79, 80, 81, 82] rfl rfl (by decide) (by decide) (fun r8 u8 H locs hp8 hw => ?_)
      refine lv_istore (lv' := [(6, .int r8), (5, .int (nI 2)), (0, .ref b), (1, .ref x0), (2, .ref md), (3, .ref ou), (4, .int (nI i))]) hx hb d_Lw_law_431  hl (by decide) rfl (fun ls hl => ?_)
      refine lv_aload_n hx hb d_Lw_law_433 rfl (lv_at hl 4 rfl) ?_
      refine b_goiR (b_runV (As := []) (rest := []) (q0 := 82) hm hw (cwV 0 hts (gV ut_T k_726 k_723 k_724 (k_725) k_9) rfl rfl rfl (by decide +kernel) ⟨by decide, by decide⟩) (c_Md_thrown l D k _ md za 2 cn ov sn (fK w) (fF w) (fC w) wz bz) [82] (by decide) rfl rfl rfl rfl hl.1 rfl (Nat.le_of_ble_eq_true rfl) d_Lw_law_434 ⟨by show cells + 1 + 0 + 0 ≤ room_1.cells; omega, by show slots + 6 + 0 + 0 ≤ room_1.slots; omega⟩) hw [82] rfl (fun r5 u5 H locs hp5 hw => ?_)
      refine b_ti (y := nI 2) hp5 ?_
      refine lv_iload hx hb d_Lw_law_437 (lv_at hl 1 rfl) ?_
      refine lv_icmp_eq (tgt := 444) hx hb d_Lw_law_439 (by decide) (fun c_439_2 => ?_) (fun c_439_2 => ?_)
      · skip
        refine lv_iload hx hb d_Lw_law_444 (lv_at hl 1 rfl) ?_
        refine lv_if_ne (tgt := 468) hx hb d_Lw_law_446 (by decide) (fun c_446_3 => ?_) (fun c_446_3 => ?_)
        · skip
          refine lv_goto (tgt := 1147) hx hb d_Lw_law_468 (by decide) ?_
          refine W.widen (k := cells + 1) (n := slots + 6) (by show cells + 1 + 0 + 0 ≤ cells + 1; omega) (by show slots + 6 + 0 + 0 ≤ slots + 6; omega) ?_
          refine kx H locs ls (LST_mk (th := 2) (cn := cn) (ov := ov) (sta := sta) (stl := stl) (n := n) (wz := wz) (bz := bz) (sn := sn) (lr := lr) (lp := lp) (sc := sc) (zz := zz) (FP := FP) (FN := FN) (AB := AB) (HE := HE) (PO := PO) (SX := SX) (R := R) (RB := RB) (MR := MR) (MP := MP) (AF := AF) (BE := BE) (FO := FO) (SE := SE) (WF := WF) (WG := WG) (BF := BF) (BG := BG) (RS := RS) (TO := TO) (LF := LF) (LG := LG) (LP := LP) (OU := OU) (LR := LR) (LQ := LQ) (CE := CE) (RO := RO) (RH := RH) (RP := RP) (IO := IO) (w := w) (OUT := OUT) (hI := hI) (hw.sub [78, 79, 0, 1, 2, 3, 4, 5, 6, 7, 8, 9, 10, 11, 12, 13, 14, 15, 16, 17, 18, 19, 20, 21, 22, 23, 24, 25, 26, 27, 28, 80, 29, 30, 31, 32, 33, 34, 35, 36, 37, 38, 39, 40, 41, 42, 43, 44, 45, 46, 47, 48, 82, 49, 50, 51, 52, 53, 54, 55, 56, 57, 58, 59, 60, 61, 62, 63, 64, 65, 66, 67, 68, 69, 70, 71, 72, 73, 74, 75, 76, 77, 81] (by decide) rfl)) (lv_sub hl [2, 3, 4, 5, 6] rfl)
        · skip
          exact absurd c_446_3 (by decide)
      · skip
        exact absurd c_439_2 (by decide)

set_option maxHeartbeats 4000000 in
set_option maxRecDepth 100000 in
theorem L_gives (h0 : LwH p l s m meth c A b L xs) (hi5 : i + 5 ≤ L) (hf : cells + 1 ≤ room_1.cells ∧ slots + 6 ≤ room_1.slots) (kx : ∀ (H : Heap) (locs : List Loc) (ls : Array Slot), LST D k A s H locs x0 ho pl rs to wt bo ma fa se ab he po sx be sa rc rb mr mpp af m0 m1 m2 f0 f1 f2 wtw wtv bow bov md ou hq ha hv pq pa pv oq za → lv_has ls 8 [(0, .ref b), (1, .ref x0), (2, .ref md), (3, .ref ou), (4, .int (nI i))] → W p l e room_1 s m #[Value.ref b] below meth c H locs (cells + 1) (slots + 6) Q (F0 m 1147 ls [])) (hI : lwI cn ov sta stl n wz bz lr lp sc zz FP FN AB HE PO SX R RB MR MP AF BE FO SE WF WG BF LF LG LP OU sn LR LQ CE RO RH RP IO w) (hw : bW (gU D k) A s H locs (LWW k x0 ho pl rs to wt bo ma fa se ab he po sx be sa rc rb mr mpp af m0 m1 m2 f0 f1 f2 wtw wtv bow bov md ou hq ha hv pq pa pv oq za th cn ov sta stl n wz bz sn lr lp sc zz FP FN AB HE PO SX R RB MR MP AF BE FO SE WF WG BF BG RS TO LF LG LP OU LR LQ CE RO RH RP IO w OUT)) (hl : lv_has ls 8 [(0, .ref b), (1, .ref x0), (2, .ref md), (3, .ref ou), (4, .int (nI i))]) {kk q : Nat} (hk : kk < cn) (hw2 : q < 2) (hv9 : (-5000) ≤ xs (i + 2) ∧ xs (i + 2) ≤ nI 5000) (e1 : xs (i + 1) = nI kk) (e3 : xs (i + 3) = nI q) : W p l e room_1 s m #[Value.ref b] below meth c H locs cells slots Q (F0 m 471 ls []) := by
  obtain ⟨hm, hE, hX, hbl, hbA, hL, htr⟩ := h0
  have hx := hm.1
  have hb := hm.2.1
  have hown := hm.2.2.2.2.1
  have hts := hm.2.2.2.2.2.1
  have y0 : cn ≤ 3 := hI.1.1
  have y1 : ov ≤ 36 := hI.2.1.2.2.2.2.2.1
  have y2 : stl ≤ 36 := hI.2.1.2.2.2.2.2.2.1
  have y3 : ∀ j, zz j ≤ 8 := fun j => (hI.2.2.2.1.1 j).2.2
  have y4 : sn < 512 := hI.1.2.1
  have y5 : ∀ j, LR j ≤ 4 ∧ LQ j ≤ 4 := fun j => (hI.2.2.2.1.2.2.2 j).1
  have y6 : ∀ j, FN j ≤ 100000 := hI.2.1.2.1.2.2.2.2.2.1
  have y7 : ∀ j, FP j ≤ 1000 := hI.2.1.2.1.2.2.2.2.1
  have y8 : ∀ j, CE j ≤ 100000 := fun j => (hI.2.2.2.1.2.2.2 j).2
  have y9 : wz ≤ 6 := hI.2.2.2.2.2.1.2
  have y10 : bz ≤ 36 := hI.2.2.2.2.2.2.1.1
  have y11 : ∀ j, lr j ≤ 4 ∧ lp j ≤ 4 := hI.2.1.1.2.2.1
  have y12 : ∀ j, j < cn → 1 ≤ lr j ∧ 1 ≤ lp j := hI.2.1.1.2.2.2.1
  have y13 : ∀ j, sc j ≤ 100000 := hI.2.2.2.1.2.1
  have y14 : ∀ j, SX j ≤ 300000 := hI.2.1.2.1.2.2.2.1
  have y15 : bxI R RB MR MP AF := hI.2.2.1
  have y16 : ∀ j, IO j = 0 ∨ IO j = 1 := hI.2.2.2.2.1.2.2.2
  have y92 : zz kk ≤ 8 := y3 kk
  refine lv_aload_n hx hb d_Lw_law_471 rfl (lv_at hl 1 rfl) ?_
  refine lv_aload_n hx hb d_Lw_law_472 rfl (lv_at hl 0 rfl) ?_
  refine lv_iload hx hb d_Lw_law_473 (lv_at hl 4 rfl) ?_
  refine lv_iconst (v := nI 1) hx hb d_Lw_law_475 (by decide) ?_
  refine lv_iadd hx hb d_Lw_law_476 ?_
  refine b_ti (nI_add i 1) ?_
  refine b_sld (j := i + 1) hm hX hbl hbA hw (by omega) hL d_Lw_law_477 ?_
  refine b_ti e1 ?_
  refine lv_aload_n hx hb d_Lw_law_478 rfl (lv_at hl 0 rfl) ?_
  refine lv_iload hx hb d_Lw_law_479 (lv_at hl 4 rfl) ?_
  refine lv_iconst (v := nI 2) hx hb d_Lw_law_481 (by decide) ?_
  refine lv_iadd hx hb d_Lw_law_482 ?_
  refine b_ti (nI_add i 2) ?_
  refine b_sld (j := i + 2) hm hX hbl hbA hw (by omega) hL d_Lw_law_483 ?_
  refine lv_aload_n hx hb d_Lw_law_484 rfl (lv_at hl 0 rfl) ?_
  refine lv_iload hx hb d_Lw_law_485 (lv_at hl 4 rfl) ?_
  refine lv_iconst (v := nI 3) hx hb d_Lw_law_487 (by decide) ?_
  refine lv_iadd hx hb d_Lw_law_488 ?_
  refine b_ti (nI_add i 3) ?_
  refine b_sld (j := i + 3) hm hX hbl hbA hw (by omega) hL d_Lw_law_489 ?_
  refine b_ti e3 ?_
  refine lv_aload_n hx hb d_Lw_law_490 rfl (lv_at hl 3 rfl) ?_
  refine b_goi (wr := [(fa, .inl (k 4, 3, .inr (.inr (.inr (.inr (mAd f0 f1 f2)))))), (f0, .inl (k 0, 36, .inl FO)), (f1, .inl (k 0, 36, .inl (fun j => nI (FP j)))), (f2, .inl (k 0, 36, .inl (fun j => nI (FN j)))), (pl, .inr (4, [.ref ho, .ref sa, .int (nI ov), .int (nI sta), .int (nI stl), .ref se, .ref ab, .ref he, .ref po, .ref sx, .ref be])), (se, .inl (k 0, 36, .inl SE)), (ab, .inl (k 0, 36, .inl (fun j => nI (AB j)))), (he, .inl (k 0, 288, .inl (fun j => nI (HE j)))), (po, .inl (k 0, 288, .inl (fun j => nI (PO j)))), (sx, .inl (k 0, 8, .inl (fun j => nI (SX j)))), (be, .inl (k 1, 18944, .inr (.inl (fun j => oL (BE j))))), (sa, .inr (5, [.ref rc, .int (nI n), .ref rb, .ref mr, .ref mpp, .ref af])), (rc, .inl (k 0, 512, .inl (fun j => nI (R j)))), (rb, .inl (k 0, 512, .inl (fun j => nI (RB j)))), (mr, .inl (k 0, 512, .inl (fun j => nI (MR j)))), (mpp, .inl (k 0, 512, .inl (fun j => nI (MP j)))), (af, .inl (k 0, 4096, .inl (fun j => nI (AF j)))), (rs, .inl (k 0, 36, .inl RS)), (to, .inl (k 1, 4, .inr (.inl TO))), (wt, .inr (2, [.ref wtw, .ref wtv, .int (nI wz)])), (wtw, .inl (k 0, 6, .inl WF)), (wtv, .inl (k 0, 6, .inl WG)), (bo, .inr (0, [.ref bow, .int (nI bz), .ref bov])), (bow, .inl (k 0, 36, .inl BF)), (bov, .inl (k 0, 36, .inl BG)), (md, .inr (7, mdL za th cn ov sn (fK w) (fF w) (fC w) wz bz)), (za 2, .inl (k 0, 3, .inl (fun j => nI (LR j)))), (za 3, .inl (k 0, 3, .inl (fun j => nI (LQ j)))), (za 4, .inl (k 0, 3, .inl (fun j => nI (CE j)))), (za 5, .inl (k 0, 3, .inl (fun j => nI (zz j)))), (za 6, .inl (k 0, 24, .inl RO)), (za 7, .inl (k 0, 24, .inl RH)), (za 8, .inl (k 0, 24, .inl RP)), (za 9, .inl (k 0, 36, .inl FO)), (za 10, .inl (k 0, 36, .inl (fun j => nI (FP j)))), (za 11, .inl (k 0, 36, .inl (fun j => nI (FN j)))), (za 12, .inl (k 2, 108, .inl IO)), (za 14, .inl (k 0, 36, .inl RS)), (za 15, .inl (k 1, 4, .inr (.inl TO))), (za 17, .inl (k 2, 512, .inl (fun j => bI ((uTH (fV w)) j)))), (za 18, .inl (k 1, 512, .inr (.inl (fun j => lN ((uCO (fV w)) j))))), (za 19, .inl (k 0, 512, .inl (fun j => nI ((uRK (fV w)) j)))), (za 20, .inl (k 2, 512, .inl (fun j => bI ((uTX (fV w)) j)))), (za 21, .inl (k 1, 512, .inr (.inl (fun j => lN ((uCX (fV w)) j))))), (za 22, .inl (k 0, 512, .inl (fun j => nI ((uKX (fV w)) j)))), (za 23, .inl (k 0, 18432, .inl (fun j => nI ((uWY (fV w)) j)))), (za 24, .inl (k 2, 4096, .inl (fun j => bI ((uSE (fV w)) j)))), (za 25, .inl (k 0, 4096, .inl (fun j => nI ((uPL (fV w)) j)))), (za 26, .inl (k 0, 3, .inl (uHN (fV w)))), (za 27, .inl (k 0, 3, .inl (uPN (fV w)))), (za 30, .inl (k 0, 36, .inl (fun j => nI ((fPA w) j)))), (za 33, .inl (k 0, 6, .inl WF)), (za 34, .inl (k 0, 6, .inl WG)), (za 36, .inl (k 0, 36, .inl BF)), (za 37, .inl (k 0, 36, .inl BG))]) (b_runSH (n := 5) (As := [.ref x0, .int (nI kk), .int (xs (i + 2)), .int (nI q), .ref ou]) (rest := []) hm ut_T hE hw (h_gives l D k _ x0 ho pl rs to wt bo ma fa cn m0 m1 m2 lr lp sc hq ha hv pq pa pv oq zz LF LG LP OU kk q (xs (i + 2)) (by assumption) (by assumption) (by assumption) (by assumption) (by assumption) ou OUT) k_479 k_477 k_478 k_0 ⟨by decide, by decide, by decide +kernel⟩ ⟨by decide, by decide⟩ [0, 1, 2, 7, 8, 9, 10, 11, 12, 13, 14, 15, 16, 17, 18, 19, 20, 21, 22, 23, 24, 25, 26, 27, 28, 29, 30, 82] (by decide) rfl rfl hl.1 rfl (Nat.le_of_ble_eq_true rfl) d_Lw_law_491 ⟨by show cells + 0 ≤ room_1.cells; omega, by show slots + 0 ≤ room_1.slots; omega⟩) hw [0, 1, 2, 7, 8, 9, 10, 11, 12, 13, 14, 15, 16, 17, 18, 19, 20, 21, 22, 23, 24, 25, 26, 27, 28, 29, 30, 82] [3, 4, 5, 6, 31, 32, 33, 34, 35, 36, 37, 38, 39, 40, 41, 42, 43, 44, 45, 46, 47, 48, 49, 50, 51, 52, 53, 54, 55, 56, 57, 58, 59, 60, 61, 62, 63, 64, 65, 66, 67, 68, 69, 70, 71, 72, 73, 74, 75, 76, 77, 78, 79, 80, 81] rfl rfl (by decide) (by decide) (fun r9 u9 H locs hp9 hw => ?_)
  refine b_ti (y := nI 0) hp9.1 ?_
  have hp7 : (q = 0 ∧ ∃ i0, lnAt (LF kk) (zz kk) (xs (i + 2)) i0 ∧ u9.1 = lnRes (LF kk) (LG kk) (zz kk) (xs (i + 2)) 0 i0) ∨ (q = 1 ∧ ∃ i0, lnAt (LF kk) (zz kk) (xs (i + 2)) i0 ∧ u9.1 = lnRes (LF kk) (LP kk) (zz kk) (xs (i + 2)) 1 i0) := hp9.2
  refine lv_istore (lv' := [(5, .int (nI 0)), (0, .ref b), (1, .ref x0), (2, .ref md), (3, .ref ou), (4, .int (nI i))]) hx hb d_Lw_law_494  hl (by decide) rfl (fun ls hl => ?_)
  refine lv_aload_n hx hb d_Lw_law_496 rfl (lv_at hl 3 rfl) ?_
  refine lv_aload_n hx hb d_Lw_law_497 rfl (lv_at hl 1 rfl) ?_
  refine lv_iload hx hb d_Lw_law_498 (lv_at hl 5 rfl) ?_
  refine lv_iconst (v := nI 1) hx hb d_Lw_law_500 (by decide) ?_
  refine lv_iadd hx hb d_Lw_law_501 ?_
  refine b_ti (nI_add i 1) ?_
  refine b_sld (j := i + 1) hm hX hbl hbA hw (by omega) hL d_Lw_law_502 ?_
  refine b_ti e1 ?_
  refine lv_aload_n hx hb d_Lw_law_503 rfl (lv_at hl 1 rfl) ?_
  refine lv_iload hx hb d_Lw_law_504 (lv_at hl 5 rfl) ?_
  refine lv_iconst (v := nI 2) hx hb d_Lw_law_506 (by decide) ?_
  refine lv_iadd hx hb d_Lw_law_507 ?_
  refine b_ti (nI_add i 2) ?_
  refine b_sld (j := i + 2) hm hX hbl hbA hw (by omega) hL d_Lw_law_508 ?_
  refine lv_aload_n hx hb d_Lw_law_509 rfl (lv_at hl 1 rfl) ?_
  refine lv_iload hx hb d_Lw_law_510 (lv_at hl 5 rfl) ?_
  refine lv_iconst (v := nI 3) hx hb d_Lw_law_512 (by decide) ?_
  refine lv_iadd hx hb d_Lw_law_513 ?_
  refine b_ti (nI_add i 3) ?_
  refine b_sld (j := i + 3) hm hX hbl hbA hw (by omega) hL d_Lw_law_514 ?_
  refine b_ti e3 ?_
  refine b_goi (wr := [(fa, .inl (k 4, 3, .inr (.inr (.inr (.inr (mAd f0 f1 f2)))))), (f0, .inl (k 0, 36, .inl FO)), (f1, .inl (k 0, 36, .inl (fun j => nI (FP j)))), (f2, .inl (k 0, 36, .inl (fun j => nI (FN j)))), (pl, .inr (4, [.ref ho, .ref sa, .int (nI ov), .int (nI sta), .int (nI stl), .ref se, .ref ab, .ref he, .ref po, .ref sx, .ref be])), (se, .inl (k 0, 36, .inl SE)), (ab, .inl (k 0, 36, .inl (fun j => nI (AB j)))), (he, .inl (k 0, 288, .inl (fun j => nI (HE j)))), (po, .inl (k 0, 288, .inl (fun j => nI (PO j)))), (sx, .inl (k 0, 8, .inl (fun j => nI (SX j)))), (be, .inl (k 1, 18944, .inr (.inl (fun j => oL (BE j))))), (sa, .inr (5, [.ref rc, .int (nI n), .ref rb, .ref mr, .ref mpp, .ref af])), (rc, .inl (k 0, 512, .inl (fun j => nI (R j)))), (rb, .inl (k 0, 512, .inl (fun j => nI (RB j)))), (mr, .inl (k 0, 512, .inl (fun j => nI (MR j)))), (mpp, .inl (k 0, 512, .inl (fun j => nI (MP j)))), (af, .inl (k 0, 4096, .inl (fun j => nI (AF j)))), (rs, .inl (k 0, 36, .inl RS)), (to, .inl (k 1, 4, .inr (.inl TO))), (wt, .inr (2, [.ref wtw, .ref wtv, .int (nI wz)])), (wtw, .inl (k 0, 6, .inl WF)), (wtv, .inl (k 0, 6, .inl WG)), (bo, .inr (0, [.ref bow, .int (nI bz), .ref bov])), (bow, .inl (k 0, 36, .inl BF)), (bov, .inl (k 0, 36, .inl BG)), (za 2, .inl (k 0, 3, .inl (fun j => nI (LR j)))), (za 3, .inl (k 0, 3, .inl (fun j => nI (LQ j)))), (za 4, .inl (k 0, 3, .inl (fun j => nI (CE j)))), (za 9, .inl (k 0, 36, .inl FO)), (za 10, .inl (k 0, 36, .inl (fun j => nI (FP j)))), (za 11, .inl (k 0, 36, .inl (fun j => nI (FN j)))), (za 12, .inl (k 2, 108, .inl IO)), (za 14, .inl (k 0, 36, .inl RS)), (za 15, .inl (k 1, 4, .inr (.inl TO))), (za 17, .inl (k 2, 512, .inl (fun j => bI ((uTH (fV w)) j)))), (za 18, .inl (k 1, 512, .inr (.inl (fun j => lN ((uCO (fV w)) j))))), (za 19, .inl (k 0, 512, .inl (fun j => nI ((uRK (fV w)) j)))), (za 20, .inl (k 2, 512, .inl (fun j => bI ((uTX (fV w)) j)))), (za 21, .inl (k 1, 512, .inr (.inl (fun j => lN ((uCX (fV w)) j))))), (za 22, .inl (k 0, 512, .inl (fun j => nI ((uKX (fV w)) j)))), (za 23, .inl (k 0, 18432, .inl (fun j => nI ((uWY (fV w)) j)))), (za 24, .inl (k 2, 4096, .inl (fun j => bI ((uSE (fV w)) j)))), (za 25, .inl (k 0, 4096, .inl (fun j => nI ((uPL (fV w)) j)))), (za 26, .inl (k 0, 3, .inl (uHN (fV w)))), (za 27, .inl (k 0, 3, .inl (uPN (fV w)))), (za 30, .inl (k 0, 36, .inl (fun j => nI ((fPA w) j)))), (za 33, .inl (k 0, 6, .inl WF)), (za 34, .inl (k 0, 6, .inl WG)), (za 36, .inl (k 0, 36, .inl BF)), (za 37, .inl (k 0, 36, .inl BG)), (x0, .inr (6, [.ref pl, .ref ho, .ref rs, .ref to, .ref wt, .ref bo])), (ho, .inr (1, [.ref ma, .int (nI cn), .ref fa])), (ma, .inl (k 3, 3, .inr (.inr (.inr (.inr (mAd m0 m1 m2)))))), (m0, .inr (3, [.int (nI (lr 0)), .int (nI (lp 0)), .int (nI (sc 0)), .ref (hq 0), .ref (pq 0), .ref (oq 0)])), (hq 0, .inr (2, [.ref (ha 0), .ref (hv 0), .int (nI (zz 0))])), (ha 0, .inl (k 0, 8, .inl (LF 0))), (hv 0, .inl (k 0, 8, .inl (LG 0))), (pq 0, .inr (2, [.ref (pa 0), .ref (pv 0), .int (nI (zz 0))])), (pa 0, .inl (k 0, 8, .inl (LF 0))), (pv 0, .inl (k 0, 8, .inl (LP 0))), (oq 0, .inl (k 2, 36, .inl (OU 0))), (m1, .inr (3, [.int (nI (lr 1)), .int (nI (lp 1)), .int (nI (sc 1)), .ref (hq 1), .ref (pq 1), .ref (oq 1)])), (hq 1, .inr (2, [.ref (ha 1), .ref (hv 1), .int (nI (zz 1))])), (ha 1, .inl (k 0, 8, .inl (LF 1))), (hv 1, .inl (k 0, 8, .inl (LG 1))), (pq 1, .inr (2, [.ref (pa 1), .ref (pv 1), .int (nI (zz 1))])), (pa 1, .inl (k 0, 8, .inl (LF 1))), (pv 1, .inl (k 0, 8, .inl (LP 1))), (oq 1, .inl (k 2, 36, .inl (OU 1))), (m2, .inr (3, [.int (nI (lr 2)), .int (nI (lp 2)), .int (nI (sc 2)), .ref (hq 2), .ref (pq 2), .ref (oq 2)])), (hq 2, .inr (2, [.ref (ha 2), .ref (hv 2), .int (nI (zz 2))])), (ha 2, .inl (k 0, 8, .inl (LF 2))), (hv 2, .inl (k 0, 8, .inl (LG 2))), (pq 2, .inr (2, [.ref (pa 2), .ref (pv 2), .int (nI (zz 2))])), (pa 2, .inl (k 0, 8, .inl (LF 2))), (pv 2, .inl (k 0, 8, .inl (LP 2))), (oq 2, .inl (k 2, 36, .inl (OU 2))), (ou, .inl (k 1, 1, .inr (.inl (vp_updL OUT 0 u9.1.toInt64))))]) (b_runV (As := [.int (nI kk), .int (xs (i + 2)), .int (nI q)]) (rest := []) (q0 := 25) hm hw (cwV 3 hts (gV ut_T k_754 k_751 k_752 (k_753) k_9) rfl rfl rfl (by decide +kernel) ⟨by decide, by decide⟩) (c_Md_gives l D k _ md za th cn ov sn (fK w) (fF w) (fC w) wz bz zz RO RH RP kk q (xs (i + 2)) (by assumption) (by assumption) (by assumption) (by assumption) (by assumption)) [25, 29, 30, 31, 32] (by decide) rfl rfl rfl rfl hl.1 rfl (Nat.le_of_ble_eq_true rfl) d_Lw_law_515 ⟨by show cells + 0 + 0 ≤ room_1.cells; omega, by show slots + 0 + 0 ≤ room_1.slots; omega⟩) hw [25, 29, 30, 31, 32] [0, 1, 2, 3, 4, 5, 6, 7, 8, 9, 10, 11, 12, 13, 14, 15, 16, 17, 18, 19, 20, 21, 22, 23, 24, 26, 27, 28, 33, 34, 35, 36, 37, 38, 39, 40, 41, 42, 43, 44, 45, 46, 47, 48, 49, 50, 51, 52, 53, 54, 55, 56, 57, 58, 59, 60, 61, 62, 63, 64, 65, 66, 67, 68, 69, 70, 71, 72, 73, 74, 75, 76, 77, 78, 79, 80, 81, 82] rfl rfl (by decide) (by decide) (fun r8 u8 H locs hp8 hw => ?_)
  have hp6 : (q = 0 ∧ gvR (fun j => RO (8 * kk + j)) (fun j => if (0 : Int32) = 0 then RH (8 * kk + j) else RP (8 * kk + j)) (zz kk) (xs (i + 2)) 0 r8) ∨ (q = 1 ∧ gvR (fun j => RO (8 * kk + j)) (fun j => if (1 : Int32) = 0 then RH (8 * kk + j) else RP (8 * kk + j)) (zz kk) (xs (i + 2)) 1 r8) := hp8
  have heq : u9.1 = r8 := res_gives hI hk hp7 hp6
  refine lv_istore (lv' := [(6, .int r8), (5, .int (nI 0)), (0, .ref b), (1, .ref x0), (2, .ref md), (3, .ref ou), (4, .int (nI i))]) hx hb d_Lw_law_518  hl (by decide) rfl (fun ls hl => ?_)
  refine lv_aload_n hx hb d_Lw_law_520 rfl (lv_at hl 4 rfl) ?_
  refine b_goiR (b_runV (As := []) (rest := []) (q0 := 78) hm hw (cwV 0 hts (gV ut_T k_726 k_723 k_724 (k_725) k_9) rfl rfl rfl (by decide +kernel) ⟨by decide, by decide⟩) (c_Md_thrown l D k _ md za 0 cn ov sn (fK w) (fF w) (fC w) wz bz) [78] (by decide) rfl rfl rfl rfl hl.1 rfl (Nat.le_of_ble_eq_true rfl) d_Lw_law_521 ⟨by show cells + 0 + 0 + 0 ≤ room_1.cells; omega, by show slots + 0 + 0 + 0 ≤ room_1.slots; omega⟩) hw [78] rfl (fun r5 u5 H locs hp5 hw => ?_)
  refine b_ti (y := nI 0) hp5 ?_
  refine lv_iload hx hb d_Lw_law_524 (lv_at hl 1 rfl) ?_
  refine lv_icmp_eq (tgt := 531) hx hb d_Lw_law_526 (by decide) (fun c_526_0 => ?_) (fun c_526_0 => ?_)
  · skip
    refine lv_iload hx hb d_Lw_law_531 (lv_at hl 1 rfl) ?_
    refine lv_if_ne (tgt := 548) hx hb d_Lw_law_533 (by decide) (fun c_533_1 => ?_) (fun c_533_1 => ?_)
    · skip
      exact absurd c_533_1 (by decide)
    · skip
      refine lv_aload_n hx hb d_Lw_law_536 rfl (lv_at hl 5 rfl) ?_
      refine lv_iconst (v := nI 0) hx hb d_Lw_law_537 (by decide) ?_
      refine b_lald (i := 0) hm hw 77 1 rfl rfl (by omega) (by omega) d_Lw_law_538 ?_
      refine b_tl (y := u9.1.toInt64) (updL_s _ _ _) ?_
      refine lv_iload hx hb d_Lw_law_539 (lv_at hl 0 rfl) ?_
      refine lv_i2l (v := r8.toInt64) hx hb d_Lw_law_541 rfl ?_
      refine W.lcmp hx hb d_Lw_law_542 ?_
      refine lv_if_eq (tgt := 548) hx hb d_Lw_law_543 (by decide) (fun c_543_2 => ?_) (fun c_543_2 => ?_)
      · skip
        refine lv_goto (tgt := 1147) hx hb d_Lw_law_548 (by decide) ?_
        refine W.widen (k := cells + 1) (n := slots + 6) (by show cells + 0 + 0 + 0 ≤ cells + 1; omega) (by show slots + 0 + 0 + 0 ≤ slots + 6; omega) ?_
        refine kx H locs ls (LST_mk (th := 0) (cn := cn) (ov := ov) (sta := sta) (stl := stl) (n := n) (wz := wz) (bz := bz) (sn := sn) (lr := lr) (lp := lp) (sc := sc) (zz := zz) (FP := FP) (FN := FN) (AB := AB) (HE := HE) (PO := PO) (SX := SX) (R := R) (RB := RB) (MR := MR) (MP := MP) (AF := AF) (BE := BE) (FO := FO) (SE := SE) (WF := WF) (WG := WG) (BF := BF) (BG := BG) (RS := RS) (TO := TO) (LF := LF) (LG := LG) (LP := LP) (OU := OU) (LR := LR) (LQ := LQ) (CE := CE) (RO := RO) (RH := RH) (RP := RP) (IO := IO) (w := w) (OUT := vp_updL OUT 0 u9.1.toInt64) (hI := hI) (hw.sub [50, 51, 52, 0, 1, 2, 3, 53, 54, 55, 56, 57, 58, 59, 60, 61, 62, 63, 64, 65, 66, 67, 68, 69, 70, 71, 72, 73, 74, 75, 76, 4, 5, 6, 7, 8, 9, 10, 11, 12, 13, 14, 15, 16, 17, 18, 19, 20, 21, 22, 23, 24, 78, 25, 26, 27, 79, 80, 81, 82, 28, 29, 30, 31, 32, 33, 34, 35, 36, 37, 38, 39, 40, 41, 42, 43, 44, 45, 46, 47, 48, 49, 77] (by decide) rfl)) (lv_sub hl [2, 3, 4, 5, 6] rfl)
      · skip
        exact absurd (lc_eq (congrArg Int32.toInt64 heq)) c_543_2
  · skip
    exact absurd c_526_0 (by decide)

set_option maxHeartbeats 4000000 in
set_option maxRecDepth 100000 in
theorem L_gives_t1 (h0 : LwH p l s m meth c A b L xs) (hi5 : i + 5 ≤ L) (hf : cells + 1 ≤ room_1.cells ∧ slots + 6 ≤ room_1.slots) (kx : ∀ (H : Heap) (locs : List Loc) (ls : Array Slot), LST D k A s H locs x0 ho pl rs to wt bo ma fa se ab he po sx be sa rc rb mr mpp af m0 m1 m2 f0 f1 f2 wtw wtv bow bov md ou hq ha hv pq pa pv oq za → lv_has ls 8 [(0, .ref b), (1, .ref x0), (2, .ref md), (3, .ref ou), (4, .int (nI i))] → W p l e room_1 s m #[Value.ref b] below meth c H locs (cells + 1) (slots + 6) Q (F0 m 1147 ls [])) (hI : lwI cn ov sta stl n wz bz lr lp sc zz FP FN AB HE PO SX R RB MR MP AF BE FO SE WF WG BF LF LG LP OU sn LR LQ CE RO RH RP IO w) (hw : bW (gU D k) A s H locs (LWW k x0 ho pl rs to wt bo ma fa se ab he po sx be sa rc rb mr mpp af m0 m1 m2 f0 f1 f2 wtw wtv bow bov md ou hq ha hv pq pa pv oq za th cn ov sta stl n wz bz sn lr lp sc zz FP FN AB HE PO SX R RB MR MP AF BE FO SE WF WG BF BG RS TO LF LG LP OU LR LQ CE RO RH RP IO w OUT)) (hl : lv_has ls 8 [(0, .ref b), (1, .ref x0), (2, .ref md), (3, .ref ou), (4, .int (nI i))]) (hv9 : ¬ ((nI 0 ≤ (xs (i + 1)) ∧ (xs (i + 1)) < nI cn) ∧ ((-5000) ≤ (xs (i + 2)) ∧ (xs (i + 2)) ≤ nI 5000) ∧ (nI 0 ≤ (xs (i + 3)) ∧ (xs (i + 3)) ≤ nI 1)))  : W p l e room_1 s m #[Value.ref b] below meth c H locs cells slots Q (F0 m 471 ls []) := by
  obtain ⟨hm, hE, hX, hbl, hbA, hL, htr⟩ := h0
  have hx := hm.1
  have hb := hm.2.1
  have hown := hm.2.2.2.2.1
  have hts := hm.2.2.2.2.2.1
  have y0 : cn ≤ 3 := hI.1.1
  have y1 : ov ≤ 36 := hI.2.1.2.2.2.2.2.1
  have y2 : stl ≤ 36 := hI.2.1.2.2.2.2.2.2.1
  have y3 : ∀ j, zz j ≤ 8 := fun j => (hI.2.2.2.1.1 j).2.2
  have y4 : sn < 512 := hI.1.2.1
  have y5 : ∀ j, LR j ≤ 4 ∧ LQ j ≤ 4 := fun j => (hI.2.2.2.1.2.2.2 j).1
  have y6 : ∀ j, FN j ≤ 100000 := hI.2.1.2.1.2.2.2.2.2.1
  have y7 : ∀ j, FP j ≤ 1000 := hI.2.1.2.1.2.2.2.2.1
  have y8 : ∀ j, CE j ≤ 100000 := fun j => (hI.2.2.2.1.2.2.2 j).2
  have y9 : wz ≤ 6 := hI.2.2.2.2.2.1.2
  have y10 : bz ≤ 36 := hI.2.2.2.2.2.2.1.1
  have y11 : ∀ j, lr j ≤ 4 ∧ lp j ≤ 4 := hI.2.1.1.2.2.1
  have y12 : ∀ j, j < cn → 1 ≤ lr j ∧ 1 ≤ lp j := hI.2.1.1.2.2.2.1
  have y13 : ∀ j, sc j ≤ 100000 := hI.2.2.2.1.2.1
  have y14 : ∀ j, SX j ≤ 300000 := hI.2.1.2.1.2.2.2.1
  have y15 : bxI R RB MR MP AF := hI.2.2.1
  have y16 : ∀ j, IO j = 0 ∨ IO j = 1 := hI.2.2.2.2.1.2.2.2
  refine lv_aload_n hx hb d_Lw_law_471 rfl (lv_at hl 1 rfl) ?_
  refine lv_aload_n hx hb d_Lw_law_472 rfl (lv_at hl 0 rfl) ?_
  refine lv_iload hx hb d_Lw_law_473 (lv_at hl 4 rfl) ?_
  refine lv_iconst (v := nI 1) hx hb d_Lw_law_475 (by decide) ?_
  refine lv_iadd hx hb d_Lw_law_476 ?_
  refine b_ti (nI_add i 1) ?_
  refine b_sld (j := i + 1) hm hX hbl hbA hw (by omega) hL d_Lw_law_477 ?_
  refine lv_aload_n hx hb d_Lw_law_478 rfl (lv_at hl 0 rfl) ?_
  refine lv_iload hx hb d_Lw_law_479 (lv_at hl 4 rfl) ?_
  refine lv_iconst (v := nI 2) hx hb d_Lw_law_481 (by decide) ?_
  refine lv_iadd hx hb d_Lw_law_482 ?_
  refine b_ti (nI_add i 2) ?_
  refine b_sld (j := i + 2) hm hX hbl hbA hw (by omega) hL d_Lw_law_483 ?_
  refine lv_aload_n hx hb d_Lw_law_484 rfl (lv_at hl 0 rfl) ?_
  refine lv_iload hx hb d_Lw_law_485 (lv_at hl 4 rfl) ?_
  refine lv_iconst (v := nI 3) hx hb d_Lw_law_487 (by decide) ?_
  refine lv_iadd hx hb d_Lw_law_488 ?_
  refine b_ti (nI_add i 3) ?_
  refine b_sld (j := i + 3) hm hX hbl hbA hw (by omega) hL d_Lw_law_489 ?_
  refine lv_aload_n hx hb d_Lw_law_490 rfl (lv_at hl 3 rfl) ?_
  refine b_goi (wr := [(ma, .inl (k 3, 3, .inr (.inr (.inr (.inr (mAd m0 m1 m2)))))), (fa, .inl (k 4, 3, .inr (.inr (.inr (.inr (mAd f0 f1 f2)))))), (f0, .inl (k 0, 36, .inl FO)), (f1, .inl (k 0, 36, .inl (fun j => nI (FP j)))), (f2, .inl (k 0, 36, .inl (fun j => nI (FN j)))), (m0, .inr (3, [.int (nI (lr 0)), .int (nI (lp 0)), .int (nI (sc 0)), .ref (hq 0), .ref (pq 0), .ref (oq 0)])), (hq 0, .inr (2, [.ref (ha 0), .ref (hv 0), .int (nI (zz 0))])), (ha 0, .inl (k 0, 8, .inl (LF 0))), (hv 0, .inl (k 0, 8, .inl (LG 0))), (pq 0, .inr (2, [.ref (pa 0), .ref (pv 0), .int (nI (zz 0))])), (pa 0, .inl (k 0, 8, .inl (LF 0))), (pv 0, .inl (k 0, 8, .inl (LP 0))), (oq 0, .inl (k 2, 36, .inl (OU 0))), (m1, .inr (3, [.int (nI (lr 1)), .int (nI (lp 1)), .int (nI (sc 1)), .ref (hq 1), .ref (pq 1), .ref (oq 1)])), (hq 1, .inr (2, [.ref (ha 1), .ref (hv 1), .int (nI (zz 1))])), (ha 1, .inl (k 0, 8, .inl (LF 1))), (hv 1, .inl (k 0, 8, .inl (LG 1))), (pq 1, .inr (2, [.ref (pa 1), .ref (pv 1), .int (nI (zz 1))])), (pa 1, .inl (k 0, 8, .inl (LF 1))), (pv 1, .inl (k 0, 8, .inl (LP 1))), (oq 1, .inl (k 2, 36, .inl (OU 1))), (m2, .inr (3, [.int (nI (lr 2)), .int (nI (lp 2)), .int (nI (sc 2)), .ref (hq 2), .ref (pq 2), .ref (oq 2)])), (hq 2, .inr (2, [.ref (ha 2), .ref (hv 2), .int (nI (zz 2))])), (ha 2, .inl (k 0, 8, .inl (LF 2))), (hv 2, .inl (k 0, 8, .inl (LG 2))), (pq 2, .inr (2, [.ref (pa 2), .ref (pv 2), .int (nI (zz 2))])), (pa 2, .inl (k 0, 8, .inl (LF 2))), (pv 2, .inl (k 0, 8, .inl (LP 2))), (oq 2, .inl (k 2, 36, .inl (OU 2))), (pl, .inr (4, [.ref ho, .ref sa, .int (nI ov), .int (nI sta), .int (nI stl), .ref se, .ref ab, .ref he, .ref po, .ref sx, .ref be])), (se, .inl (k 0, 36, .inl SE)), (ab, .inl (k 0, 36, .inl (fun j => nI (AB j)))), (he, .inl (k 0, 288, .inl (fun j => nI (HE j)))), (po, .inl (k 0, 288, .inl (fun j => nI (PO j)))), (sx, .inl (k 0, 8, .inl (fun j => nI (SX j)))), (be, .inl (k 1, 18944, .inr (.inl (fun j => oL (BE j))))), (sa, .inr (5, [.ref rc, .int (nI n), .ref rb, .ref mr, .ref mpp, .ref af])), (rc, .inl (k 0, 512, .inl (fun j => nI (R j)))), (rb, .inl (k 0, 512, .inl (fun j => nI (RB j)))), (mr, .inl (k 0, 512, .inl (fun j => nI (MR j)))), (mpp, .inl (k 0, 512, .inl (fun j => nI (MP j)))), (af, .inl (k 0, 4096, .inl (fun j => nI (AF j)))), (rs, .inl (k 0, 36, .inl RS)), (to, .inl (k 1, 4, .inr (.inl TO))), (wt, .inr (2, [.ref wtw, .ref wtv, .int (nI wz)])), (wtw, .inl (k 0, 6, .inl WF)), (wtv, .inl (k 0, 6, .inl WG)), (bo, .inr (0, [.ref bow, .int (nI bz), .ref bov])), (bow, .inl (k 0, 36, .inl BF)), (bov, .inl (k 0, 36, .inl BG)), (md, .inr (7, mdL za th cn ov sn (fK w) (fF w) (fC w) wz bz)), (za 2, .inl (k 0, 3, .inl (fun j => nI (LR j)))), (za 3, .inl (k 0, 3, .inl (fun j => nI (LQ j)))), (za 4, .inl (k 0, 3, .inl (fun j => nI (CE j)))), (za 5, .inl (k 0, 3, .inl (fun j => nI (zz j)))), (za 6, .inl (k 0, 24, .inl RO)), (za 7, .inl (k 0, 24, .inl RH)), (za 8, .inl (k 0, 24, .inl RP)), (za 9, .inl (k 0, 36, .inl FO)), (za 10, .inl (k 0, 36, .inl (fun j => nI (FP j)))), (za 11, .inl (k 0, 36, .inl (fun j => nI (FN j)))), (za 12, .inl (k 2, 108, .inl IO)), (za 14, .inl (k 0, 36, .inl RS)), (za 15, .inl (k 1, 4, .inr (.inl TO))), (za 17, .inl (k 2, 512, .inl (fun j => bI ((uTH (fV w)) j)))), (za 18, .inl (k 1, 512, .inr (.inl (fun j => lN ((uCO (fV w)) j))))), (za 19, .inl (k 0, 512, .inl (fun j => nI ((uRK (fV w)) j)))), (za 20, .inl (k 2, 512, .inl (fun j => bI ((uTX (fV w)) j)))), (za 21, .inl (k 1, 512, .inr (.inl (fun j => lN ((uCX (fV w)) j))))), (za 22, .inl (k 0, 512, .inl (fun j => nI ((uKX (fV w)) j)))), (za 23, .inl (k 0, 18432, .inl (fun j => nI ((uWY (fV w)) j)))), (za 24, .inl (k 2, 4096, .inl (fun j => bI ((uSE (fV w)) j)))), (za 25, .inl (k 0, 4096, .inl (fun j => nI ((uPL (fV w)) j)))), (za 26, .inl (k 0, 3, .inl (uHN (fV w)))), (za 27, .inl (k 0, 3, .inl (uPN (fV w)))), (za 30, .inl (k 0, 36, .inl (fun j => nI ((fPA w) j)))), (za 33, .inl (k 0, 6, .inl WF)), (za 34, .inl (k 0, 6, .inl WG)), (za 36, .inl (k 0, 36, .inl BF)), (za 37, .inl (k 0, 36, .inl BG))]) (b_runSH (n := 5) (As := [.ref x0, .int (xs (i + 1)), .int (xs (i + 2)), .int (xs (i + 3)), .ref ou]) (rest := []) hm ut_T hE hw (h_gives_t1 l htr D k _ x0 ho pl rs to wt bo ma fa cn (by assumption) (xs (i + 1)) (xs (i + 2)) (xs (i + 3)) (by assumption) ou OUT) k_479 k_477 k_478 k_0 ⟨by decide, by decide, by decide +kernel⟩ ⟨by decide, by decide⟩ [0, 1, 82] (by decide) rfl rfl hl.1 rfl (Nat.le_of_ble_eq_true rfl) d_Lw_law_491 ⟨by show cells + 1 ≤ room_1.cells; omega, by show slots + 6 ≤ room_1.slots; omega⟩) hw [0, 1, 82] [2, 3, 4, 5, 6, 7, 8, 9, 10, 11, 12, 13, 14, 15, 16, 17, 18, 19, 20, 21, 22, 23, 24, 25, 26, 27, 28, 29, 30, 31, 32, 33, 34, 35, 36, 37, 38, 39, 40, 41, 42, 43, 44, 45, 46, 47, 48, 49, 50, 51, 52, 53, 54, 55, 56, 57, 58, 59, 60, 61, 62, 63, 64, 65, 66, 67, 68, 69, 70, 71, 72, 73, 74, 75, 76, 77, 78, 79, 80, 81] rfl rfl (by decide) (by decide) (fun r9 u9 H locs hp9 hw => ?_)
  refine b_ti (y := nI 1) hp9 ?_
  refine lv_istore (lv' := [(5, .int (nI 1)), (0, .ref b), (1, .ref x0), (2, .ref md), (3, .ref ou), (4, .int (nI i))]) hx hb d_Lw_law_494  hl (by decide) rfl (fun ls hl => ?_)
  refine lv_aload_n hx hb d_Lw_law_496 rfl (lv_at hl 3 rfl) ?_
  refine lv_aload_n hx hb d_Lw_law_497 rfl (lv_at hl 1 rfl) ?_
  refine lv_iload hx hb d_Lw_law_498 (lv_at hl 5 rfl) ?_
  refine lv_iconst (v := nI 1) hx hb d_Lw_law_500 (by decide) ?_
  refine lv_iadd hx hb d_Lw_law_501 ?_
  refine b_ti (nI_add i 1) ?_
  refine b_sld (j := i + 1) hm hX hbl hbA hw (by omega) hL d_Lw_law_502 ?_
  refine lv_aload_n hx hb d_Lw_law_503 rfl (lv_at hl 1 rfl) ?_
  refine lv_iload hx hb d_Lw_law_504 (lv_at hl 5 rfl) ?_
  refine lv_iconst (v := nI 2) hx hb d_Lw_law_506 (by decide) ?_
  refine lv_iadd hx hb d_Lw_law_507 ?_
  refine b_ti (nI_add i 2) ?_
  refine b_sld (j := i + 2) hm hX hbl hbA hw (by omega) hL d_Lw_law_508 ?_
  refine lv_aload_n hx hb d_Lw_law_509 rfl (lv_at hl 1 rfl) ?_
  refine lv_iload hx hb d_Lw_law_510 (lv_at hl 5 rfl) ?_
  refine lv_iconst (v := nI 3) hx hb d_Lw_law_512 (by decide) ?_
  refine lv_iadd hx hb d_Lw_law_513 ?_
  refine b_ti (nI_add i 3) ?_
  refine b_sld (j := i + 3) hm hX hbl hbA hw (by omega) hL d_Lw_law_514 ?_
  refine b_goi (wr := [(ma, .inl (k 3, 3, .inr (.inr (.inr (.inr (mAd m0 m1 m2)))))), (fa, .inl (k 4, 3, .inr (.inr (.inr (.inr (mAd f0 f1 f2)))))), (f0, .inl (k 0, 36, .inl FO)), (f1, .inl (k 0, 36, .inl (fun j => nI (FP j)))), (f2, .inl (k 0, 36, .inl (fun j => nI (FN j)))), (m0, .inr (3, [.int (nI (lr 0)), .int (nI (lp 0)), .int (nI (sc 0)), .ref (hq 0), .ref (pq 0), .ref (oq 0)])), (hq 0, .inr (2, [.ref (ha 0), .ref (hv 0), .int (nI (zz 0))])), (ha 0, .inl (k 0, 8, .inl (LF 0))), (hv 0, .inl (k 0, 8, .inl (LG 0))), (pq 0, .inr (2, [.ref (pa 0), .ref (pv 0), .int (nI (zz 0))])), (pa 0, .inl (k 0, 8, .inl (LF 0))), (pv 0, .inl (k 0, 8, .inl (LP 0))), (oq 0, .inl (k 2, 36, .inl (OU 0))), (m1, .inr (3, [.int (nI (lr 1)), .int (nI (lp 1)), .int (nI (sc 1)), .ref (hq 1), .ref (pq 1), .ref (oq 1)])), (hq 1, .inr (2, [.ref (ha 1), .ref (hv 1), .int (nI (zz 1))])), (ha 1, .inl (k 0, 8, .inl (LF 1))), (hv 1, .inl (k 0, 8, .inl (LG 1))), (pq 1, .inr (2, [.ref (pa 1), .ref (pv 1), .int (nI (zz 1))])), (pa 1, .inl (k 0, 8, .inl (LF 1))), (pv 1, .inl (k 0, 8, .inl (LP 1))), (oq 1, .inl (k 2, 36, .inl (OU 1))), (m2, .inr (3, [.int (nI (lr 2)), .int (nI (lp 2)), .int (nI (sc 2)), .ref (hq 2), .ref (pq 2), .ref (oq 2)])), (hq 2, .inr (2, [.ref (ha 2), .ref (hv 2), .int (nI (zz 2))])), (ha 2, .inl (k 0, 8, .inl (LF 2))), (hv 2, .inl (k 0, 8, .inl (LG 2))), (pq 2, .inr (2, [.ref (pa 2), .ref (pv 2), .int (nI (zz 2))])), (pa 2, .inl (k 0, 8, .inl (LF 2))), (pv 2, .inl (k 0, 8, .inl (LP 2))), (oq 2, .inl (k 2, 36, .inl (OU 2))), (pl, .inr (4, [.ref ho, .ref sa, .int (nI ov), .int (nI sta), .int (nI stl), .ref se, .ref ab, .ref he, .ref po, .ref sx, .ref be])), (se, .inl (k 0, 36, .inl SE)), (ab, .inl (k 0, 36, .inl (fun j => nI (AB j)))), (he, .inl (k 0, 288, .inl (fun j => nI (HE j)))), (po, .inl (k 0, 288, .inl (fun j => nI (PO j)))), (sx, .inl (k 0, 8, .inl (fun j => nI (SX j)))), (be, .inl (k 1, 18944, .inr (.inl (fun j => oL (BE j))))), (sa, .inr (5, [.ref rc, .int (nI n), .ref rb, .ref mr, .ref mpp, .ref af])), (rc, .inl (k 0, 512, .inl (fun j => nI (R j)))), (rb, .inl (k 0, 512, .inl (fun j => nI (RB j)))), (mr, .inl (k 0, 512, .inl (fun j => nI (MR j)))), (mpp, .inl (k 0, 512, .inl (fun j => nI (MP j)))), (af, .inl (k 0, 4096, .inl (fun j => nI (AF j)))), (rs, .inl (k 0, 36, .inl RS)), (to, .inl (k 1, 4, .inr (.inl TO))), (wt, .inr (2, [.ref wtw, .ref wtv, .int (nI wz)])), (wtw, .inl (k 0, 6, .inl WF)), (wtv, .inl (k 0, 6, .inl WG)), (bo, .inr (0, [.ref bow, .int (nI bz), .ref bov])), (bow, .inl (k 0, 36, .inl BF)), (bov, .inl (k 0, 36, .inl BG)), (za 2, .inl (k 0, 3, .inl (fun j => nI (LR j)))), (za 3, .inl (k 0, 3, .inl (fun j => nI (LQ j)))), (za 4, .inl (k 0, 3, .inl (fun j => nI (CE j)))), (za 5, .inl (k 0, 3, .inl (fun j => nI (zz j)))), (za 6, .inl (k 0, 24, .inl RO)), (za 7, .inl (k 0, 24, .inl RH)), (za 8, .inl (k 0, 24, .inl RP)), (za 9, .inl (k 0, 36, .inl FO)), (za 10, .inl (k 0, 36, .inl (fun j => nI (FP j)))), (za 11, .inl (k 0, 36, .inl (fun j => nI (FN j)))), (za 12, .inl (k 2, 108, .inl IO)), (za 14, .inl (k 0, 36, .inl RS)), (za 15, .inl (k 1, 4, .inr (.inl TO))), (za 17, .inl (k 2, 512, .inl (fun j => bI ((uTH (fV w)) j)))), (za 18, .inl (k 1, 512, .inr (.inl (fun j => lN ((uCO (fV w)) j))))), (za 19, .inl (k 0, 512, .inl (fun j => nI ((uRK (fV w)) j)))), (za 20, .inl (k 2, 512, .inl (fun j => bI ((uTX (fV w)) j)))), (za 21, .inl (k 1, 512, .inr (.inl (fun j => lN ((uCX (fV w)) j))))), (za 22, .inl (k 0, 512, .inl (fun j => nI ((uKX (fV w)) j)))), (za 23, .inl (k 0, 18432, .inl (fun j => nI ((uWY (fV w)) j)))), (za 24, .inl (k 2, 4096, .inl (fun j => bI ((uSE (fV w)) j)))), (za 25, .inl (k 0, 4096, .inl (fun j => nI ((uPL (fV w)) j)))), (za 26, .inl (k 0, 3, .inl (uHN (fV w)))), (za 27, .inl (k 0, 3, .inl (uPN (fV w)))), (za 30, .inl (k 0, 36, .inl (fun j => nI ((fPA w) j)))), (za 33, .inl (k 0, 6, .inl WF)), (za 34, .inl (k 0, 6, .inl WG)), (za 36, .inl (k 0, 36, .inl BF)), (za 37, .inl (k 0, 36, .inl BG)), (x0, .inr (6, [.ref pl, .ref ho, .ref rs, .ref to, .ref wt, .ref bo])), (ho, .inr (1, [.ref ma, .int (nI cn), .ref fa])), (ou, .inl (k 1, 1, .inr (.inl OUT)))]) (b_runV (As := [.int (xs (i + 1)), .int (xs (i + 2)), .int (xs (i + 3))]) (rest := []) (q0 := 50) hm hw (cwV 3 hts (gV ut_T k_754 k_751 k_752 (k_753) k_9) rfl rfl rfl (by decide +kernel) ⟨by decide, by decide⟩) (c_Md_gives_t1 l D k _ md za th cn ov sn (fK w) (fF w) (fC w) wz bz (xs (i + 1)) (xs (i + 2)) (xs (i + 3)) (by assumption)) [50] (by decide) rfl rfl rfl rfl hl.1 rfl (Nat.le_of_ble_eq_true rfl) d_Lw_law_515 ⟨by show cells + 1 + 0 ≤ room_1.cells; omega, by show slots + 6 + 0 ≤ room_1.slots; omega⟩) hw [50] [0, 1, 2, 3, 4, 5, 6, 7, 8, 9, 10, 11, 12, 13, 14, 15, 16, 17, 18, 19, 20, 21, 22, 23, 24, 25, 26, 27, 28, 29, 30, 31, 32, 33, 34, 35, 36, 37, 38, 39, 40, 41, 42, 43, 44, 45, 46, 47, 48, 49, 51, 52, 53, 54, 55, 56, 57, 58, 59, 60, 61, 62, 63, 64, 65, 66, 67, 68, 69, 70, 71, 72, 73, 74, 75, 76, 77, 78, 79, 80, 81, 82] rfl rfl (by decide) (by decide) (fun r8 u8 H locs hp8 hw => ?_)
  refine lv_istore (lv' := [(6, .int r8), (5, .int (nI 1)), (0, .ref b), (1, .ref x0), (2, .ref md), (3, .ref ou), (4, .int (nI i))]) hx hb d_Lw_law_518  hl (by decide) rfl (fun ls hl => ?_)
  refine lv_aload_n hx hb d_Lw_law_520 rfl (lv_at hl 4 rfl) ?_
  refine b_goiR (b_runV (As := []) (rest := []) (q0 := 82) hm hw (cwV 0 hts (gV ut_T k_726 k_723 k_724 (k_725) k_9) rfl rfl rfl (by decide +kernel) ⟨by decide, by decide⟩) (c_Md_thrown l D k _ md za 1 cn ov sn (fK w) (fF w) (fC w) wz bz) [82] (by decide) rfl rfl rfl rfl hl.1 rfl (Nat.le_of_ble_eq_true rfl) d_Lw_law_521 ⟨by show cells + 1 + 0 + 0 ≤ room_1.cells; omega, by show slots + 6 + 0 + 0 ≤ room_1.slots; omega⟩) hw [82] rfl (fun r5 u5 H locs hp5 hw => ?_)
  refine b_ti (y := nI 1) hp5 ?_
  refine lv_iload hx hb d_Lw_law_524 (lv_at hl 1 rfl) ?_
  refine lv_icmp_eq (tgt := 531) hx hb d_Lw_law_526 (by decide) (fun c_526_0 => ?_) (fun c_526_0 => ?_)
  · skip
    refine lv_iload hx hb d_Lw_law_531 (lv_at hl 1 rfl) ?_
    refine lv_if_ne (tgt := 548) hx hb d_Lw_law_533 (by decide) (fun c_533_1 => ?_) (fun c_533_1 => ?_)
    · skip
      refine lv_goto (tgt := 1147) hx hb d_Lw_law_548 (by decide) ?_
      refine W.widen (k := cells + 1) (n := slots + 6) (by show cells + 1 + 0 + 0 ≤ cells + 1; omega) (by show slots + 6 + 0 + 0 ≤ slots + 6; omega) ?_
      refine kx H locs ls (LST_mk (th := 1) (cn := cn) (ov := ov) (sta := sta) (stl := stl) (n := n) (wz := wz) (bz := bz) (sn := sn) (lr := lr) (lp := lp) (sc := sc) (zz := zz) (FP := FP) (FN := FN) (AB := AB) (HE := HE) (PO := PO) (SX := SX) (R := R) (RB := RB) (MR := MR) (MP := MP) (AF := AF) (BE := BE) (FO := FO) (SE := SE) (WF := WF) (WG := WG) (BF := BF) (BG := BG) (RS := RS) (TO := TO) (LF := LF) (LG := LG) (LP := LP) (OU := OU) (LR := LR) (LQ := LQ) (CE := CE) (RO := RO) (RH := RH) (RP := RP) (IO := IO) (w := w) (OUT := OUT) (hI := hI) (hw.sub [79, 80, 0, 1, 2, 3, 4, 5, 6, 7, 8, 9, 10, 11, 12, 13, 14, 15, 16, 17, 18, 19, 20, 21, 22, 23, 24, 25, 26, 27, 28, 29, 30, 31, 32, 33, 34, 35, 36, 37, 38, 39, 40, 41, 42, 43, 44, 45, 46, 47, 48, 49, 82, 50, 51, 52, 53, 54, 55, 56, 57, 58, 59, 60, 61, 62, 63, 64, 65, 66, 67, 68, 69, 70, 71, 72, 73, 74, 75, 76, 77, 78, 81] (by decide) rfl)) (lv_sub hl [2, 3, 4, 5, 6] rfl)
    · skip
      exact absurd c_533_1 (by decide)
  · skip
    exact absurd c_526_0 (by decide)

set_option maxHeartbeats 4000000 in
set_option maxRecDepth 100000 in
theorem L_cost (h0 : LwH p l s m meth c A b L xs) (hi5 : i + 5 ≤ L) (hf : cells + 1 ≤ room_1.cells ∧ slots + 6 ≤ room_1.slots) (kx : ∀ (H : Heap) (locs : List Loc) (ls : Array Slot), LST D k A s H locs x0 ho pl rs to wt bo ma fa se ab he po sx be sa rc rb mr mpp af m0 m1 m2 f0 f1 f2 wtw wtv bow bov md ou hq ha hv pq pa pv oq za → lv_has ls 8 [(0, .ref b), (1, .ref x0), (2, .ref md), (3, .ref ou), (4, .int (nI i))] → W p l e room_1 s m #[Value.ref b] below meth c H locs (cells + 1) (slots + 6) Q (F0 m 1147 ls [])) (hI : lwI cn ov sta stl n wz bz lr lp sc zz FP FN AB HE PO SX R RB MR MP AF BE FO SE WF WG BF LF LG LP OU sn LR LQ CE RO RH RP IO w) (hw : bW (gU D k) A s H locs (LWW k x0 ho pl rs to wt bo ma fa se ab he po sx be sa rc rb mr mpp af m0 m1 m2 f0 f1 f2 wtw wtv bow bov md ou hq ha hv pq pa pv oq za th cn ov sta stl n wz bz sn lr lp sc zz FP FN AB HE PO SX R RB MR MP AF BE FO SE WF WG BF BG RS TO LF LG LP OU LR LQ CE RO RH RP IO w OUT)) (hl : lv_has ls 8 [(0, .ref b), (1, .ref x0), (2, .ref md), (3, .ref ou), (4, .int (nI i))])   : W p l e room_1 s m #[Value.ref b] below meth c H locs cells slots Q (F0 m 551 ls []) := by
  obtain ⟨hm, hE, hX, hbl, hbA, hL, htr⟩ := h0
  have hx := hm.1
  have hb := hm.2.1
  have hown := hm.2.2.2.2.1
  have hts := hm.2.2.2.2.2.1
  have y0 : cn ≤ 3 := hI.1.1
  have y1 : ov ≤ 36 := hI.2.1.2.2.2.2.2.1
  have y2 : stl ≤ 36 := hI.2.1.2.2.2.2.2.2.1
  have y3 : ∀ j, zz j ≤ 8 := fun j => (hI.2.2.2.1.1 j).2.2
  have y4 : sn < 512 := hI.1.2.1
  have y5 : ∀ j, LR j ≤ 4 ∧ LQ j ≤ 4 := fun j => (hI.2.2.2.1.2.2.2 j).1
  have y6 : ∀ j, FN j ≤ 100000 := hI.2.1.2.1.2.2.2.2.2.1
  have y7 : ∀ j, FP j ≤ 1000 := hI.2.1.2.1.2.2.2.2.1
  have y8 : ∀ j, CE j ≤ 100000 := fun j => (hI.2.2.2.1.2.2.2 j).2
  have y9 : wz ≤ 6 := hI.2.2.2.2.2.1.2
  have y10 : bz ≤ 36 := hI.2.2.2.2.2.2.1.1
  have y11 : ∀ j, lr j ≤ 4 ∧ lp j ≤ 4 := hI.2.1.1.2.2.1
  have y12 : ∀ j, j < cn → 1 ≤ lr j ∧ 1 ≤ lp j := hI.2.1.1.2.2.2.1
  have y13 : ∀ j, sc j ≤ 100000 := hI.2.2.2.1.2.1
  have y14 : ∀ j, SX j ≤ 300000 := hI.2.1.2.1.2.2.2.1
  have y15 : bxI R RB MR MP AF := hI.2.2.1
  have y16 : ∀ j, IO j = 0 ∨ IO j = 1 := hI.2.2.2.2.1.2.2.2
  have y17 : ∀ h k v, ghL LF LG zz FO h k = some v → v ≤ 100000 := lw_gb hI
  have y18 : ∀ h k v, gpL LF LP zz FO h k = some v → v ≤ 100000 := lw_qb hI
  have y19 : ∀ h k, ghL LF LG zz FO h k = none ↔ gpL LF LP zz FO h k = none := lw_ns hI
  have y20 : ∀ h, h < 36 → ∀ k, k < cn → gmR zz RO RH RP (FO h) k (ghL LF LG zz FO h k) (gpL LF LP zz FO h k) := lw_gm hI
  have y21 : ∀ h, h < 36 → ∀ j, giI (LF j) (LG j) (LP j) (zz j) (FO h) (ghL LF LG zz FO h j) (gpL LF LP zz FO h j) := fun h _ j => lw_gi hI h j
  have y22 : fdI (fun h => mayR (fun k => cnO (fun j => IO (36 * k + j)) h (ghL LF LG zz FO h k)) LR LQ cn (FN h)) (fun s x => bhR s x 3) (fun h s x => ctR (gpL LF LP zz FO h) CE (FP h) s x cn) (2 ^ cn) ov sn w := hI.2.2.2.2.2.2.2
  have y23 : plP (fun h j => cnO (OU j) h (ghL LF LG zz FO h j)) (fun h j => cnO (OU j) h (gpL LF LP zz FO h j)) lr lp sc cn n ov sta stl FP FN R RB MR MP AF SX AB HE PO BE SE := hI.2.1
  refine lv_aload_n hx hb d_Lw_law_551 rfl (lv_at hl 1 rfl) ?_
  refine b_gol (wr := [(rs, .inl (k 0, 36, .inl RS)), (to, .inl (k 1, 4, .inr (.inl TO))), (wt, .inr (2, [.ref wtw, .ref wtv, .int (nI wz)])), (wtw, .inl (k 0, 6, .inl WF)), (wtv, .inl (k 0, 6, .inl WG)), (bo, .inr (0, [.ref bow, .int (nI bz), .ref bov])), (bow, .inl (k 0, 36, .inl BF)), (bov, .inl (k 0, 36, .inl BG)), (md, .inr (7, mdL za th cn ov sn (fK w) (fF w) (fC w) wz bz)), (za 2, .inl (k 0, 3, .inl (fun j => nI (LR j)))), (za 3, .inl (k 0, 3, .inl (fun j => nI (LQ j)))), (za 4, .inl (k 0, 3, .inl (fun j => nI (CE j)))), (za 5, .inl (k 0, 3, .inl (fun j => nI (zz j)))), (za 6, .inl (k 0, 24, .inl RO)), (za 7, .inl (k 0, 24, .inl RH)), (za 8, .inl (k 0, 24, .inl RP)), (za 9, .inl (k 0, 36, .inl FO)), (za 10, .inl (k 0, 36, .inl (fun j => nI (FP j)))), (za 11, .inl (k 0, 36, .inl (fun j => nI (FN j)))), (za 12, .inl (k 2, 108, .inl IO)), (za 14, .inl (k 0, 36, .inl RS)), (za 15, .inl (k 1, 4, .inr (.inl TO))), (za 17, .inl (k 2, 512, .inl (fun j => bI ((uTH (fV w)) j)))), (za 18, .inl (k 1, 512, .inr (.inl (fun j => lN ((uCO (fV w)) j))))), (za 19, .inl (k 0, 512, .inl (fun j => nI ((uRK (fV w)) j)))), (za 20, .inl (k 2, 512, .inl (fun j => bI ((uTX (fV w)) j)))), (za 21, .inl (k 1, 512, .inr (.inl (fun j => lN ((uCX (fV w)) j))))), (za 22, .inl (k 0, 512, .inl (fun j => nI ((uKX (fV w)) j)))), (za 23, .inl (k 0, 18432, .inl (fun j => nI ((uWY (fV w)) j)))), (za 24, .inl (k 2, 4096, .inl (fun j => bI ((uSE (fV w)) j)))), (za 25, .inl (k 0, 4096, .inl (fun j => nI ((uPL (fV w)) j)))), (za 26, .inl (k 0, 3, .inl (uHN (fV w)))), (za 27, .inl (k 0, 3, .inl (uPN (fV w)))), (za 30, .inl (k 0, 36, .inl (fun j => nI ((fPA w) j)))), (za 33, .inl (k 0, 6, .inl WF)), (za 34, .inl (k 0, 6, .inl WG)), (za 36, .inl (k 0, 36, .inl BF)), (za 37, .inl (k 0, 36, .inl BG)), (ou, .inl (k 1, 1, .inr (.inl OUT)))]) (b_runV (As := []) (rest := []) (q0 := 0) hm hw (cwV 0 hts (gV ut_T k_226 k_223 k_224 (k_225) k_1) rfl rfl rfl (by decide +kernel) ⟨by decide, by decide⟩) (c_HM_cost l D k _ x0 rs to wt bo pl se ab he po sx be ho ma fa f0 f1 f2 sa rc rb mr mpp af ov sta stl cn n m0 m1 m2 lr lp sc hq ha hv pq pa pv oq zz LF LG LP OU FO SE BE AB HE PO SX FP FN R RB MR MP AF (ghL LF LG zz FO) (gpL LF LP zz FO) (by assumption) (by assumption) (by assumption)) [0, 31, 32, 33, 34, 35, 36, 37, 1, 3, 4, 5, 6, 38, 39, 40, 41, 42, 43, 2, 7, 8, 9, 10, 11, 12, 13, 14, 15, 16, 17, 18, 19, 20, 21, 22, 23, 24, 25, 26, 27, 28, 29, 30] (by decide) rfl rfl rfl rfl hl.1 rfl (Nat.le_of_ble_eq_true rfl) d_Lw_law_552 ⟨by show cells + 0 ≤ room_1.cells; omega, by show slots + 0 ≤ room_1.slots; omega⟩) hw [0, 31, 32, 33, 34, 35, 36, 37, 1, 3, 4, 5, 6, 38, 39, 40, 41, 42, 43, 2, 7, 8, 9, 10, 11, 12, 13, 14, 15, 16, 17, 18, 19, 20, 21, 22, 23, 24, 25, 26, 27, 28, 29, 30] [44, 45, 46, 47, 48, 49, 50, 51, 52, 53, 54, 55, 56, 57, 58, 59, 60, 61, 62, 63, 64, 65, 66, 67, 68, 69, 70, 71, 72, 73, 74, 75, 76, 77, 78, 79, 80, 81, 82] rfl rfl (by decide) (by decide) (fun r9 u9 H locs hp9 hw => ?_)
  have hp7 : r9 = oL ((u9.2.2.2.2 (ov * 512 + sta)).map (· / 8)) ∧ plP (fun h j => cnO (OU j) h ((ghL LF LG zz FO) h j)) (fun h j => cnO (OU j) h ((gpL LF LP zz FO) h j)) lr lp sc cn n ov sta 0 FP FN R RB MR MP AF SX u9.2.1 u9.2.2.1 u9.2.2.2.1 u9.2.2.2.2 u9.1 := hp9
  refine lv_aload_n hx hb d_Lw_law_555 rfl (lv_at hl 2 rfl) ?_
  refine b_gol (wr := [(rs, .inl (k 0, 36, .inl RS)), (to, .inl (k 1, 4, .inr (.inl TO))), (wt, .inr (2, [.ref wtw, .ref wtv, .int (nI wz)])), (wtw, .inl (k 0, 6, .inl WF)), (wtv, .inl (k 0, 6, .inl WG)), (bo, .inr (0, [.ref bow, .int (nI bz), .ref bov])), (bow, .inl (k 0, 36, .inl BF)), (bov, .inl (k 0, 36, .inl BG)), (za 14, .inl (k 0, 36, .inl RS)), (za 15, .inl (k 1, 4, .inr (.inl TO))), (za 33, .inl (k 0, 6, .inl WF)), (za 34, .inl (k 0, 6, .inl WG)), (za 36, .inl (k 0, 36, .inl BF)), (za 37, .inl (k 0, 36, .inl BG)), (ou, .inl (k 1, 1, .inr (.inl OUT))), (x0, .inr (6, [.ref pl, .ref ho, .ref rs, .ref to, .ref wt, .ref bo])), (pl, .inr (4, [.ref ho, .ref sa, .int (nI ov), .int (nI sta), .int (nI 0), .ref se, .ref ab, .ref he, .ref po, .ref sx, .ref be])), (se, .inl (k 0, 36, .inl u9.1)), (ab, .inl (k 0, 36, .inl (fun j => nI (u9.2.1 j)))), (he, .inl (k 0, 288, .inl (fun j => nI (u9.2.2.1 j)))), (po, .inl (k 0, 288, .inl (fun j => nI (u9.2.2.2.1 j)))), (sx, .inl (k 0, 8, .inl (fun j => nI (SX j)))), (be, .inl (k 1, 18944, .inr (.inl (fun j => oL (u9.2.2.2.2 j))))), (ho, .inr (1, [.ref ma, .int (nI cn), .ref fa])), (fa, .inl (k 4, 3, .inr (.inr (.inr (.inr (mAd f0 f1 f2)))))), (f0, .inl (k 0, 36, .inl FO)), (f1, .inl (k 0, 36, .inl (fun j => nI (FP j)))), (f2, .inl (k 0, 36, .inl (fun j => nI (FN j)))), (sa, .inr (5, [.ref rc, .int (nI n), .ref rb, .ref mr, .ref mpp, .ref af])), (rc, .inl (k 0, 512, .inl (fun j => nI (R j)))), (rb, .inl (k 0, 512, .inl (fun j => nI (RB j)))), (mr, .inl (k 0, 512, .inl (fun j => nI (MR j)))), (mpp, .inl (k 0, 512, .inl (fun j => nI (MP j)))), (af, .inl (k 0, 4096, .inl (fun j => nI (AF j)))), (ma, .inl (k 3, 3, .inr (.inr (.inr (.inr (mAd m0 m1 m2)))))), (m0, .inr (3, [.int (nI (lr 0)), .int (nI (lp 0)), .int (nI (sc 0)), .ref (hq 0), .ref (pq 0), .ref (oq 0)])), (hq 0, .inr (2, [.ref (ha 0), .ref (hv 0), .int (nI (zz 0))])), (ha 0, .inl (k 0, 8, .inl (LF 0))), (hv 0, .inl (k 0, 8, .inl (LG 0))), (pq 0, .inr (2, [.ref (pa 0), .ref (pv 0), .int (nI (zz 0))])), (pa 0, .inl (k 0, 8, .inl (LF 0))), (pv 0, .inl (k 0, 8, .inl (LP 0))), (oq 0, .inl (k 2, 36, .inl (OU 0))), (m1, .inr (3, [.int (nI (lr 1)), .int (nI (lp 1)), .int (nI (sc 1)), .ref (hq 1), .ref (pq 1), .ref (oq 1)])), (hq 1, .inr (2, [.ref (ha 1), .ref (hv 1), .int (nI (zz 1))])), (ha 1, .inl (k 0, 8, .inl (LF 1))), (hv 1, .inl (k 0, 8, .inl (LG 1))), (pq 1, .inr (2, [.ref (pa 1), .ref (pv 1), .int (nI (zz 1))])), (pa 1, .inl (k 0, 8, .inl (LF 1))), (pv 1, .inl (k 0, 8, .inl (LP 1))), (oq 1, .inl (k 2, 36, .inl (OU 1))), (m2, .inr (3, [.int (nI (lr 2)), .int (nI (lp 2)), .int (nI (sc 2)), .ref (hq 2), .ref (pq 2), .ref (oq 2)])), (hq 2, .inr (2, [.ref (ha 2), .ref (hv 2), .int (nI (zz 2))])), (ha 2, .inl (k 0, 8, .inl (LF 2))), (hv 2, .inl (k 0, 8, .inl (LG 2))), (pq 2, .inr (2, [.ref (pa 2), .ref (pv 2), .int (nI (zz 2))])), (pa 2, .inl (k 0, 8, .inl (LF 2))), (pv 2, .inl (k 0, 8, .inl (LP 2))), (oq 2, .inl (k 2, 36, .inl (OU 2)))]) (b_runV (As := []) (rest := [.long r9]) (q0 := 8) hm hw (cwV 0 hts (gV ut_T k_765 k_762 k_763 (k_764) k_9) rfl rfl rfl (by decide +kernel) ⟨by decide, by decide⟩) (c_Md_cost l D k _ md za th cn ov sn wz bz IO FO zz RO RH RP LR LQ FN FP CE (ghL LF LG zz FO) (gpL LF LP zz FO) w (by assumption) (by assumption) (by assumption) (by assumption) (by assumption) (by assumption) (by assumption) (by assumption) (by assumption) (by assumption) (by assumption) (by assumption) (by assumption)) [8, 19, 16, 12, 13, 14, 15, 31, 32, 9, 10, 18, 17, 11, 22, 23, 24, 25, 26, 27, 28, 29, 30, 33] (by decide) rfl rfl rfl rfl hl.1 rfl (Nat.le_of_ble_eq_true rfl) d_Lw_law_556 ⟨by show cells + 0 + 0 ≤ room_1.cells; omega, by show slots + 0 + 0 ≤ room_1.slots; omega⟩) hw [8, 19, 16, 12, 13, 14, 15, 31, 32, 9, 10, 18, 17, 11, 22, 23, 24, 25, 26, 27, 28, 29, 30, 33] [0, 1, 2, 3, 4, 5, 6, 7, 20, 21, 34, 35, 36, 37, 38, 39, 40, 41, 42, 43, 44, 45, 46, 47, 48, 49, 50, 51, 52, 53, 54, 55, 56, 57, 58, 59, 60, 61, 62, 63, 64, 65, 66, 67, 68, 69, 70, 71, 72, 73, 74, 75, 76, 77, 78, 79, 80, 81, 82] rfl rfl (by decide) (by decide) (fun r8 u8 H locs hp8 hw => ?_)
  have hp6 : fdI (fun h => mayR (fun k => cnO (fun j => IO (36 * k + j)) h ((ghL LF LG zz FO) h k)) LR LQ cn (FN h)) (fun s x => bhR s x 3) (fun h s x => ctR ((gpL LF LP zz FO) h) CE (FP h) s x cn) (2 ^ cn) ov sn u8 ∧ fK u8 = 1 ∧ ((fF u8 = 1 ∧ isB (fun h => mayR (fun k => cnO (fun j => IO (36 * k + j)) h ((ghL LF LG zz FO) h k)) LR LQ cn (FN h)) (fun s x => bhR s x 3) (fun h s x => ctR ((gpL LF LP zz FO) h) CE (FP h) s x cn) (2 ^ cn) ov sn (36 - ov) (lsP (fPA u8) ov (36 - ov)) ∧ r8 = lN (coL (fun s x => bhR s x 3) (fun h s x => ctR ((gpL LF LP zz FO) h) CE (FP h) s x cn) ov sn (lsP (fPA u8) ov (36 - ov)))) ∨ (fF u8 = 0 ∧ (∀ ys : List Nat, ys.length = 36 - ov → ¬ okL (fun h => mayR (fun k => cnO (fun j => IO (36 * k + j)) h ((ghL LF LG zz FO) h k)) LR LQ cn (FN h)) (fun s x => bhR s x 3) (2 ^ cn) ov sn ys) ∧ r8 = -1)) := hp8
  have heq : r9 = r8 := res_cost hI hp7.2 hp7.1 hp6.2.2
  refine W.lcmp hx hb d_Lw_law_559 ?_
  refine lv_if_eq (tgt := 1147) hx hb d_Lw_law_560 (by decide) (fun c_560_0 => ?_) (fun c_560_0 => ?_)
  · skip
    refine W.widen (k := cells + 1) (n := slots + 6) (by show cells + 0 + 0 ≤ cells + 1; omega) (by show slots + 0 + 0 ≤ slots + 6; omega) ?_
    refine kx H locs ls (LST_mk (th := 0) (cn := cn) (ov := ov) (sta := sta) (stl := 0) (n := n) (wz := wz) (bz := bz) (sn := sn) (lr := lr) (lp := lp) (sc := sc) (zz := zz) (FP := FP) (FN := FN) (AB := u9.2.1) (HE := u9.2.2.1) (PO := u9.2.2.2.1) (SX := SX) (R := R) (RB := RB) (MR := MR) (MP := MP) (AF := AF) (BE := u9.2.2.2.2) (FO := FO) (SE := u9.1) (WF := WF) (WG := WG) (BF := BF) (BG := BG) (RS := RS) (TO := TO) (LF := LF) (LG := LG) (LP := LP) (OU := OU) (LR := LR) (LQ := LQ) (CE := CE) (RO := RO) (RH := RH) (RP := RP) (IO := IO) (w := u8) (OUT := OUT) (hI := lw_pl hI hp7.2 hp6.1) (hw.sub [15, 23, 34, 24, 25, 26, 27, 35, 36, 37, 38, 39, 40, 41, 42, 43, 44, 45, 46, 47, 48, 49, 50, 51, 52, 53, 54, 55, 56, 57, 58, 16, 17, 18, 19, 20, 21, 22, 28, 29, 30, 31, 32, 33, 0, 1, 2, 3, 4, 5, 6, 7, 59, 68, 69, 72, 62, 63, 64, 65, 61, 71, 70, 60, 8, 9, 73, 74, 75, 76, 77, 78, 79, 80, 81, 66, 67, 82, 10, 11, 12, 13, 14] (by decide) rfl)) (lv_sub hl [0, 1, 2, 3, 4] rfl)
  · skip
    exact absurd (lc_eq heq) c_560_0

set_option maxHeartbeats 4000000 in
set_option maxRecDepth 100000 in
theorem L_planned (h0 : LwH p l s m meth c A b L xs) (hi5 : i + 5 ≤ L) (hf : cells + 1 ≤ room_1.cells ∧ slots + 6 ≤ room_1.slots) (kx : ∀ (H : Heap) (locs : List Loc) (ls : Array Slot), LST D k A s H locs x0 ho pl rs to wt bo ma fa se ab he po sx be sa rc rb mr mpp af m0 m1 m2 f0 f1 f2 wtw wtv bow bov md ou hq ha hv pq pa pv oq za → lv_has ls 8 [(0, .ref b), (1, .ref x0), (2, .ref md), (3, .ref ou), (4, .int (nI i))] → W p l e room_1 s m #[Value.ref b] below meth c H locs (cells + 1) (slots + 6) Q (F0 m 1147 ls [])) (hI : lwI cn ov sta stl n wz bz lr lp sc zz FP FN AB HE PO SX R RB MR MP AF BE FO SE WF WG BF LF LG LP OU sn LR LQ CE RO RH RP IO w) (hw : bW (gU D k) A s H locs (LWW k x0 ho pl rs to wt bo ma fa se ab he po sx be sa rc rb mr mpp af m0 m1 m2 f0 f1 f2 wtw wtv bow bov md ou hq ha hv pq pa pv oq za th cn ov sta stl n wz bz sn lr lp sc zz FP FN AB HE PO SX R RB MR MP AF BE FO SE WF WG BF BG RS TO LF LG LP OU LR LQ CE RO RH RP IO w OUT)) (hl : lv_has ls 8 [(0, .ref b), (1, .ref x0), (2, .ref md), (3, .ref ou), (4, .int (nI i))]) {h : Nat} (hh : h < 36) (e1 : xs (i + 1) = nI h) : W p l e room_1 s m #[Value.ref b] below meth c H locs cells slots Q (F0 m 565 ls []) := by
  obtain ⟨hm, hE, hX, hbl, hbA, hL, htr⟩ := h0
  have hx := hm.1
  have hb := hm.2.1
  have hown := hm.2.2.2.2.1
  have hts := hm.2.2.2.2.2.1
  have y0 : cn ≤ 3 := hI.1.1
  have y1 : ov ≤ 36 := hI.2.1.2.2.2.2.2.1
  have y2 : stl ≤ 36 := hI.2.1.2.2.2.2.2.2.1
  have y3 : ∀ j, zz j ≤ 8 := fun j => (hI.2.2.2.1.1 j).2.2
  have y4 : sn < 512 := hI.1.2.1
  have y5 : ∀ j, LR j ≤ 4 ∧ LQ j ≤ 4 := fun j => (hI.2.2.2.1.2.2.2 j).1
  have y6 : ∀ j, FN j ≤ 100000 := hI.2.1.2.1.2.2.2.2.2.1
  have y7 : ∀ j, FP j ≤ 1000 := hI.2.1.2.1.2.2.2.2.1
  have y8 : ∀ j, CE j ≤ 100000 := fun j => (hI.2.2.2.1.2.2.2 j).2
  have y9 : wz ≤ 6 := hI.2.2.2.2.2.1.2
  have y10 : bz ≤ 36 := hI.2.2.2.2.2.2.1.1
  have y11 : ∀ j, lr j ≤ 4 ∧ lp j ≤ 4 := hI.2.1.1.2.2.1
  have y12 : ∀ j, j < cn → 1 ≤ lr j ∧ 1 ≤ lp j := hI.2.1.1.2.2.2.1
  have y13 : ∀ j, sc j ≤ 100000 := hI.2.2.2.1.2.1
  have y14 : ∀ j, SX j ≤ 300000 := hI.2.1.2.1.2.2.2.1
  have y15 : bxI R RB MR MP AF := hI.2.2.1
  have y16 : ∀ j, IO j = 0 ∨ IO j = 1 := hI.2.2.2.2.1.2.2.2
  have y17 : ∀ h k v, ghL LF LG zz FO h k = some v → v ≤ 100000 := lw_gb hI
  have y18 : ∀ h k v, gpL LF LP zz FO h k = some v → v ≤ 100000 := lw_qb hI
  have y19 : ∀ h k, ghL LF LG zz FO h k = none ↔ gpL LF LP zz FO h k = none := lw_ns hI
  have y20 : ∀ h, h < 36 → ∀ k, k < cn → gmR zz RO RH RP (FO h) k (ghL LF LG zz FO h k) (gpL LF LP zz FO h k) := lw_gm hI
  have y21 : ∀ h, h < 36 → ∀ j, giI (LF j) (LG j) (LP j) (zz j) (FO h) (ghL LF LG zz FO h j) (gpL LF LP zz FO h j) := fun h _ j => lw_gi hI h j
  have y22 : fdI (fun h => mayR (fun k => cnO (fun j => IO (36 * k + j)) h (ghL LF LG zz FO h k)) LR LQ cn (FN h)) (fun s x => bhR s x 3) (fun h s x => ctR (gpL LF LP zz FO h) CE (FP h) s x cn) (2 ^ cn) ov sn w := hI.2.2.2.2.2.2.2
  have y23 : plP (fun h j => cnO (OU j) h (ghL LF LG zz FO h j)) (fun h j => cnO (OU j) h (gpL LF LP zz FO h j)) lr lp sc cn n ov sta stl FP FN R RB MR MP AF SX AB HE PO BE SE := hI.2.1
  refine lv_aload_n hx hb d_Lw_law_565 rfl (lv_at hl 1 rfl) ?_
  refine lv_aload_n hx hb d_Lw_law_566 rfl (lv_at hl 0 rfl) ?_
  refine lv_iload hx hb d_Lw_law_567 (lv_at hl 4 rfl) ?_
  refine lv_iconst (v := nI 1) hx hb d_Lw_law_569 (by decide) ?_
  refine lv_iadd hx hb d_Lw_law_570 ?_
  refine b_ti (nI_add i 1) ?_
  refine b_sld (j := i + 1) hm hX hbl hbA hw (by omega) hL d_Lw_law_571 ?_
  refine b_ti e1 ?_
  refine lv_aload_n hx hb d_Lw_law_572 rfl (lv_at hl 3 rfl) ?_
  refine b_goi (wr := [(rs, .inl (k 0, 36, .inl RS)), (to, .inl (k 1, 4, .inr (.inl TO))), (wt, .inr (2, [.ref wtw, .ref wtv, .int (nI wz)])), (wtw, .inl (k 0, 6, .inl WF)), (wtv, .inl (k 0, 6, .inl WG)), (bo, .inr (0, [.ref bow, .int (nI bz), .ref bov])), (bow, .inl (k 0, 36, .inl BF)), (bov, .inl (k 0, 36, .inl BG)), (md, .inr (7, mdL za th cn ov sn (fK w) (fF w) (fC w) wz bz)), (za 2, .inl (k 0, 3, .inl (fun j => nI (LR j)))), (za 3, .inl (k 0, 3, .inl (fun j => nI (LQ j)))), (za 4, .inl (k 0, 3, .inl (fun j => nI (CE j)))), (za 5, .inl (k 0, 3, .inl (fun j => nI (zz j)))), (za 6, .inl (k 0, 24, .inl RO)), (za 7, .inl (k 0, 24, .inl RH)), (za 8, .inl (k 0, 24, .inl RP)), (za 9, .inl (k 0, 36, .inl FO)), (za 10, .inl (k 0, 36, .inl (fun j => nI (FP j)))), (za 11, .inl (k 0, 36, .inl (fun j => nI (FN j)))), (za 12, .inl (k 2, 108, .inl IO)), (za 14, .inl (k 0, 36, .inl RS)), (za 15, .inl (k 1, 4, .inr (.inl TO))), (za 17, .inl (k 2, 512, .inl (fun j => bI ((uTH (fV w)) j)))), (za 18, .inl (k 1, 512, .inr (.inl (fun j => lN ((uCO (fV w)) j))))), (za 19, .inl (k 0, 512, .inl (fun j => nI ((uRK (fV w)) j)))), (za 20, .inl (k 2, 512, .inl (fun j => bI ((uTX (fV w)) j)))), (za 21, .inl (k 1, 512, .inr (.inl (fun j => lN ((uCX (fV w)) j))))), (za 22, .inl (k 0, 512, .inl (fun j => nI ((uKX (fV w)) j)))), (za 23, .inl (k 0, 18432, .inl (fun j => nI ((uWY (fV w)) j)))), (za 24, .inl (k 2, 4096, .inl (fun j => bI ((uSE (fV w)) j)))), (za 25, .inl (k 0, 4096, .inl (fun j => nI ((uPL (fV w)) j)))), (za 26, .inl (k 0, 3, .inl (uHN (fV w)))), (za 27, .inl (k 0, 3, .inl (uPN (fV w)))), (za 30, .inl (k 0, 36, .inl (fun j => nI ((fPA w) j)))), (za 33, .inl (k 0, 6, .inl WF)), (za 34, .inl (k 0, 6, .inl WG)), (za 36, .inl (k 0, 36, .inl BF)), (za 37, .inl (k 0, 36, .inl BG))]) (b_runSH (n := 3) (As := [.ref x0, .int (nI h), .ref ou]) (rest := []) hm ut_T hE hw (h_planned l D k _ x0 rs to wt bo pl se ab he po sx be ho ma fa f0 f1 f2 sa rc rb mr mpp af ov sta stl cn n m0 m1 m2 lr lp sc hq ha hv pq pa pv oq zz LF LG LP OU FO SE BE AB HE PO SX FP FN R RB MR MP AF (ghL LF LG zz FO) (gpL LF LP zz FO) h (by assumption) (by assumption) (by assumption) (by assumption) ou OUT) k_487 k_485 k_486 k_0 ⟨by decide, by decide, by decide +kernel⟩ ⟨by decide, by decide⟩ [0, 31, 32, 33, 34, 35, 36, 37, 1, 3, 4, 5, 6, 38, 39, 40, 41, 42, 43, 2, 7, 8, 9, 10, 11, 12, 13, 14, 15, 16, 17, 18, 19, 20, 21, 22, 23, 24, 25, 26, 27, 28, 29, 30, 82] (by decide) rfl rfl hl.1 rfl (Nat.le_of_ble_eq_true rfl) d_Lw_law_573 ⟨by show cells + 0 ≤ room_1.cells; omega, by show slots + 0 ≤ room_1.slots; omega⟩) hw [0, 31, 32, 33, 34, 35, 36, 37, 1, 3, 4, 5, 6, 38, 39, 40, 41, 42, 43, 2, 7, 8, 9, 10, 11, 12, 13, 14, 15, 16, 17, 18, 19, 20, 21, 22, 23, 24, 25, 26, 27, 28, 29, 30, 82] [44, 45, 46, 47, 48, 49, 50, 51, 52, 53, 54, 55, 56, 57, 58, 59, 60, 61, 62, 63, 64, 65, 66, 67, 68, 69, 70, 71, 72, 73, 74, 75, 76, 77, 78, 79, 80, 81] rfl rfl (by decide) (by decide) (fun r9 u9 H locs hp9 hw => ?_)
  refine b_ti (y := nI 0) hp9.1 ?_
  have hp7 : u9.1 = (if h < ov then -1 else u9.2.1 h) ∧ plP (fun h j => cnO (OU j) h ((ghL LF LG zz FO) h j)) (fun h j => cnO (OU j) h ((gpL LF LP zz FO) h j)) lr lp sc cn n ov sta 0 FP FN R RB MR MP AF SX u9.2.2.1 u9.2.2.2.1 u9.2.2.2.2.1 u9.2.2.2.2.2 u9.2.1 := hp9.2
  refine lv_istore (lv' := [(5, .int (nI 0)), (0, .ref b), (1, .ref x0), (2, .ref md), (3, .ref ou), (4, .int (nI i))]) hx hb d_Lw_law_576  hl (by decide) rfl (fun ls hl => ?_)
  refine lv_aload_n hx hb d_Lw_law_578 rfl (lv_at hl 3 rfl) ?_
  refine lv_aload_n hx hb d_Lw_law_579 rfl (lv_at hl 1 rfl) ?_
  refine lv_iload hx hb d_Lw_law_580 (lv_at hl 5 rfl) ?_
  refine lv_iconst (v := nI 1) hx hb d_Lw_law_582 (by decide) ?_
  refine lv_iadd hx hb d_Lw_law_583 ?_
  refine b_ti (nI_add i 1) ?_
  refine b_sld (j := i + 1) hm hX hbl hbA hw (by omega) hL d_Lw_law_584 ?_
  refine b_ti e1 ?_
  refine b_goi (wr := [(rs, .inl (k 0, 36, .inl RS)), (to, .inl (k 1, 4, .inr (.inl TO))), (wt, .inr (2, [.ref wtw, .ref wtv, .int (nI wz)])), (wtw, .inl (k 0, 6, .inl WF)), (wtv, .inl (k 0, 6, .inl WG)), (bo, .inr (0, [.ref bow, .int (nI bz), .ref bov])), (bow, .inl (k 0, 36, .inl BF)), (bov, .inl (k 0, 36, .inl BG)), (za 14, .inl (k 0, 36, .inl RS)), (za 15, .inl (k 1, 4, .inr (.inl TO))), (za 33, .inl (k 0, 6, .inl WF)), (za 34, .inl (k 0, 6, .inl WG)), (za 36, .inl (k 0, 36, .inl BF)), (za 37, .inl (k 0, 36, .inl BG)), (x0, .inr (6, [.ref pl, .ref ho, .ref rs, .ref to, .ref wt, .ref bo])), (pl, .inr (4, [.ref ho, .ref sa, .int (nI ov), .int (nI sta), .int (nI 0), .ref se, .ref ab, .ref he, .ref po, .ref sx, .ref be])), (se, .inl (k 0, 36, .inl u9.2.1)), (ab, .inl (k 0, 36, .inl (fun j => nI (u9.2.2.1 j)))), (he, .inl (k 0, 288, .inl (fun j => nI (u9.2.2.2.1 j)))), (po, .inl (k 0, 288, .inl (fun j => nI (u9.2.2.2.2.1 j)))), (sx, .inl (k 0, 8, .inl (fun j => nI (SX j)))), (be, .inl (k 1, 18944, .inr (.inl (fun j => oL (u9.2.2.2.2.2 j))))), (ho, .inr (1, [.ref ma, .int (nI cn), .ref fa])), (fa, .inl (k 4, 3, .inr (.inr (.inr (.inr (mAd f0 f1 f2)))))), (f0, .inl (k 0, 36, .inl FO)), (f1, .inl (k 0, 36, .inl (fun j => nI (FP j)))), (f2, .inl (k 0, 36, .inl (fun j => nI (FN j)))), (sa, .inr (5, [.ref rc, .int (nI n), .ref rb, .ref mr, .ref mpp, .ref af])), (rc, .inl (k 0, 512, .inl (fun j => nI (R j)))), (rb, .inl (k 0, 512, .inl (fun j => nI (RB j)))), (mr, .inl (k 0, 512, .inl (fun j => nI (MR j)))), (mpp, .inl (k 0, 512, .inl (fun j => nI (MP j)))), (af, .inl (k 0, 4096, .inl (fun j => nI (AF j)))), (ma, .inl (k 3, 3, .inr (.inr (.inr (.inr (mAd m0 m1 m2)))))), (m0, .inr (3, [.int (nI (lr 0)), .int (nI (lp 0)), .int (nI (sc 0)), .ref (hq 0), .ref (pq 0), .ref (oq 0)])), (hq 0, .inr (2, [.ref (ha 0), .ref (hv 0), .int (nI (zz 0))])), (ha 0, .inl (k 0, 8, .inl (LF 0))), (hv 0, .inl (k 0, 8, .inl (LG 0))), (pq 0, .inr (2, [.ref (pa 0), .ref (pv 0), .int (nI (zz 0))])), (pa 0, .inl (k 0, 8, .inl (LF 0))), (pv 0, .inl (k 0, 8, .inl (LP 0))), (oq 0, .inl (k 2, 36, .inl (OU 0))), (m1, .inr (3, [.int (nI (lr 1)), .int (nI (lp 1)), .int (nI (sc 1)), .ref (hq 1), .ref (pq 1), .ref (oq 1)])), (hq 1, .inr (2, [.ref (ha 1), .ref (hv 1), .int (nI (zz 1))])), (ha 1, .inl (k 0, 8, .inl (LF 1))), (hv 1, .inl (k 0, 8, .inl (LG 1))), (pq 1, .inr (2, [.ref (pa 1), .ref (pv 1), .int (nI (zz 1))])), (pa 1, .inl (k 0, 8, .inl (LF 1))), (pv 1, .inl (k 0, 8, .inl (LP 1))), (oq 1, .inl (k 2, 36, .inl (OU 1))), (m2, .inr (3, [.int (nI (lr 2)), .int (nI (lp 2)), .int (nI (sc 2)), .ref (hq 2), .ref (pq 2), .ref (oq 2)])), (hq 2, .inr (2, [.ref (ha 2), .ref (hv 2), .int (nI (zz 2))])), (ha 2, .inl (k 0, 8, .inl (LF 2))), (hv 2, .inl (k 0, 8, .inl (LG 2))), (pq 2, .inr (2, [.ref (pa 2), .ref (pv 2), .int (nI (zz 2))])), (pa 2, .inl (k 0, 8, .inl (LF 2))), (pv 2, .inl (k 0, 8, .inl (LP 2))), (oq 2, .inl (k 2, 36, .inl (OU 2))), (ou, .inl (k 1, 1, .inr (.inl (vp_updL OUT 0 u9.1.toInt64))))]) (b_runV (As := [.int (nI h)]) (rest := []) (q0 := 8) hm hw (cwV 1 hts (gV ut_T k_804 k_801 k_802 (k_803) k_9) rfl rfl rfl (by decide +kernel) ⟨by decide, by decide⟩) (c_Md_planned l D k _ md za th cn ov sn wz bz IO FO zz RO RH RP LR LQ FN FP CE (ghL LF LG zz FO) (gpL LF LP zz FO) w h (by assumption) (by assumption) (by assumption) (by assumption) (by assumption) (by assumption) (by assumption) (by assumption) (by assumption) (by assumption) (by assumption) (by assumption) (by assumption) (by assumption)) [8, 19, 16, 12, 13, 14, 15, 31, 32, 9, 10, 18, 17, 11, 22, 23, 24, 25, 26, 27, 28, 29, 30, 33] (by decide) rfl rfl rfl rfl hl.1 rfl (Nat.le_of_ble_eq_true rfl) d_Lw_law_585 ⟨by show cells + 0 + 0 ≤ room_1.cells; omega, by show slots + 0 + 0 ≤ room_1.slots; omega⟩) hw [8, 19, 16, 12, 13, 14, 15, 31, 32, 9, 10, 18, 17, 11, 22, 23, 24, 25, 26, 27, 28, 29, 30, 33] [0, 1, 2, 3, 4, 5, 6, 7, 20, 21, 34, 35, 36, 37, 38, 39, 40, 41, 42, 43, 44, 45, 46, 47, 48, 49, 50, 51, 52, 53, 54, 55, 56, 57, 58, 59, 60, 61, 62, 63, 64, 65, 66, 67, 68, 69, 70, 71, 72, 73, 74, 75, 76, 77, 78, 79, 80, 81, 82] rfl rfl (by decide) (by decide) (fun r8 u8 H locs hp8 hw => ?_)
  have hp6 : fdI (fun h => mayR (fun k => cnO (fun j => IO (36 * k + j)) h ((ghL LF LG zz FO) h k)) LR LQ cn (FN h)) (fun s x => bhR s x 3) (fun h s x => ctR ((gpL LF LP zz FO) h) CE (FP h) s x cn) (2 ^ cn) ov sn u8 ∧ ((h < ov ∧ r8 = -1) ∨ (ov ≤ h ∧ fK u8 = 1 ∧ ((fF u8 = 1 ∧ isB (fun h => mayR (fun k => cnO (fun j => IO (36 * k + j)) h ((ghL LF LG zz FO) h k)) LR LQ cn (FN h)) (fun s x => bhR s x 3) (fun h s x => ctR ((gpL LF LP zz FO) h) CE (FP h) s x cn) (2 ^ cn) ov sn (36 - ov) (lsP (fPA u8) ov (36 - ov)) ∧ r8 = nI (fPA u8 h)) ∨ (fF u8 = 0 ∧ (∀ ys : List Nat, ys.length = 36 - ov → ¬ okL (fun h => mayR (fun k => cnO (fun j => IO (36 * k + j)) h ((ghL LF LG zz FO) h k)) LR LQ cn (FN h)) (fun s x => bhR s x 3) (2 ^ cn) ov sn ys) ∧ r8 = -1)))) := hp8
  have heq : u9.1 = r8 := res_planned hI hp7.2 hh hp7.1 hp6.2
  refine lv_istore (lv' := [(6, .int r8), (5, .int (nI 0)), (0, .ref b), (1, .ref x0), (2, .ref md), (3, .ref ou), (4, .int (nI i))]) hx hb d_Lw_law_588  hl (by decide) rfl (fun ls hl => ?_)
  refine lv_aload_n hx hb d_Lw_law_590 rfl (lv_at hl 4 rfl) ?_
  refine b_goiR (b_runV (As := []) (rest := []) (q0 := 59) hm hw (cwV 0 hts (gV ut_T k_726 k_723 k_724 (k_725) k_9) rfl rfl rfl (by decide +kernel) ⟨by decide, by decide⟩) (c_Md_thrown l D k _ md za 0 cn ov sn (fK u8) (fF u8) (fC u8) wz bz) [59] (by decide) rfl rfl rfl rfl hl.1 rfl (Nat.le_of_ble_eq_true rfl) d_Lw_law_591 ⟨by show cells + 0 + 0 + 0 ≤ room_1.cells; omega, by show slots + 0 + 0 + 0 ≤ room_1.slots; omega⟩) hw [59] rfl (fun r5 u5 H locs hp5 hw => ?_)
  refine b_ti (y := nI 0) hp5 ?_
  refine lv_iload hx hb d_Lw_law_594 (lv_at hl 1 rfl) ?_
  refine lv_icmp_eq (tgt := 601) hx hb d_Lw_law_596 (by decide) (fun c_596_0 => ?_) (fun c_596_0 => ?_)
  · skip
    refine lv_iload hx hb d_Lw_law_601 (lv_at hl 1 rfl) ?_
    refine lv_if_ne (tgt := 618) hx hb d_Lw_law_603 (by decide) (fun c_603_1 => ?_) (fun c_603_1 => ?_)
    · skip
      exact absurd c_603_1 (by decide)
    · skip
      refine lv_aload_n hx hb d_Lw_law_606 rfl (lv_at hl 5 rfl) ?_
      refine lv_iconst (v := nI 0) hx hb d_Lw_law_607 (by decide) ?_
      refine b_lald (i := 0) hm hw 58 1 rfl rfl (by omega) (by omega) d_Lw_law_608 ?_
      refine b_tl (y := u9.1.toInt64) (updL_s _ _ _) ?_
      refine lv_iload hx hb d_Lw_law_609 (lv_at hl 0 rfl) ?_
      refine lv_i2l (v := r8.toInt64) hx hb d_Lw_law_611 rfl ?_
      refine W.lcmp hx hb d_Lw_law_612 ?_
      refine lv_if_eq (tgt := 618) hx hb d_Lw_law_613 (by decide) (fun c_613_2 => ?_) (fun c_613_2 => ?_)
      · skip
        refine lv_goto (tgt := 1147) hx hb d_Lw_law_618 (by decide) ?_
        refine W.widen (k := cells + 1) (n := slots + 6) (by show cells + 0 + 0 + 0 ≤ cells + 1; omega) (by show slots + 0 + 0 + 0 ≤ slots + 6; omega) ?_
        refine kx H locs ls (LST_mk (th := 0) (cn := cn) (ov := ov) (sta := sta) (stl := 0) (n := n) (wz := wz) (bz := bz) (sn := sn) (lr := lr) (lp := lp) (sc := sc) (zz := zz) (FP := FP) (FN := FN) (AB := u9.2.2.1) (HE := u9.2.2.2.1) (PO := u9.2.2.2.2.1) (SX := SX) (R := R) (RB := RB) (MR := MR) (MP := MP) (AF := AF) (BE := u9.2.2.2.2.2) (FO := FO) (SE := u9.2.1) (WF := WF) (WG := WG) (BF := BF) (BG := BG) (RS := RS) (TO := TO) (LF := LF) (LG := LG) (LP := LP) (OU := OU) (LR := LR) (LQ := LQ) (CE := CE) (RO := RO) (RH := RH) (RP := RP) (IO := IO) (w := u8) (OUT := vp_updL OUT 0 u9.1.toInt64) (hI := lw_pl hI hp7.2 hp6.1) (hw.sub [14, 22, 33, 23, 24, 25, 26, 34, 35, 36, 37, 38, 39, 40, 41, 42, 43, 44, 45, 46, 47, 48, 49, 50, 51, 52, 53, 54, 55, 56, 57, 15, 16, 17, 18, 19, 20, 21, 27, 28, 29, 30, 31, 32, 0, 1, 2, 3, 4, 5, 6, 7, 59, 68, 69, 72, 62, 63, 64, 65, 61, 71, 70, 60, 8, 9, 73, 74, 75, 76, 77, 78, 79, 80, 81, 66, 67, 82, 10, 11, 12, 13, 58] (by decide) rfl)) (lv_sub hl [2, 3, 4, 5, 6] rfl)
      · skip
        exact absurd (lc_eq (congrArg Int32.toInt64 heq)) c_613_2
  · skip
    exact absurd c_596_0 (by decide)

set_option maxHeartbeats 4000000 in
set_option maxRecDepth 100000 in
theorem L_planned_t1 (h0 : LwH p l s m meth c A b L xs) (hi5 : i + 5 ≤ L) (hf : cells + 1 ≤ room_1.cells ∧ slots + 6 ≤ room_1.slots) (kx : ∀ (H : Heap) (locs : List Loc) (ls : Array Slot), LST D k A s H locs x0 ho pl rs to wt bo ma fa se ab he po sx be sa rc rb mr mpp af m0 m1 m2 f0 f1 f2 wtw wtv bow bov md ou hq ha hv pq pa pv oq za → lv_has ls 8 [(0, .ref b), (1, .ref x0), (2, .ref md), (3, .ref ou), (4, .int (nI i))] → W p l e room_1 s m #[Value.ref b] below meth c H locs (cells + 1) (slots + 6) Q (F0 m 1147 ls [])) (hI : lwI cn ov sta stl n wz bz lr lp sc zz FP FN AB HE PO SX R RB MR MP AF BE FO SE WF WG BF LF LG LP OU sn LR LQ CE RO RH RP IO w) (hw : bW (gU D k) A s H locs (LWW k x0 ho pl rs to wt bo ma fa se ab he po sx be sa rc rb mr mpp af m0 m1 m2 f0 f1 f2 wtw wtv bow bov md ou hq ha hv pq pa pv oq za th cn ov sta stl n wz bz sn lr lp sc zz FP FN AB HE PO SX R RB MR MP AF BE FO SE WF WG BF BG RS TO LF LG LP OU LR LQ CE RO RH RP IO w OUT)) (hl : lv_has ls 8 [(0, .ref b), (1, .ref x0), (2, .ref md), (3, .ref ou), (4, .int (nI i))]) (hv9 : ¬ (nI 0 ≤ (xs (i + 1)) ∧ (xs (i + 1)) ≤ nI 35))  : W p l e room_1 s m #[Value.ref b] below meth c H locs cells slots Q (F0 m 565 ls []) := by
  obtain ⟨hm, hE, hX, hbl, hbA, hL, htr⟩ := h0
  have hx := hm.1
  have hb := hm.2.1
  have hown := hm.2.2.2.2.1
  have hts := hm.2.2.2.2.2.1
  have y0 : cn ≤ 3 := hI.1.1
  have y1 : ov ≤ 36 := hI.2.1.2.2.2.2.2.1
  have y2 : stl ≤ 36 := hI.2.1.2.2.2.2.2.2.1
  have y3 : ∀ j, zz j ≤ 8 := fun j => (hI.2.2.2.1.1 j).2.2
  have y4 : sn < 512 := hI.1.2.1
  have y5 : ∀ j, LR j ≤ 4 ∧ LQ j ≤ 4 := fun j => (hI.2.2.2.1.2.2.2 j).1
  have y6 : ∀ j, FN j ≤ 100000 := hI.2.1.2.1.2.2.2.2.2.1
  have y7 : ∀ j, FP j ≤ 1000 := hI.2.1.2.1.2.2.2.2.1
  have y8 : ∀ j, CE j ≤ 100000 := fun j => (hI.2.2.2.1.2.2.2 j).2
  have y9 : wz ≤ 6 := hI.2.2.2.2.2.1.2
  have y10 : bz ≤ 36 := hI.2.2.2.2.2.2.1.1
  have y11 : ∀ j, lr j ≤ 4 ∧ lp j ≤ 4 := hI.2.1.1.2.2.1
  have y12 : ∀ j, j < cn → 1 ≤ lr j ∧ 1 ≤ lp j := hI.2.1.1.2.2.2.1
  have y13 : ∀ j, sc j ≤ 100000 := hI.2.2.2.1.2.1
  have y14 : ∀ j, SX j ≤ 300000 := hI.2.1.2.1.2.2.2.1
  have y15 : bxI R RB MR MP AF := hI.2.2.1
  have y16 : ∀ j, IO j = 0 ∨ IO j = 1 := hI.2.2.2.2.1.2.2.2
  refine lv_aload_n hx hb d_Lw_law_565 rfl (lv_at hl 1 rfl) ?_
  refine lv_aload_n hx hb d_Lw_law_566 rfl (lv_at hl 0 rfl) ?_
  refine lv_iload hx hb d_Lw_law_567 (lv_at hl 4 rfl) ?_
  refine lv_iconst (v := nI 1) hx hb d_Lw_law_569 (by decide) ?_
  refine lv_iadd hx hb d_Lw_law_570 ?_
  refine b_ti (nI_add i 1) ?_
  refine b_sld (j := i + 1) hm hX hbl hbA hw (by omega) hL d_Lw_law_571 ?_
  refine lv_aload_n hx hb d_Lw_law_572 rfl (lv_at hl 3 rfl) ?_
  refine b_goi (wr := [(ho, .inr (1, [.ref ma, .int (nI cn), .ref fa])), (ma, .inl (k 3, 3, .inr (.inr (.inr (.inr (mAd m0 m1 m2)))))), (fa, .inl (k 4, 3, .inr (.inr (.inr (.inr (mAd f0 f1 f2)))))), (f0, .inl (k 0, 36, .inl FO)), (f1, .inl (k 0, 36, .inl (fun j => nI (FP j)))), (f2, .inl (k 0, 36, .inl (fun j => nI (FN j)))), (m0, .inr (3, [.int (nI (lr 0)), .int (nI (lp 0)), .int (nI (sc 0)), .ref (hq 0), .ref (pq 0), .ref (oq 0)])), (hq 0, .inr (2, [.ref (ha 0), .ref (hv 0), .int (nI (zz 0))])), (ha 0, .inl (k 0, 8, .inl (LF 0))), (hv 0, .inl (k 0, 8, .inl (LG 0))), (pq 0, .inr (2, [.ref (pa 0), .ref (pv 0), .int (nI (zz 0))])), (pa 0, .inl (k 0, 8, .inl (LF 0))), (pv 0, .inl (k 0, 8, .inl (LP 0))), (oq 0, .inl (k 2, 36, .inl (OU 0))), (m1, .inr (3, [.int (nI (lr 1)), .int (nI (lp 1)), .int (nI (sc 1)), .ref (hq 1), .ref (pq 1), .ref (oq 1)])), (hq 1, .inr (2, [.ref (ha 1), .ref (hv 1), .int (nI (zz 1))])), (ha 1, .inl (k 0, 8, .inl (LF 1))), (hv 1, .inl (k 0, 8, .inl (LG 1))), (pq 1, .inr (2, [.ref (pa 1), .ref (pv 1), .int (nI (zz 1))])), (pa 1, .inl (k 0, 8, .inl (LF 1))), (pv 1, .inl (k 0, 8, .inl (LP 1))), (oq 1, .inl (k 2, 36, .inl (OU 1))), (m2, .inr (3, [.int (nI (lr 2)), .int (nI (lp 2)), .int (nI (sc 2)), .ref (hq 2), .ref (pq 2), .ref (oq 2)])), (hq 2, .inr (2, [.ref (ha 2), .ref (hv 2), .int (nI (zz 2))])), (ha 2, .inl (k 0, 8, .inl (LF 2))), (hv 2, .inl (k 0, 8, .inl (LG 2))), (pq 2, .inr (2, [.ref (pa 2), .ref (pv 2), .int (nI (zz 2))])), (pa 2, .inl (k 0, 8, .inl (LF 2))), (pv 2, .inl (k 0, 8, .inl (LP 2))), (oq 2, .inl (k 2, 36, .inl (OU 2))), (pl, .inr (4, [.ref ho, .ref sa, .int (nI ov), .int (nI sta), .int (nI stl), .ref se, .ref ab, .ref he, .ref po, .ref sx, .ref be])), (se, .inl (k 0, 36, .inl SE)), (ab, .inl (k 0, 36, .inl (fun j => nI (AB j)))), (he, .inl (k 0, 288, .inl (fun j => nI (HE j)))), (po, .inl (k 0, 288, .inl (fun j => nI (PO j)))), (sx, .inl (k 0, 8, .inl (fun j => nI (SX j)))), (be, .inl (k 1, 18944, .inr (.inl (fun j => oL (BE j))))), (sa, .inr (5, [.ref rc, .int (nI n), .ref rb, .ref mr, .ref mpp, .ref af])), (rc, .inl (k 0, 512, .inl (fun j => nI (R j)))), (rb, .inl (k 0, 512, .inl (fun j => nI (RB j)))), (mr, .inl (k 0, 512, .inl (fun j => nI (MR j)))), (mpp, .inl (k 0, 512, .inl (fun j => nI (MP j)))), (af, .inl (k 0, 4096, .inl (fun j => nI (AF j)))), (rs, .inl (k 0, 36, .inl RS)), (to, .inl (k 1, 4, .inr (.inl TO))), (wt, .inr (2, [.ref wtw, .ref wtv, .int (nI wz)])), (wtw, .inl (k 0, 6, .inl WF)), (wtv, .inl (k 0, 6, .inl WG)), (bo, .inr (0, [.ref bow, .int (nI bz), .ref bov])), (bow, .inl (k 0, 36, .inl BF)), (bov, .inl (k 0, 36, .inl BG)), (md, .inr (7, mdL za th cn ov sn (fK w) (fF w) (fC w) wz bz)), (za 2, .inl (k 0, 3, .inl (fun j => nI (LR j)))), (za 3, .inl (k 0, 3, .inl (fun j => nI (LQ j)))), (za 4, .inl (k 0, 3, .inl (fun j => nI (CE j)))), (za 5, .inl (k 0, 3, .inl (fun j => nI (zz j)))), (za 6, .inl (k 0, 24, .inl RO)), (za 7, .inl (k 0, 24, .inl RH)), (za 8, .inl (k 0, 24, .inl RP)), (za 9, .inl (k 0, 36, .inl FO)), (za 10, .inl (k 0, 36, .inl (fun j => nI (FP j)))), (za 11, .inl (k 0, 36, .inl (fun j => nI (FN j)))), (za 12, .inl (k 2, 108, .inl IO)), (za 14, .inl (k 0, 36, .inl RS)), (za 15, .inl (k 1, 4, .inr (.inl TO))), (za 17, .inl (k 2, 512, .inl (fun j => bI ((uTH (fV w)) j)))), (za 18, .inl (k 1, 512, .inr (.inl (fun j => lN ((uCO (fV w)) j))))), (za 19, .inl (k 0, 512, .inl (fun j => nI ((uRK (fV w)) j)))), (za 20, .inl (k 2, 512, .inl (fun j => bI ((uTX (fV w)) j)))), (za 21, .inl (k 1, 512, .inr (.inl (fun j => lN ((uCX (fV w)) j))))), (za 22, .inl (k 0, 512, .inl (fun j => nI ((uKX (fV w)) j)))), (za 23, .inl (k 0, 18432, .inl (fun j => nI ((uWY (fV w)) j)))), (za 24, .inl (k 2, 4096, .inl (fun j => bI ((uSE (fV w)) j)))), (za 25, .inl (k 0, 4096, .inl (fun j => nI ((uPL (fV w)) j)))), (za 26, .inl (k 0, 3, .inl (uHN (fV w)))), (za 27, .inl (k 0, 3, .inl (uPN (fV w)))), (za 30, .inl (k 0, 36, .inl (fun j => nI ((fPA w) j)))), (za 33, .inl (k 0, 6, .inl WF)), (za 34, .inl (k 0, 6, .inl WG)), (za 36, .inl (k 0, 36, .inl BF)), (za 37, .inl (k 0, 36, .inl BG))]) (b_runSH (n := 3) (As := [.ref x0, .int (xs (i + 1)), .ref ou]) (rest := []) hm ut_T hE hw (h_planned_t1 l htr D k _ x0 ho pl rs to wt bo (xs (i + 1)) (by assumption) ou OUT) k_487 k_485 k_486 k_0 ⟨by decide, by decide, by decide +kernel⟩ ⟨by decide, by decide⟩ [0, 82] (by decide) rfl rfl hl.1 rfl (Nat.le_of_ble_eq_true rfl) d_Lw_law_573 ⟨by show cells + 1 ≤ room_1.cells; omega, by show slots + 6 ≤ room_1.slots; omega⟩) hw [0, 82] [1, 2, 3, 4, 5, 6, 7, 8, 9, 10, 11, 12, 13, 14, 15, 16, 17, 18, 19, 20, 21, 22, 23, 24, 25, 26, 27, 28, 29, 30, 31, 32, 33, 34, 35, 36, 37, 38, 39, 40, 41, 42, 43, 44, 45, 46, 47, 48, 49, 50, 51, 52, 53, 54, 55, 56, 57, 58, 59, 60, 61, 62, 63, 64, 65, 66, 67, 68, 69, 70, 71, 72, 73, 74, 75, 76, 77, 78, 79, 80, 81] rfl rfl (by decide) (by decide) (fun r9 u9 H locs hp9 hw => ?_)
  refine b_ti (y := nI 1) hp9 ?_
  refine lv_istore (lv' := [(5, .int (nI 1)), (0, .ref b), (1, .ref x0), (2, .ref md), (3, .ref ou), (4, .int (nI i))]) hx hb d_Lw_law_576  hl (by decide) rfl (fun ls hl => ?_)
  refine lv_aload_n hx hb d_Lw_law_578 rfl (lv_at hl 3 rfl) ?_
  refine lv_aload_n hx hb d_Lw_law_579 rfl (lv_at hl 1 rfl) ?_
  refine lv_iload hx hb d_Lw_law_580 (lv_at hl 5 rfl) ?_
  refine lv_iconst (v := nI 1) hx hb d_Lw_law_582 (by decide) ?_
  refine lv_iadd hx hb d_Lw_law_583 ?_
  refine b_ti (nI_add i 1) ?_
  refine b_sld (j := i + 1) hm hX hbl hbA hw (by omega) hL d_Lw_law_584 ?_
  refine b_goi (wr := [(ho, .inr (1, [.ref ma, .int (nI cn), .ref fa])), (ma, .inl (k 3, 3, .inr (.inr (.inr (.inr (mAd m0 m1 m2)))))), (fa, .inl (k 4, 3, .inr (.inr (.inr (.inr (mAd f0 f1 f2)))))), (f0, .inl (k 0, 36, .inl FO)), (f1, .inl (k 0, 36, .inl (fun j => nI (FP j)))), (f2, .inl (k 0, 36, .inl (fun j => nI (FN j)))), (m0, .inr (3, [.int (nI (lr 0)), .int (nI (lp 0)), .int (nI (sc 0)), .ref (hq 0), .ref (pq 0), .ref (oq 0)])), (hq 0, .inr (2, [.ref (ha 0), .ref (hv 0), .int (nI (zz 0))])), (ha 0, .inl (k 0, 8, .inl (LF 0))), (hv 0, .inl (k 0, 8, .inl (LG 0))), (pq 0, .inr (2, [.ref (pa 0), .ref (pv 0), .int (nI (zz 0))])), (pa 0, .inl (k 0, 8, .inl (LF 0))), (pv 0, .inl (k 0, 8, .inl (LP 0))), (oq 0, .inl (k 2, 36, .inl (OU 0))), (m1, .inr (3, [.int (nI (lr 1)), .int (nI (lp 1)), .int (nI (sc 1)), .ref (hq 1), .ref (pq 1), .ref (oq 1)])), (hq 1, .inr (2, [.ref (ha 1), .ref (hv 1), .int (nI (zz 1))])), (ha 1, .inl (k 0, 8, .inl (LF 1))), (hv 1, .inl (k 0, 8, .inl (LG 1))), (pq 1, .inr (2, [.ref (pa 1), .ref (pv 1), .int (nI (zz 1))])), (pa 1, .inl (k 0, 8, .inl (LF 1))), (pv 1, .inl (k 0, 8, .inl (LP 1))), (oq 1, .inl (k 2, 36, .inl (OU 1))), (m2, .inr (3, [.int (nI (lr 2)), .int (nI (lp 2)), .int (nI (sc 2)), .ref (hq 2), .ref (pq 2), .ref (oq 2)])), (hq 2, .inr (2, [.ref (ha 2), .ref (hv 2), .int (nI (zz 2))])), (ha 2, .inl (k 0, 8, .inl (LF 2))), (hv 2, .inl (k 0, 8, .inl (LG 2))), (pq 2, .inr (2, [.ref (pa 2), .ref (pv 2), .int (nI (zz 2))])), (pa 2, .inl (k 0, 8, .inl (LF 2))), (pv 2, .inl (k 0, 8, .inl (LP 2))), (oq 2, .inl (k 2, 36, .inl (OU 2))), (pl, .inr (4, [.ref ho, .ref sa, .int (nI ov), .int (nI sta), .int (nI stl), .ref se, .ref ab, .ref he, .ref po, .ref sx, .ref be])), (se, .inl (k 0, 36, .inl SE)), (ab, .inl (k 0, 36, .inl (fun j => nI (AB j)))), (he, .inl (k 0, 288, .inl (fun j => nI (HE j)))), (po, .inl (k 0, 288, .inl (fun j => nI (PO j)))), (sx, .inl (k 0, 8, .inl (fun j => nI (SX j)))), (be, .inl (k 1, 18944, .inr (.inl (fun j => oL (BE j))))), (sa, .inr (5, [.ref rc, .int (nI n), .ref rb, .ref mr, .ref mpp, .ref af])), (rc, .inl (k 0, 512, .inl (fun j => nI (R j)))), (rb, .inl (k 0, 512, .inl (fun j => nI (RB j)))), (mr, .inl (k 0, 512, .inl (fun j => nI (MR j)))), (mpp, .inl (k 0, 512, .inl (fun j => nI (MP j)))), (af, .inl (k 0, 4096, .inl (fun j => nI (AF j)))), (rs, .inl (k 0, 36, .inl RS)), (to, .inl (k 1, 4, .inr (.inl TO))), (wt, .inr (2, [.ref wtw, .ref wtv, .int (nI wz)])), (wtw, .inl (k 0, 6, .inl WF)), (wtv, .inl (k 0, 6, .inl WG)), (bo, .inr (0, [.ref bow, .int (nI bz), .ref bov])), (bow, .inl (k 0, 36, .inl BF)), (bov, .inl (k 0, 36, .inl BG)), (za 2, .inl (k 0, 3, .inl (fun j => nI (LR j)))), (za 3, .inl (k 0, 3, .inl (fun j => nI (LQ j)))), (za 4, .inl (k 0, 3, .inl (fun j => nI (CE j)))), (za 5, .inl (k 0, 3, .inl (fun j => nI (zz j)))), (za 6, .inl (k 0, 24, .inl RO)), (za 7, .inl (k 0, 24, .inl RH)), (za 8, .inl (k 0, 24, .inl RP)), (za 9, .inl (k 0, 36, .inl FO)), (za 10, .inl (k 0, 36, .inl (fun j => nI (FP j)))), (za 11, .inl (k 0, 36, .inl (fun j => nI (FN j)))), (za 12, .inl (k 2, 108, .inl IO)), (za 14, .inl (k 0, 36, .inl RS)), (za 15, .inl (k 1, 4, .inr (.inl TO))), (za 17, .inl (k 2, 512, .inl (fun j => bI ((uTH (fV w)) j)))), (za 18, .inl (k 1, 512, .inr (.inl (fun j => lN ((uCO (fV w)) j))))), (za 19, .inl (k 0, 512, .inl (fun j => nI ((uRK (fV w)) j)))), (za 20, .inl (k 2, 512, .inl (fun j => bI ((uTX (fV w)) j)))), (za 21, .inl (k 1, 512, .inr (.inl (fun j => lN ((uCX (fV w)) j))))), (za 22, .inl (k 0, 512, .inl (fun j => nI ((uKX (fV w)) j)))), (za 23, .inl (k 0, 18432, .inl (fun j => nI ((uWY (fV w)) j)))), (za 24, .inl (k 2, 4096, .inl (fun j => bI ((uSE (fV w)) j)))), (za 25, .inl (k 0, 4096, .inl (fun j => nI ((uPL (fV w)) j)))), (za 26, .inl (k 0, 3, .inl (uHN (fV w)))), (za 27, .inl (k 0, 3, .inl (uPN (fV w)))), (za 30, .inl (k 0, 36, .inl (fun j => nI ((fPA w) j)))), (za 33, .inl (k 0, 6, .inl WF)), (za 34, .inl (k 0, 6, .inl WG)), (za 36, .inl (k 0, 36, .inl BF)), (za 37, .inl (k 0, 36, .inl BG)), (x0, .inr (6, [.ref pl, .ref ho, .ref rs, .ref to, .ref wt, .ref bo])), (ou, .inl (k 1, 1, .inr (.inl OUT)))]) (b_runV (As := [.int (xs (i + 1))]) (rest := []) (q0 := 51) hm hw (cwV 1 hts (gV ut_T k_804 k_801 k_802 (k_803) k_9) rfl rfl rfl (by decide +kernel) ⟨by decide, by decide⟩) (c_Md_planned_t1 l D k _ md za th cn ov sn (fK w) (fF w) (fC w) wz bz (xs (i + 1)) (by assumption)) [51] (by decide) rfl rfl rfl rfl hl.1 rfl (Nat.le_of_ble_eq_true rfl) d_Lw_law_585 ⟨by show cells + 1 + 0 ≤ room_1.cells; omega, by show slots + 6 + 0 ≤ room_1.slots; omega⟩) hw [51] [0, 1, 2, 3, 4, 5, 6, 7, 8, 9, 10, 11, 12, 13, 14, 15, 16, 17, 18, 19, 20, 21, 22, 23, 24, 25, 26, 27, 28, 29, 30, 31, 32, 33, 34, 35, 36, 37, 38, 39, 40, 41, 42, 43, 44, 45, 46, 47, 48, 49, 50, 52, 53, 54, 55, 56, 57, 58, 59, 60, 61, 62, 63, 64, 65, 66, 67, 68, 69, 70, 71, 72, 73, 74, 75, 76, 77, 78, 79, 80, 81, 82] rfl rfl (by decide) (by decide) (fun r8 u8 H locs hp8 hw => ?_)
  refine lv_istore (lv' := [(6, .int r8), (5, .int (nI 1)), (0, .ref b), (1, .ref x0), (2, .ref md), (3, .ref ou), (4, .int (nI i))]) hx hb d_Lw_law_588  hl (by decide) rfl (fun ls hl => ?_)
  refine lv_aload_n hx hb d_Lw_law_590 rfl (lv_at hl 4 rfl) ?_
  refine b_goiR (b_runV (As := []) (rest := []) (q0 := 82) hm hw (cwV 0 hts (gV ut_T k_726 k_723 k_724 (k_725) k_9) rfl rfl rfl (by decide +kernel) ⟨by decide, by decide⟩) (c_Md_thrown l D k _ md za 1 cn ov sn (fK w) (fF w) (fC w) wz bz) [82] (by decide) rfl rfl rfl rfl hl.1 rfl (Nat.le_of_ble_eq_true rfl) d_Lw_law_591 ⟨by show cells + 1 + 0 + 0 ≤ room_1.cells; omega, by show slots + 6 + 0 + 0 ≤ room_1.slots; omega⟩) hw [82] rfl (fun r5 u5 H locs hp5 hw => ?_)
  refine b_ti (y := nI 1) hp5 ?_
  refine lv_iload hx hb d_Lw_law_594 (lv_at hl 1 rfl) ?_
  refine lv_icmp_eq (tgt := 601) hx hb d_Lw_law_596 (by decide) (fun c_596_0 => ?_) (fun c_596_0 => ?_)
  · skip
    refine lv_iload hx hb d_Lw_law_601 (lv_at hl 1 rfl) ?_
    refine lv_if_ne (tgt := 618) hx hb d_Lw_law_603 (by decide) (fun c_603_1 => ?_) (fun c_603_1 => ?_)
    · skip
      refine lv_goto (tgt := 1147) hx hb d_Lw_law_618 (by decide) ?_
      refine W.widen (k := cells + 1) (n := slots + 6) (by show cells + 1 + 0 + 0 ≤ cells + 1; omega) (by show slots + 6 + 0 + 0 ≤ slots + 6; omega) ?_
      refine kx H locs ls (LST_mk (th := 1) (cn := cn) (ov := ov) (sta := sta) (stl := stl) (n := n) (wz := wz) (bz := bz) (sn := sn) (lr := lr) (lp := lp) (sc := sc) (zz := zz) (FP := FP) (FN := FN) (AB := AB) (HE := HE) (PO := PO) (SX := SX) (R := R) (RB := RB) (MR := MR) (MP := MP) (AF := AF) (BE := BE) (FO := FO) (SE := SE) (WF := WF) (WG := WG) (BF := BF) (BG := BG) (RS := RS) (TO := TO) (LF := LF) (LG := LG) (LP := LP) (OU := OU) (LR := LR) (LQ := LQ) (CE := CE) (RO := RO) (RH := RH) (RP := RP) (IO := IO) (w := w) (OUT := OUT) (hI := hI) (hw.sub [80, 0, 1, 2, 3, 4, 5, 6, 7, 8, 9, 10, 11, 12, 13, 14, 15, 16, 17, 18, 19, 20, 21, 22, 23, 24, 25, 26, 27, 28, 29, 30, 31, 32, 33, 34, 35, 36, 37, 38, 39, 40, 41, 42, 43, 44, 45, 46, 47, 48, 49, 50, 82, 51, 52, 53, 54, 55, 56, 57, 58, 59, 60, 61, 62, 63, 64, 65, 66, 67, 68, 69, 70, 71, 72, 73, 74, 75, 76, 77, 78, 79, 81] (by decide) rfl)) (lv_sub hl [2, 3, 4, 5, 6] rfl)
    · skip
      exact absurd c_603_1 (by decide)
  · skip
    exact absurd c_596_0 (by decide)
end CASES
