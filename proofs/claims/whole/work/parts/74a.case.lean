/-! the law's cases, one by one -/
theorem ln_same {F G : Nat → Int32} {z : Nat} {v : Int32} (h : ∀ j, j < 8 → F j = G j) (hz : z ≤ 8) : lnRoom 8 F z v ↔ lnRoom 8 G z v := by
  unfold lnRoom
  by_cases e : z = 0
  · subst e; simp
  · rw [h (z - 1) (by omega)]
section CASES
variable {l : Launch} {D : va_G} {k : Nat → ClassId} {p : Program} {e : Env} {s : State} {m : MethodId} {below : List Frame} {meth : Method} {c : Code} {A : Nat → Prop} {b L i cells slots : Nat} {xs : Nat → Int32} {Q : State → Prop} {H : Heap} {locs : List Loc} {ls : Array Slot}
variable {x0 ho pl rs to wt bo ma fa se ab he po sx be sa rc rb mr mpp af m0 m1 m2 f0 f1 f2 wtw wtv bow bov md ou : Nat} {hq ha hv pq pa pv oq za : Nat → Nat} {th cn ov sta stl n wz bz sn : Nat} {lr lp sc zz FP FN AB HE PO SX R RB MR MP AF : Nat → Nat} {BE : Nat → Option Nat} {FO SE WF WG BF BG RS : Nat → Int32} {TO : Nat → Int64} {LF LG LP OU : Nat → Nat → Int32} {LR LQ CE : Nat → Nat} {RO RH RP IO : Nat → Int32} {w : fdS} {OUT : Nat → Int64}
set_option maxHeartbeats 4000000 in
set_option maxRecDepth 100000 in
theorem L_machine (h0 : LwH p l s m meth c A b L xs) (hi5 : i + 5 ≤ L) (hf : cells + 1 ≤ room_1.cells ∧ slots + 6 ≤ room_1.slots) (kx : ∀ (H : Heap) (locs : List Loc) (ls : Array Slot), LST D k A s H locs x0 ho pl rs to wt bo ma fa se ab he po sx be sa rc rb mr mpp af m0 m1 m2 f0 f1 f2 wtw wtv bow bov md ou hq ha hv pq pa pv oq za → lv_has ls 8 [(0, .ref b), (1, .ref x0), (2, .ref md), (3, .ref ou), (4, .int (nI i))] → W p l e room_1 s m #[Value.ref b] below meth c H locs (cells + 1) (slots + 6) Q (F0 m 1147 ls [])) (hI : lwI cn 0 sta stl n wz bz lr lp sc zz FP FN AB HE PO SX R RB MR MP AF BE FO SE WF WG BF LF LG LP OU sn LR LQ CE RO RH RP IO w) (hw : bW (gU D k) A s H locs (LWW k x0 ho pl rs to wt bo ma fa se ab he po sx be sa rc rb mr mpp af m0 m1 m2 f0 f1 f2 wtw wtv bow bov md ou hq ha hv pq pa pv oq za th cn 0 sta stl n wz bz sn lr lp sc zz FP FN AB HE PO SX R RB MR MP AF BE FO SE WF WG BF BG RS TO LF LG LP OU LR LQ CE RO RH RP IO w OUT)) (hl : lv_has ls 8 [(0, .ref b), (1, .ref x0), (2, .ref md), (3, .ref ou), (4, .int (nI i))]) {a b9 q : Nat} (ha9 : 1 ≤ a ∧ a ≤ 4) (hb9 : 1 ≤ b9 ∧ b9 ≤ 4) (hq9 : q ≤ 100000) (hc : cn < 3) (e1 : xs (i + 1) = nI a) (e2 : xs (i + 2) = nI b9) (e3 : xs (i + 3) = nI q) : W p l e room_1 s m #[Value.ref b] below meth c H locs cells slots Q (F0 m 116 ls []) := by
  obtain ⟨hm, hE, hX, hbl, hbA, hL, htr⟩ := h0
  have hx := hm.1
  have hb := hm.2.1
  have hown := hm.2.2.2.2.1
  have hts := hm.2.2.2.2.2.1
  have y0 : cn ≤ 3 := hI.1.1
  have y1 : 0 ≤ 36 := hI.2.1.2.2.2.2.2.1
  have y2 : stl ≤ 36 := hI.2.1.2.2.2.2.2.2.1
  have y3 : ∀ j, zz j ≤ 8 := fun j => (hI.2.2.2.1.1 j).2.2
  have y4 : sn < 512 := hI.1.2.1
  have y5 : ∀ j, LR j ≤ 4 ∧ LQ j ≤ 4 := fun j => (hI.2.2.2.1.2.2.2 j).1
  have y6 : ∀ j, FN j ≤ 100000 := hI.2.1.2.1.2.2.2.2.2.1
  have y7 : ∀ j, FP j ≤ 1000 := hI.2.1.2.1.2.2.2.2.1
  have y8 : ∀ j, CE j ≤ 100000 := fun j => (hI.2.2.2.1.2.2.2 j).2
  have y9 : wz ≤ 6 := hI.2.2.2.2.2.1.2
  have y10 : bz ≤ 36 := hI.2.2.2.2.2.2.1.1
  have y11 : ∀ j, lr j ≤ 4 ∧ lp j ≤ 4 := hI.2.1.1.2.2.1
  have y12 : ∀ j, j < cn → 1 ≤ lr j ∧ 1 ≤ lp j := hI.2.1.1.2.2.2.1
  have y13 : ∀ j, sc j ≤ 100000 := hI.2.2.2.1.2.1
  have y14 : ∀ j, SX j ≤ 300000 := hI.2.1.2.1.2.2.2.1
  have y15 : bxI R RB MR MP AF := hI.2.2.1
  have y16 : ∀ j, IO j = 0 ∨ IO j = 1 := hI.2.2.2.2.1.2.2.2
  have y90 : n ≤ 64 := by have := hI.1.2.2.2.2; rcases (show cn = 0 ∨ cn = 1 ∨ cn = 2 by omega) with z | z | z <;> subst z <;> simp at this <;> omega
  have y91 : ∀ j, j < n → R j < 8 ^ cn := fun j hj => (hI.2.1.1.2.2.2.2.2.1 j hj).1
  have y92 : (0 : Nat) = 0 := rfl
  refine lv_aload_n hx hb d_Lw_law_116 rfl (lv_at hl 1 rfl) ?_
  refine lv_aload_n hx hb d_Lw_law_117 rfl (lv_at hl 0 rfl) ?_
  refine lv_iload hx hb d_Lw_law_118 (lv_at hl 4 rfl) ?_
  refine lv_iconst (v := nI 1) hx hb d_Lw_law_120 (by decide) ?_
  refine lv_iadd hx hb d_Lw_law_121 ?_
  refine b_ti (nI_add i 1) ?_
  refine b_sld (j := i + 1) hm hX hbl hbA hw (by omega) hL d_Lw_law_122 ?_
  refine b_ti e1 ?_
  refine lv_aload_n hx hb d_Lw_law_123 rfl (lv_at hl 0 rfl) ?_
  refine lv_iload hx hb d_Lw_law_124 (lv_at hl 4 rfl) ?_
  refine lv_iconst (v := nI 2) hx hb d_Lw_law_126 (by decide) ?_
  refine lv_iadd hx hb d_Lw_law_127 ?_
  refine b_ti (nI_add i 2) ?_
  refine b_sld (j := i + 2) hm hX hbl hbA hw (by omega) hL d_Lw_law_128 ?_
  refine b_ti e2 ?_
  refine lv_aload_n hx hb d_Lw_law_129 rfl (lv_at hl 0 rfl) ?_
  refine lv_iload hx hb d_Lw_law_130 (lv_at hl 4 rfl) ?_
  refine lv_iconst (v := nI 3) hx hb d_Lw_law_132 (by decide) ?_
  refine lv_iadd hx hb d_Lw_law_133 ?_
  refine b_ti (nI_add i 3) ?_
  refine b_sld (j := i + 3) hm hX hbl hbA hw (by omega) hL d_Lw_law_134 ?_
  refine b_ti e3 ?_
  refine lv_aload_n hx hb d_Lw_law_135 rfl (lv_at hl 3 rfl) ?_
  refine b_goi (wr := [(fa, .inl (k 4, 3, .inr (.inr (.inr (.inr (mAd f0 f1 f2)))))), (f0, .inl (k 0, 36, .inl FO)), (f1, .inl (k 0, 36, .inl (fun j => nI (FP j)))), (f2, .inl (k 0, 36, .inl (fun j => nI (FN j)))), (hq 0, .inr (2, [.ref (ha 0), .ref (hv 0), .int (nI (zz 0))])), (ha 0, .inl (k 0, 8, .inl (LF 0))), (hv 0, .inl (k 0, 8, .inl (LG 0))), (pq 0, .inr (2, [.ref (pa 0), .ref (pv 0), .int (nI (zz 0))])), (pa 0, .inl (k 0, 8, .inl (LF 0))), (pv 0, .inl (k 0, 8, .inl (LP 0))), (oq 0, .inl (k 2, 36, .inl (OU 0))), (hq 1, .inr (2, [.ref (ha 1), .ref (hv 1), .int (nI (zz 1))])), (ha 1, .inl (k 0, 8, .inl (LF 1))), (hv 1, .inl (k 0, 8, .inl (LG 1))), (pq 1, .inr (2, [.ref (pa 1), .ref (pv 1), .int (nI (zz 1))])), (pa 1, .inl (k 0, 8, .inl (LF 1))), (pv 1, .inl (k 0, 8, .inl (LP 1))), (oq 1, .inl (k 2, 36, .inl (OU 1))), (hq 2, .inr (2, [.ref (ha 2), .ref (hv 2), .int (nI (zz 2))])), (ha 2, .inl (k 0, 8, .inl (LF 2))), (hv 2, .inl (k 0, 8, .inl (LG 2))), (pq 2, .inr (2, [.ref (pa 2), .ref (pv 2), .int (nI (zz 2))])), (pa 2, .inl (k 0, 8, .inl (LF 2))), (pv 2, .inl (k 0, 8, .inl (LP 2))), (oq 2, .inl (k 2, 36, .inl (OU 2))), (se, .inl (k 0, 36, .inl SE)), (ab, .inl (k 0, 36, .inl (fun j => nI (AB j)))), (he, .inl (k 0, 288, .inl (fun j => nI (HE j)))), (po, .inl (k 0, 288, .inl (fun j => nI (PO j)))), (be, .inl (k 1, 18944, .inr (.inl (fun j => oL (BE j))))), (rs, .inl (k 0, 36, .inl RS)), (to, .inl (k 1, 4, .inr (.inl TO))), (wt, .inr (2, [.ref wtw, .ref wtv, .int (nI wz)])), (wtw, .inl (k 0, 6, .inl WF)), (wtv, .inl (k 0, 6, .inl WG)), (bo, .inr (0, [.ref bow, .int (nI bz), .ref bov])), (bow, .inl (k 0, 36, .inl BF)), (bov, .inl (k 0, 36, .inl BG)), (md, .inr (7, mdL za th cn 0 sn (fK w) (fF w) (fC w) wz bz)), (za 2, .inl (k 0, 3, .inl (fun j => nI (LR j)))), (za 3, .inl (k 0, 3, .inl (fun j => nI (LQ j)))), (za 4, .inl (k 0, 3, .inl (fun j => nI (CE j)))), (za 5, .inl (k 0, 3, .inl (fun j => nI (zz j)))), (za 6, .inl (k 0, 24, .inl RO)), (za 7, .inl (k 0, 24, .inl RH)), (za 8, .inl (k 0, 24, .inl RP)), (za 9, .inl (k 0, 36, .inl FO)), (za 10, .inl (k 0, 36, .inl (fun j => nI (FP j)))), (za 11, .inl (k 0, 36, .inl (fun j => nI (FN j)))), (za 12, .inl (k 2, 108, .inl IO)), (za 14, .inl (k 0, 36, .inl RS)), (za 15, .inl (k 1, 4, .inr (.inl TO))), (za 17, .inl (k 2, 512, .inl (fun j => bI ((uTH (fV w)) j)))), (za 18, .inl (k 1, 512, .inr (.inl (fun j => lN ((uCO (fV w)) j))))), (za 19, .inl (k 0, 512, .inl (fun j => nI ((uRK (fV w)) j)))), (za 20, .inl (k 2, 512, .inl (fun j => bI ((uTX (fV w)) j)))), (za 21, .inl (k 1, 512, .inr (.inl (fun j => lN ((uCX (fV w)) j))))), (za 22, .inl (k 0, 512, .inl (fun j => nI ((uKX (fV w)) j)))), (za 23, .inl (k 0, 18432, .inl (fun j => nI ((uWY (fV w)) j)))), (za 24, .inl (k 2, 4096, .inl (fun j => bI ((uSE (fV w)) j)))), (za 25, .inl (k 0, 4096, .inl (fun j => nI ((uPL (fV w)) j)))), (za 26, .inl (k 0, 3, .inl (uHN (fV w)))), (za 27, .inl (k 0, 3, .inl (uPN (fV w)))), (za 30, .inl (k 0, 36, .inl (fun j => nI ((fPA w) j)))), (za 33, .inl (k 0, 6, .inl WF)), (za 34, .inl (k 0, 6, .inl WG)), (za 36, .inl (k 0, 36, .inl BF)), (za 37, .inl (k 0, 36, .inl BG))]) (b_runSH (n := 5) (As := [.ref x0, .int (nI a), .int (nI b9), .int (nI q), .ref ou]) (rest := []) hm ut_T hE hw (h_machine l D k _ x0 ho pl rs to wt bo ma fa cn se ab he po sx be sa sta stl rc rb mr mpp af m0 m1 m2 n lr lp sc hq pq oq R SX RB MR MP AF a b9 q (by assumption) (by assumption) (by assumption) (by assumption) (by assumption) (by assumption) (by assumption) (by assumption) (by assumption) (by assumption) (by assumption) (by assumption) ou OUT) k_288 k_286 k_287 k_0 ⟨by decide, by decide, by decide +kernel⟩ ⟨by decide, by decide⟩ [0, 31, 36, 38, 39, 40, 41, 42, 43, 1, 2, 7, 15, 23, 82] (by decide) rfl rfl hl.1 rfl (Nat.le_of_ble_eq_true rfl) d_Lw_law_136 ⟨by show cells + 0 ≤ room_1.cells; omega, by show slots + 0 ≤ room_1.slots; omega⟩) hw [0, 31, 36, 38, 39, 40, 41, 42, 43, 1, 2, 7, 15, 23, 82] [3, 4, 5, 6, 8, 9, 10, 11, 12, 13, 14, 16, 17, 18, 19, 20, 21, 22, 24, 25, 26, 27, 28, 29, 30, 32, 33, 34, 35, 37, 44, 45, 46, 47, 48, 49, 50, 51, 52, 53, 54, 55, 56, 57, 58, 59, 60, 61, 62, 63, 64, 65, 66, 67, 68, 69, 70, 71, 72, 73, 74, 75, 76, 77, 78, 79, 80, 81] rfl rfl (by decide) (by decide) (fun r9 u9 H locs hp9 hw => ?_)
  refine b_ti (y := nI 0) hp9.1 ?_
  have hp7 : u9.1 = nI cn ∧ (exI n cn (va_up lr cn a cn) (va_up lp cn b9 cn) R 8 0 u9.2.1.1 u9.2.1.2.1 ∧ stOk (va_up lr cn a) (va_up lp cn b9) (cn + 1) u9.2.1.1 u9.2.1.2.1 u9.2.1.2.2.1 u9.2.1.2.2.2.1 u9.2.1.2.2.2.2.1 u9.2.1.2.2.2.2.2 ∧ bxI u9.2.1.2.1 u9.2.1.2.2.1 u9.2.1.2.2.2.1 u9.2.1.2.2.2.2.1 u9.2.1.2.2.2.2.2) ∧ sxI cn (va_up sc cn q cn) SX (2 ^ cn) u9.2.2 := hp9.2
  refine lv_istore (lv' := [(5, .int (nI 0)), (0, .ref b), (1, .ref x0), (2, .ref md), (3, .ref ou), (4, .int (nI i))]) hx hb d_Lw_law_139  hl (by decide) rfl (fun ls hl => ?_)
  refine lv_aload_n hx hb d_Lw_law_141 rfl (lv_at hl 3 rfl) ?_
  refine lv_aload_n hx hb d_Lw_law_142 rfl (lv_at hl 1 rfl) ?_
  refine lv_iload hx hb d_Lw_law_143 (lv_at hl 5 rfl) ?_
  refine lv_iconst (v := nI 1) hx hb d_Lw_law_145 (by decide) ?_
  refine lv_iadd hx hb d_Lw_law_146 ?_
  refine b_ti (nI_add i 1) ?_
  refine b_sld (j := i + 1) hm hX hbl hbA hw (by omega) hL d_Lw_law_147 ?_
  refine b_ti e1 ?_
  refine lv_aload_n hx hb d_Lw_law_148 rfl (lv_at hl 1 rfl) ?_
  refine lv_iload hx hb d_Lw_law_149 (lv_at hl 5 rfl) ?_
  refine lv_iconst (v := nI 2) hx hb d_Lw_law_151 (by decide) ?_
  refine lv_iadd hx hb d_Lw_law_152 ?_
  refine b_ti (nI_add i 2) ?_
  refine b_sld (j := i + 2) hm hX hbl hbA hw (by omega) hL d_Lw_law_153 ?_
  refine b_ti e2 ?_
  refine lv_aload_n hx hb d_Lw_law_154 rfl (lv_at hl 1 rfl) ?_
  refine lv_iload hx hb d_Lw_law_155 (lv_at hl 5 rfl) ?_
  refine lv_iconst (v := nI 3) hx hb d_Lw_law_157 (by decide) ?_
  refine lv_iadd hx hb d_Lw_law_158 ?_
  refine b_ti (nI_add i 3) ?_
  refine b_sld (j := i + 3) hm hX hbl hbA hw (by omega) hL d_Lw_law_159 ?_
  refine b_ti e3 ?_
  refine b_goi (wr := [(fa, .inl (k 4, 3, .inr (.inr (.inr (.inr (mAd f0 f1 f2)))))), (f0, .inl (k 0, 36, .inl FO)), (f1, .inl (k 0, 36, .inl (fun j => nI (FP j)))), (f2, .inl (k 0, 36, .inl (fun j => nI (FN j)))), (hq 0, .inr (2, [.ref (ha 0), .ref (hv 0), .int (nI (zz 0))])), (ha 0, .inl (k 0, 8, .inl (LF 0))), (hv 0, .inl (k 0, 8, .inl (LG 0))), (pq 0, .inr (2, [.ref (pa 0), .ref (pv 0), .int (nI (zz 0))])), (pa 0, .inl (k 0, 8, .inl (LF 0))), (pv 0, .inl (k 0, 8, .inl (LP 0))), (oq 0, .inl (k 2, 36, .inl (OU 0))), (hq 1, .inr (2, [.ref (ha 1), .ref (hv 1), .int (nI (zz 1))])), (ha 1, .inl (k 0, 8, .inl (LF 1))), (hv 1, .inl (k 0, 8, .inl (LG 1))), (pq 1, .inr (2, [.ref (pa 1), .ref (pv 1), .int (nI (zz 1))])), (pa 1, .inl (k 0, 8, .inl (LF 1))), (pv 1, .inl (k 0, 8, .inl (LP 1))), (oq 1, .inl (k 2, 36, .inl (OU 1))), (hq 2, .inr (2, [.ref (ha 2), .ref (hv 2), .int (nI (zz 2))])), (ha 2, .inl (k 0, 8, .inl (LF 2))), (hv 2, .inl (k 0, 8, .inl (LG 2))), (pq 2, .inr (2, [.ref (pa 2), .ref (pv 2), .int (nI (zz 2))])), (pa 2, .inl (k 0, 8, .inl (LF 2))), (pv 2, .inl (k 0, 8, .inl (LP 2))), (oq 2, .inl (k 2, 36, .inl (OU 2))), (se, .inl (k 0, 36, .inl SE)), (ab, .inl (k 0, 36, .inl (fun j => nI (AB j)))), (he, .inl (k 0, 288, .inl (fun j => nI (HE j)))), (po, .inl (k 0, 288, .inl (fun j => nI (PO j)))), (be, .inl (k 1, 18944, .inr (.inl (fun j => oL (BE j))))), (rs, .inl (k 0, 36, .inl RS)), (to, .inl (k 1, 4, .inr (.inl TO))), (wt, .inr (2, [.ref wtw, .ref wtv, .int (nI wz)])), (wtw, .inl (k 0, 6, .inl WF)), (wtv, .inl (k 0, 6, .inl WG)), (bo, .inr (0, [.ref bow, .int (nI bz), .ref bov])), (bow, .inl (k 0, 36, .inl BF)), (bov, .inl (k 0, 36, .inl BG)), (za 5, .inl (k 0, 3, .inl (fun j => nI (zz j)))), (za 6, .inl (k 0, 24, .inl RO)), (za 7, .inl (k 0, 24, .inl RH)), (za 8, .inl (k 0, 24, .inl RP)), (za 9, .inl (k 0, 36, .inl FO)), (za 10, .inl (k 0, 36, .inl (fun j => nI (FP j)))), (za 11, .inl (k 0, 36, .inl (fun j => nI (FN j)))), (za 12, .inl (k 2, 108, .inl IO)), (za 14, .inl (k 0, 36, .inl RS)), (za 15, .inl (k 1, 4, .inr (.inl TO))), (za 17, .inl (k 2, 512, .inl (fun j => bI ((uTH (fV w)) j)))), (za 18, .inl (k 1, 512, .inr (.inl (fun j => lN ((uCO (fV w)) j))))), (za 19, .inl (k 0, 512, .inl (fun j => nI ((uRK (fV w)) j)))), (za 20, .inl (k 2, 512, .inl (fun j => bI ((uTX (fV w)) j)))), (za 21, .inl (k 1, 512, .inr (.inl (fun j => lN ((uCX (fV w)) j))))), (za 22, .inl (k 0, 512, .inl (fun j => nI ((uKX (fV w)) j)))), (za 23, .inl (k 0, 18432, .inl (fun j => nI ((uWY (fV w)) j)))), (za 24, .inl (k 2, 4096, .inl (fun j => bI ((uSE (fV w)) j)))), (za 25, .inl (k 0, 4096, .inl (fun j => nI ((uPL (fV w)) j)))), (za 26, .inl (k 0, 3, .inl (uHN (fV w)))), (za 27, .inl (k 0, 3, .inl (uPN (fV w)))), (za 30, .inl (k 0, 36, .inl (fun j => nI ((fPA w) j)))), (za 33, .inl (k 0, 6, .inl WF)), (za 34, .inl (k 0, 6, .inl WG)), (za 36, .inl (k 0, 36, .inl BF)), (za 37, .inl (k 0, 36, .inl BG)), (x0, .inr (6, [.ref pl, .ref ho, .ref rs, .ref to, .ref wt, .ref bo])), (pl, .inr (4, [.ref ho, .ref sa, .int (nI 0), .int (nI sta), .int (nI 36), .ref se, .ref ab, .ref he, .ref po, .ref sx, .ref be])), (sx, .inl (k 0, 8, .inl (fun j => nI (u9.2.2 j)))), (sa, .inr (5, [.ref rc, .int (nI u9.2.1.1), .ref rb, .ref mr, .ref mpp, .ref af])), (rc, .inl (k 0, 512, .inl (fun j => nI (u9.2.1.2.1 j)))), (rb, .inl (k 0, 512, .inl (fun j => nI (u9.2.1.2.2.1 j)))), (mr, .inl (k 0, 512, .inl (fun j => nI (u9.2.1.2.2.2.1 j)))), (mpp, .inl (k 0, 512, .inl (fun j => nI (u9.2.1.2.2.2.2.1 j)))), (af, .inl (k 0, 4096, .inl (fun j => nI (u9.2.1.2.2.2.2.2 j)))), (ho, .inr (1, [.ref ma, .int (nI (cn + 1)), .ref fa])), (ma, .inl (k 3, 3, .inr (.inr (.inr (.inr (mAd m0 m1 m2)))))), (m0, .inr (3, [.int (nI (va_up lr cn a 0)), .int (nI (va_up lp cn b9 0)), .int (nI (va_up sc cn q 0)), .ref (hq 0), .ref (pq 0), .ref (oq 0)])), (m1, .inr (3, [.int (nI (va_up lr cn a 1)), .int (nI (va_up lp cn b9 1)), .int (nI (va_up sc cn q 1)), .ref (hq 1), .ref (pq 1), .ref (oq 1)])), (m2, .inr (3, [.int (nI (va_up lr cn a 2)), .int (nI (va_up lp cn b9 2)), .int (nI (va_up sc cn q 2)), .ref (hq 2), .ref (pq 2), .ref (oq 2)])), (ou, .inl (k 1, 1, .inr (.inl (vp_updL OUT 0 u9.1.toInt64))))]) (b_runV (As := [.int (nI a), .int (nI b9), .int (nI q)]) (rest := []) (q0 := 38) hm hw (cwV 3 hts (gV ut_T k_730 k_727 k_728 (k_729) k_9) rfl rfl rfl (by decide +kernel) ⟨by decide, by decide⟩) (c_Md_machine l D k _ md za th cn 0 sn (fK w) (fF w) (fC w) wz bz LR LQ CE a b9 q (by assumption) (by assumption) (by assumption) (by assumption) (by assumption)) [38, 39, 40, 41] (by decide) rfl rfl rfl rfl hl.1 rfl (Nat.le_of_ble_eq_true rfl) d_Lw_law_160 ⟨by show cells + 0 + 0 ≤ room_1.cells; omega, by show slots + 0 + 0 ≤ room_1.slots; omega⟩) hw [38, 39, 40, 41] [0, 1, 2, 3, 4, 5, 6, 7, 8, 9, 10, 11, 12, 13, 14, 15, 16, 17, 18, 19, 20, 21, 22, 23, 24, 25, 26, 27, 28, 29, 30, 31, 32, 33, 34, 35, 36, 37, 42, 43, 44, 45, 46, 47, 48, 49, 50, 51, 52, 53, 54, 55, 56, 57, 58, 59, 60, 61, 62, 63, 64, 65, 66, 67, 68, 69, 70, 71, 72, 73, 74, 75, 76, 77, 78, 79, 80, 81, 82] rfl rfl (by decide) (by decide) (fun r8 u8 H locs hp8 hw => ?_)
  have hp6 : r8 = nI cn := hp8
  have heq : u9.1 = r8 := hp7.1.trans hp6.symm
  refine lv_istore (lv' := [(6, .int r8), (5, .int (nI 0)), (0, .ref b), (1, .ref x0), (2, .ref md), (3, .ref ou), (4, .int (nI i))]) hx hb d_Lw_law_163  hl (by decide) rfl (fun ls hl => ?_)
  refine lv_aload_n hx hb d_Lw_law_165 rfl (lv_at hl 4 rfl) ?_
  refine b_goiR (b_runV (As := []) (rest := []) (q0 := 79) hm hw (cwV 0 hts (gV ut_T k_726 k_723 k_724 (k_725) k_9) rfl rfl rfl (by decide +kernel) ⟨by decide, by decide⟩) (c_Md_thrown l D k _ md za 0 (cn + 1) 0 sn 0 (fF w) (fC w) wz bz) [79] (by decide) rfl rfl rfl rfl hl.1 rfl (Nat.le_of_ble_eq_true rfl) d_Lw_law_166 ⟨by show cells + 0 + 0 + 0 ≤ room_1.cells; omega, by show slots + 0 + 0 + 0 ≤ room_1.slots; omega⟩) hw [79] rfl (fun r5 u5 H locs hp5 hw => ?_)
  refine b_ti (y := nI 0) hp5 ?_
  refine lv_iload hx hb d_Lw_law_169 (lv_at hl 1 rfl) ?_
  refine lv_icmp_eq (tgt := 176) hx hb d_Lw_law_171 (by decide) (fun c_171_0 => ?_) (fun c_171_0 => ?_)
  · skip
    refine lv_iload hx hb d_Lw_law_176 (lv_at hl 1 rfl) ?_
    refine lv_if_ne (tgt := 193) hx hb d_Lw_law_178 (by decide) (fun c_178_1 => ?_) (fun c_178_1 => ?_)
    · skip
      exact absurd c_178_1 (by decide)
    · skip
      refine lv_aload_n hx hb d_Lw_law_181 rfl (lv_at hl 5 rfl) ?_
      refine lv_iconst (v := nI 0) hx hb d_Lw_law_182 (by decide) ?_
      refine b_lald (i := 0) hm hw 78 1 rfl rfl (by omega) (by omega) d_Lw_law_183 ?_
      refine b_tl (y := u9.1.toInt64) (updL_s _ _ _) ?_
      refine lv_iload hx hb d_Lw_law_184 (lv_at hl 0 rfl) ?_
      refine lv_i2l (v := r8.toInt64) hx hb d_Lw_law_186 rfl ?_
      refine W.lcmp hx hb d_Lw_law_187 ?_
      refine lv_if_eq (tgt := 193) hx hb d_Lw_law_188 (by decide) (fun c_188_2 => ?_) (fun c_188_2 => ?_)
      · skip
        refine lv_goto (tgt := 1147) hx hb d_Lw_law_193 (by decide) ?_
        refine W.widen (k := cells + 1) (n := slots + 6) (by show cells + 0 + 0 + 0 ≤ cells + 1; omega) (by show slots + 0 + 0 + 0 ≤ slots + 6; omega) ?_
        refine kx H locs ls (LST_mk (th := 0) (cn := cn + 1) (ov := 0) (sta := sta) (stl := 36) (n := u9.2.1.1) (wz := wz) (bz := bz) (sn := sn) (lr := va_up lr cn a) (lp := va_up lp cn b9) (sc := va_up sc cn q) (zz := zz) (FP := FP) (FN := FN) (AB := AB) (HE := HE) (PO := PO) (SX := u9.2.2) (R := u9.2.1.2.1) (RB := u9.2.1.2.2.1) (MR := u9.2.1.2.2.2.1) (MP := u9.2.1.2.2.2.2.1) (AF := u9.2.1.2.2.2.2.2) (BE := BE) (FO := FO) (SE := SE) (WF := WF) (WG := WG) (BF := BF) (BG := BG) (RS := RS) (TO := TO) (LF := LF) (LG := LG) (LP := LP) (OU := OU) (LR := va_up LR cn a) (LQ := va_up LQ cn b9) (CE := va_up CE cn q) (RO := RO) (RH := RH) (RP := RP) (IO := IO) (w := (w.1, w.2.1, w.2.2.1, 0, w.2.2.2.2)) (OUT := vp_updL OUT 0 u9.1.toInt64) (hI := lw_machine hI hc ha9 hb9 hq9 hp7.2.1.1 hp7.2.1.2.1 hp7.2.1.2.2 hp7.2.2) (hw.sub [64, 73, 74, 0, 1, 2, 3, 75, 4, 5, 6, 7, 8, 9, 10, 76, 11, 12, 13, 14, 15, 16, 17, 77, 18, 19, 20, 21, 22, 23, 24, 65, 25, 26, 27, 28, 66, 29, 67, 68, 69, 70, 71, 72, 30, 31, 32, 33, 34, 35, 36, 37, 79, 80, 81, 82, 38, 39, 40, 41, 42, 43, 44, 45, 46, 47, 48, 49, 50, 51, 52, 53, 54, 55, 56, 57, 58, 59, 60, 61, 62, 63, 78] (by decide) rfl)) (lv_sub hl [2, 3, 4, 5, 6] rfl)
      · skip
        exact absurd (lc_eq (congrArg Int32.toInt64 heq)) c_188_2
  · skip
    exact absurd c_171_0 (by decide)

set_option maxHeartbeats 4000000 in
set_option maxRecDepth 100000 in
theorem L_machine_t1 (h0 : LwH p l s m meth c A b L xs) (hi5 : i + 5 ≤ L) (hf : cells + 1 ≤ room_1.cells ∧ slots + 6 ≤ room_1.slots) (kx : ∀ (H : Heap) (locs : List Loc) (ls : Array Slot), LST D k A s H locs x0 ho pl rs to wt bo ma fa se ab he po sx be sa rc rb mr mpp af m0 m1 m2 f0 f1 f2 wtw wtv bow bov md ou hq ha hv pq pa pv oq za → lv_has ls 8 [(0, .ref b), (1, .ref x0), (2, .ref md), (3, .ref ou), (4, .int (nI i))] → W p l e room_1 s m #[Value.ref b] below meth c H locs (cells + 1) (slots + 6) Q (F0 m 1147 ls [])) (hI : lwI cn ov sta stl n wz bz lr lp sc zz FP FN AB HE PO SX R RB MR MP AF BE FO SE WF WG BF LF LG LP OU sn LR LQ CE RO RH RP IO w) (hw : bW (gU D k) A s H locs (LWW k x0 ho pl rs to wt bo ma fa se ab he po sx be sa rc rb mr mpp af m0 m1 m2 f0 f1 f2 wtw wtv bow bov md ou hq ha hv pq pa pv oq za th cn ov sta stl n wz bz sn lr lp sc zz FP FN AB HE PO SX R RB MR MP AF BE FO SE WF WG BF BG RS TO LF LG LP OU LR LQ CE RO RH RP IO w OUT)) (hl : lv_has ls 8 [(0, .ref b), (1, .ref x0), (2, .ref md), (3, .ref ou), (4, .int (nI i))]) (hv9 : ¬ ((nI 1 ≤ (xs (i + 1)) ∧ (xs (i + 1)) ≤ nI 4) ∧ (nI 1 ≤ (xs (i + 2)) ∧ (xs (i + 2)) ≤ nI 4) ∧ (nI 0 ≤ (xs (i + 3)) ∧ (xs (i + 3)) ≤ nI 100000)))  : W p l e room_1 s m #[Value.ref b] below meth c H locs cells slots Q (F0 m 116 ls []) := by
  obtain ⟨hm, hE, hX, hbl, hbA, hL, htr⟩ := h0
  have hx := hm.1
  have hb := hm.2.1
  have hown := hm.2.2.2.2.1
  have hts := hm.2.2.2.2.2.1
  have y0 : cn ≤ 3 := hI.1.1
  have y1 : ov ≤ 36 := hI.2.1.2.2.2.2.2.1
  have y2 : stl ≤ 36 := hI.2.1.2.2.2.2.2.2.1
  have y3 : ∀ j, zz j ≤ 8 := fun j => (hI.2.2.2.1.1 j).2.2
  have y4 : sn < 512 := hI.1.2.1
  have y5 : ∀ j, LR j ≤ 4 ∧ LQ j ≤ 4 := fun j => (hI.2.2.2.1.2.2.2 j).1
  have y6 : ∀ j, FN j ≤ 100000 := hI.2.1.2.1.2.2.2.2.2.1
  have y7 : ∀ j, FP j ≤ 1000 := hI.2.1.2.1.2.2.2.2.1
  have y8 : ∀ j, CE j ≤ 100000 := fun j => (hI.2.2.2.1.2.2.2 j).2
  have y9 : wz ≤ 6 := hI.2.2.2.2.2.1.2
  have y10 : bz ≤ 36 := hI.2.2.2.2.2.2.1.1
  have y11 : ∀ j, lr j ≤ 4 ∧ lp j ≤ 4 := hI.2.1.1.2.2.1
  have y12 : ∀ j, j < cn → 1 ≤ lr j ∧ 1 ≤ lp j := hI.2.1.1.2.2.2.1
  have y13 : ∀ j, sc j ≤ 100000 := hI.2.2.2.1.2.1
  have y14 : ∀ j, SX j ≤ 300000 := hI.2.1.2.1.2.2.2.1
  have y15 : bxI R RB MR MP AF := hI.2.2.1
  have y16 : ∀ j, IO j = 0 ∨ IO j = 1 := hI.2.2.2.2.1.2.2.2
  refine lv_aload_n hx hb d_Lw_law_116 rfl (lv_at hl 1 rfl) ?_
  refine lv_aload_n hx hb d_Lw_law_117 rfl (lv_at hl 0 rfl) ?_
  refine lv_iload hx hb d_Lw_law_118 (lv_at hl 4 rfl) ?_
  refine lv_iconst (v := nI 1) hx hb d_Lw_law_120 (by decide) ?_
  refine lv_iadd hx hb d_Lw_law_121 ?_
  refine b_ti (nI_add i 1) ?_
  refine b_sld (j := i + 1) hm hX hbl hbA hw (by omega) hL d_Lw_law_122 ?_
  refine lv_aload_n hx hb d_Lw_law_123 rfl (lv_at hl 0 rfl) ?_
  refine lv_iload hx hb d_Lw_law_124 (lv_at hl 4 rfl) ?_
  refine lv_iconst (v := nI 2) hx hb d_Lw_law_126 (by decide) ?_
  refine lv_iadd hx hb d_Lw_law_127 ?_
  refine b_ti (nI_add i 2) ?_
  refine b_sld (j := i + 2) hm hX hbl hbA hw (by omega) hL d_Lw_law_128 ?_
  refine lv_aload_n hx hb d_Lw_law_129 rfl (lv_at hl 0 rfl) ?_
  refine lv_iload hx hb d_Lw_law_130 (lv_at hl 4 rfl) ?_
  refine lv_iconst (v := nI 3) hx hb d_Lw_law_132 (by decide) ?_
  refine lv_iadd hx hb d_Lw_law_133 ?_
  refine b_ti (nI_add i 3) ?_
  refine b_sld (j := i + 3) hm hX hbl hbA hw (by omega) hL d_Lw_law_134 ?_
  refine lv_aload_n hx hb d_Lw_law_135 rfl (lv_at hl 3 rfl) ?_
  refine b_goi (wr := [(ho, .inr (1, [.ref ma, .int (nI cn), .ref fa])), (ma, .inl (k 3, 3, .inr (.inr (.inr (.inr (mAd m0 m1 m2)))))), (fa, .inl (k 4, 3, .inr (.inr (.inr (.inr (mAd f0 f1 f2)))))), (f0, .inl (k 0, 36, .inl FO)), (f1, .inl (k 0, 36, .inl (fun j => nI (FP j)))), (f2, .inl (k 0, 36, .inl (fun j => nI (FN j)))), (m0, .inr (3, [.int (nI (lr 0)), .int (nI (lp 0)), .int (nI (sc 0)), .ref (hq 0), .ref (pq 0), .ref (oq 0)])), (hq 0, .inr (2, [.ref (ha 0), .ref (hv 0), .int (nI (zz 0))])), (ha 0, .inl (k 0, 8, .inl (LF 0))), (hv 0, .inl (k 0, 8, .inl (LG 0))), (pq 0, .inr (2, [.ref (pa 0), .ref (pv 0), .int (nI (zz 0))])), (pa 0, .inl (k 0, 8, .inl (LF 0))), (pv 0, .inl (k 0, 8, .inl (LP 0))), (oq 0, .inl (k 2, 36, .inl (OU 0))), (m1, .inr (3, [.int (nI (lr 1)), .int (nI (lp 1)), .int (nI (sc 1)), .ref (hq 1), .ref (pq 1), .ref (oq 1)])), (hq 1, .inr (2, [.ref (ha 1), .ref (hv 1), .int (nI (zz 1))])), (ha 1, .inl (k 0, 8, .inl (LF 1))), (hv 1, .inl (k 0, 8, .inl (LG 1))), (pq 1, .inr (2, [.ref (pa 1), .ref (pv 1), .int (nI (zz 1))])), (pa 1, .inl (k 0, 8, .inl (LF 1))), (pv 1, .inl (k 0, 8, .inl (LP 1))), (oq 1, .inl (k 2, 36, .inl (OU 1))), (m2, .inr (3, [.int (nI (lr 2)), .int (nI (lp 2)), .int (nI (sc 2)), .ref (hq 2), .ref (pq 2), .ref (oq 2)])), (hq 2, .inr (2, [.ref (ha 2), .ref (hv 2), .int (nI (zz 2))])), (ha 2, .inl (k 0, 8, .inl (LF 2))), (hv 2, .inl (k 0, 8, .inl (LG 2))), (pq 2, .inr (2, [.ref (pa 2), .ref (pv 2), .int (nI (zz 2))])), (pa 2, .inl (k 0, 8, .inl (LF 2))), (pv 2, .inl (k 0, 8, .inl (LP 2))), (oq 2, .inl (k 2, 36, .inl (OU 2))), (pl, .inr (4, [.ref ho, .ref sa, .int (nI ov), .int (nI sta), .int (nI stl), .ref se, .ref ab, .ref he, .ref po, .ref sx, .ref be])), (se, .inl (k 0, 36, .inl SE)), (ab, .inl (k 0, 36, .inl (fun j => nI (AB j)))), (he, .inl (k 0, 288, .inl (fun j => nI (HE j)))), (po, .inl (k 0, 288, .inl (fun j => nI (PO j)))), (sx, .inl (k 0, 8, .inl (fun j => nI (SX j)))), (be, .inl (k 1, 18944, .inr (.inl (fun j => oL (BE j))))), (sa, .inr (5, [.ref rc, .int (nI n), .ref rb, .ref mr, .ref mpp, .ref af])), (rc, .inl (k 0, 512, .inl (fun j => nI (R j)))), (rb, .inl (k 0, 512, .inl (fun j => nI (RB j)))), (mr, .inl (k 0, 512, .inl (fun j => nI (MR j)))), (mpp, .inl (k 0, 512, .inl (fun j => nI (MP j)))), (af, .inl (k 0, 4096, .inl (fun j => nI (AF j)))), (rs, .inl (k 0, 36, .inl RS)), (to, .inl (k 1, 4, .inr (.inl TO))), (wt, .inr (2, [.ref wtw, .ref wtv, .int (nI wz)])), (wtw, .inl (k 0, 6, .inl WF)), (wtv, .inl (k 0, 6, .inl WG)), (bo, .inr (0, [.ref bow, .int (nI bz), .ref bov])), (bow, .inl (k 0, 36, .inl BF)), (bov, .inl (k 0, 36, .inl BG)), (md, .inr (7, mdL za th cn ov sn (fK w) (fF w) (fC w) wz bz)), (za 2, .inl (k 0, 3, .inl (fun j => nI (LR j)))), (za 3, .inl (k 0, 3, .inl (fun j => nI (LQ j)))), (za 4, .inl (k 0, 3, .inl (fun j => nI (CE j)))), (za 5, .inl (k 0, 3, .inl (fun j => nI (zz j)))), (za 6, .inl (k 0, 24, .inl RO)), (za 7, .inl (k 0, 24, .inl RH)), (za 8, .inl (k 0, 24, .inl RP)), (za 9, .inl (k 0, 36, .inl FO)), (za 10, .inl (k 0, 36, .inl (fun j => nI (FP j)))), (za 11, .inl (k 0, 36, .inl (fun j => nI (FN j)))), (za 12, .inl (k 2, 108, .inl IO)), (za 14, .inl (k 0, 36, .inl RS)), (za 15, .inl (k 1, 4, .inr (.inl TO))), (za 17, .inl (k 2, 512, .inl (fun j => bI ((uTH (fV w)) j)))), (za 18, .inl (k 1, 512, .inr (.inl (fun j => lN ((uCO (fV w)) j))))), (za 19, .inl (k 0, 512, .inl (fun j => nI ((uRK (fV w)) j)))), (za 20, .inl (k 2, 512, .inl (fun j => bI ((uTX (fV w)) j)))), (za 21, .inl (k 1, 512, .inr (.inl (fun j => lN ((uCX (fV w)) j))))), (za 22, .inl (k 0, 512, .inl (fun j => nI ((uKX (fV w)) j)))), (za 23, .inl (k 0, 18432, .inl (fun j => nI ((uWY (fV w)) j)))), (za 24, .inl (k 2, 4096, .inl (fun j => bI ((uSE (fV w)) j)))), (za 25, .inl (k 0, 4096, .inl (fun j => nI ((uPL (fV w)) j)))), (za 26, .inl (k 0, 3, .inl (uHN (fV w)))), (za 27, .inl (k 0, 3, .inl (uPN (fV w)))), (za 30, .inl (k 0, 36, .inl (fun j => nI ((fPA w) j)))), (za 33, .inl (k 0, 6, .inl WF)), (za 34, .inl (k 0, 6, .inl WG)), (za 36, .inl (k 0, 36, .inl BF)), (za 37, .inl (k 0, 36, .inl BG))]) (b_runSH (n := 5) (As := [.ref x0, .int (xs (i + 1)), .int (xs (i + 2)), .int (xs (i + 3)), .ref ou]) (rest := []) hm ut_T hE hw (h_machine_t1 l htr D k _ x0 ho pl rs to wt bo (xs (i + 1)) (xs (i + 2)) (xs (i + 3)) (by assumption) ou OUT) k_288 k_286 k_287 k_0 ⟨by decide, by decide, by decide +kernel⟩ ⟨by decide, by decide⟩ [0, 82] (by decide) rfl rfl hl.1 rfl (Nat.le_of_ble_eq_true rfl) d_Lw_law_136 ⟨by show cells + 1 ≤ room_1.cells; omega, by show slots + 6 ≤ room_1.slots; omega⟩) hw [0, 82] [1, 2, 3, 4, 5, 6, 7, 8, 9, 10, 11, 12, 13, 14, 15, 16, 17, 18, 19, 20, 21, 22, 23, 24, 25, 26, 27, 28, 29, 30, 31, 32, 33, 34, 35, 36, 37, 38, 39, 40, 41, 42, 43, 44, 45, 46, 47, 48, 49, 50, 51, 52, 53, 54, 55, 56, 57, 58, 59, 60, 61, 62, 63, 64, 65, 66, 67, 68, 69, 70, 71, 72, 73, 74, 75, 76, 77, 78, 79, 80, 81] rfl rfl (by decide) (by decide) (fun r9 u9 H locs hp9 hw => ?_)
  refine b_ti (y := nI 1) hp9 ?_
  refine lv_istore (lv' := [(5, .int (nI 1)), (0, .ref b), (1, .ref x0), (2, .ref md), (3, .ref ou), (4, .int (nI i))]) hx hb d_Lw_law_139  hl (by decide) rfl (fun ls hl => ?_)
  refine lv_aload_n hx hb d_Lw_law_141 rfl (lv_at hl 3 rfl) ?_
  refine lv_aload_n hx hb d_Lw_law_142 rfl (lv_at hl 1 rfl) ?_
  refine lv_iload hx hb d_Lw_law_143 (lv_at hl 5 rfl) ?_
  refine lv_iconst (v := nI 1) hx hb d_Lw_law_145 (by decide) ?_
  refine lv_iadd hx hb d_Lw_law_146 ?_
  refine b_ti (nI_add i 1) ?_
  refine b_sld (j := i + 1) hm hX hbl hbA hw (by omega) hL d_Lw_law_147 ?_
  refine lv_aload_n hx hb d_Lw_law_148 rfl (lv_at hl 1 rfl) ?_
  refine lv_iload hx hb d_Lw_law_149 (lv_at hl 5 rfl) ?_
  refine lv_iconst (v := nI 2) hx hb d_Lw_law_151 (by decide) ?_
  refine lv_iadd hx hb d_Lw_law_152 ?_
  refine b_ti (nI_add i 2) ?_
  refine b_sld (j := i + 2) hm hX hbl hbA hw (by omega) hL d_Lw_law_153 ?_
  refine lv_aload_n hx hb d_Lw_law_154 rfl (lv_at hl 1 rfl) ?_
  refine lv_iload hx hb d_Lw_law_155 (lv_at hl 5 rfl) ?_
  refine lv_iconst (v := nI 3) hx hb d_Lw_law_157 (by decide) ?_
  refine lv_iadd hx hb d_Lw_law_158 ?_
  refine b_ti (nI_add i 3) ?_
  refine b_sld (j := i + 3) hm hX hbl hbA hw (by omega) hL d_Lw_law_159 ?_
  refine b_goi (wr := [(ho, .inr (1, [.ref ma, .int (nI cn), .ref fa])), (ma, .inl (k 3, 3, .inr (.inr (.inr (.inr (mAd m0 m1 m2)))))), (fa, .inl (k 4, 3, .inr (.inr (.inr (.inr (mAd f0 f1 f2)))))), (f0, .inl (k 0, 36, .inl FO)), (f1, .inl (k 0, 36, .inl (fun j => nI (FP j)))), (f2, .inl (k 0, 36, .inl (fun j => nI (FN j)))), (m0, .inr (3, [.int (nI (lr 0)), .int (nI (lp 0)), .int (nI (sc 0)), .ref (hq 0), .ref (pq 0), .ref (oq 0)])), (hq 0, .inr (2, [.ref (ha 0), .ref (hv 0), .int (nI (zz 0))])), (ha 0, .inl (k 0, 8, .inl (LF 0))), (hv 0, .inl (k 0, 8, .inl (LG 0))), (pq 0, .inr (2, [.ref (pa 0), .ref (pv 0), .int (nI (zz 0))])), (pa 0, .inl (k 0, 8, .inl (LF 0))), (pv 0, .inl (k 0, 8, .inl (LP 0))), (oq 0, .inl (k 2, 36, .inl (OU 0))), (m1, .inr (3, [.int (nI (lr 1)), .int (nI (lp 1)), .int (nI (sc 1)), .ref (hq 1), .ref (pq 1), .ref (oq 1)])), (hq 1, .inr (2, [.ref (ha 1), .ref (hv 1), .int (nI (zz 1))])), (ha 1, .inl (k 0, 8, .inl (LF 1))), (hv 1, .inl (k 0, 8, .inl (LG 1))), (pq 1, .inr (2, [.ref (pa 1), .ref (pv 1), .int (nI (zz 1))])), (pa 1, .inl (k 0, 8, .inl (LF 1))), (pv 1, .inl (k 0, 8, .inl (LP 1))), (oq 1, .inl (k 2, 36, .inl (OU 1))), (m2, .inr (3, [.int (nI (lr 2)), .int (nI (lp 2)), .int (nI (sc 2)), .ref (hq 2), .ref (pq 2), .ref (oq 2)])), (hq 2, .inr (2, [.ref (ha 2), .ref (hv 2), .int (nI (zz 2))])), (ha 2, .inl (k 0, 8, .inl (LF 2))), (hv 2, .inl (k 0, 8, .inl (LG 2))), (pq 2, .inr (2, [.ref (pa 2), .ref (pv 2), .int (nI (zz 2))])), (pa 2, .inl (k 0, 8, .inl (LF 2))), (pv 2, .inl (k 0, 8, .inl (LP 2))), (oq 2, .inl (k 2, 36, .inl (OU 2))), (pl, .inr (4, [.ref ho, .ref sa, .int (nI ov), .int (nI sta), .int (nI stl), .ref se, .ref ab, .ref he, .ref po, .ref sx, .ref be])), (se, .inl (k 0, 36, .inl SE)), (ab, .inl (k 0, 36, .inl (fun j => nI (AB j)))), (he, .inl (k 0, 288, .inl (fun j => nI (HE j)))), (po, .inl (k 0, 288, .inl (fun j => nI (PO j)))), (sx, .inl (k 0, 8, .inl (fun j => nI (SX j)))), (be, .inl (k 1, 18944, .inr (.inl (fun j => oL (BE j))))), (sa, .inr (5, [.ref rc, .int (nI n), .ref rb, .ref mr, .ref mpp, .ref af])), (rc, .inl (k 0, 512, .inl (fun j => nI (R j)))), (rb, .inl (k 0, 512, .inl (fun j => nI (RB j)))), (mr, .inl (k 0, 512, .inl (fun j => nI (MR j)))), (mpp, .inl (k 0, 512, .inl (fun j => nI (MP j)))), (af, .inl (k 0, 4096, .inl (fun j => nI (AF j)))), (rs, .inl (k 0, 36, .inl RS)), (to, .inl (k 1, 4, .inr (.inl TO))), (wt, .inr (2, [.ref wtw, .ref wtv, .int (nI wz)])), (wtw, .inl (k 0, 6, .inl WF)), (wtv, .inl (k 0, 6, .inl WG)), (bo, .inr (0, [.ref bow, .int (nI bz), .ref bov])), (bow, .inl (k 0, 36, .inl BF)), (bov, .inl (k 0, 36, .inl BG)), (za 2, .inl (k 0, 3, .inl (fun j => nI (LR j)))), (za 3, .inl (k 0, 3, .inl (fun j => nI (LQ j)))), (za 4, .inl (k 0, 3, .inl (fun j => nI (CE j)))), (za 5, .inl (k 0, 3, .inl (fun j => nI (zz j)))), (za 6, .inl (k 0, 24, .inl RO)), (za 7, .inl (k 0, 24, .inl RH)), (za 8, .inl (k 0, 24, .inl RP)), (za 9, .inl (k 0, 36, .inl FO)), (za 10, .inl (k 0, 36, .inl (fun j => nI (FP j)))), (za 11, .inl (k 0, 36, .inl (fun j => nI (FN j)))), (za 12, .inl (k 2, 108, .inl IO)), (za 14, .inl (k 0, 36, .inl RS)), (za 15, .inl (k 1, 4, .inr (.inl TO))), (za 17, .inl (k 2, 512, .inl (fun j => bI ((uTH (fV w)) j)))), (za 18, .inl (k 1, 512, .inr (.inl (fun j => lN ((uCO (fV w)) j))))), (za 19, .inl (k 0, 512, .inl (fun j => nI ((uRK (fV w)) j)))), (za 20, .inl (k 2, 512, .inl (fun j => bI ((uTX (fV w)) j)))), (za 21, .inl (k 1, 512, .inr (.inl (fun j => lN ((uCX (fV w)) j))))), (za 22, .inl (k 0, 512, .inl (fun j => nI ((uKX (fV w)) j)))), (za 23, .inl (k 0, 18432, .inl (fun j => nI ((uWY (fV w)) j)))), (za 24, .inl (k 2, 4096, .inl (fun j => bI ((uSE (fV w)) j)))), (za 25, .inl (k 0, 4096, .inl (fun j => nI ((uPL (fV w)) j)))), (za 26, .inl (k 0, 3, .inl (uHN (fV w)))), (za 27, .inl (k 0, 3, .inl (uPN (fV w)))), (za 30, .inl (k 0, 36, .inl (fun j => nI ((fPA w) j)))), (za 33, .inl (k 0, 6, .inl WF)), (za 34, .inl (k 0, 6, .inl WG)), (za 36, .inl (k 0, 36, .inl BF)), (za 37, .inl (k 0, 36, .inl BG)), (x0, .inr (6, [.ref pl, .ref ho, .ref rs, .ref to, .ref wt, .ref bo])), (ou, .inl (k 1, 1, .inr (.inl OUT)))]) (b_runV (As := [.int (xs (i + 1)), .int (xs (i + 2)), .int (xs (i + 3))]) (rest := []) (q0 := 51) hm hw (cwV 3 hts (gV ut_T k_730 k_727 k_728 (k_729) k_9) rfl rfl rfl (by decide +kernel) ⟨by decide, by decide⟩) (c_Md_machine_t1 l D k _ md za th cn ov sn (fK w) (fF w) (fC w) wz bz (xs (i + 1)) (xs (i + 2)) (xs (i + 3)) (by assumption)) [51] (by decide) rfl rfl rfl rfl hl.1 rfl (Nat.le_of_ble_eq_true rfl) d_Lw_law_160 ⟨by show cells + 1 + 0 ≤ room_1.cells; omega, by show slots + 6 + 0 ≤ room_1.slots; omega⟩) hw [51] [0, 1, 2, 3, 4, 5, 6, 7, 8, 9, 10, 11, 12, 13, 14, 15, 16, 17, 18, 19, 20, 21, 22, 23, 24, 25, 26, 27, 28, 29, 30, 31, 32, 33, 34, 35, 36, 37, 38, 39, 40, 41, 42, 43, 44, 45, 46, 47, 48, 49, 50, 52, 53, 54, 55, 56, 57, 58, 59, 60, 61, 62, 63, 64, 65, 66, 67, 68, 69, 70, 71, 72, 73, 74, 75, 76, 77, 78, 79, 80, 81, 82] rfl rfl (by decide) (by decide) (fun r8 u8 H locs hp8 hw => ?_)
  refine lv_istore (lv' := [(6, .int r8), (5, .int (nI 1)), (0, .ref b), (1, .ref x0), (2, .ref md), (3, .ref ou), (4, .int (nI i))]) hx hb d_Lw_law_163  hl (by decide) rfl (fun ls hl => ?_)
  refine lv_aload_n hx hb d_Lw_law_165 rfl (lv_at hl 4 rfl) ?_
  refine b_goiR (b_runV (As := []) (rest := []) (q0 := 82) hm hw (cwV 0 hts (gV ut_T k_726 k_723 k_724 (k_725) k_9) rfl rfl rfl (by decide +kernel) ⟨by decide, by decide⟩) (c_Md_thrown l D k _ md za 1 cn ov sn (fK w) (fF w) (fC w) wz bz) [82] (by decide) rfl rfl rfl rfl hl.1 rfl (Nat.le_of_ble_eq_true rfl) d_Lw_law_166 ⟨by show cells + 1 + 0 + 0 ≤ room_1.cells; omega, by show slots + 6 + 0 + 0 ≤ room_1.slots; omega⟩) hw [82] rfl (fun r5 u5 H locs hp5 hw => ?_)
  refine b_ti (y := nI 1) hp5 ?_
  refine lv_iload hx hb d_Lw_law_169 (lv_at hl 1 rfl) ?_
  refine lv_icmp_eq (tgt := 176) hx hb d_Lw_law_171 (by decide) (fun c_171_0 => ?_) (fun c_171_0 => ?_)
  · skip
    refine lv_iload hx hb d_Lw_law_176 (lv_at hl 1 rfl) ?_
    refine lv_if_ne (tgt := 193) hx hb d_Lw_law_178 (by decide) (fun c_178_1 => ?_) (fun c_178_1 => ?_)
    · skip
      refine lv_goto (tgt := 1147) hx hb d_Lw_law_193 (by decide) ?_
      refine W.widen (k := cells + 1) (n := slots + 6) (by show cells + 1 + 0 + 0 ≤ cells + 1; omega) (by show slots + 6 + 0 + 0 ≤ slots + 6; omega) ?_
      refine kx H locs ls (LST_mk (th := 1) (cn := cn) (ov := ov) (sta := sta) (stl := stl) (n := n) (wz := wz) (bz := bz) (sn := sn) (lr := lr) (lp := lp) (sc := sc) (zz := zz) (FP := FP) (FN := FN) (AB := AB) (HE := HE) (PO := PO) (SX := SX) (R := R) (RB := RB) (MR := MR) (MP := MP) (AF := AF) (BE := BE) (FO := FO) (SE := SE) (WF := WF) (WG := WG) (BF := BF) (BG := BG) (RS := RS) (TO := TO) (LF := LF) (LG := LG) (LP := LP) (OU := OU) (LR := LR) (LQ := LQ) (CE := CE) (RO := RO) (RH := RH) (RP := RP) (IO := IO) (w := w) (OUT := OUT) (hI := hI) (hw.sub [80, 0, 1, 2, 3, 4, 5, 6, 7, 8, 9, 10, 11, 12, 13, 14, 15, 16, 17, 18, 19, 20, 21, 22, 23, 24, 25, 26, 27, 28, 29, 30, 31, 32, 33, 34, 35, 36, 37, 38, 39, 40, 41, 42, 43, 44, 45, 46, 47, 48, 49, 50, 82, 51, 52, 53, 54, 55, 56, 57, 58, 59, 60, 61, 62, 63, 64, 65, 66, 67, 68, 69, 70, 71, 72, 73, 74, 75, 76, 77, 78, 79, 81] (by decide) rfl)) (lv_sub hl [2, 3, 4, 5, 6] rfl)
    · skip
      exact absurd c_178_1 (by decide)
  · skip
    exact absurd c_171_0 (by decide)

set_option maxHeartbeats 4000000 in
set_option maxRecDepth 100000 in
theorem L_machine_t2 (h0 : LwH p l s m meth c A b L xs) (hi5 : i + 5 ≤ L) (hf : cells + 1 ≤ room_1.cells ∧ slots + 6 ≤ room_1.slots) (kx : ∀ (H : Heap) (locs : List Loc) (ls : Array Slot), LST D k A s H locs x0 ho pl rs to wt bo ma fa se ab he po sx be sa rc rb mr mpp af m0 m1 m2 f0 f1 f2 wtw wtv bow bov md ou hq ha hv pq pa pv oq za → lv_has ls 8 [(0, .ref b), (1, .ref x0), (2, .ref md), (3, .ref ou), (4, .int (nI i))] → W p l e room_1 s m #[Value.ref b] below meth c H locs (cells + 1) (slots + 6) Q (F0 m 1147 ls [])) (hI : lwI cn ov sta stl n wz bz lr lp sc zz FP FN AB HE PO SX R RB MR MP AF BE FO SE WF WG BF LF LG LP OU sn LR LQ CE RO RH RP IO w) (hw : bW (gU D k) A s H locs (LWW k x0 ho pl rs to wt bo ma fa se ab he po sx be sa rc rb mr mpp af m0 m1 m2 f0 f1 f2 wtw wtv bow bov md ou hq ha hv pq pa pv oq za th cn ov sta stl n wz bz sn lr lp sc zz FP FN AB HE PO SX R RB MR MP AF BE FO SE WF WG BF BG RS TO LF LG LP OU LR LQ CE RO RH RP IO w OUT)) (hl : lv_has ls 8 [(0, .ref b), (1, .ref x0), (2, .ref md), (3, .ref ou), (4, .int (nI i))]) {a b9 q : Nat} (ha9 : 1 ≤ a ∧ a ≤ 4) (hb9 : 1 ≤ b9 ∧ b9 ≤ 4) (hq9 : q ≤ 100000) (hs9 : cn = 3 ∨ 0 < ov) (e1 : xs (i + 1) = nI a) (e2 : xs (i + 2) = nI b9) (e3 : xs (i + 3) = nI q) : W p l e room_1 s m #[Value.ref b] below meth c H locs cells slots Q (F0 m 116 ls []) := by
  obtain ⟨hm, hE, hX, hbl, hbA, hL, htr⟩ := h0
  have hx := hm.1
  have hb := hm.2.1
  have hown := hm.2.2.2.2.1
  have hts := hm.2.2.2.2.2.1
  have y0 : cn ≤ 3 := hI.1.1
  have y1 : ov ≤ 36 := hI.2.1.2.2.2.2.2.1
  have y2 : stl ≤ 36 := hI.2.1.2.2.2.2.2.2.1
  have y3 : ∀ j, zz j ≤ 8 := fun j => (hI.2.2.2.1.1 j).2.2
  have y4 : sn < 512 := hI.1.2.1
  have y5 : ∀ j, LR j ≤ 4 ∧ LQ j ≤ 4 := fun j => (hI.2.2.2.1.2.2.2 j).1
  have y6 : ∀ j, FN j ≤ 100000 := hI.2.1.2.1.2.2.2.2.2.1
  have y7 : ∀ j, FP j ≤ 1000 := hI.2.1.2.1.2.2.2.2.1
  have y8 : ∀ j, CE j ≤ 100000 := fun j => (hI.2.2.2.1.2.2.2 j).2
  have y9 : wz ≤ 6 := hI.2.2.2.2.2.1.2
  have y10 : bz ≤ 36 := hI.2.2.2.2.2.2.1.1
  have y11 : ∀ j, lr j ≤ 4 ∧ lp j ≤ 4 := hI.2.1.1.2.2.1
  have y12 : ∀ j, j < cn → 1 ≤ lr j ∧ 1 ≤ lp j := hI.2.1.1.2.2.2.1
  have y13 : ∀ j, sc j ≤ 100000 := hI.2.2.2.1.2.1
  have y14 : ∀ j, SX j ≤ 300000 := hI.2.1.2.1.2.2.2.1
  have y15 : bxI R RB MR MP AF := hI.2.2.1
  have y16 : ∀ j, IO j = 0 ∨ IO j = 1 := hI.2.2.2.2.1.2.2.2
  refine lv_aload_n hx hb d_Lw_law_116 rfl (lv_at hl 1 rfl) ?_
  refine lv_aload_n hx hb d_Lw_law_117 rfl (lv_at hl 0 rfl) ?_
  refine lv_iload hx hb d_Lw_law_118 (lv_at hl 4 rfl) ?_
  refine lv_iconst (v := nI 1) hx hb d_Lw_law_120 (by decide) ?_
  refine lv_iadd hx hb d_Lw_law_121 ?_
  refine b_ti (nI_add i 1) ?_
  refine b_sld (j := i + 1) hm hX hbl hbA hw (by omega) hL d_Lw_law_122 ?_
  refine b_ti e1 ?_
  refine lv_aload_n hx hb d_Lw_law_123 rfl (lv_at hl 0 rfl) ?_
  refine lv_iload hx hb d_Lw_law_124 (lv_at hl 4 rfl) ?_
  refine lv_iconst (v := nI 2) hx hb d_Lw_law_126 (by decide) ?_
  refine lv_iadd hx hb d_Lw_law_127 ?_
  refine b_ti (nI_add i 2) ?_
  refine b_sld (j := i + 2) hm hX hbl hbA hw (by omega) hL d_Lw_law_128 ?_
  refine b_ti e2 ?_
  refine lv_aload_n hx hb d_Lw_law_129 rfl (lv_at hl 0 rfl) ?_
  refine lv_iload hx hb d_Lw_law_130 (lv_at hl 4 rfl) ?_
  refine lv_iconst (v := nI 3) hx hb d_Lw_law_132 (by decide) ?_
  refine lv_iadd hx hb d_Lw_law_133 ?_
  refine b_ti (nI_add i 3) ?_
  refine b_sld (j := i + 3) hm hX hbl hbA hw (by omega) hL d_Lw_law_134 ?_
  refine b_ti e3 ?_
  refine lv_aload_n hx hb d_Lw_law_135 rfl (lv_at hl 3 rfl) ?_
  refine b_goi (wr := [(ma, .inl (k 3, 3, .inr (.inr (.inr (.inr (mAd m0 m1 m2)))))), (fa, .inl (k 4, 3, .inr (.inr (.inr (.inr (mAd f0 f1 f2)))))), (f0, .inl (k 0, 36, .inl FO)), (f1, .inl (k 0, 36, .inl (fun j => nI (FP j)))), (f2, .inl (k 0, 36, .inl (fun j => nI (FN j)))), (m0, .inr (3, [.int (nI (lr 0)), .int (nI (lp 0)), .int (nI (sc 0)), .ref (hq 0), .ref (pq 0), .ref (oq 0)])), (hq 0, .inr (2, [.ref (ha 0), .ref (hv 0), .int (nI (zz 0))])), (ha 0, .inl (k 0, 8, .inl (LF 0))), (hv 0, .inl (k 0, 8, .inl (LG 0))), (pq 0, .inr (2, [.ref (pa 0), .ref (pv 0), .int (nI (zz 0))])), (pa 0, .inl (k 0, 8, .inl (LF 0))), (pv 0, .inl (k 0, 8, .inl (LP 0))), (oq 0, .inl (k 2, 36, .inl (OU 0))), (m1, .inr (3, [.int (nI (lr 1)), .int (nI (lp 1)), .int (nI (sc 1)), .ref (hq 1), .ref (pq 1), .ref (oq 1)])), (hq 1, .inr (2, [.ref (ha 1), .ref (hv 1), .int (nI (zz 1))])), (ha 1, .inl (k 0, 8, .inl (LF 1))), (hv 1, .inl (k 0, 8, .inl (LG 1))), (pq 1, .inr (2, [.ref (pa 1), .ref (pv 1), .int (nI (zz 1))])), (pa 1, .inl (k 0, 8, .inl (LF 1))), (pv 1, .inl (k 0, 8, .inl (LP 1))), (oq 1, .inl (k 2, 36, .inl (OU 1))), (m2, .inr (3, [.int (nI (lr 2)), .int (nI (lp 2)), .int (nI (sc 2)), .ref (hq 2), .ref (pq 2), .ref (oq 2)])), (hq 2, .inr (2, [.ref (ha 2), .ref (hv 2), .int (nI (zz 2))])), (ha 2, .inl (k 0, 8, .inl (LF 2))), (hv 2, .inl (k 0, 8, .inl (LG 2))), (pq 2, .inr (2, [.ref (pa 2), .ref (pv 2), .int (nI (zz 2))])), (pa 2, .inl (k 0, 8, .inl (LF 2))), (pv 2, .inl (k 0, 8, .inl (LP 2))), (oq 2, .inl (k 2, 36, .inl (OU 2))), (se, .inl (k 0, 36, .inl SE)), (ab, .inl (k 0, 36, .inl (fun j => nI (AB j)))), (he, .inl (k 0, 288, .inl (fun j => nI (HE j)))), (po, .inl (k 0, 288, .inl (fun j => nI (PO j)))), (sx, .inl (k 0, 8, .inl (fun j => nI (SX j)))), (be, .inl (k 1, 18944, .inr (.inl (fun j => oL (BE j))))), (sa, .inr (5, [.ref rc, .int (nI n), .ref rb, .ref mr, .ref mpp, .ref af])), (rc, .inl (k 0, 512, .inl (fun j => nI (R j)))), (rb, .inl (k 0, 512, .inl (fun j => nI (RB j)))), (mr, .inl (k 0, 512, .inl (fun j => nI (MR j)))), (mpp, .inl (k 0, 512, .inl (fun j => nI (MP j)))), (af, .inl (k 0, 4096, .inl (fun j => nI (AF j)))), (rs, .inl (k 0, 36, .inl RS)), (to, .inl (k 1, 4, .inr (.inl TO))), (wt, .inr (2, [.ref wtw, .ref wtv, .int (nI wz)])), (wtw, .inl (k 0, 6, .inl WF)), (wtv, .inl (k 0, 6, .inl WG)), (bo, .inr (0, [.ref bow, .int (nI bz), .ref bov])), (bow, .inl (k 0, 36, .inl BF)), (bov, .inl (k 0, 36, .inl BG)), (md, .inr (7, mdL za th cn ov sn (fK w) (fF w) (fC w) wz bz)), (za 2, .inl (k 0, 3, .inl (fun j => nI (LR j)))), (za 3, .inl (k 0, 3, .inl (fun j => nI (LQ j)))), (za 4, .inl (k 0, 3, .inl (fun j => nI (CE j)))), (za 5, .inl (k 0, 3, .inl (fun j => nI (zz j)))), (za 6, .inl (k 0, 24, .inl RO)), (za 7, .inl (k 0, 24, .inl RH)), (za 8, .inl (k 0, 24, .inl RP)), (za 9, .inl (k 0, 36, .inl FO)), (za 10, .inl (k 0, 36, .inl (fun j => nI (FP j)))), (za 11, .inl (k 0, 36, .inl (fun j => nI (FN j)))), (za 12, .inl (k 2, 108, .inl IO)), (za 14, .inl (k 0, 36, .inl RS)), (za 15, .inl (k 1, 4, .inr (.inl TO))), (za 17, .inl (k 2, 512, .inl (fun j => bI ((uTH (fV w)) j)))), (za 18, .inl (k 1, 512, .inr (.inl (fun j => lN ((uCO (fV w)) j))))), (za 19, .inl (k 0, 512, .inl (fun j => nI ((uRK (fV w)) j)))), (za 20, .inl (k 2, 512, .inl (fun j => bI ((uTX (fV w)) j)))), (za 21, .inl (k 1, 512, .inr (.inl (fun j => lN ((uCX (fV w)) j))))), (za 22, .inl (k 0, 512, .inl (fun j => nI ((uKX (fV w)) j)))), (za 23, .inl (k 0, 18432, .inl (fun j => nI ((uWY (fV w)) j)))), (za 24, .inl (k 2, 4096, .inl (fun j => bI ((uSE (fV w)) j)))), (za 25, .inl (k 0, 4096, .inl (fun j => nI ((uPL (fV w)) j)))), (za 26, .inl (k 0, 3, .inl (uHN (fV w)))), (za 27, .inl (k 0, 3, .inl (uPN (fV w)))), (za 30, .inl (k 0, 36, .inl (fun j => nI ((fPA w) j)))), (za 33, .inl (k 0, 6, .inl WF)), (za 34, .inl (k 0, 6, .inl WG)), (za 36, .inl (k 0, 36, .inl BF)), (za 37, .inl (k 0, 36, .inl BG))]) (b_runSH (n := 5) (As := [.ref x0, .int (nI a), .int (nI b9), .int (nI q), .ref ou]) (rest := []) hm ut_T hE hw (h_machine_t2 l htr D k _ x0 ho pl rs to wt bo ma fa cn se ab he po sx be sa ov sta stl a b9 q (by assumption) (by assumption) (by assumption) (by assumption) (by assumption) (by assumption) ou OUT) k_288 k_286 k_287 k_0 ⟨by decide, by decide, by decide +kernel⟩ ⟨by decide, by decide⟩ [0, 1, 31, 82] (by decide) rfl rfl hl.1 rfl (Nat.le_of_ble_eq_true rfl) d_Lw_law_136 ⟨by show cells + 1 ≤ room_1.cells; omega, by show slots + 6 ≤ room_1.slots; omega⟩) hw [0, 1, 31, 82] [2, 3, 4, 5, 6, 7, 8, 9, 10, 11, 12, 13, 14, 15, 16, 17, 18, 19, 20, 21, 22, 23, 24, 25, 26, 27, 28, 29, 30, 32, 33, 34, 35, 36, 37, 38, 39, 40, 41, 42, 43, 44, 45, 46, 47, 48, 49, 50, 51, 52, 53, 54, 55, 56, 57, 58, 59, 60, 61, 62, 63, 64, 65, 66, 67, 68, 69, 70, 71, 72, 73, 74, 75, 76, 77, 78, 79, 80, 81] rfl rfl (by decide) (by decide) (fun r9 u9 H locs hp9 hw => ?_)
  refine b_ti (y := nI 2) hp9 ?_
  refine lv_istore (lv' := [(5, .int (nI 2)), (0, .ref b), (1, .ref x0), (2, .ref md), (3, .ref ou), (4, .int (nI i))]) hx hb d_Lw_law_139  hl (by decide) rfl (fun ls hl => ?_)
  refine lv_aload_n hx hb d_Lw_law_141 rfl (lv_at hl 3 rfl) ?_
  refine lv_aload_n hx hb d_Lw_law_142 rfl (lv_at hl 1 rfl) ?_
  refine lv_iload hx hb d_Lw_law_143 (lv_at hl 5 rfl) ?_
  refine lv_iconst (v := nI 1) hx hb d_Lw_law_145 (by decide) ?_
  refine lv_iadd hx hb d_Lw_law_146 ?_
  refine b_ti (nI_add i 1) ?_
  refine b_sld (j := i + 1) hm hX hbl hbA hw (by omega) hL d_Lw_law_147 ?_
  refine b_ti e1 ?_
  refine lv_aload_n hx hb d_Lw_law_148 rfl (lv_at hl 1 rfl) ?_
  refine lv_iload hx hb d_Lw_law_149 (lv_at hl 5 rfl) ?_
  refine lv_iconst (v := nI 2) hx hb d_Lw_law_151 (by decide) ?_
  refine lv_iadd hx hb d_Lw_law_152 ?_
  refine b_ti (nI_add i 2) ?_
  refine b_sld (j := i + 2) hm hX hbl hbA hw (by omega) hL d_Lw_law_153 ?_
  refine b_ti e2 ?_
  refine lv_aload_n hx hb d_Lw_law_154 rfl (lv_at hl 1 rfl) ?_
  refine lv_iload hx hb d_Lw_law_155 (lv_at hl 5 rfl) ?_
  refine lv_iconst (v := nI 3) hx hb d_Lw_law_157 (by decide) ?_
  refine lv_iadd hx hb d_Lw_law_158 ?_
  refine b_ti (nI_add i 3) ?_
  refine b_sld (j := i + 3) hm hX hbl hbA hw (by omega) hL d_Lw_law_159 ?_
  refine b_ti e3 ?_
  refine b_goi (wr := [(ma, .inl (k 3, 3, .inr (.inr (.inr (.inr (mAd m0 m1 m2)))))), (fa, .inl (k 4, 3, .inr (.inr (.inr (.inr (mAd f0 f1 f2)))))), (f0, .inl (k 0, 36, .inl FO)), (f1, .inl (k 0, 36, .inl (fun j => nI (FP j)))), (f2, .inl (k 0, 36, .inl (fun j => nI (FN j)))), (m0, .inr (3, [.int (nI (lr 0)), .int (nI (lp 0)), .int (nI (sc 0)), .ref (hq 0), .ref (pq 0), .ref (oq 0)])), (hq 0, .inr (2, [.ref (ha 0), .ref (hv 0), .int (nI (zz 0))])), (ha 0, .inl (k 0, 8, .inl (LF 0))), (hv 0, .inl (k 0, 8, .inl (LG 0))), (pq 0, .inr (2, [.ref (pa 0), .ref (pv 0), .int (nI (zz 0))])), (pa 0, .inl (k 0, 8, .inl (LF 0))), (pv 0, .inl (k 0, 8, .inl (LP 0))), (oq 0, .inl (k 2, 36, .inl (OU 0))), (m1, .inr (3, [.int (nI (lr 1)), .int (nI (lp 1)), .int (nI (sc 1)), .ref (hq 1), .ref (pq 1), .ref (oq 1)])), (hq 1, .inr (2, [.ref (ha 1), .ref (hv 1), .int (nI (zz 1))])), (ha 1, .inl (k 0, 8, .inl (LF 1))), (hv 1, .inl (k 0, 8, .inl (LG 1))), (pq 1, .inr (2, [.ref (pa 1), .ref (pv 1), .int (nI (zz 1))])), (pa 1, .inl (k 0, 8, .inl (LF 1))), (pv 1, .inl (k 0, 8, .inl (LP 1))), (oq 1, .inl (k 2, 36, .inl (OU 1))), (m2, .inr (3, [.int (nI (lr 2)), .int (nI (lp 2)), .int (nI (sc 2)), .ref (hq 2), .ref (pq 2), .ref (oq 2)])), (hq 2, .inr (2, [.ref (ha 2), .ref (hv 2), .int (nI (zz 2))])), (ha 2, .inl (k 0, 8, .inl (LF 2))), (hv 2, .inl (k 0, 8, .inl (LG 2))), (pq 2, .inr (2, [.ref (pa 2), .ref (pv 2), .int (nI (zz 2))])), (pa 2, .inl (k 0, 8, .inl (LF 2))), (pv 2, .inl (k 0, 8, .inl (LP 2))), (oq 2, .inl (k 2, 36, .inl (OU 2))), (se, .inl (k 0, 36, .inl SE)), (ab, .inl (k 0, 36, .inl (fun j => nI (AB j)))), (he, .inl (k 0, 288, .inl (fun j => nI (HE j)))), (po, .inl (k 0, 288, .inl (fun j => nI (PO j)))), (sx, .inl (k 0, 8, .inl (fun j => nI (SX j)))), (be, .inl (k 1, 18944, .inr (.inl (fun j => oL (BE j))))), (sa, .inr (5, [.ref rc, .int (nI n), .ref rb, .ref mr, .ref mpp, .ref af])), (rc, .inl (k 0, 512, .inl (fun j => nI (R j)))), (rb, .inl (k 0, 512, .inl (fun j => nI (RB j)))), (mr, .inl (k 0, 512, .inl (fun j => nI (MR j)))), (mpp, .inl (k 0, 512, .inl (fun j => nI (MP j)))), (af, .inl (k 0, 4096, .inl (fun j => nI (AF j)))), (rs, .inl (k 0, 36, .inl RS)), (to, .inl (k 1, 4, .inr (.inl TO))), (wt, .inr (2, [.ref wtw, .ref wtv, .int (nI wz)])), (wtw, .inl (k 0, 6, .inl WF)), (wtv, .inl (k 0, 6, .inl WG)), (bo, .inr (0, [.ref bow, .int (nI bz), .ref bov])), (bow, .inl (k 0, 36, .inl BF)), (bov, .inl (k 0, 36, .inl BG)), (za 2, .inl (k 0, 3, .inl (fun j => nI (LR j)))), (za 3, .inl (k 0, 3, .inl (fun j => nI (LQ j)))), (za 4, .inl (k 0, 3, .inl (fun j => nI (CE j)))), (za 5, .inl (k 0, 3, .inl (fun j => nI (zz j)))), (za 6, .inl (k 0, 24, .inl RO)), (za 7, .inl (k 0, 24, .inl RH)), (za 8, .inl (k 0, 24, .inl RP)), (za 9, .inl (k 0, 36, .inl FO)), (za 10, .inl (k 0, 36, .inl (fun j => nI (FP j)))), (za 11, .inl (k 0, 36, .inl (fun j => nI (FN j)))), (za 12, .inl (k 2, 108, .inl IO)), (za 14, .inl (k 0, 36, .inl RS)), (za 15, .inl (k 1, 4, .inr (.inl TO))), (za 17, .inl (k 2, 512, .inl (fun j => bI ((uTH (fV w)) j)))), (za 18, .inl (k 1, 512, .inr (.inl (fun j => lN ((uCO (fV w)) j))))), (za 19, .inl (k 0, 512, .inl (fun j => nI ((uRK (fV w)) j)))), (za 20, .inl (k 2, 512, .inl (fun j => bI ((uTX (fV w)) j)))), (za 21, .inl (k 1, 512, .inr (.inl (fun j => lN ((uCX (fV w)) j))))), (za 22, .inl (k 0, 512, .inl (fun j => nI ((uKX (fV w)) j)))), (za 23, .inl (k 0, 18432, .inl (fun j => nI ((uWY (fV w)) j)))), (za 24, .inl (k 2, 4096, .inl (fun j => bI ((uSE (fV w)) j)))), (za 25, .inl (k 0, 4096, .inl (fun j => nI ((uPL (fV w)) j)))), (za 26, .inl (k 0, 3, .inl (uHN (fV w)))), (za 27, .inl (k 0, 3, .inl (uPN (fV w)))), (za 30, .inl (k 0, 36, .inl (fun j => nI ((fPA w) j)))), (za 33, .inl (k 0, 6, .inl WF)), (za 34, .inl (k 0, 6, .inl WG)), (za 36, .inl (k 0, 36, .inl BF)), (za 37, .inl (k 0, 36, .inl BG)), (x0, .inr (6, [.ref pl, .ref ho, .ref rs, .ref to, .ref wt, .ref bo])), (ho, .inr (1, [.ref ma, .int (nI cn), .ref fa])), (pl, .inr (4, [.ref ho, .ref sa, .int (nI ov), .int (nI sta), .int (nI stl), .ref se, .ref ab, .ref he, .ref po, .ref sx, .ref be])), (ou, .inl (k 1, 1, .inr (.inl OUT)))]) (b_runV (As := [.int (nI a), .int (nI b9), .int (nI q)]) (rest := []) (q0 := 49) hm hw (cwV 3 hts (gV ut_T k_730 k_727 k_728 (k_729) k_9) rfl rfl rfl (by decide +kernel) ⟨by decide, by decide⟩) (c_Md_machine_t2 l D k _ md za th cn ov sn (fK w) (fF w) (fC w) wz bz a b9 q (by assumption) (by assumption) (by assumption) (by assumption) (by assumption) (by assumption)) [49] (by decide) rfl rfl rfl rfl hl.1 rfl (Nat.le_of_ble_eq_true rfl) d_Lw_law_160 ⟨by show cells + 1 + 0 ≤ room_1.cells; omega, by show slots + 6 + 0 ≤ room_1.slots; omega⟩) hw [49] [0, 1, 2, 3, 4, 5, 6, 7, 8, 9, 10, 11, 12, 13, 14, 15, 16, 17, 18, 19, 20, 21, 22, 23, 24, 25, 26, 27, 28, 29, 30, 31, 32, 33, 34, 35, 36, 37, 38, 39, 40, 41, 42, 43, 44, 45, 46, 47, 48, 50, 51, 52, 53, 54, 55, 56, 57, 58, 59, 60, 61, 62, 63, 64, 65, 66, 67, 68, 69, 70, 71, 72, 73, 74, 75, 76, 77, 78, 79, 80, 81, 82] rfl rfl (by decide) (by decide) (fun r8 u8 H locs hp8 hw => ?_)
  refine lv_istore (lv' := [(6, .int r8), (5, .int (nI 2)), (0, .ref b), (1, .ref x0), (2, .ref md), (3, .ref ou), (4, .int (nI i))]) hx hb d_Lw_law_163  hl (by decide) rfl (fun ls hl => ?_)
  refine lv_aload_n hx hb d_Lw_law_165 rfl (lv_at hl 4 rfl) ?_
  refine b_goiR (b_runV (As := []) (rest := []) (q0 := 82) hm hw (cwV 0 hts (gV ut_T k_726 k_723 k_724 (k_725) k_9) rfl rfl rfl (by decide +kernel) ⟨by decide, by decide⟩) (c_Md_thrown l D k _ md za 2 cn ov sn (fK w) (fF w) (fC w) wz bz) [82] (by decide) rfl rfl rfl rfl hl.1 rfl (Nat.le_of_ble_eq_true rfl) d_Lw_law_166 ⟨by show cells + 1 + 0 + 0 ≤ room_1.cells; omega, by show slots + 6 + 0 + 0 ≤ room_1.slots; omega⟩) hw [82] rfl (fun r5 u5 H locs hp5 hw => ?_)
  refine b_ti (y := nI 2) hp5 ?_
  refine lv_iload hx hb d_Lw_law_169 (lv_at hl 1 rfl) ?_
  refine lv_icmp_eq (tgt := 176) hx hb d_Lw_law_171 (by decide) (fun c_171_0 => ?_) (fun c_171_0 => ?_)
  · skip
    refine lv_iload hx hb d_Lw_law_176 (lv_at hl 1 rfl) ?_
    refine lv_if_ne (tgt := 193) hx hb d_Lw_law_178 (by decide) (fun c_178_1 => ?_) (fun c_178_1 => ?_)
    · skip
      refine lv_goto (tgt := 1147) hx hb d_Lw_law_193 (by decide) ?_
      refine W.widen (k := cells + 1) (n := slots + 6) (by show cells + 1 + 0 + 0 ≤ cells + 1; omega) (by show slots + 6 + 0 + 0 ≤ slots + 6; omega) ?_
      refine kx H locs ls (LST_mk (th := 2) (cn := cn) (ov := ov) (sta := sta) (stl := stl) (n := n) (wz := wz) (bz := bz) (sn := sn) (lr := lr) (lp := lp) (sc := sc) (zz := zz) (FP := FP) (FN := FN) (AB := AB) (HE := HE) (PO := PO) (SX := SX) (R := R) (RB := RB) (MR := MR) (MP := MP) (AF := AF) (BE := BE) (FO := FO) (SE := SE) (WF := WF) (WG := WG) (BF := BF) (BG := BG) (RS := RS) (TO := TO) (LF := LF) (LG := LG) (LP := LP) (OU := OU) (LR := LR) (LQ := LQ) (CE := CE) (RO := RO) (RH := RH) (RP := RP) (IO := IO) (w := w) (OUT := OUT) (hI := hI) (hw.sub [78, 79, 0, 1, 2, 3, 4, 5, 6, 7, 8, 9, 10, 11, 12, 13, 14, 15, 16, 17, 18, 19, 20, 21, 22, 23, 24, 25, 26, 27, 28, 80, 29, 30, 31, 32, 33, 34, 35, 36, 37, 38, 39, 40, 41, 42, 43, 44, 45, 46, 47, 48, 82, 49, 50, 51, 52, 53, 54, 55, 56, 57, 58, 59, 60, 61, 62, 63, 64, 65, 66, 67, 68, 69, 70, 71, 72, 73, 74, 75, 76, 77, 81] (by decide) rfl)) (lv_sub hl [2, 3, 4, 5, 6] rfl)
    · skip
      exact absurd c_178_1 (by decide)
  · skip
    exact absurd c_171_0 (by decide)

set_option maxHeartbeats 4000000 in
set_option maxRecDepth 100000 in
theorem L_row (h0 : LwH p l s m meth c A b L xs) (hi5 : i + 5 ≤ L) (hf : cells + 1 ≤ room_1.cells ∧ slots + 6 ≤ room_1.slots) (kx : ∀ (H : Heap) (locs : List Loc) (ls : Array Slot), LST D k A s H locs x0 ho pl rs to wt bo ma fa se ab he po sx be sa rc rb mr mpp af m0 m1 m2 f0 f1 f2 wtw wtv bow bov md ou hq ha hv pq pa pv oq za → lv_has ls 8 [(0, .ref b), (1, .ref x0), (2, .ref md), (3, .ref ou), (4, .int (nI i))] → W p l e room_1 s m #[Value.ref b] below meth c H locs (cells + 1) (slots + 6) Q (F0 m 1147 ls [])) (hI : lwI cn ov sta stl n wz bz lr lp sc zz FP FN AB HE PO SX R RB MR MP AF BE FO SE WF WG BF LF LG LP OU sn LR LQ CE RO RH RP IO w) (hw : bW (gU D k) A s H locs (LWW k x0 ho pl rs to wt bo ma fa se ab he po sx be sa rc rb mr mpp af m0 m1 m2 f0 f1 f2 wtw wtv bow bov md ou hq ha hv pq pa pv oq za th cn ov sta stl n wz bz sn lr lp sc zz FP FN AB HE PO SX R RB MR MP AF BE FO SE WF WG BF BG RS TO LF LG LP OU LR LQ CE RO RH RP IO w OUT)) (hl : lv_has ls 8 [(0, .ref b), (1, .ref x0), (2, .ref md), (3, .ref ou), (4, .int (nI i))]) {kk : Nat} (hk : kk < cn) (hv9 : (-5000) ≤ xs (i + 2) ∧ xs (i + 2) ≤ nI 5000) (hy : nI 0 ≤ xs (i + 3) ∧ xs (i + 3) ≤ nI 100000) (hq9 : nI 0 ≤ xs (i + 4) ∧ xs (i + 4) ≤ nI 100000) (hroom : lnRoom 8 (LF kk) (zz kk) (xs (i + 2))) (e1 : xs (i + 1) = nI kk) : W p l e room_1 s m #[Value.ref b] below meth c H locs cells slots Q (F0 m 196 ls []) := by
  obtain ⟨hm, hE, hX, hbl, hbA, hL, htr⟩ := h0
  have hx := hm.1
  have hb := hm.2.1
  have hown := hm.2.2.2.2.1
  have hts := hm.2.2.2.2.2.1
  have y0 : cn ≤ 3 := hI.1.1
  have y1 : ov ≤ 36 := hI.2.1.2.2.2.2.2.1
  have y2 : stl ≤ 36 := hI.2.1.2.2.2.2.2.2.1
  have y3 : ∀ j, zz j ≤ 8 := fun j => (hI.2.2.2.1.1 j).2.2
  have y4 : sn < 512 := hI.1.2.1
  have y5 : ∀ j, LR j ≤ 4 ∧ LQ j ≤ 4 := fun j => (hI.2.2.2.1.2.2.2 j).1
  have y6 : ∀ j, FN j ≤ 100000 := hI.2.1.2.1.2.2.2.2.2.1
  have y7 : ∀ j, FP j ≤ 1000 := hI.2.1.2.1.2.2.2.2.1
  have y8 : ∀ j, CE j ≤ 100000 := fun j => (hI.2.2.2.1.2.2.2 j).2
  have y9 : wz ≤ 6 := hI.2.2.2.2.2.1.2
  have y10 : bz ≤ 36 := hI.2.2.2.2.2.2.1.1
  have y11 : ∀ j, lr j ≤ 4 ∧ lp j ≤ 4 := hI.2.1.1.2.2.1
  have y12 : ∀ j, j < cn → 1 ≤ lr j ∧ 1 ≤ lp j := hI.2.1.1.2.2.2.1
  have y13 : ∀ j, sc j ≤ 100000 := hI.2.2.2.1.2.1
  have y14 : ∀ j, SX j ≤ 300000 := hI.2.1.2.1.2.2.2.1
  have y15 : bxI R RB MR MP AF := hI.2.2.1
  have y16 : ∀ j, IO j = 0 ∨ IO j = 1 := hI.2.2.2.2.1.2.2.2
  have y90 : lnRoom 8 (fun j => RO (8 * kk + j)) (zz kk) (xs (i + 2)) ↔ lnRoom 8 (LF kk) (zz kk) (xs (i + 2)) := ln_same (fun j hj => (hI.2.2.2.2.1.1 kk j (by omega) hj).1) (y3 kk)
  have y91 := y90.mpr hroom
  have y92 : zz kk ≤ 8 := y3 kk
  refine lv_aload_n hx hb d_Lw_law_196 rfl (lv_at hl 1 rfl) ?_
  refine lv_aload_n hx hb d_Lw_law_197 rfl (lv_at hl 0 rfl) ?_
  refine lv_iload hx hb d_Lw_law_198 (lv_at hl 4 rfl) ?_
  refine lv_iconst (v := nI 1) hx hb d_Lw_law_200 (by decide) ?_
  refine lv_iadd hx hb d_Lw_law_201 ?_
  refine b_ti (nI_add i 1) ?_
  refine b_sld (j := i + 1) hm hX hbl hbA hw (by omega) hL d_Lw_law_202 ?_
  refine b_ti e1 ?_
  refine lv_aload_n hx hb d_Lw_law_203 rfl (lv_at hl 0 rfl) ?_
  refine lv_iload hx hb d_Lw_law_204 (lv_at hl 4 rfl) ?_
  refine lv_iconst (v := nI 2) hx hb d_Lw_law_206 (by decide) ?_
  refine lv_iadd hx hb d_Lw_law_207 ?_
  refine b_ti (nI_add i 2) ?_
  refine b_sld (j := i + 2) hm hX hbl hbA hw (by omega) hL d_Lw_law_208 ?_
  refine lv_aload_n hx hb d_Lw_law_209 rfl (lv_at hl 0 rfl) ?_
  refine lv_iload hx hb d_Lw_law_210 (lv_at hl 4 rfl) ?_
  refine lv_iconst (v := nI 3) hx hb d_Lw_law_212 (by decide) ?_
  refine lv_iadd hx hb d_Lw_law_213 ?_
  refine b_ti (nI_add i 3) ?_
  refine b_sld (j := i + 3) hm hX hbl hbA hw (by omega) hL d_Lw_law_214 ?_
  refine lv_aload_n hx hb d_Lw_law_215 rfl (lv_at hl 0 rfl) ?_
  refine lv_iload hx hb d_Lw_law_216 (lv_at hl 4 rfl) ?_
  refine lv_iconst (v := nI 4) hx hb d_Lw_law_218 (by decide) ?_
  refine lv_iadd hx hb d_Lw_law_219 ?_
  refine b_ti (nI_add i 4) ?_
  refine b_sld (j := i + 4) hm hX hbl hbA hw (by omega) hL d_Lw_law_220 ?_
  refine lv_aload_n hx hb d_Lw_law_221 rfl (lv_at hl 3 rfl) ?_
  refine b_goi (wr := [(fa, .inl (k 4, 3, .inr (.inr (.inr (.inr (mAd f0 f1 f2)))))), (f0, .inl (k 0, 36, .inl FO)), (f1, .inl (k 0, 36, .inl (fun j => nI (FP j)))), (f2, .inl (k 0, 36, .inl (fun j => nI (FN j)))), (se, .inl (k 0, 36, .inl SE)), (ab, .inl (k 0, 36, .inl (fun j => nI (AB j)))), (he, .inl (k 0, 288, .inl (fun j => nI (HE j)))), (po, .inl (k 0, 288, .inl (fun j => nI (PO j)))), (sx, .inl (k 0, 8, .inl (fun j => nI (SX j)))), (be, .inl (k 1, 18944, .inr (.inl (fun j => oL (BE j))))), (sa, .inr (5, [.ref rc, .int (nI n), .ref rb, .ref mr, .ref mpp, .ref af])), (rc, .inl (k 0, 512, .inl (fun j => nI (R j)))), (rb, .inl (k 0, 512, .inl (fun j => nI (RB j)))), (mr, .inl (k 0, 512, .inl (fun j => nI (MR j)))), (mpp, .inl (k 0, 512, .inl (fun j => nI (MP j)))), (af, .inl (k 0, 4096, .inl (fun j => nI (AF j)))), (rs, .inl (k 0, 36, .inl RS)), (to, .inl (k 1, 4, .inr (.inl TO))), (wt, .inr (2, [.ref wtw, .ref wtv, .int (nI wz)])), (wtw, .inl (k 0, 6, .inl WF)), (wtv, .inl (k 0, 6, .inl WG)), (bo, .inr (0, [.ref bow, .int (nI bz), .ref bov])), (bow, .inl (k 0, 36, .inl BF)), (bov, .inl (k 0, 36, .inl BG)), (md, .inr (7, mdL za th cn ov sn (fK w) (fF w) (fC w) wz bz)), (za 2, .inl (k 0, 3, .inl (fun j => nI (LR j)))), (za 3, .inl (k 0, 3, .inl (fun j => nI (LQ j)))), (za 4, .inl (k 0, 3, .inl (fun j => nI (CE j)))), (za 5, .inl (k 0, 3, .inl (fun j => nI (zz j)))), (za 6, .inl (k 0, 24, .inl RO)), (za 7, .inl (k 0, 24, .inl RH)), (za 8, .inl (k 0, 24, .inl RP)), (za 9, .inl (k 0, 36, .inl FO)), (za 10, .inl (k 0, 36, .inl (fun j => nI (FP j)))), (za 11, .inl (k 0, 36, .inl (fun j => nI (FN j)))), (za 12, .inl (k 2, 108, .inl IO)), (za 14, .inl (k 0, 36, .inl RS)), (za 15, .inl (k 1, 4, .inr (.inl TO))), (za 17, .inl (k 2, 512, .inl (fun j => bI ((uTH (fV w)) j)))), (za 18, .inl (k 1, 512, .inr (.inl (fun j => lN ((uCO (fV w)) j))))), (za 19, .inl (k 0, 512, .inl (fun j => nI ((uRK (fV w)) j)))), (za 20, .inl (k 2, 512, .inl (fun j => bI ((uTX (fV w)) j)))), (za 21, .inl (k 1, 512, .inr (.inl (fun j => lN ((uCX (fV w)) j))))), (za 22, .inl (k 0, 512, .inl (fun j => nI ((uKX (fV w)) j)))), (za 23, .inl (k 0, 18432, .inl (fun j => nI ((uWY (fV w)) j)))), (za 24, .inl (k 2, 4096, .inl (fun j => bI ((uSE (fV w)) j)))), (za 25, .inl (k 0, 4096, .inl (fun j => nI ((uPL (fV w)) j)))), (za 26, .inl (k 0, 3, .inl (uHN (fV w)))), (za 27, .inl (k 0, 3, .inl (uPN (fV w)))), (za 30, .inl (k 0, 36, .inl (fun j => nI ((fPA w) j)))), (za 33, .inl (k 0, 6, .inl WF)), (za 34, .inl (k 0, 6, .inl WG)), (za 36, .inl (k 0, 36, .inl BF)), (za 37, .inl (k 0, 36, .inl BG))]) (b_runSH (n := 6) (As := [.ref x0, .int (nI kk), .int (xs (i + 2)), .int (xs (i + 3)), .int (xs (i + 4)), .ref ou]) (rest := []) hm ut_T hE hw (h_row l D k _ x0 ho pl rs to wt bo ma fa cn se ab he po sx be sa ov sta stl m0 m1 m2 lr lp sc hq ha hv pq pa pv oq zz LF LG LP OU kk (xs (i + 2)) (xs (i + 3)) (xs (i + 4)) (by assumption) (by assumption) (by assumption) (by assumption) (by assumption) (by assumption) (by assumption) (by assumption) ou OUT) k_434 k_432 k_433 k_0 ⟨by decide, by decide, by decide +kernel⟩ ⟨by decide, by decide⟩ [0, 31, 1, 2, 7, 8, 9, 10, 11, 12, 13, 14, 15, 16, 17, 18, 19, 20, 21, 22, 23, 24, 25, 26, 27, 28, 29, 30, 82] (by decide) rfl rfl hl.1 rfl (Nat.le_of_ble_eq_true rfl) d_Lw_law_222 ⟨by show cells + 0 ≤ room_1.cells; omega, by show slots + 0 ≤ room_1.slots; omega⟩) hw [0, 31, 1, 2, 7, 8, 9, 10, 11, 12, 13, 14, 15, 16, 17, 18, 19, 20, 21, 22, 23, 24, 25, 26, 27, 28, 29, 30, 82] [3, 4, 5, 6, 32, 33, 34, 35, 36, 37, 38, 39, 40, 41, 42, 43, 44, 45, 46, 47, 48, 49, 50, 51, 52, 53, 54, 55, 56, 57, 58, 59, 60, 61, 62, 63, 64, 65, 66, 67, 68, 69, 70, 71, 72, 73, 74, 75, 76, 77, 78, 79, 80, 81] rfl rfl (by decide) (by decide) (fun r9 u9 H locs hp9 hw => ?_)
  refine b_ti (y := nI 0) hp9.1 ?_
  have hp7 : u9.1 = nI (zz kk + 1) := hp9.2
  refine lv_istore (lv' := [(5, .int (nI 0)), (0, .ref b), (1, .ref x0), (2, .ref md), (3, .ref ou), (4, .int (nI i))]) hx hb d_Lw_law_225  hl (by decide) rfl (fun ls hl => ?_)
  refine lv_aload_n hx hb d_Lw_law_227 rfl (lv_at hl 3 rfl) ?_
  refine lv_aload_n hx hb d_Lw_law_228 rfl (lv_at hl 1 rfl) ?_
  refine lv_iload hx hb d_Lw_law_229 (lv_at hl 5 rfl) ?_
  refine lv_iconst (v := nI 1) hx hb d_Lw_law_231 (by decide) ?_
  refine lv_iadd hx hb d_Lw_law_232 ?_
  refine b_ti (nI_add i 1) ?_
  refine b_sld (j := i + 1) hm hX hbl hbA hw (by omega) hL d_Lw_law_233 ?_
  refine b_ti e1 ?_
  refine lv_aload_n hx hb d_Lw_law_234 rfl (lv_at hl 1 rfl) ?_
  refine lv_iload hx hb d_Lw_law_235 (lv_at hl 5 rfl) ?_
  refine lv_iconst (v := nI 2) hx hb d_Lw_law_237 (by decide) ?_
  refine lv_iadd hx hb d_Lw_law_238 ?_
  refine b_ti (nI_add i 2) ?_
  refine b_sld (j := i + 2) hm hX hbl hbA hw (by omega) hL d_Lw_law_239 ?_
  refine lv_aload_n hx hb d_Lw_law_240 rfl (lv_at hl 1 rfl) ?_
  refine lv_iload hx hb d_Lw_law_241 (lv_at hl 5 rfl) ?_
  refine lv_iconst (v := nI 3) hx hb d_Lw_law_243 (by decide) ?_
  refine lv_iadd hx hb d_Lw_law_244 ?_
  refine b_ti (nI_add i 3) ?_
  refine b_sld (j := i + 3) hm hX hbl hbA hw (by omega) hL d_Lw_law_245 ?_
  refine lv_aload_n hx hb d_Lw_law_246 rfl (lv_at hl 1 rfl) ?_
  refine lv_iload hx hb d_Lw_law_247 (lv_at hl 5 rfl) ?_
  refine lv_iconst (v := nI 4) hx hb d_Lw_law_249 (by decide) ?_
  refine lv_iadd hx hb d_Lw_law_250 ?_
  refine b_ti (nI_add i 4) ?_
  refine b_sld (j := i + 4) hm hX hbl hbA hw (by omega) hL d_Lw_law_251 ?_
  refine b_goi (wr := [(fa, .inl (k 4, 3, .inr (.inr (.inr (.inr (mAd f0 f1 f2)))))), (f0, .inl (k 0, 36, .inl FO)), (f1, .inl (k 0, 36, .inl (fun j => nI (FP j)))), (f2, .inl (k 0, 36, .inl (fun j => nI (FN j)))), (se, .inl (k 0, 36, .inl SE)), (ab, .inl (k 0, 36, .inl (fun j => nI (AB j)))), (he, .inl (k 0, 288, .inl (fun j => nI (HE j)))), (po, .inl (k 0, 288, .inl (fun j => nI (PO j)))), (sx, .inl (k 0, 8, .inl (fun j => nI (SX j)))), (be, .inl (k 1, 18944, .inr (.inl (fun j => oL (BE j))))), (sa, .inr (5, [.ref rc, .int (nI n), .ref rb, .ref mr, .ref mpp, .ref af])), (rc, .inl (k 0, 512, .inl (fun j => nI (R j)))), (rb, .inl (k 0, 512, .inl (fun j => nI (RB j)))), (mr, .inl (k 0, 512, .inl (fun j => nI (MR j)))), (mpp, .inl (k 0, 512, .inl (fun j => nI (MP j)))), (af, .inl (k 0, 4096, .inl (fun j => nI (AF j)))), (rs, .inl (k 0, 36, .inl RS)), (to, .inl (k 1, 4, .inr (.inl TO))), (wt, .inr (2, [.ref wtw, .ref wtv, .int (nI wz)])), (wtw, .inl (k 0, 6, .inl WF)), (wtv, .inl (k 0, 6, .inl WG)), (bo, .inr (0, [.ref bow, .int (nI bz), .ref bov])), (bow, .inl (k 0, 36, .inl BF)), (bov, .inl (k 0, 36, .inl BG)), (za 2, .inl (k 0, 3, .inl (fun j => nI (LR j)))), (za 3, .inl (k 0, 3, .inl (fun j => nI (LQ j)))), (za 4, .inl (k 0, 3, .inl (fun j => nI (CE j)))), (za 9, .inl (k 0, 36, .inl FO)), (za 10, .inl (k 0, 36, .inl (fun j => nI (FP j)))), (za 11, .inl (k 0, 36, .inl (fun j => nI (FN j)))), (za 12, .inl (k 2, 108, .inl IO)), (za 14, .inl (k 0, 36, .inl RS)), (za 15, .inl (k 1, 4, .inr (.inl TO))), (za 17, .inl (k 2, 512, .inl (fun j => bI ((uTH (fV w)) j)))), (za 18, .inl (k 1, 512, .inr (.inl (fun j => lN ((uCO (fV w)) j))))), (za 19, .inl (k 0, 512, .inl (fun j => nI ((uRK (fV w)) j)))), (za 20, .inl (k 2, 512, .inl (fun j => bI ((uTX (fV w)) j)))), (za 21, .inl (k 1, 512, .inr (.inl (fun j => lN ((uCX (fV w)) j))))), (za 22, .inl (k 0, 512, .inl (fun j => nI ((uKX (fV w)) j)))), (za 23, .inl (k 0, 18432, .inl (fun j => nI ((uWY (fV w)) j)))), (za 24, .inl (k 2, 4096, .inl (fun j => bI ((uSE (fV w)) j)))), (za 25, .inl (k 0, 4096, .inl (fun j => nI ((uPL (fV w)) j)))), (za 26, .inl (k 0, 3, .inl (uHN (fV w)))), (za 27, .inl (k 0, 3, .inl (uPN (fV w)))), (za 30, .inl (k 0, 36, .inl (fun j => nI ((fPA w) j)))), (za 33, .inl (k 0, 6, .inl WF)), (za 34, .inl (k 0, 6, .inl WG)), (za 36, .inl (k 0, 36, .inl BF)), (za 37, .inl (k 0, 36, .inl BG)), (x0, .inr (6, [.ref pl, .ref ho, .ref rs, .ref to, .ref wt, .ref bo])), (pl, .inr (4, [.ref ho, .ref sa, .int (nI ov), .int (nI sta), .int (nI 36), .ref se, .ref ab, .ref he, .ref po, .ref sx, .ref be])), (ho, .inr (1, [.ref ma, .int (nI cn), .ref fa])), (ma, .inl (k 3, 3, .inr (.inr (.inr (.inr (mAd m0 m1 m2)))))), (m0, .inr (3, [.int (nI (lr 0)), .int (nI (lp 0)), .int (nI (sc 0)), .ref (hq 0), .ref (pq 0), .ref (oq 0)])), (hq 0, .inr (2, [.ref (ha 0), .ref (hv 0), .int (nI (va_up zz kk (zz kk + 1) 0))])), (ha 0, .inl (k 0, 8, .inl (va_up LF kk (upd (LF kk) (zz kk) (xs (i + 2))) 0))), (hv 0, .inl (k 0, 8, .inl (va_up LG kk (upd (LG kk) (zz kk) (xs (i + 3))) 0))), (pq 0, .inr (2, [.ref (pa 0), .ref (pv 0), .int (nI (va_up zz kk (zz kk + 1) 0))])), (pa 0, .inl (k 0, 8, .inl (va_up LF kk (upd (LF kk) (zz kk) (xs (i + 2))) 0))), (pv 0, .inl (k 0, 8, .inl (va_up LP kk (upd (LP kk) (zz kk) (xs (i + 4))) 0))), (oq 0, .inl (k 2, 36, .inl (OU 0))), (m1, .inr (3, [.int (nI (lr 1)), .int (nI (lp 1)), .int (nI (sc 1)), .ref (hq 1), .ref (pq 1), .ref (oq 1)])), (hq 1, .inr (2, [.ref (ha 1), .ref (hv 1), .int (nI (va_up zz kk (zz kk + 1) 1))])), (ha 1, .inl (k 0, 8, .inl (va_up LF kk (upd (LF kk) (zz kk) (xs (i + 2))) 1))), (hv 1, .inl (k 0, 8, .inl (va_up LG kk (upd (LG kk) (zz kk) (xs (i + 3))) 1))), (pq 1, .inr (2, [.ref (pa 1), .ref (pv 1), .int (nI (va_up zz kk (zz kk + 1) 1))])), (pa 1, .inl (k 0, 8, .inl (va_up LF kk (upd (LF kk) (zz kk) (xs (i + 2))) 1))), (pv 1, .inl (k 0, 8, .inl (va_up LP kk (upd (LP kk) (zz kk) (xs (i + 4))) 1))), (oq 1, .inl (k 2, 36, .inl (OU 1))), (m2, .inr (3, [.int (nI (lr 2)), .int (nI (lp 2)), .int (nI (sc 2)), .ref (hq 2), .ref (pq 2), .ref (oq 2)])), (hq 2, .inr (2, [.ref (ha 2), .ref (hv 2), .int (nI (va_up zz kk (zz kk + 1) 2))])), (ha 2, .inl (k 0, 8, .inl (va_up LF kk (upd (LF kk) (zz kk) (xs (i + 2))) 2))), (hv 2, .inl (k 0, 8, .inl (va_up LG kk (upd (LG kk) (zz kk) (xs (i + 3))) 2))), (pq 2, .inr (2, [.ref (pa 2), .ref (pv 2), .int (nI (va_up zz kk (zz kk + 1) 2))])), (pa 2, .inl (k 0, 8, .inl (va_up LF kk (upd (LF kk) (zz kk) (xs (i + 2))) 2))), (pv 2, .inl (k 0, 8, .inl (va_up LP kk (upd (LP kk) (zz kk) (xs (i + 4))) 2))), (oq 2, .inl (k 2, 36, .inl (OU 2))), (ou, .inl (k 1, 1, .inr (.inl (vp_updL OUT 0 u9.1.toInt64))))]) (b_runV (As := [.int (nI kk), .int (xs (i + 2)), .int (xs (i + 3)), .int (xs (i + 4))]) (rest := []) (q0 := 24) hm hw (cwV 4 hts (gV ut_T k_738 k_735 k_736 (k_737) k_9) rfl rfl rfl (by decide +kernel) ⟨by decide, by decide⟩) (c_Md_row l D k _ md za th cn ov sn (fK w) (fF w) (fC w) wz bz zz RO RH RP kk (xs (i + 2)) (xs (i + 3)) (xs (i + 4)) (by assumption) (by assumption) (by assumption) (by assumption) (by assumption) (by assumption) (by assumption)) [24, 28, 29, 30, 31] (by decide) rfl rfl rfl rfl hl.1 rfl (Nat.le_of_ble_eq_true rfl) d_Lw_law_252 ⟨by show cells + 0 + 0 ≤ room_1.cells; omega, by show slots + 0 + 0 ≤ room_1.slots; omega⟩) hw [24, 28, 29, 30, 31] [0, 1, 2, 3, 4, 5, 6, 7, 8, 9, 10, 11, 12, 13, 14, 15, 16, 17, 18, 19, 20, 21, 22, 23, 25, 26, 27, 32, 33, 34, 35, 36, 37, 38, 39, 40, 41, 42, 43, 44, 45, 46, 47, 48, 49, 50, 51, 52, 53, 54, 55, 56, 57, 58, 59, 60, 61, 62, 63, 64, 65, 66, 67, 68, 69, 70, 71, 72, 73, 74, 75, 76, 77, 78, 79, 80, 81, 82] rfl rfl (by decide) (by decide) (fun r8 u8 H locs hp8 hw => ?_)
  have hp6 : r8 = nI (zz kk + 1) := hp8
  have heq : u9.1 = r8 := hp7.trans hp6.symm
  refine lv_istore (lv' := [(6, .int r8), (5, .int (nI 0)), (0, .ref b), (1, .ref x0), (2, .ref md), (3, .ref ou), (4, .int (nI i))]) hx hb d_Lw_law_255  hl (by decide) rfl (fun ls hl => ?_)
  refine lv_aload_n hx hb d_Lw_law_257 rfl (lv_at hl 4 rfl) ?_
  refine b_goiR (b_runV (As := []) (rest := []) (q0 := 78) hm hw (cwV 0 hts (gV ut_T k_726 k_723 k_724 (k_725) k_9) rfl rfl rfl (by decide +kernel) ⟨by decide, by decide⟩) (c_Md_thrown l D k _ md za 0 cn ov sn 0 (fF w) (fC w) wz bz) [78] (by decide) rfl rfl rfl rfl hl.1 rfl (Nat.le_of_ble_eq_true rfl) d_Lw_law_258 ⟨by show cells + 0 + 0 + 0 ≤ room_1.cells; omega, by show slots + 0 + 0 + 0 ≤ room_1.slots; omega⟩) hw [78] rfl (fun r5 u5 H locs hp5 hw => ?_)
  refine b_ti (y := nI 0) hp5 ?_
  refine lv_iload hx hb d_Lw_law_261 (lv_at hl 1 rfl) ?_
  refine lv_icmp_eq (tgt := 268) hx hb d_Lw_law_263 (by decide) (fun c_263_0 => ?_) (fun c_263_0 => ?_)
  · skip
    refine lv_iload hx hb d_Lw_law_268 (lv_at hl 1 rfl) ?_
    refine lv_if_ne (tgt := 285) hx hb d_Lw_law_270 (by decide) (fun c_270_1 => ?_) (fun c_270_1 => ?_)
    · skip
      exact absurd c_270_1 (by decide)
    · skip
      refine lv_aload_n hx hb d_Lw_law_273 rfl (lv_at hl 5 rfl) ?_
      refine lv_iconst (v := nI 0) hx hb d_Lw_law_274 (by decide) ?_
      refine b_lald (i := 0) hm hw 77 1 rfl rfl (by omega) (by omega) d_Lw_law_275 ?_
      refine b_tl (y := u9.1.toInt64) (updL_s _ _ _) ?_
      refine lv_iload hx hb d_Lw_law_276 (lv_at hl 0 rfl) ?_
      refine lv_i2l (v := r8.toInt64) hx hb d_Lw_law_278 rfl ?_
      refine W.lcmp hx hb d_Lw_law_279 ?_
      refine lv_if_eq (tgt := 285) hx hb d_Lw_law_280 (by decide) (fun c_280_2 => ?_) (fun c_280_2 => ?_)
      · skip
        refine lv_goto (tgt := 1147) hx hb d_Lw_law_285 (by decide) ?_
        refine W.widen (k := cells + 1) (n := slots + 6) (by show cells + 0 + 0 + 0 ≤ cells + 1; omega) (by show slots + 0 + 0 + 0 ≤ slots + 6; omega) ?_
        refine kx H locs ls (LST_mk (th := 0) (cn := cn) (ov := ov) (sta := sta) (stl := 36) (n := n) (wz := wz) (bz := bz) (sn := sn) (lr := lr) (lp := lp) (sc := sc) (zz := va_up zz kk (zz kk + 1)) (FP := FP) (FN := FN) (AB := AB) (HE := HE) (PO := PO) (SX := SX) (R := R) (RB := RB) (MR := MR) (MP := MP) (AF := AF) (BE := BE) (FO := FO) (SE := SE) (WF := WF) (WG := WG) (BF := BF) (BG := BG) (RS := RS) (TO := TO) (LF := va_up LF kk (upd (LF kk) (zz kk) (xs (i + 2)))) (LG := va_up LG kk (upd (LG kk) (zz kk) (xs (i + 3)))) (LP := va_up LP kk (upd (LP kk) (zz kk) (xs (i + 4)))) (OU := OU) (LR := LR) (LQ := LQ) (CE := CE) (RO := upd RO (8 * kk + zz kk) (xs (i + 2))) (RH := upd RH (8 * kk + zz kk) (xs (i + 3))) (RP := upd RP (8 * kk + zz kk) (xs (i + 4))) (IO := IO) (w := (w.1, w.2.1, w.2.2.1, 0, w.2.2.2.2)) (OUT := vp_updL OUT 0 u9.1.toInt64) (hI := lw_row hI hk hroom hv9 hy hq9) (hw.sub [49, 51, 52, 0, 1, 2, 3, 53, 54, 55, 56, 57, 58, 59, 60, 61, 62, 63, 64, 65, 66, 67, 68, 69, 70, 71, 72, 73, 74, 75, 76, 50, 4, 5, 6, 7, 8, 9, 10, 11, 12, 13, 14, 15, 16, 17, 18, 19, 20, 21, 22, 23, 78, 24, 25, 26, 79, 80, 81, 82, 27, 28, 29, 30, 31, 32, 33, 34, 35, 36, 37, 38, 39, 40, 41, 42, 43, 44, 45, 46, 47, 48, 77] (by decide) rfl)) (lv_sub hl [2, 3, 4, 5, 6] rfl)
      · skip
        exact absurd (lc_eq (congrArg Int32.toInt64 heq)) c_280_2
  · skip
    exact absurd c_263_0 (by decide)

set_option maxHeartbeats 4000000 in
set_option maxRecDepth 100000 in
theorem L_row_t1 (h0 : LwH p l s m meth c A b L xs) (hi5 : i + 5 ≤ L) (hf : cells + 1 ≤ room_1.cells ∧ slots + 6 ≤ room_1.slots) (kx : ∀ (H : Heap) (locs : List Loc) (ls : Array Slot), LST D k A s H locs x0 ho pl rs to wt bo ma fa se ab he po sx be sa rc rb mr mpp af m0 m1 m2 f0 f1 f2 wtw wtv bow bov md ou hq ha hv pq pa pv oq za → lv_has ls 8 [(0, .ref b), (1, .ref x0), (2, .ref md), (3, .ref ou), (4, .int (nI i))] → W p l e room_1 s m #[Value.ref b] below meth c H locs (cells + 1) (slots + 6) Q (F0 m 1147 ls [])) (hI : lwI cn ov sta stl n wz bz lr lp sc zz FP FN AB HE PO SX R RB MR MP AF BE FO SE WF WG BF LF LG LP OU sn LR LQ CE RO RH RP IO w) (hw : bW (gU D k) A s H locs (LWW k x0 ho pl rs to wt bo ma fa se ab he po sx be sa rc rb mr mpp af m0 m1 m2 f0 f1 f2 wtw wtv bow bov md ou hq ha hv pq pa pv oq za th cn ov sta stl n wz bz sn lr lp sc zz FP FN AB HE PO SX R RB MR MP AF BE FO SE WF WG BF BG RS TO LF LG LP OU LR LQ CE RO RH RP IO w OUT)) (hl : lv_has ls 8 [(0, .ref b), (1, .ref x0), (2, .ref md), (3, .ref ou), (4, .int (nI i))]) (hv9 : ¬ ((nI 0 ≤ (xs (i + 1)) ∧ (xs (i + 1)) < nI cn) ∧ ((-5000) ≤ (xs (i + 2)) ∧ (xs (i + 2)) ≤ nI 5000) ∧ (nI 0 ≤ (xs (i + 3)) ∧ (xs (i + 3)) ≤ nI 100000) ∧ (nI 0 ≤ (xs (i + 4)) ∧ (xs (i + 4)) ≤ nI 100000)))  : W p l e room_1 s m #[Value.ref b] below meth c H locs cells slots Q (F0 m 196 ls []) := by
  obtain ⟨hm, hE, hX, hbl, hbA, hL, htr⟩ := h0
  have hx := hm.1
  have hb := hm.2.1
  have hown := hm.2.2.2.2.1
  have hts := hm.2.2.2.2.2.1
  have y0 : cn ≤ 3 := hI.1.1
  have y1 : ov ≤ 36 := hI.2.1.2.2.2.2.2.1
  have y2 : stl ≤ 36 := hI.2.1.2.2.2.2.2.2.1
  have y3 : ∀ j, zz j ≤ 8 := fun j => (hI.2.2.2.1.1 j).2.2
  have y4 : sn < 512 := hI.1.2.1
  have y5 : ∀ j, LR j ≤ 4 ∧ LQ j ≤ 4 := fun j => (hI.2.2.2.1.2.2.2 j).1
  have y6 : ∀ j, FN j ≤ 100000 := hI.2.1.2.1.2.2.2.2.2.1
  have y7 : ∀ j, FP j ≤ 1000 := hI.2.1.2.1.2.2.2.2.1
  have y8 : ∀ j, CE j ≤ 100000 := fun j => (hI.2.2.2.1.2.2.2 j).2
  have y9 : wz ≤ 6 := hI.2.2.2.2.2.1.2
  have y10 : bz ≤ 36 := hI.2.2.2.2.2.2.1.1
  have y11 : ∀ j, lr j ≤ 4 ∧ lp j ≤ 4 := hI.2.1.1.2.2.1
  have y12 : ∀ j, j < cn → 1 ≤ lr j ∧ 1 ≤ lp j := hI.2.1.1.2.2.2.1
  have y13 : ∀ j, sc j ≤ 100000 := hI.2.2.2.1.2.1
  have y14 : ∀ j, SX j ≤ 300000 := hI.2.1.2.1.2.2.2.1
  have y15 : bxI R RB MR MP AF := hI.2.2.1
  have y16 : ∀ j, IO j = 0 ∨ IO j = 1 := hI.2.2.2.2.1.2.2.2
  refine lv_aload_n hx hb d_Lw_law_196 rfl (lv_at hl 1 rfl) ?_
  refine lv_aload_n hx hb d_Lw_law_197 rfl (lv_at hl 0 rfl) ?_
  refine lv_iload hx hb d_Lw_law_198 (lv_at hl 4 rfl) ?_
  refine lv_iconst (v := nI 1) hx hb d_Lw_law_200 (by decide) ?_
  refine lv_iadd hx hb d_Lw_law_201 ?_
  refine b_ti (nI_add i 1) ?_
  refine b_sld (j := i + 1) hm hX hbl hbA hw (by omega) hL d_Lw_law_202 ?_
  refine lv_aload_n hx hb d_Lw_law_203 rfl (lv_at hl 0 rfl) ?_
  refine lv_iload hx hb d_Lw_law_204 (lv_at hl 4 rfl) ?_
  refine lv_iconst (v := nI 2) hx hb d_Lw_law_206 (by decide) ?_
  refine lv_iadd hx hb d_Lw_law_207 ?_
  refine b_ti (nI_add i 2) ?_
  refine b_sld (j := i + 2) hm hX hbl hbA hw (by omega) hL d_Lw_law_208 ?_
  refine lv_aload_n hx hb d_Lw_law_209 rfl (lv_at hl 0 rfl) ?_
  refine lv_iload hx hb d_Lw_law_210 (lv_at hl 4 rfl) ?_
  refine lv_iconst (v := nI 3) hx hb d_Lw_law_212 (by decide) ?_
  refine lv_iadd hx hb d_Lw_law_213 ?_
  refine b_ti (nI_add i 3) ?_
  refine b_sld (j := i + 3) hm hX hbl hbA hw (by omega) hL d_Lw_law_214 ?_
  refine lv_aload_n hx hb d_Lw_law_215 rfl (lv_at hl 0 rfl) ?_
  refine lv_iload hx hb d_Lw_law_216 (lv_at hl 4 rfl) ?_
  refine lv_iconst (v := nI 4) hx hb d_Lw_law_218 (by decide) ?_
  refine lv_iadd hx hb d_Lw_law_219 ?_
  refine b_ti (nI_add i 4) ?_
  refine b_sld (j := i + 4) hm hX hbl hbA hw (by omega) hL d_Lw_law_220 ?_
  refine lv_aload_n hx hb d_Lw_law_221 rfl (lv_at hl 3 rfl) ?_
  refine b_goi (wr := [(ma, .inl (k 3, 3, .inr (.inr (.inr (.inr (mAd m0 m1 m2)))))), (fa, .inl (k 4, 3, .inr (.inr (.inr (.inr (mAd f0 f1 f2)))))), (f0, .inl (k 0, 36, .inl FO)), (f1, .inl (k 0, 36, .inl (fun j => nI (FP j)))), (f2, .inl (k 0, 36, .inl (fun j => nI (FN j)))), (m0, .inr (3, [.int (nI (lr 0)), .int (nI (lp 0)), .int (nI (sc 0)), .ref (hq 0), .ref (pq 0), .ref (oq 0)])), (hq 0, .inr (2, [.ref (ha 0), .ref (hv 0), .int (nI (zz 0))])), (ha 0, .inl (k 0, 8, .inl (LF 0))), (hv 0, .inl (k 0, 8, .inl (LG 0))), (pq 0, .inr (2, [.ref (pa 0), .ref (pv 0), .int (nI (zz 0))])), (pa 0, .inl (k 0, 8, .inl (LF 0))), (pv 0, .inl (k 0, 8, .inl (LP 0))), (oq 0, .inl (k 2, 36, .inl (OU 0))), (m1, .inr (3, [.int (nI (lr 1)), .int (nI (lp 1)), .int (nI (sc 1)), .ref (hq 1), .ref (pq 1), .ref (oq 1)])), (hq 1, .inr (2, [.ref (ha 1), .ref (hv 1), .int (nI (zz 1))])), (ha 1, .inl (k 0, 8, .inl (LF 1))), (hv 1, .inl (k 0, 8, .inl (LG 1))), (pq 1, .inr (2, [.ref (pa 1), .ref (pv 1), .int (nI (zz 1))])), (pa 1, .inl (k 0, 8, .inl (LF 1))), (pv 1, .inl (k 0, 8, .inl (LP 1))), (oq 1, .inl (k 2, 36, .inl (OU 1))), (m2, .inr (3, [.int (nI (lr 2)), .int (nI (lp 2)), .int (nI (sc 2)), .ref (hq 2), .ref (pq 2), .ref (oq 2)])), (hq 2, .inr (2, [.ref (ha 2), .ref (hv 2), .int (nI (zz 2))])), (ha 2, .inl (k 0, 8, .inl (LF 2))), (hv 2, .inl (k 0, 8, .inl (LG 2))), (pq 2, .inr (2, [.ref (pa 2), .ref (pv 2), .int (nI (zz 2))])), (pa 2, .inl (k 0, 8, .inl (LF 2))), (pv 2, .inl (k 0, 8, .inl (LP 2))), (oq 2, .inl (k 2, 36, .inl (OU 2))), (pl, .inr (4, [.ref ho, .ref sa, .int (nI ov), .int (nI sta), .int (nI stl), .ref se, .ref ab, .ref he, .ref po, .ref sx, .ref be])), (se, .inl (k 0, 36, .inl SE)), (ab, .inl (k 0, 36, .inl (fun j => nI (AB j)))), (he, .inl (k 0, 288, .inl (fun j => nI (HE j)))), (po, .inl (k 0, 288, .inl (fun j => nI (PO j)))), (sx, .inl (k 0, 8, .inl (fun j => nI (SX j)))), (be, .inl (k 1, 18944, .inr (.inl (fun j => oL (BE j))))), (sa, .inr (5, [.ref rc, .int (nI n), .ref rb, .ref mr, .ref mpp, .ref af])), (rc, .inl (k 0, 512, .inl (fun j => nI (R j)))), (rb, .inl (k 0, 512, .inl (fun j => nI (RB j)))), (mr, .inl (k 0, 512, .inl (fun j => nI (MR j)))), (mpp, .inl (k 0, 512, .inl (fun j => nI (MP j)))), (af, .inl (k 0, 4096, .inl (fun j => nI (AF j)))), (rs, .inl (k 0, 36, .inl RS)), (to, .inl (k 1, 4, .inr (.inl TO))), (wt, .inr (2, [.ref wtw, .ref wtv, .int (nI wz)])), (wtw, .inl (k 0, 6, .inl WF)), (wtv, .inl (k 0, 6, .inl WG)), (bo, .inr (0, [.ref bow, .int (nI bz), .ref bov])), (bow, .inl (k 0, 36, .inl BF)), (bov, .inl (k 0, 36, .inl BG)), (md, .inr (7, mdL za th cn ov sn (fK w) (fF w) (fC w) wz bz)), (za 2, .inl (k 0, 3, .inl (fun j => nI (LR j)))), (za 3, .inl (k 0, 3, .inl (fun j => nI (LQ j)))), (za 4, .inl (k 0, 3, .inl (fun j => nI (CE j)))), (za 5, .inl (k 0, 3, .inl (fun j => nI (zz j)))), (za 6, .inl (k 0, 24, .inl RO)), (za 7, .inl (k 0, 24, .inl RH)), (za 8, .inl (k 0, 24, .inl RP)), (za 9, .inl (k 0, 36, .inl FO)), (za 10, .inl (k 0, 36, .inl (fun j => nI (FP j)))), (za 11, .inl (k 0, 36, .inl (fun j => nI (FN j)))), (za 12, .inl (k 2, 108, .inl IO)), (za 14, .inl (k 0, 36, .inl RS)), (za 15, .inl (k 1, 4, .inr (.inl TO))), (za 17, .inl (k 2, 512, .inl (fun j => bI ((uTH (fV w)) j)))), (za 18, .inl (k 1, 512, .inr (.inl (fun j => lN ((uCO (fV w)) j))))), (za 19, .inl (k 0, 512, .inl (fun j => nI ((uRK (fV w)) j)))), (za 20, .inl (k 2, 512, .inl (fun j => bI ((uTX (fV w)) j)))), (za 21, .inl (k 1, 512, .inr (.inl (fun j => lN ((uCX (fV w)) j))))), (za 22, .inl (k 0, 512, .inl (fun j => nI ((uKX (fV w)) j)))), (za 23, .inl (k 0, 18432, .inl (fun j => nI ((uWY (fV w)) j)))), (za 24, .inl (k 2, 4096, .inl (fun j => bI ((uSE (fV w)) j)))), (za 25, .inl (k 0, 4096, .inl (fun j => nI ((uPL (fV w)) j)))), (za 26, .inl (k 0, 3, .inl (uHN (fV w)))), (za 27, .inl (k 0, 3, .inl (uPN (fV w)))), (za 30, .inl (k 0, 36, .inl (fun j => nI ((fPA w) j)))), (za 33, .inl (k 0, 6, .inl WF)), (za 34, .inl (k 0, 6, .inl WG)), (za 36, .inl (k 0, 36, .inl BF)), (za 37, .inl (k 0, 36, .inl BG))]) (b_runSH (n := 6) (As := [.ref x0, .int (xs (i + 1)), .int (xs (i + 2)), .int (xs (i + 3)), .int (xs (i + 4)), .ref ou]) (rest := []) hm ut_T hE hw (h_row_t1 l htr D k _ x0 ho pl rs to wt bo ma fa cn (by assumption) (xs (i + 1)) (xs (i + 2)) (xs (i + 3)) (xs (i + 4)) (by assumption) ou OUT) k_434 k_432 k_433 k_0 ⟨by decide, by decide, by decide +kernel⟩ ⟨by decide, by decide⟩ [0, 1, 82] (by decide) rfl rfl hl.1 rfl (Nat.le_of_ble_eq_true rfl) d_Lw_law_222 ⟨by show cells + 1 ≤ room_1.cells; omega, by show slots + 6 ≤ room_1.slots; omega⟩) hw [0, 1, 82] [2, 3, 4, 5, 6, 7, 8, 9, 10, 11, 12, 13, 14, 15, 16, 17, 18, 19, 20, 21, 22, 23, 24, 25, 26, 27, 28, 29, 30, 31, 32, 33, 34, 35, 36, 37, 38, 39, 40, 41, 42, 43, 44, 45, 46, 47, 48, 49, 50, 51, 52, 53, 54, 55, 56, 57, 58, 59, 60, 61, 62, 63, 64, 65, 66, 67, 68, 69, 70, 71, 72, 73, 74, 75, 76, 77, 78, 79, 80, 81] rfl rfl (by decide) (by decide) (fun r9 u9 H locs hp9 hw => ?_)
  refine b_ti (y := nI 1) hp9 ?_
  refine lv_istore (lv' := [(5, .int (nI 1)), (0, .ref b), (1, .ref x0), (2, .ref md), (3, .ref ou), (4, .int (nI i))]) hx hb d_Lw_law_225  hl (by decide) rfl (fun ls hl => ?_)
  refine lv_aload_n hx hb d_Lw_law_227 rfl (lv_at hl 3 rfl) ?_
  refine lv_aload_n hx hb d_Lw_law_228 rfl (lv_at hl 1 rfl) ?_
  refine lv_iload hx hb d_Lw_law_229 (lv_at hl 5 rfl) ?_
  refine lv_iconst (v := nI 1) hx hb d_Lw_law_231 (by decide) ?_
  refine lv_iadd hx hb d_Lw_law_232 ?_
  refine b_ti (nI_add i 1) ?_
  refine b_sld (j := i + 1) hm hX hbl hbA hw (by omega) hL d_Lw_law_233 ?_
  refine lv_aload_n hx hb d_Lw_law_234 rfl (lv_at hl 1 rfl) ?_
  refine lv_iload hx hb d_Lw_law_235 (lv_at hl 5 rfl) ?_
  refine lv_iconst (v := nI 2) hx hb d_Lw_law_237 (by decide) ?_
  refine lv_iadd hx hb d_Lw_law_238 ?_
  refine b_ti (nI_add i 2) ?_
  refine b_sld (j := i + 2) hm hX hbl hbA hw (by omega) hL d_Lw_law_239 ?_
  refine lv_aload_n hx hb d_Lw_law_240 rfl (lv_at hl 1 rfl) ?_
  refine lv_iload hx hb d_Lw_law_241 (lv_at hl 5 rfl) ?_
  refine lv_iconst (v := nI 3) hx hb d_Lw_law_243 (by decide) ?_
  refine lv_iadd hx hb d_Lw_law_244 ?_
  refine b_ti (nI_add i 3) ?_
  refine b_sld (j := i + 3) hm hX hbl hbA hw (by omega) hL d_Lw_law_245 ?_
  refine lv_aload_n hx hb d_Lw_law_246 rfl (lv_at hl 1 rfl) ?_
  refine lv_iload hx hb d_Lw_law_247 (lv_at hl 5 rfl) ?_
  refine lv_iconst (v := nI 4) hx hb d_Lw_law_249 (by decide) ?_
  refine lv_iadd hx hb d_Lw_law_250 ?_
  refine b_ti (nI_add i 4) ?_
  refine b_sld (j := i + 4) hm hX hbl hbA hw (by omega) hL d_Lw_law_251 ?_
  refine b_goi (wr := [(ma, .inl (k 3, 3, .inr (.inr (.inr (.inr (mAd m0 m1 m2)))))), (fa, .inl (k 4, 3, .inr (.inr (.inr (.inr (mAd f0 f1 f2)))))), (f0, .inl (k 0, 36, .inl FO)), (f1, .inl (k 0, 36, .inl (fun j => nI (FP j)))), (f2, .inl (k 0, 36, .inl (fun j => nI (FN j)))), (m0, .inr (3, [.int (nI (lr 0)), .int (nI (lp 0)), .int (nI (sc 0)), .ref (hq 0), .ref (pq 0), .ref (oq 0)])), (hq 0, .inr (2, [.ref (ha 0), .ref (hv 0), .int (nI (zz 0))])), (ha 0, .inl (k 0, 8, .inl (LF 0))), (hv 0, .inl (k 0, 8, .inl (LG 0))), (pq 0, .inr (2, [.ref (pa 0), .ref (pv 0), .int (nI (zz 0))])), (pa 0, .inl (k 0, 8, .inl (LF 0))), (pv 0, .inl (k 0, 8, .inl (LP 0))), (oq 0, .inl (k 2, 36, .inl (OU 0))), (m1, .inr (3, [.int (nI (lr 1)), .int (nI (lp 1)), .int (nI (sc 1)), .ref (hq 1), .ref (pq 1), .ref (oq 1)])), (hq 1, .inr (2, [.ref (ha 1), .ref (hv 1), .int (nI (zz 1))])), (ha 1, .inl (k 0, 8, .inl (LF 1))), (hv 1, .inl (k 0, 8, .inl (LG 1))), (pq 1, .inr (2, [.ref (pa 1), .ref (pv 1), .int (nI (zz 1))])), (pa 1, .inl (k 0, 8, .inl (LF 1))), (pv 1, .inl (k 0, 8, .inl (LP 1))), (oq 1, .inl (k 2, 36, .inl (OU 1))), (m2, .inr (3, [.int (nI (lr 2)), .int (nI (lp 2)), .int (nI (sc 2)), .ref (hq 2), .ref (pq 2), .ref (oq 2)])), (hq 2, .inr (2, [.ref (ha 2), .ref (hv 2), .int (nI (zz 2))])), (ha 2, .inl (k 0, 8, .inl (LF 2))), (hv 2, .inl (k 0, 8, .inl (LG 2))), (pq 2, .inr (2, [.ref (pa 2), .ref (pv 2), .int (nI (zz 2))])), (pa 2, .inl (k 0, 8, .inl (LF 2))), (pv 2, .inl (k 0, 8, .inl (LP 2))), (oq 2, .inl (k 2, 36, .inl (OU 2))), (pl, .inr (4, [.ref ho, .ref sa, .int (nI ov), .int (nI sta), .int (nI stl), .ref se, .ref ab, .ref he, .ref po, .ref sx, .ref be])), (se, .inl (k 0, 36, .inl SE)), (ab, .inl (k 0, 36, .inl (fun j => nI (AB j)))), (he, .inl (k 0, 288, .inl (fun j => nI (HE j)))), (po, .inl (k 0, 288, .inl (fun j => nI (PO j)))), (sx, .inl (k 0, 8, .inl (fun j => nI (SX j)))), (be, .inl (k 1, 18944, .inr (.inl (fun j => oL (BE j))))), (sa, .inr (5, [.ref rc, .int (nI n), .ref rb, .ref mr, .ref mpp, .ref af])), (rc, .inl (k 0, 512, .inl (fun j => nI (R j)))), (rb, .inl (k 0, 512, .inl (fun j => nI (RB j)))), (mr, .inl (k 0, 512, .inl (fun j => nI (MR j)))), (mpp, .inl (k 0, 512, .inl (fun j => nI (MP j)))), (af, .inl (k 0, 4096, .inl (fun j => nI (AF j)))), (rs, .inl (k 0, 36, .inl RS)), (to, .inl (k 1, 4, .inr (.inl TO))), (wt, .inr (2, [.ref wtw, .ref wtv, .int (nI wz)])), (wtw, .inl (k 0, 6, .inl WF)), (wtv, .inl (k 0, 6, .inl WG)), (bo, .inr (0, [.ref bow, .int (nI bz), .ref bov])), (bow, .inl (k 0, 36, .inl BF)), (bov, .inl (k 0, 36, .inl BG)), (za 2, .inl (k 0, 3, .inl (fun j => nI (LR j)))), (za 3, .inl (k 0, 3, .inl (fun j => nI (LQ j)))), (za 4, .inl (k 0, 3, .inl (fun j => nI (CE j)))), (za 5, .inl (k 0, 3, .inl (fun j => nI (zz j)))), (za 6, .inl (k 0, 24, .inl RO)), (za 7, .inl (k 0, 24, .inl RH)), (za 8, .inl (k 0, 24, .inl RP)), (za 9, .inl (k 0, 36, .inl FO)), (za 10, .inl (k 0, 36, .inl (fun j => nI (FP j)))), (za 11, .inl (k 0, 36, .inl (fun j => nI (FN j)))), (za 12, .inl (k 2, 108, .inl IO)), (za 14, .inl (k 0, 36, .inl RS)), (za 15, .inl (k 1, 4, .inr (.inl TO))), (za 17, .inl (k 2, 512, .inl (fun j => bI ((uTH (fV w)) j)))), (za 18, .inl (k 1, 512, .inr (.inl (fun j => lN ((uCO (fV w)) j))))), (za 19, .inl (k 0, 512, .inl (fun j => nI ((uRK (fV w)) j)))), (za 20, .inl (k 2, 512, .inl (fun j => bI ((uTX (fV w)) j)))), (za 21, .inl (k 1, 512, .inr (.inl (fun j => lN ((uCX (fV w)) j))))), (za 22, .inl (k 0, 512, .inl (fun j => nI ((uKX (fV w)) j)))), (za 23, .inl (k 0, 18432, .inl (fun j => nI ((uWY (fV w)) j)))), (za 24, .inl (k 2, 4096, .inl (fun j => bI ((uSE (fV w)) j)))), (za 25, .inl (k 0, 4096, .inl (fun j => nI ((uPL (fV w)) j)))), (za 26, .inl (k 0, 3, .inl (uHN (fV w)))), (za 27, .inl (k 0, 3, .inl (uPN (fV w)))), (za 30, .inl (k 0, 36, .inl (fun j => nI ((fPA w) j)))), (za 33, .inl (k 0, 6, .inl WF)), (za 34, .inl (k 0, 6, .inl WG)), (za 36, .inl (k 0, 36, .inl BF)), (za 37, .inl (k 0, 36, .inl BG)), (x0, .inr (6, [.ref pl, .ref ho, .ref rs, .ref to, .ref wt, .ref bo])), (ho, .inr (1, [.ref ma, .int (nI cn), .ref fa])), (ou, .inl (k 1, 1, .inr (.inl OUT)))]) (b_runV (As := [.int (xs (i + 1)), .int (xs (i + 2)), .int (xs (i + 3)), .int (xs (i + 4))]) (rest := []) (q0 := 50) hm hw (cwV 4 hts (gV ut_T k_738 k_735 k_736 (k_737) k_9) rfl rfl rfl (by decide +kernel) ⟨by decide, by decide⟩) (c_Md_row_t1 l D k _ md za th cn ov sn (fK w) (fF w) (fC w) wz bz (xs (i + 1)) (xs (i + 2)) (xs (i + 3)) (xs (i + 4)) (by assumption)) [50] (by decide) rfl rfl rfl rfl hl.1 rfl (Nat.le_of_ble_eq_true rfl) d_Lw_law_252 ⟨by show cells + 1 + 0 ≤ room_1.cells; omega, by show slots + 6 + 0 ≤ room_1.slots; omega⟩) hw [50] [0, 1, 2, 3, 4, 5, 6, 7, 8, 9, 10, 11, 12, 13, 14, 15, 16, 17, 18, 19, 20, 21, 22, 23, 24, 25, 26, 27, 28, 29, 30, 31, 32, 33, 34, 35, 36, 37, 38, 39, 40, 41, 42, 43, 44, 45, 46, 47, 48, 49, 51, 52, 53, 54, 55, 56, 57, 58, 59, 60, 61, 62, 63, 64, 65, 66, 67, 68, 69, 70, 71, 72, 73, 74, 75, 76, 77, 78, 79, 80, 81, 82] rfl rfl (by decide) (by decide) (fun r8 u8 H locs hp8 hw => ?_)
  refine lv_istore (lv' := [(6, .int r8), (5, .int (nI 1)), (0, .ref b), (1, .ref x0), (2, .ref md), (3, .ref ou), (4, .int (nI i))]) hx hb d_Lw_law_255  hl (by decide) rfl (fun ls hl => ?_)
  refine lv_aload_n hx hb d_Lw_law_257 rfl (lv_at hl 4 rfl) ?_
  refine b_goiR (b_runV (As := []) (rest := []) (q0 := 82) hm hw (cwV 0 hts (gV ut_T k_726 k_723 k_724 (k_725) k_9) rfl rfl rfl (by decide +kernel) ⟨by decide, by decide⟩) (c_Md_thrown l D k _ md za 1 cn ov sn (fK w) (fF w) (fC w) wz bz) [82] (by decide) rfl rfl rfl rfl hl.1 rfl (Nat.le_of_ble_eq_true rfl) d_Lw_law_258 ⟨by show cells + 1 + 0 + 0 ≤ room_1.cells; omega, by show slots + 6 + 0 + 0 ≤ room_1.slots; omega⟩) hw [82] rfl (fun r5 u5 H locs hp5 hw => ?_)
  refine b_ti (y := nI 1) hp5 ?_
  refine lv_iload hx hb d_Lw_law_261 (lv_at hl 1 rfl) ?_
  refine lv_icmp_eq (tgt := 268) hx hb d_Lw_law_263 (by decide) (fun c_263_0 => ?_) (fun c_263_0 => ?_)
  · skip
    refine lv_iload hx hb d_Lw_law_268 (lv_at hl 1 rfl) ?_
    refine lv_if_ne (tgt := 285) hx hb d_Lw_law_270 (by decide) (fun c_270_1 => ?_) (fun c_270_1 => ?_)
    · skip
      refine lv_goto (tgt := 1147) hx hb d_Lw_law_285 (by decide) ?_
      refine W.widen (k := cells + 1) (n := slots + 6) (by show cells + 1 + 0 + 0 ≤ cells + 1; omega) (by show slots + 6 + 0 + 0 ≤ slots + 6; omega) ?_
      refine kx H locs ls (LST_mk (th := 1) (cn := cn) (ov := ov) (sta := sta) (stl := stl) (n := n) (wz := wz) (bz := bz) (sn := sn) (lr := lr) (lp := lp) (sc := sc) (zz := zz) (FP := FP) (FN := FN) (AB := AB) (HE := HE) (PO := PO) (SX := SX) (R := R) (RB := RB) (MR := MR) (MP := MP) (AF := AF) (BE := BE) (FO := FO) (SE := SE) (WF := WF) (WG := WG) (BF := BF) (BG := BG) (RS := RS) (TO := TO) (LF := LF) (LG := LG) (LP := LP) (OU := OU) (LR := LR) (LQ := LQ) (CE := CE) (RO := RO) (RH := RH) (RP := RP) (IO := IO) (w := w) (OUT := OUT) (hI := hI) (hw.sub [79, 80, 0, 1, 2, 3, 4, 5, 6, 7, 8, 9, 10, 11, 12, 13, 14, 15, 16, 17, 18, 19, 20, 21, 22, 23, 24, 25, 26, 27, 28, 29, 30, 31, 32, 33, 34, 35, 36, 37, 38, 39, 40, 41, 42, 43, 44, 45, 46, 47, 48, 49, 82, 50, 51, 52, 53, 54, 55, 56, 57, 58, 59, 60, 61, 62, 63, 64, 65, 66, 67, 68, 69, 70, 71, 72, 73, 74, 75, 76, 77, 78, 81] (by decide) rfl)) (lv_sub hl [2, 3, 4, 5, 6] rfl)
    · skip
      exact absurd c_270_1 (by decide)
  · skip
    exact absurd c_263_0 (by decide)

set_option maxHeartbeats 4000000 in
set_option maxRecDepth 100000 in
theorem L_row_t2 (h0 : LwH p l s m meth c A b L xs) (hi5 : i + 5 ≤ L) (hf : cells + 1 ≤ room_1.cells ∧ slots + 6 ≤ room_1.slots) (kx : ∀ (H : Heap) (locs : List Loc) (ls : Array Slot), LST D k A s H locs x0 ho pl rs to wt bo ma fa se ab he po sx be sa rc rb mr mpp af m0 m1 m2 f0 f1 f2 wtw wtv bow bov md ou hq ha hv pq pa pv oq za → lv_has ls 8 [(0, .ref b), (1, .ref x0), (2, .ref md), (3, .ref ou), (4, .int (nI i))] → W p l e room_1 s m #[Value.ref b] below meth c H locs (cells + 1) (slots + 6) Q (F0 m 1147 ls [])) (hI : lwI cn ov sta stl n wz bz lr lp sc zz FP FN AB HE PO SX R RB MR MP AF BE FO SE WF WG BF LF LG LP OU sn LR LQ CE RO RH RP IO w) (hw : bW (gU D k) A s H locs (LWW k x0 ho pl rs to wt bo ma fa se ab he po sx be sa rc rb mr mpp af m0 m1 m2 f0 f1 f2 wtw wtv bow bov md ou hq ha hv pq pa pv oq za th cn ov sta stl n wz bz sn lr lp sc zz FP FN AB HE PO SX R RB MR MP AF BE FO SE WF WG BF BG RS TO LF LG LP OU LR LQ CE RO RH RP IO w OUT)) (hl : lv_has ls 8 [(0, .ref b), (1, .ref x0), (2, .ref md), (3, .ref ou), (4, .int (nI i))]) {kk : Nat} (hk : kk < cn) (hv9 : (-5000) ≤ xs (i + 2) ∧ xs (i + 2) ≤ nI 5000) (hy : nI 0 ≤ xs (i + 3) ∧ xs (i + 3) ≤ nI 100000) (hq9 : nI 0 ≤ xs (i + 4) ∧ xs (i + 4) ≤ nI 100000) (hs9 : ¬ lnRoom 8 (LF kk) (zz kk) (xs (i + 2))) (e1 : xs (i + 1) = nI kk) : W p l e room_1 s m #[Value.ref b] below meth c H locs cells slots Q (F0 m 196 ls []) := by
  obtain ⟨hm, hE, hX, hbl, hbA, hL, htr⟩ := h0
  have hx := hm.1
  have hb := hm.2.1
  have hown := hm.2.2.2.2.1
  have hts := hm.2.2.2.2.2.1
  have y0 : cn ≤ 3 := hI.1.1
  have y1 : ov ≤ 36 := hI.2.1.2.2.2.2.2.1
  have y2 : stl ≤ 36 := hI.2.1.2.2.2.2.2.2.1
  have y3 : ∀ j, zz j ≤ 8 := fun j => (hI.2.2.2.1.1 j).2.2
  have y4 : sn < 512 := hI.1.2.1
  have y5 : ∀ j, LR j ≤ 4 ∧ LQ j ≤ 4 := fun j => (hI.2.2.2.1.2.2.2 j).1
  have y6 : ∀ j, FN j ≤ 100000 := hI.2.1.2.1.2.2.2.2.2.1
  have y7 : ∀ j, FP j ≤ 1000 := hI.2.1.2.1.2.2.2.2.1
  have y8 : ∀ j, CE j ≤ 100000 := fun j => (hI.2.2.2.1.2.2.2 j).2
  have y9 : wz ≤ 6 := hI.2.2.2.2.2.1.2
  have y10 : bz ≤ 36 := hI.2.2.2.2.2.2.1.1
  have y11 : ∀ j, lr j ≤ 4 ∧ lp j ≤ 4 := hI.2.1.1.2.2.1
  have y12 : ∀ j, j < cn → 1 ≤ lr j ∧ 1 ≤ lp j := hI.2.1.1.2.2.2.1
  have y13 : ∀ j, sc j ≤ 100000 := hI.2.2.2.1.2.1
  have y14 : ∀ j, SX j ≤ 300000 := hI.2.1.2.1.2.2.2.1
  have y15 : bxI R RB MR MP AF := hI.2.2.1
  have y16 : ∀ j, IO j = 0 ∨ IO j = 1 := hI.2.2.2.2.1.2.2.2
  have y90 : lnRoom 8 (fun j => RO (8 * kk + j)) (zz kk) (xs (i + 2)) ↔ lnRoom 8 (LF kk) (zz kk) (xs (i + 2)) := ln_same (fun j hj => (hI.2.2.2.2.1.1 kk j (by omega) hj).1) (y3 kk)
  have y91 := fun z => hs9 (y90.mp z)
  have y92 : zz kk ≤ 8 := y3 kk
  refine lv_aload_n hx hb d_Lw_law_196 rfl (lv_at hl 1 rfl) ?_
  refine lv_aload_n hx hb d_Lw_law_197 rfl (lv_at hl 0 rfl) ?_
  refine lv_iload hx hb d_Lw_law_198 (lv_at hl 4 rfl) ?_
  refine lv_iconst (v := nI 1) hx hb d_Lw_law_200 (by decide) ?_
  refine lv_iadd hx hb d_Lw_law_201 ?_
  refine b_ti (nI_add i 1) ?_
  refine b_sld (j := i + 1) hm hX hbl hbA hw (by omega) hL d_Lw_law_202 ?_
  refine b_ti e1 ?_
  refine lv_aload_n hx hb d_Lw_law_203 rfl (lv_at hl 0 rfl) ?_
  refine lv_iload hx hb d_Lw_law_204 (lv_at hl 4 rfl) ?_
  refine lv_iconst (v := nI 2) hx hb d_Lw_law_206 (by decide) ?_
  refine lv_iadd hx hb d_Lw_law_207 ?_
  refine b_ti (nI_add i 2) ?_
  refine b_sld (j := i + 2) hm hX hbl hbA hw (by omega) hL d_Lw_law_208 ?_
  refine lv_aload_n hx hb d_Lw_law_209 rfl (lv_at hl 0 rfl) ?_
  refine lv_iload hx hb d_Lw_law_210 (lv_at hl 4 rfl) ?_
  refine lv_iconst (v := nI 3) hx hb d_Lw_law_212 (by decide) ?_
  refine lv_iadd hx hb d_Lw_law_213 ?_
  refine b_ti (nI_add i 3) ?_
  refine b_sld (j := i + 3) hm hX hbl hbA hw (by omega) hL d_Lw_law_214 ?_
  refine lv_aload_n hx hb d_Lw_law_215 rfl (lv_at hl 0 rfl) ?_
  refine lv_iload hx hb d_Lw_law_216 (lv_at hl 4 rfl) ?_
  refine lv_iconst (v := nI 4) hx hb d_Lw_law_218 (by decide) ?_
  refine lv_iadd hx hb d_Lw_law_219 ?_
  refine b_ti (nI_add i 4) ?_
  refine b_sld (j := i + 4) hm hX hbl hbA hw (by omega) hL d_Lw_law_220 ?_
  refine lv_aload_n hx hb d_Lw_law_221 rfl (lv_at hl 3 rfl) ?_
  refine b_goi (wr := [(fa, .inl (k 4, 3, .inr (.inr (.inr (.inr (mAd f0 f1 f2)))))), (f0, .inl (k 0, 36, .inl FO)), (f1, .inl (k 0, 36, .inl (fun j => nI (FP j)))), (f2, .inl (k 0, 36, .inl (fun j => nI (FN j)))), (pl, .inr (4, [.ref ho, .ref sa, .int (nI ov), .int (nI sta), .int (nI stl), .ref se, .ref ab, .ref he, .ref po, .ref sx, .ref be])), (se, .inl (k 0, 36, .inl SE)), (ab, .inl (k 0, 36, .inl (fun j => nI (AB j)))), (he, .inl (k 0, 288, .inl (fun j => nI (HE j)))), (po, .inl (k 0, 288, .inl (fun j => nI (PO j)))), (sx, .inl (k 0, 8, .inl (fun j => nI (SX j)))), (be, .inl (k 1, 18944, .inr (.inl (fun j => oL (BE j))))), (sa, .inr (5, [.ref rc, .int (nI n), .ref rb, .ref mr, .ref mpp, .ref af])), (rc, .inl (k 0, 512, .inl (fun j => nI (R j)))), (rb, .inl (k 0, 512, .inl (fun j => nI (RB j)))), (mr, .inl (k 0, 512, .inl (fun j => nI (MR j)))), (mpp, .inl (k 0, 512, .inl (fun j => nI (MP j)))), (af, .inl (k 0, 4096, .inl (fun j => nI (AF j)))), (rs, .inl (k 0, 36, .inl RS)), (to, .inl (k 1, 4, .inr (.inl TO))), (wt, .inr (2, [.ref wtw, .ref wtv, .int (nI wz)])), (wtw, .inl (k 0, 6, .inl WF)), (wtv, .inl (k 0, 6, .inl WG)), (bo, .inr (0, [.ref bow, .int (nI bz), .ref bov])), (bow, .inl (k 0, 36, .inl BF)), (bov, .inl (k 0, 36, .inl BG)), (md, .inr (7, mdL za th cn ov sn (fK w) (fF w) (fC w) wz bz)), (za 2, .inl (k 0, 3, .inl (fun j => nI (LR j)))), (za 3, .inl (k 0, 3, .inl (fun j => nI (LQ j)))), (za 4, .inl (k 0, 3, .inl (fun j => nI (CE j)))), (za 5, .inl (k 0, 3, .inl (fun j => nI (zz j)))), (za 6, .inl (k 0, 24, .inl RO)), (za 7, .inl (k 0, 24, .inl RH)), (za 8, .inl (k 0, 24, .inl RP)), (za 9, .inl (k 0, 36, .inl FO)), (za 10, .inl (k 0, 36, .inl (fun j => nI (FP j)))), (za 11, .inl (k 0, 36, .inl (fun j => nI (FN j)))), (za 12, .inl (k 2, 108, .inl IO)), (za 14, .inl (k 0, 36, .inl RS)), (za 15, .inl (k 1, 4, .inr (.inl TO))), (za 17, .inl (k 2, 512, .inl (fun j => bI ((uTH (fV w)) j)))), (za 18, .inl (k 1, 512, .inr (.inl (fun j => lN ((uCO (fV w)) j))))), (za 19, .inl (k 0, 512, .inl (fun j => nI ((uRK (fV w)) j)))), (za 20, .inl (k 2, 512, .inl (fun j => bI ((uTX (fV w)) j)))), (za 21, .inl (k 1, 512, .inr (.inl (fun j => lN ((uCX (fV w)) j))))), (za 22, .inl (k 0, 512, .inl (fun j => nI ((uKX (fV w)) j)))), (za 23, .inl (k 0, 18432, .inl (fun j => nI ((uWY (fV w)) j)))), (za 24, .inl (k 2, 4096, .inl (fun j => bI ((uSE (fV w)) j)))), (za 25, .inl (k 0, 4096, .inl (fun j => nI ((uPL (fV w)) j)))), (za 26, .inl (k 0, 3, .inl (uHN (fV w)))), (za 27, .inl (k 0, 3, .inl (uPN (fV w)))), (za 30, .inl (k 0, 36, .inl (fun j => nI ((fPA w) j)))), (za 33, .inl (k 0, 6, .inl WF)), (za 34, .inl (k 0, 6, .inl WG)), (za 36, .inl (k 0, 36, .inl BF)), (za 37, .inl (k 0, 36, .inl BG))]) (b_runSH (n := 6) (As := [.ref x0, .int (nI kk), .int (xs (i + 2)), .int (xs (i + 3)), .int (xs (i + 4)), .ref ou]) (rest := []) hm ut_T hE hw (h_row_t2 l htr D k _ x0 ho pl rs to wt bo ma fa cn m0 m1 m2 lr lp sc hq ha hv pq pa pv oq zz LF LG LP OU kk (xs (i + 2)) (xs (i + 3)) (xs (i + 4)) (by assumption) (by assumption) (by assumption) (by assumption) (by assumption) (by assumption) (by assumption) ou OUT) k_434 k_432 k_433 k_0 ⟨by decide, by decide, by decide +kernel⟩ ⟨by decide, by decide⟩ [0, 1, 2, 7, 8, 9, 10, 11, 12, 13, 14, 15, 16, 17, 18, 19, 20, 21, 22, 23, 24, 25, 26, 27, 28, 29, 30, 82] (by decide) rfl rfl hl.1 rfl (Nat.le_of_ble_eq_true rfl) d_Lw_law_222 ⟨by show cells + 1 ≤ room_1.cells; omega, by show slots + 6 ≤ room_1.slots; omega⟩) hw [0, 1, 2, 7, 8, 9, 10, 11, 12, 13, 14, 15, 16, 17, 18, 19, 20, 21, 22, 23, 24, 25, 26, 27, 28, 29, 30, 82] [3, 4, 5, 6, 31, 32, 33, 34, 35, 36, 37, 38, 39, 40, 41, 42, 43, 44, 45, 46, 47, 48, 49, 50, 51, 52, 53, 54, 55, 56, 57, 58, 59, 60, 61, 62, 63, 64, 65, 66, 67, 68, 69, 70, 71, 72, 73, 74, 75, 76, 77, 78, 79, 80, 81] rfl rfl (by decide) (by decide) (fun r9 u9 H locs hp9 hw => ?_)
  refine b_ti (y := nI 2) hp9 ?_
  refine lv_istore (lv' := [(5, .int (nI 2)), (0, .ref b), (1, .ref x0), (2, .ref md), (3, .ref ou), (4, .int (nI i))]) hx hb d_Lw_law_225  hl (by decide) rfl (fun ls hl => ?_)
  refine lv_aload_n hx hb d_Lw_law_227 rfl (lv_at hl 3 rfl) ?_
  refine lv_aload_n hx hb d_Lw_law_228 rfl (lv_at hl 1 rfl) ?_
  refine lv_iload hx hb d_Lw_law_229 (lv_at hl 5 rfl) ?_
  refine lv_iconst (v := nI 1) hx hb d_Lw_law_231 (by decide) ?_
  refine lv_iadd hx hb d_Lw_law_232 ?_
  refine b_ti (nI_add i 1) ?_
  refine b_sld (j := i + 1) hm hX hbl hbA hw (by omega) hL d_Lw_law_233 ?_
  refine b_ti e1 ?_
  refine lv_aload_n hx hb d_Lw_law_234 rfl (lv_at hl 1 rfl) ?_
  refine lv_iload hx hb d_Lw_law_235 (lv_at hl 5 rfl) ?_
  refine lv_iconst (v := nI 2) hx hb d_Lw_law_237 (by decide) ?_
  refine lv_iadd hx hb d_Lw_law_238 ?_
  refine b_ti (nI_add i 2) ?_
  refine b_sld (j := i + 2) hm hX hbl hbA hw (by omega) hL d_Lw_law_239 ?_
  refine lv_aload_n hx hb d_Lw_law_240 rfl (lv_at hl 1 rfl) ?_
  refine lv_iload hx hb d_Lw_law_241 (lv_at hl 5 rfl) ?_
  refine lv_iconst (v := nI 3) hx hb d_Lw_law_243 (by decide) ?_
  refine lv_iadd hx hb d_Lw_law_244 ?_
  refine b_ti (nI_add i 3) ?_
  refine b_sld (j := i + 3) hm hX hbl hbA hw (by omega) hL d_Lw_law_245 ?_
  refine lv_aload_n hx hb d_Lw_law_246 rfl (lv_at hl 1 rfl) ?_
  refine lv_iload hx hb d_Lw_law_247 (lv_at hl 5 rfl) ?_
  refine lv_iconst (v := nI 4) hx hb d_Lw_law_249 (by decide) ?_
  refine lv_iadd hx hb d_Lw_law_250 ?_
  refine b_ti (nI_add i 4) ?_
  refine b_sld (j := i + 4) hm hX hbl hbA hw (by omega) hL d_Lw_law_251 ?_
  refine b_goi (wr := [(fa, .inl (k 4, 3, .inr (.inr (.inr (.inr (mAd f0 f1 f2)))))), (f0, .inl (k 0, 36, .inl FO)), (f1, .inl (k 0, 36, .inl (fun j => nI (FP j)))), (f2, .inl (k 0, 36, .inl (fun j => nI (FN j)))), (pl, .inr (4, [.ref ho, .ref sa, .int (nI ov), .int (nI sta), .int (nI stl), .ref se, .ref ab, .ref he, .ref po, .ref sx, .ref be])), (se, .inl (k 0, 36, .inl SE)), (ab, .inl (k 0, 36, .inl (fun j => nI (AB j)))), (he, .inl (k 0, 288, .inl (fun j => nI (HE j)))), (po, .inl (k 0, 288, .inl (fun j => nI (PO j)))), (sx, .inl (k 0, 8, .inl (fun j => nI (SX j)))), (be, .inl (k 1, 18944, .inr (.inl (fun j => oL (BE j))))), (sa, .inr (5, [.ref rc, .int (nI n), .ref rb, .ref mr, .ref mpp, .ref af])), (rc, .inl (k 0, 512, .inl (fun j => nI (R j)))), (rb, .inl (k 0, 512, .inl (fun j => nI (RB j)))), (mr, .inl (k 0, 512, .inl (fun j => nI (MR j)))), (mpp, .inl (k 0, 512, .inl (fun j => nI (MP j)))), (af, .inl (k 0, 4096, .inl (fun j => nI (AF j)))), (rs, .inl (k 0, 36, .inl RS)), (to, .inl (k 1, 4, .inr (.inl TO))), (wt, .inr (2, [.ref wtw, .ref wtv, .int (nI wz)])), (wtw, .inl (k 0, 6, .inl WF)), (wtv, .inl (k 0, 6, .inl WG)), (bo, .inr (0, [.ref bow, .int (nI bz), .ref bov])), (bow, .inl (k 0, 36, .inl BF)), (bov, .inl (k 0, 36, .inl BG)), (za 2, .inl (k 0, 3, .inl (fun j => nI (LR j)))), (za 3, .inl (k 0, 3, .inl (fun j => nI (LQ j)))), (za 4, .inl (k 0, 3, .inl (fun j => nI (CE j)))), (za 7, .inl (k 0, 24, .inl RH)), (za 8, .inl (k 0, 24, .inl RP)), (za 9, .inl (k 0, 36, .inl FO)), (za 10, .inl (k 0, 36, .inl (fun j => nI (FP j)))), (za 11, .inl (k 0, 36, .inl (fun j => nI (FN j)))), (za 12, .inl (k 2, 108, .inl IO)), (za 14, .inl (k 0, 36, .inl RS)), (za 15, .inl (k 1, 4, .inr (.inl TO))), (za 17, .inl (k 2, 512, .inl (fun j => bI ((uTH (fV w)) j)))), (za 18, .inl (k 1, 512, .inr (.inl (fun j => lN ((uCO (fV w)) j))))), (za 19, .inl (k 0, 512, .inl (fun j => nI ((uRK (fV w)) j)))), (za 20, .inl (k 2, 512, .inl (fun j => bI ((uTX (fV w)) j)))), (za 21, .inl (k 1, 512, .inr (.inl (fun j => lN ((uCX (fV w)) j))))), (za 22, .inl (k 0, 512, .inl (fun j => nI ((uKX (fV w)) j)))), (za 23, .inl (k 0, 18432, .inl (fun j => nI ((uWY (fV w)) j)))), (za 24, .inl (k 2, 4096, .inl (fun j => bI ((uSE (fV w)) j)))), (za 25, .inl (k 0, 4096, .inl (fun j => nI ((uPL (fV w)) j)))), (za 26, .inl (k 0, 3, .inl (uHN (fV w)))), (za 27, .inl (k 0, 3, .inl (uPN (fV w)))), (za 30, .inl (k 0, 36, .inl (fun j => nI ((fPA w) j)))), (za 33, .inl (k 0, 6, .inl WF)), (za 34, .inl (k 0, 6, .inl WG)), (za 36, .inl (k 0, 36, .inl BF)), (za 37, .inl (k 0, 36, .inl BG)), (x0, .inr (6, [.ref pl, .ref ho, .ref rs, .ref to, .ref wt, .ref bo])), (ho, .inr (1, [.ref ma, .int (nI cn), .ref fa])), (ma, .inl (k 3, 3, .inr (.inr (.inr (.inr (mAd m0 m1 m2)))))), (m0, .inr (3, [.int (nI (lr 0)), .int (nI (lp 0)), .int (nI (sc 0)), .ref (hq 0), .ref (pq 0), .ref (oq 0)])), (hq 0, .inr (2, [.ref (ha 0), .ref (hv 0), .int (nI (zz 0))])), (ha 0, .inl (k 0, 8, .inl (LF 0))), (hv 0, .inl (k 0, 8, .inl (LG 0))), (pq 0, .inr (2, [.ref (pa 0), .ref (pv 0), .int (nI (zz 0))])), (pa 0, .inl (k 0, 8, .inl (LF 0))), (pv 0, .inl (k 0, 8, .inl (LP 0))), (oq 0, .inl (k 2, 36, .inl (OU 0))), (m1, .inr (3, [.int (nI (lr 1)), .int (nI (lp 1)), .int (nI (sc 1)), .ref (hq 1), .ref (pq 1), .ref (oq 1)])), (hq 1, .inr (2, [.ref (ha 1), .ref (hv 1), .int (nI (zz 1))])), (ha 1, .inl (k 0, 8, .inl (LF 1))), (hv 1, .inl (k 0, 8, .inl (LG 1))), (pq 1, .inr (2, [.ref (pa 1), .ref (pv 1), .int (nI (zz 1))])), (pa 1, .inl (k 0, 8, .inl (LF 1))), (pv 1, .inl (k 0, 8, .inl (LP 1))), (oq 1, .inl (k 2, 36, .inl (OU 1))), (m2, .inr (3, [.int (nI (lr 2)), .int (nI (lp 2)), .int (nI (sc 2)), .ref (hq 2), .ref (pq 2), .ref (oq 2)])), (hq 2, .inr (2, [.ref (ha 2), .ref (hv 2), .int (nI (zz 2))])), (ha 2, .inl (k 0, 8, .inl (LF 2))), (hv 2, .inl (k 0, 8, .inl (LG 2))), (pq 2, .inr (2, [.ref (pa 2), .ref (pv 2), .int (nI (zz 2))])), (pa 2, .inl (k 0, 8, .inl (LF 2))), (pv 2, .inl (k 0, 8, .inl (LP 2))), (oq 2, .inl (k 2, 36, .inl (OU 2))), (ou, .inl (k 1, 1, .inr (.inl OUT)))]) (b_runV (As := [.int (nI kk), .int (xs (i + 2)), .int (xs (i + 3)), .int (xs (i + 4))]) (rest := []) (q0 := 25) hm hw (cwV 4 hts (gV ut_T k_738 k_735 k_736 (k_737) k_9) rfl rfl rfl (by decide +kernel) ⟨by decide, by decide⟩) (c_Md_row_t2 l D k _ md za th cn ov sn (fK w) (fF w) (fC w) wz bz zz RO kk (xs (i + 2)) (xs (i + 3)) (xs (i + 4)) (by assumption) (by assumption) (by assumption) (by assumption) (by assumption) (by assumption) (by assumption)) [25, 29, 30] (by decide) rfl rfl rfl rfl hl.1 rfl (Nat.le_of_ble_eq_true rfl) d_Lw_law_252 ⟨by show cells + 1 + 0 ≤ room_1.cells; omega, by show slots + 6 + 0 ≤ room_1.slots; omega⟩) hw [25, 29, 30] [0, 1, 2, 3, 4, 5, 6, 7, 8, 9, 10, 11, 12, 13, 14, 15, 16, 17, 18, 19, 20, 21, 22, 23, 24, 26, 27, 28, 31, 32, 33, 34, 35, 36, 37, 38, 39, 40, 41, 42, 43, 44, 45, 46, 47, 48, 49, 50, 51, 52, 53, 54, 55, 56, 57, 58, 59, 60, 61, 62, 63, 64, 65, 66, 67, 68, 69, 70, 71, 72, 73, 74, 75, 76, 77, 78, 79, 80, 81, 82] rfl rfl (by decide) (by decide) (fun r8 u8 H locs hp8 hw => ?_)
  refine lv_istore (lv' := [(6, .int r8), (5, .int (nI 2)), (0, .ref b), (1, .ref x0), (2, .ref md), (3, .ref ou), (4, .int (nI i))]) hx hb d_Lw_law_255  hl (by decide) rfl (fun ls hl => ?_)
  refine lv_aload_n hx hb d_Lw_law_257 rfl (lv_at hl 4 rfl) ?_
  refine b_goiR (b_runV (As := []) (rest := []) (q0 := 80) hm hw (cwV 0 hts (gV ut_T k_726 k_723 k_724 (k_725) k_9) rfl rfl rfl (by decide +kernel) ⟨by decide, by decide⟩) (c_Md_thrown l D k _ md za 2 cn ov sn (fK w) (fF w) (fC w) wz bz) [80] (by decide) rfl rfl rfl rfl hl.1 rfl (Nat.le_of_ble_eq_true rfl) d_Lw_law_258 ⟨by show cells + 1 + 0 + 0 ≤ room_1.cells; omega, by show slots + 6 + 0 + 0 ≤ room_1.slots; omega⟩) hw [80] rfl (fun r5 u5 H locs hp5 hw => ?_)
  refine b_ti (y := nI 2) hp5 ?_
  refine lv_iload hx hb d_Lw_law_261 (lv_at hl 1 rfl) ?_
  refine lv_icmp_eq (tgt := 268) hx hb d_Lw_law_263 (by decide) (fun c_263_0 => ?_) (fun c_263_0 => ?_)
  · skip
    refine lv_iload hx hb d_Lw_law_268 (lv_at hl 1 rfl) ?_
    refine lv_if_ne (tgt := 285) hx hb d_Lw_law_270 (by decide) (fun c_270_1 => ?_) (fun c_270_1 => ?_)
    · skip
      refine lv_goto (tgt := 1147) hx hb d_Lw_law_285 (by decide) ?_
      refine W.widen (k := cells + 1) (n := slots + 6) (by show cells + 1 + 0 + 0 ≤ cells + 1; omega) (by show slots + 6 + 0 + 0 ≤ slots + 6; omega) ?_
      refine kx H locs ls (LST_mk (th := 2) (cn := cn) (ov := ov) (sta := sta) (stl := stl) (n := n) (wz := wz) (bz := bz) (sn := sn) (lr := lr) (lp := lp) (sc := sc) (zz := zz) (FP := FP) (FN := FN) (AB := AB) (HE := HE) (PO := PO) (SX := SX) (R := R) (RB := RB) (MR := MR) (MP := MP) (AF := AF) (BE := BE) (FO := FO) (SE := SE) (WF := WF) (WG := WG) (BF := BF) (BG := BG) (RS := RS) (TO := TO) (LF := LF) (LG := LG) (LP := LP) (OU := OU) (LR := LR) (LQ := LQ) (CE := CE) (RO := RO) (RH := RH) (RP := RP) (IO := IO) (w := w) (OUT := OUT) (hI := hI) (hw.sub [52, 53, 54, 0, 1, 2, 3, 55, 56, 57, 58, 59, 60, 61, 62, 63, 64, 65, 66, 67, 68, 69, 70, 71, 72, 73, 74, 75, 76, 77, 78, 4, 5, 6, 7, 8, 9, 10, 11, 12, 13, 14, 15, 16, 17, 18, 19, 20, 21, 22, 23, 24, 80, 25, 26, 27, 81, 82, 28, 29, 30, 31, 32, 33, 34, 35, 36, 37, 38, 39, 40, 41, 42, 43, 44, 45, 46, 47, 48, 49, 50, 51, 79] (by decide) rfl)) (lv_sub hl [2, 3, 4, 5, 6] rfl)
    · skip
      exact absurd c_270_1 (by decide)
  · skip
    exact absurd c_263_0 (by decide)

set_option maxHeartbeats 4000000 in
set_option maxRecDepth 100000 in
theorem L_hour0 (h0 : LwH p l s m meth c A b L xs) (hi5 : i + 5 ≤ L) (hf : cells + 1 ≤ room_1.cells ∧ slots + 6 ≤ room_1.slots) (kx : ∀ (H : Heap) (locs : List Loc) (ls : Array Slot), LST D k A s H locs x0 ho pl rs to wt bo ma fa se ab he po sx be sa rc rb mr mpp af m0 m1 m2 f0 f1 f2 wtw wtv bow bov md ou hq ha hv pq pa pv oq za → lv_has ls 8 [(0, .ref b), (1, .ref x0), (2, .ref md), (3, .ref ou), (4, .int (nI i))] → W p l e room_1 s m #[Value.ref b] below meth c H locs (cells + 1) (slots + 6) Q (F0 m 1147 ls [])) (hI : lwI cn ov sta stl n wz bz lr lp sc zz FP FN AB HE PO SX R RB MR MP AF BE FO SE WF WG BF LF LG LP OU sn LR LQ CE RO RH RP IO w) (hw : bW (gU D k) A s H locs (LWW k x0 ho pl rs to wt bo ma fa se ab he po sx be sa rc rb mr mpp af m0 m1 m2 f0 f1 f2 wtw wtv bow bov md ou hq ha hv pq pa pv oq za th cn ov sta stl n wz bz sn lr lp sc zz FP FN AB HE PO SX R RB MR MP AF BE FO SE WF WG BF BG RS TO LF LG LP OU LR LQ CE RO RH RP IO w OUT)) (hl : lv_has ls 8 [(0, .ref b), (1, .ref x0), (2, .ref md), (3, .ref ou), (4, .int (nI i))]) {h : Nat} (hh : h < 36) (hv9 : (-5000) ≤ xs (i + 3) ∧ xs (i + 3) ≤ nI 5000) (hov : ov ≤ h) (e1 : xs (i + 1) = nI h) (e2 : xs (i + 2) = nI 0) : W p l e room_1 s m #[Value.ref b] below meth c H locs cells slots Q (F0 m 288 ls []) := by
  obtain ⟨hm, hE, hX, hbl, hbA, hL, htr⟩ := h0
  have hx := hm.1
  have hb := hm.2.1
  have hown := hm.2.2.2.2.1
  have hts := hm.2.2.2.2.2.1
  have y0 : cn ≤ 3 := hI.1.1
  have y1 : ov ≤ 36 := hI.2.1.2.2.2.2.2.1
  have y2 : stl ≤ 36 := hI.2.1.2.2.2.2.2.2.1
  have y3 : ∀ j, zz j ≤ 8 := fun j => (hI.2.2.2.1.1 j).2.2
  have y4 : sn < 512 := hI.1.2.1
  have y5 : ∀ j, LR j ≤ 4 ∧ LQ j ≤ 4 := fun j => (hI.2.2.2.1.2.2.2 j).1
  have y6 : ∀ j, FN j ≤ 100000 := hI.2.1.2.1.2.2.2.2.2.1
  have y7 : ∀ j, FP j ≤ 1000 := hI.2.1.2.1.2.2.2.2.1
  have y8 : ∀ j, CE j ≤ 100000 := fun j => (hI.2.2.2.1.2.2.2 j).2
  have y9 : wz ≤ 6 := hI.2.2.2.2.2.1.2
  have y10 : bz ≤ 36 := hI.2.2.2.2.2.2.1.1
  have y11 : ∀ j, lr j ≤ 4 ∧ lp j ≤ 4 := hI.2.1.1.2.2.1
  have y12 : ∀ j, j < cn → 1 ≤ lr j ∧ 1 ≤ lp j := hI.2.1.1.2.2.2.1
  have y13 : ∀ j, sc j ≤ 100000 := hI.2.2.2.1.2.1
  have y14 : ∀ j, SX j ≤ 300000 := hI.2.1.2.1.2.2.2.1
  have y15 : bxI R RB MR MP AF := hI.2.2.1
  have y16 : ∀ j, IO j = 0 ∨ IO j = 1 := hI.2.2.2.2.1.2.2.2
  have y90 : lfI 0 ≤ xs (i + 3) ∧ xs (i + 3) ≤ mfI 0 := hv9
  refine lv_aload_n hx hb d_Lw_law_288 rfl (lv_at hl 1 rfl) ?_
  refine lv_aload_n hx hb d_Lw_law_289 rfl (lv_at hl 0 rfl) ?_
  refine lv_iload hx hb d_Lw_law_290 (lv_at hl 4 rfl) ?_
  refine lv_iconst (v := nI 1) hx hb d_Lw_law_292 (by decide) ?_
  refine lv_iadd hx hb d_Lw_law_293 ?_
  refine b_ti (nI_add i 1) ?_
  refine b_sld (j := i + 1) hm hX hbl hbA hw (by omega) hL d_Lw_law_294 ?_
  refine b_ti e1 ?_
  refine lv_aload_n hx hb d_Lw_law_295 rfl (lv_at hl 0 rfl) ?_
  refine lv_iload hx hb d_Lw_law_296 (lv_at hl 4 rfl) ?_
  refine lv_iconst (v := nI 2) hx hb d_Lw_law_298 (by decide) ?_
  refine lv_iadd hx hb d_Lw_law_299 ?_
  refine b_ti (nI_add i 2) ?_
  refine b_sld (j := i + 2) hm hX hbl hbA hw (by omega) hL d_Lw_law_300 ?_
  refine b_ti e2 ?_
  refine lv_aload_n hx hb d_Lw_law_301 rfl (lv_at hl 0 rfl) ?_
  refine lv_iload hx hb d_Lw_law_302 (lv_at hl 4 rfl) ?_
  refine lv_iconst (v := nI 3) hx hb d_Lw_law_304 (by decide) ?_
  refine lv_iadd hx hb d_Lw_law_305 ?_
  refine b_ti (nI_add i 3) ?_
  refine b_sld (j := i + 3) hm hX hbl hbA hw (by omega) hL d_Lw_law_306 ?_
  refine lv_aload_n hx hb d_Lw_law_307 rfl (lv_at hl 3 rfl) ?_
  refine b_goi (wr := [(ma, .inl (k 3, 3, .inr (.inr (.inr (.inr (mAd m0 m1 m2)))))), (m0, .inr (3, [.int (nI (lr 0)), .int (nI (lp 0)), .int (nI (sc 0)), .ref (hq 0), .ref (pq 0), .ref (oq 0)])), (hq 0, .inr (2, [.ref (ha 0), .ref (hv 0), .int (nI (zz 0))])), (ha 0, .inl (k 0, 8, .inl (LF 0))), (hv 0, .inl (k 0, 8, .inl (LG 0))), (pq 0, .inr (2, [.ref (pa 0), .ref (pv 0), .int (nI (zz 0))])), (pa 0, .inl (k 0, 8, .inl (LF 0))), (pv 0, .inl (k 0, 8, .inl (LP 0))), (oq 0, .inl (k 2, 36, .inl (OU 0))), (m1, .inr (3, [.int (nI (lr 1)), .int (nI (lp 1)), .int (nI (sc 1)), .ref (hq 1), .ref (pq 1), .ref (oq 1)])), (hq 1, .inr (2, [.ref (ha 1), .ref (hv 1), .int (nI (zz 1))])), (ha 1, .inl (k 0, 8, .inl (LF 1))), (hv 1, .inl (k 0, 8, .inl (LG 1))), (pq 1, .inr (2, [.ref (pa 1), .ref (pv 1), .int (nI (zz 1))])), (pa 1, .inl (k 0, 8, .inl (LF 1))), (pv 1, .inl (k 0, 8, .inl (LP 1))), (oq 1, .inl (k 2, 36, .inl (OU 1))), (m2, .inr (3, [.int (nI (lr 2)), .int (nI (lp 2)), .int (nI (sc 2)), .ref (hq 2), .ref (pq 2), .ref (oq 2)])), (hq 2, .inr (2, [.ref (ha 2), .ref (hv 2), .int (nI (zz 2))])), (ha 2, .inl (k 0, 8, .inl (LF 2))), (hv 2, .inl (k 0, 8, .inl (LG 2))), (pq 2, .inr (2, [.ref (pa 2), .ref (pv 2), .int (nI (zz 2))])), (pa 2, .inl (k 0, 8, .inl (LF 2))), (pv 2, .inl (k 0, 8, .inl (LP 2))), (oq 2, .inl (k 2, 36, .inl (OU 2))), (se, .inl (k 0, 36, .inl SE)), (ab, .inl (k 0, 36, .inl (fun j => nI (AB j)))), (he, .inl (k 0, 288, .inl (fun j => nI (HE j)))), (po, .inl (k 0, 288, .inl (fun j => nI (PO j)))), (sx, .inl (k 0, 8, .inl (fun j => nI (SX j)))), (be, .inl (k 1, 18944, .inr (.inl (fun j => oL (BE j))))), (sa, .inr (5, [.ref rc, .int (nI n), .ref rb, .ref mr, .ref mpp, .ref af])), (rc, .inl (k 0, 512, .inl (fun j => nI (R j)))), (rb, .inl (k 0, 512, .inl (fun j => nI (RB j)))), (mr, .inl (k 0, 512, .inl (fun j => nI (MR j)))), (mpp, .inl (k 0, 512, .inl (fun j => nI (MP j)))), (af, .inl (k 0, 4096, .inl (fun j => nI (AF j)))), (rs, .inl (k 0, 36, .inl RS)), (to, .inl (k 1, 4, .inr (.inl TO))), (wt, .inr (2, [.ref wtw, .ref wtv, .int (nI wz)])), (wtw, .inl (k 0, 6, .inl WF)), (wtv, .inl (k 0, 6, .inl WG)), (bo, .inr (0, [.ref bow, .int (nI bz), .ref bov])), (bow, .inl (k 0, 36, .inl BF)), (bov, .inl (k 0, 36, .inl BG)), (md, .inr (7, mdL za th cn ov sn (fK w) (fF w) (fC w) wz bz)), (za 2, .inl (k 0, 3, .inl (fun j => nI (LR j)))), (za 3, .inl (k 0, 3, .inl (fun j => nI (LQ j)))), (za 4, .inl (k 0, 3, .inl (fun j => nI (CE j)))), (za 5, .inl (k 0, 3, .inl (fun j => nI (zz j)))), (za 6, .inl (k 0, 24, .inl RO)), (za 7, .inl (k 0, 24, .inl RH)), (za 8, .inl (k 0, 24, .inl RP)), (za 9, .inl (k 0, 36, .inl FO)), (za 10, .inl (k 0, 36, .inl (fun j => nI (FP j)))), (za 11, .inl (k 0, 36, .inl (fun j => nI (FN j)))), (za 12, .inl (k 2, 108, .inl IO)), (za 14, .inl (k 0, 36, .inl RS)), (za 15, .inl (k 1, 4, .inr (.inl TO))), (za 17, .inl (k 2, 512, .inl (fun j => bI ((uTH (fV w)) j)))), (za 18, .inl (k 1, 512, .inr (.inl (fun j => lN ((uCO (fV w)) j))))), (za 19, .inl (k 0, 512, .inl (fun j => nI ((uRK (fV w)) j)))), (za 20, .inl (k 2, 512, .inl (fun j => bI ((uTX (fV w)) j)))), (za 21, .inl (k 1, 512, .inr (.inl (fun j => lN ((uCX (fV w)) j))))), (za 22, .inl (k 0, 512, .inl (fun j => nI ((uKX (fV w)) j)))), (za 23, .inl (k 0, 18432, .inl (fun j => nI ((uWY (fV w)) j)))), (za 24, .inl (k 2, 4096, .inl (fun j => bI ((uSE (fV w)) j)))), (za 25, .inl (k 0, 4096, .inl (fun j => nI ((uPL (fV w)) j)))), (za 26, .inl (k 0, 3, .inl (uHN (fV w)))), (za 27, .inl (k 0, 3, .inl (uPN (fV w)))), (za 30, .inl (k 0, 36, .inl (fun j => nI ((fPA w) j)))), (za 33, .inl (k 0, 6, .inl WF)), (za 34, .inl (k 0, 6, .inl WG)), (za 36, .inl (k 0, 36, .inl BF)), (za 37, .inl (k 0, 36, .inl BG))]) (b_runSH (n := 5) (As := [.ref x0, .int (nI h), .int (nI 0), .int (xs (i + 3)), .ref ou]) (rest := []) hm ut_T hE hw (h_hour0 l D k _ x0 ho pl rs to wt bo ma fa cn se ab he po sx be sa ov sta stl f0 f1 f2 h FO FP FN (xs (i + 3)) (by assumption) (by assumption) (by assumption) (by assumption) ou OUT) k_458 k_456 k_457 k_0 ⟨by decide, by decide, by decide +kernel⟩ ⟨by decide, by decide⟩ [0, 31, 1, 3, 4, 5, 6, 82] (by decide) rfl rfl hl.1 rfl (Nat.le_of_ble_eq_true rfl) d_Lw_law_308 ⟨by show cells + 0 ≤ room_1.cells; omega, by show slots + 0 ≤ room_1.slots; omega⟩) hw [0, 31, 1, 3, 4, 5, 6, 82] [2, 7, 8, 9, 10, 11, 12, 13, 14, 15, 16, 17, 18, 19, 20, 21, 22, 23, 24, 25, 26, 27, 28, 29, 30, 32, 33, 34, 35, 36, 37, 38, 39, 40, 41, 42, 43, 44, 45, 46, 47, 48, 49, 50, 51, 52, 53, 54, 55, 56, 57, 58, 59, 60, 61, 62, 63, 64, 65, 66, 67, 68, 69, 70, 71, 72, 73, 74, 75, 76, 77, 78, 79, 80, 81] rfl rfl (by decide) (by decide) (fun r9 u9 H locs hp9 hw => ?_)
  refine b_ti (y := nI 0) hp9.1 ?_
  have hp7 : u9.1 = FO h := hp9.2
  refine lv_istore (lv' := [(5, .int (nI 0)), (0, .ref b), (1, .ref x0), (2, .ref md), (3, .ref ou), (4, .int (nI i))]) hx hb d_Lw_law_311  hl (by decide) rfl (fun ls hl => ?_)
  refine lv_aload_n hx hb d_Lw_law_313 rfl (lv_at hl 3 rfl) ?_
  refine lv_aload_n hx hb d_Lw_law_314 rfl (lv_at hl 1 rfl) ?_
  refine lv_iload hx hb d_Lw_law_315 (lv_at hl 5 rfl) ?_
  refine lv_iconst (v := nI 1) hx hb d_Lw_law_317 (by decide) ?_
  refine lv_iadd hx hb d_Lw_law_318 ?_
  refine b_ti (nI_add i 1) ?_
  refine b_sld (j := i + 1) hm hX hbl hbA hw (by omega) hL d_Lw_law_319 ?_
  refine b_ti e1 ?_
  refine lv_aload_n hx hb d_Lw_law_320 rfl (lv_at hl 1 rfl) ?_
  refine lv_iload hx hb d_Lw_law_321 (lv_at hl 5 rfl) ?_
  refine lv_iconst (v := nI 2) hx hb d_Lw_law_323 (by decide) ?_
  refine lv_iadd hx hb d_Lw_law_324 ?_
  refine b_ti (nI_add i 2) ?_
  refine b_sld (j := i + 2) hm hX hbl hbA hw (by omega) hL d_Lw_law_325 ?_
  refine b_ti e2 ?_
  refine lv_aload_n hx hb d_Lw_law_326 rfl (lv_at hl 1 rfl) ?_
  refine lv_iload hx hb d_Lw_law_327 (lv_at hl 5 rfl) ?_
  refine lv_iconst (v := nI 3) hx hb d_Lw_law_329 (by decide) ?_
  refine lv_iadd hx hb d_Lw_law_330 ?_
  refine b_ti (nI_add i 3) ?_
  refine b_sld (j := i + 3) hm hX hbl hbA hw (by omega) hL d_Lw_law_331 ?_
  refine b_goi (wr := [(ma, .inl (k 3, 3, .inr (.inr (.inr (.inr (mAd m0 m1 m2)))))), (m0, .inr (3, [.int (nI (lr 0)), .int (nI (lp 0)), .int (nI (sc 0)), .ref (hq 0), .ref (pq 0), .ref (oq 0)])), (hq 0, .inr (2, [.ref (ha 0), .ref (hv 0), .int (nI (zz 0))])), (ha 0, .inl (k 0, 8, .inl (LF 0))), (hv 0, .inl (k 0, 8, .inl (LG 0))), (pq 0, .inr (2, [.ref (pa 0), .ref (pv 0), .int (nI (zz 0))])), (pa 0, .inl (k 0, 8, .inl (LF 0))), (pv 0, .inl (k 0, 8, .inl (LP 0))), (oq 0, .inl (k 2, 36, .inl (OU 0))), (m1, .inr (3, [.int (nI (lr 1)), .int (nI (lp 1)), .int (nI (sc 1)), .ref (hq 1), .ref (pq 1), .ref (oq 1)])), (hq 1, .inr (2, [.ref (ha 1), .ref (hv 1), .int (nI (zz 1))])), (ha 1, .inl (k 0, 8, .inl (LF 1))), (hv 1, .inl (k 0, 8, .inl (LG 1))), (pq 1, .inr (2, [.ref (pa 1), .ref (pv 1), .int (nI (zz 1))])), (pa 1, .inl (k 0, 8, .inl (LF 1))), (pv 1, .inl (k 0, 8, .inl (LP 1))), (oq 1, .inl (k 2, 36, .inl (OU 1))), (m2, .inr (3, [.int (nI (lr 2)), .int (nI (lp 2)), .int (nI (sc 2)), .ref (hq 2), .ref (pq 2), .ref (oq 2)])), (hq 2, .inr (2, [.ref (ha 2), .ref (hv 2), .int (nI (zz 2))])), (ha 2, .inl (k 0, 8, .inl (LF 2))), (hv 2, .inl (k 0, 8, .inl (LG 2))), (pq 2, .inr (2, [.ref (pa 2), .ref (pv 2), .int (nI (zz 2))])), (pa 2, .inl (k 0, 8, .inl (LF 2))), (pv 2, .inl (k 0, 8, .inl (LP 2))), (oq 2, .inl (k 2, 36, .inl (OU 2))), (se, .inl (k 0, 36, .inl SE)), (ab, .inl (k 0, 36, .inl (fun j => nI (AB j)))), (he, .inl (k 0, 288, .inl (fun j => nI (HE j)))), (po, .inl (k 0, 288, .inl (fun j => nI (PO j)))), (sx, .inl (k 0, 8, .inl (fun j => nI (SX j)))), (be, .inl (k 1, 18944, .inr (.inl (fun j => oL (BE j))))), (sa, .inr (5, [.ref rc, .int (nI n), .ref rb, .ref mr, .ref mpp, .ref af])), (rc, .inl (k 0, 512, .inl (fun j => nI (R j)))), (rb, .inl (k 0, 512, .inl (fun j => nI (RB j)))), (mr, .inl (k 0, 512, .inl (fun j => nI (MR j)))), (mpp, .inl (k 0, 512, .inl (fun j => nI (MP j)))), (af, .inl (k 0, 4096, .inl (fun j => nI (AF j)))), (rs, .inl (k 0, 36, .inl RS)), (to, .inl (k 1, 4, .inr (.inl TO))), (wt, .inr (2, [.ref wtw, .ref wtv, .int (nI wz)])), (wtw, .inl (k 0, 6, .inl WF)), (wtv, .inl (k 0, 6, .inl WG)), (bo, .inr (0, [.ref bow, .int (nI bz), .ref bov])), (bow, .inl (k 0, 36, .inl BF)), (bov, .inl (k 0, 36, .inl BG)), (za 2, .inl (k 0, 3, .inl (fun j => nI (LR j)))), (za 3, .inl (k 0, 3, .inl (fun j => nI (LQ j)))), (za 4, .inl (k 0, 3, .inl (fun j => nI (CE j)))), (za 5, .inl (k 0, 3, .inl (fun j => nI (zz j)))), (za 6, .inl (k 0, 24, .inl RO)), (za 7, .inl (k 0, 24, .inl RH)), (za 8, .inl (k 0, 24, .inl RP)), (za 12, .inl (k 2, 108, .inl IO)), (za 14, .inl (k 0, 36, .inl RS)), (za 15, .inl (k 1, 4, .inr (.inl TO))), (za 17, .inl (k 2, 512, .inl (fun j => bI ((uTH (fV w)) j)))), (za 18, .inl (k 1, 512, .inr (.inl (fun j => lN ((uCO (fV w)) j))))), (za 19, .inl (k 0, 512, .inl (fun j => nI ((uRK (fV w)) j)))), (za 20, .inl (k 2, 512, .inl (fun j => bI ((uTX (fV w)) j)))), (za 21, .inl (k 1, 512, .inr (.inl (fun j => lN ((uCX (fV w)) j))))), (za 22, .inl (k 0, 512, .inl (fun j => nI ((uKX (fV w)) j)))), (za 23, .inl (k 0, 18432, .inl (fun j => nI ((uWY (fV w)) j)))), (za 24, .inl (k 2, 4096, .inl (fun j => bI ((uSE (fV w)) j)))), (za 25, .inl (k 0, 4096, .inl (fun j => nI ((uPL (fV w)) j)))), (za 26, .inl (k 0, 3, .inl (uHN (fV w)))), (za 27, .inl (k 0, 3, .inl (uPN (fV w)))), (za 30, .inl (k 0, 36, .inl (fun j => nI ((fPA w) j)))), (za 33, .inl (k 0, 6, .inl WF)), (za 34, .inl (k 0, 6, .inl WG)), (za 36, .inl (k 0, 36, .inl BF)), (za 37, .inl (k 0, 36, .inl BG)), (x0, .inr (6, [.ref pl, .ref ho, .ref rs, .ref to, .ref wt, .ref bo])), (pl, .inr (4, [.ref ho, .ref sa, .int (nI ov), .int (nI sta), .int (nI (if stl < h + 1 then h + 1 else stl)), .ref se, .ref ab, .ref he, .ref po, .ref sx, .ref be])), (ho, .inr (1, [.ref ma, .int (nI cn), .ref fa])), (fa, .inl (k 4, 3, .inr (.inr (.inr (.inr (mAd f0 f1 f2)))))), (f0, .inl (k 0, 36, .inl (upd FO h (xs (i + 3))))), (f1, .inl (k 0, 36, .inl (fun j => nI (FP j)))), (f2, .inl (k 0, 36, .inl (fun j => nI (FN j)))), (ou, .inl (k 1, 1, .inr (.inl (vp_updL OUT 0 u9.1.toInt64))))]) (b_runV (As := [.int (nI h), .int (nI 0), .int (xs (i + 3))]) (rest := []) (q0 := 45) hm hw (cwV 3 hts (gV ut_T k_746 k_743 k_744 (k_745) k_9) rfl rfl rfl (by decide +kernel) ⟨by decide, by decide⟩) (c_Md_hour0 l D k _ md za th cn ov sn (fK w) (fF w) (fC w) wz bz FO FP FN h (xs (i + 3)) (by assumption) (by assumption) (by assumption)) [45, 53, 54, 55] (by decide) rfl rfl rfl rfl hl.1 rfl (Nat.le_of_ble_eq_true rfl) d_Lw_law_332 ⟨by show cells + 0 + 0 ≤ room_1.cells; omega, by show slots + 0 + 0 ≤ room_1.slots; omega⟩) hw [45, 53, 54, 55] [0, 1, 2, 3, 4, 5, 6, 7, 8, 9, 10, 11, 12, 13, 14, 15, 16, 17, 18, 19, 20, 21, 22, 23, 24, 25, 26, 27, 28, 29, 30, 31, 32, 33, 34, 35, 36, 37, 38, 39, 40, 41, 42, 43, 44, 46, 47, 48, 49, 50, 51, 52, 56, 57, 58, 59, 60, 61, 62, 63, 64, 65, 66, 67, 68, 69, 70, 71, 72, 73, 74, 75, 76, 77, 78, 79, 80, 81, 82] rfl rfl (by decide) (by decide) (fun r8 u8 H locs hp8 hw => ?_)
  have hp6 : r8 = FO h := hp8
  have heq : u9.1 = r8 := hp7.trans hp6.symm
  refine lv_istore (lv' := [(6, .int r8), (5, .int (nI 0)), (0, .ref b), (1, .ref x0), (2, .ref md), (3, .ref ou), (4, .int (nI i))]) hx hb d_Lw_law_335  hl (by decide) rfl (fun ls hl => ?_)
  refine lv_aload_n hx hb d_Lw_law_337 rfl (lv_at hl 4 rfl) ?_
  refine b_goiR (b_runV (As := []) (rest := []) (q0 := 79) hm hw (cwV 0 hts (gV ut_T k_726 k_723 k_724 (k_725) k_9) rfl rfl rfl (by decide +kernel) ⟨by decide, by decide⟩) (c_Md_thrown l D k _ md za 0 cn ov sn 0 (fF w) (fC w) wz bz) [79] (by decide) rfl rfl rfl rfl hl.1 rfl (Nat.le_of_ble_eq_true rfl) d_Lw_law_338 ⟨by show cells + 0 + 0 + 0 ≤ room_1.cells; omega, by show slots + 0 + 0 + 0 ≤ room_1.slots; omega⟩) hw [79] rfl (fun r5 u5 H locs hp5 hw => ?_)
  refine b_ti (y := nI 0) hp5 ?_
  refine lv_iload hx hb d_Lw_law_341 (lv_at hl 1 rfl) ?_
  refine lv_icmp_eq (tgt := 348) hx hb d_Lw_law_343 (by decide) (fun c_343_0 => ?_) (fun c_343_0 => ?_)
  · skip
    refine lv_iload hx hb d_Lw_law_348 (lv_at hl 1 rfl) ?_
    refine lv_if_ne (tgt := 365) hx hb d_Lw_law_350 (by decide) (fun c_350_1 => ?_) (fun c_350_1 => ?_)
    · skip
      exact absurd c_350_1 (by decide)
    · skip
      refine lv_aload_n hx hb d_Lw_law_353 rfl (lv_at hl 5 rfl) ?_
      refine lv_iconst (v := nI 0) hx hb d_Lw_law_354 (by decide) ?_
      refine b_lald (i := 0) hm hw 78 1 rfl rfl (by omega) (by omega) d_Lw_law_355 ?_
      refine b_tl (y := u9.1.toInt64) (updL_s _ _ _) ?_
      refine lv_iload hx hb d_Lw_law_356 (lv_at hl 0 rfl) ?_
      refine lv_i2l (v := r8.toInt64) hx hb d_Lw_law_358 rfl ?_
      refine W.lcmp hx hb d_Lw_law_359 ?_
      refine lv_if_eq (tgt := 365) hx hb d_Lw_law_360 (by decide) (fun c_360_2 => ?_) (fun c_360_2 => ?_)
      · skip
        refine lv_goto (tgt := 1147) hx hb d_Lw_law_365 (by decide) ?_
        refine W.widen (k := cells + 1) (n := slots + 6) (by show cells + 0 + 0 + 0 ≤ cells + 1; omega) (by show slots + 0 + 0 + 0 ≤ slots + 6; omega) ?_
        refine kx H locs ls (LST_mk (th := 0) (cn := cn) (ov := ov) (sta := sta) (stl := if stl < h + 1 then h + 1 else stl) (n := n) (wz := wz) (bz := bz) (sn := sn) (lr := lr) (lp := lp) (sc := sc) (zz := zz) (FP := FP) (FN := FN) (AB := AB) (HE := HE) (PO := PO) (SX := SX) (R := R) (RB := RB) (MR := MR) (MP := MP) (AF := AF) (BE := BE) (FO := upd FO h (xs (i + 3))) (SE := SE) (WF := WF) (WG := WG) (BF := BF) (BG := BG) (RS := RS) (TO := TO) (LF := LF) (LG := LG) (LP := LP) (OU := OU) (LR := LR) (LQ := LQ) (CE := CE) (RO := RO) (RH := RH) (RP := RP) (IO := IO) (w := (w.1, w.2.1, w.2.2.1, 0, w.2.2.2.2)) (OUT := vp_updL OUT 0 u9.1.toInt64) (hI := lw_hour0 hI hh) (hw.sub [71, 73, 0, 74, 75, 76, 77, 1, 2, 3, 4, 5, 6, 7, 8, 9, 10, 11, 12, 13, 14, 15, 16, 17, 18, 19, 20, 21, 22, 23, 24, 72, 25, 26, 27, 28, 29, 30, 31, 32, 33, 34, 35, 36, 37, 38, 39, 40, 41, 42, 43, 44, 79, 45, 46, 47, 48, 49, 50, 51, 80, 81, 82, 52, 53, 54, 55, 56, 57, 58, 59, 60, 61, 62, 63, 64, 65, 66, 67, 68, 69, 70, 78] (by decide) rfl)) (lv_sub hl [2, 3, 4, 5, 6] rfl)
      · skip
        exact absurd (lc_eq (congrArg Int32.toInt64 heq)) c_360_2
  · skip
    exact absurd c_343_0 (by decide)

set_option maxHeartbeats 4000000 in
set_option maxRecDepth 100000 in
theorem L_hour_t20 (h0 : LwH p l s m meth c A b L xs) (hi5 : i + 5 ≤ L) (hf : cells + 1 ≤ room_1.cells ∧ slots + 6 ≤ room_1.slots) (kx : ∀ (H : Heap) (locs : List Loc) (ls : Array Slot), LST D k A s H locs x0 ho pl rs to wt bo ma fa se ab he po sx be sa rc rb mr mpp af m0 m1 m2 f0 f1 f2 wtw wtv bow bov md ou hq ha hv pq pa pv oq za → lv_has ls 8 [(0, .ref b), (1, .ref x0), (2, .ref md), (3, .ref ou), (4, .int (nI i))] → W p l e room_1 s m #[Value.ref b] below meth c H locs (cells + 1) (slots + 6) Q (F0 m 1147 ls [])) (hI : lwI cn ov sta stl n wz bz lr lp sc zz FP FN AB HE PO SX R RB MR MP AF BE FO SE WF WG BF LF LG LP OU sn LR LQ CE RO RH RP IO w) (hw : bW (gU D k) A s H locs (LWW k x0 ho pl rs to wt bo ma fa se ab he po sx be sa rc rb mr mpp af m0 m1 m2 f0 f1 f2 wtw wtv bow bov md ou hq ha hv pq pa pv oq za th cn ov sta stl n wz bz sn lr lp sc zz FP FN AB HE PO SX R RB MR MP AF BE FO SE WF WG BF BG RS TO LF LG LP OU LR LQ CE RO RH RP IO w OUT)) (hl : lv_has ls 8 [(0, .ref b), (1, .ref x0), (2, .ref md), (3, .ref ou), (4, .int (nI i))]) {h : Nat} (hh : h < 36) (hv9 : (-5000) ≤ xs (i + 3) ∧ xs (i + 3) ≤ nI 5000) (hov : h < ov) (e1 : xs (i + 1) = nI h) (e2 : xs (i + 2) = nI 0) : W p l e room_1 s m #[Value.ref b] below meth c H locs cells slots Q (F0 m 288 ls []) := by
  obtain ⟨hm, hE, hX, hbl, hbA, hL, htr⟩ := h0
  have hx := hm.1
  have hb := hm.2.1
  have hown := hm.2.2.2.2.1
  have hts := hm.2.2.2.2.2.1
  have y0 : cn ≤ 3 := hI.1.1
  have y1 : ov ≤ 36 := hI.2.1.2.2.2.2.2.1
  have y2 : stl ≤ 36 := hI.2.1.2.2.2.2.2.2.1
  have y3 : ∀ j, zz j ≤ 8 := fun j => (hI.2.2.2.1.1 j).2.2
  have y4 : sn < 512 := hI.1.2.1
  have y5 : ∀ j, LR j ≤ 4 ∧ LQ j ≤ 4 := fun j => (hI.2.2.2.1.2.2.2 j).1
  have y6 : ∀ j, FN j ≤ 100000 := hI.2.1.2.1.2.2.2.2.2.1
  have y7 : ∀ j, FP j ≤ 1000 := hI.2.1.2.1.2.2.2.2.1
  have y8 : ∀ j, CE j ≤ 100000 := fun j => (hI.2.2.2.1.2.2.2 j).2
  have y9 : wz ≤ 6 := hI.2.2.2.2.2.1.2
  have y10 : bz ≤ 36 := hI.2.2.2.2.2.2.1.1
  have y11 : ∀ j, lr j ≤ 4 ∧ lp j ≤ 4 := hI.2.1.1.2.2.1
  have y12 : ∀ j, j < cn → 1 ≤ lr j ∧ 1 ≤ lp j := hI.2.1.1.2.2.2.1
  have y13 : ∀ j, sc j ≤ 100000 := hI.2.2.2.1.2.1
  have y14 : ∀ j, SX j ≤ 300000 := hI.2.1.2.1.2.2.2.1
  have y15 : bxI R RB MR MP AF := hI.2.2.1
  have y16 : ∀ j, IO j = 0 ∨ IO j = 1 := hI.2.2.2.2.1.2.2.2
  have y90 : lfI 0 ≤ xs (i + 3) ∧ xs (i + 3) ≤ mfI 0 := hv9
  refine lv_aload_n hx hb d_Lw_law_288 rfl (lv_at hl 1 rfl) ?_
  refine lv_aload_n hx hb d_Lw_law_289 rfl (lv_at hl 0 rfl) ?_
  refine lv_iload hx hb d_Lw_law_290 (lv_at hl 4 rfl) ?_
  refine lv_iconst (v := nI 1) hx hb d_Lw_law_292 (by decide) ?_
  refine lv_iadd hx hb d_Lw_law_293 ?_
  refine b_ti (nI_add i 1) ?_
  refine b_sld (j := i + 1) hm hX hbl hbA hw (by omega) hL d_Lw_law_294 ?_
  refine b_ti e1 ?_
  refine lv_aload_n hx hb d_Lw_law_295 rfl (lv_at hl 0 rfl) ?_
  refine lv_iload hx hb d_Lw_law_296 (lv_at hl 4 rfl) ?_
  refine lv_iconst (v := nI 2) hx hb d_Lw_law_298 (by decide) ?_
  refine lv_iadd hx hb d_Lw_law_299 ?_
  refine b_ti (nI_add i 2) ?_
  refine b_sld (j := i + 2) hm hX hbl hbA hw (by omega) hL d_Lw_law_300 ?_
  refine b_ti e2 ?_
  refine lv_aload_n hx hb d_Lw_law_301 rfl (lv_at hl 0 rfl) ?_
  refine lv_iload hx hb d_Lw_law_302 (lv_at hl 4 rfl) ?_
  refine lv_iconst (v := nI 3) hx hb d_Lw_law_304 (by decide) ?_
  refine lv_iadd hx hb d_Lw_law_305 ?_
  refine b_ti (nI_add i 3) ?_
  refine b_sld (j := i + 3) hm hX hbl hbA hw (by omega) hL d_Lw_law_306 ?_
  refine lv_aload_n hx hb d_Lw_law_307 rfl (lv_at hl 3 rfl) ?_
  refine b_goi (wr := [(ho, .inr (1, [.ref ma, .int (nI cn), .ref fa])), (ma, .inl (k 3, 3, .inr (.inr (.inr (.inr (mAd m0 m1 m2)))))), (fa, .inl (k 4, 3, .inr (.inr (.inr (.inr (mAd f0 f1 f2)))))), (f0, .inl (k 0, 36, .inl FO)), (f1, .inl (k 0, 36, .inl (fun j => nI (FP j)))), (f2, .inl (k 0, 36, .inl (fun j => nI (FN j)))), (m0, .inr (3, [.int (nI (lr 0)), .int (nI (lp 0)), .int (nI (sc 0)), .ref (hq 0), .ref (pq 0), .ref (oq 0)])), (hq 0, .inr (2, [.ref (ha 0), .ref (hv 0), .int (nI (zz 0))])), (ha 0, .inl (k 0, 8, .inl (LF 0))), (hv 0, .inl (k 0, 8, .inl (LG 0))), (pq 0, .inr (2, [.ref (pa 0), .ref (pv 0), .int (nI (zz 0))])), (pa 0, .inl (k 0, 8, .inl (LF 0))), (pv 0, .inl (k 0, 8, .inl (LP 0))), (oq 0, .inl (k 2, 36, .inl (OU 0))), (m1, .inr (3, [.int (nI (lr 1)), .int (nI (lp 1)), .int (nI (sc 1)), .ref (hq 1), .ref (pq 1), .ref (oq 1)])), (hq 1, .inr (2, [.ref (ha 1), .ref (hv 1), .int (nI (zz 1))])), (ha 1, .inl (k 0, 8, .inl (LF 1))), (hv 1, .inl (k 0, 8, .inl (LG 1))), (pq 1, .inr (2, [.ref (pa 1), .ref (pv 1), .int (nI (zz 1))])), (pa 1, .inl (k 0, 8, .inl (LF 1))), (pv 1, .inl (k 0, 8, .inl (LP 1))), (oq 1, .inl (k 2, 36, .inl (OU 1))), (m2, .inr (3, [.int (nI (lr 2)), .int (nI (lp 2)), .int (nI (sc 2)), .ref (hq 2), .ref (pq 2), .ref (oq 2)])), (hq 2, .inr (2, [.ref (ha 2), .ref (hv 2), .int (nI (zz 2))])), (ha 2, .inl (k 0, 8, .inl (LF 2))), (hv 2, .inl (k 0, 8, .inl (LG 2))), (pq 2, .inr (2, [.ref (pa 2), .ref (pv 2), .int (nI (zz 2))])), (pa 2, .inl (k 0, 8, .inl (LF 2))), (pv 2, .inl (k 0, 8, .inl (LP 2))), (oq 2, .inl (k 2, 36, .inl (OU 2))), (se, .inl (k 0, 36, .inl SE)), (ab, .inl (k 0, 36, .inl (fun j => nI (AB j)))), (he, .inl (k 0, 288, .inl (fun j => nI (HE j)))), (po, .inl (k 0, 288, .inl (fun j => nI (PO j)))), (sx, .inl (k 0, 8, .inl (fun j => nI (SX j)))), (be, .inl (k 1, 18944, .inr (.inl (fun j => oL (BE j))))), (sa, .inr (5, [.ref rc, .int (nI n), .ref rb, .ref mr, .ref mpp, .ref af])), (rc, .inl (k 0, 512, .inl (fun j => nI (R j)))), (rb, .inl (k 0, 512, .inl (fun j => nI (RB j)))), (mr, .inl (k 0, 512, .inl (fun j => nI (MR j)))), (mpp, .inl (k 0, 512, .inl (fun j => nI (MP j)))), (af, .inl (k 0, 4096, .inl (fun j => nI (AF j)))), (rs, .inl (k 0, 36, .inl RS)), (to, .inl (k 1, 4, .inr (.inl TO))), (wt, .inr (2, [.ref wtw, .ref wtv, .int (nI wz)])), (wtw, .inl (k 0, 6, .inl WF)), (wtv, .inl (k 0, 6, .inl WG)), (bo, .inr (0, [.ref bow, .int (nI bz), .ref bov])), (bow, .inl (k 0, 36, .inl BF)), (bov, .inl (k 0, 36, .inl BG)), (md, .inr (7, mdL za th cn ov sn (fK w) (fF w) (fC w) wz bz)), (za 2, .inl (k 0, 3, .inl (fun j => nI (LR j)))), (za 3, .inl (k 0, 3, .inl (fun j => nI (LQ j)))), (za 4, .inl (k 0, 3, .inl (fun j => nI (CE j)))), (za 5, .inl (k 0, 3, .inl (fun j => nI (zz j)))), (za 6, .inl (k 0, 24, .inl RO)), (za 7, .inl (k 0, 24, .inl RH)), (za 8, .inl (k 0, 24, .inl RP)), (za 9, .inl (k 0, 36, .inl FO)), (za 10, .inl (k 0, 36, .inl (fun j => nI (FP j)))), (za 11, .inl (k 0, 36, .inl (fun j => nI (FN j)))), (za 12, .inl (k 2, 108, .inl IO)), (za 14, .inl (k 0, 36, .inl RS)), (za 15, .inl (k 1, 4, .inr (.inl TO))), (za 17, .inl (k 2, 512, .inl (fun j => bI ((uTH (fV w)) j)))), (za 18, .inl (k 1, 512, .inr (.inl (fun j => lN ((uCO (fV w)) j))))), (za 19, .inl (k 0, 512, .inl (fun j => nI ((uRK (fV w)) j)))), (za 20, .inl (k 2, 512, .inl (fun j => bI ((uTX (fV w)) j)))), (za 21, .inl (k 1, 512, .inr (.inl (fun j => lN ((uCX (fV w)) j))))), (za 22, .inl (k 0, 512, .inl (fun j => nI ((uKX (fV w)) j)))), (za 23, .inl (k 0, 18432, .inl (fun j => nI ((uWY (fV w)) j)))), (za 24, .inl (k 2, 4096, .inl (fun j => bI ((uSE (fV w)) j)))), (za 25, .inl (k 0, 4096, .inl (fun j => nI ((uPL (fV w)) j)))), (za 26, .inl (k 0, 3, .inl (uHN (fV w)))), (za 27, .inl (k 0, 3, .inl (uPN (fV w)))), (za 30, .inl (k 0, 36, .inl (fun j => nI ((fPA w) j)))), (za 33, .inl (k 0, 6, .inl WF)), (za 34, .inl (k 0, 6, .inl WG)), (za 36, .inl (k 0, 36, .inl BF)), (za 37, .inl (k 0, 36, .inl BG))]) (b_runSH (n := 5) (As := [.ref x0, .int (nI h), .int (nI 0), .int (xs (i + 3)), .ref ou]) (rest := []) hm ut_T hE hw (h_hour_t20 l htr D k _ x0 ho pl rs to wt bo se ab he po sx be sa ov sta stl h (xs (i + 3)) (by assumption) (by assumption) (by assumption) (by assumption) ou OUT) k_458 k_456 k_457 k_0 ⟨by decide, by decide, by decide +kernel⟩ ⟨by decide, by decide⟩ [0, 31, 82] (by decide) rfl rfl hl.1 rfl (Nat.le_of_ble_eq_true rfl) d_Lw_law_308 ⟨by show cells + 1 ≤ room_1.cells; omega, by show slots + 6 ≤ room_1.slots; omega⟩) hw [0, 31, 82] [1, 2, 3, 4, 5, 6, 7, 8, 9, 10, 11, 12, 13, 14, 15, 16, 17, 18, 19, 20, 21, 22, 23, 24, 25, 26, 27, 28, 29, 30, 32, 33, 34, 35, 36, 37, 38, 39, 40, 41, 42, 43, 44, 45, 46, 47, 48, 49, 50, 51, 52, 53, 54, 55, 56, 57, 58, 59, 60, 61, 62, 63, 64, 65, 66, 67, 68, 69, 70, 71, 72, 73, 74, 75, 76, 77, 78, 79, 80, 81] rfl rfl (by decide) (by decide) (fun r9 u9 H locs hp9 hw => ?_)
  refine b_ti (y := nI 2) hp9 ?_
  refine lv_istore (lv' := [(5, .int (nI 2)), (0, .ref b), (1, .ref x0), (2, .ref md), (3, .ref ou), (4, .int (nI i))]) hx hb d_Lw_law_311  hl (by decide) rfl (fun ls hl => ?_)
  refine lv_aload_n hx hb d_Lw_law_313 rfl (lv_at hl 3 rfl) ?_
  refine lv_aload_n hx hb d_Lw_law_314 rfl (lv_at hl 1 rfl) ?_
  refine lv_iload hx hb d_Lw_law_315 (lv_at hl 5 rfl) ?_
  refine lv_iconst (v := nI 1) hx hb d_Lw_law_317 (by decide) ?_
  refine lv_iadd hx hb d_Lw_law_318 ?_
  refine b_ti (nI_add i 1) ?_
  refine b_sld (j := i + 1) hm hX hbl hbA hw (by omega) hL d_Lw_law_319 ?_
  refine b_ti e1 ?_
  refine lv_aload_n hx hb d_Lw_law_320 rfl (lv_at hl 1 rfl) ?_
  refine lv_iload hx hb d_Lw_law_321 (lv_at hl 5 rfl) ?_
  refine lv_iconst (v := nI 2) hx hb d_Lw_law_323 (by decide) ?_
  refine lv_iadd hx hb d_Lw_law_324 ?_
  refine b_ti (nI_add i 2) ?_
  refine b_sld (j := i + 2) hm hX hbl hbA hw (by omega) hL d_Lw_law_325 ?_
  refine b_ti e2 ?_
  refine lv_aload_n hx hb d_Lw_law_326 rfl (lv_at hl 1 rfl) ?_
  refine lv_iload hx hb d_Lw_law_327 (lv_at hl 5 rfl) ?_
  refine lv_iconst (v := nI 3) hx hb d_Lw_law_329 (by decide) ?_
  refine lv_iadd hx hb d_Lw_law_330 ?_
  refine b_ti (nI_add i 3) ?_
  refine b_sld (j := i + 3) hm hX hbl hbA hw (by omega) hL d_Lw_law_331 ?_
  refine b_goi (wr := [(ho, .inr (1, [.ref ma, .int (nI cn), .ref fa])), (ma, .inl (k 3, 3, .inr (.inr (.inr (.inr (mAd m0 m1 m2)))))), (fa, .inl (k 4, 3, .inr (.inr (.inr (.inr (mAd f0 f1 f2)))))), (f0, .inl (k 0, 36, .inl FO)), (f1, .inl (k 0, 36, .inl (fun j => nI (FP j)))), (f2, .inl (k 0, 36, .inl (fun j => nI (FN j)))), (m0, .inr (3, [.int (nI (lr 0)), .int (nI (lp 0)), .int (nI (sc 0)), .ref (hq 0), .ref (pq 0), .ref (oq 0)])), (hq 0, .inr (2, [.ref (ha 0), .ref (hv 0), .int (nI (zz 0))])), (ha 0, .inl (k 0, 8, .inl (LF 0))), (hv 0, .inl (k 0, 8, .inl (LG 0))), (pq 0, .inr (2, [.ref (pa 0), .ref (pv 0), .int (nI (zz 0))])), (pa 0, .inl (k 0, 8, .inl (LF 0))), (pv 0, .inl (k 0, 8, .inl (LP 0))), (oq 0, .inl (k 2, 36, .inl (OU 0))), (m1, .inr (3, [.int (nI (lr 1)), .int (nI (lp 1)), .int (nI (sc 1)), .ref (hq 1), .ref (pq 1), .ref (oq 1)])), (hq 1, .inr (2, [.ref (ha 1), .ref (hv 1), .int (nI (zz 1))])), (ha 1, .inl (k 0, 8, .inl (LF 1))), (hv 1, .inl (k 0, 8, .inl (LG 1))), (pq 1, .inr (2, [.ref (pa 1), .ref (pv 1), .int (nI (zz 1))])), (pa 1, .inl (k 0, 8, .inl (LF 1))), (pv 1, .inl (k 0, 8, .inl (LP 1))), (oq 1, .inl (k 2, 36, .inl (OU 1))), (m2, .inr (3, [.int (nI (lr 2)), .int (nI (lp 2)), .int (nI (sc 2)), .ref (hq 2), .ref (pq 2), .ref (oq 2)])), (hq 2, .inr (2, [.ref (ha 2), .ref (hv 2), .int (nI (zz 2))])), (ha 2, .inl (k 0, 8, .inl (LF 2))), (hv 2, .inl (k 0, 8, .inl (LG 2))), (pq 2, .inr (2, [.ref (pa 2), .ref (pv 2), .int (nI (zz 2))])), (pa 2, .inl (k 0, 8, .inl (LF 2))), (pv 2, .inl (k 0, 8, .inl (LP 2))), (oq 2, .inl (k 2, 36, .inl (OU 2))), (se, .inl (k 0, 36, .inl SE)), (ab, .inl (k 0, 36, .inl (fun j => nI (AB j)))), (he, .inl (k 0, 288, .inl (fun j => nI (HE j)))), (po, .inl (k 0, 288, .inl (fun j => nI (PO j)))), (sx, .inl (k 0, 8, .inl (fun j => nI (SX j)))), (be, .inl (k 1, 18944, .inr (.inl (fun j => oL (BE j))))), (sa, .inr (5, [.ref rc, .int (nI n), .ref rb, .ref mr, .ref mpp, .ref af])), (rc, .inl (k 0, 512, .inl (fun j => nI (R j)))), (rb, .inl (k 0, 512, .inl (fun j => nI (RB j)))), (mr, .inl (k 0, 512, .inl (fun j => nI (MR j)))), (mpp, .inl (k 0, 512, .inl (fun j => nI (MP j)))), (af, .inl (k 0, 4096, .inl (fun j => nI (AF j)))), (rs, .inl (k 0, 36, .inl RS)), (to, .inl (k 1, 4, .inr (.inl TO))), (wt, .inr (2, [.ref wtw, .ref wtv, .int (nI wz)])), (wtw, .inl (k 0, 6, .inl WF)), (wtv, .inl (k 0, 6, .inl WG)), (bo, .inr (0, [.ref bow, .int (nI bz), .ref bov])), (bow, .inl (k 0, 36, .inl BF)), (bov, .inl (k 0, 36, .inl BG)), (za 2, .inl (k 0, 3, .inl (fun j => nI (LR j)))), (za 3, .inl (k 0, 3, .inl (fun j => nI (LQ j)))), (za 4, .inl (k 0, 3, .inl (fun j => nI (CE j)))), (za 5, .inl (k 0, 3, .inl (fun j => nI (zz j)))), (za 6, .inl (k 0, 24, .inl RO)), (za 7, .inl (k 0, 24, .inl RH)), (za 8, .inl (k 0, 24, .inl RP)), (za 9, .inl (k 0, 36, .inl FO)), (za 10, .inl (k 0, 36, .inl (fun j => nI (FP j)))), (za 11, .inl (k 0, 36, .inl (fun j => nI (FN j)))), (za 12, .inl (k 2, 108, .inl IO)), (za 14, .inl (k 0, 36, .inl RS)), (za 15, .inl (k 1, 4, .inr (.inl TO))), (za 17, .inl (k 2, 512, .inl (fun j => bI ((uTH (fV w)) j)))), (za 18, .inl (k 1, 512, .inr (.inl (fun j => lN ((uCO (fV w)) j))))), (za 19, .inl (k 0, 512, .inl (fun j => nI ((uRK (fV w)) j)))), (za 20, .inl (k 2, 512, .inl (fun j => bI ((uTX (fV w)) j)))), (za 21, .inl (k 1, 512, .inr (.inl (fun j => lN ((uCX (fV w)) j))))), (za 22, .inl (k 0, 512, .inl (fun j => nI ((uKX (fV w)) j)))), (za 23, .inl (k 0, 18432, .inl (fun j => nI ((uWY (fV w)) j)))), (za 24, .inl (k 2, 4096, .inl (fun j => bI ((uSE (fV w)) j)))), (za 25, .inl (k 0, 4096, .inl (fun j => nI ((uPL (fV w)) j)))), (za 26, .inl (k 0, 3, .inl (uHN (fV w)))), (za 27, .inl (k 0, 3, .inl (uPN (fV w)))), (za 30, .inl (k 0, 36, .inl (fun j => nI ((fPA w) j)))), (za 33, .inl (k 0, 6, .inl WF)), (za 34, .inl (k 0, 6, .inl WG)), (za 36, .inl (k 0, 36, .inl BF)), (za 37, .inl (k 0, 36, .inl BG)), (x0, .inr (6, [.ref pl, .ref ho, .ref rs, .ref to, .ref wt, .ref bo])), (pl, .inr (4, [.ref ho, .ref sa, .int (nI ov), .int (nI sta), .int (nI stl), .ref se, .ref ab, .ref he, .ref po, .ref sx, .ref be])), (ou, .inl (k 1, 1, .inr (.inl OUT)))]) (b_runV (As := [.int (nI h), .int (nI 0), .int (xs (i + 3))]) (rest := []) (q0 := 50) hm hw (cwV 3 hts (gV ut_T k_746 k_743 k_744 (k_745) k_9) rfl rfl rfl (by decide +kernel) ⟨by decide, by decide⟩) (c_Md_hour_t20 l D k _ md za th cn ov sn (fK w) (fF w) (fC w) wz bz h (xs (i + 3)) (by assumption) (by assumption) (by assumption) (by assumption)) [50] (by decide) rfl rfl rfl rfl hl.1 rfl (Nat.le_of_ble_eq_true rfl) d_Lw_law_332 ⟨by show cells + 1 + 0 ≤ room_1.cells; omega, by show slots + 6 + 0 ≤ room_1.slots; omega⟩) hw [50] [0, 1, 2, 3, 4, 5, 6, 7, 8, 9, 10, 11, 12, 13, 14, 15, 16, 17, 18, 19, 20, 21, 22, 23, 24, 25, 26, 27, 28, 29, 30, 31, 32, 33, 34, 35, 36, 37, 38, 39, 40, 41, 42, 43, 44, 45, 46, 47, 48, 49, 51, 52, 53, 54, 55, 56, 57, 58, 59, 60, 61, 62, 63, 64, 65, 66, 67, 68, 69, 70, 71, 72, 73, 74, 75, 76, 77, 78, 79, 80, 81, 82] rfl rfl (by decide) (by decide) (fun r8 u8 H locs hp8 hw => ?_)
  refine lv_istore (lv' := [(6, .int r8), (5, .int (nI 2)), (0, .ref b), (1, .ref x0), (2, .ref md), (3, .ref ou), (4, .int (nI i))]) hx hb d_Lw_law_335  hl (by decide) rfl (fun ls hl => ?_)
  refine lv_aload_n hx hb d_Lw_law_337 rfl (lv_at hl 4 rfl) ?_
  refine b_goiR (b_runV (As := []) (rest := []) (q0 := 82) hm hw (cwV 0 hts (gV ut_T k_726 k_723 k_724 (k_725) k_9) rfl rfl rfl (by decide +kernel) ⟨by decide, by decide⟩) (c_Md_thrown l D k _ md za 2 cn ov sn (fK w) (fF w) (fC w) wz bz) [82] (by decide) rfl rfl rfl rfl hl.1 rfl (Nat.le_of_ble_eq_true rfl) d_Lw_law_338 ⟨by show cells + 1 + 0 + 0 ≤ room_1.cells; omega, by show slots + 6 + 0 + 0 ≤ room_1.slots; omega⟩) hw [82] rfl (fun r5 u5 H locs hp5 hw => ?_)
  refine b_ti (y := nI 2) hp5 ?_
  refine lv_iload hx hb d_Lw_law_341 (lv_at hl 1 rfl) ?_
  refine lv_icmp_eq (tgt := 348) hx hb d_Lw_law_343 (by decide) (fun c_343_0 => ?_) (fun c_343_0 => ?_)
  · skip
    refine lv_iload hx hb d_Lw_law_348 (lv_at hl 1 rfl) ?_
    refine lv_if_ne (tgt := 365) hx hb d_Lw_law_350 (by decide) (fun c_350_1 => ?_) (fun c_350_1 => ?_)
    · skip
      refine lv_goto (tgt := 1147) hx hb d_Lw_law_365 (by decide) ?_
      refine W.widen (k := cells + 1) (n := slots + 6) (by show cells + 1 + 0 + 0 ≤ cells + 1; omega) (by show slots + 6 + 0 + 0 ≤ slots + 6; omega) ?_
      refine kx H locs ls (LST_mk (th := 2) (cn := cn) (ov := ov) (sta := sta) (stl := stl) (n := n) (wz := wz) (bz := bz) (sn := sn) (lr := lr) (lp := lp) (sc := sc) (zz := zz) (FP := FP) (FN := FN) (AB := AB) (HE := HE) (PO := PO) (SX := SX) (R := R) (RB := RB) (MR := MR) (MP := MP) (AF := AF) (BE := BE) (FO := FO) (SE := SE) (WF := WF) (WG := WG) (BF := BF) (BG := BG) (RS := RS) (TO := TO) (LF := LF) (LG := LG) (LP := LP) (OU := OU) (LR := LR) (LQ := LQ) (CE := CE) (RO := RO) (RH := RH) (RP := RP) (IO := IO) (w := w) (OUT := OUT) (hI := hI) (hw.sub [79, 0, 1, 2, 3, 4, 5, 6, 7, 8, 9, 10, 11, 12, 13, 14, 15, 16, 17, 18, 19, 20, 21, 22, 23, 24, 25, 26, 27, 28, 29, 80, 30, 31, 32, 33, 34, 35, 36, 37, 38, 39, 40, 41, 42, 43, 44, 45, 46, 47, 48, 49, 82, 50, 51, 52, 53, 54, 55, 56, 57, 58, 59, 60, 61, 62, 63, 64, 65, 66, 67, 68, 69, 70, 71, 72, 73, 74, 75, 76, 77, 78, 81] (by decide) rfl)) (lv_sub hl [2, 3, 4, 5, 6] rfl)
    · skip
      exact absurd c_350_1 (by decide)
  · skip
    exact absurd c_343_0 (by decide)
end CASES
