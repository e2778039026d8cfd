/-! the law's cases: which of them it is -/
theorem mk_of {cn : Nat} {u : Int32} (hc : cn ≤ 3) (h : nI 0 ≤ u ∧ u < nI cn) : ∃ k, k < cn ∧ u = nI k := by
  have h1 : u ≤ nI 3 := by
    have a := Int32.lt_iff_toInt_lt.mp h.2
    rw [nI_T (by omega)] at a
    rw [Int32.le_iff_toInt_le, nI_T (by omega)]; omega
  obtain ⟨k, k1, -, e⟩ := in_of (a := 0) (c := 3) (by omega) ⟨h.1, h1⟩
  refine ⟨k, ?_, e⟩
  have a := Int32.lt_iff_toInt_lt.mp h.2
  rw [e, nI_T (by omega), nI_T (by omega)] at a
  omega
section KASES
variable {l : Launch} {D : va_G} {k : Nat → ClassId} {p : Program} {e : Env} {s : State} {m : MethodId} {below : List Frame} {meth : Method} {c : Code} {A : Nat → Prop} {b L i cells slots : Nat} {xs : Nat → Int32} {Q : State → Prop} {H : Heap} {locs : List Loc} {ls : Array Slot}
variable {x0 ho pl rs to wt bo ma fa se ab he po sx be sa rc rb mr mpp af m0 m1 m2 f0 f1 f2 wtw wtv bow bov md ou : Nat} {hq ha hv pq pa pv oq za : Nat → Nat} 
theorem K_machine (h0 : LwH p l s m meth c A b L xs) (hi5 : i + 5 ≤ L) (hf : cells + 1 ≤ room_1.cells ∧ slots + 6 ≤ room_1.slots) (kx : ∀ (H : Heap) (locs : List Loc) (ls : Array Slot), LST D k A s H locs x0 ho pl rs to wt bo ma fa se ab he po sx be sa rc rb mr mpp af m0 m1 m2 f0 f1 f2 wtw wtv bow bov md ou hq ha hv pq pa pv oq za → lv_has ls 8 [(0, .ref b), (1, .ref x0), (2, .ref md), (3, .ref ou), (4, .int (nI i))] → W p l e room_1 s m #[Value.ref b] below meth c H locs (cells + 1) (slots + 6) Q (F0 m 1147 ls [])) (hst : LST D k A s H locs x0 ho pl rs to wt bo ma fa se ab he po sx be sa rc rb mr mpp af m0 m1 m2 f0 f1 f2 wtw wtv bow bov md ou hq ha hv pq pa pv oq za) (hl : lv_has ls 8 [(0, .ref b), (1, .ref x0), (2, .ref md), (3, .ref ou), (4, .int (nI i))]) : W p l e room_1 s m #[Value.ref b] below meth c H locs cells slots Q (F0 m 116 ls []) := by
  obtain ⟨th, cn, ov, sta, stl, n, wz, bz, sn, lr, lp, sc, zz, FP, FN, AB, HE, PO, SX, R, RB, MR, MP, AF, BE, FO, SE, WF, WG, BF, BG, RS, TO, LF, LG, LP, OU, LR, LQ, CE, RO, RH, RP, IO, w, OUT, hI, hw⟩ := hst
  have hc3 := hI.1.1
  by_cases v : (nI 1 ≤ xs (i + 1) ∧ xs (i + 1) ≤ nI 4) ∧ (nI 1 ≤ xs (i + 2) ∧ xs (i + 2) ≤ nI 4) ∧ (nI 0 ≤ xs (i + 3) ∧ xs (i + 3) ≤ nI 100000)
  · obtain ⟨a, a2, a1, e1⟩ := in_of (a := 1) (c := 4) (by omega) v.1
    obtain ⟨b9, b2, b1, e2⟩ := in_of (a := 1) (c := 4) (by omega) v.2.1
    obtain ⟨q, q2, -, e3⟩ := in_of (a := 0) (c := 100000) (by omega) v.2.2
    by_cases z : cn = 3 ∨ 0 < ov
    · exact L_machine_t2 h0 hi5 hf kx hI hw hl ⟨a1, a2⟩ ⟨b1, b2⟩ q2 z e1 e2 e3
    · have z2 : ov = 0 := by omega
      subst z2
      exact L_machine h0 hi5 hf kx hI hw hl ⟨a1, a2⟩ ⟨b1, b2⟩ q2 (by omega) e1 e2 e3
  · exact L_machine_t1 h0 hi5 hf kx hI hw hl v
theorem K_row (h0 : LwH p l s m meth c A b L xs) (hi5 : i + 5 ≤ L) (hf : cells + 1 ≤ room_1.cells ∧ slots + 6 ≤ room_1.slots) (kx : ∀ (H : Heap) (locs : List Loc) (ls : Array Slot), LST D k A s H locs x0 ho pl rs to wt bo ma fa se ab he po sx be sa rc rb mr mpp af m0 m1 m2 f0 f1 f2 wtw wtv bow bov md ou hq ha hv pq pa pv oq za → lv_has ls 8 [(0, .ref b), (1, .ref x0), (2, .ref md), (3, .ref ou), (4, .int (nI i))] → W p l e room_1 s m #[Value.ref b] below meth c H locs (cells + 1) (slots + 6) Q (F0 m 1147 ls [])) (hst : LST D k A s H locs x0 ho pl rs to wt bo ma fa se ab he po sx be sa rc rb mr mpp af m0 m1 m2 f0 f1 f2 wtw wtv bow bov md ou hq ha hv pq pa pv oq za) (hl : lv_has ls 8 [(0, .ref b), (1, .ref x0), (2, .ref md), (3, .ref ou), (4, .int (nI i))]) : W p l e room_1 s m #[Value.ref b] below meth c H locs cells slots Q (F0 m 196 ls []) := by
  obtain ⟨th, cn, ov, sta, stl, n, wz, bz, sn, lr, lp, sc, zz, FP, FN, AB, HE, PO, SX, R, RB, MR, MP, AF, BE, FO, SE, WF, WG, BF, BG, RS, TO, LF, LG, LP, OU, LR, LQ, CE, RO, RH, RP, IO, w, OUT, hI, hw⟩ := hst
  have hc3 := hI.1.1
  by_cases v : (nI 0 ≤ xs (i + 1) ∧ xs (i + 1) < nI cn) ∧ ((-5000) ≤ xs (i + 2) ∧ xs (i + 2) ≤ nI 5000) ∧ (nI 0 ≤ xs (i + 3) ∧ xs (i + 3) ≤ nI 100000) ∧ (nI 0 ≤ xs (i + 4) ∧ xs (i + 4) ≤ nI 100000)
  · obtain ⟨kk, hk, e1⟩ := mk_of hc3 v.1
    by_cases z : lnRoom 8 (LF kk) (zz kk) (xs (i + 2))
    · exact L_row h0 hi5 hf kx hI hw hl hk v.2.1 v.2.2.1 v.2.2.2 z e1
    · exact L_row_t2 h0 hi5 hf kx hI hw hl hk v.2.1 v.2.2.1 v.2.2.2 z e1
  · exact L_row_t1 h0 hi5 hf kx hI hw hl v
theorem K_hour (h0 : LwH p l s m meth c A b L xs) (hi5 : i + 5 ≤ L) (hf : cells + 1 ≤ room_1.cells ∧ slots + 6 ≤ room_1.slots) (kx : ∀ (H : Heap) (locs : List Loc) (ls : Array Slot), LST D k A s H locs x0 ho pl rs to wt bo ma fa se ab he po sx be sa rc rb mr mpp af m0 m1 m2 f0 f1 f2 wtw wtv bow bov md ou hq ha hv pq pa pv oq za → lv_has ls 8 [(0, .ref b), (1, .ref x0), (2, .ref md), (3, .ref ou), (4, .int (nI i))] → W p l e room_1 s m #[Value.ref b] below meth c H locs (cells + 1) (slots + 6) Q (F0 m 1147 ls [])) (hst : LST D k A s H locs x0 ho pl rs to wt bo ma fa se ab he po sx be sa rc rb mr mpp af m0 m1 m2 f0 f1 f2 wtw wtv bow bov md ou hq ha hv pq pa pv oq za) (hl : lv_has ls 8 [(0, .ref b), (1, .ref x0), (2, .ref md), (3, .ref ou), (4, .int (nI i))]) : W p l e room_1 s m #[Value.ref b] below meth c H locs cells slots Q (F0 m 288 ls []) := by
  obtain ⟨th, cn, ov, sta, stl, n, wz, bz, sn, lr, lp, sc, zz, FP, FN, AB, HE, PO, SX, R, RB, MR, MP, AF, BE, FO, SE, WF, WG, BF, BG, RS, TO, LF, LG, LP, OU, LR, LQ, CE, RO, RH, RP, IO, w, OUT, hI, hw⟩ := hst
  have hc3 := hI.1.1
  by_cases v : (nI 0 ≤ xs (i + 1) ∧ xs (i + 1) ≤ nI 35) ∧ ((xs (i + 2) = 0 ∧ ((-5000) ≤ xs (i + 3) ∧ xs (i + 3) ≤ nI 5000)) ∨ (xs (i + 2) = nI 1 ∧ (nI 0 ≤ xs (i + 3) ∧ xs (i + 3) ≤ nI 1000)) ∨ (xs (i + 2) = nI 2 ∧ (nI 0 ≤ xs (i + 3) ∧ xs (i + 3) ≤ nI 100000)))
  · obtain ⟨h, h2, -, e1⟩ := in_of (a := 0) (c := 35) (by omega) v.1
    have hh : h < 36 := by omega
    rcases v.2 with ⟨e2, z⟩ | ⟨e2, z⟩ | ⟨e2, z⟩
    · by_cases t : ov ≤ h
      · exact L_hour0 h0 hi5 hf kx hI hw hl hh z t e1 e2
      · exact L_hour_t20 h0 hi5 hf kx hI hw hl hh z (by omega) e1 e2
    · obtain ⟨y, y2, -, e3⟩ := in_of (a := 0) (c := 1000) (by omega) z
      by_cases t : ov ≤ h
      · exact L_hour1 h0 hi5 hf kx hI hw hl hh y2 t e1 e2 e3
      · exact L_hour_t21 h0 hi5 hf kx hI hw hl hh y2 (by omega) e1 e2 e3
    · obtain ⟨y, y2, -, e3⟩ := in_of (a := 0) (c := 100000) (by omega) z
      by_cases t : ov ≤ h
      · exact L_hour2 h0 hi5 hf kx hI hw hl hh y2 t e1 e2 e3
      · exact L_hour_t22 h0 hi5 hf kx hI hw hl hh y2 (by omega) e1 e2 e3
  · exact L_hour_t1 h0 hi5 hf kx hI hw hl v
theorem K_out (h0 : LwH p l s m meth c A b L xs) (hi5 : i + 5 ≤ L) (hf : cells + 1 ≤ room_1.cells ∧ slots + 6 ≤ room_1.slots) (kx : ∀ (H : Heap) (locs : List Loc) (ls : Array Slot), LST D k A s H locs x0 ho pl rs to wt bo ma fa se ab he po sx be sa rc rb mr mpp af m0 m1 m2 f0 f1 f2 wtw wtv bow bov md ou hq ha hv pq pa pv oq za → lv_has ls 8 [(0, .ref b), (1, .ref x0), (2, .ref md), (3, .ref ou), (4, .int (nI i))] → W p l e room_1 s m #[Value.ref b] below meth c H locs (cells + 1) (slots + 6) Q (F0 m 1147 ls [])) (hst : LST D k A s H locs x0 ho pl rs to wt bo ma fa se ab he po sx be sa rc rb mr mpp af m0 m1 m2 f0 f1 f2 wtw wtv bow bov md ou hq ha hv pq pa pv oq za) (hl : lv_has ls 8 [(0, .ref b), (1, .ref x0), (2, .ref md), (3, .ref ou), (4, .int (nI i))]) : W p l e room_1 s m #[Value.ref b] below meth c H locs cells slots Q (F0 m 368 ls []) := by
  obtain ⟨th, cn, ov, sta, stl, n, wz, bz, sn, lr, lp, sc, zz, FP, FN, AB, HE, PO, SX, R, RB, MR, MP, AF, BE, FO, SE, WF, WG, BF, BG, RS, TO, LF, LG, LP, OU, LR, LQ, CE, RO, RH, RP, IO, w, OUT, hI, hw⟩ := hst
  have hc3 := hI.1.1
  by_cases e3 : xs (i + 3) = 0
  · by_cases v : (nI 0 ≤ xs (i + 1) ∧ xs (i + 1) < nI cn) ∧ (nI 0 ≤ xs (i + 2) ∧ xs (i + 2) ≤ nI 35)
    · obtain ⟨kk, hk, e1⟩ := mk_of hc3 v.1
      obtain ⟨h, h2, -, e2⟩ := in_of (a := 0) (c := 35) (by omega) v.2
      by_cases t : ov ≤ h
      · exact L_out0 h0 hi5 hf kx hI hw hl hk (by omega) t e3 e1 e2
      · exact L_out_t20 h0 hi5 hf kx hI hw hl hk (by omega) (by omega) e3 e1 e2
    · exact L_out_t10 h0 hi5 hf kx hI hw hl v e3
  · by_cases v : (nI 0 ≤ xs (i + 1) ∧ xs (i + 1) < nI cn) ∧ (nI 0 ≤ xs (i + 2) ∧ xs (i + 2) ≤ nI 35)
    · obtain ⟨kk, hk, e1⟩ := mk_of hc3 v.1
      obtain ⟨h, h2, -, e2⟩ := in_of (a := 0) (c := 35) (by omega) v.2
      by_cases t : ov ≤ h
      · exact L_out1 h0 hi5 hf kx hI hw hl hk (by omega) t e3 e1 e2
      · exact L_out_t21 h0 hi5 hf kx hI hw hl hk (by omega) (by omega) e3 e1 e2
    · exact L_out_t11 h0 hi5 hf kx hI hw hl v e3
theorem K_gives (h0 : LwH p l s m meth c A b L xs) (hi5 : i + 5 ≤ L) (hf : cells + 1 ≤ room_1.cells ∧ slots + 6 ≤ room_1.slots) (kx : ∀ (H : Heap) (locs : List Loc) (ls : Array Slot), LST D k A s H locs x0 ho pl rs to wt bo ma fa se ab he po sx be sa rc rb mr mpp af m0 m1 m2 f0 f1 f2 wtw wtv bow bov md ou hq ha hv pq pa pv oq za → lv_has ls 8 [(0, .ref b), (1, .ref x0), (2, .ref md), (3, .ref ou), (4, .int (nI i))] → W p l e room_1 s m #[Value.ref b] below meth c H locs (cells + 1) (slots + 6) Q (F0 m 1147 ls [])) (hst : LST D k A s H locs x0 ho pl rs to wt bo ma fa se ab he po sx be sa rc rb mr mpp af m0 m1 m2 f0 f1 f2 wtw wtv bow bov md ou hq ha hv pq pa pv oq za) (hl : lv_has ls 8 [(0, .ref b), (1, .ref x0), (2, .ref md), (3, .ref ou), (4, .int (nI i))]) : W p l e room_1 s m #[Value.ref b] below meth c H locs cells slots Q (F0 m 471 ls []) := by
  obtain ⟨th, cn, ov, sta, stl, n, wz, bz, sn, lr, lp, sc, zz, FP, FN, AB, HE, PO, SX, R, RB, MR, MP, AF, BE, FO, SE, WF, WG, BF, BG, RS, TO, LF, LG, LP, OU, LR, LQ, CE, RO, RH, RP, IO, w, OUT, hI, hw⟩ := hst
  have hc3 := hI.1.1
  by_cases v : (nI 0 ≤ xs (i + 1) ∧ xs (i + 1) < nI cn) ∧ ((-5000) ≤ xs (i + 2) ∧ xs (i + 2) ≤ nI 5000) ∧ (nI 0 ≤ xs (i + 3) ∧ xs (i + 3) ≤ nI 1)
  · obtain ⟨kk, hk, e1⟩ := mk_of hc3 v.1
    obtain ⟨q, q2, -, e3⟩ := in_of (a := 0) (c := 1) (by omega) v.2.2
    exact L_gives h0 hi5 hf kx hI hw hl hk (by omega) v.2.1 e1 e3
  · exact L_gives_t1 h0 hi5 hf kx hI hw hl v
theorem K_cost (h0 : LwH p l s m meth c A b L xs) (hi5 : i + 5 ≤ L) (hf : cells + 1 ≤ room_1.cells ∧ slots + 6 ≤ room_1.slots) (kx : ∀ (H : Heap) (locs : List Loc) (ls : Array Slot), LST D k A s H locs x0 ho pl rs to wt bo ma fa se ab he po sx be sa rc rb mr mpp af m0 m1 m2 f0 f1 f2 wtw wtv bow bov md ou hq ha hv pq pa pv oq za → lv_has ls 8 [(0, .ref b), (1, .ref x0), (2, .ref md), (3, .ref ou), (4, .int (nI i))] → W p l e room_1 s m #[Value.ref b] below meth c H locs (cells + 1) (slots + 6) Q (F0 m 1147 ls [])) (hst : LST D k A s H locs x0 ho pl rs to wt bo ma fa se ab he po sx be sa rc rb mr mpp af m0 m1 m2 f0 f1 f2 wtw wtv bow bov md ou hq ha hv pq pa pv oq za) (hl : lv_has ls 8 [(0, .ref b), (1, .ref x0), (2, .ref md), (3, .ref ou), (4, .int (nI i))]) : W p l e room_1 s m #[Value.ref b] below meth c H locs cells slots Q (F0 m 551 ls []) := by
  obtain ⟨th, cn, ov, sta, stl, n, wz, bz, sn, lr, lp, sc, zz, FP, FN, AB, HE, PO, SX, R, RB, MR, MP, AF, BE, FO, SE, WF, WG, BF, BG, RS, TO, LF, LG, LP, OU, LR, LQ, CE, RO, RH, RP, IO, w, OUT, hI, hw⟩ := hst
  have hc3 := hI.1.1
  exact L_cost h0 hi5 hf kx hI hw hl
theorem K_planned (h0 : LwH p l s m meth c A b L xs) (hi5 : i + 5 ≤ L) (hf : cells + 1 ≤ room_1.cells ∧ slots + 6 ≤ room_1.slots) (kx : ∀ (H : Heap) (locs : List Loc) (ls : Array Slot), LST D k A s H locs x0 ho pl rs to wt bo ma fa se ab he po sx be sa rc rb mr mpp af m0 m1 m2 f0 f1 f2 wtw wtv bow bov md ou hq ha hv pq pa pv oq za → lv_has ls 8 [(0, .ref b), (1, .ref x0), (2, .ref md), (3, .ref ou), (4, .int (nI i))] → W p l e room_1 s m #[Value.ref b] below meth c H locs (cells + 1) (slots + 6) Q (F0 m 1147 ls [])) (hst : LST D k A s H locs x0 ho pl rs to wt bo ma fa se ab he po sx be sa rc rb mr mpp af m0 m1 m2 f0 f1 f2 wtw wtv bow bov md ou hq ha hv pq pa pv oq za) (hl : lv_has ls 8 [(0, .ref b), (1, .ref x0), (2, .ref md), (3, .ref ou), (4, .int (nI i))]) : W p l e room_1 s m #[Value.ref b] below meth c H locs cells slots Q (F0 m 565 ls []) := by
  obtain ⟨th, cn, ov, sta, stl, n, wz, bz, sn, lr, lp, sc, zz, FP, FN, AB, HE, PO, SX, R, RB, MR, MP, AF, BE, FO, SE, WF, WG, BF, BG, RS, TO, LF, LG, LP, OU, LR, LQ, CE, RO, RH, RP, IO, w, OUT, hI, hw⟩ := hst
  have hc3 := hI.1.1
  by_cases v : (nI 0 ≤ xs (i + 1) ∧ xs (i + 1) ≤ nI 35)
  · obtain ⟨h, h2, h1, e1⟩ := in_of (a := 0) (c := 35) (by omega) v
    exact L_planned h0 hi5 hf kx hI hw hl (by omega) e1
  · exact L_planned_t1 h0 hi5 hf kx hI hw hl v
theorem K_starts (h0 : LwH p l s m meth c A b L xs) (hi5 : i + 5 ≤ L) (hf : cells + 1 ≤ room_1.cells ∧ slots + 6 ≤ room_1.slots) (kx : ∀ (H : Heap) (locs : List Loc) (ls : Array Slot), LST D k A s H locs x0 ho pl rs to wt bo ma fa se ab he po sx be sa rc rb mr mpp af m0 m1 m2 f0 f1 f2 wtw wtv bow bov md ou hq ha hv pq pa pv oq za → lv_has ls 8 [(0, .ref b), (1, .ref x0), (2, .ref md), (3, .ref ou), (4, .int (nI i))] → W p l e room_1 s m #[Value.ref b] below meth c H locs (cells + 1) (slots + 6) Q (F0 m 1147 ls [])) (hst : LST D k A s H locs x0 ho pl rs to wt bo ma fa se ab he po sx be sa rc rb mr mpp af m0 m1 m2 f0 f1 f2 wtw wtv bow bov md ou hq ha hv pq pa pv oq za) (hl : lv_has ls 8 [(0, .ref b), (1, .ref x0), (2, .ref md), (3, .ref ou), (4, .int (nI i))]) : W p l e room_1 s m #[Value.ref b] below meth c H locs cells slots Q (F0 m 621 ls []) := by
  obtain ⟨th, cn, ov, sta, stl, n, wz, bz, sn, lr, lp, sc, zz, FP, FN, AB, HE, PO, SX, R, RB, MR, MP, AF, BE, FO, SE, WF, WG, BF, BG, RS, TO, LF, LG, LP, OU, LR, LQ, CE, RO, RH, RP, IO, w, OUT, hI, hw⟩ := hst
  have hc3 := hI.1.1
  by_cases v : (nI 0 ≤ xs (i + 1) ∧ xs (i + 1) < nI cn)
  · obtain ⟨kk, hk, e1⟩ := mk_of hc3 v
    exact L_starts h0 hi5 hf kx hI hw hl hk e1
  · exact L_starts_t1 h0 hi5 hf kx hI hw hl v
theorem K_run (h0 : LwH p l s m meth c A b L xs) (hi5 : i + 5 ≤ L) (hf : cells + 1 ≤ room_1.cells ∧ slots + 6 ≤ room_1.slots) (kx : ∀ (H : Heap) (locs : List Loc) (ls : Array Slot), LST D k A s H locs x0 ho pl rs to wt bo ma fa se ab he po sx be sa rc rb mr mpp af m0 m1 m2 f0 f1 f2 wtw wtv bow bov md ou hq ha hv pq pa pv oq za → lv_has ls 8 [(0, .ref b), (1, .ref x0), (2, .ref md), (3, .ref ou), (4, .int (nI i))] → W p l e room_1 s m #[Value.ref b] below meth c H locs (cells + 1) (slots + 6) Q (F0 m 1147 ls [])) (hst : LST D k A s H locs x0 ho pl rs to wt bo ma fa se ab he po sx be sa rc rb mr mpp af m0 m1 m2 f0 f1 f2 wtw wtv bow bov md ou hq ha hv pq pa pv oq za) (hl : lv_has ls 8 [(0, .ref b), (1, .ref x0), (2, .ref md), (3, .ref ou), (4, .int (nI i))]) : W p l e room_1 s m #[Value.ref b] below meth c H locs cells slots Q (F0 m 677 ls []) := by
  obtain ⟨th, cn, ov, sta, stl, n, wz, bz, sn, lr, lp, sc, zz, FP, FN, AB, HE, PO, SX, R, RB, MR, MP, AF, BE, FO, SE, WF, WG, BF, BG, RS, TO, LF, LG, LP, OU, LR, LQ, CE, RO, RH, RP, IO, w, OUT, hI, hw⟩ := hst
  have hc3 := hI.1.1
  by_cases v : (nI 1 ≤ xs (i + 1) ∧ xs (i + 1) ≤ nI 36)
  · obtain ⟨h, h2, h1, e1⟩ := in_of (a := 1) (c := 36) (by omega) v
    exact L_run h0 hi5 hf kx hI hw hl h1 h2 e1
  · exact L_run_t1 h0 hi5 hf kx hI hw hl v
theorem K_ran (h0 : LwH p l s m meth c A b L xs) (hi5 : i + 5 ≤ L) (hf : cells + 1 ≤ room_1.cells ∧ slots + 6 ≤ room_1.slots) (kx : ∀ (H : Heap) (locs : List Loc) (ls : Array Slot), LST D k A s H locs x0 ho pl rs to wt bo ma fa se ab he po sx be sa rc rb mr mpp af m0 m1 m2 f0 f1 f2 wtw wtv bow bov md ou hq ha hv pq pa pv oq za → lv_has ls 8 [(0, .ref b), (1, .ref x0), (2, .ref md), (3, .ref ou), (4, .int (nI i))] → W p l e room_1 s m #[Value.ref b] below meth c H locs (cells + 1) (slots + 6) Q (F0 m 1147 ls [])) (hst : LST D k A s H locs x0 ho pl rs to wt bo ma fa se ab he po sx be sa rc rb mr mpp af m0 m1 m2 f0 f1 f2 wtw wtv bow bov md ou hq ha hv pq pa pv oq za) (hl : lv_has ls 8 [(0, .ref b), (1, .ref x0), (2, .ref md), (3, .ref ou), (4, .int (nI i))]) : W p l e room_1 s m #[Value.ref b] below meth c H locs cells slots Q (F0 m 733 ls []) := by
  obtain ⟨th, cn, ov, sta, stl, n, wz, bz, sn, lr, lp, sc, zz, FP, FN, AB, HE, PO, SX, R, RB, MR, MP, AF, BE, FO, SE, WF, WG, BF, BG, RS, TO, LF, LG, LP, OU, LR, LQ, CE, RO, RH, RP, IO, w, OUT, hI, hw⟩ := hst
  have hc3 := hI.1.1
  by_cases v : (nI 0 ≤ xs (i + 1) ∧ xs (i + 1) ≤ nI 35)
  · obtain ⟨h, h2, h1, e1⟩ := in_of (a := 0) (c := 35) (by omega) v
    exact L_ran h0 hi5 hf kx hI hw hl (by omega) e1
  · exact L_ran_t1 h0 hi5 hf kx hI hw hl v
theorem K_told (h0 : LwH p l s m meth c A b L xs) (hi5 : i + 5 ≤ L) (hf : cells + 1 ≤ room_1.cells ∧ slots + 6 ≤ room_1.slots) (kx : ∀ (H : Heap) (locs : List Loc) (ls : Array Slot), LST D k A s H locs x0 ho pl rs to wt bo ma fa se ab he po sx be sa rc rb mr mpp af m0 m1 m2 f0 f1 f2 wtw wtv bow bov md ou hq ha hv pq pa pv oq za → lv_has ls 8 [(0, .ref b), (1, .ref x0), (2, .ref md), (3, .ref ou), (4, .int (nI i))] → W p l e room_1 s m #[Value.ref b] below meth c H locs (cells + 1) (slots + 6) Q (F0 m 1147 ls [])) (hst : LST D k A s H locs x0 ho pl rs to wt bo ma fa se ab he po sx be sa rc rb mr mpp af m0 m1 m2 f0 f1 f2 wtw wtv bow bov md ou hq ha hv pq pa pv oq za) (hl : lv_has ls 8 [(0, .ref b), (1, .ref x0), (2, .ref md), (3, .ref ou), (4, .int (nI i))]) : W p l e room_1 s m #[Value.ref b] below meth c H locs cells slots Q (F0 m 789 ls []) := by
  obtain ⟨th, cn, ov, sta, stl, n, wz, bz, sn, lr, lp, sc, zz, FP, FN, AB, HE, PO, SX, R, RB, MR, MP, AF, BE, FO, SE, WF, WG, BF, BG, RS, TO, LF, LG, LP, OU, LR, LQ, CE, RO, RH, RP, IO, w, OUT, hI, hw⟩ := hst
  have hc3 := hI.1.1
  by_cases v : (nI 0 ≤ xs (i + 1) ∧ xs (i + 1) ≤ nI 3)
  · obtain ⟨h, h2, h1, e1⟩ := in_of (a := 0) (c := 3) (by omega) v
    exact L_told h0 hi5 hf kx hI hw hl (by omega) e1
  · exact L_told_t1 h0 hi5 hf kx hI hw hl v
theorem K_corner (h0 : LwH p l s m meth c A b L xs) (hi5 : i + 5 ≤ L) (hf : cells + 1 ≤ room_1.cells ∧ slots + 6 ≤ room_1.slots) (kx : ∀ (H : Heap) (locs : List Loc) (ls : Array Slot), LST D k A s H locs x0 ho pl rs to wt bo ma fa se ab he po sx be sa rc rb mr mpp af m0 m1 m2 f0 f1 f2 wtw wtv bow bov md ou hq ha hv pq pa pv oq za → lv_has ls 8 [(0, .ref b), (1, .ref x0), (2, .ref md), (3, .ref ou), (4, .int (nI i))] → W p l e room_1 s m #[Value.ref b] below meth c H locs (cells + 1) (slots + 6) Q (F0 m 1147 ls [])) (hst : LST D k A s H locs x0 ho pl rs to wt bo ma fa se ab he po sx be sa rc rb mr mpp af m0 m1 m2 f0 f1 f2 wtw wtv bow bov md ou hq ha hv pq pa pv oq za) (hl : lv_has ls 8 [(0, .ref b), (1, .ref x0), (2, .ref md), (3, .ref ou), (4, .int (nI i))]) : W p l e room_1 s m #[Value.ref b] below meth c H locs cells slots Q (F0 m 844 ls []) := by
  obtain ⟨th, cn, ov, sta, stl, n, wz, bz, sn, lr, lp, sc, zz, FP, FN, AB, HE, PO, SX, R, RB, MR, MP, AF, BE, FO, SE, WF, WG, BF, BG, RS, TO, LF, LG, LP, OU, LR, LQ, CE, RO, RH, RP, IO, w, OUT, hI, hw⟩ := hst
  have hc3 := hI.1.1
  by_cases v : ((-5000) ≤ xs (i + 1) ∧ xs (i + 1) ≤ nI 5000) ∧ (nI 0 ≤ xs (i + 2) ∧ xs (i + 2) ≤ nI 10000)
  · by_cases z : lnRoom 6 WF wz (xs (i + 1))
    · exact L_corner h0 hi5 hf kx hI hw hl v.1 v.2 z
    · exact L_corner_t2 h0 hi5 hf kx hI hw hl v.1 v.2 z
  · exact L_corner_t1 h0 hi5 hf kx hI hw hl v
theorem K_curve (h0 : LwH p l s m meth c A b L xs) (hi5 : i + 5 ≤ L) (hf : cells + 1 ≤ room_1.cells ∧ slots + 6 ≤ room_1.slots) (kx : ∀ (H : Heap) (locs : List Loc) (ls : Array Slot), LST D k A s H locs x0 ho pl rs to wt bo ma fa se ab he po sx be sa rc rb mr mpp af m0 m1 m2 f0 f1 f2 wtw wtv bow bov md ou hq ha hv pq pa pv oq za → lv_has ls 8 [(0, .ref b), (1, .ref x0), (2, .ref md), (3, .ref ou), (4, .int (nI i))] → W p l e room_1 s m #[Value.ref b] below meth c H locs (cells + 1) (slots + 6) Q (F0 m 1147 ls [])) (hst : LST D k A s H locs x0 ho pl rs to wt bo ma fa se ab he po sx be sa rc rb mr mpp af m0 m1 m2 f0 f1 f2 wtw wtv bow bov md ou hq ha hv pq pa pv oq za) (hl : lv_has ls 8 [(0, .ref b), (1, .ref x0), (2, .ref md), (3, .ref ou), (4, .int (nI i))]) : W p l e room_1 s m #[Value.ref b] below meth c H locs cells slots Q (F0 m 912 ls []) := by
  obtain ⟨th, cn, ov, sta, stl, n, wz, bz, sn, lr, lp, sc, zz, FP, FN, AB, HE, PO, SX, R, RB, MR, MP, AF, BE, FO, SE, WF, WG, BF, BG, RS, TO, LF, LG, LP, OU, LR, LQ, CE, RO, RH, RP, IO, w, OUT, hI, hw⟩ := hst
  have hc3 := hI.1.1
  by_cases v : ((-5000) ≤ xs (i + 1) ∧ xs (i + 1) ≤ nI 5000)
  · exact L_curve h0 hi5 hf kx hI hw hl v
  · exact L_curve_t1 h0 hi5 hf kx hI hw hl v
theorem K_ground (h0 : LwH p l s m meth c A b L xs) (hi5 : i + 5 ≤ L) (hf : cells + 1 ≤ room_1.cells ∧ slots + 6 ≤ room_1.slots) (kx : ∀ (H : Heap) (locs : List Loc) (ls : Array Slot), LST D k A s H locs x0 ho pl rs to wt bo ma fa se ab he po sx be sa rc rb mr mpp af m0 m1 m2 f0 f1 f2 wtw wtv bow bov md ou hq ha hv pq pa pv oq za → lv_has ls 8 [(0, .ref b), (1, .ref x0), (2, .ref md), (3, .ref ou), (4, .int (nI i))] → W p l e room_1 s m #[Value.ref b] below meth c H locs (cells + 1) (slots + 6) Q (F0 m 1147 ls [])) (hst : LST D k A s H locs x0 ho pl rs to wt bo ma fa se ab he po sx be sa rc rb mr mpp af m0 m1 m2 f0 f1 f2 wtw wtv bow bov md ou hq ha hv pq pa pv oq za) (hl : lv_has ls 8 [(0, .ref b), (1, .ref x0), (2, .ref md), (3, .ref ou), (4, .int (nI i))]) : W p l e room_1 s m #[Value.ref b] below meth c H locs cells slots Q (F0 m 968 ls []) := by
  obtain ⟨th, cn, ov, sta, stl, n, wz, bz, sn, lr, lp, sc, zz, FP, FN, AB, HE, PO, SX, R, RB, MR, MP, AF, BE, FO, SE, WF, WG, BF, BG, RS, TO, LF, LG, LP, OU, LR, LQ, CE, RO, RH, RP, IO, w, OUT, hI, hw⟩ := hst
  have hc3 := hI.1.1
  have hz := hI.2.2.2.2.2.2.1.1
  by_cases v : (nI 0 ≤ xs (i + 1) ∧ xs (i + 1) ≤ nI 1000) ∧ (bz = 0 ∨ BF (bz - 1) ≤ xs (i + 1))
  · by_cases z : bz = 36
    · exact L_ground_t2 h0 hi5 hf kx hI hw hl v z
    · exact L_ground h0 hi5 hf kx hI hw hl v (by omega)
  · exact L_ground_t1 h0 hi5 hf kx hI hw hl v
theorem K_load (h0 : LwH p l s m meth c A b L xs) (hi5 : i + 5 ≤ L) (hf : cells + 1 ≤ room_1.cells ∧ slots + 6 ≤ room_1.slots) (kx : ∀ (H : Heap) (locs : List Loc) (ls : Array Slot), LST D k A s H locs x0 ho pl rs to wt bo ma fa se ab he po sx be sa rc rb mr mpp af m0 m1 m2 f0 f1 f2 wtw wtv bow bov md ou hq ha hv pq pa pv oq za → lv_has ls 8 [(0, .ref b), (1, .ref x0), (2, .ref md), (3, .ref ou), (4, .int (nI i))] → W p l e room_1 s m #[Value.ref b] below meth c H locs (cells + 1) (slots + 6) Q (F0 m 1147 ls [])) (hst : LST D k A s H locs x0 ho pl rs to wt bo ma fa se ab he po sx be sa rc rb mr mpp af m0 m1 m2 f0 f1 f2 wtw wtv bow bov md ou hq ha hv pq pa pv oq za) (hl : lv_has ls 8 [(0, .ref b), (1, .ref x0), (2, .ref md), (3, .ref ou), (4, .int (nI i))]) : W p l e room_1 s m #[Value.ref b] below meth c H locs cells slots Q (F0 m 1024 ls []) := by
  obtain ⟨th, cn, ov, sta, stl, n, wz, bz, sn, lr, lp, sc, zz, FP, FN, AB, HE, PO, SX, R, RB, MR, MP, AF, BE, FO, SE, WF, WG, BF, BG, RS, TO, LF, LG, LP, OU, LR, LQ, CE, RO, RH, RP, IO, w, OUT, hI, hw⟩ := hst
  have hc3 := hI.1.1
  by_cases v : (nI 0 ≤ xs (i + 1) ∧ xs (i + 1) ≤ nI 35) ∧ ((-1000) ≤ xs (i + 2) ∧ xs (i + 2) ≤ nI 1000)
  · obtain ⟨h, h2, -, e1⟩ := in_of (a := 0) (c := 35) (by omega) v.1
    exact L_load h0 hi5 hf kx hI hw hl (by omega) v.2 e1
  · exact L_load_t1 h0 hi5 hf kx hI hw hl v
theorem K_fall (h0 : LwH p l s m meth c A b L xs) (hi5 : i + 5 ≤ L) (hf : cells + 1 ≤ room_1.cells ∧ slots + 6 ≤ room_1.slots) (kx : ∀ (H : Heap) (locs : List Loc) (ls : Array Slot), LST D k A s H locs x0 ho pl rs to wt bo ma fa se ab he po sx be sa rc rb mr mpp af m0 m1 m2 f0 f1 f2 wtw wtv bow bov md ou hq ha hv pq pa pv oq za → lv_has ls 8 [(0, .ref b), (1, .ref x0), (2, .ref md), (3, .ref ou), (4, .int (nI i))] → W p l e room_1 s m #[Value.ref b] below meth c H locs (cells + 1) (slots + 6) Q (F0 m 1147 ls [])) (hst : LST D k A s H locs x0 ho pl rs to wt bo ma fa se ab he po sx be sa rc rb mr mpp af m0 m1 m2 f0 f1 f2 wtw wtv bow bov md ou hq ha hv pq pa pv oq za) (hl : lv_has ls 8 [(0, .ref b), (1, .ref x0), (2, .ref md), (3, .ref ou), (4, .int (nI i))]) : W p l e room_1 s m #[Value.ref b] below meth c H locs cells slots Q (F0 m 1092 ls []) := by
  obtain ⟨th, cn, ov, sta, stl, n, wz, bz, sn, lr, lp, sc, zz, FP, FN, AB, HE, PO, SX, R, RB, MR, MP, AF, BE, FO, SE, WF, WG, BF, BG, RS, TO, LF, LG, LP, OU, LR, LQ, CE, RO, RH, RP, IO, w, OUT, hI, hw⟩ := hst
  have hc3 := hI.1.1
  by_cases v : (nI 0 ≤ xs (i + 1) ∧ xs (i + 1) ≤ nI 35)
  · obtain ⟨h, h2, h1, e1⟩ := in_of (a := 0) (c := 35) (by omega) v
    exact L_fall h0 hi5 hf kx hI hw hl (by omega) e1
  · exact L_fall_t1 h0 hi5 hf kx hI hw hl v
end KASES
