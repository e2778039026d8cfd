/-! the law's ground: its world, reading the script, calls that change nothing -/
theorem ut_T : ∀ w ∈ ut, w ∈ lw_tbl := fun _ h => ut_in h
abbrev LWW (k : Nat → ClassId) (x0 ho pl rs to wt bo ma fa se ab he po sx be sa rc rb mr mpp af m0 m1 m2 f0 f1 f2 wtw wtv bow bov md ou : Nat) (hq ha hv pq pa pv oq za : Nat → Nat) (th cn ov sta stl n wz bz sn : Nat) (lr lp sc zz FP FN AB HE PO SX R RB MR MP AF : Nat → Nat) (BE : Nat → Option Nat) (FO SE WF WG BF BG RS : Nat → Int32) (TO : Nat → Int64) (LF LG LP OU : Nat → Nat → Int32) (LR LQ CE : Nat → Nat) (RO RH RP IO : Nat → Int32) (w : fdS) (OUT : Nat → Int64) : va_W := [(x0, .inr (6, [.ref pl, .ref ho, .ref rs, .ref to, .ref wt, .ref bo])), (ho, .inr (1, [.ref ma, .int (nI cn), .ref fa])), (ma, .inl (k 3, 3, .inr (.inr (.inr (.inr (mAd m0 m1 m2)))))), (fa, .inl (k 4, 3, .inr (.inr (.inr (.inr (mAd f0 f1 f2)))))), (f0, .inl (k 0, 36, .inl FO)), (f1, .inl (k 0, 36, .inl (fun j => nI (FP j)))), (f2, .inl (k 0, 36, .inl (fun j => nI (FN j)))), (m0, .inr (3, [.int (nI (lr 0)), .int (nI (lp 0)), .int (nI (sc 0)), .ref (hq 0), .ref (pq 0), .ref (oq 0)])), (hq 0, .inr (2, [.ref (ha 0), .ref (hv 0), .int (nI (zz 0))])), (ha 0, .inl (k 0, 8, .inl (LF 0))), (hv 0, .inl (k 0, 8, .inl (LG 0))), (pq 0, .inr (2, [.ref (pa 0), .ref (pv 0), .int (nI (zz 0))])), (pa 0, .inl (k 0, 8, .inl (LF 0))), (pv 0, .inl (k 0, 8, .inl (LP 0))), (oq 0, .inl (k 2, 36, .inl (OU 0))), (m1, .inr (3, [.int (nI (lr 1)), .int (nI (lp 1)), .int (nI (sc 1)), .ref (hq 1), .ref (pq 1), .ref (oq 1)])), (hq 1, .inr (2, [.ref (ha 1), .ref (hv 1), .int (nI (zz 1))])), (ha 1, .inl (k 0, 8, .inl (LF 1))), (hv 1, .inl (k 0, 8, .inl (LG 1))), (pq 1, .inr (2, [.ref (pa 1), .ref (pv 1), .int (nI (zz 1))])), (pa 1, .inl (k 0, 8, .inl (LF 1))), (pv 1, .inl (k 0, 8, .inl (LP 1))), (oq 1, .inl (k 2, 36, .inl (OU 1))), (m2, .inr (3, [.int (nI (lr 2)), .int (nI (lp 2)), .int (nI (sc 2)), .ref (hq 2), .ref (pq 2), .ref (oq 2)])), (hq 2, .inr (2, [.ref (ha 2), .ref (hv 2), .int (nI (zz 2))])), (ha 2, .inl (k 0, 8, .inl (LF 2))), (hv 2, .inl (k 0, 8, .inl (LG 2))), (pq 2, .inr (2, [.ref (pa 2), .ref (pv 2), .int (nI (zz 2))])), (pa 2, .inl (k 0, 8, .inl (LF 2))), (pv 2, .inl (k 0, 8, .inl (LP 2))), (oq 2, .inl (k 2, 36, .inl (OU 2))), (pl, .inr (4, [.ref ho, .ref sa, .int (nI ov), .int (nI sta), .int (nI stl), .ref se, .ref ab, .ref he, .ref po, .ref sx, .ref be])), (se, .inl (k 0, 36, .inl SE)), (ab, .inl (k 0, 36, .inl (fun j => nI (AB j)))), (he, .inl (k 0, 288, .inl (fun j => nI (HE j)))), (po, .inl (k 0, 288, .inl (fun j => nI (PO j)))), (sx, .inl (k 0, 8, .inl (fun j => nI (SX j)))), (be, .inl (k 1, 18944, .inr (.inl (fun j => oL (BE j))))), (sa, .inr (5, [.ref rc, .int (nI n), .ref rb, .ref mr, .ref mpp, .ref af])), (rc, .inl (k 0, 512, .inl (fun j => nI (R j)))), (rb, .inl (k 0, 512, .inl (fun j => nI (RB j)))), (mr, .inl (k 0, 512, .inl (fun j => nI (MR j)))), (mpp, .inl (k 0, 512, .inl (fun j => nI (MP j)))), (af, .inl (k 0, 4096, .inl (fun j => nI (AF j)))), (rs, .inl (k 0, 36, .inl RS)), (to, .inl (k 1, 4, .inr (.inl TO))), (wt, .inr (2, [.ref wtw, .ref wtv, .int (nI wz)])), (wtw, .inl (k 0, 6, .inl WF)), (wtv, .inl (k 0, 6, .inl WG)), (bo, .inr (0, [.ref bow, .int (nI bz), .ref bov])), (bow, .inl (k 0, 36, .inl BF)), (bov, .inl (k 0, 36, .inl BG)), (md, .inr (7, mdL za th cn ov sn (fK w) (fF w) (fC w) wz bz)), (za 2, .inl (k 0, 3, .inl (fun j => nI (LR j)))), (za 3, .inl (k 0, 3, .inl (fun j => nI (LQ j)))), (za 4, .inl (k 0, 3, .inl (fun j => nI (CE j)))), (za 5, .inl (k 0, 3, .inl (fun j => nI (zz j)))), (za 6, .inl (k 0, 24, .inl RO)), (za 7, .inl (k 0, 24, .inl RH)), (za 8, .inl (k 0, 24, .inl RP)), (za 9, .inl (k 0, 36, .inl FO)), (za 10, .inl (k 0, 36, .inl (fun j => nI (FP j)))), (za 11, .inl (k 0, 36, .inl (fun j => nI (FN j)))), (za 12, .inl (k 2, 108, .inl IO)), (za 14, .inl (k 0, 36, .inl RS)), (za 15, .inl (k 1, 4, .inr (.inl TO))), (za 17, .inl (k 2, 512, .inl (fun j => bI ((uTH (fV w)) j)))), (za 18, .inl (k 1, 512, .inr (.inl (fun j => lN ((uCO (fV w)) j))))), (za 19, .inl (k 0, 512, .inl (fun j => nI ((uRK (fV w)) j)))), (za 20, .inl (k 2, 512, .inl (fun j => bI ((uTX (fV w)) j)))), (za 21, .inl (k 1, 512, .inr (.inl (fun j => lN ((uCX (fV w)) j))))), (za 22, .inl (k 0, 512, .inl (fun j => nI ((uKX (fV w)) j)))), (za 23, .inl (k 0, 18432, .inl (fun j => nI ((uWY (fV w)) j)))), (za 24, .inl (k 2, 4096, .inl (fun j => bI ((uSE (fV w)) j)))), (za 25, .inl (k 0, 4096, .inl (fun j => nI ((uPL (fV w)) j)))), (za 26, .inl (k 0, 3, .inl (uHN (fV w)))), (za 27, .inl (k 0, 3, .inl (uPN (fV w)))), (za 30, .inl (k 0, 36, .inl (fun j => nI ((fPA w) j)))), (za 33, .inl (k 0, 6, .inl WF)), (za 34, .inl (k 0, 6, .inl WG)), (za 36, .inl (k 0, 36, .inl BF)), (za 37, .inl (k 0, 36, .inl BG)), (ou, .inl (k 1, 1, .inr (.inl OUT)))]
def LST (D : va_G) (k : Nat → ClassId) (A : Nat → Prop) (s : State) (H : Heap) (locs : List Loc) (x0 ho pl rs to wt bo ma fa se ab he po sx be sa rc rb mr mpp af m0 m1 m2 f0 f1 f2 wtw wtv bow bov md ou : Nat) (hq ha hv pq pa pv oq za : Nat → Nat) : Prop := ∃ (th cn ov sta stl n wz bz sn : Nat) (lr lp sc zz FP FN AB HE PO SX R RB MR MP AF : Nat → Nat) (BE : Nat → Option Nat) (FO SE WF WG BF BG RS : Nat → Int32) (TO : Nat → Int64) (LF LG LP OU : Nat → Nat → Int32) (LR LQ CE : Nat → Nat) (RO RH RP IO : Nat → Int32) (w : fdS) (OUT : Nat → Int64), lwI cn ov sta stl n wz bz lr lp sc zz FP FN AB HE PO SX R RB MR MP AF BE FO SE WF WG BF LF LG LP OU sn LR LQ CE RO RH RP IO w ∧ bW (gU D k) A s H locs (LWW k x0 ho pl rs to wt bo ma fa se ab he po sx be sa rc rb mr mpp af m0 m1 m2 f0 f1 f2 wtw wtv bow bov md ou hq ha hv pq pa pv oq za th cn ov sta stl n wz bz sn lr lp sc zz FP FN AB HE PO SX R RB MR MP AF BE FO SE WF WG BF BG RS TO LF LG LP OU LR LQ CE RO RH RP IO w OUT)
theorem LST_mk {D : va_G} {k : Nat → ClassId} {A : Nat → Prop} {s : State} {H : Heap} {locs : List Loc} {x0 ho pl rs to wt bo ma fa se ab he po sx be sa rc rb mr mpp af m0 m1 m2 f0 f1 f2 wtw wtv bow bov md ou : Nat} {hq ha hv pq pa pv oq za : Nat → Nat} {th cn ov sta stl n wz bz sn : Nat} {lr lp sc zz FP FN AB HE PO SX R RB MR MP AF : Nat → Nat} {BE : Nat → Option Nat} {FO SE WF WG BF BG RS : Nat → Int32} {TO : Nat → Int64} {LF LG LP OU : Nat → Nat → Int32} {LR LQ CE : Nat → Nat} {RO RH RP IO : Nat → Int32} {w : fdS} {OUT : Nat → Int64} (hI : lwI cn ov sta stl n wz bz lr lp sc zz FP FN AB HE PO SX R RB MR MP AF BE FO SE WF WG BF LF LG LP OU sn LR LQ CE RO RH RP IO w) (hw : bW (gU D k) A s H locs (LWW k x0 ho pl rs to wt bo ma fa se ab he po sx be sa rc rb mr mpp af m0 m1 m2 f0 f1 f2 wtw wtv bow bov md ou hq ha hv pq pa pv oq za th cn ov sta stl n wz bz sn lr lp sc zz FP FN AB HE PO SX R RB MR MP AF BE FO SE WF WG BF BG RS TO LF LG LP OU LR LQ CE RO RH RP IO w OUT)) : LST D k A s H locs x0 ho pl rs to wt bo ma fa se ab he po sx be sa rc rb mr mpp af m0 m1 m2 f0 f1 f2 wtw wtv bow bov md ou hq ha hv pq pa pv oq za := ⟨th, cn, ov, sta, stl, n, wz, bz, sn, lr, lp, sc, zz, FP, FN, AB, HE, PO, SX, R, RB, MR, MP, AF, BE, FO, SE, WF, WG, BF, BG, RS, TO, LF, LG, LP, OU, LR, LQ, CE, RO, RH, RP, IO, w, OUT, hI, hw⟩
def LwH (p : Program) (l : Launch) (s : State) (m : MethodId) (meth : Method) (c : Code) (A : Nat → Prop) (b L : Nat) (xs : Nat → Int32) : Prop :=
  bM p s m #[Value.ref b] meth c "HeatMachinesLaw" b_Lw_law 8 ret lw_tbl ∧ bE A s s.heap ∧ va_X b L xs s s.heap ∧ b < s.heap.size ∧ ¬ A b ∧ L ≤ 2560 ∧ l.stackTraces = false
section LAWG
variable {p : Program} {l : Launch} {e : Env} {R : Room} {s : State} {m : MethodId} {args : Array Value} {below : List Frame} {meth : Method} {c : Code} {H : Heap} {locs : List Loc} {cells slots : Nat} {Q : State → Prop}
variable {g : kG} {A : Nat → Prop} {ws wc : va_W} {own : String} {cc : ByteArray} {nL : Nat} {ret0 : Option FieldType} {Ts : List Cond} {pc : Nat} {ls : Array Slot} {rest : List Value}
theorem b_sld {b L j : Nat} {xs : Nat → Int32} (hm : bM p s m args meth c own cc nL ret0 Ts) (hX : va_X b L xs s s.heap) (hbl : b < s.heap.size) (hbA : ¬ A b) (hw : bW g A s H locs ws) (hj : j < L) (hL : L ≤ 2560) (hdg : decode cc pc = .ok (.iaload, 1))
    (kk : W p l e R s m args below meth c H locs cells slots Q (F0 m (pc + 1) ls (.int (xs j) :: rest))) : W p l e R s m args below meth c H locs cells slots Q (F0 m pc ls (.int (nI j) :: .ref b :: rest)) := by
  refine va_sld hm.1 hm.2.1 hX hbl hbA hw.2.2.1 (vp_in_nI hj (by omega)) hdg ?_
  rw [nI_clamp (by omega)]; exact kk
theorem b_goiR {mc ms : Nat} {a : Array Value} {st0 : List Value} {S : Type} {post : Int32 → S → Prop} (hr : va_Run p l e R s m args below meth c H locs cells slots mc ms (F0 m pc ls st0) rest (va_Qi post (fun _ => bQ g (va_A wc H.size) wc) (va_A wc H.size) a) (va_A wc H.size)) (hw : bW g A s H locs ws)
    (isC : List Nat) (hC : isC.map (fun i => ws[i]?) = wc.map some)
    (kk : ∀ (r : Int32) (u : S) (H1 : Heap) (locs1 : List Loc), post r u → bW g A s H1 locs1 ws → W p l e R s m args below meth c H1 locs1 (cells + mc) (slots + ms) Q (F0 m (pc + 3) ls (.int r :: rest))) : W p l e R s m args below meth c H locs cells slots Q (F0 m pc ls st0) := by
  have hF := va_free hw.2.1 hw.2.2.1 hw.2.2.2.2.1 isC hC
  refine va_calli hr hw.2.2.1 (fun q _ h => hF q h) hF (fun r u t H1 locs1 ht _ hp hB _ hk hS => kk r u H1 locs1 hp ⟨fun j q hj => ?_, hw.2.1, hS, hw.2.2.2⟩)
  have hB1 := hB.1
  rw [ht] at hB1
  by_cases hq : ∃ (k' : Nat) (e' : va_E), wc[k']? = some (q.1, e')
  · obtain ⟨k', e', hk'⟩ := hq
    have h1 : (isC.map (fun i => ws[i]?))[k']? = (wc.map some)[k']? := by rw [hC]
    rw [List.getElem?_map, List.getElem?_map, hk'] at h1
    cases h2 : isC[k']? with
    | none => rw [h2] at h1; cases h1
    | some i =>
      rw [h2] at h1
      have h3 : ws[i]? = some (q.1, e') := Option.some.inj h1
      have h4 : i = j := hw.2.1.1 i j _ _ h3 hj rfl
      subst h4
      rw [h3] at hj
      have h5 := Option.some.inj hj
      rw [← h5]
      exact hB1 k' _ hk'
  · have h0 := hw.1 j q hj
    refine h0.kept (hk q.1 h0.lt ?_)
    rintro (⟨k', e', h⟩ | h)
    · exact hq ⟨k', e', h⟩
    · have := h0.lt; omega
end LAWG
theorem lc_eq {x y : Int64} (h : x = y) : lg_cmp x y = 0 := (lg_cmp_eq x y).mpr h
theorem updL_s (f : Nat → Int64) (k : Nat) (x : Int64) : vp_updL f k x k = x := if_pos rfl
theorem out_0 {a b : Int32} (h : a = b) (c : b = 0) : lg_cmp (if a = 0 then (0 : Int64) else 1) 0 = 0 := lc_eq (if_pos (h.trans c))
theorem out_1 {a b : Int32} (h : a = b) (c : ¬ b = 0) : lg_cmp (if a = 0 then (0 : Int64) else 1) 1 = 0 := lc_eq (if_neg (fun z => c (h.symm.trans z)))
theorem nI_all (x : Int32) : ∃ a, x = nI a := by
  refine ⟨x.toBitVec.toNat, Int32.toBitVec_inj.1 ?_⟩
  show x.toBitVec = BitVec.ofNat 32 x.toBitVec.toNat
  rw [BitVec.ofNat_toNat]; exact (BitVec.setWidth_eq _).symm
theorem and15 (x : Int32) : ∃ v, v < 16 ∧ x &&& nI 15 = nI v := by
  obtain ⟨a, rfl⟩ := nI_all x
  refine ⟨a &&& 15, ?_, nI_and a 15⟩
  have := Nat.and_le_right (n := a) (m := 15)
  omega
theorem le5 {L i : Nat} (hL : L ≤ 2560) (hi : i ≤ 3000) (c : ¬ nI L - nI 5 < nI i) : i + 5 ≤ L := by
  rw [Int32.lt_iff_toInt_lt, pk_sub_toInt (by omega) (by omega), nI_toInt (by omega)] at c
  omega
