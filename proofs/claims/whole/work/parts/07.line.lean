/-! the JDK's floorDiv, bitCount; a line: values at rising warmths -/

def fD (x y : Int64) : Int64 := if ¬ 0 ≤ lg_cmp (x ^^^ y) 0 ∧ ¬ lg_cmp (x / y * y) x = 0 then x / y - 1 else x / y
def bcN (f : Nat) : Nat := f % 2 + f / 2 % 2 + f / 4
def lnRoom (n : Nat) (F : Nat → Int32) (z : Nat) (x : Int32) : Prop := z < n ∧ (z = 0 ∨ F (z - 1) < x)
def lnRise (F G : Nat → Int32) (i : Nat) (x : Int32) : Int64 := (G (i + 1) - G i).toInt64 * (x - F i).toInt64
def lnBetw (F G : Nat → Int32) (i : Nat) (x up : Int32) : Int32 := if 0 < F (i + 1) - F i then (if up = 0 then G i + (fD (lnRise F G i x) (F (i + 1) - F i).toInt64).toInt32 else G i + (-fD (-lnRise F G i x) (F (i + 1) - F i).toInt64).toInt32) else G i
/-- the first place whose warmth isn't below x -/
def lnAt (F : Nat → Int32) (z : Nat) (x : Int32) (i : Nat) : Prop := i ≤ z ∧ (∀ j, j < i → F j < x) ∧ (i < z → ¬ F i < x)
def lnRes (F G : Nat → Int32) (z : Nat) (x up : Int32) (i : Nat) : Int32 := if i = z ∨ (i = 0 ∧ ¬ F 0 = x) then -1 else if F i = x then G i else lnBetw F G (i - 1) x up

set_option maxHeartbeats 4000000 in
set_option maxRecDepth 100000 in
theorem c_Ma_floorDiv (l : Launch) (D : va_G) (k : Nat → ClassId) (sz : Nat) (x y : Int64) (hy : ¬ y = 0) : Met l y_Ma_floorDiv (uw y_Ma_floorDiv b_Ma_floorDiv 6 (some .long)) (rU 0 0 0) (va_Pc [.long x, .long y] (bP (gU D k) [] sz)) (va_Ql (fun (r : Int64) (_ : Unit) => r = fD x y) (fun u => bQ (gU D k) (va_A [] sz) ([])) (va_A [] sz)) (rU 0 0 0).cells (rU 0 0 0).slots (va_A [] sz) := by
  refine b_startF (Qc := fun A => va_Ql (fun (r : Int64) (_ : Unit) => r = fD x y) (fun u => bQ (gU D k) A ([])) A) (by decide +kernel) (Nat.le_of_ble_eq_true rfl) ?_
  intro p e s m below meth c A hm hnm hw ls hl
  have hl : lv_has ls 6 [(0, .long x), (2, .long y)] := hl
  have hx := hm.1
  have hb := hm.2.1
  have hown := hm.2.2.2.2.1
  have hts := hm.2.2.2.2.2.1
  refine lv_lload_n hx hb d_Ma_floorDiv_0 rfl (lv_at hl 0 rfl) ?_
  refine lv_lload_n hx hb d_Ma_floorDiv_1 rfl (lv_at hl 1 rfl) ?_
  refine lv_ldiv hx hb d_Ma_floorDiv_2 (by first | assumption | decide) ?_
  refine lv_lstore (lv' := [(4, .long (x / y)), (0, .long x), (2, .long y)]) hx hb d_Ma_floorDiv_3  hl (by decide) rfl (fun ls hl => ?_)
  refine lv_lload_n hx hb d_Ma_floorDiv_5 rfl (lv_at hl 1 rfl) ?_
  refine lv_lload_n hx hb d_Ma_floorDiv_6 rfl (lv_at hl 2 rfl) ?_
  refine lv_lxor hx hb d_Ma_floorDiv_7 ?_
  refine lv_lconst (v := 0) hx hb d_Ma_floorDiv_8 (by decide) ?_
  refine W.lcmp hx hb d_Ma_floorDiv_9 ?_
  refine lv_if_ge (tgt := 27) hx hb d_Ma_floorDiv_10 (by decide) (fun c_10_0 => ?_) (fun c_10_0 => ?_)
  · skip
    refine lv_lload hx hb d_Ma_floorDiv_27 (lv_at hl 0 rfl) ?_
    exact b_lret () hm hw (by unfold fD; grind) d_Ma_floorDiv_29
  · skip
    refine lv_lload hx hb d_Ma_floorDiv_13 (lv_at hl 0 rfl) ?_
    refine lv_lload_n hx hb d_Ma_floorDiv_15 rfl (lv_at hl 2 rfl) ?_
    refine lv_lmul hx hb d_Ma_floorDiv_16 ?_
    refine lv_lload_n hx hb d_Ma_floorDiv_17 rfl (lv_at hl 1 rfl) ?_
    refine W.lcmp hx hb d_Ma_floorDiv_18 ?_
    refine lv_if_eq (tgt := 27) hx hb d_Ma_floorDiv_19 (by decide) (fun c_19_1 => ?_) (fun c_19_1 => ?_)
    · skip
      refine lv_lload hx hb d_Ma_floorDiv_27 (lv_at hl 0 rfl) ?_
      exact b_lret () hm hw (by unfold fD; grind) d_Ma_floorDiv_29
    · skip
      refine lv_lload hx hb d_Ma_floorDiv_22 (lv_at hl 0 rfl) ?_
      refine lv_lconst (v := 1) hx hb d_Ma_floorDiv_24 (by decide) ?_
      refine lv_lsub hx hb d_Ma_floorDiv_25 ?_
      exact b_lret () hm hw (by unfold fD; grind) d_Ma_floorDiv_26

set_option maxHeartbeats 4000000 in
set_option maxRecDepth 100000 in
theorem c_In_bitCount (l : Launch) (D : va_G) (k : Nat → ClassId) (sz : Nat) (f : Nat) (hf : f < 8) : Met l y_In_bitCount (uw y_In_bitCount b_In_bitCount 1 (some .int)) (rU 0 0 0) (va_Pc [.int (nI f)] (bP (gU D k) [] sz)) (va_Qi (fun (r : Int32) (_ : Unit) => r = nI (bcN f)) (fun u => bQ (gU D k) (va_A [] sz) ([])) (va_A [] sz)) (rU 0 0 0).cells (rU 0 0 0).slots (va_A [] sz) := by
  refine b_start (Qc := fun A => va_Qi (fun (r : Int32) (_ : Unit) => r = nI (bcN f)) (fun u => bQ (gU D k) A ([])) A) (by decide +kernel) (Nat.le_of_ble_eq_true rfl) ?_
  intro p e s m below meth c A hm hnm hw ls hl
  have hl : lv_has ls 1 [(0, .int (nI f))] := hl
  have hx := hm.1
  have hb := hm.2.1
  have hown := hm.2.2.2.2.1
  have hts := hm.2.2.2.2.2.1
  refine lv_iload_n hx hb d_In_bitCount_0 rfl (lv_at hl 0 rfl) ?_
  refine lv_iload_n hx hb d_In_bitCount_1 rfl (lv_at hl 0 rfl) ?_
  refine lv_iconst (v := nI 1) hx hb d_In_bitCount_2 (by decide) ?_
  refine lv_iushr (v := ((nI f).toUInt32 >>> ((nI 1).toUInt32 &&& Int32.toUInt32 31)).toInt32) hx hb d_In_bitCount_3 rfl ?_
  refine lv_ldcw (v := 1431655765) hx hb hown (hts _ (uw_of _ k_261)) d_In_bitCount_4 ?_
  refine lv_iand hx hb d_In_bitCount_7 ?_
  refine lv_isub hx hb d_In_bitCount_8 ?_
  refine lv_istore_n (lv' := [(0, .int ((nI f) - ((((nI f).toUInt32 >>> ((nI 1).toUInt32 &&& Int32.toUInt32 31)).toInt32) &&& 1431655765)))]) hx hb d_In_bitCount_9 rfl hl (by decide) rfl (fun ls hl => ?_)
  refine lv_iload_n hx hb d_In_bitCount_10 rfl (lv_at hl 0 rfl) ?_
  refine lv_ldcw (v := 858993459) hx hb hown (hts _ (uw_of _ k_262)) d_In_bitCount_11 ?_
  refine lv_iand hx hb d_In_bitCount_14 ?_
  refine lv_iload_n hx hb d_In_bitCount_15 rfl (lv_at hl 0 rfl) ?_
  refine lv_iconst (v := nI 2) hx hb d_In_bitCount_16 (by decide) ?_
  refine lv_iushr (v := (((nI f) - ((((nI f).toUInt32 >>> ((nI 1).toUInt32 &&& Int32.toUInt32 31)).toInt32) &&& 1431655765)).toUInt32 >>> ((nI 2).toUInt32 &&& Int32.toUInt32 31)).toInt32) hx hb d_In_bitCount_17 rfl ?_
  refine lv_ldcw (v := 858993459) hx hb hown (hts _ (uw_of _ k_262)) d_In_bitCount_18 ?_
  refine lv_iand hx hb d_In_bitCount_21 ?_
  refine lv_iadd hx hb d_In_bitCount_22 ?_
  refine lv_istore_n (lv' := [(0, .int ((((nI f) - ((((nI f).toUInt32 >>> ((nI 1).toUInt32 &&& Int32.toUInt32 31)).toInt32) &&& 1431655765)) &&& 858993459) + (((((nI f) - ((((nI f).toUInt32 >>> ((nI 1).toUInt32 &&& Int32.toUInt32 31)).toInt32) &&& 1431655765)).toUInt32 >>> ((nI 2).toUInt32 &&& Int32.toUInt32 31)).toInt32) &&& 858993459)))]) hx hb d_In_bitCount_23 rfl hl (by decide) rfl (fun ls hl => ?_)
  refine lv_iload_n hx hb d_In_bitCount_24 rfl (lv_at hl 0 rfl) ?_
  refine lv_iload_n hx hb d_In_bitCount_25 rfl (lv_at hl 0 rfl) ?_
  refine lv_iconst (v := nI 4) hx hb d_In_bitCount_26 (by decide) ?_
  refine lv_iushr (v := (((((nI f) - ((((nI f).toUInt32 >>> ((nI 1).toUInt32 &&& Int32.toUInt32 31)).toInt32) &&& 1431655765)) &&& 858993459) + (((((nI f) - ((((nI f).toUInt32 >>> ((nI 1).toUInt32 &&& Int32.toUInt32 31)).toInt32) &&& 1431655765)).toUInt32 >>> ((nI 2).toUInt32 &&& Int32.toUInt32 31)).toInt32) &&& 858993459)).toUInt32 >>> ((nI 4).toUInt32 &&& Int32.toUInt32 31)).toInt32) hx hb d_In_bitCount_27 rfl ?_
  refine lv_iadd hx hb d_In_bitCount_28 ?_
  refine lv_ldcw (v := 252645135) hx hb hown (hts _ (uw_of _ k_263)) d_In_bitCount_29 ?_
  refine lv_iand hx hb d_In_bitCount_32 ?_
  refine lv_istore_n (lv' := [(0, .int ((((((nI f) - ((((nI f).toUInt32 >>> ((nI 1).toUInt32 &&& Int32.toUInt32 31)).toInt32) &&& 1431655765)) &&& 858993459) + (((((nI f) - ((((nI f).toUInt32 >>> ((nI 1).toUInt32 &&& Int32.toUInt32 31)).toInt32) &&& 1431655765)).toUInt32 >>> ((nI 2).toUInt32 &&& Int32.toUInt32 31)).toInt32) &&& 858993459)) + ((((((nI f) - ((((nI f).toUInt32 >>> ((nI 1).toUInt32 &&& Int32.toUInt32 31)).toInt32) &&& 1431655765)) &&& 858993459) + (((((nI f) - ((((nI f).toUInt32 >>> ((nI 1).toUInt32 &&& Int32.toUInt32 31)).toInt32) &&& 1431655765)).toUInt32 >>> ((nI 2).toUInt32 &&& Int32.toUInt32 31)).toInt32) &&& 858993459)).toUInt32 >>> ((nI 4).toUInt32 &&& Int32.toUInt32 31)).toInt32)) &&& 252645135))]) hx hb d_In_bitCount_33 rfl hl (by decide) rfl (fun ls hl => ?_)
  refine lv_iload_n hx hb d_In_bitCount_34 rfl (lv_at hl 0 rfl) ?_
  refine lv_iload_n hx hb d_In_bitCount_35 rfl (lv_at hl 0 rfl) ?_
  refine lv_bipush (v := nI 8) hx hb d_In_bitCount_36 (by decide) ?_
  refine lv_iushr (v := (((((((nI f) - ((((nI f).toUInt32 >>> ((nI 1).toUInt32 &&& Int32.toUInt32 31)).toInt32) &&& 1431655765)) &&& 858993459) + (((((nI f) - ((((nI f).toUInt32 >>> ((nI 1).toUInt32 &&& Int32.toUInt32 31)).toInt32) &&& 1431655765)).toUInt32 >>> ((nI 2).toUInt32 &&& Int32.toUInt32 31)).toInt32) &&& 858993459)) + ((((((nI f) - ((((nI f).toUInt32 >>> ((nI 1).toUInt32 &&& Int32.toUInt32 31)).toInt32) &&& 1431655765)) &&& 858993459) + (((((nI f) - ((((nI f).toUInt32 >>> ((nI 1).toUInt32 &&& Int32.toUInt32 31)).toInt32) &&& 1431655765)).toUInt32 >>> ((nI 2).toUInt32 &&& Int32.toUInt32 31)).toInt32) &&& 858993459)).toUInt32 >>> ((nI 4).toUInt32 &&& Int32.toUInt32 31)).toInt32)) &&& 252645135).toUInt32 >>> ((nI 8).toUInt32 &&& Int32.toUInt32 31)).toInt32) hx hb d_In_bitCount_38 rfl ?_
  refine lv_iadd hx hb d_In_bitCount_39 ?_
  refine lv_istore_n (lv' := [(0, .int (((((((nI f) - ((((nI f).toUInt32 >>> ((nI 1).toUInt32 &&& Int32.toUInt32 31)).toInt32) &&& 1431655765)) &&& 858993459) + (((((nI f) - ((((nI f).toUInt32 >>> ((nI 1).toUInt32 &&& Int32.toUInt32 31)).toInt32) &&& 1431655765)).toUInt32 >>> ((nI 2).toUInt32 &&& Int32.toUInt32 31)).toInt32) &&& 858993459)) + ((((((nI f) - ((((nI f).toUInt32 >>> ((nI 1).toUInt32 &&& Int32.toUInt32 31)).toInt32) &&& 1431655765)) &&& 858993459) + (((((nI f) - ((((nI f).toUInt32 >>> ((nI 1).toUInt32 &&& Int32.toUInt32 31)).toInt32) &&& 1431655765)).toUInt32 >>> ((nI 2).toUInt32 &&& Int32.toUInt32 31)).toInt32) &&& 858993459)).toUInt32 >>> ((nI 4).toUInt32 &&& Int32.toUInt32 31)).toInt32)) &&& 252645135) + ((((((((nI f) - ((((nI f).toUInt32 >>> ((nI 1).toUInt32 &&& Int32.toUInt32 31)).toInt32) &&& 1431655765)) &&& 858993459) + (((((nI f) - ((((nI f).toUInt32 >>> ((nI 1).toUInt32 &&& Int32.toUInt32 31)).toInt32) &&& 1431655765)).toUInt32 >>> ((nI 2).toUInt32 &&& Int32.toUInt32 31)).toInt32) &&& 858993459)) + ((((((nI f) - ((((nI f).toUInt32 >>> ((nI 1).toUInt32 &&& Int32.toUInt32 31)).toInt32) &&& 1431655765)) &&& 858993459) + (((((nI f) - ((((nI f).toUInt32 >>> ((nI 1).toUInt32 &&& Int32.toUInt32 31)).toInt32) &&& 1431655765)).toUInt32 >>> ((nI 2).toUInt32 &&& Int32.toUInt32 31)).toInt32) &&& 858993459)).toUInt32 >>> ((nI 4).toUInt32 &&& Int32.toUInt32 31)).toInt32)) &&& 252645135).toUInt32 >>> ((nI 8).toUInt32 &&& Int32.toUInt32 31)).toInt32)))]) hx hb d_In_bitCount_40 rfl hl (by decide) rfl (fun ls hl => ?_)
  refine lv_iload_n hx hb d_In_bitCount_41 rfl (lv_at hl 0 rfl) ?_
  refine lv_iload_n hx hb d_In_bitCount_42 rfl (lv_at hl 0 rfl) ?_
  refine lv_bipush (v := nI 16) hx hb d_In_bitCount_43 (by decide) ?_
  refine lv_iushr (v := ((((((((nI f) - ((((nI f).toUInt32 >>> ((nI 1).toUInt32 &&& Int32.toUInt32 31)).toInt32) &&& 1431655765)) &&& 858993459) + (((((nI f) - ((((nI f).toUInt32 >>> ((nI 1).toUInt32 &&& Int32.toUInt32 31)).toInt32) &&& 1431655765)).toUInt32 >>> ((nI 2).toUInt32 &&& Int32.toUInt32 31)).toInt32) &&& 858993459)) + ((((((nI f) - ((((nI f).toUInt32 >>> ((nI 1).toUInt32 &&& Int32.toUInt32 31)).toInt32) &&& 1431655765)) &&& 858993459) + (((((nI f) - ((((nI f).toUInt32 >>> ((nI 1).toUInt32 &&& Int32.toUInt32 31)).toInt32) &&& 1431655765)).toUInt32 >>> ((nI 2).toUInt32 &&& Int32.toUInt32 31)).toInt32) &&& 858993459)).toUInt32 >>> ((nI 4).toUInt32 &&& Int32.toUInt32 31)).toInt32)) &&& 252645135) + ((((((((nI f) - ((((nI f).toUInt32 >>> ((nI 1).toUInt32 &&& Int32.toUInt32 31)).toInt32) &&& 1431655765)) &&& 858993459) + (((((nI f) - ((((nI f).toUInt32 >>> ((nI 1).toUInt32 &&& Int32.toUInt32 31)).toInt32) &&& 1431655765)).toUInt32 >>> ((nI 2).toUInt32 &&& Int32.toUInt32 31)).toInt32) &&& 858993459)) + ((((((nI f) - ((((nI f).toUInt32 >>> ((nI 1).toUInt32 &&& Int32.toUInt32 31)).toInt32) &&& 1431655765)) &&& 858993459) + (((((nI f) - ((((nI f).toUInt32 >>> ((nI 1).toUInt32 &&& Int32.toUInt32 31)).toInt32) &&& 1431655765)).toUInt32 >>> ((nI 2).toUInt32 &&& Int32.toUInt32 31)).toInt32) &&& 858993459)).toUInt32 >>> ((nI 4).toUInt32 &&& Int32.toUInt32 31)).toInt32)) &&& 252645135).toUInt32 >>> ((nI 8).toUInt32 &&& Int32.toUInt32 31)).toInt32)).toUInt32 >>> ((nI 16).toUInt32 &&& Int32.toUInt32 31)).toInt32) hx hb d_In_bitCount_45 rfl ?_
  refine lv_iadd hx hb d_In_bitCount_46 ?_
  refine lv_istore_n (lv' := [(0, .int ((((((((nI f) - ((((nI f).toUInt32 >>> ((nI 1).toUInt32 &&& Int32.toUInt32 31)).toInt32) &&& 1431655765)) &&& 858993459) + (((((nI f) - ((((nI f).toUInt32 >>> ((nI 1).toUInt32 &&& Int32.toUInt32 31)).toInt32) &&& 1431655765)).toUInt32 >>> ((nI 2).toUInt32 &&& Int32.toUInt32 31)).toInt32) &&& 858993459)) + ((((((nI f) - ((((nI f).toUInt32 >>> ((nI 1).toUInt32 &&& Int32.toUInt32 31)).toInt32) &&& 1431655765)) &&& 858993459) + (((((nI f) - ((((nI f).toUInt32 >>> ((nI 1).toUInt32 &&& Int32.toUInt32 31)).toInt32) &&& 1431655765)).toUInt32 >>> ((nI 2).toUInt32 &&& Int32.toUInt32 31)).toInt32) &&& 858993459)).toUInt32 >>> ((nI 4).toUInt32 &&& Int32.toUInt32 31)).toInt32)) &&& 252645135) + ((((((((nI f) - ((((nI f).toUInt32 >>> ((nI 1).toUInt32 &&& Int32.toUInt32 31)).toInt32) &&& 1431655765)) &&& 858993459) + (((((nI f) - ((((nI f).toUInt32 >>> ((nI 1).toUInt32 &&& Int32.toUInt32 31)).toInt32) &&& 1431655765)).toUInt32 >>> ((nI 2).toUInt32 &&& Int32.toUInt32 31)).toInt32) &&& 858993459)) + ((((((nI f) - ((((nI f).toUInt32 >>> ((nI 1).toUInt32 &&& Int32.toUInt32 31)).toInt32) &&& 1431655765)) &&& 858993459) + (((((nI f) - ((((nI f).toUInt32 >>> ((nI 1).toUInt32 &&& Int32.toUInt32 31)).toInt32) &&& 1431655765)).toUInt32 >>> ((nI 2).toUInt32 &&& Int32.toUInt32 31)).toInt32) &&& 858993459)).toUInt32 >>> ((nI 4).toUInt32 &&& Int32.toUInt32 31)).toInt32)) &&& 252645135).toUInt32 >>> ((nI 8).toUInt32 &&& Int32.toUInt32 31)).toInt32)) + (((((((((nI f) - ((((nI f).toUInt32 >>> ((nI 1).toUInt32 &&& Int32.toUInt32 31)).toInt32) &&& 1431655765)) &&& 858993459) + (((((nI f) - ((((nI f).toUInt32 >>> ((nI 1).toUInt32 &&& Int32.toUInt32 31)).toInt32) &&& 1431655765)).toUInt32 >>> ((nI 2).toUInt32 &&& Int32.toUInt32 31)).toInt32) &&& 858993459)) + ((((((nI f) - ((((nI f).toUInt32 >>> ((nI 1).toUInt32 &&& Int32.toUInt32 31)).toInt32) &&& 1431655765)) &&& 858993459) + (((((nI f) - ((((nI f).toUInt32 >>> ((nI 1).toUInt32 &&& Int32.toUInt32 31)).toInt32) &&& 1431655765)).toUInt32 >>> ((nI 2).toUInt32 &&& Int32.toUInt32 31)).toInt32) &&& 858993459)).toUInt32 >>> ((nI 4).toUInt32 &&& Int32.toUInt32 31)).toInt32)) &&& 252645135) + ((((((((nI f) - ((((nI f).toUInt32 >>> ((nI 1).toUInt32 &&& Int32.toUInt32 31)).toInt32) &&& 1431655765)) &&& 858993459) + (((((nI f) - ((((nI f).toUInt32 >>> ((nI 1).toUInt32 &&& Int32.toUInt32 31)).toInt32) &&& 1431655765)).toUInt32 >>> ((nI 2).toUInt32 &&& Int32.toUInt32 31)).toInt32) &&& 858993459)) + ((((((nI f) - ((((nI f).toUInt32 >>> ((nI 1).toUInt32 &&& Int32.toUInt32 31)).toInt32) &&& 1431655765)) &&& 858993459) + (((((nI f) - ((((nI f).toUInt32 >>> ((nI 1).toUInt32 &&& Int32.toUInt32 31)).toInt32) &&& 1431655765)).toUInt32 >>> ((nI 2).toUInt32 &&& Int32.toUInt32 31)).toInt32) &&& 858993459)).toUInt32 >>> ((nI 4).toUInt32 &&& Int32.toUInt32 31)).toInt32)) &&& 252645135).toUInt32 >>> ((nI 8).toUInt32 &&& Int32.toUInt32 31)).toInt32)).toUInt32 >>> ((nI 16).toUInt32 &&& Int32.toUInt32 31)).toInt32)))]) hx hb d_In_bitCount_47 rfl hl (by decide) rfl (fun ls hl => ?_)
  refine lv_iload_n hx hb d_In_bitCount_48 rfl (lv_at hl 0 rfl) ?_
  refine lv_bipush (v := nI 63) hx hb d_In_bitCount_49 (by decide) ?_
  refine lv_iand hx hb d_In_bitCount_51 ?_
  exact b_iret () hm hw ((show ∀ f : Nat, f < 8 → ((((((((nI f) - ((((nI f).toUInt32 >>> ((nI 1).toUInt32 &&& Int32.toUInt32 31)).toInt32) &&& 1431655765)) &&& 858993459) + (((((nI f) - ((((nI f).toUInt32 >>> ((nI 1).toUInt32 &&& Int32.toUInt32 31)).toInt32) &&& 1431655765)).toUInt32 >>> ((nI 2).toUInt32 &&& Int32.toUInt32 31)).toInt32) &&& 858993459)) + ((((((nI f) - ((((nI f).toUInt32 >>> ((nI 1).toUInt32 &&& Int32.toUInt32 31)).toInt32) &&& 1431655765)) &&& 858993459) + (((((nI f) - ((((nI f).toUInt32 >>> ((nI 1).toUInt32 &&& Int32.toUInt32 31)).toInt32) &&& 1431655765)).toUInt32 >>> ((nI 2).toUInt32 &&& Int32.toUInt32 31)).toInt32) &&& 858993459)).toUInt32 >>> ((nI 4).toUInt32 &&& Int32.toUInt32 31)).toInt32)) &&& 252645135) + ((((((((nI f) - ((((nI f).toUInt32 >>> ((nI 1).toUInt32 &&& Int32.toUInt32 31)).toInt32) &&& 1431655765)) &&& 858993459) + (((((nI f) - ((((nI f).toUInt32 >>> ((nI 1).toUInt32 &&& Int32.toUInt32 31)).toInt32) &&& 1431655765)).toUInt32 >>> ((nI 2).toUInt32 &&& Int32.toUInt32 31)).toInt32) &&& 858993459)) + ((((((nI f) - ((((nI f).toUInt32 >>> ((nI 1).toUInt32 &&& Int32.toUInt32 31)).toInt32) &&& 1431655765)) &&& 858993459) + (((((nI f) - ((((nI f).toUInt32 >>> ((nI 1).toUInt32 &&& Int32.toUInt32 31)).toInt32) &&& 1431655765)).toUInt32 >>> ((nI 2).toUInt32 &&& Int32.toUInt32 31)).toInt32) &&& 858993459)).toUInt32 >>> ((nI 4).toUInt32 &&& Int32.toUInt32 31)).toInt32)) &&& 252645135).toUInt32 >>> ((nI 8).toUInt32 &&& Int32.toUInt32 31)).toInt32)) + (((((((((nI f) - ((((nI f).toUInt32 >>> ((nI 1).toUInt32 &&& Int32.toUInt32 31)).toInt32) &&& 1431655765)) &&& 858993459) + (((((nI f) - ((((nI f).toUInt32 >>> ((nI 1).toUInt32 &&& Int32.toUInt32 31)).toInt32) &&& 1431655765)).toUInt32 >>> ((nI 2).toUInt32 &&& Int32.toUInt32 31)).toInt32) &&& 858993459)) + ((((((nI f) - ((((nI f).toUInt32 >>> ((nI 1).toUInt32 &&& Int32.toUInt32 31)).toInt32) &&& 1431655765)) &&& 858993459) + (((((nI f) - ((((nI f).toUInt32 >>> ((nI 1).toUInt32 &&& Int32.toUInt32 31)).toInt32) &&& 1431655765)).toUInt32 >>> ((nI 2).toUInt32 &&& Int32.toUInt32 31)).toInt32) &&& 858993459)).toUInt32 >>> ((nI 4).toUInt32 &&& Int32.toUInt32 31)).toInt32)) &&& 252645135) + ((((((((nI f) - ((((nI f).toUInt32 >>> ((nI 1).toUInt32 &&& Int32.toUInt32 31)).toInt32) &&& 1431655765)) &&& 858993459) + (((((nI f) - ((((nI f).toUInt32 >>> ((nI 1).toUInt32 &&& Int32.toUInt32 31)).toInt32) &&& 1431655765)).toUInt32 >>> ((nI 2).toUInt32 &&& Int32.toUInt32 31)).toInt32) &&& 858993459)) + ((((((nI f) - ((((nI f).toUInt32 >>> ((nI 1).toUInt32 &&& Int32.toUInt32 31)).toInt32) &&& 1431655765)) &&& 858993459) + (((((nI f) - ((((nI f).toUInt32 >>> ((nI 1).toUInt32 &&& Int32.toUInt32 31)).toInt32) &&& 1431655765)).toUInt32 >>> ((nI 2).toUInt32 &&& Int32.toUInt32 31)).toInt32) &&& 858993459)).toUInt32 >>> ((nI 4).toUInt32 &&& Int32.toUInt32 31)).toInt32)) &&& 252645135).toUInt32 >>> ((nI 8).toUInt32 &&& Int32.toUInt32 31)).toInt32)).toUInt32 >>> ((nI 16).toUInt32 &&& Int32.toUInt32 31)).toInt32)) &&& (nI 63) = nI (bcN f) by decide) f hf) d_In_bitCount_52

set_option maxHeartbeats 4000000 in
set_option maxRecDepth 100000 in
theorem c_Ln_hasRoomAt (l : Launch) (D : va_G) (k : Nat → ClassId) (sz : Nat) (q w v n : Nat) (F G : Nat → Int32) (z : Nat) (x : Int32) (hz : z ≤ n) (hn : n < 2147483648) : Met l y_Ln_hasRoomAt (uw y_Ln_hasRoomAt b_Ln_hasRoomAt 2 (some .boolean)) (rU 0 0 0) (va_Pc [.ref q, .int x] (bP (gU D k) [(q, .inr (2, [.ref w, .ref v, .int (nI z)])), (w, .inl (k 0, n, .inl F)), (v, .inl (k 0, n, .inl G))] sz)) (va_Qi (fun (r : Int32) (_ : Unit) => (r = 1 ∧ lnRoom n F z x) ∨ (r = 0 ∧ ¬ lnRoom n F z x)) (fun u => bQ (gU D k) (va_A [(q, .inr (2, [.ref w, .ref v, .int (nI z)])), (w, .inl (k 0, n, .inl F)), (v, .inl (k 0, n, .inl G))] sz) ([(q, .inr (2, [.ref w, .ref v, .int (nI z)])), (w, .inl (k 0, n, .inl F)), (v, .inl (k 0, n, .inl G))])) (va_A [(q, .inr (2, [.ref w, .ref v, .int (nI z)])), (w, .inl (k 0, n, .inl F)), (v, .inl (k 0, n, .inl G))] sz)) (rU 0 0 0).cells (rU 0 0 0).slots (va_A [(q, .inr (2, [.ref w, .ref v, .int (nI z)])), (w, .inl (k 0, n, .inl F)), (v, .inl (k 0, n, .inl G))] sz) := by
  refine b_start (Qc := fun A => va_Qi (fun (r : Int32) (_ : Unit) => (r = 1 ∧ lnRoom n F z x) ∨ (r = 0 ∧ ¬ lnRoom n F z x)) (fun u => bQ (gU D k) A ([(q, .inr (2, [.ref w, .ref v, .int (nI z)])), (w, .inl (k 0, n, .inl F)), (v, .inl (k 0, n, .inl G))])) A) (by decide +kernel) (Nat.le_of_ble_eq_true rfl) ?_
  intro p e s m below meth c A hm hnm hw ls hl
  have hl : lv_has ls 2 [(0, .ref q), (1, .int x)] := hl
  have hx := hm.1
  have hb := hm.2.1
  have hown := hm.2.2.2.2.1
  have hts := hm.2.2.2.2.2.1
  refine lv_aload_n hx hb d_Ln_hasRoomAt_0 rfl (lv_at hl 0 rfl) ?_
  refine b_get (T := F_Ln) hm hw 0 rfl rfl (fun w h => uw_of w (u_Ln w h)) 2 (by decide) (uw_of _ k_56) rfl d_Ln_hasRoomAt_1 ?_
  refine lv_aload_n hx hb d_Ln_hasRoomAt_4 rfl (lv_at hl 0 rfl) ?_
  refine b_get (T := F_Ln) hm hw 0 rfl rfl (fun w h => uw_of w (u_Ln w h)) 1 (by decide) (uw_of _ k_55) rfl d_Ln_hasRoomAt_5 ?_
  refine b_alen hm hw 2 0 rfl rfl d_Ln_hasRoomAt_8 ?_
  refine lv_icmp_ge (tgt := 38) hx hb d_Ln_hasRoomAt_9 (by decide) (fun c_9_0 => ?_) (fun c_9_0 => ?_)
  · skip
    have h_9_0 : n ≤ z := yge c_9_0 (by omega) (by omega)
    refine lv_iconst (v := nI 0) hx hb d_Ln_hasRoomAt_38 (by decide) ?_
    exact b_zret () hm hw (Or.inl rfl) (Or.inr ⟨rfl, by unfold lnRoom; grind⟩) d_Ln_hasRoomAt_39
  · skip
    have h_9_0 : z < n := yltN c_9_0 (by omega) (by omega)
    refine lv_aload_n hx hb d_Ln_hasRoomAt_12 rfl (lv_at hl 0 rfl) ?_
    refine b_get (T := F_Ln) hm hw 0 rfl rfl (fun w h => uw_of w (u_Ln w h)) 2 (by decide) (uw_of _ k_56) rfl d_Ln_hasRoomAt_13 ?_
    refine lv_if_eq (tgt := 34) hx hb d_Ln_hasRoomAt_16 (by decide) (fun c_16_1 => ?_) (fun c_16_1 => ?_)
    · skip
      have h_16_1 : z = 0 := yeq0 c_16_1 (by omega) (by omega)
      refine lv_iconst (v := nI 1) hx hb d_Ln_hasRoomAt_34 (by decide) ?_
      refine lv_goto (tgt := 39) hx hb d_Ln_hasRoomAt_35 (by decide) ?_
      exact b_zret () hm hw (Or.inr rfl) (Or.inl ⟨rfl, by unfold lnRoom; grind⟩) d_Ln_hasRoomAt_39
    · skip
      have h_16_1 : z ≠ 0 := yneN0 c_16_1 (by omega) (by omega)
      refine lv_iload_n hx hb d_Ln_hasRoomAt_19 rfl (lv_at hl 1 rfl) ?_
      refine lv_aload_n hx hb d_Ln_hasRoomAt_20 rfl (lv_at hl 0 rfl) ?_
      refine b_get (T := F_Ln) hm hw 0 rfl rfl (fun w h => uw_of w (u_Ln w h)) 0 (by decide) (uw_of _ k_54) rfl d_Ln_hasRoomAt_21 ?_
      refine lv_aload_n hx hb d_Ln_hasRoomAt_24 rfl (lv_at hl 0 rfl) ?_
      refine b_get (T := F_Ln) hm hw 0 rfl rfl (fun w h => uw_of w (u_Ln w h)) 2 (by decide) (uw_of _ k_56) rfl d_Ln_hasRoomAt_25 ?_
      refine lv_iconst (v := nI 1) hx hb d_Ln_hasRoomAt_28 (by decide) ?_
      refine lv_isub hx hb d_Ln_hasRoomAt_29 ?_
      refine b_ti (pk_sub (a := z) (b := 1) (by omega)) ?_
      refine b_iald (i := z - 1) hm hw 1 0 rfl rfl (by omega) (by omega) d_Ln_hasRoomAt_30 ?_
      refine lv_icmp_le (tgt := 38) hx hb d_Ln_hasRoomAt_31 (by decide) (fun c_31_2 => ?_) (fun c_31_2 => ?_)
      · skip
        refine lv_iconst (v := nI 0) hx hb d_Ln_hasRoomAt_38 (by decide) ?_
        exact b_zret () hm hw (Or.inl rfl) (Or.inr ⟨rfl, by unfold lnRoom; grind⟩) d_Ln_hasRoomAt_39
      · skip
        refine lv_iconst (v := nI 1) hx hb d_Ln_hasRoomAt_34 (by decide) ?_
        refine lv_goto (tgt := 39) hx hb d_Ln_hasRoomAt_35 (by decide) ?_
        exact b_zret () hm hw (Or.inr rfl) (Or.inl ⟨rfl, by unfold lnRoom; grind⟩) d_Ln_hasRoomAt_39

set_option maxHeartbeats 4000000 in
set_option maxRecDepth 100000 in
theorem c_Ln_add (l : Launch) (D : va_G) (k : Nat → ClassId) (sz : Nat) (q w v n : Nat) (F G : Nat → Int32) (z : Nat) (x y : Int32) (hz : z ≤ n) (hn : n < 2147483648) (hroom : lnRoom n F z x) : Met l y_Ln_add (uw y_Ln_add b_Ln_add 3 none) (rU 1 0 0) (va_Pc [.ref q, .int x, .int y] (bP (gU D k) [(q, .inr (2, [.ref w, .ref v, .int (nI z)])), (w, .inl (k 0, n, .inl F)), (v, .inl (k 0, n, .inl G))] sz)) (va_Qv (fun (_ : Unit) => True) (fun u => bQ (gU D k) (va_A [(q, .inr (2, [.ref w, .ref v, .int (nI z)])), (w, .inl (k 0, n, .inl F)), (v, .inl (k 0, n, .inl G))] sz) ([(q, .inr (2, [.ref w, .ref v, .int (nI (z + 1))])), (w, .inl (k 0, n, .inl (upd F z x))), (v, .inl (k 0, n, .inl (upd G z y)))])) (va_A [(q, .inr (2, [.ref w, .ref v, .int (nI z)])), (w, .inl (k 0, n, .inl F)), (v, .inl (k 0, n, .inl G))] sz)) (rU 1 0 0).cells (rU 1 0 0).slots (va_A [(q, .inr (2, [.ref w, .ref v, .int (nI z)])), (w, .inl (k 0, n, .inl F)), (v, .inl (k 0, n, .inl G))] sz) := by
  refine b_start (Qc := fun A => va_Qv (fun (_ : Unit) => True) (fun u => bQ (gU D k) A ([(q, .inr (2, [.ref w, .ref v, .int (nI (z + 1))])), (w, .inl (k 0, n, .inl (upd F z x))), (v, .inl (k 0, n, .inl (upd G z y)))])) A) (by decide +kernel) (Nat.le_of_ble_eq_true rfl) ?_
  intro p e s m below meth c A hm hnm hw ls hl
  have hl : lv_has ls 3 [(0, .ref q), (1, .int x), (2, .int y)] := hl
  have hx := hm.1
  have hb := hm.2.1
  have hown := hm.2.2.2.2.1
  have hts := hm.2.2.2.2.2.1
  refine lv_aload_n hx hb d_Ln_add_0 rfl (lv_at hl 0 rfl) ?_
  refine lv_iload_n hx hb d_Ln_add_1 rfl (lv_at hl 1 rfl) ?_
  refine b_goi (wr := []) (b_runV (wc := [(q, .inr (2, [.ref w, .ref v, .int (nI z)])), (w, .inl (k 0, n, .inl F)), (v, .inl (k 0, n, .inl G))]) (As := [.int x]) (rest := []) (q0 := 0) hm hw (cwV 1 hts (gV uw_of k_449 k_454 k_447 (k_448) k_5) rfl rfl rfl (by decide +kernel) ⟨by decide, by decide⟩) (c_Ln_hasRoomAt l D k _ q w v n F G z x hz hn) [0, 1, 2] (by decide) rfl rfl rfl rfl hl.1 rfl (Nat.le_of_ble_eq_true rfl) d_Ln_add_2 ⟨by decide, by decide⟩) hw [0, 1, 2] [] rfl rfl (by decide) (by decide) (fun r _ H locs hp hw => ?_)
  have hw : bW (gU D k) A s H locs [(q, .inr (2, [.ref w, .ref v, .int (nI z)])), (w, .inl (k 0, n, .inl F)), (v, .inl (k 0, n, .inl G))] := hw.sub [0, 1, 2] (by decide) rfl
  refine lv_if_eq (tgt := 38) hx hb d_Ln_add_5 (by decide) (fun c_5_0 => ?_) (fun c_5_0 => ?_)
  · skip
    rcases hp with ⟨rfl, _⟩ | ⟨_, hp⟩; exact absurd c_5_0 (by decide); exact absurd hroom hp
  · skip
    have hzn : z < n := hroom.1
    refine lv_aload_n hx hb d_Ln_add_8 rfl (lv_at hl 0 rfl) ?_
    refine b_get (T := F_Ln) hm hw 0 rfl rfl (fun w h => uw_of w (u_Ln w h)) 0 (by decide) (uw_of _ k_54) rfl d_Ln_add_9 ?_
    refine lv_aload_n hx hb d_Ln_add_12 rfl (lv_at hl 0 rfl) ?_
    refine b_get (T := F_Ln) hm hw 0 rfl rfl (fun w h => uw_of w (u_Ln w h)) 2 (by decide) (uw_of _ k_56) rfl d_Ln_add_13 ?_
    refine lv_iload_n hx hb d_Ln_add_16 rfl (lv_at hl 1 rfl) ?_
    refine b_iast (i := z) hm hw 1 0 rfl rfl (by omega) (by omega) d_Ln_add_17 (w1 := [(q, .inr (2, [.ref w, .ref v, .int (nI z)])), (w, .inl (k 0, n, .inl (upd F z x))), (v, .inl (k 0, n, .inl G))]) rfl (fun H locs hw => ?_)
    refine lv_aload_n hx hb d_Ln_add_18 rfl (lv_at hl 0 rfl) ?_
    refine b_get (T := F_Ln) hm hw 0 rfl rfl (fun w h => uw_of w (u_Ln w h)) 1 (by decide) (uw_of _ k_55) rfl d_Ln_add_19 ?_
    refine lv_aload_n hx hb d_Ln_add_22 rfl (lv_at hl 0 rfl) ?_
    refine b_get (T := F_Ln) hm hw 0 rfl rfl (fun w h => uw_of w (u_Ln w h)) 2 (by decide) (uw_of _ k_56) rfl d_Ln_add_23 ?_
    refine lv_iload_n hx hb d_Ln_add_26 rfl (lv_at hl 2 rfl) ?_
    refine b_iast (i := z) hm hw 2 0 rfl rfl (by omega) (by omega) d_Ln_add_27 (w1 := [(q, .inr (2, [.ref w, .ref v, .int (nI z)])), (w, .inl (k 0, n, .inl (upd F z x))), (v, .inl (k 0, n, .inl (upd G z y)))]) rfl (fun H locs hw => ?_)
    refine lv_aload_n hx hb d_Ln_add_28 rfl (lv_at hl 0 rfl) ?_
    refine lv_dup hx hb d_Ln_add_29 rfl ?_
    refine b_get (T := F_Ln) hm hw 0 rfl rfl (fun w h => uw_of w (u_Ln w h)) 2 (by decide) (uw_of _ k_56) rfl d_Ln_add_30 ?_
    refine lv_iconst (v := nI 1) hx hb d_Ln_add_33 (by decide) ?_
    refine lv_iadd hx hb d_Ln_add_34 ?_
    refine b_ti (nI_add z 1) ?_
    refine b_put (T := F_Ln) hm hw 0 rfl rfl (fun w h => uw_of w (u_Ln w h)) t_Ln t_Ln_ok n_Ln 2 (by decide) (uw_of _ k_56) rfl rfl rfl (Nat.le_of_ble_eq_true rfl) d_Ln_add_35 (w1 := [(q, .inr (2, [.ref w, .ref v, .int (nI (z + 1))])), (w, .inl (k 0, n, .inl (upd F z x))), (v, .inl (k 0, n, .inl (upd G z y)))]) rfl (fun H locs hw => ?_)
    exact b_vret (w' := fun _ => [(q, .inr (2, [.ref w, .ref v, .int (nI (z + 1))])), (w, .inl (k 0, n, .inl (upd F z x))), (v, .inl (k 0, n, .inl (upd G z y)))]) () hm hw trivial d_Ln_add_38

set_option maxHeartbeats 4000000 in
set_option maxRecDepth 100000 in
theorem c_Ln_between (l : Launch) (D : va_G) (k : Nat → ClassId) (sz : Nat) (q w v n : Nat) (F G : Nat → Int32) (z : Nat) (i : Nat) (x up : Int32) (hi : i + 1 < n) (hn : n < 2147483648) : Met l y_Ln_between (uw y_Ln_between b_Ln_between 9 (some .int)) (rU 1 0 0) (va_Pc [.ref q, .int (nI i), .int x, .int up] (bP (gU D k) [(q, .inr (2, [.ref w, .ref v, .int (nI z)])), (w, .inl (k 0, n, .inl F)), (v, .inl (k 0, n, .inl G))] sz)) (va_Qi (fun (r : Int32) (_ : Unit) => r = lnBetw F G i x up) (fun u => bQ (gU D k) (va_A [(q, .inr (2, [.ref w, .ref v, .int (nI z)])), (w, .inl (k 0, n, .inl F)), (v, .inl (k 0, n, .inl G))] sz) ([(q, .inr (2, [.ref w, .ref v, .int (nI z)])), (w, .inl (k 0, n, .inl F)), (v, .inl (k 0, n, .inl G))])) (va_A [(q, .inr (2, [.ref w, .ref v, .int (nI z)])), (w, .inl (k 0, n, .inl F)), (v, .inl (k 0, n, .inl G))] sz)) (rU 1 0 0).cells (rU 1 0 0).slots (va_A [(q, .inr (2, [.ref w, .ref v, .int (nI z)])), (w, .inl (k 0, n, .inl F)), (v, .inl (k 0, n, .inl G))] sz) := by
  refine b_start (Qc := fun A => va_Qi (fun (r : Int32) (_ : Unit) => r = lnBetw F G i x up) (fun u => bQ (gU D k) A ([(q, .inr (2, [.ref w, .ref v, .int (nI z)])), (w, .inl (k 0, n, .inl F)), (v, .inl (k 0, n, .inl G))])) A) (by decide +kernel) (Nat.le_of_ble_eq_true rfl) ?_
  intro p e s m below meth c A hm hnm hw ls hl
  have hl : lv_has ls 9 [(0, .ref q), (1, .int (nI i)), (2, .int x), (3, .int up)] := hl
  have hx := hm.1
  have hb := hm.2.1
  have hown := hm.2.2.2.2.1
  have hts := hm.2.2.2.2.2.1
  refine lv_aload_n hx hb d_Ln_between_0 rfl (lv_at hl 0 rfl) ?_
  refine b_get (T := F_Ln) hm hw 0 rfl rfl (fun w h => uw_of w (u_Ln w h)) 0 (by decide) (uw_of _ k_54) rfl d_Ln_between_1 ?_
  refine lv_iload_n hx hb d_Ln_between_4 rfl (lv_at hl 1 rfl) ?_
  refine lv_iconst (v := nI 1) hx hb d_Ln_between_5 (by decide) ?_
  refine lv_iadd hx hb d_Ln_between_6 ?_
  refine b_ti (nI_add i 1) ?_
  refine b_iald (i := i + 1) hm hw 1 0 rfl rfl (by omega) (by omega) d_Ln_between_7 ?_
  refine lv_aload_n hx hb d_Ln_between_8 rfl (lv_at hl 0 rfl) ?_
  refine b_get (T := F_Ln) hm hw 0 rfl rfl (fun w h => uw_of w (u_Ln w h)) 0 (by decide) (uw_of _ k_54) rfl d_Ln_between_9 ?_
  refine lv_iload_n hx hb d_Ln_between_12 rfl (lv_at hl 1 rfl) ?_
  refine b_iald (i := i) hm hw 1 0 rfl rfl (by omega) (by omega) d_Ln_between_13 ?_
  refine lv_isub hx hb d_Ln_between_14 ?_
  refine lv_istore (lv' := [(4, .int ((F (i + 1)) - (F i))), (0, .ref q), (1, .int (nI i)), (2, .int x), (3, .int up)]) hx hb d_Ln_between_15  hl (by decide) rfl (fun ls hl => ?_)
  refine lv_iload hx hb d_Ln_between_17 (lv_at hl 0 rfl) ?_
  refine lv_if_gt (tgt := 29) hx hb d_Ln_between_19 (by decide) (fun c_19_0 => ?_) (fun c_19_0 => ?_)
  · skip
    refine lv_aload_n hx hb d_Ln_between_29 rfl (lv_at hl 1 rfl) ?_
    refine b_get (T := F_Ln) hm hw 0 rfl rfl (fun w h => uw_of w (u_Ln w h)) 1 (by decide) (uw_of _ k_55) rfl d_Ln_between_30 ?_
    refine lv_iload_n hx hb d_Ln_between_33 rfl (lv_at hl 2 rfl) ?_
    refine lv_iconst (v := nI 1) hx hb d_Ln_between_34 (by decide) ?_
    refine lv_iadd hx hb d_Ln_between_35 ?_
    refine b_ti (nI_add i 1) ?_
    refine b_iald (i := i + 1) hm hw 2 0 rfl rfl (by omega) (by omega) d_Ln_between_36 ?_
    refine lv_aload_n hx hb d_Ln_between_37 rfl (lv_at hl 1 rfl) ?_
    refine b_get (T := F_Ln) hm hw 0 rfl rfl (fun w h => uw_of w (u_Ln w h)) 1 (by decide) (uw_of _ k_55) rfl d_Ln_between_38 ?_
    refine lv_iload_n hx hb d_Ln_between_41 rfl (lv_at hl 2 rfl) ?_
    refine b_iald (i := i) hm hw 2 0 rfl rfl (by omega) (by omega) d_Ln_between_42 ?_
    refine lv_isub hx hb d_Ln_between_43 ?_
    refine lv_i2l (v := ((G (i + 1)) - (G i)).toInt64) hx hb d_Ln_between_44 rfl ?_
    refine lv_iload_n hx hb d_Ln_between_45 rfl (lv_at hl 3 rfl) ?_
    refine lv_aload_n hx hb d_Ln_between_46 rfl (lv_at hl 1 rfl) ?_
    refine b_get (T := F_Ln) hm hw 0 rfl rfl (fun w h => uw_of w (u_Ln w h)) 0 (by decide) (uw_of _ k_54) rfl d_Ln_between_47 ?_
    refine lv_iload_n hx hb d_Ln_between_50 rfl (lv_at hl 2 rfl) ?_
    refine b_iald (i := i) hm hw 1 0 rfl rfl (by omega) (by omega) d_Ln_between_51 ?_
    refine lv_isub hx hb d_Ln_between_52 ?_
    refine lv_i2l (v := (x - (F i)).toInt64) hx hb d_Ln_between_53 rfl ?_
    refine lv_lmul hx hb d_Ln_between_54 ?_
    refine lv_lstore (lv' := [(5, .long ((((G (i + 1)) - (G i)).toInt64) * ((x - (F i)).toInt64))), (4, .int ((F (i + 1)) - (F i))), (0, .ref q), (1, .int (nI i)), (2, .int x), (3, .int up)]) hx hb d_Ln_between_55  hl (by decide) rfl (fun ls hl => ?_)
    refine lv_iload_n hx hb d_Ln_between_57 rfl (lv_at hl 5 rfl) ?_
    refine lv_if_eq (tgt := 74) hx hb d_Ln_between_58 (by decide) (fun c_58_1 => ?_) (fun c_58_1 => ?_)
    · skip
      refine lv_lload hx hb d_Ln_between_74 (lv_at hl 0 rfl) ?_
      refine lv_iload hx hb d_Ln_between_76 (lv_at hl 1 rfl) ?_
      refine lv_i2l (v := ((F (i + 1)) - (F i)).toInt64) hx hb d_Ln_between_78 rfl ?_
      refine b_gol (wr := [(q, .inr (2, [.ref w, .ref v, .int (nI z)])), (w, .inl (k 0, n, .inl F)), (v, .inl (k 0, n, .inl G))]) (b_runS (wc := []) (As := [.long ((((G (i + 1)) - (G i)).toInt64) * ((x - (F i)).toInt64)), .long (((F (i + 1)) - (F i)).toInt64)]) (rest := []) hm hw (va_cwS 2 hts (gS2 uw_of k_249 k_247 k_248 k_6) rfl rfl rfl (by decide +kernel) ⟨by decide, by decide⟩) (c_Ma_floorDiv l D k _ ((((G (i + 1)) - (G i)).toInt64) * ((x - (F i)).toInt64)) (((F (i + 1)) - (F i)).toInt64) (l_ne0 (by assumption))) [] (by decide) rfl rfl hl.1 rfl (Nat.le_of_ble_eq_true rfl) d_Ln_between_79 ⟨by decide, by decide⟩) hw [] [0, 1, 2] rfl rfl (by decide) (by decide) (fun r79 _ H locs hp hw => ?_)
      have hw : bW (gU D k) A s H locs [(q, .inr (2, [.ref w, .ref v, .int (nI z)])), (w, .inl (k 0, n, .inl F)), (v, .inl (k 0, n, .inl G))] := hw.sub [0, 1, 2] (by decide) rfl
      refine lv_lstore (lv' := [(7, .long r79), (5, .long ((((G (i + 1)) - (G i)).toInt64) * ((x - (F i)).toInt64))), (4, .int ((F (i + 1)) - (F i))), (0, .ref q), (1, .int (nI i)), (2, .int x), (3, .int up)]) hx hb d_Ln_between_82  hl (by decide) rfl (fun ls hl => ?_)
      refine lv_aload_n hx hb d_Ln_between_84 rfl (lv_at hl 3 rfl) ?_
      refine b_get (T := F_Ln) hm hw 0 rfl rfl (fun w h => uw_of w (u_Ln w h)) 1 (by decide) (uw_of _ k_55) rfl d_Ln_between_85 ?_
      refine lv_iload_n hx hb d_Ln_between_88 rfl (lv_at hl 4 rfl) ?_
      refine b_iald (i := i) hm hw 2 0 rfl rfl (by omega) (by omega) d_Ln_between_89 ?_
      refine lv_lload hx hb d_Ln_between_90 (lv_at hl 0 rfl) ?_
      refine lv_l2i (v := r79.toInt32) hx hb d_Ln_between_92 rfl ?_
      refine lv_iadd hx hb d_Ln_between_93 ?_
      exact b_iret () hm hw (by unfold lnBetw lnRise; grind) d_Ln_between_94
    · skip
      refine lv_lload hx hb d_Ln_between_61 (lv_at hl 0 rfl) ?_
      refine lv_lneg hx hb d_Ln_between_63 ?_
      refine lv_iload hx hb d_Ln_between_64 (lv_at hl 1 rfl) ?_
      refine lv_i2l (v := ((F (i + 1)) - (F i)).toInt64) hx hb d_Ln_between_66 rfl ?_
      refine b_gol (wr := [(q, .inr (2, [.ref w, .ref v, .int (nI z)])), (w, .inl (k 0, n, .inl F)), (v, .inl (k 0, n, .inl G))]) (b_runS (wc := []) (As := [.long (-((((G (i + 1)) - (G i)).toInt64) * ((x - (F i)).toInt64))), .long (((F (i + 1)) - (F i)).toInt64)]) (rest := []) hm hw (va_cwS 2 hts (gS2 uw_of k_249 k_247 k_248 k_6) rfl rfl rfl (by decide +kernel) ⟨by decide, by decide⟩) (c_Ma_floorDiv l D k _ (-((((G (i + 1)) - (G i)).toInt64) * ((x - (F i)).toInt64))) (((F (i + 1)) - (F i)).toInt64) (l_ne0 (by assumption))) [] (by decide) rfl rfl hl.1 rfl (Nat.le_of_ble_eq_true rfl) d_Ln_between_67 ⟨by decide, by decide⟩) hw [] [0, 1, 2] rfl rfl (by decide) (by decide) (fun r67 _ H locs hp hw => ?_)
      have hw : bW (gU D k) A s H locs [(q, .inr (2, [.ref w, .ref v, .int (nI z)])), (w, .inl (k 0, n, .inl F)), (v, .inl (k 0, n, .inl G))] := hw.sub [0, 1, 2] (by decide) rfl
      refine lv_lneg hx hb d_Ln_between_70 ?_
      refine lv_goto (tgt := 82) hx hb d_Ln_between_71 (by decide) ?_
      refine lv_lstore (lv' := [(7, .long (-r67)), (5, .long ((((G (i + 1)) - (G i)).toInt64) * ((x - (F i)).toInt64))), (4, .int ((F (i + 1)) - (F i))), (0, .ref q), (1, .int (nI i)), (2, .int x), (3, .int up)]) hx hb d_Ln_between_82  hl (by decide) rfl (fun ls hl => ?_)
      refine lv_aload_n hx hb d_Ln_between_84 rfl (lv_at hl 3 rfl) ?_
      refine b_get (T := F_Ln) hm hw 0 rfl rfl (fun w h => uw_of w (u_Ln w h)) 1 (by decide) (uw_of _ k_55) rfl d_Ln_between_85 ?_
      refine lv_iload_n hx hb d_Ln_between_88 rfl (lv_at hl 4 rfl) ?_
      refine b_iald (i := i) hm hw 2 0 rfl rfl (by omega) (by omega) d_Ln_between_89 ?_
      refine lv_lload hx hb d_Ln_between_90 (lv_at hl 0 rfl) ?_
      refine lv_l2i (v := (-r67).toInt32) hx hb d_Ln_between_92 rfl ?_
      refine lv_iadd hx hb d_Ln_between_93 ?_
      exact b_iret () hm hw (by unfold lnBetw lnRise; grind) d_Ln_between_94
  · skip
    refine lv_aload_n hx hb d_Ln_between_22 rfl (lv_at hl 1 rfl) ?_
    refine b_get (T := F_Ln) hm hw 0 rfl rfl (fun w h => uw_of w (u_Ln w h)) 1 (by decide) (uw_of _ k_55) rfl d_Ln_between_23 ?_
    refine lv_iload_n hx hb d_Ln_between_26 rfl (lv_at hl 2 rfl) ?_
    refine b_iald (i := i) hm hw 2 0 rfl rfl (by omega) (by omega) d_Ln_between_27 ?_
    exact b_iret () hm hw (by unfold lnBetw lnRise; grind) d_Ln_between_28

set_option maxHeartbeats 4000000 in
set_option maxRecDepth 100000 in
theorem lp_Ln_valueAt {l : Launch} {D : va_G} {k : Nat → ClassId} {q w v n : Nat} {F G : Nat → Int32} {z : Nat} {x up : Int32} (hz : z ≤ n) (hn : n < 2147483648) {p : Program} {e : Env} {s : State} {m : MethodId} {below : List Frame} {meth : Method} {c : Code} {A : Nat → Prop} (hm : bM p s m (([.ref q, .int x, .int up] : List Value).toArray) meth c "HeatMachines$Line" b_Ln_valueAt 4 (some .int) (uw y_Ln_valueAt b_Ln_valueAt 4 (some .int))) (hnm : meth.name = "valueAt") :
    ∀ (f : Nat) (i : Nat), z + 1 ≤ i + f → i ≤ z → (∀ j, j < i → F j < x) → ∀ (H : Heap) (locs : List Loc) (ls : Array Slot), bW (gU D k) A s H locs [(q, .inr (2, [.ref w, .ref v, .int (nI z)])), (w, .inl (k 0, n, .inl F)), (v, .inl (k 0, n, .inl G))] → lv_has ls 4 [(3, .int (nI i)), (0, .ref q), (1, .int x), (2, .int up)] → W p l e (rU 2 0 0) s m (([.ref q, .int x, .int up] : List Value).toArray) below meth c H locs 0 0 (MQ below (va_Qi (fun (r : Int32) (_ : Unit) => ∃ i, lnAt F z x i ∧ r = lnRes F G z x up i) (fun u => bQ (gU D k) A ([(q, .inr (2, [.ref w, .ref v, .int (nI z)])), (w, .inl (k 0, n, .inl F)), (v, .inl (k 0, n, .inl G))])) A) (([.ref q, .int x, .int up] : List Value).toArray) s (rU 2 0 0).cells (rU 2 0 0).slots A) (F0 m 2 ls []) := by
  have hx := hm.1
  have hb := hm.2.1
  have hown := hm.2.2.2.2.1
  have hts := hm.2.2.2.2.2.1
  intro f
  induction f with
  | zero => intro i hf hi hj; exfalso; omega
  | succ f ih =>
    intro i hf hi hj H locs ls hw hl
    refine lv_iload_n hx hb d_Ln_valueAt_2 rfl (lv_at hl 0 rfl) ?_
    refine lv_aload_n hx hb d_Ln_valueAt_3 rfl (lv_at hl 1 rfl) ?_
    refine b_get (T := F_Ln) hm hw 0 rfl rfl (fun w h => uw_of w (u_Ln w h)) 2 (by decide) (uw_of _ k_56) rfl d_Ln_valueAt_4 ?_
    refine lv_icmp_ge (tgt := 26) hx hb d_Ln_valueAt_7 (by decide) (fun c_7_0 => ?_) (fun c_7_0 => ?_)
    · skip
      have h_7_0 : z ≤ i := yge c_7_0 (by omega) (by omega)
      refine lv_iload_n hx hb d_Ln_valueAt_26 rfl (lv_at hl 0 rfl) ?_
      refine lv_aload_n hx hb d_Ln_valueAt_27 rfl (lv_at hl 1 rfl) ?_
      refine b_get (T := F_Ln) hm hw 0 rfl rfl (fun w h => uw_of w (u_Ln w h)) 2 (by decide) (uw_of _ k_56) rfl d_Ln_valueAt_28 ?_
      refine lv_icmp_eq (tgt := 48) hx hb d_Ln_valueAt_31 (by decide) (fun c_31_1 => ?_) (fun c_31_1 => ?_)
      · skip
        have h_31_1 : i = z := yeq c_31_1 (by omega) (by omega)
        refine lv_iconst (v := (-1)) hx hb d_Ln_valueAt_48 (by decide) ?_
        exact b_iret () hm hw ⟨i, by unfold lnAt; grind, by unfold lnRes; grind⟩ d_Ln_valueAt_49
      · skip
        have h_31_1 : i ≠ z := yneN c_31_1 (by omega) (by omega)
        refine lv_iload_n hx hb d_Ln_valueAt_34 rfl (lv_at hl 0 rfl) ?_
        refine lv_if_ne (tgt := 50) hx hb d_Ln_valueAt_35 (by decide) (fun c_35_2 => ?_) (fun c_35_2 => ?_)
        · skip
          have h_35_2 : i ≠ 0 := yne0 c_35_2 (by omega) (by omega)
          refine lv_aload_n hx hb d_Ln_valueAt_50 rfl (lv_at hl 1 rfl) ?_
          refine b_get (T := F_Ln) hm hw 0 rfl rfl (fun w h => uw_of w (u_Ln w h)) 0 (by decide) (uw_of _ k_54) rfl d_Ln_valueAt_51 ?_
          refine lv_iload_n hx hb d_Ln_valueAt_54 rfl (lv_at hl 0 rfl) ?_
          refine b_iald (i := i) hm hw 1 0 rfl rfl (by omega) (by omega) d_Ln_valueAt_55 ?_
          refine lv_iload_n hx hb d_Ln_valueAt_56 rfl (lv_at hl 2 rfl) ?_
          refine lv_icmp_ne (tgt := 69) hx hb d_Ln_valueAt_57 (by decide) (fun c_57_3 => ?_) (fun c_57_3 => ?_)
          · skip
            have hi1 : 1 ≤ i := by grind
            refine lv_aload_n hx hb d_Ln_valueAt_69 rfl (lv_at hl 1 rfl) ?_
            refine lv_iload_n hx hb d_Ln_valueAt_70 rfl (lv_at hl 0 rfl) ?_
            refine lv_iconst (v := nI 1) hx hb d_Ln_valueAt_71 (by decide) ?_
            refine lv_isub hx hb d_Ln_valueAt_72 ?_
            refine b_ti (pk_sub (a := i) (b := 1) (by omega)) ?_
            refine lv_iload_n hx hb d_Ln_valueAt_73 rfl (lv_at hl 2 rfl) ?_
            refine lv_iload_n hx hb d_Ln_valueAt_74 rfl (lv_at hl 3 rfl) ?_
            refine b_goi (wr := []) (b_runV (wc := [(q, .inr (2, [.ref w, .ref v, .int (nI z)])), (w, .inl (k 0, n, .inl F)), (v, .inl (k 0, n, .inl G))]) (As := [.int (nI (i - 1)), .int x, .int up]) (rest := []) (q0 := 0) hm hw (cwV 3 hts (gV uw_of k_246 k_243 k_245 (mp 2 rfl rfl) k_5) rfl rfl rfl (by decide +kernel) ⟨by decide, by decide⟩) (c_Ln_between l D k _ q w v n F G z (i - 1) x up (by omega) hn) [0, 1, 2] (by decide) rfl rfl rfl rfl hl.1 rfl (Nat.le_of_ble_eq_true rfl) d_Ln_valueAt_75 ⟨by decide, by decide⟩) hw [0, 1, 2] [] rfl rfl (by decide) (by decide) (fun r _ H locs hp hw => ?_)
            have hw : bW (gU D k) A s H locs [(q, .inr (2, [.ref w, .ref v, .int (nI z)])), (w, .inl (k 0, n, .inl F)), (v, .inl (k 0, n, .inl G))] := hw.sub [0, 1, 2] (by decide) rfl
            exact b_iret () hm hw ⟨i, by unfold lnAt; grind, by unfold lnRes; grind⟩ d_Ln_valueAt_78
          · skip
            refine lv_aload_n hx hb d_Ln_valueAt_60 rfl (lv_at hl 1 rfl) ?_
            refine b_get (T := F_Ln) hm hw 0 rfl rfl (fun w h => uw_of w (u_Ln w h)) 1 (by decide) (uw_of _ k_55) rfl d_Ln_valueAt_61 ?_
            refine lv_iload_n hx hb d_Ln_valueAt_64 rfl (lv_at hl 0 rfl) ?_
            refine b_iald (i := i) hm hw 2 0 rfl rfl (by omega) (by omega) d_Ln_valueAt_65 ?_
            refine lv_goto (tgt := 78) hx hb d_Ln_valueAt_66 (by decide) ?_
            exact b_iret () hm hw ⟨i, by unfold lnAt; grind, by unfold lnRes; grind⟩ d_Ln_valueAt_78
        · skip
          have h_35_2 : i = 0 := yeq0 c_35_2 (by omega) (by omega)
          refine lv_aload_n hx hb d_Ln_valueAt_38 rfl (lv_at hl 1 rfl) ?_
          refine b_get (T := F_Ln) hm hw 0 rfl rfl (fun w h => uw_of w (u_Ln w h)) 0 (by decide) (uw_of _ k_54) rfl d_Ln_valueAt_39 ?_
          refine lv_iconst (v := nI 0) hx hb d_Ln_valueAt_42 (by decide) ?_
          refine b_iald (i := 0) hm hw 1 0 rfl rfl (by omega) (by omega) d_Ln_valueAt_43 ?_
          refine lv_iload_n hx hb d_Ln_valueAt_44 rfl (lv_at hl 2 rfl) ?_
          refine lv_icmp_eq (tgt := 50) hx hb d_Ln_valueAt_45 (by decide) (fun c_45_4 => ?_) (fun c_45_4 => ?_)
          · skip
            refine lv_aload_n hx hb d_Ln_valueAt_50 rfl (lv_at hl 1 rfl) ?_
            refine b_get (T := F_Ln) hm hw 0 rfl rfl (fun w h => uw_of w (u_Ln w h)) 0 (by decide) (uw_of _ k_54) rfl d_Ln_valueAt_51 ?_
            refine lv_iload_n hx hb d_Ln_valueAt_54 rfl (lv_at hl 0 rfl) ?_
            refine b_iald (i := i) hm hw 1 0 rfl rfl (by omega) (by omega) d_Ln_valueAt_55 ?_
            refine lv_iload_n hx hb d_Ln_valueAt_56 rfl (lv_at hl 2 rfl) ?_
            refine lv_icmp_ne (tgt := 69) hx hb d_Ln_valueAt_57 (by decide) (fun c_57_5 => ?_) (fun c_57_5 => ?_)
            · skip
              have hi1 : 1 ≤ i := by grind
              refine lv_aload_n hx hb d_Ln_valueAt_69 rfl (lv_at hl 1 rfl) ?_
              refine lv_iload_n hx hb d_Ln_valueAt_70 rfl (lv_at hl 0 rfl) ?_
              refine lv_iconst (v := nI 1) hx hb d_Ln_valueAt_71 (by decide) ?_
              refine lv_isub hx hb d_Ln_valueAt_72 ?_
              refine b_ti (pk_sub (a := i) (b := 1) (by omega)) ?_
              refine lv_iload_n hx hb d_Ln_valueAt_73 rfl (lv_at hl 2 rfl) ?_
              refine lv_iload_n hx hb d_Ln_valueAt_74 rfl (lv_at hl 3 rfl) ?_
              refine b_goi (wr := []) (b_runV (wc := [(q, .inr (2, [.ref w, .ref v, .int (nI z)])), (w, .inl (k 0, n, .inl F)), (v, .inl (k 0, n, .inl G))]) (As := [.int (nI (i - 1)), .int x, .int up]) (rest := []) (q0 := 0) hm hw (cwV 3 hts (gV uw_of k_246 k_243 k_245 (mp 2 rfl rfl) k_5) rfl rfl rfl (by decide +kernel) ⟨by decide, by decide⟩) (c_Ln_between l D k _ q w v n F G z (i - 1) x up (by omega) hn) [0, 1, 2] (by decide) rfl rfl rfl rfl hl.1 rfl (Nat.le_of_ble_eq_true rfl) d_Ln_valueAt_75 ⟨by decide, by decide⟩) hw [0, 1, 2] [] rfl rfl (by decide) (by decide) (fun r _ H locs hp hw => ?_)
              have hw : bW (gU D k) A s H locs [(q, .inr (2, [.ref w, .ref v, .int (nI z)])), (w, .inl (k 0, n, .inl F)), (v, .inl (k 0, n, .inl G))] := hw.sub [0, 1, 2] (by decide) rfl
              exact b_iret () hm hw ⟨i, by unfold lnAt; grind, by unfold lnRes; grind⟩ d_Ln_valueAt_78
            · skip
              refine lv_aload_n hx hb d_Ln_valueAt_60 rfl (lv_at hl 1 rfl) ?_
              refine b_get (T := F_Ln) hm hw 0 rfl rfl (fun w h => uw_of w (u_Ln w h)) 1 (by decide) (uw_of _ k_55) rfl d_Ln_valueAt_61 ?_
              refine lv_iload_n hx hb d_Ln_valueAt_64 rfl (lv_at hl 0 rfl) ?_
              refine b_iald (i := i) hm hw 2 0 rfl rfl (by omega) (by omega) d_Ln_valueAt_65 ?_
              refine lv_goto (tgt := 78) hx hb d_Ln_valueAt_66 (by decide) ?_
              exact b_iret () hm hw ⟨i, by unfold lnAt; grind, by unfold lnRes; grind⟩ d_Ln_valueAt_78
          · skip
            refine lv_iconst (v := (-1)) hx hb d_Ln_valueAt_48 (by decide) ?_
            exact b_iret () hm hw ⟨i, by unfold lnAt; grind, by unfold lnRes; grind⟩ d_Ln_valueAt_49
    · skip
      have h_7_0 : i < z := yltN c_7_0 (by omega) (by omega)
      refine lv_aload_n hx hb d_Ln_valueAt_10 rfl (lv_at hl 1 rfl) ?_
      refine b_get (T := F_Ln) hm hw 0 rfl rfl (fun w h => uw_of w (u_Ln w h)) 0 (by decide) (uw_of _ k_54) rfl d_Ln_valueAt_11 ?_
      refine lv_iload_n hx hb d_Ln_valueAt_14 rfl (lv_at hl 0 rfl) ?_
      refine b_iald (i := i) hm hw 1 0 rfl rfl (by omega) (by omega) d_Ln_valueAt_15 ?_
      refine lv_iload_n hx hb d_Ln_valueAt_16 rfl (lv_at hl 2 rfl) ?_
      refine lv_icmp_ge (tgt := 26) hx hb d_Ln_valueAt_17 (by decide) (fun c_17_6 => ?_) (fun c_17_6 => ?_)
      · skip
        refine lv_iload_n hx hb d_Ln_valueAt_26 rfl (lv_at hl 0 rfl) ?_
        refine lv_aload_n hx hb d_Ln_valueAt_27 rfl (lv_at hl 1 rfl) ?_
        refine b_get (T := F_Ln) hm hw 0 rfl rfl (fun w h => uw_of w (u_Ln w h)) 2 (by decide) (uw_of _ k_56) rfl d_Ln_valueAt_28 ?_
        refine lv_icmp_eq (tgt := 48) hx hb d_Ln_valueAt_31 (by decide) (fun c_31_7 => ?_) (fun c_31_7 => ?_)
        · skip
          have h_31_7 : i = z := yeq c_31_7 (by omega) (by omega)
          refine lv_iconst (v := (-1)) hx hb d_Ln_valueAt_48 (by decide) ?_
          exact b_iret () hm hw ⟨i, by unfold lnAt; grind, by unfold lnRes; grind⟩ d_Ln_valueAt_49
        · skip
          have h_31_7 : i ≠ z := yneN c_31_7 (by omega) (by omega)
          refine lv_iload_n hx hb d_Ln_valueAt_34 rfl (lv_at hl 0 rfl) ?_
          refine lv_if_ne (tgt := 50) hx hb d_Ln_valueAt_35 (by decide) (fun c_35_8 => ?_) (fun c_35_8 => ?_)
          · skip
            have h_35_8 : i ≠ 0 := yne0 c_35_8 (by omega) (by omega)
            refine lv_aload_n hx hb d_Ln_valueAt_50 rfl (lv_at hl 1 rfl) ?_
            refine b_get (T := F_Ln) hm hw 0 rfl rfl (fun w h => uw_of w (u_Ln w h)) 0 (by decide) (uw_of _ k_54) rfl d_Ln_valueAt_51 ?_
            refine lv_iload_n hx hb d_Ln_valueAt_54 rfl (lv_at hl 0 rfl) ?_
            refine b_iald (i := i) hm hw 1 0 rfl rfl (by omega) (by omega) d_Ln_valueAt_55 ?_
            refine lv_iload_n hx hb d_Ln_valueAt_56 rfl (lv_at hl 2 rfl) ?_
            refine lv_icmp_ne (tgt := 69) hx hb d_Ln_valueAt_57 (by decide) (fun c_57_9 => ?_) (fun c_57_9 => ?_)
            · skip
              have hi1 : 1 ≤ i := by grind
              refine lv_aload_n hx hb d_Ln_valueAt_69 rfl (lv_at hl 1 rfl) ?_
              refine lv_iload_n hx hb d_Ln_valueAt_70 rfl (lv_at hl 0 rfl) ?_
              refine lv_iconst (v := nI 1) hx hb d_Ln_valueAt_71 (by decide) ?_
              refine lv_isub hx hb d_Ln_valueAt_72 ?_
              refine b_ti (pk_sub (a := i) (b := 1) (by omega)) ?_
              refine lv_iload_n hx hb d_Ln_valueAt_73 rfl (lv_at hl 2 rfl) ?_
              refine lv_iload_n hx hb d_Ln_valueAt_74 rfl (lv_at hl 3 rfl) ?_
              refine b_goi (wr := []) (b_runV (wc := [(q, .inr (2, [.ref w, .ref v, .int (nI z)])), (w, .inl (k 0, n, .inl F)), (v, .inl (k 0, n, .inl G))]) (As := [.int (nI (i - 1)), .int x, .int up]) (rest := []) (q0 := 0) hm hw (cwV 3 hts (gV uw_of k_246 k_243 k_245 (mp 2 rfl rfl) k_5) rfl rfl rfl (by decide +kernel) ⟨by decide, by decide⟩) (c_Ln_between l D k _ q w v n F G z (i - 1) x up (by omega) hn) [0, 1, 2] (by decide) rfl rfl rfl rfl hl.1 rfl (Nat.le_of_ble_eq_true rfl) d_Ln_valueAt_75 ⟨by decide, by decide⟩) hw [0, 1, 2] [] rfl rfl (by decide) (by decide) (fun r _ H locs hp hw => ?_)
              have hw : bW (gU D k) A s H locs [(q, .inr (2, [.ref w, .ref v, .int (nI z)])), (w, .inl (k 0, n, .inl F)), (v, .inl (k 0, n, .inl G))] := hw.sub [0, 1, 2] (by decide) rfl
              exact b_iret () hm hw ⟨i, by unfold lnAt; grind, by unfold lnRes; grind⟩ d_Ln_valueAt_78
            · skip
              refine lv_aload_n hx hb d_Ln_valueAt_60 rfl (lv_at hl 1 rfl) ?_
              refine b_get (T := F_Ln) hm hw 0 rfl rfl (fun w h => uw_of w (u_Ln w h)) 1 (by decide) (uw_of _ k_55) rfl d_Ln_valueAt_61 ?_
              refine lv_iload_n hx hb d_Ln_valueAt_64 rfl (lv_at hl 0 rfl) ?_
              refine b_iald (i := i) hm hw 2 0 rfl rfl (by omega) (by omega) d_Ln_valueAt_65 ?_
              refine lv_goto (tgt := 78) hx hb d_Ln_valueAt_66 (by decide) ?_
              exact b_iret () hm hw ⟨i, by unfold lnAt; grind, by unfold lnRes; grind⟩ d_Ln_valueAt_78
          · skip
            have h_35_8 : i = 0 := yeq0 c_35_8 (by omega) (by omega)
            refine lv_aload_n hx hb d_Ln_valueAt_38 rfl (lv_at hl 1 rfl) ?_
            refine b_get (T := F_Ln) hm hw 0 rfl rfl (fun w h => uw_of w (u_Ln w h)) 0 (by decide) (uw_of _ k_54) rfl d_Ln_valueAt_39 ?_
            refine lv_iconst (v := nI 0) hx hb d_Ln_valueAt_42 (by decide) ?_
            refine b_iald (i := 0) hm hw 1 0 rfl rfl (by omega) (by omega) d_Ln_valueAt_43 ?_
            refine lv_iload_n hx hb d_Ln_valueAt_44 rfl (lv_at hl 2 rfl) ?_
            refine lv_icmp_eq (tgt := 50) hx hb d_Ln_valueAt_45 (by decide) (fun c_45_10 => ?_) (fun c_45_10 => ?_)
            · skip
              refine lv_aload_n hx hb d_Ln_valueAt_50 rfl (lv_at hl 1 rfl) ?_
              refine b_get (T := F_Ln) hm hw 0 rfl rfl (fun w h => uw_of w (u_Ln w h)) 0 (by decide) (uw_of _ k_54) rfl d_Ln_valueAt_51 ?_
              refine lv_iload_n hx hb d_Ln_valueAt_54 rfl (lv_at hl 0 rfl) ?_
              refine b_iald (i := i) hm hw 1 0 rfl rfl (by omega) (by omega) d_Ln_valueAt_55 ?_
              refine lv_iload_n hx hb d_Ln_valueAt_56 rfl (lv_at hl 2 rfl) ?_
              refine lv_icmp_ne (tgt := 69) hx hb d_Ln_valueAt_57 (by decide) (fun c_57_11 => ?_) (fun c_57_11 => ?_)
              · skip
                have hi1 : 1 ≤ i := by grind
                refine lv_aload_n hx hb d_Ln_valueAt_69 rfl (lv_at hl 1 rfl) ?_
                refine lv_iload_n hx hb d_Ln_valueAt_70 rfl (lv_at hl 0 rfl) ?_
                refine lv_iconst (v := nI 1) hx hb d_Ln_valueAt_71 (by decide) ?_
                refine lv_isub hx hb d_Ln_valueAt_72 ?_
                refine b_ti (pk_sub (a := i) (b := 1) (by omega)) ?_
                refine lv_iload_n hx hb d_Ln_valueAt_73 rfl (lv_at hl 2 rfl) ?_
                refine lv_iload_n hx hb d_Ln_valueAt_74 rfl (lv_at hl 3 rfl) ?_
                refine b_goi (wr := []) (b_runV (wc := [(q, .inr (2, [.ref w, .ref v, .int (nI z)])), (w, .inl (k 0, n, .inl F)), (v, .inl (k 0, n, .inl G))]) (As := [.int (nI (i - 1)), .int x, .int up]) (rest := []) (q0 := 0) hm hw (cwV 3 hts (gV uw_of k_246 k_243 k_245 (mp 2 rfl rfl) k_5) rfl rfl rfl (by decide +kernel) ⟨by decide, by decide⟩) (c_Ln_between l D k _ q w v n F G z (i - 1) x up (by omega) hn) [0, 1, 2] (by decide) rfl rfl rfl rfl hl.1 rfl (Nat.le_of_ble_eq_true rfl) d_Ln_valueAt_75 ⟨by decide, by decide⟩) hw [0, 1, 2] [] rfl rfl (by decide) (by decide) (fun r _ H locs hp hw => ?_)
                have hw : bW (gU D k) A s H locs [(q, .inr (2, [.ref w, .ref v, .int (nI z)])), (w, .inl (k 0, n, .inl F)), (v, .inl (k 0, n, .inl G))] := hw.sub [0, 1, 2] (by decide) rfl
                exact b_iret () hm hw ⟨i, by unfold lnAt; grind, by unfold lnRes; grind⟩ d_Ln_valueAt_78
              · skip
                refine lv_aload_n hx hb d_Ln_valueAt_60 rfl (lv_at hl 1 rfl) ?_
                refine b_get (T := F_Ln) hm hw 0 rfl rfl (fun w h => uw_of w (u_Ln w h)) 1 (by decide) (uw_of _ k_55) rfl d_Ln_valueAt_61 ?_
                refine lv_iload_n hx hb d_Ln_valueAt_64 rfl (lv_at hl 0 rfl) ?_
                refine b_iald (i := i) hm hw 2 0 rfl rfl (by omega) (by omega) d_Ln_valueAt_65 ?_
                refine lv_goto (tgt := 78) hx hb d_Ln_valueAt_66 (by decide) ?_
                exact b_iret () hm hw ⟨i, by unfold lnAt; grind, by unfold lnRes; grind⟩ d_Ln_valueAt_78
            · skip
              refine lv_iconst (v := (-1)) hx hb d_Ln_valueAt_48 (by decide) ?_
              exact b_iret () hm hw ⟨i, by unfold lnAt; grind, by unfold lnRes; grind⟩ d_Ln_valueAt_49
      · skip
        refine lv_iinc (v := nI (i + 1)) (lv' := [(3, .int (nI (i + 1))), (0, .ref q), (1, .int x), (2, .int up)]) hx hb d_Ln_valueAt_20 hl (k := 0) rfl (nI_add i 1) (by decide) rfl (fun ls hl => ?_)
        refine lv_goto (tgt := 2) hx hb d_Ln_valueAt_23 (by decide) ?_
        exact ih (i + 1) (by omega) (by omega) (lt_s hj (Int32.not_le.mp (by assumption))) H locs ls hw (lv_sub hl [0, 1, 2, 3] rfl)

set_option maxHeartbeats 4000000 in
set_option maxRecDepth 100000 in
theorem c_Ln_valueAt (l : Launch) (D : va_G) (k : Nat → ClassId) (sz : Nat) (q w v n : Nat) (F G : Nat → Int32) (z : Nat) (x up : Int32) (hz : z ≤ n) (hn : n < 2147483648) : Met l y_Ln_valueAt (uw y_Ln_valueAt b_Ln_valueAt 4 (some .int)) (rU 2 0 0) (va_Pc [.ref q, .int x, .int up] (bP (gU D k) [(q, .inr (2, [.ref w, .ref v, .int (nI z)])), (w, .inl (k 0, n, .inl F)), (v, .inl (k 0, n, .inl G))] sz)) (va_Qi (fun (r : Int32) (_ : Unit) => ∃ i, lnAt F z x i ∧ r = lnRes F G z x up i) (fun u => bQ (gU D k) (va_A [(q, .inr (2, [.ref w, .ref v, .int (nI z)])), (w, .inl (k 0, n, .inl F)), (v, .inl (k 0, n, .inl G))] sz) ([(q, .inr (2, [.ref w, .ref v, .int (nI z)])), (w, .inl (k 0, n, .inl F)), (v, .inl (k 0, n, .inl G))])) (va_A [(q, .inr (2, [.ref w, .ref v, .int (nI z)])), (w, .inl (k 0, n, .inl F)), (v, .inl (k 0, n, .inl G))] sz)) (rU 2 0 0).cells (rU 2 0 0).slots (va_A [(q, .inr (2, [.ref w, .ref v, .int (nI z)])), (w, .inl (k 0, n, .inl F)), (v, .inl (k 0, n, .inl G))] sz) := by
  refine b_start (Qc := fun A => va_Qi (fun (r : Int32) (_ : Unit) => ∃ i, lnAt F z x i ∧ r = lnRes F G z x up i) (fun u => bQ (gU D k) A ([(q, .inr (2, [.ref w, .ref v, .int (nI z)])), (w, .inl (k 0, n, .inl F)), (v, .inl (k 0, n, .inl G))])) A) (by decide +kernel) (Nat.le_of_ble_eq_true rfl) ?_
  intro p e s m below meth c A hm hnm hw ls hl
  have hl : lv_has ls 4 [(0, .ref q), (1, .int x), (2, .int up)] := hl
  have hx := hm.1
  have hb := hm.2.1
  have hown := hm.2.2.2.2.1
  have hts := hm.2.2.2.2.2.1
  refine lv_iconst (v := nI 0) hx hb d_Ln_valueAt_0 (by decide) ?_
  refine lv_istore_n (lv' := [(3, .int (nI 0)), (0, .ref q), (1, .int x), (2, .int up)]) hx hb d_Ln_valueAt_1 rfl hl (by decide) rfl (fun ls hl => ?_)
  exact lp_Ln_valueAt hz hn hm hnm (z + 1) 0 (by omega) (by omega) (fun j hj => absurd hj (by omega)) _ _ ls hw (lv_sub hl [0, 1, 2, 3] rfl)
