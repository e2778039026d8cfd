def lnRoom (n : Nat) (F : Nat → Int32) (z : Nat) (x : Int32) : Prop := z < n ∧ (z = 0 ∨ F (z - 1) < x)
set_option maxHeartbeats 4000000 in
set_option maxRecDepth 100000 in
theorem c_Ln_hasRoomAt (l : Launch) (D : va_G) (k : Nat → ClassId) (sz : Nat) (q w v n : Nat) (F G : Nat → Int32) (z : Nat) (x : Int32) (hz : z ≤ n) (hn : n < 2147483648) : Met l y_Ln_hasRoomAt (uw y_Ln_hasRoomAt b_Ln_hasRoomAt 2 (some .boolean)) (rU 0 0 0) (va_Pc [.ref q, .int x] (bP (gU D k) [(q, .inr (2, [.ref w, .ref v, .int (nI z)])), (w, .inl (k 0, n, .inl F)), (v, .inl (k 0, n, .inl G))] sz)) (va_Qi (fun (r : Int32) (_ : Unit) => (r = 1 ∧ lnRoom n F z x) ∨ (r = 0 ∧ ¬ lnRoom n F z x)) (fun u => bQ (gU D k) (va_A [(q, .inr (2, [.ref w, .ref v, .int (nI z)])), (w, .inl (k 0, n, .inl F)), (v, .inl (k 0, n, .inl G))] sz) ([(q, .inr (2, [.ref w, .ref v, .int (nI z)])), (w, .inl (k 0, n, .inl F)), (v, .inl (k 0, n, .inl G))])) (va_A [(q, .inr (2, [.ref w, .ref v, .int (nI z)])), (w, .inl (k 0, n, .inl F)), (v, .inl (k 0, n, .inl G))] sz)) (rU 0 0 0).cells (rU 0 0 0).slots (va_A [(q, .inr (2, [.ref w, .ref v, .int (nI z)])), (w, .inl (k 0, n, .inl F)), (v, .inl (k 0, n, .inl G))] sz) := by
  refine b_start (Qc := fun A => va_Qi (fun (r : Int32) (_ : Unit) => (r = 1 ∧ lnRoom n F z x) ∨ (r = 0 ∧ ¬ lnRoom n F z x)) (fun u => bQ (gU D k) A ([(q, .inr (2, [.ref w, .ref v, .int (nI z)])), (w, .inl (k 0, n, .inl F)), (v, .inl (k 0, n, .inl G))])) A) (by decide) (by decide) ?_
  intro p e s m below meth c A hm hnm hw ls hl
  have hl : lv_has ls 2 [(0, .ref q), (1, .int x)] := hl
  have hx := hm.1
  have hb := hm.2.1
  have hown := hm.2.2.2.2.1
  have hts := hm.2.2.2.2.2.1
  refine lv_aload_n hx hb d_Ln_hasRoomAt_0 rfl (lv_at hl 0 rfl) ?_
  refine b_get (T := F_Ln) hm hw 0 rfl rfl (fun w h => uw_of w (u_Ln w h)) 2 (by decide) (uw_of _ k_50) rfl d_Ln_hasRoomAt_1 ?_
  refine lv_aload_n hx hb d_Ln_hasRoomAt_4 rfl (lv_at hl 0 rfl) ?_
  refine b_get (T := F_Ln) hm hw 0 rfl rfl (fun w h => uw_of w (u_Ln w h)) 1 (by decide) (uw_of _ k_49) rfl d_Ln_hasRoomAt_5 ?_
  refine b_alen hm hw 2 0 rfl rfl d_Ln_hasRoomAt_8 ?_
  refine lv_icmp_ge (tgt := 38) hx hb d_Ln_hasRoomAt_9 (by decide) (fun c_9_0 => ?_) (fun c_9_0 => ?_)
  · skip
    have h_9_0 : n ≤ z := yge c_9_0 (by omega) (by omega)
    refine lv_iconst (v := nI 0) hx hb d_Ln_hasRoomAt_38 (by decide) ?_
    exact b_zret () hm hw (Or.inl rfl) (Or.inr ⟨rfl, by unfold lnRoom; grind⟩) d_Ln_hasRoomAt_39
  · skip
    have h_9_0 : z < n := yltN c_9_0 (by omega) (by omega)
    refine lv_aload_n hx hb d_Ln_hasRoomAt_12 rfl (lv_at hl 0 rfl) ?_
    refine b_get (T := F_Ln) hm hw 0 rfl rfl (fun w h => uw_of w (u_Ln w h)) 2 (by decide) (uw_of _ k_50) rfl d_Ln_hasRoomAt_13 ?_
    refine lv_if_eq (tgt := 34) hx hb d_Ln_hasRoomAt_16 (by decide) (fun c_16_1 => ?_) (fun c_16_1 => ?_)
    · skip
      have h_16_1 : z = 0 := yeq0 c_16_1 (by omega) (by omega)
      refine lv_iconst (v := nI 1) hx hb d_Ln_hasRoomAt_34 (by decide) ?_
      refine lv_goto (tgt := 39) hx hb d_Ln_hasRoomAt_35 (by decide) ?_
      exact b_zret () hm hw (Or.inr rfl) (Or.inl ⟨rfl, by unfold lnRoom; grind⟩) d_Ln_hasRoomAt_39
    · skip
      have h_16_1 : z ≠ 0 := yneN0 c_16_1 (by omega) (by omega)
      refine lv_iload_n hx hb d_Ln_hasRoomAt_19 rfl (lv_at hl 1 rfl) ?_
      refine lv_aload_n hx hb d_Ln_hasRoomAt_20 rfl (lv_at hl 0 rfl) ?_
      refine b_get (T := F_Ln) hm hw 0 rfl rfl (fun w h => uw_of w (u_Ln w h)) 0 (by decide) (uw_of _ k_48) rfl d_Ln_hasRoomAt_21 ?_
      refine lv_aload_n hx hb d_Ln_hasRoomAt_24 rfl (lv_at hl 0 rfl) ?_
      refine b_get (T := F_Ln) hm hw 0 rfl rfl (fun w h => uw_of w (u_Ln w h)) 2 (by decide) (uw_of _ k_50) rfl d_Ln_hasRoomAt_25 ?_
      refine lv_iconst (v := nI 1) hx hb d_Ln_hasRoomAt_28 (by decide) ?_
      refine lv_isub hx hb d_Ln_hasRoomAt_29 ?_
      refine b_ti (pk_sub (a := z) (b := 1) (by omega)) ?_
      refine b_iald (i := z - 1) hm hw 1 0 rfl rfl (by omega) (by omega) d_Ln_hasRoomAt_30 ?_
      refine lv_icmp_le (tgt := 38) hx hb d_Ln_hasRoomAt_31 (by decide) (fun c_31_2 => ?_) (fun c_31_2 => ?_)
      · skip
        refine lv_iconst (v := nI 0) hx hb d_Ln_hasRoomAt_38 (by decide) ?_
        exact b_zret () hm hw (Or.inl rfl) (Or.inr ⟨rfl, by unfold lnRoom; grind⟩) d_Ln_hasRoomAt_39
      · skip
        refine lv_iconst (v := nI 1) hx hb d_Ln_hasRoomAt_34 (by decide) ?_
        refine lv_goto (tgt := 39) hx hb d_Ln_hasRoomAt_35 (by decide) ?_
        exact b_zret () hm hw (Or.inr rfl) (Or.inl ⟨rfl, by unfold lnRoom; grind⟩) d_Ln_hasRoomAt_39
